/-! the checks, 10 -/
set_option maxRecDepth 100000 in
theorem am_k200_80 : am_cks 200 80 80 = true := by decide +kernel
set_option maxRecDepth 100000 in
theorem am_k201_0 : am_cks 201 0 80 = true := by decide +kernel
set_option maxRecDepth 100000 in
theorem am_k201_80 : am_cks 201 80 80 = true := by decide +kernel
