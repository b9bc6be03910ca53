/-! the checks, 12 -/
set_option maxRecDepth 100000 in
theorem am_k201_320 : am_cks 201 320 80 = true := by decide +kernel
set_option maxRecDepth 100000 in
theorem am_k201_400 : am_cks 201 400 80 = true := by decide +kernel
