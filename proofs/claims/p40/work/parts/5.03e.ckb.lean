/-! the checks, 11 -/
set_option maxRecDepth 100000 in
theorem am_k201_160 : am_cks 201 160 80 = true := by decide +kernel
set_option maxRecDepth 100000 in
theorem am_k201_240 : am_cks 201 240 80 = true := by decide +kernel
