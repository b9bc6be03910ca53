/-! the checks, 19 -/
set_option maxRecDepth 100000 in
theorem am_k228_320 : am_cks 228 320 80 = true := by decide +kernel
set_option maxRecDepth 100000 in
theorem am_k228_400 : am_cks 228 400 80 = true := by decide +kernel
