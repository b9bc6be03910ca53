/-! the checks, 20 -/
set_option maxRecDepth 100000 in
theorem am_k228_480 : am_cks 228 480 80 = true := by decide +kernel
set_option maxRecDepth 100000 in
theorem am_k228_560 : am_cks 228 560 80 = true := by decide +kernel
