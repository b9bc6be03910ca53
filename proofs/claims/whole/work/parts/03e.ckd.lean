/-! the checks of the law -/
set_option maxRecDepth 100000 in
theorem am_k228_1360 : am_cks 228 1360 40 = true := by decide +kernel
set_option maxRecDepth 100000 in
theorem am_k228_1400 : am_cks 228 1400 40 = true := by decide +kernel
