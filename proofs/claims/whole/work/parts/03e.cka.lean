/-! the checks of the law -/
set_option maxRecDepth 100000 in
theorem am_k228_1280 : am_cks 228 1280 80 = true := by decide +kernel
set_option maxRecDepth 100000 in
theorem am_k228_1360 : am_cks 228 1360 80 = true := by decide +kernel
