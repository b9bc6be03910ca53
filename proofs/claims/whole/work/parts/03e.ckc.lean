/-! the checks of the law -/
set_option maxRecDepth 100000 in
theorem am_k228_1280 : am_cks 228 1280 40 = true := by decide +kernel
set_option maxRecDepth 100000 in
theorem am_k228_1320 : am_cks 228 1320 40 = true := by decide +kernel
