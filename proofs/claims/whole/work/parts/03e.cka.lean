/-! the checks of the law -/
set_option maxRecDepth 100000 in
theorem am_k228_1120 : am_cks 228 1120 40 = true := by decide +kernel
set_option maxRecDepth 100000 in
theorem am_k228_1160 : am_cks 228 1160 40 = true := by decide +kernel
