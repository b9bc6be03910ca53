/-! the checks of the law -/
set_option maxRecDepth 100000 in
theorem am_k228_1120 : am_cks 228 1120 80 = true := by decide +kernel
set_option maxRecDepth 100000 in
theorem am_k228_1200 : am_cks 228 1200 80 = true := by decide +kernel
