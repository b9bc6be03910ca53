/-! the checks of the law -/
set_option maxRecDepth 100000 in
theorem am_k228_1200 : am_cks 228 1200 40 = true := by decide +kernel
set_option maxRecDepth 100000 in
theorem am_k228_1240 : am_cks 228 1240 40 = true := by decide +kernel
