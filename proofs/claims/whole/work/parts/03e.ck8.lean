/-! the checks of the law -/
set_option maxRecDepth 100000 in
theorem am_k228_960 : am_cks 228 960 40 = true := by decide +kernel
set_option maxRecDepth 100000 in
theorem am_k228_1000 : am_cks 228 1000 40 = true := by decide +kernel
