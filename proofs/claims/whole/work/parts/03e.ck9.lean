/-! the checks of the law -/
set_option maxRecDepth 100000 in
theorem am_k228_1040 : am_cks 228 1040 40 = true := by decide +kernel
set_option maxRecDepth 100000 in
theorem am_k228_1080 : am_cks 228 1080 40 = true := by decide +kernel
