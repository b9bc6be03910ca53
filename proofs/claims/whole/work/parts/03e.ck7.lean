/-! the checks of the law -/
set_option maxRecDepth 100000 in
theorem am_k228_800 : am_cks 228 800 80 = true := by decide +kernel
set_option maxRecDepth 100000 in
theorem am_k228_880 : am_cks 228 880 80 = true := by decide +kernel
