/-! the checks, 17 -/
set_option maxRecDepth 100000 in
theorem am_k228_0 : am_cks 228 0 80 = true := by decide +kernel
set_option maxRecDepth 100000 in
theorem am_k228_80 : am_cks 228 80 80 = true := by decide +kernel
