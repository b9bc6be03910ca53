/-! the checks, 18 -/
set_option maxRecDepth 100000 in
theorem am_k228_160 : am_cks 228 160 80 = true := by decide +kernel
set_option maxRecDepth 100000 in
theorem am_k228_240 : am_cks 228 240 80 = true := by decide +kernel
