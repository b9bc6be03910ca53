/-! the checks, 8 -/
set_option maxRecDepth 100000 in
theorem am_k203_160 : am_cks 203 160 80 = true := by decide +kernel
set_option maxRecDepth 100000 in
theorem am_k203_240 : am_cks 203 240 80 = true := by decide +kernel
set_option maxRecDepth 100000 in
theorem am_k228_0 : am_cks 228 0 80 = true := by decide +kernel
set_option maxRecDepth 100000 in
theorem am_k228_80 : am_cks 228 80 80 = true := by decide +kernel
