/-! the checks, 16 -/
set_option maxRecDepth 100000 in
theorem am_k203_160 : am_cks 203 160 80 = true := by decide +kernel
set_option maxRecDepth 100000 in
theorem am_k203_240 : am_cks 203 240 80 = true := by decide +kernel
