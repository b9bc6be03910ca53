/-! the checks, 15 -/
set_option maxRecDepth 100000 in
theorem am_k203_0 : am_cks 203 0 80 = true := by decide +kernel
set_option maxRecDepth 100000 in
theorem am_k203_80 : am_cks 203 80 80 = true := by decide +kernel
