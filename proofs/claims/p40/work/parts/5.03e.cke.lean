/-! the checks, 14 -/
set_option maxRecDepth 100000 in
theorem am_k202_160 : am_cks 202 160 80 = true := by decide +kernel
set_option maxRecDepth 100000 in
theorem am_k202_240 : am_cks 202 240 80 = true := by decide +kernel
