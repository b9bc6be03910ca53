/-! the checks, 13 -/
set_option maxRecDepth 100000 in
theorem am_k202_0 : am_cks 202 0 80 = true := by decide +kernel
set_option maxRecDepth 100000 in
theorem am_k202_80 : am_cks 202 80 80 = true := by decide +kernel
