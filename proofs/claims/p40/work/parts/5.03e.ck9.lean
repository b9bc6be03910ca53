/-! the checks, 9 -/
set_option maxRecDepth 100000 in
theorem am_k199_80 : am_cks 199 80 80 = true := by decide +kernel
set_option maxRecDepth 100000 in
theorem am_k199_160 : am_cks 199 160 80 = true := by decide +kernel
set_option maxRecDepth 100000 in
theorem am_k200_0 : am_cks 200 0 80 = true := by decide +kernel
