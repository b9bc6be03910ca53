/-! the checks, 14 -/
set_option maxRecDepth 100000 in
theorem am_k199_16 : am_cks 199 16 16 = true := by decide +kernel
set_option maxRecDepth 100000 in
theorem am_k199_0 : am_cks 199 0 16 = true := by decide +kernel
set_option maxRecDepth 100000 in
theorem am_k198_0 : am_cks 198 0 16 = true := by decide +kernel
set_option maxRecDepth 100000 in
theorem am_k197_0 : am_cks 197 0 16 = true := by decide +kernel
set_option maxRecDepth 100000 in
theorem am_k0_0 : am_cks 0 0 80 = true := by decide +kernel
set_option maxRecDepth 100000 in
theorem am_k1_0 : am_cks 1 0 80 = true := by decide +kernel
set_option maxRecDepth 100000 in
theorem am_k2_0 : am_cks 2 0 80 = true := by decide +kernel
set_option maxRecDepth 100000 in
theorem am_k3_0 : am_cks 3 0 80 = true := by decide +kernel
set_option maxRecDepth 100000 in
theorem am_k4_0 : am_cks 4 0 80 = true := by decide +kernel
set_option maxRecDepth 100000 in
theorem am_k5_0 : am_cks 5 0 80 = true := by decide +kernel
set_option maxRecDepth 100000 in
theorem am_k6_0 : am_cks 6 0 80 = true := by decide +kernel
set_option maxRecDepth 100000 in
theorem am_k7_0 : am_cks 7 0 80 = true := by decide +kernel
set_option maxRecDepth 100000 in
theorem am_k8_0 : am_cks 8 0 80 = true := by decide +kernel
