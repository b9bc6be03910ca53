/-! the checks, 0 -/
set_option maxRecDepth 100000 in
theorem am_k0_0 : am_cks 0 0 80 = true := by decide +kernel
set_option maxRecDepth 100000 in
theorem am_k1_0 : am_cks 1 0 80 = true := by decide +kernel
set_option maxRecDepth 100000 in
theorem am_k2_0 : am_cks 2 0 80 = true := by decide +kernel
set_option maxRecDepth 100000 in
theorem am_k3_0 : am_cks 3 0 80 = true := by decide +kernel
set_option maxRecDepth 100000 in
theorem am_k4_0 : am_cks 4 0 80 = true := by decide +kernel
set_option maxRecDepth 100000 in
theorem am_k5_0 : am_cks 5 0 80 = true := by decide +kernel
set_option maxRecDepth 100000 in
theorem am_k6_0 : am_cks 6 0 80 = true := by decide +kernel
set_option maxRecDepth 100000 in
theorem am_k7_0 : am_cks 7 0 80 = true := by decide +kernel
set_option maxRecDepth 100000 in
theorem am_k8_0 : am_cks 8 0 80 = true := by decide +kernel
set_option maxRecDepth 100000 in
theorem am_k9_0 : am_cks 9 0 80 = true := by decide +kernel
set_option maxRecDepth 100000 in
theorem am_k10_0 : am_cks 10 0 80 = true := by decide +kernel
set_option maxRecDepth 100000 in
theorem am_k11_0 : am_cks 11 0 80 = true := by decide +kernel
set_option maxRecDepth 100000 in
theorem am_k12_0 : am_cks 12 0 80 = true := by decide +kernel
set_option maxRecDepth 100000 in
theorem am_k13_0 : am_cks 13 0 80 = true := by decide +kernel
set_option maxRecDepth 100000 in
theorem am_k14_0 : am_cks 14 0 80 = true := by decide +kernel
set_option maxRecDepth 100000 in
theorem am_k15_0 : am_cks 15 0 80 = true := by decide +kernel
set_option maxRecDepth 100000 in
theorem am_k16_0 : am_cks 16 0 80 = true := by decide +kernel
