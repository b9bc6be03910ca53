/-! the checks, 15 -/
set_option maxRecDepth 100000 in
theorem am_k9_0 : am_cks 9 0 80 = true := by decide +kernel
set_option maxRecDepth 100000 in
theorem am_k10_0 : am_cks 10 0 80 = true := by decide +kernel
set_option maxRecDepth 100000 in
theorem am_k11_0 : am_cks 11 0 80 = true := by decide +kernel
set_option maxRecDepth 100000 in
theorem am_k12_0 : am_cks 12 0 80 = true := by decide +kernel
set_option maxRecDepth 100000 in
theorem am_k13_0 : am_cks 13 0 80 = true := by decide +kernel
set_option maxRecDepth 100000 in
theorem am_k14_0 : am_cks 14 0 80 = true := by decide +kernel
set_option maxRecDepth 100000 in
theorem am_k15_0 : am_cks 15 0 80 = true := by decide +kernel
set_option maxRecDepth 100000 in
theorem am_k16_0 : am_cks 16 0 80 = true := by decide +kernel
set_option maxRecDepth 100000 in
theorem am_k17_0 : am_cks 17 0 80 = true := by decide +kernel
set_option maxRecDepth 100000 in
theorem am_k18_0 : am_cks 18 0 80 = true := by decide +kernel
set_option maxRecDepth 100000 in
theorem am_k19_0 : am_cks 19 0 80 = true := by decide +kernel
set_option maxRecDepth 100000 in
theorem am_k20_0 : am_cks 20 0 80 = true := by decide +kernel
set_option maxRecDepth 100000 in
theorem am_k21_0 : am_cks 21 0 80 = true := by decide +kernel
set_option maxRecDepth 100000 in
theorem am_k22_0 : am_cks 22 0 80 = true := by decide +kernel
set_option maxRecDepth 100000 in
theorem am_k23_0 : am_cks 23 0 80 = true := by decide +kernel
set_option maxRecDepth 100000 in
theorem am_k24_0 : am_cks 24 0 80 = true := by decide +kernel
