/-! the checks, 1 -/
set_option maxRecDepth 100000 in
theorem am_k17_0 : am_cks 17 0 80 = true := by decide +kernel
set_option maxRecDepth 100000 in
theorem am_k18_0 : am_cks 18 0 80 = true := by decide +kernel
set_option maxRecDepth 100000 in
theorem am_k19_0 : am_cks 19 0 80 = true := by decide +kernel
set_option maxRecDepth 100000 in
theorem am_k20_0 : am_cks 20 0 80 = true := by decide +kernel
set_option maxRecDepth 100000 in
theorem am_k21_0 : am_cks 21 0 80 = true := by decide +kernel
set_option maxRecDepth 100000 in
theorem am_k22_0 : am_cks 22 0 80 = true := by decide +kernel
set_option maxRecDepth 100000 in
theorem am_k23_0 : am_cks 23 0 80 = true := by decide +kernel
set_option maxRecDepth 100000 in
theorem am_k24_0 : am_cks 24 0 80 = true := by decide +kernel
set_option maxRecDepth 100000 in
theorem am_k25_0 : am_cks 25 0 80 = true := by decide +kernel
set_option maxRecDepth 100000 in
theorem am_k26_0 : am_cks 26 0 80 = true := by decide +kernel
set_option maxRecDepth 100000 in
theorem am_k26_80 : am_cks 26 80 80 = true := by decide +kernel
