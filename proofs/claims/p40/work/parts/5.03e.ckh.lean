/-! the checks, 17 -/
set_option maxRecDepth 100000 in
theorem am_k34_0 : am_cks 34 0 80 = true := by decide +kernel
set_option maxRecDepth 100000 in
theorem am_k35_0 : am_cks 35 0 80 = true := by decide +kernel
set_option maxRecDepth 100000 in
theorem am_k36_0 : am_cks 36 0 80 = true := by decide +kernel
set_option maxRecDepth 100000 in
theorem am_k37_0 : am_cks 37 0 80 = true := by decide +kernel
set_option maxRecDepth 100000 in
theorem am_k38_0 : am_cks 38 0 80 = true := by decide +kernel
set_option maxRecDepth 100000 in
theorem am_k39_0 : am_cks 39 0 80 = true := by decide +kernel
set_option maxRecDepth 100000 in
theorem am_k40_0 : am_cks 40 0 80 = true := by decide +kernel
set_option maxRecDepth 100000 in
theorem am_k41_0 : am_cks 41 0 80 = true := by decide +kernel
set_option maxRecDepth 100000 in
theorem am_k42_0 : am_cks 42 0 80 = true := by decide +kernel
set_option maxRecDepth 100000 in
theorem am_k43_0 : am_cks 43 0 80 = true := by decide +kernel
set_option maxRecDepth 100000 in
theorem am_k44_0 : am_cks 44 0 80 = true := by decide +kernel
set_option maxRecDepth 100000 in
theorem am_k45_0 : am_cks 45 0 80 = true := by decide +kernel
set_option maxRecDepth 100000 in
theorem am_k46_0 : am_cks 46 0 80 = true := by decide +kernel
set_option maxRecDepth 100000 in
theorem am_k47_0 : am_cks 47 0 80 = true := by decide +kernel
set_option maxRecDepth 100000 in
theorem am_k48_0 : am_cks 48 0 80 = true := by decide +kernel
set_option maxRecDepth 100000 in
theorem am_k49_0 : am_cks 49 0 80 = true := by decide +kernel
