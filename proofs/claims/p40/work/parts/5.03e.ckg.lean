/-! the checks, 16 -/
set_option maxRecDepth 100000 in
theorem am_k25_0 : am_cks 25 0 80 = true := by decide +kernel
set_option maxRecDepth 100000 in
theorem am_k26_0 : am_cks 26 0 80 = true := by decide +kernel
set_option maxRecDepth 100000 in
theorem am_k26_80 : am_cks 26 80 80 = true := by decide +kernel
set_option maxRecDepth 100000 in
theorem am_k27_0 : am_cks 27 0 80 = true := by decide +kernel
set_option maxRecDepth 100000 in
theorem am_k28_0 : am_cks 28 0 80 = true := by decide +kernel
set_option maxRecDepth 100000 in
theorem am_k28_80 : am_cks 28 80 80 = true := by decide +kernel
set_option maxRecDepth 100000 in
theorem am_k29_0 : am_cks 29 0 80 = true := by decide +kernel
set_option maxRecDepth 100000 in
theorem am_k30_0 : am_cks 30 0 80 = true := by decide +kernel
set_option maxRecDepth 100000 in
theorem am_k31_0 : am_cks 31 0 80 = true := by decide +kernel
set_option maxRecDepth 100000 in
theorem am_k32_0 : am_cks 32 0 80 = true := by decide +kernel
set_option maxRecDepth 100000 in
theorem am_k33_0 : am_cks 33 0 80 = true := by decide +kernel
