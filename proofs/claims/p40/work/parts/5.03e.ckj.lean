/-! the checks, 19 -/
set_option maxRecDepth 100000 in
theorem am_k59_80 : am_cks 59 80 80 = true := by decide +kernel
set_option maxRecDepth 100000 in
theorem am_k60_0 : am_cks 60 0 80 = true := by decide +kernel
set_option maxRecDepth 100000 in
theorem am_k61_0 : am_cks 61 0 80 = true := by decide +kernel
set_option maxRecDepth 100000 in
theorem am_k62_0 : am_cks 62 0 80 = true := by decide +kernel
set_option maxRecDepth 100000 in
theorem am_k63_0 : am_cks 63 0 80 = true := by decide +kernel
set_option maxRecDepth 100000 in
theorem am_k64_0 : am_cks 64 0 80 = true := by decide +kernel
set_option maxRecDepth 100000 in
theorem am_k65_0 : am_cks 65 0 80 = true := by decide +kernel
set_option maxRecDepth 100000 in
theorem am_k66_0 : am_cks 66 0 80 = true := by decide +kernel
set_option maxRecDepth 100000 in
theorem am_k67_0 : am_cks 67 0 80 = true := by decide +kernel
set_option maxRecDepth 100000 in
theorem am_k68_0 : am_cks 68 0 80 = true := by decide +kernel
set_option maxRecDepth 100000 in
theorem am_k69_0 : am_cks 69 0 80 = true := by decide +kernel
set_option maxRecDepth 100000 in
theorem am_k70_0 : am_cks 70 0 80 = true := by decide +kernel
set_option maxRecDepth 100000 in
theorem am_k71_0 : am_cks 71 0 80 = true := by decide +kernel
set_option maxRecDepth 100000 in
theorem am_k72_0 : am_cks 72 0 80 = true := by decide +kernel
set_option maxRecDepth 100000 in
theorem am_k73_0 : am_cks 73 0 80 = true := by decide +kernel
set_option maxRecDepth 100000 in
theorem am_k74_0 : am_cks 74 0 80 = true := by decide +kernel
