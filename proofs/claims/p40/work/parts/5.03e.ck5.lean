/-! the checks, 5 -/
set_option maxRecDepth 100000 in
theorem am_k67_0 : am_cks 67 0 80 = true := by decide +kernel
set_option maxRecDepth 100000 in
theorem am_k68_0 : am_cks 68 0 80 = true := by decide +kernel
set_option maxRecDepth 100000 in
theorem am_k69_0 : am_cks 69 0 80 = true := by decide +kernel
set_option maxRecDepth 100000 in
theorem am_k70_0 : am_cks 70 0 80 = true := by decide +kernel
set_option maxRecDepth 100000 in
theorem am_k71_0 : am_cks 71 0 80 = true := by decide +kernel
set_option maxRecDepth 100000 in
theorem am_k72_0 : am_cks 72 0 80 = true := by decide +kernel
set_option maxRecDepth 100000 in
theorem am_k73_0 : am_cks 73 0 80 = true := by decide +kernel
set_option maxRecDepth 100000 in
theorem am_k74_0 : am_cks 74 0 80 = true := by decide +kernel
set_option maxRecDepth 100000 in
theorem am_k75_0 : am_cks 75 0 80 = true := by decide +kernel
set_option maxRecDepth 100000 in
theorem am_k76_0 : am_cks 76 0 80 = true := by decide +kernel
set_option maxRecDepth 100000 in
theorem am_k77_0 : am_cks 77 0 80 = true := by decide +kernel
set_option maxRecDepth 100000 in
theorem am_k78_0 : am_cks 78 0 80 = true := by decide +kernel
set_option maxRecDepth 100000 in
theorem am_k79_0 : am_cks 79 0 80 = true := by decide +kernel
