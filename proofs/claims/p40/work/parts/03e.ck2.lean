/-! the checks, 2 -/
set_option maxRecDepth 100000 in
theorem am_k58_0 : am_cks 58 0 80 = true := by decide +kernel
set_option maxRecDepth 100000 in
theorem am_k59_0 : am_cks 59 0 80 = true := by decide +kernel
set_option maxRecDepth 100000 in
theorem am_k59_80 : am_cks 59 80 80 = true := by decide +kernel
set_option maxRecDepth 100000 in
theorem am_k60_0 : am_cks 60 0 80 = true := by decide +kernel
set_option maxRecDepth 100000 in
theorem am_k61_0 : am_cks 61 0 80 = true := by decide +kernel
set_option maxRecDepth 100000 in
theorem am_k62_0 : am_cks 62 0 80 = true := by decide +kernel
set_option maxRecDepth 100000 in
theorem am_k63_0 : am_cks 63 0 80 = true := by decide +kernel
set_option maxRecDepth 100000 in
theorem am_k64_0 : am_cks 64 0 80 = true := by decide +kernel
set_option maxRecDepth 100000 in
theorem am_k65_0 : am_cks 65 0 80 = true := by decide +kernel
set_option maxRecDepth 100000 in
theorem am_k66_0 : am_cks 66 0 80 = true := by decide +kernel
set_option maxRecDepth 100000 in
theorem am_k67_0 : am_cks 67 0 80 = true := by decide +kernel
set_option maxRecDepth 100000 in
theorem am_k68_0 : am_cks 68 0 80 = true := by decide +kernel
set_option maxRecDepth 100000 in
theorem am_k69_0 : am_cks 69 0 80 = true := by decide +kernel
set_option maxRecDepth 100000 in
theorem am_k70_0 : am_cks 70 0 80 = true := by decide +kernel
set_option maxRecDepth 100000 in
theorem am_k71_0 : am_cks 71 0 80 = true := by decide +kernel
set_option maxRecDepth 100000 in
theorem am_k72_0 : am_cks 72 0 80 = true := by decide +kernel
set_option maxRecDepth 100000 in
theorem am_k73_0 : am_cks 73 0 80 = true := by decide +kernel
set_option maxRecDepth 100000 in
theorem am_k74_0 : am_cks 74 0 80 = true := by decide +kernel
set_option maxRecDepth 100000 in
theorem am_k75_0 : am_cks 75 0 80 = true := by decide +kernel
set_option maxRecDepth 100000 in
theorem am_k76_0 : am_cks 76 0 80 = true := by decide +kernel
set_option maxRecDepth 100000 in
theorem am_k77_0 : am_cks 77 0 80 = true := by decide +kernel
set_option maxRecDepth 100000 in
theorem am_k78_0 : am_cks 78 0 80 = true := by decide +kernel
set_option maxRecDepth 100000 in
theorem am_k79_0 : am_cks 79 0 80 = true := by decide +kernel
set_option maxRecDepth 100000 in
theorem am_k80_0 : am_cks 80 0 80 = true := by decide +kernel
set_option maxRecDepth 100000 in
theorem am_k81_0 : am_cks 81 0 80 = true := by decide +kernel
set_option maxRecDepth 100000 in
theorem am_k82_0 : am_cks 82 0 80 = true := by decide +kernel
set_option maxRecDepth 100000 in
theorem am_k83_0 : am_cks 83 0 80 = true := by decide +kernel
set_option maxRecDepth 100000 in
theorem am_k84_0 : am_cks 84 0 80 = true := by decide +kernel
set_option maxRecDepth 100000 in
theorem am_k85_0 : am_cks 85 0 80 = true := by decide +kernel
set_option maxRecDepth 100000 in
theorem am_k86_0 : am_cks 86 0 80 = true := by decide +kernel
set_option maxRecDepth 100000 in
theorem am_k87_0 : am_cks 87 0 80 = true := by decide +kernel
set_option maxRecDepth 100000 in
theorem am_k88_0 : am_cks 88 0 80 = true := by decide +kernel
