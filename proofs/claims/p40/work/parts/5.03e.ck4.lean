/-! the checks, 4 -/
set_option maxRecDepth 100000 in
theorem am_k55_0 : am_cks 55 0 80 = true := by decide +kernel
set_option maxRecDepth 100000 in
theorem am_k56_0 : am_cks 56 0 80 = true := by decide +kernel
set_option maxRecDepth 100000 in
theorem am_k57_0 : am_cks 57 0 80 = true := by decide +kernel
set_option maxRecDepth 100000 in
theorem am_k58_0 : am_cks 58 0 80 = true := by decide +kernel
set_option maxRecDepth 100000 in
theorem am_k59_0 : am_cks 59 0 80 = true := by decide +kernel
set_option maxRecDepth 100000 in
theorem am_k59_80 : am_cks 59 80 80 = true := by decide +kernel
set_option maxRecDepth 100000 in
theorem am_k60_0 : am_cks 60 0 80 = true := by decide +kernel
set_option maxRecDepth 100000 in
theorem am_k61_0 : am_cks 61 0 80 = true := by decide +kernel
set_option maxRecDepth 100000 in
theorem am_k62_0 : am_cks 62 0 80 = true := by decide +kernel
set_option maxRecDepth 100000 in
theorem am_k63_0 : am_cks 63 0 80 = true := by decide +kernel
set_option maxRecDepth 100000 in
theorem am_k64_0 : am_cks 64 0 80 = true := by decide +kernel
set_option maxRecDepth 100000 in
theorem am_k65_0 : am_cks 65 0 80 = true := by decide +kernel
set_option maxRecDepth 100000 in
theorem am_k66_0 : am_cks 66 0 80 = true := by decide +kernel
