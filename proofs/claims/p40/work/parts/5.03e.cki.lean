/-! the checks, 18 -/
set_option maxRecDepth 100000 in
theorem am_k50_0 : am_cks 50 0 80 = true := by decide +kernel
set_option maxRecDepth 100000 in
theorem am_k51_0 : am_cks 51 0 80 = true := by decide +kernel
set_option maxRecDepth 100000 in
theorem am_k52_0 : am_cks 52 0 80 = true := by decide +kernel
set_option maxRecDepth 100000 in
theorem am_k53_0 : am_cks 53 0 80 = true := by decide +kernel
set_option maxRecDepth 100000 in
theorem am_k54_0 : am_cks 54 0 80 = true := by decide +kernel
set_option maxRecDepth 100000 in
theorem am_k54_80 : am_cks 54 80 80 = true := by decide +kernel
set_option maxRecDepth 100000 in
theorem am_k55_0 : am_cks 55 0 80 = true := by decide +kernel
set_option maxRecDepth 100000 in
theorem am_k56_0 : am_cks 56 0 80 = true := by decide +kernel
set_option maxRecDepth 100000 in
theorem am_k57_0 : am_cks 57 0 80 = true := by decide +kernel
set_option maxRecDepth 100000 in
theorem am_k58_0 : am_cks 58 0 80 = true := by decide +kernel
set_option maxRecDepth 100000 in
theorem am_k59_0 : am_cks 59 0 80 = true := by decide +kernel
