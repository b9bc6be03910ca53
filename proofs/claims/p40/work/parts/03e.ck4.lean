/-! the checks, 4 -/
set_option maxRecDepth 100000 in
theorem am_k193_0 : am_cks 193 0 80 = true := by decide +kernel
set_option maxRecDepth 100000 in
theorem am_k194_0 : am_cks 194 0 80 = true := by decide +kernel
set_option maxRecDepth 100000 in
theorem am_k195_0 : am_cks 195 0 80 = true := by decide +kernel
set_option maxRecDepth 100000 in
theorem am_k196_0 : am_cks 196 0 80 = true := by decide +kernel
set_option maxRecDepth 100000 in
theorem am_k197_0 : am_cks 197 0 80 = true := by decide +kernel
set_option maxRecDepth 100000 in
theorem am_k198_0 : am_cks 198 0 80 = true := by decide +kernel
set_option maxRecDepth 100000 in
theorem am_k199_0 : am_cks 199 0 80 = true := by decide +kernel
set_option maxRecDepth 100000 in
theorem am_k199_80 : am_cks 199 80 80 = true := by decide +kernel
set_option maxRecDepth 100000 in
theorem am_k199_160 : am_cks 199 160 80 = true := by decide +kernel
set_option maxRecDepth 100000 in
theorem am_k200_0 : am_cks 200 0 80 = true := by decide +kernel
