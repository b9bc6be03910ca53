/-! the checks, 12 -/
set_option maxRecDepth 100000 in
theorem am_k201_0 : am_cks 201 0 16 = true := by decide +kernel
set_option maxRecDepth 100000 in
theorem am_k200_112 : am_cks 200 112 16 = true := by decide +kernel
set_option maxRecDepth 100000 in
theorem am_k200_96 : am_cks 200 96 16 = true := by decide +kernel
set_option maxRecDepth 100000 in
theorem am_k200_80 : am_cks 200 80 16 = true := by decide +kernel
set_option maxRecDepth 100000 in
theorem am_k200_64 : am_cks 200 64 16 = true := by decide +kernel
set_option maxRecDepth 100000 in
theorem am_k200_48 : am_cks 200 48 16 = true := by decide +kernel
set_option maxRecDepth 100000 in
theorem am_k200_32 : am_cks 200 32 16 = true := by decide +kernel
set_option maxRecDepth 100000 in
theorem am_k200_16 : am_cks 200 16 16 = true := by decide +kernel
set_option maxRecDepth 100000 in
theorem am_k200_0 : am_cks 200 0 16 = true := by decide +kernel
set_option maxRecDepth 100000 in
theorem am_k199_176 : am_cks 199 176 16 = true := by decide +kernel
