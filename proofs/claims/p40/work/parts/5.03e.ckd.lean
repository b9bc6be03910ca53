/-! the checks, 13 -/
set_option maxRecDepth 100000 in
theorem am_k199_160 : am_cks 199 160 16 = true := by decide +kernel
set_option maxRecDepth 100000 in
theorem am_k199_144 : am_cks 199 144 16 = true := by decide +kernel
set_option maxRecDepth 100000 in
theorem am_k199_128 : am_cks 199 128 16 = true := by decide +kernel
set_option maxRecDepth 100000 in
theorem am_k199_112 : am_cks 199 112 16 = true := by decide +kernel
set_option maxRecDepth 100000 in
theorem am_k199_96 : am_cks 199 96 16 = true := by decide +kernel
set_option maxRecDepth 100000 in
theorem am_k199_80 : am_cks 199 80 16 = true := by decide +kernel
set_option maxRecDepth 100000 in
theorem am_k199_64 : am_cks 199 64 16 = true := by decide +kernel
set_option maxRecDepth 100000 in
theorem am_k199_48 : am_cks 199 48 16 = true := by decide +kernel
set_option maxRecDepth 100000 in
theorem am_k199_32 : am_cks 199 32 16 = true := by decide +kernel
