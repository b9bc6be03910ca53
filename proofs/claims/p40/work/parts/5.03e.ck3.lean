/-! the checks, 3 -/
set_option maxRecDepth 100000 in
theorem am_k228_224 : am_cks 228 224 16 = true := by decide +kernel
set_option maxRecDepth 100000 in
theorem am_k228_208 : am_cks 228 208 16 = true := by decide +kernel
set_option maxRecDepth 100000 in
theorem am_k228_192 : am_cks 228 192 16 = true := by decide +kernel
set_option maxRecDepth 100000 in
theorem am_k228_176 : am_cks 228 176 16 = true := by decide +kernel
set_option maxRecDepth 100000 in
theorem am_k228_160 : am_cks 228 160 16 = true := by decide +kernel
set_option maxRecDepth 100000 in
theorem am_k228_144 : am_cks 228 144 16 = true := by decide +kernel
set_option maxRecDepth 100000 in
theorem am_k228_128 : am_cks 228 128 16 = true := by decide +kernel
set_option maxRecDepth 100000 in
theorem am_k228_112 : am_cks 228 112 16 = true := by decide +kernel
set_option maxRecDepth 100000 in
theorem am_k228_96 : am_cks 228 96 16 = true := by decide +kernel
