/-! the checks, 5 -/
set_option maxRecDepth 100000 in
theorem am_k203_240 : am_cks 203 240 16 = true := by decide +kernel
set_option maxRecDepth 100000 in
theorem am_k203_224 : am_cks 203 224 16 = true := by decide +kernel
set_option maxRecDepth 100000 in
theorem am_k203_208 : am_cks 203 208 16 = true := by decide +kernel
set_option maxRecDepth 100000 in
theorem am_k203_192 : am_cks 203 192 16 = true := by decide +kernel
set_option maxRecDepth 100000 in
theorem am_k203_176 : am_cks 203 176 16 = true := by decide +kernel
set_option maxRecDepth 100000 in
theorem am_k203_160 : am_cks 203 160 16 = true := by decide +kernel
set_option maxRecDepth 100000 in
theorem am_k203_144 : am_cks 203 144 16 = true := by decide +kernel
set_option maxRecDepth 100000 in
theorem am_k203_128 : am_cks 203 128 16 = true := by decide +kernel
set_option maxRecDepth 100000 in
theorem am_k203_112 : am_cks 203 112 16 = true := by decide +kernel
