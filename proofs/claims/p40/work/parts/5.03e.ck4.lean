/-! the checks, 4 -/
set_option maxRecDepth 100000 in
theorem am_k228_80 : am_cks 228 80 16 = true := by decide +kernel
set_option maxRecDepth 100000 in
theorem am_k228_64 : am_cks 228 64 16 = true := by decide +kernel
set_option maxRecDepth 100000 in
theorem am_k228_48 : am_cks 228 48 16 = true := by decide +kernel
set_option maxRecDepth 100000 in
theorem am_k228_32 : am_cks 228 32 16 = true := by decide +kernel
set_option maxRecDepth 100000 in
theorem am_k228_16 : am_cks 228 16 16 = true := by decide +kernel
set_option maxRecDepth 100000 in
theorem am_k228_0 : am_cks 228 0 16 = true := by decide +kernel
set_option maxRecDepth 100000 in
theorem am_k203_304 : am_cks 203 304 16 = true := by decide +kernel
set_option maxRecDepth 100000 in
theorem am_k203_288 : am_cks 203 288 16 = true := by decide +kernel
set_option maxRecDepth 100000 in
theorem am_k203_272 : am_cks 203 272 16 = true := by decide +kernel
set_option maxRecDepth 100000 in
theorem am_k203_256 : am_cks 203 256 16 = true := by decide +kernel
