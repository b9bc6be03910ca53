/-! the checks, 2 -/
set_option maxRecDepth 100000 in
theorem am_k228_368 : am_cks 228 368 16 = true := by decide +kernel
set_option maxRecDepth 100000 in
theorem am_k228_352 : am_cks 228 352 16 = true := by decide +kernel
set_option maxRecDepth 100000 in
theorem am_k228_336 : am_cks 228 336 16 = true := by decide +kernel
set_option maxRecDepth 100000 in
theorem am_k228_320 : am_cks 228 320 16 = true := by decide +kernel
set_option maxRecDepth 100000 in
theorem am_k228_304 : am_cks 228 304 16 = true := by decide +kernel
set_option maxRecDepth 100000 in
theorem am_k228_288 : am_cks 228 288 16 = true := by decide +kernel
set_option maxRecDepth 100000 in
theorem am_k228_272 : am_cks 228 272 16 = true := by decide +kernel
set_option maxRecDepth 100000 in
theorem am_k228_256 : am_cks 228 256 16 = true := by decide +kernel
set_option maxRecDepth 100000 in
theorem am_k228_240 : am_cks 228 240 16 = true := by decide +kernel
