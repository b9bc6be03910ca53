/-! the checks, 9 -/
set_option maxRecDepth 100000 in
theorem am_k201_432 : am_cks 201 432 16 = true := by decide +kernel
set_option maxRecDepth 100000 in
theorem am_k201_416 : am_cks 201 416 16 = true := by decide +kernel
set_option maxRecDepth 100000 in
theorem am_k201_400 : am_cks 201 400 16 = true := by decide +kernel
set_option maxRecDepth 100000 in
theorem am_k201_384 : am_cks 201 384 16 = true := by decide +kernel
set_option maxRecDepth 100000 in
theorem am_k201_368 : am_cks 201 368 16 = true := by decide +kernel
set_option maxRecDepth 100000 in
theorem am_k201_352 : am_cks 201 352 16 = true := by decide +kernel
set_option maxRecDepth 100000 in
theorem am_k201_336 : am_cks 201 336 16 = true := by decide +kernel
set_option maxRecDepth 100000 in
theorem am_k201_320 : am_cks 201 320 16 = true := by decide +kernel
set_option maxRecDepth 100000 in
theorem am_k201_304 : am_cks 201 304 16 = true := by decide +kernel
