/-! the checks, 1 -/
set_option maxRecDepth 100000 in
theorem am_k228_512 : am_cks 228 512 16 = true := by decide +kernel
set_option maxRecDepth 100000 in
theorem am_k228_496 : am_cks 228 496 16 = true := by decide +kernel
set_option maxRecDepth 100000 in
theorem am_k228_480 : am_cks 228 480 16 = true := by decide +kernel
set_option maxRecDepth 100000 in
theorem am_k228_464 : am_cks 228 464 16 = true := by decide +kernel
set_option maxRecDepth 100000 in
theorem am_k228_448 : am_cks 228 448 16 = true := by decide +kernel
set_option maxRecDepth 100000 in
theorem am_k228_432 : am_cks 228 432 16 = true := by decide +kernel
set_option maxRecDepth 100000 in
theorem am_k228_416 : am_cks 228 416 16 = true := by decide +kernel
set_option maxRecDepth 100000 in
theorem am_k228_400 : am_cks 228 400 16 = true := by decide +kernel
set_option maxRecDepth 100000 in
theorem am_k228_384 : am_cks 228 384 16 = true := by decide +kernel
