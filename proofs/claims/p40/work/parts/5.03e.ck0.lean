/-! the checks, 0 -/
set_option maxRecDepth 100000 in
theorem am_k114_0 : am_cks 114 0 80 = true := by decide +kernel
set_option maxRecDepth 100000 in
theorem am_k115_0 : am_cks 115 0 80 = true := by decide +kernel
set_option maxRecDepth 100000 in
theorem am_k116_0 : am_cks 116 0 80 = true := by decide +kernel
set_option maxRecDepth 100000 in
theorem am_k228_640 : am_cks 228 640 16 = true := by decide +kernel
set_option maxRecDepth 100000 in
theorem am_k228_624 : am_cks 228 624 16 = true := by decide +kernel
set_option maxRecDepth 100000 in
theorem am_k228_608 : am_cks 228 608 16 = true := by decide +kernel
set_option maxRecDepth 100000 in
theorem am_k228_592 : am_cks 228 592 16 = true := by decide +kernel
set_option maxRecDepth 100000 in
theorem am_k228_576 : am_cks 228 576 16 = true := by decide +kernel
set_option maxRecDepth 100000 in
theorem am_k228_560 : am_cks 228 560 16 = true := by decide +kernel
set_option maxRecDepth 100000 in
theorem am_k228_544 : am_cks 228 544 16 = true := by decide +kernel
set_option maxRecDepth 100000 in
theorem am_k228_528 : am_cks 228 528 16 = true := by decide +kernel
