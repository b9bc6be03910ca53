/-! the checks, 5 -/
set_option maxRecDepth 100000 in
theorem am_k228_160 : am_cks 228 160 80 = true := by decide +kernel
set_option maxRecDepth 100000 in
theorem am_k228_240 : am_cks 228 240 80 = true := by decide +kernel
set_option maxRecDepth 100000 in
theorem am_k228_320 : am_cks 228 320 80 = true := by decide +kernel
set_option maxRecDepth 100000 in
theorem am_k228_400 : am_cks 228 400 80 = true := by decide +kernel
set_option maxRecDepth 100000 in
theorem am_k228_480 : am_cks 228 480 80 = true := by decide +kernel
set_option maxRecDepth 100000 in
theorem am_k228_560 : am_cks 228 560 80 = true := by decide +kernel
set_option maxRecDepth 100000 in
theorem am_k228_640 : am_cks 228 640 80 = true := by decide +kernel
set_option maxRecDepth 100000 in
theorem am_k228_720 : am_cks 228 720 80 = true := by decide +kernel
set_option maxRecDepth 100000 in
theorem am_k228_800 : am_cks 228 800 80 = true := by decide +kernel
set_option maxRecDepth 100000 in
theorem am_k228_880 : am_cks 228 880 80 = true := by decide +kernel
set_option maxRecDepth 100000 in
theorem am_k228_960 : am_cks 228 960 80 = true := by decide +kernel
set_option maxRecDepth 100000 in
theorem am_k228_1040 : am_cks 228 1040 80 = true := by decide +kernel
set_option maxRecDepth 100000 in
theorem am_k228_1120 : am_cks 228 1120 80 = true := by decide +kernel
set_option maxRecDepth 100000 in
theorem am_k228_1200 : am_cks 228 1200 80 = true := by decide +kernel
set_option maxRecDepth 100000 in
theorem am_k228_1280 : am_cks 228 1280 80 = true := by decide +kernel
set_option maxRecDepth 100000 in
theorem am_k228_1360 : am_cks 228 1360 80 = true := by decide +kernel
