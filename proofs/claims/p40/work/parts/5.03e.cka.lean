/-! the checks, 10 -/
set_option maxRecDepth 100000 in
theorem am_k201_288 : am_cks 201 288 16 = true := by decide +kernel
set_option maxRecDepth 100000 in
theorem am_k201_272 : am_cks 201 272 16 = true := by decide +kernel
set_option maxRecDepth 100000 in
theorem am_k201_256 : am_cks 201 256 16 = true := by decide +kernel
set_option maxRecDepth 100000 in
theorem am_k201_240 : am_cks 201 240 16 = true := by decide +kernel
set_option maxRecDepth 100000 in
theorem am_k201_224 : am_cks 201 224 16 = true := by decide +kernel
set_option maxRecDepth 100000 in
theorem am_k201_208 : am_cks 201 208 16 = true := by decide +kernel
set_option maxRecDepth 100000 in
theorem am_k201_192 : am_cks 201 192 16 = true := by decide +kernel
set_option maxRecDepth 100000 in
theorem am_k201_176 : am_cks 201 176 16 = true := by decide +kernel
set_option maxRecDepth 100000 in
theorem am_k201_160 : am_cks 201 160 16 = true := by decide +kernel
