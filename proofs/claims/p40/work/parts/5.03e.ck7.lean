/-! the checks, 7 -/
set_option maxRecDepth 100000 in
theorem am_k202_256 : am_cks 202 256 16 = true := by decide +kernel
set_option maxRecDepth 100000 in
theorem am_k202_240 : am_cks 202 240 16 = true := by decide +kernel
set_option maxRecDepth 100000 in
theorem am_k202_224 : am_cks 202 224 16 = true := by decide +kernel
set_option maxRecDepth 100000 in
theorem am_k202_208 : am_cks 202 208 16 = true := by decide +kernel
set_option maxRecDepth 100000 in
theorem am_k202_192 : am_cks 202 192 16 = true := by decide +kernel
set_option maxRecDepth 100000 in
theorem am_k202_176 : am_cks 202 176 16 = true := by decide +kernel
set_option maxRecDepth 100000 in
theorem am_k202_160 : am_cks 202 160 16 = true := by decide +kernel
set_option maxRecDepth 100000 in
theorem am_k202_144 : am_cks 202 144 16 = true := by decide +kernel
set_option maxRecDepth 100000 in
theorem am_k202_128 : am_cks 202 128 16 = true := by decide +kernel
