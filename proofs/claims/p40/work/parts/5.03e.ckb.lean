/-! the checks, 11 -/
set_option maxRecDepth 100000 in
theorem am_k201_144 : am_cks 201 144 16 = true := by decide +kernel
set_option maxRecDepth 100000 in
theorem am_k201_128 : am_cks 201 128 16 = true := by decide +kernel
set_option maxRecDepth 100000 in
theorem am_k201_112 : am_cks 201 112 16 = true := by decide +kernel
set_option maxRecDepth 100000 in
theorem am_k201_96 : am_cks 201 96 16 = true := by decide +kernel
set_option maxRecDepth 100000 in
theorem am_k201_80 : am_cks 201 80 16 = true := by decide +kernel
set_option maxRecDepth 100000 in
theorem am_k201_64 : am_cks 201 64 16 = true := by decide +kernel
set_option maxRecDepth 100000 in
theorem am_k201_48 : am_cks 201 48 16 = true := by decide +kernel
set_option maxRecDepth 100000 in
theorem am_k201_32 : am_cks 201 32 16 = true := by decide +kernel
set_option maxRecDepth 100000 in
theorem am_k201_16 : am_cks 201 16 16 = true := by decide +kernel
