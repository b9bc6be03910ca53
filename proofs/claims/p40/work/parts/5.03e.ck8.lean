/-! the checks, 8 -/
set_option maxRecDepth 100000 in
theorem am_k202_112 : am_cks 202 112 16 = true := by decide +kernel
set_option maxRecDepth 100000 in
theorem am_k202_96 : am_cks 202 96 16 = true := by decide +kernel
set_option maxRecDepth 100000 in
theorem am_k202_80 : am_cks 202 80 16 = true := by decide +kernel
set_option maxRecDepth 100000 in
theorem am_k202_64 : am_cks 202 64 16 = true := by decide +kernel
set_option maxRecDepth 100000 in
theorem am_k202_48 : am_cks 202 48 16 = true := by decide +kernel
set_option maxRecDepth 100000 in
theorem am_k202_32 : am_cks 202 32 16 = true := by decide +kernel
set_option maxRecDepth 100000 in
theorem am_k202_16 : am_cks 202 16 16 = true := by decide +kernel
set_option maxRecDepth 100000 in
theorem am_k202_0 : am_cks 202 0 16 = true := by decide +kernel
set_option maxRecDepth 100000 in
theorem am_k201_464 : am_cks 201 464 16 = true := by decide +kernel
set_option maxRecDepth 100000 in
theorem am_k201_448 : am_cks 201 448 16 = true := by decide +kernel
