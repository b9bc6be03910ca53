/-! the checks, 6 -/
set_option maxRecDepth 100000 in
theorem am_k203_96 : am_cks 203 96 16 = true := by decide +kernel
set_option maxRecDepth 100000 in
theorem am_k203_80 : am_cks 203 80 16 = true := by decide +kernel
set_option maxRecDepth 100000 in
theorem am_k203_64 : am_cks 203 64 16 = true := by decide +kernel
set_option maxRecDepth 100000 in
theorem am_k203_48 : am_cks 203 48 16 = true := by decide +kernel
set_option maxRecDepth 100000 in
theorem am_k203_32 : am_cks 203 32 16 = true := by decide +kernel
set_option maxRecDepth 100000 in
theorem am_k203_16 : am_cks 203 16 16 = true := by decide +kernel
set_option maxRecDepth 100000 in
theorem am_k203_0 : am_cks 203 0 16 = true := by decide +kernel
set_option maxRecDepth 100000 in
theorem am_k202_304 : am_cks 202 304 16 = true := by decide +kernel
set_option maxRecDepth 100000 in
theorem am_k202_288 : am_cks 202 288 16 = true := by decide +kernel
set_option maxRecDepth 100000 in
theorem am_k202_272 : am_cks 202 272 16 = true := by decide +kernel
