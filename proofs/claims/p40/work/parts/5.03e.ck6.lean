/-! the checks, 6 -/
set_option maxRecDepth 100000 in
theorem am_k80_0 : am_cks 80 0 80 = true := by decide +kernel
set_option maxRecDepth 100000 in
theorem am_k81_0 : am_cks 81 0 80 = true := by decide +kernel
set_option maxRecDepth 100000 in
theorem am_k82_0 : am_cks 82 0 80 = true := by decide +kernel
set_option maxRecDepth 100000 in
theorem am_k83_0 : am_cks 83 0 80 = true := by decide +kernel
set_option maxRecDepth 100000 in
theorem am_k84_0 : am_cks 84 0 80 = true := by decide +kernel
set_option maxRecDepth 100000 in
theorem am_k85_0 : am_cks 85 0 80 = true := by decide +kernel
set_option maxRecDepth 100000 in
theorem am_k86_0 : am_cks 86 0 80 = true := by decide +kernel
set_option maxRecDepth 100000 in
theorem am_k87_0 : am_cks 87 0 80 = true := by decide +kernel
set_option maxRecDepth 100000 in
theorem am_k88_0 : am_cks 88 0 80 = true := by decide +kernel
set_option maxRecDepth 100000 in
theorem am_k89_0 : am_cks 89 0 80 = true := by decide +kernel
set_option maxRecDepth 100000 in
theorem am_k90_0 : am_cks 90 0 80 = true := by decide +kernel
set_option maxRecDepth 100000 in
theorem am_k91_0 : am_cks 91 0 80 = true := by decide +kernel
set_option maxRecDepth 100000 in
theorem am_k92_0 : am_cks 92 0 80 = true := by decide +kernel
set_option maxRecDepth 100000 in
theorem am_k93_0 : am_cks 93 0 80 = true := by decide +kernel
set_option maxRecDepth 100000 in
theorem am_k94_0 : am_cks 94 0 80 = true := by decide +kernel
set_option maxRecDepth 100000 in
theorem am_k95_0 : am_cks 95 0 80 = true := by decide +kernel
set_option maxRecDepth 100000 in
theorem am_k96_0 : am_cks 96 0 80 = true := by decide +kernel
set_option maxRecDepth 100000 in
theorem am_k97_0 : am_cks 97 0 80 = true := by decide +kernel
set_option maxRecDepth 100000 in
theorem am_k98_0 : am_cks 98 0 80 = true := by decide +kernel
