/-! the checks, 21 -/
set_option maxRecDepth 100000 in
theorem am_k92_0 : am_cks 92 0 80 = true := by decide +kernel
set_option maxRecDepth 100000 in
theorem am_k93_0 : am_cks 93 0 80 = true := by decide +kernel
set_option maxRecDepth 100000 in
theorem am_k94_0 : am_cks 94 0 80 = true := by decide +kernel
set_option maxRecDepth 100000 in
theorem am_k95_0 : am_cks 95 0 80 = true := by decide +kernel
set_option maxRecDepth 100000 in
theorem am_k96_0 : am_cks 96 0 80 = true := by decide +kernel
set_option maxRecDepth 100000 in
theorem am_k97_0 : am_cks 97 0 80 = true := by decide +kernel
set_option maxRecDepth 100000 in
theorem am_k98_0 : am_cks 98 0 80 = true := by decide +kernel
set_option maxRecDepth 100000 in
theorem am_k99_0 : am_cks 99 0 80 = true := by decide +kernel
set_option maxRecDepth 100000 in
theorem am_k100_0 : am_cks 100 0 80 = true := by decide +kernel
set_option maxRecDepth 100000 in
theorem am_k101_0 : am_cks 101 0 80 = true := by decide +kernel
set_option maxRecDepth 100000 in
theorem am_k102_0 : am_cks 102 0 80 = true := by decide +kernel
set_option maxRecDepth 100000 in
theorem am_k104_0 : am_cks 104 0 80 = true := by decide +kernel
set_option maxRecDepth 100000 in
theorem am_k105_0 : am_cks 105 0 80 = true := by decide +kernel
set_option maxRecDepth 100000 in
theorem am_k106_0 : am_cks 106 0 80 = true := by decide +kernel
set_option maxRecDepth 100000 in
theorem am_k107_0 : am_cks 107 0 80 = true := by decide +kernel
set_option maxRecDepth 100000 in
theorem am_k108_0 : am_cks 108 0 80 = true := by decide +kernel
set_option maxRecDepth 100000 in
theorem am_k109_0 : am_cks 109 0 80 = true := by decide +kernel
set_option maxRecDepth 100000 in
theorem am_k110_0 : am_cks 110 0 80 = true := by decide +kernel
set_option maxRecDepth 100000 in
theorem am_k111_0 : am_cks 111 0 80 = true := by decide +kernel
set_option maxRecDepth 100000 in
theorem am_k112_0 : am_cks 112 0 80 = true := by decide +kernel
set_option maxRecDepth 100000 in
theorem am_k113_0 : am_cks 113 0 80 = true := by decide +kernel
set_option maxRecDepth 100000 in
theorem am_k172_0 : am_cks 172 0 80 = true := by decide +kernel
