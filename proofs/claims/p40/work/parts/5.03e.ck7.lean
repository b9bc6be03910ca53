/-! the checks, 7 -/
set_option maxRecDepth 100000 in
theorem am_k99_0 : am_cks 99 0 80 = true := by decide +kernel
set_option maxRecDepth 100000 in
theorem am_k100_0 : am_cks 100 0 80 = true := by decide +kernel
set_option maxRecDepth 100000 in
theorem am_k101_0 : am_cks 101 0 80 = true := by decide +kernel
set_option maxRecDepth 100000 in
theorem am_k102_0 : am_cks 102 0 80 = true := by decide +kernel
set_option maxRecDepth 100000 in
theorem am_k104_0 : am_cks 104 0 80 = true := by decide +kernel
set_option maxRecDepth 100000 in
theorem am_k105_0 : am_cks 105 0 80 = true := by decide +kernel
set_option maxRecDepth 100000 in
theorem am_k106_0 : am_cks 106 0 80 = true := by decide +kernel
set_option maxRecDepth 100000 in
theorem am_k107_0 : am_cks 107 0 80 = true := by decide +kernel
set_option maxRecDepth 100000 in
theorem am_k108_0 : am_cks 108 0 80 = true := by decide +kernel
set_option maxRecDepth 100000 in
theorem am_k109_0 : am_cks 109 0 80 = true := by decide +kernel
set_option maxRecDepth 100000 in
theorem am_k110_0 : am_cks 110 0 80 = true := by decide +kernel
set_option maxRecDepth 100000 in
theorem am_k111_0 : am_cks 111 0 80 = true := by decide +kernel
set_option maxRecDepth 100000 in
theorem am_k112_0 : am_cks 112 0 80 = true := by decide +kernel
set_option maxRecDepth 100000 in
theorem am_k113_0 : am_cks 113 0 80 = true := by decide +kernel
set_option maxRecDepth 100000 in
theorem am_k114_0 : am_cks 114 0 80 = true := by decide +kernel
set_option maxRecDepth 100000 in
theorem am_k115_0 : am_cks 115 0 80 = true := by decide +kernel
set_option maxRecDepth 100000 in
theorem am_k116_0 : am_cks 116 0 80 = true := by decide +kernel
set_option maxRecDepth 100000 in
theorem am_k172_0 : am_cks 172 0 80 = true := by decide +kernel
set_option maxRecDepth 100000 in
theorem am_k173_0 : am_cks 173 0 80 = true := by decide +kernel
set_option maxRecDepth 100000 in
theorem am_k174_0 : am_cks 174 0 80 = true := by decide +kernel
set_option maxRecDepth 100000 in
theorem am_k175_0 : am_cks 175 0 80 = true := by decide +kernel
set_option maxRecDepth 100000 in
theorem am_k176_0 : am_cks 176 0 80 = true := by decide +kernel
set_option maxRecDepth 100000 in
theorem am_k177_0 : am_cks 177 0 80 = true := by decide +kernel
set_option maxRecDepth 100000 in
theorem am_k178_0 : am_cks 178 0 80 = true := by decide +kernel
