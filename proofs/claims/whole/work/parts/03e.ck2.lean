/-! the checks, 2 -/
set_option maxRecDepth 100000 in
theorem am_k98_0 : am_cks 98 0 80 = true := by decide +kernel
set_option maxRecDepth 100000 in
theorem am_k99_0 : am_cks 99 0 80 = true := by decide +kernel
set_option maxRecDepth 100000 in
theorem am_k100_0 : am_cks 100 0 80 = true := by decide +kernel
set_option maxRecDepth 100000 in
theorem am_k101_0 : am_cks 101 0 80 = true := by decide +kernel
set_option maxRecDepth 100000 in
theorem am_k102_0 : am_cks 102 0 80 = true := by decide +kernel
set_option maxRecDepth 100000 in
theorem am_k103_0 : am_cks 103 0 80 = true := by decide +kernel
set_option maxRecDepth 100000 in
theorem am_k104_0 : am_cks 104 0 80 = true := by decide +kernel
set_option maxRecDepth 100000 in
theorem am_k105_0 : am_cks 105 0 80 = true := by decide +kernel
set_option maxRecDepth 100000 in
theorem am_k106_0 : am_cks 106 0 80 = true := by decide +kernel
set_option maxRecDepth 100000 in
theorem am_k107_0 : am_cks 107 0 80 = true := by decide +kernel
set_option maxRecDepth 100000 in
theorem am_k108_0 : am_cks 108 0 80 = true := by decide +kernel
set_option maxRecDepth 100000 in
theorem am_k109_0 : am_cks 109 0 80 = true := by decide +kernel
set_option maxRecDepth 100000 in
theorem am_k110_0 : am_cks 110 0 80 = true := by decide +kernel
set_option maxRecDepth 100000 in
theorem am_k111_0 : am_cks 111 0 80 = true := by decide +kernel
set_option maxRecDepth 100000 in
theorem am_k112_0 : am_cks 112 0 80 = true := by decide +kernel
set_option maxRecDepth 100000 in
theorem am_k113_0 : am_cks 113 0 80 = true := by decide +kernel
set_option maxRecDepth 100000 in
theorem am_k113_80 : am_cks 113 80 80 = true := by decide +kernel
set_option maxRecDepth 100000 in
theorem am_k113_160 : am_cks 113 160 80 = true := by decide +kernel
set_option maxRecDepth 100000 in
theorem am_k114_0 : am_cks 114 0 80 = true := by decide +kernel
set_option maxRecDepth 100000 in
theorem am_k115_0 : am_cks 115 0 80 = true := by decide +kernel
set_option maxRecDepth 100000 in
theorem am_k116_0 : am_cks 116 0 80 = true := by decide +kernel
set_option maxRecDepth 100000 in
theorem am_k117_0 : am_cks 117 0 80 = true := by decide +kernel
set_option maxRecDepth 100000 in
theorem am_k118_0 : am_cks 118 0 80 = true := by decide +kernel
set_option maxRecDepth 100000 in
theorem am_k119_0 : am_cks 119 0 80 = true := by decide +kernel
set_option maxRecDepth 100000 in
theorem am_k120_0 : am_cks 120 0 80 = true := by decide +kernel
set_option maxRecDepth 100000 in
theorem am_k121_0 : am_cks 121 0 80 = true := by decide +kernel
set_option maxRecDepth 100000 in
theorem am_k122_0 : am_cks 122 0 80 = true := by decide +kernel
set_option maxRecDepth 100000 in
theorem am_k123_0 : am_cks 123 0 80 = true := by decide +kernel
set_option maxRecDepth 100000 in
theorem am_k124_0 : am_cks 124 0 80 = true := by decide +kernel
set_option maxRecDepth 100000 in
theorem am_k125_0 : am_cks 125 0 80 = true := by decide +kernel
set_option maxRecDepth 100000 in
theorem am_k126_0 : am_cks 126 0 80 = true := by decide +kernel
set_option maxRecDepth 100000 in
theorem am_k127_0 : am_cks 127 0 80 = true := by decide +kernel
set_option maxRecDepth 100000 in
theorem am_k128_0 : am_cks 128 0 80 = true := by decide +kernel
set_option maxRecDepth 100000 in
theorem am_k129_0 : am_cks 129 0 80 = true := by decide +kernel
set_option maxRecDepth 100000 in
theorem am_k130_0 : am_cks 130 0 80 = true := by decide +kernel
set_option maxRecDepth 100000 in
theorem am_k130_80 : am_cks 130 80 80 = true := by decide +kernel
set_option maxRecDepth 100000 in
theorem am_k131_0 : am_cks 131 0 80 = true := by decide +kernel
set_option maxRecDepth 100000 in
theorem am_k132_0 : am_cks 132 0 80 = true := by decide +kernel
set_option maxRecDepth 100000 in
theorem am_k133_0 : am_cks 133 0 80 = true := by decide +kernel
set_option maxRecDepth 100000 in
theorem am_k134_0 : am_cks 134 0 80 = true := by decide +kernel
set_option maxRecDepth 100000 in
theorem am_k135_0 : am_cks 135 0 80 = true := by decide +kernel
set_option maxRecDepth 100000 in
theorem am_k136_0 : am_cks 136 0 80 = true := by decide +kernel
set_option maxRecDepth 100000 in
theorem am_k137_0 : am_cks 137 0 80 = true := by decide +kernel
set_option maxRecDepth 100000 in
theorem am_k138_0 : am_cks 138 0 80 = true := by decide +kernel
set_option maxRecDepth 100000 in
theorem am_k139_0 : am_cks 139 0 80 = true := by decide +kernel
set_option maxRecDepth 100000 in
theorem am_k139_80 : am_cks 139 80 80 = true := by decide +kernel
set_option maxRecDepth 100000 in
theorem am_k140_0 : am_cks 140 0 80 = true := by decide +kernel
set_option maxRecDepth 100000 in
theorem am_k141_0 : am_cks 141 0 80 = true := by decide +kernel
