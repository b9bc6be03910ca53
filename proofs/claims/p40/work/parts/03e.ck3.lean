/-! the checks, 3 -/
set_option maxRecDepth 100000 in
theorem am_k89_0 : am_cks 89 0 80 = true := by decide +kernel
set_option maxRecDepth 100000 in
theorem am_k90_0 : am_cks 90 0 80 = true := by decide +kernel
set_option maxRecDepth 100000 in
theorem am_k91_0 : am_cks 91 0 80 = true := by decide +kernel
set_option maxRecDepth 100000 in
theorem am_k92_0 : am_cks 92 0 80 = true := by decide +kernel
set_option maxRecDepth 100000 in
theorem am_k93_0 : am_cks 93 0 80 = true := by decide +kernel
set_option maxRecDepth 100000 in
theorem am_k94_0 : am_cks 94 0 80 = true := by decide +kernel
set_option maxRecDepth 100000 in
theorem am_k95_0 : am_cks 95 0 80 = true := by decide +kernel
set_option maxRecDepth 100000 in
theorem am_k96_0 : am_cks 96 0 80 = true := by decide +kernel
set_option maxRecDepth 100000 in
theorem am_k97_0 : am_cks 97 0 80 = true := by decide +kernel
set_option maxRecDepth 100000 in
theorem am_k98_0 : am_cks 98 0 80 = true := by decide +kernel
set_option maxRecDepth 100000 in
theorem am_k99_0 : am_cks 99 0 80 = true := by decide +kernel
set_option maxRecDepth 100000 in
theorem am_k100_0 : am_cks 100 0 80 = true := by decide +kernel
set_option maxRecDepth 100000 in
theorem am_k101_0 : am_cks 101 0 80 = true := by decide +kernel
set_option maxRecDepth 100000 in
theorem am_k102_0 : am_cks 102 0 80 = true := by decide +kernel
set_option maxRecDepth 100000 in
theorem am_k104_0 : am_cks 104 0 80 = true := by decide +kernel
set_option maxRecDepth 100000 in
theorem am_k105_0 : am_cks 105 0 80 = true := by decide +kernel
set_option maxRecDepth 100000 in
theorem am_k106_0 : am_cks 106 0 80 = true := by decide +kernel
set_option maxRecDepth 100000 in
theorem am_k107_0 : am_cks 107 0 80 = true := by decide +kernel
set_option maxRecDepth 100000 in
theorem am_k108_0 : am_cks 108 0 80 = true := by decide +kernel
set_option maxRecDepth 100000 in
theorem am_k109_0 : am_cks 109 0 80 = true := by decide +kernel
set_option maxRecDepth 100000 in
theorem am_k110_0 : am_cks 110 0 80 = true := by decide +kernel
set_option maxRecDepth 100000 in
theorem am_k111_0 : am_cks 111 0 80 = true := by decide +kernel
set_option maxRecDepth 100000 in
theorem am_k112_0 : am_cks 112 0 80 = true := by decide +kernel
set_option maxRecDepth 100000 in
theorem am_k113_0 : am_cks 113 0 80 = true := by decide +kernel
set_option maxRecDepth 100000 in
theorem am_k114_0 : am_cks 114 0 80 = true := by decide +kernel
set_option maxRecDepth 100000 in
theorem am_k115_0 : am_cks 115 0 80 = true := by decide +kernel
set_option maxRecDepth 100000 in
theorem am_k116_0 : am_cks 116 0 80 = true := by decide +kernel
set_option maxRecDepth 100000 in
theorem am_k172_0 : am_cks 172 0 80 = true := by decide +kernel
set_option maxRecDepth 100000 in
theorem am_k173_0 : am_cks 173 0 80 = true := by decide +kernel
set_option maxRecDepth 100000 in
theorem am_k174_0 : am_cks 174 0 80 = true := by decide +kernel
set_option maxRecDepth 100000 in
theorem am_k175_0 : am_cks 175 0 80 = true := by decide +kernel
set_option maxRecDepth 100000 in
theorem am_k176_0 : am_cks 176 0 80 = true := by decide +kernel
set_option maxRecDepth 100000 in
theorem am_k177_0 : am_cks 177 0 80 = true := by decide +kernel
set_option maxRecDepth 100000 in
theorem am_k178_0 : am_cks 178 0 80 = true := by decide +kernel
set_option maxRecDepth 100000 in
theorem am_k179_0 : am_cks 179 0 80 = true := by decide +kernel
set_option maxRecDepth 100000 in
theorem am_k180_0 : am_cks 180 0 80 = true := by decide +kernel
set_option maxRecDepth 100000 in
theorem am_k181_0 : am_cks 181 0 80 = true := by decide +kernel
set_option maxRecDepth 100000 in
theorem am_k182_0 : am_cks 182 0 80 = true := by decide +kernel
set_option maxRecDepth 100000 in
theorem am_k183_0 : am_cks 183 0 80 = true := by decide +kernel
set_option maxRecDepth 100000 in
theorem am_k184_0 : am_cks 184 0 80 = true := by decide +kernel
set_option maxRecDepth 100000 in
theorem am_k185_0 : am_cks 185 0 80 = true := by decide +kernel
set_option maxRecDepth 100000 in
theorem am_k186_0 : am_cks 186 0 80 = true := by decide +kernel
set_option maxRecDepth 100000 in
theorem am_k187_0 : am_cks 187 0 80 = true := by decide +kernel
set_option maxRecDepth 100000 in
theorem am_k188_0 : am_cks 188 0 80 = true := by decide +kernel
set_option maxRecDepth 100000 in
theorem am_k189_0 : am_cks 189 0 80 = true := by decide +kernel
set_option maxRecDepth 100000 in
theorem am_k190_0 : am_cks 190 0 80 = true := by decide +kernel
set_option maxRecDepth 100000 in
theorem am_k191_0 : am_cks 191 0 80 = true := by decide +kernel
set_option maxRecDepth 100000 in
theorem am_k192_0 : am_cks 192 0 80 = true := by decide +kernel
