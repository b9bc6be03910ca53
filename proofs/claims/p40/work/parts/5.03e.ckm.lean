/-! the checks, 22 -/
set_option maxRecDepth 100000 in
theorem am_k173_0 : am_cks 173 0 80 = true := by decide +kernel
set_option maxRecDepth 100000 in
theorem am_k174_0 : am_cks 174 0 80 = true := by decide +kernel
set_option maxRecDepth 100000 in
theorem am_k175_0 : am_cks 175 0 80 = true := by decide +kernel
set_option maxRecDepth 100000 in
theorem am_k176_0 : am_cks 176 0 80 = true := by decide +kernel
set_option maxRecDepth 100000 in
theorem am_k177_0 : am_cks 177 0 80 = true := by decide +kernel
set_option maxRecDepth 100000 in
theorem am_k178_0 : am_cks 178 0 80 = true := by decide +kernel
set_option maxRecDepth 100000 in
theorem am_k179_0 : am_cks 179 0 80 = true := by decide +kernel
set_option maxRecDepth 100000 in
theorem am_k180_0 : am_cks 180 0 80 = true := by decide +kernel
set_option maxRecDepth 100000 in
theorem am_k181_0 : am_cks 181 0 80 = true := by decide +kernel
set_option maxRecDepth 100000 in
theorem am_k182_0 : am_cks 182 0 80 = true := by decide +kernel
set_option maxRecDepth 100000 in
theorem am_k183_0 : am_cks 183 0 80 = true := by decide +kernel
set_option maxRecDepth 100000 in
theorem am_k184_0 : am_cks 184 0 80 = true := by decide +kernel
set_option maxRecDepth 100000 in
theorem am_k185_0 : am_cks 185 0 80 = true := by decide +kernel
set_option maxRecDepth 100000 in
theorem am_k186_0 : am_cks 186 0 80 = true := by decide +kernel
set_option maxRecDepth 100000 in
theorem am_k187_0 : am_cks 187 0 80 = true := by decide +kernel
set_option maxRecDepth 100000 in
theorem am_k188_0 : am_cks 188 0 80 = true := by decide +kernel
set_option maxRecDepth 100000 in
theorem am_k189_0 : am_cks 189 0 80 = true := by decide +kernel
set_option maxRecDepth 100000 in
theorem am_k190_0 : am_cks 190 0 80 = true := by decide +kernel
set_option maxRecDepth 100000 in
theorem am_k191_0 : am_cks 191 0 80 = true := by decide +kernel
set_option maxRecDepth 100000 in
theorem am_k192_0 : am_cks 192 0 80 = true := by decide +kernel
set_option maxRecDepth 100000 in
theorem am_k193_0 : am_cks 193 0 80 = true := by decide +kernel
set_option maxRecDepth 100000 in
theorem am_k194_0 : am_cks 194 0 80 = true := by decide +kernel
set_option maxRecDepth 100000 in
theorem am_k195_0 : am_cks 195 0 80 = true := by decide +kernel
set_option maxRecDepth 100000 in
theorem am_k196_0 : am_cks 196 0 80 = true := by decide +kernel
