/-! the checks, 3 -/
set_option maxRecDepth 100000 in
theorem am_k142_0 : am_cks 142 0 80 = true := by decide +kernel
set_option maxRecDepth 100000 in
theorem am_k143_0 : am_cks 143 0 80 = true := by decide +kernel
set_option maxRecDepth 100000 in
theorem am_k144_0 : am_cks 144 0 80 = true := by decide +kernel
set_option maxRecDepth 100000 in
theorem am_k144_80 : am_cks 144 80 80 = true := by decide +kernel
set_option maxRecDepth 100000 in
theorem am_k145_0 : am_cks 145 0 80 = true := by decide +kernel
set_option maxRecDepth 100000 in
theorem am_k146_0 : am_cks 146 0 80 = true := by decide +kernel
set_option maxRecDepth 100000 in
theorem am_k147_0 : am_cks 147 0 80 = true := by decide +kernel
set_option maxRecDepth 100000 in
theorem am_k147_80 : am_cks 147 80 80 = true := by decide +kernel
set_option maxRecDepth 100000 in
theorem am_k147_160 : am_cks 147 160 80 = true := by decide +kernel
set_option maxRecDepth 100000 in
theorem am_k148_0 : am_cks 148 0 80 = true := by decide +kernel
set_option maxRecDepth 100000 in
theorem am_k149_0 : am_cks 149 0 80 = true := by decide +kernel
set_option maxRecDepth 100000 in
theorem am_k150_0 : am_cks 150 0 80 = true := by decide +kernel
set_option maxRecDepth 100000 in
theorem am_k151_0 : am_cks 151 0 80 = true := by decide +kernel
set_option maxRecDepth 100000 in
theorem am_k152_0 : am_cks 152 0 80 = true := by decide +kernel
set_option maxRecDepth 100000 in
theorem am_k153_0 : am_cks 153 0 80 = true := by decide +kernel
set_option maxRecDepth 100000 in
theorem am_k154_0 : am_cks 154 0 80 = true := by decide +kernel
set_option maxRecDepth 100000 in
theorem am_k155_0 : am_cks 155 0 80 = true := by decide +kernel
set_option maxRecDepth 100000 in
theorem am_k156_0 : am_cks 156 0 80 = true := by decide +kernel
set_option maxRecDepth 100000 in
theorem am_k157_0 : am_cks 157 0 80 = true := by decide +kernel
set_option maxRecDepth 100000 in
theorem am_k157_80 : am_cks 157 80 80 = true := by decide +kernel
set_option maxRecDepth 100000 in
theorem am_k157_160 : am_cks 157 160 80 = true := by decide +kernel
set_option maxRecDepth 100000 in
theorem am_k158_0 : am_cks 158 0 80 = true := by decide +kernel
set_option maxRecDepth 100000 in
theorem am_k158_80 : am_cks 158 80 80 = true := by decide +kernel
set_option maxRecDepth 100000 in
theorem am_k159_0 : am_cks 159 0 80 = true := by decide +kernel
set_option maxRecDepth 100000 in
theorem am_k159_80 : am_cks 159 80 80 = true := by decide +kernel
set_option maxRecDepth 100000 in
theorem am_k159_160 : am_cks 159 160 80 = true := by decide +kernel
set_option maxRecDepth 100000 in
theorem am_k160_0 : am_cks 160 0 80 = true := by decide +kernel
set_option maxRecDepth 100000 in
theorem am_k160_80 : am_cks 160 80 80 = true := by decide +kernel
set_option maxRecDepth 100000 in
theorem am_k160_160 : am_cks 160 160 80 = true := by decide +kernel
set_option maxRecDepth 100000 in
theorem am_k161_0 : am_cks 161 0 80 = true := by decide +kernel
set_option maxRecDepth 100000 in
theorem am_k162_0 : am_cks 162 0 80 = true := by decide +kernel
