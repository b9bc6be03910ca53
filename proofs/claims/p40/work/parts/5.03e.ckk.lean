/-! the checks, 20 -/
set_option maxRecDepth 100000 in
theorem am_k75_0 : am_cks 75 0 80 = true := by decide +kernel
set_option maxRecDepth 100000 in
theorem am_k76_0 : am_cks 76 0 80 = true := by decide +kernel
set_option maxRecDepth 100000 in
theorem am_k77_0 : am_cks 77 0 80 = true := by decide +kernel
set_option maxRecDepth 100000 in
theorem am_k78_0 : am_cks 78 0 80 = true := by decide +kernel
set_option maxRecDepth 100000 in
theorem am_k79_0 : am_cks 79 0 80 = true := by decide +kernel
set_option maxRecDepth 100000 in
theorem am_k80_0 : am_cks 80 0 80 = true := by decide +kernel
set_option maxRecDepth 100000 in
theorem am_k81_0 : am_cks 81 0 80 = true := by decide +kernel
set_option maxRecDepth 100000 in
theorem am_k82_0 : am_cks 82 0 80 = true := by decide +kernel
set_option maxRecDepth 100000 in
theorem am_k83_0 : am_cks 83 0 80 = true := by decide +kernel
set_option maxRecDepth 100000 in
theorem am_k84_0 : am_cks 84 0 80 = true := by decide +kernel
set_option maxRecDepth 100000 in
theorem am_k85_0 : am_cks 85 0 80 = true := by decide +kernel
set_option maxRecDepth 100000 in
theorem am_k86_0 : am_cks 86 0 80 = true := by decide +kernel
set_option maxRecDepth 100000 in
theorem am_k87_0 : am_cks 87 0 80 = true := by decide +kernel
set_option maxRecDepth 100000 in
theorem am_k88_0 : am_cks 88 0 80 = true := by decide +kernel
set_option maxRecDepth 100000 in
theorem am_k89_0 : am_cks 89 0 80 = true := by decide +kernel
set_option maxRecDepth 100000 in
theorem am_k90_0 : am_cks 90 0 80 = true := by decide +kernel
set_option maxRecDepth 100000 in
theorem am_k91_0 : am_cks 91 0 80 = true := by decide +kernel
