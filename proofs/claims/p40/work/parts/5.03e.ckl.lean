/-! the checks, 21 -/
set_option maxRecDepth 100000 in
theorem am_k228_640 : am_cks 228 640 80 = true := by decide +kernel
