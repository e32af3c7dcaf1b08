/-! the code of the law, 2 -/
set_option maxRecDepth 100000 in
theorem am_Q364_15 : am_kL cL_law am_c364_15 = true := by decide +kernel
set_option maxRecDepth 100000 in
theorem am_Q364_16 : am_kL cL_law am_c364_16 = true := by decide +kernel
set_option maxRecDepth 100000 in
theorem am_Q364_17 : am_kL cL_law am_c364_17 = true := by decide +kernel
set_option maxRecDepth 100000 in
theorem am_Q364_18 : am_kL cL_law am_c364_18 = true := by decide +kernel
set_option maxRecDepth 100000 in
theorem am_Q364_19 : am_kL cL_law am_c364_19 = true := by decide +kernel
set_option maxRecDepth 100000 in
theorem am_Q364_20 : am_kL cL_law am_c364_20 = true := by decide +kernel
set_option maxRecDepth 100000 in
theorem am_Q364_21 : am_kL cL_law am_c364_21 = true := by decide +kernel
