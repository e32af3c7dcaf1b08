/-! the code of the law, 1 -/
set_option maxRecDepth 100000 in
theorem am_Q364_8 : am_kL cL_law am_c364_8 = true := by decide +kernel
set_option maxRecDepth 100000 in
theorem am_Q364_9 : am_kL cL_law am_c364_9 = true := by decide +kernel
set_option maxRecDepth 100000 in
theorem am_Q364_10 : am_kL cL_law am_c364_10 = true := by decide +kernel
set_option maxRecDepth 100000 in
theorem am_Q364_11 : am_kL cL_law am_c364_11 = true := by decide +kernel
set_option maxRecDepth 100000 in
theorem am_Q364_12 : am_kL cL_law am_c364_12 = true := by decide +kernel
set_option maxRecDepth 100000 in
theorem am_Q364_13 : am_kL cL_law am_c364_13 = true := by decide +kernel
set_option maxRecDepth 100000 in
theorem am_Q364_14 : am_kL cL_law am_c364_14 = true := by decide +kernel
