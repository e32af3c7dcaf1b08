/-! the code of the law, 0 -/
set_option maxRecDepth 100000 in
theorem am_Q364_0 : am_kL cL_law am_c364_0 = true := by decide +kernel
set_option maxRecDepth 100000 in
theorem am_Q364_1 : am_kL cL_law am_c364_1 = true := by decide +kernel
set_option maxRecDepth 100000 in
theorem am_Q364_2 : am_kL cL_law am_c364_2 = true := by decide +kernel
set_option maxRecDepth 100000 in
theorem am_Q364_3 : am_kL cL_law am_c364_3 = true := by decide +kernel
set_option maxRecDepth 100000 in
theorem am_Q364_4 : am_kL cL_law am_c364_4 = true := by decide +kernel
set_option maxRecDepth 100000 in
theorem am_Q364_5 : am_kL cL_law am_c364_5 = true := by decide +kernel
set_option maxRecDepth 100000 in
theorem am_Q364_6 : am_kL cL_law am_c364_6 = true := by decide +kernel
set_option maxRecDepth 100000 in
theorem am_Q364_7 : am_kL cL_law am_c364_7 = true := by decide +kernel
