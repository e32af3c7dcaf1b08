/-! the code of the law, 3 -/
set_option maxRecDepth 100000 in
theorem am_Q364_22 : am_kL cL_law am_c364_22 = true := by decide +kernel
set_option maxRecDepth 100000 in
theorem am_Q364_23 : am_kL cL_law am_c364_23 = true := by decide +kernel
set_option maxRecDepth 100000 in
theorem am_Q364_24 : am_kL cL_law am_c364_24 = true := by decide +kernel
set_option maxRecDepth 100000 in
theorem am_Q364_25 : am_kL cL_law am_c364_25 = true := by decide +kernel
set_option maxRecDepth 100000 in
theorem am_Q364_26 : am_kL cL_law am_c364_26 = true := by decide +kernel
set_option maxRecDepth 100000 in
theorem am_Q364_27 : am_kL cL_law am_c364_27 = true := by decide +kernel
set_option maxRecDepth 100000 in
theorem am_Q364_28 : am_kL cL_law am_c364_28 = true := by decide +kernel
