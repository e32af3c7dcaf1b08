/-! the code of the law, 4 -/
set_option maxRecDepth 100000 in
theorem am_Q364_29 : am_kL cL_law am_c364_29 = true := by decide +kernel
set_option maxRecDepth 100000 in
theorem am_Q364_30 : am_kL cL_law am_c364_30 = true := by decide +kernel
set_option maxRecDepth 100000 in
theorem am_Q364_31 : am_kL cL_law am_c364_31 = true := by decide +kernel
set_option maxRecDepth 100000 in
theorem am_Q364_32 : am_kL cL_law am_c364_32 = true := by decide +kernel
set_option maxRecDepth 100000 in
theorem am_Q364_33 : am_kL cL_law am_c364_33 = true := by decide +kernel
set_option maxRecDepth 100000 in
theorem am_Q364_34 : am_kL cL_law am_c364_34 = true := by decide +kernel
set_option maxRecDepth 100000 in
theorem am_Q364_35 : am_kL cL_law am_c364_35 = true := by decide +kernel
