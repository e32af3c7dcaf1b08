/-! the code of the law, 6 -/
set_option maxRecDepth 100000 in
theorem am_Q364_43 : am_kL cL_law am_c364_43 = true := by decide +kernel
set_option maxRecDepth 100000 in
theorem am_Q364_44 : am_kL cL_law am_c364_44 = true := by decide +kernel
set_option maxRecDepth 100000 in
theorem am_Q364_45 : am_kL cL_law am_c364_45 = true := by decide +kernel
set_option maxRecDepth 100000 in
theorem am_Q364_46 : am_kL cL_law am_c364_46 = true := by decide +kernel
set_option maxRecDepth 100000 in
theorem am_Q364_47 : am_kL cL_law am_c364_47 = true := by decide +kernel
set_option maxRecDepth 100000 in
theorem am_Q364_48 : am_kL cL_law am_c364_48 = true := by decide +kernel
set_option maxRecDepth 100000 in
theorem am_Q364_49 : am_kL cL_law am_c364_49 = true := by decide +kernel
