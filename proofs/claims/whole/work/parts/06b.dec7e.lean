/-! the code of the law, 5 -/
set_option maxRecDepth 100000 in
theorem am_Q364_36 : am_kL cL_law am_c364_36 = true := by decide +kernel
set_option maxRecDepth 100000 in
theorem am_Q364_37 : am_kL cL_law am_c364_37 = true := by decide +kernel
set_option maxRecDepth 100000 in
theorem am_Q364_38 : am_kL cL_law am_c364_38 = true := by decide +kernel
set_option maxRecDepth 100000 in
theorem am_Q364_39 : am_kL cL_law am_c364_39 = true := by decide +kernel
set_option maxRecDepth 100000 in
theorem am_Q364_40 : am_kL cL_law am_c364_40 = true := by decide +kernel
set_option maxRecDepth 100000 in
theorem am_Q364_41 : am_kL cL_law am_c364_41 = true := by decide +kernel
set_option maxRecDepth 100000 in
theorem am_Q364_42 : am_kL cL_law am_c364_42 = true := by decide +kernel
