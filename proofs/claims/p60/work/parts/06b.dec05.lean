/-! the code of each method is that of the printed bytes, 5 -/
set_option maxRecDepth 100000 in
theorem am_Q363_0 : am_kL cL_acts am_c363_0 = true := by decide +kernel
set_option maxRecDepth 100000 in
theorem am_Q363_1 : am_kL cL_acts am_c363_1 = true := by decide +kernel
set_option maxRecDepth 100000 in
theorem am_Q363_2 : am_kL cL_acts am_c363_2 = true := by decide +kernel
set_option maxRecDepth 100000 in
theorem am_Q363_3 : am_kL cL_acts am_c363_3 = true := by decide +kernel
theorem am_Q363 : am_kL cL_acts am_c363 = true := (am_kL2 am_Q363_0 (am_kL2 am_Q363_1 (am_kL2 am_Q363_2 am_Q363_3)))
set_option maxRecDepth 100000 in
theorem am_Q364_0 : am_kL cL_law am_c364_0 = true := by decide +kernel
set_option maxRecDepth 100000 in
theorem am_Q364_1 : am_kL cL_law am_c364_1 = true := by decide +kernel
set_option maxRecDepth 100000 in
theorem am_Q364_2 : am_kL cL_law am_c364_2 = true := by decide +kernel
set_option maxRecDepth 100000 in
theorem am_Q364_3 : am_kL cL_law am_c364_3 = true := by decide +kernel
set_option maxRecDepth 100000 in
theorem am_Q364_4 : am_kL cL_law am_c364_4 = true := by decide +kernel
set_option maxRecDepth 100000 in
theorem am_Q364_5 : am_kL cL_law am_c364_5 = true := by decide +kernel
set_option maxRecDepth 100000 in
theorem am_Q364_6 : am_kL cL_law am_c364_6 = true := by decide +kernel
set_option maxRecDepth 100000 in
theorem am_Q364_7 : am_kL cL_law am_c364_7 = true := by decide +kernel
theorem am_Q364 : am_kL cL_law am_c364 = true := (am_kL2 am_Q364_0 (am_kL2 am_Q364_1 (am_kL2 am_Q364_2 (am_kL2 am_Q364_3 (am_kL2 am_Q364_4 (am_kL2 am_Q364_5 (am_kL2 am_Q364_6 am_Q364_7)))))))
