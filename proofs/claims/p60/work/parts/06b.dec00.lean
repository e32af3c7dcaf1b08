/-! the code of each method is that of the printed bytes, 0 -/
set_option maxRecDepth 100000 in
theorem am_Q0 : am_kL cX0_init am_c0 = true := by decide +kernel
set_option maxRecDepth 100000 in
theorem am_Q1_0 : am_kL cX0_isBetween am_c1_0 = true := by decide +kernel
set_option maxRecDepth 100000 in
theorem am_Q1_1 : am_kL cX0_isBetween am_c1_1 = true := by decide +kernel
set_option maxRecDepth 100000 in
theorem am_Q1_2 : am_kL cX0_isBetween am_c1_2 = true := by decide +kernel
set_option maxRecDepth 100000 in
theorem am_Q1_3 : am_kL cX0_isBetween am_c1_3 = true := by decide +kernel
theorem am_Q1 : am_kL cX0_isBetween am_c1 = true := (am_kL2 am_Q1_0 (am_kL2 am_Q1_1 (am_kL2 am_Q1_2 am_Q1_3)))
set_option maxRecDepth 100000 in
theorem am_Q2 : am_kL cX0_heightOfLine am_c2 = true := by decide +kernel
set_option maxRecDepth 100000 in
theorem am_Q3 : am_kL cX0_heightsApart am_c3 = true := by decide +kernel
set_option maxRecDepth 100000 in
theorem am_Q4 : am_kL cX1_init am_c4 = true := by decide +kernel
set_option maxRecDepth 100000 in
theorem am_Q5 : am_kL cX1_copyFrom am_c5 = true := by decide +kernel
set_option maxRecDepth 100000 in
theorem am_Q7_0 : am_kL cX2_init am_c7_0 = true := by decide +kernel
set_option maxRecDepth 100000 in
theorem am_Q7_1 : am_kL cX2_init am_c7_1 = true := by decide +kernel
theorem am_Q7 : am_kL cX2_init am_c7 = true := (am_kL2 am_Q7_0 am_Q7_1)
set_option maxRecDepth 100000 in
theorem am_Q8 : am_kL cX2_clear am_c8 = true := by decide +kernel
set_option maxRecDepth 100000 in
theorem am_Q9 : am_kL cX2_addDefaultWind am_c9 = true := by decide +kernel
set_option maxRecDepth 100000 in
theorem am_Q10_0 : am_kL cX2_copyFrom am_c10_0 = true := by decide +kernel
set_option maxRecDepth 100000 in
theorem am_Q10_1 : am_kL cX2_copyFrom am_c10_1 = true := by decide +kernel
set_option maxRecDepth 100000 in
theorem am_Q10_2 : am_kL cX2_copyFrom am_c10_2 = true := by decide +kernel
theorem am_Q10 : am_kL cX2_copyFrom am_c10 = true := (am_kL2 am_Q10_0 (am_kL2 am_Q10_1 am_Q10_2))
set_option maxRecDepth 100000 in
theorem am_Q11 : am_kL cX2_kitesInState am_c11 = true := by decide +kernel
set_option maxRecDepth 100000 in
theorem am_Q12 : am_kL cX2_windNumberAt am_c12 = true := by decide +kernel
set_option maxRecDepth 100000 in
theorem am_Q13 : am_kL cX2_linesCross am_c13 = true := by decide +kernel
set_option maxRecDepth 100000 in
theorem am_Q14 : am_kL cX2_linesRub am_c14 = true := by decide +kernel
set_option maxRecDepth 100000 in
theorem am_Q15 : am_kL cX2_pairs am_c15 = true := by decide +kernel
set_option maxRecDepth 100000 in
theorem am_Q16_0 : am_kL cX2_pickerAt am_c16_0 = true := by decide +kernel
set_option maxRecDepth 100000 in
theorem am_Q16_1 : am_kL cX2_pickerAt am_c16_1 = true := by decide +kernel
theorem am_Q16 : am_kL cX2_pickerAt am_c16 = true := (am_kL2 am_Q16_0 am_Q16_1)
set_option maxRecDepth 100000 in
theorem am_Q17 : am_kL cX2_eventAt am_c17 = true := by decide +kernel
set_option maxRecDepth 100000 in
theorem am_Q18 : am_kL cX2_tellOfKite am_c18 = true := by decide +kernel
set_option maxRecDepth 100000 in
theorem am_Q19 : am_kL cX2_tell am_c19 = true := by decide +kernel
set_option maxRecDepth 100000 in
theorem am_Q20 : am_kL cX2_passTicks am_c20 = true := by decide +kernel
set_option maxRecDepth 100000 in
theorem am_Q21_0 : am_kL cX2_tick am_c21_0 = true := by decide +kernel
set_option maxRecDepth 100000 in
theorem am_Q21_1 : am_kL cX2_tick am_c21_1 = true := by decide +kernel
theorem am_Q21 : am_kL cX2_tick am_c21 = true := (am_kL2 am_Q21_0 am_Q21_1)
set_option maxRecDepth 100000 in
theorem am_Q22_0 : am_kL cX2_fly am_c22_0 = true := by decide +kernel
set_option maxRecDepth 100000 in
theorem am_Q22_1 : am_kL cX2_fly am_c22_1 = true := by decide +kernel
set_option maxRecDepth 100000 in
theorem am_Q22_2 : am_kL cX2_fly am_c22_2 = true := by decide +kernel
theorem am_Q22 : am_kL cX2_fly am_c22 = true := (am_kL2 am_Q22_0 (am_kL2 am_Q22_1 am_Q22_2))
set_option maxRecDepth 100000 in
theorem am_Q23_0 : am_kL cX2_rubAllLines am_c23_0 = true := by decide +kernel
set_option maxRecDepth 100000 in
theorem am_Q23_1 : am_kL cX2_rubAllLines am_c23_1 = true := by decide +kernel
set_option maxRecDepth 100000 in
theorem am_Q23_2 : am_kL cX2_rubAllLines am_c23_2 = true := by decide +kernel
theorem am_Q23 : am_kL cX2_rubAllLines am_c23 = true := (am_kL2 am_Q23_0 (am_kL2 am_Q23_1 am_Q23_2))
