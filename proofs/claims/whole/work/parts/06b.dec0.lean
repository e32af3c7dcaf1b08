/-! the code of each method is that of the printed bytes, 0 -/
set_option maxRecDepth 100000 in
theorem am_Q0 : am_kL cX0_init am_c0 = true := by decide +kernel
set_option maxRecDepth 100000 in
theorem am_Q1_0 : am_kL cX0_isBetween am_c1_0 = true := by decide +kernel
set_option maxRecDepth 100000 in
theorem am_Q1_1 : am_kL cX0_isBetween am_c1_1 = true := by decide +kernel
set_option maxRecDepth 100000 in
theorem am_Q1_2 : am_kL cX0_isBetween am_c1_2 = true := by decide +kernel
set_option maxRecDepth 100000 in
theorem am_Q1_3 : am_kL cX0_isBetween am_c1_3 = true := by decide +kernel
theorem am_Q1 : am_kL cX0_isBetween am_c1 = true := (am_kL2 am_Q1_0 (am_kL2 am_Q1_1 (am_kL2 am_Q1_2 am_Q1_3)))
set_option maxRecDepth 100000 in
theorem am_Q2 : am_kL cX0_heightOfLine am_c2 = true := by decide +kernel
set_option maxRecDepth 100000 in
theorem am_Q3 : am_kL cX0_heightsApart am_c3 = true := by decide +kernel
set_option maxRecDepth 100000 in
theorem am_Q4 : am_kL cX1_init am_c4 = true := by decide +kernel
set_option maxRecDepth 100000 in
theorem am_Q5 : am_kL cX1_copyFrom am_c5 = true := by decide +kernel
set_option maxRecDepth 100000 in
theorem am_Q6 : am_kL cX1_number am_c6 = true := by decide +kernel
set_option maxRecDepth 100000 in
theorem am_Q7_0 : am_kL cX2_init am_c7_0 = true := by decide +kernel
set_option maxRecDepth 100000 in
theorem am_Q7_1 : am_kL cX2_init am_c7_1 = true := by decide +kernel
theorem am_Q7 : am_kL cX2_init am_c7 = true := (am_kL2 am_Q7_0 am_Q7_1)
set_option maxRecDepth 100000 in
theorem am_Q8 : am_kL cX2_clear am_c8 = true := by decide +kernel
set_option maxRecDepth 100000 in
theorem am_Q9 : am_kL cX2_addDefaultWind am_c9 = true := by decide +kernel
set_option maxRecDepth 100000 in
theorem am_Q10_0 : am_kL cX2_copyFrom am_c10_0 = true := by decide +kernel
set_option maxRecDepth 100000 in
theorem am_Q10_1 : am_kL cX2_copyFrom am_c10_1 = true := by decide +kernel
set_option maxRecDepth 100000 in
theorem am_Q10_2 : am_kL cX2_copyFrom am_c10_2 = true := by decide +kernel
theorem am_Q10 : am_kL cX2_copyFrom am_c10 = true := (am_kL2 am_Q10_0 (am_kL2 am_Q10_1 am_Q10_2))
set_option maxRecDepth 100000 in
theorem am_Q11 : am_kL cX2_kitesInState am_c11 = true := by decide +kernel
set_option maxRecDepth 100000 in
theorem am_Q12 : am_kL cX2_windNumberAt am_c12 = true := by decide +kernel
set_option maxRecDepth 100000 in
theorem am_Q13 : am_kL cX2_linesCross am_c13 = true := by decide +kernel
set_option maxRecDepth 100000 in
theorem am_Q14 : am_kL cX2_linesRub am_c14 = true := by decide +kernel
set_option maxRecDepth 100000 in
theorem am_Q15 : am_kL cX2_pairs am_c15 = true := by decide +kernel
set_option maxRecDepth 100000 in
theorem am_Q16_0 : am_kL cX2_pickerAt am_c16_0 = true := by decide +kernel
set_option maxRecDepth 100000 in
theorem am_Q16_1 : am_kL cX2_pickerAt am_c16_1 = true := by decide +kernel
theorem am_Q16 : am_kL cX2_pickerAt am_c16 = true := (am_kL2 am_Q16_0 am_Q16_1)
set_option maxRecDepth 100000 in
theorem am_Q17 : am_kL cX2_eventAt am_c17 = true := by decide +kernel
set_option maxRecDepth 100000 in
theorem am_Q18 : am_kL cX2_tellOfKite am_c18 = true := by decide +kernel
set_option maxRecDepth 100000 in
theorem am_Q19 : am_kL cX2_tell am_c19 = true := by decide +kernel
set_option maxRecDepth 100000 in
theorem am_Q20 : am_kL cX2_passTicks am_c20 = true := by decide +kernel
set_option maxRecDepth 100000 in
theorem am_Q21_0 : am_kL cX2_tick am_c21_0 = true := by decide +kernel
set_option maxRecDepth 100000 in
theorem am_Q21_1 : am_kL cX2_tick am_c21_1 = true := by decide +kernel
theorem am_Q21 : am_kL cX2_tick am_c21 = true := (am_kL2 am_Q21_0 am_Q21_1)
set_option maxRecDepth 100000 in
theorem am_Q22_0 : am_kL cX2_fly am_c22_0 = true := by decide +kernel
set_option maxRecDepth 100000 in
theorem am_Q22_1 : am_kL cX2_fly am_c22_1 = true := by decide +kernel
set_option maxRecDepth 100000 in
theorem am_Q22_2 : am_kL cX2_fly am_c22_2 = true := by decide +kernel
theorem am_Q22 : am_kL cX2_fly am_c22 = true := (am_kL2 am_Q22_0 (am_kL2 am_Q22_1 am_Q22_2))
set_option maxRecDepth 100000 in
theorem am_Q23_0 : am_kL cX2_rubAllLines am_c23_0 = true := by decide +kernel
set_option maxRecDepth 100000 in
theorem am_Q23_1 : am_kL cX2_rubAllLines am_c23_1 = true := by decide +kernel
set_option maxRecDepth 100000 in
theorem am_Q23_2 : am_kL cX2_rubAllLines am_c23_2 = true := by decide +kernel
theorem am_Q23 : am_kL cX2_rubAllLines am_c23 = true := (am_kL2 am_Q23_0 (am_kL2 am_Q23_1 am_Q23_2))
set_option maxRecDepth 100000 in
theorem am_Q24 : am_kL cX2_wearLine am_c24 = true := by decide +kernel
set_option maxRecDepth 100000 in
theorem am_Q25_0 : am_kL cX2_cutWornLines am_c25_0 = true := by decide +kernel
set_option maxRecDepth 100000 in
theorem am_Q25_1 : am_kL cX2_cutWornLines am_c25_1 = true := by decide +kernel
theorem am_Q25 : am_kL cX2_cutWornLines am_c25 = true := (am_kL2 am_Q25_0 am_Q25_1)
set_option maxRecDepth 100000 in
theorem am_Q26 : am_kL cX2_drift am_c26 = true := by decide +kernel
set_option maxRecDepth 100000 in
theorem am_Q27_0 : am_kL cX2_pickUpFallenKites am_c27_0 = true := by decide +kernel
set_option maxRecDepth 100000 in
theorem am_Q27_1 : am_kL cX2_pickUpFallenKites am_c27_1 = true := by decide +kernel
theorem am_Q27 : am_kL cX2_pickUpFallenKites am_c27 = true := (am_kL2 am_Q27_0 am_Q27_1)
set_option maxRecDepth 100000 in
theorem am_Q28 : am_kL cX3_init am_c28 = true := by decide +kernel
set_option maxRecDepth 100000 in
theorem am_Q29 : am_kL cX3_clear am_c29 = true := by decide +kernel
set_option maxRecDepth 100000 in
theorem am_Q30 : am_kL cX3_remember am_c30 = true := by decide +kernel
set_option maxRecDepth 100000 in
theorem am_Q31 : am_kL cX3_takeBack am_c31 = true := by decide +kernel
set_option maxRecDepth 100000 in
theorem am_Q32 : am_kL cX4_init am_c32 = true := by decide +kernel
set_option maxRecDepth 100000 in
theorem am_Q33 : am_kL cX4_addFour am_c33 = true := by decide +kernel
set_option maxRecDepth 100000 in
theorem am_Q34 : am_kL cX5_init am_c34 = true := by decide +kernel
set_option maxRecDepth 100000 in
theorem am_Q35_0 : am_kL cX5_copyFrom am_c35_0 = true := by decide +kernel
set_option maxRecDepth 100000 in
theorem am_Q35_1 : am_kL cX5_copyFrom am_c35_1 = true := by decide +kernel
theorem am_Q35 : am_kL cX5_copyFrom am_c35 = true := (am_kL2 am_Q35_0 am_Q35_1)
set_option maxRecDepth 100000 in
theorem am_Q36 : am_kL cX5_startAt am_c36 = true := by decide +kernel
set_option maxRecDepth 100000 in
theorem am_Q37 : am_kL cX5_takeNewLine am_c37 = true := by decide +kernel
set_option maxRecDepth 100000 in
theorem am_Q38 : am_kL cX5_goDownAtFlyer am_c38 = true := by decide +kernel
set_option maxRecDepth 100000 in
theorem am_Q39 : am_kL cX5_number am_c39 = true := by decide +kernel
set_option maxRecDepth 100000 in
theorem am_Q40 : am_kL cX5_isLost am_c40 = true := by decide +kernel
set_option maxRecDepth 100000 in
theorem am_Q41_0 : am_kL cX5_distanceTo am_c41_0 = true := by decide +kernel
set_option maxRecDepth 100000 in
theorem am_Q41_1 : am_kL cX5_distanceTo am_c41_1 = true := by decide +kernel
theorem am_Q41 : am_kL cX5_distanceTo am_c41 = true := (am_kL2 am_Q41_0 am_Q41_1)
set_option maxRecDepth 100000 in
theorem am_Q42 : am_kL cX5_spanNow am_c42 = true := by decide +kernel
set_option maxRecDepth 100000 in
theorem am_Q43 : am_kL cX5_slackNow am_c43 = true := by decide +kernel
set_option maxRecDepth 100000 in
theorem am_Q44 : am_kL cX5_wearBrought am_c44 = true := by decide +kernel
set_option maxRecDepth 100000 in
theorem am_Q45 : am_kL cX5_blow am_c45 = true := by decide +kernel
set_option maxRecDepth 100000 in
theorem am_Q46_0 : am_kL cX5_pullIn am_c46_0 = true := by decide +kernel
set_option maxRecDepth 100000 in
theorem am_Q46_1 : am_kL cX5_pullIn am_c46_1 = true := by decide +kernel
set_option maxRecDepth 100000 in
theorem am_Q46_2 : am_kL cX5_pullIn am_c46_2 = true := by decide +kernel
theorem am_Q46 : am_kL cX5_pullIn am_c46 = true := (am_kL2 am_Q46_0 (am_kL2 am_Q46_1 am_Q46_2))
set_option maxRecDepth 100000 in
theorem am_Q47 : am_kL cX6_init am_c47 = true := by decide +kernel
set_option maxRecDepth 100000 in
theorem am_Q48 : am_kL cX6_clear am_c48 = true := by decide +kernel
set_option maxRecDepth 100000 in
theorem am_Q49 : am_kL cX6_copyFrom am_c49 = true := by decide +kernel
set_option maxRecDepth 100000 in
theorem am_Q50 : am_kL cX6_addWord am_c50 = true := by decide +kernel
set_option maxRecDepth 100000 in
theorem am_Q51 : am_kL cX6_numberOf am_c51 = true := by decide +kernel
set_option maxRecDepth 100000 in
theorem am_Q52 : am_kL cX6_isSame am_c52 = true := by decide +kernel
set_option maxRecDepth 100000 in
theorem am_Q53 : am_kL cX7_init am_c53 = true := by decide +kernel
set_option maxRecDepth 100000 in
theorem am_Q54 : am_kL cX7_addByte am_c54 = true := by decide +kernel
set_option maxRecDepth 100000 in
theorem am_Q55 : am_kL cX7_addGap am_c55 = true := by decide +kernel
set_option maxRecDepth 100000 in
theorem am_Q56 : am_kL cX7_addHyphenIfEmpty am_c56 = true := by decide +kernel
set_option maxRecDepth 100000 in
theorem am_Q57 : am_kL cX7_addText am_c57 = true := by decide +kernel
set_option maxRecDepth 100000 in
theorem am_Q58 : am_kL cX7_addName am_c58 = true := by decide +kernel
