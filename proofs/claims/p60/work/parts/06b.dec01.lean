/-! the code of each method is that of the printed bytes, 1 -/
set_option maxRecDepth 100000 in
theorem am_Q24 : am_kL cX2_wearLine am_c24 = true := by decide +kernel
set_option maxRecDepth 100000 in
theorem am_Q25_0 : am_kL cX2_cutWornLines am_c25_0 = true := by decide +kernel
set_option maxRecDepth 100000 in
theorem am_Q25_1 : am_kL cX2_cutWornLines am_c25_1 = true := by decide +kernel
theorem am_Q25 : am_kL cX2_cutWornLines am_c25 = true := (am_kL2 am_Q25_0 am_Q25_1)
set_option maxRecDepth 100000 in
theorem am_Q26 : am_kL cX2_drift am_c26 = true := by decide +kernel
set_option maxRecDepth 100000 in
theorem am_Q27_0 : am_kL cX2_pickUpFallenKites am_c27_0 = true := by decide +kernel
set_option maxRecDepth 100000 in
theorem am_Q27_1 : am_kL cX2_pickUpFallenKites am_c27_1 = true := by decide +kernel
theorem am_Q27 : am_kL cX2_pickUpFallenKites am_c27 = true := (am_kL2 am_Q27_0 am_Q27_1)
set_option maxRecDepth 100000 in
theorem am_Q28 : am_kL cX3_init am_c28 = true := by decide +kernel
set_option maxRecDepth 100000 in
theorem am_Q29 : am_kL cX3_clear am_c29 = true := by decide +kernel
set_option maxRecDepth 100000 in
theorem am_Q30 : am_kL cX3_remember am_c30 = true := by decide +kernel
set_option maxRecDepth 100000 in
theorem am_Q31 : am_kL cX3_takeBack am_c31 = true := by decide +kernel
set_option maxRecDepth 100000 in
theorem am_Q32 : am_kL cX4_init am_c32 = true := by decide +kernel
set_option maxRecDepth 100000 in
theorem am_Q33 : am_kL cX4_addFour am_c33 = true := by decide +kernel
set_option maxRecDepth 100000 in
theorem am_Q34 : am_kL cX5_init am_c34 = true := by decide +kernel
set_option maxRecDepth 100000 in
theorem am_Q35_0 : am_kL cX5_copyFrom am_c35_0 = true := by decide +kernel
set_option maxRecDepth 100000 in
theorem am_Q35_1 : am_kL cX5_copyFrom am_c35_1 = true := by decide +kernel
theorem am_Q35 : am_kL cX5_copyFrom am_c35 = true := (am_kL2 am_Q35_0 am_Q35_1)
set_option maxRecDepth 100000 in
theorem am_Q36 : am_kL cX5_startAt am_c36 = true := by decide +kernel
set_option maxRecDepth 100000 in
theorem am_Q38 : am_kL cX5_goDownAtFlyer am_c38 = true := by decide +kernel
set_option maxRecDepth 100000 in
theorem am_Q39 : am_kL cX5_number am_c39 = true := by decide +kernel
set_option maxRecDepth 100000 in
theorem am_Q41_0 : am_kL cX5_distanceTo am_c41_0 = true := by decide +kernel
set_option maxRecDepth 100000 in
theorem am_Q41_1 : am_kL cX5_distanceTo am_c41_1 = true := by decide +kernel
theorem am_Q41 : am_kL cX5_distanceTo am_c41 = true := (am_kL2 am_Q41_0 am_Q41_1)
set_option maxRecDepth 100000 in
theorem am_Q42 : am_kL cX5_spanNow am_c42 = true := by decide +kernel
set_option maxRecDepth 100000 in
theorem am_Q43 : am_kL cX5_slackNow am_c43 = true := by decide +kernel
set_option maxRecDepth 100000 in
theorem am_Q44 : am_kL cX5_wearBrought am_c44 = true := by decide +kernel
set_option maxRecDepth 100000 in
theorem am_Q45 : am_kL cX5_blow am_c45 = true := by decide +kernel
set_option maxRecDepth 100000 in
theorem am_Q46_0 : am_kL cX5_pullIn am_c46_0 = true := by decide +kernel
set_option maxRecDepth 100000 in
theorem am_Q46_1 : am_kL cX5_pullIn am_c46_1 = true := by decide +kernel
set_option maxRecDepth 100000 in
theorem am_Q46_2 : am_kL cX5_pullIn am_c46_2 = true := by decide +kernel
theorem am_Q46 : am_kL cX5_pullIn am_c46 = true := (am_kL2 am_Q46_0 (am_kL2 am_Q46_1 am_Q46_2))
set_option maxRecDepth 100000 in
theorem am_Q47 : am_kL cX6_init am_c47 = true := by decide +kernel
set_option maxRecDepth 100000 in
theorem am_Q48 : am_kL cX6_clear am_c48 = true := by decide +kernel
set_option maxRecDepth 100000 in
theorem am_Q49 : am_kL cX6_copyFrom am_c49 = true := by decide +kernel
set_option maxRecDepth 100000 in
theorem am_Q50 : am_kL cX6_addWord am_c50 = true := by decide +kernel
set_option maxRecDepth 100000 in
theorem am_Q51 : am_kL cX6_numberOf am_c51 = true := by decide +kernel
set_option maxRecDepth 100000 in
theorem am_Q52 : am_kL cX6_isSame am_c52 = true := by decide +kernel
set_option maxRecDepth 100000 in
theorem am_Q53 : am_kL cX7_init am_c53 = true := by decide +kernel
set_option maxRecDepth 100000 in
theorem am_Q60 : am_kL cX8_init am_c60 = true := by decide +kernel
set_option maxRecDepth 100000 in
theorem am_Q61 : am_kL cX8_readText am_c61 = true := by decide +kernel
set_option maxRecDepth 100000 in
theorem am_Q62 : am_kL cX8_readStatement am_c62 = true := by decide +kernel
