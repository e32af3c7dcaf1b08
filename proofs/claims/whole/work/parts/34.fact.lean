/-! facts of the layout, laid by wip/whole/lay34.py -/
def ab_fb : List Nat := [6, 65, 97, 129, 163, 195, 227, 259, 291, 323, 355, 387, 419, 451]
def ab_nb : List Nat := [38, 52]
def ab_ar (p : Nat) : Prop := ab_at p 100 ∧ ab_N p = 245
theorem af_F {b : Nat} (hb : b ∈ ab_fb) : ab_at (b) 2 := (by decide +kernel : ∀ b ∈ ab_fb, (b < 499 ∧ ab_K (b) = 2)) b hb
theorem af_KA {b : Nat} (hb : b ∈ ab_fb) : ab_at (b + 1) 105 := (by decide +kernel : ∀ b ∈ ab_fb, (b + 1 < 499 ∧ ab_K (b + 1) = 105)) b hb
theorem ag_KA {b : Nat} (hb : b ∈ ab_fb) : ab_rf (b) 0 (b + 1) := (by decide +kernel : ∀ b ∈ ab_fb, (0 < (ab_Rl.getD (b) []).length ∧ ab_R (b) 0 = some (b + 1))) b hb
theorem af_WA {b : Nat} (hb : b ∈ ab_fb) : ab_at (b + 2) 106 := (by decide +kernel : ∀ b ∈ ab_fb, (b + 2 < 499 ∧ ab_K (b + 2) = 106)) b hb
theorem ag_WA {b : Nat} (hb : b ∈ ab_fb) : ab_rf (b) 1 (b + 2) := (by decide +kernel : ∀ b ∈ ab_fb, (1 < (ab_Rl.getD (b) []).length ∧ ab_R (b) 1 = some (b + 2))) b hb
theorem af_EA {b : Nat} (hb : b ∈ ab_fb) : ab_at (b + 3) 107 := (by decide +kernel : ∀ b ∈ ab_fb, (b + 3 < 499 ∧ ab_K (b + 3) = 107)) b hb
theorem ag_EA {b : Nat} (hb : b ∈ ab_fb) : ab_rf (b) 2 (b + 3) := (by decide +kernel : ∀ b ∈ ab_fb, (2 < (ab_Rl.getD (b) []).length ∧ ab_R (b) 2 = some (b + 3))) b hb
theorem af_SA {b : Nat} (hb : b ∈ ab_fb) : ab_at (b + 4) 100 := (by decide +kernel : ∀ b ∈ ab_fb, (b + 4 < 499 ∧ ab_K (b + 4) = 100)) b hb
theorem ag_SA {b : Nat} (hb : b ∈ ab_fb) : ab_rf (b) 3 (b + 4) := (by decide +kernel : ∀ b ∈ ab_fb, (3 < (ab_Rl.getD (b) []).length ∧ ab_R (b) 3 = some (b + 4))) b hb
theorem af_X {b : Nat} (hb : b ∈ ab_fb) : ab_at (b + 5) 0 := (by decide +kernel : ∀ b ∈ ab_fb, (b + 5 < 499 ∧ ab_K (b + 5) = 0)) b hb
theorem ag_X {b : Nat} (hb : b ∈ ab_fb) : ab_rf (b) 4 (b + 5) := (by decide +kernel : ∀ b ∈ ab_fb, (4 < (ab_Rl.getD (b) []).length ∧ ab_R (b) 4 = some (b + 5))) b hb
theorem ax_KA {b : Nat} (hb : b ∈ ab_fb) : ab_N (b + 1) = 10 := (by decide +kernel : ∀ b ∈ ab_fb, ab_N (b + 1) = 10) b hb
theorem ax_WA {b : Nat} (hb : b ∈ ab_fb) : ab_N (b + 2) = 4 := (by decide +kernel : ∀ b ∈ ab_fb, ab_N (b + 2) = 4) b hb
theorem ax_EA {b : Nat} (hb : b ∈ ab_fb) : ab_N (b + 3) = 12 := (by decide +kernel : ∀ b ∈ ab_fb, ab_N (b + 3) = 12) b hb
theorem ax_SA {b : Nat} (hb : b ∈ ab_fb) : ab_N (b + 4) = 6 := (by decide +kernel : ∀ b ∈ ab_fb, ab_N (b + 4) = 6) b hb
theorem af_K {b : Nat} (hb : b ∈ ab_fb) {i : Nat} (hi : i < 10) : ab_at (b + 6 + i) 5 := (by decide +kernel : ∀ b ∈ ab_fb, ∀ i, i < 10 → (b + 6 + i < 499 ∧ ab_K (b + 6 + i) = 5)) b hb i hi
theorem ai_KA {b : Nat} (hb : b ∈ ab_fb) {i : Nat} (hi : i < 10) : ab_rf (b + 1) i (b + 6 + i) := (by decide +kernel : ∀ b ∈ ab_fb, ∀ i, i < 10 → (i < (ab_Rl.getD (b + 1) []).length ∧ ab_R (b + 1) i = some (b + 6 + i))) b hb i hi
theorem af_W {b : Nat} (hb : b ∈ ab_fb) {i : Nat} (hi : i < 4) : ab_at (b + 16 + i) 10 := (by decide +kernel : ∀ b ∈ ab_fb, ∀ i, i < 4 → (b + 16 + i < 499 ∧ ab_K (b + 16 + i) = 10)) b hb i hi
theorem ai_WA {b : Nat} (hb : b ∈ ab_fb) {i : Nat} (hi : i < 4) : ab_rf (b + 2) i (b + 16 + i) := (by decide +kernel : ∀ b ∈ ab_fb, ∀ i, i < 4 → (i < (ab_Rl.getD (b + 2) []).length ∧ ab_R (b + 2) i = some (b + 16 + i))) b hb i hi
theorem af_E {b : Nat} (hb : b ∈ ab_fb) {i : Nat} (hi : i < 12) : ab_at (b + 20 + i) 1 := (by decide +kernel : ∀ b ∈ ab_fb, ∀ i, i < 12 → (b + 20 + i < 499 ∧ ab_K (b + 20 + i) = 1)) b hb i hi
theorem ai_EA {b : Nat} (hb : b ∈ ab_fb) {i : Nat} (hi : i < 12) : ab_rf (b + 3) i (b + 20 + i) := (by decide +kernel : ∀ b ∈ ab_fb, ∀ i, i < 12 → (i < (ab_Rl.getD (b + 3) []).length ∧ ab_R (b + 3) i = some (b + 20 + i))) b hb i hi
theorem af_H {i : Nat} (hi : i < 10) : 163 + 32 * i ∈ ab_fb := (by decide +kernel : ∀ i, i < 10 → 163 + 32 * i ∈ ab_fb) i hi
theorem ai_H {i : Nat} (hi : i < 10) : ab_rf 162 i (163 + 32 * i) := (by decide +kernel : ∀ i, i < 10 → (i < (ab_Rl.getD (162) []).length ∧ ab_R (162) i = some (163 + 32 * i))) i hi
theorem an_N {b : Nat} (hb : b ∈ ab_nb) : ab_at (b) 6 := (by decide +kernel : ∀ b ∈ ab_nb, (b < 499 ∧ ab_K (b) = 6)) b hb
theorem an_R {b : Nat} (hb : b ∈ ab_nb) : ab_at (b + 1) 109 := (by decide +kernel : ∀ b ∈ ab_nb, (b + 1 < 499 ∧ ab_K (b + 1) = 109)) b hb
theorem an_L {b : Nat} (hb : b ∈ ab_nb) : ab_at (b + 12) 100 := (by decide +kernel : ∀ b ∈ ab_nb, (b + 12 < 499 ∧ ab_K (b + 12) = 100)) b hb
theorem an_B {b : Nat} (hb : b ∈ ab_nb) {i : Nat} (hi : i < 10) : ab_at (b + 2 + i) 101 := (by decide +kernel : ∀ b ∈ ab_nb, ∀ i, i < 10 → (b + 2 + i < 499 ∧ ab_K (b + 2 + i) = 101)) b hb i hi
theorem ay_R {b : Nat} (hb : b ∈ ab_nb) : ab_N (b + 1) = 10 := (by decide +kernel : ∀ b ∈ ab_nb, ab_N (b + 1) = 10) b hb
theorem ay_L {b : Nat} (hb : b ∈ ab_nb) : ab_N (b + 12) = 10 := (by decide +kernel : ∀ b ∈ ab_nb, ab_N (b + 12) = 10) b hb
theorem ay_B {b : Nat} (hb : b ∈ ab_nb) {i : Nat} (hi : i < 10) : ab_N (b + 2 + i) = 6 := (by decide +kernel : ∀ b ∈ ab_nb, ∀ i, i < 10 → ab_N (b + 2 + i) = 6) b hb i hi
theorem ah_R {b : Nat} (hb : b ∈ ab_nb) : ab_rf (b) 0 (b + 1) := (by decide +kernel : ∀ b ∈ ab_nb, (0 < (ab_Rl.getD (b) []).length ∧ ab_R (b) 0 = some (b + 1))) b hb
theorem ah_L {b : Nat} (hb : b ∈ ab_nb) : ab_rf (b) 1 (b + 12) := (by decide +kernel : ∀ b ∈ ab_nb, (1 < (ab_Rl.getD (b) []).length ∧ ab_R (b) 1 = some (b + 12))) b hb
theorem ai_NR {b : Nat} (hb : b ∈ ab_nb) {i : Nat} (hi : i < 10) : ab_rf (b + 1) i (b + 2 + i) := (by decide +kernel : ∀ b ∈ ab_nb, ∀ i, i < 10 → (i < (ab_Rl.getD (b + 1) []).length ∧ ab_R (b + 1) i = some (b + 2 + i))) b hb i hi
theorem at_0 : ab_at 0 11 := (by decide +kernel : (0 < 499 ∧ ab_K (0) = 11))
theorem at_1 : ab_at 1 4 := (by decide +kernel : (1 < 499 ∧ ab_K (1) = 4))
theorem at_2 : ab_at 2 101 := (by decide +kernel : (2 < 499 ∧ ab_K (2) = 101))
theorem an_2 : ab_N 2 = 700 := by decide +kernel
theorem at_3 : ab_at 3 7 := (by decide +kernel : (3 < 499 ∧ ab_K (3) = 7))
theorem at_4 : ab_at 4 101 := (by decide +kernel : (4 < 499 ∧ ab_K (4) = 101))
theorem an_4 : ab_N 4 = 640 := by decide +kernel
theorem at_5 : ab_at 5 8 := (by decide +kernel : (5 < 499 ∧ ab_K (5) = 8))
theorem at_51 : ab_at 51 9 := (by decide +kernel : (51 < 499 ∧ ab_K (51) = 9))
theorem at_161 : ab_at 161 3 := (by decide +kernel : (161 < 499 ∧ ab_K (161) = 3))
theorem at_162 : ab_at 162 108 := (by decide +kernel : (162 < 499 ∧ ab_K (162) = 108))
theorem an_162 : ab_N 162 = 10 := by decide +kernel
theorem at_483 : ab_at 483 12 := (by decide +kernel : (483 < 499 ∧ ab_K (483) = 12))
theorem at_484 : ab_at 484 100 := (by decide +kernel : (484 < 499 ∧ ab_K (484) = 100))
theorem an_484 : ab_N 484 = 245 := by decide +kernel
theorem at_485 : ab_at 485 100 := (by decide +kernel : (485 < 499 ∧ ab_K (485) = 100))
theorem an_485 : ab_N 485 = 245 := by decide +kernel
theorem at_486 : ab_at 486 100 := (by decide +kernel : (486 < 499 ∧ ab_K (486) = 100))
theorem an_486 : ab_N 486 = 245 := by decide +kernel
theorem at_487 : ab_at 487 100 := (by decide +kernel : (487 < 499 ∧ ab_K (487) = 100))
theorem an_487 : ab_N 487 = 245 := by decide +kernel
theorem at_488 : ab_at 488 100 := (by decide +kernel : (488 < 499 ∧ ab_K (488) = 100))
theorem an_488 : ab_N 488 = 245 := by decide +kernel
theorem at_489 : ab_at 489 100 := (by decide +kernel : (489 < 499 ∧ ab_K (489) = 100))
theorem an_489 : ab_N 489 = 2450 := by decide +kernel
theorem at_490 : ab_at 490 100 := (by decide +kernel : (490 < 499 ∧ ab_K (490) = 100))
theorem an_490 : ab_N 490 = 10 := by decide +kernel
theorem at_491 : ab_at 491 100 := (by decide +kernel : (491 < 499 ∧ ab_K (491) = 100))
theorem an_491 : ab_N 491 = 10 := by decide +kernel
theorem at_492 : ab_at 492 100 := (by decide +kernel : (492 < 499 ∧ ab_K (492) = 100))
theorem an_492 : ab_N 492 = 10 := by decide +kernel
theorem at_493 : ab_at 493 100 := (by decide +kernel : (493 < 499 ∧ ab_K (493) = 100))
theorem an_493 : ab_N 493 = 10 := by decide +kernel
theorem at_494 : ab_at 494 102 := (by decide +kernel : (494 < 499 ∧ ab_K (494) = 102))
theorem an_494 : ab_N 494 = 10 := by decide +kernel
theorem at_495 : ab_at 495 101 := (by decide +kernel : (495 < 499 ∧ ab_K (495) = 101))
theorem an_495 : ab_N 495 = 700 := by decide +kernel
theorem at_496 : ab_at 496 101 := (by decide +kernel : (496 < 499 ∧ ab_K (496) = 101))
theorem an_496 : ab_N 496 = 800 := by decide +kernel
theorem at_497 : ab_at 497 103 := (by decide +kernel : (497 < 499 ∧ ab_K (497) = 103))
theorem an_497 : ab_N 497 = 1 := by decide +kernel
theorem at_498 : ab_at 498 104 := (by decide +kernel : (498 < 499 ∧ ab_K (498) = 104))
theorem an_498 : ab_N 498 = 1 := by decide +kernel
theorem ar_0_0 : ab_rf 0 0 1 := (by decide +kernel : (0 < (ab_Rl.getD (0) []).length ∧ ab_R (0) 0 = some (1)))
theorem ar_0_1 : ab_rf 0 1 3 := (by decide +kernel : (1 < (ab_Rl.getD (0) []).length ∧ ab_R (0) 1 = some (3)))
theorem ar_0_2 : ab_rf 0 2 5 := (by decide +kernel : (2 < (ab_Rl.getD (0) []).length ∧ ab_R (0) 2 = some (5)))
theorem ar_0_3 : ab_rf 0 3 52 := (by decide +kernel : (3 < (ab_Rl.getD (0) []).length ∧ ab_R (0) 3 = some (52)))
theorem ar_0_4 : ab_rf 0 4 65 := (by decide +kernel : (4 < (ab_Rl.getD (0) []).length ∧ ab_R (0) 4 = some (65)))
theorem ar_0_5 : ab_rf 0 5 97 := (by decide +kernel : (5 < (ab_Rl.getD (0) []).length ∧ ab_R (0) 5 = some (97)))
theorem ar_0_6 : ab_rf 0 6 129 := (by decide +kernel : (6 < (ab_Rl.getD (0) []).length ∧ ab_R (0) 6 = some (129)))
theorem ar_0_7 : ab_rf 0 7 161 := (by decide +kernel : (7 < (ab_Rl.getD (0) []).length ∧ ab_R (0) 7 = some (161)))
theorem ar_1_0 : ab_rf 1 0 2 := (by decide +kernel : (0 < (ab_Rl.getD (1) []).length ∧ ab_R (1) 0 = some (2)))
theorem ar_3_0 : ab_rf 3 0 4 := (by decide +kernel : (0 < (ab_Rl.getD (3) []).length ∧ ab_R (3) 0 = some (4)))
theorem ar_5_0 : ab_rf 5 0 6 := (by decide +kernel : (0 < (ab_Rl.getD (5) []).length ∧ ab_R (5) 0 = some (6)))
theorem ar_5_1 : ab_rf 5 1 38 := (by decide +kernel : (1 < (ab_Rl.getD (5) []).length ∧ ab_R (5) 1 = some (38)))
theorem ar_5_2 : ab_rf 5 2 51 := (by decide +kernel : (2 < (ab_Rl.getD (5) []).length ∧ ab_R (5) 2 = some (51)))
theorem ar_51_0 : ab_rf 51 0 1 := (by decide +kernel : (0 < (ab_Rl.getD (51) []).length ∧ ab_R (51) 0 = some (1)))
theorem ar_161_0 : ab_rf 161 0 162 := (by decide +kernel : (0 < (ab_Rl.getD (161) []).length ∧ ab_R (161) 0 = some (162)))
theorem ar_483_1 : ab_rf 483 1 484 := (by decide +kernel : (1 < (ab_Rl.getD (483) []).length ∧ ab_R (483) 1 = some (484)))
theorem ar_483_2 : ab_rf 483 2 485 := (by decide +kernel : (2 < (ab_Rl.getD (483) []).length ∧ ab_R (483) 2 = some (485)))
theorem ar_483_3 : ab_rf 483 3 486 := (by decide +kernel : (3 < (ab_Rl.getD (483) []).length ∧ ab_R (483) 3 = some (486)))
theorem ar_483_4 : ab_rf 483 4 487 := (by decide +kernel : (4 < (ab_Rl.getD (483) []).length ∧ ab_R (483) 4 = some (487)))
theorem ar_483_5 : ab_rf 483 5 488 := (by decide +kernel : (5 < (ab_Rl.getD (483) []).length ∧ ab_R (483) 5 = some (488)))
theorem ar_483_6 : ab_rf 483 6 489 := (by decide +kernel : (6 < (ab_Rl.getD (483) []).length ∧ ab_R (483) 6 = some (489)))
theorem ar_483_11 : ab_rf 483 11 490 := (by decide +kernel : (11 < (ab_Rl.getD (483) []).length ∧ ab_R (483) 11 = some (490)))
theorem ar_483_12 : ab_rf 483 12 491 := (by decide +kernel : (12 < (ab_Rl.getD (483) []).length ∧ ab_R (483) 12 = some (491)))
theorem ar_483_13 : ab_rf 483 13 492 := (by decide +kernel : (13 < (ab_Rl.getD (483) []).length ∧ ab_R (483) 13 = some (492)))
theorem ar_483_14 : ab_rf 483 14 493 := (by decide +kernel : (14 < (ab_Rl.getD (483) []).length ∧ ab_R (483) 14 = some (493)))
theorem ar_483_15 : ab_rf 483 15 494 := (by decide +kernel : (15 < (ab_Rl.getD (483) []).length ∧ ab_R (483) 15 = some (494)))
theorem ar_483_16 : ab_rf 483 16 495 := (by decide +kernel : (16 < (ab_Rl.getD (483) []).length ∧ ab_R (483) 16 = some (495)))
theorem ar_483_27 : ab_rf 483 27 496 := (by decide +kernel : (27 < (ab_Rl.getD (483) []).length ∧ ab_R (483) 27 = some (496)))
theorem fF_0_7 : am_F 0 7 = some (5, 1, 0, 221) := by decide +kernel
theorem fF_0_13 : am_F 0 13 = some (5, 4, 0, 233) := by decide +kernel
theorem fF_0_16 : am_F 0 16 = some (5, 2, 0, 225) := by decide +kernel
theorem fF_0_19 : am_F 0 19 = some (5, 5, 0, 237) := by decide +kernel
theorem fF_0_28 : am_F 0 28 = some (0, 0, 0, 193) := by decide +kernel
theorem fF_0_31 : am_F 0 31 = some (0, 1, 0, 196) := by decide +kernel
theorem fF_0_32 : am_F 0 32 = some (5, 3, 0, 230) := by decide +kernel
theorem fF_0_42 : am_F 0 42 = some (0, 2, 0, 199) := by decide +kernel
theorem fF_0_45 : am_F 0 45 = some (0, 3, 0, 201) := by decide +kernel
theorem fF_1_7 : am_F 1 7 = some (1, 0, 0, 325) := by decide +kernel
theorem fF_1_13 : am_F 1 13 = some (1, 1, 0, 328) := by decide +kernel
theorem fF_1_16 : am_F 1 16 = some (1, 2, 0, 331) := by decide +kernel
theorem fF_1_19 : am_F 1 19 = some (1, 3, 0, 334) := by decide +kernel
theorem fF_1_22 : am_F 1 22 = some (1, 4, 0, 337) := by decide +kernel
theorem fF_1_25 : am_F 1 25 = some (1, 5, 0, 339) := by decide +kernel
theorem fF_2_11 : am_F 2 11 = some (2, 0, 0, 368) := by decide +kernel
theorem fF_2_19 : am_F 2 19 = some (2, 1, 0, 371) := by decide +kernel
theorem fF_2_25 : am_F 2 25 = some (2, 2, 0, 374) := by decide +kernel
theorem fF_2_29 : am_F 2 29 = some (2, 3, 0, 375) := by decide +kernel
theorem fF_2_36 : am_F 2 36 = some (2, 4, 0, 378) := by decide +kernel
theorem fF_2_49 : am_F 2 49 = some (2, 5, 0, 380) := by decide +kernel
theorem fF_2_53 : am_F 2 53 = some (2, 6, 0, 383) := by decide +kernel
theorem fF_2_56 : am_F 2 56 = some (2, 7, 0, 386) := by decide +kernel
theorem fF_2_59 : am_F 2 59 = some (2, 8, 0, 388) := by decide +kernel
theorem fF_2_62 : am_F 2 62 = some (2, 9, 0, 389) := by decide +kernel
theorem fF_2_65 : am_F 2 65 = some (2, 10, 0, 391) := by decide +kernel
theorem fF_2_85 : am_F 2 85 = some (5, 0, 0, 219) := by decide +kernel
theorem fF_2_88 : am_F 2 88 = some (10, 0, 0, 305) := by decide +kernel
theorem fF_2_115 : am_F 2 115 = some (5, 4, 0, 235) := by decide +kernel
theorem fF_2_122 : am_F 2 122 = some (5, 5, 0, 239) := by decide +kernel
theorem fF_2_125 : am_F 2 125 = some (5, 1, 0, 223) := by decide +kernel
theorem fF_2_128 : am_F 2 128 = some (5, 2, 0, 227) := by decide +kernel
theorem fF_2_139 : am_F 2 139 = some (1, 0, 0, 326) := by decide +kernel
theorem fF_2_140 : am_F 2 140 = some (1, 1, 0, 329) := by decide +kernel
theorem fF_2_143 : am_F 2 143 = some (1, 2, 0, 332) := by decide +kernel
theorem fF_2_146 : am_F 2 146 = some (1, 3, 0, 335) := by decide +kernel
theorem fF_2_149 : am_F 2 149 = some (1, 4, 0, 338) := by decide +kernel
theorem fF_2_150 : am_F 2 150 = some (1, 5, 0, 340) := by decide +kernel
theorem fF_2_170 : am_F 2 170 = some (5, 3, 0, 231) := by decide +kernel
theorem fF_2_176 : am_F 2 176 = some (5, 6, 0, 243) := by decide +kernel
theorem fF_2_179 : am_F 2 179 = some (5, 7, 0, 246) := by decide +kernel
theorem fF_2_201 : am_F 2 201 = some (5, 14, 0, 264) := by decide +kernel
theorem fF_2_204 : am_F 2 204 = some (5, 15, 0, 265) := by decide +kernel
theorem fF_2_214 : am_F 2 214 = some (5, 10, 0, 255) := by decide +kernel
theorem fF_2_217 : am_F 2 217 = some (5, 9, 0, 252) := by decide +kernel
theorem fF_2_220 : am_F 2 220 = some (5, 13, 0, 263) := by decide +kernel
theorem fF_2_223 : am_F 2 223 = some (5, 11, 0, 258) := by decide +kernel
theorem fF_2_226 : am_F 2 226 = some (0, 0, 0, 195) := by decide +kernel
theorem fF_2_227 : am_F 2 227 = some (0, 1, 0, 198) := by decide +kernel
theorem fF_2_231 : am_F 2 231 = some (5, 12, 0, 261) := by decide +kernel
theorem fF_3_11 : am_F 3 11 = some (3, 0, 0, 499) := by decide +kernel
theorem fF_3_18 : am_F 3 18 = some (3, 2, 0, 501) := by decide +kernel
theorem fF_3_22 : am_F 3 22 = some (3, 1, 0, 500) := by decide +kernel
theorem fF_4_9 : am_F 4 9 = some (4, 0, 0, 141) := by decide +kernel
theorem fF_4_15 : am_F 4 15 = some (4, 1, 0, 146) := by decide +kernel
theorem fF_5_9 : am_F 5 9 = some (5, 0, 0, 218) := by decide +kernel
theorem fF_5_15 : am_F 5 15 = some (5, 1, 0, 222) := by decide +kernel
theorem fF_5_18 : am_F 5 18 = some (5, 2, 0, 226) := by decide +kernel
theorem fF_5_21 : am_F 5 21 = some (5, 3, 0, 229) := by decide +kernel
theorem fF_5_24 : am_F 5 24 = some (5, 4, 0, 234) := by decide +kernel
theorem fF_5_27 : am_F 5 27 = some (5, 5, 0, 238) := by decide +kernel
theorem fF_5_30 : am_F 5 30 = some (5, 6, 0, 241) := by decide +kernel
theorem fF_5_33 : am_F 5 33 = some (5, 7, 0, 245) := by decide +kernel
theorem fF_5_36 : am_F 5 36 = some (5, 8, 0, 248) := by decide +kernel
theorem fF_5_39 : am_F 5 39 = some (5, 9, 0, 250) := by decide +kernel
theorem fF_5_42 : am_F 5 42 = some (5, 10, 0, 254) := by decide +kernel
theorem fF_5_45 : am_F 5 45 = some (5, 11, 0, 257) := by decide +kernel
theorem fF_5_48 : am_F 5 48 = some (5, 12, 0, 260) := by decide +kernel
theorem fF_5_51 : am_F 5 51 = some (5, 13, 0, 262) := by decide +kernel
theorem fF_5_67 : am_F 5 67 = some (10, 1, 0, 308) := by decide +kernel
theorem fF_5_73 : am_F 5 73 = some (10, 2, 0, 311) := by decide +kernel
theorem fF_6_11 : am_F 6 11 = some (6, 0, 0, 424) := by decide +kernel
theorem fF_6_16 : am_F 6 16 = some (6, 1, 0, 426) := by decide +kernel
theorem fF_6_20 : am_F 6 20 = some (6, 2, 0, 428) := by decide +kernel
theorem fF_7_9 : am_F 7 9 = some (7, 0, 0, 160) := by decide +kernel
theorem fF_7_13 : am_F 7 13 = some (7, 1, 0, 162) := by decide +kernel
theorem fF_7_30 : am_F 7 30 = some (6, 2, 1, 429) := by decide +kernel
theorem fF_7_41 : am_F 7 41 = some (6, 1, 1, 427) := by decide +kernel
theorem fF_7_45 : am_F 7 45 = some (6, 0, 1, 425) := by decide +kernel
theorem fF_8_12 : am_F 8 12 = some (8, 0, 0, 460) := by decide +kernel
theorem fF_8_21 : am_F 8 21 = some (8, 1, 0, 462) := by decide +kernel
theorem fF_8_25 : am_F 8 25 = some (8, 6, 0, 469) := by decide +kernel
theorem fF_8_34 : am_F 8 34 = some (8, 2, 0, 464) := by decide +kernel
theorem fF_8_38 : am_F 8 38 = some (8, 5, 0, 467) := by decide +kernel
theorem fF_8_45 : am_F 8 45 = some (8, 3, 0, 465) := by decide +kernel
theorem fF_8_51 : am_F 8 51 = some (9, 1, 0, 445) := by decide +kernel
theorem fF_8_66 : am_F 8 66 = some (2, 6, 0, 384) := by decide +kernel
theorem fF_8_88 : am_F 8 88 = some (2, 5, 0, 381) := by decide +kernel
theorem fF_8_101 : am_F 8 101 = some (8, 4, 0, 466) := by decide +kernel
theorem fF_8_104 : am_F 8 104 = some (2, 0, 0, 369) := by decide +kernel
theorem fF_8_114 : am_F 8 114 = some (5, 8, 0, 249) := by decide +kernel
theorem fF_8_121 : am_F 8 121 = some (5, 9, 0, 251) := by decide +kernel
theorem fF_8_124 : am_F 8 124 = some (5, 6, 0, 242) := by decide +kernel
theorem fF_8_127 : am_F 8 127 = some (9, 3, 0, 450) := by decide +kernel
theorem fF_8_130 : am_F 8 130 = some (9, 0, 0, 444) := by decide +kernel
theorem fF_8_134 : am_F 8 134 = some (4, 0, 0, 143) := by decide +kernel
theorem fF_8_140 : am_F 8 140 = some (9, 2, 0, 448) := by decide +kernel
theorem fF_8_159 : am_F 8 159 = some (2, 1, 0, 372) := by decide +kernel
theorem fF_8_163 : am_F 8 163 = some (10, 0, 0, 306) := by decide +kernel
theorem fF_8_182 : am_F 8 182 = some (2, 3, 0, 377) := by decide +kernel
theorem fF_9_7 : am_F 9 7 = some (9, 0, 0, 443) := by decide +kernel
theorem fF_9_13 : am_F 9 13 = some (9, 2, 0, 447) := by decide +kernel
theorem fF_9_17 : am_F 9 17 = some (9, 3, 0, 449) := by decide +kernel
theorem fF_9_23 : am_F 9 23 = some (4, 1, 0, 147) := by decide +kernel
theorem fF_9_26 : am_F 9 26 = some (4, 0, 0, 142) := by decide +kernel
theorem fF_9_34 : am_F 9 34 = some (9, 1, 0, 446) := by decide +kernel
theorem fF_10_7 : am_F 10 7 = some (10, 0, 0, 304) := by decide +kernel
theorem fF_10_13 : am_F 10 13 = some (10, 1, 0, 307) := by decide +kernel
theorem fF_10_16 : am_F 10 16 = some (10, 2, 0, 310) := by decide +kernel
theorem fF_11_10 : am_F 11 10 = some (11, 0, 0, 510) := by decide +kernel
theorem fF_11_19 : am_F 11 19 = some (11, 1, 0, 511) := by decide +kernel
theorem fF_11_28 : am_F 11 28 = some (11, 2, 0, 512) := by decide +kernel
theorem fF_11_35 : am_F 11 35 = some (11, 3, 0, 513) := by decide +kernel
theorem fF_11_42 : am_F 11 42 = some (11, 4, 0, 514) := by decide +kernel
theorem fF_11_46 : am_F 11 46 = some (11, 5, 0, 515) := by decide +kernel
theorem fF_11_49 : am_F 11 49 = some (11, 6, 0, 516) := by decide +kernel
theorem fF_11_55 : am_F 11 55 = some (11, 7, 0, 517) := by decide +kernel
theorem fF_11_59 : am_F 11 59 = some (11, 10, 0, 520) := by decide +kernel
theorem fF_11_63 : am_F 11 63 = some (4, 1, 0, 145) := by decide +kernel
theorem fF_11_74 : am_F 11 74 = some (8, 5, 0, 468) := by decide +kernel
theorem fF_11_77 : am_F 11 77 = some (11, 9, 0, 519) := by decide +kernel
theorem fF_11_80 : am_F 11 80 = some (8, 6, 0, 470) := by decide +kernel
theorem fF_11_83 : am_F 11 83 = some (8, 0, 0, 461) := by decide +kernel
theorem fF_11_88 : am_F 11 88 = some (8, 1, 0, 463) := by decide +kernel
theorem fF_11_95 : am_F 11 95 = some (11, 8, 0, 518) := by decide +kernel
theorem fF_11_99 : am_F 11 99 = some (2, 5, 0, 382) := by decide +kernel
theorem fF_11_106 : am_F 11 106 = some (2, 6, 0, 385) := by decide +kernel
theorem fF_11_109 : am_F 11 109 = some (2, 9, 0, 390) := by decide +kernel
theorem fF_11_112 : am_F 11 112 = some (2, 7, 0, 387) := by decide +kernel
theorem fF_11_115 : am_F 11 115 = some (2, 10, 0, 392) := by decide +kernel
theorem fF_11_122 : am_F 11 122 = some (3, 2, 0, 502) := by decide +kernel
theorem fF_11_129 : am_F 11 129 = some (2, 3, 0, 376) := by decide +kernel
theorem fF_11_133 : am_F 11 133 = some (4, 0, 0, 144) := by decide +kernel
theorem fF_11_148 : am_F 11 148 = some (2, 0, 0, 370) := by decide +kernel
theorem fF_11_160 : am_F 11 160 = some (2, 1, 0, 373) := by decide +kernel
theorem fF_11_170 : am_F 11 170 = some (5, 0, 0, 220) := by decide +kernel
theorem fF_11_188 : am_F 11 188 = some (2, 4, 0, 379) := by decide +kernel
theorem fF_11_192 : am_F 11 192 = some (0, 0, 0, 194) := by decide +kernel
theorem fF_11_197 : am_F 11 197 = some (0, 1, 0, 197) := by decide +kernel
theorem fF_11_200 : am_F 11 200 = some (0, 2, 0, 200) := by decide +kernel
theorem fF_11_203 : am_F 11 203 = some (0, 3, 0, 202) := by decide +kernel
theorem fF_11_229 : am_F 11 229 = some (5, 3, 0, 232) := by decide +kernel
theorem fF_11_232 : am_F 11 232 = some (5, 11, 0, 259) := by decide +kernel
theorem fF_11_239 : am_F 11 239 = some (5, 1, 0, 224) := by decide +kernel
theorem fF_11_240 : am_F 11 240 = some (5, 2, 0, 228) := by decide +kernel
theorem fF_11_250 : am_F 11 250 = some (5, 4, 0, 236) := by decide +kernel
theorem fF_11_253 : am_F 11 253 = some (10, 1, 0, 309) := by decide +kernel
theorem fF_11_254 : am_F 11 254 = some (5, 5, 0, 240) := by decide +kernel
theorem fF_11_257 : am_F 11 257 = some (10, 2, 0, 312) := by decide +kernel
theorem fF_11_261 : am_F 11 261 = some (5, 9, 0, 253) := by decide +kernel
theorem fF_11_264 : am_F 11 264 = some (5, 10, 0, 256) := by decide +kernel
theorem fF_11_283 : am_F 11 283 = some (5, 6, 0, 244) := by decide +kernel
theorem fF_11_289 : am_F 11 289 = some (5, 7, 0, 247) := by decide +kernel
theorem fF_11_311 : am_F 11 311 = some (7, 1, 0, 163) := by decide +kernel
theorem fF_11_335 : am_F 11 335 = some (1, 0, 0, 327) := by decide +kernel
theorem fF_11_336 : am_F 11 336 = some (1, 1, 0, 330) := by decide +kernel
theorem fF_11_343 : am_F 11 343 = some (1, 2, 0, 333) := by decide +kernel
theorem fF_11_346 : am_F 11 346 = some (1, 3, 0, 336) := by decide +kernel
theorem fF_11_349 : am_F 11 349 = some (7, 0, 0, 161) := by decide +kernel
theorem fF_12_7 : am_F 12 7 = some (12, 1, 0, 1443) := by decide +kernel
theorem fF_12_13 : am_F 12 13 = some (12, 2, 0, 1444) := by decide +kernel
theorem fF_12_16 : am_F 12 16 = some (12, 3, 0, 1445) := by decide +kernel
theorem fF_12_19 : am_F 12 19 = some (12, 4, 0, 1446) := by decide +kernel
theorem fF_12_22 : am_F 12 22 = some (12, 5, 0, 1447) := by decide +kernel
theorem fF_12_25 : am_F 12 25 = some (12, 6, 0, 1448) := by decide +kernel
theorem fF_12_28 : am_F 12 28 = some (12, 11, 0, 1453) := by decide +kernel
theorem fF_12_31 : am_F 12 31 = some (12, 12, 0, 1454) := by decide +kernel
theorem fF_12_34 : am_F 12 34 = some (12, 13, 0, 1455) := by decide +kernel
theorem fF_12_37 : am_F 12 37 = some (12, 14, 0, 1456) := by decide +kernel
theorem fF_12_40 : am_F 12 40 = some (12, 15, 0, 1457) := by decide +kernel
theorem fF_12_44 : am_F 12 44 = some (12, 16, 0, 1458) := by decide +kernel
theorem fF_12_48 : am_F 12 48 = some (12, 25, 0, 1467) := by decide +kernel
theorem fF_12_52 : am_F 12 52 = some (12, 27, 0, 1469) := by decide +kernel
theorem fF_12_62 : am_F 12 62 = some (12, 0, 0, 1442) := by decide +kernel
theorem fF_12_69 : am_F 12 69 = some (12, 7, 0, 1449) := by decide +kernel
theorem fF_12_76 : am_F 12 76 = some (12, 8, 0, 1450) := by decide +kernel
theorem fF_12_148 : am_F 12 148 = some (12, 9, 0, 1451) := by decide +kernel
theorem fF_12_151 : am_F 12 151 = some (12, 10, 0, 1452) := by decide +kernel
theorem fF_12_340 : am_F 12 340 = some (12, 17, 0, 1459) := by decide +kernel
theorem fF_12_343 : am_F 12 343 = some (12, 18, 0, 1460) := by decide +kernel
theorem fF_12_353 : am_F 12 353 = some (12, 19, 0, 1461) := by decide +kernel
theorem fF_12_356 : am_F 12 356 = some (12, 20, 0, 1462) := by decide +kernel
theorem fF_12_359 : am_F 12 359 = some (12, 21, 0, 1463) := by decide +kernel
theorem fF_12_368 : am_F 12 368 = some (12, 22, 0, 1464) := by decide +kernel
theorem fF_12_375 : am_F 12 375 = some (12, 23, 0, 1465) := by decide +kernel
theorem fF_12_396 : am_F 12 396 = some (12, 24, 0, 1466) := by decide +kernel
theorem fF_12_425 : am_F 12 425 = some (12, 26, 0, 1468) := by decide +kernel
theorem fF_12_440 : am_F 12 440 = some (12, 28, 0, 1470) := by decide +kernel
theorem fF_50_9 : am_F 50 9 = some (50, 0, 0, 2142) := by decide +kernel
theorem fF_50_15 : am_F 50 15 = some (50, 1, 0, 2143) := by decide +kernel
theorem fS_11_302 : am_S 11 302 = some (0, 0, 1387) := by decide +kernel
theorem fS_11_305 : am_S 11 305 = some (1, 0, 1388) := by decide +kernel
theorem fS_2_68 : am_S 2 68 = some (2, 1, 358) := by decide +kernel
theorem fS_8_175 : am_S 8 175 = some (0, 1, 719) := by decide +kernel
theorem fS_8_179 : am_S 8 179 = some (1, 1, 721) := by decide +kernel
theorem fS_50_38 : am_S 50 38 = some (3, 0, 610) := by decide +kernel
theorem fS_50_1053 : am_S 50 1053 = some (4, 0, 626) := by decide +kernel
theorem oO_0 : am_O 0 = 0 := by decide +kernel
theorem oO_1 : am_O 1 = 0 := by decide +kernel
theorem oO_2 : am_O 2 = 0 := by decide +kernel
theorem oO_3 : am_O 3 = 0 := by decide +kernel
theorem oO_4 : am_O 4 = 1 := by decide +kernel
theorem oO_5 : am_O 5 = 1 := by decide +kernel
theorem oO_6 : am_O 6 = 1 := by decide +kernel
theorem oO_7 : am_O 7 = 2 := by decide +kernel
theorem oO_8 : am_O 8 = 2 := by decide +kernel
theorem oO_9 : am_O 9 = 2 := by decide +kernel
theorem oO_10 : am_O 10 = 2 := by decide +kernel
theorem oO_11 : am_O 11 = 2 := by decide +kernel
theorem oO_12 : am_O 12 = 2 := by decide +kernel
theorem oO_13 : am_O 13 = 2 := by decide +kernel
theorem oO_14 : am_O 14 = 2 := by decide +kernel
theorem oO_15 : am_O 15 = 2 := by decide +kernel
theorem oO_16 : am_O 16 = 2 := by decide +kernel
theorem oO_17 : am_O 17 = 2 := by decide +kernel
theorem oO_18 : am_O 18 = 2 := by decide +kernel
theorem oO_19 : am_O 19 = 2 := by decide +kernel
theorem oO_20 : am_O 20 = 2 := by decide +kernel
theorem oO_21 : am_O 21 = 2 := by decide +kernel
theorem oO_22 : am_O 22 = 2 := by decide +kernel
theorem oO_23 : am_O 23 = 2 := by decide +kernel
theorem oO_24 : am_O 24 = 2 := by decide +kernel
theorem oO_25 : am_O 25 = 2 := by decide +kernel
theorem oO_26 : am_O 26 = 2 := by decide +kernel
theorem oO_27 : am_O 27 = 2 := by decide +kernel
theorem oO_28 : am_O 28 = 3 := by decide +kernel
theorem oO_29 : am_O 29 = 3 := by decide +kernel
theorem oO_30 : am_O 30 = 3 := by decide +kernel
theorem oO_31 : am_O 31 = 3 := by decide +kernel
theorem oO_32 : am_O 32 = 4 := by decide +kernel
theorem oO_33 : am_O 33 = 4 := by decide +kernel
theorem oO_34 : am_O 34 = 5 := by decide +kernel
theorem oO_35 : am_O 35 = 5 := by decide +kernel
theorem oO_36 : am_O 36 = 5 := by decide +kernel
theorem oO_37 : am_O 37 = 5 := by decide +kernel
theorem oO_38 : am_O 38 = 5 := by decide +kernel
theorem oO_39 : am_O 39 = 5 := by decide +kernel
theorem oO_40 : am_O 40 = 5 := by decide +kernel
theorem oO_41 : am_O 41 = 5 := by decide +kernel
theorem oO_42 : am_O 42 = 5 := by decide +kernel
theorem oO_43 : am_O 43 = 5 := by decide +kernel
theorem oO_44 : am_O 44 = 5 := by decide +kernel
theorem oO_45 : am_O 45 = 5 := by decide +kernel
theorem oO_46 : am_O 46 = 5 := by decide +kernel
theorem oO_47 : am_O 47 = 6 := by decide +kernel
theorem oO_48 : am_O 48 = 6 := by decide +kernel
theorem oO_49 : am_O 49 = 6 := by decide +kernel
theorem oO_50 : am_O 50 = 6 := by decide +kernel
theorem oO_51 : am_O 51 = 6 := by decide +kernel
theorem oO_52 : am_O 52 = 6 := by decide +kernel
theorem oO_53 : am_O 53 = 7 := by decide +kernel
theorem oO_54 : am_O 54 = 7 := by decide +kernel
theorem oO_55 : am_O 55 = 7 := by decide +kernel
theorem oO_56 : am_O 56 = 7 := by decide +kernel
theorem oO_57 : am_O 57 = 7 := by decide +kernel
theorem oO_58 : am_O 58 = 7 := by decide +kernel
theorem oO_59 : am_O 59 = 7 := by decide +kernel
theorem oO_60 : am_O 60 = 8 := by decide +kernel
theorem oO_61 : am_O 61 = 8 := by decide +kernel
theorem oO_62 : am_O 62 = 8 := by decide +kernel
theorem oO_63 : am_O 63 = 8 := by decide +kernel
theorem oO_64 : am_O 64 = 8 := by decide +kernel
theorem oO_65 : am_O 65 = 8 := by decide +kernel
theorem oO_66 : am_O 66 = 8 := by decide +kernel
theorem oO_67 : am_O 67 = 8 := by decide +kernel
theorem oO_68 : am_O 68 = 8 := by decide +kernel
theorem oO_69 : am_O 69 = 8 := by decide +kernel
theorem oO_70 : am_O 70 = 8 := by decide +kernel
theorem oO_71 : am_O 71 = 8 := by decide +kernel
theorem oO_72 : am_O 72 = 8 := by decide +kernel
theorem oO_73 : am_O 73 = 8 := by decide +kernel
theorem oO_74 : am_O 74 = 9 := by decide +kernel
theorem oO_75 : am_O 75 = 9 := by decide +kernel
theorem oO_76 : am_O 76 = 9 := by decide +kernel
theorem oO_77 : am_O 77 = 9 := by decide +kernel
theorem oO_78 : am_O 78 = 9 := by decide +kernel
theorem oO_79 : am_O 79 = 9 := by decide +kernel
theorem oO_80 : am_O 80 = 9 := by decide +kernel
theorem oO_81 : am_O 81 = 10 := by decide +kernel
theorem oO_82 : am_O 82 = 10 := by decide +kernel
theorem oO_83 : am_O 83 = 10 := by decide +kernel
theorem oO_84 : am_O 84 = 10 := by decide +kernel
theorem oO_85 : am_O 85 = 10 := by decide +kernel
theorem oO_86 : am_O 86 = 11 := by decide +kernel
theorem oO_87 : am_O 87 = 11 := by decide +kernel
theorem oO_88 : am_O 88 = 11 := by decide +kernel
theorem oO_89 : am_O 89 = 11 := by decide +kernel
theorem oO_90 : am_O 90 = 11 := by decide +kernel
theorem oO_91 : am_O 91 = 11 := by decide +kernel
theorem oO_92 : am_O 92 = 11 := by decide +kernel
theorem oO_93 : am_O 93 = 11 := by decide +kernel
theorem oO_94 : am_O 94 = 11 := by decide +kernel
theorem oO_95 : am_O 95 = 11 := by decide +kernel
theorem oO_96 : am_O 96 = 11 := by decide +kernel
theorem oO_97 : am_O 97 = 11 := by decide +kernel
theorem oO_98 : am_O 98 = 11 := by decide +kernel
theorem oO_99 : am_O 99 = 11 := by decide +kernel
theorem oO_100 : am_O 100 = 11 := by decide +kernel
theorem oO_101 : am_O 101 = 11 := by decide +kernel
theorem oO_102 : am_O 102 = 11 := by decide +kernel
theorem oO_103 : am_O 103 = 11 := by decide +kernel
theorem oO_104 : am_O 104 = 11 := by decide +kernel
theorem oO_105 : am_O 105 = 11 := by decide +kernel
theorem oO_106 : am_O 106 = 11 := by decide +kernel
theorem oO_107 : am_O 107 = 11 := by decide +kernel
theorem oO_108 : am_O 108 = 11 := by decide +kernel
theorem oO_109 : am_O 109 = 11 := by decide +kernel
theorem oO_110 : am_O 110 = 11 := by decide +kernel
theorem oO_111 : am_O 111 = 11 := by decide +kernel
theorem oO_112 : am_O 112 = 11 := by decide +kernel
theorem oO_113 : am_O 113 = 11 := by decide +kernel
theorem oO_114 : am_O 114 = 11 := by decide +kernel
theorem oO_115 : am_O 115 = 11 := by decide +kernel
theorem oO_116 : am_O 116 = 11 := by decide +kernel
theorem oO_117 : am_O 117 = 11 := by decide +kernel
theorem oO_118 : am_O 118 = 11 := by decide +kernel
theorem oO_119 : am_O 119 = 11 := by decide +kernel
theorem oO_120 : am_O 120 = 11 := by decide +kernel
theorem oO_121 : am_O 121 = 11 := by decide +kernel
theorem oO_122 : am_O 122 = 11 := by decide +kernel
theorem oO_123 : am_O 123 = 11 := by decide +kernel
theorem oO_124 : am_O 124 = 11 := by decide +kernel
theorem oO_125 : am_O 125 = 11 := by decide +kernel
theorem oO_126 : am_O 126 = 11 := by decide +kernel
theorem oO_127 : am_O 127 = 11 := by decide +kernel
theorem oO_128 : am_O 128 = 11 := by decide +kernel
theorem oO_129 : am_O 129 = 11 := by decide +kernel
theorem oO_130 : am_O 130 = 11 := by decide +kernel
theorem oO_131 : am_O 131 = 11 := by decide +kernel
theorem oO_132 : am_O 132 = 11 := by decide +kernel
theorem oO_133 : am_O 133 = 11 := by decide +kernel
theorem oO_134 : am_O 134 = 11 := by decide +kernel
theorem oO_135 : am_O 135 = 11 := by decide +kernel
theorem oO_136 : am_O 136 = 11 := by decide +kernel
theorem oO_137 : am_O 137 = 11 := by decide +kernel
theorem oO_138 : am_O 138 = 11 := by decide +kernel
theorem oO_139 : am_O 139 = 11 := by decide +kernel
theorem oO_140 : am_O 140 = 11 := by decide +kernel
theorem oO_141 : am_O 141 = 11 := by decide +kernel
theorem oO_142 : am_O 142 = 11 := by decide +kernel
theorem oO_143 : am_O 143 = 11 := by decide +kernel
theorem oO_144 : am_O 144 = 11 := by decide +kernel
theorem oO_145 : am_O 145 = 11 := by decide +kernel
theorem oO_146 : am_O 146 = 11 := by decide +kernel
theorem oO_147 : am_O 147 = 11 := by decide +kernel
theorem oO_148 : am_O 148 = 11 := by decide +kernel
theorem oO_149 : am_O 149 = 11 := by decide +kernel
theorem oO_150 : am_O 150 = 11 := by decide +kernel
theorem oO_151 : am_O 151 = 11 := by decide +kernel
theorem oO_152 : am_O 152 = 11 := by decide +kernel
theorem oO_153 : am_O 153 = 12 := by decide +kernel
theorem oO_154 : am_O 154 = 12 := by decide +kernel
theorem oO_155 : am_O 155 = 12 := by decide +kernel
theorem oO_156 : am_O 156 = 12 := by decide +kernel
theorem oO_157 : am_O 157 = 12 := by decide +kernel
theorem oO_158 : am_O 158 = 12 := by decide +kernel
theorem oO_159 : am_O 159 = 12 := by decide +kernel
theorem oO_160 : am_O 160 = 12 := by decide +kernel
theorem oO_161 : am_O 161 = 12 := by decide +kernel
theorem oO_162 : am_O 162 = 12 := by decide +kernel
theorem oO_163 : am_O 163 = 12 := by decide +kernel
theorem oO_164 : am_O 164 = 12 := by decide +kernel
theorem oO_165 : am_O 165 = 12 := by decide +kernel
theorem oO_166 : am_O 166 = 12 := by decide +kernel
theorem oO_167 : am_O 167 = 12 := by decide +kernel
theorem oO_168 : am_O 168 = 12 := by decide +kernel
theorem oO_169 : am_O 169 = 12 := by decide +kernel
theorem oO_170 : am_O 170 = 12 := by decide +kernel
theorem oO_171 : am_O 171 = 12 := by decide +kernel
theorem oO_172 : am_O 172 = 12 := by decide +kernel
theorem oO_173 : am_O 173 = 12 := by decide +kernel
theorem oO_174 : am_O 174 = 12 := by decide +kernel
theorem oO_175 : am_O 175 = 12 := by decide +kernel
theorem oO_176 : am_O 176 = 12 := by decide +kernel
theorem oO_177 : am_O 177 = 12 := by decide +kernel
theorem oO_178 : am_O 178 = 12 := by decide +kernel
theorem oO_179 : am_O 179 = 12 := by decide +kernel
theorem oO_180 : am_O 180 = 12 := by decide +kernel
theorem oO_181 : am_O 181 = 12 := by decide +kernel
theorem oO_182 : am_O 182 = 12 := by decide +kernel
theorem oO_183 : am_O 183 = 12 := by decide +kernel
theorem oO_184 : am_O 184 = 12 := by decide +kernel
theorem oO_185 : am_O 185 = 12 := by decide +kernel
theorem oO_186 : am_O 186 = 12 := by decide +kernel
theorem oO_187 : am_O 187 = 12 := by decide +kernel
theorem oO_188 : am_O 188 = 12 := by decide +kernel
theorem oO_189 : am_O 189 = 12 := by decide +kernel
theorem oO_190 : am_O 190 = 12 := by decide +kernel
theorem oO_191 : am_O 191 = 12 := by decide +kernel
theorem oO_192 : am_O 192 = 12 := by decide +kernel
theorem oO_193 : am_O 193 = 12 := by decide +kernel
theorem oO_194 : am_O 194 = 12 := by decide +kernel
theorem oO_195 : am_O 195 = 12 := by decide +kernel
theorem oO_196 : am_O 196 = 12 := by decide +kernel
theorem oO_197 : am_O 197 = 12 := by decide +kernel
theorem oO_198 : am_O 198 = 12 := by decide +kernel
theorem oO_199 : am_O 199 = 12 := by decide +kernel
theorem oO_200 : am_O 200 = 12 := by decide +kernel
theorem oO_201 : am_O 201 = 12 := by decide +kernel
theorem oO_202 : am_O 202 = 12 := by decide +kernel
theorem oO_203 : am_O 203 = 12 := by decide +kernel
theorem oO_204 : am_O 204 = 12 := by decide +kernel
theorem oO_205 : am_O 205 = 12 := by decide +kernel
theorem oO_206 : am_O 206 = 12 := by decide +kernel
theorem oO_207 : am_O 207 = 12 := by decide +kernel
theorem oO_208 : am_O 208 = 12 := by decide +kernel
theorem oO_209 : am_O 209 = 12 := by decide +kernel
theorem oO_210 : am_O 210 = 12 := by decide +kernel
theorem oO_211 : am_O 211 = 12 := by decide +kernel
theorem oO_212 : am_O 212 = 12 := by decide +kernel
theorem oO_213 : am_O 213 = 12 := by decide +kernel
theorem oO_214 : am_O 214 = 12 := by decide +kernel
theorem oO_215 : am_O 215 = 12 := by decide +kernel
theorem oO_216 : am_O 216 = 12 := by decide +kernel
theorem oO_217 : am_O 217 = 12 := by decide +kernel
theorem oO_218 : am_O 218 = 12 := by decide +kernel
theorem oO_219 : am_O 219 = 12 := by decide +kernel
theorem oO_220 : am_O 220 = 12 := by decide +kernel
theorem oO_221 : am_O 221 = 12 := by decide +kernel
theorem oO_222 : am_O 222 = 12 := by decide +kernel
theorem oO_223 : am_O 223 = 12 := by decide +kernel
theorem oO_224 : am_O 224 = 12 := by decide +kernel
theorem oO_225 : am_O 225 = 12 := by decide +kernel
theorem oO_226 : am_O 226 = 12 := by decide +kernel
theorem oO_227 : am_O 227 = 12 := by decide +kernel
theorem oO_228 : am_O 228 = 12 := by decide +kernel
theorem oO_229 : am_O 229 = 12 := by decide +kernel
theorem oO_230 : am_O 230 = 12 := by decide +kernel
theorem oO_231 : am_O 231 = 12 := by decide +kernel
theorem oO_232 : am_O 232 = 12 := by decide +kernel
theorem oO_233 : am_O 233 = 12 := by decide +kernel
theorem oO_234 : am_O 234 = 12 := by decide +kernel
theorem oO_235 : am_O 235 = 12 := by decide +kernel
theorem oO_236 : am_O 236 = 12 := by decide +kernel
theorem oO_237 : am_O 237 = 12 := by decide +kernel
theorem oO_238 : am_O 238 = 12 := by decide +kernel
theorem oO_239 : am_O 239 = 12 := by decide +kernel
theorem oO_240 : am_O 240 = 12 := by decide +kernel
theorem oO_241 : am_O 241 = 12 := by decide +kernel
theorem oO_242 : am_O 242 = 12 := by decide +kernel
theorem oO_243 : am_O 243 = 12 := by decide +kernel
theorem oO_244 : am_O 244 = 12 := by decide +kernel
theorem oO_245 : am_O 245 = 12 := by decide +kernel
theorem oO_246 : am_O 246 = 12 := by decide +kernel
theorem oO_247 : am_O 247 = 12 := by decide +kernel
theorem oO_248 : am_O 248 = 12 := by decide +kernel
theorem oO_249 : am_O 249 = 12 := by decide +kernel
theorem oO_250 : am_O 250 = 12 := by decide +kernel
theorem oO_251 : am_O 251 = 12 := by decide +kernel
theorem oO_252 : am_O 252 = 12 := by decide +kernel
theorem oO_253 : am_O 253 = 12 := by decide +kernel
theorem oO_254 : am_O 254 = 12 := by decide +kernel
theorem oO_255 : am_O 255 = 12 := by decide +kernel
theorem oO_256 : am_O 256 = 12 := by decide +kernel
theorem oO_257 : am_O 257 = 12 := by decide +kernel
theorem oO_258 : am_O 258 = 12 := by decide +kernel
theorem oO_259 : am_O 259 = 12 := by decide +kernel
theorem oO_260 : am_O 260 = 12 := by decide +kernel
theorem oO_261 : am_O 261 = 12 := by decide +kernel
theorem oO_262 : am_O 262 = 12 := by decide +kernel
theorem oO_263 : am_O 263 = 12 := by decide +kernel
theorem oO_264 : am_O 264 = 12 := by decide +kernel
theorem oO_265 : am_O 265 = 12 := by decide +kernel
theorem oO_266 : am_O 266 = 12 := by decide +kernel
theorem oO_267 : am_O 267 = 12 := by decide +kernel
theorem oO_268 : am_O 268 = 12 := by decide +kernel
theorem oO_269 : am_O 269 = 12 := by decide +kernel
theorem oO_270 : am_O 270 = 12 := by decide +kernel
theorem oO_271 : am_O 271 = 12 := by decide +kernel
theorem oO_272 : am_O 272 = 12 := by decide +kernel
theorem oO_273 : am_O 273 = 12 := by decide +kernel
theorem oO_274 : am_O 274 = 12 := by decide +kernel
theorem oO_275 : am_O 275 = 12 := by decide +kernel
theorem oO_276 : am_O 276 = 12 := by decide +kernel
theorem oO_277 : am_O 277 = 12 := by decide +kernel
theorem oO_278 : am_O 278 = 12 := by decide +kernel
theorem oO_279 : am_O 279 = 12 := by decide +kernel
theorem oO_280 : am_O 280 = 12 := by decide +kernel
theorem oO_281 : am_O 281 = 12 := by decide +kernel
theorem oO_282 : am_O 282 = 12 := by decide +kernel
theorem oO_283 : am_O 283 = 12 := by decide +kernel
theorem oO_284 : am_O 284 = 12 := by decide +kernel
theorem oO_285 : am_O 285 = 12 := by decide +kernel
theorem oO_286 : am_O 286 = 12 := by decide +kernel
theorem oO_287 : am_O 287 = 12 := by decide +kernel
theorem oO_288 : am_O 288 = 12 := by decide +kernel
theorem oO_289 : am_O 289 = 12 := by decide +kernel
theorem oO_290 : am_O 290 = 12 := by decide +kernel
theorem oO_291 : am_O 291 = 12 := by decide +kernel
theorem oO_292 : am_O 292 = 12 := by decide +kernel
theorem oO_293 : am_O 293 = 12 := by decide +kernel
theorem oO_294 : am_O 294 = 12 := by decide +kernel
theorem oO_295 : am_O 295 = 12 := by decide +kernel
theorem oO_296 : am_O 296 = 12 := by decide +kernel
theorem oO_297 : am_O 297 = 12 := by decide +kernel
theorem oO_298 : am_O 298 = 12 := by decide +kernel
theorem oO_299 : am_O 299 = 12 := by decide +kernel
theorem oO_300 : am_O 300 = 12 := by decide +kernel
theorem oO_301 : am_O 301 = 12 := by decide +kernel
theorem oO_302 : am_O 302 = 12 := by decide +kernel
theorem oO_303 : am_O 303 = 12 := by decide +kernel
theorem oO_304 : am_O 304 = 12 := by decide +kernel
theorem oO_305 : am_O 305 = 12 := by decide +kernel
theorem oO_306 : am_O 306 = 12 := by decide +kernel
theorem oO_307 : am_O 307 = 12 := by decide +kernel
theorem oO_308 : am_O 308 = 12 := by decide +kernel
theorem oO_309 : am_O 309 = 12 := by decide +kernel
theorem oO_310 : am_O 310 = 12 := by decide +kernel
theorem oO_311 : am_O 311 = 12 := by decide +kernel
theorem oO_312 : am_O 312 = 12 := by decide +kernel
theorem oO_313 : am_O 313 = 53 := by decide +kernel
theorem oO_314 : am_O 314 = 53 := by decide +kernel
theorem oO_315 : am_O 315 = 53 := by decide +kernel
theorem oO_316 : am_O 316 = 53 := by decide +kernel
theorem oO_317 : am_O 317 = 50 := by decide +kernel
theorem oO_318 : am_O 318 = 50 := by decide +kernel
theorem oO_319 : am_O 319 = 50 := by decide +kernel
theorem oO_320 : am_O 320 = 50 := by decide +kernel
theorem oO_321 : am_O 321 = 50 := by decide +kernel
theorem oO_322 : am_O 322 = 51 := by decide +kernel
theorem oO_323 : am_O 323 = 52 := by decide +kernel
theorem oO_324 : am_O 324 = 54 := by decide +kernel
theorem oO_325 : am_O 325 = 54 := by decide +kernel
theorem oO_326 : am_O 326 = 54 := by decide +kernel
theorem oO_327 : am_O 327 = 54 := by decide +kernel
theorem oO_328 : am_O 328 = 54 := by decide +kernel
theorem oO_329 : am_O 329 = 54 := by decide +kernel
theorem oO_330 : am_O 330 = 54 := by decide +kernel
theorem oO_331 : am_O 331 = 54 := by decide +kernel
theorem oO_332 : am_O 332 = 54 := by decide +kernel
theorem oO_333 : am_O 333 = 54 := by decide +kernel
theorem oO_334 : am_O 334 = 54 := by decide +kernel
theorem oO_335 : am_O 335 = 54 := by decide +kernel
theorem oO_336 : am_O 336 = 54 := by decide +kernel
theorem oO_337 : am_O 337 = 54 := by decide +kernel
theorem oO_338 : am_O 338 = 54 := by decide +kernel
theorem oO_339 : am_O 339 = 54 := by decide +kernel
theorem oO_340 : am_O 340 = 54 := by decide +kernel
theorem oO_341 : am_O 341 = 54 := by decide +kernel
theorem oO_342 : am_O 342 = 54 := by decide +kernel
theorem oO_343 : am_O 343 = 54 := by decide +kernel
theorem oO_344 : am_O 344 = 54 := by decide +kernel
theorem oO_345 : am_O 345 = 54 := by decide +kernel
theorem oO_346 : am_O 346 = 54 := by decide +kernel
theorem oO_347 : am_O 347 = 54 := by decide +kernel
theorem oO_348 : am_O 348 = 54 := by decide +kernel
theorem oO_349 : am_O 349 = 54 := by decide +kernel
theorem oO_350 : am_O 350 = 54 := by decide +kernel
theorem oO_351 : am_O 351 = 54 := by decide +kernel
theorem oO_352 : am_O 352 = 54 := by decide +kernel
theorem oO_353 : am_O 353 = 54 := by decide +kernel
theorem oO_354 : am_O 354 = 54 := by decide +kernel
theorem oO_355 : am_O 355 = 54 := by decide +kernel
theorem oO_356 : am_O 356 = 54 := by decide +kernel
theorem oO_357 : am_O 357 = 54 := by decide +kernel
theorem oO_358 : am_O 358 = 54 := by decide +kernel
theorem oO_359 : am_O 359 = 54 := by decide +kernel
theorem oO_360 : am_O 360 = 54 := by decide +kernel
theorem oO_361 : am_O 361 = 54 := by decide +kernel
theorem oO_362 : am_O 362 = 54 := by decide +kernel
theorem oO_363 : am_O 363 = 54 := by decide +kernel
theorem oO_364 : am_O 364 = 54 := by decide +kernel
