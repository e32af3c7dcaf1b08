/-! facts of the layout, laid by wip/p60/lay34.py -/
def ab_fb : List Nat := [6, 65, 97, 129, 163, 195, 227, 259, 291, 323, 355, 387, 419, 451]
def ab_nb : List Nat := [38, 52]
def ab_ar (p : Nat) : Prop := ab_at p 100 ∧ ab_N p = 245
theorem af_F {b : Nat} (hb : b ∈ ab_fb) : ab_at (b) 2 := (by decide +kernel : ∀ b ∈ ab_fb, (b < 483 ∧ ab_K (b) = 2)) b hb
theorem af_KA {b : Nat} (hb : b ∈ ab_fb) : ab_at (b + 1) 105 := (by decide +kernel : ∀ b ∈ ab_fb, (b + 1 < 483 ∧ ab_K (b + 1) = 105)) b hb
theorem ag_KA {b : Nat} (hb : b ∈ ab_fb) : ab_rf (b) 0 (b + 1) := (by decide +kernel : ∀ b ∈ ab_fb, (0 < (ab_Rl.getD (b) []).length ∧ ab_R (b) 0 = some (b + 1))) b hb
theorem af_WA {b : Nat} (hb : b ∈ ab_fb) : ab_at (b + 2) 106 := (by decide +kernel : ∀ b ∈ ab_fb, (b + 2 < 483 ∧ ab_K (b + 2) = 106)) b hb
theorem ag_WA {b : Nat} (hb : b ∈ ab_fb) : ab_rf (b) 1 (b + 2) := (by decide +kernel : ∀ b ∈ ab_fb, (1 < (ab_Rl.getD (b) []).length ∧ ab_R (b) 1 = some (b + 2))) b hb
theorem af_EA {b : Nat} (hb : b ∈ ab_fb) : ab_at (b + 3) 107 := (by decide +kernel : ∀ b ∈ ab_fb, (b + 3 < 483 ∧ ab_K (b + 3) = 107)) b hb
theorem ag_EA {b : Nat} (hb : b ∈ ab_fb) : ab_rf (b) 2 (b + 3) := (by decide +kernel : ∀ b ∈ ab_fb, (2 < (ab_Rl.getD (b) []).length ∧ ab_R (b) 2 = some (b + 3))) b hb
theorem af_SA {b : Nat} (hb : b ∈ ab_fb) : ab_at (b + 4) 100 := (by decide +kernel : ∀ b ∈ ab_fb, (b + 4 < 483 ∧ ab_K (b + 4) = 100)) b hb
theorem ag_SA {b : Nat} (hb : b ∈ ab_fb) : ab_rf (b) 3 (b + 4) := (by decide +kernel : ∀ b ∈ ab_fb, (3 < (ab_Rl.getD (b) []).length ∧ ab_R (b) 3 = some (b + 4))) b hb
theorem af_X {b : Nat} (hb : b ∈ ab_fb) : ab_at (b + 5) 0 := (by decide +kernel : ∀ b ∈ ab_fb, (b + 5 < 483 ∧ ab_K (b + 5) = 0)) b hb
theorem ag_X {b : Nat} (hb : b ∈ ab_fb) : ab_rf (b) 4 (b + 5) := (by decide +kernel : ∀ b ∈ ab_fb, (4 < (ab_Rl.getD (b) []).length ∧ ab_R (b) 4 = some (b + 5))) b hb
theorem ax_KA {b : Nat} (hb : b ∈ ab_fb) : ab_N (b + 1) = 10 := (by decide +kernel : ∀ b ∈ ab_fb, ab_N (b + 1) = 10) b hb
theorem ax_WA {b : Nat} (hb : b ∈ ab_fb) : ab_N (b + 2) = 4 := (by decide +kernel : ∀ b ∈ ab_fb, ab_N (b + 2) = 4) b hb
theorem ax_EA {b : Nat} (hb : b ∈ ab_fb) : ab_N (b + 3) = 12 := (by decide +kernel : ∀ b ∈ ab_fb, ab_N (b + 3) = 12) b hb
theorem ax_SA {b : Nat} (hb : b ∈ ab_fb) : ab_N (b + 4) = 6 := (by decide +kernel : ∀ b ∈ ab_fb, ab_N (b + 4) = 6) b hb
theorem af_K {b : Nat} (hb : b ∈ ab_fb) {i : Nat} (hi : i < 10) : ab_at (b + 6 + i) 5 := (by decide +kernel : ∀ b ∈ ab_fb, ∀ i, i < 10 → (b + 6 + i < 483 ∧ ab_K (b + 6 + i) = 5)) b hb i hi
theorem ai_KA {b : Nat} (hb : b ∈ ab_fb) {i : Nat} (hi : i < 10) : ab_rf (b + 1) i (b + 6 + i) := (by decide +kernel : ∀ b ∈ ab_fb, ∀ i, i < 10 → (i < (ab_Rl.getD (b + 1) []).length ∧ ab_R (b + 1) i = some (b + 6 + i))) b hb i hi
theorem af_W {b : Nat} (hb : b ∈ ab_fb) {i : Nat} (hi : i < 4) : ab_at (b + 16 + i) 10 := (by decide +kernel : ∀ b ∈ ab_fb, ∀ i, i < 4 → (b + 16 + i < 483 ∧ ab_K (b + 16 + i) = 10)) b hb i hi
theorem ai_WA {b : Nat} (hb : b ∈ ab_fb) {i : Nat} (hi : i < 4) : ab_rf (b + 2) i (b + 16 + i) := (by decide +kernel : ∀ b ∈ ab_fb, ∀ i, i < 4 → (i < (ab_Rl.getD (b + 2) []).length ∧ ab_R (b + 2) i = some (b + 16 + i))) b hb i hi
theorem af_E {b : Nat} (hb : b ∈ ab_fb) {i : Nat} (hi : i < 12) : ab_at (b + 20 + i) 1 := (by decide +kernel : ∀ b ∈ ab_fb, ∀ i, i < 12 → (b + 20 + i < 483 ∧ ab_K (b + 20 + i) = 1)) b hb i hi
theorem ai_EA {b : Nat} (hb : b ∈ ab_fb) {i : Nat} (hi : i < 12) : ab_rf (b + 3) i (b + 20 + i) := (by decide +kernel : ∀ b ∈ ab_fb, ∀ i, i < 12 → (i < (ab_Rl.getD (b + 3) []).length ∧ ab_R (b + 3) i = some (b + 20 + i))) b hb i hi
theorem af_H {i : Nat} (hi : i < 10) : 163 + 32 * i ∈ ab_fb := (by decide +kernel : ∀ i, i < 10 → 163 + 32 * i ∈ ab_fb) i hi
theorem ai_H {i : Nat} (hi : i < 10) : ab_rf 162 i (163 + 32 * i) := (by decide +kernel : ∀ i, i < 10 → (i < (ab_Rl.getD (162) []).length ∧ ab_R (162) i = some (163 + 32 * i))) i hi
theorem an_N {b : Nat} (hb : b ∈ ab_nb) : ab_at (b) 6 := (by decide +kernel : ∀ b ∈ ab_nb, (b < 483 ∧ ab_K (b) = 6)) b hb
theorem an_R {b : Nat} (hb : b ∈ ab_nb) : ab_at (b + 1) 109 := (by decide +kernel : ∀ b ∈ ab_nb, (b + 1 < 483 ∧ ab_K (b + 1) = 109)) b hb
theorem an_L {b : Nat} (hb : b ∈ ab_nb) : ab_at (b + 12) 100 := (by decide +kernel : ∀ b ∈ ab_nb, (b + 12 < 483 ∧ ab_K (b + 12) = 100)) b hb
theorem an_B {b : Nat} (hb : b ∈ ab_nb) {i : Nat} (hi : i < 10) : ab_at (b + 2 + i) 101 := (by decide +kernel : ∀ b ∈ ab_nb, ∀ i, i < 10 → (b + 2 + i < 483 ∧ ab_K (b + 2 + i) = 101)) b hb i hi
theorem ay_R {b : Nat} (hb : b ∈ ab_nb) : ab_N (b + 1) = 10 := (by decide +kernel : ∀ b ∈ ab_nb, ab_N (b + 1) = 10) b hb
theorem ay_L {b : Nat} (hb : b ∈ ab_nb) : ab_N (b + 12) = 10 := (by decide +kernel : ∀ b ∈ ab_nb, ab_N (b + 12) = 10) b hb
theorem ay_B {b : Nat} (hb : b ∈ ab_nb) {i : Nat} (hi : i < 10) : ab_N (b + 2 + i) = 6 := (by decide +kernel : ∀ b ∈ ab_nb, ∀ i, i < 10 → ab_N (b + 2 + i) = 6) b hb i hi
theorem ah_R {b : Nat} (hb : b ∈ ab_nb) : ab_rf (b) 0 (b + 1) := (by decide +kernel : ∀ b ∈ ab_nb, (0 < (ab_Rl.getD (b) []).length ∧ ab_R (b) 0 = some (b + 1))) b hb
theorem ah_L {b : Nat} (hb : b ∈ ab_nb) : ab_rf (b) 1 (b + 12) := (by decide +kernel : ∀ b ∈ ab_nb, (1 < (ab_Rl.getD (b) []).length ∧ ab_R (b) 1 = some (b + 12))) b hb
theorem ai_NR {b : Nat} (hb : b ∈ ab_nb) {i : Nat} (hi : i < 10) : ab_rf (b + 1) i (b + 2 + i) := (by decide +kernel : ∀ b ∈ ab_nb, ∀ i, i < 10 → (i < (ab_Rl.getD (b + 1) []).length ∧ ab_R (b + 1) i = some (b + 2 + i))) b hb i hi
theorem at_0 : ab_at 0 11 := (by decide +kernel : (0 < 483 ∧ ab_K (0) = 11))
theorem at_1 : ab_at 1 4 := (by decide +kernel : (1 < 483 ∧ ab_K (1) = 4))
theorem at_2 : ab_at 2 101 := (by decide +kernel : (2 < 483 ∧ ab_K (2) = 101))
theorem an_2 : ab_N 2 = 700 := by decide +kernel
theorem at_3 : ab_at 3 7 := (by decide +kernel : (3 < 483 ∧ ab_K (3) = 7))
theorem at_4 : ab_at 4 101 := (by decide +kernel : (4 < 483 ∧ ab_K (4) = 101))
theorem an_4 : ab_N 4 = 640 := by decide +kernel
theorem at_5 : ab_at 5 8 := (by decide +kernel : (5 < 483 ∧ ab_K (5) = 8))
theorem at_51 : ab_at 51 9 := (by decide +kernel : (51 < 483 ∧ ab_K (51) = 9))
theorem at_161 : ab_at 161 3 := (by decide +kernel : (161 < 483 ∧ ab_K (161) = 3))
theorem at_162 : ab_at 162 108 := (by decide +kernel : (162 < 483 ∧ ab_K (162) = 108))
theorem an_162 : ab_N 162 = 10 := by decide +kernel
theorem ar_0_0 : ab_rf 0 0 1 := (by decide +kernel : (0 < (ab_Rl.getD (0) []).length ∧ ab_R (0) 0 = some (1)))
theorem ar_0_1 : ab_rf 0 1 3 := (by decide +kernel : (1 < (ab_Rl.getD (0) []).length ∧ ab_R (0) 1 = some (3)))
theorem ar_0_2 : ab_rf 0 2 5 := (by decide +kernel : (2 < (ab_Rl.getD (0) []).length ∧ ab_R (0) 2 = some (5)))
theorem ar_0_3 : ab_rf 0 3 52 := (by decide +kernel : (3 < (ab_Rl.getD (0) []).length ∧ ab_R (0) 3 = some (52)))
theorem ar_0_4 : ab_rf 0 4 65 := (by decide +kernel : (4 < (ab_Rl.getD (0) []).length ∧ ab_R (0) 4 = some (65)))
theorem ar_0_5 : ab_rf 0 5 97 := (by decide +kernel : (5 < (ab_Rl.getD (0) []).length ∧ ab_R (0) 5 = some (97)))
theorem ar_0_6 : ab_rf 0 6 129 := (by decide +kernel : (6 < (ab_Rl.getD (0) []).length ∧ ab_R (0) 6 = some (129)))
theorem ar_0_7 : ab_rf 0 7 161 := (by decide +kernel : (7 < (ab_Rl.getD (0) []).length ∧ ab_R (0) 7 = some (161)))
theorem ar_1_0 : ab_rf 1 0 2 := (by decide +kernel : (0 < (ab_Rl.getD (1) []).length ∧ ab_R (1) 0 = some (2)))
theorem ar_3_0 : ab_rf 3 0 4 := (by decide +kernel : (0 < (ab_Rl.getD (3) []).length ∧ ab_R (3) 0 = some (4)))
theorem ar_5_0 : ab_rf 5 0 6 := (by decide +kernel : (0 < (ab_Rl.getD (5) []).length ∧ ab_R (5) 0 = some (6)))
theorem ar_5_1 : ab_rf 5 1 38 := (by decide +kernel : (1 < (ab_Rl.getD (5) []).length ∧ ab_R (5) 1 = some (38)))
theorem ar_5_2 : ab_rf 5 2 51 := (by decide +kernel : (2 < (ab_Rl.getD (5) []).length ∧ ab_R (5) 2 = some (51)))
theorem ar_51_0 : ab_rf 51 0 1 := (by decide +kernel : (0 < (ab_Rl.getD (51) []).length ∧ ab_R (51) 0 = some (1)))
theorem ar_161_0 : ab_rf 161 0 162 := (by decide +kernel : (0 < (ab_Rl.getD (161) []).length ∧ ab_R (161) 0 = some (162)))
theorem fF_0_7 : am_F 0 7 = some (5, 1, 0, 148) := by decide +kernel
theorem fF_0_13 : am_F 0 13 = some (5, 4, 0, 160) := by decide +kernel
theorem fF_0_16 : am_F 0 16 = some (5, 2, 0, 152) := by decide +kernel
theorem fF_0_19 : am_F 0 19 = some (5, 5, 0, 164) := by decide +kernel
theorem fF_0_28 : am_F 0 28 = some (0, 0, 0, 120) := by decide +kernel
theorem fF_0_31 : am_F 0 31 = some (0, 1, 0, 123) := by decide +kernel
theorem fF_0_32 : am_F 0 32 = some (5, 3, 0, 157) := by decide +kernel
theorem fF_0_42 : am_F 0 42 = some (0, 2, 0, 126) := by decide +kernel
theorem fF_0_45 : am_F 0 45 = some (0, 3, 0, 128) := by decide +kernel
theorem fF_1_7 : am_F 1 7 = some (1, 0, 0, 249) := by decide +kernel
theorem fF_1_13 : am_F 1 13 = some (1, 1, 0, 251) := by decide +kernel
theorem fF_1_16 : am_F 1 16 = some (1, 2, 0, 253) := by decide +kernel
theorem fF_1_19 : am_F 1 19 = some (1, 3, 0, 255) := by decide +kernel
theorem fF_1_22 : am_F 1 22 = some (1, 4, 0, 257) := by decide +kernel
theorem fF_1_25 : am_F 1 25 = some (1, 5, 0, 259) := by decide +kernel
theorem fF_2_11 : am_F 2 11 = some (2, 0, 0, 288) := by decide +kernel
theorem fF_2_19 : am_F 2 19 = some (2, 1, 0, 291) := by decide +kernel
theorem fF_2_25 : am_F 2 25 = some (2, 2, 0, 294) := by decide +kernel
theorem fF_2_29 : am_F 2 29 = some (2, 3, 0, 295) := by decide +kernel
theorem fF_2_36 : am_F 2 36 = some (2, 4, 0, 298) := by decide +kernel
theorem fF_2_49 : am_F 2 49 = some (2, 5, 0, 300) := by decide +kernel
theorem fF_2_53 : am_F 2 53 = some (2, 6, 0, 303) := by decide +kernel
theorem fF_2_56 : am_F 2 56 = some (2, 7, 0, 306) := by decide +kernel
theorem fF_2_59 : am_F 2 59 = some (2, 8, 0, 308) := by decide +kernel
theorem fF_2_62 : am_F 2 62 = some (2, 9, 0, 309) := by decide +kernel
theorem fF_2_65 : am_F 2 65 = some (2, 10, 0, 311) := by decide +kernel
theorem fF_2_85 : am_F 2 85 = some (5, 0, 0, 146) := by decide +kernel
theorem fF_2_88 : am_F 2 88 = some (10, 0, 0, 229) := by decide +kernel
theorem fF_2_115 : am_F 2 115 = some (5, 4, 0, 162) := by decide +kernel
theorem fF_2_122 : am_F 2 122 = some (5, 5, 0, 166) := by decide +kernel
theorem fF_2_125 : am_F 2 125 = some (5, 1, 0, 150) := by decide +kernel
theorem fF_2_128 : am_F 2 128 = some (5, 2, 0, 154) := by decide +kernel
theorem fF_2_139 : am_F 2 139 = some (1, 0, 0, 250) := by decide +kernel
theorem fF_2_140 : am_F 2 140 = some (1, 1, 0, 252) := by decide +kernel
theorem fF_2_143 : am_F 2 143 = some (1, 2, 0, 254) := by decide +kernel
theorem fF_2_146 : am_F 2 146 = some (1, 3, 0, 256) := by decide +kernel
theorem fF_2_149 : am_F 2 149 = some (1, 4, 0, 258) := by decide +kernel
theorem fF_2_150 : am_F 2 150 = some (1, 5, 0, 260) := by decide +kernel
theorem fF_2_170 : am_F 2 170 = some (5, 3, 0, 158) := by decide +kernel
theorem fF_2_176 : am_F 2 176 = some (5, 6, 0, 170) := by decide +kernel
theorem fF_2_179 : am_F 2 179 = some (5, 7, 0, 173) := by decide +kernel
theorem fF_2_201 : am_F 2 201 = some (5, 14, 0, 188) := by decide +kernel
theorem fF_2_204 : am_F 2 204 = some (5, 15, 0, 189) := by decide +kernel
theorem fF_2_214 : am_F 2 214 = some (5, 10, 0, 181) := by decide +kernel
theorem fF_2_217 : am_F 2 217 = some (5, 9, 0, 179) := by decide +kernel
theorem fF_2_220 : am_F 2 220 = some (5, 13, 0, 187) := by decide +kernel
theorem fF_2_223 : am_F 2 223 = some (5, 11, 0, 183) := by decide +kernel
theorem fF_2_226 : am_F 2 226 = some (0, 0, 0, 122) := by decide +kernel
theorem fF_2_227 : am_F 2 227 = some (0, 1, 0, 125) := by decide +kernel
theorem fF_2_231 : am_F 2 231 = some (5, 12, 0, 185) := by decide +kernel
theorem fF_3_11 : am_F 3 11 = some (3, 0, 0, 416) := by decide +kernel
theorem fF_3_18 : am_F 3 18 = some (3, 2, 0, 418) := by decide +kernel
theorem fF_3_22 : am_F 3 22 = some (3, 1, 0, 417) := by decide +kernel
theorem fF_4_9 : am_F 4 9 = some (4, 0, 0, 72) := by decide +kernel
theorem fF_4_15 : am_F 4 15 = some (4, 1, 0, 76) := by decide +kernel
theorem fF_5_9 : am_F 5 9 = some (5, 0, 0, 145) := by decide +kernel
theorem fF_5_15 : am_F 5 15 = some (5, 1, 0, 149) := by decide +kernel
theorem fF_5_18 : am_F 5 18 = some (5, 2, 0, 153) := by decide +kernel
theorem fF_5_21 : am_F 5 21 = some (5, 3, 0, 156) := by decide +kernel
theorem fF_5_24 : am_F 5 24 = some (5, 4, 0, 161) := by decide +kernel
theorem fF_5_27 : am_F 5 27 = some (5, 5, 0, 165) := by decide +kernel
theorem fF_5_30 : am_F 5 30 = some (5, 6, 0, 168) := by decide +kernel
theorem fF_5_33 : am_F 5 33 = some (5, 7, 0, 172) := by decide +kernel
theorem fF_5_36 : am_F 5 36 = some (5, 8, 0, 175) := by decide +kernel
theorem fF_5_39 : am_F 5 39 = some (5, 9, 0, 177) := by decide +kernel
theorem fF_5_42 : am_F 5 42 = some (5, 10, 0, 180) := by decide +kernel
theorem fF_5_45 : am_F 5 45 = some (5, 11, 0, 182) := by decide +kernel
theorem fF_5_48 : am_F 5 48 = some (5, 12, 0, 184) := by decide +kernel
theorem fF_5_51 : am_F 5 51 = some (5, 13, 0, 186) := by decide +kernel
theorem fF_5_67 : am_F 5 67 = some (10, 1, 0, 232) := by decide +kernel
theorem fF_5_73 : am_F 5 73 = some (10, 2, 0, 235) := by decide +kernel
theorem fF_6_11 : am_F 6 11 = some (6, 0, 0, 344) := by decide +kernel
theorem fF_6_16 : am_F 6 16 = some (6, 1, 0, 345) := by decide +kernel
theorem fF_6_20 : am_F 6 20 = some (6, 2, 0, 346) := by decide +kernel
theorem fF_7_9 : am_F 7 9 = some (7, 0, 0, 90) := by decide +kernel
theorem fF_8_12 : am_F 8 12 = some (8, 0, 0, 377) := by decide +kernel
theorem fF_8_21 : am_F 8 21 = some (8, 1, 0, 379) := by decide +kernel
theorem fF_8_25 : am_F 8 25 = some (8, 6, 0, 386) := by decide +kernel
theorem fF_8_34 : am_F 8 34 = some (8, 2, 0, 381) := by decide +kernel
theorem fF_8_38 : am_F 8 38 = some (8, 5, 0, 384) := by decide +kernel
theorem fF_8_45 : am_F 8 45 = some (8, 3, 0, 382) := by decide +kernel
theorem fF_8_51 : am_F 8 51 = some (9, 1, 0, 362) := by decide +kernel
theorem fF_8_66 : am_F 8 66 = some (2, 6, 0, 304) := by decide +kernel
theorem fF_8_88 : am_F 8 88 = some (2, 5, 0, 301) := by decide +kernel
theorem fF_8_101 : am_F 8 101 = some (8, 4, 0, 383) := by decide +kernel
theorem fF_8_104 : am_F 8 104 = some (2, 0, 0, 289) := by decide +kernel
theorem fF_8_114 : am_F 8 114 = some (5, 8, 0, 176) := by decide +kernel
theorem fF_8_121 : am_F 8 121 = some (5, 9, 0, 178) := by decide +kernel
theorem fF_8_124 : am_F 8 124 = some (5, 6, 0, 169) := by decide +kernel
theorem fF_8_127 : am_F 8 127 = some (9, 3, 0, 367) := by decide +kernel
theorem fF_8_130 : am_F 8 130 = some (9, 0, 0, 361) := by decide +kernel
theorem fF_8_134 : am_F 8 134 = some (4, 0, 0, 74) := by decide +kernel
theorem fF_8_140 : am_F 8 140 = some (9, 2, 0, 365) := by decide +kernel
theorem fF_8_159 : am_F 8 159 = some (2, 1, 0, 292) := by decide +kernel
theorem fF_8_163 : am_F 8 163 = some (10, 0, 0, 230) := by decide +kernel
theorem fF_8_182 : am_F 8 182 = some (2, 3, 0, 297) := by decide +kernel
theorem fF_9_7 : am_F 9 7 = some (9, 0, 0, 360) := by decide +kernel
theorem fF_9_13 : am_F 9 13 = some (9, 2, 0, 364) := by decide +kernel
theorem fF_9_17 : am_F 9 17 = some (9, 3, 0, 366) := by decide +kernel
theorem fF_9_23 : am_F 9 23 = some (4, 1, 0, 77) := by decide +kernel
theorem fF_9_26 : am_F 9 26 = some (4, 0, 0, 73) := by decide +kernel
theorem fF_9_34 : am_F 9 34 = some (9, 1, 0, 363) := by decide +kernel
theorem fF_10_7 : am_F 10 7 = some (10, 0, 0, 228) := by decide +kernel
theorem fF_10_13 : am_F 10 13 = some (10, 1, 0, 231) := by decide +kernel
theorem fF_10_16 : am_F 10 16 = some (10, 2, 0, 234) := by decide +kernel
theorem fF_11_10 : am_F 11 10 = some (11, 0, 0, 427) := by decide +kernel
theorem fF_11_19 : am_F 11 19 = some (11, 1, 0, 428) := by decide +kernel
theorem fF_11_28 : am_F 11 28 = some (11, 2, 0, 429) := by decide +kernel
theorem fF_11_35 : am_F 11 35 = some (11, 3, 0, 430) := by decide +kernel
theorem fF_11_42 : am_F 11 42 = some (11, 4, 0, 431) := by decide +kernel
theorem fF_11_46 : am_F 11 46 = some (11, 5, 0, 432) := by decide +kernel
theorem fF_11_49 : am_F 11 49 = some (11, 6, 0, 433) := by decide +kernel
theorem fF_11_55 : am_F 11 55 = some (11, 7, 0, 434) := by decide +kernel
theorem fF_11_59 : am_F 11 59 = some (11, 10, 0, 437) := by decide +kernel
theorem fF_11_63 : am_F 11 63 = some (4, 1, 0, 75) := by decide +kernel
theorem fF_11_74 : am_F 11 74 = some (8, 5, 0, 385) := by decide +kernel
theorem fF_11_77 : am_F 11 77 = some (11, 9, 0, 436) := by decide +kernel
theorem fF_11_80 : am_F 11 80 = some (8, 6, 0, 387) := by decide +kernel
theorem fF_11_83 : am_F 11 83 = some (8, 0, 0, 378) := by decide +kernel
theorem fF_11_88 : am_F 11 88 = some (8, 1, 0, 380) := by decide +kernel
theorem fF_11_95 : am_F 11 95 = some (11, 8, 0, 435) := by decide +kernel
theorem fF_11_99 : am_F 11 99 = some (2, 5, 0, 302) := by decide +kernel
theorem fF_11_106 : am_F 11 106 = some (2, 6, 0, 305) := by decide +kernel
theorem fF_11_109 : am_F 11 109 = some (2, 9, 0, 310) := by decide +kernel
theorem fF_11_112 : am_F 11 112 = some (2, 7, 0, 307) := by decide +kernel
theorem fF_11_115 : am_F 11 115 = some (2, 10, 0, 312) := by decide +kernel
theorem fF_11_122 : am_F 11 122 = some (3, 2, 0, 419) := by decide +kernel
theorem fF_11_129 : am_F 11 129 = some (2, 3, 0, 296) := by decide +kernel
theorem fF_11_148 : am_F 11 148 = some (2, 0, 0, 290) := by decide +kernel
theorem fF_11_160 : am_F 11 160 = some (2, 1, 0, 293) := by decide +kernel
theorem fF_11_170 : am_F 11 170 = some (5, 0, 0, 147) := by decide +kernel
theorem fF_11_188 : am_F 11 188 = some (2, 4, 0, 299) := by decide +kernel
theorem fF_11_192 : am_F 11 192 = some (0, 0, 0, 121) := by decide +kernel
theorem fF_11_197 : am_F 11 197 = some (0, 1, 0, 124) := by decide +kernel
theorem fF_11_200 : am_F 11 200 = some (0, 2, 0, 127) := by decide +kernel
theorem fF_11_203 : am_F 11 203 = some (0, 3, 0, 129) := by decide +kernel
theorem fF_11_229 : am_F 11 229 = some (5, 3, 0, 159) := by decide +kernel
theorem fF_11_239 : am_F 11 239 = some (5, 1, 0, 151) := by decide +kernel
theorem fF_11_240 : am_F 11 240 = some (5, 2, 0, 155) := by decide +kernel
theorem fF_11_250 : am_F 11 250 = some (5, 4, 0, 163) := by decide +kernel
theorem fF_11_253 : am_F 11 253 = some (10, 1, 0, 233) := by decide +kernel
theorem fF_11_254 : am_F 11 254 = some (5, 5, 0, 167) := by decide +kernel
theorem fF_11_257 : am_F 11 257 = some (10, 2, 0, 236) := by decide +kernel
theorem fF_11_283 : am_F 11 283 = some (5, 6, 0, 171) := by decide +kernel
theorem fF_11_289 : am_F 11 289 = some (5, 7, 0, 174) := by decide +kernel
theorem fF_50_9 : am_F 50 9 = some (13, 0, 0, 1226) := by decide +kernel
theorem fF_50_15 : am_F 50 15 = some (13, 1, 0, 1227) := by decide +kernel
theorem fF_50_1048 : am_F 50 1048 = some (12, 2, 0, 1121) := by decide +kernel
theorem fF_56_15 : am_F 56 15 = some (12, 0, 0, 1119) := by decide +kernel
theorem fF_56_22 : am_F 56 22 = some (12, 1, 0, 1120) := by decide +kernel
theorem fF_56_79 : am_F 56 79 = some (12, 3, 0, 1122) := by decide +kernel
theorem fS_2_68 : am_S 2 68 = some (2, 1, 278) := by decide +kernel
theorem fS_8_175 : am_S 8 175 = some (0, 1, 981) := by decide +kernel
theorem fS_8_179 : am_S 8 179 = some (1, 1, 983) := by decide +kernel
theorem fS_56_18 : am_S 56 18 = some (3, 0, 1070) := by decide +kernel
theorem fS_57_83 : am_S 57 83 = some (6, 0, 1144) := by decide +kernel
theorem fS_57_87 : am_S 57 87 = some (5, 0, 1146) := by decide +kernel
theorem fS_50_38 : am_S 50 38 = some (3, 0, 814) := by decide +kernel
theorem fS_50_1053 : am_S 50 1053 = some (4, 0, 830) := by decide +kernel
theorem oO_0 : am_O 0 = 0 := by decide +kernel
theorem oO_1 : am_O 1 = 0 := by decide +kernel
theorem oO_2 : am_O 2 = 0 := by decide +kernel
theorem oO_3 : am_O 3 = 0 := by decide +kernel
theorem oO_4 : am_O 4 = 1 := by decide +kernel
theorem oO_5 : am_O 5 = 1 := by decide +kernel
theorem oO_7 : am_O 7 = 2 := by decide +kernel
theorem oO_8 : am_O 8 = 2 := by decide +kernel
theorem oO_9 : am_O 9 = 2 := by decide +kernel
theorem oO_10 : am_O 10 = 2 := by decide +kernel
theorem oO_11 : am_O 11 = 2 := by decide +kernel
theorem oO_12 : am_O 12 = 2 := by decide +kernel
theorem oO_13 : am_O 13 = 2 := by decide +kernel
theorem oO_14 : am_O 14 = 2 := by decide +kernel
theorem oO_15 : am_O 15 = 2 := by decide +kernel
theorem oO_16 : am_O 16 = 2 := by decide +kernel
theorem oO_17 : am_O 17 = 2 := by decide +kernel
theorem oO_18 : am_O 18 = 2 := by decide +kernel
theorem oO_19 : am_O 19 = 2 := by decide +kernel
theorem oO_20 : am_O 20 = 2 := by decide +kernel
theorem oO_21 : am_O 21 = 2 := by decide +kernel
theorem oO_22 : am_O 22 = 2 := by decide +kernel
theorem oO_23 : am_O 23 = 2 := by decide +kernel
theorem oO_24 : am_O 24 = 2 := by decide +kernel
theorem oO_25 : am_O 25 = 2 := by decide +kernel
theorem oO_26 : am_O 26 = 2 := by decide +kernel
theorem oO_27 : am_O 27 = 2 := by decide +kernel
theorem oO_28 : am_O 28 = 3 := by decide +kernel
theorem oO_29 : am_O 29 = 3 := by decide +kernel
theorem oO_30 : am_O 30 = 3 := by decide +kernel
theorem oO_31 : am_O 31 = 3 := by decide +kernel
theorem oO_32 : am_O 32 = 4 := by decide +kernel
theorem oO_33 : am_O 33 = 4 := by decide +kernel
theorem oO_34 : am_O 34 = 5 := by decide +kernel
theorem oO_35 : am_O 35 = 5 := by decide +kernel
theorem oO_36 : am_O 36 = 5 := by decide +kernel
theorem oO_38 : am_O 38 = 5 := by decide +kernel
theorem oO_39 : am_O 39 = 5 := by decide +kernel
theorem oO_41 : am_O 41 = 5 := by decide +kernel
theorem oO_42 : am_O 42 = 5 := by decide +kernel
theorem oO_43 : am_O 43 = 5 := by decide +kernel
theorem oO_44 : am_O 44 = 5 := by decide +kernel
theorem oO_45 : am_O 45 = 5 := by decide +kernel
theorem oO_46 : am_O 46 = 5 := by decide +kernel
theorem oO_47 : am_O 47 = 6 := by decide +kernel
theorem oO_48 : am_O 48 = 6 := by decide +kernel
theorem oO_49 : am_O 49 = 6 := by decide +kernel
theorem oO_50 : am_O 50 = 6 := by decide +kernel
theorem oO_51 : am_O 51 = 6 := by decide +kernel
theorem oO_52 : am_O 52 = 6 := by decide +kernel
theorem oO_53 : am_O 53 = 7 := by decide +kernel
theorem oO_60 : am_O 60 = 8 := by decide +kernel
theorem oO_61 : am_O 61 = 8 := by decide +kernel
theorem oO_62 : am_O 62 = 8 := by decide +kernel
theorem oO_63 : am_O 63 = 8 := by decide +kernel
theorem oO_64 : am_O 64 = 8 := by decide +kernel
theorem oO_65 : am_O 65 = 8 := by decide +kernel
theorem oO_66 : am_O 66 = 8 := by decide +kernel
theorem oO_67 : am_O 67 = 8 := by decide +kernel
theorem oO_68 : am_O 68 = 8 := by decide +kernel
theorem oO_69 : am_O 69 = 8 := by decide +kernel
theorem oO_70 : am_O 70 = 8 := by decide +kernel
theorem oO_71 : am_O 71 = 8 := by decide +kernel
theorem oO_72 : am_O 72 = 8 := by decide +kernel
theorem oO_73 : am_O 73 = 8 := by decide +kernel
theorem oO_74 : am_O 74 = 9 := by decide +kernel
theorem oO_75 : am_O 75 = 9 := by decide +kernel
theorem oO_76 : am_O 76 = 9 := by decide +kernel
theorem oO_77 : am_O 77 = 9 := by decide +kernel
theorem oO_78 : am_O 78 = 9 := by decide +kernel
theorem oO_79 : am_O 79 = 9 := by decide +kernel
theorem oO_80 : am_O 80 = 9 := by decide +kernel
theorem oO_81 : am_O 81 = 10 := by decide +kernel
theorem oO_82 : am_O 82 = 10 := by decide +kernel
theorem oO_83 : am_O 83 = 10 := by decide +kernel
theorem oO_84 : am_O 84 = 10 := by decide +kernel
theorem oO_86 : am_O 86 = 11 := by decide +kernel
theorem oO_87 : am_O 87 = 11 := by decide +kernel
theorem oO_88 : am_O 88 = 11 := by decide +kernel
theorem oO_89 : am_O 89 = 11 := by decide +kernel
theorem oO_92 : am_O 92 = 11 := by decide +kernel
theorem oO_93 : am_O 93 = 11 := by decide +kernel
theorem oO_95 : am_O 95 = 11 := by decide +kernel
theorem oO_98 : am_O 98 = 11 := by decide +kernel
theorem oO_99 : am_O 99 = 11 := by decide +kernel
theorem oO_100 : am_O 100 = 11 := by decide +kernel
theorem oO_101 : am_O 101 = 11 := by decide +kernel
theorem oO_102 : am_O 102 = 11 := by decide +kernel
theorem oO_103 : am_O 103 = 11 := by decide +kernel
theorem oO_105 : am_O 105 = 11 := by decide +kernel
theorem oO_109 : am_O 109 = 11 := by decide +kernel
theorem oO_112 : am_O 112 = 11 := by decide +kernel
theorem oO_113 : am_O 113 = 11 := by decide +kernel
theorem oO_115 : am_O 115 = 11 := by decide +kernel
theorem oO_119 : am_O 119 = 11 := by decide +kernel
theorem oO_122 : am_O 122 = 11 := by decide +kernel
theorem oO_123 : am_O 123 = 11 := by decide +kernel
theorem oO_126 : am_O 126 = 11 := by decide +kernel
theorem oO_128 : am_O 128 = 11 := by decide +kernel
theorem oO_129 : am_O 129 = 11 := by decide +kernel
theorem oO_130 : am_O 130 = 11 := by decide +kernel
theorem oO_131 : am_O 131 = 11 := by decide +kernel
theorem oO_132 : am_O 132 = 11 := by decide +kernel
theorem oO_133 : am_O 133 = 11 := by decide +kernel
theorem oO_135 : am_O 135 = 11 := by decide +kernel
theorem oO_137 : am_O 137 = 11 := by decide +kernel
theorem oO_142 : am_O 142 = 11 := by decide +kernel
theorem oO_143 : am_O 143 = 11 := by decide +kernel
theorem oO_144 : am_O 144 = 11 := by decide +kernel
theorem oO_145 : am_O 145 = 11 := by decide +kernel
theorem oO_146 : am_O 146 = 11 := by decide +kernel
theorem oO_147 : am_O 147 = 11 := by decide +kernel
theorem oO_148 : am_O 148 = 11 := by decide +kernel
theorem oO_151 : am_O 151 = 11 := by decide +kernel
theorem oO_152 : am_O 152 = 11 := by decide +kernel
theorem oO_313 : am_O 313 = 53 := by decide +kernel
theorem oO_314 : am_O 314 = 53 := by decide +kernel
theorem oO_315 : am_O 315 = 53 := by decide +kernel
theorem oO_316 : am_O 316 = 53 := by decide +kernel
theorem oO_317 : am_O 317 = 50 := by decide +kernel
theorem oO_318 : am_O 318 = 50 := by decide +kernel
theorem oO_319 : am_O 319 = 50 := by decide +kernel
theorem oO_320 : am_O 320 = 50 := by decide +kernel
theorem oO_321 : am_O 321 = 50 := by decide +kernel
theorem oO_322 : am_O 322 = 51 := by decide +kernel
theorem oO_323 : am_O 323 = 52 := by decide +kernel
theorem oO_324 : am_O 324 = 51 := by decide +kernel
theorem oO_325 : am_O 325 = 59 := by decide +kernel
theorem oO_326 : am_O 326 = 58 := by decide +kernel
theorem oO_327 : am_O 327 = 58 := by decide +kernel
theorem oO_328 : am_O 328 = 58 := by decide +kernel
theorem oO_329 : am_O 329 = 58 := by decide +kernel
theorem oO_330 : am_O 330 = 57 := by decide +kernel
theorem oO_331 : am_O 331 = 57 := by decide +kernel
theorem oO_332 : am_O 332 = 56 := by decide +kernel
theorem oO_333 : am_O 333 = 56 := by decide +kernel
theorem oO_334 : am_O 334 = 56 := by decide +kernel
theorem oO_335 : am_O 335 = 56 := by decide +kernel
theorem oO_336 : am_O 336 = 56 := by decide +kernel
theorem oO_337 : am_O 337 = 50 := by decide +kernel
theorem oO_338 : am_O 338 = 56 := by decide +kernel
theorem oO_339 : am_O 339 = 56 := by decide +kernel
theorem oO_340 : am_O 340 = 56 := by decide +kernel
theorem oO_341 : am_O 341 = 56 := by decide +kernel
theorem oO_342 : am_O 342 = 56 := by decide +kernel
theorem oO_343 : am_O 343 = 55 := by decide +kernel
theorem oO_344 : am_O 344 = 55 := by decide +kernel
theorem oO_345 : am_O 345 = 55 := by decide +kernel
theorem oO_346 : am_O 346 = 55 := by decide +kernel
theorem oO_347 : am_O 347 = 55 := by decide +kernel
theorem oO_348 : am_O 348 = 56 := by decide +kernel
theorem oO_349 : am_O 349 = 55 := by decide +kernel
theorem oO_350 : am_O 350 = 50 := by decide +kernel
theorem oO_351 : am_O 351 = 50 := by decide +kernel
theorem oO_352 : am_O 352 = 55 := by decide +kernel
theorem oO_357 : am_O 357 = 54 := by decide +kernel
theorem oO_358 : am_O 358 = 54 := by decide +kernel
theorem oO_359 : am_O 359 = 54 := by decide +kernel
theorem oO_360 : am_O 360 = 54 := by decide +kernel
theorem oO_361 : am_O 361 = 54 := by decide +kernel
theorem oO_362 : am_O 362 = 54 := by decide +kernel
theorem oO_363 : am_O 363 = 54 := by decide +kernel
theorem oO_364 : am_O 364 = 54 := by decide +kernel
