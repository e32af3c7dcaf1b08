/-! the walk of Crossing, Event, Field, laid by wip/p60/walk.py -/
theorem t_1 {X : ak_X} {M : ak_M} {r : ak_O × ak_M} (hL : ab_lay M) {b0 : Nat} (hb0 : b0 ∈ ab_fb) {b1 : Nat} (hb1 : b1 ∈ ab_fb) {k1 : Nat} (hk1 : k1 < 10) {b2 : Nat} (hb2 : b2 ∈ ab_fb) {k2 : Nat} (hk2 : k2 < 10) (h : (∀ z1 : Int32, z1 = (ak_I M (b1 + 6 + k1) 1) - (ak_I M (b1 + 6 + k1) 4) → (∀ z2 : Int32, z2 = (ak_I M (b1 + 6 + k1) 2) - (ak_I M (b1 + 6 + k1) 5) → (∀ z3 : Int32, z3 = (ak_I M (b2 + 6 + k2) 1) - (ak_I M (b2 + 6 + k2) 4) → (∀ z4 : Int32, z4 = (ak_I M (b2 + 6 + k2) 2) - (ak_I M (b2 + 6 + k2) 5) → (∀ z5 : Int32, z5 = (ak_I M (b2 + 6 + k2) 4) - (ak_I M (b1 + 6 + k1) 4) → (∀ z6 : Int32, z6 = (ak_I M (b2 + 6 + k2) 5) - (ak_I M (b1 + 6 + k1) 5) → (if 0 ≤ (z1 * z4) - (z2 * z3) then sg X 1 (122, [some (.ref (b0 + 5)), some (.ref (b1 + 6 + k1)), some (.ref (b2 + 6 + k2)), some (.int z1), some (.int z2), some (.int z3), some (.int z4), some (.int z5), some (.int z6), some (.int ((z1 * z4) - (z2 * z3))), some (.int ((z5 * z4) - (z6 * z3))), some (.int ((z5 * z2) - (z6 * z1)))], [], []) M r else sg X 1 (122, [some (.ref (b0 + 5)), some (.ref (b1 + 6 + k1)), some (.ref (b2 + 6 + k2)), some (.int z1), some (.int z2), some (.int z3), some (.int z4), some (.int z5), some (.int z6), some (.int (-((z1 * z4) - (z2 * z3)))), some (.int (-((z5 * z4) - (z6 * z3)))), some (.int (-((z5 * z2) - (z6 * z1))))], [], []) M r)))))))) : rn X 1 [.ref (b0 + 5), .ref (b1 + 6 + k1), .ref (b2 + 6 + k2)] M r := by
  refine w_rn (nL := 12) (l1 := [some (.ref (b0 + 5)), some (.ref (b1 + 6 + k1)), some (.ref (b2 + 6 + k2)), none, none, none, none, none, none, none, none, none]) (by decide +kernel) rfl rfl ?_
  refine w_aload_n (n := 1) (i := 1) (by decide +kernel) rfl rfl ?_
  refine w_getI (n := 4) hL (by decide +kernel) oO_1 fF_0_7 (af_K hb1 hk1) (by decide) rfl ?_
  refine w_aload_n (n := 5) (i := 1) (by decide +kernel) rfl rfl ?_
  refine w_getI (n := 8) hL (by decide +kernel) oO_1 fF_0_13 (af_K hb1 hk1) (by decide) rfl ?_
  refine w_isub (n := 9) (by decide +kernel) rfl ?_
  refine w_istore_n (n := 10) (i := 3) (l1' := [some (.ref (b0 + 5)), some (.ref (b1 + 6 + k1)), some (.ref (b2 + 6 + k2)), some (.int ((ak_I M (b1 + 6 + k1) 1) - (ak_I M (b1 + 6 + k1) 4))), none, none, none, none, none, none, none, none]) (l2' := []) (by decide +kernel) rfl (Nat.le_of_ble_eq_true rfl) rfl rfl ?_
  generalize ez1 : (ak_I M (b1 + 6 + k1) 1) - (ak_I M (b1 + 6 + k1) 4) = z1
  replace h := h z1 ez1.symm
  refine w_aload_n (n := 11) (i := 1) (by decide +kernel) rfl rfl ?_
  refine w_getI (n := 14) hL (by decide +kernel) oO_1 fF_0_16 (af_K hb1 hk1) (by decide) rfl ?_
  refine w_aload_n (n := 15) (i := 1) (by decide +kernel) rfl rfl ?_
  refine w_getI (n := 18) hL (by decide +kernel) oO_1 fF_0_19 (af_K hb1 hk1) (by decide) rfl ?_
  refine w_isub (n := 19) (by decide +kernel) rfl ?_
  refine w_istore (n := 21) (i := 4) (l1' := [some (.ref (b0 + 5)), some (.ref (b1 + 6 + k1)), some (.ref (b2 + 6 + k2)), some (.int z1), some (.int ((ak_I M (b1 + 6 + k1) 2) - (ak_I M (b1 + 6 + k1) 5))), none, none, none, none, none, none, none]) (l2' := []) (by decide +kernel) rfl (Nat.le_of_ble_eq_true rfl) rfl rfl ?_
  generalize ez2 : (ak_I M (b1 + 6 + k1) 2) - (ak_I M (b1 + 6 + k1) 5) = z2
  replace h := h z2 ez2.symm
  refine w_aload_n (n := 22) (i := 2) (by decide +kernel) rfl rfl ?_
  refine w_getI (n := 25) hL (by decide +kernel) oO_1 fF_0_7 (af_K hb2 hk2) (by decide) rfl ?_
  refine w_aload_n (n := 26) (i := 2) (by decide +kernel) rfl rfl ?_
  refine w_getI (n := 29) hL (by decide +kernel) oO_1 fF_0_13 (af_K hb2 hk2) (by decide) rfl ?_
  refine w_isub (n := 30) (by decide +kernel) rfl ?_
  refine w_istore (n := 32) (i := 5) (l1' := [some (.ref (b0 + 5)), some (.ref (b1 + 6 + k1)), some (.ref (b2 + 6 + k2)), some (.int z1), some (.int z2), some (.int ((ak_I M (b2 + 6 + k2) 1) - (ak_I M (b2 + 6 + k2) 4))), none, none, none, none, none, none]) (l2' := []) (by decide +kernel) rfl (Nat.le_of_ble_eq_true rfl) rfl rfl ?_
  generalize ez3 : (ak_I M (b2 + 6 + k2) 1) - (ak_I M (b2 + 6 + k2) 4) = z3
  replace h := h z3 ez3.symm
  refine w_aload_n (n := 33) (i := 2) (by decide +kernel) rfl rfl ?_
  refine w_getI (n := 36) hL (by decide +kernel) oO_1 fF_0_16 (af_K hb2 hk2) (by decide) rfl ?_
  refine w_aload_n (n := 37) (i := 2) (by decide +kernel) rfl rfl ?_
  refine w_getI (n := 40) hL (by decide +kernel) oO_1 fF_0_19 (af_K hb2 hk2) (by decide) rfl ?_
  refine w_isub (n := 41) (by decide +kernel) rfl ?_
  refine w_istore (n := 43) (i := 6) (l1' := [some (.ref (b0 + 5)), some (.ref (b1 + 6 + k1)), some (.ref (b2 + 6 + k2)), some (.int z1), some (.int z2), some (.int z3), some (.int ((ak_I M (b2 + 6 + k2) 2) - (ak_I M (b2 + 6 + k2) 5))), none, none, none, none, none]) (l2' := []) (by decide +kernel) rfl (Nat.le_of_ble_eq_true rfl) rfl rfl ?_
  generalize ez4 : (ak_I M (b2 + 6 + k2) 2) - (ak_I M (b2 + 6 + k2) 5) = z4
  replace h := h z4 ez4.symm
  refine w_aload_n (n := 44) (i := 2) (by decide +kernel) rfl rfl ?_
  refine w_getI (n := 47) hL (by decide +kernel) oO_1 fF_0_13 (af_K hb2 hk2) (by decide) rfl ?_
  refine w_aload_n (n := 48) (i := 1) (by decide +kernel) rfl rfl ?_
  refine w_getI (n := 51) hL (by decide +kernel) oO_1 fF_0_13 (af_K hb1 hk1) (by decide) rfl ?_
  refine w_isub (n := 52) (by decide +kernel) rfl ?_
  refine w_istore (n := 54) (i := 7) (l1' := [some (.ref (b0 + 5)), some (.ref (b1 + 6 + k1)), some (.ref (b2 + 6 + k2)), some (.int z1), some (.int z2), some (.int z3), some (.int z4), some (.int ((ak_I M (b2 + 6 + k2) 4) - (ak_I M (b1 + 6 + k1) 4))), none, none, none, none]) (l2' := []) (by decide +kernel) rfl (Nat.le_of_ble_eq_true rfl) rfl rfl ?_
  generalize ez5 : (ak_I M (b2 + 6 + k2) 4) - (ak_I M (b1 + 6 + k1) 4) = z5
  replace h := h z5 ez5.symm
  refine w_aload_n (n := 55) (i := 2) (by decide +kernel) rfl rfl ?_
  refine w_getI (n := 58) hL (by decide +kernel) oO_1 fF_0_19 (af_K hb2 hk2) (by decide) rfl ?_
  refine w_aload_n (n := 59) (i := 1) (by decide +kernel) rfl rfl ?_
  refine w_getI (n := 62) hL (by decide +kernel) oO_1 fF_0_19 (af_K hb1 hk1) (by decide) rfl ?_
  refine w_isub (n := 63) (by decide +kernel) rfl ?_
  refine w_istore (n := 65) (i := 8) (l1' := [some (.ref (b0 + 5)), some (.ref (b1 + 6 + k1)), some (.ref (b2 + 6 + k2)), some (.int z1), some (.int z2), some (.int z3), some (.int z4), some (.int z5), some (.int ((ak_I M (b2 + 6 + k2) 5) - (ak_I M (b1 + 6 + k1) 5))), none, none, none]) (l2' := []) (by decide +kernel) rfl (Nat.le_of_ble_eq_true rfl) rfl rfl ?_
  generalize ez6 : (ak_I M (b2 + 6 + k2) 5) - (ak_I M (b1 + 6 + k1) 5) = z6
  replace h := h z6 ez6.symm
  refine w_iload_n (n := 66) (i := 3) (by decide +kernel) rfl rfl ?_
  refine w_iload (n := 68) (i := 6) (by decide +kernel) rfl rfl ?_
  refine w_imul (n := 69) (by decide +kernel) rfl ?_
  refine w_iload (n := 71) (i := 4) (by decide +kernel) rfl rfl ?_
  refine w_iload (n := 73) (i := 5) (by decide +kernel) rfl rfl ?_
  refine w_imul (n := 74) (by decide +kernel) rfl ?_
  refine w_isub (n := 75) (by decide +kernel) rfl ?_
  refine w_istore (n := 77) (i := 9) (l1' := [some (.ref (b0 + 5)), some (.ref (b1 + 6 + k1)), some (.ref (b2 + 6 + k2)), some (.int z1), some (.int z2), some (.int z3), some (.int z4), some (.int z5), some (.int z6), some (.int ((z1 * z4) - (z2 * z3))), none, none]) (l2' := []) (by decide +kernel) rfl (Nat.le_of_ble_eq_true rfl) rfl rfl ?_
  refine w_iload (n := 79) (i := 7) (by decide +kernel) rfl rfl ?_
  refine w_iload (n := 81) (i := 6) (by decide +kernel) rfl rfl ?_
  refine w_imul (n := 82) (by decide +kernel) rfl ?_
  refine w_iload (n := 84) (i := 8) (by decide +kernel) rfl rfl ?_
  refine w_iload (n := 86) (i := 5) (by decide +kernel) rfl rfl ?_
  refine w_imul (n := 87) (by decide +kernel) rfl ?_
  refine w_isub (n := 88) (by decide +kernel) rfl ?_
  refine w_istore (n := 90) (i := 10) (l1' := [some (.ref (b0 + 5)), some (.ref (b1 + 6 + k1)), some (.ref (b2 + 6 + k2)), some (.int z1), some (.int z2), some (.int z3), some (.int z4), some (.int z5), some (.int z6), some (.int ((z1 * z4) - (z2 * z3))), some (.int ((z5 * z4) - (z6 * z3))), none]) (l2' := []) (by decide +kernel) rfl (Nat.le_of_ble_eq_true rfl) rfl rfl ?_
  refine w_iload (n := 92) (i := 7) (by decide +kernel) rfl rfl ?_
  refine w_iload (n := 94) (i := 4) (by decide +kernel) rfl rfl ?_
  refine w_imul (n := 95) (by decide +kernel) rfl ?_
  refine w_iload (n := 97) (i := 8) (by decide +kernel) rfl rfl ?_
  refine w_iload_n (n := 98) (i := 3) (by decide +kernel) rfl rfl ?_
  refine w_imul (n := 99) (by decide +kernel) rfl ?_
  refine w_isub (n := 100) (by decide +kernel) rfl ?_
  refine w_istore (n := 102) (i := 11) (l1' := [some (.ref (b0 + 5)), some (.ref (b1 + 6 + k1)), some (.ref (b2 + 6 + k2)), some (.int z1), some (.int z2), some (.int z3), some (.int z4), some (.int z5), some (.int z6), some (.int ((z1 * z4) - (z2 * z3))), some (.int ((z5 * z4) - (z6 * z3))), some (.int ((z5 * z2) - (z6 * z1)))]) (l2' := []) (by decide +kernel) rfl (Nat.le_of_ble_eq_true rfl) rfl rfl ?_
  refine w_iload (n := 104) (i := 9) (by decide +kernel) rfl rfl ?_
  by_cases c7 : 0 ≤ (z1 * z4) - (z2 * z3)
  · rw [if_pos c7] at h
    refine w_if_ge_j (n := 122) (off := 18) (by decide +kernel) (by decide) c7 ?_
    exact h
  · rw [if_neg c7] at h
    refine w_if_ge_n (n := 107) (off := 18) (by decide +kernel) rfl c7 ?_
    refine w_iload (n := 109) (i := 9) (by decide +kernel) rfl rfl ?_
    refine w_ineg (n := 110) (by decide +kernel) rfl ?_
    refine w_istore (n := 112) (i := 9) (l1' := [some (.ref (b0 + 5)), some (.ref (b1 + 6 + k1)), some (.ref (b2 + 6 + k2)), some (.int z1), some (.int z2), some (.int z3), some (.int z4), some (.int z5), some (.int z6), some (.int (-((z1 * z4) - (z2 * z3)))), some (.int ((z5 * z4) - (z6 * z3))), some (.int ((z5 * z2) - (z6 * z1)))]) (l2' := []) (by decide +kernel) rfl (Nat.le_of_ble_eq_true rfl) rfl rfl ?_
    refine w_iload (n := 114) (i := 10) (by decide +kernel) rfl rfl ?_
    refine w_ineg (n := 115) (by decide +kernel) rfl ?_
    refine w_istore (n := 117) (i := 10) (l1' := [some (.ref (b0 + 5)), some (.ref (b1 + 6 + k1)), some (.ref (b2 + 6 + k2)), some (.int z1), some (.int z2), some (.int z3), some (.int z4), some (.int z5), some (.int z6), some (.int (-((z1 * z4) - (z2 * z3)))), some (.int (-((z5 * z4) - (z6 * z3)))), some (.int ((z5 * z2) - (z6 * z1)))]) (l2' := []) (by decide +kernel) rfl (Nat.le_of_ble_eq_true rfl) rfl rfl ?_
    refine w_iload (n := 119) (i := 11) (by decide +kernel) rfl rfl ?_
    refine w_ineg (n := 120) (by decide +kernel) rfl ?_
    refine w_istore (n := 122) (i := 11) (l1' := [some (.ref (b0 + 5)), some (.ref (b1 + 6 + k1)), some (.ref (b2 + 6 + k2)), some (.int z1), some (.int z2), some (.int z3), some (.int z4), some (.int z5), some (.int z6), some (.int (-((z1 * z4) - (z2 * z3)))), some (.int (-((z5 * z4) - (z6 * z3)))), some (.int (-((z5 * z2) - (z6 * z1))))]) (l2' := []) (by decide +kernel) rfl (Nat.le_of_ble_eq_true rfl) rfl rfl ?_
    exact h
theorem t_1_122 {X : ak_X} {M : ak_M} {r : ak_O × ak_M} (hL : ab_lay M) {b0 : Nat} (hb0 : b0 ∈ ab_fb) {b1 : Nat} (hb1 : b1 ∈ ab_fb) {k1 : Nat} (hk1 : k1 < 10) {b2 : Nat} (hb2 : b2 ∈ ab_fb) {k2 : Nat} (hk2 : k2 < 10) (y3 : Int32) (y4 : Int32) (o5 : Option Value) (o6 : Option Value) (o7 : Option Value) (o8 : Option Value) (y9 : Int32) (y10 : Int32) (y11 : Int32) (h : (if y9 = 0 then sg X 1 (151, [some (.ref (b0 + 5)), some (.ref (b1 + 6 + k1)), some (.ref (b2 + 6 + k2)), some (.int y3), some (.int y4), o5, o6, o7, o8, some (.int y9), some (.int y10), some (.int y11)], [], []) M r else (if y10 ≤ 0 then sg X 1 (151, [some (.ref (b0 + 5)), some (.ref (b1 + 6 + k1)), some (.ref (b2 + 6 + k2)), some (.int y3), some (.int y4), o5, o6, o7, o8, some (.int y9), some (.int y10), some (.int y11)], [], []) M r else (if y9 ≤ y10 then sg X 1 (151, [some (.ref (b0 + 5)), some (.ref (b1 + 6 + k1)), some (.ref (b2 + 6 + k2)), some (.int y3), some (.int y4), o5, o6, o7, o8, some (.int y9), some (.int y10), some (.int y11)], [], []) M r else (if y11 ≤ 0 then sg X 1 (151, [some (.ref (b0 + 5)), some (.ref (b1 + 6 + k1)), some (.ref (b2 + 6 + k2)), some (.int y3), some (.int y4), o5, o6, o7, o8, some (.int y9), some (.int y10), some (.int y11)], [], []) M r else (if y11 < y9 then (∃ (v9 : Int32) (M8 : ak_M), ab_lay M8 ∧ rn X 313 [.int (y3 * y10), .int y9] M (.inl (some (.int v9)), M8) ∧ (∀ M10 : ak_M, M10 = ak_sI M8 (b0 + 5) 0 ((ak_I M (b1 + 6 + k1) 4) + v9) → (∃ (v12 : Int32) (M11 : ak_M), ab_lay M11 ∧ rn X 313 [.int (y4 * y10), .int y9] M10 (.inl (some (.int v12)), M11) ∧ (∀ M13 : ak_M, M13 = ak_sI M11 (b0 + 5) 1 ((ak_I M10 (b1 + 6 + k1) 5) + v12) → (y9 ≠ 0 ∧ (∃ (v15 : Int32) (M14 : ak_M), ab_lay M14 ∧ rn X 43 [.ref (b1 + 6 + k1)] M13 (.inl (some (.int v15)), M14) ∧ (∃ (v17 : Int32) (M16 : ak_M), ab_lay M16 ∧ rn X 2 [.int (((ak_I M13 (b1 + 6 + k1) 3) * y10) / y9), .int v15] M14 (.inl (some (.int v17)), M16) ∧ (∀ M18 : ak_M, M18 = ak_sI M16 (b0 + 5) 2 v17 → (y9 ≠ 0 ∧ (∃ (v20 : Int32) (M19 : ak_M), ab_lay M19 ∧ rn X 43 [.ref (b2 + 6 + k2)] M18 (.inl (some (.int v20)), M19) ∧ (∃ (v22 : Int32) (M21 : ak_M), ab_lay M21 ∧ rn X 2 [.int (((ak_I M18 (b2 + 6 + k2) 3) * y11) / y9), .int v20] M19 (.inl (some (.int v22)), M21) ∧ (∀ M23 : ak_M, M23 = ak_sI M21 (b0 + 5) 3 v22 → r = (.inl (some (.int 1)), M23))))))))))))) else sg X 1 (151, [some (.ref (b0 + 5)), some (.ref (b1 + 6 + k1)), some (.ref (b2 + 6 + k2)), some (.int y3), some (.int y4), o5, o6, o7, o8, some (.int y9), some (.int y10), some (.int y11)], [], []) M r)))))) : sg X 1 (122, [some (.ref (b0 + 5)), some (.ref (b1 + 6 + k1)), some (.ref (b2 + 6 + k2)), some (.int y3), some (.int y4), o5, o6, o7, o8, some (.int y9), some (.int y10), some (.int y11)], [], []) M r := by
  refine w_iload (n := 124) (i := 9) (by decide +kernel) rfl rfl ?_
  by_cases c36 : y9 = 0
  · rw [if_pos c36] at h
    refine w_if_eq_j (n := 151) (off := 27) (by decide +kernel) (by decide) c36 ?_
    exact h
  · rw [if_neg c36] at h
    refine w_if_eq_n (n := 127) (off := 27) (by decide +kernel) rfl c36 ?_
    refine w_iload (n := 129) (i := 10) (by decide +kernel) rfl rfl ?_
    by_cases c35 : y10 ≤ 0
    · rw [if_pos c35] at h
      refine w_if_le_j (n := 151) (off := 22) (by decide +kernel) (by decide) c35 ?_
      exact h
    · rw [if_neg c35] at h
      refine w_if_le_n (n := 132) (off := 22) (by decide +kernel) rfl c35 ?_
      refine w_iload (n := 134) (i := 10) (by decide +kernel) rfl rfl ?_
      refine w_iload (n := 136) (i := 9) (by decide +kernel) rfl rfl ?_
      by_cases c34 : y9 ≤ y10
      · rw [if_pos c34] at h
        refine w_icmp_ge_j (n := 151) (off := 15) (by decide +kernel) (by decide) c34 ?_
        exact h
      · rw [if_neg c34] at h
        refine w_icmp_ge_n (n := 139) (off := 15) (by decide +kernel) rfl c34 ?_
        refine w_iload (n := 141) (i := 11) (by decide +kernel) rfl rfl ?_
        by_cases c33 : y11 ≤ 0
        · rw [if_pos c33] at h
          refine w_if_le_j (n := 151) (off := 10) (by decide +kernel) (by decide) c33 ?_
          exact h
        · rw [if_neg c33] at h
          refine w_if_le_n (n := 144) (off := 10) (by decide +kernel) rfl c33 ?_
          refine w_iload (n := 146) (i := 11) (by decide +kernel) rfl rfl ?_
          refine w_iload (n := 148) (i := 9) (by decide +kernel) rfl rfl ?_
          by_cases c32 : y11 < y9
          · rw [if_pos c32] at h
            refine w_icmp_lt_j (n := 153) (off := 5) (by decide +kernel) (by decide) c32 ?_
            refine w_aload_n (n := 154) (i := 0) (by decide +kernel) rfl rfl ?_
            refine w_aload_n (n := 155) (i := 1) (by decide +kernel) rfl rfl ?_
            refine w_getI (n := 158) hL (by decide +kernel) oO_1 fF_0_13 (af_K hb1 hk1) (by decide) rfl ?_
            refine w_iload_n (n := 159) (i := 3) (by decide +kernel) rfl rfl ?_
            refine w_iload (n := 161) (i := 10) (by decide +kernel) rfl rfl ?_
            refine w_imul (n := 162) (by decide +kernel) rfl ?_
            refine w_iload (n := 164) (i := 9) (by decide +kernel) rfl rfl ?_
            obtain ⟨v9, M8, hLM8, hr31, h⟩ := h
            refine w_cS (n := 167) (idx := 22) (cal := 313) (na := 2) (nl := 2) (as := [.int (y3 * y10), .int y9]) (rest := [.int (ak_I M (b1 + 6 + k1) 4), .ref (b0 + 5)]) (by decide +kernel) (by decide +kernel) rfl rfl rfl (Nat.le_of_ble_eq_true rfl) rfl hr31 ?_
            refine w_iadd (n := 168) (by decide +kernel) rfl ?_
            refine w_putI (n := 171) hLM8 (by decide +kernel) oO_1 fF_0_28 (af_X hb0) ⟨by decide, Or.inl (by decide)⟩ rfl ?_
            generalize eM10 : ak_sI M8 (b0 + 5) 0 ((ak_I M (b1 + 6 + k1) 4) + v9) = M10
            have hLM10 : ab_lay M10 := by rw [← eM10]; exact ab_lay.sI hLM8
            replace h := h M10 eM10.symm
            refine w_aload_n (n := 172) (i := 0) (by decide +kernel) rfl rfl ?_
            refine w_aload_n (n := 173) (i := 1) (by decide +kernel) rfl rfl ?_
            refine w_getI (n := 176) hLM10 (by decide +kernel) oO_1 fF_0_19 (af_K hb1 hk1) (by decide) rfl ?_
            refine w_iload (n := 178) (i := 4) (by decide +kernel) rfl rfl ?_
            refine w_iload (n := 180) (i := 10) (by decide +kernel) rfl rfl ?_
            refine w_imul (n := 181) (by decide +kernel) rfl ?_
            refine w_iload (n := 183) (i := 9) (by decide +kernel) rfl rfl ?_
            obtain ⟨v12, M11, hLM11, hr30, h⟩ := h
            refine w_cS (n := 186) (idx := 22) (cal := 313) (na := 2) (nl := 2) (as := [.int (y4 * y10), .int y9]) (rest := [.int (ak_I M10 (b1 + 6 + k1) 5), .ref (b0 + 5)]) (by decide +kernel) (by decide +kernel) rfl rfl rfl (Nat.le_of_ble_eq_true rfl) rfl hr30 ?_
            refine w_iadd (n := 187) (by decide +kernel) rfl ?_
            refine w_putI (n := 190) hLM11 (by decide +kernel) oO_1 fF_0_31 (af_X hb0) ⟨by decide, Or.inl (by decide)⟩ rfl ?_
            generalize eM13 : ak_sI M11 (b0 + 5) 1 ((ak_I M10 (b1 + 6 + k1) 5) + v12) = M13
            have hLM13 : ab_lay M13 := by rw [← eM13]; exact ab_lay.sI hLM11
            replace h := h M13 eM13.symm
            refine w_aload_n (n := 191) (i := 0) (by decide +kernel) rfl rfl ?_
            refine w_aload_n (n := 192) (i := 1) (by decide +kernel) rfl rfl ?_
            refine w_getI (n := 195) hLM13 (by decide +kernel) oO_1 fF_0_32 (af_K hb1 hk1) (by decide) rfl ?_
            refine w_iload (n := 197) (i := 10) (by decide +kernel) rfl rfl ?_
            refine w_imul (n := 198) (by decide +kernel) rfl ?_
            refine w_iload (n := 200) (i := 9) (by decide +kernel) rfl rfl ?_
            obtain ⟨g29, h⟩ := h
            refine w_idiv (n := 201) (by decide +kernel) rfl g29 ?_
            refine w_aload_n (n := 202) (i := 1) (by decide +kernel) rfl rfl ?_
            obtain ⟨v15, M14, hLM14, hr28, h⟩ := h
            refine w_cV (n := 205) (idx := 35) (cal := 43) (na := 0) (nl := 1) (as := []) (rest := [.int (((ak_I M13 (b1 + 6 + k1) 3) * y10) / y9), .ref (b0 + 5)]) hLM13 (by decide +kernel) (by decide +kernel) (af_K hb1 hk1) (by decide +kernel) rfl rfl rfl (Nat.le_of_ble_eq_true rfl) rfl hr28 ?_
            obtain ⟨v17, M16, hLM16, hr27, h⟩ := h
            refine w_cS (n := 208) (idx := 39) (cal := 2) (na := 2) (nl := 2) (as := [.int (((ak_I M13 (b1 + 6 + k1) 3) * y10) / y9), .int v15]) (rest := [.ref (b0 + 5)]) (by decide +kernel) (by decide +kernel) rfl rfl rfl (Nat.le_of_ble_eq_true rfl) rfl hr27 ?_
            refine w_putI (n := 211) hLM16 (by decide +kernel) oO_1 fF_0_42 (af_X hb0) ⟨by decide, Or.inl (by decide)⟩ rfl ?_
            generalize eM18 : ak_sI M16 (b0 + 5) 2 v17 = M18
            have hLM18 : ab_lay M18 := by rw [← eM18]; exact ab_lay.sI hLM16
            replace h := h M18 eM18.symm
            refine w_aload_n (n := 212) (i := 0) (by decide +kernel) rfl rfl ?_
            refine w_aload_n (n := 213) (i := 2) (by decide +kernel) rfl rfl ?_
            refine w_getI (n := 216) hLM18 (by decide +kernel) oO_1 fF_0_32 (af_K hb2 hk2) (by decide) rfl ?_
            refine w_iload (n := 218) (i := 11) (by decide +kernel) rfl rfl ?_
            refine w_imul (n := 219) (by decide +kernel) rfl ?_
            refine w_iload (n := 221) (i := 9) (by decide +kernel) rfl rfl ?_
            obtain ⟨g26, h⟩ := h
            refine w_idiv (n := 222) (by decide +kernel) rfl g26 ?_
            refine w_aload_n (n := 223) (i := 2) (by decide +kernel) rfl rfl ?_
            obtain ⟨v20, M19, hLM19, hr25, h⟩ := h
            refine w_cV (n := 226) (idx := 35) (cal := 43) (na := 0) (nl := 1) (as := []) (rest := [.int (((ak_I M18 (b2 + 6 + k2) 3) * y11) / y9), .ref (b0 + 5)]) hLM18 (by decide +kernel) (by decide +kernel) (af_K hb2 hk2) (by decide +kernel) rfl rfl rfl (Nat.le_of_ble_eq_true rfl) rfl hr25 ?_
            obtain ⟨v22, M21, hLM21, hr24, h⟩ := h
            refine w_cS (n := 229) (idx := 39) (cal := 2) (na := 2) (nl := 2) (as := [.int (((ak_I M18 (b2 + 6 + k2) 3) * y11) / y9), .int v20]) (rest := [.ref (b0 + 5)]) (by decide +kernel) (by decide +kernel) rfl rfl rfl (Nat.le_of_ble_eq_true rfl) rfl hr24 ?_
            refine w_putI (n := 232) hLM21 (by decide +kernel) oO_1 fF_0_45 (af_X hb0) ⟨by decide, Or.inl (by decide)⟩ rfl ?_
            generalize eM23 : ak_sI M21 (b0 + 5) 3 v22 = M23
            have hLM23 : ab_lay M23 := by rw [← eM23]; exact ab_lay.sI hLM21
            replace h := h M23 eM23.symm
            refine w_iconst (n := 233) (v := 1) (x := 1) (by decide +kernel) rfl (by decide) ?_
            subst h
            exact w_ireturn (by decide +kernel) (by decide +kernel)
          · rw [if_neg c32] at h
            refine w_icmp_lt_n (n := 151) (off := 5) (by decide +kernel) rfl c32 ?_
            exact h
theorem t_1_151 {X : ak_X} {M : ak_M} {r : ak_O × ak_M} (hL : ab_lay M) {b0 : Nat} (hb0 : b0 ∈ ab_fb) {b1 : Nat} (hb1 : b1 ∈ ab_fb) {k1 : Nat} (hk1 : k1 < 10) {b2 : Nat} (hb2 : b2 ∈ ab_fb) {k2 : Nat} (hk2 : k2 < 10) (o0 : Option Value) (o1 : Option Value) (o2 : Option Value) (o3 : Option Value) (o4 : Option Value) (o5 : Option Value) (o6 : Option Value) (o7 : Option Value) (o8 : Option Value) (o9 : Option Value) (o10 : Option Value) (o11 : Option Value) (h : r = (.inl (some (.int 0)), M)) : sg X 1 (151, [o0, o1, o2, o3, o4, o5, o6, o7, o8, o9, o10, o11], [], []) M r := by
  refine w_iconst (n := 152) (v := 0) (x := 0) (by decide +kernel) rfl (by decide) ?_
  subst h
  exact w_ireturn (by decide +kernel) (by decide +kernel)
theorem t_2 {X : ak_X} {M : ak_M} {r : ak_O × ak_M} (hL : ab_lay M) (x0 : Int32) (x1 : Int32) (h : (if x1 ≤ 0 then r = (.inl (some (.int x0)), M) else (∃ (v2 : Int32) (M1 : ak_M), ab_lay M1 ∧ rn X 315 [.int 0, .int (x0 - (x1 / 2))] M (.inl (some (.int v2)), M1) ∧ r = (.inl (some (.int v2)), M1)))) : rn X 2 [.int x0, .int x1] M r := by
  refine w_rn (nL := 2) (l1 := [some (.int x0), some (.int x1)]) (by decide +kernel) rfl rfl ?_
  refine w_iload_n (n := 1) (i := 1) (by decide +kernel) rfl rfl ?_
  by_cases c4 : x1 ≤ 0
  · rw [if_pos c4] at h
    refine w_if_le_j (n := 16) (off := 15) (by decide +kernel) (by decide) c4 ?_
    refine w_iload_n (n := 17) (i := 0) (by decide +kernel) rfl rfl ?_
    subst h
    exact w_ireturn (by decide +kernel) (w_okI (by decide +kernel))
  · rw [if_neg c4] at h
    refine w_if_le_n (n := 4) (off := 15) (by decide +kernel) rfl c4 ?_
    refine w_iconst (n := 5) (v := 0) (x := 0) (by decide +kernel) rfl (by decide) ?_
    refine w_iload_n (n := 6) (i := 0) (by decide +kernel) rfl rfl ?_
    refine w_iload_n (n := 7) (i := 1) (by decide +kernel) rfl rfl ?_
    refine w_iconst (n := 8) (v := 2) (x := 2) (by decide +kernel) rfl (by decide) ?_
    refine w_idiv (n := 9) (by decide +kernel) rfl (by decide) ?_
    refine w_isub (n := 10) (by decide +kernel) rfl ?_
    obtain ⟨v2, M1, hLM1, hr3, h⟩ := h
    refine w_cS (n := 13) (idx := 48) (cal := 315) (na := 2) (nl := 2) (as := [.int 0, .int (x0 - (x1 / 2))]) (rest := []) (by decide +kernel) (by decide +kernel) rfl rfl rfl (Nat.le_of_ble_eq_true rfl) rfl hr3 ?_
    refine w_goto (n := 17) (off := 4) (by decide +kernel) (by decide) ?_
    subst h
    exact w_ireturn (by decide +kernel) (w_okI (by decide +kernel))
theorem t_3 {X : ak_X} {M : ak_M} {r : ak_O × ak_M} (hL : ab_lay M) {b0 : Nat} (hb0 : b0 ∈ ab_fb) (h : (∃ (v2 : Int32) (M1 : ak_M), ab_lay M1 ∧ rn X 314 [.int ((ak_I M (b0 + 5) 2) - (ak_I M (b0 + 5) 3))] M (.inl (some (.int v2)), M1) ∧ r = (.inl (some (.int v2)), M1))) : rn X 3 [.ref (b0 + 5)] M r := by
  refine w_rn (nL := 1) (l1 := [some (.ref (b0 + 5))]) (by decide +kernel) rfl rfl ?_
  refine w_aload_n (n := 1) (i := 0) (by decide +kernel) rfl rfl ?_
  refine w_getI (n := 4) hL (by decide +kernel) oO_3 fF_0_42 (af_X hb0) (by decide) rfl ?_
  refine w_aload_n (n := 5) (i := 0) (by decide +kernel) rfl rfl ?_
  refine w_getI (n := 8) hL (by decide +kernel) oO_3 fF_0_45 (af_X hb0) (by decide) rfl ?_
  refine w_isub (n := 9) (by decide +kernel) rfl ?_
  obtain ⟨v2, M1, hLM1, hr3, h⟩ := h
  refine w_cS (n := 12) (idx := 51) (cal := 314) (na := 1) (nl := 1) (as := [.int ((ak_I M (b0 + 5) 2) - (ak_I M (b0 + 5) 3))]) (rest := []) (by decide +kernel) (by decide +kernel) rfl rfl rfl (Nat.le_of_ble_eq_true rfl) rfl hr3 ?_
  subst h
  exact w_ireturn (by decide +kernel) (w_okI (by decide +kernel))
theorem t_5 {X : ak_X} {M : ak_M} {r : ak_O × ak_M} (hL : ab_lay M) {b0 : Nat} (hb0 : b0 ∈ ab_fb) {k0 : Nat} (hk0 : k0 < 12) {b1 : Nat} (hb1 : b1 ∈ ab_fb) {k1 : Nat} (hk1 : k1 < 12) (h : (∀ M1 : ak_M, M1 = ak_sI M (b0 + 20 + k0) 0 (ak_I M (b1 + 20 + k1) 0) → (∀ M2 : ak_M, M2 = ak_sI M1 (b0 + 20 + k0) 1 (ak_I M1 (b1 + 20 + k1) 1) → (∀ M3 : ak_M, M3 = ak_sI M2 (b0 + 20 + k0) 2 (ak_I M2 (b1 + 20 + k1) 2) → (∀ M4 : ak_M, M4 = ak_sI M3 (b0 + 20 + k0) 3 (ak_I M3 (b1 + 20 + k1) 3) → (∀ M5 : ak_M, M5 = ak_sI M4 (b0 + 20 + k0) 4 (ak_I M4 (b1 + 20 + k1) 4) → (∀ M6 : ak_M, M6 = ak_sI M5 (b0 + 20 + k0) 5 (ak_I M5 (b1 + 20 + k1) 5) → r = (.inl none, M6)))))))) : rn X 5 [.ref (b0 + 20 + k0), .ref (b1 + 20 + k1)] M r := by
  refine w_rn (nL := 2) (l1 := [some (.ref (b0 + 20 + k0)), some (.ref (b1 + 20 + k1))]) (by decide +kernel) rfl rfl ?_
  refine w_aload_n (n := 1) (i := 0) (by decide +kernel) rfl rfl ?_
  refine w_aload_n (n := 2) (i := 1) (by decide +kernel) rfl rfl ?_
  refine w_getI (n := 5) hL (by decide +kernel) oO_5 fF_1_7 (af_E hb1 hk1) (by decide) rfl ?_
  refine w_putI (n := 8) hL (by decide +kernel) oO_5 fF_1_7 (af_E hb0 hk0) ⟨by decide, Or.inl (by decide)⟩ rfl ?_
  generalize eM1 : ak_sI M (b0 + 20 + k0) 0 (ak_I M (b1 + 20 + k1) 0) = M1
  have hLM1 : ab_lay M1 := by rw [← eM1]; exact ab_lay.sI hL
  replace h := h M1 eM1.symm
  refine w_aload_n (n := 9) (i := 0) (by decide +kernel) rfl rfl ?_
  refine w_aload_n (n := 10) (i := 1) (by decide +kernel) rfl rfl ?_
  refine w_getI (n := 13) hLM1 (by decide +kernel) oO_5 fF_1_13 (af_E hb1 hk1) (by decide) rfl ?_
  refine w_putI (n := 16) hLM1 (by decide +kernel) oO_5 fF_1_13 (af_E hb0 hk0) ⟨by decide, Or.inl (by decide)⟩ rfl ?_
  generalize eM2 : ak_sI M1 (b0 + 20 + k0) 1 (ak_I M1 (b1 + 20 + k1) 1) = M2
  have hLM2 : ab_lay M2 := by rw [← eM2]; exact ab_lay.sI hLM1
  replace h := h M2 eM2.symm
  refine w_aload_n (n := 17) (i := 0) (by decide +kernel) rfl rfl ?_
  refine w_aload_n (n := 18) (i := 1) (by decide +kernel) rfl rfl ?_
  refine w_getI (n := 21) hLM2 (by decide +kernel) oO_5 fF_1_16 (af_E hb1 hk1) (by decide) rfl ?_
  refine w_putI (n := 24) hLM2 (by decide +kernel) oO_5 fF_1_16 (af_E hb0 hk0) ⟨by decide, Or.inl (by decide)⟩ rfl ?_
  generalize eM3 : ak_sI M2 (b0 + 20 + k0) 2 (ak_I M2 (b1 + 20 + k1) 2) = M3
  have hLM3 : ab_lay M3 := by rw [← eM3]; exact ab_lay.sI hLM2
  replace h := h M3 eM3.symm
  refine w_aload_n (n := 25) (i := 0) (by decide +kernel) rfl rfl ?_
  refine w_aload_n (n := 26) (i := 1) (by decide +kernel) rfl rfl ?_
  refine w_getI (n := 29) hLM3 (by decide +kernel) oO_5 fF_1_19 (af_E hb1 hk1) (by decide) rfl ?_
  refine w_putI (n := 32) hLM3 (by decide +kernel) oO_5 fF_1_19 (af_E hb0 hk0) ⟨by decide, Or.inl (by decide)⟩ rfl ?_
  generalize eM4 : ak_sI M3 (b0 + 20 + k0) 3 (ak_I M3 (b1 + 20 + k1) 3) = M4
  have hLM4 : ab_lay M4 := by rw [← eM4]; exact ab_lay.sI hLM3
  replace h := h M4 eM4.symm
  refine w_aload_n (n := 33) (i := 0) (by decide +kernel) rfl rfl ?_
  refine w_aload_n (n := 34) (i := 1) (by decide +kernel) rfl rfl ?_
  refine w_getI (n := 37) hLM4 (by decide +kernel) oO_5 fF_1_22 (af_E hb1 hk1) (by decide) rfl ?_
  refine w_putI (n := 40) hLM4 (by decide +kernel) oO_5 fF_1_22 (af_E hb0 hk0) ⟨by decide, Or.inl (by decide)⟩ rfl ?_
  generalize eM5 : ak_sI M4 (b0 + 20 + k0) 4 (ak_I M4 (b1 + 20 + k1) 4) = M5
  have hLM5 : ab_lay M5 := by rw [← eM5]; exact ab_lay.sI hLM4
  replace h := h M5 eM5.symm
  refine w_aload_n (n := 41) (i := 0) (by decide +kernel) rfl rfl ?_
  refine w_aload_n (n := 42) (i := 1) (by decide +kernel) rfl rfl ?_
  refine w_getI (n := 45) hLM5 (by decide +kernel) oO_5 fF_1_25 (af_E hb1 hk1) (by decide) rfl ?_
  refine w_putI (n := 48) hLM5 (by decide +kernel) oO_5 fF_1_25 (af_E hb0 hk0) ⟨by decide, Or.inl (by decide)⟩ rfl ?_
  generalize eM6 : ak_sI M5 (b0 + 20 + k0) 5 (ak_I M5 (b1 + 20 + k1) 5) = M6
  have hLM6 : ab_lay M6 := by rw [← eM6]; exact ab_lay.sI hLM5
  replace h := h M6 eM6.symm
  subst h
  exact w_vreturn (by decide +kernel) (by decide +kernel)
theorem t_8 {X : ak_X} {M : ak_M} {r : ak_O × ak_M} (hL : ab_lay M) {b0 : Nat} (hb0 : b0 ∈ ab_fb) (h : (∀ M1 : ak_M, M1 = ak_sI M b0 5 0 → (∀ M2 : ak_M, M2 = ak_sI M1 b0 6 0 → (∀ M3 : ak_M, M3 = ak_sI M2 b0 7 0 → (∀ M4 : ak_M, M4 = ak_sI M3 b0 8 0 → (∀ M5 : ak_M, M5 = ak_sI M4 b0 9 0 → (∀ M6 : ak_M, M6 = ak_sI M5 b0 10 0 → sg X 8 (32, [some (.ref b0), some (.int 0)], [], []) M6 r))))))) : rn X 8 [.ref b0] M r := by
  refine w_rn (nL := 2) (l1 := [some (.ref b0), none]) (by decide +kernel) rfl rfl ?_
  refine w_aload_n (n := 1) (i := 0) (by decide +kernel) rfl rfl ?_
  refine w_iconst (n := 2) (v := 0) (x := 0) (by decide +kernel) rfl (by decide) ?_
  refine w_putI (n := 5) hL (by decide +kernel) oO_8 fF_2_49 (af_F hb0) ⟨by decide, Or.inl (by decide)⟩ rfl ?_
  generalize eM1 : ak_sI M b0 5 0 = M1
  have hLM1 : ab_lay M1 := by rw [← eM1]; exact ab_lay.sI hL
  replace h := h M1 eM1.symm
  refine w_aload_n (n := 6) (i := 0) (by decide +kernel) rfl rfl ?_
  refine w_iconst (n := 7) (v := 0) (x := 0) (by decide +kernel) rfl (by decide) ?_
  refine w_putI (n := 10) hLM1 (by decide +kernel) oO_8 fF_2_53 (af_F hb0) ⟨by decide, Or.inl (by decide)⟩ rfl ?_
  generalize eM2 : ak_sI M1 b0 6 0 = M2
  have hLM2 : ab_lay M2 := by rw [← eM2]; exact ab_lay.sI hLM1
  replace h := h M2 eM2.symm
  refine w_aload_n (n := 11) (i := 0) (by decide +kernel) rfl rfl ?_
  refine w_iconst (n := 12) (v := 0) (x := 0) (by decide +kernel) rfl (by decide) ?_
  refine w_putI (n := 15) hLM2 (by decide +kernel) oO_8 fF_2_56 (af_F hb0) ⟨by decide, Or.inl (by decide)⟩ rfl ?_
  generalize eM3 : ak_sI M2 b0 7 0 = M3
  have hLM3 : ab_lay M3 := by rw [← eM3]; exact ab_lay.sI hLM2
  replace h := h M3 eM3.symm
  refine w_aload_n (n := 16) (i := 0) (by decide +kernel) rfl rfl ?_
  refine w_iconst (n := 17) (v := 0) (x := 0) (by decide +kernel) rfl (by decide) ?_
  refine w_putI (n := 20) hLM3 (by decide +kernel) oO_8 fF_2_59 (af_F hb0) ⟨by decide, Or.inl (by decide)⟩ rfl ?_
  generalize eM4 : ak_sI M3 b0 8 0 = M4
  have hLM4 : ab_lay M4 := by rw [← eM4]; exact ab_lay.sI hLM3
  replace h := h M4 eM4.symm
  refine w_aload_n (n := 21) (i := 0) (by decide +kernel) rfl rfl ?_
  refine w_iconst (n := 22) (v := 0) (x := 0) (by decide +kernel) rfl (by decide) ?_
  refine w_putI (n := 25) hLM4 (by decide +kernel) oO_8 fF_2_62 (af_F hb0) ⟨by decide, Or.inl (by decide)⟩ rfl ?_
  generalize eM5 : ak_sI M4 b0 9 0 = M5
  have hLM5 : ab_lay M5 := by rw [← eM5]; exact ab_lay.sI hLM4
  replace h := h M5 eM5.symm
  refine w_aload_n (n := 26) (i := 0) (by decide +kernel) rfl rfl ?_
  refine w_iconst (n := 27) (v := 0) (x := 0) (by decide +kernel) rfl (by decide) ?_
  refine w_putI (n := 30) hLM5 (by decide +kernel) oO_8 fF_2_65 (af_F hb0) ⟨by decide, Or.inl (by decide)⟩ rfl ?_
  generalize eM6 : ak_sI M5 b0 10 0 = M6
  have hLM6 : ab_lay M6 := by rw [← eM6]; exact ab_lay.sI hLM5
  replace h := h M6 eM6.symm
  refine w_iconst (n := 31) (v := 0) (x := 0) (by decide +kernel) rfl (by decide) ?_
  refine w_istore_n (n := 32) (i := 1) (l1' := [some (.ref b0), some (.int 0)]) (l2' := []) (by decide +kernel) rfl (Nat.le_of_ble_eq_true rfl) rfl rfl ?_
  exact h
theorem t_8_32 {X : ak_X} {M : ak_M} {r : ak_O × ak_M} (hL : ab_lay M) {b0 : Nat} (hb0 : b0 ∈ ab_fb) (y1 : Int32) (h : (if 6 ≤ y1 then r = (.inl none, M) else (∃ i7 : Nat, ab_ix y1 i7 6 ∧ (∃ i8 : Nat, ab_ix y1 i8 6 ∧ (∀ M9 : ak_M, M9 = ak_sI M (b0 + 4) i8 (ak_cI X (1000001 + 2) i7) → sg X 8 (32, [some (.ref b0), some (.int (y1 + 1))], [], []) M9 r))))) : sg X 8 (32, [some (.ref b0), some (.int y1)], [], []) M r := by
  refine w_iload_n (n := 33) (i := 1) (by decide +kernel) rfl rfl ?_
  refine w_bipush (n := 35) (v := 6) (x := 6) (by decide +kernel) rfl (by decide) ?_
  by_cases c10 : 6 ≤ y1
  · rw [if_pos c10] at h
    refine w_icmp_ge_j (n := 55) (off := 20) (by decide +kernel) (by decide) c10 ?_
    subst h
    exact w_vreturn (by decide +kernel) (by decide +kernel)
  · rw [if_neg c10] at h
    refine w_icmp_ge_n (n := 38) (off := 20) (by decide +kernel) rfl c10 ?_
    refine w_aload_n (n := 39) (i := 0) (by decide +kernel) rfl rfl ?_
    refine w_getR (n := 42) hL (by decide +kernel) oO_8 fF_2_29 (af_F hb0) (by decide) (ag_SA hb0) rfl ?_
    refine w_iload_n (n := 43) (i := 1) (by decide +kernel) rfl rfl ?_
    refine w_sta (n := 46) (by decide +kernel) oO_8 fS_2_68 (by decide) rfl ?_
    refine w_iload_n (n := 47) (i := 1) (by decide +kernel) rfl rfl ?_
    obtain ⟨i7, gi7, h⟩ := h
    refine w_cald (n := 48) (w := 2) hL (by decide) (by decide +kernel) gi7 rfl ?_
    obtain ⟨i8, gi8, h⟩ := h
    refine w_iast (n := 49) hL (by decide +kernel) (af_SA hb0) (ax_SA hb0) gi8 rfl ?_
    generalize eM9 : ak_sI M (b0 + 4) i8 (ak_cI X (1000001 + 2) i7) = M9
    have hLM9 : ab_lay M9 := by rw [← eM9]; exact ab_lay.sI hL
    replace h := h M9 eM9.symm
    refine w_iinc (n := 52) (i := 1) (v := 1) (y := y1 + 1) (l1' := [some (.ref b0), some (.int (y1 + 1))]) (l2' := []) (by decide +kernel) rfl rfl rfl rfl rfl ?_
    refine w_goto (n := 32) (off := (-20)) (by decide +kernel) (by decide) ?_
    exact h
theorem t_9 {X : ak_X} {M : ak_M} {r : ak_O × ak_M} (hL : ab_lay M) {b0 : Nat} (hb0 : b0 ∈ ab_fb) (h : (∃ i1 : Nat, i1 < 4 ∧ ab_ix 0 i1 4 ∧ (∃ (M2 : ak_M), ab_lay M2 ∧ rn X 83 [.ref (b0 + 16 + i1), .int 0, .int 3, .int 0] M (.inl (none), M2) ∧ (∀ M3 : ak_M, M3 = ak_sI M2 b0 6 1 → r = (.inl none, M3))))) : rn X 9 [.ref b0] M r := by
  refine w_rn (nL := 1) (l1 := [some (.ref b0)]) (by decide +kernel) rfl rfl ?_
  refine w_aload_n (n := 1) (i := 0) (by decide +kernel) rfl rfl ?_
  refine w_getR (n := 4) hL (by decide +kernel) oO_9 fF_2_19 (af_F hb0) (by decide) (ag_WA hb0) rfl ?_
  refine w_iconst (n := 5) (v := 0) (x := 0) (by decide +kernel) rfl (by decide) ?_
  obtain ⟨i1, hi1, gi1, h⟩ := h
  refine w_aald (n := 6) hL (by decide +kernel) (af_WA hb0) (by decide) (ax_WA hb0) gi1 (ai_WA hb0 hi1) rfl ?_
  refine w_iconst (n := 7) (v := 0) (x := 0) (by decide +kernel) rfl (by decide) ?_
  refine w_iconst (n := 8) (v := 3) (x := 3) (by decide +kernel) rfl (by decide) ?_
  refine w_iconst (n := 9) (v := 0) (x := 0) (by decide +kernel) rfl (by decide) ?_
  obtain ⟨M2, hLM2, hr4, h⟩ := h
  refine w_cV (n := 12) (idx := 71) (cal := 83) (na := 3) (nl := 4) (as := [.int 0, .int 3, .int 0]) (rest := []) hL (by decide +kernel) (by decide +kernel) (af_W hb0 hi1) (by decide +kernel) rfl rfl rfl (Nat.le_of_ble_eq_true rfl) rfl hr4 ?_
  refine w_aload_n (n := 13) (i := 0) (by decide +kernel) rfl rfl ?_
  refine w_iconst (n := 14) (v := 1) (x := 1) (by decide +kernel) rfl (by decide) ?_
  refine w_putI (n := 17) hLM2 (by decide +kernel) oO_9 fF_2_53 (af_F hb0) ⟨by decide, Or.inl (by decide)⟩ rfl ?_
  generalize eM3 : ak_sI M2 b0 6 1 = M3
  have hLM3 : ab_lay M3 := by rw [← eM3]; exact ab_lay.sI hLM2
  replace h := h M3 eM3.symm
  subst h
  exact w_vreturn (by decide +kernel) (by decide +kernel)
theorem t_10 {X : ak_X} {M : ak_M} {r : ak_O × ak_M} (hL : ab_lay M) {b0 : Nat} (hb0 : b0 ∈ ab_fb) {b1 : Nat} (hb1 : b1 ∈ ab_fb) (h : (∀ M1 : ak_M, M1 = ak_sI M b0 5 (ak_I M b1 5) → (∀ M2 : ak_M, M2 = ak_sI M1 b0 6 (ak_I M1 b1 6) → (∀ M3 : ak_M, M3 = ak_sI M2 b0 7 (ak_I M2 b1 7) → (∀ M4 : ak_M, M4 = ak_sI M3 b0 8 (ak_I M3 b1 8) → (∀ M5 : ak_M, M5 = ak_sI M4 b0 9 (ak_I M4 b1 9) → (∀ M6 : ak_M, M6 = ak_sI M5 b0 10 (ak_I M5 b1 10) → sg X 10 (50, [some (.ref b0), some (.ref b1), some (.int 0)], [], []) M6 r))))))) : rn X 10 [.ref b0, .ref b1] M r := by
  refine w_rn (nL := 3) (l1 := [some (.ref b0), some (.ref b1), none]) (by decide +kernel) rfl rfl ?_
  refine w_aload_n (n := 1) (i := 0) (by decide +kernel) rfl rfl ?_
  refine w_aload_n (n := 2) (i := 1) (by decide +kernel) rfl rfl ?_
  refine w_getI (n := 5) hL (by decide +kernel) oO_10 fF_2_49 (af_F hb1) (by decide) rfl ?_
  refine w_putI (n := 8) hL (by decide +kernel) oO_10 fF_2_49 (af_F hb0) ⟨by decide, Or.inl (by decide)⟩ rfl ?_
  generalize eM1 : ak_sI M b0 5 (ak_I M b1 5) = M1
  have hLM1 : ab_lay M1 := by rw [← eM1]; exact ab_lay.sI hL
  replace h := h M1 eM1.symm
  refine w_aload_n (n := 9) (i := 0) (by decide +kernel) rfl rfl ?_
  refine w_aload_n (n := 10) (i := 1) (by decide +kernel) rfl rfl ?_
  refine w_getI (n := 13) hLM1 (by decide +kernel) oO_10 fF_2_53 (af_F hb1) (by decide) rfl ?_
  refine w_putI (n := 16) hLM1 (by decide +kernel) oO_10 fF_2_53 (af_F hb0) ⟨by decide, Or.inl (by decide)⟩ rfl ?_
  generalize eM2 : ak_sI M1 b0 6 (ak_I M1 b1 6) = M2
  have hLM2 : ab_lay M2 := by rw [← eM2]; exact ab_lay.sI hLM1
  replace h := h M2 eM2.symm
  refine w_aload_n (n := 17) (i := 0) (by decide +kernel) rfl rfl ?_
  refine w_aload_n (n := 18) (i := 1) (by decide +kernel) rfl rfl ?_
  refine w_getI (n := 21) hLM2 (by decide +kernel) oO_10 fF_2_56 (af_F hb1) (by decide) rfl ?_
  refine w_putI (n := 24) hLM2 (by decide +kernel) oO_10 fF_2_56 (af_F hb0) ⟨by decide, Or.inl (by decide)⟩ rfl ?_
  generalize eM3 : ak_sI M2 b0 7 (ak_I M2 b1 7) = M3
  have hLM3 : ab_lay M3 := by rw [← eM3]; exact ab_lay.sI hLM2
  replace h := h M3 eM3.symm
  refine w_aload_n (n := 25) (i := 0) (by decide +kernel) rfl rfl ?_
  refine w_aload_n (n := 26) (i := 1) (by decide +kernel) rfl rfl ?_
  refine w_getI (n := 29) hLM3 (by decide +kernel) oO_10 fF_2_59 (af_F hb1) (by decide) rfl ?_
  refine w_putI (n := 32) hLM3 (by decide +kernel) oO_10 fF_2_59 (af_F hb0) ⟨by decide, Or.inl (by decide)⟩ rfl ?_
  generalize eM4 : ak_sI M3 b0 8 (ak_I M3 b1 8) = M4
  have hLM4 : ab_lay M4 := by rw [← eM4]; exact ab_lay.sI hLM3
  replace h := h M4 eM4.symm
  refine w_aload_n (n := 33) (i := 0) (by decide +kernel) rfl rfl ?_
  refine w_aload_n (n := 34) (i := 1) (by decide +kernel) rfl rfl ?_
  refine w_getI (n := 37) hLM4 (by decide +kernel) oO_10 fF_2_62 (af_F hb1) (by decide) rfl ?_
  refine w_putI (n := 40) hLM4 (by decide +kernel) oO_10 fF_2_62 (af_F hb0) ⟨by decide, Or.inl (by decide)⟩ rfl ?_
  generalize eM5 : ak_sI M4 b0 9 (ak_I M4 b1 9) = M5
  have hLM5 : ab_lay M5 := by rw [← eM5]; exact ab_lay.sI hLM4
  replace h := h M5 eM5.symm
  refine w_aload_n (n := 41) (i := 0) (by decide +kernel) rfl rfl ?_
  refine w_aload_n (n := 42) (i := 1) (by decide +kernel) rfl rfl ?_
  refine w_getI (n := 45) hLM5 (by decide +kernel) oO_10 fF_2_65 (af_F hb1) (by decide) rfl ?_
  refine w_putI (n := 48) hLM5 (by decide +kernel) oO_10 fF_2_65 (af_F hb0) ⟨by decide, Or.inl (by decide)⟩ rfl ?_
  generalize eM6 : ak_sI M5 b0 10 (ak_I M5 b1 10) = M6
  have hLM6 : ab_lay M6 := by rw [← eM6]; exact ab_lay.sI hLM5
  replace h := h M6 eM6.symm
  refine w_iconst (n := 49) (v := 0) (x := 0) (by decide +kernel) rfl (by decide) ?_
  refine w_istore_n (n := 50) (i := 2) (l1' := [some (.ref b0), some (.ref b1), some (.int 0)]) (l2' := []) (by decide +kernel) rfl (Nat.le_of_ble_eq_true rfl) rfl rfl ?_
  exact h
theorem t_10_50 {X : ak_X} {M : ak_M} {r : ak_O × ak_M} (hL : ab_lay M) {b0 : Nat} (hb0 : b0 ∈ ab_fb) {b1 : Nat} (hb1 : b1 ∈ ab_fb) (y2 : Int32) (h : (if ak_I M b0 5 ≤ y2 then sg X 10 (81, [some (.ref b0), some (.ref b1), some (.int 0)], [], []) M r else (∃ i7 : Nat, i7 < 10 ∧ ab_ix y2 i7 10 ∧ (∃ i8 : Nat, i8 < 10 ∧ ab_ix y2 i8 10 ∧ (∃ (M9 : ak_M), ab_lay M9 ∧ rn X 35 [.ref (b0 + 6 + i7), .ref (b1 + 6 + i8)] M (.inl (none), M9) ∧ sg X 10 (50, [some (.ref b0), some (.ref b1), some (.int (y2 + 1))], [], []) M9 r))))) : sg X 10 (50, [some (.ref b0), some (.ref b1), some (.int y2)], [], []) M r := by
  refine w_iload_n (n := 51) (i := 2) (by decide +kernel) rfl rfl ?_
  refine w_aload_n (n := 52) (i := 0) (by decide +kernel) rfl rfl ?_
  refine w_getI (n := 55) hL (by decide +kernel) oO_10 fF_2_49 (af_F hb0) (by decide) rfl ?_
  by_cases c11 : ak_I M b0 5 ≤ y2
  · rw [if_pos c11] at h
    refine w_icmp_ge_j (n := 79) (off := 24) (by decide +kernel) (by decide) c11 ?_
    refine w_iconst (n := 80) (v := 0) (x := 0) (by decide +kernel) rfl (by decide) ?_
    refine w_istore_n (n := 81) (i := 2) (l1' := [some (.ref b0), some (.ref b1), some (.int 0)]) (l2' := []) (by decide +kernel) rfl (Nat.le_of_ble_eq_true rfl) rfl rfl ?_
    exact h
  · rw [if_neg c11] at h
    refine w_icmp_ge_n (n := 58) (off := 24) (by decide +kernel) rfl c11 ?_
    refine w_aload_n (n := 59) (i := 0) (by decide +kernel) rfl rfl ?_
    refine w_getR (n := 62) hL (by decide +kernel) oO_10 fF_2_11 (af_F hb0) (by decide) (ag_KA hb0) rfl ?_
    refine w_iload_n (n := 63) (i := 2) (by decide +kernel) rfl rfl ?_
    obtain ⟨i7, hi7, gi7, h⟩ := h
    refine w_aald (n := 64) hL (by decide +kernel) (af_KA hb0) (by decide) (ax_KA hb0) gi7 (ai_KA hb0 hi7) rfl ?_
    refine w_aload_n (n := 65) (i := 1) (by decide +kernel) rfl rfl ?_
    refine w_getR (n := 68) hL (by decide +kernel) oO_10 fF_2_11 (af_F hb1) (by decide) (ag_KA hb1) rfl ?_
    refine w_iload_n (n := 69) (i := 2) (by decide +kernel) rfl rfl ?_
    obtain ⟨i8, hi8, gi8, h⟩ := h
    refine w_aald (n := 70) hL (by decide +kernel) (af_KA hb1) (by decide) (ax_KA hb1) gi8 (ai_KA hb1 hi8) rfl ?_
    obtain ⟨M9, hLM9, hr10, h⟩ := h
    refine w_cV (n := 73) (idx := 75) (cal := 35) (na := 1) (nl := 2) (as := [.ref (b1 + 6 + i8)]) (rest := []) hL (by decide +kernel) (by decide +kernel) (af_K hb0 hi7) (by decide +kernel) rfl rfl rfl (Nat.le_of_ble_eq_true rfl) rfl hr10 ?_
    refine w_iinc (n := 76) (i := 2) (v := 1) (y := y2 + 1) (l1' := [some (.ref b0), some (.ref b1), some (.int (y2 + 1))]) (l2' := []) (by decide +kernel) rfl rfl rfl rfl rfl ?_
    refine w_goto (n := 50) (off := (-26)) (by decide +kernel) (by decide) ?_
    exact h
theorem t_10_81 {X : ak_X} {M : ak_M} {r : ak_O × ak_M} (hL : ab_lay M) {b0 : Nat} (hb0 : b0 ∈ ab_fb) {b1 : Nat} (hb1 : b1 ∈ ab_fb) (y2 : Int32) (h : (if ak_I M b0 6 ≤ y2 then sg X 10 (112, [some (.ref b0), some (.ref b1), some (.int 0)], [], []) M r else (∃ i12 : Nat, i12 < 4 ∧ ab_ix y2 i12 4 ∧ (∃ i13 : Nat, i13 < 4 ∧ ab_ix y2 i13 4 ∧ (∃ (M14 : ak_M), ab_lay M14 ∧ rn X 82 [.ref (b0 + 16 + i12), .ref (b1 + 16 + i13)] M (.inl (none), M14) ∧ sg X 10 (81, [some (.ref b0), some (.ref b1), some (.int (y2 + 1))], [], []) M14 r))))) : sg X 10 (81, [some (.ref b0), some (.ref b1), some (.int y2)], [], []) M r := by
  refine w_iload_n (n := 82) (i := 2) (by decide +kernel) rfl rfl ?_
  refine w_aload_n (n := 83) (i := 0) (by decide +kernel) rfl rfl ?_
  refine w_getI (n := 86) hL (by decide +kernel) oO_10 fF_2_53 (af_F hb0) (by decide) rfl ?_
  by_cases c16 : ak_I M b0 6 ≤ y2
  · rw [if_pos c16] at h
    refine w_icmp_ge_j (n := 110) (off := 24) (by decide +kernel) (by decide) c16 ?_
    refine w_iconst (n := 111) (v := 0) (x := 0) (by decide +kernel) rfl (by decide) ?_
    refine w_istore_n (n := 112) (i := 2) (l1' := [some (.ref b0), some (.ref b1), some (.int 0)]) (l2' := []) (by decide +kernel) rfl (Nat.le_of_ble_eq_true rfl) rfl rfl ?_
    exact h
  · rw [if_neg c16] at h
    refine w_icmp_ge_n (n := 89) (off := 24) (by decide +kernel) rfl c16 ?_
    refine w_aload_n (n := 90) (i := 0) (by decide +kernel) rfl rfl ?_
    refine w_getR (n := 93) hL (by decide +kernel) oO_10 fF_2_19 (af_F hb0) (by decide) (ag_WA hb0) rfl ?_
    refine w_iload_n (n := 94) (i := 2) (by decide +kernel) rfl rfl ?_
    obtain ⟨i12, hi12, gi12, h⟩ := h
    refine w_aald (n := 95) hL (by decide +kernel) (af_WA hb0) (by decide) (ax_WA hb0) gi12 (ai_WA hb0 hi12) rfl ?_
    refine w_aload_n (n := 96) (i := 1) (by decide +kernel) rfl rfl ?_
    refine w_getR (n := 99) hL (by decide +kernel) oO_10 fF_2_19 (af_F hb1) (by decide) (ag_WA hb1) rfl ?_
    refine w_iload_n (n := 100) (i := 2) (by decide +kernel) rfl rfl ?_
    obtain ⟨i13, hi13, gi13, h⟩ := h
    refine w_aald (n := 101) hL (by decide +kernel) (af_WA hb1) (by decide) (ax_WA hb1) gi13 (ai_WA hb1 hi13) rfl ?_
    obtain ⟨M14, hLM14, hr15, h⟩ := h
    refine w_cV (n := 104) (idx := 79) (cal := 82) (na := 1) (nl := 2) (as := [.ref (b1 + 16 + i13)]) (rest := []) hL (by decide +kernel) (by decide +kernel) (af_W hb0 hi12) (by decide +kernel) rfl rfl rfl (Nat.le_of_ble_eq_true rfl) rfl hr15 ?_
    refine w_iinc (n := 107) (i := 2) (v := 1) (y := y2 + 1) (l1' := [some (.ref b0), some (.ref b1), some (.int (y2 + 1))]) (l2' := []) (by decide +kernel) rfl rfl rfl rfl rfl ?_
    refine w_goto (n := 81) (off := (-26)) (by decide +kernel) (by decide) ?_
    exact h
theorem t_10_112 {X : ak_X} {M : ak_M} {r : ak_O × ak_M} (hL : ab_lay M) {b0 : Nat} (hb0 : b0 ∈ ab_fb) {b1 : Nat} (hb1 : b1 ∈ ab_fb) (y2 : Int32) (h : (if 12 ≤ y2 then sg X 10 (141, [some (.ref b0), some (.ref b1), some (.int 0)], [], []) M r else (∃ i17 : Nat, i17 < 12 ∧ ab_ix y2 i17 12 ∧ (∃ i18 : Nat, i18 < 12 ∧ ab_ix y2 i18 12 ∧ (∃ (M19 : ak_M), ab_lay M19 ∧ rn X 5 [.ref (b0 + 20 + i17), .ref (b1 + 20 + i18)] M (.inl (none), M19) ∧ sg X 10 (112, [some (.ref b0), some (.ref b1), some (.int (y2 + 1))], [], []) M19 r))))) : sg X 10 (112, [some (.ref b0), some (.ref b1), some (.int y2)], [], []) M r := by
  refine w_iload_n (n := 113) (i := 2) (by decide +kernel) rfl rfl ?_
  refine w_bipush (n := 115) (v := 12) (x := 12) (by decide +kernel) rfl (by decide) ?_
  by_cases c21 : 12 ≤ y2
  · rw [if_pos c21] at h
    refine w_icmp_ge_j (n := 139) (off := 24) (by decide +kernel) (by decide) c21 ?_
    refine w_iconst (n := 140) (v := 0) (x := 0) (by decide +kernel) rfl (by decide) ?_
    refine w_istore_n (n := 141) (i := 2) (l1' := [some (.ref b0), some (.ref b1), some (.int 0)]) (l2' := []) (by decide +kernel) rfl (Nat.le_of_ble_eq_true rfl) rfl rfl ?_
    exact h
  · rw [if_neg c21] at h
    refine w_icmp_ge_n (n := 118) (off := 24) (by decide +kernel) rfl c21 ?_
    refine w_aload_n (n := 119) (i := 0) (by decide +kernel) rfl rfl ?_
    refine w_getR (n := 122) hL (by decide +kernel) oO_10 fF_2_25 (af_F hb0) (by decide) (ag_EA hb0) rfl ?_
    refine w_iload_n (n := 123) (i := 2) (by decide +kernel) rfl rfl ?_
    obtain ⟨i17, hi17, gi17, h⟩ := h
    refine w_aald (n := 124) hL (by decide +kernel) (af_EA hb0) (by decide) (ax_EA hb0) gi17 (ai_EA hb0 hi17) rfl ?_
    refine w_aload_n (n := 125) (i := 1) (by decide +kernel) rfl rfl ?_
    refine w_getR (n := 128) hL (by decide +kernel) oO_10 fF_2_25 (af_F hb1) (by decide) (ag_EA hb1) rfl ?_
    refine w_iload_n (n := 129) (i := 2) (by decide +kernel) rfl rfl ?_
    obtain ⟨i18, hi18, gi18, h⟩ := h
    refine w_aald (n := 130) hL (by decide +kernel) (af_EA hb1) (by decide) (ax_EA hb1) gi18 (ai_EA hb1 hi18) rfl ?_
    obtain ⟨M19, hLM19, hr20, h⟩ := h
    refine w_cV (n := 133) (idx := 82) (cal := 5) (na := 1) (nl := 2) (as := [.ref (b1 + 20 + i18)]) (rest := []) hL (by decide +kernel) (by decide +kernel) (af_E hb0 hi17) (by decide +kernel) rfl rfl rfl (Nat.le_of_ble_eq_true rfl) rfl hr20 ?_
    refine w_iinc (n := 136) (i := 2) (v := 1) (y := y2 + 1) (l1' := [some (.ref b0), some (.ref b1), some (.int (y2 + 1))]) (l2' := []) (by decide +kernel) rfl rfl rfl rfl rfl ?_
    refine w_goto (n := 112) (off := (-24)) (by decide +kernel) (by decide) ?_
    exact h
theorem t_10_141 {X : ak_X} {M : ak_M} {r : ak_O × ak_M} (hL : ab_lay M) {b0 : Nat} (hb0 : b0 ∈ ab_fb) {b1 : Nat} (hb1 : b1 ∈ ab_fb) (y2 : Int32) (h : (if 6 ≤ y2 then r = (.inl none, M) else (∃ i22 : Nat, ab_ix y2 i22 6 ∧ (∃ i23 : Nat, ab_ix y2 i23 6 ∧ (∀ M24 : ak_M, M24 = ak_sI M (b0 + 4) i23 (ak_I M (b1 + 4) i22) → sg X 10 (141, [some (.ref b0), some (.ref b1), some (.int (y2 + 1))], [], []) M24 r))))) : sg X 10 (141, [some (.ref b0), some (.ref b1), some (.int y2)], [], []) M r := by
  refine w_iload_n (n := 142) (i := 2) (by decide +kernel) rfl rfl ?_
  refine w_bipush (n := 144) (v := 6) (x := 6) (by decide +kernel) rfl (by decide) ?_
  by_cases c25 : 6 ≤ y2
  · rw [if_pos c25] at h
    refine w_icmp_ge_j (n := 165) (off := 21) (by decide +kernel) (by decide) c25 ?_
    subst h
    exact w_vreturn (by decide +kernel) (by decide +kernel)
  · rw [if_neg c25] at h
    refine w_icmp_ge_n (n := 147) (off := 21) (by decide +kernel) rfl c25 ?_
    refine w_aload_n (n := 148) (i := 0) (by decide +kernel) rfl rfl ?_
    refine w_getR (n := 151) hL (by decide +kernel) oO_10 fF_2_29 (af_F hb0) (by decide) (ag_SA hb0) rfl ?_
    refine w_iload_n (n := 152) (i := 2) (by decide +kernel) rfl rfl ?_
    refine w_aload_n (n := 153) (i := 1) (by decide +kernel) rfl rfl ?_
    refine w_getR (n := 156) hL (by decide +kernel) oO_10 fF_2_29 (af_F hb1) (by decide) (ag_SA hb1) rfl ?_
    refine w_iload_n (n := 157) (i := 2) (by decide +kernel) rfl rfl ?_
    obtain ⟨i22, gi22, h⟩ := h
    refine w_iald (n := 158) hL (by decide +kernel) (af_SA hb1) (ax_SA hb1) gi22 rfl ?_
    obtain ⟨i23, gi23, h⟩ := h
    refine w_iast (n := 159) hL (by decide +kernel) (af_SA hb0) (ax_SA hb0) gi23 rfl ?_
    generalize eM24 : ak_sI M (b0 + 4) i23 (ak_I M (b1 + 4) i22) = M24
    have hLM24 : ab_lay M24 := by rw [← eM24]; exact ab_lay.sI hL
    replace h := h M24 eM24.symm
    refine w_iinc (n := 162) (i := 2) (v := 1) (y := y2 + 1) (l1' := [some (.ref b0), some (.ref b1), some (.int (y2 + 1))]) (l2' := []) (by decide +kernel) rfl rfl rfl rfl rfl ?_
    refine w_goto (n := 141) (off := (-21)) (by decide +kernel) (by decide) ?_
    exact h
theorem t_11 {X : ak_X} {M : ak_M} {r : ak_O × ak_M} (hL : ab_lay M) {b0 : Nat} (hb0 : b0 ∈ ab_fb) (x1 : Int32) (h : sg X 11 (4, [some (.ref b0), some (.int x1), some (.int 0), some (.int 0)], [], []) M r) : rn X 11 [.ref b0, .int x1] M r := by
  refine w_rn (nL := 4) (l1 := [some (.ref b0), some (.int x1), none, none]) (by decide +kernel) rfl rfl ?_
  refine w_iconst (n := 1) (v := 0) (x := 0) (by decide +kernel) rfl (by decide) ?_
  refine w_istore_n (n := 2) (i := 2) (l1' := [some (.ref b0), some (.int x1), some (.int 0), none]) (l2' := []) (by decide +kernel) rfl (Nat.le_of_ble_eq_true rfl) rfl rfl ?_
  refine w_iconst (n := 3) (v := 0) (x := 0) (by decide +kernel) rfl (by decide) ?_
  refine w_istore_n (n := 4) (i := 3) (l1' := [some (.ref b0), some (.int x1), some (.int 0), some (.int 0)]) (l2' := []) (by decide +kernel) rfl (Nat.le_of_ble_eq_true rfl) rfl rfl ?_
  exact h
theorem t_11_4 {X : ak_X} {M : ak_M} {r : ak_O × ak_M} (hL : ab_lay M) {b0 : Nat} (hb0 : b0 ∈ ab_fb) (x1 : Int32) (y2 : Int32) (y3 : Int32) (h : (if ak_I M b0 5 ≤ y3 then r = (.inl (some (.int y2)), M) else (∃ i1 : Nat, i1 < 10 ∧ ab_ix y3 i1 10 ∧ (if ak_I M (b0 + 6 + i1) 0 = x1 then sg X 11 (4, [some (.ref b0), some (.int x1), some (.int (y2 + 1)), some (.int (y3 + 1))], [], []) M r else sg X 11 (4, [some (.ref b0), some (.int x1), some (.int y2), some (.int (y3 + 1))], [], []) M r)))) : sg X 11 (4, [some (.ref b0), some (.int x1), some (.int y2), some (.int y3)], [], []) M r := by
  refine w_iload_n (n := 5) (i := 3) (by decide +kernel) rfl rfl ?_
  refine w_aload_n (n := 6) (i := 0) (by decide +kernel) rfl rfl ?_
  refine w_getI (n := 9) hL (by decide +kernel) oO_11 fF_2_49 (af_F hb0) (by decide) rfl ?_
  by_cases c3 : ak_I M b0 5 ≤ y3
  · rw [if_pos c3] at h
    refine w_icmp_ge_j (n := 34) (off := 25) (by decide +kernel) (by decide) c3 ?_
    refine w_iload_n (n := 35) (i := 2) (by decide +kernel) rfl rfl ?_
    subst h
    exact w_ireturn (by decide +kernel) (w_okI (by decide +kernel))
  · rw [if_neg c3] at h
    refine w_icmp_ge_n (n := 12) (off := 25) (by decide +kernel) rfl c3 ?_
    refine w_aload_n (n := 13) (i := 0) (by decide +kernel) rfl rfl ?_
    refine w_getR (n := 16) hL (by decide +kernel) oO_11 fF_2_11 (af_F hb0) (by decide) (ag_KA hb0) rfl ?_
    refine w_iload_n (n := 17) (i := 3) (by decide +kernel) rfl rfl ?_
    obtain ⟨i1, hi1, gi1, h⟩ := h
    refine w_aald (n := 18) hL (by decide +kernel) (af_KA hb0) (by decide) (ax_KA hb0) gi1 (ai_KA hb0 hi1) rfl ?_
    refine w_getI (n := 21) hL (by decide +kernel) oO_11 fF_2_85 (af_K hb0 hi1) (by decide) rfl ?_
    refine w_iload_n (n := 22) (i := 1) (by decide +kernel) rfl rfl ?_
    by_cases c2 : ak_I M (b0 + 6 + i1) 0 = x1
    · rw [if_pos c2] at h
      refine w_icmp_ne_n (n := 25) (off := 6) (by decide +kernel) rfl c2 ?_
      refine w_iinc (n := 28) (i := 2) (v := 1) (y := y2 + 1) (l1' := [some (.ref b0), some (.int x1), some (.int (y2 + 1)), some (.int y3)]) (l2' := []) (by decide +kernel) rfl rfl rfl rfl rfl ?_
      refine w_iinc (n := 31) (i := 3) (v := 1) (y := y3 + 1) (l1' := [some (.ref b0), some (.int x1), some (.int (y2 + 1)), some (.int (y3 + 1))]) (l2' := []) (by decide +kernel) rfl rfl rfl rfl rfl ?_
      refine w_goto (n := 4) (off := (-27)) (by decide +kernel) (by decide) ?_
      exact h
    · rw [if_neg c2] at h
      refine w_icmp_ne_j (n := 28) (off := 6) (by decide +kernel) (by decide) c2 ?_
      refine w_iinc (n := 31) (i := 3) (v := 1) (y := y3 + 1) (l1' := [some (.ref b0), some (.int x1), some (.int y2), some (.int (y3 + 1))]) (l2' := []) (by decide +kernel) rfl rfl rfl rfl rfl ?_
      refine w_goto (n := 4) (off := (-27)) (by decide +kernel) (by decide) ?_
      exact h
theorem t_12 {X : ak_X} {M : ak_M} {r : ak_O × ak_M} (hL : ab_lay M) {b0 : Nat} (hb0 : b0 ∈ ab_fb) (x1 : Int32) (h : sg X 12 (4, [some (.ref b0), some (.int x1), some (.int 0), some (.int 1)], [], []) M r) : rn X 12 [.ref b0, .int x1] M r := by
  refine w_rn (nL := 4) (l1 := [some (.ref b0), some (.int x1), none, none]) (by decide +kernel) rfl rfl ?_
  refine w_iconst (n := 1) (v := 0) (x := 0) (by decide +kernel) rfl (by decide) ?_
  refine w_istore_n (n := 2) (i := 2) (l1' := [some (.ref b0), some (.int x1), some (.int 0), none]) (l2' := []) (by decide +kernel) rfl (Nat.le_of_ble_eq_true rfl) rfl rfl ?_
  refine w_iconst (n := 3) (v := 1) (x := 1) (by decide +kernel) rfl (by decide) ?_
  refine w_istore_n (n := 4) (i := 3) (l1' := [some (.ref b0), some (.int x1), some (.int 0), some (.int 1)]) (l2' := []) (by decide +kernel) rfl (Nat.le_of_ble_eq_true rfl) rfl rfl ?_
  exact h
theorem t_12_4 {X : ak_X} {M : ak_M} {r : ak_O × ak_M} (hL : ab_lay M) {b0 : Nat} (hb0 : b0 ∈ ab_fb) (x1 : Int32) (y2 : Int32) (y3 : Int32) (h : (if ak_I M b0 6 ≤ y3 then r = (.inl (some (.int y2)), M) else (∃ i1 : Nat, i1 < 4 ∧ ab_ix y3 i1 4 ∧ (if x1 < ak_I M (b0 + 16 + i1) 0 then sg X 12 (4, [some (.ref b0), some (.int x1), some (.int y2), some (.int (y3 + 1))], [], []) M r else sg X 12 (4, [some (.ref b0), some (.int x1), some (.int y3), some (.int (y3 + 1))], [], []) M r)))) : sg X 12 (4, [some (.ref b0), some (.int x1), some (.int y2), some (.int y3)], [], []) M r := by
  refine w_iload_n (n := 5) (i := 3) (by decide +kernel) rfl rfl ?_
  refine w_aload_n (n := 6) (i := 0) (by decide +kernel) rfl rfl ?_
  refine w_getI (n := 9) hL (by decide +kernel) oO_12 fF_2_53 (af_F hb0) (by decide) rfl ?_
  by_cases c3 : ak_I M b0 6 ≤ y3
  · rw [if_pos c3] at h
    refine w_icmp_ge_j (n := 33) (off := 24) (by decide +kernel) (by decide) c3 ?_
    refine w_iload_n (n := 34) (i := 2) (by decide +kernel) rfl rfl ?_
    subst h
    exact w_ireturn (by decide +kernel) (w_okI (by decide +kernel))
  · rw [if_neg c3] at h
    refine w_icmp_ge_n (n := 12) (off := 24) (by decide +kernel) rfl c3 ?_
    refine w_aload_n (n := 13) (i := 0) (by decide +kernel) rfl rfl ?_
    refine w_getR (n := 16) hL (by decide +kernel) oO_12 fF_2_19 (af_F hb0) (by decide) (ag_WA hb0) rfl ?_
    refine w_iload_n (n := 17) (i := 3) (by decide +kernel) rfl rfl ?_
    obtain ⟨i1, hi1, gi1, h⟩ := h
    refine w_aald (n := 18) hL (by decide +kernel) (af_WA hb0) (by decide) (ax_WA hb0) gi1 (ai_WA hb0 hi1) rfl ?_
    refine w_getI (n := 21) hL (by decide +kernel) oO_12 fF_2_88 (af_W hb0 hi1) (by decide) rfl ?_
    refine w_iload_n (n := 22) (i := 1) (by decide +kernel) rfl rfl ?_
    by_cases c2 : x1 < ak_I M (b0 + 16 + i1) 0
    · rw [if_pos c2] at h
      refine w_icmp_gt_j (n := 27) (off := 5) (by decide +kernel) (by decide) c2 ?_
      refine w_iinc (n := 30) (i := 3) (v := 1) (y := y3 + 1) (l1' := [some (.ref b0), some (.int x1), some (.int y2), some (.int (y3 + 1))]) (l2' := []) (by decide +kernel) rfl rfl rfl rfl rfl ?_
      refine w_goto (n := 4) (off := (-26)) (by decide +kernel) (by decide) ?_
      exact h
    · rw [if_neg c2] at h
      refine w_icmp_gt_n (n := 25) (off := 5) (by decide +kernel) rfl c2 ?_
      refine w_iload_n (n := 26) (i := 3) (by decide +kernel) rfl rfl ?_
      refine w_istore_n (n := 27) (i := 2) (l1' := [some (.ref b0), some (.int x1), some (.int y3), some (.int y3)]) (l2' := []) (by decide +kernel) rfl (Nat.le_of_ble_eq_true rfl) rfl rfl ?_
      refine w_iinc (n := 30) (i := 3) (v := 1) (y := y3 + 1) (l1' := [some (.ref b0), some (.int x1), some (.int y3), some (.int (y3 + 1))]) (l2' := []) (by decide +kernel) rfl rfl rfl rfl rfl ?_
      refine w_goto (n := 4) (off := (-26)) (by decide +kernel) (by decide) ?_
      exact h
theorem t_13 {X : ak_X} {M : ak_M} {r : ak_O × ak_M} (hL : ab_lay M) {b0 : Nat} (hb0 : b0 ∈ ab_fb) (x1 : Int32) (x2 : Int32) (h : (∃ (v2 : Int32) (M1 : ak_M), ab_lay M1 ∧ rn X 316 [.int x1, .int x2] M (.inl (some (.int v2)), M1) ∧ (∃ i3 : Nat, i3 < 10 ∧ ab_ix v2 i3 10 ∧ (∃ (v5 : Int32) (M4 : ak_M), ab_lay M4 ∧ rn X 315 [.int x1, .int x2] M1 (.inl (some (.int v5)), M4) ∧ (∃ i6 : Nat, i6 < 10 ∧ ab_ix v5 i6 10 ∧ (if ak_I M4 (b0 + 6 + i3) 0 = 0 then (if ak_I M4 (b0 + 6 + i6) 0 = 0 then (∃ (v8 : Int32) (M7 : ak_M), ab_lay M7 ∧ rn X 1 [.ref (b0 + 5), .ref (b0 + 6 + i3), .ref (b0 + 6 + i6)] M4 (.inl (some (.int v8)), M7) ∧ (if v8 = 0 then r = (.inl (some (.int 0)), M7) else r = (.inl (some (.int 1)), M7))) else r = (.inl (some (.int 0)), M4)) else r = (.inl (some (.int 0)), M4))))))) : rn X 13 [.ref b0, .int x1, .int x2] M r := by
  refine w_rn (nL := 5) (l1 := [some (.ref b0), some (.int x1), some (.int x2), none, none]) (by decide +kernel) rfl rfl ?_
  refine w_aload_n (n := 1) (i := 0) (by decide +kernel) rfl rfl ?_
  refine w_getR (n := 4) hL (by decide +kernel) oO_13 fF_2_11 (af_F hb0) (by decide) (ag_KA hb0) rfl ?_
  refine w_iload_n (n := 5) (i := 1) (by decide +kernel) rfl rfl ?_
  refine w_iload_n (n := 6) (i := 2) (by decide +kernel) rfl rfl ?_
  obtain ⟨v2, M1, hLM1, hr14, h⟩ := h
  refine w_cS (n := 9) (idx := 91) (cal := 316) (na := 2) (nl := 2) (as := [.int x1, .int x2]) (rest := [.ref (b0 + 1)]) (by decide +kernel) (by decide +kernel) rfl rfl rfl (Nat.le_of_ble_eq_true rfl) rfl hr14 ?_
  obtain ⟨i3, hi3, gi3, h⟩ := h
  refine w_aald (n := 10) hLM1 (by decide +kernel) (af_KA hb0) (by decide) (ax_KA hb0) gi3 (ai_KA hb0 hi3) rfl ?_
  refine w_astore_n (n := 11) (i := 3) (l1' := [some (.ref b0), some (.int x1), some (.int x2), some (.ref (b0 + 6 + i3)), none]) (l2' := []) (by decide +kernel) rfl (Nat.le_of_ble_eq_true rfl) rfl rfl ?_
  refine w_aload_n (n := 12) (i := 0) (by decide +kernel) rfl rfl ?_
  refine w_getR (n := 15) hLM1 (by decide +kernel) oO_13 fF_2_11 (af_F hb0) (by decide) (ag_KA hb0) rfl ?_
  refine w_iload_n (n := 16) (i := 1) (by decide +kernel) rfl rfl ?_
  refine w_iload_n (n := 17) (i := 2) (by decide +kernel) rfl rfl ?_
  obtain ⟨v5, M4, hLM4, hr13, h⟩ := h
  refine w_cS (n := 20) (idx := 97) (cal := 315) (na := 2) (nl := 2) (as := [.int x1, .int x2]) (rest := [.ref (b0 + 1)]) (by decide +kernel) (by decide +kernel) rfl rfl rfl (Nat.le_of_ble_eq_true rfl) rfl hr13 ?_
  obtain ⟨i6, hi6, gi6, h⟩ := h
  refine w_aald (n := 21) hLM4 (by decide +kernel) (af_KA hb0) (by decide) (ax_KA hb0) gi6 (ai_KA hb0 hi6) rfl ?_
  refine w_astore (n := 23) (i := 4) (l1' := [some (.ref b0), some (.int x1), some (.int x2), some (.ref (b0 + 6 + i3)), some (.ref (b0 + 6 + i6))]) (l2' := []) (by decide +kernel) rfl (Nat.le_of_ble_eq_true rfl) rfl rfl ?_
  refine w_aload_n (n := 24) (i := 3) (by decide +kernel) rfl rfl ?_
  refine w_getI (n := 27) hLM4 (by decide +kernel) oO_13 fF_2_85 (af_K hb0 hi3) (by decide) rfl ?_
  by_cases c12 : ak_I M4 (b0 + 6 + i3) 0 = 0
  · rw [if_pos c12] at h
    refine w_if_ne_n (n := 30) (off := 28) (by decide +kernel) rfl c12 ?_
    refine w_aload (n := 32) (i := 4) (by decide +kernel) rfl rfl ?_
    refine w_getI (n := 35) hLM4 (by decide +kernel) oO_13 fF_2_85 (af_K hb0 hi6) (by decide) rfl ?_
    by_cases c11 : ak_I M4 (b0 + 6 + i6) 0 = 0
    · rw [if_pos c11] at h
      refine w_if_ne_n (n := 38) (off := 20) (by decide +kernel) rfl c11 ?_
      refine w_aload_n (n := 39) (i := 0) (by decide +kernel) rfl rfl ?_
      refine w_getR (n := 42) hLM4 (by decide +kernel) oO_13 fF_2_36 (af_F hb0) (by decide) (ag_X hb0) rfl ?_
      refine w_aload_n (n := 43) (i := 3) (by decide +kernel) rfl rfl ?_
      refine w_aload (n := 45) (i := 4) (by decide +kernel) rfl rfl ?_
      obtain ⟨v8, M7, hLM7, hr10, h⟩ := h
      refine w_cV (n := 48) (idx := 100) (cal := 1) (na := 2) (nl := 3) (as := [.ref (b0 + 6 + i3), .ref (b0 + 6 + i6)]) (rest := []) hLM4 (by decide +kernel) (by decide +kernel) (af_X hb0) (by decide +kernel) rfl rfl rfl (Nat.le_of_ble_eq_true rfl) rfl hr10 ?_
      by_cases c9 : v8 = 0
      · rw [if_pos c9] at h
        refine w_if_eq_j (n := 55) (off := 7) (by decide +kernel) (by decide) c9 ?_
        refine w_iconst (n := 56) (v := 0) (x := 0) (by decide +kernel) rfl (by decide) ?_
        subst h
        exact w_ireturn (by decide +kernel) (by decide +kernel)
      · rw [if_neg c9] at h
        refine w_if_eq_n (n := 51) (off := 7) (by decide +kernel) rfl c9 ?_
        refine w_iconst (n := 52) (v := 1) (x := 1) (by decide +kernel) rfl (by decide) ?_
        refine w_goto (n := 56) (off := 4) (by decide +kernel) (by decide) ?_
        subst h
        exact w_ireturn (by decide +kernel) (by decide +kernel)
    · rw [if_neg c11] at h
      refine w_if_ne_j (n := 55) (off := 20) (by decide +kernel) (by decide) c11 ?_
      refine w_iconst (n := 56) (v := 0) (x := 0) (by decide +kernel) rfl (by decide) ?_
      subst h
      exact w_ireturn (by decide +kernel) (by decide +kernel)
  · rw [if_neg c12] at h
    refine w_if_ne_j (n := 55) (off := 28) (by decide +kernel) (by decide) c12 ?_
    refine w_iconst (n := 56) (v := 0) (x := 0) (by decide +kernel) rfl (by decide) ?_
    subst h
    exact w_ireturn (by decide +kernel) (by decide +kernel)
theorem t_14 {X : ak_X} {M : ak_M} {r : ak_O × ak_M} (hL : ab_lay M) {b0 : Nat} (hb0 : b0 ∈ ab_fb) (x1 : Int32) (x2 : Int32) (h : (∃ (v2 : Int32) (M1 : ak_M), ab_lay M1 ∧ rn X 13 [.ref b0, .int x1, .int x2] M (.inl (some (.int v2)), M1) ∧ (if v2 = 0 then r = (.inl (some (.int 0)), M1) else (∃ (v4 : Int32) (M3 : ak_M), ab_lay M3 ∧ rn X 3 [.ref (b0 + 5)] M1 (.inl (some (.int v4)), M3) ∧ (∃ i5 : Nat, ab_ix 4 i5 6 ∧ (if ak_I M3 (b0 + 4) i5 < v4 then r = (.inl (some (.int 0)), M3) else r = (.inl (some (.int 1)), M3))))))) : rn X 14 [.ref b0, .int x1, .int x2] M r := by
  refine w_rn (nL := 3) (l1 := [some (.ref b0), some (.int x1), some (.int x2)]) (by decide +kernel) rfl rfl ?_
  refine w_aload_n (n := 1) (i := 0) (by decide +kernel) rfl rfl ?_
  refine w_iload_n (n := 2) (i := 1) (by decide +kernel) rfl rfl ?_
  refine w_iload_n (n := 3) (i := 2) (by decide +kernel) rfl rfl ?_
  obtain ⟨v2, M1, hLM1, hr9, h⟩ := h
  refine w_cV (n := 6) (idx := 104) (cal := 13) (na := 2) (nl := 3) (as := [.int x1, .int x2]) (rest := []) hL (by decide +kernel) (by decide +kernel) (af_F hb0) (by decide +kernel) rfl rfl rfl (Nat.le_of_ble_eq_true rfl) rfl hr9 ?_
  by_cases c8 : v2 = 0
  · rw [if_pos c8] at h
    refine w_if_eq_j (n := 29) (off := 23) (by decide +kernel) (by decide) c8 ?_
    refine w_iconst (n := 30) (v := 0) (x := 0) (by decide +kernel) rfl (by decide) ?_
    subst h
    exact w_ireturn (by decide +kernel) (by decide +kernel)
  · rw [if_neg c8] at h
    refine w_if_eq_n (n := 9) (off := 23) (by decide +kernel) rfl c8 ?_
    refine w_aload_n (n := 10) (i := 0) (by decide +kernel) rfl rfl ?_
    refine w_getR (n := 13) hLM1 (by decide +kernel) oO_14 fF_2_36 (af_F hb0) (by decide) (ag_X hb0) rfl ?_
    obtain ⟨v4, M3, hLM3, hr7, h⟩ := h
    refine w_cV (n := 16) (idx := 108) (cal := 3) (na := 0) (nl := 1) (as := []) (rest := []) hLM1 (by decide +kernel) (by decide +kernel) (af_X hb0) (by decide +kernel) rfl rfl rfl (Nat.le_of_ble_eq_true rfl) rfl hr7 ?_
    refine w_aload_n (n := 17) (i := 0) (by decide +kernel) rfl rfl ?_
    refine w_getR (n := 20) hLM3 (by decide +kernel) oO_14 fF_2_29 (af_F hb0) (by decide) (ag_SA hb0) rfl ?_
    refine w_iconst (n := 21) (v := 4) (x := 4) (by decide +kernel) rfl (by decide) ?_
    obtain ⟨i5, gi5, h⟩ := h
    refine w_iald (n := 22) hLM3 (by decide +kernel) (af_SA hb0) (ax_SA hb0) gi5 rfl ?_
    by_cases c6 : ak_I M3 (b0 + 4) i5 < v4
    · rw [if_pos c6] at h
      refine w_icmp_gt_j (n := 29) (off := 7) (by decide +kernel) (by decide) c6 ?_
      refine w_iconst (n := 30) (v := 0) (x := 0) (by decide +kernel) rfl (by decide) ?_
      subst h
      exact w_ireturn (by decide +kernel) (by decide +kernel)
    · rw [if_neg c6] at h
      refine w_icmp_gt_n (n := 25) (off := 7) (by decide +kernel) rfl c6 ?_
      refine w_iconst (n := 26) (v := 1) (x := 1) (by decide +kernel) rfl (by decide) ?_
      refine w_goto (n := 30) (off := 4) (by decide +kernel) (by decide) ?_
      subst h
      exact w_ireturn (by decide +kernel) (by decide +kernel)
theorem t_15 {X : ak_X} {M : ak_M} {r : ak_O × ak_M} (hL : ab_lay M) {b0 : Nat} (hb0 : b0 ∈ ab_fb) (x1 : Int32) (h : sg X 15 (4, [some (.ref b0), some (.int x1), some (.int 0), some (.int 0), none], [], []) M r) : rn X 15 [.ref b0, .int x1] M r := by
  refine w_rn (nL := 5) (l1 := [some (.ref b0), some (.int x1), none, none, none]) (by decide +kernel) rfl rfl ?_
  refine w_iconst (n := 1) (v := 0) (x := 0) (by decide +kernel) rfl (by decide) ?_
  refine w_istore_n (n := 2) (i := 2) (l1' := [some (.ref b0), some (.int x1), some (.int 0), none, none]) (l2' := []) (by decide +kernel) rfl (Nat.le_of_ble_eq_true rfl) rfl rfl ?_
  refine w_iconst (n := 3) (v := 0) (x := 0) (by decide +kernel) rfl (by decide) ?_
  refine w_istore_n (n := 4) (i := 3) (l1' := [some (.ref b0), some (.int x1), some (.int 0), some (.int 0), none]) (l2' := []) (by decide +kernel) rfl (Nat.le_of_ble_eq_true rfl) rfl rfl ?_
  exact h
theorem t_15_4 {X : ak_X} {M : ak_M} {r : ak_O × ak_M} (hL : ab_lay M) {b0 : Nat} (hb0 : b0 ∈ ab_fb) (x1 : Int32) (y2 : Int32) (y3 : Int32) (o4 : Option Value) (h : (if ak_I M b0 5 ≤ y3 then r = (.inl (some (.int y2)), M) else sg X 15 (17, [some (.ref b0), some (.int x1), some (.int y2), some (.int y3), some (.int (y3 + 1))], [], []) M r)) : sg X 15 (4, [some (.ref b0), some (.int x1), some (.int y2), some (.int y3), o4], [], []) M r := by
  refine w_iload_n (n := 5) (i := 3) (by decide +kernel) rfl rfl ?_
  refine w_aload_n (n := 6) (i := 0) (by decide +kernel) rfl rfl ?_
  refine w_getI (n := 9) hL (by decide +kernel) oO_15 fF_2_49 (af_F hb0) (by decide) rfl ?_
  by_cases c1 : ak_I M b0 5 ≤ y3
  · rw [if_pos c1] at h
    refine w_icmp_ge_j (n := 68) (off := 59) (by decide +kernel) (by decide) c1 ?_
    refine w_iload_n (n := 69) (i := 2) (by decide +kernel) rfl rfl ?_
    subst h
    exact w_ireturn (by decide +kernel) (w_okI (by decide +kernel))
  · rw [if_neg c1] at h
    refine w_icmp_ge_n (n := 12) (off := 59) (by decide +kernel) rfl c1 ?_
    refine w_iload_n (n := 13) (i := 3) (by decide +kernel) rfl rfl ?_
    refine w_iconst (n := 14) (v := 1) (x := 1) (by decide +kernel) rfl (by decide) ?_
    refine w_iadd (n := 15) (by decide +kernel) rfl ?_
    refine w_istore (n := 17) (i := 4) (l1' := [some (.ref b0), some (.int x1), some (.int y2), some (.int y3), some (.int (y3 + 1))]) (l2' := []) (by decide +kernel) rfl (Nat.le_of_ble_eq_true rfl) rfl rfl ?_
    exact h
theorem t_15_17 {X : ak_X} {M : ak_M} {r : ak_O × ak_M} (hL : ab_lay M) {b0 : Nat} (hb0 : b0 ∈ ab_fb) (x1 : Int32) (y2 : Int32) (y3 : Int32) (y4 : Int32) (h : (if ak_I M b0 5 ≤ y4 then sg X 15 (4, [some (.ref b0), some (.int x1), some (.int y2), some (.int (y3 + 1)), some (.int y4)], [], []) M r else (if x1 = 0 then (∃ (v3 : Int32) (M2 : ak_M), ab_lay M2 ∧ rn X 13 [.ref b0, .int y3, .int y4] M (.inl (some (.int v3)), M2) ∧ (if v3 = 0 then sg X 15 (17, [some (.ref b0), some (.int x1), some (.int y2), some (.int y3), some (.int (y4 + 1))], [], []) M2 r else sg X 15 (17, [some (.ref b0), some (.int x1), some (.int (y2 + 1)), some (.int y3), some (.int (y4 + 1))], [], []) M2 r)) else (∃ (v7 : Int32) (M6 : ak_M), ab_lay M6 ∧ rn X 14 [.ref b0, .int y3, .int y4] M (.inl (some (.int v7)), M6) ∧ (if v7 = 0 then sg X 15 (17, [some (.ref b0), some (.int x1), some (.int y2), some (.int y3), some (.int (y4 + 1))], [], []) M6 r else sg X 15 (17, [some (.ref b0), some (.int x1), some (.int (y2 + 1)), some (.int y3), some (.int (y4 + 1))], [], []) M6 r))))) : sg X 15 (17, [some (.ref b0), some (.int x1), some (.int y2), some (.int y3), some (.int y4)], [], []) M r := by
  refine w_iload (n := 19) (i := 4) (by decide +kernel) rfl rfl ?_
  refine w_aload_n (n := 20) (i := 0) (by decide +kernel) rfl rfl ?_
  refine w_getI (n := 23) hL (by decide +kernel) oO_15 fF_2_49 (af_F hb0) (by decide) rfl ?_
  by_cases c11 : ak_I M b0 5 ≤ y4
  · rw [if_pos c11] at h
    refine w_icmp_ge_j (n := 62) (off := 39) (by decide +kernel) (by decide) c11 ?_
    refine w_iinc (n := 65) (i := 3) (v := 1) (y := y3 + 1) (l1' := [some (.ref b0), some (.int x1), some (.int y2), some (.int (y3 + 1)), some (.int y4)]) (l2' := []) (by decide +kernel) rfl rfl rfl rfl rfl ?_
    refine w_goto (n := 4) (off := (-61)) (by decide +kernel) (by decide) ?_
    exact h
  · rw [if_neg c11] at h
    refine w_icmp_ge_n (n := 26) (off := 39) (by decide +kernel) rfl c11 ?_
    refine w_iload_n (n := 27) (i := 1) (by decide +kernel) rfl rfl ?_
    by_cases c10 : x1 = 0
    · rw [if_pos c10] at h
      refine w_if_eq_j (n := 43) (off := 16) (by decide +kernel) (by decide) c10 ?_
      refine w_aload_n (n := 44) (i := 0) (by decide +kernel) rfl rfl ?_
      refine w_iload_n (n := 45) (i := 3) (by decide +kernel) rfl rfl ?_
      refine w_iload (n := 47) (i := 4) (by decide +kernel) rfl rfl ?_
      obtain ⟨v3, M2, hLM2, hr5, h⟩ := h
      refine w_cV (n := 50) (idx := 104) (cal := 13) (na := 2) (nl := 3) (as := [.int y3, .int y4]) (rest := []) hL (by decide +kernel) (by decide +kernel) (af_F hb0) (by decide +kernel) rfl rfl rfl (Nat.le_of_ble_eq_true rfl) rfl hr5 ?_
      by_cases c4 : v3 = 0
      · rw [if_pos c4] at h
        refine w_if_eq_j (n := 56) (off := 6) (by decide +kernel) (by decide) c4 ?_
        refine w_iinc (n := 59) (i := 4) (v := 1) (y := y4 + 1) (l1' := [some (.ref b0), some (.int x1), some (.int y2), some (.int y3), some (.int (y4 + 1))]) (l2' := []) (by decide +kernel) rfl rfl rfl rfl rfl ?_
        refine w_goto (n := 17) (off := (-42)) (by decide +kernel) (by decide) ?_
        exact h
      · rw [if_neg c4] at h
        refine w_if_eq_n (n := 53) (off := 6) (by decide +kernel) rfl c4 ?_
        refine w_iinc (n := 56) (i := 2) (v := 1) (y := y2 + 1) (l1' := [some (.ref b0), some (.int x1), some (.int (y2 + 1)), some (.int y3), some (.int y4)]) (l2' := []) (by decide +kernel) rfl rfl rfl rfl rfl ?_
        refine w_iinc (n := 59) (i := 4) (v := 1) (y := y4 + 1) (l1' := [some (.ref b0), some (.int x1), some (.int (y2 + 1)), some (.int y3), some (.int (y4 + 1))]) (l2' := []) (by decide +kernel) rfl rfl rfl rfl rfl ?_
        refine w_goto (n := 17) (off := (-42)) (by decide +kernel) (by decide) ?_
        exact h
    · rw [if_neg c10] at h
      refine w_if_eq_n (n := 30) (off := 16) (by decide +kernel) rfl c10 ?_
      refine w_aload_n (n := 31) (i := 0) (by decide +kernel) rfl rfl ?_
      refine w_iload_n (n := 32) (i := 3) (by decide +kernel) rfl rfl ?_
      refine w_iload (n := 34) (i := 4) (by decide +kernel) rfl rfl ?_
      obtain ⟨v7, M6, hLM6, hr9, h⟩ := h
      refine w_cV (n := 37) (idx := 112) (cal := 14) (na := 2) (nl := 3) (as := [.int y3, .int y4]) (rest := []) hL (by decide +kernel) (by decide +kernel) (af_F hb0) (by decide +kernel) rfl rfl rfl (Nat.le_of_ble_eq_true rfl) rfl hr9 ?_
      by_cases c8 : v7 = 0
      · rw [if_pos c8] at h
        refine w_if_eq_j (n := 56) (off := 19) (by decide +kernel) (by decide) c8 ?_
        refine w_iinc (n := 59) (i := 4) (v := 1) (y := y4 + 1) (l1' := [some (.ref b0), some (.int x1), some (.int y2), some (.int y3), some (.int (y4 + 1))]) (l2' := []) (by decide +kernel) rfl rfl rfl rfl rfl ?_
        refine w_goto (n := 17) (off := (-42)) (by decide +kernel) (by decide) ?_
        exact h
      · rw [if_neg c8] at h
        refine w_if_eq_n (n := 40) (off := 19) (by decide +kernel) rfl c8 ?_
        refine w_goto (n := 53) (off := 13) (by decide +kernel) (by decide) ?_
        refine w_iinc (n := 56) (i := 2) (v := 1) (y := y2 + 1) (l1' := [some (.ref b0), some (.int x1), some (.int (y2 + 1)), some (.int y3), some (.int y4)]) (l2' := []) (by decide +kernel) rfl rfl rfl rfl rfl ?_
        refine w_iinc (n := 59) (i := 4) (v := 1) (y := y4 + 1) (l1' := [some (.ref b0), some (.int x1), some (.int (y2 + 1)), some (.int y3), some (.int (y4 + 1))]) (l2' := []) (by decide +kernel) rfl rfl rfl rfl rfl ?_
        refine w_goto (n := 17) (off := (-42)) (by decide +kernel) (by decide) ?_
        exact h
theorem t_16 {X : ak_X} {M : ak_M} {r : ak_O × ak_M} (hL : ab_lay M) {b0 : Nat} (hb0 : b0 ∈ ab_fb) (x1 : Int32) (x2 : Int32) (x3 : Int32) (h : sg X 16 (9, [some (.ref b0), some (.int x1), some (.int x2), some (.int x3), some (.int ((-1))), some (.int 0), some (.int 0), none, none, none, none], [], []) M r) : rn X 16 [.ref b0, .int x1, .int x2, .int x3] M r := by
  refine w_rn (nL := 11) (l1 := [some (.ref b0), some (.int x1), some (.int x2), some (.int x3), none, none, none, none, none, none, none]) (by decide +kernel) rfl rfl ?_
  refine w_iconst (n := 1) (v := -1) (x := (-1)) (by decide +kernel) rfl (by decide) ?_
  refine w_istore (n := 3) (i := 4) (l1' := [some (.ref b0), some (.int x1), some (.int x2), some (.int x3), some (.int ((-1))), none, none, none, none, none, none]) (l2' := []) (by decide +kernel) rfl (Nat.le_of_ble_eq_true rfl) rfl rfl ?_
  refine w_iconst (n := 4) (v := 0) (x := 0) (by decide +kernel) rfl (by decide) ?_
  refine w_istore (n := 6) (i := 5) (l1' := [some (.ref b0), some (.int x1), some (.int x2), some (.int x3), some (.int ((-1))), some (.int 0), none, none, none, none, none]) (l2' := []) (by decide +kernel) rfl (Nat.le_of_ble_eq_true rfl) rfl rfl ?_
  refine w_iconst (n := 7) (v := 0) (x := 0) (by decide +kernel) rfl (by decide) ?_
  refine w_istore (n := 9) (i := 6) (l1' := [some (.ref b0), some (.int x1), some (.int x2), some (.int x3), some (.int ((-1))), some (.int 0), some (.int 0), none, none, none, none]) (l2' := []) (by decide +kernel) rfl (Nat.le_of_ble_eq_true rfl) rfl rfl ?_
  exact h
theorem t_16_9 {X : ak_X} {M : ak_M} {r : ak_O × ak_M} (hL : ab_lay M) {b0 : Nat} (hb0 : b0 ∈ ab_fb) (x1 : Int32) (x2 : Int32) (x3 : Int32) (y4 : Int32) (y5 : Int32) (y6 : Int32) (o7 : Option Value) (o8 : Option Value) (o9 : Option Value) (o10 : Option Value) (h : (if ak_I M b0 5 ≤ y6 then r = (.inl (some (.int y4)), M) else (∃ i1 : Nat, i1 < 10 ∧ ab_ix y6 i1 10 ∧ (∃ (v3 : Int32) (M2 : ak_M), ab_lay M2 ∧ rn X 314 [.int (x1 - (ak_I M (b0 + 6 + i1) 4))] M (.inl (some (.int v3)), M2) ∧ (∃ (v5 : Int32) (M4 : ak_M), ab_lay M4 ∧ rn X 314 [.int (x2 - (ak_I M2 (b0 + 6 + i1) 5))] M2 (.inl (some (.int v5)), M4) ∧ (if y6 = x3 then sg X 16 (78, [some (.ref b0), some (.int x1), some (.int x2), some (.int x3), some (.int y4), some (.int y5), some (.int y6), some (.ref (b0 + 6 + i1)), some (.int v3), some (.int v5), o10], [], []) M4 r else (if ak_I M4 (b0 + 6 + i1) 0 = 0 then sg X 16 (74, [some (.ref b0), some (.int x1), some (.int x2), some (.int x3), some (.int y4), some (.int y5), some (.int y6), some (.ref (b0 + 6 + i1)), some (.int v3), some (.int v5), o10], [], []) M4 r else (if ak_I M4 (b0 + 6 + i1) 0 = 1 then sg X 16 (74, [some (.ref b0), some (.int x1), some (.int x2), some (.int x3), some (.int y4), some (.int y5), some (.int y6), some (.ref (b0 + 6 + i1)), some (.int v3), some (.int v5), o10], [], []) M4 r else sg X 16 (78, [some (.ref b0), some (.int x1), some (.int x2), some (.int x3), some (.int y4), some (.int y5), some (.int y6), some (.ref (b0 + 6 + i1)), some (.int v3), some (.int v5), o10], [], []) M4 r)))))))) : sg X 16 (9, [some (.ref b0), some (.int x1), some (.int x2), some (.int x3), some (.int y4), some (.int y5), some (.int y6), o7, o8, o9, o10], [], []) M r := by
  refine w_iload (n := 11) (i := 6) (by decide +kernel) rfl rfl ?_
  refine w_aload_n (n := 12) (i := 0) (by decide +kernel) rfl rfl ?_
  refine w_getI (n := 15) hL (by decide +kernel) oO_16 fF_2_49 (af_F hb0) (by decide) rfl ?_
  by_cases c11 : ak_I M b0 5 ≤ y6
  · rw [if_pos c11] at h
    refine w_icmp_ge_j (n := 141) (off := 126) (by decide +kernel) (by decide) c11 ?_
    refine w_iload (n := 143) (i := 4) (by decide +kernel) rfl rfl ?_
    subst h
    exact w_ireturn (by decide +kernel) (w_okI (by decide +kernel))
  · rw [if_neg c11] at h
    refine w_icmp_ge_n (n := 18) (off := 126) (by decide +kernel) rfl c11 ?_
    refine w_aload_n (n := 19) (i := 0) (by decide +kernel) rfl rfl ?_
    refine w_getR (n := 22) hL (by decide +kernel) oO_16 fF_2_11 (af_F hb0) (by decide) (ag_KA hb0) rfl ?_
    refine w_iload (n := 24) (i := 6) (by decide +kernel) rfl rfl ?_
    obtain ⟨i1, hi1, gi1, h⟩ := h
    refine w_aald (n := 25) hL (by decide +kernel) (af_KA hb0) (by decide) (ax_KA hb0) gi1 (ai_KA hb0 hi1) rfl ?_
    refine w_astore (n := 27) (i := 7) (l1' := [some (.ref b0), some (.int x1), some (.int x2), some (.int x3), some (.int y4), some (.int y5), some (.int y6), some (.ref (b0 + 6 + i1)), o8, o9, o10]) (l2' := []) (by decide +kernel) rfl (Nat.le_of_ble_eq_true rfl) rfl rfl ?_
    refine w_iload_n (n := 28) (i := 1) (by decide +kernel) rfl rfl ?_
    refine w_aload (n := 30) (i := 7) (by decide +kernel) rfl rfl ?_
    refine w_getI (n := 33) hL (by decide +kernel) oO_16 fF_2_115 (af_K hb0 hi1) (by decide) rfl ?_
    refine w_isub (n := 34) (by decide +kernel) rfl ?_
    obtain ⟨v3, M2, hLM2, hr10, h⟩ := h
    refine w_cS (n := 37) (idx := 118) (cal := 314) (na := 1) (nl := 1) (as := [.int (x1 - (ak_I M (b0 + 6 + i1) 4))]) (rest := []) (by decide +kernel) (by decide +kernel) rfl rfl rfl (Nat.le_of_ble_eq_true rfl) rfl hr10 ?_
    refine w_istore (n := 39) (i := 8) (l1' := [some (.ref b0), some (.int x1), some (.int x2), some (.int x3), some (.int y4), some (.int y5), some (.int y6), some (.ref (b0 + 6 + i1)), some (.int v3), o9, o10]) (l2' := []) (by decide +kernel) rfl (Nat.le_of_ble_eq_true rfl) rfl rfl ?_
    refine w_iload_n (n := 40) (i := 2) (by decide +kernel) rfl rfl ?_
    refine w_aload (n := 42) (i := 7) (by decide +kernel) rfl rfl ?_
    refine w_getI (n := 45) hLM2 (by decide +kernel) oO_16 fF_2_122 (af_K hb0 hi1) (by decide) rfl ?_
    refine w_isub (n := 46) (by decide +kernel) rfl ?_
    obtain ⟨v5, M4, hLM4, hr9, h⟩ := h
    refine w_cS (n := 49) (idx := 118) (cal := 314) (na := 1) (nl := 1) (as := [.int (x2 - (ak_I M2 (b0 + 6 + i1) 5))]) (rest := []) (by decide +kernel) (by decide +kernel) rfl rfl rfl (Nat.le_of_ble_eq_true rfl) rfl hr9 ?_
    refine w_istore (n := 51) (i := 9) (l1' := [some (.ref b0), some (.int x1), some (.int x2), some (.int x3), some (.int y4), some (.int y5), some (.int y6), some (.ref (b0 + 6 + i1)), some (.int v3), some (.int v5), o10]) (l2' := []) (by decide +kernel) rfl (Nat.le_of_ble_eq_true rfl) rfl rfl ?_
    refine w_iload (n := 53) (i := 6) (by decide +kernel) rfl rfl ?_
    refine w_iload_n (n := 54) (i := 3) (by decide +kernel) rfl rfl ?_
    by_cases c8 : y6 = x3
    · rw [if_pos c8] at h
      refine w_icmp_eq_j (n := 78) (off := 24) (by decide +kernel) (by decide) c8 ?_
      exact h
    · rw [if_neg c8] at h
      refine w_icmp_eq_n (n := 57) (off := 24) (by decide +kernel) rfl c8 ?_
      refine w_aload (n := 59) (i := 7) (by decide +kernel) rfl rfl ?_
      refine w_getI (n := 62) hLM4 (by decide +kernel) oO_16 fF_2_85 (af_K hb0 hi1) (by decide) rfl ?_
      by_cases c7 : ak_I M4 (b0 + 6 + i1) 0 = 0
      · rw [if_pos c7] at h
        refine w_if_eq_j (n := 74) (off := 12) (by decide +kernel) (by decide) c7 ?_
        exact h
      · rw [if_neg c7] at h
        refine w_if_eq_n (n := 65) (off := 12) (by decide +kernel) rfl c7 ?_
        refine w_aload (n := 67) (i := 7) (by decide +kernel) rfl rfl ?_
        refine w_getI (n := 70) hLM4 (by decide +kernel) oO_16 fF_2_85 (af_K hb0 hi1) (by decide) rfl ?_
        refine w_iconst (n := 71) (v := 1) (x := 1) (by decide +kernel) rfl (by decide) ?_
        by_cases c6 : ak_I M4 (b0 + 6 + i1) 0 = 1
        · rw [if_pos c6] at h
          refine w_icmp_ne_n (n := 74) (off := 7) (by decide +kernel) rfl c6 ?_
          exact h
        · rw [if_neg c6] at h
          refine w_icmp_ne_j (n := 78) (off := 7) (by decide +kernel) (by decide) c6 ?_
          exact h
theorem t_16_74 {X : ak_X} {M : ak_M} {r : ak_O × ak_M} (hL : ab_lay M) {b0 : Nat} (hb0 : b0 ∈ ab_fb) (x1 : Int32) (x2 : Int32) (x3 : Int32) (y4 : Int32) (y5 : Int32) (y6 : Int32) (o7 : Option Value) (y8 : Int32) (y9 : Int32) (o10 : Option Value) (h : (∃ i12 : Nat, ab_ix 5 i12 6 ∧ (if ak_I M (b0 + 4) i12 < y8 then sg X 16 (135, [some (.ref b0), some (.int x1), some (.int x2), some (.int x3), some (.int y4), some (.int y5), some (.int y6), o7, some (.int y8), some (.int y9), some (.int 1)], [], []) M r else (∃ i13 : Nat, ab_ix 5 i13 6 ∧ (if ak_I M (b0 + 4) i13 < y9 then sg X 16 (135, [some (.ref b0), some (.int x1), some (.int x2), some (.int x3), some (.int y4), some (.int y5), some (.int y6), o7, some (.int y8), some (.int y9), some (.int 1)], [], []) M r else (if y4 = (-1) then sg X 16 (124, [some (.ref b0), some (.int x1), some (.int x2), some (.int x3), some (.int y4), some (.int y5), some (.int y6), o7, some (.int y8), some (.int y9), some (.int 1)], [], []) M r else (if y5 ≤ y8 + y9 then sg X 16 (135, [some (.ref b0), some (.int x1), some (.int x2), some (.int x3), some (.int y4), some (.int y5), some (.int y6), o7, some (.int y8), some (.int y9), some (.int 1)], [], []) M r else sg X 16 (124, [some (.ref b0), some (.int x1), some (.int x2), some (.int x3), some (.int y4), some (.int y5), some (.int y6), o7, some (.int y8), some (.int y9), some (.int 1)], [], []) M r))))))) : sg X 16 (74, [some (.ref b0), some (.int x1), some (.int x2), some (.int x3), some (.int y4), some (.int y5), some (.int y6), o7, some (.int y8), some (.int y9), o10], [], []) M r := by
  refine w_iconst (n := 75) (v := 1) (x := 1) (by decide +kernel) rfl (by decide) ?_
  refine w_goto (n := 79) (off := 4) (by decide +kernel) (by decide) ?_
  refine w_istore (n := 81) (i := 10) (l1' := [some (.ref b0), some (.int x1), some (.int x2), some (.int x3), some (.int y4), some (.int y5), some (.int y6), o7, some (.int y8), some (.int y9), some (.int 1)]) (l2' := []) (by decide +kernel) rfl (Nat.le_of_ble_eq_true rfl) rfl rfl ?_
  refine w_iload (n := 83) (i := 10) (by decide +kernel) rfl rfl ?_
  refine w_if_eq_n (n := 86) (off := 52) (by decide +kernel) rfl (by decide) ?_
  refine w_iload (n := 88) (i := 8) (by decide +kernel) rfl rfl ?_
  refine w_aload_n (n := 89) (i := 0) (by decide +kernel) rfl rfl ?_
  refine w_getR (n := 92) hL (by decide +kernel) oO_16 fF_2_29 (af_F hb0) (by decide) (ag_SA hb0) rfl ?_
  refine w_iconst (n := 93) (v := 5) (x := 5) (by decide +kernel) rfl (by decide) ?_
  obtain ⟨i12, gi12, h⟩ := h
  refine w_iald (n := 94) hL (by decide +kernel) (af_SA hb0) (ax_SA hb0) gi12 rfl ?_
  by_cases c17 : ak_I M (b0 + 4) i12 < y8
  · rw [if_pos c17] at h
    refine w_icmp_gt_j (n := 135) (off := 41) (by decide +kernel) (by decide) c17 ?_
    exact h
  · rw [if_neg c17] at h
    refine w_icmp_gt_n (n := 97) (off := 41) (by decide +kernel) rfl c17 ?_
    refine w_iload (n := 99) (i := 9) (by decide +kernel) rfl rfl ?_
    refine w_aload_n (n := 100) (i := 0) (by decide +kernel) rfl rfl ?_
    refine w_getR (n := 103) hL (by decide +kernel) oO_16 fF_2_29 (af_F hb0) (by decide) (ag_SA hb0) rfl ?_
    refine w_iconst (n := 104) (v := 5) (x := 5) (by decide +kernel) rfl (by decide) ?_
    obtain ⟨i13, gi13, h⟩ := h
    refine w_iald (n := 105) hL (by decide +kernel) (af_SA hb0) (ax_SA hb0) gi13 rfl ?_
    by_cases c16 : ak_I M (b0 + 4) i13 < y9
    · rw [if_pos c16] at h
      refine w_icmp_gt_j (n := 135) (off := 30) (by decide +kernel) (by decide) c16 ?_
      exact h
    · rw [if_neg c16] at h
      refine w_icmp_gt_n (n := 108) (off := 30) (by decide +kernel) rfl c16 ?_
      refine w_iload (n := 110) (i := 4) (by decide +kernel) rfl rfl ?_
      refine w_iconst (n := 111) (v := -1) (x := (-1)) (by decide +kernel) rfl (by decide) ?_
      by_cases c15 : y4 = (-1)
      · rw [if_pos c15] at h
        refine w_icmp_eq_j (n := 124) (off := 13) (by decide +kernel) (by decide) c15 ?_
        exact h
      · rw [if_neg c15] at h
        refine w_icmp_eq_n (n := 114) (off := 13) (by decide +kernel) rfl c15 ?_
        refine w_iload (n := 116) (i := 8) (by decide +kernel) rfl rfl ?_
        refine w_iload (n := 118) (i := 9) (by decide +kernel) rfl rfl ?_
        refine w_iadd (n := 119) (by decide +kernel) rfl ?_
        refine w_iload (n := 121) (i := 5) (by decide +kernel) rfl rfl ?_
        by_cases c14 : y5 ≤ y8 + y9
        · rw [if_pos c14] at h
          refine w_icmp_ge_j (n := 135) (off := 14) (by decide +kernel) (by decide) c14 ?_
          exact h
        · rw [if_neg c14] at h
          refine w_icmp_ge_n (n := 124) (off := 14) (by decide +kernel) rfl c14 ?_
          exact h
theorem t_16_78 {X : ak_X} {M : ak_M} {r : ak_O × ak_M} (hL : ab_lay M) {b0 : Nat} (hb0 : b0 ∈ ab_fb) (x1 : Int32) (x2 : Int32) (x3 : Int32) (y4 : Int32) (y5 : Int32) (y6 : Int32) (o7 : Option Value) (y8 : Int32) (y9 : Int32) (o10 : Option Value) (h : sg X 16 (135, [some (.ref b0), some (.int x1), some (.int x2), some (.int x3), some (.int y4), some (.int y5), some (.int y6), o7, some (.int y8), some (.int y9), some (.int 0)], [], []) M r) : sg X 16 (78, [some (.ref b0), some (.int x1), some (.int x2), some (.int x3), some (.int y4), some (.int y5), some (.int y6), o7, some (.int y8), some (.int y9), o10], [], []) M r := by
  refine w_iconst (n := 79) (v := 0) (x := 0) (by decide +kernel) rfl (by decide) ?_
  refine w_istore (n := 81) (i := 10) (l1' := [some (.ref b0), some (.int x1), some (.int x2), some (.int x3), some (.int y4), some (.int y5), some (.int y6), o7, some (.int y8), some (.int y9), some (.int 0)]) (l2' := []) (by decide +kernel) rfl (Nat.le_of_ble_eq_true rfl) rfl rfl ?_
  refine w_iload (n := 83) (i := 10) (by decide +kernel) rfl rfl ?_
  refine w_if_eq_j (n := 135) (off := 52) (by decide +kernel) (by decide) (by decide) ?_
  exact h
theorem t_16_124 {X : ak_X} {M : ak_M} {r : ak_O × ak_M} (hL : ab_lay M) {b0 : Nat} (hb0 : b0 ∈ ab_fb) (x1 : Int32) (x2 : Int32) (x3 : Int32) (o4 : Option Value) (o5 : Option Value) (y6 : Int32) (o7 : Option Value) (y8 : Int32) (y9 : Int32) (o10 : Option Value) (h : sg X 16 (135, [some (.ref b0), some (.int x1), some (.int x2), some (.int x3), some (.int y6), some (.int (y8 + y9)), some (.int y6), o7, some (.int y8), some (.int y9), o10], [], []) M r) : sg X 16 (124, [some (.ref b0), some (.int x1), some (.int x2), some (.int x3), o4, o5, some (.int y6), o7, some (.int y8), some (.int y9), o10], [], []) M r := by
  refine w_iload (n := 126) (i := 6) (by decide +kernel) rfl rfl ?_
  refine w_istore (n := 128) (i := 4) (l1' := [some (.ref b0), some (.int x1), some (.int x2), some (.int x3), some (.int y6), o5, some (.int y6), o7, some (.int y8), some (.int y9), o10]) (l2' := []) (by decide +kernel) rfl (Nat.le_of_ble_eq_true rfl) rfl rfl ?_
  refine w_iload (n := 130) (i := 8) (by decide +kernel) rfl rfl ?_
  refine w_iload (n := 132) (i := 9) (by decide +kernel) rfl rfl ?_
  refine w_iadd (n := 133) (by decide +kernel) rfl ?_
  refine w_istore (n := 135) (i := 5) (l1' := [some (.ref b0), some (.int x1), some (.int x2), some (.int x3), some (.int y6), some (.int (y8 + y9)), some (.int y6), o7, some (.int y8), some (.int y9), o10]) (l2' := []) (by decide +kernel) rfl (Nat.le_of_ble_eq_true rfl) rfl rfl ?_
  exact h
theorem t_16_135 {X : ak_X} {M : ak_M} {r : ak_O × ak_M} (hL : ab_lay M) {b0 : Nat} (hb0 : b0 ∈ ab_fb) (x1 : Int32) (x2 : Int32) (x3 : Int32) (y4 : Int32) (y5 : Int32) (y6 : Int32) (o7 : Option Value) (o8 : Option Value) (o9 : Option Value) (o10 : Option Value) (h : sg X 16 (9, [some (.ref b0), some (.int x1), some (.int x2), some (.int x3), some (.int y4), some (.int y5), some (.int (y6 + 1)), o7, o8, o9, o10], [], []) M r) : sg X 16 (135, [some (.ref b0), some (.int x1), some (.int x2), some (.int x3), some (.int y4), some (.int y5), some (.int y6), o7, o8, o9, o10], [], []) M r := by
  refine w_iinc (n := 138) (i := 6) (v := 1) (y := y6 + 1) (l1' := [some (.ref b0), some (.int x1), some (.int x2), some (.int x3), some (.int y4), some (.int y5), some (.int (y6 + 1)), o7, o8, o9, o10]) (l2' := []) (by decide +kernel) rfl rfl rfl rfl rfl ?_
  refine w_goto (n := 9) (off := (-129)) (by decide +kernel) (by decide) ?_
  exact h
theorem t_17 {X : ak_X} {M : ak_M} {r : ak_O × ak_M} (hL : ab_lay M) {b0 : Nat} (hb0 : b0 ∈ ab_fb) (x1 : Int32) (h : (∃ i1 : Nat, i1 < 12 ∧ ab_ix (((ak_I M b0 8) + x1) - ((ak_I M b0 8) + x1) / 12 * 12) i1 12 ∧ r = (.inl (some (.ref (b0 + 20 + i1))), M))) : rn X 17 [.ref b0, .int x1] M r := by
  refine w_rn (nL := 2) (l1 := [some (.ref b0), some (.int x1)]) (by decide +kernel) rfl rfl ?_
  refine w_aload_n (n := 1) (i := 0) (by decide +kernel) rfl rfl ?_
  refine w_getR (n := 4) hL (by decide +kernel) oO_17 fF_2_25 (af_F hb0) (by decide) (ag_EA hb0) rfl ?_
  refine w_aload_n (n := 5) (i := 0) (by decide +kernel) rfl rfl ?_
  refine w_getI (n := 8) hL (by decide +kernel) oO_17 fF_2_59 (af_F hb0) (by decide) rfl ?_
  refine w_iload_n (n := 9) (i := 1) (by decide +kernel) rfl rfl ?_
  refine w_iadd (n := 10) (by decide +kernel) rfl ?_
  refine w_bipush (n := 12) (v := 12) (x := 12) (by decide +kernel) rfl (by decide) ?_
  refine w_irem (n := 13) (by decide +kernel) rfl (by decide) ?_
  obtain ⟨i1, hi1, gi1, h⟩ := h
  refine w_aald (n := 14) hL (by decide +kernel) (af_EA hb0) (by decide) (ax_EA hb0) gi1 (ai_EA hb0 hi1) rfl ?_
  subst h
  exact w_areturn (by decide +kernel) (by decide +kernel)
theorem t_18 {X : ak_X} {M : ak_M} {r : ak_O × ak_M} (hL : ab_lay M) {b0 : Nat} (hb0 : b0 ∈ ab_fb) (x1 : Int32) (x2 : Int32) (x3 : Int32) (h : (∃ i1 : Nat, i1 < 10 ∧ ab_ix x2 i1 10 ∧ (∃ i2 : Nat, i2 < 10 ∧ ab_ix x2 i2 10 ∧ (∃ (M3 : ak_M), ab_lay M3 ∧ rn X 19 [.ref b0, .int x1, .int x2, .int x3, .int (ak_I M (b0 + 6 + i1) 1), .int (ak_I M (b0 + 6 + i2) 2)] M (.inl (none), M3) ∧ r = (.inl none, M3))))) : rn X 18 [.ref b0, .int x1, .int x2, .int x3] M r := by
  refine w_rn (nL := 4) (l1 := [some (.ref b0), some (.int x1), some (.int x2), some (.int x3)]) (by decide +kernel) rfl rfl ?_
  refine w_aload_n (n := 1) (i := 0) (by decide +kernel) rfl rfl ?_
  refine w_iload_n (n := 2) (i := 1) (by decide +kernel) rfl rfl ?_
  refine w_iload_n (n := 3) (i := 2) (by decide +kernel) rfl rfl ?_
  refine w_iload_n (n := 4) (i := 3) (by decide +kernel) rfl rfl ?_
  refine w_aload_n (n := 5) (i := 0) (by decide +kernel) rfl rfl ?_
  refine w_getR (n := 8) hL (by decide +kernel) oO_18 fF_2_11 (af_F hb0) (by decide) (ag_KA hb0) rfl ?_
  refine w_iload_n (n := 9) (i := 2) (by decide +kernel) rfl rfl ?_
  obtain ⟨i1, hi1, gi1, h⟩ := h
  refine w_aald (n := 10) hL (by decide +kernel) (af_KA hb0) (by decide) (ax_KA hb0) gi1 (ai_KA hb0 hi1) rfl ?_
  refine w_getI (n := 13) hL (by decide +kernel) oO_18 fF_2_125 (af_K hb0 hi1) (by decide) rfl ?_
  refine w_aload_n (n := 14) (i := 0) (by decide +kernel) rfl rfl ?_
  refine w_getR (n := 17) hL (by decide +kernel) oO_18 fF_2_11 (af_F hb0) (by decide) (ag_KA hb0) rfl ?_
  refine w_iload_n (n := 18) (i := 2) (by decide +kernel) rfl rfl ?_
  obtain ⟨i2, hi2, gi2, h⟩ := h
  refine w_aald (n := 19) hL (by decide +kernel) (af_KA hb0) (by decide) (ax_KA hb0) gi2 (ai_KA hb0 hi2) rfl ?_
  refine w_getI (n := 22) hL (by decide +kernel) oO_18 fF_2_128 (af_K hb0 hi2) (by decide) rfl ?_
  obtain ⟨M3, hLM3, hr4, h⟩ := h
  refine w_cV (n := 25) (idx := 131) (cal := 19) (na := 5) (nl := 6) (as := [.int x1, .int x2, .int x3, .int (ak_I M (b0 + 6 + i1) 1), .int (ak_I M (b0 + 6 + i2) 2)]) (rest := []) hL (by decide +kernel) (by decide +kernel) (af_F hb0) (by decide +kernel) rfl rfl rfl (Nat.le_of_ble_eq_true rfl) rfl hr4 ?_
  subst h
  exact w_vreturn (by decide +kernel) (by decide +kernel)
theorem t_19 {X : ak_X} {M : ak_M} {r : ak_O × ak_M} (hL : ab_lay M) {b0 : Nat} (hb0 : b0 ∈ ab_fb) (x1 : Int32) (x2 : Int32) (x3 : Int32) (x4 : Int32) (x5 : Int32) (h : (if ak_I M b0 7 = 12 then (∀ M11 : ak_M, M11 = ak_sI M b0 8 (((ak_I M b0 8) + 1) - ((ak_I M b0 8) + 1) / 12 * 12) → (∃ (j13 : Nat) (M12 : ak_M), j13 < 12 ∧ ab_lay M12 ∧ rn X 17 [.ref b0, .int ((ak_I M11 b0 7) - 1)] M11 (.inl (some (.ref (b0 + 20 + j13))), M12) ∧ (∀ M14 : ak_M, M14 = ak_sI M12 (b0 + 20 + j13) 0 (ak_I M12 b0 9) → (∀ M15 : ak_M, M15 = ak_sI M14 (b0 + 20 + j13) 1 x1 → (∀ M16 : ak_M, M16 = ak_sI M15 (b0 + 20 + j13) 2 x2 → (∀ M17 : ak_M, M17 = ak_sI M16 (b0 + 20 + j13) 3 x3 → (∀ M18 : ak_M, M18 = ak_sI M17 (b0 + 20 + j13) 4 x4 → (∀ M19 : ak_M, M19 = ak_sI M18 (b0 + 20 + j13) 5 x5 → r = (.inl none, M19))))))))) else (∀ M1 : ak_M, M1 = ak_sI M b0 7 ((ak_I M b0 7) + 1) → (∃ (j3 : Nat) (M2 : ak_M), j3 < 12 ∧ ab_lay M2 ∧ rn X 17 [.ref b0, .int ((ak_I M1 b0 7) - 1)] M1 (.inl (some (.ref (b0 + 20 + j3))), M2) ∧ (∀ M4 : ak_M, M4 = ak_sI M2 (b0 + 20 + j3) 0 (ak_I M2 b0 9) → (∀ M5 : ak_M, M5 = ak_sI M4 (b0 + 20 + j3) 1 x1 → (∀ M6 : ak_M, M6 = ak_sI M5 (b0 + 20 + j3) 2 x2 → (∀ M7 : ak_M, M7 = ak_sI M6 (b0 + 20 + j3) 3 x3 → (∀ M8 : ak_M, M8 = ak_sI M7 (b0 + 20 + j3) 4 x4 → (∀ M9 : ak_M, M9 = ak_sI M8 (b0 + 20 + j3) 5 x5 → r = (.inl none, M9))))))))))) : rn X 19 [.ref b0, .int x1, .int x2, .int x3, .int x4, .int x5] M r := by
  refine w_rn (nL := 7) (l1 := [some (.ref b0), some (.int x1), some (.int x2), some (.int x3), some (.int x4), some (.int x5), none]) (by decide +kernel) rfl rfl ?_
  refine w_aload_n (n := 1) (i := 0) (by decide +kernel) rfl rfl ?_
  refine w_getI (n := 4) hL (by decide +kernel) oO_19 fF_2_56 (af_F hb0) (by decide) rfl ?_
  refine w_bipush (n := 6) (v := 12) (x := 12) (by decide +kernel) rfl (by decide) ?_
  by_cases c21 : ak_I M b0 7 = 12
  · rw [if_pos c21] at h
    refine w_icmp_ne_n (n := 9) (off := 19) (by decide +kernel) rfl c21 ?_
    refine w_aload_n (n := 10) (i := 0) (by decide +kernel) rfl rfl ?_
    refine w_aload_n (n := 11) (i := 0) (by decide +kernel) rfl rfl ?_
    refine w_getI (n := 14) hL (by decide +kernel) oO_19 fF_2_59 (af_F hb0) (by decide) rfl ?_
    refine w_iconst (n := 15) (v := 1) (x := 1) (by decide +kernel) rfl (by decide) ?_
    refine w_iadd (n := 16) (by decide +kernel) rfl ?_
    refine w_bipush (n := 18) (v := 12) (x := 12) (by decide +kernel) rfl (by decide) ?_
    refine w_irem (n := 19) (by decide +kernel) rfl (by decide) ?_
    refine w_putI (n := 22) hL (by decide +kernel) oO_19 fF_2_59 (af_F hb0) ⟨by decide, Or.inl (by decide)⟩ rfl ?_
    generalize eM11 : ak_sI M b0 8 (((ak_I M b0 8) + 1) - ((ak_I M b0 8) + 1) / 12 * 12) = M11
    have hLM11 : ab_lay M11 := by rw [← eM11]; exact ab_lay.sI hL
    replace h := h M11 eM11.symm
    refine w_goto (n := 35) (off := 13) (by decide +kernel) (by decide) ?_
    refine w_aload_n (n := 36) (i := 0) (by decide +kernel) rfl rfl ?_
    refine w_aload_n (n := 37) (i := 0) (by decide +kernel) rfl rfl ?_
    refine w_getI (n := 40) hLM11 (by decide +kernel) oO_19 fF_2_56 (af_F hb0) (by decide) rfl ?_
    refine w_iconst (n := 41) (v := 1) (x := 1) (by decide +kernel) rfl (by decide) ?_
    refine w_isub (n := 42) (by decide +kernel) rfl ?_
    obtain ⟨j13, M12, hj13, hLM12, hr20, h⟩ := h
    refine w_cV (n := 45) (idx := 135) (cal := 17) (na := 1) (nl := 2) (as := [.int ((ak_I M11 b0 7) - 1)]) (rest := []) hLM11 (by decide +kernel) (by decide +kernel) (af_F hb0) (by decide +kernel) rfl rfl rfl (Nat.le_of_ble_eq_true rfl) rfl hr20 ?_
    refine w_astore (n := 47) (i := 6) (l1' := [some (.ref b0), some (.int x1), some (.int x2), some (.int x3), some (.int x4), some (.int x5), some (.ref (b0 + 20 + j13))]) (l2' := []) (by decide +kernel) rfl (Nat.le_of_ble_eq_true rfl) rfl rfl ?_
    refine w_aload (n := 49) (i := 6) (by decide +kernel) rfl rfl ?_
    refine w_aload_n (n := 50) (i := 0) (by decide +kernel) rfl rfl ?_
    refine w_getI (n := 53) hLM12 (by decide +kernel) oO_19 fF_2_62 (af_F hb0) (by decide) rfl ?_
    refine w_putI (n := 56) hLM12 (by decide +kernel) oO_19 fF_2_139 (af_E hb0 hj13) ⟨by decide, Or.inl (by decide)⟩ rfl ?_
    generalize eM14 : ak_sI M12 (b0 + 20 + j13) 0 (ak_I M12 b0 9) = M14
    have hLM14 : ab_lay M14 := by rw [← eM14]; exact ab_lay.sI hLM12
    replace h := h M14 eM14.symm
    refine w_aload (n := 58) (i := 6) (by decide +kernel) rfl rfl ?_
    refine w_iload_n (n := 59) (i := 1) (by decide +kernel) rfl rfl ?_
    refine w_putI (n := 62) hLM14 (by decide +kernel) oO_19 fF_2_140 (af_E hb0 hj13) ⟨by decide, Or.inl (by decide)⟩ rfl ?_
    generalize eM15 : ak_sI M14 (b0 + 20 + j13) 1 x1 = M15
    have hLM15 : ab_lay M15 := by rw [← eM15]; exact ab_lay.sI hLM14
    replace h := h M15 eM15.symm
    refine w_aload (n := 64) (i := 6) (by decide +kernel) rfl rfl ?_
    refine w_iload_n (n := 65) (i := 2) (by decide +kernel) rfl rfl ?_
    refine w_putI (n := 68) hLM15 (by decide +kernel) oO_19 fF_2_143 (af_E hb0 hj13) ⟨by decide, Or.inl (by decide)⟩ rfl ?_
    generalize eM16 : ak_sI M15 (b0 + 20 + j13) 2 x2 = M16
    have hLM16 : ab_lay M16 := by rw [← eM16]; exact ab_lay.sI hLM15
    replace h := h M16 eM16.symm
    refine w_aload (n := 70) (i := 6) (by decide +kernel) rfl rfl ?_
    refine w_iload_n (n := 71) (i := 3) (by decide +kernel) rfl rfl ?_
    refine w_putI (n := 74) hLM16 (by decide +kernel) oO_19 fF_2_146 (af_E hb0 hj13) ⟨by decide, Or.inl (by decide)⟩ rfl ?_
    generalize eM17 : ak_sI M16 (b0 + 20 + j13) 3 x3 = M17
    have hLM17 : ab_lay M17 := by rw [← eM17]; exact ab_lay.sI hLM16
    replace h := h M17 eM17.symm
    refine w_aload (n := 76) (i := 6) (by decide +kernel) rfl rfl ?_
    refine w_iload (n := 78) (i := 4) (by decide +kernel) rfl rfl ?_
    refine w_putI (n := 81) hLM17 (by decide +kernel) oO_19 fF_2_149 (af_E hb0 hj13) ⟨by decide, Or.inl (by decide)⟩ rfl ?_
    generalize eM18 : ak_sI M17 (b0 + 20 + j13) 4 x4 = M18
    have hLM18 : ab_lay M18 := by rw [← eM18]; exact ab_lay.sI hLM17
    replace h := h M18 eM18.symm
    refine w_aload (n := 83) (i := 6) (by decide +kernel) rfl rfl ?_
    refine w_iload (n := 85) (i := 5) (by decide +kernel) rfl rfl ?_
    refine w_putI (n := 88) hLM18 (by decide +kernel) oO_19 fF_2_150 (af_E hb0 hj13) ⟨by decide, Or.inl (by decide)⟩ rfl ?_
    generalize eM19 : ak_sI M18 (b0 + 20 + j13) 5 x5 = M19
    have hLM19 : ab_lay M19 := by rw [← eM19]; exact ab_lay.sI hLM18
    replace h := h M19 eM19.symm
    subst h
    exact w_vreturn (by decide +kernel) (by decide +kernel)
  · rw [if_neg c21] at h
    refine w_icmp_ne_j (n := 25) (off := 19) (by decide +kernel) (by decide) c21 ?_
    refine w_aload_n (n := 26) (i := 0) (by decide +kernel) rfl rfl ?_
    refine w_dup_ref (n := 27) (by decide +kernel) rfl ?_
    refine w_getI (n := 30) hL (by decide +kernel) oO_19 fF_2_56 (af_F hb0) (by decide) rfl ?_
    refine w_iconst (n := 31) (v := 1) (x := 1) (by decide +kernel) rfl (by decide) ?_
    refine w_iadd (n := 32) (by decide +kernel) rfl ?_
    refine w_putI (n := 35) hL (by decide +kernel) oO_19 fF_2_56 (af_F hb0) ⟨by decide, Or.inl (by decide)⟩ rfl ?_
    generalize eM1 : ak_sI M b0 7 ((ak_I M b0 7) + 1) = M1
    have hLM1 : ab_lay M1 := by rw [← eM1]; exact ab_lay.sI hL
    replace h := h M1 eM1.symm
    refine w_aload_n (n := 36) (i := 0) (by decide +kernel) rfl rfl ?_
    refine w_aload_n (n := 37) (i := 0) (by decide +kernel) rfl rfl ?_
    refine w_getI (n := 40) hLM1 (by decide +kernel) oO_19 fF_2_56 (af_F hb0) (by decide) rfl ?_
    refine w_iconst (n := 41) (v := 1) (x := 1) (by decide +kernel) rfl (by decide) ?_
    refine w_isub (n := 42) (by decide +kernel) rfl ?_
    obtain ⟨j3, M2, hj3, hLM2, hr10, h⟩ := h
    refine w_cV (n := 45) (idx := 135) (cal := 17) (na := 1) (nl := 2) (as := [.int ((ak_I M1 b0 7) - 1)]) (rest := []) hLM1 (by decide +kernel) (by decide +kernel) (af_F hb0) (by decide +kernel) rfl rfl rfl (Nat.le_of_ble_eq_true rfl) rfl hr10 ?_
    refine w_astore (n := 47) (i := 6) (l1' := [some (.ref b0), some (.int x1), some (.int x2), some (.int x3), some (.int x4), some (.int x5), some (.ref (b0 + 20 + j3))]) (l2' := []) (by decide +kernel) rfl (Nat.le_of_ble_eq_true rfl) rfl rfl ?_
    refine w_aload (n := 49) (i := 6) (by decide +kernel) rfl rfl ?_
    refine w_aload_n (n := 50) (i := 0) (by decide +kernel) rfl rfl ?_
    refine w_getI (n := 53) hLM2 (by decide +kernel) oO_19 fF_2_62 (af_F hb0) (by decide) rfl ?_
    refine w_putI (n := 56) hLM2 (by decide +kernel) oO_19 fF_2_139 (af_E hb0 hj3) ⟨by decide, Or.inl (by decide)⟩ rfl ?_
    generalize eM4 : ak_sI M2 (b0 + 20 + j3) 0 (ak_I M2 b0 9) = M4
    have hLM4 : ab_lay M4 := by rw [← eM4]; exact ab_lay.sI hLM2
    replace h := h M4 eM4.symm
    refine w_aload (n := 58) (i := 6) (by decide +kernel) rfl rfl ?_
    refine w_iload_n (n := 59) (i := 1) (by decide +kernel) rfl rfl ?_
    refine w_putI (n := 62) hLM4 (by decide +kernel) oO_19 fF_2_140 (af_E hb0 hj3) ⟨by decide, Or.inl (by decide)⟩ rfl ?_
    generalize eM5 : ak_sI M4 (b0 + 20 + j3) 1 x1 = M5
    have hLM5 : ab_lay M5 := by rw [← eM5]; exact ab_lay.sI hLM4
    replace h := h M5 eM5.symm
    refine w_aload (n := 64) (i := 6) (by decide +kernel) rfl rfl ?_
    refine w_iload_n (n := 65) (i := 2) (by decide +kernel) rfl rfl ?_
    refine w_putI (n := 68) hLM5 (by decide +kernel) oO_19 fF_2_143 (af_E hb0 hj3) ⟨by decide, Or.inl (by decide)⟩ rfl ?_
    generalize eM6 : ak_sI M5 (b0 + 20 + j3) 2 x2 = M6
    have hLM6 : ab_lay M6 := by rw [← eM6]; exact ab_lay.sI hLM5
    replace h := h M6 eM6.symm
    refine w_aload (n := 70) (i := 6) (by decide +kernel) rfl rfl ?_
    refine w_iload_n (n := 71) (i := 3) (by decide +kernel) rfl rfl ?_
    refine w_putI (n := 74) hLM6 (by decide +kernel) oO_19 fF_2_146 (af_E hb0 hj3) ⟨by decide, Or.inl (by decide)⟩ rfl ?_
    generalize eM7 : ak_sI M6 (b0 + 20 + j3) 3 x3 = M7
    have hLM7 : ab_lay M7 := by rw [← eM7]; exact ab_lay.sI hLM6
    replace h := h M7 eM7.symm
    refine w_aload (n := 76) (i := 6) (by decide +kernel) rfl rfl ?_
    refine w_iload (n := 78) (i := 4) (by decide +kernel) rfl rfl ?_
    refine w_putI (n := 81) hLM7 (by decide +kernel) oO_19 fF_2_149 (af_E hb0 hj3) ⟨by decide, Or.inl (by decide)⟩ rfl ?_
    generalize eM8 : ak_sI M7 (b0 + 20 + j3) 4 x4 = M8
    have hLM8 : ab_lay M8 := by rw [← eM8]; exact ab_lay.sI hLM7
    replace h := h M8 eM8.symm
    refine w_aload (n := 83) (i := 6) (by decide +kernel) rfl rfl ?_
    refine w_iload (n := 85) (i := 5) (by decide +kernel) rfl rfl ?_
    refine w_putI (n := 88) hLM8 (by decide +kernel) oO_19 fF_2_150 (af_E hb0 hj3) ⟨by decide, Or.inl (by decide)⟩ rfl ?_
    generalize eM9 : ak_sI M8 (b0 + 20 + j3) 5 x5 = M9
    have hLM9 : ab_lay M9 := by rw [← eM9]; exact ab_lay.sI hLM8
    replace h := h M9 eM9.symm
    subst h
    exact w_vreturn (by decide +kernel) (by decide +kernel)
theorem t_20 {X : ak_X} {M : ak_M} {r : ak_O × ak_M} (hL : ab_lay M) {b0 : Nat} (hb0 : b0 ∈ ab_fb) (x1 : Int32) (h : sg X 20 (2, [some (.ref b0), some (.int x1), some (.int 0)], [], []) M r) : rn X 20 [.ref b0, .int x1] M r := by
  refine w_rn (nL := 3) (l1 := [some (.ref b0), some (.int x1), none]) (by decide +kernel) rfl rfl ?_
  refine w_iconst (n := 1) (v := 0) (x := 0) (by decide +kernel) rfl (by decide) ?_
  refine w_istore_n (n := 2) (i := 2) (l1' := [some (.ref b0), some (.int x1), some (.int 0)]) (l2' := []) (by decide +kernel) rfl (Nat.le_of_ble_eq_true rfl) rfl rfl ?_
  exact h
theorem t_20_2 {X : ak_X} {M : ak_M} {r : ak_O × ak_M} (hL : ab_lay M) {b0 : Nat} (hb0 : b0 ∈ ab_fb) (x1 : Int32) (y2 : Int32) (h : (if x1 ≤ y2 then r = (.inl none, M) else (if 5000 ≤ ak_I M b0 9 then r = (.inl none, M) else (∃ (M1 : ak_M), ab_lay M1 ∧ rn X 21 [.ref b0] M (.inl (none), M1) ∧ sg X 20 (2, [some (.ref b0), some (.int x1), some (.int (y2 + 1))], [], []) M1 r)))) : sg X 20 (2, [some (.ref b0), some (.int x1), some (.int y2)], [], []) M r := by
  refine w_iload_n (n := 3) (i := 2) (by decide +kernel) rfl rfl ?_
  refine w_iload_n (n := 4) (i := 1) (by decide +kernel) rfl rfl ?_
  by_cases c4 : x1 ≤ y2
  · rw [if_pos c4] at h
    refine w_icmp_ge_j (n := 27) (off := 23) (by decide +kernel) (by decide) c4 ?_
    subst h
    exact w_vreturn (by decide +kernel) (by decide +kernel)
  · rw [if_neg c4] at h
    refine w_icmp_ge_n (n := 7) (off := 23) (by decide +kernel) rfl c4 ?_
    refine w_aload_n (n := 8) (i := 0) (by decide +kernel) rfl rfl ?_
    refine w_getI (n := 11) hL (by decide +kernel) oO_20 fF_2_62 (af_F hb0) (by decide) rfl ?_
    refine w_sipush (n := 14) (v := 5000) (x := 5000) (by decide +kernel) rfl (by decide) ?_
    by_cases c3 : 5000 ≤ ak_I M b0 9
    · rw [if_pos c3] at h
      refine w_icmp_ge_j (n := 27) (off := 13) (by decide +kernel) (by decide) c3 ?_
      subst h
      exact w_vreturn (by decide +kernel) (by decide +kernel)
    · rw [if_neg c3] at h
      refine w_icmp_ge_n (n := 17) (off := 13) (by decide +kernel) rfl c3 ?_
      refine w_aload_n (n := 18) (i := 0) (by decide +kernel) rfl rfl ?_
      obtain ⟨M1, hLM1, hr2, h⟩ := h
      refine w_cV (n := 21) (idx := 151) (cal := 21) (na := 0) (nl := 1) (as := []) (rest := []) hL (by decide +kernel) (by decide +kernel) (af_F hb0) (by decide +kernel) rfl rfl rfl (Nat.le_of_ble_eq_true rfl) rfl hr2 ?_
      refine w_iinc (n := 24) (i := 2) (v := 1) (y := y2 + 1) (l1' := [some (.ref b0), some (.int x1), some (.int (y2 + 1))]) (l2' := []) (by decide +kernel) rfl rfl rfl rfl rfl ?_
      refine w_goto (n := 2) (off := (-22)) (by decide +kernel) (by decide) ?_
      exact h
theorem t_21 {X : ak_X} {M : ak_M} {r : ak_O × ak_M} (hL : ab_lay M) {b0 : Nat} (hb0 : b0 ∈ ab_fb) (h : sg X 21 (4, [some (.ref b0), some (.int 0), some (.int 0)], [], []) M r) : rn X 21 [.ref b0] M r := by
  refine w_rn (nL := 3) (l1 := [some (.ref b0), none, none]) (by decide +kernel) rfl rfl ?_
  refine w_iconst (n := 1) (v := 0) (x := 0) (by decide +kernel) rfl (by decide) ?_
  refine w_istore_n (n := 2) (i := 1) (l1' := [some (.ref b0), some (.int 0), none]) (l2' := []) (by decide +kernel) rfl (Nat.le_of_ble_eq_true rfl) rfl rfl ?_
  refine w_iconst (n := 3) (v := 0) (x := 0) (by decide +kernel) rfl (by decide) ?_
  refine w_istore_n (n := 4) (i := 2) (l1' := [some (.ref b0), some (.int 0), some (.int 0)]) (l2' := []) (by decide +kernel) rfl (Nat.le_of_ble_eq_true rfl) rfl rfl ?_
  exact h
theorem t_21_4 {X : ak_X} {M : ak_M} {r : ak_O × ak_M} (hL : ab_lay M) {b0 : Nat} (hb0 : b0 ∈ ab_fb) (y1 : Int32) (y2 : Int32) (h : (if ak_I M b0 5 ≤ y2 then sg X 21 (39, [some (.ref b0), some (.int y1), some (.int 0)], [], []) M r else (∃ i1 : Nat, i1 < 10 ∧ ab_ix y2 i1 10 ∧ (if ak_I M (b0 + 6 + i1) 0 = 2 then (∀ z2 : Int32, z2 = y1 ||| (1 <<< (y2 &&& 31)) → sg X 21 (4, [some (.ref b0), some (.int z2), some (.int (y2 + 1))], [], []) M r) else sg X 21 (4, [some (.ref b0), some (.int y1), some (.int (y2 + 1))], [], []) M r)))) : sg X 21 (4, [some (.ref b0), some (.int y1), some (.int y2)], [], []) M r := by
  refine w_iload_n (n := 5) (i := 2) (by decide +kernel) rfl rfl ?_
  refine w_aload_n (n := 6) (i := 0) (by decide +kernel) rfl rfl ?_
  refine w_getI (n := 9) hL (by decide +kernel) oO_21 fF_2_49 (af_F hb0) (by decide) rfl ?_
  by_cases c4 : ak_I M b0 5 ≤ y2
  · rw [if_pos c4] at h
    refine w_icmp_ge_j (n := 37) (off := 28) (by decide +kernel) (by decide) c4 ?_
    refine w_iconst (n := 38) (v := 0) (x := 0) (by decide +kernel) rfl (by decide) ?_
    refine w_istore_n (n := 39) (i := 2) (l1' := [some (.ref b0), some (.int y1), some (.int 0)]) (l2' := []) (by decide +kernel) rfl (Nat.le_of_ble_eq_true rfl) rfl rfl ?_
    exact h
  · rw [if_neg c4] at h
    refine w_icmp_ge_n (n := 12) (off := 28) (by decide +kernel) rfl c4 ?_
    refine w_aload_n (n := 13) (i := 0) (by decide +kernel) rfl rfl ?_
    refine w_getR (n := 16) hL (by decide +kernel) oO_21 fF_2_11 (af_F hb0) (by decide) (ag_KA hb0) rfl ?_
    refine w_iload_n (n := 17) (i := 2) (by decide +kernel) rfl rfl ?_
    obtain ⟨i1, hi1, gi1, h⟩ := h
    refine w_aald (n := 18) hL (by decide +kernel) (af_KA hb0) (by decide) (ax_KA hb0) gi1 (ai_KA hb0 hi1) rfl ?_
    refine w_getI (n := 21) hL (by decide +kernel) oO_21 fF_2_85 (af_K hb0 hi1) (by decide) rfl ?_
    refine w_iconst (n := 22) (v := 2) (x := 2) (by decide +kernel) rfl (by decide) ?_
    by_cases c3 : ak_I M (b0 + 6 + i1) 0 = 2
    · rw [if_pos c3] at h
      refine w_icmp_ne_n (n := 25) (off := 9) (by decide +kernel) rfl c3 ?_
      refine w_iload_n (n := 26) (i := 1) (by decide +kernel) rfl rfl ?_
      refine w_iconst (n := 27) (v := 1) (x := 1) (by decide +kernel) rfl (by decide) ?_
      refine w_iload_n (n := 28) (i := 2) (by decide +kernel) rfl rfl ?_
      refine w_ishl (n := 29) (by decide +kernel) rfl ?_
      refine w_ior (n := 30) (by decide +kernel) rfl ?_
      refine w_istore_n (n := 31) (i := 1) (l1' := [some (.ref b0), some (.int (y1 ||| (1 <<< (y2 &&& 31)))), some (.int y2)]) (l2' := []) (by decide +kernel) rfl (Nat.le_of_ble_eq_true rfl) rfl rfl ?_
      generalize ez2 : y1 ||| (1 <<< (y2 &&& 31)) = z2
      replace h := h z2 ez2.symm
      refine w_iinc (n := 34) (i := 2) (v := 1) (y := y2 + 1) (l1' := [some (.ref b0), some (.int z2), some (.int (y2 + 1))]) (l2' := []) (by decide +kernel) rfl rfl rfl rfl rfl ?_
      refine w_goto (n := 4) (off := (-30)) (by decide +kernel) (by decide) ?_
      exact h
    · rw [if_neg c3] at h
      refine w_icmp_ne_j (n := 31) (off := 9) (by decide +kernel) (by decide) c3 ?_
      refine w_iinc (n := 34) (i := 2) (v := 1) (y := y2 + 1) (l1' := [some (.ref b0), some (.int y1), some (.int (y2 + 1))]) (l2' := []) (by decide +kernel) rfl rfl rfl rfl rfl ?_
      refine w_goto (n := 4) (off := (-30)) (by decide +kernel) (by decide) ?_
      exact h
theorem t_21_39 {X : ak_X} {M : ak_M} {r : ak_O × ak_M} (hL : ab_lay M) {b0 : Nat} (hb0 : b0 ∈ ab_fb) (y1 : Int32) (y2 : Int32) (h : (if ak_I M b0 5 ≤ y2 then (∃ (M5 : ak_M), ab_lay M5 ∧ rn X 23 [.ref b0] M (.inl (none), M5) ∧ (∃ (M6 : ak_M), ab_lay M6 ∧ rn X 25 [.ref b0] M5 (.inl (none), M6) ∧ sg X 21 (80, [some (.ref b0), some (.int y1), some (.int 0)], [], []) M6 r)) else (∃ i9 : Nat, i9 < 10 ∧ ab_ix y2 i9 10 ∧ (if ak_I M (b0 + 6 + i9) 0 = 0 then (∃ (M10 : ak_M), ab_lay M10 ∧ rn X 22 [.ref b0, .int y2] M (.inl (none), M10) ∧ sg X 21 (39, [some (.ref b0), some (.int y1), some (.int (y2 + 1))], [], []) M10 r) else sg X 21 (39, [some (.ref b0), some (.int y1), some (.int (y2 + 1))], [], []) M r)))) : sg X 21 (39, [some (.ref b0), some (.int y1), some (.int y2)], [], []) M r := by
  refine w_iload_n (n := 40) (i := 2) (by decide +kernel) rfl rfl ?_
  refine w_aload_n (n := 41) (i := 0) (by decide +kernel) rfl rfl ?_
  refine w_getI (n := 44) hL (by decide +kernel) oO_21 fF_2_49 (af_F hb0) (by decide) rfl ?_
  by_cases c13 : ak_I M b0 5 ≤ y2
  · rw [if_pos c13] at h
    refine w_icmp_ge_j (n := 70) (off := 26) (by decide +kernel) (by decide) c13 ?_
    refine w_aload_n (n := 71) (i := 0) (by decide +kernel) rfl rfl ?_
    obtain ⟨M5, hLM5, hr8, h⟩ := h
    refine w_cV (n := 74) (idx := 158) (cal := 23) (na := 0) (nl := 1) (as := []) (rest := []) hL (by decide +kernel) (by decide +kernel) (af_F hb0) (by decide +kernel) rfl rfl rfl (Nat.le_of_ble_eq_true rfl) rfl hr8 ?_
    refine w_aload_n (n := 75) (i := 0) (by decide +kernel) rfl rfl ?_
    obtain ⟨M6, hLM6, hr7, h⟩ := h
    refine w_cV (n := 78) (idx := 161) (cal := 25) (na := 0) (nl := 1) (as := []) (rest := []) hLM5 (by decide +kernel) (by decide +kernel) (af_F hb0) (by decide +kernel) rfl rfl rfl (Nat.le_of_ble_eq_true rfl) rfl hr7 ?_
    refine w_iconst (n := 79) (v := 0) (x := 0) (by decide +kernel) rfl (by decide) ?_
    refine w_istore_n (n := 80) (i := 2) (l1' := [some (.ref b0), some (.int y1), some (.int 0)]) (l2' := []) (by decide +kernel) rfl (Nat.le_of_ble_eq_true rfl) rfl rfl ?_
    exact h
  · rw [if_neg c13] at h
    refine w_icmp_ge_n (n := 47) (off := 26) (by decide +kernel) rfl c13 ?_
    refine w_aload_n (n := 48) (i := 0) (by decide +kernel) rfl rfl ?_
    refine w_getR (n := 51) hL (by decide +kernel) oO_21 fF_2_11 (af_F hb0) (by decide) (ag_KA hb0) rfl ?_
    refine w_iload_n (n := 52) (i := 2) (by decide +kernel) rfl rfl ?_
    obtain ⟨i9, hi9, gi9, h⟩ := h
    refine w_aald (n := 53) hL (by decide +kernel) (af_KA hb0) (by decide) (ax_KA hb0) gi9 (ai_KA hb0 hi9) rfl ?_
    refine w_getI (n := 56) hL (by decide +kernel) oO_21 fF_2_85 (af_K hb0 hi9) (by decide) rfl ?_
    by_cases c12 : ak_I M (b0 + 6 + i9) 0 = 0
    · rw [if_pos c12] at h
      refine w_if_ne_n (n := 59) (off := 8) (by decide +kernel) rfl c12 ?_
      refine w_aload_n (n := 60) (i := 0) (by decide +kernel) rfl rfl ?_
      refine w_iload_n (n := 61) (i := 2) (by decide +kernel) rfl rfl ?_
      obtain ⟨M10, hLM10, hr11, h⟩ := h
      refine w_cV (n := 64) (idx := 154) (cal := 22) (na := 1) (nl := 2) (as := [.int y2]) (rest := []) hL (by decide +kernel) (by decide +kernel) (af_F hb0) (by decide +kernel) rfl rfl rfl (Nat.le_of_ble_eq_true rfl) rfl hr11 ?_
      refine w_iinc (n := 67) (i := 2) (v := 1) (y := y2 + 1) (l1' := [some (.ref b0), some (.int y1), some (.int (y2 + 1))]) (l2' := []) (by decide +kernel) rfl rfl rfl rfl rfl ?_
      refine w_goto (n := 39) (off := (-28)) (by decide +kernel) (by decide) ?_
      exact h
    · rw [if_neg c12] at h
      refine w_if_ne_j (n := 64) (off := 8) (by decide +kernel) (by decide) c12 ?_
      refine w_iinc (n := 67) (i := 2) (v := 1) (y := y2 + 1) (l1' := [some (.ref b0), some (.int y1), some (.int (y2 + 1))]) (l2' := []) (by decide +kernel) rfl rfl rfl rfl rfl ?_
      refine w_goto (n := 39) (off := (-28)) (by decide +kernel) (by decide) ?_
      exact h
theorem t_21_80 {X : ak_X} {M : ak_M} {r : ak_O × ak_M} (hL : ab_lay M) {b0 : Nat} (hb0 : b0 ∈ ab_fb) (y1 : Int32) (y2 : Int32) (h : (if ak_I M b0 5 ≤ y2 then (∃ (M14 : ak_M), ab_lay M14 ∧ rn X 27 [.ref b0] M (.inl (none), M14) ∧ (∀ M15 : ak_M, M15 = ak_sI M14 b0 9 ((ak_I M14 b0 9) + 1) → r = (.inl none, M15))) else (if y1 &&& (1 <<< (y2 &&& 31)) = 0 then sg X 21 (80, [some (.ref b0), some (.int y1), some (.int (y2 + 1))], [], []) M r else (∃ (M17 : ak_M), ab_lay M17 ∧ rn X 26 [.ref b0, .int y2] M (.inl (none), M17) ∧ sg X 21 (80, [some (.ref b0), some (.int y1), some (.int (y2 + 1))], [], []) M17 r)))) : sg X 21 (80, [some (.ref b0), some (.int y1), some (.int y2)], [], []) M r := by
  refine w_iload_n (n := 81) (i := 2) (by decide +kernel) rfl rfl ?_
  refine w_aload_n (n := 82) (i := 0) (by decide +kernel) rfl rfl ?_
  refine w_getI (n := 85) hL (by decide +kernel) oO_21 fF_2_49 (af_F hb0) (by decide) rfl ?_
  by_cases c20 : ak_I M b0 5 ≤ y2
  · rw [if_pos c20] at h
    refine w_icmp_ge_j (n := 107) (off := 22) (by decide +kernel) (by decide) c20 ?_
    refine w_aload_n (n := 108) (i := 0) (by decide +kernel) rfl rfl ?_
    obtain ⟨M14, hLM14, hr16, h⟩ := h
    refine w_cV (n := 111) (idx := 167) (cal := 27) (na := 0) (nl := 1) (as := []) (rest := []) hL (by decide +kernel) (by decide +kernel) (af_F hb0) (by decide +kernel) rfl rfl rfl (Nat.le_of_ble_eq_true rfl) rfl hr16 ?_
    refine w_aload_n (n := 112) (i := 0) (by decide +kernel) rfl rfl ?_
    refine w_dup_ref (n := 113) (by decide +kernel) rfl ?_
    refine w_getI (n := 116) hLM14 (by decide +kernel) oO_21 fF_2_62 (af_F hb0) (by decide) rfl ?_
    refine w_iconst (n := 117) (v := 1) (x := 1) (by decide +kernel) rfl (by decide) ?_
    refine w_iadd (n := 118) (by decide +kernel) rfl ?_
    refine w_putI (n := 121) hLM14 (by decide +kernel) oO_21 fF_2_62 (af_F hb0) ⟨by decide, Or.inl (by decide)⟩ rfl ?_
    generalize eM15 : ak_sI M14 b0 9 ((ak_I M14 b0 9) + 1) = M15
    have hLM15 : ab_lay M15 := by rw [← eM15]; exact ab_lay.sI hLM14
    replace h := h M15 eM15.symm
    subst h
    exact w_vreturn (by decide +kernel) (by decide +kernel)
  · rw [if_neg c20] at h
    refine w_icmp_ge_n (n := 88) (off := 22) (by decide +kernel) rfl c20 ?_
    refine w_iload_n (n := 89) (i := 1) (by decide +kernel) rfl rfl ?_
    refine w_iconst (n := 90) (v := 1) (x := 1) (by decide +kernel) rfl (by decide) ?_
    refine w_iload_n (n := 91) (i := 2) (by decide +kernel) rfl rfl ?_
    refine w_ishl (n := 92) (by decide +kernel) rfl ?_
    refine w_iand (n := 93) (by decide +kernel) rfl ?_
    by_cases c19 : y1 &&& (1 <<< (y2 &&& 31)) = 0
    · rw [if_pos c19] at h
      refine w_if_eq_j (n := 101) (off := 8) (by decide +kernel) (by decide) c19 ?_
      refine w_iinc (n := 104) (i := 2) (v := 1) (y := y2 + 1) (l1' := [some (.ref b0), some (.int y1), some (.int (y2 + 1))]) (l2' := []) (by decide +kernel) rfl rfl rfl rfl rfl ?_
      refine w_goto (n := 80) (off := (-24)) (by decide +kernel) (by decide) ?_
      exact h
    · rw [if_neg c19] at h
      refine w_if_eq_n (n := 96) (off := 8) (by decide +kernel) rfl c19 ?_
      refine w_aload_n (n := 97) (i := 0) (by decide +kernel) rfl rfl ?_
      refine w_iload_n (n := 98) (i := 2) (by decide +kernel) rfl rfl ?_
      obtain ⟨M17, hLM17, hr18, h⟩ := h
      refine w_cV (n := 101) (idx := 164) (cal := 26) (na := 1) (nl := 2) (as := [.int y2]) (rest := []) hL (by decide +kernel) (by decide +kernel) (af_F hb0) (by decide +kernel) rfl rfl rfl (Nat.le_of_ble_eq_true rfl) rfl hr18 ?_
      refine w_iinc (n := 104) (i := 2) (v := 1) (y := y2 + 1) (l1' := [some (.ref b0), some (.int y1), some (.int (y2 + 1))]) (l2' := []) (by decide +kernel) rfl rfl rfl rfl rfl ?_
      refine w_goto (n := 80) (off := (-24)) (by decide +kernel) (by decide) ?_
      exact h
theorem t_22 {X : ak_X} {M : ak_M} {r : ak_O × ak_M} (hL : ab_lay M) {b0 : Nat} (hb0 : b0 ∈ ab_fb) (x1 : Int32) (h : (∃ i1 : Nat, i1 < 10 ∧ ab_ix x1 i1 10 ∧ (∃ (v3 : Int32) (M2 : ak_M), ab_lay M2 ∧ rn X 12 [.ref b0, .int (ak_I M (b0 + 6 + i1) 3)] M (.inl (some (.int v3)), M2) ∧ (∃ i4 : Nat, i4 < 4 ∧ ab_ix v3 i4 4 ∧ (∃ (v6 : Int32) (M5 : ak_M), ab_lay M5 ∧ rn X 152 [.int ((ak_I M2 (b0 + 6 + i1) 6) + (ak_I M2 (b0 + 6 + i1) 7)), .int 1, .int 400] M2 (.inl (some (.int v6)), M5) ∧ (∀ M7 : ak_M, M7 = ak_sI M5 (b0 + 6 + i1) 6 v6 → (∃ (M8 : ak_M), ab_lay M8 ∧ rn X 45 [.ref (b0 + 6 + i1), .ref (b0 + 16 + i4)] M7 (.inl (none), M8) ∧ (∃ (v10 : Int32) (M9 : ak_M), ab_lay M9 ∧ rn X 43 [.ref (b0 + 6 + i1)] M8 (.inl (some (.int v10)), M9) ∧ (∃ i11 : Nat, ab_ix 0 i11 6 ∧ (if ak_I M9 (b0 + 4) i11 < v10 then (∃ i12 : Nat, ab_ix 3 i12 6 ∧ (∃ (v14 : Int32) (M13 : ak_M), ab_lay M13 ∧ rn X 315 [.int 0, .int ((ak_I M9 (b0 + 6 + i1) 3) - (ak_I M9 (b0 + 4) i12))] M9 (.inl (some (.int v14)), M13) ∧ (∀ M15 : ak_M, M15 = ak_sI M13 (b0 + 6 + i1) 3 v14 → (∃ (M16 : ak_M), ab_lay M16 ∧ rn X 46 [.ref (b0 + 6 + i1)] M15 (.inl (none), M16) ∧ (if ak_I M16 (b0 + 6 + i1) 3 = 0 then (∀ M17 : ak_M, M17 = ak_sI M16 (b0 + 6 + i1) 0 1 → (∃ (M18 : ak_M), ab_lay M18 ∧ rn X 18 [.ref b0, .int 0, .int x1, .int ((-1))] M17 (.inl (none), M18) ∧ r = (.inl none, M18))) else r = (.inl none, M16)))))) else (if 0 ≤ ak_I M9 (b0 + 6 + i1) 7 then (∃ i23 : Nat, ab_ix 1 i23 6 ∧ (∃ (v25 : Int32) (M24 : ak_M), ab_lay M24 ∧ rn X 84 [.ref (b0 + 16 + i4)] M9 (.inl (some (.int v25)), M24) ∧ (∃ (v27 : Int32) (M26 : ak_M), ab_lay M26 ∧ rn X 316 [.int 300, .int (((ak_I M9 (b0 + 6 + i1) 3) + ((ak_I M9 (b0 + 4) i23) * v25)) + 0)] M24 (.inl (some (.int v27)), M26) ∧ (∀ M28 : ak_M, M28 = ak_sI M26 (b0 + 6 + i1) 3 v27 → (∃ (M29 : ak_M), ab_lay M29 ∧ rn X 46 [.ref (b0 + 6 + i1)] M28 (.inl (none), M29) ∧ (if ak_I M29 (b0 + 6 + i1) 3 = 0 then (∀ M30 : ak_M, M30 = ak_sI M29 (b0 + 6 + i1) 0 1 → (∃ (M31 : ak_M), ab_lay M31 ∧ rn X 18 [.ref b0, .int 0, .int x1, .int ((-1))] M30 (.inl (none), M31) ∧ r = (.inl none, M31))) else r = (.inl none, M29))))))) else (∃ i37 : Nat, ab_ix 2 i37 6 ∧ (∃ i38 : Nat, ab_ix 1 i38 6 ∧ (∃ (v40 : Int32) (M39 : ak_M), ab_lay M39 ∧ rn X 84 [.ref (b0 + 16 + i4)] M9 (.inl (some (.int v40)), M39) ∧ (∃ (v42 : Int32) (M41 : ak_M), ab_lay M41 ∧ rn X 316 [.int 300, .int (((ak_I M9 (b0 + 6 + i1) 3) + ((ak_I M9 (b0 + 4) i38) * v40)) + (ak_I M9 (b0 + 4) i37))] M39 (.inl (some (.int v42)), M41) ∧ (∀ M43 : ak_M, M43 = ak_sI M41 (b0 + 6 + i1) 3 v42 → (∃ (M44 : ak_M), ab_lay M44 ∧ rn X 46 [.ref (b0 + 6 + i1)] M43 (.inl (none), M44) ∧ (if ak_I M44 (b0 + 6 + i1) 3 = 0 then (∀ M45 : ak_M, M45 = ak_sI M44 (b0 + 6 + i1) 0 1 → (∃ (M46 : ak_M), ab_lay M46 ∧ rn X 18 [.ref b0, .int 0, .int x1, .int ((-1))] M45 (.inl (none), M46) ∧ r = (.inl none, M46))) else r = (.inl none, M44))))))))))))))))))) : rn X 22 [.ref b0, .int x1] M r := by
  refine w_rn (nL := 5) (l1 := [some (.ref b0), some (.int x1), none, none, none]) (by decide +kernel) rfl rfl ?_
  refine w_aload_n (n := 1) (i := 0) (by decide +kernel) rfl rfl ?_
  refine w_getR (n := 4) hL (by decide +kernel) oO_22 fF_2_11 (af_F hb0) (by decide) (ag_KA hb0) rfl ?_
  refine w_iload_n (n := 5) (i := 1) (by decide +kernel) rfl rfl ?_
  obtain ⟨i1, hi1, gi1, h⟩ := h
  refine w_aald (n := 6) hL (by decide +kernel) (af_KA hb0) (by decide) (ax_KA hb0) gi1 (ai_KA hb0 hi1) rfl ?_
  refine w_astore_n (n := 7) (i := 2) (l1' := [some (.ref b0), some (.int x1), some (.ref (b0 + 6 + i1)), none, none]) (l2' := []) (by decide +kernel) rfl (Nat.le_of_ble_eq_true rfl) rfl rfl ?_
  refine w_aload_n (n := 8) (i := 0) (by decide +kernel) rfl rfl ?_
  refine w_getR (n := 11) hL (by decide +kernel) oO_22 fF_2_19 (af_F hb0) (by decide) (ag_WA hb0) rfl ?_
  refine w_aload_n (n := 12) (i := 0) (by decide +kernel) rfl rfl ?_
  refine w_aload_n (n := 13) (i := 2) (by decide +kernel) rfl rfl ?_
  refine w_getI (n := 16) hL (by decide +kernel) oO_22 fF_2_170 (af_K hb0 hi1) (by decide) rfl ?_
  obtain ⟨v3, M2, hLM2, hr57, h⟩ := h
  refine w_cV (n := 19) (idx := 173) (cal := 12) (na := 1) (nl := 2) (as := [.int (ak_I M (b0 + 6 + i1) 3)]) (rest := [.ref (b0 + 2)]) hL (by decide +kernel) (by decide +kernel) (af_F hb0) (by decide +kernel) rfl rfl rfl (Nat.le_of_ble_eq_true rfl) rfl hr57 ?_
  obtain ⟨i4, hi4, gi4, h⟩ := h
  refine w_aald (n := 20) hLM2 (by decide +kernel) (af_WA hb0) (by decide) (ax_WA hb0) gi4 (ai_WA hb0 hi4) rfl ?_
  refine w_astore_n (n := 21) (i := 3) (l1' := [some (.ref b0), some (.int x1), some (.ref (b0 + 6 + i1)), some (.ref (b0 + 16 + i4)), none]) (l2' := []) (by decide +kernel) rfl (Nat.le_of_ble_eq_true rfl) rfl rfl ?_
  refine w_aload_n (n := 22) (i := 2) (by decide +kernel) rfl rfl ?_
  refine w_aload_n (n := 23) (i := 2) (by decide +kernel) rfl rfl ?_
  refine w_getI (n := 26) hLM2 (by decide +kernel) oO_22 fF_2_176 (af_K hb0 hi1) (by decide) rfl ?_
  refine w_aload_n (n := 27) (i := 2) (by decide +kernel) rfl rfl ?_
  refine w_getI (n := 30) hLM2 (by decide +kernel) oO_22 fF_2_179 (af_K hb0 hi1) (by decide) rfl ?_
  refine w_iadd (n := 31) (by decide +kernel) rfl ?_
  refine w_iconst (n := 32) (v := 1) (x := 1) (by decide +kernel) rfl (by decide) ?_
  refine w_sipush (n := 35) (v := 400) (x := 400) (by decide +kernel) rfl (by decide) ?_
  obtain ⟨v6, M5, hLM5, hr56, h⟩ := h
  refine w_cS (n := 38) (idx := 182) (cal := 152) (na := 3) (nl := 3) (as := [.int ((ak_I M2 (b0 + 6 + i1) 6) + (ak_I M2 (b0 + 6 + i1) 7)), .int 1, .int 400]) (rest := [.ref (b0 + 6 + i1)]) (by decide +kernel) (by decide +kernel) rfl rfl rfl (Nat.le_of_ble_eq_true rfl) rfl hr56 ?_
  refine w_putI (n := 41) hLM5 (by decide +kernel) oO_22 fF_2_176 (af_K hb0 hi1) ⟨by decide, Or.inl (by decide)⟩ rfl ?_
  generalize eM7 : ak_sI M5 (b0 + 6 + i1) 6 v6 = M7
  have hLM7 : ab_lay M7 := by rw [← eM7]; exact ab_lay.sI hLM5
  replace h := h M7 eM7.symm
  refine w_aload_n (n := 42) (i := 2) (by decide +kernel) rfl rfl ?_
  refine w_aload_n (n := 43) (i := 3) (by decide +kernel) rfl rfl ?_
  obtain ⟨M8, hLM8, hr55, h⟩ := h
  refine w_cV (n := 46) (idx := 186) (cal := 45) (na := 1) (nl := 2) (as := [.ref (b0 + 16 + i4)]) (rest := []) hLM7 (by decide +kernel) (by decide +kernel) (af_K hb0 hi1) (by decide +kernel) rfl rfl rfl (Nat.le_of_ble_eq_true rfl) rfl hr55 ?_
  refine w_aload_n (n := 47) (i := 2) (by decide +kernel) rfl rfl ?_
  obtain ⟨v10, M9, hLM9, hr54, h⟩ := h
  refine w_cV (n := 50) (idx := 189) (cal := 43) (na := 0) (nl := 1) (as := []) (rest := []) hLM8 (by decide +kernel) (by decide +kernel) (af_K hb0 hi1) (by decide +kernel) rfl rfl rfl (Nat.le_of_ble_eq_true rfl) rfl hr54 ?_
  refine w_aload_n (n := 51) (i := 0) (by decide +kernel) rfl rfl ?_
  refine w_getR (n := 54) hLM9 (by decide +kernel) oO_22 fF_2_29 (af_F hb0) (by decide) (ag_SA hb0) rfl ?_
  refine w_iconst (n := 55) (v := 0) (x := 0) (by decide +kernel) rfl (by decide) ?_
  obtain ⟨i11, gi11, h⟩ := h
  refine w_iald (n := 56) hLM9 (by decide +kernel) (af_SA hb0) (ax_SA hb0) gi11 rfl ?_
  by_cases c53 : ak_I M9 (b0 + 4) i11 < v10
  · rw [if_pos c53] at h
    refine w_icmp_gt_j (n := 110) (off := 54) (by decide +kernel) (by decide) c53 ?_
    refine w_aload_n (n := 111) (i := 2) (by decide +kernel) rfl rfl ?_
    refine w_iconst (n := 112) (v := 0) (x := 0) (by decide +kernel) rfl (by decide) ?_
    refine w_aload_n (n := 113) (i := 2) (by decide +kernel) rfl rfl ?_
    refine w_getI (n := 116) hLM9 (by decide +kernel) oO_22 fF_2_170 (af_K hb0 hi1) (by decide) rfl ?_
    refine w_aload_n (n := 117) (i := 0) (by decide +kernel) rfl rfl ?_
    refine w_getR (n := 120) hLM9 (by decide +kernel) oO_22 fF_2_29 (af_F hb0) (by decide) (ag_SA hb0) rfl ?_
    refine w_iconst (n := 121) (v := 3) (x := 3) (by decide +kernel) rfl (by decide) ?_
    obtain ⟨i12, gi12, h⟩ := h
    refine w_iald (n := 122) hLM9 (by decide +kernel) (af_SA hb0) (ax_SA hb0) gi12 rfl ?_
    refine w_isub (n := 123) (by decide +kernel) rfl ?_
    obtain ⟨v14, M13, hLM13, hr22, h⟩ := h
    refine w_cS (n := 126) (idx := 97) (cal := 315) (na := 2) (nl := 2) (as := [.int 0, .int ((ak_I M9 (b0 + 6 + i1) 3) - (ak_I M9 (b0 + 4) i12))]) (rest := [.ref (b0 + 6 + i1)]) (by decide +kernel) (by decide +kernel) rfl rfl rfl (Nat.le_of_ble_eq_true rfl) rfl hr22 ?_
    refine w_putI (n := 129) hLM13 (by decide +kernel) oO_22 fF_2_170 (af_K hb0 hi1) ⟨by decide, Or.inl (by decide)⟩ rfl ?_
    generalize eM15 : ak_sI M13 (b0 + 6 + i1) 3 v14 = M15
    have hLM15 : ab_lay M15 := by rw [← eM15]; exact ab_lay.sI hLM13
    replace h := h M15 eM15.symm
    refine w_aload_n (n := 130) (i := 2) (by decide +kernel) rfl rfl ?_
    obtain ⟨M16, hLM16, hr21, h⟩ := h
    refine w_cV (n := 133) (idx := 195) (cal := 46) (na := 0) (nl := 1) (as := []) (rest := []) hLM15 (by decide +kernel) (by decide +kernel) (af_K hb0 hi1) (by decide +kernel) rfl rfl rfl (Nat.le_of_ble_eq_true rfl) rfl hr21 ?_
    refine w_aload_n (n := 134) (i := 2) (by decide +kernel) rfl rfl ?_
    refine w_getI (n := 137) hLM16 (by decide +kernel) oO_22 fF_2_170 (af_K hb0 hi1) (by decide) rfl ?_
    by_cases c20 : ak_I M16 (b0 + 6 + i1) 3 = 0
    · rw [if_pos c20] at h
      refine w_if_ne_n (n := 140) (off := 15) (by decide +kernel) rfl c20 ?_
      refine w_aload_n (n := 141) (i := 2) (by decide +kernel) rfl rfl ?_
      refine w_iconst (n := 142) (v := 1) (x := 1) (by decide +kernel) rfl (by decide) ?_
      refine w_putI (n := 145) hLM16 (by decide +kernel) oO_22 fF_2_85 (af_K hb0 hi1) ⟨by decide, Or.inl (by decide)⟩ rfl ?_
      generalize eM17 : ak_sI M16 (b0 + 6 + i1) 0 1 = M17
      have hLM17 : ab_lay M17 := by rw [← eM17]; exact ab_lay.sI hLM16
      replace h := h M17 eM17.symm
      refine w_aload_n (n := 146) (i := 0) (by decide +kernel) rfl rfl ?_
      refine w_iconst (n := 147) (v := 0) (x := 0) (by decide +kernel) rfl (by decide) ?_
      refine w_iload_n (n := 148) (i := 1) (by decide +kernel) rfl rfl ?_
      refine w_iconst (n := 149) (v := -1) (x := (-1)) (by decide +kernel) rfl (by decide) ?_
      obtain ⟨M18, hLM18, hr19, h⟩ := h
      refine w_cV (n := 152) (idx := 198) (cal := 18) (na := 3) (nl := 4) (as := [.int 0, .int x1, .int ((-1))]) (rest := []) hLM17 (by decide +kernel) (by decide +kernel) (af_F hb0) (by decide +kernel) rfl rfl rfl (Nat.le_of_ble_eq_true rfl) rfl hr19 ?_
      subst h
      exact w_vreturn (by decide +kernel) (by decide +kernel)
    · rw [if_neg c20] at h
      refine w_if_ne_j (n := 152) (off := 15) (by decide +kernel) (by decide) c20 ?_
      subst h
      exact w_vreturn (by decide +kernel) (by decide +kernel)
  · rw [if_neg c53] at h
    refine w_icmp_gt_n (n := 59) (off := 54) (by decide +kernel) rfl c53 ?_
    refine w_aload_n (n := 60) (i := 2) (by decide +kernel) rfl rfl ?_
    refine w_getI (n := 63) hLM9 (by decide +kernel) oO_22 fF_2_179 (af_K hb0 hi1) (by decide) rfl ?_
    by_cases c52 : 0 ≤ ak_I M9 (b0 + 6 + i1) 7
    · rw [if_pos c52] at h
      refine w_if_ge_j (n := 75) (off := 12) (by decide +kernel) (by decide) c52 ?_
      refine w_iconst (n := 76) (v := 0) (x := 0) (by decide +kernel) rfl (by decide) ?_
      refine w_istore (n := 78) (i := 4) (l1' := [some (.ref b0), some (.int x1), some (.ref (b0 + 6 + i1)), some (.ref (b0 + 16 + i4)), some (.int 0)]) (l2' := []) (by decide +kernel) rfl (Nat.le_of_ble_eq_true rfl) rfl rfl ?_
      refine w_aload_n (n := 79) (i := 2) (by decide +kernel) rfl rfl ?_
      refine w_sipush (n := 82) (v := 300) (x := 300) (by decide +kernel) rfl (by decide) ?_
      refine w_aload_n (n := 83) (i := 2) (by decide +kernel) rfl rfl ?_
      refine w_getI (n := 86) hLM9 (by decide +kernel) oO_22 fF_2_170 (af_K hb0 hi1) (by decide) rfl ?_
      refine w_aload_n (n := 87) (i := 0) (by decide +kernel) rfl rfl ?_
      refine w_getR (n := 90) hLM9 (by decide +kernel) oO_22 fF_2_29 (af_F hb0) (by decide) (ag_SA hb0) rfl ?_
      refine w_iconst (n := 91) (v := 1) (x := 1) (by decide +kernel) rfl (by decide) ?_
      obtain ⟨i23, gi23, h⟩ := h
      refine w_iald (n := 92) hLM9 (by decide +kernel) (af_SA hb0) (ax_SA hb0) gi23 rfl ?_
      refine w_aload_n (n := 93) (i := 3) (by decide +kernel) rfl rfl ?_
      obtain ⟨v25, M24, hLM24, hr36, h⟩ := h
      refine w_cV (n := 96) (idx := 192) (cal := 84) (na := 0) (nl := 1) (as := []) (rest := [.int (ak_I M9 (b0 + 4) i23), .int (ak_I M9 (b0 + 6 + i1) 3), .int 300, .ref (b0 + 6 + i1)]) hLM9 (by decide +kernel) (by decide +kernel) (af_W hb0 hi4) (by decide +kernel) rfl rfl rfl (Nat.le_of_ble_eq_true rfl) rfl hr36 ?_
      refine w_imul (n := 97) (by decide +kernel) rfl ?_
      refine w_iadd (n := 98) (by decide +kernel) rfl ?_
      refine w_iload (n := 100) (i := 4) (by decide +kernel) rfl rfl ?_
      refine w_iadd (n := 101) (by decide +kernel) rfl ?_
      obtain ⟨v27, M26, hLM26, hr35, h⟩ := h
      refine w_cS (n := 104) (idx := 91) (cal := 316) (na := 2) (nl := 2) (as := [.int 300, .int (((ak_I M9 (b0 + 6 + i1) 3) + ((ak_I M9 (b0 + 4) i23) * v25)) + 0)]) (rest := [.ref (b0 + 6 + i1)]) (by decide +kernel) (by decide +kernel) rfl rfl rfl (Nat.le_of_ble_eq_true rfl) rfl hr35 ?_
      refine w_putI (n := 107) hLM26 (by decide +kernel) oO_22 fF_2_170 (af_K hb0 hi1) ⟨by decide, Or.inl (by decide)⟩ rfl ?_
      generalize eM28 : ak_sI M26 (b0 + 6 + i1) 3 v27 = M28
      have hLM28 : ab_lay M28 := by rw [← eM28]; exact ab_lay.sI hLM26
      replace h := h M28 eM28.symm
      refine w_goto (n := 129) (off := 22) (by decide +kernel) (by decide) ?_
      refine w_aload_n (n := 130) (i := 2) (by decide +kernel) rfl rfl ?_
      obtain ⟨M29, hLM29, hr34, h⟩ := h
      refine w_cV (n := 133) (idx := 195) (cal := 46) (na := 0) (nl := 1) (as := []) (rest := []) hLM28 (by decide +kernel) (by decide +kernel) (af_K hb0 hi1) (by decide +kernel) rfl rfl rfl (Nat.le_of_ble_eq_true rfl) rfl hr34 ?_
      refine w_aload_n (n := 134) (i := 2) (by decide +kernel) rfl rfl ?_
      refine w_getI (n := 137) hLM29 (by decide +kernel) oO_22 fF_2_170 (af_K hb0 hi1) (by decide) rfl ?_
      by_cases c33 : ak_I M29 (b0 + 6 + i1) 3 = 0
      · rw [if_pos c33] at h
        refine w_if_ne_n (n := 140) (off := 15) (by decide +kernel) rfl c33 ?_
        refine w_aload_n (n := 141) (i := 2) (by decide +kernel) rfl rfl ?_
        refine w_iconst (n := 142) (v := 1) (x := 1) (by decide +kernel) rfl (by decide) ?_
        refine w_putI (n := 145) hLM29 (by decide +kernel) oO_22 fF_2_85 (af_K hb0 hi1) ⟨by decide, Or.inl (by decide)⟩ rfl ?_
        generalize eM30 : ak_sI M29 (b0 + 6 + i1) 0 1 = M30
        have hLM30 : ab_lay M30 := by rw [← eM30]; exact ab_lay.sI hLM29
        replace h := h M30 eM30.symm
        refine w_aload_n (n := 146) (i := 0) (by decide +kernel) rfl rfl ?_
        refine w_iconst (n := 147) (v := 0) (x := 0) (by decide +kernel) rfl (by decide) ?_
        refine w_iload_n (n := 148) (i := 1) (by decide +kernel) rfl rfl ?_
        refine w_iconst (n := 149) (v := -1) (x := (-1)) (by decide +kernel) rfl (by decide) ?_
        obtain ⟨M31, hLM31, hr32, h⟩ := h
        refine w_cV (n := 152) (idx := 198) (cal := 18) (na := 3) (nl := 4) (as := [.int 0, .int x1, .int ((-1))]) (rest := []) hLM30 (by decide +kernel) (by decide +kernel) (af_F hb0) (by decide +kernel) rfl rfl rfl (Nat.le_of_ble_eq_true rfl) rfl hr32 ?_
        subst h
        exact w_vreturn (by decide +kernel) (by decide +kernel)
      · rw [if_neg c33] at h
        refine w_if_ne_j (n := 152) (off := 15) (by decide +kernel) (by decide) c33 ?_
        subst h
        exact w_vreturn (by decide +kernel) (by decide +kernel)
    · rw [if_neg c52] at h
      refine w_if_ge_n (n := 66) (off := 12) (by decide +kernel) rfl c52 ?_
      refine w_aload_n (n := 67) (i := 0) (by decide +kernel) rfl rfl ?_
      refine w_getR (n := 70) hLM9 (by decide +kernel) oO_22 fF_2_29 (af_F hb0) (by decide) (ag_SA hb0) rfl ?_
      refine w_iconst (n := 71) (v := 2) (x := 2) (by decide +kernel) rfl (by decide) ?_
      obtain ⟨i37, gi37, h⟩ := h
      refine w_iald (n := 72) hLM9 (by decide +kernel) (af_SA hb0) (ax_SA hb0) gi37 rfl ?_
      refine w_goto (n := 76) (off := 4) (by decide +kernel) (by decide) ?_
      refine w_istore (n := 78) (i := 4) (l1' := [some (.ref b0), some (.int x1), some (.ref (b0 + 6 + i1)), some (.ref (b0 + 16 + i4)), some (.int (ak_I M9 (b0 + 4) i37))]) (l2' := []) (by decide +kernel) rfl (Nat.le_of_ble_eq_true rfl) rfl rfl ?_
      refine w_aload_n (n := 79) (i := 2) (by decide +kernel) rfl rfl ?_
      refine w_sipush (n := 82) (v := 300) (x := 300) (by decide +kernel) rfl (by decide) ?_
      refine w_aload_n (n := 83) (i := 2) (by decide +kernel) rfl rfl ?_
      refine w_getI (n := 86) hLM9 (by decide +kernel) oO_22 fF_2_170 (af_K hb0 hi1) (by decide) rfl ?_
      refine w_aload_n (n := 87) (i := 0) (by decide +kernel) rfl rfl ?_
      refine w_getR (n := 90) hLM9 (by decide +kernel) oO_22 fF_2_29 (af_F hb0) (by decide) (ag_SA hb0) rfl ?_
      refine w_iconst (n := 91) (v := 1) (x := 1) (by decide +kernel) rfl (by decide) ?_
      obtain ⟨i38, gi38, h⟩ := h
      refine w_iald (n := 92) hLM9 (by decide +kernel) (af_SA hb0) (ax_SA hb0) gi38 rfl ?_
      refine w_aload_n (n := 93) (i := 3) (by decide +kernel) rfl rfl ?_
      obtain ⟨v40, M39, hLM39, hr51, h⟩ := h
      refine w_cV (n := 96) (idx := 192) (cal := 84) (na := 0) (nl := 1) (as := []) (rest := [.int (ak_I M9 (b0 + 4) i38), .int (ak_I M9 (b0 + 6 + i1) 3), .int 300, .ref (b0 + 6 + i1)]) hLM9 (by decide +kernel) (by decide +kernel) (af_W hb0 hi4) (by decide +kernel) rfl rfl rfl (Nat.le_of_ble_eq_true rfl) rfl hr51 ?_
      refine w_imul (n := 97) (by decide +kernel) rfl ?_
      refine w_iadd (n := 98) (by decide +kernel) rfl ?_
      refine w_iload (n := 100) (i := 4) (by decide +kernel) rfl rfl ?_
      refine w_iadd (n := 101) (by decide +kernel) rfl ?_
      obtain ⟨v42, M41, hLM41, hr50, h⟩ := h
      refine w_cS (n := 104) (idx := 91) (cal := 316) (na := 2) (nl := 2) (as := [.int 300, .int (((ak_I M9 (b0 + 6 + i1) 3) + ((ak_I M9 (b0 + 4) i38) * v40)) + (ak_I M9 (b0 + 4) i37))]) (rest := [.ref (b0 + 6 + i1)]) (by decide +kernel) (by decide +kernel) rfl rfl rfl (Nat.le_of_ble_eq_true rfl) rfl hr50 ?_
      refine w_putI (n := 107) hLM41 (by decide +kernel) oO_22 fF_2_170 (af_K hb0 hi1) ⟨by decide, Or.inl (by decide)⟩ rfl ?_
      generalize eM43 : ak_sI M41 (b0 + 6 + i1) 3 v42 = M43
      have hLM43 : ab_lay M43 := by rw [← eM43]; exact ab_lay.sI hLM41
      replace h := h M43 eM43.symm
      refine w_goto (n := 129) (off := 22) (by decide +kernel) (by decide) ?_
      refine w_aload_n (n := 130) (i := 2) (by decide +kernel) rfl rfl ?_
      obtain ⟨M44, hLM44, hr49, h⟩ := h
      refine w_cV (n := 133) (idx := 195) (cal := 46) (na := 0) (nl := 1) (as := []) (rest := []) hLM43 (by decide +kernel) (by decide +kernel) (af_K hb0 hi1) (by decide +kernel) rfl rfl rfl (Nat.le_of_ble_eq_true rfl) rfl hr49 ?_
      refine w_aload_n (n := 134) (i := 2) (by decide +kernel) rfl rfl ?_
      refine w_getI (n := 137) hLM44 (by decide +kernel) oO_22 fF_2_170 (af_K hb0 hi1) (by decide) rfl ?_
      by_cases c48 : ak_I M44 (b0 + 6 + i1) 3 = 0
      · rw [if_pos c48] at h
        refine w_if_ne_n (n := 140) (off := 15) (by decide +kernel) rfl c48 ?_
        refine w_aload_n (n := 141) (i := 2) (by decide +kernel) rfl rfl ?_
        refine w_iconst (n := 142) (v := 1) (x := 1) (by decide +kernel) rfl (by decide) ?_
        refine w_putI (n := 145) hLM44 (by decide +kernel) oO_22 fF_2_85 (af_K hb0 hi1) ⟨by decide, Or.inl (by decide)⟩ rfl ?_
        generalize eM45 : ak_sI M44 (b0 + 6 + i1) 0 1 = M45
        have hLM45 : ab_lay M45 := by rw [← eM45]; exact ab_lay.sI hLM44
        replace h := h M45 eM45.symm
        refine w_aload_n (n := 146) (i := 0) (by decide +kernel) rfl rfl ?_
        refine w_iconst (n := 147) (v := 0) (x := 0) (by decide +kernel) rfl (by decide) ?_
        refine w_iload_n (n := 148) (i := 1) (by decide +kernel) rfl rfl ?_
        refine w_iconst (n := 149) (v := -1) (x := (-1)) (by decide +kernel) rfl (by decide) ?_
        obtain ⟨M46, hLM46, hr47, h⟩ := h
        refine w_cV (n := 152) (idx := 198) (cal := 18) (na := 3) (nl := 4) (as := [.int 0, .int x1, .int ((-1))]) (rest := []) hLM45 (by decide +kernel) (by decide +kernel) (af_F hb0) (by decide +kernel) rfl rfl rfl (Nat.le_of_ble_eq_true rfl) rfl hr47 ?_
        subst h
        exact w_vreturn (by decide +kernel) (by decide +kernel)
      · rw [if_neg c48] at h
        refine w_if_ne_j (n := 152) (off := 15) (by decide +kernel) (by decide) c48 ?_
        subst h
        exact w_vreturn (by decide +kernel) (by decide +kernel)
theorem t_23 {X : ak_X} {M : ak_M} {r : ak_O × ak_M} (hL : ab_lay M) {b0 : Nat} (hb0 : b0 ∈ ab_fb) (h : sg X 23 (2, [some (.ref b0), some (.int 0), none, none], [], []) M r) : rn X 23 [.ref b0] M r := by
  refine w_rn (nL := 4) (l1 := [some (.ref b0), none, none, none]) (by decide +kernel) rfl rfl ?_
  refine w_iconst (n := 1) (v := 0) (x := 0) (by decide +kernel) rfl (by decide) ?_
  refine w_istore_n (n := 2) (i := 1) (l1' := [some (.ref b0), some (.int 0), none, none]) (l2' := []) (by decide +kernel) rfl (Nat.le_of_ble_eq_true rfl) rfl rfl ?_
  exact h
theorem t_23_2 {X : ak_X} {M : ak_M} {r : ak_O × ak_M} (hL : ab_lay M) {b0 : Nat} (hb0 : b0 ∈ ab_fb) (y1 : Int32) (o2 : Option Value) (o3 : Option Value) (h : (if ak_I M b0 5 ≤ y1 then sg X 23 (38, [some (.ref b0), some (.int 0), o2, o3], [], []) M r else (∃ i1 : Nat, i1 < 10 ∧ ab_ix y1 i1 10 ∧ (∀ M2 : ak_M, M2 = ak_sI M (b0 + 6 + i1) 14 0 → (∃ i3 : Nat, i3 < 10 ∧ ab_ix y1 i3 10 ∧ (∀ M4 : ak_M, M4 = ak_sI M2 (b0 + 6 + i3) 15 ((-1)) → sg X 23 (2, [some (.ref b0), some (.int (y1 + 1)), o2, o3], [], []) M4 r)))))) : sg X 23 (2, [some (.ref b0), some (.int y1), o2, o3], [], []) M r := by
  refine w_iload_n (n := 3) (i := 1) (by decide +kernel) rfl rfl ?_
  refine w_aload_n (n := 4) (i := 0) (by decide +kernel) rfl rfl ?_
  refine w_getI (n := 7) hL (by decide +kernel) oO_23 fF_2_49 (af_F hb0) (by decide) rfl ?_
  by_cases c5 : ak_I M b0 5 ≤ y1
  · rw [if_pos c5] at h
    refine w_icmp_ge_j (n := 36) (off := 29) (by decide +kernel) (by decide) c5 ?_
    refine w_iconst (n := 37) (v := 0) (x := 0) (by decide +kernel) rfl (by decide) ?_
    refine w_istore_n (n := 38) (i := 1) (l1' := [some (.ref b0), some (.int 0), o2, o3]) (l2' := []) (by decide +kernel) rfl (Nat.le_of_ble_eq_true rfl) rfl rfl ?_
    exact h
  · rw [if_neg c5] at h
    refine w_icmp_ge_n (n := 10) (off := 29) (by decide +kernel) rfl c5 ?_
    refine w_aload_n (n := 11) (i := 0) (by decide +kernel) rfl rfl ?_
    refine w_getR (n := 14) hL (by decide +kernel) oO_23 fF_2_11 (af_F hb0) (by decide) (ag_KA hb0) rfl ?_
    refine w_iload_n (n := 15) (i := 1) (by decide +kernel) rfl rfl ?_
    obtain ⟨i1, hi1, gi1, h⟩ := h
    refine w_aald (n := 16) hL (by decide +kernel) (af_KA hb0) (by decide) (ax_KA hb0) gi1 (ai_KA hb0 hi1) rfl ?_
    refine w_iconst (n := 17) (v := 0) (x := 0) (by decide +kernel) rfl (by decide) ?_
    refine w_putI (n := 20) hL (by decide +kernel) oO_23 fF_2_201 (af_K hb0 hi1) ⟨by decide, Or.inl (by decide)⟩ rfl ?_
    generalize eM2 : ak_sI M (b0 + 6 + i1) 14 0 = M2
    have hLM2 : ab_lay M2 := by rw [← eM2]; exact ab_lay.sI hL
    replace h := h M2 eM2.symm
    refine w_aload_n (n := 21) (i := 0) (by decide +kernel) rfl rfl ?_
    refine w_getR (n := 24) hLM2 (by decide +kernel) oO_23 fF_2_11 (af_F hb0) (by decide) (ag_KA hb0) rfl ?_
    refine w_iload_n (n := 25) (i := 1) (by decide +kernel) rfl rfl ?_
    obtain ⟨i3, hi3, gi3, h⟩ := h
    refine w_aald (n := 26) hLM2 (by decide +kernel) (af_KA hb0) (by decide) (ax_KA hb0) gi3 (ai_KA hb0 hi3) rfl ?_
    refine w_iconst (n := 27) (v := -1) (x := (-1)) (by decide +kernel) rfl (by decide) ?_
    refine w_putI (n := 30) hLM2 (by decide +kernel) oO_23 fF_2_204 (af_K hb0 hi3) ⟨by decide, Or.inl (by decide)⟩ rfl ?_
    generalize eM4 : ak_sI M2 (b0 + 6 + i3) 15 ((-1)) = M4
    have hLM4 : ab_lay M4 := by rw [← eM4]; exact ab_lay.sI hLM2
    replace h := h M4 eM4.symm
    refine w_iinc (n := 33) (i := 1) (v := 1) (y := y1 + 1) (l1' := [some (.ref b0), some (.int (y1 + 1)), o2, o3]) (l2' := []) (by decide +kernel) rfl rfl rfl rfl rfl ?_
    refine w_goto (n := 2) (off := (-31)) (by decide +kernel) (by decide) ?_
    exact h
theorem t_23_38 {X : ak_X} {M : ak_M} {r : ak_O × ak_M} (hL : ab_lay M) {b0 : Nat} (hb0 : b0 ∈ ab_fb) (y1 : Int32) (o2 : Option Value) (o3 : Option Value) (h : (if ak_I M b0 5 ≤ y1 then r = (.inl none, M) else sg X 23 (50, [some (.ref b0), some (.int y1), some (.int (y1 + 1)), o3], [], []) M r)) : sg X 23 (38, [some (.ref b0), some (.int y1), o2, o3], [], []) M r := by
  refine w_iload_n (n := 39) (i := 1) (by decide +kernel) rfl rfl ?_
  refine w_aload_n (n := 40) (i := 0) (by decide +kernel) rfl rfl ?_
  refine w_getI (n := 43) hL (by decide +kernel) oO_23 fF_2_49 (af_F hb0) (by decide) rfl ?_
  by_cases c6 : ak_I M b0 5 ≤ y1
  · rw [if_pos c6] at h
    refine w_icmp_ge_j (n := 154) (off := 111) (by decide +kernel) (by decide) c6 ?_
    subst h
    exact w_vreturn (by decide +kernel) (by decide +kernel)
  · rw [if_neg c6] at h
    refine w_icmp_ge_n (n := 46) (off := 111) (by decide +kernel) rfl c6 ?_
    refine w_iload_n (n := 47) (i := 1) (by decide +kernel) rfl rfl ?_
    refine w_iconst (n := 48) (v := 1) (x := 1) (by decide +kernel) rfl (by decide) ?_
    refine w_iadd (n := 49) (by decide +kernel) rfl ?_
    refine w_istore_n (n := 50) (i := 2) (l1' := [some (.ref b0), some (.int y1), some (.int (y1 + 1)), o3]) (l2' := []) (by decide +kernel) rfl (Nat.le_of_ble_eq_true rfl) rfl rfl ?_
    exact h
theorem t_23_50 {X : ak_X} {M : ak_M} {r : ak_O × ak_M} (hL : ab_lay M) {b0 : Nat} (hb0 : b0 ∈ ab_fb) (y1 : Int32) (y2 : Int32) (o3 : Option Value) (h : (if ak_I M b0 5 ≤ y2 then sg X 23 (38, [some (.ref b0), some (.int (y1 + 1)), some (.int y2), o3], [], []) M r else (∃ i7 : Nat, i7 < 10 ∧ ab_ix y1 i7 10 ∧ (if ak_I M (b0 + 6 + i7) 0 = 0 then (∃ i8 : Nat, i8 < 10 ∧ ab_ix y2 i8 10 ∧ (if ak_I M (b0 + 6 + i8) 0 = 0 then (∃ i9 : Nat, i9 < 10 ∧ ab_ix y1 i9 10 ∧ (∃ i10 : Nat, i10 < 10 ∧ ab_ix y2 i10 10 ∧ (∃ (v12 : Int32) (M11 : ak_M), ab_lay M11 ∧ rn X 1 [.ref (b0 + 5), .ref (b0 + 6 + i9), .ref (b0 + 6 + i10)] M (.inl (some (.int v12)), M11) ∧ (if v12 = 0 then sg X 23 (50, [some (.ref b0), some (.int y1), some (.int (y2 + 1)), some (.int 1)], [], []) M11 r else (∃ (v14 : Int32) (M13 : ak_M), ab_lay M13 ∧ rn X 3 [.ref (b0 + 5)] M11 (.inl (some (.int v14)), M13) ∧ (∃ i15 : Nat, ab_ix 4 i15 6 ∧ (if ak_I M13 (b0 + 4) i15 < v14 then sg X 23 (50, [some (.ref b0), some (.int y1), some (.int (y2 + 1)), some (.int 1)], [], []) M13 r else (∃ (M16 : ak_M), ab_lay M16 ∧ rn X 24 [.ref b0, .int y1, .int y2] M13 (.inl (none), M16) ∧ (∃ (M17 : ak_M), ab_lay M17 ∧ rn X 24 [.ref b0, .int y2, .int y1] M16 (.inl (none), M17) ∧ sg X 23 (50, [some (.ref b0), some (.int y1), some (.int (y2 + 1)), some (.int 1)], [], []) M17 r))))))))) else sg X 23 (50, [some (.ref b0), some (.int y1), some (.int (y2 + 1)), some (.int 0)], [], []) M r)) else sg X 23 (50, [some (.ref b0), some (.int y1), some (.int (y2 + 1)), some (.int 0)], [], []) M r)))) : sg X 23 (50, [some (.ref b0), some (.int y1), some (.int y2), o3], [], []) M r := by
  refine w_iload_n (n := 51) (i := 2) (by decide +kernel) rfl rfl ?_
  refine w_aload_n (n := 52) (i := 0) (by decide +kernel) rfl rfl ?_
  refine w_getI (n := 55) hL (by decide +kernel) oO_23 fF_2_49 (af_F hb0) (by decide) rfl ?_
  by_cases c26 : ak_I M b0 5 ≤ y2
  · rw [if_pos c26] at h
    refine w_icmp_ge_j (n := 148) (off := 93) (by decide +kernel) (by decide) c26 ?_
    refine w_iinc (n := 151) (i := 1) (v := 1) (y := y1 + 1) (l1' := [some (.ref b0), some (.int (y1 + 1)), some (.int y2), o3]) (l2' := []) (by decide +kernel) rfl rfl rfl rfl rfl ?_
    refine w_goto (n := 38) (off := (-113)) (by decide +kernel) (by decide) ?_
    exact h
  · rw [if_neg c26] at h
    refine w_icmp_ge_n (n := 58) (off := 93) (by decide +kernel) rfl c26 ?_
    refine w_aload_n (n := 59) (i := 0) (by decide +kernel) rfl rfl ?_
    refine w_getR (n := 62) hL (by decide +kernel) oO_23 fF_2_11 (af_F hb0) (by decide) (ag_KA hb0) rfl ?_
    refine w_iload_n (n := 63) (i := 1) (by decide +kernel) rfl rfl ?_
    obtain ⟨i7, hi7, gi7, h⟩ := h
    refine w_aald (n := 64) hL (by decide +kernel) (af_KA hb0) (by decide) (ax_KA hb0) gi7 (ai_KA hb0 hi7) rfl ?_
    refine w_getI (n := 67) hL (by decide +kernel) oO_23 fF_2_85 (af_K hb0 hi7) (by decide) rfl ?_
    by_cases c25 : ak_I M (b0 + 6 + i7) 0 = 0
    · rw [if_pos c25] at h
      refine w_if_ne_n (n := 70) (off := 19) (by decide +kernel) rfl c25 ?_
      refine w_aload_n (n := 71) (i := 0) (by decide +kernel) rfl rfl ?_
      refine w_getR (n := 74) hL (by decide +kernel) oO_23 fF_2_11 (af_F hb0) (by decide) (ag_KA hb0) rfl ?_
      refine w_iload_n (n := 75) (i := 2) (by decide +kernel) rfl rfl ?_
      obtain ⟨i8, hi8, gi8, h⟩ := h
      refine w_aald (n := 76) hL (by decide +kernel) (af_KA hb0) (by decide) (ax_KA hb0) gi8 (ai_KA hb0 hi8) rfl ?_
      refine w_getI (n := 79) hL (by decide +kernel) oO_23 fF_2_85 (af_K hb0 hi8) (by decide) rfl ?_
      by_cases c24 : ak_I M (b0 + 6 + i8) 0 = 0
      · rw [if_pos c24] at h
        refine w_if_ne_n (n := 82) (off := 7) (by decide +kernel) rfl c24 ?_
        refine w_iconst (n := 83) (v := 1) (x := 1) (by decide +kernel) rfl (by decide) ?_
        refine w_goto (n := 87) (off := 4) (by decide +kernel) (by decide) ?_
        refine w_istore_n (n := 88) (i := 3) (l1' := [some (.ref b0), some (.int y1), some (.int y2), some (.int 1)]) (l2' := []) (by decide +kernel) rfl (Nat.le_of_ble_eq_true rfl) rfl rfl ?_
        refine w_iload_n (n := 89) (i := 3) (by decide +kernel) rfl rfl ?_
        refine w_if_eq_n (n := 92) (off := 53) (by decide +kernel) rfl (by decide) ?_
        refine w_aload_n (n := 93) (i := 0) (by decide +kernel) rfl rfl ?_
        refine w_getR (n := 96) hL (by decide +kernel) oO_23 fF_2_36 (af_F hb0) (by decide) (ag_X hb0) rfl ?_
        refine w_aload_n (n := 97) (i := 0) (by decide +kernel) rfl rfl ?_
        refine w_getR (n := 100) hL (by decide +kernel) oO_23 fF_2_11 (af_F hb0) (by decide) (ag_KA hb0) rfl ?_
        refine w_iload_n (n := 101) (i := 1) (by decide +kernel) rfl rfl ?_
        obtain ⟨i9, hi9, gi9, h⟩ := h
        refine w_aald (n := 102) hL (by decide +kernel) (af_KA hb0) (by decide) (ax_KA hb0) gi9 (ai_KA hb0 hi9) rfl ?_
        refine w_aload_n (n := 103) (i := 0) (by decide +kernel) rfl rfl ?_
        refine w_getR (n := 106) hL (by decide +kernel) oO_23 fF_2_11 (af_F hb0) (by decide) (ag_KA hb0) rfl ?_
        refine w_iload_n (n := 107) (i := 2) (by decide +kernel) rfl rfl ?_
        obtain ⟨i10, hi10, gi10, h⟩ := h
        refine w_aald (n := 108) hL (by decide +kernel) (af_KA hb0) (by decide) (ax_KA hb0) gi10 (ai_KA hb0 hi10) rfl ?_
        obtain ⟨v12, M11, hLM11, hr23, h⟩ := h
        refine w_cV (n := 111) (idx := 100) (cal := 1) (na := 2) (nl := 3) (as := [.ref (b0 + 6 + i9), .ref (b0 + 6 + i10)]) (rest := []) hL (by decide +kernel) (by decide +kernel) (af_X hb0) (by decide +kernel) rfl rfl rfl (Nat.le_of_ble_eq_true rfl) rfl hr23 ?_
        by_cases c22 : v12 = 0
        · rw [if_pos c22] at h
          refine w_if_eq_j (n := 142) (off := 31) (by decide +kernel) (by decide) c22 ?_
          refine w_iinc (n := 145) (i := 2) (v := 1) (y := y2 + 1) (l1' := [some (.ref b0), some (.int y1), some (.int (y2 + 1)), some (.int 1)]) (l2' := []) (by decide +kernel) rfl rfl rfl rfl rfl ?_
          refine w_goto (n := 50) (off := (-95)) (by decide +kernel) (by decide) ?_
          exact h
        · rw [if_neg c22] at h
          refine w_if_eq_n (n := 114) (off := 31) (by decide +kernel) rfl c22 ?_
          refine w_aload_n (n := 115) (i := 0) (by decide +kernel) rfl rfl ?_
          refine w_getR (n := 118) hLM11 (by decide +kernel) oO_23 fF_2_36 (af_F hb0) (by decide) (ag_X hb0) rfl ?_
          obtain ⟨v14, M13, hLM13, hr21, h⟩ := h
          refine w_cV (n := 121) (idx := 108) (cal := 3) (na := 0) (nl := 1) (as := []) (rest := []) hLM11 (by decide +kernel) (by decide +kernel) (af_X hb0) (by decide +kernel) rfl rfl rfl (Nat.le_of_ble_eq_true rfl) rfl hr21 ?_
          refine w_aload_n (n := 122) (i := 0) (by decide +kernel) rfl rfl ?_
          refine w_getR (n := 125) hLM13 (by decide +kernel) oO_23 fF_2_29 (af_F hb0) (by decide) (ag_SA hb0) rfl ?_
          refine w_iconst (n := 126) (v := 4) (x := 4) (by decide +kernel) rfl (by decide) ?_
          obtain ⟨i15, gi15, h⟩ := h
          refine w_iald (n := 127) hLM13 (by decide +kernel) (af_SA hb0) (ax_SA hb0) gi15 rfl ?_
          by_cases c20 : ak_I M13 (b0 + 4) i15 < v14
          · rw [if_pos c20] at h
            refine w_icmp_gt_j (n := 142) (off := 15) (by decide +kernel) (by decide) c20 ?_
            refine w_iinc (n := 145) (i := 2) (v := 1) (y := y2 + 1) (l1' := [some (.ref b0), some (.int y1), some (.int (y2 + 1)), some (.int 1)]) (l2' := []) (by decide +kernel) rfl rfl rfl rfl rfl ?_
            refine w_goto (n := 50) (off := (-95)) (by decide +kernel) (by decide) ?_
            exact h
          · rw [if_neg c20] at h
            refine w_icmp_gt_n (n := 130) (off := 15) (by decide +kernel) rfl c20 ?_
            refine w_aload_n (n := 131) (i := 0) (by decide +kernel) rfl rfl ?_
            refine w_iload_n (n := 132) (i := 1) (by decide +kernel) rfl rfl ?_
            refine w_iload_n (n := 133) (i := 2) (by decide +kernel) rfl rfl ?_
            obtain ⟨M16, hLM16, hr19, h⟩ := h
            refine w_cV (n := 136) (idx := 207) (cal := 24) (na := 2) (nl := 3) (as := [.int y1, .int y2]) (rest := []) hLM13 (by decide +kernel) (by decide +kernel) (af_F hb0) (by decide +kernel) rfl rfl rfl (Nat.le_of_ble_eq_true rfl) rfl hr19 ?_
            refine w_aload_n (n := 137) (i := 0) (by decide +kernel) rfl rfl ?_
            refine w_iload_n (n := 138) (i := 2) (by decide +kernel) rfl rfl ?_
            refine w_iload_n (n := 139) (i := 1) (by decide +kernel) rfl rfl ?_
            obtain ⟨M17, hLM17, hr18, h⟩ := h
            refine w_cV (n := 142) (idx := 207) (cal := 24) (na := 2) (nl := 3) (as := [.int y2, .int y1]) (rest := []) hLM16 (by decide +kernel) (by decide +kernel) (af_F hb0) (by decide +kernel) rfl rfl rfl (Nat.le_of_ble_eq_true rfl) rfl hr18 ?_
            refine w_iinc (n := 145) (i := 2) (v := 1) (y := y2 + 1) (l1' := [some (.ref b0), some (.int y1), some (.int (y2 + 1)), some (.int 1)]) (l2' := []) (by decide +kernel) rfl rfl rfl rfl rfl ?_
            refine w_goto (n := 50) (off := (-95)) (by decide +kernel) (by decide) ?_
            exact h
      · rw [if_neg c24] at h
        refine w_if_ne_j (n := 86) (off := 7) (by decide +kernel) (by decide) c24 ?_
        refine w_iconst (n := 87) (v := 0) (x := 0) (by decide +kernel) rfl (by decide) ?_
        refine w_istore_n (n := 88) (i := 3) (l1' := [some (.ref b0), some (.int y1), some (.int y2), some (.int 0)]) (l2' := []) (by decide +kernel) rfl (Nat.le_of_ble_eq_true rfl) rfl rfl ?_
        refine w_iload_n (n := 89) (i := 3) (by decide +kernel) rfl rfl ?_
        refine w_if_eq_j (n := 142) (off := 53) (by decide +kernel) (by decide) (by decide) ?_
        refine w_iinc (n := 145) (i := 2) (v := 1) (y := y2 + 1) (l1' := [some (.ref b0), some (.int y1), some (.int (y2 + 1)), some (.int 0)]) (l2' := []) (by decide +kernel) rfl rfl rfl rfl rfl ?_
        refine w_goto (n := 50) (off := (-95)) (by decide +kernel) (by decide) ?_
        exact h
    · rw [if_neg c25] at h
      refine w_if_ne_j (n := 86) (off := 19) (by decide +kernel) (by decide) c25 ?_
      refine w_iconst (n := 87) (v := 0) (x := 0) (by decide +kernel) rfl (by decide) ?_
      refine w_istore_n (n := 88) (i := 3) (l1' := [some (.ref b0), some (.int y1), some (.int y2), some (.int 0)]) (l2' := []) (by decide +kernel) rfl (Nat.le_of_ble_eq_true rfl) rfl rfl ?_
      refine w_iload_n (n := 89) (i := 3) (by decide +kernel) rfl rfl ?_
      refine w_if_eq_j (n := 142) (off := 53) (by decide +kernel) (by decide) (by decide) ?_
      refine w_iinc (n := 145) (i := 2) (v := 1) (y := y2 + 1) (l1' := [some (.ref b0), some (.int y1), some (.int (y2 + 1)), some (.int 0)]) (l2' := []) (by decide +kernel) rfl rfl rfl rfl rfl ?_
      refine w_goto (n := 50) (off := (-95)) (by decide +kernel) (by decide) ?_
      exact h
theorem t_24 {X : ak_X} {M : ak_M} {r : ak_O × ak_M} (hL : ab_lay M) {b0 : Nat} (hb0 : b0 ∈ ab_fb) (x1 : Int32) (x2 : Int32) (h : (∃ i1 : Nat, i1 < 10 ∧ ab_ix x1 i1 10 ∧ (∃ i2 : Nat, i2 < 10 ∧ ab_ix x2 i2 10 ∧ (∃ (v4 : Int32) (M3 : ak_M), ab_lay M3 ∧ rn X 44 [.ref (b0 + 6 + i2)] M (.inl (some (.int v4)), M3) ∧ (∀ M5 : ak_M, M5 = ak_sI M3 (b0 + 6 + i1) 10 ((ak_I M3 (b0 + 6 + i1) 10) + v4) → (if ak_I M5 (b0 + 6 + i1) 15 = (-1) then (∀ M6 : ak_M, M6 = ak_sI M5 (b0 + 6 + i1) 14 v4 → (∀ M7 : ak_M, M7 = ak_sI M6 (b0 + 6 + i1) 15 x2 → r = (.inl none, M7))) else (if v4 ≤ ak_I M5 (b0 + 6 + i1) 14 then r = (.inl none, M5) else (∀ M8 : ak_M, M8 = ak_sI M5 (b0 + 6 + i1) 14 v4 → (∀ M9 : ak_M, M9 = ak_sI M8 (b0 + 6 + i1) 15 x2 → r = (.inl none, M9)))))))))) : rn X 24 [.ref b0, .int x1, .int x2] M r := by
  refine w_rn (nL := 5) (l1 := [some (.ref b0), some (.int x1), some (.int x2), none, none]) (by decide +kernel) rfl rfl ?_
  refine w_aload_n (n := 1) (i := 0) (by decide +kernel) rfl rfl ?_
  refine w_getR (n := 4) hL (by decide +kernel) oO_24 fF_2_11 (af_F hb0) (by decide) (ag_KA hb0) rfl ?_
  refine w_iload_n (n := 5) (i := 1) (by decide +kernel) rfl rfl ?_
  obtain ⟨i1, hi1, gi1, h⟩ := h
  refine w_aald (n := 6) hL (by decide +kernel) (af_KA hb0) (by decide) (ax_KA hb0) gi1 (ai_KA hb0 hi1) rfl ?_
  refine w_astore_n (n := 7) (i := 3) (l1' := [some (.ref b0), some (.int x1), some (.int x2), some (.ref (b0 + 6 + i1)), none]) (l2' := []) (by decide +kernel) rfl (Nat.le_of_ble_eq_true rfl) rfl rfl ?_
  refine w_aload_n (n := 8) (i := 0) (by decide +kernel) rfl rfl ?_
  refine w_getR (n := 11) hL (by decide +kernel) oO_24 fF_2_11 (af_F hb0) (by decide) (ag_KA hb0) rfl ?_
  refine w_iload_n (n := 12) (i := 2) (by decide +kernel) rfl rfl ?_
  obtain ⟨i2, hi2, gi2, h⟩ := h
  refine w_aald (n := 13) hL (by decide +kernel) (af_KA hb0) (by decide) (ax_KA hb0) gi2 (ai_KA hb0 hi2) rfl ?_
  obtain ⟨v4, M3, hLM3, hr12, h⟩ := h
  refine w_cV (n := 16) (idx := 211) (cal := 44) (na := 0) (nl := 1) (as := []) (rest := []) hL (by decide +kernel) (by decide +kernel) (af_K hb0 hi2) (by decide +kernel) rfl rfl rfl (Nat.le_of_ble_eq_true rfl) rfl hr12 ?_
  refine w_istore (n := 18) (i := 4) (l1' := [some (.ref b0), some (.int x1), some (.int x2), some (.ref (b0 + 6 + i1)), some (.int v4)]) (l2' := []) (by decide +kernel) rfl (Nat.le_of_ble_eq_true rfl) rfl rfl ?_
  refine w_aload_n (n := 19) (i := 3) (by decide +kernel) rfl rfl ?_
  refine w_dup_ref (n := 20) (by decide +kernel) rfl ?_
  refine w_getI (n := 23) hLM3 (by decide +kernel) oO_24 fF_2_214 (af_K hb0 hi1) (by decide) rfl ?_
  refine w_iload (n := 25) (i := 4) (by decide +kernel) rfl rfl ?_
  refine w_iadd (n := 26) (by decide +kernel) rfl ?_
  refine w_putI (n := 29) hLM3 (by decide +kernel) oO_24 fF_2_214 (af_K hb0 hi1) ⟨by decide, Or.inl (by decide)⟩ rfl ?_
  generalize eM5 : ak_sI M3 (b0 + 6 + i1) 10 ((ak_I M3 (b0 + 6 + i1) 10) + v4) = M5
  have hLM5 : ab_lay M5 := by rw [← eM5]; exact ab_lay.sI hLM3
  replace h := h M5 eM5.symm
  refine w_aload_n (n := 30) (i := 3) (by decide +kernel) rfl rfl ?_
  refine w_getI (n := 33) hLM5 (by decide +kernel) oO_24 fF_2_204 (af_K hb0 hi1) (by decide) rfl ?_
  refine w_iconst (n := 34) (v := -1) (x := (-1)) (by decide +kernel) rfl (by decide) ?_
  by_cases c11 : ak_I M5 (b0 + 6 + i1) 15 = (-1)
  · rw [if_pos c11] at h
    refine w_icmp_eq_j (n := 46) (off := 12) (by decide +kernel) (by decide) c11 ?_
    refine w_aload_n (n := 47) (i := 3) (by decide +kernel) rfl rfl ?_
    refine w_iload (n := 49) (i := 4) (by decide +kernel) rfl rfl ?_
    refine w_putI (n := 52) hLM5 (by decide +kernel) oO_24 fF_2_201 (af_K hb0 hi1) ⟨by decide, Or.inl (by decide)⟩ rfl ?_
    generalize eM6 : ak_sI M5 (b0 + 6 + i1) 14 v4 = M6
    have hLM6 : ab_lay M6 := by rw [← eM6]; exact ab_lay.sI hLM5
    replace h := h M6 eM6.symm
    refine w_aload_n (n := 53) (i := 3) (by decide +kernel) rfl rfl ?_
    refine w_iload_n (n := 54) (i := 2) (by decide +kernel) rfl rfl ?_
    refine w_putI (n := 57) hLM6 (by decide +kernel) oO_24 fF_2_204 (af_K hb0 hi1) ⟨by decide, Or.inl (by decide)⟩ rfl ?_
    generalize eM7 : ak_sI M6 (b0 + 6 + i1) 15 x2 = M7
    have hLM7 : ab_lay M7 := by rw [← eM7]; exact ab_lay.sI hLM6
    replace h := h M7 eM7.symm
    subst h
    exact w_vreturn (by decide +kernel) (by decide +kernel)
  · rw [if_neg c11] at h
    refine w_icmp_eq_n (n := 37) (off := 12) (by decide +kernel) rfl c11 ?_
    refine w_iload (n := 39) (i := 4) (by decide +kernel) rfl rfl ?_
    refine w_aload_n (n := 40) (i := 3) (by decide +kernel) rfl rfl ?_
    refine w_getI (n := 43) hLM5 (by decide +kernel) oO_24 fF_2_201 (af_K hb0 hi1) (by decide) rfl ?_
    by_cases c10 : v4 ≤ ak_I M5 (b0 + 6 + i1) 14
    · rw [if_pos c10] at h
      refine w_icmp_le_j (n := 57) (off := 14) (by decide +kernel) (by decide) c10 ?_
      subst h
      exact w_vreturn (by decide +kernel) (by decide +kernel)
    · rw [if_neg c10] at h
      refine w_icmp_le_n (n := 46) (off := 14) (by decide +kernel) rfl c10 ?_
      refine w_aload_n (n := 47) (i := 3) (by decide +kernel) rfl rfl ?_
      refine w_iload (n := 49) (i := 4) (by decide +kernel) rfl rfl ?_
      refine w_putI (n := 52) hLM5 (by decide +kernel) oO_24 fF_2_201 (af_K hb0 hi1) ⟨by decide, Or.inl (by decide)⟩ rfl ?_
      generalize eM8 : ak_sI M5 (b0 + 6 + i1) 14 v4 = M8
      have hLM8 : ab_lay M8 := by rw [← eM8]; exact ab_lay.sI hLM5
      replace h := h M8 eM8.symm
      refine w_aload_n (n := 53) (i := 3) (by decide +kernel) rfl rfl ?_
      refine w_iload_n (n := 54) (i := 2) (by decide +kernel) rfl rfl ?_
      refine w_putI (n := 57) hLM8 (by decide +kernel) oO_24 fF_2_204 (af_K hb0 hi1) ⟨by decide, Or.inl (by decide)⟩ rfl ?_
      generalize eM9 : ak_sI M8 (b0 + 6 + i1) 15 x2 = M9
      have hLM9 : ab_lay M9 := by rw [← eM9]; exact ab_lay.sI hLM8
      replace h := h M9 eM9.symm
      subst h
      exact w_vreturn (by decide +kernel) (by decide +kernel)
theorem t_25 {X : ak_X} {M : ak_M} {r : ak_O × ak_M} (hL : ab_lay M) {b0 : Nat} (hb0 : b0 ∈ ab_fb) (h : sg X 25 (2, [some (.ref b0), some (.int 0), none, none], [], []) M r) : rn X 25 [.ref b0] M r := by
  refine w_rn (nL := 4) (l1 := [some (.ref b0), none, none, none]) (by decide +kernel) rfl rfl ?_
  refine w_iconst (n := 1) (v := 0) (x := 0) (by decide +kernel) rfl (by decide) ?_
  refine w_istore_n (n := 2) (i := 1) (l1' := [some (.ref b0), some (.int 0), none, none]) (l2' := []) (by decide +kernel) rfl (Nat.le_of_ble_eq_true rfl) rfl rfl ?_
  exact h
theorem t_25_2 {X : ak_X} {M : ak_M} {r : ak_O × ak_M} (hL : ab_lay M) {b0 : Nat} (hb0 : b0 ∈ ab_fb) (y1 : Int32) (o2 : Option Value) (o3 : Option Value) (h : (if ak_I M b0 5 ≤ y1 then r = (.inl none, M) else (∃ i1 : Nat, i1 < 10 ∧ ab_ix y1 i1 10 ∧ (if ak_I M (b0 + 6 + i1) 0 = 0 then (if ak_I M (b0 + 6 + i1) 10 < ak_I M (b0 + 6 + i1) 9 then sg X 25 (2, [some (.ref b0), some (.int (y1 + 1)), some (.ref (b0 + 6 + i1)), o3], [], []) M r else (if ak_I M (b0 + 6 + i1) 15 = (-1) then sg X 25 (2, [some (.ref b0), some (.int (y1 + 1)), some (.ref (b0 + 6 + i1)), o3], [], []) M r else (∀ M2 : ak_M, M2 = ak_sI M (b0 + 6 + i1) 0 2 → (∀ M3 : ak_M, M3 = ak_sI M2 (b0 + 6 + i1) 13 (ak_I M (b0 + 6 + i1) 15) → (∃ i4 : Nat, i4 < 10 ∧ ab_ix (ak_I M (b0 + 6 + i1) 15) i4 10 ∧ (∀ M5 : ak_M, M5 = ak_sI M3 (b0 + 6 + i4) 11 ((ak_I M3 (b0 + 6 + i4) 11) + 1) → (∀ M6 : ak_M, M6 = ak_sI M5 b0 10 ((ak_I M5 b0 10) + 1) → (∃ (v8 : Int32) (M7 : ak_M), ab_lay M7 ∧ rn X 316 [.int y1, .int (ak_I M (b0 + 6 + i1) 15)] M6 (.inl (some (.int v8)), M7) ∧ (∃ i9 : Nat, i9 < 10 ∧ ab_ix v8 i9 10 ∧ (∃ (v11 : Int32) (M10 : ak_M), ab_lay M10 ∧ rn X 315 [.int y1, .int (ak_I M (b0 + 6 + i1) 15)] M7 (.inl (some (.int v11)), M10) ∧ (∃ i12 : Nat, i12 < 10 ∧ ab_ix v11 i12 10 ∧ (∃ (v14 : Int32) (M13 : ak_M), ab_lay M13 ∧ rn X 1 [.ref (b0 + 5), .ref (b0 + 6 + i9), .ref (b0 + 6 + i12)] M10 (.inl (some (.int v14)), M13) ∧ (∃ (M15 : ak_M), ab_lay M15 ∧ rn X 19 [.ref b0, .int 1, .int y1, .int (ak_I M (b0 + 6 + i1) 15), .int (ak_I M13 (b0 + 5) 0), .int (ak_I M13 (b0 + 5) 1)] M13 (.inl (none), M15) ∧ sg X 25 (2, [some (.ref b0), some (.int (y1 + 1)), some (.ref (b0 + 6 + i1)), some (.int (ak_I M (b0 + 6 + i1) 15))], [], []) M15 r))))))))))))) else sg X 25 (2, [some (.ref b0), some (.int (y1 + 1)), some (.ref (b0 + 6 + i1)), o3], [], []) M r)))) : sg X 25 (2, [some (.ref b0), some (.int y1), o2, o3], [], []) M r := by
  refine w_iload_n (n := 3) (i := 1) (by decide +kernel) rfl rfl ?_
  refine w_aload_n (n := 4) (i := 0) (by decide +kernel) rfl rfl ?_
  refine w_getI (n := 7) hL (by decide +kernel) oO_25 fF_2_49 (af_F hb0) (by decide) rfl ?_
  by_cases c23 : ak_I M b0 5 ≤ y1
  · rw [if_pos c23] at h
    refine w_icmp_ge_j (n := 138) (off := 131) (by decide +kernel) (by decide) c23 ?_
    subst h
    exact w_vreturn (by decide +kernel) (by decide +kernel)
  · rw [if_neg c23] at h
    refine w_icmp_ge_n (n := 10) (off := 131) (by decide +kernel) rfl c23 ?_
    refine w_aload_n (n := 11) (i := 0) (by decide +kernel) rfl rfl ?_
    refine w_getR (n := 14) hL (by decide +kernel) oO_25 fF_2_11 (af_F hb0) (by decide) (ag_KA hb0) rfl ?_
    refine w_iload_n (n := 15) (i := 1) (by decide +kernel) rfl rfl ?_
    obtain ⟨i1, hi1, gi1, h⟩ := h
    refine w_aald (n := 16) hL (by decide +kernel) (af_KA hb0) (by decide) (ax_KA hb0) gi1 (ai_KA hb0 hi1) rfl ?_
    refine w_astore_n (n := 17) (i := 2) (l1' := [some (.ref b0), some (.int y1), some (.ref (b0 + 6 + i1)), o3]) (l2' := []) (by decide +kernel) rfl (Nat.le_of_ble_eq_true rfl) rfl rfl ?_
    refine w_aload_n (n := 18) (i := 2) (by decide +kernel) rfl rfl ?_
    refine w_getI (n := 21) hL (by decide +kernel) oO_25 fF_2_85 (af_K hb0 hi1) (by decide) rfl ?_
    by_cases c22 : ak_I M (b0 + 6 + i1) 0 = 0
    · rw [if_pos c22] at h
      refine w_if_ne_n (n := 24) (off := 111) (by decide +kernel) rfl c22 ?_
      refine w_aload_n (n := 25) (i := 2) (by decide +kernel) rfl rfl ?_
      refine w_getI (n := 28) hL (by decide +kernel) oO_25 fF_2_214 (af_K hb0 hi1) (by decide) rfl ?_
      refine w_aload_n (n := 29) (i := 2) (by decide +kernel) rfl rfl ?_
      refine w_getI (n := 32) hL (by decide +kernel) oO_25 fF_2_217 (af_K hb0 hi1) (by decide) rfl ?_
      by_cases c21 : ak_I M (b0 + 6 + i1) 10 < ak_I M (b0 + 6 + i1) 9
      · rw [if_pos c21] at h
        refine w_icmp_lt_j (n := 132) (off := 100) (by decide +kernel) (by decide) c21 ?_
        refine w_iinc (n := 135) (i := 1) (v := 1) (y := y1 + 1) (l1' := [some (.ref b0), some (.int (y1 + 1)), some (.ref (b0 + 6 + i1)), o3]) (l2' := []) (by decide +kernel) rfl rfl rfl rfl rfl ?_
        refine w_goto (n := 2) (off := (-133)) (by decide +kernel) (by decide) ?_
        exact h
      · rw [if_neg c21] at h
        refine w_icmp_lt_n (n := 35) (off := 100) (by decide +kernel) rfl c21 ?_
        refine w_aload_n (n := 36) (i := 2) (by decide +kernel) rfl rfl ?_
        refine w_getI (n := 39) hL (by decide +kernel) oO_25 fF_2_204 (af_K hb0 hi1) (by decide) rfl ?_
        refine w_iconst (n := 40) (v := -1) (x := (-1)) (by decide +kernel) rfl (by decide) ?_
        by_cases c20 : ak_I M (b0 + 6 + i1) 15 = (-1)
        · rw [if_pos c20] at h
          refine w_icmp_eq_j (n := 132) (off := 92) (by decide +kernel) (by decide) c20 ?_
          refine w_iinc (n := 135) (i := 1) (v := 1) (y := y1 + 1) (l1' := [some (.ref b0), some (.int (y1 + 1)), some (.ref (b0 + 6 + i1)), o3]) (l2' := []) (by decide +kernel) rfl rfl rfl rfl rfl ?_
          refine w_goto (n := 2) (off := (-133)) (by decide +kernel) (by decide) ?_
          exact h
        · rw [if_neg c20] at h
          refine w_icmp_eq_n (n := 43) (off := 92) (by decide +kernel) rfl c20 ?_
          refine w_aload_n (n := 44) (i := 2) (by decide +kernel) rfl rfl ?_
          refine w_getI (n := 47) hL (by decide +kernel) oO_25 fF_2_204 (af_K hb0 hi1) (by decide) rfl ?_
          refine w_istore_n (n := 48) (i := 3) (l1' := [some (.ref b0), some (.int y1), some (.ref (b0 + 6 + i1)), some (.int (ak_I M (b0 + 6 + i1) 15))]) (l2' := []) (by decide +kernel) rfl (Nat.le_of_ble_eq_true rfl) rfl rfl ?_
          refine w_aload_n (n := 49) (i := 2) (by decide +kernel) rfl rfl ?_
          refine w_iconst (n := 50) (v := 2) (x := 2) (by decide +kernel) rfl (by decide) ?_
          refine w_putI (n := 53) hL (by decide +kernel) oO_25 fF_2_85 (af_K hb0 hi1) ⟨by decide, Or.inl (by decide)⟩ rfl ?_
          generalize eM2 : ak_sI M (b0 + 6 + i1) 0 2 = M2
          have hLM2 : ab_lay M2 := by rw [← eM2]; exact ab_lay.sI hL
          replace h := h M2 eM2.symm
          refine w_aload_n (n := 54) (i := 2) (by decide +kernel) rfl rfl ?_
          refine w_iload_n (n := 55) (i := 3) (by decide +kernel) rfl rfl ?_
          refine w_putI (n := 58) hLM2 (by decide +kernel) oO_25 fF_2_220 (af_K hb0 hi1) ⟨by decide, Or.inl (by decide)⟩ rfl ?_
          generalize eM3 : ak_sI M2 (b0 + 6 + i1) 13 (ak_I M (b0 + 6 + i1) 15) = M3
          have hLM3 : ab_lay M3 := by rw [← eM3]; exact ab_lay.sI hLM2
          replace h := h M3 eM3.symm
          refine w_aload_n (n := 59) (i := 0) (by decide +kernel) rfl rfl ?_
          refine w_getR (n := 62) hLM3 (by decide +kernel) oO_25 fF_2_11 (af_F hb0) (by decide) (ag_KA hb0) rfl ?_
          refine w_iload_n (n := 63) (i := 3) (by decide +kernel) rfl rfl ?_
          obtain ⟨i4, hi4, gi4, h⟩ := h
          refine w_aald (n := 64) hLM3 (by decide +kernel) (af_KA hb0) (by decide) (ax_KA hb0) gi4 (ai_KA hb0 hi4) rfl ?_
          refine w_dup_ref (n := 65) (by decide +kernel) rfl ?_
          refine w_getI (n := 68) hLM3 (by decide +kernel) oO_25 fF_2_223 (af_K hb0 hi4) (by decide) rfl ?_
          refine w_iconst (n := 69) (v := 1) (x := 1) (by decide +kernel) rfl (by decide) ?_
          refine w_iadd (n := 70) (by decide +kernel) rfl ?_
          refine w_putI (n := 73) hLM3 (by decide +kernel) oO_25 fF_2_223 (af_K hb0 hi4) ⟨by decide, Or.inl (by decide)⟩ rfl ?_
          generalize eM5 : ak_sI M3 (b0 + 6 + i4) 11 ((ak_I M3 (b0 + 6 + i4) 11) + 1) = M5
          have hLM5 : ab_lay M5 := by rw [← eM5]; exact ab_lay.sI hLM3
          replace h := h M5 eM5.symm
          refine w_aload_n (n := 74) (i := 0) (by decide +kernel) rfl rfl ?_
          refine w_dup_ref (n := 75) (by decide +kernel) rfl ?_
          refine w_getI (n := 78) hLM5 (by decide +kernel) oO_25 fF_2_65 (af_F hb0) (by decide) rfl ?_
          refine w_iconst (n := 79) (v := 1) (x := 1) (by decide +kernel) rfl (by decide) ?_
          refine w_iadd (n := 80) (by decide +kernel) rfl ?_
          refine w_putI (n := 83) hLM5 (by decide +kernel) oO_25 fF_2_65 (af_F hb0) ⟨by decide, Or.inl (by decide)⟩ rfl ?_
          generalize eM6 : ak_sI M5 b0 10 ((ak_I M5 b0 10) + 1) = M6
          have hLM6 : ab_lay M6 := by rw [← eM6]; exact ab_lay.sI hLM5
          replace h := h M6 eM6.symm
          refine w_aload_n (n := 84) (i := 0) (by decide +kernel) rfl rfl ?_
          refine w_getR (n := 87) hLM6 (by decide +kernel) oO_25 fF_2_36 (af_F hb0) (by decide) (ag_X hb0) rfl ?_
          refine w_aload_n (n := 88) (i := 0) (by decide +kernel) rfl rfl ?_
          refine w_getR (n := 91) hLM6 (by decide +kernel) oO_25 fF_2_11 (af_F hb0) (by decide) (ag_KA hb0) rfl ?_
          refine w_iload_n (n := 92) (i := 1) (by decide +kernel) rfl rfl ?_
          refine w_iload_n (n := 93) (i := 3) (by decide +kernel) rfl rfl ?_
          obtain ⟨v8, M7, hLM7, hr19, h⟩ := h
          refine w_cS (n := 96) (idx := 91) (cal := 316) (na := 2) (nl := 2) (as := [.int y1, .int (ak_I M (b0 + 6 + i1) 15)]) (rest := [.ref (b0 + 1), .ref (b0 + 5)]) (by decide +kernel) (by decide +kernel) rfl rfl rfl (Nat.le_of_ble_eq_true rfl) rfl hr19 ?_
          obtain ⟨i9, hi9, gi9, h⟩ := h
          refine w_aald (n := 97) hLM7 (by decide +kernel) (af_KA hb0) (by decide) (ax_KA hb0) gi9 (ai_KA hb0 hi9) rfl ?_
          refine w_aload_n (n := 98) (i := 0) (by decide +kernel) rfl rfl ?_
          refine w_getR (n := 101) hLM7 (by decide +kernel) oO_25 fF_2_11 (af_F hb0) (by decide) (ag_KA hb0) rfl ?_
          refine w_iload_n (n := 102) (i := 1) (by decide +kernel) rfl rfl ?_
          refine w_iload_n (n := 103) (i := 3) (by decide +kernel) rfl rfl ?_
          obtain ⟨v11, M10, hLM10, hr18, h⟩ := h
          refine w_cS (n := 106) (idx := 97) (cal := 315) (na := 2) (nl := 2) (as := [.int y1, .int (ak_I M (b0 + 6 + i1) 15)]) (rest := [.ref (b0 + 1), .ref (b0 + 6 + i9), .ref (b0 + 5)]) (by decide +kernel) (by decide +kernel) rfl rfl rfl (Nat.le_of_ble_eq_true rfl) rfl hr18 ?_
          obtain ⟨i12, hi12, gi12, h⟩ := h
          refine w_aald (n := 107) hLM10 (by decide +kernel) (af_KA hb0) (by decide) (ax_KA hb0) gi12 (ai_KA hb0 hi12) rfl ?_
          obtain ⟨v14, M13, hLM13, hr17, h⟩ := h
          refine w_cV (n := 110) (idx := 100) (cal := 1) (na := 2) (nl := 3) (as := [.ref (b0 + 6 + i9), .ref (b0 + 6 + i12)]) (rest := []) hLM10 (by decide +kernel) (by decide +kernel) (af_X hb0) (by decide +kernel) rfl rfl rfl (Nat.le_of_ble_eq_true rfl) rfl hr17 ?_
          refine w_pop_int (n := 111) (by decide +kernel) rfl ?_
          refine w_aload_n (n := 112) (i := 0) (by decide +kernel) rfl rfl ?_
          refine w_iconst (n := 113) (v := 1) (x := 1) (by decide +kernel) rfl (by decide) ?_
          refine w_iload_n (n := 114) (i := 1) (by decide +kernel) rfl rfl ?_
          refine w_iload_n (n := 115) (i := 3) (by decide +kernel) rfl rfl ?_
          refine w_aload_n (n := 116) (i := 0) (by decide +kernel) rfl rfl ?_
          refine w_getR (n := 119) hLM13 (by decide +kernel) oO_25 fF_2_36 (af_F hb0) (by decide) (ag_X hb0) rfl ?_
          refine w_getI (n := 122) hLM13 (by decide +kernel) oO_25 fF_2_226 (af_X hb0) (by decide) rfl ?_
          refine w_aload_n (n := 123) (i := 0) (by decide +kernel) rfl rfl ?_
          refine w_getR (n := 126) hLM13 (by decide +kernel) oO_25 fF_2_36 (af_F hb0) (by decide) (ag_X hb0) rfl ?_
          refine w_getI (n := 129) hLM13 (by decide +kernel) oO_25 fF_2_227 (af_X hb0) (by decide) rfl ?_
          obtain ⟨M15, hLM15, hr16, h⟩ := h
          refine w_cV (n := 132) (idx := 131) (cal := 19) (na := 5) (nl := 6) (as := [.int 1, .int y1, .int (ak_I M (b0 + 6 + i1) 15), .int (ak_I M13 (b0 + 5) 0), .int (ak_I M13 (b0 + 5) 1)]) (rest := []) hLM13 (by decide +kernel) (by decide +kernel) (af_F hb0) (by decide +kernel) rfl rfl rfl (Nat.le_of_ble_eq_true rfl) rfl hr16 ?_
          refine w_iinc (n := 135) (i := 1) (v := 1) (y := y1 + 1) (l1' := [some (.ref b0), some (.int (y1 + 1)), some (.ref (b0 + 6 + i1)), some (.int (ak_I M (b0 + 6 + i1) 15))]) (l2' := []) (by decide +kernel) rfl rfl rfl rfl rfl ?_
          refine w_goto (n := 2) (off := (-133)) (by decide +kernel) (by decide) ?_
          exact h
    · rw [if_neg c22] at h
      refine w_if_ne_j (n := 132) (off := 111) (by decide +kernel) (by decide) c22 ?_
      refine w_iinc (n := 135) (i := 1) (v := 1) (y := y1 + 1) (l1' := [some (.ref b0), some (.int (y1 + 1)), some (.ref (b0 + 6 + i1)), o3]) (l2' := []) (by decide +kernel) rfl rfl rfl rfl rfl ?_
      refine w_goto (n := 2) (off := (-133)) (by decide +kernel) (by decide) ?_
      exact h
theorem t_26 {X : ak_X} {M : ak_M} {r : ak_O × ak_M} (hL : ab_lay M) {b0 : Nat} (hb0 : b0 ∈ ab_fb) (x1 : Int32) (h : (∃ i1 : Nat, i1 < 10 ∧ ab_ix x1 i1 10 ∧ (∃ (v3 : Int32) (M2 : ak_M), ab_lay M2 ∧ rn X 12 [.ref b0, .int (ak_I M (b0 + 6 + i1) 3)] M (.inl (some (.int v3)), M2) ∧ (∃ i4 : Nat, i4 < 4 ∧ ab_ix v3 i4 4 ∧ (∃ (M5 : ak_M), ab_lay M5 ∧ rn X 45 [.ref (b0 + 6 + i1), .ref (b0 + 16 + i4)] M2 (.inl (none), M5) ∧ (∃ i6 : Nat, ab_ix 3 i6 6 ∧ (∃ (v8 : Int32) (M7 : ak_M), ab_lay M7 ∧ rn X 315 [.int 0, .int ((ak_I M5 (b0 + 6 + i1) 3) - (ak_I M5 (b0 + 4) i6))] M5 (.inl (some (.int v8)), M7) ∧ (∀ M9 : ak_M, M9 = ak_sI M7 (b0 + 6 + i1) 3 v8 → (if ak_I M9 (b0 + 6 + i1) 3 = 0 then (∀ M10 : ak_M, M10 = ak_sI M9 (b0 + 6 + i1) 0 3 → (∃ (M11 : ak_M), ab_lay M11 ∧ rn X 18 [.ref b0, .int 2, .int x1, .int ((-1))] M10 (.inl (none), M11) ∧ r = (.inl none, M11))) else r = (.inl none, M9)))))))))) : rn X 26 [.ref b0, .int x1] M r := by
  refine w_rn (nL := 3) (l1 := [some (.ref b0), some (.int x1), none]) (by decide +kernel) rfl rfl ?_
  refine w_aload_n (n := 1) (i := 0) (by decide +kernel) rfl rfl ?_
  refine w_getR (n := 4) hL (by decide +kernel) oO_26 fF_2_11 (af_F hb0) (by decide) (ag_KA hb0) rfl ?_
  refine w_iload_n (n := 5) (i := 1) (by decide +kernel) rfl rfl ?_
  obtain ⟨i1, hi1, gi1, h⟩ := h
  refine w_aald (n := 6) hL (by decide +kernel) (af_KA hb0) (by decide) (ax_KA hb0) gi1 (ai_KA hb0 hi1) rfl ?_
  refine w_astore_n (n := 7) (i := 2) (l1' := [some (.ref b0), some (.int x1), some (.ref (b0 + 6 + i1))]) (l2' := []) (by decide +kernel) rfl (Nat.le_of_ble_eq_true rfl) rfl rfl ?_
  refine w_aload_n (n := 8) (i := 2) (by decide +kernel) rfl rfl ?_
  refine w_aload_n (n := 9) (i := 0) (by decide +kernel) rfl rfl ?_
  refine w_getR (n := 12) hL (by decide +kernel) oO_26 fF_2_19 (af_F hb0) (by decide) (ag_WA hb0) rfl ?_
  refine w_aload_n (n := 13) (i := 0) (by decide +kernel) rfl rfl ?_
  refine w_aload_n (n := 14) (i := 2) (by decide +kernel) rfl rfl ?_
  refine w_getI (n := 17) hL (by decide +kernel) oO_26 fF_2_170 (af_K hb0 hi1) (by decide) rfl ?_
  obtain ⟨v3, M2, hLM2, hr16, h⟩ := h
  refine w_cV (n := 20) (idx := 173) (cal := 12) (na := 1) (nl := 2) (as := [.int (ak_I M (b0 + 6 + i1) 3)]) (rest := [.ref (b0 + 2), .ref (b0 + 6 + i1)]) hL (by decide +kernel) (by decide +kernel) (af_F hb0) (by decide +kernel) rfl rfl rfl (Nat.le_of_ble_eq_true rfl) rfl hr16 ?_
  obtain ⟨i4, hi4, gi4, h⟩ := h
  refine w_aald (n := 21) hLM2 (by decide +kernel) (af_WA hb0) (by decide) (ax_WA hb0) gi4 (ai_WA hb0 hi4) rfl ?_
  obtain ⟨M5, hLM5, hr15, h⟩ := h
  refine w_cV (n := 24) (idx := 186) (cal := 45) (na := 1) (nl := 2) (as := [.ref (b0 + 16 + i4)]) (rest := []) hLM2 (by decide +kernel) (by decide +kernel) (af_K hb0 hi1) (by decide +kernel) rfl rfl rfl (Nat.le_of_ble_eq_true rfl) rfl hr15 ?_
  refine w_aload_n (n := 25) (i := 2) (by decide +kernel) rfl rfl ?_
  refine w_iconst (n := 26) (v := 0) (x := 0) (by decide +kernel) rfl (by decide) ?_
  refine w_aload_n (n := 27) (i := 2) (by decide +kernel) rfl rfl ?_
  refine w_getI (n := 30) hLM5 (by decide +kernel) oO_26 fF_2_170 (af_K hb0 hi1) (by decide) rfl ?_
  refine w_aload_n (n := 31) (i := 0) (by decide +kernel) rfl rfl ?_
  refine w_getR (n := 34) hLM5 (by decide +kernel) oO_26 fF_2_29 (af_F hb0) (by decide) (ag_SA hb0) rfl ?_
  refine w_iconst (n := 35) (v := 3) (x := 3) (by decide +kernel) rfl (by decide) ?_
  obtain ⟨i6, gi6, h⟩ := h
  refine w_iald (n := 36) hLM5 (by decide +kernel) (af_SA hb0) (ax_SA hb0) gi6 rfl ?_
  refine w_isub (n := 37) (by decide +kernel) rfl ?_
  obtain ⟨v8, M7, hLM7, hr14, h⟩ := h
  refine w_cS (n := 40) (idx := 97) (cal := 315) (na := 2) (nl := 2) (as := [.int 0, .int ((ak_I M5 (b0 + 6 + i1) 3) - (ak_I M5 (b0 + 4) i6))]) (rest := [.ref (b0 + 6 + i1)]) (by decide +kernel) (by decide +kernel) rfl rfl rfl (Nat.le_of_ble_eq_true rfl) rfl hr14 ?_
  refine w_putI (n := 43) hLM7 (by decide +kernel) oO_26 fF_2_170 (af_K hb0 hi1) ⟨by decide, Or.inl (by decide)⟩ rfl ?_
  generalize eM9 : ak_sI M7 (b0 + 6 + i1) 3 v8 = M9
  have hLM9 : ab_lay M9 := by rw [← eM9]; exact ab_lay.sI hLM7
  replace h := h M9 eM9.symm
  refine w_aload_n (n := 44) (i := 2) (by decide +kernel) rfl rfl ?_
  refine w_getI (n := 47) hLM9 (by decide +kernel) oO_26 fF_2_170 (af_K hb0 hi1) (by decide) rfl ?_
  by_cases c13 : ak_I M9 (b0 + 6 + i1) 3 = 0
  · rw [if_pos c13] at h
    refine w_if_ne_n (n := 50) (off := 15) (by decide +kernel) rfl c13 ?_
    refine w_aload_n (n := 51) (i := 2) (by decide +kernel) rfl rfl ?_
    refine w_iconst (n := 52) (v := 3) (x := 3) (by decide +kernel) rfl (by decide) ?_
    refine w_putI (n := 55) hLM9 (by decide +kernel) oO_26 fF_2_85 (af_K hb0 hi1) ⟨by decide, Or.inl (by decide)⟩ rfl ?_
    generalize eM10 : ak_sI M9 (b0 + 6 + i1) 0 3 = M10
    have hLM10 : ab_lay M10 := by rw [← eM10]; exact ab_lay.sI hLM9
    replace h := h M10 eM10.symm
    refine w_aload_n (n := 56) (i := 0) (by decide +kernel) rfl rfl ?_
    refine w_iconst (n := 57) (v := 2) (x := 2) (by decide +kernel) rfl (by decide) ?_
    refine w_iload_n (n := 58) (i := 1) (by decide +kernel) rfl rfl ?_
    refine w_iconst (n := 59) (v := -1) (x := (-1)) (by decide +kernel) rfl (by decide) ?_
    obtain ⟨M11, hLM11, hr12, h⟩ := h
    refine w_cV (n := 62) (idx := 198) (cal := 18) (na := 3) (nl := 4) (as := [.int 2, .int x1, .int ((-1))]) (rest := []) hLM10 (by decide +kernel) (by decide +kernel) (af_F hb0) (by decide +kernel) rfl rfl rfl (Nat.le_of_ble_eq_true rfl) rfl hr12 ?_
    subst h
    exact w_vreturn (by decide +kernel) (by decide +kernel)
  · rw [if_neg c13] at h
    refine w_if_ne_j (n := 62) (off := 15) (by decide +kernel) (by decide) c13 ?_
    subst h
    exact w_vreturn (by decide +kernel) (by decide +kernel)
theorem t_27 {X : ak_X} {M : ak_M} {r : ak_O × ak_M} (hL : ab_lay M) {b0 : Nat} (hb0 : b0 ∈ ab_fb) (h : sg X 27 (2, [some (.ref b0), some (.int 0), none, none], [], []) M r) : rn X 27 [.ref b0] M r := by
  refine w_rn (nL := 4) (l1 := [some (.ref b0), none, none, none]) (by decide +kernel) rfl rfl ?_
  refine w_iconst (n := 1) (v := 0) (x := 0) (by decide +kernel) rfl (by decide) ?_
  refine w_istore_n (n := 2) (i := 1) (l1' := [some (.ref b0), some (.int 0), none, none]) (l2' := []) (by decide +kernel) rfl (Nat.le_of_ble_eq_true rfl) rfl rfl ?_
  exact h
theorem t_27_2 {X : ak_X} {M : ak_M} {r : ak_O × ak_M} (hL : ab_lay M) {b0 : Nat} (hb0 : b0 ∈ ab_fb) (y1 : Int32) (o2 : Option Value) (o3 : Option Value) (h : (if ak_I M b0 5 ≤ y1 then r = (.inl none, M) else (∃ i1 : Nat, i1 < 10 ∧ ab_ix y1 i1 10 ∧ (if ak_I M (b0 + 6 + i1) 0 = 3 then (∃ (v3 : Int32) (M2 : ak_M), ab_lay M2 ∧ rn X 16 [.ref b0, .int (ak_I M (b0 + 6 + i1) 1), .int (ak_I M (b0 + 6 + i1) 2), .int y1] M (.inl (some (.int v3)), M2) ∧ (if v3 = (-1) then sg X 27 (2, [some (.ref b0), some (.int (y1 + 1)), some (.ref (b0 + 6 + i1)), some (.int v3)], [], []) M2 r else (∀ M4 : ak_M, M4 = ak_sI M2 (b0 + 6 + i1) 0 4 → (∀ M5 : ak_M, M5 = ak_sI M4 (b0 + 6 + i1) 12 v3 → (∃ i6 : Nat, i6 < 10 ∧ ab_ix v3 i6 10 ∧ (∀ M7 : ak_M, M7 = ak_sI M5 (b0 + 6 + i6) 11 ((ak_I M5 (b0 + 6 + i6) 11) + 2) → (∃ (M8 : ak_M), ab_lay M8 ∧ rn X 18 [.ref b0, .int 3, .int y1, .int v3] M7 (.inl (none), M8) ∧ sg X 27 (2, [some (.ref b0), some (.int (y1 + 1)), some (.ref (b0 + 6 + i1)), some (.int v3)], [], []) M8 r))))))) else sg X 27 (2, [some (.ref b0), some (.int (y1 + 1)), some (.ref (b0 + 6 + i1)), some (.int ((-1)))], [], []) M r)))) : sg X 27 (2, [some (.ref b0), some (.int y1), o2, o3], [], []) M r := by
  refine w_iload_n (n := 3) (i := 1) (by decide +kernel) rfl rfl ?_
  refine w_aload_n (n := 4) (i := 0) (by decide +kernel) rfl rfl ?_
  refine w_getI (n := 7) hL (by decide +kernel) oO_27 fF_2_49 (af_F hb0) (by decide) rfl ?_
  by_cases c13 : ak_I M b0 5 ≤ y1
  · rw [if_pos c13] at h
    refine w_icmp_ge_j (n := 86) (off := 79) (by decide +kernel) (by decide) c13 ?_
    subst h
    exact w_vreturn (by decide +kernel) (by decide +kernel)
  · rw [if_neg c13] at h
    refine w_icmp_ge_n (n := 10) (off := 79) (by decide +kernel) rfl c13 ?_
    refine w_aload_n (n := 11) (i := 0) (by decide +kernel) rfl rfl ?_
    refine w_getR (n := 14) hL (by decide +kernel) oO_27 fF_2_11 (af_F hb0) (by decide) (ag_KA hb0) rfl ?_
    refine w_iload_n (n := 15) (i := 1) (by decide +kernel) rfl rfl ?_
    obtain ⟨i1, hi1, gi1, h⟩ := h
    refine w_aald (n := 16) hL (by decide +kernel) (af_KA hb0) (by decide) (ax_KA hb0) gi1 (ai_KA hb0 hi1) rfl ?_
    refine w_astore_n (n := 17) (i := 2) (l1' := [some (.ref b0), some (.int y1), some (.ref (b0 + 6 + i1)), o3]) (l2' := []) (by decide +kernel) rfl (Nat.le_of_ble_eq_true rfl) rfl rfl ?_
    refine w_aload_n (n := 18) (i := 2) (by decide +kernel) rfl rfl ?_
    refine w_getI (n := 21) hL (by decide +kernel) oO_27 fF_2_85 (af_K hb0 hi1) (by decide) rfl ?_
    refine w_iconst (n := 22) (v := 3) (x := 3) (by decide +kernel) rfl (by decide) ?_
    by_cases c12 : ak_I M (b0 + 6 + i1) 0 = 3
    · rw [if_pos c12] at h
      refine w_icmp_ne_n (n := 25) (off := 19) (by decide +kernel) rfl c12 ?_
      refine w_aload_n (n := 26) (i := 0) (by decide +kernel) rfl rfl ?_
      refine w_aload_n (n := 27) (i := 2) (by decide +kernel) rfl rfl ?_
      refine w_getI (n := 30) hL (by decide +kernel) oO_27 fF_2_125 (af_K hb0 hi1) (by decide) rfl ?_
      refine w_aload_n (n := 31) (i := 2) (by decide +kernel) rfl rfl ?_
      refine w_getI (n := 34) hL (by decide +kernel) oO_27 fF_2_128 (af_K hb0 hi1) (by decide) rfl ?_
      refine w_iload_n (n := 35) (i := 1) (by decide +kernel) rfl rfl ?_
      obtain ⟨v3, M2, hLM2, hr11, h⟩ := h
      refine w_cV (n := 38) (idx := 228) (cal := 16) (na := 3) (nl := 4) (as := [.int (ak_I M (b0 + 6 + i1) 1), .int (ak_I M (b0 + 6 + i1) 2), .int y1]) (rest := []) hL (by decide +kernel) (by decide +kernel) (af_F hb0) (by decide +kernel) rfl rfl rfl (Nat.le_of_ble_eq_true rfl) rfl hr11 ?_
      refine w_goto (n := 42) (off := 4) (by decide +kernel) (by decide) ?_
      refine w_istore_n (n := 43) (i := 3) (l1' := [some (.ref b0), some (.int y1), some (.ref (b0 + 6 + i1)), some (.int v3)]) (l2' := []) (by decide +kernel) rfl (Nat.le_of_ble_eq_true rfl) rfl rfl ?_
      refine w_iload_n (n := 44) (i := 3) (by decide +kernel) rfl rfl ?_
      refine w_iconst (n := 45) (v := -1) (x := (-1)) (by decide +kernel) rfl (by decide) ?_
      by_cases c10 : v3 = (-1)
      · rw [if_pos c10] at h
        refine w_icmp_eq_j (n := 80) (off := 35) (by decide +kernel) (by decide) c10 ?_
        refine w_iinc (n := 83) (i := 1) (v := 1) (y := y1 + 1) (l1' := [some (.ref b0), some (.int (y1 + 1)), some (.ref (b0 + 6 + i1)), some (.int v3)]) (l2' := []) (by decide +kernel) rfl rfl rfl rfl rfl ?_
        refine w_goto (n := 2) (off := (-81)) (by decide +kernel) (by decide) ?_
        exact h
      · rw [if_neg c10] at h
        refine w_icmp_eq_n (n := 48) (off := 35) (by decide +kernel) rfl c10 ?_
        refine w_aload_n (n := 49) (i := 2) (by decide +kernel) rfl rfl ?_
        refine w_iconst (n := 50) (v := 4) (x := 4) (by decide +kernel) rfl (by decide) ?_
        refine w_putI (n := 53) hLM2 (by decide +kernel) oO_27 fF_2_85 (af_K hb0 hi1) ⟨by decide, Or.inl (by decide)⟩ rfl ?_
        generalize eM4 : ak_sI M2 (b0 + 6 + i1) 0 4 = M4
        have hLM4 : ab_lay M4 := by rw [← eM4]; exact ab_lay.sI hLM2
        replace h := h M4 eM4.symm
        refine w_aload_n (n := 54) (i := 2) (by decide +kernel) rfl rfl ?_
        refine w_iload_n (n := 55) (i := 3) (by decide +kernel) rfl rfl ?_
        refine w_putI (n := 58) hLM4 (by decide +kernel) oO_27 fF_2_231 (af_K hb0 hi1) ⟨by decide, Or.inl (by decide)⟩ rfl ?_
        generalize eM5 : ak_sI M4 (b0 + 6 + i1) 12 v3 = M5
        have hLM5 : ab_lay M5 := by rw [← eM5]; exact ab_lay.sI hLM4
        replace h := h M5 eM5.symm
        refine w_aload_n (n := 59) (i := 0) (by decide +kernel) rfl rfl ?_
        refine w_getR (n := 62) hLM5 (by decide +kernel) oO_27 fF_2_11 (af_F hb0) (by decide) (ag_KA hb0) rfl ?_
        refine w_iload_n (n := 63) (i := 3) (by decide +kernel) rfl rfl ?_
        obtain ⟨i6, hi6, gi6, h⟩ := h
        refine w_aald (n := 64) hLM5 (by decide +kernel) (af_KA hb0) (by decide) (ax_KA hb0) gi6 (ai_KA hb0 hi6) rfl ?_
        refine w_dup_ref (n := 65) (by decide +kernel) rfl ?_
        refine w_getI (n := 68) hLM5 (by decide +kernel) oO_27 fF_2_223 (af_K hb0 hi6) (by decide) rfl ?_
        refine w_iconst (n := 69) (v := 2) (x := 2) (by decide +kernel) rfl (by decide) ?_
        refine w_iadd (n := 70) (by decide +kernel) rfl ?_
        refine w_putI (n := 73) hLM5 (by decide +kernel) oO_27 fF_2_223 (af_K hb0 hi6) ⟨by decide, Or.inl (by decide)⟩ rfl ?_
        generalize eM7 : ak_sI M5 (b0 + 6 + i6) 11 ((ak_I M5 (b0 + 6 + i6) 11) + 2) = M7
        have hLM7 : ab_lay M7 := by rw [← eM7]; exact ab_lay.sI hLM5
        replace h := h M7 eM7.symm
        refine w_aload_n (n := 74) (i := 0) (by decide +kernel) rfl rfl ?_
        refine w_iconst (n := 75) (v := 3) (x := 3) (by decide +kernel) rfl (by decide) ?_
        refine w_iload_n (n := 76) (i := 1) (by decide +kernel) rfl rfl ?_
        refine w_iload_n (n := 77) (i := 3) (by decide +kernel) rfl rfl ?_
        obtain ⟨M8, hLM8, hr9, h⟩ := h
        refine w_cV (n := 80) (idx := 198) (cal := 18) (na := 3) (nl := 4) (as := [.int 3, .int y1, .int v3]) (rest := []) hLM7 (by decide +kernel) (by decide +kernel) (af_F hb0) (by decide +kernel) rfl rfl rfl (Nat.le_of_ble_eq_true rfl) rfl hr9 ?_
        refine w_iinc (n := 83) (i := 1) (v := 1) (y := y1 + 1) (l1' := [some (.ref b0), some (.int (y1 + 1)), some (.ref (b0 + 6 + i1)), some (.int v3)]) (l2' := []) (by decide +kernel) rfl rfl rfl rfl rfl ?_
        refine w_goto (n := 2) (off := (-81)) (by decide +kernel) (by decide) ?_
        exact h
    · rw [if_neg c12] at h
      refine w_icmp_ne_j (n := 41) (off := 19) (by decide +kernel) (by decide) c12 ?_
      refine w_iconst (n := 42) (v := -1) (x := (-1)) (by decide +kernel) rfl (by decide) ?_
      refine w_istore_n (n := 43) (i := 3) (l1' := [some (.ref b0), some (.int y1), some (.ref (b0 + 6 + i1)), some (.int ((-1)))]) (l2' := []) (by decide +kernel) rfl (Nat.le_of_ble_eq_true rfl) rfl rfl ?_
      refine w_iload_n (n := 44) (i := 3) (by decide +kernel) rfl rfl ?_
      refine w_iconst (n := 45) (v := -1) (x := (-1)) (by decide +kernel) rfl (by decide) ?_
      refine w_icmp_eq_j (n := 80) (off := 35) (by decide +kernel) (by decide) (by decide) ?_
      refine w_iinc (n := 83) (i := 1) (v := 1) (y := y1 + 1) (l1' := [some (.ref b0), some (.int (y1 + 1)), some (.ref (b0 + 6 + i1)), some (.int ((-1)))]) (l2' := []) (by decide +kernel) rfl rfl rfl rfl rfl ?_
      refine w_goto (n := 2) (off := (-81)) (by decide +kernel) (by decide) ?_
      exact h
