/-! the walk of History, Input, Names, Output, Setup, Tokens, laid by wip/p60/walk.py -/
theorem t_29 {X : ak_X} {M : ak_M} {r : ak_O × ak_M} (hL : ab_lay M) (h : (∀ M1 : ak_M, M1 = ak_sI M 161 2 0 → r = (.inl none, M1))) : rn X 29 [.ref 161] M r := by
  refine w_rn (nL := 1) (l1 := [some (.ref 161)]) (by decide +kernel) rfl rfl ?_
  refine w_aload_n (n := 1) (i := 0) (by decide +kernel) rfl rfl ?_
  refine w_iconst (n := 2) (v := 0) (x := 0) (by decide +kernel) rfl (by decide) ?_
  refine w_putI (n := 5) hL (by decide +kernel) oO_29 fF_3_18 (at_161) ⟨by decide, Or.inl (by decide)⟩ rfl ?_
  generalize eM1 : ak_sI M 161 2 0 = M1
  have hLM1 : ab_lay M1 := by rw [← eM1]; exact ab_lay.sI hL
  replace h := h M1 eM1.symm
  subst h
  exact w_vreturn (by decide +kernel) (by decide +kernel)
theorem t_30 {X : ak_X} {M : ak_M} {r : ak_O × ak_M} (hL : ab_lay M) {b1 : Nat} (hb1 : b1 ∈ ab_fb) (h : (if ak_I M 161 2 = 10 then (∀ M5 : ak_M, M5 = ak_sI M 161 1 (((ak_I M 161 1) + 1) - ((ak_I M 161 1) + 1) / 10 * 10) → (∃ i6 : Nat, i6 < 10 ∧ ab_ix ((((ak_I M5 161 1) + (ak_I M5 161 2)) - 1) - (((ak_I M5 161 1) + (ak_I M5 161 2)) - 1) / 10 * 10) i6 10 ∧ (∃ (M7 : ak_M), ab_lay M7 ∧ rn X 10 [.ref (163 + 32 * i6), .ref b1] M5 (.inl (none), M7) ∧ r = (.inl none, M7)))) else (∀ M1 : ak_M, M1 = ak_sI M 161 2 ((ak_I M 161 2) + 1) → (∃ i2 : Nat, i2 < 10 ∧ ab_ix ((((ak_I M1 161 1) + (ak_I M1 161 2)) - 1) - (((ak_I M1 161 1) + (ak_I M1 161 2)) - 1) / 10 * 10) i2 10 ∧ (∃ (M3 : ak_M), ab_lay M3 ∧ rn X 10 [.ref (163 + 32 * i2), .ref b1] M1 (.inl (none), M3) ∧ r = (.inl none, M3)))))) : rn X 30 [.ref 161, .ref b1] M r := by
  refine w_rn (nL := 2) (l1 := [some (.ref 161), some (.ref b1)]) (by decide +kernel) rfl rfl ?_
  refine w_aload_n (n := 1) (i := 0) (by decide +kernel) rfl rfl ?_
  refine w_getI (n := 4) hL (by decide +kernel) oO_30 fF_3_18 (at_161) (by decide) rfl ?_
  refine w_bipush (n := 6) (v := 10) (x := 10) (by decide +kernel) rfl (by decide) ?_
  by_cases c9 : ak_I M 161 2 = 10
  · rw [if_pos c9] at h
    refine w_icmp_ne_n (n := 9) (off := 19) (by decide +kernel) rfl c9 ?_
    refine w_aload_n (n := 10) (i := 0) (by decide +kernel) rfl rfl ?_
    refine w_aload_n (n := 11) (i := 0) (by decide +kernel) rfl rfl ?_
    refine w_getI (n := 14) hL (by decide +kernel) oO_30 fF_3_22 (at_161) (by decide) rfl ?_
    refine w_iconst (n := 15) (v := 1) (x := 1) (by decide +kernel) rfl (by decide) ?_
    refine w_iadd (n := 16) (by decide +kernel) rfl ?_
    refine w_bipush (n := 18) (v := 10) (x := 10) (by decide +kernel) rfl (by decide) ?_
    refine w_irem (n := 19) (by decide +kernel) rfl (by decide) ?_
    refine w_putI (n := 22) hL (by decide +kernel) oO_30 fF_3_22 (at_161) ⟨by decide, Or.inl (by decide)⟩ rfl ?_
    generalize eM5 : ak_sI M 161 1 (((ak_I M 161 1) + 1) - ((ak_I M 161 1) + 1) / 10 * 10) = M5
    have hLM5 : ab_lay M5 := by rw [← eM5]; exact ab_lay.sI hL
    replace h := h M5 eM5.symm
    refine w_goto (n := 35) (off := 13) (by decide +kernel) (by decide) ?_
    refine w_aload_n (n := 36) (i := 0) (by decide +kernel) rfl rfl ?_
    refine w_getR (n := 39) hLM5 (by decide +kernel) oO_30 fF_3_11 (at_161) (by decide) (ar_161_0) rfl ?_
    refine w_aload_n (n := 40) (i := 0) (by decide +kernel) rfl rfl ?_
    refine w_getI (n := 43) hLM5 (by decide +kernel) oO_30 fF_3_22 (at_161) (by decide) rfl ?_
    refine w_aload_n (n := 44) (i := 0) (by decide +kernel) rfl rfl ?_
    refine w_getI (n := 47) hLM5 (by decide +kernel) oO_30 fF_3_18 (at_161) (by decide) rfl ?_
    refine w_iadd (n := 48) (by decide +kernel) rfl ?_
    refine w_iconst (n := 49) (v := 1) (x := 1) (by decide +kernel) rfl (by decide) ?_
    refine w_isub (n := 50) (by decide +kernel) rfl ?_
    refine w_bipush (n := 52) (v := 10) (x := 10) (by decide +kernel) rfl (by decide) ?_
    refine w_irem (n := 53) (by decide +kernel) rfl (by decide) ?_
    obtain ⟨i6, hi6, gi6, h⟩ := h
    refine w_aald (n := 54) hLM5 (by decide +kernel) (at_162) (by decide) (an_162) gi6 (ai_H hi6) rfl ?_
    refine w_aload_n (n := 55) (i := 1) (by decide +kernel) rfl rfl ?_
    obtain ⟨M7, hLM7, hr8, h⟩ := h
    refine w_cV (n := 58) (idx := 25) (cal := 10) (na := 1) (nl := 2) (as := [.ref b1]) (rest := []) hLM5 (by decide +kernel) (by decide +kernel) (af_F (af_H hi6)) (by decide +kernel) rfl rfl rfl (Nat.le_of_ble_eq_true rfl) rfl hr8 ?_
    subst h
    exact w_vreturn (by decide +kernel) (by decide +kernel)
  · rw [if_neg c9] at h
    refine w_icmp_ne_j (n := 25) (off := 19) (by decide +kernel) (by decide) c9 ?_
    refine w_aload_n (n := 26) (i := 0) (by decide +kernel) rfl rfl ?_
    refine w_dup_ref (n := 27) (by decide +kernel) rfl ?_
    refine w_getI (n := 30) hL (by decide +kernel) oO_30 fF_3_18 (at_161) (by decide) rfl ?_
    refine w_iconst (n := 31) (v := 1) (x := 1) (by decide +kernel) rfl (by decide) ?_
    refine w_iadd (n := 32) (by decide +kernel) rfl ?_
    refine w_putI (n := 35) hL (by decide +kernel) oO_30 fF_3_18 (at_161) ⟨by decide, Or.inl (by decide)⟩ rfl ?_
    generalize eM1 : ak_sI M 161 2 ((ak_I M 161 2) + 1) = M1
    have hLM1 : ab_lay M1 := by rw [← eM1]; exact ab_lay.sI hL
    replace h := h M1 eM1.symm
    refine w_aload_n (n := 36) (i := 0) (by decide +kernel) rfl rfl ?_
    refine w_getR (n := 39) hLM1 (by decide +kernel) oO_30 fF_3_11 (at_161) (by decide) (ar_161_0) rfl ?_
    refine w_aload_n (n := 40) (i := 0) (by decide +kernel) rfl rfl ?_
    refine w_getI (n := 43) hLM1 (by decide +kernel) oO_30 fF_3_22 (at_161) (by decide) rfl ?_
    refine w_aload_n (n := 44) (i := 0) (by decide +kernel) rfl rfl ?_
    refine w_getI (n := 47) hLM1 (by decide +kernel) oO_30 fF_3_18 (at_161) (by decide) rfl ?_
    refine w_iadd (n := 48) (by decide +kernel) rfl ?_
    refine w_iconst (n := 49) (v := 1) (x := 1) (by decide +kernel) rfl (by decide) ?_
    refine w_isub (n := 50) (by decide +kernel) rfl ?_
    refine w_bipush (n := 52) (v := 10) (x := 10) (by decide +kernel) rfl (by decide) ?_
    refine w_irem (n := 53) (by decide +kernel) rfl (by decide) ?_
    obtain ⟨i2, hi2, gi2, h⟩ := h
    refine w_aald (n := 54) hLM1 (by decide +kernel) (at_162) (by decide) (an_162) gi2 (ai_H hi2) rfl ?_
    refine w_aload_n (n := 55) (i := 1) (by decide +kernel) rfl rfl ?_
    obtain ⟨M3, hLM3, hr4, h⟩ := h
    refine w_cV (n := 58) (idx := 25) (cal := 10) (na := 1) (nl := 2) (as := [.ref b1]) (rest := []) hLM1 (by decide +kernel) (by decide +kernel) (af_F (af_H hi2)) (by decide +kernel) rfl rfl rfl (Nat.le_of_ble_eq_true rfl) rfl hr4 ?_
    subst h
    exact w_vreturn (by decide +kernel) (by decide +kernel)
theorem t_31 {X : ak_X} {M : ak_M} {r : ak_O × ak_M} (hL : ab_lay M) {b1 : Nat} (hb1 : b1 ∈ ab_fb) (h : (if ak_I M 161 2 ≤ 0 then r = (.inl none, M) else (∀ M1 : ak_M, M1 = ak_sI M 161 2 ((ak_I M 161 2) - 1) → (∃ i2 : Nat, i2 < 10 ∧ ab_ix (((ak_I M1 161 1) + (ak_I M1 161 2)) - ((ak_I M1 161 1) + (ak_I M1 161 2)) / 10 * 10) i2 10 ∧ (∃ (M3 : ak_M), ab_lay M3 ∧ rn X 10 [.ref b1, .ref (163 + 32 * i2)] M1 (.inl (none), M3) ∧ r = (.inl none, M3)))))) : rn X 31 [.ref 161, .ref b1] M r := by
  refine w_rn (nL := 2) (l1 := [some (.ref 161), some (.ref b1)]) (by decide +kernel) rfl rfl ?_
  refine w_aload_n (n := 1) (i := 0) (by decide +kernel) rfl rfl ?_
  refine w_getI (n := 4) hL (by decide +kernel) oO_31 fF_3_18 (at_161) (by decide) rfl ?_
  by_cases c5 : ak_I M 161 2 ≤ 0
  · rw [if_pos c5] at h
    refine w_if_le_j (n := 38) (off := 34) (by decide +kernel) (by decide) c5 ?_
    subst h
    exact w_vreturn (by decide +kernel) (by decide +kernel)
  · rw [if_neg c5] at h
    refine w_if_le_n (n := 7) (off := 34) (by decide +kernel) rfl c5 ?_
    refine w_aload_n (n := 8) (i := 0) (by decide +kernel) rfl rfl ?_
    refine w_dup_ref (n := 9) (by decide +kernel) rfl ?_
    refine w_getI (n := 12) hL (by decide +kernel) oO_31 fF_3_18 (at_161) (by decide) rfl ?_
    refine w_iconst (n := 13) (v := 1) (x := 1) (by decide +kernel) rfl (by decide) ?_
    refine w_isub (n := 14) (by decide +kernel) rfl ?_
    refine w_putI (n := 17) hL (by decide +kernel) oO_31 fF_3_18 (at_161) ⟨by decide, Or.inl (by decide)⟩ rfl ?_
    generalize eM1 : ak_sI M 161 2 ((ak_I M 161 2) - 1) = M1
    have hLM1 : ab_lay M1 := by rw [← eM1]; exact ab_lay.sI hL
    replace h := h M1 eM1.symm
    refine w_aload_n (n := 18) (i := 1) (by decide +kernel) rfl rfl ?_
    refine w_aload_n (n := 19) (i := 0) (by decide +kernel) rfl rfl ?_
    refine w_getR (n := 22) hLM1 (by decide +kernel) oO_31 fF_3_11 (at_161) (by decide) (ar_161_0) rfl ?_
    refine w_aload_n (n := 23) (i := 0) (by decide +kernel) rfl rfl ?_
    refine w_getI (n := 26) hLM1 (by decide +kernel) oO_31 fF_3_22 (at_161) (by decide) rfl ?_
    refine w_aload_n (n := 27) (i := 0) (by decide +kernel) rfl rfl ?_
    refine w_getI (n := 30) hLM1 (by decide +kernel) oO_31 fF_3_18 (at_161) (by decide) rfl ?_
    refine w_iadd (n := 31) (by decide +kernel) rfl ?_
    refine w_bipush (n := 33) (v := 10) (x := 10) (by decide +kernel) rfl (by decide) ?_
    refine w_irem (n := 34) (by decide +kernel) rfl (by decide) ?_
    obtain ⟨i2, hi2, gi2, h⟩ := h
    refine w_aald (n := 35) hLM1 (by decide +kernel) (at_162) (by decide) (an_162) gi2 (ai_H hi2) rfl ?_
    obtain ⟨M3, hLM3, hr4, h⟩ := h
    refine w_cV (n := 38) (idx := 25) (cal := 10) (na := 1) (nl := 2) (as := [.ref (163 + 32 * i2)]) (rest := []) hLM1 (by decide +kernel) (by decide +kernel) (af_F hb1) (by decide +kernel) rfl rfl rfl (Nat.le_of_ble_eq_true rfl) rfl hr4 ?_
    subst h
    exact w_vreturn (by decide +kernel) (by decide +kernel)
theorem t_33 {X : ak_X} {M : ak_M} {r : ak_O × ak_M} (hL : ab_lay M) (x1 : Int32) (h : sg X 33 (3, [some (.ref 1), some (.int x1), some (.int 24)], [], []) M r) : rn X 33 [.ref 1, .int x1] M r := by
  refine w_rn (nL := 3) (l1 := [some (.ref 1), some (.int x1), none]) (by decide +kernel) rfl rfl ?_
  refine w_bipush (n := 2) (v := 24) (x := 24) (by decide +kernel) rfl (by decide) ?_
  refine w_istore_n (n := 3) (i := 2) (l1' := [some (.ref 1), some (.int x1), some (.int 24)]) (l2' := []) (by decide +kernel) rfl (Nat.le_of_ble_eq_true rfl) rfl rfl ?_
  exact h
theorem t_33_3 {X : ak_X} {M : ak_M} {r : ak_O × ak_M} (hL : ab_lay M) (x1 : Int32) (y2 : Int32) (h : (if y2 < 0 then r = (.inl none, M) else (if 700 ≤ ak_I M 1 1 then sg X 33 (3, [some (.ref 1), some (.int x1), some (.int (y2 + (-8)))], [], []) M r else (∃ i1 : Nat, ab_ix (ak_I M 1 1) i1 700 ∧ (∀ M2 : ak_M, M2 = ak_sI M 2 i1 (vp_nar .byte ((x1 >>> (y2 &&& 31)).toInt8.toInt32)) → (∀ M3 : ak_M, M3 = ak_sI M2 1 1 ((ak_I M2 1 1) + 1) → sg X 33 (3, [some (.ref 1), some (.int x1), some (.int (y2 + (-8)))], [], []) M3 r)))))) : sg X 33 (3, [some (.ref 1), some (.int x1), some (.int y2)], [], []) M r := by
  refine w_iload_n (n := 4) (i := 2) (by decide +kernel) rfl rfl ?_
  by_cases c5 : y2 < 0
  · rw [if_pos c5] at h
    refine w_if_lt_j (n := 46) (off := 42) (by decide +kernel) (by decide) c5 ?_
    subst h
    exact w_vreturn (by decide +kernel) (by decide +kernel)
  · rw [if_neg c5] at h
    refine w_if_lt_n (n := 7) (off := 42) (by decide +kernel) rfl c5 ?_
    refine w_aload_n (n := 8) (i := 0) (by decide +kernel) rfl rfl ?_
    refine w_getI (n := 11) hL (by decide +kernel) oO_33 fF_4_15 (at_1) (by decide) rfl ?_
    refine w_sipush (n := 14) (v := 700) (x := 700) (by decide +kernel) rfl (by decide) ?_
    by_cases c4 : 700 ≤ ak_I M 1 1
    · rw [if_pos c4] at h
      refine w_icmp_ge_j (n := 40) (off := 26) (by decide +kernel) (by decide) c4 ?_
      refine w_iinc (n := 43) (i := 2) (v := -8) (y := y2 + (-8)) (l1' := [some (.ref 1), some (.int x1), some (.int (y2 + (-8)))]) (l2' := []) (by decide +kernel) rfl rfl rfl rfl rfl ?_
      refine w_goto (n := 3) (off := (-40)) (by decide +kernel) (by decide) ?_
      exact h
    · rw [if_neg c4] at h
      refine w_icmp_ge_n (n := 17) (off := 26) (by decide +kernel) rfl c4 ?_
      refine w_aload_n (n := 18) (i := 0) (by decide +kernel) rfl rfl ?_
      refine w_getR (n := 21) hL (by decide +kernel) oO_33 fF_4_9 (at_1) (by decide) (ar_1_0) rfl ?_
      refine w_aload_n (n := 22) (i := 0) (by decide +kernel) rfl rfl ?_
      refine w_getI (n := 25) hL (by decide +kernel) oO_33 fF_4_15 (at_1) (by decide) rfl ?_
      refine w_iload_n (n := 26) (i := 1) (by decide +kernel) rfl rfl ?_
      refine w_iload_n (n := 27) (i := 2) (by decide +kernel) rfl rfl ?_
      refine w_ishr (n := 28) (by decide +kernel) rfl ?_
      refine w_i2b (n := 29) (by decide +kernel) rfl ?_
      obtain ⟨i1, gi1, h⟩ := h
      refine w_bast (n := 30) hL (by decide +kernel) (at_2) (an_2) gi1 rfl ?_
      generalize eM2 : ak_sI M 2 i1 (vp_nar .byte ((x1 >>> (y2 &&& 31)).toInt8.toInt32)) = M2
      have hLM2 : ab_lay M2 := by rw [← eM2]; exact ab_lay.sI hL
      replace h := h M2 eM2.symm
      refine w_aload_n (n := 31) (i := 0) (by decide +kernel) rfl rfl ?_
      refine w_dup_ref (n := 32) (by decide +kernel) rfl ?_
      refine w_getI (n := 35) hLM2 (by decide +kernel) oO_33 fF_4_15 (at_1) (by decide) rfl ?_
      refine w_iconst (n := 36) (v := 1) (x := 1) (by decide +kernel) rfl (by decide) ?_
      refine w_iadd (n := 37) (by decide +kernel) rfl ?_
      refine w_putI (n := 40) hLM2 (by decide +kernel) oO_33 fF_4_15 (at_1) ⟨by decide, Or.inl (by decide)⟩ rfl ?_
      generalize eM3 : ak_sI M2 1 1 ((ak_I M2 1 1) + 1) = M3
      have hLM3 : ab_lay M3 := by rw [← eM3]; exact ab_lay.sI hLM2
      replace h := h M3 eM3.symm
      refine w_iinc (n := 43) (i := 2) (v := -8) (y := y2 + (-8)) (l1' := [some (.ref 1), some (.int x1), some (.int (y2 + (-8)))]) (l2' := []) (by decide +kernel) rfl rfl rfl rfl rfl ?_
      refine w_goto (n := 3) (off := (-40)) (by decide +kernel) (by decide) ?_
      exact h
theorem t_48 {X : ak_X} {M : ak_M} {r : ak_O × ak_M} (hL : ab_lay M) {nu0 : Nat} (hn0 : nu0 ∈ ab_nb) (h : (∀ M1 : ak_M, M1 = ak_sI M nu0 2 0 → r = (.inl none, M1))) : rn X 48 [.ref nu0] M r := by
  refine w_rn (nL := 1) (l1 := [some (.ref nu0)]) (by decide +kernel) rfl rfl ?_
  refine w_aload_n (n := 1) (i := 0) (by decide +kernel) rfl rfl ?_
  refine w_iconst (n := 2) (v := 0) (x := 0) (by decide +kernel) rfl (by decide) ?_
  refine w_putI (n := 5) hL (by decide +kernel) oO_48 fF_6_20 (an_N hn0) ⟨by decide, Or.inl (by decide)⟩ rfl ?_
  generalize eM1 : ak_sI M nu0 2 0 = M1
  have hLM1 : ab_lay M1 := by rw [← eM1]; exact ab_lay.sI hL
  replace h := h M1 eM1.symm
  subst h
  exact w_vreturn (by decide +kernel) (by decide +kernel)
theorem t_49 {X : ak_X} {M : ak_M} {r : ak_O × ak_M} (hL : ab_lay M) {nu0 : Nat} (hn0 : nu0 ∈ ab_nb) {nu1 : Nat} (hn1 : nu1 ∈ ab_nb) (h : (∀ M1 : ak_M, M1 = ak_sI M nu0 2 (ak_I M nu1 2) → sg X 49 (10, [some (.ref nu0), some (.ref nu1), some (.int 0), none], [], []) M1 r)) : rn X 49 [.ref nu0, .ref nu1] M r := by
  refine w_rn (nL := 4) (l1 := [some (.ref nu0), some (.ref nu1), none, none]) (by decide +kernel) rfl rfl ?_
  refine w_aload_n (n := 1) (i := 0) (by decide +kernel) rfl rfl ?_
  refine w_aload_n (n := 2) (i := 1) (by decide +kernel) rfl rfl ?_
  refine w_getI (n := 5) hL (by decide +kernel) oO_49 fF_6_20 (an_N hn1) (by decide) rfl ?_
  refine w_putI (n := 8) hL (by decide +kernel) oO_49 fF_6_20 (an_N hn0) ⟨by decide, Or.inl (by decide)⟩ rfl ?_
  generalize eM1 : ak_sI M nu0 2 (ak_I M nu1 2) = M1
  have hLM1 : ab_lay M1 := by rw [← eM1]; exact ab_lay.sI hL
  replace h := h M1 eM1.symm
  refine w_iconst (n := 9) (v := 0) (x := 0) (by decide +kernel) rfl (by decide) ?_
  refine w_istore_n (n := 10) (i := 2) (l1' := [some (.ref nu0), some (.ref nu1), some (.int 0), none]) (l2' := []) (by decide +kernel) rfl (Nat.le_of_ble_eq_true rfl) rfl rfl ?_
  exact h
theorem t_49_10 {X : ak_X} {M : ak_M} {r : ak_O × ak_M} (hL : ab_lay M) {nu0 : Nat} (hn0 : nu0 ∈ ab_nb) {nu1 : Nat} (hn1 : nu1 ∈ ab_nb) (y2 : Int32) (o3 : Option Value) (h : (if ak_I M nu0 2 ≤ y2 then r = (.inl none, M) else (∃ i2 : Nat, ab_ix y2 i2 10 ∧ (∃ i3 : Nat, ab_ix y2 i3 10 ∧ (∀ M4 : ak_M, M4 = ak_sI M (nu0 + 12) i3 (ak_I M (nu1 + 12) i2) → sg X 49 (32, [some (.ref nu0), some (.ref nu1), some (.int y2), some (.int 0)], [], []) M4 r))))) : sg X 49 (10, [some (.ref nu0), some (.ref nu1), some (.int y2), o3], [], []) M r := by
  refine w_iload_n (n := 11) (i := 2) (by decide +kernel) rfl rfl ?_
  refine w_aload_n (n := 12) (i := 0) (by decide +kernel) rfl rfl ?_
  refine w_getI (n := 15) hL (by decide +kernel) oO_49 fF_6_20 (an_N hn0) (by decide) rfl ?_
  by_cases c5 : ak_I M nu0 2 ≤ y2
  · rw [if_pos c5] at h
    refine w_icmp_ge_j (n := 70) (off := 55) (by decide +kernel) (by decide) c5 ?_
    subst h
    exact w_vreturn (by decide +kernel) (by decide +kernel)
  · rw [if_neg c5] at h
    refine w_icmp_ge_n (n := 18) (off := 55) (by decide +kernel) rfl c5 ?_
    refine w_aload_n (n := 19) (i := 0) (by decide +kernel) rfl rfl ?_
    refine w_getR (n := 22) hL (by decide +kernel) oO_49 fF_6_16 (an_N hn0) (by decide) (ah_L hn0) rfl ?_
    refine w_iload_n (n := 23) (i := 2) (by decide +kernel) rfl rfl ?_
    refine w_aload_n (n := 24) (i := 1) (by decide +kernel) rfl rfl ?_
    refine w_getR (n := 27) hL (by decide +kernel) oO_49 fF_6_16 (an_N hn1) (by decide) (ah_L hn1) rfl ?_
    refine w_iload_n (n := 28) (i := 2) (by decide +kernel) rfl rfl ?_
    obtain ⟨i2, gi2, h⟩ := h
    refine w_iald (n := 29) hL (by decide +kernel) (an_L hn1) (ay_L hn1) gi2 rfl ?_
    obtain ⟨i3, gi3, h⟩ := h
    refine w_iast (n := 30) hL (by decide +kernel) (an_L hn0) (ay_L hn0) gi3 rfl ?_
    generalize eM4 : ak_sI M (nu0 + 12) i3 (ak_I M (nu1 + 12) i2) = M4
    have hLM4 : ab_lay M4 := by rw [← eM4]; exact ab_lay.sI hL
    replace h := h M4 eM4.symm
    refine w_iconst (n := 31) (v := 0) (x := 0) (by decide +kernel) rfl (by decide) ?_
    refine w_istore_n (n := 32) (i := 3) (l1' := [some (.ref nu0), some (.ref nu1), some (.int y2), some (.int 0)]) (l2' := []) (by decide +kernel) rfl (Nat.le_of_ble_eq_true rfl) rfl rfl ?_
    exact h
theorem t_49_32 {X : ak_X} {M : ak_M} {r : ak_O × ak_M} (hL : ab_lay M) {nu0 : Nat} (hn0 : nu0 ∈ ab_nb) {nu1 : Nat} (hn1 : nu1 ∈ ab_nb) (y2 : Int32) (y3 : Int32) (h : (∃ i6 : Nat, ab_ix y2 i6 10 ∧ (if ak_I M (nu0 + 12) i6 ≤ y3 then sg X 49 (10, [some (.ref nu0), some (.ref nu1), some (.int (y2 + 1)), some (.int y3)], [], []) M r else (∃ i7 : Nat, i7 < 10 ∧ ab_ix y2 i7 10 ∧ (∃ i8 : Nat, i8 < 10 ∧ ab_ix y2 i8 10 ∧ (∃ i9 : Nat, ab_ix y3 i9 6 ∧ (∃ i10 : Nat, ab_ix y3 i10 6 ∧ (∀ M11 : ak_M, M11 = ak_sI M (nu0 + 2 + i7) i10 (vp_nar .byte (ak_I M (nu1 + 2 + i8) i9)) → sg X 49 (32, [some (.ref nu0), some (.ref nu1), some (.int y2), some (.int (y3 + 1))], [], []) M11 r)))))))) : sg X 49 (32, [some (.ref nu0), some (.ref nu1), some (.int y2), some (.int y3)], [], []) M r := by
  refine w_iload_n (n := 33) (i := 3) (by decide +kernel) rfl rfl ?_
  refine w_aload_n (n := 34) (i := 0) (by decide +kernel) rfl rfl ?_
  refine w_getR (n := 37) hL (by decide +kernel) oO_49 fF_6_16 (an_N hn0) (by decide) (ah_L hn0) rfl ?_
  refine w_iload_n (n := 38) (i := 2) (by decide +kernel) rfl rfl ?_
  obtain ⟨i6, gi6, h⟩ := h
  refine w_iald (n := 39) hL (by decide +kernel) (an_L hn0) (ay_L hn0) gi6 rfl ?_
  by_cases c12 : ak_I M (nu0 + 12) i6 ≤ y3
  · rw [if_pos c12] at h
    refine w_icmp_ge_j (n := 64) (off := 25) (by decide +kernel) (by decide) c12 ?_
    refine w_iinc (n := 67) (i := 2) (v := 1) (y := y2 + 1) (l1' := [some (.ref nu0), some (.ref nu1), some (.int (y2 + 1)), some (.int y3)]) (l2' := []) (by decide +kernel) rfl rfl rfl rfl rfl ?_
    refine w_goto (n := 10) (off := (-57)) (by decide +kernel) (by decide) ?_
    exact h
  · rw [if_neg c12] at h
    refine w_icmp_ge_n (n := 42) (off := 25) (by decide +kernel) rfl c12 ?_
    refine w_aload_n (n := 43) (i := 0) (by decide +kernel) rfl rfl ?_
    refine w_getR (n := 46) hL (by decide +kernel) oO_49 fF_6_11 (an_N hn0) (by decide) (ah_R hn0) rfl ?_
    refine w_iload_n (n := 47) (i := 2) (by decide +kernel) rfl rfl ?_
    obtain ⟨i7, hi7, gi7, h⟩ := h
    refine w_aald (n := 48) hL (by decide +kernel) (an_R hn0) (by decide) (ay_R hn0) gi7 (ai_NR hn0 hi7) rfl ?_
    refine w_iload_n (n := 49) (i := 3) (by decide +kernel) rfl rfl ?_
    refine w_aload_n (n := 50) (i := 1) (by decide +kernel) rfl rfl ?_
    refine w_getR (n := 53) hL (by decide +kernel) oO_49 fF_6_11 (an_N hn1) (by decide) (ah_R hn1) rfl ?_
    refine w_iload_n (n := 54) (i := 2) (by decide +kernel) rfl rfl ?_
    obtain ⟨i8, hi8, gi8, h⟩ := h
    refine w_aald (n := 55) hL (by decide +kernel) (an_R hn1) (by decide) (ay_R hn1) gi8 (ai_NR hn1 hi8) rfl ?_
    refine w_iload_n (n := 56) (i := 3) (by decide +kernel) rfl rfl ?_
    obtain ⟨i9, gi9, h⟩ := h
    refine w_bald (n := 57) hL (by decide +kernel) (an_B hn1 hi8) (by decide) (ay_B hn1 hi8) gi9 rfl ?_
    obtain ⟨i10, gi10, h⟩ := h
    refine w_bast (n := 58) hL (by decide +kernel) (an_B hn0 hi7) (ay_B hn0 hi7) gi10 rfl ?_
    generalize eM11 : ak_sI M (nu0 + 2 + i7) i10 (vp_nar .byte (ak_I M (nu1 + 2 + i8) i9)) = M11
    have hLM11 : ab_lay M11 := by rw [← eM11]; exact ab_lay.sI hL
    replace h := h M11 eM11.symm
    refine w_iinc (n := 61) (i := 3) (v := 1) (y := y3 + 1) (l1' := [some (.ref nu0), some (.ref nu1), some (.int y2), some (.int (y3 + 1))]) (l2' := []) (by decide +kernel) rfl rfl rfl rfl rfl ?_
    refine w_goto (n := 32) (off := (-29)) (by decide +kernel) (by decide) ?_
    exact h
theorem t_50 {X : ak_X} {M : ak_M} {r : ak_O × ak_M} (hL : ab_lay M) {nu0 : Nat} (hn0 : nu0 ∈ ab_nb) (x2 : Int32) (x3 : Int32) (h : (if 10 ≤ ak_I M nu0 2 then r = (.inl none, M) else (if 6 < x3 then r = (.inl none, M) else (if Int32.ofNat 700 < x2 + x3 then r = (.inl none, M) else sg X 50 (26, [some (.ref nu0), some (.ref 2), some (.int x2), some (.int x3), some (.int 0)], [], []) M r)))) : rn X 50 [.ref nu0, .ref 2, .int x2, .int x3] M r := by
  refine w_rn (nL := 5) (l1 := [some (.ref nu0), some (.ref 2), some (.int x2), some (.int x3), none]) (by decide +kernel) rfl rfl ?_
  refine w_aload_n (n := 1) (i := 0) (by decide +kernel) rfl rfl ?_
  refine w_getI (n := 4) hL (by decide +kernel) oO_50 fF_6_20 (an_N hn0) (by decide) rfl ?_
  refine w_bipush (n := 6) (v := 10) (x := 10) (by decide +kernel) rfl (by decide) ?_
  by_cases c3 : 10 ≤ ak_I M nu0 2
  · rw [if_pos c3] at h
    refine w_icmp_ge_j (n := 76) (off := 70) (by decide +kernel) (by decide) c3 ?_
    subst h
    exact w_vreturn (by decide +kernel) (by decide +kernel)
  · rw [if_neg c3] at h
    refine w_icmp_ge_n (n := 9) (off := 70) (by decide +kernel) rfl c3 ?_
    refine w_iload_n (n := 10) (i := 3) (by decide +kernel) rfl rfl ?_
    refine w_bipush (n := 12) (v := 6) (x := 6) (by decide +kernel) rfl (by decide) ?_
    by_cases c2 : 6 < x3
    · rw [if_pos c2] at h
      refine w_icmp_gt_j (n := 76) (off := 64) (by decide +kernel) (by decide) c2 ?_
      subst h
      exact w_vreturn (by decide +kernel) (by decide +kernel)
    · rw [if_neg c2] at h
      refine w_icmp_gt_n (n := 15) (off := 64) (by decide +kernel) rfl c2 ?_
      refine w_iload_n (n := 16) (i := 2) (by decide +kernel) rfl rfl ?_
      refine w_iload_n (n := 17) (i := 3) (by decide +kernel) rfl rfl ?_
      refine w_iadd (n := 18) (by decide +kernel) rfl ?_
      refine w_aload_n (n := 19) (i := 1) (by decide +kernel) rfl rfl ?_
      refine w_alen (n := 20) hL (by decide +kernel) (at_2) (by decide) (an_2) rfl ?_
      by_cases c1 : Int32.ofNat 700 < x2 + x3
      · rw [if_pos c1] at h
        refine w_icmp_gt_j (n := 76) (off := 56) (by decide +kernel) (by decide) c1 ?_
        subst h
        exact w_vreturn (by decide +kernel) (by decide +kernel)
      · rw [if_neg c1] at h
        refine w_icmp_gt_n (n := 23) (off := 56) (by decide +kernel) rfl c1 ?_
        refine w_iconst (n := 24) (v := 0) (x := 0) (by decide +kernel) rfl (by decide) ?_
        refine w_istore (n := 26) (i := 4) (l1' := [some (.ref nu0), some (.ref 2), some (.int x2), some (.int x3), some (.int 0)]) (l2' := []) (by decide +kernel) rfl (Nat.le_of_ble_eq_true rfl) rfl rfl ?_
        exact h
theorem t_50_26 {X : ak_X} {M : ak_M} {r : ak_O × ak_M} (hL : ab_lay M) {nu0 : Nat} (hn0 : nu0 ∈ ab_nb) (x2 : Int32) (x3 : Int32) (y4 : Int32) (h : (if x3 ≤ y4 then (∃ i4 : Nat, ab_ix (ak_I M nu0 2) i4 10 ∧ (∀ M5 : ak_M, M5 = ak_sI M (nu0 + 12) i4 x3 → (∀ M6 : ak_M, M6 = ak_sI M5 nu0 2 ((ak_I M5 nu0 2) + 1) → r = (.inl none, M6)))) else (∃ i7 : Nat, i7 < 10 ∧ ab_ix (ak_I M nu0 2) i7 10 ∧ (∃ i8 : Nat, ab_ix (x2 + y4) i8 700 ∧ (∃ i9 : Nat, ab_ix y4 i9 6 ∧ (∀ M10 : ak_M, M10 = ak_sI M (nu0 + 2 + i7) i9 (vp_nar .byte (ak_I M 2 i8)) → sg X 50 (26, [some (.ref nu0), some (.ref 2), some (.int x2), some (.int x3), some (.int (y4 + 1))], [], []) M10 r)))))) : sg X 50 (26, [some (.ref nu0), some (.ref 2), some (.int x2), some (.int x3), some (.int y4)], [], []) M r := by
  refine w_iload (n := 28) (i := 4) (by decide +kernel) rfl rfl ?_
  refine w_iload_n (n := 29) (i := 3) (by decide +kernel) rfl rfl ?_
  by_cases c11 : x3 ≤ y4
  · rw [if_pos c11] at h
    refine w_icmp_ge_j (n := 56) (off := 27) (by decide +kernel) (by decide) c11 ?_
    refine w_aload_n (n := 57) (i := 0) (by decide +kernel) rfl rfl ?_
    refine w_getR (n := 60) hL (by decide +kernel) oO_50 fF_6_16 (an_N hn0) (by decide) (ah_L hn0) rfl ?_
    refine w_aload_n (n := 61) (i := 0) (by decide +kernel) rfl rfl ?_
    refine w_getI (n := 64) hL (by decide +kernel) oO_50 fF_6_20 (an_N hn0) (by decide) rfl ?_
    refine w_iload_n (n := 65) (i := 3) (by decide +kernel) rfl rfl ?_
    obtain ⟨i4, gi4, h⟩ := h
    refine w_iast (n := 66) hL (by decide +kernel) (an_L hn0) (ay_L hn0) gi4 rfl ?_
    generalize eM5 : ak_sI M (nu0 + 12) i4 x3 = M5
    have hLM5 : ab_lay M5 := by rw [← eM5]; exact ab_lay.sI hL
    replace h := h M5 eM5.symm
    refine w_aload_n (n := 67) (i := 0) (by decide +kernel) rfl rfl ?_
    refine w_dup_ref (n := 68) (by decide +kernel) rfl ?_
    refine w_getI (n := 71) hLM5 (by decide +kernel) oO_50 fF_6_20 (an_N hn0) (by decide) rfl ?_
    refine w_iconst (n := 72) (v := 1) (x := 1) (by decide +kernel) rfl (by decide) ?_
    refine w_iadd (n := 73) (by decide +kernel) rfl ?_
    refine w_putI (n := 76) hLM5 (by decide +kernel) oO_50 fF_6_20 (an_N hn0) ⟨by decide, Or.inl (by decide)⟩ rfl ?_
    generalize eM6 : ak_sI M5 nu0 2 ((ak_I M5 nu0 2) + 1) = M6
    have hLM6 : ab_lay M6 := by rw [← eM6]; exact ab_lay.sI hLM5
    replace h := h M6 eM6.symm
    subst h
    exact w_vreturn (by decide +kernel) (by decide +kernel)
  · rw [if_neg c11] at h
    refine w_icmp_ge_n (n := 32) (off := 27) (by decide +kernel) rfl c11 ?_
    refine w_aload_n (n := 33) (i := 0) (by decide +kernel) rfl rfl ?_
    refine w_getR (n := 36) hL (by decide +kernel) oO_50 fF_6_11 (an_N hn0) (by decide) (ah_R hn0) rfl ?_
    refine w_aload_n (n := 37) (i := 0) (by decide +kernel) rfl rfl ?_
    refine w_getI (n := 40) hL (by decide +kernel) oO_50 fF_6_20 (an_N hn0) (by decide) rfl ?_
    obtain ⟨i7, hi7, gi7, h⟩ := h
    refine w_aald (n := 41) hL (by decide +kernel) (an_R hn0) (by decide) (ay_R hn0) gi7 (ai_NR hn0 hi7) rfl ?_
    refine w_iload (n := 43) (i := 4) (by decide +kernel) rfl rfl ?_
    refine w_aload_n (n := 44) (i := 1) (by decide +kernel) rfl rfl ?_
    refine w_iload_n (n := 45) (i := 2) (by decide +kernel) rfl rfl ?_
    refine w_iload (n := 47) (i := 4) (by decide +kernel) rfl rfl ?_
    refine w_iadd (n := 48) (by decide +kernel) rfl ?_
    obtain ⟨i8, gi8, h⟩ := h
    refine w_bald (n := 49) hL (by decide +kernel) (at_2) (by decide) (an_2) gi8 rfl ?_
    obtain ⟨i9, gi9, h⟩ := h
    refine w_bast (n := 50) hL (by decide +kernel) (an_B hn0 hi7) (ay_B hn0 hi7) gi9 rfl ?_
    generalize eM10 : ak_sI M (nu0 + 2 + i7) i9 (vp_nar .byte (ak_I M 2 i8)) = M10
    have hLM10 : ab_lay M10 := by rw [← eM10]; exact ab_lay.sI hL
    replace h := h M10 eM10.symm
    refine w_iinc (n := 53) (i := 4) (v := 1) (y := y4 + 1) (l1' := [some (.ref nu0), some (.ref 2), some (.int x2), some (.int x3), some (.int (y4 + 1))]) (l2' := []) (by decide +kernel) rfl rfl rfl rfl rfl ?_
    refine w_goto (n := 26) (off := (-27)) (by decide +kernel) (by decide) ?_
    exact h
theorem t_51 {X : ak_X} {M : ak_M} {r : ak_O × ak_M} (hL : ab_lay M) {nu0 : Nat} (hn0 : nu0 ∈ ab_nb) (x2 : Int32) (x3 : Int32) (h : sg X 51 (3, [some (.ref nu0), some (.ref 2), some (.int x2), some (.int x3), some (.int 0)], [], []) M r) : rn X 51 [.ref nu0, .ref 2, .int x2, .int x3] M r := by
  refine w_rn (nL := 5) (l1 := [some (.ref nu0), some (.ref 2), some (.int x2), some (.int x3), none]) (by decide +kernel) rfl rfl ?_
  refine w_iconst (n := 1) (v := 0) (x := 0) (by decide +kernel) rfl (by decide) ?_
  refine w_istore (n := 3) (i := 4) (l1' := [some (.ref nu0), some (.ref 2), some (.int x2), some (.int x3), some (.int 0)]) (l2' := []) (by decide +kernel) rfl (Nat.le_of_ble_eq_true rfl) rfl rfl ?_
  exact h
theorem t_51_3 {X : ak_X} {M : ak_M} {r : ak_O × ak_M} (hL : ab_lay M) {nu0 : Nat} (hn0 : nu0 ∈ ab_nb) (x2 : Int32) (x3 : Int32) (y4 : Int32) (h : (if ak_I M nu0 2 ≤ y4 then r = (.inl (some (.int ((-1)))), M) else (∃ i1 : Nat, ab_ix y4 i1 10 ∧ (if ak_I M (nu0 + 12) i1 = x3 then (∃ (v3 : Int32) (M2 : ak_M), ab_lay M2 ∧ rn X 52 [.ref nu0, .int y4, .ref 2, .int x2] M (.inl (some (.int v3)), M2) ∧ (if v3 = 0 then sg X 51 (3, [some (.ref nu0), some (.ref 2), some (.int x2), some (.int x3), some (.int (y4 + 1))], [], []) M2 r else r = (.inl (some (.int y4)), M2))) else sg X 51 (3, [some (.ref nu0), some (.ref 2), some (.int x2), some (.int x3), some (.int (y4 + 1))], [], []) M r)))) : sg X 51 (3, [some (.ref nu0), some (.ref 2), some (.int x2), some (.int x3), some (.int y4)], [], []) M r := by
  refine w_iload (n := 5) (i := 4) (by decide +kernel) rfl rfl ?_
  refine w_aload_n (n := 6) (i := 0) (by decide +kernel) rfl rfl ?_
  refine w_getI (n := 9) hL (by decide +kernel) oO_51 fF_6_20 (an_N hn0) (by decide) rfl ?_
  by_cases c7 : ak_I M nu0 2 ≤ y4
  · rw [if_pos c7] at h
    refine w_icmp_ge_j (n := 43) (off := 34) (by decide +kernel) (by decide) c7 ?_
    refine w_iconst (n := 44) (v := -1) (x := (-1)) (by decide +kernel) rfl (by decide) ?_
    subst h
    exact w_ireturn (by decide +kernel) (w_okI (by decide +kernel))
  · rw [if_neg c7] at h
    refine w_icmp_ge_n (n := 12) (off := 34) (by decide +kernel) rfl c7 ?_
    refine w_aload_n (n := 13) (i := 0) (by decide +kernel) rfl rfl ?_
    refine w_getR (n := 16) hL (by decide +kernel) oO_51 fF_6_16 (an_N hn0) (by decide) (ah_L hn0) rfl ?_
    refine w_iload (n := 18) (i := 4) (by decide +kernel) rfl rfl ?_
    obtain ⟨i1, gi1, h⟩ := h
    refine w_iald (n := 19) hL (by decide +kernel) (an_L hn0) (ay_L hn0) gi1 rfl ?_
    refine w_iload_n (n := 20) (i := 3) (by decide +kernel) rfl rfl ?_
    by_cases c6 : ak_I M (nu0 + 12) i1 = x3
    · rw [if_pos c6] at h
      refine w_icmp_ne_n (n := 23) (off := 17) (by decide +kernel) rfl c6 ?_
      refine w_aload_n (n := 24) (i := 0) (by decide +kernel) rfl rfl ?_
      refine w_iload (n := 26) (i := 4) (by decide +kernel) rfl rfl ?_
      refine w_aload_n (n := 27) (i := 1) (by decide +kernel) rfl rfl ?_
      refine w_iload_n (n := 28) (i := 2) (by decide +kernel) rfl rfl ?_
      obtain ⟨v3, M2, hLM2, hr5, h⟩ := h
      refine w_cV (n := 31) (idx := 24) (cal := 52) (na := 3) (nl := 4) (as := [.int y4, .ref 2, .int x2]) (rest := []) hL (by decide +kernel) (by decide +kernel) (an_N hn0) (by decide +kernel) rfl rfl rfl (Nat.le_of_ble_eq_true rfl) rfl hr5 ?_
      by_cases c4 : v3 = 0
      · rw [if_pos c4] at h
        refine w_if_eq_j (n := 37) (off := 6) (by decide +kernel) (by decide) c4 ?_
        refine w_iinc (n := 40) (i := 4) (v := 1) (y := y4 + 1) (l1' := [some (.ref nu0), some (.ref 2), some (.int x2), some (.int x3), some (.int (y4 + 1))]) (l2' := []) (by decide +kernel) rfl rfl rfl rfl rfl ?_
        refine w_goto (n := 3) (off := (-37)) (by decide +kernel) (by decide) ?_
        exact h
      · rw [if_neg c4] at h
        refine w_if_eq_n (n := 34) (off := 6) (by decide +kernel) rfl c4 ?_
        refine w_iload (n := 36) (i := 4) (by decide +kernel) rfl rfl ?_
        subst h
        exact w_ireturn (by decide +kernel) (w_okI (by decide +kernel))
    · rw [if_neg c6] at h
      refine w_icmp_ne_j (n := 37) (off := 17) (by decide +kernel) (by decide) c6 ?_
      refine w_iinc (n := 40) (i := 4) (v := 1) (y := y4 + 1) (l1' := [some (.ref nu0), some (.ref 2), some (.int x2), some (.int x3), some (.int (y4 + 1))]) (l2' := []) (by decide +kernel) rfl rfl rfl rfl rfl ?_
      refine w_goto (n := 3) (off := (-37)) (by decide +kernel) (by decide) ?_
      exact h
theorem t_52 {X : ak_X} {M : ak_M} {r : ak_O × ak_M} (hL : ab_lay M) {nu0 : Nat} (hn0 : nu0 ∈ ab_nb) (x1 : Int32) (x3 : Int32) (h : sg X 52 (3, [some (.ref nu0), some (.int x1), some (.ref 2), some (.int x3), some (.int 0)], [], []) M r) : rn X 52 [.ref nu0, .int x1, .ref 2, .int x3] M r := by
  refine w_rn (nL := 5) (l1 := [some (.ref nu0), some (.int x1), some (.ref 2), some (.int x3), none]) (by decide +kernel) rfl rfl ?_
  refine w_iconst (n := 1) (v := 0) (x := 0) (by decide +kernel) rfl (by decide) ?_
  refine w_istore (n := 3) (i := 4) (l1' := [some (.ref nu0), some (.int x1), some (.ref 2), some (.int x3), some (.int 0)]) (l2' := []) (by decide +kernel) rfl (Nat.le_of_ble_eq_true rfl) rfl rfl ?_
  exact h
theorem t_52_3 {X : ak_X} {M : ak_M} {r : ak_O × ak_M} (hL : ab_lay M) {nu0 : Nat} (hn0 : nu0 ∈ ab_nb) (x1 : Int32) (x3 : Int32) (y4 : Int32) (h : (∃ i1 : Nat, ab_ix x1 i1 10 ∧ (if ak_I M (nu0 + 12) i1 ≤ y4 then r = (.inl (some (.int 1)), M) else (if Int32.ofNat 700 ≤ x3 + y4 then r = (.inl (some (.int 0)), M) else (∃ i2 : Nat, ab_ix (x3 + y4) i2 700 ∧ (∃ i3 : Nat, i3 < 10 ∧ ab_ix x1 i3 10 ∧ (∃ i4 : Nat, ab_ix y4 i4 6 ∧ (if ak_I M 2 i2 = ak_I M (nu0 + 2 + i3) i4 then sg X 52 (3, [some (.ref nu0), some (.int x1), some (.ref 2), some (.int x3), some (.int (y4 + 1))], [], []) M r else r = (.inl (some (.int 0)), M))))))))) : sg X 52 (3, [some (.ref nu0), some (.int x1), some (.ref 2), some (.int x3), some (.int y4)], [], []) M r := by
  refine w_iload (n := 5) (i := 4) (by decide +kernel) rfl rfl ?_
  refine w_aload_n (n := 6) (i := 0) (by decide +kernel) rfl rfl ?_
  refine w_getR (n := 9) hL (by decide +kernel) oO_52 fF_6_16 (an_N hn0) (by decide) (ah_L hn0) rfl ?_
  refine w_iload_n (n := 10) (i := 1) (by decide +kernel) rfl rfl ?_
  obtain ⟨i1, gi1, h⟩ := h
  refine w_iald (n := 11) hL (by decide +kernel) (an_L hn0) (ay_L hn0) gi1 rfl ?_
  by_cases c7 : ak_I M (nu0 + 12) i1 ≤ y4
  · rw [if_pos c7] at h
    refine w_icmp_ge_j (n := 49) (off := 38) (by decide +kernel) (by decide) c7 ?_
    refine w_iconst (n := 50) (v := 1) (x := 1) (by decide +kernel) rfl (by decide) ?_
    subst h
    exact w_ireturn (by decide +kernel) (by decide +kernel)
  · rw [if_neg c7] at h
    refine w_icmp_ge_n (n := 14) (off := 38) (by decide +kernel) rfl c7 ?_
    refine w_iload_n (n := 15) (i := 3) (by decide +kernel) rfl rfl ?_
    refine w_iload (n := 17) (i := 4) (by decide +kernel) rfl rfl ?_
    refine w_iadd (n := 18) (by decide +kernel) rfl ?_
    refine w_aload_n (n := 19) (i := 2) (by decide +kernel) rfl rfl ?_
    refine w_alen (n := 20) hL (by decide +kernel) (at_2) (by decide) (an_2) rfl ?_
    by_cases c6 : Int32.ofNat 700 ≤ x3 + y4
    · rw [if_pos c6] at h
      refine w_icmp_ge_j (n := 41) (off := 21) (by decide +kernel) (by decide) c6 ?_
      refine w_iconst (n := 42) (v := 0) (x := 0) (by decide +kernel) rfl (by decide) ?_
      subst h
      exact w_ireturn (by decide +kernel) (by decide +kernel)
    · rw [if_neg c6] at h
      refine w_icmp_ge_n (n := 23) (off := 21) (by decide +kernel) rfl c6 ?_
      refine w_aload_n (n := 24) (i := 2) (by decide +kernel) rfl rfl ?_
      refine w_iload_n (n := 25) (i := 3) (by decide +kernel) rfl rfl ?_
      refine w_iload (n := 27) (i := 4) (by decide +kernel) rfl rfl ?_
      refine w_iadd (n := 28) (by decide +kernel) rfl ?_
      obtain ⟨i2, gi2, h⟩ := h
      refine w_bald (n := 29) hL (by decide +kernel) (at_2) (by decide) (an_2) gi2 rfl ?_
      refine w_aload_n (n := 30) (i := 0) (by decide +kernel) rfl rfl ?_
      refine w_getR (n := 33) hL (by decide +kernel) oO_52 fF_6_11 (an_N hn0) (by decide) (ah_R hn0) rfl ?_
      refine w_iload_n (n := 34) (i := 1) (by decide +kernel) rfl rfl ?_
      obtain ⟨i3, hi3, gi3, h⟩ := h
      refine w_aald (n := 35) hL (by decide +kernel) (an_R hn0) (by decide) (ay_R hn0) gi3 (ai_NR hn0 hi3) rfl ?_
      refine w_iload (n := 37) (i := 4) (by decide +kernel) rfl rfl ?_
      obtain ⟨i4, gi4, h⟩ := h
      refine w_bald (n := 38) hL (by decide +kernel) (an_B hn0 hi3) (by decide) (ay_B hn0 hi3) gi4 rfl ?_
      by_cases c5 : ak_I M 2 i2 = ak_I M (nu0 + 2 + i3) i4
      · rw [if_pos c5] at h
        refine w_icmp_eq_j (n := 43) (off := 5) (by decide +kernel) (by decide) c5 ?_
        refine w_iinc (n := 46) (i := 4) (v := 1) (y := y4 + 1) (l1' := [some (.ref nu0), some (.int x1), some (.ref 2), some (.int x3), some (.int (y4 + 1))]) (l2' := []) (by decide +kernel) rfl rfl rfl rfl rfl ?_
        refine w_goto (n := 3) (off := (-43)) (by decide +kernel) (by decide) ?_
        exact h
      · rw [if_neg c5] at h
        refine w_icmp_eq_n (n := 41) (off := 5) (by decide +kernel) rfl c5 ?_
        refine w_iconst (n := 42) (v := 0) (x := 0) (by decide +kernel) rfl (by decide) ?_
        subst h
        exact w_ireturn (by decide +kernel) (by decide +kernel)
theorem t_61 {X : ak_X} {M : ak_M} {r : ak_O × ak_M} (hL : ab_lay M) (h : (∀ M1 : ak_M, M1 = ak_sI M 5 5 0 → (∀ M2 : ak_M, M2 = ak_sI M1 5 6 ((-1)) → (∃ (M3 : ak_M), ab_lay M3 ∧ rn X 8 [.ref 6] M2 (.inl (none), M3) ∧ (∃ (M4 : ak_M), ab_lay M4 ∧ rn X 48 [.ref 38] M3 (.inl (none), M4) ∧ (∀ M5 : ak_M, M5 = ak_sI M4 5 3 0 → (∃ (M6 : ak_M), ab_lay M6 ∧ rn X 75 [.ref 51] M5 (.inl (none), M6) ∧ sg X 61 (38, [some (.ref 5), some (.int 0), none], [], []) M6 r))))))) : rn X 61 [.ref 5] M r := by
  refine w_rn (nL := 3) (l1 := [some (.ref 5), none, none]) (by decide +kernel) rfl rfl ?_
  refine w_aload_n (n := 1) (i := 0) (by decide +kernel) rfl rfl ?_
  refine w_iconst (n := 2) (v := 0) (x := 0) (by decide +kernel) rfl (by decide) ?_
  refine w_putI (n := 5) hL (by decide +kernel) oO_61 fF_8_38 (at_5) ⟨by decide, Or.inl (by decide)⟩ rfl ?_
  generalize eM1 : ak_sI M 5 5 0 = M1
  have hLM1 : ab_lay M1 := by rw [← eM1]; exact ab_lay.sI hL
  replace h := h M1 eM1.symm
  refine w_aload_n (n := 6) (i := 0) (by decide +kernel) rfl rfl ?_
  refine w_iconst (n := 7) (v := -1) (x := (-1)) (by decide +kernel) rfl (by decide) ?_
  refine w_putI (n := 10) hLM1 (by decide +kernel) oO_61 fF_8_25 (at_5) ⟨by decide, Or.inl (by decide)⟩ rfl ?_
  generalize eM2 : ak_sI M1 5 6 ((-1)) = M2
  have hLM2 : ab_lay M2 := by rw [← eM2]; exact ab_lay.sI hLM1
  replace h := h M2 eM2.symm
  refine w_aload_n (n := 11) (i := 0) (by decide +kernel) rfl rfl ?_
  refine w_getR (n := 14) hLM2 (by decide +kernel) oO_61 fF_8_12 (at_5) (by decide) (ar_5_0) rfl ?_
  obtain ⟨M3, hLM3, hr9, h⟩ := h
  refine w_cV (n := 17) (idx := 41) (cal := 8) (na := 0) (nl := 1) (as := []) (rest := []) hLM2 (by decide +kernel) (by decide +kernel) (af_F (by decide)) (by decide +kernel) rfl rfl rfl (Nat.le_of_ble_eq_true rfl) rfl hr9 ?_
  refine w_aload_n (n := 18) (i := 0) (by decide +kernel) rfl rfl ?_
  refine w_getR (n := 21) hLM3 (by decide +kernel) oO_61 fF_8_21 (at_5) (by decide) (ar_5_1) rfl ?_
  obtain ⟨M4, hLM4, hr8, h⟩ := h
  refine w_cV (n := 24) (idx := 44) (cal := 48) (na := 0) (nl := 1) (as := []) (rest := []) hLM3 (by decide +kernel) (by decide +kernel) (an_N (by decide)) (by decide +kernel) rfl rfl rfl (Nat.le_of_ble_eq_true rfl) rfl hr8 ?_
  refine w_aload_n (n := 25) (i := 0) (by decide +kernel) rfl rfl ?_
  refine w_iconst (n := 26) (v := 0) (x := 0) (by decide +kernel) rfl (by decide) ?_
  refine w_putI (n := 29) hLM4 (by decide +kernel) oO_61 fF_8_45 (at_5) ⟨by decide, Or.inl (by decide)⟩ rfl ?_
  generalize eM5 : ak_sI M4 5 3 0 = M5
  have hLM5 : ab_lay M5 := by rw [← eM5]; exact ab_lay.sI hLM4
  replace h := h M5 eM5.symm
  refine w_aload_n (n := 30) (i := 0) (by decide +kernel) rfl rfl ?_
  refine w_getR (n := 33) hLM5 (by decide +kernel) oO_61 fF_8_34 (at_5) (by decide) (ar_5_2) rfl ?_
  obtain ⟨M6, hLM6, hr7, h⟩ := h
  refine w_cV (n := 36) (idx := 48) (cal := 75) (na := 0) (nl := 1) (as := []) (rest := []) hLM5 (by decide +kernel) (by decide +kernel) (at_51) (by decide +kernel) rfl rfl rfl (Nat.le_of_ble_eq_true rfl) rfl hr7 ?_
  refine w_iconst (n := 37) (v := 0) (x := 0) (by decide +kernel) rfl (by decide) ?_
  refine w_istore_n (n := 38) (i := 1) (l1' := [some (.ref 5), some (.int 0), none]) (l2' := []) (by decide +kernel) rfl (Nat.le_of_ble_eq_true rfl) rfl rfl ?_
  exact h
theorem t_61_38 {X : ak_X} {M : ak_M} {r : ak_O × ak_M} (hL : ab_lay M) (y1 : Int32) (o2 : Option Value) (h : (if 700 < y1 then (if ak_I M 6 6 = 0 then (∃ (M10 : ak_M), ab_lay M10 ∧ rn X 9 [.ref 6] M (.inl (none), M10) ∧ r = (.inl (some (.int 1)), M10)) else r = (.inl (some (.int 1)), M)) else (if ak_I M 51 1 = 0 then (if ak_I M 6 6 = 0 then (∃ (M13 : ak_M), ab_lay M13 ∧ rn X 9 [.ref 6] M (.inl (none), M13) ∧ r = (.inl (some (.int 1)), M13)) else r = (.inl (some (.int 1)), M)) else (∃ (v17 : Int32) (M16 : ak_M), ab_lay M16 ∧ rn X 72 [.ref 5] M (.inl (some (.int v17)), M16) ∧ (∃ (v19 : Int32) (M18 : ak_M), ab_lay M18 ∧ rn X 62 [.ref 5, .int v17] M16 (.inl (some (.int v19)), M18) ∧ (if v19 = 0 then r = (.inl (some (.int 0)), M18) else (∃ (v21 : Int32) (M20 : ak_M), ab_lay M20 ∧ rn X 70 [.ref 5] M18 (.inl (some (.int v21)), M20) ∧ (if v21 = 0 then r = (.inl (some (.int 0)), M20) else sg X 61 (38, [some (.ref 5), some (.int (y1 + 1)), some (.int v17)], [], []) M20 r)))))))) : sg X 61 (38, [some (.ref 5), some (.int y1), o2], [], []) M r := by
  refine w_iload_n (n := 39) (i := 1) (by decide +kernel) rfl rfl ?_
  refine w_sipush (n := 42) (v := 700) (x := 700) (by decide +kernel) rfl (by decide) ?_
  by_cases c28 : 700 < y1
  · rw [if_pos c28] at h
    refine w_icmp_gt_j (n := 83) (off := 41) (by decide +kernel) (by decide) c28 ?_
    refine w_aload_n (n := 84) (i := 0) (by decide +kernel) rfl rfl ?_
    refine w_getR (n := 87) hL (by decide +kernel) oO_61 fF_8_12 (at_5) (by decide) (ar_5_0) rfl ?_
    refine w_getI (n := 90) hL (by decide +kernel) oO_61 fF_8_66 (af_F (by decide)) (by decide) rfl ?_
    by_cases c12 : ak_I M 6 6 = 0
    · rw [if_pos c12] at h
      refine w_if_ne_n (n := 93) (off := 10) (by decide +kernel) rfl c12 ?_
      refine w_aload_n (n := 94) (i := 0) (by decide +kernel) rfl rfl ?_
      refine w_getR (n := 97) hL (by decide +kernel) oO_61 fF_8_12 (at_5) (by decide) (ar_5_0) rfl ?_
      obtain ⟨M10, hLM10, hr11, h⟩ := h
      refine w_cV (n := 100) (idx := 69) (cal := 9) (na := 0) (nl := 1) (as := []) (rest := []) hL (by decide +kernel) (by decide +kernel) (af_F (by decide)) (by decide +kernel) rfl rfl rfl (Nat.le_of_ble_eq_true rfl) rfl hr11 ?_
      refine w_iconst (n := 101) (v := 1) (x := 1) (by decide +kernel) rfl (by decide) ?_
      subst h
      exact w_ireturn (by decide +kernel) (by decide +kernel)
    · rw [if_neg c12] at h
      refine w_if_ne_j (n := 100) (off := 10) (by decide +kernel) (by decide) c12 ?_
      refine w_iconst (n := 101) (v := 1) (x := 1) (by decide +kernel) rfl (by decide) ?_
      subst h
      exact w_ireturn (by decide +kernel) (by decide +kernel)
  · rw [if_neg c28] at h
    refine w_icmp_gt_n (n := 45) (off := 41) (by decide +kernel) rfl c28 ?_
    refine w_aload_n (n := 46) (i := 0) (by decide +kernel) rfl rfl ?_
    refine w_getR (n := 49) hL (by decide +kernel) oO_61 fF_8_34 (at_5) (by decide) (ar_5_2) rfl ?_
    refine w_getI (n := 52) hL (by decide +kernel) oO_61 fF_8_51 (at_51) (by decide) rfl ?_
    by_cases c27 : ak_I M 51 1 = 0
    · rw [if_pos c27] at h
      refine w_if_eq_j (n := 83) (off := 31) (by decide +kernel) (by decide) c27 ?_
      refine w_aload_n (n := 84) (i := 0) (by decide +kernel) rfl rfl ?_
      refine w_getR (n := 87) hL (by decide +kernel) oO_61 fF_8_12 (at_5) (by decide) (ar_5_0) rfl ?_
      refine w_getI (n := 90) hL (by decide +kernel) oO_61 fF_8_66 (af_F (by decide)) (by decide) rfl ?_
      by_cases c15 : ak_I M 6 6 = 0
      · rw [if_pos c15] at h
        refine w_if_ne_n (n := 93) (off := 10) (by decide +kernel) rfl c15 ?_
        refine w_aload_n (n := 94) (i := 0) (by decide +kernel) rfl rfl ?_
        refine w_getR (n := 97) hL (by decide +kernel) oO_61 fF_8_12 (at_5) (by decide) (ar_5_0) rfl ?_
        obtain ⟨M13, hLM13, hr14, h⟩ := h
        refine w_cV (n := 100) (idx := 69) (cal := 9) (na := 0) (nl := 1) (as := []) (rest := []) hL (by decide +kernel) (by decide +kernel) (af_F (by decide)) (by decide +kernel) rfl rfl rfl (Nat.le_of_ble_eq_true rfl) rfl hr14 ?_
        refine w_iconst (n := 101) (v := 1) (x := 1) (by decide +kernel) rfl (by decide) ?_
        subst h
        exact w_ireturn (by decide +kernel) (by decide +kernel)
      · rw [if_neg c15] at h
        refine w_if_ne_j (n := 100) (off := 10) (by decide +kernel) (by decide) c15 ?_
        refine w_iconst (n := 101) (v := 1) (x := 1) (by decide +kernel) rfl (by decide) ?_
        subst h
        exact w_ireturn (by decide +kernel) (by decide +kernel)
    · rw [if_neg c27] at h
      refine w_if_eq_n (n := 55) (off := 31) (by decide +kernel) rfl c27 ?_
      refine w_aload_n (n := 56) (i := 0) (by decide +kernel) rfl rfl ?_
      obtain ⟨v17, M16, hLM16, hr26, h⟩ := h
      refine w_cV (n := 59) (idx := 54) (cal := 72) (na := 0) (nl := 1) (as := []) (rest := []) hL (by decide +kernel) (by decide +kernel) (at_5) (by decide +kernel) rfl rfl rfl (Nat.le_of_ble_eq_true rfl) rfl hr26 ?_
      refine w_istore_n (n := 60) (i := 2) (l1' := [some (.ref 5), some (.int y1), some (.int v17)]) (l2' := []) (by decide +kernel) rfl (Nat.le_of_ble_eq_true rfl) rfl rfl ?_
      refine w_aload_n (n := 61) (i := 0) (by decide +kernel) rfl rfl ?_
      refine w_iload_n (n := 62) (i := 2) (by decide +kernel) rfl rfl ?_
      obtain ⟨v19, M18, hLM18, hr25, h⟩ := h
      refine w_cV (n := 65) (idx := 58) (cal := 62) (na := 1) (nl := 2) (as := [.int v17]) (rest := []) hLM16 (by decide +kernel) (by decide +kernel) (at_5) (by decide +kernel) rfl rfl rfl (Nat.le_of_ble_eq_true rfl) rfl hr25 ?_
      by_cases c24 : v19 = 0
      · rw [if_pos c24] at h
        refine w_if_eq_j (n := 75) (off := 10) (by decide +kernel) (by decide) c24 ?_
        refine w_iconst (n := 76) (v := 0) (x := 0) (by decide +kernel) rfl (by decide) ?_
        subst h
        exact w_ireturn (by decide +kernel) (by decide +kernel)
      · rw [if_neg c24] at h
        refine w_if_eq_n (n := 68) (off := 10) (by decide +kernel) rfl c24 ?_
        refine w_aload_n (n := 69) (i := 0) (by decide +kernel) rfl rfl ?_
        obtain ⟨v21, M20, hLM20, hr23, h⟩ := h
        refine w_cV (n := 72) (idx := 62) (cal := 70) (na := 0) (nl := 1) (as := []) (rest := []) hLM18 (by decide +kernel) (by decide +kernel) (at_5) (by decide +kernel) rfl rfl rfl (Nat.le_of_ble_eq_true rfl) rfl hr23 ?_
        by_cases c22 : v21 = 0
        · rw [if_pos c22] at h
          refine w_if_ne_n (n := 75) (off := 5) (by decide +kernel) rfl c22 ?_
          refine w_iconst (n := 76) (v := 0) (x := 0) (by decide +kernel) rfl (by decide) ?_
          subst h
          exact w_ireturn (by decide +kernel) (by decide +kernel)
        · rw [if_neg c22] at h
          refine w_if_ne_j (n := 77) (off := 5) (by decide +kernel) (by decide) c22 ?_
          refine w_iinc (n := 80) (i := 1) (v := 1) (y := y1 + 1) (l1' := [some (.ref 5), some (.int (y1 + 1)), some (.int v17)]) (l2' := []) (by decide +kernel) rfl rfl rfl rfl rfl ?_
          refine w_goto (n := 38) (off := (-42)) (by decide +kernel) (by decide) ?_
          exact h
theorem t_62 {X : ak_X} {M : ak_M} {r : ak_O × ak_M} (hL : ab_lay M) (x1 : Int32) (h : (if x1 = 0 then (∃ (v2 : Int32) (M1 : ak_M), ab_lay M1 ∧ rn X 63 [.ref 5] M (.inl (some (.int v2)), M1) ∧ ((v2 = 0 ∨ v2 = 1) ∧ r = (.inl (some (.int v2)), M1))) else (if x1 = 1 then (∃ (v6 : Int32) (M5 : ak_M), ab_lay M5 ∧ rn X 66 [.ref 5] M (.inl (some (.int v6)), M5) ∧ ((v6 = 0 ∨ v6 = 1) ∧ r = (.inl (some (.int v6)), M5))) else (∃ (v10 : Int32) (M9 : ak_M), ab_lay M9 ∧ rn X 151 [.int x1, .int 2, .int 7] M (.inl (some (.int v10)), M9) ∧ (if v10 = 0 then (∃ (v12 : Int32) (M11 : ak_M), ab_lay M11 ∧ rn X 71 [.ref 5, .int 1] M9 (.inl (some (.int v12)), M11) ∧ ((v12 = 0 ∨ v12 = 1) ∧ r = (.inl (some (.int v12)), M11))) else (∃ (v16 : Int32) (M15 : ak_M), ab_lay M15 ∧ rn X 68 [.ref 5, .int (x1 - 2)] M9 (.inl (some (.int v16)), M15) ∧ ((v16 = 0 ∨ v16 = 1) ∧ r = (.inl (some (.int v16)), M15)))))))) : rn X 62 [.ref 5, .int x1] M r := by
  refine w_rn (nL := 2) (l1 := [some (.ref 5), some (.int x1)]) (by decide +kernel) rfl rfl ?_
  refine w_iload_n (n := 1) (i := 1) (by decide +kernel) rfl rfl ?_
  by_cases c21 : x1 = 0
  · rw [if_pos c21] at h
    refine w_lsw (n := 28) (d := 37) (ps := #[(0, 27), (1, 32)]) (o := 27) (by decide +kernel) (by decide) (by rw [c21]; decide) (by decide) ?_
    refine w_aload_n (n := 29) (i := 0) (by decide +kernel) rfl rfl ?_
    obtain ⟨v2, M1, hLM1, hr4, h⟩ := h
    refine w_cV (n := 32) (idx := 72) (cal := 63) (na := 0) (nl := 1) (as := []) (rest := []) hL (by decide +kernel) (by decide +kernel) (at_5) (by decide +kernel) rfl rfl rfl (Nat.le_of_ble_eq_true rfl) rfl hr4 ?_
    obtain ⟨g3, rfl⟩ := h
    exact w_ireturn (by decide +kernel) (w_okZ (by decide +kernel) g3)
  · rw [if_neg c21] at h
    by_cases c22 : x1 = 1
    · rw [if_pos c22] at h
      refine w_lsw (n := 33) (d := 37) (ps := #[(0, 27), (1, 32)]) (o := 32) (by decide +kernel) (by decide) (by rw [c22]; decide) (by decide) ?_
      refine w_aload_n (n := 34) (i := 0) (by decide +kernel) rfl rfl ?_
      obtain ⟨v6, M5, hLM5, hr8, h⟩ := h
      refine w_cV (n := 37) (idx := 75) (cal := 66) (na := 0) (nl := 1) (as := []) (rest := []) hL (by decide +kernel) (by decide +kernel) (at_5) (by decide +kernel) rfl rfl rfl (Nat.le_of_ble_eq_true rfl) rfl hr8 ?_
      obtain ⟨g7, rfl⟩ := h
      exact w_ireturn (by decide +kernel) (w_okZ (by decide +kernel) g7)
    · rw [if_neg c22] at h
      refine w_lsw (n := 38) (d := 37) (ps := #[(0, 27), (1, 32)]) (o := 37) (by decide +kernel) (by decide) ((lv_osw c21 (by decide)).trans ((lv_osw c22 (by decide)).trans rfl)) (by decide) ?_
      refine w_iload_n (n := 39) (i := 1) (by decide +kernel) rfl rfl ?_
      refine w_iconst (n := 40) (v := 2) (x := 2) (by decide +kernel) rfl (by decide) ?_
      refine w_bipush (n := 42) (v := 7) (x := 7) (by decide +kernel) rfl (by decide) ?_
      obtain ⟨v10, M9, hLM9, hr20, h⟩ := h
      refine w_cS (n := 45) (idx := 78) (cal := 151) (na := 3) (nl := 3) (as := [.int x1, .int 2, .int 7]) (rest := []) (by decide +kernel) (by decide +kernel) rfl rfl rfl (Nat.le_of_ble_eq_true rfl) rfl hr20 ?_
      by_cases c19 : v10 = 0
      · rw [if_pos c19] at h
        refine w_if_eq_j (n := 58) (off := 13) (by decide +kernel) (by decide) c19 ?_
        refine w_aload_n (n := 59) (i := 0) (by decide +kernel) rfl rfl ?_
        refine w_iconst (n := 60) (v := 1) (x := 1) (by decide +kernel) rfl (by decide) ?_
        obtain ⟨v12, M11, hLM11, hr14, h⟩ := h
        refine w_cV (n := 63) (idx := 85) (cal := 71) (na := 1) (nl := 2) (as := [.int 1]) (rest := []) hLM9 (by decide +kernel) (by decide +kernel) (at_5) (by decide +kernel) rfl rfl rfl (Nat.le_of_ble_eq_true rfl) rfl hr14 ?_
        obtain ⟨g13, rfl⟩ := h
        exact w_ireturn (by decide +kernel) (w_okZ (by decide +kernel) g13)
      · rw [if_neg c19] at h
        refine w_if_eq_n (n := 48) (off := 13) (by decide +kernel) rfl c19 ?_
        refine w_aload_n (n := 49) (i := 0) (by decide +kernel) rfl rfl ?_
        refine w_iload_n (n := 50) (i := 1) (by decide +kernel) rfl rfl ?_
        refine w_iconst (n := 51) (v := 2) (x := 2) (by decide +kernel) rfl (by decide) ?_
        refine w_isub (n := 52) (by decide +kernel) rfl ?_
        obtain ⟨v16, M15, hLM15, hr18, h⟩ := h
        refine w_cV (n := 55) (idx := 82) (cal := 68) (na := 1) (nl := 2) (as := [.int (x1 - 2)]) (rest := []) hLM9 (by decide +kernel) (by decide +kernel) (at_5) (by decide +kernel) rfl rfl rfl (Nat.le_of_ble_eq_true rfl) rfl hr18 ?_
        refine w_goto (n := 63) (off := 8) (by decide +kernel) (by decide) ?_
        obtain ⟨g17, rfl⟩ := h
        exact w_ireturn (by decide +kernel) (w_okZ (by decide +kernel) g17)
theorem t_63 {X : ak_X} {M : ak_M} {r : ak_O × ak_M} (hL : ab_lay M) (h : (if ak_I M 6 5 = 10 then (∃ (v35 : Int32) (M34 : ak_M), ab_lay M34 ∧ rn X 71 [.ref 5, .int 4] M (.inl (some (.int v35)), M34) ∧ ((v35 = 0 ∨ v35 = 1) ∧ r = (.inl (some (.int v35)), M34))) else (∃ (M1 : ak_M), ab_lay M1 ∧ rn X 76 [.ref 51] M (.inl (none), M1) ∧ (∃ (v3 : Int32) (M2 : ak_M), ab_lay M2 ∧ rn X 64 [.ref 5] M1 (.inl (some (.int v3)), M2) ∧ (if v3 = 0 then r = (.inl (some (.int 0)), M2) else (∃ (v5 : Int32) (M4 : ak_M), ab_lay M4 ∧ rn X 69 [.ref 5, .int 0, .int 199] M2 (.inl (some (.int v5)), M4) ∧ (if v5 = 0 then r = (.inl (some (.int 0)), M4) else (∃ (v7 : Int32) (M6 : ak_M), ab_lay M6 ∧ rn X 69 [.ref 5, .int 0, .int 199] M4 (.inl (some (.int v7)), M6) ∧ (if v7 = 0 then r = (.inl (some (.int 0)), M6) else (∃ i8 : Nat, i8 < 10 ∧ ab_ix (ak_I M6 6 5) i8 10 ∧ (∃ (M9 : ak_M), ab_lay M9 ∧ rn X 36 [.ref (6 + 6 + i8), .int (ak_I M4 5 4), .int (ak_I M6 5 4)] M6 (.inl (none), M9) ∧ (∀ M10 : ak_M, M10 = ak_sI M9 6 5 ((ak_I M9 6 5) + 1) → (∃ (v12 : Int32) (M11 : ak_M), ab_lay M11 ∧ rn X 65 [.ref 5, .int 8, .int 0, .int 9, .int (ak_I M10 (6 + 6 + i8) 8)] M10 (.inl (some (.int v12)), M11) ∧ (if v12 = 0 then r = (.inl (some (.int 0)), M11) else (∀ M13 : ak_M, M13 = ak_sI M11 (6 + 6 + i8) 8 (ak_I M11 5 4) → (∃ (v15 : Int32) (M14 : ak_M), ab_lay M14 ∧ rn X 65 [.ref 5, .int 9, .int 1, .int 99, .int (ak_I M13 (6 + 6 + i8) 9)] M13 (.inl (some (.int v15)), M14) ∧ (if v15 = 0 then r = (.inl (some (.int 0)), M14) else (∀ M16 : ak_M, M16 = ak_sI M14 (6 + 6 + i8) 9 (ak_I M14 5 4) → (∃ (v18 : Int32) (M17 : ak_M), ab_lay M17 ∧ rn X 65 [.ref 5, .int 10, .int 1, .int 400, .int (ak_I M16 (6 + 6 + i8) 6)] M16 (.inl (some (.int v18)), M17) ∧ (if v18 = 0 then r = (.inl (some (.int 0)), M17) else (∀ M19 : ak_M, M19 = ak_sI M17 (6 + 6 + i8) 6 (ak_I M17 5 4) → r = (.inl (some (.int 1)), M19)))))))))))))))))))))) : rn X 63 [.ref 5] M r := by
  refine w_rn (nL := 3) (l1 := [some (.ref 5), none, none]) (by decide +kernel) rfl rfl ?_
  refine w_aload_n (n := 1) (i := 0) (by decide +kernel) rfl rfl ?_
  refine w_getR (n := 4) hL (by decide +kernel) oO_63 fF_8_12 (at_5) (by decide) (ar_5_0) rfl ?_
  refine w_getI (n := 7) hL (by decide +kernel) oO_63 fF_8_88 (af_F (by decide)) (by decide) rfl ?_
  refine w_bipush (n := 9) (v := 10) (x := 10) (by decide +kernel) rfl (by decide) ?_
  by_cases c38 : ak_I M 6 5 = 10
  · rw [if_pos c38] at h
    refine w_icmp_ne_n (n := 12) (off := 9) (by decide +kernel) rfl c38 ?_
    refine w_aload_n (n := 13) (i := 0) (by decide +kernel) rfl rfl ?_
    refine w_iconst (n := 14) (v := 4) (x := 4) (by decide +kernel) rfl (by decide) ?_
    obtain ⟨v35, M34, hLM34, hr37, h⟩ := h
    refine w_cV (n := 17) (idx := 85) (cal := 71) (na := 1) (nl := 2) (as := [.int 4]) (rest := []) hL (by decide +kernel) (by decide +kernel) (at_5) (by decide +kernel) rfl rfl rfl (Nat.le_of_ble_eq_true rfl) rfl hr37 ?_
    obtain ⟨g36, rfl⟩ := h
    exact w_ireturn (by decide +kernel) (w_okZ (by decide +kernel) g36)
  · rw [if_neg c38] at h
    refine w_icmp_ne_j (n := 18) (off := 9) (by decide +kernel) (by decide) c38 ?_
    refine w_aload_n (n := 19) (i := 0) (by decide +kernel) rfl rfl ?_
    refine w_getR (n := 22) hL (by decide +kernel) oO_63 fF_8_34 (at_5) (by decide) (ar_5_2) rfl ?_
    obtain ⟨M1, hLM1, hr33, h⟩ := h
    refine w_cV (n := 25) (idx := 91) (cal := 76) (na := 0) (nl := 1) (as := []) (rest := []) hL (by decide +kernel) (by decide +kernel) (at_51) (by decide +kernel) rfl rfl rfl (Nat.le_of_ble_eq_true rfl) rfl hr33 ?_
    refine w_aload_n (n := 26) (i := 0) (by decide +kernel) rfl rfl ?_
    obtain ⟨v3, M2, hLM2, hr32, h⟩ := h
    refine w_cV (n := 29) (idx := 94) (cal := 64) (na := 0) (nl := 1) (as := []) (rest := []) hLM1 (by decide +kernel) (by decide +kernel) (at_5) (by decide +kernel) rfl rfl rfl (Nat.le_of_ble_eq_true rfl) rfl hr32 ?_
    by_cases c31 : v3 = 0
    · rw [if_pos c31] at h
      refine w_if_eq_j (n := 43) (off := 14) (by decide +kernel) (by decide) c31 ?_
      refine w_iconst (n := 44) (v := 0) (x := 0) (by decide +kernel) rfl (by decide) ?_
      subst h
      exact w_ireturn (by decide +kernel) (by decide +kernel)
    · rw [if_neg c31] at h
      refine w_if_eq_n (n := 32) (off := 14) (by decide +kernel) rfl c31 ?_
      refine w_aload_n (n := 33) (i := 0) (by decide +kernel) rfl rfl ?_
      refine w_iconst (n := 34) (v := 0) (x := 0) (by decide +kernel) rfl (by decide) ?_
      refine w_sipush (n := 37) (v := 199) (x := 199) (by decide +kernel) rfl (by decide) ?_
      obtain ⟨v5, M4, hLM4, hr30, h⟩ := h
      refine w_cV (n := 40) (idx := 97) (cal := 69) (na := 2) (nl := 3) (as := [.int 0, .int 199]) (rest := []) hLM2 (by decide +kernel) (by decide +kernel) (at_5) (by decide +kernel) rfl rfl rfl (Nat.le_of_ble_eq_true rfl) rfl hr30 ?_
      by_cases c29 : v5 = 0
      · rw [if_pos c29] at h
        refine w_if_ne_n (n := 43) (off := 5) (by decide +kernel) rfl c29 ?_
        refine w_iconst (n := 44) (v := 0) (x := 0) (by decide +kernel) rfl (by decide) ?_
        subst h
        exact w_ireturn (by decide +kernel) (by decide +kernel)
      · rw [if_neg c29] at h
        refine w_if_ne_j (n := 45) (off := 5) (by decide +kernel) (by decide) c29 ?_
        refine w_aload_n (n := 46) (i := 0) (by decide +kernel) rfl rfl ?_
        refine w_getI (n := 49) hLM4 (by decide +kernel) oO_63 fF_8_101 (at_5) (by decide) rfl ?_
        refine w_istore_n (n := 50) (i := 1) (l1' := [some (.ref 5), some (.int (ak_I M4 5 4)), none]) (l2' := []) (by decide +kernel) rfl (Nat.le_of_ble_eq_true rfl) rfl rfl ?_
        refine w_aload_n (n := 51) (i := 0) (by decide +kernel) rfl rfl ?_
        refine w_iconst (n := 52) (v := 0) (x := 0) (by decide +kernel) rfl (by decide) ?_
        refine w_sipush (n := 55) (v := 199) (x := 199) (by decide +kernel) rfl (by decide) ?_
        obtain ⟨v7, M6, hLM6, hr28, h⟩ := h
        refine w_cV (n := 58) (idx := 97) (cal := 69) (na := 2) (nl := 3) (as := [.int 0, .int 199]) (rest := []) hLM4 (by decide +kernel) (by decide +kernel) (at_5) (by decide +kernel) rfl rfl rfl (Nat.le_of_ble_eq_true rfl) rfl hr28 ?_
        by_cases c27 : v7 = 0
        · rw [if_pos c27] at h
          refine w_if_ne_n (n := 61) (off := 5) (by decide +kernel) rfl c27 ?_
          refine w_iconst (n := 62) (v := 0) (x := 0) (by decide +kernel) rfl (by decide) ?_
          subst h
          exact w_ireturn (by decide +kernel) (by decide +kernel)
        · rw [if_neg c27] at h
          refine w_if_ne_j (n := 63) (off := 5) (by decide +kernel) (by decide) c27 ?_
          refine w_aload_n (n := 64) (i := 0) (by decide +kernel) rfl rfl ?_
          refine w_getR (n := 67) hLM6 (by decide +kernel) oO_63 fF_8_12 (at_5) (by decide) (ar_5_0) rfl ?_
          refine w_getR (n := 70) hLM6 (by decide +kernel) oO_63 fF_8_104 (af_F (by decide)) (by decide) (ag_KA (by decide)) rfl ?_
          refine w_aload_n (n := 71) (i := 0) (by decide +kernel) rfl rfl ?_
          refine w_getR (n := 74) hLM6 (by decide +kernel) oO_63 fF_8_12 (at_5) (by decide) (ar_5_0) rfl ?_
          refine w_getI (n := 77) hLM6 (by decide +kernel) oO_63 fF_8_88 (af_F (by decide)) (by decide) rfl ?_
          obtain ⟨i8, hi8, gi8, h⟩ := h
          refine w_aald (n := 78) hLM6 (by decide +kernel) (af_KA (by decide)) (by decide) (ax_KA (by decide)) gi8 (ai_KA (by decide) hi8) rfl ?_
          refine w_astore_n (n := 79) (i := 2) (l1' := [some (.ref 5), some (.int (ak_I M4 5 4)), some (.ref (6 + 6 + i8))]) (l2' := []) (by decide +kernel) rfl (Nat.le_of_ble_eq_true rfl) rfl rfl ?_
          refine w_aload_n (n := 80) (i := 2) (by decide +kernel) rfl rfl ?_
          refine w_iload_n (n := 81) (i := 1) (by decide +kernel) rfl rfl ?_
          refine w_aload_n (n := 82) (i := 0) (by decide +kernel) rfl rfl ?_
          refine w_getI (n := 85) hLM6 (by decide +kernel) oO_63 fF_8_101 (at_5) (by decide) rfl ?_
          obtain ⟨M9, hLM9, hr26, h⟩ := h
          refine w_cV (n := 88) (idx := 108) (cal := 36) (na := 2) (nl := 3) (as := [.int (ak_I M4 5 4), .int (ak_I M6 5 4)]) (rest := []) hLM6 (by decide +kernel) (by decide +kernel) (af_K (by decide) hi8) (by decide +kernel) rfl rfl rfl (Nat.le_of_ble_eq_true rfl) rfl hr26 ?_
          refine w_aload_n (n := 89) (i := 0) (by decide +kernel) rfl rfl ?_
          refine w_getR (n := 92) hLM9 (by decide +kernel) oO_63 fF_8_12 (at_5) (by decide) (ar_5_0) rfl ?_
          refine w_dup_ref (n := 93) (by decide +kernel) rfl ?_
          refine w_getI (n := 96) hLM9 (by decide +kernel) oO_63 fF_8_88 (af_F (by decide)) (by decide) rfl ?_
          refine w_iconst (n := 97) (v := 1) (x := 1) (by decide +kernel) rfl (by decide) ?_
          refine w_iadd (n := 98) (by decide +kernel) rfl ?_
          refine w_putI (n := 101) hLM9 (by decide +kernel) oO_63 fF_8_88 (af_F (by decide)) ⟨by decide, Or.inl (by decide)⟩ rfl ?_
          generalize eM10 : ak_sI M9 6 5 ((ak_I M9 6 5) + 1) = M10
          have hLM10 : ab_lay M10 := by rw [← eM10]; exact ab_lay.sI hLM9
          replace h := h M10 eM10.symm
          refine w_aload_n (n := 102) (i := 0) (by decide +kernel) rfl rfl ?_
          refine w_bipush (n := 104) (v := 8) (x := 8) (by decide +kernel) rfl (by decide) ?_
          refine w_iconst (n := 105) (v := 0) (x := 0) (by decide +kernel) rfl (by decide) ?_
          refine w_bipush (n := 107) (v := 9) (x := 9) (by decide +kernel) rfl (by decide) ?_
          refine w_aload_n (n := 108) (i := 2) (by decide +kernel) rfl rfl ?_
          refine w_getI (n := 111) hLM10 (by decide +kernel) oO_63 fF_8_114 (af_K (by decide) hi8) (by decide) rfl ?_
          obtain ⟨v12, M11, hLM11, hr25, h⟩ := h
          refine w_cV (n := 114) (idx := 117) (cal := 65) (na := 4) (nl := 5) (as := [.int 8, .int 0, .int 9, .int (ak_I M10 (6 + 6 + i8) 8)]) (rest := []) hLM10 (by decide +kernel) (by decide +kernel) (at_5) (by decide +kernel) rfl rfl rfl (Nat.le_of_ble_eq_true rfl) rfl hr25 ?_
          by_cases c24 : v12 = 0
          · rw [if_pos c24] at h
            refine w_if_ne_n (n := 117) (off := 5) (by decide +kernel) rfl c24 ?_
            refine w_iconst (n := 118) (v := 0) (x := 0) (by decide +kernel) rfl (by decide) ?_
            subst h
            exact w_ireturn (by decide +kernel) (by decide +kernel)
          · rw [if_neg c24] at h
            refine w_if_ne_j (n := 119) (off := 5) (by decide +kernel) (by decide) c24 ?_
            refine w_aload_n (n := 120) (i := 2) (by decide +kernel) rfl rfl ?_
            refine w_aload_n (n := 121) (i := 0) (by decide +kernel) rfl rfl ?_
            refine w_getI (n := 124) hLM11 (by decide +kernel) oO_63 fF_8_101 (at_5) (by decide) rfl ?_
            refine w_putI (n := 127) hLM11 (by decide +kernel) oO_63 fF_8_114 (af_K (by decide) hi8) ⟨by decide, Or.inl (by decide)⟩ rfl ?_
            generalize eM13 : ak_sI M11 (6 + 6 + i8) 8 (ak_I M11 5 4) = M13
            have hLM13 : ab_lay M13 := by rw [← eM13]; exact ab_lay.sI hLM11
            replace h := h M13 eM13.symm
            refine w_aload_n (n := 128) (i := 0) (by decide +kernel) rfl rfl ?_
            refine w_bipush (n := 130) (v := 9) (x := 9) (by decide +kernel) rfl (by decide) ?_
            refine w_iconst (n := 131) (v := 1) (x := 1) (by decide +kernel) rfl (by decide) ?_
            refine w_bipush (n := 133) (v := 99) (x := 99) (by decide +kernel) rfl (by decide) ?_
            refine w_aload_n (n := 134) (i := 2) (by decide +kernel) rfl rfl ?_
            refine w_getI (n := 137) hLM13 (by decide +kernel) oO_63 fF_8_121 (af_K (by decide) hi8) (by decide) rfl ?_
            obtain ⟨v15, M14, hLM14, hr23, h⟩ := h
            refine w_cV (n := 140) (idx := 117) (cal := 65) (na := 4) (nl := 5) (as := [.int 9, .int 1, .int 99, .int (ak_I M13 (6 + 6 + i8) 9)]) (rest := []) hLM13 (by decide +kernel) (by decide +kernel) (at_5) (by decide +kernel) rfl rfl rfl (Nat.le_of_ble_eq_true rfl) rfl hr23 ?_
            by_cases c22 : v15 = 0
            · rw [if_pos c22] at h
              refine w_if_ne_n (n := 143) (off := 5) (by decide +kernel) rfl c22 ?_
              refine w_iconst (n := 144) (v := 0) (x := 0) (by decide +kernel) rfl (by decide) ?_
              subst h
              exact w_ireturn (by decide +kernel) (by decide +kernel)
            · rw [if_neg c22] at h
              refine w_if_ne_j (n := 145) (off := 5) (by decide +kernel) (by decide) c22 ?_
              refine w_aload_n (n := 146) (i := 2) (by decide +kernel) rfl rfl ?_
              refine w_aload_n (n := 147) (i := 0) (by decide +kernel) rfl rfl ?_
              refine w_getI (n := 150) hLM14 (by decide +kernel) oO_63 fF_8_101 (at_5) (by decide) rfl ?_
              refine w_putI (n := 153) hLM14 (by decide +kernel) oO_63 fF_8_121 (af_K (by decide) hi8) ⟨by decide, Or.inl (by decide)⟩ rfl ?_
              generalize eM16 : ak_sI M14 (6 + 6 + i8) 9 (ak_I M14 5 4) = M16
              have hLM16 : ab_lay M16 := by rw [← eM16]; exact ab_lay.sI hLM14
              replace h := h M16 eM16.symm
              refine w_aload_n (n := 154) (i := 0) (by decide +kernel) rfl rfl ?_
              refine w_bipush (n := 156) (v := 10) (x := 10) (by decide +kernel) rfl (by decide) ?_
              refine w_iconst (n := 157) (v := 1) (x := 1) (by decide +kernel) rfl (by decide) ?_
              refine w_sipush (n := 160) (v := 400) (x := 400) (by decide +kernel) rfl (by decide) ?_
              refine w_aload_n (n := 161) (i := 2) (by decide +kernel) rfl rfl ?_
              refine w_getI (n := 164) hLM16 (by decide +kernel) oO_63 fF_8_124 (af_K (by decide) hi8) (by decide) rfl ?_
              obtain ⟨v18, M17, hLM17, hr21, h⟩ := h
              refine w_cV (n := 167) (idx := 117) (cal := 65) (na := 4) (nl := 5) (as := [.int 10, .int 1, .int 400, .int (ak_I M16 (6 + 6 + i8) 6)]) (rest := []) hLM16 (by decide +kernel) (by decide +kernel) (at_5) (by decide +kernel) rfl rfl rfl (Nat.le_of_ble_eq_true rfl) rfl hr21 ?_
              by_cases c20 : v18 = 0
              · rw [if_pos c20] at h
                refine w_if_ne_n (n := 170) (off := 5) (by decide +kernel) rfl c20 ?_
                refine w_iconst (n := 171) (v := 0) (x := 0) (by decide +kernel) rfl (by decide) ?_
                subst h
                exact w_ireturn (by decide +kernel) (by decide +kernel)
              · rw [if_neg c20] at h
                refine w_if_ne_j (n := 172) (off := 5) (by decide +kernel) (by decide) c20 ?_
                refine w_aload_n (n := 173) (i := 2) (by decide +kernel) rfl rfl ?_
                refine w_aload_n (n := 174) (i := 0) (by decide +kernel) rfl rfl ?_
                refine w_getI (n := 177) hLM17 (by decide +kernel) oO_63 fF_8_101 (at_5) (by decide) rfl ?_
                refine w_putI (n := 180) hLM17 (by decide +kernel) oO_63 fF_8_124 (af_K (by decide) hi8) ⟨by decide, Or.inl (by decide)⟩ rfl ?_
                generalize eM19 : ak_sI M17 (6 + 6 + i8) 6 (ak_I M17 5 4) = M19
                have hLM19 : ab_lay M19 := by rw [← eM19]; exact ab_lay.sI hLM17
                replace h := h M19 eM19.symm
                refine w_iconst (n := 181) (v := 1) (x := 1) (by decide +kernel) rfl (by decide) ?_
                subst h
                exact w_ireturn (by decide +kernel) (by decide +kernel)
theorem t_64 {X : ak_X} {M : ak_M} {r : ak_O × ak_M} (hL : ab_lay M) (h : (if ak_I M 51 1 = 1 then (if 6 < ak_I M 51 3 then (∃ (v6 : Int32) (M5 : ak_M), ab_lay M5 ∧ rn X 71 [.ref 5, .int 1] M (.inl (some (.int v6)), M5) ∧ ((v6 = 0 ∨ v6 = 1) ∧ r = (.inl (some (.int v6)), M5))) else (∃ (v10 : Int32) (M9 : ak_M), ab_lay M9 ∧ rn X 72 [.ref 5] M (.inl (some (.int v10)), M9) ∧ (if v10 = (-1) then (∃ (v12 : Int32) (M11 : ak_M), ab_lay M11 ∧ rn X 51 [.ref 38, .ref 2, .int (ak_I M9 51 2), .int (ak_I M9 51 3)] M9 (.inl (some (.int v12)), M11) ∧ (if v12 = (-1) then (∃ (M13 : ak_M), ab_lay M13 ∧ rn X 50 [.ref 38, .ref 2, .int (ak_I M11 51 2), .int (ak_I M11 51 3)] M11 (.inl (none), M13) ∧ (∃ (M14 : ak_M), ab_lay M14 ∧ rn X 76 [.ref 51] M13 (.inl (none), M14) ∧ r = (.inl (some (.int 1)), M14))) else (∃ (v18 : Int32) (M17 : ak_M), ab_lay M17 ∧ rn X 71 [.ref 5, .int 3] M11 (.inl (some (.int v18)), M17) ∧ ((v18 = 0 ∨ v18 = 1) ∧ r = (.inl (some (.int v18)), M17))))) else (∃ (v24 : Int32) (M23 : ak_M), ab_lay M23 ∧ rn X 71 [.ref 5, .int 1] M9 (.inl (some (.int v24)), M23) ∧ ((v24 = 0 ∨ v24 = 1) ∧ r = (.inl (some (.int v24)), M23)))))) else (∃ (v2 : Int32) (M1 : ak_M), ab_lay M1 ∧ rn X 71 [.ref 5, .int 1] M (.inl (some (.int v2)), M1) ∧ ((v2 = 0 ∨ v2 = 1) ∧ r = (.inl (some (.int v2)), M1))))) : rn X 64 [.ref 5] M r := by
  refine w_rn (nL := 1) (l1 := [some (.ref 5)]) (by decide +kernel) rfl rfl ?_
  refine w_aload_n (n := 1) (i := 0) (by decide +kernel) rfl rfl ?_
  refine w_getR (n := 4) hL (by decide +kernel) oO_64 fF_8_34 (at_5) (by decide) (ar_5_2) rfl ?_
  refine w_getI (n := 7) hL (by decide +kernel) oO_64 fF_8_51 (at_51) (by decide) rfl ?_
  refine w_iconst (n := 8) (v := 1) (x := 1) (by decide +kernel) rfl (by decide) ?_
  by_cases c30 : ak_I M 51 1 = 1
  · rw [if_pos c30] at h
    refine w_icmp_ne_n (n := 11) (off := 23) (by decide +kernel) rfl c30 ?_
    refine w_aload_n (n := 12) (i := 0) (by decide +kernel) rfl rfl ?_
    refine w_getR (n := 15) hL (by decide +kernel) oO_64 fF_8_34 (at_5) (by decide) (ar_5_2) rfl ?_
    refine w_getI (n := 18) hL (by decide +kernel) oO_64 fF_8_127 (at_51) (by decide) rfl ?_
    refine w_bipush (n := 20) (v := 6) (x := 6) (by decide +kernel) rfl (by decide) ?_
    by_cases c29 : 6 < ak_I M 51 3
    · rw [if_pos c29] at h
      refine w_icmp_gt_j (n := 31) (off := 11) (by decide +kernel) (by decide) c29 ?_
      refine w_aload_n (n := 32) (i := 0) (by decide +kernel) rfl rfl ?_
      refine w_iconst (n := 33) (v := 1) (x := 1) (by decide +kernel) rfl (by decide) ?_
      obtain ⟨v6, M5, hLM5, hr8, h⟩ := h
      refine w_cV (n := 36) (idx := 85) (cal := 71) (na := 1) (nl := 2) (as := [.int 1]) (rest := []) hL (by decide +kernel) (by decide +kernel) (at_5) (by decide +kernel) rfl rfl rfl (Nat.le_of_ble_eq_true rfl) rfl hr8 ?_
      obtain ⟨g7, rfl⟩ := h
      exact w_ireturn (by decide +kernel) (w_okZ (by decide +kernel) g7)
    · rw [if_neg c29] at h
      refine w_icmp_gt_n (n := 23) (off := 11) (by decide +kernel) rfl c29 ?_
      refine w_aload_n (n := 24) (i := 0) (by decide +kernel) rfl rfl ?_
      obtain ⟨v10, M9, hLM9, hr28, h⟩ := h
      refine w_cV (n := 27) (idx := 54) (cal := 72) (na := 0) (nl := 1) (as := []) (rest := []) hL (by decide +kernel) (by decide +kernel) (at_5) (by decide +kernel) rfl rfl rfl (Nat.le_of_ble_eq_true rfl) rfl hr28 ?_
      refine w_iconst (n := 28) (v := -1) (x := (-1)) (by decide +kernel) rfl (by decide) ?_
      by_cases c27 : v10 = (-1)
      · rw [if_pos c27] at h
        refine w_icmp_eq_j (n := 37) (off := 9) (by decide +kernel) (by decide) c27 ?_
        refine w_aload_n (n := 38) (i := 0) (by decide +kernel) rfl rfl ?_
        refine w_getR (n := 41) hLM9 (by decide +kernel) oO_64 fF_8_21 (at_5) (by decide) (ar_5_1) rfl ?_
        refine w_aload_n (n := 42) (i := 0) (by decide +kernel) rfl rfl ?_
        refine w_getR (n := 45) hLM9 (by decide +kernel) oO_64 fF_8_34 (at_5) (by decide) (ar_5_2) rfl ?_
        refine w_getR (n := 48) hLM9 (by decide +kernel) oO_64 fF_8_130 (at_51) (by decide) (ar_51_0) rfl ?_
        refine w_getR (n := 51) hLM9 (by decide +kernel) oO_64 fF_8_134 (at_1) (by decide) (ar_1_0) rfl ?_
        refine w_aload_n (n := 52) (i := 0) (by decide +kernel) rfl rfl ?_
        refine w_getR (n := 55) hLM9 (by decide +kernel) oO_64 fF_8_34 (at_5) (by decide) (ar_5_2) rfl ?_
        refine w_getI (n := 58) hLM9 (by decide +kernel) oO_64 fF_8_140 (at_51) (by decide) rfl ?_
        refine w_aload_n (n := 59) (i := 0) (by decide +kernel) rfl rfl ?_
        refine w_getR (n := 62) hLM9 (by decide +kernel) oO_64 fF_8_34 (at_5) (by decide) (ar_5_2) rfl ?_
        refine w_getI (n := 65) hLM9 (by decide +kernel) oO_64 fF_8_127 (at_51) (by decide) rfl ?_
        obtain ⟨v12, M11, hLM11, hr22, h⟩ := h
        refine w_cV (n := 68) (idx := 143) (cal := 51) (na := 3) (nl := 4) (as := [.ref 2, .int (ak_I M9 51 2), .int (ak_I M9 51 3)]) (rest := []) hLM9 (by decide +kernel) (by decide +kernel) (an_N (by decide)) (by decide +kernel) rfl rfl rfl (Nat.le_of_ble_eq_true rfl) rfl hr22 ?_
        refine w_iconst (n := 69) (v := -1) (x := (-1)) (by decide +kernel) rfl (by decide) ?_
        by_cases c21 : v12 = (-1)
        · rw [if_pos c21] at h
          refine w_icmp_eq_j (n := 78) (off := 9) (by decide +kernel) (by decide) c21 ?_
          refine w_aload_n (n := 79) (i := 0) (by decide +kernel) rfl rfl ?_
          refine w_getR (n := 82) hLM11 (by decide +kernel) oO_64 fF_8_21 (at_5) (by decide) (ar_5_1) rfl ?_
          refine w_aload_n (n := 83) (i := 0) (by decide +kernel) rfl rfl ?_
          refine w_getR (n := 86) hLM11 (by decide +kernel) oO_64 fF_8_34 (at_5) (by decide) (ar_5_2) rfl ?_
          refine w_getR (n := 89) hLM11 (by decide +kernel) oO_64 fF_8_130 (at_51) (by decide) (ar_51_0) rfl ?_
          refine w_getR (n := 92) hLM11 (by decide +kernel) oO_64 fF_8_134 (at_1) (by decide) (ar_1_0) rfl ?_
          refine w_aload_n (n := 93) (i := 0) (by decide +kernel) rfl rfl ?_
          refine w_getR (n := 96) hLM11 (by decide +kernel) oO_64 fF_8_34 (at_5) (by decide) (ar_5_2) rfl ?_
          refine w_getI (n := 99) hLM11 (by decide +kernel) oO_64 fF_8_140 (at_51) (by decide) rfl ?_
          refine w_aload_n (n := 100) (i := 0) (by decide +kernel) rfl rfl ?_
          refine w_getR (n := 103) hLM11 (by decide +kernel) oO_64 fF_8_34 (at_5) (by decide) (ar_5_2) rfl ?_
          refine w_getI (n := 106) hLM11 (by decide +kernel) oO_64 fF_8_127 (at_51) (by decide) rfl ?_
          obtain ⟨M13, hLM13, hr16, h⟩ := h
          refine w_cV (n := 109) (idx := 147) (cal := 50) (na := 3) (nl := 4) (as := [.ref 2, .int (ak_I M11 51 2), .int (ak_I M11 51 3)]) (rest := []) hLM11 (by decide +kernel) (by decide +kernel) (an_N (by decide)) (by decide +kernel) rfl rfl rfl (Nat.le_of_ble_eq_true rfl) rfl hr16 ?_
          refine w_aload_n (n := 110) (i := 0) (by decide +kernel) rfl rfl ?_
          refine w_getR (n := 113) hLM13 (by decide +kernel) oO_64 fF_8_34 (at_5) (by decide) (ar_5_2) rfl ?_
          obtain ⟨M14, hLM14, hr15, h⟩ := h
          refine w_cV (n := 116) (idx := 91) (cal := 76) (na := 0) (nl := 1) (as := []) (rest := []) hLM13 (by decide +kernel) (by decide +kernel) (at_51) (by decide +kernel) rfl rfl rfl (Nat.le_of_ble_eq_true rfl) rfl hr15 ?_
          refine w_iconst (n := 117) (v := 1) (x := 1) (by decide +kernel) rfl (by decide) ?_
          subst h
          exact w_ireturn (by decide +kernel) (by decide +kernel)
        · rw [if_neg c21] at h
          refine w_icmp_eq_n (n := 72) (off := 9) (by decide +kernel) rfl c21 ?_
          refine w_aload_n (n := 73) (i := 0) (by decide +kernel) rfl rfl ?_
          refine w_iconst (n := 74) (v := 3) (x := 3) (by decide +kernel) rfl (by decide) ?_
          obtain ⟨v18, M17, hLM17, hr20, h⟩ := h
          refine w_cV (n := 77) (idx := 85) (cal := 71) (na := 1) (nl := 2) (as := [.int 3]) (rest := []) hLM11 (by decide +kernel) (by decide +kernel) (at_5) (by decide +kernel) rfl rfl rfl (Nat.le_of_ble_eq_true rfl) rfl hr20 ?_
          obtain ⟨g19, rfl⟩ := h
          exact w_ireturn (by decide +kernel) (w_okZ (by decide +kernel) g19)
      · rw [if_neg c27] at h
        refine w_icmp_eq_n (n := 31) (off := 9) (by decide +kernel) rfl c27 ?_
        refine w_aload_n (n := 32) (i := 0) (by decide +kernel) rfl rfl ?_
        refine w_iconst (n := 33) (v := 1) (x := 1) (by decide +kernel) rfl (by decide) ?_
        obtain ⟨v24, M23, hLM23, hr26, h⟩ := h
        refine w_cV (n := 36) (idx := 85) (cal := 71) (na := 1) (nl := 2) (as := [.int 1]) (rest := []) hLM9 (by decide +kernel) (by decide +kernel) (at_5) (by decide +kernel) rfl rfl rfl (Nat.le_of_ble_eq_true rfl) rfl hr26 ?_
        obtain ⟨g25, rfl⟩ := h
        exact w_ireturn (by decide +kernel) (w_okZ (by decide +kernel) g25)
  · rw [if_neg c30] at h
    refine w_icmp_ne_j (n := 31) (off := 23) (by decide +kernel) (by decide) c30 ?_
    refine w_aload_n (n := 32) (i := 0) (by decide +kernel) rfl rfl ?_
    refine w_iconst (n := 33) (v := 1) (x := 1) (by decide +kernel) rfl (by decide) ?_
    obtain ⟨v2, M1, hLM1, hr4, h⟩ := h
    refine w_cV (n := 36) (idx := 85) (cal := 71) (na := 1) (nl := 2) (as := [.int 1]) (rest := []) hL (by decide +kernel) (by decide +kernel) (at_5) (by decide +kernel) rfl rfl rfl (Nat.le_of_ble_eq_true rfl) rfl hr4 ?_
    obtain ⟨g3, rfl⟩ := h
    exact w_ireturn (by decide +kernel) (w_okZ (by decide +kernel) g3)
theorem t_65 {X : ak_X} {M : ak_M} {r : ak_O × ak_M} (hL : ab_lay M) (x1 : Int32) (x2 : Int32) (x3 : Int32) (x4 : Int32) (h : (∃ (j2 : Nat) (M1 : ak_M), j2 < 25 ∧ ab_lay M1 ∧ rn X 73 [.int x1] M (.inl (some (.ref (1001000 + j2))), M1) ∧ (∃ (v4 : Int32) (M3 : ak_M), ab_lay M3 ∧ rn X 80 [.ref 51, .ref (1001000 + j2)] M1 (.inl (some (.int v4)), M3) ∧ (if v4 = 0 then (∀ M11 : ak_M, M11 = ak_sI M3 5 4 x4 → r = (.inl (some (.int 1)), M11)) else (∃ (M5 : ak_M), ab_lay M5 ∧ rn X 76 [.ref 51] M3 (.inl (none), M5) ∧ (∃ (v7 : Int32) (M6 : ak_M), ab_lay M6 ∧ rn X 69 [.ref 5, .int x2, .int x3] M5 (.inl (some (.int v7)), M6) ∧ ((v7 = 0 ∨ v7 = 1) ∧ r = (.inl (some (.int v7)), M6)))))))) : rn X 65 [.ref 5, .int x1, .int x2, .int x3, .int x4] M r := by
  refine w_rn (nL := 5) (l1 := [some (.ref 5), some (.int x1), some (.int x2), some (.int x3), some (.int x4)]) (by decide +kernel) rfl rfl ?_
  refine w_aload_n (n := 1) (i := 0) (by decide +kernel) rfl rfl ?_
  refine w_getR (n := 4) hL (by decide +kernel) oO_65 fF_8_34 (at_5) (by decide) (ar_5_2) rfl ?_
  refine w_iload_n (n := 5) (i := 1) (by decide +kernel) rfl rfl ?_
  obtain ⟨j2, M1, hj2, hLM1, hr14, h⟩ := h
  refine w_cS (n := 8) (idx := 151) (cal := 73) (na := 1) (nl := 1) (as := [.int x1]) (rest := [.ref 51]) (by decide +kernel) (by decide +kernel) rfl rfl rfl (Nat.le_of_ble_eq_true rfl) rfl hr14 ?_
  obtain ⟨v4, M3, hLM3, hr13, h⟩ := h
  refine w_cV (n := 11) (idx := 155) (cal := 80) (na := 1) (nl := 2) (as := [.ref (1001000 + j2)]) (rest := []) hLM1 (by decide +kernel) (by decide +kernel) (at_51) (by decide +kernel) rfl rfl rfl (Nat.le_of_ble_eq_true rfl) rfl hr13 ?_
  by_cases c12 : v4 = 0
  · rw [if_pos c12] at h
    refine w_if_ne_n (n := 14) (off := 11) (by decide +kernel) rfl c12 ?_
    refine w_aload_n (n := 15) (i := 0) (by decide +kernel) rfl rfl ?_
    refine w_iload (n := 17) (i := 4) (by decide +kernel) rfl rfl ?_
    refine w_putI (n := 20) hLM3 (by decide +kernel) oO_65 fF_8_101 (at_5) ⟨by decide, Or.inl (by decide)⟩ rfl ?_
    generalize eM11 : ak_sI M3 5 4 x4 = M11
    have hLM11 : ab_lay M11 := by rw [← eM11]; exact ab_lay.sI hLM3
    replace h := h M11 eM11.symm
    refine w_iconst (n := 21) (v := 1) (x := 1) (by decide +kernel) rfl (by decide) ?_
    subst h
    exact w_ireturn (by decide +kernel) (by decide +kernel)
  · rw [if_neg c12] at h
    refine w_if_ne_j (n := 22) (off := 11) (by decide +kernel) (by decide) c12 ?_
    refine w_aload_n (n := 23) (i := 0) (by decide +kernel) rfl rfl ?_
    refine w_getR (n := 26) hLM3 (by decide +kernel) oO_65 fF_8_34 (at_5) (by decide) (ar_5_2) rfl ?_
    obtain ⟨M5, hLM5, hr10, h⟩ := h
    refine w_cV (n := 29) (idx := 91) (cal := 76) (na := 0) (nl := 1) (as := []) (rest := []) hLM3 (by decide +kernel) (by decide +kernel) (at_51) (by decide +kernel) rfl rfl rfl (Nat.le_of_ble_eq_true rfl) rfl hr10 ?_
    refine w_aload_n (n := 30) (i := 0) (by decide +kernel) rfl rfl ?_
    refine w_iload_n (n := 31) (i := 2) (by decide +kernel) rfl rfl ?_
    refine w_iload_n (n := 32) (i := 3) (by decide +kernel) rfl rfl ?_
    obtain ⟨v7, M6, hLM6, hr9, h⟩ := h
    refine w_cV (n := 35) (idx := 97) (cal := 69) (na := 2) (nl := 3) (as := [.int x2, .int x3]) (rest := []) hLM5 (by decide +kernel) (by decide +kernel) (at_5) (by decide +kernel) rfl rfl rfl (Nat.le_of_ble_eq_true rfl) rfl hr9 ?_
    obtain ⟨g8, rfl⟩ := h
    exact w_ireturn (by decide +kernel) (w_okZ (by decide +kernel) g8)
theorem t_66 {X : ak_X} {M : ak_M} {r : ak_O × ak_M} (hL : ab_lay M) (h : (if ak_I M 6 6 = 4 then (∃ (v73 : Int32) (M72 : ak_M), ab_lay M72 ∧ rn X 71 [.ref 5, .int 4] M (.inl (some (.int v73)), M72) ∧ ((v73 = 0 ∨ v73 = 1) ∧ r = (.inl (some (.int v73)), M72))) else (∃ (M1 : ak_M), ab_lay M1 ∧ rn X 76 [.ref 51] M (.inl (none), M1) ∧ (if ak_I M 6 6 = 0 then (if ak_I M 6 6 = 0 then (∃ (v54 : Int32) (M53 : ak_M), ab_lay M53 ∧ rn X 69 [.ref 5, .int 0, .int 0] M1 (.inl (some (.int v54)), M53) ∧ (if v54 = 0 then r = (.inl (some (.int 0)), M53) else (∃ (v56 : Int32) (M55 : ak_M), ab_lay M55 ∧ rn X 67 [.ref 5] M53 (.inl (some (.int v56)), M55) ∧ (if v56 = 0 then r = (.inl (some (.int 0)), M55) else (∃ (v58 : Int32) (M57 : ak_M), ab_lay M57 ∧ rn X 67 [.ref 5] M55 (.inl (some (.int v58)), M57) ∧ (if v58 = 0 then r = (.inl (some (.int 0)), M57) else (∃ i59 : Nat, i59 < 4 ∧ ab_ix (ak_I M 6 6) i59 4 ∧ (∃ (M60 : ak_M), ab_lay M60 ∧ rn X 83 [.ref (6 + 16 + i59), .int (ak_I M53 5 4), .int (ak_I M55 5 4), .int (ak_I M57 5 4)] M57 (.inl (none), M60) ∧ (∀ M61 : ak_M, M61 = ak_sI M60 6 6 ((ak_I M60 6 6) + 1) → r = (.inl (some (.int 1)), M61)))))))))) else (∃ (v38 : Int32) (M37 : ak_M), ab_lay M37 ∧ rn X 69 [.ref 5, .int 0, .int 300] M1 (.inl (some (.int v38)), M37) ∧ (if v38 = 0 then r = (.inl (some (.int 0)), M37) else (∃ (v40 : Int32) (M39 : ak_M), ab_lay M39 ∧ rn X 67 [.ref 5] M37 (.inl (some (.int v40)), M39) ∧ (if v40 = 0 then r = (.inl (some (.int 0)), M39) else (∃ (v42 : Int32) (M41 : ak_M), ab_lay M41 ∧ rn X 67 [.ref 5] M39 (.inl (some (.int v42)), M41) ∧ (if v42 = 0 then r = (.inl (some (.int 0)), M41) else (∃ i43 : Nat, i43 < 4 ∧ ab_ix (ak_I M 6 6) i43 4 ∧ (∃ (M44 : ak_M), ab_lay M44 ∧ rn X 83 [.ref (6 + 16 + i43), .int (ak_I M37 5 4), .int (ak_I M39 5 4), .int (ak_I M41 5 4)] M41 (.inl (none), M44) ∧ (∀ M45 : ak_M, M45 = ak_sI M44 6 6 ((ak_I M44 6 6) + 1) → r = (.inl (some (.int 1)), M45))))))))))) else (∃ i2 : Nat, i2 < 4 ∧ ab_ix ((ak_I M 6 6) - 1) i2 4 ∧ (∀ z3 : Int32, z3 = (ak_I M1 (6 + 16 + i2) 0) + 1 → (if ak_I M 6 6 = 0 then (∃ (v21 : Int32) (M20 : ak_M), ab_lay M20 ∧ rn X 69 [.ref 5, .int z3, .int 0] M1 (.inl (some (.int v21)), M20) ∧ (if v21 = 0 then r = (.inl (some (.int 0)), M20) else (∃ (v23 : Int32) (M22 : ak_M), ab_lay M22 ∧ rn X 67 [.ref 5] M20 (.inl (some (.int v23)), M22) ∧ (if v23 = 0 then r = (.inl (some (.int 0)), M22) else (∃ (v25 : Int32) (M24 : ak_M), ab_lay M24 ∧ rn X 67 [.ref 5] M22 (.inl (some (.int v25)), M24) ∧ (if v25 = 0 then r = (.inl (some (.int 0)), M24) else (∃ i26 : Nat, i26 < 4 ∧ ab_ix (ak_I M 6 6) i26 4 ∧ (∃ (M27 : ak_M), ab_lay M27 ∧ rn X 83 [.ref (6 + 16 + i26), .int (ak_I M20 5 4), .int (ak_I M22 5 4), .int (ak_I M24 5 4)] M24 (.inl (none), M27) ∧ (∀ M28 : ak_M, M28 = ak_sI M27 6 6 ((ak_I M27 6 6) + 1) → r = (.inl (some (.int 1)), M28)))))))))) else (∃ (v5 : Int32) (M4 : ak_M), ab_lay M4 ∧ rn X 69 [.ref 5, .int z3, .int 300] M1 (.inl (some (.int v5)), M4) ∧ (if v5 = 0 then r = (.inl (some (.int 0)), M4) else (∃ (v7 : Int32) (M6 : ak_M), ab_lay M6 ∧ rn X 67 [.ref 5] M4 (.inl (some (.int v7)), M6) ∧ (if v7 = 0 then r = (.inl (some (.int 0)), M6) else (∃ (v9 : Int32) (M8 : ak_M), ab_lay M8 ∧ rn X 67 [.ref 5] M6 (.inl (some (.int v9)), M8) ∧ (if v9 = 0 then r = (.inl (some (.int 0)), M8) else (∃ i10 : Nat, i10 < 4 ∧ ab_ix (ak_I M 6 6) i10 4 ∧ (∃ (M11 : ak_M), ab_lay M11 ∧ rn X 83 [.ref (6 + 16 + i10), .int (ak_I M4 5 4), .int (ak_I M6 5 4), .int (ak_I M8 5 4)] M8 (.inl (none), M11) ∧ (∀ M12 : ak_M, M12 = ak_sI M11 6 6 ((ak_I M11 6 6) + 1) → r = (.inl (some (.int 1)), M12))))))))))))))))) : rn X 66 [.ref 5] M r := by
  refine w_rn (nL := 5) (l1 := [some (.ref 5), none, none, none, none]) (by decide +kernel) rfl rfl ?_
  refine w_aload_n (n := 1) (i := 0) (by decide +kernel) rfl rfl ?_
  refine w_getR (n := 4) hL (by decide +kernel) oO_66 fF_8_12 (at_5) (by decide) (ar_5_0) rfl ?_
  refine w_getI (n := 7) hL (by decide +kernel) oO_66 fF_8_66 (af_F (by decide)) (by decide) rfl ?_
  refine w_istore_n (n := 8) (i := 1) (l1' := [some (.ref 5), some (.int (ak_I M 6 6)), none, none, none]) (l2' := []) (by decide +kernel) rfl (Nat.le_of_ble_eq_true rfl) rfl rfl ?_
  refine w_iload_n (n := 9) (i := 1) (by decide +kernel) rfl rfl ?_
  refine w_iconst (n := 10) (v := 4) (x := 4) (by decide +kernel) rfl (by decide) ?_
  by_cases c76 : ak_I M 6 6 = 4
  · rw [if_pos c76] at h
    refine w_icmp_ne_n (n := 13) (off := 9) (by decide +kernel) rfl c76 ?_
    refine w_aload_n (n := 14) (i := 0) (by decide +kernel) rfl rfl ?_
    refine w_iconst (n := 15) (v := 4) (x := 4) (by decide +kernel) rfl (by decide) ?_
    obtain ⟨v73, M72, hLM72, hr75, h⟩ := h
    refine w_cV (n := 18) (idx := 85) (cal := 71) (na := 1) (nl := 2) (as := [.int 4]) (rest := []) hL (by decide +kernel) (by decide +kernel) (at_5) (by decide +kernel) rfl rfl rfl (Nat.le_of_ble_eq_true rfl) rfl hr75 ?_
    obtain ⟨g74, rfl⟩ := h
    exact w_ireturn (by decide +kernel) (w_okZ (by decide +kernel) g74)
  · rw [if_neg c76] at h
    refine w_icmp_ne_j (n := 19) (off := 9) (by decide +kernel) (by decide) c76 ?_
    refine w_aload_n (n := 20) (i := 0) (by decide +kernel) rfl rfl ?_
    refine w_getR (n := 23) hL (by decide +kernel) oO_66 fF_8_34 (at_5) (by decide) (ar_5_2) rfl ?_
    obtain ⟨M1, hLM1, hr71, h⟩ := h
    refine w_cV (n := 26) (idx := 91) (cal := 76) (na := 0) (nl := 1) (as := []) (rest := []) hL (by decide +kernel) (by decide +kernel) (at_51) (by decide +kernel) rfl rfl rfl (Nat.le_of_ble_eq_true rfl) rfl hr71 ?_
    refine w_iload_n (n := 27) (i := 1) (by decide +kernel) rfl rfl ?_
    by_cases c70 : ak_I M 6 6 = 0
    · rw [if_pos c70] at h
      refine w_if_ne_n (n := 30) (off := 7) (by decide +kernel) rfl c70 ?_
      refine w_iconst (n := 31) (v := 0) (x := 0) (by decide +kernel) rfl (by decide) ?_
      refine w_goto (n := 50) (off := 19) (by decide +kernel) (by decide) ?_
      refine w_istore_n (n := 51) (i := 2) (l1' := [some (.ref 5), some (.int (ak_I M 6 6)), some (.int 0), none, none]) (l2' := []) (by decide +kernel) rfl (Nat.le_of_ble_eq_true rfl) rfl rfl ?_
      refine w_aload_n (n := 52) (i := 0) (by decide +kernel) rfl rfl ?_
      refine w_iload_n (n := 53) (i := 2) (by decide +kernel) rfl rfl ?_
      refine w_iload_n (n := 54) (i := 1) (by decide +kernel) rfl rfl ?_
      by_cases c69 : ak_I M 6 6 = 0
      · rw [if_pos c69] at h
        refine w_if_ne_n (n := 57) (off := 7) (by decide +kernel) rfl c69 ?_
        refine w_iconst (n := 58) (v := 0) (x := 0) (by decide +kernel) rfl (by decide) ?_
        refine w_goto (n := 64) (off := 6) (by decide +kernel) (by decide) ?_
        obtain ⟨v54, M53, hLM53, hr68, h⟩ := h
        refine w_cV (n := 67) (idx := 97) (cal := 69) (na := 2) (nl := 3) (as := [.int 0, .int 0]) (rest := []) hLM1 (by decide +kernel) (by decide +kernel) (at_5) (by decide +kernel) rfl rfl rfl (Nat.le_of_ble_eq_true rfl) rfl hr68 ?_
        by_cases c67 : v54 = 0
        · rw [if_pos c67] at h
          refine w_if_ne_n (n := 70) (off := 5) (by decide +kernel) rfl c67 ?_
          refine w_iconst (n := 71) (v := 0) (x := 0) (by decide +kernel) rfl (by decide) ?_
          subst h
          exact w_ireturn (by decide +kernel) (by decide +kernel)
        · rw [if_neg c67] at h
          refine w_if_ne_j (n := 72) (off := 5) (by decide +kernel) (by decide) c67 ?_
          refine w_aload_n (n := 73) (i := 0) (by decide +kernel) rfl rfl ?_
          refine w_getI (n := 76) hLM53 (by decide +kernel) oO_66 fF_8_101 (at_5) (by decide) rfl ?_
          refine w_istore_n (n := 77) (i := 3) (l1' := [some (.ref 5), some (.int (ak_I M 6 6)), some (.int 0), some (.int (ak_I M53 5 4)), none]) (l2' := []) (by decide +kernel) rfl (Nat.le_of_ble_eq_true rfl) rfl rfl ?_
          refine w_aload_n (n := 78) (i := 0) (by decide +kernel) rfl rfl ?_
          obtain ⟨v56, M55, hLM55, hr66, h⟩ := h
          refine w_cV (n := 81) (idx := 168) (cal := 67) (na := 0) (nl := 1) (as := []) (rest := []) hLM53 (by decide +kernel) (by decide +kernel) (at_5) (by decide +kernel) rfl rfl rfl (Nat.le_of_ble_eq_true rfl) rfl hr66 ?_
          by_cases c65 : v56 = 0
          · rw [if_pos c65] at h
            refine w_if_ne_n (n := 84) (off := 5) (by decide +kernel) rfl c65 ?_
            refine w_iconst (n := 85) (v := 0) (x := 0) (by decide +kernel) rfl (by decide) ?_
            subst h
            exact w_ireturn (by decide +kernel) (by decide +kernel)
          · rw [if_neg c65] at h
            refine w_if_ne_j (n := 86) (off := 5) (by decide +kernel) (by decide) c65 ?_
            refine w_aload_n (n := 87) (i := 0) (by decide +kernel) rfl rfl ?_
            refine w_getI (n := 90) hLM55 (by decide +kernel) oO_66 fF_8_101 (at_5) (by decide) rfl ?_
            refine w_istore (n := 92) (i := 4) (l1' := [some (.ref 5), some (.int (ak_I M 6 6)), some (.int 0), some (.int (ak_I M53 5 4)), some (.int (ak_I M55 5 4))]) (l2' := []) (by decide +kernel) rfl (Nat.le_of_ble_eq_true rfl) rfl rfl ?_
            refine w_aload_n (n := 93) (i := 0) (by decide +kernel) rfl rfl ?_
            obtain ⟨v58, M57, hLM57, hr64, h⟩ := h
            refine w_cV (n := 96) (idx := 168) (cal := 67) (na := 0) (nl := 1) (as := []) (rest := []) hLM55 (by decide +kernel) (by decide +kernel) (at_5) (by decide +kernel) rfl rfl rfl (Nat.le_of_ble_eq_true rfl) rfl hr64 ?_
            by_cases c63 : v58 = 0
            · rw [if_pos c63] at h
              refine w_if_ne_n (n := 99) (off := 5) (by decide +kernel) rfl c63 ?_
              refine w_iconst (n := 100) (v := 0) (x := 0) (by decide +kernel) rfl (by decide) ?_
              subst h
              exact w_ireturn (by decide +kernel) (by decide +kernel)
            · rw [if_neg c63] at h
              refine w_if_ne_j (n := 101) (off := 5) (by decide +kernel) (by decide) c63 ?_
              refine w_aload_n (n := 102) (i := 0) (by decide +kernel) rfl rfl ?_
              refine w_getR (n := 105) hLM57 (by decide +kernel) oO_66 fF_8_12 (at_5) (by decide) (ar_5_0) rfl ?_
              refine w_getR (n := 108) hLM57 (by decide +kernel) oO_66 fF_8_159 (af_F (by decide)) (by decide) (ag_WA (by decide)) rfl ?_
              refine w_iload_n (n := 109) (i := 1) (by decide +kernel) rfl rfl ?_
              obtain ⟨i59, hi59, gi59, h⟩ := h
              refine w_aald (n := 110) hLM57 (by decide +kernel) (af_WA (by decide)) (by decide) (ax_WA (by decide)) gi59 (ai_WA (by decide) hi59) rfl ?_
              refine w_iload_n (n := 111) (i := 3) (by decide +kernel) rfl rfl ?_
              refine w_iload (n := 113) (i := 4) (by decide +kernel) rfl rfl ?_
              refine w_aload_n (n := 114) (i := 0) (by decide +kernel) rfl rfl ?_
              refine w_getI (n := 117) hLM57 (by decide +kernel) oO_66 fF_8_101 (at_5) (by decide) rfl ?_
              obtain ⟨M60, hLM60, hr62, h⟩ := h
              refine w_cV (n := 120) (idx := 171) (cal := 83) (na := 3) (nl := 4) (as := [.int (ak_I M53 5 4), .int (ak_I M55 5 4), .int (ak_I M57 5 4)]) (rest := []) hLM57 (by decide +kernel) (by decide +kernel) (af_W (by decide) hi59) (by decide +kernel) rfl rfl rfl (Nat.le_of_ble_eq_true rfl) rfl hr62 ?_
              refine w_aload_n (n := 121) (i := 0) (by decide +kernel) rfl rfl ?_
              refine w_getR (n := 124) hLM60 (by decide +kernel) oO_66 fF_8_12 (at_5) (by decide) (ar_5_0) rfl ?_
              refine w_dup_ref (n := 125) (by decide +kernel) rfl ?_
              refine w_getI (n := 128) hLM60 (by decide +kernel) oO_66 fF_8_66 (af_F (by decide)) (by decide) rfl ?_
              refine w_iconst (n := 129) (v := 1) (x := 1) (by decide +kernel) rfl (by decide) ?_
              refine w_iadd (n := 130) (by decide +kernel) rfl ?_
              refine w_putI (n := 133) hLM60 (by decide +kernel) oO_66 fF_8_66 (af_F (by decide)) ⟨by decide, Or.inl (by decide)⟩ rfl ?_
              generalize eM61 : ak_sI M60 6 6 ((ak_I M60 6 6) + 1) = M61
              have hLM61 : ab_lay M61 := by rw [← eM61]; exact ab_lay.sI hLM60
              replace h := h M61 eM61.symm
              refine w_iconst (n := 134) (v := 1) (x := 1) (by decide +kernel) rfl (by decide) ?_
              subst h
              exact w_ireturn (by decide +kernel) (by decide +kernel)
      · rw [if_neg c69] at h
        refine w_if_ne_j (n := 61) (off := 7) (by decide +kernel) (by decide) c69 ?_
        refine w_sipush (n := 64) (v := 300) (x := 300) (by decide +kernel) rfl (by decide) ?_
        obtain ⟨v38, M37, hLM37, hr52, h⟩ := h
        refine w_cV (n := 67) (idx := 97) (cal := 69) (na := 2) (nl := 3) (as := [.int 0, .int 300]) (rest := []) hLM1 (by decide +kernel) (by decide +kernel) (at_5) (by decide +kernel) rfl rfl rfl (Nat.le_of_ble_eq_true rfl) rfl hr52 ?_
        by_cases c51 : v38 = 0
        · rw [if_pos c51] at h
          refine w_if_ne_n (n := 70) (off := 5) (by decide +kernel) rfl c51 ?_
          refine w_iconst (n := 71) (v := 0) (x := 0) (by decide +kernel) rfl (by decide) ?_
          subst h
          exact w_ireturn (by decide +kernel) (by decide +kernel)
        · rw [if_neg c51] at h
          refine w_if_ne_j (n := 72) (off := 5) (by decide +kernel) (by decide) c51 ?_
          refine w_aload_n (n := 73) (i := 0) (by decide +kernel) rfl rfl ?_
          refine w_getI (n := 76) hLM37 (by decide +kernel) oO_66 fF_8_101 (at_5) (by decide) rfl ?_
          refine w_istore_n (n := 77) (i := 3) (l1' := [some (.ref 5), some (.int (ak_I M 6 6)), some (.int 0), some (.int (ak_I M37 5 4)), none]) (l2' := []) (by decide +kernel) rfl (Nat.le_of_ble_eq_true rfl) rfl rfl ?_
          refine w_aload_n (n := 78) (i := 0) (by decide +kernel) rfl rfl ?_
          obtain ⟨v40, M39, hLM39, hr50, h⟩ := h
          refine w_cV (n := 81) (idx := 168) (cal := 67) (na := 0) (nl := 1) (as := []) (rest := []) hLM37 (by decide +kernel) (by decide +kernel) (at_5) (by decide +kernel) rfl rfl rfl (Nat.le_of_ble_eq_true rfl) rfl hr50 ?_
          by_cases c49 : v40 = 0
          · rw [if_pos c49] at h
            refine w_if_ne_n (n := 84) (off := 5) (by decide +kernel) rfl c49 ?_
            refine w_iconst (n := 85) (v := 0) (x := 0) (by decide +kernel) rfl (by decide) ?_
            subst h
            exact w_ireturn (by decide +kernel) (by decide +kernel)
          · rw [if_neg c49] at h
            refine w_if_ne_j (n := 86) (off := 5) (by decide +kernel) (by decide) c49 ?_
            refine w_aload_n (n := 87) (i := 0) (by decide +kernel) rfl rfl ?_
            refine w_getI (n := 90) hLM39 (by decide +kernel) oO_66 fF_8_101 (at_5) (by decide) rfl ?_
            refine w_istore (n := 92) (i := 4) (l1' := [some (.ref 5), some (.int (ak_I M 6 6)), some (.int 0), some (.int (ak_I M37 5 4)), some (.int (ak_I M39 5 4))]) (l2' := []) (by decide +kernel) rfl (Nat.le_of_ble_eq_true rfl) rfl rfl ?_
            refine w_aload_n (n := 93) (i := 0) (by decide +kernel) rfl rfl ?_
            obtain ⟨v42, M41, hLM41, hr48, h⟩ := h
            refine w_cV (n := 96) (idx := 168) (cal := 67) (na := 0) (nl := 1) (as := []) (rest := []) hLM39 (by decide +kernel) (by decide +kernel) (at_5) (by decide +kernel) rfl rfl rfl (Nat.le_of_ble_eq_true rfl) rfl hr48 ?_
            by_cases c47 : v42 = 0
            · rw [if_pos c47] at h
              refine w_if_ne_n (n := 99) (off := 5) (by decide +kernel) rfl c47 ?_
              refine w_iconst (n := 100) (v := 0) (x := 0) (by decide +kernel) rfl (by decide) ?_
              subst h
              exact w_ireturn (by decide +kernel) (by decide +kernel)
            · rw [if_neg c47] at h
              refine w_if_ne_j (n := 101) (off := 5) (by decide +kernel) (by decide) c47 ?_
              refine w_aload_n (n := 102) (i := 0) (by decide +kernel) rfl rfl ?_
              refine w_getR (n := 105) hLM41 (by decide +kernel) oO_66 fF_8_12 (at_5) (by decide) (ar_5_0) rfl ?_
              refine w_getR (n := 108) hLM41 (by decide +kernel) oO_66 fF_8_159 (af_F (by decide)) (by decide) (ag_WA (by decide)) rfl ?_
              refine w_iload_n (n := 109) (i := 1) (by decide +kernel) rfl rfl ?_
              obtain ⟨i43, hi43, gi43, h⟩ := h
              refine w_aald (n := 110) hLM41 (by decide +kernel) (af_WA (by decide)) (by decide) (ax_WA (by decide)) gi43 (ai_WA (by decide) hi43) rfl ?_
              refine w_iload_n (n := 111) (i := 3) (by decide +kernel) rfl rfl ?_
              refine w_iload (n := 113) (i := 4) (by decide +kernel) rfl rfl ?_
              refine w_aload_n (n := 114) (i := 0) (by decide +kernel) rfl rfl ?_
              refine w_getI (n := 117) hLM41 (by decide +kernel) oO_66 fF_8_101 (at_5) (by decide) rfl ?_
              obtain ⟨M44, hLM44, hr46, h⟩ := h
              refine w_cV (n := 120) (idx := 171) (cal := 83) (na := 3) (nl := 4) (as := [.int (ak_I M37 5 4), .int (ak_I M39 5 4), .int (ak_I M41 5 4)]) (rest := []) hLM41 (by decide +kernel) (by decide +kernel) (af_W (by decide) hi43) (by decide +kernel) rfl rfl rfl (Nat.le_of_ble_eq_true rfl) rfl hr46 ?_
              refine w_aload_n (n := 121) (i := 0) (by decide +kernel) rfl rfl ?_
              refine w_getR (n := 124) hLM44 (by decide +kernel) oO_66 fF_8_12 (at_5) (by decide) (ar_5_0) rfl ?_
              refine w_dup_ref (n := 125) (by decide +kernel) rfl ?_
              refine w_getI (n := 128) hLM44 (by decide +kernel) oO_66 fF_8_66 (af_F (by decide)) (by decide) rfl ?_
              refine w_iconst (n := 129) (v := 1) (x := 1) (by decide +kernel) rfl (by decide) ?_
              refine w_iadd (n := 130) (by decide +kernel) rfl ?_
              refine w_putI (n := 133) hLM44 (by decide +kernel) oO_66 fF_8_66 (af_F (by decide)) ⟨by decide, Or.inl (by decide)⟩ rfl ?_
              generalize eM45 : ak_sI M44 6 6 ((ak_I M44 6 6) + 1) = M45
              have hLM45 : ab_lay M45 := by rw [← eM45]; exact ab_lay.sI hLM44
              replace h := h M45 eM45.symm
              refine w_iconst (n := 134) (v := 1) (x := 1) (by decide +kernel) rfl (by decide) ?_
              subst h
              exact w_ireturn (by decide +kernel) (by decide +kernel)
    · rw [if_neg c70] at h
      refine w_if_ne_j (n := 34) (off := 7) (by decide +kernel) (by decide) c70 ?_
      refine w_aload_n (n := 35) (i := 0) (by decide +kernel) rfl rfl ?_
      refine w_getR (n := 38) hLM1 (by decide +kernel) oO_66 fF_8_12 (at_5) (by decide) (ar_5_0) rfl ?_
      refine w_getR (n := 41) hLM1 (by decide +kernel) oO_66 fF_8_159 (af_F (by decide)) (by decide) (ag_WA (by decide)) rfl ?_
      refine w_iload_n (n := 42) (i := 1) (by decide +kernel) rfl rfl ?_
      refine w_iconst (n := 43) (v := 1) (x := 1) (by decide +kernel) rfl (by decide) ?_
      refine w_isub (n := 44) (by decide +kernel) rfl ?_
      obtain ⟨i2, hi2, gi2, h⟩ := h
      refine w_aald (n := 45) hLM1 (by decide +kernel) (af_WA (by decide)) (by decide) (ax_WA (by decide)) gi2 (ai_WA (by decide) hi2) rfl ?_
      refine w_getI (n := 48) hLM1 (by decide +kernel) oO_66 fF_8_163 (af_W (by decide) hi2) (by decide) rfl ?_
      refine w_iconst (n := 49) (v := 1) (x := 1) (by decide +kernel) rfl (by decide) ?_
      refine w_iadd (n := 50) (by decide +kernel) rfl ?_
      refine w_istore_n (n := 51) (i := 2) (l1' := [some (.ref 5), some (.int (ak_I M 6 6)), some (.int ((ak_I M1 (6 + 16 + i2) 0) + 1)), none, none]) (l2' := []) (by decide +kernel) rfl (Nat.le_of_ble_eq_true rfl) rfl rfl ?_
      generalize ez3 : (ak_I M1 (6 + 16 + i2) 0) + 1 = z3
      replace h := h z3 ez3.symm
      refine w_aload_n (n := 52) (i := 0) (by decide +kernel) rfl rfl ?_
      refine w_iload_n (n := 53) (i := 2) (by decide +kernel) rfl rfl ?_
      refine w_iload_n (n := 54) (i := 1) (by decide +kernel) rfl rfl ?_
      by_cases c36 : ak_I M 6 6 = 0
      · rw [if_pos c36] at h
        refine w_if_ne_n (n := 57) (off := 7) (by decide +kernel) rfl c36 ?_
        refine w_iconst (n := 58) (v := 0) (x := 0) (by decide +kernel) rfl (by decide) ?_
        refine w_goto (n := 64) (off := 6) (by decide +kernel) (by decide) ?_
        obtain ⟨v21, M20, hLM20, hr35, h⟩ := h
        refine w_cV (n := 67) (idx := 97) (cal := 69) (na := 2) (nl := 3) (as := [.int z3, .int 0]) (rest := []) hLM1 (by decide +kernel) (by decide +kernel) (at_5) (by decide +kernel) rfl rfl rfl (Nat.le_of_ble_eq_true rfl) rfl hr35 ?_
        by_cases c34 : v21 = 0
        · rw [if_pos c34] at h
          refine w_if_ne_n (n := 70) (off := 5) (by decide +kernel) rfl c34 ?_
          refine w_iconst (n := 71) (v := 0) (x := 0) (by decide +kernel) rfl (by decide) ?_
          subst h
          exact w_ireturn (by decide +kernel) (by decide +kernel)
        · rw [if_neg c34] at h
          refine w_if_ne_j (n := 72) (off := 5) (by decide +kernel) (by decide) c34 ?_
          refine w_aload_n (n := 73) (i := 0) (by decide +kernel) rfl rfl ?_
          refine w_getI (n := 76) hLM20 (by decide +kernel) oO_66 fF_8_101 (at_5) (by decide) rfl ?_
          refine w_istore_n (n := 77) (i := 3) (l1' := [some (.ref 5), some (.int (ak_I M 6 6)), some (.int z3), some (.int (ak_I M20 5 4)), none]) (l2' := []) (by decide +kernel) rfl (Nat.le_of_ble_eq_true rfl) rfl rfl ?_
          refine w_aload_n (n := 78) (i := 0) (by decide +kernel) rfl rfl ?_
          obtain ⟨v23, M22, hLM22, hr33, h⟩ := h
          refine w_cV (n := 81) (idx := 168) (cal := 67) (na := 0) (nl := 1) (as := []) (rest := []) hLM20 (by decide +kernel) (by decide +kernel) (at_5) (by decide +kernel) rfl rfl rfl (Nat.le_of_ble_eq_true rfl) rfl hr33 ?_
          by_cases c32 : v23 = 0
          · rw [if_pos c32] at h
            refine w_if_ne_n (n := 84) (off := 5) (by decide +kernel) rfl c32 ?_
            refine w_iconst (n := 85) (v := 0) (x := 0) (by decide +kernel) rfl (by decide) ?_
            subst h
            exact w_ireturn (by decide +kernel) (by decide +kernel)
          · rw [if_neg c32] at h
            refine w_if_ne_j (n := 86) (off := 5) (by decide +kernel) (by decide) c32 ?_
            refine w_aload_n (n := 87) (i := 0) (by decide +kernel) rfl rfl ?_
            refine w_getI (n := 90) hLM22 (by decide +kernel) oO_66 fF_8_101 (at_5) (by decide) rfl ?_
            refine w_istore (n := 92) (i := 4) (l1' := [some (.ref 5), some (.int (ak_I M 6 6)), some (.int z3), some (.int (ak_I M20 5 4)), some (.int (ak_I M22 5 4))]) (l2' := []) (by decide +kernel) rfl (Nat.le_of_ble_eq_true rfl) rfl rfl ?_
            refine w_aload_n (n := 93) (i := 0) (by decide +kernel) rfl rfl ?_
            obtain ⟨v25, M24, hLM24, hr31, h⟩ := h
            refine w_cV (n := 96) (idx := 168) (cal := 67) (na := 0) (nl := 1) (as := []) (rest := []) hLM22 (by decide +kernel) (by decide +kernel) (at_5) (by decide +kernel) rfl rfl rfl (Nat.le_of_ble_eq_true rfl) rfl hr31 ?_
            by_cases c30 : v25 = 0
            · rw [if_pos c30] at h
              refine w_if_ne_n (n := 99) (off := 5) (by decide +kernel) rfl c30 ?_
              refine w_iconst (n := 100) (v := 0) (x := 0) (by decide +kernel) rfl (by decide) ?_
              subst h
              exact w_ireturn (by decide +kernel) (by decide +kernel)
            · rw [if_neg c30] at h
              refine w_if_ne_j (n := 101) (off := 5) (by decide +kernel) (by decide) c30 ?_
              refine w_aload_n (n := 102) (i := 0) (by decide +kernel) rfl rfl ?_
              refine w_getR (n := 105) hLM24 (by decide +kernel) oO_66 fF_8_12 (at_5) (by decide) (ar_5_0) rfl ?_
              refine w_getR (n := 108) hLM24 (by decide +kernel) oO_66 fF_8_159 (af_F (by decide)) (by decide) (ag_WA (by decide)) rfl ?_
              refine w_iload_n (n := 109) (i := 1) (by decide +kernel) rfl rfl ?_
              obtain ⟨i26, hi26, gi26, h⟩ := h
              refine w_aald (n := 110) hLM24 (by decide +kernel) (af_WA (by decide)) (by decide) (ax_WA (by decide)) gi26 (ai_WA (by decide) hi26) rfl ?_
              refine w_iload_n (n := 111) (i := 3) (by decide +kernel) rfl rfl ?_
              refine w_iload (n := 113) (i := 4) (by decide +kernel) rfl rfl ?_
              refine w_aload_n (n := 114) (i := 0) (by decide +kernel) rfl rfl ?_
              refine w_getI (n := 117) hLM24 (by decide +kernel) oO_66 fF_8_101 (at_5) (by decide) rfl ?_
              obtain ⟨M27, hLM27, hr29, h⟩ := h
              refine w_cV (n := 120) (idx := 171) (cal := 83) (na := 3) (nl := 4) (as := [.int (ak_I M20 5 4), .int (ak_I M22 5 4), .int (ak_I M24 5 4)]) (rest := []) hLM24 (by decide +kernel) (by decide +kernel) (af_W (by decide) hi26) (by decide +kernel) rfl rfl rfl (Nat.le_of_ble_eq_true rfl) rfl hr29 ?_
              refine w_aload_n (n := 121) (i := 0) (by decide +kernel) rfl rfl ?_
              refine w_getR (n := 124) hLM27 (by decide +kernel) oO_66 fF_8_12 (at_5) (by decide) (ar_5_0) rfl ?_
              refine w_dup_ref (n := 125) (by decide +kernel) rfl ?_
              refine w_getI (n := 128) hLM27 (by decide +kernel) oO_66 fF_8_66 (af_F (by decide)) (by decide) rfl ?_
              refine w_iconst (n := 129) (v := 1) (x := 1) (by decide +kernel) rfl (by decide) ?_
              refine w_iadd (n := 130) (by decide +kernel) rfl ?_
              refine w_putI (n := 133) hLM27 (by decide +kernel) oO_66 fF_8_66 (af_F (by decide)) ⟨by decide, Or.inl (by decide)⟩ rfl ?_
              generalize eM28 : ak_sI M27 6 6 ((ak_I M27 6 6) + 1) = M28
              have hLM28 : ab_lay M28 := by rw [← eM28]; exact ab_lay.sI hLM27
              replace h := h M28 eM28.symm
              refine w_iconst (n := 134) (v := 1) (x := 1) (by decide +kernel) rfl (by decide) ?_
              subst h
              exact w_ireturn (by decide +kernel) (by decide +kernel)
      · rw [if_neg c36] at h
        refine w_if_ne_j (n := 61) (off := 7) (by decide +kernel) (by decide) c36 ?_
        refine w_sipush (n := 64) (v := 300) (x := 300) (by decide +kernel) rfl (by decide) ?_
        obtain ⟨v5, M4, hLM4, hr19, h⟩ := h
        refine w_cV (n := 67) (idx := 97) (cal := 69) (na := 2) (nl := 3) (as := [.int z3, .int 300]) (rest := []) hLM1 (by decide +kernel) (by decide +kernel) (at_5) (by decide +kernel) rfl rfl rfl (Nat.le_of_ble_eq_true rfl) rfl hr19 ?_
        by_cases c18 : v5 = 0
        · rw [if_pos c18] at h
          refine w_if_ne_n (n := 70) (off := 5) (by decide +kernel) rfl c18 ?_
          refine w_iconst (n := 71) (v := 0) (x := 0) (by decide +kernel) rfl (by decide) ?_
          subst h
          exact w_ireturn (by decide +kernel) (by decide +kernel)
        · rw [if_neg c18] at h
          refine w_if_ne_j (n := 72) (off := 5) (by decide +kernel) (by decide) c18 ?_
          refine w_aload_n (n := 73) (i := 0) (by decide +kernel) rfl rfl ?_
          refine w_getI (n := 76) hLM4 (by decide +kernel) oO_66 fF_8_101 (at_5) (by decide) rfl ?_
          refine w_istore_n (n := 77) (i := 3) (l1' := [some (.ref 5), some (.int (ak_I M 6 6)), some (.int z3), some (.int (ak_I M4 5 4)), none]) (l2' := []) (by decide +kernel) rfl (Nat.le_of_ble_eq_true rfl) rfl rfl ?_
          refine w_aload_n (n := 78) (i := 0) (by decide +kernel) rfl rfl ?_
          obtain ⟨v7, M6, hLM6, hr17, h⟩ := h
          refine w_cV (n := 81) (idx := 168) (cal := 67) (na := 0) (nl := 1) (as := []) (rest := []) hLM4 (by decide +kernel) (by decide +kernel) (at_5) (by decide +kernel) rfl rfl rfl (Nat.le_of_ble_eq_true rfl) rfl hr17 ?_
          by_cases c16 : v7 = 0
          · rw [if_pos c16] at h
            refine w_if_ne_n (n := 84) (off := 5) (by decide +kernel) rfl c16 ?_
            refine w_iconst (n := 85) (v := 0) (x := 0) (by decide +kernel) rfl (by decide) ?_
            subst h
            exact w_ireturn (by decide +kernel) (by decide +kernel)
          · rw [if_neg c16] at h
            refine w_if_ne_j (n := 86) (off := 5) (by decide +kernel) (by decide) c16 ?_
            refine w_aload_n (n := 87) (i := 0) (by decide +kernel) rfl rfl ?_
            refine w_getI (n := 90) hLM6 (by decide +kernel) oO_66 fF_8_101 (at_5) (by decide) rfl ?_
            refine w_istore (n := 92) (i := 4) (l1' := [some (.ref 5), some (.int (ak_I M 6 6)), some (.int z3), some (.int (ak_I M4 5 4)), some (.int (ak_I M6 5 4))]) (l2' := []) (by decide +kernel) rfl (Nat.le_of_ble_eq_true rfl) rfl rfl ?_
            refine w_aload_n (n := 93) (i := 0) (by decide +kernel) rfl rfl ?_
            obtain ⟨v9, M8, hLM8, hr15, h⟩ := h
            refine w_cV (n := 96) (idx := 168) (cal := 67) (na := 0) (nl := 1) (as := []) (rest := []) hLM6 (by decide +kernel) (by decide +kernel) (at_5) (by decide +kernel) rfl rfl rfl (Nat.le_of_ble_eq_true rfl) rfl hr15 ?_
            by_cases c14 : v9 = 0
            · rw [if_pos c14] at h
              refine w_if_ne_n (n := 99) (off := 5) (by decide +kernel) rfl c14 ?_
              refine w_iconst (n := 100) (v := 0) (x := 0) (by decide +kernel) rfl (by decide) ?_
              subst h
              exact w_ireturn (by decide +kernel) (by decide +kernel)
            · rw [if_neg c14] at h
              refine w_if_ne_j (n := 101) (off := 5) (by decide +kernel) (by decide) c14 ?_
              refine w_aload_n (n := 102) (i := 0) (by decide +kernel) rfl rfl ?_
              refine w_getR (n := 105) hLM8 (by decide +kernel) oO_66 fF_8_12 (at_5) (by decide) (ar_5_0) rfl ?_
              refine w_getR (n := 108) hLM8 (by decide +kernel) oO_66 fF_8_159 (af_F (by decide)) (by decide) (ag_WA (by decide)) rfl ?_
              refine w_iload_n (n := 109) (i := 1) (by decide +kernel) rfl rfl ?_
              obtain ⟨i10, hi10, gi10, h⟩ := h
              refine w_aald (n := 110) hLM8 (by decide +kernel) (af_WA (by decide)) (by decide) (ax_WA (by decide)) gi10 (ai_WA (by decide) hi10) rfl ?_
              refine w_iload_n (n := 111) (i := 3) (by decide +kernel) rfl rfl ?_
              refine w_iload (n := 113) (i := 4) (by decide +kernel) rfl rfl ?_
              refine w_aload_n (n := 114) (i := 0) (by decide +kernel) rfl rfl ?_
              refine w_getI (n := 117) hLM8 (by decide +kernel) oO_66 fF_8_101 (at_5) (by decide) rfl ?_
              obtain ⟨M11, hLM11, hr13, h⟩ := h
              refine w_cV (n := 120) (idx := 171) (cal := 83) (na := 3) (nl := 4) (as := [.int (ak_I M4 5 4), .int (ak_I M6 5 4), .int (ak_I M8 5 4)]) (rest := []) hLM8 (by decide +kernel) (by decide +kernel) (af_W (by decide) hi10) (by decide +kernel) rfl rfl rfl (Nat.le_of_ble_eq_true rfl) rfl hr13 ?_
              refine w_aload_n (n := 121) (i := 0) (by decide +kernel) rfl rfl ?_
              refine w_getR (n := 124) hLM11 (by decide +kernel) oO_66 fF_8_12 (at_5) (by decide) (ar_5_0) rfl ?_
              refine w_dup_ref (n := 125) (by decide +kernel) rfl ?_
              refine w_getI (n := 128) hLM11 (by decide +kernel) oO_66 fF_8_66 (af_F (by decide)) (by decide) rfl ?_
              refine w_iconst (n := 129) (v := 1) (x := 1) (by decide +kernel) rfl (by decide) ?_
              refine w_iadd (n := 130) (by decide +kernel) rfl ?_
              refine w_putI (n := 133) hLM11 (by decide +kernel) oO_66 fF_8_66 (af_F (by decide)) ⟨by decide, Or.inl (by decide)⟩ rfl ?_
              generalize eM12 : ak_sI M11 6 6 ((ak_I M11 6 6) + 1) = M12
              have hLM12 : ab_lay M12 := by rw [← eM12]; exact ab_lay.sI hLM11
              replace h := h M12 eM12.symm
              refine w_iconst (n := 134) (v := 1) (x := 1) (by decide +kernel) rfl (by decide) ?_
              subst h
              exact w_ireturn (by decide +kernel) (by decide +kernel)
theorem t_67 {X : ak_X} {M : ak_M} {r : ak_O × ak_M} (hL : ab_lay M) (h : (if ak_I M 51 1 = 3 then (∃ (M1 : ak_M), ab_lay M1 ∧ rn X 76 [.ref 51] M (.inl (none), M1) ∧ sg X 67 (28, [some (.ref 5), some (.int 1)], [], []) M1 r) else sg X 67 (28, [some (.ref 5), some (.int 0)], [], []) M r)) : rn X 67 [.ref 5] M r := by
  refine w_rn (nL := 2) (l1 := [some (.ref 5), none]) (by decide +kernel) rfl rfl ?_
  refine w_aload_n (n := 1) (i := 0) (by decide +kernel) rfl rfl ?_
  refine w_getR (n := 4) hL (by decide +kernel) oO_67 fF_8_34 (at_5) (by decide) (ar_5_2) rfl ?_
  refine w_getI (n := 7) hL (by decide +kernel) oO_67 fF_8_51 (at_51) (by decide) rfl ?_
  refine w_iconst (n := 8) (v := 3) (x := 3) (by decide +kernel) rfl (by decide) ?_
  by_cases c3 : ak_I M 51 1 = 3
  · rw [if_pos c3] at h
    refine w_icmp_ne_n (n := 11) (off := 7) (by decide +kernel) rfl c3 ?_
    refine w_iconst (n := 12) (v := 1) (x := 1) (by decide +kernel) rfl (by decide) ?_
    refine w_goto (n := 16) (off := 4) (by decide +kernel) (by decide) ?_
    refine w_istore_n (n := 17) (i := 1) (l1' := [some (.ref 5), some (.int 1)]) (l2' := []) (by decide +kernel) rfl (Nat.le_of_ble_eq_true rfl) rfl rfl ?_
    refine w_iload_n (n := 18) (i := 1) (by decide +kernel) rfl rfl ?_
    refine w_if_eq_n (n := 21) (off := 10) (by decide +kernel) rfl (by decide) ?_
    refine w_aload_n (n := 22) (i := 0) (by decide +kernel) rfl rfl ?_
    refine w_getR (n := 25) hL (by decide +kernel) oO_67 fF_8_34 (at_5) (by decide) (ar_5_2) rfl ?_
    obtain ⟨M1, hLM1, hr2, h⟩ := h
    refine w_cV (n := 28) (idx := 91) (cal := 76) (na := 0) (nl := 1) (as := []) (rest := []) hL (by decide +kernel) (by decide +kernel) (at_51) (by decide +kernel) rfl rfl rfl (Nat.le_of_ble_eq_true rfl) rfl hr2 ?_
    exact h
  · rw [if_neg c3] at h
    refine w_icmp_ne_j (n := 15) (off := 7) (by decide +kernel) (by decide) c3 ?_
    refine w_iconst (n := 16) (v := 0) (x := 0) (by decide +kernel) rfl (by decide) ?_
    refine w_istore_n (n := 17) (i := 1) (l1' := [some (.ref 5), some (.int 0)]) (l2' := []) (by decide +kernel) rfl (Nat.le_of_ble_eq_true rfl) rfl rfl ?_
    refine w_iload_n (n := 18) (i := 1) (by decide +kernel) rfl rfl ?_
    refine w_if_eq_j (n := 28) (off := 10) (by decide +kernel) (by decide) (by decide) ?_
    exact h
theorem t_67_28 {X : ak_X} {M : ak_M} {r : ak_O × ak_M} (hL : ab_lay M) (y1 : Int32) (h : (∃ (v5 : Int32) (M4 : ak_M), ab_lay M4 ∧ rn X 69 [.ref 5, .int 0, .int 9] M (.inl (some (.int v5)), M4) ∧ (if v5 = 0 then r = (.inl (some (.int 0)), M4) else (if y1 = 0 then (∀ M6 : ak_M, M6 = ak_sI M4 5 4 (ak_I M4 5 4) → r = (.inl (some (.int 1)), M6)) else (∀ M7 : ak_M, M7 = ak_sI M4 5 4 (-(ak_I M4 5 4)) → r = (.inl (some (.int 1)), M7)))))) : sg X 67 (28, [some (.ref 5), some (.int y1)], [], []) M r := by
  refine w_aload_n (n := 29) (i := 0) (by decide +kernel) rfl rfl ?_
  refine w_iconst (n := 30) (v := 0) (x := 0) (by decide +kernel) rfl (by decide) ?_
  refine w_bipush (n := 32) (v := 9) (x := 9) (by decide +kernel) rfl (by decide) ?_
  obtain ⟨v5, M4, hLM4, hr10, h⟩ := h
  refine w_cV (n := 35) (idx := 97) (cal := 69) (na := 2) (nl := 3) (as := [.int 0, .int 9]) (rest := []) hL (by decide +kernel) (by decide +kernel) (at_5) (by decide +kernel) rfl rfl rfl (Nat.le_of_ble_eq_true rfl) rfl hr10 ?_
  by_cases c9 : v5 = 0
  · rw [if_pos c9] at h
    refine w_if_ne_n (n := 38) (off := 5) (by decide +kernel) rfl c9 ?_
    refine w_iconst (n := 39) (v := 0) (x := 0) (by decide +kernel) rfl (by decide) ?_
    subst h
    exact w_ireturn (by decide +kernel) (by decide +kernel)
  · rw [if_neg c9] at h
    refine w_if_ne_j (n := 40) (off := 5) (by decide +kernel) (by decide) c9 ?_
    refine w_aload_n (n := 41) (i := 0) (by decide +kernel) rfl rfl ?_
    refine w_iload_n (n := 42) (i := 1) (by decide +kernel) rfl rfl ?_
    by_cases c8 : y1 = 0
    · rw [if_pos c8] at h
      refine w_if_eq_j (n := 53) (off := 11) (by decide +kernel) (by decide) c8 ?_
      refine w_aload_n (n := 54) (i := 0) (by decide +kernel) rfl rfl ?_
      refine w_getI (n := 57) hLM4 (by decide +kernel) oO_67 fF_8_101 (at_5) (by decide) rfl ?_
      refine w_putI (n := 60) hLM4 (by decide +kernel) oO_67 fF_8_101 (at_5) ⟨by decide, Or.inl (by decide)⟩ rfl ?_
      generalize eM6 : ak_sI M4 5 4 (ak_I M4 5 4) = M6
      have hLM6 : ab_lay M6 := by rw [← eM6]; exact ab_lay.sI hLM4
      replace h := h M6 eM6.symm
      refine w_iconst (n := 61) (v := 1) (x := 1) (by decide +kernel) rfl (by decide) ?_
      subst h
      exact w_ireturn (by decide +kernel) (by decide +kernel)
    · rw [if_neg c8] at h
      refine w_if_eq_n (n := 45) (off := 11) (by decide +kernel) rfl c8 ?_
      refine w_aload_n (n := 46) (i := 0) (by decide +kernel) rfl rfl ?_
      refine w_getI (n := 49) hLM4 (by decide +kernel) oO_67 fF_8_101 (at_5) (by decide) rfl ?_
      refine w_ineg (n := 50) (by decide +kernel) rfl ?_
      refine w_goto (n := 57) (off := 7) (by decide +kernel) (by decide) ?_
      refine w_putI (n := 60) hLM4 (by decide +kernel) oO_67 fF_8_101 (at_5) ⟨by decide, Or.inl (by decide)⟩ rfl ?_
      generalize eM7 : ak_sI M4 5 4 (-(ak_I M4 5 4)) = M7
      have hLM7 : ab_lay M7 := by rw [← eM7]; exact ab_lay.sI hLM4
      replace h := h M7 eM7.symm
      refine w_iconst (n := 61) (v := 1) (x := 1) (by decide +kernel) rfl (by decide) ?_
      subst h
      exact w_ireturn (by decide +kernel) (by decide +kernel)
theorem t_68 {X : ak_X} {M : ak_M} {r : ak_O × ak_M} (hL : ab_lay M) (x1 : Int32) (h : (if (ak_I M 5 3) &&& (1 <<< (x1 &&& 31)) = 0 then (∀ M1 : ak_M, M1 = ak_sI M 5 3 ((ak_I M 5 3) ||| (1 <<< (x1 &&& 31))) → (∃ (M2 : ak_M), ab_lay M2 ∧ rn X 76 [.ref 51] M1 (.inl (none), M2) ∧ (∃ i3 : Nat, ab_ix x1 i3 6 ∧ (∃ i4 : Nat, ab_ix x1 i4 6 ∧ (∃ (v6 : Int32) (M5 : ak_M), ab_lay M5 ∧ rn X 69 [.ref 5, .int (ak_cI X (1000001 + 0) i3), .int (ak_cI X (1000001 + 1) i4)] M2 (.inl (some (.int v6)), M5) ∧ (if v6 = 0 then r = (.inl (some (.int 0)), M5) else (∃ i7 : Nat, ab_ix x1 i7 6 ∧ (∀ M8 : ak_M, M8 = ak_sI M5 (6 + 4) i7 (ak_I M5 5 4) → r = (.inl (some (.int 1)), M8))))))))) else (∃ (v13 : Int32) (M12 : ak_M), ab_lay M12 ∧ rn X 71 [.ref 5, .int 3] M (.inl (some (.int v13)), M12) ∧ ((v13 = 0 ∨ v13 = 1) ∧ r = (.inl (some (.int v13)), M12))))) : rn X 68 [.ref 5, .int x1] M r := by
  refine w_rn (nL := 2) (l1 := [some (.ref 5), some (.int x1)]) (by decide +kernel) rfl rfl ?_
  refine w_aload_n (n := 1) (i := 0) (by decide +kernel) rfl rfl ?_
  refine w_getI (n := 4) hL (by decide +kernel) oO_68 fF_8_45 (at_5) (by decide) rfl ?_
  refine w_iconst (n := 5) (v := 1) (x := 1) (by decide +kernel) rfl (by decide) ?_
  refine w_iload_n (n := 6) (i := 1) (by decide +kernel) rfl rfl ?_
  refine w_ishl (n := 7) (by decide +kernel) rfl ?_
  refine w_iand (n := 8) (by decide +kernel) rfl ?_
  by_cases c16 : (ak_I M 5 3) &&& (1 <<< (x1 &&& 31)) = 0
  · rw [if_pos c16] at h
    refine w_if_eq_j (n := 17) (off := 9) (by decide +kernel) (by decide) c16 ?_
    refine w_aload_n (n := 18) (i := 0) (by decide +kernel) rfl rfl ?_
    refine w_dup_ref (n := 19) (by decide +kernel) rfl ?_
    refine w_getI (n := 22) hL (by decide +kernel) oO_68 fF_8_45 (at_5) (by decide) rfl ?_
    refine w_iconst (n := 23) (v := 1) (x := 1) (by decide +kernel) rfl (by decide) ?_
    refine w_iload_n (n := 24) (i := 1) (by decide +kernel) rfl rfl ?_
    refine w_ishl (n := 25) (by decide +kernel) rfl ?_
    refine w_ior (n := 26) (by decide +kernel) rfl ?_
    refine w_putI (n := 29) hL (by decide +kernel) oO_68 fF_8_45 (at_5) ⟨by decide, Or.inl (by decide)⟩ rfl ?_
    generalize eM1 : ak_sI M 5 3 ((ak_I M 5 3) ||| (1 <<< (x1 &&& 31))) = M1
    have hLM1 : ab_lay M1 := by rw [← eM1]; exact ab_lay.sI hL
    replace h := h M1 eM1.symm
    refine w_aload_n (n := 30) (i := 0) (by decide +kernel) rfl rfl ?_
    refine w_getR (n := 33) hLM1 (by decide +kernel) oO_68 fF_8_34 (at_5) (by decide) (ar_5_2) rfl ?_
    obtain ⟨M2, hLM2, hr11, h⟩ := h
    refine w_cV (n := 36) (idx := 91) (cal := 76) (na := 0) (nl := 1) (as := []) (rest := []) hLM1 (by decide +kernel) (by decide +kernel) (at_51) (by decide +kernel) rfl rfl rfl (Nat.le_of_ble_eq_true rfl) rfl hr11 ?_
    refine w_aload_n (n := 37) (i := 0) (by decide +kernel) rfl rfl ?_
    refine w_sta (n := 40) (by decide +kernel) oO_68 fS_8_175 (by decide) rfl ?_
    refine w_iload_n (n := 41) (i := 1) (by decide +kernel) rfl rfl ?_
    obtain ⟨i3, gi3, h⟩ := h
    refine w_cald (n := 42) (w := 0) hLM2 (by decide) (by decide +kernel) gi3 rfl ?_
    refine w_sta (n := 45) (by decide +kernel) oO_68 fS_8_179 (by decide) rfl ?_
    refine w_iload_n (n := 46) (i := 1) (by decide +kernel) rfl rfl ?_
    obtain ⟨i4, gi4, h⟩ := h
    refine w_cald (n := 47) (w := 1) hLM2 (by decide) (by decide +kernel) gi4 rfl ?_
    obtain ⟨v6, M5, hLM5, hr10, h⟩ := h
    refine w_cV (n := 50) (idx := 97) (cal := 69) (na := 2) (nl := 3) (as := [.int (ak_cI X (1000001 + 0) i3), .int (ak_cI X (1000001 + 1) i4)]) (rest := []) hLM2 (by decide +kernel) (by decide +kernel) (at_5) (by decide +kernel) rfl rfl rfl (Nat.le_of_ble_eq_true rfl) rfl hr10 ?_
    by_cases c9 : v6 = 0
    · rw [if_pos c9] at h
      refine w_if_ne_n (n := 53) (off := 5) (by decide +kernel) rfl c9 ?_
      refine w_iconst (n := 54) (v := 0) (x := 0) (by decide +kernel) rfl (by decide) ?_
      subst h
      exact w_ireturn (by decide +kernel) (by decide +kernel)
    · rw [if_neg c9] at h
      refine w_if_ne_j (n := 55) (off := 5) (by decide +kernel) (by decide) c9 ?_
      refine w_aload_n (n := 56) (i := 0) (by decide +kernel) rfl rfl ?_
      refine w_getR (n := 59) hLM5 (by decide +kernel) oO_68 fF_8_12 (at_5) (by decide) (ar_5_0) rfl ?_
      refine w_getR (n := 62) hLM5 (by decide +kernel) oO_68 fF_8_182 (af_F (by decide)) (by decide) (ag_SA (by decide)) rfl ?_
      refine w_iload_n (n := 63) (i := 1) (by decide +kernel) rfl rfl ?_
      refine w_aload_n (n := 64) (i := 0) (by decide +kernel) rfl rfl ?_
      refine w_getI (n := 67) hLM5 (by decide +kernel) oO_68 fF_8_101 (at_5) (by decide) rfl ?_
      obtain ⟨i7, gi7, h⟩ := h
      refine w_iast (n := 68) hLM5 (by decide +kernel) (af_SA (by decide)) (ax_SA (by decide)) gi7 rfl ?_
      generalize eM8 : ak_sI M5 (6 + 4) i7 (ak_I M5 5 4) = M8
      have hLM8 : ab_lay M8 := by rw [← eM8]; exact ab_lay.sI hLM5
      replace h := h M8 eM8.symm
      refine w_iconst (n := 69) (v := 1) (x := 1) (by decide +kernel) rfl (by decide) ?_
      subst h
      exact w_ireturn (by decide +kernel) (by decide +kernel)
  · rw [if_neg c16] at h
    refine w_if_eq_n (n := 11) (off := 9) (by decide +kernel) rfl c16 ?_
    refine w_aload_n (n := 12) (i := 0) (by decide +kernel) rfl rfl ?_
    refine w_iconst (n := 13) (v := 3) (x := 3) (by decide +kernel) rfl (by decide) ?_
    obtain ⟨v13, M12, hLM12, hr15, h⟩ := h
    refine w_cV (n := 16) (idx := 85) (cal := 71) (na := 1) (nl := 2) (as := [.int 3]) (rest := []) hL (by decide +kernel) (by decide +kernel) (at_5) (by decide +kernel) rfl rfl rfl (Nat.le_of_ble_eq_true rfl) rfl hr15 ?_
    obtain ⟨g14, rfl⟩ := h
    exact w_ireturn (by decide +kernel) (w_okZ (by decide +kernel) g14)
theorem t_69 {X : ak_X} {M : ak_M} {r : ak_O × ak_M} (hL : ab_lay M) (x1 : Int32) (x2 : Int32) (h : (∃ (v2 : Int32) (M1 : ak_M), ab_lay M1 ∧ rn X 78 [.ref 51] M (.inl (some (.int v2)), M1) ∧ (if v2 = 0 then (∃ (v18 : Int32) (M17 : ak_M), ab_lay M17 ∧ rn X 71 [.ref 5, .int 1] M1 (.inl (some (.int v18)), M17) ∧ ((v18 = 0 ∨ v18 = 1) ∧ r = (.inl (some (.int v18)), M17))) else (∃ (v4 : Int32) (M3 : ak_M), ab_lay M3 ∧ rn X 79 [.ref 51] M1 (.inl (some (.int v4)), M3) ∧ (∀ M5 : ak_M, M5 = ak_sI M3 5 4 v4 → (∃ (v7 : Int32) (M6 : ak_M), ab_lay M6 ∧ rn X 151 [.int (ak_I M5 5 4), .int x1, .int x2] M5 (.inl (some (.int v7)), M6) ∧ (if v7 = 0 then (∃ (v11 : Int32) (M10 : ak_M), ab_lay M10 ∧ rn X 71 [.ref 5, .int 2] M6 (.inl (some (.int v11)), M10) ∧ ((v11 = 0 ∨ v11 = 1) ∧ r = (.inl (some (.int v11)), M10))) else (∃ (M8 : ak_M), ab_lay M8 ∧ rn X 76 [.ref 51] M6 (.inl (none), M8) ∧ r = (.inl (some (.int 1)), M8))))))))) : rn X 69 [.ref 5, .int x1, .int x2] M r := by
  refine w_rn (nL := 3) (l1 := [some (.ref 5), some (.int x1), some (.int x2)]) (by decide +kernel) rfl rfl ?_
  refine w_aload_n (n := 1) (i := 0) (by decide +kernel) rfl rfl ?_
  refine w_getR (n := 4) hL (by decide +kernel) oO_69 fF_8_34 (at_5) (by decide) (ar_5_2) rfl ?_
  obtain ⟨v2, M1, hLM1, hr22, h⟩ := h
  refine w_cV (n := 7) (idx := 185) (cal := 78) (na := 0) (nl := 1) (as := []) (rest := []) hL (by decide +kernel) (by decide +kernel) (at_51) (by decide +kernel) rfl rfl rfl (Nat.le_of_ble_eq_true rfl) rfl hr22 ?_
  by_cases c21 : v2 = 0
  · rw [if_pos c21] at h
    refine w_if_ne_n (n := 10) (off := 9) (by decide +kernel) rfl c21 ?_
    refine w_aload_n (n := 11) (i := 0) (by decide +kernel) rfl rfl ?_
    refine w_iconst (n := 12) (v := 1) (x := 1) (by decide +kernel) rfl (by decide) ?_
    obtain ⟨v18, M17, hLM17, hr20, h⟩ := h
    refine w_cV (n := 15) (idx := 85) (cal := 71) (na := 1) (nl := 2) (as := [.int 1]) (rest := []) hLM1 (by decide +kernel) (by decide +kernel) (at_5) (by decide +kernel) rfl rfl rfl (Nat.le_of_ble_eq_true rfl) rfl hr20 ?_
    obtain ⟨g19, rfl⟩ := h
    exact w_ireturn (by decide +kernel) (w_okZ (by decide +kernel) g19)
  · rw [if_neg c21] at h
    refine w_if_ne_j (n := 16) (off := 9) (by decide +kernel) (by decide) c21 ?_
    refine w_aload_n (n := 17) (i := 0) (by decide +kernel) rfl rfl ?_
    refine w_aload_n (n := 18) (i := 0) (by decide +kernel) rfl rfl ?_
    refine w_getR (n := 21) hLM1 (by decide +kernel) oO_69 fF_8_34 (at_5) (by decide) (ar_5_2) rfl ?_
    obtain ⟨v4, M3, hLM3, hr16, h⟩ := h
    refine w_cV (n := 24) (idx := 188) (cal := 79) (na := 0) (nl := 1) (as := []) (rest := [.ref 5]) hLM1 (by decide +kernel) (by decide +kernel) (at_51) (by decide +kernel) rfl rfl rfl (Nat.le_of_ble_eq_true rfl) rfl hr16 ?_
    refine w_putI (n := 27) hLM3 (by decide +kernel) oO_69 fF_8_101 (at_5) ⟨by decide, Or.inl (by decide)⟩ rfl ?_
    generalize eM5 : ak_sI M3 5 4 v4 = M5
    have hLM5 : ab_lay M5 := by rw [← eM5]; exact ab_lay.sI hLM3
    replace h := h M5 eM5.symm
    refine w_aload_n (n := 28) (i := 0) (by decide +kernel) rfl rfl ?_
    refine w_getI (n := 31) hLM5 (by decide +kernel) oO_69 fF_8_101 (at_5) (by decide) rfl ?_
    refine w_iload_n (n := 32) (i := 1) (by decide +kernel) rfl rfl ?_
    refine w_iload_n (n := 33) (i := 2) (by decide +kernel) rfl rfl ?_
    obtain ⟨v7, M6, hLM6, hr15, h⟩ := h
    refine w_cS (n := 36) (idx := 78) (cal := 151) (na := 3) (nl := 3) (as := [.int (ak_I M5 5 4), .int x1, .int x2]) (rest := []) (by decide +kernel) (by decide +kernel) rfl rfl rfl (Nat.le_of_ble_eq_true rfl) rfl hr15 ?_
    by_cases c14 : v7 = 0
    · rw [if_pos c14] at h
      refine w_if_ne_n (n := 39) (off := 9) (by decide +kernel) rfl c14 ?_
      refine w_aload_n (n := 40) (i := 0) (by decide +kernel) rfl rfl ?_
      refine w_iconst (n := 41) (v := 2) (x := 2) (by decide +kernel) rfl (by decide) ?_
      obtain ⟨v11, M10, hLM10, hr13, h⟩ := h
      refine w_cV (n := 44) (idx := 85) (cal := 71) (na := 1) (nl := 2) (as := [.int 2]) (rest := []) hLM6 (by decide +kernel) (by decide +kernel) (at_5) (by decide +kernel) rfl rfl rfl (Nat.le_of_ble_eq_true rfl) rfl hr13 ?_
      obtain ⟨g12, rfl⟩ := h
      exact w_ireturn (by decide +kernel) (w_okZ (by decide +kernel) g12)
    · rw [if_neg c14] at h
      refine w_if_ne_j (n := 45) (off := 9) (by decide +kernel) (by decide) c14 ?_
      refine w_aload_n (n := 46) (i := 0) (by decide +kernel) rfl rfl ?_
      refine w_getR (n := 49) hLM6 (by decide +kernel) oO_69 fF_8_34 (at_5) (by decide) (ar_5_2) rfl ?_
      obtain ⟨M8, hLM8, hr9, h⟩ := h
      refine w_cV (n := 52) (idx := 91) (cal := 76) (na := 0) (nl := 1) (as := []) (rest := []) hLM6 (by decide +kernel) (by decide +kernel) (at_51) (by decide +kernel) rfl rfl rfl (Nat.le_of_ble_eq_true rfl) rfl hr9 ?_
      refine w_iconst (n := 53) (v := 1) (x := 1) (by decide +kernel) rfl (by decide) ?_
      subst h
      exact w_ireturn (by decide +kernel) (by decide +kernel)
theorem t_70 {X : ak_X} {M : ak_M} {r : ak_O × ak_M} (hL : ab_lay M) (h : (if ak_I M 51 1 = 4 then (∃ (M1 : ak_M), ab_lay M1 ∧ rn X 76 [.ref 51] M (.inl (none), M1) ∧ r = (.inl (some (.int 1)), M1)) else (∃ (v4 : Int32) (M3 : ak_M), ab_lay M3 ∧ rn X 71 [.ref 5, .int 1] M (.inl (some (.int v4)), M3) ∧ ((v4 = 0 ∨ v4 = 1) ∧ r = (.inl (some (.int v4)), M3))))) : rn X 70 [.ref 5] M r := by
  refine w_rn (nL := 1) (l1 := [some (.ref 5)]) (by decide +kernel) rfl rfl ?_
  refine w_aload_n (n := 1) (i := 0) (by decide +kernel) rfl rfl ?_
  refine w_getR (n := 4) hL (by decide +kernel) oO_70 fF_8_34 (at_5) (by decide) (ar_5_2) rfl ?_
  refine w_getI (n := 7) hL (by decide +kernel) oO_70 fF_8_51 (at_51) (by decide) rfl ?_
  refine w_iconst (n := 8) (v := 4) (x := 4) (by decide +kernel) rfl (by decide) ?_
  by_cases c7 : ak_I M 51 1 = 4
  · rw [if_pos c7] at h
    refine w_icmp_eq_j (n := 17) (off := 9) (by decide +kernel) (by decide) c7 ?_
    refine w_aload_n (n := 18) (i := 0) (by decide +kernel) rfl rfl ?_
    refine w_getR (n := 21) hL (by decide +kernel) oO_70 fF_8_34 (at_5) (by decide) (ar_5_2) rfl ?_
    obtain ⟨M1, hLM1, hr2, h⟩ := h
    refine w_cV (n := 24) (idx := 91) (cal := 76) (na := 0) (nl := 1) (as := []) (rest := []) hL (by decide +kernel) (by decide +kernel) (at_51) (by decide +kernel) rfl rfl rfl (Nat.le_of_ble_eq_true rfl) rfl hr2 ?_
    refine w_iconst (n := 25) (v := 1) (x := 1) (by decide +kernel) rfl (by decide) ?_
    subst h
    exact w_ireturn (by decide +kernel) (by decide +kernel)
  · rw [if_neg c7] at h
    refine w_icmp_eq_n (n := 11) (off := 9) (by decide +kernel) rfl c7 ?_
    refine w_aload_n (n := 12) (i := 0) (by decide +kernel) rfl rfl ?_
    refine w_iconst (n := 13) (v := 1) (x := 1) (by decide +kernel) rfl (by decide) ?_
    obtain ⟨v4, M3, hLM3, hr6, h⟩ := h
    refine w_cV (n := 16) (idx := 85) (cal := 71) (na := 1) (nl := 2) (as := [.int 1]) (rest := []) hL (by decide +kernel) (by decide +kernel) (at_5) (by decide +kernel) rfl rfl rfl (Nat.le_of_ble_eq_true rfl) rfl hr6 ?_
    obtain ⟨g5, rfl⟩ := h
    exact w_ireturn (by decide +kernel) (w_okZ (by decide +kernel) g5)
theorem t_71 {X : ak_X} {M : ak_M} {r : ak_O × ak_M} (hL : ab_lay M) (x1 : Int32) (h : (∀ M1 : ak_M, M1 = ak_sI M 5 5 x1 → (∀ M2 : ak_M, M2 = ak_sI M1 5 6 (ak_I M1 51 2) → r = (.inl (some (.int 0)), M2)))) : rn X 71 [.ref 5, .int x1] M r := by
  refine w_rn (nL := 2) (l1 := [some (.ref 5), some (.int x1)]) (by decide +kernel) rfl rfl ?_
  refine w_aload_n (n := 1) (i := 0) (by decide +kernel) rfl rfl ?_
  refine w_iload_n (n := 2) (i := 1) (by decide +kernel) rfl rfl ?_
  refine w_putI (n := 5) hL (by decide +kernel) oO_71 fF_8_38 (at_5) ⟨by decide, Or.inl (by decide)⟩ rfl ?_
  generalize eM1 : ak_sI M 5 5 x1 = M1
  have hLM1 : ab_lay M1 := by rw [← eM1]; exact ab_lay.sI hL
  replace h := h M1 eM1.symm
  refine w_aload_n (n := 6) (i := 0) (by decide +kernel) rfl rfl ?_
  refine w_aload_n (n := 7) (i := 0) (by decide +kernel) rfl rfl ?_
  refine w_getR (n := 10) hLM1 (by decide +kernel) oO_71 fF_8_34 (at_5) (by decide) (ar_5_2) rfl ?_
  refine w_getI (n := 13) hLM1 (by decide +kernel) oO_71 fF_8_140 (at_51) (by decide) rfl ?_
  refine w_putI (n := 16) hLM1 (by decide +kernel) oO_71 fF_8_25 (at_5) ⟨by decide, Or.inl (by decide)⟩ rfl ?_
  generalize eM2 : ak_sI M1 5 6 (ak_I M1 51 2) = M2
  have hLM2 : ab_lay M2 := by rw [← eM2]; exact ab_lay.sI hLM1
  replace h := h M2 eM2.symm
  refine w_iconst (n := 17) (v := 0) (x := 0) (by decide +kernel) rfl (by decide) ?_
  subst h
  exact w_ireturn (by decide +kernel) (by decide +kernel)
theorem t_72 {X : ak_X} {M : ak_M} {r : ak_O × ak_M} (hL : ab_lay M) (h : sg X 72 (2, [some (.ref 5), some (.int 0)], [], []) M r) : rn X 72 [.ref 5] M r := by
  refine w_rn (nL := 2) (l1 := [some (.ref 5), none]) (by decide +kernel) rfl rfl ?_
  refine w_iconst (n := 1) (v := 0) (x := 0) (by decide +kernel) rfl (by decide) ?_
  refine w_istore_n (n := 2) (i := 1) (l1' := [some (.ref 5), some (.int 0)]) (l2' := []) (by decide +kernel) rfl (Nat.le_of_ble_eq_true rfl) rfl rfl ?_
  exact h
theorem t_72_2 {X : ak_X} {M : ak_M} {r : ak_O × ak_M} (hL : ab_lay M) (y1 : Int32) (h : (if 11 ≤ y1 then r = (.inl (some (.int ((-1)))), M) else (∃ (j2 : Nat) (M1 : ak_M), j2 < 25 ∧ ab_lay M1 ∧ rn X 73 [.int y1] M (.inl (some (.ref (1001000 + j2))), M1) ∧ (∃ (v4 : Int32) (M3 : ak_M), ab_lay M3 ∧ rn X 80 [.ref 51, .ref (1001000 + j2)] M1 (.inl (some (.int v4)), M3) ∧ (if v4 = 0 then sg X 72 (2, [some (.ref 5), some (.int (y1 + 1))], [], []) M3 r else r = (.inl (some (.int y1)), M3)))))) : sg X 72 (2, [some (.ref 5), some (.int y1)], [], []) M r := by
  refine w_iload_n (n := 3) (i := 1) (by decide +kernel) rfl rfl ?_
  refine w_bipush (n := 5) (v := 11) (x := 11) (by decide +kernel) rfl (by decide) ?_
  by_cases c8 : 11 ≤ y1
  · rw [if_pos c8] at h
    refine w_icmp_ge_j (n := 30) (off := 25) (by decide +kernel) (by decide) c8 ?_
    refine w_iconst (n := 31) (v := -1) (x := (-1)) (by decide +kernel) rfl (by decide) ?_
    subst h
    exact w_ireturn (by decide +kernel) (w_okI (by decide +kernel))
  · rw [if_neg c8] at h
    refine w_icmp_ge_n (n := 8) (off := 25) (by decide +kernel) rfl c8 ?_
    refine w_aload_n (n := 9) (i := 0) (by decide +kernel) rfl rfl ?_
    refine w_getR (n := 12) hL (by decide +kernel) oO_72 fF_8_34 (at_5) (by decide) (ar_5_2) rfl ?_
    refine w_iload_n (n := 13) (i := 1) (by decide +kernel) rfl rfl ?_
    obtain ⟨j2, M1, hj2, hLM1, hr7, h⟩ := h
    refine w_cS (n := 16) (idx := 151) (cal := 73) (na := 1) (nl := 1) (as := [.int y1]) (rest := [.ref 51]) (by decide +kernel) (by decide +kernel) rfl rfl rfl (Nat.le_of_ble_eq_true rfl) rfl hr7 ?_
    obtain ⟨v4, M3, hLM3, hr6, h⟩ := h
    refine w_cV (n := 19) (idx := 155) (cal := 80) (na := 1) (nl := 2) (as := [.ref (1001000 + j2)]) (rest := []) hLM1 (by decide +kernel) (by decide +kernel) (at_51) (by decide +kernel) rfl rfl rfl (Nat.le_of_ble_eq_true rfl) rfl hr6 ?_
    by_cases c5 : v4 = 0
    · rw [if_pos c5] at h
      refine w_if_eq_j (n := 24) (off := 5) (by decide +kernel) (by decide) c5 ?_
      refine w_iinc (n := 27) (i := 1) (v := 1) (y := y1 + 1) (l1' := [some (.ref 5), some (.int (y1 + 1))]) (l2' := []) (by decide +kernel) rfl rfl rfl rfl rfl ?_
      refine w_goto (n := 2) (off := (-25)) (by decide +kernel) (by decide) ?_
      exact h
    · rw [if_neg c5] at h
      refine w_if_eq_n (n := 22) (off := 5) (by decide +kernel) rfl c5 ?_
      refine w_iload_n (n := 23) (i := 1) (by decide +kernel) rfl rfl ?_
      subst h
      exact w_ireturn (by decide +kernel) (w_okI (by decide +kernel))
theorem t_73 {X : ak_X} {M : ak_M} {r : ak_O × ak_M} (hL : ab_lay M) (x0 : Int32) (h : (if x0 = 0 then r = (.inl (some (.ref (1001000 + 0))), M) else (if x0 = 1 then r = (.inl (some (.ref (1001000 + 1))), M) else (if x0 = 2 then r = (.inl (some (.ref (1001000 + 2))), M) else (if x0 = 3 then r = (.inl (some (.ref (1001000 + 3))), M) else (if x0 = 4 then r = (.inl (some (.ref (1001000 + 4))), M) else (if x0 = 5 then r = (.inl (some (.ref (1001000 + 5))), M) else (if x0 = 6 then r = (.inl (some (.ref (1001000 + 6))), M) else (if x0 = 7 then r = (.inl (some (.ref (1001000 + 7))), M) else (if x0 = 8 then r = (.inl (some (.ref (1001000 + 8))), M) else (if x0 = 9 then r = (.inl (some (.ref (1001000 + 9))), M) else r = (.inl (some (.ref (1001000 + 10))), M)))))))))))) : rn X 73 [.int x0] M r := by
  refine w_rn (nL := 1) (l1 := [some (.int x0)]) (by decide +kernel) rfl rfl ?_
  refine w_iload_n (n := 1) (i := 0) (by decide +kernel) rfl rfl ?_
  by_cases c1 : x0 = 0
  · rw [if_pos c1] at h
    refine w_tsw (n := 56) (d := 85) (lo := 0) (hi := 9) (offs := #[55, 58, 61, 64, 67, 70, 73, 76, 79, 82]) (o := 55) (by decide +kernel) (by rw [c1]; decide) (by decide) ?_
    refine w_ldc (n := 58) (idx := 191) (s := 0) (by decide +kernel) oO_73 (by decide +kernel) rfl ?_
    subst h
    exact w_areturn (by decide +kernel) (by decide +kernel)
  · rw [if_neg c1] at h
    by_cases c2 : x0 = 1
    · rw [if_pos c2] at h
      refine w_tsw (n := 59) (d := 85) (lo := 0) (hi := 9) (offs := #[55, 58, 61, 64, 67, 70, 73, 76, 79, 82]) (o := 58) (by decide +kernel) (by rw [c2]; decide) (by decide) ?_
      refine w_ldc (n := 61) (idx := 193) (s := 1) (by decide +kernel) oO_73 (by decide +kernel) rfl ?_
      subst h
      exact w_areturn (by decide +kernel) (by decide +kernel)
    · rw [if_neg c2] at h
      by_cases c3 : x0 = 2
      · rw [if_pos c3] at h
        refine w_tsw (n := 62) (d := 85) (lo := 0) (hi := 9) (offs := #[55, 58, 61, 64, 67, 70, 73, 76, 79, 82]) (o := 61) (by decide +kernel) (by rw [c3]; decide) (by decide) ?_
        refine w_ldc (n := 64) (idx := 195) (s := 2) (by decide +kernel) oO_73 (by decide +kernel) rfl ?_
        subst h
        exact w_areturn (by decide +kernel) (by decide +kernel)
      · rw [if_neg c3] at h
        by_cases c4 : x0 = 3
        · rw [if_pos c4] at h
          refine w_tsw (n := 65) (d := 85) (lo := 0) (hi := 9) (offs := #[55, 58, 61, 64, 67, 70, 73, 76, 79, 82]) (o := 64) (by decide +kernel) (by rw [c4]; decide) (by decide) ?_
          refine w_ldc (n := 67) (idx := 197) (s := 3) (by decide +kernel) oO_73 (by decide +kernel) rfl ?_
          subst h
          exact w_areturn (by decide +kernel) (by decide +kernel)
        · rw [if_neg c4] at h
          by_cases c5 : x0 = 4
          · rw [if_pos c5] at h
            refine w_tsw (n := 68) (d := 85) (lo := 0) (hi := 9) (offs := #[55, 58, 61, 64, 67, 70, 73, 76, 79, 82]) (o := 67) (by decide +kernel) (by rw [c5]; decide) (by decide) ?_
            refine w_ldc (n := 70) (idx := 199) (s := 4) (by decide +kernel) oO_73 (by decide +kernel) rfl ?_
            subst h
            exact w_areturn (by decide +kernel) (by decide +kernel)
          · rw [if_neg c5] at h
            by_cases c6 : x0 = 5
            · rw [if_pos c6] at h
              refine w_tsw (n := 71) (d := 85) (lo := 0) (hi := 9) (offs := #[55, 58, 61, 64, 67, 70, 73, 76, 79, 82]) (o := 70) (by decide +kernel) (by rw [c6]; decide) (by decide) ?_
              refine w_ldc (n := 73) (idx := 201) (s := 5) (by decide +kernel) oO_73 (by decide +kernel) rfl ?_
              subst h
              exact w_areturn (by decide +kernel) (by decide +kernel)
            · rw [if_neg c6] at h
              by_cases c7 : x0 = 6
              · rw [if_pos c7] at h
                refine w_tsw (n := 74) (d := 85) (lo := 0) (hi := 9) (offs := #[55, 58, 61, 64, 67, 70, 73, 76, 79, 82]) (o := 73) (by decide +kernel) (by rw [c7]; decide) (by decide) ?_
                refine w_ldc (n := 76) (idx := 203) (s := 6) (by decide +kernel) oO_73 (by decide +kernel) rfl ?_
                subst h
                exact w_areturn (by decide +kernel) (by decide +kernel)
              · rw [if_neg c7] at h
                by_cases c8 : x0 = 7
                · rw [if_pos c8] at h
                  refine w_tsw (n := 77) (d := 85) (lo := 0) (hi := 9) (offs := #[55, 58, 61, 64, 67, 70, 73, 76, 79, 82]) (o := 76) (by decide +kernel) (by rw [c8]; decide) (by decide) ?_
                  refine w_ldc (n := 79) (idx := 205) (s := 7) (by decide +kernel) oO_73 (by decide +kernel) rfl ?_
                  subst h
                  exact w_areturn (by decide +kernel) (by decide +kernel)
                · rw [if_neg c8] at h
                  by_cases c9 : x0 = 8
                  · rw [if_pos c9] at h
                    refine w_tsw (n := 80) (d := 85) (lo := 0) (hi := 9) (offs := #[55, 58, 61, 64, 67, 70, 73, 76, 79, 82]) (o := 79) (by decide +kernel) (by rw [c9]; decide) (by decide) ?_
                    refine w_ldc (n := 82) (idx := 207) (s := 8) (by decide +kernel) oO_73 (by decide +kernel) rfl ?_
                    subst h
                    exact w_areturn (by decide +kernel) (by decide +kernel)
                  · rw [if_neg c9] at h
                    by_cases c10 : x0 = 9
                    · rw [if_pos c10] at h
                      refine w_tsw (n := 83) (d := 85) (lo := 0) (hi := 9) (offs := #[55, 58, 61, 64, 67, 70, 73, 76, 79, 82]) (o := 82) (by decide +kernel) (by rw [c10]; decide) (by decide) ?_
                      refine w_ldc (n := 85) (idx := 208) (s := 9) (by decide +kernel) oO_73 (by decide +kernel) rfl ?_
                      subst h
                      exact w_areturn (by decide +kernel) (by decide +kernel)
                    · rw [if_neg c10] at h
                      refine w_tsw (n := 86) (d := 85) (lo := 0) (hi := 9) (offs := #[55, 58, 61, 64, 67, 70, 73, 76, 79, 82]) (o := 85) (by decide +kernel) (w_swd (by intro j h1 h2; rcases (show j = 0 ∨ j = 1 ∨ j = 2 ∨ j = 3 ∨ j = 4 ∨ j = 5 ∨ j = 6 ∨ j = 7 ∨ j = 8 ∨ j = 9 by omega) with rfl | rfl | rfl | rfl | rfl | rfl | rfl | rfl | rfl | rfl; all_goals first | exact fun e => c1 (e.trans (by decide)) | exact fun e => c2 (e.trans (by decide)) | exact fun e => c3 (e.trans (by decide)) | exact fun e => c4 (e.trans (by decide)) | exact fun e => c5 (e.trans (by decide)) | exact fun e => c6 (e.trans (by decide)) | exact fun e => c7 (e.trans (by decide)) | exact fun e => c8 (e.trans (by decide)) | exact fun e => c9 (e.trans (by decide)) | exact fun e => c10 (e.trans (by decide)))) (by decide) ?_
                      refine w_ldc (n := 88) (idx := 209) (s := 10) (by decide +kernel) oO_73 (by decide +kernel) rfl ?_
                      subst h
                      exact w_areturn (by decide +kernel) (by decide +kernel)
theorem t_75 {X : ak_X} {M : ak_M} {r : ak_O × ak_M} (hL : ab_lay M) (h : (∀ M1 : ak_M, M1 = ak_sI M 51 2 0 → (∀ M2 : ak_M, M2 = ak_sI M1 51 3 0 → (∃ (M3 : ak_M), ab_lay M3 ∧ rn X 76 [.ref 51] M2 (.inl (none), M3) ∧ r = (.inl none, M3))))) : rn X 75 [.ref 51] M r := by
  refine w_rn (nL := 1) (l1 := [some (.ref 51)]) (by decide +kernel) rfl rfl ?_
  refine w_aload_n (n := 1) (i := 0) (by decide +kernel) rfl rfl ?_
  refine w_iconst (n := 2) (v := 0) (x := 0) (by decide +kernel) rfl (by decide) ?_
  refine w_putI (n := 5) hL (by decide +kernel) oO_75 fF_9_13 (at_51) ⟨by decide, Or.inl (by decide)⟩ rfl ?_
  generalize eM1 : ak_sI M 51 2 0 = M1
  have hLM1 : ab_lay M1 := by rw [← eM1]; exact ab_lay.sI hL
  replace h := h M1 eM1.symm
  refine w_aload_n (n := 6) (i := 0) (by decide +kernel) rfl rfl ?_
  refine w_iconst (n := 7) (v := 0) (x := 0) (by decide +kernel) rfl (by decide) ?_
  refine w_putI (n := 10) hLM1 (by decide +kernel) oO_75 fF_9_17 (at_51) ⟨by decide, Or.inl (by decide)⟩ rfl ?_
  generalize eM2 : ak_sI M1 51 3 0 = M2
  have hLM2 : ab_lay M2 := by rw [← eM2]; exact ab_lay.sI hLM1
  replace h := h M2 eM2.symm
  refine w_aload_n (n := 11) (i := 0) (by decide +kernel) rfl rfl ?_
  obtain ⟨M3, hLM3, hr4, h⟩ := h
  refine w_cV (n := 14) (idx := 20) (cal := 76) (na := 0) (nl := 1) (as := []) (rest := []) hLM2 (by decide +kernel) (by decide +kernel) (at_51) (by decide +kernel) rfl rfl rfl (Nat.le_of_ble_eq_true rfl) rfl hr4 ?_
  subst h
  exact w_vreturn (by decide +kernel) (by decide +kernel)
theorem t_76 {X : ak_X} {M : ak_M} {r : ak_O × ak_M} (hL : ab_lay M) (h : (∀ M1 : ak_M, M1 = ak_sI M 51 2 ((ak_I M 51 2) + (ak_I M 51 3)) → sg X 76 (13, [some (.ref 51), none], [], []) M1 r)) : rn X 76 [.ref 51] M r := by
  refine w_rn (nL := 2) (l1 := [some (.ref 51), none]) (by decide +kernel) rfl rfl ?_
  refine w_aload_n (n := 1) (i := 0) (by decide +kernel) rfl rfl ?_
  refine w_dup_ref (n := 2) (by decide +kernel) rfl ?_
  refine w_getI (n := 5) hL (by decide +kernel) oO_76 fF_9_13 (at_51) (by decide) rfl ?_
  refine w_aload_n (n := 6) (i := 0) (by decide +kernel) rfl rfl ?_
  refine w_getI (n := 9) hL (by decide +kernel) oO_76 fF_9_17 (at_51) (by decide) rfl ?_
  refine w_iadd (n := 10) (by decide +kernel) rfl ?_
  refine w_putI (n := 13) hL (by decide +kernel) oO_76 fF_9_13 (at_51) ⟨by decide, Or.inl (by decide)⟩ rfl ?_
  generalize eM1 : ak_sI M 51 2 ((ak_I M 51 2) + (ak_I M 51 3)) = M1
  have hLM1 : ab_lay M1 := by rw [← eM1]; exact ab_lay.sI hL
  replace h := h M1 eM1.symm
  exact h
theorem t_76_13 {X : ak_X} {M : ak_M} {r : ak_O × ak_M} (hL : ab_lay M) (o1 : Option Value) (h : (if ak_I M 1 1 ≤ ak_I M 51 2 then sg X 76 (59, [some (.ref 51), o1], [], []) M r else (∃ i2 : Nat, ab_ix (ak_I M 51 2) i2 700 ∧ (∃ (v4 : Int32) (M3 : ak_M), ab_lay M3 ∧ rn X 77 [.int (ak_I M 2 i2)] M (.inl (some (.int v4)), M3) ∧ (if v4 = 5 then (∀ M5 : ak_M, M5 = ak_sI M3 51 2 ((ak_I M3 51 2) + 1) → sg X 76 (13, [some (.ref 51), o1], [], []) M5 r) else sg X 76 (59, [some (.ref 51), o1], [], []) M3 r))))) : sg X 76 (13, [some (.ref 51), o1], [], []) M r := by
  refine w_aload_n (n := 14) (i := 0) (by decide +kernel) rfl rfl ?_
  refine w_getI (n := 17) hL (by decide +kernel) oO_76 fF_9_13 (at_51) (by decide) rfl ?_
  refine w_aload_n (n := 18) (i := 0) (by decide +kernel) rfl rfl ?_
  refine w_getR (n := 21) hL (by decide +kernel) oO_76 fF_9_7 (at_51) (by decide) (ar_51_0) rfl ?_
  refine w_getI (n := 24) hL (by decide +kernel) oO_76 fF_9_23 (at_1) (by decide) rfl ?_
  by_cases c8 : ak_I M 1 1 ≤ ak_I M 51 2
  · rw [if_pos c8] at h
    refine w_icmp_ge_j (n := 59) (off := 35) (by decide +kernel) (by decide) c8 ?_
    exact h
  · rw [if_neg c8] at h
    refine w_icmp_ge_n (n := 27) (off := 35) (by decide +kernel) rfl c8 ?_
    refine w_aload_n (n := 28) (i := 0) (by decide +kernel) rfl rfl ?_
    refine w_getR (n := 31) hL (by decide +kernel) oO_76 fF_9_7 (at_51) (by decide) (ar_51_0) rfl ?_
    refine w_getR (n := 34) hL (by decide +kernel) oO_76 fF_9_26 (at_1) (by decide) (ar_1_0) rfl ?_
    refine w_aload_n (n := 35) (i := 0) (by decide +kernel) rfl rfl ?_
    refine w_getI (n := 38) hL (by decide +kernel) oO_76 fF_9_13 (at_51) (by decide) rfl ?_
    obtain ⟨i2, gi2, h⟩ := h
    refine w_bald (n := 39) hL (by decide +kernel) (at_2) (by decide) (an_2) gi2 rfl ?_
    obtain ⟨v4, M3, hLM3, hr7, h⟩ := h
    refine w_cS (n := 42) (idx := 30) (cal := 77) (na := 1) (nl := 1) (as := [.int (ak_I M 2 i2)]) (rest := []) (by decide +kernel) (by decide +kernel) rfl rfl rfl (Nat.le_of_ble_eq_true rfl) rfl hr7 ?_
    refine w_iconst (n := 43) (v := 5) (x := 5) (by decide +kernel) rfl (by decide) ?_
    by_cases c6 : v4 = 5
    · rw [if_pos c6] at h
      refine w_icmp_ne_n (n := 46) (off := 16) (by decide +kernel) rfl c6 ?_
      refine w_aload_n (n := 47) (i := 0) (by decide +kernel) rfl rfl ?_
      refine w_dup_ref (n := 48) (by decide +kernel) rfl ?_
      refine w_getI (n := 51) hLM3 (by decide +kernel) oO_76 fF_9_13 (at_51) (by decide) rfl ?_
      refine w_iconst (n := 52) (v := 1) (x := 1) (by decide +kernel) rfl (by decide) ?_
      refine w_iadd (n := 53) (by decide +kernel) rfl ?_
      refine w_putI (n := 56) hLM3 (by decide +kernel) oO_76 fF_9_13 (at_51) ⟨by decide, Or.inl (by decide)⟩ rfl ?_
      generalize eM5 : ak_sI M3 51 2 ((ak_I M3 51 2) + 1) = M5
      have hLM5 : ab_lay M5 := by rw [← eM5]; exact ab_lay.sI hLM3
      replace h := h M5 eM5.symm
      refine w_goto (n := 13) (off := (-43)) (by decide +kernel) (by decide) ?_
      exact h
    · rw [if_neg c6] at h
      refine w_icmp_ne_j (n := 59) (off := 16) (by decide +kernel) (by decide) c6 ?_
      exact h
theorem t_76_59 {X : ak_X} {M : ak_M} {r : ak_O × ak_M} (hL : ab_lay M) (o1 : Option Value) (h : (if ak_I M 51 2 < ak_I M 1 1 then (∃ i9 : Nat, ab_ix (ak_I M 51 2) i9 700 ∧ (∃ (v11 : Int32) (M10 : ak_M), ab_lay M10 ∧ rn X 77 [.int (ak_I M 2 i9)] M (.inl (some (.int v11)), M10) ∧ (∀ M12 : ak_M, M12 = ak_sI M10 51 1 v11 → (∀ M13 : ak_M, M13 = ak_sI M12 51 3 1 → (if ak_I M13 51 1 = 1 then sg X 76 (124, [some (.ref 51), o1], [], []) M13 r else (if ak_I M13 51 1 = 2 then sg X 76 (124, [some (.ref 51), o1], [], []) M13 r else sg X 76 (130, [some (.ref 51), some (.int 0)], [], []) M13 r)))))) else (∀ M17 : ak_M, M17 = ak_sI M 51 1 0 → (∀ M18 : ak_M, M18 = ak_sI M17 51 3 0 → r = (.inl none, M18))))) : sg X 76 (59, [some (.ref 51), o1], [], []) M r := by
  refine w_aload_n (n := 60) (i := 0) (by decide +kernel) rfl rfl ?_
  refine w_getI (n := 63) hL (by decide +kernel) oO_76 fF_9_13 (at_51) (by decide) rfl ?_
  refine w_aload_n (n := 64) (i := 0) (by decide +kernel) rfl rfl ?_
  refine w_getR (n := 67) hL (by decide +kernel) oO_76 fF_9_7 (at_51) (by decide) (ar_51_0) rfl ?_
  refine w_getI (n := 70) hL (by decide +kernel) oO_76 fF_9_23 (at_1) (by decide) rfl ?_
  by_cases c19 : ak_I M 51 2 < ak_I M 1 1
  · rw [if_pos c19] at h
    refine w_icmp_lt_j (n := 84) (off := 14) (by decide +kernel) (by decide) c19 ?_
    refine w_aload_n (n := 85) (i := 0) (by decide +kernel) rfl rfl ?_
    refine w_aload_n (n := 86) (i := 0) (by decide +kernel) rfl rfl ?_
    refine w_getR (n := 89) hL (by decide +kernel) oO_76 fF_9_7 (at_51) (by decide) (ar_51_0) rfl ?_
    refine w_getR (n := 92) hL (by decide +kernel) oO_76 fF_9_26 (at_1) (by decide) (ar_1_0) rfl ?_
    refine w_aload_n (n := 93) (i := 0) (by decide +kernel) rfl rfl ?_
    refine w_getI (n := 96) hL (by decide +kernel) oO_76 fF_9_13 (at_51) (by decide) rfl ?_
    obtain ⟨i9, gi9, h⟩ := h
    refine w_bald (n := 97) hL (by decide +kernel) (at_2) (by decide) (an_2) gi9 rfl ?_
    obtain ⟨v11, M10, hLM10, hr16, h⟩ := h
    refine w_cS (n := 100) (idx := 30) (cal := 77) (na := 1) (nl := 1) (as := [.int (ak_I M 2 i9)]) (rest := [.ref 51]) (by decide +kernel) (by decide +kernel) rfl rfl rfl (Nat.le_of_ble_eq_true rfl) rfl hr16 ?_
    refine w_putI (n := 103) hLM10 (by decide +kernel) oO_76 fF_9_34 (at_51) ⟨by decide, Or.inl (by decide)⟩ rfl ?_
    generalize eM12 : ak_sI M10 51 1 v11 = M12
    have hLM12 : ab_lay M12 := by rw [← eM12]; exact ab_lay.sI hLM10
    replace h := h M12 eM12.symm
    refine w_aload_n (n := 104) (i := 0) (by decide +kernel) rfl rfl ?_
    refine w_iconst (n := 105) (v := 1) (x := 1) (by decide +kernel) rfl (by decide) ?_
    refine w_putI (n := 108) hLM12 (by decide +kernel) oO_76 fF_9_17 (at_51) ⟨by decide, Or.inl (by decide)⟩ rfl ?_
    generalize eM13 : ak_sI M12 51 3 1 = M13
    have hLM13 : ab_lay M13 := by rw [← eM13]; exact ab_lay.sI hLM12
    replace h := h M13 eM13.symm
    refine w_aload_n (n := 109) (i := 0) (by decide +kernel) rfl rfl ?_
    refine w_getI (n := 112) hLM13 (by decide +kernel) oO_76 fF_9_34 (at_51) (by decide) rfl ?_
    refine w_iconst (n := 113) (v := 1) (x := 1) (by decide +kernel) rfl (by decide) ?_
    by_cases c15 : ak_I M13 51 1 = 1
    · rw [if_pos c15] at h
      refine w_icmp_eq_j (n := 124) (off := 11) (by decide +kernel) (by decide) c15 ?_
      exact h
    · rw [if_neg c15] at h
      refine w_icmp_eq_n (n := 116) (off := 11) (by decide +kernel) rfl c15 ?_
      refine w_aload_n (n := 117) (i := 0) (by decide +kernel) rfl rfl ?_
      refine w_getI (n := 120) hLM13 (by decide +kernel) oO_76 fF_9_34 (at_51) (by decide) rfl ?_
      refine w_iconst (n := 121) (v := 2) (x := 2) (by decide +kernel) rfl (by decide) ?_
      by_cases c14 : ak_I M13 51 1 = 2
      · rw [if_pos c14] at h
        refine w_icmp_ne_n (n := 124) (off := 7) (by decide +kernel) rfl c14 ?_
        exact h
      · rw [if_neg c14] at h
        refine w_icmp_ne_j (n := 128) (off := 7) (by decide +kernel) (by decide) c14 ?_
        refine w_iconst (n := 129) (v := 0) (x := 0) (by decide +kernel) rfl (by decide) ?_
        refine w_istore_n (n := 130) (i := 1) (l1' := [some (.ref 51), some (.int 0)]) (l2' := []) (by decide +kernel) rfl (Nat.le_of_ble_eq_true rfl) rfl rfl ?_
        exact h
  · rw [if_neg c19] at h
    refine w_icmp_lt_n (n := 73) (off := 14) (by decide +kernel) rfl c19 ?_
    refine w_aload_n (n := 74) (i := 0) (by decide +kernel) rfl rfl ?_
    refine w_iconst (n := 75) (v := 0) (x := 0) (by decide +kernel) rfl (by decide) ?_
    refine w_putI (n := 78) hL (by decide +kernel) oO_76 fF_9_34 (at_51) ⟨by decide, Or.inl (by decide)⟩ rfl ?_
    generalize eM17 : ak_sI M 51 1 0 = M17
    have hLM17 : ab_lay M17 := by rw [← eM17]; exact ab_lay.sI hL
    replace h := h M17 eM17.symm
    refine w_aload_n (n := 79) (i := 0) (by decide +kernel) rfl rfl ?_
    refine w_iconst (n := 80) (v := 0) (x := 0) (by decide +kernel) rfl (by decide) ?_
    refine w_putI (n := 83) hLM17 (by decide +kernel) oO_76 fF_9_17 (at_51) ⟨by decide, Or.inl (by decide)⟩ rfl ?_
    generalize eM18 : ak_sI M17 51 3 0 = M18
    have hLM18 : ab_lay M18 := by rw [← eM18]; exact ab_lay.sI hLM17
    replace h := h M18 eM18.symm
    subst h
    exact w_vreturn (by decide +kernel) (by decide +kernel)
theorem t_76_124 {X : ak_X} {M : ak_M} {r : ak_O × ak_M} (hL : ab_lay M) (o1 : Option Value) (h : sg X 76 (130, [some (.ref 51), some (.int 1)], [], []) M r) : sg X 76 (124, [some (.ref 51), o1], [], []) M r := by
  refine w_iconst (n := 125) (v := 1) (x := 1) (by decide +kernel) rfl (by decide) ?_
  refine w_goto (n := 129) (off := 4) (by decide +kernel) (by decide) ?_
  refine w_istore_n (n := 130) (i := 1) (l1' := [some (.ref 51), some (.int 1)]) (l2' := []) (by decide +kernel) rfl (Nat.le_of_ble_eq_true rfl) rfl rfl ?_
  exact h
theorem t_76_130 {X : ak_X} {M : ak_M} {r : ak_O × ak_M} (hL : ab_lay M) (y1 : Int32) (h : (if y1 = 0 then sg X 76 (193, [some (.ref 51), some (.int y1)], [], []) M r else (if ak_I M 1 1 ≤ (ak_I M 51 2) + (ak_I M 51 3) then sg X 76 (193, [some (.ref 51), some (.int y1)], [], []) M r else (∃ i20 : Nat, ab_ix ((ak_I M 51 2) + (ak_I M 51 3)) i20 700 ∧ (∃ (v22 : Int32) (M21 : ak_M), ab_lay M21 ∧ rn X 77 [.int (ak_I M 2 i20)] M (.inl (some (.int v22)), M21) ∧ (if v22 = ak_I M21 51 1 then (∀ M23 : ak_M, M23 = ak_sI M21 51 3 ((ak_I M21 51 3) + 1) → sg X 76 (130, [some (.ref 51), some (.int y1)], [], []) M23 r) else sg X 76 (193, [some (.ref 51), some (.int y1)], [], []) M21 r)))))) : sg X 76 (130, [some (.ref 51), some (.int y1)], [], []) M r := by
  refine w_iload_n (n := 131) (i := 1) (by decide +kernel) rfl rfl ?_
  by_cases c27 : y1 = 0
  · rw [if_pos c27] at h
    refine w_if_eq_j (n := 193) (off := 62) (by decide +kernel) (by decide) c27 ?_
    exact h
  · rw [if_neg c27] at h
    refine w_if_eq_n (n := 134) (off := 62) (by decide +kernel) rfl c27 ?_
    refine w_aload_n (n := 135) (i := 0) (by decide +kernel) rfl rfl ?_
    refine w_getI (n := 138) hL (by decide +kernel) oO_76 fF_9_13 (at_51) (by decide) rfl ?_
    refine w_aload_n (n := 139) (i := 0) (by decide +kernel) rfl rfl ?_
    refine w_getI (n := 142) hL (by decide +kernel) oO_76 fF_9_17 (at_51) (by decide) rfl ?_
    refine w_iadd (n := 143) (by decide +kernel) rfl ?_
    refine w_aload_n (n := 144) (i := 0) (by decide +kernel) rfl rfl ?_
    refine w_getR (n := 147) hL (by decide +kernel) oO_76 fF_9_7 (at_51) (by decide) (ar_51_0) rfl ?_
    refine w_getI (n := 150) hL (by decide +kernel) oO_76 fF_9_23 (at_1) (by decide) rfl ?_
    by_cases c26 : ak_I M 1 1 ≤ (ak_I M 51 2) + (ak_I M 51 3)
    · rw [if_pos c26] at h
      refine w_icmp_ge_j (n := 193) (off := 43) (by decide +kernel) (by decide) c26 ?_
      exact h
    · rw [if_neg c26] at h
      refine w_icmp_ge_n (n := 153) (off := 43) (by decide +kernel) rfl c26 ?_
      refine w_aload_n (n := 154) (i := 0) (by decide +kernel) rfl rfl ?_
      refine w_getR (n := 157) hL (by decide +kernel) oO_76 fF_9_7 (at_51) (by decide) (ar_51_0) rfl ?_
      refine w_getR (n := 160) hL (by decide +kernel) oO_76 fF_9_26 (at_1) (by decide) (ar_1_0) rfl ?_
      refine w_aload_n (n := 161) (i := 0) (by decide +kernel) rfl rfl ?_
      refine w_getI (n := 164) hL (by decide +kernel) oO_76 fF_9_13 (at_51) (by decide) rfl ?_
      refine w_aload_n (n := 165) (i := 0) (by decide +kernel) rfl rfl ?_
      refine w_getI (n := 168) hL (by decide +kernel) oO_76 fF_9_17 (at_51) (by decide) rfl ?_
      refine w_iadd (n := 169) (by decide +kernel) rfl ?_
      obtain ⟨i20, gi20, h⟩ := h
      refine w_bald (n := 170) hL (by decide +kernel) (at_2) (by decide) (an_2) gi20 rfl ?_
      obtain ⟨v22, M21, hLM21, hr25, h⟩ := h
      refine w_cS (n := 173) (idx := 30) (cal := 77) (na := 1) (nl := 1) (as := [.int (ak_I M 2 i20)]) (rest := []) (by decide +kernel) (by decide +kernel) rfl rfl rfl (Nat.le_of_ble_eq_true rfl) rfl hr25 ?_
      refine w_aload_n (n := 174) (i := 0) (by decide +kernel) rfl rfl ?_
      refine w_getI (n := 177) hLM21 (by decide +kernel) oO_76 fF_9_34 (at_51) (by decide) rfl ?_
      by_cases c24 : v22 = ak_I M21 51 1
      · rw [if_pos c24] at h
        refine w_icmp_ne_n (n := 180) (off := 16) (by decide +kernel) rfl c24 ?_
        refine w_aload_n (n := 181) (i := 0) (by decide +kernel) rfl rfl ?_
        refine w_dup_ref (n := 182) (by decide +kernel) rfl ?_
        refine w_getI (n := 185) hLM21 (by decide +kernel) oO_76 fF_9_17 (at_51) (by decide) rfl ?_
        refine w_iconst (n := 186) (v := 1) (x := 1) (by decide +kernel) rfl (by decide) ?_
        refine w_iadd (n := 187) (by decide +kernel) rfl ?_
        refine w_putI (n := 190) hLM21 (by decide +kernel) oO_76 fF_9_17 (at_51) ⟨by decide, Or.inl (by decide)⟩ rfl ?_
        generalize eM23 : ak_sI M21 51 3 ((ak_I M21 51 3) + 1) = M23
        have hLM23 : ab_lay M23 := by rw [← eM23]; exact ab_lay.sI hLM21
        replace h := h M23 eM23.symm
        refine w_goto (n := 130) (off := (-60)) (by decide +kernel) (by decide) ?_
        exact h
      · rw [if_neg c24] at h
        refine w_icmp_ne_j (n := 193) (off := 16) (by decide +kernel) (by decide) c24 ?_
        exact h
theorem t_76_193 {X : ak_X} {M : ak_M} {r : ak_O × ak_M} (hL : ab_lay M) (o0 : Option Value) (o1 : Option Value) (h : r = (.inl none, M)) : sg X 76 (193, [o0, o1], [], []) M r := by
  subst h
  exact w_vreturn (by decide +kernel) (by decide +kernel)
theorem t_77 {X : ak_X} {M : ak_M} {r : ak_O × ak_M} (hL : ab_lay M) (x0 : Int32) (h : (if x0 < 97 then (if x0 < 48 then (if x0 = 10 then r = (.inl (some (.int 5)), M) else (if x0 = 32 then r = (.inl (some (.int 5)), M) else (if x0 = 45 then r = (.inl (some (.int 3)), M) else (if x0 = 59 then r = (.inl (some (.int 4)), M) else r = (.inl (some (.int 6)), M))))) else (if 57 < x0 then (if x0 = 10 then r = (.inl (some (.int 5)), M) else (if x0 = 32 then r = (.inl (some (.int 5)), M) else (if x0 = 45 then r = (.inl (some (.int 3)), M) else (if x0 = 59 then r = (.inl (some (.int 4)), M) else r = (.inl (some (.int 6)), M))))) else r = (.inl (some (.int 2)), M))) else (if 122 < x0 then (if x0 < 48 then (if x0 = 10 then r = (.inl (some (.int 5)), M) else (if x0 = 32 then r = (.inl (some (.int 5)), M) else (if x0 = 45 then r = (.inl (some (.int 3)), M) else (if x0 = 59 then r = (.inl (some (.int 4)), M) else r = (.inl (some (.int 6)), M))))) else (if 57 < x0 then (if x0 = 10 then r = (.inl (some (.int 5)), M) else (if x0 = 32 then r = (.inl (some (.int 5)), M) else (if x0 = 45 then r = (.inl (some (.int 3)), M) else (if x0 = 59 then r = (.inl (some (.int 4)), M) else r = (.inl (some (.int 6)), M))))) else r = (.inl (some (.int 2)), M))) else r = (.inl (some (.int 1)), M)))) : rn X 77 [.int x0] M r := by
  refine w_rn (nL := 1) (l1 := [some (.int x0)]) (by decide +kernel) rfl rfl ?_
  refine w_iload_n (n := 1) (i := 0) (by decide +kernel) rfl rfl ?_
  refine w_bipush (n := 3) (v := 97) (x := 97) (by decide +kernel) rfl (by decide) ?_
  by_cases c22 : x0 < 97
  · rw [if_pos c22] at h
    refine w_icmp_lt_j (n := 14) (off := 11) (by decide +kernel) (by decide) c22 ?_
    refine w_iload_n (n := 15) (i := 0) (by decide +kernel) rfl rfl ?_
    refine w_bipush (n := 17) (v := 48) (x := 48) (by decide +kernel) rfl (by decide) ?_
    by_cases c10 : x0 < 48
    · rw [if_pos c10] at h
      refine w_icmp_lt_j (n := 28) (off := 11) (by decide +kernel) (by decide) c10 ?_
      refine w_iload_n (n := 29) (i := 0) (by decide +kernel) rfl rfl ?_
      by_cases c1 : x0 = 10
      · rw [if_pos c1] at h
        refine w_lsw (n := 78) (d := 51) (ps := #[(10, 49), (32, 47), (45, 43), (59, 45)]) (o := 49) (by decide +kernel) (by decide) (by rw [c1]; decide) (by decide) ?_
        refine w_iconst (n := 79) (v := 5) (x := 5) (by decide +kernel) rfl (by decide) ?_
        subst h
        exact w_ireturn (by decide +kernel) (w_okI (by decide +kernel))
      · rw [if_neg c1] at h
        by_cases c2 : x0 = 32
        · rw [if_pos c2] at h
          refine w_lsw (n := 76) (d := 51) (ps := #[(10, 49), (32, 47), (45, 43), (59, 45)]) (o := 47) (by decide +kernel) (by decide) (by rw [c2]; decide) (by decide) ?_
          refine w_iconst (n := 77) (v := 5) (x := 5) (by decide +kernel) rfl (by decide) ?_
          subst h
          exact w_ireturn (by decide +kernel) (w_okI (by decide +kernel))
        · rw [if_neg c2] at h
          by_cases c3 : x0 = 45
          · rw [if_pos c3] at h
            refine w_lsw (n := 72) (d := 51) (ps := #[(10, 49), (32, 47), (45, 43), (59, 45)]) (o := 43) (by decide +kernel) (by decide) (by rw [c3]; decide) (by decide) ?_
            refine w_iconst (n := 73) (v := 3) (x := 3) (by decide +kernel) rfl (by decide) ?_
            subst h
            exact w_ireturn (by decide +kernel) (w_okI (by decide +kernel))
          · rw [if_neg c3] at h
            by_cases c4 : x0 = 59
            · rw [if_pos c4] at h
              refine w_lsw (n := 74) (d := 51) (ps := #[(10, 49), (32, 47), (45, 43), (59, 45)]) (o := 45) (by decide +kernel) (by decide) (by rw [c4]; decide) (by decide) ?_
              refine w_iconst (n := 75) (v := 4) (x := 4) (by decide +kernel) rfl (by decide) ?_
              subst h
              exact w_ireturn (by decide +kernel) (w_okI (by decide +kernel))
            · rw [if_neg c4] at h
              refine w_lsw (n := 80) (d := 51) (ps := #[(10, 49), (32, 47), (45, 43), (59, 45)]) (o := 51) (by decide +kernel) (by decide) ((lv_osw c1 (by decide)).trans ((lv_osw c2 (by decide)).trans ((lv_osw c3 (by decide)).trans ((lv_osw c4 (by decide)).trans rfl)))) (by decide) ?_
              refine w_bipush (n := 82) (v := 6) (x := 6) (by decide +kernel) rfl (by decide) ?_
              subst h
              exact w_ireturn (by decide +kernel) (w_okI (by decide +kernel))
    · rw [if_neg c10] at h
      refine w_icmp_lt_n (n := 20) (off := 11) (by decide +kernel) rfl c10 ?_
      refine w_iload_n (n := 21) (i := 0) (by decide +kernel) rfl rfl ?_
      refine w_bipush (n := 23) (v := 57) (x := 57) (by decide +kernel) rfl (by decide) ?_
      by_cases c9 : 57 < x0
      · rw [if_pos c9] at h
        refine w_icmp_gt_j (n := 28) (off := 5) (by decide +kernel) (by decide) c9 ?_
        refine w_iload_n (n := 29) (i := 0) (by decide +kernel) rfl rfl ?_
        by_cases c5 : x0 = 10
        · rw [if_pos c5] at h
          refine w_lsw (n := 78) (d := 51) (ps := #[(10, 49), (32, 47), (45, 43), (59, 45)]) (o := 49) (by decide +kernel) (by decide) (by rw [c5]; decide) (by decide) ?_
          refine w_iconst (n := 79) (v := 5) (x := 5) (by decide +kernel) rfl (by decide) ?_
          subst h
          exact w_ireturn (by decide +kernel) (w_okI (by decide +kernel))
        · rw [if_neg c5] at h
          by_cases c6 : x0 = 32
          · rw [if_pos c6] at h
            refine w_lsw (n := 76) (d := 51) (ps := #[(10, 49), (32, 47), (45, 43), (59, 45)]) (o := 47) (by decide +kernel) (by decide) (by rw [c6]; decide) (by decide) ?_
            refine w_iconst (n := 77) (v := 5) (x := 5) (by decide +kernel) rfl (by decide) ?_
            subst h
            exact w_ireturn (by decide +kernel) (w_okI (by decide +kernel))
          · rw [if_neg c6] at h
            by_cases c7 : x0 = 45
            · rw [if_pos c7] at h
              refine w_lsw (n := 72) (d := 51) (ps := #[(10, 49), (32, 47), (45, 43), (59, 45)]) (o := 43) (by decide +kernel) (by decide) (by rw [c7]; decide) (by decide) ?_
              refine w_iconst (n := 73) (v := 3) (x := 3) (by decide +kernel) rfl (by decide) ?_
              subst h
              exact w_ireturn (by decide +kernel) (w_okI (by decide +kernel))
            · rw [if_neg c7] at h
              by_cases c8 : x0 = 59
              · rw [if_pos c8] at h
                refine w_lsw (n := 74) (d := 51) (ps := #[(10, 49), (32, 47), (45, 43), (59, 45)]) (o := 45) (by decide +kernel) (by decide) (by rw [c8]; decide) (by decide) ?_
                refine w_iconst (n := 75) (v := 4) (x := 4) (by decide +kernel) rfl (by decide) ?_
                subst h
                exact w_ireturn (by decide +kernel) (w_okI (by decide +kernel))
              · rw [if_neg c8] at h
                refine w_lsw (n := 80) (d := 51) (ps := #[(10, 49), (32, 47), (45, 43), (59, 45)]) (o := 51) (by decide +kernel) (by decide) ((lv_osw c5 (by decide)).trans ((lv_osw c6 (by decide)).trans ((lv_osw c7 (by decide)).trans ((lv_osw c8 (by decide)).trans rfl)))) (by decide) ?_
                refine w_bipush (n := 82) (v := 6) (x := 6) (by decide +kernel) rfl (by decide) ?_
                subst h
                exact w_ireturn (by decide +kernel) (w_okI (by decide +kernel))
      · rw [if_neg c9] at h
        refine w_icmp_gt_n (n := 26) (off := 5) (by decide +kernel) rfl c9 ?_
        refine w_iconst (n := 27) (v := 2) (x := 2) (by decide +kernel) rfl (by decide) ?_
        subst h
        exact w_ireturn (by decide +kernel) (w_okI (by decide +kernel))
  · rw [if_neg c22] at h
    refine w_icmp_lt_n (n := 6) (off := 11) (by decide +kernel) rfl c22 ?_
    refine w_iload_n (n := 7) (i := 0) (by decide +kernel) rfl rfl ?_
    refine w_bipush (n := 9) (v := 122) (x := 122) (by decide +kernel) rfl (by decide) ?_
    by_cases c21 : 122 < x0
    · rw [if_pos c21] at h
      refine w_icmp_gt_j (n := 14) (off := 5) (by decide +kernel) (by decide) c21 ?_
      refine w_iload_n (n := 15) (i := 0) (by decide +kernel) rfl rfl ?_
      refine w_bipush (n := 17) (v := 48) (x := 48) (by decide +kernel) rfl (by decide) ?_
      by_cases c20 : x0 < 48
      · rw [if_pos c20] at h
        refine w_icmp_lt_j (n := 28) (off := 11) (by decide +kernel) (by decide) c20 ?_
        refine w_iload_n (n := 29) (i := 0) (by decide +kernel) rfl rfl ?_
        by_cases c11 : x0 = 10
        · rw [if_pos c11] at h
          refine w_lsw (n := 78) (d := 51) (ps := #[(10, 49), (32, 47), (45, 43), (59, 45)]) (o := 49) (by decide +kernel) (by decide) (by rw [c11]; decide) (by decide) ?_
          refine w_iconst (n := 79) (v := 5) (x := 5) (by decide +kernel) rfl (by decide) ?_
          subst h
          exact w_ireturn (by decide +kernel) (w_okI (by decide +kernel))
        · rw [if_neg c11] at h
          by_cases c12 : x0 = 32
          · rw [if_pos c12] at h
            refine w_lsw (n := 76) (d := 51) (ps := #[(10, 49), (32, 47), (45, 43), (59, 45)]) (o := 47) (by decide +kernel) (by decide) (by rw [c12]; decide) (by decide) ?_
            refine w_iconst (n := 77) (v := 5) (x := 5) (by decide +kernel) rfl (by decide) ?_
            subst h
            exact w_ireturn (by decide +kernel) (w_okI (by decide +kernel))
          · rw [if_neg c12] at h
            by_cases c13 : x0 = 45
            · rw [if_pos c13] at h
              refine w_lsw (n := 72) (d := 51) (ps := #[(10, 49), (32, 47), (45, 43), (59, 45)]) (o := 43) (by decide +kernel) (by decide) (by rw [c13]; decide) (by decide) ?_
              refine w_iconst (n := 73) (v := 3) (x := 3) (by decide +kernel) rfl (by decide) ?_
              subst h
              exact w_ireturn (by decide +kernel) (w_okI (by decide +kernel))
            · rw [if_neg c13] at h
              by_cases c14 : x0 = 59
              · rw [if_pos c14] at h
                refine w_lsw (n := 74) (d := 51) (ps := #[(10, 49), (32, 47), (45, 43), (59, 45)]) (o := 45) (by decide +kernel) (by decide) (by rw [c14]; decide) (by decide) ?_
                refine w_iconst (n := 75) (v := 4) (x := 4) (by decide +kernel) rfl (by decide) ?_
                subst h
                exact w_ireturn (by decide +kernel) (w_okI (by decide +kernel))
              · rw [if_neg c14] at h
                refine w_lsw (n := 80) (d := 51) (ps := #[(10, 49), (32, 47), (45, 43), (59, 45)]) (o := 51) (by decide +kernel) (by decide) ((lv_osw c11 (by decide)).trans ((lv_osw c12 (by decide)).trans ((lv_osw c13 (by decide)).trans ((lv_osw c14 (by decide)).trans rfl)))) (by decide) ?_
                refine w_bipush (n := 82) (v := 6) (x := 6) (by decide +kernel) rfl (by decide) ?_
                subst h
                exact w_ireturn (by decide +kernel) (w_okI (by decide +kernel))
      · rw [if_neg c20] at h
        refine w_icmp_lt_n (n := 20) (off := 11) (by decide +kernel) rfl c20 ?_
        refine w_iload_n (n := 21) (i := 0) (by decide +kernel) rfl rfl ?_
        refine w_bipush (n := 23) (v := 57) (x := 57) (by decide +kernel) rfl (by decide) ?_
        by_cases c19 : 57 < x0
        · rw [if_pos c19] at h
          refine w_icmp_gt_j (n := 28) (off := 5) (by decide +kernel) (by decide) c19 ?_
          refine w_iload_n (n := 29) (i := 0) (by decide +kernel) rfl rfl ?_
          by_cases c15 : x0 = 10
          · rw [if_pos c15] at h
            refine w_lsw (n := 78) (d := 51) (ps := #[(10, 49), (32, 47), (45, 43), (59, 45)]) (o := 49) (by decide +kernel) (by decide) (by rw [c15]; decide) (by decide) ?_
            refine w_iconst (n := 79) (v := 5) (x := 5) (by decide +kernel) rfl (by decide) ?_
            subst h
            exact w_ireturn (by decide +kernel) (w_okI (by decide +kernel))
          · rw [if_neg c15] at h
            by_cases c16 : x0 = 32
            · rw [if_pos c16] at h
              refine w_lsw (n := 76) (d := 51) (ps := #[(10, 49), (32, 47), (45, 43), (59, 45)]) (o := 47) (by decide +kernel) (by decide) (by rw [c16]; decide) (by decide) ?_
              refine w_iconst (n := 77) (v := 5) (x := 5) (by decide +kernel) rfl (by decide) ?_
              subst h
              exact w_ireturn (by decide +kernel) (w_okI (by decide +kernel))
            · rw [if_neg c16] at h
              by_cases c17 : x0 = 45
              · rw [if_pos c17] at h
                refine w_lsw (n := 72) (d := 51) (ps := #[(10, 49), (32, 47), (45, 43), (59, 45)]) (o := 43) (by decide +kernel) (by decide) (by rw [c17]; decide) (by decide) ?_
                refine w_iconst (n := 73) (v := 3) (x := 3) (by decide +kernel) rfl (by decide) ?_
                subst h
                exact w_ireturn (by decide +kernel) (w_okI (by decide +kernel))
              · rw [if_neg c17] at h
                by_cases c18 : x0 = 59
                · rw [if_pos c18] at h
                  refine w_lsw (n := 74) (d := 51) (ps := #[(10, 49), (32, 47), (45, 43), (59, 45)]) (o := 45) (by decide +kernel) (by decide) (by rw [c18]; decide) (by decide) ?_
                  refine w_iconst (n := 75) (v := 4) (x := 4) (by decide +kernel) rfl (by decide) ?_
                  subst h
                  exact w_ireturn (by decide +kernel) (w_okI (by decide +kernel))
                · rw [if_neg c18] at h
                  refine w_lsw (n := 80) (d := 51) (ps := #[(10, 49), (32, 47), (45, 43), (59, 45)]) (o := 51) (by decide +kernel) (by decide) ((lv_osw c15 (by decide)).trans ((lv_osw c16 (by decide)).trans ((lv_osw c17 (by decide)).trans ((lv_osw c18 (by decide)).trans rfl)))) (by decide) ?_
                  refine w_bipush (n := 82) (v := 6) (x := 6) (by decide +kernel) rfl (by decide) ?_
                  subst h
                  exact w_ireturn (by decide +kernel) (w_okI (by decide +kernel))
        · rw [if_neg c19] at h
          refine w_icmp_gt_n (n := 26) (off := 5) (by decide +kernel) rfl c19 ?_
          refine w_iconst (n := 27) (v := 2) (x := 2) (by decide +kernel) rfl (by decide) ?_
          subst h
          exact w_ireturn (by decide +kernel) (w_okI (by decide +kernel))
    · rw [if_neg c21] at h
      refine w_icmp_gt_n (n := 12) (off := 5) (by decide +kernel) rfl c21 ?_
      refine w_iconst (n := 13) (v := 1) (x := 1) (by decide +kernel) rfl (by decide) ?_
      subst h
      exact w_ireturn (by decide +kernel) (w_okI (by decide +kernel))
theorem t_78 {X : ak_X} {M : ak_M} {r : ak_O × ak_M} (hL : ab_lay M) (h : (if ak_I M 51 1 = 2 then (if 4 < ak_I M 51 3 then r = (.inl (some (.int 0)), M) else r = (.inl (some (.int 1)), M)) else r = (.inl (some (.int 0)), M))) : rn X 78 [.ref 51] M r := by
  refine w_rn (nL := 1) (l1 := [some (.ref 51)]) (by decide +kernel) rfl rfl ?_
  refine w_aload_n (n := 1) (i := 0) (by decide +kernel) rfl rfl ?_
  refine w_getI (n := 4) hL (by decide +kernel) oO_78 fF_9_34 (at_51) (by decide) rfl ?_
  refine w_iconst (n := 5) (v := 2) (x := 2) (by decide +kernel) rfl (by decide) ?_
  by_cases c2 : ak_I M 51 1 = 2
  · rw [if_pos c2] at h
    refine w_icmp_ne_n (n := 8) (off := 15) (by decide +kernel) rfl c2 ?_
    refine w_aload_n (n := 9) (i := 0) (by decide +kernel) rfl rfl ?_
    refine w_getI (n := 12) hL (by decide +kernel) oO_78 fF_9_17 (at_51) (by decide) rfl ?_
    refine w_iconst (n := 13) (v := 4) (x := 4) (by decide +kernel) rfl (by decide) ?_
    by_cases c1 : 4 < ak_I M 51 3
    · rw [if_pos c1] at h
      refine w_icmp_gt_j (n := 20) (off := 7) (by decide +kernel) (by decide) c1 ?_
      refine w_iconst (n := 21) (v := 0) (x := 0) (by decide +kernel) rfl (by decide) ?_
      subst h
      exact w_ireturn (by decide +kernel) (by decide +kernel)
    · rw [if_neg c1] at h
      refine w_icmp_gt_n (n := 16) (off := 7) (by decide +kernel) rfl c1 ?_
      refine w_iconst (n := 17) (v := 1) (x := 1) (by decide +kernel) rfl (by decide) ?_
      refine w_goto (n := 21) (off := 4) (by decide +kernel) (by decide) ?_
      subst h
      exact w_ireturn (by decide +kernel) (by decide +kernel)
  · rw [if_neg c2] at h
    refine w_icmp_ne_j (n := 20) (off := 15) (by decide +kernel) (by decide) c2 ?_
    refine w_iconst (n := 21) (v := 0) (x := 0) (by decide +kernel) rfl (by decide) ?_
    subst h
    exact w_ireturn (by decide +kernel) (by decide +kernel)
theorem t_79 {X : ak_X} {M : ak_M} {r : ak_O × ak_M} (hL : ab_lay M) (h : sg X 79 (7, [some (.ref 51), some (.int 0), some (.int (ak_I M 51 2))], [], []) M r) : rn X 79 [.ref 51] M r := by
  refine w_rn (nL := 3) (l1 := [some (.ref 51), none, none]) (by decide +kernel) rfl rfl ?_
  refine w_iconst (n := 1) (v := 0) (x := 0) (by decide +kernel) rfl (by decide) ?_
  refine w_istore_n (n := 2) (i := 1) (l1' := [some (.ref 51), some (.int 0), none]) (l2' := []) (by decide +kernel) rfl (Nat.le_of_ble_eq_true rfl) rfl rfl ?_
  refine w_aload_n (n := 3) (i := 0) (by decide +kernel) rfl rfl ?_
  refine w_getI (n := 6) hL (by decide +kernel) oO_79 fF_9_13 (at_51) (by decide) rfl ?_
  refine w_istore_n (n := 7) (i := 2) (l1' := [some (.ref 51), some (.int 0), some (.int (ak_I M 51 2))]) (l2' := []) (by decide +kernel) rfl (Nat.le_of_ble_eq_true rfl) rfl rfl ?_
  exact h
theorem t_79_7 {X : ak_X} {M : ak_M} {r : ak_O × ak_M} (hL : ab_lay M) (y1 : Int32) (y2 : Int32) (h : (if (ak_I M 51 2) + (ak_I M 51 3) ≤ y2 then r = (.inl (some (.int y1)), M) else (∃ i1 : Nat, ab_ix y2 i1 700 ∧ (∀ z2 : Int32, z2 = (y1 * 10) + ((ak_I M 2 i1) - 48) → sg X 79 (7, [some (.ref 51), some (.int z2), some (.int (y2 + 1))], [], []) M r)))) : sg X 79 (7, [some (.ref 51), some (.int y1), some (.int y2)], [], []) M r := by
  refine w_iload_n (n := 8) (i := 2) (by decide +kernel) rfl rfl ?_
  refine w_aload_n (n := 9) (i := 0) (by decide +kernel) rfl rfl ?_
  refine w_getI (n := 12) hL (by decide +kernel) oO_79 fF_9_13 (at_51) (by decide) rfl ?_
  refine w_aload_n (n := 13) (i := 0) (by decide +kernel) rfl rfl ?_
  refine w_getI (n := 16) hL (by decide +kernel) oO_79 fF_9_17 (at_51) (by decide) rfl ?_
  refine w_iadd (n := 17) (by decide +kernel) rfl ?_
  by_cases c3 : (ak_I M 51 2) + (ak_I M 51 3) ≤ y2
  · rw [if_pos c3] at h
    refine w_icmp_ge_j (n := 44) (off := 27) (by decide +kernel) (by decide) c3 ?_
    refine w_iload_n (n := 45) (i := 1) (by decide +kernel) rfl rfl ?_
    subst h
    exact w_ireturn (by decide +kernel) (w_okI (by decide +kernel))
  · rw [if_neg c3] at h
    refine w_icmp_ge_n (n := 20) (off := 27) (by decide +kernel) rfl c3 ?_
    refine w_iload_n (n := 21) (i := 1) (by decide +kernel) rfl rfl ?_
    refine w_bipush (n := 23) (v := 10) (x := 10) (by decide +kernel) rfl (by decide) ?_
    refine w_imul (n := 24) (by decide +kernel) rfl ?_
    refine w_aload_n (n := 25) (i := 0) (by decide +kernel) rfl rfl ?_
    refine w_getR (n := 28) hL (by decide +kernel) oO_79 fF_9_7 (at_51) (by decide) (ar_51_0) rfl ?_
    refine w_getR (n := 31) hL (by decide +kernel) oO_79 fF_9_26 (at_1) (by decide) (ar_1_0) rfl ?_
    refine w_iload_n (n := 32) (i := 2) (by decide +kernel) rfl rfl ?_
    obtain ⟨i1, gi1, h⟩ := h
    refine w_bald (n := 33) hL (by decide +kernel) (at_2) (by decide) (an_2) gi1 rfl ?_
    refine w_bipush (n := 35) (v := 48) (x := 48) (by decide +kernel) rfl (by decide) ?_
    refine w_isub (n := 36) (by decide +kernel) rfl ?_
    refine w_iadd (n := 37) (by decide +kernel) rfl ?_
    refine w_istore_n (n := 38) (i := 1) (l1' := [some (.ref 51), some (.int ((y1 * 10) + ((ak_I M 2 i1) - 48))), some (.int y2)]) (l2' := []) (by decide +kernel) rfl (Nat.le_of_ble_eq_true rfl) rfl rfl ?_
    generalize ez2 : (y1 * 10) + ((ak_I M 2 i1) - 48) = z2
    replace h := h z2 ez2.symm
    refine w_iinc (n := 41) (i := 2) (v := 1) (y := y2 + 1) (l1' := [some (.ref 51), some (.int z2), some (.int (y2 + 1))]) (l2' := []) (by decide +kernel) rfl rfl rfl rfl rfl ?_
    refine w_goto (n := 7) (off := (-34)) (by decide +kernel) (by decide) ?_
    exact h
theorem t_80 {X : ak_X} {M : ak_M} {r : ak_O × ak_M} (hL : ab_lay M) {s1 : Nat} (hs1 : s1 < 25) (h : (if ak_I M 51 1 = 1 then (∃ (v2 : Int32) (M1 : ak_M), ab_lay M1 ∧ rn X 317 [.ref (1001000 + s1)] M (.inl (some (.int v2)), M1) ∧ (if ak_I M 51 3 = v2 then sg X 80 (23, [some (.ref 51), some (.ref (1001000 + s1)), some (.int 0)], [], []) M1 r else r = (.inl (some (.int 0)), M1))) else r = (.inl (some (.int 0)), M))) : rn X 80 [.ref 51, .ref (1001000 + s1)] M r := by
  refine w_rn (nL := 3) (l1 := [some (.ref 51), some (.ref (1001000 + s1)), none]) (by decide +kernel) rfl rfl ?_
  refine w_aload_n (n := 1) (i := 0) (by decide +kernel) rfl rfl ?_
  refine w_getI (n := 4) hL (by decide +kernel) oO_80 fF_9_34 (at_51) (by decide) rfl ?_
  refine w_iconst (n := 5) (v := 1) (x := 1) (by decide +kernel) rfl (by decide) ?_
  by_cases c5 : ak_I M 51 1 = 1
  · rw [if_pos c5] at h
    refine w_icmp_ne_n (n := 8) (off := 14) (by decide +kernel) rfl c5 ?_
    refine w_aload_n (n := 9) (i := 0) (by decide +kernel) rfl rfl ?_
    refine w_getI (n := 12) hL (by decide +kernel) oO_80 fF_9_17 (at_51) (by decide) rfl ?_
    refine w_aload_n (n := 13) (i := 1) (by decide +kernel) rfl rfl ?_
    obtain ⟨v2, M1, hLM1, hr4, h⟩ := h
    refine w_cVS (n := 16) (idx := 37) (cal := 317) (na := 0) (nl := 1) (as := []) (rest := [.int (ak_I M 51 3)]) hL (by decide +kernel) (by decide +kernel) (by omega) (by decide +kernel) rfl rfl rfl (Nat.le_of_ble_eq_true rfl) rfl hr4 ?_
    by_cases c3 : ak_I M 51 3 = v2
    · rw [if_pos c3] at h
      refine w_icmp_eq_j (n := 21) (off := 5) (by decide +kernel) (by decide) c3 ?_
      refine w_iconst (n := 22) (v := 0) (x := 0) (by decide +kernel) rfl (by decide) ?_
      refine w_istore_n (n := 23) (i := 2) (l1' := [some (.ref 51), some (.ref (1001000 + s1)), some (.int 0)]) (l2' := []) (by decide +kernel) rfl (Nat.le_of_ble_eq_true rfl) rfl rfl ?_
      exact h
    · rw [if_neg c3] at h
      refine w_icmp_eq_n (n := 19) (off := 5) (by decide +kernel) rfl c3 ?_
      refine w_iconst (n := 20) (v := 0) (x := 0) (by decide +kernel) rfl (by decide) ?_
      subst h
      exact w_ireturn (by decide +kernel) (by decide +kernel)
  · rw [if_neg c5] at h
    refine w_icmp_ne_j (n := 19) (off := 14) (by decide +kernel) (by decide) c5 ?_
    refine w_iconst (n := 20) (v := 0) (x := 0) (by decide +kernel) rfl (by decide) ?_
    subst h
    exact w_ireturn (by decide +kernel) (by decide +kernel)
theorem t_80_23 {X : ak_X} {M : ak_M} {r : ak_O × ak_M} (hL : ab_lay M) {s1 : Nat} (hs1 : s1 < 25) (y2 : Int32) (h : (if ak_I M 51 3 ≤ y2 then r = (.inl (some (.int 1)), M) else (∃ i6 : Nat, ab_ix ((ak_I M 51 2) + y2) i6 700 ∧ (∃ (v8 : Int32) (M7 : ak_M), ab_lay M7 ∧ rn X 318 [.ref (1001000 + s1), .int y2] M (.inl (some (.int v8)), M7) ∧ (if ak_I M 2 i6 = v8 then sg X 80 (23, [some (.ref 51), some (.ref (1001000 + s1)), some (.int (y2 + 1))], [], []) M7 r else r = (.inl (some (.int 0)), M7)))))) : sg X 80 (23, [some (.ref 51), some (.ref (1001000 + s1)), some (.int y2)], [], []) M r := by
  refine w_iload_n (n := 24) (i := 2) (by decide +kernel) rfl rfl ?_
  refine w_aload_n (n := 25) (i := 0) (by decide +kernel) rfl rfl ?_
  refine w_getI (n := 28) hL (by decide +kernel) oO_80 fF_9_17 (at_51) (by decide) rfl ?_
  by_cases c11 : ak_I M 51 3 ≤ y2
  · rw [if_pos c11] at h
    refine w_icmp_ge_j (n := 61) (off := 33) (by decide +kernel) (by decide) c11 ?_
    refine w_iconst (n := 62) (v := 1) (x := 1) (by decide +kernel) rfl (by decide) ?_
    subst h
    exact w_ireturn (by decide +kernel) (by decide +kernel)
  · rw [if_neg c11] at h
    refine w_icmp_ge_n (n := 31) (off := 33) (by decide +kernel) rfl c11 ?_
    refine w_aload_n (n := 32) (i := 0) (by decide +kernel) rfl rfl ?_
    refine w_getR (n := 35) hL (by decide +kernel) oO_80 fF_9_7 (at_51) (by decide) (ar_51_0) rfl ?_
    refine w_getR (n := 38) hL (by decide +kernel) oO_80 fF_9_26 (at_1) (by decide) (ar_1_0) rfl ?_
    refine w_aload_n (n := 39) (i := 0) (by decide +kernel) rfl rfl ?_
    refine w_getI (n := 42) hL (by decide +kernel) oO_80 fF_9_13 (at_51) (by decide) rfl ?_
    refine w_iload_n (n := 43) (i := 2) (by decide +kernel) rfl rfl ?_
    refine w_iadd (n := 44) (by decide +kernel) rfl ?_
    obtain ⟨i6, gi6, h⟩ := h
    refine w_bald (n := 45) hL (by decide +kernel) (at_2) (by decide) (an_2) gi6 rfl ?_
    refine w_aload_n (n := 46) (i := 1) (by decide +kernel) rfl rfl ?_
    refine w_iload_n (n := 47) (i := 2) (by decide +kernel) rfl rfl ?_
    obtain ⟨v8, M7, hLM7, hr10, h⟩ := h
    refine w_cVS (n := 50) (idx := 42) (cal := 318) (na := 1) (nl := 2) (as := [.int y2]) (rest := [.int (ak_I M 2 i6)]) hL (by decide +kernel) (by decide +kernel) (by omega) (by decide +kernel) rfl rfl rfl (Nat.le_of_ble_eq_true rfl) rfl hr10 ?_
    by_cases c9 : ak_I M 2 i6 = v8
    · rw [if_pos c9] at h
      refine w_icmp_eq_j (n := 55) (off := 5) (by decide +kernel) (by decide) c9 ?_
      refine w_iinc (n := 58) (i := 2) (v := 1) (y := y2 + 1) (l1' := [some (.ref 51), some (.ref (1001000 + s1)), some (.int (y2 + 1))]) (l2' := []) (by decide +kernel) rfl rfl rfl rfl rfl ?_
      refine w_goto (n := 23) (off := (-35)) (by decide +kernel) (by decide) ?_
      exact h
    · rw [if_neg c9] at h
      refine w_icmp_eq_n (n := 53) (off := 5) (by decide +kernel) rfl c9 ?_
      refine w_iconst (n := 54) (v := 0) (x := 0) (by decide +kernel) rfl (by decide) ?_
      subst h
      exact w_ireturn (by decide +kernel) (by decide +kernel)
