/-! the walk of the class, laid by wip/p60/walk.py -/
theorem t_87 {X : ak_X} {M : ak_M} {r : ak_O × ak_M} (hL : ab_lay M) (x1 : Int32) (x2 : Int32) (x3 : Int32) (x4 : Int32) (x5 : Int32) (h : (if (ak_I M 1 1) + 20 ≤ 700 then (∃ (M1 : ak_M), ab_lay M1 ∧ rn X 33 [.ref 1, .int x1] M (.inl (none), M1) ∧ (∃ (M2 : ak_M), ab_lay M2 ∧ rn X 33 [.ref 1, .int x2] M1 (.inl (none), M2) ∧ (∃ (M3 : ak_M), ab_lay M3 ∧ rn X 33 [.ref 1, .int x3] M2 (.inl (none), M3) ∧ (∃ (M4 : ak_M), ab_lay M4 ∧ rn X 33 [.ref 1, .int x4] M3 (.inl (none), M4) ∧ (∃ (M5 : ak_M), ab_lay M5 ∧ rn X 33 [.ref 1, .int x5] M4 (.inl (none), M5) ∧ r = (.inl (some (.int (ak_I M5 1 1))), M5)))))) else r = (.inl (some (.int ((-1)))), M))) : rn X 87 [.ref 0, .int x1, .int x2, .int x3, .int x4, .int x5] M r := by
  refine w_rn (nL := 6) (l1 := [some (.ref 0), some (.int x1), some (.int x2), some (.int x3), some (.int x4), some (.int x5)]) (by decide +kernel) rfl rfl ?_
  refine w_aload_n (n := 1) (i := 0) (by decide +kernel) rfl rfl ?_
  refine w_getR (n := 4) hL (by decide +kernel) oO_87 fF_11_10 (at_0) (by decide) (ar_0_0) rfl ?_
  refine w_getI (n := 7) hL (by decide +kernel) oO_87 fF_11_63 (at_1) (by decide) rfl ?_
  refine w_bipush (n := 9) (v := 20) (x := 20) (by decide +kernel) rfl (by decide) ?_
  refine w_iadd (n := 10) (by decide +kernel) rfl ?_
  refine w_sipush (n := 13) (v := 700) (x := 700) (by decide +kernel) rfl (by decide) ?_
  by_cases c11 : (ak_I M 1 1) + 20 ≤ 700
  · rw [if_pos c11] at h
    refine w_icmp_le_j (n := 18) (off := 5) (by decide +kernel) (by decide) c11 ?_
    refine w_aload_n (n := 19) (i := 0) (by decide +kernel) rfl rfl ?_
    refine w_getR (n := 22) hL (by decide +kernel) oO_87 fF_11_10 (at_0) (by decide) (ar_0_0) rfl ?_
    refine w_iload_n (n := 23) (i := 1) (by decide +kernel) rfl rfl ?_
    obtain ⟨M1, hLM1, hr10, h⟩ := h
    refine w_cV (n := 26) (idx := 66) (cal := 33) (na := 1) (nl := 2) (as := [.int x1]) (rest := []) hL (by decide +kernel) (by decide +kernel) (at_1) (by decide +kernel) rfl rfl rfl (Nat.le_of_ble_eq_true rfl) rfl hr10 ?_
    refine w_aload_n (n := 27) (i := 0) (by decide +kernel) rfl rfl ?_
    refine w_getR (n := 30) hLM1 (by decide +kernel) oO_87 fF_11_10 (at_0) (by decide) (ar_0_0) rfl ?_
    refine w_iload_n (n := 31) (i := 2) (by decide +kernel) rfl rfl ?_
    obtain ⟨M2, hLM2, hr9, h⟩ := h
    refine w_cV (n := 34) (idx := 66) (cal := 33) (na := 1) (nl := 2) (as := [.int x2]) (rest := []) hLM1 (by decide +kernel) (by decide +kernel) (at_1) (by decide +kernel) rfl rfl rfl (Nat.le_of_ble_eq_true rfl) rfl hr9 ?_
    refine w_aload_n (n := 35) (i := 0) (by decide +kernel) rfl rfl ?_
    refine w_getR (n := 38) hLM2 (by decide +kernel) oO_87 fF_11_10 (at_0) (by decide) (ar_0_0) rfl ?_
    refine w_iload_n (n := 39) (i := 3) (by decide +kernel) rfl rfl ?_
    obtain ⟨M3, hLM3, hr8, h⟩ := h
    refine w_cV (n := 42) (idx := 66) (cal := 33) (na := 1) (nl := 2) (as := [.int x3]) (rest := []) hLM2 (by decide +kernel) (by decide +kernel) (at_1) (by decide +kernel) rfl rfl rfl (Nat.le_of_ble_eq_true rfl) rfl hr8 ?_
    refine w_aload_n (n := 43) (i := 0) (by decide +kernel) rfl rfl ?_
    refine w_getR (n := 46) hLM3 (by decide +kernel) oO_87 fF_11_10 (at_0) (by decide) (ar_0_0) rfl ?_
    refine w_iload (n := 48) (i := 4) (by decide +kernel) rfl rfl ?_
    obtain ⟨M4, hLM4, hr7, h⟩ := h
    refine w_cV (n := 51) (idx := 66) (cal := 33) (na := 1) (nl := 2) (as := [.int x4]) (rest := []) hLM3 (by decide +kernel) (by decide +kernel) (at_1) (by decide +kernel) rfl rfl rfl (Nat.le_of_ble_eq_true rfl) rfl hr7 ?_
    refine w_aload_n (n := 52) (i := 0) (by decide +kernel) rfl rfl ?_
    refine w_getR (n := 55) hLM4 (by decide +kernel) oO_87 fF_11_10 (at_0) (by decide) (ar_0_0) rfl ?_
    refine w_iload (n := 57) (i := 5) (by decide +kernel) rfl rfl ?_
    obtain ⟨M5, hLM5, hr6, h⟩ := h
    refine w_cV (n := 60) (idx := 66) (cal := 33) (na := 1) (nl := 2) (as := [.int x5]) (rest := []) hLM4 (by decide +kernel) (by decide +kernel) (at_1) (by decide +kernel) rfl rfl rfl (Nat.le_of_ble_eq_true rfl) rfl hr6 ?_
    refine w_aload_n (n := 61) (i := 0) (by decide +kernel) rfl rfl ?_
    refine w_getR (n := 64) hLM5 (by decide +kernel) oO_87 fF_11_10 (at_0) (by decide) (ar_0_0) rfl ?_
    refine w_getI (n := 67) hLM5 (by decide +kernel) oO_87 fF_11_63 (at_1) (by decide) rfl ?_
    subst h
    exact w_ireturn (by decide +kernel) (w_okI (by decide +kernel))
  · rw [if_neg c11] at h
    refine w_icmp_le_n (n := 16) (off := 5) (by decide +kernel) rfl c11 ?_
    refine w_iconst (n := 17) (v := -1) (x := (-1)) (by decide +kernel) rfl (by decide) ?_
    subst h
    exact w_ireturn (by decide +kernel) (w_okI (by decide +kernel))
theorem t_88 {X : ak_X} {M : ak_M} {r : ak_O × ak_M} (hL : ab_lay M) (x1 : Int32) (h : (if x1 < 0 then r = (.inl (some (.int 0)), M) else (if x1 ≤ ak_I M 1 1 then (∀ M1 : ak_M, M1 = ak_sI M 1 1 x1 → r = (.inl (some (.int 1)), M1)) else r = (.inl (some (.int 0)), M)))) : rn X 88 [.ref 0, .int x1] M r := by
  refine w_rn (nL := 2) (l1 := [some (.ref 0), some (.int x1)]) (by decide +kernel) rfl rfl ?_
  refine w_iload_n (n := 1) (i := 1) (by decide +kernel) rfl rfl ?_
  by_cases c3 : x1 < 0
  · rw [if_pos c3] at h
    refine w_if_lt_j (n := 15) (off := 14) (by decide +kernel) (by decide) c3 ?_
    refine w_iconst (n := 16) (v := 0) (x := 0) (by decide +kernel) rfl (by decide) ?_
    subst h
    exact w_ireturn (by decide +kernel) (by decide +kernel)
  · rw [if_neg c3] at h
    refine w_if_lt_n (n := 4) (off := 14) (by decide +kernel) rfl c3 ?_
    refine w_iload_n (n := 5) (i := 1) (by decide +kernel) rfl rfl ?_
    refine w_aload_n (n := 6) (i := 0) (by decide +kernel) rfl rfl ?_
    refine w_getR (n := 9) hL (by decide +kernel) oO_88 fF_11_10 (at_0) (by decide) (ar_0_0) rfl ?_
    refine w_getI (n := 12) hL (by decide +kernel) oO_88 fF_11_63 (at_1) (by decide) rfl ?_
    by_cases c2 : x1 ≤ ak_I M 1 1
    · rw [if_pos c2] at h
      refine w_icmp_le_j (n := 17) (off := 5) (by decide +kernel) (by decide) c2 ?_
      refine w_aload_n (n := 18) (i := 0) (by decide +kernel) rfl rfl ?_
      refine w_getR (n := 21) hL (by decide +kernel) oO_88 fF_11_10 (at_0) (by decide) (ar_0_0) rfl ?_
      refine w_iload_n (n := 22) (i := 1) (by decide +kernel) rfl rfl ?_
      refine w_putI (n := 25) hL (by decide +kernel) oO_88 fF_11_63 (at_1) ⟨by decide, Or.inl (by decide)⟩ rfl ?_
      generalize eM1 : ak_sI M 1 1 x1 = M1
      have hLM1 : ab_lay M1 := by rw [← eM1]; exact ab_lay.sI hL
      replace h := h M1 eM1.symm
      refine w_iconst (n := 26) (v := 1) (x := 1) (by decide +kernel) rfl (by decide) ?_
      subst h
      exact w_ireturn (by decide +kernel) (by decide +kernel)
    · rw [if_neg c2] at h
      refine w_icmp_le_n (n := 15) (off := 5) (by decide +kernel) rfl c2 ?_
      refine w_iconst (n := 16) (v := 0) (x := 0) (by decide +kernel) rfl (by decide) ?_
      subst h
      exact w_ireturn (by decide +kernel) (by decide +kernel)
theorem t_89 {X : ak_X} {M : ak_M} {r : ak_O × ak_M} (hL : ab_lay M) (h : (∃ (v2 : Int32) (M1 : ak_M), ab_lay M1 ∧ rn X 61 [.ref 5] M (.inl (some (.int v2)), M1) ∧ (∀ M3 : ak_M, M3 = ak_sI M1 1 1 0 → (∀ M4 : ak_M, M4 = ak_sI M3 0 9 (ak_I M3 5 5) → (∀ M5 : ak_M, M5 = ak_sI M4 0 10 (ak_I M4 5 6) → (if v2 = 0 then r = (.inl (some (.int ((-1)))), M5) else (∃ (M6 : ak_M), ab_lay M6 ∧ rn X 10 [.ref 65, .ref 6] M5 (.inl (none), M6) ∧ (∃ (M7 : ak_M), ab_lay M7 ∧ rn X 49 [.ref 52, .ref 38] M6 (.inl (none), M7) ∧ (∃ (M8 : ak_M), ab_lay M8 ∧ rn X 29 [.ref 161] M7 (.inl (none), M8) ∧ (∀ M9 : ak_M, M9 = ak_sI M8 0 8 0 → r = (.inl (some (.int (ak_I M9 65 5))), M9))))))))))) : rn X 89 [.ref 0] M r := by
  refine w_rn (nL := 2) (l1 := [some (.ref 0), none]) (by decide +kernel) rfl rfl ?_
  refine w_aload_n (n := 1) (i := 0) (by decide +kernel) rfl rfl ?_
  refine w_getR (n := 4) hL (by decide +kernel) oO_89 fF_11_28 (at_0) (by decide) (ar_0_2) rfl ?_
  obtain ⟨v2, M1, hLM1, hr14, h⟩ := h
  refine w_cV (n := 7) (idx := 70) (cal := 61) (na := 0) (nl := 1) (as := []) (rest := []) hL (by decide +kernel) (by decide +kernel) (at_5) (by decide +kernel) rfl rfl rfl (Nat.le_of_ble_eq_true rfl) rfl hr14 ?_
  refine w_istore_n (n := 8) (i := 1) (l1' := [some (.ref 0), some (.int v2)]) (l2' := []) (by decide +kernel) rfl (Nat.le_of_ble_eq_true rfl) rfl rfl ?_
  refine w_aload_n (n := 9) (i := 0) (by decide +kernel) rfl rfl ?_
  refine w_getR (n := 12) hLM1 (by decide +kernel) oO_89 fF_11_10 (at_0) (by decide) (ar_0_0) rfl ?_
  refine w_iconst (n := 13) (v := 0) (x := 0) (by decide +kernel) rfl (by decide) ?_
  refine w_putI (n := 16) hLM1 (by decide +kernel) oO_89 fF_11_63 (at_1) ⟨by decide, Or.inl (by decide)⟩ rfl ?_
  generalize eM3 : ak_sI M1 1 1 0 = M3
  have hLM3 : ab_lay M3 := by rw [← eM3]; exact ab_lay.sI hLM1
  replace h := h M3 eM3.symm
  refine w_aload_n (n := 17) (i := 0) (by decide +kernel) rfl rfl ?_
  refine w_aload_n (n := 18) (i := 0) (by decide +kernel) rfl rfl ?_
  refine w_getR (n := 21) hLM3 (by decide +kernel) oO_89 fF_11_28 (at_0) (by decide) (ar_0_2) rfl ?_
  refine w_getI (n := 24) hLM3 (by decide +kernel) oO_89 fF_11_74 (at_5) (by decide) rfl ?_
  refine w_putI (n := 27) hLM3 (by decide +kernel) oO_89 fF_11_77 (at_0) ⟨by decide, Or.inl (by decide)⟩ rfl ?_
  generalize eM4 : ak_sI M3 0 9 (ak_I M3 5 5) = M4
  have hLM4 : ab_lay M4 := by rw [← eM4]; exact ab_lay.sI hLM3
  replace h := h M4 eM4.symm
  refine w_aload_n (n := 28) (i := 0) (by decide +kernel) rfl rfl ?_
  refine w_aload_n (n := 29) (i := 0) (by decide +kernel) rfl rfl ?_
  refine w_getR (n := 32) hLM4 (by decide +kernel) oO_89 fF_11_28 (at_0) (by decide) (ar_0_2) rfl ?_
  refine w_getI (n := 35) hLM4 (by decide +kernel) oO_89 fF_11_80 (at_5) (by decide) rfl ?_
  refine w_putI (n := 38) hLM4 (by decide +kernel) oO_89 fF_11_59 (at_0) ⟨by decide, Or.inl (by decide)⟩ rfl ?_
  generalize eM5 : ak_sI M4 0 10 (ak_I M4 5 6) = M5
  have hLM5 : ab_lay M5 := by rw [← eM5]; exact ab_lay.sI hLM4
  replace h := h M5 eM5.symm
  refine w_iload_n (n := 39) (i := 1) (by decide +kernel) rfl rfl ?_
  by_cases c13 : v2 = 0
  · rw [if_pos c13] at h
    refine w_if_ne_n (n := 42) (off := 5) (by decide +kernel) rfl c13 ?_
    refine w_iconst (n := 43) (v := -1) (x := (-1)) (by decide +kernel) rfl (by decide) ?_
    subst h
    exact w_ireturn (by decide +kernel) (w_okI (by decide +kernel))
  · rw [if_neg c13] at h
    refine w_if_ne_j (n := 44) (off := 5) (by decide +kernel) (by decide) c13 ?_
    refine w_aload_n (n := 45) (i := 0) (by decide +kernel) rfl rfl ?_
    refine w_getR (n := 48) hLM5 (by decide +kernel) oO_89 fF_11_42 (at_0) (by decide) (ar_0_4) rfl ?_
    refine w_aload_n (n := 49) (i := 0) (by decide +kernel) rfl rfl ?_
    refine w_getR (n := 52) hLM5 (by decide +kernel) oO_89 fF_11_28 (at_0) (by decide) (ar_0_2) rfl ?_
    refine w_getR (n := 55) hLM5 (by decide +kernel) oO_89 fF_11_83 (at_5) (by decide) (ar_5_0) rfl ?_
    obtain ⟨M6, hLM6, hr12, h⟩ := h
    refine w_cV (n := 58) (idx := 84) (cal := 10) (na := 1) (nl := 2) (as := [.ref 6]) (rest := []) hLM5 (by decide +kernel) (by decide +kernel) (af_F (by decide)) (by decide +kernel) rfl rfl rfl (Nat.le_of_ble_eq_true rfl) rfl hr12 ?_
    refine w_aload_n (n := 59) (i := 0) (by decide +kernel) rfl rfl ?_
    refine w_getR (n := 62) hLM6 (by decide +kernel) oO_89 fF_11_35 (at_0) (by decide) (ar_0_3) rfl ?_
    refine w_aload_n (n := 63) (i := 0) (by decide +kernel) rfl rfl ?_
    refine w_getR (n := 66) hLM6 (by decide +kernel) oO_89 fF_11_28 (at_0) (by decide) (ar_0_2) rfl ?_
    refine w_getR (n := 69) hLM6 (by decide +kernel) oO_89 fF_11_88 (at_5) (by decide) (ar_5_1) rfl ?_
    obtain ⟨M7, hLM7, hr11, h⟩ := h
    refine w_cV (n := 72) (idx := 89) (cal := 49) (na := 1) (nl := 2) (as := [.ref 38]) (rest := []) hLM6 (by decide +kernel) (by decide +kernel) (an_N (by decide)) (by decide +kernel) rfl rfl rfl (Nat.le_of_ble_eq_true rfl) rfl hr11 ?_
    refine w_aload_n (n := 73) (i := 0) (by decide +kernel) rfl rfl ?_
    refine w_getR (n := 76) hLM7 (by decide +kernel) oO_89 fF_11_55 (at_0) (by decide) (ar_0_7) rfl ?_
    obtain ⟨M8, hLM8, hr10, h⟩ := h
    refine w_cV (n := 79) (idx := 92) (cal := 29) (na := 0) (nl := 1) (as := []) (rest := []) hLM7 (by decide +kernel) (by decide +kernel) (at_161) (by decide +kernel) rfl rfl rfl (Nat.le_of_ble_eq_true rfl) rfl hr10 ?_
    refine w_aload_n (n := 80) (i := 0) (by decide +kernel) rfl rfl ?_
    refine w_iconst (n := 81) (v := 0) (x := 0) (by decide +kernel) rfl (by decide) ?_
    refine w_putI (n := 84) hLM8 (by decide +kernel) oO_89 fF_11_95 (at_0) ⟨by decide, Or.inr ⟨by decide, by decide⟩⟩ rfl ?_
    generalize eM9 : ak_sI M8 0 8 0 = M9
    have hLM9 : ab_lay M9 := by rw [← eM9]; exact ab_lay.sI hLM8
    replace h := h M9 eM9.symm
    refine w_aload_n (n := 85) (i := 0) (by decide +kernel) rfl rfl ?_
    refine w_getR (n := 88) hLM9 (by decide +kernel) oO_89 fF_11_42 (at_0) (by decide) (ar_0_4) rfl ?_
    refine w_getI (n := 91) hLM9 (by decide +kernel) oO_89 fF_11_99 (af_F (by decide)) (by decide) rfl ?_
    subst h
    exact w_ireturn (by decide +kernel) (w_okI (by decide +kernel))
theorem t_92 {X : ak_X} {M : ak_M} {r : ak_O × ak_M} (hL : ab_lay M) (x1 : Int32) (h : (if x1 < 3 then (if x1 = 0 then r = (.inl (some (.int (ak_I M 65 5))), M) else (if x1 = 1 then r = (.inl (some (.int (ak_I M 65 6))), M) else (if x1 = 2 then r = (.inl (some (.int (ak_I M 65 9))), M) else (if x1 = 3 then r = (.inl (some (.int ((-1)))), M) else (if x1 = 4 then r = (.inl (some (.int ((-1)))), M) else (if x1 = 5 then r = (.inl (some (.int ((-1)))), M) else (if x1 = 6 then r = (.inl (some (.int ((-1)))), M) else (if x1 = 7 then r = (.inl (some (.int ((-1)))), M) else (if x1 = 8 then r = (.inl (some (.int (ak_I M 65 7))), M) else (if x1 = 9 then r = (.inl (some (.int (ak_I M 65 10))), M) else (if x1 = 10 then (∃ (v2 : Int32) (M1 : ak_M), ab_lay M1 ∧ rn X 15 [.ref 65, .int 0] M (.inl (some (.int v2)), M1) ∧ r = (.inl (some (.int v2)), M1)) else (if x1 = 11 then (∃ (v5 : Int32) (M4 : ak_M), ab_lay M4 ∧ rn X 15 [.ref 65, .int 1] M (.inl (some (.int v5)), M4) ∧ r = (.inl (some (.int v5)), M4)) else (if x1 = 12 then r = (.inl (some (.int (ak_I M 161 2))), M) else r = (.inl (some (.int ((-1)))), M)))))))))))))) else (if 7 < x1 then (if x1 = 0 then r = (.inl (some (.int (ak_I M 65 5))), M) else (if x1 = 1 then r = (.inl (some (.int (ak_I M 65 6))), M) else (if x1 = 2 then r = (.inl (some (.int (ak_I M 65 9))), M) else (if x1 = 3 then r = (.inl (some (.int ((-1)))), M) else (if x1 = 4 then r = (.inl (some (.int ((-1)))), M) else (if x1 = 5 then r = (.inl (some (.int ((-1)))), M) else (if x1 = 6 then r = (.inl (some (.int ((-1)))), M) else (if x1 = 7 then r = (.inl (some (.int ((-1)))), M) else (if x1 = 8 then r = (.inl (some (.int (ak_I M 65 7))), M) else (if x1 = 9 then r = (.inl (some (.int (ak_I M 65 10))), M) else (if x1 = 10 then (∃ (v21 : Int32) (M20 : ak_M), ab_lay M20 ∧ rn X 15 [.ref 65, .int 0] M (.inl (some (.int v21)), M20) ∧ r = (.inl (some (.int v21)), M20)) else (if x1 = 11 then (∃ (v24 : Int32) (M23 : ak_M), ab_lay M23 ∧ rn X 15 [.ref 65, .int 1] M (.inl (some (.int v24)), M23) ∧ r = (.inl (some (.int v24)), M23)) else (if x1 = 12 then r = (.inl (some (.int (ak_I M 161 2))), M) else r = (.inl (some (.int ((-1)))), M)))))))))))))) else (∃ (v40 : Int32) (M39 : ak_M), ab_lay M39 ∧ rn X 11 [.ref 65, .int (x1 - 3)] M (.inl (some (.int v40)), M39) ∧ r = (.inl (some (.int v40)), M39))))) : rn X 92 [.ref 0, .int x1] M r := by
  refine w_rn (nL := 2) (l1 := [some (.ref 0), some (.int x1)]) (by decide +kernel) rfl rfl ?_
  refine w_iload_n (n := 1) (i := 1) (by decide +kernel) rfl rfl ?_
  refine w_iconst (n := 2) (v := 3) (x := 3) (by decide +kernel) rfl (by decide) ?_
  by_cases c43 : x1 < 3
  · rw [if_pos c43] at h
    refine w_icmp_lt_j (n := 22) (off := 20) (by decide +kernel) (by decide) c43 ?_
    refine w_iload_n (n := 23) (i := 1) (by decide +kernel) rfl rfl ?_
    by_cases c7 : x1 = 0
    · rw [if_pos c7] at h
      refine w_tsw (n := 88) (d := 131) (lo := 0) (hi := 12) (offs := #[65, 73, 81, 131, 131, 131, 131, 131, 89, 97, 105, 114, 123]) (o := 65) (by decide +kernel) (by rw [c7]; decide) (by decide) ?_
      refine w_aload_n (n := 89) (i := 0) (by decide +kernel) rfl rfl ?_
      refine w_getR (n := 92) hL (by decide +kernel) oO_92 fF_11_42 (at_0) (by decide) (ar_0_4) rfl ?_
      refine w_getI (n := 95) hL (by decide +kernel) oO_92 fF_11_99 (af_F (by decide)) (by decide) rfl ?_
      subst h
      exact w_ireturn (by decide +kernel) (w_okI (by decide +kernel))
    · rw [if_neg c7] at h
      by_cases c8 : x1 = 1
      · rw [if_pos c8] at h
        refine w_tsw (n := 96) (d := 131) (lo := 0) (hi := 12) (offs := #[65, 73, 81, 131, 131, 131, 131, 131, 89, 97, 105, 114, 123]) (o := 73) (by decide +kernel) (by rw [c8]; decide) (by decide) ?_
        refine w_aload_n (n := 97) (i := 0) (by decide +kernel) rfl rfl ?_
        refine w_getR (n := 100) hL (by decide +kernel) oO_92 fF_11_42 (at_0) (by decide) (ar_0_4) rfl ?_
        refine w_getI (n := 103) hL (by decide +kernel) oO_92 fF_11_106 (af_F (by decide)) (by decide) rfl ?_
        subst h
        exact w_ireturn (by decide +kernel) (w_okI (by decide +kernel))
      · rw [if_neg c8] at h
        by_cases c9 : x1 = 2
        · rw [if_pos c9] at h
          refine w_tsw (n := 104) (d := 131) (lo := 0) (hi := 12) (offs := #[65, 73, 81, 131, 131, 131, 131, 131, 89, 97, 105, 114, 123]) (o := 81) (by decide +kernel) (by rw [c9]; decide) (by decide) ?_
          refine w_aload_n (n := 105) (i := 0) (by decide +kernel) rfl rfl ?_
          refine w_getR (n := 108) hL (by decide +kernel) oO_92 fF_11_42 (at_0) (by decide) (ar_0_4) rfl ?_
          refine w_getI (n := 111) hL (by decide +kernel) oO_92 fF_11_109 (af_F (by decide)) (by decide) rfl ?_
          subst h
          exact w_ireturn (by decide +kernel) (w_okI (by decide +kernel))
        · rw [if_neg c9] at h
          by_cases c10 : x1 = 3
          · rw [if_pos c10] at h
            refine w_tsw (n := 154) (d := 131) (lo := 0) (hi := 12) (offs := #[65, 73, 81, 131, 131, 131, 131, 131, 89, 97, 105, 114, 123]) (o := 131) (by decide +kernel) (by rw [c10]; decide) (by decide) ?_
            refine w_iconst (n := 155) (v := -1) (x := (-1)) (by decide +kernel) rfl (by decide) ?_
            subst h
            exact w_ireturn (by decide +kernel) (w_okI (by decide +kernel))
          · rw [if_neg c10] at h
            by_cases c11 : x1 = 4
            · rw [if_pos c11] at h
              refine w_tsw (n := 154) (d := 131) (lo := 0) (hi := 12) (offs := #[65, 73, 81, 131, 131, 131, 131, 131, 89, 97, 105, 114, 123]) (o := 131) (by decide +kernel) (by rw [c11]; decide) (by decide) ?_
              refine w_iconst (n := 155) (v := -1) (x := (-1)) (by decide +kernel) rfl (by decide) ?_
              subst h
              exact w_ireturn (by decide +kernel) (w_okI (by decide +kernel))
            · rw [if_neg c11] at h
              by_cases c12 : x1 = 5
              · rw [if_pos c12] at h
                refine w_tsw (n := 154) (d := 131) (lo := 0) (hi := 12) (offs := #[65, 73, 81, 131, 131, 131, 131, 131, 89, 97, 105, 114, 123]) (o := 131) (by decide +kernel) (by rw [c12]; decide) (by decide) ?_
                refine w_iconst (n := 155) (v := -1) (x := (-1)) (by decide +kernel) rfl (by decide) ?_
                subst h
                exact w_ireturn (by decide +kernel) (w_okI (by decide +kernel))
              · rw [if_neg c12] at h
                by_cases c13 : x1 = 6
                · rw [if_pos c13] at h
                  refine w_tsw (n := 154) (d := 131) (lo := 0) (hi := 12) (offs := #[65, 73, 81, 131, 131, 131, 131, 131, 89, 97, 105, 114, 123]) (o := 131) (by decide +kernel) (by rw [c13]; decide) (by decide) ?_
                  refine w_iconst (n := 155) (v := -1) (x := (-1)) (by decide +kernel) rfl (by decide) ?_
                  subst h
                  exact w_ireturn (by decide +kernel) (w_okI (by decide +kernel))
                · rw [if_neg c13] at h
                  by_cases c14 : x1 = 7
                  · rw [if_pos c14] at h
                    refine w_tsw (n := 154) (d := 131) (lo := 0) (hi := 12) (offs := #[65, 73, 81, 131, 131, 131, 131, 131, 89, 97, 105, 114, 123]) (o := 131) (by decide +kernel) (by rw [c14]; decide) (by decide) ?_
                    refine w_iconst (n := 155) (v := -1) (x := (-1)) (by decide +kernel) rfl (by decide) ?_
                    subst h
                    exact w_ireturn (by decide +kernel) (w_okI (by decide +kernel))
                  · rw [if_neg c14] at h
                    by_cases c15 : x1 = 8
                    · rw [if_pos c15] at h
                      refine w_tsw (n := 112) (d := 131) (lo := 0) (hi := 12) (offs := #[65, 73, 81, 131, 131, 131, 131, 131, 89, 97, 105, 114, 123]) (o := 89) (by decide +kernel) (by rw [c15]; decide) (by decide) ?_
                      refine w_aload_n (n := 113) (i := 0) (by decide +kernel) rfl rfl ?_
                      refine w_getR (n := 116) hL (by decide +kernel) oO_92 fF_11_42 (at_0) (by decide) (ar_0_4) rfl ?_
                      refine w_getI (n := 119) hL (by decide +kernel) oO_92 fF_11_112 (af_F (by decide)) (by decide) rfl ?_
                      subst h
                      exact w_ireturn (by decide +kernel) (w_okI (by decide +kernel))
                    · rw [if_neg c15] at h
                      by_cases c16 : x1 = 9
                      · rw [if_pos c16] at h
                        refine w_tsw (n := 120) (d := 131) (lo := 0) (hi := 12) (offs := #[65, 73, 81, 131, 131, 131, 131, 131, 89, 97, 105, 114, 123]) (o := 97) (by decide +kernel) (by rw [c16]; decide) (by decide) ?_
                        refine w_aload_n (n := 121) (i := 0) (by decide +kernel) rfl rfl ?_
                        refine w_getR (n := 124) hL (by decide +kernel) oO_92 fF_11_42 (at_0) (by decide) (ar_0_4) rfl ?_
                        refine w_getI (n := 127) hL (by decide +kernel) oO_92 fF_11_115 (af_F (by decide)) (by decide) rfl ?_
                        subst h
                        exact w_ireturn (by decide +kernel) (w_okI (by decide +kernel))
                      · rw [if_neg c16] at h
                        by_cases c17 : x1 = 10
                        · rw [if_pos c17] at h
                          refine w_tsw (n := 128) (d := 131) (lo := 0) (hi := 12) (offs := #[65, 73, 81, 131, 131, 131, 131, 131, 89, 97, 105, 114, 123]) (o := 105) (by decide +kernel) (by rw [c17]; decide) (by decide) ?_
                          refine w_aload_n (n := 129) (i := 0) (by decide +kernel) rfl rfl ?_
                          refine w_getR (n := 132) hL (by decide +kernel) oO_92 fF_11_42 (at_0) (by decide) (ar_0_4) rfl ?_
                          refine w_iconst (n := 133) (v := 0) (x := 0) (by decide +kernel) rfl (by decide) ?_
                          obtain ⟨v2, M1, hLM1, hr3, h⟩ := h
                          refine w_cV (n := 136) (idx := 118) (cal := 15) (na := 1) (nl := 2) (as := [.int 0]) (rest := []) hL (by decide +kernel) (by decide +kernel) (af_F (by decide)) (by decide +kernel) rfl rfl rfl (Nat.le_of_ble_eq_true rfl) rfl hr3 ?_
                          subst h
                          exact w_ireturn (by decide +kernel) (w_okI (by decide +kernel))
                        · rw [if_neg c17] at h
                          by_cases c18 : x1 = 11
                          · rw [if_pos c18] at h
                            refine w_tsw (n := 137) (d := 131) (lo := 0) (hi := 12) (offs := #[65, 73, 81, 131, 131, 131, 131, 131, 89, 97, 105, 114, 123]) (o := 114) (by decide +kernel) (by rw [c18]; decide) (by decide) ?_
                            refine w_aload_n (n := 138) (i := 0) (by decide +kernel) rfl rfl ?_
                            refine w_getR (n := 141) hL (by decide +kernel) oO_92 fF_11_42 (at_0) (by decide) (ar_0_4) rfl ?_
                            refine w_iconst (n := 142) (v := 1) (x := 1) (by decide +kernel) rfl (by decide) ?_
                            obtain ⟨v5, M4, hLM4, hr6, h⟩ := h
                            refine w_cV (n := 145) (idx := 118) (cal := 15) (na := 1) (nl := 2) (as := [.int 1]) (rest := []) hL (by decide +kernel) (by decide +kernel) (af_F (by decide)) (by decide +kernel) rfl rfl rfl (Nat.le_of_ble_eq_true rfl) rfl hr6 ?_
                            subst h
                            exact w_ireturn (by decide +kernel) (w_okI (by decide +kernel))
                          · rw [if_neg c18] at h
                            by_cases c19 : x1 = 12
                            · rw [if_pos c19] at h
                              refine w_tsw (n := 146) (d := 131) (lo := 0) (hi := 12) (offs := #[65, 73, 81, 131, 131, 131, 131, 131, 89, 97, 105, 114, 123]) (o := 123) (by decide +kernel) (by rw [c19]; decide) (by decide) ?_
                              refine w_aload_n (n := 147) (i := 0) (by decide +kernel) rfl rfl ?_
                              refine w_getR (n := 150) hL (by decide +kernel) oO_92 fF_11_55 (at_0) (by decide) (ar_0_7) rfl ?_
                              refine w_getI (n := 153) hL (by decide +kernel) oO_92 fF_11_122 (at_161) (by decide) rfl ?_
                              subst h
                              exact w_ireturn (by decide +kernel) (w_okI (by decide +kernel))
                            · rw [if_neg c19] at h
                              refine w_tsw (n := 154) (d := 131) (lo := 0) (hi := 12) (offs := #[65, 73, 81, 131, 131, 131, 131, 131, 89, 97, 105, 114, 123]) (o := 131) (by decide +kernel) (w_swd (by intro j h1 h2; rcases (show j = 0 ∨ j = 1 ∨ j = 2 ∨ j = 3 ∨ j = 4 ∨ j = 5 ∨ j = 6 ∨ j = 7 ∨ j = 8 ∨ j = 9 ∨ j = 10 ∨ j = 11 ∨ j = 12 by omega) with rfl | rfl | rfl | rfl | rfl | rfl | rfl | rfl | rfl | rfl | rfl | rfl | rfl; all_goals first | exact fun e => c7 (e.trans (by decide)) | exact fun e => c8 (e.trans (by decide)) | exact fun e => c9 (e.trans (by decide)) | exact fun e => c10 (e.trans (by decide)) | exact fun e => c11 (e.trans (by decide)) | exact fun e => c12 (e.trans (by decide)) | exact fun e => c13 (e.trans (by decide)) | exact fun e => c14 (e.trans (by decide)) | exact fun e => c15 (e.trans (by decide)) | exact fun e => c16 (e.trans (by decide)) | exact fun e => c17 (e.trans (by decide)) | exact fun e => c18 (e.trans (by decide)) | exact fun e => c19 (e.trans (by decide)))) (by decide) ?_
                              refine w_iconst (n := 155) (v := -1) (x := (-1)) (by decide +kernel) rfl (by decide) ?_
                              subst h
                              exact w_ireturn (by decide +kernel) (w_okI (by decide +kernel))
  · rw [if_neg c43] at h
    refine w_icmp_lt_n (n := 5) (off := 20) (by decide +kernel) rfl c43 ?_
    refine w_iload_n (n := 6) (i := 1) (by decide +kernel) rfl rfl ?_
    refine w_bipush (n := 8) (v := 7) (x := 7) (by decide +kernel) rfl (by decide) ?_
    by_cases c42 : 7 < x1
    · rw [if_pos c42] at h
      refine w_icmp_gt_j (n := 22) (off := 14) (by decide +kernel) (by decide) c42 ?_
      refine w_iload_n (n := 23) (i := 1) (by decide +kernel) rfl rfl ?_
      by_cases c26 : x1 = 0
      · rw [if_pos c26] at h
        refine w_tsw (n := 88) (d := 131) (lo := 0) (hi := 12) (offs := #[65, 73, 81, 131, 131, 131, 131, 131, 89, 97, 105, 114, 123]) (o := 65) (by decide +kernel) (by rw [c26]; decide) (by decide) ?_
        refine w_aload_n (n := 89) (i := 0) (by decide +kernel) rfl rfl ?_
        refine w_getR (n := 92) hL (by decide +kernel) oO_92 fF_11_42 (at_0) (by decide) (ar_0_4) rfl ?_
        refine w_getI (n := 95) hL (by decide +kernel) oO_92 fF_11_99 (af_F (by decide)) (by decide) rfl ?_
        subst h
        exact w_ireturn (by decide +kernel) (w_okI (by decide +kernel))
      · rw [if_neg c26] at h
        by_cases c27 : x1 = 1
        · rw [if_pos c27] at h
          refine w_tsw (n := 96) (d := 131) (lo := 0) (hi := 12) (offs := #[65, 73, 81, 131, 131, 131, 131, 131, 89, 97, 105, 114, 123]) (o := 73) (by decide +kernel) (by rw [c27]; decide) (by decide) ?_
          refine w_aload_n (n := 97) (i := 0) (by decide +kernel) rfl rfl ?_
          refine w_getR (n := 100) hL (by decide +kernel) oO_92 fF_11_42 (at_0) (by decide) (ar_0_4) rfl ?_
          refine w_getI (n := 103) hL (by decide +kernel) oO_92 fF_11_106 (af_F (by decide)) (by decide) rfl ?_
          subst h
          exact w_ireturn (by decide +kernel) (w_okI (by decide +kernel))
        · rw [if_neg c27] at h
          by_cases c28 : x1 = 2
          · rw [if_pos c28] at h
            refine w_tsw (n := 104) (d := 131) (lo := 0) (hi := 12) (offs := #[65, 73, 81, 131, 131, 131, 131, 131, 89, 97, 105, 114, 123]) (o := 81) (by decide +kernel) (by rw [c28]; decide) (by decide) ?_
            refine w_aload_n (n := 105) (i := 0) (by decide +kernel) rfl rfl ?_
            refine w_getR (n := 108) hL (by decide +kernel) oO_92 fF_11_42 (at_0) (by decide) (ar_0_4) rfl ?_
            refine w_getI (n := 111) hL (by decide +kernel) oO_92 fF_11_109 (af_F (by decide)) (by decide) rfl ?_
            subst h
            exact w_ireturn (by decide +kernel) (w_okI (by decide +kernel))
          · rw [if_neg c28] at h
            by_cases c29 : x1 = 3
            · rw [if_pos c29] at h
              refine w_tsw (n := 154) (d := 131) (lo := 0) (hi := 12) (offs := #[65, 73, 81, 131, 131, 131, 131, 131, 89, 97, 105, 114, 123]) (o := 131) (by decide +kernel) (by rw [c29]; decide) (by decide) ?_
              refine w_iconst (n := 155) (v := -1) (x := (-1)) (by decide +kernel) rfl (by decide) ?_
              subst h
              exact w_ireturn (by decide +kernel) (w_okI (by decide +kernel))
            · rw [if_neg c29] at h
              by_cases c30 : x1 = 4
              · rw [if_pos c30] at h
                refine w_tsw (n := 154) (d := 131) (lo := 0) (hi := 12) (offs := #[65, 73, 81, 131, 131, 131, 131, 131, 89, 97, 105, 114, 123]) (o := 131) (by decide +kernel) (by rw [c30]; decide) (by decide) ?_
                refine w_iconst (n := 155) (v := -1) (x := (-1)) (by decide +kernel) rfl (by decide) ?_
                subst h
                exact w_ireturn (by decide +kernel) (w_okI (by decide +kernel))
              · rw [if_neg c30] at h
                by_cases c31 : x1 = 5
                · rw [if_pos c31] at h
                  refine w_tsw (n := 154) (d := 131) (lo := 0) (hi := 12) (offs := #[65, 73, 81, 131, 131, 131, 131, 131, 89, 97, 105, 114, 123]) (o := 131) (by decide +kernel) (by rw [c31]; decide) (by decide) ?_
                  refine w_iconst (n := 155) (v := -1) (x := (-1)) (by decide +kernel) rfl (by decide) ?_
                  subst h
                  exact w_ireturn (by decide +kernel) (w_okI (by decide +kernel))
                · rw [if_neg c31] at h
                  by_cases c32 : x1 = 6
                  · rw [if_pos c32] at h
                    refine w_tsw (n := 154) (d := 131) (lo := 0) (hi := 12) (offs := #[65, 73, 81, 131, 131, 131, 131, 131, 89, 97, 105, 114, 123]) (o := 131) (by decide +kernel) (by rw [c32]; decide) (by decide) ?_
                    refine w_iconst (n := 155) (v := -1) (x := (-1)) (by decide +kernel) rfl (by decide) ?_
                    subst h
                    exact w_ireturn (by decide +kernel) (w_okI (by decide +kernel))
                  · rw [if_neg c32] at h
                    by_cases c33 : x1 = 7
                    · rw [if_pos c33] at h
                      refine w_tsw (n := 154) (d := 131) (lo := 0) (hi := 12) (offs := #[65, 73, 81, 131, 131, 131, 131, 131, 89, 97, 105, 114, 123]) (o := 131) (by decide +kernel) (by rw [c33]; decide) (by decide) ?_
                      refine w_iconst (n := 155) (v := -1) (x := (-1)) (by decide +kernel) rfl (by decide) ?_
                      subst h
                      exact w_ireturn (by decide +kernel) (w_okI (by decide +kernel))
                    · rw [if_neg c33] at h
                      by_cases c34 : x1 = 8
                      · rw [if_pos c34] at h
                        refine w_tsw (n := 112) (d := 131) (lo := 0) (hi := 12) (offs := #[65, 73, 81, 131, 131, 131, 131, 131, 89, 97, 105, 114, 123]) (o := 89) (by decide +kernel) (by rw [c34]; decide) (by decide) ?_
                        refine w_aload_n (n := 113) (i := 0) (by decide +kernel) rfl rfl ?_
                        refine w_getR (n := 116) hL (by decide +kernel) oO_92 fF_11_42 (at_0) (by decide) (ar_0_4) rfl ?_
                        refine w_getI (n := 119) hL (by decide +kernel) oO_92 fF_11_112 (af_F (by decide)) (by decide) rfl ?_
                        subst h
                        exact w_ireturn (by decide +kernel) (w_okI (by decide +kernel))
                      · rw [if_neg c34] at h
                        by_cases c35 : x1 = 9
                        · rw [if_pos c35] at h
                          refine w_tsw (n := 120) (d := 131) (lo := 0) (hi := 12) (offs := #[65, 73, 81, 131, 131, 131, 131, 131, 89, 97, 105, 114, 123]) (o := 97) (by decide +kernel) (by rw [c35]; decide) (by decide) ?_
                          refine w_aload_n (n := 121) (i := 0) (by decide +kernel) rfl rfl ?_
                          refine w_getR (n := 124) hL (by decide +kernel) oO_92 fF_11_42 (at_0) (by decide) (ar_0_4) rfl ?_
                          refine w_getI (n := 127) hL (by decide +kernel) oO_92 fF_11_115 (af_F (by decide)) (by decide) rfl ?_
                          subst h
                          exact w_ireturn (by decide +kernel) (w_okI (by decide +kernel))
                        · rw [if_neg c35] at h
                          by_cases c36 : x1 = 10
                          · rw [if_pos c36] at h
                            refine w_tsw (n := 128) (d := 131) (lo := 0) (hi := 12) (offs := #[65, 73, 81, 131, 131, 131, 131, 131, 89, 97, 105, 114, 123]) (o := 105) (by decide +kernel) (by rw [c36]; decide) (by decide) ?_
                            refine w_aload_n (n := 129) (i := 0) (by decide +kernel) rfl rfl ?_
                            refine w_getR (n := 132) hL (by decide +kernel) oO_92 fF_11_42 (at_0) (by decide) (ar_0_4) rfl ?_
                            refine w_iconst (n := 133) (v := 0) (x := 0) (by decide +kernel) rfl (by decide) ?_
                            obtain ⟨v21, M20, hLM20, hr22, h⟩ := h
                            refine w_cV (n := 136) (idx := 118) (cal := 15) (na := 1) (nl := 2) (as := [.int 0]) (rest := []) hL (by decide +kernel) (by decide +kernel) (af_F (by decide)) (by decide +kernel) rfl rfl rfl (Nat.le_of_ble_eq_true rfl) rfl hr22 ?_
                            subst h
                            exact w_ireturn (by decide +kernel) (w_okI (by decide +kernel))
                          · rw [if_neg c36] at h
                            by_cases c37 : x1 = 11
                            · rw [if_pos c37] at h
                              refine w_tsw (n := 137) (d := 131) (lo := 0) (hi := 12) (offs := #[65, 73, 81, 131, 131, 131, 131, 131, 89, 97, 105, 114, 123]) (o := 114) (by decide +kernel) (by rw [c37]; decide) (by decide) ?_
                              refine w_aload_n (n := 138) (i := 0) (by decide +kernel) rfl rfl ?_
                              refine w_getR (n := 141) hL (by decide +kernel) oO_92 fF_11_42 (at_0) (by decide) (ar_0_4) rfl ?_
                              refine w_iconst (n := 142) (v := 1) (x := 1) (by decide +kernel) rfl (by decide) ?_
                              obtain ⟨v24, M23, hLM23, hr25, h⟩ := h
                              refine w_cV (n := 145) (idx := 118) (cal := 15) (na := 1) (nl := 2) (as := [.int 1]) (rest := []) hL (by decide +kernel) (by decide +kernel) (af_F (by decide)) (by decide +kernel) rfl rfl rfl (Nat.le_of_ble_eq_true rfl) rfl hr25 ?_
                              subst h
                              exact w_ireturn (by decide +kernel) (w_okI (by decide +kernel))
                            · rw [if_neg c37] at h
                              by_cases c38 : x1 = 12
                              · rw [if_pos c38] at h
                                refine w_tsw (n := 146) (d := 131) (lo := 0) (hi := 12) (offs := #[65, 73, 81, 131, 131, 131, 131, 131, 89, 97, 105, 114, 123]) (o := 123) (by decide +kernel) (by rw [c38]; decide) (by decide) ?_
                                refine w_aload_n (n := 147) (i := 0) (by decide +kernel) rfl rfl ?_
                                refine w_getR (n := 150) hL (by decide +kernel) oO_92 fF_11_55 (at_0) (by decide) (ar_0_7) rfl ?_
                                refine w_getI (n := 153) hL (by decide +kernel) oO_92 fF_11_122 (at_161) (by decide) rfl ?_
                                subst h
                                exact w_ireturn (by decide +kernel) (w_okI (by decide +kernel))
                              · rw [if_neg c38] at h
                                refine w_tsw (n := 154) (d := 131) (lo := 0) (hi := 12) (offs := #[65, 73, 81, 131, 131, 131, 131, 131, 89, 97, 105, 114, 123]) (o := 131) (by decide +kernel) (w_swd (by intro j h1 h2; rcases (show j = 0 ∨ j = 1 ∨ j = 2 ∨ j = 3 ∨ j = 4 ∨ j = 5 ∨ j = 6 ∨ j = 7 ∨ j = 8 ∨ j = 9 ∨ j = 10 ∨ j = 11 ∨ j = 12 by omega) with rfl | rfl | rfl | rfl | rfl | rfl | rfl | rfl | rfl | rfl | rfl | rfl | rfl; all_goals first | exact fun e => c26 (e.trans (by decide)) | exact fun e => c27 (e.trans (by decide)) | exact fun e => c28 (e.trans (by decide)) | exact fun e => c29 (e.trans (by decide)) | exact fun e => c30 (e.trans (by decide)) | exact fun e => c31 (e.trans (by decide)) | exact fun e => c32 (e.trans (by decide)) | exact fun e => c33 (e.trans (by decide)) | exact fun e => c34 (e.trans (by decide)) | exact fun e => c35 (e.trans (by decide)) | exact fun e => c36 (e.trans (by decide)) | exact fun e => c37 (e.trans (by decide)) | exact fun e => c38 (e.trans (by decide)))) (by decide) ?_
                                refine w_iconst (n := 155) (v := -1) (x := (-1)) (by decide +kernel) rfl (by decide) ?_
                                subst h
                                exact w_ireturn (by decide +kernel) (w_okI (by decide +kernel))
    · rw [if_neg c42] at h
      refine w_icmp_gt_n (n := 11) (off := 14) (by decide +kernel) rfl c42 ?_
      refine w_aload_n (n := 12) (i := 0) (by decide +kernel) rfl rfl ?_
      refine w_getR (n := 15) hL (by decide +kernel) oO_92 fF_11_42 (at_0) (by decide) (ar_0_4) rfl ?_
      refine w_iload_n (n := 16) (i := 1) (by decide +kernel) rfl rfl ?_
      refine w_iconst (n := 17) (v := 3) (x := 3) (by decide +kernel) rfl (by decide) ?_
      refine w_isub (n := 18) (by decide +kernel) rfl ?_
      obtain ⟨v40, M39, hLM39, hr41, h⟩ := h
      refine w_cV (n := 21) (idx := 102) (cal := 11) (na := 1) (nl := 2) (as := [.int (x1 - 3)]) (rest := []) hL (by decide +kernel) (by decide +kernel) (af_F (by decide)) (by decide +kernel) rfl rfl rfl (Nat.le_of_ble_eq_true rfl) rfl hr41 ?_
      subst h
      exact w_ireturn (by decide +kernel) (w_okI (by decide +kernel))
theorem t_93 {X : ak_X} {M : ak_M} {r : ak_O × ak_M} (hL : ab_lay M) (x1 : Int32) (h : (∃ (v2 : Int32) (M1 : ak_M), ab_lay M1 ∧ rn X 151 [.int x1, .int 0, .int 5] M (.inl (some (.int v2)), M1) ∧ (if v2 = 0 then r = (.inl (some (.int ((-1)))), M1) else (∃ i3 : Nat, ab_ix x1 i3 6 ∧ r = (.inl (some (.int (ak_I M1 (65 + 4) i3))), M1))))) : rn X 93 [.ref 0, .int x1] M r := by
  refine w_rn (nL := 2) (l1 := [some (.ref 0), some (.int x1)]) (by decide +kernel) rfl rfl ?_
  refine w_iload_n (n := 1) (i := 1) (by decide +kernel) rfl rfl ?_
  refine w_iconst (n := 2) (v := 0) (x := 0) (by decide +kernel) rfl (by decide) ?_
  refine w_iconst (n := 3) (v := 5) (x := 5) (by decide +kernel) rfl (by decide) ?_
  obtain ⟨v2, M1, hLM1, hr5, h⟩ := h
  refine w_cS (n := 6) (idx := 125) (cal := 151) (na := 3) (nl := 3) (as := [.int x1, .int 0, .int 5]) (rest := []) (by decide +kernel) (by decide +kernel) rfl rfl rfl (Nat.le_of_ble_eq_true rfl) rfl hr5 ?_
  by_cases c4 : v2 = 0
  · rw [if_pos c4] at h
    refine w_if_eq_j (n := 21) (off := 15) (by decide +kernel) (by decide) c4 ?_
    refine w_iconst (n := 22) (v := -1) (x := (-1)) (by decide +kernel) rfl (by decide) ?_
    subst h
    exact w_ireturn (by decide +kernel) (w_okI (by decide +kernel))
  · rw [if_neg c4] at h
    refine w_if_eq_n (n := 9) (off := 15) (by decide +kernel) rfl c4 ?_
    refine w_aload_n (n := 10) (i := 0) (by decide +kernel) rfl rfl ?_
    refine w_getR (n := 13) hLM1 (by decide +kernel) oO_93 fF_11_42 (at_0) (by decide) (ar_0_4) rfl ?_
    refine w_getR (n := 16) hLM1 (by decide +kernel) oO_93 fF_11_129 (af_F (by decide)) (by decide) (ag_SA (by decide)) rfl ?_
    refine w_iload_n (n := 17) (i := 1) (by decide +kernel) rfl rfl ?_
    obtain ⟨i3, gi3, h⟩ := h
    refine w_iald (n := 18) hLM1 (by decide +kernel) (af_SA (by decide)) (ax_SA (by decide)) gi3 rfl ?_
    refine w_goto (n := 22) (off := 4) (by decide +kernel) (by decide) ?_
    subst h
    exact w_ireturn (by decide +kernel) (w_okI (by decide +kernel))
theorem t_95 {X : ak_X} {M : ak_M} {r : ak_O × ak_M} (hL : ab_lay M) (x1 : Int32) (x2 : Int32) (h : ((∃ (M1 : ak_M), ab_lay M1 ∧ rn X 144 [.ref 0, .int x1] M (.inl (none), M1) ∧ ((∃ (M2 : ak_M), ab_lay M2 ∧ rn X 146 [.int x2, .int 0, .int 13] M1 (.inl (none), M2) ∧ (∃ i3 : Nat, i3 < 10 ∧ ab_ix x1 i3 10 ∧ (∃ (v5 : Int32) (M4 : ak_M), ab_lay M4 ∧ rn X 39 [.ref (65 + 6 + i3), .int x2] M2 (.inl (some (.int v5)), M4) ∧ r = (.inl (some (.int v5)), M4)))) ∨ ∃ (E8 : Nat) (M9 : ak_M), rn X 146 [.int x2, .int 0, .int 13] M1 (.inr E8, M9) ∧ r = (.inr E8, M9))) ∨ ∃ (E12 : Nat) (M13 : ak_M), rn X 144 [.ref 0, .int x1] M (.inr E12, M13) ∧ r = (.inr E12, M13))) : rn X 95 [.ref 0, .int x1, .int x2] M r := by
  refine w_rn (nL := 3) (l1 := [some (.ref 0), some (.int x1), some (.int x2)]) (by decide +kernel) rfl rfl ?_
  refine w_aload_n (n := 1) (i := 0) (by decide +kernel) rfl rfl ?_
  refine w_iload_n (n := 2) (i := 1) (by decide +kernel) rfl rfl ?_
  rcases h with h | ⟨E12, M13, hr14, rfl⟩
  · obtain ⟨M1, hLM1, hr11, h⟩ := h
    refine w_cV (n := 5) (idx := 141) (cal := 144) (na := 1) (nl := 2) (as := [.int x1]) (rest := []) hL (by decide +kernel) (by decide +kernel) (at_0) (by decide +kernel) rfl rfl rfl (Nat.le_of_ble_eq_true rfl) rfl hr11 ?_
    refine w_iload_n (n := 6) (i := 2) (by decide +kernel) rfl rfl ?_
    refine w_iconst (n := 7) (v := 0) (x := 0) (by decide +kernel) rfl (by decide) ?_
    refine w_bipush (n := 9) (v := 13) (x := 13) (by decide +kernel) rfl (by decide) ?_
    rcases h with h | ⟨E8, M9, hr10, rfl⟩
    · obtain ⟨M2, hLM2, hr7, h⟩ := h
      refine w_cS (n := 12) (idx := 144) (cal := 146) (na := 3) (nl := 3) (as := [.int x2, .int 0, .int 13]) (rest := []) (by decide +kernel) (by decide +kernel) rfl rfl rfl (Nat.le_of_ble_eq_true rfl) rfl hr7 ?_
      refine w_aload_n (n := 13) (i := 0) (by decide +kernel) rfl rfl ?_
      refine w_getR (n := 16) hLM2 (by decide +kernel) oO_95 fF_11_42 (at_0) (by decide) (ar_0_4) rfl ?_
      refine w_getR (n := 19) hLM2 (by decide +kernel) oO_95 fF_11_148 (af_F (by decide)) (by decide) (ag_KA (by decide)) rfl ?_
      refine w_iload_n (n := 20) (i := 1) (by decide +kernel) rfl rfl ?_
      obtain ⟨i3, hi3, gi3, h⟩ := h
      refine w_aald (n := 21) hLM2 (by decide +kernel) (af_KA (by decide)) (by decide) (ax_KA (by decide)) gi3 (ai_KA (by decide) hi3) rfl ?_
      refine w_iload_n (n := 22) (i := 2) (by decide +kernel) rfl rfl ?_
      obtain ⟨v5, M4, hLM4, hr6, h⟩ := h
      refine w_cV (n := 25) (idx := 152) (cal := 39) (na := 1) (nl := 2) (as := [.int x2]) (rest := []) hLM2 (by decide +kernel) (by decide +kernel) (af_K (by decide) hi3) (by decide +kernel) rfl rfl rfl (Nat.le_of_ble_eq_true rfl) rfl hr6 ?_
      subst h
      exact w_ireturn (by decide +kernel) (w_okI (by decide +kernel))
    · exact w_tS (idx := 144) (cal := 146) (na := 3) (nl := 3) (as := [.int x2, .int 0, .int 13]) (rest := []) (by decide +kernel) (by decide +kernel) rfl rfl rfl (Nat.le_of_ble_eq_true rfl) (by decide +kernel) (by decide +kernel) hr10
  · exact w_tV (idx := 141) (cal := 144) (na := 1) (nl := 2) (as := [.int x1]) (rest := []) hL (by decide +kernel) (by decide +kernel) (at_0) (by decide +kernel) rfl rfl rfl (Nat.le_of_ble_eq_true rfl) (by decide +kernel) (by decide +kernel) hr14
theorem t_98 {X : ak_X} {M : ak_M} {r : ak_O × ak_M} (hL : ab_lay M) (x1 : Int32) (h : ((∃ (M1 : ak_M), ab_lay M1 ∧ rn X 144 [.ref 0, .int x1] M (.inl (none), M1) ∧ (∃ i2 : Nat, i2 < 10 ∧ ab_ix x1 i2 10 ∧ (if ak_I M1 (65 + 6 + i2) 0 = 0 then (∃ (v4 : Int32) (M3 : ak_M), ab_lay M3 ∧ rn X 42 [.ref (65 + 6 + i2)] M1 (.inl (some (.int v4)), M3) ∧ r = (.inl (some (.int v4)), M3)) else r = (.inl (some (.int ((-1)))), M1)))) ∨ ∃ (E8 : Nat) (M9 : ak_M), rn X 144 [.ref 0, .int x1] M (.inr E8, M9) ∧ r = (.inr E8, M9))) : rn X 98 [.ref 0, .int x1] M r := by
  refine w_rn (nL := 3) (l1 := [some (.ref 0), some (.int x1), none]) (by decide +kernel) rfl rfl ?_
  refine w_aload_n (n := 1) (i := 0) (by decide +kernel) rfl rfl ?_
  refine w_iload_n (n := 2) (i := 1) (by decide +kernel) rfl rfl ?_
  rcases h with h | ⟨E8, M9, hr10, rfl⟩
  · obtain ⟨M1, hLM1, hr7, h⟩ := h
    refine w_cV (n := 5) (idx := 141) (cal := 144) (na := 1) (nl := 2) (as := [.int x1]) (rest := []) hL (by decide +kernel) (by decide +kernel) (at_0) (by decide +kernel) rfl rfl rfl (Nat.le_of_ble_eq_true rfl) rfl hr7 ?_
    refine w_aload_n (n := 6) (i := 0) (by decide +kernel) rfl rfl ?_
    refine w_getR (n := 9) hLM1 (by decide +kernel) oO_98 fF_11_42 (at_0) (by decide) (ar_0_4) rfl ?_
    refine w_getR (n := 12) hLM1 (by decide +kernel) oO_98 fF_11_148 (af_F (by decide)) (by decide) (ag_KA (by decide)) rfl ?_
    refine w_iload_n (n := 13) (i := 1) (by decide +kernel) rfl rfl ?_
    obtain ⟨i2, hi2, gi2, h⟩ := h
    refine w_aald (n := 14) hLM1 (by decide +kernel) (af_KA (by decide)) (by decide) (ax_KA (by decide)) gi2 (ai_KA (by decide) hi2) rfl ?_
    refine w_astore_n (n := 15) (i := 2) (l1' := [some (.ref 0), some (.int x1), some (.ref (65 + 6 + i2))]) (l2' := []) (by decide +kernel) rfl (Nat.le_of_ble_eq_true rfl) rfl rfl ?_
    refine w_aload_n (n := 16) (i := 2) (by decide +kernel) rfl rfl ?_
    refine w_getI (n := 19) hLM1 (by decide +kernel) oO_98 fF_11_170 (af_K (by decide) hi2) (by decide) rfl ?_
    by_cases c6 : ak_I M1 (65 + 6 + i2) 0 = 0
    · rw [if_pos c6] at h
      refine w_if_ne_n (n := 22) (off := 10) (by decide +kernel) rfl c6 ?_
      refine w_aload_n (n := 23) (i := 2) (by decide +kernel) rfl rfl ?_
      obtain ⟨v4, M3, hLM3, hr5, h⟩ := h
      refine w_cV (n := 26) (idx := 173) (cal := 42) (na := 0) (nl := 1) (as := []) (rest := []) hLM1 (by decide +kernel) (by decide +kernel) (af_K (by decide) hi2) (by decide +kernel) rfl rfl rfl (Nat.le_of_ble_eq_true rfl) rfl hr5 ?_
      refine w_goto (n := 30) (off := 4) (by decide +kernel) (by decide) ?_
      subst h
      exact w_ireturn (by decide +kernel) (w_okI (by decide +kernel))
    · rw [if_neg c6] at h
      refine w_if_ne_j (n := 29) (off := 10) (by decide +kernel) (by decide) c6 ?_
      refine w_iconst (n := 30) (v := -1) (x := (-1)) (by decide +kernel) rfl (by decide) ?_
      subst h
      exact w_ireturn (by decide +kernel) (w_okI (by decide +kernel))
  · exact w_tV (idx := 141) (cal := 144) (na := 1) (nl := 2) (as := [.int x1]) (rest := []) hL (by decide +kernel) (by decide +kernel) (at_0) (by decide +kernel) rfl rfl rfl (Nat.le_of_ble_eq_true rfl) (by decide +kernel) (by decide +kernel) hr10
theorem t_99 {X : ak_X} {M : ak_M} {r : ak_O × ak_M} (hL : ab_lay M) (x1 : Int32) (h : ((∃ (M1 : ak_M), ab_lay M1 ∧ rn X 144 [.ref 0, .int x1] M (.inl (none), M1) ∧ (∃ i2 : Nat, i2 < 10 ∧ ab_ix x1 i2 10 ∧ (if ak_I M1 (65 + 6 + i2) 0 = 0 then ((∃ (M11 : ak_M), ab_lay M11 ∧ rn X 147 [.int 1] M1 (.inl (none), M11) ∧ (∃ (v13 : Int32) (M12 : ak_M), ab_lay M12 ∧ rn X 43 [.ref (65 + 6 + i2)] M11 (.inl (some (.int v13)), M12) ∧ r = (.inl (some (.int v13)), M12))) ∨ ∃ (E16 : Nat) (M17 : ak_M), rn X 147 [.int 1] M1 (.inr E16, M17) ∧ r = (.inr E16, M17)) else ((∃ (M3 : ak_M), ab_lay M3 ∧ rn X 147 [.int 0] M1 (.inl (none), M3) ∧ (∃ (v5 : Int32) (M4 : ak_M), ab_lay M4 ∧ rn X 43 [.ref (65 + 6 + i2)] M3 (.inl (some (.int v5)), M4) ∧ r = (.inl (some (.int v5)), M4))) ∨ ∃ (E8 : Nat) (M9 : ak_M), rn X 147 [.int 0] M1 (.inr E8, M9) ∧ r = (.inr E8, M9))))) ∨ ∃ (E21 : Nat) (M22 : ak_M), rn X 144 [.ref 0, .int x1] M (.inr E21, M22) ∧ r = (.inr E21, M22))) : rn X 99 [.ref 0, .int x1] M r := by
  refine w_rn (nL := 3) (l1 := [some (.ref 0), some (.int x1), none]) (by decide +kernel) rfl rfl ?_
  refine w_aload_n (n := 1) (i := 0) (by decide +kernel) rfl rfl ?_
  refine w_iload_n (n := 2) (i := 1) (by decide +kernel) rfl rfl ?_
  rcases h with h | ⟨E21, M22, hr23, rfl⟩
  · obtain ⟨M1, hLM1, hr20, h⟩ := h
    refine w_cV (n := 5) (idx := 141) (cal := 144) (na := 1) (nl := 2) (as := [.int x1]) (rest := []) hL (by decide +kernel) (by decide +kernel) (at_0) (by decide +kernel) rfl rfl rfl (Nat.le_of_ble_eq_true rfl) rfl hr20 ?_
    refine w_aload_n (n := 6) (i := 0) (by decide +kernel) rfl rfl ?_
    refine w_getR (n := 9) hLM1 (by decide +kernel) oO_99 fF_11_42 (at_0) (by decide) (ar_0_4) rfl ?_
    refine w_getR (n := 12) hLM1 (by decide +kernel) oO_99 fF_11_148 (af_F (by decide)) (by decide) (ag_KA (by decide)) rfl ?_
    refine w_iload_n (n := 13) (i := 1) (by decide +kernel) rfl rfl ?_
    obtain ⟨i2, hi2, gi2, h⟩ := h
    refine w_aald (n := 14) hLM1 (by decide +kernel) (af_KA (by decide)) (by decide) (ax_KA (by decide)) gi2 (ai_KA (by decide) hi2) rfl ?_
    refine w_astore_n (n := 15) (i := 2) (l1' := [some (.ref 0), some (.int x1), some (.ref (65 + 6 + i2))]) (l2' := []) (by decide +kernel) rfl (Nat.le_of_ble_eq_true rfl) rfl rfl ?_
    refine w_aload_n (n := 16) (i := 2) (by decide +kernel) rfl rfl ?_
    refine w_getI (n := 19) hLM1 (by decide +kernel) oO_99 fF_11_170 (af_K (by decide) hi2) (by decide) rfl ?_
    by_cases c19 : ak_I M1 (65 + 6 + i2) 0 = 0
    · rw [if_pos c19] at h
      refine w_if_ne_n (n := 22) (off := 7) (by decide +kernel) rfl c19 ?_
      refine w_iconst (n := 23) (v := 1) (x := 1) (by decide +kernel) rfl (by decide) ?_
      refine w_goto (n := 27) (off := 4) (by decide +kernel) (by decide) ?_
      rcases h with h | ⟨E16, M17, hr18, rfl⟩
      · obtain ⟨M11, hLM11, hr15, h⟩ := h
        refine w_cS (n := 30) (idx := 177) (cal := 147) (na := 1) (nl := 1) (as := [.int 1]) (rest := []) (by decide +kernel) (by decide +kernel) rfl rfl rfl (Nat.le_of_ble_eq_true rfl) rfl hr15 ?_
        refine w_aload_n (n := 31) (i := 2) (by decide +kernel) rfl rfl ?_
        obtain ⟨v13, M12, hLM12, hr14, h⟩ := h
        refine w_cV (n := 34) (idx := 181) (cal := 43) (na := 0) (nl := 1) (as := []) (rest := []) hLM11 (by decide +kernel) (by decide +kernel) (af_K (by decide) hi2) (by decide +kernel) rfl rfl rfl (Nat.le_of_ble_eq_true rfl) rfl hr14 ?_
        subst h
        exact w_ireturn (by decide +kernel) (w_okI (by decide +kernel))
      · exact w_tS (idx := 177) (cal := 147) (na := 1) (nl := 1) (as := [.int 1]) (rest := []) (by decide +kernel) (by decide +kernel) rfl rfl rfl (Nat.le_of_ble_eq_true rfl) (by decide +kernel) (by decide +kernel) hr18
    · rw [if_neg c19] at h
      refine w_if_ne_j (n := 26) (off := 7) (by decide +kernel) (by decide) c19 ?_
      refine w_iconst (n := 27) (v := 0) (x := 0) (by decide +kernel) rfl (by decide) ?_
      rcases h with h | ⟨E8, M9, hr10, rfl⟩
      · obtain ⟨M3, hLM3, hr7, h⟩ := h
        refine w_cS (n := 30) (idx := 177) (cal := 147) (na := 1) (nl := 1) (as := [.int 0]) (rest := []) (by decide +kernel) (by decide +kernel) rfl rfl rfl (Nat.le_of_ble_eq_true rfl) rfl hr7 ?_
        refine w_aload_n (n := 31) (i := 2) (by decide +kernel) rfl rfl ?_
        obtain ⟨v5, M4, hLM4, hr6, h⟩ := h
        refine w_cV (n := 34) (idx := 181) (cal := 43) (na := 0) (nl := 1) (as := []) (rest := []) hLM3 (by decide +kernel) (by decide +kernel) (af_K (by decide) hi2) (by decide +kernel) rfl rfl rfl (Nat.le_of_ble_eq_true rfl) rfl hr6 ?_
        subst h
        exact w_ireturn (by decide +kernel) (w_okI (by decide +kernel))
      · exact w_tS (idx := 177) (cal := 147) (na := 1) (nl := 1) (as := [.int 0]) (rest := []) (by decide +kernel) (by decide +kernel) rfl rfl rfl (Nat.le_of_ble_eq_true rfl) (by decide +kernel) (by decide +kernel) hr10
  · exact w_tV (idx := 141) (cal := 144) (na := 1) (nl := 2) (as := [.int x1]) (rest := []) hL (by decide +kernel) (by decide +kernel) (at_0) (by decide +kernel) rfl rfl rfl (Nat.le_of_ble_eq_true rfl) (by decide +kernel) (by decide +kernel) hr23
theorem t_100 {X : ak_X} {M : ak_M} {r : ak_O × ak_M} (hL : ab_lay M) (x1 : Int32) (x2 : Int32) (h : ((∃ (M1 : ak_M), ab_lay M1 ∧ rn X 144 [.ref 0, .int x1] M (.inl (none), M1) ∧ ((∃ (M2 : ak_M), ab_lay M2 ∧ rn X 144 [.ref 0, .int x2] M1 (.inl (none), M2) ∧ (∃ (v4 : Int32) (M3 : ak_M), ab_lay M3 ∧ rn X 13 [.ref 65, .int x1, .int x2] M2 (.inl (some (.int v4)), M3) ∧ ((v4 = 0 ∨ v4 = 1) ∧ r = (.inl (some (.int v4)), M3)))) ∨ ∃ (E8 : Nat) (M9 : ak_M), rn X 144 [.ref 0, .int x2] M1 (.inr E8, M9) ∧ r = (.inr E8, M9))) ∨ ∃ (E12 : Nat) (M13 : ak_M), rn X 144 [.ref 0, .int x1] M (.inr E12, M13) ∧ r = (.inr E12, M13))) : rn X 100 [.ref 0, .int x1, .int x2] M r := by
  refine w_rn (nL := 3) (l1 := [some (.ref 0), some (.int x1), some (.int x2)]) (by decide +kernel) rfl rfl ?_
  refine w_aload_n (n := 1) (i := 0) (by decide +kernel) rfl rfl ?_
  refine w_iload_n (n := 2) (i := 1) (by decide +kernel) rfl rfl ?_
  rcases h with h | ⟨E12, M13, hr14, rfl⟩
  · obtain ⟨M1, hLM1, hr11, h⟩ := h
    refine w_cV (n := 5) (idx := 141) (cal := 144) (na := 1) (nl := 2) (as := [.int x1]) (rest := []) hL (by decide +kernel) (by decide +kernel) (at_0) (by decide +kernel) rfl rfl rfl (Nat.le_of_ble_eq_true rfl) rfl hr11 ?_
    refine w_aload_n (n := 6) (i := 0) (by decide +kernel) rfl rfl ?_
    refine w_iload_n (n := 7) (i := 2) (by decide +kernel) rfl rfl ?_
    rcases h with h | ⟨E8, M9, hr10, rfl⟩
    · obtain ⟨M2, hLM2, hr7, h⟩ := h
      refine w_cV (n := 10) (idx := 141) (cal := 144) (na := 1) (nl := 2) (as := [.int x2]) (rest := []) hLM1 (by decide +kernel) (by decide +kernel) (at_0) (by decide +kernel) rfl rfl rfl (Nat.le_of_ble_eq_true rfl) rfl hr7 ?_
      refine w_aload_n (n := 11) (i := 0) (by decide +kernel) rfl rfl ?_
      refine w_getR (n := 14) hLM2 (by decide +kernel) oO_100 fF_11_42 (at_0) (by decide) (ar_0_4) rfl ?_
      refine w_iload_n (n := 15) (i := 1) (by decide +kernel) rfl rfl ?_
      refine w_iload_n (n := 16) (i := 2) (by decide +kernel) rfl rfl ?_
      obtain ⟨v4, M3, hLM3, hr6, h⟩ := h
      refine w_cV (n := 19) (idx := 184) (cal := 13) (na := 2) (nl := 3) (as := [.int x1, .int x2]) (rest := []) hLM2 (by decide +kernel) (by decide +kernel) (af_F (by decide)) (by decide +kernel) rfl rfl rfl (Nat.le_of_ble_eq_true rfl) rfl hr6 ?_
      obtain ⟨g5, rfl⟩ := h
      exact w_ireturn (by decide +kernel) (w_okZ (by decide +kernel) g5)
    · exact w_tV (idx := 141) (cal := 144) (na := 1) (nl := 2) (as := [.int x2]) (rest := []) hLM1 (by decide +kernel) (by decide +kernel) (at_0) (by decide +kernel) rfl rfl rfl (Nat.le_of_ble_eq_true rfl) (by decide +kernel) (by decide +kernel) hr10
  · exact w_tV (idx := 141) (cal := 144) (na := 1) (nl := 2) (as := [.int x1]) (rest := []) hL (by decide +kernel) (by decide +kernel) (at_0) (by decide +kernel) rfl rfl rfl (Nat.le_of_ble_eq_true rfl) (by decide +kernel) (by decide +kernel) hr14
theorem t_101 {X : ak_X} {M : ak_M} {r : ak_O × ak_M} (hL : ab_lay M) (x1 : Int32) (x2 : Int32) (x3 : Int32) (h : ((∃ (M1 : ak_M), ab_lay M1 ∧ rn X 144 [.ref 0, .int x1] M (.inl (none), M1) ∧ ((∃ (M2 : ak_M), ab_lay M2 ∧ rn X 144 [.ref 0, .int x2] M1 (.inl (none), M2) ∧ ((∃ (M3 : ak_M), ab_lay M3 ∧ rn X 146 [.int x3, .int 0, .int 4] M2 (.inl (none), M3) ∧ (∃ (v5 : Int32) (M4 : ak_M), ab_lay M4 ∧ rn X 13 [.ref 65, .int x1, .int x2] M3 (.inl (some (.int v5)), M4) ∧ (if v5 = 0 then r = (.inl (some (.int ((-1)))), M4) else (if x3 = 0 then r = (.inl (some (.int (ak_I M4 (65 + 5) 0))), M4) else (if x3 = 1 then r = (.inl (some (.int (ak_I M4 (65 + 5) 1))), M4) else (if x3 = 2 then (if x2 ≤ x1 then r = (.inl (some (.int (ak_I M4 (65 + 5) 3))), M4) else r = (.inl (some (.int (ak_I M4 (65 + 5) 2))), M4)) else (if x3 = 3 then (if x2 ≤ x1 then r = (.inl (some (.int (ak_I M4 (65 + 5) 2))), M4) else r = (.inl (some (.int (ak_I M4 (65 + 5) 3))), M4)) else (∃ (v9 : Int32) (M8 : ak_M), ab_lay M8 ∧ rn X 3 [.ref (65 + 5)] M4 (.inl (some (.int v9)), M8) ∧ r = (.inl (some (.int v9)), M8))))))))) ∨ ∃ (E18 : Nat) (M19 : ak_M), rn X 146 [.int x3, .int 0, .int 4] M2 (.inr E18, M19) ∧ r = (.inr E18, M19))) ∨ ∃ (E22 : Nat) (M23 : ak_M), rn X 144 [.ref 0, .int x2] M1 (.inr E22, M23) ∧ r = (.inr E22, M23))) ∨ ∃ (E26 : Nat) (M27 : ak_M), rn X 144 [.ref 0, .int x1] M (.inr E26, M27) ∧ r = (.inr E26, M27))) : rn X 101 [.ref 0, .int x1, .int x2, .int x3] M r := by
  refine w_rn (nL := 5) (l1 := [some (.ref 0), some (.int x1), some (.int x2), some (.int x3), none]) (by decide +kernel) rfl rfl ?_
  refine w_aload_n (n := 1) (i := 0) (by decide +kernel) rfl rfl ?_
  refine w_iload_n (n := 2) (i := 1) (by decide +kernel) rfl rfl ?_
  rcases h with h | ⟨E26, M27, hr28, rfl⟩
  · obtain ⟨M1, hLM1, hr25, h⟩ := h
    refine w_cV (n := 5) (idx := 141) (cal := 144) (na := 1) (nl := 2) (as := [.int x1]) (rest := []) hL (by decide +kernel) (by decide +kernel) (at_0) (by decide +kernel) rfl rfl rfl (Nat.le_of_ble_eq_true rfl) rfl hr25 ?_
    refine w_aload_n (n := 6) (i := 0) (by decide +kernel) rfl rfl ?_
    refine w_iload_n (n := 7) (i := 2) (by decide +kernel) rfl rfl ?_
    rcases h with h | ⟨E22, M23, hr24, rfl⟩
    · obtain ⟨M2, hLM2, hr21, h⟩ := h
      refine w_cV (n := 10) (idx := 141) (cal := 144) (na := 1) (nl := 2) (as := [.int x2]) (rest := []) hLM1 (by decide +kernel) (by decide +kernel) (at_0) (by decide +kernel) rfl rfl rfl (Nat.le_of_ble_eq_true rfl) rfl hr21 ?_
      refine w_iload_n (n := 11) (i := 3) (by decide +kernel) rfl rfl ?_
      refine w_iconst (n := 12) (v := 0) (x := 0) (by decide +kernel) rfl (by decide) ?_
      refine w_iconst (n := 13) (v := 4) (x := 4) (by decide +kernel) rfl (by decide) ?_
      rcases h with h | ⟨E18, M19, hr20, rfl⟩
      · obtain ⟨M3, hLM3, hr17, h⟩ := h
        refine w_cS (n := 16) (idx := 144) (cal := 146) (na := 3) (nl := 3) (as := [.int x3, .int 0, .int 4]) (rest := []) (by decide +kernel) (by decide +kernel) rfl rfl rfl (Nat.le_of_ble_eq_true rfl) rfl hr17 ?_
        refine w_aload_n (n := 17) (i := 0) (by decide +kernel) rfl rfl ?_
        refine w_getR (n := 20) hLM3 (by decide +kernel) oO_101 fF_11_42 (at_0) (by decide) (ar_0_4) rfl ?_
        refine w_iload_n (n := 21) (i := 1) (by decide +kernel) rfl rfl ?_
        refine w_iload_n (n := 22) (i := 2) (by decide +kernel) rfl rfl ?_
        obtain ⟨v5, M4, hLM4, hr16, h⟩ := h
        refine w_cV (n := 25) (idx := 184) (cal := 13) (na := 2) (nl := 3) (as := [.int x1, .int x2]) (rest := []) hLM3 (by decide +kernel) (by decide +kernel) (af_F (by decide)) (by decide +kernel) rfl rfl rfl (Nat.le_of_ble_eq_true rfl) rfl hr16 ?_
        by_cases c15 : v5 = 0
        · rw [if_pos c15] at h
          refine w_if_ne_n (n := 28) (off := 5) (by decide +kernel) rfl c15 ?_
          refine w_iconst (n := 29) (v := -1) (x := (-1)) (by decide +kernel) rfl (by decide) ?_
          subst h
          exact w_ireturn (by decide +kernel) (w_okI (by decide +kernel))
        · rw [if_neg c15] at h
          refine w_if_ne_j (n := 30) (off := 5) (by decide +kernel) (by decide) c15 ?_
          refine w_aload_n (n := 31) (i := 0) (by decide +kernel) rfl rfl ?_
          refine w_getR (n := 34) hLM4 (by decide +kernel) oO_101 fF_11_42 (at_0) (by decide) (ar_0_4) rfl ?_
          refine w_getR (n := 37) hLM4 (by decide +kernel) oO_101 fF_11_188 (af_F (by decide)) (by decide) (ag_X (by decide)) rfl ?_
          refine w_astore (n := 39) (i := 4) (l1' := [some (.ref 0), some (.int x1), some (.int x2), some (.int x3), some (.ref (65 + 5))]) (l2' := []) (by decide +kernel) rfl (Nat.le_of_ble_eq_true rfl) rfl rfl ?_
          refine w_iload_n (n := 40) (i := 3) (by decide +kernel) rfl rfl ?_
          by_cases c11 : x3 = 0
          · rw [if_pos c11] at h
            refine w_tsw (n := 72) (d := 82) (lo := 0) (hi := 3) (offs := #[32, 38, 44, 63]) (o := 32) (by decide +kernel) (by rw [c11]; decide) (by decide) ?_
            refine w_aload (n := 74) (i := 4) (by decide +kernel) rfl rfl ?_
            refine w_getI (n := 77) hLM4 (by decide +kernel) oO_101 fF_11_192 (af_X (by decide)) (by decide) rfl ?_
            subst h
            exact w_ireturn (by decide +kernel) (w_okI (by decide +kernel))
          · rw [if_neg c11] at h
            by_cases c12 : x3 = 1
            · rw [if_pos c12] at h
              refine w_tsw (n := 78) (d := 82) (lo := 0) (hi := 3) (offs := #[32, 38, 44, 63]) (o := 38) (by decide +kernel) (by rw [c12]; decide) (by decide) ?_
              refine w_aload (n := 80) (i := 4) (by decide +kernel) rfl rfl ?_
              refine w_getI (n := 83) hLM4 (by decide +kernel) oO_101 fF_11_197 (af_X (by decide)) (by decide) rfl ?_
              subst h
              exact w_ireturn (by decide +kernel) (w_okI (by decide +kernel))
            · rw [if_neg c12] at h
              by_cases c13 : x3 = 2
              · rw [if_pos c13] at h
                refine w_tsw (n := 84) (d := 82) (lo := 0) (hi := 3) (offs := #[32, 38, 44, 63]) (o := 44) (by decide +kernel) (by rw [c13]; decide) (by decide) ?_
                refine w_iload_n (n := 85) (i := 1) (by decide +kernel) rfl rfl ?_
                refine w_iload_n (n := 86) (i := 2) (by decide +kernel) rfl rfl ?_
                by_cases c6 : x2 ≤ x1
                · rw [if_pos c6] at h
                  refine w_icmp_ge_j (n := 97) (off := 11) (by decide +kernel) (by decide) c6 ?_
                  refine w_aload (n := 99) (i := 4) (by decide +kernel) rfl rfl ?_
                  refine w_getI (n := 102) hLM4 (by decide +kernel) oO_101 fF_11_203 (af_X (by decide)) (by decide) rfl ?_
                  subst h
                  exact w_ireturn (by decide +kernel) (w_okI (by decide +kernel))
                · rw [if_neg c6] at h
                  refine w_icmp_ge_n (n := 89) (off := 11) (by decide +kernel) rfl c6 ?_
                  refine w_aload (n := 91) (i := 4) (by decide +kernel) rfl rfl ?_
                  refine w_getI (n := 94) hLM4 (by decide +kernel) oO_101 fF_11_200 (af_X (by decide)) (by decide) rfl ?_
                  refine w_goto (n := 102) (off := 8) (by decide +kernel) (by decide) ?_
                  subst h
                  exact w_ireturn (by decide +kernel) (w_okI (by decide +kernel))
              · rw [if_neg c13] at h
                by_cases c14 : x3 = 3
                · rw [if_pos c14] at h
                  refine w_tsw (n := 103) (d := 82) (lo := 0) (hi := 3) (offs := #[32, 38, 44, 63]) (o := 63) (by decide +kernel) (by rw [c14]; decide) (by decide) ?_
                  refine w_iload_n (n := 104) (i := 1) (by decide +kernel) rfl rfl ?_
                  refine w_iload_n (n := 105) (i := 2) (by decide +kernel) rfl rfl ?_
                  by_cases c7 : x2 ≤ x1
                  · rw [if_pos c7] at h
                    refine w_icmp_ge_j (n := 116) (off := 11) (by decide +kernel) (by decide) c7 ?_
                    refine w_aload (n := 118) (i := 4) (by decide +kernel) rfl rfl ?_
                    refine w_getI (n := 121) hLM4 (by decide +kernel) oO_101 fF_11_200 (af_X (by decide)) (by decide) rfl ?_
                    subst h
                    exact w_ireturn (by decide +kernel) (w_okI (by decide +kernel))
                  · rw [if_neg c7] at h
                    refine w_icmp_ge_n (n := 108) (off := 11) (by decide +kernel) rfl c7 ?_
                    refine w_aload (n := 110) (i := 4) (by decide +kernel) rfl rfl ?_
                    refine w_getI (n := 113) hLM4 (by decide +kernel) oO_101 fF_11_203 (af_X (by decide)) (by decide) rfl ?_
                    refine w_goto (n := 121) (off := 8) (by decide +kernel) (by decide) ?_
                    subst h
                    exact w_ireturn (by decide +kernel) (w_okI (by decide +kernel))
                · rw [if_neg c14] at h
                  refine w_tsw (n := 122) (d := 82) (lo := 0) (hi := 3) (offs := #[32, 38, 44, 63]) (o := 82) (by decide +kernel) (w_swd (by intro j h1 h2; rcases (show j = 0 ∨ j = 1 ∨ j = 2 ∨ j = 3 by omega) with rfl | rfl | rfl | rfl; all_goals first | exact fun e => c11 (e.trans (by decide)) | exact fun e => c12 (e.trans (by decide)) | exact fun e => c13 (e.trans (by decide)) | exact fun e => c14 (e.trans (by decide)))) (by decide) ?_
                  refine w_aload (n := 124) (i := 4) (by decide +kernel) rfl rfl ?_
                  obtain ⟨v9, M8, hLM8, hr10, h⟩ := h
                  refine w_cV (n := 127) (idx := 206) (cal := 3) (na := 0) (nl := 1) (as := []) (rest := []) hLM4 (by decide +kernel) (by decide +kernel) (af_X (by decide)) (by decide +kernel) rfl rfl rfl (Nat.le_of_ble_eq_true rfl) rfl hr10 ?_
                  subst h
                  exact w_ireturn (by decide +kernel) (w_okI (by decide +kernel))
      · exact w_tS (idx := 144) (cal := 146) (na := 3) (nl := 3) (as := [.int x3, .int 0, .int 4]) (rest := []) (by decide +kernel) (by decide +kernel) rfl rfl rfl (Nat.le_of_ble_eq_true rfl) (by decide +kernel) (by decide +kernel) hr20
    · exact w_tV (idx := 141) (cal := 144) (na := 1) (nl := 2) (as := [.int x2]) (rest := []) hLM1 (by decide +kernel) (by decide +kernel) (at_0) (by decide +kernel) rfl rfl rfl (Nat.le_of_ble_eq_true rfl) (by decide +kernel) (by decide +kernel) hr24
  · exact w_tV (idx := 141) (cal := 144) (na := 1) (nl := 2) (as := [.int x1]) (rest := []) hL (by decide +kernel) (by decide +kernel) (at_0) (by decide +kernel) rfl rfl rfl (Nat.le_of_ble_eq_true rfl) (by decide +kernel) (by decide +kernel) hr28
theorem t_102 {X : ak_X} {M : ak_M} {r : ak_O × ak_M} (hL : ab_lay M) (x1 : Int32) (h : ((∃ (M1 : ak_M), ab_lay M1 ∧ rn X 144 [.ref 0, .int x1] M (.inl (none), M1) ∧ sg X 102 (9, [some (.ref 0), some (.int x1), some (.int 0), some (.int 0)], [], []) M1 r) ∨ ∃ (E3 : Nat) (M4 : ak_M), rn X 144 [.ref 0, .int x1] M (.inr E3, M4) ∧ r = (.inr E3, M4))) : rn X 102 [.ref 0, .int x1] M r := by
  refine w_rn (nL := 4) (l1 := [some (.ref 0), some (.int x1), none, none]) (by decide +kernel) rfl rfl ?_
  refine w_aload_n (n := 1) (i := 0) (by decide +kernel) rfl rfl ?_
  refine w_iload_n (n := 2) (i := 1) (by decide +kernel) rfl rfl ?_
  rcases h with h | ⟨E3, M4, hr5, rfl⟩
  · obtain ⟨M1, hLM1, hr2, h⟩ := h
    refine w_cV (n := 5) (idx := 141) (cal := 144) (na := 1) (nl := 2) (as := [.int x1]) (rest := []) hL (by decide +kernel) (by decide +kernel) (at_0) (by decide +kernel) rfl rfl rfl (Nat.le_of_ble_eq_true rfl) rfl hr2 ?_
    refine w_iconst (n := 6) (v := 0) (x := 0) (by decide +kernel) rfl (by decide) ?_
    refine w_istore_n (n := 7) (i := 2) (l1' := [some (.ref 0), some (.int x1), some (.int 0), none]) (l2' := []) (by decide +kernel) rfl (Nat.le_of_ble_eq_true rfl) rfl rfl ?_
    refine w_iconst (n := 8) (v := 0) (x := 0) (by decide +kernel) rfl (by decide) ?_
    refine w_istore_n (n := 9) (i := 3) (l1' := [some (.ref 0), some (.int x1), some (.int 0), some (.int 0)]) (l2' := []) (by decide +kernel) rfl (Nat.le_of_ble_eq_true rfl) rfl rfl ?_
    exact h
  · exact w_tV (idx := 141) (cal := 144) (na := 1) (nl := 2) (as := [.int x1]) (rest := []) hL (by decide +kernel) (by decide +kernel) (at_0) (by decide +kernel) rfl rfl rfl (Nat.le_of_ble_eq_true rfl) (by decide +kernel) (by decide +kernel) hr5
theorem t_102_9 {X : ak_X} {M : ak_M} {r : ak_O × ak_M} (hL : ab_lay M) (x1 : Int32) (y2 : Int32) (y3 : Int32) (h : (if ak_I M 65 5 ≤ y3 then r = (.inl (some (.int y2)), M) else (∃ (v7 : Int32) (M6 : ak_M), ab_lay M6 ∧ rn X 14 [.ref 65, .int x1, .int y3] M (.inl (some (.int v7)), M6) ∧ (if v7 = 0 then sg X 102 (9, [some (.ref 0), some (.int x1), some (.int y2), some (.int (y3 + 1))], [], []) M6 r else (∀ z8 : Int32, z8 = y2 ||| (1 <<< (y3 &&& 31)) → sg X 102 (9, [some (.ref 0), some (.int x1), some (.int z8), some (.int (y3 + 1))], [], []) M6 r))))) : sg X 102 (9, [some (.ref 0), some (.int x1), some (.int y2), some (.int y3)], [], []) M r := by
  refine w_iload_n (n := 10) (i := 3) (by decide +kernel) rfl rfl ?_
  refine w_aload_n (n := 11) (i := 0) (by decide +kernel) rfl rfl ?_
  refine w_getR (n := 14) hL (by decide +kernel) oO_102 fF_11_42 (at_0) (by decide) (ar_0_4) rfl ?_
  refine w_getI (n := 17) hL (by decide +kernel) oO_102 fF_11_99 (af_F (by decide)) (by decide) rfl ?_
  by_cases c11 : ak_I M 65 5 ≤ y3
  · rw [if_pos c11] at h
    refine w_icmp_ge_j (n := 44) (off := 27) (by decide +kernel) (by decide) c11 ?_
    refine w_iload_n (n := 45) (i := 2) (by decide +kernel) rfl rfl ?_
    subst h
    exact w_ireturn (by decide +kernel) (w_okI (by decide +kernel))
  · rw [if_neg c11] at h
    refine w_icmp_ge_n (n := 20) (off := 27) (by decide +kernel) rfl c11 ?_
    refine w_aload_n (n := 21) (i := 0) (by decide +kernel) rfl rfl ?_
    refine w_getR (n := 24) hL (by decide +kernel) oO_102 fF_11_42 (at_0) (by decide) (ar_0_4) rfl ?_
    refine w_iload_n (n := 25) (i := 1) (by decide +kernel) rfl rfl ?_
    refine w_iload_n (n := 26) (i := 3) (by decide +kernel) rfl rfl ?_
    obtain ⟨v7, M6, hLM6, hr10, h⟩ := h
    refine w_cV (n := 29) (idx := 209) (cal := 14) (na := 2) (nl := 3) (as := [.int x1, .int y3]) (rest := []) hL (by decide +kernel) (by decide +kernel) (af_F (by decide)) (by decide +kernel) rfl rfl rfl (Nat.le_of_ble_eq_true rfl) rfl hr10 ?_
    by_cases c9 : v7 = 0
    · rw [if_pos c9] at h
      refine w_if_eq_j (n := 38) (off := 9) (by decide +kernel) (by decide) c9 ?_
      refine w_iinc (n := 41) (i := 3) (v := 1) (y := y3 + 1) (l1' := [some (.ref 0), some (.int x1), some (.int y2), some (.int (y3 + 1))]) (l2' := []) (by decide +kernel) rfl rfl rfl rfl rfl ?_
      refine w_goto (n := 9) (off := (-32)) (by decide +kernel) (by decide) ?_
      exact h
    · rw [if_neg c9] at h
      refine w_if_eq_n (n := 32) (off := 9) (by decide +kernel) rfl c9 ?_
      refine w_iload_n (n := 33) (i := 2) (by decide +kernel) rfl rfl ?_
      refine w_iconst (n := 34) (v := 1) (x := 1) (by decide +kernel) rfl (by decide) ?_
      refine w_iload_n (n := 35) (i := 3) (by decide +kernel) rfl rfl ?_
      refine w_ishl (n := 36) (by decide +kernel) rfl ?_
      refine w_ior (n := 37) (by decide +kernel) rfl ?_
      refine w_istore_n (n := 38) (i := 2) (l1' := [some (.ref 0), some (.int x1), some (.int (y2 ||| (1 <<< (y3 &&& 31)))), some (.int y3)]) (l2' := []) (by decide +kernel) rfl (Nat.le_of_ble_eq_true rfl) rfl rfl ?_
      generalize ez8 : y2 ||| (1 <<< (y3 &&& 31)) = z8
      replace h := h z8 ez8.symm
      refine w_iinc (n := 41) (i := 3) (v := 1) (y := y3 + 1) (l1' := [some (.ref 0), some (.int x1), some (.int z8), some (.int (y3 + 1))]) (l2' := []) (by decide +kernel) rfl rfl rfl rfl rfl ?_
      refine w_goto (n := 9) (off := (-32)) (by decide +kernel) (by decide) ?_
      exact h
theorem t_103 {X : ak_X} {M : ak_M} {r : ak_O × ak_M} (hL : ab_lay M) (x1 : Int32) (h : ((∃ (M1 : ak_M), ab_lay M1 ∧ rn X 144 [.ref 0, .int x1] M (.inl (none), M1) ∧ sg X 103 (9, [some (.ref 0), some (.int x1), some (.int 0), some (.int 0)], [], []) M1 r) ∨ ∃ (E3 : Nat) (M4 : ak_M), rn X 144 [.ref 0, .int x1] M (.inr E3, M4) ∧ r = (.inr E3, M4))) : rn X 103 [.ref 0, .int x1] M r := by
  refine w_rn (nL := 4) (l1 := [some (.ref 0), some (.int x1), none, none]) (by decide +kernel) rfl rfl ?_
  refine w_aload_n (n := 1) (i := 0) (by decide +kernel) rfl rfl ?_
  refine w_iload_n (n := 2) (i := 1) (by decide +kernel) rfl rfl ?_
  rcases h with h | ⟨E3, M4, hr5, rfl⟩
  · obtain ⟨M1, hLM1, hr2, h⟩ := h
    refine w_cV (n := 5) (idx := 141) (cal := 144) (na := 1) (nl := 2) (as := [.int x1]) (rest := []) hL (by decide +kernel) (by decide +kernel) (at_0) (by decide +kernel) rfl rfl rfl (Nat.le_of_ble_eq_true rfl) rfl hr2 ?_
    refine w_iconst (n := 6) (v := 0) (x := 0) (by decide +kernel) rfl (by decide) ?_
    refine w_istore_n (n := 7) (i := 2) (l1' := [some (.ref 0), some (.int x1), some (.int 0), none]) (l2' := []) (by decide +kernel) rfl (Nat.le_of_ble_eq_true rfl) rfl rfl ?_
    refine w_iconst (n := 8) (v := 0) (x := 0) (by decide +kernel) rfl (by decide) ?_
    refine w_istore_n (n := 9) (i := 3) (l1' := [some (.ref 0), some (.int x1), some (.int 0), some (.int 0)]) (l2' := []) (by decide +kernel) rfl (Nat.le_of_ble_eq_true rfl) rfl rfl ?_
    exact h
  · exact w_tV (idx := 141) (cal := 144) (na := 1) (nl := 2) (as := [.int x1]) (rest := []) hL (by decide +kernel) (by decide +kernel) (at_0) (by decide +kernel) rfl rfl rfl (Nat.le_of_ble_eq_true rfl) (by decide +kernel) (by decide +kernel) hr5
theorem t_103_9 {X : ak_X} {M : ak_M} {r : ak_O × ak_M} (hL : ab_lay M) (x1 : Int32) (y2 : Int32) (y3 : Int32) (h : (if ak_I M 65 5 ≤ y3 then r = (.inl (some (.int y2)), M) else (∃ (v7 : Int32) (M6 : ak_M), ab_lay M6 ∧ rn X 14 [.ref 65, .int x1, .int y3] M (.inl (some (.int v7)), M6) ∧ (if v7 = 0 then sg X 103 (9, [some (.ref 0), some (.int x1), some (.int y2), some (.int (y3 + 1))], [], []) M6 r else (∃ i8 : Nat, i8 < 10 ∧ ab_ix y3 i8 10 ∧ (∃ (v10 : Int32) (M9 : ak_M), ab_lay M9 ∧ rn X 44 [.ref (65 + 6 + i8)] M6 (.inl (some (.int v10)), M9) ∧ sg X 103 (9, [some (.ref 0), some (.int x1), some (.int (y2 + v10)), some (.int (y3 + 1))], [], []) M9 r)))))) : sg X 103 (9, [some (.ref 0), some (.int x1), some (.int y2), some (.int y3)], [], []) M r := by
  refine w_iload_n (n := 10) (i := 3) (by decide +kernel) rfl rfl ?_
  refine w_aload_n (n := 11) (i := 0) (by decide +kernel) rfl rfl ?_
  refine w_getR (n := 14) hL (by decide +kernel) oO_103 fF_11_42 (at_0) (by decide) (ar_0_4) rfl ?_
  refine w_getI (n := 17) hL (by decide +kernel) oO_103 fF_11_99 (af_F (by decide)) (by decide) rfl ?_
  by_cases c14 : ak_I M 65 5 ≤ y3
  · rw [if_pos c14] at h
    refine w_icmp_ge_j (n := 53) (off := 36) (by decide +kernel) (by decide) c14 ?_
    refine w_iload_n (n := 54) (i := 2) (by decide +kernel) rfl rfl ?_
    subst h
    exact w_ireturn (by decide +kernel) (w_okI (by decide +kernel))
  · rw [if_neg c14] at h
    refine w_icmp_ge_n (n := 20) (off := 36) (by decide +kernel) rfl c14 ?_
    refine w_aload_n (n := 21) (i := 0) (by decide +kernel) rfl rfl ?_
    refine w_getR (n := 24) hL (by decide +kernel) oO_103 fF_11_42 (at_0) (by decide) (ar_0_4) rfl ?_
    refine w_iload_n (n := 25) (i := 1) (by decide +kernel) rfl rfl ?_
    refine w_iload_n (n := 26) (i := 3) (by decide +kernel) rfl rfl ?_
    obtain ⟨v7, M6, hLM6, hr13, h⟩ := h
    refine w_cV (n := 29) (idx := 209) (cal := 14) (na := 2) (nl := 3) (as := [.int x1, .int y3]) (rest := []) hL (by decide +kernel) (by decide +kernel) (af_F (by decide)) (by decide +kernel) rfl rfl rfl (Nat.le_of_ble_eq_true rfl) rfl hr13 ?_
    by_cases c12 : v7 = 0
    · rw [if_pos c12] at h
      refine w_if_eq_j (n := 47) (off := 18) (by decide +kernel) (by decide) c12 ?_
      refine w_iinc (n := 50) (i := 3) (v := 1) (y := y3 + 1) (l1' := [some (.ref 0), some (.int x1), some (.int y2), some (.int (y3 + 1))]) (l2' := []) (by decide +kernel) rfl rfl rfl rfl rfl ?_
      refine w_goto (n := 9) (off := (-41)) (by decide +kernel) (by decide) ?_
      exact h
    · rw [if_neg c12] at h
      refine w_if_eq_n (n := 32) (off := 18) (by decide +kernel) rfl c12 ?_
      refine w_iload_n (n := 33) (i := 2) (by decide +kernel) rfl rfl ?_
      refine w_aload_n (n := 34) (i := 0) (by decide +kernel) rfl rfl ?_
      refine w_getR (n := 37) hLM6 (by decide +kernel) oO_103 fF_11_42 (at_0) (by decide) (ar_0_4) rfl ?_
      refine w_getR (n := 40) hLM6 (by decide +kernel) oO_103 fF_11_148 (af_F (by decide)) (by decide) (ag_KA (by decide)) rfl ?_
      refine w_iload_n (n := 41) (i := 3) (by decide +kernel) rfl rfl ?_
      obtain ⟨i8, hi8, gi8, h⟩ := h
      refine w_aald (n := 42) hLM6 (by decide +kernel) (af_KA (by decide)) (by decide) (ax_KA (by decide)) gi8 (ai_KA (by decide) hi8) rfl ?_
      obtain ⟨v10, M9, hLM9, hr11, h⟩ := h
      refine w_cV (n := 45) (idx := 212) (cal := 44) (na := 0) (nl := 1) (as := []) (rest := [.int y2]) hLM6 (by decide +kernel) (by decide +kernel) (af_K (by decide) hi8) (by decide +kernel) rfl rfl rfl (Nat.le_of_ble_eq_true rfl) rfl hr11 ?_
      refine w_iadd (n := 46) (by decide +kernel) rfl ?_
      refine w_istore_n (n := 47) (i := 2) (l1' := [some (.ref 0), some (.int x1), some (.int (y2 + v10)), some (.int y3)]) (l2' := []) (by decide +kernel) rfl (Nat.le_of_ble_eq_true rfl) rfl rfl ?_
      refine w_iinc (n := 50) (i := 3) (v := 1) (y := y3 + 1) (l1' := [some (.ref 0), some (.int x1), some (.int (y2 + v10)), some (.int (y3 + 1))]) (l2' := []) (by decide +kernel) rfl rfl rfl rfl rfl ?_
      refine w_goto (n := 9) (off := (-41)) (by decide +kernel) (by decide) ?_
      exact h
theorem t_105 {X : ak_X} {M : ak_M} {r : ak_O × ak_M} (hL : ab_lay M) (h : sg X 105 (4, [some (.ref 0), some (.int ((-1))), some (.int 0), none], [], []) M r) : rn X 105 [.ref 0] M r := by
  refine w_rn (nL := 4) (l1 := [some (.ref 0), none, none, none]) (by decide +kernel) rfl rfl ?_
  refine w_iconst (n := 1) (v := -1) (x := (-1)) (by decide +kernel) rfl (by decide) ?_
  refine w_istore_n (n := 2) (i := 1) (l1' := [some (.ref 0), some (.int ((-1))), none, none]) (l2' := []) (by decide +kernel) rfl (Nat.le_of_ble_eq_true rfl) rfl rfl ?_
  refine w_iconst (n := 3) (v := 0) (x := 0) (by decide +kernel) rfl (by decide) ?_
  refine w_istore_n (n := 4) (i := 2) (l1' := [some (.ref 0), some (.int ((-1))), some (.int 0), none]) (l2' := []) (by decide +kernel) rfl (Nat.le_of_ble_eq_true rfl) rfl rfl ?_
  exact h
theorem t_105_4 {X : ak_X} {M : ak_M} {r : ak_O × ak_M} (hL : ab_lay M) (y1 : Int32) (y2 : Int32) (o3 : Option Value) (h : (if ak_I M 65 5 ≤ y2 then r = (.inl (some (.int y1)), M) else (∃ i1 : Nat, i1 < 10 ∧ ab_ix y2 i1 10 ∧ (if ak_I M (65 + 6 + i1) 0 = 0 then (if y1 = (-1) then sg X 105 (4, [some (.ref 0), some (.int y2), some (.int (y2 + 1)), some (.ref (65 + 6 + i1))], [], []) M r else (∃ i2 : Nat, i2 < 10 ∧ ab_ix y1 i2 10 ∧ (if ak_I M (65 + 6 + i1) 3 ≤ ak_I M (65 + 6 + i2) 3 then sg X 105 (4, [some (.ref 0), some (.int y1), some (.int (y2 + 1)), some (.ref (65 + 6 + i1))], [], []) M r else sg X 105 (4, [some (.ref 0), some (.int y2), some (.int (y2 + 1)), some (.ref (65 + 6 + i1))], [], []) M r))) else sg X 105 (4, [some (.ref 0), some (.int y1), some (.int (y2 + 1)), some (.ref (65 + 6 + i1))], [], []) M r)))) : sg X 105 (4, [some (.ref 0), some (.int y1), some (.int y2), o3], [], []) M r := by
  refine w_iload_n (n := 5) (i := 2) (by decide +kernel) rfl rfl ?_
  refine w_aload_n (n := 6) (i := 0) (by decide +kernel) rfl rfl ?_
  refine w_getR (n := 9) hL (by decide +kernel) oO_105 fF_11_42 (at_0) (by decide) (ar_0_4) rfl ?_
  refine w_getI (n := 12) hL (by decide +kernel) oO_105 fF_11_99 (af_F (by decide)) (by decide) rfl ?_
  by_cases c6 : ak_I M 65 5 ≤ y2
  · rw [if_pos c6] at h
    refine w_icmp_ge_j (n := 64) (off := 52) (by decide +kernel) (by decide) c6 ?_
    refine w_iload_n (n := 65) (i := 1) (by decide +kernel) rfl rfl ?_
    subst h
    exact w_ireturn (by decide +kernel) (w_okI (by decide +kernel))
  · rw [if_neg c6] at h
    refine w_icmp_ge_n (n := 15) (off := 52) (by decide +kernel) rfl c6 ?_
    refine w_aload_n (n := 16) (i := 0) (by decide +kernel) rfl rfl ?_
    refine w_getR (n := 19) hL (by decide +kernel) oO_105 fF_11_42 (at_0) (by decide) (ar_0_4) rfl ?_
    refine w_getR (n := 22) hL (by decide +kernel) oO_105 fF_11_148 (af_F (by decide)) (by decide) (ag_KA (by decide)) rfl ?_
    refine w_iload_n (n := 23) (i := 2) (by decide +kernel) rfl rfl ?_
    obtain ⟨i1, hi1, gi1, h⟩ := h
    refine w_aald (n := 24) hL (by decide +kernel) (af_KA (by decide)) (by decide) (ax_KA (by decide)) gi1 (ai_KA (by decide) hi1) rfl ?_
    refine w_astore_n (n := 25) (i := 3) (l1' := [some (.ref 0), some (.int y1), some (.int y2), some (.ref (65 + 6 + i1))]) (l2' := []) (by decide +kernel) rfl (Nat.le_of_ble_eq_true rfl) rfl rfl ?_
    refine w_aload_n (n := 26) (i := 3) (by decide +kernel) rfl rfl ?_
    refine w_getI (n := 29) hL (by decide +kernel) oO_105 fF_11_170 (af_K (by decide) hi1) (by decide) rfl ?_
    by_cases c5 : ak_I M (65 + 6 + i1) 0 = 0
    · rw [if_pos c5] at h
      refine w_if_ne_n (n := 32) (off := 29) (by decide +kernel) rfl c5 ?_
      refine w_iload_n (n := 33) (i := 1) (by decide +kernel) rfl rfl ?_
      refine w_iconst (n := 34) (v := -1) (x := (-1)) (by decide +kernel) rfl (by decide) ?_
      by_cases c4 : y1 = (-1)
      · rw [if_pos c4] at h
        refine w_icmp_eq_j (n := 56) (off := 22) (by decide +kernel) (by decide) c4 ?_
        refine w_iload_n (n := 57) (i := 2) (by decide +kernel) rfl rfl ?_
        refine w_istore_n (n := 58) (i := 1) (l1' := [some (.ref 0), some (.int y2), some (.int y2), some (.ref (65 + 6 + i1))]) (l2' := []) (by decide +kernel) rfl (Nat.le_of_ble_eq_true rfl) rfl rfl ?_
        refine w_iinc (n := 61) (i := 2) (v := 1) (y := y2 + 1) (l1' := [some (.ref 0), some (.int y2), some (.int (y2 + 1)), some (.ref (65 + 6 + i1))]) (l2' := []) (by decide +kernel) rfl rfl rfl rfl rfl ?_
        refine w_goto (n := 4) (off := (-57)) (by decide +kernel) (by decide) ?_
        exact h
      · rw [if_neg c4] at h
        refine w_icmp_eq_n (n := 37) (off := 22) (by decide +kernel) rfl c4 ?_
        refine w_aload_n (n := 38) (i := 3) (by decide +kernel) rfl rfl ?_
        refine w_getI (n := 41) hL (by decide +kernel) oO_105 fF_11_229 (af_K (by decide) hi1) (by decide) rfl ?_
        refine w_aload_n (n := 42) (i := 0) (by decide +kernel) rfl rfl ?_
        refine w_getR (n := 45) hL (by decide +kernel) oO_105 fF_11_42 (at_0) (by decide) (ar_0_4) rfl ?_
        refine w_getR (n := 48) hL (by decide +kernel) oO_105 fF_11_148 (af_F (by decide)) (by decide) (ag_KA (by decide)) rfl ?_
        refine w_iload_n (n := 49) (i := 1) (by decide +kernel) rfl rfl ?_
        obtain ⟨i2, hi2, gi2, h⟩ := h
        refine w_aald (n := 50) hL (by decide +kernel) (af_KA (by decide)) (by decide) (ax_KA (by decide)) gi2 (ai_KA (by decide) hi2) rfl ?_
        refine w_getI (n := 53) hL (by decide +kernel) oO_105 fF_11_229 (af_K (by decide) hi2) (by decide) rfl ?_
        by_cases c3 : ak_I M (65 + 6 + i1) 3 ≤ ak_I M (65 + 6 + i2) 3
        · rw [if_pos c3] at h
          refine w_icmp_le_j (n := 58) (off := 5) (by decide +kernel) (by decide) c3 ?_
          refine w_iinc (n := 61) (i := 2) (v := 1) (y := y2 + 1) (l1' := [some (.ref 0), some (.int y1), some (.int (y2 + 1)), some (.ref (65 + 6 + i1))]) (l2' := []) (by decide +kernel) rfl rfl rfl rfl rfl ?_
          refine w_goto (n := 4) (off := (-57)) (by decide +kernel) (by decide) ?_
          exact h
        · rw [if_neg c3] at h
          refine w_icmp_le_n (n := 56) (off := 5) (by decide +kernel) rfl c3 ?_
          refine w_iload_n (n := 57) (i := 2) (by decide +kernel) rfl rfl ?_
          refine w_istore_n (n := 58) (i := 1) (l1' := [some (.ref 0), some (.int y2), some (.int y2), some (.ref (65 + 6 + i1))]) (l2' := []) (by decide +kernel) rfl (Nat.le_of_ble_eq_true rfl) rfl rfl ?_
          refine w_iinc (n := 61) (i := 2) (v := 1) (y := y2 + 1) (l1' := [some (.ref 0), some (.int y2), some (.int (y2 + 1)), some (.ref (65 + 6 + i1))]) (l2' := []) (by decide +kernel) rfl rfl rfl rfl rfl ?_
          refine w_goto (n := 4) (off := (-57)) (by decide +kernel) (by decide) ?_
          exact h
    · rw [if_neg c5] at h
      refine w_if_ne_j (n := 58) (off := 29) (by decide +kernel) (by decide) c5 ?_
      refine w_iinc (n := 61) (i := 2) (v := 1) (y := y2 + 1) (l1' := [some (.ref 0), some (.int y1), some (.int (y2 + 1)), some (.ref (65 + 6 + i1))]) (l2' := []) (by decide +kernel) rfl rfl rfl rfl rfl ?_
      refine w_goto (n := 4) (off := (-57)) (by decide +kernel) (by decide) ?_
      exact h
theorem t_109 {X : ak_X} {M : ak_M} {r : ak_O × ak_M} (hL : ab_lay M) (x1 : Int32) (x2 : Int32) (h : ((∃ (M1 : ak_M), ab_lay M1 ∧ rn X 144 [.ref 0, .int x1] M (.inl (none), M1) ∧ ((∃ (M2 : ak_M), ab_lay M2 ∧ rn X 144 [.ref 0, .int x2] M1 (.inl (none), M2) ∧ (∃ i3 : Nat, i3 < 10 ∧ ab_ix x2 i3 10 ∧ (∃ i4 : Nat, i4 < 10 ∧ ab_ix x1 i4 10 ∧ (∃ (v6 : Int32) (M5 : ak_M), ab_lay M5 ∧ rn X 41 [.ref (65 + 6 + i4), .int (ak_I M2 (65 + 6 + i3) 1), .int (ak_I M2 (65 + 6 + i3) 2), .int (ak_I M2 (65 + 6 + i3) 3)] M2 (.inl (some (.int v6)), M5) ∧ (∃ (v8 : Int32) (M7 : ak_M), ab_lay M7 ∧ rn X 316 [.int 400, .int v6] M5 (.inl (some (.int v8)), M7) ∧ r = (.inl (some (.int v8)), M7)))))) ∨ ∃ (E12 : Nat) (M13 : ak_M), rn X 144 [.ref 0, .int x2] M1 (.inr E12, M13) ∧ r = (.inr E12, M13))) ∨ ∃ (E16 : Nat) (M17 : ak_M), rn X 144 [.ref 0, .int x1] M (.inr E16, M17) ∧ r = (.inr E16, M17))) : rn X 109 [.ref 0, .int x1, .int x2] M r := by
  refine w_rn (nL := 4) (l1 := [some (.ref 0), some (.int x1), some (.int x2), none]) (by decide +kernel) rfl rfl ?_
  refine w_aload_n (n := 1) (i := 0) (by decide +kernel) rfl rfl ?_
  refine w_iload_n (n := 2) (i := 1) (by decide +kernel) rfl rfl ?_
  rcases h with h | ⟨E16, M17, hr18, rfl⟩
  · obtain ⟨M1, hLM1, hr15, h⟩ := h
    refine w_cV (n := 5) (idx := 141) (cal := 144) (na := 1) (nl := 2) (as := [.int x1]) (rest := []) hL (by decide +kernel) (by decide +kernel) (at_0) (by decide +kernel) rfl rfl rfl (Nat.le_of_ble_eq_true rfl) rfl hr15 ?_
    refine w_aload_n (n := 6) (i := 0) (by decide +kernel) rfl rfl ?_
    refine w_iload_n (n := 7) (i := 2) (by decide +kernel) rfl rfl ?_
    rcases h with h | ⟨E12, M13, hr14, rfl⟩
    · obtain ⟨M2, hLM2, hr11, h⟩ := h
      refine w_cV (n := 10) (idx := 141) (cal := 144) (na := 1) (nl := 2) (as := [.int x2]) (rest := []) hLM1 (by decide +kernel) (by decide +kernel) (at_0) (by decide +kernel) rfl rfl rfl (Nat.le_of_ble_eq_true rfl) rfl hr11 ?_
      refine w_aload_n (n := 11) (i := 0) (by decide +kernel) rfl rfl ?_
      refine w_getR (n := 14) hLM2 (by decide +kernel) oO_109 fF_11_42 (at_0) (by decide) (ar_0_4) rfl ?_
      refine w_getR (n := 17) hLM2 (by decide +kernel) oO_109 fF_11_148 (af_F (by decide)) (by decide) (ag_KA (by decide)) rfl ?_
      refine w_iload_n (n := 18) (i := 2) (by decide +kernel) rfl rfl ?_
      obtain ⟨i3, hi3, gi3, h⟩ := h
      refine w_aald (n := 19) hLM2 (by decide +kernel) (af_KA (by decide)) (by decide) (ax_KA (by decide)) gi3 (ai_KA (by decide) hi3) rfl ?_
      refine w_astore_n (n := 20) (i := 3) (l1' := [some (.ref 0), some (.int x1), some (.int x2), some (.ref (65 + 6 + i3))]) (l2' := []) (by decide +kernel) rfl (Nat.le_of_ble_eq_true rfl) rfl rfl ?_
      refine w_sipush (n := 23) (v := 400) (x := 400) (by decide +kernel) rfl (by decide) ?_
      refine w_aload_n (n := 24) (i := 0) (by decide +kernel) rfl rfl ?_
      refine w_getR (n := 27) hLM2 (by decide +kernel) oO_109 fF_11_42 (at_0) (by decide) (ar_0_4) rfl ?_
      refine w_getR (n := 30) hLM2 (by decide +kernel) oO_109 fF_11_148 (af_F (by decide)) (by decide) (ag_KA (by decide)) rfl ?_
      refine w_iload_n (n := 31) (i := 1) (by decide +kernel) rfl rfl ?_
      obtain ⟨i4, hi4, gi4, h⟩ := h
      refine w_aald (n := 32) hLM2 (by decide +kernel) (af_KA (by decide)) (by decide) (ax_KA (by decide)) gi4 (ai_KA (by decide) hi4) rfl ?_
      refine w_aload_n (n := 33) (i := 3) (by decide +kernel) rfl rfl ?_
      refine w_getI (n := 36) hLM2 (by decide +kernel) oO_109 fF_11_239 (af_K (by decide) hi3) (by decide) rfl ?_
      refine w_aload_n (n := 37) (i := 3) (by decide +kernel) rfl rfl ?_
      refine w_getI (n := 40) hLM2 (by decide +kernel) oO_109 fF_11_240 (af_K (by decide) hi3) (by decide) rfl ?_
      refine w_aload_n (n := 41) (i := 3) (by decide +kernel) rfl rfl ?_
      refine w_getI (n := 44) hLM2 (by decide +kernel) oO_109 fF_11_229 (af_K (by decide) hi3) (by decide) rfl ?_
      obtain ⟨v6, M5, hLM5, hr10, h⟩ := h
      refine w_cV (n := 47) (idx := 241) (cal := 41) (na := 3) (nl := 4) (as := [.int (ak_I M2 (65 + 6 + i3) 1), .int (ak_I M2 (65 + 6 + i3) 2), .int (ak_I M2 (65 + 6 + i3) 3)]) (rest := [.int 400]) hLM2 (by decide +kernel) (by decide +kernel) (af_K (by decide) hi4) (by decide +kernel) rfl rfl rfl (Nat.le_of_ble_eq_true rfl) rfl hr10 ?_
      obtain ⟨v8, M7, hLM7, hr9, h⟩ := h
      refine w_cS (n := 50) (idx := 244) (cal := 316) (na := 2) (nl := 2) (as := [.int 400, .int v6]) (rest := []) (by decide +kernel) (by decide +kernel) rfl rfl rfl (Nat.le_of_ble_eq_true rfl) rfl hr9 ?_
      subst h
      exact w_ireturn (by decide +kernel) (w_okI (by decide +kernel))
    · exact w_tV (idx := 141) (cal := 144) (na := 1) (nl := 2) (as := [.int x2]) (rest := []) hLM1 (by decide +kernel) (by decide +kernel) (at_0) (by decide +kernel) rfl rfl rfl (Nat.le_of_ble_eq_true rfl) (by decide +kernel) (by decide +kernel) hr14
  · exact w_tV (idx := 141) (cal := 144) (na := 1) (nl := 2) (as := [.int x1]) (rest := []) hL (by decide +kernel) (by decide +kernel) (at_0) (by decide +kernel) rfl rfl rfl (Nat.le_of_ble_eq_true rfl) (by decide +kernel) (by decide +kernel) hr18
theorem t_112 {X : ak_X} {M : ak_M} {r : ak_O × ak_M} (hL : ab_lay M) (x1 : Int32) (h : ((∃ (M1 : ak_M), ab_lay M1 ∧ rn X 144 [.ref 0, .int x1] M (.inl (none), M1) ∧ sg X 112 (12, [some (.ref 0), some (.int x1), some (.int ((-1))), some (.int 0), some (.int 0), none], [], []) M1 r) ∨ ∃ (E3 : Nat) (M4 : ak_M), rn X 144 [.ref 0, .int x1] M (.inr E3, M4) ∧ r = (.inr E3, M4))) : rn X 112 [.ref 0, .int x1] M r := by
  refine w_rn (nL := 6) (l1 := [some (.ref 0), some (.int x1), none, none, none, none]) (by decide +kernel) rfl rfl ?_
  refine w_aload_n (n := 1) (i := 0) (by decide +kernel) rfl rfl ?_
  refine w_iload_n (n := 2) (i := 1) (by decide +kernel) rfl rfl ?_
  rcases h with h | ⟨E3, M4, hr5, rfl⟩
  · obtain ⟨M1, hLM1, hr2, h⟩ := h
    refine w_cV (n := 5) (idx := 141) (cal := 144) (na := 1) (nl := 2) (as := [.int x1]) (rest := []) hL (by decide +kernel) (by decide +kernel) (at_0) (by decide +kernel) rfl rfl rfl (Nat.le_of_ble_eq_true rfl) rfl hr2 ?_
    refine w_iconst (n := 6) (v := -1) (x := (-1)) (by decide +kernel) rfl (by decide) ?_
    refine w_istore_n (n := 7) (i := 2) (l1' := [some (.ref 0), some (.int x1), some (.int ((-1))), none, none, none]) (l2' := []) (by decide +kernel) rfl (Nat.le_of_ble_eq_true rfl) rfl rfl ?_
    refine w_iconst (n := 8) (v := 0) (x := 0) (by decide +kernel) rfl (by decide) ?_
    refine w_istore_n (n := 9) (i := 3) (l1' := [some (.ref 0), some (.int x1), some (.int ((-1))), some (.int 0), none, none]) (l2' := []) (by decide +kernel) rfl (Nat.le_of_ble_eq_true rfl) rfl rfl ?_
    refine w_iconst (n := 10) (v := 0) (x := 0) (by decide +kernel) rfl (by decide) ?_
    refine w_istore (n := 12) (i := 4) (l1' := [some (.ref 0), some (.int x1), some (.int ((-1))), some (.int 0), some (.int 0), none]) (l2' := []) (by decide +kernel) rfl (Nat.le_of_ble_eq_true rfl) rfl rfl ?_
    exact h
  · exact w_tV (idx := 141) (cal := 144) (na := 1) (nl := 2) (as := [.int x1]) (rest := []) hL (by decide +kernel) (by decide +kernel) (at_0) (by decide +kernel) rfl rfl rfl (Nat.le_of_ble_eq_true rfl) (by decide +kernel) (by decide +kernel) hr5
theorem t_112_12 {X : ak_X} {M : ak_M} {r : ak_O × ak_M} (hL : ab_lay M) (x1 : Int32) (y2 : Int32) (y3 : Int32) (y4 : Int32) (o5 : Option Value) (h : (if ak_I M 65 5 ≤ y4 then r = (.inl (some (.int y2)), M) else (∃ (v7 : Int32) (M6 : ak_M), ab_lay M6 ∧ rn X 14 [.ref 65, .int x1, .int y4] M (.inl (some (.int v7)), M6) ∧ (if v7 = 0 then sg X 112 (12, [some (.ref 0), some (.int x1), some (.int y2), some (.int y3), some (.int (y4 + 1)), o5], [], []) M6 r else (∃ i8 : Nat, i8 < 10 ∧ ab_ix y4 i8 10 ∧ (∃ (v10 : Int32) (M9 : ak_M), ab_lay M9 ∧ rn X 44 [.ref (65 + 6 + i8)] M6 (.inl (some (.int v10)), M9) ∧ (if y2 = (-1) then sg X 112 (12, [some (.ref 0), some (.int x1), some (.int y4), some (.int v10), some (.int (y4 + 1)), some (.int v10)], [], []) M9 r else (if v10 ≤ y3 then sg X 112 (12, [some (.ref 0), some (.int x1), some (.int y2), some (.int y3), some (.int (y4 + 1)), some (.int v10)], [], []) M9 r else sg X 112 (12, [some (.ref 0), some (.int x1), some (.int y4), some (.int v10), some (.int (y4 + 1)), some (.int v10)], [], []) M9 r)))))))) : sg X 112 (12, [some (.ref 0), some (.int x1), some (.int y2), some (.int y3), some (.int y4), o5], [], []) M r := by
  refine w_iload (n := 14) (i := 4) (by decide +kernel) rfl rfl ?_
  refine w_aload_n (n := 15) (i := 0) (by decide +kernel) rfl rfl ?_
  refine w_getR (n := 18) hL (by decide +kernel) oO_112 fF_11_42 (at_0) (by decide) (ar_0_4) rfl ?_
  refine w_getI (n := 21) hL (by decide +kernel) oO_112 fF_11_99 (af_F (by decide)) (by decide) rfl ?_
  by_cases c16 : ak_I M 65 5 ≤ y4
  · rw [if_pos c16] at h
    refine w_icmp_ge_j (n := 75) (off := 54) (by decide +kernel) (by decide) c16 ?_
    refine w_iload_n (n := 76) (i := 2) (by decide +kernel) rfl rfl ?_
    subst h
    exact w_ireturn (by decide +kernel) (w_okI (by decide +kernel))
  · rw [if_neg c16] at h
    refine w_icmp_ge_n (n := 24) (off := 54) (by decide +kernel) rfl c16 ?_
    refine w_aload_n (n := 25) (i := 0) (by decide +kernel) rfl rfl ?_
    refine w_getR (n := 28) hL (by decide +kernel) oO_112 fF_11_42 (at_0) (by decide) (ar_0_4) rfl ?_
    refine w_iload_n (n := 29) (i := 1) (by decide +kernel) rfl rfl ?_
    refine w_iload (n := 31) (i := 4) (by decide +kernel) rfl rfl ?_
    obtain ⟨v7, M6, hLM6, hr15, h⟩ := h
    refine w_cV (n := 34) (idx := 209) (cal := 14) (na := 2) (nl := 3) (as := [.int x1, .int y4]) (rest := []) hL (by decide +kernel) (by decide +kernel) (af_F (by decide)) (by decide +kernel) rfl rfl rfl (Nat.le_of_ble_eq_true rfl) rfl hr15 ?_
    by_cases c14 : v7 = 0
    · rw [if_pos c14] at h
      refine w_if_eq_j (n := 69) (off := 35) (by decide +kernel) (by decide) c14 ?_
      refine w_iinc (n := 72) (i := 4) (v := 1) (y := y4 + 1) (l1' := [some (.ref 0), some (.int x1), some (.int y2), some (.int y3), some (.int (y4 + 1)), o5]) (l2' := []) (by decide +kernel) rfl rfl rfl rfl rfl ?_
      refine w_goto (n := 12) (off := (-60)) (by decide +kernel) (by decide) ?_
      exact h
    · rw [if_neg c14] at h
      refine w_if_eq_n (n := 37) (off := 35) (by decide +kernel) rfl c14 ?_
      refine w_aload_n (n := 38) (i := 0) (by decide +kernel) rfl rfl ?_
      refine w_getR (n := 41) hLM6 (by decide +kernel) oO_112 fF_11_42 (at_0) (by decide) (ar_0_4) rfl ?_
      refine w_getR (n := 44) hLM6 (by decide +kernel) oO_112 fF_11_148 (af_F (by decide)) (by decide) (ag_KA (by decide)) rfl ?_
      refine w_iload (n := 46) (i := 4) (by decide +kernel) rfl rfl ?_
      obtain ⟨i8, hi8, gi8, h⟩ := h
      refine w_aald (n := 47) hLM6 (by decide +kernel) (af_KA (by decide)) (by decide) (ax_KA (by decide)) gi8 (ai_KA (by decide) hi8) rfl ?_
      obtain ⟨v10, M9, hLM9, hr13, h⟩ := h
      refine w_cV (n := 50) (idx := 212) (cal := 44) (na := 0) (nl := 1) (as := []) (rest := []) hLM6 (by decide +kernel) (by decide +kernel) (af_K (by decide) hi8) (by decide +kernel) rfl rfl rfl (Nat.le_of_ble_eq_true rfl) rfl hr13 ?_
      refine w_istore (n := 52) (i := 5) (l1' := [some (.ref 0), some (.int x1), some (.int y2), some (.int y3), some (.int y4), some (.int v10)]) (l2' := []) (by decide +kernel) rfl (Nat.le_of_ble_eq_true rfl) rfl rfl ?_
      refine w_iload_n (n := 53) (i := 2) (by decide +kernel) rfl rfl ?_
      refine w_iconst (n := 54) (v := -1) (x := (-1)) (by decide +kernel) rfl (by decide) ?_
      by_cases c12 : y2 = (-1)
      · rw [if_pos c12] at h
        refine w_icmp_eq_j (n := 63) (off := 9) (by decide +kernel) (by decide) c12 ?_
        refine w_iload (n := 65) (i := 4) (by decide +kernel) rfl rfl ?_
        refine w_istore_n (n := 66) (i := 2) (l1' := [some (.ref 0), some (.int x1), some (.int y4), some (.int y3), some (.int y4), some (.int v10)]) (l2' := []) (by decide +kernel) rfl (Nat.le_of_ble_eq_true rfl) rfl rfl ?_
        refine w_iload (n := 68) (i := 5) (by decide +kernel) rfl rfl ?_
        refine w_istore_n (n := 69) (i := 3) (l1' := [some (.ref 0), some (.int x1), some (.int y4), some (.int v10), some (.int y4), some (.int v10)]) (l2' := []) (by decide +kernel) rfl (Nat.le_of_ble_eq_true rfl) rfl rfl ?_
        refine w_iinc (n := 72) (i := 4) (v := 1) (y := y4 + 1) (l1' := [some (.ref 0), some (.int x1), some (.int y4), some (.int v10), some (.int (y4 + 1)), some (.int v10)]) (l2' := []) (by decide +kernel) rfl rfl rfl rfl rfl ?_
        refine w_goto (n := 12) (off := (-60)) (by decide +kernel) (by decide) ?_
        exact h
      · rw [if_neg c12] at h
        refine w_icmp_eq_n (n := 57) (off := 9) (by decide +kernel) rfl c12 ?_
        refine w_iload (n := 59) (i := 5) (by decide +kernel) rfl rfl ?_
        refine w_iload_n (n := 60) (i := 3) (by decide +kernel) rfl rfl ?_
        by_cases c11 : v10 ≤ y3
        · rw [if_pos c11] at h
          refine w_icmp_le_j (n := 69) (off := 9) (by decide +kernel) (by decide) c11 ?_
          refine w_iinc (n := 72) (i := 4) (v := 1) (y := y4 + 1) (l1' := [some (.ref 0), some (.int x1), some (.int y2), some (.int y3), some (.int (y4 + 1)), some (.int v10)]) (l2' := []) (by decide +kernel) rfl rfl rfl rfl rfl ?_
          refine w_goto (n := 12) (off := (-60)) (by decide +kernel) (by decide) ?_
          exact h
        · rw [if_neg c11] at h
          refine w_icmp_le_n (n := 63) (off := 9) (by decide +kernel) rfl c11 ?_
          refine w_iload (n := 65) (i := 4) (by decide +kernel) rfl rfl ?_
          refine w_istore_n (n := 66) (i := 2) (l1' := [some (.ref 0), some (.int x1), some (.int y4), some (.int y3), some (.int y4), some (.int v10)]) (l2' := []) (by decide +kernel) rfl (Nat.le_of_ble_eq_true rfl) rfl rfl ?_
          refine w_iload (n := 68) (i := 5) (by decide +kernel) rfl rfl ?_
          refine w_istore_n (n := 69) (i := 3) (l1' := [some (.ref 0), some (.int x1), some (.int y4), some (.int v10), some (.int y4), some (.int v10)]) (l2' := []) (by decide +kernel) rfl (Nat.le_of_ble_eq_true rfl) rfl rfl ?_
          refine w_iinc (n := 72) (i := 4) (v := 1) (y := y4 + 1) (l1' := [some (.ref 0), some (.int x1), some (.int y4), some (.int v10), some (.int (y4 + 1)), some (.int v10)]) (l2' := []) (by decide +kernel) rfl rfl rfl rfl rfl ?_
          refine w_goto (n := 12) (off := (-60)) (by decide +kernel) (by decide) ?_
          exact h
theorem t_113 {X : ak_X} {M : ak_M} {r : ak_O × ak_M} (hL : ab_lay M) (x1 : Int32) (h : ((∃ (M1 : ak_M), ab_lay M1 ∧ rn X 146 [.int x1, .int 0, .int 13] M (.inl (none), M1) ∧ sg X 113 (11, [some (.ref 0), some (.int x1), some (.int 0), some (.int 0)], [], []) M1 r) ∨ ∃ (E3 : Nat) (M4 : ak_M), rn X 146 [.int x1, .int 0, .int 13] M (.inr E3, M4) ∧ r = (.inr E3, M4))) : rn X 113 [.ref 0, .int x1] M r := by
  refine w_rn (nL := 4) (l1 := [some (.ref 0), some (.int x1), none, none]) (by decide +kernel) rfl rfl ?_
  refine w_iload_n (n := 1) (i := 1) (by decide +kernel) rfl rfl ?_
  refine w_iconst (n := 2) (v := 0) (x := 0) (by decide +kernel) rfl (by decide) ?_
  refine w_bipush (n := 4) (v := 13) (x := 13) (by decide +kernel) rfl (by decide) ?_
  rcases h with h | ⟨E3, M4, hr5, rfl⟩
  · obtain ⟨M1, hLM1, hr2, h⟩ := h
    refine w_cS (n := 7) (idx := 144) (cal := 146) (na := 3) (nl := 3) (as := [.int x1, .int 0, .int 13]) (rest := []) (by decide +kernel) (by decide +kernel) rfl rfl rfl (Nat.le_of_ble_eq_true rfl) rfl hr2 ?_
    refine w_iconst (n := 8) (v := 0) (x := 0) (by decide +kernel) rfl (by decide) ?_
    refine w_istore_n (n := 9) (i := 2) (l1' := [some (.ref 0), some (.int x1), some (.int 0), none]) (l2' := []) (by decide +kernel) rfl (Nat.le_of_ble_eq_true rfl) rfl rfl ?_
    refine w_iconst (n := 10) (v := 0) (x := 0) (by decide +kernel) rfl (by decide) ?_
    refine w_istore_n (n := 11) (i := 3) (l1' := [some (.ref 0), some (.int x1), some (.int 0), some (.int 0)]) (l2' := []) (by decide +kernel) rfl (Nat.le_of_ble_eq_true rfl) rfl rfl ?_
    exact h
  · exact w_tS (idx := 144) (cal := 146) (na := 3) (nl := 3) (as := [.int x1, .int 0, .int 13]) (rest := []) (by decide +kernel) (by decide +kernel) rfl rfl rfl (Nat.le_of_ble_eq_true rfl) (by decide +kernel) (by decide +kernel) hr5
theorem t_113_11 {X : ak_X} {M : ak_M} {r : ak_O × ak_M} (hL : ab_lay M) (x1 : Int32) (y2 : Int32) (y3 : Int32) (h : (if ak_I M 65 5 ≤ y3 then r = (.inl (some (.int y2)), M) else (∃ i6 : Nat, i6 < 10 ∧ ab_ix y3 i6 10 ∧ (∃ (v8 : Int32) (M7 : ak_M), ab_lay M7 ∧ rn X 39 [.ref (65 + 6 + i6), .int x1] M (.inl (some (.int v8)), M7) ∧ sg X 113 (11, [some (.ref 0), some (.int x1), some (.int (y2 + v8)), some (.int (y3 + 1))], [], []) M7 r)))) : sg X 113 (11, [some (.ref 0), some (.int x1), some (.int y2), some (.int y3)], [], []) M r := by
  refine w_iload_n (n := 12) (i := 3) (by decide +kernel) rfl rfl ?_
  refine w_aload_n (n := 13) (i := 0) (by decide +kernel) rfl rfl ?_
  refine w_getR (n := 16) hL (by decide +kernel) oO_113 fF_11_42 (at_0) (by decide) (ar_0_4) rfl ?_
  refine w_getI (n := 19) hL (by decide +kernel) oO_113 fF_11_99 (af_F (by decide)) (by decide) rfl ?_
  by_cases c10 : ak_I M 65 5 ≤ y3
  · rw [if_pos c10] at h
    refine w_icmp_ge_j (n := 44) (off := 25) (by decide +kernel) (by decide) c10 ?_
    refine w_iload_n (n := 45) (i := 2) (by decide +kernel) rfl rfl ?_
    subst h
    exact w_ireturn (by decide +kernel) (w_okI (by decide +kernel))
  · rw [if_neg c10] at h
    refine w_icmp_ge_n (n := 22) (off := 25) (by decide +kernel) rfl c10 ?_
    refine w_iload_n (n := 23) (i := 2) (by decide +kernel) rfl rfl ?_
    refine w_aload_n (n := 24) (i := 0) (by decide +kernel) rfl rfl ?_
    refine w_getR (n := 27) hL (by decide +kernel) oO_113 fF_11_42 (at_0) (by decide) (ar_0_4) rfl ?_
    refine w_getR (n := 30) hL (by decide +kernel) oO_113 fF_11_148 (af_F (by decide)) (by decide) (ag_KA (by decide)) rfl ?_
    refine w_iload_n (n := 31) (i := 3) (by decide +kernel) rfl rfl ?_
    obtain ⟨i6, hi6, gi6, h⟩ := h
    refine w_aald (n := 32) hL (by decide +kernel) (af_KA (by decide)) (by decide) (ax_KA (by decide)) gi6 (ai_KA (by decide) hi6) rfl ?_
    refine w_iload_n (n := 33) (i := 1) (by decide +kernel) rfl rfl ?_
    obtain ⟨v8, M7, hLM7, hr9, h⟩ := h
    refine w_cV (n := 36) (idx := 152) (cal := 39) (na := 1) (nl := 2) (as := [.int x1]) (rest := [.int y2]) hL (by decide +kernel) (by decide +kernel) (af_K (by decide) hi6) (by decide +kernel) rfl rfl rfl (Nat.le_of_ble_eq_true rfl) rfl hr9 ?_
    refine w_iadd (n := 37) (by decide +kernel) rfl ?_
    refine w_istore_n (n := 38) (i := 2) (l1' := [some (.ref 0), some (.int x1), some (.int (y2 + v8)), some (.int y3)]) (l2' := []) (by decide +kernel) rfl (Nat.le_of_ble_eq_true rfl) rfl rfl ?_
    refine w_iinc (n := 41) (i := 3) (v := 1) (y := y3 + 1) (l1' := [some (.ref 0), some (.int x1), some (.int (y2 + v8)), some (.int (y3 + 1))]) (l2' := []) (by decide +kernel) rfl rfl rfl rfl rfl ?_
    refine w_goto (n := 11) (off := (-30)) (by decide +kernel) (by decide) ?_
    exact h
theorem t_115 {X : ak_X} {M : ak_M} {r : ak_O × ak_M} (hL : ab_lay M) (x1 : Int32) (x2 : Int32) (x3 : Int32) (x4 : Int32) (h : ((∃ (M1 : ak_M), ab_lay M1 ∧ rn X 146 [.int x1, .int 0, .int 199] M (.inl (none), M1) ∧ ((∃ (M2 : ak_M), ab_lay M2 ∧ rn X 146 [.int x2, .int 0, .int 199] M1 (.inl (none), M2) ∧ ((∃ (M3 : ak_M), ab_lay M3 ∧ rn X 146 [.int x3, .int x1, .int 199] M2 (.inl (none), M3) ∧ ((∃ (M4 : ak_M), ab_lay M4 ∧ rn X 146 [.int x4, .int x2, .int 199] M3 (.inl (none), M4) ∧ sg X 115 (39, [some (.ref 0), some (.int x1), some (.int x2), some (.int x3), some (.int x4), some (.int 0), some (.int 0)], [], []) M4 r) ∨ ∃ (E6 : Nat) (M7 : ak_M), rn X 146 [.int x4, .int x2, .int 199] M3 (.inr E6, M7) ∧ r = (.inr E6, M7))) ∨ ∃ (E10 : Nat) (M11 : ak_M), rn X 146 [.int x3, .int x1, .int 199] M2 (.inr E10, M11) ∧ r = (.inr E10, M11))) ∨ ∃ (E14 : Nat) (M15 : ak_M), rn X 146 [.int x2, .int 0, .int 199] M1 (.inr E14, M15) ∧ r = (.inr E14, M15))) ∨ ∃ (E18 : Nat) (M19 : ak_M), rn X 146 [.int x1, .int 0, .int 199] M (.inr E18, M19) ∧ r = (.inr E18, M19))) : rn X 115 [.ref 0, .int x1, .int x2, .int x3, .int x4] M r := by
  refine w_rn (nL := 7) (l1 := [some (.ref 0), some (.int x1), some (.int x2), some (.int x3), some (.int x4), none, none]) (by decide +kernel) rfl rfl ?_
  refine w_iload_n (n := 1) (i := 1) (by decide +kernel) rfl rfl ?_
  refine w_iconst (n := 2) (v := 0) (x := 0) (by decide +kernel) rfl (by decide) ?_
  refine w_sipush (n := 5) (v := 199) (x := 199) (by decide +kernel) rfl (by decide) ?_
  rcases h with h | ⟨E18, M19, hr20, rfl⟩
  · obtain ⟨M1, hLM1, hr17, h⟩ := h
    refine w_cS (n := 8) (idx := 144) (cal := 146) (na := 3) (nl := 3) (as := [.int x1, .int 0, .int 199]) (rest := []) (by decide +kernel) (by decide +kernel) rfl rfl rfl (Nat.le_of_ble_eq_true rfl) rfl hr17 ?_
    refine w_iload_n (n := 9) (i := 2) (by decide +kernel) rfl rfl ?_
    refine w_iconst (n := 10) (v := 0) (x := 0) (by decide +kernel) rfl (by decide) ?_
    refine w_sipush (n := 13) (v := 199) (x := 199) (by decide +kernel) rfl (by decide) ?_
    rcases h with h | ⟨E14, M15, hr16, rfl⟩
    · obtain ⟨M2, hLM2, hr13, h⟩ := h
      refine w_cS (n := 16) (idx := 144) (cal := 146) (na := 3) (nl := 3) (as := [.int x2, .int 0, .int 199]) (rest := []) (by decide +kernel) (by decide +kernel) rfl rfl rfl (Nat.le_of_ble_eq_true rfl) rfl hr13 ?_
      refine w_iload_n (n := 17) (i := 3) (by decide +kernel) rfl rfl ?_
      refine w_iload_n (n := 18) (i := 1) (by decide +kernel) rfl rfl ?_
      refine w_sipush (n := 21) (v := 199) (x := 199) (by decide +kernel) rfl (by decide) ?_
      rcases h with h | ⟨E10, M11, hr12, rfl⟩
      · obtain ⟨M3, hLM3, hr9, h⟩ := h
        refine w_cS (n := 24) (idx := 144) (cal := 146) (na := 3) (nl := 3) (as := [.int x3, .int x1, .int 199]) (rest := []) (by decide +kernel) (by decide +kernel) rfl rfl rfl (Nat.le_of_ble_eq_true rfl) rfl hr9 ?_
        refine w_iload (n := 26) (i := 4) (by decide +kernel) rfl rfl ?_
        refine w_iload_n (n := 27) (i := 2) (by decide +kernel) rfl rfl ?_
        refine w_sipush (n := 30) (v := 199) (x := 199) (by decide +kernel) rfl (by decide) ?_
        rcases h with h | ⟨E6, M7, hr8, rfl⟩
        · obtain ⟨M4, hLM4, hr5, h⟩ := h
          refine w_cS (n := 33) (idx := 144) (cal := 146) (na := 3) (nl := 3) (as := [.int x4, .int x2, .int 199]) (rest := []) (by decide +kernel) (by decide +kernel) rfl rfl rfl (Nat.le_of_ble_eq_true rfl) rfl hr5 ?_
          refine w_iconst (n := 34) (v := 0) (x := 0) (by decide +kernel) rfl (by decide) ?_
          refine w_istore (n := 36) (i := 5) (l1' := [some (.ref 0), some (.int x1), some (.int x2), some (.int x3), some (.int x4), some (.int 0), none]) (l2' := []) (by decide +kernel) rfl (Nat.le_of_ble_eq_true rfl) rfl rfl ?_
          refine w_iconst (n := 37) (v := 0) (x := 0) (by decide +kernel) rfl (by decide) ?_
          refine w_istore (n := 39) (i := 6) (l1' := [some (.ref 0), some (.int x1), some (.int x2), some (.int x3), some (.int x4), some (.int 0), some (.int 0)]) (l2' := []) (by decide +kernel) rfl (Nat.le_of_ble_eq_true rfl) rfl rfl ?_
          exact h
        · exact w_tS (idx := 144) (cal := 146) (na := 3) (nl := 3) (as := [.int x4, .int x2, .int 199]) (rest := []) (by decide +kernel) (by decide +kernel) rfl rfl rfl (Nat.le_of_ble_eq_true rfl) (by decide +kernel) (by decide +kernel) hr8
      · exact w_tS (idx := 144) (cal := 146) (na := 3) (nl := 3) (as := [.int x3, .int x1, .int 199]) (rest := []) (by decide +kernel) (by decide +kernel) rfl rfl rfl (Nat.le_of_ble_eq_true rfl) (by decide +kernel) (by decide +kernel) hr12
    · exact w_tS (idx := 144) (cal := 146) (na := 3) (nl := 3) (as := [.int x2, .int 0, .int 199]) (rest := []) (by decide +kernel) (by decide +kernel) rfl rfl rfl (Nat.le_of_ble_eq_true rfl) (by decide +kernel) (by decide +kernel) hr16
  · exact w_tS (idx := 144) (cal := 146) (na := 3) (nl := 3) (as := [.int x1, .int 0, .int 199]) (rest := []) (by decide +kernel) (by decide +kernel) rfl rfl rfl (Nat.le_of_ble_eq_true rfl) (by decide +kernel) (by decide +kernel) hr20
theorem t_115_39 {X : ak_X} {M : ak_M} {r : ak_O × ak_M} (hL : ab_lay M) (x1 : Int32) (x2 : Int32) (x3 : Int32) (x4 : Int32) (y5 : Int32) (y6 : Int32) (h : (if ak_I M 65 5 ≤ y6 then r = (.inl (some (.int y5)), M) else (∃ i21 : Nat, i21 < 10 ∧ ab_ix y6 i21 10 ∧ (∃ (v23 : Int32) (M22 : ak_M), ab_lay M22 ∧ rn X 151 [.int (ak_I M (65 + 6 + i21) 1), .int x1, .int x3] M (.inl (some (.int v23)), M22) ∧ (if v23 = 0 then sg X 115 (39, [some (.ref 0), some (.int x1), some (.int x2), some (.int x3), some (.int x4), some (.int y5), some (.int (y6 + 1))], [], []) M22 r else (∃ i24 : Nat, i24 < 10 ∧ ab_ix y6 i24 10 ∧ (∃ (v26 : Int32) (M25 : ak_M), ab_lay M25 ∧ rn X 151 [.int (ak_I M22 (65 + 6 + i24) 2), .int x2, .int x4] M22 (.inl (some (.int v26)), M25) ∧ (if v26 = 0 then sg X 115 (39, [some (.ref 0), some (.int x1), some (.int x2), some (.int x3), some (.int x4), some (.int y5), some (.int (y6 + 1))], [], []) M25 r else (∀ z27 : Int32, z27 = y5 ||| (1 <<< (y6 &&& 31)) → sg X 115 (39, [some (.ref 0), some (.int x1), some (.int x2), some (.int x3), some (.int x4), some (.int z27), some (.int (y6 + 1))], [], []) M25 r))))))))) : sg X 115 (39, [some (.ref 0), some (.int x1), some (.int x2), some (.int x3), some (.int x4), some (.int y5), some (.int y6)], [], []) M r := by
  refine w_iload (n := 41) (i := 6) (by decide +kernel) rfl rfl ?_
  refine w_aload_n (n := 42) (i := 0) (by decide +kernel) rfl rfl ?_
  refine w_getR (n := 45) hL (by decide +kernel) oO_115 fF_11_42 (at_0) (by decide) (ar_0_4) rfl ?_
  refine w_getI (n := 48) hL (by decide +kernel) oO_115 fF_11_99 (af_F (by decide)) (by decide) rfl ?_
  by_cases c32 : ak_I M 65 5 ≤ y6
  · rw [if_pos c32] at h
    refine w_icmp_ge_j (n := 109) (off := 61) (by decide +kernel) (by decide) c32 ?_
    refine w_iload (n := 111) (i := 5) (by decide +kernel) rfl rfl ?_
    subst h
    exact w_ireturn (by decide +kernel) (w_okI (by decide +kernel))
  · rw [if_neg c32] at h
    refine w_icmp_ge_n (n := 51) (off := 61) (by decide +kernel) rfl c32 ?_
    refine w_aload_n (n := 52) (i := 0) (by decide +kernel) rfl rfl ?_
    refine w_getR (n := 55) hL (by decide +kernel) oO_115 fF_11_42 (at_0) (by decide) (ar_0_4) rfl ?_
    refine w_getR (n := 58) hL (by decide +kernel) oO_115 fF_11_148 (af_F (by decide)) (by decide) (ag_KA (by decide)) rfl ?_
    refine w_iload (n := 60) (i := 6) (by decide +kernel) rfl rfl ?_
    obtain ⟨i21, hi21, gi21, h⟩ := h
    refine w_aald (n := 61) hL (by decide +kernel) (af_KA (by decide)) (by decide) (ax_KA (by decide)) gi21 (ai_KA (by decide) hi21) rfl ?_
    refine w_getI (n := 64) hL (by decide +kernel) oO_115 fF_11_239 (af_K (by decide) hi21) (by decide) rfl ?_
    refine w_iload_n (n := 65) (i := 1) (by decide +kernel) rfl rfl ?_
    refine w_iload_n (n := 66) (i := 3) (by decide +kernel) rfl rfl ?_
    obtain ⟨v23, M22, hLM22, hr31, h⟩ := h
    refine w_cS (n := 69) (idx := 125) (cal := 151) (na := 3) (nl := 3) (as := [.int (ak_I M (65 + 6 + i21) 1), .int x1, .int x3]) (rest := []) (by decide +kernel) (by decide +kernel) rfl rfl rfl (Nat.le_of_ble_eq_true rfl) rfl hr31 ?_
    by_cases c30 : v23 = 0
    · rw [if_pos c30] at h
      refine w_if_eq_j (n := 103) (off := 34) (by decide +kernel) (by decide) c30 ?_
      refine w_iinc (n := 106) (i := 6) (v := 1) (y := y6 + 1) (l1' := [some (.ref 0), some (.int x1), some (.int x2), some (.int x3), some (.int x4), some (.int y5), some (.int (y6 + 1))]) (l2' := []) (by decide +kernel) rfl rfl rfl rfl rfl ?_
      refine w_goto (n := 39) (off := (-67)) (by decide +kernel) (by decide) ?_
      exact h
    · rw [if_neg c30] at h
      refine w_if_eq_n (n := 72) (off := 34) (by decide +kernel) rfl c30 ?_
      refine w_aload_n (n := 73) (i := 0) (by decide +kernel) rfl rfl ?_
      refine w_getR (n := 76) hLM22 (by decide +kernel) oO_115 fF_11_42 (at_0) (by decide) (ar_0_4) rfl ?_
      refine w_getR (n := 79) hLM22 (by decide +kernel) oO_115 fF_11_148 (af_F (by decide)) (by decide) (ag_KA (by decide)) rfl ?_
      refine w_iload (n := 81) (i := 6) (by decide +kernel) rfl rfl ?_
      obtain ⟨i24, hi24, gi24, h⟩ := h
      refine w_aald (n := 82) hLM22 (by decide +kernel) (af_KA (by decide)) (by decide) (ax_KA (by decide)) gi24 (ai_KA (by decide) hi24) rfl ?_
      refine w_getI (n := 85) hLM22 (by decide +kernel) oO_115 fF_11_240 (af_K (by decide) hi24) (by decide) rfl ?_
      refine w_iload_n (n := 86) (i := 2) (by decide +kernel) rfl rfl ?_
      refine w_iload (n := 88) (i := 4) (by decide +kernel) rfl rfl ?_
      obtain ⟨v26, M25, hLM25, hr29, h⟩ := h
      refine w_cS (n := 91) (idx := 125) (cal := 151) (na := 3) (nl := 3) (as := [.int (ak_I M22 (65 + 6 + i24) 2), .int x2, .int x4]) (rest := []) (by decide +kernel) (by decide +kernel) rfl rfl rfl (Nat.le_of_ble_eq_true rfl) rfl hr29 ?_
      by_cases c28 : v26 = 0
      · rw [if_pos c28] at h
        refine w_if_eq_j (n := 103) (off := 12) (by decide +kernel) (by decide) c28 ?_
        refine w_iinc (n := 106) (i := 6) (v := 1) (y := y6 + 1) (l1' := [some (.ref 0), some (.int x1), some (.int x2), some (.int x3), some (.int x4), some (.int y5), some (.int (y6 + 1))]) (l2' := []) (by decide +kernel) rfl rfl rfl rfl rfl ?_
        refine w_goto (n := 39) (off := (-67)) (by decide +kernel) (by decide) ?_
        exact h
      · rw [if_neg c28] at h
        refine w_if_eq_n (n := 94) (off := 12) (by decide +kernel) rfl c28 ?_
        refine w_iload (n := 96) (i := 5) (by decide +kernel) rfl rfl ?_
        refine w_iconst (n := 97) (v := 1) (x := 1) (by decide +kernel) rfl (by decide) ?_
        refine w_iload (n := 99) (i := 6) (by decide +kernel) rfl rfl ?_
        refine w_ishl (n := 100) (by decide +kernel) rfl ?_
        refine w_ior (n := 101) (by decide +kernel) rfl ?_
        refine w_istore (n := 103) (i := 5) (l1' := [some (.ref 0), some (.int x1), some (.int x2), some (.int x3), some (.int x4), some (.int (y5 ||| (1 <<< (y6 &&& 31)))), some (.int y6)]) (l2' := []) (by decide +kernel) rfl (Nat.le_of_ble_eq_true rfl) rfl rfl ?_
        generalize ez27 : y5 ||| (1 <<< (y6 &&& 31)) = z27
        replace h := h z27 ez27.symm
        refine w_iinc (n := 106) (i := 6) (v := 1) (y := y6 + 1) (l1' := [some (.ref 0), some (.int x1), some (.int x2), some (.int x3), some (.int x4), some (.int z27), some (.int (y6 + 1))]) (l2' := []) (by decide +kernel) rfl rfl rfl rfl rfl ?_
        refine w_goto (n := 39) (off := (-67)) (by decide +kernel) (by decide) ?_
        exact h
theorem t_119 {X : ak_X} {M : ak_M} {r : ak_O × ak_M} (hL : ab_lay M) (x1 : Int32) (x2 : Int32) (x3 : Int32) (h : ((∃ (M1 : ak_M), ab_lay M1 ∧ rn X 144 [.ref 0, .int x1] M (.inl (none), M1) ∧ ((∃ (M2 : ak_M), ab_lay M2 ∧ rn X 146 [.int x2, .int 0, .int 13] M1 (.inl (none), M2) ∧ ((∃ (M3 : ak_M), ab_lay M3 ∧ rn X 146 [.int x3, .int 1, .int 100] M2 (.inl (none), M3) ∧ (∃ (M4 : ak_M), ab_lay M4 ∧ rn X 10 [.ref 97, .ref 65] M3 (.inl (none), M4) ∧ (∃ (M5 : ak_M), ab_lay M5 ∧ rn X 20 [.ref 97, .int x3] M4 (.inl (none), M5) ∧ (∃ i6 : Nat, i6 < 10 ∧ ab_ix x1 i6 10 ∧ (∃ (v8 : Int32) (M7 : ak_M), ab_lay M7 ∧ rn X 39 [.ref (97 + 6 + i6), .int x2] M5 (.inl (some (.int v8)), M7) ∧ r = (.inl (some (.int v8)), M7)))))) ∨ ∃ (E13 : Nat) (M14 : ak_M), rn X 146 [.int x3, .int 1, .int 100] M2 (.inr E13, M14) ∧ r = (.inr E13, M14))) ∨ ∃ (E17 : Nat) (M18 : ak_M), rn X 146 [.int x2, .int 0, .int 13] M1 (.inr E17, M18) ∧ r = (.inr E17, M18))) ∨ ∃ (E21 : Nat) (M22 : ak_M), rn X 144 [.ref 0, .int x1] M (.inr E21, M22) ∧ r = (.inr E21, M22))) : rn X 119 [.ref 0, .int x1, .int x2, .int x3] M r := by
  refine w_rn (nL := 4) (l1 := [some (.ref 0), some (.int x1), some (.int x2), some (.int x3)]) (by decide +kernel) rfl rfl ?_
  refine w_aload_n (n := 1) (i := 0) (by decide +kernel) rfl rfl ?_
  refine w_iload_n (n := 2) (i := 1) (by decide +kernel) rfl rfl ?_
  rcases h with h | ⟨E21, M22, hr23, rfl⟩
  · obtain ⟨M1, hLM1, hr20, h⟩ := h
    refine w_cV (n := 5) (idx := 141) (cal := 144) (na := 1) (nl := 2) (as := [.int x1]) (rest := []) hL (by decide +kernel) (by decide +kernel) (at_0) (by decide +kernel) rfl rfl rfl (Nat.le_of_ble_eq_true rfl) rfl hr20 ?_
    refine w_iload_n (n := 6) (i := 2) (by decide +kernel) rfl rfl ?_
    refine w_iconst (n := 7) (v := 0) (x := 0) (by decide +kernel) rfl (by decide) ?_
    refine w_bipush (n := 9) (v := 13) (x := 13) (by decide +kernel) rfl (by decide) ?_
    rcases h with h | ⟨E17, M18, hr19, rfl⟩
    · obtain ⟨M2, hLM2, hr16, h⟩ := h
      refine w_cS (n := 12) (idx := 144) (cal := 146) (na := 3) (nl := 3) (as := [.int x2, .int 0, .int 13]) (rest := []) (by decide +kernel) (by decide +kernel) rfl rfl rfl (Nat.le_of_ble_eq_true rfl) rfl hr16 ?_
      refine w_iload_n (n := 13) (i := 3) (by decide +kernel) rfl rfl ?_
      refine w_iconst (n := 14) (v := 1) (x := 1) (by decide +kernel) rfl (by decide) ?_
      refine w_bipush (n := 16) (v := 100) (x := 100) (by decide +kernel) rfl (by decide) ?_
      rcases h with h | ⟨E13, M14, hr15, rfl⟩
      · obtain ⟨M3, hLM3, hr12, h⟩ := h
        refine w_cS (n := 19) (idx := 144) (cal := 146) (na := 3) (nl := 3) (as := [.int x3, .int 1, .int 100]) (rest := []) (by decide +kernel) (by decide +kernel) rfl rfl rfl (Nat.le_of_ble_eq_true rfl) rfl hr12 ?_
        refine w_aload_n (n := 20) (i := 0) (by decide +kernel) rfl rfl ?_
        refine w_getR (n := 23) hLM3 (by decide +kernel) oO_119 fF_11_46 (at_0) (by decide) (ar_0_5) rfl ?_
        refine w_aload_n (n := 24) (i := 0) (by decide +kernel) rfl rfl ?_
        refine w_getR (n := 27) hLM3 (by decide +kernel) oO_119 fF_11_42 (at_0) (by decide) (ar_0_4) rfl ?_
        obtain ⟨M4, hLM4, hr11, h⟩ := h
        refine w_cV (n := 30) (idx := 84) (cal := 10) (na := 1) (nl := 2) (as := [.ref 65]) (rest := []) hLM3 (by decide +kernel) (by decide +kernel) (af_F (by decide)) (by decide +kernel) rfl rfl rfl (Nat.le_of_ble_eq_true rfl) rfl hr11 ?_
        refine w_aload_n (n := 31) (i := 0) (by decide +kernel) rfl rfl ?_
        refine w_getR (n := 34) hLM4 (by decide +kernel) oO_119 fF_11_46 (at_0) (by decide) (ar_0_5) rfl ?_
        refine w_iload_n (n := 35) (i := 3) (by decide +kernel) rfl rfl ?_
        obtain ⟨M5, hLM5, hr10, h⟩ := h
        refine w_cV (n := 38) (idx := 267) (cal := 20) (na := 1) (nl := 2) (as := [.int x3]) (rest := []) hLM4 (by decide +kernel) (by decide +kernel) (af_F (by decide)) (by decide +kernel) rfl rfl rfl (Nat.le_of_ble_eq_true rfl) rfl hr10 ?_
        refine w_aload_n (n := 39) (i := 0) (by decide +kernel) rfl rfl ?_
        refine w_getR (n := 42) hLM5 (by decide +kernel) oO_119 fF_11_46 (at_0) (by decide) (ar_0_5) rfl ?_
        refine w_getR (n := 45) hLM5 (by decide +kernel) oO_119 fF_11_148 (af_F (by decide)) (by decide) (ag_KA (by decide)) rfl ?_
        refine w_iload_n (n := 46) (i := 1) (by decide +kernel) rfl rfl ?_
        obtain ⟨i6, hi6, gi6, h⟩ := h
        refine w_aald (n := 47) hLM5 (by decide +kernel) (af_KA (by decide)) (by decide) (ax_KA (by decide)) gi6 (ai_KA (by decide) hi6) rfl ?_
        refine w_iload_n (n := 48) (i := 2) (by decide +kernel) rfl rfl ?_
        obtain ⟨v8, M7, hLM7, hr9, h⟩ := h
        refine w_cV (n := 51) (idx := 152) (cal := 39) (na := 1) (nl := 2) (as := [.int x2]) (rest := []) hLM5 (by decide +kernel) (by decide +kernel) (af_K (by decide) hi6) (by decide +kernel) rfl rfl rfl (Nat.le_of_ble_eq_true rfl) rfl hr9 ?_
        subst h
        exact w_ireturn (by decide +kernel) (w_okI (by decide +kernel))
      · exact w_tS (idx := 144) (cal := 146) (na := 3) (nl := 3) (as := [.int x3, .int 1, .int 100]) (rest := []) (by decide +kernel) (by decide +kernel) rfl rfl rfl (Nat.le_of_ble_eq_true rfl) (by decide +kernel) (by decide +kernel) hr15
    · exact w_tS (idx := 144) (cal := 146) (na := 3) (nl := 3) (as := [.int x2, .int 0, .int 13]) (rest := []) (by decide +kernel) (by decide +kernel) rfl rfl rfl (Nat.le_of_ble_eq_true rfl) (by decide +kernel) (by decide +kernel) hr19
  · exact w_tV (idx := 141) (cal := 144) (na := 1) (nl := 2) (as := [.int x1]) (rest := []) hL (by decide +kernel) (by decide +kernel) (at_0) (by decide +kernel) rfl rfl rfl (Nat.le_of_ble_eq_true rfl) (by decide +kernel) (by decide +kernel) hr23
theorem t_122 {X : ak_X} {M : ak_M} {r : ak_O × ak_M} (hL : ab_lay M) (x1 : Int32) (h : ((∃ (M1 : ak_M), ab_lay M1 ∧ rn X 146 [.int x1, .int 1, .int 100] M (.inl (none), M1) ∧ (∃ (M2 : ak_M), ab_lay M2 ∧ rn X 10 [.ref 97, .ref 65] M1 (.inl (none), M2) ∧ (∃ (M3 : ak_M), ab_lay M3 ∧ rn X 20 [.ref 97, .int x1] M2 (.inl (none), M3) ∧ r = (.inl (some (.int ((ak_I M3 97 10) - (ak_I M3 65 10)))), M3)))) ∨ ∃ (E7 : Nat) (M8 : ak_M), rn X 146 [.int x1, .int 1, .int 100] M (.inr E7, M8) ∧ r = (.inr E7, M8))) : rn X 122 [.ref 0, .int x1] M r := by
  refine w_rn (nL := 2) (l1 := [some (.ref 0), some (.int x1)]) (by decide +kernel) rfl rfl ?_
  refine w_iload_n (n := 1) (i := 1) (by decide +kernel) rfl rfl ?_
  refine w_iconst (n := 2) (v := 1) (x := 1) (by decide +kernel) rfl (by decide) ?_
  refine w_bipush (n := 4) (v := 100) (x := 100) (by decide +kernel) rfl (by decide) ?_
  rcases h with h | ⟨E7, M8, hr9, rfl⟩
  · obtain ⟨M1, hLM1, hr6, h⟩ := h
    refine w_cS (n := 7) (idx := 144) (cal := 146) (na := 3) (nl := 3) (as := [.int x1, .int 1, .int 100]) (rest := []) (by decide +kernel) (by decide +kernel) rfl rfl rfl (Nat.le_of_ble_eq_true rfl) rfl hr6 ?_
    refine w_aload_n (n := 8) (i := 0) (by decide +kernel) rfl rfl ?_
    refine w_getR (n := 11) hLM1 (by decide +kernel) oO_122 fF_11_46 (at_0) (by decide) (ar_0_5) rfl ?_
    refine w_aload_n (n := 12) (i := 0) (by decide +kernel) rfl rfl ?_
    refine w_getR (n := 15) hLM1 (by decide +kernel) oO_122 fF_11_42 (at_0) (by decide) (ar_0_4) rfl ?_
    obtain ⟨M2, hLM2, hr5, h⟩ := h
    refine w_cV (n := 18) (idx := 84) (cal := 10) (na := 1) (nl := 2) (as := [.ref 65]) (rest := []) hLM1 (by decide +kernel) (by decide +kernel) (af_F (by decide)) (by decide +kernel) rfl rfl rfl (Nat.le_of_ble_eq_true rfl) rfl hr5 ?_
    refine w_aload_n (n := 19) (i := 0) (by decide +kernel) rfl rfl ?_
    refine w_getR (n := 22) hLM2 (by decide +kernel) oO_122 fF_11_46 (at_0) (by decide) (ar_0_5) rfl ?_
    refine w_iload_n (n := 23) (i := 1) (by decide +kernel) rfl rfl ?_
    obtain ⟨M3, hLM3, hr4, h⟩ := h
    refine w_cV (n := 26) (idx := 267) (cal := 20) (na := 1) (nl := 2) (as := [.int x1]) (rest := []) hLM2 (by decide +kernel) (by decide +kernel) (af_F (by decide)) (by decide +kernel) rfl rfl rfl (Nat.le_of_ble_eq_true rfl) rfl hr4 ?_
    refine w_aload_n (n := 27) (i := 0) (by decide +kernel) rfl rfl ?_
    refine w_getR (n := 30) hLM3 (by decide +kernel) oO_122 fF_11_46 (at_0) (by decide) (ar_0_5) rfl ?_
    refine w_getI (n := 33) hLM3 (by decide +kernel) oO_122 fF_11_115 (af_F (by decide)) (by decide) rfl ?_
    refine w_aload_n (n := 34) (i := 0) (by decide +kernel) rfl rfl ?_
    refine w_getR (n := 37) hLM3 (by decide +kernel) oO_122 fF_11_42 (at_0) (by decide) (ar_0_4) rfl ?_
    refine w_getI (n := 40) hLM3 (by decide +kernel) oO_122 fF_11_115 (af_F (by decide)) (by decide) rfl ?_
    refine w_isub (n := 41) (by decide +kernel) rfl ?_
    subst h
    exact w_ireturn (by decide +kernel) (w_okI (by decide +kernel))
  · exact w_tS (idx := 144) (cal := 146) (na := 3) (nl := 3) (as := [.int x1, .int 1, .int 100]) (rest := []) (by decide +kernel) (by decide +kernel) rfl rfl rfl (Nat.le_of_ble_eq_true rfl) (by decide +kernel) (by decide +kernel) hr9
theorem t_123 {X : ak_X} {M : ak_M} {r : ak_O × ak_M} (hL : ab_lay M) (x1 : Int32) (x2 : Int32) (h : ((∃ (M1 : ak_M), ab_lay M1 ∧ rn X 144 [.ref 0, .int x1] M (.inl (none), M1) ∧ ((∃ (M2 : ak_M), ab_lay M2 ∧ rn X 146 [.int x2, .int 1, .int 100] M1 (.inl (none), M2) ∧ (∃ (M3 : ak_M), ab_lay M3 ∧ rn X 10 [.ref 97, .ref 65] M2 (.inl (none), M3) ∧ sg X 123 (25, [some (.ref 0), some (.int x1), some (.int x2), some (.int 0), none], [], []) M3 r)) ∨ ∃ (E6 : Nat) (M7 : ak_M), rn X 146 [.int x2, .int 1, .int 100] M1 (.inr E6, M7) ∧ r = (.inr E6, M7))) ∨ ∃ (E10 : Nat) (M11 : ak_M), rn X 144 [.ref 0, .int x1] M (.inr E10, M11) ∧ r = (.inr E10, M11))) : rn X 123 [.ref 0, .int x1, .int x2] M r := by
  refine w_rn (nL := 5) (l1 := [some (.ref 0), some (.int x1), some (.int x2), none, none]) (by decide +kernel) rfl rfl ?_
  refine w_aload_n (n := 1) (i := 0) (by decide +kernel) rfl rfl ?_
  refine w_iload_n (n := 2) (i := 1) (by decide +kernel) rfl rfl ?_
  rcases h with h | ⟨E10, M11, hr12, rfl⟩
  · obtain ⟨M1, hLM1, hr9, h⟩ := h
    refine w_cV (n := 5) (idx := 141) (cal := 144) (na := 1) (nl := 2) (as := [.int x1]) (rest := []) hL (by decide +kernel) (by decide +kernel) (at_0) (by decide +kernel) rfl rfl rfl (Nat.le_of_ble_eq_true rfl) rfl hr9 ?_
    refine w_iload_n (n := 6) (i := 2) (by decide +kernel) rfl rfl ?_
    refine w_iconst (n := 7) (v := 1) (x := 1) (by decide +kernel) rfl (by decide) ?_
    refine w_bipush (n := 9) (v := 100) (x := 100) (by decide +kernel) rfl (by decide) ?_
    rcases h with h | ⟨E6, M7, hr8, rfl⟩
    · obtain ⟨M2, hLM2, hr5, h⟩ := h
      refine w_cS (n := 12) (idx := 144) (cal := 146) (na := 3) (nl := 3) (as := [.int x2, .int 1, .int 100]) (rest := []) (by decide +kernel) (by decide +kernel) rfl rfl rfl (Nat.le_of_ble_eq_true rfl) rfl hr5 ?_
      refine w_aload_n (n := 13) (i := 0) (by decide +kernel) rfl rfl ?_
      refine w_getR (n := 16) hLM2 (by decide +kernel) oO_123 fF_11_46 (at_0) (by decide) (ar_0_5) rfl ?_
      refine w_aload_n (n := 17) (i := 0) (by decide +kernel) rfl rfl ?_
      refine w_getR (n := 20) hLM2 (by decide +kernel) oO_123 fF_11_42 (at_0) (by decide) (ar_0_4) rfl ?_
      obtain ⟨M3, hLM3, hr4, h⟩ := h
      refine w_cV (n := 23) (idx := 84) (cal := 10) (na := 1) (nl := 2) (as := [.ref 65]) (rest := []) hLM2 (by decide +kernel) (by decide +kernel) (af_F (by decide)) (by decide +kernel) rfl rfl rfl (Nat.le_of_ble_eq_true rfl) rfl hr4 ?_
      refine w_iconst (n := 24) (v := 0) (x := 0) (by decide +kernel) rfl (by decide) ?_
      refine w_istore_n (n := 25) (i := 3) (l1' := [some (.ref 0), some (.int x1), some (.int x2), some (.int 0), none]) (l2' := []) (by decide +kernel) rfl (Nat.le_of_ble_eq_true rfl) rfl rfl ?_
      exact h
    · exact w_tS (idx := 144) (cal := 146) (na := 3) (nl := 3) (as := [.int x2, .int 1, .int 100]) (rest := []) (by decide +kernel) (by decide +kernel) rfl rfl rfl (Nat.le_of_ble_eq_true rfl) (by decide +kernel) (by decide +kernel) hr8
  · exact w_tV (idx := 141) (cal := 144) (na := 1) (nl := 2) (as := [.int x1]) (rest := []) hL (by decide +kernel) (by decide +kernel) (at_0) (by decide +kernel) rfl rfl rfl (Nat.le_of_ble_eq_true rfl) (by decide +kernel) (by decide +kernel) hr12
theorem t_123_25 {X : ak_X} {M : ak_M} {r : ak_O × ak_M} (hL : ab_lay M) (x1 : Int32) (x2 : Int32) (y3 : Int32) (o4 : Option Value) (h : (if x2 < y3 then r = (.inl (some (.int ((-1)))), M) else (∃ i13 : Nat, i13 < 10 ∧ ab_ix x1 i13 10 ∧ (if ak_I M (97 + 6 + i13) 0 = 0 then (∃ (M14 : ak_M), ab_lay M14 ∧ rn X 20 [.ref 97, .int 1] M (.inl (none), M14) ∧ sg X 123 (25, [some (.ref 0), some (.int x1), some (.int x2), some (.int (y3 + 1)), some (.int (ak_I M (97 + 6 + i13) 0))], [], []) M14 r) else (if ak_I M (97 + 6 + i13) 0 = 2 then (∃ (M16 : ak_M), ab_lay M16 ∧ rn X 20 [.ref 97, .int 1] M (.inl (none), M16) ∧ sg X 123 (25, [some (.ref 0), some (.int x1), some (.int x2), some (.int (y3 + 1)), some (.int (ak_I M (97 + 6 + i13) 0))], [], []) M16 r) else r = (.inl (some (.int y3)), M)))))) : sg X 123 (25, [some (.ref 0), some (.int x1), some (.int x2), some (.int y3), o4], [], []) M r := by
  refine w_iload_n (n := 26) (i := 3) (by decide +kernel) rfl rfl ?_
  refine w_iload_n (n := 27) (i := 2) (by decide +kernel) rfl rfl ?_
  by_cases c20 : x2 < y3
  · rw [if_pos c20] at h
    refine w_icmp_gt_j (n := 71) (off := 44) (by decide +kernel) (by decide) c20 ?_
    refine w_iconst (n := 72) (v := -1) (x := (-1)) (by decide +kernel) rfl (by decide) ?_
    subst h
    exact w_ireturn (by decide +kernel) (w_okI (by decide +kernel))
  · rw [if_neg c20] at h
    refine w_icmp_gt_n (n := 30) (off := 44) (by decide +kernel) rfl c20 ?_
    refine w_aload_n (n := 31) (i := 0) (by decide +kernel) rfl rfl ?_
    refine w_getR (n := 34) hL (by decide +kernel) oO_123 fF_11_46 (at_0) (by decide) (ar_0_5) rfl ?_
    refine w_getR (n := 37) hL (by decide +kernel) oO_123 fF_11_148 (af_F (by decide)) (by decide) (ag_KA (by decide)) rfl ?_
    refine w_iload_n (n := 38) (i := 1) (by decide +kernel) rfl rfl ?_
    obtain ⟨i13, hi13, gi13, h⟩ := h
    refine w_aald (n := 39) hL (by decide +kernel) (af_KA (by decide)) (by decide) (ax_KA (by decide)) gi13 (ai_KA (by decide) hi13) rfl ?_
    refine w_getI (n := 42) hL (by decide +kernel) oO_123 fF_11_170 (af_K (by decide) hi13) (by decide) rfl ?_
    refine w_istore (n := 44) (i := 4) (l1' := [some (.ref 0), some (.int x1), some (.int x2), some (.int y3), some (.int (ak_I M (97 + 6 + i13) 0))]) (l2' := []) (by decide +kernel) rfl (Nat.le_of_ble_eq_true rfl) rfl rfl ?_
    refine w_iload (n := 46) (i := 4) (by decide +kernel) rfl rfl ?_
    by_cases c19 : ak_I M (97 + 6 + i13) 0 = 0
    · rw [if_pos c19] at h
      refine w_if_eq_j (n := 57) (off := 11) (by decide +kernel) (by decide) c19 ?_
      refine w_aload_n (n := 58) (i := 0) (by decide +kernel) rfl rfl ?_
      refine w_getR (n := 61) hL (by decide +kernel) oO_123 fF_11_46 (at_0) (by decide) (ar_0_5) rfl ?_
      refine w_iconst (n := 62) (v := 1) (x := 1) (by decide +kernel) rfl (by decide) ?_
      obtain ⟨M14, hLM14, hr15, h⟩ := h
      refine w_cV (n := 65) (idx := 267) (cal := 20) (na := 1) (nl := 2) (as := [.int 1]) (rest := []) hL (by decide +kernel) (by decide +kernel) (af_F (by decide)) (by decide +kernel) rfl rfl rfl (Nat.le_of_ble_eq_true rfl) rfl hr15 ?_
      refine w_iinc (n := 68) (i := 3) (v := 1) (y := y3 + 1) (l1' := [some (.ref 0), some (.int x1), some (.int x2), some (.int (y3 + 1)), some (.int (ak_I M (97 + 6 + i13) 0))]) (l2' := []) (by decide +kernel) rfl rfl rfl rfl rfl ?_
      refine w_goto (n := 25) (off := (-43)) (by decide +kernel) (by decide) ?_
      exact h
    · rw [if_neg c19] at h
      refine w_if_eq_n (n := 49) (off := 11) (by decide +kernel) rfl c19 ?_
      refine w_iload (n := 51) (i := 4) (by decide +kernel) rfl rfl ?_
      refine w_iconst (n := 52) (v := 2) (x := 2) (by decide +kernel) rfl (by decide) ?_
      by_cases c18 : ak_I M (97 + 6 + i13) 0 = 2
      · rw [if_pos c18] at h
        refine w_icmp_eq_j (n := 57) (off := 5) (by decide +kernel) (by decide) c18 ?_
        refine w_aload_n (n := 58) (i := 0) (by decide +kernel) rfl rfl ?_
        refine w_getR (n := 61) hL (by decide +kernel) oO_123 fF_11_46 (at_0) (by decide) (ar_0_5) rfl ?_
        refine w_iconst (n := 62) (v := 1) (x := 1) (by decide +kernel) rfl (by decide) ?_
        obtain ⟨M16, hLM16, hr17, h⟩ := h
        refine w_cV (n := 65) (idx := 267) (cal := 20) (na := 1) (nl := 2) (as := [.int 1]) (rest := []) hL (by decide +kernel) (by decide +kernel) (af_F (by decide)) (by decide +kernel) rfl rfl rfl (Nat.le_of_ble_eq_true rfl) rfl hr17 ?_
        refine w_iinc (n := 68) (i := 3) (v := 1) (y := y3 + 1) (l1' := [some (.ref 0), some (.int x1), some (.int x2), some (.int (y3 + 1)), some (.int (ak_I M (97 + 6 + i13) 0))]) (l2' := []) (by decide +kernel) rfl rfl rfl rfl rfl ?_
        refine w_goto (n := 25) (off := (-43)) (by decide +kernel) (by decide) ?_
        exact h
      · rw [if_neg c18] at h
        refine w_icmp_eq_n (n := 55) (off := 5) (by decide +kernel) rfl c18 ?_
        refine w_iload_n (n := 56) (i := 3) (by decide +kernel) rfl rfl ?_
        subst h
        exact w_ireturn (by decide +kernel) (w_okI (by decide +kernel))
theorem t_126 {X : ak_X} {M : ak_M} {r : ak_O × ak_M} (hL : ab_lay M) (x1 : Int32) (x2 : Int32) (h : ((∃ (M1 : ak_M), ab_lay M1 ∧ rn X 144 [.ref 0, .int x1] M (.inl (none), M1) ∧ ((∃ (M2 : ak_M), ab_lay M2 ∧ rn X 146 [.int x2, .int 1, .int 50] M1 (.inl (none), M2) ∧ (∃ (v4 : Int32) (M3 : ak_M), ab_lay M3 ∧ rn X 148 [.ref 0, .int x1, .int x2, .int 3, .int 1] M2 (.inl (some (.int v4)), M3) ∧ r = (.inl (some (.int v4)), M3))) ∨ ∃ (E7 : Nat) (M8 : ak_M), rn X 146 [.int x2, .int 1, .int 50] M1 (.inr E7, M8) ∧ r = (.inr E7, M8))) ∨ ∃ (E11 : Nat) (M12 : ak_M), rn X 144 [.ref 0, .int x1] M (.inr E11, M12) ∧ r = (.inr E11, M12))) : rn X 126 [.ref 0, .int x1, .int x2] M r := by
  refine w_rn (nL := 3) (l1 := [some (.ref 0), some (.int x1), some (.int x2)]) (by decide +kernel) rfl rfl ?_
  refine w_aload_n (n := 1) (i := 0) (by decide +kernel) rfl rfl ?_
  refine w_iload_n (n := 2) (i := 1) (by decide +kernel) rfl rfl ?_
  rcases h with h | ⟨E11, M12, hr13, rfl⟩
  · obtain ⟨M1, hLM1, hr10, h⟩ := h
    refine w_cV (n := 5) (idx := 141) (cal := 144) (na := 1) (nl := 2) (as := [.int x1]) (rest := []) hL (by decide +kernel) (by decide +kernel) (at_0) (by decide +kernel) rfl rfl rfl (Nat.le_of_ble_eq_true rfl) rfl hr10 ?_
    refine w_iload_n (n := 6) (i := 2) (by decide +kernel) rfl rfl ?_
    refine w_iconst (n := 7) (v := 1) (x := 1) (by decide +kernel) rfl (by decide) ?_
    refine w_bipush (n := 9) (v := 50) (x := 50) (by decide +kernel) rfl (by decide) ?_
    rcases h with h | ⟨E7, M8, hr9, rfl⟩
    · obtain ⟨M2, hLM2, hr6, h⟩ := h
      refine w_cS (n := 12) (idx := 144) (cal := 146) (na := 3) (nl := 3) (as := [.int x2, .int 1, .int 50]) (rest := []) (by decide +kernel) (by decide +kernel) rfl rfl rfl (Nat.le_of_ble_eq_true rfl) rfl hr6 ?_
      refine w_aload_n (n := 13) (i := 0) (by decide +kernel) rfl rfl ?_
      refine w_iload_n (n := 14) (i := 1) (by decide +kernel) rfl rfl ?_
      refine w_iload_n (n := 15) (i := 2) (by decide +kernel) rfl rfl ?_
      refine w_iconst (n := 16) (v := 3) (x := 3) (by decide +kernel) rfl (by decide) ?_
      refine w_iconst (n := 17) (v := 1) (x := 1) (by decide +kernel) rfl (by decide) ?_
      obtain ⟨v4, M3, hLM3, hr5, h⟩ := h
      refine w_cV (n := 20) (idx := 276) (cal := 148) (na := 4) (nl := 5) (as := [.int x1, .int x2, .int 3, .int 1]) (rest := []) hLM2 (by decide +kernel) (by decide +kernel) (at_0) (by decide +kernel) rfl rfl rfl (Nat.le_of_ble_eq_true rfl) rfl hr5 ?_
      subst h
      exact w_ireturn (by decide +kernel) (w_okI (by decide +kernel))
    · exact w_tS (idx := 144) (cal := 146) (na := 3) (nl := 3) (as := [.int x2, .int 1, .int 50]) (rest := []) (by decide +kernel) (by decide +kernel) rfl rfl rfl (Nat.le_of_ble_eq_true rfl) (by decide +kernel) (by decide +kernel) hr9
  · exact w_tV (idx := 141) (cal := 144) (na := 1) (nl := 2) (as := [.int x1]) (rest := []) hL (by decide +kernel) (by decide +kernel) (at_0) (by decide +kernel) rfl rfl rfl (Nat.le_of_ble_eq_true rfl) (by decide +kernel) (by decide +kernel) hr13
theorem t_128 {X : ak_X} {M : ak_M} {r : ak_O × ak_M} (hL : ab_lay M) (x1 : Int32) (h : ((∃ (M1 : ak_M), ab_lay M1 ∧ rn X 146 [.int x1, .int 1, .int 200] M (.inl (none), M1) ∧ (if 5000 < (ak_I M1 65 9) + x1 then ((∃ (M2 : ak_M), ab_lay M2 ∧ rn X 147 [.int 0] M1 (.inl (none), M2) ∧ (∃ (M3 : ak_M), ab_lay M3 ∧ rn X 30 [.ref 161, .ref 65] M2 (.inl (none), M3) ∧ (∃ (M4 : ak_M), ab_lay M4 ∧ rn X 20 [.ref 65, .int x1] M3 (.inl (none), M4) ∧ r = (.inl (some (.int ((ak_I M4 65 10) - (ak_I M3 65 10)))), M4)))) ∨ ∃ (E8 : Nat) (M9 : ak_M), rn X 147 [.int 0] M1 (.inr E8, M9) ∧ r = (.inr E8, M9)) else ((∃ (M11 : ak_M), ab_lay M11 ∧ rn X 147 [.int 1] M1 (.inl (none), M11) ∧ (∃ (M12 : ak_M), ab_lay M12 ∧ rn X 30 [.ref 161, .ref 65] M11 (.inl (none), M12) ∧ (∃ (M13 : ak_M), ab_lay M13 ∧ rn X 20 [.ref 65, .int x1] M12 (.inl (none), M13) ∧ r = (.inl (some (.int ((ak_I M13 65 10) - (ak_I M12 65 10)))), M13)))) ∨ ∃ (E17 : Nat) (M18 : ak_M), rn X 147 [.int 1] M1 (.inr E17, M18) ∧ r = (.inr E17, M18)))) ∨ ∃ (E22 : Nat) (M23 : ak_M), rn X 146 [.int x1, .int 1, .int 200] M (.inr E22, M23) ∧ r = (.inr E22, M23))) : rn X 128 [.ref 0, .int x1] M r := by
  refine w_rn (nL := 3) (l1 := [some (.ref 0), some (.int x1), none]) (by decide +kernel) rfl rfl ?_
  refine w_iload_n (n := 1) (i := 1) (by decide +kernel) rfl rfl ?_
  refine w_iconst (n := 2) (v := 1) (x := 1) (by decide +kernel) rfl (by decide) ?_
  refine w_sipush (n := 5) (v := 200) (x := 200) (by decide +kernel) rfl (by decide) ?_
  rcases h with h | ⟨E22, M23, hr24, rfl⟩
  · obtain ⟨M1, hLM1, hr21, h⟩ := h
    refine w_cS (n := 8) (idx := 144) (cal := 146) (na := 3) (nl := 3) (as := [.int x1, .int 1, .int 200]) (rest := []) (by decide +kernel) (by decide +kernel) rfl rfl rfl (Nat.le_of_ble_eq_true rfl) rfl hr21 ?_
    refine w_aload_n (n := 9) (i := 0) (by decide +kernel) rfl rfl ?_
    refine w_getR (n := 12) hLM1 (by decide +kernel) oO_128 fF_11_42 (at_0) (by decide) (ar_0_4) rfl ?_
    refine w_getI (n := 15) hLM1 (by decide +kernel) oO_128 fF_11_109 (af_F (by decide)) (by decide) rfl ?_
    refine w_iload_n (n := 16) (i := 1) (by decide +kernel) rfl rfl ?_
    refine w_iadd (n := 17) (by decide +kernel) rfl ?_
    refine w_sipush (n := 20) (v := 5000) (x := 5000) (by decide +kernel) rfl (by decide) ?_
    by_cases c20 : 5000 < (ak_I M1 65 9) + x1
    · rw [if_pos c20] at h
      refine w_icmp_gt_j (n := 27) (off := 7) (by decide +kernel) (by decide) c20 ?_
      refine w_iconst (n := 28) (v := 0) (x := 0) (by decide +kernel) rfl (by decide) ?_
      rcases h with h | ⟨E8, M9, hr10, rfl⟩
      · obtain ⟨M2, hLM2, hr7, h⟩ := h
        refine w_cS (n := 31) (idx := 177) (cal := 147) (na := 1) (nl := 1) (as := [.int 0]) (rest := []) (by decide +kernel) (by decide +kernel) rfl rfl rfl (Nat.le_of_ble_eq_true rfl) rfl hr7 ?_
        refine w_aload_n (n := 32) (i := 0) (by decide +kernel) rfl rfl ?_
        refine w_getR (n := 35) hLM2 (by decide +kernel) oO_128 fF_11_55 (at_0) (by decide) (ar_0_7) rfl ?_
        refine w_aload_n (n := 36) (i := 0) (by decide +kernel) rfl rfl ?_
        refine w_getR (n := 39) hLM2 (by decide +kernel) oO_128 fF_11_42 (at_0) (by decide) (ar_0_4) rfl ?_
        obtain ⟨M3, hLM3, hr6, h⟩ := h
        refine w_cV (n := 42) (idx := 280) (cal := 30) (na := 1) (nl := 2) (as := [.ref 65]) (rest := []) hLM2 (by decide +kernel) (by decide +kernel) (at_161) (by decide +kernel) rfl rfl rfl (Nat.le_of_ble_eq_true rfl) rfl hr6 ?_
        refine w_aload_n (n := 43) (i := 0) (by decide +kernel) rfl rfl ?_
        refine w_getR (n := 46) hLM3 (by decide +kernel) oO_128 fF_11_42 (at_0) (by decide) (ar_0_4) rfl ?_
        refine w_getI (n := 49) hLM3 (by decide +kernel) oO_128 fF_11_115 (af_F (by decide)) (by decide) rfl ?_
        refine w_istore_n (n := 50) (i := 2) (l1' := [some (.ref 0), some (.int x1), some (.int (ak_I M3 65 10))]) (l2' := []) (by decide +kernel) rfl (Nat.le_of_ble_eq_true rfl) rfl rfl ?_
        refine w_aload_n (n := 51) (i := 0) (by decide +kernel) rfl rfl ?_
        refine w_getR (n := 54) hLM3 (by decide +kernel) oO_128 fF_11_42 (at_0) (by decide) (ar_0_4) rfl ?_
        refine w_iload_n (n := 55) (i := 1) (by decide +kernel) rfl rfl ?_
        obtain ⟨M4, hLM4, hr5, h⟩ := h
        refine w_cV (n := 58) (idx := 267) (cal := 20) (na := 1) (nl := 2) (as := [.int x1]) (rest := []) hLM3 (by decide +kernel) (by decide +kernel) (af_F (by decide)) (by decide +kernel) rfl rfl rfl (Nat.le_of_ble_eq_true rfl) rfl hr5 ?_
        refine w_aload_n (n := 59) (i := 0) (by decide +kernel) rfl rfl ?_
        refine w_getR (n := 62) hLM4 (by decide +kernel) oO_128 fF_11_42 (at_0) (by decide) (ar_0_4) rfl ?_
        refine w_getI (n := 65) hLM4 (by decide +kernel) oO_128 fF_11_115 (af_F (by decide)) (by decide) rfl ?_
        refine w_iload_n (n := 66) (i := 2) (by decide +kernel) rfl rfl ?_
        refine w_isub (n := 67) (by decide +kernel) rfl ?_
        subst h
        exact w_ireturn (by decide +kernel) (w_okI (by decide +kernel))
      · exact w_tS (idx := 177) (cal := 147) (na := 1) (nl := 1) (as := [.int 0]) (rest := []) (by decide +kernel) (by decide +kernel) rfl rfl rfl (Nat.le_of_ble_eq_true rfl) (by decide +kernel) (by decide +kernel) hr10
    · rw [if_neg c20] at h
      refine w_icmp_gt_n (n := 23) (off := 7) (by decide +kernel) rfl c20 ?_
      refine w_iconst (n := 24) (v := 1) (x := 1) (by decide +kernel) rfl (by decide) ?_
      refine w_goto (n := 28) (off := 4) (by decide +kernel) (by decide) ?_
      rcases h with h | ⟨E17, M18, hr19, rfl⟩
      · obtain ⟨M11, hLM11, hr16, h⟩ := h
        refine w_cS (n := 31) (idx := 177) (cal := 147) (na := 1) (nl := 1) (as := [.int 1]) (rest := []) (by decide +kernel) (by decide +kernel) rfl rfl rfl (Nat.le_of_ble_eq_true rfl) rfl hr16 ?_
        refine w_aload_n (n := 32) (i := 0) (by decide +kernel) rfl rfl ?_
        refine w_getR (n := 35) hLM11 (by decide +kernel) oO_128 fF_11_55 (at_0) (by decide) (ar_0_7) rfl ?_
        refine w_aload_n (n := 36) (i := 0) (by decide +kernel) rfl rfl ?_
        refine w_getR (n := 39) hLM11 (by decide +kernel) oO_128 fF_11_42 (at_0) (by decide) (ar_0_4) rfl ?_
        obtain ⟨M12, hLM12, hr15, h⟩ := h
        refine w_cV (n := 42) (idx := 280) (cal := 30) (na := 1) (nl := 2) (as := [.ref 65]) (rest := []) hLM11 (by decide +kernel) (by decide +kernel) (at_161) (by decide +kernel) rfl rfl rfl (Nat.le_of_ble_eq_true rfl) rfl hr15 ?_
        refine w_aload_n (n := 43) (i := 0) (by decide +kernel) rfl rfl ?_
        refine w_getR (n := 46) hLM12 (by decide +kernel) oO_128 fF_11_42 (at_0) (by decide) (ar_0_4) rfl ?_
        refine w_getI (n := 49) hLM12 (by decide +kernel) oO_128 fF_11_115 (af_F (by decide)) (by decide) rfl ?_
        refine w_istore_n (n := 50) (i := 2) (l1' := [some (.ref 0), some (.int x1), some (.int (ak_I M12 65 10))]) (l2' := []) (by decide +kernel) rfl (Nat.le_of_ble_eq_true rfl) rfl rfl ?_
        refine w_aload_n (n := 51) (i := 0) (by decide +kernel) rfl rfl ?_
        refine w_getR (n := 54) hLM12 (by decide +kernel) oO_128 fF_11_42 (at_0) (by decide) (ar_0_4) rfl ?_
        refine w_iload_n (n := 55) (i := 1) (by decide +kernel) rfl rfl ?_
        obtain ⟨M13, hLM13, hr14, h⟩ := h
        refine w_cV (n := 58) (idx := 267) (cal := 20) (na := 1) (nl := 2) (as := [.int x1]) (rest := []) hLM12 (by decide +kernel) (by decide +kernel) (af_F (by decide)) (by decide +kernel) rfl rfl rfl (Nat.le_of_ble_eq_true rfl) rfl hr14 ?_
        refine w_aload_n (n := 59) (i := 0) (by decide +kernel) rfl rfl ?_
        refine w_getR (n := 62) hLM13 (by decide +kernel) oO_128 fF_11_42 (at_0) (by decide) (ar_0_4) rfl ?_
        refine w_getI (n := 65) hLM13 (by decide +kernel) oO_128 fF_11_115 (af_F (by decide)) (by decide) rfl ?_
        refine w_iload_n (n := 66) (i := 2) (by decide +kernel) rfl rfl ?_
        refine w_isub (n := 67) (by decide +kernel) rfl ?_
        subst h
        exact w_ireturn (by decide +kernel) (w_okI (by decide +kernel))
      · exact w_tS (idx := 177) (cal := 147) (na := 1) (nl := 1) (as := [.int 1]) (rest := []) (by decide +kernel) (by decide +kernel) rfl rfl rfl (Nat.le_of_ble_eq_true rfl) (by decide +kernel) (by decide +kernel) hr19
  · exact w_tS (idx := 144) (cal := 146) (na := 3) (nl := 3) (as := [.int x1, .int 1, .int 200]) (rest := []) (by decide +kernel) (by decide +kernel) rfl rfl rfl (Nat.le_of_ble_eq_true rfl) (by decide +kernel) (by decide +kernel) hr24
theorem t_129 {X : ak_X} {M : ak_M} {r : ak_O × ak_M} (hL : ab_lay M) (x1 : Int32) (h : ((∃ (M1 : ak_M), ab_lay M1 ∧ rn X 144 [.ref 0, .int x1] M (.inl (none), M1) ∧ (∃ i2 : Nat, i2 < 10 ∧ ab_ix x1 i2 10 ∧ (if ak_I M1 (65 + 6 + i2) 0 = 1 then ((∃ (M19 : ak_M), ab_lay M19 ∧ rn X 147 [.int 1] M1 (.inl (none), M19) ∧ (∃ (M20 : ak_M), ab_lay M20 ∧ rn X 30 [.ref 161, .ref 65] M19 (.inl (none), M20) ∧ (∀ M21 : ak_M, M21 = ak_sI M20 (65 + 6 + i2) 0 0 → (∀ M22 : ak_M, M22 = ak_sI M21 (65 + 6 + i2) 1 (ak_I M21 (65 + 6 + i2) 4) → (∀ M23 : ak_M, M23 = ak_sI M22 (65 + 6 + i2) 2 (ak_I M22 (65 + 6 + i2) 5) → (∃ (v25 : Int32) (M24 : ak_M), ab_lay M24 ∧ rn X 316 [.int 20, .int (ak_I M23 (65 + 6 + i2) 6)] M23 (.inl (some (.int v25)), M24) ∧ (∀ M26 : ak_M, M26 = ak_sI M24 (65 + 6 + i2) 3 v25 → (∃ (M27 : ak_M), ab_lay M27 ∧ rn X 18 [.ref 65, .int 4, .int x1, .int ((-1))] M26 (.inl (none), M27) ∧ r = (.inl (some (.int (ak_I M27 (65 + 6 + i2) 3))), M27))))))))) ∨ ∃ (E32 : Nat) (M33 : ak_M), rn X 147 [.int 1] M1 (.inr E32, M33) ∧ r = (.inr E32, M33)) else ((∃ (M3 : ak_M), ab_lay M3 ∧ rn X 147 [.int 0] M1 (.inl (none), M3) ∧ (∃ (M4 : ak_M), ab_lay M4 ∧ rn X 30 [.ref 161, .ref 65] M3 (.inl (none), M4) ∧ (∀ M5 : ak_M, M5 = ak_sI M4 (65 + 6 + i2) 0 0 → (∀ M6 : ak_M, M6 = ak_sI M5 (65 + 6 + i2) 1 (ak_I M5 (65 + 6 + i2) 4) → (∀ M7 : ak_M, M7 = ak_sI M6 (65 + 6 + i2) 2 (ak_I M6 (65 + 6 + i2) 5) → (∃ (v9 : Int32) (M8 : ak_M), ab_lay M8 ∧ rn X 316 [.int 20, .int (ak_I M7 (65 + 6 + i2) 6)] M7 (.inl (some (.int v9)), M8) ∧ (∀ M10 : ak_M, M10 = ak_sI M8 (65 + 6 + i2) 3 v9 → (∃ (M11 : ak_M), ab_lay M11 ∧ rn X 18 [.ref 65, .int 4, .int x1, .int ((-1))] M10 (.inl (none), M11) ∧ r = (.inl (some (.int (ak_I M11 (65 + 6 + i2) 3))), M11))))))))) ∨ ∃ (E16 : Nat) (M17 : ak_M), rn X 147 [.int 0] M1 (.inr E16, M17) ∧ r = (.inr E16, M17))))) ∨ ∃ (E37 : Nat) (M38 : ak_M), rn X 144 [.ref 0, .int x1] M (.inr E37, M38) ∧ r = (.inr E37, M38))) : rn X 129 [.ref 0, .int x1] M r := by
  refine w_rn (nL := 3) (l1 := [some (.ref 0), some (.int x1), none]) (by decide +kernel) rfl rfl ?_
  refine w_aload_n (n := 1) (i := 0) (by decide +kernel) rfl rfl ?_
  refine w_iload_n (n := 2) (i := 1) (by decide +kernel) rfl rfl ?_
  rcases h with h | ⟨E37, M38, hr39, rfl⟩
  · obtain ⟨M1, hLM1, hr36, h⟩ := h
    refine w_cV (n := 5) (idx := 141) (cal := 144) (na := 1) (nl := 2) (as := [.int x1]) (rest := []) hL (by decide +kernel) (by decide +kernel) (at_0) (by decide +kernel) rfl rfl rfl (Nat.le_of_ble_eq_true rfl) rfl hr36 ?_
    refine w_aload_n (n := 6) (i := 0) (by decide +kernel) rfl rfl ?_
    refine w_getR (n := 9) hLM1 (by decide +kernel) oO_129 fF_11_42 (at_0) (by decide) (ar_0_4) rfl ?_
    refine w_getR (n := 12) hLM1 (by decide +kernel) oO_129 fF_11_148 (af_F (by decide)) (by decide) (ag_KA (by decide)) rfl ?_
    refine w_iload_n (n := 13) (i := 1) (by decide +kernel) rfl rfl ?_
    obtain ⟨i2, hi2, gi2, h⟩ := h
    refine w_aald (n := 14) hLM1 (by decide +kernel) (af_KA (by decide)) (by decide) (ax_KA (by decide)) gi2 (ai_KA (by decide) hi2) rfl ?_
    refine w_astore_n (n := 15) (i := 2) (l1' := [some (.ref 0), some (.int x1), some (.ref (65 + 6 + i2))]) (l2' := []) (by decide +kernel) rfl (Nat.le_of_ble_eq_true rfl) rfl rfl ?_
    refine w_aload_n (n := 16) (i := 2) (by decide +kernel) rfl rfl ?_
    refine w_getI (n := 19) hLM1 (by decide +kernel) oO_129 fF_11_170 (af_K (by decide) hi2) (by decide) rfl ?_
    refine w_iconst (n := 20) (v := 1) (x := 1) (by decide +kernel) rfl (by decide) ?_
    by_cases c35 : ak_I M1 (65 + 6 + i2) 0 = 1
    · rw [if_pos c35] at h
      refine w_icmp_ne_n (n := 23) (off := 7) (by decide +kernel) rfl c35 ?_
      refine w_iconst (n := 24) (v := 1) (x := 1) (by decide +kernel) rfl (by decide) ?_
      refine w_goto (n := 28) (off := 4) (by decide +kernel) (by decide) ?_
      rcases h with h | ⟨E32, M33, hr34, rfl⟩
      · obtain ⟨M19, hLM19, hr31, h⟩ := h
        refine w_cS (n := 31) (idx := 177) (cal := 147) (na := 1) (nl := 1) (as := [.int 1]) (rest := []) (by decide +kernel) (by decide +kernel) rfl rfl rfl (Nat.le_of_ble_eq_true rfl) rfl hr31 ?_
        refine w_aload_n (n := 32) (i := 0) (by decide +kernel) rfl rfl ?_
        refine w_getR (n := 35) hLM19 (by decide +kernel) oO_129 fF_11_55 (at_0) (by decide) (ar_0_7) rfl ?_
        refine w_aload_n (n := 36) (i := 0) (by decide +kernel) rfl rfl ?_
        refine w_getR (n := 39) hLM19 (by decide +kernel) oO_129 fF_11_42 (at_0) (by decide) (ar_0_4) rfl ?_
        obtain ⟨M20, hLM20, hr30, h⟩ := h
        refine w_cV (n := 42) (idx := 280) (cal := 30) (na := 1) (nl := 2) (as := [.ref 65]) (rest := []) hLM19 (by decide +kernel) (by decide +kernel) (at_161) (by decide +kernel) rfl rfl rfl (Nat.le_of_ble_eq_true rfl) rfl hr30 ?_
        refine w_aload_n (n := 43) (i := 2) (by decide +kernel) rfl rfl ?_
        refine w_iconst (n := 44) (v := 0) (x := 0) (by decide +kernel) rfl (by decide) ?_
        refine w_putI (n := 47) hLM20 (by decide +kernel) oO_129 fF_11_170 (af_K (by decide) hi2) ⟨by decide, Or.inl (by decide)⟩ rfl ?_
        generalize eM21 : ak_sI M20 (65 + 6 + i2) 0 0 = M21
        have hLM21 : ab_lay M21 := by rw [← eM21]; exact ab_lay.sI hLM20
        replace h := h M21 eM21.symm
        refine w_aload_n (n := 48) (i := 2) (by decide +kernel) rfl rfl ?_
        refine w_aload_n (n := 49) (i := 2) (by decide +kernel) rfl rfl ?_
        refine w_getI (n := 52) hLM21 (by decide +kernel) oO_129 fF_11_250 (af_K (by decide) hi2) (by decide) rfl ?_
        refine w_putI (n := 55) hLM21 (by decide +kernel) oO_129 fF_11_239 (af_K (by decide) hi2) ⟨by decide, Or.inl (by decide)⟩ rfl ?_
        generalize eM22 : ak_sI M21 (65 + 6 + i2) 1 (ak_I M21 (65 + 6 + i2) 4) = M22
        have hLM22 : ab_lay M22 := by rw [← eM22]; exact ab_lay.sI hLM21
        replace h := h M22 eM22.symm
        refine w_aload_n (n := 56) (i := 2) (by decide +kernel) rfl rfl ?_
        refine w_aload_n (n := 57) (i := 2) (by decide +kernel) rfl rfl ?_
        refine w_getI (n := 60) hLM22 (by decide +kernel) oO_129 fF_11_254 (af_K (by decide) hi2) (by decide) rfl ?_
        refine w_putI (n := 63) hLM22 (by decide +kernel) oO_129 fF_11_240 (af_K (by decide) hi2) ⟨by decide, Or.inl (by decide)⟩ rfl ?_
        generalize eM23 : ak_sI M22 (65 + 6 + i2) 2 (ak_I M22 (65 + 6 + i2) 5) = M23
        have hLM23 : ab_lay M23 := by rw [← eM23]; exact ab_lay.sI hLM22
        replace h := h M23 eM23.symm
        refine w_aload_n (n := 64) (i := 2) (by decide +kernel) rfl rfl ?_
        refine w_bipush (n := 66) (v := 20) (x := 20) (by decide +kernel) rfl (by decide) ?_
        refine w_aload_n (n := 67) (i := 2) (by decide +kernel) rfl rfl ?_
        refine w_getI (n := 70) hLM23 (by decide +kernel) oO_129 fF_11_283 (af_K (by decide) hi2) (by decide) rfl ?_
        obtain ⟨v25, M24, hLM24, hr29, h⟩ := h
        refine w_cS (n := 73) (idx := 244) (cal := 316) (na := 2) (nl := 2) (as := [.int 20, .int (ak_I M23 (65 + 6 + i2) 6)]) (rest := [.ref (65 + 6 + i2)]) (by decide +kernel) (by decide +kernel) rfl rfl rfl (Nat.le_of_ble_eq_true rfl) rfl hr29 ?_
        refine w_putI (n := 76) hLM24 (by decide +kernel) oO_129 fF_11_229 (af_K (by decide) hi2) ⟨by decide, Or.inl (by decide)⟩ rfl ?_
        generalize eM26 : ak_sI M24 (65 + 6 + i2) 3 v25 = M26
        have hLM26 : ab_lay M26 := by rw [← eM26]; exact ab_lay.sI hLM24
        replace h := h M26 eM26.symm
        refine w_aload_n (n := 77) (i := 0) (by decide +kernel) rfl rfl ?_
        refine w_getR (n := 80) hLM26 (by decide +kernel) oO_129 fF_11_42 (at_0) (by decide) (ar_0_4) rfl ?_
        refine w_iconst (n := 81) (v := 4) (x := 4) (by decide +kernel) rfl (by decide) ?_
        refine w_iload_n (n := 82) (i := 1) (by decide +kernel) rfl rfl ?_
        refine w_iconst (n := 83) (v := -1) (x := (-1)) (by decide +kernel) rfl (by decide) ?_
        obtain ⟨M27, hLM27, hr28, h⟩ := h
        refine w_cV (n := 86) (idx := 286) (cal := 18) (na := 3) (nl := 4) (as := [.int 4, .int x1, .int ((-1))]) (rest := []) hLM26 (by decide +kernel) (by decide +kernel) (af_F (by decide)) (by decide +kernel) rfl rfl rfl (Nat.le_of_ble_eq_true rfl) rfl hr28 ?_
        refine w_aload_n (n := 87) (i := 2) (by decide +kernel) rfl rfl ?_
        refine w_getI (n := 90) hLM27 (by decide +kernel) oO_129 fF_11_229 (af_K (by decide) hi2) (by decide) rfl ?_
        subst h
        exact w_ireturn (by decide +kernel) (w_okI (by decide +kernel))
      · exact w_tS (idx := 177) (cal := 147) (na := 1) (nl := 1) (as := [.int 1]) (rest := []) (by decide +kernel) (by decide +kernel) rfl rfl rfl (Nat.le_of_ble_eq_true rfl) (by decide +kernel) (by decide +kernel) hr34
    · rw [if_neg c35] at h
      refine w_icmp_ne_j (n := 27) (off := 7) (by decide +kernel) (by decide) c35 ?_
      refine w_iconst (n := 28) (v := 0) (x := 0) (by decide +kernel) rfl (by decide) ?_
      rcases h with h | ⟨E16, M17, hr18, rfl⟩
      · obtain ⟨M3, hLM3, hr15, h⟩ := h
        refine w_cS (n := 31) (idx := 177) (cal := 147) (na := 1) (nl := 1) (as := [.int 0]) (rest := []) (by decide +kernel) (by decide +kernel) rfl rfl rfl (Nat.le_of_ble_eq_true rfl) rfl hr15 ?_
        refine w_aload_n (n := 32) (i := 0) (by decide +kernel) rfl rfl ?_
        refine w_getR (n := 35) hLM3 (by decide +kernel) oO_129 fF_11_55 (at_0) (by decide) (ar_0_7) rfl ?_
        refine w_aload_n (n := 36) (i := 0) (by decide +kernel) rfl rfl ?_
        refine w_getR (n := 39) hLM3 (by decide +kernel) oO_129 fF_11_42 (at_0) (by decide) (ar_0_4) rfl ?_
        obtain ⟨M4, hLM4, hr14, h⟩ := h
        refine w_cV (n := 42) (idx := 280) (cal := 30) (na := 1) (nl := 2) (as := [.ref 65]) (rest := []) hLM3 (by decide +kernel) (by decide +kernel) (at_161) (by decide +kernel) rfl rfl rfl (Nat.le_of_ble_eq_true rfl) rfl hr14 ?_
        refine w_aload_n (n := 43) (i := 2) (by decide +kernel) rfl rfl ?_
        refine w_iconst (n := 44) (v := 0) (x := 0) (by decide +kernel) rfl (by decide) ?_
        refine w_putI (n := 47) hLM4 (by decide +kernel) oO_129 fF_11_170 (af_K (by decide) hi2) ⟨by decide, Or.inl (by decide)⟩ rfl ?_
        generalize eM5 : ak_sI M4 (65 + 6 + i2) 0 0 = M5
        have hLM5 : ab_lay M5 := by rw [← eM5]; exact ab_lay.sI hLM4
        replace h := h M5 eM5.symm
        refine w_aload_n (n := 48) (i := 2) (by decide +kernel) rfl rfl ?_
        refine w_aload_n (n := 49) (i := 2) (by decide +kernel) rfl rfl ?_
        refine w_getI (n := 52) hLM5 (by decide +kernel) oO_129 fF_11_250 (af_K (by decide) hi2) (by decide) rfl ?_
        refine w_putI (n := 55) hLM5 (by decide +kernel) oO_129 fF_11_239 (af_K (by decide) hi2) ⟨by decide, Or.inl (by decide)⟩ rfl ?_
        generalize eM6 : ak_sI M5 (65 + 6 + i2) 1 (ak_I M5 (65 + 6 + i2) 4) = M6
        have hLM6 : ab_lay M6 := by rw [← eM6]; exact ab_lay.sI hLM5
        replace h := h M6 eM6.symm
        refine w_aload_n (n := 56) (i := 2) (by decide +kernel) rfl rfl ?_
        refine w_aload_n (n := 57) (i := 2) (by decide +kernel) rfl rfl ?_
        refine w_getI (n := 60) hLM6 (by decide +kernel) oO_129 fF_11_254 (af_K (by decide) hi2) (by decide) rfl ?_
        refine w_putI (n := 63) hLM6 (by decide +kernel) oO_129 fF_11_240 (af_K (by decide) hi2) ⟨by decide, Or.inl (by decide)⟩ rfl ?_
        generalize eM7 : ak_sI M6 (65 + 6 + i2) 2 (ak_I M6 (65 + 6 + i2) 5) = M7
        have hLM7 : ab_lay M7 := by rw [← eM7]; exact ab_lay.sI hLM6
        replace h := h M7 eM7.symm
        refine w_aload_n (n := 64) (i := 2) (by decide +kernel) rfl rfl ?_
        refine w_bipush (n := 66) (v := 20) (x := 20) (by decide +kernel) rfl (by decide) ?_
        refine w_aload_n (n := 67) (i := 2) (by decide +kernel) rfl rfl ?_
        refine w_getI (n := 70) hLM7 (by decide +kernel) oO_129 fF_11_283 (af_K (by decide) hi2) (by decide) rfl ?_
        obtain ⟨v9, M8, hLM8, hr13, h⟩ := h
        refine w_cS (n := 73) (idx := 244) (cal := 316) (na := 2) (nl := 2) (as := [.int 20, .int (ak_I M7 (65 + 6 + i2) 6)]) (rest := [.ref (65 + 6 + i2)]) (by decide +kernel) (by decide +kernel) rfl rfl rfl (Nat.le_of_ble_eq_true rfl) rfl hr13 ?_
        refine w_putI (n := 76) hLM8 (by decide +kernel) oO_129 fF_11_229 (af_K (by decide) hi2) ⟨by decide, Or.inl (by decide)⟩ rfl ?_
        generalize eM10 : ak_sI M8 (65 + 6 + i2) 3 v9 = M10
        have hLM10 : ab_lay M10 := by rw [← eM10]; exact ab_lay.sI hLM8
        replace h := h M10 eM10.symm
        refine w_aload_n (n := 77) (i := 0) (by decide +kernel) rfl rfl ?_
        refine w_getR (n := 80) hLM10 (by decide +kernel) oO_129 fF_11_42 (at_0) (by decide) (ar_0_4) rfl ?_
        refine w_iconst (n := 81) (v := 4) (x := 4) (by decide +kernel) rfl (by decide) ?_
        refine w_iload_n (n := 82) (i := 1) (by decide +kernel) rfl rfl ?_
        refine w_iconst (n := 83) (v := -1) (x := (-1)) (by decide +kernel) rfl (by decide) ?_
        obtain ⟨M11, hLM11, hr12, h⟩ := h
        refine w_cV (n := 86) (idx := 286) (cal := 18) (na := 3) (nl := 4) (as := [.int 4, .int x1, .int ((-1))]) (rest := []) hLM10 (by decide +kernel) (by decide +kernel) (af_F (by decide)) (by decide +kernel) rfl rfl rfl (Nat.le_of_ble_eq_true rfl) rfl hr12 ?_
        refine w_aload_n (n := 87) (i := 2) (by decide +kernel) rfl rfl ?_
        refine w_getI (n := 90) hLM11 (by decide +kernel) oO_129 fF_11_229 (af_K (by decide) hi2) (by decide) rfl ?_
        subst h
        exact w_ireturn (by decide +kernel) (w_okI (by decide +kernel))
      · exact w_tS (idx := 177) (cal := 147) (na := 1) (nl := 1) (as := [.int 0]) (rest := []) (by decide +kernel) (by decide +kernel) rfl rfl rfl (Nat.le_of_ble_eq_true rfl) (by decide +kernel) (by decide +kernel) hr18
  · exact w_tV (idx := 141) (cal := 144) (na := 1) (nl := 2) (as := [.int x1]) (rest := []) hL (by decide +kernel) (by decide +kernel) (at_0) (by decide +kernel) rfl rfl rfl (Nat.le_of_ble_eq_true rfl) (by decide +kernel) (by decide +kernel) hr39
theorem t_130 {X : ak_X} {M : ak_M} {r : ak_O × ak_M} (hL : ab_lay M) (x1 : Int32) (x2 : Int32) (h : ((∃ (M1 : ak_M), ab_lay M1 ∧ rn X 144 [.ref 0, .int x1] M (.inl (none), M1) ∧ ((∃ (M2 : ak_M), ab_lay M2 ∧ rn X 146 [.int x2, .int ((-9)), .int 9] M1 (.inl (none), M2) ∧ (∃ (M3 : ak_M), ab_lay M3 ∧ rn X 30 [.ref 161, .ref 65] M2 (.inl (none), M3) ∧ (∃ i4 : Nat, i4 < 10 ∧ ab_ix x1 i4 10 ∧ (∃ i5 : Nat, i5 < 10 ∧ ab_ix x1 i5 10 ∧ (∀ M6 : ak_M, M6 = ak_sI M3 (65 + 6 + i5) 7 x2 → r = (.inl (some (.int (ak_I M3 (65 + 6 + i4) 7))), M6)))))) ∨ ∃ (E9 : Nat) (M10 : ak_M), rn X 146 [.int x2, .int ((-9)), .int 9] M1 (.inr E9, M10) ∧ r = (.inr E9, M10))) ∨ ∃ (E13 : Nat) (M14 : ak_M), rn X 144 [.ref 0, .int x1] M (.inr E13, M14) ∧ r = (.inr E13, M14))) : rn X 130 [.ref 0, .int x1, .int x2] M r := by
  refine w_rn (nL := 4) (l1 := [some (.ref 0), some (.int x1), some (.int x2), none]) (by decide +kernel) rfl rfl ?_
  refine w_aload_n (n := 1) (i := 0) (by decide +kernel) rfl rfl ?_
  refine w_iload_n (n := 2) (i := 1) (by decide +kernel) rfl rfl ?_
  rcases h with h | ⟨E13, M14, hr15, rfl⟩
  · obtain ⟨M1, hLM1, hr12, h⟩ := h
    refine w_cV (n := 5) (idx := 141) (cal := 144) (na := 1) (nl := 2) (as := [.int x1]) (rest := []) hL (by decide +kernel) (by decide +kernel) (at_0) (by decide +kernel) rfl rfl rfl (Nat.le_of_ble_eq_true rfl) rfl hr12 ?_
    refine w_iload_n (n := 6) (i := 2) (by decide +kernel) rfl rfl ?_
    refine w_bipush (n := 8) (v := -9) (x := (-9)) (by decide +kernel) rfl (by decide) ?_
    refine w_bipush (n := 10) (v := 9) (x := 9) (by decide +kernel) rfl (by decide) ?_
    rcases h with h | ⟨E9, M10, hr11, rfl⟩
    · obtain ⟨M2, hLM2, hr8, h⟩ := h
      refine w_cS (n := 13) (idx := 144) (cal := 146) (na := 3) (nl := 3) (as := [.int x2, .int ((-9)), .int 9]) (rest := []) (by decide +kernel) (by decide +kernel) rfl rfl rfl (Nat.le_of_ble_eq_true rfl) rfl hr8 ?_
      refine w_aload_n (n := 14) (i := 0) (by decide +kernel) rfl rfl ?_
      refine w_getR (n := 17) hLM2 (by decide +kernel) oO_130 fF_11_55 (at_0) (by decide) (ar_0_7) rfl ?_
      refine w_aload_n (n := 18) (i := 0) (by decide +kernel) rfl rfl ?_
      refine w_getR (n := 21) hLM2 (by decide +kernel) oO_130 fF_11_42 (at_0) (by decide) (ar_0_4) rfl ?_
      obtain ⟨M3, hLM3, hr7, h⟩ := h
      refine w_cV (n := 24) (idx := 280) (cal := 30) (na := 1) (nl := 2) (as := [.ref 65]) (rest := []) hLM2 (by decide +kernel) (by decide +kernel) (at_161) (by decide +kernel) rfl rfl rfl (Nat.le_of_ble_eq_true rfl) rfl hr7 ?_
      refine w_aload_n (n := 25) (i := 0) (by decide +kernel) rfl rfl ?_
      refine w_getR (n := 28) hLM3 (by decide +kernel) oO_130 fF_11_42 (at_0) (by decide) (ar_0_4) rfl ?_
      refine w_getR (n := 31) hLM3 (by decide +kernel) oO_130 fF_11_148 (af_F (by decide)) (by decide) (ag_KA (by decide)) rfl ?_
      refine w_iload_n (n := 32) (i := 1) (by decide +kernel) rfl rfl ?_
      obtain ⟨i4, hi4, gi4, h⟩ := h
      refine w_aald (n := 33) hLM3 (by decide +kernel) (af_KA (by decide)) (by decide) (ax_KA (by decide)) gi4 (ai_KA (by decide) hi4) rfl ?_
      refine w_getI (n := 36) hLM3 (by decide +kernel) oO_130 fF_11_289 (af_K (by decide) hi4) (by decide) rfl ?_
      refine w_istore_n (n := 37) (i := 3) (l1' := [some (.ref 0), some (.int x1), some (.int x2), some (.int (ak_I M3 (65 + 6 + i4) 7))]) (l2' := []) (by decide +kernel) rfl (Nat.le_of_ble_eq_true rfl) rfl rfl ?_
      refine w_aload_n (n := 38) (i := 0) (by decide +kernel) rfl rfl ?_
      refine w_getR (n := 41) hLM3 (by decide +kernel) oO_130 fF_11_42 (at_0) (by decide) (ar_0_4) rfl ?_
      refine w_getR (n := 44) hLM3 (by decide +kernel) oO_130 fF_11_148 (af_F (by decide)) (by decide) (ag_KA (by decide)) rfl ?_
      refine w_iload_n (n := 45) (i := 1) (by decide +kernel) rfl rfl ?_
      obtain ⟨i5, hi5, gi5, h⟩ := h
      refine w_aald (n := 46) hLM3 (by decide +kernel) (af_KA (by decide)) (by decide) (ax_KA (by decide)) gi5 (ai_KA (by decide) hi5) rfl ?_
      refine w_iload_n (n := 47) (i := 2) (by decide +kernel) rfl rfl ?_
      refine w_putI (n := 50) hLM3 (by decide +kernel) oO_130 fF_11_289 (af_K (by decide) hi5) ⟨by decide, Or.inl (by decide)⟩ rfl ?_
      generalize eM6 : ak_sI M3 (65 + 6 + i5) 7 x2 = M6
      have hLM6 : ab_lay M6 := by rw [← eM6]; exact ab_lay.sI hLM3
      replace h := h M6 eM6.symm
      refine w_iload_n (n := 51) (i := 3) (by decide +kernel) rfl rfl ?_
      subst h
      exact w_ireturn (by decide +kernel) (w_okI (by decide +kernel))
    · exact w_tS (idx := 144) (cal := 146) (na := 3) (nl := 3) (as := [.int x2, .int ((-9)), .int 9]) (rest := []) (by decide +kernel) (by decide +kernel) rfl rfl rfl (Nat.le_of_ble_eq_true rfl) (by decide +kernel) (by decide +kernel) hr11
  · exact w_tV (idx := 141) (cal := 144) (na := 1) (nl := 2) (as := [.int x1]) (rest := []) hL (by decide +kernel) (by decide +kernel) (at_0) (by decide +kernel) rfl rfl rfl (Nat.le_of_ble_eq_true rfl) (by decide +kernel) (by decide +kernel) hr15
theorem t_131 {X : ak_X} {M : ak_M} {r : ak_O × ak_M} (hL : ab_lay M) (x1 : Int32) (h : ((∃ (M1 : ak_M), ab_lay M1 ∧ rn X 144 [.ref 0, .int x1] M (.inl (none), M1) ∧ (∃ i2 : Nat, i2 < 10 ∧ ab_ix x1 i2 10 ∧ (if ak_I M1 (65 + 6 + i2) 0 = 0 then ((∃ (M11 : ak_M), ab_lay M11 ∧ rn X 147 [.int 1] M1 (.inl (none), M11) ∧ (∃ (M12 : ak_M), ab_lay M12 ∧ rn X 30 [.ref 161, .ref 65] M11 (.inl (none), M12) ∧ (∀ M13 : ak_M, M13 = ak_sI M12 (65 + 6 + i2) 0 2 → r = (.inl (some (.int (ak_I M13 (65 + 6 + i2) 3))), M13)))) ∨ ∃ (E16 : Nat) (M17 : ak_M), rn X 147 [.int 1] M1 (.inr E16, M17) ∧ r = (.inr E16, M17)) else ((∃ (M3 : ak_M), ab_lay M3 ∧ rn X 147 [.int 0] M1 (.inl (none), M3) ∧ (∃ (M4 : ak_M), ab_lay M4 ∧ rn X 30 [.ref 161, .ref 65] M3 (.inl (none), M4) ∧ (∀ M5 : ak_M, M5 = ak_sI M4 (65 + 6 + i2) 0 2 → r = (.inl (some (.int (ak_I M5 (65 + 6 + i2) 3))), M5)))) ∨ ∃ (E8 : Nat) (M9 : ak_M), rn X 147 [.int 0] M1 (.inr E8, M9) ∧ r = (.inr E8, M9))))) ∨ ∃ (E21 : Nat) (M22 : ak_M), rn X 144 [.ref 0, .int x1] M (.inr E21, M22) ∧ r = (.inr E21, M22))) : rn X 131 [.ref 0, .int x1] M r := by
  refine w_rn (nL := 3) (l1 := [some (.ref 0), some (.int x1), none]) (by decide +kernel) rfl rfl ?_
  refine w_aload_n (n := 1) (i := 0) (by decide +kernel) rfl rfl ?_
  refine w_iload_n (n := 2) (i := 1) (by decide +kernel) rfl rfl ?_
  rcases h with h | ⟨E21, M22, hr23, rfl⟩
  · obtain ⟨M1, hLM1, hr20, h⟩ := h
    refine w_cV (n := 5) (idx := 141) (cal := 144) (na := 1) (nl := 2) (as := [.int x1]) (rest := []) hL (by decide +kernel) (by decide +kernel) (at_0) (by decide +kernel) rfl rfl rfl (Nat.le_of_ble_eq_true rfl) rfl hr20 ?_
    refine w_aload_n (n := 6) (i := 0) (by decide +kernel) rfl rfl ?_
    refine w_getR (n := 9) hLM1 (by decide +kernel) oO_131 fF_11_42 (at_0) (by decide) (ar_0_4) rfl ?_
    refine w_getR (n := 12) hLM1 (by decide +kernel) oO_131 fF_11_148 (af_F (by decide)) (by decide) (ag_KA (by decide)) rfl ?_
    refine w_iload_n (n := 13) (i := 1) (by decide +kernel) rfl rfl ?_
    obtain ⟨i2, hi2, gi2, h⟩ := h
    refine w_aald (n := 14) hLM1 (by decide +kernel) (af_KA (by decide)) (by decide) (ax_KA (by decide)) gi2 (ai_KA (by decide) hi2) rfl ?_
    refine w_astore_n (n := 15) (i := 2) (l1' := [some (.ref 0), some (.int x1), some (.ref (65 + 6 + i2))]) (l2' := []) (by decide +kernel) rfl (Nat.le_of_ble_eq_true rfl) rfl rfl ?_
    refine w_aload_n (n := 16) (i := 2) (by decide +kernel) rfl rfl ?_
    refine w_getI (n := 19) hLM1 (by decide +kernel) oO_131 fF_11_170 (af_K (by decide) hi2) (by decide) rfl ?_
    by_cases c19 : ak_I M1 (65 + 6 + i2) 0 = 0
    · rw [if_pos c19] at h
      refine w_if_ne_n (n := 22) (off := 7) (by decide +kernel) rfl c19 ?_
      refine w_iconst (n := 23) (v := 1) (x := 1) (by decide +kernel) rfl (by decide) ?_
      refine w_goto (n := 27) (off := 4) (by decide +kernel) (by decide) ?_
      rcases h with h | ⟨E16, M17, hr18, rfl⟩
      · obtain ⟨M11, hLM11, hr15, h⟩ := h
        refine w_cS (n := 30) (idx := 177) (cal := 147) (na := 1) (nl := 1) (as := [.int 1]) (rest := []) (by decide +kernel) (by decide +kernel) rfl rfl rfl (Nat.le_of_ble_eq_true rfl) rfl hr15 ?_
        refine w_aload_n (n := 31) (i := 0) (by decide +kernel) rfl rfl ?_
        refine w_getR (n := 34) hLM11 (by decide +kernel) oO_131 fF_11_55 (at_0) (by decide) (ar_0_7) rfl ?_
        refine w_aload_n (n := 35) (i := 0) (by decide +kernel) rfl rfl ?_
        refine w_getR (n := 38) hLM11 (by decide +kernel) oO_131 fF_11_42 (at_0) (by decide) (ar_0_4) rfl ?_
        obtain ⟨M12, hLM12, hr14, h⟩ := h
        refine w_cV (n := 41) (idx := 280) (cal := 30) (na := 1) (nl := 2) (as := [.ref 65]) (rest := []) hLM11 (by decide +kernel) (by decide +kernel) (at_161) (by decide +kernel) rfl rfl rfl (Nat.le_of_ble_eq_true rfl) rfl hr14 ?_
        refine w_aload_n (n := 42) (i := 2) (by decide +kernel) rfl rfl ?_
        refine w_iconst (n := 43) (v := 2) (x := 2) (by decide +kernel) rfl (by decide) ?_
        refine w_putI (n := 46) hLM12 (by decide +kernel) oO_131 fF_11_170 (af_K (by decide) hi2) ⟨by decide, Or.inl (by decide)⟩ rfl ?_
        generalize eM13 : ak_sI M12 (65 + 6 + i2) 0 2 = M13
        have hLM13 : ab_lay M13 := by rw [← eM13]; exact ab_lay.sI hLM12
        replace h := h M13 eM13.symm
        refine w_aload_n (n := 47) (i := 2) (by decide +kernel) rfl rfl ?_
        refine w_getI (n := 50) hLM13 (by decide +kernel) oO_131 fF_11_229 (af_K (by decide) hi2) (by decide) rfl ?_
        subst h
        exact w_ireturn (by decide +kernel) (w_okI (by decide +kernel))
      · exact w_tS (idx := 177) (cal := 147) (na := 1) (nl := 1) (as := [.int 1]) (rest := []) (by decide +kernel) (by decide +kernel) rfl rfl rfl (Nat.le_of_ble_eq_true rfl) (by decide +kernel) (by decide +kernel) hr18
    · rw [if_neg c19] at h
      refine w_if_ne_j (n := 26) (off := 7) (by decide +kernel) (by decide) c19 ?_
      refine w_iconst (n := 27) (v := 0) (x := 0) (by decide +kernel) rfl (by decide) ?_
      rcases h with h | ⟨E8, M9, hr10, rfl⟩
      · obtain ⟨M3, hLM3, hr7, h⟩ := h
        refine w_cS (n := 30) (idx := 177) (cal := 147) (na := 1) (nl := 1) (as := [.int 0]) (rest := []) (by decide +kernel) (by decide +kernel) rfl rfl rfl (Nat.le_of_ble_eq_true rfl) rfl hr7 ?_
        refine w_aload_n (n := 31) (i := 0) (by decide +kernel) rfl rfl ?_
        refine w_getR (n := 34) hLM3 (by decide +kernel) oO_131 fF_11_55 (at_0) (by decide) (ar_0_7) rfl ?_
        refine w_aload_n (n := 35) (i := 0) (by decide +kernel) rfl rfl ?_
        refine w_getR (n := 38) hLM3 (by decide +kernel) oO_131 fF_11_42 (at_0) (by decide) (ar_0_4) rfl ?_
        obtain ⟨M4, hLM4, hr6, h⟩ := h
        refine w_cV (n := 41) (idx := 280) (cal := 30) (na := 1) (nl := 2) (as := [.ref 65]) (rest := []) hLM3 (by decide +kernel) (by decide +kernel) (at_161) (by decide +kernel) rfl rfl rfl (Nat.le_of_ble_eq_true rfl) rfl hr6 ?_
        refine w_aload_n (n := 42) (i := 2) (by decide +kernel) rfl rfl ?_
        refine w_iconst (n := 43) (v := 2) (x := 2) (by decide +kernel) rfl (by decide) ?_
        refine w_putI (n := 46) hLM4 (by decide +kernel) oO_131 fF_11_170 (af_K (by decide) hi2) ⟨by decide, Or.inl (by decide)⟩ rfl ?_
        generalize eM5 : ak_sI M4 (65 + 6 + i2) 0 2 = M5
        have hLM5 : ab_lay M5 := by rw [← eM5]; exact ab_lay.sI hLM4
        replace h := h M5 eM5.symm
        refine w_aload_n (n := 47) (i := 2) (by decide +kernel) rfl rfl ?_
        refine w_getI (n := 50) hLM5 (by decide +kernel) oO_131 fF_11_229 (af_K (by decide) hi2) (by decide) rfl ?_
        subst h
        exact w_ireturn (by decide +kernel) (w_okI (by decide +kernel))
      · exact w_tS (idx := 177) (cal := 147) (na := 1) (nl := 1) (as := [.int 0]) (rest := []) (by decide +kernel) (by decide +kernel) rfl rfl rfl (Nat.le_of_ble_eq_true rfl) (by decide +kernel) (by decide +kernel) hr10
  · exact w_tV (idx := 141) (cal := 144) (na := 1) (nl := 2) (as := [.int x1]) (rest := []) hL (by decide +kernel) (by decide +kernel) (at_0) (by decide +kernel) rfl rfl rfl (Nat.le_of_ble_eq_true rfl) (by decide +kernel) (by decide +kernel) hr23
theorem t_132 {X : ak_X} {M : ak_M} {r : ak_O × ak_M} (hL : ab_lay M) (x1 : Int32) (x2 : Int32) (h : ((∃ (M1 : ak_M), ab_lay M1 ∧ rn X 144 [.ref 0, .int x1] M (.inl (none), M1) ∧ ((∃ (M2 : ak_M), ab_lay M2 ∧ rn X 146 [.int x2, .int 1, .int 400] M1 (.inl (none), M2) ∧ (∃ i3 : Nat, i3 < 10 ∧ ab_ix x1 i3 10 ∧ (if ak_I M2 (65 + 6 + i3) 0 = 0 then ((∃ (M4 : ak_M), ab_lay M4 ∧ rn X 147 [.int 1] M2 (.inl (none), M4) ∧ (∃ (M5 : ak_M), ab_lay M5 ∧ rn X 30 [.ref 161, .ref 65] M4 (.inl (none), M5) ∧ (∀ M6 : ak_M, M6 = ak_sI M5 (65 + 6 + i3) 6 x2 → r = (.inl (some (.int (ak_I M5 (65 + 6 + i3) 6))), M6)))) ∨ ∃ (E9 : Nat) (M10 : ak_M), rn X 147 [.int 1] M2 (.inr E9, M10) ∧ r = (.inr E9, M10)) else (if ak_I M2 (65 + 6 + i3) 0 = 1 then ((∃ (M20 : ak_M), ab_lay M20 ∧ rn X 147 [.int 1] M2 (.inl (none), M20) ∧ (∃ (M21 : ak_M), ab_lay M21 ∧ rn X 30 [.ref 161, .ref 65] M20 (.inl (none), M21) ∧ (∀ M22 : ak_M, M22 = ak_sI M21 (65 + 6 + i3) 6 x2 → r = (.inl (some (.int (ak_I M21 (65 + 6 + i3) 6))), M22)))) ∨ ∃ (E25 : Nat) (M26 : ak_M), rn X 147 [.int 1] M2 (.inr E25, M26) ∧ r = (.inr E25, M26)) else ((∃ (M12 : ak_M), ab_lay M12 ∧ rn X 147 [.int 0] M2 (.inl (none), M12) ∧ (∃ (M13 : ak_M), ab_lay M13 ∧ rn X 30 [.ref 161, .ref 65] M12 (.inl (none), M13) ∧ (∀ M14 : ak_M, M14 = ak_sI M13 (65 + 6 + i3) 6 x2 → r = (.inl (some (.int (ak_I M13 (65 + 6 + i3) 6))), M14)))) ∨ ∃ (E17 : Nat) (M18 : ak_M), rn X 147 [.int 0] M2 (.inr E17, M18) ∧ r = (.inr E17, M18)))))) ∨ ∃ (E31 : Nat) (M32 : ak_M), rn X 146 [.int x2, .int 1, .int 400] M1 (.inr E31, M32) ∧ r = (.inr E31, M32))) ∨ ∃ (E35 : Nat) (M36 : ak_M), rn X 144 [.ref 0, .int x1] M (.inr E35, M36) ∧ r = (.inr E35, M36))) : rn X 132 [.ref 0, .int x1, .int x2] M r := by
  refine w_rn (nL := 5) (l1 := [some (.ref 0), some (.int x1), some (.int x2), none, none]) (by decide +kernel) rfl rfl ?_
  refine w_aload_n (n := 1) (i := 0) (by decide +kernel) rfl rfl ?_
  refine w_iload_n (n := 2) (i := 1) (by decide +kernel) rfl rfl ?_
  rcases h with h | ⟨E35, M36, hr37, rfl⟩
  · obtain ⟨M1, hLM1, hr34, h⟩ := h
    refine w_cV (n := 5) (idx := 141) (cal := 144) (na := 1) (nl := 2) (as := [.int x1]) (rest := []) hL (by decide +kernel) (by decide +kernel) (at_0) (by decide +kernel) rfl rfl rfl (Nat.le_of_ble_eq_true rfl) rfl hr34 ?_
    refine w_iload_n (n := 6) (i := 2) (by decide +kernel) rfl rfl ?_
    refine w_iconst (n := 7) (v := 1) (x := 1) (by decide +kernel) rfl (by decide) ?_
    refine w_sipush (n := 10) (v := 400) (x := 400) (by decide +kernel) rfl (by decide) ?_
    rcases h with h | ⟨E31, M32, hr33, rfl⟩
    · obtain ⟨M2, hLM2, hr30, h⟩ := h
      refine w_cS (n := 13) (idx := 144) (cal := 146) (na := 3) (nl := 3) (as := [.int x2, .int 1, .int 400]) (rest := []) (by decide +kernel) (by decide +kernel) rfl rfl rfl (Nat.le_of_ble_eq_true rfl) rfl hr30 ?_
      refine w_aload_n (n := 14) (i := 0) (by decide +kernel) rfl rfl ?_
      refine w_getR (n := 17) hLM2 (by decide +kernel) oO_132 fF_11_42 (at_0) (by decide) (ar_0_4) rfl ?_
      refine w_getR (n := 20) hLM2 (by decide +kernel) oO_132 fF_11_148 (af_F (by decide)) (by decide) (ag_KA (by decide)) rfl ?_
      refine w_iload_n (n := 21) (i := 1) (by decide +kernel) rfl rfl ?_
      obtain ⟨i3, hi3, gi3, h⟩ := h
      refine w_aald (n := 22) hLM2 (by decide +kernel) (af_KA (by decide)) (by decide) (ax_KA (by decide)) gi3 (ai_KA (by decide) hi3) rfl ?_
      refine w_astore_n (n := 23) (i := 3) (l1' := [some (.ref 0), some (.int x1), some (.int x2), some (.ref (65 + 6 + i3)), none]) (l2' := []) (by decide +kernel) rfl (Nat.le_of_ble_eq_true rfl) rfl rfl ?_
      refine w_aload_n (n := 24) (i := 3) (by decide +kernel) rfl rfl ?_
      refine w_getI (n := 27) hLM2 (by decide +kernel) oO_132 fF_11_170 (af_K (by decide) hi3) (by decide) rfl ?_
      by_cases c29 : ak_I M2 (65 + 6 + i3) 0 = 0
      · rw [if_pos c29] at h
        refine w_if_eq_j (n := 38) (off := 11) (by decide +kernel) (by decide) c29 ?_
        refine w_iconst (n := 39) (v := 1) (x := 1) (by decide +kernel) rfl (by decide) ?_
        refine w_goto (n := 43) (off := 4) (by decide +kernel) (by decide) ?_
        rcases h with h | ⟨E9, M10, hr11, rfl⟩
        · obtain ⟨M4, hLM4, hr8, h⟩ := h
          refine w_cS (n := 46) (idx := 177) (cal := 147) (na := 1) (nl := 1) (as := [.int 1]) (rest := []) (by decide +kernel) (by decide +kernel) rfl rfl rfl (Nat.le_of_ble_eq_true rfl) rfl hr8 ?_
          refine w_aload_n (n := 47) (i := 0) (by decide +kernel) rfl rfl ?_
          refine w_getR (n := 50) hLM4 (by decide +kernel) oO_132 fF_11_55 (at_0) (by decide) (ar_0_7) rfl ?_
          refine w_aload_n (n := 51) (i := 0) (by decide +kernel) rfl rfl ?_
          refine w_getR (n := 54) hLM4 (by decide +kernel) oO_132 fF_11_42 (at_0) (by decide) (ar_0_4) rfl ?_
          obtain ⟨M5, hLM5, hr7, h⟩ := h
          refine w_cV (n := 57) (idx := 280) (cal := 30) (na := 1) (nl := 2) (as := [.ref 65]) (rest := []) hLM4 (by decide +kernel) (by decide +kernel) (at_161) (by decide +kernel) rfl rfl rfl (Nat.le_of_ble_eq_true rfl) rfl hr7 ?_
          refine w_aload_n (n := 58) (i := 3) (by decide +kernel) rfl rfl ?_
          refine w_getI (n := 61) hLM5 (by decide +kernel) oO_132 fF_11_283 (af_K (by decide) hi3) (by decide) rfl ?_
          refine w_istore (n := 63) (i := 4) (l1' := [some (.ref 0), some (.int x1), some (.int x2), some (.ref (65 + 6 + i3)), some (.int (ak_I M5 (65 + 6 + i3) 6))]) (l2' := []) (by decide +kernel) rfl (Nat.le_of_ble_eq_true rfl) rfl rfl ?_
          refine w_aload_n (n := 64) (i := 3) (by decide +kernel) rfl rfl ?_
          refine w_iload_n (n := 65) (i := 2) (by decide +kernel) rfl rfl ?_
          refine w_putI (n := 68) hLM5 (by decide +kernel) oO_132 fF_11_283 (af_K (by decide) hi3) ⟨by decide, Or.inl (by decide)⟩ rfl ?_
          generalize eM6 : ak_sI M5 (65 + 6 + i3) 6 x2 = M6
          have hLM6 : ab_lay M6 := by rw [← eM6]; exact ab_lay.sI hLM5
          replace h := h M6 eM6.symm
          refine w_iload (n := 70) (i := 4) (by decide +kernel) rfl rfl ?_
          subst h
          exact w_ireturn (by decide +kernel) (w_okI (by decide +kernel))
        · exact w_tS (idx := 177) (cal := 147) (na := 1) (nl := 1) (as := [.int 1]) (rest := []) (by decide +kernel) (by decide +kernel) rfl rfl rfl (Nat.le_of_ble_eq_true rfl) (by decide +kernel) (by decide +kernel) hr11
      · rw [if_neg c29] at h
        refine w_if_eq_n (n := 30) (off := 11) (by decide +kernel) rfl c29 ?_
        refine w_aload_n (n := 31) (i := 3) (by decide +kernel) rfl rfl ?_
        refine w_getI (n := 34) hLM2 (by decide +kernel) oO_132 fF_11_170 (af_K (by decide) hi3) (by decide) rfl ?_
        refine w_iconst (n := 35) (v := 1) (x := 1) (by decide +kernel) rfl (by decide) ?_
        by_cases c28 : ak_I M2 (65 + 6 + i3) 0 = 1
        · rw [if_pos c28] at h
          refine w_icmp_ne_n (n := 38) (off := 7) (by decide +kernel) rfl c28 ?_
          refine w_iconst (n := 39) (v := 1) (x := 1) (by decide +kernel) rfl (by decide) ?_
          refine w_goto (n := 43) (off := 4) (by decide +kernel) (by decide) ?_
          rcases h with h | ⟨E25, M26, hr27, rfl⟩
          · obtain ⟨M20, hLM20, hr24, h⟩ := h
            refine w_cS (n := 46) (idx := 177) (cal := 147) (na := 1) (nl := 1) (as := [.int 1]) (rest := []) (by decide +kernel) (by decide +kernel) rfl rfl rfl (Nat.le_of_ble_eq_true rfl) rfl hr24 ?_
            refine w_aload_n (n := 47) (i := 0) (by decide +kernel) rfl rfl ?_
            refine w_getR (n := 50) hLM20 (by decide +kernel) oO_132 fF_11_55 (at_0) (by decide) (ar_0_7) rfl ?_
            refine w_aload_n (n := 51) (i := 0) (by decide +kernel) rfl rfl ?_
            refine w_getR (n := 54) hLM20 (by decide +kernel) oO_132 fF_11_42 (at_0) (by decide) (ar_0_4) rfl ?_
            obtain ⟨M21, hLM21, hr23, h⟩ := h
            refine w_cV (n := 57) (idx := 280) (cal := 30) (na := 1) (nl := 2) (as := [.ref 65]) (rest := []) hLM20 (by decide +kernel) (by decide +kernel) (at_161) (by decide +kernel) rfl rfl rfl (Nat.le_of_ble_eq_true rfl) rfl hr23 ?_
            refine w_aload_n (n := 58) (i := 3) (by decide +kernel) rfl rfl ?_
            refine w_getI (n := 61) hLM21 (by decide +kernel) oO_132 fF_11_283 (af_K (by decide) hi3) (by decide) rfl ?_
            refine w_istore (n := 63) (i := 4) (l1' := [some (.ref 0), some (.int x1), some (.int x2), some (.ref (65 + 6 + i3)), some (.int (ak_I M21 (65 + 6 + i3) 6))]) (l2' := []) (by decide +kernel) rfl (Nat.le_of_ble_eq_true rfl) rfl rfl ?_
            refine w_aload_n (n := 64) (i := 3) (by decide +kernel) rfl rfl ?_
            refine w_iload_n (n := 65) (i := 2) (by decide +kernel) rfl rfl ?_
            refine w_putI (n := 68) hLM21 (by decide +kernel) oO_132 fF_11_283 (af_K (by decide) hi3) ⟨by decide, Or.inl (by decide)⟩ rfl ?_
            generalize eM22 : ak_sI M21 (65 + 6 + i3) 6 x2 = M22
            have hLM22 : ab_lay M22 := by rw [← eM22]; exact ab_lay.sI hLM21
            replace h := h M22 eM22.symm
            refine w_iload (n := 70) (i := 4) (by decide +kernel) rfl rfl ?_
            subst h
            exact w_ireturn (by decide +kernel) (w_okI (by decide +kernel))
          · exact w_tS (idx := 177) (cal := 147) (na := 1) (nl := 1) (as := [.int 1]) (rest := []) (by decide +kernel) (by decide +kernel) rfl rfl rfl (Nat.le_of_ble_eq_true rfl) (by decide +kernel) (by decide +kernel) hr27
        · rw [if_neg c28] at h
          refine w_icmp_ne_j (n := 42) (off := 7) (by decide +kernel) (by decide) c28 ?_
          refine w_iconst (n := 43) (v := 0) (x := 0) (by decide +kernel) rfl (by decide) ?_
          rcases h with h | ⟨E17, M18, hr19, rfl⟩
          · obtain ⟨M12, hLM12, hr16, h⟩ := h
            refine w_cS (n := 46) (idx := 177) (cal := 147) (na := 1) (nl := 1) (as := [.int 0]) (rest := []) (by decide +kernel) (by decide +kernel) rfl rfl rfl (Nat.le_of_ble_eq_true rfl) rfl hr16 ?_
            refine w_aload_n (n := 47) (i := 0) (by decide +kernel) rfl rfl ?_
            refine w_getR (n := 50) hLM12 (by decide +kernel) oO_132 fF_11_55 (at_0) (by decide) (ar_0_7) rfl ?_
            refine w_aload_n (n := 51) (i := 0) (by decide +kernel) rfl rfl ?_
            refine w_getR (n := 54) hLM12 (by decide +kernel) oO_132 fF_11_42 (at_0) (by decide) (ar_0_4) rfl ?_
            obtain ⟨M13, hLM13, hr15, h⟩ := h
            refine w_cV (n := 57) (idx := 280) (cal := 30) (na := 1) (nl := 2) (as := [.ref 65]) (rest := []) hLM12 (by decide +kernel) (by decide +kernel) (at_161) (by decide +kernel) rfl rfl rfl (Nat.le_of_ble_eq_true rfl) rfl hr15 ?_
            refine w_aload_n (n := 58) (i := 3) (by decide +kernel) rfl rfl ?_
            refine w_getI (n := 61) hLM13 (by decide +kernel) oO_132 fF_11_283 (af_K (by decide) hi3) (by decide) rfl ?_
            refine w_istore (n := 63) (i := 4) (l1' := [some (.ref 0), some (.int x1), some (.int x2), some (.ref (65 + 6 + i3)), some (.int (ak_I M13 (65 + 6 + i3) 6))]) (l2' := []) (by decide +kernel) rfl (Nat.le_of_ble_eq_true rfl) rfl rfl ?_
            refine w_aload_n (n := 64) (i := 3) (by decide +kernel) rfl rfl ?_
            refine w_iload_n (n := 65) (i := 2) (by decide +kernel) rfl rfl ?_
            refine w_putI (n := 68) hLM13 (by decide +kernel) oO_132 fF_11_283 (af_K (by decide) hi3) ⟨by decide, Or.inl (by decide)⟩ rfl ?_
            generalize eM14 : ak_sI M13 (65 + 6 + i3) 6 x2 = M14
            have hLM14 : ab_lay M14 := by rw [← eM14]; exact ab_lay.sI hLM13
            replace h := h M14 eM14.symm
            refine w_iload (n := 70) (i := 4) (by decide +kernel) rfl rfl ?_
            subst h
            exact w_ireturn (by decide +kernel) (w_okI (by decide +kernel))
          · exact w_tS (idx := 177) (cal := 147) (na := 1) (nl := 1) (as := [.int 0]) (rest := []) (by decide +kernel) (by decide +kernel) rfl rfl rfl (Nat.le_of_ble_eq_true rfl) (by decide +kernel) (by decide +kernel) hr19
    · exact w_tS (idx := 144) (cal := 146) (na := 3) (nl := 3) (as := [.int x2, .int 1, .int 400]) (rest := []) (by decide +kernel) (by decide +kernel) rfl rfl rfl (Nat.le_of_ble_eq_true rfl) (by decide +kernel) (by decide +kernel) hr33
  · exact w_tV (idx := 141) (cal := 144) (na := 1) (nl := 2) (as := [.int x1]) (rest := []) hL (by decide +kernel) (by decide +kernel) (at_0) (by decide +kernel) rfl rfl rfl (Nat.le_of_ble_eq_true rfl) (by decide +kernel) (by decide +kernel) hr37
theorem t_133 {X : ak_X} {M : ak_M} {r : ak_O × ak_M} (hL : ab_lay M) (x1 : Int32) (x2 : Int32) (x3 : Int32) (h : ((∃ (M1 : ak_M), ab_lay M1 ∧ rn X 144 [.ref 0, .int x1] M (.inl (none), M1) ∧ ((∃ (M2 : ak_M), ab_lay M2 ∧ rn X 146 [.int x2, .int 0, .int 199] M1 (.inl (none), M2) ∧ ((∃ (M3 : ak_M), ab_lay M3 ∧ rn X 146 [.int x3, .int 0, .int 199] M2 (.inl (none), M3) ∧ (∃ (M4 : ak_M), ab_lay M4 ∧ rn X 30 [.ref 161, .ref 65] M3 (.inl (none), M4) ∧ (∃ i5 : Nat, i5 < 10 ∧ ab_ix x1 i5 10 ∧ (∃ (v7 : Int32) (M6 : ak_M), ab_lay M6 ∧ rn X 314 [.int (x2 - (ak_I M4 (65 + 6 + i5) 4))] M4 (.inl (some (.int v7)), M6) ∧ (∃ (v9 : Int32) (M8 : ak_M), ab_lay M8 ∧ rn X 314 [.int (x3 - (ak_I M6 (65 + 6 + i5) 5))] M6 (.inl (some (.int v9)), M8) ∧ (∀ M10 : ak_M, M10 = ak_sI M8 (65 + 6 + i5) 4 x2 → (∀ M11 : ak_M, M11 = ak_sI M10 (65 + 6 + i5) 5 x3 → (if ak_I M11 (65 + 6 + i5) 0 = 1 then (∀ M12 : ak_M, M12 = ak_sI M11 (65 + 6 + i5) 1 x2 → (∀ M13 : ak_M, M13 = ak_sI M12 (65 + 6 + i5) 2 x3 → r = (.inl (some (.int (v7 + v9))), M13))) else r = (.inl (some (.int (v7 + v9))), M11))))))))) ∨ ∃ (E19 : Nat) (M20 : ak_M), rn X 146 [.int x3, .int 0, .int 199] M2 (.inr E19, M20) ∧ r = (.inr E19, M20))) ∨ ∃ (E23 : Nat) (M24 : ak_M), rn X 146 [.int x2, .int 0, .int 199] M1 (.inr E23, M24) ∧ r = (.inr E23, M24))) ∨ ∃ (E27 : Nat) (M28 : ak_M), rn X 144 [.ref 0, .int x1] M (.inr E27, M28) ∧ r = (.inr E27, M28))) : rn X 133 [.ref 0, .int x1, .int x2, .int x3] M r := by
  refine w_rn (nL := 6) (l1 := [some (.ref 0), some (.int x1), some (.int x2), some (.int x3), none, none]) (by decide +kernel) rfl rfl ?_
  refine w_aload_n (n := 1) (i := 0) (by decide +kernel) rfl rfl ?_
  refine w_iload_n (n := 2) (i := 1) (by decide +kernel) rfl rfl ?_
  rcases h with h | ⟨E27, M28, hr29, rfl⟩
  · obtain ⟨M1, hLM1, hr26, h⟩ := h
    refine w_cV (n := 5) (idx := 141) (cal := 144) (na := 1) (nl := 2) (as := [.int x1]) (rest := []) hL (by decide +kernel) (by decide +kernel) (at_0) (by decide +kernel) rfl rfl rfl (Nat.le_of_ble_eq_true rfl) rfl hr26 ?_
    refine w_iload_n (n := 6) (i := 2) (by decide +kernel) rfl rfl ?_
    refine w_iconst (n := 7) (v := 0) (x := 0) (by decide +kernel) rfl (by decide) ?_
    refine w_sipush (n := 10) (v := 199) (x := 199) (by decide +kernel) rfl (by decide) ?_
    rcases h with h | ⟨E23, M24, hr25, rfl⟩
    · obtain ⟨M2, hLM2, hr22, h⟩ := h
      refine w_cS (n := 13) (idx := 144) (cal := 146) (na := 3) (nl := 3) (as := [.int x2, .int 0, .int 199]) (rest := []) (by decide +kernel) (by decide +kernel) rfl rfl rfl (Nat.le_of_ble_eq_true rfl) rfl hr22 ?_
      refine w_iload_n (n := 14) (i := 3) (by decide +kernel) rfl rfl ?_
      refine w_iconst (n := 15) (v := 0) (x := 0) (by decide +kernel) rfl (by decide) ?_
      refine w_sipush (n := 18) (v := 199) (x := 199) (by decide +kernel) rfl (by decide) ?_
      rcases h with h | ⟨E19, M20, hr21, rfl⟩
      · obtain ⟨M3, hLM3, hr18, h⟩ := h
        refine w_cS (n := 21) (idx := 144) (cal := 146) (na := 3) (nl := 3) (as := [.int x3, .int 0, .int 199]) (rest := []) (by decide +kernel) (by decide +kernel) rfl rfl rfl (Nat.le_of_ble_eq_true rfl) rfl hr18 ?_
        refine w_aload_n (n := 22) (i := 0) (by decide +kernel) rfl rfl ?_
        refine w_getR (n := 25) hLM3 (by decide +kernel) oO_133 fF_11_55 (at_0) (by decide) (ar_0_7) rfl ?_
        refine w_aload_n (n := 26) (i := 0) (by decide +kernel) rfl rfl ?_
        refine w_getR (n := 29) hLM3 (by decide +kernel) oO_133 fF_11_42 (at_0) (by decide) (ar_0_4) rfl ?_
        obtain ⟨M4, hLM4, hr17, h⟩ := h
        refine w_cV (n := 32) (idx := 280) (cal := 30) (na := 1) (nl := 2) (as := [.ref 65]) (rest := []) hLM3 (by decide +kernel) (by decide +kernel) (at_161) (by decide +kernel) rfl rfl rfl (Nat.le_of_ble_eq_true rfl) rfl hr17 ?_
        refine w_aload_n (n := 33) (i := 0) (by decide +kernel) rfl rfl ?_
        refine w_getR (n := 36) hLM4 (by decide +kernel) oO_133 fF_11_42 (at_0) (by decide) (ar_0_4) rfl ?_
        refine w_getR (n := 39) hLM4 (by decide +kernel) oO_133 fF_11_148 (af_F (by decide)) (by decide) (ag_KA (by decide)) rfl ?_
        refine w_iload_n (n := 40) (i := 1) (by decide +kernel) rfl rfl ?_
        obtain ⟨i5, hi5, gi5, h⟩ := h
        refine w_aald (n := 41) hLM4 (by decide +kernel) (af_KA (by decide)) (by decide) (ax_KA (by decide)) gi5 (ai_KA (by decide) hi5) rfl ?_
        refine w_astore (n := 43) (i := 4) (l1' := [some (.ref 0), some (.int x1), some (.int x2), some (.int x3), some (.ref (65 + 6 + i5)), none]) (l2' := []) (by decide +kernel) rfl (Nat.le_of_ble_eq_true rfl) rfl rfl ?_
        refine w_iload_n (n := 44) (i := 2) (by decide +kernel) rfl rfl ?_
        refine w_aload (n := 46) (i := 4) (by decide +kernel) rfl rfl ?_
        refine w_getI (n := 49) hLM4 (by decide +kernel) oO_133 fF_11_250 (af_K (by decide) hi5) (by decide) rfl ?_
        refine w_isub (n := 50) (by decide +kernel) rfl ?_
        obtain ⟨v7, M6, hLM6, hr16, h⟩ := h
        refine w_cS (n := 53) (idx := 292) (cal := 314) (na := 1) (nl := 1) (as := [.int (x2 - (ak_I M4 (65 + 6 + i5) 4))]) (rest := []) (by decide +kernel) (by decide +kernel) rfl rfl rfl (Nat.le_of_ble_eq_true rfl) rfl hr16 ?_
        refine w_iload_n (n := 54) (i := 3) (by decide +kernel) rfl rfl ?_
        refine w_aload (n := 56) (i := 4) (by decide +kernel) rfl rfl ?_
        refine w_getI (n := 59) hLM6 (by decide +kernel) oO_133 fF_11_254 (af_K (by decide) hi5) (by decide) rfl ?_
        refine w_isub (n := 60) (by decide +kernel) rfl ?_
        obtain ⟨v9, M8, hLM8, hr15, h⟩ := h
        refine w_cS (n := 63) (idx := 292) (cal := 314) (na := 1) (nl := 1) (as := [.int (x3 - (ak_I M6 (65 + 6 + i5) 5))]) (rest := [.int v7]) (by decide +kernel) (by decide +kernel) rfl rfl rfl (Nat.le_of_ble_eq_true rfl) rfl hr15 ?_
        refine w_iadd (n := 64) (by decide +kernel) rfl ?_
        refine w_istore (n := 66) (i := 5) (l1' := [some (.ref 0), some (.int x1), some (.int x2), some (.int x3), some (.ref (65 + 6 + i5)), some (.int (v7 + v9))]) (l2' := []) (by decide +kernel) rfl (Nat.le_of_ble_eq_true rfl) rfl rfl ?_
        refine w_aload (n := 68) (i := 4) (by decide +kernel) rfl rfl ?_
        refine w_iload_n (n := 69) (i := 2) (by decide +kernel) rfl rfl ?_
        refine w_putI (n := 72) hLM8 (by decide +kernel) oO_133 fF_11_250 (af_K (by decide) hi5) ⟨by decide, Or.inl (by decide)⟩ rfl ?_
        generalize eM10 : ak_sI M8 (65 + 6 + i5) 4 x2 = M10
        have hLM10 : ab_lay M10 := by rw [← eM10]; exact ab_lay.sI hLM8
        replace h := h M10 eM10.symm
        refine w_aload (n := 74) (i := 4) (by decide +kernel) rfl rfl ?_
        refine w_iload_n (n := 75) (i := 3) (by decide +kernel) rfl rfl ?_
        refine w_putI (n := 78) hLM10 (by decide +kernel) oO_133 fF_11_254 (af_K (by decide) hi5) ⟨by decide, Or.inl (by decide)⟩ rfl ?_
        generalize eM11 : ak_sI M10 (65 + 6 + i5) 5 x3 = M11
        have hLM11 : ab_lay M11 := by rw [← eM11]; exact ab_lay.sI hLM10
        replace h := h M11 eM11.symm
        refine w_aload (n := 80) (i := 4) (by decide +kernel) rfl rfl ?_
        refine w_getI (n := 83) hLM11 (by decide +kernel) oO_133 fF_11_170 (af_K (by decide) hi5) (by decide) rfl ?_
        refine w_iconst (n := 84) (v := 1) (x := 1) (by decide +kernel) rfl (by decide) ?_
        by_cases c14 : ak_I M11 (65 + 6 + i5) 0 = 1
        · rw [if_pos c14] at h
          refine w_icmp_ne_n (n := 87) (off := 15) (by decide +kernel) rfl c14 ?_
          refine w_aload (n := 89) (i := 4) (by decide +kernel) rfl rfl ?_
          refine w_iload_n (n := 90) (i := 2) (by decide +kernel) rfl rfl ?_
          refine w_putI (n := 93) hLM11 (by decide +kernel) oO_133 fF_11_239 (af_K (by decide) hi5) ⟨by decide, Or.inl (by decide)⟩ rfl ?_
          generalize eM12 : ak_sI M11 (65 + 6 + i5) 1 x2 = M12
          have hLM12 : ab_lay M12 := by rw [← eM12]; exact ab_lay.sI hLM11
          replace h := h M12 eM12.symm
          refine w_aload (n := 95) (i := 4) (by decide +kernel) rfl rfl ?_
          refine w_iload_n (n := 96) (i := 3) (by decide +kernel) rfl rfl ?_
          refine w_putI (n := 99) hLM12 (by decide +kernel) oO_133 fF_11_240 (af_K (by decide) hi5) ⟨by decide, Or.inl (by decide)⟩ rfl ?_
          generalize eM13 : ak_sI M12 (65 + 6 + i5) 2 x3 = M13
          have hLM13 : ab_lay M13 := by rw [← eM13]; exact ab_lay.sI hLM12
          replace h := h M13 eM13.symm
          refine w_iload (n := 101) (i := 5) (by decide +kernel) rfl rfl ?_
          subst h
          exact w_ireturn (by decide +kernel) (w_okI (by decide +kernel))
        · rw [if_neg c14] at h
          refine w_icmp_ne_j (n := 99) (off := 15) (by decide +kernel) (by decide) c14 ?_
          refine w_iload (n := 101) (i := 5) (by decide +kernel) rfl rfl ?_
          subst h
          exact w_ireturn (by decide +kernel) (w_okI (by decide +kernel))
      · exact w_tS (idx := 144) (cal := 146) (na := 3) (nl := 3) (as := [.int x3, .int 0, .int 199]) (rest := []) (by decide +kernel) (by decide +kernel) rfl rfl rfl (Nat.le_of_ble_eq_true rfl) (by decide +kernel) (by decide +kernel) hr21
    · exact w_tS (idx := 144) (cal := 146) (na := 3) (nl := 3) (as := [.int x2, .int 0, .int 199]) (rest := []) (by decide +kernel) (by decide +kernel) rfl rfl rfl (Nat.le_of_ble_eq_true rfl) (by decide +kernel) (by decide +kernel) hr25
  · exact w_tV (idx := 141) (cal := 144) (na := 1) (nl := 2) (as := [.int x1]) (rest := []) hL (by decide +kernel) (by decide +kernel) (at_0) (by decide +kernel) rfl rfl rfl (Nat.le_of_ble_eq_true rfl) (by decide +kernel) (by decide +kernel) hr29
theorem t_135 {X : ak_X} {M : ak_M} {r : ak_O × ak_M} (hL : ab_lay M) (x1 : Int32) (x2 : Int32) (x3 : Int32) (h : ((∃ (M1 : ak_M), ab_lay M1 ∧ rn X 145 [.ref 0, .int x1] M (.inl (none), M1) ∧ ((∃ (M2 : ak_M), ab_lay M2 ∧ rn X 146 [.int x2, .int ((-9)), .int 9] M1 (.inl (none), M2) ∧ ((∃ (M3 : ak_M), ab_lay M3 ∧ rn X 146 [.int x3, .int ((-9)), .int 9] M2 (.inl (none), M3) ∧ (∃ (M4 : ak_M), ab_lay M4 ∧ rn X 30 [.ref 161, .ref 65] M3 (.inl (none), M4) ∧ (∃ i5 : Nat, i5 < 4 ∧ ab_ix x1 i5 4 ∧ (∃ (v7 : Int32) (M6 : ak_M), ab_lay M6 ∧ rn X 84 [.ref (65 + 16 + i5)] M4 (.inl (some (.int v7)), M6) ∧ (∃ i8 : Nat, i8 < 4 ∧ ab_ix x1 i8 4 ∧ (∀ M9 : ak_M, M9 = ak_sI M6 (65 + 16 + i8) 1 x2 → (∃ i10 : Nat, i10 < 4 ∧ ab_ix x1 i10 4 ∧ (∀ M11 : ak_M, M11 = ak_sI M9 (65 + 16 + i10) 2 x3 → r = (.inl (some (.int v7)), M11))))))))) ∨ ∃ (E15 : Nat) (M16 : ak_M), rn X 146 [.int x3, .int ((-9)), .int 9] M2 (.inr E15, M16) ∧ r = (.inr E15, M16))) ∨ ∃ (E19 : Nat) (M20 : ak_M), rn X 146 [.int x2, .int ((-9)), .int 9] M1 (.inr E19, M20) ∧ r = (.inr E19, M20))) ∨ ∃ (E23 : Nat) (M24 : ak_M), rn X 145 [.ref 0, .int x1] M (.inr E23, M24) ∧ r = (.inr E23, M24))) : rn X 135 [.ref 0, .int x1, .int x2, .int x3] M r := by
  refine w_rn (nL := 5) (l1 := [some (.ref 0), some (.int x1), some (.int x2), some (.int x3), none]) (by decide +kernel) rfl rfl ?_
  refine w_aload_n (n := 1) (i := 0) (by decide +kernel) rfl rfl ?_
  refine w_iload_n (n := 2) (i := 1) (by decide +kernel) rfl rfl ?_
  rcases h with h | ⟨E23, M24, hr25, rfl⟩
  · obtain ⟨M1, hLM1, hr22, h⟩ := h
    refine w_cV (n := 5) (idx := 157) (cal := 145) (na := 1) (nl := 2) (as := [.int x1]) (rest := []) hL (by decide +kernel) (by decide +kernel) (at_0) (by decide +kernel) rfl rfl rfl (Nat.le_of_ble_eq_true rfl) rfl hr22 ?_
    refine w_iload_n (n := 6) (i := 2) (by decide +kernel) rfl rfl ?_
    refine w_bipush (n := 8) (v := -9) (x := (-9)) (by decide +kernel) rfl (by decide) ?_
    refine w_bipush (n := 10) (v := 9) (x := 9) (by decide +kernel) rfl (by decide) ?_
    rcases h with h | ⟨E19, M20, hr21, rfl⟩
    · obtain ⟨M2, hLM2, hr18, h⟩ := h
      refine w_cS (n := 13) (idx := 144) (cal := 146) (na := 3) (nl := 3) (as := [.int x2, .int ((-9)), .int 9]) (rest := []) (by decide +kernel) (by decide +kernel) rfl rfl rfl (Nat.le_of_ble_eq_true rfl) rfl hr18 ?_
      refine w_iload_n (n := 14) (i := 3) (by decide +kernel) rfl rfl ?_
      refine w_bipush (n := 16) (v := -9) (x := (-9)) (by decide +kernel) rfl (by decide) ?_
      refine w_bipush (n := 18) (v := 9) (x := 9) (by decide +kernel) rfl (by decide) ?_
      rcases h with h | ⟨E15, M16, hr17, rfl⟩
      · obtain ⟨M3, hLM3, hr14, h⟩ := h
        refine w_cS (n := 21) (idx := 144) (cal := 146) (na := 3) (nl := 3) (as := [.int x3, .int ((-9)), .int 9]) (rest := []) (by decide +kernel) (by decide +kernel) rfl rfl rfl (Nat.le_of_ble_eq_true rfl) rfl hr14 ?_
        refine w_aload_n (n := 22) (i := 0) (by decide +kernel) rfl rfl ?_
        refine w_getR (n := 25) hLM3 (by decide +kernel) oO_135 fF_11_55 (at_0) (by decide) (ar_0_7) rfl ?_
        refine w_aload_n (n := 26) (i := 0) (by decide +kernel) rfl rfl ?_
        refine w_getR (n := 29) hLM3 (by decide +kernel) oO_135 fF_11_42 (at_0) (by decide) (ar_0_4) rfl ?_
        obtain ⟨M4, hLM4, hr13, h⟩ := h
        refine w_cV (n := 32) (idx := 280) (cal := 30) (na := 1) (nl := 2) (as := [.ref 65]) (rest := []) hLM3 (by decide +kernel) (by decide +kernel) (at_161) (by decide +kernel) rfl rfl rfl (Nat.le_of_ble_eq_true rfl) rfl hr13 ?_
        refine w_aload_n (n := 33) (i := 0) (by decide +kernel) rfl rfl ?_
        refine w_getR (n := 36) hLM4 (by decide +kernel) oO_135 fF_11_42 (at_0) (by decide) (ar_0_4) rfl ?_
        refine w_getR (n := 39) hLM4 (by decide +kernel) oO_135 fF_11_160 (af_F (by decide)) (by decide) (ag_WA (by decide)) rfl ?_
        refine w_iload_n (n := 40) (i := 1) (by decide +kernel) rfl rfl ?_
        obtain ⟨i5, hi5, gi5, h⟩ := h
        refine w_aald (n := 41) hLM4 (by decide +kernel) (af_WA (by decide)) (by decide) (ax_WA (by decide)) gi5 (ai_WA (by decide) hi5) rfl ?_
        obtain ⟨v7, M6, hLM6, hr12, h⟩ := h
        refine w_cV (n := 44) (idx := 299) (cal := 84) (na := 0) (nl := 1) (as := []) (rest := []) hLM4 (by decide +kernel) (by decide +kernel) (af_W (by decide) hi5) (by decide +kernel) rfl rfl rfl (Nat.le_of_ble_eq_true rfl) rfl hr12 ?_
        refine w_istore (n := 46) (i := 4) (l1' := [some (.ref 0), some (.int x1), some (.int x2), some (.int x3), some (.int v7)]) (l2' := []) (by decide +kernel) rfl (Nat.le_of_ble_eq_true rfl) rfl rfl ?_
        refine w_aload_n (n := 47) (i := 0) (by decide +kernel) rfl rfl ?_
        refine w_getR (n := 50) hLM6 (by decide +kernel) oO_135 fF_11_42 (at_0) (by decide) (ar_0_4) rfl ?_
        refine w_getR (n := 53) hLM6 (by decide +kernel) oO_135 fF_11_160 (af_F (by decide)) (by decide) (ag_WA (by decide)) rfl ?_
        refine w_iload_n (n := 54) (i := 1) (by decide +kernel) rfl rfl ?_
        obtain ⟨i8, hi8, gi8, h⟩ := h
        refine w_aald (n := 55) hLM6 (by decide +kernel) (af_WA (by decide)) (by decide) (ax_WA (by decide)) gi8 (ai_WA (by decide) hi8) rfl ?_
        refine w_iload_n (n := 56) (i := 2) (by decide +kernel) rfl rfl ?_
        refine w_putI (n := 59) hLM6 (by decide +kernel) oO_135 fF_11_253 (af_W (by decide) hi8) ⟨by decide, Or.inl (by decide)⟩ rfl ?_
        generalize eM9 : ak_sI M6 (65 + 16 + i8) 1 x2 = M9
        have hLM9 : ab_lay M9 := by rw [← eM9]; exact ab_lay.sI hLM6
        replace h := h M9 eM9.symm
        refine w_aload_n (n := 60) (i := 0) (by decide +kernel) rfl rfl ?_
        refine w_getR (n := 63) hLM9 (by decide +kernel) oO_135 fF_11_42 (at_0) (by decide) (ar_0_4) rfl ?_
        refine w_getR (n := 66) hLM9 (by decide +kernel) oO_135 fF_11_160 (af_F (by decide)) (by decide) (ag_WA (by decide)) rfl ?_
        refine w_iload_n (n := 67) (i := 1) (by decide +kernel) rfl rfl ?_
        obtain ⟨i10, hi10, gi10, h⟩ := h
        refine w_aald (n := 68) hLM9 (by decide +kernel) (af_WA (by decide)) (by decide) (ax_WA (by decide)) gi10 (ai_WA (by decide) hi10) rfl ?_
        refine w_iload_n (n := 69) (i := 3) (by decide +kernel) rfl rfl ?_
        refine w_putI (n := 72) hLM9 (by decide +kernel) oO_135 fF_11_257 (af_W (by decide) hi10) ⟨by decide, Or.inl (by decide)⟩ rfl ?_
        generalize eM11 : ak_sI M9 (65 + 16 + i10) 2 x3 = M11
        have hLM11 : ab_lay M11 := by rw [← eM11]; exact ab_lay.sI hLM9
        replace h := h M11 eM11.symm
        refine w_iload (n := 74) (i := 4) (by decide +kernel) rfl rfl ?_
        subst h
        exact w_ireturn (by decide +kernel) (w_okI (by decide +kernel))
      · exact w_tS (idx := 144) (cal := 146) (na := 3) (nl := 3) (as := [.int x3, .int ((-9)), .int 9]) (rest := []) (by decide +kernel) (by decide +kernel) rfl rfl rfl (Nat.le_of_ble_eq_true rfl) (by decide +kernel) (by decide +kernel) hr17
    · exact w_tS (idx := 144) (cal := 146) (na := 3) (nl := 3) (as := [.int x2, .int ((-9)), .int 9]) (rest := []) (by decide +kernel) (by decide +kernel) rfl rfl rfl (Nat.le_of_ble_eq_true rfl) (by decide +kernel) (by decide +kernel) hr21
  · exact w_tV (idx := 157) (cal := 145) (na := 1) (nl := 2) (as := [.int x1]) (rest := []) hL (by decide +kernel) (by decide +kernel) (at_0) (by decide +kernel) rfl rfl rfl (Nat.le_of_ble_eq_true rfl) (by decide +kernel) (by decide +kernel) hr25
theorem t_137 {X : ak_X} {M : ak_M} {r : ak_O × ak_M} (hL : ab_lay M) (h : (if ak_I M 161 2 ≤ 0 then ((∃ (M1 : ak_M), ab_lay M1 ∧ rn X 147 [.int 0] M (.inl (none), M1) ∧ (∃ (M2 : ak_M), ab_lay M2 ∧ rn X 31 [.ref 161, .ref 65] M1 (.inl (none), M2) ∧ r = (.inl (some (.int (ak_I M2 161 2))), M2))) ∨ ∃ (E5 : Nat) (M6 : ak_M), rn X 147 [.int 0] M (.inr E5, M6) ∧ r = (.inr E5, M6)) else ((∃ (M8 : ak_M), ab_lay M8 ∧ rn X 147 [.int 1] M (.inl (none), M8) ∧ (∃ (M9 : ak_M), ab_lay M9 ∧ rn X 31 [.ref 161, .ref 65] M8 (.inl (none), M9) ∧ r = (.inl (some (.int (ak_I M9 161 2))), M9))) ∨ ∃ (E12 : Nat) (M13 : ak_M), rn X 147 [.int 1] M (.inr E12, M13) ∧ r = (.inr E12, M13)))) : rn X 137 [.ref 0] M r := by
  refine w_rn (nL := 1) (l1 := [some (.ref 0)]) (by decide +kernel) rfl rfl ?_
  refine w_aload_n (n := 1) (i := 0) (by decide +kernel) rfl rfl ?_
  refine w_getR (n := 4) hL (by decide +kernel) oO_137 fF_11_55 (at_0) (by decide) (ar_0_7) rfl ?_
  refine w_getI (n := 7) hL (by decide +kernel) oO_137 fF_11_122 (at_161) (by decide) rfl ?_
  by_cases c15 : ak_I M 161 2 ≤ 0
  · rw [if_pos c15] at h
    refine w_if_le_j (n := 14) (off := 7) (by decide +kernel) (by decide) c15 ?_
    refine w_iconst (n := 15) (v := 0) (x := 0) (by decide +kernel) rfl (by decide) ?_
    rcases h with h | ⟨E5, M6, hr7, rfl⟩
    · obtain ⟨M1, hLM1, hr4, h⟩ := h
      refine w_cS (n := 18) (idx := 177) (cal := 147) (na := 1) (nl := 1) (as := [.int 0]) (rest := []) (by decide +kernel) (by decide +kernel) rfl rfl rfl (Nat.le_of_ble_eq_true rfl) rfl hr4 ?_
      refine w_aload_n (n := 19) (i := 0) (by decide +kernel) rfl rfl ?_
      refine w_getR (n := 22) hLM1 (by decide +kernel) oO_137 fF_11_55 (at_0) (by decide) (ar_0_7) rfl ?_
      refine w_aload_n (n := 23) (i := 0) (by decide +kernel) rfl rfl ?_
      refine w_getR (n := 26) hLM1 (by decide +kernel) oO_137 fF_11_42 (at_0) (by decide) (ar_0_4) rfl ?_
      obtain ⟨M2, hLM2, hr3, h⟩ := h
      refine w_cV (n := 29) (idx := 308) (cal := 31) (na := 1) (nl := 2) (as := [.ref 65]) (rest := []) hLM1 (by decide +kernel) (by decide +kernel) (at_161) (by decide +kernel) rfl rfl rfl (Nat.le_of_ble_eq_true rfl) rfl hr3 ?_
      refine w_aload_n (n := 30) (i := 0) (by decide +kernel) rfl rfl ?_
      refine w_getR (n := 33) hLM2 (by decide +kernel) oO_137 fF_11_55 (at_0) (by decide) (ar_0_7) rfl ?_
      refine w_getI (n := 36) hLM2 (by decide +kernel) oO_137 fF_11_122 (at_161) (by decide) rfl ?_
      subst h
      exact w_ireturn (by decide +kernel) (w_okI (by decide +kernel))
    · exact w_tS (idx := 177) (cal := 147) (na := 1) (nl := 1) (as := [.int 0]) (rest := []) (by decide +kernel) (by decide +kernel) rfl rfl rfl (Nat.le_of_ble_eq_true rfl) (by decide +kernel) (by decide +kernel) hr7
  · rw [if_neg c15] at h
    refine w_if_le_n (n := 10) (off := 7) (by decide +kernel) rfl c15 ?_
    refine w_iconst (n := 11) (v := 1) (x := 1) (by decide +kernel) rfl (by decide) ?_
    refine w_goto (n := 15) (off := 4) (by decide +kernel) (by decide) ?_
    rcases h with h | ⟨E12, M13, hr14, rfl⟩
    · obtain ⟨M8, hLM8, hr11, h⟩ := h
      refine w_cS (n := 18) (idx := 177) (cal := 147) (na := 1) (nl := 1) (as := [.int 1]) (rest := []) (by decide +kernel) (by decide +kernel) rfl rfl rfl (Nat.le_of_ble_eq_true rfl) rfl hr11 ?_
      refine w_aload_n (n := 19) (i := 0) (by decide +kernel) rfl rfl ?_
      refine w_getR (n := 22) hLM8 (by decide +kernel) oO_137 fF_11_55 (at_0) (by decide) (ar_0_7) rfl ?_
      refine w_aload_n (n := 23) (i := 0) (by decide +kernel) rfl rfl ?_
      refine w_getR (n := 26) hLM8 (by decide +kernel) oO_137 fF_11_42 (at_0) (by decide) (ar_0_4) rfl ?_
      obtain ⟨M9, hLM9, hr10, h⟩ := h
      refine w_cV (n := 29) (idx := 308) (cal := 31) (na := 1) (nl := 2) (as := [.ref 65]) (rest := []) hLM8 (by decide +kernel) (by decide +kernel) (at_161) (by decide +kernel) rfl rfl rfl (Nat.le_of_ble_eq_true rfl) rfl hr10 ?_
      refine w_aload_n (n := 30) (i := 0) (by decide +kernel) rfl rfl ?_
      refine w_getR (n := 33) hLM9 (by decide +kernel) oO_137 fF_11_55 (at_0) (by decide) (ar_0_7) rfl ?_
      refine w_getI (n := 36) hLM9 (by decide +kernel) oO_137 fF_11_122 (at_161) (by decide) rfl ?_
      subst h
      exact w_ireturn (by decide +kernel) (w_okI (by decide +kernel))
    · exact w_tS (idx := 177) (cal := 147) (na := 1) (nl := 1) (as := [.int 1]) (rest := []) (by decide +kernel) (by decide +kernel) rfl rfl rfl (Nat.le_of_ble_eq_true rfl) (by decide +kernel) (by decide +kernel) hr14
theorem t_142 {X : ak_X} {M : ak_M} {r : ak_O × ak_M} (hL : ab_lay M) (h : (∃ (M1 : ak_M), ab_lay M1 ∧ rn X 10 [.ref 129, .ref 65] M (.inl (none), M1) ∧ (∀ M2 : ak_M, M2 = ak_sI M1 0 8 1 → r = (.inl (some (.int (ak_I M2 65 9))), M2)))) : rn X 142 [.ref 0] M r := by
  refine w_rn (nL := 1) (l1 := [some (.ref 0)]) (by decide +kernel) rfl rfl ?_
  refine w_aload_n (n := 1) (i := 0) (by decide +kernel) rfl rfl ?_
  refine w_getR (n := 4) hL (by decide +kernel) oO_142 fF_11_49 (at_0) (by decide) (ar_0_6) rfl ?_
  refine w_aload_n (n := 5) (i := 0) (by decide +kernel) rfl rfl ?_
  refine w_getR (n := 8) hL (by decide +kernel) oO_142 fF_11_42 (at_0) (by decide) (ar_0_4) rfl ?_
  obtain ⟨M1, hLM1, hr3, h⟩ := h
  refine w_cV (n := 11) (idx := 84) (cal := 10) (na := 1) (nl := 2) (as := [.ref 65]) (rest := []) hL (by decide +kernel) (by decide +kernel) (af_F (by decide)) (by decide +kernel) rfl rfl rfl (Nat.le_of_ble_eq_true rfl) rfl hr3 ?_
  refine w_aload_n (n := 12) (i := 0) (by decide +kernel) rfl rfl ?_
  refine w_iconst (n := 13) (v := 1) (x := 1) (by decide +kernel) rfl (by decide) ?_
  refine w_putI (n := 16) hLM1 (by decide +kernel) oO_142 fF_11_95 (at_0) ⟨by decide, Or.inr ⟨by decide, by decide⟩⟩ rfl ?_
  generalize eM2 : ak_sI M1 0 8 1 = M2
  have hLM2 : ab_lay M2 := by rw [← eM2]; exact ab_lay.sI hLM1
  replace h := h M2 eM2.symm
  refine w_aload_n (n := 17) (i := 0) (by decide +kernel) rfl rfl ?_
  refine w_getR (n := 20) hLM2 (by decide +kernel) oO_142 fF_11_42 (at_0) (by decide) (ar_0_4) rfl ?_
  refine w_getI (n := 23) hLM2 (by decide +kernel) oO_142 fF_11_109 (af_F (by decide)) (by decide) rfl ?_
  subst h
  exact w_ireturn (by decide +kernel) (w_okI (by decide +kernel))
theorem t_143 {X : ak_X} {M : ak_M} {r : ak_O × ak_M} (hL : ab_lay M) (h : ((∃ (M1 : ak_M), ab_lay M1 ∧ rn X 147 [.int (ak_I M 0 8)] M (.inl (none), M1) ∧ (∃ (M2 : ak_M), ab_lay M2 ∧ rn X 10 [.ref 65, .ref 129] M1 (.inl (none), M2) ∧ (∃ (M3 : ak_M), ab_lay M3 ∧ rn X 29 [.ref 161] M2 (.inl (none), M3) ∧ r = (.inl (some (.int (ak_I M3 65 9))), M3)))) ∨ ∃ (E7 : Nat) (M8 : ak_M), rn X 147 [.int (ak_I M 0 8)] M (.inr E7, M8) ∧ r = (.inr E7, M8))) : rn X 143 [.ref 0] M r := by
  refine w_rn (nL := 1) (l1 := [some (.ref 0)]) (by decide +kernel) rfl rfl ?_
  refine w_aload_n (n := 1) (i := 0) (by decide +kernel) rfl rfl ?_
  refine w_getI (n := 4) hL (by decide +kernel) oO_143 fF_11_95 (at_0) (by decide) rfl ?_
  rcases h with h | ⟨E7, M8, hr9, rfl⟩
  · obtain ⟨M1, hLM1, hr6, h⟩ := h
    refine w_cS (n := 7) (idx := 177) (cal := 147) (na := 1) (nl := 1) (as := [.int (ak_I M 0 8)]) (rest := []) (by decide +kernel) (by decide +kernel) rfl rfl rfl (Nat.le_of_ble_eq_true rfl) rfl hr6 ?_
    refine w_aload_n (n := 8) (i := 0) (by decide +kernel) rfl rfl ?_
    refine w_getR (n := 11) hLM1 (by decide +kernel) oO_143 fF_11_42 (at_0) (by decide) (ar_0_4) rfl ?_
    refine w_aload_n (n := 12) (i := 0) (by decide +kernel) rfl rfl ?_
    refine w_getR (n := 15) hLM1 (by decide +kernel) oO_143 fF_11_49 (at_0) (by decide) (ar_0_6) rfl ?_
    obtain ⟨M2, hLM2, hr5, h⟩ := h
    refine w_cV (n := 18) (idx := 84) (cal := 10) (na := 1) (nl := 2) (as := [.ref 129]) (rest := []) hLM1 (by decide +kernel) (by decide +kernel) (af_F (by decide)) (by decide +kernel) rfl rfl rfl (Nat.le_of_ble_eq_true rfl) rfl hr5 ?_
    refine w_aload_n (n := 19) (i := 0) (by decide +kernel) rfl rfl ?_
    refine w_getR (n := 22) hLM2 (by decide +kernel) oO_143 fF_11_55 (at_0) (by decide) (ar_0_7) rfl ?_
    obtain ⟨M3, hLM3, hr4, h⟩ := h
    refine w_cV (n := 25) (idx := 92) (cal := 29) (na := 0) (nl := 1) (as := []) (rest := []) hLM2 (by decide +kernel) (by decide +kernel) (at_161) (by decide +kernel) rfl rfl rfl (Nat.le_of_ble_eq_true rfl) rfl hr4 ?_
    refine w_aload_n (n := 26) (i := 0) (by decide +kernel) rfl rfl ?_
    refine w_getR (n := 29) hLM3 (by decide +kernel) oO_143 fF_11_42 (at_0) (by decide) (ar_0_4) rfl ?_
    refine w_getI (n := 32) hLM3 (by decide +kernel) oO_143 fF_11_109 (af_F (by decide)) (by decide) rfl ?_
    subst h
    exact w_ireturn (by decide +kernel) (w_okI (by decide +kernel))
  · exact w_tS (idx := 177) (cal := 147) (na := 1) (nl := 1) (as := [.int (ak_I M 0 8)]) (rest := []) (by decide +kernel) (by decide +kernel) rfl rfl rfl (Nat.le_of_ble_eq_true rfl) (by decide +kernel) (by decide +kernel) hr9
theorem t_144 {X : ak_X} {M : ak_M} {r : ak_O × ak_M} (hL : ab_lay M) (x1 : Int32) (h : (∃ (v2 : Int32) (M1 : ak_M), ab_lay M1 ∧ rn X 151 [.int x1, .int 0, .int ((ak_I M 65 5) - 1)] M (.inl (some (.int v2)), M1) ∧ (if v2 = 0 then r = (.inr 0, ak_use M1 1 6) else r = (.inl none, M1)))) : rn X 144 [.ref 0, .int x1] M r := by
  refine w_rn (nL := 2) (l1 := [some (.ref 0), some (.int x1)]) (by decide +kernel) rfl rfl ?_
  refine w_iload_n (n := 1) (i := 1) (by decide +kernel) rfl rfl ?_
  refine w_iconst (n := 2) (v := 0) (x := 0) (by decide +kernel) rfl (by decide) ?_
  refine w_aload_n (n := 3) (i := 0) (by decide +kernel) rfl rfl ?_
  refine w_getR (n := 6) hL (by decide +kernel) oO_144 fF_11_42 (at_0) (by decide) (ar_0_4) rfl ?_
  refine w_getI (n := 9) hL (by decide +kernel) oO_144 fF_11_99 (af_F (by decide)) (by decide) rfl ?_
  refine w_iconst (n := 10) (v := 1) (x := 1) (by decide +kernel) rfl (by decide) ?_
  refine w_isub (n := 11) (by decide +kernel) rfl ?_
  obtain ⟨v2, M1, hLM1, hr4, h⟩ := h
  refine w_cS (n := 14) (idx := 125) (cal := 151) (na := 3) (nl := 3) (as := [.int x1, .int 0, .int ((ak_I M 65 5) - 1)]) (rest := []) (by decide +kernel) (by decide +kernel) rfl rfl rfl (Nat.le_of_ble_eq_true rfl) rfl hr4 ?_
  by_cases c3 : v2 = 0
  · rw [if_pos c3] at h
    refine w_if_ne_n (n := 17) (off := 14) (by decide +kernel) rfl c3 ?_
    subst h
    exact w_throw (idx := 215) (z := (215, 350, 1, 219)) (by decide +kernel) (by decide +kernel) (by decide +kernel) (Nat.le_of_ble_eq_true rfl)
  · rw [if_neg c3] at h
    refine w_if_ne_j (n := 28) (off := 14) (by decide +kernel) (by decide) c3 ?_
    subst h
    exact w_vreturn (by decide +kernel) (by decide +kernel)
theorem t_145 {X : ak_X} {M : ak_M} {r : ak_O × ak_M} (hL : ab_lay M) (x1 : Int32) (h : (∃ (v2 : Int32) (M1 : ak_M), ab_lay M1 ∧ rn X 151 [.int x1, .int 0, .int ((ak_I M 65 6) - 1)] M (.inl (some (.int v2)), M1) ∧ (if v2 = 0 then r = (.inr 0, ak_use M1 1 6) else r = (.inl none, M1)))) : rn X 145 [.ref 0, .int x1] M r := by
  refine w_rn (nL := 2) (l1 := [some (.ref 0), some (.int x1)]) (by decide +kernel) rfl rfl ?_
  refine w_iload_n (n := 1) (i := 1) (by decide +kernel) rfl rfl ?_
  refine w_iconst (n := 2) (v := 0) (x := 0) (by decide +kernel) rfl (by decide) ?_
  refine w_aload_n (n := 3) (i := 0) (by decide +kernel) rfl rfl ?_
  refine w_getR (n := 6) hL (by decide +kernel) oO_145 fF_11_42 (at_0) (by decide) (ar_0_4) rfl ?_
  refine w_getI (n := 9) hL (by decide +kernel) oO_145 fF_11_106 (af_F (by decide)) (by decide) rfl ?_
  refine w_iconst (n := 10) (v := 1) (x := 1) (by decide +kernel) rfl (by decide) ?_
  refine w_isub (n := 11) (by decide +kernel) rfl ?_
  obtain ⟨v2, M1, hLM1, hr4, h⟩ := h
  refine w_cS (n := 14) (idx := 125) (cal := 151) (na := 3) (nl := 3) (as := [.int x1, .int 0, .int ((ak_I M 65 6) - 1)]) (rest := []) (by decide +kernel) (by decide +kernel) rfl rfl rfl (Nat.le_of_ble_eq_true rfl) rfl hr4 ?_
  by_cases c3 : v2 = 0
  · rw [if_pos c3] at h
    refine w_if_ne_n (n := 17) (off := 14) (by decide +kernel) rfl c3 ?_
    subst h
    exact w_throw (idx := 215) (z := (215, 352, 1, 219)) (by decide +kernel) (by decide +kernel) (by decide +kernel) (Nat.le_of_ble_eq_true rfl)
  · rw [if_neg c3] at h
    refine w_if_ne_j (n := 28) (off := 14) (by decide +kernel) (by decide) c3 ?_
    subst h
    exact w_vreturn (by decide +kernel) (by decide +kernel)
theorem t_146 {X : ak_X} {M : ak_M} {r : ak_O × ak_M} (hL : ab_lay M) (x0 : Int32) (x1 : Int32) (x2 : Int32) (h : (∃ (v2 : Int32) (M1 : ak_M), ab_lay M1 ∧ rn X 151 [.int x0, .int x1, .int x2] M (.inl (some (.int v2)), M1) ∧ (if v2 = 0 then r = (.inr 1, ak_use M1 1 6) else r = (.inl none, M1)))) : rn X 146 [.int x0, .int x1, .int x2] M r := by
  refine w_rn (nL := 3) (l1 := [some (.int x0), some (.int x1), some (.int x2)]) (by decide +kernel) rfl rfl ?_
  refine w_iload_n (n := 1) (i := 0) (by decide +kernel) rfl rfl ?_
  refine w_iload_n (n := 2) (i := 1) (by decide +kernel) rfl rfl ?_
  refine w_iload_n (n := 3) (i := 2) (by decide +kernel) rfl rfl ?_
  obtain ⟨v2, M1, hLM1, hr4, h⟩ := h
  refine w_cS (n := 6) (idx := 125) (cal := 151) (na := 3) (nl := 3) (as := [.int x0, .int x1, .int x2]) (rest := []) (by decide +kernel) (by decide +kernel) rfl rfl rfl (Nat.le_of_ble_eq_true rfl) rfl hr4 ?_
  by_cases c3 : v2 = 0
  · rw [if_pos c3] at h
    refine w_if_ne_n (n := 9) (off := 14) (by decide +kernel) rfl c3 ?_
    subst h
    exact w_throw (idx := 354) (z := (354, 356, 1, 358)) (by decide +kernel) (by decide +kernel) (by decide +kernel) (Nat.le_of_ble_eq_true rfl)
  · rw [if_neg c3] at h
    refine w_if_ne_j (n := 20) (off := 14) (by decide +kernel) (by decide) c3 ?_
    subst h
    exact w_vreturn (by decide +kernel) (by decide +kernel)
theorem t_147 {X : ak_X} {M : ak_M} {r : ak_O × ak_M} (hL : ab_lay M) (x0 : Int32) (h : (if x0 = 0 then r = (.inr 2, ak_use M 1 6) else r = (.inl none, M))) : rn X 147 [.int x0] M r := by
  refine w_rn (nL := 1) (l1 := [some (.int x0)]) (by decide +kernel) rfl rfl ?_
  refine w_iload_n (n := 1) (i := 0) (by decide +kernel) rfl rfl ?_
  by_cases c1 : x0 = 0
  · rw [if_pos c1] at h
    refine w_if_ne_n (n := 4) (off := 14) (by decide +kernel) rfl c1 ?_
    subst h
    exact w_throw (idx := 359) (z := (359, 361, 1, 363)) (by decide +kernel) (by decide +kernel) (by decide +kernel) (Nat.le_of_ble_eq_true rfl)
  · rw [if_neg c1] at h
    refine w_if_ne_j (n := 15) (off := 14) (by decide +kernel) (by decide) c1 ?_
    subst h
    exact w_vreturn (by decide +kernel) (by decide +kernel)
theorem t_148 {X : ak_X} {M : ak_M} {r : ak_O × ak_M} (hL : ab_lay M) (x1 : Int32) (x2 : Int32) (x3 : Int32) (x4 : Int32) (h : sg X 148 (11, [some (.ref 0), some (.int x1), some (.int x2), some (.int x3), some (.int x4), some (.int ((-9))), some (.int 0), some (.int ((-9))), none], [], []) M r) : rn X 148 [.ref 0, .int x1, .int x2, .int x3, .int x4] M r := by
  refine w_rn (nL := 9) (l1 := [some (.ref 0), some (.int x1), some (.int x2), some (.int x3), some (.int x4), none, none, none, none]) (by decide +kernel) rfl rfl ?_
  refine w_bipush (n := 2) (v := -9) (x := (-9)) (by decide +kernel) rfl (by decide) ?_
  refine w_istore (n := 4) (i := 5) (l1' := [some (.ref 0), some (.int x1), some (.int x2), some (.int x3), some (.int x4), some (.int ((-9))), none, none, none]) (l2' := []) (by decide +kernel) rfl (Nat.le_of_ble_eq_true rfl) rfl rfl ?_
  refine w_iconst (n := 5) (v := 0) (x := 0) (by decide +kernel) rfl (by decide) ?_
  refine w_istore (n := 7) (i := 6) (l1' := [some (.ref 0), some (.int x1), some (.int x2), some (.int x3), some (.int x4), some (.int ((-9))), some (.int 0), none, none]) (l2' := []) (by decide +kernel) rfl (Nat.le_of_ble_eq_true rfl) rfl rfl ?_
  refine w_bipush (n := 9) (v := -9) (x := (-9)) (by decide +kernel) rfl (by decide) ?_
  refine w_istore (n := 11) (i := 7) (l1' := [some (.ref 0), some (.int x1), some (.int x2), some (.int x3), some (.int x4), some (.int ((-9))), some (.int 0), some (.int ((-9))), none]) (l2' := []) (by decide +kernel) rfl (Nat.le_of_ble_eq_true rfl) rfl rfl ?_
  exact h
theorem t_148_11 {X : ak_X} {M : ak_M} {r : ak_O × ak_M} (hL : ab_lay M) (x1 : Int32) (x2 : Int32) (x3 : Int32) (x4 : Int32) (y5 : Int32) (y6 : Int32) (y7 : Int32) (o8 : Option Value) (h : (if 9 < y7 then r = (.inl (some (.int y5)), M) else (∃ (M1 : ak_M), ab_lay M1 ∧ rn X 10 [.ref 97, .ref 65] M (.inl (none), M1) ∧ (∃ i2 : Nat, i2 < 10 ∧ ab_ix x1 i2 10 ∧ (∀ M3 : ak_M, M3 = ak_sI M1 (97 + 6 + i2) 7 y7 → sg X 148 (46, [some (.ref 0), some (.int x1), some (.int x2), some (.int x3), some (.int x4), some (.int y5), some (.int y6), some (.int y7), some (.int 0)], [], []) M3 r))))) : sg X 148 (11, [some (.ref 0), some (.int x1), some (.int x2), some (.int x3), some (.int x4), some (.int y5), some (.int y6), some (.int y7), o8], [], []) M r := by
  refine w_iload (n := 13) (i := 7) (by decide +kernel) rfl rfl ?_
  refine w_bipush (n := 15) (v := 9) (x := 9) (by decide +kernel) rfl (by decide) ?_
  by_cases c5 : 9 < y7
  · rw [if_pos c5] at h
    refine w_icmp_gt_j (n := 124) (off := 109) (by decide +kernel) (by decide) c5 ?_
    refine w_iload (n := 126) (i := 5) (by decide +kernel) rfl rfl ?_
    subst h
    exact w_ireturn (by decide +kernel) (w_okI (by decide +kernel))
  · rw [if_neg c5] at h
    refine w_icmp_gt_n (n := 18) (off := 109) (by decide +kernel) rfl c5 ?_
    refine w_aload_n (n := 19) (i := 0) (by decide +kernel) rfl rfl ?_
    refine w_getR (n := 22) hL (by decide +kernel) oO_148 fF_11_46 (at_0) (by decide) (ar_0_5) rfl ?_
    refine w_aload_n (n := 23) (i := 0) (by decide +kernel) rfl rfl ?_
    refine w_getR (n := 26) hL (by decide +kernel) oO_148 fF_11_42 (at_0) (by decide) (ar_0_4) rfl ?_
    obtain ⟨M1, hLM1, hr4, h⟩ := h
    refine w_cV (n := 29) (idx := 84) (cal := 10) (na := 1) (nl := 2) (as := [.ref 65]) (rest := []) hL (by decide +kernel) (by decide +kernel) (af_F (by decide)) (by decide +kernel) rfl rfl rfl (Nat.le_of_ble_eq_true rfl) rfl hr4 ?_
    refine w_aload_n (n := 30) (i := 0) (by decide +kernel) rfl rfl ?_
    refine w_getR (n := 33) hLM1 (by decide +kernel) oO_148 fF_11_46 (at_0) (by decide) (ar_0_5) rfl ?_
    refine w_getR (n := 36) hLM1 (by decide +kernel) oO_148 fF_11_148 (af_F (by decide)) (by decide) (ag_KA (by decide)) rfl ?_
    refine w_iload_n (n := 37) (i := 1) (by decide +kernel) rfl rfl ?_
    obtain ⟨i2, hi2, gi2, h⟩ := h
    refine w_aald (n := 38) hLM1 (by decide +kernel) (af_KA (by decide)) (by decide) (ax_KA (by decide)) gi2 (ai_KA (by decide) hi2) rfl ?_
    refine w_iload (n := 40) (i := 7) (by decide +kernel) rfl rfl ?_
    refine w_putI (n := 43) hLM1 (by decide +kernel) oO_148 fF_11_289 (af_K (by decide) hi2) ⟨by decide, Or.inl (by decide)⟩ rfl ?_
    generalize eM3 : ak_sI M1 (97 + 6 + i2) 7 y7 = M3
    have hLM3 : ab_lay M3 := by rw [← eM3]; exact ab_lay.sI hLM1
    replace h := h M3 eM3.symm
    refine w_iconst (n := 44) (v := 0) (x := 0) (by decide +kernel) rfl (by decide) ?_
    refine w_istore (n := 46) (i := 8) (l1' := [some (.ref 0), some (.int x1), some (.int x2), some (.int x3), some (.int x4), some (.int y5), some (.int y6), some (.int y7), some (.int 0)]) (l2' := []) (by decide +kernel) rfl (Nat.le_of_ble_eq_true rfl) rfl rfl ?_
    exact h
theorem t_148_46 {X : ak_X} {M : ak_M} {r : ak_O × ak_M} (hL : ab_lay M) (x1 : Int32) (x2 : Int32) (x3 : Int32) (x4 : Int32) (y5 : Int32) (y6 : Int32) (y7 : Int32) (y8 : Int32) (h : (if x2 ≤ y8 then (∃ i6 : Nat, i6 < 10 ∧ ab_ix x1 i6 10 ∧ (∃ (v8 : Int32) (M7 : ak_M), ab_lay M7 ∧ rn X 39 [.ref (97 + 6 + i6), .int x3] M (.inl (some (.int v8)), M7) ∧ (if y7 = (-9) then sg X 148 (11, [some (.ref 0), some (.int x1), some (.int x2), some (.int x3), some (.int x4), some (.int y7), some (.int (x4 * v8)), some (.int (y7 + 1)), some (.int (x4 * v8))], [], []) M7 r else (if x4 * v8 ≤ y6 then sg X 148 (11, [some (.ref 0), some (.int x1), some (.int x2), some (.int x3), some (.int x4), some (.int y5), some (.int y6), some (.int (y7 + 1)), some (.int (x4 * v8))], [], []) M7 r else sg X 148 (11, [some (.ref 0), some (.int x1), some (.int x2), some (.int x3), some (.int x4), some (.int y7), some (.int (x4 * v8)), some (.int (y7 + 1)), some (.int (x4 * v8))], [], []) M7 r)))) else (if 5000 ≤ ak_I M 97 9 then (∃ i12 : Nat, i12 < 10 ∧ ab_ix x1 i12 10 ∧ (∃ (v14 : Int32) (M13 : ak_M), ab_lay M13 ∧ rn X 39 [.ref (97 + 6 + i12), .int x3] M (.inl (some (.int v14)), M13) ∧ (if y7 = (-9) then sg X 148 (11, [some (.ref 0), some (.int x1), some (.int x2), some (.int x3), some (.int x4), some (.int y7), some (.int (x4 * v14)), some (.int (y7 + 1)), some (.int (x4 * v14))], [], []) M13 r else (if x4 * v14 ≤ y6 then sg X 148 (11, [some (.ref 0), some (.int x1), some (.int x2), some (.int x3), some (.int x4), some (.int y5), some (.int y6), some (.int (y7 + 1)), some (.int (x4 * v14))], [], []) M13 r else sg X 148 (11, [some (.ref 0), some (.int x1), some (.int x2), some (.int x3), some (.int x4), some (.int y7), some (.int (x4 * v14)), some (.int (y7 + 1)), some (.int (x4 * v14))], [], []) M13 r)))) else (∃ (M18 : ak_M), ab_lay M18 ∧ rn X 21 [.ref 97] M (.inl (none), M18) ∧ sg X 148 (46, [some (.ref 0), some (.int x1), some (.int x2), some (.int x3), some (.int x4), some (.int y5), some (.int y6), some (.int y7), some (.int (y8 + 1))], [], []) M18 r)))) : sg X 148 (46, [some (.ref 0), some (.int x1), some (.int x2), some (.int x3), some (.int x4), some (.int y5), some (.int y6), some (.int y7), some (.int y8)], [], []) M r := by
  refine w_iload (n := 48) (i := 8) (by decide +kernel) rfl rfl ?_
  refine w_iload_n (n := 49) (i := 2) (by decide +kernel) rfl rfl ?_
  by_cases c21 : x2 ≤ y8
  · rw [if_pos c21] at h
    refine w_icmp_ge_j (n := 78) (off := 29) (by decide +kernel) (by decide) c21 ?_
    refine w_iload (n := 80) (i := 4) (by decide +kernel) rfl rfl ?_
    refine w_aload_n (n := 81) (i := 0) (by decide +kernel) rfl rfl ?_
    refine w_getR (n := 84) hL (by decide +kernel) oO_148 fF_11_46 (at_0) (by decide) (ar_0_5) rfl ?_
    refine w_getR (n := 87) hL (by decide +kernel) oO_148 fF_11_148 (af_F (by decide)) (by decide) (ag_KA (by decide)) rfl ?_
    refine w_iload_n (n := 88) (i := 1) (by decide +kernel) rfl rfl ?_
    obtain ⟨i6, hi6, gi6, h⟩ := h
    refine w_aald (n := 89) hL (by decide +kernel) (af_KA (by decide)) (by decide) (ax_KA (by decide)) gi6 (ai_KA (by decide) hi6) rfl ?_
    refine w_iload_n (n := 90) (i := 3) (by decide +kernel) rfl rfl ?_
    obtain ⟨v8, M7, hLM7, hr11, h⟩ := h
    refine w_cV (n := 93) (idx := 152) (cal := 39) (na := 1) (nl := 2) (as := [.int x3]) (rest := [.int x4]) hL (by decide +kernel) (by decide +kernel) (af_K (by decide) hi6) (by decide +kernel) rfl rfl rfl (Nat.le_of_ble_eq_true rfl) rfl hr11 ?_
    refine w_imul (n := 94) (by decide +kernel) rfl ?_
    refine w_istore (n := 96) (i := 8) (l1' := [some (.ref 0), some (.int x1), some (.int x2), some (.int x3), some (.int x4), some (.int y5), some (.int y6), some (.int y7), some (.int (x4 * v8))]) (l2' := []) (by decide +kernel) rfl (Nat.le_of_ble_eq_true rfl) rfl rfl ?_
    refine w_iload (n := 98) (i := 7) (by decide +kernel) rfl rfl ?_
    refine w_bipush (n := 100) (v := -9) (x := (-9)) (by decide +kernel) rfl (by decide) ?_
    by_cases c10 : y7 = (-9)
    · rw [if_pos c10] at h
      refine w_icmp_eq_j (n := 110) (off := 10) (by decide +kernel) (by decide) c10 ?_
      refine w_iload (n := 112) (i := 7) (by decide +kernel) rfl rfl ?_
      refine w_istore (n := 114) (i := 5) (l1' := [some (.ref 0), some (.int x1), some (.int x2), some (.int x3), some (.int x4), some (.int y7), some (.int y6), some (.int y7), some (.int (x4 * v8))]) (l2' := []) (by decide +kernel) rfl (Nat.le_of_ble_eq_true rfl) rfl rfl ?_
      refine w_iload (n := 116) (i := 8) (by decide +kernel) rfl rfl ?_
      refine w_istore (n := 118) (i := 6) (l1' := [some (.ref 0), some (.int x1), some (.int x2), some (.int x3), some (.int x4), some (.int y7), some (.int (x4 * v8)), some (.int y7), some (.int (x4 * v8))]) (l2' := []) (by decide +kernel) rfl (Nat.le_of_ble_eq_true rfl) rfl rfl ?_
      refine w_iinc (n := 121) (i := 7) (v := 1) (y := y7 + 1) (l1' := [some (.ref 0), some (.int x1), some (.int x2), some (.int x3), some (.int x4), some (.int y7), some (.int (x4 * v8)), some (.int (y7 + 1)), some (.int (x4 * v8))]) (l2' := []) (by decide +kernel) rfl rfl rfl rfl rfl ?_
      refine w_goto (n := 11) (off := (-110)) (by decide +kernel) (by decide) ?_
      exact h
    · rw [if_neg c10] at h
      refine w_icmp_eq_n (n := 103) (off := 10) (by decide +kernel) rfl c10 ?_
      refine w_iload (n := 105) (i := 8) (by decide +kernel) rfl rfl ?_
      refine w_iload (n := 107) (i := 6) (by decide +kernel) rfl rfl ?_
      by_cases c9 : x4 * v8 ≤ y6
      · rw [if_pos c9] at h
        refine w_icmp_le_j (n := 118) (off := 11) (by decide +kernel) (by decide) c9 ?_
        refine w_iinc (n := 121) (i := 7) (v := 1) (y := y7 + 1) (l1' := [some (.ref 0), some (.int x1), some (.int x2), some (.int x3), some (.int x4), some (.int y5), some (.int y6), some (.int (y7 + 1)), some (.int (x4 * v8))]) (l2' := []) (by decide +kernel) rfl rfl rfl rfl rfl ?_
        refine w_goto (n := 11) (off := (-110)) (by decide +kernel) (by decide) ?_
        exact h
      · rw [if_neg c9] at h
        refine w_icmp_le_n (n := 110) (off := 11) (by decide +kernel) rfl c9 ?_
        refine w_iload (n := 112) (i := 7) (by decide +kernel) rfl rfl ?_
        refine w_istore (n := 114) (i := 5) (l1' := [some (.ref 0), some (.int x1), some (.int x2), some (.int x3), some (.int x4), some (.int y7), some (.int y6), some (.int y7), some (.int (x4 * v8))]) (l2' := []) (by decide +kernel) rfl (Nat.le_of_ble_eq_true rfl) rfl rfl ?_
        refine w_iload (n := 116) (i := 8) (by decide +kernel) rfl rfl ?_
        refine w_istore (n := 118) (i := 6) (l1' := [some (.ref 0), some (.int x1), some (.int x2), some (.int x3), some (.int x4), some (.int y7), some (.int (x4 * v8)), some (.int y7), some (.int (x4 * v8))]) (l2' := []) (by decide +kernel) rfl (Nat.le_of_ble_eq_true rfl) rfl rfl ?_
        refine w_iinc (n := 121) (i := 7) (v := 1) (y := y7 + 1) (l1' := [some (.ref 0), some (.int x1), some (.int x2), some (.int x3), some (.int x4), some (.int y7), some (.int (x4 * v8)), some (.int (y7 + 1)), some (.int (x4 * v8))]) (l2' := []) (by decide +kernel) rfl rfl rfl rfl rfl ?_
        refine w_goto (n := 11) (off := (-110)) (by decide +kernel) (by decide) ?_
        exact h
  · rw [if_neg c21] at h
    refine w_icmp_ge_n (n := 52) (off := 29) (by decide +kernel) rfl c21 ?_
    refine w_aload_n (n := 53) (i := 0) (by decide +kernel) rfl rfl ?_
    refine w_getR (n := 56) hL (by decide +kernel) oO_148 fF_11_46 (at_0) (by decide) (ar_0_5) rfl ?_
    refine w_getI (n := 59) hL (by decide +kernel) oO_148 fF_11_109 (af_F (by decide)) (by decide) rfl ?_
    refine w_sipush (n := 62) (v := 5000) (x := 5000) (by decide +kernel) rfl (by decide) ?_
    by_cases c20 : 5000 ≤ ak_I M 97 9
    · rw [if_pos c20] at h
      refine w_icmp_ge_j (n := 78) (off := 16) (by decide +kernel) (by decide) c20 ?_
      refine w_iload (n := 80) (i := 4) (by decide +kernel) rfl rfl ?_
      refine w_aload_n (n := 81) (i := 0) (by decide +kernel) rfl rfl ?_
      refine w_getR (n := 84) hL (by decide +kernel) oO_148 fF_11_46 (at_0) (by decide) (ar_0_5) rfl ?_
      refine w_getR (n := 87) hL (by decide +kernel) oO_148 fF_11_148 (af_F (by decide)) (by decide) (ag_KA (by decide)) rfl ?_
      refine w_iload_n (n := 88) (i := 1) (by decide +kernel) rfl rfl ?_
      obtain ⟨i12, hi12, gi12, h⟩ := h
      refine w_aald (n := 89) hL (by decide +kernel) (af_KA (by decide)) (by decide) (ax_KA (by decide)) gi12 (ai_KA (by decide) hi12) rfl ?_
      refine w_iload_n (n := 90) (i := 3) (by decide +kernel) rfl rfl ?_
      obtain ⟨v14, M13, hLM13, hr17, h⟩ := h
      refine w_cV (n := 93) (idx := 152) (cal := 39) (na := 1) (nl := 2) (as := [.int x3]) (rest := [.int x4]) hL (by decide +kernel) (by decide +kernel) (af_K (by decide) hi12) (by decide +kernel) rfl rfl rfl (Nat.le_of_ble_eq_true rfl) rfl hr17 ?_
      refine w_imul (n := 94) (by decide +kernel) rfl ?_
      refine w_istore (n := 96) (i := 8) (l1' := [some (.ref 0), some (.int x1), some (.int x2), some (.int x3), some (.int x4), some (.int y5), some (.int y6), some (.int y7), some (.int (x4 * v14))]) (l2' := []) (by decide +kernel) rfl (Nat.le_of_ble_eq_true rfl) rfl rfl ?_
      refine w_iload (n := 98) (i := 7) (by decide +kernel) rfl rfl ?_
      refine w_bipush (n := 100) (v := -9) (x := (-9)) (by decide +kernel) rfl (by decide) ?_
      by_cases c16 : y7 = (-9)
      · rw [if_pos c16] at h
        refine w_icmp_eq_j (n := 110) (off := 10) (by decide +kernel) (by decide) c16 ?_
        refine w_iload (n := 112) (i := 7) (by decide +kernel) rfl rfl ?_
        refine w_istore (n := 114) (i := 5) (l1' := [some (.ref 0), some (.int x1), some (.int x2), some (.int x3), some (.int x4), some (.int y7), some (.int y6), some (.int y7), some (.int (x4 * v14))]) (l2' := []) (by decide +kernel) rfl (Nat.le_of_ble_eq_true rfl) rfl rfl ?_
        refine w_iload (n := 116) (i := 8) (by decide +kernel) rfl rfl ?_
        refine w_istore (n := 118) (i := 6) (l1' := [some (.ref 0), some (.int x1), some (.int x2), some (.int x3), some (.int x4), some (.int y7), some (.int (x4 * v14)), some (.int y7), some (.int (x4 * v14))]) (l2' := []) (by decide +kernel) rfl (Nat.le_of_ble_eq_true rfl) rfl rfl ?_
        refine w_iinc (n := 121) (i := 7) (v := 1) (y := y7 + 1) (l1' := [some (.ref 0), some (.int x1), some (.int x2), some (.int x3), some (.int x4), some (.int y7), some (.int (x4 * v14)), some (.int (y7 + 1)), some (.int (x4 * v14))]) (l2' := []) (by decide +kernel) rfl rfl rfl rfl rfl ?_
        refine w_goto (n := 11) (off := (-110)) (by decide +kernel) (by decide) ?_
        exact h
      · rw [if_neg c16] at h
        refine w_icmp_eq_n (n := 103) (off := 10) (by decide +kernel) rfl c16 ?_
        refine w_iload (n := 105) (i := 8) (by decide +kernel) rfl rfl ?_
        refine w_iload (n := 107) (i := 6) (by decide +kernel) rfl rfl ?_
        by_cases c15 : x4 * v14 ≤ y6
        · rw [if_pos c15] at h
          refine w_icmp_le_j (n := 118) (off := 11) (by decide +kernel) (by decide) c15 ?_
          refine w_iinc (n := 121) (i := 7) (v := 1) (y := y7 + 1) (l1' := [some (.ref 0), some (.int x1), some (.int x2), some (.int x3), some (.int x4), some (.int y5), some (.int y6), some (.int (y7 + 1)), some (.int (x4 * v14))]) (l2' := []) (by decide +kernel) rfl rfl rfl rfl rfl ?_
          refine w_goto (n := 11) (off := (-110)) (by decide +kernel) (by decide) ?_
          exact h
        · rw [if_neg c15] at h
          refine w_icmp_le_n (n := 110) (off := 11) (by decide +kernel) rfl c15 ?_
          refine w_iload (n := 112) (i := 7) (by decide +kernel) rfl rfl ?_
          refine w_istore (n := 114) (i := 5) (l1' := [some (.ref 0), some (.int x1), some (.int x2), some (.int x3), some (.int x4), some (.int y7), some (.int y6), some (.int y7), some (.int (x4 * v14))]) (l2' := []) (by decide +kernel) rfl (Nat.le_of_ble_eq_true rfl) rfl rfl ?_
          refine w_iload (n := 116) (i := 8) (by decide +kernel) rfl rfl ?_
          refine w_istore (n := 118) (i := 6) (l1' := [some (.ref 0), some (.int x1), some (.int x2), some (.int x3), some (.int x4), some (.int y7), some (.int (x4 * v14)), some (.int y7), some (.int (x4 * v14))]) (l2' := []) (by decide +kernel) rfl (Nat.le_of_ble_eq_true rfl) rfl rfl ?_
          refine w_iinc (n := 121) (i := 7) (v := 1) (y := y7 + 1) (l1' := [some (.ref 0), some (.int x1), some (.int x2), some (.int x3), some (.int x4), some (.int y7), some (.int (x4 * v14)), some (.int (y7 + 1)), some (.int (x4 * v14))]) (l2' := []) (by decide +kernel) rfl rfl rfl rfl rfl ?_
          refine w_goto (n := 11) (off := (-110)) (by decide +kernel) (by decide) ?_
          exact h
    · rw [if_neg c20] at h
      refine w_icmp_ge_n (n := 65) (off := 16) (by decide +kernel) rfl c20 ?_
      refine w_aload_n (n := 66) (i := 0) (by decide +kernel) rfl rfl ?_
      refine w_getR (n := 69) hL (by decide +kernel) oO_148 fF_11_46 (at_0) (by decide) (ar_0_5) rfl ?_
      obtain ⟨M18, hLM18, hr19, h⟩ := h
      refine w_cV (n := 72) (idx := 270) (cal := 21) (na := 0) (nl := 1) (as := []) (rest := []) hL (by decide +kernel) (by decide +kernel) (af_F (by decide)) (by decide +kernel) rfl rfl rfl (Nat.le_of_ble_eq_true rfl) rfl hr19 ?_
      refine w_iinc (n := 75) (i := 8) (v := 1) (y := y8 + 1) (l1' := [some (.ref 0), some (.int x1), some (.int x2), some (.int x3), some (.int x4), some (.int y5), some (.int y6), some (.int y7), some (.int (y8 + 1))]) (l2' := []) (by decide +kernel) rfl rfl rfl rfl rfl ?_
      refine w_goto (n := 46) (off := (-29)) (by decide +kernel) (by decide) ?_
      exact h
theorem t_151 {X : ak_X} {M : ak_M} {r : ak_O × ak_M} (hL : ab_lay M) (x0 : Int32) (x1 : Int32) (x2 : Int32) (h : (if x0 < x1 then r = (.inl (some (.int 0)), M) else (if x2 < x0 then r = (.inl (some (.int 0)), M) else r = (.inl (some (.int 1)), M)))) : rn X 151 [.int x0, .int x1, .int x2] M r := by
  refine w_rn (nL := 3) (l1 := [some (.int x0), some (.int x1), some (.int x2)]) (by decide +kernel) rfl rfl ?_
  refine w_iload_n (n := 1) (i := 0) (by decide +kernel) rfl rfl ?_
  refine w_iload_n (n := 2) (i := 1) (by decide +kernel) rfl rfl ?_
  by_cases c2 : x0 < x1
  · rw [if_pos c2] at h
    refine w_icmp_lt_j (n := 14) (off := 12) (by decide +kernel) (by decide) c2 ?_
    refine w_iconst (n := 15) (v := 0) (x := 0) (by decide +kernel) rfl (by decide) ?_
    subst h
    exact w_ireturn (by decide +kernel) (by decide +kernel)
  · rw [if_neg c2] at h
    refine w_icmp_lt_n (n := 5) (off := 12) (by decide +kernel) rfl c2 ?_
    refine w_iload_n (n := 6) (i := 0) (by decide +kernel) rfl rfl ?_
    refine w_iload_n (n := 7) (i := 2) (by decide +kernel) rfl rfl ?_
    by_cases c1 : x2 < x0
    · rw [if_pos c1] at h
      refine w_icmp_gt_j (n := 14) (off := 7) (by decide +kernel) (by decide) c1 ?_
      refine w_iconst (n := 15) (v := 0) (x := 0) (by decide +kernel) rfl (by decide) ?_
      subst h
      exact w_ireturn (by decide +kernel) (by decide +kernel)
    · rw [if_neg c1] at h
      refine w_icmp_gt_n (n := 10) (off := 7) (by decide +kernel) rfl c1 ?_
      refine w_iconst (n := 11) (v := 1) (x := 1) (by decide +kernel) rfl (by decide) ?_
      refine w_goto (n := 15) (off := 4) (by decide +kernel) (by decide) ?_
      subst h
      exact w_ireturn (by decide +kernel) (by decide +kernel)
theorem t_152 {X : ak_X} {M : ak_M} {r : ak_O × ak_M} (hL : ab_lay M) (x0 : Int32) (x1 : Int32) (x2 : Int32) (h : (∃ (v2 : Int32) (M1 : ak_M), ab_lay M1 ∧ rn X 316 [.int x2, .int x0] M (.inl (some (.int v2)), M1) ∧ (∃ (v4 : Int32) (M3 : ak_M), ab_lay M3 ∧ rn X 315 [.int x1, .int v2] M1 (.inl (some (.int v4)), M3) ∧ r = (.inl (some (.int v4)), M3)))) : rn X 152 [.int x0, .int x1, .int x2] M r := by
  refine w_rn (nL := 3) (l1 := [some (.int x0), some (.int x1), some (.int x2)]) (by decide +kernel) rfl rfl ?_
  refine w_iload_n (n := 1) (i := 1) (by decide +kernel) rfl rfl ?_
  refine w_iload_n (n := 2) (i := 2) (by decide +kernel) rfl rfl ?_
  refine w_iload_n (n := 3) (i := 0) (by decide +kernel) rfl rfl ?_
  obtain ⟨v2, M1, hLM1, hr6, h⟩ := h
  refine w_cS (n := 6) (idx := 244) (cal := 316) (na := 2) (nl := 2) (as := [.int x2, .int x0]) (rest := [.int x1]) (by decide +kernel) (by decide +kernel) rfl rfl rfl (Nat.le_of_ble_eq_true rfl) rfl hr6 ?_
  obtain ⟨v4, M3, hLM3, hr5, h⟩ := h
  refine w_cS (n := 9) (idx := 258) (cal := 315) (na := 2) (nl := 2) (as := [.int x1, .int v2]) (rest := []) (by decide +kernel) (by decide +kernel) rfl rfl rfl (Nat.le_of_ble_eq_true rfl) rfl hr5 ?_
  subst h
  exact w_ireturn (by decide +kernel) (w_okI (by decide +kernel))
