/-! the walk of fed, parsed and setup, laid by wip/p60/lawd.py -/
theorem t_359 {X : ak_X} {M : ak_M} {r : ak_O × ak_M} (p1 : Nat) (h : sg X 359 (2, [some (.ref 0), some (.ref p1), some (.int 0), none, none], [], []) M r) : rn X 359 [.ref 0, .ref p1] M r := by
  refine w_rn (nL := 5) (l1 := [some (.ref 0), some (.ref p1), none, none, none]) (by decide +kernel) rfl rfl ?_
  refine w_iconst (n := 1) (v := 0) (x := 0) (by decide +kernel) rfl (by decide) ?_
  refine w_istore_n (n := 2) (i := 2) (l1' := [some (.ref 0), some (.ref p1), some (.int 0), none, none]) (l2' := []) (by decide +kernel) rfl (Nat.le_of_ble_eq_true rfl) rfl rfl ?_
  exact h
theorem t_359_2 {X : ak_X} {M : ak_M} {r : ak_O × ak_M} (p1 : Nat) (y2 : Int32) (o3 : Option Value) (o4 : Option Value) (h : (ak_rc M p1 = 13 ∧ ∃ (v2 : Int32) (M1 : ak_M), rn X 317 [.ref p1] M (.inl (some (.int v2)), M1) ∧ (if v2 ≤ y2 then (ak_rc M1 p1 = 13 ∧ ∃ (v4 : Int32) (M3 : ak_M), rn X 317 [.ref p1] M1 (.inl (some (.int v4)), M3) ∧ (ak_rc M3 0 = 11 ∧ ∃ (v6 : Int32) (M5 : ak_M), rn X 88 [.ref 0, .int v4] M3 (.inl (some (.int v6)), M5) ∧ r = (.inl none, M5))) else ((ak_P M1 < 900000 ∧ ¬ (5 : Int32) < 0 ∧ (5 : Int32).toNatClampNeg ≤ 60000000) ∧ ∀ M11 : ak_M, M11 = ak_new M1 100 (5 : Int32).toNatClampNeg (5 : Int32).toNatClampNeg → sg X 359 (17, [some (.ref 0), some (.ref p1), some (.int y2), some (.ref (ak_P M1)), some (.int 0)], [], []) M11 r)))) : sg X 359 (2, [some (.ref 0), some (.ref p1), some (.int y2), o3, o4], [], []) M r := by
  refine w_iload_n (n := 3) (i := 2) (by decide +kernel) rfl rfl ?_
  refine w_aload_n (n := 4) (i := 1) (by decide +kernel) rfl rfl ?_
  obtain ⟨g15, h⟩ := h
  obtain ⟨v2, M1, hr14, h⟩ := h
  refine w_cVr (n := 7) (idx := 15) (cal := 317) (na := 0) (nl := 1) (as := []) (rest := [.int y2]) (g15.trans (by decide +kernel)) (by decide +kernel) (by decide +kernel) rfl rfl rfl (Nat.le_of_ble_eq_true rfl) rfl hr14 ?_
  by_cases c13 : v2 ≤ y2
  · rw [if_pos c13] at h
    refine w_icmp_ge_j (n := 100) (off := 93) (by decide +kernel) (by decide) c13 ?_
    refine w_aload_n (n := 101) (i := 0) (by decide +kernel) rfl rfl ?_
    refine w_aload_n (n := 102) (i := 1) (by decide +kernel) rfl rfl ?_
    obtain ⟨g10, h⟩ := h
    obtain ⟨v4, M3, hr9, h⟩ := h
    refine w_cVr (n := 105) (idx := 15) (cal := 317) (na := 0) (nl := 1) (as := []) (rest := [.ref 0]) (g10.trans (by decide +kernel)) (by decide +kernel) (by decide +kernel) rfl rfl rfl (Nat.le_of_ble_eq_true rfl) rfl hr9 ?_
    obtain ⟨g8, h⟩ := h
    obtain ⟨v6, M5, hr7, h⟩ := h
    refine w_cVr (n := 108) (idx := 31) (cal := 88) (na := 1) (nl := 2) (as := [.int v4]) (rest := []) (g8.trans (by decide +kernel)) (by decide +kernel) (by decide +kernel) rfl rfl rfl (Nat.le_of_ble_eq_true rfl) rfl hr7 ?_
    refine w_pop_int (n := 109) (by decide +kernel) rfl ?_
    subst h
    exact w_vreturn (by decide +kernel) (by decide +kernel)
  · rw [if_neg c13] at h
    refine w_icmp_ge_n (n := 10) (off := 93) (by decide +kernel) rfl c13 ?_
    refine w_iconst (n := 11) (v := 5) (x := 5) (by decide +kernel) rfl (by decide) ?_
    obtain ⟨g12, h⟩ := h
    refine x_nI (n := 13) (by decide +kernel) g12 rfl (rfl) ?_
    replace h := h _ rfl
    generalize ak_new M1 100 (5 : Int32).toNatClampNeg (5 : Int32).toNatClampNeg = M11 at h ⊢
    refine w_astore_n (n := 14) (i := 3) (l1' := [some (.ref 0), some (.ref p1), some (.int y2), some (.ref (ak_P M1)), o4]) (l2' := []) (by decide +kernel) rfl (Nat.le_of_ble_eq_true rfl) rfl rfl ?_
    refine w_iconst (n := 15) (v := 0) (x := 0) (by decide +kernel) rfl (by decide) ?_
    refine w_istore (n := 17) (i := 4) (l1' := [some (.ref 0), some (.ref p1), some (.int y2), some (.ref (ak_P M1)), some (.int 0)]) (l2' := []) (by decide +kernel) rfl (Nat.le_of_ble_eq_true rfl) rfl rfl ?_
    exact h
theorem t_359_17 {X : ak_X} {M : ak_M} {r : ak_O × ak_M} (p1 : Nat) (y2 : Int32) (y3 : Nat) (y4 : Int32) (h : (if 20 ≤ y4 then (∃ i16 : Nat, ((y3 < ak_P M ∧ ak_K M y3 = 100) ∧ ab_ix 0 i16 (ak_N M y3)) ∧ (∃ i18 : Nat, ((y3 < ak_P M ∧ ak_K M y3 = 100) ∧ ab_ix 1 i18 (ak_N M y3)) ∧ (∃ i20 : Nat, ((y3 < ak_P M ∧ ak_K M y3 = 100) ∧ ab_ix 2 i20 (ak_N M y3)) ∧ (∃ i22 : Nat, ((y3 < ak_P M ∧ ak_K M y3 = 100) ∧ ab_ix 3 i22 (ak_N M y3)) ∧ (∃ i24 : Nat, ((y3 < ak_P M ∧ ak_K M y3 = 100) ∧ ab_ix 4 i24 (ak_N M y3)) ∧ (ak_rc M 0 = 11 ∧ ∃ (v27 : Int32) (M26 : ak_M), rn X 87 [.ref 0, .int (ak_I M y3 i16), .int (ak_I M y3 i18), .int (ak_I M y3 i20), .int (ak_I M y3 i22), .int (ak_I M y3 i24)] M (.inl (some (.int v27)), M26) ∧ sg X 359 (2, [some (.ref 0), some (.ref p1), some (.int (y2 + 20)), some (.ref y3), some (.int y4)], [], []) M26 r)))))) else (∃ i30 : Nat, ((y3 < ak_P M ∧ ak_K M y3 = 100) ∧ ab_ix (y4 / 4) i30 (ak_N M y3)) ∧ (ak_rc M p1 = 13 ∧ ∃ (v33 : Int32) (M32 : ak_M), rn X 317 [.ref p1] M (.inl (some (.int v33)), M32) ∧ (if v33 ≤ y2 + y4 then (∃ i34 : Nat, ((y3 < ak_P M32 ∧ ak_K M32 y3 = 100) ∧ ab_ix (y4 / 4) i34 (ak_N M32 y3)) ∧ ∀ M35 : ak_M, M35 = ak_sI M32 y3 i34 ((ak_I M y3 i30) ||| (32 <<< ((24 - (8 * (y4 - y4 / 4 * 4))) &&& 31))) → sg X 359 (17, [some (.ref 0), some (.ref p1), some (.int y2), some (.ref y3), some (.int (y4 + 1))], [], []) M35 r) else (ak_rc M32 p1 = 13 ∧ ∃ (v38 : Int32) (M37 : ak_M), rn X 318 [.ref p1, .int (y2 + y4)] M32 (.inl (some (.int v38)), M37) ∧ (∃ i39 : Nat, ((y3 < ak_P M37 ∧ ak_K M37 y3 = 100) ∧ ab_ix (y4 / 4) i39 (ak_N M37 y3)) ∧ ∀ M40 : ak_M, M40 = ak_sI M37 y3 i39 ((ak_I M y3 i30) ||| (v38 <<< ((24 - (8 * (y4 - y4 / 4 * 4))) &&& 31))) → sg X 359 (17, [some (.ref 0), some (.ref p1), some (.int y2), some (.ref y3), some (.int (y4 + 1))], [], []) M40 r))))))) : sg X 359 (17, [some (.ref 0), some (.ref p1), some (.int y2), some (.ref y3), some (.int y4)], [], []) M r := by
  refine w_iload (n := 19) (i := 4) (by decide +kernel) rfl rfl ?_
  refine w_bipush (n := 21) (v := 20) (x := 20) (by decide +kernel) rfl (by decide) ?_
  by_cases c47 : 20 ≤ y4
  · rw [if_pos c47] at h
    refine w_icmp_ge_j (n := 74) (off := 53) (by decide +kernel) (by decide) c47 ?_
    refine w_aload_n (n := 75) (i := 0) (by decide +kernel) rfl rfl ?_
    refine w_aload_n (n := 76) (i := 3) (by decide +kernel) rfl rfl ?_
    refine w_iconst (n := 77) (v := 0) (x := 0) (by decide +kernel) rfl (by decide) ?_
    obtain ⟨i16, g17, h⟩ := h
    refine x_ia (n := 78) (by decide +kernel) g17.1 g17.2 rfl ?_
    refine w_aload_n (n := 79) (i := 3) (by decide +kernel) rfl rfl ?_
    refine w_iconst (n := 80) (v := 1) (x := 1) (by decide +kernel) rfl (by decide) ?_
    obtain ⟨i18, g19, h⟩ := h
    refine x_ia (n := 81) (by decide +kernel) g19.1 g19.2 rfl ?_
    refine w_aload_n (n := 82) (i := 3) (by decide +kernel) rfl rfl ?_
    refine w_iconst (n := 83) (v := 2) (x := 2) (by decide +kernel) rfl (by decide) ?_
    obtain ⟨i20, g21, h⟩ := h
    refine x_ia (n := 84) (by decide +kernel) g21.1 g21.2 rfl ?_
    refine w_aload_n (n := 85) (i := 3) (by decide +kernel) rfl rfl ?_
    refine w_iconst (n := 86) (v := 3) (x := 3) (by decide +kernel) rfl (by decide) ?_
    obtain ⟨i22, g23, h⟩ := h
    refine x_ia (n := 87) (by decide +kernel) g23.1 g23.2 rfl ?_
    refine w_aload_n (n := 88) (i := 3) (by decide +kernel) rfl rfl ?_
    refine w_iconst (n := 89) (v := 4) (x := 4) (by decide +kernel) rfl (by decide) ?_
    obtain ⟨i24, g25, h⟩ := h
    refine x_ia (n := 90) (by decide +kernel) g25.1 g25.2 rfl ?_
    obtain ⟨g29, h⟩ := h
    obtain ⟨v27, M26, hr28, h⟩ := h
    refine w_cVr (n := 93) (idx := 25) (cal := 87) (na := 5) (nl := 6) (as := [.int (ak_I M y3 i16), .int (ak_I M y3 i18), .int (ak_I M y3 i20), .int (ak_I M y3 i22), .int (ak_I M y3 i24)]) (rest := []) (g29.trans (by decide +kernel)) (by decide +kernel) (by decide +kernel) rfl rfl rfl (Nat.le_of_ble_eq_true rfl) rfl hr28 ?_
    refine w_pop_int (n := 94) (by decide +kernel) rfl ?_
    refine w_iinc (n := 97) (i := 2) (v := 20) (y := y2 + 20) (l1' := [some (.ref 0), some (.ref p1), some (.int (y2 + 20)), some (.ref y3), some (.int y4)]) (l2' := []) (by decide +kernel) rfl rfl rfl rfl rfl ?_
    refine w_goto (n := 2) (off := (-95)) (by decide +kernel) (by decide) ?_
    exact h
  · rw [if_neg c47] at h
    refine w_icmp_ge_n (n := 24) (off := 53) (by decide +kernel) rfl c47 ?_
    refine w_aload_n (n := 25) (i := 3) (by decide +kernel) rfl rfl ?_
    refine w_iload (n := 27) (i := 4) (by decide +kernel) rfl rfl ?_
    refine w_iconst (n := 28) (v := 4) (x := 4) (by decide +kernel) rfl (by decide) ?_
    refine w_idiv (n := 29) (by decide +kernel) rfl (by decide) ?_
    refine x_dup2 (n := 30) ⟨rfl, rfl⟩ (by decide +kernel) rfl ?_
    obtain ⟨i30, g31, h⟩ := h
    refine x_ia (n := 31) (by decide +kernel) g31.1 g31.2 rfl ?_
    refine w_iload_n (n := 32) (i := 2) (by decide +kernel) rfl rfl ?_
    refine w_iload (n := 34) (i := 4) (by decide +kernel) rfl rfl ?_
    refine w_iadd (n := 35) (by decide +kernel) rfl ?_
    refine w_aload_n (n := 36) (i := 1) (by decide +kernel) rfl rfl ?_
    obtain ⟨g46, h⟩ := h
    obtain ⟨v33, M32, hr45, h⟩ := h
    refine w_cVr (n := 39) (idx := 15) (cal := 317) (na := 0) (nl := 1) (as := []) (rest := [.int (y2 + y4), .int (ak_I M y3 i30), .int (y4 / 4), .ref y3]) (g46.trans (by decide +kernel)) (by decide +kernel) (by decide +kernel) rfl rfl rfl (Nat.le_of_ble_eq_true rfl) rfl hr45 ?_
    by_cases c44 : v33 ≤ y2 + y4
    · rw [if_pos c44] at h
      refine w_icmp_ge_j (n := 53) (off := 14) (by decide +kernel) (by decide) c44 ?_
      refine w_bipush (n := 55) (v := 32) (x := 32) (by decide +kernel) rfl (by decide) ?_
      refine w_bipush (n := 57) (v := 24) (x := 24) (by decide +kernel) rfl (by decide) ?_
      refine w_bipush (n := 59) (v := 8) (x := 8) (by decide +kernel) rfl (by decide) ?_
      refine w_iload (n := 61) (i := 4) (by decide +kernel) rfl rfl ?_
      refine w_iconst (n := 62) (v := 4) (x := 4) (by decide +kernel) rfl (by decide) ?_
      refine w_irem (n := 63) (by decide +kernel) rfl (by decide) ?_
      refine w_imul (n := 64) (by decide +kernel) rfl ?_
      refine w_isub (n := 65) (by decide +kernel) rfl ?_
      refine w_ishl (n := 66) (by decide +kernel) rfl ?_
      refine w_ior (n := 67) (by decide +kernel) rfl ?_
      obtain ⟨i34, g36, h⟩ := h
      refine x_is (n := 68) (by decide +kernel) g36.1 g36.2 rfl rfl ?_
      replace h := h _ rfl
      generalize ak_sI M32 y3 i34 ((ak_I M y3 i30) ||| (32 <<< ((24 - (8 * (y4 - y4 / 4 * 4))) &&& 31))) = M35 at h ⊢
      refine w_iinc (n := 71) (i := 4) (v := 1) (y := y4 + 1) (l1' := [some (.ref 0), some (.ref p1), some (.int y2), some (.ref y3), some (.int (y4 + 1))]) (l2' := []) (by decide +kernel) rfl rfl rfl rfl rfl ?_
      refine w_goto (n := 17) (off := (-54)) (by decide +kernel) (by decide) ?_
      exact h
    · rw [if_neg c44] at h
      refine w_icmp_ge_n (n := 42) (off := 14) (by decide +kernel) rfl c44 ?_
      refine w_aload_n (n := 43) (i := 1) (by decide +kernel) rfl rfl ?_
      refine w_iload_n (n := 44) (i := 2) (by decide +kernel) rfl rfl ?_
      refine w_iload (n := 46) (i := 4) (by decide +kernel) rfl rfl ?_
      refine w_iadd (n := 47) (by decide +kernel) rfl ?_
      obtain ⟨g43, h⟩ := h
      obtain ⟨v38, M37, hr42, h⟩ := h
      refine w_cVr (n := 50) (idx := 21) (cal := 318) (na := 1) (nl := 2) (as := [.int (y2 + y4)]) (rest := [.int (ak_I M y3 i30), .int (y4 / 4), .ref y3]) (g43.trans (by decide +kernel)) (by decide +kernel) (by decide +kernel) rfl rfl rfl (Nat.le_of_ble_eq_true rfl) rfl hr42 ?_
      refine w_goto (n := 55) (off := 5) (by decide +kernel) (by decide) ?_
      refine w_bipush (n := 57) (v := 24) (x := 24) (by decide +kernel) rfl (by decide) ?_
      refine w_bipush (n := 59) (v := 8) (x := 8) (by decide +kernel) rfl (by decide) ?_
      refine w_iload (n := 61) (i := 4) (by decide +kernel) rfl rfl ?_
      refine w_iconst (n := 62) (v := 4) (x := 4) (by decide +kernel) rfl (by decide) ?_
      refine w_irem (n := 63) (by decide +kernel) rfl (by decide) ?_
      refine w_imul (n := 64) (by decide +kernel) rfl ?_
      refine w_isub (n := 65) (by decide +kernel) rfl ?_
      refine w_ishl (n := 66) (by decide +kernel) rfl ?_
      refine w_ior (n := 67) (by decide +kernel) rfl ?_
      obtain ⟨i39, g41, h⟩ := h
      refine x_is (n := 68) (by decide +kernel) g41.1 g41.2 rfl rfl ?_
      replace h := h _ rfl
      generalize ak_sI M37 y3 i39 ((ak_I M y3 i30) ||| (v38 <<< ((24 - (8 * (y4 - y4 / 4 * 4))) &&& 31))) = M40 at h ⊢
      refine w_iinc (n := 71) (i := 4) (v := 1) (y := y4 + 1) (l1' := [some (.ref 0), some (.ref p1), some (.int y2), some (.ref y3), some (.int (y4 + 1))]) (l2' := []) (by decide +kernel) rfl rfl rfl rfl rfl ?_
      refine w_goto (n := 17) (off := (-54)) (by decide +kernel) (by decide) ?_
      exact h
theorem t_360 {X : ak_X} {M : ak_M} {r : ak_O × ak_M} (p1 : Nat) (h : (∃ (M1 : ak_M), rn X 359 [.ref 0, .ref p1] M (.inl (none), M1) ∧ (ak_rc M1 0 = 11 ∧ ∃ (v3 : Int32) (M2 : ak_M), rn X 89 [.ref 0] M1 (.inl (some (.int v3)), M2) ∧ r = (.inl (some (.int v3)), M2)))) : rn X 360 [.ref 0, .ref p1] M r := by
  refine w_rn (nL := 2) (l1 := [some (.ref 0), some (.ref p1)]) (by decide +kernel) rfl rfl ?_
  refine w_aload_n (n := 1) (i := 0) (by decide +kernel) rfl rfl ?_
  refine w_aload_n (n := 2) (i := 1) (by decide +kernel) rfl rfl ?_
  obtain ⟨M1, hr6, h⟩ := h
  refine w_cS (n := 5) (idx := 35) (cal := 359) (na := 2) (nl := 2) (as := [.ref 0, .ref p1]) (rest := []) (by decide +kernel) (by decide +kernel) rfl rfl rfl (Nat.le_of_ble_eq_true rfl) rfl hr6 ?_
  refine w_aload_n (n := 6) (i := 0) (by decide +kernel) rfl rfl ?_
  obtain ⟨g5, h⟩ := h
  obtain ⟨v3, M2, hr4, h⟩ := h
  refine w_cVr (n := 9) (idx := 39) (cal := 89) (na := 0) (nl := 1) (as := []) (rest := []) (g5.trans (by decide +kernel)) (by decide +kernel) (by decide +kernel) rfl rfl rfl (Nat.le_of_ble_eq_true rfl) rfl hr4 ?_
  subst h
  exact w_ireturn (by decide +kernel) (w_okI (by decide +kernel))
theorem t_361 {X : ak_X} {M : ak_M} {r : ak_O × ak_M} (x1 : Int32) (h : ((ak_P M < 900000) ∧ ∀ M1 : ak_M, M1 = ak_new M 12 0 (am_nf 12) → (∃ (M3 : ak_M), rn X 349 [.ref (ak_P M), .ref (1001000 + 15)] M1 (.inl (none), M3) ∧ (∃ (v5 : Int32) (M4 : ak_M), rn X 358 [.ref 1000000, .int 1, .int 0, .int 50] M3 (.inl (some (.int v5)), M4) ∧ (ak_rc M4 (ak_P M) = 12 ∧ ∃ (v7 : Nat) (M6 : ak_M), rn X 345 [.ref (ak_P M), .int v5] M4 (.inl (some (.ref v7)), M6) ∧ (ak_rc M6 v7 = 12 ∧ ∃ (v9 : Nat) (M8 : ak_M), rn X 343 [.ref v7, .ref (1001000 + 16)] M6 (.inl (some (.ref v9)), M8) ∧ (∃ (v11 : Int32) (M10 : ak_M), rn X 358 [.ref 1000000, .int 2, .int 0, .int 50] M8 (.inl (some (.int v11)), M10) ∧ (ak_rc M10 v9 = 12 ∧ ∃ (v13 : Nat) (M12 : ak_M), rn X 345 [.ref v9, .int v11] M10 (.inl (some (.ref v13)), M12) ∧ (ak_rc M12 v13 = 12 ∧ ∃ (v15 : Nat) (M14 : ak_M), rn X 343 [.ref v13, .ref (1001000 + 17)] M12 (.inl (some (.ref v15)), M14) ∧ (∃ (v17 : Int32) (M16 : ak_M), rn X 358 [.ref 1000000, .int 3, .int 0, .int 20] M14 (.inl (some (.int v17)), M16) ∧ (ak_rc M16 v15 = 12 ∧ ∃ (v19 : Nat) (M18 : ak_M), rn X 345 [.ref v15, .int v17] M16 (.inl (some (.ref v19)), M18) ∧ (ak_rc M18 v19 = 12 ∧ ∃ (v21 : Nat) (M20 : ak_M), rn X 344 [.ref v19, .int 59] M18 (.inl (some (.ref v21)), M20) ∧ sg X 361 (62, [some (.ref 1000000), some (.int x1), some (.ref (ak_P M)), some (.int 0), none, none, none], [], []) M20 r)))))))))))) : rn X 361 [.ref 1000000, .int x1] M r := by
  refine w_rn (nL := 7) (l1 := [some (.ref 1000000), some (.int x1), none, none, none, none, none]) (by decide +kernel) rfl rfl ?_
  obtain ⟨g2, h⟩ := h
  refine x_nO (n := 3) (idx := 42) (ci := 12) (z := (997, 998, 42)) (by decide +kernel) oO_361 (by decide +kernel) g2 rfl (rfl) ?_
  replace h := h _ rfl
  generalize ak_new M 12 0 (am_nf 12) = M1 at h ⊢
  refine w_dup_ref (n := 4) (by decide +kernel) rfl ?_
  refine w_ldc (n := 6) (idx := 44) (s := 15) (by decide +kernel) oO_361 (by decide +kernel) rfl ?_
  obtain ⟨M3, hr40, h⟩ := h
  refine w_cI (n := 9) (idx := 46) (cal := 349) (na := 1) (nl := 2) (as := [.ref (1001000 + 15)]) (rest := [.ref (ak_P M)]) (by decide +kernel) (by decide +kernel) rfl rfl rfl (Nat.le_of_ble_eq_true rfl) rfl hr40 ?_
  refine w_astore_n (n := 10) (i := 2) (l1' := [some (.ref 1000000), some (.int x1), some (.ref (ak_P M)), none, none, none, none]) (l2' := []) (by decide +kernel) rfl (Nat.le_of_ble_eq_true rfl) rfl rfl ?_
  refine w_aload_n (n := 11) (i := 2) (by decide +kernel) rfl rfl ?_
  refine w_aload_n (n := 12) (i := 0) (by decide +kernel) rfl rfl ?_
  refine w_iconst (n := 13) (v := 1) (x := 1) (by decide +kernel) rfl (by decide) ?_
  refine w_iconst (n := 14) (v := 0) (x := 0) (by decide +kernel) rfl (by decide) ?_
  refine w_bipush (n := 16) (v := 50) (x := 50) (by decide +kernel) rfl (by decide) ?_
  obtain ⟨v5, M4, hr38, h⟩ := h
  refine w_cS (n := 19) (idx := 49) (cal := 358) (na := 4) (nl := 4) (as := [.ref 1000000, .int 1, .int 0, .int 50]) (rest := [.ref (ak_P M)]) (by decide +kernel) (by decide +kernel) rfl rfl rfl (Nat.le_of_ble_eq_true rfl) rfl hr38 ?_
  obtain ⟨g37, h⟩ := h
  obtain ⟨v7, M6, hr36, h⟩ := h
  refine w_cVr (n := 22) (idx := 53) (cal := 345) (na := 1) (nl := 2) (as := [.int v5]) (rest := []) (g37.trans (by decide +kernel)) (by decide +kernel) (by decide +kernel) rfl rfl rfl (Nat.le_of_ble_eq_true rfl) rfl hr36 ?_
  refine w_ldc (n := 24) (idx := 57) (s := 16) (by decide +kernel) oO_361 (by decide +kernel) rfl ?_
  obtain ⟨g35, h⟩ := h
  obtain ⟨v9, M8, hr34, h⟩ := h
  refine w_cVr (n := 27) (idx := 59) (cal := 343) (na := 1) (nl := 2) (as := [.ref (1001000 + 16)]) (rest := []) (g35.trans (by decide +kernel)) (by decide +kernel) (by decide +kernel) rfl rfl rfl (Nat.le_of_ble_eq_true rfl) rfl hr34 ?_
  refine w_aload_n (n := 28) (i := 0) (by decide +kernel) rfl rfl ?_
  refine w_iconst (n := 29) (v := 2) (x := 2) (by decide +kernel) rfl (by decide) ?_
  refine w_iconst (n := 30) (v := 0) (x := 0) (by decide +kernel) rfl (by decide) ?_
  refine w_bipush (n := 32) (v := 50) (x := 50) (by decide +kernel) rfl (by decide) ?_
  obtain ⟨v11, M10, hr32, h⟩ := h
  refine w_cS (n := 35) (idx := 49) (cal := 358) (na := 4) (nl := 4) (as := [.ref 1000000, .int 2, .int 0, .int 50]) (rest := [.ref v9]) (by decide +kernel) (by decide +kernel) rfl rfl rfl (Nat.le_of_ble_eq_true rfl) rfl hr32 ?_
  obtain ⟨g31, h⟩ := h
  obtain ⟨v13, M12, hr30, h⟩ := h
  refine w_cVr (n := 38) (idx := 53) (cal := 345) (na := 1) (nl := 2) (as := [.int v11]) (rest := []) (g31.trans (by decide +kernel)) (by decide +kernel) (by decide +kernel) rfl rfl rfl (Nat.le_of_ble_eq_true rfl) rfl hr30 ?_
  refine w_ldc (n := 40) (idx := 62) (s := 17) (by decide +kernel) oO_361 (by decide +kernel) rfl ?_
  obtain ⟨g29, h⟩ := h
  obtain ⟨v15, M14, hr28, h⟩ := h
  refine w_cVr (n := 43) (idx := 59) (cal := 343) (na := 1) (nl := 2) (as := [.ref (1001000 + 17)]) (rest := []) (g29.trans (by decide +kernel)) (by decide +kernel) (by decide +kernel) rfl rfl rfl (Nat.le_of_ble_eq_true rfl) rfl hr28 ?_
  refine w_aload_n (n := 44) (i := 0) (by decide +kernel) rfl rfl ?_
  refine w_iconst (n := 45) (v := 3) (x := 3) (by decide +kernel) rfl (by decide) ?_
  refine w_iconst (n := 46) (v := 0) (x := 0) (by decide +kernel) rfl (by decide) ?_
  refine w_bipush (n := 48) (v := 20) (x := 20) (by decide +kernel) rfl (by decide) ?_
  obtain ⟨v17, M16, hr26, h⟩ := h
  refine w_cS (n := 51) (idx := 49) (cal := 358) (na := 4) (nl := 4) (as := [.ref 1000000, .int 3, .int 0, .int 20]) (rest := [.ref v15]) (by decide +kernel) (by decide +kernel) rfl rfl rfl (Nat.le_of_ble_eq_true rfl) rfl hr26 ?_
  obtain ⟨g25, h⟩ := h
  obtain ⟨v19, M18, hr24, h⟩ := h
  refine w_cVr (n := 54) (idx := 53) (cal := 345) (na := 1) (nl := 2) (as := [.int v17]) (rest := []) (g25.trans (by decide +kernel)) (by decide +kernel) (by decide +kernel) rfl rfl rfl (Nat.le_of_ble_eq_true rfl) rfl hr24 ?_
  refine w_bipush (n := 56) (v := 59) (x := 59) (by decide +kernel) rfl (by decide) ?_
  obtain ⟨g23, h⟩ := h
  obtain ⟨v21, M20, hr22, h⟩ := h
  refine w_cVr (n := 59) (idx := 64) (cal := 344) (na := 1) (nl := 2) (as := [.int 59]) (rest := []) (g23.trans (by decide +kernel)) (by decide +kernel) (by decide +kernel) rfl rfl rfl (Nat.le_of_ble_eq_true rfl) rfl hr22 ?_
  refine w_pop_ref (n := 60) (by decide +kernel) rfl ?_
  refine w_iconst (n := 61) (v := 0) (x := 0) (by decide +kernel) rfl (by decide) ?_
  refine w_istore_n (n := 62) (i := 3) (l1' := [some (.ref 1000000), some (.int x1), some (.ref (ak_P M)), some (.int 0), none, none, none]) (l2' := []) (by decide +kernel) rfl (Nat.le_of_ble_eq_true rfl) rfl rfl ?_
  exact h
theorem t_361_62 {X : ak_X} {M : ak_M} {r : ak_O × ak_M} (x1 : Int32) (y2 : Nat) (y3 : Int32) (o4 : Option Value) (o5 : Option Value) (o6 : Option Value) (h : (if x1 ≤ y3 then sg X 361 (195, [some (.ref 1000000), some (.int x1), some (.ref y2), some (.int 0), some (.int 0), o5, o6], [], []) M r else (ak_rc M y2 = 12 ∧ ∃ (v43 : Nat) (M42 : ak_M), rn X 343 [.ref y2, .ref (1001000 + 18)] M (.inl (some (.ref v43)), M42) ∧ (ak_rc M42 v43 = 12 ∧ ∃ (v45 : Nat) (M44 : ak_M), rn X 344 [.ref v43, .int (((97 + y3).toUInt32 % 65536).toInt32)] M42 (.inl (some (.ref v45)), M44) ∧ (ak_rc M44 v45 = 12 ∧ ∃ (v47 : Nat) (M46 : ak_M), rn X 344 [.ref v45, .int 32] M44 (.inl (some (.ref v47)), M46) ∧ (∃ (v49 : Int32) (M48 : ak_M), rn X 358 [.ref 1000000, .int (10 + y3), .int 60, .int 110] M46 (.inl (some (.int v49)), M48) ∧ (ak_rc M48 v47 = 12 ∧ ∃ (v51 : Nat) (M50 : ak_M), rn X 345 [.ref v47, .int v49] M48 (.inl (some (.ref v51)), M50) ∧ (ak_rc M50 v51 = 12 ∧ ∃ (v53 : Nat) (M52 : ak_M), rn X 344 [.ref v51, .int 32] M50 (.inl (some (.ref v53)), M52) ∧ (∃ (v55 : Int32) (M54 : ak_M), rn X 358 [.ref 1000000, .int (20 + y3), .int 60, .int 110] M52 (.inl (some (.int v55)), M54) ∧ (ak_rc M54 v53 = 12 ∧ ∃ (v57 : Nat) (M56 : ak_M), rn X 345 [.ref v53, .int v55] M54 (.inl (some (.ref v57)), M56) ∧ (ak_rc M56 v57 = 12 ∧ ∃ (v59 : Nat) (M58 : ak_M), rn X 343 [.ref v57, .ref (1001000 + 19)] M56 (.inl (some (.ref v59)), M58) ∧ (∃ (v61 : Int32) (M60 : ak_M), rn X 358 [.ref 1000000, .int (30 + y3), .int 0, .int 9] M58 (.inl (some (.int v61)), M60) ∧ (ak_rc M60 v59 = 12 ∧ ∃ (v63 : Nat) (M62 : ak_M), rn X 345 [.ref v59, .int v61] M60 (.inl (some (.ref v63)), M62) ∧ (ak_rc M62 v63 = 12 ∧ ∃ (v65 : Nat) (M64 : ak_M), rn X 343 [.ref v63, .ref (1001000 + 20)] M62 (.inl (some (.ref v65)), M64) ∧ (∃ (v67 : Int32) (M66 : ak_M), rn X 358 [.ref 1000000, .int (40 + y3), .int 1, .int 40] M64 (.inl (some (.int v67)), M66) ∧ (ak_rc M66 v65 = 12 ∧ ∃ (v69 : Nat) (M68 : ak_M), rn X 345 [.ref v65, .int v67] M66 (.inl (some (.ref v69)), M68) ∧ (ak_rc M68 v69 = 12 ∧ ∃ (v71 : Nat) (M70 : ak_M), rn X 343 [.ref v69, .ref (1001000 + 21)] M68 (.inl (some (.ref v71)), M70) ∧ (∃ (v73 : Int32) (M72 : ak_M), rn X 358 [.ref 1000000, .int (50 + y3), .int 1, .int 60] M70 (.inl (some (.int v73)), M72) ∧ (ak_rc M72 v71 = 12 ∧ ∃ (v75 : Nat) (M74 : ak_M), rn X 345 [.ref v71, .int v73] M72 (.inl (some (.ref v75)), M74) ∧ (ak_rc M74 v75 = 12 ∧ ∃ (v77 : Nat) (M76 : ak_M), rn X 344 [.ref v75, .int 59] M74 (.inl (some (.ref v77)), M76) ∧ sg X 361 (62, [some (.ref 1000000), some (.int x1), some (.ref y2), some (.int (y3 + 1)), o4, o5, o6], [], []) M76 r)))))))))))))))))))) : sg X 361 (62, [some (.ref 1000000), some (.int x1), some (.ref y2), some (.int y3), o4, o5, o6], [], []) M r := by
  refine w_iload_n (n := 63) (i := 3) (by decide +kernel) rfl rfl ?_
  refine w_iload_n (n := 64) (i := 1) (by decide +kernel) rfl rfl ?_
  by_cases c114 : x1 ≤ y3
  · rw [if_pos c114] at h
    refine w_icmp_ge_j (n := 190) (off := 126) (by decide +kernel) (by decide) c114 ?_
    refine w_iconst (n := 191) (v := 0) (x := 0) (by decide +kernel) rfl (by decide) ?_
    refine w_istore_n (n := 192) (i := 3) (l1' := [some (.ref 1000000), some (.int x1), some (.ref y2), some (.int 0), o4, o5, o6]) (l2' := []) (by decide +kernel) rfl (Nat.le_of_ble_eq_true rfl) rfl rfl ?_
    refine w_iconst (n := 193) (v := 0) (x := 0) (by decide +kernel) rfl (by decide) ?_
    refine w_istore (n := 195) (i := 4) (l1' := [some (.ref 1000000), some (.int x1), some (.ref y2), some (.int 0), some (.int 0), o5, o6]) (l2' := []) (by decide +kernel) rfl (Nat.le_of_ble_eq_true rfl) rfl rfl ?_
    exact h
  · rw [if_neg c114] at h
    refine w_icmp_ge_n (n := 67) (off := 126) (by decide +kernel) rfl c114 ?_
    refine w_aload_n (n := 68) (i := 2) (by decide +kernel) rfl rfl ?_
    refine w_ldc (n := 70) (idx := 67) (s := 18) (by decide +kernel) oO_361 (by decide +kernel) rfl ?_
    obtain ⟨g113, h⟩ := h
    obtain ⟨v43, M42, hr112, h⟩ := h
    refine w_cVr (n := 73) (idx := 59) (cal := 343) (na := 1) (nl := 2) (as := [.ref (1001000 + 18)]) (rest := []) (g113.trans (by decide +kernel)) (by decide +kernel) (by decide +kernel) rfl rfl rfl (Nat.le_of_ble_eq_true rfl) rfl hr112 ?_
    refine w_bipush (n := 75) (v := 97) (x := 97) (by decide +kernel) rfl (by decide) ?_
    refine w_iload_n (n := 76) (i := 3) (by decide +kernel) rfl rfl ?_
    refine w_iadd (n := 77) (by decide +kernel) rfl ?_
    refine w_i2c (n := 78) (by decide +kernel) rfl ?_
    obtain ⟨g111, h⟩ := h
    obtain ⟨v45, M44, hr110, h⟩ := h
    refine w_cVr (n := 81) (idx := 64) (cal := 344) (na := 1) (nl := 2) (as := [.int (((97 + y3).toUInt32 % 65536).toInt32)]) (rest := []) (g111.trans (by decide +kernel)) (by decide +kernel) (by decide +kernel) rfl rfl rfl (Nat.le_of_ble_eq_true rfl) rfl hr110 ?_
    refine w_bipush (n := 83) (v := 32) (x := 32) (by decide +kernel) rfl (by decide) ?_
    obtain ⟨g109, h⟩ := h
    obtain ⟨v47, M46, hr108, h⟩ := h
    refine w_cVr (n := 86) (idx := 64) (cal := 344) (na := 1) (nl := 2) (as := [.int 32]) (rest := []) (g109.trans (by decide +kernel)) (by decide +kernel) (by decide +kernel) rfl rfl rfl (Nat.le_of_ble_eq_true rfl) rfl hr108 ?_
    refine w_aload_n (n := 87) (i := 0) (by decide +kernel) rfl rfl ?_
    refine w_bipush (n := 89) (v := 10) (x := 10) (by decide +kernel) rfl (by decide) ?_
    refine w_iload_n (n := 90) (i := 3) (by decide +kernel) rfl rfl ?_
    refine w_iadd (n := 91) (by decide +kernel) rfl ?_
    refine w_bipush (n := 93) (v := 60) (x := 60) (by decide +kernel) rfl (by decide) ?_
    refine w_bipush (n := 95) (v := 110) (x := 110) (by decide +kernel) rfl (by decide) ?_
    obtain ⟨v49, M48, hr106, h⟩ := h
    refine w_cS (n := 98) (idx := 49) (cal := 358) (na := 4) (nl := 4) (as := [.ref 1000000, .int (10 + y3), .int 60, .int 110]) (rest := [.ref v47]) (by decide +kernel) (by decide +kernel) rfl rfl rfl (Nat.le_of_ble_eq_true rfl) rfl hr106 ?_
    obtain ⟨g105, h⟩ := h
    obtain ⟨v51, M50, hr104, h⟩ := h
    refine w_cVr (n := 101) (idx := 53) (cal := 345) (na := 1) (nl := 2) (as := [.int v49]) (rest := []) (g105.trans (by decide +kernel)) (by decide +kernel) (by decide +kernel) rfl rfl rfl (Nat.le_of_ble_eq_true rfl) rfl hr104 ?_
    refine w_bipush (n := 103) (v := 32) (x := 32) (by decide +kernel) rfl (by decide) ?_
    obtain ⟨g103, h⟩ := h
    obtain ⟨v53, M52, hr102, h⟩ := h
    refine w_cVr (n := 106) (idx := 64) (cal := 344) (na := 1) (nl := 2) (as := [.int 32]) (rest := []) (g103.trans (by decide +kernel)) (by decide +kernel) (by decide +kernel) rfl rfl rfl (Nat.le_of_ble_eq_true rfl) rfl hr102 ?_
    refine w_aload_n (n := 107) (i := 0) (by decide +kernel) rfl rfl ?_
    refine w_bipush (n := 109) (v := 20) (x := 20) (by decide +kernel) rfl (by decide) ?_
    refine w_iload_n (n := 110) (i := 3) (by decide +kernel) rfl rfl ?_
    refine w_iadd (n := 111) (by decide +kernel) rfl ?_
    refine w_bipush (n := 113) (v := 60) (x := 60) (by decide +kernel) rfl (by decide) ?_
    refine w_bipush (n := 115) (v := 110) (x := 110) (by decide +kernel) rfl (by decide) ?_
    obtain ⟨v55, M54, hr100, h⟩ := h
    refine w_cS (n := 118) (idx := 49) (cal := 358) (na := 4) (nl := 4) (as := [.ref 1000000, .int (20 + y3), .int 60, .int 110]) (rest := [.ref v53]) (by decide +kernel) (by decide +kernel) rfl rfl rfl (Nat.le_of_ble_eq_true rfl) rfl hr100 ?_
    obtain ⟨g99, h⟩ := h
    obtain ⟨v57, M56, hr98, h⟩ := h
    refine w_cVr (n := 121) (idx := 53) (cal := 345) (na := 1) (nl := 2) (as := [.int v55]) (rest := []) (g99.trans (by decide +kernel)) (by decide +kernel) (by decide +kernel) rfl rfl rfl (Nat.le_of_ble_eq_true rfl) rfl hr98 ?_
    refine w_ldc (n := 123) (idx := 69) (s := 19) (by decide +kernel) oO_361 (by decide +kernel) rfl ?_
    obtain ⟨g97, h⟩ := h
    obtain ⟨v59, M58, hr96, h⟩ := h
    refine w_cVr (n := 126) (idx := 59) (cal := 343) (na := 1) (nl := 2) (as := [.ref (1001000 + 19)]) (rest := []) (g97.trans (by decide +kernel)) (by decide +kernel) (by decide +kernel) rfl rfl rfl (Nat.le_of_ble_eq_true rfl) rfl hr96 ?_
    refine w_aload_n (n := 127) (i := 0) (by decide +kernel) rfl rfl ?_
    refine w_bipush (n := 129) (v := 30) (x := 30) (by decide +kernel) rfl (by decide) ?_
    refine w_iload_n (n := 130) (i := 3) (by decide +kernel) rfl rfl ?_
    refine w_iadd (n := 131) (by decide +kernel) rfl ?_
    refine w_iconst (n := 132) (v := 0) (x := 0) (by decide +kernel) rfl (by decide) ?_
    refine w_bipush (n := 134) (v := 9) (x := 9) (by decide +kernel) rfl (by decide) ?_
    obtain ⟨v61, M60, hr94, h⟩ := h
    refine w_cS (n := 137) (idx := 49) (cal := 358) (na := 4) (nl := 4) (as := [.ref 1000000, .int (30 + y3), .int 0, .int 9]) (rest := [.ref v59]) (by decide +kernel) (by decide +kernel) rfl rfl rfl (Nat.le_of_ble_eq_true rfl) rfl hr94 ?_
    obtain ⟨g93, h⟩ := h
    obtain ⟨v63, M62, hr92, h⟩ := h
    refine w_cVr (n := 140) (idx := 53) (cal := 345) (na := 1) (nl := 2) (as := [.int v61]) (rest := []) (g93.trans (by decide +kernel)) (by decide +kernel) (by decide +kernel) rfl rfl rfl (Nat.le_of_ble_eq_true rfl) rfl hr92 ?_
    refine w_ldc (n := 142) (idx := 71) (s := 20) (by decide +kernel) oO_361 (by decide +kernel) rfl ?_
    obtain ⟨g91, h⟩ := h
    obtain ⟨v65, M64, hr90, h⟩ := h
    refine w_cVr (n := 145) (idx := 59) (cal := 343) (na := 1) (nl := 2) (as := [.ref (1001000 + 20)]) (rest := []) (g91.trans (by decide +kernel)) (by decide +kernel) (by decide +kernel) rfl rfl rfl (Nat.le_of_ble_eq_true rfl) rfl hr90 ?_
    refine w_aload_n (n := 146) (i := 0) (by decide +kernel) rfl rfl ?_
    refine w_bipush (n := 148) (v := 40) (x := 40) (by decide +kernel) rfl (by decide) ?_
    refine w_iload_n (n := 149) (i := 3) (by decide +kernel) rfl rfl ?_
    refine w_iadd (n := 150) (by decide +kernel) rfl ?_
    refine w_iconst (n := 151) (v := 1) (x := 1) (by decide +kernel) rfl (by decide) ?_
    refine w_bipush (n := 153) (v := 40) (x := 40) (by decide +kernel) rfl (by decide) ?_
    obtain ⟨v67, M66, hr88, h⟩ := h
    refine w_cS (n := 156) (idx := 49) (cal := 358) (na := 4) (nl := 4) (as := [.ref 1000000, .int (40 + y3), .int 1, .int 40]) (rest := [.ref v65]) (by decide +kernel) (by decide +kernel) rfl rfl rfl (Nat.le_of_ble_eq_true rfl) rfl hr88 ?_
    obtain ⟨g87, h⟩ := h
    obtain ⟨v69, M68, hr86, h⟩ := h
    refine w_cVr (n := 159) (idx := 53) (cal := 345) (na := 1) (nl := 2) (as := [.int v67]) (rest := []) (g87.trans (by decide +kernel)) (by decide +kernel) (by decide +kernel) rfl rfl rfl (Nat.le_of_ble_eq_true rfl) rfl hr86 ?_
    refine w_ldc (n := 161) (idx := 73) (s := 21) (by decide +kernel) oO_361 (by decide +kernel) rfl ?_
    obtain ⟨g85, h⟩ := h
    obtain ⟨v71, M70, hr84, h⟩ := h
    refine w_cVr (n := 164) (idx := 59) (cal := 343) (na := 1) (nl := 2) (as := [.ref (1001000 + 21)]) (rest := []) (g85.trans (by decide +kernel)) (by decide +kernel) (by decide +kernel) rfl rfl rfl (Nat.le_of_ble_eq_true rfl) rfl hr84 ?_
    refine w_aload_n (n := 165) (i := 0) (by decide +kernel) rfl rfl ?_
    refine w_bipush (n := 167) (v := 50) (x := 50) (by decide +kernel) rfl (by decide) ?_
    refine w_iload_n (n := 168) (i := 3) (by decide +kernel) rfl rfl ?_
    refine w_iadd (n := 169) (by decide +kernel) rfl ?_
    refine w_iconst (n := 170) (v := 1) (x := 1) (by decide +kernel) rfl (by decide) ?_
    refine w_bipush (n := 172) (v := 60) (x := 60) (by decide +kernel) rfl (by decide) ?_
    obtain ⟨v73, M72, hr82, h⟩ := h
    refine w_cS (n := 175) (idx := 49) (cal := 358) (na := 4) (nl := 4) (as := [.ref 1000000, .int (50 + y3), .int 1, .int 60]) (rest := [.ref v71]) (by decide +kernel) (by decide +kernel) rfl rfl rfl (Nat.le_of_ble_eq_true rfl) rfl hr82 ?_
    obtain ⟨g81, h⟩ := h
    obtain ⟨v75, M74, hr80, h⟩ := h
    refine w_cVr (n := 178) (idx := 53) (cal := 345) (na := 1) (nl := 2) (as := [.int v73]) (rest := []) (g81.trans (by decide +kernel)) (by decide +kernel) (by decide +kernel) rfl rfl rfl (Nat.le_of_ble_eq_true rfl) rfl hr80 ?_
    refine w_bipush (n := 180) (v := 59) (x := 59) (by decide +kernel) rfl (by decide) ?_
    obtain ⟨g79, h⟩ := h
    obtain ⟨v77, M76, hr78, h⟩ := h
    refine w_cVr (n := 183) (idx := 64) (cal := 344) (na := 1) (nl := 2) (as := [.int 59]) (rest := []) (g79.trans (by decide +kernel)) (by decide +kernel) (by decide +kernel) rfl rfl rfl (Nat.le_of_ble_eq_true rfl) rfl hr78 ?_
    refine w_pop_ref (n := 184) (by decide +kernel) rfl ?_
    refine w_iinc (n := 187) (i := 3) (v := 1) (y := y3 + 1) (l1' := [some (.ref 1000000), some (.int x1), some (.ref y2), some (.int (y3 + 1)), o4, o5, o6]) (l2' := []) (by decide +kernel) rfl rfl rfl rfl rfl ?_
    refine w_goto (n := 62) (off := (-125)) (by decide +kernel) (by decide) ?_
    exact h
theorem t_361_195 {X : ak_X} {M : ak_M} {r : ak_O × ak_M} (x1 : Int32) (y2 : Nat) (y3 : Int32) (y4 : Int32) (o5 : Option Value) (o6 : Option Value) (h : (∃ (v116 : Int32) (M115 : ak_M), rn X 358 [.ref 1000000, .int 4, .int 1, .int 4] M (.inl (some (.int v116)), M115) ∧ (if v116 ≤ y4 then (ak_rc M115 y2 = 12 ∧ ∃ (v118 : Nat) (M117 : ak_M), rn X 352 [.ref y2] M115 (.inl (some (.ref v118)), M117) ∧ r = (.inl (some (.ref v118)), M117)) else (ak_rc M115 y2 = 12 ∧ ∃ (v122 : Nat) (M121 : ak_M), rn X 343 [.ref y2, .ref (1001000 + 22)] M115 (.inl (some (.ref v122)), M121) ∧ (ak_rc M121 v122 = 12 ∧ ∃ (v124 : Nat) (M123 : ak_M), rn X 345 [.ref v122, .int y3] M121 (.inl (some (.ref v124)), M123) ∧ sg X 361 (221, [some (.ref 1000000), some (.int x1), some (.ref y2), some (.int y3), some (.int y4), some (.int 0), o6], [], []) M123 r))))) : sg X 361 (195, [some (.ref 1000000), some (.int x1), some (.ref y2), some (.int y3), some (.int y4), o5, o6], [], []) M r := by
  refine w_iload (n := 197) (i := 4) (by decide +kernel) rfl rfl ?_
  refine w_aload_n (n := 198) (i := 0) (by decide +kernel) rfl rfl ?_
  refine w_iconst (n := 199) (v := 4) (x := 4) (by decide +kernel) rfl (by decide) ?_
  refine w_iconst (n := 200) (v := 1) (x := 1) (by decide +kernel) rfl (by decide) ?_
  refine w_iconst (n := 201) (v := 4) (x := 4) (by decide +kernel) rfl (by decide) ?_
  obtain ⟨v116, M115, hr130, h⟩ := h
  refine w_cS (n := 204) (idx := 49) (cal := 358) (na := 4) (nl := 4) (as := [.ref 1000000, .int 4, .int 1, .int 4]) (rest := [.int y4]) (by decide +kernel) (by decide +kernel) rfl rfl rfl (Nat.le_of_ble_eq_true rfl) rfl hr130 ?_
  by_cases c129 : v116 ≤ y4
  · rw [if_pos c129] at h
    refine w_icmp_ge_j (n := 306) (off := 102) (by decide +kernel) (by decide) c129 ?_
    refine w_aload_n (n := 307) (i := 2) (by decide +kernel) rfl rfl ?_
    obtain ⟨g120, h⟩ := h
    obtain ⟨v118, M117, hr119, h⟩ := h
    refine w_cVr (n := 310) (idx := 87) (cal := 352) (na := 0) (nl := 1) (as := []) (rest := []) (g120.trans (by decide +kernel)) (by decide +kernel) (by decide +kernel) rfl rfl rfl (Nat.le_of_ble_eq_true rfl) rfl hr119 ?_
    subst h
    exact w_areturn (by decide +kernel) (by decide +kernel)
  · rw [if_neg c129] at h
    refine w_icmp_ge_n (n := 207) (off := 102) (by decide +kernel) rfl c129 ?_
    refine w_aload_n (n := 208) (i := 2) (by decide +kernel) rfl rfl ?_
    refine w_ldc (n := 210) (idx := 75) (s := 22) (by decide +kernel) oO_361 (by decide +kernel) rfl ?_
    obtain ⟨g128, h⟩ := h
    obtain ⟨v122, M121, hr127, h⟩ := h
    refine w_cVr (n := 213) (idx := 59) (cal := 343) (na := 1) (nl := 2) (as := [.ref (1001000 + 22)]) (rest := []) (g128.trans (by decide +kernel)) (by decide +kernel) (by decide +kernel) rfl rfl rfl (Nat.le_of_ble_eq_true rfl) rfl hr127 ?_
    refine w_iload_n (n := 214) (i := 3) (by decide +kernel) rfl rfl ?_
    obtain ⟨g126, h⟩ := h
    obtain ⟨v124, M123, hr125, h⟩ := h
    refine w_cVr (n := 217) (idx := 53) (cal := 345) (na := 1) (nl := 2) (as := [.int y3]) (rest := []) (g126.trans (by decide +kernel)) (by decide +kernel) (by decide +kernel) rfl rfl rfl (Nat.le_of_ble_eq_true rfl) rfl hr125 ?_
    refine w_pop_ref (n := 218) (by decide +kernel) rfl ?_
    refine w_iconst (n := 219) (v := 0) (x := 0) (by decide +kernel) rfl (by decide) ?_
    refine w_istore (n := 221) (i := 5) (l1' := [some (.ref 1000000), some (.int x1), some (.ref y2), some (.int y3), some (.int y4), some (.int 0), o6]) (l2' := []) (by decide +kernel) rfl (Nat.le_of_ble_eq_true rfl) rfl rfl ?_
    exact h
theorem t_361_221 {X : ak_X} {M : ak_M} {r : ak_O × ak_M} (x1 : Int32) (y2 : Nat) (y3 : Int32) (y4 : Int32) (y5 : Int32) (o6 : Option Value) (h : (if 2 ≤ y5 then (ak_rc M y2 = 12 ∧ ∃ (v133 : Nat) (M132 : ak_M), rn X 344 [.ref y2, .int 59] M (.inl (some (.ref v133)), M132) ∧ (∃ (v135 : Int32) (M134 : ak_M), rn X 358 [.ref 1000000, .int (68 + y4), .int 1, .int 30] M132 (.inl (some (.int v135)), M134) ∧ sg X 361 (195, [some (.ref 1000000), some (.int x1), some (.ref y2), some (.int (y3 + v135)), some (.int (y4 + 1)), some (.int y5), o6], [], []) M134 r)) else (∃ (v141 : Int32) (M140 : ak_M), rn X 358 [.ref 1000000, .int ((60 + (2 * y4)) + y5), .int ((-9)), .int 9] M (.inl (some (.int v141)), M140) ∧ (if 0 ≤ v141 then (ak_rc M140 y2 = 12 ∧ ∃ (v143 : Nat) (M142 : ak_M), rn X 343 [.ref y2, .ref (1001000 + 24)] M140 (.inl (some (.ref v143)), M142) ∧ (∃ (v145 : Int32) (M144 : ak_M), rn X 314 [.int v141] M142 (.inl (some (.int v145)), M144) ∧ (ak_rc M144 v143 = 12 ∧ ∃ (v147 : Nat) (M146 : ak_M), rn X 345 [.ref v143, .int v145] M144 (.inl (some (.ref v147)), M146) ∧ sg X 361 (221, [some (.ref 1000000), some (.int x1), some (.ref y2), some (.int y3), some (.int y4), some (.int (y5 + 1)), some (.int v141)], [], []) M146 r))) else (ak_rc M140 y2 = 12 ∧ ∃ (v155 : Nat) (M154 : ak_M), rn X 343 [.ref y2, .ref (1001000 + 23)] M140 (.inl (some (.ref v155)), M154) ∧ (∃ (v157 : Int32) (M156 : ak_M), rn X 314 [.int v141] M154 (.inl (some (.int v157)), M156) ∧ (ak_rc M156 v155 = 12 ∧ ∃ (v159 : Nat) (M158 : ak_M), rn X 345 [.ref v155, .int v157] M156 (.inl (some (.ref v159)), M158) ∧ sg X 361 (221, [some (.ref 1000000), some (.int x1), some (.ref y2), some (.int y3), some (.int y4), some (.int (y5 + 1)), some (.int v141)], [], []) M158 r))))))) : sg X 361 (221, [some (.ref 1000000), some (.int x1), some (.ref y2), some (.int y3), some (.int y4), some (.int y5), o6], [], []) M r := by
  refine w_iload (n := 223) (i := 5) (by decide +kernel) rfl rfl ?_
  refine w_iconst (n := 224) (v := 2) (x := 2) (by decide +kernel) rfl (by decide) ?_
  by_cases c169 : 2 ≤ y5
  · rw [if_pos c169] at h
    refine w_icmp_ge_j (n := 278) (off := 54) (by decide +kernel) (by decide) c169 ?_
    refine w_aload_n (n := 279) (i := 2) (by decide +kernel) rfl rfl ?_
    refine w_bipush (n := 281) (v := 59) (x := 59) (by decide +kernel) rfl (by decide) ?_
    obtain ⟨g139, h⟩ := h
    obtain ⟨v133, M132, hr138, h⟩ := h
    refine w_cVr (n := 284) (idx := 64) (cal := 344) (na := 1) (nl := 2) (as := [.int 59]) (rest := []) (g139.trans (by decide +kernel)) (by decide +kernel) (by decide +kernel) rfl rfl rfl (Nat.le_of_ble_eq_true rfl) rfl hr138 ?_
    refine w_pop_ref (n := 285) (by decide +kernel) rfl ?_
    refine w_iload_n (n := 286) (i := 3) (by decide +kernel) rfl rfl ?_
    refine w_aload_n (n := 287) (i := 0) (by decide +kernel) rfl rfl ?_
    refine w_bipush (n := 289) (v := 68) (x := 68) (by decide +kernel) rfl (by decide) ?_
    refine w_iload (n := 291) (i := 4) (by decide +kernel) rfl rfl ?_
    refine w_iadd (n := 292) (by decide +kernel) rfl ?_
    refine w_iconst (n := 293) (v := 1) (x := 1) (by decide +kernel) rfl (by decide) ?_
    refine w_bipush (n := 295) (v := 30) (x := 30) (by decide +kernel) rfl (by decide) ?_
    obtain ⟨v135, M134, hr136, h⟩ := h
    refine w_cS (n := 298) (idx := 49) (cal := 358) (na := 4) (nl := 4) (as := [.ref 1000000, .int (68 + y4), .int 1, .int 30]) (rest := [.int y3]) (by decide +kernel) (by decide +kernel) rfl rfl rfl (Nat.le_of_ble_eq_true rfl) rfl hr136 ?_
    refine w_iadd (n := 299) (by decide +kernel) rfl ?_
    refine w_istore_n (n := 300) (i := 3) (l1' := [some (.ref 1000000), some (.int x1), some (.ref y2), some (.int (y3 + v135)), some (.int y4), some (.int y5), o6]) (l2' := []) (by decide +kernel) rfl (Nat.le_of_ble_eq_true rfl) rfl rfl ?_
    refine w_iinc (n := 303) (i := 4) (v := 1) (y := y4 + 1) (l1' := [some (.ref 1000000), some (.int x1), some (.ref y2), some (.int (y3 + v135)), some (.int (y4 + 1)), some (.int y5), o6]) (l2' := []) (by decide +kernel) rfl rfl rfl rfl rfl ?_
    refine w_goto (n := 195) (off := (-108)) (by decide +kernel) (by decide) ?_
    exact h
  · rw [if_neg c169] at h
    refine w_icmp_ge_n (n := 227) (off := 54) (by decide +kernel) rfl c169 ?_
    refine w_aload_n (n := 228) (i := 0) (by decide +kernel) rfl rfl ?_
    refine w_bipush (n := 230) (v := 60) (x := 60) (by decide +kernel) rfl (by decide) ?_
    refine w_iconst (n := 231) (v := 2) (x := 2) (by decide +kernel) rfl (by decide) ?_
    refine w_iload (n := 233) (i := 4) (by decide +kernel) rfl rfl ?_
    refine w_imul (n := 234) (by decide +kernel) rfl ?_
    refine w_iadd (n := 235) (by decide +kernel) rfl ?_
    refine w_iload (n := 237) (i := 5) (by decide +kernel) rfl rfl ?_
    refine w_iadd (n := 238) (by decide +kernel) rfl ?_
    refine w_bipush (n := 240) (v := -9) (x := (-9)) (by decide +kernel) rfl (by decide) ?_
    refine w_bipush (n := 242) (v := 9) (x := 9) (by decide +kernel) rfl (by decide) ?_
    obtain ⟨v141, M140, hr167, h⟩ := h
    refine w_cS (n := 245) (idx := 49) (cal := 358) (na := 4) (nl := 4) (as := [.ref 1000000, .int ((60 + (2 * y4)) + y5), .int ((-9)), .int 9]) (rest := []) (by decide +kernel) (by decide +kernel) rfl rfl rfl (Nat.le_of_ble_eq_true rfl) rfl hr167 ?_
    refine w_istore (n := 247) (i := 6) (l1' := [some (.ref 1000000), some (.int x1), some (.ref y2), some (.int y3), some (.int y4), some (.int y5), some (.int v141)]) (l2' := []) (by decide +kernel) rfl (Nat.le_of_ble_eq_true rfl) rfl rfl ?_
    refine w_aload_n (n := 248) (i := 2) (by decide +kernel) rfl rfl ?_
    refine w_iload (n := 250) (i := 6) (by decide +kernel) rfl rfl ?_
    by_cases c166 : 0 ≤ v141
    · rw [if_pos c166] at h
      refine w_if_ge_j (n := 258) (off := 8) (by decide +kernel) (by decide) c166 ?_
      refine w_ldc (n := 260) (idx := 79) (s := 24) (by decide +kernel) oO_361 (by decide +kernel) rfl ?_
      obtain ⟨g153, h⟩ := h
      obtain ⟨v143, M142, hr152, h⟩ := h
      refine w_cVr (n := 263) (idx := 59) (cal := 343) (na := 1) (nl := 2) (as := [.ref (1001000 + 24)]) (rest := []) (g153.trans (by decide +kernel)) (by decide +kernel) (by decide +kernel) rfl rfl rfl (Nat.le_of_ble_eq_true rfl) rfl hr152 ?_
      refine w_iload (n := 265) (i := 6) (by decide +kernel) rfl rfl ?_
      obtain ⟨v145, M144, hr150, h⟩ := h
      refine w_cS (n := 268) (idx := 81) (cal := 314) (na := 1) (nl := 1) (as := [.int v141]) (rest := [.ref v143]) (by decide +kernel) (by decide +kernel) rfl rfl rfl (Nat.le_of_ble_eq_true rfl) rfl hr150 ?_
      obtain ⟨g149, h⟩ := h
      obtain ⟨v147, M146, hr148, h⟩ := h
      refine w_cVr (n := 271) (idx := 53) (cal := 345) (na := 1) (nl := 2) (as := [.int v145]) (rest := []) (g149.trans (by decide +kernel)) (by decide +kernel) (by decide +kernel) rfl rfl rfl (Nat.le_of_ble_eq_true rfl) rfl hr148 ?_
      refine w_pop_ref (n := 272) (by decide +kernel) rfl ?_
      refine w_iinc (n := 275) (i := 5) (v := 1) (y := y5 + 1) (l1' := [some (.ref 1000000), some (.int x1), some (.ref y2), some (.int y3), some (.int y4), some (.int (y5 + 1)), some (.int v141)]) (l2' := []) (by decide +kernel) rfl rfl rfl rfl rfl ?_
      refine w_goto (n := 221) (off := (-54)) (by decide +kernel) (by decide) ?_
      exact h
    · rw [if_neg c166] at h
      refine w_if_ge_n (n := 253) (off := 8) (by decide +kernel) rfl c166 ?_
      refine w_ldc (n := 255) (idx := 77) (s := 23) (by decide +kernel) oO_361 (by decide +kernel) rfl ?_
      refine w_goto (n := 260) (off := 5) (by decide +kernel) (by decide) ?_
      obtain ⟨g165, h⟩ := h
      obtain ⟨v155, M154, hr164, h⟩ := h
      refine w_cVr (n := 263) (idx := 59) (cal := 343) (na := 1) (nl := 2) (as := [.ref (1001000 + 23)]) (rest := []) (g165.trans (by decide +kernel)) (by decide +kernel) (by decide +kernel) rfl rfl rfl (Nat.le_of_ble_eq_true rfl) rfl hr164 ?_
      refine w_iload (n := 265) (i := 6) (by decide +kernel) rfl rfl ?_
      obtain ⟨v157, M156, hr162, h⟩ := h
      refine w_cS (n := 268) (idx := 81) (cal := 314) (na := 1) (nl := 1) (as := [.int v141]) (rest := [.ref v155]) (by decide +kernel) (by decide +kernel) rfl rfl rfl (Nat.le_of_ble_eq_true rfl) rfl hr162 ?_
      obtain ⟨g161, h⟩ := h
      obtain ⟨v159, M158, hr160, h⟩ := h
      refine w_cVr (n := 271) (idx := 53) (cal := 345) (na := 1) (nl := 2) (as := [.int v157]) (rest := []) (g161.trans (by decide +kernel)) (by decide +kernel) (by decide +kernel) rfl rfl rfl (Nat.le_of_ble_eq_true rfl) rfl hr160 ?_
      refine w_pop_ref (n := 272) (by decide +kernel) rfl ?_
      refine w_iinc (n := 275) (i := 5) (v := 1) (y := y5 + 1) (l1' := [some (.ref 1000000), some (.int x1), some (.ref y2), some (.int y3), some (.int y4), some (.int (y5 + 1)), some (.int v141)]) (l2' := []) (by decide +kernel) rfl rfl rfl rfl rfl ?_
      refine w_goto (n := 221) (off := (-54)) (by decide +kernel) (by decide) ?_
      exact h
