/-! the walk of StringBuilder and what it calls, laid by wip/p60/walkd.py -/
theorem t_324 {X : ak_X} {M : ak_M} {r : ak_O × ak_M} (x0 : Int32) (h : (if 255 < x0 then r = (.inl (some (.int 0)), M) else r = (.inl (some (.int 1)), M))) : rn X 324 [.int x0] M r := by
  refine w_rn (nL := 1) (l1 := [some (.int x0)]) (by decide +kernel) rfl rfl ?_
  refine w_iload_n (n := 1) (i := 0) (by decide +kernel) rfl rfl ?_
  refine w_sipush (n := 4) (v := 255) (x := 255) (by decide +kernel) rfl (by decide) ?_
  by_cases c1 : 255 < x0
  · rw [if_pos c1] at h
    refine w_icmp_gt_j (n := 11) (off := 7) (by decide +kernel) (by decide) c1 ?_
    refine w_iconst (n := 12) (v := 0) (x := 0) (by decide +kernel) rfl (by decide) ?_
    subst h
    exact w_ireturn (by decide +kernel) (by decide +kernel)
  · rw [if_neg c1] at h
    refine w_icmp_gt_n (n := 7) (off := 7) (by decide +kernel) rfl c1 ?_
    refine w_iconst (n := 8) (v := 1) (x := 1) (by decide +kernel) rfl (by decide) ?_
    refine w_goto (n := 12) (off := 4) (by decide +kernel) (by decide) ?_
    subst h
    exact w_ireturn (by decide +kernel) (by decide +kernel)
theorem t_325 {X : ak_X} {M : ak_M} {r : ak_O × ak_M} (x0 : Int32) (x1 : Int32) (x2 : Int32) (h : (∃ (v2 : Int32) (M1 : ak_M), rn X 315 [.int x1, .int x2] M (.inl (some (.int v2)), M1) ∧ (if x0 + v2 ≤ 0 then False else (if 2147483639 < x0 + v2 then False else r = (.inl (some (.int (x0 + v2))), M1))))) : rn X 325 [.int x0, .int x1, .int x2] M r := by
  refine w_rn (nL := 4) (l1 := [some (.int x0), some (.int x1), some (.int x2), none]) (by decide +kernel) rfl rfl ?_
  refine w_iload_n (n := 1) (i := 0) (by decide +kernel) rfl rfl ?_
  refine w_iload_n (n := 2) (i := 1) (by decide +kernel) rfl rfl ?_
  refine w_iload_n (n := 3) (i := 2) (by decide +kernel) rfl rfl ?_
  obtain ⟨v2, M1, hr5, h⟩ := h
  refine w_cS (n := 6) (idx := 194) (cal := 315) (na := 2) (nl := 2) (as := [.int x1, .int x2]) (rest := [.int x0]) (by decide +kernel) (by decide +kernel) rfl rfl rfl (Nat.le_of_ble_eq_true rfl) rfl hr5 ?_
  refine w_iadd (n := 7) (by decide +kernel) rfl ?_
  refine w_istore_n (n := 8) (i := 3) (l1' := [some (.int x0), some (.int x1), some (.int x2), some (.int (x0 + v2))]) (l2' := []) (by decide +kernel) rfl (Nat.le_of_ble_eq_true rfl) rfl rfl ?_
  refine w_iconst (n := 9) (v := 0) (x := 0) (by decide +kernel) rfl (by decide) ?_
  refine w_iload_n (n := 10) (i := 3) (by decide +kernel) rfl rfl ?_
  by_cases c4 : x0 + v2 ≤ 0
  · rw [if_pos c4] at h
    refine w_icmp_ge_j (n := 21) (off := 11) (by decide +kernel) (by decide) c4 ?_
    refine w_iload_n (n := 22) (i := 0) (by decide +kernel) rfl rfl ?_
    refine w_iload_n (n := 23) (i := 1) (by decide +kernel) rfl rfl ?_
    exact h.elim
  · rw [if_neg c4] at h
    refine w_icmp_ge_n (n := 13) (off := 11) (by decide +kernel) rfl c4 ?_
    refine w_iload_n (n := 14) (i := 3) (by decide +kernel) rfl rfl ?_
    refine x_ldcI (n := 16) (idx := 200) (v := 2147483639) (by decide +kernel) oO_325 (by decide +kernel) (by decide +kernel) rfl ?_
    by_cases c3 : 2147483639 < x0 + v2
    · rw [if_pos c3] at h
      refine w_icmp_gt_j (n := 21) (off := 5) (by decide +kernel) (by decide) c3 ?_
      refine w_iload_n (n := 22) (i := 0) (by decide +kernel) rfl rfl ?_
      refine w_iload_n (n := 23) (i := 1) (by decide +kernel) rfl rfl ?_
      exact h.elim
    · rw [if_neg c3] at h
      refine w_icmp_gt_n (n := 19) (off := 5) (by decide +kernel) rfl c3 ?_
      refine w_iload_n (n := 20) (i := 3) (by decide +kernel) rfl rfl ?_
      subst h
      exact w_ireturn (by decide +kernel) (w_okI (by decide +kernel))
theorem t_326 {X : ak_X} {M : ak_M} {r : ak_O × ak_M} (p0 : Nat) (x1 : Int32) (h : ((p0 < ak_P M ∧ 100 ≤ ak_K M p0) ∧ (if x1 = Int32.ofNat (ak_N M p0) then ((p0 < ak_P M ∧ ak_K M p0 = 101 ∧ ak_P M < 900000 ∧ (List.range (ak_N M p0)).all (fun i => ak_isB (ak_I M p0 i)) = true) ∧ ∀ M11 : ak_M, M11 = ak_cln M (ak_I M p0) (ak_N M p0) → ((ak_P M < ak_P M11 ∧ ak_K M11 (ak_P M) = 101) ∧ r = (.inl (some (.ref (ak_P M))), M11))) else ((ak_P M < 900000 ∧ ¬ x1 < 0 ∧ x1.toNatClampNeg ≤ 60000000) ∧ ∀ M2 : ak_M, M2 = ak_new M 101 x1.toNatClampNeg x1.toNatClampNeg → ((p0 < ak_P M2 ∧ 100 ≤ ak_K M2 p0) ∧ (∃ (v6 : Int32) (M5 : ak_M), rn X 316 [.int (Int32.ofNat (ak_N M2 p0)), .int x1] M2 (.inl (some (.int v6)), M5) ∧ ((ak_P M < ak_P M5 ∧ ak_K M5 (ak_P M) = 101 ∧ ak_isb M5 p0 = true ∧ ¬ (0 : Int32) < 0 ∧ ¬ (0 : Int32) < 0 ∧ ¬ v6 < 0 ∧ (0 : Int32).toNatClampNeg + v6.toNatClampNeg ≤ ak_bn X M5 p0 ∧ (0 : Int32).toNatClampNeg + v6.toNatClampNeg ≤ ak_N M5 (ak_P M) ∧ (List.range v6.toNatClampNeg).all (fun i => ak_isB (ak_by X M5 p0 ((0 : Int32).toNatClampNeg + i))) = true) ∧ ∀ M7 : ak_M, M7 = ak_cpy M5 (ak_by X M5 p0) (ak_P M) (0 : Int32).toNatClampNeg (0 : Int32).toNatClampNeg v6.toNatClampNeg → r = (.inl (some (.ref (ak_P M))), M7)))))))) : rn X 326 [.ref p0, .int x1] M r := by
  refine w_rn (nL := 3) (l1 := [some (.ref p0), some (.int x1), none]) (by decide +kernel) rfl rfl ?_
  refine w_iload_n (n := 1) (i := 1) (by decide +kernel) rfl rfl ?_
  refine w_aload_n (n := 2) (i := 0) (by decide +kernel) rfl rfl ?_
  obtain ⟨g1, h⟩ := h
  refine x_al (n := 3) (by decide +kernel) g1 rfl ?_
  by_cases c14 : x1 = Int32.ofNat (ak_N M p0)
  · rw [if_pos c14] at h
    refine w_icmp_ne_n (n := 6) (off := 11) (by decide +kernel) rfl c14 ?_
    refine w_aload_n (n := 7) (i := 0) (by decide +kernel) rfl rfl ?_
    obtain ⟨g12, h⟩ := h
    refine x_cl (n := 10) (idx := 310) (by decide +kernel) (cal := 0) (z := (1054, 1057, 1055, 1056)) (by decide +kernel) (Nat.le_of_ble_eq_true rfl) g12 rfl (rfl) ?_
    replace h := h _ rfl
    generalize ak_cln M (ak_I M p0) (ak_N M p0) = M11 at h ⊢
    obtain ⟨g13, h⟩ := h
    refine x_cast (n := 13) (by decide +kernel) g13 ⟨by decide +kernel, rfl⟩ rfl ?_
    subst h
    exact w_areturn (by decide +kernel) (by decide +kernel)
  · rw [if_neg c14] at h
    refine w_icmp_ne_j (n := 14) (off := 11) (by decide +kernel) (by decide) c14 ?_
    refine w_iload_n (n := 15) (i := 1) (by decide +kernel) rfl rfl ?_
    obtain ⟨g3, h⟩ := h
    refine x_nB (n := 17) (by decide +kernel) g3 rfl (rfl) ?_
    replace h := h _ rfl
    generalize ak_new M 101 x1.toNatClampNeg x1.toNatClampNeg = M2 at h ⊢
    refine w_astore_n (n := 18) (i := 2) (l1' := [some (.ref p0), some (.int x1), some (.ref (ak_P M))]) (l2' := []) (by decide +kernel) rfl (Nat.le_of_ble_eq_true rfl) rfl rfl ?_
    refine w_aload_n (n := 19) (i := 0) (by decide +kernel) rfl rfl ?_
    refine w_iconst (n := 20) (v := 0) (x := 0) (by decide +kernel) rfl (by decide) ?_
    refine w_aload_n (n := 21) (i := 2) (by decide +kernel) rfl rfl ?_
    refine w_iconst (n := 22) (v := 0) (x := 0) (by decide +kernel) rfl (by decide) ?_
    refine w_aload_n (n := 23) (i := 0) (by decide +kernel) rfl rfl ?_
    obtain ⟨g4, h⟩ := h
    refine x_al (n := 24) (by decide +kernel) g4 rfl ?_
    refine w_iload_n (n := 25) (i := 1) (by decide +kernel) rfl rfl ?_
    obtain ⟨v6, M5, hr9, h⟩ := h
    refine w_cS (n := 28) (idx := 304) (cal := 316) (na := 2) (nl := 2) (as := [.int (Int32.ofNat (ak_N M2 p0)), .int x1]) (rest := [.int 0, .ref (ak_P M), .int 0, .ref p0]) (by decide +kernel) (by decide +kernel) rfl rfl rfl (Nat.le_of_ble_eq_true rfl) rfl hr9 ?_
    obtain ⟨g8, h⟩ := h
    refine x_acp (n := 31) (idx := 150) (by decide +kernel) (cal := 0) (z := (1062, 1064, 1063, 48)) (by decide +kernel) (Nat.le_of_ble_eq_true rfl) g8 rfl (rfl) ?_
    replace h := h _ rfl
    generalize ak_cpy M5 (ak_by X M5 p0) (ak_P M) (0 : Int32).toNatClampNeg (0 : Int32).toNatClampNeg v6.toNatClampNeg = M7 at h ⊢
    refine w_aload_n (n := 32) (i := 2) (by decide +kernel) rfl rfl ?_
    subst h
    exact w_areturn (by decide +kernel) (by decide +kernel)
theorem t_327 {X : ak_X} {M : ak_M} {r : ak_O × ak_M} (x0 : Int32) (x1 : Int32) (h : (if x0 ≤ x1 then r = (.inl none, M) else False)) : rn X 327 [.int x0, .int x1] M r := by
  refine w_rn (nL := 2) (l1 := [some (.int x0), some (.int x1)]) (by decide +kernel) rfl rfl ?_
  refine w_iload_n (n := 1) (i := 1) (by decide +kernel) rfl rfl ?_
  refine w_iload_n (n := 2) (i := 0) (by decide +kernel) rfl rfl ?_
  by_cases c1 : x0 ≤ x1
  · rw [if_pos c1] at h
    refine w_icmp_ge_j (n := 37) (off := 35) (by decide +kernel) (by decide) c1 ?_
    subst h
    exact w_vreturn (by decide +kernel) (by decide +kernel)
  · rw [if_neg c1] at h
    refine w_icmp_ge_n (n := 5) (off := 35) (by decide +kernel) rfl c1 ?_
    exact h.elim
theorem t_328 {X : ak_X} {M : ak_M} {r : ak_O × ak_M} (p0 : Nat) (x1 : Int32) (x2 : Int32) (h : (∃ (M1 : ak_M), rn X 327 [.int x1, .int x2] M (.inl (none), M1) ∧ ((ak_P M1 < 900000 ∧ ¬ (x2 - x1) < 0 ∧ (x2 - x1).toNatClampNeg ≤ 60000000) ∧ ∀ M2 : ak_M, M2 = ak_new M1 101 (x2 - x1).toNatClampNeg (x2 - x1).toNatClampNeg → ((p0 < ak_P M2 ∧ 100 ≤ ak_K M2 p0) ∧ (∃ (v6 : Int32) (M5 : ak_M), rn X 316 [.int ((Int32.ofNat (ak_N M2 p0)) - x1), .int (x2 - x1)] M2 (.inl (some (.int v6)), M5) ∧ ((ak_P M1 < ak_P M5 ∧ ak_K M5 (ak_P M1) = 101 ∧ ak_isb M5 p0 = true ∧ ¬ x1 < 0 ∧ ¬ (0 : Int32) < 0 ∧ ¬ v6 < 0 ∧ x1.toNatClampNeg + v6.toNatClampNeg ≤ ak_bn X M5 p0 ∧ (0 : Int32).toNatClampNeg + v6.toNatClampNeg ≤ ak_N M5 (ak_P M1) ∧ (List.range v6.toNatClampNeg).all (fun i => ak_isB (ak_by X M5 p0 (x1.toNatClampNeg + i))) = true) ∧ ∀ M7 : ak_M, M7 = ak_cpy M5 (ak_by X M5 p0) (ak_P M1) x1.toNatClampNeg (0 : Int32).toNatClampNeg v6.toNatClampNeg → r = (.inl (some (.ref (ak_P M1))), M7))))))) : rn X 328 [.ref p0, .int x1, .int x2] M r := by
  refine w_rn (nL := 5) (l1 := [some (.ref p0), some (.int x1), some (.int x2), none, none]) (by decide +kernel) rfl rfl ?_
  refine w_iload_n (n := 1) (i := 1) (by decide +kernel) rfl rfl ?_
  refine w_iload_n (n := 2) (i := 2) (by decide +kernel) rfl rfl ?_
  obtain ⟨M1, hr11, h⟩ := h
  refine w_cS (n := 5) (idx := 343) (cal := 327) (na := 2) (nl := 2) (as := [.int x1, .int x2]) (rest := []) (by decide +kernel) (by decide +kernel) rfl rfl rfl (Nat.le_of_ble_eq_true rfl) rfl hr11 ?_
  refine w_iload_n (n := 6) (i := 2) (by decide +kernel) rfl rfl ?_
  refine w_iload_n (n := 7) (i := 1) (by decide +kernel) rfl rfl ?_
  refine w_isub (n := 8) (by decide +kernel) rfl ?_
  refine w_istore_n (n := 9) (i := 3) (l1' := [some (.ref p0), some (.int x1), some (.int x2), some (.int (x2 - x1)), none]) (l2' := []) (by decide +kernel) rfl (Nat.le_of_ble_eq_true rfl) rfl rfl ?_
  refine w_iload_n (n := 10) (i := 3) (by decide +kernel) rfl rfl ?_
  obtain ⟨g3, h⟩ := h
  refine x_nB (n := 12) (by decide +kernel) g3 rfl (rfl) ?_
  replace h := h _ rfl
  generalize ak_new M1 101 (x2 - x1).toNatClampNeg (x2 - x1).toNatClampNeg = M2 at h ⊢
  refine w_astore (n := 14) (i := 4) (l1' := [some (.ref p0), some (.int x1), some (.int x2), some (.int (x2 - x1)), some (.ref (ak_P M1))]) (l2' := []) (by decide +kernel) rfl (Nat.le_of_ble_eq_true rfl) rfl rfl ?_
  refine w_aload_n (n := 15) (i := 0) (by decide +kernel) rfl rfl ?_
  refine w_iload_n (n := 16) (i := 1) (by decide +kernel) rfl rfl ?_
  refine w_aload (n := 18) (i := 4) (by decide +kernel) rfl rfl ?_
  refine w_iconst (n := 19) (v := 0) (x := 0) (by decide +kernel) rfl (by decide) ?_
  refine w_aload_n (n := 20) (i := 0) (by decide +kernel) rfl rfl ?_
  obtain ⟨g4, h⟩ := h
  refine x_al (n := 21) (by decide +kernel) g4 rfl ?_
  refine w_iload_n (n := 22) (i := 1) (by decide +kernel) rfl rfl ?_
  refine w_isub (n := 23) (by decide +kernel) rfl ?_
  refine w_iload_n (n := 24) (i := 3) (by decide +kernel) rfl rfl ?_
  obtain ⟨v6, M5, hr9, h⟩ := h
  refine w_cS (n := 27) (idx := 304) (cal := 316) (na := 2) (nl := 2) (as := [.int ((Int32.ofNat (ak_N M2 p0)) - x1), .int (x2 - x1)]) (rest := [.int 0, .ref (ak_P M1), .int x1, .ref p0]) (by decide +kernel) (by decide +kernel) rfl rfl rfl (Nat.le_of_ble_eq_true rfl) rfl hr9 ?_
  obtain ⟨g8, h⟩ := h
  refine x_acp (n := 30) (idx := 150) (by decide +kernel) (cal := 0) (z := (1062, 1064, 1063, 48)) (by decide +kernel) (Nat.le_of_ble_eq_true rfl) g8 rfl (rfl) ?_
  replace h := h _ rfl
  generalize ak_cpy M5 (ak_by X M5 p0) (ak_P M1) x1.toNatClampNeg (0 : Int32).toNatClampNeg v6.toNatClampNeg = M7 at h ⊢
  refine w_aload (n := 32) (i := 4) (by decide +kernel) rfl rfl ?_
  subst h
  exact w_areturn (by decide +kernel) (by decide +kernel)
theorem t_329 {X : ak_X} {M : ak_M} {r : ak_O × ak_M} (p0 : Nat) (x1 : Int32) (x2 : Int32) (h : (if x1 = 0 then ((p0 < ak_P M ∧ 100 ≤ ak_K M p0) ∧ (if x2 = Int32.ofNat (ak_N M p0) then ((p0 < ak_P M ∧ ak_K M p0 = 101 ∧ ak_P M < 900000 ∧ (List.range (ak_N M p0)).all (fun i => ak_isB (ak_I M p0 i)) = true) ∧ ∀ M6 : ak_M, M6 = ak_cln M (ak_I M p0) (ak_N M p0) → ((ak_P M < ak_P M6 ∧ ak_K M6 (ak_P M) = 101) ∧ r = (.inl (some (.ref (ak_P M))), M6))) else (∃ (v10 : Nat) (M9 : ak_M), rn X 328 [.ref p0, .int x1, .int x2] M (.inl (some (.ref v10)), M9) ∧ r = (.inl (some (.ref v10)), M9)))) else (∃ (v2 : Nat) (M1 : ak_M), rn X 328 [.ref p0, .int x1, .int x2] M (.inl (some (.ref v2)), M1) ∧ r = (.inl (some (.ref v2)), M1)))) : rn X 329 [.ref p0, .int x1, .int x2] M r := by
  refine w_rn (nL := 3) (l1 := [some (.ref p0), some (.int x1), some (.int x2)]) (by decide +kernel) rfl rfl ?_
  refine w_iload_n (n := 1) (i := 1) (by decide +kernel) rfl rfl ?_
  by_cases c14 : x1 = 0
  · rw [if_pos c14] at h
    refine w_if_ne_n (n := 4) (off := 9) (by decide +kernel) rfl c14 ?_
    refine w_iload_n (n := 5) (i := 2) (by decide +kernel) rfl rfl ?_
    refine w_aload_n (n := 6) (i := 0) (by decide +kernel) rfl rfl ?_
    obtain ⟨g5, h⟩ := h
    refine x_al (n := 7) (by decide +kernel) g5 rfl ?_
    by_cases c13 : x2 = Int32.ofNat (ak_N M p0)
    · rw [if_pos c13] at h
      refine w_icmp_eq_j (n := 17) (off := 10) (by decide +kernel) (by decide) c13 ?_
      refine w_aload_n (n := 18) (i := 0) (by decide +kernel) rfl rfl ?_
      obtain ⟨g7, h⟩ := h
      refine x_cl (n := 21) (idx := 310) (by decide +kernel) (cal := 0) (z := (1054, 1057, 1055, 1056)) (by decide +kernel) (Nat.le_of_ble_eq_true rfl) g7 rfl (rfl) ?_
      replace h := h _ rfl
      generalize ak_cln M (ak_I M p0) (ak_N M p0) = M6 at h ⊢
      obtain ⟨g8, h⟩ := h
      refine x_cast (n := 24) (by decide +kernel) g8 ⟨by decide +kernel, rfl⟩ rfl ?_
      subst h
      exact w_areturn (by decide +kernel) (by decide +kernel)
    · rw [if_neg c13] at h
      refine w_icmp_eq_n (n := 10) (off := 10) (by decide +kernel) rfl c13 ?_
      refine w_aload_n (n := 11) (i := 0) (by decide +kernel) rfl rfl ?_
      refine w_iload_n (n := 12) (i := 1) (by decide +kernel) rfl rfl ?_
      refine w_iload_n (n := 13) (i := 2) (by decide +kernel) rfl rfl ?_
      obtain ⟨v10, M9, hr11, h⟩ := h
      refine w_cS (n := 16) (idx := 339) (cal := 328) (na := 3) (nl := 3) (as := [.ref p0, .int x1, .int x2]) (rest := []) (by decide +kernel) (by decide +kernel) rfl rfl rfl (Nat.le_of_ble_eq_true rfl) rfl hr11 ?_
      subst h
      exact w_areturn (by decide +kernel) (by decide +kernel)
  · rw [if_neg c14] at h
    refine w_if_ne_j (n := 10) (off := 9) (by decide +kernel) (by decide) c14 ?_
    refine w_aload_n (n := 11) (i := 0) (by decide +kernel) rfl rfl ?_
    refine w_iload_n (n := 12) (i := 1) (by decide +kernel) rfl rfl ?_
    refine w_iload_n (n := 13) (i := 2) (by decide +kernel) rfl rfl ?_
    obtain ⟨v2, M1, hr3, h⟩ := h
    refine w_cS (n := 16) (idx := 339) (cal := 328) (na := 3) (nl := 3) (as := [.ref p0, .int x1, .int x2]) (rest := []) (by decide +kernel) (by decide +kernel) rfl rfl rfl (Nat.le_of_ble_eq_true rfl) rfl hr3 ?_
    subst h
    exact w_areturn (by decide +kernel) (by decide +kernel)
theorem t_330 {X : ak_X} {M : ak_M} {r : ak_O × ak_M} (x0 : Int32) (h : (if x0 < 0 then sg X 330 (16, [some (.int x0), some (.int 1), some (.int ((-10))), some (.int 1)], [], []) M r else sg X 330 (16, [some (.int (-x0)), some (.int 0), some (.int ((-10))), some (.int 1)], [], []) M r)) : rn X 330 [.int x0] M r := by
  refine w_rn (nL := 4) (l1 := [some (.int x0), none, none, none]) (by decide +kernel) rfl rfl ?_
  refine w_iconst (n := 1) (v := 1) (x := 1) (by decide +kernel) rfl (by decide) ?_
  refine w_istore_n (n := 2) (i := 1) (l1' := [some (.int x0), some (.int 1), none, none]) (l2' := []) (by decide +kernel) rfl (Nat.le_of_ble_eq_true rfl) rfl rfl ?_
  refine w_iload_n (n := 3) (i := 0) (by decide +kernel) rfl rfl ?_
  by_cases c1 : x0 < 0
  · rw [if_pos c1] at h
    refine w_if_lt_j (n := 11) (off := 8) (by decide +kernel) (by decide) c1 ?_
    refine w_bipush (n := 13) (v := -10) (x := (-10)) (by decide +kernel) rfl (by decide) ?_
    refine w_istore_n (n := 14) (i := 2) (l1' := [some (.int x0), some (.int 1), some (.int ((-10))), none]) (l2' := []) (by decide +kernel) rfl (Nat.le_of_ble_eq_true rfl) rfl rfl ?_
    refine w_iconst (n := 15) (v := 1) (x := 1) (by decide +kernel) rfl (by decide) ?_
    refine w_istore_n (n := 16) (i := 3) (l1' := [some (.int x0), some (.int 1), some (.int ((-10))), some (.int 1)]) (l2' := []) (by decide +kernel) rfl (Nat.le_of_ble_eq_true rfl) rfl rfl ?_
    exact h
  · rw [if_neg c1] at h
    refine w_if_lt_n (n := 6) (off := 8) (by decide +kernel) rfl c1 ?_
    refine w_iconst (n := 7) (v := 0) (x := 0) (by decide +kernel) rfl (by decide) ?_
    refine w_istore_n (n := 8) (i := 1) (l1' := [some (.int x0), some (.int 0), none, none]) (l2' := []) (by decide +kernel) rfl (Nat.le_of_ble_eq_true rfl) rfl rfl ?_
    refine w_iload_n (n := 9) (i := 0) (by decide +kernel) rfl rfl ?_
    refine w_ineg (n := 10) (by decide +kernel) rfl ?_
    refine w_istore_n (n := 11) (i := 0) (l1' := [some (.int (-x0)), some (.int 0), none, none]) (l2' := []) (by decide +kernel) rfl (Nat.le_of_ble_eq_true rfl) rfl rfl ?_
    refine w_bipush (n := 13) (v := -10) (x := (-10)) (by decide +kernel) rfl (by decide) ?_
    refine w_istore_n (n := 14) (i := 2) (l1' := [some (.int (-x0)), some (.int 0), some (.int ((-10))), none]) (l2' := []) (by decide +kernel) rfl (Nat.le_of_ble_eq_true rfl) rfl rfl ?_
    refine w_iconst (n := 15) (v := 1) (x := 1) (by decide +kernel) rfl (by decide) ?_
    refine w_istore_n (n := 16) (i := 3) (l1' := [some (.int (-x0)), some (.int 0), some (.int ((-10))), some (.int 1)]) (l2' := []) (by decide +kernel) rfl (Nat.le_of_ble_eq_true rfl) rfl rfl ?_
    exact h
theorem t_330_16 {X : ak_X} {M : ak_M} {r : ak_O × ak_M} (x0 : Int32) (y1 : Int32) (y2 : Int32) (y3 : Int32) (h : (if 10 ≤ y3 then r = (.inl (some (.int (10 + y1))), M) else (if x0 ≤ y2 then sg X 330 (16, [some (.int x0), some (.int y1), some (.int (10 * y2)), some (.int (y3 + 1))], [], []) M r else r = (.inl (some (.int (y3 + y1))), M)))) : sg X 330 (16, [some (.int x0), some (.int y1), some (.int y2), some (.int y3)], [], []) M r := by
  refine w_iload_n (n := 17) (i := 3) (by decide +kernel) rfl rfl ?_
  refine w_bipush (n := 19) (v := 10) (x := 10) (by decide +kernel) rfl (by decide) ?_
  by_cases c3 : 10 ≤ y3
  · rw [if_pos c3] at h
    refine w_icmp_ge_j (n := 42) (off := 23) (by decide +kernel) (by decide) c3 ?_
    refine w_bipush (n := 44) (v := 10) (x := 10) (by decide +kernel) rfl (by decide) ?_
    refine w_iload_n (n := 45) (i := 1) (by decide +kernel) rfl rfl ?_
    refine w_iadd (n := 46) (by decide +kernel) rfl ?_
    subst h
    exact w_ireturn (by decide +kernel) (w_okI (by decide +kernel))
  · rw [if_neg c3] at h
    refine w_icmp_ge_n (n := 22) (off := 23) (by decide +kernel) rfl c3 ?_
    refine w_iload_n (n := 23) (i := 0) (by decide +kernel) rfl rfl ?_
    refine w_iload_n (n := 24) (i := 2) (by decide +kernel) rfl rfl ?_
    by_cases c2 : x0 ≤ y2
    · rw [if_pos c2] at h
      refine w_icmp_le_j (n := 31) (off := 7) (by decide +kernel) (by decide) c2 ?_
      refine w_bipush (n := 33) (v := 10) (x := 10) (by decide +kernel) rfl (by decide) ?_
      refine w_iload_n (n := 34) (i := 2) (by decide +kernel) rfl rfl ?_
      refine w_imul (n := 35) (by decide +kernel) rfl ?_
      refine w_istore_n (n := 36) (i := 2) (l1' := [some (.int x0), some (.int y1), some (.int (10 * y2)), some (.int y3)]) (l2' := []) (by decide +kernel) rfl (Nat.le_of_ble_eq_true rfl) rfl rfl ?_
      refine w_iinc (n := 39) (i := 3) (v := 1) (y := y3 + 1) (l1' := [some (.int x0), some (.int y1), some (.int (10 * y2)), some (.int (y3 + 1))]) (l2' := []) (by decide +kernel) rfl rfl rfl rfl rfl ?_
      refine w_goto (n := 16) (off := (-23)) (by decide +kernel) (by decide) ?_
      exact h
    · rw [if_neg c2] at h
      refine w_icmp_le_n (n := 27) (off := 7) (by decide +kernel) rfl c2 ?_
      refine w_iload_n (n := 28) (i := 3) (by decide +kernel) rfl rfl ?_
      refine w_iload_n (n := 29) (i := 1) (by decide +kernel) rfl rfl ?_
      refine w_iadd (n := 30) (by decide +kernel) rfl ?_
      subst h
      exact w_ireturn (by decide +kernel) (w_okI (by decide +kernel))
theorem t_331 {X : ak_X} {M : ak_M} {r : ak_O × ak_M} (x0 : Int32) (x1 : Int32) (p2 : Nat) (h : (if 0 ≤ x0 then sg X 331 (22, [some (.int (-x0)), some (.int x1), some (.ref p2), none, none, some (.int x1), some (.int 0)], [], []) M r else sg X 331 (22, [some (.int x0), some (.int x1), some (.ref p2), none, none, some (.int x1), some (.int 1)], [], []) M r)) : rn X 331 [.int x0, .int x1, .ref p2] M r := by
  refine w_rn (nL := 7) (l1 := [some (.int x0), some (.int x1), some (.ref p2), none, none, none, none]) (by decide +kernel) rfl rfl ?_
  refine w_iload_n (n := 1) (i := 1) (by decide +kernel) rfl rfl ?_
  refine w_istore (n := 3) (i := 5) (l1' := [some (.int x0), some (.int x1), some (.ref p2), none, none, some (.int x1), none]) (l2' := []) (by decide +kernel) rfl (Nat.le_of_ble_eq_true rfl) rfl rfl ?_
  refine w_iload_n (n := 4) (i := 0) (by decide +kernel) rfl rfl ?_
  by_cases c1 : 0 ≤ x0
  · rw [if_pos c1] at h
    refine w_if_ge_j (n := 11) (off := 7) (by decide +kernel) (by decide) c1 ?_
    refine w_iconst (n := 12) (v := 0) (x := 0) (by decide +kernel) rfl (by decide) ?_
    refine w_istore (n := 14) (i := 6) (l1' := [some (.int x0), some (.int x1), some (.ref p2), none, none, some (.int x1), some (.int 0)]) (l2' := []) (by decide +kernel) rfl (Nat.le_of_ble_eq_true rfl) rfl rfl ?_
    refine w_iload (n := 16) (i := 6) (by decide +kernel) rfl rfl ?_
    refine w_if_ne_n (n := 19) (off := 6) (by decide +kernel) rfl (by decide) ?_
    refine w_iload_n (n := 20) (i := 0) (by decide +kernel) rfl rfl ?_
    refine w_ineg (n := 21) (by decide +kernel) rfl ?_
    refine w_istore_n (n := 22) (i := 0) (l1' := [some (.int (-x0)), some (.int x1), some (.ref p2), none, none, some (.int x1), some (.int 0)]) (l2' := []) (by decide +kernel) rfl (Nat.le_of_ble_eq_true rfl) rfl rfl ?_
    exact h
  · rw [if_neg c1] at h
    refine w_if_ge_n (n := 7) (off := 7) (by decide +kernel) rfl c1 ?_
    refine w_iconst (n := 8) (v := 1) (x := 1) (by decide +kernel) rfl (by decide) ?_
    refine w_goto (n := 12) (off := 4) (by decide +kernel) (by decide) ?_
    refine w_istore (n := 14) (i := 6) (l1' := [some (.int x0), some (.int x1), some (.ref p2), none, none, some (.int x1), some (.int 1)]) (l2' := []) (by decide +kernel) rfl (Nat.le_of_ble_eq_true rfl) rfl rfl ?_
    refine w_iload (n := 16) (i := 6) (by decide +kernel) rfl rfl ?_
    refine w_if_ne_j (n := 22) (off := 6) (by decide +kernel) (by decide) (by decide) ?_
    exact h
theorem t_331_22 {X : ak_X} {M : ak_M} {r : ak_O × ak_M} (x0 : Int32) (x1 : Int32) (p2 : Nat) (y0 : Int32) (o3 : Option Value) (o4 : Option Value) (y5 : Int32) (y6 : Int32) (h : (if (-100) < y0 then (∃ i2 : Nat, (ak_P M ≤ 800000 ∧ ab_ix (-y0) i2 100) ∧ (∃ i4 : Nat, ((p2 < ak_P M ∧ ak_K M p2 = 101) ∧ ab_ix (y5 + (-1)) i4 (ak_N M p2)) ∧ ∀ M5 : ak_M, M5 = ak_sI M p2 i4 (vp_nar .byte (ak_cI X (999999 + 6) i2)) → (if (-9) ≤ y0 then (if y6 = 0 then r = (.inl (some (.int (y5 + (-1)))), M5) else (∃ i7 : Nat, ((p2 < ak_P M5 ∧ ak_K M5 p2 = 101) ∧ ab_ix ((y5 + (-1)) + (-1)) i7 (ak_N M5 p2)) ∧ ∀ M8 : ak_M, M8 = ak_sI M5 p2 i7 (vp_nar .byte 45) → r = (.inl (some (.int ((y5 + (-1)) + (-1)))), M8))) else (∃ i11 : Nat, (ak_P M5 ≤ 800000 ∧ ab_ix (-y0) i11 100) ∧ (∃ i13 : Nat, ((p2 < ak_P M5 ∧ ak_K M5 p2 = 101) ∧ ab_ix ((y5 + (-1)) + (-1)) i13 (ak_N M5 p2)) ∧ ∀ M14 : ak_M, M14 = ak_sI M5 p2 i13 (vp_nar .byte (ak_cI X (999999 + 5) i11)) → (if y6 = 0 then r = (.inl (some (.int ((y5 + (-1)) + (-1)))), M14) else (∃ i16 : Nat, ((p2 < ak_P M14 ∧ ak_K M14 p2 = 101) ∧ ab_ix (((y5 + (-1)) + (-1)) + (-1)) i16 (ak_N M14 p2)) ∧ ∀ M17 : ak_M, M17 = ak_sI M14 p2 i16 (vp_nar .byte 45) → r = (.inl (some (.int (((y5 + (-1)) + (-1)) + (-1)))), M17)))))))) else (∃ i21 : Nat, (ak_P M ≤ 800000 ∧ ab_ix (((y0 / 100) * 100) - y0) i21 100) ∧ (∃ i23 : Nat, ((p2 < ak_P M ∧ ak_K M p2 = 101) ∧ ab_ix (y5 + (-1)) i23 (ak_N M p2)) ∧ ∀ M24 : ak_M, M24 = ak_sI M p2 i23 (vp_nar .byte (ak_cI X (999999 + 6) i21)) → (∃ i26 : Nat, (ak_P M24 ≤ 800000 ∧ ab_ix (((y0 / 100) * 100) - y0) i26 100) ∧ (∃ i28 : Nat, ((p2 < ak_P M24 ∧ ak_K M24 p2 = 101) ∧ ab_ix ((y5 + (-1)) + (-1)) i28 (ak_N M24 p2)) ∧ ∀ M29 : ak_M, M29 = ak_sI M24 p2 i28 (vp_nar .byte (ak_cI X (999999 + 5) i26)) → sg X 331 (22, [some (.int (y0 / 100)), some (.int x1), some (.ref p2), some (.int (y0 / 100)), some (.int (((y0 / 100) * 100) - y0)), some (.int ((y5 + (-1)) + (-1))), some (.int y6)], [], []) M29 r)))))) : sg X 331 (22, [some (.int y0), some (.int x1), some (.ref p2), o3, o4, some (.int y5), some (.int y6)], [], []) M r := by
  refine w_iload_n (n := 23) (i := 0) (by decide +kernel) rfl rfl ?_
  refine w_bipush (n := 25) (v := -100) (x := (-100)) (by decide +kernel) rfl (by decide) ?_
  by_cases c31 : (-100) < y0
  · rw [if_pos c31] at h
    refine w_icmp_gt_j (n := 72) (off := 47) (by decide +kernel) (by decide) c31 ?_
    refine w_aload_n (n := 73) (i := 2) (by decide +kernel) rfl rfl ?_
    refine w_iinc (n := 76) (i := 5) (v := -1) (y := y5 + (-1)) (l1' := [some (.int y0), some (.int x1), some (.ref p2), o3, o4, some (.int (y5 + (-1))), some (.int y6)]) (l2' := []) (by decide +kernel) rfl rfl rfl rfl rfl ?_
    refine w_iload (n := 78) (i := 5) (by decide +kernel) rfl rfl ?_
    refine x_staD (n := 81) (w := 6) (by decide +kernel) oO_331 fS_57_83 (by decide) rfl ?_
    refine w_iload_n (n := 82) (i := 0) (by decide +kernel) rfl rfl ?_
    refine w_ineg (n := 83) (by decide +kernel) rfl ?_
    obtain ⟨i2, g3, h⟩ := h
    refine x_bd (n := 84) (w := 6) (by decide +kernel) (by decide) g3.1 g3.2 rfl ?_
    obtain ⟨i4, g6, h⟩ := h
    refine x_bs (n := 85) (by decide +kernel) g6.1 g6.2 rfl rfl ?_
    replace h := h _ rfl
    generalize ak_sI M p2 i4 (vp_nar .byte (ak_cI X (999999 + 6) i2)) = M5 at h ⊢
    refine w_iload_n (n := 86) (i := 0) (by decide +kernel) rfl rfl ?_
    refine w_bipush (n := 88) (v := -9) (x := (-9)) (by decide +kernel) rfl (by decide) ?_
    by_cases c20 : (-9) ≤ y0
    · rw [if_pos c20] at h
      refine w_icmp_ge_j (n := 104) (off := 16) (by decide +kernel) (by decide) c20 ?_
      refine w_iload (n := 106) (i := 6) (by decide +kernel) rfl rfl ?_
      by_cases c10 : y6 = 0
      · rw [if_pos c10] at h
        refine w_if_eq_j (n := 118) (off := 12) (by decide +kernel) (by decide) c10 ?_
        refine w_iload (n := 120) (i := 5) (by decide +kernel) rfl rfl ?_
        subst h
        exact w_ireturn (by decide +kernel) (w_okI (by decide +kernel))
      · rw [if_neg c10] at h
        refine w_if_eq_n (n := 109) (off := 12) (by decide +kernel) rfl c10 ?_
        refine w_aload_n (n := 110) (i := 2) (by decide +kernel) rfl rfl ?_
        refine w_iinc (n := 113) (i := 5) (v := -1) (y := (y5 + (-1)) + (-1)) (l1' := [some (.int y0), some (.int x1), some (.ref p2), o3, o4, some (.int ((y5 + (-1)) + (-1))), some (.int y6)]) (l2' := []) (by decide +kernel) rfl rfl rfl rfl rfl ?_
        refine w_iload (n := 115) (i := 5) (by decide +kernel) rfl rfl ?_
        refine w_bipush (n := 117) (v := 45) (x := 45) (by decide +kernel) rfl (by decide) ?_
        obtain ⟨i7, g9, h⟩ := h
        refine x_bs (n := 118) (by decide +kernel) g9.1 g9.2 rfl rfl ?_
        replace h := h _ rfl
        generalize ak_sI M5 p2 i7 (vp_nar .byte 45) = M8 at h ⊢
        refine w_iload (n := 120) (i := 5) (by decide +kernel) rfl rfl ?_
        subst h
        exact w_ireturn (by decide +kernel) (w_okI (by decide +kernel))
    · rw [if_neg c20] at h
      refine w_icmp_ge_n (n := 91) (off := 16) (by decide +kernel) rfl c20 ?_
      refine w_aload_n (n := 92) (i := 2) (by decide +kernel) rfl rfl ?_
      refine w_iinc (n := 95) (i := 5) (v := -1) (y := (y5 + (-1)) + (-1)) (l1' := [some (.int y0), some (.int x1), some (.ref p2), o3, o4, some (.int ((y5 + (-1)) + (-1))), some (.int y6)]) (l2' := []) (by decide +kernel) rfl rfl rfl rfl rfl ?_
      refine w_iload (n := 97) (i := 5) (by decide +kernel) rfl rfl ?_
      refine x_staD (n := 100) (w := 5) (by decide +kernel) oO_331 fS_57_87 (by decide) rfl ?_
      refine w_iload_n (n := 101) (i := 0) (by decide +kernel) rfl rfl ?_
      refine w_ineg (n := 102) (by decide +kernel) rfl ?_
      obtain ⟨i11, g12, h⟩ := h
      refine x_bd (n := 103) (w := 5) (by decide +kernel) (by decide) g12.1 g12.2 rfl ?_
      obtain ⟨i13, g15, h⟩ := h
      refine x_bs (n := 104) (by decide +kernel) g15.1 g15.2 rfl rfl ?_
      replace h := h _ rfl
      generalize ak_sI M5 p2 i13 (vp_nar .byte (ak_cI X (999999 + 5) i11)) = M14 at h ⊢
      refine w_iload (n := 106) (i := 6) (by decide +kernel) rfl rfl ?_
      by_cases c19 : y6 = 0
      · rw [if_pos c19] at h
        refine w_if_eq_j (n := 118) (off := 12) (by decide +kernel) (by decide) c19 ?_
        refine w_iload (n := 120) (i := 5) (by decide +kernel) rfl rfl ?_
        subst h
        exact w_ireturn (by decide +kernel) (w_okI (by decide +kernel))
      · rw [if_neg c19] at h
        refine w_if_eq_n (n := 109) (off := 12) (by decide +kernel) rfl c19 ?_
        refine w_aload_n (n := 110) (i := 2) (by decide +kernel) rfl rfl ?_
        refine w_iinc (n := 113) (i := 5) (v := -1) (y := ((y5 + (-1)) + (-1)) + (-1)) (l1' := [some (.int y0), some (.int x1), some (.ref p2), o3, o4, some (.int (((y5 + (-1)) + (-1)) + (-1))), some (.int y6)]) (l2' := []) (by decide +kernel) rfl rfl rfl rfl rfl ?_
        refine w_iload (n := 115) (i := 5) (by decide +kernel) rfl rfl ?_
        refine w_bipush (n := 117) (v := 45) (x := 45) (by decide +kernel) rfl (by decide) ?_
        obtain ⟨i16, g18, h⟩ := h
        refine x_bs (n := 118) (by decide +kernel) g18.1 g18.2 rfl rfl ?_
        replace h := h _ rfl
        generalize ak_sI M14 p2 i16 (vp_nar .byte 45) = M17 at h ⊢
        refine w_iload (n := 120) (i := 5) (by decide +kernel) rfl rfl ?_
        subst h
        exact w_ireturn (by decide +kernel) (w_okI (by decide +kernel))
  · rw [if_neg c31] at h
    refine w_icmp_gt_n (n := 28) (off := 47) (by decide +kernel) rfl c31 ?_
    refine w_iload_n (n := 29) (i := 0) (by decide +kernel) rfl rfl ?_
    refine w_bipush (n := 31) (v := 100) (x := 100) (by decide +kernel) rfl (by decide) ?_
    refine w_idiv (n := 32) (by decide +kernel) rfl (by decide) ?_
    refine w_istore_n (n := 33) (i := 3) (l1' := [some (.int y0), some (.int x1), some (.ref p2), some (.int (y0 / 100)), o4, some (.int y5), some (.int y6)]) (l2' := []) (by decide +kernel) rfl (Nat.le_of_ble_eq_true rfl) rfl rfl ?_
    refine w_iload_n (n := 34) (i := 3) (by decide +kernel) rfl rfl ?_
    refine w_bipush (n := 36) (v := 100) (x := 100) (by decide +kernel) rfl (by decide) ?_
    refine w_imul (n := 37) (by decide +kernel) rfl ?_
    refine w_iload_n (n := 38) (i := 0) (by decide +kernel) rfl rfl ?_
    refine w_isub (n := 39) (by decide +kernel) rfl ?_
    refine w_istore (n := 41) (i := 4) (l1' := [some (.int y0), some (.int x1), some (.ref p2), some (.int (y0 / 100)), some (.int (((y0 / 100) * 100) - y0)), some (.int y5), some (.int y6)]) (l2' := []) (by decide +kernel) rfl (Nat.le_of_ble_eq_true rfl) rfl rfl ?_
    refine w_iload_n (n := 42) (i := 3) (by decide +kernel) rfl rfl ?_
    refine w_istore_n (n := 43) (i := 0) (l1' := [some (.int (y0 / 100)), some (.int x1), some (.ref p2), some (.int (y0 / 100)), some (.int (((y0 / 100) * 100) - y0)), some (.int y5), some (.int y6)]) (l2' := []) (by decide +kernel) rfl (Nat.le_of_ble_eq_true rfl) rfl rfl ?_
    refine w_aload_n (n := 44) (i := 2) (by decide +kernel) rfl rfl ?_
    refine w_iinc (n := 47) (i := 5) (v := -1) (y := y5 + (-1)) (l1' := [some (.int (y0 / 100)), some (.int x1), some (.ref p2), some (.int (y0 / 100)), some (.int (((y0 / 100) * 100) - y0)), some (.int (y5 + (-1))), some (.int y6)]) (l2' := []) (by decide +kernel) rfl rfl rfl rfl rfl ?_
    refine w_iload (n := 49) (i := 5) (by decide +kernel) rfl rfl ?_
    refine x_staD (n := 52) (w := 6) (by decide +kernel) oO_331 fS_57_83 (by decide) rfl ?_
    refine w_iload (n := 54) (i := 4) (by decide +kernel) rfl rfl ?_
    obtain ⟨i21, g22, h⟩ := h
    refine x_bd (n := 55) (w := 6) (by decide +kernel) (by decide) g22.1 g22.2 rfl ?_
    obtain ⟨i23, g25, h⟩ := h
    refine x_bs (n := 56) (by decide +kernel) g25.1 g25.2 rfl rfl ?_
    replace h := h _ rfl
    generalize ak_sI M p2 i23 (vp_nar .byte (ak_cI X (999999 + 6) i21)) = M24 at h ⊢
    refine w_aload_n (n := 57) (i := 2) (by decide +kernel) rfl rfl ?_
    refine w_iinc (n := 60) (i := 5) (v := -1) (y := (y5 + (-1)) + (-1)) (l1' := [some (.int (y0 / 100)), some (.int x1), some (.ref p2), some (.int (y0 / 100)), some (.int (((y0 / 100) * 100) - y0)), some (.int ((y5 + (-1)) + (-1))), some (.int y6)]) (l2' := []) (by decide +kernel) rfl rfl rfl rfl rfl ?_
    refine w_iload (n := 62) (i := 5) (by decide +kernel) rfl rfl ?_
    refine x_staD (n := 65) (w := 5) (by decide +kernel) oO_331 fS_57_87 (by decide) rfl ?_
    refine w_iload (n := 67) (i := 4) (by decide +kernel) rfl rfl ?_
    obtain ⟨i26, g27, h⟩ := h
    refine x_bd (n := 68) (w := 5) (by decide +kernel) (by decide) g27.1 g27.2 rfl ?_
    obtain ⟨i28, g30, h⟩ := h
    refine x_bs (n := 69) (by decide +kernel) g30.1 g30.2 rfl rfl ?_
    replace h := h _ rfl
    generalize ak_sI M24 p2 i28 (vp_nar .byte (ak_cI X (999999 + 5) i26)) = M29 at h ⊢
    refine w_goto (n := 22) (off := (-47)) (by decide +kernel) (by decide) ?_
    exact h
theorem t_332 {X : ak_X} {M : ak_M} {r : ak_O × ak_M} (p0 : Nat) (h : ((p0 < ak_P M ∧ ak_K M p0 = 12) ∧ (if ak_I M p0 1 = 0 then r = (.inl (some (.int 1)), M) else r = (.inl (some (.int 0)), M)))) : rn X 332 [.ref p0] M r := by
  refine w_rn (nL := 1) (l1 := [some (.ref p0)]) (by decide +kernel) rfl rfl ?_
  refine x_sta1 (n := 3) (by decide +kernel) oO_332 fS_56_18 rfl ?_
  refine w_if_eq_n (n := 6) (off := 14) (by decide +kernel) rfl (by decide) ?_
  refine w_aload_n (n := 7) (i := 0) (by decide +kernel) rfl rfl ?_
  obtain ⟨g1, h⟩ := h
  refine x_gI (n := 10) (by decide +kernel) oO_332 fF_56_22 g1 (by decide) rfl ?_
  by_cases c2 : ak_I M p0 1 = 0
  · rw [if_pos c2] at h
    refine w_if_ne_n (n := 13) (off := 7) (by decide +kernel) rfl c2 ?_
    refine w_iconst (n := 14) (v := 1) (x := 1) (by decide +kernel) rfl (by decide) ?_
    refine w_goto (n := 18) (off := 4) (by decide +kernel) (by decide) ?_
    subst h
    exact w_ireturn (by decide +kernel) (by decide +kernel)
  · rw [if_neg c2] at h
    refine w_if_ne_j (n := 17) (off := 7) (by decide +kernel) (by decide) c2 ?_
    refine w_iconst (n := 18) (v := 0) (x := 0) (by decide +kernel) rfl (by decide) ?_
    subst h
    exact w_ireturn (by decide +kernel) (by decide +kernel)
theorem t_333 {X : ak_X} {M : ak_M} {r : ak_O × ak_M} (p0 : Nat) (h : ((p0 < ak_P M ∧ ak_K M p0 = 12) ∧ ∃ q3 : Nat, ak_R M p0 0 = some q3 ∧ r = (.inl (some (.ref q3)), M))) : rn X 333 [.ref p0] M r := by
  refine w_rn (nL := 1) (l1 := [some (.ref p0)]) (by decide +kernel) rfl rfl ?_
  refine w_aload_n (n := 1) (i := 0) (by decide +kernel) rfl rfl ?_
  obtain ⟨g1, q3, g2, h⟩ := h
  refine x_gR (n := 4) (by decide +kernel) oO_333 fF_56_15 g1 (by decide) g2 rfl ?_
  subst h
  exact w_areturn (by decide +kernel) (by decide +kernel)
theorem t_334 {X : ak_X} {M : ak_M} {r : ak_O × ak_M} (p0 : Nat) (h : ((p0 < ak_P M ∧ ak_K M p0 = 12) ∧ r = (.inl (some (.int (ak_I M p0 3))), M))) : rn X 334 [.ref p0] M r := by
  refine w_rn (nL := 1) (l1 := [some (.ref p0)]) (by decide +kernel) rfl rfl ?_
  refine w_aload_n (n := 1) (i := 0) (by decide +kernel) rfl rfl ?_
  obtain ⟨g1, h⟩ := h
  refine x_gI (n := 4) (by decide +kernel) oO_334 fF_56_79 g1 (by decide) rfl ?_
  subst h
  exact w_ireturn (by decide +kernel) (w_okI (by decide +kernel))
theorem t_335 {X : ak_X} {M : ak_M} {r : ak_O × ak_M} (p0 : Nat) (x1 : Int32) (h : ((p0 < ak_P M ∧ ak_K M p0 = 12) ∧ ∃ q3 : Nat, ak_R M p0 0 = some q3 ∧ ((q3 < ak_P M ∧ 100 ≤ ak_K M q3) ∧ ((p0 < ak_P M ∧ ak_K M p0 = 12) ∧ (∀ z6 : Int32, z6 = x1 <<< ((ak_I M p0 1) &&& 31) → (∀ z7 : Int32, z7 = z6 - (Int32.ofNat (ak_N M q3)) → ((p0 < ak_P M ∧ ak_K M p0 = 12) ∧ (∃ (v10 : Int32) (M9 : ak_M), rn X 325 [.int (Int32.ofNat (ak_N M q3)), .int z7, .int ((Int32.ofNat (ak_N M q3)) + (2 <<< ((ak_I M p0 1) &&& 31)))] M (.inl (some (.int v10)), M9) ∧ (if v10 = 2147483647 then False else ((p0 < ak_P M9 ∧ ak_K M9 p0 = 12) ∧ r = (.inl (some (.int (v10 >>> ((ak_I M9 p0 1) &&& 31)))), M9))))))))))) : rn X 335 [.ref p0, .int x1] M r := by
  refine w_rn (nL := 6) (l1 := [some (.ref p0), some (.int x1), none, none, none, none]) (by decide +kernel) rfl rfl ?_
  refine w_aload_n (n := 1) (i := 0) (by decide +kernel) rfl rfl ?_
  obtain ⟨g1, q3, g2, h⟩ := h
  refine x_gR (n := 4) (by decide +kernel) oO_335 fF_56_15 g1 (by decide) g2 rfl ?_
  obtain ⟨g4, h⟩ := h
  refine x_al (n := 5) (by decide +kernel) g4 rfl ?_
  refine w_istore_n (n := 6) (i := 2) (l1' := [some (.ref p0), some (.int x1), some (.int (Int32.ofNat (ak_N M q3))), none, none, none]) (l2' := []) (by decide +kernel) rfl (Nat.le_of_ble_eq_true rfl) rfl rfl ?_
  refine w_iload_n (n := 7) (i := 1) (by decide +kernel) rfl rfl ?_
  refine w_aload_n (n := 8) (i := 0) (by decide +kernel) rfl rfl ?_
  obtain ⟨g5, h⟩ := h
  refine x_gI (n := 11) (by decide +kernel) oO_335 fF_56_22 g5 (by decide) rfl ?_
  refine w_ishl (n := 12) (by decide +kernel) rfl ?_
  refine w_istore_n (n := 13) (i := 3) (l1' := [some (.ref p0), some (.int x1), some (.int (Int32.ofNat (ak_N M q3))), some (.int (x1 <<< ((ak_I M p0 1) &&& 31))), none, none]) (l2' := []) (by decide +kernel) rfl (Nat.le_of_ble_eq_true rfl) rfl rfl ?_
  generalize ez6 : x1 <<< ((ak_I M p0 1) &&& 31) = z6
  replace h := h z6 ez6.symm
  refine w_iload_n (n := 14) (i := 3) (by decide +kernel) rfl rfl ?_
  refine w_iload_n (n := 15) (i := 2) (by decide +kernel) rfl rfl ?_
  refine w_isub (n := 16) (by decide +kernel) rfl ?_
  refine w_istore (n := 18) (i := 4) (l1' := [some (.ref p0), some (.int x1), some (.int (Int32.ofNat (ak_N M q3))), some (.int z6), some (.int (z6 - (Int32.ofNat (ak_N M q3)))), none]) (l2' := []) (by decide +kernel) rfl (Nat.le_of_ble_eq_true rfl) rfl rfl ?_
  generalize ez7 : z6 - (Int32.ofNat (ak_N M q3)) = z7
  replace h := h z7 ez7.symm
  refine w_iload_n (n := 19) (i := 2) (by decide +kernel) rfl rfl ?_
  refine w_iload (n := 21) (i := 4) (by decide +kernel) rfl rfl ?_
  refine w_iload_n (n := 22) (i := 2) (by decide +kernel) rfl rfl ?_
  refine w_iconst (n := 23) (v := 2) (x := 2) (by decide +kernel) rfl (by decide) ?_
  refine w_aload_n (n := 24) (i := 0) (by decide +kernel) rfl rfl ?_
  obtain ⟨g8, h⟩ := h
  refine x_gI (n := 27) (by decide +kernel) oO_335 fF_56_22 g8 (by decide) rfl ?_
  refine w_ishl (n := 28) (by decide +kernel) rfl ?_
  refine w_iadd (n := 29) (by decide +kernel) rfl ?_
  obtain ⟨v10, M9, hr13, h⟩ := h
  refine w_cS (n := 32) (idx := 114) (cal := 325) (na := 3) (nl := 3) (as := [.int (Int32.ofNat (ak_N M q3)), .int z7, .int ((Int32.ofNat (ak_N M q3)) + (2 <<< ((ak_I M p0 1) &&& 31)))]) (rest := []) (by decide +kernel) (by decide +kernel) rfl rfl rfl (Nat.le_of_ble_eq_true rfl) rfl hr13 ?_
  refine w_istore (n := 34) (i := 5) (l1' := [some (.ref p0), some (.int x1), some (.int (Int32.ofNat (ak_N M q3))), some (.int z6), some (.int z7), some (.int v10)]) (l2' := []) (by decide +kernel) rfl (Nat.le_of_ble_eq_true rfl) rfl rfl ?_
  refine w_iload (n := 36) (i := 5) (by decide +kernel) rfl rfl ?_
  refine x_ldcI (n := 38) (idx := 39) (v := 2147483647) (by decide +kernel) oO_335 (by decide +kernel) (by decide +kernel) rfl ?_
  by_cases c12 : v10 = 2147483647
  · rw [if_pos c12] at h
    refine w_icmp_ne_n (n := 41) (off := 13) (by decide +kernel) rfl c12 ?_
    exact h.elim
  · rw [if_neg c12] at h
    refine w_icmp_ne_j (n := 51) (off := 13) (by decide +kernel) (by decide) c12 ?_
    refine w_iload (n := 53) (i := 5) (by decide +kernel) rfl rfl ?_
    refine w_aload_n (n := 54) (i := 0) (by decide +kernel) rfl rfl ?_
    obtain ⟨g11, h⟩ := h
    refine x_gI (n := 57) (by decide +kernel) oO_335 fF_56_22 g11 (by decide) rfl ?_
    refine w_ishr (n := 58) (by decide +kernel) rfl ?_
    subst h
    exact w_ireturn (by decide +kernel) (w_okI (by decide +kernel))
theorem t_336 {X : ak_X} {M : ak_M} {r : ak_O × ak_M} (p0 : Nat) (x1 : Int32) (h : ((p0 < ak_P M ∧ ak_K M p0 = 12) ∧ ∃ q3 : Nat, ak_R M p0 0 = some q3 ∧ ((q3 < ak_P M ∧ 100 ≤ ak_K M q3) ∧ ((p0 < ak_P M ∧ ak_K M p0 = 12) ∧ (∀ z6 : Int32, z6 = (Int32.ofNat (ak_N M q3)) >>> ((ak_I M p0 1) &&& 31) → (if x1 - z6 ≤ 0 then r = (.inl none, M) else ((p0 < ak_P M ∧ ak_K M p0 = 12) ∧ ∃ q9 : Nat, ak_R M p0 0 = some q9 ∧ (ak_rc M p0 = 12 ∧ ∃ (v11 : Int32) (M10 : ak_M), rn X 335 [.ref p0, .int x1] M (.inl (some (.int v11)), M10) ∧ ((p0 < ak_P M10 ∧ ak_K M10 p0 = 12) ∧ (∃ (v14 : Nat) (M13 : ak_M), rn X 326 [.ref q9, .int (v11 <<< ((ak_I M10 p0 1) &&& 31))] M10 (.inl (some (.ref v14)), M13) ∧ (((p0 < ak_P M13 ∧ ak_K M13 p0 = 12) ∧ v14 < ak_P M13) ∧ ∀ M15 : ak_M, M15 = ak_sR M13 p0 0 (some v14) → r = (.inl none, M15)))))))))))) : rn X 336 [.ref p0, .int x1] M r := by
  refine w_rn (nL := 3) (l1 := [some (.ref p0), some (.int x1), none]) (by decide +kernel) rfl rfl ?_
  refine w_aload_n (n := 1) (i := 0) (by decide +kernel) rfl rfl ?_
  obtain ⟨g1, q3, g2, h⟩ := h
  refine x_gR (n := 4) (by decide +kernel) oO_336 fF_56_15 g1 (by decide) g2 rfl ?_
  obtain ⟨g4, h⟩ := h
  refine x_al (n := 5) (by decide +kernel) g4 rfl ?_
  refine w_aload_n (n := 6) (i := 0) (by decide +kernel) rfl rfl ?_
  obtain ⟨g5, h⟩ := h
  refine x_gI (n := 9) (by decide +kernel) oO_336 fF_56_22 g5 (by decide) rfl ?_
  refine w_ishr (n := 10) (by decide +kernel) rfl ?_
  refine w_istore_n (n := 11) (i := 2) (l1' := [some (.ref p0), some (.int x1), some (.int ((Int32.ofNat (ak_N M q3)) >>> ((ak_I M p0 1) &&& 31)))]) (l2' := []) (by decide +kernel) rfl (Nat.le_of_ble_eq_true rfl) rfl rfl ?_
  generalize ez6 : (Int32.ofNat (ak_N M q3)) >>> ((ak_I M p0 1) &&& 31) = z6
  replace h := h z6 ez6.symm
  refine w_iload_n (n := 12) (i := 1) (by decide +kernel) rfl rfl ?_
  refine w_iload_n (n := 13) (i := 2) (by decide +kernel) rfl rfl ?_
  refine w_isub (n := 14) (by decide +kernel) rfl ?_
  by_cases c21 : x1 - z6 ≤ 0
  · rw [if_pos c21] at h
    refine w_if_le_j (n := 38) (off := 24) (by decide +kernel) (by decide) c21 ?_
    subst h
    exact w_vreturn (by decide +kernel) (by decide +kernel)
  · rw [if_neg c21] at h
    refine w_if_le_n (n := 17) (off := 24) (by decide +kernel) rfl c21 ?_
    refine w_aload_n (n := 18) (i := 0) (by decide +kernel) rfl rfl ?_
    refine w_aload_n (n := 19) (i := 0) (by decide +kernel) rfl rfl ?_
    obtain ⟨g7, q9, g8, h⟩ := h
    refine x_gR (n := 22) (by decide +kernel) oO_336 fF_56_15 g7 (by decide) g8 rfl ?_
    refine w_aload_n (n := 23) (i := 0) (by decide +kernel) rfl rfl ?_
    refine w_iload_n (n := 24) (i := 1) (by decide +kernel) rfl rfl ?_
    obtain ⟨g20, h⟩ := h
    obtain ⟨v11, M10, hr19, h⟩ := h
    refine x_cU (n := 27) (idx := 104) (cal := 335) (na := 1) (nl := 2) (as := [.int x1]) (rest := [.ref q9, .ref p0]) (kd := 6) g20 (by decide) (by decide +kernel) (by decide +kernel) rfl rfl rfl (Nat.le_of_ble_eq_true rfl) rfl hr19 ?_
    refine w_aload_n (n := 28) (i := 0) (by decide +kernel) rfl rfl ?_
    obtain ⟨g12, h⟩ := h
    refine x_gI (n := 31) (by decide +kernel) oO_336 fF_56_22 g12 (by decide) rfl ?_
    refine w_ishl (n := 32) (by decide +kernel) rfl ?_
    obtain ⟨v14, M13, hr17, h⟩ := h
    refine w_cS (n := 35) (idx := 108) (cal := 326) (na := 2) (nl := 2) (as := [.ref q9, .int (v11 <<< ((ak_I M10 p0 1) &&& 31))]) (rest := [.ref p0]) (by decide +kernel) (by decide +kernel) rfl rfl rfl (Nat.le_of_ble_eq_true rfl) rfl hr17 ?_
    obtain ⟨g16, h⟩ := h
    refine x_pR (n := 38) (by decide +kernel) oO_336 fF_56_15 g16.1 (by decide) g16.2 rfl (rfl) ?_
    replace h := h _ rfl
    generalize ak_sR M13 p0 0 (some v14) = M15 at h ⊢
    subst h
    exact w_vreturn (by decide +kernel) (by decide +kernel)
theorem t_337 {X : ak_X} {M : ak_M} {r : ak_O × ak_M} (p0 : Nat) (p1 : Nat) (x2 : Int32) (x3 : Int32) (h : (ak_rc M p0 = 13 ∧ ∃ (v2 : Int32) (M1 : ak_M), rn X 319 [.ref p0] M (.inl (some (.int v2)), M1) ∧ (if v2 = x3 then ((p0 < ak_P M1 ∧ ak_K M1 p0 = 13) ∧ ∃ q12 : Nat, ak_R M1 p0 0 = some q12 ∧ ((p0 < ak_P M1 ∧ ak_K M1 p0 = 13) ∧ ∃ q15 : Nat, ak_R M1 p0 0 = some q15 ∧ ((q15 < ak_P M1 ∧ 100 ≤ ak_K M1 q15) ∧ ((p1 < ak_P M1 ∧ ak_K M1 p1 = 101 ∧ ak_isb M1 q12 = true ∧ ¬ (0 : Int32) < 0 ∧ ¬ (x2 <<< (x3 &&& 31)) < 0 ∧ ¬ (Int32.ofNat (ak_N M1 q15)) < 0 ∧ (0 : Int32).toNatClampNeg + (Int32.ofNat (ak_N M1 q15)).toNatClampNeg ≤ ak_bn X M1 q12 ∧ (x2 <<< (x3 &&& 31)).toNatClampNeg + (Int32.ofNat (ak_N M1 q15)).toNatClampNeg ≤ ak_N M1 p1 ∧ (List.range (Int32.ofNat (ak_N M1 q15)).toNatClampNeg).all (fun i => ak_isB (ak_by X M1 q12 ((0 : Int32).toNatClampNeg + i))) = true) ∧ ∀ M17 : ak_M, M17 = ak_cpy M1 (ak_by X M1 q12) p1 (0 : Int32).toNatClampNeg (x2 <<< (x3 &&& 31)).toNatClampNeg (Int32.ofNat (ak_N M1 q15)).toNatClampNeg → r = (.inl none, M17))))) else ((p0 < ak_P M1 ∧ ak_K M1 p0 = 13) ∧ ∃ q5 : Nat, ak_R M1 p0 0 = some q5 ∧ ((p0 < ak_P M1 ∧ ak_K M1 p0 = 13) ∧ ∃ q8 : Nat, ak_R M1 p0 0 = some q8 ∧ ((q8 < ak_P M1 ∧ 100 ≤ ak_K M1 q8) ∧ False)))))) : rn X 337 [.ref p0, .ref p1, .int x2, .int x3] M r := by
  refine w_rn (nL := 4) (l1 := [some (.ref p0), some (.ref p1), some (.int x2), some (.int x3)]) (by decide +kernel) rfl rfl ?_
  refine w_aload_n (n := 1) (i := 0) (by decide +kernel) rfl rfl ?_
  obtain ⟨g21, h⟩ := h
  obtain ⟨v2, M1, hr20, h⟩ := h
  refine w_cVr (n := 4) (idx := 335) (cal := 319) (na := 0) (nl := 1) (as := []) (rest := []) (g21.trans (by decide +kernel)) (by decide +kernel) (by decide +kernel) rfl rfl rfl (Nat.le_of_ble_eq_true rfl) rfl hr20 ?_
  refine w_iload_n (n := 5) (i := 3) (by decide +kernel) rfl rfl ?_
  by_cases c19 : v2 = x3
  · rw [if_pos c19] at h
    refine w_icmp_ne_n (n := 8) (off := 23) (by decide +kernel) rfl c19 ?_
    refine w_aload_n (n := 9) (i := 0) (by decide +kernel) rfl rfl ?_
    obtain ⟨g10, q12, g11, h⟩ := h
    refine x_gR (n := 12) (by decide +kernel) oO_337 fF_50_9 g10 (by decide) g11 rfl ?_
    refine w_iconst (n := 13) (v := 0) (x := 0) (by decide +kernel) rfl (by decide) ?_
    refine w_aload_n (n := 14) (i := 1) (by decide +kernel) rfl rfl ?_
    refine w_iload_n (n := 15) (i := 2) (by decide +kernel) rfl rfl ?_
    refine w_iload_n (n := 16) (i := 3) (by decide +kernel) rfl rfl ?_
    refine w_ishl (n := 17) (by decide +kernel) rfl ?_
    refine w_aload_n (n := 18) (i := 0) (by decide +kernel) rfl rfl ?_
    obtain ⟨g13, q15, g14, h⟩ := h
    refine x_gR (n := 21) (by decide +kernel) oO_337 fF_50_9 g13 (by decide) g14 rfl ?_
    obtain ⟨g16, h⟩ := h
    refine x_al (n := 22) (by decide +kernel) g16 rfl ?_
    obtain ⟨g18, h⟩ := h
    refine x_acp (n := 25) (idx := 212) (by decide +kernel) (cal := 0) (z := (1117, 1064, 1063, 48)) (by decide +kernel) (Nat.le_of_ble_eq_true rfl) g18 rfl (rfl) ?_
    replace h := h _ rfl
    generalize ak_cpy M1 (ak_by X M1 q12) p1 (0 : Int32).toNatClampNeg (x2 <<< (x3 &&& 31)).toNatClampNeg (Int32.ofNat (ak_N M1 q15)).toNatClampNeg = M17 at h ⊢
    refine w_goto (n := 43) (off := 18) (by decide +kernel) (by decide) ?_
    subst h
    exact w_vreturn (by decide +kernel) (by decide +kernel)
  · rw [if_neg c19] at h
    refine w_icmp_ne_j (n := 28) (off := 23) (by decide +kernel) (by decide) c19 ?_
    refine w_aload_n (n := 29) (i := 0) (by decide +kernel) rfl rfl ?_
    obtain ⟨g3, q5, g4, h⟩ := h
    refine x_gR (n := 32) (by decide +kernel) oO_337 fF_50_9 g3 (by decide) g4 rfl ?_
    refine w_iconst (n := 33) (v := 0) (x := 0) (by decide +kernel) rfl (by decide) ?_
    refine w_aload_n (n := 34) (i := 1) (by decide +kernel) rfl rfl ?_
    refine w_iload_n (n := 35) (i := 2) (by decide +kernel) rfl rfl ?_
    refine w_aload_n (n := 36) (i := 0) (by decide +kernel) rfl rfl ?_
    obtain ⟨g6, q8, g7, h⟩ := h
    refine x_gR (n := 39) (by decide +kernel) oO_337 fF_50_9 g6 (by decide) g7 rfl ?_
    obtain ⟨g9, h⟩ := h
    refine x_al (n := 40) (by decide +kernel) g9 rfl ?_
    exact h.elim
theorem t_338 {X : ak_X} {M : ak_M} {r : ak_O × ak_M} (p0 : Nat) (p1 : Nat) (h : ((p0 < ak_P M ∧ ak_K M p0 = 12) ∧ (ak_rc M p1 = 13 ∧ ∃ (v3 : Int32) (M2 : ak_M), rn X 319 [.ref p1] M (.inl (some (.int v3)), M2) ∧ (if ak_I M p0 1 = v3 then r = (.inl none, M2) else False)))) : rn X 338 [.ref p0, .ref p1] M r := by
  refine w_rn (nL := 2) (l1 := [some (.ref p0), some (.ref p1)]) (by decide +kernel) rfl rfl ?_
  refine x_sta1 (n := 3) (by decide +kernel) oO_338 fS_56_18 rfl ?_
  refine w_if_eq_n (n := 6) (off := 18) (by decide +kernel) rfl (by decide) ?_
  refine w_aload_n (n := 7) (i := 0) (by decide +kernel) rfl rfl ?_
  obtain ⟨g1, h⟩ := h
  refine x_gI (n := 10) (by decide +kernel) oO_338 fF_56_22 g1 (by decide) rfl ?_
  refine w_aload_n (n := 11) (i := 1) (by decide +kernel) rfl rfl ?_
  obtain ⟨g6, h⟩ := h
  obtain ⟨v3, M2, hr5, h⟩ := h
  refine w_cVr (n := 14) (idx := 40) (cal := 319) (na := 0) (nl := 1) (as := []) (rest := [.int (ak_I M p0 1)]) (g6.trans (by decide +kernel)) (by decide +kernel) (by decide +kernel) rfl rfl rfl (Nat.le_of_ble_eq_true rfl) rfl hr5 ?_
  by_cases c4 : ak_I M p0 1 = v3
  · rw [if_pos c4] at h
    refine w_icmp_eq_j (n := 21) (off := 7) (by decide +kernel) (by decide) c4 ?_
    subst h
    exact w_vreturn (by decide +kernel) (by decide +kernel)
  · rw [if_neg c4] at h
    refine w_icmp_eq_n (n := 17) (off := 7) (by decide +kernel) rfl c4 ?_
    refine w_aload_n (n := 18) (i := 0) (by decide +kernel) rfl rfl ?_
    exact h.elim
theorem t_339 {X : ak_X} {M : ak_M} {r : ak_O × ak_M} (p0 : Nat) (x1 : Int32) (p2 : Nat) (h : (ak_rc M p0 = 12 ∧ ∃ (M1 : ak_M), rn X 338 [.ref p0, .ref p2] M (.inl (none), M1) ∧ ((p0 < ak_P M1 ∧ ak_K M1 p0 = 12) ∧ ∃ q4 : Nat, ak_R M1 p0 0 = some q4 ∧ ((p0 < ak_P M1 ∧ ak_K M1 p0 = 12) ∧ (ak_rc M1 p2 = 13 ∧ ∃ (M6 : ak_M), rn X 337 [.ref p2, .ref q4, .int x1, .int (ak_I M1 p0 1)] M1 (.inl (none), M6) ∧ r = (.inl none, M6)))))) : rn X 339 [.ref p0, .int x1, .ref p2] M r := by
  refine w_rn (nL := 3) (l1 := [some (.ref p0), some (.int x1), some (.ref p2)]) (by decide +kernel) rfl rfl ?_
  refine w_aload_n (n := 1) (i := 0) (by decide +kernel) rfl rfl ?_
  refine w_aload_n (n := 2) (i := 2) (by decide +kernel) rfl rfl ?_
  obtain ⟨g10, h⟩ := h
  obtain ⟨M1, hr9, h⟩ := h
  refine x_cU (n := 5) (idx := 397) (cal := 338) (na := 1) (nl := 2) (as := [.ref p2]) (rest := []) (kd := 6) g10 (by decide) (by decide +kernel) (by decide +kernel) rfl rfl rfl (Nat.le_of_ble_eq_true rfl) rfl hr9 ?_
  refine w_aload_n (n := 6) (i := 2) (by decide +kernel) rfl rfl ?_
  refine w_aload_n (n := 7) (i := 0) (by decide +kernel) rfl rfl ?_
  obtain ⟨g2, q4, g3, h⟩ := h
  refine x_gR (n := 10) (by decide +kernel) oO_339 fF_56_15 g2 (by decide) g3 rfl ?_
  refine w_iload_n (n := 11) (i := 1) (by decide +kernel) rfl rfl ?_
  refine w_aload_n (n := 12) (i := 0) (by decide +kernel) rfl rfl ?_
  obtain ⟨g5, h⟩ := h
  refine x_gI (n := 15) (by decide +kernel) oO_339 fF_56_22 g5 (by decide) rfl ?_
  obtain ⟨g8, h⟩ := h
  obtain ⟨M6, hr7, h⟩ := h
  refine w_cVr (n := 18) (idx := 399) (cal := 337) (na := 3) (nl := 4) (as := [.ref q4, .int x1, .int (ak_I M1 p0 1)]) (rest := []) (g8.trans (by decide +kernel)) (by decide +kernel) (by decide +kernel) rfl rfl rfl (Nat.le_of_ble_eq_true rfl) rfl hr7 ?_
  subst h
  exact w_vreturn (by decide +kernel) (by decide +kernel)
theorem t_340 {X : ak_X} {M : ak_M} {r : ak_O × ak_M} (p0 : Nat) (p1 : Nat) (h : (ak_rc M p1 = 13 ∧ ∃ (v2 : Int32) (M1 : ak_M), rn X 317 [.ref p1] M (.inl (some (.int v2)), M1) ∧ ((p0 < ak_P M1 ∧ ak_K M1 p0 = 12) ∧ (ak_rc M1 p0 = 12 ∧ ∃ (M4 : ak_M), rn X 336 [.ref p0, .int ((ak_I M1 p0 3) + v2)] M1 (.inl (none), M4) ∧ ((p0 < ak_P M4 ∧ ak_K M4 p0 = 12) ∧ (ak_rc M4 p0 = 12 ∧ ∃ (M6 : ak_M), rn X 339 [.ref p0, .int (ak_I M4 p0 3), .ref p1] M4 (.inl (none), M6) ∧ ((p0 < ak_P M6 ∧ ak_K M6 p0 = 12) ∧ ((p0 < ak_P M6 ∧ ak_K M6 p0 = 12) ∧ ∀ M8 : ak_M, M8 = ak_sI M6 p0 3 ((ak_I M6 p0 3) + v2) → r = (.inl (some (.ref p0)), M8))))))))) : rn X 340 [.ref p0, .ref p1] M r := by
  refine w_rn (nL := 3) (l1 := [some (.ref p0), some (.ref p1), none]) (by decide +kernel) rfl rfl ?_
  refine w_aload_n (n := 1) (i := 1) (by decide +kernel) rfl rfl ?_
  refine x_nn (n := 9) (off := 8) (by decide +kernel) (by decide) ?_
  refine w_aload_n (n := 10) (i := 1) (by decide +kernel) rfl rfl ?_
  obtain ⟨g15, h⟩ := h
  obtain ⟨v2, M1, hr14, h⟩ := h
  refine w_cVr (n := 13) (idx := 32) (cal := 317) (na := 0) (nl := 1) (as := []) (rest := []) (g15.trans (by decide +kernel)) (by decide +kernel) (by decide +kernel) rfl rfl rfl (Nat.le_of_ble_eq_true rfl) rfl hr14 ?_
  refine w_istore_n (n := 14) (i := 2) (l1' := [some (.ref p0), some (.ref p1), some (.int v2)]) (l2' := []) (by decide +kernel) rfl (Nat.le_of_ble_eq_true rfl) rfl rfl ?_
  refine w_aload_n (n := 15) (i := 0) (by decide +kernel) rfl rfl ?_
  refine w_aload_n (n := 16) (i := 0) (by decide +kernel) rfl rfl ?_
  obtain ⟨g3, h⟩ := h
  refine x_gI (n := 19) (by decide +kernel) oO_340 fF_56_79 g3 (by decide) rfl ?_
  refine w_iload_n (n := 20) (i := 2) (by decide +kernel) rfl rfl ?_
  refine w_iadd (n := 21) (by decide +kernel) rfl ?_
  obtain ⟨g13, h⟩ := h
  obtain ⟨M4, hr12, h⟩ := h
  refine x_cU (n := 24) (idx := 100) (cal := 336) (na := 1) (nl := 2) (as := [.int ((ak_I M1 p0 3) + v2)]) (rest := []) (kd := 6) g13 (by decide) (by decide +kernel) (by decide +kernel) rfl rfl rfl (Nat.le_of_ble_eq_true rfl) rfl hr12 ?_
  refine w_aload_n (n := 25) (i := 0) (by decide +kernel) rfl rfl ?_
  refine w_aload_n (n := 26) (i := 0) (by decide +kernel) rfl rfl ?_
  obtain ⟨g5, h⟩ := h
  refine x_gI (n := 29) (by decide +kernel) oO_340 fF_56_79 g5 (by decide) rfl ?_
  refine w_aload_n (n := 30) (i := 1) (by decide +kernel) rfl rfl ?_
  obtain ⟨g11, h⟩ := h
  obtain ⟨M6, hr10, h⟩ := h
  refine x_cU (n := 33) (idx := 208) (cal := 339) (na := 2) (nl := 3) (as := [.int (ak_I M4 p0 3), .ref p1]) (rest := []) (kd := 6) g11 (by decide) (by decide +kernel) (by decide +kernel) rfl rfl rfl (Nat.le_of_ble_eq_true rfl) rfl hr10 ?_
  refine w_aload_n (n := 34) (i := 0) (by decide +kernel) rfl rfl ?_
  refine w_dup_ref (n := 35) (by decide +kernel) rfl ?_
  obtain ⟨g7, h⟩ := h
  refine x_gI (n := 38) (by decide +kernel) oO_340 fF_56_79 g7 (by decide) rfl ?_
  refine w_iload_n (n := 39) (i := 2) (by decide +kernel) rfl rfl ?_
  refine w_iadd (n := 40) (by decide +kernel) rfl ?_
  obtain ⟨g9, h⟩ := h
  refine x_pI (n := 43) (by decide +kernel) oO_340 fF_56_79 g9 ⟨by decide, Or.inl (by decide)⟩ rfl (rfl) ?_
  replace h := h _ rfl
  generalize ak_sI M6 p0 3 ((ak_I M6 p0 3) + v2) = M8 at h ⊢
  refine w_aload_n (n := 44) (i := 0) (by decide +kernel) rfl rfl ?_
  subst h
  exact w_areturn (by decide +kernel) (by decide +kernel)
theorem t_341 {X : ak_X} {M : ak_M} {r : ak_O × ak_M} (p0 : Nat) (x1 : Int32) (h : ((p0 < ak_P M ∧ ak_K M p0 = 12) ∧ (ak_rc M p0 = 12 ∧ ∃ (M2 : ak_M), rn X 336 [.ref p0, .int ((ak_I M p0 3) + 1)] M (.inl (none), M2) ∧ (ak_rc M2 p0 = 12 ∧ ∃ (v4 : Int32) (M3 : ak_M), rn X 332 [.ref p0] M2 (.inl (some (.int v4)), M3) ∧ (if v4 = 0 then (ak_rc M3 p0 = 12 ∧ ∃ (v6 : Int32) (M5 : ak_M), rn X 332 [.ref p0] M3 (.inl (some (.int v6)), M5) ∧ (if v6 = 0 then ((p0 < ak_P M5 ∧ ak_K M5 p0 = 12) ∧ ∃ q9 : Nat, ak_R M5 p0 0 = some q9 ∧ ((p0 < ak_P M5 ∧ ak_K M5 p0 = 12) ∧ ((p0 < ak_P M5 ∧ ak_K M5 p0 = 12) ∧ ∀ M11 : ak_M, M11 = ak_sI M5 p0 3 ((ak_I M5 p0 3) + 1) → False))) else False)) else (∃ (v17 : Int32) (M16 : ak_M), rn X 324 [.int x1] M3 (.inl (some (.int v17)), M16) ∧ (if v17 = 0 then (ak_rc M16 p0 = 12 ∧ ∃ (v19 : Int32) (M18 : ak_M), rn X 332 [.ref p0] M16 (.inl (some (.int v19)), M18) ∧ (if v19 = 0 then ((p0 < ak_P M18 ∧ ak_K M18 p0 = 12) ∧ ∃ q22 : Nat, ak_R M18 p0 0 = some q22 ∧ ((p0 < ak_P M18 ∧ ak_K M18 p0 = 12) ∧ ((p0 < ak_P M18 ∧ ak_K M18 p0 = 12) ∧ ∀ M24 : ak_M, M24 = ak_sI M18 p0 3 ((ak_I M18 p0 3) + 1) → False))) else False)) else ((p0 < ak_P M16 ∧ ak_K M16 p0 = 12) ∧ ∃ q31 : Nat, ak_R M16 p0 0 = some q31 ∧ ((p0 < ak_P M16 ∧ ak_K M16 p0 = 12) ∧ ((p0 < ak_P M16 ∧ ak_K M16 p0 = 12) ∧ ∀ M33 : ak_M, M33 = ak_sI M16 p0 3 ((ak_I M16 p0 3) + 1) → (∃ i35 : Nat, ((q31 < ak_P M33 ∧ ak_K M33 q31 = 101) ∧ ab_ix (ak_I M16 p0 3) i35 (ak_N M33 q31)) ∧ ∀ M36 : ak_M, M36 = ak_sI M33 q31 i35 (vp_nar .byte (x1.toInt8.toInt32)) → r = (.inl (some (.ref p0)), M36)))))))))))) : rn X 341 [.ref p0, .int x1] M r := by
  refine w_rn (nL := 2) (l1 := [some (.ref p0), some (.int x1)]) (by decide +kernel) rfl rfl ?_
  refine w_aload_n (n := 1) (i := 0) (by decide +kernel) rfl rfl ?_
  refine w_aload_n (n := 2) (i := 0) (by decide +kernel) rfl rfl ?_
  obtain ⟨g1, h⟩ := h
  refine x_gI (n := 5) (by decide +kernel) oO_341 fF_56_79 g1 (by decide) rfl ?_
  refine w_iconst (n := 6) (v := 1) (x := 1) (by decide +kernel) rfl (by decide) ?_
  refine w_iadd (n := 7) (by decide +kernel) rfl ?_
  obtain ⟨g45, h⟩ := h
  obtain ⟨M2, hr44, h⟩ := h
  refine x_cU (n := 10) (idx := 100) (cal := 336) (na := 1) (nl := 2) (as := [.int ((ak_I M p0 3) + 1)]) (rest := []) (kd := 6) g45 (by decide) (by decide +kernel) (by decide +kernel) rfl rfl rfl (Nat.le_of_ble_eq_true rfl) rfl hr44 ?_
  refine w_aload_n (n := 11) (i := 0) (by decide +kernel) rfl rfl ?_
  obtain ⟨g43, h⟩ := h
  obtain ⟨v4, M3, hr42, h⟩ := h
  refine x_cU (n := 14) (idx := 83) (cal := 332) (na := 0) (nl := 1) (as := []) (rest := []) (kd := 6) g43 (by decide) (by decide +kernel) (by decide +kernel) rfl rfl rfl (Nat.le_of_ble_eq_true rfl) rfl hr42 ?_
  by_cases c41 : v4 = 0
  · rw [if_pos c41] at h
    refine w_if_eq_j (n := 45) (off := 31) (by decide +kernel) (by decide) c41 ?_
    refine w_aload_n (n := 46) (i := 0) (by decide +kernel) rfl rfl ?_
    obtain ⟨g15, h⟩ := h
    obtain ⟨v6, M5, hr14, h⟩ := h
    refine x_cU (n := 49) (idx := 83) (cal := 332) (na := 0) (nl := 1) (as := []) (rest := []) (kd := 6) g15 (by decide) (by decide +kernel) (by decide +kernel) rfl rfl rfl (Nat.le_of_ble_eq_true rfl) rfl hr14 ?_
    by_cases c13 : v6 = 0
    · rw [if_pos c13] at h
      refine w_if_eq_j (n := 56) (off := 7) (by decide +kernel) (by decide) c13 ?_
      refine w_aload_n (n := 57) (i := 0) (by decide +kernel) rfl rfl ?_
      obtain ⟨g7, q9, g8, h⟩ := h
      refine x_gR (n := 60) (by decide +kernel) oO_341 fF_56_15 g7 (by decide) g8 rfl ?_
      refine w_aload_n (n := 61) (i := 0) (by decide +kernel) rfl rfl ?_
      refine w_dup_ref (n := 62) (by decide +kernel) rfl ?_
      obtain ⟨g10, h⟩ := h
      refine x_gI (n := 65) (by decide +kernel) oO_341 fF_56_79 g10 (by decide) rfl ?_
      refine x_dupx1 (n := 66) ⟨rfl, rfl⟩ (by decide +kernel) rfl ?_
      refine w_iconst (n := 67) (v := 1) (x := 1) (by decide +kernel) rfl (by decide) ?_
      refine w_iadd (n := 68) (by decide +kernel) rfl ?_
      obtain ⟨g12, h⟩ := h
      refine x_pI (n := 71) (by decide +kernel) oO_341 fF_56_79 g12 ⟨by decide, Or.inl (by decide)⟩ rfl (rfl) ?_
      replace h := h _ rfl
      generalize ak_sI M5 p0 3 ((ak_I M5 p0 3) + 1) = M11 at h ⊢
      refine w_iload_n (n := 72) (i := 1) (by decide +kernel) rfl rfl ?_
      exact h.elim
    · rw [if_neg c13] at h
      refine w_if_eq_n (n := 52) (off := 7) (by decide +kernel) rfl c13 ?_
      refine w_aload_n (n := 53) (i := 0) (by decide +kernel) rfl rfl ?_
      exact h.elim
  · rw [if_neg c41] at h
    refine w_if_eq_n (n := 17) (off := 31) (by decide +kernel) rfl c41 ?_
    refine w_iload_n (n := 18) (i := 1) (by decide +kernel) rfl rfl ?_
    obtain ⟨v17, M16, hr39, h⟩ := h
    refine w_cS (n := 21) (idx := 191) (cal := 324) (na := 1) (nl := 1) (as := [.int x1]) (rest := []) (by decide +kernel) (by decide +kernel) rfl rfl rfl (Nat.le_of_ble_eq_true rfl) rfl hr39 ?_
    by_cases c38 : v17 = 0
    · rw [if_pos c38] at h
      refine w_if_eq_j (n := 45) (off := 24) (by decide +kernel) (by decide) c38 ?_
      refine w_aload_n (n := 46) (i := 0) (by decide +kernel) rfl rfl ?_
      obtain ⟨g28, h⟩ := h
      obtain ⟨v19, M18, hr27, h⟩ := h
      refine x_cU (n := 49) (idx := 83) (cal := 332) (na := 0) (nl := 1) (as := []) (rest := []) (kd := 6) g28 (by decide) (by decide +kernel) (by decide +kernel) rfl rfl rfl (Nat.le_of_ble_eq_true rfl) rfl hr27 ?_
      by_cases c26 : v19 = 0
      · rw [if_pos c26] at h
        refine w_if_eq_j (n := 56) (off := 7) (by decide +kernel) (by decide) c26 ?_
        refine w_aload_n (n := 57) (i := 0) (by decide +kernel) rfl rfl ?_
        obtain ⟨g20, q22, g21, h⟩ := h
        refine x_gR (n := 60) (by decide +kernel) oO_341 fF_56_15 g20 (by decide) g21 rfl ?_
        refine w_aload_n (n := 61) (i := 0) (by decide +kernel) rfl rfl ?_
        refine w_dup_ref (n := 62) (by decide +kernel) rfl ?_
        obtain ⟨g23, h⟩ := h
        refine x_gI (n := 65) (by decide +kernel) oO_341 fF_56_79 g23 (by decide) rfl ?_
        refine x_dupx1 (n := 66) ⟨rfl, rfl⟩ (by decide +kernel) rfl ?_
        refine w_iconst (n := 67) (v := 1) (x := 1) (by decide +kernel) rfl (by decide) ?_
        refine w_iadd (n := 68) (by decide +kernel) rfl ?_
        obtain ⟨g25, h⟩ := h
        refine x_pI (n := 71) (by decide +kernel) oO_341 fF_56_79 g25 ⟨by decide, Or.inl (by decide)⟩ rfl (rfl) ?_
        replace h := h _ rfl
        generalize ak_sI M18 p0 3 ((ak_I M18 p0 3) + 1) = M24 at h ⊢
        refine w_iload_n (n := 72) (i := 1) (by decide +kernel) rfl rfl ?_
        exact h.elim
      · rw [if_neg c26] at h
        refine w_if_eq_n (n := 52) (off := 7) (by decide +kernel) rfl c26 ?_
        refine w_aload_n (n := 53) (i := 0) (by decide +kernel) rfl rfl ?_
        exact h.elim
    · rw [if_neg c38] at h
      refine w_if_eq_n (n := 24) (off := 24) (by decide +kernel) rfl c38 ?_
      refine w_aload_n (n := 25) (i := 0) (by decide +kernel) rfl rfl ?_
      obtain ⟨g29, q31, g30, h⟩ := h
      refine x_gR (n := 28) (by decide +kernel) oO_341 fF_56_15 g29 (by decide) g30 rfl ?_
      refine w_aload_n (n := 29) (i := 0) (by decide +kernel) rfl rfl ?_
      refine w_dup_ref (n := 30) (by decide +kernel) rfl ?_
      obtain ⟨g32, h⟩ := h
      refine x_gI (n := 33) (by decide +kernel) oO_341 fF_56_79 g32 (by decide) rfl ?_
      refine x_dupx1 (n := 34) ⟨rfl, rfl⟩ (by decide +kernel) rfl ?_
      refine w_iconst (n := 35) (v := 1) (x := 1) (by decide +kernel) rfl (by decide) ?_
      refine w_iadd (n := 36) (by decide +kernel) rfl ?_
      obtain ⟨g34, h⟩ := h
      refine x_pI (n := 39) (by decide +kernel) oO_341 fF_56_79 g34 ⟨by decide, Or.inl (by decide)⟩ rfl (rfl) ?_
      replace h := h _ rfl
      generalize ak_sI M16 p0 3 ((ak_I M16 p0 3) + 1) = M33 at h ⊢
      refine w_iload_n (n := 40) (i := 1) (by decide +kernel) rfl rfl ?_
      refine w_i2b (n := 41) (by decide +kernel) rfl ?_
      obtain ⟨i35, g37, h⟩ := h
      refine x_bs (n := 42) (by decide +kernel) g37.1 g37.2 rfl rfl ?_
      replace h := h _ rfl
      generalize ak_sI M33 q31 i35 (vp_nar .byte (x1.toInt8.toInt32)) = M36 at h ⊢
      refine w_goto (n := 75) (off := 33) (by decide +kernel) (by decide) ?_
      refine w_aload_n (n := 76) (i := 0) (by decide +kernel) rfl rfl ?_
      subst h
      exact w_areturn (by decide +kernel) (by decide +kernel)
theorem t_342 {X : ak_X} {M : ak_M} {r : ak_O × ak_M} (p0 : Nat) (x1 : Int32) (h : ((p0 < ak_P M ∧ ak_K M p0 = 12) ∧ (∃ (v3 : Int32) (M2 : ak_M), rn X 330 [.int x1] M (.inl (some (.int v3)), M2) ∧ (ak_rc M2 p0 = 12 ∧ ∃ (M4 : ak_M), rn X 336 [.ref p0, .int ((ak_I M p0 3) + v3)] M2 (.inl (none), M4) ∧ (ak_rc M4 p0 = 12 ∧ ∃ (v6 : Int32) (M5 : ak_M), rn X 332 [.ref p0] M4 (.inl (some (.int v6)), M5) ∧ (if v6 = 0 then ((p0 < ak_P M5 ∧ ak_K M5 p0 = 12) ∧ ∃ q9 : Nat, ak_R M5 p0 0 = some q9 ∧ False) else ((p0 < ak_P M5 ∧ ak_K M5 p0 = 12) ∧ ∃ q12 : Nat, ak_R M5 p0 0 = some q12 ∧ (∃ (v14 : Int32) (M13 : ak_M), rn X 331 [.int x1, .int ((ak_I M p0 3) + v3), .ref q12] M5 (.inl (some (.int v14)), M13) ∧ ((p0 < ak_P M13 ∧ ak_K M13 p0 = 12) ∧ ∀ M15 : ak_M, M15 = ak_sI M13 p0 3 ((ak_I M p0 3) + v3) → r = (.inl (some (.ref p0)), M15)))))))))) : rn X 342 [.ref p0, .int x1] M r := by
  refine w_rn (nL := 4) (l1 := [some (.ref p0), some (.int x1), none, none]) (by decide +kernel) rfl rfl ?_
  refine w_aload_n (n := 1) (i := 0) (by decide +kernel) rfl rfl ?_
  obtain ⟨g1, h⟩ := h
  refine x_gI (n := 4) (by decide +kernel) oO_342 fF_56_79 g1 (by decide) rfl ?_
  refine w_istore_n (n := 5) (i := 2) (l1' := [some (.ref p0), some (.int x1), some (.int (ak_I M p0 3)), none]) (l2' := []) (by decide +kernel) rfl (Nat.le_of_ble_eq_true rfl) rfl rfl ?_
  refine w_iload_n (n := 6) (i := 2) (by decide +kernel) rfl rfl ?_
  refine w_iload_n (n := 7) (i := 1) (by decide +kernel) rfl rfl ?_
  obtain ⟨v3, M2, hr24, h⟩ := h
  refine w_cS (n := 10) (idx := 245) (cal := 330) (na := 1) (nl := 1) (as := [.int x1]) (rest := [.int (ak_I M p0 3)]) (by decide +kernel) (by decide +kernel) rfl rfl rfl (Nat.le_of_ble_eq_true rfl) rfl hr24 ?_
  refine w_iadd (n := 11) (by decide +kernel) rfl ?_
  refine w_istore_n (n := 12) (i := 3) (l1' := [some (.ref p0), some (.int x1), some (.int (ak_I M p0 3)), some (.int ((ak_I M p0 3) + v3))]) (l2' := []) (by decide +kernel) rfl (Nat.le_of_ble_eq_true rfl) rfl rfl ?_
  refine w_aload_n (n := 13) (i := 0) (by decide +kernel) rfl rfl ?_
  refine w_iload_n (n := 14) (i := 3) (by decide +kernel) rfl rfl ?_
  obtain ⟨g23, h⟩ := h
  obtain ⟨M4, hr22, h⟩ := h
  refine x_cU (n := 17) (idx := 100) (cal := 336) (na := 1) (nl := 2) (as := [.int ((ak_I M p0 3) + v3)]) (rest := []) (kd := 6) g23 (by decide) (by decide +kernel) (by decide +kernel) rfl rfl rfl (Nat.le_of_ble_eq_true rfl) rfl hr22 ?_
  refine w_aload_n (n := 18) (i := 0) (by decide +kernel) rfl rfl ?_
  obtain ⟨g21, h⟩ := h
  obtain ⟨v6, M5, hr20, h⟩ := h
  refine x_cU (n := 21) (idx := 83) (cal := 332) (na := 0) (nl := 1) (as := []) (rest := []) (kd := 6) g21 (by decide) (by decide +kernel) (by decide +kernel) rfl rfl rfl (Nat.le_of_ble_eq_true rfl) rfl hr20 ?_
  by_cases c19 : v6 = 0
  · rw [if_pos c19] at h
    refine w_if_eq_j (n := 37) (off := 16) (by decide +kernel) (by decide) c19 ?_
    refine w_iload_n (n := 38) (i := 1) (by decide +kernel) rfl rfl ?_
    refine w_iload_n (n := 39) (i := 2) (by decide +kernel) rfl rfl ?_
    refine w_iload_n (n := 40) (i := 3) (by decide +kernel) rfl rfl ?_
    refine w_aload_n (n := 41) (i := 0) (by decide +kernel) rfl rfl ?_
    obtain ⟨g7, q9, g8, h⟩ := h
    refine x_gR (n := 44) (by decide +kernel) oO_342 fF_56_15 g7 (by decide) g8 rfl ?_
    exact h.elim
  · rw [if_neg c19] at h
    refine w_if_eq_n (n := 24) (off := 16) (by decide +kernel) rfl c19 ?_
    refine w_iload_n (n := 25) (i := 1) (by decide +kernel) rfl rfl ?_
    refine w_iload_n (n := 26) (i := 3) (by decide +kernel) rfl rfl ?_
    refine w_aload_n (n := 27) (i := 0) (by decide +kernel) rfl rfl ?_
    obtain ⟨g10, q12, g11, h⟩ := h
    refine x_gR (n := 30) (by decide +kernel) oO_342 fF_56_15 g10 (by decide) g11 rfl ?_
    obtain ⟨v14, M13, hr17, h⟩ := h
    refine w_cS (n := 33) (idx := 248) (cal := 331) (na := 3) (nl := 3) (as := [.int x1, .int ((ak_I M p0 3) + v3), .ref q12]) (rest := []) (by decide +kernel) (by decide +kernel) rfl rfl rfl (Nat.le_of_ble_eq_true rfl) rfl hr17 ?_
    refine w_pop_int (n := 34) (by decide +kernel) rfl ?_
    refine w_goto (n := 48) (off := 14) (by decide +kernel) (by decide) ?_
    refine w_aload_n (n := 49) (i := 0) (by decide +kernel) rfl rfl ?_
    refine w_iload_n (n := 50) (i := 3) (by decide +kernel) rfl rfl ?_
    obtain ⟨g16, h⟩ := h
    refine x_pI (n := 53) (by decide +kernel) oO_342 fF_56_79 g16 ⟨by decide, Or.inl (by decide)⟩ rfl (rfl) ?_
    replace h := h _ rfl
    generalize ak_sI M13 p0 3 ((ak_I M p0 3) + v3) = M15 at h ⊢
    refine w_aload_n (n := 54) (i := 0) (by decide +kernel) rfl rfl ?_
    subst h
    exact w_areturn (by decide +kernel) (by decide +kernel)
theorem t_343 {X : ak_X} {M : ak_M} {r : ak_O × ak_M} (p0 : Nat) (p1 : Nat) (h : (ak_rc M p0 = 12 ∧ ∃ (v2 : Nat) (M1 : ak_M), rn X 340 [.ref p0, .ref p1] M (.inl (some (.ref v2)), M1) ∧ r = (.inl (some (.ref p0)), M1))) : rn X 343 [.ref p0, .ref p1] M r := by
  refine w_rn (nL := 2) (l1 := [some (.ref p0), some (.ref p1)]) (by decide +kernel) rfl rfl ?_
  refine w_aload_n (n := 1) (i := 0) (by decide +kernel) rfl rfl ?_
  refine w_aload_n (n := 2) (i := 1) (by decide +kernel) rfl rfl ?_
  obtain ⟨g4, h⟩ := h
  obtain ⟨v2, M1, hr3, h⟩ := h
  refine x_cS (n := 5) (idx := 29) (cal := 340) (na := 1) (nl := 2) (as := [.ref p1]) (rest := []) g4 (by decide +kernel) (by decide +kernel) rfl rfl rfl (Nat.le_of_ble_eq_true rfl) rfl hr3 ?_
  refine w_pop_ref (n := 6) (by decide +kernel) rfl ?_
  refine w_aload_n (n := 7) (i := 0) (by decide +kernel) rfl rfl ?_
  subst h
  exact w_areturn (by decide +kernel) (by decide +kernel)
theorem t_344 {X : ak_X} {M : ak_M} {r : ak_O × ak_M} (p0 : Nat) (x1 : Int32) (h : (ak_rc M p0 = 12 ∧ ∃ (v2 : Nat) (M1 : ak_M), rn X 341 [.ref p0, .int x1] M (.inl (some (.ref v2)), M1) ∧ r = (.inl (some (.ref p0)), M1))) : rn X 344 [.ref p0, .int x1] M r := by
  refine w_rn (nL := 2) (l1 := [some (.ref p0), some (.int x1)]) (by decide +kernel) rfl rfl ?_
  refine w_aload_n (n := 1) (i := 0) (by decide +kernel) rfl rfl ?_
  refine w_iload_n (n := 2) (i := 1) (by decide +kernel) rfl rfl ?_
  obtain ⟨g4, h⟩ := h
  obtain ⟨v2, M1, hr3, h⟩ := h
  refine x_cS (n := 5) (idx := 50) (cal := 341) (na := 1) (nl := 2) (as := [.int x1]) (rest := []) g4 (by decide +kernel) (by decide +kernel) rfl rfl rfl (Nat.le_of_ble_eq_true rfl) rfl hr3 ?_
  refine w_pop_ref (n := 6) (by decide +kernel) rfl ?_
  refine w_aload_n (n := 7) (i := 0) (by decide +kernel) rfl rfl ?_
  subst h
  exact w_areturn (by decide +kernel) (by decide +kernel)
theorem t_345 {X : ak_X} {M : ak_M} {r : ak_O × ak_M} (p0 : Nat) (x1 : Int32) (h : (ak_rc M p0 = 12 ∧ ∃ (v2 : Nat) (M1 : ak_M), rn X 342 [.ref p0, .int x1] M (.inl (some (.ref v2)), M1) ∧ r = (.inl (some (.ref p0)), M1))) : rn X 345 [.ref p0, .int x1] M r := by
  refine w_rn (nL := 2) (l1 := [some (.ref p0), some (.int x1)]) (by decide +kernel) rfl rfl ?_
  refine w_aload_n (n := 1) (i := 0) (by decide +kernel) rfl rfl ?_
  refine w_iload_n (n := 2) (i := 1) (by decide +kernel) rfl rfl ?_
  obtain ⟨g4, h⟩ := h
  obtain ⟨v2, M1, hr3, h⟩ := h
  refine x_cS (n := 5) (idx := 53) (cal := 342) (na := 1) (nl := 2) (as := [.int x1]) (rest := []) g4 (by decide +kernel) (by decide +kernel) rfl rfl rfl (Nat.le_of_ble_eq_true rfl) rfl hr3 ?_
  refine w_pop_ref (n := 6) (by decide +kernel) rfl ?_
  refine w_aload_n (n := 7) (i := 0) (by decide +kernel) rfl rfl ?_
  subst h
  exact w_areturn (by decide +kernel) (by decide +kernel)
theorem t_346 {X : ak_X} {M : ak_M} {r : ak_O × ak_M} (p0 : Nat) (p1 : Nat) (h : (ak_rc M p0 = 12 ∧ ∃ (v2 : Nat) (M1 : ak_M), rn X 343 [.ref p0, .ref p1] M (.inl (some (.ref v2)), M1) ∧ r = (.inl (some (.ref v2)), M1))) : rn X 346 [.ref p0, .ref p1] M r := by
  refine w_rn (nL := 2) (l1 := [some (.ref p0), some (.ref p1)]) (by decide +kernel) rfl rfl ?_
  refine w_aload_n (n := 1) (i := 0) (by decide +kernel) rfl rfl ?_
  refine w_aload_n (n := 2) (i := 1) (by decide +kernel) rfl rfl ?_
  obtain ⟨g4, h⟩ := h
  obtain ⟨v2, M1, hr3, h⟩ := h
  refine w_cVr (n := 5) (idx := 23) (cal := 343) (na := 1) (nl := 2) (as := [.ref p1]) (rest := []) (g4.trans (by decide +kernel)) (by decide +kernel) (by decide +kernel) rfl rfl rfl (Nat.le_of_ble_eq_true rfl) rfl hr3 ?_
  subst h
  exact w_areturn (by decide +kernel) (by decide +kernel)
theorem t_347 {X : ak_X} {M : ak_M} {r : ak_O × ak_M} (p0 : Nat) (h : (ak_rc M p0 = 12 ∧ ∃ (v2 : Int32) (M1 : ak_M), rn X 334 [.ref p0] M (.inl (some (.int v2)), M1) ∧ r = (.inl (some (.int v2)), M1))) : rn X 347 [.ref p0] M r := by
  refine w_rn (nL := 1) (l1 := [some (.ref p0)]) (by decide +kernel) rfl rfl ?_
  refine w_aload_n (n := 1) (i := 0) (by decide +kernel) rfl rfl ?_
  obtain ⟨g4, h⟩ := h
  obtain ⟨v2, M1, hr3, h⟩ := h
  refine x_cS (n := 4) (idx := 343) (cal := 334) (na := 0) (nl := 1) (as := []) (rest := []) g4 (by decide +kernel) (by decide +kernel) rfl rfl rfl (Nat.le_of_ble_eq_true rfl) rfl hr3 ?_
  subst h
  exact w_ireturn (by decide +kernel) (w_okI (by decide +kernel))
theorem t_348 {X : ak_X} {M : ak_M} {r : ak_O × ak_M} (p0 : Nat) (p1 : Nat) (h : (ak_rc M p1 = 13 ∧ ∃ (v2 : Int32) (M1 : ak_M), rn X 317 [.ref p1] M (.inl (some (.int v2)), M1) ∧ (if 2147483631 ≤ v2 then (ak_rc M1 p1 = 13 ∧ ∃ (v4 : Int32) (M3 : ak_M), rn X 319 [.ref p1] M1 (.inl (some (.int v4)), M3) ∧ (((p0 < ak_P M3 ∧ ak_K M3 p0 = 12) ∧ ak_isB v4 = true) ∧ ∀ M5 : ak_M, M5 = ak_sI M3 p0 1 v4 → (if v4 = 0 then ((ak_P M5 < 900000 ∧ ¬ (2147483647 : Int32) < 0 ∧ (2147483647 : Int32).toNatClampNeg ≤ 60000000) ∧ ∀ M7 : ak_M, M7 = ak_new M5 101 (2147483647 : Int32).toNatClampNeg (2147483647 : Int32).toNatClampNeg → (((p0 < ak_P M7 ∧ ak_K M7 p0 = 12) ∧ ak_P M5 < ak_P M7) ∧ ∀ M9 : ak_M, M9 = ak_sR M7 p0 0 (some (ak_P M5)) → (ak_rc M9 p0 = 12 ∧ ∃ (v12 : Nat) (M11 : ak_M), rn X 346 [.ref p0, .ref p1] M9 (.inl (some (.ref v12)), M11) ∧ r = (.inl none, M11)))) else False))) else (ak_rc M1 p1 = 13 ∧ ∃ (v19 : Int32) (M18 : ak_M), rn X 319 [.ref p1] M1 (.inl (some (.int v19)), M18) ∧ (((p0 < ak_P M18 ∧ ak_K M18 p0 = 12) ∧ ak_isB v19 = true) ∧ ∀ M20 : ak_M, M20 = ak_sI M18 p0 1 v19 → (if v19 = 0 then ((ak_P M20 < 900000 ∧ ¬ (v2 + 16) < 0 ∧ (v2 + 16).toNatClampNeg ≤ 60000000) ∧ ∀ M22 : ak_M, M22 = ak_new M20 101 (v2 + 16).toNatClampNeg (v2 + 16).toNatClampNeg → (((p0 < ak_P M22 ∧ ak_K M22 p0 = 12) ∧ ak_P M20 < ak_P M22) ∧ ∀ M24 : ak_M, M24 = ak_sR M22 p0 0 (some (ak_P M20)) → (ak_rc M24 p0 = 12 ∧ ∃ (v27 : Nat) (M26 : ak_M), rn X 346 [.ref p0, .ref p1] M24 (.inl (some (.ref v27)), M26) ∧ r = (.inl none, M26)))) else False)))))) : rn X 348 [.ref p0, .ref p1] M r := by
  refine w_rn (nL := 5) (l1 := [some (.ref p0), some (.ref p1), none, none, none]) (by decide +kernel) rfl rfl ?_
  refine w_aload_n (n := 1) (i := 0) (by decide +kernel) rfl rfl ?_
  refine x_obi (n := 4) (idx := 3) (by decide +kernel) (cal := 0) (z := (1006, 64, 65, 0)) (by decide +kernel) (Nat.le_of_ble_eq_true rfl) rfl ?_
  refine w_aload_n (n := 5) (i := 1) (by decide +kernel) rfl rfl ?_
  obtain ⟨g35, h⟩ := h
  obtain ⟨v2, M1, hr34, h⟩ := h
  refine w_cVr (n := 8) (idx := 32) (cal := 317) (na := 0) (nl := 1) (as := []) (rest := []) (g35.trans (by decide +kernel)) (by decide +kernel) (by decide +kernel) rfl rfl rfl (Nat.le_of_ble_eq_true rfl) rfl hr34 ?_
  refine w_istore_n (n := 9) (i := 2) (l1' := [some (.ref p0), some (.ref p1), some (.int v2), none, none]) (l2' := []) (by decide +kernel) rfl (Nat.le_of_ble_eq_true rfl) rfl rfl ?_
  refine w_iload_n (n := 10) (i := 2) (by decide +kernel) rfl rfl ?_
  refine x_ldcI (n := 12) (idx := 38) (v := 2147483631) (by decide +kernel) oO_348 (by decide +kernel) (by decide +kernel) rfl ?_
  by_cases c33 : 2147483631 ≤ v2
  · rw [if_pos c33] at h
    refine w_icmp_ge_j (n := 22) (off := 10) (by decide +kernel) (by decide) c33 ?_
    refine x_ldcI (n := 24) (idx := 39) (v := 2147483647) (by decide +kernel) oO_348 (by decide +kernel) (by decide +kernel) rfl ?_
    refine w_istore_n (n := 25) (i := 3) (l1' := [some (.ref p0), some (.ref p1), some (.int v2), some (.int 2147483647), none]) (l2' := []) (by decide +kernel) rfl (Nat.le_of_ble_eq_true rfl) rfl rfl ?_
    refine w_aload_n (n := 26) (i := 1) (by decide +kernel) rfl rfl ?_
    obtain ⟨g17, h⟩ := h
    obtain ⟨v4, M3, hr16, h⟩ := h
    refine w_cVr (n := 29) (idx := 40) (cal := 319) (na := 0) (nl := 1) (as := []) (rest := []) (g17.trans (by decide +kernel)) (by decide +kernel) (by decide +kernel) rfl rfl rfl (Nat.le_of_ble_eq_true rfl) rfl hr16 ?_
    refine w_istore (n := 31) (i := 4) (l1' := [some (.ref p0), some (.ref p1), some (.int v2), some (.int 2147483647), some (.int v4)]) (l2' := []) (by decide +kernel) rfl (Nat.le_of_ble_eq_true rfl) rfl rfl ?_
    refine w_aload_n (n := 32) (i := 0) (by decide +kernel) rfl rfl ?_
    refine w_iload (n := 34) (i := 4) (by decide +kernel) rfl rfl ?_
    obtain ⟨g6, h⟩ := h
    refine x_pI (n := 37) (by decide +kernel) oO_348 fF_56_22 g6.1 ⟨by decide, Or.inr (Or.inr ⟨by decide, g6.2⟩)⟩ rfl (rfl) ?_
    replace h := h _ rfl
    generalize ak_sI M3 p0 1 v4 = M5 at h ⊢
    refine w_aload_n (n := 38) (i := 0) (by decide +kernel) rfl rfl ?_
    refine w_iload (n := 40) (i := 4) (by decide +kernel) rfl rfl ?_
    by_cases c15 : v4 = 0
    · rw [if_pos c15] at h
      refine w_if_ne_n (n := 43) (off := 9) (by decide +kernel) rfl c15 ?_
      refine w_iload_n (n := 44) (i := 3) (by decide +kernel) rfl rfl ?_
      obtain ⟨g8, h⟩ := h
      refine x_nB (n := 46) (by decide +kernel) g8 rfl (rfl) ?_
      replace h := h _ rfl
      generalize ak_new M5 101 (2147483647 : Int32).toNatClampNeg (2147483647 : Int32).toNatClampNeg = M7 at h ⊢
      refine w_goto (n := 53) (off := 7) (by decide +kernel) (by decide) ?_
      obtain ⟨g10, h⟩ := h
      refine x_pR (n := 56) (by decide +kernel) oO_348 fF_56_15 g10.1 (by decide) g10.2 rfl (rfl) ?_
      replace h := h _ rfl
      generalize ak_sR M7 p0 0 (some (ak_P M5)) = M9 at h ⊢
      refine w_aload_n (n := 57) (i := 0) (by decide +kernel) rfl rfl ?_
      refine w_aload_n (n := 58) (i := 1) (by decide +kernel) rfl rfl ?_
      obtain ⟨g14, h⟩ := h
      obtain ⟨v12, M11, hr13, h⟩ := h
      refine x_cU (n := 61) (idx := 43) (cal := 346) (na := 1) (nl := 2) (as := [.ref p1]) (rest := []) (kd := 8) g14 (by decide) (by decide +kernel) (by decide +kernel) rfl rfl rfl (Nat.le_of_ble_eq_true rfl) rfl hr13 ?_
      refine w_pop_ref (n := 62) (by decide +kernel) rfl ?_
      subst h
      exact w_vreturn (by decide +kernel) (by decide +kernel)
    · rw [if_neg c15] at h
      refine w_if_ne_j (n := 49) (off := 9) (by decide +kernel) (by decide) c15 ?_
      refine w_iload_n (n := 50) (i := 3) (by decide +kernel) rfl rfl ?_
      exact h.elim
  · rw [if_neg c33] at h
    refine w_icmp_ge_n (n := 15) (off := 10) (by decide +kernel) rfl c33 ?_
    refine w_iload_n (n := 16) (i := 2) (by decide +kernel) rfl rfl ?_
    refine w_bipush (n := 18) (v := 16) (x := 16) (by decide +kernel) rfl (by decide) ?_
    refine w_iadd (n := 19) (by decide +kernel) rfl ?_
    refine w_goto (n := 24) (off := 5) (by decide +kernel) (by decide) ?_
    refine w_istore_n (n := 25) (i := 3) (l1' := [some (.ref p0), some (.ref p1), some (.int v2), some (.int (v2 + 16)), none]) (l2' := []) (by decide +kernel) rfl (Nat.le_of_ble_eq_true rfl) rfl rfl ?_
    refine w_aload_n (n := 26) (i := 1) (by decide +kernel) rfl rfl ?_
    obtain ⟨g32, h⟩ := h
    obtain ⟨v19, M18, hr31, h⟩ := h
    refine w_cVr (n := 29) (idx := 40) (cal := 319) (na := 0) (nl := 1) (as := []) (rest := []) (g32.trans (by decide +kernel)) (by decide +kernel) (by decide +kernel) rfl rfl rfl (Nat.le_of_ble_eq_true rfl) rfl hr31 ?_
    refine w_istore (n := 31) (i := 4) (l1' := [some (.ref p0), some (.ref p1), some (.int v2), some (.int (v2 + 16)), some (.int v19)]) (l2' := []) (by decide +kernel) rfl (Nat.le_of_ble_eq_true rfl) rfl rfl ?_
    refine w_aload_n (n := 32) (i := 0) (by decide +kernel) rfl rfl ?_
    refine w_iload (n := 34) (i := 4) (by decide +kernel) rfl rfl ?_
    obtain ⟨g21, h⟩ := h
    refine x_pI (n := 37) (by decide +kernel) oO_348 fF_56_22 g21.1 ⟨by decide, Or.inr (Or.inr ⟨by decide, g21.2⟩)⟩ rfl (rfl) ?_
    replace h := h _ rfl
    generalize ak_sI M18 p0 1 v19 = M20 at h ⊢
    refine w_aload_n (n := 38) (i := 0) (by decide +kernel) rfl rfl ?_
    refine w_iload (n := 40) (i := 4) (by decide +kernel) rfl rfl ?_
    by_cases c30 : v19 = 0
    · rw [if_pos c30] at h
      refine w_if_ne_n (n := 43) (off := 9) (by decide +kernel) rfl c30 ?_
      refine w_iload_n (n := 44) (i := 3) (by decide +kernel) rfl rfl ?_
      obtain ⟨g23, h⟩ := h
      refine x_nB (n := 46) (by decide +kernel) g23 rfl (rfl) ?_
      replace h := h _ rfl
      generalize ak_new M20 101 (v2 + 16).toNatClampNeg (v2 + 16).toNatClampNeg = M22 at h ⊢
      refine w_goto (n := 53) (off := 7) (by decide +kernel) (by decide) ?_
      obtain ⟨g25, h⟩ := h
      refine x_pR (n := 56) (by decide +kernel) oO_348 fF_56_15 g25.1 (by decide) g25.2 rfl (rfl) ?_
      replace h := h _ rfl
      generalize ak_sR M22 p0 0 (some (ak_P M20)) = M24 at h ⊢
      refine w_aload_n (n := 57) (i := 0) (by decide +kernel) rfl rfl ?_
      refine w_aload_n (n := 58) (i := 1) (by decide +kernel) rfl rfl ?_
      obtain ⟨g29, h⟩ := h
      obtain ⟨v27, M26, hr28, h⟩ := h
      refine x_cU (n := 61) (idx := 43) (cal := 346) (na := 1) (nl := 2) (as := [.ref p1]) (rest := []) (kd := 8) g29 (by decide) (by decide +kernel) (by decide +kernel) rfl rfl rfl (Nat.le_of_ble_eq_true rfl) rfl hr28 ?_
      refine w_pop_ref (n := 62) (by decide +kernel) rfl ?_
      subst h
      exact w_vreturn (by decide +kernel) (by decide +kernel)
    · rw [if_neg c30] at h
      refine w_if_ne_j (n := 49) (off := 9) (by decide +kernel) (by decide) c30 ?_
      refine w_iload_n (n := 50) (i := 3) (by decide +kernel) rfl rfl ?_
      exact h.elim
theorem t_349 {X : ak_X} {M : ak_M} {r : ak_O × ak_M} (p0 : Nat) (p1 : Nat) (h : (∃ (M1 : ak_M), rn X 348 [.ref p0, .ref p1] M (.inl (none), M1) ∧ r = (.inl none, M1))) : rn X 349 [.ref p0, .ref p1] M r := by
  refine w_rn (nL := 2) (l1 := [some (.ref p0), some (.ref p1)]) (by decide +kernel) rfl rfl ?_
  refine w_aload_n (n := 1) (i := 0) (by decide +kernel) rfl rfl ?_
  refine w_aload_n (n := 2) (i := 1) (by decide +kernel) rfl rfl ?_
  obtain ⟨M1, hr2, h⟩ := h
  refine w_cI (n := 5) (idx := 7) (cal := 348) (na := 1) (nl := 2) (as := [.ref p1]) (rest := []) (by decide +kernel) (by decide +kernel) rfl rfl rfl (Nat.le_of_ble_eq_true rfl) rfl hr2 ?_
  subst h
  exact w_vreturn (by decide +kernel) (by decide +kernel)
theorem t_350 {X : ak_X} {M : ak_M} {r : ak_O × ak_M} (p0 : Nat) (p1 : Nat) (h : (ak_rc M p1 = 12 ∧ ∃ (v2 : Nat) (M1 : ak_M), rn X 333 [.ref p1] M (.inl (some (.ref v2)), M1) ∧ (ak_rc M1 p1 = 12 ∧ ∃ (v4 : Int32) (M3 : ak_M), rn X 347 [.ref p1] M1 (.inl (some (.int v4)), M3) ∧ (ak_rc M3 p1 = 12 ∧ ∃ (v6 : Int32) (M5 : ak_M), rn X 332 [.ref p1] M3 (.inl (some (.int v6)), M5) ∧ (if v6 = 0 then ((p1 < ak_P M5 ∧ ak_K M5 p1 = 12) ∧ (if ak_I M5 p1 2 = 0 then (((p0 < ak_P M5 ∧ ak_K M5 p0 = 13) ∧ ak_isB 1 = true) ∧ ∀ M8 : ak_M, M8 = ak_sI M5 p0 1 1 → (∃ (v11 : Nat) (M10 : ak_M), rn X 329 [.ref v2, .int 0, .int (v4 <<< (1 &&& 31))] M8 (.inl (some (.ref v11)), M10) ∧ (((p0 < ak_P M10 ∧ ak_K M10 p0 = 13) ∧ v11 < ak_P M10) ∧ ∀ M12 : ak_M, M12 = ak_sR M10 p0 0 (some v11) → r = (.inl none, M12)))) else False)) else (((p0 < ak_P M5 ∧ ak_K M5 p0 = 13) ∧ ak_isB 0 = true) ∧ ∀ M17 : ak_M, M17 = ak_sI M5 p0 1 0 → (∃ (v20 : Nat) (M19 : ak_M), rn X 329 [.ref v2, .int 0, .int v4] M17 (.inl (some (.ref v20)), M19) ∧ (((p0 < ak_P M19 ∧ ak_K M19 p0 = 13) ∧ v20 < ak_P M19) ∧ ∀ M21 : ak_M, M21 = ak_sR M19 p0 0 (some v20) → r = (.inl none, M21))))))))) : rn X 350 [.ref p0, .ref p1, .null] M r := by
  refine w_rn (nL := 5) (l1 := [some (.ref p0), some (.ref p1), some .null, none, none]) (by decide +kernel) rfl rfl ?_
  refine w_aload_n (n := 1) (i := 0) (by decide +kernel) rfl rfl ?_
  refine x_obi (n := 4) (idx := 1) (by decide +kernel) (cal := 0) (z := (1192, 64, 65, 0)) (by decide +kernel) (Nat.le_of_ble_eq_true rfl) rfl ?_
  refine w_aload_n (n := 5) (i := 1) (by decide +kernel) rfl rfl ?_
  obtain ⟨g31, h⟩ := h
  obtain ⟨v2, M1, hr30, h⟩ := h
  refine x_cU (n := 8) (idx := 552) (cal := 333) (na := 0) (nl := 1) (as := []) (rest := []) (kd := 6) g31 (by decide) (by decide +kernel) (by decide +kernel) rfl rfl rfl (Nat.le_of_ble_eq_true rfl) rfl hr30 ?_
  refine w_astore_n (n := 9) (i := 3) (l1' := [some (.ref p0), some (.ref p1), some .null, some (.ref v2), none]) (l2' := []) (by decide +kernel) rfl (Nat.le_of_ble_eq_true rfl) rfl rfl ?_
  refine w_aload_n (n := 10) (i := 1) (by decide +kernel) rfl rfl ?_
  obtain ⟨g29, h⟩ := h
  obtain ⟨v4, M3, hr28, h⟩ := h
  refine x_cU (n := 13) (idx := 549) (cal := 347) (na := 0) (nl := 1) (as := []) (rest := []) (kd := 8) g29 (by decide) (by decide +kernel) (by decide +kernel) rfl rfl rfl (Nat.le_of_ble_eq_true rfl) rfl hr28 ?_
  refine w_istore (n := 15) (i := 4) (l1' := [some (.ref p0), some (.ref p1), some .null, some (.ref v2), some (.int v4)]) (l2' := []) (by decide +kernel) rfl (Nat.le_of_ble_eq_true rfl) rfl rfl ?_
  refine w_aload_n (n := 16) (i := 1) (by decide +kernel) rfl rfl ?_
  obtain ⟨g27, h⟩ := h
  obtain ⟨v6, M5, hr26, h⟩ := h
  refine x_cU (n := 19) (idx := 1047) (cal := 332) (na := 0) (nl := 1) (as := []) (rest := []) (kd := 6) g27 (by decide) (by decide +kernel) (by decide +kernel) rfl rfl rfl (Nat.le_of_ble_eq_true rfl) rfl hr26 ?_
  by_cases c25 : v6 = 0
  · rw [if_pos c25] at h
    refine w_if_eq_j (n := 41) (off := 22) (by decide +kernel) (by decide) c25 ?_
    refine x_sta1 (n := 44) (by decide +kernel) oO_350 fS_50_38 rfl ?_
    refine w_if_eq_n (n := 47) (off := 35) (by decide +kernel) rfl (by decide) ?_
    refine w_aload_n (n := 48) (i := 1) (by decide +kernel) rfl rfl ?_
    obtain ⟨g7, h⟩ := h
    refine x_gI (n := 51) (by decide +kernel) oO_350 fF_50_1048 g7 (by decide) rfl ?_
    by_cases c16 : ak_I M5 p1 2 = 0
    · rw [if_pos c16] at h
      refine w_if_eq_j (n := 79) (off := 28) (by decide +kernel) (by decide) c16 ?_
      refine w_aload_n (n := 80) (i := 0) (by decide +kernel) rfl rfl ?_
      refine w_iconst (n := 81) (v := 1) (x := 1) (by decide +kernel) rfl (by decide) ?_
      obtain ⟨g9, h⟩ := h
      refine x_pI (n := 84) (by decide +kernel) oO_350 fF_50_15 g9.1 ⟨by decide, Or.inr (Or.inr ⟨by decide, g9.2⟩)⟩ rfl (rfl) ?_
      replace h := h _ rfl
      generalize ak_sI M5 p0 1 1 = M8 at h ⊢
      refine w_aload_n (n := 85) (i := 0) (by decide +kernel) rfl rfl ?_
      refine w_aload_n (n := 86) (i := 3) (by decide +kernel) rfl rfl ?_
      refine w_iconst (n := 87) (v := 0) (x := 0) (by decide +kernel) rfl (by decide) ?_
      refine w_iload (n := 89) (i := 4) (by decide +kernel) rfl rfl ?_
      refine w_iconst (n := 90) (v := 1) (x := 1) (by decide +kernel) rfl (by decide) ?_
      refine w_ishl (n := 91) (by decide +kernel) rfl ?_
      obtain ⟨v11, M10, hr14, h⟩ := h
      refine w_cS (n := 94) (idx := 54) (cal := 329) (na := 3) (nl := 3) (as := [.ref v2, .int 0, .int (v4 <<< (1 &&& 31))]) (rest := [.ref p0]) (by decide +kernel) (by decide +kernel) rfl rfl rfl (Nat.le_of_ble_eq_true rfl) rfl hr14 ?_
      obtain ⟨g13, h⟩ := h
      refine x_pR (n := 97) (by decide +kernel) oO_350 fF_50_9 g13.1 (by decide) g13.2 rfl (rfl) ?_
      replace h := h _ rfl
      generalize ak_sR M10 p0 0 (some v11) = M12 at h ⊢
      subst h
      exact w_vreturn (by decide +kernel) (by decide +kernel)
    · rw [if_neg c16] at h
      refine w_if_eq_n (n := 54) (off := 28) (by decide +kernel) rfl c16 ?_
      refine w_aload_n (n := 55) (i := 0) (by decide +kernel) rfl rfl ?_
      refine w_aload_n (n := 56) (i := 3) (by decide +kernel) rfl rfl ?_
      refine w_iconst (n := 57) (v := 0) (x := 0) (by decide +kernel) rfl (by decide) ?_
      refine w_iload (n := 59) (i := 4) (by decide +kernel) rfl rfl ?_
      exact h.elim
  · rw [if_neg c25] at h
    refine w_if_eq_n (n := 22) (off := 22) (by decide +kernel) rfl c25 ?_
    refine w_aload_n (n := 23) (i := 0) (by decide +kernel) rfl rfl ?_
    refine w_iconst (n := 24) (v := 0) (x := 0) (by decide +kernel) rfl (by decide) ?_
    obtain ⟨g18, h⟩ := h
    refine x_pI (n := 27) (by decide +kernel) oO_350 fF_50_15 g18.1 ⟨by decide, Or.inr (Or.inr ⟨by decide, g18.2⟩)⟩ rfl (rfl) ?_
    replace h := h _ rfl
    generalize ak_sI M5 p0 1 0 = M17 at h ⊢
    refine w_aload_n (n := 28) (i := 0) (by decide +kernel) rfl rfl ?_
    refine w_aload_n (n := 29) (i := 3) (by decide +kernel) rfl rfl ?_
    refine w_iconst (n := 30) (v := 0) (x := 0) (by decide +kernel) rfl (by decide) ?_
    refine w_iload (n := 32) (i := 4) (by decide +kernel) rfl rfl ?_
    obtain ⟨v20, M19, hr23, h⟩ := h
    refine w_cS (n := 35) (idx := 54) (cal := 329) (na := 3) (nl := 3) (as := [.ref v2, .int 0, .int v4]) (rest := [.ref p0]) (by decide +kernel) (by decide +kernel) rfl rfl rfl (Nat.le_of_ble_eq_true rfl) rfl hr23 ?_
    obtain ⟨g22, h⟩ := h
    refine x_pR (n := 38) (by decide +kernel) oO_350 fF_50_9 g22.1 (by decide) g22.2 rfl (rfl) ?_
    replace h := h _ rfl
    generalize ak_sR M19 p0 0 (some v20) = M21 at h ⊢
    refine w_goto (n := 97) (off := 59) (by decide +kernel) (by decide) ?_
    subst h
    exact w_vreturn (by decide +kernel) (by decide +kernel)
theorem t_351 {X : ak_X} {M : ak_M} {r : ak_O × ak_M} (p0 : Nat) (p1 : Nat) (h : (∃ (M1 : ak_M), rn X 350 [.ref p0, .ref p1, .null] M (.inl (none), M1) ∧ r = (.inl none, M1))) : rn X 351 [.ref p0, .ref p1] M r := by
  refine w_rn (nL := 2) (l1 := [some (.ref p0), some (.ref p1)]) (by decide +kernel) rfl rfl ?_
  refine w_aload_n (n := 1) (i := 0) (by decide +kernel) rfl rfl ?_
  refine w_aload_n (n := 2) (i := 1) (by decide +kernel) rfl rfl ?_
  refine x_null (n := 3) (by decide +kernel) rfl ?_
  obtain ⟨M1, hr2, h⟩ := h
  refine w_cI (n := 6) (idx := 489) (cal := 350) (na := 2) (nl := 3) (as := [.ref p1, .null]) (rest := []) (by decide +kernel) (by decide +kernel) rfl rfl rfl (Nat.le_of_ble_eq_true rfl) rfl hr2 ?_
  subst h
  exact w_vreturn (by decide +kernel) (by decide +kernel)
theorem t_352 {X : ak_X} {M : ak_M} {r : ak_O × ak_M} (p0 : Nat) (h : ((ak_P M < 900000) ∧ ∀ M1 : ak_M, M1 = ak_new M 13 0 (am_nf 13) → (∃ (M3 : ak_M), rn X 351 [.ref (ak_P M), .ref p0] M1 (.inl (none), M3) ∧ r = (.inl (some (.ref (ak_P M))), M3)))) : rn X 352 [.ref p0] M r := by
  refine w_rn (nL := 1) (l1 := [some (.ref p0)]) (by decide +kernel) rfl rfl ?_
  obtain ⟨g2, h⟩ := h
  refine x_nO (n := 3) (idx := 18) (ci := 13) (z := (1184, 1185, 43)) (by decide +kernel) oO_352 (by decide +kernel) g2 rfl (rfl) ?_
  replace h := h _ rfl
  generalize ak_new M 13 0 (am_nf 13) = M1 at h ⊢
  refine w_dup_ref (n := 4) (by decide +kernel) rfl ?_
  refine w_aload_n (n := 5) (i := 0) (by decide +kernel) rfl rfl ?_
  obtain ⟨M3, hr4, h⟩ := h
  refine w_cI (n := 8) (idx := 137) (cal := 351) (na := 1) (nl := 2) (as := [.ref p0]) (rest := [.ref (ak_P M)]) (by decide +kernel) (by decide +kernel) rfl rfl rfl (Nat.le_of_ble_eq_true rfl) rfl hr4 ?_
  subst h
  exact w_areturn (by decide +kernel) (by decide +kernel)
