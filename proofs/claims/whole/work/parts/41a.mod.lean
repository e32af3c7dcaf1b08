/-! the walk of the model, 1, laid by wip/whole/walk.py -/
theorem t_154 {X : ak_X} {M : ak_M} {r : ak_O × ak_M} (hL : ab_lay M) (h : r = (.inl (some (.int (ak_I M 483 0))), M)) : rn X 154 [.ref 483] M r := by
  refine w_rn (nL := 1) (l1 := [some (.ref 483)]) (by decide +kernel) rfl rfl ?_
  refine w_aload_n (n := 1) (i := 0) (by decide +kernel) rfl rfl ?_
  refine w_getI (n := 4) hL (by decide +kernel) oO_154 fF_12_62 (at_483) (by decide) rfl ?_
  subst h
  exact w_ireturn (by decide +kernel) (w_okI (by decide +kernel))
theorem t_155 {X : ak_X} {M : ak_M} {r : ak_O × ak_M} (hL : ab_lay M) (x1 : Int32) (h : (if x1 = 0 then (∀ M1 : ak_M, M1 = ak_sI M 483 0 1 → ((x1 = 0 ∨ x1 = 1) ∧ r = (.inl (some (.int x1)), M1))) else (∀ M3 : ak_M, M3 = ak_sI M 483 0 0 → ((x1 = 0 ∨ x1 = 1) ∧ r = (.inl (some (.int x1)), M3))))) : rn X 155 [.ref 483, .int x1] M r := by
  refine w_rn (nL := 2) (l1 := [some (.ref 483), some (.int x1)]) (by decide +kernel) rfl rfl ?_
  refine w_aload_n (n := 1) (i := 0) (by decide +kernel) rfl rfl ?_
  refine w_iload_n (n := 2) (i := 1) (by decide +kernel) rfl rfl ?_
  by_cases c5 : x1 = 0
  · rw [if_pos c5] at h
    refine w_if_eq_j (n := 9) (off := 7) (by decide +kernel) (by decide) c5 ?_
    refine w_iconst (n := 10) (v := 1) (x := 1) (by decide +kernel) rfl (by decide) ?_
    refine w_putI (n := 13) hL (by decide +kernel) oO_155 fF_12_62 (at_483) ⟨by decide, Or.inl (by decide)⟩ rfl ?_
    generalize eM1 : ak_sI M 483 0 1 = M1
    have hLM1 : ab_lay M1 := by rw [← eM1]; exact ab_lay.sI hL
    replace h := h M1 eM1.symm
    refine w_iload_n (n := 14) (i := 1) (by decide +kernel) rfl rfl ?_
    obtain ⟨g2, rfl⟩ := h
    exact w_ireturn (by decide +kernel) (w_okZ (by decide +kernel) g2)
  · rw [if_neg c5] at h
    refine w_if_eq_n (n := 5) (off := 7) (by decide +kernel) rfl c5 ?_
    refine w_iconst (n := 6) (v := 0) (x := 0) (by decide +kernel) rfl (by decide) ?_
    refine w_goto (n := 10) (off := 4) (by decide +kernel) (by decide) ?_
    refine w_putI (n := 13) hL (by decide +kernel) oO_155 fF_12_62 (at_483) ⟨by decide, Or.inl (by decide)⟩ rfl ?_
    generalize eM3 : ak_sI M 483 0 0 = M3
    have hLM3 : ab_lay M3 := by rw [← eM3]; exact ab_lay.sI hL
    replace h := h M3 eM3.symm
    refine w_iload_n (n := 14) (i := 1) (by decide +kernel) rfl rfl ?_
    obtain ⟨g4, rfl⟩ := h
    exact w_ireturn (by decide +kernel) (w_okZ (by decide +kernel) g4)
theorem t_156 {X : ak_X} {M : ak_M} {r : ak_O × ak_M} (hL : ab_lay M) (x1 : Int32) (x2 : Int32) (h : (if x1 = 0 then (∀ M1 : ak_M, M1 = ak_sI M 483 0 x2 → ((x1 = 0 ∨ x1 = 1) ∧ r = (.inl (some (.int x1)), M1))) else (∀ M3 : ak_M, M3 = ak_sI M 483 0 0 → ((x1 = 0 ∨ x1 = 1) ∧ r = (.inl (some (.int x1)), M3))))) : rn X 156 [.ref 483, .int x1, .int x2] M r := by
  refine w_rn (nL := 3) (l1 := [some (.ref 483), some (.int x1), some (.int x2)]) (by decide +kernel) rfl rfl ?_
  refine w_aload_n (n := 1) (i := 0) (by decide +kernel) rfl rfl ?_
  refine w_iload_n (n := 2) (i := 1) (by decide +kernel) rfl rfl ?_
  by_cases c5 : x1 = 0
  · rw [if_pos c5] at h
    refine w_if_eq_j (n := 9) (off := 7) (by decide +kernel) (by decide) c5 ?_
    refine w_iload_n (n := 10) (i := 2) (by decide +kernel) rfl rfl ?_
    refine w_putI (n := 13) hL (by decide +kernel) oO_156 fF_12_62 (at_483) ⟨by decide, Or.inl (by decide)⟩ rfl ?_
    generalize eM1 : ak_sI M 483 0 x2 = M1
    have hLM1 : ab_lay M1 := by rw [← eM1]; exact ab_lay.sI hL
    replace h := h M1 eM1.symm
    refine w_iload_n (n := 14) (i := 1) (by decide +kernel) rfl rfl ?_
    obtain ⟨g2, rfl⟩ := h
    exact w_ireturn (by decide +kernel) (w_okZ (by decide +kernel) g2)
  · rw [if_neg c5] at h
    refine w_if_eq_n (n := 5) (off := 7) (by decide +kernel) rfl c5 ?_
    refine w_iconst (n := 6) (v := 0) (x := 0) (by decide +kernel) rfl (by decide) ?_
    refine w_goto (n := 10) (off := 4) (by decide +kernel) (by decide) ?_
    refine w_putI (n := 13) hL (by decide +kernel) oO_156 fF_12_62 (at_483) ⟨by decide, Or.inl (by decide)⟩ rfl ?_
    generalize eM3 : ak_sI M 483 0 0 = M3
    have hLM3 : ab_lay M3 := by rw [← eM3]; exact ab_lay.sI hL
    replace h := h M3 eM3.symm
    refine w_iload_n (n := 14) (i := 1) (by decide +kernel) rfl rfl ?_
    obtain ⟨g4, rfl⟩ := h
    exact w_ireturn (by decide +kernel) (w_okZ (by decide +kernel) g4)
theorem t_158 {X : ak_X} {M : ak_M} {r : ak_O × ak_M} (hL : ab_lay M) {p0 : Nat} (hp0 : ab_ar p0) {p1 : Nat} (hp1 : ab_ar p1) (h : sg X 158 (2, [some (.ref p0), some (.ref p1), some (.int 0)], [], []) M r) : rn X 158 [.ref p0, .ref p1] M r := by
  refine w_rn (nL := 3) (l1 := [some (.ref p0), some (.ref p1), none]) (by decide +kernel) rfl rfl ?_
  refine w_iconst (n := 1) (v := 0) (x := 0) (by decide +kernel) rfl (by decide) ?_
  refine w_istore_n (n := 2) (i := 2) (l1' := [some (.ref p0), some (.ref p1), some (.int 0)]) (l2' := []) (by decide +kernel) rfl (Nat.le_of_ble_eq_true rfl) rfl rfl ?_
  exact h
theorem t_158_2 {X : ak_X} {M : ak_M} {r : ak_O × ak_M} (hL : ab_lay M) {p0 : Nat} (hp0 : ab_ar p0) {p1 : Nat} (hp1 : ab_ar p1) (y2 : Int32) (h : (if 245 ≤ y2 then r = (.inl none, M) else (∃ i1 : Nat, ab_ix y2 i1 245 ∧ (∃ i2 : Nat, ab_ix y2 i2 245 ∧ (∀ M3 : ak_M, M3 = ak_sI M p1 i2 (ak_I M p0 i1) → sg X 158 (2, [some (.ref p0), some (.ref p1), some (.int (y2 + 1))], [], []) M3 r))))) : sg X 158 (2, [some (.ref p0), some (.ref p1), some (.int y2)], [], []) M r := by
  refine w_iload_n (n := 3) (i := 2) (by decide +kernel) rfl rfl ?_
  refine w_sipush (n := 6) (v := 245) (x := 245) (by decide +kernel) rfl (by decide) ?_
  by_cases c4 : 245 ≤ y2
  · rw [if_pos c4] at h
    refine w_icmp_ge_j (n := 21) (off := 15) (by decide +kernel) (by decide) c4 ?_
    subst h
    exact w_vreturn (by decide +kernel) (by decide +kernel)
  · rw [if_neg c4] at h
    refine w_icmp_ge_n (n := 9) (off := 15) (by decide +kernel) rfl c4 ?_
    refine w_aload_n (n := 10) (i := 1) (by decide +kernel) rfl rfl ?_
    refine w_iload_n (n := 11) (i := 2) (by decide +kernel) rfl rfl ?_
    refine w_aload_n (n := 12) (i := 0) (by decide +kernel) rfl rfl ?_
    refine w_iload_n (n := 13) (i := 2) (by decide +kernel) rfl rfl ?_
    obtain ⟨i1, gi1, h⟩ := h
    refine w_iald (n := 14) hL (by decide +kernel) (hp0.1) (hp0.2) gi1 rfl ?_
    obtain ⟨i2, gi2, h⟩ := h
    refine w_iast (n := 15) hL (by decide +kernel) (hp1.1) (hp1.2) gi2 rfl ?_
    generalize eM3 : ak_sI M p1 i2 (ak_I M p0 i1) = M3
    have hLM3 : ab_lay M3 := by rw [← eM3]; exact ab_lay.sI hL
    replace h := h M3 eM3.symm
    refine w_iinc (n := 18) (i := 2) (v := 1) (y := y2 + 1) (l1' := [some (.ref p0), some (.ref p1), some (.int (y2 + 1))]) (l2' := []) (by decide +kernel) rfl rfl rfl rfl rfl ?_
    refine w_goto (n := 2) (off := (-16)) (by decide +kernel) (by decide) ?_
    exact h
theorem t_159 {X : ak_X} {M : ak_M} {r : ak_O × ak_M} (hL : ab_lay M) (h : sg X 159 (2, [some (.ref 483), some (.int 0)], [], []) M r) : rn X 159 [.ref 483] M r := by
  refine w_rn (nL := 2) (l1 := [some (.ref 483), none]) (by decide +kernel) rfl rfl ?_
  refine w_iconst (n := 1) (v := 0) (x := 0) (by decide +kernel) rfl (by decide) ?_
  refine w_istore_n (n := 2) (i := 1) (l1' := [some (.ref 483), some (.int 0)]) (l2' := []) (by decide +kernel) rfl (Nat.le_of_ble_eq_true rfl) rfl rfl ?_
  exact h
theorem t_159_2 {X : ak_X} {M : ak_M} {r : ak_O × ak_M} (hL : ab_lay M) (y1 : Int32) (h : (if 245 ≤ y1 then (∃ i1 : Nat, ab_ix 3 i1 245 ∧ (∀ M2 : ak_M, M2 = ak_sI M 484 i1 5 → (∃ i3 : Nat, ab_ix 4 i3 245 ∧ (∀ M4 : ak_M, M4 = ak_sI M2 484 i3 2 → (∃ i5 : Nat, ab_ix 5 i5 245 ∧ (∀ M6 : ak_M, M6 = ak_sI M4 484 i5 3 → (∃ i7 : Nat, ab_ix 6 i7 245 ∧ (∀ M8 : ak_M, M8 = ak_sI M6 484 i7 4 → (∃ i9 : Nat, ab_ix 7 i9 245 ∧ (∀ M10 : ak_M, M10 = ak_sI M8 484 i9 3 → (∃ i11 : Nat, ab_ix 8 i11 245 ∧ (∀ M12 : ak_M, M12 = ak_sI M10 484 i11 10 → r = (.inl none, M12))))))))))))) else (∃ i13 : Nat, ab_ix y1 i13 245 ∧ (∀ M14 : ak_M, M14 = ak_sI M 484 i13 0 → sg X 159 (2, [some (.ref 483), some (.int (y1 + 1))], [], []) M14 r)))) : sg X 159 (2, [some (.ref 483), some (.int y1)], [], []) M r := by
  refine w_iload_n (n := 3) (i := 1) (by decide +kernel) rfl rfl ?_
  refine w_sipush (n := 6) (v := 245) (x := 245) (by decide +kernel) rfl (by decide) ?_
  by_cases c15 : 245 ≤ y1
  · rw [if_pos c15] at h
    refine w_icmp_ge_j (n := 22) (off := 16) (by decide +kernel) (by decide) c15 ?_
    refine w_aload_n (n := 23) (i := 0) (by decide +kernel) rfl rfl ?_
    refine w_getR (n := 26) hL (by decide +kernel) oO_159 fF_12_7 (at_483) (by decide) (ar_483_1) rfl ?_
    refine w_iconst (n := 27) (v := 3) (x := 3) (by decide +kernel) rfl (by decide) ?_
    refine w_iconst (n := 28) (v := 5) (x := 5) (by decide +kernel) rfl (by decide) ?_
    obtain ⟨i1, gi1, h⟩ := h
    refine w_iast (n := 29) hL (by decide +kernel) (at_484) (an_484) gi1 rfl ?_
    generalize eM2 : ak_sI M 484 i1 5 = M2
    have hLM2 : ab_lay M2 := by rw [← eM2]; exact ab_lay.sI hL
    replace h := h M2 eM2.symm
    refine w_aload_n (n := 30) (i := 0) (by decide +kernel) rfl rfl ?_
    refine w_getR (n := 33) hLM2 (by decide +kernel) oO_159 fF_12_7 (at_483) (by decide) (ar_483_1) rfl ?_
    refine w_iconst (n := 34) (v := 4) (x := 4) (by decide +kernel) rfl (by decide) ?_
    refine w_iconst (n := 35) (v := 2) (x := 2) (by decide +kernel) rfl (by decide) ?_
    obtain ⟨i3, gi3, h⟩ := h
    refine w_iast (n := 36) hLM2 (by decide +kernel) (at_484) (an_484) gi3 rfl ?_
    generalize eM4 : ak_sI M2 484 i3 2 = M4
    have hLM4 : ab_lay M4 := by rw [← eM4]; exact ab_lay.sI hLM2
    replace h := h M4 eM4.symm
    refine w_aload_n (n := 37) (i := 0) (by decide +kernel) rfl rfl ?_
    refine w_getR (n := 40) hLM4 (by decide +kernel) oO_159 fF_12_7 (at_483) (by decide) (ar_483_1) rfl ?_
    refine w_iconst (n := 41) (v := 5) (x := 5) (by decide +kernel) rfl (by decide) ?_
    refine w_iconst (n := 42) (v := 3) (x := 3) (by decide +kernel) rfl (by decide) ?_
    obtain ⟨i5, gi5, h⟩ := h
    refine w_iast (n := 43) hLM4 (by decide +kernel) (at_484) (an_484) gi5 rfl ?_
    generalize eM6 : ak_sI M4 484 i5 3 = M6
    have hLM6 : ab_lay M6 := by rw [← eM6]; exact ab_lay.sI hLM4
    replace h := h M6 eM6.symm
    refine w_aload_n (n := 44) (i := 0) (by decide +kernel) rfl rfl ?_
    refine w_getR (n := 47) hLM6 (by decide +kernel) oO_159 fF_12_7 (at_483) (by decide) (ar_483_1) rfl ?_
    refine w_bipush (n := 49) (v := 6) (x := 6) (by decide +kernel) rfl (by decide) ?_
    refine w_iconst (n := 50) (v := 4) (x := 4) (by decide +kernel) rfl (by decide) ?_
    obtain ⟨i7, gi7, h⟩ := h
    refine w_iast (n := 51) hLM6 (by decide +kernel) (at_484) (an_484) gi7 rfl ?_
    generalize eM8 : ak_sI M6 484 i7 4 = M8
    have hLM8 : ab_lay M8 := by rw [← eM8]; exact ab_lay.sI hLM6
    replace h := h M8 eM8.symm
    refine w_aload_n (n := 52) (i := 0) (by decide +kernel) rfl rfl ?_
    refine w_getR (n := 55) hLM8 (by decide +kernel) oO_159 fF_12_7 (at_483) (by decide) (ar_483_1) rfl ?_
    refine w_bipush (n := 57) (v := 7) (x := 7) (by decide +kernel) rfl (by decide) ?_
    refine w_iconst (n := 58) (v := 3) (x := 3) (by decide +kernel) rfl (by decide) ?_
    obtain ⟨i9, gi9, h⟩ := h
    refine w_iast (n := 59) hLM8 (by decide +kernel) (at_484) (an_484) gi9 rfl ?_
    generalize eM10 : ak_sI M8 484 i9 3 = M10
    have hLM10 : ab_lay M10 := by rw [← eM10]; exact ab_lay.sI hLM8
    replace h := h M10 eM10.symm
    refine w_aload_n (n := 60) (i := 0) (by decide +kernel) rfl rfl ?_
    refine w_getR (n := 63) hLM10 (by decide +kernel) oO_159 fF_12_7 (at_483) (by decide) (ar_483_1) rfl ?_
    refine w_bipush (n := 65) (v := 8) (x := 8) (by decide +kernel) rfl (by decide) ?_
    refine w_bipush (n := 67) (v := 10) (x := 10) (by decide +kernel) rfl (by decide) ?_
    obtain ⟨i11, gi11, h⟩ := h
    refine w_iast (n := 68) hLM10 (by decide +kernel) (at_484) (an_484) gi11 rfl ?_
    generalize eM12 : ak_sI M10 484 i11 10 = M12
    have hLM12 : ab_lay M12 := by rw [← eM12]; exact ab_lay.sI hLM10
    replace h := h M12 eM12.symm
    subst h
    exact w_vreturn (by decide +kernel) (by decide +kernel)
  · rw [if_neg c15] at h
    refine w_icmp_ge_n (n := 9) (off := 16) (by decide +kernel) rfl c15 ?_
    refine w_aload_n (n := 10) (i := 0) (by decide +kernel) rfl rfl ?_
    refine w_getR (n := 13) hL (by decide +kernel) oO_159 fF_12_7 (at_483) (by decide) (ar_483_1) rfl ?_
    refine w_iload_n (n := 14) (i := 1) (by decide +kernel) rfl rfl ?_
    refine w_iconst (n := 15) (v := 0) (x := 0) (by decide +kernel) rfl (by decide) ?_
    obtain ⟨i13, gi13, h⟩ := h
    refine w_iast (n := 16) hL (by decide +kernel) (at_484) (an_484) gi13 rfl ?_
    generalize eM14 : ak_sI M 484 i13 0 = M14
    have hLM14 : ab_lay M14 := by rw [← eM14]; exact ab_lay.sI hL
    replace h := h M14 eM14.symm
    refine w_iinc (n := 19) (i := 1) (v := 1) (y := y1 + 1) (l1' := [some (.ref 483), some (.int (y1 + 1))]) (l2' := []) (by decide +kernel) rfl rfl rfl rfl rfl ?_
    refine w_goto (n := 2) (off := (-17)) (by decide +kernel) (by decide) ?_
    exact h
theorem t_160 {X : ak_X} {M : ak_M} {r : ak_O × ak_M} (hL : ab_lay M) (x1 : Int32) (x2 : Int32) (x3 : Int32) (h : (∃ i1 : Nat, ab_ix 2 i1 245 ∧ (∀ z2 : Int32, z2 = 11 + (3 * (ak_I M 484 i1)) → (∃ i3 : Nat, ab_ix (z2 + 0) i3 245 ∧ (∀ M4 : ak_M, M4 = ak_sI M 484 i3 x1 → (∃ i5 : Nat, ab_ix (z2 + 1) i5 245 ∧ (∀ M6 : ak_M, M6 = ak_sI M4 484 i5 x2 → (∃ i7 : Nat, ab_ix (z2 + 2) i7 245 ∧ (∀ M8 : ak_M, M8 = ak_sI M6 484 i7 x3 → (∃ i9 : Nat, ab_ix 2 i9 245 ∧ (∃ i10 : Nat, ab_ix 2 i10 245 ∧ (∀ M11 : ak_M, M11 = ak_sI M8 484 i10 ((ak_I M8 484 i9) + 1) → r = (.inl none, M11))))))))))))) : rn X 160 [.ref 483, .int x1, .int x2, .int x3] M r := by
  refine w_rn (nL := 5) (l1 := [some (.ref 483), some (.int x1), some (.int x2), some (.int x3), none]) (by decide +kernel) rfl rfl ?_
  refine w_bipush (n := 2) (v := 11) (x := 11) (by decide +kernel) rfl (by decide) ?_
  refine w_iconst (n := 3) (v := 3) (x := 3) (by decide +kernel) rfl (by decide) ?_
  refine w_aload_n (n := 4) (i := 0) (by decide +kernel) rfl rfl ?_
  refine w_getR (n := 7) hL (by decide +kernel) oO_160 fF_12_7 (at_483) (by decide) (ar_483_1) rfl ?_
  refine w_iconst (n := 8) (v := 2) (x := 2) (by decide +kernel) rfl (by decide) ?_
  obtain ⟨i1, gi1, h⟩ := h
  refine w_iald (n := 9) hL (by decide +kernel) (at_484) (an_484) gi1 rfl ?_
  refine w_imul (n := 10) (by decide +kernel) rfl ?_
  refine w_iadd (n := 11) (by decide +kernel) rfl ?_
  refine w_istore (n := 13) (i := 4) (l1' := [some (.ref 483), some (.int x1), some (.int x2), some (.int x3), some (.int (11 + (3 * (ak_I M 484 i1))))]) (l2' := []) (by decide +kernel) rfl (Nat.le_of_ble_eq_true rfl) rfl rfl ?_
  generalize ez2 : 11 + (3 * (ak_I M 484 i1)) = z2
  replace h := h z2 ez2.symm
  refine w_aload_n (n := 14) (i := 0) (by decide +kernel) rfl rfl ?_
  refine w_getR (n := 17) hL (by decide +kernel) oO_160 fF_12_7 (at_483) (by decide) (ar_483_1) rfl ?_
  refine w_iload (n := 19) (i := 4) (by decide +kernel) rfl rfl ?_
  refine w_iconst (n := 20) (v := 0) (x := 0) (by decide +kernel) rfl (by decide) ?_
  refine w_iadd (n := 21) (by decide +kernel) rfl ?_
  refine w_iload_n (n := 22) (i := 1) (by decide +kernel) rfl rfl ?_
  obtain ⟨i3, gi3, h⟩ := h
  refine w_iast (n := 23) hL (by decide +kernel) (at_484) (an_484) gi3 rfl ?_
  generalize eM4 : ak_sI M 484 i3 x1 = M4
  have hLM4 : ab_lay M4 := by rw [← eM4]; exact ab_lay.sI hL
  replace h := h M4 eM4.symm
  refine w_aload_n (n := 24) (i := 0) (by decide +kernel) rfl rfl ?_
  refine w_getR (n := 27) hLM4 (by decide +kernel) oO_160 fF_12_7 (at_483) (by decide) (ar_483_1) rfl ?_
  refine w_iload (n := 29) (i := 4) (by decide +kernel) rfl rfl ?_
  refine w_iconst (n := 30) (v := 1) (x := 1) (by decide +kernel) rfl (by decide) ?_
  refine w_iadd (n := 31) (by decide +kernel) rfl ?_
  refine w_iload_n (n := 32) (i := 2) (by decide +kernel) rfl rfl ?_
  obtain ⟨i5, gi5, h⟩ := h
  refine w_iast (n := 33) hLM4 (by decide +kernel) (at_484) (an_484) gi5 rfl ?_
  generalize eM6 : ak_sI M4 484 i5 x2 = M6
  have hLM6 : ab_lay M6 := by rw [← eM6]; exact ab_lay.sI hLM4
  replace h := h M6 eM6.symm
  refine w_aload_n (n := 34) (i := 0) (by decide +kernel) rfl rfl ?_
  refine w_getR (n := 37) hLM6 (by decide +kernel) oO_160 fF_12_7 (at_483) (by decide) (ar_483_1) rfl ?_
  refine w_iload (n := 39) (i := 4) (by decide +kernel) rfl rfl ?_
  refine w_iconst (n := 40) (v := 2) (x := 2) (by decide +kernel) rfl (by decide) ?_
  refine w_iadd (n := 41) (by decide +kernel) rfl ?_
  refine w_iload_n (n := 42) (i := 3) (by decide +kernel) rfl rfl ?_
  obtain ⟨i7, gi7, h⟩ := h
  refine w_iast (n := 43) hLM6 (by decide +kernel) (at_484) (an_484) gi7 rfl ?_
  generalize eM8 : ak_sI M6 484 i7 x3 = M8
  have hLM8 : ab_lay M8 := by rw [← eM8]; exact ab_lay.sI hLM6
  replace h := h M8 eM8.symm
  refine w_aload_n (n := 44) (i := 0) (by decide +kernel) rfl rfl ?_
  refine w_getR (n := 47) hLM8 (by decide +kernel) oO_160 fF_12_7 (at_483) (by decide) (ar_483_1) rfl ?_
  refine w_iconst (n := 48) (v := 2) (x := 2) (by decide +kernel) rfl (by decide) ?_
  refine w_aload_n (n := 49) (i := 0) (by decide +kernel) rfl rfl ?_
  refine w_getR (n := 52) hLM8 (by decide +kernel) oO_160 fF_12_7 (at_483) (by decide) (ar_483_1) rfl ?_
  refine w_iconst (n := 53) (v := 2) (x := 2) (by decide +kernel) rfl (by decide) ?_
  obtain ⟨i9, gi9, h⟩ := h
  refine w_iald (n := 54) hLM8 (by decide +kernel) (at_484) (an_484) gi9 rfl ?_
  refine w_iconst (n := 55) (v := 1) (x := 1) (by decide +kernel) rfl (by decide) ?_
  refine w_iadd (n := 56) (by decide +kernel) rfl ?_
  obtain ⟨i10, gi10, h⟩ := h
  refine w_iast (n := 57) hLM8 (by decide +kernel) (at_484) (an_484) gi10 rfl ?_
  generalize eM11 : ak_sI M8 484 i10 ((ak_I M8 484 i9) + 1) = M11
  have hLM11 : ab_lay M11 := by rw [← eM11]; exact ab_lay.sI hLM8
  replace h := h M11 eM11.symm
  subst h
  exact w_vreturn (by decide +kernel) (by decide +kernel)
theorem t_161 {X : ak_X} {M : ak_M} {r : ak_O × ak_M} (hL : ab_lay M) (h : (∃ (M1 : ak_M), ab_lay M1 ∧ rn X 158 [.ref 484, .ref 485] M (.inl (none), M1) ∧ r = (.inl none, M1))) : rn X 161 [.ref 483] M r := by
  refine w_rn (nL := 1) (l1 := [some (.ref 483)]) (by decide +kernel) rfl rfl ?_
  refine w_aload_n (n := 1) (i := 0) (by decide +kernel) rfl rfl ?_
  refine w_getR (n := 4) hL (by decide +kernel) oO_161 fF_12_7 (at_483) (by decide) (ar_483_1) rfl ?_
  refine w_aload_n (n := 5) (i := 0) (by decide +kernel) rfl rfl ?_
  refine w_getR (n := 8) hL (by decide +kernel) oO_161 fF_12_13 (at_483) (by decide) (ar_483_2) rfl ?_
  obtain ⟨M1, hLM1, hr2, h⟩ := h
  refine w_cS (n := 11) (idx := 65) (cal := 158) (na := 2) (nl := 2) (as := [.ref 484, .ref 485]) (rest := []) (by decide +kernel) (by decide +kernel) rfl rfl rfl (Nat.le_of_ble_eq_true rfl) rfl hr2 ?_
  subst h
  exact w_vreturn (by decide +kernel) (by decide +kernel)
theorem t_162 {X : ak_X} {M : ak_M} {r : ak_O × ak_M} (hL : ab_lay M) (x1 : Int32) (h : (if ak_I M 483 7 = 10 then sg X 162 (11, [some (.ref 483), some (.int x1), some (.int 0)], [], []) M r else sg X 162 (52, [some (.ref 483), some (.int x1), some (.int 0)], [], []) M r)) : rn X 162 [.ref 483, .int x1] M r := by
  refine w_rn (nL := 3) (l1 := [some (.ref 483), some (.int x1), none]) (by decide +kernel) rfl rfl ?_
  refine w_aload_n (n := 1) (i := 0) (by decide +kernel) rfl rfl ?_
  refine w_getI (n := 4) hL (by decide +kernel) oO_162 fF_12_69 (at_483) (by decide) rfl ?_
  refine w_bipush (n := 6) (v := 10) (x := 10) (by decide +kernel) rfl (by decide) ?_
  by_cases c1 : ak_I M 483 7 = 10
  · rw [if_pos c1] at h
    refine w_icmp_ne_n (n := 9) (off := 44) (by decide +kernel) rfl c1 ?_
    refine w_iconst (n := 10) (v := 0) (x := 0) (by decide +kernel) rfl (by decide) ?_
    refine w_istore_n (n := 11) (i := 2) (l1' := [some (.ref 483), some (.int x1), some (.int 0)]) (l2' := []) (by decide +kernel) rfl (Nat.le_of_ble_eq_true rfl) rfl rfl ?_
    exact h
  · rw [if_neg c1] at h
    refine w_icmp_ne_j (n := 50) (off := 44) (by decide +kernel) (by decide) c1 ?_
    refine w_iconst (n := 51) (v := 0) (x := 0) (by decide +kernel) rfl (by decide) ?_
    refine w_istore_n (n := 52) (i := 2) (l1' := [some (.ref 483), some (.int x1), some (.int 0)]) (l2' := []) (by decide +kernel) rfl (Nat.le_of_ble_eq_true rfl) rfl rfl ?_
    exact h
theorem t_162_11 {X : ak_X} {M : ak_M} {r : ak_O × ak_M} (hL : ab_lay M) (x1 : Int32) (y2 : Int32) (h : (if 2205 ≤ y2 then (∀ M2 : ak_M, M2 = ak_sI M 483 7 ((ak_I M 483 7) - 1) → sg X 162 (52, [some (.ref 483), some (.int x1), some (.int 0)], [], []) M2 r) else (∃ i3 : Nat, ab_ix (y2 + 245) i3 2450 ∧ (∃ i4 : Nat, ab_ix y2 i4 2450 ∧ (∀ M5 : ak_M, M5 = ak_sI M 489 i4 (ak_I M 489 i3) → sg X 162 (11, [some (.ref 483), some (.int x1), some (.int (y2 + 1))], [], []) M5 r))))) : sg X 162 (11, [some (.ref 483), some (.int x1), some (.int y2)], [], []) M r := by
  refine w_iload_n (n := 12) (i := 2) (by decide +kernel) rfl rfl ?_
  refine w_sipush (n := 15) (v := 2205) (x := 2205) (by decide +kernel) rfl (by decide) ?_
  by_cases c6 : 2205 ≤ y2
  · rw [if_pos c6] at h
    refine w_icmp_ge_j (n := 40) (off := 25) (by decide +kernel) (by decide) c6 ?_
    refine w_aload_n (n := 41) (i := 0) (by decide +kernel) rfl rfl ?_
    refine w_aload_n (n := 42) (i := 0) (by decide +kernel) rfl rfl ?_
    refine w_getI (n := 45) hL (by decide +kernel) oO_162 fF_12_69 (at_483) (by decide) rfl ?_
    refine w_iconst (n := 46) (v := 1) (x := 1) (by decide +kernel) rfl (by decide) ?_
    refine w_isub (n := 47) (by decide +kernel) rfl ?_
    refine w_putI (n := 50) hL (by decide +kernel) oO_162 fF_12_69 (at_483) ⟨by decide, Or.inl (by decide)⟩ rfl ?_
    generalize eM2 : ak_sI M 483 7 ((ak_I M 483 7) - 1) = M2
    have hLM2 : ab_lay M2 := by rw [← eM2]; exact ab_lay.sI hL
    replace h := h M2 eM2.symm
    refine w_iconst (n := 51) (v := 0) (x := 0) (by decide +kernel) rfl (by decide) ?_
    refine w_istore_n (n := 52) (i := 2) (l1' := [some (.ref 483), some (.int x1), some (.int 0)]) (l2' := []) (by decide +kernel) rfl (Nat.le_of_ble_eq_true rfl) rfl rfl ?_
    exact h
  · rw [if_neg c6] at h
    refine w_icmp_ge_n (n := 18) (off := 25) (by decide +kernel) rfl c6 ?_
    refine w_aload_n (n := 19) (i := 0) (by decide +kernel) rfl rfl ?_
    refine w_getR (n := 22) hL (by decide +kernel) oO_162 fF_12_25 (at_483) (by decide) (ar_483_6) rfl ?_
    refine w_iload_n (n := 23) (i := 2) (by decide +kernel) rfl rfl ?_
    refine w_aload_n (n := 24) (i := 0) (by decide +kernel) rfl rfl ?_
    refine w_getR (n := 27) hL (by decide +kernel) oO_162 fF_12_25 (at_483) (by decide) (ar_483_6) rfl ?_
    refine w_iload_n (n := 28) (i := 2) (by decide +kernel) rfl rfl ?_
    refine w_sipush (n := 31) (v := 245) (x := 245) (by decide +kernel) rfl (by decide) ?_
    refine w_iadd (n := 32) (by decide +kernel) rfl ?_
    obtain ⟨i3, gi3, h⟩ := h
    refine w_iald (n := 33) hL (by decide +kernel) (at_489) (an_489) gi3 rfl ?_
    obtain ⟨i4, gi4, h⟩ := h
    refine w_iast (n := 34) hL (by decide +kernel) (at_489) (an_489) gi4 rfl ?_
    generalize eM5 : ak_sI M 489 i4 (ak_I M 489 i3) = M5
    have hLM5 : ab_lay M5 := by rw [← eM5]; exact ab_lay.sI hL
    replace h := h M5 eM5.symm
    refine w_iinc (n := 37) (i := 2) (v := 1) (y := y2 + 1) (l1' := [some (.ref 483), some (.int x1), some (.int (y2 + 1))]) (l2' := []) (by decide +kernel) rfl rfl rfl rfl rfl ?_
    refine w_goto (n := 11) (off := (-26)) (by decide +kernel) (by decide) ?_
    exact h
theorem t_162_52 {X : ak_X} {M : ak_M} {r : ak_O × ak_M} (hL : ab_lay M) (x1 : Int32) (y2 : Int32) (h : (if 245 ≤ y2 then (∀ M7 : ak_M, M7 = ak_sI M 483 7 ((ak_I M 483 7) + 1) → r = (.inl (some (.int x1)), M7)) else (∃ i8 : Nat, ab_ix y2 i8 245 ∧ (∃ i9 : Nat, ab_ix ((245 * (ak_I M 483 7)) + y2) i9 2450 ∧ (∀ M10 : ak_M, M10 = ak_sI M 489 i9 (ak_I M 485 i8) → sg X 162 (52, [some (.ref 483), some (.int x1), some (.int (y2 + 1))], [], []) M10 r))))) : sg X 162 (52, [some (.ref 483), some (.int x1), some (.int y2)], [], []) M r := by
  refine w_iload_n (n := 53) (i := 2) (by decide +kernel) rfl rfl ?_
  refine w_sipush (n := 56) (v := 245) (x := 245) (by decide +kernel) rfl (by decide) ?_
  by_cases c11 : 245 ≤ y2
  · rw [if_pos c11] at h
    refine w_icmp_ge_j (n := 86) (off := 30) (by decide +kernel) (by decide) c11 ?_
    refine w_aload_n (n := 87) (i := 0) (by decide +kernel) rfl rfl ?_
    refine w_aload_n (n := 88) (i := 0) (by decide +kernel) rfl rfl ?_
    refine w_getI (n := 91) hL (by decide +kernel) oO_162 fF_12_69 (at_483) (by decide) rfl ?_
    refine w_iconst (n := 92) (v := 1) (x := 1) (by decide +kernel) rfl (by decide) ?_
    refine w_iadd (n := 93) (by decide +kernel) rfl ?_
    refine w_putI (n := 96) hL (by decide +kernel) oO_162 fF_12_69 (at_483) ⟨by decide, Or.inl (by decide)⟩ rfl ?_
    generalize eM7 : ak_sI M 483 7 ((ak_I M 483 7) + 1) = M7
    have hLM7 : ab_lay M7 := by rw [← eM7]; exact ab_lay.sI hL
    replace h := h M7 eM7.symm
    refine w_iload_n (n := 97) (i := 1) (by decide +kernel) rfl rfl ?_
    subst h
    exact w_ireturn (by decide +kernel) (w_okI (by decide +kernel))
  · rw [if_neg c11] at h
    refine w_icmp_ge_n (n := 59) (off := 30) (by decide +kernel) rfl c11 ?_
    refine w_aload_n (n := 60) (i := 0) (by decide +kernel) rfl rfl ?_
    refine w_getR (n := 63) hL (by decide +kernel) oO_162 fF_12_25 (at_483) (by decide) (ar_483_6) rfl ?_
    refine w_sipush (n := 66) (v := 245) (x := 245) (by decide +kernel) rfl (by decide) ?_
    refine w_aload_n (n := 67) (i := 0) (by decide +kernel) rfl rfl ?_
    refine w_getI (n := 70) hL (by decide +kernel) oO_162 fF_12_69 (at_483) (by decide) rfl ?_
    refine w_imul (n := 71) (by decide +kernel) rfl ?_
    refine w_iload_n (n := 72) (i := 2) (by decide +kernel) rfl rfl ?_
    refine w_iadd (n := 73) (by decide +kernel) rfl ?_
    refine w_aload_n (n := 74) (i := 0) (by decide +kernel) rfl rfl ?_
    refine w_getR (n := 77) hL (by decide +kernel) oO_162 fF_12_13 (at_483) (by decide) (ar_483_2) rfl ?_
    refine w_iload_n (n := 78) (i := 2) (by decide +kernel) rfl rfl ?_
    obtain ⟨i8, gi8, h⟩ := h
    refine w_iald (n := 79) hL (by decide +kernel) (at_485) (an_485) gi8 rfl ?_
    obtain ⟨i9, gi9, h⟩ := h
    refine w_iast (n := 80) hL (by decide +kernel) (at_489) (an_489) gi9 rfl ?_
    generalize eM10 : ak_sI M 489 i9 (ak_I M 485 i8) = M10
    have hLM10 : ab_lay M10 := by rw [← eM10]; exact ab_lay.sI hL
    replace h := h M10 eM10.symm
    refine w_iinc (n := 83) (i := 2) (v := 1) (y := y2 + 1) (l1' := [some (.ref 483), some (.int x1), some (.int (y2 + 1))]) (l2' := []) (by decide +kernel) rfl rfl rfl rfl rfl ?_
    refine w_goto (n := 52) (off := (-31)) (by decide +kernel) (by decide) ?_
    exact h
theorem t_163 {X : ak_X} {M : ak_M} {r : ak_O × ak_M} (hL : ab_lay M) (h : (if ak_I M 483 7 ≤ 0 then (∃ (v2 : Int32) (M1 : ak_M), ab_lay M1 ∧ rn X 155 [.ref 483, .int 0] M (.inl (some (.int v2)), M1) ∧ (if v2 = 0 then r = (.inl (some (.int 0)), M1) else (∀ M3 : ak_M, M3 = ak_sI M1 483 7 ((ak_I M1 483 7) - 1) → sg X 163 (33, [some (.ref 483), some (.int 0)], [], []) M3 r))) else (∃ (v7 : Int32) (M6 : ak_M), ab_lay M6 ∧ rn X 155 [.ref 483, .int 1] M (.inl (some (.int v7)), M6) ∧ (if v7 = 0 then r = (.inl (some (.int 0)), M6) else (∀ M8 : ak_M, M8 = ak_sI M6 483 7 ((ak_I M6 483 7) - 1) → sg X 163 (33, [some (.ref 483), some (.int 0)], [], []) M8 r))))) : rn X 163 [.ref 483] M r := by
  refine w_rn (nL := 2) (l1 := [some (.ref 483), none]) (by decide +kernel) rfl rfl ?_
  refine w_aload_n (n := 1) (i := 0) (by decide +kernel) rfl rfl ?_
  refine w_aload_n (n := 2) (i := 0) (by decide +kernel) rfl rfl ?_
  refine w_getI (n := 5) hL (by decide +kernel) oO_163 fF_12_69 (at_483) (by decide) rfl ?_
  by_cases c11 : ak_I M 483 7 ≤ 0
  · rw [if_pos c11] at h
    refine w_if_le_j (n := 12) (off := 7) (by decide +kernel) (by decide) c11 ?_
    refine w_iconst (n := 13) (v := 0) (x := 0) (by decide +kernel) rfl (by decide) ?_
    obtain ⟨v2, M1, hLM1, hr5, h⟩ := h
    refine w_cV (n := 16) (idx := 72) (cal := 155) (na := 1) (nl := 2) (as := [.int 0]) (rest := []) hL (by decide +kernel) (by decide +kernel) (at_483) (by decide +kernel) rfl rfl rfl (Nat.le_of_ble_eq_true rfl) rfl hr5 ?_
    by_cases c4 : v2 = 0
    · rw [if_pos c4] at h
      refine w_if_ne_n (n := 19) (off := 5) (by decide +kernel) rfl c4 ?_
      refine w_iconst (n := 20) (v := 0) (x := 0) (by decide +kernel) rfl (by decide) ?_
      subst h
      exact w_ireturn (by decide +kernel) (w_okI (by decide +kernel))
    · rw [if_neg c4] at h
      refine w_if_ne_j (n := 21) (off := 5) (by decide +kernel) (by decide) c4 ?_
      refine w_aload_n (n := 22) (i := 0) (by decide +kernel) rfl rfl ?_
      refine w_aload_n (n := 23) (i := 0) (by decide +kernel) rfl rfl ?_
      refine w_getI (n := 26) hLM1 (by decide +kernel) oO_163 fF_12_69 (at_483) (by decide) rfl ?_
      refine w_iconst (n := 27) (v := 1) (x := 1) (by decide +kernel) rfl (by decide) ?_
      refine w_isub (n := 28) (by decide +kernel) rfl ?_
      refine w_putI (n := 31) hLM1 (by decide +kernel) oO_163 fF_12_69 (at_483) ⟨by decide, Or.inl (by decide)⟩ rfl ?_
      generalize eM3 : ak_sI M1 483 7 ((ak_I M1 483 7) - 1) = M3
      have hLM3 : ab_lay M3 := by rw [← eM3]; exact ab_lay.sI hLM1
      replace h := h M3 eM3.symm
      refine w_iconst (n := 32) (v := 0) (x := 0) (by decide +kernel) rfl (by decide) ?_
      refine w_istore_n (n := 33) (i := 1) (l1' := [some (.ref 483), some (.int 0)]) (l2' := []) (by decide +kernel) rfl (Nat.le_of_ble_eq_true rfl) rfl rfl ?_
      exact h
  · rw [if_neg c11] at h
    refine w_if_le_n (n := 8) (off := 7) (by decide +kernel) rfl c11 ?_
    refine w_iconst (n := 9) (v := 1) (x := 1) (by decide +kernel) rfl (by decide) ?_
    refine w_goto (n := 13) (off := 4) (by decide +kernel) (by decide) ?_
    obtain ⟨v7, M6, hLM6, hr10, h⟩ := h
    refine w_cV (n := 16) (idx := 72) (cal := 155) (na := 1) (nl := 2) (as := [.int 1]) (rest := []) hL (by decide +kernel) (by decide +kernel) (at_483) (by decide +kernel) rfl rfl rfl (Nat.le_of_ble_eq_true rfl) rfl hr10 ?_
    by_cases c9 : v7 = 0
    · rw [if_pos c9] at h
      refine w_if_ne_n (n := 19) (off := 5) (by decide +kernel) rfl c9 ?_
      refine w_iconst (n := 20) (v := 0) (x := 0) (by decide +kernel) rfl (by decide) ?_
      subst h
      exact w_ireturn (by decide +kernel) (w_okI (by decide +kernel))
    · rw [if_neg c9] at h
      refine w_if_ne_j (n := 21) (off := 5) (by decide +kernel) (by decide) c9 ?_
      refine w_aload_n (n := 22) (i := 0) (by decide +kernel) rfl rfl ?_
      refine w_aload_n (n := 23) (i := 0) (by decide +kernel) rfl rfl ?_
      refine w_getI (n := 26) hLM6 (by decide +kernel) oO_163 fF_12_69 (at_483) (by decide) rfl ?_
      refine w_iconst (n := 27) (v := 1) (x := 1) (by decide +kernel) rfl (by decide) ?_
      refine w_isub (n := 28) (by decide +kernel) rfl ?_
      refine w_putI (n := 31) hLM6 (by decide +kernel) oO_163 fF_12_69 (at_483) ⟨by decide, Or.inl (by decide)⟩ rfl ?_
      generalize eM8 : ak_sI M6 483 7 ((ak_I M6 483 7) - 1) = M8
      have hLM8 : ab_lay M8 := by rw [← eM8]; exact ab_lay.sI hLM6
      replace h := h M8 eM8.symm
      refine w_iconst (n := 32) (v := 0) (x := 0) (by decide +kernel) rfl (by decide) ?_
      refine w_istore_n (n := 33) (i := 1) (l1' := [some (.ref 483), some (.int 0)]) (l2' := []) (by decide +kernel) rfl (Nat.le_of_ble_eq_true rfl) rfl rfl ?_
      exact h
theorem t_163_33 {X : ak_X} {M : ak_M} {r : ak_O × ak_M} (hL : ab_lay M) (y1 : Int32) (h : (if 245 ≤ y1 then r = (.inl (some (.int (ak_I M 483 7))), M) else (∃ i12 : Nat, ab_ix ((245 * (ak_I M 483 7)) + y1) i12 2450 ∧ (∃ i13 : Nat, ab_ix y1 i13 245 ∧ (∀ M14 : ak_M, M14 = ak_sI M 484 i13 (ak_I M 489 i12) → sg X 163 (33, [some (.ref 483), some (.int (y1 + 1))], [], []) M14 r))))) : sg X 163 (33, [some (.ref 483), some (.int y1)], [], []) M r := by
  refine w_iload_n (n := 34) (i := 1) (by decide +kernel) rfl rfl ?_
  refine w_sipush (n := 37) (v := 245) (x := 245) (by decide +kernel) rfl (by decide) ?_
  by_cases c15 : 245 ≤ y1
  · rw [if_pos c15] at h
    refine w_icmp_ge_j (n := 67) (off := 30) (by decide +kernel) (by decide) c15 ?_
    refine w_aload_n (n := 68) (i := 0) (by decide +kernel) rfl rfl ?_
    refine w_getI (n := 71) hL (by decide +kernel) oO_163 fF_12_69 (at_483) (by decide) rfl ?_
    subst h
    exact w_ireturn (by decide +kernel) (w_okI (by decide +kernel))
  · rw [if_neg c15] at h
    refine w_icmp_ge_n (n := 40) (off := 30) (by decide +kernel) rfl c15 ?_
    refine w_aload_n (n := 41) (i := 0) (by decide +kernel) rfl rfl ?_
    refine w_getR (n := 44) hL (by decide +kernel) oO_163 fF_12_7 (at_483) (by decide) (ar_483_1) rfl ?_
    refine w_iload_n (n := 45) (i := 1) (by decide +kernel) rfl rfl ?_
    refine w_aload_n (n := 46) (i := 0) (by decide +kernel) rfl rfl ?_
    refine w_getR (n := 49) hL (by decide +kernel) oO_163 fF_12_25 (at_483) (by decide) (ar_483_6) rfl ?_
    refine w_sipush (n := 52) (v := 245) (x := 245) (by decide +kernel) rfl (by decide) ?_
    refine w_aload_n (n := 53) (i := 0) (by decide +kernel) rfl rfl ?_
    refine w_getI (n := 56) hL (by decide +kernel) oO_163 fF_12_69 (at_483) (by decide) rfl ?_
    refine w_imul (n := 57) (by decide +kernel) rfl ?_
    refine w_iload_n (n := 58) (i := 1) (by decide +kernel) rfl rfl ?_
    refine w_iadd (n := 59) (by decide +kernel) rfl ?_
    obtain ⟨i12, gi12, h⟩ := h
    refine w_iald (n := 60) hL (by decide +kernel) (at_489) (an_489) gi12 rfl ?_
    obtain ⟨i13, gi13, h⟩ := h
    refine w_iast (n := 61) hL (by decide +kernel) (at_484) (an_484) gi13 rfl ?_
    generalize eM14 : ak_sI M 484 i13 (ak_I M 489 i12) = M14
    have hLM14 : ab_lay M14 := by rw [← eM14]; exact ab_lay.sI hL
    replace h := h M14 eM14.symm
    refine w_iinc (n := 64) (i := 1) (v := 1) (y := y1 + 1) (l1' := [some (.ref 483), some (.int (y1 + 1))]) (l2' := []) (by decide +kernel) rfl rfl rfl rfl rfl ?_
    refine w_goto (n := 33) (off := (-31)) (by decide +kernel) (by decide) ?_
    exact h
theorem t_164 {X : ak_X} {M : ak_M} {r : ak_O × ak_M} (hL : ab_lay M) (h : (∀ M1 : ak_M, M1 = ak_sI M 483 0 0 → (∃ (M2 : ak_M), ab_lay M2 ∧ rn X 158 [.ref 484, .ref 488] M1 (.inl (none), M2) ∧ (∀ M3 : ak_M, M3 = ak_sI M2 483 8 1 → (∃ i4 : Nat, ab_ix 0 i4 245 ∧ r = (.inl (some (.int (ak_I M3 484 i4))), M3)))))) : rn X 164 [.ref 483] M r := by
  refine w_rn (nL := 1) (l1 := [some (.ref 483)]) (by decide +kernel) rfl rfl ?_
  refine w_aload_n (n := 1) (i := 0) (by decide +kernel) rfl rfl ?_
  refine w_iconst (n := 2) (v := 0) (x := 0) (by decide +kernel) rfl (by decide) ?_
  refine w_putI (n := 5) hL (by decide +kernel) oO_164 fF_12_62 (at_483) ⟨by decide, Or.inl (by decide)⟩ rfl ?_
  generalize eM1 : ak_sI M 483 0 0 = M1
  have hLM1 : ab_lay M1 := by rw [← eM1]; exact ab_lay.sI hL
  replace h := h M1 eM1.symm
  refine w_aload_n (n := 6) (i := 0) (by decide +kernel) rfl rfl ?_
  refine w_getR (n := 9) hLM1 (by decide +kernel) oO_164 fF_12_7 (at_483) (by decide) (ar_483_1) rfl ?_
  refine w_aload_n (n := 10) (i := 0) (by decide +kernel) rfl rfl ?_
  refine w_getR (n := 13) hLM1 (by decide +kernel) oO_164 fF_12_22 (at_483) (by decide) (ar_483_5) rfl ?_
  obtain ⟨M2, hLM2, hr5, h⟩ := h
  refine w_cS (n := 16) (idx := 65) (cal := 158) (na := 2) (nl := 2) (as := [.ref 484, .ref 488]) (rest := []) (by decide +kernel) (by decide +kernel) rfl rfl rfl (Nat.le_of_ble_eq_true rfl) rfl hr5 ?_
  refine w_aload_n (n := 17) (i := 0) (by decide +kernel) rfl rfl ?_
  refine w_iconst (n := 18) (v := 1) (x := 1) (by decide +kernel) rfl (by decide) ?_
  refine w_putI (n := 21) hLM2 (by decide +kernel) oO_164 fF_12_76 (at_483) ⟨by decide, Or.inr ⟨by decide, by decide⟩⟩ rfl ?_
  generalize eM3 : ak_sI M2 483 8 1 = M3
  have hLM3 : ab_lay M3 := by rw [← eM3]; exact ab_lay.sI hLM2
  replace h := h M3 eM3.symm
  refine w_aload_n (n := 22) (i := 0) (by decide +kernel) rfl rfl ?_
  refine w_getR (n := 25) hLM3 (by decide +kernel) oO_164 fF_12_7 (at_483) (by decide) (ar_483_1) rfl ?_
  refine w_iconst (n := 26) (v := 0) (x := 0) (by decide +kernel) rfl (by decide) ?_
  obtain ⟨i4, gi4, h⟩ := h
  refine w_iald (n := 27) hLM3 (by decide +kernel) (at_484) (an_484) gi4 rfl ?_
  subst h
  exact w_ireturn (by decide +kernel) (w_okI (by decide +kernel))
theorem t_165 {X : ak_X} {M : ak_M} {r : ak_O × ak_M} (hL : ab_lay M) (h : (∃ (v2 : Int32) (M1 : ak_M), ab_lay M1 ∧ rn X 155 [.ref 483, .int (ak_I M 483 8)] M (.inl (some (.int v2)), M1) ∧ (if v2 = 0 then r = (.inl (some (.int 0)), M1) else (∃ (M3 : ak_M), ab_lay M3 ∧ rn X 158 [.ref 488, .ref 484] M1 (.inl (none), M3) ∧ (∀ M4 : ak_M, M4 = ak_sI M3 483 7 0 → (∃ i5 : Nat, ab_ix 0 i5 245 ∧ r = (.inl (some (.int (ak_I M4 484 i5))), M4))))))) : rn X 165 [.ref 483] M r := by
  refine w_rn (nL := 1) (l1 := [some (.ref 483)]) (by decide +kernel) rfl rfl ?_
  refine w_aload_n (n := 1) (i := 0) (by decide +kernel) rfl rfl ?_
  refine w_aload_n (n := 2) (i := 0) (by decide +kernel) rfl rfl ?_
  refine w_getI (n := 5) hL (by decide +kernel) oO_165 fF_12_76 (at_483) (by decide) rfl ?_
  obtain ⟨v2, M1, hLM1, hr8, h⟩ := h
  refine w_cV (n := 8) (idx := 72) (cal := 155) (na := 1) (nl := 2) (as := [.int (ak_I M 483 8)]) (rest := []) hL (by decide +kernel) (by decide +kernel) (at_483) (by decide +kernel) rfl rfl rfl (Nat.le_of_ble_eq_true rfl) rfl hr8 ?_
  by_cases c7 : v2 = 0
  · rw [if_pos c7] at h
    refine w_if_ne_n (n := 11) (off := 5) (by decide +kernel) rfl c7 ?_
    refine w_iconst (n := 12) (v := 0) (x := 0) (by decide +kernel) rfl (by decide) ?_
    subst h
    exact w_ireturn (by decide +kernel) (w_okI (by decide +kernel))
  · rw [if_neg c7] at h
    refine w_if_ne_j (n := 13) (off := 5) (by decide +kernel) (by decide) c7 ?_
    refine w_aload_n (n := 14) (i := 0) (by decide +kernel) rfl rfl ?_
    refine w_getR (n := 17) hLM1 (by decide +kernel) oO_165 fF_12_22 (at_483) (by decide) (ar_483_5) rfl ?_
    refine w_aload_n (n := 18) (i := 0) (by decide +kernel) rfl rfl ?_
    refine w_getR (n := 21) hLM1 (by decide +kernel) oO_165 fF_12_7 (at_483) (by decide) (ar_483_1) rfl ?_
    obtain ⟨M3, hLM3, hr6, h⟩ := h
    refine w_cS (n := 24) (idx := 65) (cal := 158) (na := 2) (nl := 2) (as := [.ref 488, .ref 484]) (rest := []) (by decide +kernel) (by decide +kernel) rfl rfl rfl (Nat.le_of_ble_eq_true rfl) rfl hr6 ?_
    refine w_aload_n (n := 25) (i := 0) (by decide +kernel) rfl rfl ?_
    refine w_iconst (n := 26) (v := 0) (x := 0) (by decide +kernel) rfl (by decide) ?_
    refine w_putI (n := 29) hLM3 (by decide +kernel) oO_165 fF_12_69 (at_483) ⟨by decide, Or.inl (by decide)⟩ rfl ?_
    generalize eM4 : ak_sI M3 483 7 0 = M4
    have hLM4 : ab_lay M4 := by rw [← eM4]; exact ab_lay.sI hLM3
    replace h := h M4 eM4.symm
    refine w_aload_n (n := 30) (i := 0) (by decide +kernel) rfl rfl ?_
    refine w_getR (n := 33) hLM4 (by decide +kernel) oO_165 fF_12_7 (at_483) (by decide) (ar_483_1) rfl ?_
    refine w_iconst (n := 34) (v := 0) (x := 0) (by decide +kernel) rfl (by decide) ?_
    obtain ⟨i5, gi5, h⟩ := h
    refine w_iald (n := 35) hLM4 (by decide +kernel) (at_484) (an_484) gi5 rfl ?_
    subst h
    exact w_ireturn (by decide +kernel) (w_okI (by decide +kernel))
theorem t_166 {X : ak_X} {M : ak_M} {r : ak_O × ak_M} (hL : ab_lay M) (h : (∃ (M1 : ak_M), ab_lay M1 ∧ rn X 158 [.ref 484, .ref 486] M (.inl (none), M1) ∧ r = (.inl none, M1))) : rn X 166 [.ref 483] M r := by
  refine w_rn (nL := 1) (l1 := [some (.ref 483)]) (by decide +kernel) rfl rfl ?_
  refine w_aload_n (n := 1) (i := 0) (by decide +kernel) rfl rfl ?_
  refine w_getR (n := 4) hL (by decide +kernel) oO_166 fF_12_7 (at_483) (by decide) (ar_483_1) rfl ?_
  refine w_aload_n (n := 5) (i := 0) (by decide +kernel) rfl rfl ?_
  refine w_getR (n := 8) hL (by decide +kernel) oO_166 fF_12_16 (at_483) (by decide) (ar_483_3) rfl ?_
  obtain ⟨M1, hLM1, hr2, h⟩ := h
  refine w_cS (n := 11) (idx := 65) (cal := 158) (na := 2) (nl := 2) (as := [.ref 484, .ref 486]) (rest := []) (by decide +kernel) (by decide +kernel) rfl rfl rfl (Nat.le_of_ble_eq_true rfl) rfl hr2 ?_
  subst h
  exact w_vreturn (by decide +kernel) (by decide +kernel)
theorem t_167 {X : ak_X} {M : ak_M} {r : ak_O × ak_M} (hL : ab_lay M) (x1 : Int32) (h : (∃ (M1 : ak_M), ab_lay M1 ∧ rn X 158 [.ref 486, .ref 484] M (.inl (none), M1) ∧ r = (.inl (some (.int x1)), M1))) : rn X 167 [.ref 483, .int x1] M r := by
  refine w_rn (nL := 2) (l1 := [some (.ref 483), some (.int x1)]) (by decide +kernel) rfl rfl ?_
  refine w_aload_n (n := 1) (i := 0) (by decide +kernel) rfl rfl ?_
  refine w_getR (n := 4) hL (by decide +kernel) oO_167 fF_12_16 (at_483) (by decide) (ar_483_3) rfl ?_
  refine w_aload_n (n := 5) (i := 0) (by decide +kernel) rfl rfl ?_
  refine w_getR (n := 8) hL (by decide +kernel) oO_167 fF_12_7 (at_483) (by decide) (ar_483_1) rfl ?_
  obtain ⟨M1, hLM1, hr2, h⟩ := h
  refine w_cS (n := 11) (idx := 65) (cal := 158) (na := 2) (nl := 2) (as := [.ref 486, .ref 484]) (rest := []) (by decide +kernel) (by decide +kernel) rfl rfl rfl (Nat.le_of_ble_eq_true rfl) rfl hr2 ?_
  refine w_iload_n (n := 12) (i := 1) (by decide +kernel) rfl rfl ?_
  subst h
  exact w_ireturn (by decide +kernel) (w_okI (by decide +kernel))
theorem t_168 {X : ak_X} {M : ak_M} {r : ak_O × ak_M} (hL : ab_lay M) (h : (∃ i1 : Nat, ab_ix 1 i1 245 ∧ r = (.inl (some (.int (ak_I M 484 i1))), M))) : rn X 168 [.ref 483] M r := by
  refine w_rn (nL := 1) (l1 := [some (.ref 483)]) (by decide +kernel) rfl rfl ?_
  refine w_aload_n (n := 1) (i := 0) (by decide +kernel) rfl rfl ?_
  refine w_getR (n := 4) hL (by decide +kernel) oO_168 fF_12_7 (at_483) (by decide) (ar_483_1) rfl ?_
  refine w_iconst (n := 5) (v := 1) (x := 1) (by decide +kernel) rfl (by decide) ?_
  obtain ⟨i1, gi1, h⟩ := h
  refine w_iald (n := 6) hL (by decide +kernel) (at_484) (an_484) gi1 rfl ?_
  subst h
  exact w_ireturn (by decide +kernel) (w_okI (by decide +kernel))
theorem t_169 {X : ak_X} {M : ak_M} {r : ak_O × ak_M} (hL : ab_lay M) (x1 : Int32) (h : (∃ (v2 : Int32) (M1 : ak_M), ab_lay M1 ∧ rn X 168 [.ref 483] M (.inl (some (.int v2)), M1) ∧ (∃ (v4 : Int32) (M3 : ak_M), ab_lay M3 ∧ rn X 157 [.long (x1.toInt64), .long 0, .long ((v2 - 1).toInt64)] M1 (.inl (some (.int v4)), M3) ∧ ((v4 = 0 ∨ v4 = 1) ∧ r = (.inl (some (.int v4)), M3))))) : rn X 169 [.ref 483, .int x1] M r := by
  refine w_rn (nL := 2) (l1 := [some (.ref 483), some (.int x1)]) (by decide +kernel) rfl rfl ?_
  refine w_iload_n (n := 1) (i := 1) (by decide +kernel) rfl rfl ?_
  refine w_i2l (n := 2) (by decide +kernel) rfl ?_
  refine w_lconst (n := 3) (v := 0) (x := 0) (by decide +kernel) rfl (by decide) ?_
  refine w_aload_n (n := 4) (i := 0) (by decide +kernel) rfl rfl ?_
  obtain ⟨v2, M1, hLM1, hr7, h⟩ := h
  refine w_cV (n := 7) (idx := 80) (cal := 168) (na := 0) (nl := 1) (as := []) (rest := [.long 0, .long (x1.toInt64)]) hL (by decide +kernel) (by decide +kernel) (at_483) (by decide +kernel) rfl rfl rfl (Nat.le_of_ble_eq_true rfl) rfl hr7 ?_
  refine w_iconst (n := 8) (v := 1) (x := 1) (by decide +kernel) rfl (by decide) ?_
  refine w_isub (n := 9) (by decide +kernel) rfl ?_
  refine w_i2l (n := 10) (by decide +kernel) rfl ?_
  obtain ⟨v4, M3, hLM3, hr6, h⟩ := h
  refine w_cS (n := 13) (idx := 84) (cal := 157) (na := 3) (nl := 6) (as := [.long (x1.toInt64), .long 0, .long ((v2 - 1).toInt64)]) (rest := []) (by decide +kernel) (by decide +kernel) rfl rfl rfl (Nat.le_of_ble_eq_true rfl) rfl hr6 ?_
  obtain ⟨g5, rfl⟩ := h
  exact w_ireturn (by decide +kernel) (w_okZ (by decide +kernel) g5)
theorem t_170 {X : ak_X} {M : ak_M} {r : ak_O × ak_M} (hL : ab_lay M) (x1 : Int32) (x2 : Int32) (h : (∃ (v2 : Int32) (M1 : ak_M), ab_lay M1 ∧ rn X 169 [.ref 483, .int x1] M (.inl (some (.int v2)), M1) ∧ (if v2 = 0 then r = (.inl (some (.int 0)), M1) else (∃ (v4 : Int32) (M3 : ak_M), ab_lay M3 ∧ rn X 169 [.ref 483, .int x2] M1 (.inl (some (.int v4)), M3) ∧ (if v4 = 0 then r = (.inl (some (.int 0)), M3) else r = (.inl (some (.int 1)), M3)))))) : rn X 170 [.ref 483, .int x1, .int x2] M r := by
  refine w_rn (nL := 3) (l1 := [some (.ref 483), some (.int x1), some (.int x2)]) (by decide +kernel) rfl rfl ?_
  refine w_aload_n (n := 1) (i := 0) (by decide +kernel) rfl rfl ?_
  refine w_iload_n (n := 2) (i := 1) (by decide +kernel) rfl rfl ?_
  obtain ⟨v2, M1, hLM1, hr8, h⟩ := h
  refine w_cV (n := 5) (idx := 88) (cal := 169) (na := 1) (nl := 2) (as := [.int x1]) (rest := []) hL (by decide +kernel) (by decide +kernel) (at_483) (by decide +kernel) rfl rfl rfl (Nat.le_of_ble_eq_true rfl) rfl hr8 ?_
  by_cases c7 : v2 = 0
  · rw [if_pos c7] at h
    refine w_if_eq_j (n := 20) (off := 15) (by decide +kernel) (by decide) c7 ?_
    refine w_iconst (n := 21) (v := 0) (x := 0) (by decide +kernel) rfl (by decide) ?_
    subst h
    exact w_ireturn (by decide +kernel) (by decide +kernel)
  · rw [if_neg c7] at h
    refine w_if_eq_n (n := 8) (off := 15) (by decide +kernel) rfl c7 ?_
    refine w_aload_n (n := 9) (i := 0) (by decide +kernel) rfl rfl ?_
    refine w_iload_n (n := 10) (i := 2) (by decide +kernel) rfl rfl ?_
    obtain ⟨v4, M3, hLM3, hr6, h⟩ := h
    refine w_cV (n := 13) (idx := 88) (cal := 169) (na := 1) (nl := 2) (as := [.int x2]) (rest := []) hLM1 (by decide +kernel) (by decide +kernel) (at_483) (by decide +kernel) rfl rfl rfl (Nat.le_of_ble_eq_true rfl) rfl hr6 ?_
    by_cases c5 : v4 = 0
    · rw [if_pos c5] at h
      refine w_if_eq_j (n := 20) (off := 7) (by decide +kernel) (by decide) c5 ?_
      refine w_iconst (n := 21) (v := 0) (x := 0) (by decide +kernel) rfl (by decide) ?_
      subst h
      exact w_ireturn (by decide +kernel) (by decide +kernel)
    · rw [if_neg c5] at h
      refine w_if_eq_n (n := 16) (off := 7) (by decide +kernel) rfl c5 ?_
      refine w_iconst (n := 17) (v := 1) (x := 1) (by decide +kernel) rfl (by decide) ?_
      refine w_goto (n := 21) (off := 4) (by decide +kernel) (by decide) ?_
      subst h
      exact w_ireturn (by decide +kernel) (by decide +kernel)
theorem t_171 {X : ak_X} {M : ak_M} {r : ak_O × ak_M} (hL : ab_lay M) (x1 : Int32) (x2 : Int32) (h : (∃ i1 : Nat, ab_ix ((23 + (15 * x1)) + x2) i1 245 ∧ r = (.inl (some (.int (ak_I M 484 i1))), M))) : rn X 171 [.ref 483, .int x1, .int x2] M r := by
  refine w_rn (nL := 3) (l1 := [some (.ref 483), some (.int x1), some (.int x2)]) (by decide +kernel) rfl rfl ?_
  refine w_aload_n (n := 1) (i := 0) (by decide +kernel) rfl rfl ?_
  refine w_getR (n := 4) hL (by decide +kernel) oO_171 fF_12_7 (at_483) (by decide) (ar_483_1) rfl ?_
  refine w_bipush (n := 6) (v := 23) (x := 23) (by decide +kernel) rfl (by decide) ?_
  refine w_bipush (n := 8) (v := 15) (x := 15) (by decide +kernel) rfl (by decide) ?_
  refine w_iload_n (n := 9) (i := 1) (by decide +kernel) rfl rfl ?_
  refine w_imul (n := 10) (by decide +kernel) rfl ?_
  refine w_iadd (n := 11) (by decide +kernel) rfl ?_
  refine w_iload_n (n := 12) (i := 2) (by decide +kernel) rfl rfl ?_
  refine w_iadd (n := 13) (by decide +kernel) rfl ?_
  obtain ⟨i1, gi1, h⟩ := h
  refine w_iald (n := 14) hL (by decide +kernel) (at_484) (an_484) gi1 rfl ?_
  subst h
  exact w_ireturn (by decide +kernel) (w_okI (by decide +kernel))
theorem t_172 {X : ak_X} {M : ak_M} {r : ak_O × ak_M} (hL : ab_lay M) (x1 : Int32) (x2 : Int32) (x3 : Int32) (h : (∃ i1 : Nat, ab_ix ((23 + (15 * x1)) + x2) i1 245 ∧ (∀ M2 : ak_M, M2 = ak_sI M 484 i1 x3 → r = (.inl none, M2)))) : rn X 172 [.ref 483, .int x1, .int x2, .int x3] M r := by
  refine w_rn (nL := 4) (l1 := [some (.ref 483), some (.int x1), some (.int x2), some (.int x3)]) (by decide +kernel) rfl rfl ?_
  refine w_aload_n (n := 1) (i := 0) (by decide +kernel) rfl rfl ?_
  refine w_getR (n := 4) hL (by decide +kernel) oO_172 fF_12_7 (at_483) (by decide) (ar_483_1) rfl ?_
  refine w_bipush (n := 6) (v := 23) (x := 23) (by decide +kernel) rfl (by decide) ?_
  refine w_bipush (n := 8) (v := 15) (x := 15) (by decide +kernel) rfl (by decide) ?_
  refine w_iload_n (n := 9) (i := 1) (by decide +kernel) rfl rfl ?_
  refine w_imul (n := 10) (by decide +kernel) rfl ?_
  refine w_iadd (n := 11) (by decide +kernel) rfl ?_
  refine w_iload_n (n := 12) (i := 2) (by decide +kernel) rfl rfl ?_
  refine w_iadd (n := 13) (by decide +kernel) rfl ?_
  refine w_iload_n (n := 14) (i := 3) (by decide +kernel) rfl rfl ?_
  obtain ⟨i1, gi1, h⟩ := h
  refine w_iast (n := 15) hL (by decide +kernel) (at_484) (an_484) gi1 rfl ?_
  generalize eM2 : ak_sI M 484 i1 x3 = M2
  have hLM2 : ab_lay M2 := by rw [← eM2]; exact ab_lay.sI hL
  replace h := h M2 eM2.symm
  subst h
  exact w_vreturn (by decide +kernel) (by decide +kernel)
theorem t_173 {X : ak_X} {M : ak_M} {r : ak_O × ak_M} (hL : ab_lay M) (x1 : Int32) (x2 : Int32) (x3 : Int32) (h : (∃ (v2 : Int32) (M1 : ak_M), ab_lay M1 ∧ rn X 171 [.ref 483, .int x1, .int x2] M (.inl (some (.int v2)), M1) ∧ (∃ (M3 : ak_M), ab_lay M3 ∧ rn X 172 [.ref 483, .int x1, .int x2, .int (v2 + x3)] M1 (.inl (none), M3) ∧ r = (.inl none, M3)))) : rn X 173 [.ref 483, .int x1, .int x2, .int x3] M r := by
  refine w_rn (nL := 4) (l1 := [some (.ref 483), some (.int x1), some (.int x2), some (.int x3)]) (by decide +kernel) rfl rfl ?_
  refine w_aload_n (n := 1) (i := 0) (by decide +kernel) rfl rfl ?_
  refine w_iload_n (n := 2) (i := 1) (by decide +kernel) rfl rfl ?_
  refine w_iload_n (n := 3) (i := 2) (by decide +kernel) rfl rfl ?_
  refine w_aload_n (n := 4) (i := 0) (by decide +kernel) rfl rfl ?_
  refine w_iload_n (n := 5) (i := 1) (by decide +kernel) rfl rfl ?_
  refine w_iload_n (n := 6) (i := 2) (by decide +kernel) rfl rfl ?_
  obtain ⟨v2, M1, hLM1, hr5, h⟩ := h
  refine w_cV (n := 9) (idx := 92) (cal := 171) (na := 2) (nl := 3) (as := [.int x1, .int x2]) (rest := [.int x2, .int x1, .ref 483]) hL (by decide +kernel) (by decide +kernel) (at_483) (by decide +kernel) rfl rfl rfl (Nat.le_of_ble_eq_true rfl) rfl hr5 ?_
  refine w_iload_n (n := 10) (i := 3) (by decide +kernel) rfl rfl ?_
  refine w_iadd (n := 11) (by decide +kernel) rfl ?_
  obtain ⟨M3, hLM3, hr4, h⟩ := h
  refine w_cV (n := 14) (idx := 96) (cal := 172) (na := 3) (nl := 4) (as := [.int x1, .int x2, .int (v2 + x3)]) (rest := []) hLM1 (by decide +kernel) (by decide +kernel) (at_483) (by decide +kernel) rfl rfl rfl (Nat.le_of_ble_eq_true rfl) rfl hr4 ?_
  subst h
  exact w_vreturn (by decide +kernel) (by decide +kernel)
theorem t_174 {X : ak_X} {M : ak_M} {r : ak_O × ak_M} (hL : ab_lay M) (x1 : Int32) (h : (∃ i1 : Nat, ab_ix (3 + x1) i1 245 ∧ r = (.inl (some (.int (ak_I M 484 i1))), M))) : rn X 174 [.ref 483, .int x1] M r := by
  refine w_rn (nL := 2) (l1 := [some (.ref 483), some (.int x1)]) (by decide +kernel) rfl rfl ?_
  refine w_aload_n (n := 1) (i := 0) (by decide +kernel) rfl rfl ?_
  refine w_getR (n := 4) hL (by decide +kernel) oO_174 fF_12_7 (at_483) (by decide) (ar_483_1) rfl ?_
  refine w_iconst (n := 5) (v := 3) (x := 3) (by decide +kernel) rfl (by decide) ?_
  refine w_iload_n (n := 6) (i := 1) (by decide +kernel) rfl rfl ?_
  refine w_iadd (n := 7) (by decide +kernel) rfl ?_
  obtain ⟨i1, gi1, h⟩ := h
  refine w_iald (n := 8) hL (by decide +kernel) (at_484) (an_484) gi1 rfl ?_
  subst h
  exact w_ireturn (by decide +kernel) (w_okI (by decide +kernel))
theorem t_175 {X : ak_X} {M : ak_M} {r : ak_O × ak_M} (hL : ab_lay M) (x1 : Int32) (h : (∃ (v2 : Int32) (M1 : ak_M), ab_lay M1 ∧ rn X 171 [.ref 483, .int x1, .int 0] M (.inl (some (.int v2)), M1) ∧ (if v2 = 0 then r = (.inl (some (.int 1)), M1) else r = (.inl (some (.int 0)), M1)))) : rn X 175 [.ref 483, .int x1] M r := by
  refine w_rn (nL := 2) (l1 := [some (.ref 483), some (.int x1)]) (by decide +kernel) rfl rfl ?_
  refine w_aload_n (n := 1) (i := 0) (by decide +kernel) rfl rfl ?_
  refine w_iload_n (n := 2) (i := 1) (by decide +kernel) rfl rfl ?_
  refine w_iconst (n := 3) (v := 0) (x := 0) (by decide +kernel) rfl (by decide) ?_
  obtain ⟨v2, M1, hLM1, hr4, h⟩ := h
  refine w_cV (n := 6) (idx := 92) (cal := 171) (na := 2) (nl := 3) (as := [.int x1, .int 0]) (rest := []) hL (by decide +kernel) (by decide +kernel) (at_483) (by decide +kernel) rfl rfl rfl (Nat.le_of_ble_eq_true rfl) rfl hr4 ?_
  by_cases c3 : v2 = 0
  · rw [if_pos c3] at h
    refine w_if_ne_n (n := 9) (off := 7) (by decide +kernel) rfl c3 ?_
    refine w_iconst (n := 10) (v := 1) (x := 1) (by decide +kernel) rfl (by decide) ?_
    refine w_goto (n := 14) (off := 4) (by decide +kernel) (by decide) ?_
    subst h
    exact w_ireturn (by decide +kernel) (by decide +kernel)
  · rw [if_neg c3] at h
    refine w_if_ne_j (n := 13) (off := 7) (by decide +kernel) (by decide) c3 ?_
    refine w_iconst (n := 14) (v := 0) (x := 0) (by decide +kernel) rfl (by decide) ?_
    subst h
    exact w_ireturn (by decide +kernel) (by decide +kernel)
theorem t_176 {X : ak_X} {M : ak_M} {r : ak_O × ak_M} (hL : ab_lay M) (x1 : Int32) (h : (∃ (v2 : Int32) (M1 : ak_M), ab_lay M1 ∧ rn X 175 [.ref 483, .int x1] M (.inl (some (.int v2)), M1) ∧ (if v2 = 0 then (∃ (v4 : Int32) (M3 : ak_M), ab_lay M3 ∧ rn X 171 [.ref 483, .int x1, .int 0] M1 (.inl (some (.int v4)), M3) ∧ (if v4 = 1 then r = (.inl (some (.int 1)), M3) else r = (.inl (some (.int 0)), M3))) else r = (.inl (some (.int 1)), M1)))) : rn X 176 [.ref 483, .int x1] M r := by
  refine w_rn (nL := 2) (l1 := [some (.ref 483), some (.int x1)]) (by decide +kernel) rfl rfl ?_
  refine w_aload_n (n := 1) (i := 0) (by decide +kernel) rfl rfl ?_
  refine w_iload_n (n := 2) (i := 1) (by decide +kernel) rfl rfl ?_
  obtain ⟨v2, M1, hLM1, hr8, h⟩ := h
  refine w_cV (n := 5) (idx := 99) (cal := 175) (na := 1) (nl := 2) (as := [.int x1]) (rest := []) hL (by decide +kernel) (by decide +kernel) (at_483) (by decide +kernel) rfl rfl rfl (Nat.le_of_ble_eq_true rfl) rfl hr8 ?_
  by_cases c7 : v2 = 0
  · rw [if_pos c7] at h
    refine w_if_ne_n (n := 8) (off := 13) (by decide +kernel) rfl c7 ?_
    refine w_aload_n (n := 9) (i := 0) (by decide +kernel) rfl rfl ?_
    refine w_iload_n (n := 10) (i := 1) (by decide +kernel) rfl rfl ?_
    refine w_iconst (n := 11) (v := 0) (x := 0) (by decide +kernel) rfl (by decide) ?_
    obtain ⟨v4, M3, hLM3, hr6, h⟩ := h
    refine w_cV (n := 14) (idx := 92) (cal := 171) (na := 2) (nl := 3) (as := [.int x1, .int 0]) (rest := []) hLM1 (by decide +kernel) (by decide +kernel) (at_483) (by decide +kernel) rfl rfl rfl (Nat.le_of_ble_eq_true rfl) rfl hr6 ?_
    refine w_iconst (n := 15) (v := 1) (x := 1) (by decide +kernel) rfl (by decide) ?_
    by_cases c5 : v4 = 1
    · rw [if_pos c5] at h
      refine w_icmp_ne_n (n := 18) (off := 7) (by decide +kernel) rfl c5 ?_
      refine w_iconst (n := 19) (v := 1) (x := 1) (by decide +kernel) rfl (by decide) ?_
      refine w_goto (n := 23) (off := 4) (by decide +kernel) (by decide) ?_
      subst h
      exact w_ireturn (by decide +kernel) (by decide +kernel)
    · rw [if_neg c5] at h
      refine w_icmp_ne_j (n := 22) (off := 7) (by decide +kernel) (by decide) c5 ?_
      refine w_iconst (n := 23) (v := 0) (x := 0) (by decide +kernel) rfl (by decide) ?_
      subst h
      exact w_ireturn (by decide +kernel) (by decide +kernel)
  · rw [if_neg c7] at h
    refine w_if_ne_j (n := 18) (off := 13) (by decide +kernel) (by decide) c7 ?_
    refine w_iconst (n := 19) (v := 1) (x := 1) (by decide +kernel) rfl (by decide) ?_
    refine w_goto (n := 23) (off := 4) (by decide +kernel) (by decide) ?_
    subst h
    exact w_ireturn (by decide +kernel) (by decide +kernel)
theorem t_177 {X : ak_X} {M : ak_M} {r : ak_O × ak_M} (hL : ab_lay M) (x1 : Int32) (x2 : Int32) (h : (∃ i1 : Nat, ab_ix ((11 + (3 * x1)) + x2) i1 245 ∧ r = (.inl (some (.int (ak_I M 484 i1))), M))) : rn X 177 [.ref 483, .int x1, .int x2] M r := by
  refine w_rn (nL := 3) (l1 := [some (.ref 483), some (.int x1), some (.int x2)]) (by decide +kernel) rfl rfl ?_
  refine w_aload_n (n := 1) (i := 0) (by decide +kernel) rfl rfl ?_
  refine w_getR (n := 4) hL (by decide +kernel) oO_177 fF_12_7 (at_483) (by decide) (ar_483_1) rfl ?_
  refine w_bipush (n := 6) (v := 11) (x := 11) (by decide +kernel) rfl (by decide) ?_
  refine w_iconst (n := 7) (v := 3) (x := 3) (by decide +kernel) rfl (by decide) ?_
  refine w_iload_n (n := 8) (i := 1) (by decide +kernel) rfl rfl ?_
  refine w_imul (n := 9) (by decide +kernel) rfl ?_
  refine w_iadd (n := 10) (by decide +kernel) rfl ?_
  refine w_iload_n (n := 11) (i := 2) (by decide +kernel) rfl rfl ?_
  refine w_iadd (n := 12) (by decide +kernel) rfl ?_
  obtain ⟨i1, gi1, h⟩ := h
  refine w_iald (n := 13) hL (by decide +kernel) (at_484) (an_484) gi1 rfl ?_
  subst h
  exact w_ireturn (by decide +kernel) (w_okI (by decide +kernel))
theorem t_178 {X : ak_X} {M : ak_M} {r : ak_O × ak_M} (hL : ab_lay M) (x1 : Int32) (h : sg X 178 (4, [some (.ref 483), some (.int x1), some (.int 0), some (.int 1)], [], []) M r) : rn X 178 [.ref 483, .int x1] M r := by
  refine w_rn (nL := 4) (l1 := [some (.ref 483), some (.int x1), none, none]) (by decide +kernel) rfl rfl ?_
  refine w_iconst (n := 1) (v := 0) (x := 0) (by decide +kernel) rfl (by decide) ?_
  refine w_istore_n (n := 2) (i := 2) (l1' := [some (.ref 483), some (.int x1), some (.int 0), none]) (l2' := []) (by decide +kernel) rfl (Nat.le_of_ble_eq_true rfl) rfl rfl ?_
  refine w_iconst (n := 3) (v := 1) (x := 1) (by decide +kernel) rfl (by decide) ?_
  refine w_istore_n (n := 4) (i := 3) (l1' := [some (.ref 483), some (.int x1), some (.int 0), some (.int 1)]) (l2' := []) (by decide +kernel) rfl (Nat.le_of_ble_eq_true rfl) rfl rfl ?_
  exact h
theorem t_178_4 {X : ak_X} {M : ak_M} {r : ak_O × ak_M} (hL : ab_lay M) (x1 : Int32) (y2 : Int32) (y3 : Int32) (h : (∃ i1 : Nat, ab_ix 2 i1 245 ∧ (if ak_I M 484 i1 ≤ y3 then r = (.inl (some (.int y2)), M) else (∃ (v3 : Int32) (M2 : ak_M), ab_lay M2 ∧ rn X 177 [.ref 483, .int y3, .int 0] M (.inl (some (.int v3)), M2) ∧ (if x1 < v3 then sg X 178 (4, [some (.ref 483), some (.int x1), some (.int y2), some (.int (y3 + 1))], [], []) M2 r else sg X 178 (4, [some (.ref 483), some (.int x1), some (.int y3), some (.int (y3 + 1))], [], []) M2 r))))) : sg X 178 (4, [some (.ref 483), some (.int x1), some (.int y2), some (.int y3)], [], []) M r := by
  refine w_iload_n (n := 5) (i := 3) (by decide +kernel) rfl rfl ?_
  refine w_aload_n (n := 6) (i := 0) (by decide +kernel) rfl rfl ?_
  refine w_getR (n := 9) hL (by decide +kernel) oO_178 fF_12_7 (at_483) (by decide) (ar_483_1) rfl ?_
  refine w_iconst (n := 10) (v := 2) (x := 2) (by decide +kernel) rfl (by decide) ?_
  obtain ⟨i1, gi1, h⟩ := h
  refine w_iald (n := 11) hL (by decide +kernel) (at_484) (an_484) gi1 rfl ?_
  by_cases c6 : ak_I M 484 i1 ≤ y3
  · rw [if_pos c6] at h
    refine w_icmp_ge_j (n := 32) (off := 21) (by decide +kernel) (by decide) c6 ?_
    refine w_iload_n (n := 33) (i := 2) (by decide +kernel) rfl rfl ?_
    subst h
    exact w_ireturn (by decide +kernel) (w_okI (by decide +kernel))
  · rw [if_neg c6] at h
    refine w_icmp_ge_n (n := 14) (off := 21) (by decide +kernel) rfl c6 ?_
    refine w_aload_n (n := 15) (i := 0) (by decide +kernel) rfl rfl ?_
    refine w_iload_n (n := 16) (i := 3) (by decide +kernel) rfl rfl ?_
    refine w_iconst (n := 17) (v := 0) (x := 0) (by decide +kernel) rfl (by decide) ?_
    obtain ⟨v3, M2, hLM2, hr5, h⟩ := h
    refine w_cV (n := 20) (idx := 102) (cal := 177) (na := 2) (nl := 3) (as := [.int y3, .int 0]) (rest := []) hL (by decide +kernel) (by decide +kernel) (at_483) (by decide +kernel) rfl rfl rfl (Nat.le_of_ble_eq_true rfl) rfl hr5 ?_
    refine w_iload_n (n := 21) (i := 1) (by decide +kernel) rfl rfl ?_
    by_cases c4 : x1 < v3
    · rw [if_pos c4] at h
      refine w_icmp_gt_j (n := 26) (off := 5) (by decide +kernel) (by decide) c4 ?_
      refine w_iinc (n := 29) (i := 3) (v := 1) (y := y3 + 1) (l1' := [some (.ref 483), some (.int x1), some (.int y2), some (.int (y3 + 1))]) (l2' := []) (by decide +kernel) rfl rfl rfl rfl rfl ?_
      refine w_goto (n := 4) (off := (-25)) (by decide +kernel) (by decide) ?_
      exact h
    · rw [if_neg c4] at h
      refine w_icmp_gt_n (n := 24) (off := 5) (by decide +kernel) rfl c4 ?_
      refine w_iload_n (n := 25) (i := 3) (by decide +kernel) rfl rfl ?_
      refine w_istore_n (n := 26) (i := 2) (l1' := [some (.ref 483), some (.int x1), some (.int y3), some (.int y3)]) (l2' := []) (by decide +kernel) rfl (Nat.le_of_ble_eq_true rfl) rfl rfl ?_
      refine w_iinc (n := 29) (i := 3) (v := 1) (y := y3 + 1) (l1' := [some (.ref 483), some (.int x1), some (.int y3), some (.int (y3 + 1))]) (l2' := []) (by decide +kernel) rfl rfl rfl rfl rfl ?_
      refine w_goto (n := 4) (off := (-25)) (by decide +kernel) (by decide) ?_
      exact h
theorem t_179 {X : ak_X} {M : ak_M} {r : ak_O × ak_M} (hL : ab_lay M) (x1 : Int32) (h : (∃ (v2 : Int32) (M1 : ak_M), ab_lay M1 ∧ rn X 177 [.ref 483, .int x1, .int 1] M (.inl (some (.int v2)), M1) ∧ (∃ (v4 : Int32) (M3 : ak_M), ab_lay M3 ∧ rn X 314 [.int v2] M1 (.inl (some (.int v4)), M3) ∧ (∃ (v6 : Int32) (M5 : ak_M), ab_lay M5 ∧ rn X 177 [.ref 483, .int x1, .int 2] M3 (.inl (some (.int v6)), M5) ∧ (∃ (v8 : Int32) (M7 : ak_M), ab_lay M7 ∧ rn X 314 [.int v6] M5 (.inl (some (.int v8)), M7) ∧ (∃ (v10 : Int32) (M9 : ak_M), ab_lay M9 ∧ rn X 315 [.int v4, .int v8] M7 (.inl (some (.int v10)), M9) ∧ r = (.inl (some (.int v10)), M9))))))) : rn X 179 [.ref 483, .int x1] M r := by
  refine w_rn (nL := 2) (l1 := [some (.ref 483), some (.int x1)]) (by decide +kernel) rfl rfl ?_
  refine w_aload_n (n := 1) (i := 0) (by decide +kernel) rfl rfl ?_
  refine w_iload_n (n := 2) (i := 1) (by decide +kernel) rfl rfl ?_
  refine w_iconst (n := 3) (v := 1) (x := 1) (by decide +kernel) rfl (by decide) ?_
  obtain ⟨v2, M1, hLM1, hr15, h⟩ := h
  refine w_cV (n := 6) (idx := 102) (cal := 177) (na := 2) (nl := 3) (as := [.int x1, .int 1]) (rest := []) hL (by decide +kernel) (by decide +kernel) (at_483) (by decide +kernel) rfl rfl rfl (Nat.le_of_ble_eq_true rfl) rfl hr15 ?_
  obtain ⟨v4, M3, hLM3, hr14, h⟩ := h
  refine w_cS (n := 9) (idx := 105) (cal := 314) (na := 1) (nl := 1) (as := [.int v2]) (rest := []) (by decide +kernel) (by decide +kernel) rfl rfl rfl (Nat.le_of_ble_eq_true rfl) rfl hr14 ?_
  refine w_aload_n (n := 10) (i := 0) (by decide +kernel) rfl rfl ?_
  refine w_iload_n (n := 11) (i := 1) (by decide +kernel) rfl rfl ?_
  refine w_iconst (n := 12) (v := 2) (x := 2) (by decide +kernel) rfl (by decide) ?_
  obtain ⟨v6, M5, hLM5, hr13, h⟩ := h
  refine w_cV (n := 15) (idx := 102) (cal := 177) (na := 2) (nl := 3) (as := [.int x1, .int 2]) (rest := [.int v4]) hLM3 (by decide +kernel) (by decide +kernel) (at_483) (by decide +kernel) rfl rfl rfl (Nat.le_of_ble_eq_true rfl) rfl hr13 ?_
  obtain ⟨v8, M7, hLM7, hr12, h⟩ := h
  refine w_cS (n := 18) (idx := 105) (cal := 314) (na := 1) (nl := 1) (as := [.int v6]) (rest := [.int v4]) (by decide +kernel) (by decide +kernel) rfl rfl rfl (Nat.le_of_ble_eq_true rfl) rfl hr12 ?_
  obtain ⟨v10, M9, hLM9, hr11, h⟩ := h
  refine w_cS (n := 21) (idx := 111) (cal := 315) (na := 2) (nl := 2) (as := [.int v4, .int v8]) (rest := []) (by decide +kernel) (by decide +kernel) rfl rfl rfl (Nat.le_of_ble_eq_true rfl) rfl hr11 ?_
  subst h
  exact w_ireturn (by decide +kernel) (w_okI (by decide +kernel))
theorem t_180 {X : ak_X} {M : ak_M} {r : ak_O × ak_M} (hL : ab_lay M) (x0 : Int32) (x1 : Int32) (h : sg X 180 (2, [some (.int x0), some (.int x1), some (.int 0)], [], []) M r) : rn X 180 [.int x0, .int x1] M r := by
  refine w_rn (nL := 3) (l1 := [some (.int x0), some (.int x1), none]) (by decide +kernel) rfl rfl ?_
  refine w_iconst (n := 1) (v := 0) (x := 0) (by decide +kernel) rfl (by decide) ?_
  refine w_istore_n (n := 2) (i := 2) (l1' := [some (.int x0), some (.int x1), some (.int 0)]) (l2' := []) (by decide +kernel) rfl (Nat.le_of_ble_eq_true rfl) rfl rfl ?_
  exact h
theorem t_180_2 {X : ak_X} {M : ak_M} {r : ak_O × ak_M} (hL : ab_lay M) (x0 : Int32) (x1 : Int32) (y2 : Int32) (h : (if x1 ≤ y2 then r = (.inl (some (.int y2)), M) else (if x0 < (y2 + 1) * (y2 + 1) then r = (.inl (some (.int y2)), M) else sg X 180 (2, [some (.int x0), some (.int x1), some (.int (y2 + 1))], [], []) M r))) : sg X 180 (2, [some (.int x0), some (.int x1), some (.int y2)], [], []) M r := by
  refine w_iload_n (n := 3) (i := 2) (by decide +kernel) rfl rfl ?_
  refine w_iload_n (n := 4) (i := 1) (by decide +kernel) rfl rfl ?_
  by_cases c2 : x1 ≤ y2
  · rw [if_pos c2] at h
    refine w_icmp_ge_j (n := 25) (off := 21) (by decide +kernel) (by decide) c2 ?_
    refine w_iload_n (n := 26) (i := 2) (by decide +kernel) rfl rfl ?_
    subst h
    exact w_ireturn (by decide +kernel) (w_okI (by decide +kernel))
  · rw [if_neg c2] at h
    refine w_icmp_ge_n (n := 7) (off := 21) (by decide +kernel) rfl c2 ?_
    refine w_iload_n (n := 8) (i := 2) (by decide +kernel) rfl rfl ?_
    refine w_iconst (n := 9) (v := 1) (x := 1) (by decide +kernel) rfl (by decide) ?_
    refine w_iadd (n := 10) (by decide +kernel) rfl ?_
    refine w_iload_n (n := 11) (i := 2) (by decide +kernel) rfl rfl ?_
    refine w_iconst (n := 12) (v := 1) (x := 1) (by decide +kernel) rfl (by decide) ?_
    refine w_iadd (n := 13) (by decide +kernel) rfl ?_
    refine w_imul (n := 14) (by decide +kernel) rfl ?_
    refine w_iload_n (n := 15) (i := 0) (by decide +kernel) rfl rfl ?_
    by_cases c1 : x0 < (y2 + 1) * (y2 + 1)
    · rw [if_pos c1] at h
      refine w_icmp_gt_j (n := 25) (off := 10) (by decide +kernel) (by decide) c1 ?_
      refine w_iload_n (n := 26) (i := 2) (by decide +kernel) rfl rfl ?_
      subst h
      exact w_ireturn (by decide +kernel) (w_okI (by decide +kernel))
    · rw [if_neg c1] at h
      refine w_icmp_gt_n (n := 18) (off := 10) (by decide +kernel) rfl c1 ?_
      refine w_iload_n (n := 19) (i := 2) (by decide +kernel) rfl rfl ?_
      refine w_iconst (n := 20) (v := 1) (x := 1) (by decide +kernel) rfl (by decide) ?_
      refine w_iadd (n := 21) (by decide +kernel) rfl ?_
      refine w_istore_n (n := 22) (i := 2) (l1' := [some (.int x0), some (.int x1), some (.int (y2 + 1))]) (l2' := []) (by decide +kernel) rfl (Nat.le_of_ble_eq_true rfl) rfl rfl ?_
      refine w_goto (n := 2) (off := (-20)) (by decide +kernel) (by decide) ?_
      exact h
theorem t_181 {X : ak_X} {M : ak_M} {r : ak_O × ak_M} (hL : ab_lay M) (x0 : Int32) (x1 : Int32) (x2 : Int32) (h : r = (.inl (some (.int (((x0 * x0) + (x1 * x1)) + (x2 * x2)))), M)) : rn X 181 [.int x0, .int x1, .int x2] M r := by
  refine w_rn (nL := 3) (l1 := [some (.int x0), some (.int x1), some (.int x2)]) (by decide +kernel) rfl rfl ?_
  refine w_iload_n (n := 1) (i := 0) (by decide +kernel) rfl rfl ?_
  refine w_iload_n (n := 2) (i := 0) (by decide +kernel) rfl rfl ?_
  refine w_imul (n := 3) (by decide +kernel) rfl ?_
  refine w_iload_n (n := 4) (i := 1) (by decide +kernel) rfl rfl ?_
  refine w_iload_n (n := 5) (i := 1) (by decide +kernel) rfl rfl ?_
  refine w_imul (n := 6) (by decide +kernel) rfl ?_
  refine w_iadd (n := 7) (by decide +kernel) rfl ?_
  refine w_iload_n (n := 8) (i := 2) (by decide +kernel) rfl rfl ?_
  refine w_iload_n (n := 9) (i := 2) (by decide +kernel) rfl rfl ?_
  refine w_imul (n := 10) (by decide +kernel) rfl ?_
  refine w_iadd (n := 11) (by decide +kernel) rfl ?_
  subst h
  exact w_ireturn (by decide +kernel) (w_okI (by decide +kernel))
theorem t_182 {X : ak_X} {M : ak_M} {r : ak_O × ak_M} (hL : ab_lay M) (x1 : Int32) (h : (∃ (v2 : Int32) (M1 : ak_M), ab_lay M1 ∧ rn X 171 [.ref 483, .int x1, .int 1] M (.inl (some (.int v2)), M1) ∧ (∃ (v4 : Int32) (M3 : ak_M), ab_lay M3 ∧ rn X 171 [.ref 483, .int x1, .int 4] M1 (.inl (some (.int v4)), M3) ∧ r = (.inl (some (.int (v2 - v4))), M3)))) : rn X 182 [.ref 483, .int x1] M r := by
  refine w_rn (nL := 2) (l1 := [some (.ref 483), some (.int x1)]) (by decide +kernel) rfl rfl ?_
  refine w_aload_n (n := 1) (i := 0) (by decide +kernel) rfl rfl ?_
  refine w_iload_n (n := 2) (i := 1) (by decide +kernel) rfl rfl ?_
  refine w_iconst (n := 3) (v := 1) (x := 1) (by decide +kernel) rfl (by decide) ?_
  obtain ⟨v2, M1, hLM1, hr6, h⟩ := h
  refine w_cV (n := 6) (idx := 92) (cal := 171) (na := 2) (nl := 3) (as := [.int x1, .int 1]) (rest := []) hL (by decide +kernel) (by decide +kernel) (at_483) (by decide +kernel) rfl rfl rfl (Nat.le_of_ble_eq_true rfl) rfl hr6 ?_
  refine w_aload_n (n := 7) (i := 0) (by decide +kernel) rfl rfl ?_
  refine w_iload_n (n := 8) (i := 1) (by decide +kernel) rfl rfl ?_
  refine w_iconst (n := 9) (v := 4) (x := 4) (by decide +kernel) rfl (by decide) ?_
  obtain ⟨v4, M3, hLM3, hr5, h⟩ := h
  refine w_cV (n := 12) (idx := 92) (cal := 171) (na := 2) (nl := 3) (as := [.int x1, .int 4]) (rest := [.int v2]) hLM1 (by decide +kernel) (by decide +kernel) (at_483) (by decide +kernel) rfl rfl rfl (Nat.le_of_ble_eq_true rfl) rfl hr5 ?_
  refine w_isub (n := 13) (by decide +kernel) rfl ?_
  subst h
  exact w_ireturn (by decide +kernel) (w_okI (by decide +kernel))
theorem t_183 {X : ak_X} {M : ak_M} {r : ak_O × ak_M} (hL : ab_lay M) (x1 : Int32) (h : (∃ (v2 : Int32) (M1 : ak_M), ab_lay M1 ∧ rn X 171 [.ref 483, .int x1, .int 2] M (.inl (some (.int v2)), M1) ∧ (∃ (v4 : Int32) (M3 : ak_M), ab_lay M3 ∧ rn X 171 [.ref 483, .int x1, .int 5] M1 (.inl (some (.int v4)), M3) ∧ r = (.inl (some (.int (v2 - v4))), M3)))) : rn X 183 [.ref 483, .int x1] M r := by
  refine w_rn (nL := 2) (l1 := [some (.ref 483), some (.int x1)]) (by decide +kernel) rfl rfl ?_
  refine w_aload_n (n := 1) (i := 0) (by decide +kernel) rfl rfl ?_
  refine w_iload_n (n := 2) (i := 1) (by decide +kernel) rfl rfl ?_
  refine w_iconst (n := 3) (v := 2) (x := 2) (by decide +kernel) rfl (by decide) ?_
  obtain ⟨v2, M1, hLM1, hr6, h⟩ := h
  refine w_cV (n := 6) (idx := 92) (cal := 171) (na := 2) (nl := 3) (as := [.int x1, .int 2]) (rest := []) hL (by decide +kernel) (by decide +kernel) (at_483) (by decide +kernel) rfl rfl rfl (Nat.le_of_ble_eq_true rfl) rfl hr6 ?_
  refine w_aload_n (n := 7) (i := 0) (by decide +kernel) rfl rfl ?_
  refine w_iload_n (n := 8) (i := 1) (by decide +kernel) rfl rfl ?_
  refine w_iconst (n := 9) (v := 5) (x := 5) (by decide +kernel) rfl (by decide) ?_
  obtain ⟨v4, M3, hLM3, hr5, h⟩ := h
  refine w_cV (n := 12) (idx := 92) (cal := 171) (na := 2) (nl := 3) (as := [.int x1, .int 5]) (rest := [.int v2]) hLM1 (by decide +kernel) (by decide +kernel) (at_483) (by decide +kernel) rfl rfl rfl (Nat.le_of_ble_eq_true rfl) rfl hr5 ?_
  refine w_isub (n := 13) (by decide +kernel) rfl ?_
  subst h
  exact w_ireturn (by decide +kernel) (w_okI (by decide +kernel))
theorem t_184 {X : ak_X} {M : ak_M} {r : ak_O × ak_M} (hL : ab_lay M) (x1 : Int32) (h : (∃ (v2 : Int32) (M1 : ak_M), ab_lay M1 ∧ rn X 182 [.ref 483, .int x1] M (.inl (some (.int v2)), M1) ∧ (∃ (v4 : Int32) (M3 : ak_M), ab_lay M3 ∧ rn X 183 [.ref 483, .int x1] M1 (.inl (some (.int v4)), M3) ∧ (∃ (v6 : Int32) (M5 : ak_M), ab_lay M5 ∧ rn X 171 [.ref 483, .int x1, .int 3] M3 (.inl (some (.int v6)), M5) ∧ (∃ (v8 : Int32) (M7 : ak_M), ab_lay M7 ∧ rn X 181 [.int v2, .int v4, .int v6] M5 (.inl (some (.int v8)), M7) ∧ (∃ (v10 : Int32) (M9 : ak_M), ab_lay M9 ∧ rn X 180 [.int v8, .int 1000] M7 (.inl (some (.int v10)), M9) ∧ r = (.inl (some (.int v10)), M9))))))) : rn X 184 [.ref 483, .int x1] M r := by
  refine w_rn (nL := 2) (l1 := [some (.ref 483), some (.int x1)]) (by decide +kernel) rfl rfl ?_
  refine w_aload_n (n := 1) (i := 0) (by decide +kernel) rfl rfl ?_
  refine w_iload_n (n := 2) (i := 1) (by decide +kernel) rfl rfl ?_
  obtain ⟨v2, M1, hLM1, hr15, h⟩ := h
  refine w_cV (n := 5) (idx := 114) (cal := 182) (na := 1) (nl := 2) (as := [.int x1]) (rest := []) hL (by decide +kernel) (by decide +kernel) (at_483) (by decide +kernel) rfl rfl rfl (Nat.le_of_ble_eq_true rfl) rfl hr15 ?_
  refine w_aload_n (n := 6) (i := 0) (by decide +kernel) rfl rfl ?_
  refine w_iload_n (n := 7) (i := 1) (by decide +kernel) rfl rfl ?_
  obtain ⟨v4, M3, hLM3, hr14, h⟩ := h
  refine w_cV (n := 10) (idx := 117) (cal := 183) (na := 1) (nl := 2) (as := [.int x1]) (rest := [.int v2]) hLM1 (by decide +kernel) (by decide +kernel) (at_483) (by decide +kernel) rfl rfl rfl (Nat.le_of_ble_eq_true rfl) rfl hr14 ?_
  refine w_aload_n (n := 11) (i := 0) (by decide +kernel) rfl rfl ?_
  refine w_iload_n (n := 12) (i := 1) (by decide +kernel) rfl rfl ?_
  refine w_iconst (n := 13) (v := 3) (x := 3) (by decide +kernel) rfl (by decide) ?_
  obtain ⟨v6, M5, hLM5, hr13, h⟩ := h
  refine w_cV (n := 16) (idx := 92) (cal := 171) (na := 2) (nl := 3) (as := [.int x1, .int 3]) (rest := [.int v4, .int v2]) hLM3 (by decide +kernel) (by decide +kernel) (at_483) (by decide +kernel) rfl rfl rfl (Nat.le_of_ble_eq_true rfl) rfl hr13 ?_
  obtain ⟨v8, M7, hLM7, hr12, h⟩ := h
  refine w_cS (n := 19) (idx := 120) (cal := 181) (na := 3) (nl := 3) (as := [.int v2, .int v4, .int v6]) (rest := []) (by decide +kernel) (by decide +kernel) rfl rfl rfl (Nat.le_of_ble_eq_true rfl) rfl hr12 ?_
  refine w_sipush (n := 22) (v := 1000) (x := 1000) (by decide +kernel) rfl (by decide) ?_
  obtain ⟨v10, M9, hLM9, hr11, h⟩ := h
  refine w_cS (n := 25) (idx := 124) (cal := 180) (na := 2) (nl := 2) (as := [.int v8, .int 1000]) (rest := []) (by decide +kernel) (by decide +kernel) rfl rfl rfl (Nat.le_of_ble_eq_true rfl) rfl hr11 ?_
  subst h
  exact w_ireturn (by decide +kernel) (w_okI (by decide +kernel))
theorem t_185 {X : ak_X} {M : ak_M} {r : ak_O × ak_M} (hL : ab_lay M) (x1 : Int32) (h : (∃ (v2 : Int32) (M1 : ak_M), ab_lay M1 ∧ rn X 171 [.ref 483, .int x1, .int 6] M (.inl (some (.int v2)), M1) ∧ (∃ (v4 : Int32) (M3 : ak_M), ab_lay M3 ∧ rn X 184 [.ref 483, .int x1] M1 (.inl (some (.int v4)), M3) ∧ r = (.inl (some (.int (v2 - v4))), M3)))) : rn X 185 [.ref 483, .int x1] M r := by
  refine w_rn (nL := 2) (l1 := [some (.ref 483), some (.int x1)]) (by decide +kernel) rfl rfl ?_
  refine w_aload_n (n := 1) (i := 0) (by decide +kernel) rfl rfl ?_
  refine w_iload_n (n := 2) (i := 1) (by decide +kernel) rfl rfl ?_
  refine w_bipush (n := 4) (v := 6) (x := 6) (by decide +kernel) rfl (by decide) ?_
  obtain ⟨v2, M1, hLM1, hr6, h⟩ := h
  refine w_cV (n := 7) (idx := 92) (cal := 171) (na := 2) (nl := 3) (as := [.int x1, .int 6]) (rest := []) hL (by decide +kernel) (by decide +kernel) (at_483) (by decide +kernel) rfl rfl rfl (Nat.le_of_ble_eq_true rfl) rfl hr6 ?_
  refine w_aload_n (n := 8) (i := 0) (by decide +kernel) rfl rfl ?_
  refine w_iload_n (n := 9) (i := 1) (by decide +kernel) rfl rfl ?_
  obtain ⟨v4, M3, hLM3, hr5, h⟩ := h
  refine w_cV (n := 12) (idx := 127) (cal := 184) (na := 1) (nl := 2) (as := [.int x1]) (rest := [.int v2]) hLM1 (by decide +kernel) (by decide +kernel) (at_483) (by decide +kernel) rfl rfl rfl (Nat.le_of_ble_eq_true rfl) rfl hr5 ?_
  refine w_isub (n := 13) (by decide +kernel) rfl ?_
  subst h
  exact w_ireturn (by decide +kernel) (w_okI (by decide +kernel))
theorem t_186 {X : ak_X} {M : ak_M} {r : ak_O × ak_M} (hL : ab_lay M) (x1 : Int32) (x2 : Int32) (x3 : Int32) (x4 : Int32) (x5 : Int32) (h : (∃ i1 : Nat, ab_ix 9 i1 245 ∧ (if ak_I M 484 i1 = 12 then sg X 186 (17, [some (.ref 483), some (.int x1), some (.int x2), some (.int x3), some (.int x4), some (.int x5), some (.int 173)], [], []) M r else (∃ i2 : Nat, ab_ix 9 i2 245 ∧ (∀ z3 : Int32, z3 = 173 + (6 * (ak_I M 484 i2)) → (∃ i4 : Nat, ab_ix 0 i4 245 ∧ (∃ i5 : Nat, ab_ix z3 i5 245 ∧ (∀ M6 : ak_M, M6 = ak_sI M 484 i5 (ak_I M 484 i4) → (∃ i7 : Nat, ab_ix (z3 + 1) i7 245 ∧ (∀ M8 : ak_M, M8 = ak_sI M6 484 i7 x1 → (∃ i9 : Nat, ab_ix (z3 + 2) i9 245 ∧ (∀ M10 : ak_M, M10 = ak_sI M8 484 i9 x2 → (∃ i11 : Nat, ab_ix (z3 + 3) i11 245 ∧ (∀ M12 : ak_M, M12 = ak_sI M10 484 i11 x3 → (∃ i13 : Nat, ab_ix (z3 + 4) i13 245 ∧ (∀ M14 : ak_M, M14 = ak_sI M12 484 i13 x4 → (∃ i15 : Nat, ab_ix (z3 + 5) i15 245 ∧ (∀ M16 : ak_M, M16 = ak_sI M14 484 i15 x5 → (∃ i17 : Nat, ab_ix 9 i17 245 ∧ (∃ i18 : Nat, ab_ix 9 i18 245 ∧ (∀ M19 : ak_M, M19 = ak_sI M16 484 i18 ((ak_I M16 484 i17) + 1) → r = (.inl none, M19)))))))))))))))))))))) : rn X 186 [.ref 483, .int x1, .int x2, .int x3, .int x4, .int x5] M r := by
  refine w_rn (nL := 7) (l1 := [some (.ref 483), some (.int x1), some (.int x2), some (.int x3), some (.int x4), some (.int x5), none]) (by decide +kernel) rfl rfl ?_
  refine w_aload_n (n := 1) (i := 0) (by decide +kernel) rfl rfl ?_
  refine w_getR (n := 4) hL (by decide +kernel) oO_186 fF_12_7 (at_483) (by decide) (ar_483_1) rfl ?_
  refine w_bipush (n := 6) (v := 9) (x := 9) (by decide +kernel) rfl (by decide) ?_
  obtain ⟨i1, gi1, h⟩ := h
  refine w_iald (n := 7) hL (by decide +kernel) (at_484) (an_484) gi1 rfl ?_
  refine w_bipush (n := 9) (v := 12) (x := 12) (by decide +kernel) rfl (by decide) ?_
  by_cases c20 : ak_I M 484 i1 = 12
  · rw [if_pos c20] at h
    refine w_icmp_ne_n (n := 12) (off := 55) (by decide +kernel) rfl c20 ?_
    refine w_sipush (n := 15) (v := 173) (x := 173) (by decide +kernel) rfl (by decide) ?_
    refine w_istore (n := 17) (i := 6) (l1' := [some (.ref 483), some (.int x1), some (.int x2), some (.int x3), some (.int x4), some (.int x5), some (.int 173)]) (l2' := []) (by decide +kernel) rfl (Nat.le_of_ble_eq_true rfl) rfl rfl ?_
    exact h
  · rw [if_neg c20] at h
    refine w_icmp_ne_j (n := 64) (off := 55) (by decide +kernel) (by decide) c20 ?_
    refine w_sipush (n := 67) (v := 173) (x := 173) (by decide +kernel) rfl (by decide) ?_
    refine w_bipush (n := 69) (v := 6) (x := 6) (by decide +kernel) rfl (by decide) ?_
    refine w_aload_n (n := 70) (i := 0) (by decide +kernel) rfl rfl ?_
    refine w_getR (n := 73) hL (by decide +kernel) oO_186 fF_12_7 (at_483) (by decide) (ar_483_1) rfl ?_
    refine w_bipush (n := 75) (v := 9) (x := 9) (by decide +kernel) rfl (by decide) ?_
    obtain ⟨i2, gi2, h⟩ := h
    refine w_iald (n := 76) hL (by decide +kernel) (at_484) (an_484) gi2 rfl ?_
    refine w_imul (n := 77) (by decide +kernel) rfl ?_
    refine w_iadd (n := 78) (by decide +kernel) rfl ?_
    refine w_istore (n := 80) (i := 6) (l1' := [some (.ref 483), some (.int x1), some (.int x2), some (.int x3), some (.int x4), some (.int x5), some (.int (173 + (6 * (ak_I M 484 i2))))]) (l2' := []) (by decide +kernel) rfl (Nat.le_of_ble_eq_true rfl) rfl rfl ?_
    generalize ez3 : 173 + (6 * (ak_I M 484 i2)) = z3
    replace h := h z3 ez3.symm
    refine w_aload_n (n := 81) (i := 0) (by decide +kernel) rfl rfl ?_
    refine w_getR (n := 84) hL (by decide +kernel) oO_186 fF_12_7 (at_483) (by decide) (ar_483_1) rfl ?_
    refine w_iload (n := 86) (i := 6) (by decide +kernel) rfl rfl ?_
    refine w_aload_n (n := 87) (i := 0) (by decide +kernel) rfl rfl ?_
    refine w_getR (n := 90) hL (by decide +kernel) oO_186 fF_12_7 (at_483) (by decide) (ar_483_1) rfl ?_
    refine w_iconst (n := 91) (v := 0) (x := 0) (by decide +kernel) rfl (by decide) ?_
    obtain ⟨i4, gi4, h⟩ := h
    refine w_iald (n := 92) hL (by decide +kernel) (at_484) (an_484) gi4 rfl ?_
    obtain ⟨i5, gi5, h⟩ := h
    refine w_iast (n := 93) hL (by decide +kernel) (at_484) (an_484) gi5 rfl ?_
    generalize eM6 : ak_sI M 484 i5 (ak_I M 484 i4) = M6
    have hLM6 : ab_lay M6 := by rw [← eM6]; exact ab_lay.sI hL
    replace h := h M6 eM6.symm
    refine w_aload_n (n := 94) (i := 0) (by decide +kernel) rfl rfl ?_
    refine w_getR (n := 97) hLM6 (by decide +kernel) oO_186 fF_12_7 (at_483) (by decide) (ar_483_1) rfl ?_
    refine w_iload (n := 99) (i := 6) (by decide +kernel) rfl rfl ?_
    refine w_iconst (n := 100) (v := 1) (x := 1) (by decide +kernel) rfl (by decide) ?_
    refine w_iadd (n := 101) (by decide +kernel) rfl ?_
    refine w_iload_n (n := 102) (i := 1) (by decide +kernel) rfl rfl ?_
    obtain ⟨i7, gi7, h⟩ := h
    refine w_iast (n := 103) hLM6 (by decide +kernel) (at_484) (an_484) gi7 rfl ?_
    generalize eM8 : ak_sI M6 484 i7 x1 = M8
    have hLM8 : ab_lay M8 := by rw [← eM8]; exact ab_lay.sI hLM6
    replace h := h M8 eM8.symm
    refine w_aload_n (n := 104) (i := 0) (by decide +kernel) rfl rfl ?_
    refine w_getR (n := 107) hLM8 (by decide +kernel) oO_186 fF_12_7 (at_483) (by decide) (ar_483_1) rfl ?_
    refine w_iload (n := 109) (i := 6) (by decide +kernel) rfl rfl ?_
    refine w_iconst (n := 110) (v := 2) (x := 2) (by decide +kernel) rfl (by decide) ?_
    refine w_iadd (n := 111) (by decide +kernel) rfl ?_
    refine w_iload_n (n := 112) (i := 2) (by decide +kernel) rfl rfl ?_
    obtain ⟨i9, gi9, h⟩ := h
    refine w_iast (n := 113) hLM8 (by decide +kernel) (at_484) (an_484) gi9 rfl ?_
    generalize eM10 : ak_sI M8 484 i9 x2 = M10
    have hLM10 : ab_lay M10 := by rw [← eM10]; exact ab_lay.sI hLM8
    replace h := h M10 eM10.symm
    refine w_aload_n (n := 114) (i := 0) (by decide +kernel) rfl rfl ?_
    refine w_getR (n := 117) hLM10 (by decide +kernel) oO_186 fF_12_7 (at_483) (by decide) (ar_483_1) rfl ?_
    refine w_iload (n := 119) (i := 6) (by decide +kernel) rfl rfl ?_
    refine w_iconst (n := 120) (v := 3) (x := 3) (by decide +kernel) rfl (by decide) ?_
    refine w_iadd (n := 121) (by decide +kernel) rfl ?_
    refine w_iload_n (n := 122) (i := 3) (by decide +kernel) rfl rfl ?_
    obtain ⟨i11, gi11, h⟩ := h
    refine w_iast (n := 123) hLM10 (by decide +kernel) (at_484) (an_484) gi11 rfl ?_
    generalize eM12 : ak_sI M10 484 i11 x3 = M12
    have hLM12 : ab_lay M12 := by rw [← eM12]; exact ab_lay.sI hLM10
    replace h := h M12 eM12.symm
    refine w_aload_n (n := 124) (i := 0) (by decide +kernel) rfl rfl ?_
    refine w_getR (n := 127) hLM12 (by decide +kernel) oO_186 fF_12_7 (at_483) (by decide) (ar_483_1) rfl ?_
    refine w_iload (n := 129) (i := 6) (by decide +kernel) rfl rfl ?_
    refine w_iconst (n := 130) (v := 4) (x := 4) (by decide +kernel) rfl (by decide) ?_
    refine w_iadd (n := 131) (by decide +kernel) rfl ?_
    refine w_iload (n := 133) (i := 4) (by decide +kernel) rfl rfl ?_
    obtain ⟨i13, gi13, h⟩ := h
    refine w_iast (n := 134) hLM12 (by decide +kernel) (at_484) (an_484) gi13 rfl ?_
    generalize eM14 : ak_sI M12 484 i13 x4 = M14
    have hLM14 : ab_lay M14 := by rw [← eM14]; exact ab_lay.sI hLM12
    replace h := h M14 eM14.symm
    refine w_aload_n (n := 135) (i := 0) (by decide +kernel) rfl rfl ?_
    refine w_getR (n := 138) hLM14 (by decide +kernel) oO_186 fF_12_7 (at_483) (by decide) (ar_483_1) rfl ?_
    refine w_iload (n := 140) (i := 6) (by decide +kernel) rfl rfl ?_
    refine w_iconst (n := 141) (v := 5) (x := 5) (by decide +kernel) rfl (by decide) ?_
    refine w_iadd (n := 142) (by decide +kernel) rfl ?_
    refine w_iload (n := 144) (i := 5) (by decide +kernel) rfl rfl ?_
    obtain ⟨i15, gi15, h⟩ := h
    refine w_iast (n := 145) hLM14 (by decide +kernel) (at_484) (an_484) gi15 rfl ?_
    generalize eM16 : ak_sI M14 484 i15 x5 = M16
    have hLM16 : ab_lay M16 := by rw [← eM16]; exact ab_lay.sI hLM14
    replace h := h M16 eM16.symm
    refine w_aload_n (n := 146) (i := 0) (by decide +kernel) rfl rfl ?_
    refine w_getR (n := 149) hLM16 (by decide +kernel) oO_186 fF_12_7 (at_483) (by decide) (ar_483_1) rfl ?_
    refine w_bipush (n := 151) (v := 9) (x := 9) (by decide +kernel) rfl (by decide) ?_
    refine w_aload_n (n := 152) (i := 0) (by decide +kernel) rfl rfl ?_
    refine w_getR (n := 155) hLM16 (by decide +kernel) oO_186 fF_12_7 (at_483) (by decide) (ar_483_1) rfl ?_
    refine w_bipush (n := 157) (v := 9) (x := 9) (by decide +kernel) rfl (by decide) ?_
    obtain ⟨i17, gi17, h⟩ := h
    refine w_iald (n := 158) hLM16 (by decide +kernel) (at_484) (an_484) gi17 rfl ?_
    refine w_iconst (n := 159) (v := 1) (x := 1) (by decide +kernel) rfl (by decide) ?_
    refine w_iadd (n := 160) (by decide +kernel) rfl ?_
    obtain ⟨i18, gi18, h⟩ := h
    refine w_iast (n := 161) hLM16 (by decide +kernel) (at_484) (an_484) gi18 rfl ?_
    generalize eM19 : ak_sI M16 484 i18 ((ak_I M16 484 i17) + 1) = M19
    have hLM19 : ab_lay M19 := by rw [← eM19]; exact ab_lay.sI hLM16
    replace h := h M19 eM19.symm
    subst h
    exact w_vreturn (by decide +kernel) (by decide +kernel)
theorem t_186_17 {X : ak_X} {M : ak_M} {r : ak_O × ak_M} (hL : ab_lay M) (x1 : Int32) (x2 : Int32) (x3 : Int32) (x4 : Int32) (x5 : Int32) (y6 : Int32) (h : (if 239 ≤ y6 then (∃ i21 : Nat, ab_ix 9 i21 245 ∧ (∃ i22 : Nat, ab_ix 9 i22 245 ∧ (∀ M23 : ak_M, M23 = ak_sI M 484 i22 ((ak_I M 484 i21) - 1) → (∃ i24 : Nat, ab_ix 9 i24 245 ∧ (∀ z25 : Int32, z25 = 173 + (6 * (ak_I M23 484 i24)) → (∃ i26 : Nat, ab_ix 0 i26 245 ∧ (∃ i27 : Nat, ab_ix z25 i27 245 ∧ (∀ M28 : ak_M, M28 = ak_sI M23 484 i27 (ak_I M23 484 i26) → (∃ i29 : Nat, ab_ix (z25 + 1) i29 245 ∧ (∀ M30 : ak_M, M30 = ak_sI M28 484 i29 x1 → (∃ i31 : Nat, ab_ix (z25 + 2) i31 245 ∧ (∀ M32 : ak_M, M32 = ak_sI M30 484 i31 x2 → (∃ i33 : Nat, ab_ix (z25 + 3) i33 245 ∧ (∀ M34 : ak_M, M34 = ak_sI M32 484 i33 x3 → (∃ i35 : Nat, ab_ix (z25 + 4) i35 245 ∧ (∀ M36 : ak_M, M36 = ak_sI M34 484 i35 x4 → (∃ i37 : Nat, ab_ix (z25 + 5) i37 245 ∧ (∀ M38 : ak_M, M38 = ak_sI M36 484 i37 x5 → (∃ i39 : Nat, ab_ix 9 i39 245 ∧ (∃ i40 : Nat, ab_ix 9 i40 245 ∧ (∀ M41 : ak_M, M41 = ak_sI M38 484 i40 ((ak_I M38 484 i39) + 1) → r = (.inl none, M41)))))))))))))))))))))) else (∃ i42 : Nat, ab_ix (y6 + 6) i42 245 ∧ (∃ i43 : Nat, ab_ix y6 i43 245 ∧ (∀ M44 : ak_M, M44 = ak_sI M 484 i43 (ak_I M 484 i42) → sg X 186 (17, [some (.ref 483), some (.int x1), some (.int x2), some (.int x3), some (.int x4), some (.int x5), some (.int (y6 + 1))], [], []) M44 r))))) : sg X 186 (17, [some (.ref 483), some (.int x1), some (.int x2), some (.int x3), some (.int x4), some (.int x5), some (.int y6)], [], []) M r := by
  refine w_iload (n := 19) (i := 6) (by decide +kernel) rfl rfl ?_
  refine w_sipush (n := 22) (v := 239) (x := 239) (by decide +kernel) rfl (by decide) ?_
  by_cases c45 : 239 ≤ y6
  · rw [if_pos c45] at h
    refine w_icmp_ge_j (n := 48) (off := 26) (by decide +kernel) (by decide) c45 ?_
    refine w_aload_n (n := 49) (i := 0) (by decide +kernel) rfl rfl ?_
    refine w_getR (n := 52) hL (by decide +kernel) oO_186 fF_12_7 (at_483) (by decide) (ar_483_1) rfl ?_
    refine w_bipush (n := 54) (v := 9) (x := 9) (by decide +kernel) rfl (by decide) ?_
    refine w_aload_n (n := 55) (i := 0) (by decide +kernel) rfl rfl ?_
    refine w_getR (n := 58) hL (by decide +kernel) oO_186 fF_12_7 (at_483) (by decide) (ar_483_1) rfl ?_
    refine w_bipush (n := 60) (v := 9) (x := 9) (by decide +kernel) rfl (by decide) ?_
    obtain ⟨i21, gi21, h⟩ := h
    refine w_iald (n := 61) hL (by decide +kernel) (at_484) (an_484) gi21 rfl ?_
    refine w_iconst (n := 62) (v := 1) (x := 1) (by decide +kernel) rfl (by decide) ?_
    refine w_isub (n := 63) (by decide +kernel) rfl ?_
    obtain ⟨i22, gi22, h⟩ := h
    refine w_iast (n := 64) hL (by decide +kernel) (at_484) (an_484) gi22 rfl ?_
    generalize eM23 : ak_sI M 484 i22 ((ak_I M 484 i21) - 1) = M23
    have hLM23 : ab_lay M23 := by rw [← eM23]; exact ab_lay.sI hL
    replace h := h M23 eM23.symm
    refine w_sipush (n := 67) (v := 173) (x := 173) (by decide +kernel) rfl (by decide) ?_
    refine w_bipush (n := 69) (v := 6) (x := 6) (by decide +kernel) rfl (by decide) ?_
    refine w_aload_n (n := 70) (i := 0) (by decide +kernel) rfl rfl ?_
    refine w_getR (n := 73) hLM23 (by decide +kernel) oO_186 fF_12_7 (at_483) (by decide) (ar_483_1) rfl ?_
    refine w_bipush (n := 75) (v := 9) (x := 9) (by decide +kernel) rfl (by decide) ?_
    obtain ⟨i24, gi24, h⟩ := h
    refine w_iald (n := 76) hLM23 (by decide +kernel) (at_484) (an_484) gi24 rfl ?_
    refine w_imul (n := 77) (by decide +kernel) rfl ?_
    refine w_iadd (n := 78) (by decide +kernel) rfl ?_
    refine w_istore (n := 80) (i := 6) (l1' := [some (.ref 483), some (.int x1), some (.int x2), some (.int x3), some (.int x4), some (.int x5), some (.int (173 + (6 * (ak_I M23 484 i24))))]) (l2' := []) (by decide +kernel) rfl (Nat.le_of_ble_eq_true rfl) rfl rfl ?_
    generalize ez25 : 173 + (6 * (ak_I M23 484 i24)) = z25
    replace h := h z25 ez25.symm
    refine w_aload_n (n := 81) (i := 0) (by decide +kernel) rfl rfl ?_
    refine w_getR (n := 84) hLM23 (by decide +kernel) oO_186 fF_12_7 (at_483) (by decide) (ar_483_1) rfl ?_
    refine w_iload (n := 86) (i := 6) (by decide +kernel) rfl rfl ?_
    refine w_aload_n (n := 87) (i := 0) (by decide +kernel) rfl rfl ?_
    refine w_getR (n := 90) hLM23 (by decide +kernel) oO_186 fF_12_7 (at_483) (by decide) (ar_483_1) rfl ?_
    refine w_iconst (n := 91) (v := 0) (x := 0) (by decide +kernel) rfl (by decide) ?_
    obtain ⟨i26, gi26, h⟩ := h
    refine w_iald (n := 92) hLM23 (by decide +kernel) (at_484) (an_484) gi26 rfl ?_
    obtain ⟨i27, gi27, h⟩ := h
    refine w_iast (n := 93) hLM23 (by decide +kernel) (at_484) (an_484) gi27 rfl ?_
    generalize eM28 : ak_sI M23 484 i27 (ak_I M23 484 i26) = M28
    have hLM28 : ab_lay M28 := by rw [← eM28]; exact ab_lay.sI hLM23
    replace h := h M28 eM28.symm
    refine w_aload_n (n := 94) (i := 0) (by decide +kernel) rfl rfl ?_
    refine w_getR (n := 97) hLM28 (by decide +kernel) oO_186 fF_12_7 (at_483) (by decide) (ar_483_1) rfl ?_
    refine w_iload (n := 99) (i := 6) (by decide +kernel) rfl rfl ?_
    refine w_iconst (n := 100) (v := 1) (x := 1) (by decide +kernel) rfl (by decide) ?_
    refine w_iadd (n := 101) (by decide +kernel) rfl ?_
    refine w_iload_n (n := 102) (i := 1) (by decide +kernel) rfl rfl ?_
    obtain ⟨i29, gi29, h⟩ := h
    refine w_iast (n := 103) hLM28 (by decide +kernel) (at_484) (an_484) gi29 rfl ?_
    generalize eM30 : ak_sI M28 484 i29 x1 = M30
    have hLM30 : ab_lay M30 := by rw [← eM30]; exact ab_lay.sI hLM28
    replace h := h M30 eM30.symm
    refine w_aload_n (n := 104) (i := 0) (by decide +kernel) rfl rfl ?_
    refine w_getR (n := 107) hLM30 (by decide +kernel) oO_186 fF_12_7 (at_483) (by decide) (ar_483_1) rfl ?_
    refine w_iload (n := 109) (i := 6) (by decide +kernel) rfl rfl ?_
    refine w_iconst (n := 110) (v := 2) (x := 2) (by decide +kernel) rfl (by decide) ?_
    refine w_iadd (n := 111) (by decide +kernel) rfl ?_
    refine w_iload_n (n := 112) (i := 2) (by decide +kernel) rfl rfl ?_
    obtain ⟨i31, gi31, h⟩ := h
    refine w_iast (n := 113) hLM30 (by decide +kernel) (at_484) (an_484) gi31 rfl ?_
    generalize eM32 : ak_sI M30 484 i31 x2 = M32
    have hLM32 : ab_lay M32 := by rw [← eM32]; exact ab_lay.sI hLM30
    replace h := h M32 eM32.symm
    refine w_aload_n (n := 114) (i := 0) (by decide +kernel) rfl rfl ?_
    refine w_getR (n := 117) hLM32 (by decide +kernel) oO_186 fF_12_7 (at_483) (by decide) (ar_483_1) rfl ?_
    refine w_iload (n := 119) (i := 6) (by decide +kernel) rfl rfl ?_
    refine w_iconst (n := 120) (v := 3) (x := 3) (by decide +kernel) rfl (by decide) ?_
    refine w_iadd (n := 121) (by decide +kernel) rfl ?_
    refine w_iload_n (n := 122) (i := 3) (by decide +kernel) rfl rfl ?_
    obtain ⟨i33, gi33, h⟩ := h
    refine w_iast (n := 123) hLM32 (by decide +kernel) (at_484) (an_484) gi33 rfl ?_
    generalize eM34 : ak_sI M32 484 i33 x3 = M34
    have hLM34 : ab_lay M34 := by rw [← eM34]; exact ab_lay.sI hLM32
    replace h := h M34 eM34.symm
    refine w_aload_n (n := 124) (i := 0) (by decide +kernel) rfl rfl ?_
    refine w_getR (n := 127) hLM34 (by decide +kernel) oO_186 fF_12_7 (at_483) (by decide) (ar_483_1) rfl ?_
    refine w_iload (n := 129) (i := 6) (by decide +kernel) rfl rfl ?_
    refine w_iconst (n := 130) (v := 4) (x := 4) (by decide +kernel) rfl (by decide) ?_
    refine w_iadd (n := 131) (by decide +kernel) rfl ?_
    refine w_iload (n := 133) (i := 4) (by decide +kernel) rfl rfl ?_
    obtain ⟨i35, gi35, h⟩ := h
    refine w_iast (n := 134) hLM34 (by decide +kernel) (at_484) (an_484) gi35 rfl ?_
    generalize eM36 : ak_sI M34 484 i35 x4 = M36
    have hLM36 : ab_lay M36 := by rw [← eM36]; exact ab_lay.sI hLM34
    replace h := h M36 eM36.symm
    refine w_aload_n (n := 135) (i := 0) (by decide +kernel) rfl rfl ?_
    refine w_getR (n := 138) hLM36 (by decide +kernel) oO_186 fF_12_7 (at_483) (by decide) (ar_483_1) rfl ?_
    refine w_iload (n := 140) (i := 6) (by decide +kernel) rfl rfl ?_
    refine w_iconst (n := 141) (v := 5) (x := 5) (by decide +kernel) rfl (by decide) ?_
    refine w_iadd (n := 142) (by decide +kernel) rfl ?_
    refine w_iload (n := 144) (i := 5) (by decide +kernel) rfl rfl ?_
    obtain ⟨i37, gi37, h⟩ := h
    refine w_iast (n := 145) hLM36 (by decide +kernel) (at_484) (an_484) gi37 rfl ?_
    generalize eM38 : ak_sI M36 484 i37 x5 = M38
    have hLM38 : ab_lay M38 := by rw [← eM38]; exact ab_lay.sI hLM36
    replace h := h M38 eM38.symm
    refine w_aload_n (n := 146) (i := 0) (by decide +kernel) rfl rfl ?_
    refine w_getR (n := 149) hLM38 (by decide +kernel) oO_186 fF_12_7 (at_483) (by decide) (ar_483_1) rfl ?_
    refine w_bipush (n := 151) (v := 9) (x := 9) (by decide +kernel) rfl (by decide) ?_
    refine w_aload_n (n := 152) (i := 0) (by decide +kernel) rfl rfl ?_
    refine w_getR (n := 155) hLM38 (by decide +kernel) oO_186 fF_12_7 (at_483) (by decide) (ar_483_1) rfl ?_
    refine w_bipush (n := 157) (v := 9) (x := 9) (by decide +kernel) rfl (by decide) ?_
    obtain ⟨i39, gi39, h⟩ := h
    refine w_iald (n := 158) hLM38 (by decide +kernel) (at_484) (an_484) gi39 rfl ?_
    refine w_iconst (n := 159) (v := 1) (x := 1) (by decide +kernel) rfl (by decide) ?_
    refine w_iadd (n := 160) (by decide +kernel) rfl ?_
    obtain ⟨i40, gi40, h⟩ := h
    refine w_iast (n := 161) hLM38 (by decide +kernel) (at_484) (an_484) gi40 rfl ?_
    generalize eM41 : ak_sI M38 484 i40 ((ak_I M38 484 i39) + 1) = M41
    have hLM41 : ab_lay M41 := by rw [← eM41]; exact ab_lay.sI hLM38
    replace h := h M41 eM41.symm
    subst h
    exact w_vreturn (by decide +kernel) (by decide +kernel)
  · rw [if_neg c45] at h
    refine w_icmp_ge_n (n := 25) (off := 26) (by decide +kernel) rfl c45 ?_
    refine w_aload_n (n := 26) (i := 0) (by decide +kernel) rfl rfl ?_
    refine w_getR (n := 29) hL (by decide +kernel) oO_186 fF_12_7 (at_483) (by decide) (ar_483_1) rfl ?_
    refine w_iload (n := 31) (i := 6) (by decide +kernel) rfl rfl ?_
    refine w_aload_n (n := 32) (i := 0) (by decide +kernel) rfl rfl ?_
    refine w_getR (n := 35) hL (by decide +kernel) oO_186 fF_12_7 (at_483) (by decide) (ar_483_1) rfl ?_
    refine w_iload (n := 37) (i := 6) (by decide +kernel) rfl rfl ?_
    refine w_bipush (n := 39) (v := 6) (x := 6) (by decide +kernel) rfl (by decide) ?_
    refine w_iadd (n := 40) (by decide +kernel) rfl ?_
    obtain ⟨i42, gi42, h⟩ := h
    refine w_iald (n := 41) hL (by decide +kernel) (at_484) (an_484) gi42 rfl ?_
    obtain ⟨i43, gi43, h⟩ := h
    refine w_iast (n := 42) hL (by decide +kernel) (at_484) (an_484) gi43 rfl ?_
    generalize eM44 : ak_sI M 484 i43 (ak_I M 484 i42) = M44
    have hLM44 : ab_lay M44 := by rw [← eM44]; exact ab_lay.sI hL
    replace h := h M44 eM44.symm
    refine w_iinc (n := 45) (i := 6) (v := 1) (y := y6 + 1) (l1' := [some (.ref 483), some (.int x1), some (.int x2), some (.int x3), some (.int x4), some (.int x5), some (.int (y6 + 1))]) (l2' := []) (by decide +kernel) rfl rfl rfl rfl rfl ?_
    refine w_goto (n := 17) (off := (-28)) (by decide +kernel) (by decide) ?_
    exact h
theorem t_187 {X : ak_X} {M : ak_M} {r : ak_O × ak_M} (hL : ab_lay M) (x1 : Int32) (x2 : Int32) (x3 : Int32) (h : (∃ (v2 : Int32) (M1 : ak_M), ab_lay M1 ∧ rn X 171 [.ref 483, .int x2, .int 1] M (.inl (some (.int v2)), M1) ∧ (∃ (v4 : Int32) (M3 : ak_M), ab_lay M3 ∧ rn X 171 [.ref 483, .int x2, .int 2] M1 (.inl (some (.int v4)), M3) ∧ (∃ (M5 : ak_M), ab_lay M5 ∧ rn X 186 [.ref 483, .int x1, .int x2, .int x3, .int v2, .int v4] M3 (.inl (none), M5) ∧ r = (.inl none, M5))))) : rn X 187 [.ref 483, .int x1, .int x2, .int x3] M r := by
  refine w_rn (nL := 4) (l1 := [some (.ref 483), some (.int x1), some (.int x2), some (.int x3)]) (by decide +kernel) rfl rfl ?_
  refine w_aload_n (n := 1) (i := 0) (by decide +kernel) rfl rfl ?_
  refine w_iload_n (n := 2) (i := 1) (by decide +kernel) rfl rfl ?_
  refine w_iload_n (n := 3) (i := 2) (by decide +kernel) rfl rfl ?_
  refine w_iload_n (n := 4) (i := 3) (by decide +kernel) rfl rfl ?_
  refine w_aload_n (n := 5) (i := 0) (by decide +kernel) rfl rfl ?_
  refine w_iload_n (n := 6) (i := 2) (by decide +kernel) rfl rfl ?_
  refine w_iconst (n := 7) (v := 1) (x := 1) (by decide +kernel) rfl (by decide) ?_
  obtain ⟨v2, M1, hLM1, hr8, h⟩ := h
  refine w_cV (n := 10) (idx := 92) (cal := 171) (na := 2) (nl := 3) (as := [.int x2, .int 1]) (rest := [.int x3, .int x2, .int x1, .ref 483]) hL (by decide +kernel) (by decide +kernel) (at_483) (by decide +kernel) rfl rfl rfl (Nat.le_of_ble_eq_true rfl) rfl hr8 ?_
  refine w_aload_n (n := 11) (i := 0) (by decide +kernel) rfl rfl ?_
  refine w_iload_n (n := 12) (i := 2) (by decide +kernel) rfl rfl ?_
  refine w_iconst (n := 13) (v := 2) (x := 2) (by decide +kernel) rfl (by decide) ?_
  obtain ⟨v4, M3, hLM3, hr7, h⟩ := h
  refine w_cV (n := 16) (idx := 92) (cal := 171) (na := 2) (nl := 3) (as := [.int x2, .int 2]) (rest := [.int v2, .int x3, .int x2, .int x1, .ref 483]) hLM1 (by decide +kernel) (by decide +kernel) (at_483) (by decide +kernel) rfl rfl rfl (Nat.le_of_ble_eq_true rfl) rfl hr7 ?_
  obtain ⟨M5, hLM5, hr6, h⟩ := h
  refine w_cV (n := 19) (idx := 130) (cal := 186) (na := 5) (nl := 6) (as := [.int x1, .int x2, .int x3, .int v2, .int v4]) (rest := []) hLM3 (by decide +kernel) (by decide +kernel) (at_483) (by decide +kernel) rfl rfl rfl (Nat.le_of_ble_eq_true rfl) rfl hr6 ?_
  subst h
  exact w_vreturn (by decide +kernel) (by decide +kernel)
theorem t_188 {X : ak_X} {M : ak_M} {r : ak_O × ak_M} (hL : ab_lay M) (x0 : Int32) (x1 : Int32) (x2 : Int32) (x3 : Int32) (h : r = (.inl (some (.int ((x0 * x3) - (x1 * x2)))), M)) : rn X 188 [.int x0, .int x1, .int x2, .int x3] M r := by
  refine w_rn (nL := 4) (l1 := [some (.int x0), some (.int x1), some (.int x2), some (.int x3)]) (by decide +kernel) rfl rfl ?_
  refine w_iload_n (n := 1) (i := 0) (by decide +kernel) rfl rfl ?_
  refine w_iload_n (n := 2) (i := 3) (by decide +kernel) rfl rfl ?_
  refine w_imul (n := 3) (by decide +kernel) rfl ?_
  refine w_iload_n (n := 4) (i := 1) (by decide +kernel) rfl rfl ?_
  refine w_iload_n (n := 5) (i := 2) (by decide +kernel) rfl rfl ?_
  refine w_imul (n := 6) (by decide +kernel) rfl ?_
  refine w_isub (n := 7) (by decide +kernel) rfl ?_
  subst h
  exact w_ireturn (by decide +kernel) (w_okI (by decide +kernel))
theorem t_189 {X : ak_X} {M : ak_M} {r : ak_O × ak_M} (hL : ab_lay M) (x0 : Int32) (h : (if x0 ≤ 0 then (if 0 ≤ x0 then r = (.inl (some (.int 0)), M) else r = (.inl (some (.int ((-1)))), M)) else r = (.inl (some (.int 1)), M))) : rn X 189 [.int x0] M r := by
  refine w_rn (nL := 1) (l1 := [some (.int x0)]) (by decide +kernel) rfl rfl ?_
  refine w_iload_n (n := 1) (i := 0) (by decide +kernel) rfl rfl ?_
  by_cases c2 : x0 ≤ 0
  · rw [if_pos c2] at h
    refine w_if_le_j (n := 8) (off := 7) (by decide +kernel) (by decide) c2 ?_
    refine w_iload_n (n := 9) (i := 0) (by decide +kernel) rfl rfl ?_
    by_cases c1 : 0 ≤ x0
    · rw [if_pos c1] at h
      refine w_if_ge_j (n := 16) (off := 7) (by decide +kernel) (by decide) c1 ?_
      refine w_iconst (n := 17) (v := 0) (x := 0) (by decide +kernel) rfl (by decide) ?_
      subst h
      exact w_ireturn (by decide +kernel) (w_okI (by decide +kernel))
    · rw [if_neg c1] at h
      refine w_if_ge_n (n := 12) (off := 7) (by decide +kernel) rfl c1 ?_
      refine w_iconst (n := 13) (v := -1) (x := (-1)) (by decide +kernel) rfl (by decide) ?_
      refine w_goto (n := 17) (off := 4) (by decide +kernel) (by decide) ?_
      subst h
      exact w_ireturn (by decide +kernel) (w_okI (by decide +kernel))
  · rw [if_neg c2] at h
    refine w_if_le_n (n := 4) (off := 7) (by decide +kernel) rfl c2 ?_
    refine w_iconst (n := 5) (v := 1) (x := 1) (by decide +kernel) rfl (by decide) ?_
    refine w_goto (n := 17) (off := 12) (by decide +kernel) (by decide) ?_
    subst h
    exact w_ireturn (by decide +kernel) (w_okI (by decide +kernel))
theorem t_190 {X : ak_X} {M : ak_M} {r : ak_O × ak_M} (hL : ab_lay M) (x1 : Int32) (x2 : Int32) (x3 : Int32) (h : (∃ (v2 : Int32) (M1 : ak_M), ab_lay M1 ∧ rn X 182 [.ref 483, .int x1] M (.inl (some (.int v2)), M1) ∧ (∃ (v4 : Int32) (M3 : ak_M), ab_lay M3 ∧ rn X 183 [.ref 483, .int x1] M1 (.inl (some (.int v4)), M3) ∧ (∃ (v6 : Int32) (M5 : ak_M), ab_lay M5 ∧ rn X 171 [.ref 483, .int x1, .int 4] M3 (.inl (some (.int v6)), M5) ∧ (∃ (v8 : Int32) (M7 : ak_M), ab_lay M7 ∧ rn X 171 [.ref 483, .int x1, .int 5] M5 (.inl (some (.int v8)), M7) ∧ (∃ (v10 : Int32) (M9 : ak_M), ab_lay M9 ∧ rn X 188 [.int v2, .int v4, .int (x2 - v6), .int (x3 - v8)] M7 (.inl (some (.int v10)), M9) ∧ (∃ (v12 : Int32) (M11 : ak_M), ab_lay M11 ∧ rn X 189 [.int v10] M9 (.inl (some (.int v12)), M11) ∧ r = (.inl (some (.int v12)), M11)))))))) : rn X 190 [.ref 483, .int x1, .int x2, .int x3] M r := by
  refine w_rn (nL := 4) (l1 := [some (.ref 483), some (.int x1), some (.int x2), some (.int x3)]) (by decide +kernel) rfl rfl ?_
  refine w_aload_n (n := 1) (i := 0) (by decide +kernel) rfl rfl ?_
  refine w_iload_n (n := 2) (i := 1) (by decide +kernel) rfl rfl ?_
  obtain ⟨v2, M1, hLM1, hr18, h⟩ := h
  refine w_cV (n := 5) (idx := 114) (cal := 182) (na := 1) (nl := 2) (as := [.int x1]) (rest := []) hL (by decide +kernel) (by decide +kernel) (at_483) (by decide +kernel) rfl rfl rfl (Nat.le_of_ble_eq_true rfl) rfl hr18 ?_
  refine w_aload_n (n := 6) (i := 0) (by decide +kernel) rfl rfl ?_
  refine w_iload_n (n := 7) (i := 1) (by decide +kernel) rfl rfl ?_
  obtain ⟨v4, M3, hLM3, hr17, h⟩ := h
  refine w_cV (n := 10) (idx := 117) (cal := 183) (na := 1) (nl := 2) (as := [.int x1]) (rest := [.int v2]) hLM1 (by decide +kernel) (by decide +kernel) (at_483) (by decide +kernel) rfl rfl rfl (Nat.le_of_ble_eq_true rfl) rfl hr17 ?_
  refine w_iload_n (n := 11) (i := 2) (by decide +kernel) rfl rfl ?_
  refine w_aload_n (n := 12) (i := 0) (by decide +kernel) rfl rfl ?_
  refine w_iload_n (n := 13) (i := 1) (by decide +kernel) rfl rfl ?_
  refine w_iconst (n := 14) (v := 4) (x := 4) (by decide +kernel) rfl (by decide) ?_
  obtain ⟨v6, M5, hLM5, hr16, h⟩ := h
  refine w_cV (n := 17) (idx := 92) (cal := 171) (na := 2) (nl := 3) (as := [.int x1, .int 4]) (rest := [.int x2, .int v4, .int v2]) hLM3 (by decide +kernel) (by decide +kernel) (at_483) (by decide +kernel) rfl rfl rfl (Nat.le_of_ble_eq_true rfl) rfl hr16 ?_
  refine w_isub (n := 18) (by decide +kernel) rfl ?_
  refine w_iload_n (n := 19) (i := 3) (by decide +kernel) rfl rfl ?_
  refine w_aload_n (n := 20) (i := 0) (by decide +kernel) rfl rfl ?_
  refine w_iload_n (n := 21) (i := 1) (by decide +kernel) rfl rfl ?_
  refine w_iconst (n := 22) (v := 5) (x := 5) (by decide +kernel) rfl (by decide) ?_
  obtain ⟨v8, M7, hLM7, hr15, h⟩ := h
  refine w_cV (n := 25) (idx := 92) (cal := 171) (na := 2) (nl := 3) (as := [.int x1, .int 5]) (rest := [.int x3, .int (x2 - v6), .int v4, .int v2]) hLM5 (by decide +kernel) (by decide +kernel) (at_483) (by decide +kernel) rfl rfl rfl (Nat.le_of_ble_eq_true rfl) rfl hr15 ?_
  refine w_isub (n := 26) (by decide +kernel) rfl ?_
  obtain ⟨v10, M9, hLM9, hr14, h⟩ := h
  refine w_cS (n := 29) (idx := 134) (cal := 188) (na := 4) (nl := 4) (as := [.int v2, .int v4, .int (x2 - v6), .int (x3 - v8)]) (rest := []) (by decide +kernel) (by decide +kernel) rfl rfl rfl (Nat.le_of_ble_eq_true rfl) rfl hr14 ?_
  obtain ⟨v12, M11, hLM11, hr13, h⟩ := h
  refine w_cS (n := 32) (idx := 138) (cal := 189) (na := 1) (nl := 1) (as := [.int v10]) (rest := []) (by decide +kernel) (by decide +kernel) rfl rfl rfl (Nat.le_of_ble_eq_true rfl) rfl hr13 ?_
  subst h
  exact w_ireturn (by decide +kernel) (w_okI (by decide +kernel))
theorem t_191 {X : ak_X} {M : ak_M} {r : ak_O × ak_M} (hL : ab_lay M) (x1 : Int32) (x2 : Int32) (h : (∃ (v2 : Int32) (M1 : ak_M), ab_lay M1 ∧ rn X 171 [.ref 483, .int x2, .int 4] M (.inl (some (.int v2)), M1) ∧ (∃ (v4 : Int32) (M3 : ak_M), ab_lay M3 ∧ rn X 171 [.ref 483, .int x2, .int 5] M1 (.inl (some (.int v4)), M3) ∧ (∃ (v6 : Int32) (M5 : ak_M), ab_lay M5 ∧ rn X 190 [.ref 483, .int x1, .int v2, .int v4] M3 (.inl (some (.int v6)), M5) ∧ (∃ (v8 : Int32) (M7 : ak_M), ab_lay M7 ∧ rn X 171 [.ref 483, .int x2, .int 1] M5 (.inl (some (.int v8)), M7) ∧ (∃ (v10 : Int32) (M9 : ak_M), ab_lay M9 ∧ rn X 171 [.ref 483, .int x2, .int 2] M7 (.inl (some (.int v10)), M9) ∧ (∃ (v12 : Int32) (M11 : ak_M), ab_lay M11 ∧ rn X 190 [.ref 483, .int x1, .int v8, .int v10] M9 (.inl (some (.int v12)), M11) ∧ (if 0 ≤ v6 * v12 then r = (.inl (some (.int 0)), M11) else r = (.inl (some (.int 1)), M11))))))))) : rn X 191 [.ref 483, .int x1, .int x2] M r := by
  refine w_rn (nL := 3) (l1 := [some (.ref 483), some (.int x1), some (.int x2)]) (by decide +kernel) rfl rfl ?_
  refine w_aload_n (n := 1) (i := 0) (by decide +kernel) rfl rfl ?_
  refine w_iload_n (n := 2) (i := 1) (by decide +kernel) rfl rfl ?_
  refine w_aload_n (n := 3) (i := 0) (by decide +kernel) rfl rfl ?_
  refine w_iload_n (n := 4) (i := 2) (by decide +kernel) rfl rfl ?_
  refine w_iconst (n := 5) (v := 4) (x := 4) (by decide +kernel) rfl (by decide) ?_
  obtain ⟨v2, M1, hLM1, hr19, h⟩ := h
  refine w_cV (n := 8) (idx := 92) (cal := 171) (na := 2) (nl := 3) (as := [.int x2, .int 4]) (rest := [.int x1, .ref 483]) hL (by decide +kernel) (by decide +kernel) (at_483) (by decide +kernel) rfl rfl rfl (Nat.le_of_ble_eq_true rfl) rfl hr19 ?_
  refine w_aload_n (n := 9) (i := 0) (by decide +kernel) rfl rfl ?_
  refine w_iload_n (n := 10) (i := 2) (by decide +kernel) rfl rfl ?_
  refine w_iconst (n := 11) (v := 5) (x := 5) (by decide +kernel) rfl (by decide) ?_
  obtain ⟨v4, M3, hLM3, hr18, h⟩ := h
  refine w_cV (n := 14) (idx := 92) (cal := 171) (na := 2) (nl := 3) (as := [.int x2, .int 5]) (rest := [.int v2, .int x1, .ref 483]) hLM1 (by decide +kernel) (by decide +kernel) (at_483) (by decide +kernel) rfl rfl rfl (Nat.le_of_ble_eq_true rfl) rfl hr18 ?_
  obtain ⟨v6, M5, hLM5, hr17, h⟩ := h
  refine w_cV (n := 17) (idx := 141) (cal := 190) (na := 3) (nl := 4) (as := [.int x1, .int v2, .int v4]) (rest := []) hLM3 (by decide +kernel) (by decide +kernel) (at_483) (by decide +kernel) rfl rfl rfl (Nat.le_of_ble_eq_true rfl) rfl hr17 ?_
  refine w_aload_n (n := 18) (i := 0) (by decide +kernel) rfl rfl ?_
  refine w_iload_n (n := 19) (i := 1) (by decide +kernel) rfl rfl ?_
  refine w_aload_n (n := 20) (i := 0) (by decide +kernel) rfl rfl ?_
  refine w_iload_n (n := 21) (i := 2) (by decide +kernel) rfl rfl ?_
  refine w_iconst (n := 22) (v := 1) (x := 1) (by decide +kernel) rfl (by decide) ?_
  obtain ⟨v8, M7, hLM7, hr16, h⟩ := h
  refine w_cV (n := 25) (idx := 92) (cal := 171) (na := 2) (nl := 3) (as := [.int x2, .int 1]) (rest := [.int x1, .ref 483, .int v6]) hLM5 (by decide +kernel) (by decide +kernel) (at_483) (by decide +kernel) rfl rfl rfl (Nat.le_of_ble_eq_true rfl) rfl hr16 ?_
  refine w_aload_n (n := 26) (i := 0) (by decide +kernel) rfl rfl ?_
  refine w_iload_n (n := 27) (i := 2) (by decide +kernel) rfl rfl ?_
  refine w_iconst (n := 28) (v := 2) (x := 2) (by decide +kernel) rfl (by decide) ?_
  obtain ⟨v10, M9, hLM9, hr15, h⟩ := h
  refine w_cV (n := 31) (idx := 92) (cal := 171) (na := 2) (nl := 3) (as := [.int x2, .int 2]) (rest := [.int v8, .int x1, .ref 483, .int v6]) hLM7 (by decide +kernel) (by decide +kernel) (at_483) (by decide +kernel) rfl rfl rfl (Nat.le_of_ble_eq_true rfl) rfl hr15 ?_
  obtain ⟨v12, M11, hLM11, hr14, h⟩ := h
  refine w_cV (n := 34) (idx := 141) (cal := 190) (na := 3) (nl := 4) (as := [.int x1, .int v8, .int v10]) (rest := [.int v6]) hLM9 (by decide +kernel) (by decide +kernel) (at_483) (by decide +kernel) rfl rfl rfl (Nat.le_of_ble_eq_true rfl) rfl hr14 ?_
  refine w_imul (n := 35) (by decide +kernel) rfl ?_
  by_cases c13 : 0 ≤ v6 * v12
  · rw [if_pos c13] at h
    refine w_if_ge_j (n := 42) (off := 7) (by decide +kernel) (by decide) c13 ?_
    refine w_iconst (n := 43) (v := 0) (x := 0) (by decide +kernel) rfl (by decide) ?_
    subst h
    exact w_ireturn (by decide +kernel) (by decide +kernel)
  · rw [if_neg c13] at h
    refine w_if_ge_n (n := 38) (off := 7) (by decide +kernel) rfl c13 ?_
    refine w_iconst (n := 39) (v := 1) (x := 1) (by decide +kernel) rfl (by decide) ?_
    refine w_goto (n := 43) (off := 4) (by decide +kernel) (by decide) ?_
    subst h
    exact w_ireturn (by decide +kernel) (by decide +kernel)
theorem t_192 {X : ak_X} {M : ak_M} {r : ak_O × ak_M} (hL : ab_lay M) (x1 : Int32) (x2 : Int32) (h : (∃ (v2 : Int32) (M1 : ak_M), ab_lay M1 ∧ rn X 175 [.ref 483, .int x1] M (.inl (some (.int v2)), M1) ∧ (if v2 = 0 then r = (.inl (some (.int 0)), M1) else (∃ (v4 : Int32) (M3 : ak_M), ab_lay M3 ∧ rn X 175 [.ref 483, .int x2] M1 (.inl (some (.int v4)), M3) ∧ (if v4 = 0 then r = (.inl (some (.int 0)), M3) else (∃ (v6 : Int32) (M5 : ak_M), ab_lay M5 ∧ rn X 191 [.ref 483, .int x1, .int x2] M3 (.inl (some (.int v6)), M5) ∧ (if v6 = 0 then r = (.inl (some (.int 0)), M5) else (∃ (v8 : Int32) (M7 : ak_M), ab_lay M7 ∧ rn X 191 [.ref 483, .int x2, .int x1] M5 (.inl (some (.int v8)), M7) ∧ (if v8 = 0 then r = (.inl (some (.int 0)), M7) else r = (.inl (some (.int 1)), M7)))))))))) : rn X 192 [.ref 483, .int x1, .int x2] M r := by
  refine w_rn (nL := 3) (l1 := [some (.ref 483), some (.int x1), some (.int x2)]) (by decide +kernel) rfl rfl ?_
  refine w_aload_n (n := 1) (i := 0) (by decide +kernel) rfl rfl ?_
  refine w_iload_n (n := 2) (i := 1) (by decide +kernel) rfl rfl ?_
  obtain ⟨v2, M1, hLM1, hr16, h⟩ := h
  refine w_cV (n := 5) (idx := 99) (cal := 175) (na := 1) (nl := 2) (as := [.int x1]) (rest := []) hL (by decide +kernel) (by decide +kernel) (at_483) (by decide +kernel) rfl rfl rfl (Nat.le_of_ble_eq_true rfl) rfl hr16 ?_
  by_cases c15 : v2 = 0
  · rw [if_pos c15] at h
    refine w_if_eq_j (n := 38) (off := 33) (by decide +kernel) (by decide) c15 ?_
    refine w_iconst (n := 39) (v := 0) (x := 0) (by decide +kernel) rfl (by decide) ?_
    subst h
    exact w_ireturn (by decide +kernel) (by decide +kernel)
  · rw [if_neg c15] at h
    refine w_if_eq_n (n := 8) (off := 33) (by decide +kernel) rfl c15 ?_
    refine w_aload_n (n := 9) (i := 0) (by decide +kernel) rfl rfl ?_
    refine w_iload_n (n := 10) (i := 2) (by decide +kernel) rfl rfl ?_
    obtain ⟨v4, M3, hLM3, hr14, h⟩ := h
    refine w_cV (n := 13) (idx := 99) (cal := 175) (na := 1) (nl := 2) (as := [.int x2]) (rest := []) hLM1 (by decide +kernel) (by decide +kernel) (at_483) (by decide +kernel) rfl rfl rfl (Nat.le_of_ble_eq_true rfl) rfl hr14 ?_
    by_cases c13 : v4 = 0
    · rw [if_pos c13] at h
      refine w_if_eq_j (n := 38) (off := 25) (by decide +kernel) (by decide) c13 ?_
      refine w_iconst (n := 39) (v := 0) (x := 0) (by decide +kernel) rfl (by decide) ?_
      subst h
      exact w_ireturn (by decide +kernel) (by decide +kernel)
    · rw [if_neg c13] at h
      refine w_if_eq_n (n := 16) (off := 25) (by decide +kernel) rfl c13 ?_
      refine w_aload_n (n := 17) (i := 0) (by decide +kernel) rfl rfl ?_
      refine w_iload_n (n := 18) (i := 1) (by decide +kernel) rfl rfl ?_
      refine w_iload_n (n := 19) (i := 2) (by decide +kernel) rfl rfl ?_
      obtain ⟨v6, M5, hLM5, hr12, h⟩ := h
      refine w_cV (n := 22) (idx := 144) (cal := 191) (na := 2) (nl := 3) (as := [.int x1, .int x2]) (rest := []) hLM3 (by decide +kernel) (by decide +kernel) (at_483) (by decide +kernel) rfl rfl rfl (Nat.le_of_ble_eq_true rfl) rfl hr12 ?_
      by_cases c11 : v6 = 0
      · rw [if_pos c11] at h
        refine w_if_eq_j (n := 38) (off := 16) (by decide +kernel) (by decide) c11 ?_
        refine w_iconst (n := 39) (v := 0) (x := 0) (by decide +kernel) rfl (by decide) ?_
        subst h
        exact w_ireturn (by decide +kernel) (by decide +kernel)
      · rw [if_neg c11] at h
        refine w_if_eq_n (n := 25) (off := 16) (by decide +kernel) rfl c11 ?_
        refine w_aload_n (n := 26) (i := 0) (by decide +kernel) rfl rfl ?_
        refine w_iload_n (n := 27) (i := 2) (by decide +kernel) rfl rfl ?_
        refine w_iload_n (n := 28) (i := 1) (by decide +kernel) rfl rfl ?_
        obtain ⟨v8, M7, hLM7, hr10, h⟩ := h
        refine w_cV (n := 31) (idx := 144) (cal := 191) (na := 2) (nl := 3) (as := [.int x2, .int x1]) (rest := []) hLM5 (by decide +kernel) (by decide +kernel) (at_483) (by decide +kernel) rfl rfl rfl (Nat.le_of_ble_eq_true rfl) rfl hr10 ?_
        by_cases c9 : v8 = 0
        · rw [if_pos c9] at h
          refine w_if_eq_j (n := 38) (off := 7) (by decide +kernel) (by decide) c9 ?_
          refine w_iconst (n := 39) (v := 0) (x := 0) (by decide +kernel) rfl (by decide) ?_
          subst h
          exact w_ireturn (by decide +kernel) (by decide +kernel)
        · rw [if_neg c9] at h
          refine w_if_eq_n (n := 34) (off := 7) (by decide +kernel) rfl c9 ?_
          refine w_iconst (n := 35) (v := 1) (x := 1) (by decide +kernel) rfl (by decide) ?_
          refine w_goto (n := 39) (off := 4) (by decide +kernel) (by decide) ?_
          subst h
          exact w_ireturn (by decide +kernel) (by decide +kernel)
theorem t_193 {X : ak_X} {M : ak_M} {r : ak_O × ak_M} (hL : ab_lay M) (x1 : Int32) (x2 : Int32) (h : (∃ (v2 : Int32) (M1 : ak_M), ab_lay M1 ∧ rn X 171 [.ref 483, .int x2, .int 4] M (.inl (some (.int v2)), M1) ∧ (∃ (v4 : Int32) (M3 : ak_M), ab_lay M3 ∧ rn X 171 [.ref 483, .int x1, .int 4] M1 (.inl (some (.int v4)), M3) ∧ (∃ (v6 : Int32) (M5 : ak_M), ab_lay M5 ∧ rn X 171 [.ref 483, .int x2, .int 5] M3 (.inl (some (.int v6)), M5) ∧ (∃ (v8 : Int32) (M7 : ak_M), ab_lay M7 ∧ rn X 171 [.ref 483, .int x1, .int 5] M5 (.inl (some (.int v8)), M7) ∧ (∃ (v10 : Int32) (M9 : ak_M), ab_lay M9 ∧ rn X 182 [.ref 483, .int x2] M7 (.inl (some (.int v10)), M9) ∧ (∃ (v12 : Int32) (M11 : ak_M), ab_lay M11 ∧ rn X 183 [.ref 483, .int x2] M9 (.inl (some (.int v12)), M11) ∧ (∃ (v14 : Int32) (M13 : ak_M), ab_lay M13 ∧ rn X 188 [.int (v2 - v4), .int (v6 - v8), .int v10, .int v12] M11 (.inl (some (.int v14)), M13) ∧ (∀ M15 : ak_M, M15 = ak_sI M13 483 9 v14 → (∃ (v17 : Int32) (M16 : ak_M), ab_lay M16 ∧ rn X 182 [.ref 483, .int x1] M15 (.inl (some (.int v17)), M16) ∧ (∃ (v19 : Int32) (M18 : ak_M), ab_lay M18 ∧ rn X 183 [.ref 483, .int x1] M16 (.inl (some (.int v19)), M18) ∧ (∃ (v21 : Int32) (M20 : ak_M), ab_lay M20 ∧ rn X 182 [.ref 483, .int x2] M18 (.inl (some (.int v21)), M20) ∧ (∃ (v23 : Int32) (M22 : ak_M), ab_lay M22 ∧ rn X 183 [.ref 483, .int x2] M20 (.inl (some (.int v23)), M22) ∧ (∃ (v25 : Int32) (M24 : ak_M), ab_lay M24 ∧ rn X 188 [.int v17, .int v19, .int v21, .int v23] M22 (.inl (some (.int v25)), M24) ∧ (∀ M26 : ak_M, M26 = ak_sI M24 483 10 v25 → (if ak_I M26 483 10 ≤ 0 then (∀ M27 : ak_M, M27 = ak_sI M26 483 9 (-(ak_I M26 483 9)) → (∀ M28 : ak_M, M28 = ak_sI M27 483 10 (-(ak_I M27 483 10)) → r = (.inl none, M28))) else r = (.inl none, M26))))))))))))))))) : rn X 193 [.ref 483, .int x1, .int x2] M r := by
  refine w_rn (nL := 3) (l1 := [some (.ref 483), some (.int x1), some (.int x2)]) (by decide +kernel) rfl rfl ?_
  refine w_aload_n (n := 1) (i := 0) (by decide +kernel) rfl rfl ?_
  refine w_aload_n (n := 2) (i := 0) (by decide +kernel) rfl rfl ?_
  refine w_iload_n (n := 3) (i := 2) (by decide +kernel) rfl rfl ?_
  refine w_iconst (n := 4) (v := 4) (x := 4) (by decide +kernel) rfl (by decide) ?_
  obtain ⟨v2, M1, hLM1, hr41, h⟩ := h
  refine w_cV (n := 7) (idx := 92) (cal := 171) (na := 2) (nl := 3) (as := [.int x2, .int 4]) (rest := [.ref 483]) hL (by decide +kernel) (by decide +kernel) (at_483) (by decide +kernel) rfl rfl rfl (Nat.le_of_ble_eq_true rfl) rfl hr41 ?_
  refine w_aload_n (n := 8) (i := 0) (by decide +kernel) rfl rfl ?_
  refine w_iload_n (n := 9) (i := 1) (by decide +kernel) rfl rfl ?_
  refine w_iconst (n := 10) (v := 4) (x := 4) (by decide +kernel) rfl (by decide) ?_
  obtain ⟨v4, M3, hLM3, hr40, h⟩ := h
  refine w_cV (n := 13) (idx := 92) (cal := 171) (na := 2) (nl := 3) (as := [.int x1, .int 4]) (rest := [.int v2, .ref 483]) hLM1 (by decide +kernel) (by decide +kernel) (at_483) (by decide +kernel) rfl rfl rfl (Nat.le_of_ble_eq_true rfl) rfl hr40 ?_
  refine w_isub (n := 14) (by decide +kernel) rfl ?_
  refine w_aload_n (n := 15) (i := 0) (by decide +kernel) rfl rfl ?_
  refine w_iload_n (n := 16) (i := 2) (by decide +kernel) rfl rfl ?_
  refine w_iconst (n := 17) (v := 5) (x := 5) (by decide +kernel) rfl (by decide) ?_
  obtain ⟨v6, M5, hLM5, hr39, h⟩ := h
  refine w_cV (n := 20) (idx := 92) (cal := 171) (na := 2) (nl := 3) (as := [.int x2, .int 5]) (rest := [.int (v2 - v4), .ref 483]) hLM3 (by decide +kernel) (by decide +kernel) (at_483) (by decide +kernel) rfl rfl rfl (Nat.le_of_ble_eq_true rfl) rfl hr39 ?_
  refine w_aload_n (n := 21) (i := 0) (by decide +kernel) rfl rfl ?_
  refine w_iload_n (n := 22) (i := 1) (by decide +kernel) rfl rfl ?_
  refine w_iconst (n := 23) (v := 5) (x := 5) (by decide +kernel) rfl (by decide) ?_
  obtain ⟨v8, M7, hLM7, hr38, h⟩ := h
  refine w_cV (n := 26) (idx := 92) (cal := 171) (na := 2) (nl := 3) (as := [.int x1, .int 5]) (rest := [.int v6, .int (v2 - v4), .ref 483]) hLM5 (by decide +kernel) (by decide +kernel) (at_483) (by decide +kernel) rfl rfl rfl (Nat.le_of_ble_eq_true rfl) rfl hr38 ?_
  refine w_isub (n := 27) (by decide +kernel) rfl ?_
  refine w_aload_n (n := 28) (i := 0) (by decide +kernel) rfl rfl ?_
  refine w_iload_n (n := 29) (i := 2) (by decide +kernel) rfl rfl ?_
  obtain ⟨v10, M9, hLM9, hr37, h⟩ := h
  refine w_cV (n := 32) (idx := 114) (cal := 182) (na := 1) (nl := 2) (as := [.int x2]) (rest := [.int (v6 - v8), .int (v2 - v4), .ref 483]) hLM7 (by decide +kernel) (by decide +kernel) (at_483) (by decide +kernel) rfl rfl rfl (Nat.le_of_ble_eq_true rfl) rfl hr37 ?_
  refine w_aload_n (n := 33) (i := 0) (by decide +kernel) rfl rfl ?_
  refine w_iload_n (n := 34) (i := 2) (by decide +kernel) rfl rfl ?_
  obtain ⟨v12, M11, hLM11, hr36, h⟩ := h
  refine w_cV (n := 37) (idx := 117) (cal := 183) (na := 1) (nl := 2) (as := [.int x2]) (rest := [.int v10, .int (v6 - v8), .int (v2 - v4), .ref 483]) hLM9 (by decide +kernel) (by decide +kernel) (at_483) (by decide +kernel) rfl rfl rfl (Nat.le_of_ble_eq_true rfl) rfl hr36 ?_
  obtain ⟨v14, M13, hLM13, hr35, h⟩ := h
  refine w_cS (n := 40) (idx := 134) (cal := 188) (na := 4) (nl := 4) (as := [.int (v2 - v4), .int (v6 - v8), .int v10, .int v12]) (rest := [.ref 483]) (by decide +kernel) (by decide +kernel) rfl rfl rfl (Nat.le_of_ble_eq_true rfl) rfl hr35 ?_
  refine w_putI (n := 43) hLM13 (by decide +kernel) oO_193 fF_12_148 (at_483) ⟨by decide, Or.inl (by decide)⟩ rfl ?_
  generalize eM15 : ak_sI M13 483 9 v14 = M15
  have hLM15 : ab_lay M15 := by rw [← eM15]; exact ab_lay.sI hLM13
  replace h := h M15 eM15.symm
  refine w_aload_n (n := 44) (i := 0) (by decide +kernel) rfl rfl ?_
  refine w_aload_n (n := 45) (i := 0) (by decide +kernel) rfl rfl ?_
  refine w_iload_n (n := 46) (i := 1) (by decide +kernel) rfl rfl ?_
  obtain ⟨v17, M16, hLM16, hr34, h⟩ := h
  refine w_cV (n := 49) (idx := 114) (cal := 182) (na := 1) (nl := 2) (as := [.int x1]) (rest := [.ref 483]) hLM15 (by decide +kernel) (by decide +kernel) (at_483) (by decide +kernel) rfl rfl rfl (Nat.le_of_ble_eq_true rfl) rfl hr34 ?_
  refine w_aload_n (n := 50) (i := 0) (by decide +kernel) rfl rfl ?_
  refine w_iload_n (n := 51) (i := 1) (by decide +kernel) rfl rfl ?_
  obtain ⟨v19, M18, hLM18, hr33, h⟩ := h
  refine w_cV (n := 54) (idx := 117) (cal := 183) (na := 1) (nl := 2) (as := [.int x1]) (rest := [.int v17, .ref 483]) hLM16 (by decide +kernel) (by decide +kernel) (at_483) (by decide +kernel) rfl rfl rfl (Nat.le_of_ble_eq_true rfl) rfl hr33 ?_
  refine w_aload_n (n := 55) (i := 0) (by decide +kernel) rfl rfl ?_
  refine w_iload_n (n := 56) (i := 2) (by decide +kernel) rfl rfl ?_
  obtain ⟨v21, M20, hLM20, hr32, h⟩ := h
  refine w_cV (n := 59) (idx := 114) (cal := 182) (na := 1) (nl := 2) (as := [.int x2]) (rest := [.int v19, .int v17, .ref 483]) hLM18 (by decide +kernel) (by decide +kernel) (at_483) (by decide +kernel) rfl rfl rfl (Nat.le_of_ble_eq_true rfl) rfl hr32 ?_
  refine w_aload_n (n := 60) (i := 0) (by decide +kernel) rfl rfl ?_
  refine w_iload_n (n := 61) (i := 2) (by decide +kernel) rfl rfl ?_
  obtain ⟨v23, M22, hLM22, hr31, h⟩ := h
  refine w_cV (n := 64) (idx := 117) (cal := 183) (na := 1) (nl := 2) (as := [.int x2]) (rest := [.int v21, .int v19, .int v17, .ref 483]) hLM20 (by decide +kernel) (by decide +kernel) (at_483) (by decide +kernel) rfl rfl rfl (Nat.le_of_ble_eq_true rfl) rfl hr31 ?_
  obtain ⟨v25, M24, hLM24, hr30, h⟩ := h
  refine w_cS (n := 67) (idx := 134) (cal := 188) (na := 4) (nl := 4) (as := [.int v17, .int v19, .int v21, .int v23]) (rest := [.ref 483]) (by decide +kernel) (by decide +kernel) rfl rfl rfl (Nat.le_of_ble_eq_true rfl) rfl hr30 ?_
  refine w_putI (n := 70) hLM24 (by decide +kernel) oO_193 fF_12_151 (at_483) ⟨by decide, Or.inl (by decide)⟩ rfl ?_
  generalize eM26 : ak_sI M24 483 10 v25 = M26
  have hLM26 : ab_lay M26 := by rw [← eM26]; exact ab_lay.sI hLM24
  replace h := h M26 eM26.symm
  refine w_aload_n (n := 71) (i := 0) (by decide +kernel) rfl rfl ?_
  refine w_getI (n := 74) hLM26 (by decide +kernel) oO_193 fF_12_151 (at_483) (by decide) rfl ?_
  by_cases c29 : ak_I M26 483 10 ≤ 0
  · rw [if_pos c29] at h
    refine w_if_le_j (n := 78) (off := 4) (by decide +kernel) (by decide) c29 ?_
    refine w_aload_n (n := 79) (i := 0) (by decide +kernel) rfl rfl ?_
    refine w_aload_n (n := 80) (i := 0) (by decide +kernel) rfl rfl ?_
    refine w_getI (n := 83) hLM26 (by decide +kernel) oO_193 fF_12_148 (at_483) (by decide) rfl ?_
    refine w_ineg (n := 84) (by decide +kernel) rfl ?_
    refine w_putI (n := 87) hLM26 (by decide +kernel) oO_193 fF_12_148 (at_483) ⟨by decide, Or.inl (by decide)⟩ rfl ?_
    generalize eM27 : ak_sI M26 483 9 (-(ak_I M26 483 9)) = M27
    have hLM27 : ab_lay M27 := by rw [← eM27]; exact ab_lay.sI hLM26
    replace h := h M27 eM27.symm
    refine w_aload_n (n := 88) (i := 0) (by decide +kernel) rfl rfl ?_
    refine w_aload_n (n := 89) (i := 0) (by decide +kernel) rfl rfl ?_
    refine w_getI (n := 92) hLM27 (by decide +kernel) oO_193 fF_12_151 (at_483) (by decide) rfl ?_
    refine w_ineg (n := 93) (by decide +kernel) rfl ?_
    refine w_putI (n := 96) hLM27 (by decide +kernel) oO_193 fF_12_151 (at_483) ⟨by decide, Or.inl (by decide)⟩ rfl ?_
    generalize eM28 : ak_sI M27 483 10 (-(ak_I M27 483 10)) = M28
    have hLM28 : ab_lay M28 := by rw [← eM28]; exact ab_lay.sI hLM27
    replace h := h M28 eM28.symm
    subst h
    exact w_vreturn (by decide +kernel) (by decide +kernel)
  · rw [if_neg c29] at h
    refine w_if_le_n (n := 77) (off := 4) (by decide +kernel) rfl c29 ?_
    subst h
    exact w_vreturn (by decide +kernel) (by decide +kernel)
theorem t_194 {X : ak_X} {M : ak_M} {r : ak_O × ak_M} (hL : ab_lay M) (x1 : Int32) (x2 : Int32) (h : (∃ (M1 : ak_M), ab_lay M1 ∧ rn X 193 [.ref 483, .int x1, .int x2] M (.inl (none), M1) ∧ (∃ (v3 : Int32) (M2 : ak_M), ab_lay M2 ∧ rn X 171 [.ref 483, .int x1, .int 3] M1 (.inl (some (.int v3)), M2) ∧ (∃ (v5 : Int32) (M4 : ak_M), ab_lay M4 ∧ rn X 313 [.int (v3 * (ak_I M2 483 9)), .int (ak_I M2 483 10)] M2 (.inl (some (.int v5)), M4) ∧ (∃ (v7 : Int32) (M6 : ak_M), ab_lay M6 ∧ rn X 185 [.ref 483, .int x1] M4 (.inl (some (.int v7)), M6) ∧ (∃ (v9 : Int32) (M8 : ak_M), ab_lay M8 ∧ rn X 315 [.int 0, .int v7] M6 (.inl (some (.int v9)), M8) ∧ (∃ (v11 : Int32) (M10 : ak_M), ab_lay M10 ∧ rn X 315 [.int 0, .int (v5 - (v9 / 2))] M8 (.inl (some (.int v11)), M10) ∧ r = (.inl (some (.int v11)), M10)))))))) : rn X 194 [.ref 483, .int x1, .int x2] M r := by
  refine w_rn (nL := 4) (l1 := [some (.ref 483), some (.int x1), some (.int x2), none]) (by decide +kernel) rfl rfl ?_
  refine w_aload_n (n := 1) (i := 0) (by decide +kernel) rfl rfl ?_
  refine w_iload_n (n := 2) (i := 1) (by decide +kernel) rfl rfl ?_
  refine w_iload_n (n := 3) (i := 2) (by decide +kernel) rfl rfl ?_
  obtain ⟨M1, hLM1, hr17, h⟩ := h
  refine w_cV (n := 6) (idx := 154) (cal := 193) (na := 2) (nl := 3) (as := [.int x1, .int x2]) (rest := []) hL (by decide +kernel) (by decide +kernel) (at_483) (by decide +kernel) rfl rfl rfl (Nat.le_of_ble_eq_true rfl) rfl hr17 ?_
  refine w_aload_n (n := 7) (i := 0) (by decide +kernel) rfl rfl ?_
  refine w_iload_n (n := 8) (i := 1) (by decide +kernel) rfl rfl ?_
  refine w_iconst (n := 9) (v := 3) (x := 3) (by decide +kernel) rfl (by decide) ?_
  obtain ⟨v3, M2, hLM2, hr16, h⟩ := h
  refine w_cV (n := 12) (idx := 92) (cal := 171) (na := 2) (nl := 3) (as := [.int x1, .int 3]) (rest := []) hLM1 (by decide +kernel) (by decide +kernel) (at_483) (by decide +kernel) rfl rfl rfl (Nat.le_of_ble_eq_true rfl) rfl hr16 ?_
  refine w_aload_n (n := 13) (i := 0) (by decide +kernel) rfl rfl ?_
  refine w_getI (n := 16) hLM2 (by decide +kernel) oO_194 fF_12_148 (at_483) (by decide) rfl ?_
  refine w_imul (n := 17) (by decide +kernel) rfl ?_
  refine w_aload_n (n := 18) (i := 0) (by decide +kernel) rfl rfl ?_
  refine w_getI (n := 21) hLM2 (by decide +kernel) oO_194 fF_12_151 (at_483) (by decide) rfl ?_
  obtain ⟨v5, M4, hLM4, hr15, h⟩ := h
  refine w_cS (n := 24) (idx := 158) (cal := 313) (na := 2) (nl := 2) (as := [.int (v3 * (ak_I M2 483 9)), .int (ak_I M2 483 10)]) (rest := []) (by decide +kernel) (by decide +kernel) rfl rfl rfl (Nat.le_of_ble_eq_true rfl) rfl hr15 ?_
  refine w_istore_n (n := 25) (i := 3) (l1' := [some (.ref 483), some (.int x1), some (.int x2), some (.int v5)]) (l2' := []) (by decide +kernel) rfl (Nat.le_of_ble_eq_true rfl) rfl rfl ?_
  refine w_iconst (n := 26) (v := 0) (x := 0) (by decide +kernel) rfl (by decide) ?_
  refine w_iload_n (n := 27) (i := 3) (by decide +kernel) rfl rfl ?_
  refine w_iconst (n := 28) (v := 0) (x := 0) (by decide +kernel) rfl (by decide) ?_
  refine w_aload_n (n := 29) (i := 0) (by decide +kernel) rfl rfl ?_
  refine w_iload_n (n := 30) (i := 1) (by decide +kernel) rfl rfl ?_
  obtain ⟨v7, M6, hLM6, hr14, h⟩ := h
  refine w_cV (n := 33) (idx := 161) (cal := 185) (na := 1) (nl := 2) (as := [.int x1]) (rest := [.int 0, .int v5, .int 0]) hLM4 (by decide +kernel) (by decide +kernel) (at_483) (by decide +kernel) rfl rfl rfl (Nat.le_of_ble_eq_true rfl) rfl hr14 ?_
  obtain ⟨v9, M8, hLM8, hr13, h⟩ := h
  refine w_cS (n := 36) (idx := 111) (cal := 315) (na := 2) (nl := 2) (as := [.int 0, .int v7]) (rest := [.int v5, .int 0]) (by decide +kernel) (by decide +kernel) rfl rfl rfl (Nat.le_of_ble_eq_true rfl) rfl hr13 ?_
  refine w_iconst (n := 37) (v := 2) (x := 2) (by decide +kernel) rfl (by decide) ?_
  refine w_idiv (n := 38) (by decide +kernel) rfl (by decide) ?_
  refine w_isub (n := 39) (by decide +kernel) rfl ?_
  obtain ⟨v11, M10, hLM10, hr12, h⟩ := h
  refine w_cS (n := 42) (idx := 111) (cal := 315) (na := 2) (nl := 2) (as := [.int 0, .int (v5 - (v9 / 2))]) (rest := []) (by decide +kernel) (by decide +kernel) rfl rfl rfl (Nat.le_of_ble_eq_true rfl) rfl hr12 ?_
  subst h
  exact w_ireturn (by decide +kernel) (w_okI (by decide +kernel))
theorem t_195 {X : ak_X} {M : ak_M} {r : ak_O × ak_M} (hL : ab_lay M) (x1 : Int32) (x2 : Int32) (h : (∃ (v2 : Int32) (M1 : ak_M), ab_lay M1 ∧ rn X 194 [.ref 483, .int x1, .int x2] M (.inl (some (.int v2)), M1) ∧ (∃ (v4 : Int32) (M3 : ak_M), ab_lay M3 ∧ rn X 194 [.ref 483, .int x2, .int x1] M1 (.inl (some (.int v4)), M3) ∧ (∃ (v6 : Int32) (M5 : ak_M), ab_lay M5 ∧ rn X 314 [.int (v2 - v4)] M3 (.inl (some (.int v6)), M5) ∧ r = (.inl (some (.int v6)), M5))))) : rn X 195 [.ref 483, .int x1, .int x2] M r := by
  refine w_rn (nL := 3) (l1 := [some (.ref 483), some (.int x1), some (.int x2)]) (by decide +kernel) rfl rfl ?_
  refine w_aload_n (n := 1) (i := 0) (by decide +kernel) rfl rfl ?_
  refine w_iload_n (n := 2) (i := 1) (by decide +kernel) rfl rfl ?_
  refine w_iload_n (n := 3) (i := 2) (by decide +kernel) rfl rfl ?_
  obtain ⟨v2, M1, hLM1, hr9, h⟩ := h
  refine w_cV (n := 6) (idx := 164) (cal := 194) (na := 2) (nl := 3) (as := [.int x1, .int x2]) (rest := []) hL (by decide +kernel) (by decide +kernel) (at_483) (by decide +kernel) rfl rfl rfl (Nat.le_of_ble_eq_true rfl) rfl hr9 ?_
  refine w_aload_n (n := 7) (i := 0) (by decide +kernel) rfl rfl ?_
  refine w_iload_n (n := 8) (i := 2) (by decide +kernel) rfl rfl ?_
  refine w_iload_n (n := 9) (i := 1) (by decide +kernel) rfl rfl ?_
  obtain ⟨v4, M3, hLM3, hr8, h⟩ := h
  refine w_cV (n := 12) (idx := 164) (cal := 194) (na := 2) (nl := 3) (as := [.int x2, .int x1]) (rest := [.int v2]) hLM1 (by decide +kernel) (by decide +kernel) (at_483) (by decide +kernel) rfl rfl rfl (Nat.le_of_ble_eq_true rfl) rfl hr8 ?_
  refine w_isub (n := 13) (by decide +kernel) rfl ?_
  obtain ⟨v6, M5, hLM5, hr7, h⟩ := h
  refine w_cS (n := 16) (idx := 105) (cal := 314) (na := 1) (nl := 1) (as := [.int (v2 - v4)]) (rest := []) (by decide +kernel) (by decide +kernel) rfl rfl rfl (Nat.le_of_ble_eq_true rfl) rfl hr7 ?_
  subst h
  exact w_ireturn (by decide +kernel) (w_okI (by decide +kernel))
theorem t_196 {X : ak_X} {M : ak_M} {r : ak_O × ak_M} (hL : ab_lay M) (x1 : Int32) (x2 : Int32) (h : (∃ (v2 : Int32) (M1 : ak_M), ab_lay M1 ∧ rn X 192 [.ref 483, .int x1, .int x2] M (.inl (some (.int v2)), M1) ∧ (if v2 = 0 then r = (.inl (some (.int 0)), M1) else (∃ (v4 : Int32) (M3 : ak_M), ab_lay M3 ∧ rn X 195 [.ref 483, .int x1, .int x2] M1 (.inl (some (.int v4)), M3) ∧ (∃ (v6 : Int32) (M5 : ak_M), ab_lay M5 ∧ rn X 174 [.ref 483, .int 4] M3 (.inl (some (.int v6)), M5) ∧ (if v6 < v4 then r = (.inl (some (.int 0)), M5) else r = (.inl (some (.int 1)), M5))))))) : rn X 196 [.ref 483, .int x1, .int x2] M r := by
  refine w_rn (nL := 3) (l1 := [some (.ref 483), some (.int x1), some (.int x2)]) (by decide +kernel) rfl rfl ?_
  refine w_aload_n (n := 1) (i := 0) (by decide +kernel) rfl rfl ?_
  refine w_iload_n (n := 2) (i := 1) (by decide +kernel) rfl rfl ?_
  refine w_iload_n (n := 3) (i := 2) (by decide +kernel) rfl rfl ?_
  obtain ⟨v2, M1, hLM1, hr11, h⟩ := h
  refine w_cV (n := 6) (idx := 167) (cal := 192) (na := 2) (nl := 3) (as := [.int x1, .int x2]) (rest := []) hL (by decide +kernel) (by decide +kernel) (at_483) (by decide +kernel) rfl rfl rfl (Nat.le_of_ble_eq_true rfl) rfl hr11 ?_
  by_cases c10 : v2 = 0
  · rw [if_pos c10] at h
    refine w_if_eq_j (n := 27) (off := 21) (by decide +kernel) (by decide) c10 ?_
    refine w_iconst (n := 28) (v := 0) (x := 0) (by decide +kernel) rfl (by decide) ?_
    subst h
    exact w_ireturn (by decide +kernel) (by decide +kernel)
  · rw [if_neg c10] at h
    refine w_if_eq_n (n := 9) (off := 21) (by decide +kernel) rfl c10 ?_
    refine w_aload_n (n := 10) (i := 0) (by decide +kernel) rfl rfl ?_
    refine w_iload_n (n := 11) (i := 1) (by decide +kernel) rfl rfl ?_
    refine w_iload_n (n := 12) (i := 2) (by decide +kernel) rfl rfl ?_
    obtain ⟨v4, M3, hLM3, hr9, h⟩ := h
    refine w_cV (n := 15) (idx := 170) (cal := 195) (na := 2) (nl := 3) (as := [.int x1, .int x2]) (rest := []) hLM1 (by decide +kernel) (by decide +kernel) (at_483) (by decide +kernel) rfl rfl rfl (Nat.le_of_ble_eq_true rfl) rfl hr9 ?_
    refine w_aload_n (n := 16) (i := 0) (by decide +kernel) rfl rfl ?_
    refine w_iconst (n := 17) (v := 4) (x := 4) (by decide +kernel) rfl (by decide) ?_
    obtain ⟨v6, M5, hLM5, hr8, h⟩ := h
    refine w_cV (n := 20) (idx := 173) (cal := 174) (na := 1) (nl := 2) (as := [.int 4]) (rest := [.int v4]) hLM3 (by decide +kernel) (by decide +kernel) (at_483) (by decide +kernel) rfl rfl rfl (Nat.le_of_ble_eq_true rfl) rfl hr8 ?_
    by_cases c7 : v6 < v4
    · rw [if_pos c7] at h
      refine w_icmp_gt_j (n := 27) (off := 7) (by decide +kernel) (by decide) c7 ?_
      refine w_iconst (n := 28) (v := 0) (x := 0) (by decide +kernel) rfl (by decide) ?_
      subst h
      exact w_ireturn (by decide +kernel) (by decide +kernel)
    · rw [if_neg c7] at h
      refine w_icmp_gt_n (n := 23) (off := 7) (by decide +kernel) rfl c7 ?_
      refine w_iconst (n := 24) (v := 1) (x := 1) (by decide +kernel) rfl (by decide) ?_
      refine w_goto (n := 28) (off := 4) (by decide +kernel) (by decide) ?_
      subst h
      exact w_ireturn (by decide +kernel) (by decide +kernel)
theorem t_197 {X : ak_X} {M : ak_M} {r : ak_O × ak_M} (hL : ab_lay M) (x1 : Int32) (x2 : Int32) (h : (∃ (v2 : Int32) (M1 : ak_M), ab_lay M1 ∧ rn X 316 [.int x1, .int x2] M (.inl (some (.int v2)), M1) ∧ (∃ (v4 : Int32) (M3 : ak_M), ab_lay M3 ∧ rn X 315 [.int x1, .int x2] M1 (.inl (some (.int v4)), M3) ∧ (∃ (M5 : ak_M), ab_lay M5 ∧ rn X 193 [.ref 483, .int v2, .int v4] M3 (.inl (none), M5) ∧ (∃ (v7 : Int32) (M6 : ak_M), ab_lay M6 ∧ rn X 171 [.ref 483, .int v2, .int 4] M5 (.inl (some (.int v7)), M6) ∧ (∃ (v9 : Int32) (M8 : ak_M), ab_lay M8 ∧ rn X 182 [.ref 483, .int v2] M6 (.inl (some (.int v9)), M8) ∧ (∃ (v11 : Int32) (M10 : ak_M), ab_lay M10 ∧ rn X 313 [.int (v9 * (ak_I M8 483 9)), .int (ak_I M8 483 10)] M8 (.inl (some (.int v11)), M10) ∧ r = (.inl (some (.int (v7 + v11))), M10)))))))) : rn X 197 [.ref 483, .int x1, .int x2] M r := by
  refine w_rn (nL := 4) (l1 := [some (.ref 483), some (.int x1), some (.int x2), none]) (by decide +kernel) rfl rfl ?_
  refine w_iload_n (n := 1) (i := 1) (by decide +kernel) rfl rfl ?_
  refine w_iload_n (n := 2) (i := 2) (by decide +kernel) rfl rfl ?_
  obtain ⟨v2, M1, hLM1, hr17, h⟩ := h
  refine w_cS (n := 5) (idx := 176) (cal := 316) (na := 2) (nl := 2) (as := [.int x1, .int x2]) (rest := []) (by decide +kernel) (by decide +kernel) rfl rfl rfl (Nat.le_of_ble_eq_true rfl) rfl hr17 ?_
  refine w_istore_n (n := 6) (i := 3) (l1' := [some (.ref 483), some (.int x1), some (.int x2), some (.int v2)]) (l2' := []) (by decide +kernel) rfl (Nat.le_of_ble_eq_true rfl) rfl rfl ?_
  refine w_aload_n (n := 7) (i := 0) (by decide +kernel) rfl rfl ?_
  refine w_iload_n (n := 8) (i := 3) (by decide +kernel) rfl rfl ?_
  refine w_iload_n (n := 9) (i := 1) (by decide +kernel) rfl rfl ?_
  refine w_iload_n (n := 10) (i := 2) (by decide +kernel) rfl rfl ?_
  obtain ⟨v4, M3, hLM3, hr16, h⟩ := h
  refine w_cS (n := 13) (idx := 111) (cal := 315) (na := 2) (nl := 2) (as := [.int x1, .int x2]) (rest := [.int v2, .ref 483]) (by decide +kernel) (by decide +kernel) rfl rfl rfl (Nat.le_of_ble_eq_true rfl) rfl hr16 ?_
  obtain ⟨M5, hLM5, hr15, h⟩ := h
  refine w_cV (n := 16) (idx := 154) (cal := 193) (na := 2) (nl := 3) (as := [.int v2, .int v4]) (rest := []) hLM3 (by decide +kernel) (by decide +kernel) (at_483) (by decide +kernel) rfl rfl rfl (Nat.le_of_ble_eq_true rfl) rfl hr15 ?_
  refine w_aload_n (n := 17) (i := 0) (by decide +kernel) rfl rfl ?_
  refine w_iload_n (n := 18) (i := 3) (by decide +kernel) rfl rfl ?_
  refine w_iconst (n := 19) (v := 4) (x := 4) (by decide +kernel) rfl (by decide) ?_
  obtain ⟨v7, M6, hLM6, hr14, h⟩ := h
  refine w_cV (n := 22) (idx := 92) (cal := 171) (na := 2) (nl := 3) (as := [.int v2, .int 4]) (rest := []) hLM5 (by decide +kernel) (by decide +kernel) (at_483) (by decide +kernel) rfl rfl rfl (Nat.le_of_ble_eq_true rfl) rfl hr14 ?_
  refine w_aload_n (n := 23) (i := 0) (by decide +kernel) rfl rfl ?_
  refine w_iload_n (n := 24) (i := 3) (by decide +kernel) rfl rfl ?_
  obtain ⟨v9, M8, hLM8, hr13, h⟩ := h
  refine w_cV (n := 27) (idx := 114) (cal := 182) (na := 1) (nl := 2) (as := [.int v2]) (rest := [.int v7]) hLM6 (by decide +kernel) (by decide +kernel) (at_483) (by decide +kernel) rfl rfl rfl (Nat.le_of_ble_eq_true rfl) rfl hr13 ?_
  refine w_aload_n (n := 28) (i := 0) (by decide +kernel) rfl rfl ?_
  refine w_getI (n := 31) hLM8 (by decide +kernel) oO_197 fF_12_148 (at_483) (by decide) rfl ?_
  refine w_imul (n := 32) (by decide +kernel) rfl ?_
  refine w_aload_n (n := 33) (i := 0) (by decide +kernel) rfl rfl ?_
  refine w_getI (n := 36) hLM8 (by decide +kernel) oO_197 fF_12_151 (at_483) (by decide) rfl ?_
  obtain ⟨v11, M10, hLM10, hr12, h⟩ := h
  refine w_cS (n := 39) (idx := 158) (cal := 313) (na := 2) (nl := 2) (as := [.int (v9 * (ak_I M8 483 9)), .int (ak_I M8 483 10)]) (rest := [.int v7]) (by decide +kernel) (by decide +kernel) rfl rfl rfl (Nat.le_of_ble_eq_true rfl) rfl hr12 ?_
  refine w_iadd (n := 40) (by decide +kernel) rfl ?_
  subst h
  exact w_ireturn (by decide +kernel) (w_okI (by decide +kernel))
theorem t_198 {X : ak_X} {M : ak_M} {r : ak_O × ak_M} (hL : ab_lay M) (x1 : Int32) (x2 : Int32) (h : (∃ (v2 : Int32) (M1 : ak_M), ab_lay M1 ∧ rn X 316 [.int x1, .int x2] M (.inl (some (.int v2)), M1) ∧ (∃ (v4 : Int32) (M3 : ak_M), ab_lay M3 ∧ rn X 315 [.int x1, .int x2] M1 (.inl (some (.int v4)), M3) ∧ (∃ (M5 : ak_M), ab_lay M5 ∧ rn X 193 [.ref 483, .int v2, .int v4] M3 (.inl (none), M5) ∧ (∃ (v7 : Int32) (M6 : ak_M), ab_lay M6 ∧ rn X 171 [.ref 483, .int v2, .int 5] M5 (.inl (some (.int v7)), M6) ∧ (∃ (v9 : Int32) (M8 : ak_M), ab_lay M8 ∧ rn X 183 [.ref 483, .int v2] M6 (.inl (some (.int v9)), M8) ∧ (∃ (v11 : Int32) (M10 : ak_M), ab_lay M10 ∧ rn X 313 [.int (v9 * (ak_I M8 483 9)), .int (ak_I M8 483 10)] M8 (.inl (some (.int v11)), M10) ∧ r = (.inl (some (.int (v7 + v11))), M10)))))))) : rn X 198 [.ref 483, .int x1, .int x2] M r := by
  refine w_rn (nL := 4) (l1 := [some (.ref 483), some (.int x1), some (.int x2), none]) (by decide +kernel) rfl rfl ?_
  refine w_iload_n (n := 1) (i := 1) (by decide +kernel) rfl rfl ?_
  refine w_iload_n (n := 2) (i := 2) (by decide +kernel) rfl rfl ?_
  obtain ⟨v2, M1, hLM1, hr17, h⟩ := h
  refine w_cS (n := 5) (idx := 176) (cal := 316) (na := 2) (nl := 2) (as := [.int x1, .int x2]) (rest := []) (by decide +kernel) (by decide +kernel) rfl rfl rfl (Nat.le_of_ble_eq_true rfl) rfl hr17 ?_
  refine w_istore_n (n := 6) (i := 3) (l1' := [some (.ref 483), some (.int x1), some (.int x2), some (.int v2)]) (l2' := []) (by decide +kernel) rfl (Nat.le_of_ble_eq_true rfl) rfl rfl ?_
  refine w_aload_n (n := 7) (i := 0) (by decide +kernel) rfl rfl ?_
  refine w_iload_n (n := 8) (i := 3) (by decide +kernel) rfl rfl ?_
  refine w_iload_n (n := 9) (i := 1) (by decide +kernel) rfl rfl ?_
  refine w_iload_n (n := 10) (i := 2) (by decide +kernel) rfl rfl ?_
  obtain ⟨v4, M3, hLM3, hr16, h⟩ := h
  refine w_cS (n := 13) (idx := 111) (cal := 315) (na := 2) (nl := 2) (as := [.int x1, .int x2]) (rest := [.int v2, .ref 483]) (by decide +kernel) (by decide +kernel) rfl rfl rfl (Nat.le_of_ble_eq_true rfl) rfl hr16 ?_
  obtain ⟨M5, hLM5, hr15, h⟩ := h
  refine w_cV (n := 16) (idx := 154) (cal := 193) (na := 2) (nl := 3) (as := [.int v2, .int v4]) (rest := []) hLM3 (by decide +kernel) (by decide +kernel) (at_483) (by decide +kernel) rfl rfl rfl (Nat.le_of_ble_eq_true rfl) rfl hr15 ?_
  refine w_aload_n (n := 17) (i := 0) (by decide +kernel) rfl rfl ?_
  refine w_iload_n (n := 18) (i := 3) (by decide +kernel) rfl rfl ?_
  refine w_iconst (n := 19) (v := 5) (x := 5) (by decide +kernel) rfl (by decide) ?_
  obtain ⟨v7, M6, hLM6, hr14, h⟩ := h
  refine w_cV (n := 22) (idx := 92) (cal := 171) (na := 2) (nl := 3) (as := [.int v2, .int 5]) (rest := []) hLM5 (by decide +kernel) (by decide +kernel) (at_483) (by decide +kernel) rfl rfl rfl (Nat.le_of_ble_eq_true rfl) rfl hr14 ?_
  refine w_aload_n (n := 23) (i := 0) (by decide +kernel) rfl rfl ?_
  refine w_iload_n (n := 24) (i := 3) (by decide +kernel) rfl rfl ?_
  obtain ⟨v9, M8, hLM8, hr13, h⟩ := h
  refine w_cV (n := 27) (idx := 117) (cal := 183) (na := 1) (nl := 2) (as := [.int v2]) (rest := [.int v7]) hLM6 (by decide +kernel) (by decide +kernel) (at_483) (by decide +kernel) rfl rfl rfl (Nat.le_of_ble_eq_true rfl) rfl hr13 ?_
  refine w_aload_n (n := 28) (i := 0) (by decide +kernel) rfl rfl ?_
  refine w_getI (n := 31) hLM8 (by decide +kernel) oO_198 fF_12_148 (at_483) (by decide) rfl ?_
  refine w_imul (n := 32) (by decide +kernel) rfl ?_
  refine w_aload_n (n := 33) (i := 0) (by decide +kernel) rfl rfl ?_
  refine w_getI (n := 36) hLM8 (by decide +kernel) oO_198 fF_12_151 (at_483) (by decide) rfl ?_
  obtain ⟨v11, M10, hLM10, hr12, h⟩ := h
  refine w_cS (n := 39) (idx := 158) (cal := 313) (na := 2) (nl := 2) (as := [.int (v9 * (ak_I M8 483 9)), .int (ak_I M8 483 10)]) (rest := [.int v7]) (by decide +kernel) (by decide +kernel) rfl rfl rfl (Nat.le_of_ble_eq_true rfl) rfl hr12 ?_
  refine w_iadd (n := 40) (by decide +kernel) rfl ?_
  subst h
  exact w_ireturn (by decide +kernel) (w_okI (by decide +kernel))
theorem t_199 {X : ak_X} {M : ak_M} {r : ak_O × ak_M} (hL : ab_lay M) (x1 : Int32) (h : (∃ (v2 : Int32) (M1 : ak_M), ab_lay M1 ∧ rn X 171 [.ref 483, .int x1, .int 8] M (.inl (some (.int v2)), M1) ∧ (∃ (v4 : Int32) (M3 : ak_M), ab_lay M3 ∧ rn X 171 [.ref 483, .int x1, .int 7] M1 (.inl (some (.int v4)), M3) ∧ (∃ (v6 : Int32) (M5 : ak_M), ab_lay M5 ∧ rn X 314 [.int v4] M3 (.inl (some (.int v6)), M5) ∧ r = (.inl (some (.int (v2 * (1 + v6)))), M5))))) : rn X 199 [.ref 483, .int x1] M r := by
  refine w_rn (nL := 2) (l1 := [some (.ref 483), some (.int x1)]) (by decide +kernel) rfl rfl ?_
  refine w_aload_n (n := 1) (i := 0) (by decide +kernel) rfl rfl ?_
  refine w_iload_n (n := 2) (i := 1) (by decide +kernel) rfl rfl ?_
  refine w_bipush (n := 4) (v := 8) (x := 8) (by decide +kernel) rfl (by decide) ?_
  obtain ⟨v2, M1, hLM1, hr9, h⟩ := h
  refine w_cV (n := 7) (idx := 92) (cal := 171) (na := 2) (nl := 3) (as := [.int x1, .int 8]) (rest := []) hL (by decide +kernel) (by decide +kernel) (at_483) (by decide +kernel) rfl rfl rfl (Nat.le_of_ble_eq_true rfl) rfl hr9 ?_
  refine w_iconst (n := 8) (v := 1) (x := 1) (by decide +kernel) rfl (by decide) ?_
  refine w_aload_n (n := 9) (i := 0) (by decide +kernel) rfl rfl ?_
  refine w_iload_n (n := 10) (i := 1) (by decide +kernel) rfl rfl ?_
  refine w_bipush (n := 12) (v := 7) (x := 7) (by decide +kernel) rfl (by decide) ?_
  obtain ⟨v4, M3, hLM3, hr8, h⟩ := h
  refine w_cV (n := 15) (idx := 92) (cal := 171) (na := 2) (nl := 3) (as := [.int x1, .int 7]) (rest := [.int 1, .int v2]) hLM1 (by decide +kernel) (by decide +kernel) (at_483) (by decide +kernel) rfl rfl rfl (Nat.le_of_ble_eq_true rfl) rfl hr8 ?_
  obtain ⟨v6, M5, hLM5, hr7, h⟩ := h
  refine w_cS (n := 18) (idx := 105) (cal := 314) (na := 1) (nl := 1) (as := [.int v4]) (rest := [.int 1, .int v2]) (by decide +kernel) (by decide +kernel) rfl rfl rfl (Nat.le_of_ble_eq_true rfl) rfl hr7 ?_
  refine w_iadd (n := 19) (by decide +kernel) rfl ?_
  refine w_imul (n := 20) (by decide +kernel) rfl ?_
  subst h
  exact w_ireturn (by decide +kernel) (w_okI (by decide +kernel))
theorem t_200 {X : ak_X} {M : ak_M} {r : ak_O × ak_M} (hL : ab_lay M) (x1 : Int32) (h : sg X 200 (4, [some (.ref 483), some (.int x1), some (.int 0), some (.int 0)], [], []) M r) : rn X 200 [.ref 483, .int x1] M r := by
  refine w_rn (nL := 4) (l1 := [some (.ref 483), some (.int x1), none, none]) (by decide +kernel) rfl rfl ?_
  refine w_iconst (n := 1) (v := 0) (x := 0) (by decide +kernel) rfl (by decide) ?_
  refine w_istore_n (n := 2) (i := 2) (l1' := [some (.ref 483), some (.int x1), some (.int 0), none]) (l2' := []) (by decide +kernel) rfl (Nat.le_of_ble_eq_true rfl) rfl rfl ?_
  refine w_iconst (n := 3) (v := 0) (x := 0) (by decide +kernel) rfl (by decide) ?_
  refine w_istore_n (n := 4) (i := 3) (l1' := [some (.ref 483), some (.int x1), some (.int 0), some (.int 0)]) (l2' := []) (by decide +kernel) rfl (Nat.le_of_ble_eq_true rfl) rfl rfl ?_
  exact h
theorem t_200_4 {X : ak_X} {M : ak_M} {r : ak_O × ak_M} (hL : ab_lay M) (x1 : Int32) (y2 : Int32) (y3 : Int32) (h : (∃ (v2 : Int32) (M1 : ak_M), ab_lay M1 ∧ rn X 168 [.ref 483] M (.inl (some (.int v2)), M1) ∧ (if v2 ≤ y3 then r = (.inl (some (.int y2)), M1) else (∃ (v4 : Int32) (M3 : ak_M), ab_lay M3 ∧ rn X 196 [.ref 483, .int x1, .int y3] M1 (.inl (some (.int v4)), M3) ∧ (if v4 = 0 then sg X 200 (4, [some (.ref 483), some (.int x1), some (.int y2), some (.int (y3 + 1))], [], []) M3 r else (∃ (v6 : Int32) (M5 : ak_M), ab_lay M5 ∧ rn X 199 [.ref 483, .int y3] M3 (.inl (some (.int v6)), M5) ∧ sg X 200 (4, [some (.ref 483), some (.int x1), some (.int (y2 + v6)), some (.int (y3 + 1))], [], []) M5 r)))))) : sg X 200 (4, [some (.ref 483), some (.int x1), some (.int y2), some (.int y3)], [], []) M r := by
  refine w_iload_n (n := 5) (i := 3) (by decide +kernel) rfl rfl ?_
  refine w_aload_n (n := 6) (i := 0) (by decide +kernel) rfl rfl ?_
  obtain ⟨v2, M1, hLM1, hr11, h⟩ := h
  refine w_cV (n := 9) (idx := 80) (cal := 168) (na := 0) (nl := 1) (as := []) (rest := [.int y3]) hL (by decide +kernel) (by decide +kernel) (at_483) (by decide +kernel) rfl rfl rfl (Nat.le_of_ble_eq_true rfl) rfl hr11 ?_
  by_cases c10 : v2 ≤ y3
  · rw [if_pos c10] at h
    refine w_icmp_ge_j (n := 35) (off := 26) (by decide +kernel) (by decide) c10 ?_
    refine w_iload_n (n := 36) (i := 2) (by decide +kernel) rfl rfl ?_
    subst h
    exact w_ireturn (by decide +kernel) (w_okI (by decide +kernel))
  · rw [if_neg c10] at h
    refine w_icmp_ge_n (n := 12) (off := 26) (by decide +kernel) rfl c10 ?_
    refine w_aload_n (n := 13) (i := 0) (by decide +kernel) rfl rfl ?_
    refine w_iload_n (n := 14) (i := 1) (by decide +kernel) rfl rfl ?_
    refine w_iload_n (n := 15) (i := 3) (by decide +kernel) rfl rfl ?_
    obtain ⟨v4, M3, hLM3, hr9, h⟩ := h
    refine w_cV (n := 18) (idx := 179) (cal := 196) (na := 2) (nl := 3) (as := [.int x1, .int y3]) (rest := []) hLM1 (by decide +kernel) (by decide +kernel) (at_483) (by decide +kernel) rfl rfl rfl (Nat.le_of_ble_eq_true rfl) rfl hr9 ?_
    by_cases c8 : v4 = 0
    · rw [if_pos c8] at h
      refine w_if_eq_j (n := 29) (off := 11) (by decide +kernel) (by decide) c8 ?_
      refine w_iinc (n := 32) (i := 3) (v := 1) (y := y3 + 1) (l1' := [some (.ref 483), some (.int x1), some (.int y2), some (.int (y3 + 1))]) (l2' := []) (by decide +kernel) rfl rfl rfl rfl rfl ?_
      refine w_goto (n := 4) (off := (-28)) (by decide +kernel) (by decide) ?_
      exact h
    · rw [if_neg c8] at h
      refine w_if_eq_n (n := 21) (off := 11) (by decide +kernel) rfl c8 ?_
      refine w_iload_n (n := 22) (i := 2) (by decide +kernel) rfl rfl ?_
      refine w_aload_n (n := 23) (i := 0) (by decide +kernel) rfl rfl ?_
      refine w_iload_n (n := 24) (i := 3) (by decide +kernel) rfl rfl ?_
      obtain ⟨v6, M5, hLM5, hr7, h⟩ := h
      refine w_cV (n := 27) (idx := 182) (cal := 199) (na := 1) (nl := 2) (as := [.int y3]) (rest := [.int y2]) hLM3 (by decide +kernel) (by decide +kernel) (at_483) (by decide +kernel) rfl rfl rfl (Nat.le_of_ble_eq_true rfl) rfl hr7 ?_
      refine w_iadd (n := 28) (by decide +kernel) rfl ?_
      refine w_istore_n (n := 29) (i := 2) (l1' := [some (.ref 483), some (.int x1), some (.int (y2 + v6)), some (.int y3)]) (l2' := []) (by decide +kernel) rfl (Nat.le_of_ble_eq_true rfl) rfl rfl ?_
      refine w_iinc (n := 32) (i := 3) (v := 1) (y := y3 + 1) (l1' := [some (.ref 483), some (.int x1), some (.int (y2 + v6)), some (.int (y3 + 1))]) (l2' := []) (by decide +kernel) rfl rfl rfl rfl rfl ?_
      refine w_goto (n := 4) (off := (-28)) (by decide +kernel) (by decide) ?_
      exact h
theorem t_201 {X : ak_X} {M : ak_M} {r : ak_O × ak_M} (hL : ab_lay M) (x1 : Int32) (h : sg X 201 (4, [some (.ref 483), some (.int x1), some (.int ((-1))), some (.int 0)], [], []) M r) : rn X 201 [.ref 483, .int x1] M r := by
  refine w_rn (nL := 4) (l1 := [some (.ref 483), some (.int x1), none, none]) (by decide +kernel) rfl rfl ?_
  refine w_iconst (n := 1) (v := -1) (x := (-1)) (by decide +kernel) rfl (by decide) ?_
  refine w_istore_n (n := 2) (i := 2) (l1' := [some (.ref 483), some (.int x1), some (.int ((-1))), none]) (l2' := []) (by decide +kernel) rfl (Nat.le_of_ble_eq_true rfl) rfl rfl ?_
  refine w_iconst (n := 3) (v := 0) (x := 0) (by decide +kernel) rfl (by decide) ?_
  refine w_istore_n (n := 4) (i := 3) (l1' := [some (.ref 483), some (.int x1), some (.int ((-1))), some (.int 0)]) (l2' := []) (by decide +kernel) rfl (Nat.le_of_ble_eq_true rfl) rfl rfl ?_
  exact h
theorem t_201_4 {X : ak_X} {M : ak_M} {r : ak_O × ak_M} (hL : ab_lay M) (x1 : Int32) (y2 : Int32) (y3 : Int32) (h : (∃ (v2 : Int32) (M1 : ak_M), ab_lay M1 ∧ rn X 168 [.ref 483] M (.inl (some (.int v2)), M1) ∧ (if v2 ≤ y3 then r = (.inl (some (.int y2)), M1) else (∃ (v4 : Int32) (M3 : ak_M), ab_lay M3 ∧ rn X 196 [.ref 483, .int x1, .int y3] M1 (.inl (some (.int v4)), M3) ∧ (if v4 = 0 then sg X 201 (4, [some (.ref 483), some (.int x1), some (.int y2), some (.int (y3 + 1))], [], []) M3 r else (if y2 = (-1) then sg X 201 (4, [some (.ref 483), some (.int x1), some (.int y3), some (.int (y3 + 1))], [], []) M3 r else (∃ (v6 : Int32) (M5 : ak_M), ab_lay M5 ∧ rn X 199 [.ref 483, .int y3] M3 (.inl (some (.int v6)), M5) ∧ (∃ (v8 : Int32) (M7 : ak_M), ab_lay M7 ∧ rn X 199 [.ref 483, .int y2] M5 (.inl (some (.int v8)), M7) ∧ (if v6 ≤ v8 then sg X 201 (4, [some (.ref 483), some (.int x1), some (.int y2), some (.int (y3 + 1))], [], []) M7 r else sg X 201 (4, [some (.ref 483), some (.int x1), some (.int y3), some (.int (y3 + 1))], [], []) M7 r))))))))) : sg X 201 (4, [some (.ref 483), some (.int x1), some (.int y2), some (.int y3)], [], []) M r := by
  refine w_iload_n (n := 5) (i := 3) (by decide +kernel) rfl rfl ?_
  refine w_aload_n (n := 6) (i := 0) (by decide +kernel) rfl rfl ?_
  obtain ⟨v2, M1, hLM1, hr16, h⟩ := h
  refine w_cV (n := 9) (idx := 80) (cal := 168) (na := 0) (nl := 1) (as := []) (rest := [.int y3]) hL (by decide +kernel) (by decide +kernel) (at_483) (by decide +kernel) rfl rfl rfl (Nat.le_of_ble_eq_true rfl) rfl hr16 ?_
  by_cases c15 : v2 ≤ y3
  · rw [if_pos c15] at h
    refine w_icmp_ge_j (n := 47) (off := 38) (by decide +kernel) (by decide) c15 ?_
    refine w_iload_n (n := 48) (i := 2) (by decide +kernel) rfl rfl ?_
    subst h
    exact w_ireturn (by decide +kernel) (w_okI (by decide +kernel))
  · rw [if_neg c15] at h
    refine w_icmp_ge_n (n := 12) (off := 38) (by decide +kernel) rfl c15 ?_
    refine w_aload_n (n := 13) (i := 0) (by decide +kernel) rfl rfl ?_
    refine w_iload_n (n := 14) (i := 1) (by decide +kernel) rfl rfl ?_
    refine w_iload_n (n := 15) (i := 3) (by decide +kernel) rfl rfl ?_
    obtain ⟨v4, M3, hLM3, hr14, h⟩ := h
    refine w_cV (n := 18) (idx := 179) (cal := 196) (na := 2) (nl := 3) (as := [.int x1, .int y3]) (rest := []) hLM1 (by decide +kernel) (by decide +kernel) (at_483) (by decide +kernel) rfl rfl rfl (Nat.le_of_ble_eq_true rfl) rfl hr14 ?_
    by_cases c13 : v4 = 0
    · rw [if_pos c13] at h
      refine w_if_eq_j (n := 41) (off := 23) (by decide +kernel) (by decide) c13 ?_
      refine w_iinc (n := 44) (i := 3) (v := 1) (y := y3 + 1) (l1' := [some (.ref 483), some (.int x1), some (.int y2), some (.int (y3 + 1))]) (l2' := []) (by decide +kernel) rfl rfl rfl rfl rfl ?_
      refine w_goto (n := 4) (off := (-40)) (by decide +kernel) (by decide) ?_
      exact h
    · rw [if_neg c13] at h
      refine w_if_eq_n (n := 21) (off := 23) (by decide +kernel) rfl c13 ?_
      refine w_iload_n (n := 22) (i := 2) (by decide +kernel) rfl rfl ?_
      refine w_iconst (n := 23) (v := -1) (x := (-1)) (by decide +kernel) rfl (by decide) ?_
      by_cases c12 : y2 = (-1)
      · rw [if_pos c12] at h
        refine w_icmp_eq_j (n := 39) (off := 16) (by decide +kernel) (by decide) c12 ?_
        refine w_iload_n (n := 40) (i := 3) (by decide +kernel) rfl rfl ?_
        refine w_istore_n (n := 41) (i := 2) (l1' := [some (.ref 483), some (.int x1), some (.int y3), some (.int y3)]) (l2' := []) (by decide +kernel) rfl (Nat.le_of_ble_eq_true rfl) rfl rfl ?_
        refine w_iinc (n := 44) (i := 3) (v := 1) (y := y3 + 1) (l1' := [some (.ref 483), some (.int x1), some (.int y3), some (.int (y3 + 1))]) (l2' := []) (by decide +kernel) rfl rfl rfl rfl rfl ?_
        refine w_goto (n := 4) (off := (-40)) (by decide +kernel) (by decide) ?_
        exact h
      · rw [if_neg c12] at h
        refine w_icmp_eq_n (n := 26) (off := 16) (by decide +kernel) rfl c12 ?_
        refine w_aload_n (n := 27) (i := 0) (by decide +kernel) rfl rfl ?_
        refine w_iload_n (n := 28) (i := 3) (by decide +kernel) rfl rfl ?_
        obtain ⟨v6, M5, hLM5, hr11, h⟩ := h
        refine w_cV (n := 31) (idx := 182) (cal := 199) (na := 1) (nl := 2) (as := [.int y3]) (rest := []) hLM3 (by decide +kernel) (by decide +kernel) (at_483) (by decide +kernel) rfl rfl rfl (Nat.le_of_ble_eq_true rfl) rfl hr11 ?_
        refine w_aload_n (n := 32) (i := 0) (by decide +kernel) rfl rfl ?_
        refine w_iload_n (n := 33) (i := 2) (by decide +kernel) rfl rfl ?_
        obtain ⟨v8, M7, hLM7, hr10, h⟩ := h
        refine w_cV (n := 36) (idx := 182) (cal := 199) (na := 1) (nl := 2) (as := [.int y2]) (rest := [.int v6]) hLM5 (by decide +kernel) (by decide +kernel) (at_483) (by decide +kernel) rfl rfl rfl (Nat.le_of_ble_eq_true rfl) rfl hr10 ?_
        by_cases c9 : v6 ≤ v8
        · rw [if_pos c9] at h
          refine w_icmp_le_j (n := 41) (off := 5) (by decide +kernel) (by decide) c9 ?_
          refine w_iinc (n := 44) (i := 3) (v := 1) (y := y3 + 1) (l1' := [some (.ref 483), some (.int x1), some (.int y2), some (.int (y3 + 1))]) (l2' := []) (by decide +kernel) rfl rfl rfl rfl rfl ?_
          refine w_goto (n := 4) (off := (-40)) (by decide +kernel) (by decide) ?_
          exact h
        · rw [if_neg c9] at h
          refine w_icmp_le_n (n := 39) (off := 5) (by decide +kernel) rfl c9 ?_
          refine w_iload_n (n := 40) (i := 3) (by decide +kernel) rfl rfl ?_
          refine w_istore_n (n := 41) (i := 2) (l1' := [some (.ref 483), some (.int x1), some (.int y3), some (.int y3)]) (l2' := []) (by decide +kernel) rfl (Nat.le_of_ble_eq_true rfl) rfl rfl ?_
          refine w_iinc (n := 44) (i := 3) (v := 1) (y := y3 + 1) (l1' := [some (.ref 483), some (.int x1), some (.int y3), some (.int (y3 + 1))]) (l2' := []) (by decide +kernel) rfl rfl rfl rfl rfl ?_
          refine w_goto (n := 4) (off := (-40)) (by decide +kernel) (by decide) ?_
          exact h
theorem t_202 {X : ak_X} {M : ak_M} {r : ak_O × ak_M} (hL : ab_lay M) (x1 : Int32) (h : sg X 202 (4, [some (.ref 483), some (.int x1), some (.int 0), some (.int 0), none], [], []) M r) : rn X 202 [.ref 483, .int x1] M r := by
  refine w_rn (nL := 5) (l1 := [some (.ref 483), some (.int x1), none, none, none]) (by decide +kernel) rfl rfl ?_
  refine w_iconst (n := 1) (v := 0) (x := 0) (by decide +kernel) rfl (by decide) ?_
  refine w_istore_n (n := 2) (i := 2) (l1' := [some (.ref 483), some (.int x1), some (.int 0), none, none]) (l2' := []) (by decide +kernel) rfl (Nat.le_of_ble_eq_true rfl) rfl rfl ?_
  refine w_iconst (n := 3) (v := 0) (x := 0) (by decide +kernel) rfl (by decide) ?_
  refine w_istore_n (n := 4) (i := 3) (l1' := [some (.ref 483), some (.int x1), some (.int 0), some (.int 0), none]) (l2' := []) (by decide +kernel) rfl (Nat.le_of_ble_eq_true rfl) rfl rfl ?_
  exact h
theorem t_202_4 {X : ak_X} {M : ak_M} {r : ak_O × ak_M} (hL : ab_lay M) (x1 : Int32) (y2 : Int32) (y3 : Int32) (o4 : Option Value) (h : (∃ (v2 : Int32) (M1 : ak_M), ab_lay M1 ∧ rn X 168 [.ref 483] M (.inl (some (.int v2)), M1) ∧ (if v2 ≤ y3 then r = (.inl (some (.int y2)), M1) else sg X 202 (15, [some (.ref 483), some (.int x1), some (.int y2), some (.int y3), some (.int 0)], [], []) M1 r))) : sg X 202 (4, [some (.ref 483), some (.int x1), some (.int y2), some (.int y3), o4], [], []) M r := by
  refine w_iload_n (n := 5) (i := 3) (by decide +kernel) rfl rfl ?_
  refine w_aload_n (n := 6) (i := 0) (by decide +kernel) rfl rfl ?_
  obtain ⟨v2, M1, hLM1, hr4, h⟩ := h
  refine w_cV (n := 9) (idx := 80) (cal := 168) (na := 0) (nl := 1) (as := []) (rest := [.int y3]) hL (by decide +kernel) (by decide +kernel) (at_483) (by decide +kernel) rfl rfl rfl (Nat.le_of_ble_eq_true rfl) rfl hr4 ?_
  by_cases c3 : v2 ≤ y3
  · rw [if_pos c3] at h
    refine w_icmp_ge_j (n := 64) (off := 55) (by decide +kernel) (by decide) c3 ?_
    refine w_iload_n (n := 65) (i := 2) (by decide +kernel) rfl rfl ?_
    subst h
    exact w_ireturn (by decide +kernel) (w_okI (by decide +kernel))
  · rw [if_neg c3] at h
    refine w_icmp_ge_n (n := 12) (off := 55) (by decide +kernel) rfl c3 ?_
    refine w_iconst (n := 13) (v := 0) (x := 0) (by decide +kernel) rfl (by decide) ?_
    refine w_istore (n := 15) (i := 4) (l1' := [some (.ref 483), some (.int x1), some (.int y2), some (.int y3), some (.int 0)]) (l2' := []) (by decide +kernel) rfl (Nat.le_of_ble_eq_true rfl) rfl rfl ?_
    exact h
theorem t_202_15 {X : ak_X} {M : ak_M} {r : ak_O × ak_M} (hL : ab_lay M) (x1 : Int32) (y2 : Int32) (y3 : Int32) (y4 : Int32) (h : (if y3 ≤ y4 then sg X 202 (4, [some (.ref 483), some (.int x1), some (.int y2), some (.int (y3 + 1)), some (.int y4)], [], []) M r else (if x1 = 0 then (∃ (v6 : Int32) (M5 : ak_M), ab_lay M5 ∧ rn X 192 [.ref 483, .int y4, .int y3] M (.inl (some (.int v6)), M5) ∧ (if v6 = 0 then sg X 202 (15, [some (.ref 483), some (.int x1), some (.int y2), some (.int y3), some (.int (y4 + 1))], [], []) M5 r else sg X 202 (15, [some (.ref 483), some (.int x1), some (.int (y2 + 1)), some (.int y3), some (.int (y4 + 1))], [], []) M5 r)) else (∃ (v10 : Int32) (M9 : ak_M), ab_lay M9 ∧ rn X 196 [.ref 483, .int y4, .int y3] M (.inl (some (.int v10)), M9) ∧ (if v10 = 0 then sg X 202 (15, [some (.ref 483), some (.int x1), some (.int y2), some (.int y3), some (.int (y4 + 1))], [], []) M9 r else sg X 202 (15, [some (.ref 483), some (.int x1), some (.int (y2 + 1)), some (.int y3), some (.int (y4 + 1))], [], []) M9 r))))) : sg X 202 (15, [some (.ref 483), some (.int x1), some (.int y2), some (.int y3), some (.int y4)], [], []) M r := by
  refine w_iload (n := 17) (i := 4) (by decide +kernel) rfl rfl ?_
  refine w_iload_n (n := 18) (i := 3) (by decide +kernel) rfl rfl ?_
  by_cases c14 : y3 ≤ y4
  · rw [if_pos c14] at h
    refine w_icmp_ge_j (n := 58) (off := 40) (by decide +kernel) (by decide) c14 ?_
    refine w_iinc (n := 61) (i := 3) (v := 1) (y := y3 + 1) (l1' := [some (.ref 483), some (.int x1), some (.int y2), some (.int (y3 + 1)), some (.int y4)]) (l2' := []) (by decide +kernel) rfl rfl rfl rfl rfl ?_
    refine w_goto (n := 4) (off := (-57)) (by decide +kernel) (by decide) ?_
    exact h
  · rw [if_neg c14] at h
    refine w_icmp_ge_n (n := 21) (off := 40) (by decide +kernel) rfl c14 ?_
    refine w_iload_n (n := 22) (i := 1) (by decide +kernel) rfl rfl ?_
    by_cases c13 : x1 = 0
    · rw [if_pos c13] at h
      refine w_if_eq_j (n := 38) (off := 16) (by decide +kernel) (by decide) c13 ?_
      refine w_aload_n (n := 39) (i := 0) (by decide +kernel) rfl rfl ?_
      refine w_iload (n := 41) (i := 4) (by decide +kernel) rfl rfl ?_
      refine w_iload_n (n := 42) (i := 3) (by decide +kernel) rfl rfl ?_
      obtain ⟨v6, M5, hLM5, hr8, h⟩ := h
      refine w_cV (n := 45) (idx := 167) (cal := 192) (na := 2) (nl := 3) (as := [.int y4, .int y3]) (rest := []) hL (by decide +kernel) (by decide +kernel) (at_483) (by decide +kernel) rfl rfl rfl (Nat.le_of_ble_eq_true rfl) rfl hr8 ?_
      by_cases c7 : v6 = 0
      · rw [if_pos c7] at h
        refine w_if_eq_j (n := 52) (off := 7) (by decide +kernel) (by decide) c7 ?_
        refine w_iinc (n := 55) (i := 4) (v := 1) (y := y4 + 1) (l1' := [some (.ref 483), some (.int x1), some (.int y2), some (.int y3), some (.int (y4 + 1))]) (l2' := []) (by decide +kernel) rfl rfl rfl rfl rfl ?_
        refine w_goto (n := 15) (off := (-40)) (by decide +kernel) (by decide) ?_
        exact h
      · rw [if_neg c7] at h
        refine w_if_eq_n (n := 48) (off := 7) (by decide +kernel) rfl c7 ?_
        refine w_iload_n (n := 49) (i := 2) (by decide +kernel) rfl rfl ?_
        refine w_iconst (n := 50) (v := 1) (x := 1) (by decide +kernel) rfl (by decide) ?_
        refine w_iadd (n := 51) (by decide +kernel) rfl ?_
        refine w_istore_n (n := 52) (i := 2) (l1' := [some (.ref 483), some (.int x1), some (.int (y2 + 1)), some (.int y3), some (.int y4)]) (l2' := []) (by decide +kernel) rfl (Nat.le_of_ble_eq_true rfl) rfl rfl ?_
        refine w_iinc (n := 55) (i := 4) (v := 1) (y := y4 + 1) (l1' := [some (.ref 483), some (.int x1), some (.int (y2 + 1)), some (.int y3), some (.int (y4 + 1))]) (l2' := []) (by decide +kernel) rfl rfl rfl rfl rfl ?_
        refine w_goto (n := 15) (off := (-40)) (by decide +kernel) (by decide) ?_
        exact h
    · rw [if_neg c13] at h
      refine w_if_eq_n (n := 25) (off := 16) (by decide +kernel) rfl c13 ?_
      refine w_aload_n (n := 26) (i := 0) (by decide +kernel) rfl rfl ?_
      refine w_iload (n := 28) (i := 4) (by decide +kernel) rfl rfl ?_
      refine w_iload_n (n := 29) (i := 3) (by decide +kernel) rfl rfl ?_
      obtain ⟨v10, M9, hLM9, hr12, h⟩ := h
      refine w_cV (n := 32) (idx := 179) (cal := 196) (na := 2) (nl := 3) (as := [.int y4, .int y3]) (rest := []) hL (by decide +kernel) (by decide +kernel) (at_483) (by decide +kernel) rfl rfl rfl (Nat.le_of_ble_eq_true rfl) rfl hr12 ?_
      by_cases c11 : v10 = 0
      · rw [if_pos c11] at h
        refine w_if_eq_j (n := 52) (off := 20) (by decide +kernel) (by decide) c11 ?_
        refine w_iinc (n := 55) (i := 4) (v := 1) (y := y4 + 1) (l1' := [some (.ref 483), some (.int x1), some (.int y2), some (.int y3), some (.int (y4 + 1))]) (l2' := []) (by decide +kernel) rfl rfl rfl rfl rfl ?_
        refine w_goto (n := 15) (off := (-40)) (by decide +kernel) (by decide) ?_
        exact h
      · rw [if_neg c11] at h
        refine w_if_eq_n (n := 35) (off := 20) (by decide +kernel) rfl c11 ?_
        refine w_goto (n := 48) (off := 13) (by decide +kernel) (by decide) ?_
        refine w_iload_n (n := 49) (i := 2) (by decide +kernel) rfl rfl ?_
        refine w_iconst (n := 50) (v := 1) (x := 1) (by decide +kernel) rfl (by decide) ?_
        refine w_iadd (n := 51) (by decide +kernel) rfl ?_
        refine w_istore_n (n := 52) (i := 2) (l1' := [some (.ref 483), some (.int x1), some (.int (y2 + 1)), some (.int y3), some (.int y4)]) (l2' := []) (by decide +kernel) rfl (Nat.le_of_ble_eq_true rfl) rfl rfl ?_
        refine w_iinc (n := 55) (i := 4) (v := 1) (y := y4 + 1) (l1' := [some (.ref 483), some (.int x1), some (.int (y2 + 1)), some (.int y3), some (.int (y4 + 1))]) (l2' := []) (by decide +kernel) rfl rfl rfl rfl rfl ?_
        refine w_goto (n := 15) (off := (-40)) (by decide +kernel) (by decide) ?_
        exact h
theorem t_203 {X : ak_X} {M : ak_M} {r : ak_O × ak_M} (hL : ab_lay M) (x1 : Int32) (x2 : Int32) (x3 : Int32) (h : sg X 203 (9, [some (.ref 483), some (.int x1), some (.int x2), some (.int x3), some (.int ((-1))), some (.int 0), some (.int 0), none, none], [], []) M r) : rn X 203 [.ref 483, .int x1, .int x2, .int x3] M r := by
  refine w_rn (nL := 9) (l1 := [some (.ref 483), some (.int x1), some (.int x2), some (.int x3), none, none, none, none, none]) (by decide +kernel) rfl rfl ?_
  refine w_iconst (n := 1) (v := -1) (x := (-1)) (by decide +kernel) rfl (by decide) ?_
  refine w_istore (n := 3) (i := 4) (l1' := [some (.ref 483), some (.int x1), some (.int x2), some (.int x3), some (.int ((-1))), none, none, none, none]) (l2' := []) (by decide +kernel) rfl (Nat.le_of_ble_eq_true rfl) rfl rfl ?_
  refine w_iconst (n := 4) (v := 0) (x := 0) (by decide +kernel) rfl (by decide) ?_
  refine w_istore (n := 6) (i := 5) (l1' := [some (.ref 483), some (.int x1), some (.int x2), some (.int x3), some (.int ((-1))), some (.int 0), none, none, none]) (l2' := []) (by decide +kernel) rfl (Nat.le_of_ble_eq_true rfl) rfl rfl ?_
  refine w_iconst (n := 7) (v := 0) (x := 0) (by decide +kernel) rfl (by decide) ?_
  refine w_istore (n := 9) (i := 6) (l1' := [some (.ref 483), some (.int x1), some (.int x2), some (.int x3), some (.int ((-1))), some (.int 0), some (.int 0), none, none]) (l2' := []) (by decide +kernel) rfl (Nat.le_of_ble_eq_true rfl) rfl rfl ?_
  exact h
theorem t_203_9 {X : ak_X} {M : ak_M} {r : ak_O × ak_M} (hL : ab_lay M) (x1 : Int32) (x2 : Int32) (x3 : Int32) (y4 : Int32) (y5 : Int32) (y6 : Int32) (o7 : Option Value) (o8 : Option Value) (h : (∃ (v2 : Int32) (M1 : ak_M), ab_lay M1 ∧ rn X 168 [.ref 483] M (.inl (some (.int v2)), M1) ∧ (if v2 ≤ y6 then r = (.inl (some (.int y4)), M1) else (∃ (v4 : Int32) (M3 : ak_M), ab_lay M3 ∧ rn X 171 [.ref 483, .int y6, .int 4] M1 (.inl (some (.int v4)), M3) ∧ (∃ (v6 : Int32) (M5 : ak_M), ab_lay M5 ∧ rn X 314 [.int (v4 - x1)] M3 (.inl (some (.int v6)), M5) ∧ (∃ (v8 : Int32) (M7 : ak_M), ab_lay M7 ∧ rn X 171 [.ref 483, .int y6, .int 5] M5 (.inl (some (.int v8)), M7) ∧ (∃ (v10 : Int32) (M9 : ak_M), ab_lay M9 ∧ rn X 314 [.int (v8 - x2)] M7 (.inl (some (.int v10)), M9) ∧ (if y6 = x3 then sg X 203 (111, [some (.ref 483), some (.int x1), some (.int x2), some (.int x3), some (.int y4), some (.int y5), some (.int y6), some (.int v6), some (.int v10)], [], []) M9 r else (∃ (v12 : Int32) (M11 : ak_M), ab_lay M11 ∧ rn X 176 [.ref 483, .int y6] M9 (.inl (some (.int v12)), M11) ∧ (if v12 = 0 then sg X 203 (111, [some (.ref 483), some (.int x1), some (.int x2), some (.int x3), some (.int y4), some (.int y5), some (.int y6), some (.int v6), some (.int v10)], [], []) M11 r else (∃ (v14 : Int32) (M13 : ak_M), ab_lay M13 ∧ rn X 174 [.ref 483, .int 5] M11 (.inl (some (.int v14)), M13) ∧ (if v14 < v6 then sg X 203 (111, [some (.ref 483), some (.int x1), some (.int x2), some (.int x3), some (.int y4), some (.int y5), some (.int y6), some (.int v6), some (.int v10)], [], []) M13 r else (∃ (v16 : Int32) (M15 : ak_M), ab_lay M15 ∧ rn X 174 [.ref 483, .int 5] M13 (.inl (some (.int v16)), M15) ∧ (if v16 < v10 then sg X 203 (111, [some (.ref 483), some (.int x1), some (.int x2), some (.int x3), some (.int y4), some (.int y5), some (.int y6), some (.int v6), some (.int v10)], [], []) M15 r else (if y4 = (-1) then sg X 203 (100, [some (.ref 483), some (.int x1), some (.int x2), some (.int x3), some (.int y4), some (.int y5), some (.int y6), some (.int v6), some (.int v10)], [], []) M15 r else (if v6 + v10 < y5 then sg X 203 (100, [some (.ref 483), some (.int x1), some (.int x2), some (.int x3), some (.int y4), some (.int y5), some (.int y6), some (.int v6), some (.int v10)], [], []) M15 r else sg X 203 (111, [some (.ref 483), some (.int x1), some (.int x2), some (.int x3), some (.int y4), some (.int y5), some (.int y6), some (.int v6), some (.int v10)], [], []) M15 r)))))))))))))))) : sg X 203 (9, [some (.ref 483), some (.int x1), some (.int x2), some (.int x3), some (.int y4), some (.int y5), some (.int y6), o7, o8], [], []) M r := by
  refine w_iload (n := 11) (i := 6) (by decide +kernel) rfl rfl ?_
  refine w_aload_n (n := 12) (i := 0) (by decide +kernel) rfl rfl ?_
  obtain ⟨v2, M1, hLM1, hr31, h⟩ := h
  refine w_cV (n := 15) (idx := 80) (cal := 168) (na := 0) (nl := 1) (as := []) (rest := [.int y6]) hL (by decide +kernel) (by decide +kernel) (at_483) (by decide +kernel) rfl rfl rfl (Nat.le_of_ble_eq_true rfl) rfl hr31 ?_
  by_cases c30 : v2 ≤ y6
  · rw [if_pos c30] at h
    refine w_icmp_ge_j (n := 117) (off := 102) (by decide +kernel) (by decide) c30 ?_
    refine w_iload (n := 119) (i := 4) (by decide +kernel) rfl rfl ?_
    subst h
    exact w_ireturn (by decide +kernel) (w_okI (by decide +kernel))
  · rw [if_neg c30] at h
    refine w_icmp_ge_n (n := 18) (off := 102) (by decide +kernel) rfl c30 ?_
    refine w_aload_n (n := 19) (i := 0) (by decide +kernel) rfl rfl ?_
    refine w_iload (n := 21) (i := 6) (by decide +kernel) rfl rfl ?_
    refine w_iconst (n := 22) (v := 4) (x := 4) (by decide +kernel) rfl (by decide) ?_
    obtain ⟨v4, M3, hLM3, hr29, h⟩ := h
    refine w_cV (n := 25) (idx := 92) (cal := 171) (na := 2) (nl := 3) (as := [.int y6, .int 4]) (rest := []) hLM1 (by decide +kernel) (by decide +kernel) (at_483) (by decide +kernel) rfl rfl rfl (Nat.le_of_ble_eq_true rfl) rfl hr29 ?_
    refine w_iload_n (n := 26) (i := 1) (by decide +kernel) rfl rfl ?_
    refine w_isub (n := 27) (by decide +kernel) rfl ?_
    obtain ⟨v6, M5, hLM5, hr28, h⟩ := h
    refine w_cS (n := 30) (idx := 105) (cal := 314) (na := 1) (nl := 1) (as := [.int (v4 - x1)]) (rest := []) (by decide +kernel) (by decide +kernel) rfl rfl rfl (Nat.le_of_ble_eq_true rfl) rfl hr28 ?_
    refine w_istore (n := 32) (i := 7) (l1' := [some (.ref 483), some (.int x1), some (.int x2), some (.int x3), some (.int y4), some (.int y5), some (.int y6), some (.int v6), o8]) (l2' := []) (by decide +kernel) rfl (Nat.le_of_ble_eq_true rfl) rfl rfl ?_
    refine w_aload_n (n := 33) (i := 0) (by decide +kernel) rfl rfl ?_
    refine w_iload (n := 35) (i := 6) (by decide +kernel) rfl rfl ?_
    refine w_iconst (n := 36) (v := 5) (x := 5) (by decide +kernel) rfl (by decide) ?_
    obtain ⟨v8, M7, hLM7, hr27, h⟩ := h
    refine w_cV (n := 39) (idx := 92) (cal := 171) (na := 2) (nl := 3) (as := [.int y6, .int 5]) (rest := []) hLM5 (by decide +kernel) (by decide +kernel) (at_483) (by decide +kernel) rfl rfl rfl (Nat.le_of_ble_eq_true rfl) rfl hr27 ?_
    refine w_iload_n (n := 40) (i := 2) (by decide +kernel) rfl rfl ?_
    refine w_isub (n := 41) (by decide +kernel) rfl ?_
    obtain ⟨v10, M9, hLM9, hr26, h⟩ := h
    refine w_cS (n := 44) (idx := 105) (cal := 314) (na := 1) (nl := 1) (as := [.int (v8 - x2)]) (rest := []) (by decide +kernel) (by decide +kernel) rfl rfl rfl (Nat.le_of_ble_eq_true rfl) rfl hr26 ?_
    refine w_istore (n := 46) (i := 8) (l1' := [some (.ref 483), some (.int x1), some (.int x2), some (.int x3), some (.int y4), some (.int y5), some (.int y6), some (.int v6), some (.int v10)]) (l2' := []) (by decide +kernel) rfl (Nat.le_of_ble_eq_true rfl) rfl rfl ?_
    refine w_iload (n := 48) (i := 6) (by decide +kernel) rfl rfl ?_
    refine w_iload_n (n := 49) (i := 3) (by decide +kernel) rfl rfl ?_
    by_cases c25 : y6 = x3
    · rw [if_pos c25] at h
      refine w_icmp_eq_j (n := 111) (off := 62) (by decide +kernel) (by decide) c25 ?_
      exact h
    · rw [if_neg c25] at h
      refine w_icmp_eq_n (n := 52) (off := 62) (by decide +kernel) rfl c25 ?_
      refine w_aload_n (n := 53) (i := 0) (by decide +kernel) rfl rfl ?_
      refine w_iload (n := 55) (i := 6) (by decide +kernel) rfl rfl ?_
      obtain ⟨v12, M11, hLM11, hr24, h⟩ := h
      refine w_cV (n := 58) (idx := 185) (cal := 176) (na := 1) (nl := 2) (as := [.int y6]) (rest := []) hLM9 (by decide +kernel) (by decide +kernel) (at_483) (by decide +kernel) rfl rfl rfl (Nat.le_of_ble_eq_true rfl) rfl hr24 ?_
      by_cases c23 : v12 = 0
      · rw [if_pos c23] at h
        refine w_if_eq_j (n := 111) (off := 53) (by decide +kernel) (by decide) c23 ?_
        exact h
      · rw [if_neg c23] at h
        refine w_if_eq_n (n := 61) (off := 53) (by decide +kernel) rfl c23 ?_
        refine w_iload (n := 63) (i := 7) (by decide +kernel) rfl rfl ?_
        refine w_aload_n (n := 64) (i := 0) (by decide +kernel) rfl rfl ?_
        refine w_iconst (n := 65) (v := 5) (x := 5) (by decide +kernel) rfl (by decide) ?_
        obtain ⟨v14, M13, hLM13, hr22, h⟩ := h
        refine w_cV (n := 68) (idx := 173) (cal := 174) (na := 1) (nl := 2) (as := [.int 5]) (rest := [.int v6]) hLM11 (by decide +kernel) (by decide +kernel) (at_483) (by decide +kernel) rfl rfl rfl (Nat.le_of_ble_eq_true rfl) rfl hr22 ?_
        by_cases c21 : v14 < v6
        · rw [if_pos c21] at h
          refine w_icmp_gt_j (n := 111) (off := 43) (by decide +kernel) (by decide) c21 ?_
          exact h
        · rw [if_neg c21] at h
          refine w_icmp_gt_n (n := 71) (off := 43) (by decide +kernel) rfl c21 ?_
          refine w_iload (n := 73) (i := 8) (by decide +kernel) rfl rfl ?_
          refine w_aload_n (n := 74) (i := 0) (by decide +kernel) rfl rfl ?_
          refine w_iconst (n := 75) (v := 5) (x := 5) (by decide +kernel) rfl (by decide) ?_
          obtain ⟨v16, M15, hLM15, hr20, h⟩ := h
          refine w_cV (n := 78) (idx := 173) (cal := 174) (na := 1) (nl := 2) (as := [.int 5]) (rest := [.int v10]) hLM13 (by decide +kernel) (by decide +kernel) (at_483) (by decide +kernel) rfl rfl rfl (Nat.le_of_ble_eq_true rfl) rfl hr20 ?_
          by_cases c19 : v16 < v10
          · rw [if_pos c19] at h
            refine w_icmp_gt_j (n := 111) (off := 33) (by decide +kernel) (by decide) c19 ?_
            exact h
          · rw [if_neg c19] at h
            refine w_icmp_gt_n (n := 81) (off := 33) (by decide +kernel) rfl c19 ?_
            refine w_iload (n := 83) (i := 4) (by decide +kernel) rfl rfl ?_
            refine w_iconst (n := 84) (v := -1) (x := (-1)) (by decide +kernel) rfl (by decide) ?_
            by_cases c18 : y4 = (-1)
            · rw [if_pos c18] at h
              refine w_icmp_eq_j (n := 100) (off := 16) (by decide +kernel) (by decide) c18 ?_
              exact h
            · rw [if_neg c18] at h
              refine w_icmp_eq_n (n := 87) (off := 16) (by decide +kernel) rfl c18 ?_
              refine w_iload (n := 89) (i := 7) (by decide +kernel) rfl rfl ?_
              refine w_iload (n := 91) (i := 8) (by decide +kernel) rfl rfl ?_
              refine w_iadd (n := 92) (by decide +kernel) rfl ?_
              refine w_iload (n := 94) (i := 5) (by decide +kernel) rfl rfl ?_
              by_cases c17 : v6 + v10 < y5
              · rw [if_pos c17] at h
                refine w_icmp_lt_j (n := 100) (off := 6) (by decide +kernel) (by decide) c17 ?_
                exact h
              · rw [if_neg c17] at h
                refine w_icmp_lt_n (n := 97) (off := 6) (by decide +kernel) rfl c17 ?_
                refine w_goto (n := 111) (off := 14) (by decide +kernel) (by decide) ?_
                exact h
theorem t_203_100 {X : ak_X} {M : ak_M} {r : ak_O × ak_M} (hL : ab_lay M) (x1 : Int32) (x2 : Int32) (x3 : Int32) (o4 : Option Value) (o5 : Option Value) (y6 : Int32) (y7 : Int32) (y8 : Int32) (h : sg X 203 (111, [some (.ref 483), some (.int x1), some (.int x2), some (.int x3), some (.int y6), some (.int (y7 + y8)), some (.int y6), some (.int y7), some (.int y8)], [], []) M r) : sg X 203 (100, [some (.ref 483), some (.int x1), some (.int x2), some (.int x3), o4, o5, some (.int y6), some (.int y7), some (.int y8)], [], []) M r := by
  refine w_iload (n := 102) (i := 6) (by decide +kernel) rfl rfl ?_
  refine w_istore (n := 104) (i := 4) (l1' := [some (.ref 483), some (.int x1), some (.int x2), some (.int x3), some (.int y6), o5, some (.int y6), some (.int y7), some (.int y8)]) (l2' := []) (by decide +kernel) rfl (Nat.le_of_ble_eq_true rfl) rfl rfl ?_
  refine w_iload (n := 106) (i := 7) (by decide +kernel) rfl rfl ?_
  refine w_iload (n := 108) (i := 8) (by decide +kernel) rfl rfl ?_
  refine w_iadd (n := 109) (by decide +kernel) rfl ?_
  refine w_istore (n := 111) (i := 5) (l1' := [some (.ref 483), some (.int x1), some (.int x2), some (.int x3), some (.int y6), some (.int (y7 + y8)), some (.int y6), some (.int y7), some (.int y8)]) (l2' := []) (by decide +kernel) rfl (Nat.le_of_ble_eq_true rfl) rfl rfl ?_
  exact h
theorem t_203_111 {X : ak_X} {M : ak_M} {r : ak_O × ak_M} (hL : ab_lay M) (x1 : Int32) (x2 : Int32) (x3 : Int32) (y4 : Int32) (y5 : Int32) (y6 : Int32) (o7 : Option Value) (o8 : Option Value) (h : sg X 203 (9, [some (.ref 483), some (.int x1), some (.int x2), some (.int x3), some (.int y4), some (.int y5), some (.int (y6 + 1)), o7, o8], [], []) M r) : sg X 203 (111, [some (.ref 483), some (.int x1), some (.int x2), some (.int x3), some (.int y4), some (.int y5), some (.int y6), o7, o8], [], []) M r := by
  refine w_iinc (n := 114) (i := 6) (v := 1) (y := y6 + 1) (l1' := [some (.ref 483), some (.int x1), some (.int x2), some (.int x3), some (.int y4), some (.int y5), some (.int (y6 + 1)), o7, o8]) (l2' := []) (by decide +kernel) rfl rfl rfl rfl rfl ?_
  refine w_goto (n := 9) (off := (-105)) (by decide +kernel) (by decide) ?_
  exact h
theorem t_204 {X : ak_X} {M : ak_M} {r : ak_O × ak_M} (hL : ab_lay M) (x0 : Int32) (h : (∃ (v2 : Int32) (M1 : ak_M), ab_lay M1 ∧ rn X 316 [.int 199, .int x0] M (.inl (some (.int v2)), M1) ∧ (∃ (v4 : Int32) (M3 : ak_M), ab_lay M3 ∧ rn X 315 [.int 0, .int v2] M1 (.inl (some (.int v4)), M3) ∧ r = (.inl (some (.int v4)), M3)))) : rn X 204 [.int x0] M r := by
  refine w_rn (nL := 1) (l1 := [some (.int x0)]) (by decide +kernel) rfl rfl ?_
  refine w_iconst (n := 1) (v := 0) (x := 0) (by decide +kernel) rfl (by decide) ?_
  refine w_sipush (n := 4) (v := 199) (x := 199) (by decide +kernel) rfl (by decide) ?_
  refine w_iload_n (n := 5) (i := 0) (by decide +kernel) rfl rfl ?_
  obtain ⟨v2, M1, hLM1, hr6, h⟩ := h
  refine w_cS (n := 8) (idx := 176) (cal := 316) (na := 2) (nl := 2) (as := [.int 199, .int x0]) (rest := [.int 0]) (by decide +kernel) (by decide +kernel) rfl rfl rfl (Nat.le_of_ble_eq_true rfl) rfl hr6 ?_
  obtain ⟨v4, M3, hLM3, hr5, h⟩ := h
  refine w_cS (n := 11) (idx := 111) (cal := 315) (na := 2) (nl := 2) (as := [.int 0, .int v2]) (rest := []) (by decide +kernel) (by decide +kernel) rfl rfl rfl (Nat.le_of_ble_eq_true rfl) rfl hr5 ?_
  subst h
  exact w_ireturn (by decide +kernel) (w_okI (by decide +kernel))
theorem t_205 {X : ak_X} {M : ak_M} {r : ak_O × ak_M} (hL : ab_lay M) (x1 : Int32) (h : (∃ (v2 : Int32) (M1 : ak_M), ab_lay M1 ∧ rn X 171 [.ref 483, .int x1, .int 3] M (.inl (some (.int v2)), M1) ∧ (∃ (v4 : Int32) (M3 : ak_M), ab_lay M3 ∧ rn X 178 [.ref 483, .int v2] M1 (.inl (some (.int v4)), M3) ∧ (∃ (v6 : Int32) (M5 : ak_M), ab_lay M5 ∧ rn X 171 [.ref 483, .int x1, .int 1] M3 (.inl (some (.int v6)), M5) ∧ (∃ (v8 : Int32) (M7 : ak_M), ab_lay M7 ∧ rn X 177 [.ref 483, .int v4, .int 1] M5 (.inl (some (.int v8)), M7) ∧ (∃ (v10 : Int32) (M9 : ak_M), ab_lay M9 ∧ rn X 204 [.int (v6 + v8)] M7 (.inl (some (.int v10)), M9) ∧ (∃ (M11 : ak_M), ab_lay M11 ∧ rn X 172 [.ref 483, .int x1, .int 1, .int v10] M9 (.inl (none), M11) ∧ (∃ (v13 : Int32) (M12 : ak_M), ab_lay M12 ∧ rn X 171 [.ref 483, .int x1, .int 2] M11 (.inl (some (.int v13)), M12) ∧ (∃ (v15 : Int32) (M14 : ak_M), ab_lay M14 ∧ rn X 177 [.ref 483, .int v4, .int 2] M12 (.inl (some (.int v15)), M14) ∧ (∃ (v17 : Int32) (M16 : ak_M), ab_lay M16 ∧ rn X 204 [.int (v13 + v15)] M14 (.inl (some (.int v17)), M16) ∧ (∃ (M18 : ak_M), ab_lay M18 ∧ rn X 172 [.ref 483, .int x1, .int 2, .int v17] M16 (.inl (none), M18) ∧ r = (.inl none, M18)))))))))))) : rn X 205 [.ref 483, .int x1] M r := by
  refine w_rn (nL := 3) (l1 := [some (.ref 483), some (.int x1), none]) (by decide +kernel) rfl rfl ?_
  refine w_aload_n (n := 1) (i := 0) (by decide +kernel) rfl rfl ?_
  refine w_aload_n (n := 2) (i := 0) (by decide +kernel) rfl rfl ?_
  refine w_iload_n (n := 3) (i := 1) (by decide +kernel) rfl rfl ?_
  refine w_iconst (n := 4) (v := 3) (x := 3) (by decide +kernel) rfl (by decide) ?_
  obtain ⟨v2, M1, hLM1, hr28, h⟩ := h
  refine w_cV (n := 7) (idx := 92) (cal := 171) (na := 2) (nl := 3) (as := [.int x1, .int 3]) (rest := [.ref 483]) hL (by decide +kernel) (by decide +kernel) (at_483) (by decide +kernel) rfl rfl rfl (Nat.le_of_ble_eq_true rfl) rfl hr28 ?_
  obtain ⟨v4, M3, hLM3, hr27, h⟩ := h
  refine w_cV (n := 10) (idx := 188) (cal := 178) (na := 1) (nl := 2) (as := [.int v2]) (rest := []) hLM1 (by decide +kernel) (by decide +kernel) (at_483) (by decide +kernel) rfl rfl rfl (Nat.le_of_ble_eq_true rfl) rfl hr27 ?_
  refine w_istore_n (n := 11) (i := 2) (l1' := [some (.ref 483), some (.int x1), some (.int v4)]) (l2' := []) (by decide +kernel) rfl (Nat.le_of_ble_eq_true rfl) rfl rfl ?_
  refine w_aload_n (n := 12) (i := 0) (by decide +kernel) rfl rfl ?_
  refine w_iload_n (n := 13) (i := 1) (by decide +kernel) rfl rfl ?_
  refine w_iconst (n := 14) (v := 1) (x := 1) (by decide +kernel) rfl (by decide) ?_
  refine w_aload_n (n := 15) (i := 0) (by decide +kernel) rfl rfl ?_
  refine w_iload_n (n := 16) (i := 1) (by decide +kernel) rfl rfl ?_
  refine w_iconst (n := 17) (v := 1) (x := 1) (by decide +kernel) rfl (by decide) ?_
  obtain ⟨v6, M5, hLM5, hr26, h⟩ := h
  refine w_cV (n := 20) (idx := 92) (cal := 171) (na := 2) (nl := 3) (as := [.int x1, .int 1]) (rest := [.int 1, .int x1, .ref 483]) hLM3 (by decide +kernel) (by decide +kernel) (at_483) (by decide +kernel) rfl rfl rfl (Nat.le_of_ble_eq_true rfl) rfl hr26 ?_
  refine w_aload_n (n := 21) (i := 0) (by decide +kernel) rfl rfl ?_
  refine w_iload_n (n := 22) (i := 2) (by decide +kernel) rfl rfl ?_
  refine w_iconst (n := 23) (v := 1) (x := 1) (by decide +kernel) rfl (by decide) ?_
  obtain ⟨v8, M7, hLM7, hr25, h⟩ := h
  refine w_cV (n := 26) (idx := 102) (cal := 177) (na := 2) (nl := 3) (as := [.int v4, .int 1]) (rest := [.int v6, .int 1, .int x1, .ref 483]) hLM5 (by decide +kernel) (by decide +kernel) (at_483) (by decide +kernel) rfl rfl rfl (Nat.le_of_ble_eq_true rfl) rfl hr25 ?_
  refine w_iadd (n := 27) (by decide +kernel) rfl ?_
  obtain ⟨v10, M9, hLM9, hr24, h⟩ := h
  refine w_cS (n := 30) (idx := 191) (cal := 204) (na := 1) (nl := 1) (as := [.int (v6 + v8)]) (rest := [.int 1, .int x1, .ref 483]) (by decide +kernel) (by decide +kernel) rfl rfl rfl (Nat.le_of_ble_eq_true rfl) rfl hr24 ?_
  obtain ⟨M11, hLM11, hr23, h⟩ := h
  refine w_cV (n := 33) (idx := 96) (cal := 172) (na := 3) (nl := 4) (as := [.int x1, .int 1, .int v10]) (rest := []) hLM9 (by decide +kernel) (by decide +kernel) (at_483) (by decide +kernel) rfl rfl rfl (Nat.le_of_ble_eq_true rfl) rfl hr23 ?_
  refine w_aload_n (n := 34) (i := 0) (by decide +kernel) rfl rfl ?_
  refine w_iload_n (n := 35) (i := 1) (by decide +kernel) rfl rfl ?_
  refine w_iconst (n := 36) (v := 2) (x := 2) (by decide +kernel) rfl (by decide) ?_
  refine w_aload_n (n := 37) (i := 0) (by decide +kernel) rfl rfl ?_
  refine w_iload_n (n := 38) (i := 1) (by decide +kernel) rfl rfl ?_
  refine w_iconst (n := 39) (v := 2) (x := 2) (by decide +kernel) rfl (by decide) ?_
  obtain ⟨v13, M12, hLM12, hr22, h⟩ := h
  refine w_cV (n := 42) (idx := 92) (cal := 171) (na := 2) (nl := 3) (as := [.int x1, .int 2]) (rest := [.int 2, .int x1, .ref 483]) hLM11 (by decide +kernel) (by decide +kernel) (at_483) (by decide +kernel) rfl rfl rfl (Nat.le_of_ble_eq_true rfl) rfl hr22 ?_
  refine w_aload_n (n := 43) (i := 0) (by decide +kernel) rfl rfl ?_
  refine w_iload_n (n := 44) (i := 2) (by decide +kernel) rfl rfl ?_
  refine w_iconst (n := 45) (v := 2) (x := 2) (by decide +kernel) rfl (by decide) ?_
  obtain ⟨v15, M14, hLM14, hr21, h⟩ := h
  refine w_cV (n := 48) (idx := 102) (cal := 177) (na := 2) (nl := 3) (as := [.int v4, .int 2]) (rest := [.int v13, .int 2, .int x1, .ref 483]) hLM12 (by decide +kernel) (by decide +kernel) (at_483) (by decide +kernel) rfl rfl rfl (Nat.le_of_ble_eq_true rfl) rfl hr21 ?_
  refine w_iadd (n := 49) (by decide +kernel) rfl ?_
  obtain ⟨v17, M16, hLM16, hr20, h⟩ := h
  refine w_cS (n := 52) (idx := 191) (cal := 204) (na := 1) (nl := 1) (as := [.int (v13 + v15)]) (rest := [.int 2, .int x1, .ref 483]) (by decide +kernel) (by decide +kernel) rfl rfl rfl (Nat.le_of_ble_eq_true rfl) rfl hr20 ?_
  obtain ⟨M18, hLM18, hr19, h⟩ := h
  refine w_cV (n := 55) (idx := 96) (cal := 172) (na := 3) (nl := 4) (as := [.int x1, .int 2, .int v17]) (rest := []) hLM16 (by decide +kernel) (by decide +kernel) (at_483) (by decide +kernel) rfl rfl rfl (Nat.le_of_ble_eq_true rfl) rfl hr19 ?_
  subst h
  exact w_vreturn (by decide +kernel) (by decide +kernel)
theorem t_206 {X : ak_X} {M : ak_M} {r : ak_O × ak_M} (hL : ab_lay M) (x1 : Int32) (h : (∃ (v2 : Int32) (M1 : ak_M), ab_lay M1 ∧ rn X 171 [.ref 483, .int x1, .int 3] M (.inl (some (.int v2)), M1) ∧ (∃ (v4 : Int32) (M3 : ak_M), ab_lay M3 ∧ rn X 174 [.ref 483, .int 3] M1 (.inl (some (.int v4)), M3) ∧ (∃ (v6 : Int32) (M5 : ak_M), ab_lay M5 ∧ rn X 315 [.int 0, .int (v2 - v4)] M3 (.inl (some (.int v6)), M5) ∧ (∃ (M7 : ak_M), ab_lay M7 ∧ rn X 172 [.ref 483, .int x1, .int 3, .int v6] M5 (.inl (none), M7) ∧ r = (.inl none, M7)))))) : rn X 206 [.ref 483, .int x1] M r := by
  refine w_rn (nL := 2) (l1 := [some (.ref 483), some (.int x1)]) (by decide +kernel) rfl rfl ?_
  refine w_aload_n (n := 1) (i := 0) (by decide +kernel) rfl rfl ?_
  refine w_iload_n (n := 2) (i := 1) (by decide +kernel) rfl rfl ?_
  refine w_iconst (n := 3) (v := 3) (x := 3) (by decide +kernel) rfl (by decide) ?_
  refine w_iconst (n := 4) (v := 0) (x := 0) (by decide +kernel) rfl (by decide) ?_
  refine w_aload_n (n := 5) (i := 0) (by decide +kernel) rfl rfl ?_
  refine w_iload_n (n := 6) (i := 1) (by decide +kernel) rfl rfl ?_
  refine w_iconst (n := 7) (v := 3) (x := 3) (by decide +kernel) rfl (by decide) ?_
  obtain ⟨v2, M1, hLM1, hr11, h⟩ := h
  refine w_cV (n := 10) (idx := 92) (cal := 171) (na := 2) (nl := 3) (as := [.int x1, .int 3]) (rest := [.int 0, .int 3, .int x1, .ref 483]) hL (by decide +kernel) (by decide +kernel) (at_483) (by decide +kernel) rfl rfl rfl (Nat.le_of_ble_eq_true rfl) rfl hr11 ?_
  refine w_aload_n (n := 11) (i := 0) (by decide +kernel) rfl rfl ?_
  refine w_iconst (n := 12) (v := 3) (x := 3) (by decide +kernel) rfl (by decide) ?_
  obtain ⟨v4, M3, hLM3, hr10, h⟩ := h
  refine w_cV (n := 15) (idx := 173) (cal := 174) (na := 1) (nl := 2) (as := [.int 3]) (rest := [.int v2, .int 0, .int 3, .int x1, .ref 483]) hLM1 (by decide +kernel) (by decide +kernel) (at_483) (by decide +kernel) rfl rfl rfl (Nat.le_of_ble_eq_true rfl) rfl hr10 ?_
  refine w_isub (n := 16) (by decide +kernel) rfl ?_
  obtain ⟨v6, M5, hLM5, hr9, h⟩ := h
  refine w_cS (n := 19) (idx := 111) (cal := 315) (na := 2) (nl := 2) (as := [.int 0, .int (v2 - v4)]) (rest := [.int 3, .int x1, .ref 483]) (by decide +kernel) (by decide +kernel) rfl rfl rfl (Nat.le_of_ble_eq_true rfl) rfl hr9 ?_
  obtain ⟨M7, hLM7, hr8, h⟩ := h
  refine w_cV (n := 22) (idx := 96) (cal := 172) (na := 3) (nl := 4) (as := [.int x1, .int 3, .int v6]) (rest := []) hLM5 (by decide +kernel) (by decide +kernel) (at_483) (by decide +kernel) rfl rfl rfl (Nat.le_of_ble_eq_true rfl) rfl hr8 ?_
  subst h
  exact w_vreturn (by decide +kernel) (by decide +kernel)
