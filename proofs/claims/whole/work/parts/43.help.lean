/-! the walk of the law helpers, laid by wip/whole/walk.py -/
theorem t_324 {X : ak_X} {M : ak_M} {r : ak_O × ak_M} (hL : ab_lay M) (x1 : Int32) (x2 : Int32) (h : (((∃ (v2 : Int32) (M1 : ak_M), ab_lay M1 ∧ rn X 95 [.ref 0, .int x1, .int x2] M (.inl (some (.int v2)), M1) ∧ r = (.inl (some (.int 0)), ak_sL M1 497 0 (v2.toInt64)))) ∨ (∃ (M4 : ak_M), ab_lay M4 ∧ rn X 95 [.ref 0, .int x1, .int x2] M (.inr 0, M4) ∧ r = (.inl (some (.int 1)), ak_use M4 1 0)) ∨ (∃ (M6 : ak_M), ab_lay M6 ∧ rn X 95 [.ref 0, .int x1, .int x2] M (.inr 1, M6) ∧ r = (.inl (some (.int 2)), ak_use M6 1 0)))) : rn X 324 [.ref 0, .int x1, .int x2, .ref 497] M r := by
  refine w_rn (nL := 5) (l1 := [some (.ref 0), some (.int x1), some (.int x2), some (.ref 497), none]) (by decide +kernel) rfl rfl ?_
  refine w_aload_n (n := 1) (i := 3) (by decide +kernel) rfl rfl ?_
  refine w_iconst (n := 2) (v := 0) (x := 0) (by decide +kernel) rfl (by decide) ?_
  refine w_aload_n (n := 3) (i := 0) (by decide +kernel) rfl rfl ?_
  refine w_iload_n (n := 4) (i := 1) (by decide +kernel) rfl rfl ?_
  refine w_iload_n (n := 5) (i := 2) (by decide +kernel) rfl rfl ?_
  rcases h with h | h | h
  · obtain ⟨v2, M1, hLM1, hr3, h⟩ := h
    refine w_cV (n := 8) (idx := 7) (cal := 95) (na := 2) (nl := 3) (as := [.int x1, .int x2]) (rest := [.int 0, .ref 497]) hL (by decide +kernel) (by decide +kernel) (at_0) (by decide +kernel) rfl rfl rfl (Nat.le_of_ble_eq_true rfl) rfl hr3 ?_
    refine w_i2l (n := 9) (by decide +kernel) rfl ?_
    refine w_last (n := 10) (i := 0) hLM1 (by decide +kernel) (at_497) (an_497) ⟨by decide, by decide⟩ rfl ?_
    refine w_goto (n := 21) (off := 11) (by decide +kernel) (by decide) ?_
    refine w_iconst (n := 22) (v := 0) (x := 0) (by decide +kernel) rfl (by decide) ?_
    subst h
    exact w_ireturn (by decide +kernel) (w_okI (by decide +kernel))
  · obtain ⟨M4, hLM4, hr5, h⟩ := h
    refine w_hV (E := 0) (t := 13) (idx := 7) (cal := 95) (na := 2) (nl := 3) (as := [.int x1, .int x2]) (rest := [.int 0, .ref 497]) hL (by decide +kernel) (by decide +kernel) (at_0) (by decide +kernel) rfl rfl rfl (Nat.le_of_ble_eq_true rfl) (by decide +kernel) (by decide +kernel) (by decide +kernel) hr5 ?_
    refine w_astore (n := 15) (i := 4) (l1' := [some (.ref 0), some (.int x1), some (.int x2), some (.ref 497), some (.ref (3000000 + ak_C M4))]) (l2' := []) (by decide +kernel) rfl (Nat.le_of_ble_eq_true rfl) rfl rfl ?_
    refine w_iconst (n := 16) (v := 1) (x := 1) (by decide +kernel) rfl (by decide) ?_
    subst h
    exact w_ireturn (by decide +kernel) (w_okI (by decide +kernel))
  · obtain ⟨M6, hLM6, hr7, h⟩ := h
    refine w_hV (E := 1) (t := 17) (idx := 7) (cal := 95) (na := 2) (nl := 3) (as := [.int x1, .int x2]) (rest := [.int 0, .ref 497]) hL (by decide +kernel) (by decide +kernel) (at_0) (by decide +kernel) rfl rfl rfl (Nat.le_of_ble_eq_true rfl) (by decide +kernel) (by decide +kernel) (by decide +kernel) hr7 ?_
    refine w_astore (n := 19) (i := 4) (l1' := [some (.ref 0), some (.int x1), some (.int x2), some (.ref 497), some (.ref (3000000 + ak_C M6))]) (l2' := []) (by decide +kernel) rfl (Nat.le_of_ble_eq_true rfl) rfl rfl ?_
    refine w_iconst (n := 20) (v := 2) (x := 2) (by decide +kernel) rfl (by decide) ?_
    subst h
    exact w_ireturn (by decide +kernel) (w_okI (by decide +kernel))
theorem t_325 {X : ak_X} {M : ak_M} {r : ak_O × ak_M} (hL : ab_lay M) (x1 : Int32) (x2 : Int32) (h : (((∃ (v2 : Int32) (M1 : ak_M), ab_lay M1 ∧ rn X 96 [.ref 0, .int x1, .int x2] M (.inl (some (.int v2)), M1) ∧ r = (.inl (some (.int 0)), ak_sL M1 497 0 (v2.toInt64)))) ∨ (∃ (M4 : ak_M), ab_lay M4 ∧ rn X 96 [.ref 0, .int x1, .int x2] M (.inr 0, M4) ∧ r = (.inl (some (.int 1)), ak_use M4 1 0)) ∨ (∃ (M6 : ak_M), ab_lay M6 ∧ rn X 96 [.ref 0, .int x1, .int x2] M (.inr 1, M6) ∧ r = (.inl (some (.int 2)), ak_use M6 1 0)))) : rn X 325 [.ref 0, .int x1, .int x2, .ref 497] M r := by
  refine w_rn (nL := 5) (l1 := [some (.ref 0), some (.int x1), some (.int x2), some (.ref 497), none]) (by decide +kernel) rfl rfl ?_
  refine w_aload_n (n := 1) (i := 3) (by decide +kernel) rfl rfl ?_
  refine w_iconst (n := 2) (v := 0) (x := 0) (by decide +kernel) rfl (by decide) ?_
  refine w_aload_n (n := 3) (i := 0) (by decide +kernel) rfl rfl ?_
  refine w_iload_n (n := 4) (i := 1) (by decide +kernel) rfl rfl ?_
  refine w_iload_n (n := 5) (i := 2) (by decide +kernel) rfl rfl ?_
  rcases h with h | h | h
  · obtain ⟨v2, M1, hLM1, hr3, h⟩ := h
    refine w_cV (n := 8) (idx := 17) (cal := 96) (na := 2) (nl := 3) (as := [.int x1, .int x2]) (rest := [.int 0, .ref 497]) hL (by decide +kernel) (by decide +kernel) (at_0) (by decide +kernel) rfl rfl rfl (Nat.le_of_ble_eq_true rfl) rfl hr3 ?_
    refine w_i2l (n := 9) (by decide +kernel) rfl ?_
    refine w_last (n := 10) (i := 0) hLM1 (by decide +kernel) (at_497) (an_497) ⟨by decide, by decide⟩ rfl ?_
    refine w_goto (n := 21) (off := 11) (by decide +kernel) (by decide) ?_
    refine w_iconst (n := 22) (v := 0) (x := 0) (by decide +kernel) rfl (by decide) ?_
    subst h
    exact w_ireturn (by decide +kernel) (w_okI (by decide +kernel))
  · obtain ⟨M4, hLM4, hr5, h⟩ := h
    refine w_hV (E := 0) (t := 13) (idx := 17) (cal := 96) (na := 2) (nl := 3) (as := [.int x1, .int x2]) (rest := [.int 0, .ref 497]) hL (by decide +kernel) (by decide +kernel) (at_0) (by decide +kernel) rfl rfl rfl (Nat.le_of_ble_eq_true rfl) (by decide +kernel) (by decide +kernel) (by decide +kernel) hr5 ?_
    refine w_astore (n := 15) (i := 4) (l1' := [some (.ref 0), some (.int x1), some (.int x2), some (.ref 497), some (.ref (3000000 + ak_C M4))]) (l2' := []) (by decide +kernel) rfl (Nat.le_of_ble_eq_true rfl) rfl rfl ?_
    refine w_iconst (n := 16) (v := 1) (x := 1) (by decide +kernel) rfl (by decide) ?_
    subst h
    exact w_ireturn (by decide +kernel) (w_okI (by decide +kernel))
  · obtain ⟨M6, hLM6, hr7, h⟩ := h
    refine w_hV (E := 1) (t := 17) (idx := 17) (cal := 96) (na := 2) (nl := 3) (as := [.int x1, .int x2]) (rest := [.int 0, .ref 497]) hL (by decide +kernel) (by decide +kernel) (at_0) (by decide +kernel) rfl rfl rfl (Nat.le_of_ble_eq_true rfl) (by decide +kernel) (by decide +kernel) (by decide +kernel) hr7 ?_
    refine w_astore (n := 19) (i := 4) (l1' := [some (.ref 0), some (.int x1), some (.int x2), some (.ref 497), some (.ref (3000000 + ak_C M6))]) (l2' := []) (by decide +kernel) rfl (Nat.le_of_ble_eq_true rfl) rfl rfl ?_
    refine w_iconst (n := 20) (v := 2) (x := 2) (by decide +kernel) rfl (by decide) ?_
    subst h
    exact w_ireturn (by decide +kernel) (w_okI (by decide +kernel))
theorem t_326 {X : ak_X} {M : ak_M} {r : ak_O × ak_M} (hL : ab_lay M) (x1 : Int32) (h : (((∃ (v2 : Int32) (M1 : ak_M), ab_lay M1 ∧ rn X 97 [.ref 0, .int x1] M (.inl (some (.int v2)), M1) ∧ r = (.inl (some (.int 0)), ak_sL M1 497 0 (v2.toInt64)))) ∨ (∃ (M4 : ak_M), ab_lay M4 ∧ rn X 97 [.ref 0, .int x1] M (.inr 1, M4) ∧ r = (.inl (some (.int 1)), ak_use M4 1 0)))) : rn X 326 [.ref 0, .int x1, .ref 497] M r := by
  refine w_rn (nL := 4) (l1 := [some (.ref 0), some (.int x1), some (.ref 497), none]) (by decide +kernel) rfl rfl ?_
  refine w_aload_n (n := 1) (i := 2) (by decide +kernel) rfl rfl ?_
  refine w_iconst (n := 2) (v := 0) (x := 0) (by decide +kernel) rfl (by decide) ?_
  refine w_aload_n (n := 3) (i := 0) (by decide +kernel) rfl rfl ?_
  refine w_iload_n (n := 4) (i := 1) (by decide +kernel) rfl rfl ?_
  rcases h with h | h
  · obtain ⟨v2, M1, hLM1, hr3, h⟩ := h
    refine w_cV (n := 7) (idx := 20) (cal := 97) (na := 1) (nl := 2) (as := [.int x1]) (rest := [.int 0, .ref 497]) hL (by decide +kernel) (by decide +kernel) (at_0) (by decide +kernel) rfl rfl rfl (Nat.le_of_ble_eq_true rfl) rfl hr3 ?_
    refine w_i2l (n := 8) (by decide +kernel) rfl ?_
    refine w_last (n := 9) (i := 0) hLM1 (by decide +kernel) (at_497) (an_497) ⟨by decide, by decide⟩ rfl ?_
    refine w_goto (n := 15) (off := 6) (by decide +kernel) (by decide) ?_
    refine w_iconst (n := 16) (v := 0) (x := 0) (by decide +kernel) rfl (by decide) ?_
    subst h
    exact w_ireturn (by decide +kernel) (w_okI (by decide +kernel))
  · obtain ⟨M4, hLM4, hr5, h⟩ := h
    refine w_hV (E := 1) (t := 12) (idx := 20) (cal := 97) (na := 1) (nl := 2) (as := [.int x1]) (rest := [.int 0, .ref 497]) hL (by decide +kernel) (by decide +kernel) (at_0) (by decide +kernel) rfl rfl rfl (Nat.le_of_ble_eq_true rfl) (by decide +kernel) (by decide +kernel) (by decide +kernel) hr5 ?_
    refine w_astore_n (n := 13) (i := 3) (l1' := [some (.ref 0), some (.int x1), some (.ref 497), some (.ref (3000000 + ak_C M4))]) (l2' := []) (by decide +kernel) rfl (Nat.le_of_ble_eq_true rfl) rfl rfl ?_
    refine w_iconst (n := 14) (v := 1) (x := 1) (by decide +kernel) rfl (by decide) ?_
    subst h
    exact w_ireturn (by decide +kernel) (w_okI (by decide +kernel))
theorem t_327 {X : ak_X} {M : ak_M} {r : ak_O × ak_M} (hL : ab_lay M) (x1 : Int32) (h : (((∃ (v2 : Int32) (M1 : ak_M), ab_lay M1 ∧ rn X 98 [.ref 0, .int x1] M (.inl (some (.int v2)), M1) ∧ r = (.inl (some (.int 0)), ak_sL M1 497 0 (v2.toInt64)))) ∨ (∃ (M4 : ak_M), ab_lay M4 ∧ rn X 98 [.ref 0, .int x1] M (.inr 0, M4) ∧ r = (.inl (some (.int 1)), ak_use M4 1 0)))) : rn X 327 [.ref 0, .int x1, .ref 497] M r := by
  refine w_rn (nL := 4) (l1 := [some (.ref 0), some (.int x1), some (.ref 497), none]) (by decide +kernel) rfl rfl ?_
  refine w_aload_n (n := 1) (i := 2) (by decide +kernel) rfl rfl ?_
  refine w_iconst (n := 2) (v := 0) (x := 0) (by decide +kernel) rfl (by decide) ?_
  refine w_aload_n (n := 3) (i := 0) (by decide +kernel) rfl rfl ?_
  refine w_iload_n (n := 4) (i := 1) (by decide +kernel) rfl rfl ?_
  rcases h with h | h
  · obtain ⟨v2, M1, hLM1, hr3, h⟩ := h
    refine w_cV (n := 7) (idx := 24) (cal := 98) (na := 1) (nl := 2) (as := [.int x1]) (rest := [.int 0, .ref 497]) hL (by decide +kernel) (by decide +kernel) (at_0) (by decide +kernel) rfl rfl rfl (Nat.le_of_ble_eq_true rfl) rfl hr3 ?_
    refine w_i2l (n := 8) (by decide +kernel) rfl ?_
    refine w_last (n := 9) (i := 0) hLM1 (by decide +kernel) (at_497) (an_497) ⟨by decide, by decide⟩ rfl ?_
    refine w_goto (n := 15) (off := 6) (by decide +kernel) (by decide) ?_
    refine w_iconst (n := 16) (v := 0) (x := 0) (by decide +kernel) rfl (by decide) ?_
    subst h
    exact w_ireturn (by decide +kernel) (w_okI (by decide +kernel))
  · obtain ⟨M4, hLM4, hr5, h⟩ := h
    refine w_hV (E := 0) (t := 12) (idx := 24) (cal := 98) (na := 1) (nl := 2) (as := [.int x1]) (rest := [.int 0, .ref 497]) hL (by decide +kernel) (by decide +kernel) (at_0) (by decide +kernel) rfl rfl rfl (Nat.le_of_ble_eq_true rfl) (by decide +kernel) (by decide +kernel) (by decide +kernel) hr5 ?_
    refine w_astore_n (n := 13) (i := 3) (l1' := [some (.ref 0), some (.int x1), some (.ref 497), some (.ref (3000000 + ak_C M4))]) (l2' := []) (by decide +kernel) rfl (Nat.le_of_ble_eq_true rfl) rfl rfl ?_
    refine w_iconst (n := 14) (v := 1) (x := 1) (by decide +kernel) rfl (by decide) ?_
    subst h
    exact w_ireturn (by decide +kernel) (w_okI (by decide +kernel))
theorem t_328 {X : ak_X} {M : ak_M} {r : ak_O × ak_M} (hL : ab_lay M) (x1 : Int32) (h : (((∃ (v2 : Int32) (M1 : ak_M), ab_lay M1 ∧ rn X 99 [.ref 0, .int x1] M (.inl (some (.int v2)), M1) ∧ r = (.inl (some (.int 0)), ak_sL M1 497 0 (v2.toInt64)))) ∨ (∃ (M4 : ak_M), ab_lay M4 ∧ rn X 99 [.ref 0, .int x1] M (.inr 0, M4) ∧ r = (.inl (some (.int 1)), ak_use M4 1 0)) ∨ (∃ (M6 : ak_M), ab_lay M6 ∧ rn X 99 [.ref 0, .int x1] M (.inr 2, M6) ∧ r = (.inl (some (.int 2)), ak_use M6 1 0)))) : rn X 328 [.ref 0, .int x1, .ref 497] M r := by
  refine w_rn (nL := 4) (l1 := [some (.ref 0), some (.int x1), some (.ref 497), none]) (by decide +kernel) rfl rfl ?_
  refine w_aload_n (n := 1) (i := 2) (by decide +kernel) rfl rfl ?_
  refine w_iconst (n := 2) (v := 0) (x := 0) (by decide +kernel) rfl (by decide) ?_
  refine w_aload_n (n := 3) (i := 0) (by decide +kernel) rfl rfl ?_
  refine w_iload_n (n := 4) (i := 1) (by decide +kernel) rfl rfl ?_
  rcases h with h | h | h
  · obtain ⟨v2, M1, hLM1, hr3, h⟩ := h
    refine w_cV (n := 7) (idx := 27) (cal := 99) (na := 1) (nl := 2) (as := [.int x1]) (rest := [.int 0, .ref 497]) hL (by decide +kernel) (by decide +kernel) (at_0) (by decide +kernel) rfl rfl rfl (Nat.le_of_ble_eq_true rfl) rfl hr3 ?_
    refine w_i2l (n := 8) (by decide +kernel) rfl ?_
    refine w_last (n := 9) (i := 0) hLM1 (by decide +kernel) (at_497) (an_497) ⟨by decide, by decide⟩ rfl ?_
    refine w_goto (n := 18) (off := 9) (by decide +kernel) (by decide) ?_
    refine w_iconst (n := 19) (v := 0) (x := 0) (by decide +kernel) rfl (by decide) ?_
    subst h
    exact w_ireturn (by decide +kernel) (w_okI (by decide +kernel))
  · obtain ⟨M4, hLM4, hr5, h⟩ := h
    refine w_hV (E := 0) (t := 12) (idx := 27) (cal := 99) (na := 1) (nl := 2) (as := [.int x1]) (rest := [.int 0, .ref 497]) hL (by decide +kernel) (by decide +kernel) (at_0) (by decide +kernel) rfl rfl rfl (Nat.le_of_ble_eq_true rfl) (by decide +kernel) (by decide +kernel) (by decide +kernel) hr5 ?_
    refine w_astore_n (n := 13) (i := 3) (l1' := [some (.ref 0), some (.int x1), some (.ref 497), some (.ref (3000000 + ak_C M4))]) (l2' := []) (by decide +kernel) rfl (Nat.le_of_ble_eq_true rfl) rfl rfl ?_
    refine w_iconst (n := 14) (v := 1) (x := 1) (by decide +kernel) rfl (by decide) ?_
    subst h
    exact w_ireturn (by decide +kernel) (w_okI (by decide +kernel))
  · obtain ⟨M6, hLM6, hr7, h⟩ := h
    refine w_hV (E := 2) (t := 15) (idx := 27) (cal := 99) (na := 1) (nl := 2) (as := [.int x1]) (rest := [.int 0, .ref 497]) hL (by decide +kernel) (by decide +kernel) (at_0) (by decide +kernel) rfl rfl rfl (Nat.le_of_ble_eq_true rfl) (by decide +kernel) (by decide +kernel) (by decide +kernel) hr7 ?_
    refine w_astore_n (n := 16) (i := 3) (l1' := [some (.ref 0), some (.int x1), some (.ref 497), some (.ref (3000000 + ak_C M6))]) (l2' := []) (by decide +kernel) rfl (Nat.le_of_ble_eq_true rfl) rfl rfl ?_
    refine w_iconst (n := 17) (v := 2) (x := 2) (by decide +kernel) rfl (by decide) ?_
    subst h
    exact w_ireturn (by decide +kernel) (w_okI (by decide +kernel))
theorem t_329 {X : ak_X} {M : ak_M} {r : ak_O × ak_M} (hL : ab_lay M) (x1 : Int32) (x2 : Int32) (h : (((∃ (v2 : Int32) (M1 : ak_M), ab_lay M1 ∧ rn X 100 [.ref 0, .int x1, .int x2] M (.inl (some (.int v2)), M1) ∧ (if v2 = 0 then r = (.inl (some (.int 0)), ak_sL M1 497 0 0) else r = (.inl (some (.int 0)), ak_sL M1 497 0 1)))) ∨ (∃ (M5 : ak_M), ab_lay M5 ∧ rn X 100 [.ref 0, .int x1, .int x2] M (.inr 0, M5) ∧ r = (.inl (some (.int 1)), ak_use M5 1 0)))) : rn X 329 [.ref 0, .int x1, .int x2, .ref 497] M r := by
  refine w_rn (nL := 5) (l1 := [some (.ref 0), some (.int x1), some (.int x2), some (.ref 497), none]) (by decide +kernel) rfl rfl ?_
  refine w_aload_n (n := 1) (i := 3) (by decide +kernel) rfl rfl ?_
  refine w_iconst (n := 2) (v := 0) (x := 0) (by decide +kernel) rfl (by decide) ?_
  refine w_aload_n (n := 3) (i := 0) (by decide +kernel) rfl rfl ?_
  refine w_iload_n (n := 4) (i := 1) (by decide +kernel) rfl rfl ?_
  refine w_iload_n (n := 5) (i := 2) (by decide +kernel) rfl rfl ?_
  rcases h with h | h
  · obtain ⟨v2, M1, hLM1, hr4, h⟩ := h
    refine w_cV (n := 8) (idx := 32) (cal := 100) (na := 2) (nl := 3) (as := [.int x1, .int x2]) (rest := [.int 0, .ref 497]) hL (by decide +kernel) (by decide +kernel) (at_0) (by decide +kernel) rfl rfl rfl (Nat.le_of_ble_eq_true rfl) rfl hr4 ?_
    by_cases c3 : v2 = 0
    · rw [if_pos c3] at h
      refine w_if_eq_j (n := 15) (off := 7) (by decide +kernel) (by decide) c3 ?_
      refine w_lconst (n := 16) (v := 0) (x := 0) (by decide +kernel) rfl (by decide) ?_
      refine w_last (n := 17) (i := 0) hLM1 (by decide +kernel) (at_497) (an_497) ⟨by decide, by decide⟩ rfl ?_
      refine w_goto (n := 24) (off := 7) (by decide +kernel) (by decide) ?_
      refine w_iconst (n := 25) (v := 0) (x := 0) (by decide +kernel) rfl (by decide) ?_
      subst h
      exact w_ireturn (by decide +kernel) (w_okI (by decide +kernel))
    · rw [if_neg c3] at h
      refine w_if_eq_n (n := 11) (off := 7) (by decide +kernel) rfl c3 ?_
      refine w_lconst (n := 12) (v := 1) (x := 1) (by decide +kernel) rfl (by decide) ?_
      refine w_goto (n := 16) (off := 4) (by decide +kernel) (by decide) ?_
      refine w_last (n := 17) (i := 0) hLM1 (by decide +kernel) (at_497) (an_497) ⟨by decide, by decide⟩ rfl ?_
      refine w_goto (n := 24) (off := 7) (by decide +kernel) (by decide) ?_
      refine w_iconst (n := 25) (v := 0) (x := 0) (by decide +kernel) rfl (by decide) ?_
      subst h
      exact w_ireturn (by decide +kernel) (w_okI (by decide +kernel))
  · obtain ⟨M5, hLM5, hr6, h⟩ := h
    refine w_hV (E := 0) (t := 20) (idx := 32) (cal := 100) (na := 2) (nl := 3) (as := [.int x1, .int x2]) (rest := [.int 0, .ref 497]) hL (by decide +kernel) (by decide +kernel) (at_0) (by decide +kernel) rfl rfl rfl (Nat.le_of_ble_eq_true rfl) (by decide +kernel) (by decide +kernel) (by decide +kernel) hr6 ?_
    refine w_astore (n := 22) (i := 4) (l1' := [some (.ref 0), some (.int x1), some (.int x2), some (.ref 497), some (.ref (3000000 + ak_C M5))]) (l2' := []) (by decide +kernel) rfl (Nat.le_of_ble_eq_true rfl) rfl rfl ?_
    refine w_iconst (n := 23) (v := 1) (x := 1) (by decide +kernel) rfl (by decide) ?_
    subst h
    exact w_ireturn (by decide +kernel) (w_okI (by decide +kernel))
theorem t_330 {X : ak_X} {M : ak_M} {r : ak_O × ak_M} (hL : ab_lay M) (x1 : Int32) (x2 : Int32) (x3 : Int32) (h : (((∃ (v2 : Int32) (M1 : ak_M), ab_lay M1 ∧ rn X 101 [.ref 0, .int x1, .int x2, .int x3] M (.inl (some (.int v2)), M1) ∧ r = (.inl (some (.int 0)), ak_sL M1 497 0 (v2.toInt64)))) ∨ (∃ (M4 : ak_M), ab_lay M4 ∧ rn X 101 [.ref 0, .int x1, .int x2, .int x3] M (.inr 0, M4) ∧ r = (.inl (some (.int 1)), ak_use M4 1 0)) ∨ (∃ (M6 : ak_M), ab_lay M6 ∧ rn X 101 [.ref 0, .int x1, .int x2, .int x3] M (.inr 1, M6) ∧ r = (.inl (some (.int 2)), ak_use M6 1 0)))) : rn X 330 [.ref 0, .int x1, .int x2, .int x3, .ref 497] M r := by
  refine w_rn (nL := 6) (l1 := [some (.ref 0), some (.int x1), some (.int x2), some (.int x3), some (.ref 497), none]) (by decide +kernel) rfl rfl ?_
  refine w_aload (n := 2) (i := 4) (by decide +kernel) rfl rfl ?_
  refine w_iconst (n := 3) (v := 0) (x := 0) (by decide +kernel) rfl (by decide) ?_
  refine w_aload_n (n := 4) (i := 0) (by decide +kernel) rfl rfl ?_
  refine w_iload_n (n := 5) (i := 1) (by decide +kernel) rfl rfl ?_
  refine w_iload_n (n := 6) (i := 2) (by decide +kernel) rfl rfl ?_
  refine w_iload_n (n := 7) (i := 3) (by decide +kernel) rfl rfl ?_
  rcases h with h | h | h
  · obtain ⟨v2, M1, hLM1, hr3, h⟩ := h
    refine w_cV (n := 10) (idx := 36) (cal := 101) (na := 3) (nl := 4) (as := [.int x1, .int x2, .int x3]) (rest := [.int 0, .ref 497]) hL (by decide +kernel) (by decide +kernel) (at_0) (by decide +kernel) rfl rfl rfl (Nat.le_of_ble_eq_true rfl) rfl hr3 ?_
    refine w_i2l (n := 11) (by decide +kernel) rfl ?_
    refine w_last (n := 12) (i := 0) hLM1 (by decide +kernel) (at_497) (an_497) ⟨by decide, by decide⟩ rfl ?_
    refine w_goto (n := 23) (off := 11) (by decide +kernel) (by decide) ?_
    refine w_iconst (n := 24) (v := 0) (x := 0) (by decide +kernel) rfl (by decide) ?_
    subst h
    exact w_ireturn (by decide +kernel) (w_okI (by decide +kernel))
  · obtain ⟨M4, hLM4, hr5, h⟩ := h
    refine w_hV (E := 0) (t := 15) (idx := 36) (cal := 101) (na := 3) (nl := 4) (as := [.int x1, .int x2, .int x3]) (rest := [.int 0, .ref 497]) hL (by decide +kernel) (by decide +kernel) (at_0) (by decide +kernel) rfl rfl rfl (Nat.le_of_ble_eq_true rfl) (by decide +kernel) (by decide +kernel) (by decide +kernel) hr5 ?_
    refine w_astore (n := 17) (i := 5) (l1' := [some (.ref 0), some (.int x1), some (.int x2), some (.int x3), some (.ref 497), some (.ref (3000000 + ak_C M4))]) (l2' := []) (by decide +kernel) rfl (Nat.le_of_ble_eq_true rfl) rfl rfl ?_
    refine w_iconst (n := 18) (v := 1) (x := 1) (by decide +kernel) rfl (by decide) ?_
    subst h
    exact w_ireturn (by decide +kernel) (w_okI (by decide +kernel))
  · obtain ⟨M6, hLM6, hr7, h⟩ := h
    refine w_hV (E := 1) (t := 19) (idx := 36) (cal := 101) (na := 3) (nl := 4) (as := [.int x1, .int x2, .int x3]) (rest := [.int 0, .ref 497]) hL (by decide +kernel) (by decide +kernel) (at_0) (by decide +kernel) rfl rfl rfl (Nat.le_of_ble_eq_true rfl) (by decide +kernel) (by decide +kernel) (by decide +kernel) hr7 ?_
    refine w_astore (n := 21) (i := 5) (l1' := [some (.ref 0), some (.int x1), some (.int x2), some (.int x3), some (.ref 497), some (.ref (3000000 + ak_C M6))]) (l2' := []) (by decide +kernel) rfl (Nat.le_of_ble_eq_true rfl) rfl rfl ?_
    refine w_iconst (n := 22) (v := 2) (x := 2) (by decide +kernel) rfl (by decide) ?_
    subst h
    exact w_ireturn (by decide +kernel) (w_okI (by decide +kernel))
theorem t_331 {X : ak_X} {M : ak_M} {r : ak_O × ak_M} (hL : ab_lay M) (x1 : Int32) (h : (((∃ (v2 : Int32) (M1 : ak_M), ab_lay M1 ∧ rn X 102 [.ref 0, .int x1] M (.inl (some (.int v2)), M1) ∧ r = (.inl (some (.int 0)), ak_sL M1 497 0 (v2.toInt64)))) ∨ (∃ (M4 : ak_M), ab_lay M4 ∧ rn X 102 [.ref 0, .int x1] M (.inr 0, M4) ∧ r = (.inl (some (.int 1)), ak_use M4 1 0)))) : rn X 331 [.ref 0, .int x1, .ref 497] M r := by
  refine w_rn (nL := 4) (l1 := [some (.ref 0), some (.int x1), some (.ref 497), none]) (by decide +kernel) rfl rfl ?_
  refine w_aload_n (n := 1) (i := 2) (by decide +kernel) rfl rfl ?_
  refine w_iconst (n := 2) (v := 0) (x := 0) (by decide +kernel) rfl (by decide) ?_
  refine w_aload_n (n := 3) (i := 0) (by decide +kernel) rfl rfl ?_
  refine w_iload_n (n := 4) (i := 1) (by decide +kernel) rfl rfl ?_
  rcases h with h | h
  · obtain ⟨v2, M1, hLM1, hr3, h⟩ := h
    refine w_cV (n := 7) (idx := 40) (cal := 102) (na := 1) (nl := 2) (as := [.int x1]) (rest := [.int 0, .ref 497]) hL (by decide +kernel) (by decide +kernel) (at_0) (by decide +kernel) rfl rfl rfl (Nat.le_of_ble_eq_true rfl) rfl hr3 ?_
    refine w_i2l (n := 8) (by decide +kernel) rfl ?_
    refine w_last (n := 9) (i := 0) hLM1 (by decide +kernel) (at_497) (an_497) ⟨by decide, by decide⟩ rfl ?_
    refine w_goto (n := 15) (off := 6) (by decide +kernel) (by decide) ?_
    refine w_iconst (n := 16) (v := 0) (x := 0) (by decide +kernel) rfl (by decide) ?_
    subst h
    exact w_ireturn (by decide +kernel) (w_okI (by decide +kernel))
  · obtain ⟨M4, hLM4, hr5, h⟩ := h
    refine w_hV (E := 0) (t := 12) (idx := 40) (cal := 102) (na := 1) (nl := 2) (as := [.int x1]) (rest := [.int 0, .ref 497]) hL (by decide +kernel) (by decide +kernel) (at_0) (by decide +kernel) rfl rfl rfl (Nat.le_of_ble_eq_true rfl) (by decide +kernel) (by decide +kernel) (by decide +kernel) hr5 ?_
    refine w_astore_n (n := 13) (i := 3) (l1' := [some (.ref 0), some (.int x1), some (.ref 497), some (.ref (3000000 + ak_C M4))]) (l2' := []) (by decide +kernel) rfl (Nat.le_of_ble_eq_true rfl) rfl rfl ?_
    refine w_iconst (n := 14) (v := 1) (x := 1) (by decide +kernel) rfl (by decide) ?_
    subst h
    exact w_ireturn (by decide +kernel) (w_okI (by decide +kernel))
theorem t_332 {X : ak_X} {M : ak_M} {r : ak_O × ak_M} (hL : ab_lay M) (x1 : Int32) (h : (((∃ (v2 : Int32) (M1 : ak_M), ab_lay M1 ∧ rn X 103 [.ref 0, .int x1] M (.inl (some (.int v2)), M1) ∧ r = (.inl (some (.int 0)), ak_sL M1 497 0 (v2.toInt64)))) ∨ (∃ (M4 : ak_M), ab_lay M4 ∧ rn X 103 [.ref 0, .int x1] M (.inr 0, M4) ∧ r = (.inl (some (.int 1)), ak_use M4 1 0)))) : rn X 332 [.ref 0, .int x1, .ref 497] M r := by
  refine w_rn (nL := 4) (l1 := [some (.ref 0), some (.int x1), some (.ref 497), none]) (by decide +kernel) rfl rfl ?_
  refine w_aload_n (n := 1) (i := 2) (by decide +kernel) rfl rfl ?_
  refine w_iconst (n := 2) (v := 0) (x := 0) (by decide +kernel) rfl (by decide) ?_
  refine w_aload_n (n := 3) (i := 0) (by decide +kernel) rfl rfl ?_
  refine w_iload_n (n := 4) (i := 1) (by decide +kernel) rfl rfl ?_
  rcases h with h | h
  · obtain ⟨v2, M1, hLM1, hr3, h⟩ := h
    refine w_cV (n := 7) (idx := 43) (cal := 103) (na := 1) (nl := 2) (as := [.int x1]) (rest := [.int 0, .ref 497]) hL (by decide +kernel) (by decide +kernel) (at_0) (by decide +kernel) rfl rfl rfl (Nat.le_of_ble_eq_true rfl) rfl hr3 ?_
    refine w_i2l (n := 8) (by decide +kernel) rfl ?_
    refine w_last (n := 9) (i := 0) hLM1 (by decide +kernel) (at_497) (an_497) ⟨by decide, by decide⟩ rfl ?_
    refine w_goto (n := 15) (off := 6) (by decide +kernel) (by decide) ?_
    refine w_iconst (n := 16) (v := 0) (x := 0) (by decide +kernel) rfl (by decide) ?_
    subst h
    exact w_ireturn (by decide +kernel) (w_okI (by decide +kernel))
  · obtain ⟨M4, hLM4, hr5, h⟩ := h
    refine w_hV (E := 0) (t := 12) (idx := 43) (cal := 103) (na := 1) (nl := 2) (as := [.int x1]) (rest := [.int 0, .ref 497]) hL (by decide +kernel) (by decide +kernel) (at_0) (by decide +kernel) rfl rfl rfl (Nat.le_of_ble_eq_true rfl) (by decide +kernel) (by decide +kernel) (by decide +kernel) hr5 ?_
    refine w_astore_n (n := 13) (i := 3) (l1' := [some (.ref 0), some (.int x1), some (.ref 497), some (.ref (3000000 + ak_C M4))]) (l2' := []) (by decide +kernel) rfl (Nat.le_of_ble_eq_true rfl) rfl rfl ?_
    refine w_iconst (n := 14) (v := 1) (x := 1) (by decide +kernel) rfl (by decide) ?_
    subst h
    exact w_ireturn (by decide +kernel) (w_okI (by decide +kernel))
theorem t_333 {X : ak_X} {M : ak_M} {r : ak_O × ak_M} (hL : ab_lay M) (x1 : Int32) (x2 : Int32) (h : (((∃ (v2 : Int32) (M1 : ak_M), ab_lay M1 ∧ rn X 104 [.ref 0, .int x1, .int x2] M (.inl (some (.int v2)), M1) ∧ r = (.inl (some (.int 0)), ak_sL M1 497 0 (v2.toInt64)))) ∨ (∃ (M4 : ak_M), ab_lay M4 ∧ rn X 104 [.ref 0, .int x1, .int x2] M (.inr 0, M4) ∧ r = (.inl (some (.int 1)), ak_use M4 1 0)) ∨ (∃ (M6 : ak_M), ab_lay M6 ∧ rn X 104 [.ref 0, .int x1, .int x2] M (.inr 1, M6) ∧ r = (.inl (some (.int 2)), ak_use M6 1 0)))) : rn X 333 [.ref 0, .int x1, .int x2, .ref 497] M r := by
  refine w_rn (nL := 5) (l1 := [some (.ref 0), some (.int x1), some (.int x2), some (.ref 497), none]) (by decide +kernel) rfl rfl ?_
  refine w_aload_n (n := 1) (i := 3) (by decide +kernel) rfl rfl ?_
  refine w_iconst (n := 2) (v := 0) (x := 0) (by decide +kernel) rfl (by decide) ?_
  refine w_aload_n (n := 3) (i := 0) (by decide +kernel) rfl rfl ?_
  refine w_iload_n (n := 4) (i := 1) (by decide +kernel) rfl rfl ?_
  refine w_iload_n (n := 5) (i := 2) (by decide +kernel) rfl rfl ?_
  rcases h with h | h | h
  · obtain ⟨v2, M1, hLM1, hr3, h⟩ := h
    refine w_cV (n := 8) (idx := 46) (cal := 104) (na := 2) (nl := 3) (as := [.int x1, .int x2]) (rest := [.int 0, .ref 497]) hL (by decide +kernel) (by decide +kernel) (at_0) (by decide +kernel) rfl rfl rfl (Nat.le_of_ble_eq_true rfl) rfl hr3 ?_
    refine w_i2l (n := 9) (by decide +kernel) rfl ?_
    refine w_last (n := 10) (i := 0) hLM1 (by decide +kernel) (at_497) (an_497) ⟨by decide, by decide⟩ rfl ?_
    refine w_goto (n := 21) (off := 11) (by decide +kernel) (by decide) ?_
    refine w_iconst (n := 22) (v := 0) (x := 0) (by decide +kernel) rfl (by decide) ?_
    subst h
    exact w_ireturn (by decide +kernel) (w_okI (by decide +kernel))
  · obtain ⟨M4, hLM4, hr5, h⟩ := h
    refine w_hV (E := 0) (t := 13) (idx := 46) (cal := 104) (na := 2) (nl := 3) (as := [.int x1, .int x2]) (rest := [.int 0, .ref 497]) hL (by decide +kernel) (by decide +kernel) (at_0) (by decide +kernel) rfl rfl rfl (Nat.le_of_ble_eq_true rfl) (by decide +kernel) (by decide +kernel) (by decide +kernel) hr5 ?_
    refine w_astore (n := 15) (i := 4) (l1' := [some (.ref 0), some (.int x1), some (.int x2), some (.ref 497), some (.ref (3000000 + ak_C M4))]) (l2' := []) (by decide +kernel) rfl (Nat.le_of_ble_eq_true rfl) rfl rfl ?_
    refine w_iconst (n := 16) (v := 1) (x := 1) (by decide +kernel) rfl (by decide) ?_
    subst h
    exact w_ireturn (by decide +kernel) (w_okI (by decide +kernel))
  · obtain ⟨M6, hLM6, hr7, h⟩ := h
    refine w_hV (E := 1) (t := 17) (idx := 46) (cal := 104) (na := 2) (nl := 3) (as := [.int x1, .int x2]) (rest := [.int 0, .ref 497]) hL (by decide +kernel) (by decide +kernel) (at_0) (by decide +kernel) rfl rfl rfl (Nat.le_of_ble_eq_true rfl) (by decide +kernel) (by decide +kernel) (by decide +kernel) hr7 ?_
    refine w_astore (n := 19) (i := 4) (l1' := [some (.ref 0), some (.int x1), some (.int x2), some (.ref 497), some (.ref (3000000 + ak_C M6))]) (l2' := []) (by decide +kernel) rfl (Nat.le_of_ble_eq_true rfl) rfl rfl ?_
    refine w_iconst (n := 20) (v := 2) (x := 2) (by decide +kernel) rfl (by decide) ?_
    subst h
    exact w_ireturn (by decide +kernel) (w_okI (by decide +kernel))
theorem t_334 {X : ak_X} {M : ak_M} {r : ak_O × ak_M} (hL : ab_lay M) (x1 : Int32) (x2 : Int32) (x3 : Int32) (h : (((∃ (v2 : Int32) (M1 : ak_M), ab_lay M1 ∧ rn X 108 [.ref 0, .int x1, .int x2, .int x3] M (.inl (some (.int v2)), M1) ∧ r = (.inl (some (.int 0)), ak_sL M1 497 0 (v2.toInt64)))) ∨ (∃ (M4 : ak_M), ab_lay M4 ∧ rn X 108 [.ref 0, .int x1, .int x2, .int x3] M (.inr 1, M4) ∧ r = (.inl (some (.int 1)), ak_use M4 1 0)))) : rn X 334 [.ref 0, .int x1, .int x2, .int x3, .ref 497] M r := by
  refine w_rn (nL := 6) (l1 := [some (.ref 0), some (.int x1), some (.int x2), some (.int x3), some (.ref 497), none]) (by decide +kernel) rfl rfl ?_
  refine w_aload (n := 2) (i := 4) (by decide +kernel) rfl rfl ?_
  refine w_iconst (n := 3) (v := 0) (x := 0) (by decide +kernel) rfl (by decide) ?_
  refine w_aload_n (n := 4) (i := 0) (by decide +kernel) rfl rfl ?_
  refine w_iload_n (n := 5) (i := 1) (by decide +kernel) rfl rfl ?_
  refine w_iload_n (n := 6) (i := 2) (by decide +kernel) rfl rfl ?_
  refine w_iload_n (n := 7) (i := 3) (by decide +kernel) rfl rfl ?_
  rcases h with h | h
  · obtain ⟨v2, M1, hLM1, hr3, h⟩ := h
    refine w_cV (n := 10) (idx := 49) (cal := 108) (na := 3) (nl := 4) (as := [.int x1, .int x2, .int x3]) (rest := [.int 0, .ref 497]) hL (by decide +kernel) (by decide +kernel) (at_0) (by decide +kernel) rfl rfl rfl (Nat.le_of_ble_eq_true rfl) rfl hr3 ?_
    refine w_i2l (n := 11) (by decide +kernel) rfl ?_
    refine w_last (n := 12) (i := 0) hLM1 (by decide +kernel) (at_497) (an_497) ⟨by decide, by decide⟩ rfl ?_
    refine w_goto (n := 19) (off := 7) (by decide +kernel) (by decide) ?_
    refine w_iconst (n := 20) (v := 0) (x := 0) (by decide +kernel) rfl (by decide) ?_
    subst h
    exact w_ireturn (by decide +kernel) (w_okI (by decide +kernel))
  · obtain ⟨M4, hLM4, hr5, h⟩ := h
    refine w_hV (E := 1) (t := 15) (idx := 49) (cal := 108) (na := 3) (nl := 4) (as := [.int x1, .int x2, .int x3]) (rest := [.int 0, .ref 497]) hL (by decide +kernel) (by decide +kernel) (at_0) (by decide +kernel) rfl rfl rfl (Nat.le_of_ble_eq_true rfl) (by decide +kernel) (by decide +kernel) (by decide +kernel) hr5 ?_
    refine w_astore (n := 17) (i := 5) (l1' := [some (.ref 0), some (.int x1), some (.int x2), some (.int x3), some (.ref 497), some (.ref (3000000 + ak_C M4))]) (l2' := []) (by decide +kernel) rfl (Nat.le_of_ble_eq_true rfl) rfl rfl ?_
    refine w_iconst (n := 18) (v := 1) (x := 1) (by decide +kernel) rfl (by decide) ?_
    subst h
    exact w_ireturn (by decide +kernel) (w_okI (by decide +kernel))
theorem t_335 {X : ak_X} {M : ak_M} {r : ak_O × ak_M} (hL : ab_lay M) (x1 : Int32) (x2 : Int32) (h : (((∃ (v2 : Int32) (M1 : ak_M), ab_lay M1 ∧ rn X 109 [.ref 0, .int x1, .int x2] M (.inl (some (.int v2)), M1) ∧ r = (.inl (some (.int 0)), ak_sL M1 497 0 (v2.toInt64)))) ∨ (∃ (M4 : ak_M), ab_lay M4 ∧ rn X 109 [.ref 0, .int x1, .int x2] M (.inr 0, M4) ∧ r = (.inl (some (.int 1)), ak_use M4 1 0)))) : rn X 335 [.ref 0, .int x1, .int x2, .ref 497] M r := by
  refine w_rn (nL := 5) (l1 := [some (.ref 0), some (.int x1), some (.int x2), some (.ref 497), none]) (by decide +kernel) rfl rfl ?_
  refine w_aload_n (n := 1) (i := 3) (by decide +kernel) rfl rfl ?_
  refine w_iconst (n := 2) (v := 0) (x := 0) (by decide +kernel) rfl (by decide) ?_
  refine w_aload_n (n := 3) (i := 0) (by decide +kernel) rfl rfl ?_
  refine w_iload_n (n := 4) (i := 1) (by decide +kernel) rfl rfl ?_
  refine w_iload_n (n := 5) (i := 2) (by decide +kernel) rfl rfl ?_
  rcases h with h | h
  · obtain ⟨v2, M1, hLM1, hr3, h⟩ := h
    refine w_cV (n := 8) (idx := 52) (cal := 109) (na := 2) (nl := 3) (as := [.int x1, .int x2]) (rest := [.int 0, .ref 497]) hL (by decide +kernel) (by decide +kernel) (at_0) (by decide +kernel) rfl rfl rfl (Nat.le_of_ble_eq_true rfl) rfl hr3 ?_
    refine w_i2l (n := 9) (by decide +kernel) rfl ?_
    refine w_last (n := 10) (i := 0) hLM1 (by decide +kernel) (at_497) (an_497) ⟨by decide, by decide⟩ rfl ?_
    refine w_goto (n := 17) (off := 7) (by decide +kernel) (by decide) ?_
    refine w_iconst (n := 18) (v := 0) (x := 0) (by decide +kernel) rfl (by decide) ?_
    subst h
    exact w_ireturn (by decide +kernel) (w_okI (by decide +kernel))
  · obtain ⟨M4, hLM4, hr5, h⟩ := h
    refine w_hV (E := 0) (t := 13) (idx := 52) (cal := 109) (na := 2) (nl := 3) (as := [.int x1, .int x2]) (rest := [.int 0, .ref 497]) hL (by decide +kernel) (by decide +kernel) (at_0) (by decide +kernel) rfl rfl rfl (Nat.le_of_ble_eq_true rfl) (by decide +kernel) (by decide +kernel) (by decide +kernel) hr5 ?_
    refine w_astore (n := 15) (i := 4) (l1' := [some (.ref 0), some (.int x1), some (.int x2), some (.ref 497), some (.ref (3000000 + ak_C M4))]) (l2' := []) (by decide +kernel) rfl (Nat.le_of_ble_eq_true rfl) rfl rfl ?_
    refine w_iconst (n := 16) (v := 1) (x := 1) (by decide +kernel) rfl (by decide) ?_
    subst h
    exact w_ireturn (by decide +kernel) (w_okI (by decide +kernel))
theorem t_336 {X : ak_X} {M : ak_M} {r : ak_O × ak_M} (hL : ab_lay M) (x1 : Int32) (h : (((∃ (v2 : Int32) (M1 : ak_M), ab_lay M1 ∧ rn X 110 [.ref 0, .int x1] M (.inl (some (.int v2)), M1) ∧ r = (.inl (some (.int 0)), ak_sL M1 497 0 (v2.toInt64)))) ∨ (∃ (M4 : ak_M), ab_lay M4 ∧ rn X 110 [.ref 0, .int x1] M (.inr 0, M4) ∧ r = (.inl (some (.int 1)), ak_use M4 1 0)))) : rn X 336 [.ref 0, .int x1, .ref 497] M r := by
  refine w_rn (nL := 4) (l1 := [some (.ref 0), some (.int x1), some (.ref 497), none]) (by decide +kernel) rfl rfl ?_
  refine w_aload_n (n := 1) (i := 2) (by decide +kernel) rfl rfl ?_
  refine w_iconst (n := 2) (v := 0) (x := 0) (by decide +kernel) rfl (by decide) ?_
  refine w_aload_n (n := 3) (i := 0) (by decide +kernel) rfl rfl ?_
  refine w_iload_n (n := 4) (i := 1) (by decide +kernel) rfl rfl ?_
  rcases h with h | h
  · obtain ⟨v2, M1, hLM1, hr3, h⟩ := h
    refine w_cV (n := 7) (idx := 55) (cal := 110) (na := 1) (nl := 2) (as := [.int x1]) (rest := [.int 0, .ref 497]) hL (by decide +kernel) (by decide +kernel) (at_0) (by decide +kernel) rfl rfl rfl (Nat.le_of_ble_eq_true rfl) rfl hr3 ?_
    refine w_i2l (n := 8) (by decide +kernel) rfl ?_
    refine w_last (n := 9) (i := 0) hLM1 (by decide +kernel) (at_497) (an_497) ⟨by decide, by decide⟩ rfl ?_
    refine w_goto (n := 15) (off := 6) (by decide +kernel) (by decide) ?_
    refine w_iconst (n := 16) (v := 0) (x := 0) (by decide +kernel) rfl (by decide) ?_
    subst h
    exact w_ireturn (by decide +kernel) (w_okI (by decide +kernel))
  · obtain ⟨M4, hLM4, hr5, h⟩ := h
    refine w_hV (E := 0) (t := 12) (idx := 55) (cal := 110) (na := 1) (nl := 2) (as := [.int x1]) (rest := [.int 0, .ref 497]) hL (by decide +kernel) (by decide +kernel) (at_0) (by decide +kernel) rfl rfl rfl (Nat.le_of_ble_eq_true rfl) (by decide +kernel) (by decide +kernel) (by decide +kernel) hr5 ?_
    refine w_astore_n (n := 13) (i := 3) (l1' := [some (.ref 0), some (.int x1), some (.ref 497), some (.ref (3000000 + ak_C M4))]) (l2' := []) (by decide +kernel) rfl (Nat.le_of_ble_eq_true rfl) rfl rfl ?_
    refine w_iconst (n := 14) (v := 1) (x := 1) (by decide +kernel) rfl (by decide) ?_
    subst h
    exact w_ireturn (by decide +kernel) (w_okI (by decide +kernel))
theorem t_337 {X : ak_X} {M : ak_M} {r : ak_O × ak_M} (hL : ab_lay M) (x1 : Int32) (h : (((∃ (v2 : Int32) (M1 : ak_M), ab_lay M1 ∧ rn X 111 [.ref 0, .int x1] M (.inl (some (.int v2)), M1) ∧ r = (.inl (some (.int 0)), ak_sL M1 497 0 (v2.toInt64)))) ∨ (∃ (M4 : ak_M), ab_lay M4 ∧ rn X 111 [.ref 0, .int x1] M (.inr 0, M4) ∧ r = (.inl (some (.int 1)), ak_use M4 1 0)) ∨ (∃ (M6 : ak_M), ab_lay M6 ∧ rn X 111 [.ref 0, .int x1] M (.inr 2, M6) ∧ r = (.inl (some (.int 2)), ak_use M6 1 0)))) : rn X 337 [.ref 0, .int x1, .ref 497] M r := by
  refine w_rn (nL := 4) (l1 := [some (.ref 0), some (.int x1), some (.ref 497), none]) (by decide +kernel) rfl rfl ?_
  refine w_aload_n (n := 1) (i := 2) (by decide +kernel) rfl rfl ?_
  refine w_iconst (n := 2) (v := 0) (x := 0) (by decide +kernel) rfl (by decide) ?_
  refine w_aload_n (n := 3) (i := 0) (by decide +kernel) rfl rfl ?_
  refine w_iload_n (n := 4) (i := 1) (by decide +kernel) rfl rfl ?_
  rcases h with h | h | h
  · obtain ⟨v2, M1, hLM1, hr3, h⟩ := h
    refine w_cV (n := 7) (idx := 58) (cal := 111) (na := 1) (nl := 2) (as := [.int x1]) (rest := [.int 0, .ref 497]) hL (by decide +kernel) (by decide +kernel) (at_0) (by decide +kernel) rfl rfl rfl (Nat.le_of_ble_eq_true rfl) rfl hr3 ?_
    refine w_i2l (n := 8) (by decide +kernel) rfl ?_
    refine w_last (n := 9) (i := 0) hLM1 (by decide +kernel) (at_497) (an_497) ⟨by decide, by decide⟩ rfl ?_
    refine w_goto (n := 18) (off := 9) (by decide +kernel) (by decide) ?_
    refine w_iconst (n := 19) (v := 0) (x := 0) (by decide +kernel) rfl (by decide) ?_
    subst h
    exact w_ireturn (by decide +kernel) (w_okI (by decide +kernel))
  · obtain ⟨M4, hLM4, hr5, h⟩ := h
    refine w_hV (E := 0) (t := 12) (idx := 58) (cal := 111) (na := 1) (nl := 2) (as := [.int x1]) (rest := [.int 0, .ref 497]) hL (by decide +kernel) (by decide +kernel) (at_0) (by decide +kernel) rfl rfl rfl (Nat.le_of_ble_eq_true rfl) (by decide +kernel) (by decide +kernel) (by decide +kernel) hr5 ?_
    refine w_astore_n (n := 13) (i := 3) (l1' := [some (.ref 0), some (.int x1), some (.ref 497), some (.ref (3000000 + ak_C M4))]) (l2' := []) (by decide +kernel) rfl (Nat.le_of_ble_eq_true rfl) rfl rfl ?_
    refine w_iconst (n := 14) (v := 1) (x := 1) (by decide +kernel) rfl (by decide) ?_
    subst h
    exact w_ireturn (by decide +kernel) (w_okI (by decide +kernel))
  · obtain ⟨M6, hLM6, hr7, h⟩ := h
    refine w_hV (E := 2) (t := 15) (idx := 58) (cal := 111) (na := 1) (nl := 2) (as := [.int x1]) (rest := [.int 0, .ref 497]) hL (by decide +kernel) (by decide +kernel) (at_0) (by decide +kernel) rfl rfl rfl (Nat.le_of_ble_eq_true rfl) (by decide +kernel) (by decide +kernel) (by decide +kernel) hr7 ?_
    refine w_astore_n (n := 16) (i := 3) (l1' := [some (.ref 0), some (.int x1), some (.ref 497), some (.ref (3000000 + ak_C M6))]) (l2' := []) (by decide +kernel) rfl (Nat.le_of_ble_eq_true rfl) rfl rfl ?_
    refine w_iconst (n := 17) (v := 2) (x := 2) (by decide +kernel) rfl (by decide) ?_
    subst h
    exact w_ireturn (by decide +kernel) (w_okI (by decide +kernel))
theorem t_338 {X : ak_X} {M : ak_M} {r : ak_O × ak_M} (hL : ab_lay M) (x1 : Int32) (h : (((∃ (v2 : Int32) (M1 : ak_M), ab_lay M1 ∧ rn X 112 [.ref 0, .int x1] M (.inl (some (.int v2)), M1) ∧ r = (.inl (some (.int 0)), ak_sL M1 497 0 (v2.toInt64)))) ∨ (∃ (M4 : ak_M), ab_lay M4 ∧ rn X 112 [.ref 0, .int x1] M (.inr 0, M4) ∧ r = (.inl (some (.int 1)), ak_use M4 1 0)))) : rn X 338 [.ref 0, .int x1, .ref 497] M r := by
  refine w_rn (nL := 4) (l1 := [some (.ref 0), some (.int x1), some (.ref 497), none]) (by decide +kernel) rfl rfl ?_
  refine w_aload_n (n := 1) (i := 2) (by decide +kernel) rfl rfl ?_
  refine w_iconst (n := 2) (v := 0) (x := 0) (by decide +kernel) rfl (by decide) ?_
  refine w_aload_n (n := 3) (i := 0) (by decide +kernel) rfl rfl ?_
  refine w_iload_n (n := 4) (i := 1) (by decide +kernel) rfl rfl ?_
  rcases h with h | h
  · obtain ⟨v2, M1, hLM1, hr3, h⟩ := h
    refine w_cV (n := 7) (idx := 61) (cal := 112) (na := 1) (nl := 2) (as := [.int x1]) (rest := [.int 0, .ref 497]) hL (by decide +kernel) (by decide +kernel) (at_0) (by decide +kernel) rfl rfl rfl (Nat.le_of_ble_eq_true rfl) rfl hr3 ?_
    refine w_i2l (n := 8) (by decide +kernel) rfl ?_
    refine w_last (n := 9) (i := 0) hLM1 (by decide +kernel) (at_497) (an_497) ⟨by decide, by decide⟩ rfl ?_
    refine w_goto (n := 15) (off := 6) (by decide +kernel) (by decide) ?_
    refine w_iconst (n := 16) (v := 0) (x := 0) (by decide +kernel) rfl (by decide) ?_
    subst h
    exact w_ireturn (by decide +kernel) (w_okI (by decide +kernel))
  · obtain ⟨M4, hLM4, hr5, h⟩ := h
    refine w_hV (E := 0) (t := 12) (idx := 61) (cal := 112) (na := 1) (nl := 2) (as := [.int x1]) (rest := [.int 0, .ref 497]) hL (by decide +kernel) (by decide +kernel) (at_0) (by decide +kernel) rfl rfl rfl (Nat.le_of_ble_eq_true rfl) (by decide +kernel) (by decide +kernel) (by decide +kernel) hr5 ?_
    refine w_astore_n (n := 13) (i := 3) (l1' := [some (.ref 0), some (.int x1), some (.ref 497), some (.ref (3000000 + ak_C M4))]) (l2' := []) (by decide +kernel) rfl (Nat.le_of_ble_eq_true rfl) rfl rfl ?_
    refine w_iconst (n := 14) (v := 1) (x := 1) (by decide +kernel) rfl (by decide) ?_
    subst h
    exact w_ireturn (by decide +kernel) (w_okI (by decide +kernel))
theorem t_339 {X : ak_X} {M : ak_M} {r : ak_O × ak_M} (hL : ab_lay M) (x1 : Int32) (h : (((∃ (v2 : Int32) (M1 : ak_M), ab_lay M1 ∧ rn X 113 [.ref 0, .int x1] M (.inl (some (.int v2)), M1) ∧ r = (.inl (some (.int 0)), ak_sL M1 497 0 (v2.toInt64)))) ∨ (∃ (M4 : ak_M), ab_lay M4 ∧ rn X 113 [.ref 0, .int x1] M (.inr 1, M4) ∧ r = (.inl (some (.int 1)), ak_use M4 1 0)))) : rn X 339 [.ref 0, .int x1, .ref 497] M r := by
  refine w_rn (nL := 4) (l1 := [some (.ref 0), some (.int x1), some (.ref 497), none]) (by decide +kernel) rfl rfl ?_
  refine w_aload_n (n := 1) (i := 2) (by decide +kernel) rfl rfl ?_
  refine w_iconst (n := 2) (v := 0) (x := 0) (by decide +kernel) rfl (by decide) ?_
  refine w_aload_n (n := 3) (i := 0) (by decide +kernel) rfl rfl ?_
  refine w_iload_n (n := 4) (i := 1) (by decide +kernel) rfl rfl ?_
  rcases h with h | h
  · obtain ⟨v2, M1, hLM1, hr3, h⟩ := h
    refine w_cV (n := 7) (idx := 64) (cal := 113) (na := 1) (nl := 2) (as := [.int x1]) (rest := [.int 0, .ref 497]) hL (by decide +kernel) (by decide +kernel) (at_0) (by decide +kernel) rfl rfl rfl (Nat.le_of_ble_eq_true rfl) rfl hr3 ?_
    refine w_i2l (n := 8) (by decide +kernel) rfl ?_
    refine w_last (n := 9) (i := 0) hLM1 (by decide +kernel) (at_497) (an_497) ⟨by decide, by decide⟩ rfl ?_
    refine w_goto (n := 15) (off := 6) (by decide +kernel) (by decide) ?_
    refine w_iconst (n := 16) (v := 0) (x := 0) (by decide +kernel) rfl (by decide) ?_
    subst h
    exact w_ireturn (by decide +kernel) (w_okI (by decide +kernel))
  · obtain ⟨M4, hLM4, hr5, h⟩ := h
    refine w_hV (E := 1) (t := 12) (idx := 64) (cal := 113) (na := 1) (nl := 2) (as := [.int x1]) (rest := [.int 0, .ref 497]) hL (by decide +kernel) (by decide +kernel) (at_0) (by decide +kernel) rfl rfl rfl (Nat.le_of_ble_eq_true rfl) (by decide +kernel) (by decide +kernel) (by decide +kernel) hr5 ?_
    refine w_astore_n (n := 13) (i := 3) (l1' := [some (.ref 0), some (.int x1), some (.ref 497), some (.ref (3000000 + ak_C M4))]) (l2' := []) (by decide +kernel) rfl (Nat.le_of_ble_eq_true rfl) rfl rfl ?_
    refine w_iconst (n := 14) (v := 1) (x := 1) (by decide +kernel) rfl (by decide) ?_
    subst h
    exact w_ireturn (by decide +kernel) (w_okI (by decide +kernel))
theorem t_340 {X : ak_X} {M : ak_M} {r : ak_O × ak_M} (hL : ab_lay M) (x1 : Int32) (h : (((∃ (v2 : Int32) (M1 : ak_M), ab_lay M1 ∧ rn X 114 [.ref 0, .int x1] M (.inl (some (.int v2)), M1) ∧ r = (.inl (some (.int 0)), ak_sL M1 497 0 (v2.toInt64)))) ∨ (∃ (M4 : ak_M), ab_lay M4 ∧ rn X 114 [.ref 0, .int x1] M (.inr 0, M4) ∧ r = (.inl (some (.int 1)), ak_use M4 1 0)))) : rn X 340 [.ref 0, .int x1, .ref 497] M r := by
  refine w_rn (nL := 4) (l1 := [some (.ref 0), some (.int x1), some (.ref 497), none]) (by decide +kernel) rfl rfl ?_
  refine w_aload_n (n := 1) (i := 2) (by decide +kernel) rfl rfl ?_
  refine w_iconst (n := 2) (v := 0) (x := 0) (by decide +kernel) rfl (by decide) ?_
  refine w_aload_n (n := 3) (i := 0) (by decide +kernel) rfl rfl ?_
  refine w_iload_n (n := 4) (i := 1) (by decide +kernel) rfl rfl ?_
  rcases h with h | h
  · obtain ⟨v2, M1, hLM1, hr3, h⟩ := h
    refine w_cV (n := 7) (idx := 67) (cal := 114) (na := 1) (nl := 2) (as := [.int x1]) (rest := [.int 0, .ref 497]) hL (by decide +kernel) (by decide +kernel) (at_0) (by decide +kernel) rfl rfl rfl (Nat.le_of_ble_eq_true rfl) rfl hr3 ?_
    refine w_i2l (n := 8) (by decide +kernel) rfl ?_
    refine w_last (n := 9) (i := 0) hLM1 (by decide +kernel) (at_497) (an_497) ⟨by decide, by decide⟩ rfl ?_
    refine w_goto (n := 15) (off := 6) (by decide +kernel) (by decide) ?_
    refine w_iconst (n := 16) (v := 0) (x := 0) (by decide +kernel) rfl (by decide) ?_
    subst h
    exact w_ireturn (by decide +kernel) (w_okI (by decide +kernel))
  · obtain ⟨M4, hLM4, hr5, h⟩ := h
    refine w_hV (E := 0) (t := 12) (idx := 67) (cal := 114) (na := 1) (nl := 2) (as := [.int x1]) (rest := [.int 0, .ref 497]) hL (by decide +kernel) (by decide +kernel) (at_0) (by decide +kernel) rfl rfl rfl (Nat.le_of_ble_eq_true rfl) (by decide +kernel) (by decide +kernel) (by decide +kernel) hr5 ?_
    refine w_astore_n (n := 13) (i := 3) (l1' := [some (.ref 0), some (.int x1), some (.ref 497), some (.ref (3000000 + ak_C M4))]) (l2' := []) (by decide +kernel) rfl (Nat.le_of_ble_eq_true rfl) rfl rfl ?_
    refine w_iconst (n := 14) (v := 1) (x := 1) (by decide +kernel) rfl (by decide) ?_
    subst h
    exact w_ireturn (by decide +kernel) (w_okI (by decide +kernel))
theorem t_341 {X : ak_X} {M : ak_M} {r : ak_O × ak_M} (hL : ab_lay M) (x1 : Int32) (x2 : Int32) (x3 : Int32) (x4 : Int32) (h : (((∃ (v2 : Int32) (M1 : ak_M), ab_lay M1 ∧ rn X 115 [.ref 0, .int x1, .int x2, .int x3, .int x4] M (.inl (some (.int v2)), M1) ∧ r = (.inl (some (.int 0)), ak_sL M1 497 0 (v2.toInt64)))) ∨ (∃ (M4 : ak_M), ab_lay M4 ∧ rn X 115 [.ref 0, .int x1, .int x2, .int x3, .int x4] M (.inr 1, M4) ∧ r = (.inl (some (.int 1)), ak_use M4 1 0)))) : rn X 341 [.ref 0, .int x1, .int x2, .int x3, .int x4, .ref 497] M r := by
  refine w_rn (nL := 7) (l1 := [some (.ref 0), some (.int x1), some (.int x2), some (.int x3), some (.int x4), some (.ref 497), none]) (by decide +kernel) rfl rfl ?_
  refine w_aload (n := 2) (i := 5) (by decide +kernel) rfl rfl ?_
  refine w_iconst (n := 3) (v := 0) (x := 0) (by decide +kernel) rfl (by decide) ?_
  refine w_aload_n (n := 4) (i := 0) (by decide +kernel) rfl rfl ?_
  refine w_iload_n (n := 5) (i := 1) (by decide +kernel) rfl rfl ?_
  refine w_iload_n (n := 6) (i := 2) (by decide +kernel) rfl rfl ?_
  refine w_iload_n (n := 7) (i := 3) (by decide +kernel) rfl rfl ?_
  refine w_iload (n := 9) (i := 4) (by decide +kernel) rfl rfl ?_
  rcases h with h | h
  · obtain ⟨v2, M1, hLM1, hr3, h⟩ := h
    refine w_cV (n := 12) (idx := 70) (cal := 115) (na := 4) (nl := 5) (as := [.int x1, .int x2, .int x3, .int x4]) (rest := [.int 0, .ref 497]) hL (by decide +kernel) (by decide +kernel) (at_0) (by decide +kernel) rfl rfl rfl (Nat.le_of_ble_eq_true rfl) rfl hr3 ?_
    refine w_i2l (n := 13) (by decide +kernel) rfl ?_
    refine w_last (n := 14) (i := 0) hLM1 (by decide +kernel) (at_497) (an_497) ⟨by decide, by decide⟩ rfl ?_
    refine w_goto (n := 21) (off := 7) (by decide +kernel) (by decide) ?_
    refine w_iconst (n := 22) (v := 0) (x := 0) (by decide +kernel) rfl (by decide) ?_
    subst h
    exact w_ireturn (by decide +kernel) (w_okI (by decide +kernel))
  · obtain ⟨M4, hLM4, hr5, h⟩ := h
    refine w_hV (E := 1) (t := 17) (idx := 70) (cal := 115) (na := 4) (nl := 5) (as := [.int x1, .int x2, .int x3, .int x4]) (rest := [.int 0, .ref 497]) hL (by decide +kernel) (by decide +kernel) (at_0) (by decide +kernel) rfl rfl rfl (Nat.le_of_ble_eq_true rfl) (by decide +kernel) (by decide +kernel) (by decide +kernel) hr5 ?_
    refine w_astore (n := 19) (i := 6) (l1' := [some (.ref 0), some (.int x1), some (.int x2), some (.int x3), some (.int x4), some (.ref 497), some (.ref (3000000 + ak_C M4))]) (l2' := []) (by decide +kernel) rfl (Nat.le_of_ble_eq_true rfl) rfl rfl ?_
    refine w_iconst (n := 20) (v := 1) (x := 1) (by decide +kernel) rfl (by decide) ?_
    subst h
    exact w_ireturn (by decide +kernel) (w_okI (by decide +kernel))
theorem t_342 {X : ak_X} {M : ak_M} {r : ak_O × ak_M} (hL : ab_lay M) (x1 : Int32) (h : (((∃ (v2 : UInt32) (M1 : ak_M), ab_lay M1 ∧ rn X 118 [.ref 0, .int x1] M (.inl (some (.float v2)), M1) ∧ ((FP.f2d v2) &&& 0x7fffffffffffffff ≤ 0x7ff0000000000000 ∧ r = (.inl (some (.int 0)), ak_sD M1 498 0 (FP.f2d v2))))) ∨ (∃ (M5 : ak_M), ab_lay M5 ∧ rn X 118 [.ref 0, .int x1] M (.inr 0, M5) ∧ r = (.inl (some (.int 1)), ak_use M5 1 0)))) : rn X 342 [.ref 0, .int x1, .ref 498] M r := by
  refine w_rn (nL := 4) (l1 := [some (.ref 0), some (.int x1), some (.ref 498), none]) (by decide +kernel) rfl rfl ?_
  refine w_aload_n (n := 1) (i := 2) (by decide +kernel) rfl rfl ?_
  refine w_iconst (n := 2) (v := 0) (x := 0) (by decide +kernel) rfl (by decide) ?_
  refine w_aload_n (n := 3) (i := 0) (by decide +kernel) rfl rfl ?_
  refine w_iload_n (n := 4) (i := 1) (by decide +kernel) rfl rfl ?_
  rcases h with h | h
  · obtain ⟨v2, M1, hLM1, hr4, h⟩ := h
    refine w_cV (n := 7) (idx := 74) (cal := 118) (na := 1) (nl := 2) (as := [.int x1]) (rest := [.int 0, .ref 498]) hL (by decide +kernel) (by decide +kernel) (at_0) (by decide +kernel) rfl rfl rfl (Nat.le_of_ble_eq_true rfl) rfl hr4 ?_
    obtain ⟨g3, h⟩ := h
    refine w_f2d (n := 8) (by decide +kernel) rfl g3 ?_
    refine w_dast (n := 9) (i := 0) hLM1 (by decide +kernel) (at_498) (an_498) ⟨by decide, by decide⟩ rfl ?_
    refine w_goto (n := 15) (off := 6) (by decide +kernel) (by decide) ?_
    refine w_iconst (n := 16) (v := 0) (x := 0) (by decide +kernel) rfl (by decide) ?_
    subst h
    exact w_ireturn (by decide +kernel) (w_okI (by decide +kernel))
  · obtain ⟨M5, hLM5, hr6, h⟩ := h
    refine w_hV (E := 0) (t := 12) (idx := 74) (cal := 118) (na := 1) (nl := 2) (as := [.int x1]) (rest := [.int 0, .ref 498]) hL (by decide +kernel) (by decide +kernel) (at_0) (by decide +kernel) rfl rfl rfl (Nat.le_of_ble_eq_true rfl) (by decide +kernel) (by decide +kernel) (by decide +kernel) hr6 ?_
    refine w_astore_n (n := 13) (i := 3) (l1' := [some (.ref 0), some (.int x1), some (.ref 498), some (.ref (3000000 + ak_C M5))]) (l2' := []) (by decide +kernel) rfl (Nat.le_of_ble_eq_true rfl) rfl rfl ?_
    refine w_iconst (n := 14) (v := 1) (x := 1) (by decide +kernel) rfl (by decide) ?_
    subst h
    exact w_ireturn (by decide +kernel) (w_okI (by decide +kernel))
theorem t_343 {X : ak_X} {M : ak_M} {r : ak_O × ak_M} (hL : ab_lay M) (x1 : Int32) (x2 : Int32) (x3 : Int32) (h : (((∃ (v2 : Int32) (M1 : ak_M), ab_lay M1 ∧ rn X 119 [.ref 0, .int x1, .int x2, .int x3] M (.inl (some (.int v2)), M1) ∧ r = (.inl (some (.int 0)), ak_sL M1 497 0 (v2.toInt64)))) ∨ (∃ (M4 : ak_M), ab_lay M4 ∧ rn X 119 [.ref 0, .int x1, .int x2, .int x3] M (.inr 0, M4) ∧ r = (.inl (some (.int 1)), ak_use M4 1 0)) ∨ (∃ (M6 : ak_M), ab_lay M6 ∧ rn X 119 [.ref 0, .int x1, .int x2, .int x3] M (.inr 1, M6) ∧ r = (.inl (some (.int 2)), ak_use M6 1 0)))) : rn X 343 [.ref 0, .int x1, .int x2, .int x3, .ref 497] M r := by
  refine w_rn (nL := 6) (l1 := [some (.ref 0), some (.int x1), some (.int x2), some (.int x3), some (.ref 497), none]) (by decide +kernel) rfl rfl ?_
  refine w_aload (n := 2) (i := 4) (by decide +kernel) rfl rfl ?_
  refine w_iconst (n := 3) (v := 0) (x := 0) (by decide +kernel) rfl (by decide) ?_
  refine w_aload_n (n := 4) (i := 0) (by decide +kernel) rfl rfl ?_
  refine w_iload_n (n := 5) (i := 1) (by decide +kernel) rfl rfl ?_
  refine w_iload_n (n := 6) (i := 2) (by decide +kernel) rfl rfl ?_
  refine w_iload_n (n := 7) (i := 3) (by decide +kernel) rfl rfl ?_
  rcases h with h | h | h
  · obtain ⟨v2, M1, hLM1, hr3, h⟩ := h
    refine w_cV (n := 10) (idx := 78) (cal := 119) (na := 3) (nl := 4) (as := [.int x1, .int x2, .int x3]) (rest := [.int 0, .ref 497]) hL (by decide +kernel) (by decide +kernel) (at_0) (by decide +kernel) rfl rfl rfl (Nat.le_of_ble_eq_true rfl) rfl hr3 ?_
    refine w_i2l (n := 11) (by decide +kernel) rfl ?_
    refine w_last (n := 12) (i := 0) hLM1 (by decide +kernel) (at_497) (an_497) ⟨by decide, by decide⟩ rfl ?_
    refine w_goto (n := 23) (off := 11) (by decide +kernel) (by decide) ?_
    refine w_iconst (n := 24) (v := 0) (x := 0) (by decide +kernel) rfl (by decide) ?_
    subst h
    exact w_ireturn (by decide +kernel) (w_okI (by decide +kernel))
  · obtain ⟨M4, hLM4, hr5, h⟩ := h
    refine w_hV (E := 0) (t := 15) (idx := 78) (cal := 119) (na := 3) (nl := 4) (as := [.int x1, .int x2, .int x3]) (rest := [.int 0, .ref 497]) hL (by decide +kernel) (by decide +kernel) (at_0) (by decide +kernel) rfl rfl rfl (Nat.le_of_ble_eq_true rfl) (by decide +kernel) (by decide +kernel) (by decide +kernel) hr5 ?_
    refine w_astore (n := 17) (i := 5) (l1' := [some (.ref 0), some (.int x1), some (.int x2), some (.int x3), some (.ref 497), some (.ref (3000000 + ak_C M4))]) (l2' := []) (by decide +kernel) rfl (Nat.le_of_ble_eq_true rfl) rfl rfl ?_
    refine w_iconst (n := 18) (v := 1) (x := 1) (by decide +kernel) rfl (by decide) ?_
    subst h
    exact w_ireturn (by decide +kernel) (w_okI (by decide +kernel))
  · obtain ⟨M6, hLM6, hr7, h⟩ := h
    refine w_hV (E := 1) (t := 19) (idx := 78) (cal := 119) (na := 3) (nl := 4) (as := [.int x1, .int x2, .int x3]) (rest := [.int 0, .ref 497]) hL (by decide +kernel) (by decide +kernel) (at_0) (by decide +kernel) rfl rfl rfl (Nat.le_of_ble_eq_true rfl) (by decide +kernel) (by decide +kernel) (by decide +kernel) hr7 ?_
    refine w_astore (n := 21) (i := 5) (l1' := [some (.ref 0), some (.int x1), some (.int x2), some (.int x3), some (.ref 497), some (.ref (3000000 + ak_C M6))]) (l2' := []) (by decide +kernel) rfl (Nat.le_of_ble_eq_true rfl) rfl rfl ?_
    refine w_iconst (n := 22) (v := 2) (x := 2) (by decide +kernel) rfl (by decide) ?_
    subst h
    exact w_ireturn (by decide +kernel) (w_okI (by decide +kernel))
theorem t_344 {X : ak_X} {M : ak_M} {r : ak_O × ak_M} (hL : ab_lay M) (x1 : Int32) (x2 : Int32) (h : (((∃ (v2 : Int32) (M1 : ak_M), ab_lay M1 ∧ rn X 120 [.ref 0, .int x1, .int x2] M (.inl (some (.int v2)), M1) ∧ r = (.inl (some (.int 0)), ak_sL M1 497 0 (v2.toInt64)))) ∨ (∃ (M4 : ak_M), ab_lay M4 ∧ rn X 120 [.ref 0, .int x1, .int x2] M (.inr 0, M4) ∧ r = (.inl (some (.int 1)), ak_use M4 1 0)) ∨ (∃ (M6 : ak_M), ab_lay M6 ∧ rn X 120 [.ref 0, .int x1, .int x2] M (.inr 1, M6) ∧ r = (.inl (some (.int 2)), ak_use M6 1 0)))) : rn X 344 [.ref 0, .int x1, .int x2, .ref 497] M r := by
  refine w_rn (nL := 5) (l1 := [some (.ref 0), some (.int x1), some (.int x2), some (.ref 497), none]) (by decide +kernel) rfl rfl ?_
  refine w_aload_n (n := 1) (i := 3) (by decide +kernel) rfl rfl ?_
  refine w_iconst (n := 2) (v := 0) (x := 0) (by decide +kernel) rfl (by decide) ?_
  refine w_aload_n (n := 3) (i := 0) (by decide +kernel) rfl rfl ?_
  refine w_iload_n (n := 4) (i := 1) (by decide +kernel) rfl rfl ?_
  refine w_iload_n (n := 5) (i := 2) (by decide +kernel) rfl rfl ?_
  rcases h with h | h | h
  · obtain ⟨v2, M1, hLM1, hr3, h⟩ := h
    refine w_cV (n := 8) (idx := 81) (cal := 120) (na := 2) (nl := 3) (as := [.int x1, .int x2]) (rest := [.int 0, .ref 497]) hL (by decide +kernel) (by decide +kernel) (at_0) (by decide +kernel) rfl rfl rfl (Nat.le_of_ble_eq_true rfl) rfl hr3 ?_
    refine w_i2l (n := 9) (by decide +kernel) rfl ?_
    refine w_last (n := 10) (i := 0) hLM1 (by decide +kernel) (at_497) (an_497) ⟨by decide, by decide⟩ rfl ?_
    refine w_goto (n := 21) (off := 11) (by decide +kernel) (by decide) ?_
    refine w_iconst (n := 22) (v := 0) (x := 0) (by decide +kernel) rfl (by decide) ?_
    subst h
    exact w_ireturn (by decide +kernel) (w_okI (by decide +kernel))
  · obtain ⟨M4, hLM4, hr5, h⟩ := h
    refine w_hV (E := 0) (t := 13) (idx := 81) (cal := 120) (na := 2) (nl := 3) (as := [.int x1, .int x2]) (rest := [.int 0, .ref 497]) hL (by decide +kernel) (by decide +kernel) (at_0) (by decide +kernel) rfl rfl rfl (Nat.le_of_ble_eq_true rfl) (by decide +kernel) (by decide +kernel) (by decide +kernel) hr5 ?_
    refine w_astore (n := 15) (i := 4) (l1' := [some (.ref 0), some (.int x1), some (.int x2), some (.ref 497), some (.ref (3000000 + ak_C M4))]) (l2' := []) (by decide +kernel) rfl (Nat.le_of_ble_eq_true rfl) rfl rfl ?_
    refine w_iconst (n := 16) (v := 1) (x := 1) (by decide +kernel) rfl (by decide) ?_
    subst h
    exact w_ireturn (by decide +kernel) (w_okI (by decide +kernel))
  · obtain ⟨M6, hLM6, hr7, h⟩ := h
    refine w_hV (E := 1) (t := 17) (idx := 81) (cal := 120) (na := 2) (nl := 3) (as := [.int x1, .int x2]) (rest := [.int 0, .ref 497]) hL (by decide +kernel) (by decide +kernel) (at_0) (by decide +kernel) rfl rfl rfl (Nat.le_of_ble_eq_true rfl) (by decide +kernel) (by decide +kernel) (by decide +kernel) hr7 ?_
    refine w_astore (n := 19) (i := 4) (l1' := [some (.ref 0), some (.int x1), some (.int x2), some (.ref 497), some (.ref (3000000 + ak_C M6))]) (l2' := []) (by decide +kernel) rfl (Nat.le_of_ble_eq_true rfl) rfl rfl ?_
    refine w_iconst (n := 20) (v := 2) (x := 2) (by decide +kernel) rfl (by decide) ?_
    subst h
    exact w_ireturn (by decide +kernel) (w_okI (by decide +kernel))
theorem t_345 {X : ak_X} {M : ak_M} {r : ak_O × ak_M} (hL : ab_lay M) (x1 : Int32) (x2 : Int32) (x3 : Int32) (h : (((∃ (v2 : Int32) (M1 : ak_M), ab_lay M1 ∧ rn X 121 [.ref 0, .int x1, .int x2, .int x3] M (.inl (some (.int v2)), M1) ∧ r = (.inl (some (.int 0)), ak_sL M1 497 0 (v2.toInt64)))) ∨ (∃ (M4 : ak_M), ab_lay M4 ∧ rn X 121 [.ref 0, .int x1, .int x2, .int x3] M (.inr 0, M4) ∧ r = (.inl (some (.int 1)), ak_use M4 1 0)) ∨ (∃ (M6 : ak_M), ab_lay M6 ∧ rn X 121 [.ref 0, .int x1, .int x2, .int x3] M (.inr 1, M6) ∧ r = (.inl (some (.int 2)), ak_use M6 1 0)))) : rn X 345 [.ref 0, .int x1, .int x2, .int x3, .ref 497] M r := by
  refine w_rn (nL := 6) (l1 := [some (.ref 0), some (.int x1), some (.int x2), some (.int x3), some (.ref 497), none]) (by decide +kernel) rfl rfl ?_
  refine w_aload (n := 2) (i := 4) (by decide +kernel) rfl rfl ?_
  refine w_iconst (n := 3) (v := 0) (x := 0) (by decide +kernel) rfl (by decide) ?_
  refine w_aload_n (n := 4) (i := 0) (by decide +kernel) rfl rfl ?_
  refine w_iload_n (n := 5) (i := 1) (by decide +kernel) rfl rfl ?_
  refine w_iload_n (n := 6) (i := 2) (by decide +kernel) rfl rfl ?_
  refine w_iload_n (n := 7) (i := 3) (by decide +kernel) rfl rfl ?_
  rcases h with h | h | h
  · obtain ⟨v2, M1, hLM1, hr3, h⟩ := h
    refine w_cV (n := 10) (idx := 84) (cal := 121) (na := 3) (nl := 4) (as := [.int x1, .int x2, .int x3]) (rest := [.int 0, .ref 497]) hL (by decide +kernel) (by decide +kernel) (at_0) (by decide +kernel) rfl rfl rfl (Nat.le_of_ble_eq_true rfl) rfl hr3 ?_
    refine w_i2l (n := 11) (by decide +kernel) rfl ?_
    refine w_last (n := 12) (i := 0) hLM1 (by decide +kernel) (at_497) (an_497) ⟨by decide, by decide⟩ rfl ?_
    refine w_goto (n := 23) (off := 11) (by decide +kernel) (by decide) ?_
    refine w_iconst (n := 24) (v := 0) (x := 0) (by decide +kernel) rfl (by decide) ?_
    subst h
    exact w_ireturn (by decide +kernel) (w_okI (by decide +kernel))
  · obtain ⟨M4, hLM4, hr5, h⟩ := h
    refine w_hV (E := 0) (t := 15) (idx := 84) (cal := 121) (na := 3) (nl := 4) (as := [.int x1, .int x2, .int x3]) (rest := [.int 0, .ref 497]) hL (by decide +kernel) (by decide +kernel) (at_0) (by decide +kernel) rfl rfl rfl (Nat.le_of_ble_eq_true rfl) (by decide +kernel) (by decide +kernel) (by decide +kernel) hr5 ?_
    refine w_astore (n := 17) (i := 5) (l1' := [some (.ref 0), some (.int x1), some (.int x2), some (.int x3), some (.ref 497), some (.ref (3000000 + ak_C M4))]) (l2' := []) (by decide +kernel) rfl (Nat.le_of_ble_eq_true rfl) rfl rfl ?_
    refine w_iconst (n := 18) (v := 1) (x := 1) (by decide +kernel) rfl (by decide) ?_
    subst h
    exact w_ireturn (by decide +kernel) (w_okI (by decide +kernel))
  · obtain ⟨M6, hLM6, hr7, h⟩ := h
    refine w_hV (E := 1) (t := 19) (idx := 84) (cal := 121) (na := 3) (nl := 4) (as := [.int x1, .int x2, .int x3]) (rest := [.int 0, .ref 497]) hL (by decide +kernel) (by decide +kernel) (at_0) (by decide +kernel) rfl rfl rfl (Nat.le_of_ble_eq_true rfl) (by decide +kernel) (by decide +kernel) (by decide +kernel) hr7 ?_
    refine w_astore (n := 21) (i := 5) (l1' := [some (.ref 0), some (.int x1), some (.int x2), some (.int x3), some (.ref 497), some (.ref (3000000 + ak_C M6))]) (l2' := []) (by decide +kernel) rfl (Nat.le_of_ble_eq_true rfl) rfl rfl ?_
    refine w_iconst (n := 22) (v := 2) (x := 2) (by decide +kernel) rfl (by decide) ?_
    subst h
    exact w_ireturn (by decide +kernel) (w_okI (by decide +kernel))
theorem t_346 {X : ak_X} {M : ak_M} {r : ak_O × ak_M} (hL : ab_lay M) (x1 : Int32) (h : (((∃ (v2 : Int32) (M1 : ak_M), ab_lay M1 ∧ rn X 122 [.ref 0, .int x1] M (.inl (some (.int v2)), M1) ∧ r = (.inl (some (.int 0)), ak_sL M1 497 0 (v2.toInt64)))) ∨ (∃ (M4 : ak_M), ab_lay M4 ∧ rn X 122 [.ref 0, .int x1] M (.inr 1, M4) ∧ r = (.inl (some (.int 1)), ak_use M4 1 0)))) : rn X 346 [.ref 0, .int x1, .ref 497] M r := by
  refine w_rn (nL := 4) (l1 := [some (.ref 0), some (.int x1), some (.ref 497), none]) (by decide +kernel) rfl rfl ?_
  refine w_aload_n (n := 1) (i := 2) (by decide +kernel) rfl rfl ?_
  refine w_iconst (n := 2) (v := 0) (x := 0) (by decide +kernel) rfl (by decide) ?_
  refine w_aload_n (n := 3) (i := 0) (by decide +kernel) rfl rfl ?_
  refine w_iload_n (n := 4) (i := 1) (by decide +kernel) rfl rfl ?_
  rcases h with h | h
  · obtain ⟨v2, M1, hLM1, hr3, h⟩ := h
    refine w_cV (n := 7) (idx := 87) (cal := 122) (na := 1) (nl := 2) (as := [.int x1]) (rest := [.int 0, .ref 497]) hL (by decide +kernel) (by decide +kernel) (at_0) (by decide +kernel) rfl rfl rfl (Nat.le_of_ble_eq_true rfl) rfl hr3 ?_
    refine w_i2l (n := 8) (by decide +kernel) rfl ?_
    refine w_last (n := 9) (i := 0) hLM1 (by decide +kernel) (at_497) (an_497) ⟨by decide, by decide⟩ rfl ?_
    refine w_goto (n := 15) (off := 6) (by decide +kernel) (by decide) ?_
    refine w_iconst (n := 16) (v := 0) (x := 0) (by decide +kernel) rfl (by decide) ?_
    subst h
    exact w_ireturn (by decide +kernel) (w_okI (by decide +kernel))
  · obtain ⟨M4, hLM4, hr5, h⟩ := h
    refine w_hV (E := 1) (t := 12) (idx := 87) (cal := 122) (na := 1) (nl := 2) (as := [.int x1]) (rest := [.int 0, .ref 497]) hL (by decide +kernel) (by decide +kernel) (at_0) (by decide +kernel) rfl rfl rfl (Nat.le_of_ble_eq_true rfl) (by decide +kernel) (by decide +kernel) (by decide +kernel) hr5 ?_
    refine w_astore_n (n := 13) (i := 3) (l1' := [some (.ref 0), some (.int x1), some (.ref 497), some (.ref (3000000 + ak_C M4))]) (l2' := []) (by decide +kernel) rfl (Nat.le_of_ble_eq_true rfl) rfl rfl ?_
    refine w_iconst (n := 14) (v := 1) (x := 1) (by decide +kernel) rfl (by decide) ?_
    subst h
    exact w_ireturn (by decide +kernel) (w_okI (by decide +kernel))
theorem t_347 {X : ak_X} {M : ak_M} {r : ak_O × ak_M} (hL : ab_lay M) (x1 : Int32) (x2 : Int32) (h : (((∃ (v2 : Int32) (M1 : ak_M), ab_lay M1 ∧ rn X 123 [.ref 0, .int x1, .int x2] M (.inl (some (.int v2)), M1) ∧ r = (.inl (some (.int 0)), ak_sL M1 497 0 (v2.toInt64)))) ∨ (∃ (M4 : ak_M), ab_lay M4 ∧ rn X 123 [.ref 0, .int x1, .int x2] M (.inr 0, M4) ∧ r = (.inl (some (.int 1)), ak_use M4 1 0)) ∨ (∃ (M6 : ak_M), ab_lay M6 ∧ rn X 123 [.ref 0, .int x1, .int x2] M (.inr 1, M6) ∧ r = (.inl (some (.int 2)), ak_use M6 1 0)))) : rn X 347 [.ref 0, .int x1, .int x2, .ref 497] M r := by
  refine w_rn (nL := 5) (l1 := [some (.ref 0), some (.int x1), some (.int x2), some (.ref 497), none]) (by decide +kernel) rfl rfl ?_
  refine w_aload_n (n := 1) (i := 3) (by decide +kernel) rfl rfl ?_
  refine w_iconst (n := 2) (v := 0) (x := 0) (by decide +kernel) rfl (by decide) ?_
  refine w_aload_n (n := 3) (i := 0) (by decide +kernel) rfl rfl ?_
  refine w_iload_n (n := 4) (i := 1) (by decide +kernel) rfl rfl ?_
  refine w_iload_n (n := 5) (i := 2) (by decide +kernel) rfl rfl ?_
  rcases h with h | h | h
  · obtain ⟨v2, M1, hLM1, hr3, h⟩ := h
    refine w_cV (n := 8) (idx := 90) (cal := 123) (na := 2) (nl := 3) (as := [.int x1, .int x2]) (rest := [.int 0, .ref 497]) hL (by decide +kernel) (by decide +kernel) (at_0) (by decide +kernel) rfl rfl rfl (Nat.le_of_ble_eq_true rfl) rfl hr3 ?_
    refine w_i2l (n := 9) (by decide +kernel) rfl ?_
    refine w_last (n := 10) (i := 0) hLM1 (by decide +kernel) (at_497) (an_497) ⟨by decide, by decide⟩ rfl ?_
    refine w_goto (n := 21) (off := 11) (by decide +kernel) (by decide) ?_
    refine w_iconst (n := 22) (v := 0) (x := 0) (by decide +kernel) rfl (by decide) ?_
    subst h
    exact w_ireturn (by decide +kernel) (w_okI (by decide +kernel))
  · obtain ⟨M4, hLM4, hr5, h⟩ := h
    refine w_hV (E := 0) (t := 13) (idx := 90) (cal := 123) (na := 2) (nl := 3) (as := [.int x1, .int x2]) (rest := [.int 0, .ref 497]) hL (by decide +kernel) (by decide +kernel) (at_0) (by decide +kernel) rfl rfl rfl (Nat.le_of_ble_eq_true rfl) (by decide +kernel) (by decide +kernel) (by decide +kernel) hr5 ?_
    refine w_astore (n := 15) (i := 4) (l1' := [some (.ref 0), some (.int x1), some (.int x2), some (.ref 497), some (.ref (3000000 + ak_C M4))]) (l2' := []) (by decide +kernel) rfl (Nat.le_of_ble_eq_true rfl) rfl rfl ?_
    refine w_iconst (n := 16) (v := 1) (x := 1) (by decide +kernel) rfl (by decide) ?_
    subst h
    exact w_ireturn (by decide +kernel) (w_okI (by decide +kernel))
  · obtain ⟨M6, hLM6, hr7, h⟩ := h
    refine w_hV (E := 1) (t := 17) (idx := 90) (cal := 123) (na := 2) (nl := 3) (as := [.int x1, .int x2]) (rest := [.int 0, .ref 497]) hL (by decide +kernel) (by decide +kernel) (at_0) (by decide +kernel) rfl rfl rfl (Nat.le_of_ble_eq_true rfl) (by decide +kernel) (by decide +kernel) (by decide +kernel) hr7 ?_
    refine w_astore (n := 19) (i := 4) (l1' := [some (.ref 0), some (.int x1), some (.int x2), some (.ref 497), some (.ref (3000000 + ak_C M6))]) (l2' := []) (by decide +kernel) rfl (Nat.le_of_ble_eq_true rfl) rfl rfl ?_
    refine w_iconst (n := 20) (v := 2) (x := 2) (by decide +kernel) rfl (by decide) ?_
    subst h
    exact w_ireturn (by decide +kernel) (w_okI (by decide +kernel))
theorem t_348 {X : ak_X} {M : ak_M} {r : ak_O × ak_M} (hL : ab_lay M) (x1 : Int32) (x2 : Int32) (x3 : Int32) (h : (((∃ (v2 : Int32) (M1 : ak_M), ab_lay M1 ∧ rn X 124 [.ref 0, .int x1, .int x2, .int x3] M (.inl (some (.int v2)), M1) ∧ r = (.inl (some (.int 0)), ak_sL M1 497 0 (v2.toInt64)))) ∨ (∃ (M4 : ak_M), ab_lay M4 ∧ rn X 124 [.ref 0, .int x1, .int x2, .int x3] M (.inr 0, M4) ∧ r = (.inl (some (.int 1)), ak_use M4 1 0)) ∨ (∃ (M6 : ak_M), ab_lay M6 ∧ rn X 124 [.ref 0, .int x1, .int x2, .int x3] M (.inr 1, M6) ∧ r = (.inl (some (.int 2)), ak_use M6 1 0)))) : rn X 348 [.ref 0, .int x1, .int x2, .int x3, .ref 497] M r := by
  refine w_rn (nL := 6) (l1 := [some (.ref 0), some (.int x1), some (.int x2), some (.int x3), some (.ref 497), none]) (by decide +kernel) rfl rfl ?_
  refine w_aload (n := 2) (i := 4) (by decide +kernel) rfl rfl ?_
  refine w_iconst (n := 3) (v := 0) (x := 0) (by decide +kernel) rfl (by decide) ?_
  refine w_aload_n (n := 4) (i := 0) (by decide +kernel) rfl rfl ?_
  refine w_iload_n (n := 5) (i := 1) (by decide +kernel) rfl rfl ?_
  refine w_iload_n (n := 6) (i := 2) (by decide +kernel) rfl rfl ?_
  refine w_iload_n (n := 7) (i := 3) (by decide +kernel) rfl rfl ?_
  rcases h with h | h | h
  · obtain ⟨v2, M1, hLM1, hr3, h⟩ := h
    refine w_cV (n := 10) (idx := 93) (cal := 124) (na := 3) (nl := 4) (as := [.int x1, .int x2, .int x3]) (rest := [.int 0, .ref 497]) hL (by decide +kernel) (by decide +kernel) (at_0) (by decide +kernel) rfl rfl rfl (Nat.le_of_ble_eq_true rfl) rfl hr3 ?_
    refine w_i2l (n := 11) (by decide +kernel) rfl ?_
    refine w_last (n := 12) (i := 0) hLM1 (by decide +kernel) (at_497) (an_497) ⟨by decide, by decide⟩ rfl ?_
    refine w_goto (n := 23) (off := 11) (by decide +kernel) (by decide) ?_
    refine w_iconst (n := 24) (v := 0) (x := 0) (by decide +kernel) rfl (by decide) ?_
    subst h
    exact w_ireturn (by decide +kernel) (w_okI (by decide +kernel))
  · obtain ⟨M4, hLM4, hr5, h⟩ := h
    refine w_hV (E := 0) (t := 15) (idx := 93) (cal := 124) (na := 3) (nl := 4) (as := [.int x1, .int x2, .int x3]) (rest := [.int 0, .ref 497]) hL (by decide +kernel) (by decide +kernel) (at_0) (by decide +kernel) rfl rfl rfl (Nat.le_of_ble_eq_true rfl) (by decide +kernel) (by decide +kernel) (by decide +kernel) hr5 ?_
    refine w_astore (n := 17) (i := 5) (l1' := [some (.ref 0), some (.int x1), some (.int x2), some (.int x3), some (.ref 497), some (.ref (3000000 + ak_C M4))]) (l2' := []) (by decide +kernel) rfl (Nat.le_of_ble_eq_true rfl) rfl rfl ?_
    refine w_iconst (n := 18) (v := 1) (x := 1) (by decide +kernel) rfl (by decide) ?_
    subst h
    exact w_ireturn (by decide +kernel) (w_okI (by decide +kernel))
  · obtain ⟨M6, hLM6, hr7, h⟩ := h
    refine w_hV (E := 1) (t := 19) (idx := 93) (cal := 124) (na := 3) (nl := 4) (as := [.int x1, .int x2, .int x3]) (rest := [.int 0, .ref 497]) hL (by decide +kernel) (by decide +kernel) (at_0) (by decide +kernel) rfl rfl rfl (Nat.le_of_ble_eq_true rfl) (by decide +kernel) (by decide +kernel) (by decide +kernel) hr7 ?_
    refine w_astore (n := 21) (i := 5) (l1' := [some (.ref 0), some (.int x1), some (.int x2), some (.int x3), some (.ref 497), some (.ref (3000000 + ak_C M6))]) (l2' := []) (by decide +kernel) rfl (Nat.le_of_ble_eq_true rfl) rfl rfl ?_
    refine w_iconst (n := 22) (v := 2) (x := 2) (by decide +kernel) rfl (by decide) ?_
    subst h
    exact w_ireturn (by decide +kernel) (w_okI (by decide +kernel))
theorem t_349 {X : ak_X} {M : ak_M} {r : ak_O × ak_M} (hL : ab_lay M) (x1 : Int32) (x2 : Int32) (h : (((∃ (v2 : Int32) (M1 : ak_M), ab_lay M1 ∧ rn X 125 [.ref 0, .int x1, .int x2] M (.inl (some (.int v2)), M1) ∧ r = (.inl (some (.int 0)), ak_sL M1 497 0 (v2.toInt64)))) ∨ (∃ (M4 : ak_M), ab_lay M4 ∧ rn X 125 [.ref 0, .int x1, .int x2] M (.inr 0, M4) ∧ r = (.inl (some (.int 1)), ak_use M4 1 0)) ∨ (∃ (M6 : ak_M), ab_lay M6 ∧ rn X 125 [.ref 0, .int x1, .int x2] M (.inr 1, M6) ∧ r = (.inl (some (.int 2)), ak_use M6 1 0)))) : rn X 349 [.ref 0, .int x1, .int x2, .ref 497] M r := by
  refine w_rn (nL := 5) (l1 := [some (.ref 0), some (.int x1), some (.int x2), some (.ref 497), none]) (by decide +kernel) rfl rfl ?_
  refine w_aload_n (n := 1) (i := 3) (by decide +kernel) rfl rfl ?_
  refine w_iconst (n := 2) (v := 0) (x := 0) (by decide +kernel) rfl (by decide) ?_
  refine w_aload_n (n := 3) (i := 0) (by decide +kernel) rfl rfl ?_
  refine w_iload_n (n := 4) (i := 1) (by decide +kernel) rfl rfl ?_
  refine w_iload_n (n := 5) (i := 2) (by decide +kernel) rfl rfl ?_
  rcases h with h | h | h
  · obtain ⟨v2, M1, hLM1, hr3, h⟩ := h
    refine w_cV (n := 8) (idx := 96) (cal := 125) (na := 2) (nl := 3) (as := [.int x1, .int x2]) (rest := [.int 0, .ref 497]) hL (by decide +kernel) (by decide +kernel) (at_0) (by decide +kernel) rfl rfl rfl (Nat.le_of_ble_eq_true rfl) rfl hr3 ?_
    refine w_i2l (n := 9) (by decide +kernel) rfl ?_
    refine w_last (n := 10) (i := 0) hLM1 (by decide +kernel) (at_497) (an_497) ⟨by decide, by decide⟩ rfl ?_
    refine w_goto (n := 21) (off := 11) (by decide +kernel) (by decide) ?_
    refine w_iconst (n := 22) (v := 0) (x := 0) (by decide +kernel) rfl (by decide) ?_
    subst h
    exact w_ireturn (by decide +kernel) (w_okI (by decide +kernel))
  · obtain ⟨M4, hLM4, hr5, h⟩ := h
    refine w_hV (E := 0) (t := 13) (idx := 96) (cal := 125) (na := 2) (nl := 3) (as := [.int x1, .int x2]) (rest := [.int 0, .ref 497]) hL (by decide +kernel) (by decide +kernel) (at_0) (by decide +kernel) rfl rfl rfl (Nat.le_of_ble_eq_true rfl) (by decide +kernel) (by decide +kernel) (by decide +kernel) hr5 ?_
    refine w_astore (n := 15) (i := 4) (l1' := [some (.ref 0), some (.int x1), some (.int x2), some (.ref 497), some (.ref (3000000 + ak_C M4))]) (l2' := []) (by decide +kernel) rfl (Nat.le_of_ble_eq_true rfl) rfl rfl ?_
    refine w_iconst (n := 16) (v := 1) (x := 1) (by decide +kernel) rfl (by decide) ?_
    subst h
    exact w_ireturn (by decide +kernel) (w_okI (by decide +kernel))
  · obtain ⟨M6, hLM6, hr7, h⟩ := h
    refine w_hV (E := 1) (t := 17) (idx := 96) (cal := 125) (na := 2) (nl := 3) (as := [.int x1, .int x2]) (rest := [.int 0, .ref 497]) hL (by decide +kernel) (by decide +kernel) (at_0) (by decide +kernel) rfl rfl rfl (Nat.le_of_ble_eq_true rfl) (by decide +kernel) (by decide +kernel) (by decide +kernel) hr7 ?_
    refine w_astore (n := 19) (i := 4) (l1' := [some (.ref 0), some (.int x1), some (.int x2), some (.ref 497), some (.ref (3000000 + ak_C M6))]) (l2' := []) (by decide +kernel) rfl (Nat.le_of_ble_eq_true rfl) rfl rfl ?_
    refine w_iconst (n := 20) (v := 2) (x := 2) (by decide +kernel) rfl (by decide) ?_
    subst h
    exact w_ireturn (by decide +kernel) (w_okI (by decide +kernel))
theorem t_350 {X : ak_X} {M : ak_M} {r : ak_O × ak_M} (hL : ab_lay M) (x1 : Int32) (x2 : Int32) (h : (((∃ (v2 : Int32) (M1 : ak_M), ab_lay M1 ∧ rn X 126 [.ref 0, .int x1, .int x2] M (.inl (some (.int v2)), M1) ∧ r = (.inl (some (.int 0)), ak_sL M1 497 0 (v2.toInt64)))) ∨ (∃ (M4 : ak_M), ab_lay M4 ∧ rn X 126 [.ref 0, .int x1, .int x2] M (.inr 0, M4) ∧ r = (.inl (some (.int 1)), ak_use M4 1 0)) ∨ (∃ (M6 : ak_M), ab_lay M6 ∧ rn X 126 [.ref 0, .int x1, .int x2] M (.inr 1, M6) ∧ r = (.inl (some (.int 2)), ak_use M6 1 0)))) : rn X 350 [.ref 0, .int x1, .int x2, .ref 497] M r := by
  refine w_rn (nL := 5) (l1 := [some (.ref 0), some (.int x1), some (.int x2), some (.ref 497), none]) (by decide +kernel) rfl rfl ?_
  refine w_aload_n (n := 1) (i := 3) (by decide +kernel) rfl rfl ?_
  refine w_iconst (n := 2) (v := 0) (x := 0) (by decide +kernel) rfl (by decide) ?_
  refine w_aload_n (n := 3) (i := 0) (by decide +kernel) rfl rfl ?_
  refine w_iload_n (n := 4) (i := 1) (by decide +kernel) rfl rfl ?_
  refine w_iload_n (n := 5) (i := 2) (by decide +kernel) rfl rfl ?_
  rcases h with h | h | h
  · obtain ⟨v2, M1, hLM1, hr3, h⟩ := h
    refine w_cV (n := 8) (idx := 99) (cal := 126) (na := 2) (nl := 3) (as := [.int x1, .int x2]) (rest := [.int 0, .ref 497]) hL (by decide +kernel) (by decide +kernel) (at_0) (by decide +kernel) rfl rfl rfl (Nat.le_of_ble_eq_true rfl) rfl hr3 ?_
    refine w_i2l (n := 9) (by decide +kernel) rfl ?_
    refine w_last (n := 10) (i := 0) hLM1 (by decide +kernel) (at_497) (an_497) ⟨by decide, by decide⟩ rfl ?_
    refine w_goto (n := 21) (off := 11) (by decide +kernel) (by decide) ?_
    refine w_iconst (n := 22) (v := 0) (x := 0) (by decide +kernel) rfl (by decide) ?_
    subst h
    exact w_ireturn (by decide +kernel) (w_okI (by decide +kernel))
  · obtain ⟨M4, hLM4, hr5, h⟩ := h
    refine w_hV (E := 0) (t := 13) (idx := 99) (cal := 126) (na := 2) (nl := 3) (as := [.int x1, .int x2]) (rest := [.int 0, .ref 497]) hL (by decide +kernel) (by decide +kernel) (at_0) (by decide +kernel) rfl rfl rfl (Nat.le_of_ble_eq_true rfl) (by decide +kernel) (by decide +kernel) (by decide +kernel) hr5 ?_
    refine w_astore (n := 15) (i := 4) (l1' := [some (.ref 0), some (.int x1), some (.int x2), some (.ref 497), some (.ref (3000000 + ak_C M4))]) (l2' := []) (by decide +kernel) rfl (Nat.le_of_ble_eq_true rfl) rfl rfl ?_
    refine w_iconst (n := 16) (v := 1) (x := 1) (by decide +kernel) rfl (by decide) ?_
    subst h
    exact w_ireturn (by decide +kernel) (w_okI (by decide +kernel))
  · obtain ⟨M6, hLM6, hr7, h⟩ := h
    refine w_hV (E := 1) (t := 17) (idx := 99) (cal := 126) (na := 2) (nl := 3) (as := [.int x1, .int x2]) (rest := [.int 0, .ref 497]) hL (by decide +kernel) (by decide +kernel) (at_0) (by decide +kernel) rfl rfl rfl (Nat.le_of_ble_eq_true rfl) (by decide +kernel) (by decide +kernel) (by decide +kernel) hr7 ?_
    refine w_astore (n := 19) (i := 4) (l1' := [some (.ref 0), some (.int x1), some (.int x2), some (.ref 497), some (.ref (3000000 + ak_C M6))]) (l2' := []) (by decide +kernel) rfl (Nat.le_of_ble_eq_true rfl) rfl rfl ?_
    refine w_iconst (n := 20) (v := 2) (x := 2) (by decide +kernel) rfl (by decide) ?_
    subst h
    exact w_ireturn (by decide +kernel) (w_okI (by decide +kernel))
theorem t_351 {X : ak_X} {M : ak_M} {r : ak_O × ak_M} (hL : ab_lay M) (x1 : Int32) (x2 : Int32) (h : (((∃ (v2 : Int32) (M1 : ak_M), ab_lay M1 ∧ rn X 127 [.ref 0, .int x1, .int x2] M (.inl (some (.int v2)), M1) ∧ r = (.inl (some (.int 0)), ak_sL M1 497 0 (v2.toInt64)))) ∨ (∃ (M4 : ak_M), ab_lay M4 ∧ rn X 127 [.ref 0, .int x1, .int x2] M (.inr 0, M4) ∧ r = (.inl (some (.int 1)), ak_use M4 1 0)) ∨ (∃ (M6 : ak_M), ab_lay M6 ∧ rn X 127 [.ref 0, .int x1, .int x2] M (.inr 1, M6) ∧ r = (.inl (some (.int 2)), ak_use M6 1 0)))) : rn X 351 [.ref 0, .int x1, .int x2, .ref 497] M r := by
  refine w_rn (nL := 5) (l1 := [some (.ref 0), some (.int x1), some (.int x2), some (.ref 497), none]) (by decide +kernel) rfl rfl ?_
  refine w_aload_n (n := 1) (i := 3) (by decide +kernel) rfl rfl ?_
  refine w_iconst (n := 2) (v := 0) (x := 0) (by decide +kernel) rfl (by decide) ?_
  refine w_aload_n (n := 3) (i := 0) (by decide +kernel) rfl rfl ?_
  refine w_iload_n (n := 4) (i := 1) (by decide +kernel) rfl rfl ?_
  refine w_iload_n (n := 5) (i := 2) (by decide +kernel) rfl rfl ?_
  rcases h with h | h | h
  · obtain ⟨v2, M1, hLM1, hr3, h⟩ := h
    refine w_cV (n := 8) (idx := 102) (cal := 127) (na := 2) (nl := 3) (as := [.int x1, .int x2]) (rest := [.int 0, .ref 497]) hL (by decide +kernel) (by decide +kernel) (at_0) (by decide +kernel) rfl rfl rfl (Nat.le_of_ble_eq_true rfl) rfl hr3 ?_
    refine w_i2l (n := 9) (by decide +kernel) rfl ?_
    refine w_last (n := 10) (i := 0) hLM1 (by decide +kernel) (at_497) (an_497) ⟨by decide, by decide⟩ rfl ?_
    refine w_goto (n := 21) (off := 11) (by decide +kernel) (by decide) ?_
    refine w_iconst (n := 22) (v := 0) (x := 0) (by decide +kernel) rfl (by decide) ?_
    subst h
    exact w_ireturn (by decide +kernel) (w_okI (by decide +kernel))
  · obtain ⟨M4, hLM4, hr5, h⟩ := h
    refine w_hV (E := 0) (t := 13) (idx := 102) (cal := 127) (na := 2) (nl := 3) (as := [.int x1, .int x2]) (rest := [.int 0, .ref 497]) hL (by decide +kernel) (by decide +kernel) (at_0) (by decide +kernel) rfl rfl rfl (Nat.le_of_ble_eq_true rfl) (by decide +kernel) (by decide +kernel) (by decide +kernel) hr5 ?_
    refine w_astore (n := 15) (i := 4) (l1' := [some (.ref 0), some (.int x1), some (.int x2), some (.ref 497), some (.ref (3000000 + ak_C M4))]) (l2' := []) (by decide +kernel) rfl (Nat.le_of_ble_eq_true rfl) rfl rfl ?_
    refine w_iconst (n := 16) (v := 1) (x := 1) (by decide +kernel) rfl (by decide) ?_
    subst h
    exact w_ireturn (by decide +kernel) (w_okI (by decide +kernel))
  · obtain ⟨M6, hLM6, hr7, h⟩ := h
    refine w_hV (E := 1) (t := 17) (idx := 102) (cal := 127) (na := 2) (nl := 3) (as := [.int x1, .int x2]) (rest := [.int 0, .ref 497]) hL (by decide +kernel) (by decide +kernel) (at_0) (by decide +kernel) rfl rfl rfl (Nat.le_of_ble_eq_true rfl) (by decide +kernel) (by decide +kernel) (by decide +kernel) hr7 ?_
    refine w_astore (n := 19) (i := 4) (l1' := [some (.ref 0), some (.int x1), some (.int x2), some (.ref 497), some (.ref (3000000 + ak_C M6))]) (l2' := []) (by decide +kernel) rfl (Nat.le_of_ble_eq_true rfl) rfl rfl ?_
    refine w_iconst (n := 20) (v := 2) (x := 2) (by decide +kernel) rfl (by decide) ?_
    subst h
    exact w_ireturn (by decide +kernel) (w_okI (by decide +kernel))
theorem t_352 {X : ak_X} {M : ak_M} {r : ak_O × ak_M} (hL : ab_lay M) (x1 : Int32) (h : (((∃ (v2 : Int32) (M1 : ak_M), ab_lay M1 ∧ rn X 128 [.ref 0, .int x1] M (.inl (some (.int v2)), M1) ∧ r = (.inl (some (.int 0)), ak_sL M1 497 0 (v2.toInt64)))) ∨ (∃ (M4 : ak_M), ab_lay M4 ∧ rn X 128 [.ref 0, .int x1] M (.inr 1, M4) ∧ r = (.inl (some (.int 1)), ak_use M4 1 0)) ∨ (∃ (M6 : ak_M), ab_lay M6 ∧ rn X 128 [.ref 0, .int x1] M (.inr 2, M6) ∧ r = (.inl (some (.int 2)), ak_use M6 1 0)))) : rn X 352 [.ref 0, .int x1, .ref 497] M r := by
  refine w_rn (nL := 4) (l1 := [some (.ref 0), some (.int x1), some (.ref 497), none]) (by decide +kernel) rfl rfl ?_
  refine w_aload_n (n := 1) (i := 2) (by decide +kernel) rfl rfl ?_
  refine w_iconst (n := 2) (v := 0) (x := 0) (by decide +kernel) rfl (by decide) ?_
  refine w_aload_n (n := 3) (i := 0) (by decide +kernel) rfl rfl ?_
  refine w_iload_n (n := 4) (i := 1) (by decide +kernel) rfl rfl ?_
  rcases h with h | h | h
  · obtain ⟨v2, M1, hLM1, hr3, h⟩ := h
    refine w_cV (n := 7) (idx := 105) (cal := 128) (na := 1) (nl := 2) (as := [.int x1]) (rest := [.int 0, .ref 497]) hL (by decide +kernel) (by decide +kernel) (at_0) (by decide +kernel) rfl rfl rfl (Nat.le_of_ble_eq_true rfl) rfl hr3 ?_
    refine w_i2l (n := 8) (by decide +kernel) rfl ?_
    refine w_last (n := 9) (i := 0) hLM1 (by decide +kernel) (at_497) (an_497) ⟨by decide, by decide⟩ rfl ?_
    refine w_goto (n := 18) (off := 9) (by decide +kernel) (by decide) ?_
    refine w_iconst (n := 19) (v := 0) (x := 0) (by decide +kernel) rfl (by decide) ?_
    subst h
    exact w_ireturn (by decide +kernel) (w_okI (by decide +kernel))
  · obtain ⟨M4, hLM4, hr5, h⟩ := h
    refine w_hV (E := 1) (t := 12) (idx := 105) (cal := 128) (na := 1) (nl := 2) (as := [.int x1]) (rest := [.int 0, .ref 497]) hL (by decide +kernel) (by decide +kernel) (at_0) (by decide +kernel) rfl rfl rfl (Nat.le_of_ble_eq_true rfl) (by decide +kernel) (by decide +kernel) (by decide +kernel) hr5 ?_
    refine w_astore_n (n := 13) (i := 3) (l1' := [some (.ref 0), some (.int x1), some (.ref 497), some (.ref (3000000 + ak_C M4))]) (l2' := []) (by decide +kernel) rfl (Nat.le_of_ble_eq_true rfl) rfl rfl ?_
    refine w_iconst (n := 14) (v := 1) (x := 1) (by decide +kernel) rfl (by decide) ?_
    subst h
    exact w_ireturn (by decide +kernel) (w_okI (by decide +kernel))
  · obtain ⟨M6, hLM6, hr7, h⟩ := h
    refine w_hV (E := 2) (t := 15) (idx := 105) (cal := 128) (na := 1) (nl := 2) (as := [.int x1]) (rest := [.int 0, .ref 497]) hL (by decide +kernel) (by decide +kernel) (at_0) (by decide +kernel) rfl rfl rfl (Nat.le_of_ble_eq_true rfl) (by decide +kernel) (by decide +kernel) (by decide +kernel) hr7 ?_
    refine w_astore_n (n := 16) (i := 3) (l1' := [some (.ref 0), some (.int x1), some (.ref 497), some (.ref (3000000 + ak_C M6))]) (l2' := []) (by decide +kernel) rfl (Nat.le_of_ble_eq_true rfl) rfl rfl ?_
    refine w_iconst (n := 17) (v := 2) (x := 2) (by decide +kernel) rfl (by decide) ?_
    subst h
    exact w_ireturn (by decide +kernel) (w_okI (by decide +kernel))
theorem t_353 {X : ak_X} {M : ak_M} {r : ak_O × ak_M} (hL : ab_lay M) (x1 : Int32) (h : (((∃ (v2 : Int32) (M1 : ak_M), ab_lay M1 ∧ rn X 129 [.ref 0, .int x1] M (.inl (some (.int v2)), M1) ∧ r = (.inl (some (.int 0)), ak_sL M1 497 0 (v2.toInt64)))) ∨ (∃ (M4 : ak_M), ab_lay M4 ∧ rn X 129 [.ref 0, .int x1] M (.inr 0, M4) ∧ r = (.inl (some (.int 1)), ak_use M4 1 0)) ∨ (∃ (M6 : ak_M), ab_lay M6 ∧ rn X 129 [.ref 0, .int x1] M (.inr 2, M6) ∧ r = (.inl (some (.int 2)), ak_use M6 1 0)))) : rn X 353 [.ref 0, .int x1, .ref 497] M r := by
  refine w_rn (nL := 4) (l1 := [some (.ref 0), some (.int x1), some (.ref 497), none]) (by decide +kernel) rfl rfl ?_
  refine w_aload_n (n := 1) (i := 2) (by decide +kernel) rfl rfl ?_
  refine w_iconst (n := 2) (v := 0) (x := 0) (by decide +kernel) rfl (by decide) ?_
  refine w_aload_n (n := 3) (i := 0) (by decide +kernel) rfl rfl ?_
  refine w_iload_n (n := 4) (i := 1) (by decide +kernel) rfl rfl ?_
  rcases h with h | h | h
  · obtain ⟨v2, M1, hLM1, hr3, h⟩ := h
    refine w_cV (n := 7) (idx := 108) (cal := 129) (na := 1) (nl := 2) (as := [.int x1]) (rest := [.int 0, .ref 497]) hL (by decide +kernel) (by decide +kernel) (at_0) (by decide +kernel) rfl rfl rfl (Nat.le_of_ble_eq_true rfl) rfl hr3 ?_
    refine w_i2l (n := 8) (by decide +kernel) rfl ?_
    refine w_last (n := 9) (i := 0) hLM1 (by decide +kernel) (at_497) (an_497) ⟨by decide, by decide⟩ rfl ?_
    refine w_goto (n := 18) (off := 9) (by decide +kernel) (by decide) ?_
    refine w_iconst (n := 19) (v := 0) (x := 0) (by decide +kernel) rfl (by decide) ?_
    subst h
    exact w_ireturn (by decide +kernel) (w_okI (by decide +kernel))
  · obtain ⟨M4, hLM4, hr5, h⟩ := h
    refine w_hV (E := 0) (t := 12) (idx := 108) (cal := 129) (na := 1) (nl := 2) (as := [.int x1]) (rest := [.int 0, .ref 497]) hL (by decide +kernel) (by decide +kernel) (at_0) (by decide +kernel) rfl rfl rfl (Nat.le_of_ble_eq_true rfl) (by decide +kernel) (by decide +kernel) (by decide +kernel) hr5 ?_
    refine w_astore_n (n := 13) (i := 3) (l1' := [some (.ref 0), some (.int x1), some (.ref 497), some (.ref (3000000 + ak_C M4))]) (l2' := []) (by decide +kernel) rfl (Nat.le_of_ble_eq_true rfl) rfl rfl ?_
    refine w_iconst (n := 14) (v := 1) (x := 1) (by decide +kernel) rfl (by decide) ?_
    subst h
    exact w_ireturn (by decide +kernel) (w_okI (by decide +kernel))
  · obtain ⟨M6, hLM6, hr7, h⟩ := h
    refine w_hV (E := 2) (t := 15) (idx := 108) (cal := 129) (na := 1) (nl := 2) (as := [.int x1]) (rest := [.int 0, .ref 497]) hL (by decide +kernel) (by decide +kernel) (at_0) (by decide +kernel) rfl rfl rfl (Nat.le_of_ble_eq_true rfl) (by decide +kernel) (by decide +kernel) (by decide +kernel) hr7 ?_
    refine w_astore_n (n := 16) (i := 3) (l1' := [some (.ref 0), some (.int x1), some (.ref 497), some (.ref (3000000 + ak_C M6))]) (l2' := []) (by decide +kernel) rfl (Nat.le_of_ble_eq_true rfl) rfl rfl ?_
    refine w_iconst (n := 17) (v := 2) (x := 2) (by decide +kernel) rfl (by decide) ?_
    subst h
    exact w_ireturn (by decide +kernel) (w_okI (by decide +kernel))
theorem t_354 {X : ak_X} {M : ak_M} {r : ak_O × ak_M} (hL : ab_lay M) (x1 : Int32) (x2 : Int32) (h : (((∃ (v2 : Int32) (M1 : ak_M), ab_lay M1 ∧ rn X 130 [.ref 0, .int x1, .int x2] M (.inl (some (.int v2)), M1) ∧ r = (.inl (some (.int 0)), ak_sL M1 497 0 (v2.toInt64)))) ∨ (∃ (M4 : ak_M), ab_lay M4 ∧ rn X 130 [.ref 0, .int x1, .int x2] M (.inr 0, M4) ∧ r = (.inl (some (.int 1)), ak_use M4 1 0)) ∨ (∃ (M6 : ak_M), ab_lay M6 ∧ rn X 130 [.ref 0, .int x1, .int x2] M (.inr 1, M6) ∧ r = (.inl (some (.int 2)), ak_use M6 1 0)))) : rn X 354 [.ref 0, .int x1, .int x2, .ref 497] M r := by
  refine w_rn (nL := 5) (l1 := [some (.ref 0), some (.int x1), some (.int x2), some (.ref 497), none]) (by decide +kernel) rfl rfl ?_
  refine w_aload_n (n := 1) (i := 3) (by decide +kernel) rfl rfl ?_
  refine w_iconst (n := 2) (v := 0) (x := 0) (by decide +kernel) rfl (by decide) ?_
  refine w_aload_n (n := 3) (i := 0) (by decide +kernel) rfl rfl ?_
  refine w_iload_n (n := 4) (i := 1) (by decide +kernel) rfl rfl ?_
  refine w_iload_n (n := 5) (i := 2) (by decide +kernel) rfl rfl ?_
  rcases h with h | h | h
  · obtain ⟨v2, M1, hLM1, hr3, h⟩ := h
    refine w_cV (n := 8) (idx := 111) (cal := 130) (na := 2) (nl := 3) (as := [.int x1, .int x2]) (rest := [.int 0, .ref 497]) hL (by decide +kernel) (by decide +kernel) (at_0) (by decide +kernel) rfl rfl rfl (Nat.le_of_ble_eq_true rfl) rfl hr3 ?_
    refine w_i2l (n := 9) (by decide +kernel) rfl ?_
    refine w_last (n := 10) (i := 0) hLM1 (by decide +kernel) (at_497) (an_497) ⟨by decide, by decide⟩ rfl ?_
    refine w_goto (n := 21) (off := 11) (by decide +kernel) (by decide) ?_
    refine w_iconst (n := 22) (v := 0) (x := 0) (by decide +kernel) rfl (by decide) ?_
    subst h
    exact w_ireturn (by decide +kernel) (w_okI (by decide +kernel))
  · obtain ⟨M4, hLM4, hr5, h⟩ := h
    refine w_hV (E := 0) (t := 13) (idx := 111) (cal := 130) (na := 2) (nl := 3) (as := [.int x1, .int x2]) (rest := [.int 0, .ref 497]) hL (by decide +kernel) (by decide +kernel) (at_0) (by decide +kernel) rfl rfl rfl (Nat.le_of_ble_eq_true rfl) (by decide +kernel) (by decide +kernel) (by decide +kernel) hr5 ?_
    refine w_astore (n := 15) (i := 4) (l1' := [some (.ref 0), some (.int x1), some (.int x2), some (.ref 497), some (.ref (3000000 + ak_C M4))]) (l2' := []) (by decide +kernel) rfl (Nat.le_of_ble_eq_true rfl) rfl rfl ?_
    refine w_iconst (n := 16) (v := 1) (x := 1) (by decide +kernel) rfl (by decide) ?_
    subst h
    exact w_ireturn (by decide +kernel) (w_okI (by decide +kernel))
  · obtain ⟨M6, hLM6, hr7, h⟩ := h
    refine w_hV (E := 1) (t := 17) (idx := 111) (cal := 130) (na := 2) (nl := 3) (as := [.int x1, .int x2]) (rest := [.int 0, .ref 497]) hL (by decide +kernel) (by decide +kernel) (at_0) (by decide +kernel) rfl rfl rfl (Nat.le_of_ble_eq_true rfl) (by decide +kernel) (by decide +kernel) (by decide +kernel) hr7 ?_
    refine w_astore (n := 19) (i := 4) (l1' := [some (.ref 0), some (.int x1), some (.int x2), some (.ref 497), some (.ref (3000000 + ak_C M6))]) (l2' := []) (by decide +kernel) rfl (Nat.le_of_ble_eq_true rfl) rfl rfl ?_
    refine w_iconst (n := 20) (v := 2) (x := 2) (by decide +kernel) rfl (by decide) ?_
    subst h
    exact w_ireturn (by decide +kernel) (w_okI (by decide +kernel))
theorem t_355 {X : ak_X} {M : ak_M} {r : ak_O × ak_M} (hL : ab_lay M) (x1 : Int32) (h : (((∃ (v2 : Int32) (M1 : ak_M), ab_lay M1 ∧ rn X 131 [.ref 0, .int x1] M (.inl (some (.int v2)), M1) ∧ r = (.inl (some (.int 0)), ak_sL M1 497 0 (v2.toInt64)))) ∨ (∃ (M4 : ak_M), ab_lay M4 ∧ rn X 131 [.ref 0, .int x1] M (.inr 0, M4) ∧ r = (.inl (some (.int 1)), ak_use M4 1 0)) ∨ (∃ (M6 : ak_M), ab_lay M6 ∧ rn X 131 [.ref 0, .int x1] M (.inr 2, M6) ∧ r = (.inl (some (.int 2)), ak_use M6 1 0)))) : rn X 355 [.ref 0, .int x1, .ref 497] M r := by
  refine w_rn (nL := 4) (l1 := [some (.ref 0), some (.int x1), some (.ref 497), none]) (by decide +kernel) rfl rfl ?_
  refine w_aload_n (n := 1) (i := 2) (by decide +kernel) rfl rfl ?_
  refine w_iconst (n := 2) (v := 0) (x := 0) (by decide +kernel) rfl (by decide) ?_
  refine w_aload_n (n := 3) (i := 0) (by decide +kernel) rfl rfl ?_
  refine w_iload_n (n := 4) (i := 1) (by decide +kernel) rfl rfl ?_
  rcases h with h | h | h
  · obtain ⟨v2, M1, hLM1, hr3, h⟩ := h
    refine w_cV (n := 7) (idx := 114) (cal := 131) (na := 1) (nl := 2) (as := [.int x1]) (rest := [.int 0, .ref 497]) hL (by decide +kernel) (by decide +kernel) (at_0) (by decide +kernel) rfl rfl rfl (Nat.le_of_ble_eq_true rfl) rfl hr3 ?_
    refine w_i2l (n := 8) (by decide +kernel) rfl ?_
    refine w_last (n := 9) (i := 0) hLM1 (by decide +kernel) (at_497) (an_497) ⟨by decide, by decide⟩ rfl ?_
    refine w_goto (n := 18) (off := 9) (by decide +kernel) (by decide) ?_
    refine w_iconst (n := 19) (v := 0) (x := 0) (by decide +kernel) rfl (by decide) ?_
    subst h
    exact w_ireturn (by decide +kernel) (w_okI (by decide +kernel))
  · obtain ⟨M4, hLM4, hr5, h⟩ := h
    refine w_hV (E := 0) (t := 12) (idx := 114) (cal := 131) (na := 1) (nl := 2) (as := [.int x1]) (rest := [.int 0, .ref 497]) hL (by decide +kernel) (by decide +kernel) (at_0) (by decide +kernel) rfl rfl rfl (Nat.le_of_ble_eq_true rfl) (by decide +kernel) (by decide +kernel) (by decide +kernel) hr5 ?_
    refine w_astore_n (n := 13) (i := 3) (l1' := [some (.ref 0), some (.int x1), some (.ref 497), some (.ref (3000000 + ak_C M4))]) (l2' := []) (by decide +kernel) rfl (Nat.le_of_ble_eq_true rfl) rfl rfl ?_
    refine w_iconst (n := 14) (v := 1) (x := 1) (by decide +kernel) rfl (by decide) ?_
    subst h
    exact w_ireturn (by decide +kernel) (w_okI (by decide +kernel))
  · obtain ⟨M6, hLM6, hr7, h⟩ := h
    refine w_hV (E := 2) (t := 15) (idx := 114) (cal := 131) (na := 1) (nl := 2) (as := [.int x1]) (rest := [.int 0, .ref 497]) hL (by decide +kernel) (by decide +kernel) (at_0) (by decide +kernel) rfl rfl rfl (Nat.le_of_ble_eq_true rfl) (by decide +kernel) (by decide +kernel) (by decide +kernel) hr7 ?_
    refine w_astore_n (n := 16) (i := 3) (l1' := [some (.ref 0), some (.int x1), some (.ref 497), some (.ref (3000000 + ak_C M6))]) (l2' := []) (by decide +kernel) rfl (Nat.le_of_ble_eq_true rfl) rfl rfl ?_
    refine w_iconst (n := 17) (v := 2) (x := 2) (by decide +kernel) rfl (by decide) ?_
    subst h
    exact w_ireturn (by decide +kernel) (w_okI (by decide +kernel))
theorem t_356 {X : ak_X} {M : ak_M} {r : ak_O × ak_M} (hL : ab_lay M) (x1 : Int32) (x2 : Int32) (h : (((∃ (v2 : Int32) (M1 : ak_M), ab_lay M1 ∧ rn X 132 [.ref 0, .int x1, .int x2] M (.inl (some (.int v2)), M1) ∧ r = (.inl (some (.int 0)), ak_sL M1 497 0 (v2.toInt64)))) ∨ (∃ (M4 : ak_M), ab_lay M4 ∧ rn X 132 [.ref 0, .int x1, .int x2] M (.inr 0, M4) ∧ r = (.inl (some (.int 1)), ak_use M4 1 0)) ∨ (∃ (M6 : ak_M), ab_lay M6 ∧ rn X 132 [.ref 0, .int x1, .int x2] M (.inr 1, M6) ∧ r = (.inl (some (.int 2)), ak_use M6 1 0)) ∨ (∃ (M8 : ak_M), ab_lay M8 ∧ rn X 132 [.ref 0, .int x1, .int x2] M (.inr 2, M8) ∧ r = (.inl (some (.int 3)), ak_use M8 1 0)))) : rn X 356 [.ref 0, .int x1, .int x2, .ref 497] M r := by
  refine w_rn (nL := 5) (l1 := [some (.ref 0), some (.int x1), some (.int x2), some (.ref 497), none]) (by decide +kernel) rfl rfl ?_
  refine w_aload_n (n := 1) (i := 3) (by decide +kernel) rfl rfl ?_
  refine w_iconst (n := 2) (v := 0) (x := 0) (by decide +kernel) rfl (by decide) ?_
  refine w_aload_n (n := 3) (i := 0) (by decide +kernel) rfl rfl ?_
  refine w_iload_n (n := 4) (i := 1) (by decide +kernel) rfl rfl ?_
  refine w_iload_n (n := 5) (i := 2) (by decide +kernel) rfl rfl ?_
  rcases h with h | h | h | h
  · obtain ⟨v2, M1, hLM1, hr3, h⟩ := h
    refine w_cV (n := 8) (idx := 117) (cal := 132) (na := 2) (nl := 3) (as := [.int x1, .int x2]) (rest := [.int 0, .ref 497]) hL (by decide +kernel) (by decide +kernel) (at_0) (by decide +kernel) rfl rfl rfl (Nat.le_of_ble_eq_true rfl) rfl hr3 ?_
    refine w_i2l (n := 9) (by decide +kernel) rfl ?_
    refine w_last (n := 10) (i := 0) hLM1 (by decide +kernel) (at_497) (an_497) ⟨by decide, by decide⟩ rfl ?_
    refine w_goto (n := 25) (off := 15) (by decide +kernel) (by decide) ?_
    refine w_iconst (n := 26) (v := 0) (x := 0) (by decide +kernel) rfl (by decide) ?_
    subst h
    exact w_ireturn (by decide +kernel) (w_okI (by decide +kernel))
  · obtain ⟨M4, hLM4, hr5, h⟩ := h
    refine w_hV (E := 0) (t := 13) (idx := 117) (cal := 132) (na := 2) (nl := 3) (as := [.int x1, .int x2]) (rest := [.int 0, .ref 497]) hL (by decide +kernel) (by decide +kernel) (at_0) (by decide +kernel) rfl rfl rfl (Nat.le_of_ble_eq_true rfl) (by decide +kernel) (by decide +kernel) (by decide +kernel) hr5 ?_
    refine w_astore (n := 15) (i := 4) (l1' := [some (.ref 0), some (.int x1), some (.int x2), some (.ref 497), some (.ref (3000000 + ak_C M4))]) (l2' := []) (by decide +kernel) rfl (Nat.le_of_ble_eq_true rfl) rfl rfl ?_
    refine w_iconst (n := 16) (v := 1) (x := 1) (by decide +kernel) rfl (by decide) ?_
    subst h
    exact w_ireturn (by decide +kernel) (w_okI (by decide +kernel))
  · obtain ⟨M6, hLM6, hr7, h⟩ := h
    refine w_hV (E := 1) (t := 17) (idx := 117) (cal := 132) (na := 2) (nl := 3) (as := [.int x1, .int x2]) (rest := [.int 0, .ref 497]) hL (by decide +kernel) (by decide +kernel) (at_0) (by decide +kernel) rfl rfl rfl (Nat.le_of_ble_eq_true rfl) (by decide +kernel) (by decide +kernel) (by decide +kernel) hr7 ?_
    refine w_astore (n := 19) (i := 4) (l1' := [some (.ref 0), some (.int x1), some (.int x2), some (.ref 497), some (.ref (3000000 + ak_C M6))]) (l2' := []) (by decide +kernel) rfl (Nat.le_of_ble_eq_true rfl) rfl rfl ?_
    refine w_iconst (n := 20) (v := 2) (x := 2) (by decide +kernel) rfl (by decide) ?_
    subst h
    exact w_ireturn (by decide +kernel) (w_okI (by decide +kernel))
  · obtain ⟨M8, hLM8, hr9, h⟩ := h
    refine w_hV (E := 2) (t := 21) (idx := 117) (cal := 132) (na := 2) (nl := 3) (as := [.int x1, .int x2]) (rest := [.int 0, .ref 497]) hL (by decide +kernel) (by decide +kernel) (at_0) (by decide +kernel) rfl rfl rfl (Nat.le_of_ble_eq_true rfl) (by decide +kernel) (by decide +kernel) (by decide +kernel) hr9 ?_
    refine w_astore (n := 23) (i := 4) (l1' := [some (.ref 0), some (.int x1), some (.int x2), some (.ref 497), some (.ref (3000000 + ak_C M8))]) (l2' := []) (by decide +kernel) rfl (Nat.le_of_ble_eq_true rfl) rfl rfl ?_
    refine w_iconst (n := 24) (v := 3) (x := 3) (by decide +kernel) rfl (by decide) ?_
    subst h
    exact w_ireturn (by decide +kernel) (w_okI (by decide +kernel))
theorem t_357 {X : ak_X} {M : ak_M} {r : ak_O × ak_M} (hL : ab_lay M) (x1 : Int32) (x2 : Int32) (x3 : Int32) (h : (((∃ (v2 : Int32) (M1 : ak_M), ab_lay M1 ∧ rn X 133 [.ref 0, .int x1, .int x2, .int x3] M (.inl (some (.int v2)), M1) ∧ r = (.inl (some (.int 0)), ak_sL M1 497 0 (v2.toInt64)))) ∨ (∃ (M4 : ak_M), ab_lay M4 ∧ rn X 133 [.ref 0, .int x1, .int x2, .int x3] M (.inr 0, M4) ∧ r = (.inl (some (.int 1)), ak_use M4 1 0)) ∨ (∃ (M6 : ak_M), ab_lay M6 ∧ rn X 133 [.ref 0, .int x1, .int x2, .int x3] M (.inr 1, M6) ∧ r = (.inl (some (.int 2)), ak_use M6 1 0)))) : rn X 357 [.ref 0, .int x1, .int x2, .int x3, .ref 497] M r := by
  refine w_rn (nL := 6) (l1 := [some (.ref 0), some (.int x1), some (.int x2), some (.int x3), some (.ref 497), none]) (by decide +kernel) rfl rfl ?_
  refine w_aload (n := 2) (i := 4) (by decide +kernel) rfl rfl ?_
  refine w_iconst (n := 3) (v := 0) (x := 0) (by decide +kernel) rfl (by decide) ?_
  refine w_aload_n (n := 4) (i := 0) (by decide +kernel) rfl rfl ?_
  refine w_iload_n (n := 5) (i := 1) (by decide +kernel) rfl rfl ?_
  refine w_iload_n (n := 6) (i := 2) (by decide +kernel) rfl rfl ?_
  refine w_iload_n (n := 7) (i := 3) (by decide +kernel) rfl rfl ?_
  rcases h with h | h | h
  · obtain ⟨v2, M1, hLM1, hr3, h⟩ := h
    refine w_cV (n := 10) (idx := 120) (cal := 133) (na := 3) (nl := 4) (as := [.int x1, .int x2, .int x3]) (rest := [.int 0, .ref 497]) hL (by decide +kernel) (by decide +kernel) (at_0) (by decide +kernel) rfl rfl rfl (Nat.le_of_ble_eq_true rfl) rfl hr3 ?_
    refine w_i2l (n := 11) (by decide +kernel) rfl ?_
    refine w_last (n := 12) (i := 0) hLM1 (by decide +kernel) (at_497) (an_497) ⟨by decide, by decide⟩ rfl ?_
    refine w_goto (n := 23) (off := 11) (by decide +kernel) (by decide) ?_
    refine w_iconst (n := 24) (v := 0) (x := 0) (by decide +kernel) rfl (by decide) ?_
    subst h
    exact w_ireturn (by decide +kernel) (w_okI (by decide +kernel))
  · obtain ⟨M4, hLM4, hr5, h⟩ := h
    refine w_hV (E := 0) (t := 15) (idx := 120) (cal := 133) (na := 3) (nl := 4) (as := [.int x1, .int x2, .int x3]) (rest := [.int 0, .ref 497]) hL (by decide +kernel) (by decide +kernel) (at_0) (by decide +kernel) rfl rfl rfl (Nat.le_of_ble_eq_true rfl) (by decide +kernel) (by decide +kernel) (by decide +kernel) hr5 ?_
    refine w_astore (n := 17) (i := 5) (l1' := [some (.ref 0), some (.int x1), some (.int x2), some (.int x3), some (.ref 497), some (.ref (3000000 + ak_C M4))]) (l2' := []) (by decide +kernel) rfl (Nat.le_of_ble_eq_true rfl) rfl rfl ?_
    refine w_iconst (n := 18) (v := 1) (x := 1) (by decide +kernel) rfl (by decide) ?_
    subst h
    exact w_ireturn (by decide +kernel) (w_okI (by decide +kernel))
  · obtain ⟨M6, hLM6, hr7, h⟩ := h
    refine w_hV (E := 1) (t := 19) (idx := 120) (cal := 133) (na := 3) (nl := 4) (as := [.int x1, .int x2, .int x3]) (rest := [.int 0, .ref 497]) hL (by decide +kernel) (by decide +kernel) (at_0) (by decide +kernel) rfl rfl rfl (Nat.le_of_ble_eq_true rfl) (by decide +kernel) (by decide +kernel) (by decide +kernel) hr7 ?_
    refine w_astore (n := 21) (i := 5) (l1' := [some (.ref 0), some (.int x1), some (.int x2), some (.int x3), some (.ref 497), some (.ref (3000000 + ak_C M6))]) (l2' := []) (by decide +kernel) rfl (Nat.le_of_ble_eq_true rfl) rfl rfl ?_
    refine w_iconst (n := 22) (v := 2) (x := 2) (by decide +kernel) rfl (by decide) ?_
    subst h
    exact w_ireturn (by decide +kernel) (w_okI (by decide +kernel))
theorem t_358 {X : ak_X} {M : ak_M} {r : ak_O × ak_M} (hL : ab_lay M) (x1 : Int32) (x2 : Int32) (x3 : Int32) (h : (((∃ (v2 : Int32) (M1 : ak_M), ab_lay M1 ∧ rn X 134 [.ref 0, .int x1, .int x2, .int x3] M (.inl (some (.int v2)), M1) ∧ r = (.inl (some (.int 0)), ak_sL M1 497 0 (v2.toInt64)))) ∨ (∃ (M4 : ak_M), ab_lay M4 ∧ rn X 134 [.ref 0, .int x1, .int x2, .int x3] M (.inr 0, M4) ∧ r = (.inl (some (.int 1)), ak_use M4 1 0)) ∨ (∃ (M6 : ak_M), ab_lay M6 ∧ rn X 134 [.ref 0, .int x1, .int x2, .int x3] M (.inr 1, M6) ∧ r = (.inl (some (.int 2)), ak_use M6 1 0)) ∨ (∃ (M8 : ak_M), ab_lay M8 ∧ rn X 134 [.ref 0, .int x1, .int x2, .int x3] M (.inr 2, M8) ∧ r = (.inl (some (.int 3)), ak_use M8 1 0)))) : rn X 358 [.ref 0, .int x1, .int x2, .int x3, .ref 497] M r := by
  refine w_rn (nL := 6) (l1 := [some (.ref 0), some (.int x1), some (.int x2), some (.int x3), some (.ref 497), none]) (by decide +kernel) rfl rfl ?_
  refine w_aload (n := 2) (i := 4) (by decide +kernel) rfl rfl ?_
  refine w_iconst (n := 3) (v := 0) (x := 0) (by decide +kernel) rfl (by decide) ?_
  refine w_aload_n (n := 4) (i := 0) (by decide +kernel) rfl rfl ?_
  refine w_iload_n (n := 5) (i := 1) (by decide +kernel) rfl rfl ?_
  refine w_iload_n (n := 6) (i := 2) (by decide +kernel) rfl rfl ?_
  refine w_iload_n (n := 7) (i := 3) (by decide +kernel) rfl rfl ?_
  rcases h with h | h | h | h
  · obtain ⟨v2, M1, hLM1, hr3, h⟩ := h
    refine w_cV (n := 10) (idx := 123) (cal := 134) (na := 3) (nl := 4) (as := [.int x1, .int x2, .int x3]) (rest := [.int 0, .ref 497]) hL (by decide +kernel) (by decide +kernel) (at_0) (by decide +kernel) rfl rfl rfl (Nat.le_of_ble_eq_true rfl) rfl hr3 ?_
    refine w_i2l (n := 11) (by decide +kernel) rfl ?_
    refine w_last (n := 12) (i := 0) hLM1 (by decide +kernel) (at_497) (an_497) ⟨by decide, by decide⟩ rfl ?_
    refine w_goto (n := 27) (off := 15) (by decide +kernel) (by decide) ?_
    refine w_iconst (n := 28) (v := 0) (x := 0) (by decide +kernel) rfl (by decide) ?_
    subst h
    exact w_ireturn (by decide +kernel) (w_okI (by decide +kernel))
  · obtain ⟨M4, hLM4, hr5, h⟩ := h
    refine w_hV (E := 0) (t := 15) (idx := 123) (cal := 134) (na := 3) (nl := 4) (as := [.int x1, .int x2, .int x3]) (rest := [.int 0, .ref 497]) hL (by decide +kernel) (by decide +kernel) (at_0) (by decide +kernel) rfl rfl rfl (Nat.le_of_ble_eq_true rfl) (by decide +kernel) (by decide +kernel) (by decide +kernel) hr5 ?_
    refine w_astore (n := 17) (i := 5) (l1' := [some (.ref 0), some (.int x1), some (.int x2), some (.int x3), some (.ref 497), some (.ref (3000000 + ak_C M4))]) (l2' := []) (by decide +kernel) rfl (Nat.le_of_ble_eq_true rfl) rfl rfl ?_
    refine w_iconst (n := 18) (v := 1) (x := 1) (by decide +kernel) rfl (by decide) ?_
    subst h
    exact w_ireturn (by decide +kernel) (w_okI (by decide +kernel))
  · obtain ⟨M6, hLM6, hr7, h⟩ := h
    refine w_hV (E := 1) (t := 19) (idx := 123) (cal := 134) (na := 3) (nl := 4) (as := [.int x1, .int x2, .int x3]) (rest := [.int 0, .ref 497]) hL (by decide +kernel) (by decide +kernel) (at_0) (by decide +kernel) rfl rfl rfl (Nat.le_of_ble_eq_true rfl) (by decide +kernel) (by decide +kernel) (by decide +kernel) hr7 ?_
    refine w_astore (n := 21) (i := 5) (l1' := [some (.ref 0), some (.int x1), some (.int x2), some (.int x3), some (.ref 497), some (.ref (3000000 + ak_C M6))]) (l2' := []) (by decide +kernel) rfl (Nat.le_of_ble_eq_true rfl) rfl rfl ?_
    refine w_iconst (n := 22) (v := 2) (x := 2) (by decide +kernel) rfl (by decide) ?_
    subst h
    exact w_ireturn (by decide +kernel) (w_okI (by decide +kernel))
  · obtain ⟨M8, hLM8, hr9, h⟩ := h
    refine w_hV (E := 2) (t := 23) (idx := 123) (cal := 134) (na := 3) (nl := 4) (as := [.int x1, .int x2, .int x3]) (rest := [.int 0, .ref 497]) hL (by decide +kernel) (by decide +kernel) (at_0) (by decide +kernel) rfl rfl rfl (Nat.le_of_ble_eq_true rfl) (by decide +kernel) (by decide +kernel) (by decide +kernel) hr9 ?_
    refine w_astore (n := 25) (i := 5) (l1' := [some (.ref 0), some (.int x1), some (.int x2), some (.int x3), some (.ref 497), some (.ref (3000000 + ak_C M8))]) (l2' := []) (by decide +kernel) rfl (Nat.le_of_ble_eq_true rfl) rfl rfl ?_
    refine w_iconst (n := 26) (v := 3) (x := 3) (by decide +kernel) rfl (by decide) ?_
    subst h
    exact w_ireturn (by decide +kernel) (w_okI (by decide +kernel))
theorem t_359 {X : ak_X} {M : ak_M} {r : ak_O × ak_M} (hL : ab_lay M) (x1 : Int32) (x2 : Int32) (x3 : Int32) (h : (((∃ (v2 : Int32) (M1 : ak_M), ab_lay M1 ∧ rn X 135 [.ref 0, .int x1, .int x2, .int x3] M (.inl (some (.int v2)), M1) ∧ r = (.inl (some (.int 0)), ak_sL M1 497 0 (v2.toInt64)))) ∨ (∃ (M4 : ak_M), ab_lay M4 ∧ rn X 135 [.ref 0, .int x1, .int x2, .int x3] M (.inr 0, M4) ∧ r = (.inl (some (.int 1)), ak_use M4 1 0)) ∨ (∃ (M6 : ak_M), ab_lay M6 ∧ rn X 135 [.ref 0, .int x1, .int x2, .int x3] M (.inr 1, M6) ∧ r = (.inl (some (.int 2)), ak_use M6 1 0)))) : rn X 359 [.ref 0, .int x1, .int x2, .int x3, .ref 497] M r := by
  refine w_rn (nL := 6) (l1 := [some (.ref 0), some (.int x1), some (.int x2), some (.int x3), some (.ref 497), none]) (by decide +kernel) rfl rfl ?_
  refine w_aload (n := 2) (i := 4) (by decide +kernel) rfl rfl ?_
  refine w_iconst (n := 3) (v := 0) (x := 0) (by decide +kernel) rfl (by decide) ?_
  refine w_aload_n (n := 4) (i := 0) (by decide +kernel) rfl rfl ?_
  refine w_iload_n (n := 5) (i := 1) (by decide +kernel) rfl rfl ?_
  refine w_iload_n (n := 6) (i := 2) (by decide +kernel) rfl rfl ?_
  refine w_iload_n (n := 7) (i := 3) (by decide +kernel) rfl rfl ?_
  rcases h with h | h | h
  · obtain ⟨v2, M1, hLM1, hr3, h⟩ := h
    refine w_cV (n := 10) (idx := 126) (cal := 135) (na := 3) (nl := 4) (as := [.int x1, .int x2, .int x3]) (rest := [.int 0, .ref 497]) hL (by decide +kernel) (by decide +kernel) (at_0) (by decide +kernel) rfl rfl rfl (Nat.le_of_ble_eq_true rfl) rfl hr3 ?_
    refine w_i2l (n := 11) (by decide +kernel) rfl ?_
    refine w_last (n := 12) (i := 0) hLM1 (by decide +kernel) (at_497) (an_497) ⟨by decide, by decide⟩ rfl ?_
    refine w_goto (n := 23) (off := 11) (by decide +kernel) (by decide) ?_
    refine w_iconst (n := 24) (v := 0) (x := 0) (by decide +kernel) rfl (by decide) ?_
    subst h
    exact w_ireturn (by decide +kernel) (w_okI (by decide +kernel))
  · obtain ⟨M4, hLM4, hr5, h⟩ := h
    refine w_hV (E := 0) (t := 15) (idx := 126) (cal := 135) (na := 3) (nl := 4) (as := [.int x1, .int x2, .int x3]) (rest := [.int 0, .ref 497]) hL (by decide +kernel) (by decide +kernel) (at_0) (by decide +kernel) rfl rfl rfl (Nat.le_of_ble_eq_true rfl) (by decide +kernel) (by decide +kernel) (by decide +kernel) hr5 ?_
    refine w_astore (n := 17) (i := 5) (l1' := [some (.ref 0), some (.int x1), some (.int x2), some (.int x3), some (.ref 497), some (.ref (3000000 + ak_C M4))]) (l2' := []) (by decide +kernel) rfl (Nat.le_of_ble_eq_true rfl) rfl rfl ?_
    refine w_iconst (n := 18) (v := 1) (x := 1) (by decide +kernel) rfl (by decide) ?_
    subst h
    exact w_ireturn (by decide +kernel) (w_okI (by decide +kernel))
  · obtain ⟨M6, hLM6, hr7, h⟩ := h
    refine w_hV (E := 1) (t := 19) (idx := 126) (cal := 135) (na := 3) (nl := 4) (as := [.int x1, .int x2, .int x3]) (rest := [.int 0, .ref 497]) hL (by decide +kernel) (by decide +kernel) (at_0) (by decide +kernel) rfl rfl rfl (Nat.le_of_ble_eq_true rfl) (by decide +kernel) (by decide +kernel) (by decide +kernel) hr7 ?_
    refine w_astore (n := 21) (i := 5) (l1' := [some (.ref 0), some (.int x1), some (.int x2), some (.int x3), some (.ref 497), some (.ref (3000000 + ak_C M6))]) (l2' := []) (by decide +kernel) rfl (Nat.le_of_ble_eq_true rfl) rfl rfl ?_
    refine w_iconst (n := 22) (v := 2) (x := 2) (by decide +kernel) rfl (by decide) ?_
    subst h
    exact w_ireturn (by decide +kernel) (w_okI (by decide +kernel))
theorem t_360 {X : ak_X} {M : ak_M} {r : ak_O × ak_M} (hL : ab_lay M) (x1 : Int32) (x2 : Int32) (h : (((∃ (v2 : Int32) (M1 : ak_M), ab_lay M1 ∧ rn X 136 [.ref 0, .int x1, .int x2] M (.inl (some (.int v2)), M1) ∧ r = (.inl (some (.int 0)), ak_sL M1 497 0 (v2.toInt64)))) ∨ (∃ (M4 : ak_M), ab_lay M4 ∧ rn X 136 [.ref 0, .int x1, .int x2] M (.inr 1, M4) ∧ r = (.inl (some (.int 1)), ak_use M4 1 0)))) : rn X 360 [.ref 0, .int x1, .int x2, .ref 497] M r := by
  refine w_rn (nL := 5) (l1 := [some (.ref 0), some (.int x1), some (.int x2), some (.ref 497), none]) (by decide +kernel) rfl rfl ?_
  refine w_aload_n (n := 1) (i := 3) (by decide +kernel) rfl rfl ?_
  refine w_iconst (n := 2) (v := 0) (x := 0) (by decide +kernel) rfl (by decide) ?_
  refine w_aload_n (n := 3) (i := 0) (by decide +kernel) rfl rfl ?_
  refine w_iload_n (n := 4) (i := 1) (by decide +kernel) rfl rfl ?_
  refine w_iload_n (n := 5) (i := 2) (by decide +kernel) rfl rfl ?_
  rcases h with h | h
  · obtain ⟨v2, M1, hLM1, hr3, h⟩ := h
    refine w_cV (n := 8) (idx := 129) (cal := 136) (na := 2) (nl := 3) (as := [.int x1, .int x2]) (rest := [.int 0, .ref 497]) hL (by decide +kernel) (by decide +kernel) (at_0) (by decide +kernel) rfl rfl rfl (Nat.le_of_ble_eq_true rfl) rfl hr3 ?_
    refine w_i2l (n := 9) (by decide +kernel) rfl ?_
    refine w_last (n := 10) (i := 0) hLM1 (by decide +kernel) (at_497) (an_497) ⟨by decide, by decide⟩ rfl ?_
    refine w_goto (n := 17) (off := 7) (by decide +kernel) (by decide) ?_
    refine w_iconst (n := 18) (v := 0) (x := 0) (by decide +kernel) rfl (by decide) ?_
    subst h
    exact w_ireturn (by decide +kernel) (w_okI (by decide +kernel))
  · obtain ⟨M4, hLM4, hr5, h⟩ := h
    refine w_hV (E := 1) (t := 13) (idx := 129) (cal := 136) (na := 2) (nl := 3) (as := [.int x1, .int x2]) (rest := [.int 0, .ref 497]) hL (by decide +kernel) (by decide +kernel) (at_0) (by decide +kernel) rfl rfl rfl (Nat.le_of_ble_eq_true rfl) (by decide +kernel) (by decide +kernel) (by decide +kernel) hr5 ?_
    refine w_astore (n := 15) (i := 4) (l1' := [some (.ref 0), some (.int x1), some (.int x2), some (.ref 497), some (.ref (3000000 + ak_C M4))]) (l2' := []) (by decide +kernel) rfl (Nat.le_of_ble_eq_true rfl) rfl rfl ?_
    refine w_iconst (n := 16) (v := 1) (x := 1) (by decide +kernel) rfl (by decide) ?_
    subst h
    exact w_ireturn (by decide +kernel) (w_okI (by decide +kernel))
theorem t_361 {X : ak_X} {M : ak_M} {r : ak_O × ak_M} (hL : ab_lay M) (h : (((∃ (v2 : Int32) (M1 : ak_M), ab_lay M1 ∧ rn X 137 [.ref 0] M (.inl (some (.int v2)), M1) ∧ r = (.inl (some (.int 0)), ak_sL M1 497 0 (v2.toInt64)))) ∨ (∃ (M4 : ak_M), ab_lay M4 ∧ rn X 137 [.ref 0] M (.inr 2, M4) ∧ r = (.inl (some (.int 1)), ak_use M4 1 0)))) : rn X 361 [.ref 0, .ref 497] M r := by
  refine w_rn (nL := 3) (l1 := [some (.ref 0), some (.ref 497), none]) (by decide +kernel) rfl rfl ?_
  refine w_aload_n (n := 1) (i := 1) (by decide +kernel) rfl rfl ?_
  refine w_iconst (n := 2) (v := 0) (x := 0) (by decide +kernel) rfl (by decide) ?_
  refine w_aload_n (n := 3) (i := 0) (by decide +kernel) rfl rfl ?_
  rcases h with h | h
  · obtain ⟨v2, M1, hLM1, hr3, h⟩ := h
    refine w_cV (n := 6) (idx := 132) (cal := 137) (na := 0) (nl := 1) (as := []) (rest := [.int 0, .ref 497]) hL (by decide +kernel) (by decide +kernel) (at_0) (by decide +kernel) rfl rfl rfl (Nat.le_of_ble_eq_true rfl) rfl hr3 ?_
    refine w_i2l (n := 7) (by decide +kernel) rfl ?_
    refine w_last (n := 8) (i := 0) hLM1 (by decide +kernel) (at_497) (an_497) ⟨by decide, by decide⟩ rfl ?_
    refine w_goto (n := 14) (off := 6) (by decide +kernel) (by decide) ?_
    refine w_iconst (n := 15) (v := 0) (x := 0) (by decide +kernel) rfl (by decide) ?_
    subst h
    exact w_ireturn (by decide +kernel) (w_okI (by decide +kernel))
  · obtain ⟨M4, hLM4, hr5, h⟩ := h
    refine w_hV (E := 2) (t := 11) (idx := 132) (cal := 137) (na := 0) (nl := 1) (as := []) (rest := [.int 0, .ref 497]) hL (by decide +kernel) (by decide +kernel) (at_0) (by decide +kernel) rfl rfl rfl (Nat.le_of_ble_eq_true rfl) (by decide +kernel) (by decide +kernel) (by decide +kernel) hr5 ?_
    refine w_astore_n (n := 12) (i := 2) (l1' := [some (.ref 0), some (.ref 497), some (.ref (3000000 + ak_C M4))]) (l2' := []) (by decide +kernel) rfl (Nat.le_of_ble_eq_true rfl) rfl rfl ?_
    refine w_iconst (n := 13) (v := 1) (x := 1) (by decide +kernel) rfl (by decide) ?_
    subst h
    exact w_ireturn (by decide +kernel) (w_okI (by decide +kernel))
theorem t_362 {X : ak_X} {M : ak_M} {r : ak_O × ak_M} (hL : ab_lay M) (x1 : Int32) (h : (((∃ (v2 : Int32) (M1 : ak_M), ab_lay M1 ∧ rn X 138 [.ref 0, .int x1] M (.inl (some (.int v2)), M1) ∧ r = (.inl (some (.int 0)), ak_sL M1 497 0 (v2.toInt64)))) ∨ (∃ (M4 : ak_M), ab_lay M4 ∧ rn X 138 [.ref 0, .int x1] M (.inr 0, M4) ∧ r = (.inl (some (.int 1)), ak_use M4 1 0)))) : rn X 362 [.ref 0, .int x1, .ref 497] M r := by
  refine w_rn (nL := 4) (l1 := [some (.ref 0), some (.int x1), some (.ref 497), none]) (by decide +kernel) rfl rfl ?_
  refine w_aload_n (n := 1) (i := 2) (by decide +kernel) rfl rfl ?_
  refine w_iconst (n := 2) (v := 0) (x := 0) (by decide +kernel) rfl (by decide) ?_
  refine w_aload_n (n := 3) (i := 0) (by decide +kernel) rfl rfl ?_
  refine w_iload_n (n := 4) (i := 1) (by decide +kernel) rfl rfl ?_
  rcases h with h | h
  · obtain ⟨v2, M1, hLM1, hr3, h⟩ := h
    refine w_cV (n := 7) (idx := 136) (cal := 138) (na := 1) (nl := 2) (as := [.int x1]) (rest := [.int 0, .ref 497]) hL (by decide +kernel) (by decide +kernel) (at_0) (by decide +kernel) rfl rfl rfl (Nat.le_of_ble_eq_true rfl) rfl hr3 ?_
    refine w_i2l (n := 8) (by decide +kernel) rfl ?_
    refine w_last (n := 9) (i := 0) hLM1 (by decide +kernel) (at_497) (an_497) ⟨by decide, by decide⟩ rfl ?_
    refine w_goto (n := 15) (off := 6) (by decide +kernel) (by decide) ?_
    refine w_iconst (n := 16) (v := 0) (x := 0) (by decide +kernel) rfl (by decide) ?_
    subst h
    exact w_ireturn (by decide +kernel) (w_okI (by decide +kernel))
  · obtain ⟨M4, hLM4, hr5, h⟩ := h
    refine w_hV (E := 0) (t := 12) (idx := 136) (cal := 138) (na := 1) (nl := 2) (as := [.int x1]) (rest := [.int 0, .ref 497]) hL (by decide +kernel) (by decide +kernel) (at_0) (by decide +kernel) rfl rfl rfl (Nat.le_of_ble_eq_true rfl) (by decide +kernel) (by decide +kernel) (by decide +kernel) hr5 ?_
    refine w_astore_n (n := 13) (i := 3) (l1' := [some (.ref 0), some (.int x1), some (.ref 497), some (.ref (3000000 + ak_C M4))]) (l2' := []) (by decide +kernel) rfl (Nat.le_of_ble_eq_true rfl) rfl rfl ?_
    refine w_iconst (n := 14) (v := 1) (x := 1) (by decide +kernel) rfl (by decide) ?_
    subst h
    exact w_ireturn (by decide +kernel) (w_okI (by decide +kernel))
theorem t_363 {X : ak_X} {M : ak_M} {r : ak_O × ak_M} (hL : ab_lay M) (h : (((∃ (v2 : Int32) (M1 : ak_M), ab_lay M1 ∧ rn X 143 [.ref 0] M (.inl (some (.int v2)), M1) ∧ r = (.inl (some (.int 0)), ak_sL M1 497 0 (v2.toInt64)))) ∨ (∃ (M4 : ak_M), ab_lay M4 ∧ rn X 143 [.ref 0] M (.inr 2, M4) ∧ r = (.inl (some (.int 1)), ak_use M4 1 0)))) : rn X 363 [.ref 0, .ref 497] M r := by
  refine w_rn (nL := 3) (l1 := [some (.ref 0), some (.ref 497), none]) (by decide +kernel) rfl rfl ?_
  refine w_aload_n (n := 1) (i := 1) (by decide +kernel) rfl rfl ?_
  refine w_iconst (n := 2) (v := 0) (x := 0) (by decide +kernel) rfl (by decide) ?_
  refine w_aload_n (n := 3) (i := 0) (by decide +kernel) rfl rfl ?_
  rcases h with h | h
  · obtain ⟨v2, M1, hLM1, hr3, h⟩ := h
    refine w_cV (n := 6) (idx := 139) (cal := 143) (na := 0) (nl := 1) (as := []) (rest := [.int 0, .ref 497]) hL (by decide +kernel) (by decide +kernel) (at_0) (by decide +kernel) rfl rfl rfl (Nat.le_of_ble_eq_true rfl) rfl hr3 ?_
    refine w_i2l (n := 7) (by decide +kernel) rfl ?_
    refine w_last (n := 8) (i := 0) hLM1 (by decide +kernel) (at_497) (an_497) ⟨by decide, by decide⟩ rfl ?_
    refine w_goto (n := 14) (off := 6) (by decide +kernel) (by decide) ?_
    refine w_iconst (n := 15) (v := 0) (x := 0) (by decide +kernel) rfl (by decide) ?_
    subst h
    exact w_ireturn (by decide +kernel) (w_okI (by decide +kernel))
  · obtain ⟨M4, hLM4, hr5, h⟩ := h
    refine w_hV (E := 2) (t := 11) (idx := 139) (cal := 143) (na := 0) (nl := 1) (as := []) (rest := [.int 0, .ref 497]) hL (by decide +kernel) (by decide +kernel) (at_0) (by decide +kernel) rfl rfl rfl (Nat.le_of_ble_eq_true rfl) (by decide +kernel) (by decide +kernel) (by decide +kernel) hr5 ?_
    refine w_astore_n (n := 12) (i := 2) (l1' := [some (.ref 0), some (.ref 497), some (.ref (3000000 + ak_C M4))]) (l2' := []) (by decide +kernel) rfl (Nat.le_of_ble_eq_true rfl) rfl rfl ?_
    refine w_iconst (n := 13) (v := 1) (x := 1) (by decide +kernel) rfl (by decide) ?_
    subst h
    exact w_ireturn (by decide +kernel) (w_okI (by decide +kernel))
