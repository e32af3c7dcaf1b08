/-! the walk of Math, laid by wip/p60/walk.py -/
theorem t_313 {X : ak_X} {M : ak_M} {r : ak_O × ak_M} (hL : ab_lay M) (x0 : Int32) (x1 : Int32) (h : (x1 ≠ 0 ∧ (if 0 ≤ x0 ^^^ x1 then r = (.inl (some (.int (x0 / x1))), M) else (if (x0 / x1) * x1 = x0 then r = (.inl (some (.int (x0 / x1))), M) else r = (.inl (some (.int ((x0 / x1) - 1))), M))))) : rn X 313 [.int x0, .int x1] M r := by
  refine w_rn (nL := 3) (l1 := [some (.int x0), some (.int x1), none]) (by decide +kernel) rfl rfl ?_
  refine w_iload_n (n := 1) (i := 0) (by decide +kernel) rfl rfl ?_
  refine w_iload_n (n := 2) (i := 1) (by decide +kernel) rfl rfl ?_
  obtain ⟨g3, h⟩ := h
  refine w_idiv (n := 3) (by decide +kernel) rfl g3 ?_
  refine w_istore_n (n := 4) (i := 2) (l1' := [some (.int x0), some (.int x1), some (.int (x0 / x1))]) (l2' := []) (by decide +kernel) rfl (Nat.le_of_ble_eq_true rfl) rfl rfl ?_
  refine w_iload_n (n := 5) (i := 0) (by decide +kernel) rfl rfl ?_
  refine w_iload_n (n := 6) (i := 1) (by decide +kernel) rfl rfl ?_
  refine w_ixor (n := 7) (by decide +kernel) rfl ?_
  by_cases c2 : 0 ≤ x0 ^^^ x1
  · rw [if_pos c2] at h
    refine w_if_ge_j (n := 21) (off := 14) (by decide +kernel) (by decide) c2 ?_
    refine w_iload_n (n := 22) (i := 2) (by decide +kernel) rfl rfl ?_
    subst h
    exact w_ireturn (by decide +kernel) (w_okI (by decide +kernel))
  · rw [if_neg c2] at h
    refine w_if_ge_n (n := 10) (off := 14) (by decide +kernel) rfl c2 ?_
    refine w_iload_n (n := 11) (i := 2) (by decide +kernel) rfl rfl ?_
    refine w_iload_n (n := 12) (i := 1) (by decide +kernel) rfl rfl ?_
    refine w_imul (n := 13) (by decide +kernel) rfl ?_
    refine w_iload_n (n := 14) (i := 0) (by decide +kernel) rfl rfl ?_
    by_cases c1 : (x0 / x1) * x1 = x0
    · rw [if_pos c1] at h
      refine w_icmp_eq_j (n := 21) (off := 7) (by decide +kernel) (by decide) c1 ?_
      refine w_iload_n (n := 22) (i := 2) (by decide +kernel) rfl rfl ?_
      subst h
      exact w_ireturn (by decide +kernel) (w_okI (by decide +kernel))
    · rw [if_neg c1] at h
      refine w_icmp_eq_n (n := 17) (off := 7) (by decide +kernel) rfl c1 ?_
      refine w_iload_n (n := 18) (i := 2) (by decide +kernel) rfl rfl ?_
      refine w_iconst (n := 19) (v := 1) (x := 1) (by decide +kernel) rfl (by decide) ?_
      refine w_isub (n := 20) (by decide +kernel) rfl ?_
      subst h
      exact w_ireturn (by decide +kernel) (w_okI (by decide +kernel))
theorem t_314 {X : ak_X} {M : ak_M} {r : ak_O × ak_M} (hL : ab_lay M) (x0 : Int32) (h : (if 0 ≤ x0 then r = (.inl (some (.int x0)), M) else r = (.inl (some (.int (-x0))), M))) : rn X 314 [.int x0] M r := by
  refine w_rn (nL := 1) (l1 := [some (.int x0)]) (by decide +kernel) rfl rfl ?_
  refine w_iload_n (n := 1) (i := 0) (by decide +kernel) rfl rfl ?_
  by_cases c1 : 0 ≤ x0
  · rw [if_pos c1] at h
    refine w_if_ge_j (n := 9) (off := 8) (by decide +kernel) (by decide) c1 ?_
    refine w_iload_n (n := 10) (i := 0) (by decide +kernel) rfl rfl ?_
    subst h
    exact w_ireturn (by decide +kernel) (w_okI (by decide +kernel))
  · rw [if_neg c1] at h
    refine w_if_ge_n (n := 4) (off := 8) (by decide +kernel) rfl c1 ?_
    refine w_iload_n (n := 5) (i := 0) (by decide +kernel) rfl rfl ?_
    refine w_ineg (n := 6) (by decide +kernel) rfl ?_
    refine w_goto (n := 10) (off := 4) (by decide +kernel) (by decide) ?_
    subst h
    exact w_ireturn (by decide +kernel) (w_okI (by decide +kernel))
theorem t_315 {X : ak_X} {M : ak_M} {r : ak_O × ak_M} (hL : ab_lay M) (x0 : Int32) (x1 : Int32) (h : (if x0 < x1 then r = (.inl (some (.int x1)), M) else r = (.inl (some (.int x0)), M))) : rn X 315 [.int x0, .int x1] M r := by
  refine w_rn (nL := 2) (l1 := [some (.int x0), some (.int x1)]) (by decide +kernel) rfl rfl ?_
  refine w_iload_n (n := 1) (i := 0) (by decide +kernel) rfl rfl ?_
  refine w_iload_n (n := 2) (i := 1) (by decide +kernel) rfl rfl ?_
  by_cases c1 : x0 < x1
  · rw [if_pos c1] at h
    refine w_icmp_lt_j (n := 9) (off := 7) (by decide +kernel) (by decide) c1 ?_
    refine w_iload_n (n := 10) (i := 1) (by decide +kernel) rfl rfl ?_
    subst h
    exact w_ireturn (by decide +kernel) (w_okI (by decide +kernel))
  · rw [if_neg c1] at h
    refine w_icmp_lt_n (n := 5) (off := 7) (by decide +kernel) rfl c1 ?_
    refine w_iload_n (n := 6) (i := 0) (by decide +kernel) rfl rfl ?_
    refine w_goto (n := 10) (off := 4) (by decide +kernel) (by decide) ?_
    subst h
    exact w_ireturn (by decide +kernel) (w_okI (by decide +kernel))
theorem t_316 {X : ak_X} {M : ak_M} {r : ak_O × ak_M} (hL : ab_lay M) (x0 : Int32) (x1 : Int32) (h : (if x1 < x0 then r = (.inl (some (.int x1)), M) else r = (.inl (some (.int x0)), M))) : rn X 316 [.int x0, .int x1] M r := by
  refine w_rn (nL := 2) (l1 := [some (.int x0), some (.int x1)]) (by decide +kernel) rfl rfl ?_
  refine w_iload_n (n := 1) (i := 0) (by decide +kernel) rfl rfl ?_
  refine w_iload_n (n := 2) (i := 1) (by decide +kernel) rfl rfl ?_
  by_cases c1 : x1 < x0
  · rw [if_pos c1] at h
    refine w_icmp_gt_j (n := 9) (off := 7) (by decide +kernel) (by decide) c1 ?_
    refine w_iload_n (n := 10) (i := 1) (by decide +kernel) rfl rfl ?_
    subst h
    exact w_ireturn (by decide +kernel) (w_okI (by decide +kernel))
  · rw [if_neg c1] at h
    refine w_icmp_gt_n (n := 5) (off := 7) (by decide +kernel) rfl c1 ?_
    refine w_iload_n (n := 6) (i := 0) (by decide +kernel) rfl rfl ?_
    refine w_goto (n := 10) (off := 4) (by decide +kernel) (by decide) ?_
    subst h
    exact w_ireturn (by decide +kernel) (w_okI (by decide +kernel))
