/-! the walk of the model, 3, laid by wip/whole/walk.py -/
theorem t_260 {X : ak_X} {M : ak_M} {r : ak_O × ak_M} (hL : ab_lay M) (x1 : Int32) (h : (∃ (v2 : Int32) (M1 : ak_M), ab_lay M1 ∧ rn X 169 [.ref 483, .int x1] M (.inl (some (.int v2)), M1) ∧ (∃ (v4 : Int32) (M3 : ak_M), ab_lay M3 ∧ rn X 155 [.ref 483, .int v2] M1 (.inl (some (.int v4)), M3) ∧ (if v4 = 0 then r = (.inl (some (.int 0)), M3) else (∃ (v6 : Int32) (M5 : ak_M), ab_lay M5 ∧ rn X 171 [.ref 483, .int x1, .int 0] M3 (.inl (some (.int v6)), M5) ∧ (if v6 = 1 then (∃ (v34 : Int32) (M33 : ak_M), ab_lay M33 ∧ rn X 156 [.ref 483, .int 1, .int 2] M5 (.inl (some (.int v34)), M33) ∧ (if v34 = 0 then r = (.inl (some (.int 0)), M33) else (∃ (M35 : ak_M), ab_lay M35 ∧ rn X 161 [.ref 483] M33 (.inl (none), M35) ∧ (∃ (M36 : ak_M), ab_lay M36 ∧ rn X 172 [.ref 483, .int x1, .int 0, .int 0] M35 (.inl (none), M36) ∧ (∃ (M37 : ak_M), ab_lay M37 ∧ rn X 259 [.ref 483, .int x1] M36 (.inl (none), M37) ∧ (∃ (v39 : Int32) (M38 : ak_M), ab_lay M38 ∧ rn X 171 [.ref 483, .int x1, .int 6] M37 (.inl (some (.int v39)), M38) ∧ (∃ (v41 : Int32) (M40 : ak_M), ab_lay M40 ∧ rn X 316 [.int 20, .int v39] M38 (.inl (some (.int v41)), M40) ∧ (∃ (M42 : ak_M), ab_lay M42 ∧ rn X 172 [.ref 483, .int x1, .int 3, .int v41] M40 (.inl (none), M42) ∧ (∃ (M43 : ak_M), ab_lay M43 ∧ rn X 187 [.ref 483, .int 4, .int x1, .int ((-1))] M42 (.inl (none), M43) ∧ (∃ (v45 : Int32) (M44 : ak_M), ab_lay M44 ∧ rn X 171 [.ref 483, .int x1, .int 3] M43 (.inl (some (.int v45)), M44) ∧ (∃ (v47 : Int32) (M46 : ak_M), ab_lay M46 ∧ rn X 162 [.ref 483, .int v45] M44 (.inl (some (.int v47)), M46) ∧ r = (.inl (some (.int v47)), M46)))))))))))) else (∃ (v8 : Int32) (M7 : ak_M), ab_lay M7 ∧ rn X 156 [.ref 483, .int 0, .int 2] M5 (.inl (some (.int v8)), M7) ∧ (if v8 = 0 then r = (.inl (some (.int 0)), M7) else (∃ (M9 : ak_M), ab_lay M9 ∧ rn X 161 [.ref 483] M7 (.inl (none), M9) ∧ (∃ (M10 : ak_M), ab_lay M10 ∧ rn X 172 [.ref 483, .int x1, .int 0, .int 0] M9 (.inl (none), M10) ∧ (∃ (M11 : ak_M), ab_lay M11 ∧ rn X 259 [.ref 483, .int x1] M10 (.inl (none), M11) ∧ (∃ (v13 : Int32) (M12 : ak_M), ab_lay M12 ∧ rn X 171 [.ref 483, .int x1, .int 6] M11 (.inl (some (.int v13)), M12) ∧ (∃ (v15 : Int32) (M14 : ak_M), ab_lay M14 ∧ rn X 316 [.int 20, .int v13] M12 (.inl (some (.int v15)), M14) ∧ (∃ (M16 : ak_M), ab_lay M16 ∧ rn X 172 [.ref 483, .int x1, .int 3, .int v15] M14 (.inl (none), M16) ∧ (∃ (M17 : ak_M), ab_lay M17 ∧ rn X 187 [.ref 483, .int 4, .int x1, .int ((-1))] M16 (.inl (none), M17) ∧ (∃ (v19 : Int32) (M18 : ak_M), ab_lay M18 ∧ rn X 171 [.ref 483, .int x1, .int 3] M17 (.inl (some (.int v19)), M18) ∧ (∃ (v21 : Int32) (M20 : ak_M), ab_lay M20 ∧ rn X 162 [.ref 483, .int v19] M18 (.inl (some (.int v21)), M20) ∧ r = (.inl (some (.int v21)), M20)))))))))))))))))) : rn X 260 [.ref 483, .int x1] M r := by
  refine w_rn (nL := 2) (l1 := [some (.ref 483), some (.int x1)]) (by decide +kernel) rfl rfl ?_
  refine w_aload_n (n := 1) (i := 0) (by decide +kernel) rfl rfl ?_
  refine w_aload_n (n := 2) (i := 0) (by decide +kernel) rfl rfl ?_
  refine w_iload_n (n := 3) (i := 1) (by decide +kernel) rfl rfl ?_
  obtain ⟨v2, M1, hLM1, hr63, h⟩ := h
  refine w_cV (n := 6) (idx := 88) (cal := 169) (na := 1) (nl := 2) (as := [.int x1]) (rest := [.ref 483]) hL (by decide +kernel) (by decide +kernel) (at_483) (by decide +kernel) rfl rfl rfl (Nat.le_of_ble_eq_true rfl) rfl hr63 ?_
  obtain ⟨v4, M3, hLM3, hr62, h⟩ := h
  refine w_cV (n := 9) (idx := 72) (cal := 155) (na := 1) (nl := 2) (as := [.int v2]) (rest := []) hLM1 (by decide +kernel) (by decide +kernel) (at_483) (by decide +kernel) rfl rfl rfl (Nat.le_of_ble_eq_true rfl) rfl hr62 ?_
  by_cases c61 : v4 = 0
  · rw [if_pos c61] at h
    refine w_if_eq_j (n := 35) (off := 26) (by decide +kernel) (by decide) c61 ?_
    refine w_iconst (n := 36) (v := 0) (x := 0) (by decide +kernel) rfl (by decide) ?_
    subst h
    exact w_ireturn (by decide +kernel) (w_okI (by decide +kernel))
  · rw [if_neg c61] at h
    refine w_if_eq_n (n := 12) (off := 26) (by decide +kernel) rfl c61 ?_
    refine w_aload_n (n := 13) (i := 0) (by decide +kernel) rfl rfl ?_
    refine w_aload_n (n := 14) (i := 0) (by decide +kernel) rfl rfl ?_
    refine w_iload_n (n := 15) (i := 1) (by decide +kernel) rfl rfl ?_
    refine w_iconst (n := 16) (v := 0) (x := 0) (by decide +kernel) rfl (by decide) ?_
    obtain ⟨v6, M5, hLM5, hr60, h⟩ := h
    refine w_cV (n := 19) (idx := 92) (cal := 171) (na := 2) (nl := 3) (as := [.int x1, .int 0]) (rest := [.ref 483]) hLM3 (by decide +kernel) (by decide +kernel) (at_483) (by decide +kernel) rfl rfl rfl (Nat.le_of_ble_eq_true rfl) rfl hr60 ?_
    refine w_iconst (n := 20) (v := 1) (x := 1) (by decide +kernel) rfl (by decide) ?_
    by_cases c59 : v6 = 1
    · rw [if_pos c59] at h
      refine w_icmp_ne_n (n := 23) (off := 7) (by decide +kernel) rfl c59 ?_
      refine w_iconst (n := 24) (v := 1) (x := 1) (by decide +kernel) rfl (by decide) ?_
      refine w_goto (n := 28) (off := 4) (by decide +kernel) (by decide) ?_
      refine w_iconst (n := 29) (v := 2) (x := 2) (by decide +kernel) rfl (by decide) ?_
      obtain ⟨v34, M33, hLM33, hr58, h⟩ := h
      refine w_cV (n := 32) (idx := 257) (cal := 156) (na := 2) (nl := 3) (as := [.int 1, .int 2]) (rest := []) hLM5 (by decide +kernel) (by decide +kernel) (at_483) (by decide +kernel) rfl rfl rfl (Nat.le_of_ble_eq_true rfl) rfl hr58 ?_
      by_cases c57 : v34 = 0
      · rw [if_pos c57] at h
        refine w_if_ne_n (n := 35) (off := 5) (by decide +kernel) rfl c57 ?_
        refine w_iconst (n := 36) (v := 0) (x := 0) (by decide +kernel) rfl (by decide) ?_
        subst h
        exact w_ireturn (by decide +kernel) (w_okI (by decide +kernel))
      · rw [if_neg c57] at h
        refine w_if_ne_j (n := 37) (off := 5) (by decide +kernel) (by decide) c57 ?_
        refine w_aload_n (n := 38) (i := 0) (by decide +kernel) rfl rfl ?_
        obtain ⟨M35, hLM35, hr56, h⟩ := h
        refine w_cV (n := 41) (idx := 314) (cal := 161) (na := 0) (nl := 1) (as := []) (rest := []) hLM33 (by decide +kernel) (by decide +kernel) (at_483) (by decide +kernel) rfl rfl rfl (Nat.le_of_ble_eq_true rfl) rfl hr56 ?_
        refine w_aload_n (n := 42) (i := 0) (by decide +kernel) rfl rfl ?_
        refine w_iload_n (n := 43) (i := 1) (by decide +kernel) rfl rfl ?_
        refine w_iconst (n := 44) (v := 0) (x := 0) (by decide +kernel) rfl (by decide) ?_
        refine w_iconst (n := 45) (v := 0) (x := 0) (by decide +kernel) rfl (by decide) ?_
        obtain ⟨M36, hLM36, hr55, h⟩ := h
        refine w_cV (n := 48) (idx := 96) (cal := 172) (na := 3) (nl := 4) (as := [.int x1, .int 0, .int 0]) (rest := []) hLM35 (by decide +kernel) (by decide +kernel) (at_483) (by decide +kernel) rfl rfl rfl (Nat.le_of_ble_eq_true rfl) rfl hr55 ?_
        refine w_aload_n (n := 49) (i := 0) (by decide +kernel) rfl rfl ?_
        refine w_iload_n (n := 50) (i := 1) (by decide +kernel) rfl rfl ?_
        obtain ⟨M37, hLM37, hr54, h⟩ := h
        refine w_cV (n := 53) (idx := 320) (cal := 259) (na := 1) (nl := 2) (as := [.int x1]) (rest := []) hLM36 (by decide +kernel) (by decide +kernel) (at_483) (by decide +kernel) rfl rfl rfl (Nat.le_of_ble_eq_true rfl) rfl hr54 ?_
        refine w_aload_n (n := 54) (i := 0) (by decide +kernel) rfl rfl ?_
        refine w_iload_n (n := 55) (i := 1) (by decide +kernel) rfl rfl ?_
        refine w_iconst (n := 56) (v := 3) (x := 3) (by decide +kernel) rfl (by decide) ?_
        refine w_bipush (n := 58) (v := 20) (x := 20) (by decide +kernel) rfl (by decide) ?_
        refine w_aload_n (n := 59) (i := 0) (by decide +kernel) rfl rfl ?_
        refine w_iload_n (n := 60) (i := 1) (by decide +kernel) rfl rfl ?_
        refine w_bipush (n := 62) (v := 6) (x := 6) (by decide +kernel) rfl (by decide) ?_
        obtain ⟨v39, M38, hLM38, hr53, h⟩ := h
        refine w_cV (n := 65) (idx := 92) (cal := 171) (na := 2) (nl := 3) (as := [.int x1, .int 6]) (rest := [.int 20, .int 3, .int x1, .ref 483]) hLM37 (by decide +kernel) (by decide +kernel) (at_483) (by decide +kernel) rfl rfl rfl (Nat.le_of_ble_eq_true rfl) rfl hr53 ?_
        obtain ⟨v41, M40, hLM40, hr52, h⟩ := h
        refine w_cS (n := 68) (idx := 176) (cal := 316) (na := 2) (nl := 2) (as := [.int 20, .int v39]) (rest := [.int 3, .int x1, .ref 483]) (by decide +kernel) (by decide +kernel) rfl rfl rfl (Nat.le_of_ble_eq_true rfl) rfl hr52 ?_
        obtain ⟨M42, hLM42, hr51, h⟩ := h
        refine w_cV (n := 71) (idx := 96) (cal := 172) (na := 3) (nl := 4) (as := [.int x1, .int 3, .int v41]) (rest := []) hLM40 (by decide +kernel) (by decide +kernel) (at_483) (by decide +kernel) rfl rfl rfl (Nat.le_of_ble_eq_true rfl) rfl hr51 ?_
        refine w_aload_n (n := 72) (i := 0) (by decide +kernel) rfl rfl ?_
        refine w_iconst (n := 73) (v := 4) (x := 4) (by decide +kernel) rfl (by decide) ?_
        refine w_iload_n (n := 74) (i := 1) (by decide +kernel) rfl rfl ?_
        refine w_iconst (n := 75) (v := -1) (x := (-1)) (by decide +kernel) rfl (by decide) ?_
        obtain ⟨M43, hLM43, hr50, h⟩ := h
        refine w_cV (n := 78) (idx := 213) (cal := 187) (na := 3) (nl := 4) (as := [.int 4, .int x1, .int ((-1))]) (rest := []) hLM42 (by decide +kernel) (by decide +kernel) (at_483) (by decide +kernel) rfl rfl rfl (Nat.le_of_ble_eq_true rfl) rfl hr50 ?_
        refine w_aload_n (n := 79) (i := 0) (by decide +kernel) rfl rfl ?_
        refine w_aload_n (n := 80) (i := 0) (by decide +kernel) rfl rfl ?_
        refine w_iload_n (n := 81) (i := 1) (by decide +kernel) rfl rfl ?_
        refine w_iconst (n := 82) (v := 3) (x := 3) (by decide +kernel) rfl (by decide) ?_
        obtain ⟨v45, M44, hLM44, hr49, h⟩ := h
        refine w_cV (n := 85) (idx := 92) (cal := 171) (na := 2) (nl := 3) (as := [.int x1, .int 3]) (rest := [.ref 483]) hLM43 (by decide +kernel) (by decide +kernel) (at_483) (by decide +kernel) rfl rfl rfl (Nat.le_of_ble_eq_true rfl) rfl hr49 ?_
        obtain ⟨v47, M46, hLM46, hr48, h⟩ := h
        refine w_cV (n := 88) (idx := 317) (cal := 162) (na := 1) (nl := 2) (as := [.int v45]) (rest := []) hLM44 (by decide +kernel) (by decide +kernel) (at_483) (by decide +kernel) rfl rfl rfl (Nat.le_of_ble_eq_true rfl) rfl hr48 ?_
        subst h
        exact w_ireturn (by decide +kernel) (w_okI (by decide +kernel))
    · rw [if_neg c59] at h
      refine w_icmp_ne_j (n := 27) (off := 7) (by decide +kernel) (by decide) c59 ?_
      refine w_iconst (n := 28) (v := 0) (x := 0) (by decide +kernel) rfl (by decide) ?_
      refine w_iconst (n := 29) (v := 2) (x := 2) (by decide +kernel) rfl (by decide) ?_
      obtain ⟨v8, M7, hLM7, hr32, h⟩ := h
      refine w_cV (n := 32) (idx := 257) (cal := 156) (na := 2) (nl := 3) (as := [.int 0, .int 2]) (rest := []) hLM5 (by decide +kernel) (by decide +kernel) (at_483) (by decide +kernel) rfl rfl rfl (Nat.le_of_ble_eq_true rfl) rfl hr32 ?_
      by_cases c31 : v8 = 0
      · rw [if_pos c31] at h
        refine w_if_ne_n (n := 35) (off := 5) (by decide +kernel) rfl c31 ?_
        refine w_iconst (n := 36) (v := 0) (x := 0) (by decide +kernel) rfl (by decide) ?_
        subst h
        exact w_ireturn (by decide +kernel) (w_okI (by decide +kernel))
      · rw [if_neg c31] at h
        refine w_if_ne_j (n := 37) (off := 5) (by decide +kernel) (by decide) c31 ?_
        refine w_aload_n (n := 38) (i := 0) (by decide +kernel) rfl rfl ?_
        obtain ⟨M9, hLM9, hr30, h⟩ := h
        refine w_cV (n := 41) (idx := 314) (cal := 161) (na := 0) (nl := 1) (as := []) (rest := []) hLM7 (by decide +kernel) (by decide +kernel) (at_483) (by decide +kernel) rfl rfl rfl (Nat.le_of_ble_eq_true rfl) rfl hr30 ?_
        refine w_aload_n (n := 42) (i := 0) (by decide +kernel) rfl rfl ?_
        refine w_iload_n (n := 43) (i := 1) (by decide +kernel) rfl rfl ?_
        refine w_iconst (n := 44) (v := 0) (x := 0) (by decide +kernel) rfl (by decide) ?_
        refine w_iconst (n := 45) (v := 0) (x := 0) (by decide +kernel) rfl (by decide) ?_
        obtain ⟨M10, hLM10, hr29, h⟩ := h
        refine w_cV (n := 48) (idx := 96) (cal := 172) (na := 3) (nl := 4) (as := [.int x1, .int 0, .int 0]) (rest := []) hLM9 (by decide +kernel) (by decide +kernel) (at_483) (by decide +kernel) rfl rfl rfl (Nat.le_of_ble_eq_true rfl) rfl hr29 ?_
        refine w_aload_n (n := 49) (i := 0) (by decide +kernel) rfl rfl ?_
        refine w_iload_n (n := 50) (i := 1) (by decide +kernel) rfl rfl ?_
        obtain ⟨M11, hLM11, hr28, h⟩ := h
        refine w_cV (n := 53) (idx := 320) (cal := 259) (na := 1) (nl := 2) (as := [.int x1]) (rest := []) hLM10 (by decide +kernel) (by decide +kernel) (at_483) (by decide +kernel) rfl rfl rfl (Nat.le_of_ble_eq_true rfl) rfl hr28 ?_
        refine w_aload_n (n := 54) (i := 0) (by decide +kernel) rfl rfl ?_
        refine w_iload_n (n := 55) (i := 1) (by decide +kernel) rfl rfl ?_
        refine w_iconst (n := 56) (v := 3) (x := 3) (by decide +kernel) rfl (by decide) ?_
        refine w_bipush (n := 58) (v := 20) (x := 20) (by decide +kernel) rfl (by decide) ?_
        refine w_aload_n (n := 59) (i := 0) (by decide +kernel) rfl rfl ?_
        refine w_iload_n (n := 60) (i := 1) (by decide +kernel) rfl rfl ?_
        refine w_bipush (n := 62) (v := 6) (x := 6) (by decide +kernel) rfl (by decide) ?_
        obtain ⟨v13, M12, hLM12, hr27, h⟩ := h
        refine w_cV (n := 65) (idx := 92) (cal := 171) (na := 2) (nl := 3) (as := [.int x1, .int 6]) (rest := [.int 20, .int 3, .int x1, .ref 483]) hLM11 (by decide +kernel) (by decide +kernel) (at_483) (by decide +kernel) rfl rfl rfl (Nat.le_of_ble_eq_true rfl) rfl hr27 ?_
        obtain ⟨v15, M14, hLM14, hr26, h⟩ := h
        refine w_cS (n := 68) (idx := 176) (cal := 316) (na := 2) (nl := 2) (as := [.int 20, .int v13]) (rest := [.int 3, .int x1, .ref 483]) (by decide +kernel) (by decide +kernel) rfl rfl rfl (Nat.le_of_ble_eq_true rfl) rfl hr26 ?_
        obtain ⟨M16, hLM16, hr25, h⟩ := h
        refine w_cV (n := 71) (idx := 96) (cal := 172) (na := 3) (nl := 4) (as := [.int x1, .int 3, .int v15]) (rest := []) hLM14 (by decide +kernel) (by decide +kernel) (at_483) (by decide +kernel) rfl rfl rfl (Nat.le_of_ble_eq_true rfl) rfl hr25 ?_
        refine w_aload_n (n := 72) (i := 0) (by decide +kernel) rfl rfl ?_
        refine w_iconst (n := 73) (v := 4) (x := 4) (by decide +kernel) rfl (by decide) ?_
        refine w_iload_n (n := 74) (i := 1) (by decide +kernel) rfl rfl ?_
        refine w_iconst (n := 75) (v := -1) (x := (-1)) (by decide +kernel) rfl (by decide) ?_
        obtain ⟨M17, hLM17, hr24, h⟩ := h
        refine w_cV (n := 78) (idx := 213) (cal := 187) (na := 3) (nl := 4) (as := [.int 4, .int x1, .int ((-1))]) (rest := []) hLM16 (by decide +kernel) (by decide +kernel) (at_483) (by decide +kernel) rfl rfl rfl (Nat.le_of_ble_eq_true rfl) rfl hr24 ?_
        refine w_aload_n (n := 79) (i := 0) (by decide +kernel) rfl rfl ?_
        refine w_aload_n (n := 80) (i := 0) (by decide +kernel) rfl rfl ?_
        refine w_iload_n (n := 81) (i := 1) (by decide +kernel) rfl rfl ?_
        refine w_iconst (n := 82) (v := 3) (x := 3) (by decide +kernel) rfl (by decide) ?_
        obtain ⟨v19, M18, hLM18, hr23, h⟩ := h
        refine w_cV (n := 85) (idx := 92) (cal := 171) (na := 2) (nl := 3) (as := [.int x1, .int 3]) (rest := [.ref 483]) hLM17 (by decide +kernel) (by decide +kernel) (at_483) (by decide +kernel) rfl rfl rfl (Nat.le_of_ble_eq_true rfl) rfl hr23 ?_
        obtain ⟨v21, M20, hLM20, hr22, h⟩ := h
        refine w_cV (n := 88) (idx := 317) (cal := 162) (na := 1) (nl := 2) (as := [.int v19]) (rest := []) hLM18 (by decide +kernel) (by decide +kernel) (at_483) (by decide +kernel) rfl rfl rfl (Nat.le_of_ble_eq_true rfl) rfl hr22 ?_
        subst h
        exact w_ireturn (by decide +kernel) (w_okI (by decide +kernel))
theorem t_261 {X : ak_X} {M : ak_M} {r : ak_O × ak_M} (hL : ab_lay M) (x1 : Int32) (x2 : Int32) (h : (∃ (v2 : Int32) (M1 : ak_M), ab_lay M1 ∧ rn X 169 [.ref 483, .int x1] M (.inl (some (.int v2)), M1) ∧ (∃ (v4 : Int32) (M3 : ak_M), ab_lay M3 ∧ rn X 155 [.ref 483, .int v2] M1 (.inl (some (.int v4)), M3) ∧ (if v4 = 0 then r = (.inl (some (.int 0)), M3) else (∃ (v6 : Int32) (M5 : ak_M), ab_lay M5 ∧ rn X 157 [.long (x2.toInt64), .long ((-9)), .long 9] M3 (.inl (some (.int v6)), M5) ∧ (∃ (v8 : Int32) (M7 : ak_M), ab_lay M7 ∧ rn X 156 [.ref 483, .int v6, .int 2] M5 (.inl (some (.int v8)), M7) ∧ (if v8 = 0 then r = (.inl (some (.int 0)), M7) else (∃ (M9 : ak_M), ab_lay M9 ∧ rn X 161 [.ref 483] M7 (.inl (none), M9) ∧ (∃ (v11 : Int32) (M10 : ak_M), ab_lay M10 ∧ rn X 171 [.ref 483, .int x1, .int 7] M9 (.inl (some (.int v11)), M10) ∧ (∃ (M12 : ak_M), ab_lay M12 ∧ rn X 172 [.ref 483, .int x1, .int 7, .int x2] M10 (.inl (none), M12) ∧ (∃ (v14 : Int32) (M13 : ak_M), ab_lay M13 ∧ rn X 162 [.ref 483, .int v11] M12 (.inl (some (.int v14)), M13) ∧ r = (.inl (some (.int v14)), M13)))))))))))) : rn X 261 [.ref 483, .int x1, .int x2] M r := by
  refine w_rn (nL := 4) (l1 := [some (.ref 483), some (.int x1), some (.int x2), none]) (by decide +kernel) rfl rfl ?_
  refine w_aload_n (n := 1) (i := 0) (by decide +kernel) rfl rfl ?_
  refine w_aload_n (n := 2) (i := 0) (by decide +kernel) rfl rfl ?_
  refine w_iload_n (n := 3) (i := 1) (by decide +kernel) rfl rfl ?_
  obtain ⟨v2, M1, hLM1, hr24, h⟩ := h
  refine w_cV (n := 6) (idx := 88) (cal := 169) (na := 1) (nl := 2) (as := [.int x1]) (rest := [.ref 483]) hL (by decide +kernel) (by decide +kernel) (at_483) (by decide +kernel) rfl rfl rfl (Nat.le_of_ble_eq_true rfl) rfl hr24 ?_
  obtain ⟨v4, M3, hLM3, hr23, h⟩ := h
  refine w_cV (n := 9) (idx := 72) (cal := 155) (na := 1) (nl := 2) (as := [.int v2]) (rest := []) hLM1 (by decide +kernel) (by decide +kernel) (at_483) (by decide +kernel) rfl rfl rfl (Nat.le_of_ble_eq_true rfl) rfl hr23 ?_
  by_cases c22 : v4 = 0
  · rw [if_pos c22] at h
    refine w_if_eq_j (n := 31) (off := 22) (by decide +kernel) (by decide) c22 ?_
    refine w_iconst (n := 32) (v := 0) (x := 0) (by decide +kernel) rfl (by decide) ?_
    subst h
    exact w_ireturn (by decide +kernel) (w_okI (by decide +kernel))
  · rw [if_neg c22] at h
    refine w_if_eq_n (n := 12) (off := 22) (by decide +kernel) rfl c22 ?_
    refine w_aload_n (n := 13) (i := 0) (by decide +kernel) rfl rfl ?_
    refine w_iload_n (n := 14) (i := 2) (by decide +kernel) rfl rfl ?_
    refine w_i2l (n := 15) (by decide +kernel) rfl ?_
    refine w_ldc2 (n := 18) (idx := 323) (v := (-9)) (by decide +kernel) oO_261 (by decide +kernel) rfl ?_
    refine w_ldc2 (n := 21) (idx := 325) (v := 9) (by decide +kernel) oO_261 (by decide +kernel) rfl ?_
    obtain ⟨v6, M5, hLM5, hr21, h⟩ := h
    refine w_cS (n := 24) (idx := 84) (cal := 157) (na := 3) (nl := 6) (as := [.long (x2.toInt64), .long ((-9)), .long 9]) (rest := [.ref 483]) (by decide +kernel) (by decide +kernel) rfl rfl rfl (Nat.le_of_ble_eq_true rfl) rfl hr21 ?_
    refine w_iconst (n := 25) (v := 2) (x := 2) (by decide +kernel) rfl (by decide) ?_
    obtain ⟨v8, M7, hLM7, hr20, h⟩ := h
    refine w_cV (n := 28) (idx := 257) (cal := 156) (na := 2) (nl := 3) (as := [.int v6, .int 2]) (rest := []) hLM5 (by decide +kernel) (by decide +kernel) (at_483) (by decide +kernel) rfl rfl rfl (Nat.le_of_ble_eq_true rfl) rfl hr20 ?_
    by_cases c19 : v8 = 0
    · rw [if_pos c19] at h
      refine w_if_ne_n (n := 31) (off := 5) (by decide +kernel) rfl c19 ?_
      refine w_iconst (n := 32) (v := 0) (x := 0) (by decide +kernel) rfl (by decide) ?_
      subst h
      exact w_ireturn (by decide +kernel) (w_okI (by decide +kernel))
    · rw [if_neg c19] at h
      refine w_if_ne_j (n := 33) (off := 5) (by decide +kernel) (by decide) c19 ?_
      refine w_aload_n (n := 34) (i := 0) (by decide +kernel) rfl rfl ?_
      obtain ⟨M9, hLM9, hr18, h⟩ := h
      refine w_cV (n := 37) (idx := 314) (cal := 161) (na := 0) (nl := 1) (as := []) (rest := []) hLM7 (by decide +kernel) (by decide +kernel) (at_483) (by decide +kernel) rfl rfl rfl (Nat.le_of_ble_eq_true rfl) rfl hr18 ?_
      refine w_aload_n (n := 38) (i := 0) (by decide +kernel) rfl rfl ?_
      refine w_iload_n (n := 39) (i := 1) (by decide +kernel) rfl rfl ?_
      refine w_bipush (n := 41) (v := 7) (x := 7) (by decide +kernel) rfl (by decide) ?_
      obtain ⟨v11, M10, hLM10, hr17, h⟩ := h
      refine w_cV (n := 44) (idx := 92) (cal := 171) (na := 2) (nl := 3) (as := [.int x1, .int 7]) (rest := []) hLM9 (by decide +kernel) (by decide +kernel) (at_483) (by decide +kernel) rfl rfl rfl (Nat.le_of_ble_eq_true rfl) rfl hr17 ?_
      refine w_istore_n (n := 45) (i := 3) (l1' := [some (.ref 483), some (.int x1), some (.int x2), some (.int v11)]) (l2' := []) (by decide +kernel) rfl (Nat.le_of_ble_eq_true rfl) rfl rfl ?_
      refine w_aload_n (n := 46) (i := 0) (by decide +kernel) rfl rfl ?_
      refine w_iload_n (n := 47) (i := 1) (by decide +kernel) rfl rfl ?_
      refine w_bipush (n := 49) (v := 7) (x := 7) (by decide +kernel) rfl (by decide) ?_
      refine w_iload_n (n := 50) (i := 2) (by decide +kernel) rfl rfl ?_
      obtain ⟨M12, hLM12, hr16, h⟩ := h
      refine w_cV (n := 53) (idx := 96) (cal := 172) (na := 3) (nl := 4) (as := [.int x1, .int 7, .int x2]) (rest := []) hLM10 (by decide +kernel) (by decide +kernel) (at_483) (by decide +kernel) rfl rfl rfl (Nat.le_of_ble_eq_true rfl) rfl hr16 ?_
      refine w_aload_n (n := 54) (i := 0) (by decide +kernel) rfl rfl ?_
      refine w_iload_n (n := 55) (i := 3) (by decide +kernel) rfl rfl ?_
      obtain ⟨v14, M13, hLM13, hr15, h⟩ := h
      refine w_cV (n := 58) (idx := 317) (cal := 162) (na := 1) (nl := 2) (as := [.int v11]) (rest := []) hLM12 (by decide +kernel) (by decide +kernel) (at_483) (by decide +kernel) rfl rfl rfl (Nat.le_of_ble_eq_true rfl) rfl hr15 ?_
      subst h
      exact w_ireturn (by decide +kernel) (w_okI (by decide +kernel))
theorem t_262 {X : ak_X} {M : ak_M} {r : ak_O × ak_M} (hL : ab_lay M) (x1 : Int32) (h : (∃ (v2 : Int32) (M1 : ak_M), ab_lay M1 ∧ rn X 169 [.ref 483, .int x1] M (.inl (some (.int v2)), M1) ∧ (∃ (v4 : Int32) (M3 : ak_M), ab_lay M3 ∧ rn X 155 [.ref 483, .int v2] M1 (.inl (some (.int v4)), M3) ∧ (if v4 = 0 then r = (.inl (some (.int 0)), M3) else (∃ (v6 : Int32) (M5 : ak_M), ab_lay M5 ∧ rn X 175 [.ref 483, .int x1] M3 (.inl (some (.int v6)), M5) ∧ (∃ (v8 : Int32) (M7 : ak_M), ab_lay M7 ∧ rn X 156 [.ref 483, .int v6, .int 2] M5 (.inl (some (.int v8)), M7) ∧ (if v8 = 0 then r = (.inl (some (.int 0)), M7) else (∃ (M9 : ak_M), ab_lay M9 ∧ rn X 161 [.ref 483] M7 (.inl (none), M9) ∧ (∃ (M10 : ak_M), ab_lay M10 ∧ rn X 172 [.ref 483, .int x1, .int 0, .int 2] M9 (.inl (none), M10) ∧ (∃ (v12 : Int32) (M11 : ak_M), ab_lay M11 ∧ rn X 171 [.ref 483, .int x1, .int 3] M10 (.inl (some (.int v12)), M11) ∧ (∃ (v14 : Int32) (M13 : ak_M), ab_lay M13 ∧ rn X 162 [.ref 483, .int v12] M11 (.inl (some (.int v14)), M13) ∧ r = (.inl (some (.int v14)), M13)))))))))))) : rn X 262 [.ref 483, .int x1] M r := by
  refine w_rn (nL := 2) (l1 := [some (.ref 483), some (.int x1)]) (by decide +kernel) rfl rfl ?_
  refine w_aload_n (n := 1) (i := 0) (by decide +kernel) rfl rfl ?_
  refine w_aload_n (n := 2) (i := 0) (by decide +kernel) rfl rfl ?_
  refine w_iload_n (n := 3) (i := 1) (by decide +kernel) rfl rfl ?_
  obtain ⟨v2, M1, hLM1, hr24, h⟩ := h
  refine w_cV (n := 6) (idx := 88) (cal := 169) (na := 1) (nl := 2) (as := [.int x1]) (rest := [.ref 483]) hL (by decide +kernel) (by decide +kernel) (at_483) (by decide +kernel) rfl rfl rfl (Nat.le_of_ble_eq_true rfl) rfl hr24 ?_
  obtain ⟨v4, M3, hLM3, hr23, h⟩ := h
  refine w_cV (n := 9) (idx := 72) (cal := 155) (na := 1) (nl := 2) (as := [.int v2]) (rest := []) hLM1 (by decide +kernel) (by decide +kernel) (at_483) (by decide +kernel) rfl rfl rfl (Nat.le_of_ble_eq_true rfl) rfl hr23 ?_
  by_cases c22 : v4 = 0
  · rw [if_pos c22] at h
    refine w_if_eq_j (n := 25) (off := 16) (by decide +kernel) (by decide) c22 ?_
    refine w_iconst (n := 26) (v := 0) (x := 0) (by decide +kernel) rfl (by decide) ?_
    subst h
    exact w_ireturn (by decide +kernel) (w_okI (by decide +kernel))
  · rw [if_neg c22] at h
    refine w_if_eq_n (n := 12) (off := 16) (by decide +kernel) rfl c22 ?_
    refine w_aload_n (n := 13) (i := 0) (by decide +kernel) rfl rfl ?_
    refine w_aload_n (n := 14) (i := 0) (by decide +kernel) rfl rfl ?_
    refine w_iload_n (n := 15) (i := 1) (by decide +kernel) rfl rfl ?_
    obtain ⟨v6, M5, hLM5, hr21, h⟩ := h
    refine w_cV (n := 18) (idx := 99) (cal := 175) (na := 1) (nl := 2) (as := [.int x1]) (rest := [.ref 483]) hLM3 (by decide +kernel) (by decide +kernel) (at_483) (by decide +kernel) rfl rfl rfl (Nat.le_of_ble_eq_true rfl) rfl hr21 ?_
    refine w_iconst (n := 19) (v := 2) (x := 2) (by decide +kernel) rfl (by decide) ?_
    obtain ⟨v8, M7, hLM7, hr20, h⟩ := h
    refine w_cV (n := 22) (idx := 257) (cal := 156) (na := 2) (nl := 3) (as := [.int v6, .int 2]) (rest := []) hLM5 (by decide +kernel) (by decide +kernel) (at_483) (by decide +kernel) rfl rfl rfl (Nat.le_of_ble_eq_true rfl) rfl hr20 ?_
    by_cases c19 : v8 = 0
    · rw [if_pos c19] at h
      refine w_if_ne_n (n := 25) (off := 5) (by decide +kernel) rfl c19 ?_
      refine w_iconst (n := 26) (v := 0) (x := 0) (by decide +kernel) rfl (by decide) ?_
      subst h
      exact w_ireturn (by decide +kernel) (w_okI (by decide +kernel))
    · rw [if_neg c19] at h
      refine w_if_ne_j (n := 27) (off := 5) (by decide +kernel) (by decide) c19 ?_
      refine w_aload_n (n := 28) (i := 0) (by decide +kernel) rfl rfl ?_
      obtain ⟨M9, hLM9, hr18, h⟩ := h
      refine w_cV (n := 31) (idx := 314) (cal := 161) (na := 0) (nl := 1) (as := []) (rest := []) hLM7 (by decide +kernel) (by decide +kernel) (at_483) (by decide +kernel) rfl rfl rfl (Nat.le_of_ble_eq_true rfl) rfl hr18 ?_
      refine w_aload_n (n := 32) (i := 0) (by decide +kernel) rfl rfl ?_
      refine w_iload_n (n := 33) (i := 1) (by decide +kernel) rfl rfl ?_
      refine w_iconst (n := 34) (v := 0) (x := 0) (by decide +kernel) rfl (by decide) ?_
      refine w_iconst (n := 35) (v := 2) (x := 2) (by decide +kernel) rfl (by decide) ?_
      obtain ⟨M10, hLM10, hr17, h⟩ := h
      refine w_cV (n := 38) (idx := 96) (cal := 172) (na := 3) (nl := 4) (as := [.int x1, .int 0, .int 2]) (rest := []) hLM9 (by decide +kernel) (by decide +kernel) (at_483) (by decide +kernel) rfl rfl rfl (Nat.le_of_ble_eq_true rfl) rfl hr17 ?_
      refine w_aload_n (n := 39) (i := 0) (by decide +kernel) rfl rfl ?_
      refine w_aload_n (n := 40) (i := 0) (by decide +kernel) rfl rfl ?_
      refine w_iload_n (n := 41) (i := 1) (by decide +kernel) rfl rfl ?_
      refine w_iconst (n := 42) (v := 3) (x := 3) (by decide +kernel) rfl (by decide) ?_
      obtain ⟨v12, M11, hLM11, hr16, h⟩ := h
      refine w_cV (n := 45) (idx := 92) (cal := 171) (na := 2) (nl := 3) (as := [.int x1, .int 3]) (rest := [.ref 483]) hLM10 (by decide +kernel) (by decide +kernel) (at_483) (by decide +kernel) rfl rfl rfl (Nat.le_of_ble_eq_true rfl) rfl hr16 ?_
      obtain ⟨v14, M13, hLM13, hr15, h⟩ := h
      refine w_cV (n := 48) (idx := 317) (cal := 162) (na := 1) (nl := 2) (as := [.int v12]) (rest := []) hLM11 (by decide +kernel) (by decide +kernel) (at_483) (by decide +kernel) rfl rfl rfl (Nat.le_of_ble_eq_true rfl) rfl hr15 ?_
      subst h
      exact w_ireturn (by decide +kernel) (w_okI (by decide +kernel))
theorem t_263 {X : ak_X} {M : ak_M} {r : ak_O × ak_M} (hL : ab_lay M) (x1 : Int32) (x2 : Int32) (h : (∃ (v2 : Int32) (M1 : ak_M), ab_lay M1 ∧ rn X 169 [.ref 483, .int x1] M (.inl (some (.int v2)), M1) ∧ (∃ (v4 : Int32) (M3 : ak_M), ab_lay M3 ∧ rn X 155 [.ref 483, .int v2] M1 (.inl (some (.int v4)), M3) ∧ (if v4 = 0 then r = (.inl (some (.int 0)), M3) else (∃ (v6 : Int32) (M5 : ak_M), ab_lay M5 ∧ rn X 157 [.long (x2.toInt64), .long 1, .long 400] M3 (.inl (some (.int v6)), M5) ∧ (∃ (v8 : Int32) (M7 : ak_M), ab_lay M7 ∧ rn X 156 [.ref 483, .int v6, .int 2] M5 (.inl (some (.int v8)), M7) ∧ (if v8 = 0 then r = (.inl (some (.int 0)), M7) else (∃ (v10 : Int32) (M9 : ak_M), ab_lay M9 ∧ rn X 176 [.ref 483, .int x1] M7 (.inl (some (.int v10)), M9) ∧ (∃ (v12 : Int32) (M11 : ak_M), ab_lay M11 ∧ rn X 156 [.ref 483, .int v10, .int 3] M9 (.inl (some (.int v12)), M11) ∧ (if v12 = 0 then r = (.inl (some (.int 0)), M11) else (∃ (M13 : ak_M), ab_lay M13 ∧ rn X 161 [.ref 483] M11 (.inl (none), M13) ∧ (∃ (v15 : Int32) (M14 : ak_M), ab_lay M14 ∧ rn X 171 [.ref 483, .int x1, .int 6] M13 (.inl (some (.int v15)), M14) ∧ (∃ (M16 : ak_M), ab_lay M16 ∧ rn X 172 [.ref 483, .int x1, .int 6, .int x2] M14 (.inl (none), M16) ∧ (∃ (v18 : Int32) (M17 : ak_M), ab_lay M17 ∧ rn X 162 [.ref 483, .int v15] M16 (.inl (some (.int v18)), M17) ∧ r = (.inl (some (.int v18)), M17))))))))))))))) : rn X 263 [.ref 483, .int x1, .int x2] M r := by
  refine w_rn (nL := 4) (l1 := [some (.ref 483), some (.int x1), some (.int x2), none]) (by decide +kernel) rfl rfl ?_
  refine w_aload_n (n := 1) (i := 0) (by decide +kernel) rfl rfl ?_
  refine w_aload_n (n := 2) (i := 0) (by decide +kernel) rfl rfl ?_
  refine w_iload_n (n := 3) (i := 1) (by decide +kernel) rfl rfl ?_
  obtain ⟨v2, M1, hLM1, hr31, h⟩ := h
  refine w_cV (n := 6) (idx := 88) (cal := 169) (na := 1) (nl := 2) (as := [.int x1]) (rest := [.ref 483]) hL (by decide +kernel) (by decide +kernel) (at_483) (by decide +kernel) rfl rfl rfl (Nat.le_of_ble_eq_true rfl) rfl hr31 ?_
  obtain ⟨v4, M3, hLM3, hr30, h⟩ := h
  refine w_cV (n := 9) (idx := 72) (cal := 155) (na := 1) (nl := 2) (as := [.int v2]) (rest := []) hLM1 (by decide +kernel) (by decide +kernel) (at_483) (by decide +kernel) rfl rfl rfl (Nat.le_of_ble_eq_true rfl) rfl hr30 ?_
  by_cases c29 : v4 = 0
  · rw [if_pos c29] at h
    refine w_if_eq_j (n := 42) (off := 33) (by decide +kernel) (by decide) c29 ?_
    refine w_iconst (n := 43) (v := 0) (x := 0) (by decide +kernel) rfl (by decide) ?_
    subst h
    exact w_ireturn (by decide +kernel) (w_okI (by decide +kernel))
  · rw [if_neg c29] at h
    refine w_if_eq_n (n := 12) (off := 33) (by decide +kernel) rfl c29 ?_
    refine w_aload_n (n := 13) (i := 0) (by decide +kernel) rfl rfl ?_
    refine w_iload_n (n := 14) (i := 2) (by decide +kernel) rfl rfl ?_
    refine w_i2l (n := 15) (by decide +kernel) rfl ?_
    refine w_lconst (n := 16) (v := 1) (x := 1) (by decide +kernel) rfl (by decide) ?_
    refine w_ldc2 (n := 19) (idx := 327) (v := 400) (by decide +kernel) oO_263 (by decide +kernel) rfl ?_
    obtain ⟨v6, M5, hLM5, hr28, h⟩ := h
    refine w_cS (n := 22) (idx := 84) (cal := 157) (na := 3) (nl := 6) (as := [.long (x2.toInt64), .long 1, .long 400]) (rest := [.ref 483]) (by decide +kernel) (by decide +kernel) rfl rfl rfl (Nat.le_of_ble_eq_true rfl) rfl hr28 ?_
    refine w_iconst (n := 23) (v := 2) (x := 2) (by decide +kernel) rfl (by decide) ?_
    obtain ⟨v8, M7, hLM7, hr27, h⟩ := h
    refine w_cV (n := 26) (idx := 257) (cal := 156) (na := 2) (nl := 3) (as := [.int v6, .int 2]) (rest := []) hLM5 (by decide +kernel) (by decide +kernel) (at_483) (by decide +kernel) rfl rfl rfl (Nat.le_of_ble_eq_true rfl) rfl hr27 ?_
    by_cases c26 : v8 = 0
    · rw [if_pos c26] at h
      refine w_if_eq_j (n := 42) (off := 16) (by decide +kernel) (by decide) c26 ?_
      refine w_iconst (n := 43) (v := 0) (x := 0) (by decide +kernel) rfl (by decide) ?_
      subst h
      exact w_ireturn (by decide +kernel) (w_okI (by decide +kernel))
    · rw [if_neg c26] at h
      refine w_if_eq_n (n := 29) (off := 16) (by decide +kernel) rfl c26 ?_
      refine w_aload_n (n := 30) (i := 0) (by decide +kernel) rfl rfl ?_
      refine w_aload_n (n := 31) (i := 0) (by decide +kernel) rfl rfl ?_
      refine w_iload_n (n := 32) (i := 1) (by decide +kernel) rfl rfl ?_
      obtain ⟨v10, M9, hLM9, hr25, h⟩ := h
      refine w_cV (n := 35) (idx := 185) (cal := 176) (na := 1) (nl := 2) (as := [.int x1]) (rest := [.ref 483]) hLM7 (by decide +kernel) (by decide +kernel) (at_483) (by decide +kernel) rfl rfl rfl (Nat.le_of_ble_eq_true rfl) rfl hr25 ?_
      refine w_iconst (n := 36) (v := 3) (x := 3) (by decide +kernel) rfl (by decide) ?_
      obtain ⟨v12, M11, hLM11, hr24, h⟩ := h
      refine w_cV (n := 39) (idx := 257) (cal := 156) (na := 2) (nl := 3) (as := [.int v10, .int 3]) (rest := []) hLM9 (by decide +kernel) (by decide +kernel) (at_483) (by decide +kernel) rfl rfl rfl (Nat.le_of_ble_eq_true rfl) rfl hr24 ?_
      by_cases c23 : v12 = 0
      · rw [if_pos c23] at h
        refine w_if_ne_n (n := 42) (off := 5) (by decide +kernel) rfl c23 ?_
        refine w_iconst (n := 43) (v := 0) (x := 0) (by decide +kernel) rfl (by decide) ?_
        subst h
        exact w_ireturn (by decide +kernel) (w_okI (by decide +kernel))
      · rw [if_neg c23] at h
        refine w_if_ne_j (n := 44) (off := 5) (by decide +kernel) (by decide) c23 ?_
        refine w_aload_n (n := 45) (i := 0) (by decide +kernel) rfl rfl ?_
        obtain ⟨M13, hLM13, hr22, h⟩ := h
        refine w_cV (n := 48) (idx := 314) (cal := 161) (na := 0) (nl := 1) (as := []) (rest := []) hLM11 (by decide +kernel) (by decide +kernel) (at_483) (by decide +kernel) rfl rfl rfl (Nat.le_of_ble_eq_true rfl) rfl hr22 ?_
        refine w_aload_n (n := 49) (i := 0) (by decide +kernel) rfl rfl ?_
        refine w_iload_n (n := 50) (i := 1) (by decide +kernel) rfl rfl ?_
        refine w_bipush (n := 52) (v := 6) (x := 6) (by decide +kernel) rfl (by decide) ?_
        obtain ⟨v15, M14, hLM14, hr21, h⟩ := h
        refine w_cV (n := 55) (idx := 92) (cal := 171) (na := 2) (nl := 3) (as := [.int x1, .int 6]) (rest := []) hLM13 (by decide +kernel) (by decide +kernel) (at_483) (by decide +kernel) rfl rfl rfl (Nat.le_of_ble_eq_true rfl) rfl hr21 ?_
        refine w_istore_n (n := 56) (i := 3) (l1' := [some (.ref 483), some (.int x1), some (.int x2), some (.int v15)]) (l2' := []) (by decide +kernel) rfl (Nat.le_of_ble_eq_true rfl) rfl rfl ?_
        refine w_aload_n (n := 57) (i := 0) (by decide +kernel) rfl rfl ?_
        refine w_iload_n (n := 58) (i := 1) (by decide +kernel) rfl rfl ?_
        refine w_bipush (n := 60) (v := 6) (x := 6) (by decide +kernel) rfl (by decide) ?_
        refine w_iload_n (n := 61) (i := 2) (by decide +kernel) rfl rfl ?_
        obtain ⟨M16, hLM16, hr20, h⟩ := h
        refine w_cV (n := 64) (idx := 96) (cal := 172) (na := 3) (nl := 4) (as := [.int x1, .int 6, .int x2]) (rest := []) hLM14 (by decide +kernel) (by decide +kernel) (at_483) (by decide +kernel) rfl rfl rfl (Nat.le_of_ble_eq_true rfl) rfl hr20 ?_
        refine w_aload_n (n := 65) (i := 0) (by decide +kernel) rfl rfl ?_
        refine w_iload_n (n := 66) (i := 3) (by decide +kernel) rfl rfl ?_
        obtain ⟨v18, M17, hLM17, hr19, h⟩ := h
        refine w_cV (n := 69) (idx := 317) (cal := 162) (na := 1) (nl := 2) (as := [.int v15]) (rest := []) hLM16 (by decide +kernel) (by decide +kernel) (at_483) (by decide +kernel) rfl rfl rfl (Nat.le_of_ble_eq_true rfl) rfl hr19 ?_
        subst h
        exact w_ireturn (by decide +kernel) (w_okI (by decide +kernel))
theorem t_264 {X : ak_X} {M : ak_M} {r : ak_O × ak_M} (hL : ab_lay M) (x1 : Int32) (x2 : Int32) (x3 : Int32) (h : (∃ (v2 : Int32) (M1 : ak_M), ab_lay M1 ∧ rn X 169 [.ref 483, .int x1] M (.inl (some (.int v2)), M1) ∧ (∃ (v4 : Int32) (M3 : ak_M), ab_lay M3 ∧ rn X 155 [.ref 483, .int v2] M1 (.inl (some (.int v4)), M3) ∧ (if v4 = 0 then r = (.inl (some (.int 0)), M3) else (∃ (v6 : Int32) (M5 : ak_M), ab_lay M5 ∧ rn X 232 [.int x2, .int x3] M3 (.inl (some (.int v6)), M5) ∧ (∃ (v8 : Int32) (M7 : ak_M), ab_lay M7 ∧ rn X 156 [.ref 483, .int v6, .int 2] M5 (.inl (some (.int v8)), M7) ∧ (if v8 = 0 then r = (.inl (some (.int 0)), M7) else (∃ (M9 : ak_M), ab_lay M9 ∧ rn X 161 [.ref 483] M7 (.inl (none), M9) ∧ (∃ (v11 : Int32) (M10 : ak_M), ab_lay M10 ∧ rn X 171 [.ref 483, .int x1, .int 4] M9 (.inl (some (.int v11)), M10) ∧ (∃ (v13 : Int32) (M12 : ak_M), ab_lay M12 ∧ rn X 314 [.int (v11 - x2)] M10 (.inl (some (.int v13)), M12) ∧ (∃ (v15 : Int32) (M14 : ak_M), ab_lay M14 ∧ rn X 171 [.ref 483, .int x1, .int 5] M12 (.inl (some (.int v15)), M14) ∧ (∃ (v17 : Int32) (M16 : ak_M), ab_lay M16 ∧ rn X 314 [.int (v15 - x3)] M14 (.inl (some (.int v17)), M16) ∧ (∃ (M18 : ak_M), ab_lay M18 ∧ rn X 172 [.ref 483, .int x1, .int 4, .int x2] M16 (.inl (none), M18) ∧ (∃ (M19 : ak_M), ab_lay M19 ∧ rn X 172 [.ref 483, .int x1, .int 5, .int x3] M18 (.inl (none), M19) ∧ (∃ (v21 : Int32) (M20 : ak_M), ab_lay M20 ∧ rn X 171 [.ref 483, .int x1, .int 0] M19 (.inl (some (.int v21)), M20) ∧ (if v21 = 1 then (∃ (M25 : ak_M), ab_lay M25 ∧ rn X 259 [.ref 483, .int x1] M20 (.inl (none), M25) ∧ (∃ (v27 : Int32) (M26 : ak_M), ab_lay M26 ∧ rn X 162 [.ref 483, .int (v13 + v17)] M25 (.inl (some (.int v27)), M26) ∧ r = (.inl (some (.int v27)), M26))) else (∃ (v23 : Int32) (M22 : ak_M), ab_lay M22 ∧ rn X 162 [.ref 483, .int (v13 + v17)] M20 (.inl (some (.int v23)), M22) ∧ r = (.inl (some (.int v23)), M22)))))))))))))))))) : rn X 264 [.ref 483, .int x1, .int x2, .int x3] M r := by
  refine w_rn (nL := 5) (l1 := [some (.ref 483), some (.int x1), some (.int x2), some (.int x3), none]) (by decide +kernel) rfl rfl ?_
  refine w_aload_n (n := 1) (i := 0) (by decide +kernel) rfl rfl ?_
  refine w_aload_n (n := 2) (i := 0) (by decide +kernel) rfl rfl ?_
  refine w_iload_n (n := 3) (i := 1) (by decide +kernel) rfl rfl ?_
  obtain ⟨v2, M1, hLM1, hr44, h⟩ := h
  refine w_cV (n := 6) (idx := 88) (cal := 169) (na := 1) (nl := 2) (as := [.int x1]) (rest := [.ref 483]) hL (by decide +kernel) (by decide +kernel) (at_483) (by decide +kernel) rfl rfl rfl (Nat.le_of_ble_eq_true rfl) rfl hr44 ?_
  obtain ⟨v4, M3, hLM3, hr43, h⟩ := h
  refine w_cV (n := 9) (idx := 72) (cal := 155) (na := 1) (nl := 2) (as := [.int v2]) (rest := []) hLM1 (by decide +kernel) (by decide +kernel) (at_483) (by decide +kernel) rfl rfl rfl (Nat.le_of_ble_eq_true rfl) rfl hr43 ?_
  by_cases c42 : v4 = 0
  · rw [if_pos c42] at h
    refine w_if_eq_j (n := 25) (off := 16) (by decide +kernel) (by decide) c42 ?_
    refine w_iconst (n := 26) (v := 0) (x := 0) (by decide +kernel) rfl (by decide) ?_
    subst h
    exact w_ireturn (by decide +kernel) (w_okI (by decide +kernel))
  · rw [if_neg c42] at h
    refine w_if_eq_n (n := 12) (off := 16) (by decide +kernel) rfl c42 ?_
    refine w_aload_n (n := 13) (i := 0) (by decide +kernel) rfl rfl ?_
    refine w_iload_n (n := 14) (i := 2) (by decide +kernel) rfl rfl ?_
    refine w_iload_n (n := 15) (i := 3) (by decide +kernel) rfl rfl ?_
    obtain ⟨v6, M5, hLM5, hr41, h⟩ := h
    refine w_cS (n := 18) (idx := 272) (cal := 232) (na := 2) (nl := 2) (as := [.int x2, .int x3]) (rest := [.ref 483]) (by decide +kernel) (by decide +kernel) rfl rfl rfl (Nat.le_of_ble_eq_true rfl) rfl hr41 ?_
    refine w_iconst (n := 19) (v := 2) (x := 2) (by decide +kernel) rfl (by decide) ?_
    obtain ⟨v8, M7, hLM7, hr40, h⟩ := h
    refine w_cV (n := 22) (idx := 257) (cal := 156) (na := 2) (nl := 3) (as := [.int v6, .int 2]) (rest := []) hLM5 (by decide +kernel) (by decide +kernel) (at_483) (by decide +kernel) rfl rfl rfl (Nat.le_of_ble_eq_true rfl) rfl hr40 ?_
    by_cases c39 : v8 = 0
    · rw [if_pos c39] at h
      refine w_if_ne_n (n := 25) (off := 5) (by decide +kernel) rfl c39 ?_
      refine w_iconst (n := 26) (v := 0) (x := 0) (by decide +kernel) rfl (by decide) ?_
      subst h
      exact w_ireturn (by decide +kernel) (w_okI (by decide +kernel))
    · rw [if_neg c39] at h
      refine w_if_ne_j (n := 27) (off := 5) (by decide +kernel) (by decide) c39 ?_
      refine w_aload_n (n := 28) (i := 0) (by decide +kernel) rfl rfl ?_
      obtain ⟨M9, hLM9, hr38, h⟩ := h
      refine w_cV (n := 31) (idx := 314) (cal := 161) (na := 0) (nl := 1) (as := []) (rest := []) hLM7 (by decide +kernel) (by decide +kernel) (at_483) (by decide +kernel) rfl rfl rfl (Nat.le_of_ble_eq_true rfl) rfl hr38 ?_
      refine w_aload_n (n := 32) (i := 0) (by decide +kernel) rfl rfl ?_
      refine w_iload_n (n := 33) (i := 1) (by decide +kernel) rfl rfl ?_
      refine w_iconst (n := 34) (v := 4) (x := 4) (by decide +kernel) rfl (by decide) ?_
      obtain ⟨v11, M10, hLM10, hr37, h⟩ := h
      refine w_cV (n := 37) (idx := 92) (cal := 171) (na := 2) (nl := 3) (as := [.int x1, .int 4]) (rest := []) hLM9 (by decide +kernel) (by decide +kernel) (at_483) (by decide +kernel) rfl rfl rfl (Nat.le_of_ble_eq_true rfl) rfl hr37 ?_
      refine w_iload_n (n := 38) (i := 2) (by decide +kernel) rfl rfl ?_
      refine w_isub (n := 39) (by decide +kernel) rfl ?_
      obtain ⟨v13, M12, hLM12, hr36, h⟩ := h
      refine w_cS (n := 42) (idx := 105) (cal := 314) (na := 1) (nl := 1) (as := [.int (v11 - x2)]) (rest := []) (by decide +kernel) (by decide +kernel) rfl rfl rfl (Nat.le_of_ble_eq_true rfl) rfl hr36 ?_
      refine w_aload_n (n := 43) (i := 0) (by decide +kernel) rfl rfl ?_
      refine w_iload_n (n := 44) (i := 1) (by decide +kernel) rfl rfl ?_
      refine w_iconst (n := 45) (v := 5) (x := 5) (by decide +kernel) rfl (by decide) ?_
      obtain ⟨v15, M14, hLM14, hr35, h⟩ := h
      refine w_cV (n := 48) (idx := 92) (cal := 171) (na := 2) (nl := 3) (as := [.int x1, .int 5]) (rest := [.int v13]) hLM12 (by decide +kernel) (by decide +kernel) (at_483) (by decide +kernel) rfl rfl rfl (Nat.le_of_ble_eq_true rfl) rfl hr35 ?_
      refine w_iload_n (n := 49) (i := 3) (by decide +kernel) rfl rfl ?_
      refine w_isub (n := 50) (by decide +kernel) rfl ?_
      obtain ⟨v17, M16, hLM16, hr34, h⟩ := h
      refine w_cS (n := 53) (idx := 105) (cal := 314) (na := 1) (nl := 1) (as := [.int (v15 - x3)]) (rest := [.int v13]) (by decide +kernel) (by decide +kernel) rfl rfl rfl (Nat.le_of_ble_eq_true rfl) rfl hr34 ?_
      refine w_iadd (n := 54) (by decide +kernel) rfl ?_
      refine w_istore (n := 56) (i := 4) (l1' := [some (.ref 483), some (.int x1), some (.int x2), some (.int x3), some (.int (v13 + v17))]) (l2' := []) (by decide +kernel) rfl (Nat.le_of_ble_eq_true rfl) rfl rfl ?_
      refine w_aload_n (n := 57) (i := 0) (by decide +kernel) rfl rfl ?_
      refine w_iload_n (n := 58) (i := 1) (by decide +kernel) rfl rfl ?_
      refine w_iconst (n := 59) (v := 4) (x := 4) (by decide +kernel) rfl (by decide) ?_
      refine w_iload_n (n := 60) (i := 2) (by decide +kernel) rfl rfl ?_
      obtain ⟨M18, hLM18, hr33, h⟩ := h
      refine w_cV (n := 63) (idx := 96) (cal := 172) (na := 3) (nl := 4) (as := [.int x1, .int 4, .int x2]) (rest := []) hLM16 (by decide +kernel) (by decide +kernel) (at_483) (by decide +kernel) rfl rfl rfl (Nat.le_of_ble_eq_true rfl) rfl hr33 ?_
      refine w_aload_n (n := 64) (i := 0) (by decide +kernel) rfl rfl ?_
      refine w_iload_n (n := 65) (i := 1) (by decide +kernel) rfl rfl ?_
      refine w_iconst (n := 66) (v := 5) (x := 5) (by decide +kernel) rfl (by decide) ?_
      refine w_iload_n (n := 67) (i := 3) (by decide +kernel) rfl rfl ?_
      obtain ⟨M19, hLM19, hr32, h⟩ := h
      refine w_cV (n := 70) (idx := 96) (cal := 172) (na := 3) (nl := 4) (as := [.int x1, .int 5, .int x3]) (rest := []) hLM18 (by decide +kernel) (by decide +kernel) (at_483) (by decide +kernel) rfl rfl rfl (Nat.le_of_ble_eq_true rfl) rfl hr32 ?_
      refine w_aload_n (n := 71) (i := 0) (by decide +kernel) rfl rfl ?_
      refine w_iload_n (n := 72) (i := 1) (by decide +kernel) rfl rfl ?_
      refine w_iconst (n := 73) (v := 0) (x := 0) (by decide +kernel) rfl (by decide) ?_
      obtain ⟨v21, M20, hLM20, hr31, h⟩ := h
      refine w_cV (n := 76) (idx := 92) (cal := 171) (na := 2) (nl := 3) (as := [.int x1, .int 0]) (rest := []) hLM19 (by decide +kernel) (by decide +kernel) (at_483) (by decide +kernel) rfl rfl rfl (Nat.le_of_ble_eq_true rfl) rfl hr31 ?_
      refine w_iconst (n := 77) (v := 1) (x := 1) (by decide +kernel) rfl (by decide) ?_
      by_cases c30 : v21 = 1
      · rw [if_pos c30] at h
        refine w_icmp_ne_n (n := 80) (off := 8) (by decide +kernel) rfl c30 ?_
        refine w_aload_n (n := 81) (i := 0) (by decide +kernel) rfl rfl ?_
        refine w_iload_n (n := 82) (i := 1) (by decide +kernel) rfl rfl ?_
        obtain ⟨M25, hLM25, hr29, h⟩ := h
        refine w_cV (n := 85) (idx := 320) (cal := 259) (na := 1) (nl := 2) (as := [.int x1]) (rest := []) hLM20 (by decide +kernel) (by decide +kernel) (at_483) (by decide +kernel) rfl rfl rfl (Nat.le_of_ble_eq_true rfl) rfl hr29 ?_
        refine w_aload_n (n := 86) (i := 0) (by decide +kernel) rfl rfl ?_
        refine w_iload (n := 88) (i := 4) (by decide +kernel) rfl rfl ?_
        obtain ⟨v27, M26, hLM26, hr28, h⟩ := h
        refine w_cV (n := 91) (idx := 317) (cal := 162) (na := 1) (nl := 2) (as := [.int (v13 + v17)]) (rest := []) hLM25 (by decide +kernel) (by decide +kernel) (at_483) (by decide +kernel) rfl rfl rfl (Nat.le_of_ble_eq_true rfl) rfl hr28 ?_
        subst h
        exact w_ireturn (by decide +kernel) (w_okI (by decide +kernel))
      · rw [if_neg c30] at h
        refine w_icmp_ne_j (n := 85) (off := 8) (by decide +kernel) (by decide) c30 ?_
        refine w_aload_n (n := 86) (i := 0) (by decide +kernel) rfl rfl ?_
        refine w_iload (n := 88) (i := 4) (by decide +kernel) rfl rfl ?_
        obtain ⟨v23, M22, hLM22, hr24, h⟩ := h
        refine w_cV (n := 91) (idx := 317) (cal := 162) (na := 1) (nl := 2) (as := [.int (v13 + v17)]) (rest := []) hLM20 (by decide +kernel) (by decide +kernel) (at_483) (by decide +kernel) rfl rfl rfl (Nat.le_of_ble_eq_true rfl) rfl hr24 ?_
        subst h
        exact w_ireturn (by decide +kernel) (w_okI (by decide +kernel))
theorem t_265 {X : ak_X} {M : ak_M} {r : ak_O × ak_M} (hL : ab_lay M) (x1 : Int32) (x2 : Int32) (x3 : Int32) (h : (∃ (v2 : Int32) (M1 : ak_M), ab_lay M1 ∧ rn X 169 [.ref 483, .int x1] M (.inl (some (.int v2)), M1) ∧ (∃ (v4 : Int32) (M3 : ak_M), ab_lay M3 ∧ rn X 155 [.ref 483, .int v2] M1 (.inl (some (.int v4)), M3) ∧ (if v4 = 0 then sg X 265 (82, [some (.ref 483), some (.int x1), some (.int x2), some (.int x3), none], [], []) M3 r else (∃ (v6 : Int32) (M5 : ak_M), ab_lay M5 ∧ rn X 157 [.long (x2.toInt64), .long 0, .long 9] M3 (.inl (some (.int v6)), M5) ∧ (if v6 = 0 then (∃ (v8 : Int32) (M7 : ak_M), ab_lay M7 ∧ rn X 156 [.ref 483, .int 0, .int 2] M5 (.inl (some (.int v8)), M7) ∧ (if v8 = 0 then sg X 265 (82, [some (.ref 483), some (.int x1), some (.int x2), some (.int x3), none], [], []) M7 r else (∃ (v10 : Int32) (M9 : ak_M), ab_lay M9 ∧ rn X 171 [.ref 483, .int x1, .int 0] M7 (.inl (some (.int v10)), M9) ∧ (if v10 = 1 then (∃ (v12 : Int32) (M11 : ak_M), ab_lay M11 ∧ rn X 156 [.ref 483, .int 1, .int 3] M9 (.inl (some (.int v12)), M11) ∧ (if v12 = 0 then sg X 265 (82, [some (.ref 483), some (.int x1), some (.int x2), some (.int x3), none], [], []) M11 r else (∃ (M13 : ak_M), ab_lay M13 ∧ rn X 161 [.ref 483] M11 (.inl (none), M13) ∧ (∃ (v15 : Int32) (M14 : ak_M), ab_lay M14 ∧ rn X 171 [.ref 483, .int x1, .int 10] M13 (.inl (some (.int v15)), M14) ∧ (∃ (v17 : Int32) (M16 : ak_M), ab_lay M16 ∧ rn X 171 [.ref 483, .int x1, .int 0] M14 (.inl (some (.int v17)), M16) ∧ (if v17 = 4 then (∃ (M18 : ak_M), ab_lay M18 ∧ rn X 172 [.ref 483, .int x1, .int 0, .int 1] M16 (.inl (none), M18) ∧ (∃ (M19 : ak_M), ab_lay M19 ∧ rn X 172 [.ref 483, .int x1, .int 3, .int 0] M18 (.inl (none), M19) ∧ (∃ (M20 : ak_M), ab_lay M20 ∧ rn X 259 [.ref 483, .int x1] M19 (.inl (none), M20) ∧ sg X 265 (126, [some (.ref 483), some (.int x1), some (.int x2), some (.int x3), some (.int v15)], [], []) M20 r))) else sg X 265 (126, [some (.ref 483), some (.int x1), some (.int x2), some (.int x3), some (.int v15)], [], []) M16 r)))))) else (∃ (v31 : Int32) (M30 : ak_M), ab_lay M30 ∧ rn X 171 [.ref 483, .int x1, .int 0] M9 (.inl (some (.int v31)), M30) ∧ (if v31 = 4 then (∃ (v52 : Int32) (M51 : ak_M), ab_lay M51 ∧ rn X 156 [.ref 483, .int 1, .int 3] M30 (.inl (some (.int v52)), M51) ∧ (if v52 = 0 then sg X 265 (82, [some (.ref 483), some (.int x1), some (.int x2), some (.int x3), none], [], []) M51 r else (∃ (M53 : ak_M), ab_lay M53 ∧ rn X 161 [.ref 483] M51 (.inl (none), M53) ∧ (∃ (v55 : Int32) (M54 : ak_M), ab_lay M54 ∧ rn X 171 [.ref 483, .int x1, .int 10] M53 (.inl (some (.int v55)), M54) ∧ (∃ (v57 : Int32) (M56 : ak_M), ab_lay M56 ∧ rn X 171 [.ref 483, .int x1, .int 0] M54 (.inl (some (.int v57)), M56) ∧ (if v57 = 4 then (∃ (M58 : ak_M), ab_lay M58 ∧ rn X 172 [.ref 483, .int x1, .int 0, .int 1] M56 (.inl (none), M58) ∧ (∃ (M59 : ak_M), ab_lay M59 ∧ rn X 172 [.ref 483, .int x1, .int 3, .int 0] M58 (.inl (none), M59) ∧ (∃ (M60 : ak_M), ab_lay M60 ∧ rn X 259 [.ref 483, .int x1] M59 (.inl (none), M60) ∧ sg X 265 (126, [some (.ref 483), some (.int x1), some (.int x2), some (.int x3), some (.int v55)], [], []) M60 r))) else sg X 265 (126, [some (.ref 483), some (.int x1), some (.int x2), some (.int x3), some (.int v55)], [], []) M56 r)))))) else (∃ (v33 : Int32) (M32 : ak_M), ab_lay M32 ∧ rn X 156 [.ref 483, .int 0, .int 3] M30 (.inl (some (.int v33)), M32) ∧ (if v33 = 0 then sg X 265 (82, [some (.ref 483), some (.int x1), some (.int x2), some (.int x3), none], [], []) M32 r else (∃ (M34 : ak_M), ab_lay M34 ∧ rn X 161 [.ref 483] M32 (.inl (none), M34) ∧ (∃ (v36 : Int32) (M35 : ak_M), ab_lay M35 ∧ rn X 171 [.ref 483, .int x1, .int 10] M34 (.inl (some (.int v36)), M35) ∧ (∃ (v38 : Int32) (M37 : ak_M), ab_lay M37 ∧ rn X 171 [.ref 483, .int x1, .int 0] M35 (.inl (some (.int v38)), M37) ∧ (if v38 = 4 then (∃ (M39 : ak_M), ab_lay M39 ∧ rn X 172 [.ref 483, .int x1, .int 0, .int 1] M37 (.inl (none), M39) ∧ (∃ (M40 : ak_M), ab_lay M40 ∧ rn X 172 [.ref 483, .int x1, .int 3, .int 0] M39 (.inl (none), M40) ∧ (∃ (M41 : ak_M), ab_lay M41 ∧ rn X 259 [.ref 483, .int x1] M40 (.inl (none), M41) ∧ sg X 265 (126, [some (.ref 483), some (.int x1), some (.int x2), some (.int x3), some (.int v36)], [], []) M41 r))) else sg X 265 (126, [some (.ref 483), some (.int x1), some (.int x2), some (.int x3), some (.int v36)], [], []) M37 r)))))))))))) else (∃ (v77 : Int32) (M76 : ak_M), ab_lay M76 ∧ rn X 157 [.long (x3.toInt64), .long 1, .long 99] M5 (.inl (some (.int v77)), M76) ∧ (if v77 = 0 then (∃ (v79 : Int32) (M78 : ak_M), ab_lay M78 ∧ rn X 156 [.ref 483, .int 0, .int 2] M76 (.inl (some (.int v79)), M78) ∧ (if v79 = 0 then sg X 265 (82, [some (.ref 483), some (.int x1), some (.int x2), some (.int x3), none], [], []) M78 r else (∃ (v81 : Int32) (M80 : ak_M), ab_lay M80 ∧ rn X 171 [.ref 483, .int x1, .int 0] M78 (.inl (some (.int v81)), M80) ∧ (if v81 = 1 then (∃ (v83 : Int32) (M82 : ak_M), ab_lay M82 ∧ rn X 156 [.ref 483, .int 1, .int 3] M80 (.inl (some (.int v83)), M82) ∧ (if v83 = 0 then sg X 265 (82, [some (.ref 483), some (.int x1), some (.int x2), some (.int x3), none], [], []) M82 r else (∃ (M84 : ak_M), ab_lay M84 ∧ rn X 161 [.ref 483] M82 (.inl (none), M84) ∧ (∃ (v86 : Int32) (M85 : ak_M), ab_lay M85 ∧ rn X 171 [.ref 483, .int x1, .int 10] M84 (.inl (some (.int v86)), M85) ∧ (∃ (v88 : Int32) (M87 : ak_M), ab_lay M87 ∧ rn X 171 [.ref 483, .int x1, .int 0] M85 (.inl (some (.int v88)), M87) ∧ (if v88 = 4 then (∃ (M89 : ak_M), ab_lay M89 ∧ rn X 172 [.ref 483, .int x1, .int 0, .int 1] M87 (.inl (none), M89) ∧ (∃ (M90 : ak_M), ab_lay M90 ∧ rn X 172 [.ref 483, .int x1, .int 3, .int 0] M89 (.inl (none), M90) ∧ (∃ (M91 : ak_M), ab_lay M91 ∧ rn X 259 [.ref 483, .int x1] M90 (.inl (none), M91) ∧ sg X 265 (126, [some (.ref 483), some (.int x1), some (.int x2), some (.int x3), some (.int v86)], [], []) M91 r))) else sg X 265 (126, [some (.ref 483), some (.int x1), some (.int x2), some (.int x3), some (.int v86)], [], []) M87 r)))))) else (∃ (v102 : Int32) (M101 : ak_M), ab_lay M101 ∧ rn X 171 [.ref 483, .int x1, .int 0] M80 (.inl (some (.int v102)), M101) ∧ (if v102 = 4 then (∃ (v123 : Int32) (M122 : ak_M), ab_lay M122 ∧ rn X 156 [.ref 483, .int 1, .int 3] M101 (.inl (some (.int v123)), M122) ∧ (if v123 = 0 then sg X 265 (82, [some (.ref 483), some (.int x1), some (.int x2), some (.int x3), none], [], []) M122 r else (∃ (M124 : ak_M), ab_lay M124 ∧ rn X 161 [.ref 483] M122 (.inl (none), M124) ∧ (∃ (v126 : Int32) (M125 : ak_M), ab_lay M125 ∧ rn X 171 [.ref 483, .int x1, .int 10] M124 (.inl (some (.int v126)), M125) ∧ (∃ (v128 : Int32) (M127 : ak_M), ab_lay M127 ∧ rn X 171 [.ref 483, .int x1, .int 0] M125 (.inl (some (.int v128)), M127) ∧ (if v128 = 4 then (∃ (M129 : ak_M), ab_lay M129 ∧ rn X 172 [.ref 483, .int x1, .int 0, .int 1] M127 (.inl (none), M129) ∧ (∃ (M130 : ak_M), ab_lay M130 ∧ rn X 172 [.ref 483, .int x1, .int 3, .int 0] M129 (.inl (none), M130) ∧ (∃ (M131 : ak_M), ab_lay M131 ∧ rn X 259 [.ref 483, .int x1] M130 (.inl (none), M131) ∧ sg X 265 (126, [some (.ref 483), some (.int x1), some (.int x2), some (.int x3), some (.int v126)], [], []) M131 r))) else sg X 265 (126, [some (.ref 483), some (.int x1), some (.int x2), some (.int x3), some (.int v126)], [], []) M127 r)))))) else (∃ (v104 : Int32) (M103 : ak_M), ab_lay M103 ∧ rn X 156 [.ref 483, .int 0, .int 3] M101 (.inl (some (.int v104)), M103) ∧ (if v104 = 0 then sg X 265 (82, [some (.ref 483), some (.int x1), some (.int x2), some (.int x3), none], [], []) M103 r else (∃ (M105 : ak_M), ab_lay M105 ∧ rn X 161 [.ref 483] M103 (.inl (none), M105) ∧ (∃ (v107 : Int32) (M106 : ak_M), ab_lay M106 ∧ rn X 171 [.ref 483, .int x1, .int 10] M105 (.inl (some (.int v107)), M106) ∧ (∃ (v109 : Int32) (M108 : ak_M), ab_lay M108 ∧ rn X 171 [.ref 483, .int x1, .int 0] M106 (.inl (some (.int v109)), M108) ∧ (if v109 = 4 then (∃ (M110 : ak_M), ab_lay M110 ∧ rn X 172 [.ref 483, .int x1, .int 0, .int 1] M108 (.inl (none), M110) ∧ (∃ (M111 : ak_M), ab_lay M111 ∧ rn X 172 [.ref 483, .int x1, .int 3, .int 0] M110 (.inl (none), M111) ∧ (∃ (M112 : ak_M), ab_lay M112 ∧ rn X 259 [.ref 483, .int x1] M111 (.inl (none), M112) ∧ sg X 265 (126, [some (.ref 483), some (.int x1), some (.int x2), some (.int x3), some (.int v107)], [], []) M112 r))) else sg X 265 (126, [some (.ref 483), some (.int x1), some (.int x2), some (.int x3), some (.int v107)], [], []) M108 r)))))))))))) else (∃ (v148 : Int32) (M147 : ak_M), ab_lay M147 ∧ rn X 156 [.ref 483, .int 1, .int 2] M76 (.inl (some (.int v148)), M147) ∧ (if v148 = 0 then sg X 265 (82, [some (.ref 483), some (.int x1), some (.int x2), some (.int x3), none], [], []) M147 r else (∃ (v150 : Int32) (M149 : ak_M), ab_lay M149 ∧ rn X 171 [.ref 483, .int x1, .int 0] M147 (.inl (some (.int v150)), M149) ∧ (if v150 = 1 then (∃ (v152 : Int32) (M151 : ak_M), ab_lay M151 ∧ rn X 156 [.ref 483, .int 1, .int 3] M149 (.inl (some (.int v152)), M151) ∧ (if v152 = 0 then sg X 265 (82, [some (.ref 483), some (.int x1), some (.int x2), some (.int x3), none], [], []) M151 r else (∃ (M153 : ak_M), ab_lay M153 ∧ rn X 161 [.ref 483] M151 (.inl (none), M153) ∧ (∃ (v155 : Int32) (M154 : ak_M), ab_lay M154 ∧ rn X 171 [.ref 483, .int x1, .int 10] M153 (.inl (some (.int v155)), M154) ∧ (∃ (v157 : Int32) (M156 : ak_M), ab_lay M156 ∧ rn X 171 [.ref 483, .int x1, .int 0] M154 (.inl (some (.int v157)), M156) ∧ (if v157 = 4 then (∃ (M158 : ak_M), ab_lay M158 ∧ rn X 172 [.ref 483, .int x1, .int 0, .int 1] M156 (.inl (none), M158) ∧ (∃ (M159 : ak_M), ab_lay M159 ∧ rn X 172 [.ref 483, .int x1, .int 3, .int 0] M158 (.inl (none), M159) ∧ (∃ (M160 : ak_M), ab_lay M160 ∧ rn X 259 [.ref 483, .int x1] M159 (.inl (none), M160) ∧ sg X 265 (126, [some (.ref 483), some (.int x1), some (.int x2), some (.int x3), some (.int v155)], [], []) M160 r))) else sg X 265 (126, [some (.ref 483), some (.int x1), some (.int x2), some (.int x3), some (.int v155)], [], []) M156 r)))))) else (∃ (v171 : Int32) (M170 : ak_M), ab_lay M170 ∧ rn X 171 [.ref 483, .int x1, .int 0] M149 (.inl (some (.int v171)), M170) ∧ (if v171 = 4 then (∃ (v192 : Int32) (M191 : ak_M), ab_lay M191 ∧ rn X 156 [.ref 483, .int 1, .int 3] M170 (.inl (some (.int v192)), M191) ∧ (if v192 = 0 then sg X 265 (82, [some (.ref 483), some (.int x1), some (.int x2), some (.int x3), none], [], []) M191 r else (∃ (M193 : ak_M), ab_lay M193 ∧ rn X 161 [.ref 483] M191 (.inl (none), M193) ∧ (∃ (v195 : Int32) (M194 : ak_M), ab_lay M194 ∧ rn X 171 [.ref 483, .int x1, .int 10] M193 (.inl (some (.int v195)), M194) ∧ (∃ (v197 : Int32) (M196 : ak_M), ab_lay M196 ∧ rn X 171 [.ref 483, .int x1, .int 0] M194 (.inl (some (.int v197)), M196) ∧ (if v197 = 4 then (∃ (M198 : ak_M), ab_lay M198 ∧ rn X 172 [.ref 483, .int x1, .int 0, .int 1] M196 (.inl (none), M198) ∧ (∃ (M199 : ak_M), ab_lay M199 ∧ rn X 172 [.ref 483, .int x1, .int 3, .int 0] M198 (.inl (none), M199) ∧ (∃ (M200 : ak_M), ab_lay M200 ∧ rn X 259 [.ref 483, .int x1] M199 (.inl (none), M200) ∧ sg X 265 (126, [some (.ref 483), some (.int x1), some (.int x2), some (.int x3), some (.int v195)], [], []) M200 r))) else sg X 265 (126, [some (.ref 483), some (.int x1), some (.int x2), some (.int x3), some (.int v195)], [], []) M196 r)))))) else (∃ (v173 : Int32) (M172 : ak_M), ab_lay M172 ∧ rn X 156 [.ref 483, .int 0, .int 3] M170 (.inl (some (.int v173)), M172) ∧ (if v173 = 0 then sg X 265 (82, [some (.ref 483), some (.int x1), some (.int x2), some (.int x3), none], [], []) M172 r else (∃ (M174 : ak_M), ab_lay M174 ∧ rn X 161 [.ref 483] M172 (.inl (none), M174) ∧ (∃ (v176 : Int32) (M175 : ak_M), ab_lay M175 ∧ rn X 171 [.ref 483, .int x1, .int 10] M174 (.inl (some (.int v176)), M175) ∧ (∃ (v178 : Int32) (M177 : ak_M), ab_lay M177 ∧ rn X 171 [.ref 483, .int x1, .int 0] M175 (.inl (some (.int v178)), M177) ∧ (if v178 = 4 then (∃ (M179 : ak_M), ab_lay M179 ∧ rn X 172 [.ref 483, .int x1, .int 0, .int 1] M177 (.inl (none), M179) ∧ (∃ (M180 : ak_M), ab_lay M180 ∧ rn X 172 [.ref 483, .int x1, .int 3, .int 0] M179 (.inl (none), M180) ∧ (∃ (M181 : ak_M), ab_lay M181 ∧ rn X 259 [.ref 483, .int x1] M180 (.inl (none), M181) ∧ sg X 265 (126, [some (.ref 483), some (.int x1), some (.int x2), some (.int x3), some (.int v176)], [], []) M181 r))) else sg X 265 (126, [some (.ref 483), some (.int x1), some (.int x2), some (.int x3), some (.int v176)], [], []) M177 r)))))))))))))))))))) : rn X 265 [.ref 483, .int x1, .int x2, .int x3] M r := by
  refine w_rn (nL := 5) (l1 := [some (.ref 483), some (.int x1), some (.int x2), some (.int x3), none]) (by decide +kernel) rfl rfl ?_
  refine w_aload_n (n := 1) (i := 0) (by decide +kernel) rfl rfl ?_
  refine w_aload_n (n := 2) (i := 0) (by decide +kernel) rfl rfl ?_
  refine w_iload_n (n := 3) (i := 1) (by decide +kernel) rfl rfl ?_
  obtain ⟨v2, M1, hLM1, hr222, h⟩ := h
  refine w_cV (n := 6) (idx := 88) (cal := 169) (na := 1) (nl := 2) (as := [.int x1]) (rest := [.ref 483]) hL (by decide +kernel) (by decide +kernel) (at_483) (by decide +kernel) rfl rfl rfl (Nat.le_of_ble_eq_true rfl) rfl hr222 ?_
  obtain ⟨v4, M3, hLM3, hr221, h⟩ := h
  refine w_cV (n := 9) (idx := 72) (cal := 155) (na := 1) (nl := 2) (as := [.int v2]) (rest := []) hLM1 (by decide +kernel) (by decide +kernel) (at_483) (by decide +kernel) rfl rfl rfl (Nat.le_of_ble_eq_true rfl) rfl hr221 ?_
  by_cases c220 : v4 = 0
  · rw [if_pos c220] at h
    refine w_if_eq_j (n := 82) (off := 73) (by decide +kernel) (by decide) c220 ?_
    exact h
  · rw [if_neg c220] at h
    refine w_if_eq_n (n := 12) (off := 73) (by decide +kernel) rfl c220 ?_
    refine w_aload_n (n := 13) (i := 0) (by decide +kernel) rfl rfl ?_
    refine w_iload_n (n := 14) (i := 2) (by decide +kernel) rfl rfl ?_
    refine w_i2l (n := 15) (by decide +kernel) rfl ?_
    refine w_lconst (n := 16) (v := 0) (x := 0) (by decide +kernel) rfl (by decide) ?_
    refine w_ldc2 (n := 19) (idx := 325) (v := 9) (by decide +kernel) oO_265 (by decide +kernel) rfl ?_
    obtain ⟨v6, M5, hLM5, hr219, h⟩ := h
    refine w_cS (n := 22) (idx := 84) (cal := 157) (na := 3) (nl := 6) (as := [.long (x2.toInt64), .long 0, .long 9]) (rest := [.ref 483]) (by decide +kernel) (by decide +kernel) rfl rfl rfl (Nat.le_of_ble_eq_true rfl) rfl hr219 ?_
    by_cases c218 : v6 = 0
    · rw [if_pos c218] at h
      refine w_if_eq_j (n := 41) (off := 19) (by decide +kernel) (by decide) c218 ?_
      refine w_iconst (n := 42) (v := 0) (x := 0) (by decide +kernel) rfl (by decide) ?_
      refine w_iconst (n := 43) (v := 2) (x := 2) (by decide +kernel) rfl (by decide) ?_
      obtain ⟨v8, M7, hLM7, hr75, h⟩ := h
      refine w_cV (n := 46) (idx := 257) (cal := 156) (na := 2) (nl := 3) (as := [.int 0, .int 2]) (rest := []) hLM5 (by decide +kernel) (by decide +kernel) (at_483) (by decide +kernel) rfl rfl rfl (Nat.le_of_ble_eq_true rfl) rfl hr75 ?_
      by_cases c74 : v8 = 0
      · rw [if_pos c74] at h
        refine w_if_eq_j (n := 82) (off := 36) (by decide +kernel) (by decide) c74 ?_
        exact h
      · rw [if_neg c74] at h
        refine w_if_eq_n (n := 49) (off := 36) (by decide +kernel) rfl c74 ?_
        refine w_aload_n (n := 50) (i := 0) (by decide +kernel) rfl rfl ?_
        refine w_aload_n (n := 51) (i := 0) (by decide +kernel) rfl rfl ?_
        refine w_iload_n (n := 52) (i := 1) (by decide +kernel) rfl rfl ?_
        refine w_iconst (n := 53) (v := 0) (x := 0) (by decide +kernel) rfl (by decide) ?_
        obtain ⟨v10, M9, hLM9, hr73, h⟩ := h
        refine w_cV (n := 56) (idx := 92) (cal := 171) (na := 2) (nl := 3) (as := [.int x1, .int 0]) (rest := [.ref 483]) hLM7 (by decide +kernel) (by decide +kernel) (at_483) (by decide +kernel) rfl rfl rfl (Nat.le_of_ble_eq_true rfl) rfl hr73 ?_
        refine w_iconst (n := 57) (v := 1) (x := 1) (by decide +kernel) rfl (by decide) ?_
        by_cases c72 : v10 = 1
        · rw [if_pos c72] at h
          refine w_icmp_eq_j (n := 70) (off := 13) (by decide +kernel) (by decide) c72 ?_
          refine w_iconst (n := 71) (v := 1) (x := 1) (by decide +kernel) rfl (by decide) ?_
          refine w_goto (n := 75) (off := 4) (by decide +kernel) (by decide) ?_
          refine w_iconst (n := 76) (v := 3) (x := 3) (by decide +kernel) rfl (by decide) ?_
          obtain ⟨v12, M11, hLM11, hr29, h⟩ := h
          refine w_cV (n := 79) (idx := 257) (cal := 156) (na := 2) (nl := 3) (as := [.int 1, .int 3]) (rest := []) hLM9 (by decide +kernel) (by decide +kernel) (at_483) (by decide +kernel) rfl rfl rfl (Nat.le_of_ble_eq_true rfl) rfl hr29 ?_
          by_cases c28 : v12 = 0
          · rw [if_pos c28] at h
            refine w_if_ne_n (n := 82) (off := 5) (by decide +kernel) rfl c28 ?_
            exact h
          · rw [if_neg c28] at h
            refine w_if_ne_j (n := 84) (off := 5) (by decide +kernel) (by decide) c28 ?_
            refine w_aload_n (n := 85) (i := 0) (by decide +kernel) rfl rfl ?_
            obtain ⟨M13, hLM13, hr27, h⟩ := h
            refine w_cV (n := 88) (idx := 314) (cal := 161) (na := 0) (nl := 1) (as := []) (rest := []) hLM11 (by decide +kernel) (by decide +kernel) (at_483) (by decide +kernel) rfl rfl rfl (Nat.le_of_ble_eq_true rfl) rfl hr27 ?_
            refine w_aload_n (n := 89) (i := 0) (by decide +kernel) rfl rfl ?_
            refine w_iload_n (n := 90) (i := 1) (by decide +kernel) rfl rfl ?_
            refine w_bipush (n := 92) (v := 10) (x := 10) (by decide +kernel) rfl (by decide) ?_
            obtain ⟨v15, M14, hLM14, hr26, h⟩ := h
            refine w_cV (n := 95) (idx := 92) (cal := 171) (na := 2) (nl := 3) (as := [.int x1, .int 10]) (rest := []) hLM13 (by decide +kernel) (by decide +kernel) (at_483) (by decide +kernel) rfl rfl rfl (Nat.le_of_ble_eq_true rfl) rfl hr26 ?_
            refine w_istore (n := 97) (i := 4) (l1' := [some (.ref 483), some (.int x1), some (.int x2), some (.int x3), some (.int v15)]) (l2' := []) (by decide +kernel) rfl (Nat.le_of_ble_eq_true rfl) rfl rfl ?_
            refine w_aload_n (n := 98) (i := 0) (by decide +kernel) rfl rfl ?_
            refine w_iload_n (n := 99) (i := 1) (by decide +kernel) rfl rfl ?_
            refine w_iconst (n := 100) (v := 0) (x := 0) (by decide +kernel) rfl (by decide) ?_
            obtain ⟨v17, M16, hLM16, hr25, h⟩ := h
            refine w_cV (n := 103) (idx := 92) (cal := 171) (na := 2) (nl := 3) (as := [.int x1, .int 0]) (rest := []) hLM14 (by decide +kernel) (by decide +kernel) (at_483) (by decide +kernel) rfl rfl rfl (Nat.le_of_ble_eq_true rfl) rfl hr25 ?_
            refine w_iconst (n := 104) (v := 4) (x := 4) (by decide +kernel) rfl (by decide) ?_
            by_cases c24 : v17 = 4
            · rw [if_pos c24] at h
              refine w_icmp_ne_n (n := 107) (off := 22) (by decide +kernel) rfl c24 ?_
              refine w_aload_n (n := 108) (i := 0) (by decide +kernel) rfl rfl ?_
              refine w_iload_n (n := 109) (i := 1) (by decide +kernel) rfl rfl ?_
              refine w_iconst (n := 110) (v := 0) (x := 0) (by decide +kernel) rfl (by decide) ?_
              refine w_iconst (n := 111) (v := 1) (x := 1) (by decide +kernel) rfl (by decide) ?_
              obtain ⟨M18, hLM18, hr23, h⟩ := h
              refine w_cV (n := 114) (idx := 96) (cal := 172) (na := 3) (nl := 4) (as := [.int x1, .int 0, .int 1]) (rest := []) hLM16 (by decide +kernel) (by decide +kernel) (at_483) (by decide +kernel) rfl rfl rfl (Nat.le_of_ble_eq_true rfl) rfl hr23 ?_
              refine w_aload_n (n := 115) (i := 0) (by decide +kernel) rfl rfl ?_
              refine w_iload_n (n := 116) (i := 1) (by decide +kernel) rfl rfl ?_
              refine w_iconst (n := 117) (v := 3) (x := 3) (by decide +kernel) rfl (by decide) ?_
              refine w_iconst (n := 118) (v := 0) (x := 0) (by decide +kernel) rfl (by decide) ?_
              obtain ⟨M19, hLM19, hr22, h⟩ := h
              refine w_cV (n := 121) (idx := 96) (cal := 172) (na := 3) (nl := 4) (as := [.int x1, .int 3, .int 0]) (rest := []) hLM18 (by decide +kernel) (by decide +kernel) (at_483) (by decide +kernel) rfl rfl rfl (Nat.le_of_ble_eq_true rfl) rfl hr22 ?_
              refine w_aload_n (n := 122) (i := 0) (by decide +kernel) rfl rfl ?_
              refine w_iload_n (n := 123) (i := 1) (by decide +kernel) rfl rfl ?_
              obtain ⟨M20, hLM20, hr21, h⟩ := h
              refine w_cV (n := 126) (idx := 320) (cal := 259) (na := 1) (nl := 2) (as := [.int x1]) (rest := []) hLM19 (by decide +kernel) (by decide +kernel) (at_483) (by decide +kernel) rfl rfl rfl (Nat.le_of_ble_eq_true rfl) rfl hr21 ?_
              exact h
            · rw [if_neg c24] at h
              refine w_icmp_ne_j (n := 126) (off := 22) (by decide +kernel) (by decide) c24 ?_
              exact h
        · rw [if_neg c72] at h
          refine w_icmp_eq_n (n := 60) (off := 13) (by decide +kernel) rfl c72 ?_
          refine w_aload_n (n := 61) (i := 0) (by decide +kernel) rfl rfl ?_
          refine w_iload_n (n := 62) (i := 1) (by decide +kernel) rfl rfl ?_
          refine w_iconst (n := 63) (v := 0) (x := 0) (by decide +kernel) rfl (by decide) ?_
          obtain ⟨v31, M30, hLM30, hr71, h⟩ := h
          refine w_cV (n := 66) (idx := 92) (cal := 171) (na := 2) (nl := 3) (as := [.int x1, .int 0]) (rest := [.ref 483]) hLM9 (by decide +kernel) (by decide +kernel) (at_483) (by decide +kernel) rfl rfl rfl (Nat.le_of_ble_eq_true rfl) rfl hr71 ?_
          refine w_iconst (n := 67) (v := 4) (x := 4) (by decide +kernel) rfl (by decide) ?_
          by_cases c70 : v31 = 4
          · rw [if_pos c70] at h
            refine w_icmp_ne_n (n := 70) (off := 7) (by decide +kernel) rfl c70 ?_
            refine w_iconst (n := 71) (v := 1) (x := 1) (by decide +kernel) rfl (by decide) ?_
            refine w_goto (n := 75) (off := 4) (by decide +kernel) (by decide) ?_
            refine w_iconst (n := 76) (v := 3) (x := 3) (by decide +kernel) rfl (by decide) ?_
            obtain ⟨v52, M51, hLM51, hr69, h⟩ := h
            refine w_cV (n := 79) (idx := 257) (cal := 156) (na := 2) (nl := 3) (as := [.int 1, .int 3]) (rest := []) hLM30 (by decide +kernel) (by decide +kernel) (at_483) (by decide +kernel) rfl rfl rfl (Nat.le_of_ble_eq_true rfl) rfl hr69 ?_
            by_cases c68 : v52 = 0
            · rw [if_pos c68] at h
              refine w_if_ne_n (n := 82) (off := 5) (by decide +kernel) rfl c68 ?_
              exact h
            · rw [if_neg c68] at h
              refine w_if_ne_j (n := 84) (off := 5) (by decide +kernel) (by decide) c68 ?_
              refine w_aload_n (n := 85) (i := 0) (by decide +kernel) rfl rfl ?_
              obtain ⟨M53, hLM53, hr67, h⟩ := h
              refine w_cV (n := 88) (idx := 314) (cal := 161) (na := 0) (nl := 1) (as := []) (rest := []) hLM51 (by decide +kernel) (by decide +kernel) (at_483) (by decide +kernel) rfl rfl rfl (Nat.le_of_ble_eq_true rfl) rfl hr67 ?_
              refine w_aload_n (n := 89) (i := 0) (by decide +kernel) rfl rfl ?_
              refine w_iload_n (n := 90) (i := 1) (by decide +kernel) rfl rfl ?_
              refine w_bipush (n := 92) (v := 10) (x := 10) (by decide +kernel) rfl (by decide) ?_
              obtain ⟨v55, M54, hLM54, hr66, h⟩ := h
              refine w_cV (n := 95) (idx := 92) (cal := 171) (na := 2) (nl := 3) (as := [.int x1, .int 10]) (rest := []) hLM53 (by decide +kernel) (by decide +kernel) (at_483) (by decide +kernel) rfl rfl rfl (Nat.le_of_ble_eq_true rfl) rfl hr66 ?_
              refine w_istore (n := 97) (i := 4) (l1' := [some (.ref 483), some (.int x1), some (.int x2), some (.int x3), some (.int v55)]) (l2' := []) (by decide +kernel) rfl (Nat.le_of_ble_eq_true rfl) rfl rfl ?_
              refine w_aload_n (n := 98) (i := 0) (by decide +kernel) rfl rfl ?_
              refine w_iload_n (n := 99) (i := 1) (by decide +kernel) rfl rfl ?_
              refine w_iconst (n := 100) (v := 0) (x := 0) (by decide +kernel) rfl (by decide) ?_
              obtain ⟨v57, M56, hLM56, hr65, h⟩ := h
              refine w_cV (n := 103) (idx := 92) (cal := 171) (na := 2) (nl := 3) (as := [.int x1, .int 0]) (rest := []) hLM54 (by decide +kernel) (by decide +kernel) (at_483) (by decide +kernel) rfl rfl rfl (Nat.le_of_ble_eq_true rfl) rfl hr65 ?_
              refine w_iconst (n := 104) (v := 4) (x := 4) (by decide +kernel) rfl (by decide) ?_
              by_cases c64 : v57 = 4
              · rw [if_pos c64] at h
                refine w_icmp_ne_n (n := 107) (off := 22) (by decide +kernel) rfl c64 ?_
                refine w_aload_n (n := 108) (i := 0) (by decide +kernel) rfl rfl ?_
                refine w_iload_n (n := 109) (i := 1) (by decide +kernel) rfl rfl ?_
                refine w_iconst (n := 110) (v := 0) (x := 0) (by decide +kernel) rfl (by decide) ?_
                refine w_iconst (n := 111) (v := 1) (x := 1) (by decide +kernel) rfl (by decide) ?_
                obtain ⟨M58, hLM58, hr63, h⟩ := h
                refine w_cV (n := 114) (idx := 96) (cal := 172) (na := 3) (nl := 4) (as := [.int x1, .int 0, .int 1]) (rest := []) hLM56 (by decide +kernel) (by decide +kernel) (at_483) (by decide +kernel) rfl rfl rfl (Nat.le_of_ble_eq_true rfl) rfl hr63 ?_
                refine w_aload_n (n := 115) (i := 0) (by decide +kernel) rfl rfl ?_
                refine w_iload_n (n := 116) (i := 1) (by decide +kernel) rfl rfl ?_
                refine w_iconst (n := 117) (v := 3) (x := 3) (by decide +kernel) rfl (by decide) ?_
                refine w_iconst (n := 118) (v := 0) (x := 0) (by decide +kernel) rfl (by decide) ?_
                obtain ⟨M59, hLM59, hr62, h⟩ := h
                refine w_cV (n := 121) (idx := 96) (cal := 172) (na := 3) (nl := 4) (as := [.int x1, .int 3, .int 0]) (rest := []) hLM58 (by decide +kernel) (by decide +kernel) (at_483) (by decide +kernel) rfl rfl rfl (Nat.le_of_ble_eq_true rfl) rfl hr62 ?_
                refine w_aload_n (n := 122) (i := 0) (by decide +kernel) rfl rfl ?_
                refine w_iload_n (n := 123) (i := 1) (by decide +kernel) rfl rfl ?_
                obtain ⟨M60, hLM60, hr61, h⟩ := h
                refine w_cV (n := 126) (idx := 320) (cal := 259) (na := 1) (nl := 2) (as := [.int x1]) (rest := []) hLM59 (by decide +kernel) (by decide +kernel) (at_483) (by decide +kernel) rfl rfl rfl (Nat.le_of_ble_eq_true rfl) rfl hr61 ?_
                exact h
              · rw [if_neg c64] at h
                refine w_icmp_ne_j (n := 126) (off := 22) (by decide +kernel) (by decide) c64 ?_
                exact h
          · rw [if_neg c70] at h
            refine w_icmp_ne_j (n := 74) (off := 7) (by decide +kernel) (by decide) c70 ?_
            refine w_iconst (n := 75) (v := 0) (x := 0) (by decide +kernel) rfl (by decide) ?_
            refine w_iconst (n := 76) (v := 3) (x := 3) (by decide +kernel) rfl (by decide) ?_
            obtain ⟨v33, M32, hLM32, hr50, h⟩ := h
            refine w_cV (n := 79) (idx := 257) (cal := 156) (na := 2) (nl := 3) (as := [.int 0, .int 3]) (rest := []) hLM30 (by decide +kernel) (by decide +kernel) (at_483) (by decide +kernel) rfl rfl rfl (Nat.le_of_ble_eq_true rfl) rfl hr50 ?_
            by_cases c49 : v33 = 0
            · rw [if_pos c49] at h
              refine w_if_ne_n (n := 82) (off := 5) (by decide +kernel) rfl c49 ?_
              exact h
            · rw [if_neg c49] at h
              refine w_if_ne_j (n := 84) (off := 5) (by decide +kernel) (by decide) c49 ?_
              refine w_aload_n (n := 85) (i := 0) (by decide +kernel) rfl rfl ?_
              obtain ⟨M34, hLM34, hr48, h⟩ := h
              refine w_cV (n := 88) (idx := 314) (cal := 161) (na := 0) (nl := 1) (as := []) (rest := []) hLM32 (by decide +kernel) (by decide +kernel) (at_483) (by decide +kernel) rfl rfl rfl (Nat.le_of_ble_eq_true rfl) rfl hr48 ?_
              refine w_aload_n (n := 89) (i := 0) (by decide +kernel) rfl rfl ?_
              refine w_iload_n (n := 90) (i := 1) (by decide +kernel) rfl rfl ?_
              refine w_bipush (n := 92) (v := 10) (x := 10) (by decide +kernel) rfl (by decide) ?_
              obtain ⟨v36, M35, hLM35, hr47, h⟩ := h
              refine w_cV (n := 95) (idx := 92) (cal := 171) (na := 2) (nl := 3) (as := [.int x1, .int 10]) (rest := []) hLM34 (by decide +kernel) (by decide +kernel) (at_483) (by decide +kernel) rfl rfl rfl (Nat.le_of_ble_eq_true rfl) rfl hr47 ?_
              refine w_istore (n := 97) (i := 4) (l1' := [some (.ref 483), some (.int x1), some (.int x2), some (.int x3), some (.int v36)]) (l2' := []) (by decide +kernel) rfl (Nat.le_of_ble_eq_true rfl) rfl rfl ?_
              refine w_aload_n (n := 98) (i := 0) (by decide +kernel) rfl rfl ?_
              refine w_iload_n (n := 99) (i := 1) (by decide +kernel) rfl rfl ?_
              refine w_iconst (n := 100) (v := 0) (x := 0) (by decide +kernel) rfl (by decide) ?_
              obtain ⟨v38, M37, hLM37, hr46, h⟩ := h
              refine w_cV (n := 103) (idx := 92) (cal := 171) (na := 2) (nl := 3) (as := [.int x1, .int 0]) (rest := []) hLM35 (by decide +kernel) (by decide +kernel) (at_483) (by decide +kernel) rfl rfl rfl (Nat.le_of_ble_eq_true rfl) rfl hr46 ?_
              refine w_iconst (n := 104) (v := 4) (x := 4) (by decide +kernel) rfl (by decide) ?_
              by_cases c45 : v38 = 4
              · rw [if_pos c45] at h
                refine w_icmp_ne_n (n := 107) (off := 22) (by decide +kernel) rfl c45 ?_
                refine w_aload_n (n := 108) (i := 0) (by decide +kernel) rfl rfl ?_
                refine w_iload_n (n := 109) (i := 1) (by decide +kernel) rfl rfl ?_
                refine w_iconst (n := 110) (v := 0) (x := 0) (by decide +kernel) rfl (by decide) ?_
                refine w_iconst (n := 111) (v := 1) (x := 1) (by decide +kernel) rfl (by decide) ?_
                obtain ⟨M39, hLM39, hr44, h⟩ := h
                refine w_cV (n := 114) (idx := 96) (cal := 172) (na := 3) (nl := 4) (as := [.int x1, .int 0, .int 1]) (rest := []) hLM37 (by decide +kernel) (by decide +kernel) (at_483) (by decide +kernel) rfl rfl rfl (Nat.le_of_ble_eq_true rfl) rfl hr44 ?_
                refine w_aload_n (n := 115) (i := 0) (by decide +kernel) rfl rfl ?_
                refine w_iload_n (n := 116) (i := 1) (by decide +kernel) rfl rfl ?_
                refine w_iconst (n := 117) (v := 3) (x := 3) (by decide +kernel) rfl (by decide) ?_
                refine w_iconst (n := 118) (v := 0) (x := 0) (by decide +kernel) rfl (by decide) ?_
                obtain ⟨M40, hLM40, hr43, h⟩ := h
                refine w_cV (n := 121) (idx := 96) (cal := 172) (na := 3) (nl := 4) (as := [.int x1, .int 3, .int 0]) (rest := []) hLM39 (by decide +kernel) (by decide +kernel) (at_483) (by decide +kernel) rfl rfl rfl (Nat.le_of_ble_eq_true rfl) rfl hr43 ?_
                refine w_aload_n (n := 122) (i := 0) (by decide +kernel) rfl rfl ?_
                refine w_iload_n (n := 123) (i := 1) (by decide +kernel) rfl rfl ?_
                obtain ⟨M41, hLM41, hr42, h⟩ := h
                refine w_cV (n := 126) (idx := 320) (cal := 259) (na := 1) (nl := 2) (as := [.int x1]) (rest := []) hLM40 (by decide +kernel) (by decide +kernel) (at_483) (by decide +kernel) rfl rfl rfl (Nat.le_of_ble_eq_true rfl) rfl hr42 ?_
                exact h
              · rw [if_neg c45] at h
                refine w_icmp_ne_j (n := 126) (off := 22) (by decide +kernel) (by decide) c45 ?_
                exact h
    · rw [if_neg c218] at h
      refine w_if_eq_n (n := 25) (off := 19) (by decide +kernel) rfl c218 ?_
      refine w_iload_n (n := 26) (i := 3) (by decide +kernel) rfl rfl ?_
      refine w_i2l (n := 27) (by decide +kernel) rfl ?_
      refine w_lconst (n := 28) (v := 1) (x := 1) (by decide +kernel) rfl (by decide) ?_
      refine w_ldc2 (n := 31) (idx := 329) (v := 99) (by decide +kernel) oO_265 (by decide +kernel) rfl ?_
      obtain ⟨v77, M76, hLM76, hr217, h⟩ := h
      refine w_cS (n := 34) (idx := 84) (cal := 157) (na := 3) (nl := 6) (as := [.long (x3.toInt64), .long 1, .long 99]) (rest := [.ref 483]) (by decide +kernel) (by decide +kernel) rfl rfl rfl (Nat.le_of_ble_eq_true rfl) rfl hr217 ?_
      by_cases c216 : v77 = 0
      · rw [if_pos c216] at h
        refine w_if_eq_j (n := 41) (off := 7) (by decide +kernel) (by decide) c216 ?_
        refine w_iconst (n := 42) (v := 0) (x := 0) (by decide +kernel) rfl (by decide) ?_
        refine w_iconst (n := 43) (v := 2) (x := 2) (by decide +kernel) rfl (by decide) ?_
        obtain ⟨v79, M78, hLM78, hr146, h⟩ := h
        refine w_cV (n := 46) (idx := 257) (cal := 156) (na := 2) (nl := 3) (as := [.int 0, .int 2]) (rest := []) hLM76 (by decide +kernel) (by decide +kernel) (at_483) (by decide +kernel) rfl rfl rfl (Nat.le_of_ble_eq_true rfl) rfl hr146 ?_
        by_cases c145 : v79 = 0
        · rw [if_pos c145] at h
          refine w_if_eq_j (n := 82) (off := 36) (by decide +kernel) (by decide) c145 ?_
          exact h
        · rw [if_neg c145] at h
          refine w_if_eq_n (n := 49) (off := 36) (by decide +kernel) rfl c145 ?_
          refine w_aload_n (n := 50) (i := 0) (by decide +kernel) rfl rfl ?_
          refine w_aload_n (n := 51) (i := 0) (by decide +kernel) rfl rfl ?_
          refine w_iload_n (n := 52) (i := 1) (by decide +kernel) rfl rfl ?_
          refine w_iconst (n := 53) (v := 0) (x := 0) (by decide +kernel) rfl (by decide) ?_
          obtain ⟨v81, M80, hLM80, hr144, h⟩ := h
          refine w_cV (n := 56) (idx := 92) (cal := 171) (na := 2) (nl := 3) (as := [.int x1, .int 0]) (rest := [.ref 483]) hLM78 (by decide +kernel) (by decide +kernel) (at_483) (by decide +kernel) rfl rfl rfl (Nat.le_of_ble_eq_true rfl) rfl hr144 ?_
          refine w_iconst (n := 57) (v := 1) (x := 1) (by decide +kernel) rfl (by decide) ?_
          by_cases c143 : v81 = 1
          · rw [if_pos c143] at h
            refine w_icmp_eq_j (n := 70) (off := 13) (by decide +kernel) (by decide) c143 ?_
            refine w_iconst (n := 71) (v := 1) (x := 1) (by decide +kernel) rfl (by decide) ?_
            refine w_goto (n := 75) (off := 4) (by decide +kernel) (by decide) ?_
            refine w_iconst (n := 76) (v := 3) (x := 3) (by decide +kernel) rfl (by decide) ?_
            obtain ⟨v83, M82, hLM82, hr100, h⟩ := h
            refine w_cV (n := 79) (idx := 257) (cal := 156) (na := 2) (nl := 3) (as := [.int 1, .int 3]) (rest := []) hLM80 (by decide +kernel) (by decide +kernel) (at_483) (by decide +kernel) rfl rfl rfl (Nat.le_of_ble_eq_true rfl) rfl hr100 ?_
            by_cases c99 : v83 = 0
            · rw [if_pos c99] at h
              refine w_if_ne_n (n := 82) (off := 5) (by decide +kernel) rfl c99 ?_
              exact h
            · rw [if_neg c99] at h
              refine w_if_ne_j (n := 84) (off := 5) (by decide +kernel) (by decide) c99 ?_
              refine w_aload_n (n := 85) (i := 0) (by decide +kernel) rfl rfl ?_
              obtain ⟨M84, hLM84, hr98, h⟩ := h
              refine w_cV (n := 88) (idx := 314) (cal := 161) (na := 0) (nl := 1) (as := []) (rest := []) hLM82 (by decide +kernel) (by decide +kernel) (at_483) (by decide +kernel) rfl rfl rfl (Nat.le_of_ble_eq_true rfl) rfl hr98 ?_
              refine w_aload_n (n := 89) (i := 0) (by decide +kernel) rfl rfl ?_
              refine w_iload_n (n := 90) (i := 1) (by decide +kernel) rfl rfl ?_
              refine w_bipush (n := 92) (v := 10) (x := 10) (by decide +kernel) rfl (by decide) ?_
              obtain ⟨v86, M85, hLM85, hr97, h⟩ := h
              refine w_cV (n := 95) (idx := 92) (cal := 171) (na := 2) (nl := 3) (as := [.int x1, .int 10]) (rest := []) hLM84 (by decide +kernel) (by decide +kernel) (at_483) (by decide +kernel) rfl rfl rfl (Nat.le_of_ble_eq_true rfl) rfl hr97 ?_
              refine w_istore (n := 97) (i := 4) (l1' := [some (.ref 483), some (.int x1), some (.int x2), some (.int x3), some (.int v86)]) (l2' := []) (by decide +kernel) rfl (Nat.le_of_ble_eq_true rfl) rfl rfl ?_
              refine w_aload_n (n := 98) (i := 0) (by decide +kernel) rfl rfl ?_
              refine w_iload_n (n := 99) (i := 1) (by decide +kernel) rfl rfl ?_
              refine w_iconst (n := 100) (v := 0) (x := 0) (by decide +kernel) rfl (by decide) ?_
              obtain ⟨v88, M87, hLM87, hr96, h⟩ := h
              refine w_cV (n := 103) (idx := 92) (cal := 171) (na := 2) (nl := 3) (as := [.int x1, .int 0]) (rest := []) hLM85 (by decide +kernel) (by decide +kernel) (at_483) (by decide +kernel) rfl rfl rfl (Nat.le_of_ble_eq_true rfl) rfl hr96 ?_
              refine w_iconst (n := 104) (v := 4) (x := 4) (by decide +kernel) rfl (by decide) ?_
              by_cases c95 : v88 = 4
              · rw [if_pos c95] at h
                refine w_icmp_ne_n (n := 107) (off := 22) (by decide +kernel) rfl c95 ?_
                refine w_aload_n (n := 108) (i := 0) (by decide +kernel) rfl rfl ?_
                refine w_iload_n (n := 109) (i := 1) (by decide +kernel) rfl rfl ?_
                refine w_iconst (n := 110) (v := 0) (x := 0) (by decide +kernel) rfl (by decide) ?_
                refine w_iconst (n := 111) (v := 1) (x := 1) (by decide +kernel) rfl (by decide) ?_
                obtain ⟨M89, hLM89, hr94, h⟩ := h
                refine w_cV (n := 114) (idx := 96) (cal := 172) (na := 3) (nl := 4) (as := [.int x1, .int 0, .int 1]) (rest := []) hLM87 (by decide +kernel) (by decide +kernel) (at_483) (by decide +kernel) rfl rfl rfl (Nat.le_of_ble_eq_true rfl) rfl hr94 ?_
                refine w_aload_n (n := 115) (i := 0) (by decide +kernel) rfl rfl ?_
                refine w_iload_n (n := 116) (i := 1) (by decide +kernel) rfl rfl ?_
                refine w_iconst (n := 117) (v := 3) (x := 3) (by decide +kernel) rfl (by decide) ?_
                refine w_iconst (n := 118) (v := 0) (x := 0) (by decide +kernel) rfl (by decide) ?_
                obtain ⟨M90, hLM90, hr93, h⟩ := h
                refine w_cV (n := 121) (idx := 96) (cal := 172) (na := 3) (nl := 4) (as := [.int x1, .int 3, .int 0]) (rest := []) hLM89 (by decide +kernel) (by decide +kernel) (at_483) (by decide +kernel) rfl rfl rfl (Nat.le_of_ble_eq_true rfl) rfl hr93 ?_
                refine w_aload_n (n := 122) (i := 0) (by decide +kernel) rfl rfl ?_
                refine w_iload_n (n := 123) (i := 1) (by decide +kernel) rfl rfl ?_
                obtain ⟨M91, hLM91, hr92, h⟩ := h
                refine w_cV (n := 126) (idx := 320) (cal := 259) (na := 1) (nl := 2) (as := [.int x1]) (rest := []) hLM90 (by decide +kernel) (by decide +kernel) (at_483) (by decide +kernel) rfl rfl rfl (Nat.le_of_ble_eq_true rfl) rfl hr92 ?_
                exact h
              · rw [if_neg c95] at h
                refine w_icmp_ne_j (n := 126) (off := 22) (by decide +kernel) (by decide) c95 ?_
                exact h
          · rw [if_neg c143] at h
            refine w_icmp_eq_n (n := 60) (off := 13) (by decide +kernel) rfl c143 ?_
            refine w_aload_n (n := 61) (i := 0) (by decide +kernel) rfl rfl ?_
            refine w_iload_n (n := 62) (i := 1) (by decide +kernel) rfl rfl ?_
            refine w_iconst (n := 63) (v := 0) (x := 0) (by decide +kernel) rfl (by decide) ?_
            obtain ⟨v102, M101, hLM101, hr142, h⟩ := h
            refine w_cV (n := 66) (idx := 92) (cal := 171) (na := 2) (nl := 3) (as := [.int x1, .int 0]) (rest := [.ref 483]) hLM80 (by decide +kernel) (by decide +kernel) (at_483) (by decide +kernel) rfl rfl rfl (Nat.le_of_ble_eq_true rfl) rfl hr142 ?_
            refine w_iconst (n := 67) (v := 4) (x := 4) (by decide +kernel) rfl (by decide) ?_
            by_cases c141 : v102 = 4
            · rw [if_pos c141] at h
              refine w_icmp_ne_n (n := 70) (off := 7) (by decide +kernel) rfl c141 ?_
              refine w_iconst (n := 71) (v := 1) (x := 1) (by decide +kernel) rfl (by decide) ?_
              refine w_goto (n := 75) (off := 4) (by decide +kernel) (by decide) ?_
              refine w_iconst (n := 76) (v := 3) (x := 3) (by decide +kernel) rfl (by decide) ?_
              obtain ⟨v123, M122, hLM122, hr140, h⟩ := h
              refine w_cV (n := 79) (idx := 257) (cal := 156) (na := 2) (nl := 3) (as := [.int 1, .int 3]) (rest := []) hLM101 (by decide +kernel) (by decide +kernel) (at_483) (by decide +kernel) rfl rfl rfl (Nat.le_of_ble_eq_true rfl) rfl hr140 ?_
              by_cases c139 : v123 = 0
              · rw [if_pos c139] at h
                refine w_if_ne_n (n := 82) (off := 5) (by decide +kernel) rfl c139 ?_
                exact h
              · rw [if_neg c139] at h
                refine w_if_ne_j (n := 84) (off := 5) (by decide +kernel) (by decide) c139 ?_
                refine w_aload_n (n := 85) (i := 0) (by decide +kernel) rfl rfl ?_
                obtain ⟨M124, hLM124, hr138, h⟩ := h
                refine w_cV (n := 88) (idx := 314) (cal := 161) (na := 0) (nl := 1) (as := []) (rest := []) hLM122 (by decide +kernel) (by decide +kernel) (at_483) (by decide +kernel) rfl rfl rfl (Nat.le_of_ble_eq_true rfl) rfl hr138 ?_
                refine w_aload_n (n := 89) (i := 0) (by decide +kernel) rfl rfl ?_
                refine w_iload_n (n := 90) (i := 1) (by decide +kernel) rfl rfl ?_
                refine w_bipush (n := 92) (v := 10) (x := 10) (by decide +kernel) rfl (by decide) ?_
                obtain ⟨v126, M125, hLM125, hr137, h⟩ := h
                refine w_cV (n := 95) (idx := 92) (cal := 171) (na := 2) (nl := 3) (as := [.int x1, .int 10]) (rest := []) hLM124 (by decide +kernel) (by decide +kernel) (at_483) (by decide +kernel) rfl rfl rfl (Nat.le_of_ble_eq_true rfl) rfl hr137 ?_
                refine w_istore (n := 97) (i := 4) (l1' := [some (.ref 483), some (.int x1), some (.int x2), some (.int x3), some (.int v126)]) (l2' := []) (by decide +kernel) rfl (Nat.le_of_ble_eq_true rfl) rfl rfl ?_
                refine w_aload_n (n := 98) (i := 0) (by decide +kernel) rfl rfl ?_
                refine w_iload_n (n := 99) (i := 1) (by decide +kernel) rfl rfl ?_
                refine w_iconst (n := 100) (v := 0) (x := 0) (by decide +kernel) rfl (by decide) ?_
                obtain ⟨v128, M127, hLM127, hr136, h⟩ := h
                refine w_cV (n := 103) (idx := 92) (cal := 171) (na := 2) (nl := 3) (as := [.int x1, .int 0]) (rest := []) hLM125 (by decide +kernel) (by decide +kernel) (at_483) (by decide +kernel) rfl rfl rfl (Nat.le_of_ble_eq_true rfl) rfl hr136 ?_
                refine w_iconst (n := 104) (v := 4) (x := 4) (by decide +kernel) rfl (by decide) ?_
                by_cases c135 : v128 = 4
                · rw [if_pos c135] at h
                  refine w_icmp_ne_n (n := 107) (off := 22) (by decide +kernel) rfl c135 ?_
                  refine w_aload_n (n := 108) (i := 0) (by decide +kernel) rfl rfl ?_
                  refine w_iload_n (n := 109) (i := 1) (by decide +kernel) rfl rfl ?_
                  refine w_iconst (n := 110) (v := 0) (x := 0) (by decide +kernel) rfl (by decide) ?_
                  refine w_iconst (n := 111) (v := 1) (x := 1) (by decide +kernel) rfl (by decide) ?_
                  obtain ⟨M129, hLM129, hr134, h⟩ := h
                  refine w_cV (n := 114) (idx := 96) (cal := 172) (na := 3) (nl := 4) (as := [.int x1, .int 0, .int 1]) (rest := []) hLM127 (by decide +kernel) (by decide +kernel) (at_483) (by decide +kernel) rfl rfl rfl (Nat.le_of_ble_eq_true rfl) rfl hr134 ?_
                  refine w_aload_n (n := 115) (i := 0) (by decide +kernel) rfl rfl ?_
                  refine w_iload_n (n := 116) (i := 1) (by decide +kernel) rfl rfl ?_
                  refine w_iconst (n := 117) (v := 3) (x := 3) (by decide +kernel) rfl (by decide) ?_
                  refine w_iconst (n := 118) (v := 0) (x := 0) (by decide +kernel) rfl (by decide) ?_
                  obtain ⟨M130, hLM130, hr133, h⟩ := h
                  refine w_cV (n := 121) (idx := 96) (cal := 172) (na := 3) (nl := 4) (as := [.int x1, .int 3, .int 0]) (rest := []) hLM129 (by decide +kernel) (by decide +kernel) (at_483) (by decide +kernel) rfl rfl rfl (Nat.le_of_ble_eq_true rfl) rfl hr133 ?_
                  refine w_aload_n (n := 122) (i := 0) (by decide +kernel) rfl rfl ?_
                  refine w_iload_n (n := 123) (i := 1) (by decide +kernel) rfl rfl ?_
                  obtain ⟨M131, hLM131, hr132, h⟩ := h
                  refine w_cV (n := 126) (idx := 320) (cal := 259) (na := 1) (nl := 2) (as := [.int x1]) (rest := []) hLM130 (by decide +kernel) (by decide +kernel) (at_483) (by decide +kernel) rfl rfl rfl (Nat.le_of_ble_eq_true rfl) rfl hr132 ?_
                  exact h
                · rw [if_neg c135] at h
                  refine w_icmp_ne_j (n := 126) (off := 22) (by decide +kernel) (by decide) c135 ?_
                  exact h
            · rw [if_neg c141] at h
              refine w_icmp_ne_j (n := 74) (off := 7) (by decide +kernel) (by decide) c141 ?_
              refine w_iconst (n := 75) (v := 0) (x := 0) (by decide +kernel) rfl (by decide) ?_
              refine w_iconst (n := 76) (v := 3) (x := 3) (by decide +kernel) rfl (by decide) ?_
              obtain ⟨v104, M103, hLM103, hr121, h⟩ := h
              refine w_cV (n := 79) (idx := 257) (cal := 156) (na := 2) (nl := 3) (as := [.int 0, .int 3]) (rest := []) hLM101 (by decide +kernel) (by decide +kernel) (at_483) (by decide +kernel) rfl rfl rfl (Nat.le_of_ble_eq_true rfl) rfl hr121 ?_
              by_cases c120 : v104 = 0
              · rw [if_pos c120] at h
                refine w_if_ne_n (n := 82) (off := 5) (by decide +kernel) rfl c120 ?_
                exact h
              · rw [if_neg c120] at h
                refine w_if_ne_j (n := 84) (off := 5) (by decide +kernel) (by decide) c120 ?_
                refine w_aload_n (n := 85) (i := 0) (by decide +kernel) rfl rfl ?_
                obtain ⟨M105, hLM105, hr119, h⟩ := h
                refine w_cV (n := 88) (idx := 314) (cal := 161) (na := 0) (nl := 1) (as := []) (rest := []) hLM103 (by decide +kernel) (by decide +kernel) (at_483) (by decide +kernel) rfl rfl rfl (Nat.le_of_ble_eq_true rfl) rfl hr119 ?_
                refine w_aload_n (n := 89) (i := 0) (by decide +kernel) rfl rfl ?_
                refine w_iload_n (n := 90) (i := 1) (by decide +kernel) rfl rfl ?_
                refine w_bipush (n := 92) (v := 10) (x := 10) (by decide +kernel) rfl (by decide) ?_
                obtain ⟨v107, M106, hLM106, hr118, h⟩ := h
                refine w_cV (n := 95) (idx := 92) (cal := 171) (na := 2) (nl := 3) (as := [.int x1, .int 10]) (rest := []) hLM105 (by decide +kernel) (by decide +kernel) (at_483) (by decide +kernel) rfl rfl rfl (Nat.le_of_ble_eq_true rfl) rfl hr118 ?_
                refine w_istore (n := 97) (i := 4) (l1' := [some (.ref 483), some (.int x1), some (.int x2), some (.int x3), some (.int v107)]) (l2' := []) (by decide +kernel) rfl (Nat.le_of_ble_eq_true rfl) rfl rfl ?_
                refine w_aload_n (n := 98) (i := 0) (by decide +kernel) rfl rfl ?_
                refine w_iload_n (n := 99) (i := 1) (by decide +kernel) rfl rfl ?_
                refine w_iconst (n := 100) (v := 0) (x := 0) (by decide +kernel) rfl (by decide) ?_
                obtain ⟨v109, M108, hLM108, hr117, h⟩ := h
                refine w_cV (n := 103) (idx := 92) (cal := 171) (na := 2) (nl := 3) (as := [.int x1, .int 0]) (rest := []) hLM106 (by decide +kernel) (by decide +kernel) (at_483) (by decide +kernel) rfl rfl rfl (Nat.le_of_ble_eq_true rfl) rfl hr117 ?_
                refine w_iconst (n := 104) (v := 4) (x := 4) (by decide +kernel) rfl (by decide) ?_
                by_cases c116 : v109 = 4
                · rw [if_pos c116] at h
                  refine w_icmp_ne_n (n := 107) (off := 22) (by decide +kernel) rfl c116 ?_
                  refine w_aload_n (n := 108) (i := 0) (by decide +kernel) rfl rfl ?_
                  refine w_iload_n (n := 109) (i := 1) (by decide +kernel) rfl rfl ?_
                  refine w_iconst (n := 110) (v := 0) (x := 0) (by decide +kernel) rfl (by decide) ?_
                  refine w_iconst (n := 111) (v := 1) (x := 1) (by decide +kernel) rfl (by decide) ?_
                  obtain ⟨M110, hLM110, hr115, h⟩ := h
                  refine w_cV (n := 114) (idx := 96) (cal := 172) (na := 3) (nl := 4) (as := [.int x1, .int 0, .int 1]) (rest := []) hLM108 (by decide +kernel) (by decide +kernel) (at_483) (by decide +kernel) rfl rfl rfl (Nat.le_of_ble_eq_true rfl) rfl hr115 ?_
                  refine w_aload_n (n := 115) (i := 0) (by decide +kernel) rfl rfl ?_
                  refine w_iload_n (n := 116) (i := 1) (by decide +kernel) rfl rfl ?_
                  refine w_iconst (n := 117) (v := 3) (x := 3) (by decide +kernel) rfl (by decide) ?_
                  refine w_iconst (n := 118) (v := 0) (x := 0) (by decide +kernel) rfl (by decide) ?_
                  obtain ⟨M111, hLM111, hr114, h⟩ := h
                  refine w_cV (n := 121) (idx := 96) (cal := 172) (na := 3) (nl := 4) (as := [.int x1, .int 3, .int 0]) (rest := []) hLM110 (by decide +kernel) (by decide +kernel) (at_483) (by decide +kernel) rfl rfl rfl (Nat.le_of_ble_eq_true rfl) rfl hr114 ?_
                  refine w_aload_n (n := 122) (i := 0) (by decide +kernel) rfl rfl ?_
                  refine w_iload_n (n := 123) (i := 1) (by decide +kernel) rfl rfl ?_
                  obtain ⟨M112, hLM112, hr113, h⟩ := h
                  refine w_cV (n := 126) (idx := 320) (cal := 259) (na := 1) (nl := 2) (as := [.int x1]) (rest := []) hLM111 (by decide +kernel) (by decide +kernel) (at_483) (by decide +kernel) rfl rfl rfl (Nat.le_of_ble_eq_true rfl) rfl hr113 ?_
                  exact h
                · rw [if_neg c116] at h
                  refine w_icmp_ne_j (n := 126) (off := 22) (by decide +kernel) (by decide) c116 ?_
                  exact h
      · rw [if_neg c216] at h
        refine w_if_eq_n (n := 37) (off := 7) (by decide +kernel) rfl c216 ?_
        refine w_iconst (n := 38) (v := 1) (x := 1) (by decide +kernel) rfl (by decide) ?_
        refine w_goto (n := 42) (off := 4) (by decide +kernel) (by decide) ?_
        refine w_iconst (n := 43) (v := 2) (x := 2) (by decide +kernel) rfl (by decide) ?_
        obtain ⟨v148, M147, hLM147, hr215, h⟩ := h
        refine w_cV (n := 46) (idx := 257) (cal := 156) (na := 2) (nl := 3) (as := [.int 1, .int 2]) (rest := []) hLM76 (by decide +kernel) (by decide +kernel) (at_483) (by decide +kernel) rfl rfl rfl (Nat.le_of_ble_eq_true rfl) rfl hr215 ?_
        by_cases c214 : v148 = 0
        · rw [if_pos c214] at h
          refine w_if_eq_j (n := 82) (off := 36) (by decide +kernel) (by decide) c214 ?_
          exact h
        · rw [if_neg c214] at h
          refine w_if_eq_n (n := 49) (off := 36) (by decide +kernel) rfl c214 ?_
          refine w_aload_n (n := 50) (i := 0) (by decide +kernel) rfl rfl ?_
          refine w_aload_n (n := 51) (i := 0) (by decide +kernel) rfl rfl ?_
          refine w_iload_n (n := 52) (i := 1) (by decide +kernel) rfl rfl ?_
          refine w_iconst (n := 53) (v := 0) (x := 0) (by decide +kernel) rfl (by decide) ?_
          obtain ⟨v150, M149, hLM149, hr213, h⟩ := h
          refine w_cV (n := 56) (idx := 92) (cal := 171) (na := 2) (nl := 3) (as := [.int x1, .int 0]) (rest := [.ref 483]) hLM147 (by decide +kernel) (by decide +kernel) (at_483) (by decide +kernel) rfl rfl rfl (Nat.le_of_ble_eq_true rfl) rfl hr213 ?_
          refine w_iconst (n := 57) (v := 1) (x := 1) (by decide +kernel) rfl (by decide) ?_
          by_cases c212 : v150 = 1
          · rw [if_pos c212] at h
            refine w_icmp_eq_j (n := 70) (off := 13) (by decide +kernel) (by decide) c212 ?_
            refine w_iconst (n := 71) (v := 1) (x := 1) (by decide +kernel) rfl (by decide) ?_
            refine w_goto (n := 75) (off := 4) (by decide +kernel) (by decide) ?_
            refine w_iconst (n := 76) (v := 3) (x := 3) (by decide +kernel) rfl (by decide) ?_
            obtain ⟨v152, M151, hLM151, hr169, h⟩ := h
            refine w_cV (n := 79) (idx := 257) (cal := 156) (na := 2) (nl := 3) (as := [.int 1, .int 3]) (rest := []) hLM149 (by decide +kernel) (by decide +kernel) (at_483) (by decide +kernel) rfl rfl rfl (Nat.le_of_ble_eq_true rfl) rfl hr169 ?_
            by_cases c168 : v152 = 0
            · rw [if_pos c168] at h
              refine w_if_ne_n (n := 82) (off := 5) (by decide +kernel) rfl c168 ?_
              exact h
            · rw [if_neg c168] at h
              refine w_if_ne_j (n := 84) (off := 5) (by decide +kernel) (by decide) c168 ?_
              refine w_aload_n (n := 85) (i := 0) (by decide +kernel) rfl rfl ?_
              obtain ⟨M153, hLM153, hr167, h⟩ := h
              refine w_cV (n := 88) (idx := 314) (cal := 161) (na := 0) (nl := 1) (as := []) (rest := []) hLM151 (by decide +kernel) (by decide +kernel) (at_483) (by decide +kernel) rfl rfl rfl (Nat.le_of_ble_eq_true rfl) rfl hr167 ?_
              refine w_aload_n (n := 89) (i := 0) (by decide +kernel) rfl rfl ?_
              refine w_iload_n (n := 90) (i := 1) (by decide +kernel) rfl rfl ?_
              refine w_bipush (n := 92) (v := 10) (x := 10) (by decide +kernel) rfl (by decide) ?_
              obtain ⟨v155, M154, hLM154, hr166, h⟩ := h
              refine w_cV (n := 95) (idx := 92) (cal := 171) (na := 2) (nl := 3) (as := [.int x1, .int 10]) (rest := []) hLM153 (by decide +kernel) (by decide +kernel) (at_483) (by decide +kernel) rfl rfl rfl (Nat.le_of_ble_eq_true rfl) rfl hr166 ?_
              refine w_istore (n := 97) (i := 4) (l1' := [some (.ref 483), some (.int x1), some (.int x2), some (.int x3), some (.int v155)]) (l2' := []) (by decide +kernel) rfl (Nat.le_of_ble_eq_true rfl) rfl rfl ?_
              refine w_aload_n (n := 98) (i := 0) (by decide +kernel) rfl rfl ?_
              refine w_iload_n (n := 99) (i := 1) (by decide +kernel) rfl rfl ?_
              refine w_iconst (n := 100) (v := 0) (x := 0) (by decide +kernel) rfl (by decide) ?_
              obtain ⟨v157, M156, hLM156, hr165, h⟩ := h
              refine w_cV (n := 103) (idx := 92) (cal := 171) (na := 2) (nl := 3) (as := [.int x1, .int 0]) (rest := []) hLM154 (by decide +kernel) (by decide +kernel) (at_483) (by decide +kernel) rfl rfl rfl (Nat.le_of_ble_eq_true rfl) rfl hr165 ?_
              refine w_iconst (n := 104) (v := 4) (x := 4) (by decide +kernel) rfl (by decide) ?_
              by_cases c164 : v157 = 4
              · rw [if_pos c164] at h
                refine w_icmp_ne_n (n := 107) (off := 22) (by decide +kernel) rfl c164 ?_
                refine w_aload_n (n := 108) (i := 0) (by decide +kernel) rfl rfl ?_
                refine w_iload_n (n := 109) (i := 1) (by decide +kernel) rfl rfl ?_
                refine w_iconst (n := 110) (v := 0) (x := 0) (by decide +kernel) rfl (by decide) ?_
                refine w_iconst (n := 111) (v := 1) (x := 1) (by decide +kernel) rfl (by decide) ?_
                obtain ⟨M158, hLM158, hr163, h⟩ := h
                refine w_cV (n := 114) (idx := 96) (cal := 172) (na := 3) (nl := 4) (as := [.int x1, .int 0, .int 1]) (rest := []) hLM156 (by decide +kernel) (by decide +kernel) (at_483) (by decide +kernel) rfl rfl rfl (Nat.le_of_ble_eq_true rfl) rfl hr163 ?_
                refine w_aload_n (n := 115) (i := 0) (by decide +kernel) rfl rfl ?_
                refine w_iload_n (n := 116) (i := 1) (by decide +kernel) rfl rfl ?_
                refine w_iconst (n := 117) (v := 3) (x := 3) (by decide +kernel) rfl (by decide) ?_
                refine w_iconst (n := 118) (v := 0) (x := 0) (by decide +kernel) rfl (by decide) ?_
                obtain ⟨M159, hLM159, hr162, h⟩ := h
                refine w_cV (n := 121) (idx := 96) (cal := 172) (na := 3) (nl := 4) (as := [.int x1, .int 3, .int 0]) (rest := []) hLM158 (by decide +kernel) (by decide +kernel) (at_483) (by decide +kernel) rfl rfl rfl (Nat.le_of_ble_eq_true rfl) rfl hr162 ?_
                refine w_aload_n (n := 122) (i := 0) (by decide +kernel) rfl rfl ?_
                refine w_iload_n (n := 123) (i := 1) (by decide +kernel) rfl rfl ?_
                obtain ⟨M160, hLM160, hr161, h⟩ := h
                refine w_cV (n := 126) (idx := 320) (cal := 259) (na := 1) (nl := 2) (as := [.int x1]) (rest := []) hLM159 (by decide +kernel) (by decide +kernel) (at_483) (by decide +kernel) rfl rfl rfl (Nat.le_of_ble_eq_true rfl) rfl hr161 ?_
                exact h
              · rw [if_neg c164] at h
                refine w_icmp_ne_j (n := 126) (off := 22) (by decide +kernel) (by decide) c164 ?_
                exact h
          · rw [if_neg c212] at h
            refine w_icmp_eq_n (n := 60) (off := 13) (by decide +kernel) rfl c212 ?_
            refine w_aload_n (n := 61) (i := 0) (by decide +kernel) rfl rfl ?_
            refine w_iload_n (n := 62) (i := 1) (by decide +kernel) rfl rfl ?_
            refine w_iconst (n := 63) (v := 0) (x := 0) (by decide +kernel) rfl (by decide) ?_
            obtain ⟨v171, M170, hLM170, hr211, h⟩ := h
            refine w_cV (n := 66) (idx := 92) (cal := 171) (na := 2) (nl := 3) (as := [.int x1, .int 0]) (rest := [.ref 483]) hLM149 (by decide +kernel) (by decide +kernel) (at_483) (by decide +kernel) rfl rfl rfl (Nat.le_of_ble_eq_true rfl) rfl hr211 ?_
            refine w_iconst (n := 67) (v := 4) (x := 4) (by decide +kernel) rfl (by decide) ?_
            by_cases c210 : v171 = 4
            · rw [if_pos c210] at h
              refine w_icmp_ne_n (n := 70) (off := 7) (by decide +kernel) rfl c210 ?_
              refine w_iconst (n := 71) (v := 1) (x := 1) (by decide +kernel) rfl (by decide) ?_
              refine w_goto (n := 75) (off := 4) (by decide +kernel) (by decide) ?_
              refine w_iconst (n := 76) (v := 3) (x := 3) (by decide +kernel) rfl (by decide) ?_
              obtain ⟨v192, M191, hLM191, hr209, h⟩ := h
              refine w_cV (n := 79) (idx := 257) (cal := 156) (na := 2) (nl := 3) (as := [.int 1, .int 3]) (rest := []) hLM170 (by decide +kernel) (by decide +kernel) (at_483) (by decide +kernel) rfl rfl rfl (Nat.le_of_ble_eq_true rfl) rfl hr209 ?_
              by_cases c208 : v192 = 0
              · rw [if_pos c208] at h
                refine w_if_ne_n (n := 82) (off := 5) (by decide +kernel) rfl c208 ?_
                exact h
              · rw [if_neg c208] at h
                refine w_if_ne_j (n := 84) (off := 5) (by decide +kernel) (by decide) c208 ?_
                refine w_aload_n (n := 85) (i := 0) (by decide +kernel) rfl rfl ?_
                obtain ⟨M193, hLM193, hr207, h⟩ := h
                refine w_cV (n := 88) (idx := 314) (cal := 161) (na := 0) (nl := 1) (as := []) (rest := []) hLM191 (by decide +kernel) (by decide +kernel) (at_483) (by decide +kernel) rfl rfl rfl (Nat.le_of_ble_eq_true rfl) rfl hr207 ?_
                refine w_aload_n (n := 89) (i := 0) (by decide +kernel) rfl rfl ?_
                refine w_iload_n (n := 90) (i := 1) (by decide +kernel) rfl rfl ?_
                refine w_bipush (n := 92) (v := 10) (x := 10) (by decide +kernel) rfl (by decide) ?_
                obtain ⟨v195, M194, hLM194, hr206, h⟩ := h
                refine w_cV (n := 95) (idx := 92) (cal := 171) (na := 2) (nl := 3) (as := [.int x1, .int 10]) (rest := []) hLM193 (by decide +kernel) (by decide +kernel) (at_483) (by decide +kernel) rfl rfl rfl (Nat.le_of_ble_eq_true rfl) rfl hr206 ?_
                refine w_istore (n := 97) (i := 4) (l1' := [some (.ref 483), some (.int x1), some (.int x2), some (.int x3), some (.int v195)]) (l2' := []) (by decide +kernel) rfl (Nat.le_of_ble_eq_true rfl) rfl rfl ?_
                refine w_aload_n (n := 98) (i := 0) (by decide +kernel) rfl rfl ?_
                refine w_iload_n (n := 99) (i := 1) (by decide +kernel) rfl rfl ?_
                refine w_iconst (n := 100) (v := 0) (x := 0) (by decide +kernel) rfl (by decide) ?_
                obtain ⟨v197, M196, hLM196, hr205, h⟩ := h
                refine w_cV (n := 103) (idx := 92) (cal := 171) (na := 2) (nl := 3) (as := [.int x1, .int 0]) (rest := []) hLM194 (by decide +kernel) (by decide +kernel) (at_483) (by decide +kernel) rfl rfl rfl (Nat.le_of_ble_eq_true rfl) rfl hr205 ?_
                refine w_iconst (n := 104) (v := 4) (x := 4) (by decide +kernel) rfl (by decide) ?_
                by_cases c204 : v197 = 4
                · rw [if_pos c204] at h
                  refine w_icmp_ne_n (n := 107) (off := 22) (by decide +kernel) rfl c204 ?_
                  refine w_aload_n (n := 108) (i := 0) (by decide +kernel) rfl rfl ?_
                  refine w_iload_n (n := 109) (i := 1) (by decide +kernel) rfl rfl ?_
                  refine w_iconst (n := 110) (v := 0) (x := 0) (by decide +kernel) rfl (by decide) ?_
                  refine w_iconst (n := 111) (v := 1) (x := 1) (by decide +kernel) rfl (by decide) ?_
                  obtain ⟨M198, hLM198, hr203, h⟩ := h
                  refine w_cV (n := 114) (idx := 96) (cal := 172) (na := 3) (nl := 4) (as := [.int x1, .int 0, .int 1]) (rest := []) hLM196 (by decide +kernel) (by decide +kernel) (at_483) (by decide +kernel) rfl rfl rfl (Nat.le_of_ble_eq_true rfl) rfl hr203 ?_
                  refine w_aload_n (n := 115) (i := 0) (by decide +kernel) rfl rfl ?_
                  refine w_iload_n (n := 116) (i := 1) (by decide +kernel) rfl rfl ?_
                  refine w_iconst (n := 117) (v := 3) (x := 3) (by decide +kernel) rfl (by decide) ?_
                  refine w_iconst (n := 118) (v := 0) (x := 0) (by decide +kernel) rfl (by decide) ?_
                  obtain ⟨M199, hLM199, hr202, h⟩ := h
                  refine w_cV (n := 121) (idx := 96) (cal := 172) (na := 3) (nl := 4) (as := [.int x1, .int 3, .int 0]) (rest := []) hLM198 (by decide +kernel) (by decide +kernel) (at_483) (by decide +kernel) rfl rfl rfl (Nat.le_of_ble_eq_true rfl) rfl hr202 ?_
                  refine w_aload_n (n := 122) (i := 0) (by decide +kernel) rfl rfl ?_
                  refine w_iload_n (n := 123) (i := 1) (by decide +kernel) rfl rfl ?_
                  obtain ⟨M200, hLM200, hr201, h⟩ := h
                  refine w_cV (n := 126) (idx := 320) (cal := 259) (na := 1) (nl := 2) (as := [.int x1]) (rest := []) hLM199 (by decide +kernel) (by decide +kernel) (at_483) (by decide +kernel) rfl rfl rfl (Nat.le_of_ble_eq_true rfl) rfl hr201 ?_
                  exact h
                · rw [if_neg c204] at h
                  refine w_icmp_ne_j (n := 126) (off := 22) (by decide +kernel) (by decide) c204 ?_
                  exact h
            · rw [if_neg c210] at h
              refine w_icmp_ne_j (n := 74) (off := 7) (by decide +kernel) (by decide) c210 ?_
              refine w_iconst (n := 75) (v := 0) (x := 0) (by decide +kernel) rfl (by decide) ?_
              refine w_iconst (n := 76) (v := 3) (x := 3) (by decide +kernel) rfl (by decide) ?_
              obtain ⟨v173, M172, hLM172, hr190, h⟩ := h
              refine w_cV (n := 79) (idx := 257) (cal := 156) (na := 2) (nl := 3) (as := [.int 0, .int 3]) (rest := []) hLM170 (by decide +kernel) (by decide +kernel) (at_483) (by decide +kernel) rfl rfl rfl (Nat.le_of_ble_eq_true rfl) rfl hr190 ?_
              by_cases c189 : v173 = 0
              · rw [if_pos c189] at h
                refine w_if_ne_n (n := 82) (off := 5) (by decide +kernel) rfl c189 ?_
                exact h
              · rw [if_neg c189] at h
                refine w_if_ne_j (n := 84) (off := 5) (by decide +kernel) (by decide) c189 ?_
                refine w_aload_n (n := 85) (i := 0) (by decide +kernel) rfl rfl ?_
                obtain ⟨M174, hLM174, hr188, h⟩ := h
                refine w_cV (n := 88) (idx := 314) (cal := 161) (na := 0) (nl := 1) (as := []) (rest := []) hLM172 (by decide +kernel) (by decide +kernel) (at_483) (by decide +kernel) rfl rfl rfl (Nat.le_of_ble_eq_true rfl) rfl hr188 ?_
                refine w_aload_n (n := 89) (i := 0) (by decide +kernel) rfl rfl ?_
                refine w_iload_n (n := 90) (i := 1) (by decide +kernel) rfl rfl ?_
                refine w_bipush (n := 92) (v := 10) (x := 10) (by decide +kernel) rfl (by decide) ?_
                obtain ⟨v176, M175, hLM175, hr187, h⟩ := h
                refine w_cV (n := 95) (idx := 92) (cal := 171) (na := 2) (nl := 3) (as := [.int x1, .int 10]) (rest := []) hLM174 (by decide +kernel) (by decide +kernel) (at_483) (by decide +kernel) rfl rfl rfl (Nat.le_of_ble_eq_true rfl) rfl hr187 ?_
                refine w_istore (n := 97) (i := 4) (l1' := [some (.ref 483), some (.int x1), some (.int x2), some (.int x3), some (.int v176)]) (l2' := []) (by decide +kernel) rfl (Nat.le_of_ble_eq_true rfl) rfl rfl ?_
                refine w_aload_n (n := 98) (i := 0) (by decide +kernel) rfl rfl ?_
                refine w_iload_n (n := 99) (i := 1) (by decide +kernel) rfl rfl ?_
                refine w_iconst (n := 100) (v := 0) (x := 0) (by decide +kernel) rfl (by decide) ?_
                obtain ⟨v178, M177, hLM177, hr186, h⟩ := h
                refine w_cV (n := 103) (idx := 92) (cal := 171) (na := 2) (nl := 3) (as := [.int x1, .int 0]) (rest := []) hLM175 (by decide +kernel) (by decide +kernel) (at_483) (by decide +kernel) rfl rfl rfl (Nat.le_of_ble_eq_true rfl) rfl hr186 ?_
                refine w_iconst (n := 104) (v := 4) (x := 4) (by decide +kernel) rfl (by decide) ?_
                by_cases c185 : v178 = 4
                · rw [if_pos c185] at h
                  refine w_icmp_ne_n (n := 107) (off := 22) (by decide +kernel) rfl c185 ?_
                  refine w_aload_n (n := 108) (i := 0) (by decide +kernel) rfl rfl ?_
                  refine w_iload_n (n := 109) (i := 1) (by decide +kernel) rfl rfl ?_
                  refine w_iconst (n := 110) (v := 0) (x := 0) (by decide +kernel) rfl (by decide) ?_
                  refine w_iconst (n := 111) (v := 1) (x := 1) (by decide +kernel) rfl (by decide) ?_
                  obtain ⟨M179, hLM179, hr184, h⟩ := h
                  refine w_cV (n := 114) (idx := 96) (cal := 172) (na := 3) (nl := 4) (as := [.int x1, .int 0, .int 1]) (rest := []) hLM177 (by decide +kernel) (by decide +kernel) (at_483) (by decide +kernel) rfl rfl rfl (Nat.le_of_ble_eq_true rfl) rfl hr184 ?_
                  refine w_aload_n (n := 115) (i := 0) (by decide +kernel) rfl rfl ?_
                  refine w_iload_n (n := 116) (i := 1) (by decide +kernel) rfl rfl ?_
                  refine w_iconst (n := 117) (v := 3) (x := 3) (by decide +kernel) rfl (by decide) ?_
                  refine w_iconst (n := 118) (v := 0) (x := 0) (by decide +kernel) rfl (by decide) ?_
                  obtain ⟨M180, hLM180, hr183, h⟩ := h
                  refine w_cV (n := 121) (idx := 96) (cal := 172) (na := 3) (nl := 4) (as := [.int x1, .int 3, .int 0]) (rest := []) hLM179 (by decide +kernel) (by decide +kernel) (at_483) (by decide +kernel) rfl rfl rfl (Nat.le_of_ble_eq_true rfl) rfl hr183 ?_
                  refine w_aload_n (n := 122) (i := 0) (by decide +kernel) rfl rfl ?_
                  refine w_iload_n (n := 123) (i := 1) (by decide +kernel) rfl rfl ?_
                  obtain ⟨M181, hLM181, hr182, h⟩ := h
                  refine w_cV (n := 126) (idx := 320) (cal := 259) (na := 1) (nl := 2) (as := [.int x1]) (rest := []) hLM180 (by decide +kernel) (by decide +kernel) (at_483) (by decide +kernel) rfl rfl rfl (Nat.le_of_ble_eq_true rfl) rfl hr182 ?_
                  exact h
                · rw [if_neg c185] at h
                  refine w_icmp_ne_j (n := 126) (off := 22) (by decide +kernel) (by decide) c185 ?_
                  exact h
theorem t_265_82 {X : ak_X} {M : ak_M} {r : ak_O × ak_M} (hL : ab_lay M) (x1 : Int32) (x2 : Int32) (x3 : Int32) (o0 : Option Value) (o1 : Option Value) (o2 : Option Value) (o3 : Option Value) (o4 : Option Value) (h : r = (.inl (some (.int 0)), M)) : sg X 265 (82, [o0, o1, o2, o3, o4], [], []) M r := by
  refine w_iconst (n := 83) (v := 0) (x := 0) (by decide +kernel) rfl (by decide) ?_
  subst h
  exact w_ireturn (by decide +kernel) (w_okI (by decide +kernel))
theorem t_265_126 {X : ak_X} {M : ak_M} {r : ak_O × ak_M} (hL : ab_lay M) (x1 : Int32) (x2 : Int32) (x3 : Int32) (y4 : Int32) (h : (∃ (M223 : ak_M), ab_lay M223 ∧ rn X 172 [.ref 483, .int x1, .int 8, .int x2] M (.inl (none), M223) ∧ (∃ (M224 : ak_M), ab_lay M224 ∧ rn X 172 [.ref 483, .int x1, .int 9, .int x3] M223 (.inl (none), M224) ∧ (∃ (M225 : ak_M), ab_lay M225 ∧ rn X 172 [.ref 483, .int x1, .int 10, .int 0] M224 (.inl (none), M225) ∧ (∃ (M226 : ak_M), ab_lay M226 ∧ rn X 172 [.ref 483, .int x1, .int 6, .int 10] M225 (.inl (none), M226) ∧ (∃ (M227 : ak_M), ab_lay M227 ∧ rn X 172 [.ref 483, .int x1, .int 12, .int ((-1))] M226 (.inl (none), M227) ∧ (∃ (M228 : ak_M), ab_lay M228 ∧ rn X 172 [.ref 483, .int x1, .int 13, .int ((-1))] M227 (.inl (none), M228) ∧ (∃ (v230 : Int32) (M229 : ak_M), ab_lay M229 ∧ rn X 162 [.ref 483, .int y4] M228 (.inl (some (.int v230)), M229) ∧ r = (.inl (some (.int v230)), M229))))))))) : sg X 265 (126, [some (.ref 483), some (.int x1), some (.int x2), some (.int x3), some (.int y4)], [], []) M r := by
  refine w_aload_n (n := 127) (i := 0) (by decide +kernel) rfl rfl ?_
  refine w_iload_n (n := 128) (i := 1) (by decide +kernel) rfl rfl ?_
  refine w_bipush (n := 130) (v := 8) (x := 8) (by decide +kernel) rfl (by decide) ?_
  refine w_iload_n (n := 131) (i := 2) (by decide +kernel) rfl rfl ?_
  obtain ⟨M223, hLM223, hr237, h⟩ := h
  refine w_cV (n := 134) (idx := 96) (cal := 172) (na := 3) (nl := 4) (as := [.int x1, .int 8, .int x2]) (rest := []) hL (by decide +kernel) (by decide +kernel) (at_483) (by decide +kernel) rfl rfl rfl (Nat.le_of_ble_eq_true rfl) rfl hr237 ?_
  refine w_aload_n (n := 135) (i := 0) (by decide +kernel) rfl rfl ?_
  refine w_iload_n (n := 136) (i := 1) (by decide +kernel) rfl rfl ?_
  refine w_bipush (n := 138) (v := 9) (x := 9) (by decide +kernel) rfl (by decide) ?_
  refine w_iload_n (n := 139) (i := 3) (by decide +kernel) rfl rfl ?_
  obtain ⟨M224, hLM224, hr236, h⟩ := h
  refine w_cV (n := 142) (idx := 96) (cal := 172) (na := 3) (nl := 4) (as := [.int x1, .int 9, .int x3]) (rest := []) hLM223 (by decide +kernel) (by decide +kernel) (at_483) (by decide +kernel) rfl rfl rfl (Nat.le_of_ble_eq_true rfl) rfl hr236 ?_
  refine w_aload_n (n := 143) (i := 0) (by decide +kernel) rfl rfl ?_
  refine w_iload_n (n := 144) (i := 1) (by decide +kernel) rfl rfl ?_
  refine w_bipush (n := 146) (v := 10) (x := 10) (by decide +kernel) rfl (by decide) ?_
  refine w_iconst (n := 147) (v := 0) (x := 0) (by decide +kernel) rfl (by decide) ?_
  obtain ⟨M225, hLM225, hr235, h⟩ := h
  refine w_cV (n := 150) (idx := 96) (cal := 172) (na := 3) (nl := 4) (as := [.int x1, .int 10, .int 0]) (rest := []) hLM224 (by decide +kernel) (by decide +kernel) (at_483) (by decide +kernel) rfl rfl rfl (Nat.le_of_ble_eq_true rfl) rfl hr235 ?_
  refine w_aload_n (n := 151) (i := 0) (by decide +kernel) rfl rfl ?_
  refine w_iload_n (n := 152) (i := 1) (by decide +kernel) rfl rfl ?_
  refine w_bipush (n := 154) (v := 6) (x := 6) (by decide +kernel) rfl (by decide) ?_
  refine w_bipush (n := 156) (v := 10) (x := 10) (by decide +kernel) rfl (by decide) ?_
  obtain ⟨M226, hLM226, hr234, h⟩ := h
  refine w_cV (n := 159) (idx := 96) (cal := 172) (na := 3) (nl := 4) (as := [.int x1, .int 6, .int 10]) (rest := []) hLM225 (by decide +kernel) (by decide +kernel) (at_483) (by decide +kernel) rfl rfl rfl (Nat.le_of_ble_eq_true rfl) rfl hr234 ?_
  refine w_aload_n (n := 160) (i := 0) (by decide +kernel) rfl rfl ?_
  refine w_iload_n (n := 161) (i := 1) (by decide +kernel) rfl rfl ?_
  refine w_bipush (n := 163) (v := 12) (x := 12) (by decide +kernel) rfl (by decide) ?_
  refine w_iconst (n := 164) (v := -1) (x := (-1)) (by decide +kernel) rfl (by decide) ?_
  obtain ⟨M227, hLM227, hr233, h⟩ := h
  refine w_cV (n := 167) (idx := 96) (cal := 172) (na := 3) (nl := 4) (as := [.int x1, .int 12, .int ((-1))]) (rest := []) hLM226 (by decide +kernel) (by decide +kernel) (at_483) (by decide +kernel) rfl rfl rfl (Nat.le_of_ble_eq_true rfl) rfl hr233 ?_
  refine w_aload_n (n := 168) (i := 0) (by decide +kernel) rfl rfl ?_
  refine w_iload_n (n := 169) (i := 1) (by decide +kernel) rfl rfl ?_
  refine w_bipush (n := 171) (v := 13) (x := 13) (by decide +kernel) rfl (by decide) ?_
  refine w_iconst (n := 172) (v := -1) (x := (-1)) (by decide +kernel) rfl (by decide) ?_
  obtain ⟨M228, hLM228, hr232, h⟩ := h
  refine w_cV (n := 175) (idx := 96) (cal := 172) (na := 3) (nl := 4) (as := [.int x1, .int 13, .int ((-1))]) (rest := []) hLM227 (by decide +kernel) (by decide +kernel) (at_483) (by decide +kernel) rfl rfl rfl (Nat.le_of_ble_eq_true rfl) rfl hr232 ?_
  refine w_aload_n (n := 176) (i := 0) (by decide +kernel) rfl rfl ?_
  refine w_iload (n := 178) (i := 4) (by decide +kernel) rfl rfl ?_
  obtain ⟨v230, M229, hLM229, hr231, h⟩ := h
  refine w_cV (n := 181) (idx := 317) (cal := 162) (na := 1) (nl := 2) (as := [.int y4]) (rest := []) hLM228 (by decide +kernel) (by decide +kernel) (at_483) (by decide +kernel) rfl rfl rfl (Nat.le_of_ble_eq_true rfl) rfl hr231 ?_
  subst h
  exact w_ireturn (by decide +kernel) (w_okI (by decide +kernel))
theorem t_266 {X : ak_X} {M : ak_M} {r : ak_O × ak_M} (hL : ab_lay M) (x0 : Int32) (x1 : Int32) (h : (∃ (v2 : Int32) (M1 : ak_M), ab_lay M1 ∧ rn X 157 [.long (x0.toInt64), .long ((-9)), .long 9] M (.inl (some (.int v2)), M1) ∧ (if v2 = 0 then r = (.inl (some (.int 0)), M1) else (∃ (v4 : Int32) (M3 : ak_M), ab_lay M3 ∧ rn X 157 [.long (x1.toInt64), .long ((-9)), .long 9] M1 (.inl (some (.int v4)), M3) ∧ (if v4 = 0 then r = (.inl (some (.int 0)), M3) else r = (.inl (some (.int 1)), M3)))))) : rn X 266 [.int x0, .int x1] M r := by
  refine w_rn (nL := 2) (l1 := [some (.int x0), some (.int x1)]) (by decide +kernel) rfl rfl ?_
  refine w_iload_n (n := 1) (i := 0) (by decide +kernel) rfl rfl ?_
  refine w_i2l (n := 2) (by decide +kernel) rfl ?_
  refine w_ldc2 (n := 5) (idx := 323) (v := (-9)) (by decide +kernel) oO_266 (by decide +kernel) rfl ?_
  refine w_ldc2 (n := 8) (idx := 325) (v := 9) (by decide +kernel) oO_266 (by decide +kernel) rfl ?_
  obtain ⟨v2, M1, hLM1, hr8, h⟩ := h
  refine w_cS (n := 11) (idx := 84) (cal := 157) (na := 3) (nl := 6) (as := [.long (x0.toInt64), .long ((-9)), .long 9]) (rest := []) (by decide +kernel) (by decide +kernel) rfl rfl rfl (Nat.le_of_ble_eq_true rfl) rfl hr8 ?_
  by_cases c7 : v2 = 0
  · rw [if_pos c7] at h
    refine w_if_eq_j (n := 32) (off := 21) (by decide +kernel) (by decide) c7 ?_
    refine w_iconst (n := 33) (v := 0) (x := 0) (by decide +kernel) rfl (by decide) ?_
    subst h
    exact w_ireturn (by decide +kernel) (by decide +kernel)
  · rw [if_neg c7] at h
    refine w_if_eq_n (n := 14) (off := 21) (by decide +kernel) rfl c7 ?_
    refine w_iload_n (n := 15) (i := 1) (by decide +kernel) rfl rfl ?_
    refine w_i2l (n := 16) (by decide +kernel) rfl ?_
    refine w_ldc2 (n := 19) (idx := 323) (v := (-9)) (by decide +kernel) oO_266 (by decide +kernel) rfl ?_
    refine w_ldc2 (n := 22) (idx := 325) (v := 9) (by decide +kernel) oO_266 (by decide +kernel) rfl ?_
    obtain ⟨v4, M3, hLM3, hr6, h⟩ := h
    refine w_cS (n := 25) (idx := 84) (cal := 157) (na := 3) (nl := 6) (as := [.long (x1.toInt64), .long ((-9)), .long 9]) (rest := []) (by decide +kernel) (by decide +kernel) rfl rfl rfl (Nat.le_of_ble_eq_true rfl) rfl hr6 ?_
    by_cases c5 : v4 = 0
    · rw [if_pos c5] at h
      refine w_if_eq_j (n := 32) (off := 7) (by decide +kernel) (by decide) c5 ?_
      refine w_iconst (n := 33) (v := 0) (x := 0) (by decide +kernel) rfl (by decide) ?_
      subst h
      exact w_ireturn (by decide +kernel) (by decide +kernel)
    · rw [if_neg c5] at h
      refine w_if_eq_n (n := 28) (off := 7) (by decide +kernel) rfl c5 ?_
      refine w_iconst (n := 29) (v := 1) (x := 1) (by decide +kernel) rfl (by decide) ?_
      refine w_goto (n := 33) (off := 4) (by decide +kernel) (by decide) ?_
      subst h
      exact w_ireturn (by decide +kernel) (by decide +kernel)
theorem t_267 {X : ak_X} {M : ak_M} {r : ak_O × ak_M} (hL : ab_lay M) (x1 : Int32) (x2 : Int32) (x3 : Int32) (h : (∃ i1 : Nat, ab_ix 2 i1 245 ∧ (∃ (v3 : Int32) (M2 : ak_M), ab_lay M2 ∧ rn X 157 [.long (x1.toInt64), .long 0, .long (((ak_I M 484 i1) - 1).toInt64)] M (.inl (some (.int v3)), M2) ∧ (∃ (v5 : Int32) (M4 : ak_M), ab_lay M4 ∧ rn X 155 [.ref 483, .int v3] M2 (.inl (some (.int v5)), M4) ∧ (if v5 = 0 then r = (.inl (some (.int 0)), M4) else (∃ (v7 : Int32) (M6 : ak_M), ab_lay M6 ∧ rn X 266 [.int x2, .int x3] M4 (.inl (some (.int v7)), M6) ∧ (∃ (v9 : Int32) (M8 : ak_M), ab_lay M8 ∧ rn X 156 [.ref 483, .int v7, .int 2] M6 (.inl (some (.int v9)), M8) ∧ (if v9 = 0 then r = (.inl (some (.int 0)), M8) else (∃ (M10 : ak_M), ab_lay M10 ∧ rn X 161 [.ref 483] M8 (.inl (none), M10) ∧ (∃ (v12 : Int32) (M11 : ak_M), ab_lay M11 ∧ rn X 179 [.ref 483, .int x1] M10 (.inl (some (.int v12)), M11) ∧ (∃ i13 : Nat, ab_ix ((11 + (3 * x1)) + 1) i13 245 ∧ (∀ M14 : ak_M, M14 = ak_sI M11 484 i13 x2 → (∃ i15 : Nat, ab_ix ((11 + (3 * x1)) + 2) i15 245 ∧ (∀ M16 : ak_M, M16 = ak_sI M14 484 i15 x3 → (∃ (v18 : Int32) (M17 : ak_M), ab_lay M17 ∧ rn X 162 [.ref 483, .int v12] M16 (.inl (some (.int v18)), M17) ∧ r = (.inl (some (.int v18)), M17)))))))))))))))) : rn X 267 [.ref 483, .int x1, .int x2, .int x3] M r := by
  refine w_rn (nL := 5) (l1 := [some (.ref 483), some (.int x1), some (.int x2), some (.int x3), none]) (by decide +kernel) rfl rfl ?_
  refine w_aload_n (n := 1) (i := 0) (by decide +kernel) rfl rfl ?_
  refine w_iload_n (n := 2) (i := 1) (by decide +kernel) rfl rfl ?_
  refine w_i2l (n := 3) (by decide +kernel) rfl ?_
  refine w_lconst (n := 4) (v := 0) (x := 0) (by decide +kernel) rfl (by decide) ?_
  refine w_aload_n (n := 5) (i := 0) (by decide +kernel) rfl rfl ?_
  refine w_getR (n := 8) hL (by decide +kernel) oO_267 fF_12_7 (at_483) (by decide) (ar_483_1) rfl ?_
  refine w_iconst (n := 9) (v := 2) (x := 2) (by decide +kernel) rfl (by decide) ?_
  obtain ⟨i1, gi1, h⟩ := h
  refine w_iald (n := 10) hL (by decide +kernel) (at_484) (an_484) gi1 rfl ?_
  refine w_iconst (n := 11) (v := 1) (x := 1) (by decide +kernel) rfl (by decide) ?_
  refine w_isub (n := 12) (by decide +kernel) rfl ?_
  refine w_i2l (n := 13) (by decide +kernel) rfl ?_
  obtain ⟨v3, M2, hLM2, hr27, h⟩ := h
  refine w_cS (n := 16) (idx := 84) (cal := 157) (na := 3) (nl := 6) (as := [.long (x1.toInt64), .long 0, .long (((ak_I M 484 i1) - 1).toInt64)]) (rest := [.ref 483]) (by decide +kernel) (by decide +kernel) rfl rfl rfl (Nat.le_of_ble_eq_true rfl) rfl hr27 ?_
  obtain ⟨v5, M4, hLM4, hr26, h⟩ := h
  refine w_cV (n := 19) (idx := 72) (cal := 155) (na := 1) (nl := 2) (as := [.int v3]) (rest := []) hLM2 (by decide +kernel) (by decide +kernel) (at_483) (by decide +kernel) rfl rfl rfl (Nat.le_of_ble_eq_true rfl) rfl hr26 ?_
  by_cases c25 : v5 = 0
  · rw [if_pos c25] at h
    refine w_if_eq_j (n := 35) (off := 16) (by decide +kernel) (by decide) c25 ?_
    refine w_iconst (n := 36) (v := 0) (x := 0) (by decide +kernel) rfl (by decide) ?_
    subst h
    exact w_ireturn (by decide +kernel) (w_okI (by decide +kernel))
  · rw [if_neg c25] at h
    refine w_if_eq_n (n := 22) (off := 16) (by decide +kernel) rfl c25 ?_
    refine w_aload_n (n := 23) (i := 0) (by decide +kernel) rfl rfl ?_
    refine w_iload_n (n := 24) (i := 2) (by decide +kernel) rfl rfl ?_
    refine w_iload_n (n := 25) (i := 3) (by decide +kernel) rfl rfl ?_
    obtain ⟨v7, M6, hLM6, hr24, h⟩ := h
    refine w_cS (n := 28) (idx := 331) (cal := 266) (na := 2) (nl := 2) (as := [.int x2, .int x3]) (rest := [.ref 483]) (by decide +kernel) (by decide +kernel) rfl rfl rfl (Nat.le_of_ble_eq_true rfl) rfl hr24 ?_
    refine w_iconst (n := 29) (v := 2) (x := 2) (by decide +kernel) rfl (by decide) ?_
    obtain ⟨v9, M8, hLM8, hr23, h⟩ := h
    refine w_cV (n := 32) (idx := 257) (cal := 156) (na := 2) (nl := 3) (as := [.int v7, .int 2]) (rest := []) hLM6 (by decide +kernel) (by decide +kernel) (at_483) (by decide +kernel) rfl rfl rfl (Nat.le_of_ble_eq_true rfl) rfl hr23 ?_
    by_cases c22 : v9 = 0
    · rw [if_pos c22] at h
      refine w_if_ne_n (n := 35) (off := 5) (by decide +kernel) rfl c22 ?_
      refine w_iconst (n := 36) (v := 0) (x := 0) (by decide +kernel) rfl (by decide) ?_
      subst h
      exact w_ireturn (by decide +kernel) (w_okI (by decide +kernel))
    · rw [if_neg c22] at h
      refine w_if_ne_j (n := 37) (off := 5) (by decide +kernel) (by decide) c22 ?_
      refine w_aload_n (n := 38) (i := 0) (by decide +kernel) rfl rfl ?_
      obtain ⟨M10, hLM10, hr21, h⟩ := h
      refine w_cV (n := 41) (idx := 314) (cal := 161) (na := 0) (nl := 1) (as := []) (rest := []) hLM8 (by decide +kernel) (by decide +kernel) (at_483) (by decide +kernel) rfl rfl rfl (Nat.le_of_ble_eq_true rfl) rfl hr21 ?_
      refine w_aload_n (n := 42) (i := 0) (by decide +kernel) rfl rfl ?_
      refine w_iload_n (n := 43) (i := 1) (by decide +kernel) rfl rfl ?_
      obtain ⟨v12, M11, hLM11, hr20, h⟩ := h
      refine w_cV (n := 46) (idx := 194) (cal := 179) (na := 1) (nl := 2) (as := [.int x1]) (rest := []) hLM10 (by decide +kernel) (by decide +kernel) (at_483) (by decide +kernel) rfl rfl rfl (Nat.le_of_ble_eq_true rfl) rfl hr20 ?_
      refine w_istore (n := 48) (i := 4) (l1' := [some (.ref 483), some (.int x1), some (.int x2), some (.int x3), some (.int v12)]) (l2' := []) (by decide +kernel) rfl (Nat.le_of_ble_eq_true rfl) rfl rfl ?_
      refine w_aload_n (n := 49) (i := 0) (by decide +kernel) rfl rfl ?_
      refine w_getR (n := 52) hLM11 (by decide +kernel) oO_267 fF_12_7 (at_483) (by decide) (ar_483_1) rfl ?_
      refine w_bipush (n := 54) (v := 11) (x := 11) (by decide +kernel) rfl (by decide) ?_
      refine w_iconst (n := 55) (v := 3) (x := 3) (by decide +kernel) rfl (by decide) ?_
      refine w_iload_n (n := 56) (i := 1) (by decide +kernel) rfl rfl ?_
      refine w_imul (n := 57) (by decide +kernel) rfl ?_
      refine w_iadd (n := 58) (by decide +kernel) rfl ?_
      refine w_iconst (n := 59) (v := 1) (x := 1) (by decide +kernel) rfl (by decide) ?_
      refine w_iadd (n := 60) (by decide +kernel) rfl ?_
      refine w_iload_n (n := 61) (i := 2) (by decide +kernel) rfl rfl ?_
      obtain ⟨i13, gi13, h⟩ := h
      refine w_iast (n := 62) hLM11 (by decide +kernel) (at_484) (an_484) gi13 rfl ?_
      generalize eM14 : ak_sI M11 484 i13 x2 = M14
      have hLM14 : ab_lay M14 := by rw [← eM14]; exact ab_lay.sI hLM11
      replace h := h M14 eM14.symm
      refine w_aload_n (n := 63) (i := 0) (by decide +kernel) rfl rfl ?_
      refine w_getR (n := 66) hLM14 (by decide +kernel) oO_267 fF_12_7 (at_483) (by decide) (ar_483_1) rfl ?_
      refine w_bipush (n := 68) (v := 11) (x := 11) (by decide +kernel) rfl (by decide) ?_
      refine w_iconst (n := 69) (v := 3) (x := 3) (by decide +kernel) rfl (by decide) ?_
      refine w_iload_n (n := 70) (i := 1) (by decide +kernel) rfl rfl ?_
      refine w_imul (n := 71) (by decide +kernel) rfl ?_
      refine w_iadd (n := 72) (by decide +kernel) rfl ?_
      refine w_iconst (n := 73) (v := 2) (x := 2) (by decide +kernel) rfl (by decide) ?_
      refine w_iadd (n := 74) (by decide +kernel) rfl ?_
      refine w_iload_n (n := 75) (i := 3) (by decide +kernel) rfl rfl ?_
      obtain ⟨i15, gi15, h⟩ := h
      refine w_iast (n := 76) hLM14 (by decide +kernel) (at_484) (an_484) gi15 rfl ?_
      generalize eM16 : ak_sI M14 484 i15 x3 = M16
      have hLM16 : ab_lay M16 := by rw [← eM16]; exact ab_lay.sI hLM14
      replace h := h M16 eM16.symm
      refine w_aload_n (n := 77) (i := 0) (by decide +kernel) rfl rfl ?_
      refine w_iload (n := 79) (i := 4) (by decide +kernel) rfl rfl ?_
      obtain ⟨v18, M17, hLM17, hr19, h⟩ := h
      refine w_cV (n := 82) (idx := 317) (cal := 162) (na := 1) (nl := 2) (as := [.int v12]) (rest := []) hLM16 (by decide +kernel) (by decide +kernel) (at_483) (by decide +kernel) rfl rfl rfl (Nat.le_of_ble_eq_true rfl) rfl hr19 ?_
      subst h
      exact w_ireturn (by decide +kernel) (w_okI (by decide +kernel))
theorem t_268 {X : ak_X} {M : ak_M} {r : ak_O × ak_M} (hL : ab_lay M) (x0 : Int32) (h : (if x0 = 3 then r = (.inl (some (.int 1)), M) else r = (.inl (some (.int 0)), M))) : rn X 268 [.int x0] M r := by
  refine w_rn (nL := 1) (l1 := [some (.int x0)]) (by decide +kernel) rfl rfl ?_
  refine w_iload_n (n := 1) (i := 0) (by decide +kernel) rfl rfl ?_
  refine w_iconst (n := 2) (v := 3) (x := 3) (by decide +kernel) rfl (by decide) ?_
  by_cases c1 : x0 = 3
  · rw [if_pos c1] at h
    refine w_icmp_ne_n (n := 5) (off := 7) (by decide +kernel) rfl c1 ?_
    refine w_iconst (n := 6) (v := 1) (x := 1) (by decide +kernel) rfl (by decide) ?_
    refine w_goto (n := 10) (off := 4) (by decide +kernel) (by decide) ?_
    subst h
    exact w_ireturn (by decide +kernel) (w_okI (by decide +kernel))
  · rw [if_neg c1] at h
    refine w_icmp_ne_j (n := 9) (off := 7) (by decide +kernel) (by decide) c1 ?_
    refine w_iconst (n := 10) (v := 0) (x := 0) (by decide +kernel) rfl (by decide) ?_
    subst h
    exact w_ireturn (by decide +kernel) (w_okI (by decide +kernel))
theorem t_269 {X : ak_X} {M : ak_M} {r : ak_O × ak_M} (hL : ab_lay M) (x0 : Int32) (h : (if x0 = 0 then r = (.inl (some (.int 99)), M) else (if x0 = 1 then r = (.inl (some (.int 9)), M) else (if x0 = 2 then r = (.inl (some (.int 9)), M) else (if x0 = 3 then r = (.inl (some (.int 20)), M) else r = (.inl (some (.int 50)), M)))))) : rn X 269 [.int x0] M r := by
  refine w_rn (nL := 1) (l1 := [some (.int x0)]) (by decide +kernel) rfl rfl ?_
  refine w_iload_n (n := 1) (i := 0) (by decide +kernel) rfl rfl ?_
  by_cases c1 : x0 = 0
  · rw [if_pos c1] at h
    refine w_tsw (n := 32) (d := 40) (lo := 0) (hi := 3) (offs := #[31, 34, 34, 37]) (o := 31) (by decide +kernel) (by rw [c1]; decide) (by decide) ?_
    refine w_bipush (n := 34) (v := 99) (x := 99) (by decide +kernel) rfl (by decide) ?_
    subst h
    exact w_ireturn (by decide +kernel) (w_okI (by decide +kernel))
  · rw [if_neg c1] at h
    by_cases c2 : x0 = 1
    · rw [if_pos c2] at h
      refine w_tsw (n := 35) (d := 40) (lo := 0) (hi := 3) (offs := #[31, 34, 34, 37]) (o := 34) (by decide +kernel) (by rw [c2]; decide) (by decide) ?_
      refine w_bipush (n := 37) (v := 9) (x := 9) (by decide +kernel) rfl (by decide) ?_
      subst h
      exact w_ireturn (by decide +kernel) (w_okI (by decide +kernel))
    · rw [if_neg c2] at h
      by_cases c3 : x0 = 2
      · rw [if_pos c3] at h
        refine w_tsw (n := 35) (d := 40) (lo := 0) (hi := 3) (offs := #[31, 34, 34, 37]) (o := 34) (by decide +kernel) (by rw [c3]; decide) (by decide) ?_
        refine w_bipush (n := 37) (v := 9) (x := 9) (by decide +kernel) rfl (by decide) ?_
        subst h
        exact w_ireturn (by decide +kernel) (w_okI (by decide +kernel))
      · rw [if_neg c3] at h
        by_cases c4 : x0 = 3
        · rw [if_pos c4] at h
          refine w_tsw (n := 38) (d := 40) (lo := 0) (hi := 3) (offs := #[31, 34, 34, 37]) (o := 37) (by decide +kernel) (by rw [c4]; decide) (by decide) ?_
          refine w_bipush (n := 40) (v := 20) (x := 20) (by decide +kernel) rfl (by decide) ?_
          subst h
          exact w_ireturn (by decide +kernel) (w_okI (by decide +kernel))
        · rw [if_neg c4] at h
          refine w_tsw (n := 41) (d := 40) (lo := 0) (hi := 3) (offs := #[31, 34, 34, 37]) (o := 40) (by decide +kernel) (w_swd (by intro j h1 h2; rcases (show j = 0 ∨ j = 1 ∨ j = 2 ∨ j = 3 by omega) with rfl | rfl | rfl | rfl; all_goals first | exact fun e => c1 (e.trans (by decide)) | exact fun e => c2 (e.trans (by decide)) | exact fun e => c3 (e.trans (by decide)) | exact fun e => c4 (e.trans (by decide)))) (by decide) ?_
          refine w_bipush (n := 43) (v := 50) (x := 50) (by decide +kernel) rfl (by decide) ?_
          subst h
          exact w_ireturn (by decide +kernel) (w_okI (by decide +kernel))
theorem t_270 {X : ak_X} {M : ak_M} {r : ak_O × ak_M} (hL : ab_lay M) (x1 : Int32) (x2 : Int32) (h : (∃ (v2 : Int32) (M1 : ak_M), ab_lay M1 ∧ rn X 157 [.long (x1.toInt64), .long 0, .long 5] M (.inl (some (.int v2)), M1) ∧ (if v2 = 0 then (∃ (v4 : Int32) (M3 : ak_M), ab_lay M3 ∧ rn X 155 [.ref 483, .int 0] M1 (.inl (some (.int v4)), M3) ∧ (if v4 = 0 then r = (.inl (some (.int 0)), M3) else (∃ (M5 : ak_M), ab_lay M5 ∧ rn X 161 [.ref 483] M3 (.inl (none), M5) ∧ (∃ (v7 : Int32) (M6 : ak_M), ab_lay M6 ∧ rn X 174 [.ref 483, .int x1] M5 (.inl (some (.int v7)), M6) ∧ (∃ i8 : Nat, ab_ix (3 + x1) i8 245 ∧ (∀ M9 : ak_M, M9 = ak_sI M6 484 i8 x2 → (∃ (v11 : Int32) (M10 : ak_M), ab_lay M10 ∧ rn X 162 [.ref 483, .int v7] M9 (.inl (some (.int v11)), M10) ∧ r = (.inl (some (.int v11)), M10)))))))) else (∃ (v18 : Int32) (M17 : ak_M), ab_lay M17 ∧ rn X 268 [.int x1] M1 (.inl (some (.int v18)), M17) ∧ (∃ (v20 : Int32) (M19 : ak_M), ab_lay M19 ∧ rn X 269 [.int x1] M17 (.inl (some (.int v20)), M19) ∧ (∃ (v22 : Int32) (M21 : ak_M), ab_lay M21 ∧ rn X 157 [.long (x2.toInt64), .long (v18.toInt64), .long (v20.toInt64)] M19 (.inl (some (.int v22)), M21) ∧ (if v22 = 0 then (∃ (v24 : Int32) (M23 : ak_M), ab_lay M23 ∧ rn X 155 [.ref 483, .int 0] M21 (.inl (some (.int v24)), M23) ∧ (if v24 = 0 then r = (.inl (some (.int 0)), M23) else (∃ (M25 : ak_M), ab_lay M25 ∧ rn X 161 [.ref 483] M23 (.inl (none), M25) ∧ (∃ (v27 : Int32) (M26 : ak_M), ab_lay M26 ∧ rn X 174 [.ref 483, .int x1] M25 (.inl (some (.int v27)), M26) ∧ (∃ i28 : Nat, ab_ix (3 + x1) i28 245 ∧ (∀ M29 : ak_M, M29 = ak_sI M26 484 i28 x2 → (∃ (v31 : Int32) (M30 : ak_M), ab_lay M30 ∧ rn X 162 [.ref 483, .int v27] M29 (.inl (some (.int v31)), M30) ∧ r = (.inl (some (.int v31)), M30)))))))) else (∃ (v38 : Int32) (M37 : ak_M), ab_lay M37 ∧ rn X 155 [.ref 483, .int 1] M21 (.inl (some (.int v38)), M37) ∧ (if v38 = 0 then r = (.inl (some (.int 0)), M37) else (∃ (M39 : ak_M), ab_lay M39 ∧ rn X 161 [.ref 483] M37 (.inl (none), M39) ∧ (∃ (v41 : Int32) (M40 : ak_M), ab_lay M40 ∧ rn X 174 [.ref 483, .int x1] M39 (.inl (some (.int v41)), M40) ∧ (∃ i42 : Nat, ab_ix (3 + x1) i42 245 ∧ (∀ M43 : ak_M, M43 = ak_sI M40 484 i42 x2 → (∃ (v45 : Int32) (M44 : ak_M), ab_lay M44 ∧ rn X 162 [.ref 483, .int v41] M43 (.inl (some (.int v45)), M44) ∧ r = (.inl (some (.int v45)), M44))))))))))))))) : rn X 270 [.ref 483, .int x1, .int x2] M r := by
  refine w_rn (nL := 4) (l1 := [some (.ref 483), some (.int x1), some (.int x2), none]) (by decide +kernel) rfl rfl ?_
  refine w_aload_n (n := 1) (i := 0) (by decide +kernel) rfl rfl ?_
  refine w_iload_n (n := 2) (i := 1) (by decide +kernel) rfl rfl ?_
  refine w_i2l (n := 3) (by decide +kernel) rfl ?_
  refine w_lconst (n := 4) (v := 0) (x := 0) (by decide +kernel) rfl (by decide) ?_
  refine w_ldc2 (n := 7) (idx := 250) (v := 5) (by decide +kernel) oO_270 (by decide +kernel) rfl ?_
  obtain ⟨v2, M1, hLM1, hr56, h⟩ := h
  refine w_cS (n := 10) (idx := 84) (cal := 157) (na := 3) (nl := 6) (as := [.long (x1.toInt64), .long 0, .long 5]) (rest := [.ref 483]) (by decide +kernel) (by decide +kernel) rfl rfl rfl (Nat.le_of_ble_eq_true rfl) rfl hr56 ?_
  by_cases c55 : v2 = 0
  · rw [if_pos c55] at h
    refine w_if_eq_j (n := 35) (off := 25) (by decide +kernel) (by decide) c55 ?_
    refine w_iconst (n := 36) (v := 0) (x := 0) (by decide +kernel) rfl (by decide) ?_
    obtain ⟨v4, M3, hLM3, hr16, h⟩ := h
    refine w_cV (n := 39) (idx := 72) (cal := 155) (na := 1) (nl := 2) (as := [.int 0]) (rest := []) hLM1 (by decide +kernel) (by decide +kernel) (at_483) (by decide +kernel) rfl rfl rfl (Nat.le_of_ble_eq_true rfl) rfl hr16 ?_
    by_cases c15 : v4 = 0
    · rw [if_pos c15] at h
      refine w_if_ne_n (n := 42) (off := 5) (by decide +kernel) rfl c15 ?_
      refine w_iconst (n := 43) (v := 0) (x := 0) (by decide +kernel) rfl (by decide) ?_
      subst h
      exact w_ireturn (by decide +kernel) (w_okI (by decide +kernel))
    · rw [if_neg c15] at h
      refine w_if_ne_j (n := 44) (off := 5) (by decide +kernel) (by decide) c15 ?_
      refine w_aload_n (n := 45) (i := 0) (by decide +kernel) rfl rfl ?_
      obtain ⟨M5, hLM5, hr14, h⟩ := h
      refine w_cV (n := 48) (idx := 314) (cal := 161) (na := 0) (nl := 1) (as := []) (rest := []) hLM3 (by decide +kernel) (by decide +kernel) (at_483) (by decide +kernel) rfl rfl rfl (Nat.le_of_ble_eq_true rfl) rfl hr14 ?_
      refine w_aload_n (n := 49) (i := 0) (by decide +kernel) rfl rfl ?_
      refine w_iload_n (n := 50) (i := 1) (by decide +kernel) rfl rfl ?_
      obtain ⟨v7, M6, hLM6, hr13, h⟩ := h
      refine w_cV (n := 53) (idx := 173) (cal := 174) (na := 1) (nl := 2) (as := [.int x1]) (rest := []) hLM5 (by decide +kernel) (by decide +kernel) (at_483) (by decide +kernel) rfl rfl rfl (Nat.le_of_ble_eq_true rfl) rfl hr13 ?_
      refine w_istore_n (n := 54) (i := 3) (l1' := [some (.ref 483), some (.int x1), some (.int x2), some (.int v7)]) (l2' := []) (by decide +kernel) rfl (Nat.le_of_ble_eq_true rfl) rfl rfl ?_
      refine w_aload_n (n := 55) (i := 0) (by decide +kernel) rfl rfl ?_
      refine w_getR (n := 58) hLM6 (by decide +kernel) oO_270 fF_12_7 (at_483) (by decide) (ar_483_1) rfl ?_
      refine w_iconst (n := 59) (v := 3) (x := 3) (by decide +kernel) rfl (by decide) ?_
      refine w_iload_n (n := 60) (i := 1) (by decide +kernel) rfl rfl ?_
      refine w_iadd (n := 61) (by decide +kernel) rfl ?_
      refine w_iload_n (n := 62) (i := 2) (by decide +kernel) rfl rfl ?_
      obtain ⟨i8, gi8, h⟩ := h
      refine w_iast (n := 63) hLM6 (by decide +kernel) (at_484) (an_484) gi8 rfl ?_
      generalize eM9 : ak_sI M6 484 i8 x2 = M9
      have hLM9 : ab_lay M9 := by rw [← eM9]; exact ab_lay.sI hLM6
      replace h := h M9 eM9.symm
      refine w_aload_n (n := 64) (i := 0) (by decide +kernel) rfl rfl ?_
      refine w_iload_n (n := 65) (i := 3) (by decide +kernel) rfl rfl ?_
      obtain ⟨v11, M10, hLM10, hr12, h⟩ := h
      refine w_cV (n := 68) (idx := 317) (cal := 162) (na := 1) (nl := 2) (as := [.int v7]) (rest := []) hLM9 (by decide +kernel) (by decide +kernel) (at_483) (by decide +kernel) rfl rfl rfl (Nat.le_of_ble_eq_true rfl) rfl hr12 ?_
      subst h
      exact w_ireturn (by decide +kernel) (w_okI (by decide +kernel))
  · rw [if_neg c55] at h
    refine w_if_eq_n (n := 13) (off := 25) (by decide +kernel) rfl c55 ?_
    refine w_iload_n (n := 14) (i := 2) (by decide +kernel) rfl rfl ?_
    refine w_i2l (n := 15) (by decide +kernel) rfl ?_
    refine w_iload_n (n := 16) (i := 1) (by decide +kernel) rfl rfl ?_
    obtain ⟨v18, M17, hLM17, hr54, h⟩ := h
    refine w_cS (n := 19) (idx := 334) (cal := 268) (na := 1) (nl := 1) (as := [.int x1]) (rest := [.long (x2.toInt64), .ref 483]) (by decide +kernel) (by decide +kernel) rfl rfl rfl (Nat.le_of_ble_eq_true rfl) rfl hr54 ?_
    refine w_i2l (n := 20) (by decide +kernel) rfl ?_
    refine w_iload_n (n := 21) (i := 1) (by decide +kernel) rfl rfl ?_
    obtain ⟨v20, M19, hLM19, hr53, h⟩ := h
    refine w_cS (n := 24) (idx := 337) (cal := 269) (na := 1) (nl := 1) (as := [.int x1]) (rest := [.long (v18.toInt64), .long (x2.toInt64), .ref 483]) (by decide +kernel) (by decide +kernel) rfl rfl rfl (Nat.le_of_ble_eq_true rfl) rfl hr53 ?_
    refine w_i2l (n := 25) (by decide +kernel) rfl ?_
    obtain ⟨v22, M21, hLM21, hr52, h⟩ := h
    refine w_cS (n := 28) (idx := 84) (cal := 157) (na := 3) (nl := 6) (as := [.long (x2.toInt64), .long (v18.toInt64), .long (v20.toInt64)]) (rest := [.ref 483]) (by decide +kernel) (by decide +kernel) rfl rfl rfl (Nat.le_of_ble_eq_true rfl) rfl hr52 ?_
    by_cases c51 : v22 = 0
    · rw [if_pos c51] at h
      refine w_if_eq_j (n := 35) (off := 7) (by decide +kernel) (by decide) c51 ?_
      refine w_iconst (n := 36) (v := 0) (x := 0) (by decide +kernel) rfl (by decide) ?_
      obtain ⟨v24, M23, hLM23, hr36, h⟩ := h
      refine w_cV (n := 39) (idx := 72) (cal := 155) (na := 1) (nl := 2) (as := [.int 0]) (rest := []) hLM21 (by decide +kernel) (by decide +kernel) (at_483) (by decide +kernel) rfl rfl rfl (Nat.le_of_ble_eq_true rfl) rfl hr36 ?_
      by_cases c35 : v24 = 0
      · rw [if_pos c35] at h
        refine w_if_ne_n (n := 42) (off := 5) (by decide +kernel) rfl c35 ?_
        refine w_iconst (n := 43) (v := 0) (x := 0) (by decide +kernel) rfl (by decide) ?_
        subst h
        exact w_ireturn (by decide +kernel) (w_okI (by decide +kernel))
      · rw [if_neg c35] at h
        refine w_if_ne_j (n := 44) (off := 5) (by decide +kernel) (by decide) c35 ?_
        refine w_aload_n (n := 45) (i := 0) (by decide +kernel) rfl rfl ?_
        obtain ⟨M25, hLM25, hr34, h⟩ := h
        refine w_cV (n := 48) (idx := 314) (cal := 161) (na := 0) (nl := 1) (as := []) (rest := []) hLM23 (by decide +kernel) (by decide +kernel) (at_483) (by decide +kernel) rfl rfl rfl (Nat.le_of_ble_eq_true rfl) rfl hr34 ?_
        refine w_aload_n (n := 49) (i := 0) (by decide +kernel) rfl rfl ?_
        refine w_iload_n (n := 50) (i := 1) (by decide +kernel) rfl rfl ?_
        obtain ⟨v27, M26, hLM26, hr33, h⟩ := h
        refine w_cV (n := 53) (idx := 173) (cal := 174) (na := 1) (nl := 2) (as := [.int x1]) (rest := []) hLM25 (by decide +kernel) (by decide +kernel) (at_483) (by decide +kernel) rfl rfl rfl (Nat.le_of_ble_eq_true rfl) rfl hr33 ?_
        refine w_istore_n (n := 54) (i := 3) (l1' := [some (.ref 483), some (.int x1), some (.int x2), some (.int v27)]) (l2' := []) (by decide +kernel) rfl (Nat.le_of_ble_eq_true rfl) rfl rfl ?_
        refine w_aload_n (n := 55) (i := 0) (by decide +kernel) rfl rfl ?_
        refine w_getR (n := 58) hLM26 (by decide +kernel) oO_270 fF_12_7 (at_483) (by decide) (ar_483_1) rfl ?_
        refine w_iconst (n := 59) (v := 3) (x := 3) (by decide +kernel) rfl (by decide) ?_
        refine w_iload_n (n := 60) (i := 1) (by decide +kernel) rfl rfl ?_
        refine w_iadd (n := 61) (by decide +kernel) rfl ?_
        refine w_iload_n (n := 62) (i := 2) (by decide +kernel) rfl rfl ?_
        obtain ⟨i28, gi28, h⟩ := h
        refine w_iast (n := 63) hLM26 (by decide +kernel) (at_484) (an_484) gi28 rfl ?_
        generalize eM29 : ak_sI M26 484 i28 x2 = M29
        have hLM29 : ab_lay M29 := by rw [← eM29]; exact ab_lay.sI hLM26
        replace h := h M29 eM29.symm
        refine w_aload_n (n := 64) (i := 0) (by decide +kernel) rfl rfl ?_
        refine w_iload_n (n := 65) (i := 3) (by decide +kernel) rfl rfl ?_
        obtain ⟨v31, M30, hLM30, hr32, h⟩ := h
        refine w_cV (n := 68) (idx := 317) (cal := 162) (na := 1) (nl := 2) (as := [.int v27]) (rest := []) hLM29 (by decide +kernel) (by decide +kernel) (at_483) (by decide +kernel) rfl rfl rfl (Nat.le_of_ble_eq_true rfl) rfl hr32 ?_
        subst h
        exact w_ireturn (by decide +kernel) (w_okI (by decide +kernel))
    · rw [if_neg c51] at h
      refine w_if_eq_n (n := 31) (off := 7) (by decide +kernel) rfl c51 ?_
      refine w_iconst (n := 32) (v := 1) (x := 1) (by decide +kernel) rfl (by decide) ?_
      refine w_goto (n := 36) (off := 4) (by decide +kernel) (by decide) ?_
      obtain ⟨v38, M37, hLM37, hr50, h⟩ := h
      refine w_cV (n := 39) (idx := 72) (cal := 155) (na := 1) (nl := 2) (as := [.int 1]) (rest := []) hLM21 (by decide +kernel) (by decide +kernel) (at_483) (by decide +kernel) rfl rfl rfl (Nat.le_of_ble_eq_true rfl) rfl hr50 ?_
      by_cases c49 : v38 = 0
      · rw [if_pos c49] at h
        refine w_if_ne_n (n := 42) (off := 5) (by decide +kernel) rfl c49 ?_
        refine w_iconst (n := 43) (v := 0) (x := 0) (by decide +kernel) rfl (by decide) ?_
        subst h
        exact w_ireturn (by decide +kernel) (w_okI (by decide +kernel))
      · rw [if_neg c49] at h
        refine w_if_ne_j (n := 44) (off := 5) (by decide +kernel) (by decide) c49 ?_
        refine w_aload_n (n := 45) (i := 0) (by decide +kernel) rfl rfl ?_
        obtain ⟨M39, hLM39, hr48, h⟩ := h
        refine w_cV (n := 48) (idx := 314) (cal := 161) (na := 0) (nl := 1) (as := []) (rest := []) hLM37 (by decide +kernel) (by decide +kernel) (at_483) (by decide +kernel) rfl rfl rfl (Nat.le_of_ble_eq_true rfl) rfl hr48 ?_
        refine w_aload_n (n := 49) (i := 0) (by decide +kernel) rfl rfl ?_
        refine w_iload_n (n := 50) (i := 1) (by decide +kernel) rfl rfl ?_
        obtain ⟨v41, M40, hLM40, hr47, h⟩ := h
        refine w_cV (n := 53) (idx := 173) (cal := 174) (na := 1) (nl := 2) (as := [.int x1]) (rest := []) hLM39 (by decide +kernel) (by decide +kernel) (at_483) (by decide +kernel) rfl rfl rfl (Nat.le_of_ble_eq_true rfl) rfl hr47 ?_
        refine w_istore_n (n := 54) (i := 3) (l1' := [some (.ref 483), some (.int x1), some (.int x2), some (.int v41)]) (l2' := []) (by decide +kernel) rfl (Nat.le_of_ble_eq_true rfl) rfl rfl ?_
        refine w_aload_n (n := 55) (i := 0) (by decide +kernel) rfl rfl ?_
        refine w_getR (n := 58) hLM40 (by decide +kernel) oO_270 fF_12_7 (at_483) (by decide) (ar_483_1) rfl ?_
        refine w_iconst (n := 59) (v := 3) (x := 3) (by decide +kernel) rfl (by decide) ?_
        refine w_iload_n (n := 60) (i := 1) (by decide +kernel) rfl rfl ?_
        refine w_iadd (n := 61) (by decide +kernel) rfl ?_
        refine w_iload_n (n := 62) (i := 2) (by decide +kernel) rfl rfl ?_
        obtain ⟨i42, gi42, h⟩ := h
        refine w_iast (n := 63) hLM40 (by decide +kernel) (at_484) (an_484) gi42 rfl ?_
        generalize eM43 : ak_sI M40 484 i42 x2 = M43
        have hLM43 : ab_lay M43 := by rw [← eM43]; exact ab_lay.sI hLM40
        replace h := h M43 eM43.symm
        refine w_aload_n (n := 64) (i := 0) (by decide +kernel) rfl rfl ?_
        refine w_iload_n (n := 65) (i := 3) (by decide +kernel) rfl rfl ?_
        obtain ⟨v45, M44, hLM44, hr46, h⟩ := h
        refine w_cV (n := 68) (idx := 317) (cal := 162) (na := 1) (nl := 2) (as := [.int v41]) (rest := []) hLM43 (by decide +kernel) (by decide +kernel) (at_483) (by decide +kernel) rfl rfl rfl (Nat.le_of_ble_eq_true rfl) rfl hr46 ?_
        subst h
        exact w_ireturn (by decide +kernel) (w_okI (by decide +kernel))
theorem t_271 {X : ak_X} {M : ak_M} {r : ak_O × ak_M} (hL : ab_lay M) (x1 : Int32) (x2 : Int32) (x3 : Int32) (x4 : Int32) (x5 : Int32) (h : (∀ M1 : ak_M, M1 = ak_sI M 483 0 0 → (if (ak_I M1 483 17) + 20 ≤ 700 then sg X 271 (23, [some (.ref 483), some (.int x1), some (.int x2), some (.int x3), some (.int x4), some (.int x5), some (.int 0), none], [], []) M1 r else r = (.inl (some (.int ((-1)))), M1)))) : rn X 271 [.ref 483, .int x1, .int x2, .int x3, .int x4, .int x5] M r := by
  refine w_rn (nL := 8) (l1 := [some (.ref 483), some (.int x1), some (.int x2), some (.int x3), some (.int x4), some (.int x5), none, none]) (by decide +kernel) rfl rfl ?_
  refine w_aload_n (n := 1) (i := 0) (by decide +kernel) rfl rfl ?_
  refine w_iconst (n := 2) (v := 0) (x := 0) (by decide +kernel) rfl (by decide) ?_
  refine w_putI (n := 5) hL (by decide +kernel) oO_271 fF_12_62 (at_483) ⟨by decide, Or.inl (by decide)⟩ rfl ?_
  generalize eM1 : ak_sI M 483 0 0 = M1
  have hLM1 : ab_lay M1 := by rw [← eM1]; exact ab_lay.sI hL
  replace h := h M1 eM1.symm
  refine w_aload_n (n := 6) (i := 0) (by decide +kernel) rfl rfl ?_
  refine w_getI (n := 9) hLM1 (by decide +kernel) oO_271 fF_12_340 (at_483) (by decide) rfl ?_
  refine w_bipush (n := 11) (v := 20) (x := 20) (by decide +kernel) rfl (by decide) ?_
  refine w_iadd (n := 12) (by decide +kernel) rfl ?_
  refine w_sipush (n := 15) (v := 700) (x := 700) (by decide +kernel) rfl (by decide) ?_
  by_cases c2 : (ak_I M1 483 17) + 20 ≤ 700
  · rw [if_pos c2] at h
    refine w_icmp_le_j (n := 20) (off := 5) (by decide +kernel) (by decide) c2 ?_
    refine w_iconst (n := 21) (v := 0) (x := 0) (by decide +kernel) rfl (by decide) ?_
    refine w_istore (n := 23) (i := 6) (l1' := [some (.ref 483), some (.int x1), some (.int x2), some (.int x3), some (.int x4), some (.int x5), some (.int 0), none]) (l2' := []) (by decide +kernel) rfl (Nat.le_of_ble_eq_true rfl) rfl rfl ?_
    exact h
  · rw [if_neg c2] at h
    refine w_icmp_le_n (n := 18) (off := 5) (by decide +kernel) rfl c2 ?_
    refine w_iconst (n := 19) (v := -1) (x := (-1)) (by decide +kernel) rfl (by decide) ?_
    subst h
    exact w_ireturn (by decide +kernel) (w_okI (by decide +kernel))
theorem t_271_23 {X : ak_X} {M : ak_M} {r : ak_O × ak_M} (hL : ab_lay M) (x1 : Int32) (x2 : Int32) (x3 : Int32) (x4 : Int32) (x5 : Int32) (y6 : Int32) (o7 : Option Value) (h : (if 20 ≤ y6 then r = (.inl (some (.int (ak_I M 483 17))), M) else (if 4 ≤ y6 then (if 8 ≤ y6 then (if 12 ≤ y6 then (if 16 ≤ y6 then (∃ i3 : Nat, ab_ix (ak_I M 483 17) i3 700 ∧ (∀ M4 : ak_M, M4 = ak_sI M 495 i3 (vp_nar .byte ((x5 >>> ((24 - (8 * (y6 - y6 / 4 * 4))) &&& 31)).toInt8.toInt32)) → (∀ M5 : ak_M, M5 = ak_sI M4 483 17 ((ak_I M4 483 17) + 1) → sg X 271 (23, [some (.ref 483), some (.int x1), some (.int x2), some (.int x3), some (.int x4), some (.int x5), some (.int (y6 + 1)), some (.int x5)], [], []) M5 r))) else (∃ i6 : Nat, ab_ix (ak_I M 483 17) i6 700 ∧ (∀ M7 : ak_M, M7 = ak_sI M 495 i6 (vp_nar .byte ((x4 >>> ((24 - (8 * (y6 - y6 / 4 * 4))) &&& 31)).toInt8.toInt32)) → (∀ M8 : ak_M, M8 = ak_sI M7 483 17 ((ak_I M7 483 17) + 1) → sg X 271 (23, [some (.ref 483), some (.int x1), some (.int x2), some (.int x3), some (.int x4), some (.int x5), some (.int (y6 + 1)), some (.int x4)], [], []) M8 r)))) else (∃ i10 : Nat, ab_ix (ak_I M 483 17) i10 700 ∧ (∀ M11 : ak_M, M11 = ak_sI M 495 i10 (vp_nar .byte ((x3 >>> ((24 - (8 * (y6 - y6 / 4 * 4))) &&& 31)).toInt8.toInt32)) → (∀ M12 : ak_M, M12 = ak_sI M11 483 17 ((ak_I M11 483 17) + 1) → sg X 271 (23, [some (.ref 483), some (.int x1), some (.int x2), some (.int x3), some (.int x4), some (.int x5), some (.int (y6 + 1)), some (.int x3)], [], []) M12 r)))) else (∃ i14 : Nat, ab_ix (ak_I M 483 17) i14 700 ∧ (∀ M15 : ak_M, M15 = ak_sI M 495 i14 (vp_nar .byte ((x2 >>> ((24 - (8 * (y6 - y6 / 4 * 4))) &&& 31)).toInt8.toInt32)) → (∀ M16 : ak_M, M16 = ak_sI M15 483 17 ((ak_I M15 483 17) + 1) → sg X 271 (23, [some (.ref 483), some (.int x1), some (.int x2), some (.int x3), some (.int x4), some (.int x5), some (.int (y6 + 1)), some (.int x2)], [], []) M16 r)))) else (∃ i18 : Nat, ab_ix (ak_I M 483 17) i18 700 ∧ (∀ M19 : ak_M, M19 = ak_sI M 495 i18 (vp_nar .byte ((x1 >>> ((24 - (8 * (y6 - y6 / 4 * 4))) &&& 31)).toInt8.toInt32)) → (∀ M20 : ak_M, M20 = ak_sI M19 483 17 ((ak_I M19 483 17) + 1) → sg X 271 (23, [some (.ref 483), some (.int x1), some (.int x2), some (.int x3), some (.int x4), some (.int x5), some (.int (y6 + 1)), some (.int x1)], [], []) M20 r)))))) : sg X 271 (23, [some (.ref 483), some (.int x1), some (.int x2), some (.int x3), some (.int x4), some (.int x5), some (.int y6), o7], [], []) M r := by
  refine w_iload (n := 25) (i := 6) (by decide +kernel) rfl rfl ?_
  refine w_bipush (n := 27) (v := 20) (x := 20) (by decide +kernel) rfl (by decide) ?_
  by_cases c22 : 20 ≤ y6
  · rw [if_pos c22] at h
    refine w_icmp_ge_j (n := 117) (off := 90) (by decide +kernel) (by decide) c22 ?_
    refine w_aload_n (n := 118) (i := 0) (by decide +kernel) rfl rfl ?_
    refine w_getI (n := 121) hL (by decide +kernel) oO_271 fF_12_340 (at_483) (by decide) rfl ?_
    subst h
    exact w_ireturn (by decide +kernel) (w_okI (by decide +kernel))
  · rw [if_neg c22] at h
    refine w_icmp_ge_n (n := 30) (off := 90) (by decide +kernel) rfl c22 ?_
    refine w_iload (n := 32) (i := 6) (by decide +kernel) rfl rfl ?_
    refine w_iconst (n := 33) (v := 4) (x := 4) (by decide +kernel) rfl (by decide) ?_
    by_cases c21 : 4 ≤ y6
    · rw [if_pos c21] at h
      refine w_icmp_ge_j (n := 40) (off := 7) (by decide +kernel) (by decide) c21 ?_
      refine w_iload (n := 42) (i := 6) (by decide +kernel) rfl rfl ?_
      refine w_bipush (n := 44) (v := 8) (x := 8) (by decide +kernel) rfl (by decide) ?_
      by_cases c17 : 8 ≤ y6
      · rw [if_pos c17] at h
        refine w_icmp_ge_j (n := 51) (off := 7) (by decide +kernel) (by decide) c17 ?_
        refine w_iload (n := 53) (i := 6) (by decide +kernel) rfl rfl ?_
        refine w_bipush (n := 55) (v := 12) (x := 12) (by decide +kernel) rfl (by decide) ?_
        by_cases c13 : 12 ≤ y6
        · rw [if_pos c13] at h
          refine w_icmp_ge_j (n := 62) (off := 7) (by decide +kernel) (by decide) c13 ?_
          refine w_iload (n := 64) (i := 6) (by decide +kernel) rfl rfl ?_
          refine w_bipush (n := 66) (v := 16) (x := 16) (by decide +kernel) rfl (by decide) ?_
          by_cases c9 : 16 ≤ y6
          · rw [if_pos c9] at h
            refine w_icmp_ge_j (n := 74) (off := 8) (by decide +kernel) (by decide) c9 ?_
            refine w_iload (n := 76) (i := 5) (by decide +kernel) rfl rfl ?_
            refine w_istore (n := 78) (i := 7) (l1' := [some (.ref 483), some (.int x1), some (.int x2), some (.int x3), some (.int x4), some (.int x5), some (.int y6), some (.int x5)]) (l2' := []) (by decide +kernel) rfl (Nat.le_of_ble_eq_true rfl) rfl rfl ?_
            refine w_aload_n (n := 79) (i := 0) (by decide +kernel) rfl rfl ?_
            refine w_getR (n := 82) hL (by decide +kernel) oO_271 fF_12_44 (at_483) (by decide) (ar_483_16) rfl ?_
            refine w_aload_n (n := 83) (i := 0) (by decide +kernel) rfl rfl ?_
            refine w_getI (n := 86) hL (by decide +kernel) oO_271 fF_12_340 (at_483) (by decide) rfl ?_
            refine w_iload (n := 88) (i := 7) (by decide +kernel) rfl rfl ?_
            refine w_bipush (n := 90) (v := 24) (x := 24) (by decide +kernel) rfl (by decide) ?_
            refine w_bipush (n := 92) (v := 8) (x := 8) (by decide +kernel) rfl (by decide) ?_
            refine w_iload (n := 94) (i := 6) (by decide +kernel) rfl rfl ?_
            refine w_iconst (n := 95) (v := 4) (x := 4) (by decide +kernel) rfl (by decide) ?_
            refine w_irem (n := 96) (by decide +kernel) rfl (by decide) ?_
            refine w_imul (n := 97) (by decide +kernel) rfl ?_
            refine w_isub (n := 98) (by decide +kernel) rfl ?_
            refine w_ishr (n := 99) (by decide +kernel) rfl ?_
            refine w_i2b (n := 100) (by decide +kernel) rfl ?_
            obtain ⟨i3, gi3, h⟩ := h
            refine w_bast (n := 101) hL (by decide +kernel) (at_495) (an_495) gi3 rfl ?_
            generalize eM4 : ak_sI M 495 i3 (vp_nar .byte ((x5 >>> ((24 - (8 * (y6 - y6 / 4 * 4))) &&& 31)).toInt8.toInt32)) = M4
            have hLM4 : ab_lay M4 := by rw [← eM4]; exact ab_lay.sI hL
            replace h := h M4 eM4.symm
            refine w_aload_n (n := 102) (i := 0) (by decide +kernel) rfl rfl ?_
            refine w_aload_n (n := 103) (i := 0) (by decide +kernel) rfl rfl ?_
            refine w_getI (n := 106) hLM4 (by decide +kernel) oO_271 fF_12_340 (at_483) (by decide) rfl ?_
            refine w_iconst (n := 107) (v := 1) (x := 1) (by decide +kernel) rfl (by decide) ?_
            refine w_iadd (n := 108) (by decide +kernel) rfl ?_
            refine w_putI (n := 111) hLM4 (by decide +kernel) oO_271 fF_12_340 (at_483) ⟨by decide, Or.inl (by decide)⟩ rfl ?_
            generalize eM5 : ak_sI M4 483 17 ((ak_I M4 483 17) + 1) = M5
            have hLM5 : ab_lay M5 := by rw [← eM5]; exact ab_lay.sI hLM4
            replace h := h M5 eM5.symm
            refine w_iinc (n := 114) (i := 6) (v := 1) (y := y6 + 1) (l1' := [some (.ref 483), some (.int x1), some (.int x2), some (.int x3), some (.int x4), some (.int x5), some (.int (y6 + 1)), some (.int x5)]) (l2' := []) (by decide +kernel) rfl rfl rfl rfl rfl ?_
            refine w_goto (n := 23) (off := (-91)) (by decide +kernel) (by decide) ?_
            exact h
          · rw [if_neg c9] at h
            refine w_icmp_ge_n (n := 69) (off := 8) (by decide +kernel) rfl c9 ?_
            refine w_iload (n := 71) (i := 4) (by decide +kernel) rfl rfl ?_
            refine w_goto (n := 76) (off := 5) (by decide +kernel) (by decide) ?_
            refine w_istore (n := 78) (i := 7) (l1' := [some (.ref 483), some (.int x1), some (.int x2), some (.int x3), some (.int x4), some (.int x5), some (.int y6), some (.int x4)]) (l2' := []) (by decide +kernel) rfl (Nat.le_of_ble_eq_true rfl) rfl rfl ?_
            refine w_aload_n (n := 79) (i := 0) (by decide +kernel) rfl rfl ?_
            refine w_getR (n := 82) hL (by decide +kernel) oO_271 fF_12_44 (at_483) (by decide) (ar_483_16) rfl ?_
            refine w_aload_n (n := 83) (i := 0) (by decide +kernel) rfl rfl ?_
            refine w_getI (n := 86) hL (by decide +kernel) oO_271 fF_12_340 (at_483) (by decide) rfl ?_
            refine w_iload (n := 88) (i := 7) (by decide +kernel) rfl rfl ?_
            refine w_bipush (n := 90) (v := 24) (x := 24) (by decide +kernel) rfl (by decide) ?_
            refine w_bipush (n := 92) (v := 8) (x := 8) (by decide +kernel) rfl (by decide) ?_
            refine w_iload (n := 94) (i := 6) (by decide +kernel) rfl rfl ?_
            refine w_iconst (n := 95) (v := 4) (x := 4) (by decide +kernel) rfl (by decide) ?_
            refine w_irem (n := 96) (by decide +kernel) rfl (by decide) ?_
            refine w_imul (n := 97) (by decide +kernel) rfl ?_
            refine w_isub (n := 98) (by decide +kernel) rfl ?_
            refine w_ishr (n := 99) (by decide +kernel) rfl ?_
            refine w_i2b (n := 100) (by decide +kernel) rfl ?_
            obtain ⟨i6, gi6, h⟩ := h
            refine w_bast (n := 101) hL (by decide +kernel) (at_495) (an_495) gi6 rfl ?_
            generalize eM7 : ak_sI M 495 i6 (vp_nar .byte ((x4 >>> ((24 - (8 * (y6 - y6 / 4 * 4))) &&& 31)).toInt8.toInt32)) = M7
            have hLM7 : ab_lay M7 := by rw [← eM7]; exact ab_lay.sI hL
            replace h := h M7 eM7.symm
            refine w_aload_n (n := 102) (i := 0) (by decide +kernel) rfl rfl ?_
            refine w_aload_n (n := 103) (i := 0) (by decide +kernel) rfl rfl ?_
            refine w_getI (n := 106) hLM7 (by decide +kernel) oO_271 fF_12_340 (at_483) (by decide) rfl ?_
            refine w_iconst (n := 107) (v := 1) (x := 1) (by decide +kernel) rfl (by decide) ?_
            refine w_iadd (n := 108) (by decide +kernel) rfl ?_
            refine w_putI (n := 111) hLM7 (by decide +kernel) oO_271 fF_12_340 (at_483) ⟨by decide, Or.inl (by decide)⟩ rfl ?_
            generalize eM8 : ak_sI M7 483 17 ((ak_I M7 483 17) + 1) = M8
            have hLM8 : ab_lay M8 := by rw [← eM8]; exact ab_lay.sI hLM7
            replace h := h M8 eM8.symm
            refine w_iinc (n := 114) (i := 6) (v := 1) (y := y6 + 1) (l1' := [some (.ref 483), some (.int x1), some (.int x2), some (.int x3), some (.int x4), some (.int x5), some (.int (y6 + 1)), some (.int x4)]) (l2' := []) (by decide +kernel) rfl rfl rfl rfl rfl ?_
            refine w_goto (n := 23) (off := (-91)) (by decide +kernel) (by decide) ?_
            exact h
        · rw [if_neg c13] at h
          refine w_icmp_ge_n (n := 58) (off := 7) (by decide +kernel) rfl c13 ?_
          refine w_iload_n (n := 59) (i := 3) (by decide +kernel) rfl rfl ?_
          refine w_goto (n := 76) (off := 17) (by decide +kernel) (by decide) ?_
          refine w_istore (n := 78) (i := 7) (l1' := [some (.ref 483), some (.int x1), some (.int x2), some (.int x3), some (.int x4), some (.int x5), some (.int y6), some (.int x3)]) (l2' := []) (by decide +kernel) rfl (Nat.le_of_ble_eq_true rfl) rfl rfl ?_
          refine w_aload_n (n := 79) (i := 0) (by decide +kernel) rfl rfl ?_
          refine w_getR (n := 82) hL (by decide +kernel) oO_271 fF_12_44 (at_483) (by decide) (ar_483_16) rfl ?_
          refine w_aload_n (n := 83) (i := 0) (by decide +kernel) rfl rfl ?_
          refine w_getI (n := 86) hL (by decide +kernel) oO_271 fF_12_340 (at_483) (by decide) rfl ?_
          refine w_iload (n := 88) (i := 7) (by decide +kernel) rfl rfl ?_
          refine w_bipush (n := 90) (v := 24) (x := 24) (by decide +kernel) rfl (by decide) ?_
          refine w_bipush (n := 92) (v := 8) (x := 8) (by decide +kernel) rfl (by decide) ?_
          refine w_iload (n := 94) (i := 6) (by decide +kernel) rfl rfl ?_
          refine w_iconst (n := 95) (v := 4) (x := 4) (by decide +kernel) rfl (by decide) ?_
          refine w_irem (n := 96) (by decide +kernel) rfl (by decide) ?_
          refine w_imul (n := 97) (by decide +kernel) rfl ?_
          refine w_isub (n := 98) (by decide +kernel) rfl ?_
          refine w_ishr (n := 99) (by decide +kernel) rfl ?_
          refine w_i2b (n := 100) (by decide +kernel) rfl ?_
          obtain ⟨i10, gi10, h⟩ := h
          refine w_bast (n := 101) hL (by decide +kernel) (at_495) (an_495) gi10 rfl ?_
          generalize eM11 : ak_sI M 495 i10 (vp_nar .byte ((x3 >>> ((24 - (8 * (y6 - y6 / 4 * 4))) &&& 31)).toInt8.toInt32)) = M11
          have hLM11 : ab_lay M11 := by rw [← eM11]; exact ab_lay.sI hL
          replace h := h M11 eM11.symm
          refine w_aload_n (n := 102) (i := 0) (by decide +kernel) rfl rfl ?_
          refine w_aload_n (n := 103) (i := 0) (by decide +kernel) rfl rfl ?_
          refine w_getI (n := 106) hLM11 (by decide +kernel) oO_271 fF_12_340 (at_483) (by decide) rfl ?_
          refine w_iconst (n := 107) (v := 1) (x := 1) (by decide +kernel) rfl (by decide) ?_
          refine w_iadd (n := 108) (by decide +kernel) rfl ?_
          refine w_putI (n := 111) hLM11 (by decide +kernel) oO_271 fF_12_340 (at_483) ⟨by decide, Or.inl (by decide)⟩ rfl ?_
          generalize eM12 : ak_sI M11 483 17 ((ak_I M11 483 17) + 1) = M12
          have hLM12 : ab_lay M12 := by rw [← eM12]; exact ab_lay.sI hLM11
          replace h := h M12 eM12.symm
          refine w_iinc (n := 114) (i := 6) (v := 1) (y := y6 + 1) (l1' := [some (.ref 483), some (.int x1), some (.int x2), some (.int x3), some (.int x4), some (.int x5), some (.int (y6 + 1)), some (.int x3)]) (l2' := []) (by decide +kernel) rfl rfl rfl rfl rfl ?_
          refine w_goto (n := 23) (off := (-91)) (by decide +kernel) (by decide) ?_
          exact h
      · rw [if_neg c17] at h
        refine w_icmp_ge_n (n := 47) (off := 7) (by decide +kernel) rfl c17 ?_
        refine w_iload_n (n := 48) (i := 2) (by decide +kernel) rfl rfl ?_
        refine w_goto (n := 76) (off := 28) (by decide +kernel) (by decide) ?_
        refine w_istore (n := 78) (i := 7) (l1' := [some (.ref 483), some (.int x1), some (.int x2), some (.int x3), some (.int x4), some (.int x5), some (.int y6), some (.int x2)]) (l2' := []) (by decide +kernel) rfl (Nat.le_of_ble_eq_true rfl) rfl rfl ?_
        refine w_aload_n (n := 79) (i := 0) (by decide +kernel) rfl rfl ?_
        refine w_getR (n := 82) hL (by decide +kernel) oO_271 fF_12_44 (at_483) (by decide) (ar_483_16) rfl ?_
        refine w_aload_n (n := 83) (i := 0) (by decide +kernel) rfl rfl ?_
        refine w_getI (n := 86) hL (by decide +kernel) oO_271 fF_12_340 (at_483) (by decide) rfl ?_
        refine w_iload (n := 88) (i := 7) (by decide +kernel) rfl rfl ?_
        refine w_bipush (n := 90) (v := 24) (x := 24) (by decide +kernel) rfl (by decide) ?_
        refine w_bipush (n := 92) (v := 8) (x := 8) (by decide +kernel) rfl (by decide) ?_
        refine w_iload (n := 94) (i := 6) (by decide +kernel) rfl rfl ?_
        refine w_iconst (n := 95) (v := 4) (x := 4) (by decide +kernel) rfl (by decide) ?_
        refine w_irem (n := 96) (by decide +kernel) rfl (by decide) ?_
        refine w_imul (n := 97) (by decide +kernel) rfl ?_
        refine w_isub (n := 98) (by decide +kernel) rfl ?_
        refine w_ishr (n := 99) (by decide +kernel) rfl ?_
        refine w_i2b (n := 100) (by decide +kernel) rfl ?_
        obtain ⟨i14, gi14, h⟩ := h
        refine w_bast (n := 101) hL (by decide +kernel) (at_495) (an_495) gi14 rfl ?_
        generalize eM15 : ak_sI M 495 i14 (vp_nar .byte ((x2 >>> ((24 - (8 * (y6 - y6 / 4 * 4))) &&& 31)).toInt8.toInt32)) = M15
        have hLM15 : ab_lay M15 := by rw [← eM15]; exact ab_lay.sI hL
        replace h := h M15 eM15.symm
        refine w_aload_n (n := 102) (i := 0) (by decide +kernel) rfl rfl ?_
        refine w_aload_n (n := 103) (i := 0) (by decide +kernel) rfl rfl ?_
        refine w_getI (n := 106) hLM15 (by decide +kernel) oO_271 fF_12_340 (at_483) (by decide) rfl ?_
        refine w_iconst (n := 107) (v := 1) (x := 1) (by decide +kernel) rfl (by decide) ?_
        refine w_iadd (n := 108) (by decide +kernel) rfl ?_
        refine w_putI (n := 111) hLM15 (by decide +kernel) oO_271 fF_12_340 (at_483) ⟨by decide, Or.inl (by decide)⟩ rfl ?_
        generalize eM16 : ak_sI M15 483 17 ((ak_I M15 483 17) + 1) = M16
        have hLM16 : ab_lay M16 := by rw [← eM16]; exact ab_lay.sI hLM15
        replace h := h M16 eM16.symm
        refine w_iinc (n := 114) (i := 6) (v := 1) (y := y6 + 1) (l1' := [some (.ref 483), some (.int x1), some (.int x2), some (.int x3), some (.int x4), some (.int x5), some (.int (y6 + 1)), some (.int x2)]) (l2' := []) (by decide +kernel) rfl rfl rfl rfl rfl ?_
        refine w_goto (n := 23) (off := (-91)) (by decide +kernel) (by decide) ?_
        exact h
    · rw [if_neg c21] at h
      refine w_icmp_ge_n (n := 36) (off := 7) (by decide +kernel) rfl c21 ?_
      refine w_iload_n (n := 37) (i := 1) (by decide +kernel) rfl rfl ?_
      refine w_goto (n := 76) (off := 39) (by decide +kernel) (by decide) ?_
      refine w_istore (n := 78) (i := 7) (l1' := [some (.ref 483), some (.int x1), some (.int x2), some (.int x3), some (.int x4), some (.int x5), some (.int y6), some (.int x1)]) (l2' := []) (by decide +kernel) rfl (Nat.le_of_ble_eq_true rfl) rfl rfl ?_
      refine w_aload_n (n := 79) (i := 0) (by decide +kernel) rfl rfl ?_
      refine w_getR (n := 82) hL (by decide +kernel) oO_271 fF_12_44 (at_483) (by decide) (ar_483_16) rfl ?_
      refine w_aload_n (n := 83) (i := 0) (by decide +kernel) rfl rfl ?_
      refine w_getI (n := 86) hL (by decide +kernel) oO_271 fF_12_340 (at_483) (by decide) rfl ?_
      refine w_iload (n := 88) (i := 7) (by decide +kernel) rfl rfl ?_
      refine w_bipush (n := 90) (v := 24) (x := 24) (by decide +kernel) rfl (by decide) ?_
      refine w_bipush (n := 92) (v := 8) (x := 8) (by decide +kernel) rfl (by decide) ?_
      refine w_iload (n := 94) (i := 6) (by decide +kernel) rfl rfl ?_
      refine w_iconst (n := 95) (v := 4) (x := 4) (by decide +kernel) rfl (by decide) ?_
      refine w_irem (n := 96) (by decide +kernel) rfl (by decide) ?_
      refine w_imul (n := 97) (by decide +kernel) rfl ?_
      refine w_isub (n := 98) (by decide +kernel) rfl ?_
      refine w_ishr (n := 99) (by decide +kernel) rfl ?_
      refine w_i2b (n := 100) (by decide +kernel) rfl ?_
      obtain ⟨i18, gi18, h⟩ := h
      refine w_bast (n := 101) hL (by decide +kernel) (at_495) (an_495) gi18 rfl ?_
      generalize eM19 : ak_sI M 495 i18 (vp_nar .byte ((x1 >>> ((24 - (8 * (y6 - y6 / 4 * 4))) &&& 31)).toInt8.toInt32)) = M19
      have hLM19 : ab_lay M19 := by rw [← eM19]; exact ab_lay.sI hL
      replace h := h M19 eM19.symm
      refine w_aload_n (n := 102) (i := 0) (by decide +kernel) rfl rfl ?_
      refine w_aload_n (n := 103) (i := 0) (by decide +kernel) rfl rfl ?_
      refine w_getI (n := 106) hLM19 (by decide +kernel) oO_271 fF_12_340 (at_483) (by decide) rfl ?_
      refine w_iconst (n := 107) (v := 1) (x := 1) (by decide +kernel) rfl (by decide) ?_
      refine w_iadd (n := 108) (by decide +kernel) rfl ?_
      refine w_putI (n := 111) hLM19 (by decide +kernel) oO_271 fF_12_340 (at_483) ⟨by decide, Or.inl (by decide)⟩ rfl ?_
      generalize eM20 : ak_sI M19 483 17 ((ak_I M19 483 17) + 1) = M20
      have hLM20 : ab_lay M20 := by rw [← eM20]; exact ab_lay.sI hLM19
      replace h := h M20 eM20.symm
      refine w_iinc (n := 114) (i := 6) (v := 1) (y := y6 + 1) (l1' := [some (.ref 483), some (.int x1), some (.int x2), some (.int x3), some (.int x4), some (.int x5), some (.int (y6 + 1)), some (.int x1)]) (l2' := []) (by decide +kernel) rfl rfl rfl rfl rfl ?_
      refine w_goto (n := 23) (off := (-91)) (by decide +kernel) (by decide) ?_
      exact h
theorem t_272 {X : ak_X} {M : ak_M} {r : ak_O × ak_M} (hL : ab_lay M) (x1 : Int32) (h : (∀ M1 : ak_M, M1 = ak_sI M 483 0 0 → (∃ (v3 : Int32) (M2 : ak_M), ab_lay M2 ∧ rn X 157 [.long (x1.toInt64), .long 0, .long ((ak_I M1 483 17).toInt64)] M1 (.inl (some (.int v3)), M2) ∧ (if v3 = 0 then r = (.inl (some (.int 0)), M2) else (∀ M4 : ak_M, M4 = ak_sI M2 483 17 x1 → r = (.inl (some (.int 1)), M4)))))) : rn X 272 [.ref 483, .int x1] M r := by
  refine w_rn (nL := 2) (l1 := [some (.ref 483), some (.int x1)]) (by decide +kernel) rfl rfl ?_
  refine w_aload_n (n := 1) (i := 0) (by decide +kernel) rfl rfl ?_
  refine w_iconst (n := 2) (v := 0) (x := 0) (by decide +kernel) rfl (by decide) ?_
  refine w_putI (n := 5) hL (by decide +kernel) oO_272 fF_12_62 (at_483) ⟨by decide, Or.inl (by decide)⟩ rfl ?_
  generalize eM1 : ak_sI M 483 0 0 = M1
  have hLM1 : ab_lay M1 := by rw [← eM1]; exact ab_lay.sI hL
  replace h := h M1 eM1.symm
  refine w_iload_n (n := 6) (i := 1) (by decide +kernel) rfl rfl ?_
  refine w_i2l (n := 7) (by decide +kernel) rfl ?_
  refine w_lconst (n := 8) (v := 0) (x := 0) (by decide +kernel) rfl (by decide) ?_
  refine w_aload_n (n := 9) (i := 0) (by decide +kernel) rfl rfl ?_
  refine w_getI (n := 12) hLM1 (by decide +kernel) oO_272 fF_12_340 (at_483) (by decide) rfl ?_
  refine w_i2l (n := 13) (by decide +kernel) rfl ?_
  obtain ⟨v3, M2, hLM2, hr6, h⟩ := h
  refine w_cS (n := 16) (idx := 84) (cal := 157) (na := 3) (nl := 6) (as := [.long (x1.toInt64), .long 0, .long ((ak_I M1 483 17).toInt64)]) (rest := []) (by decide +kernel) (by decide +kernel) rfl rfl rfl (Nat.le_of_ble_eq_true rfl) rfl hr6 ?_
  by_cases c5 : v3 = 0
  · rw [if_pos c5] at h
    refine w_if_ne_n (n := 19) (off := 5) (by decide +kernel) rfl c5 ?_
    refine w_iconst (n := 20) (v := 0) (x := 0) (by decide +kernel) rfl (by decide) ?_
    subst h
    exact w_ireturn (by decide +kernel) (by decide +kernel)
  · rw [if_neg c5] at h
    refine w_if_ne_j (n := 21) (off := 5) (by decide +kernel) (by decide) c5 ?_
    refine w_aload_n (n := 22) (i := 0) (by decide +kernel) rfl rfl ?_
    refine w_iload_n (n := 23) (i := 1) (by decide +kernel) rfl rfl ?_
    refine w_putI (n := 26) hLM2 (by decide +kernel) oO_272 fF_12_340 (at_483) ⟨by decide, Or.inl (by decide)⟩ rfl ?_
    generalize eM4 : ak_sI M2 483 17 x1 = M4
    have hLM4 : ab_lay M4 := by rw [← eM4]; exact ab_lay.sI hLM2
    replace h := h M4 eM4.symm
    refine w_iconst (n := 27) (v := 1) (x := 1) (by decide +kernel) rfl (by decide) ?_
    subst h
    exact w_ireturn (by decide +kernel) (by decide +kernel)
theorem t_273 {X : ak_X} {M : ak_M} {r : ak_O × ak_M} (hL : ab_lay M) (x1 : Int32) (h : (if ak_I M 483 18 ≤ x1 then r = (.inl (some (.int ((-1)))), M) else (∃ i1 : Nat, ab_ix x1 i1 700 ∧ r = (.inl (some (.int ((ak_I M 495 i1) &&& 255))), M)))) : rn X 273 [.ref 483, .int x1] M r := by
  refine w_rn (nL := 2) (l1 := [some (.ref 483), some (.int x1)]) (by decide +kernel) rfl rfl ?_
  refine w_iload_n (n := 1) (i := 1) (by decide +kernel) rfl rfl ?_
  refine w_aload_n (n := 2) (i := 0) (by decide +kernel) rfl rfl ?_
  refine w_getI (n := 5) hL (by decide +kernel) oO_273 fF_12_343 (at_483) (by decide) rfl ?_
  by_cases c2 : ak_I M 483 18 ≤ x1
  · rw [if_pos c2] at h
    refine w_icmp_ge_j (n := 21) (off := 16) (by decide +kernel) (by decide) c2 ?_
    refine w_iconst (n := 22) (v := -1) (x := (-1)) (by decide +kernel) rfl (by decide) ?_
    subst h
    exact w_ireturn (by decide +kernel) (w_okI (by decide +kernel))
  · rw [if_neg c2] at h
    refine w_icmp_ge_n (n := 8) (off := 16) (by decide +kernel) rfl c2 ?_
    refine w_aload_n (n := 9) (i := 0) (by decide +kernel) rfl rfl ?_
    refine w_getR (n := 12) hL (by decide +kernel) oO_273 fF_12_44 (at_483) (by decide) (ar_483_16) rfl ?_
    refine w_iload_n (n := 13) (i := 1) (by decide +kernel) rfl rfl ?_
    obtain ⟨i1, gi1, h⟩ := h
    refine w_bald (n := 14) hL (by decide +kernel) (at_495) (by decide) (an_495) gi1 rfl ?_
    refine w_sipush (n := 17) (v := 255) (x := 255) (by decide +kernel) rfl (by decide) ?_
    refine w_iand (n := 18) (by decide +kernel) rfl ?_
    refine w_goto (n := 22) (off := 4) (by decide +kernel) (by decide) ?_
    subst h
    exact w_ireturn (by decide +kernel) (w_okI (by decide +kernel))
theorem t_274 {X : ak_X} {M : ak_M} {r : ak_O × ak_M} (hL : ab_lay M) (x1 : Int32) (h : (∃ (v2 : Int32) (M1 : ak_M), ab_lay M1 ∧ rn X 273 [.ref 483, .int x1] M (.inl (some (.int v2)), M1) ∧ (∃ (v4 : Int32) (M3 : ak_M), ab_lay M3 ∧ rn X 157 [.long (v2.toInt64), .long 97, .long 122] M1 (.inl (some (.int v4)), M3) ∧ ((v4 = 0 ∨ v4 = 1) ∧ r = (.inl (some (.int v4)), M3))))) : rn X 274 [.ref 483, .int x1] M r := by
  refine w_rn (nL := 2) (l1 := [some (.ref 483), some (.int x1)]) (by decide +kernel) rfl rfl ?_
  refine w_aload_n (n := 1) (i := 0) (by decide +kernel) rfl rfl ?_
  refine w_iload_n (n := 2) (i := 1) (by decide +kernel) rfl rfl ?_
  obtain ⟨v2, M1, hLM1, hr7, h⟩ := h
  refine w_cV (n := 5) (idx := 346) (cal := 273) (na := 1) (nl := 2) (as := [.int x1]) (rest := []) hL (by decide +kernel) (by decide +kernel) (at_483) (by decide +kernel) rfl rfl rfl (Nat.le_of_ble_eq_true rfl) rfl hr7 ?_
  refine w_i2l (n := 6) (by decide +kernel) rfl ?_
  refine w_ldc2 (n := 9) (idx := 349) (v := 97) (by decide +kernel) oO_274 (by decide +kernel) rfl ?_
  refine w_ldc2 (n := 12) (idx := 351) (v := 122) (by decide +kernel) oO_274 (by decide +kernel) rfl ?_
  obtain ⟨v4, M3, hLM3, hr6, h⟩ := h
  refine w_cS (n := 15) (idx := 84) (cal := 157) (na := 3) (nl := 6) (as := [.long (v2.toInt64), .long 97, .long 122]) (rest := []) (by decide +kernel) (by decide +kernel) rfl rfl rfl (Nat.le_of_ble_eq_true rfl) rfl hr6 ?_
  obtain ⟨g5, rfl⟩ := h
  exact w_ireturn (by decide +kernel) (w_okZ (by decide +kernel) g5)
theorem t_275 {X : ak_X} {M : ak_M} {r : ak_O × ak_M} (hL : ab_lay M) (h : (∃ (v2 : Int32) (M1 : ak_M), ab_lay M1 ∧ rn X 273 [.ref 483, .int (ak_I M 483 19)] M (.inl (some (.int v2)), M1) ∧ (if v2 = 32 then sg X 275 (26, [some (.ref 483), none], [], []) M1 r else (∃ (v4 : Int32) (M3 : ak_M), ab_lay M3 ∧ rn X 273 [.ref 483, .int (ak_I M1 483 19)] M1 (.inl (some (.int v4)), M3) ∧ (if v4 = 10 then sg X 275 (26, [some (.ref 483), none], [], []) M3 r else (∀ M5 : ak_M, M5 = ak_sI M3 483 20 (ak_I M3 483 19) → (∃ (v7 : Int32) (M6 : ak_M), ab_lay M6 ∧ rn X 273 [.ref 483, .int (ak_I M5 483 19)] M5 (.inl (some (.int v7)), M6) ∧ (if v7 = (-1) then (∀ M23 : ak_M, M23 = ak_sI M6 483 21 0 → sg X 275 (269, [some (.ref 483), some (.int v7)], [], []) M23 r) else (∃ (v9 : Int32) (M8 : ak_M), ab_lay M8 ∧ rn X 274 [.ref 483, .int (ak_I M6 483 19)] M6 (.inl (some (.int v9)), M8) ∧ (if v9 = 0 then (∃ (v11 : Int32) (M10 : ak_M), ab_lay M10 ∧ rn X 157 [.long (v7.toInt64), .long 48, .long 57] M8 (.inl (some (.int v11)), M10) ∧ (if v11 = 0 then (∀ M12 : ak_M, M12 = ak_sI M10 483 19 ((ak_I M10 483 19) + 1) → (if v7 = 59 then (∀ M16 : ak_M, M16 = ak_sI M12 483 21 3 → sg X 275 (269, [some (.ref 483), some (.int v7)], [], []) M16 r) else (if v7 = 45 then (∀ M14 : ak_M, M14 = ak_sI M12 483 21 4 → sg X 275 (269, [some (.ref 483), some (.int v7)], [], []) M14 r) else (∀ M13 : ak_M, M13 = ak_sI M12 483 21 5 → sg X 275 (269, [some (.ref 483), some (.int v7)], [], []) M13 r)))) else (∀ M18 : ak_M, M18 = ak_sI M10 483 23 0 → sg X 275 (139, [some (.ref 483), some (.int v7)], [], []) M18 r))) else sg X 275 (80, [some (.ref 483), some (.int v7)], [], []) M8 r)))))))))) : rn X 275 [.ref 483] M r := by
  refine w_rn (nL := 2) (l1 := [some (.ref 483), none]) (by decide +kernel) rfl rfl ?_
  refine w_aload_n (n := 1) (i := 0) (by decide +kernel) rfl rfl ?_
  refine w_aload_n (n := 2) (i := 0) (by decide +kernel) rfl rfl ?_
  refine w_getI (n := 5) hL (by decide +kernel) oO_275 fF_12_353 (at_483) (by decide) rfl ?_
  obtain ⟨v2, M1, hLM1, hr29, h⟩ := h
  refine w_cV (n := 8) (idx := 346) (cal := 273) (na := 1) (nl := 2) (as := [.int (ak_I M 483 19)]) (rest := []) hL (by decide +kernel) (by decide +kernel) (at_483) (by decide +kernel) rfl rfl rfl (Nat.le_of_ble_eq_true rfl) rfl hr29 ?_
  refine w_bipush (n := 10) (v := 32) (x := 32) (by decide +kernel) rfl (by decide) ?_
  by_cases c28 : v2 = 32
  · rw [if_pos c28] at h
    refine w_icmp_eq_j (n := 26) (off := 16) (by decide +kernel) (by decide) c28 ?_
    exact h
  · rw [if_neg c28] at h
    refine w_icmp_eq_n (n := 13) (off := 16) (by decide +kernel) rfl c28 ?_
    refine w_aload_n (n := 14) (i := 0) (by decide +kernel) rfl rfl ?_
    refine w_aload_n (n := 15) (i := 0) (by decide +kernel) rfl rfl ?_
    refine w_getI (n := 18) hLM1 (by decide +kernel) oO_275 fF_12_353 (at_483) (by decide) rfl ?_
    obtain ⟨v4, M3, hLM3, hr27, h⟩ := h
    refine w_cV (n := 21) (idx := 346) (cal := 273) (na := 1) (nl := 2) (as := [.int (ak_I M1 483 19)]) (rest := []) hLM1 (by decide +kernel) (by decide +kernel) (at_483) (by decide +kernel) rfl rfl rfl (Nat.le_of_ble_eq_true rfl) rfl hr27 ?_
    refine w_bipush (n := 23) (v := 10) (x := 10) (by decide +kernel) rfl (by decide) ?_
    by_cases c26 : v4 = 10
    · rw [if_pos c26] at h
      refine w_icmp_ne_n (n := 26) (off := 16) (by decide +kernel) rfl c26 ?_
      exact h
    · rw [if_neg c26] at h
      refine w_icmp_ne_j (n := 39) (off := 16) (by decide +kernel) (by decide) c26 ?_
      refine w_aload_n (n := 40) (i := 0) (by decide +kernel) rfl rfl ?_
      refine w_aload_n (n := 41) (i := 0) (by decide +kernel) rfl rfl ?_
      refine w_getI (n := 44) hLM3 (by decide +kernel) oO_275 fF_12_353 (at_483) (by decide) rfl ?_
      refine w_putI (n := 47) hLM3 (by decide +kernel) oO_275 fF_12_356 (at_483) ⟨by decide, Or.inl (by decide)⟩ rfl ?_
      generalize eM5 : ak_sI M3 483 20 (ak_I M3 483 19) = M5
      have hLM5 : ab_lay M5 := by rw [← eM5]; exact ab_lay.sI hLM3
      replace h := h M5 eM5.symm
      refine w_aload_n (n := 48) (i := 0) (by decide +kernel) rfl rfl ?_
      refine w_aload_n (n := 49) (i := 0) (by decide +kernel) rfl rfl ?_
      refine w_getI (n := 52) hLM5 (by decide +kernel) oO_275 fF_12_353 (at_483) (by decide) rfl ?_
      obtain ⟨v7, M6, hLM6, hr25, h⟩ := h
      refine w_cV (n := 55) (idx := 346) (cal := 273) (na := 1) (nl := 2) (as := [.int (ak_I M5 483 19)]) (rest := []) hLM5 (by decide +kernel) (by decide +kernel) (at_483) (by decide +kernel) rfl rfl rfl (Nat.le_of_ble_eq_true rfl) rfl hr25 ?_
      refine w_istore_n (n := 56) (i := 1) (l1' := [some (.ref 483), some (.int v7)]) (l2' := []) (by decide +kernel) rfl (Nat.le_of_ble_eq_true rfl) rfl rfl ?_
      refine w_iload_n (n := 57) (i := 1) (by decide +kernel) rfl rfl ?_
      refine w_iconst (n := 58) (v := -1) (x := (-1)) (by decide +kernel) rfl (by decide) ?_
      by_cases c24 : v7 = (-1)
      · rw [if_pos c24] at h
        refine w_icmp_ne_n (n := 61) (off := 11) (by decide +kernel) rfl c24 ?_
        refine w_aload_n (n := 62) (i := 0) (by decide +kernel) rfl rfl ?_
        refine w_iconst (n := 63) (v := 0) (x := 0) (by decide +kernel) rfl (by decide) ?_
        refine w_putI (n := 66) hLM6 (by decide +kernel) oO_275 fF_12_359 (at_483) ⟨by decide, Or.inl (by decide)⟩ rfl ?_
        generalize eM23 : ak_sI M6 483 21 0 = M23
        have hLM23 : ab_lay M23 := by rw [← eM23]; exact ab_lay.sI hLM6
        replace h := h M23 eM23.symm
        refine w_goto (n := 269) (off := 203) (by decide +kernel) (by decide) ?_
        exact h
      · rw [if_neg c24] at h
        refine w_icmp_ne_j (n := 69) (off := 11) (by decide +kernel) (by decide) c24 ?_
        refine w_aload_n (n := 70) (i := 0) (by decide +kernel) rfl rfl ?_
        refine w_aload_n (n := 71) (i := 0) (by decide +kernel) rfl rfl ?_
        refine w_getI (n := 74) hLM6 (by decide +kernel) oO_275 fF_12_353 (at_483) (by decide) rfl ?_
        obtain ⟨v9, M8, hLM8, hr22, h⟩ := h
        refine w_cV (n := 77) (idx := 362) (cal := 274) (na := 1) (nl := 2) (as := [.int (ak_I M6 483 19)]) (rest := []) hLM6 (by decide +kernel) (by decide +kernel) (at_483) (by decide +kernel) rfl rfl rfl (Nat.le_of_ble_eq_true rfl) rfl hr22 ?_
        by_cases c21 : v9 = 0
        · rw [if_pos c21] at h
          refine w_if_eq_j (n := 120) (off := 43) (by decide +kernel) (by decide) c21 ?_
          refine w_iload_n (n := 121) (i := 1) (by decide +kernel) rfl rfl ?_
          refine w_i2l (n := 122) (by decide +kernel) rfl ?_
          refine w_ldc2 (n := 125) (idx := 371) (v := 48) (by decide +kernel) oO_275 (by decide +kernel) rfl ?_
          refine w_ldc2 (n := 128) (idx := 373) (v := 57) (by decide +kernel) oO_275 (by decide +kernel) rfl ?_
          obtain ⟨v11, M10, hLM10, hr20, h⟩ := h
          refine w_cS (n := 131) (idx := 84) (cal := 157) (na := 3) (nl := 6) (as := [.long (v7.toInt64), .long 48, .long 57]) (rest := []) (by decide +kernel) (by decide +kernel) rfl rfl rfl (Nat.le_of_ble_eq_true rfl) rfl hr20 ?_
          by_cases c19 : v11 = 0
          · rw [if_pos c19] at h
            refine w_if_eq_j (n := 234) (off := 103) (by decide +kernel) (by decide) c19 ?_
            refine w_aload_n (n := 235) (i := 0) (by decide +kernel) rfl rfl ?_
            refine w_aload_n (n := 236) (i := 0) (by decide +kernel) rfl rfl ?_
            refine w_getI (n := 239) hLM10 (by decide +kernel) oO_275 fF_12_353 (at_483) (by decide) rfl ?_
            refine w_iconst (n := 240) (v := 1) (x := 1) (by decide +kernel) rfl (by decide) ?_
            refine w_iadd (n := 241) (by decide +kernel) rfl ?_
            refine w_putI (n := 244) hLM10 (by decide +kernel) oO_275 fF_12_353 (at_483) ⟨by decide, Or.inl (by decide)⟩ rfl ?_
            generalize eM12 : ak_sI M10 483 19 ((ak_I M10 483 19) + 1) = M12
            have hLM12 : ab_lay M12 := by rw [← eM12]; exact ab_lay.sI hLM10
            replace h := h M12 eM12.symm
            refine w_aload_n (n := 245) (i := 0) (by decide +kernel) rfl rfl ?_
            refine w_iload_n (n := 246) (i := 1) (by decide +kernel) rfl rfl ?_
            refine w_bipush (n := 248) (v := 59) (x := 59) (by decide +kernel) rfl (by decide) ?_
            by_cases c17 : v7 = 59
            · rw [if_pos c17] at h
              refine w_icmp_ne_n (n := 251) (off := 7) (by decide +kernel) rfl c17 ?_
              refine w_iconst (n := 252) (v := 3) (x := 3) (by decide +kernel) rfl (by decide) ?_
              refine w_goto (n := 266) (off := 14) (by decide +kernel) (by decide) ?_
              refine w_putI (n := 269) hLM12 (by decide +kernel) oO_275 fF_12_359 (at_483) ⟨by decide, Or.inl (by decide)⟩ rfl ?_
              generalize eM16 : ak_sI M12 483 21 3 = M16
              have hLM16 : ab_lay M16 := by rw [← eM16]; exact ab_lay.sI hLM12
              replace h := h M16 eM16.symm
              exact h
            · rw [if_neg c17] at h
              refine w_icmp_ne_j (n := 255) (off := 7) (by decide +kernel) (by decide) c17 ?_
              refine w_iload_n (n := 256) (i := 1) (by decide +kernel) rfl rfl ?_
              refine w_bipush (n := 258) (v := 45) (x := 45) (by decide +kernel) rfl (by decide) ?_
              by_cases c15 : v7 = 45
              · rw [if_pos c15] at h
                refine w_icmp_ne_n (n := 261) (off := 7) (by decide +kernel) rfl c15 ?_
                refine w_iconst (n := 262) (v := 4) (x := 4) (by decide +kernel) rfl (by decide) ?_
                refine w_goto (n := 266) (off := 4) (by decide +kernel) (by decide) ?_
                refine w_putI (n := 269) hLM12 (by decide +kernel) oO_275 fF_12_359 (at_483) ⟨by decide, Or.inl (by decide)⟩ rfl ?_
                generalize eM14 : ak_sI M12 483 21 4 = M14
                have hLM14 : ab_lay M14 := by rw [← eM14]; exact ab_lay.sI hLM12
                replace h := h M14 eM14.symm
                exact h
              · rw [if_neg c15] at h
                refine w_icmp_ne_j (n := 265) (off := 7) (by decide +kernel) (by decide) c15 ?_
                refine w_iconst (n := 266) (v := 5) (x := 5) (by decide +kernel) rfl (by decide) ?_
                refine w_putI (n := 269) hLM12 (by decide +kernel) oO_275 fF_12_359 (at_483) ⟨by decide, Or.inl (by decide)⟩ rfl ?_
                generalize eM13 : ak_sI M12 483 21 5 = M13
                have hLM13 : ab_lay M13 := by rw [← eM13]; exact ab_lay.sI hLM12
                replace h := h M13 eM13.symm
                exact h
          · rw [if_neg c19] at h
            refine w_if_eq_n (n := 134) (off := 103) (by decide +kernel) rfl c19 ?_
            refine w_aload_n (n := 135) (i := 0) (by decide +kernel) rfl rfl ?_
            refine w_iconst (n := 136) (v := 0) (x := 0) (by decide +kernel) rfl (by decide) ?_
            refine w_putI (n := 139) hLM10 (by decide +kernel) oO_275 fF_12_375 (at_483) ⟨by decide, Or.inl (by decide)⟩ rfl ?_
            generalize eM18 : ak_sI M10 483 23 0 = M18
            have hLM18 : ab_lay M18 := by rw [← eM18]; exact ab_lay.sI hLM10
            replace h := h M18 eM18.symm
            exact h
        · rw [if_neg c21] at h
          refine w_if_eq_n (n := 80) (off := 43) (by decide +kernel) rfl c21 ?_
          exact h
theorem t_275_26 {X : ak_X} {M : ak_M} {r : ak_O × ak_M} (hL : ab_lay M) (o1 : Option Value) (h : (∀ M30 : ak_M, M30 = ak_sI M 483 19 ((ak_I M 483 19) + 1) → sg X 275 (0, [some (.ref 483), o1], [], []) M30 r)) : sg X 275 (26, [some (.ref 483), o1], [], []) M r := by
  refine w_aload_n (n := 27) (i := 0) (by decide +kernel) rfl rfl ?_
  refine w_aload_n (n := 28) (i := 0) (by decide +kernel) rfl rfl ?_
  refine w_getI (n := 31) hL (by decide +kernel) oO_275 fF_12_353 (at_483) (by decide) rfl ?_
  refine w_iconst (n := 32) (v := 1) (x := 1) (by decide +kernel) rfl (by decide) ?_
  refine w_iadd (n := 33) (by decide +kernel) rfl ?_
  refine w_putI (n := 36) hL (by decide +kernel) oO_275 fF_12_353 (at_483) ⟨by decide, Or.inl (by decide)⟩ rfl ?_
  generalize eM30 : ak_sI M 483 19 ((ak_I M 483 19) + 1) = M30
  have hLM30 : ab_lay M30 := by rw [← eM30]; exact ab_lay.sI hL
  replace h := h M30 eM30.symm
  refine w_goto (n := 0) (off := (-36)) (by decide +kernel) (by decide) ?_
  exact h
theorem t_275_0 {X : ak_X} {M : ak_M} {r : ak_O × ak_M} (hL : ab_lay M) (o1 : Option Value) (h : (∃ (v32 : Int32) (M31 : ak_M), ab_lay M31 ∧ rn X 273 [.ref 483, .int (ak_I M 483 19)] M (.inl (some (.int v32)), M31) ∧ (if v32 = 32 then sg X 275 (26, [some (.ref 483), o1], [], []) M31 r else (∃ (v34 : Int32) (M33 : ak_M), ab_lay M33 ∧ rn X 273 [.ref 483, .int (ak_I M31 483 19)] M31 (.inl (some (.int v34)), M33) ∧ (if v34 = 10 then sg X 275 (26, [some (.ref 483), o1], [], []) M33 r else (∀ M35 : ak_M, M35 = ak_sI M33 483 20 (ak_I M33 483 19) → (∃ (v37 : Int32) (M36 : ak_M), ab_lay M36 ∧ rn X 273 [.ref 483, .int (ak_I M35 483 19)] M35 (.inl (some (.int v37)), M36) ∧ (if v37 = (-1) then (∀ M53 : ak_M, M53 = ak_sI M36 483 21 0 → sg X 275 (269, [some (.ref 483), some (.int v37)], [], []) M53 r) else (∃ (v39 : Int32) (M38 : ak_M), ab_lay M38 ∧ rn X 274 [.ref 483, .int (ak_I M36 483 19)] M36 (.inl (some (.int v39)), M38) ∧ (if v39 = 0 then (∃ (v41 : Int32) (M40 : ak_M), ab_lay M40 ∧ rn X 157 [.long (v37.toInt64), .long 48, .long 57] M38 (.inl (some (.int v41)), M40) ∧ (if v41 = 0 then (∀ M42 : ak_M, M42 = ak_sI M40 483 19 ((ak_I M40 483 19) + 1) → (if v37 = 59 then (∀ M46 : ak_M, M46 = ak_sI M42 483 21 3 → sg X 275 (269, [some (.ref 483), some (.int v37)], [], []) M46 r) else (if v37 = 45 then (∀ M44 : ak_M, M44 = ak_sI M42 483 21 4 → sg X 275 (269, [some (.ref 483), some (.int v37)], [], []) M44 r) else (∀ M43 : ak_M, M43 = ak_sI M42 483 21 5 → sg X 275 (269, [some (.ref 483), some (.int v37)], [], []) M43 r)))) else (∀ M48 : ak_M, M48 = ak_sI M40 483 23 0 → sg X 275 (139, [some (.ref 483), some (.int v37)], [], []) M48 r))) else sg X 275 (80, [some (.ref 483), some (.int v37)], [], []) M38 r)))))))))) : sg X 275 (0, [some (.ref 483), o1], [], []) M r := by
  refine w_aload_n (n := 1) (i := 0) (by decide +kernel) rfl rfl ?_
  refine w_aload_n (n := 2) (i := 0) (by decide +kernel) rfl rfl ?_
  refine w_getI (n := 5) hL (by decide +kernel) oO_275 fF_12_353 (at_483) (by decide) rfl ?_
  obtain ⟨v32, M31, hLM31, hr59, h⟩ := h
  refine w_cV (n := 8) (idx := 346) (cal := 273) (na := 1) (nl := 2) (as := [.int (ak_I M 483 19)]) (rest := []) hL (by decide +kernel) (by decide +kernel) (at_483) (by decide +kernel) rfl rfl rfl (Nat.le_of_ble_eq_true rfl) rfl hr59 ?_
  refine w_bipush (n := 10) (v := 32) (x := 32) (by decide +kernel) rfl (by decide) ?_
  by_cases c58 : v32 = 32
  · rw [if_pos c58] at h
    refine w_icmp_eq_j (n := 26) (off := 16) (by decide +kernel) (by decide) c58 ?_
    exact h
  · rw [if_neg c58] at h
    refine w_icmp_eq_n (n := 13) (off := 16) (by decide +kernel) rfl c58 ?_
    refine w_aload_n (n := 14) (i := 0) (by decide +kernel) rfl rfl ?_
    refine w_aload_n (n := 15) (i := 0) (by decide +kernel) rfl rfl ?_
    refine w_getI (n := 18) hLM31 (by decide +kernel) oO_275 fF_12_353 (at_483) (by decide) rfl ?_
    obtain ⟨v34, M33, hLM33, hr57, h⟩ := h
    refine w_cV (n := 21) (idx := 346) (cal := 273) (na := 1) (nl := 2) (as := [.int (ak_I M31 483 19)]) (rest := []) hLM31 (by decide +kernel) (by decide +kernel) (at_483) (by decide +kernel) rfl rfl rfl (Nat.le_of_ble_eq_true rfl) rfl hr57 ?_
    refine w_bipush (n := 23) (v := 10) (x := 10) (by decide +kernel) rfl (by decide) ?_
    by_cases c56 : v34 = 10
    · rw [if_pos c56] at h
      refine w_icmp_ne_n (n := 26) (off := 16) (by decide +kernel) rfl c56 ?_
      exact h
    · rw [if_neg c56] at h
      refine w_icmp_ne_j (n := 39) (off := 16) (by decide +kernel) (by decide) c56 ?_
      refine w_aload_n (n := 40) (i := 0) (by decide +kernel) rfl rfl ?_
      refine w_aload_n (n := 41) (i := 0) (by decide +kernel) rfl rfl ?_
      refine w_getI (n := 44) hLM33 (by decide +kernel) oO_275 fF_12_353 (at_483) (by decide) rfl ?_
      refine w_putI (n := 47) hLM33 (by decide +kernel) oO_275 fF_12_356 (at_483) ⟨by decide, Or.inl (by decide)⟩ rfl ?_
      generalize eM35 : ak_sI M33 483 20 (ak_I M33 483 19) = M35
      have hLM35 : ab_lay M35 := by rw [← eM35]; exact ab_lay.sI hLM33
      replace h := h M35 eM35.symm
      refine w_aload_n (n := 48) (i := 0) (by decide +kernel) rfl rfl ?_
      refine w_aload_n (n := 49) (i := 0) (by decide +kernel) rfl rfl ?_
      refine w_getI (n := 52) hLM35 (by decide +kernel) oO_275 fF_12_353 (at_483) (by decide) rfl ?_
      obtain ⟨v37, M36, hLM36, hr55, h⟩ := h
      refine w_cV (n := 55) (idx := 346) (cal := 273) (na := 1) (nl := 2) (as := [.int (ak_I M35 483 19)]) (rest := []) hLM35 (by decide +kernel) (by decide +kernel) (at_483) (by decide +kernel) rfl rfl rfl (Nat.le_of_ble_eq_true rfl) rfl hr55 ?_
      refine w_istore_n (n := 56) (i := 1) (l1' := [some (.ref 483), some (.int v37)]) (l2' := []) (by decide +kernel) rfl (Nat.le_of_ble_eq_true rfl) rfl rfl ?_
      refine w_iload_n (n := 57) (i := 1) (by decide +kernel) rfl rfl ?_
      refine w_iconst (n := 58) (v := -1) (x := (-1)) (by decide +kernel) rfl (by decide) ?_
      by_cases c54 : v37 = (-1)
      · rw [if_pos c54] at h
        refine w_icmp_ne_n (n := 61) (off := 11) (by decide +kernel) rfl c54 ?_
        refine w_aload_n (n := 62) (i := 0) (by decide +kernel) rfl rfl ?_
        refine w_iconst (n := 63) (v := 0) (x := 0) (by decide +kernel) rfl (by decide) ?_
        refine w_putI (n := 66) hLM36 (by decide +kernel) oO_275 fF_12_359 (at_483) ⟨by decide, Or.inl (by decide)⟩ rfl ?_
        generalize eM53 : ak_sI M36 483 21 0 = M53
        have hLM53 : ab_lay M53 := by rw [← eM53]; exact ab_lay.sI hLM36
        replace h := h M53 eM53.symm
        refine w_goto (n := 269) (off := 203) (by decide +kernel) (by decide) ?_
        exact h
      · rw [if_neg c54] at h
        refine w_icmp_ne_j (n := 69) (off := 11) (by decide +kernel) (by decide) c54 ?_
        refine w_aload_n (n := 70) (i := 0) (by decide +kernel) rfl rfl ?_
        refine w_aload_n (n := 71) (i := 0) (by decide +kernel) rfl rfl ?_
        refine w_getI (n := 74) hLM36 (by decide +kernel) oO_275 fF_12_353 (at_483) (by decide) rfl ?_
        obtain ⟨v39, M38, hLM38, hr52, h⟩ := h
        refine w_cV (n := 77) (idx := 362) (cal := 274) (na := 1) (nl := 2) (as := [.int (ak_I M36 483 19)]) (rest := []) hLM36 (by decide +kernel) (by decide +kernel) (at_483) (by decide +kernel) rfl rfl rfl (Nat.le_of_ble_eq_true rfl) rfl hr52 ?_
        by_cases c51 : v39 = 0
        · rw [if_pos c51] at h
          refine w_if_eq_j (n := 120) (off := 43) (by decide +kernel) (by decide) c51 ?_
          refine w_iload_n (n := 121) (i := 1) (by decide +kernel) rfl rfl ?_
          refine w_i2l (n := 122) (by decide +kernel) rfl ?_
          refine w_ldc2 (n := 125) (idx := 371) (v := 48) (by decide +kernel) oO_275 (by decide +kernel) rfl ?_
          refine w_ldc2 (n := 128) (idx := 373) (v := 57) (by decide +kernel) oO_275 (by decide +kernel) rfl ?_
          obtain ⟨v41, M40, hLM40, hr50, h⟩ := h
          refine w_cS (n := 131) (idx := 84) (cal := 157) (na := 3) (nl := 6) (as := [.long (v37.toInt64), .long 48, .long 57]) (rest := []) (by decide +kernel) (by decide +kernel) rfl rfl rfl (Nat.le_of_ble_eq_true rfl) rfl hr50 ?_
          by_cases c49 : v41 = 0
          · rw [if_pos c49] at h
            refine w_if_eq_j (n := 234) (off := 103) (by decide +kernel) (by decide) c49 ?_
            refine w_aload_n (n := 235) (i := 0) (by decide +kernel) rfl rfl ?_
            refine w_aload_n (n := 236) (i := 0) (by decide +kernel) rfl rfl ?_
            refine w_getI (n := 239) hLM40 (by decide +kernel) oO_275 fF_12_353 (at_483) (by decide) rfl ?_
            refine w_iconst (n := 240) (v := 1) (x := 1) (by decide +kernel) rfl (by decide) ?_
            refine w_iadd (n := 241) (by decide +kernel) rfl ?_
            refine w_putI (n := 244) hLM40 (by decide +kernel) oO_275 fF_12_353 (at_483) ⟨by decide, Or.inl (by decide)⟩ rfl ?_
            generalize eM42 : ak_sI M40 483 19 ((ak_I M40 483 19) + 1) = M42
            have hLM42 : ab_lay M42 := by rw [← eM42]; exact ab_lay.sI hLM40
            replace h := h M42 eM42.symm
            refine w_aload_n (n := 245) (i := 0) (by decide +kernel) rfl rfl ?_
            refine w_iload_n (n := 246) (i := 1) (by decide +kernel) rfl rfl ?_
            refine w_bipush (n := 248) (v := 59) (x := 59) (by decide +kernel) rfl (by decide) ?_
            by_cases c47 : v37 = 59
            · rw [if_pos c47] at h
              refine w_icmp_ne_n (n := 251) (off := 7) (by decide +kernel) rfl c47 ?_
              refine w_iconst (n := 252) (v := 3) (x := 3) (by decide +kernel) rfl (by decide) ?_
              refine w_goto (n := 266) (off := 14) (by decide +kernel) (by decide) ?_
              refine w_putI (n := 269) hLM42 (by decide +kernel) oO_275 fF_12_359 (at_483) ⟨by decide, Or.inl (by decide)⟩ rfl ?_
              generalize eM46 : ak_sI M42 483 21 3 = M46
              have hLM46 : ab_lay M46 := by rw [← eM46]; exact ab_lay.sI hLM42
              replace h := h M46 eM46.symm
              exact h
            · rw [if_neg c47] at h
              refine w_icmp_ne_j (n := 255) (off := 7) (by decide +kernel) (by decide) c47 ?_
              refine w_iload_n (n := 256) (i := 1) (by decide +kernel) rfl rfl ?_
              refine w_bipush (n := 258) (v := 45) (x := 45) (by decide +kernel) rfl (by decide) ?_
              by_cases c45 : v37 = 45
              · rw [if_pos c45] at h
                refine w_icmp_ne_n (n := 261) (off := 7) (by decide +kernel) rfl c45 ?_
                refine w_iconst (n := 262) (v := 4) (x := 4) (by decide +kernel) rfl (by decide) ?_
                refine w_goto (n := 266) (off := 4) (by decide +kernel) (by decide) ?_
                refine w_putI (n := 269) hLM42 (by decide +kernel) oO_275 fF_12_359 (at_483) ⟨by decide, Or.inl (by decide)⟩ rfl ?_
                generalize eM44 : ak_sI M42 483 21 4 = M44
                have hLM44 : ab_lay M44 := by rw [← eM44]; exact ab_lay.sI hLM42
                replace h := h M44 eM44.symm
                exact h
              · rw [if_neg c45] at h
                refine w_icmp_ne_j (n := 265) (off := 7) (by decide +kernel) (by decide) c45 ?_
                refine w_iconst (n := 266) (v := 5) (x := 5) (by decide +kernel) rfl (by decide) ?_
                refine w_putI (n := 269) hLM42 (by decide +kernel) oO_275 fF_12_359 (at_483) ⟨by decide, Or.inl (by decide)⟩ rfl ?_
                generalize eM43 : ak_sI M42 483 21 5 = M43
                have hLM43 : ab_lay M43 := by rw [← eM43]; exact ab_lay.sI hLM42
                replace h := h M43 eM43.symm
                exact h
          · rw [if_neg c49] at h
            refine w_if_eq_n (n := 134) (off := 103) (by decide +kernel) rfl c49 ?_
            refine w_aload_n (n := 135) (i := 0) (by decide +kernel) rfl rfl ?_
            refine w_iconst (n := 136) (v := 0) (x := 0) (by decide +kernel) rfl (by decide) ?_
            refine w_putI (n := 139) hLM40 (by decide +kernel) oO_275 fF_12_375 (at_483) ⟨by decide, Or.inl (by decide)⟩ rfl ?_
            generalize eM48 : ak_sI M40 483 23 0 = M48
            have hLM48 : ab_lay M48 := by rw [← eM48]; exact ab_lay.sI hLM40
            replace h := h M48 eM48.symm
            exact h
        · rw [if_neg c51] at h
          refine w_if_eq_n (n := 80) (off := 43) (by decide +kernel) rfl c51 ?_
          exact h
theorem t_275_80 {X : ak_X} {M : ak_M} {r : ak_O × ak_M} (hL : ab_lay M) (o1 : Option Value) (h : (∃ (v61 : Int32) (M60 : ak_M), ab_lay M60 ∧ rn X 274 [.ref 483, .int (ak_I M 483 19)] M (.inl (some (.int v61)), M60) ∧ (if v61 = 0 then (∀ M62 : ak_M, M62 = ak_sI M60 483 21 1 → (∃ (v64 : Int32) (M63 : ak_M), ab_lay M63 ∧ rn X 276 [.ref 483] M62 (.inl (some (.int v64)), M63) ∧ (∀ M65 : ak_M, M65 = ak_sI M63 483 22 v64 → sg X 275 (269, [some (.ref 483), o1], [], []) M65 r))) else (∀ M67 : ak_M, M67 = ak_sI M60 483 19 ((ak_I M60 483 19) + 1) → sg X 275 (80, [some (.ref 483), o1], [], []) M67 r)))) : sg X 275 (80, [some (.ref 483), o1], [], []) M r := by
  refine w_aload_n (n := 81) (i := 0) (by decide +kernel) rfl rfl ?_
  refine w_aload_n (n := 82) (i := 0) (by decide +kernel) rfl rfl ?_
  refine w_getI (n := 85) hL (by decide +kernel) oO_275 fF_12_353 (at_483) (by decide) rfl ?_
  obtain ⟨v61, M60, hLM60, hr69, h⟩ := h
  refine w_cV (n := 88) (idx := 362) (cal := 274) (na := 1) (nl := 2) (as := [.int (ak_I M 483 19)]) (rest := []) hL (by decide +kernel) (by decide +kernel) (at_483) (by decide +kernel) rfl rfl rfl (Nat.le_of_ble_eq_true rfl) rfl hr69 ?_
  by_cases c68 : v61 = 0
  · rw [if_pos c68] at h
    refine w_if_eq_j (n := 104) (off := 16) (by decide +kernel) (by decide) c68 ?_
    refine w_aload_n (n := 105) (i := 0) (by decide +kernel) rfl rfl ?_
    refine w_iconst (n := 106) (v := 1) (x := 1) (by decide +kernel) rfl (by decide) ?_
    refine w_putI (n := 109) hLM60 (by decide +kernel) oO_275 fF_12_359 (at_483) ⟨by decide, Or.inl (by decide)⟩ rfl ?_
    generalize eM62 : ak_sI M60 483 21 1 = M62
    have hLM62 : ab_lay M62 := by rw [← eM62]; exact ab_lay.sI hLM60
    replace h := h M62 eM62.symm
    refine w_aload_n (n := 110) (i := 0) (by decide +kernel) rfl rfl ?_
    refine w_aload_n (n := 111) (i := 0) (by decide +kernel) rfl rfl ?_
    obtain ⟨v64, M63, hLM63, hr66, h⟩ := h
    refine w_cV (n := 114) (idx := 365) (cal := 276) (na := 0) (nl := 1) (as := []) (rest := [.ref 483]) hLM62 (by decide +kernel) (by decide +kernel) (at_483) (by decide +kernel) rfl rfl rfl (Nat.le_of_ble_eq_true rfl) rfl hr66 ?_
    refine w_putI (n := 117) hLM63 (by decide +kernel) oO_275 fF_12_368 (at_483) ⟨by decide, Or.inl (by decide)⟩ rfl ?_
    generalize eM65 : ak_sI M63 483 22 v64 = M65
    have hLM65 : ab_lay M65 := by rw [← eM65]; exact ab_lay.sI hLM63
    replace h := h M65 eM65.symm
    refine w_goto (n := 269) (off := 152) (by decide +kernel) (by decide) ?_
    exact h
  · rw [if_neg c68] at h
    refine w_if_eq_n (n := 91) (off := 16) (by decide +kernel) rfl c68 ?_
    refine w_aload_n (n := 92) (i := 0) (by decide +kernel) rfl rfl ?_
    refine w_aload_n (n := 93) (i := 0) (by decide +kernel) rfl rfl ?_
    refine w_getI (n := 96) hLM60 (by decide +kernel) oO_275 fF_12_353 (at_483) (by decide) rfl ?_
    refine w_iconst (n := 97) (v := 1) (x := 1) (by decide +kernel) rfl (by decide) ?_
    refine w_iadd (n := 98) (by decide +kernel) rfl ?_
    refine w_putI (n := 101) hLM60 (by decide +kernel) oO_275 fF_12_353 (at_483) ⟨by decide, Or.inl (by decide)⟩ rfl ?_
    generalize eM67 : ak_sI M60 483 19 ((ak_I M60 483 19) + 1) = M67
    have hLM67 : ab_lay M67 := by rw [← eM67]; exact ab_lay.sI hLM60
    replace h := h M67 eM67.symm
    refine w_goto (n := 80) (off := (-21)) (by decide +kernel) (by decide) ?_
    exact h
theorem t_275_139 {X : ak_X} {M : ak_M} {r : ak_O × ak_M} (hL : ab_lay M) (o1 : Option Value) (h : (∃ (v71 : Int32) (M70 : ak_M), ab_lay M70 ∧ rn X 273 [.ref 483, .int (ak_I M 483 19)] M (.inl (some (.int v71)), M70) ∧ (∃ (v73 : Int32) (M72 : ak_M), ab_lay M72 ∧ rn X 157 [.long (v71.toInt64), .long 48, .long 57] M70 (.inl (some (.int v73)), M72) ∧ (if v73 = 0 then (if (ak_I M72 483 19) - (ak_I M72 483 20) ≤ 4 then (∀ M74 : ak_M, M74 = ak_sI M72 483 21 2 → sg X 275 (269, [some (.ref 483), o1], [], []) M74 r) else (∀ M75 : ak_M, M75 = ak_sI M72 483 21 5 → sg X 275 (269, [some (.ref 483), o1], [], []) M75 r)) else (if 4 ≤ (ak_I M72 483 19) - (ak_I M72 483 20) then sg X 275 (196, [some (.ref 483), o1], [], []) M72 r else (∃ (v78 : Int32) (M77 : ak_M), ab_lay M77 ∧ rn X 273 [.ref 483, .int (ak_I M72 483 19)] M72 (.inl (some (.int v78)), M77) ∧ (∀ M79 : ak_M, M79 = ak_sI M77 483 23 (((10 * (ak_I M72 483 23)) + v78) - 48) → sg X 275 (196, [some (.ref 483), o1], [], []) M79 r))))))) : sg X 275 (139, [some (.ref 483), o1], [], []) M r := by
  refine w_aload_n (n := 140) (i := 0) (by decide +kernel) rfl rfl ?_
  refine w_aload_n (n := 141) (i := 0) (by decide +kernel) rfl rfl ?_
  refine w_getI (n := 144) hL (by decide +kernel) oO_275 fF_12_353 (at_483) (by decide) rfl ?_
  obtain ⟨v71, M70, hLM70, hr84, h⟩ := h
  refine w_cV (n := 147) (idx := 346) (cal := 273) (na := 1) (nl := 2) (as := [.int (ak_I M 483 19)]) (rest := []) hL (by decide +kernel) (by decide +kernel) (at_483) (by decide +kernel) rfl rfl rfl (Nat.le_of_ble_eq_true rfl) rfl hr84 ?_
  refine w_i2l (n := 148) (by decide +kernel) rfl ?_
  refine w_ldc2 (n := 151) (idx := 371) (v := 48) (by decide +kernel) oO_275 (by decide +kernel) rfl ?_
  refine w_ldc2 (n := 154) (idx := 373) (v := 57) (by decide +kernel) oO_275 (by decide +kernel) rfl ?_
  obtain ⟨v73, M72, hLM72, hr83, h⟩ := h
  refine w_cS (n := 157) (idx := 84) (cal := 157) (na := 3) (nl := 6) (as := [.long (v71.toInt64), .long 48, .long 57]) (rest := []) (by decide +kernel) (by decide +kernel) rfl rfl rfl (Nat.le_of_ble_eq_true rfl) rfl hr83 ?_
  by_cases c82 : v73 = 0
  · rw [if_pos c82] at h
    refine w_if_eq_j (n := 209) (off := 52) (by decide +kernel) (by decide) c82 ?_
    refine w_aload_n (n := 210) (i := 0) (by decide +kernel) rfl rfl ?_
    refine w_aload_n (n := 211) (i := 0) (by decide +kernel) rfl rfl ?_
    refine w_getI (n := 214) hLM72 (by decide +kernel) oO_275 fF_12_353 (at_483) (by decide) rfl ?_
    refine w_aload_n (n := 215) (i := 0) (by decide +kernel) rfl rfl ?_
    refine w_getI (n := 218) hLM72 (by decide +kernel) oO_275 fF_12_356 (at_483) (by decide) rfl ?_
    refine w_isub (n := 219) (by decide +kernel) rfl ?_
    refine w_iconst (n := 220) (v := 4) (x := 4) (by decide +kernel) rfl (by decide) ?_
    by_cases c76 : (ak_I M72 483 19) - (ak_I M72 483 20) ≤ 4
    · rw [if_pos c76] at h
      refine w_icmp_le_j (n := 227) (off := 7) (by decide +kernel) (by decide) c76 ?_
      refine w_iconst (n := 228) (v := 2) (x := 2) (by decide +kernel) rfl (by decide) ?_
      refine w_putI (n := 231) hLM72 (by decide +kernel) oO_275 fF_12_359 (at_483) ⟨by decide, Or.inl (by decide)⟩ rfl ?_
      generalize eM74 : ak_sI M72 483 21 2 = M74
      have hLM74 : ab_lay M74 := by rw [← eM74]; exact ab_lay.sI hLM72
      replace h := h M74 eM74.symm
      refine w_goto (n := 269) (off := 38) (by decide +kernel) (by decide) ?_
      exact h
    · rw [if_neg c76] at h
      refine w_icmp_le_n (n := 223) (off := 7) (by decide +kernel) rfl c76 ?_
      refine w_iconst (n := 224) (v := 5) (x := 5) (by decide +kernel) rfl (by decide) ?_
      refine w_goto (n := 228) (off := 4) (by decide +kernel) (by decide) ?_
      refine w_putI (n := 231) hLM72 (by decide +kernel) oO_275 fF_12_359 (at_483) ⟨by decide, Or.inl (by decide)⟩ rfl ?_
      generalize eM75 : ak_sI M72 483 21 5 = M75
      have hLM75 : ab_lay M75 := by rw [← eM75]; exact ab_lay.sI hLM72
      replace h := h M75 eM75.symm
      refine w_goto (n := 269) (off := 38) (by decide +kernel) (by decide) ?_
      exact h
  · rw [if_neg c82] at h
    refine w_if_eq_n (n := 160) (off := 52) (by decide +kernel) rfl c82 ?_
    refine w_aload_n (n := 161) (i := 0) (by decide +kernel) rfl rfl ?_
    refine w_getI (n := 164) hLM72 (by decide +kernel) oO_275 fF_12_353 (at_483) (by decide) rfl ?_
    refine w_aload_n (n := 165) (i := 0) (by decide +kernel) rfl rfl ?_
    refine w_getI (n := 168) hLM72 (by decide +kernel) oO_275 fF_12_356 (at_483) (by decide) rfl ?_
    refine w_isub (n := 169) (by decide +kernel) rfl ?_
    refine w_iconst (n := 170) (v := 4) (x := 4) (by decide +kernel) rfl (by decide) ?_
    by_cases c81 : 4 ≤ (ak_I M72 483 19) - (ak_I M72 483 20)
    · rw [if_pos c81] at h
      refine w_icmp_ge_j (n := 196) (off := 26) (by decide +kernel) (by decide) c81 ?_
      exact h
    · rw [if_neg c81] at h
      refine w_icmp_ge_n (n := 173) (off := 26) (by decide +kernel) rfl c81 ?_
      refine w_aload_n (n := 174) (i := 0) (by decide +kernel) rfl rfl ?_
      refine w_bipush (n := 176) (v := 10) (x := 10) (by decide +kernel) rfl (by decide) ?_
      refine w_aload_n (n := 177) (i := 0) (by decide +kernel) rfl rfl ?_
      refine w_getI (n := 180) hLM72 (by decide +kernel) oO_275 fF_12_375 (at_483) (by decide) rfl ?_
      refine w_imul (n := 181) (by decide +kernel) rfl ?_
      refine w_aload_n (n := 182) (i := 0) (by decide +kernel) rfl rfl ?_
      refine w_aload_n (n := 183) (i := 0) (by decide +kernel) rfl rfl ?_
      refine w_getI (n := 186) hLM72 (by decide +kernel) oO_275 fF_12_353 (at_483) (by decide) rfl ?_
      obtain ⟨v78, M77, hLM77, hr80, h⟩ := h
      refine w_cV (n := 189) (idx := 346) (cal := 273) (na := 1) (nl := 2) (as := [.int (ak_I M72 483 19)]) (rest := [.int (10 * (ak_I M72 483 23)), .ref 483]) hLM72 (by decide +kernel) (by decide +kernel) (at_483) (by decide +kernel) rfl rfl rfl (Nat.le_of_ble_eq_true rfl) rfl hr80 ?_
      refine w_iadd (n := 190) (by decide +kernel) rfl ?_
      refine w_bipush (n := 192) (v := 48) (x := 48) (by decide +kernel) rfl (by decide) ?_
      refine w_isub (n := 193) (by decide +kernel) rfl ?_
      refine w_putI (n := 196) hLM77 (by decide +kernel) oO_275 fF_12_375 (at_483) ⟨by decide, Or.inl (by decide)⟩ rfl ?_
      generalize eM79 : ak_sI M77 483 23 (((10 * (ak_I M72 483 23)) + v78) - 48) = M79
      have hLM79 : ab_lay M79 := by rw [← eM79]; exact ab_lay.sI hLM77
      replace h := h M79 eM79.symm
      exact h
theorem t_275_196 {X : ak_X} {M : ak_M} {r : ak_O × ak_M} (hL : ab_lay M) (o1 : Option Value) (h : (∀ M85 : ak_M, M85 = ak_sI M 483 19 ((ak_I M 483 19) + 1) → sg X 275 (139, [some (.ref 483), o1], [], []) M85 r)) : sg X 275 (196, [some (.ref 483), o1], [], []) M r := by
  refine w_aload_n (n := 197) (i := 0) (by decide +kernel) rfl rfl ?_
  refine w_dup_ref (n := 198) (by decide +kernel) rfl ?_
  refine w_getI (n := 201) hL (by decide +kernel) oO_275 fF_12_353 (at_483) (by decide) rfl ?_
  refine w_iconst (n := 202) (v := 1) (x := 1) (by decide +kernel) rfl (by decide) ?_
  refine w_iadd (n := 203) (by decide +kernel) rfl ?_
  refine w_putI (n := 206) hL (by decide +kernel) oO_275 fF_12_353 (at_483) ⟨by decide, Or.inl (by decide)⟩ rfl ?_
  generalize eM85 : ak_sI M 483 19 ((ak_I M 483 19) + 1) = M85
  have hLM85 : ab_lay M85 := by rw [← eM85]; exact ab_lay.sI hL
  replace h := h M85 eM85.symm
  refine w_goto (n := 139) (off := (-67)) (by decide +kernel) (by decide) ?_
  exact h
theorem t_275_269 {X : ak_X} {M : ak_M} {r : ak_O × ak_M} (hL : ab_lay M) (o0 : Option Value) (o1 : Option Value) (h : r = (.inl none, M)) : sg X 275 (269, [o0, o1], [], []) M r := by
  subst h
  exact w_vreturn (by decide +kernel) (by decide +kernel)
theorem t_276 {X : ak_X} {M : ak_M} {r : ak_O × ak_M} (hL : ab_lay M) (h : sg X 276 (4, [some (.ref 483), some (.int 0), some (.int 0), none], [], []) M r) : rn X 276 [.ref 483] M r := by
  refine w_rn (nL := 4) (l1 := [some (.ref 483), none, none, none]) (by decide +kernel) rfl rfl ?_
  refine w_iconst (n := 1) (v := 0) (x := 0) (by decide +kernel) rfl (by decide) ?_
  refine w_istore_n (n := 2) (i := 1) (l1' := [some (.ref 483), some (.int 0), none, none]) (l2' := []) (by decide +kernel) rfl (Nat.le_of_ble_eq_true rfl) rfl rfl ?_
  refine w_iconst (n := 3) (v := 0) (x := 0) (by decide +kernel) rfl (by decide) ?_
  refine w_istore_n (n := 4) (i := 2) (l1' := [some (.ref 483), some (.int 0), some (.int 0), none]) (l2' := []) (by decide +kernel) rfl (Nat.le_of_ble_eq_true rfl) rfl rfl ?_
  exact h
theorem t_276_4 {X : ak_X} {M : ak_M} {r : ak_O × ak_M} (hL : ab_lay M) (y1 : Int32) (y2 : Int32) (o3 : Option Value) (h : (∃ (v2 : Int32) (M1 : ak_M), ab_lay M1 ∧ rn X 317 [.ref (1001000 + 21)] M (.inl (some (.int v2)), M1) ∧ (if v2 ≤ y2 then r = (.inl (some (.int ((-1)))), M1) else sg X 276 (16, [some (.ref 483), some (.int y1), some (.int y2), some (.int 0)], [], []) M1 r))) : sg X 276 (4, [some (.ref 483), some (.int y1), some (.int y2), o3], [], []) M r := by
  refine w_iload_n (n := 5) (i := 2) (by decide +kernel) rfl rfl ?_
  refine w_ldcw (n := 8) (idx := 378) (s := 21) (by decide +kernel) oO_276 (by decide +kernel) rfl ?_
  obtain ⟨v2, M1, hLM1, hr4, h⟩ := h
  refine w_cVS (n := 11) (idx := 380) (cal := 317) (na := 0) (nl := 1) (as := []) (rest := [.int y2]) hL (by decide +kernel) (by decide +kernel) (by omega) (by decide +kernel) rfl rfl rfl (Nat.le_of_ble_eq_true rfl) rfl hr4 ?_
  by_cases c3 : v2 ≤ y2
  · rw [if_pos c3] at h
    refine w_icmp_ge_j (n := 132) (off := 121) (by decide +kernel) (by decide) c3 ?_
    refine w_iconst (n := 133) (v := -1) (x := (-1)) (by decide +kernel) rfl (by decide) ?_
    subst h
    exact w_ireturn (by decide +kernel) (w_okI (by decide +kernel))
  · rw [if_neg c3] at h
    refine w_icmp_ge_n (n := 14) (off := 121) (by decide +kernel) rfl c3 ?_
    refine w_iconst (n := 15) (v := 0) (x := 0) (by decide +kernel) rfl (by decide) ?_
    refine w_istore_n (n := 16) (i := 3) (l1' := [some (.ref 483), some (.int y1), some (.int y2), some (.int 0)]) (l2' := []) (by decide +kernel) rfl (Nat.le_of_ble_eq_true rfl) rfl rfl ?_
    exact h
theorem t_276_16 {X : ak_X} {M : ak_M} {r : ak_O × ak_M} (hL : ab_lay M) (y1 : Int32) (y2 : Int32) (y3 : Int32) (h : (∃ (v6 : Int32) (M5 : ak_M), ab_lay M5 ∧ rn X 318 [.ref (1001000 + 21), .int (y2 + y3)] M (.inl (some (.int v6)), M5) ∧ (if v6 = 32 then sg X 276 (73, [some (.ref 483), some (.int y1), some (.int y2), some (.int y3)], [], []) M5 r else (if ak_I M5 483 19 ≤ (ak_I M5 483 20) + y3 then sg X 276 (73, [some (.ref 483), some (.int y1), some (.int y2), some (.int y3)], [], []) M5 r else (∃ i7 : Nat, ab_ix ((ak_I M5 483 20) + y3) i7 700 ∧ (∃ (v9 : Int32) (M8 : ak_M), ab_lay M8 ∧ rn X 318 [.ref (1001000 + 21), .int (y2 + y3)] M5 (.inl (some (.int v9)), M8) ∧ (if ak_I M5 495 i7 = v9 then sg X 276 (16, [some (.ref 483), some (.int y1), some (.int y2), some (.int (y3 + 1))], [], []) M8 r else sg X 276 (73, [some (.ref 483), some (.int y1), some (.int y2), some (.int y3)], [], []) M8 r))))))) : sg X 276 (16, [some (.ref 483), some (.int y1), some (.int y2), some (.int y3)], [], []) M r := by
  refine w_ldcw (n := 19) (idx := 378) (s := 21) (by decide +kernel) oO_276 (by decide +kernel) rfl ?_
  refine w_iload_n (n := 20) (i := 2) (by decide +kernel) rfl rfl ?_
  refine w_iload_n (n := 21) (i := 3) (by decide +kernel) rfl rfl ?_
  refine w_iadd (n := 22) (by decide +kernel) rfl ?_
  obtain ⟨v6, M5, hLM5, hr14, h⟩ := h
  refine w_cVS (n := 25) (idx := 384) (cal := 318) (na := 1) (nl := 2) (as := [.int (y2 + y3)]) (rest := []) hL (by decide +kernel) (by decide +kernel) (by omega) (by decide +kernel) rfl rfl rfl (Nat.le_of_ble_eq_true rfl) rfl hr14 ?_
  refine w_bipush (n := 27) (v := 32) (x := 32) (by decide +kernel) rfl (by decide) ?_
  by_cases c13 : v6 = 32
  · rw [if_pos c13] at h
    refine w_icmp_eq_j (n := 73) (off := 46) (by decide +kernel) (by decide) c13 ?_
    exact h
  · rw [if_neg c13] at h
    refine w_icmp_eq_n (n := 30) (off := 46) (by decide +kernel) rfl c13 ?_
    refine w_aload_n (n := 31) (i := 0) (by decide +kernel) rfl rfl ?_
    refine w_getI (n := 34) hLM5 (by decide +kernel) oO_276 fF_12_356 (at_483) (by decide) rfl ?_
    refine w_iload_n (n := 35) (i := 3) (by decide +kernel) rfl rfl ?_
    refine w_iadd (n := 36) (by decide +kernel) rfl ?_
    refine w_aload_n (n := 37) (i := 0) (by decide +kernel) rfl rfl ?_
    refine w_getI (n := 40) hLM5 (by decide +kernel) oO_276 fF_12_353 (at_483) (by decide) rfl ?_
    by_cases c12 : ak_I M5 483 19 ≤ (ak_I M5 483 20) + y3
    · rw [if_pos c12] at h
      refine w_icmp_ge_j (n := 73) (off := 33) (by decide +kernel) (by decide) c12 ?_
      exact h
    · rw [if_neg c12] at h
      refine w_icmp_ge_n (n := 43) (off := 33) (by decide +kernel) rfl c12 ?_
      refine w_aload_n (n := 44) (i := 0) (by decide +kernel) rfl rfl ?_
      refine w_getR (n := 47) hLM5 (by decide +kernel) oO_276 fF_12_44 (at_483) (by decide) (ar_483_16) rfl ?_
      refine w_aload_n (n := 48) (i := 0) (by decide +kernel) rfl rfl ?_
      refine w_getI (n := 51) hLM5 (by decide +kernel) oO_276 fF_12_356 (at_483) (by decide) rfl ?_
      refine w_iload_n (n := 52) (i := 3) (by decide +kernel) rfl rfl ?_
      refine w_iadd (n := 53) (by decide +kernel) rfl ?_
      obtain ⟨i7, gi7, h⟩ := h
      refine w_bald (n := 54) hLM5 (by decide +kernel) (at_495) (by decide) (an_495) gi7 rfl ?_
      refine w_ldcw (n := 57) (idx := 378) (s := 21) (by decide +kernel) oO_276 (by decide +kernel) rfl ?_
      refine w_iload_n (n := 58) (i := 2) (by decide +kernel) rfl rfl ?_
      refine w_iload_n (n := 59) (i := 3) (by decide +kernel) rfl rfl ?_
      refine w_iadd (n := 60) (by decide +kernel) rfl ?_
      obtain ⟨v9, M8, hLM8, hr11, h⟩ := h
      refine w_cVS (n := 63) (idx := 384) (cal := 318) (na := 1) (nl := 2) (as := [.int (y2 + y3)]) (rest := [.int (ak_I M5 495 i7)]) hLM5 (by decide +kernel) (by decide +kernel) (by omega) (by decide +kernel) rfl rfl rfl (Nat.le_of_ble_eq_true rfl) rfl hr11 ?_
      by_cases c10 : ak_I M5 495 i7 = v9
      · rw [if_pos c10] at h
        refine w_icmp_ne_n (n := 66) (off := 10) (by decide +kernel) rfl c10 ?_
        refine w_iload_n (n := 67) (i := 3) (by decide +kernel) rfl rfl ?_
        refine w_iconst (n := 68) (v := 1) (x := 1) (by decide +kernel) rfl (by decide) ?_
        refine w_iadd (n := 69) (by decide +kernel) rfl ?_
        refine w_istore_n (n := 70) (i := 3) (l1' := [some (.ref 483), some (.int y1), some (.int y2), some (.int (y3 + 1))]) (l2' := []) (by decide +kernel) rfl (Nat.le_of_ble_eq_true rfl) rfl rfl ?_
        refine w_goto (n := 16) (off := (-54)) (by decide +kernel) (by decide) ?_
        exact h
      · rw [if_neg c10] at h
        refine w_icmp_ne_j (n := 73) (off := 10) (by decide +kernel) (by decide) c10 ?_
        exact h
theorem t_276_73 {X : ak_X} {M : ak_M} {r : ak_O × ak_M} (hL : ab_lay M) (y1 : Int32) (y2 : Int32) (y3 : Int32) (h : (∃ (v16 : Int32) (M15 : ak_M), ab_lay M15 ∧ rn X 318 [.ref (1001000 + 21), .int (y2 + y3)] M (.inl (some (.int v16)), M15) ∧ (if v16 = 32 then (if (ak_I M15 483 20) + y3 = ak_I M15 483 19 then r = (.inl (some (.int y1)), M15) else sg X 276 (102, [some (.ref 483), some (.int y1), some (.int y2), some (.int y3)], [], []) M15 r) else sg X 276 (102, [some (.ref 483), some (.int y1), some (.int y2), some (.int y3)], [], []) M15 r))) : sg X 276 (73, [some (.ref 483), some (.int y1), some (.int y2), some (.int y3)], [], []) M r := by
  refine w_ldcw (n := 76) (idx := 378) (s := 21) (by decide +kernel) oO_276 (by decide +kernel) rfl ?_
  refine w_iload_n (n := 77) (i := 2) (by decide +kernel) rfl rfl ?_
  refine w_iload_n (n := 78) (i := 3) (by decide +kernel) rfl rfl ?_
  refine w_iadd (n := 79) (by decide +kernel) rfl ?_
  obtain ⟨v16, M15, hLM15, hr19, h⟩ := h
  refine w_cVS (n := 82) (idx := 384) (cal := 318) (na := 1) (nl := 2) (as := [.int (y2 + y3)]) (rest := []) hL (by decide +kernel) (by decide +kernel) (by omega) (by decide +kernel) rfl rfl rfl (Nat.le_of_ble_eq_true rfl) rfl hr19 ?_
  refine w_bipush (n := 84) (v := 32) (x := 32) (by decide +kernel) rfl (by decide) ?_
  by_cases c18 : v16 = 32
  · rw [if_pos c18] at h
    refine w_icmp_ne_n (n := 87) (off := 18) (by decide +kernel) rfl c18 ?_
    refine w_aload_n (n := 88) (i := 0) (by decide +kernel) rfl rfl ?_
    refine w_getI (n := 91) hLM15 (by decide +kernel) oO_276 fF_12_356 (at_483) (by decide) rfl ?_
    refine w_iload_n (n := 92) (i := 3) (by decide +kernel) rfl rfl ?_
    refine w_iadd (n := 93) (by decide +kernel) rfl ?_
    refine w_aload_n (n := 94) (i := 0) (by decide +kernel) rfl rfl ?_
    refine w_getI (n := 97) hLM15 (by decide +kernel) oO_276 fF_12_353 (at_483) (by decide) rfl ?_
    by_cases c17 : (ak_I M15 483 20) + y3 = ak_I M15 483 19
    · rw [if_pos c17] at h
      refine w_icmp_ne_n (n := 100) (off := 5) (by decide +kernel) rfl c17 ?_
      refine w_iload_n (n := 101) (i := 1) (by decide +kernel) rfl rfl ?_
      subst h
      exact w_ireturn (by decide +kernel) (w_okI (by decide +kernel))
    · rw [if_neg c17] at h
      refine w_icmp_ne_j (n := 102) (off := 5) (by decide +kernel) (by decide) c17 ?_
      exact h
  · rw [if_neg c18] at h
    refine w_icmp_ne_j (n := 102) (off := 18) (by decide +kernel) (by decide) c18 ?_
    exact h
theorem t_276_102 {X : ak_X} {M : ak_M} {r : ak_O × ak_M} (hL : ab_lay M) (y1 : Int32) (y2 : Int32) (o3 : Option Value) (h : (∃ (v21 : Int32) (M20 : ak_M), ab_lay M20 ∧ rn X 318 [.ref (1001000 + 21), .int y2] M (.inl (some (.int v21)), M20) ∧ (if v21 = 32 then sg X 276 (4, [some (.ref 483), some (.int (y1 + 1)), some (.int (y2 + 1)), o3], [], []) M20 r else sg X 276 (102, [some (.ref 483), some (.int y1), some (.int (y2 + 1)), o3], [], []) M20 r))) : sg X 276 (102, [some (.ref 483), some (.int y1), some (.int y2), o3], [], []) M r := by
  refine w_ldcw (n := 105) (idx := 378) (s := 21) (by decide +kernel) oO_276 (by decide +kernel) rfl ?_
  refine w_iload_n (n := 106) (i := 2) (by decide +kernel) rfl rfl ?_
  obtain ⟨v21, M20, hLM20, hr23, h⟩ := h
  refine w_cVS (n := 109) (idx := 384) (cal := 318) (na := 1) (nl := 2) (as := [.int y2]) (rest := []) hL (by decide +kernel) (by decide +kernel) (by omega) (by decide +kernel) rfl rfl rfl (Nat.le_of_ble_eq_true rfl) rfl hr23 ?_
  refine w_bipush (n := 111) (v := 32) (x := 32) (by decide +kernel) rfl (by decide) ?_
  by_cases c22 : v21 = 32
  · rw [if_pos c22] at h
    refine w_icmp_eq_j (n := 121) (off := 10) (by decide +kernel) (by decide) c22 ?_
    refine w_iload_n (n := 122) (i := 2) (by decide +kernel) rfl rfl ?_
    refine w_iconst (n := 123) (v := 1) (x := 1) (by decide +kernel) rfl (by decide) ?_
    refine w_iadd (n := 124) (by decide +kernel) rfl ?_
    refine w_istore_n (n := 125) (i := 2) (l1' := [some (.ref 483), some (.int y1), some (.int (y2 + 1)), o3]) (l2' := []) (by decide +kernel) rfl (Nat.le_of_ble_eq_true rfl) rfl rfl ?_
    refine w_iload_n (n := 126) (i := 1) (by decide +kernel) rfl rfl ?_
    refine w_iconst (n := 127) (v := 1) (x := 1) (by decide +kernel) rfl (by decide) ?_
    refine w_iadd (n := 128) (by decide +kernel) rfl ?_
    refine w_istore_n (n := 129) (i := 1) (l1' := [some (.ref 483), some (.int (y1 + 1)), some (.int (y2 + 1)), o3]) (l2' := []) (by decide +kernel) rfl (Nat.le_of_ble_eq_true rfl) rfl rfl ?_
    refine w_goto (n := 4) (off := (-125)) (by decide +kernel) (by decide) ?_
    exact h
  · rw [if_neg c22] at h
    refine w_icmp_eq_n (n := 114) (off := 10) (by decide +kernel) rfl c22 ?_
    refine w_iload_n (n := 115) (i := 2) (by decide +kernel) rfl rfl ?_
    refine w_iconst (n := 116) (v := 1) (x := 1) (by decide +kernel) rfl (by decide) ?_
    refine w_iadd (n := 117) (by decide +kernel) rfl ?_
    refine w_istore_n (n := 118) (i := 2) (l1' := [some (.ref 483), some (.int y1), some (.int (y2 + 1)), o3]) (l2' := []) (by decide +kernel) rfl (Nat.le_of_ble_eq_true rfl) rfl rfl ?_
    refine w_goto (n := 102) (off := (-16)) (by decide +kernel) (by decide) ?_
    exact h
theorem t_277 {X : ak_X} {M : ak_M} {r : ak_O × ak_M} (hL : ab_lay M) (x1 : Int32) (x2 : Int32) (h : (∃ (v2 : Int32) (M1 : ak_M), ab_lay M1 ∧ rn X 157 [.long (x2.toInt64), .long 1, .long 6] M (.inl (some (.int v2)), M1) ∧ (if v2 = 0 then r = (.inl (some (.int ((-1)))), M1) else sg X 277 (19, [some (.ref 483), some (.int x1), some (.int x2), some (.int 0), some (.int 0), none], [], []) M1 r))) : rn X 277 [.ref 483, .int x1, .int x2] M r := by
  refine w_rn (nL := 6) (l1 := [some (.ref 483), some (.int x1), some (.int x2), none, none, none]) (by decide +kernel) rfl rfl ?_
  refine w_iload_n (n := 1) (i := 2) (by decide +kernel) rfl rfl ?_
  refine w_i2l (n := 2) (by decide +kernel) rfl ?_
  refine w_lconst (n := 3) (v := 1) (x := 1) (by decide +kernel) rfl (by decide) ?_
  refine w_ldc2 (n := 6) (idx := 388) (v := 6) (by decide +kernel) oO_277 (by decide +kernel) rfl ?_
  obtain ⟨v2, M1, hLM1, hr4, h⟩ := h
  refine w_cS (n := 9) (idx := 84) (cal := 157) (na := 3) (nl := 6) (as := [.long (x2.toInt64), .long 1, .long 6]) (rest := []) (by decide +kernel) (by decide +kernel) rfl rfl rfl (Nat.le_of_ble_eq_true rfl) rfl hr4 ?_
  by_cases c3 : v2 = 0
  · rw [if_pos c3] at h
    refine w_if_ne_n (n := 12) (off := 5) (by decide +kernel) rfl c3 ?_
    refine w_iconst (n := 13) (v := -1) (x := (-1)) (by decide +kernel) rfl (by decide) ?_
    subst h
    exact w_ireturn (by decide +kernel) (w_okI (by decide +kernel))
  · rw [if_neg c3] at h
    refine w_if_ne_j (n := 14) (off := 5) (by decide +kernel) (by decide) c3 ?_
    refine w_iconst (n := 15) (v := 0) (x := 0) (by decide +kernel) rfl (by decide) ?_
    refine w_istore_n (n := 16) (i := 3) (l1' := [some (.ref 483), some (.int x1), some (.int x2), some (.int 0), none, none]) (l2' := []) (by decide +kernel) rfl (Nat.le_of_ble_eq_true rfl) rfl rfl ?_
    refine w_iconst (n := 17) (v := 0) (x := 0) (by decide +kernel) rfl (by decide) ?_
    refine w_istore (n := 19) (i := 4) (l1' := [some (.ref 483), some (.int x1), some (.int x2), some (.int 0), some (.int 0), none]) (l2' := []) (by decide +kernel) rfl (Nat.le_of_ble_eq_true rfl) rfl rfl ?_
    exact h
theorem t_277_19 {X : ak_X} {M : ak_M} {r : ak_O × ak_M} (hL : ab_lay M) (x1 : Int32) (x2 : Int32) (y3 : Int32) (y4 : Int32) (o5 : Option Value) (h : (if x2 ≤ y4 then r = (.inl (some (.int y3)), M) else (∃ i5 : Nat, ab_ix (x1 + y4) i5 700 ∧ (∃ (v7 : Int32) (M6 : ak_M), ab_lay M6 ∧ rn X 157 [.long ((ak_I M 495 i5).toInt64), .long 97, .long 122] M (.inl (some (.int v7)), M6) ∧ (if v7 = 0 then r = (.inl (some (.int ((-1)))), M6) else (∀ z8 : Int32, z8 = (((27 * y3) + (ak_I M 495 i5)) - 97) + 1 → sg X 277 (19, [some (.ref 483), some (.int x1), some (.int x2), some (.int z8), some (.int (y4 + 1)), some (.int (ak_I M 495 i5))], [], []) M6 r)))))) : sg X 277 (19, [some (.ref 483), some (.int x1), some (.int x2), some (.int y3), some (.int y4), o5], [], []) M r := by
  refine w_iload (n := 21) (i := 4) (by decide +kernel) rfl rfl ?_
  refine w_iload_n (n := 22) (i := 2) (by decide +kernel) rfl rfl ?_
  by_cases c11 : x2 ≤ y4
  · rw [if_pos c11] at h
    refine w_icmp_ge_j (n := 72) (off := 50) (by decide +kernel) (by decide) c11 ?_
    refine w_iload_n (n := 73) (i := 3) (by decide +kernel) rfl rfl ?_
    subst h
    exact w_ireturn (by decide +kernel) (w_okI (by decide +kernel))
  · rw [if_neg c11] at h
    refine w_icmp_ge_n (n := 25) (off := 50) (by decide +kernel) rfl c11 ?_
    refine w_aload_n (n := 26) (i := 0) (by decide +kernel) rfl rfl ?_
    refine w_getR (n := 29) hL (by decide +kernel) oO_277 fF_12_44 (at_483) (by decide) (ar_483_16) rfl ?_
    refine w_iload_n (n := 30) (i := 1) (by decide +kernel) rfl rfl ?_
    refine w_iload (n := 32) (i := 4) (by decide +kernel) rfl rfl ?_
    refine w_iadd (n := 33) (by decide +kernel) rfl ?_
    obtain ⟨i5, gi5, h⟩ := h
    refine w_bald (n := 34) hL (by decide +kernel) (at_495) (by decide) (an_495) gi5 rfl ?_
    refine w_istore (n := 36) (i := 5) (l1' := [some (.ref 483), some (.int x1), some (.int x2), some (.int y3), some (.int y4), some (.int (ak_I M 495 i5))]) (l2' := []) (by decide +kernel) rfl (Nat.le_of_ble_eq_true rfl) rfl rfl ?_
    refine w_iload (n := 38) (i := 5) (by decide +kernel) rfl rfl ?_
    refine w_i2l (n := 39) (by decide +kernel) rfl ?_
    refine w_ldc2 (n := 42) (idx := 349) (v := 97) (by decide +kernel) oO_277 (by decide +kernel) rfl ?_
    refine w_ldc2 (n := 45) (idx := 351) (v := 122) (by decide +kernel) oO_277 (by decide +kernel) rfl ?_
    obtain ⟨v7, M6, hLM6, hr10, h⟩ := h
    refine w_cS (n := 48) (idx := 84) (cal := 157) (na := 3) (nl := 6) (as := [.long ((ak_I M 495 i5).toInt64), .long 97, .long 122]) (rest := []) (by decide +kernel) (by decide +kernel) rfl rfl rfl (Nat.le_of_ble_eq_true rfl) rfl hr10 ?_
    by_cases c9 : v7 = 0
    · rw [if_pos c9] at h
      refine w_if_ne_n (n := 51) (off := 5) (by decide +kernel) rfl c9 ?_
      refine w_iconst (n := 52) (v := -1) (x := (-1)) (by decide +kernel) rfl (by decide) ?_
      subst h
      exact w_ireturn (by decide +kernel) (w_okI (by decide +kernel))
    · rw [if_neg c9] at h
      refine w_if_ne_j (n := 53) (off := 5) (by decide +kernel) (by decide) c9 ?_
      refine w_bipush (n := 55) (v := 27) (x := 27) (by decide +kernel) rfl (by decide) ?_
      refine w_iload_n (n := 56) (i := 3) (by decide +kernel) rfl rfl ?_
      refine w_imul (n := 57) (by decide +kernel) rfl ?_
      refine w_iload (n := 59) (i := 5) (by decide +kernel) rfl rfl ?_
      refine w_iadd (n := 60) (by decide +kernel) rfl ?_
      refine w_bipush (n := 62) (v := 97) (x := 97) (by decide +kernel) rfl (by decide) ?_
      refine w_isub (n := 63) (by decide +kernel) rfl ?_
      refine w_iconst (n := 64) (v := 1) (x := 1) (by decide +kernel) rfl (by decide) ?_
      refine w_iadd (n := 65) (by decide +kernel) rfl ?_
      refine w_istore_n (n := 66) (i := 3) (l1' := [some (.ref 483), some (.int x1), some (.int x2), some (.int ((((27 * y3) + (ak_I M 495 i5)) - 97) + 1)), some (.int y4), some (.int (ak_I M 495 i5))]) (l2' := []) (by decide +kernel) rfl (Nat.le_of_ble_eq_true rfl) rfl rfl ?_
      generalize ez8 : (((27 * y3) + (ak_I M 495 i5)) - 97) + 1 = z8
      replace h := h z8 ez8.symm
      refine w_iinc (n := 69) (i := 4) (v := 1) (y := y4 + 1) (l1' := [some (.ref 483), some (.int x1), some (.int x2), some (.int z8), some (.int (y4 + 1)), some (.int (ak_I M 495 i5))]) (l2' := []) (by decide +kernel) rfl rfl rfl rfl rfl ?_
      refine w_goto (n := 19) (off := (-50)) (by decide +kernel) (by decide) ?_
      exact h
theorem t_278 {X : ak_X} {M : ak_M} {r : ak_O × ak_M} (hL : ab_lay M) (x1 : Int32) (h : sg X 278 (2, [some (.ref 483), some (.int x1), some (.int 0)], [], []) M r) : rn X 278 [.ref 483, .int x1] M r := by
  refine w_rn (nL := 3) (l1 := [some (.ref 483), some (.int x1), none]) (by decide +kernel) rfl rfl ?_
  refine w_iconst (n := 1) (v := 0) (x := 0) (by decide +kernel) rfl (by decide) ?_
  refine w_istore_n (n := 2) (i := 2) (l1' := [some (.ref 483), some (.int x1), some (.int 0)]) (l2' := []) (by decide +kernel) rfl (Nat.le_of_ble_eq_true rfl) rfl rfl ?_
  exact h
theorem t_278_2 {X : ak_X} {M : ak_M} {r : ak_O × ak_M} (hL : ab_lay M) (x1 : Int32) (y2 : Int32) (h : (∃ (v2 : Int32) (M1 : ak_M), ab_lay M1 ∧ rn X 168 [.ref 483] M (.inl (some (.int v2)), M1) ∧ (if v2 ≤ y2 then r = (.inl (some (.int ((-1)))), M1) else (∃ (v4 : Int32) (M3 : ak_M), ab_lay M3 ∧ rn X 171 [.ref 483, .int y2, .int 14] M1 (.inl (some (.int v4)), M3) ∧ (if v4 = x1 then r = (.inl (some (.int y2)), M3) else sg X 278 (2, [some (.ref 483), some (.int x1), some (.int (y2 + 1))], [], []) M3 r))))) : sg X 278 (2, [some (.ref 483), some (.int x1), some (.int y2)], [], []) M r := by
  refine w_iload_n (n := 3) (i := 2) (by decide +kernel) rfl rfl ?_
  refine w_aload_n (n := 4) (i := 0) (by decide +kernel) rfl rfl ?_
  obtain ⟨v2, M1, hLM1, hr8, h⟩ := h
  refine w_cV (n := 7) (idx := 80) (cal := 168) (na := 0) (nl := 1) (as := []) (rest := [.int y2]) hL (by decide +kernel) (by decide +kernel) (at_483) (by decide +kernel) rfl rfl rfl (Nat.le_of_ble_eq_true rfl) rfl hr8 ?_
  by_cases c7 : v2 ≤ y2
  · rw [if_pos c7] at h
    refine w_icmp_ge_j (n := 29) (off := 22) (by decide +kernel) (by decide) c7 ?_
    refine w_iconst (n := 30) (v := -1) (x := (-1)) (by decide +kernel) rfl (by decide) ?_
    subst h
    exact w_ireturn (by decide +kernel) (w_okI (by decide +kernel))
  · rw [if_neg c7] at h
    refine w_icmp_ge_n (n := 10) (off := 22) (by decide +kernel) rfl c7 ?_
    refine w_aload_n (n := 11) (i := 0) (by decide +kernel) rfl rfl ?_
    refine w_iload_n (n := 12) (i := 2) (by decide +kernel) rfl rfl ?_
    refine w_bipush (n := 14) (v := 14) (x := 14) (by decide +kernel) rfl (by decide) ?_
    obtain ⟨v4, M3, hLM3, hr6, h⟩ := h
    refine w_cV (n := 17) (idx := 92) (cal := 171) (na := 2) (nl := 3) (as := [.int y2, .int 14]) (rest := []) hLM1 (by decide +kernel) (by decide +kernel) (at_483) (by decide +kernel) rfl rfl rfl (Nat.le_of_ble_eq_true rfl) rfl hr6 ?_
    refine w_iload_n (n := 18) (i := 1) (by decide +kernel) rfl rfl ?_
    by_cases c5 : v4 = x1
    · rw [if_pos c5] at h
      refine w_icmp_ne_n (n := 21) (off := 5) (by decide +kernel) rfl c5 ?_
      refine w_iload_n (n := 22) (i := 2) (by decide +kernel) rfl rfl ?_
      subst h
      exact w_ireturn (by decide +kernel) (w_okI (by decide +kernel))
    · rw [if_neg c5] at h
      refine w_icmp_ne_j (n := 23) (off := 5) (by decide +kernel) (by decide) c5 ?_
      refine w_iinc (n := 26) (i := 2) (v := 1) (y := y2 + 1) (l1' := [some (.ref 483), some (.int x1), some (.int (y2 + 1))]) (l2' := []) (by decide +kernel) rfl rfl rfl rfl rfl ?_
      refine w_goto (n := 2) (off := (-24)) (by decide +kernel) (by decide) ?_
      exact h
theorem t_279 {X : ak_X} {M : ak_M} {r : ak_O × ak_M} (hL : ab_lay M) (h : (∀ M1 : ak_M, M1 = ak_sI M 483 0 0 → (∃ (v3 : Int32) (M2 : ak_M), ab_lay M2 ∧ rn X 277 [.ref 483, .int 0, .int (ak_I M1 483 17)] M1 (.inl (some (.int v3)), M2) ∧ (∀ M4 : ak_M, M4 = ak_sI M2 483 17 0 → (if v3 = (-1) then r = (.inl (some (.int ((-1)))), M4) else (∃ (v6 : Int32) (M5 : ak_M), ab_lay M5 ∧ rn X 278 [.ref 483, .int v3] M4 (.inl (some (.int v6)), M5) ∧ r = (.inl (some (.int v6)), M5))))))) : rn X 279 [.ref 483] M r := by
  refine w_rn (nL := 2) (l1 := [some (.ref 483), none]) (by decide +kernel) rfl rfl ?_
  refine w_aload_n (n := 1) (i := 0) (by decide +kernel) rfl rfl ?_
  refine w_iconst (n := 2) (v := 0) (x := 0) (by decide +kernel) rfl (by decide) ?_
  refine w_putI (n := 5) hL (by decide +kernel) oO_279 fF_12_62 (at_483) ⟨by decide, Or.inl (by decide)⟩ rfl ?_
  generalize eM1 : ak_sI M 483 0 0 = M1
  have hLM1 : ab_lay M1 := by rw [← eM1]; exact ab_lay.sI hL
  replace h := h M1 eM1.symm
  refine w_aload_n (n := 6) (i := 0) (by decide +kernel) rfl rfl ?_
  refine w_iconst (n := 7) (v := 0) (x := 0) (by decide +kernel) rfl (by decide) ?_
  refine w_aload_n (n := 8) (i := 0) (by decide +kernel) rfl rfl ?_
  refine w_getI (n := 11) hLM1 (by decide +kernel) oO_279 fF_12_340 (at_483) (by decide) rfl ?_
  obtain ⟨v3, M2, hLM2, hr9, h⟩ := h
  refine w_cV (n := 14) (idx := 390) (cal := 277) (na := 2) (nl := 3) (as := [.int 0, .int (ak_I M1 483 17)]) (rest := []) hLM1 (by decide +kernel) (by decide +kernel) (at_483) (by decide +kernel) rfl rfl rfl (Nat.le_of_ble_eq_true rfl) rfl hr9 ?_
  refine w_istore_n (n := 15) (i := 1) (l1' := [some (.ref 483), some (.int v3)]) (l2' := []) (by decide +kernel) rfl (Nat.le_of_ble_eq_true rfl) rfl rfl ?_
  refine w_aload_n (n := 16) (i := 0) (by decide +kernel) rfl rfl ?_
  refine w_iconst (n := 17) (v := 0) (x := 0) (by decide +kernel) rfl (by decide) ?_
  refine w_putI (n := 20) hLM2 (by decide +kernel) oO_279 fF_12_340 (at_483) ⟨by decide, Or.inl (by decide)⟩ rfl ?_
  generalize eM4 : ak_sI M2 483 17 0 = M4
  have hLM4 : ab_lay M4 := by rw [← eM4]; exact ab_lay.sI hLM2
  replace h := h M4 eM4.symm
  refine w_iload_n (n := 21) (i := 1) (by decide +kernel) rfl rfl ?_
  refine w_iconst (n := 22) (v := -1) (x := (-1)) (by decide +kernel) rfl (by decide) ?_
  by_cases c8 : v3 = (-1)
  · rw [if_pos c8] at h
    refine w_icmp_ne_n (n := 25) (off := 7) (by decide +kernel) rfl c8 ?_
    refine w_iconst (n := 26) (v := -1) (x := (-1)) (by decide +kernel) rfl (by decide) ?_
    refine w_goto (n := 34) (off := 8) (by decide +kernel) (by decide) ?_
    subst h
    exact w_ireturn (by decide +kernel) (w_okI (by decide +kernel))
  · rw [if_neg c8] at h
    refine w_icmp_ne_j (n := 29) (off := 7) (by decide +kernel) (by decide) c8 ?_
    refine w_aload_n (n := 30) (i := 0) (by decide +kernel) rfl rfl ?_
    refine w_iload_n (n := 31) (i := 1) (by decide +kernel) rfl rfl ?_
    obtain ⟨v6, M5, hLM5, hr7, h⟩ := h
    refine w_cV (n := 34) (idx := 393) (cal := 278) (na := 1) (nl := 2) (as := [.int v3]) (rest := []) hLM4 (by decide +kernel) (by decide +kernel) (at_483) (by decide +kernel) rfl rfl rfl (Nat.le_of_ble_eq_true rfl) rfl hr7 ?_
    subst h
    exact w_ireturn (by decide +kernel) (w_okI (by decide +kernel))
theorem t_280 {X : ak_X} {M : ak_M} {r : ak_O × ak_M} (hL : ab_lay M) (h : (if ak_I M 483 24 = 0 then r = (.inl (some (.int 1)), M) else r = (.inl (some (.int 0)), M))) : rn X 280 [.ref 483] M r := by
  refine w_rn (nL := 1) (l1 := [some (.ref 483)]) (by decide +kernel) rfl rfl ?_
  refine w_aload_n (n := 1) (i := 0) (by decide +kernel) rfl rfl ?_
  refine w_getI (n := 4) hL (by decide +kernel) oO_280 fF_12_396 (at_483) (by decide) rfl ?_
  by_cases c1 : ak_I M 483 24 = 0
  · rw [if_pos c1] at h
    refine w_if_ne_n (n := 7) (off := 7) (by decide +kernel) rfl c1 ?_
    refine w_iconst (n := 8) (v := 1) (x := 1) (by decide +kernel) rfl (by decide) ?_
    refine w_goto (n := 12) (off := 4) (by decide +kernel) (by decide) ?_
    subst h
    exact w_ireturn (by decide +kernel) (by decide +kernel)
  · rw [if_neg c1] at h
    refine w_if_ne_j (n := 11) (off := 7) (by decide +kernel) (by decide) c1 ?_
    refine w_iconst (n := 12) (v := 0) (x := 0) (by decide +kernel) rfl (by decide) ?_
    subst h
    exact w_ireturn (by decide +kernel) (by decide +kernel)
theorem t_281 {X : ak_X} {M : ak_M} {r : ak_O × ak_M} (hL : ab_lay M) (x1 : Int32) (x2 : Int32) (h : (if ak_I M 483 24 = 0 then (if x1 = 0 then (∀ M1 : ak_M, M1 = ak_sI M 483 24 x2 → (∀ M2 : ak_M, M2 = ak_sI M1 483 25 (ak_I M1 483 20) → r = (.inl none, M2))) else r = (.inl none, M)) else r = (.inl none, M))) : rn X 281 [.ref 483, .int x1, .int x2] M r := by
  refine w_rn (nL := 3) (l1 := [some (.ref 483), some (.int x1), some (.int x2)]) (by decide +kernel) rfl rfl ?_
  refine w_aload_n (n := 1) (i := 0) (by decide +kernel) rfl rfl ?_
  refine w_getI (n := 4) hL (by decide +kernel) oO_281 fF_12_396 (at_483) (by decide) rfl ?_
  by_cases c4 : ak_I M 483 24 = 0
  · rw [if_pos c4] at h
    refine w_if_ne_n (n := 7) (off := 7) (by decide +kernel) rfl c4 ?_
    refine w_iload_n (n := 8) (i := 1) (by decide +kernel) rfl rfl ?_
    by_cases c3 : x1 = 0
    · rw [if_pos c3] at h
      refine w_if_eq_j (n := 12) (off := 4) (by decide +kernel) (by decide) c3 ?_
      refine w_aload_n (n := 13) (i := 0) (by decide +kernel) rfl rfl ?_
      refine w_iload_n (n := 14) (i := 2) (by decide +kernel) rfl rfl ?_
      refine w_putI (n := 17) hL (by decide +kernel) oO_281 fF_12_396 (at_483) ⟨by decide, Or.inl (by decide)⟩ rfl ?_
      generalize eM1 : ak_sI M 483 24 x2 = M1
      have hLM1 : ab_lay M1 := by rw [← eM1]; exact ab_lay.sI hL
      replace h := h M1 eM1.symm
      refine w_aload_n (n := 18) (i := 0) (by decide +kernel) rfl rfl ?_
      refine w_aload_n (n := 19) (i := 0) (by decide +kernel) rfl rfl ?_
      refine w_getI (n := 22) hLM1 (by decide +kernel) oO_281 fF_12_356 (at_483) (by decide) rfl ?_
      refine w_putI (n := 25) hLM1 (by decide +kernel) oO_281 fF_12_48 (at_483) ⟨by decide, Or.inl (by decide)⟩ rfl ?_
      generalize eM2 : ak_sI M1 483 25 (ak_I M1 483 20) = M2
      have hLM2 : ab_lay M2 := by rw [← eM2]; exact ab_lay.sI hLM1
      replace h := h M2 eM2.symm
      subst h
      exact w_vreturn (by decide +kernel) (by decide +kernel)
    · rw [if_neg c3] at h
      refine w_if_eq_n (n := 11) (off := 4) (by decide +kernel) rfl c3 ?_
      subst h
      exact w_vreturn (by decide +kernel) (by decide +kernel)
  · rw [if_neg c4] at h
    refine w_if_ne_j (n := 11) (off := 7) (by decide +kernel) (by decide) c4 ?_
    subst h
    exact w_vreturn (by decide +kernel) (by decide +kernel)
theorem t_282 {X : ak_X} {M : ak_M} {r : ak_O × ak_M} (hL : ab_lay M) (h : (∃ (v2 : Int32) (M1 : ak_M), ab_lay M1 ∧ rn X 280 [.ref 483] M (.inl (some (.int v2)), M1) ∧ (if v2 = 0 then r = (.inl none, M1) else (∃ (M3 : ak_M), ab_lay M3 ∧ rn X 275 [.ref 483] M1 (.inl (none), M3) ∧ r = (.inl none, M3))))) : rn X 282 [.ref 483] M r := by
  refine w_rn (nL := 1) (l1 := [some (.ref 483)]) (by decide +kernel) rfl rfl ?_
  refine w_aload_n (n := 1) (i := 0) (by decide +kernel) rfl rfl ?_
  obtain ⟨v2, M1, hLM1, hr6, h⟩ := h
  refine w_cV (n := 4) (idx := 399) (cal := 280) (na := 0) (nl := 1) (as := []) (rest := []) hL (by decide +kernel) (by decide +kernel) (at_483) (by decide +kernel) rfl rfl rfl (Nat.le_of_ble_eq_true rfl) rfl hr6 ?_
  by_cases c5 : v2 = 0
  · rw [if_pos c5] at h
    refine w_if_eq_j (n := 11) (off := 7) (by decide +kernel) (by decide) c5 ?_
    subst h
    exact w_vreturn (by decide +kernel) (by decide +kernel)
  · rw [if_neg c5] at h
    refine w_if_eq_n (n := 7) (off := 7) (by decide +kernel) rfl c5 ?_
    refine w_aload_n (n := 8) (i := 0) (by decide +kernel) rfl rfl ?_
    obtain ⟨M3, hLM3, hr4, h⟩ := h
    refine w_cV (n := 11) (idx := 403) (cal := 275) (na := 0) (nl := 1) (as := []) (rest := []) hLM1 (by decide +kernel) (by decide +kernel) (at_483) (by decide +kernel) rfl rfl rfl (Nat.le_of_ble_eq_true rfl) rfl hr4 ?_
    subst h
    exact w_vreturn (by decide +kernel) (by decide +kernel)
theorem t_283 {X : ak_X} {M : ak_M} {r : ak_O × ak_M} (hL : ab_lay M) (x1 : Int32) (h : (∃ (v2 : Int32) (M1 : ak_M), ab_lay M1 ∧ rn X 280 [.ref 483] M (.inl (some (.int v2)), M1) ∧ (if v2 = 0 then r = (.inl (some (.int 0)), M1) else (if ak_I M1 483 21 = 1 then (if ak_I M1 483 22 = x1 then r = (.inl (some (.int 1)), M1) else r = (.inl (some (.int 0)), M1)) else r = (.inl (some (.int 0)), M1))))) : rn X 283 [.ref 483, .int x1] M r := by
  refine w_rn (nL := 2) (l1 := [some (.ref 483), some (.int x1)]) (by decide +kernel) rfl rfl ?_
  refine w_aload_n (n := 1) (i := 0) (by decide +kernel) rfl rfl ?_
  obtain ⟨v2, M1, hLM1, hr6, h⟩ := h
  refine w_cV (n := 4) (idx := 399) (cal := 280) (na := 0) (nl := 1) (as := []) (rest := []) hL (by decide +kernel) (by decide +kernel) (at_483) (by decide +kernel) rfl rfl rfl (Nat.le_of_ble_eq_true rfl) rfl hr6 ?_
  by_cases c5 : v2 = 0
  · rw [if_pos c5] at h
    refine w_if_eq_j (n := 27) (off := 23) (by decide +kernel) (by decide) c5 ?_
    refine w_iconst (n := 28) (v := 0) (x := 0) (by decide +kernel) rfl (by decide) ?_
    subst h
    exact w_ireturn (by decide +kernel) (by decide +kernel)
  · rw [if_neg c5] at h
    refine w_if_eq_n (n := 7) (off := 23) (by decide +kernel) rfl c5 ?_
    refine w_aload_n (n := 8) (i := 0) (by decide +kernel) rfl rfl ?_
    refine w_getI (n := 11) hLM1 (by decide +kernel) oO_283 fF_12_359 (at_483) (by decide) rfl ?_
    refine w_iconst (n := 12) (v := 1) (x := 1) (by decide +kernel) rfl (by decide) ?_
    by_cases c4 : ak_I M1 483 21 = 1
    · rw [if_pos c4] at h
      refine w_icmp_ne_n (n := 15) (off := 15) (by decide +kernel) rfl c4 ?_
      refine w_aload_n (n := 16) (i := 0) (by decide +kernel) rfl rfl ?_
      refine w_getI (n := 19) hLM1 (by decide +kernel) oO_283 fF_12_368 (at_483) (by decide) rfl ?_
      refine w_iload_n (n := 20) (i := 1) (by decide +kernel) rfl rfl ?_
      by_cases c3 : ak_I M1 483 22 = x1
      · rw [if_pos c3] at h
        refine w_icmp_ne_n (n := 23) (off := 7) (by decide +kernel) rfl c3 ?_
        refine w_iconst (n := 24) (v := 1) (x := 1) (by decide +kernel) rfl (by decide) ?_
        refine w_goto (n := 28) (off := 4) (by decide +kernel) (by decide) ?_
        subst h
        exact w_ireturn (by decide +kernel) (by decide +kernel)
      · rw [if_neg c3] at h
        refine w_icmp_ne_j (n := 27) (off := 7) (by decide +kernel) (by decide) c3 ?_
        refine w_iconst (n := 28) (v := 0) (x := 0) (by decide +kernel) rfl (by decide) ?_
        subst h
        exact w_ireturn (by decide +kernel) (by decide +kernel)
    · rw [if_neg c4] at h
      refine w_icmp_ne_j (n := 27) (off := 15) (by decide +kernel) (by decide) c4 ?_
      refine w_iconst (n := 28) (v := 0) (x := 0) (by decide +kernel) rfl (by decide) ?_
      subst h
      exact w_ireturn (by decide +kernel) (by decide +kernel)
theorem t_284 {X : ak_X} {M : ak_M} {r : ak_O × ak_M} (hL : ab_lay M) (x1 : Int32) (x2 : Int32) (h : (if ak_I M 483 21 = 2 then (∃ (M16 : ak_M), ab_lay M16 ∧ rn X 281 [.ref 483, .int 1, .int 1] M (.inl (none), M16) ∧ (∃ (v18 : Int32) (M17 : ak_M), ab_lay M17 ∧ rn X 280 [.ref 483] M16 (.inl (some (.int v18)), M17) ∧ (if v18 = 0 then (∃ (M19 : ak_M), ab_lay M19 ∧ rn X 282 [.ref 483] M17 (.inl (none), M19) ∧ r = (.inl (some (.int (ak_I M17 483 23))), M19)) else (∃ (v22 : Int32) (M21 : ak_M), ab_lay M21 ∧ rn X 157 [.long ((ak_I M17 483 23).toInt64), .long (x1.toInt64), .long (x2.toInt64)] M17 (.inl (some (.int v22)), M21) ∧ (∃ (M23 : ak_M), ab_lay M23 ∧ rn X 281 [.ref 483, .int v22, .int 2] M21 (.inl (none), M23) ∧ (∃ (M24 : ak_M), ab_lay M24 ∧ rn X 282 [.ref 483] M23 (.inl (none), M24) ∧ r = (.inl (some (.int (ak_I M23 483 23))), M24))))))) else (∃ (M1 : ak_M), ab_lay M1 ∧ rn X 281 [.ref 483, .int 0, .int 1] M (.inl (none), M1) ∧ (∃ (v3 : Int32) (M2 : ak_M), ab_lay M2 ∧ rn X 280 [.ref 483] M1 (.inl (some (.int v3)), M2) ∧ (if v3 = 0 then (∃ (M4 : ak_M), ab_lay M4 ∧ rn X 282 [.ref 483] M2 (.inl (none), M4) ∧ r = (.inl (some (.int (ak_I M2 483 23))), M4)) else (∃ (v7 : Int32) (M6 : ak_M), ab_lay M6 ∧ rn X 157 [.long ((ak_I M2 483 23).toInt64), .long (x1.toInt64), .long (x2.toInt64)] M2 (.inl (some (.int v7)), M6) ∧ (∃ (M8 : ak_M), ab_lay M8 ∧ rn X 281 [.ref 483, .int v7, .int 2] M6 (.inl (none), M8) ∧ (∃ (M9 : ak_M), ab_lay M9 ∧ rn X 282 [.ref 483] M8 (.inl (none), M9) ∧ r = (.inl (some (.int (ak_I M8 483 23))), M9))))))))) : rn X 284 [.ref 483, .int x1, .int x2] M r := by
  refine w_rn (nL := 4) (l1 := [some (.ref 483), some (.int x1), some (.int x2), none]) (by decide +kernel) rfl rfl ?_
  refine w_aload_n (n := 1) (i := 0) (by decide +kernel) rfl rfl ?_
  refine w_aload_n (n := 2) (i := 0) (by decide +kernel) rfl rfl ?_
  refine w_getI (n := 5) hL (by decide +kernel) oO_284 fF_12_359 (at_483) (by decide) rfl ?_
  refine w_iconst (n := 6) (v := 2) (x := 2) (by decide +kernel) rfl (by decide) ?_
  by_cases c31 : ak_I M 483 21 = 2
  · rw [if_pos c31] at h
    refine w_icmp_ne_n (n := 9) (off := 7) (by decide +kernel) rfl c31 ?_
    refine w_iconst (n := 10) (v := 1) (x := 1) (by decide +kernel) rfl (by decide) ?_
    refine w_goto (n := 14) (off := 4) (by decide +kernel) (by decide) ?_
    refine w_iconst (n := 15) (v := 1) (x := 1) (by decide +kernel) rfl (by decide) ?_
    obtain ⟨M16, hLM16, hr30, h⟩ := h
    refine w_cV (n := 18) (idx := 406) (cal := 281) (na := 2) (nl := 3) (as := [.int 1, .int 1]) (rest := []) hL (by decide +kernel) (by decide +kernel) (at_483) (by decide +kernel) rfl rfl rfl (Nat.le_of_ble_eq_true rfl) rfl hr30 ?_
    refine w_aload_n (n := 19) (i := 0) (by decide +kernel) rfl rfl ?_
    obtain ⟨v18, M17, hLM17, hr29, h⟩ := h
    refine w_cV (n := 22) (idx := 399) (cal := 280) (na := 0) (nl := 1) (as := []) (rest := []) hLM16 (by decide +kernel) (by decide +kernel) (at_483) (by decide +kernel) rfl rfl rfl (Nat.le_of_ble_eq_true rfl) rfl hr29 ?_
    by_cases c28 : v18 = 0
    · rw [if_pos c28] at h
      refine w_if_eq_j (n := 42) (off := 20) (by decide +kernel) (by decide) c28 ?_
      refine w_aload_n (n := 43) (i := 0) (by decide +kernel) rfl rfl ?_
      refine w_getI (n := 46) hLM17 (by decide +kernel) oO_284 fF_12_375 (at_483) (by decide) rfl ?_
      refine w_istore_n (n := 47) (i := 3) (l1' := [some (.ref 483), some (.int x1), some (.int x2), some (.int (ak_I M17 483 23))]) (l2' := []) (by decide +kernel) rfl (Nat.le_of_ble_eq_true rfl) rfl rfl ?_
      refine w_aload_n (n := 48) (i := 0) (by decide +kernel) rfl rfl ?_
      obtain ⟨M19, hLM19, hr20, h⟩ := h
      refine w_cV (n := 51) (idx := 410) (cal := 282) (na := 0) (nl := 1) (as := []) (rest := []) hLM17 (by decide +kernel) (by decide +kernel) (at_483) (by decide +kernel) rfl rfl rfl (Nat.le_of_ble_eq_true rfl) rfl hr20 ?_
      refine w_iload_n (n := 52) (i := 3) (by decide +kernel) rfl rfl ?_
      subst h
      exact w_ireturn (by decide +kernel) (w_okI (by decide +kernel))
    · rw [if_neg c28] at h
      refine w_if_eq_n (n := 25) (off := 20) (by decide +kernel) rfl c28 ?_
      refine w_aload_n (n := 26) (i := 0) (by decide +kernel) rfl rfl ?_
      refine w_aload_n (n := 27) (i := 0) (by decide +kernel) rfl rfl ?_
      refine w_getI (n := 30) hLM17 (by decide +kernel) oO_284 fF_12_375 (at_483) (by decide) rfl ?_
      refine w_i2l (n := 31) (by decide +kernel) rfl ?_
      refine w_iload_n (n := 32) (i := 1) (by decide +kernel) rfl rfl ?_
      refine w_i2l (n := 33) (by decide +kernel) rfl ?_
      refine w_iload_n (n := 34) (i := 2) (by decide +kernel) rfl rfl ?_
      refine w_i2l (n := 35) (by decide +kernel) rfl ?_
      obtain ⟨v22, M21, hLM21, hr27, h⟩ := h
      refine w_cS (n := 38) (idx := 84) (cal := 157) (na := 3) (nl := 6) (as := [.long ((ak_I M17 483 23).toInt64), .long (x1.toInt64), .long (x2.toInt64)]) (rest := [.ref 483]) (by decide +kernel) (by decide +kernel) rfl rfl rfl (Nat.le_of_ble_eq_true rfl) rfl hr27 ?_
      refine w_iconst (n := 39) (v := 2) (x := 2) (by decide +kernel) rfl (by decide) ?_
      obtain ⟨M23, hLM23, hr26, h⟩ := h
      refine w_cV (n := 42) (idx := 406) (cal := 281) (na := 2) (nl := 3) (as := [.int v22, .int 2]) (rest := []) hLM21 (by decide +kernel) (by decide +kernel) (at_483) (by decide +kernel) rfl rfl rfl (Nat.le_of_ble_eq_true rfl) rfl hr26 ?_
      refine w_aload_n (n := 43) (i := 0) (by decide +kernel) rfl rfl ?_
      refine w_getI (n := 46) hLM23 (by decide +kernel) oO_284 fF_12_375 (at_483) (by decide) rfl ?_
      refine w_istore_n (n := 47) (i := 3) (l1' := [some (.ref 483), some (.int x1), some (.int x2), some (.int (ak_I M23 483 23))]) (l2' := []) (by decide +kernel) rfl (Nat.le_of_ble_eq_true rfl) rfl rfl ?_
      refine w_aload_n (n := 48) (i := 0) (by decide +kernel) rfl rfl ?_
      obtain ⟨M24, hLM24, hr25, h⟩ := h
      refine w_cV (n := 51) (idx := 410) (cal := 282) (na := 0) (nl := 1) (as := []) (rest := []) hLM23 (by decide +kernel) (by decide +kernel) (at_483) (by decide +kernel) rfl rfl rfl (Nat.le_of_ble_eq_true rfl) rfl hr25 ?_
      refine w_iload_n (n := 52) (i := 3) (by decide +kernel) rfl rfl ?_
      subst h
      exact w_ireturn (by decide +kernel) (w_okI (by decide +kernel))
  · rw [if_neg c31] at h
    refine w_icmp_ne_j (n := 13) (off := 7) (by decide +kernel) (by decide) c31 ?_
    refine w_iconst (n := 14) (v := 0) (x := 0) (by decide +kernel) rfl (by decide) ?_
    refine w_iconst (n := 15) (v := 1) (x := 1) (by decide +kernel) rfl (by decide) ?_
    obtain ⟨M1, hLM1, hr15, h⟩ := h
    refine w_cV (n := 18) (idx := 406) (cal := 281) (na := 2) (nl := 3) (as := [.int 0, .int 1]) (rest := []) hL (by decide +kernel) (by decide +kernel) (at_483) (by decide +kernel) rfl rfl rfl (Nat.le_of_ble_eq_true rfl) rfl hr15 ?_
    refine w_aload_n (n := 19) (i := 0) (by decide +kernel) rfl rfl ?_
    obtain ⟨v3, M2, hLM2, hr14, h⟩ := h
    refine w_cV (n := 22) (idx := 399) (cal := 280) (na := 0) (nl := 1) (as := []) (rest := []) hLM1 (by decide +kernel) (by decide +kernel) (at_483) (by decide +kernel) rfl rfl rfl (Nat.le_of_ble_eq_true rfl) rfl hr14 ?_
    by_cases c13 : v3 = 0
    · rw [if_pos c13] at h
      refine w_if_eq_j (n := 42) (off := 20) (by decide +kernel) (by decide) c13 ?_
      refine w_aload_n (n := 43) (i := 0) (by decide +kernel) rfl rfl ?_
      refine w_getI (n := 46) hLM2 (by decide +kernel) oO_284 fF_12_375 (at_483) (by decide) rfl ?_
      refine w_istore_n (n := 47) (i := 3) (l1' := [some (.ref 483), some (.int x1), some (.int x2), some (.int (ak_I M2 483 23))]) (l2' := []) (by decide +kernel) rfl (Nat.le_of_ble_eq_true rfl) rfl rfl ?_
      refine w_aload_n (n := 48) (i := 0) (by decide +kernel) rfl rfl ?_
      obtain ⟨M4, hLM4, hr5, h⟩ := h
      refine w_cV (n := 51) (idx := 410) (cal := 282) (na := 0) (nl := 1) (as := []) (rest := []) hLM2 (by decide +kernel) (by decide +kernel) (at_483) (by decide +kernel) rfl rfl rfl (Nat.le_of_ble_eq_true rfl) rfl hr5 ?_
      refine w_iload_n (n := 52) (i := 3) (by decide +kernel) rfl rfl ?_
      subst h
      exact w_ireturn (by decide +kernel) (w_okI (by decide +kernel))
    · rw [if_neg c13] at h
      refine w_if_eq_n (n := 25) (off := 20) (by decide +kernel) rfl c13 ?_
      refine w_aload_n (n := 26) (i := 0) (by decide +kernel) rfl rfl ?_
      refine w_aload_n (n := 27) (i := 0) (by decide +kernel) rfl rfl ?_
      refine w_getI (n := 30) hLM2 (by decide +kernel) oO_284 fF_12_375 (at_483) (by decide) rfl ?_
      refine w_i2l (n := 31) (by decide +kernel) rfl ?_
      refine w_iload_n (n := 32) (i := 1) (by decide +kernel) rfl rfl ?_
      refine w_i2l (n := 33) (by decide +kernel) rfl ?_
      refine w_iload_n (n := 34) (i := 2) (by decide +kernel) rfl rfl ?_
      refine w_i2l (n := 35) (by decide +kernel) rfl ?_
      obtain ⟨v7, M6, hLM6, hr12, h⟩ := h
      refine w_cS (n := 38) (idx := 84) (cal := 157) (na := 3) (nl := 6) (as := [.long ((ak_I M2 483 23).toInt64), .long (x1.toInt64), .long (x2.toInt64)]) (rest := [.ref 483]) (by decide +kernel) (by decide +kernel) rfl rfl rfl (Nat.le_of_ble_eq_true rfl) rfl hr12 ?_
      refine w_iconst (n := 39) (v := 2) (x := 2) (by decide +kernel) rfl (by decide) ?_
      obtain ⟨M8, hLM8, hr11, h⟩ := h
      refine w_cV (n := 42) (idx := 406) (cal := 281) (na := 2) (nl := 3) (as := [.int v7, .int 2]) (rest := []) hLM6 (by decide +kernel) (by decide +kernel) (at_483) (by decide +kernel) rfl rfl rfl (Nat.le_of_ble_eq_true rfl) rfl hr11 ?_
      refine w_aload_n (n := 43) (i := 0) (by decide +kernel) rfl rfl ?_
      refine w_getI (n := 46) hLM8 (by decide +kernel) oO_284 fF_12_375 (at_483) (by decide) rfl ?_
      refine w_istore_n (n := 47) (i := 3) (l1' := [some (.ref 483), some (.int x1), some (.int x2), some (.int (ak_I M8 483 23))]) (l2' := []) (by decide +kernel) rfl (Nat.le_of_ble_eq_true rfl) rfl rfl ?_
      refine w_aload_n (n := 48) (i := 0) (by decide +kernel) rfl rfl ?_
      obtain ⟨M9, hLM9, hr10, h⟩ := h
      refine w_cV (n := 51) (idx := 410) (cal := 282) (na := 0) (nl := 1) (as := []) (rest := []) hLM8 (by decide +kernel) (by decide +kernel) (at_483) (by decide +kernel) rfl rfl rfl (Nat.le_of_ble_eq_true rfl) rfl hr10 ?_
      refine w_iload_n (n := 52) (i := 3) (by decide +kernel) rfl rfl ?_
      subst h
      exact w_ireturn (by decide +kernel) (w_okI (by decide +kernel))
theorem t_285 {X : ak_X} {M : ak_M} {r : ak_O × ak_M} (hL : ab_lay M) (h : (∃ (v2 : Int32) (M1 : ak_M), ab_lay M1 ∧ rn X 280 [.ref 483] M (.inl (some (.int v2)), M1) ∧ (if v2 = 0 then (∃ (v4 : Int32) (M3 : ak_M), ab_lay M3 ∧ rn X 284 [.ref 483, .int 0, .int 9] M1 (.inl (some (.int v4)), M3) ∧ r = (.inl (some (.int v4)), M3)) else (if ak_I M1 483 21 = 4 then (∃ (M9 : ak_M), ab_lay M9 ∧ rn X 282 [.ref 483] M1 (.inl (none), M9) ∧ (∃ (v11 : Int32) (M10 : ak_M), ab_lay M10 ∧ rn X 284 [.ref 483, .int 0, .int 9] M9 (.inl (some (.int v11)), M10) ∧ r = (.inl (some (.int (-v11))), M10))) else (∃ (v7 : Int32) (M6 : ak_M), ab_lay M6 ∧ rn X 284 [.ref 483, .int 0, .int 9] M1 (.inl (some (.int v7)), M6) ∧ r = (.inl (some (.int v7)), M6)))))) : rn X 285 [.ref 483] M r := by
  refine w_rn (nL := 3) (l1 := [some (.ref 483), none, none]) (by decide +kernel) rfl rfl ?_
  refine w_aload_n (n := 1) (i := 0) (by decide +kernel) rfl rfl ?_
  obtain ⟨v2, M1, hLM1, hr16, h⟩ := h
  refine w_cV (n := 4) (idx := 399) (cal := 280) (na := 0) (nl := 1) (as := []) (rest := []) hL (by decide +kernel) (by decide +kernel) (at_483) (by decide +kernel) rfl rfl rfl (Nat.le_of_ble_eq_true rfl) rfl hr16 ?_
  by_cases c15 : v2 = 0
  · rw [if_pos c15] at h
    refine w_if_eq_j (n := 19) (off := 15) (by decide +kernel) (by decide) c15 ?_
    refine w_iconst (n := 20) (v := 0) (x := 0) (by decide +kernel) rfl (by decide) ?_
    refine w_istore_n (n := 21) (i := 1) (l1' := [some (.ref 483), some (.int 0), none]) (l2' := []) (by decide +kernel) rfl (Nat.le_of_ble_eq_true rfl) rfl rfl ?_
    refine w_iload_n (n := 22) (i := 1) (by decide +kernel) rfl rfl ?_
    refine w_if_eq_j (n := 29) (off := 7) (by decide +kernel) (by decide) (by decide) ?_
    refine w_aload_n (n := 30) (i := 0) (by decide +kernel) rfl rfl ?_
    refine w_iconst (n := 31) (v := 0) (x := 0) (by decide +kernel) rfl (by decide) ?_
    refine w_bipush (n := 33) (v := 9) (x := 9) (by decide +kernel) rfl (by decide) ?_
    obtain ⟨v4, M3, hLM3, hr5, h⟩ := h
    refine w_cV (n := 36) (idx := 413) (cal := 284) (na := 2) (nl := 3) (as := [.int 0, .int 9]) (rest := []) hLM1 (by decide +kernel) (by decide +kernel) (at_483) (by decide +kernel) rfl rfl rfl (Nat.le_of_ble_eq_true rfl) rfl hr5 ?_
    refine w_istore_n (n := 37) (i := 2) (l1' := [some (.ref 483), some (.int 0), some (.int v4)]) (l2' := []) (by decide +kernel) rfl (Nat.le_of_ble_eq_true rfl) rfl rfl ?_
    refine w_iload_n (n := 38) (i := 1) (by decide +kernel) rfl rfl ?_
    refine w_if_eq_j (n := 46) (off := 8) (by decide +kernel) (by decide) (by decide) ?_
    refine w_iload_n (n := 47) (i := 2) (by decide +kernel) rfl rfl ?_
    subst h
    exact w_ireturn (by decide +kernel) (w_okI (by decide +kernel))
  · rw [if_neg c15] at h
    refine w_if_eq_n (n := 7) (off := 15) (by decide +kernel) rfl c15 ?_
    refine w_aload_n (n := 8) (i := 0) (by decide +kernel) rfl rfl ?_
    refine w_getI (n := 11) hLM1 (by decide +kernel) oO_285 fF_12_359 (at_483) (by decide) rfl ?_
    refine w_iconst (n := 12) (v := 4) (x := 4) (by decide +kernel) rfl (by decide) ?_
    by_cases c14 : ak_I M1 483 21 = 4
    · rw [if_pos c14] at h
      refine w_icmp_ne_n (n := 15) (off := 7) (by decide +kernel) rfl c14 ?_
      refine w_iconst (n := 16) (v := 1) (x := 1) (by decide +kernel) rfl (by decide) ?_
      refine w_goto (n := 20) (off := 4) (by decide +kernel) (by decide) ?_
      refine w_istore_n (n := 21) (i := 1) (l1' := [some (.ref 483), some (.int 1), none]) (l2' := []) (by decide +kernel) rfl (Nat.le_of_ble_eq_true rfl) rfl rfl ?_
      refine w_iload_n (n := 22) (i := 1) (by decide +kernel) rfl rfl ?_
      refine w_if_eq_n (n := 25) (off := 7) (by decide +kernel) rfl (by decide) ?_
      refine w_aload_n (n := 26) (i := 0) (by decide +kernel) rfl rfl ?_
      obtain ⟨M9, hLM9, hr13, h⟩ := h
      refine w_cV (n := 29) (idx := 410) (cal := 282) (na := 0) (nl := 1) (as := []) (rest := []) hLM1 (by decide +kernel) (by decide +kernel) (at_483) (by decide +kernel) rfl rfl rfl (Nat.le_of_ble_eq_true rfl) rfl hr13 ?_
      refine w_aload_n (n := 30) (i := 0) (by decide +kernel) rfl rfl ?_
      refine w_iconst (n := 31) (v := 0) (x := 0) (by decide +kernel) rfl (by decide) ?_
      refine w_bipush (n := 33) (v := 9) (x := 9) (by decide +kernel) rfl (by decide) ?_
      obtain ⟨v11, M10, hLM10, hr12, h⟩ := h
      refine w_cV (n := 36) (idx := 413) (cal := 284) (na := 2) (nl := 3) (as := [.int 0, .int 9]) (rest := []) hLM9 (by decide +kernel) (by decide +kernel) (at_483) (by decide +kernel) rfl rfl rfl (Nat.le_of_ble_eq_true rfl) rfl hr12 ?_
      refine w_istore_n (n := 37) (i := 2) (l1' := [some (.ref 483), some (.int 1), some (.int v11)]) (l2' := []) (by decide +kernel) rfl (Nat.le_of_ble_eq_true rfl) rfl rfl ?_
      refine w_iload_n (n := 38) (i := 1) (by decide +kernel) rfl rfl ?_
      refine w_if_eq_n (n := 41) (off := 8) (by decide +kernel) rfl (by decide) ?_
      refine w_iload_n (n := 42) (i := 2) (by decide +kernel) rfl rfl ?_
      refine w_ineg (n := 43) (by decide +kernel) rfl ?_
      refine w_goto (n := 47) (off := 4) (by decide +kernel) (by decide) ?_
      subst h
      exact w_ireturn (by decide +kernel) (w_okI (by decide +kernel))
    · rw [if_neg c14] at h
      refine w_icmp_ne_j (n := 19) (off := 7) (by decide +kernel) (by decide) c14 ?_
      refine w_iconst (n := 20) (v := 0) (x := 0) (by decide +kernel) rfl (by decide) ?_
      refine w_istore_n (n := 21) (i := 1) (l1' := [some (.ref 483), some (.int 0), none]) (l2' := []) (by decide +kernel) rfl (Nat.le_of_ble_eq_true rfl) rfl rfl ?_
      refine w_iload_n (n := 22) (i := 1) (by decide +kernel) rfl rfl ?_
      refine w_if_eq_j (n := 29) (off := 7) (by decide +kernel) (by decide) (by decide) ?_
      refine w_aload_n (n := 30) (i := 0) (by decide +kernel) rfl rfl ?_
      refine w_iconst (n := 31) (v := 0) (x := 0) (by decide +kernel) rfl (by decide) ?_
      refine w_bipush (n := 33) (v := 9) (x := 9) (by decide +kernel) rfl (by decide) ?_
      obtain ⟨v7, M6, hLM6, hr8, h⟩ := h
      refine w_cV (n := 36) (idx := 413) (cal := 284) (na := 2) (nl := 3) (as := [.int 0, .int 9]) (rest := []) hLM1 (by decide +kernel) (by decide +kernel) (at_483) (by decide +kernel) rfl rfl rfl (Nat.le_of_ble_eq_true rfl) rfl hr8 ?_
      refine w_istore_n (n := 37) (i := 2) (l1' := [some (.ref 483), some (.int 0), some (.int v7)]) (l2' := []) (by decide +kernel) rfl (Nat.le_of_ble_eq_true rfl) rfl rfl ?_
      refine w_iload_n (n := 38) (i := 1) (by decide +kernel) rfl rfl ?_
      refine w_if_eq_j (n := 46) (off := 8) (by decide +kernel) (by decide) (by decide) ?_
      refine w_iload_n (n := 47) (i := 2) (by decide +kernel) rfl rfl ?_
      subst h
      exact w_ireturn (by decide +kernel) (w_okI (by decide +kernel))
theorem t_286 {X : ak_X} {M : ak_M} {r : ak_O × ak_M} (hL : ab_lay M) (x1 : Int32) (x2 : Int32) (x3 : Int32) (x4 : Int32) (h : (∃ (v2 : Int32) (M1 : ak_M), ab_lay M1 ∧ rn X 283 [.ref 483, .int x1] M (.inl (some (.int v2)), M1) ∧ (if v2 = 0 then r = (.inl (some (.int x4)), M1) else (∃ (M3 : ak_M), ab_lay M3 ∧ rn X 282 [.ref 483] M1 (.inl (none), M3) ∧ (∃ (v5 : Int32) (M4 : ak_M), ab_lay M4 ∧ rn X 284 [.ref 483, .int x2, .int x3] M3 (.inl (some (.int v5)), M4) ∧ r = (.inl (some (.int v5)), M4)))))) : rn X 286 [.ref 483, .int x1, .int x2, .int x3, .int x4] M r := by
  refine w_rn (nL := 5) (l1 := [some (.ref 483), some (.int x1), some (.int x2), some (.int x3), some (.int x4)]) (by decide +kernel) rfl rfl ?_
  refine w_aload_n (n := 1) (i := 0) (by decide +kernel) rfl rfl ?_
  refine w_iload_n (n := 2) (i := 1) (by decide +kernel) rfl rfl ?_
  obtain ⟨v2, M1, hLM1, hr9, h⟩ := h
  refine w_cV (n := 5) (idx := 416) (cal := 283) (na := 1) (nl := 2) (as := [.int x1]) (rest := []) hL (by decide +kernel) (by decide +kernel) (at_483) (by decide +kernel) rfl rfl rfl (Nat.le_of_ble_eq_true rfl) rfl hr9 ?_
  by_cases c8 : v2 = 0
  · rw [if_pos c8] at h
    refine w_if_ne_n (n := 8) (off := 6) (by decide +kernel) rfl c8 ?_
    refine w_iload (n := 10) (i := 4) (by decide +kernel) rfl rfl ?_
    subst h
    exact w_ireturn (by decide +kernel) (w_okI (by decide +kernel))
  · rw [if_neg c8] at h
    refine w_if_ne_j (n := 11) (off := 6) (by decide +kernel) (by decide) c8 ?_
    refine w_aload_n (n := 12) (i := 0) (by decide +kernel) rfl rfl ?_
    obtain ⟨M3, hLM3, hr7, h⟩ := h
    refine w_cV (n := 15) (idx := 410) (cal := 282) (na := 0) (nl := 1) (as := []) (rest := []) hLM1 (by decide +kernel) (by decide +kernel) (at_483) (by decide +kernel) rfl rfl rfl (Nat.le_of_ble_eq_true rfl) rfl hr7 ?_
    refine w_aload_n (n := 16) (i := 0) (by decide +kernel) rfl rfl ?_
    refine w_iload_n (n := 17) (i := 2) (by decide +kernel) rfl rfl ?_
    refine w_iload_n (n := 18) (i := 3) (by decide +kernel) rfl rfl ?_
    obtain ⟨v5, M4, hLM4, hr6, h⟩ := h
    refine w_cV (n := 21) (idx := 413) (cal := 284) (na := 2) (nl := 3) (as := [.int x2, .int x3]) (rest := []) hLM3 (by decide +kernel) (by decide +kernel) (at_483) (by decide +kernel) rfl rfl rfl (Nat.le_of_ble_eq_true rfl) rfl hr6 ?_
    subst h
    exact w_ireturn (by decide +kernel) (w_okI (by decide +kernel))
theorem t_287 {X : ak_X} {M : ak_M} {r : ak_O × ak_M} (hL : ab_lay M) (h : (∃ (v2 : Int32) (M1 : ak_M), ab_lay M1 ∧ rn X 168 [.ref 483] M (.inl (some (.int v2)), M1) ∧ (if 10 ≤ v2 then (∃ (M3 : ak_M), ab_lay M3 ∧ rn X 281 [.ref 483, .int 0, .int 4] M1 (.inl (none), M3) ∧ (∃ (M4 : ak_M), ab_lay M4 ∧ rn X 282 [.ref 483] M3 (.inl (none), M4) ∧ (if ak_I M4 483 21 = 1 then (if ak_I M4 483 22 = (-1) then (if 6 < (ak_I M4 483 19) - (ak_I M4 483 20) then (∃ (M71 : ak_M), ab_lay M71 ∧ rn X 281 [.ref 483, .int 0, .int 1] M4 (.inl (none), M71) ∧ (∃ (v73 : Int32) (M72 : ak_M), ab_lay M72 ∧ rn X 280 [.ref 483] M71 (.inl (some (.int v73)), M72) ∧ (if v73 = 0 then (∃ (v75 : Int32) (M74 : ak_M), ab_lay M74 ∧ rn X 280 [.ref 483] M72 (.inl (some (.int v75)), M74) ∧ (if v75 = 0 then sg X 287 (118, [some (.ref 483), some (.int 0), none, none, none, none, none, none], [], []) M74 r else (∃ (v77 : Int32) (M76 : ak_M), ab_lay M76 ∧ rn X 278 [.ref 483, .int 0] M74 (.inl (some (.int v77)), M76) ∧ (if v77 = (-1) then (∃ (M80 : ak_M), ab_lay M80 ∧ rn X 281 [.ref 483, .int 1, .int 3] M76 (.inl (none), M80) ∧ sg X 287 (118, [some (.ref 483), some (.int 0), none, none, none, none, none, none], [], []) M80 r) else (∃ (M78 : ak_M), ab_lay M78 ∧ rn X 281 [.ref 483, .int 0, .int 3] M76 (.inl (none), M78) ∧ sg X 287 (118, [some (.ref 483), some (.int 0), none, none, none, none, none, none], [], []) M78 r))))) else (∃ (v87 : Int32) (M86 : ak_M), ab_lay M86 ∧ rn X 277 [.ref 483, .int (ak_I M72 483 20), .int ((ak_I M72 483 19) - (ak_I M72 483 20))] M72 (.inl (some (.int v87)), M86) ∧ (∃ (v89 : Int32) (M88 : ak_M), ab_lay M88 ∧ rn X 280 [.ref 483] M86 (.inl (some (.int v89)), M88) ∧ (if v89 = 0 then sg X 287 (118, [some (.ref 483), some (.int v87), none, none, none, none, none, none], [], []) M88 r else (∃ (v91 : Int32) (M90 : ak_M), ab_lay M90 ∧ rn X 278 [.ref 483, .int v87] M88 (.inl (some (.int v91)), M90) ∧ (if v91 = (-1) then (∃ (M94 : ak_M), ab_lay M94 ∧ rn X 281 [.ref 483, .int 1, .int 3] M90 (.inl (none), M94) ∧ sg X 287 (118, [some (.ref 483), some (.int v87), none, none, none, none, none, none], [], []) M94 r) else (∃ (M92 : ak_M), ab_lay M92 ∧ rn X 281 [.ref 483, .int 0, .int 3] M90 (.inl (none), M92) ∧ sg X 287 (118, [some (.ref 483), some (.int v87), none, none, none, none, none, none], [], []) M92 r))))))))) else (∃ (M104 : ak_M), ab_lay M104 ∧ rn X 281 [.ref 483, .int 1, .int 1] M4 (.inl (none), M104) ∧ (∃ (v106 : Int32) (M105 : ak_M), ab_lay M105 ∧ rn X 280 [.ref 483] M104 (.inl (some (.int v106)), M105) ∧ (if v106 = 0 then (∃ (v108 : Int32) (M107 : ak_M), ab_lay M107 ∧ rn X 280 [.ref 483] M105 (.inl (some (.int v108)), M107) ∧ (if v108 = 0 then sg X 287 (118, [some (.ref 483), some (.int 0), none, none, none, none, none, none], [], []) M107 r else (∃ (v110 : Int32) (M109 : ak_M), ab_lay M109 ∧ rn X 278 [.ref 483, .int 0] M107 (.inl (some (.int v110)), M109) ∧ (if v110 = (-1) then (∃ (M113 : ak_M), ab_lay M113 ∧ rn X 281 [.ref 483, .int 1, .int 3] M109 (.inl (none), M113) ∧ sg X 287 (118, [some (.ref 483), some (.int 0), none, none, none, none, none, none], [], []) M113 r) else (∃ (M111 : ak_M), ab_lay M111 ∧ rn X 281 [.ref 483, .int 0, .int 3] M109 (.inl (none), M111) ∧ sg X 287 (118, [some (.ref 483), some (.int 0), none, none, none, none, none, none], [], []) M111 r))))) else (∃ (v120 : Int32) (M119 : ak_M), ab_lay M119 ∧ rn X 277 [.ref 483, .int (ak_I M105 483 20), .int ((ak_I M105 483 19) - (ak_I M105 483 20))] M105 (.inl (some (.int v120)), M119) ∧ (∃ (v122 : Int32) (M121 : ak_M), ab_lay M121 ∧ rn X 280 [.ref 483] M119 (.inl (some (.int v122)), M121) ∧ (if v122 = 0 then sg X 287 (118, [some (.ref 483), some (.int v120), none, none, none, none, none, none], [], []) M121 r else (∃ (v124 : Int32) (M123 : ak_M), ab_lay M123 ∧ rn X 278 [.ref 483, .int v120] M121 (.inl (some (.int v124)), M123) ∧ (if v124 = (-1) then (∃ (M127 : ak_M), ab_lay M127 ∧ rn X 281 [.ref 483, .int 1, .int 3] M123 (.inl (none), M127) ∧ sg X 287 (118, [some (.ref 483), some (.int v120), none, none, none, none, none, none], [], []) M127 r) else (∃ (M125 : ak_M), ab_lay M125 ∧ rn X 281 [.ref 483, .int 0, .int 3] M123 (.inl (none), M125) ∧ sg X 287 (118, [some (.ref 483), some (.int v120), none, none, none, none, none, none], [], []) M125 r)))))))))) else (∃ (M38 : ak_M), ab_lay M38 ∧ rn X 281 [.ref 483, .int 0, .int 1] M4 (.inl (none), M38) ∧ (∃ (v40 : Int32) (M39 : ak_M), ab_lay M39 ∧ rn X 280 [.ref 483] M38 (.inl (some (.int v40)), M39) ∧ (if v40 = 0 then (∃ (v42 : Int32) (M41 : ak_M), ab_lay M41 ∧ rn X 280 [.ref 483] M39 (.inl (some (.int v42)), M41) ∧ (if v42 = 0 then sg X 287 (118, [some (.ref 483), some (.int 0), none, none, none, none, none, none], [], []) M41 r else (∃ (v44 : Int32) (M43 : ak_M), ab_lay M43 ∧ rn X 278 [.ref 483, .int 0] M41 (.inl (some (.int v44)), M43) ∧ (if v44 = (-1) then (∃ (M47 : ak_M), ab_lay M47 ∧ rn X 281 [.ref 483, .int 1, .int 3] M43 (.inl (none), M47) ∧ sg X 287 (118, [some (.ref 483), some (.int 0), none, none, none, none, none, none], [], []) M47 r) else (∃ (M45 : ak_M), ab_lay M45 ∧ rn X 281 [.ref 483, .int 0, .int 3] M43 (.inl (none), M45) ∧ sg X 287 (118, [some (.ref 483), some (.int 0), none, none, none, none, none, none], [], []) M45 r))))) else (∃ (v54 : Int32) (M53 : ak_M), ab_lay M53 ∧ rn X 277 [.ref 483, .int (ak_I M39 483 20), .int ((ak_I M39 483 19) - (ak_I M39 483 20))] M39 (.inl (some (.int v54)), M53) ∧ (∃ (v56 : Int32) (M55 : ak_M), ab_lay M55 ∧ rn X 280 [.ref 483] M53 (.inl (some (.int v56)), M55) ∧ (if v56 = 0 then sg X 287 (118, [some (.ref 483), some (.int v54), none, none, none, none, none, none], [], []) M55 r else (∃ (v58 : Int32) (M57 : ak_M), ab_lay M57 ∧ rn X 278 [.ref 483, .int v54] M55 (.inl (some (.int v58)), M57) ∧ (if v58 = (-1) then (∃ (M61 : ak_M), ab_lay M61 ∧ rn X 281 [.ref 483, .int 1, .int 3] M57 (.inl (none), M61) ∧ sg X 287 (118, [some (.ref 483), some (.int v54), none, none, none, none, none, none], [], []) M61 r) else (∃ (M59 : ak_M), ab_lay M59 ∧ rn X 281 [.ref 483, .int 0, .int 3] M57 (.inl (none), M59) ∧ sg X 287 (118, [some (.ref 483), some (.int v54), none, none, none, none, none, none], [], []) M59 r)))))))))) else (∃ (M5 : ak_M), ab_lay M5 ∧ rn X 281 [.ref 483, .int 0, .int 1] M4 (.inl (none), M5) ∧ (∃ (v7 : Int32) (M6 : ak_M), ab_lay M6 ∧ rn X 280 [.ref 483] M5 (.inl (some (.int v7)), M6) ∧ (if v7 = 0 then (∃ (v9 : Int32) (M8 : ak_M), ab_lay M8 ∧ rn X 280 [.ref 483] M6 (.inl (some (.int v9)), M8) ∧ (if v9 = 0 then sg X 287 (118, [some (.ref 483), some (.int 0), none, none, none, none, none, none], [], []) M8 r else (∃ (v11 : Int32) (M10 : ak_M), ab_lay M10 ∧ rn X 278 [.ref 483, .int 0] M8 (.inl (some (.int v11)), M10) ∧ (if v11 = (-1) then (∃ (M14 : ak_M), ab_lay M14 ∧ rn X 281 [.ref 483, .int 1, .int 3] M10 (.inl (none), M14) ∧ sg X 287 (118, [some (.ref 483), some (.int 0), none, none, none, none, none, none], [], []) M14 r) else (∃ (M12 : ak_M), ab_lay M12 ∧ rn X 281 [.ref 483, .int 0, .int 3] M10 (.inl (none), M12) ∧ sg X 287 (118, [some (.ref 483), some (.int 0), none, none, none, none, none, none], [], []) M12 r))))) else (∃ (v21 : Int32) (M20 : ak_M), ab_lay M20 ∧ rn X 277 [.ref 483, .int (ak_I M6 483 20), .int ((ak_I M6 483 19) - (ak_I M6 483 20))] M6 (.inl (some (.int v21)), M20) ∧ (∃ (v23 : Int32) (M22 : ak_M), ab_lay M22 ∧ rn X 280 [.ref 483] M20 (.inl (some (.int v23)), M22) ∧ (if v23 = 0 then sg X 287 (118, [some (.ref 483), some (.int v21), none, none, none, none, none, none], [], []) M22 r else (∃ (v25 : Int32) (M24 : ak_M), ab_lay M24 ∧ rn X 278 [.ref 483, .int v21] M22 (.inl (some (.int v25)), M24) ∧ (if v25 = (-1) then (∃ (M28 : ak_M), ab_lay M28 ∧ rn X 281 [.ref 483, .int 1, .int 3] M24 (.inl (none), M28) ∧ sg X 287 (118, [some (.ref 483), some (.int v21), none, none, none, none, none, none], [], []) M28 r) else (∃ (M26 : ak_M), ab_lay M26 ∧ rn X 281 [.ref 483, .int 0, .int 3] M24 (.inl (none), M26) ∧ sg X 287 (118, [some (.ref 483), some (.int v21), none, none, none, none, none, none], [], []) M26 r)))))))))))) else (∃ (M142 : ak_M), ab_lay M142 ∧ rn X 281 [.ref 483, .int 1, .int 4] M1 (.inl (none), M142) ∧ (∃ (M143 : ak_M), ab_lay M143 ∧ rn X 282 [.ref 483] M142 (.inl (none), M143) ∧ (if ak_I M143 483 21 = 1 then (if ak_I M143 483 22 = (-1) then (if 6 < (ak_I M143 483 19) - (ak_I M143 483 20) then (∃ (M210 : ak_M), ab_lay M210 ∧ rn X 281 [.ref 483, .int 0, .int 1] M143 (.inl (none), M210) ∧ (∃ (v212 : Int32) (M211 : ak_M), ab_lay M211 ∧ rn X 280 [.ref 483] M210 (.inl (some (.int v212)), M211) ∧ (if v212 = 0 then (∃ (v214 : Int32) (M213 : ak_M), ab_lay M213 ∧ rn X 280 [.ref 483] M211 (.inl (some (.int v214)), M213) ∧ (if v214 = 0 then sg X 287 (118, [some (.ref 483), some (.int 0), none, none, none, none, none, none], [], []) M213 r else (∃ (v216 : Int32) (M215 : ak_M), ab_lay M215 ∧ rn X 278 [.ref 483, .int 0] M213 (.inl (some (.int v216)), M215) ∧ (if v216 = (-1) then (∃ (M219 : ak_M), ab_lay M219 ∧ rn X 281 [.ref 483, .int 1, .int 3] M215 (.inl (none), M219) ∧ sg X 287 (118, [some (.ref 483), some (.int 0), none, none, none, none, none, none], [], []) M219 r) else (∃ (M217 : ak_M), ab_lay M217 ∧ rn X 281 [.ref 483, .int 0, .int 3] M215 (.inl (none), M217) ∧ sg X 287 (118, [some (.ref 483), some (.int 0), none, none, none, none, none, none], [], []) M217 r))))) else (∃ (v226 : Int32) (M225 : ak_M), ab_lay M225 ∧ rn X 277 [.ref 483, .int (ak_I M211 483 20), .int ((ak_I M211 483 19) - (ak_I M211 483 20))] M211 (.inl (some (.int v226)), M225) ∧ (∃ (v228 : Int32) (M227 : ak_M), ab_lay M227 ∧ rn X 280 [.ref 483] M225 (.inl (some (.int v228)), M227) ∧ (if v228 = 0 then sg X 287 (118, [some (.ref 483), some (.int v226), none, none, none, none, none, none], [], []) M227 r else (∃ (v230 : Int32) (M229 : ak_M), ab_lay M229 ∧ rn X 278 [.ref 483, .int v226] M227 (.inl (some (.int v230)), M229) ∧ (if v230 = (-1) then (∃ (M233 : ak_M), ab_lay M233 ∧ rn X 281 [.ref 483, .int 1, .int 3] M229 (.inl (none), M233) ∧ sg X 287 (118, [some (.ref 483), some (.int v226), none, none, none, none, none, none], [], []) M233 r) else (∃ (M231 : ak_M), ab_lay M231 ∧ rn X 281 [.ref 483, .int 0, .int 3] M229 (.inl (none), M231) ∧ sg X 287 (118, [some (.ref 483), some (.int v226), none, none, none, none, none, none], [], []) M231 r))))))))) else (∃ (M243 : ak_M), ab_lay M243 ∧ rn X 281 [.ref 483, .int 1, .int 1] M143 (.inl (none), M243) ∧ (∃ (v245 : Int32) (M244 : ak_M), ab_lay M244 ∧ rn X 280 [.ref 483] M243 (.inl (some (.int v245)), M244) ∧ (if v245 = 0 then (∃ (v247 : Int32) (M246 : ak_M), ab_lay M246 ∧ rn X 280 [.ref 483] M244 (.inl (some (.int v247)), M246) ∧ (if v247 = 0 then sg X 287 (118, [some (.ref 483), some (.int 0), none, none, none, none, none, none], [], []) M246 r else (∃ (v249 : Int32) (M248 : ak_M), ab_lay M248 ∧ rn X 278 [.ref 483, .int 0] M246 (.inl (some (.int v249)), M248) ∧ (if v249 = (-1) then (∃ (M252 : ak_M), ab_lay M252 ∧ rn X 281 [.ref 483, .int 1, .int 3] M248 (.inl (none), M252) ∧ sg X 287 (118, [some (.ref 483), some (.int 0), none, none, none, none, none, none], [], []) M252 r) else (∃ (M250 : ak_M), ab_lay M250 ∧ rn X 281 [.ref 483, .int 0, .int 3] M248 (.inl (none), M250) ∧ sg X 287 (118, [some (.ref 483), some (.int 0), none, none, none, none, none, none], [], []) M250 r))))) else (∃ (v259 : Int32) (M258 : ak_M), ab_lay M258 ∧ rn X 277 [.ref 483, .int (ak_I M244 483 20), .int ((ak_I M244 483 19) - (ak_I M244 483 20))] M244 (.inl (some (.int v259)), M258) ∧ (∃ (v261 : Int32) (M260 : ak_M), ab_lay M260 ∧ rn X 280 [.ref 483] M258 (.inl (some (.int v261)), M260) ∧ (if v261 = 0 then sg X 287 (118, [some (.ref 483), some (.int v259), none, none, none, none, none, none], [], []) M260 r else (∃ (v263 : Int32) (M262 : ak_M), ab_lay M262 ∧ rn X 278 [.ref 483, .int v259] M260 (.inl (some (.int v263)), M262) ∧ (if v263 = (-1) then (∃ (M266 : ak_M), ab_lay M266 ∧ rn X 281 [.ref 483, .int 1, .int 3] M262 (.inl (none), M266) ∧ sg X 287 (118, [some (.ref 483), some (.int v259), none, none, none, none, none, none], [], []) M266 r) else (∃ (M264 : ak_M), ab_lay M264 ∧ rn X 281 [.ref 483, .int 0, .int 3] M262 (.inl (none), M264) ∧ sg X 287 (118, [some (.ref 483), some (.int v259), none, none, none, none, none, none], [], []) M264 r)))))))))) else (∃ (M177 : ak_M), ab_lay M177 ∧ rn X 281 [.ref 483, .int 0, .int 1] M143 (.inl (none), M177) ∧ (∃ (v179 : Int32) (M178 : ak_M), ab_lay M178 ∧ rn X 280 [.ref 483] M177 (.inl (some (.int v179)), M178) ∧ (if v179 = 0 then (∃ (v181 : Int32) (M180 : ak_M), ab_lay M180 ∧ rn X 280 [.ref 483] M178 (.inl (some (.int v181)), M180) ∧ (if v181 = 0 then sg X 287 (118, [some (.ref 483), some (.int 0), none, none, none, none, none, none], [], []) M180 r else (∃ (v183 : Int32) (M182 : ak_M), ab_lay M182 ∧ rn X 278 [.ref 483, .int 0] M180 (.inl (some (.int v183)), M182) ∧ (if v183 = (-1) then (∃ (M186 : ak_M), ab_lay M186 ∧ rn X 281 [.ref 483, .int 1, .int 3] M182 (.inl (none), M186) ∧ sg X 287 (118, [some (.ref 483), some (.int 0), none, none, none, none, none, none], [], []) M186 r) else (∃ (M184 : ak_M), ab_lay M184 ∧ rn X 281 [.ref 483, .int 0, .int 3] M182 (.inl (none), M184) ∧ sg X 287 (118, [some (.ref 483), some (.int 0), none, none, none, none, none, none], [], []) M184 r))))) else (∃ (v193 : Int32) (M192 : ak_M), ab_lay M192 ∧ rn X 277 [.ref 483, .int (ak_I M178 483 20), .int ((ak_I M178 483 19) - (ak_I M178 483 20))] M178 (.inl (some (.int v193)), M192) ∧ (∃ (v195 : Int32) (M194 : ak_M), ab_lay M194 ∧ rn X 280 [.ref 483] M192 (.inl (some (.int v195)), M194) ∧ (if v195 = 0 then sg X 287 (118, [some (.ref 483), some (.int v193), none, none, none, none, none, none], [], []) M194 r else (∃ (v197 : Int32) (M196 : ak_M), ab_lay M196 ∧ rn X 278 [.ref 483, .int v193] M194 (.inl (some (.int v197)), M196) ∧ (if v197 = (-1) then (∃ (M200 : ak_M), ab_lay M200 ∧ rn X 281 [.ref 483, .int 1, .int 3] M196 (.inl (none), M200) ∧ sg X 287 (118, [some (.ref 483), some (.int v193), none, none, none, none, none, none], [], []) M200 r) else (∃ (M198 : ak_M), ab_lay M198 ∧ rn X 281 [.ref 483, .int 0, .int 3] M196 (.inl (none), M198) ∧ sg X 287 (118, [some (.ref 483), some (.int v193), none, none, none, none, none, none], [], []) M198 r)))))))))) else (∃ (M144 : ak_M), ab_lay M144 ∧ rn X 281 [.ref 483, .int 0, .int 1] M143 (.inl (none), M144) ∧ (∃ (v146 : Int32) (M145 : ak_M), ab_lay M145 ∧ rn X 280 [.ref 483] M144 (.inl (some (.int v146)), M145) ∧ (if v146 = 0 then (∃ (v148 : Int32) (M147 : ak_M), ab_lay M147 ∧ rn X 280 [.ref 483] M145 (.inl (some (.int v148)), M147) ∧ (if v148 = 0 then sg X 287 (118, [some (.ref 483), some (.int 0), none, none, none, none, none, none], [], []) M147 r else (∃ (v150 : Int32) (M149 : ak_M), ab_lay M149 ∧ rn X 278 [.ref 483, .int 0] M147 (.inl (some (.int v150)), M149) ∧ (if v150 = (-1) then (∃ (M153 : ak_M), ab_lay M153 ∧ rn X 281 [.ref 483, .int 1, .int 3] M149 (.inl (none), M153) ∧ sg X 287 (118, [some (.ref 483), some (.int 0), none, none, none, none, none, none], [], []) M153 r) else (∃ (M151 : ak_M), ab_lay M151 ∧ rn X 281 [.ref 483, .int 0, .int 3] M149 (.inl (none), M151) ∧ sg X 287 (118, [some (.ref 483), some (.int 0), none, none, none, none, none, none], [], []) M151 r))))) else (∃ (v160 : Int32) (M159 : ak_M), ab_lay M159 ∧ rn X 277 [.ref 483, .int (ak_I M145 483 20), .int ((ak_I M145 483 19) - (ak_I M145 483 20))] M145 (.inl (some (.int v160)), M159) ∧ (∃ (v162 : Int32) (M161 : ak_M), ab_lay M161 ∧ rn X 280 [.ref 483] M159 (.inl (some (.int v162)), M161) ∧ (if v162 = 0 then sg X 287 (118, [some (.ref 483), some (.int v160), none, none, none, none, none, none], [], []) M161 r else (∃ (v164 : Int32) (M163 : ak_M), ab_lay M163 ∧ rn X 278 [.ref 483, .int v160] M161 (.inl (some (.int v164)), M163) ∧ (if v164 = (-1) then (∃ (M167 : ak_M), ab_lay M167 ∧ rn X 281 [.ref 483, .int 1, .int 3] M163 (.inl (none), M167) ∧ sg X 287 (118, [some (.ref 483), some (.int v160), none, none, none, none, none, none], [], []) M167 r) else (∃ (M165 : ak_M), ab_lay M165 ∧ rn X 281 [.ref 483, .int 0, .int 3] M163 (.inl (none), M165) ∧ sg X 287 (118, [some (.ref 483), some (.int v160), none, none, none, none, none, none], [], []) M165 r))))))))))))))) : rn X 287 [.ref 483] M r := by
  refine w_rn (nL := 8) (l1 := [some (.ref 483), none, none, none, none, none, none, none]) (by decide +kernel) rfl rfl ?_
  refine w_aload_n (n := 1) (i := 0) (by decide +kernel) rfl rfl ?_
  refine w_aload_n (n := 2) (i := 0) (by decide +kernel) rfl rfl ?_
  obtain ⟨v2, M1, hLM1, hr282, h⟩ := h
  refine w_cV (n := 5) (idx := 80) (cal := 168) (na := 0) (nl := 1) (as := []) (rest := [.ref 483]) hL (by decide +kernel) (by decide +kernel) (at_483) (by decide +kernel) rfl rfl rfl (Nat.le_of_ble_eq_true rfl) rfl hr282 ?_
  refine w_bipush (n := 7) (v := 10) (x := 10) (by decide +kernel) rfl (by decide) ?_
  by_cases c281 : 10 ≤ v2
  · rw [if_pos c281] at h
    refine w_icmp_ge_j (n := 14) (off := 7) (by decide +kernel) (by decide) c281 ?_
    refine w_iconst (n := 15) (v := 0) (x := 0) (by decide +kernel) rfl (by decide) ?_
    refine w_iconst (n := 16) (v := 4) (x := 4) (by decide +kernel) rfl (by decide) ?_
    obtain ⟨M3, hLM3, hr141, h⟩ := h
    refine w_cV (n := 19) (idx := 406) (cal := 281) (na := 2) (nl := 3) (as := [.int 0, .int 4]) (rest := []) hLM1 (by decide +kernel) (by decide +kernel) (at_483) (by decide +kernel) rfl rfl rfl (Nat.le_of_ble_eq_true rfl) rfl hr141 ?_
    refine w_aload_n (n := 20) (i := 0) (by decide +kernel) rfl rfl ?_
    obtain ⟨M4, hLM4, hr140, h⟩ := h
    refine w_cV (n := 23) (idx := 410) (cal := 282) (na := 0) (nl := 1) (as := []) (rest := []) hLM3 (by decide +kernel) (by decide +kernel) (at_483) (by decide +kernel) rfl rfl rfl (Nat.le_of_ble_eq_true rfl) rfl hr140 ?_
    refine w_aload_n (n := 24) (i := 0) (by decide +kernel) rfl rfl ?_
    refine w_aload_n (n := 25) (i := 0) (by decide +kernel) rfl rfl ?_
    refine w_getI (n := 28) hLM4 (by decide +kernel) oO_287 fF_12_359 (at_483) (by decide) rfl ?_
    refine w_iconst (n := 29) (v := 1) (x := 1) (by decide +kernel) rfl (by decide) ?_
    by_cases c139 : ak_I M4 483 21 = 1
    · rw [if_pos c139] at h
      refine w_icmp_ne_n (n := 32) (off := 29) (by decide +kernel) rfl c139 ?_
      refine w_aload_n (n := 33) (i := 0) (by decide +kernel) rfl rfl ?_
      refine w_getI (n := 36) hLM4 (by decide +kernel) oO_287 fF_12_368 (at_483) (by decide) rfl ?_
      refine w_iconst (n := 37) (v := -1) (x := (-1)) (by decide +kernel) rfl (by decide) ?_
      by_cases c138 : ak_I M4 483 22 = (-1)
      · rw [if_pos c138] at h
        refine w_icmp_ne_n (n := 40) (off := 21) (by decide +kernel) rfl c138 ?_
        refine w_aload_n (n := 41) (i := 0) (by decide +kernel) rfl rfl ?_
        refine w_getI (n := 44) hLM4 (by decide +kernel) oO_287 fF_12_353 (at_483) (by decide) rfl ?_
        refine w_aload_n (n := 45) (i := 0) (by decide +kernel) rfl rfl ?_
        refine w_getI (n := 48) hLM4 (by decide +kernel) oO_287 fF_12_356 (at_483) (by decide) rfl ?_
        refine w_isub (n := 49) (by decide +kernel) rfl ?_
        refine w_bipush (n := 51) (v := 6) (x := 6) (by decide +kernel) rfl (by decide) ?_
        by_cases c137 : 6 < (ak_I M4 483 19) - (ak_I M4 483 20)
        · rw [if_pos c137] at h
          refine w_icmp_gt_j (n := 58) (off := 7) (by decide +kernel) (by decide) c137 ?_
          refine w_iconst (n := 59) (v := 0) (x := 0) (by decide +kernel) rfl (by decide) ?_
          refine w_iconst (n := 60) (v := 1) (x := 1) (by decide +kernel) rfl (by decide) ?_
          obtain ⟨M71, hLM71, hr103, h⟩ := h
          refine w_cV (n := 63) (idx := 406) (cal := 281) (na := 2) (nl := 3) (as := [.int 0, .int 1]) (rest := []) hLM4 (by decide +kernel) (by decide +kernel) (at_483) (by decide +kernel) rfl rfl rfl (Nat.le_of_ble_eq_true rfl) rfl hr103 ?_
          refine w_aload_n (n := 64) (i := 0) (by decide +kernel) rfl rfl ?_
          obtain ⟨v73, M72, hLM72, hr102, h⟩ := h
          refine w_cV (n := 67) (idx := 399) (cal := 280) (na := 0) (nl := 1) (as := []) (rest := []) hLM71 (by decide +kernel) (by decide +kernel) (at_483) (by decide +kernel) rfl rfl rfl (Nat.le_of_ble_eq_true rfl) rfl hr102 ?_
          by_cases c101 : v73 = 0
          · rw [if_pos c101] at h
            refine w_if_eq_j (n := 90) (off := 23) (by decide +kernel) (by decide) c101 ?_
            refine w_iconst (n := 91) (v := 0) (x := 0) (by decide +kernel) rfl (by decide) ?_
            refine w_istore_n (n := 92) (i := 1) (l1' := [some (.ref 483), some (.int 0), none, none, none, none, none, none]) (l2' := []) (by decide +kernel) rfl (Nat.le_of_ble_eq_true rfl) rfl rfl ?_
            refine w_aload_n (n := 93) (i := 0) (by decide +kernel) rfl rfl ?_
            obtain ⟨v75, M74, hLM74, hr85, h⟩ := h
            refine w_cV (n := 96) (idx := 399) (cal := 280) (na := 0) (nl := 1) (as := []) (rest := []) hLM72 (by decide +kernel) (by decide +kernel) (at_483) (by decide +kernel) rfl rfl rfl (Nat.le_of_ble_eq_true rfl) rfl hr85 ?_
            by_cases c84 : v75 = 0
            · rw [if_pos c84] at h
              refine w_if_eq_j (n := 118) (off := 22) (by decide +kernel) (by decide) c84 ?_
              exact h
            · rw [if_neg c84] at h
              refine w_if_eq_n (n := 99) (off := 22) (by decide +kernel) rfl c84 ?_
              refine w_aload_n (n := 100) (i := 0) (by decide +kernel) rfl rfl ?_
              refine w_aload_n (n := 101) (i := 0) (by decide +kernel) rfl rfl ?_
              refine w_iload_n (n := 102) (i := 1) (by decide +kernel) rfl rfl ?_
              obtain ⟨v77, M76, hLM76, hr83, h⟩ := h
              refine w_cV (n := 105) (idx := 393) (cal := 278) (na := 1) (nl := 2) (as := [.int 0]) (rest := [.ref 483]) hLM74 (by decide +kernel) (by decide +kernel) (at_483) (by decide +kernel) rfl rfl rfl (Nat.le_of_ble_eq_true rfl) rfl hr83 ?_
              refine w_iconst (n := 106) (v := -1) (x := (-1)) (by decide +kernel) rfl (by decide) ?_
              by_cases c82 : v77 = (-1)
              · rw [if_pos c82] at h
                refine w_icmp_ne_n (n := 109) (off := 7) (by decide +kernel) rfl c82 ?_
                refine w_iconst (n := 110) (v := 1) (x := 1) (by decide +kernel) rfl (by decide) ?_
                refine w_goto (n := 114) (off := 4) (by decide +kernel) (by decide) ?_
                refine w_iconst (n := 115) (v := 3) (x := 3) (by decide +kernel) rfl (by decide) ?_
                obtain ⟨M80, hLM80, hr81, h⟩ := h
                refine w_cV (n := 118) (idx := 406) (cal := 281) (na := 2) (nl := 3) (as := [.int 1, .int 3]) (rest := []) hLM76 (by decide +kernel) (by decide +kernel) (at_483) (by decide +kernel) rfl rfl rfl (Nat.le_of_ble_eq_true rfl) rfl hr81 ?_
                exact h
              · rw [if_neg c82] at h
                refine w_icmp_ne_j (n := 113) (off := 7) (by decide +kernel) (by decide) c82 ?_
                refine w_iconst (n := 114) (v := 0) (x := 0) (by decide +kernel) rfl (by decide) ?_
                refine w_iconst (n := 115) (v := 3) (x := 3) (by decide +kernel) rfl (by decide) ?_
                obtain ⟨M78, hLM78, hr79, h⟩ := h
                refine w_cV (n := 118) (idx := 406) (cal := 281) (na := 2) (nl := 3) (as := [.int 0, .int 3]) (rest := []) hLM76 (by decide +kernel) (by decide +kernel) (at_483) (by decide +kernel) rfl rfl rfl (Nat.le_of_ble_eq_true rfl) rfl hr79 ?_
                exact h
          · rw [if_neg c101] at h
            refine w_if_eq_n (n := 70) (off := 23) (by decide +kernel) rfl c101 ?_
            refine w_aload_n (n := 71) (i := 0) (by decide +kernel) rfl rfl ?_
            refine w_aload_n (n := 72) (i := 0) (by decide +kernel) rfl rfl ?_
            refine w_getI (n := 75) hLM72 (by decide +kernel) oO_287 fF_12_356 (at_483) (by decide) rfl ?_
            refine w_aload_n (n := 76) (i := 0) (by decide +kernel) rfl rfl ?_
            refine w_getI (n := 79) hLM72 (by decide +kernel) oO_287 fF_12_353 (at_483) (by decide) rfl ?_
            refine w_aload_n (n := 80) (i := 0) (by decide +kernel) rfl rfl ?_
            refine w_getI (n := 83) hLM72 (by decide +kernel) oO_287 fF_12_356 (at_483) (by decide) rfl ?_
            refine w_isub (n := 84) (by decide +kernel) rfl ?_
            obtain ⟨v87, M86, hLM86, hr100, h⟩ := h
            refine w_cV (n := 87) (idx := 390) (cal := 277) (na := 2) (nl := 3) (as := [.int (ak_I M72 483 20), .int ((ak_I M72 483 19) - (ak_I M72 483 20))]) (rest := []) hLM72 (by decide +kernel) (by decide +kernel) (at_483) (by decide +kernel) rfl rfl rfl (Nat.le_of_ble_eq_true rfl) rfl hr100 ?_
            refine w_goto (n := 91) (off := 4) (by decide +kernel) (by decide) ?_
            refine w_istore_n (n := 92) (i := 1) (l1' := [some (.ref 483), some (.int v87), none, none, none, none, none, none]) (l2' := []) (by decide +kernel) rfl (Nat.le_of_ble_eq_true rfl) rfl rfl ?_
            refine w_aload_n (n := 93) (i := 0) (by decide +kernel) rfl rfl ?_
            obtain ⟨v89, M88, hLM88, hr99, h⟩ := h
            refine w_cV (n := 96) (idx := 399) (cal := 280) (na := 0) (nl := 1) (as := []) (rest := []) hLM86 (by decide +kernel) (by decide +kernel) (at_483) (by decide +kernel) rfl rfl rfl (Nat.le_of_ble_eq_true rfl) rfl hr99 ?_
            by_cases c98 : v89 = 0
            · rw [if_pos c98] at h
              refine w_if_eq_j (n := 118) (off := 22) (by decide +kernel) (by decide) c98 ?_
              exact h
            · rw [if_neg c98] at h
              refine w_if_eq_n (n := 99) (off := 22) (by decide +kernel) rfl c98 ?_
              refine w_aload_n (n := 100) (i := 0) (by decide +kernel) rfl rfl ?_
              refine w_aload_n (n := 101) (i := 0) (by decide +kernel) rfl rfl ?_
              refine w_iload_n (n := 102) (i := 1) (by decide +kernel) rfl rfl ?_
              obtain ⟨v91, M90, hLM90, hr97, h⟩ := h
              refine w_cV (n := 105) (idx := 393) (cal := 278) (na := 1) (nl := 2) (as := [.int v87]) (rest := [.ref 483]) hLM88 (by decide +kernel) (by decide +kernel) (at_483) (by decide +kernel) rfl rfl rfl (Nat.le_of_ble_eq_true rfl) rfl hr97 ?_
              refine w_iconst (n := 106) (v := -1) (x := (-1)) (by decide +kernel) rfl (by decide) ?_
              by_cases c96 : v91 = (-1)
              · rw [if_pos c96] at h
                refine w_icmp_ne_n (n := 109) (off := 7) (by decide +kernel) rfl c96 ?_
                refine w_iconst (n := 110) (v := 1) (x := 1) (by decide +kernel) rfl (by decide) ?_
                refine w_goto (n := 114) (off := 4) (by decide +kernel) (by decide) ?_
                refine w_iconst (n := 115) (v := 3) (x := 3) (by decide +kernel) rfl (by decide) ?_
                obtain ⟨M94, hLM94, hr95, h⟩ := h
                refine w_cV (n := 118) (idx := 406) (cal := 281) (na := 2) (nl := 3) (as := [.int 1, .int 3]) (rest := []) hLM90 (by decide +kernel) (by decide +kernel) (at_483) (by decide +kernel) rfl rfl rfl (Nat.le_of_ble_eq_true rfl) rfl hr95 ?_
                exact h
              · rw [if_neg c96] at h
                refine w_icmp_ne_j (n := 113) (off := 7) (by decide +kernel) (by decide) c96 ?_
                refine w_iconst (n := 114) (v := 0) (x := 0) (by decide +kernel) rfl (by decide) ?_
                refine w_iconst (n := 115) (v := 3) (x := 3) (by decide +kernel) rfl (by decide) ?_
                obtain ⟨M92, hLM92, hr93, h⟩ := h
                refine w_cV (n := 118) (idx := 406) (cal := 281) (na := 2) (nl := 3) (as := [.int 0, .int 3]) (rest := []) hLM90 (by decide +kernel) (by decide +kernel) (at_483) (by decide +kernel) rfl rfl rfl (Nat.le_of_ble_eq_true rfl) rfl hr93 ?_
                exact h
        · rw [if_neg c137] at h
          refine w_icmp_gt_n (n := 54) (off := 7) (by decide +kernel) rfl c137 ?_
          refine w_iconst (n := 55) (v := 1) (x := 1) (by decide +kernel) rfl (by decide) ?_
          refine w_goto (n := 59) (off := 4) (by decide +kernel) (by decide) ?_
          refine w_iconst (n := 60) (v := 1) (x := 1) (by decide +kernel) rfl (by decide) ?_
          obtain ⟨M104, hLM104, hr136, h⟩ := h
          refine w_cV (n := 63) (idx := 406) (cal := 281) (na := 2) (nl := 3) (as := [.int 1, .int 1]) (rest := []) hLM4 (by decide +kernel) (by decide +kernel) (at_483) (by decide +kernel) rfl rfl rfl (Nat.le_of_ble_eq_true rfl) rfl hr136 ?_
          refine w_aload_n (n := 64) (i := 0) (by decide +kernel) rfl rfl ?_
          obtain ⟨v106, M105, hLM105, hr135, h⟩ := h
          refine w_cV (n := 67) (idx := 399) (cal := 280) (na := 0) (nl := 1) (as := []) (rest := []) hLM104 (by decide +kernel) (by decide +kernel) (at_483) (by decide +kernel) rfl rfl rfl (Nat.le_of_ble_eq_true rfl) rfl hr135 ?_
          by_cases c134 : v106 = 0
          · rw [if_pos c134] at h
            refine w_if_eq_j (n := 90) (off := 23) (by decide +kernel) (by decide) c134 ?_
            refine w_iconst (n := 91) (v := 0) (x := 0) (by decide +kernel) rfl (by decide) ?_
            refine w_istore_n (n := 92) (i := 1) (l1' := [some (.ref 483), some (.int 0), none, none, none, none, none, none]) (l2' := []) (by decide +kernel) rfl (Nat.le_of_ble_eq_true rfl) rfl rfl ?_
            refine w_aload_n (n := 93) (i := 0) (by decide +kernel) rfl rfl ?_
            obtain ⟨v108, M107, hLM107, hr118, h⟩ := h
            refine w_cV (n := 96) (idx := 399) (cal := 280) (na := 0) (nl := 1) (as := []) (rest := []) hLM105 (by decide +kernel) (by decide +kernel) (at_483) (by decide +kernel) rfl rfl rfl (Nat.le_of_ble_eq_true rfl) rfl hr118 ?_
            by_cases c117 : v108 = 0
            · rw [if_pos c117] at h
              refine w_if_eq_j (n := 118) (off := 22) (by decide +kernel) (by decide) c117 ?_
              exact h
            · rw [if_neg c117] at h
              refine w_if_eq_n (n := 99) (off := 22) (by decide +kernel) rfl c117 ?_
              refine w_aload_n (n := 100) (i := 0) (by decide +kernel) rfl rfl ?_
              refine w_aload_n (n := 101) (i := 0) (by decide +kernel) rfl rfl ?_
              refine w_iload_n (n := 102) (i := 1) (by decide +kernel) rfl rfl ?_
              obtain ⟨v110, M109, hLM109, hr116, h⟩ := h
              refine w_cV (n := 105) (idx := 393) (cal := 278) (na := 1) (nl := 2) (as := [.int 0]) (rest := [.ref 483]) hLM107 (by decide +kernel) (by decide +kernel) (at_483) (by decide +kernel) rfl rfl rfl (Nat.le_of_ble_eq_true rfl) rfl hr116 ?_
              refine w_iconst (n := 106) (v := -1) (x := (-1)) (by decide +kernel) rfl (by decide) ?_
              by_cases c115 : v110 = (-1)
              · rw [if_pos c115] at h
                refine w_icmp_ne_n (n := 109) (off := 7) (by decide +kernel) rfl c115 ?_
                refine w_iconst (n := 110) (v := 1) (x := 1) (by decide +kernel) rfl (by decide) ?_
                refine w_goto (n := 114) (off := 4) (by decide +kernel) (by decide) ?_
                refine w_iconst (n := 115) (v := 3) (x := 3) (by decide +kernel) rfl (by decide) ?_
                obtain ⟨M113, hLM113, hr114, h⟩ := h
                refine w_cV (n := 118) (idx := 406) (cal := 281) (na := 2) (nl := 3) (as := [.int 1, .int 3]) (rest := []) hLM109 (by decide +kernel) (by decide +kernel) (at_483) (by decide +kernel) rfl rfl rfl (Nat.le_of_ble_eq_true rfl) rfl hr114 ?_
                exact h
              · rw [if_neg c115] at h
                refine w_icmp_ne_j (n := 113) (off := 7) (by decide +kernel) (by decide) c115 ?_
                refine w_iconst (n := 114) (v := 0) (x := 0) (by decide +kernel) rfl (by decide) ?_
                refine w_iconst (n := 115) (v := 3) (x := 3) (by decide +kernel) rfl (by decide) ?_
                obtain ⟨M111, hLM111, hr112, h⟩ := h
                refine w_cV (n := 118) (idx := 406) (cal := 281) (na := 2) (nl := 3) (as := [.int 0, .int 3]) (rest := []) hLM109 (by decide +kernel) (by decide +kernel) (at_483) (by decide +kernel) rfl rfl rfl (Nat.le_of_ble_eq_true rfl) rfl hr112 ?_
                exact h
          · rw [if_neg c134] at h
            refine w_if_eq_n (n := 70) (off := 23) (by decide +kernel) rfl c134 ?_
            refine w_aload_n (n := 71) (i := 0) (by decide +kernel) rfl rfl ?_
            refine w_aload_n (n := 72) (i := 0) (by decide +kernel) rfl rfl ?_
            refine w_getI (n := 75) hLM105 (by decide +kernel) oO_287 fF_12_356 (at_483) (by decide) rfl ?_
            refine w_aload_n (n := 76) (i := 0) (by decide +kernel) rfl rfl ?_
            refine w_getI (n := 79) hLM105 (by decide +kernel) oO_287 fF_12_353 (at_483) (by decide) rfl ?_
            refine w_aload_n (n := 80) (i := 0) (by decide +kernel) rfl rfl ?_
            refine w_getI (n := 83) hLM105 (by decide +kernel) oO_287 fF_12_356 (at_483) (by decide) rfl ?_
            refine w_isub (n := 84) (by decide +kernel) rfl ?_
            obtain ⟨v120, M119, hLM119, hr133, h⟩ := h
            refine w_cV (n := 87) (idx := 390) (cal := 277) (na := 2) (nl := 3) (as := [.int (ak_I M105 483 20), .int ((ak_I M105 483 19) - (ak_I M105 483 20))]) (rest := []) hLM105 (by decide +kernel) (by decide +kernel) (at_483) (by decide +kernel) rfl rfl rfl (Nat.le_of_ble_eq_true rfl) rfl hr133 ?_
            refine w_goto (n := 91) (off := 4) (by decide +kernel) (by decide) ?_
            refine w_istore_n (n := 92) (i := 1) (l1' := [some (.ref 483), some (.int v120), none, none, none, none, none, none]) (l2' := []) (by decide +kernel) rfl (Nat.le_of_ble_eq_true rfl) rfl rfl ?_
            refine w_aload_n (n := 93) (i := 0) (by decide +kernel) rfl rfl ?_
            obtain ⟨v122, M121, hLM121, hr132, h⟩ := h
            refine w_cV (n := 96) (idx := 399) (cal := 280) (na := 0) (nl := 1) (as := []) (rest := []) hLM119 (by decide +kernel) (by decide +kernel) (at_483) (by decide +kernel) rfl rfl rfl (Nat.le_of_ble_eq_true rfl) rfl hr132 ?_
            by_cases c131 : v122 = 0
            · rw [if_pos c131] at h
              refine w_if_eq_j (n := 118) (off := 22) (by decide +kernel) (by decide) c131 ?_
              exact h
            · rw [if_neg c131] at h
              refine w_if_eq_n (n := 99) (off := 22) (by decide +kernel) rfl c131 ?_
              refine w_aload_n (n := 100) (i := 0) (by decide +kernel) rfl rfl ?_
              refine w_aload_n (n := 101) (i := 0) (by decide +kernel) rfl rfl ?_
              refine w_iload_n (n := 102) (i := 1) (by decide +kernel) rfl rfl ?_
              obtain ⟨v124, M123, hLM123, hr130, h⟩ := h
              refine w_cV (n := 105) (idx := 393) (cal := 278) (na := 1) (nl := 2) (as := [.int v120]) (rest := [.ref 483]) hLM121 (by decide +kernel) (by decide +kernel) (at_483) (by decide +kernel) rfl rfl rfl (Nat.le_of_ble_eq_true rfl) rfl hr130 ?_
              refine w_iconst (n := 106) (v := -1) (x := (-1)) (by decide +kernel) rfl (by decide) ?_
              by_cases c129 : v124 = (-1)
              · rw [if_pos c129] at h
                refine w_icmp_ne_n (n := 109) (off := 7) (by decide +kernel) rfl c129 ?_
                refine w_iconst (n := 110) (v := 1) (x := 1) (by decide +kernel) rfl (by decide) ?_
                refine w_goto (n := 114) (off := 4) (by decide +kernel) (by decide) ?_
                refine w_iconst (n := 115) (v := 3) (x := 3) (by decide +kernel) rfl (by decide) ?_
                obtain ⟨M127, hLM127, hr128, h⟩ := h
                refine w_cV (n := 118) (idx := 406) (cal := 281) (na := 2) (nl := 3) (as := [.int 1, .int 3]) (rest := []) hLM123 (by decide +kernel) (by decide +kernel) (at_483) (by decide +kernel) rfl rfl rfl (Nat.le_of_ble_eq_true rfl) rfl hr128 ?_
                exact h
              · rw [if_neg c129] at h
                refine w_icmp_ne_j (n := 113) (off := 7) (by decide +kernel) (by decide) c129 ?_
                refine w_iconst (n := 114) (v := 0) (x := 0) (by decide +kernel) rfl (by decide) ?_
                refine w_iconst (n := 115) (v := 3) (x := 3) (by decide +kernel) rfl (by decide) ?_
                obtain ⟨M125, hLM125, hr126, h⟩ := h
                refine w_cV (n := 118) (idx := 406) (cal := 281) (na := 2) (nl := 3) (as := [.int 0, .int 3]) (rest := []) hLM123 (by decide +kernel) (by decide +kernel) (at_483) (by decide +kernel) rfl rfl rfl (Nat.le_of_ble_eq_true rfl) rfl hr126 ?_
                exact h
      · rw [if_neg c138] at h
        refine w_icmp_ne_j (n := 58) (off := 21) (by decide +kernel) (by decide) c138 ?_
        refine w_iconst (n := 59) (v := 0) (x := 0) (by decide +kernel) rfl (by decide) ?_
        refine w_iconst (n := 60) (v := 1) (x := 1) (by decide +kernel) rfl (by decide) ?_
        obtain ⟨M38, hLM38, hr70, h⟩ := h
        refine w_cV (n := 63) (idx := 406) (cal := 281) (na := 2) (nl := 3) (as := [.int 0, .int 1]) (rest := []) hLM4 (by decide +kernel) (by decide +kernel) (at_483) (by decide +kernel) rfl rfl rfl (Nat.le_of_ble_eq_true rfl) rfl hr70 ?_
        refine w_aload_n (n := 64) (i := 0) (by decide +kernel) rfl rfl ?_
        obtain ⟨v40, M39, hLM39, hr69, h⟩ := h
        refine w_cV (n := 67) (idx := 399) (cal := 280) (na := 0) (nl := 1) (as := []) (rest := []) hLM38 (by decide +kernel) (by decide +kernel) (at_483) (by decide +kernel) rfl rfl rfl (Nat.le_of_ble_eq_true rfl) rfl hr69 ?_
        by_cases c68 : v40 = 0
        · rw [if_pos c68] at h
          refine w_if_eq_j (n := 90) (off := 23) (by decide +kernel) (by decide) c68 ?_
          refine w_iconst (n := 91) (v := 0) (x := 0) (by decide +kernel) rfl (by decide) ?_
          refine w_istore_n (n := 92) (i := 1) (l1' := [some (.ref 483), some (.int 0), none, none, none, none, none, none]) (l2' := []) (by decide +kernel) rfl (Nat.le_of_ble_eq_true rfl) rfl rfl ?_
          refine w_aload_n (n := 93) (i := 0) (by decide +kernel) rfl rfl ?_
          obtain ⟨v42, M41, hLM41, hr52, h⟩ := h
          refine w_cV (n := 96) (idx := 399) (cal := 280) (na := 0) (nl := 1) (as := []) (rest := []) hLM39 (by decide +kernel) (by decide +kernel) (at_483) (by decide +kernel) rfl rfl rfl (Nat.le_of_ble_eq_true rfl) rfl hr52 ?_
          by_cases c51 : v42 = 0
          · rw [if_pos c51] at h
            refine w_if_eq_j (n := 118) (off := 22) (by decide +kernel) (by decide) c51 ?_
            exact h
          · rw [if_neg c51] at h
            refine w_if_eq_n (n := 99) (off := 22) (by decide +kernel) rfl c51 ?_
            refine w_aload_n (n := 100) (i := 0) (by decide +kernel) rfl rfl ?_
            refine w_aload_n (n := 101) (i := 0) (by decide +kernel) rfl rfl ?_
            refine w_iload_n (n := 102) (i := 1) (by decide +kernel) rfl rfl ?_
            obtain ⟨v44, M43, hLM43, hr50, h⟩ := h
            refine w_cV (n := 105) (idx := 393) (cal := 278) (na := 1) (nl := 2) (as := [.int 0]) (rest := [.ref 483]) hLM41 (by decide +kernel) (by decide +kernel) (at_483) (by decide +kernel) rfl rfl rfl (Nat.le_of_ble_eq_true rfl) rfl hr50 ?_
            refine w_iconst (n := 106) (v := -1) (x := (-1)) (by decide +kernel) rfl (by decide) ?_
            by_cases c49 : v44 = (-1)
            · rw [if_pos c49] at h
              refine w_icmp_ne_n (n := 109) (off := 7) (by decide +kernel) rfl c49 ?_
              refine w_iconst (n := 110) (v := 1) (x := 1) (by decide +kernel) rfl (by decide) ?_
              refine w_goto (n := 114) (off := 4) (by decide +kernel) (by decide) ?_
              refine w_iconst (n := 115) (v := 3) (x := 3) (by decide +kernel) rfl (by decide) ?_
              obtain ⟨M47, hLM47, hr48, h⟩ := h
              refine w_cV (n := 118) (idx := 406) (cal := 281) (na := 2) (nl := 3) (as := [.int 1, .int 3]) (rest := []) hLM43 (by decide +kernel) (by decide +kernel) (at_483) (by decide +kernel) rfl rfl rfl (Nat.le_of_ble_eq_true rfl) rfl hr48 ?_
              exact h
            · rw [if_neg c49] at h
              refine w_icmp_ne_j (n := 113) (off := 7) (by decide +kernel) (by decide) c49 ?_
              refine w_iconst (n := 114) (v := 0) (x := 0) (by decide +kernel) rfl (by decide) ?_
              refine w_iconst (n := 115) (v := 3) (x := 3) (by decide +kernel) rfl (by decide) ?_
              obtain ⟨M45, hLM45, hr46, h⟩ := h
              refine w_cV (n := 118) (idx := 406) (cal := 281) (na := 2) (nl := 3) (as := [.int 0, .int 3]) (rest := []) hLM43 (by decide +kernel) (by decide +kernel) (at_483) (by decide +kernel) rfl rfl rfl (Nat.le_of_ble_eq_true rfl) rfl hr46 ?_
              exact h
        · rw [if_neg c68] at h
          refine w_if_eq_n (n := 70) (off := 23) (by decide +kernel) rfl c68 ?_
          refine w_aload_n (n := 71) (i := 0) (by decide +kernel) rfl rfl ?_
          refine w_aload_n (n := 72) (i := 0) (by decide +kernel) rfl rfl ?_
          refine w_getI (n := 75) hLM39 (by decide +kernel) oO_287 fF_12_356 (at_483) (by decide) rfl ?_
          refine w_aload_n (n := 76) (i := 0) (by decide +kernel) rfl rfl ?_
          refine w_getI (n := 79) hLM39 (by decide +kernel) oO_287 fF_12_353 (at_483) (by decide) rfl ?_
          refine w_aload_n (n := 80) (i := 0) (by decide +kernel) rfl rfl ?_
          refine w_getI (n := 83) hLM39 (by decide +kernel) oO_287 fF_12_356 (at_483) (by decide) rfl ?_
          refine w_isub (n := 84) (by decide +kernel) rfl ?_
          obtain ⟨v54, M53, hLM53, hr67, h⟩ := h
          refine w_cV (n := 87) (idx := 390) (cal := 277) (na := 2) (nl := 3) (as := [.int (ak_I M39 483 20), .int ((ak_I M39 483 19) - (ak_I M39 483 20))]) (rest := []) hLM39 (by decide +kernel) (by decide +kernel) (at_483) (by decide +kernel) rfl rfl rfl (Nat.le_of_ble_eq_true rfl) rfl hr67 ?_
          refine w_goto (n := 91) (off := 4) (by decide +kernel) (by decide) ?_
          refine w_istore_n (n := 92) (i := 1) (l1' := [some (.ref 483), some (.int v54), none, none, none, none, none, none]) (l2' := []) (by decide +kernel) rfl (Nat.le_of_ble_eq_true rfl) rfl rfl ?_
          refine w_aload_n (n := 93) (i := 0) (by decide +kernel) rfl rfl ?_
          obtain ⟨v56, M55, hLM55, hr66, h⟩ := h
          refine w_cV (n := 96) (idx := 399) (cal := 280) (na := 0) (nl := 1) (as := []) (rest := []) hLM53 (by decide +kernel) (by decide +kernel) (at_483) (by decide +kernel) rfl rfl rfl (Nat.le_of_ble_eq_true rfl) rfl hr66 ?_
          by_cases c65 : v56 = 0
          · rw [if_pos c65] at h
            refine w_if_eq_j (n := 118) (off := 22) (by decide +kernel) (by decide) c65 ?_
            exact h
          · rw [if_neg c65] at h
            refine w_if_eq_n (n := 99) (off := 22) (by decide +kernel) rfl c65 ?_
            refine w_aload_n (n := 100) (i := 0) (by decide +kernel) rfl rfl ?_
            refine w_aload_n (n := 101) (i := 0) (by decide +kernel) rfl rfl ?_
            refine w_iload_n (n := 102) (i := 1) (by decide +kernel) rfl rfl ?_
            obtain ⟨v58, M57, hLM57, hr64, h⟩ := h
            refine w_cV (n := 105) (idx := 393) (cal := 278) (na := 1) (nl := 2) (as := [.int v54]) (rest := [.ref 483]) hLM55 (by decide +kernel) (by decide +kernel) (at_483) (by decide +kernel) rfl rfl rfl (Nat.le_of_ble_eq_true rfl) rfl hr64 ?_
            refine w_iconst (n := 106) (v := -1) (x := (-1)) (by decide +kernel) rfl (by decide) ?_
            by_cases c63 : v58 = (-1)
            · rw [if_pos c63] at h
              refine w_icmp_ne_n (n := 109) (off := 7) (by decide +kernel) rfl c63 ?_
              refine w_iconst (n := 110) (v := 1) (x := 1) (by decide +kernel) rfl (by decide) ?_
              refine w_goto (n := 114) (off := 4) (by decide +kernel) (by decide) ?_
              refine w_iconst (n := 115) (v := 3) (x := 3) (by decide +kernel) rfl (by decide) ?_
              obtain ⟨M61, hLM61, hr62, h⟩ := h
              refine w_cV (n := 118) (idx := 406) (cal := 281) (na := 2) (nl := 3) (as := [.int 1, .int 3]) (rest := []) hLM57 (by decide +kernel) (by decide +kernel) (at_483) (by decide +kernel) rfl rfl rfl (Nat.le_of_ble_eq_true rfl) rfl hr62 ?_
              exact h
            · rw [if_neg c63] at h
              refine w_icmp_ne_j (n := 113) (off := 7) (by decide +kernel) (by decide) c63 ?_
              refine w_iconst (n := 114) (v := 0) (x := 0) (by decide +kernel) rfl (by decide) ?_
              refine w_iconst (n := 115) (v := 3) (x := 3) (by decide +kernel) rfl (by decide) ?_
              obtain ⟨M59, hLM59, hr60, h⟩ := h
              refine w_cV (n := 118) (idx := 406) (cal := 281) (na := 2) (nl := 3) (as := [.int 0, .int 3]) (rest := []) hLM57 (by decide +kernel) (by decide +kernel) (at_483) (by decide +kernel) rfl rfl rfl (Nat.le_of_ble_eq_true rfl) rfl hr60 ?_
              exact h
    · rw [if_neg c139] at h
      refine w_icmp_ne_j (n := 58) (off := 29) (by decide +kernel) (by decide) c139 ?_
      refine w_iconst (n := 59) (v := 0) (x := 0) (by decide +kernel) rfl (by decide) ?_
      refine w_iconst (n := 60) (v := 1) (x := 1) (by decide +kernel) rfl (by decide) ?_
      obtain ⟨M5, hLM5, hr37, h⟩ := h
      refine w_cV (n := 63) (idx := 406) (cal := 281) (na := 2) (nl := 3) (as := [.int 0, .int 1]) (rest := []) hLM4 (by decide +kernel) (by decide +kernel) (at_483) (by decide +kernel) rfl rfl rfl (Nat.le_of_ble_eq_true rfl) rfl hr37 ?_
      refine w_aload_n (n := 64) (i := 0) (by decide +kernel) rfl rfl ?_
      obtain ⟨v7, M6, hLM6, hr36, h⟩ := h
      refine w_cV (n := 67) (idx := 399) (cal := 280) (na := 0) (nl := 1) (as := []) (rest := []) hLM5 (by decide +kernel) (by decide +kernel) (at_483) (by decide +kernel) rfl rfl rfl (Nat.le_of_ble_eq_true rfl) rfl hr36 ?_
      by_cases c35 : v7 = 0
      · rw [if_pos c35] at h
        refine w_if_eq_j (n := 90) (off := 23) (by decide +kernel) (by decide) c35 ?_
        refine w_iconst (n := 91) (v := 0) (x := 0) (by decide +kernel) rfl (by decide) ?_
        refine w_istore_n (n := 92) (i := 1) (l1' := [some (.ref 483), some (.int 0), none, none, none, none, none, none]) (l2' := []) (by decide +kernel) rfl (Nat.le_of_ble_eq_true rfl) rfl rfl ?_
        refine w_aload_n (n := 93) (i := 0) (by decide +kernel) rfl rfl ?_
        obtain ⟨v9, M8, hLM8, hr19, h⟩ := h
        refine w_cV (n := 96) (idx := 399) (cal := 280) (na := 0) (nl := 1) (as := []) (rest := []) hLM6 (by decide +kernel) (by decide +kernel) (at_483) (by decide +kernel) rfl rfl rfl (Nat.le_of_ble_eq_true rfl) rfl hr19 ?_
        by_cases c18 : v9 = 0
        · rw [if_pos c18] at h
          refine w_if_eq_j (n := 118) (off := 22) (by decide +kernel) (by decide) c18 ?_
          exact h
        · rw [if_neg c18] at h
          refine w_if_eq_n (n := 99) (off := 22) (by decide +kernel) rfl c18 ?_
          refine w_aload_n (n := 100) (i := 0) (by decide +kernel) rfl rfl ?_
          refine w_aload_n (n := 101) (i := 0) (by decide +kernel) rfl rfl ?_
          refine w_iload_n (n := 102) (i := 1) (by decide +kernel) rfl rfl ?_
          obtain ⟨v11, M10, hLM10, hr17, h⟩ := h
          refine w_cV (n := 105) (idx := 393) (cal := 278) (na := 1) (nl := 2) (as := [.int 0]) (rest := [.ref 483]) hLM8 (by decide +kernel) (by decide +kernel) (at_483) (by decide +kernel) rfl rfl rfl (Nat.le_of_ble_eq_true rfl) rfl hr17 ?_
          refine w_iconst (n := 106) (v := -1) (x := (-1)) (by decide +kernel) rfl (by decide) ?_
          by_cases c16 : v11 = (-1)
          · rw [if_pos c16] at h
            refine w_icmp_ne_n (n := 109) (off := 7) (by decide +kernel) rfl c16 ?_
            refine w_iconst (n := 110) (v := 1) (x := 1) (by decide +kernel) rfl (by decide) ?_
            refine w_goto (n := 114) (off := 4) (by decide +kernel) (by decide) ?_
            refine w_iconst (n := 115) (v := 3) (x := 3) (by decide +kernel) rfl (by decide) ?_
            obtain ⟨M14, hLM14, hr15, h⟩ := h
            refine w_cV (n := 118) (idx := 406) (cal := 281) (na := 2) (nl := 3) (as := [.int 1, .int 3]) (rest := []) hLM10 (by decide +kernel) (by decide +kernel) (at_483) (by decide +kernel) rfl rfl rfl (Nat.le_of_ble_eq_true rfl) rfl hr15 ?_
            exact h
          · rw [if_neg c16] at h
            refine w_icmp_ne_j (n := 113) (off := 7) (by decide +kernel) (by decide) c16 ?_
            refine w_iconst (n := 114) (v := 0) (x := 0) (by decide +kernel) rfl (by decide) ?_
            refine w_iconst (n := 115) (v := 3) (x := 3) (by decide +kernel) rfl (by decide) ?_
            obtain ⟨M12, hLM12, hr13, h⟩ := h
            refine w_cV (n := 118) (idx := 406) (cal := 281) (na := 2) (nl := 3) (as := [.int 0, .int 3]) (rest := []) hLM10 (by decide +kernel) (by decide +kernel) (at_483) (by decide +kernel) rfl rfl rfl (Nat.le_of_ble_eq_true rfl) rfl hr13 ?_
            exact h
      · rw [if_neg c35] at h
        refine w_if_eq_n (n := 70) (off := 23) (by decide +kernel) rfl c35 ?_
        refine w_aload_n (n := 71) (i := 0) (by decide +kernel) rfl rfl ?_
        refine w_aload_n (n := 72) (i := 0) (by decide +kernel) rfl rfl ?_
        refine w_getI (n := 75) hLM6 (by decide +kernel) oO_287 fF_12_356 (at_483) (by decide) rfl ?_
        refine w_aload_n (n := 76) (i := 0) (by decide +kernel) rfl rfl ?_
        refine w_getI (n := 79) hLM6 (by decide +kernel) oO_287 fF_12_353 (at_483) (by decide) rfl ?_
        refine w_aload_n (n := 80) (i := 0) (by decide +kernel) rfl rfl ?_
        refine w_getI (n := 83) hLM6 (by decide +kernel) oO_287 fF_12_356 (at_483) (by decide) rfl ?_
        refine w_isub (n := 84) (by decide +kernel) rfl ?_
        obtain ⟨v21, M20, hLM20, hr34, h⟩ := h
        refine w_cV (n := 87) (idx := 390) (cal := 277) (na := 2) (nl := 3) (as := [.int (ak_I M6 483 20), .int ((ak_I M6 483 19) - (ak_I M6 483 20))]) (rest := []) hLM6 (by decide +kernel) (by decide +kernel) (at_483) (by decide +kernel) rfl rfl rfl (Nat.le_of_ble_eq_true rfl) rfl hr34 ?_
        refine w_goto (n := 91) (off := 4) (by decide +kernel) (by decide) ?_
        refine w_istore_n (n := 92) (i := 1) (l1' := [some (.ref 483), some (.int v21), none, none, none, none, none, none]) (l2' := []) (by decide +kernel) rfl (Nat.le_of_ble_eq_true rfl) rfl rfl ?_
        refine w_aload_n (n := 93) (i := 0) (by decide +kernel) rfl rfl ?_
        obtain ⟨v23, M22, hLM22, hr33, h⟩ := h
        refine w_cV (n := 96) (idx := 399) (cal := 280) (na := 0) (nl := 1) (as := []) (rest := []) hLM20 (by decide +kernel) (by decide +kernel) (at_483) (by decide +kernel) rfl rfl rfl (Nat.le_of_ble_eq_true rfl) rfl hr33 ?_
        by_cases c32 : v23 = 0
        · rw [if_pos c32] at h
          refine w_if_eq_j (n := 118) (off := 22) (by decide +kernel) (by decide) c32 ?_
          exact h
        · rw [if_neg c32] at h
          refine w_if_eq_n (n := 99) (off := 22) (by decide +kernel) rfl c32 ?_
          refine w_aload_n (n := 100) (i := 0) (by decide +kernel) rfl rfl ?_
          refine w_aload_n (n := 101) (i := 0) (by decide +kernel) rfl rfl ?_
          refine w_iload_n (n := 102) (i := 1) (by decide +kernel) rfl rfl ?_
          obtain ⟨v25, M24, hLM24, hr31, h⟩ := h
          refine w_cV (n := 105) (idx := 393) (cal := 278) (na := 1) (nl := 2) (as := [.int v21]) (rest := [.ref 483]) hLM22 (by decide +kernel) (by decide +kernel) (at_483) (by decide +kernel) rfl rfl rfl (Nat.le_of_ble_eq_true rfl) rfl hr31 ?_
          refine w_iconst (n := 106) (v := -1) (x := (-1)) (by decide +kernel) rfl (by decide) ?_
          by_cases c30 : v25 = (-1)
          · rw [if_pos c30] at h
            refine w_icmp_ne_n (n := 109) (off := 7) (by decide +kernel) rfl c30 ?_
            refine w_iconst (n := 110) (v := 1) (x := 1) (by decide +kernel) rfl (by decide) ?_
            refine w_goto (n := 114) (off := 4) (by decide +kernel) (by decide) ?_
            refine w_iconst (n := 115) (v := 3) (x := 3) (by decide +kernel) rfl (by decide) ?_
            obtain ⟨M28, hLM28, hr29, h⟩ := h
            refine w_cV (n := 118) (idx := 406) (cal := 281) (na := 2) (nl := 3) (as := [.int 1, .int 3]) (rest := []) hLM24 (by decide +kernel) (by decide +kernel) (at_483) (by decide +kernel) rfl rfl rfl (Nat.le_of_ble_eq_true rfl) rfl hr29 ?_
            exact h
          · rw [if_neg c30] at h
            refine w_icmp_ne_j (n := 113) (off := 7) (by decide +kernel) (by decide) c30 ?_
            refine w_iconst (n := 114) (v := 0) (x := 0) (by decide +kernel) rfl (by decide) ?_
            refine w_iconst (n := 115) (v := 3) (x := 3) (by decide +kernel) rfl (by decide) ?_
            obtain ⟨M26, hLM26, hr27, h⟩ := h
            refine w_cV (n := 118) (idx := 406) (cal := 281) (na := 2) (nl := 3) (as := [.int 0, .int 3]) (rest := []) hLM24 (by decide +kernel) (by decide +kernel) (at_483) (by decide +kernel) rfl rfl rfl (Nat.le_of_ble_eq_true rfl) rfl hr27 ?_
            exact h
  · rw [if_neg c281] at h
    refine w_icmp_ge_n (n := 10) (off := 7) (by decide +kernel) rfl c281 ?_
    refine w_iconst (n := 11) (v := 1) (x := 1) (by decide +kernel) rfl (by decide) ?_
    refine w_goto (n := 15) (off := 4) (by decide +kernel) (by decide) ?_
    refine w_iconst (n := 16) (v := 4) (x := 4) (by decide +kernel) rfl (by decide) ?_
    obtain ⟨M142, hLM142, hr280, h⟩ := h
    refine w_cV (n := 19) (idx := 406) (cal := 281) (na := 2) (nl := 3) (as := [.int 1, .int 4]) (rest := []) hLM1 (by decide +kernel) (by decide +kernel) (at_483) (by decide +kernel) rfl rfl rfl (Nat.le_of_ble_eq_true rfl) rfl hr280 ?_
    refine w_aload_n (n := 20) (i := 0) (by decide +kernel) rfl rfl ?_
    obtain ⟨M143, hLM143, hr279, h⟩ := h
    refine w_cV (n := 23) (idx := 410) (cal := 282) (na := 0) (nl := 1) (as := []) (rest := []) hLM142 (by decide +kernel) (by decide +kernel) (at_483) (by decide +kernel) rfl rfl rfl (Nat.le_of_ble_eq_true rfl) rfl hr279 ?_
    refine w_aload_n (n := 24) (i := 0) (by decide +kernel) rfl rfl ?_
    refine w_aload_n (n := 25) (i := 0) (by decide +kernel) rfl rfl ?_
    refine w_getI (n := 28) hLM143 (by decide +kernel) oO_287 fF_12_359 (at_483) (by decide) rfl ?_
    refine w_iconst (n := 29) (v := 1) (x := 1) (by decide +kernel) rfl (by decide) ?_
    by_cases c278 : ak_I M143 483 21 = 1
    · rw [if_pos c278] at h
      refine w_icmp_ne_n (n := 32) (off := 29) (by decide +kernel) rfl c278 ?_
      refine w_aload_n (n := 33) (i := 0) (by decide +kernel) rfl rfl ?_
      refine w_getI (n := 36) hLM143 (by decide +kernel) oO_287 fF_12_368 (at_483) (by decide) rfl ?_
      refine w_iconst (n := 37) (v := -1) (x := (-1)) (by decide +kernel) rfl (by decide) ?_
      by_cases c277 : ak_I M143 483 22 = (-1)
      · rw [if_pos c277] at h
        refine w_icmp_ne_n (n := 40) (off := 21) (by decide +kernel) rfl c277 ?_
        refine w_aload_n (n := 41) (i := 0) (by decide +kernel) rfl rfl ?_
        refine w_getI (n := 44) hLM143 (by decide +kernel) oO_287 fF_12_353 (at_483) (by decide) rfl ?_
        refine w_aload_n (n := 45) (i := 0) (by decide +kernel) rfl rfl ?_
        refine w_getI (n := 48) hLM143 (by decide +kernel) oO_287 fF_12_356 (at_483) (by decide) rfl ?_
        refine w_isub (n := 49) (by decide +kernel) rfl ?_
        refine w_bipush (n := 51) (v := 6) (x := 6) (by decide +kernel) rfl (by decide) ?_
        by_cases c276 : 6 < (ak_I M143 483 19) - (ak_I M143 483 20)
        · rw [if_pos c276] at h
          refine w_icmp_gt_j (n := 58) (off := 7) (by decide +kernel) (by decide) c276 ?_
          refine w_iconst (n := 59) (v := 0) (x := 0) (by decide +kernel) rfl (by decide) ?_
          refine w_iconst (n := 60) (v := 1) (x := 1) (by decide +kernel) rfl (by decide) ?_
          obtain ⟨M210, hLM210, hr242, h⟩ := h
          refine w_cV (n := 63) (idx := 406) (cal := 281) (na := 2) (nl := 3) (as := [.int 0, .int 1]) (rest := []) hLM143 (by decide +kernel) (by decide +kernel) (at_483) (by decide +kernel) rfl rfl rfl (Nat.le_of_ble_eq_true rfl) rfl hr242 ?_
          refine w_aload_n (n := 64) (i := 0) (by decide +kernel) rfl rfl ?_
          obtain ⟨v212, M211, hLM211, hr241, h⟩ := h
          refine w_cV (n := 67) (idx := 399) (cal := 280) (na := 0) (nl := 1) (as := []) (rest := []) hLM210 (by decide +kernel) (by decide +kernel) (at_483) (by decide +kernel) rfl rfl rfl (Nat.le_of_ble_eq_true rfl) rfl hr241 ?_
          by_cases c240 : v212 = 0
          · rw [if_pos c240] at h
            refine w_if_eq_j (n := 90) (off := 23) (by decide +kernel) (by decide) c240 ?_
            refine w_iconst (n := 91) (v := 0) (x := 0) (by decide +kernel) rfl (by decide) ?_
            refine w_istore_n (n := 92) (i := 1) (l1' := [some (.ref 483), some (.int 0), none, none, none, none, none, none]) (l2' := []) (by decide +kernel) rfl (Nat.le_of_ble_eq_true rfl) rfl rfl ?_
            refine w_aload_n (n := 93) (i := 0) (by decide +kernel) rfl rfl ?_
            obtain ⟨v214, M213, hLM213, hr224, h⟩ := h
            refine w_cV (n := 96) (idx := 399) (cal := 280) (na := 0) (nl := 1) (as := []) (rest := []) hLM211 (by decide +kernel) (by decide +kernel) (at_483) (by decide +kernel) rfl rfl rfl (Nat.le_of_ble_eq_true rfl) rfl hr224 ?_
            by_cases c223 : v214 = 0
            · rw [if_pos c223] at h
              refine w_if_eq_j (n := 118) (off := 22) (by decide +kernel) (by decide) c223 ?_
              exact h
            · rw [if_neg c223] at h
              refine w_if_eq_n (n := 99) (off := 22) (by decide +kernel) rfl c223 ?_
              refine w_aload_n (n := 100) (i := 0) (by decide +kernel) rfl rfl ?_
              refine w_aload_n (n := 101) (i := 0) (by decide +kernel) rfl rfl ?_
              refine w_iload_n (n := 102) (i := 1) (by decide +kernel) rfl rfl ?_
              obtain ⟨v216, M215, hLM215, hr222, h⟩ := h
              refine w_cV (n := 105) (idx := 393) (cal := 278) (na := 1) (nl := 2) (as := [.int 0]) (rest := [.ref 483]) hLM213 (by decide +kernel) (by decide +kernel) (at_483) (by decide +kernel) rfl rfl rfl (Nat.le_of_ble_eq_true rfl) rfl hr222 ?_
              refine w_iconst (n := 106) (v := -1) (x := (-1)) (by decide +kernel) rfl (by decide) ?_
              by_cases c221 : v216 = (-1)
              · rw [if_pos c221] at h
                refine w_icmp_ne_n (n := 109) (off := 7) (by decide +kernel) rfl c221 ?_
                refine w_iconst (n := 110) (v := 1) (x := 1) (by decide +kernel) rfl (by decide) ?_
                refine w_goto (n := 114) (off := 4) (by decide +kernel) (by decide) ?_
                refine w_iconst (n := 115) (v := 3) (x := 3) (by decide +kernel) rfl (by decide) ?_
                obtain ⟨M219, hLM219, hr220, h⟩ := h
                refine w_cV (n := 118) (idx := 406) (cal := 281) (na := 2) (nl := 3) (as := [.int 1, .int 3]) (rest := []) hLM215 (by decide +kernel) (by decide +kernel) (at_483) (by decide +kernel) rfl rfl rfl (Nat.le_of_ble_eq_true rfl) rfl hr220 ?_
                exact h
              · rw [if_neg c221] at h
                refine w_icmp_ne_j (n := 113) (off := 7) (by decide +kernel) (by decide) c221 ?_
                refine w_iconst (n := 114) (v := 0) (x := 0) (by decide +kernel) rfl (by decide) ?_
                refine w_iconst (n := 115) (v := 3) (x := 3) (by decide +kernel) rfl (by decide) ?_
                obtain ⟨M217, hLM217, hr218, h⟩ := h
                refine w_cV (n := 118) (idx := 406) (cal := 281) (na := 2) (nl := 3) (as := [.int 0, .int 3]) (rest := []) hLM215 (by decide +kernel) (by decide +kernel) (at_483) (by decide +kernel) rfl rfl rfl (Nat.le_of_ble_eq_true rfl) rfl hr218 ?_
                exact h
          · rw [if_neg c240] at h
            refine w_if_eq_n (n := 70) (off := 23) (by decide +kernel) rfl c240 ?_
            refine w_aload_n (n := 71) (i := 0) (by decide +kernel) rfl rfl ?_
            refine w_aload_n (n := 72) (i := 0) (by decide +kernel) rfl rfl ?_
            refine w_getI (n := 75) hLM211 (by decide +kernel) oO_287 fF_12_356 (at_483) (by decide) rfl ?_
            refine w_aload_n (n := 76) (i := 0) (by decide +kernel) rfl rfl ?_
            refine w_getI (n := 79) hLM211 (by decide +kernel) oO_287 fF_12_353 (at_483) (by decide) rfl ?_
            refine w_aload_n (n := 80) (i := 0) (by decide +kernel) rfl rfl ?_
            refine w_getI (n := 83) hLM211 (by decide +kernel) oO_287 fF_12_356 (at_483) (by decide) rfl ?_
            refine w_isub (n := 84) (by decide +kernel) rfl ?_
            obtain ⟨v226, M225, hLM225, hr239, h⟩ := h
            refine w_cV (n := 87) (idx := 390) (cal := 277) (na := 2) (nl := 3) (as := [.int (ak_I M211 483 20), .int ((ak_I M211 483 19) - (ak_I M211 483 20))]) (rest := []) hLM211 (by decide +kernel) (by decide +kernel) (at_483) (by decide +kernel) rfl rfl rfl (Nat.le_of_ble_eq_true rfl) rfl hr239 ?_
            refine w_goto (n := 91) (off := 4) (by decide +kernel) (by decide) ?_
            refine w_istore_n (n := 92) (i := 1) (l1' := [some (.ref 483), some (.int v226), none, none, none, none, none, none]) (l2' := []) (by decide +kernel) rfl (Nat.le_of_ble_eq_true rfl) rfl rfl ?_
            refine w_aload_n (n := 93) (i := 0) (by decide +kernel) rfl rfl ?_
            obtain ⟨v228, M227, hLM227, hr238, h⟩ := h
            refine w_cV (n := 96) (idx := 399) (cal := 280) (na := 0) (nl := 1) (as := []) (rest := []) hLM225 (by decide +kernel) (by decide +kernel) (at_483) (by decide +kernel) rfl rfl rfl (Nat.le_of_ble_eq_true rfl) rfl hr238 ?_
            by_cases c237 : v228 = 0
            · rw [if_pos c237] at h
              refine w_if_eq_j (n := 118) (off := 22) (by decide +kernel) (by decide) c237 ?_
              exact h
            · rw [if_neg c237] at h
              refine w_if_eq_n (n := 99) (off := 22) (by decide +kernel) rfl c237 ?_
              refine w_aload_n (n := 100) (i := 0) (by decide +kernel) rfl rfl ?_
              refine w_aload_n (n := 101) (i := 0) (by decide +kernel) rfl rfl ?_
              refine w_iload_n (n := 102) (i := 1) (by decide +kernel) rfl rfl ?_
              obtain ⟨v230, M229, hLM229, hr236, h⟩ := h
              refine w_cV (n := 105) (idx := 393) (cal := 278) (na := 1) (nl := 2) (as := [.int v226]) (rest := [.ref 483]) hLM227 (by decide +kernel) (by decide +kernel) (at_483) (by decide +kernel) rfl rfl rfl (Nat.le_of_ble_eq_true rfl) rfl hr236 ?_
              refine w_iconst (n := 106) (v := -1) (x := (-1)) (by decide +kernel) rfl (by decide) ?_
              by_cases c235 : v230 = (-1)
              · rw [if_pos c235] at h
                refine w_icmp_ne_n (n := 109) (off := 7) (by decide +kernel) rfl c235 ?_
                refine w_iconst (n := 110) (v := 1) (x := 1) (by decide +kernel) rfl (by decide) ?_
                refine w_goto (n := 114) (off := 4) (by decide +kernel) (by decide) ?_
                refine w_iconst (n := 115) (v := 3) (x := 3) (by decide +kernel) rfl (by decide) ?_
                obtain ⟨M233, hLM233, hr234, h⟩ := h
                refine w_cV (n := 118) (idx := 406) (cal := 281) (na := 2) (nl := 3) (as := [.int 1, .int 3]) (rest := []) hLM229 (by decide +kernel) (by decide +kernel) (at_483) (by decide +kernel) rfl rfl rfl (Nat.le_of_ble_eq_true rfl) rfl hr234 ?_
                exact h
              · rw [if_neg c235] at h
                refine w_icmp_ne_j (n := 113) (off := 7) (by decide +kernel) (by decide) c235 ?_
                refine w_iconst (n := 114) (v := 0) (x := 0) (by decide +kernel) rfl (by decide) ?_
                refine w_iconst (n := 115) (v := 3) (x := 3) (by decide +kernel) rfl (by decide) ?_
                obtain ⟨M231, hLM231, hr232, h⟩ := h
                refine w_cV (n := 118) (idx := 406) (cal := 281) (na := 2) (nl := 3) (as := [.int 0, .int 3]) (rest := []) hLM229 (by decide +kernel) (by decide +kernel) (at_483) (by decide +kernel) rfl rfl rfl (Nat.le_of_ble_eq_true rfl) rfl hr232 ?_
                exact h
        · rw [if_neg c276] at h
          refine w_icmp_gt_n (n := 54) (off := 7) (by decide +kernel) rfl c276 ?_
          refine w_iconst (n := 55) (v := 1) (x := 1) (by decide +kernel) rfl (by decide) ?_
          refine w_goto (n := 59) (off := 4) (by decide +kernel) (by decide) ?_
          refine w_iconst (n := 60) (v := 1) (x := 1) (by decide +kernel) rfl (by decide) ?_
          obtain ⟨M243, hLM243, hr275, h⟩ := h
          refine w_cV (n := 63) (idx := 406) (cal := 281) (na := 2) (nl := 3) (as := [.int 1, .int 1]) (rest := []) hLM143 (by decide +kernel) (by decide +kernel) (at_483) (by decide +kernel) rfl rfl rfl (Nat.le_of_ble_eq_true rfl) rfl hr275 ?_
          refine w_aload_n (n := 64) (i := 0) (by decide +kernel) rfl rfl ?_
          obtain ⟨v245, M244, hLM244, hr274, h⟩ := h
          refine w_cV (n := 67) (idx := 399) (cal := 280) (na := 0) (nl := 1) (as := []) (rest := []) hLM243 (by decide +kernel) (by decide +kernel) (at_483) (by decide +kernel) rfl rfl rfl (Nat.le_of_ble_eq_true rfl) rfl hr274 ?_
          by_cases c273 : v245 = 0
          · rw [if_pos c273] at h
            refine w_if_eq_j (n := 90) (off := 23) (by decide +kernel) (by decide) c273 ?_
            refine w_iconst (n := 91) (v := 0) (x := 0) (by decide +kernel) rfl (by decide) ?_
            refine w_istore_n (n := 92) (i := 1) (l1' := [some (.ref 483), some (.int 0), none, none, none, none, none, none]) (l2' := []) (by decide +kernel) rfl (Nat.le_of_ble_eq_true rfl) rfl rfl ?_
            refine w_aload_n (n := 93) (i := 0) (by decide +kernel) rfl rfl ?_
            obtain ⟨v247, M246, hLM246, hr257, h⟩ := h
            refine w_cV (n := 96) (idx := 399) (cal := 280) (na := 0) (nl := 1) (as := []) (rest := []) hLM244 (by decide +kernel) (by decide +kernel) (at_483) (by decide +kernel) rfl rfl rfl (Nat.le_of_ble_eq_true rfl) rfl hr257 ?_
            by_cases c256 : v247 = 0
            · rw [if_pos c256] at h
              refine w_if_eq_j (n := 118) (off := 22) (by decide +kernel) (by decide) c256 ?_
              exact h
            · rw [if_neg c256] at h
              refine w_if_eq_n (n := 99) (off := 22) (by decide +kernel) rfl c256 ?_
              refine w_aload_n (n := 100) (i := 0) (by decide +kernel) rfl rfl ?_
              refine w_aload_n (n := 101) (i := 0) (by decide +kernel) rfl rfl ?_
              refine w_iload_n (n := 102) (i := 1) (by decide +kernel) rfl rfl ?_
              obtain ⟨v249, M248, hLM248, hr255, h⟩ := h
              refine w_cV (n := 105) (idx := 393) (cal := 278) (na := 1) (nl := 2) (as := [.int 0]) (rest := [.ref 483]) hLM246 (by decide +kernel) (by decide +kernel) (at_483) (by decide +kernel) rfl rfl rfl (Nat.le_of_ble_eq_true rfl) rfl hr255 ?_
              refine w_iconst (n := 106) (v := -1) (x := (-1)) (by decide +kernel) rfl (by decide) ?_
              by_cases c254 : v249 = (-1)
              · rw [if_pos c254] at h
                refine w_icmp_ne_n (n := 109) (off := 7) (by decide +kernel) rfl c254 ?_
                refine w_iconst (n := 110) (v := 1) (x := 1) (by decide +kernel) rfl (by decide) ?_
                refine w_goto (n := 114) (off := 4) (by decide +kernel) (by decide) ?_
                refine w_iconst (n := 115) (v := 3) (x := 3) (by decide +kernel) rfl (by decide) ?_
                obtain ⟨M252, hLM252, hr253, h⟩ := h
                refine w_cV (n := 118) (idx := 406) (cal := 281) (na := 2) (nl := 3) (as := [.int 1, .int 3]) (rest := []) hLM248 (by decide +kernel) (by decide +kernel) (at_483) (by decide +kernel) rfl rfl rfl (Nat.le_of_ble_eq_true rfl) rfl hr253 ?_
                exact h
              · rw [if_neg c254] at h
                refine w_icmp_ne_j (n := 113) (off := 7) (by decide +kernel) (by decide) c254 ?_
                refine w_iconst (n := 114) (v := 0) (x := 0) (by decide +kernel) rfl (by decide) ?_
                refine w_iconst (n := 115) (v := 3) (x := 3) (by decide +kernel) rfl (by decide) ?_
                obtain ⟨M250, hLM250, hr251, h⟩ := h
                refine w_cV (n := 118) (idx := 406) (cal := 281) (na := 2) (nl := 3) (as := [.int 0, .int 3]) (rest := []) hLM248 (by decide +kernel) (by decide +kernel) (at_483) (by decide +kernel) rfl rfl rfl (Nat.le_of_ble_eq_true rfl) rfl hr251 ?_
                exact h
          · rw [if_neg c273] at h
            refine w_if_eq_n (n := 70) (off := 23) (by decide +kernel) rfl c273 ?_
            refine w_aload_n (n := 71) (i := 0) (by decide +kernel) rfl rfl ?_
            refine w_aload_n (n := 72) (i := 0) (by decide +kernel) rfl rfl ?_
            refine w_getI (n := 75) hLM244 (by decide +kernel) oO_287 fF_12_356 (at_483) (by decide) rfl ?_
            refine w_aload_n (n := 76) (i := 0) (by decide +kernel) rfl rfl ?_
            refine w_getI (n := 79) hLM244 (by decide +kernel) oO_287 fF_12_353 (at_483) (by decide) rfl ?_
            refine w_aload_n (n := 80) (i := 0) (by decide +kernel) rfl rfl ?_
            refine w_getI (n := 83) hLM244 (by decide +kernel) oO_287 fF_12_356 (at_483) (by decide) rfl ?_
            refine w_isub (n := 84) (by decide +kernel) rfl ?_
            obtain ⟨v259, M258, hLM258, hr272, h⟩ := h
            refine w_cV (n := 87) (idx := 390) (cal := 277) (na := 2) (nl := 3) (as := [.int (ak_I M244 483 20), .int ((ak_I M244 483 19) - (ak_I M244 483 20))]) (rest := []) hLM244 (by decide +kernel) (by decide +kernel) (at_483) (by decide +kernel) rfl rfl rfl (Nat.le_of_ble_eq_true rfl) rfl hr272 ?_
            refine w_goto (n := 91) (off := 4) (by decide +kernel) (by decide) ?_
            refine w_istore_n (n := 92) (i := 1) (l1' := [some (.ref 483), some (.int v259), none, none, none, none, none, none]) (l2' := []) (by decide +kernel) rfl (Nat.le_of_ble_eq_true rfl) rfl rfl ?_
            refine w_aload_n (n := 93) (i := 0) (by decide +kernel) rfl rfl ?_
            obtain ⟨v261, M260, hLM260, hr271, h⟩ := h
            refine w_cV (n := 96) (idx := 399) (cal := 280) (na := 0) (nl := 1) (as := []) (rest := []) hLM258 (by decide +kernel) (by decide +kernel) (at_483) (by decide +kernel) rfl rfl rfl (Nat.le_of_ble_eq_true rfl) rfl hr271 ?_
            by_cases c270 : v261 = 0
            · rw [if_pos c270] at h
              refine w_if_eq_j (n := 118) (off := 22) (by decide +kernel) (by decide) c270 ?_
              exact h
            · rw [if_neg c270] at h
              refine w_if_eq_n (n := 99) (off := 22) (by decide +kernel) rfl c270 ?_
              refine w_aload_n (n := 100) (i := 0) (by decide +kernel) rfl rfl ?_
              refine w_aload_n (n := 101) (i := 0) (by decide +kernel) rfl rfl ?_
              refine w_iload_n (n := 102) (i := 1) (by decide +kernel) rfl rfl ?_
              obtain ⟨v263, M262, hLM262, hr269, h⟩ := h
              refine w_cV (n := 105) (idx := 393) (cal := 278) (na := 1) (nl := 2) (as := [.int v259]) (rest := [.ref 483]) hLM260 (by decide +kernel) (by decide +kernel) (at_483) (by decide +kernel) rfl rfl rfl (Nat.le_of_ble_eq_true rfl) rfl hr269 ?_
              refine w_iconst (n := 106) (v := -1) (x := (-1)) (by decide +kernel) rfl (by decide) ?_
              by_cases c268 : v263 = (-1)
              · rw [if_pos c268] at h
                refine w_icmp_ne_n (n := 109) (off := 7) (by decide +kernel) rfl c268 ?_
                refine w_iconst (n := 110) (v := 1) (x := 1) (by decide +kernel) rfl (by decide) ?_
                refine w_goto (n := 114) (off := 4) (by decide +kernel) (by decide) ?_
                refine w_iconst (n := 115) (v := 3) (x := 3) (by decide +kernel) rfl (by decide) ?_
                obtain ⟨M266, hLM266, hr267, h⟩ := h
                refine w_cV (n := 118) (idx := 406) (cal := 281) (na := 2) (nl := 3) (as := [.int 1, .int 3]) (rest := []) hLM262 (by decide +kernel) (by decide +kernel) (at_483) (by decide +kernel) rfl rfl rfl (Nat.le_of_ble_eq_true rfl) rfl hr267 ?_
                exact h
              · rw [if_neg c268] at h
                refine w_icmp_ne_j (n := 113) (off := 7) (by decide +kernel) (by decide) c268 ?_
                refine w_iconst (n := 114) (v := 0) (x := 0) (by decide +kernel) rfl (by decide) ?_
                refine w_iconst (n := 115) (v := 3) (x := 3) (by decide +kernel) rfl (by decide) ?_
                obtain ⟨M264, hLM264, hr265, h⟩ := h
                refine w_cV (n := 118) (idx := 406) (cal := 281) (na := 2) (nl := 3) (as := [.int 0, .int 3]) (rest := []) hLM262 (by decide +kernel) (by decide +kernel) (at_483) (by decide +kernel) rfl rfl rfl (Nat.le_of_ble_eq_true rfl) rfl hr265 ?_
                exact h
      · rw [if_neg c277] at h
        refine w_icmp_ne_j (n := 58) (off := 21) (by decide +kernel) (by decide) c277 ?_
        refine w_iconst (n := 59) (v := 0) (x := 0) (by decide +kernel) rfl (by decide) ?_
        refine w_iconst (n := 60) (v := 1) (x := 1) (by decide +kernel) rfl (by decide) ?_
        obtain ⟨M177, hLM177, hr209, h⟩ := h
        refine w_cV (n := 63) (idx := 406) (cal := 281) (na := 2) (nl := 3) (as := [.int 0, .int 1]) (rest := []) hLM143 (by decide +kernel) (by decide +kernel) (at_483) (by decide +kernel) rfl rfl rfl (Nat.le_of_ble_eq_true rfl) rfl hr209 ?_
        refine w_aload_n (n := 64) (i := 0) (by decide +kernel) rfl rfl ?_
        obtain ⟨v179, M178, hLM178, hr208, h⟩ := h
        refine w_cV (n := 67) (idx := 399) (cal := 280) (na := 0) (nl := 1) (as := []) (rest := []) hLM177 (by decide +kernel) (by decide +kernel) (at_483) (by decide +kernel) rfl rfl rfl (Nat.le_of_ble_eq_true rfl) rfl hr208 ?_
        by_cases c207 : v179 = 0
        · rw [if_pos c207] at h
          refine w_if_eq_j (n := 90) (off := 23) (by decide +kernel) (by decide) c207 ?_
          refine w_iconst (n := 91) (v := 0) (x := 0) (by decide +kernel) rfl (by decide) ?_
          refine w_istore_n (n := 92) (i := 1) (l1' := [some (.ref 483), some (.int 0), none, none, none, none, none, none]) (l2' := []) (by decide +kernel) rfl (Nat.le_of_ble_eq_true rfl) rfl rfl ?_
          refine w_aload_n (n := 93) (i := 0) (by decide +kernel) rfl rfl ?_
          obtain ⟨v181, M180, hLM180, hr191, h⟩ := h
          refine w_cV (n := 96) (idx := 399) (cal := 280) (na := 0) (nl := 1) (as := []) (rest := []) hLM178 (by decide +kernel) (by decide +kernel) (at_483) (by decide +kernel) rfl rfl rfl (Nat.le_of_ble_eq_true rfl) rfl hr191 ?_
          by_cases c190 : v181 = 0
          · rw [if_pos c190] at h
            refine w_if_eq_j (n := 118) (off := 22) (by decide +kernel) (by decide) c190 ?_
            exact h
          · rw [if_neg c190] at h
            refine w_if_eq_n (n := 99) (off := 22) (by decide +kernel) rfl c190 ?_
            refine w_aload_n (n := 100) (i := 0) (by decide +kernel) rfl rfl ?_
            refine w_aload_n (n := 101) (i := 0) (by decide +kernel) rfl rfl ?_
            refine w_iload_n (n := 102) (i := 1) (by decide +kernel) rfl rfl ?_
            obtain ⟨v183, M182, hLM182, hr189, h⟩ := h
            refine w_cV (n := 105) (idx := 393) (cal := 278) (na := 1) (nl := 2) (as := [.int 0]) (rest := [.ref 483]) hLM180 (by decide +kernel) (by decide +kernel) (at_483) (by decide +kernel) rfl rfl rfl (Nat.le_of_ble_eq_true rfl) rfl hr189 ?_
            refine w_iconst (n := 106) (v := -1) (x := (-1)) (by decide +kernel) rfl (by decide) ?_
            by_cases c188 : v183 = (-1)
            · rw [if_pos c188] at h
              refine w_icmp_ne_n (n := 109) (off := 7) (by decide +kernel) rfl c188 ?_
              refine w_iconst (n := 110) (v := 1) (x := 1) (by decide +kernel) rfl (by decide) ?_
              refine w_goto (n := 114) (off := 4) (by decide +kernel) (by decide) ?_
              refine w_iconst (n := 115) (v := 3) (x := 3) (by decide +kernel) rfl (by decide) ?_
              obtain ⟨M186, hLM186, hr187, h⟩ := h
              refine w_cV (n := 118) (idx := 406) (cal := 281) (na := 2) (nl := 3) (as := [.int 1, .int 3]) (rest := []) hLM182 (by decide +kernel) (by decide +kernel) (at_483) (by decide +kernel) rfl rfl rfl (Nat.le_of_ble_eq_true rfl) rfl hr187 ?_
              exact h
            · rw [if_neg c188] at h
              refine w_icmp_ne_j (n := 113) (off := 7) (by decide +kernel) (by decide) c188 ?_
              refine w_iconst (n := 114) (v := 0) (x := 0) (by decide +kernel) rfl (by decide) ?_
              refine w_iconst (n := 115) (v := 3) (x := 3) (by decide +kernel) rfl (by decide) ?_
              obtain ⟨M184, hLM184, hr185, h⟩ := h
              refine w_cV (n := 118) (idx := 406) (cal := 281) (na := 2) (nl := 3) (as := [.int 0, .int 3]) (rest := []) hLM182 (by decide +kernel) (by decide +kernel) (at_483) (by decide +kernel) rfl rfl rfl (Nat.le_of_ble_eq_true rfl) rfl hr185 ?_
              exact h
        · rw [if_neg c207] at h
          refine w_if_eq_n (n := 70) (off := 23) (by decide +kernel) rfl c207 ?_
          refine w_aload_n (n := 71) (i := 0) (by decide +kernel) rfl rfl ?_
          refine w_aload_n (n := 72) (i := 0) (by decide +kernel) rfl rfl ?_
          refine w_getI (n := 75) hLM178 (by decide +kernel) oO_287 fF_12_356 (at_483) (by decide) rfl ?_
          refine w_aload_n (n := 76) (i := 0) (by decide +kernel) rfl rfl ?_
          refine w_getI (n := 79) hLM178 (by decide +kernel) oO_287 fF_12_353 (at_483) (by decide) rfl ?_
          refine w_aload_n (n := 80) (i := 0) (by decide +kernel) rfl rfl ?_
          refine w_getI (n := 83) hLM178 (by decide +kernel) oO_287 fF_12_356 (at_483) (by decide) rfl ?_
          refine w_isub (n := 84) (by decide +kernel) rfl ?_
          obtain ⟨v193, M192, hLM192, hr206, h⟩ := h
          refine w_cV (n := 87) (idx := 390) (cal := 277) (na := 2) (nl := 3) (as := [.int (ak_I M178 483 20), .int ((ak_I M178 483 19) - (ak_I M178 483 20))]) (rest := []) hLM178 (by decide +kernel) (by decide +kernel) (at_483) (by decide +kernel) rfl rfl rfl (Nat.le_of_ble_eq_true rfl) rfl hr206 ?_
          refine w_goto (n := 91) (off := 4) (by decide +kernel) (by decide) ?_
          refine w_istore_n (n := 92) (i := 1) (l1' := [some (.ref 483), some (.int v193), none, none, none, none, none, none]) (l2' := []) (by decide +kernel) rfl (Nat.le_of_ble_eq_true rfl) rfl rfl ?_
          refine w_aload_n (n := 93) (i := 0) (by decide +kernel) rfl rfl ?_
          obtain ⟨v195, M194, hLM194, hr205, h⟩ := h
          refine w_cV (n := 96) (idx := 399) (cal := 280) (na := 0) (nl := 1) (as := []) (rest := []) hLM192 (by decide +kernel) (by decide +kernel) (at_483) (by decide +kernel) rfl rfl rfl (Nat.le_of_ble_eq_true rfl) rfl hr205 ?_
          by_cases c204 : v195 = 0
          · rw [if_pos c204] at h
            refine w_if_eq_j (n := 118) (off := 22) (by decide +kernel) (by decide) c204 ?_
            exact h
          · rw [if_neg c204] at h
            refine w_if_eq_n (n := 99) (off := 22) (by decide +kernel) rfl c204 ?_
            refine w_aload_n (n := 100) (i := 0) (by decide +kernel) rfl rfl ?_
            refine w_aload_n (n := 101) (i := 0) (by decide +kernel) rfl rfl ?_
            refine w_iload_n (n := 102) (i := 1) (by decide +kernel) rfl rfl ?_
            obtain ⟨v197, M196, hLM196, hr203, h⟩ := h
            refine w_cV (n := 105) (idx := 393) (cal := 278) (na := 1) (nl := 2) (as := [.int v193]) (rest := [.ref 483]) hLM194 (by decide +kernel) (by decide +kernel) (at_483) (by decide +kernel) rfl rfl rfl (Nat.le_of_ble_eq_true rfl) rfl hr203 ?_
            refine w_iconst (n := 106) (v := -1) (x := (-1)) (by decide +kernel) rfl (by decide) ?_
            by_cases c202 : v197 = (-1)
            · rw [if_pos c202] at h
              refine w_icmp_ne_n (n := 109) (off := 7) (by decide +kernel) rfl c202 ?_
              refine w_iconst (n := 110) (v := 1) (x := 1) (by decide +kernel) rfl (by decide) ?_
              refine w_goto (n := 114) (off := 4) (by decide +kernel) (by decide) ?_
              refine w_iconst (n := 115) (v := 3) (x := 3) (by decide +kernel) rfl (by decide) ?_
              obtain ⟨M200, hLM200, hr201, h⟩ := h
              refine w_cV (n := 118) (idx := 406) (cal := 281) (na := 2) (nl := 3) (as := [.int 1, .int 3]) (rest := []) hLM196 (by decide +kernel) (by decide +kernel) (at_483) (by decide +kernel) rfl rfl rfl (Nat.le_of_ble_eq_true rfl) rfl hr201 ?_
              exact h
            · rw [if_neg c202] at h
              refine w_icmp_ne_j (n := 113) (off := 7) (by decide +kernel) (by decide) c202 ?_
              refine w_iconst (n := 114) (v := 0) (x := 0) (by decide +kernel) rfl (by decide) ?_
              refine w_iconst (n := 115) (v := 3) (x := 3) (by decide +kernel) rfl (by decide) ?_
              obtain ⟨M198, hLM198, hr199, h⟩ := h
              refine w_cV (n := 118) (idx := 406) (cal := 281) (na := 2) (nl := 3) (as := [.int 0, .int 3]) (rest := []) hLM196 (by decide +kernel) (by decide +kernel) (at_483) (by decide +kernel) rfl rfl rfl (Nat.le_of_ble_eq_true rfl) rfl hr199 ?_
              exact h
    · rw [if_neg c278] at h
      refine w_icmp_ne_j (n := 58) (off := 29) (by decide +kernel) (by decide) c278 ?_
      refine w_iconst (n := 59) (v := 0) (x := 0) (by decide +kernel) rfl (by decide) ?_
      refine w_iconst (n := 60) (v := 1) (x := 1) (by decide +kernel) rfl (by decide) ?_
      obtain ⟨M144, hLM144, hr176, h⟩ := h
      refine w_cV (n := 63) (idx := 406) (cal := 281) (na := 2) (nl := 3) (as := [.int 0, .int 1]) (rest := []) hLM143 (by decide +kernel) (by decide +kernel) (at_483) (by decide +kernel) rfl rfl rfl (Nat.le_of_ble_eq_true rfl) rfl hr176 ?_
      refine w_aload_n (n := 64) (i := 0) (by decide +kernel) rfl rfl ?_
      obtain ⟨v146, M145, hLM145, hr175, h⟩ := h
      refine w_cV (n := 67) (idx := 399) (cal := 280) (na := 0) (nl := 1) (as := []) (rest := []) hLM144 (by decide +kernel) (by decide +kernel) (at_483) (by decide +kernel) rfl rfl rfl (Nat.le_of_ble_eq_true rfl) rfl hr175 ?_
      by_cases c174 : v146 = 0
      · rw [if_pos c174] at h
        refine w_if_eq_j (n := 90) (off := 23) (by decide +kernel) (by decide) c174 ?_
        refine w_iconst (n := 91) (v := 0) (x := 0) (by decide +kernel) rfl (by decide) ?_
        refine w_istore_n (n := 92) (i := 1) (l1' := [some (.ref 483), some (.int 0), none, none, none, none, none, none]) (l2' := []) (by decide +kernel) rfl (Nat.le_of_ble_eq_true rfl) rfl rfl ?_
        refine w_aload_n (n := 93) (i := 0) (by decide +kernel) rfl rfl ?_
        obtain ⟨v148, M147, hLM147, hr158, h⟩ := h
        refine w_cV (n := 96) (idx := 399) (cal := 280) (na := 0) (nl := 1) (as := []) (rest := []) hLM145 (by decide +kernel) (by decide +kernel) (at_483) (by decide +kernel) rfl rfl rfl (Nat.le_of_ble_eq_true rfl) rfl hr158 ?_
        by_cases c157 : v148 = 0
        · rw [if_pos c157] at h
          refine w_if_eq_j (n := 118) (off := 22) (by decide +kernel) (by decide) c157 ?_
          exact h
        · rw [if_neg c157] at h
          refine w_if_eq_n (n := 99) (off := 22) (by decide +kernel) rfl c157 ?_
          refine w_aload_n (n := 100) (i := 0) (by decide +kernel) rfl rfl ?_
          refine w_aload_n (n := 101) (i := 0) (by decide +kernel) rfl rfl ?_
          refine w_iload_n (n := 102) (i := 1) (by decide +kernel) rfl rfl ?_
          obtain ⟨v150, M149, hLM149, hr156, h⟩ := h
          refine w_cV (n := 105) (idx := 393) (cal := 278) (na := 1) (nl := 2) (as := [.int 0]) (rest := [.ref 483]) hLM147 (by decide +kernel) (by decide +kernel) (at_483) (by decide +kernel) rfl rfl rfl (Nat.le_of_ble_eq_true rfl) rfl hr156 ?_
          refine w_iconst (n := 106) (v := -1) (x := (-1)) (by decide +kernel) rfl (by decide) ?_
          by_cases c155 : v150 = (-1)
          · rw [if_pos c155] at h
            refine w_icmp_ne_n (n := 109) (off := 7) (by decide +kernel) rfl c155 ?_
            refine w_iconst (n := 110) (v := 1) (x := 1) (by decide +kernel) rfl (by decide) ?_
            refine w_goto (n := 114) (off := 4) (by decide +kernel) (by decide) ?_
            refine w_iconst (n := 115) (v := 3) (x := 3) (by decide +kernel) rfl (by decide) ?_
            obtain ⟨M153, hLM153, hr154, h⟩ := h
            refine w_cV (n := 118) (idx := 406) (cal := 281) (na := 2) (nl := 3) (as := [.int 1, .int 3]) (rest := []) hLM149 (by decide +kernel) (by decide +kernel) (at_483) (by decide +kernel) rfl rfl rfl (Nat.le_of_ble_eq_true rfl) rfl hr154 ?_
            exact h
          · rw [if_neg c155] at h
            refine w_icmp_ne_j (n := 113) (off := 7) (by decide +kernel) (by decide) c155 ?_
            refine w_iconst (n := 114) (v := 0) (x := 0) (by decide +kernel) rfl (by decide) ?_
            refine w_iconst (n := 115) (v := 3) (x := 3) (by decide +kernel) rfl (by decide) ?_
            obtain ⟨M151, hLM151, hr152, h⟩ := h
            refine w_cV (n := 118) (idx := 406) (cal := 281) (na := 2) (nl := 3) (as := [.int 0, .int 3]) (rest := []) hLM149 (by decide +kernel) (by decide +kernel) (at_483) (by decide +kernel) rfl rfl rfl (Nat.le_of_ble_eq_true rfl) rfl hr152 ?_
            exact h
      · rw [if_neg c174] at h
        refine w_if_eq_n (n := 70) (off := 23) (by decide +kernel) rfl c174 ?_
        refine w_aload_n (n := 71) (i := 0) (by decide +kernel) rfl rfl ?_
        refine w_aload_n (n := 72) (i := 0) (by decide +kernel) rfl rfl ?_
        refine w_getI (n := 75) hLM145 (by decide +kernel) oO_287 fF_12_356 (at_483) (by decide) rfl ?_
        refine w_aload_n (n := 76) (i := 0) (by decide +kernel) rfl rfl ?_
        refine w_getI (n := 79) hLM145 (by decide +kernel) oO_287 fF_12_353 (at_483) (by decide) rfl ?_
        refine w_aload_n (n := 80) (i := 0) (by decide +kernel) rfl rfl ?_
        refine w_getI (n := 83) hLM145 (by decide +kernel) oO_287 fF_12_356 (at_483) (by decide) rfl ?_
        refine w_isub (n := 84) (by decide +kernel) rfl ?_
        obtain ⟨v160, M159, hLM159, hr173, h⟩ := h
        refine w_cV (n := 87) (idx := 390) (cal := 277) (na := 2) (nl := 3) (as := [.int (ak_I M145 483 20), .int ((ak_I M145 483 19) - (ak_I M145 483 20))]) (rest := []) hLM145 (by decide +kernel) (by decide +kernel) (at_483) (by decide +kernel) rfl rfl rfl (Nat.le_of_ble_eq_true rfl) rfl hr173 ?_
        refine w_goto (n := 91) (off := 4) (by decide +kernel) (by decide) ?_
        refine w_istore_n (n := 92) (i := 1) (l1' := [some (.ref 483), some (.int v160), none, none, none, none, none, none]) (l2' := []) (by decide +kernel) rfl (Nat.le_of_ble_eq_true rfl) rfl rfl ?_
        refine w_aload_n (n := 93) (i := 0) (by decide +kernel) rfl rfl ?_
        obtain ⟨v162, M161, hLM161, hr172, h⟩ := h
        refine w_cV (n := 96) (idx := 399) (cal := 280) (na := 0) (nl := 1) (as := []) (rest := []) hLM159 (by decide +kernel) (by decide +kernel) (at_483) (by decide +kernel) rfl rfl rfl (Nat.le_of_ble_eq_true rfl) rfl hr172 ?_
        by_cases c171 : v162 = 0
        · rw [if_pos c171] at h
          refine w_if_eq_j (n := 118) (off := 22) (by decide +kernel) (by decide) c171 ?_
          exact h
        · rw [if_neg c171] at h
          refine w_if_eq_n (n := 99) (off := 22) (by decide +kernel) rfl c171 ?_
          refine w_aload_n (n := 100) (i := 0) (by decide +kernel) rfl rfl ?_
          refine w_aload_n (n := 101) (i := 0) (by decide +kernel) rfl rfl ?_
          refine w_iload_n (n := 102) (i := 1) (by decide +kernel) rfl rfl ?_
          obtain ⟨v164, M163, hLM163, hr170, h⟩ := h
          refine w_cV (n := 105) (idx := 393) (cal := 278) (na := 1) (nl := 2) (as := [.int v160]) (rest := [.ref 483]) hLM161 (by decide +kernel) (by decide +kernel) (at_483) (by decide +kernel) rfl rfl rfl (Nat.le_of_ble_eq_true rfl) rfl hr170 ?_
          refine w_iconst (n := 106) (v := -1) (x := (-1)) (by decide +kernel) rfl (by decide) ?_
          by_cases c169 : v164 = (-1)
          · rw [if_pos c169] at h
            refine w_icmp_ne_n (n := 109) (off := 7) (by decide +kernel) rfl c169 ?_
            refine w_iconst (n := 110) (v := 1) (x := 1) (by decide +kernel) rfl (by decide) ?_
            refine w_goto (n := 114) (off := 4) (by decide +kernel) (by decide) ?_
            refine w_iconst (n := 115) (v := 3) (x := 3) (by decide +kernel) rfl (by decide) ?_
            obtain ⟨M167, hLM167, hr168, h⟩ := h
            refine w_cV (n := 118) (idx := 406) (cal := 281) (na := 2) (nl := 3) (as := [.int 1, .int 3]) (rest := []) hLM163 (by decide +kernel) (by decide +kernel) (at_483) (by decide +kernel) rfl rfl rfl (Nat.le_of_ble_eq_true rfl) rfl hr168 ?_
            exact h
          · rw [if_neg c169] at h
            refine w_icmp_ne_j (n := 113) (off := 7) (by decide +kernel) (by decide) c169 ?_
            refine w_iconst (n := 114) (v := 0) (x := 0) (by decide +kernel) rfl (by decide) ?_
            refine w_iconst (n := 115) (v := 3) (x := 3) (by decide +kernel) rfl (by decide) ?_
            obtain ⟨M165, hLM165, hr166, h⟩ := h
            refine w_cV (n := 118) (idx := 406) (cal := 281) (na := 2) (nl := 3) (as := [.int 0, .int 3]) (rest := []) hLM163 (by decide +kernel) (by decide +kernel) (at_483) (by decide +kernel) rfl rfl rfl (Nat.le_of_ble_eq_true rfl) rfl hr166 ?_
            exact h
theorem t_287_118 {X : ak_X} {M : ak_M} {r : ak_O × ak_M} (hL : ab_lay M) (y1 : Int32) (o2 : Option Value) (o3 : Option Value) (o4 : Option Value) (o5 : Option Value) (o6 : Option Value) (o7 : Option Value) (h : (∃ (M283 : ak_M), ab_lay M283 ∧ rn X 282 [.ref 483] M (.inl (none), M283) ∧ (∃ (v285 : Int32) (M284 : ak_M), ab_lay M284 ∧ rn X 284 [.ref 483, .int 0, .int 199] M283 (.inl (some (.int v285)), M284) ∧ (∃ (v287 : Int32) (M286 : ak_M), ab_lay M286 ∧ rn X 284 [.ref 483, .int 0, .int 199] M284 (.inl (some (.int v287)), M286) ∧ (∃ (v289 : Int32) (M288 : ak_M), ab_lay M288 ∧ rn X 286 [.ref 483, .int 8, .int 0, .int 9, .int 1] M286 (.inl (some (.int v289)), M288) ∧ (∃ (v291 : Int32) (M290 : ak_M), ab_lay M290 ∧ rn X 286 [.ref 483, .int 9, .int 1, .int 99, .int 20] M288 (.inl (some (.int v291)), M290) ∧ (∃ (v293 : Int32) (M292 : ak_M), ab_lay M292 ∧ rn X 286 [.ref 483, .int 10, .int 1, .int 400, .int 10] M290 (.inl (some (.int v293)), M292) ∧ (∃ (v295 : Int32) (M294 : ak_M), ab_lay M294 ∧ rn X 280 [.ref 483] M292 (.inl (some (.int v295)), M294) ∧ (if v295 = 0 then r = (.inl none, M294) else (∃ (v297 : Int32) (M296 : ak_M), ab_lay M296 ∧ rn X 168 [.ref 483] M294 (.inl (some (.int v297)), M296) ∧ (∃ (M298 : ak_M), ab_lay M298 ∧ rn X 172 [.ref 483, .int v297, .int 0, .int 1] M296 (.inl (none), M298) ∧ (∃ (M299 : ak_M), ab_lay M299 ∧ rn X 172 [.ref 483, .int v297, .int 4, .int v285] M298 (.inl (none), M299) ∧ (∃ (M300 : ak_M), ab_lay M300 ∧ rn X 172 [.ref 483, .int v297, .int 5, .int v287] M299 (.inl (none), M300) ∧ (∃ (M301 : ak_M), ab_lay M301 ∧ rn X 259 [.ref 483, .int v297] M300 (.inl (none), M301) ∧ (∃ (M302 : ak_M), ab_lay M302 ∧ rn X 172 [.ref 483, .int v297, .int 6, .int v293] M301 (.inl (none), M302) ∧ (∃ (M303 : ak_M), ab_lay M303 ∧ rn X 172 [.ref 483, .int v297, .int 8, .int v289] M302 (.inl (none), M303) ∧ (∃ (M304 : ak_M), ab_lay M304 ∧ rn X 172 [.ref 483, .int v297, .int 9, .int v291] M303 (.inl (none), M304) ∧ (∃ (M305 : ak_M), ab_lay M305 ∧ rn X 172 [.ref 483, .int v297, .int 12, .int ((-1))] M304 (.inl (none), M305) ∧ (∃ (M306 : ak_M), ab_lay M306 ∧ rn X 172 [.ref 483, .int v297, .int 13, .int ((-1))] M305 (.inl (none), M306) ∧ (∃ (M307 : ak_M), ab_lay M307 ∧ rn X 172 [.ref 483, .int v297, .int 14, .int y1] M306 (.inl (none), M307) ∧ (∃ i308 : Nat, ab_ix 1 i308 245 ∧ (∀ M309 : ak_M, M309 = ak_sI M307 484 i308 (v297 + 1) → r = (.inl none, M309))))))))))))))))))))))) : sg X 287 (118, [some (.ref 483), some (.int y1), o2, o3, o4, o5, o6, o7], [], []) M r := by
  refine w_aload_n (n := 119) (i := 0) (by decide +kernel) rfl rfl ?_
  obtain ⟨M283, hLM283, hr328, h⟩ := h
  refine w_cV (n := 122) (idx := 410) (cal := 282) (na := 0) (nl := 1) (as := []) (rest := []) hL (by decide +kernel) (by decide +kernel) (at_483) (by decide +kernel) rfl rfl rfl (Nat.le_of_ble_eq_true rfl) rfl hr328 ?_
  refine w_aload_n (n := 123) (i := 0) (by decide +kernel) rfl rfl ?_
  refine w_iconst (n := 124) (v := 0) (x := 0) (by decide +kernel) rfl (by decide) ?_
  refine w_sipush (n := 127) (v := 199) (x := 199) (by decide +kernel) rfl (by decide) ?_
  obtain ⟨v285, M284, hLM284, hr327, h⟩ := h
  refine w_cV (n := 130) (idx := 413) (cal := 284) (na := 2) (nl := 3) (as := [.int 0, .int 199]) (rest := []) hLM283 (by decide +kernel) (by decide +kernel) (at_483) (by decide +kernel) rfl rfl rfl (Nat.le_of_ble_eq_true rfl) rfl hr327 ?_
  refine w_istore_n (n := 131) (i := 2) (l1' := [some (.ref 483), some (.int y1), some (.int v285), o3, o4, o5, o6, o7]) (l2' := []) (by decide +kernel) rfl (Nat.le_of_ble_eq_true rfl) rfl rfl ?_
  refine w_aload_n (n := 132) (i := 0) (by decide +kernel) rfl rfl ?_
  refine w_iconst (n := 133) (v := 0) (x := 0) (by decide +kernel) rfl (by decide) ?_
  refine w_sipush (n := 136) (v := 199) (x := 199) (by decide +kernel) rfl (by decide) ?_
  obtain ⟨v287, M286, hLM286, hr326, h⟩ := h
  refine w_cV (n := 139) (idx := 413) (cal := 284) (na := 2) (nl := 3) (as := [.int 0, .int 199]) (rest := []) hLM284 (by decide +kernel) (by decide +kernel) (at_483) (by decide +kernel) rfl rfl rfl (Nat.le_of_ble_eq_true rfl) rfl hr326 ?_
  refine w_istore_n (n := 140) (i := 3) (l1' := [some (.ref 483), some (.int y1), some (.int v285), some (.int v287), o4, o5, o6, o7]) (l2' := []) (by decide +kernel) rfl (Nat.le_of_ble_eq_true rfl) rfl rfl ?_
  refine w_aload_n (n := 141) (i := 0) (by decide +kernel) rfl rfl ?_
  refine w_bipush (n := 143) (v := 8) (x := 8) (by decide +kernel) rfl (by decide) ?_
  refine w_iconst (n := 144) (v := 0) (x := 0) (by decide +kernel) rfl (by decide) ?_
  refine w_bipush (n := 146) (v := 9) (x := 9) (by decide +kernel) rfl (by decide) ?_
  refine w_iconst (n := 147) (v := 1) (x := 1) (by decide +kernel) rfl (by decide) ?_
  obtain ⟨v289, M288, hLM288, hr325, h⟩ := h
  refine w_cV (n := 150) (idx := 419) (cal := 286) (na := 4) (nl := 5) (as := [.int 8, .int 0, .int 9, .int 1]) (rest := []) hLM286 (by decide +kernel) (by decide +kernel) (at_483) (by decide +kernel) rfl rfl rfl (Nat.le_of_ble_eq_true rfl) rfl hr325 ?_
  refine w_istore (n := 152) (i := 4) (l1' := [some (.ref 483), some (.int y1), some (.int v285), some (.int v287), some (.int v289), o5, o6, o7]) (l2' := []) (by decide +kernel) rfl (Nat.le_of_ble_eq_true rfl) rfl rfl ?_
  refine w_aload_n (n := 153) (i := 0) (by decide +kernel) rfl rfl ?_
  refine w_bipush (n := 155) (v := 9) (x := 9) (by decide +kernel) rfl (by decide) ?_
  refine w_iconst (n := 156) (v := 1) (x := 1) (by decide +kernel) rfl (by decide) ?_
  refine w_bipush (n := 158) (v := 99) (x := 99) (by decide +kernel) rfl (by decide) ?_
  refine w_bipush (n := 160) (v := 20) (x := 20) (by decide +kernel) rfl (by decide) ?_
  obtain ⟨v291, M290, hLM290, hr324, h⟩ := h
  refine w_cV (n := 163) (idx := 419) (cal := 286) (na := 4) (nl := 5) (as := [.int 9, .int 1, .int 99, .int 20]) (rest := []) hLM288 (by decide +kernel) (by decide +kernel) (at_483) (by decide +kernel) rfl rfl rfl (Nat.le_of_ble_eq_true rfl) rfl hr324 ?_
  refine w_istore (n := 165) (i := 5) (l1' := [some (.ref 483), some (.int y1), some (.int v285), some (.int v287), some (.int v289), some (.int v291), o6, o7]) (l2' := []) (by decide +kernel) rfl (Nat.le_of_ble_eq_true rfl) rfl rfl ?_
  refine w_aload_n (n := 166) (i := 0) (by decide +kernel) rfl rfl ?_
  refine w_bipush (n := 168) (v := 10) (x := 10) (by decide +kernel) rfl (by decide) ?_
  refine w_iconst (n := 169) (v := 1) (x := 1) (by decide +kernel) rfl (by decide) ?_
  refine w_sipush (n := 172) (v := 400) (x := 400) (by decide +kernel) rfl (by decide) ?_
  refine w_bipush (n := 174) (v := 10) (x := 10) (by decide +kernel) rfl (by decide) ?_
  obtain ⟨v293, M292, hLM292, hr323, h⟩ := h
  refine w_cV (n := 177) (idx := 419) (cal := 286) (na := 4) (nl := 5) (as := [.int 10, .int 1, .int 400, .int 10]) (rest := []) hLM290 (by decide +kernel) (by decide +kernel) (at_483) (by decide +kernel) rfl rfl rfl (Nat.le_of_ble_eq_true rfl) rfl hr323 ?_
  refine w_istore (n := 179) (i := 6) (l1' := [some (.ref 483), some (.int y1), some (.int v285), some (.int v287), some (.int v289), some (.int v291), some (.int v293), o7]) (l2' := []) (by decide +kernel) rfl (Nat.le_of_ble_eq_true rfl) rfl rfl ?_
  refine w_aload_n (n := 180) (i := 0) (by decide +kernel) rfl rfl ?_
  obtain ⟨v295, M294, hLM294, hr322, h⟩ := h
  refine w_cV (n := 183) (idx := 399) (cal := 280) (na := 0) (nl := 1) (as := []) (rest := []) hLM292 (by decide +kernel) (by decide +kernel) (at_483) (by decide +kernel) rfl rfl rfl (Nat.le_of_ble_eq_true rfl) rfl hr322 ?_
  by_cases c321 : v295 = 0
  · rw [if_pos c321] at h
    refine w_if_ne_n (n := 186) (off := 4) (by decide +kernel) rfl c321 ?_
    subst h
    exact w_vreturn (by decide +kernel) (by decide +kernel)
  · rw [if_neg c321] at h
    refine w_if_ne_j (n := 187) (off := 4) (by decide +kernel) (by decide) c321 ?_
    refine w_aload_n (n := 188) (i := 0) (by decide +kernel) rfl rfl ?_
    obtain ⟨v297, M296, hLM296, hr320, h⟩ := h
    refine w_cV (n := 191) (idx := 80) (cal := 168) (na := 0) (nl := 1) (as := []) (rest := []) hLM294 (by decide +kernel) (by decide +kernel) (at_483) (by decide +kernel) rfl rfl rfl (Nat.le_of_ble_eq_true rfl) rfl hr320 ?_
    refine w_istore (n := 193) (i := 7) (l1' := [some (.ref 483), some (.int y1), some (.int v285), some (.int v287), some (.int v289), some (.int v291), some (.int v293), some (.int v297)]) (l2' := []) (by decide +kernel) rfl (Nat.le_of_ble_eq_true rfl) rfl rfl ?_
    refine w_aload_n (n := 194) (i := 0) (by decide +kernel) rfl rfl ?_
    refine w_iload (n := 196) (i := 7) (by decide +kernel) rfl rfl ?_
    refine w_iconst (n := 197) (v := 0) (x := 0) (by decide +kernel) rfl (by decide) ?_
    refine w_iconst (n := 198) (v := 1) (x := 1) (by decide +kernel) rfl (by decide) ?_
    obtain ⟨M298, hLM298, hr319, h⟩ := h
    refine w_cV (n := 201) (idx := 96) (cal := 172) (na := 3) (nl := 4) (as := [.int v297, .int 0, .int 1]) (rest := []) hLM296 (by decide +kernel) (by decide +kernel) (at_483) (by decide +kernel) rfl rfl rfl (Nat.le_of_ble_eq_true rfl) rfl hr319 ?_
    refine w_aload_n (n := 202) (i := 0) (by decide +kernel) rfl rfl ?_
    refine w_iload (n := 204) (i := 7) (by decide +kernel) rfl rfl ?_
    refine w_iconst (n := 205) (v := 4) (x := 4) (by decide +kernel) rfl (by decide) ?_
    refine w_iload_n (n := 206) (i := 2) (by decide +kernel) rfl rfl ?_
    obtain ⟨M299, hLM299, hr318, h⟩ := h
    refine w_cV (n := 209) (idx := 96) (cal := 172) (na := 3) (nl := 4) (as := [.int v297, .int 4, .int v285]) (rest := []) hLM298 (by decide +kernel) (by decide +kernel) (at_483) (by decide +kernel) rfl rfl rfl (Nat.le_of_ble_eq_true rfl) rfl hr318 ?_
    refine w_aload_n (n := 210) (i := 0) (by decide +kernel) rfl rfl ?_
    refine w_iload (n := 212) (i := 7) (by decide +kernel) rfl rfl ?_
    refine w_iconst (n := 213) (v := 5) (x := 5) (by decide +kernel) rfl (by decide) ?_
    refine w_iload_n (n := 214) (i := 3) (by decide +kernel) rfl rfl ?_
    obtain ⟨M300, hLM300, hr317, h⟩ := h
    refine w_cV (n := 217) (idx := 96) (cal := 172) (na := 3) (nl := 4) (as := [.int v297, .int 5, .int v287]) (rest := []) hLM299 (by decide +kernel) (by decide +kernel) (at_483) (by decide +kernel) rfl rfl rfl (Nat.le_of_ble_eq_true rfl) rfl hr317 ?_
    refine w_aload_n (n := 218) (i := 0) (by decide +kernel) rfl rfl ?_
    refine w_iload (n := 220) (i := 7) (by decide +kernel) rfl rfl ?_
    obtain ⟨M301, hLM301, hr316, h⟩ := h
    refine w_cV (n := 223) (idx := 320) (cal := 259) (na := 1) (nl := 2) (as := [.int v297]) (rest := []) hLM300 (by decide +kernel) (by decide +kernel) (at_483) (by decide +kernel) rfl rfl rfl (Nat.le_of_ble_eq_true rfl) rfl hr316 ?_
    refine w_aload_n (n := 224) (i := 0) (by decide +kernel) rfl rfl ?_
    refine w_iload (n := 226) (i := 7) (by decide +kernel) rfl rfl ?_
    refine w_bipush (n := 228) (v := 6) (x := 6) (by decide +kernel) rfl (by decide) ?_
    refine w_iload (n := 230) (i := 6) (by decide +kernel) rfl rfl ?_
    obtain ⟨M302, hLM302, hr315, h⟩ := h
    refine w_cV (n := 233) (idx := 96) (cal := 172) (na := 3) (nl := 4) (as := [.int v297, .int 6, .int v293]) (rest := []) hLM301 (by decide +kernel) (by decide +kernel) (at_483) (by decide +kernel) rfl rfl rfl (Nat.le_of_ble_eq_true rfl) rfl hr315 ?_
    refine w_aload_n (n := 234) (i := 0) (by decide +kernel) rfl rfl ?_
    refine w_iload (n := 236) (i := 7) (by decide +kernel) rfl rfl ?_
    refine w_bipush (n := 238) (v := 8) (x := 8) (by decide +kernel) rfl (by decide) ?_
    refine w_iload (n := 240) (i := 4) (by decide +kernel) rfl rfl ?_
    obtain ⟨M303, hLM303, hr314, h⟩ := h
    refine w_cV (n := 243) (idx := 96) (cal := 172) (na := 3) (nl := 4) (as := [.int v297, .int 8, .int v289]) (rest := []) hLM302 (by decide +kernel) (by decide +kernel) (at_483) (by decide +kernel) rfl rfl rfl (Nat.le_of_ble_eq_true rfl) rfl hr314 ?_
    refine w_aload_n (n := 244) (i := 0) (by decide +kernel) rfl rfl ?_
    refine w_iload (n := 246) (i := 7) (by decide +kernel) rfl rfl ?_
    refine w_bipush (n := 248) (v := 9) (x := 9) (by decide +kernel) rfl (by decide) ?_
    refine w_iload (n := 250) (i := 5) (by decide +kernel) rfl rfl ?_
    obtain ⟨M304, hLM304, hr313, h⟩ := h
    refine w_cV (n := 253) (idx := 96) (cal := 172) (na := 3) (nl := 4) (as := [.int v297, .int 9, .int v291]) (rest := []) hLM303 (by decide +kernel) (by decide +kernel) (at_483) (by decide +kernel) rfl rfl rfl (Nat.le_of_ble_eq_true rfl) rfl hr313 ?_
    refine w_aload_n (n := 254) (i := 0) (by decide +kernel) rfl rfl ?_
    refine w_iload (n := 256) (i := 7) (by decide +kernel) rfl rfl ?_
    refine w_bipush (n := 258) (v := 12) (x := 12) (by decide +kernel) rfl (by decide) ?_
    refine w_iconst (n := 259) (v := -1) (x := (-1)) (by decide +kernel) rfl (by decide) ?_
    obtain ⟨M305, hLM305, hr312, h⟩ := h
    refine w_cV (n := 262) (idx := 96) (cal := 172) (na := 3) (nl := 4) (as := [.int v297, .int 12, .int ((-1))]) (rest := []) hLM304 (by decide +kernel) (by decide +kernel) (at_483) (by decide +kernel) rfl rfl rfl (Nat.le_of_ble_eq_true rfl) rfl hr312 ?_
    refine w_aload_n (n := 263) (i := 0) (by decide +kernel) rfl rfl ?_
    refine w_iload (n := 265) (i := 7) (by decide +kernel) rfl rfl ?_
    refine w_bipush (n := 267) (v := 13) (x := 13) (by decide +kernel) rfl (by decide) ?_
    refine w_iconst (n := 268) (v := -1) (x := (-1)) (by decide +kernel) rfl (by decide) ?_
    obtain ⟨M306, hLM306, hr311, h⟩ := h
    refine w_cV (n := 271) (idx := 96) (cal := 172) (na := 3) (nl := 4) (as := [.int v297, .int 13, .int ((-1))]) (rest := []) hLM305 (by decide +kernel) (by decide +kernel) (at_483) (by decide +kernel) rfl rfl rfl (Nat.le_of_ble_eq_true rfl) rfl hr311 ?_
    refine w_aload_n (n := 272) (i := 0) (by decide +kernel) rfl rfl ?_
    refine w_iload (n := 274) (i := 7) (by decide +kernel) rfl rfl ?_
    refine w_bipush (n := 276) (v := 14) (x := 14) (by decide +kernel) rfl (by decide) ?_
    refine w_iload_n (n := 277) (i := 1) (by decide +kernel) rfl rfl ?_
    obtain ⟨M307, hLM307, hr310, h⟩ := h
    refine w_cV (n := 280) (idx := 96) (cal := 172) (na := 3) (nl := 4) (as := [.int v297, .int 14, .int y1]) (rest := []) hLM306 (by decide +kernel) (by decide +kernel) (at_483) (by decide +kernel) rfl rfl rfl (Nat.le_of_ble_eq_true rfl) rfl hr310 ?_
    refine w_aload_n (n := 281) (i := 0) (by decide +kernel) rfl rfl ?_
    refine w_getR (n := 284) hLM307 (by decide +kernel) oO_287 fF_12_7 (at_483) (by decide) (ar_483_1) rfl ?_
    refine w_iconst (n := 285) (v := 1) (x := 1) (by decide +kernel) rfl (by decide) ?_
    refine w_iload (n := 287) (i := 7) (by decide +kernel) rfl rfl ?_
    refine w_iconst (n := 288) (v := 1) (x := 1) (by decide +kernel) rfl (by decide) ?_
    refine w_iadd (n := 289) (by decide +kernel) rfl ?_
    obtain ⟨i308, gi308, h⟩ := h
    refine w_iast (n := 290) hLM307 (by decide +kernel) (at_484) (an_484) gi308 rfl ?_
    generalize eM309 : ak_sI M307 484 i308 (v297 + 1) = M309
    have hLM309 : ab_lay M309 := by rw [← eM309]; exact ab_lay.sI hLM307
    replace h := h M309 eM309.symm
    subst h
    exact w_vreturn (by decide +kernel) (by decide +kernel)
theorem t_288 {X : ak_X} {M : ak_M} {r : ak_O × ak_M} (hL : ab_lay M) (h : (∃ i1 : Nat, ab_ix 2 i1 245 ∧ (if 4 ≤ ak_I M 484 i1 then (∃ (M2 : ak_M), ab_lay M2 ∧ rn X 281 [.ref 483, .int 0, .int 4] M (.inl (none), M2) ∧ (∃ (M3 : ak_M), ab_lay M3 ∧ rn X 282 [.ref 483] M2 (.inl (none), M3) ∧ (if ak_I M 484 i1 = 0 then (if ak_I M 484 i1 = 0 then (∃ (v20 : Int32) (M19 : ak_M), ab_lay M19 ∧ rn X 284 [.ref 483, .int 0, .int 0] M3 (.inl (some (.int v20)), M19) ∧ (∃ (v22 : Int32) (M21 : ak_M), ab_lay M21 ∧ rn X 285 [.ref 483] M19 (.inl (some (.int v22)), M21) ∧ (∃ (v24 : Int32) (M23 : ak_M), ab_lay M23 ∧ rn X 285 [.ref 483] M21 (.inl (some (.int v24)), M23) ∧ (∃ (v26 : Int32) (M25 : ak_M), ab_lay M25 ∧ rn X 280 [.ref 483] M23 (.inl (some (.int v26)), M25) ∧ (if v26 = 0 then sg X 288 (93, [some (.ref 483), some (.int (ak_I M 484 i1)), some (.int v20), some (.int v22), some (.int v24)], [], []) M25 r else (∃ (M27 : ak_M), ab_lay M27 ∧ rn X 160 [.ref 483, .int v20, .int v22, .int v24] M25 (.inl (none), M27) ∧ sg X 288 (93, [some (.ref 483), some (.int (ak_I M 484 i1)), some (.int v20), some (.int v22), some (.int v24)], [], []) M27 r)))))) else (∃ (v5 : Int32) (M4 : ak_M), ab_lay M4 ∧ rn X 284 [.ref 483, .int 0, .int 300] M3 (.inl (some (.int v5)), M4) ∧ (∃ (v7 : Int32) (M6 : ak_M), ab_lay M6 ∧ rn X 285 [.ref 483] M4 (.inl (some (.int v7)), M6) ∧ (∃ (v9 : Int32) (M8 : ak_M), ab_lay M8 ∧ rn X 285 [.ref 483] M6 (.inl (some (.int v9)), M8) ∧ (∃ (v11 : Int32) (M10 : ak_M), ab_lay M10 ∧ rn X 280 [.ref 483] M8 (.inl (some (.int v11)), M10) ∧ (if v11 = 0 then sg X 288 (93, [some (.ref 483), some (.int (ak_I M 484 i1)), some (.int v5), some (.int v7), some (.int v9)], [], []) M10 r else (∃ (M12 : ak_M), ab_lay M12 ∧ rn X 160 [.ref 483, .int v5, .int v7, .int v9] M10 (.inl (none), M12) ∧ sg X 288 (93, [some (.ref 483), some (.int (ak_I M 484 i1)), some (.int v5), some (.int v7), some (.int v9)], [], []) M12 r))))))) else (∃ (v36 : Int32) (M35 : ak_M), ab_lay M35 ∧ rn X 280 [.ref 483] M3 (.inl (some (.int v36)), M35) ∧ (if v36 = 0 then (if ak_I M 484 i1 = 0 then (∃ (v87 : Int32) (M86 : ak_M), ab_lay M86 ∧ rn X 284 [.ref 483, .int 0, .int 0] M35 (.inl (some (.int v87)), M86) ∧ (∃ (v89 : Int32) (M88 : ak_M), ab_lay M88 ∧ rn X 285 [.ref 483] M86 (.inl (some (.int v89)), M88) ∧ (∃ (v91 : Int32) (M90 : ak_M), ab_lay M90 ∧ rn X 285 [.ref 483] M88 (.inl (some (.int v91)), M90) ∧ (∃ (v93 : Int32) (M92 : ak_M), ab_lay M92 ∧ rn X 280 [.ref 483] M90 (.inl (some (.int v93)), M92) ∧ (if v93 = 0 then sg X 288 (93, [some (.ref 483), some (.int (ak_I M 484 i1)), some (.int v87), some (.int v89), some (.int v91)], [], []) M92 r else (∃ (M94 : ak_M), ab_lay M94 ∧ rn X 160 [.ref 483, .int v87, .int v89, .int v91] M92 (.inl (none), M94) ∧ sg X 288 (93, [some (.ref 483), some (.int (ak_I M 484 i1)), some (.int v87), some (.int v89), some (.int v91)], [], []) M94 r)))))) else (∃ (v72 : Int32) (M71 : ak_M), ab_lay M71 ∧ rn X 284 [.ref 483, .int 0, .int 300] M35 (.inl (some (.int v72)), M71) ∧ (∃ (v74 : Int32) (M73 : ak_M), ab_lay M73 ∧ rn X 285 [.ref 483] M71 (.inl (some (.int v74)), M73) ∧ (∃ (v76 : Int32) (M75 : ak_M), ab_lay M75 ∧ rn X 285 [.ref 483] M73 (.inl (some (.int v76)), M75) ∧ (∃ (v78 : Int32) (M77 : ak_M), ab_lay M77 ∧ rn X 280 [.ref 483] M75 (.inl (some (.int v78)), M77) ∧ (if v78 = 0 then sg X 288 (93, [some (.ref 483), some (.int (ak_I M 484 i1)), some (.int v72), some (.int v74), some (.int v76)], [], []) M77 r else (∃ (M79 : ak_M), ab_lay M79 ∧ rn X 160 [.ref 483, .int v72, .int v74, .int v76] M77 (.inl (none), M79) ∧ sg X 288 (93, [some (.ref 483), some (.int (ak_I M 484 i1)), some (.int v72), some (.int v74), some (.int v76)], [], []) M79 r))))))) else (∃ (v38 : Int32) (M37 : ak_M), ab_lay M37 ∧ rn X 177 [.ref 483, .int ((ak_I M 484 i1) - 1), .int 0] M35 (.inl (some (.int v38)), M37) ∧ (if ak_I M 484 i1 = 0 then (∃ (v55 : Int32) (M54 : ak_M), ab_lay M54 ∧ rn X 284 [.ref 483, .int (v38 + 1), .int 0] M37 (.inl (some (.int v55)), M54) ∧ (∃ (v57 : Int32) (M56 : ak_M), ab_lay M56 ∧ rn X 285 [.ref 483] M54 (.inl (some (.int v57)), M56) ∧ (∃ (v59 : Int32) (M58 : ak_M), ab_lay M58 ∧ rn X 285 [.ref 483] M56 (.inl (some (.int v59)), M58) ∧ (∃ (v61 : Int32) (M60 : ak_M), ab_lay M60 ∧ rn X 280 [.ref 483] M58 (.inl (some (.int v61)), M60) ∧ (if v61 = 0 then sg X 288 (93, [some (.ref 483), some (.int (ak_I M 484 i1)), some (.int v55), some (.int v57), some (.int v59)], [], []) M60 r else (∃ (M62 : ak_M), ab_lay M62 ∧ rn X 160 [.ref 483, .int v55, .int v57, .int v59] M60 (.inl (none), M62) ∧ sg X 288 (93, [some (.ref 483), some (.int (ak_I M 484 i1)), some (.int v55), some (.int v57), some (.int v59)], [], []) M62 r)))))) else (∃ (v40 : Int32) (M39 : ak_M), ab_lay M39 ∧ rn X 284 [.ref 483, .int (v38 + 1), .int 300] M37 (.inl (some (.int v40)), M39) ∧ (∃ (v42 : Int32) (M41 : ak_M), ab_lay M41 ∧ rn X 285 [.ref 483] M39 (.inl (some (.int v42)), M41) ∧ (∃ (v44 : Int32) (M43 : ak_M), ab_lay M43 ∧ rn X 285 [.ref 483] M41 (.inl (some (.int v44)), M43) ∧ (∃ (v46 : Int32) (M45 : ak_M), ab_lay M45 ∧ rn X 280 [.ref 483] M43 (.inl (some (.int v46)), M45) ∧ (if v46 = 0 then sg X 288 (93, [some (.ref 483), some (.int (ak_I M 484 i1)), some (.int v40), some (.int v42), some (.int v44)], [], []) M45 r else (∃ (M47 : ak_M), ab_lay M47 ∧ rn X 160 [.ref 483, .int v40, .int v42, .int v44] M45 (.inl (none), M47) ∧ sg X 288 (93, [some (.ref 483), some (.int (ak_I M 484 i1)), some (.int v40), some (.int v42), some (.int v44)], [], []) M47 r))))))))))))) else (∃ (M107 : ak_M), ab_lay M107 ∧ rn X 281 [.ref 483, .int 1, .int 4] M (.inl (none), M107) ∧ (∃ (M108 : ak_M), ab_lay M108 ∧ rn X 282 [.ref 483] M107 (.inl (none), M108) ∧ (if ak_I M 484 i1 = 0 then (if ak_I M 484 i1 = 0 then (∃ (v125 : Int32) (M124 : ak_M), ab_lay M124 ∧ rn X 284 [.ref 483, .int 0, .int 0] M108 (.inl (some (.int v125)), M124) ∧ (∃ (v127 : Int32) (M126 : ak_M), ab_lay M126 ∧ rn X 285 [.ref 483] M124 (.inl (some (.int v127)), M126) ∧ (∃ (v129 : Int32) (M128 : ak_M), ab_lay M128 ∧ rn X 285 [.ref 483] M126 (.inl (some (.int v129)), M128) ∧ (∃ (v131 : Int32) (M130 : ak_M), ab_lay M130 ∧ rn X 280 [.ref 483] M128 (.inl (some (.int v131)), M130) ∧ (if v131 = 0 then sg X 288 (93, [some (.ref 483), some (.int (ak_I M 484 i1)), some (.int v125), some (.int v127), some (.int v129)], [], []) M130 r else (∃ (M132 : ak_M), ab_lay M132 ∧ rn X 160 [.ref 483, .int v125, .int v127, .int v129] M130 (.inl (none), M132) ∧ sg X 288 (93, [some (.ref 483), some (.int (ak_I M 484 i1)), some (.int v125), some (.int v127), some (.int v129)], [], []) M132 r)))))) else (∃ (v110 : Int32) (M109 : ak_M), ab_lay M109 ∧ rn X 284 [.ref 483, .int 0, .int 300] M108 (.inl (some (.int v110)), M109) ∧ (∃ (v112 : Int32) (M111 : ak_M), ab_lay M111 ∧ rn X 285 [.ref 483] M109 (.inl (some (.int v112)), M111) ∧ (∃ (v114 : Int32) (M113 : ak_M), ab_lay M113 ∧ rn X 285 [.ref 483] M111 (.inl (some (.int v114)), M113) ∧ (∃ (v116 : Int32) (M115 : ak_M), ab_lay M115 ∧ rn X 280 [.ref 483] M113 (.inl (some (.int v116)), M115) ∧ (if v116 = 0 then sg X 288 (93, [some (.ref 483), some (.int (ak_I M 484 i1)), some (.int v110), some (.int v112), some (.int v114)], [], []) M115 r else (∃ (M117 : ak_M), ab_lay M117 ∧ rn X 160 [.ref 483, .int v110, .int v112, .int v114] M115 (.inl (none), M117) ∧ sg X 288 (93, [some (.ref 483), some (.int (ak_I M 484 i1)), some (.int v110), some (.int v112), some (.int v114)], [], []) M117 r))))))) else (∃ (v141 : Int32) (M140 : ak_M), ab_lay M140 ∧ rn X 280 [.ref 483] M108 (.inl (some (.int v141)), M140) ∧ (if v141 = 0 then (if ak_I M 484 i1 = 0 then (∃ (v192 : Int32) (M191 : ak_M), ab_lay M191 ∧ rn X 284 [.ref 483, .int 0, .int 0] M140 (.inl (some (.int v192)), M191) ∧ (∃ (v194 : Int32) (M193 : ak_M), ab_lay M193 ∧ rn X 285 [.ref 483] M191 (.inl (some (.int v194)), M193) ∧ (∃ (v196 : Int32) (M195 : ak_M), ab_lay M195 ∧ rn X 285 [.ref 483] M193 (.inl (some (.int v196)), M195) ∧ (∃ (v198 : Int32) (M197 : ak_M), ab_lay M197 ∧ rn X 280 [.ref 483] M195 (.inl (some (.int v198)), M197) ∧ (if v198 = 0 then sg X 288 (93, [some (.ref 483), some (.int (ak_I M 484 i1)), some (.int v192), some (.int v194), some (.int v196)], [], []) M197 r else (∃ (M199 : ak_M), ab_lay M199 ∧ rn X 160 [.ref 483, .int v192, .int v194, .int v196] M197 (.inl (none), M199) ∧ sg X 288 (93, [some (.ref 483), some (.int (ak_I M 484 i1)), some (.int v192), some (.int v194), some (.int v196)], [], []) M199 r)))))) else (∃ (v177 : Int32) (M176 : ak_M), ab_lay M176 ∧ rn X 284 [.ref 483, .int 0, .int 300] M140 (.inl (some (.int v177)), M176) ∧ (∃ (v179 : Int32) (M178 : ak_M), ab_lay M178 ∧ rn X 285 [.ref 483] M176 (.inl (some (.int v179)), M178) ∧ (∃ (v181 : Int32) (M180 : ak_M), ab_lay M180 ∧ rn X 285 [.ref 483] M178 (.inl (some (.int v181)), M180) ∧ (∃ (v183 : Int32) (M182 : ak_M), ab_lay M182 ∧ rn X 280 [.ref 483] M180 (.inl (some (.int v183)), M182) ∧ (if v183 = 0 then sg X 288 (93, [some (.ref 483), some (.int (ak_I M 484 i1)), some (.int v177), some (.int v179), some (.int v181)], [], []) M182 r else (∃ (M184 : ak_M), ab_lay M184 ∧ rn X 160 [.ref 483, .int v177, .int v179, .int v181] M182 (.inl (none), M184) ∧ sg X 288 (93, [some (.ref 483), some (.int (ak_I M 484 i1)), some (.int v177), some (.int v179), some (.int v181)], [], []) M184 r))))))) else (∃ (v143 : Int32) (M142 : ak_M), ab_lay M142 ∧ rn X 177 [.ref 483, .int ((ak_I M 484 i1) - 1), .int 0] M140 (.inl (some (.int v143)), M142) ∧ (if ak_I M 484 i1 = 0 then (∃ (v160 : Int32) (M159 : ak_M), ab_lay M159 ∧ rn X 284 [.ref 483, .int (v143 + 1), .int 0] M142 (.inl (some (.int v160)), M159) ∧ (∃ (v162 : Int32) (M161 : ak_M), ab_lay M161 ∧ rn X 285 [.ref 483] M159 (.inl (some (.int v162)), M161) ∧ (∃ (v164 : Int32) (M163 : ak_M), ab_lay M163 ∧ rn X 285 [.ref 483] M161 (.inl (some (.int v164)), M163) ∧ (∃ (v166 : Int32) (M165 : ak_M), ab_lay M165 ∧ rn X 280 [.ref 483] M163 (.inl (some (.int v166)), M165) ∧ (if v166 = 0 then sg X 288 (93, [some (.ref 483), some (.int (ak_I M 484 i1)), some (.int v160), some (.int v162), some (.int v164)], [], []) M165 r else (∃ (M167 : ak_M), ab_lay M167 ∧ rn X 160 [.ref 483, .int v160, .int v162, .int v164] M165 (.inl (none), M167) ∧ sg X 288 (93, [some (.ref 483), some (.int (ak_I M 484 i1)), some (.int v160), some (.int v162), some (.int v164)], [], []) M167 r)))))) else (∃ (v145 : Int32) (M144 : ak_M), ab_lay M144 ∧ rn X 284 [.ref 483, .int (v143 + 1), .int 300] M142 (.inl (some (.int v145)), M144) ∧ (∃ (v147 : Int32) (M146 : ak_M), ab_lay M146 ∧ rn X 285 [.ref 483] M144 (.inl (some (.int v147)), M146) ∧ (∃ (v149 : Int32) (M148 : ak_M), ab_lay M148 ∧ rn X 285 [.ref 483] M146 (.inl (some (.int v149)), M148) ∧ (∃ (v151 : Int32) (M150 : ak_M), ab_lay M150 ∧ rn X 280 [.ref 483] M148 (.inl (some (.int v151)), M150) ∧ (if v151 = 0 then sg X 288 (93, [some (.ref 483), some (.int (ak_I M 484 i1)), some (.int v145), some (.int v147), some (.int v149)], [], []) M150 r else (∃ (M152 : ak_M), ab_lay M152 ∧ rn X 160 [.ref 483, .int v145, .int v147, .int v149] M150 (.inl (none), M152) ∧ sg X 288 (93, [some (.ref 483), some (.int (ak_I M 484 i1)), some (.int v145), some (.int v147), some (.int v149)], [], []) M152 r)))))))))))))))) : rn X 288 [.ref 483] M r := by
  refine w_rn (nL := 5) (l1 := [some (.ref 483), none, none, none, none]) (by decide +kernel) rfl rfl ?_
  refine w_aload_n (n := 1) (i := 0) (by decide +kernel) rfl rfl ?_
  refine w_getR (n := 4) hL (by decide +kernel) oO_288 fF_12_7 (at_483) (by decide) (ar_483_1) rfl ?_
  refine w_iconst (n := 5) (v := 2) (x := 2) (by decide +kernel) rfl (by decide) ?_
  obtain ⟨i1, gi1, h⟩ := h
  refine w_iald (n := 6) hL (by decide +kernel) (at_484) (an_484) gi1 rfl ?_
  refine w_istore_n (n := 7) (i := 1) (l1' := [some (.ref 483), some (.int (ak_I M 484 i1)), none, none, none]) (l2' := []) (by decide +kernel) rfl (Nat.le_of_ble_eq_true rfl) rfl rfl ?_
  refine w_aload_n (n := 8) (i := 0) (by decide +kernel) rfl rfl ?_
  refine w_iload_n (n := 9) (i := 1) (by decide +kernel) rfl rfl ?_
  refine w_iconst (n := 10) (v := 4) (x := 4) (by decide +kernel) rfl (by decide) ?_
  by_cases c212 : 4 ≤ ak_I M 484 i1
  · rw [if_pos c212] at h
    refine w_icmp_ge_j (n := 17) (off := 7) (by decide +kernel) (by decide) c212 ?_
    refine w_iconst (n := 18) (v := 0) (x := 0) (by decide +kernel) rfl (by decide) ?_
    refine w_iconst (n := 19) (v := 4) (x := 4) (by decide +kernel) rfl (by decide) ?_
    obtain ⟨M2, hLM2, hr106, h⟩ := h
    refine w_cV (n := 22) (idx := 406) (cal := 281) (na := 2) (nl := 3) (as := [.int 0, .int 4]) (rest := []) hL (by decide +kernel) (by decide +kernel) (at_483) (by decide +kernel) rfl rfl rfl (Nat.le_of_ble_eq_true rfl) rfl hr106 ?_
    refine w_aload_n (n := 23) (i := 0) (by decide +kernel) rfl rfl ?_
    obtain ⟨M3, hLM3, hr105, h⟩ := h
    refine w_cV (n := 26) (idx := 410) (cal := 282) (na := 0) (nl := 1) (as := []) (rest := []) hLM2 (by decide +kernel) (by decide +kernel) (at_483) (by decide +kernel) rfl rfl rfl (Nat.le_of_ble_eq_true rfl) rfl hr105 ?_
    refine w_aload_n (n := 27) (i := 0) (by decide +kernel) rfl rfl ?_
    refine w_iload_n (n := 28) (i := 1) (by decide +kernel) rfl rfl ?_
    by_cases c104 : ak_I M 484 i1 = 0
    · rw [if_pos c104] at h
      refine w_if_eq_j (n := 38) (off := 10) (by decide +kernel) (by decide) c104 ?_
      refine w_iconst (n := 39) (v := 0) (x := 0) (by decide +kernel) rfl (by decide) ?_
      refine w_goto (n := 52) (off := 13) (by decide +kernel) (by decide) ?_
      refine w_iload_n (n := 53) (i := 1) (by decide +kernel) rfl rfl ?_
      by_cases c34 : ak_I M 484 i1 = 0
      · rw [if_pos c34] at h
        refine w_if_ne_n (n := 56) (off := 7) (by decide +kernel) rfl c34 ?_
        refine w_iconst (n := 57) (v := 0) (x := 0) (by decide +kernel) rfl (by decide) ?_
        refine w_goto (n := 63) (off := 6) (by decide +kernel) (by decide) ?_
        obtain ⟨v20, M19, hLM19, hr33, h⟩ := h
        refine w_cV (n := 66) (idx := 413) (cal := 284) (na := 2) (nl := 3) (as := [.int 0, .int 0]) (rest := []) hLM3 (by decide +kernel) (by decide +kernel) (at_483) (by decide +kernel) rfl rfl rfl (Nat.le_of_ble_eq_true rfl) rfl hr33 ?_
        refine w_istore_n (n := 67) (i := 2) (l1' := [some (.ref 483), some (.int (ak_I M 484 i1)), some (.int v20), none, none]) (l2' := []) (by decide +kernel) rfl (Nat.le_of_ble_eq_true rfl) rfl rfl ?_
        refine w_aload_n (n := 68) (i := 0) (by decide +kernel) rfl rfl ?_
        obtain ⟨v22, M21, hLM21, hr32, h⟩ := h
        refine w_cV (n := 71) (idx := 422) (cal := 285) (na := 0) (nl := 1) (as := []) (rest := []) hLM19 (by decide +kernel) (by decide +kernel) (at_483) (by decide +kernel) rfl rfl rfl (Nat.le_of_ble_eq_true rfl) rfl hr32 ?_
        refine w_istore_n (n := 72) (i := 3) (l1' := [some (.ref 483), some (.int (ak_I M 484 i1)), some (.int v20), some (.int v22), none]) (l2' := []) (by decide +kernel) rfl (Nat.le_of_ble_eq_true rfl) rfl rfl ?_
        refine w_aload_n (n := 73) (i := 0) (by decide +kernel) rfl rfl ?_
        obtain ⟨v24, M23, hLM23, hr31, h⟩ := h
        refine w_cV (n := 76) (idx := 422) (cal := 285) (na := 0) (nl := 1) (as := []) (rest := []) hLM21 (by decide +kernel) (by decide +kernel) (at_483) (by decide +kernel) rfl rfl rfl (Nat.le_of_ble_eq_true rfl) rfl hr31 ?_
        refine w_istore (n := 78) (i := 4) (l1' := [some (.ref 483), some (.int (ak_I M 484 i1)), some (.int v20), some (.int v22), some (.int v24)]) (l2' := []) (by decide +kernel) rfl (Nat.le_of_ble_eq_true rfl) rfl rfl ?_
        refine w_aload_n (n := 79) (i := 0) (by decide +kernel) rfl rfl ?_
        obtain ⟨v26, M25, hLM25, hr30, h⟩ := h
        refine w_cV (n := 82) (idx := 399) (cal := 280) (na := 0) (nl := 1) (as := []) (rest := []) hLM23 (by decide +kernel) (by decide +kernel) (at_483) (by decide +kernel) rfl rfl rfl (Nat.le_of_ble_eq_true rfl) rfl hr30 ?_
        by_cases c29 : v26 = 0
        · rw [if_pos c29] at h
          refine w_if_eq_j (n := 93) (off := 11) (by decide +kernel) (by decide) c29 ?_
          exact h
        · rw [if_neg c29] at h
          refine w_if_eq_n (n := 85) (off := 11) (by decide +kernel) rfl c29 ?_
          refine w_aload_n (n := 86) (i := 0) (by decide +kernel) rfl rfl ?_
          refine w_iload_n (n := 87) (i := 2) (by decide +kernel) rfl rfl ?_
          refine w_iload_n (n := 88) (i := 3) (by decide +kernel) rfl rfl ?_
          refine w_iload (n := 90) (i := 4) (by decide +kernel) rfl rfl ?_
          obtain ⟨M27, hLM27, hr28, h⟩ := h
          refine w_cV (n := 93) (idx := 58) (cal := 160) (na := 3) (nl := 4) (as := [.int v20, .int v22, .int v24]) (rest := []) hLM25 (by decide +kernel) (by decide +kernel) (at_483) (by decide +kernel) rfl rfl rfl (Nat.le_of_ble_eq_true rfl) rfl hr28 ?_
          exact h
      · rw [if_neg c34] at h
        refine w_if_ne_j (n := 60) (off := 7) (by decide +kernel) (by decide) c34 ?_
        refine w_sipush (n := 63) (v := 300) (x := 300) (by decide +kernel) rfl (by decide) ?_
        obtain ⟨v5, M4, hLM4, hr18, h⟩ := h
        refine w_cV (n := 66) (idx := 413) (cal := 284) (na := 2) (nl := 3) (as := [.int 0, .int 300]) (rest := []) hLM3 (by decide +kernel) (by decide +kernel) (at_483) (by decide +kernel) rfl rfl rfl (Nat.le_of_ble_eq_true rfl) rfl hr18 ?_
        refine w_istore_n (n := 67) (i := 2) (l1' := [some (.ref 483), some (.int (ak_I M 484 i1)), some (.int v5), none, none]) (l2' := []) (by decide +kernel) rfl (Nat.le_of_ble_eq_true rfl) rfl rfl ?_
        refine w_aload_n (n := 68) (i := 0) (by decide +kernel) rfl rfl ?_
        obtain ⟨v7, M6, hLM6, hr17, h⟩ := h
        refine w_cV (n := 71) (idx := 422) (cal := 285) (na := 0) (nl := 1) (as := []) (rest := []) hLM4 (by decide +kernel) (by decide +kernel) (at_483) (by decide +kernel) rfl rfl rfl (Nat.le_of_ble_eq_true rfl) rfl hr17 ?_
        refine w_istore_n (n := 72) (i := 3) (l1' := [some (.ref 483), some (.int (ak_I M 484 i1)), some (.int v5), some (.int v7), none]) (l2' := []) (by decide +kernel) rfl (Nat.le_of_ble_eq_true rfl) rfl rfl ?_
        refine w_aload_n (n := 73) (i := 0) (by decide +kernel) rfl rfl ?_
        obtain ⟨v9, M8, hLM8, hr16, h⟩ := h
        refine w_cV (n := 76) (idx := 422) (cal := 285) (na := 0) (nl := 1) (as := []) (rest := []) hLM6 (by decide +kernel) (by decide +kernel) (at_483) (by decide +kernel) rfl rfl rfl (Nat.le_of_ble_eq_true rfl) rfl hr16 ?_
        refine w_istore (n := 78) (i := 4) (l1' := [some (.ref 483), some (.int (ak_I M 484 i1)), some (.int v5), some (.int v7), some (.int v9)]) (l2' := []) (by decide +kernel) rfl (Nat.le_of_ble_eq_true rfl) rfl rfl ?_
        refine w_aload_n (n := 79) (i := 0) (by decide +kernel) rfl rfl ?_
        obtain ⟨v11, M10, hLM10, hr15, h⟩ := h
        refine w_cV (n := 82) (idx := 399) (cal := 280) (na := 0) (nl := 1) (as := []) (rest := []) hLM8 (by decide +kernel) (by decide +kernel) (at_483) (by decide +kernel) rfl rfl rfl (Nat.le_of_ble_eq_true rfl) rfl hr15 ?_
        by_cases c14 : v11 = 0
        · rw [if_pos c14] at h
          refine w_if_eq_j (n := 93) (off := 11) (by decide +kernel) (by decide) c14 ?_
          exact h
        · rw [if_neg c14] at h
          refine w_if_eq_n (n := 85) (off := 11) (by decide +kernel) rfl c14 ?_
          refine w_aload_n (n := 86) (i := 0) (by decide +kernel) rfl rfl ?_
          refine w_iload_n (n := 87) (i := 2) (by decide +kernel) rfl rfl ?_
          refine w_iload_n (n := 88) (i := 3) (by decide +kernel) rfl rfl ?_
          refine w_iload (n := 90) (i := 4) (by decide +kernel) rfl rfl ?_
          obtain ⟨M12, hLM12, hr13, h⟩ := h
          refine w_cV (n := 93) (idx := 58) (cal := 160) (na := 3) (nl := 4) (as := [.int v5, .int v7, .int v9]) (rest := []) hLM10 (by decide +kernel) (by decide +kernel) (at_483) (by decide +kernel) rfl rfl rfl (Nat.le_of_ble_eq_true rfl) rfl hr13 ?_
          exact h
    · rw [if_neg c104] at h
      refine w_if_eq_n (n := 31) (off := 10) (by decide +kernel) rfl c104 ?_
      refine w_aload_n (n := 32) (i := 0) (by decide +kernel) rfl rfl ?_
      obtain ⟨v36, M35, hLM35, hr103, h⟩ := h
      refine w_cV (n := 35) (idx := 399) (cal := 280) (na := 0) (nl := 1) (as := []) (rest := [.ref 483]) hLM3 (by decide +kernel) (by decide +kernel) (at_483) (by decide +kernel) rfl rfl rfl (Nat.le_of_ble_eq_true rfl) rfl hr103 ?_
      by_cases c102 : v36 = 0
      · rw [if_pos c102] at h
        refine w_if_ne_n (n := 38) (off := 7) (by decide +kernel) rfl c102 ?_
        refine w_iconst (n := 39) (v := 0) (x := 0) (by decide +kernel) rfl (by decide) ?_
        refine w_goto (n := 52) (off := 13) (by decide +kernel) (by decide) ?_
        refine w_iload_n (n := 53) (i := 1) (by decide +kernel) rfl rfl ?_
        by_cases c101 : ak_I M 484 i1 = 0
        · rw [if_pos c101] at h
          refine w_if_ne_n (n := 56) (off := 7) (by decide +kernel) rfl c101 ?_
          refine w_iconst (n := 57) (v := 0) (x := 0) (by decide +kernel) rfl (by decide) ?_
          refine w_goto (n := 63) (off := 6) (by decide +kernel) (by decide) ?_
          obtain ⟨v87, M86, hLM86, hr100, h⟩ := h
          refine w_cV (n := 66) (idx := 413) (cal := 284) (na := 2) (nl := 3) (as := [.int 0, .int 0]) (rest := []) hLM35 (by decide +kernel) (by decide +kernel) (at_483) (by decide +kernel) rfl rfl rfl (Nat.le_of_ble_eq_true rfl) rfl hr100 ?_
          refine w_istore_n (n := 67) (i := 2) (l1' := [some (.ref 483), some (.int (ak_I M 484 i1)), some (.int v87), none, none]) (l2' := []) (by decide +kernel) rfl (Nat.le_of_ble_eq_true rfl) rfl rfl ?_
          refine w_aload_n (n := 68) (i := 0) (by decide +kernel) rfl rfl ?_
          obtain ⟨v89, M88, hLM88, hr99, h⟩ := h
          refine w_cV (n := 71) (idx := 422) (cal := 285) (na := 0) (nl := 1) (as := []) (rest := []) hLM86 (by decide +kernel) (by decide +kernel) (at_483) (by decide +kernel) rfl rfl rfl (Nat.le_of_ble_eq_true rfl) rfl hr99 ?_
          refine w_istore_n (n := 72) (i := 3) (l1' := [some (.ref 483), some (.int (ak_I M 484 i1)), some (.int v87), some (.int v89), none]) (l2' := []) (by decide +kernel) rfl (Nat.le_of_ble_eq_true rfl) rfl rfl ?_
          refine w_aload_n (n := 73) (i := 0) (by decide +kernel) rfl rfl ?_
          obtain ⟨v91, M90, hLM90, hr98, h⟩ := h
          refine w_cV (n := 76) (idx := 422) (cal := 285) (na := 0) (nl := 1) (as := []) (rest := []) hLM88 (by decide +kernel) (by decide +kernel) (at_483) (by decide +kernel) rfl rfl rfl (Nat.le_of_ble_eq_true rfl) rfl hr98 ?_
          refine w_istore (n := 78) (i := 4) (l1' := [some (.ref 483), some (.int (ak_I M 484 i1)), some (.int v87), some (.int v89), some (.int v91)]) (l2' := []) (by decide +kernel) rfl (Nat.le_of_ble_eq_true rfl) rfl rfl ?_
          refine w_aload_n (n := 79) (i := 0) (by decide +kernel) rfl rfl ?_
          obtain ⟨v93, M92, hLM92, hr97, h⟩ := h
          refine w_cV (n := 82) (idx := 399) (cal := 280) (na := 0) (nl := 1) (as := []) (rest := []) hLM90 (by decide +kernel) (by decide +kernel) (at_483) (by decide +kernel) rfl rfl rfl (Nat.le_of_ble_eq_true rfl) rfl hr97 ?_
          by_cases c96 : v93 = 0
          · rw [if_pos c96] at h
            refine w_if_eq_j (n := 93) (off := 11) (by decide +kernel) (by decide) c96 ?_
            exact h
          · rw [if_neg c96] at h
            refine w_if_eq_n (n := 85) (off := 11) (by decide +kernel) rfl c96 ?_
            refine w_aload_n (n := 86) (i := 0) (by decide +kernel) rfl rfl ?_
            refine w_iload_n (n := 87) (i := 2) (by decide +kernel) rfl rfl ?_
            refine w_iload_n (n := 88) (i := 3) (by decide +kernel) rfl rfl ?_
            refine w_iload (n := 90) (i := 4) (by decide +kernel) rfl rfl ?_
            obtain ⟨M94, hLM94, hr95, h⟩ := h
            refine w_cV (n := 93) (idx := 58) (cal := 160) (na := 3) (nl := 4) (as := [.int v87, .int v89, .int v91]) (rest := []) hLM92 (by decide +kernel) (by decide +kernel) (at_483) (by decide +kernel) rfl rfl rfl (Nat.le_of_ble_eq_true rfl) rfl hr95 ?_
            exact h
        · rw [if_neg c101] at h
          refine w_if_ne_j (n := 60) (off := 7) (by decide +kernel) (by decide) c101 ?_
          refine w_sipush (n := 63) (v := 300) (x := 300) (by decide +kernel) rfl (by decide) ?_
          obtain ⟨v72, M71, hLM71, hr85, h⟩ := h
          refine w_cV (n := 66) (idx := 413) (cal := 284) (na := 2) (nl := 3) (as := [.int 0, .int 300]) (rest := []) hLM35 (by decide +kernel) (by decide +kernel) (at_483) (by decide +kernel) rfl rfl rfl (Nat.le_of_ble_eq_true rfl) rfl hr85 ?_
          refine w_istore_n (n := 67) (i := 2) (l1' := [some (.ref 483), some (.int (ak_I M 484 i1)), some (.int v72), none, none]) (l2' := []) (by decide +kernel) rfl (Nat.le_of_ble_eq_true rfl) rfl rfl ?_
          refine w_aload_n (n := 68) (i := 0) (by decide +kernel) rfl rfl ?_
          obtain ⟨v74, M73, hLM73, hr84, h⟩ := h
          refine w_cV (n := 71) (idx := 422) (cal := 285) (na := 0) (nl := 1) (as := []) (rest := []) hLM71 (by decide +kernel) (by decide +kernel) (at_483) (by decide +kernel) rfl rfl rfl (Nat.le_of_ble_eq_true rfl) rfl hr84 ?_
          refine w_istore_n (n := 72) (i := 3) (l1' := [some (.ref 483), some (.int (ak_I M 484 i1)), some (.int v72), some (.int v74), none]) (l2' := []) (by decide +kernel) rfl (Nat.le_of_ble_eq_true rfl) rfl rfl ?_
          refine w_aload_n (n := 73) (i := 0) (by decide +kernel) rfl rfl ?_
          obtain ⟨v76, M75, hLM75, hr83, h⟩ := h
          refine w_cV (n := 76) (idx := 422) (cal := 285) (na := 0) (nl := 1) (as := []) (rest := []) hLM73 (by decide +kernel) (by decide +kernel) (at_483) (by decide +kernel) rfl rfl rfl (Nat.le_of_ble_eq_true rfl) rfl hr83 ?_
          refine w_istore (n := 78) (i := 4) (l1' := [some (.ref 483), some (.int (ak_I M 484 i1)), some (.int v72), some (.int v74), some (.int v76)]) (l2' := []) (by decide +kernel) rfl (Nat.le_of_ble_eq_true rfl) rfl rfl ?_
          refine w_aload_n (n := 79) (i := 0) (by decide +kernel) rfl rfl ?_
          obtain ⟨v78, M77, hLM77, hr82, h⟩ := h
          refine w_cV (n := 82) (idx := 399) (cal := 280) (na := 0) (nl := 1) (as := []) (rest := []) hLM75 (by decide +kernel) (by decide +kernel) (at_483) (by decide +kernel) rfl rfl rfl (Nat.le_of_ble_eq_true rfl) rfl hr82 ?_
          by_cases c81 : v78 = 0
          · rw [if_pos c81] at h
            refine w_if_eq_j (n := 93) (off := 11) (by decide +kernel) (by decide) c81 ?_
            exact h
          · rw [if_neg c81] at h
            refine w_if_eq_n (n := 85) (off := 11) (by decide +kernel) rfl c81 ?_
            refine w_aload_n (n := 86) (i := 0) (by decide +kernel) rfl rfl ?_
            refine w_iload_n (n := 87) (i := 2) (by decide +kernel) rfl rfl ?_
            refine w_iload_n (n := 88) (i := 3) (by decide +kernel) rfl rfl ?_
            refine w_iload (n := 90) (i := 4) (by decide +kernel) rfl rfl ?_
            obtain ⟨M79, hLM79, hr80, h⟩ := h
            refine w_cV (n := 93) (idx := 58) (cal := 160) (na := 3) (nl := 4) (as := [.int v72, .int v74, .int v76]) (rest := []) hLM77 (by decide +kernel) (by decide +kernel) (at_483) (by decide +kernel) rfl rfl rfl (Nat.le_of_ble_eq_true rfl) rfl hr80 ?_
            exact h
      · rw [if_neg c102] at h
        refine w_if_ne_j (n := 42) (off := 7) (by decide +kernel) (by decide) c102 ?_
        refine w_aload_n (n := 43) (i := 0) (by decide +kernel) rfl rfl ?_
        refine w_iload_n (n := 44) (i := 1) (by decide +kernel) rfl rfl ?_
        refine w_iconst (n := 45) (v := 1) (x := 1) (by decide +kernel) rfl (by decide) ?_
        refine w_isub (n := 46) (by decide +kernel) rfl ?_
        refine w_iconst (n := 47) (v := 0) (x := 0) (by decide +kernel) rfl (by decide) ?_
        obtain ⟨v38, M37, hLM37, hr70, h⟩ := h
        refine w_cV (n := 50) (idx := 102) (cal := 177) (na := 2) (nl := 3) (as := [.int ((ak_I M 484 i1) - 1), .int 0]) (rest := [.ref 483]) hLM35 (by decide +kernel) (by decide +kernel) (at_483) (by decide +kernel) rfl rfl rfl (Nat.le_of_ble_eq_true rfl) rfl hr70 ?_
        refine w_iconst (n := 51) (v := 1) (x := 1) (by decide +kernel) rfl (by decide) ?_
        refine w_iadd (n := 52) (by decide +kernel) rfl ?_
        refine w_iload_n (n := 53) (i := 1) (by decide +kernel) rfl rfl ?_
        by_cases c69 : ak_I M 484 i1 = 0
        · rw [if_pos c69] at h
          refine w_if_ne_n (n := 56) (off := 7) (by decide +kernel) rfl c69 ?_
          refine w_iconst (n := 57) (v := 0) (x := 0) (by decide +kernel) rfl (by decide) ?_
          refine w_goto (n := 63) (off := 6) (by decide +kernel) (by decide) ?_
          obtain ⟨v55, M54, hLM54, hr68, h⟩ := h
          refine w_cV (n := 66) (idx := 413) (cal := 284) (na := 2) (nl := 3) (as := [.int (v38 + 1), .int 0]) (rest := []) hLM37 (by decide +kernel) (by decide +kernel) (at_483) (by decide +kernel) rfl rfl rfl (Nat.le_of_ble_eq_true rfl) rfl hr68 ?_
          refine w_istore_n (n := 67) (i := 2) (l1' := [some (.ref 483), some (.int (ak_I M 484 i1)), some (.int v55), none, none]) (l2' := []) (by decide +kernel) rfl (Nat.le_of_ble_eq_true rfl) rfl rfl ?_
          refine w_aload_n (n := 68) (i := 0) (by decide +kernel) rfl rfl ?_
          obtain ⟨v57, M56, hLM56, hr67, h⟩ := h
          refine w_cV (n := 71) (idx := 422) (cal := 285) (na := 0) (nl := 1) (as := []) (rest := []) hLM54 (by decide +kernel) (by decide +kernel) (at_483) (by decide +kernel) rfl rfl rfl (Nat.le_of_ble_eq_true rfl) rfl hr67 ?_
          refine w_istore_n (n := 72) (i := 3) (l1' := [some (.ref 483), some (.int (ak_I M 484 i1)), some (.int v55), some (.int v57), none]) (l2' := []) (by decide +kernel) rfl (Nat.le_of_ble_eq_true rfl) rfl rfl ?_
          refine w_aload_n (n := 73) (i := 0) (by decide +kernel) rfl rfl ?_
          obtain ⟨v59, M58, hLM58, hr66, h⟩ := h
          refine w_cV (n := 76) (idx := 422) (cal := 285) (na := 0) (nl := 1) (as := []) (rest := []) hLM56 (by decide +kernel) (by decide +kernel) (at_483) (by decide +kernel) rfl rfl rfl (Nat.le_of_ble_eq_true rfl) rfl hr66 ?_
          refine w_istore (n := 78) (i := 4) (l1' := [some (.ref 483), some (.int (ak_I M 484 i1)), some (.int v55), some (.int v57), some (.int v59)]) (l2' := []) (by decide +kernel) rfl (Nat.le_of_ble_eq_true rfl) rfl rfl ?_
          refine w_aload_n (n := 79) (i := 0) (by decide +kernel) rfl rfl ?_
          obtain ⟨v61, M60, hLM60, hr65, h⟩ := h
          refine w_cV (n := 82) (idx := 399) (cal := 280) (na := 0) (nl := 1) (as := []) (rest := []) hLM58 (by decide +kernel) (by decide +kernel) (at_483) (by decide +kernel) rfl rfl rfl (Nat.le_of_ble_eq_true rfl) rfl hr65 ?_
          by_cases c64 : v61 = 0
          · rw [if_pos c64] at h
            refine w_if_eq_j (n := 93) (off := 11) (by decide +kernel) (by decide) c64 ?_
            exact h
          · rw [if_neg c64] at h
            refine w_if_eq_n (n := 85) (off := 11) (by decide +kernel) rfl c64 ?_
            refine w_aload_n (n := 86) (i := 0) (by decide +kernel) rfl rfl ?_
            refine w_iload_n (n := 87) (i := 2) (by decide +kernel) rfl rfl ?_
            refine w_iload_n (n := 88) (i := 3) (by decide +kernel) rfl rfl ?_
            refine w_iload (n := 90) (i := 4) (by decide +kernel) rfl rfl ?_
            obtain ⟨M62, hLM62, hr63, h⟩ := h
            refine w_cV (n := 93) (idx := 58) (cal := 160) (na := 3) (nl := 4) (as := [.int v55, .int v57, .int v59]) (rest := []) hLM60 (by decide +kernel) (by decide +kernel) (at_483) (by decide +kernel) rfl rfl rfl (Nat.le_of_ble_eq_true rfl) rfl hr63 ?_
            exact h
        · rw [if_neg c69] at h
          refine w_if_ne_j (n := 60) (off := 7) (by decide +kernel) (by decide) c69 ?_
          refine w_sipush (n := 63) (v := 300) (x := 300) (by decide +kernel) rfl (by decide) ?_
          obtain ⟨v40, M39, hLM39, hr53, h⟩ := h
          refine w_cV (n := 66) (idx := 413) (cal := 284) (na := 2) (nl := 3) (as := [.int (v38 + 1), .int 300]) (rest := []) hLM37 (by decide +kernel) (by decide +kernel) (at_483) (by decide +kernel) rfl rfl rfl (Nat.le_of_ble_eq_true rfl) rfl hr53 ?_
          refine w_istore_n (n := 67) (i := 2) (l1' := [some (.ref 483), some (.int (ak_I M 484 i1)), some (.int v40), none, none]) (l2' := []) (by decide +kernel) rfl (Nat.le_of_ble_eq_true rfl) rfl rfl ?_
          refine w_aload_n (n := 68) (i := 0) (by decide +kernel) rfl rfl ?_
          obtain ⟨v42, M41, hLM41, hr52, h⟩ := h
          refine w_cV (n := 71) (idx := 422) (cal := 285) (na := 0) (nl := 1) (as := []) (rest := []) hLM39 (by decide +kernel) (by decide +kernel) (at_483) (by decide +kernel) rfl rfl rfl (Nat.le_of_ble_eq_true rfl) rfl hr52 ?_
          refine w_istore_n (n := 72) (i := 3) (l1' := [some (.ref 483), some (.int (ak_I M 484 i1)), some (.int v40), some (.int v42), none]) (l2' := []) (by decide +kernel) rfl (Nat.le_of_ble_eq_true rfl) rfl rfl ?_
          refine w_aload_n (n := 73) (i := 0) (by decide +kernel) rfl rfl ?_
          obtain ⟨v44, M43, hLM43, hr51, h⟩ := h
          refine w_cV (n := 76) (idx := 422) (cal := 285) (na := 0) (nl := 1) (as := []) (rest := []) hLM41 (by decide +kernel) (by decide +kernel) (at_483) (by decide +kernel) rfl rfl rfl (Nat.le_of_ble_eq_true rfl) rfl hr51 ?_
          refine w_istore (n := 78) (i := 4) (l1' := [some (.ref 483), some (.int (ak_I M 484 i1)), some (.int v40), some (.int v42), some (.int v44)]) (l2' := []) (by decide +kernel) rfl (Nat.le_of_ble_eq_true rfl) rfl rfl ?_
          refine w_aload_n (n := 79) (i := 0) (by decide +kernel) rfl rfl ?_
          obtain ⟨v46, M45, hLM45, hr50, h⟩ := h
          refine w_cV (n := 82) (idx := 399) (cal := 280) (na := 0) (nl := 1) (as := []) (rest := []) hLM43 (by decide +kernel) (by decide +kernel) (at_483) (by decide +kernel) rfl rfl rfl (Nat.le_of_ble_eq_true rfl) rfl hr50 ?_
          by_cases c49 : v46 = 0
          · rw [if_pos c49] at h
            refine w_if_eq_j (n := 93) (off := 11) (by decide +kernel) (by decide) c49 ?_
            exact h
          · rw [if_neg c49] at h
            refine w_if_eq_n (n := 85) (off := 11) (by decide +kernel) rfl c49 ?_
            refine w_aload_n (n := 86) (i := 0) (by decide +kernel) rfl rfl ?_
            refine w_iload_n (n := 87) (i := 2) (by decide +kernel) rfl rfl ?_
            refine w_iload_n (n := 88) (i := 3) (by decide +kernel) rfl rfl ?_
            refine w_iload (n := 90) (i := 4) (by decide +kernel) rfl rfl ?_
            obtain ⟨M47, hLM47, hr48, h⟩ := h
            refine w_cV (n := 93) (idx := 58) (cal := 160) (na := 3) (nl := 4) (as := [.int v40, .int v42, .int v44]) (rest := []) hLM45 (by decide +kernel) (by decide +kernel) (at_483) (by decide +kernel) rfl rfl rfl (Nat.le_of_ble_eq_true rfl) rfl hr48 ?_
            exact h
  · rw [if_neg c212] at h
    refine w_icmp_ge_n (n := 13) (off := 7) (by decide +kernel) rfl c212 ?_
    refine w_iconst (n := 14) (v := 1) (x := 1) (by decide +kernel) rfl (by decide) ?_
    refine w_goto (n := 18) (off := 4) (by decide +kernel) (by decide) ?_
    refine w_iconst (n := 19) (v := 4) (x := 4) (by decide +kernel) rfl (by decide) ?_
    obtain ⟨M107, hLM107, hr211, h⟩ := h
    refine w_cV (n := 22) (idx := 406) (cal := 281) (na := 2) (nl := 3) (as := [.int 1, .int 4]) (rest := []) hL (by decide +kernel) (by decide +kernel) (at_483) (by decide +kernel) rfl rfl rfl (Nat.le_of_ble_eq_true rfl) rfl hr211 ?_
    refine w_aload_n (n := 23) (i := 0) (by decide +kernel) rfl rfl ?_
    obtain ⟨M108, hLM108, hr210, h⟩ := h
    refine w_cV (n := 26) (idx := 410) (cal := 282) (na := 0) (nl := 1) (as := []) (rest := []) hLM107 (by decide +kernel) (by decide +kernel) (at_483) (by decide +kernel) rfl rfl rfl (Nat.le_of_ble_eq_true rfl) rfl hr210 ?_
    refine w_aload_n (n := 27) (i := 0) (by decide +kernel) rfl rfl ?_
    refine w_iload_n (n := 28) (i := 1) (by decide +kernel) rfl rfl ?_
    by_cases c209 : ak_I M 484 i1 = 0
    · rw [if_pos c209] at h
      refine w_if_eq_j (n := 38) (off := 10) (by decide +kernel) (by decide) c209 ?_
      refine w_iconst (n := 39) (v := 0) (x := 0) (by decide +kernel) rfl (by decide) ?_
      refine w_goto (n := 52) (off := 13) (by decide +kernel) (by decide) ?_
      refine w_iload_n (n := 53) (i := 1) (by decide +kernel) rfl rfl ?_
      by_cases c139 : ak_I M 484 i1 = 0
      · rw [if_pos c139] at h
        refine w_if_ne_n (n := 56) (off := 7) (by decide +kernel) rfl c139 ?_
        refine w_iconst (n := 57) (v := 0) (x := 0) (by decide +kernel) rfl (by decide) ?_
        refine w_goto (n := 63) (off := 6) (by decide +kernel) (by decide) ?_
        obtain ⟨v125, M124, hLM124, hr138, h⟩ := h
        refine w_cV (n := 66) (idx := 413) (cal := 284) (na := 2) (nl := 3) (as := [.int 0, .int 0]) (rest := []) hLM108 (by decide +kernel) (by decide +kernel) (at_483) (by decide +kernel) rfl rfl rfl (Nat.le_of_ble_eq_true rfl) rfl hr138 ?_
        refine w_istore_n (n := 67) (i := 2) (l1' := [some (.ref 483), some (.int (ak_I M 484 i1)), some (.int v125), none, none]) (l2' := []) (by decide +kernel) rfl (Nat.le_of_ble_eq_true rfl) rfl rfl ?_
        refine w_aload_n (n := 68) (i := 0) (by decide +kernel) rfl rfl ?_
        obtain ⟨v127, M126, hLM126, hr137, h⟩ := h
        refine w_cV (n := 71) (idx := 422) (cal := 285) (na := 0) (nl := 1) (as := []) (rest := []) hLM124 (by decide +kernel) (by decide +kernel) (at_483) (by decide +kernel) rfl rfl rfl (Nat.le_of_ble_eq_true rfl) rfl hr137 ?_
        refine w_istore_n (n := 72) (i := 3) (l1' := [some (.ref 483), some (.int (ak_I M 484 i1)), some (.int v125), some (.int v127), none]) (l2' := []) (by decide +kernel) rfl (Nat.le_of_ble_eq_true rfl) rfl rfl ?_
        refine w_aload_n (n := 73) (i := 0) (by decide +kernel) rfl rfl ?_
        obtain ⟨v129, M128, hLM128, hr136, h⟩ := h
        refine w_cV (n := 76) (idx := 422) (cal := 285) (na := 0) (nl := 1) (as := []) (rest := []) hLM126 (by decide +kernel) (by decide +kernel) (at_483) (by decide +kernel) rfl rfl rfl (Nat.le_of_ble_eq_true rfl) rfl hr136 ?_
        refine w_istore (n := 78) (i := 4) (l1' := [some (.ref 483), some (.int (ak_I M 484 i1)), some (.int v125), some (.int v127), some (.int v129)]) (l2' := []) (by decide +kernel) rfl (Nat.le_of_ble_eq_true rfl) rfl rfl ?_
        refine w_aload_n (n := 79) (i := 0) (by decide +kernel) rfl rfl ?_
        obtain ⟨v131, M130, hLM130, hr135, h⟩ := h
        refine w_cV (n := 82) (idx := 399) (cal := 280) (na := 0) (nl := 1) (as := []) (rest := []) hLM128 (by decide +kernel) (by decide +kernel) (at_483) (by decide +kernel) rfl rfl rfl (Nat.le_of_ble_eq_true rfl) rfl hr135 ?_
        by_cases c134 : v131 = 0
        · rw [if_pos c134] at h
          refine w_if_eq_j (n := 93) (off := 11) (by decide +kernel) (by decide) c134 ?_
          exact h
        · rw [if_neg c134] at h
          refine w_if_eq_n (n := 85) (off := 11) (by decide +kernel) rfl c134 ?_
          refine w_aload_n (n := 86) (i := 0) (by decide +kernel) rfl rfl ?_
          refine w_iload_n (n := 87) (i := 2) (by decide +kernel) rfl rfl ?_
          refine w_iload_n (n := 88) (i := 3) (by decide +kernel) rfl rfl ?_
          refine w_iload (n := 90) (i := 4) (by decide +kernel) rfl rfl ?_
          obtain ⟨M132, hLM132, hr133, h⟩ := h
          refine w_cV (n := 93) (idx := 58) (cal := 160) (na := 3) (nl := 4) (as := [.int v125, .int v127, .int v129]) (rest := []) hLM130 (by decide +kernel) (by decide +kernel) (at_483) (by decide +kernel) rfl rfl rfl (Nat.le_of_ble_eq_true rfl) rfl hr133 ?_
          exact h
      · rw [if_neg c139] at h
        refine w_if_ne_j (n := 60) (off := 7) (by decide +kernel) (by decide) c139 ?_
        refine w_sipush (n := 63) (v := 300) (x := 300) (by decide +kernel) rfl (by decide) ?_
        obtain ⟨v110, M109, hLM109, hr123, h⟩ := h
        refine w_cV (n := 66) (idx := 413) (cal := 284) (na := 2) (nl := 3) (as := [.int 0, .int 300]) (rest := []) hLM108 (by decide +kernel) (by decide +kernel) (at_483) (by decide +kernel) rfl rfl rfl (Nat.le_of_ble_eq_true rfl) rfl hr123 ?_
        refine w_istore_n (n := 67) (i := 2) (l1' := [some (.ref 483), some (.int (ak_I M 484 i1)), some (.int v110), none, none]) (l2' := []) (by decide +kernel) rfl (Nat.le_of_ble_eq_true rfl) rfl rfl ?_
        refine w_aload_n (n := 68) (i := 0) (by decide +kernel) rfl rfl ?_
        obtain ⟨v112, M111, hLM111, hr122, h⟩ := h
        refine w_cV (n := 71) (idx := 422) (cal := 285) (na := 0) (nl := 1) (as := []) (rest := []) hLM109 (by decide +kernel) (by decide +kernel) (at_483) (by decide +kernel) rfl rfl rfl (Nat.le_of_ble_eq_true rfl) rfl hr122 ?_
        refine w_istore_n (n := 72) (i := 3) (l1' := [some (.ref 483), some (.int (ak_I M 484 i1)), some (.int v110), some (.int v112), none]) (l2' := []) (by decide +kernel) rfl (Nat.le_of_ble_eq_true rfl) rfl rfl ?_
        refine w_aload_n (n := 73) (i := 0) (by decide +kernel) rfl rfl ?_
        obtain ⟨v114, M113, hLM113, hr121, h⟩ := h
        refine w_cV (n := 76) (idx := 422) (cal := 285) (na := 0) (nl := 1) (as := []) (rest := []) hLM111 (by decide +kernel) (by decide +kernel) (at_483) (by decide +kernel) rfl rfl rfl (Nat.le_of_ble_eq_true rfl) rfl hr121 ?_
        refine w_istore (n := 78) (i := 4) (l1' := [some (.ref 483), some (.int (ak_I M 484 i1)), some (.int v110), some (.int v112), some (.int v114)]) (l2' := []) (by decide +kernel) rfl (Nat.le_of_ble_eq_true rfl) rfl rfl ?_
        refine w_aload_n (n := 79) (i := 0) (by decide +kernel) rfl rfl ?_
        obtain ⟨v116, M115, hLM115, hr120, h⟩ := h
        refine w_cV (n := 82) (idx := 399) (cal := 280) (na := 0) (nl := 1) (as := []) (rest := []) hLM113 (by decide +kernel) (by decide +kernel) (at_483) (by decide +kernel) rfl rfl rfl (Nat.le_of_ble_eq_true rfl) rfl hr120 ?_
        by_cases c119 : v116 = 0
        · rw [if_pos c119] at h
          refine w_if_eq_j (n := 93) (off := 11) (by decide +kernel) (by decide) c119 ?_
          exact h
        · rw [if_neg c119] at h
          refine w_if_eq_n (n := 85) (off := 11) (by decide +kernel) rfl c119 ?_
          refine w_aload_n (n := 86) (i := 0) (by decide +kernel) rfl rfl ?_
          refine w_iload_n (n := 87) (i := 2) (by decide +kernel) rfl rfl ?_
          refine w_iload_n (n := 88) (i := 3) (by decide +kernel) rfl rfl ?_
          refine w_iload (n := 90) (i := 4) (by decide +kernel) rfl rfl ?_
          obtain ⟨M117, hLM117, hr118, h⟩ := h
          refine w_cV (n := 93) (idx := 58) (cal := 160) (na := 3) (nl := 4) (as := [.int v110, .int v112, .int v114]) (rest := []) hLM115 (by decide +kernel) (by decide +kernel) (at_483) (by decide +kernel) rfl rfl rfl (Nat.le_of_ble_eq_true rfl) rfl hr118 ?_
          exact h
    · rw [if_neg c209] at h
      refine w_if_eq_n (n := 31) (off := 10) (by decide +kernel) rfl c209 ?_
      refine w_aload_n (n := 32) (i := 0) (by decide +kernel) rfl rfl ?_
      obtain ⟨v141, M140, hLM140, hr208, h⟩ := h
      refine w_cV (n := 35) (idx := 399) (cal := 280) (na := 0) (nl := 1) (as := []) (rest := [.ref 483]) hLM108 (by decide +kernel) (by decide +kernel) (at_483) (by decide +kernel) rfl rfl rfl (Nat.le_of_ble_eq_true rfl) rfl hr208 ?_
      by_cases c207 : v141 = 0
      · rw [if_pos c207] at h
        refine w_if_ne_n (n := 38) (off := 7) (by decide +kernel) rfl c207 ?_
        refine w_iconst (n := 39) (v := 0) (x := 0) (by decide +kernel) rfl (by decide) ?_
        refine w_goto (n := 52) (off := 13) (by decide +kernel) (by decide) ?_
        refine w_iload_n (n := 53) (i := 1) (by decide +kernel) rfl rfl ?_
        by_cases c206 : ak_I M 484 i1 = 0
        · rw [if_pos c206] at h
          refine w_if_ne_n (n := 56) (off := 7) (by decide +kernel) rfl c206 ?_
          refine w_iconst (n := 57) (v := 0) (x := 0) (by decide +kernel) rfl (by decide) ?_
          refine w_goto (n := 63) (off := 6) (by decide +kernel) (by decide) ?_
          obtain ⟨v192, M191, hLM191, hr205, h⟩ := h
          refine w_cV (n := 66) (idx := 413) (cal := 284) (na := 2) (nl := 3) (as := [.int 0, .int 0]) (rest := []) hLM140 (by decide +kernel) (by decide +kernel) (at_483) (by decide +kernel) rfl rfl rfl (Nat.le_of_ble_eq_true rfl) rfl hr205 ?_
          refine w_istore_n (n := 67) (i := 2) (l1' := [some (.ref 483), some (.int (ak_I M 484 i1)), some (.int v192), none, none]) (l2' := []) (by decide +kernel) rfl (Nat.le_of_ble_eq_true rfl) rfl rfl ?_
          refine w_aload_n (n := 68) (i := 0) (by decide +kernel) rfl rfl ?_
          obtain ⟨v194, M193, hLM193, hr204, h⟩ := h
          refine w_cV (n := 71) (idx := 422) (cal := 285) (na := 0) (nl := 1) (as := []) (rest := []) hLM191 (by decide +kernel) (by decide +kernel) (at_483) (by decide +kernel) rfl rfl rfl (Nat.le_of_ble_eq_true rfl) rfl hr204 ?_
          refine w_istore_n (n := 72) (i := 3) (l1' := [some (.ref 483), some (.int (ak_I M 484 i1)), some (.int v192), some (.int v194), none]) (l2' := []) (by decide +kernel) rfl (Nat.le_of_ble_eq_true rfl) rfl rfl ?_
          refine w_aload_n (n := 73) (i := 0) (by decide +kernel) rfl rfl ?_
          obtain ⟨v196, M195, hLM195, hr203, h⟩ := h
          refine w_cV (n := 76) (idx := 422) (cal := 285) (na := 0) (nl := 1) (as := []) (rest := []) hLM193 (by decide +kernel) (by decide +kernel) (at_483) (by decide +kernel) rfl rfl rfl (Nat.le_of_ble_eq_true rfl) rfl hr203 ?_
          refine w_istore (n := 78) (i := 4) (l1' := [some (.ref 483), some (.int (ak_I M 484 i1)), some (.int v192), some (.int v194), some (.int v196)]) (l2' := []) (by decide +kernel) rfl (Nat.le_of_ble_eq_true rfl) rfl rfl ?_
          refine w_aload_n (n := 79) (i := 0) (by decide +kernel) rfl rfl ?_
          obtain ⟨v198, M197, hLM197, hr202, h⟩ := h
          refine w_cV (n := 82) (idx := 399) (cal := 280) (na := 0) (nl := 1) (as := []) (rest := []) hLM195 (by decide +kernel) (by decide +kernel) (at_483) (by decide +kernel) rfl rfl rfl (Nat.le_of_ble_eq_true rfl) rfl hr202 ?_
          by_cases c201 : v198 = 0
          · rw [if_pos c201] at h
            refine w_if_eq_j (n := 93) (off := 11) (by decide +kernel) (by decide) c201 ?_
            exact h
          · rw [if_neg c201] at h
            refine w_if_eq_n (n := 85) (off := 11) (by decide +kernel) rfl c201 ?_
            refine w_aload_n (n := 86) (i := 0) (by decide +kernel) rfl rfl ?_
            refine w_iload_n (n := 87) (i := 2) (by decide +kernel) rfl rfl ?_
            refine w_iload_n (n := 88) (i := 3) (by decide +kernel) rfl rfl ?_
            refine w_iload (n := 90) (i := 4) (by decide +kernel) rfl rfl ?_
            obtain ⟨M199, hLM199, hr200, h⟩ := h
            refine w_cV (n := 93) (idx := 58) (cal := 160) (na := 3) (nl := 4) (as := [.int v192, .int v194, .int v196]) (rest := []) hLM197 (by decide +kernel) (by decide +kernel) (at_483) (by decide +kernel) rfl rfl rfl (Nat.le_of_ble_eq_true rfl) rfl hr200 ?_
            exact h
        · rw [if_neg c206] at h
          refine w_if_ne_j (n := 60) (off := 7) (by decide +kernel) (by decide) c206 ?_
          refine w_sipush (n := 63) (v := 300) (x := 300) (by decide +kernel) rfl (by decide) ?_
          obtain ⟨v177, M176, hLM176, hr190, h⟩ := h
          refine w_cV (n := 66) (idx := 413) (cal := 284) (na := 2) (nl := 3) (as := [.int 0, .int 300]) (rest := []) hLM140 (by decide +kernel) (by decide +kernel) (at_483) (by decide +kernel) rfl rfl rfl (Nat.le_of_ble_eq_true rfl) rfl hr190 ?_
          refine w_istore_n (n := 67) (i := 2) (l1' := [some (.ref 483), some (.int (ak_I M 484 i1)), some (.int v177), none, none]) (l2' := []) (by decide +kernel) rfl (Nat.le_of_ble_eq_true rfl) rfl rfl ?_
          refine w_aload_n (n := 68) (i := 0) (by decide +kernel) rfl rfl ?_
          obtain ⟨v179, M178, hLM178, hr189, h⟩ := h
          refine w_cV (n := 71) (idx := 422) (cal := 285) (na := 0) (nl := 1) (as := []) (rest := []) hLM176 (by decide +kernel) (by decide +kernel) (at_483) (by decide +kernel) rfl rfl rfl (Nat.le_of_ble_eq_true rfl) rfl hr189 ?_
          refine w_istore_n (n := 72) (i := 3) (l1' := [some (.ref 483), some (.int (ak_I M 484 i1)), some (.int v177), some (.int v179), none]) (l2' := []) (by decide +kernel) rfl (Nat.le_of_ble_eq_true rfl) rfl rfl ?_
          refine w_aload_n (n := 73) (i := 0) (by decide +kernel) rfl rfl ?_
          obtain ⟨v181, M180, hLM180, hr188, h⟩ := h
          refine w_cV (n := 76) (idx := 422) (cal := 285) (na := 0) (nl := 1) (as := []) (rest := []) hLM178 (by decide +kernel) (by decide +kernel) (at_483) (by decide +kernel) rfl rfl rfl (Nat.le_of_ble_eq_true rfl) rfl hr188 ?_
          refine w_istore (n := 78) (i := 4) (l1' := [some (.ref 483), some (.int (ak_I M 484 i1)), some (.int v177), some (.int v179), some (.int v181)]) (l2' := []) (by decide +kernel) rfl (Nat.le_of_ble_eq_true rfl) rfl rfl ?_
          refine w_aload_n (n := 79) (i := 0) (by decide +kernel) rfl rfl ?_
          obtain ⟨v183, M182, hLM182, hr187, h⟩ := h
          refine w_cV (n := 82) (idx := 399) (cal := 280) (na := 0) (nl := 1) (as := []) (rest := []) hLM180 (by decide +kernel) (by decide +kernel) (at_483) (by decide +kernel) rfl rfl rfl (Nat.le_of_ble_eq_true rfl) rfl hr187 ?_
          by_cases c186 : v183 = 0
          · rw [if_pos c186] at h
            refine w_if_eq_j (n := 93) (off := 11) (by decide +kernel) (by decide) c186 ?_
            exact h
          · rw [if_neg c186] at h
            refine w_if_eq_n (n := 85) (off := 11) (by decide +kernel) rfl c186 ?_
            refine w_aload_n (n := 86) (i := 0) (by decide +kernel) rfl rfl ?_
            refine w_iload_n (n := 87) (i := 2) (by decide +kernel) rfl rfl ?_
            refine w_iload_n (n := 88) (i := 3) (by decide +kernel) rfl rfl ?_
            refine w_iload (n := 90) (i := 4) (by decide +kernel) rfl rfl ?_
            obtain ⟨M184, hLM184, hr185, h⟩ := h
            refine w_cV (n := 93) (idx := 58) (cal := 160) (na := 3) (nl := 4) (as := [.int v177, .int v179, .int v181]) (rest := []) hLM182 (by decide +kernel) (by decide +kernel) (at_483) (by decide +kernel) rfl rfl rfl (Nat.le_of_ble_eq_true rfl) rfl hr185 ?_
            exact h
      · rw [if_neg c207] at h
        refine w_if_ne_j (n := 42) (off := 7) (by decide +kernel) (by decide) c207 ?_
        refine w_aload_n (n := 43) (i := 0) (by decide +kernel) rfl rfl ?_
        refine w_iload_n (n := 44) (i := 1) (by decide +kernel) rfl rfl ?_
        refine w_iconst (n := 45) (v := 1) (x := 1) (by decide +kernel) rfl (by decide) ?_
        refine w_isub (n := 46) (by decide +kernel) rfl ?_
        refine w_iconst (n := 47) (v := 0) (x := 0) (by decide +kernel) rfl (by decide) ?_
        obtain ⟨v143, M142, hLM142, hr175, h⟩ := h
        refine w_cV (n := 50) (idx := 102) (cal := 177) (na := 2) (nl := 3) (as := [.int ((ak_I M 484 i1) - 1), .int 0]) (rest := [.ref 483]) hLM140 (by decide +kernel) (by decide +kernel) (at_483) (by decide +kernel) rfl rfl rfl (Nat.le_of_ble_eq_true rfl) rfl hr175 ?_
        refine w_iconst (n := 51) (v := 1) (x := 1) (by decide +kernel) rfl (by decide) ?_
        refine w_iadd (n := 52) (by decide +kernel) rfl ?_
        refine w_iload_n (n := 53) (i := 1) (by decide +kernel) rfl rfl ?_
        by_cases c174 : ak_I M 484 i1 = 0
        · rw [if_pos c174] at h
          refine w_if_ne_n (n := 56) (off := 7) (by decide +kernel) rfl c174 ?_
          refine w_iconst (n := 57) (v := 0) (x := 0) (by decide +kernel) rfl (by decide) ?_
          refine w_goto (n := 63) (off := 6) (by decide +kernel) (by decide) ?_
          obtain ⟨v160, M159, hLM159, hr173, h⟩ := h
          refine w_cV (n := 66) (idx := 413) (cal := 284) (na := 2) (nl := 3) (as := [.int (v143 + 1), .int 0]) (rest := []) hLM142 (by decide +kernel) (by decide +kernel) (at_483) (by decide +kernel) rfl rfl rfl (Nat.le_of_ble_eq_true rfl) rfl hr173 ?_
          refine w_istore_n (n := 67) (i := 2) (l1' := [some (.ref 483), some (.int (ak_I M 484 i1)), some (.int v160), none, none]) (l2' := []) (by decide +kernel) rfl (Nat.le_of_ble_eq_true rfl) rfl rfl ?_
          refine w_aload_n (n := 68) (i := 0) (by decide +kernel) rfl rfl ?_
          obtain ⟨v162, M161, hLM161, hr172, h⟩ := h
          refine w_cV (n := 71) (idx := 422) (cal := 285) (na := 0) (nl := 1) (as := []) (rest := []) hLM159 (by decide +kernel) (by decide +kernel) (at_483) (by decide +kernel) rfl rfl rfl (Nat.le_of_ble_eq_true rfl) rfl hr172 ?_
          refine w_istore_n (n := 72) (i := 3) (l1' := [some (.ref 483), some (.int (ak_I M 484 i1)), some (.int v160), some (.int v162), none]) (l2' := []) (by decide +kernel) rfl (Nat.le_of_ble_eq_true rfl) rfl rfl ?_
          refine w_aload_n (n := 73) (i := 0) (by decide +kernel) rfl rfl ?_
          obtain ⟨v164, M163, hLM163, hr171, h⟩ := h
          refine w_cV (n := 76) (idx := 422) (cal := 285) (na := 0) (nl := 1) (as := []) (rest := []) hLM161 (by decide +kernel) (by decide +kernel) (at_483) (by decide +kernel) rfl rfl rfl (Nat.le_of_ble_eq_true rfl) rfl hr171 ?_
          refine w_istore (n := 78) (i := 4) (l1' := [some (.ref 483), some (.int (ak_I M 484 i1)), some (.int v160), some (.int v162), some (.int v164)]) (l2' := []) (by decide +kernel) rfl (Nat.le_of_ble_eq_true rfl) rfl rfl ?_
          refine w_aload_n (n := 79) (i := 0) (by decide +kernel) rfl rfl ?_
          obtain ⟨v166, M165, hLM165, hr170, h⟩ := h
          refine w_cV (n := 82) (idx := 399) (cal := 280) (na := 0) (nl := 1) (as := []) (rest := []) hLM163 (by decide +kernel) (by decide +kernel) (at_483) (by decide +kernel) rfl rfl rfl (Nat.le_of_ble_eq_true rfl) rfl hr170 ?_
          by_cases c169 : v166 = 0
          · rw [if_pos c169] at h
            refine w_if_eq_j (n := 93) (off := 11) (by decide +kernel) (by decide) c169 ?_
            exact h
          · rw [if_neg c169] at h
            refine w_if_eq_n (n := 85) (off := 11) (by decide +kernel) rfl c169 ?_
            refine w_aload_n (n := 86) (i := 0) (by decide +kernel) rfl rfl ?_
            refine w_iload_n (n := 87) (i := 2) (by decide +kernel) rfl rfl ?_
            refine w_iload_n (n := 88) (i := 3) (by decide +kernel) rfl rfl ?_
            refine w_iload (n := 90) (i := 4) (by decide +kernel) rfl rfl ?_
            obtain ⟨M167, hLM167, hr168, h⟩ := h
            refine w_cV (n := 93) (idx := 58) (cal := 160) (na := 3) (nl := 4) (as := [.int v160, .int v162, .int v164]) (rest := []) hLM165 (by decide +kernel) (by decide +kernel) (at_483) (by decide +kernel) rfl rfl rfl (Nat.le_of_ble_eq_true rfl) rfl hr168 ?_
            exact h
        · rw [if_neg c174] at h
          refine w_if_ne_j (n := 60) (off := 7) (by decide +kernel) (by decide) c174 ?_
          refine w_sipush (n := 63) (v := 300) (x := 300) (by decide +kernel) rfl (by decide) ?_
          obtain ⟨v145, M144, hLM144, hr158, h⟩ := h
          refine w_cV (n := 66) (idx := 413) (cal := 284) (na := 2) (nl := 3) (as := [.int (v143 + 1), .int 300]) (rest := []) hLM142 (by decide +kernel) (by decide +kernel) (at_483) (by decide +kernel) rfl rfl rfl (Nat.le_of_ble_eq_true rfl) rfl hr158 ?_
          refine w_istore_n (n := 67) (i := 2) (l1' := [some (.ref 483), some (.int (ak_I M 484 i1)), some (.int v145), none, none]) (l2' := []) (by decide +kernel) rfl (Nat.le_of_ble_eq_true rfl) rfl rfl ?_
          refine w_aload_n (n := 68) (i := 0) (by decide +kernel) rfl rfl ?_
          obtain ⟨v147, M146, hLM146, hr157, h⟩ := h
          refine w_cV (n := 71) (idx := 422) (cal := 285) (na := 0) (nl := 1) (as := []) (rest := []) hLM144 (by decide +kernel) (by decide +kernel) (at_483) (by decide +kernel) rfl rfl rfl (Nat.le_of_ble_eq_true rfl) rfl hr157 ?_
          refine w_istore_n (n := 72) (i := 3) (l1' := [some (.ref 483), some (.int (ak_I M 484 i1)), some (.int v145), some (.int v147), none]) (l2' := []) (by decide +kernel) rfl (Nat.le_of_ble_eq_true rfl) rfl rfl ?_
          refine w_aload_n (n := 73) (i := 0) (by decide +kernel) rfl rfl ?_
          obtain ⟨v149, M148, hLM148, hr156, h⟩ := h
          refine w_cV (n := 76) (idx := 422) (cal := 285) (na := 0) (nl := 1) (as := []) (rest := []) hLM146 (by decide +kernel) (by decide +kernel) (at_483) (by decide +kernel) rfl rfl rfl (Nat.le_of_ble_eq_true rfl) rfl hr156 ?_
          refine w_istore (n := 78) (i := 4) (l1' := [some (.ref 483), some (.int (ak_I M 484 i1)), some (.int v145), some (.int v147), some (.int v149)]) (l2' := []) (by decide +kernel) rfl (Nat.le_of_ble_eq_true rfl) rfl rfl ?_
          refine w_aload_n (n := 79) (i := 0) (by decide +kernel) rfl rfl ?_
          obtain ⟨v151, M150, hLM150, hr155, h⟩ := h
          refine w_cV (n := 82) (idx := 399) (cal := 280) (na := 0) (nl := 1) (as := []) (rest := []) hLM148 (by decide +kernel) (by decide +kernel) (at_483) (by decide +kernel) rfl rfl rfl (Nat.le_of_ble_eq_true rfl) rfl hr155 ?_
          by_cases c154 : v151 = 0
          · rw [if_pos c154] at h
            refine w_if_eq_j (n := 93) (off := 11) (by decide +kernel) (by decide) c154 ?_
            exact h
          · rw [if_neg c154] at h
            refine w_if_eq_n (n := 85) (off := 11) (by decide +kernel) rfl c154 ?_
            refine w_aload_n (n := 86) (i := 0) (by decide +kernel) rfl rfl ?_
            refine w_iload_n (n := 87) (i := 2) (by decide +kernel) rfl rfl ?_
            refine w_iload_n (n := 88) (i := 3) (by decide +kernel) rfl rfl ?_
            refine w_iload (n := 90) (i := 4) (by decide +kernel) rfl rfl ?_
            obtain ⟨M152, hLM152, hr153, h⟩ := h
            refine w_cV (n := 93) (idx := 58) (cal := 160) (na := 3) (nl := 4) (as := [.int v145, .int v147, .int v149]) (rest := []) hLM150 (by decide +kernel) (by decide +kernel) (at_483) (by decide +kernel) rfl rfl rfl (Nat.le_of_ble_eq_true rfl) rfl hr153 ?_
            exact h
theorem t_288_93 {X : ak_X} {M : ak_M} {r : ak_O × ak_M} (hL : ab_lay M) (o0 : Option Value) (o1 : Option Value) (o2 : Option Value) (o3 : Option Value) (o4 : Option Value) (h : r = (.inl none, M)) : sg X 288 (93, [o0, o1, o2, o3, o4], [], []) M r := by
  subst h
  exact w_vreturn (by decide +kernel) (by decide +kernel)
theorem t_289 {X : ak_X} {M : ak_M} {r : ak_O × ak_M} (hL : ab_lay M) (h : (if ((ak_I M 483 26) >>> ((ak_I M 483 22) &&& 31)) &&& 1 = 0 then (∃ (M21 : ak_M), ab_lay M21 ∧ rn X 281 [.ref 483, .int 1, .int 3] M (.inl (none), M21) ∧ (∀ M22 : ak_M, M22 = ak_sI M21 483 26 ((ak_I M21 483 26) ||| (1 <<< ((ak_I M 483 22) &&& 31))) → (∃ (M23 : ak_M), ab_lay M23 ∧ rn X 282 [.ref 483] M22 (.inl (none), M23) ∧ (∃ (v25 : Int32) (M24 : ak_M), ab_lay M24 ∧ rn X 268 [.int (ak_I M 483 22)] M23 (.inl (some (.int v25)), M24) ∧ (∃ (v27 : Int32) (M26 : ak_M), ab_lay M26 ∧ rn X 269 [.int (ak_I M 483 22)] M24 (.inl (some (.int v27)), M26) ∧ (∃ (v29 : Int32) (M28 : ak_M), ab_lay M28 ∧ rn X 284 [.ref 483, .int v25, .int v27] M26 (.inl (some (.int v29)), M28) ∧ (∃ (v31 : Int32) (M30 : ak_M), ab_lay M30 ∧ rn X 280 [.ref 483] M28 (.inl (some (.int v31)), M30) ∧ (if v31 = 0 then r = (.inl none, M30) else (∃ i32 : Nat, ab_ix (3 + (ak_I M 483 22)) i32 245 ∧ (∀ M33 : ak_M, M33 = ak_sI M30 484 i32 v29 → r = (.inl none, M33))))))))))) else (∃ (M1 : ak_M), ab_lay M1 ∧ rn X 281 [.ref 483, .int 0, .int 3] M (.inl (none), M1) ∧ (∀ M2 : ak_M, M2 = ak_sI M1 483 26 ((ak_I M1 483 26) ||| (1 <<< ((ak_I M 483 22) &&& 31))) → (∃ (M3 : ak_M), ab_lay M3 ∧ rn X 282 [.ref 483] M2 (.inl (none), M3) ∧ (∃ (v5 : Int32) (M4 : ak_M), ab_lay M4 ∧ rn X 268 [.int (ak_I M 483 22)] M3 (.inl (some (.int v5)), M4) ∧ (∃ (v7 : Int32) (M6 : ak_M), ab_lay M6 ∧ rn X 269 [.int (ak_I M 483 22)] M4 (.inl (some (.int v7)), M6) ∧ (∃ (v9 : Int32) (M8 : ak_M), ab_lay M8 ∧ rn X 284 [.ref 483, .int v5, .int v7] M6 (.inl (some (.int v9)), M8) ∧ (∃ (v11 : Int32) (M10 : ak_M), ab_lay M10 ∧ rn X 280 [.ref 483] M8 (.inl (some (.int v11)), M10) ∧ (if v11 = 0 then r = (.inl none, M10) else (∃ i12 : Nat, ab_ix (3 + (ak_I M 483 22)) i12 245 ∧ (∀ M13 : ak_M, M13 = ak_sI M10 484 i12 v9 → r = (.inl none, M13))))))))))))) : rn X 289 [.ref 483] M r := by
  refine w_rn (nL := 3) (l1 := [some (.ref 483), none, none]) (by decide +kernel) rfl rfl ?_
  refine w_aload_n (n := 1) (i := 0) (by decide +kernel) rfl rfl ?_
  refine w_getI (n := 4) hL (by decide +kernel) oO_289 fF_12_368 (at_483) (by decide) rfl ?_
  refine w_istore_n (n := 5) (i := 1) (l1' := [some (.ref 483), some (.int (ak_I M 483 22)), none]) (l2' := []) (by decide +kernel) rfl (Nat.le_of_ble_eq_true rfl) rfl rfl ?_
  refine w_aload_n (n := 6) (i := 0) (by decide +kernel) rfl rfl ?_
  refine w_aload_n (n := 7) (i := 0) (by decide +kernel) rfl rfl ?_
  refine w_getI (n := 10) hL (by decide +kernel) oO_289 fF_12_425 (at_483) (by decide) rfl ?_
  refine w_iload_n (n := 11) (i := 1) (by decide +kernel) rfl rfl ?_
  refine w_ishr (n := 12) (by decide +kernel) rfl ?_
  refine w_iconst (n := 13) (v := 1) (x := 1) (by decide +kernel) rfl (by decide) ?_
  refine w_iand (n := 14) (by decide +kernel) rfl ?_
  by_cases c41 : ((ak_I M 483 26) >>> ((ak_I M 483 22) &&& 31)) &&& 1 = 0
  · rw [if_pos c41] at h
    refine w_if_ne_n (n := 17) (off := 7) (by decide +kernel) rfl c41 ?_
    refine w_iconst (n := 18) (v := 1) (x := 1) (by decide +kernel) rfl (by decide) ?_
    refine w_goto (n := 22) (off := 4) (by decide +kernel) (by decide) ?_
    refine w_iconst (n := 23) (v := 3) (x := 3) (by decide +kernel) rfl (by decide) ?_
    obtain ⟨M21, hLM21, hr40, h⟩ := h
    refine w_cV (n := 26) (idx := 406) (cal := 281) (na := 2) (nl := 3) (as := [.int 1, .int 3]) (rest := []) hL (by decide +kernel) (by decide +kernel) (at_483) (by decide +kernel) rfl rfl rfl (Nat.le_of_ble_eq_true rfl) rfl hr40 ?_
    refine w_aload_n (n := 27) (i := 0) (by decide +kernel) rfl rfl ?_
    refine w_aload_n (n := 28) (i := 0) (by decide +kernel) rfl rfl ?_
    refine w_getI (n := 31) hLM21 (by decide +kernel) oO_289 fF_12_425 (at_483) (by decide) rfl ?_
    refine w_iconst (n := 32) (v := 1) (x := 1) (by decide +kernel) rfl (by decide) ?_
    refine w_iload_n (n := 33) (i := 1) (by decide +kernel) rfl rfl ?_
    refine w_ishl (n := 34) (by decide +kernel) rfl ?_
    refine w_ior (n := 35) (by decide +kernel) rfl ?_
    refine w_putI (n := 38) hLM21 (by decide +kernel) oO_289 fF_12_425 (at_483) ⟨by decide, Or.inl (by decide)⟩ rfl ?_
    generalize eM22 : ak_sI M21 483 26 ((ak_I M21 483 26) ||| (1 <<< ((ak_I M 483 22) &&& 31))) = M22
    have hLM22 : ab_lay M22 := by rw [← eM22]; exact ab_lay.sI hLM21
    replace h := h M22 eM22.symm
    refine w_aload_n (n := 39) (i := 0) (by decide +kernel) rfl rfl ?_
    obtain ⟨M23, hLM23, hr39, h⟩ := h
    refine w_cV (n := 42) (idx := 410) (cal := 282) (na := 0) (nl := 1) (as := []) (rest := []) hLM22 (by decide +kernel) (by decide +kernel) (at_483) (by decide +kernel) rfl rfl rfl (Nat.le_of_ble_eq_true rfl) rfl hr39 ?_
    refine w_aload_n (n := 43) (i := 0) (by decide +kernel) rfl rfl ?_
    refine w_iload_n (n := 44) (i := 1) (by decide +kernel) rfl rfl ?_
    obtain ⟨v25, M24, hLM24, hr38, h⟩ := h
    refine w_cS (n := 47) (idx := 334) (cal := 268) (na := 1) (nl := 1) (as := [.int (ak_I M 483 22)]) (rest := [.ref 483]) (by decide +kernel) (by decide +kernel) rfl rfl rfl (Nat.le_of_ble_eq_true rfl) rfl hr38 ?_
    refine w_iload_n (n := 48) (i := 1) (by decide +kernel) rfl rfl ?_
    obtain ⟨v27, M26, hLM26, hr37, h⟩ := h
    refine w_cS (n := 51) (idx := 337) (cal := 269) (na := 1) (nl := 1) (as := [.int (ak_I M 483 22)]) (rest := [.int v25, .ref 483]) (by decide +kernel) (by decide +kernel) rfl rfl rfl (Nat.le_of_ble_eq_true rfl) rfl hr37 ?_
    obtain ⟨v29, M28, hLM28, hr36, h⟩ := h
    refine w_cV (n := 54) (idx := 413) (cal := 284) (na := 2) (nl := 3) (as := [.int v25, .int v27]) (rest := []) hLM26 (by decide +kernel) (by decide +kernel) (at_483) (by decide +kernel) rfl rfl rfl (Nat.le_of_ble_eq_true rfl) rfl hr36 ?_
    refine w_istore_n (n := 55) (i := 2) (l1' := [some (.ref 483), some (.int (ak_I M 483 22)), some (.int v29)]) (l2' := []) (by decide +kernel) rfl (Nat.le_of_ble_eq_true rfl) rfl rfl ?_
    refine w_aload_n (n := 56) (i := 0) (by decide +kernel) rfl rfl ?_
    obtain ⟨v31, M30, hLM30, hr35, h⟩ := h
    refine w_cV (n := 59) (idx := 399) (cal := 280) (na := 0) (nl := 1) (as := []) (rest := []) hLM28 (by decide +kernel) (by decide +kernel) (at_483) (by decide +kernel) rfl rfl rfl (Nat.le_of_ble_eq_true rfl) rfl hr35 ?_
    by_cases c34 : v31 = 0
    · rw [if_pos c34] at h
      refine w_if_eq_j (n := 71) (off := 12) (by decide +kernel) (by decide) c34 ?_
      subst h
      exact w_vreturn (by decide +kernel) (by decide +kernel)
    · rw [if_neg c34] at h
      refine w_if_eq_n (n := 62) (off := 12) (by decide +kernel) rfl c34 ?_
      refine w_aload_n (n := 63) (i := 0) (by decide +kernel) rfl rfl ?_
      refine w_getR (n := 66) hLM30 (by decide +kernel) oO_289 fF_12_7 (at_483) (by decide) (ar_483_1) rfl ?_
      refine w_iconst (n := 67) (v := 3) (x := 3) (by decide +kernel) rfl (by decide) ?_
      refine w_iload_n (n := 68) (i := 1) (by decide +kernel) rfl rfl ?_
      refine w_iadd (n := 69) (by decide +kernel) rfl ?_
      refine w_iload_n (n := 70) (i := 2) (by decide +kernel) rfl rfl ?_
      obtain ⟨i32, gi32, h⟩ := h
      refine w_iast (n := 71) hLM30 (by decide +kernel) (at_484) (an_484) gi32 rfl ?_
      generalize eM33 : ak_sI M30 484 i32 v29 = M33
      have hLM33 : ab_lay M33 := by rw [← eM33]; exact ab_lay.sI hLM30
      replace h := h M33 eM33.symm
      subst h
      exact w_vreturn (by decide +kernel) (by decide +kernel)
  · rw [if_neg c41] at h
    refine w_if_ne_j (n := 21) (off := 7) (by decide +kernel) (by decide) c41 ?_
    refine w_iconst (n := 22) (v := 0) (x := 0) (by decide +kernel) rfl (by decide) ?_
    refine w_iconst (n := 23) (v := 3) (x := 3) (by decide +kernel) rfl (by decide) ?_
    obtain ⟨M1, hLM1, hr20, h⟩ := h
    refine w_cV (n := 26) (idx := 406) (cal := 281) (na := 2) (nl := 3) (as := [.int 0, .int 3]) (rest := []) hL (by decide +kernel) (by decide +kernel) (at_483) (by decide +kernel) rfl rfl rfl (Nat.le_of_ble_eq_true rfl) rfl hr20 ?_
    refine w_aload_n (n := 27) (i := 0) (by decide +kernel) rfl rfl ?_
    refine w_aload_n (n := 28) (i := 0) (by decide +kernel) rfl rfl ?_
    refine w_getI (n := 31) hLM1 (by decide +kernel) oO_289 fF_12_425 (at_483) (by decide) rfl ?_
    refine w_iconst (n := 32) (v := 1) (x := 1) (by decide +kernel) rfl (by decide) ?_
    refine w_iload_n (n := 33) (i := 1) (by decide +kernel) rfl rfl ?_
    refine w_ishl (n := 34) (by decide +kernel) rfl ?_
    refine w_ior (n := 35) (by decide +kernel) rfl ?_
    refine w_putI (n := 38) hLM1 (by decide +kernel) oO_289 fF_12_425 (at_483) ⟨by decide, Or.inl (by decide)⟩ rfl ?_
    generalize eM2 : ak_sI M1 483 26 ((ak_I M1 483 26) ||| (1 <<< ((ak_I M 483 22) &&& 31))) = M2
    have hLM2 : ab_lay M2 := by rw [← eM2]; exact ab_lay.sI hLM1
    replace h := h M2 eM2.symm
    refine w_aload_n (n := 39) (i := 0) (by decide +kernel) rfl rfl ?_
    obtain ⟨M3, hLM3, hr19, h⟩ := h
    refine w_cV (n := 42) (idx := 410) (cal := 282) (na := 0) (nl := 1) (as := []) (rest := []) hLM2 (by decide +kernel) (by decide +kernel) (at_483) (by decide +kernel) rfl rfl rfl (Nat.le_of_ble_eq_true rfl) rfl hr19 ?_
    refine w_aload_n (n := 43) (i := 0) (by decide +kernel) rfl rfl ?_
    refine w_iload_n (n := 44) (i := 1) (by decide +kernel) rfl rfl ?_
    obtain ⟨v5, M4, hLM4, hr18, h⟩ := h
    refine w_cS (n := 47) (idx := 334) (cal := 268) (na := 1) (nl := 1) (as := [.int (ak_I M 483 22)]) (rest := [.ref 483]) (by decide +kernel) (by decide +kernel) rfl rfl rfl (Nat.le_of_ble_eq_true rfl) rfl hr18 ?_
    refine w_iload_n (n := 48) (i := 1) (by decide +kernel) rfl rfl ?_
    obtain ⟨v7, M6, hLM6, hr17, h⟩ := h
    refine w_cS (n := 51) (idx := 337) (cal := 269) (na := 1) (nl := 1) (as := [.int (ak_I M 483 22)]) (rest := [.int v5, .ref 483]) (by decide +kernel) (by decide +kernel) rfl rfl rfl (Nat.le_of_ble_eq_true rfl) rfl hr17 ?_
    obtain ⟨v9, M8, hLM8, hr16, h⟩ := h
    refine w_cV (n := 54) (idx := 413) (cal := 284) (na := 2) (nl := 3) (as := [.int v5, .int v7]) (rest := []) hLM6 (by decide +kernel) (by decide +kernel) (at_483) (by decide +kernel) rfl rfl rfl (Nat.le_of_ble_eq_true rfl) rfl hr16 ?_
    refine w_istore_n (n := 55) (i := 2) (l1' := [some (.ref 483), some (.int (ak_I M 483 22)), some (.int v9)]) (l2' := []) (by decide +kernel) rfl (Nat.le_of_ble_eq_true rfl) rfl rfl ?_
    refine w_aload_n (n := 56) (i := 0) (by decide +kernel) rfl rfl ?_
    obtain ⟨v11, M10, hLM10, hr15, h⟩ := h
    refine w_cV (n := 59) (idx := 399) (cal := 280) (na := 0) (nl := 1) (as := []) (rest := []) hLM8 (by decide +kernel) (by decide +kernel) (at_483) (by decide +kernel) rfl rfl rfl (Nat.le_of_ble_eq_true rfl) rfl hr15 ?_
    by_cases c14 : v11 = 0
    · rw [if_pos c14] at h
      refine w_if_eq_j (n := 71) (off := 12) (by decide +kernel) (by decide) c14 ?_
      subst h
      exact w_vreturn (by decide +kernel) (by decide +kernel)
    · rw [if_neg c14] at h
      refine w_if_eq_n (n := 62) (off := 12) (by decide +kernel) rfl c14 ?_
      refine w_aload_n (n := 63) (i := 0) (by decide +kernel) rfl rfl ?_
      refine w_getR (n := 66) hLM10 (by decide +kernel) oO_289 fF_12_7 (at_483) (by decide) (ar_483_1) rfl ?_
      refine w_iconst (n := 67) (v := 3) (x := 3) (by decide +kernel) rfl (by decide) ?_
      refine w_iload_n (n := 68) (i := 1) (by decide +kernel) rfl rfl ?_
      refine w_iadd (n := 69) (by decide +kernel) rfl ?_
      refine w_iload_n (n := 70) (i := 2) (by decide +kernel) rfl rfl ?_
      obtain ⟨i12, gi12, h⟩ := h
      refine w_iast (n := 71) hLM10 (by decide +kernel) (at_484) (an_484) gi12 rfl ?_
      generalize eM13 : ak_sI M10 484 i12 v9 = M13
      have hLM13 : ab_lay M13 := by rw [← eM13]; exact ab_lay.sI hLM10
      replace h := h M13 eM13.symm
      subst h
      exact w_vreturn (by decide +kernel) (by decide +kernel)
theorem t_290 {X : ak_X} {M : ak_M} {r : ak_O × ak_M} (hL : ab_lay M) (h : (if ak_I M 483 21 = 1 then (∃ (v43 : Int32) (M42 : ak_M), ab_lay M42 ∧ rn X 157 [.long ((ak_I M 483 22).toInt64), .long 0, .long 5] M (.inl (some (.int v43)), M42) ∧ (if v43 = 0 then (∃ (v45 : Int32) (M44 : ak_M), ab_lay M44 ∧ rn X 283 [.ref 483, .int 6] M42 (.inl (some (.int v45)), M44) ∧ (if v45 = 0 then (∃ (v47 : Int32) (M46 : ak_M), ab_lay M46 ∧ rn X 283 [.ref 483, .int 7] M44 (.inl (some (.int v47)), M46) ∧ (if v47 = 0 then (∃ (M48 : ak_M), ab_lay M48 ∧ rn X 281 [.ref 483, .int 0, .int 1] M46 (.inl (none), M48) ∧ (if ak_I M48 483 21 = 3 then (∃ (M53 : ak_M), ab_lay M53 ∧ rn X 281 [.ref 483, .int 1, .int 1] M48 (.inl (none), M53) ∧ (∃ (M54 : ak_M), ab_lay M54 ∧ rn X 282 [.ref 483] M53 (.inl (none), M54) ∧ r = (.inl none, M54))) else (∃ (M49 : ak_M), ab_lay M49 ∧ rn X 281 [.ref 483, .int 0, .int 1] M48 (.inl (none), M49) ∧ (∃ (M50 : ak_M), ab_lay M50 ∧ rn X 282 [.ref 483] M49 (.inl (none), M50) ∧ r = (.inl none, M50))))) else (∃ (M59 : ak_M), ab_lay M59 ∧ rn X 288 [.ref 483] M46 (.inl (none), M59) ∧ (if ak_I M59 483 21 = 3 then (∃ (M64 : ak_M), ab_lay M64 ∧ rn X 281 [.ref 483, .int 1, .int 1] M59 (.inl (none), M64) ∧ (∃ (M65 : ak_M), ab_lay M65 ∧ rn X 282 [.ref 483] M64 (.inl (none), M65) ∧ r = (.inl none, M65))) else (∃ (M60 : ak_M), ab_lay M60 ∧ rn X 281 [.ref 483, .int 0, .int 1] M59 (.inl (none), M60) ∧ (∃ (M61 : ak_M), ab_lay M61 ∧ rn X 282 [.ref 483] M60 (.inl (none), M61) ∧ r = (.inl none, M61))))))) else (∃ (M72 : ak_M), ab_lay M72 ∧ rn X 287 [.ref 483] M44 (.inl (none), M72) ∧ (if ak_I M72 483 21 = 3 then (∃ (M77 : ak_M), ab_lay M77 ∧ rn X 281 [.ref 483, .int 1, .int 1] M72 (.inl (none), M77) ∧ (∃ (M78 : ak_M), ab_lay M78 ∧ rn X 282 [.ref 483] M77 (.inl (none), M78) ∧ r = (.inl none, M78))) else (∃ (M73 : ak_M), ab_lay M73 ∧ rn X 281 [.ref 483, .int 0, .int 1] M72 (.inl (none), M73) ∧ (∃ (M74 : ak_M), ab_lay M74 ∧ rn X 282 [.ref 483] M73 (.inl (none), M74) ∧ r = (.inl none, M74))))))) else (∃ (M85 : ak_M), ab_lay M85 ∧ rn X 289 [.ref 483] M42 (.inl (none), M85) ∧ (if ak_I M85 483 21 = 3 then (∃ (M90 : ak_M), ab_lay M90 ∧ rn X 281 [.ref 483, .int 1, .int 1] M85 (.inl (none), M90) ∧ (∃ (M91 : ak_M), ab_lay M91 ∧ rn X 282 [.ref 483] M90 (.inl (none), M91) ∧ r = (.inl none, M91))) else (∃ (M86 : ak_M), ab_lay M86 ∧ rn X 281 [.ref 483, .int 0, .int 1] M85 (.inl (none), M86) ∧ (∃ (M87 : ak_M), ab_lay M87 ∧ rn X 282 [.ref 483] M86 (.inl (none), M87) ∧ r = (.inl none, M87))))))) else (∃ (v2 : Int32) (M1 : ak_M), ab_lay M1 ∧ rn X 283 [.ref 483, .int 6] M (.inl (some (.int v2)), M1) ∧ (if v2 = 0 then (∃ (v4 : Int32) (M3 : ak_M), ab_lay M3 ∧ rn X 283 [.ref 483, .int 7] M1 (.inl (some (.int v4)), M3) ∧ (if v4 = 0 then (∃ (M5 : ak_M), ab_lay M5 ∧ rn X 281 [.ref 483, .int 0, .int 1] M3 (.inl (none), M5) ∧ (if ak_I M5 483 21 = 3 then (∃ (M10 : ak_M), ab_lay M10 ∧ rn X 281 [.ref 483, .int 1, .int 1] M5 (.inl (none), M10) ∧ (∃ (M11 : ak_M), ab_lay M11 ∧ rn X 282 [.ref 483] M10 (.inl (none), M11) ∧ r = (.inl none, M11))) else (∃ (M6 : ak_M), ab_lay M6 ∧ rn X 281 [.ref 483, .int 0, .int 1] M5 (.inl (none), M6) ∧ (∃ (M7 : ak_M), ab_lay M7 ∧ rn X 282 [.ref 483] M6 (.inl (none), M7) ∧ r = (.inl none, M7))))) else (∃ (M16 : ak_M), ab_lay M16 ∧ rn X 288 [.ref 483] M3 (.inl (none), M16) ∧ (if ak_I M16 483 21 = 3 then (∃ (M21 : ak_M), ab_lay M21 ∧ rn X 281 [.ref 483, .int 1, .int 1] M16 (.inl (none), M21) ∧ (∃ (M22 : ak_M), ab_lay M22 ∧ rn X 282 [.ref 483] M21 (.inl (none), M22) ∧ r = (.inl none, M22))) else (∃ (M17 : ak_M), ab_lay M17 ∧ rn X 281 [.ref 483, .int 0, .int 1] M16 (.inl (none), M17) ∧ (∃ (M18 : ak_M), ab_lay M18 ∧ rn X 282 [.ref 483] M17 (.inl (none), M18) ∧ r = (.inl none, M18))))))) else (∃ (M29 : ak_M), ab_lay M29 ∧ rn X 287 [.ref 483] M1 (.inl (none), M29) ∧ (if ak_I M29 483 21 = 3 then (∃ (M34 : ak_M), ab_lay M34 ∧ rn X 281 [.ref 483, .int 1, .int 1] M29 (.inl (none), M34) ∧ (∃ (M35 : ak_M), ab_lay M35 ∧ rn X 282 [.ref 483] M34 (.inl (none), M35) ∧ r = (.inl none, M35))) else (∃ (M30 : ak_M), ab_lay M30 ∧ rn X 281 [.ref 483, .int 0, .int 1] M29 (.inl (none), M30) ∧ (∃ (M31 : ak_M), ab_lay M31 ∧ rn X 282 [.ref 483] M30 (.inl (none), M31) ∧ r = (.inl none, M31))))))))) : rn X 290 [.ref 483] M r := by
  refine w_rn (nL := 1) (l1 := [some (.ref 483)]) (by decide +kernel) rfl rfl ?_
  refine w_aload_n (n := 1) (i := 0) (by decide +kernel) rfl rfl ?_
  refine w_getI (n := 4) hL (by decide +kernel) oO_290 fF_12_359 (at_483) (by decide) rfl ?_
  refine w_iconst (n := 5) (v := 1) (x := 1) (by decide +kernel) rfl (by decide) ?_
  by_cases c98 : ak_I M 483 21 = 1
  · rw [if_pos c98] at h
    refine w_icmp_ne_n (n := 8) (off := 25) (by decide +kernel) rfl c98 ?_
    refine w_aload_n (n := 9) (i := 0) (by decide +kernel) rfl rfl ?_
    refine w_getI (n := 12) hL (by decide +kernel) oO_290 fF_12_368 (at_483) (by decide) rfl ?_
    refine w_i2l (n := 13) (by decide +kernel) rfl ?_
    refine w_lconst (n := 14) (v := 0) (x := 0) (by decide +kernel) rfl (by decide) ?_
    refine w_ldc2 (n := 17) (idx := 250) (v := 5) (by decide +kernel) oO_290 (by decide +kernel) rfl ?_
    obtain ⟨v43, M42, hLM42, hr97, h⟩ := h
    refine w_cS (n := 20) (idx := 84) (cal := 157) (na := 3) (nl := 6) (as := [.long ((ak_I M 483 22).toInt64), .long 0, .long 5]) (rest := []) (by decide +kernel) (by decide +kernel) rfl rfl rfl (Nat.le_of_ble_eq_true rfl) rfl hr97 ?_
    by_cases c96 : v43 = 0
    · rw [if_pos c96] at h
      refine w_if_eq_j (n := 30) (off := 10) (by decide +kernel) (by decide) c96 ?_
      refine w_aload_n (n := 31) (i := 0) (by decide +kernel) rfl rfl ?_
      refine w_bipush (n := 33) (v := 6) (x := 6) (by decide +kernel) rfl (by decide) ?_
      obtain ⟨v45, M44, hLM44, hr84, h⟩ := h
      refine w_cV (n := 36) (idx := 416) (cal := 283) (na := 1) (nl := 2) (as := [.int 6]) (rest := []) hLM42 (by decide +kernel) (by decide +kernel) (at_483) (by decide +kernel) rfl rfl rfl (Nat.le_of_ble_eq_true rfl) rfl hr84 ?_
      by_cases c83 : v45 = 0
      · rw [if_pos c83] at h
        refine w_if_eq_j (n := 46) (off := 10) (by decide +kernel) (by decide) c83 ?_
        refine w_aload_n (n := 47) (i := 0) (by decide +kernel) rfl rfl ?_
        refine w_bipush (n := 49) (v := 7) (x := 7) (by decide +kernel) rfl (by decide) ?_
        obtain ⟨v47, M46, hLM46, hr71, h⟩ := h
        refine w_cV (n := 52) (idx := 416) (cal := 283) (na := 1) (nl := 2) (as := [.int 7]) (rest := []) hLM44 (by decide +kernel) (by decide +kernel) (at_483) (by decide +kernel) rfl rfl rfl (Nat.le_of_ble_eq_true rfl) rfl hr71 ?_
        by_cases c70 : v47 = 0
        · rw [if_pos c70] at h
          refine w_if_eq_j (n := 62) (off := 10) (by decide +kernel) (by decide) c70 ?_
          refine w_aload_n (n := 63) (i := 0) (by decide +kernel) rfl rfl ?_
          refine w_iconst (n := 64) (v := 0) (x := 0) (by decide +kernel) rfl (by decide) ?_
          refine w_iconst (n := 65) (v := 1) (x := 1) (by decide +kernel) rfl (by decide) ?_
          obtain ⟨M48, hLM48, hr58, h⟩ := h
          refine w_cV (n := 68) (idx := 406) (cal := 281) (na := 2) (nl := 3) (as := [.int 0, .int 1]) (rest := []) hLM46 (by decide +kernel) (by decide +kernel) (at_483) (by decide +kernel) rfl rfl rfl (Nat.le_of_ble_eq_true rfl) rfl hr58 ?_
          refine w_aload_n (n := 69) (i := 0) (by decide +kernel) rfl rfl ?_
          refine w_aload_n (n := 70) (i := 0) (by decide +kernel) rfl rfl ?_
          refine w_getI (n := 73) hLM48 (by decide +kernel) oO_290 fF_12_359 (at_483) (by decide) rfl ?_
          refine w_iconst (n := 74) (v := 3) (x := 3) (by decide +kernel) rfl (by decide) ?_
          by_cases c57 : ak_I M48 483 21 = 3
          · rw [if_pos c57] at h
            refine w_icmp_ne_n (n := 77) (off := 7) (by decide +kernel) rfl c57 ?_
            refine w_iconst (n := 78) (v := 1) (x := 1) (by decide +kernel) rfl (by decide) ?_
            refine w_goto (n := 82) (off := 4) (by decide +kernel) (by decide) ?_
            refine w_iconst (n := 83) (v := 1) (x := 1) (by decide +kernel) rfl (by decide) ?_
            obtain ⟨M53, hLM53, hr56, h⟩ := h
            refine w_cV (n := 86) (idx := 406) (cal := 281) (na := 2) (nl := 3) (as := [.int 1, .int 1]) (rest := []) hLM48 (by decide +kernel) (by decide +kernel) (at_483) (by decide +kernel) rfl rfl rfl (Nat.le_of_ble_eq_true rfl) rfl hr56 ?_
            refine w_aload_n (n := 87) (i := 0) (by decide +kernel) rfl rfl ?_
            obtain ⟨M54, hLM54, hr55, h⟩ := h
            refine w_cV (n := 90) (idx := 410) (cal := 282) (na := 0) (nl := 1) (as := []) (rest := []) hLM53 (by decide +kernel) (by decide +kernel) (at_483) (by decide +kernel) rfl rfl rfl (Nat.le_of_ble_eq_true rfl) rfl hr55 ?_
            subst h
            exact w_vreturn (by decide +kernel) (by decide +kernel)
          · rw [if_neg c57] at h
            refine w_icmp_ne_j (n := 81) (off := 7) (by decide +kernel) (by decide) c57 ?_
            refine w_iconst (n := 82) (v := 0) (x := 0) (by decide +kernel) rfl (by decide) ?_
            refine w_iconst (n := 83) (v := 1) (x := 1) (by decide +kernel) rfl (by decide) ?_
            obtain ⟨M49, hLM49, hr52, h⟩ := h
            refine w_cV (n := 86) (idx := 406) (cal := 281) (na := 2) (nl := 3) (as := [.int 0, .int 1]) (rest := []) hLM48 (by decide +kernel) (by decide +kernel) (at_483) (by decide +kernel) rfl rfl rfl (Nat.le_of_ble_eq_true rfl) rfl hr52 ?_
            refine w_aload_n (n := 87) (i := 0) (by decide +kernel) rfl rfl ?_
            obtain ⟨M50, hLM50, hr51, h⟩ := h
            refine w_cV (n := 90) (idx := 410) (cal := 282) (na := 0) (nl := 1) (as := []) (rest := []) hLM49 (by decide +kernel) (by decide +kernel) (at_483) (by decide +kernel) rfl rfl rfl (Nat.le_of_ble_eq_true rfl) rfl hr51 ?_
            subst h
            exact w_vreturn (by decide +kernel) (by decide +kernel)
        · rw [if_neg c70] at h
          refine w_if_eq_n (n := 55) (off := 10) (by decide +kernel) rfl c70 ?_
          refine w_aload_n (n := 56) (i := 0) (by decide +kernel) rfl rfl ?_
          obtain ⟨M59, hLM59, hr69, h⟩ := h
          refine w_cV (n := 59) (idx := 434) (cal := 288) (na := 0) (nl := 1) (as := []) (rest := []) hLM46 (by decide +kernel) (by decide +kernel) (at_483) (by decide +kernel) rfl rfl rfl (Nat.le_of_ble_eq_true rfl) rfl hr69 ?_
          refine w_goto (n := 68) (off := 9) (by decide +kernel) (by decide) ?_
          refine w_aload_n (n := 69) (i := 0) (by decide +kernel) rfl rfl ?_
          refine w_aload_n (n := 70) (i := 0) (by decide +kernel) rfl rfl ?_
          refine w_getI (n := 73) hLM59 (by decide +kernel) oO_290 fF_12_359 (at_483) (by decide) rfl ?_
          refine w_iconst (n := 74) (v := 3) (x := 3) (by decide +kernel) rfl (by decide) ?_
          by_cases c68 : ak_I M59 483 21 = 3
          · rw [if_pos c68] at h
            refine w_icmp_ne_n (n := 77) (off := 7) (by decide +kernel) rfl c68 ?_
            refine w_iconst (n := 78) (v := 1) (x := 1) (by decide +kernel) rfl (by decide) ?_
            refine w_goto (n := 82) (off := 4) (by decide +kernel) (by decide) ?_
            refine w_iconst (n := 83) (v := 1) (x := 1) (by decide +kernel) rfl (by decide) ?_
            obtain ⟨M64, hLM64, hr67, h⟩ := h
            refine w_cV (n := 86) (idx := 406) (cal := 281) (na := 2) (nl := 3) (as := [.int 1, .int 1]) (rest := []) hLM59 (by decide +kernel) (by decide +kernel) (at_483) (by decide +kernel) rfl rfl rfl (Nat.le_of_ble_eq_true rfl) rfl hr67 ?_
            refine w_aload_n (n := 87) (i := 0) (by decide +kernel) rfl rfl ?_
            obtain ⟨M65, hLM65, hr66, h⟩ := h
            refine w_cV (n := 90) (idx := 410) (cal := 282) (na := 0) (nl := 1) (as := []) (rest := []) hLM64 (by decide +kernel) (by decide +kernel) (at_483) (by decide +kernel) rfl rfl rfl (Nat.le_of_ble_eq_true rfl) rfl hr66 ?_
            subst h
            exact w_vreturn (by decide +kernel) (by decide +kernel)
          · rw [if_neg c68] at h
            refine w_icmp_ne_j (n := 81) (off := 7) (by decide +kernel) (by decide) c68 ?_
            refine w_iconst (n := 82) (v := 0) (x := 0) (by decide +kernel) rfl (by decide) ?_
            refine w_iconst (n := 83) (v := 1) (x := 1) (by decide +kernel) rfl (by decide) ?_
            obtain ⟨M60, hLM60, hr63, h⟩ := h
            refine w_cV (n := 86) (idx := 406) (cal := 281) (na := 2) (nl := 3) (as := [.int 0, .int 1]) (rest := []) hLM59 (by decide +kernel) (by decide +kernel) (at_483) (by decide +kernel) rfl rfl rfl (Nat.le_of_ble_eq_true rfl) rfl hr63 ?_
            refine w_aload_n (n := 87) (i := 0) (by decide +kernel) rfl rfl ?_
            obtain ⟨M61, hLM61, hr62, h⟩ := h
            refine w_cV (n := 90) (idx := 410) (cal := 282) (na := 0) (nl := 1) (as := []) (rest := []) hLM60 (by decide +kernel) (by decide +kernel) (at_483) (by decide +kernel) rfl rfl rfl (Nat.le_of_ble_eq_true rfl) rfl hr62 ?_
            subst h
            exact w_vreturn (by decide +kernel) (by decide +kernel)
      · rw [if_neg c83] at h
        refine w_if_eq_n (n := 39) (off := 10) (by decide +kernel) rfl c83 ?_
        refine w_aload_n (n := 40) (i := 0) (by decide +kernel) rfl rfl ?_
        obtain ⟨M72, hLM72, hr82, h⟩ := h
        refine w_cV (n := 43) (idx := 431) (cal := 287) (na := 0) (nl := 1) (as := []) (rest := []) hLM44 (by decide +kernel) (by decide +kernel) (at_483) (by decide +kernel) rfl rfl rfl (Nat.le_of_ble_eq_true rfl) rfl hr82 ?_
        refine w_goto (n := 68) (off := 25) (by decide +kernel) (by decide) ?_
        refine w_aload_n (n := 69) (i := 0) (by decide +kernel) rfl rfl ?_
        refine w_aload_n (n := 70) (i := 0) (by decide +kernel) rfl rfl ?_
        refine w_getI (n := 73) hLM72 (by decide +kernel) oO_290 fF_12_359 (at_483) (by decide) rfl ?_
        refine w_iconst (n := 74) (v := 3) (x := 3) (by decide +kernel) rfl (by decide) ?_
        by_cases c81 : ak_I M72 483 21 = 3
        · rw [if_pos c81] at h
          refine w_icmp_ne_n (n := 77) (off := 7) (by decide +kernel) rfl c81 ?_
          refine w_iconst (n := 78) (v := 1) (x := 1) (by decide +kernel) rfl (by decide) ?_
          refine w_goto (n := 82) (off := 4) (by decide +kernel) (by decide) ?_
          refine w_iconst (n := 83) (v := 1) (x := 1) (by decide +kernel) rfl (by decide) ?_
          obtain ⟨M77, hLM77, hr80, h⟩ := h
          refine w_cV (n := 86) (idx := 406) (cal := 281) (na := 2) (nl := 3) (as := [.int 1, .int 1]) (rest := []) hLM72 (by decide +kernel) (by decide +kernel) (at_483) (by decide +kernel) rfl rfl rfl (Nat.le_of_ble_eq_true rfl) rfl hr80 ?_
          refine w_aload_n (n := 87) (i := 0) (by decide +kernel) rfl rfl ?_
          obtain ⟨M78, hLM78, hr79, h⟩ := h
          refine w_cV (n := 90) (idx := 410) (cal := 282) (na := 0) (nl := 1) (as := []) (rest := []) hLM77 (by decide +kernel) (by decide +kernel) (at_483) (by decide +kernel) rfl rfl rfl (Nat.le_of_ble_eq_true rfl) rfl hr79 ?_
          subst h
          exact w_vreturn (by decide +kernel) (by decide +kernel)
        · rw [if_neg c81] at h
          refine w_icmp_ne_j (n := 81) (off := 7) (by decide +kernel) (by decide) c81 ?_
          refine w_iconst (n := 82) (v := 0) (x := 0) (by decide +kernel) rfl (by decide) ?_
          refine w_iconst (n := 83) (v := 1) (x := 1) (by decide +kernel) rfl (by decide) ?_
          obtain ⟨M73, hLM73, hr76, h⟩ := h
          refine w_cV (n := 86) (idx := 406) (cal := 281) (na := 2) (nl := 3) (as := [.int 0, .int 1]) (rest := []) hLM72 (by decide +kernel) (by decide +kernel) (at_483) (by decide +kernel) rfl rfl rfl (Nat.le_of_ble_eq_true rfl) rfl hr76 ?_
          refine w_aload_n (n := 87) (i := 0) (by decide +kernel) rfl rfl ?_
          obtain ⟨M74, hLM74, hr75, h⟩ := h
          refine w_cV (n := 90) (idx := 410) (cal := 282) (na := 0) (nl := 1) (as := []) (rest := []) hLM73 (by decide +kernel) (by decide +kernel) (at_483) (by decide +kernel) rfl rfl rfl (Nat.le_of_ble_eq_true rfl) rfl hr75 ?_
          subst h
          exact w_vreturn (by decide +kernel) (by decide +kernel)
    · rw [if_neg c96] at h
      refine w_if_eq_n (n := 23) (off := 10) (by decide +kernel) rfl c96 ?_
      refine w_aload_n (n := 24) (i := 0) (by decide +kernel) rfl rfl ?_
      obtain ⟨M85, hLM85, hr95, h⟩ := h
      refine w_cV (n := 27) (idx := 428) (cal := 289) (na := 0) (nl := 1) (as := []) (rest := []) hLM42 (by decide +kernel) (by decide +kernel) (at_483) (by decide +kernel) rfl rfl rfl (Nat.le_of_ble_eq_true rfl) rfl hr95 ?_
      refine w_goto (n := 68) (off := 41) (by decide +kernel) (by decide) ?_
      refine w_aload_n (n := 69) (i := 0) (by decide +kernel) rfl rfl ?_
      refine w_aload_n (n := 70) (i := 0) (by decide +kernel) rfl rfl ?_
      refine w_getI (n := 73) hLM85 (by decide +kernel) oO_290 fF_12_359 (at_483) (by decide) rfl ?_
      refine w_iconst (n := 74) (v := 3) (x := 3) (by decide +kernel) rfl (by decide) ?_
      by_cases c94 : ak_I M85 483 21 = 3
      · rw [if_pos c94] at h
        refine w_icmp_ne_n (n := 77) (off := 7) (by decide +kernel) rfl c94 ?_
        refine w_iconst (n := 78) (v := 1) (x := 1) (by decide +kernel) rfl (by decide) ?_
        refine w_goto (n := 82) (off := 4) (by decide +kernel) (by decide) ?_
        refine w_iconst (n := 83) (v := 1) (x := 1) (by decide +kernel) rfl (by decide) ?_
        obtain ⟨M90, hLM90, hr93, h⟩ := h
        refine w_cV (n := 86) (idx := 406) (cal := 281) (na := 2) (nl := 3) (as := [.int 1, .int 1]) (rest := []) hLM85 (by decide +kernel) (by decide +kernel) (at_483) (by decide +kernel) rfl rfl rfl (Nat.le_of_ble_eq_true rfl) rfl hr93 ?_
        refine w_aload_n (n := 87) (i := 0) (by decide +kernel) rfl rfl ?_
        obtain ⟨M91, hLM91, hr92, h⟩ := h
        refine w_cV (n := 90) (idx := 410) (cal := 282) (na := 0) (nl := 1) (as := []) (rest := []) hLM90 (by decide +kernel) (by decide +kernel) (at_483) (by decide +kernel) rfl rfl rfl (Nat.le_of_ble_eq_true rfl) rfl hr92 ?_
        subst h
        exact w_vreturn (by decide +kernel) (by decide +kernel)
      · rw [if_neg c94] at h
        refine w_icmp_ne_j (n := 81) (off := 7) (by decide +kernel) (by decide) c94 ?_
        refine w_iconst (n := 82) (v := 0) (x := 0) (by decide +kernel) rfl (by decide) ?_
        refine w_iconst (n := 83) (v := 1) (x := 1) (by decide +kernel) rfl (by decide) ?_
        obtain ⟨M86, hLM86, hr89, h⟩ := h
        refine w_cV (n := 86) (idx := 406) (cal := 281) (na := 2) (nl := 3) (as := [.int 0, .int 1]) (rest := []) hLM85 (by decide +kernel) (by decide +kernel) (at_483) (by decide +kernel) rfl rfl rfl (Nat.le_of_ble_eq_true rfl) rfl hr89 ?_
        refine w_aload_n (n := 87) (i := 0) (by decide +kernel) rfl rfl ?_
        obtain ⟨M87, hLM87, hr88, h⟩ := h
        refine w_cV (n := 90) (idx := 410) (cal := 282) (na := 0) (nl := 1) (as := []) (rest := []) hLM86 (by decide +kernel) (by decide +kernel) (at_483) (by decide +kernel) rfl rfl rfl (Nat.le_of_ble_eq_true rfl) rfl hr88 ?_
        subst h
        exact w_vreturn (by decide +kernel) (by decide +kernel)
  · rw [if_neg c98] at h
    refine w_icmp_ne_j (n := 30) (off := 25) (by decide +kernel) (by decide) c98 ?_
    refine w_aload_n (n := 31) (i := 0) (by decide +kernel) rfl rfl ?_
    refine w_bipush (n := 33) (v := 6) (x := 6) (by decide +kernel) rfl (by decide) ?_
    obtain ⟨v2, M1, hLM1, hr41, h⟩ := h
    refine w_cV (n := 36) (idx := 416) (cal := 283) (na := 1) (nl := 2) (as := [.int 6]) (rest := []) hL (by decide +kernel) (by decide +kernel) (at_483) (by decide +kernel) rfl rfl rfl (Nat.le_of_ble_eq_true rfl) rfl hr41 ?_
    by_cases c40 : v2 = 0
    · rw [if_pos c40] at h
      refine w_if_eq_j (n := 46) (off := 10) (by decide +kernel) (by decide) c40 ?_
      refine w_aload_n (n := 47) (i := 0) (by decide +kernel) rfl rfl ?_
      refine w_bipush (n := 49) (v := 7) (x := 7) (by decide +kernel) rfl (by decide) ?_
      obtain ⟨v4, M3, hLM3, hr28, h⟩ := h
      refine w_cV (n := 52) (idx := 416) (cal := 283) (na := 1) (nl := 2) (as := [.int 7]) (rest := []) hLM1 (by decide +kernel) (by decide +kernel) (at_483) (by decide +kernel) rfl rfl rfl (Nat.le_of_ble_eq_true rfl) rfl hr28 ?_
      by_cases c27 : v4 = 0
      · rw [if_pos c27] at h
        refine w_if_eq_j (n := 62) (off := 10) (by decide +kernel) (by decide) c27 ?_
        refine w_aload_n (n := 63) (i := 0) (by decide +kernel) rfl rfl ?_
        refine w_iconst (n := 64) (v := 0) (x := 0) (by decide +kernel) rfl (by decide) ?_
        refine w_iconst (n := 65) (v := 1) (x := 1) (by decide +kernel) rfl (by decide) ?_
        obtain ⟨M5, hLM5, hr15, h⟩ := h
        refine w_cV (n := 68) (idx := 406) (cal := 281) (na := 2) (nl := 3) (as := [.int 0, .int 1]) (rest := []) hLM3 (by decide +kernel) (by decide +kernel) (at_483) (by decide +kernel) rfl rfl rfl (Nat.le_of_ble_eq_true rfl) rfl hr15 ?_
        refine w_aload_n (n := 69) (i := 0) (by decide +kernel) rfl rfl ?_
        refine w_aload_n (n := 70) (i := 0) (by decide +kernel) rfl rfl ?_
        refine w_getI (n := 73) hLM5 (by decide +kernel) oO_290 fF_12_359 (at_483) (by decide) rfl ?_
        refine w_iconst (n := 74) (v := 3) (x := 3) (by decide +kernel) rfl (by decide) ?_
        by_cases c14 : ak_I M5 483 21 = 3
        · rw [if_pos c14] at h
          refine w_icmp_ne_n (n := 77) (off := 7) (by decide +kernel) rfl c14 ?_
          refine w_iconst (n := 78) (v := 1) (x := 1) (by decide +kernel) rfl (by decide) ?_
          refine w_goto (n := 82) (off := 4) (by decide +kernel) (by decide) ?_
          refine w_iconst (n := 83) (v := 1) (x := 1) (by decide +kernel) rfl (by decide) ?_
          obtain ⟨M10, hLM10, hr13, h⟩ := h
          refine w_cV (n := 86) (idx := 406) (cal := 281) (na := 2) (nl := 3) (as := [.int 1, .int 1]) (rest := []) hLM5 (by decide +kernel) (by decide +kernel) (at_483) (by decide +kernel) rfl rfl rfl (Nat.le_of_ble_eq_true rfl) rfl hr13 ?_
          refine w_aload_n (n := 87) (i := 0) (by decide +kernel) rfl rfl ?_
          obtain ⟨M11, hLM11, hr12, h⟩ := h
          refine w_cV (n := 90) (idx := 410) (cal := 282) (na := 0) (nl := 1) (as := []) (rest := []) hLM10 (by decide +kernel) (by decide +kernel) (at_483) (by decide +kernel) rfl rfl rfl (Nat.le_of_ble_eq_true rfl) rfl hr12 ?_
          subst h
          exact w_vreturn (by decide +kernel) (by decide +kernel)
        · rw [if_neg c14] at h
          refine w_icmp_ne_j (n := 81) (off := 7) (by decide +kernel) (by decide) c14 ?_
          refine w_iconst (n := 82) (v := 0) (x := 0) (by decide +kernel) rfl (by decide) ?_
          refine w_iconst (n := 83) (v := 1) (x := 1) (by decide +kernel) rfl (by decide) ?_
          obtain ⟨M6, hLM6, hr9, h⟩ := h
          refine w_cV (n := 86) (idx := 406) (cal := 281) (na := 2) (nl := 3) (as := [.int 0, .int 1]) (rest := []) hLM5 (by decide +kernel) (by decide +kernel) (at_483) (by decide +kernel) rfl rfl rfl (Nat.le_of_ble_eq_true rfl) rfl hr9 ?_
          refine w_aload_n (n := 87) (i := 0) (by decide +kernel) rfl rfl ?_
          obtain ⟨M7, hLM7, hr8, h⟩ := h
          refine w_cV (n := 90) (idx := 410) (cal := 282) (na := 0) (nl := 1) (as := []) (rest := []) hLM6 (by decide +kernel) (by decide +kernel) (at_483) (by decide +kernel) rfl rfl rfl (Nat.le_of_ble_eq_true rfl) rfl hr8 ?_
          subst h
          exact w_vreturn (by decide +kernel) (by decide +kernel)
      · rw [if_neg c27] at h
        refine w_if_eq_n (n := 55) (off := 10) (by decide +kernel) rfl c27 ?_
        refine w_aload_n (n := 56) (i := 0) (by decide +kernel) rfl rfl ?_
        obtain ⟨M16, hLM16, hr26, h⟩ := h
        refine w_cV (n := 59) (idx := 434) (cal := 288) (na := 0) (nl := 1) (as := []) (rest := []) hLM3 (by decide +kernel) (by decide +kernel) (at_483) (by decide +kernel) rfl rfl rfl (Nat.le_of_ble_eq_true rfl) rfl hr26 ?_
        refine w_goto (n := 68) (off := 9) (by decide +kernel) (by decide) ?_
        refine w_aload_n (n := 69) (i := 0) (by decide +kernel) rfl rfl ?_
        refine w_aload_n (n := 70) (i := 0) (by decide +kernel) rfl rfl ?_
        refine w_getI (n := 73) hLM16 (by decide +kernel) oO_290 fF_12_359 (at_483) (by decide) rfl ?_
        refine w_iconst (n := 74) (v := 3) (x := 3) (by decide +kernel) rfl (by decide) ?_
        by_cases c25 : ak_I M16 483 21 = 3
        · rw [if_pos c25] at h
          refine w_icmp_ne_n (n := 77) (off := 7) (by decide +kernel) rfl c25 ?_
          refine w_iconst (n := 78) (v := 1) (x := 1) (by decide +kernel) rfl (by decide) ?_
          refine w_goto (n := 82) (off := 4) (by decide +kernel) (by decide) ?_
          refine w_iconst (n := 83) (v := 1) (x := 1) (by decide +kernel) rfl (by decide) ?_
          obtain ⟨M21, hLM21, hr24, h⟩ := h
          refine w_cV (n := 86) (idx := 406) (cal := 281) (na := 2) (nl := 3) (as := [.int 1, .int 1]) (rest := []) hLM16 (by decide +kernel) (by decide +kernel) (at_483) (by decide +kernel) rfl rfl rfl (Nat.le_of_ble_eq_true rfl) rfl hr24 ?_
          refine w_aload_n (n := 87) (i := 0) (by decide +kernel) rfl rfl ?_
          obtain ⟨M22, hLM22, hr23, h⟩ := h
          refine w_cV (n := 90) (idx := 410) (cal := 282) (na := 0) (nl := 1) (as := []) (rest := []) hLM21 (by decide +kernel) (by decide +kernel) (at_483) (by decide +kernel) rfl rfl rfl (Nat.le_of_ble_eq_true rfl) rfl hr23 ?_
          subst h
          exact w_vreturn (by decide +kernel) (by decide +kernel)
        · rw [if_neg c25] at h
          refine w_icmp_ne_j (n := 81) (off := 7) (by decide +kernel) (by decide) c25 ?_
          refine w_iconst (n := 82) (v := 0) (x := 0) (by decide +kernel) rfl (by decide) ?_
          refine w_iconst (n := 83) (v := 1) (x := 1) (by decide +kernel) rfl (by decide) ?_
          obtain ⟨M17, hLM17, hr20, h⟩ := h
          refine w_cV (n := 86) (idx := 406) (cal := 281) (na := 2) (nl := 3) (as := [.int 0, .int 1]) (rest := []) hLM16 (by decide +kernel) (by decide +kernel) (at_483) (by decide +kernel) rfl rfl rfl (Nat.le_of_ble_eq_true rfl) rfl hr20 ?_
          refine w_aload_n (n := 87) (i := 0) (by decide +kernel) rfl rfl ?_
          obtain ⟨M18, hLM18, hr19, h⟩ := h
          refine w_cV (n := 90) (idx := 410) (cal := 282) (na := 0) (nl := 1) (as := []) (rest := []) hLM17 (by decide +kernel) (by decide +kernel) (at_483) (by decide +kernel) rfl rfl rfl (Nat.le_of_ble_eq_true rfl) rfl hr19 ?_
          subst h
          exact w_vreturn (by decide +kernel) (by decide +kernel)
    · rw [if_neg c40] at h
      refine w_if_eq_n (n := 39) (off := 10) (by decide +kernel) rfl c40 ?_
      refine w_aload_n (n := 40) (i := 0) (by decide +kernel) rfl rfl ?_
      obtain ⟨M29, hLM29, hr39, h⟩ := h
      refine w_cV (n := 43) (idx := 431) (cal := 287) (na := 0) (nl := 1) (as := []) (rest := []) hLM1 (by decide +kernel) (by decide +kernel) (at_483) (by decide +kernel) rfl rfl rfl (Nat.le_of_ble_eq_true rfl) rfl hr39 ?_
      refine w_goto (n := 68) (off := 25) (by decide +kernel) (by decide) ?_
      refine w_aload_n (n := 69) (i := 0) (by decide +kernel) rfl rfl ?_
      refine w_aload_n (n := 70) (i := 0) (by decide +kernel) rfl rfl ?_
      refine w_getI (n := 73) hLM29 (by decide +kernel) oO_290 fF_12_359 (at_483) (by decide) rfl ?_
      refine w_iconst (n := 74) (v := 3) (x := 3) (by decide +kernel) rfl (by decide) ?_
      by_cases c38 : ak_I M29 483 21 = 3
      · rw [if_pos c38] at h
        refine w_icmp_ne_n (n := 77) (off := 7) (by decide +kernel) rfl c38 ?_
        refine w_iconst (n := 78) (v := 1) (x := 1) (by decide +kernel) rfl (by decide) ?_
        refine w_goto (n := 82) (off := 4) (by decide +kernel) (by decide) ?_
        refine w_iconst (n := 83) (v := 1) (x := 1) (by decide +kernel) rfl (by decide) ?_
        obtain ⟨M34, hLM34, hr37, h⟩ := h
        refine w_cV (n := 86) (idx := 406) (cal := 281) (na := 2) (nl := 3) (as := [.int 1, .int 1]) (rest := []) hLM29 (by decide +kernel) (by decide +kernel) (at_483) (by decide +kernel) rfl rfl rfl (Nat.le_of_ble_eq_true rfl) rfl hr37 ?_
        refine w_aload_n (n := 87) (i := 0) (by decide +kernel) rfl rfl ?_
        obtain ⟨M35, hLM35, hr36, h⟩ := h
        refine w_cV (n := 90) (idx := 410) (cal := 282) (na := 0) (nl := 1) (as := []) (rest := []) hLM34 (by decide +kernel) (by decide +kernel) (at_483) (by decide +kernel) rfl rfl rfl (Nat.le_of_ble_eq_true rfl) rfl hr36 ?_
        subst h
        exact w_vreturn (by decide +kernel) (by decide +kernel)
      · rw [if_neg c38] at h
        refine w_icmp_ne_j (n := 81) (off := 7) (by decide +kernel) (by decide) c38 ?_
        refine w_iconst (n := 82) (v := 0) (x := 0) (by decide +kernel) rfl (by decide) ?_
        refine w_iconst (n := 83) (v := 1) (x := 1) (by decide +kernel) rfl (by decide) ?_
        obtain ⟨M30, hLM30, hr33, h⟩ := h
        refine w_cV (n := 86) (idx := 406) (cal := 281) (na := 2) (nl := 3) (as := [.int 0, .int 1]) (rest := []) hLM29 (by decide +kernel) (by decide +kernel) (at_483) (by decide +kernel) rfl rfl rfl (Nat.le_of_ble_eq_true rfl) rfl hr33 ?_
        refine w_aload_n (n := 87) (i := 0) (by decide +kernel) rfl rfl ?_
        obtain ⟨M31, hLM31, hr32, h⟩ := h
        refine w_cV (n := 90) (idx := 410) (cal := 282) (na := 0) (nl := 1) (as := []) (rest := []) hLM30 (by decide +kernel) (by decide +kernel) (at_483) (by decide +kernel) rfl rfl rfl (Nat.le_of_ble_eq_true rfl) rfl hr32 ?_
        subst h
        exact w_vreturn (by decide +kernel) (by decide +kernel)
theorem t_291 {X : ak_X} {M : ak_M} {r : ak_O × ak_M} (hL : ab_lay M) (h : (∀ M1 : ak_M, M1 = ak_sI M 483 0 0 → (∀ M2 : ak_M, M2 = ak_sI M1 483 24 0 → (∀ M3 : ak_M, M3 = ak_sI M2 483 25 ((-1)) → (∃ (M4 : ak_M), ab_lay M4 ∧ rn X 158 [.ref 484, .ref 487] M3 (.inl (none), M4) ∧ (∃ (M5 : ak_M), ab_lay M5 ∧ rn X 159 [.ref 483] M4 (.inl (none), M5) ∧ (∀ M6 : ak_M, M6 = ak_sI M5 483 26 0 → (∀ M7 : ak_M, M7 = ak_sI M6 483 18 (ak_I M6 483 17) → (∀ M8 : ak_M, M8 = ak_sI M7 483 17 0 → (∀ M9 : ak_M, M9 = ak_sI M8 483 19 0 → (∃ (M10 : ak_M), ab_lay M10 ∧ rn X 275 [.ref 483] M9 (.inl (none), M10) ∧ sg X 291 (57, [some (.ref 483)], [], []) M10 r))))))))))) : rn X 291 [.ref 483] M r := by
  refine w_rn (nL := 1) (l1 := [some (.ref 483)]) (by decide +kernel) rfl rfl ?_
  refine w_aload_n (n := 1) (i := 0) (by decide +kernel) rfl rfl ?_
  refine w_iconst (n := 2) (v := 0) (x := 0) (by decide +kernel) rfl (by decide) ?_
  refine w_putI (n := 5) hL (by decide +kernel) oO_291 fF_12_62 (at_483) ⟨by decide, Or.inl (by decide)⟩ rfl ?_
  generalize eM1 : ak_sI M 483 0 0 = M1
  have hLM1 : ab_lay M1 := by rw [← eM1]; exact ab_lay.sI hL
  replace h := h M1 eM1.symm
  refine w_aload_n (n := 6) (i := 0) (by decide +kernel) rfl rfl ?_
  refine w_iconst (n := 7) (v := 0) (x := 0) (by decide +kernel) rfl (by decide) ?_
  refine w_putI (n := 10) hLM1 (by decide +kernel) oO_291 fF_12_396 (at_483) ⟨by decide, Or.inl (by decide)⟩ rfl ?_
  generalize eM2 : ak_sI M1 483 24 0 = M2
  have hLM2 : ab_lay M2 := by rw [← eM2]; exact ab_lay.sI hLM1
  replace h := h M2 eM2.symm
  refine w_aload_n (n := 11) (i := 0) (by decide +kernel) rfl rfl ?_
  refine w_iconst (n := 12) (v := -1) (x := (-1)) (by decide +kernel) rfl (by decide) ?_
  refine w_putI (n := 15) hLM2 (by decide +kernel) oO_291 fF_12_48 (at_483) ⟨by decide, Or.inl (by decide)⟩ rfl ?_
  generalize eM3 : ak_sI M2 483 25 ((-1)) = M3
  have hLM3 : ab_lay M3 := by rw [← eM3]; exact ab_lay.sI hLM2
  replace h := h M3 eM3.symm
  refine w_aload_n (n := 16) (i := 0) (by decide +kernel) rfl rfl ?_
  refine w_getR (n := 19) hLM3 (by decide +kernel) oO_291 fF_12_7 (at_483) (by decide) (ar_483_1) rfl ?_
  refine w_aload_n (n := 20) (i := 0) (by decide +kernel) rfl rfl ?_
  refine w_getR (n := 23) hLM3 (by decide +kernel) oO_291 fF_12_19 (at_483) (by decide) (ar_483_4) rfl ?_
  obtain ⟨M4, hLM4, hr13, h⟩ := h
  refine w_cS (n := 26) (idx := 65) (cal := 158) (na := 2) (nl := 2) (as := [.ref 484, .ref 487]) (rest := []) (by decide +kernel) (by decide +kernel) rfl rfl rfl (Nat.le_of_ble_eq_true rfl) rfl hr13 ?_
  refine w_aload_n (n := 27) (i := 0) (by decide +kernel) rfl rfl ?_
  obtain ⟨M5, hLM5, hr12, h⟩ := h
  refine w_cV (n := 30) (idx := 55) (cal := 159) (na := 0) (nl := 1) (as := []) (rest := []) hLM4 (by decide +kernel) (by decide +kernel) (at_483) (by decide +kernel) rfl rfl rfl (Nat.le_of_ble_eq_true rfl) rfl hr12 ?_
  refine w_aload_n (n := 31) (i := 0) (by decide +kernel) rfl rfl ?_
  refine w_iconst (n := 32) (v := 0) (x := 0) (by decide +kernel) rfl (by decide) ?_
  refine w_putI (n := 35) hLM5 (by decide +kernel) oO_291 fF_12_425 (at_483) ⟨by decide, Or.inl (by decide)⟩ rfl ?_
  generalize eM6 : ak_sI M5 483 26 0 = M6
  have hLM6 : ab_lay M6 := by rw [← eM6]; exact ab_lay.sI hLM5
  replace h := h M6 eM6.symm
  refine w_aload_n (n := 36) (i := 0) (by decide +kernel) rfl rfl ?_
  refine w_aload_n (n := 37) (i := 0) (by decide +kernel) rfl rfl ?_
  refine w_getI (n := 40) hLM6 (by decide +kernel) oO_291 fF_12_340 (at_483) (by decide) rfl ?_
  refine w_putI (n := 43) hLM6 (by decide +kernel) oO_291 fF_12_343 (at_483) ⟨by decide, Or.inl (by decide)⟩ rfl ?_
  generalize eM7 : ak_sI M6 483 18 (ak_I M6 483 17) = M7
  have hLM7 : ab_lay M7 := by rw [← eM7]; exact ab_lay.sI hLM6
  replace h := h M7 eM7.symm
  refine w_aload_n (n := 44) (i := 0) (by decide +kernel) rfl rfl ?_
  refine w_iconst (n := 45) (v := 0) (x := 0) (by decide +kernel) rfl (by decide) ?_
  refine w_putI (n := 48) hLM7 (by decide +kernel) oO_291 fF_12_340 (at_483) ⟨by decide, Or.inl (by decide)⟩ rfl ?_
  generalize eM8 : ak_sI M7 483 17 0 = M8
  have hLM8 : ab_lay M8 := by rw [← eM8]; exact ab_lay.sI hLM7
  replace h := h M8 eM8.symm
  refine w_aload_n (n := 49) (i := 0) (by decide +kernel) rfl rfl ?_
  refine w_iconst (n := 50) (v := 0) (x := 0) (by decide +kernel) rfl (by decide) ?_
  refine w_putI (n := 53) hLM8 (by decide +kernel) oO_291 fF_12_353 (at_483) ⟨by decide, Or.inl (by decide)⟩ rfl ?_
  generalize eM9 : ak_sI M8 483 19 0 = M9
  have hLM9 : ab_lay M9 := by rw [← eM9]; exact ab_lay.sI hLM8
  replace h := h M9 eM9.symm
  refine w_aload_n (n := 54) (i := 0) (by decide +kernel) rfl rfl ?_
  obtain ⟨M10, hLM10, hr11, h⟩ := h
  refine w_cV (n := 57) (idx := 403) (cal := 275) (na := 0) (nl := 1) (as := []) (rest := []) hLM9 (by decide +kernel) (by decide +kernel) (at_483) (by decide +kernel) rfl rfl rfl (Nat.le_of_ble_eq_true rfl) rfl hr11 ?_
  exact h
theorem t_291_57 {X : ak_X} {M : ak_M} {r : ak_O × ak_M} (hL : ab_lay M) (h : (∃ (v15 : Int32) (M14 : ak_M), ab_lay M14 ∧ rn X 280 [.ref 483] M (.inl (some (.int v15)), M14) ∧ (if v15 = 0 then (∃ (v17 : Int32) (M16 : ak_M), ab_lay M16 ∧ rn X 280 [.ref 483] M14 (.inl (some (.int v17)), M16) ∧ (if v17 = 0 then (∃ (M32 : ak_M), ab_lay M32 ∧ rn X 158 [.ref 487, .ref 484] M16 (.inl (none), M32) ∧ r = (.inl (some (.int ((-1)))), M32)) else (∃ i18 : Nat, ab_ix 2 i18 245 ∧ (if ak_I M16 484 i18 = 0 then (∃ (M24 : ak_M), ab_lay M24 ∧ rn X 160 [.ref 483, .int 0, .int 3, .int 0] M16 (.inl (none), M24) ∧ (∀ M25 : ak_M, M25 = ak_sI M24 483 7 0 → (∀ M26 : ak_M, M26 = ak_sI M25 483 8 0 → (∃ (v28 : Int32) (M27 : ak_M), ab_lay M27 ∧ rn X 168 [.ref 483] M26 (.inl (some (.int v28)), M27) ∧ r = (.inl (some (.int v28)), M27))))) else (∀ M19 : ak_M, M19 = ak_sI M16 483 7 0 → (∀ M20 : ak_M, M20 = ak_sI M19 483 8 0 → (∃ (v22 : Int32) (M21 : ak_M), ab_lay M21 ∧ rn X 168 [.ref 483] M20 (.inl (some (.int v22)), M21) ∧ r = (.inl (some (.int v22)), M21)))))))) else (if ak_I M14 483 21 = 0 then (∃ (v37 : Int32) (M36 : ak_M), ab_lay M36 ∧ rn X 280 [.ref 483] M14 (.inl (some (.int v37)), M36) ∧ (if v37 = 0 then (∃ (M52 : ak_M), ab_lay M52 ∧ rn X 158 [.ref 487, .ref 484] M36 (.inl (none), M52) ∧ r = (.inl (some (.int ((-1)))), M52)) else (∃ i38 : Nat, ab_ix 2 i38 245 ∧ (if ak_I M36 484 i38 = 0 then (∃ (M44 : ak_M), ab_lay M44 ∧ rn X 160 [.ref 483, .int 0, .int 3, .int 0] M36 (.inl (none), M44) ∧ (∀ M45 : ak_M, M45 = ak_sI M44 483 7 0 → (∀ M46 : ak_M, M46 = ak_sI M45 483 8 0 → (∃ (v48 : Int32) (M47 : ak_M), ab_lay M47 ∧ rn X 168 [.ref 483] M46 (.inl (some (.int v48)), M47) ∧ r = (.inl (some (.int v48)), M47))))) else (∀ M39 : ak_M, M39 = ak_sI M36 483 7 0 → (∀ M40 : ak_M, M40 = ak_sI M39 483 8 0 → (∃ (v42 : Int32) (M41 : ak_M), ab_lay M41 ∧ rn X 168 [.ref 483] M40 (.inl (some (.int v42)), M41) ∧ r = (.inl (some (.int v42)), M41)))))))) else (∃ (M56 : ak_M), ab_lay M56 ∧ rn X 290 [.ref 483] M14 (.inl (none), M56) ∧ sg X 291 (57, [some (.ref 483)], [], []) M56 r))))) : sg X 291 (57, [some (.ref 483)], [], []) M r := by
  refine w_aload_n (n := 58) (i := 0) (by decide +kernel) rfl rfl ?_
  obtain ⟨v15, M14, hLM14, hr60, h⟩ := h
  refine w_cV (n := 61) (idx := 399) (cal := 280) (na := 0) (nl := 1) (as := []) (rest := []) hL (by decide +kernel) (by decide +kernel) (at_483) (by decide +kernel) rfl rfl rfl (Nat.le_of_ble_eq_true rfl) rfl hr60 ?_
  by_cases c59 : v15 = 0
  · rw [if_pos c59] at h
    refine w_if_eq_j (n := 78) (off := 17) (by decide +kernel) (by decide) c59 ?_
    refine w_aload_n (n := 79) (i := 0) (by decide +kernel) rfl rfl ?_
    obtain ⟨v17, M16, hLM16, hr35, h⟩ := h
    refine w_cV (n := 82) (idx := 399) (cal := 280) (na := 0) (nl := 1) (as := []) (rest := []) hLM14 (by decide +kernel) (by decide +kernel) (at_483) (by decide +kernel) rfl rfl rfl (Nat.le_of_ble_eq_true rfl) rfl hr35 ?_
    by_cases c34 : v17 = 0
    · rw [if_pos c34] at h
      refine w_if_ne_n (n := 85) (off := 16) (by decide +kernel) rfl c34 ?_
      refine w_aload_n (n := 86) (i := 0) (by decide +kernel) rfl rfl ?_
      refine w_getR (n := 89) hLM16 (by decide +kernel) oO_291 fF_12_19 (at_483) (by decide) (ar_483_4) rfl ?_
      refine w_aload_n (n := 90) (i := 0) (by decide +kernel) rfl rfl ?_
      refine w_getR (n := 93) hLM16 (by decide +kernel) oO_291 fF_12_7 (at_483) (by decide) (ar_483_1) rfl ?_
      obtain ⟨M32, hLM32, hr33, h⟩ := h
      refine w_cS (n := 96) (idx := 65) (cal := 158) (na := 2) (nl := 2) (as := [.ref 487, .ref 484]) (rest := []) (by decide +kernel) (by decide +kernel) rfl rfl rfl (Nat.le_of_ble_eq_true rfl) rfl hr33 ?_
      refine w_iconst (n := 97) (v := -1) (x := (-1)) (by decide +kernel) rfl (by decide) ?_
      subst h
      exact w_ireturn (by decide +kernel) (w_okI (by decide +kernel))
    · rw [if_neg c34] at h
      refine w_if_ne_j (n := 98) (off := 16) (by decide +kernel) (by decide) c34 ?_
      refine w_aload_n (n := 99) (i := 0) (by decide +kernel) rfl rfl ?_
      refine w_getR (n := 102) hLM16 (by decide +kernel) oO_291 fF_12_7 (at_483) (by decide) (ar_483_1) rfl ?_
      refine w_iconst (n := 103) (v := 2) (x := 2) (by decide +kernel) rfl (by decide) ?_
      obtain ⟨i18, gi18, h⟩ := h
      refine w_iald (n := 104) hLM16 (by decide +kernel) (at_484) (an_484) gi18 rfl ?_
      by_cases c31 : ak_I M16 484 i18 = 0
      · rw [if_pos c31] at h
        refine w_if_ne_n (n := 107) (off := 10) (by decide +kernel) rfl c31 ?_
        refine w_aload_n (n := 108) (i := 0) (by decide +kernel) rfl rfl ?_
        refine w_iconst (n := 109) (v := 0) (x := 0) (by decide +kernel) rfl (by decide) ?_
        refine w_iconst (n := 110) (v := 3) (x := 3) (by decide +kernel) rfl (by decide) ?_
        refine w_iconst (n := 111) (v := 0) (x := 0) (by decide +kernel) rfl (by decide) ?_
        obtain ⟨M24, hLM24, hr30, h⟩ := h
        refine w_cV (n := 114) (idx := 58) (cal := 160) (na := 3) (nl := 4) (as := [.int 0, .int 3, .int 0]) (rest := []) hLM16 (by decide +kernel) (by decide +kernel) (at_483) (by decide +kernel) rfl rfl rfl (Nat.le_of_ble_eq_true rfl) rfl hr30 ?_
        refine w_aload_n (n := 115) (i := 0) (by decide +kernel) rfl rfl ?_
        refine w_iconst (n := 116) (v := 0) (x := 0) (by decide +kernel) rfl (by decide) ?_
        refine w_putI (n := 119) hLM24 (by decide +kernel) oO_291 fF_12_69 (at_483) ⟨by decide, Or.inl (by decide)⟩ rfl ?_
        generalize eM25 : ak_sI M24 483 7 0 = M25
        have hLM25 : ab_lay M25 := by rw [← eM25]; exact ab_lay.sI hLM24
        replace h := h M25 eM25.symm
        refine w_aload_n (n := 120) (i := 0) (by decide +kernel) rfl rfl ?_
        refine w_iconst (n := 121) (v := 0) (x := 0) (by decide +kernel) rfl (by decide) ?_
        refine w_putI (n := 124) hLM25 (by decide +kernel) oO_291 fF_12_76 (at_483) ⟨by decide, Or.inr ⟨by decide, by decide⟩⟩ rfl ?_
        generalize eM26 : ak_sI M25 483 8 0 = M26
        have hLM26 : ab_lay M26 := by rw [← eM26]; exact ab_lay.sI hLM25
        replace h := h M26 eM26.symm
        refine w_aload_n (n := 125) (i := 0) (by decide +kernel) rfl rfl ?_
        obtain ⟨v28, M27, hLM27, hr29, h⟩ := h
        refine w_cV (n := 128) (idx := 80) (cal := 168) (na := 0) (nl := 1) (as := []) (rest := []) hLM26 (by decide +kernel) (by decide +kernel) (at_483) (by decide +kernel) rfl rfl rfl (Nat.le_of_ble_eq_true rfl) rfl hr29 ?_
        subst h
        exact w_ireturn (by decide +kernel) (w_okI (by decide +kernel))
      · rw [if_neg c31] at h
        refine w_if_ne_j (n := 114) (off := 10) (by decide +kernel) (by decide) c31 ?_
        refine w_aload_n (n := 115) (i := 0) (by decide +kernel) rfl rfl ?_
        refine w_iconst (n := 116) (v := 0) (x := 0) (by decide +kernel) rfl (by decide) ?_
        refine w_putI (n := 119) hLM16 (by decide +kernel) oO_291 fF_12_69 (at_483) ⟨by decide, Or.inl (by decide)⟩ rfl ?_
        generalize eM19 : ak_sI M16 483 7 0 = M19
        have hLM19 : ab_lay M19 := by rw [← eM19]; exact ab_lay.sI hLM16
        replace h := h M19 eM19.symm
        refine w_aload_n (n := 120) (i := 0) (by decide +kernel) rfl rfl ?_
        refine w_iconst (n := 121) (v := 0) (x := 0) (by decide +kernel) rfl (by decide) ?_
        refine w_putI (n := 124) hLM19 (by decide +kernel) oO_291 fF_12_76 (at_483) ⟨by decide, Or.inr ⟨by decide, by decide⟩⟩ rfl ?_
        generalize eM20 : ak_sI M19 483 8 0 = M20
        have hLM20 : ab_lay M20 := by rw [← eM20]; exact ab_lay.sI hLM19
        replace h := h M20 eM20.symm
        refine w_aload_n (n := 125) (i := 0) (by decide +kernel) rfl rfl ?_
        obtain ⟨v22, M21, hLM21, hr23, h⟩ := h
        refine w_cV (n := 128) (idx := 80) (cal := 168) (na := 0) (nl := 1) (as := []) (rest := []) hLM20 (by decide +kernel) (by decide +kernel) (at_483) (by decide +kernel) rfl rfl rfl (Nat.le_of_ble_eq_true rfl) rfl hr23 ?_
        subst h
        exact w_ireturn (by decide +kernel) (w_okI (by decide +kernel))
  · rw [if_neg c59] at h
    refine w_if_eq_n (n := 64) (off := 17) (by decide +kernel) rfl c59 ?_
    refine w_aload_n (n := 65) (i := 0) (by decide +kernel) rfl rfl ?_
    refine w_getI (n := 68) hLM14 (by decide +kernel) oO_291 fF_12_359 (at_483) (by decide) rfl ?_
    by_cases c58 : ak_I M14 483 21 = 0
    · rw [if_pos c58] at h
      refine w_if_eq_j (n := 78) (off := 10) (by decide +kernel) (by decide) c58 ?_
      refine w_aload_n (n := 79) (i := 0) (by decide +kernel) rfl rfl ?_
      obtain ⟨v37, M36, hLM36, hr55, h⟩ := h
      refine w_cV (n := 82) (idx := 399) (cal := 280) (na := 0) (nl := 1) (as := []) (rest := []) hLM14 (by decide +kernel) (by decide +kernel) (at_483) (by decide +kernel) rfl rfl rfl (Nat.le_of_ble_eq_true rfl) rfl hr55 ?_
      by_cases c54 : v37 = 0
      · rw [if_pos c54] at h
        refine w_if_ne_n (n := 85) (off := 16) (by decide +kernel) rfl c54 ?_
        refine w_aload_n (n := 86) (i := 0) (by decide +kernel) rfl rfl ?_
        refine w_getR (n := 89) hLM36 (by decide +kernel) oO_291 fF_12_19 (at_483) (by decide) (ar_483_4) rfl ?_
        refine w_aload_n (n := 90) (i := 0) (by decide +kernel) rfl rfl ?_
        refine w_getR (n := 93) hLM36 (by decide +kernel) oO_291 fF_12_7 (at_483) (by decide) (ar_483_1) rfl ?_
        obtain ⟨M52, hLM52, hr53, h⟩ := h
        refine w_cS (n := 96) (idx := 65) (cal := 158) (na := 2) (nl := 2) (as := [.ref 487, .ref 484]) (rest := []) (by decide +kernel) (by decide +kernel) rfl rfl rfl (Nat.le_of_ble_eq_true rfl) rfl hr53 ?_
        refine w_iconst (n := 97) (v := -1) (x := (-1)) (by decide +kernel) rfl (by decide) ?_
        subst h
        exact w_ireturn (by decide +kernel) (w_okI (by decide +kernel))
      · rw [if_neg c54] at h
        refine w_if_ne_j (n := 98) (off := 16) (by decide +kernel) (by decide) c54 ?_
        refine w_aload_n (n := 99) (i := 0) (by decide +kernel) rfl rfl ?_
        refine w_getR (n := 102) hLM36 (by decide +kernel) oO_291 fF_12_7 (at_483) (by decide) (ar_483_1) rfl ?_
        refine w_iconst (n := 103) (v := 2) (x := 2) (by decide +kernel) rfl (by decide) ?_
        obtain ⟨i38, gi38, h⟩ := h
        refine w_iald (n := 104) hLM36 (by decide +kernel) (at_484) (an_484) gi38 rfl ?_
        by_cases c51 : ak_I M36 484 i38 = 0
        · rw [if_pos c51] at h
          refine w_if_ne_n (n := 107) (off := 10) (by decide +kernel) rfl c51 ?_
          refine w_aload_n (n := 108) (i := 0) (by decide +kernel) rfl rfl ?_
          refine w_iconst (n := 109) (v := 0) (x := 0) (by decide +kernel) rfl (by decide) ?_
          refine w_iconst (n := 110) (v := 3) (x := 3) (by decide +kernel) rfl (by decide) ?_
          refine w_iconst (n := 111) (v := 0) (x := 0) (by decide +kernel) rfl (by decide) ?_
          obtain ⟨M44, hLM44, hr50, h⟩ := h
          refine w_cV (n := 114) (idx := 58) (cal := 160) (na := 3) (nl := 4) (as := [.int 0, .int 3, .int 0]) (rest := []) hLM36 (by decide +kernel) (by decide +kernel) (at_483) (by decide +kernel) rfl rfl rfl (Nat.le_of_ble_eq_true rfl) rfl hr50 ?_
          refine w_aload_n (n := 115) (i := 0) (by decide +kernel) rfl rfl ?_
          refine w_iconst (n := 116) (v := 0) (x := 0) (by decide +kernel) rfl (by decide) ?_
          refine w_putI (n := 119) hLM44 (by decide +kernel) oO_291 fF_12_69 (at_483) ⟨by decide, Or.inl (by decide)⟩ rfl ?_
          generalize eM45 : ak_sI M44 483 7 0 = M45
          have hLM45 : ab_lay M45 := by rw [← eM45]; exact ab_lay.sI hLM44
          replace h := h M45 eM45.symm
          refine w_aload_n (n := 120) (i := 0) (by decide +kernel) rfl rfl ?_
          refine w_iconst (n := 121) (v := 0) (x := 0) (by decide +kernel) rfl (by decide) ?_
          refine w_putI (n := 124) hLM45 (by decide +kernel) oO_291 fF_12_76 (at_483) ⟨by decide, Or.inr ⟨by decide, by decide⟩⟩ rfl ?_
          generalize eM46 : ak_sI M45 483 8 0 = M46
          have hLM46 : ab_lay M46 := by rw [← eM46]; exact ab_lay.sI hLM45
          replace h := h M46 eM46.symm
          refine w_aload_n (n := 125) (i := 0) (by decide +kernel) rfl rfl ?_
          obtain ⟨v48, M47, hLM47, hr49, h⟩ := h
          refine w_cV (n := 128) (idx := 80) (cal := 168) (na := 0) (nl := 1) (as := []) (rest := []) hLM46 (by decide +kernel) (by decide +kernel) (at_483) (by decide +kernel) rfl rfl rfl (Nat.le_of_ble_eq_true rfl) rfl hr49 ?_
          subst h
          exact w_ireturn (by decide +kernel) (w_okI (by decide +kernel))
        · rw [if_neg c51] at h
          refine w_if_ne_j (n := 114) (off := 10) (by decide +kernel) (by decide) c51 ?_
          refine w_aload_n (n := 115) (i := 0) (by decide +kernel) rfl rfl ?_
          refine w_iconst (n := 116) (v := 0) (x := 0) (by decide +kernel) rfl (by decide) ?_
          refine w_putI (n := 119) hLM36 (by decide +kernel) oO_291 fF_12_69 (at_483) ⟨by decide, Or.inl (by decide)⟩ rfl ?_
          generalize eM39 : ak_sI M36 483 7 0 = M39
          have hLM39 : ab_lay M39 := by rw [← eM39]; exact ab_lay.sI hLM36
          replace h := h M39 eM39.symm
          refine w_aload_n (n := 120) (i := 0) (by decide +kernel) rfl rfl ?_
          refine w_iconst (n := 121) (v := 0) (x := 0) (by decide +kernel) rfl (by decide) ?_
          refine w_putI (n := 124) hLM39 (by decide +kernel) oO_291 fF_12_76 (at_483) ⟨by decide, Or.inr ⟨by decide, by decide⟩⟩ rfl ?_
          generalize eM40 : ak_sI M39 483 8 0 = M40
          have hLM40 : ab_lay M40 := by rw [← eM40]; exact ab_lay.sI hLM39
          replace h := h M40 eM40.symm
          refine w_aload_n (n := 125) (i := 0) (by decide +kernel) rfl rfl ?_
          obtain ⟨v42, M41, hLM41, hr43, h⟩ := h
          refine w_cV (n := 128) (idx := 80) (cal := 168) (na := 0) (nl := 1) (as := []) (rest := []) hLM40 (by decide +kernel) (by decide +kernel) (at_483) (by decide +kernel) rfl rfl rfl (Nat.le_of_ble_eq_true rfl) rfl hr43 ?_
          subst h
          exact w_ireturn (by decide +kernel) (w_okI (by decide +kernel))
    · rw [if_neg c58] at h
      refine w_if_eq_n (n := 71) (off := 10) (by decide +kernel) rfl c58 ?_
      refine w_aload_n (n := 72) (i := 0) (by decide +kernel) rfl rfl ?_
      obtain ⟨M56, hLM56, hr57, h⟩ := h
      refine w_cV (n := 75) (idx := 437) (cal := 290) (na := 0) (nl := 1) (as := []) (rest := []) hLM14 (by decide +kernel) (by decide +kernel) (at_483) (by decide +kernel) rfl rfl rfl (Nat.le_of_ble_eq_true rfl) rfl hr57 ?_
      refine w_goto (n := 57) (off := (-18)) (by decide +kernel) (by decide) ?_
      exact h
theorem t_292 {X : ak_X} {M : ak_M} {r : ak_O × ak_M} (hL : ab_lay M) (h : (∀ M1 : ak_M, M1 = ak_sI M 483 0 0 → r = (.inl (some (.int (ak_I M1 483 24))), M1))) : rn X 292 [.ref 483] M r := by
  refine w_rn (nL := 1) (l1 := [some (.ref 483)]) (by decide +kernel) rfl rfl ?_
  refine w_aload_n (n := 1) (i := 0) (by decide +kernel) rfl rfl ?_
  refine w_iconst (n := 2) (v := 0) (x := 0) (by decide +kernel) rfl (by decide) ?_
  refine w_putI (n := 5) hL (by decide +kernel) oO_292 fF_12_62 (at_483) ⟨by decide, Or.inl (by decide)⟩ rfl ?_
  generalize eM1 : ak_sI M 483 0 0 = M1
  have hLM1 : ab_lay M1 := by rw [← eM1]; exact ab_lay.sI hL
  replace h := h M1 eM1.symm
  refine w_aload_n (n := 6) (i := 0) (by decide +kernel) rfl rfl ?_
  refine w_getI (n := 9) hLM1 (by decide +kernel) oO_292 fF_12_396 (at_483) (by decide) rfl ?_
  subst h
  exact w_ireturn (by decide +kernel) (w_okI (by decide +kernel))
theorem t_293 {X : ak_X} {M : ak_M} {r : ak_O × ak_M} (hL : ab_lay M) (h : (∀ M1 : ak_M, M1 = ak_sI M 483 0 0 → r = (.inl (some (.int (ak_I M1 483 25))), M1))) : rn X 293 [.ref 483] M r := by
  refine w_rn (nL := 1) (l1 := [some (.ref 483)]) (by decide +kernel) rfl rfl ?_
  refine w_aload_n (n := 1) (i := 0) (by decide +kernel) rfl rfl ?_
  refine w_iconst (n := 2) (v := 0) (x := 0) (by decide +kernel) rfl (by decide) ?_
  refine w_putI (n := 5) hL (by decide +kernel) oO_293 fF_12_62 (at_483) ⟨by decide, Or.inl (by decide)⟩ rfl ?_
  generalize eM1 : ak_sI M 483 0 0 = M1
  have hLM1 : ab_lay M1 := by rw [← eM1]; exact ab_lay.sI hL
  replace h := h M1 eM1.symm
  refine w_aload_n (n := 6) (i := 0) (by decide +kernel) rfl rfl ?_
  refine w_getI (n := 9) hLM1 (by decide +kernel) oO_293 fF_12_48 (at_483) (by decide) rfl ?_
  subst h
  exact w_ireturn (by decide +kernel) (w_okI (by decide +kernel))
theorem t_294 {X : ak_X} {M : ak_M} {r : ak_O × ak_M} (hL : ab_lay M) (x1 : Int32) (h : (∃ i1 : Nat, ab_ix (ak_I M 483 28) i1 800 ∧ (∀ M2 : ak_M, M2 = ak_sI M 496 i1 (vp_nar .byte (x1.toInt8.toInt32)) → (∀ M3 : ak_M, M3 = ak_sI M2 483 28 ((ak_I M2 483 28) + 1) → r = (.inl none, M3))))) : rn X 294 [.ref 483, .int x1] M r := by
  refine w_rn (nL := 2) (l1 := [some (.ref 483), some (.int x1)]) (by decide +kernel) rfl rfl ?_
  refine w_aload_n (n := 1) (i := 0) (by decide +kernel) rfl rfl ?_
  refine w_getR (n := 4) hL (by decide +kernel) oO_294 fF_12_52 (at_483) (by decide) (ar_483_27) rfl ?_
  refine w_aload_n (n := 5) (i := 0) (by decide +kernel) rfl rfl ?_
  refine w_getI (n := 8) hL (by decide +kernel) oO_294 fF_12_440 (at_483) (by decide) rfl ?_
  refine w_iload_n (n := 9) (i := 1) (by decide +kernel) rfl rfl ?_
  refine w_i2b (n := 10) (by decide +kernel) rfl ?_
  obtain ⟨i1, gi1, h⟩ := h
  refine w_bast (n := 11) hL (by decide +kernel) (at_496) (an_496) gi1 rfl ?_
  generalize eM2 : ak_sI M 496 i1 (vp_nar .byte (x1.toInt8.toInt32)) = M2
  have hLM2 : ab_lay M2 := by rw [← eM2]; exact ab_lay.sI hL
  replace h := h M2 eM2.symm
  refine w_aload_n (n := 12) (i := 0) (by decide +kernel) rfl rfl ?_
  refine w_aload_n (n := 13) (i := 0) (by decide +kernel) rfl rfl ?_
  refine w_getI (n := 16) hLM2 (by decide +kernel) oO_294 fF_12_440 (at_483) (by decide) rfl ?_
  refine w_iconst (n := 17) (v := 1) (x := 1) (by decide +kernel) rfl (by decide) ?_
  refine w_iadd (n := 18) (by decide +kernel) rfl ?_
  refine w_putI (n := 21) hLM2 (by decide +kernel) oO_294 fF_12_440 (at_483) ⟨by decide, Or.inl (by decide)⟩ rfl ?_
  generalize eM3 : ak_sI M2 483 28 ((ak_I M2 483 28) + 1) = M3
  have hLM3 : ab_lay M3 := by rw [← eM3]; exact ab_lay.sI hLM2
  replace h := h M3 eM3.symm
  subst h
  exact w_vreturn (by decide +kernel) (by decide +kernel)
theorem t_295 {X : ak_X} {M : ak_M} {r : ak_O × ak_M} (hL : ab_lay M) (x1 : Int32) (h : (if x1 ≤ 9 then (∃ (M1 : ak_M), ab_lay M1 ∧ rn X 294 [.ref 483, .int (48 + (x1 - x1 / 10 * 10))] M (.inl (none), M1) ∧ r = (.inl none, M1)) else False)) : rn X 295 [.ref 483, .int x1] M r := by
  refine w_rn (nL := 2) (l1 := [some (.ref 483), some (.int x1)]) (by decide +kernel) rfl rfl ?_
  refine w_iload_n (n := 1) (i := 1) (by decide +kernel) rfl rfl ?_
  refine w_bipush (n := 3) (v := 9) (x := 9) (by decide +kernel) rfl (by decide) ?_
  by_cases c3 : x1 ≤ 9
  · rw [if_pos c3] at h
    refine w_icmp_le_j (n := 14) (off := 11) (by decide +kernel) (by decide) c3 ?_
    refine w_aload_n (n := 15) (i := 0) (by decide +kernel) rfl rfl ?_
    refine w_bipush (n := 17) (v := 48) (x := 48) (by decide +kernel) rfl (by decide) ?_
    refine w_iload_n (n := 18) (i := 1) (by decide +kernel) rfl rfl ?_
    refine w_bipush (n := 20) (v := 10) (x := 10) (by decide +kernel) rfl (by decide) ?_
    refine w_irem (n := 21) (by decide +kernel) rfl (by decide) ?_
    refine w_iadd (n := 22) (by decide +kernel) rfl ?_
    obtain ⟨M1, hLM1, hr2, h⟩ := h
    refine w_cV (n := 25) (idx := 446) (cal := 294) (na := 1) (nl := 2) (as := [.int (48 + (x1 - x1 / 10 * 10))]) (rest := []) hL (by decide +kernel) (by decide +kernel) (at_483) (by decide +kernel) rfl rfl rfl (Nat.le_of_ble_eq_true rfl) rfl hr2 ?_
    subst h
    exact w_vreturn (by decide +kernel) (by decide +kernel)
  · rw [if_neg c3] at h
    refine w_icmp_le_n (n := 6) (off := 11) (by decide +kernel) rfl c3 ?_
    refine w_aload_n (n := 7) (i := 0) (by decide +kernel) rfl rfl ?_
    refine w_iload_n (n := 8) (i := 1) (by decide +kernel) rfl rfl ?_
    refine w_bipush (n := 10) (v := 10) (x := 10) (by decide +kernel) rfl (by decide) ?_
    refine w_idiv (n := 11) (by decide +kernel) rfl (by decide) ?_
    exact h.elim
theorem t_296 {X : ak_X} {M : ak_M} {r : ak_O × ak_M} (hL : ab_lay M) (x1 : Int32) (h : (if x1 ≤ 9 then (∃ (M1 : ak_M), ab_lay M1 ∧ rn X 294 [.ref 483, .int (48 + (x1 - x1 / 10 * 10))] M (.inl (none), M1) ∧ r = (.inl none, M1)) else (∃ (M3 : ak_M), ab_lay M3 ∧ rn X 295 [.ref 483, .int (x1 / 10)] M (.inl (none), M3) ∧ (∃ (M4 : ak_M), ab_lay M4 ∧ rn X 294 [.ref 483, .int (48 + (x1 - x1 / 10 * 10))] M3 (.inl (none), M4) ∧ r = (.inl none, M4))))) : rn X 296 [.ref 483, .int x1] M r := by
  refine w_rn (nL := 2) (l1 := [some (.ref 483), some (.int x1)]) (by decide +kernel) rfl rfl ?_
  refine w_iload_n (n := 1) (i := 1) (by decide +kernel) rfl rfl ?_
  refine w_bipush (n := 3) (v := 9) (x := 9) (by decide +kernel) rfl (by decide) ?_
  by_cases c7 : x1 ≤ 9
  · rw [if_pos c7] at h
    refine w_icmp_le_j (n := 14) (off := 11) (by decide +kernel) (by decide) c7 ?_
    refine w_aload_n (n := 15) (i := 0) (by decide +kernel) rfl rfl ?_
    refine w_bipush (n := 17) (v := 48) (x := 48) (by decide +kernel) rfl (by decide) ?_
    refine w_iload_n (n := 18) (i := 1) (by decide +kernel) rfl rfl ?_
    refine w_bipush (n := 20) (v := 10) (x := 10) (by decide +kernel) rfl (by decide) ?_
    refine w_irem (n := 21) (by decide +kernel) rfl (by decide) ?_
    refine w_iadd (n := 22) (by decide +kernel) rfl ?_
    obtain ⟨M1, hLM1, hr2, h⟩ := h
    refine w_cV (n := 25) (idx := 446) (cal := 294) (na := 1) (nl := 2) (as := [.int (48 + (x1 - x1 / 10 * 10))]) (rest := []) hL (by decide +kernel) (by decide +kernel) (at_483) (by decide +kernel) rfl rfl rfl (Nat.le_of_ble_eq_true rfl) rfl hr2 ?_
    subst h
    exact w_vreturn (by decide +kernel) (by decide +kernel)
  · rw [if_neg c7] at h
    refine w_icmp_le_n (n := 6) (off := 11) (by decide +kernel) rfl c7 ?_
    refine w_aload_n (n := 7) (i := 0) (by decide +kernel) rfl rfl ?_
    refine w_iload_n (n := 8) (i := 1) (by decide +kernel) rfl rfl ?_
    refine w_bipush (n := 10) (v := 10) (x := 10) (by decide +kernel) rfl (by decide) ?_
    refine w_idiv (n := 11) (by decide +kernel) rfl (by decide) ?_
    obtain ⟨M3, hLM3, hr6, h⟩ := h
    refine w_cV (n := 14) (idx := 443) (cal := 295) (na := 1) (nl := 2) (as := [.int (x1 / 10)]) (rest := []) hL (by decide +kernel) (by decide +kernel) (at_483) (by decide +kernel) rfl rfl rfl (Nat.le_of_ble_eq_true rfl) rfl hr6 ?_
    refine w_aload_n (n := 15) (i := 0) (by decide +kernel) rfl rfl ?_
    refine w_bipush (n := 17) (v := 48) (x := 48) (by decide +kernel) rfl (by decide) ?_
    refine w_iload_n (n := 18) (i := 1) (by decide +kernel) rfl rfl ?_
    refine w_bipush (n := 20) (v := 10) (x := 10) (by decide +kernel) rfl (by decide) ?_
    refine w_irem (n := 21) (by decide +kernel) rfl (by decide) ?_
    refine w_iadd (n := 22) (by decide +kernel) rfl ?_
    obtain ⟨M4, hLM4, hr5, h⟩ := h
    refine w_cV (n := 25) (idx := 446) (cal := 294) (na := 1) (nl := 2) (as := [.int (48 + (x1 - x1 / 10 * 10))]) (rest := []) hLM3 (by decide +kernel) (by decide +kernel) (at_483) (by decide +kernel) rfl rfl rfl (Nat.le_of_ble_eq_true rfl) rfl hr5 ?_
    subst h
    exact w_vreturn (by decide +kernel) (by decide +kernel)
theorem t_297 {X : ak_X} {M : ak_M} {r : ak_O × ak_M} (hL : ab_lay M) (x1 : Int32) (h : (if x1 ≤ 9 then (∃ (M1 : ak_M), ab_lay M1 ∧ rn X 294 [.ref 483, .int (48 + (x1 - x1 / 10 * 10))] M (.inl (none), M1) ∧ r = (.inl none, M1)) else (∃ (M3 : ak_M), ab_lay M3 ∧ rn X 296 [.ref 483, .int (x1 / 10)] M (.inl (none), M3) ∧ (∃ (M4 : ak_M), ab_lay M4 ∧ rn X 294 [.ref 483, .int (48 + (x1 - x1 / 10 * 10))] M3 (.inl (none), M4) ∧ r = (.inl none, M4))))) : rn X 297 [.ref 483, .int x1] M r := by
  refine w_rn (nL := 2) (l1 := [some (.ref 483), some (.int x1)]) (by decide +kernel) rfl rfl ?_
  refine w_iload_n (n := 1) (i := 1) (by decide +kernel) rfl rfl ?_
  refine w_bipush (n := 3) (v := 9) (x := 9) (by decide +kernel) rfl (by decide) ?_
  by_cases c7 : x1 ≤ 9
  · rw [if_pos c7] at h
    refine w_icmp_le_j (n := 14) (off := 11) (by decide +kernel) (by decide) c7 ?_
    refine w_aload_n (n := 15) (i := 0) (by decide +kernel) rfl rfl ?_
    refine w_bipush (n := 17) (v := 48) (x := 48) (by decide +kernel) rfl (by decide) ?_
    refine w_iload_n (n := 18) (i := 1) (by decide +kernel) rfl rfl ?_
    refine w_bipush (n := 20) (v := 10) (x := 10) (by decide +kernel) rfl (by decide) ?_
    refine w_irem (n := 21) (by decide +kernel) rfl (by decide) ?_
    refine w_iadd (n := 22) (by decide +kernel) rfl ?_
    obtain ⟨M1, hLM1, hr2, h⟩ := h
    refine w_cV (n := 25) (idx := 446) (cal := 294) (na := 1) (nl := 2) (as := [.int (48 + (x1 - x1 / 10 * 10))]) (rest := []) hL (by decide +kernel) (by decide +kernel) (at_483) (by decide +kernel) rfl rfl rfl (Nat.le_of_ble_eq_true rfl) rfl hr2 ?_
    subst h
    exact w_vreturn (by decide +kernel) (by decide +kernel)
  · rw [if_neg c7] at h
    refine w_icmp_le_n (n := 6) (off := 11) (by decide +kernel) rfl c7 ?_
    refine w_aload_n (n := 7) (i := 0) (by decide +kernel) rfl rfl ?_
    refine w_iload_n (n := 8) (i := 1) (by decide +kernel) rfl rfl ?_
    refine w_bipush (n := 10) (v := 10) (x := 10) (by decide +kernel) rfl (by decide) ?_
    refine w_idiv (n := 11) (by decide +kernel) rfl (by decide) ?_
    obtain ⟨M3, hLM3, hr6, h⟩ := h
    refine w_cV (n := 14) (idx := 443) (cal := 296) (na := 1) (nl := 2) (as := [.int (x1 / 10)]) (rest := []) hL (by decide +kernel) (by decide +kernel) (at_483) (by decide +kernel) rfl rfl rfl (Nat.le_of_ble_eq_true rfl) rfl hr6 ?_
    refine w_aload_n (n := 15) (i := 0) (by decide +kernel) rfl rfl ?_
    refine w_bipush (n := 17) (v := 48) (x := 48) (by decide +kernel) rfl (by decide) ?_
    refine w_iload_n (n := 18) (i := 1) (by decide +kernel) rfl rfl ?_
    refine w_bipush (n := 20) (v := 10) (x := 10) (by decide +kernel) rfl (by decide) ?_
    refine w_irem (n := 21) (by decide +kernel) rfl (by decide) ?_
    refine w_iadd (n := 22) (by decide +kernel) rfl ?_
    obtain ⟨M4, hLM4, hr5, h⟩ := h
    refine w_cV (n := 25) (idx := 446) (cal := 294) (na := 1) (nl := 2) (as := [.int (48 + (x1 - x1 / 10 * 10))]) (rest := []) hLM3 (by decide +kernel) (by decide +kernel) (at_483) (by decide +kernel) rfl rfl rfl (Nat.le_of_ble_eq_true rfl) rfl hr5 ?_
    subst h
    exact w_vreturn (by decide +kernel) (by decide +kernel)
theorem t_298 {X : ak_X} {M : ak_M} {r : ak_O × ak_M} (hL : ab_lay M) (x1 : Int32) (h : (if x1 ≤ 9 then (∃ (M1 : ak_M), ab_lay M1 ∧ rn X 294 [.ref 483, .int (48 + (x1 - x1 / 10 * 10))] M (.inl (none), M1) ∧ r = (.inl none, M1)) else (∃ (M3 : ak_M), ab_lay M3 ∧ rn X 297 [.ref 483, .int (x1 / 10)] M (.inl (none), M3) ∧ (∃ (M4 : ak_M), ab_lay M4 ∧ rn X 294 [.ref 483, .int (48 + (x1 - x1 / 10 * 10))] M3 (.inl (none), M4) ∧ r = (.inl none, M4))))) : rn X 298 [.ref 483, .int x1] M r := by
  refine w_rn (nL := 2) (l1 := [some (.ref 483), some (.int x1)]) (by decide +kernel) rfl rfl ?_
  refine w_iload_n (n := 1) (i := 1) (by decide +kernel) rfl rfl ?_
  refine w_bipush (n := 3) (v := 9) (x := 9) (by decide +kernel) rfl (by decide) ?_
  by_cases c7 : x1 ≤ 9
  · rw [if_pos c7] at h
    refine w_icmp_le_j (n := 14) (off := 11) (by decide +kernel) (by decide) c7 ?_
    refine w_aload_n (n := 15) (i := 0) (by decide +kernel) rfl rfl ?_
    refine w_bipush (n := 17) (v := 48) (x := 48) (by decide +kernel) rfl (by decide) ?_
    refine w_iload_n (n := 18) (i := 1) (by decide +kernel) rfl rfl ?_
    refine w_bipush (n := 20) (v := 10) (x := 10) (by decide +kernel) rfl (by decide) ?_
    refine w_irem (n := 21) (by decide +kernel) rfl (by decide) ?_
    refine w_iadd (n := 22) (by decide +kernel) rfl ?_
    obtain ⟨M1, hLM1, hr2, h⟩ := h
    refine w_cV (n := 25) (idx := 446) (cal := 294) (na := 1) (nl := 2) (as := [.int (48 + (x1 - x1 / 10 * 10))]) (rest := []) hL (by decide +kernel) (by decide +kernel) (at_483) (by decide +kernel) rfl rfl rfl (Nat.le_of_ble_eq_true rfl) rfl hr2 ?_
    subst h
    exact w_vreturn (by decide +kernel) (by decide +kernel)
  · rw [if_neg c7] at h
    refine w_icmp_le_n (n := 6) (off := 11) (by decide +kernel) rfl c7 ?_
    refine w_aload_n (n := 7) (i := 0) (by decide +kernel) rfl rfl ?_
    refine w_iload_n (n := 8) (i := 1) (by decide +kernel) rfl rfl ?_
    refine w_bipush (n := 10) (v := 10) (x := 10) (by decide +kernel) rfl (by decide) ?_
    refine w_idiv (n := 11) (by decide +kernel) rfl (by decide) ?_
    obtain ⟨M3, hLM3, hr6, h⟩ := h
    refine w_cV (n := 14) (idx := 443) (cal := 297) (na := 1) (nl := 2) (as := [.int (x1 / 10)]) (rest := []) hL (by decide +kernel) (by decide +kernel) (at_483) (by decide +kernel) rfl rfl rfl (Nat.le_of_ble_eq_true rfl) rfl hr6 ?_
    refine w_aload_n (n := 15) (i := 0) (by decide +kernel) rfl rfl ?_
    refine w_bipush (n := 17) (v := 48) (x := 48) (by decide +kernel) rfl (by decide) ?_
    refine w_iload_n (n := 18) (i := 1) (by decide +kernel) rfl rfl ?_
    refine w_bipush (n := 20) (v := 10) (x := 10) (by decide +kernel) rfl (by decide) ?_
    refine w_irem (n := 21) (by decide +kernel) rfl (by decide) ?_
    refine w_iadd (n := 22) (by decide +kernel) rfl ?_
    obtain ⟨M4, hLM4, hr5, h⟩ := h
    refine w_cV (n := 25) (idx := 446) (cal := 294) (na := 1) (nl := 2) (as := [.int (48 + (x1 - x1 / 10 * 10))]) (rest := []) hLM3 (by decide +kernel) (by decide +kernel) (at_483) (by decide +kernel) rfl rfl rfl (Nat.le_of_ble_eq_true rfl) rfl hr5 ?_
    subst h
    exact w_vreturn (by decide +kernel) (by decide +kernel)
theorem t_299 {X : ak_X} {M : ak_M} {r : ak_O × ak_M} (hL : ab_lay M) (x1 : Int32) (h : (if x1 ≤ 9 then (∃ (M1 : ak_M), ab_lay M1 ∧ rn X 294 [.ref 483, .int (48 + (x1 - x1 / 10 * 10))] M (.inl (none), M1) ∧ r = (.inl none, M1)) else (∃ (M3 : ak_M), ab_lay M3 ∧ rn X 298 [.ref 483, .int (x1 / 10)] M (.inl (none), M3) ∧ (∃ (M4 : ak_M), ab_lay M4 ∧ rn X 294 [.ref 483, .int (48 + (x1 - x1 / 10 * 10))] M3 (.inl (none), M4) ∧ r = (.inl none, M4))))) : rn X 299 [.ref 483, .int x1] M r := by
  refine w_rn (nL := 2) (l1 := [some (.ref 483), some (.int x1)]) (by decide +kernel) rfl rfl ?_
  refine w_iload_n (n := 1) (i := 1) (by decide +kernel) rfl rfl ?_
  refine w_bipush (n := 3) (v := 9) (x := 9) (by decide +kernel) rfl (by decide) ?_
  by_cases c7 : x1 ≤ 9
  · rw [if_pos c7] at h
    refine w_icmp_le_j (n := 14) (off := 11) (by decide +kernel) (by decide) c7 ?_
    refine w_aload_n (n := 15) (i := 0) (by decide +kernel) rfl rfl ?_
    refine w_bipush (n := 17) (v := 48) (x := 48) (by decide +kernel) rfl (by decide) ?_
    refine w_iload_n (n := 18) (i := 1) (by decide +kernel) rfl rfl ?_
    refine w_bipush (n := 20) (v := 10) (x := 10) (by decide +kernel) rfl (by decide) ?_
    refine w_irem (n := 21) (by decide +kernel) rfl (by decide) ?_
    refine w_iadd (n := 22) (by decide +kernel) rfl ?_
    obtain ⟨M1, hLM1, hr2, h⟩ := h
    refine w_cV (n := 25) (idx := 446) (cal := 294) (na := 1) (nl := 2) (as := [.int (48 + (x1 - x1 / 10 * 10))]) (rest := []) hL (by decide +kernel) (by decide +kernel) (at_483) (by decide +kernel) rfl rfl rfl (Nat.le_of_ble_eq_true rfl) rfl hr2 ?_
    subst h
    exact w_vreturn (by decide +kernel) (by decide +kernel)
  · rw [if_neg c7] at h
    refine w_icmp_le_n (n := 6) (off := 11) (by decide +kernel) rfl c7 ?_
    refine w_aload_n (n := 7) (i := 0) (by decide +kernel) rfl rfl ?_
    refine w_iload_n (n := 8) (i := 1) (by decide +kernel) rfl rfl ?_
    refine w_bipush (n := 10) (v := 10) (x := 10) (by decide +kernel) rfl (by decide) ?_
    refine w_idiv (n := 11) (by decide +kernel) rfl (by decide) ?_
    obtain ⟨M3, hLM3, hr6, h⟩ := h
    refine w_cV (n := 14) (idx := 443) (cal := 298) (na := 1) (nl := 2) (as := [.int (x1 / 10)]) (rest := []) hL (by decide +kernel) (by decide +kernel) (at_483) (by decide +kernel) rfl rfl rfl (Nat.le_of_ble_eq_true rfl) rfl hr6 ?_
    refine w_aload_n (n := 15) (i := 0) (by decide +kernel) rfl rfl ?_
    refine w_bipush (n := 17) (v := 48) (x := 48) (by decide +kernel) rfl (by decide) ?_
    refine w_iload_n (n := 18) (i := 1) (by decide +kernel) rfl rfl ?_
    refine w_bipush (n := 20) (v := 10) (x := 10) (by decide +kernel) rfl (by decide) ?_
    refine w_irem (n := 21) (by decide +kernel) rfl (by decide) ?_
    refine w_iadd (n := 22) (by decide +kernel) rfl ?_
    obtain ⟨M4, hLM4, hr5, h⟩ := h
    refine w_cV (n := 25) (idx := 446) (cal := 294) (na := 1) (nl := 2) (as := [.int (48 + (x1 - x1 / 10 * 10))]) (rest := []) hLM3 (by decide +kernel) (by decide +kernel) (at_483) (by decide +kernel) rfl rfl rfl (Nat.le_of_ble_eq_true rfl) rfl hr5 ?_
    subst h
    exact w_vreturn (by decide +kernel) (by decide +kernel)
theorem t_300 {X : ak_X} {M : ak_M} {r : ak_O × ak_M} (hL : ab_lay M) (x1 : Int32) (h : (if x1 ≤ 26 then (∃ (M1 : ak_M), ab_lay M1 ∧ rn X 294 [.ref 483, .int ((97 + (x1 - x1 / 27 * 27)) - 1)] M (.inl (none), M1) ∧ r = (.inl none, M1)) else False)) : rn X 300 [.ref 483, .int x1] M r := by
  refine w_rn (nL := 2) (l1 := [some (.ref 483), some (.int x1)]) (by decide +kernel) rfl rfl ?_
  refine w_iload_n (n := 1) (i := 1) (by decide +kernel) rfl rfl ?_
  refine w_bipush (n := 3) (v := 26) (x := 26) (by decide +kernel) rfl (by decide) ?_
  by_cases c3 : x1 ≤ 26
  · rw [if_pos c3] at h
    refine w_icmp_le_j (n := 14) (off := 11) (by decide +kernel) (by decide) c3 ?_
    refine w_aload_n (n := 15) (i := 0) (by decide +kernel) rfl rfl ?_
    refine w_bipush (n := 17) (v := 97) (x := 97) (by decide +kernel) rfl (by decide) ?_
    refine w_iload_n (n := 18) (i := 1) (by decide +kernel) rfl rfl ?_
    refine w_bipush (n := 20) (v := 27) (x := 27) (by decide +kernel) rfl (by decide) ?_
    refine w_irem (n := 21) (by decide +kernel) rfl (by decide) ?_
    refine w_iadd (n := 22) (by decide +kernel) rfl ?_
    refine w_iconst (n := 23) (v := 1) (x := 1) (by decide +kernel) rfl (by decide) ?_
    refine w_isub (n := 24) (by decide +kernel) rfl ?_
    obtain ⟨M1, hLM1, hr2, h⟩ := h
    refine w_cV (n := 27) (idx := 446) (cal := 294) (na := 1) (nl := 2) (as := [.int ((97 + (x1 - x1 / 27 * 27)) - 1)]) (rest := []) hL (by decide +kernel) (by decide +kernel) (at_483) (by decide +kernel) rfl rfl rfl (Nat.le_of_ble_eq_true rfl) rfl hr2 ?_
    subst h
    exact w_vreturn (by decide +kernel) (by decide +kernel)
  · rw [if_neg c3] at h
    refine w_icmp_le_n (n := 6) (off := 11) (by decide +kernel) rfl c3 ?_
    refine w_aload_n (n := 7) (i := 0) (by decide +kernel) rfl rfl ?_
    refine w_iload_n (n := 8) (i := 1) (by decide +kernel) rfl rfl ?_
    refine w_bipush (n := 10) (v := 27) (x := 27) (by decide +kernel) rfl (by decide) ?_
    refine w_idiv (n := 11) (by decide +kernel) rfl (by decide) ?_
    exact h.elim
theorem t_301 {X : ak_X} {M : ak_M} {r : ak_O × ak_M} (hL : ab_lay M) (x1 : Int32) (h : (if x1 ≤ 26 then (∃ (M1 : ak_M), ab_lay M1 ∧ rn X 294 [.ref 483, .int ((97 + (x1 - x1 / 27 * 27)) - 1)] M (.inl (none), M1) ∧ r = (.inl none, M1)) else (∃ (M3 : ak_M), ab_lay M3 ∧ rn X 300 [.ref 483, .int (x1 / 27)] M (.inl (none), M3) ∧ (∃ (M4 : ak_M), ab_lay M4 ∧ rn X 294 [.ref 483, .int ((97 + (x1 - x1 / 27 * 27)) - 1)] M3 (.inl (none), M4) ∧ r = (.inl none, M4))))) : rn X 301 [.ref 483, .int x1] M r := by
  refine w_rn (nL := 2) (l1 := [some (.ref 483), some (.int x1)]) (by decide +kernel) rfl rfl ?_
  refine w_iload_n (n := 1) (i := 1) (by decide +kernel) rfl rfl ?_
  refine w_bipush (n := 3) (v := 26) (x := 26) (by decide +kernel) rfl (by decide) ?_
  by_cases c7 : x1 ≤ 26
  · rw [if_pos c7] at h
    refine w_icmp_le_j (n := 14) (off := 11) (by decide +kernel) (by decide) c7 ?_
    refine w_aload_n (n := 15) (i := 0) (by decide +kernel) rfl rfl ?_
    refine w_bipush (n := 17) (v := 97) (x := 97) (by decide +kernel) rfl (by decide) ?_
    refine w_iload_n (n := 18) (i := 1) (by decide +kernel) rfl rfl ?_
    refine w_bipush (n := 20) (v := 27) (x := 27) (by decide +kernel) rfl (by decide) ?_
    refine w_irem (n := 21) (by decide +kernel) rfl (by decide) ?_
    refine w_iadd (n := 22) (by decide +kernel) rfl ?_
    refine w_iconst (n := 23) (v := 1) (x := 1) (by decide +kernel) rfl (by decide) ?_
    refine w_isub (n := 24) (by decide +kernel) rfl ?_
    obtain ⟨M1, hLM1, hr2, h⟩ := h
    refine w_cV (n := 27) (idx := 446) (cal := 294) (na := 1) (nl := 2) (as := [.int ((97 + (x1 - x1 / 27 * 27)) - 1)]) (rest := []) hL (by decide +kernel) (by decide +kernel) (at_483) (by decide +kernel) rfl rfl rfl (Nat.le_of_ble_eq_true rfl) rfl hr2 ?_
    subst h
    exact w_vreturn (by decide +kernel) (by decide +kernel)
  · rw [if_neg c7] at h
    refine w_icmp_le_n (n := 6) (off := 11) (by decide +kernel) rfl c7 ?_
    refine w_aload_n (n := 7) (i := 0) (by decide +kernel) rfl rfl ?_
    refine w_iload_n (n := 8) (i := 1) (by decide +kernel) rfl rfl ?_
    refine w_bipush (n := 10) (v := 27) (x := 27) (by decide +kernel) rfl (by decide) ?_
    refine w_idiv (n := 11) (by decide +kernel) rfl (by decide) ?_
    obtain ⟨M3, hLM3, hr6, h⟩ := h
    refine w_cV (n := 14) (idx := 449) (cal := 300) (na := 1) (nl := 2) (as := [.int (x1 / 27)]) (rest := []) hL (by decide +kernel) (by decide +kernel) (at_483) (by decide +kernel) rfl rfl rfl (Nat.le_of_ble_eq_true rfl) rfl hr6 ?_
    refine w_aload_n (n := 15) (i := 0) (by decide +kernel) rfl rfl ?_
    refine w_bipush (n := 17) (v := 97) (x := 97) (by decide +kernel) rfl (by decide) ?_
    refine w_iload_n (n := 18) (i := 1) (by decide +kernel) rfl rfl ?_
    refine w_bipush (n := 20) (v := 27) (x := 27) (by decide +kernel) rfl (by decide) ?_
    refine w_irem (n := 21) (by decide +kernel) rfl (by decide) ?_
    refine w_iadd (n := 22) (by decide +kernel) rfl ?_
    refine w_iconst (n := 23) (v := 1) (x := 1) (by decide +kernel) rfl (by decide) ?_
    refine w_isub (n := 24) (by decide +kernel) rfl ?_
    obtain ⟨M4, hLM4, hr5, h⟩ := h
    refine w_cV (n := 27) (idx := 446) (cal := 294) (na := 1) (nl := 2) (as := [.int ((97 + (x1 - x1 / 27 * 27)) - 1)]) (rest := []) hLM3 (by decide +kernel) (by decide +kernel) (at_483) (by decide +kernel) rfl rfl rfl (Nat.le_of_ble_eq_true rfl) rfl hr5 ?_
    subst h
    exact w_vreturn (by decide +kernel) (by decide +kernel)
theorem t_302 {X : ak_X} {M : ak_M} {r : ak_O × ak_M} (hL : ab_lay M) (x1 : Int32) (h : (if x1 ≤ 26 then (∃ (M1 : ak_M), ab_lay M1 ∧ rn X 294 [.ref 483, .int ((97 + (x1 - x1 / 27 * 27)) - 1)] M (.inl (none), M1) ∧ r = (.inl none, M1)) else (∃ (M3 : ak_M), ab_lay M3 ∧ rn X 301 [.ref 483, .int (x1 / 27)] M (.inl (none), M3) ∧ (∃ (M4 : ak_M), ab_lay M4 ∧ rn X 294 [.ref 483, .int ((97 + (x1 - x1 / 27 * 27)) - 1)] M3 (.inl (none), M4) ∧ r = (.inl none, M4))))) : rn X 302 [.ref 483, .int x1] M r := by
  refine w_rn (nL := 2) (l1 := [some (.ref 483), some (.int x1)]) (by decide +kernel) rfl rfl ?_
  refine w_iload_n (n := 1) (i := 1) (by decide +kernel) rfl rfl ?_
  refine w_bipush (n := 3) (v := 26) (x := 26) (by decide +kernel) rfl (by decide) ?_
  by_cases c7 : x1 ≤ 26
  · rw [if_pos c7] at h
    refine w_icmp_le_j (n := 14) (off := 11) (by decide +kernel) (by decide) c7 ?_
    refine w_aload_n (n := 15) (i := 0) (by decide +kernel) rfl rfl ?_
    refine w_bipush (n := 17) (v := 97) (x := 97) (by decide +kernel) rfl (by decide) ?_
    refine w_iload_n (n := 18) (i := 1) (by decide +kernel) rfl rfl ?_
    refine w_bipush (n := 20) (v := 27) (x := 27) (by decide +kernel) rfl (by decide) ?_
    refine w_irem (n := 21) (by decide +kernel) rfl (by decide) ?_
    refine w_iadd (n := 22) (by decide +kernel) rfl ?_
    refine w_iconst (n := 23) (v := 1) (x := 1) (by decide +kernel) rfl (by decide) ?_
    refine w_isub (n := 24) (by decide +kernel) rfl ?_
    obtain ⟨M1, hLM1, hr2, h⟩ := h
    refine w_cV (n := 27) (idx := 446) (cal := 294) (na := 1) (nl := 2) (as := [.int ((97 + (x1 - x1 / 27 * 27)) - 1)]) (rest := []) hL (by decide +kernel) (by decide +kernel) (at_483) (by decide +kernel) rfl rfl rfl (Nat.le_of_ble_eq_true rfl) rfl hr2 ?_
    subst h
    exact w_vreturn (by decide +kernel) (by decide +kernel)
  · rw [if_neg c7] at h
    refine w_icmp_le_n (n := 6) (off := 11) (by decide +kernel) rfl c7 ?_
    refine w_aload_n (n := 7) (i := 0) (by decide +kernel) rfl rfl ?_
    refine w_iload_n (n := 8) (i := 1) (by decide +kernel) rfl rfl ?_
    refine w_bipush (n := 10) (v := 27) (x := 27) (by decide +kernel) rfl (by decide) ?_
    refine w_idiv (n := 11) (by decide +kernel) rfl (by decide) ?_
    obtain ⟨M3, hLM3, hr6, h⟩ := h
    refine w_cV (n := 14) (idx := 449) (cal := 301) (na := 1) (nl := 2) (as := [.int (x1 / 27)]) (rest := []) hL (by decide +kernel) (by decide +kernel) (at_483) (by decide +kernel) rfl rfl rfl (Nat.le_of_ble_eq_true rfl) rfl hr6 ?_
    refine w_aload_n (n := 15) (i := 0) (by decide +kernel) rfl rfl ?_
    refine w_bipush (n := 17) (v := 97) (x := 97) (by decide +kernel) rfl (by decide) ?_
    refine w_iload_n (n := 18) (i := 1) (by decide +kernel) rfl rfl ?_
    refine w_bipush (n := 20) (v := 27) (x := 27) (by decide +kernel) rfl (by decide) ?_
    refine w_irem (n := 21) (by decide +kernel) rfl (by decide) ?_
    refine w_iadd (n := 22) (by decide +kernel) rfl ?_
    refine w_iconst (n := 23) (v := 1) (x := 1) (by decide +kernel) rfl (by decide) ?_
    refine w_isub (n := 24) (by decide +kernel) rfl ?_
    obtain ⟨M4, hLM4, hr5, h⟩ := h
    refine w_cV (n := 27) (idx := 446) (cal := 294) (na := 1) (nl := 2) (as := [.int ((97 + (x1 - x1 / 27 * 27)) - 1)]) (rest := []) hLM3 (by decide +kernel) (by decide +kernel) (at_483) (by decide +kernel) rfl rfl rfl (Nat.le_of_ble_eq_true rfl) rfl hr5 ?_
    subst h
    exact w_vreturn (by decide +kernel) (by decide +kernel)
theorem t_303 {X : ak_X} {M : ak_M} {r : ak_O × ak_M} (hL : ab_lay M) (x1 : Int32) (h : (if x1 ≤ 26 then (∃ (M1 : ak_M), ab_lay M1 ∧ rn X 294 [.ref 483, .int ((97 + (x1 - x1 / 27 * 27)) - 1)] M (.inl (none), M1) ∧ r = (.inl none, M1)) else (∃ (M3 : ak_M), ab_lay M3 ∧ rn X 302 [.ref 483, .int (x1 / 27)] M (.inl (none), M3) ∧ (∃ (M4 : ak_M), ab_lay M4 ∧ rn X 294 [.ref 483, .int ((97 + (x1 - x1 / 27 * 27)) - 1)] M3 (.inl (none), M4) ∧ r = (.inl none, M4))))) : rn X 303 [.ref 483, .int x1] M r := by
  refine w_rn (nL := 2) (l1 := [some (.ref 483), some (.int x1)]) (by decide +kernel) rfl rfl ?_
  refine w_iload_n (n := 1) (i := 1) (by decide +kernel) rfl rfl ?_
  refine w_bipush (n := 3) (v := 26) (x := 26) (by decide +kernel) rfl (by decide) ?_
  by_cases c7 : x1 ≤ 26
  · rw [if_pos c7] at h
    refine w_icmp_le_j (n := 14) (off := 11) (by decide +kernel) (by decide) c7 ?_
    refine w_aload_n (n := 15) (i := 0) (by decide +kernel) rfl rfl ?_
    refine w_bipush (n := 17) (v := 97) (x := 97) (by decide +kernel) rfl (by decide) ?_
    refine w_iload_n (n := 18) (i := 1) (by decide +kernel) rfl rfl ?_
    refine w_bipush (n := 20) (v := 27) (x := 27) (by decide +kernel) rfl (by decide) ?_
    refine w_irem (n := 21) (by decide +kernel) rfl (by decide) ?_
    refine w_iadd (n := 22) (by decide +kernel) rfl ?_
    refine w_iconst (n := 23) (v := 1) (x := 1) (by decide +kernel) rfl (by decide) ?_
    refine w_isub (n := 24) (by decide +kernel) rfl ?_
    obtain ⟨M1, hLM1, hr2, h⟩ := h
    refine w_cV (n := 27) (idx := 446) (cal := 294) (na := 1) (nl := 2) (as := [.int ((97 + (x1 - x1 / 27 * 27)) - 1)]) (rest := []) hL (by decide +kernel) (by decide +kernel) (at_483) (by decide +kernel) rfl rfl rfl (Nat.le_of_ble_eq_true rfl) rfl hr2 ?_
    subst h
    exact w_vreturn (by decide +kernel) (by decide +kernel)
  · rw [if_neg c7] at h
    refine w_icmp_le_n (n := 6) (off := 11) (by decide +kernel) rfl c7 ?_
    refine w_aload_n (n := 7) (i := 0) (by decide +kernel) rfl rfl ?_
    refine w_iload_n (n := 8) (i := 1) (by decide +kernel) rfl rfl ?_
    refine w_bipush (n := 10) (v := 27) (x := 27) (by decide +kernel) rfl (by decide) ?_
    refine w_idiv (n := 11) (by decide +kernel) rfl (by decide) ?_
    obtain ⟨M3, hLM3, hr6, h⟩ := h
    refine w_cV (n := 14) (idx := 449) (cal := 302) (na := 1) (nl := 2) (as := [.int (x1 / 27)]) (rest := []) hL (by decide +kernel) (by decide +kernel) (at_483) (by decide +kernel) rfl rfl rfl (Nat.le_of_ble_eq_true rfl) rfl hr6 ?_
    refine w_aload_n (n := 15) (i := 0) (by decide +kernel) rfl rfl ?_
    refine w_bipush (n := 17) (v := 97) (x := 97) (by decide +kernel) rfl (by decide) ?_
    refine w_iload_n (n := 18) (i := 1) (by decide +kernel) rfl rfl ?_
    refine w_bipush (n := 20) (v := 27) (x := 27) (by decide +kernel) rfl (by decide) ?_
    refine w_irem (n := 21) (by decide +kernel) rfl (by decide) ?_
    refine w_iadd (n := 22) (by decide +kernel) rfl ?_
    refine w_iconst (n := 23) (v := 1) (x := 1) (by decide +kernel) rfl (by decide) ?_
    refine w_isub (n := 24) (by decide +kernel) rfl ?_
    obtain ⟨M4, hLM4, hr5, h⟩ := h
    refine w_cV (n := 27) (idx := 446) (cal := 294) (na := 1) (nl := 2) (as := [.int ((97 + (x1 - x1 / 27 * 27)) - 1)]) (rest := []) hLM3 (by decide +kernel) (by decide +kernel) (at_483) (by decide +kernel) rfl rfl rfl (Nat.le_of_ble_eq_true rfl) rfl hr5 ?_
    subst h
    exact w_vreturn (by decide +kernel) (by decide +kernel)
theorem t_304 {X : ak_X} {M : ak_M} {r : ak_O × ak_M} (hL : ab_lay M) (x1 : Int32) (h : (if x1 ≤ 26 then (∃ (M1 : ak_M), ab_lay M1 ∧ rn X 294 [.ref 483, .int ((97 + (x1 - x1 / 27 * 27)) - 1)] M (.inl (none), M1) ∧ r = (.inl none, M1)) else (∃ (M3 : ak_M), ab_lay M3 ∧ rn X 303 [.ref 483, .int (x1 / 27)] M (.inl (none), M3) ∧ (∃ (M4 : ak_M), ab_lay M4 ∧ rn X 294 [.ref 483, .int ((97 + (x1 - x1 / 27 * 27)) - 1)] M3 (.inl (none), M4) ∧ r = (.inl none, M4))))) : rn X 304 [.ref 483, .int x1] M r := by
  refine w_rn (nL := 2) (l1 := [some (.ref 483), some (.int x1)]) (by decide +kernel) rfl rfl ?_
  refine w_iload_n (n := 1) (i := 1) (by decide +kernel) rfl rfl ?_
  refine w_bipush (n := 3) (v := 26) (x := 26) (by decide +kernel) rfl (by decide) ?_
  by_cases c7 : x1 ≤ 26
  · rw [if_pos c7] at h
    refine w_icmp_le_j (n := 14) (off := 11) (by decide +kernel) (by decide) c7 ?_
    refine w_aload_n (n := 15) (i := 0) (by decide +kernel) rfl rfl ?_
    refine w_bipush (n := 17) (v := 97) (x := 97) (by decide +kernel) rfl (by decide) ?_
    refine w_iload_n (n := 18) (i := 1) (by decide +kernel) rfl rfl ?_
    refine w_bipush (n := 20) (v := 27) (x := 27) (by decide +kernel) rfl (by decide) ?_
    refine w_irem (n := 21) (by decide +kernel) rfl (by decide) ?_
    refine w_iadd (n := 22) (by decide +kernel) rfl ?_
    refine w_iconst (n := 23) (v := 1) (x := 1) (by decide +kernel) rfl (by decide) ?_
    refine w_isub (n := 24) (by decide +kernel) rfl ?_
    obtain ⟨M1, hLM1, hr2, h⟩ := h
    refine w_cV (n := 27) (idx := 446) (cal := 294) (na := 1) (nl := 2) (as := [.int ((97 + (x1 - x1 / 27 * 27)) - 1)]) (rest := []) hL (by decide +kernel) (by decide +kernel) (at_483) (by decide +kernel) rfl rfl rfl (Nat.le_of_ble_eq_true rfl) rfl hr2 ?_
    subst h
    exact w_vreturn (by decide +kernel) (by decide +kernel)
  · rw [if_neg c7] at h
    refine w_icmp_le_n (n := 6) (off := 11) (by decide +kernel) rfl c7 ?_
    refine w_aload_n (n := 7) (i := 0) (by decide +kernel) rfl rfl ?_
    refine w_iload_n (n := 8) (i := 1) (by decide +kernel) rfl rfl ?_
    refine w_bipush (n := 10) (v := 27) (x := 27) (by decide +kernel) rfl (by decide) ?_
    refine w_idiv (n := 11) (by decide +kernel) rfl (by decide) ?_
    obtain ⟨M3, hLM3, hr6, h⟩ := h
    refine w_cV (n := 14) (idx := 449) (cal := 303) (na := 1) (nl := 2) (as := [.int (x1 / 27)]) (rest := []) hL (by decide +kernel) (by decide +kernel) (at_483) (by decide +kernel) rfl rfl rfl (Nat.le_of_ble_eq_true rfl) rfl hr6 ?_
    refine w_aload_n (n := 15) (i := 0) (by decide +kernel) rfl rfl ?_
    refine w_bipush (n := 17) (v := 97) (x := 97) (by decide +kernel) rfl (by decide) ?_
    refine w_iload_n (n := 18) (i := 1) (by decide +kernel) rfl rfl ?_
    refine w_bipush (n := 20) (v := 27) (x := 27) (by decide +kernel) rfl (by decide) ?_
    refine w_irem (n := 21) (by decide +kernel) rfl (by decide) ?_
    refine w_iadd (n := 22) (by decide +kernel) rfl ?_
    refine w_iconst (n := 23) (v := 1) (x := 1) (by decide +kernel) rfl (by decide) ?_
    refine w_isub (n := 24) (by decide +kernel) rfl ?_
    obtain ⟨M4, hLM4, hr5, h⟩ := h
    refine w_cV (n := 27) (idx := 446) (cal := 294) (na := 1) (nl := 2) (as := [.int ((97 + (x1 - x1 / 27 * 27)) - 1)]) (rest := []) hLM3 (by decide +kernel) (by decide +kernel) (at_483) (by decide +kernel) rfl rfl rfl (Nat.le_of_ble_eq_true rfl) rfl hr5 ?_
    subst h
    exact w_vreturn (by decide +kernel) (by decide +kernel)
theorem t_305 {X : ak_X} {M : ak_M} {r : ak_O × ak_M} (hL : ab_lay M) (x1 : Int32) (h : (if x1 ≤ 26 then (∃ (M1 : ak_M), ab_lay M1 ∧ rn X 294 [.ref 483, .int ((97 + (x1 - x1 / 27 * 27)) - 1)] M (.inl (none), M1) ∧ r = (.inl none, M1)) else (∃ (M3 : ak_M), ab_lay M3 ∧ rn X 304 [.ref 483, .int (x1 / 27)] M (.inl (none), M3) ∧ (∃ (M4 : ak_M), ab_lay M4 ∧ rn X 294 [.ref 483, .int ((97 + (x1 - x1 / 27 * 27)) - 1)] M3 (.inl (none), M4) ∧ r = (.inl none, M4))))) : rn X 305 [.ref 483, .int x1] M r := by
  refine w_rn (nL := 2) (l1 := [some (.ref 483), some (.int x1)]) (by decide +kernel) rfl rfl ?_
  refine w_iload_n (n := 1) (i := 1) (by decide +kernel) rfl rfl ?_
  refine w_bipush (n := 3) (v := 26) (x := 26) (by decide +kernel) rfl (by decide) ?_
  by_cases c7 : x1 ≤ 26
  · rw [if_pos c7] at h
    refine w_icmp_le_j (n := 14) (off := 11) (by decide +kernel) (by decide) c7 ?_
    refine w_aload_n (n := 15) (i := 0) (by decide +kernel) rfl rfl ?_
    refine w_bipush (n := 17) (v := 97) (x := 97) (by decide +kernel) rfl (by decide) ?_
    refine w_iload_n (n := 18) (i := 1) (by decide +kernel) rfl rfl ?_
    refine w_bipush (n := 20) (v := 27) (x := 27) (by decide +kernel) rfl (by decide) ?_
    refine w_irem (n := 21) (by decide +kernel) rfl (by decide) ?_
    refine w_iadd (n := 22) (by decide +kernel) rfl ?_
    refine w_iconst (n := 23) (v := 1) (x := 1) (by decide +kernel) rfl (by decide) ?_
    refine w_isub (n := 24) (by decide +kernel) rfl ?_
    obtain ⟨M1, hLM1, hr2, h⟩ := h
    refine w_cV (n := 27) (idx := 446) (cal := 294) (na := 1) (nl := 2) (as := [.int ((97 + (x1 - x1 / 27 * 27)) - 1)]) (rest := []) hL (by decide +kernel) (by decide +kernel) (at_483) (by decide +kernel) rfl rfl rfl (Nat.le_of_ble_eq_true rfl) rfl hr2 ?_
    subst h
    exact w_vreturn (by decide +kernel) (by decide +kernel)
  · rw [if_neg c7] at h
    refine w_icmp_le_n (n := 6) (off := 11) (by decide +kernel) rfl c7 ?_
    refine w_aload_n (n := 7) (i := 0) (by decide +kernel) rfl rfl ?_
    refine w_iload_n (n := 8) (i := 1) (by decide +kernel) rfl rfl ?_
    refine w_bipush (n := 10) (v := 27) (x := 27) (by decide +kernel) rfl (by decide) ?_
    refine w_idiv (n := 11) (by decide +kernel) rfl (by decide) ?_
    obtain ⟨M3, hLM3, hr6, h⟩ := h
    refine w_cV (n := 14) (idx := 449) (cal := 304) (na := 1) (nl := 2) (as := [.int (x1 / 27)]) (rest := []) hL (by decide +kernel) (by decide +kernel) (at_483) (by decide +kernel) rfl rfl rfl (Nat.le_of_ble_eq_true rfl) rfl hr6 ?_
    refine w_aload_n (n := 15) (i := 0) (by decide +kernel) rfl rfl ?_
    refine w_bipush (n := 17) (v := 97) (x := 97) (by decide +kernel) rfl (by decide) ?_
    refine w_iload_n (n := 18) (i := 1) (by decide +kernel) rfl rfl ?_
    refine w_bipush (n := 20) (v := 27) (x := 27) (by decide +kernel) rfl (by decide) ?_
    refine w_irem (n := 21) (by decide +kernel) rfl (by decide) ?_
    refine w_iadd (n := 22) (by decide +kernel) rfl ?_
    refine w_iconst (n := 23) (v := 1) (x := 1) (by decide +kernel) rfl (by decide) ?_
    refine w_isub (n := 24) (by decide +kernel) rfl ?_
    obtain ⟨M4, hLM4, hr5, h⟩ := h
    refine w_cV (n := 27) (idx := 446) (cal := 294) (na := 1) (nl := 2) (as := [.int ((97 + (x1 - x1 / 27 * 27)) - 1)]) (rest := []) hLM3 (by decide +kernel) (by decide +kernel) (at_483) (by decide +kernel) rfl rfl rfl (Nat.le_of_ble_eq_true rfl) rfl hr5 ?_
    subst h
    exact w_vreturn (by decide +kernel) (by decide +kernel)
theorem t_306 {X : ak_X} {M : ak_M} {r : ak_O × ak_M} (hL : ab_lay M) (x1 : Int32) (h : (if x1 ≤ 26 then (∃ (M1 : ak_M), ab_lay M1 ∧ rn X 294 [.ref 483, .int ((97 + (x1 - x1 / 27 * 27)) - 1)] M (.inl (none), M1) ∧ r = (.inl none, M1)) else (∃ (M3 : ak_M), ab_lay M3 ∧ rn X 305 [.ref 483, .int (x1 / 27)] M (.inl (none), M3) ∧ (∃ (M4 : ak_M), ab_lay M4 ∧ rn X 294 [.ref 483, .int ((97 + (x1 - x1 / 27 * 27)) - 1)] M3 (.inl (none), M4) ∧ r = (.inl none, M4))))) : rn X 306 [.ref 483, .int x1] M r := by
  refine w_rn (nL := 2) (l1 := [some (.ref 483), some (.int x1)]) (by decide +kernel) rfl rfl ?_
  refine w_iload_n (n := 1) (i := 1) (by decide +kernel) rfl rfl ?_
  refine w_bipush (n := 3) (v := 26) (x := 26) (by decide +kernel) rfl (by decide) ?_
  by_cases c7 : x1 ≤ 26
  · rw [if_pos c7] at h
    refine w_icmp_le_j (n := 14) (off := 11) (by decide +kernel) (by decide) c7 ?_
    refine w_aload_n (n := 15) (i := 0) (by decide +kernel) rfl rfl ?_
    refine w_bipush (n := 17) (v := 97) (x := 97) (by decide +kernel) rfl (by decide) ?_
    refine w_iload_n (n := 18) (i := 1) (by decide +kernel) rfl rfl ?_
    refine w_bipush (n := 20) (v := 27) (x := 27) (by decide +kernel) rfl (by decide) ?_
    refine w_irem (n := 21) (by decide +kernel) rfl (by decide) ?_
    refine w_iadd (n := 22) (by decide +kernel) rfl ?_
    refine w_iconst (n := 23) (v := 1) (x := 1) (by decide +kernel) rfl (by decide) ?_
    refine w_isub (n := 24) (by decide +kernel) rfl ?_
    obtain ⟨M1, hLM1, hr2, h⟩ := h
    refine w_cV (n := 27) (idx := 446) (cal := 294) (na := 1) (nl := 2) (as := [.int ((97 + (x1 - x1 / 27 * 27)) - 1)]) (rest := []) hL (by decide +kernel) (by decide +kernel) (at_483) (by decide +kernel) rfl rfl rfl (Nat.le_of_ble_eq_true rfl) rfl hr2 ?_
    subst h
    exact w_vreturn (by decide +kernel) (by decide +kernel)
  · rw [if_neg c7] at h
    refine w_icmp_le_n (n := 6) (off := 11) (by decide +kernel) rfl c7 ?_
    refine w_aload_n (n := 7) (i := 0) (by decide +kernel) rfl rfl ?_
    refine w_iload_n (n := 8) (i := 1) (by decide +kernel) rfl rfl ?_
    refine w_bipush (n := 10) (v := 27) (x := 27) (by decide +kernel) rfl (by decide) ?_
    refine w_idiv (n := 11) (by decide +kernel) rfl (by decide) ?_
    obtain ⟨M3, hLM3, hr6, h⟩ := h
    refine w_cV (n := 14) (idx := 449) (cal := 305) (na := 1) (nl := 2) (as := [.int (x1 / 27)]) (rest := []) hL (by decide +kernel) (by decide +kernel) (at_483) (by decide +kernel) rfl rfl rfl (Nat.le_of_ble_eq_true rfl) rfl hr6 ?_
    refine w_aload_n (n := 15) (i := 0) (by decide +kernel) rfl rfl ?_
    refine w_bipush (n := 17) (v := 97) (x := 97) (by decide +kernel) rfl (by decide) ?_
    refine w_iload_n (n := 18) (i := 1) (by decide +kernel) rfl rfl ?_
    refine w_bipush (n := 20) (v := 27) (x := 27) (by decide +kernel) rfl (by decide) ?_
    refine w_irem (n := 21) (by decide +kernel) rfl (by decide) ?_
    refine w_iadd (n := 22) (by decide +kernel) rfl ?_
    refine w_iconst (n := 23) (v := 1) (x := 1) (by decide +kernel) rfl (by decide) ?_
    refine w_isub (n := 24) (by decide +kernel) rfl ?_
    obtain ⟨M4, hLM4, hr5, h⟩ := h
    refine w_cV (n := 27) (idx := 446) (cal := 294) (na := 1) (nl := 2) (as := [.int ((97 + (x1 - x1 / 27 * 27)) - 1)]) (rest := []) hLM3 (by decide +kernel) (by decide +kernel) (at_483) (by decide +kernel) rfl rfl rfl (Nat.le_of_ble_eq_true rfl) rfl hr5 ?_
    subst h
    exact w_vreturn (by decide +kernel) (by decide +kernel)
theorem t_307 {X : ak_X} {M : ak_M} {r : ak_O × ak_M} (hL : ab_lay M) {s1 : Nat} (hs1 : s1 < 28) (h : sg X 307 (2, [some (.ref 483), some (.ref (1001000 + s1)), some (.int 0)], [], []) M r) : rn X 307 [.ref 483, .ref (1001000 + s1)] M r := by
  refine w_rn (nL := 3) (l1 := [some (.ref 483), some (.ref (1001000 + s1)), none]) (by decide +kernel) rfl rfl ?_
  refine w_iconst (n := 1) (v := 0) (x := 0) (by decide +kernel) rfl (by decide) ?_
  refine w_istore_n (n := 2) (i := 2) (l1' := [some (.ref 483), some (.ref (1001000 + s1)), some (.int 0)]) (l2' := []) (by decide +kernel) rfl (Nat.le_of_ble_eq_true rfl) rfl rfl ?_
  exact h
theorem t_307_2 {X : ak_X} {M : ak_M} {r : ak_O × ak_M} (hL : ab_lay M) {s1 : Nat} (hs1 : s1 < 28) (y2 : Int32) (h : (∃ (v2 : Int32) (M1 : ak_M), ab_lay M1 ∧ rn X 317 [.ref (1001000 + s1)] M (.inl (some (.int v2)), M1) ∧ (if v2 ≤ y2 then r = (.inl none, M1) else (∃ (v4 : Int32) (M3 : ak_M), ab_lay M3 ∧ rn X 318 [.ref (1001000 + s1), .int y2] M1 (.inl (some (.int v4)), M3) ∧ (∃ (M5 : ak_M), ab_lay M5 ∧ rn X 294 [.ref 483, .int v4] M3 (.inl (none), M5) ∧ sg X 307 (2, [some (.ref 483), some (.ref (1001000 + s1)), some (.int (y2 + 1))], [], []) M5 r))))) : sg X 307 (2, [some (.ref 483), some (.ref (1001000 + s1)), some (.int y2)], [], []) M r := by
  refine w_iload_n (n := 3) (i := 2) (by decide +kernel) rfl rfl ?_
  refine w_aload_n (n := 4) (i := 1) (by decide +kernel) rfl rfl ?_
  obtain ⟨v2, M1, hLM1, hr9, h⟩ := h
  refine w_cVS (n := 7) (idx := 380) (cal := 317) (na := 0) (nl := 1) (as := []) (rest := [.int y2]) hL (by decide +kernel) (by decide +kernel) (by omega) (by decide +kernel) rfl rfl rfl (Nat.le_of_ble_eq_true rfl) rfl hr9 ?_
  by_cases c8 : v2 ≤ y2
  · rw [if_pos c8] at h
    refine w_icmp_ge_j (n := 25) (off := 18) (by decide +kernel) (by decide) c8 ?_
    subst h
    exact w_vreturn (by decide +kernel) (by decide +kernel)
  · rw [if_neg c8] at h
    refine w_icmp_ge_n (n := 10) (off := 18) (by decide +kernel) rfl c8 ?_
    refine w_aload_n (n := 11) (i := 0) (by decide +kernel) rfl rfl ?_
    refine w_aload_n (n := 12) (i := 1) (by decide +kernel) rfl rfl ?_
    refine w_iload_n (n := 13) (i := 2) (by decide +kernel) rfl rfl ?_
    obtain ⟨v4, M3, hLM3, hr7, h⟩ := h
    refine w_cVS (n := 16) (idx := 384) (cal := 318) (na := 1) (nl := 2) (as := [.int y2]) (rest := [.ref 483]) hLM1 (by decide +kernel) (by decide +kernel) (by omega) (by decide +kernel) rfl rfl rfl (Nat.le_of_ble_eq_true rfl) rfl hr7 ?_
    obtain ⟨M5, hLM5, hr6, h⟩ := h
    refine w_cV (n := 19) (idx := 446) (cal := 294) (na := 1) (nl := 2) (as := [.int v4]) (rest := []) hLM3 (by decide +kernel) (by decide +kernel) (at_483) (by decide +kernel) rfl rfl rfl (Nat.le_of_ble_eq_true rfl) rfl hr6 ?_
    refine w_iinc (n := 22) (i := 2) (v := 1) (y := y2 + 1) (l1' := [some (.ref 483), some (.ref (1001000 + s1)), some (.int (y2 + 1))]) (l2' := []) (by decide +kernel) rfl rfl rfl rfl rfl ?_
    refine w_goto (n := 2) (off := (-20)) (by decide +kernel) (by decide) ?_
    exact h
theorem t_308 {X : ak_X} {M : ak_M} {r : ak_O × ak_M} (hL : ab_lay M) (x1 : Int32) (h : (if x1 = 0 then (∃ (M1 : ak_M), ab_lay M1 ∧ rn X 307 [.ref 483, .ref (1001000 + 22)] M (.inl (none), M1) ∧ r = (.inl none, M1)) else (if x1 = 1 then (∃ (M3 : ak_M), ab_lay M3 ∧ rn X 307 [.ref 483, .ref (1001000 + 23)] M (.inl (none), M3) ∧ r = (.inl none, M3)) else (if x1 = 2 then (∃ (M5 : ak_M), ab_lay M5 ∧ rn X 307 [.ref 483, .ref (1001000 + 24)] M (.inl (none), M5) ∧ r = (.inl none, M5)) else (if x1 = 3 then (∃ (M7 : ak_M), ab_lay M7 ∧ rn X 307 [.ref 483, .ref (1001000 + 25)] M (.inl (none), M7) ∧ r = (.inl none, M7)) else (∃ (M9 : ak_M), ab_lay M9 ∧ rn X 307 [.ref 483, .ref (1001000 + 26)] M (.inl (none), M9) ∧ r = (.inl none, M9))))))) : rn X 308 [.ref 483, .int x1] M r := by
  refine w_rn (nL := 2) (l1 := [some (.ref 483), some (.int x1)]) (by decide +kernel) rfl rfl ?_
  refine w_iload_n (n := 1) (i := 1) (by decide +kernel) rfl rfl ?_
  by_cases c11 : x1 = 0
  · rw [if_pos c11] at h
    refine w_tsw (n := 32) (d := 71) (lo := 0) (hi := 3) (offs := #[31, 41, 51, 61]) (o := 31) (by decide +kernel) (by rw [c11]; decide) (by decide) ?_
    refine w_aload_n (n := 33) (i := 0) (by decide +kernel) rfl rfl ?_
    refine w_ldcw (n := 36) (idx := 452) (s := 22) (by decide +kernel) oO_308 (by decide +kernel) rfl ?_
    obtain ⟨M1, hLM1, hr2, h⟩ := h
    refine w_cV (n := 39) (idx := 453) (cal := 307) (na := 1) (nl := 2) (as := [.ref (1001000 + 22)]) (rest := []) hL (by decide +kernel) (by decide +kernel) (at_483) (by decide +kernel) rfl rfl rfl (Nat.le_of_ble_eq_true rfl) rfl hr2 ?_
    refine w_goto (n := 79) (off := 40) (by decide +kernel) (by decide) ?_
    subst h
    exact w_vreturn (by decide +kernel) (by decide +kernel)
  · rw [if_neg c11] at h
    by_cases c12 : x1 = 1
    · rw [if_pos c12] at h
      refine w_tsw (n := 42) (d := 71) (lo := 0) (hi := 3) (offs := #[31, 41, 51, 61]) (o := 41) (by decide +kernel) (by rw [c12]; decide) (by decide) ?_
      refine w_aload_n (n := 43) (i := 0) (by decide +kernel) rfl rfl ?_
      refine w_ldcw (n := 46) (idx := 457) (s := 23) (by decide +kernel) oO_308 (by decide +kernel) rfl ?_
      obtain ⟨M3, hLM3, hr4, h⟩ := h
      refine w_cV (n := 49) (idx := 453) (cal := 307) (na := 1) (nl := 2) (as := [.ref (1001000 + 23)]) (rest := []) hL (by decide +kernel) (by decide +kernel) (at_483) (by decide +kernel) rfl rfl rfl (Nat.le_of_ble_eq_true rfl) rfl hr4 ?_
      refine w_goto (n := 79) (off := 30) (by decide +kernel) (by decide) ?_
      subst h
      exact w_vreturn (by decide +kernel) (by decide +kernel)
    · rw [if_neg c12] at h
      by_cases c13 : x1 = 2
      · rw [if_pos c13] at h
        refine w_tsw (n := 52) (d := 71) (lo := 0) (hi := 3) (offs := #[31, 41, 51, 61]) (o := 51) (by decide +kernel) (by rw [c13]; decide) (by decide) ?_
        refine w_aload_n (n := 53) (i := 0) (by decide +kernel) rfl rfl ?_
        refine w_ldcw (n := 56) (idx := 459) (s := 24) (by decide +kernel) oO_308 (by decide +kernel) rfl ?_
        obtain ⟨M5, hLM5, hr6, h⟩ := h
        refine w_cV (n := 59) (idx := 453) (cal := 307) (na := 1) (nl := 2) (as := [.ref (1001000 + 24)]) (rest := []) hL (by decide +kernel) (by decide +kernel) (at_483) (by decide +kernel) rfl rfl rfl (Nat.le_of_ble_eq_true rfl) rfl hr6 ?_
        refine w_goto (n := 79) (off := 20) (by decide +kernel) (by decide) ?_
        subst h
        exact w_vreturn (by decide +kernel) (by decide +kernel)
      · rw [if_neg c13] at h
        by_cases c14 : x1 = 3
        · rw [if_pos c14] at h
          refine w_tsw (n := 62) (d := 71) (lo := 0) (hi := 3) (offs := #[31, 41, 51, 61]) (o := 61) (by decide +kernel) (by rw [c14]; decide) (by decide) ?_
          refine w_aload_n (n := 63) (i := 0) (by decide +kernel) rfl rfl ?_
          refine w_ldcw (n := 66) (idx := 461) (s := 25) (by decide +kernel) oO_308 (by decide +kernel) rfl ?_
          obtain ⟨M7, hLM7, hr8, h⟩ := h
          refine w_cV (n := 69) (idx := 453) (cal := 307) (na := 1) (nl := 2) (as := [.ref (1001000 + 25)]) (rest := []) hL (by decide +kernel) (by decide +kernel) (at_483) (by decide +kernel) rfl rfl rfl (Nat.le_of_ble_eq_true rfl) rfl hr8 ?_
          refine w_goto (n := 79) (off := 10) (by decide +kernel) (by decide) ?_
          subst h
          exact w_vreturn (by decide +kernel) (by decide +kernel)
        · rw [if_neg c14] at h
          refine w_tsw (n := 72) (d := 71) (lo := 0) (hi := 3) (offs := #[31, 41, 51, 61]) (o := 71) (by decide +kernel) (w_swd (by intro j h1 h2; rcases (show j = 0 ∨ j = 1 ∨ j = 2 ∨ j = 3 by omega) with rfl | rfl | rfl | rfl; all_goals first | exact fun e => c11 (e.trans (by decide)) | exact fun e => c12 (e.trans (by decide)) | exact fun e => c13 (e.trans (by decide)) | exact fun e => c14 (e.trans (by decide)))) (by decide) ?_
          refine w_aload_n (n := 73) (i := 0) (by decide +kernel) rfl rfl ?_
          refine w_ldcw (n := 76) (idx := 463) (s := 26) (by decide +kernel) oO_308 (by decide +kernel) rfl ?_
          obtain ⟨M9, hLM9, hr10, h⟩ := h
          refine w_cV (n := 79) (idx := 453) (cal := 307) (na := 1) (nl := 2) (as := [.ref (1001000 + 26)]) (rest := []) hL (by decide +kernel) (by decide +kernel) (at_483) (by decide +kernel) rfl rfl rfl (Nat.le_of_ble_eq_true rfl) rfl hr10 ?_
          subst h
          exact w_vreturn (by decide +kernel) (by decide +kernel)
theorem t_309 {X : ak_X} {M : ak_M} {r : ak_O × ak_M} (hL : ab_lay M) (x1 : Int32) (h : (∃ (v2 : Int32) (M1 : ak_M), ab_lay M1 ∧ rn X 169 [.ref 483, .int x1] M (.inl (some (.int v2)), M1) ∧ (∃ (v4 : Int32) (M3 : ak_M), ab_lay M3 ∧ rn X 155 [.ref 483, .int v2] M1 (.inl (some (.int v4)), M3) ∧ (if v4 = 0 then r = (.inl (some (.int 0)), M3) else (∀ M5 : ak_M, M5 = ak_sI M3 483 28 0 → (∃ (v7 : Int32) (M6 : ak_M), ab_lay M6 ∧ rn X 171 [.ref 483, .int x1, .int 14] M5 (.inl (some (.int v7)), M6) ∧ (∃ (M8 : ak_M), ab_lay M8 ∧ rn X 306 [.ref 483, .int v7] M6 (.inl (none), M8) ∧ (∃ (M9 : ak_M), ab_lay M9 ∧ rn X 294 [.ref 483, .int 32] M8 (.inl (none), M9) ∧ (∃ (v11 : Int32) (M10 : ak_M), ab_lay M10 ∧ rn X 171 [.ref 483, .int x1, .int 1] M9 (.inl (some (.int v11)), M10) ∧ (∃ (M12 : ak_M), ab_lay M12 ∧ rn X 299 [.ref 483, .int v11] M10 (.inl (none), M12) ∧ (∃ (M13 : ak_M), ab_lay M13 ∧ rn X 294 [.ref 483, .int 44] M12 (.inl (none), M13) ∧ (∃ (v15 : Int32) (M14 : ak_M), ab_lay M14 ∧ rn X 171 [.ref 483, .int x1, .int 2] M13 (.inl (some (.int v15)), M14) ∧ (∃ (M16 : ak_M), ab_lay M16 ∧ rn X 299 [.ref 483, .int v15] M14 (.inl (none), M16) ∧ (∃ (M17 : ak_M), ab_lay M17 ∧ rn X 294 [.ref 483, .int 44] M16 (.inl (none), M17) ∧ (∃ (v19 : Int32) (M18 : ak_M), ab_lay M18 ∧ rn X 171 [.ref 483, .int x1, .int 3] M17 (.inl (some (.int v19)), M18) ∧ (∃ (M20 : ak_M), ab_lay M20 ∧ rn X 299 [.ref 483, .int v19] M18 (.inl (none), M20) ∧ (∃ (M21 : ak_M), ab_lay M21 ∧ rn X 294 [.ref 483, .int 32] M20 (.inl (none), M21) ∧ (∃ (v23 : Int32) (M22 : ak_M), ab_lay M22 ∧ rn X 171 [.ref 483, .int x1, .int 0] M21 (.inl (some (.int v23)), M22) ∧ (∃ (M24 : ak_M), ab_lay M24 ∧ rn X 308 [.ref 483, .int v23] M22 (.inl (none), M24) ∧ r = (.inl (some (.int (ak_I M24 483 28))), M24)))))))))))))))))))) : rn X 309 [.ref 483, .int x1] M r := by
  refine w_rn (nL := 2) (l1 := [some (.ref 483), some (.int x1)]) (by decide +kernel) rfl rfl ?_
  refine w_aload_n (n := 1) (i := 0) (by decide +kernel) rfl rfl ?_
  refine w_aload_n (n := 2) (i := 0) (by decide +kernel) rfl rfl ?_
  refine w_iload_n (n := 3) (i := 1) (by decide +kernel) rfl rfl ?_
  obtain ⟨v2, M1, hLM1, hr41, h⟩ := h
  refine w_cV (n := 6) (idx := 88) (cal := 169) (na := 1) (nl := 2) (as := [.int x1]) (rest := [.ref 483]) hL (by decide +kernel) (by decide +kernel) (at_483) (by decide +kernel) rfl rfl rfl (Nat.le_of_ble_eq_true rfl) rfl hr41 ?_
  obtain ⟨v4, M3, hLM3, hr40, h⟩ := h
  refine w_cV (n := 9) (idx := 72) (cal := 155) (na := 1) (nl := 2) (as := [.int v2]) (rest := []) hLM1 (by decide +kernel) (by decide +kernel) (at_483) (by decide +kernel) rfl rfl rfl (Nat.le_of_ble_eq_true rfl) rfl hr40 ?_
  by_cases c39 : v4 = 0
  · rw [if_pos c39] at h
    refine w_if_ne_n (n := 12) (off := 5) (by decide +kernel) rfl c39 ?_
    refine w_iconst (n := 13) (v := 0) (x := 0) (by decide +kernel) rfl (by decide) ?_
    subst h
    exact w_ireturn (by decide +kernel) (w_okI (by decide +kernel))
  · rw [if_neg c39] at h
    refine w_if_ne_j (n := 14) (off := 5) (by decide +kernel) (by decide) c39 ?_
    refine w_aload_n (n := 15) (i := 0) (by decide +kernel) rfl rfl ?_
    refine w_iconst (n := 16) (v := 0) (x := 0) (by decide +kernel) rfl (by decide) ?_
    refine w_putI (n := 19) hLM3 (by decide +kernel) oO_309 fF_12_440 (at_483) ⟨by decide, Or.inl (by decide)⟩ rfl ?_
    generalize eM5 : ak_sI M3 483 28 0 = M5
    have hLM5 : ab_lay M5 := by rw [← eM5]; exact ab_lay.sI hLM3
    replace h := h M5 eM5.symm
    refine w_aload_n (n := 20) (i := 0) (by decide +kernel) rfl rfl ?_
    refine w_aload_n (n := 21) (i := 0) (by decide +kernel) rfl rfl ?_
    refine w_iload_n (n := 22) (i := 1) (by decide +kernel) rfl rfl ?_
    refine w_bipush (n := 24) (v := 14) (x := 14) (by decide +kernel) rfl (by decide) ?_
    obtain ⟨v7, M6, hLM6, hr38, h⟩ := h
    refine w_cV (n := 27) (idx := 92) (cal := 171) (na := 2) (nl := 3) (as := [.int x1, .int 14]) (rest := [.ref 483]) hLM5 (by decide +kernel) (by decide +kernel) (at_483) (by decide +kernel) rfl rfl rfl (Nat.le_of_ble_eq_true rfl) rfl hr38 ?_
    obtain ⟨M8, hLM8, hr37, h⟩ := h
    refine w_cV (n := 30) (idx := 449) (cal := 306) (na := 1) (nl := 2) (as := [.int v7]) (rest := []) hLM6 (by decide +kernel) (by decide +kernel) (at_483) (by decide +kernel) rfl rfl rfl (Nat.le_of_ble_eq_true rfl) rfl hr37 ?_
    refine w_aload_n (n := 31) (i := 0) (by decide +kernel) rfl rfl ?_
    refine w_bipush (n := 33) (v := 32) (x := 32) (by decide +kernel) rfl (by decide) ?_
    obtain ⟨M9, hLM9, hr36, h⟩ := h
    refine w_cV (n := 36) (idx := 446) (cal := 294) (na := 1) (nl := 2) (as := [.int 32]) (rest := []) hLM8 (by decide +kernel) (by decide +kernel) (at_483) (by decide +kernel) rfl rfl rfl (Nat.le_of_ble_eq_true rfl) rfl hr36 ?_
    refine w_aload_n (n := 37) (i := 0) (by decide +kernel) rfl rfl ?_
    refine w_aload_n (n := 38) (i := 0) (by decide +kernel) rfl rfl ?_
    refine w_iload_n (n := 39) (i := 1) (by decide +kernel) rfl rfl ?_
    refine w_iconst (n := 40) (v := 1) (x := 1) (by decide +kernel) rfl (by decide) ?_
    obtain ⟨v11, M10, hLM10, hr35, h⟩ := h
    refine w_cV (n := 43) (idx := 92) (cal := 171) (na := 2) (nl := 3) (as := [.int x1, .int 1]) (rest := [.ref 483]) hLM9 (by decide +kernel) (by decide +kernel) (at_483) (by decide +kernel) rfl rfl rfl (Nat.le_of_ble_eq_true rfl) rfl hr35 ?_
    obtain ⟨M12, hLM12, hr34, h⟩ := h
    refine w_cV (n := 46) (idx := 443) (cal := 299) (na := 1) (nl := 2) (as := [.int v11]) (rest := []) hLM10 (by decide +kernel) (by decide +kernel) (at_483) (by decide +kernel) rfl rfl rfl (Nat.le_of_ble_eq_true rfl) rfl hr34 ?_
    refine w_aload_n (n := 47) (i := 0) (by decide +kernel) rfl rfl ?_
    refine w_bipush (n := 49) (v := 44) (x := 44) (by decide +kernel) rfl (by decide) ?_
    obtain ⟨M13, hLM13, hr33, h⟩ := h
    refine w_cV (n := 52) (idx := 446) (cal := 294) (na := 1) (nl := 2) (as := [.int 44]) (rest := []) hLM12 (by decide +kernel) (by decide +kernel) (at_483) (by decide +kernel) rfl rfl rfl (Nat.le_of_ble_eq_true rfl) rfl hr33 ?_
    refine w_aload_n (n := 53) (i := 0) (by decide +kernel) rfl rfl ?_
    refine w_aload_n (n := 54) (i := 0) (by decide +kernel) rfl rfl ?_
    refine w_iload_n (n := 55) (i := 1) (by decide +kernel) rfl rfl ?_
    refine w_iconst (n := 56) (v := 2) (x := 2) (by decide +kernel) rfl (by decide) ?_
    obtain ⟨v15, M14, hLM14, hr32, h⟩ := h
    refine w_cV (n := 59) (idx := 92) (cal := 171) (na := 2) (nl := 3) (as := [.int x1, .int 2]) (rest := [.ref 483]) hLM13 (by decide +kernel) (by decide +kernel) (at_483) (by decide +kernel) rfl rfl rfl (Nat.le_of_ble_eq_true rfl) rfl hr32 ?_
    obtain ⟨M16, hLM16, hr31, h⟩ := h
    refine w_cV (n := 62) (idx := 443) (cal := 299) (na := 1) (nl := 2) (as := [.int v15]) (rest := []) hLM14 (by decide +kernel) (by decide +kernel) (at_483) (by decide +kernel) rfl rfl rfl (Nat.le_of_ble_eq_true rfl) rfl hr31 ?_
    refine w_aload_n (n := 63) (i := 0) (by decide +kernel) rfl rfl ?_
    refine w_bipush (n := 65) (v := 44) (x := 44) (by decide +kernel) rfl (by decide) ?_
    obtain ⟨M17, hLM17, hr30, h⟩ := h
    refine w_cV (n := 68) (idx := 446) (cal := 294) (na := 1) (nl := 2) (as := [.int 44]) (rest := []) hLM16 (by decide +kernel) (by decide +kernel) (at_483) (by decide +kernel) rfl rfl rfl (Nat.le_of_ble_eq_true rfl) rfl hr30 ?_
    refine w_aload_n (n := 69) (i := 0) (by decide +kernel) rfl rfl ?_
    refine w_aload_n (n := 70) (i := 0) (by decide +kernel) rfl rfl ?_
    refine w_iload_n (n := 71) (i := 1) (by decide +kernel) rfl rfl ?_
    refine w_iconst (n := 72) (v := 3) (x := 3) (by decide +kernel) rfl (by decide) ?_
    obtain ⟨v19, M18, hLM18, hr29, h⟩ := h
    refine w_cV (n := 75) (idx := 92) (cal := 171) (na := 2) (nl := 3) (as := [.int x1, .int 3]) (rest := [.ref 483]) hLM17 (by decide +kernel) (by decide +kernel) (at_483) (by decide +kernel) rfl rfl rfl (Nat.le_of_ble_eq_true rfl) rfl hr29 ?_
    obtain ⟨M20, hLM20, hr28, h⟩ := h
    refine w_cV (n := 78) (idx := 443) (cal := 299) (na := 1) (nl := 2) (as := [.int v19]) (rest := []) hLM18 (by decide +kernel) (by decide +kernel) (at_483) (by decide +kernel) rfl rfl rfl (Nat.le_of_ble_eq_true rfl) rfl hr28 ?_
    refine w_aload_n (n := 79) (i := 0) (by decide +kernel) rfl rfl ?_
    refine w_bipush (n := 81) (v := 32) (x := 32) (by decide +kernel) rfl (by decide) ?_
    obtain ⟨M21, hLM21, hr27, h⟩ := h
    refine w_cV (n := 84) (idx := 446) (cal := 294) (na := 1) (nl := 2) (as := [.int 32]) (rest := []) hLM20 (by decide +kernel) (by decide +kernel) (at_483) (by decide +kernel) rfl rfl rfl (Nat.le_of_ble_eq_true rfl) rfl hr27 ?_
    refine w_aload_n (n := 85) (i := 0) (by decide +kernel) rfl rfl ?_
    refine w_aload_n (n := 86) (i := 0) (by decide +kernel) rfl rfl ?_
    refine w_iload_n (n := 87) (i := 1) (by decide +kernel) rfl rfl ?_
    refine w_iconst (n := 88) (v := 0) (x := 0) (by decide +kernel) rfl (by decide) ?_
    obtain ⟨v23, M22, hLM22, hr26, h⟩ := h
    refine w_cV (n := 91) (idx := 92) (cal := 171) (na := 2) (nl := 3) (as := [.int x1, .int 0]) (rest := [.ref 483]) hLM21 (by decide +kernel) (by decide +kernel) (at_483) (by decide +kernel) rfl rfl rfl (Nat.le_of_ble_eq_true rfl) rfl hr26 ?_
    obtain ⟨M24, hLM24, hr25, h⟩ := h
    refine w_cV (n := 94) (idx := 465) (cal := 308) (na := 1) (nl := 2) (as := [.int v23]) (rest := []) hLM22 (by decide +kernel) (by decide +kernel) (at_483) (by decide +kernel) rfl rfl rfl (Nat.le_of_ble_eq_true rfl) rfl hr25 ?_
    refine w_aload_n (n := 95) (i := 0) (by decide +kernel) rfl rfl ?_
    refine w_getI (n := 98) hLM24 (by decide +kernel) oO_309 fF_12_440 (at_483) (by decide) rfl ?_
    subst h
    exact w_ireturn (by decide +kernel) (w_okI (by decide +kernel))
theorem t_310 {X : ak_X} {M : ak_M} {r : ak_O × ak_M} (hL : ab_lay M) (h : (∀ M1 : ak_M, M1 = ak_sI M 483 0 0 → (∀ M2 : ak_M, M2 = ak_sI M1 483 28 0 → sg X 310 (12, [some (.ref 483), some (.int 0), none], [], []) M2 r))) : rn X 310 [.ref 483] M r := by
  refine w_rn (nL := 3) (l1 := [some (.ref 483), none, none]) (by decide +kernel) rfl rfl ?_
  refine w_aload_n (n := 1) (i := 0) (by decide +kernel) rfl rfl ?_
  refine w_iconst (n := 2) (v := 0) (x := 0) (by decide +kernel) rfl (by decide) ?_
  refine w_putI (n := 5) hL (by decide +kernel) oO_310 fF_12_62 (at_483) ⟨by decide, Or.inl (by decide)⟩ rfl ?_
  generalize eM1 : ak_sI M 483 0 0 = M1
  have hLM1 : ab_lay M1 := by rw [← eM1]; exact ab_lay.sI hL
  replace h := h M1 eM1.symm
  refine w_aload_n (n := 6) (i := 0) (by decide +kernel) rfl rfl ?_
  refine w_iconst (n := 7) (v := 0) (x := 0) (by decide +kernel) rfl (by decide) ?_
  refine w_putI (n := 10) hLM1 (by decide +kernel) oO_310 fF_12_440 (at_483) ⟨by decide, Or.inl (by decide)⟩ rfl ?_
  generalize eM2 : ak_sI M1 483 28 0 = M2
  have hLM2 : ab_lay M2 := by rw [← eM2]; exact ab_lay.sI hLM1
  replace h := h M2 eM2.symm
  refine w_iconst (n := 11) (v := 0) (x := 0) (by decide +kernel) rfl (by decide) ?_
  refine w_istore_n (n := 12) (i := 1) (l1' := [some (.ref 483), some (.int 0), none]) (l2' := []) (by decide +kernel) rfl (Nat.le_of_ble_eq_true rfl) rfl rfl ?_
  exact h
theorem t_310_12 {X : ak_X} {M : ak_M} {r : ak_O × ak_M} (hL : ab_lay M) (y1 : Int32) (o2 : Option Value) (h : (∃ (v4 : Int32) (M3 : ak_M), ab_lay M3 ∧ rn X 168 [.ref 483] M (.inl (some (.int v4)), M3) ∧ (if v4 ≤ y1 then (if ak_I M3 483 28 = 0 then (∃ (M5 : ak_M), ab_lay M5 ∧ rn X 294 [.ref 483, .int 45] M3 (.inl (none), M5) ∧ r = (.inl (some (.int (ak_I M5 483 28))), M5)) else r = (.inl (some (.int (ak_I M3 483 28))), M3)) else sg X 310 (24, [some (.ref 483), some (.int y1), some (.int (y1 + 1))], [], []) M3 r))) : sg X 310 (12, [some (.ref 483), some (.int y1), o2], [], []) M r := by
  refine w_iload_n (n := 13) (i := 1) (by decide +kernel) rfl rfl ?_
  refine w_aload_n (n := 14) (i := 0) (by decide +kernel) rfl rfl ?_
  obtain ⟨v4, M3, hLM3, hr9, h⟩ := h
  refine w_cV (n := 17) (idx := 80) (cal := 168) (na := 0) (nl := 1) (as := []) (rest := [.int y1]) hL (by decide +kernel) (by decide +kernel) (at_483) (by decide +kernel) rfl rfl rfl (Nat.le_of_ble_eq_true rfl) rfl hr9 ?_
  by_cases c8 : v4 ≤ y1
  · rw [if_pos c8] at h
    refine w_icmp_ge_j (n := 111) (off := 94) (by decide +kernel) (by decide) c8 ?_
    refine w_aload_n (n := 112) (i := 0) (by decide +kernel) rfl rfl ?_
    refine w_getI (n := 115) hLM3 (by decide +kernel) oO_310 fF_12_440 (at_483) (by decide) rfl ?_
    by_cases c7 : ak_I M3 483 28 = 0
    · rw [if_pos c7] at h
      refine w_if_ne_n (n := 118) (off := 9) (by decide +kernel) rfl c7 ?_
      refine w_aload_n (n := 119) (i := 0) (by decide +kernel) rfl rfl ?_
      refine w_bipush (n := 121) (v := 45) (x := 45) (by decide +kernel) rfl (by decide) ?_
      obtain ⟨M5, hLM5, hr6, h⟩ := h
      refine w_cV (n := 124) (idx := 446) (cal := 294) (na := 1) (nl := 2) (as := [.int 45]) (rest := []) hLM3 (by decide +kernel) (by decide +kernel) (at_483) (by decide +kernel) rfl rfl rfl (Nat.le_of_ble_eq_true rfl) rfl hr6 ?_
      refine w_aload_n (n := 125) (i := 0) (by decide +kernel) rfl rfl ?_
      refine w_getI (n := 128) hLM5 (by decide +kernel) oO_310 fF_12_440 (at_483) (by decide) rfl ?_
      subst h
      exact w_ireturn (by decide +kernel) (w_okI (by decide +kernel))
    · rw [if_neg c7] at h
      refine w_if_ne_j (n := 124) (off := 9) (by decide +kernel) (by decide) c7 ?_
      refine w_aload_n (n := 125) (i := 0) (by decide +kernel) rfl rfl ?_
      refine w_getI (n := 128) hLM3 (by decide +kernel) oO_310 fF_12_440 (at_483) (by decide) rfl ?_
      subst h
      exact w_ireturn (by decide +kernel) (w_okI (by decide +kernel))
  · rw [if_neg c8] at h
    refine w_icmp_ge_n (n := 20) (off := 94) (by decide +kernel) rfl c8 ?_
    refine w_iload_n (n := 21) (i := 1) (by decide +kernel) rfl rfl ?_
    refine w_iconst (n := 22) (v := 1) (x := 1) (by decide +kernel) rfl (by decide) ?_
    refine w_iadd (n := 23) (by decide +kernel) rfl ?_
    refine w_istore_n (n := 24) (i := 2) (l1' := [some (.ref 483), some (.int y1), some (.int (y1 + 1))]) (l2' := []) (by decide +kernel) rfl (Nat.le_of_ble_eq_true rfl) rfl rfl ?_
    exact h
theorem t_310_24 {X : ak_X} {M : ak_M} {r : ak_O × ak_M} (hL : ab_lay M) (y1 : Int32) (y2 : Int32) (h : (∃ (v11 : Int32) (M10 : ak_M), ab_lay M10 ∧ rn X 168 [.ref 483] M (.inl (some (.int v11)), M10) ∧ (if v11 ≤ y2 then sg X 310 (12, [some (.ref 483), some (.int (y1 + 1)), some (.int y2)], [], []) M10 r else (∃ (v13 : Int32) (M12 : ak_M), ab_lay M12 ∧ rn X 192 [.ref 483, .int y1, .int y2] M10 (.inl (some (.int v13)), M12) ∧ (if v13 = 0 then sg X 310 (24, [some (.ref 483), some (.int y1), some (.int (y2 + 1))], [], []) M12 r else (if ak_I M12 483 28 ≤ 0 then (∃ (v15 : Int32) (M14 : ak_M), ab_lay M14 ∧ rn X 171 [.ref 483, .int y1, .int 14] M12 (.inl (some (.int v15)), M14) ∧ (∃ (M16 : ak_M), ab_lay M16 ∧ rn X 306 [.ref 483, .int v15] M14 (.inl (none), M16) ∧ (∃ (v18 : Int32) (M17 : ak_M), ab_lay M17 ∧ rn X 196 [.ref 483, .int y1, .int y2] M16 (.inl (some (.int v18)), M17) ∧ (if v18 = 0 then (∃ (M19 : ak_M), ab_lay M19 ∧ rn X 294 [.ref 483, .int 120] M17 (.inl (none), M19) ∧ (∃ (v21 : Int32) (M20 : ak_M), ab_lay M20 ∧ rn X 171 [.ref 483, .int y2, .int 14] M19 (.inl (some (.int v21)), M20) ∧ (∃ (M22 : ak_M), ab_lay M22 ∧ rn X 306 [.ref 483, .int v21] M20 (.inl (none), M22) ∧ sg X 310 (24, [some (.ref 483), some (.int y1), some (.int (y2 + 1))], [], []) M22 r))) else (∃ (M26 : ak_M), ab_lay M26 ∧ rn X 294 [.ref 483, .int 42] M17 (.inl (none), M26) ∧ (∃ (v28 : Int32) (M27 : ak_M), ab_lay M27 ∧ rn X 171 [.ref 483, .int y2, .int 14] M26 (.inl (some (.int v28)), M27) ∧ (∃ (M29 : ak_M), ab_lay M29 ∧ rn X 306 [.ref 483, .int v28] M27 (.inl (none), M29) ∧ sg X 310 (24, [some (.ref 483), some (.int y1), some (.int (y2 + 1))], [], []) M29 r))))))) else (∃ (M37 : ak_M), ab_lay M37 ∧ rn X 294 [.ref 483, .int 32] M12 (.inl (none), M37) ∧ (∃ (v39 : Int32) (M38 : ak_M), ab_lay M38 ∧ rn X 171 [.ref 483, .int y1, .int 14] M37 (.inl (some (.int v39)), M38) ∧ (∃ (M40 : ak_M), ab_lay M40 ∧ rn X 306 [.ref 483, .int v39] M38 (.inl (none), M40) ∧ (∃ (v42 : Int32) (M41 : ak_M), ab_lay M41 ∧ rn X 196 [.ref 483, .int y1, .int y2] M40 (.inl (some (.int v42)), M41) ∧ (if v42 = 0 then (∃ (M43 : ak_M), ab_lay M43 ∧ rn X 294 [.ref 483, .int 120] M41 (.inl (none), M43) ∧ (∃ (v45 : Int32) (M44 : ak_M), ab_lay M44 ∧ rn X 171 [.ref 483, .int y2, .int 14] M43 (.inl (some (.int v45)), M44) ∧ (∃ (M46 : ak_M), ab_lay M46 ∧ rn X 306 [.ref 483, .int v45] M44 (.inl (none), M46) ∧ sg X 310 (24, [some (.ref 483), some (.int y1), some (.int (y2 + 1))], [], []) M46 r))) else (∃ (M50 : ak_M), ab_lay M50 ∧ rn X 294 [.ref 483, .int 42] M41 (.inl (none), M50) ∧ (∃ (v52 : Int32) (M51 : ak_M), ab_lay M51 ∧ rn X 171 [.ref 483, .int y2, .int 14] M50 (.inl (some (.int v52)), M51) ∧ (∃ (M53 : ak_M), ab_lay M53 ∧ rn X 306 [.ref 483, .int v52] M51 (.inl (none), M53) ∧ sg X 310 (24, [some (.ref 483), some (.int y1), some (.int (y2 + 1))], [], []) M53 r)))))))))))))) : sg X 310 (24, [some (.ref 483), some (.int y1), some (.int y2)], [], []) M r := by
  refine w_iload_n (n := 25) (i := 2) (by decide +kernel) rfl rfl ?_
  refine w_aload_n (n := 26) (i := 0) (by decide +kernel) rfl rfl ?_
  obtain ⟨v11, M10, hLM10, hr66, h⟩ := h
  refine w_cV (n := 29) (idx := 80) (cal := 168) (na := 0) (nl := 1) (as := []) (rest := [.int y2]) hL (by decide +kernel) (by decide +kernel) (at_483) (by decide +kernel) rfl rfl rfl (Nat.le_of_ble_eq_true rfl) rfl hr66 ?_
  by_cases c65 : v11 ≤ y2
  · rw [if_pos c65] at h
    refine w_icmp_ge_j (n := 105) (off := 76) (by decide +kernel) (by decide) c65 ?_
    refine w_iinc (n := 108) (i := 1) (v := 1) (y := y1 + 1) (l1' := [some (.ref 483), some (.int (y1 + 1)), some (.int y2)]) (l2' := []) (by decide +kernel) rfl rfl rfl rfl rfl ?_
    refine w_goto (n := 12) (off := (-96)) (by decide +kernel) (by decide) ?_
    exact h
  · rw [if_neg c65] at h
    refine w_icmp_ge_n (n := 32) (off := 76) (by decide +kernel) rfl c65 ?_
    refine w_aload_n (n := 33) (i := 0) (by decide +kernel) rfl rfl ?_
    refine w_iload_n (n := 34) (i := 1) (by decide +kernel) rfl rfl ?_
    refine w_iload_n (n := 35) (i := 2) (by decide +kernel) rfl rfl ?_
    obtain ⟨v13, M12, hLM12, hr64, h⟩ := h
    refine w_cV (n := 38) (idx := 167) (cal := 192) (na := 2) (nl := 3) (as := [.int y1, .int y2]) (rest := []) hLM10 (by decide +kernel) (by decide +kernel) (at_483) (by decide +kernel) rfl rfl rfl (Nat.le_of_ble_eq_true rfl) rfl hr64 ?_
    by_cases c63 : v13 = 0
    · rw [if_pos c63] at h
      refine w_if_ne_n (n := 41) (off := 6) (by decide +kernel) rfl c63 ?_
      refine w_goto (n := 99) (off := 58) (by decide +kernel) (by decide) ?_
      refine w_iinc (n := 102) (i := 2) (v := 1) (y := y2 + 1) (l1' := [some (.ref 483), some (.int y1), some (.int (y2 + 1))]) (l2' := []) (by decide +kernel) rfl rfl rfl rfl rfl ?_
      refine w_goto (n := 24) (off := (-78)) (by decide +kernel) (by decide) ?_
      exact h
    · rw [if_neg c63] at h
      refine w_if_ne_j (n := 44) (off := 6) (by decide +kernel) (by decide) c63 ?_
      refine w_aload_n (n := 45) (i := 0) (by decide +kernel) rfl rfl ?_
      refine w_getI (n := 48) hLM12 (by decide +kernel) oO_310 fF_12_440 (at_483) (by decide) rfl ?_
      by_cases c62 : ak_I M12 483 28 ≤ 0
      · rw [if_pos c62] at h
        refine w_if_le_j (n := 57) (off := 9) (by decide +kernel) (by decide) c62 ?_
        refine w_aload_n (n := 58) (i := 0) (by decide +kernel) rfl rfl ?_
        refine w_aload_n (n := 59) (i := 0) (by decide +kernel) rfl rfl ?_
        refine w_iload_n (n := 60) (i := 1) (by decide +kernel) rfl rfl ?_
        refine w_bipush (n := 62) (v := 14) (x := 14) (by decide +kernel) rfl (by decide) ?_
        obtain ⟨v15, M14, hLM14, hr36, h⟩ := h
        refine w_cV (n := 65) (idx := 92) (cal := 171) (na := 2) (nl := 3) (as := [.int y1, .int 14]) (rest := [.ref 483]) hLM12 (by decide +kernel) (by decide +kernel) (at_483) (by decide +kernel) rfl rfl rfl (Nat.le_of_ble_eq_true rfl) rfl hr36 ?_
        obtain ⟨M16, hLM16, hr35, h⟩ := h
        refine w_cV (n := 68) (idx := 449) (cal := 306) (na := 1) (nl := 2) (as := [.int v15]) (rest := []) hLM14 (by decide +kernel) (by decide +kernel) (at_483) (by decide +kernel) rfl rfl rfl (Nat.le_of_ble_eq_true rfl) rfl hr35 ?_
        refine w_aload_n (n := 69) (i := 0) (by decide +kernel) rfl rfl ?_
        refine w_aload_n (n := 70) (i := 0) (by decide +kernel) rfl rfl ?_
        refine w_iload_n (n := 71) (i := 1) (by decide +kernel) rfl rfl ?_
        refine w_iload_n (n := 72) (i := 2) (by decide +kernel) rfl rfl ?_
        obtain ⟨v18, M17, hLM17, hr34, h⟩ := h
        refine w_cV (n := 75) (idx := 179) (cal := 196) (na := 2) (nl := 3) (as := [.int y1, .int y2]) (rest := [.ref 483]) hLM16 (by decide +kernel) (by decide +kernel) (at_483) (by decide +kernel) rfl rfl rfl (Nat.le_of_ble_eq_true rfl) rfl hr34 ?_
        by_cases c33 : v18 = 0
        · rw [if_pos c33] at h
          refine w_if_eq_j (n := 83) (off := 8) (by decide +kernel) (by decide) c33 ?_
          refine w_bipush (n := 85) (v := 120) (x := 120) (by decide +kernel) rfl (by decide) ?_
          obtain ⟨M19, hLM19, hr25, h⟩ := h
          refine w_cV (n := 88) (idx := 446) (cal := 294) (na := 1) (nl := 2) (as := [.int 120]) (rest := []) hLM17 (by decide +kernel) (by decide +kernel) (at_483) (by decide +kernel) rfl rfl rfl (Nat.le_of_ble_eq_true rfl) rfl hr25 ?_
          refine w_aload_n (n := 89) (i := 0) (by decide +kernel) rfl rfl ?_
          refine w_aload_n (n := 90) (i := 0) (by decide +kernel) rfl rfl ?_
          refine w_iload_n (n := 91) (i := 2) (by decide +kernel) rfl rfl ?_
          refine w_bipush (n := 93) (v := 14) (x := 14) (by decide +kernel) rfl (by decide) ?_
          obtain ⟨v21, M20, hLM20, hr24, h⟩ := h
          refine w_cV (n := 96) (idx := 92) (cal := 171) (na := 2) (nl := 3) (as := [.int y2, .int 14]) (rest := [.ref 483]) hLM19 (by decide +kernel) (by decide +kernel) (at_483) (by decide +kernel) rfl rfl rfl (Nat.le_of_ble_eq_true rfl) rfl hr24 ?_
          obtain ⟨M22, hLM22, hr23, h⟩ := h
          refine w_cV (n := 99) (idx := 449) (cal := 306) (na := 1) (nl := 2) (as := [.int v21]) (rest := []) hLM20 (by decide +kernel) (by decide +kernel) (at_483) (by decide +kernel) rfl rfl rfl (Nat.le_of_ble_eq_true rfl) rfl hr23 ?_
          refine w_iinc (n := 102) (i := 2) (v := 1) (y := y2 + 1) (l1' := [some (.ref 483), some (.int y1), some (.int (y2 + 1))]) (l2' := []) (by decide +kernel) rfl rfl rfl rfl rfl ?_
          refine w_goto (n := 24) (off := (-78)) (by decide +kernel) (by decide) ?_
          exact h
        · rw [if_neg c33] at h
          refine w_if_eq_n (n := 78) (off := 8) (by decide +kernel) rfl c33 ?_
          refine w_bipush (n := 80) (v := 42) (x := 42) (by decide +kernel) rfl (by decide) ?_
          refine w_goto (n := 85) (off := 5) (by decide +kernel) (by decide) ?_
          obtain ⟨M26, hLM26, hr32, h⟩ := h
          refine w_cV (n := 88) (idx := 446) (cal := 294) (na := 1) (nl := 2) (as := [.int 42]) (rest := []) hLM17 (by decide +kernel) (by decide +kernel) (at_483) (by decide +kernel) rfl rfl rfl (Nat.le_of_ble_eq_true rfl) rfl hr32 ?_
          refine w_aload_n (n := 89) (i := 0) (by decide +kernel) rfl rfl ?_
          refine w_aload_n (n := 90) (i := 0) (by decide +kernel) rfl rfl ?_
          refine w_iload_n (n := 91) (i := 2) (by decide +kernel) rfl rfl ?_
          refine w_bipush (n := 93) (v := 14) (x := 14) (by decide +kernel) rfl (by decide) ?_
          obtain ⟨v28, M27, hLM27, hr31, h⟩ := h
          refine w_cV (n := 96) (idx := 92) (cal := 171) (na := 2) (nl := 3) (as := [.int y2, .int 14]) (rest := [.ref 483]) hLM26 (by decide +kernel) (by decide +kernel) (at_483) (by decide +kernel) rfl rfl rfl (Nat.le_of_ble_eq_true rfl) rfl hr31 ?_
          obtain ⟨M29, hLM29, hr30, h⟩ := h
          refine w_cV (n := 99) (idx := 449) (cal := 306) (na := 1) (nl := 2) (as := [.int v28]) (rest := []) hLM27 (by decide +kernel) (by decide +kernel) (at_483) (by decide +kernel) rfl rfl rfl (Nat.le_of_ble_eq_true rfl) rfl hr30 ?_
          refine w_iinc (n := 102) (i := 2) (v := 1) (y := y2 + 1) (l1' := [some (.ref 483), some (.int y1), some (.int (y2 + 1))]) (l2' := []) (by decide +kernel) rfl rfl rfl rfl rfl ?_
          refine w_goto (n := 24) (off := (-78)) (by decide +kernel) (by decide) ?_
          exact h
      · rw [if_neg c62] at h
        refine w_if_le_n (n := 51) (off := 9) (by decide +kernel) rfl c62 ?_
        refine w_aload_n (n := 52) (i := 0) (by decide +kernel) rfl rfl ?_
        refine w_bipush (n := 54) (v := 32) (x := 32) (by decide +kernel) rfl (by decide) ?_
        obtain ⟨M37, hLM37, hr61, h⟩ := h
        refine w_cV (n := 57) (idx := 446) (cal := 294) (na := 1) (nl := 2) (as := [.int 32]) (rest := []) hLM12 (by decide +kernel) (by decide +kernel) (at_483) (by decide +kernel) rfl rfl rfl (Nat.le_of_ble_eq_true rfl) rfl hr61 ?_
        refine w_aload_n (n := 58) (i := 0) (by decide +kernel) rfl rfl ?_
        refine w_aload_n (n := 59) (i := 0) (by decide +kernel) rfl rfl ?_
        refine w_iload_n (n := 60) (i := 1) (by decide +kernel) rfl rfl ?_
        refine w_bipush (n := 62) (v := 14) (x := 14) (by decide +kernel) rfl (by decide) ?_
        obtain ⟨v39, M38, hLM38, hr60, h⟩ := h
        refine w_cV (n := 65) (idx := 92) (cal := 171) (na := 2) (nl := 3) (as := [.int y1, .int 14]) (rest := [.ref 483]) hLM37 (by decide +kernel) (by decide +kernel) (at_483) (by decide +kernel) rfl rfl rfl (Nat.le_of_ble_eq_true rfl) rfl hr60 ?_
        obtain ⟨M40, hLM40, hr59, h⟩ := h
        refine w_cV (n := 68) (idx := 449) (cal := 306) (na := 1) (nl := 2) (as := [.int v39]) (rest := []) hLM38 (by decide +kernel) (by decide +kernel) (at_483) (by decide +kernel) rfl rfl rfl (Nat.le_of_ble_eq_true rfl) rfl hr59 ?_
        refine w_aload_n (n := 69) (i := 0) (by decide +kernel) rfl rfl ?_
        refine w_aload_n (n := 70) (i := 0) (by decide +kernel) rfl rfl ?_
        refine w_iload_n (n := 71) (i := 1) (by decide +kernel) rfl rfl ?_
        refine w_iload_n (n := 72) (i := 2) (by decide +kernel) rfl rfl ?_
        obtain ⟨v42, M41, hLM41, hr58, h⟩ := h
        refine w_cV (n := 75) (idx := 179) (cal := 196) (na := 2) (nl := 3) (as := [.int y1, .int y2]) (rest := [.ref 483]) hLM40 (by decide +kernel) (by decide +kernel) (at_483) (by decide +kernel) rfl rfl rfl (Nat.le_of_ble_eq_true rfl) rfl hr58 ?_
        by_cases c57 : v42 = 0
        · rw [if_pos c57] at h
          refine w_if_eq_j (n := 83) (off := 8) (by decide +kernel) (by decide) c57 ?_
          refine w_bipush (n := 85) (v := 120) (x := 120) (by decide +kernel) rfl (by decide) ?_
          obtain ⟨M43, hLM43, hr49, h⟩ := h
          refine w_cV (n := 88) (idx := 446) (cal := 294) (na := 1) (nl := 2) (as := [.int 120]) (rest := []) hLM41 (by decide +kernel) (by decide +kernel) (at_483) (by decide +kernel) rfl rfl rfl (Nat.le_of_ble_eq_true rfl) rfl hr49 ?_
          refine w_aload_n (n := 89) (i := 0) (by decide +kernel) rfl rfl ?_
          refine w_aload_n (n := 90) (i := 0) (by decide +kernel) rfl rfl ?_
          refine w_iload_n (n := 91) (i := 2) (by decide +kernel) rfl rfl ?_
          refine w_bipush (n := 93) (v := 14) (x := 14) (by decide +kernel) rfl (by decide) ?_
          obtain ⟨v45, M44, hLM44, hr48, h⟩ := h
          refine w_cV (n := 96) (idx := 92) (cal := 171) (na := 2) (nl := 3) (as := [.int y2, .int 14]) (rest := [.ref 483]) hLM43 (by decide +kernel) (by decide +kernel) (at_483) (by decide +kernel) rfl rfl rfl (Nat.le_of_ble_eq_true rfl) rfl hr48 ?_
          obtain ⟨M46, hLM46, hr47, h⟩ := h
          refine w_cV (n := 99) (idx := 449) (cal := 306) (na := 1) (nl := 2) (as := [.int v45]) (rest := []) hLM44 (by decide +kernel) (by decide +kernel) (at_483) (by decide +kernel) rfl rfl rfl (Nat.le_of_ble_eq_true rfl) rfl hr47 ?_
          refine w_iinc (n := 102) (i := 2) (v := 1) (y := y2 + 1) (l1' := [some (.ref 483), some (.int y1), some (.int (y2 + 1))]) (l2' := []) (by decide +kernel) rfl rfl rfl rfl rfl ?_
          refine w_goto (n := 24) (off := (-78)) (by decide +kernel) (by decide) ?_
          exact h
        · rw [if_neg c57] at h
          refine w_if_eq_n (n := 78) (off := 8) (by decide +kernel) rfl c57 ?_
          refine w_bipush (n := 80) (v := 42) (x := 42) (by decide +kernel) rfl (by decide) ?_
          refine w_goto (n := 85) (off := 5) (by decide +kernel) (by decide) ?_
          obtain ⟨M50, hLM50, hr56, h⟩ := h
          refine w_cV (n := 88) (idx := 446) (cal := 294) (na := 1) (nl := 2) (as := [.int 42]) (rest := []) hLM41 (by decide +kernel) (by decide +kernel) (at_483) (by decide +kernel) rfl rfl rfl (Nat.le_of_ble_eq_true rfl) rfl hr56 ?_
          refine w_aload_n (n := 89) (i := 0) (by decide +kernel) rfl rfl ?_
          refine w_aload_n (n := 90) (i := 0) (by decide +kernel) rfl rfl ?_
          refine w_iload_n (n := 91) (i := 2) (by decide +kernel) rfl rfl ?_
          refine w_bipush (n := 93) (v := 14) (x := 14) (by decide +kernel) rfl (by decide) ?_
          obtain ⟨v52, M51, hLM51, hr55, h⟩ := h
          refine w_cV (n := 96) (idx := 92) (cal := 171) (na := 2) (nl := 3) (as := [.int y2, .int 14]) (rest := [.ref 483]) hLM50 (by decide +kernel) (by decide +kernel) (at_483) (by decide +kernel) rfl rfl rfl (Nat.le_of_ble_eq_true rfl) rfl hr55 ?_
          obtain ⟨M53, hLM53, hr54, h⟩ := h
          refine w_cV (n := 99) (idx := 449) (cal := 306) (na := 1) (nl := 2) (as := [.int v52]) (rest := []) hLM51 (by decide +kernel) (by decide +kernel) (at_483) (by decide +kernel) rfl rfl rfl (Nat.le_of_ble_eq_true rfl) rfl hr54 ?_
          refine w_iinc (n := 102) (i := 2) (v := 1) (y := y2 + 1) (l1' := [some (.ref 483), some (.int y1), some (.int (y2 + 1))]) (l2' := []) (by decide +kernel) rfl rfl rfl rfl rfl ?_
          refine w_goto (n := 24) (off := (-78)) (by decide +kernel) (by decide) ?_
          exact h
theorem t_311 {X : ak_X} {M : ak_M} {r : ak_O × ak_M} (hL : ab_lay M) (h : (∀ M1 : ak_M, M1 = ak_sI M 483 0 0 → (∀ M2 : ak_M, M2 = ak_sI M1 483 28 0 → sg X 311 (12, [some (.ref 483), some (.int 0), none], [], []) M2 r))) : rn X 311 [.ref 483] M r := by
  refine w_rn (nL := 3) (l1 := [some (.ref 483), none, none]) (by decide +kernel) rfl rfl ?_
  refine w_aload_n (n := 1) (i := 0) (by decide +kernel) rfl rfl ?_
  refine w_iconst (n := 2) (v := 0) (x := 0) (by decide +kernel) rfl (by decide) ?_
  refine w_putI (n := 5) hL (by decide +kernel) oO_311 fF_12_62 (at_483) ⟨by decide, Or.inl (by decide)⟩ rfl ?_
  generalize eM1 : ak_sI M 483 0 0 = M1
  have hLM1 : ab_lay M1 := by rw [← eM1]; exact ab_lay.sI hL
  replace h := h M1 eM1.symm
  refine w_aload_n (n := 6) (i := 0) (by decide +kernel) rfl rfl ?_
  refine w_iconst (n := 7) (v := 0) (x := 0) (by decide +kernel) rfl (by decide) ?_
  refine w_putI (n := 10) hLM1 (by decide +kernel) oO_311 fF_12_440 (at_483) ⟨by decide, Or.inl (by decide)⟩ rfl ?_
  generalize eM2 : ak_sI M1 483 28 0 = M2
  have hLM2 : ab_lay M2 := by rw [← eM2]; exact ab_lay.sI hLM1
  replace h := h M2 eM2.symm
  refine w_iconst (n := 11) (v := 0) (x := 0) (by decide +kernel) rfl (by decide) ?_
  refine w_istore_n (n := 12) (i := 1) (l1' := [some (.ref 483), some (.int 0), none]) (l2' := []) (by decide +kernel) rfl (Nat.le_of_ble_eq_true rfl) rfl rfl ?_
  exact h
theorem t_311_12 {X : ak_X} {M : ak_M} {r : ak_O × ak_M} (hL : ab_lay M) (y1 : Int32) (o2 : Option Value) (h : (∃ i3 : Nat, ab_ix 9 i3 245 ∧ (if ak_I M 484 i3 ≤ y1 then (if ak_I M 483 28 = 0 then (∃ (M4 : ak_M), ab_lay M4 ∧ rn X 294 [.ref 483, .int 45] M (.inl (none), M4) ∧ r = (.inl (some (.int (ak_I M4 483 28))), M4)) else r = (.inl (some (.int (ak_I M 483 28))), M)) else (if y1 ≤ 0 then (∃ i7 : Nat, ab_ix (173 + (6 * y1)) i7 245 ∧ (∃ (M8 : ak_M), ab_lay M8 ∧ rn X 299 [.ref 483, .int (ak_I M 484 i7)] M (.inl (none), M8) ∧ (∃ i9 : Nat, ab_ix ((173 + (6 * y1)) + 1) i9 245 ∧ (∃ (v11 : Int32) (M10 : ak_M), ab_lay M10 ∧ rn X 318 [.ref (1001000 + 27), .int (ak_I M8 484 i9)] M8 (.inl (some (.int v11)), M10) ∧ (∃ (M12 : ak_M), ab_lay M12 ∧ rn X 294 [.ref 483, .int v11] M10 (.inl (none), M12) ∧ (∃ i13 : Nat, ab_ix ((173 + (6 * y1)) + 2) i13 245 ∧ (∃ (M14 : ak_M), ab_lay M14 ∧ rn X 299 [.ref 483, .int (ak_I M12 484 i13)] M12 (.inl (none), M14) ∧ (∃ i15 : Nat, ab_ix ((173 + (6 * y1)) + 3) i15 245 ∧ (if ak_I M14 484 i15 = (-1) then sg X 311 (12, [some (.ref 483), some (.int (y1 + 1)), some (.int (173 + (6 * y1)))], [], []) M14 r else (∃ (M16 : ak_M), ab_lay M16 ∧ rn X 294 [.ref 483, .int 47] M14 (.inl (none), M16) ∧ (∃ i17 : Nat, ab_ix ((173 + (6 * y1)) + 3) i17 245 ∧ (∃ (M18 : ak_M), ab_lay M18 ∧ rn X 299 [.ref 483, .int (ak_I M16 484 i17)] M16 (.inl (none), M18) ∧ sg X 311 (12, [some (.ref 483), some (.int (y1 + 1)), some (.int (173 + (6 * y1)))], [], []) M18 r)))))))))))) else (∃ (M26 : ak_M), ab_lay M26 ∧ rn X 294 [.ref 483, .int 32] M (.inl (none), M26) ∧ (∃ i27 : Nat, ab_ix (173 + (6 * y1)) i27 245 ∧ (∃ (M28 : ak_M), ab_lay M28 ∧ rn X 299 [.ref 483, .int (ak_I M26 484 i27)] M26 (.inl (none), M28) ∧ (∃ i29 : Nat, ab_ix ((173 + (6 * y1)) + 1) i29 245 ∧ (∃ (v31 : Int32) (M30 : ak_M), ab_lay M30 ∧ rn X 318 [.ref (1001000 + 27), .int (ak_I M28 484 i29)] M28 (.inl (some (.int v31)), M30) ∧ (∃ (M32 : ak_M), ab_lay M32 ∧ rn X 294 [.ref 483, .int v31] M30 (.inl (none), M32) ∧ (∃ i33 : Nat, ab_ix ((173 + (6 * y1)) + 2) i33 245 ∧ (∃ (M34 : ak_M), ab_lay M34 ∧ rn X 299 [.ref 483, .int (ak_I M32 484 i33)] M32 (.inl (none), M34) ∧ (∃ i35 : Nat, ab_ix ((173 + (6 * y1)) + 3) i35 245 ∧ (if ak_I M34 484 i35 = (-1) then sg X 311 (12, [some (.ref 483), some (.int (y1 + 1)), some (.int (173 + (6 * y1)))], [], []) M34 r else (∃ (M36 : ak_M), ab_lay M36 ∧ rn X 294 [.ref 483, .int 47] M34 (.inl (none), M36) ∧ (∃ i37 : Nat, ab_ix ((173 + (6 * y1)) + 3) i37 245 ∧ (∃ (M38 : ak_M), ab_lay M38 ∧ rn X 299 [.ref 483, .int (ak_I M36 484 i37)] M36 (.inl (none), M38) ∧ sg X 311 (12, [some (.ref 483), some (.int (y1 + 1)), some (.int (173 + (6 * y1)))], [], []) M38 r))))))))))))))))) : sg X 311 (12, [some (.ref 483), some (.int y1), o2], [], []) M r := by
  refine w_iload_n (n := 13) (i := 1) (by decide +kernel) rfl rfl ?_
  refine w_aload_n (n := 14) (i := 0) (by decide +kernel) rfl rfl ?_
  refine w_getR (n := 17) hL (by decide +kernel) oO_311 fF_12_7 (at_483) (by decide) (ar_483_1) rfl ?_
  refine w_bipush (n := 19) (v := 9) (x := 9) (by decide +kernel) rfl (by decide) ?_
  obtain ⟨i3, gi3, h⟩ := h
  refine w_iald (n := 20) hL (by decide +kernel) (at_484) (an_484) gi3 rfl ?_
  by_cases c48 : ak_I M 484 i3 ≤ y1
  · rw [if_pos c48] at h
    refine w_icmp_ge_j (n := 121) (off := 101) (by decide +kernel) (by decide) c48 ?_
    refine w_aload_n (n := 122) (i := 0) (by decide +kernel) rfl rfl ?_
    refine w_getI (n := 125) hL (by decide +kernel) oO_311 fF_12_440 (at_483) (by decide) rfl ?_
    by_cases c6 : ak_I M 483 28 = 0
    · rw [if_pos c6] at h
      refine w_if_ne_n (n := 128) (off := 9) (by decide +kernel) rfl c6 ?_
      refine w_aload_n (n := 129) (i := 0) (by decide +kernel) rfl rfl ?_
      refine w_bipush (n := 131) (v := 45) (x := 45) (by decide +kernel) rfl (by decide) ?_
      obtain ⟨M4, hLM4, hr5, h⟩ := h
      refine w_cV (n := 134) (idx := 446) (cal := 294) (na := 1) (nl := 2) (as := [.int 45]) (rest := []) hL (by decide +kernel) (by decide +kernel) (at_483) (by decide +kernel) rfl rfl rfl (Nat.le_of_ble_eq_true rfl) rfl hr5 ?_
      refine w_aload_n (n := 135) (i := 0) (by decide +kernel) rfl rfl ?_
      refine w_getI (n := 138) hLM4 (by decide +kernel) oO_311 fF_12_440 (at_483) (by decide) rfl ?_
      subst h
      exact w_ireturn (by decide +kernel) (w_okI (by decide +kernel))
    · rw [if_neg c6] at h
      refine w_if_ne_j (n := 134) (off := 9) (by decide +kernel) (by decide) c6 ?_
      refine w_aload_n (n := 135) (i := 0) (by decide +kernel) rfl rfl ?_
      refine w_getI (n := 138) hL (by decide +kernel) oO_311 fF_12_440 (at_483) (by decide) rfl ?_
      subst h
      exact w_ireturn (by decide +kernel) (w_okI (by decide +kernel))
  · rw [if_neg c48] at h
    refine w_icmp_ge_n (n := 23) (off := 101) (by decide +kernel) rfl c48 ?_
    refine w_sipush (n := 26) (v := 173) (x := 173) (by decide +kernel) rfl (by decide) ?_
    refine w_bipush (n := 28) (v := 6) (x := 6) (by decide +kernel) rfl (by decide) ?_
    refine w_iload_n (n := 29) (i := 1) (by decide +kernel) rfl rfl ?_
    refine w_imul (n := 30) (by decide +kernel) rfl ?_
    refine w_iadd (n := 31) (by decide +kernel) rfl ?_
    refine w_istore_n (n := 32) (i := 2) (l1' := [some (.ref 483), some (.int y1), some (.int (173 + (6 * y1)))]) (l2' := []) (by decide +kernel) rfl (Nat.le_of_ble_eq_true rfl) rfl rfl ?_
    refine w_iload_n (n := 33) (i := 1) (by decide +kernel) rfl rfl ?_
    by_cases c47 : y1 ≤ 0
    · rw [if_pos c47] at h
      refine w_if_le_j (n := 42) (off := 9) (by decide +kernel) (by decide) c47 ?_
      refine w_aload_n (n := 43) (i := 0) (by decide +kernel) rfl rfl ?_
      refine w_aload_n (n := 44) (i := 0) (by decide +kernel) rfl rfl ?_
      refine w_getR (n := 47) hL (by decide +kernel) oO_311 fF_12_7 (at_483) (by decide) (ar_483_1) rfl ?_
      refine w_iload_n (n := 48) (i := 2) (by decide +kernel) rfl rfl ?_
      obtain ⟨i7, gi7, h⟩ := h
      refine w_iald (n := 49) hL (by decide +kernel) (at_484) (an_484) gi7 rfl ?_
      obtain ⟨M8, hLM8, hr25, h⟩ := h
      refine w_cV (n := 52) (idx := 443) (cal := 299) (na := 1) (nl := 2) (as := [.int (ak_I M 484 i7)]) (rest := []) hL (by decide +kernel) (by decide +kernel) (at_483) (by decide +kernel) rfl rfl rfl (Nat.le_of_ble_eq_true rfl) rfl hr25 ?_
      refine w_aload_n (n := 53) (i := 0) (by decide +kernel) rfl rfl ?_
      refine w_ldcw (n := 56) (idx := 468) (s := 27) (by decide +kernel) oO_311 (by decide +kernel) rfl ?_
      refine w_aload_n (n := 57) (i := 0) (by decide +kernel) rfl rfl ?_
      refine w_getR (n := 60) hLM8 (by decide +kernel) oO_311 fF_12_7 (at_483) (by decide) (ar_483_1) rfl ?_
      refine w_iload_n (n := 61) (i := 2) (by decide +kernel) rfl rfl ?_
      refine w_iconst (n := 62) (v := 1) (x := 1) (by decide +kernel) rfl (by decide) ?_
      refine w_iadd (n := 63) (by decide +kernel) rfl ?_
      obtain ⟨i9, gi9, h⟩ := h
      refine w_iald (n := 64) hLM8 (by decide +kernel) (at_484) (an_484) gi9 rfl ?_
      obtain ⟨v11, M10, hLM10, hr24, h⟩ := h
      refine w_cVS (n := 67) (idx := 384) (cal := 318) (na := 1) (nl := 2) (as := [.int (ak_I M8 484 i9)]) (rest := [.ref 483]) hLM8 (by decide +kernel) (by decide +kernel) (by omega) (by decide +kernel) rfl rfl rfl (Nat.le_of_ble_eq_true rfl) rfl hr24 ?_
      obtain ⟨M12, hLM12, hr23, h⟩ := h
      refine w_cV (n := 70) (idx := 446) (cal := 294) (na := 1) (nl := 2) (as := [.int v11]) (rest := []) hLM10 (by decide +kernel) (by decide +kernel) (at_483) (by decide +kernel) rfl rfl rfl (Nat.le_of_ble_eq_true rfl) rfl hr23 ?_
      refine w_aload_n (n := 71) (i := 0) (by decide +kernel) rfl rfl ?_
      refine w_aload_n (n := 72) (i := 0) (by decide +kernel) rfl rfl ?_
      refine w_getR (n := 75) hLM12 (by decide +kernel) oO_311 fF_12_7 (at_483) (by decide) (ar_483_1) rfl ?_
      refine w_iload_n (n := 76) (i := 2) (by decide +kernel) rfl rfl ?_
      refine w_iconst (n := 77) (v := 2) (x := 2) (by decide +kernel) rfl (by decide) ?_
      refine w_iadd (n := 78) (by decide +kernel) rfl ?_
      obtain ⟨i13, gi13, h⟩ := h
      refine w_iald (n := 79) hLM12 (by decide +kernel) (at_484) (an_484) gi13 rfl ?_
      obtain ⟨M14, hLM14, hr22, h⟩ := h
      refine w_cV (n := 82) (idx := 443) (cal := 299) (na := 1) (nl := 2) (as := [.int (ak_I M12 484 i13)]) (rest := []) hLM12 (by decide +kernel) (by decide +kernel) (at_483) (by decide +kernel) rfl rfl rfl (Nat.le_of_ble_eq_true rfl) rfl hr22 ?_
      refine w_aload_n (n := 83) (i := 0) (by decide +kernel) rfl rfl ?_
      refine w_getR (n := 86) hLM14 (by decide +kernel) oO_311 fF_12_7 (at_483) (by decide) (ar_483_1) rfl ?_
      refine w_iload_n (n := 87) (i := 2) (by decide +kernel) rfl rfl ?_
      refine w_iconst (n := 88) (v := 3) (x := 3) (by decide +kernel) rfl (by decide) ?_
      refine w_iadd (n := 89) (by decide +kernel) rfl ?_
      obtain ⟨i15, gi15, h⟩ := h
      refine w_iald (n := 90) hLM14 (by decide +kernel) (at_484) (an_484) gi15 rfl ?_
      refine w_iconst (n := 91) (v := -1) (x := (-1)) (by decide +kernel) rfl (by decide) ?_
      by_cases c21 : ak_I M14 484 i15 = (-1)
      · rw [if_pos c21] at h
        refine w_icmp_ne_n (n := 94) (off := 6) (by decide +kernel) rfl c21 ?_
        refine w_goto (n := 115) (off := 21) (by decide +kernel) (by decide) ?_
        refine w_iinc (n := 118) (i := 1) (v := 1) (y := y1 + 1) (l1' := [some (.ref 483), some (.int (y1 + 1)), some (.int (173 + (6 * y1)))]) (l2' := []) (by decide +kernel) rfl rfl rfl rfl rfl ?_
        refine w_goto (n := 12) (off := (-106)) (by decide +kernel) (by decide) ?_
        exact h
      · rw [if_neg c21] at h
        refine w_icmp_ne_j (n := 97) (off := 6) (by decide +kernel) (by decide) c21 ?_
        refine w_aload_n (n := 98) (i := 0) (by decide +kernel) rfl rfl ?_
        refine w_bipush (n := 100) (v := 47) (x := 47) (by decide +kernel) rfl (by decide) ?_
        obtain ⟨M16, hLM16, hr20, h⟩ := h
        refine w_cV (n := 103) (idx := 446) (cal := 294) (na := 1) (nl := 2) (as := [.int 47]) (rest := []) hLM14 (by decide +kernel) (by decide +kernel) (at_483) (by decide +kernel) rfl rfl rfl (Nat.le_of_ble_eq_true rfl) rfl hr20 ?_
        refine w_aload_n (n := 104) (i := 0) (by decide +kernel) rfl rfl ?_
        refine w_aload_n (n := 105) (i := 0) (by decide +kernel) rfl rfl ?_
        refine w_getR (n := 108) hLM16 (by decide +kernel) oO_311 fF_12_7 (at_483) (by decide) (ar_483_1) rfl ?_
        refine w_iload_n (n := 109) (i := 2) (by decide +kernel) rfl rfl ?_
        refine w_iconst (n := 110) (v := 3) (x := 3) (by decide +kernel) rfl (by decide) ?_
        refine w_iadd (n := 111) (by decide +kernel) rfl ?_
        obtain ⟨i17, gi17, h⟩ := h
        refine w_iald (n := 112) hLM16 (by decide +kernel) (at_484) (an_484) gi17 rfl ?_
        obtain ⟨M18, hLM18, hr19, h⟩ := h
        refine w_cV (n := 115) (idx := 443) (cal := 299) (na := 1) (nl := 2) (as := [.int (ak_I M16 484 i17)]) (rest := []) hLM16 (by decide +kernel) (by decide +kernel) (at_483) (by decide +kernel) rfl rfl rfl (Nat.le_of_ble_eq_true rfl) rfl hr19 ?_
        refine w_iinc (n := 118) (i := 1) (v := 1) (y := y1 + 1) (l1' := [some (.ref 483), some (.int (y1 + 1)), some (.int (173 + (6 * y1)))]) (l2' := []) (by decide +kernel) rfl rfl rfl rfl rfl ?_
        refine w_goto (n := 12) (off := (-106)) (by decide +kernel) (by decide) ?_
        exact h
    · rw [if_neg c47] at h
      refine w_if_le_n (n := 36) (off := 9) (by decide +kernel) rfl c47 ?_
      refine w_aload_n (n := 37) (i := 0) (by decide +kernel) rfl rfl ?_
      refine w_bipush (n := 39) (v := 32) (x := 32) (by decide +kernel) rfl (by decide) ?_
      obtain ⟨M26, hLM26, hr46, h⟩ := h
      refine w_cV (n := 42) (idx := 446) (cal := 294) (na := 1) (nl := 2) (as := [.int 32]) (rest := []) hL (by decide +kernel) (by decide +kernel) (at_483) (by decide +kernel) rfl rfl rfl (Nat.le_of_ble_eq_true rfl) rfl hr46 ?_
      refine w_aload_n (n := 43) (i := 0) (by decide +kernel) rfl rfl ?_
      refine w_aload_n (n := 44) (i := 0) (by decide +kernel) rfl rfl ?_
      refine w_getR (n := 47) hLM26 (by decide +kernel) oO_311 fF_12_7 (at_483) (by decide) (ar_483_1) rfl ?_
      refine w_iload_n (n := 48) (i := 2) (by decide +kernel) rfl rfl ?_
      obtain ⟨i27, gi27, h⟩ := h
      refine w_iald (n := 49) hLM26 (by decide +kernel) (at_484) (an_484) gi27 rfl ?_
      obtain ⟨M28, hLM28, hr45, h⟩ := h
      refine w_cV (n := 52) (idx := 443) (cal := 299) (na := 1) (nl := 2) (as := [.int (ak_I M26 484 i27)]) (rest := []) hLM26 (by decide +kernel) (by decide +kernel) (at_483) (by decide +kernel) rfl rfl rfl (Nat.le_of_ble_eq_true rfl) rfl hr45 ?_
      refine w_aload_n (n := 53) (i := 0) (by decide +kernel) rfl rfl ?_
      refine w_ldcw (n := 56) (idx := 468) (s := 27) (by decide +kernel) oO_311 (by decide +kernel) rfl ?_
      refine w_aload_n (n := 57) (i := 0) (by decide +kernel) rfl rfl ?_
      refine w_getR (n := 60) hLM28 (by decide +kernel) oO_311 fF_12_7 (at_483) (by decide) (ar_483_1) rfl ?_
      refine w_iload_n (n := 61) (i := 2) (by decide +kernel) rfl rfl ?_
      refine w_iconst (n := 62) (v := 1) (x := 1) (by decide +kernel) rfl (by decide) ?_
      refine w_iadd (n := 63) (by decide +kernel) rfl ?_
      obtain ⟨i29, gi29, h⟩ := h
      refine w_iald (n := 64) hLM28 (by decide +kernel) (at_484) (an_484) gi29 rfl ?_
      obtain ⟨v31, M30, hLM30, hr44, h⟩ := h
      refine w_cVS (n := 67) (idx := 384) (cal := 318) (na := 1) (nl := 2) (as := [.int (ak_I M28 484 i29)]) (rest := [.ref 483]) hLM28 (by decide +kernel) (by decide +kernel) (by omega) (by decide +kernel) rfl rfl rfl (Nat.le_of_ble_eq_true rfl) rfl hr44 ?_
      obtain ⟨M32, hLM32, hr43, h⟩ := h
      refine w_cV (n := 70) (idx := 446) (cal := 294) (na := 1) (nl := 2) (as := [.int v31]) (rest := []) hLM30 (by decide +kernel) (by decide +kernel) (at_483) (by decide +kernel) rfl rfl rfl (Nat.le_of_ble_eq_true rfl) rfl hr43 ?_
      refine w_aload_n (n := 71) (i := 0) (by decide +kernel) rfl rfl ?_
      refine w_aload_n (n := 72) (i := 0) (by decide +kernel) rfl rfl ?_
      refine w_getR (n := 75) hLM32 (by decide +kernel) oO_311 fF_12_7 (at_483) (by decide) (ar_483_1) rfl ?_
      refine w_iload_n (n := 76) (i := 2) (by decide +kernel) rfl rfl ?_
      refine w_iconst (n := 77) (v := 2) (x := 2) (by decide +kernel) rfl (by decide) ?_
      refine w_iadd (n := 78) (by decide +kernel) rfl ?_
      obtain ⟨i33, gi33, h⟩ := h
      refine w_iald (n := 79) hLM32 (by decide +kernel) (at_484) (an_484) gi33 rfl ?_
      obtain ⟨M34, hLM34, hr42, h⟩ := h
      refine w_cV (n := 82) (idx := 443) (cal := 299) (na := 1) (nl := 2) (as := [.int (ak_I M32 484 i33)]) (rest := []) hLM32 (by decide +kernel) (by decide +kernel) (at_483) (by decide +kernel) rfl rfl rfl (Nat.le_of_ble_eq_true rfl) rfl hr42 ?_
      refine w_aload_n (n := 83) (i := 0) (by decide +kernel) rfl rfl ?_
      refine w_getR (n := 86) hLM34 (by decide +kernel) oO_311 fF_12_7 (at_483) (by decide) (ar_483_1) rfl ?_
      refine w_iload_n (n := 87) (i := 2) (by decide +kernel) rfl rfl ?_
      refine w_iconst (n := 88) (v := 3) (x := 3) (by decide +kernel) rfl (by decide) ?_
      refine w_iadd (n := 89) (by decide +kernel) rfl ?_
      obtain ⟨i35, gi35, h⟩ := h
      refine w_iald (n := 90) hLM34 (by decide +kernel) (at_484) (an_484) gi35 rfl ?_
      refine w_iconst (n := 91) (v := -1) (x := (-1)) (by decide +kernel) rfl (by decide) ?_
      by_cases c41 : ak_I M34 484 i35 = (-1)
      · rw [if_pos c41] at h
        refine w_icmp_ne_n (n := 94) (off := 6) (by decide +kernel) rfl c41 ?_
        refine w_goto (n := 115) (off := 21) (by decide +kernel) (by decide) ?_
        refine w_iinc (n := 118) (i := 1) (v := 1) (y := y1 + 1) (l1' := [some (.ref 483), some (.int (y1 + 1)), some (.int (173 + (6 * y1)))]) (l2' := []) (by decide +kernel) rfl rfl rfl rfl rfl ?_
        refine w_goto (n := 12) (off := (-106)) (by decide +kernel) (by decide) ?_
        exact h
      · rw [if_neg c41] at h
        refine w_icmp_ne_j (n := 97) (off := 6) (by decide +kernel) (by decide) c41 ?_
        refine w_aload_n (n := 98) (i := 0) (by decide +kernel) rfl rfl ?_
        refine w_bipush (n := 100) (v := 47) (x := 47) (by decide +kernel) rfl (by decide) ?_
        obtain ⟨M36, hLM36, hr40, h⟩ := h
        refine w_cV (n := 103) (idx := 446) (cal := 294) (na := 1) (nl := 2) (as := [.int 47]) (rest := []) hLM34 (by decide +kernel) (by decide +kernel) (at_483) (by decide +kernel) rfl rfl rfl (Nat.le_of_ble_eq_true rfl) rfl hr40 ?_
        refine w_aload_n (n := 104) (i := 0) (by decide +kernel) rfl rfl ?_
        refine w_aload_n (n := 105) (i := 0) (by decide +kernel) rfl rfl ?_
        refine w_getR (n := 108) hLM36 (by decide +kernel) oO_311 fF_12_7 (at_483) (by decide) (ar_483_1) rfl ?_
        refine w_iload_n (n := 109) (i := 2) (by decide +kernel) rfl rfl ?_
        refine w_iconst (n := 110) (v := 3) (x := 3) (by decide +kernel) rfl (by decide) ?_
        refine w_iadd (n := 111) (by decide +kernel) rfl ?_
        obtain ⟨i37, gi37, h⟩ := h
        refine w_iald (n := 112) hLM36 (by decide +kernel) (at_484) (an_484) gi37 rfl ?_
        obtain ⟨M38, hLM38, hr39, h⟩ := h
        refine w_cV (n := 115) (idx := 443) (cal := 299) (na := 1) (nl := 2) (as := [.int (ak_I M36 484 i37)]) (rest := []) hLM36 (by decide +kernel) (by decide +kernel) (at_483) (by decide +kernel) rfl rfl rfl (Nat.le_of_ble_eq_true rfl) rfl hr39 ?_
        refine w_iinc (n := 118) (i := 1) (v := 1) (y := y1 + 1) (l1' := [some (.ref 483), some (.int (y1 + 1)), some (.int (173 + (6 * y1)))]) (l2' := []) (by decide +kernel) rfl rfl rfl rfl rfl ?_
        refine w_goto (n := 12) (off := (-106)) (by decide +kernel) (by decide) ?_
        exact h
theorem t_312 {X : ak_X} {M : ak_M} {r : ak_O × ak_M} (hL : ab_lay M) (x1 : Int32) (h : (∀ M1 : ak_M, M1 = ak_sI M 483 0 0 → (∃ (v3 : Int32) (M2 : ak_M), ab_lay M2 ∧ rn X 157 [.long (x1.toInt64), .long 0, .long (((ak_I M1 483 28).toInt64) - 1)] M1 (.inl (some (.int v3)), M2) ∧ (if v3 = 0 then r = (.inl (some (.int ((-1)))), M2) else (∃ i4 : Nat, ab_ix x1 i4 800 ∧ r = (.inl (some (.int (ak_I M2 496 i4))), M2)))))) : rn X 312 [.ref 483, .int x1] M r := by
  refine w_rn (nL := 2) (l1 := [some (.ref 483), some (.int x1)]) (by decide +kernel) rfl rfl ?_
  refine w_aload_n (n := 1) (i := 0) (by decide +kernel) rfl rfl ?_
  refine w_iconst (n := 2) (v := 0) (x := 0) (by decide +kernel) rfl (by decide) ?_
  refine w_putI (n := 5) hL (by decide +kernel) oO_312 fF_12_62 (at_483) ⟨by decide, Or.inl (by decide)⟩ rfl ?_
  generalize eM1 : ak_sI M 483 0 0 = M1
  have hLM1 : ab_lay M1 := by rw [← eM1]; exact ab_lay.sI hL
  replace h := h M1 eM1.symm
  refine w_iload_n (n := 6) (i := 1) (by decide +kernel) rfl rfl ?_
  refine w_i2l (n := 7) (by decide +kernel) rfl ?_
  refine w_lconst (n := 8) (v := 0) (x := 0) (by decide +kernel) rfl (by decide) ?_
  refine w_aload_n (n := 9) (i := 0) (by decide +kernel) rfl rfl ?_
  refine w_getI (n := 12) hLM1 (by decide +kernel) oO_312 fF_12_440 (at_483) (by decide) rfl ?_
  refine w_i2l (n := 13) (by decide +kernel) rfl ?_
  refine w_lconst (n := 14) (v := 1) (x := 1) (by decide +kernel) rfl (by decide) ?_
  refine w_lsub (n := 15) (by decide +kernel) rfl ?_
  obtain ⟨v3, M2, hLM2, hr6, h⟩ := h
  refine w_cS (n := 18) (idx := 84) (cal := 157) (na := 3) (nl := 6) (as := [.long (x1.toInt64), .long 0, .long (((ak_I M1 483 28).toInt64) - 1)]) (rest := []) (by decide +kernel) (by decide +kernel) rfl rfl rfl (Nat.le_of_ble_eq_true rfl) rfl hr6 ?_
  by_cases c5 : v3 = 0
  · rw [if_pos c5] at h
    refine w_if_eq_j (n := 30) (off := 12) (by decide +kernel) (by decide) c5 ?_
    refine w_iconst (n := 31) (v := -1) (x := (-1)) (by decide +kernel) rfl (by decide) ?_
    subst h
    exact w_ireturn (by decide +kernel) (w_okI (by decide +kernel))
  · rw [if_neg c5] at h
    refine w_if_eq_n (n := 21) (off := 12) (by decide +kernel) rfl c5 ?_
    refine w_aload_n (n := 22) (i := 0) (by decide +kernel) rfl rfl ?_
    refine w_getR (n := 25) hLM2 (by decide +kernel) oO_312 fF_12_52 (at_483) (by decide) (ar_483_27) rfl ?_
    refine w_iload_n (n := 26) (i := 1) (by decide +kernel) rfl rfl ?_
    obtain ⟨i4, gi4, h⟩ := h
    refine w_bald (n := 27) hLM2 (by decide +kernel) (at_496) (by decide) (an_496) gi4 rfl ?_
    refine w_goto (n := 31) (off := 4) (by decide +kernel) (by decide) ?_
    subst h
    exact w_ireturn (by decide +kernel) (w_okI (by decide +kernel))
