/-! the walk of the model, 2, laid by wip/whole/walk.py -/
theorem t_207 {X : ak_X} {M : ak_M} {r : ak_O × ak_M} (hL : ab_lay M) (x1 : Int32) (h : (∃ (v2 : Int32) (M1 : ak_M), ab_lay M1 ∧ rn X 174 [.ref 483, .int 1] M (.inl (some (.int v2)), M1) ∧ (∃ (v4 : Int32) (M3 : ak_M), ab_lay M3 ∧ rn X 171 [.ref 483, .int x1, .int 3] M1 (.inl (some (.int v4)), M3) ∧ (∃ (v6 : Int32) (M5 : ak_M), ab_lay M5 ∧ rn X 178 [.ref 483, .int v4] M3 (.inl (some (.int v6)), M5) ∧ (∃ (v8 : Int32) (M7 : ak_M), ab_lay M7 ∧ rn X 179 [.ref 483, .int v6] M5 (.inl (some (.int v8)), M7) ∧ (∃ (v10 : Int32) (M9 : ak_M), ab_lay M9 ∧ rn X 171 [.ref 483, .int x1, .int 7] M7 (.inl (some (.int v10)), M9) ∧ (if 0 ≤ v10 then (∃ (v12 : Int32) (M11 : ak_M), ab_lay M11 ∧ rn X 171 [.ref 483, .int x1, .int 3] M9 (.inl (some (.int v12)), M11) ∧ (∃ (v14 : Int32) (M13 : ak_M), ab_lay M13 ∧ rn X 316 [.int 300, .int (v12 + ((v2 * v8) + 0))] M11 (.inl (some (.int v14)), M13) ∧ (∃ (M15 : ak_M), ab_lay M15 ∧ rn X 172 [.ref 483, .int x1, .int 3, .int v14] M13 (.inl (none), M15) ∧ r = (.inl none, M15)))) else (∃ (v20 : Int32) (M19 : ak_M), ab_lay M19 ∧ rn X 174 [.ref 483, .int 2] M9 (.inl (some (.int v20)), M19) ∧ (∃ (v22 : Int32) (M21 : ak_M), ab_lay M21 ∧ rn X 171 [.ref 483, .int x1, .int 3] M19 (.inl (some (.int v22)), M21) ∧ (∃ (v24 : Int32) (M23 : ak_M), ab_lay M23 ∧ rn X 316 [.int 300, .int (v22 + ((v2 * v8) + v20))] M21 (.inl (some (.int v24)), M23) ∧ (∃ (M25 : ak_M), ab_lay M25 ∧ rn X 172 [.ref 483, .int x1, .int 3, .int v24] M23 (.inl (none), M25) ∧ r = (.inl none, M25)))))))))))) : rn X 207 [.ref 483, .int x1] M r := by
  refine w_rn (nL := 3) (l1 := [some (.ref 483), some (.int x1), none]) (by decide +kernel) rfl rfl ?_
  refine w_aload_n (n := 1) (i := 0) (by decide +kernel) rfl rfl ?_
  refine w_iconst (n := 2) (v := 1) (x := 1) (by decide +kernel) rfl (by decide) ?_
  obtain ⟨v2, M1, hLM1, hr35, h⟩ := h
  refine w_cV (n := 5) (idx := 173) (cal := 174) (na := 1) (nl := 2) (as := [.int 1]) (rest := []) hL (by decide +kernel) (by decide +kernel) (at_483) (by decide +kernel) rfl rfl rfl (Nat.le_of_ble_eq_true rfl) rfl hr35 ?_
  refine w_aload_n (n := 6) (i := 0) (by decide +kernel) rfl rfl ?_
  refine w_aload_n (n := 7) (i := 0) (by decide +kernel) rfl rfl ?_
  refine w_aload_n (n := 8) (i := 0) (by decide +kernel) rfl rfl ?_
  refine w_iload_n (n := 9) (i := 1) (by decide +kernel) rfl rfl ?_
  refine w_iconst (n := 10) (v := 3) (x := 3) (by decide +kernel) rfl (by decide) ?_
  obtain ⟨v4, M3, hLM3, hr34, h⟩ := h
  refine w_cV (n := 13) (idx := 92) (cal := 171) (na := 2) (nl := 3) (as := [.int x1, .int 3]) (rest := [.ref 483, .ref 483, .int v2]) hLM1 (by decide +kernel) (by decide +kernel) (at_483) (by decide +kernel) rfl rfl rfl (Nat.le_of_ble_eq_true rfl) rfl hr34 ?_
  obtain ⟨v6, M5, hLM5, hr33, h⟩ := h
  refine w_cV (n := 16) (idx := 188) (cal := 178) (na := 1) (nl := 2) (as := [.int v4]) (rest := [.ref 483, .int v2]) hLM3 (by decide +kernel) (by decide +kernel) (at_483) (by decide +kernel) rfl rfl rfl (Nat.le_of_ble_eq_true rfl) rfl hr33 ?_
  obtain ⟨v8, M7, hLM7, hr32, h⟩ := h
  refine w_cV (n := 19) (idx := 194) (cal := 179) (na := 1) (nl := 2) (as := [.int v6]) (rest := [.int v2]) hLM5 (by decide +kernel) (by decide +kernel) (at_483) (by decide +kernel) rfl rfl rfl (Nat.le_of_ble_eq_true rfl) rfl hr32 ?_
  refine w_imul (n := 20) (by decide +kernel) rfl ?_
  refine w_aload_n (n := 21) (i := 0) (by decide +kernel) rfl rfl ?_
  refine w_iload_n (n := 22) (i := 1) (by decide +kernel) rfl rfl ?_
  refine w_bipush (n := 24) (v := 7) (x := 7) (by decide +kernel) rfl (by decide) ?_
  obtain ⟨v10, M9, hLM9, hr31, h⟩ := h
  refine w_cV (n := 27) (idx := 92) (cal := 171) (na := 2) (nl := 3) (as := [.int x1, .int 7]) (rest := [.int (v2 * v8)]) hLM7 (by decide +kernel) (by decide +kernel) (at_483) (by decide +kernel) rfl rfl rfl (Nat.le_of_ble_eq_true rfl) rfl hr31 ?_
  by_cases c30 : 0 ≤ v10
  · rw [if_pos c30] at h
    refine w_if_ge_j (n := 38) (off := 11) (by decide +kernel) (by decide) c30 ?_
    refine w_iconst (n := 39) (v := 0) (x := 0) (by decide +kernel) rfl (by decide) ?_
    refine w_iadd (n := 40) (by decide +kernel) rfl ?_
    refine w_istore_n (n := 41) (i := 2) (l1' := [some (.ref 483), some (.int x1), some (.int ((v2 * v8) + 0))]) (l2' := []) (by decide +kernel) rfl (Nat.le_of_ble_eq_true rfl) rfl rfl ?_
    refine w_aload_n (n := 42) (i := 0) (by decide +kernel) rfl rfl ?_
    refine w_iload_n (n := 43) (i := 1) (by decide +kernel) rfl rfl ?_
    refine w_iconst (n := 44) (v := 3) (x := 3) (by decide +kernel) rfl (by decide) ?_
    refine w_sipush (n := 47) (v := 300) (x := 300) (by decide +kernel) rfl (by decide) ?_
    refine w_aload_n (n := 48) (i := 0) (by decide +kernel) rfl rfl ?_
    refine w_iload_n (n := 49) (i := 1) (by decide +kernel) rfl rfl ?_
    refine w_iconst (n := 50) (v := 3) (x := 3) (by decide +kernel) rfl (by decide) ?_
    obtain ⟨v12, M11, hLM11, hr18, h⟩ := h
    refine w_cV (n := 53) (idx := 92) (cal := 171) (na := 2) (nl := 3) (as := [.int x1, .int 3]) (rest := [.int 300, .int 3, .int x1, .ref 483]) hLM9 (by decide +kernel) (by decide +kernel) (at_483) (by decide +kernel) rfl rfl rfl (Nat.le_of_ble_eq_true rfl) rfl hr18 ?_
    refine w_iload_n (n := 54) (i := 2) (by decide +kernel) rfl rfl ?_
    refine w_iadd (n := 55) (by decide +kernel) rfl ?_
    obtain ⟨v14, M13, hLM13, hr17, h⟩ := h
    refine w_cS (n := 58) (idx := 176) (cal := 316) (na := 2) (nl := 2) (as := [.int 300, .int (v12 + ((v2 * v8) + 0))]) (rest := [.int 3, .int x1, .ref 483]) (by decide +kernel) (by decide +kernel) rfl rfl rfl (Nat.le_of_ble_eq_true rfl) rfl hr17 ?_
    obtain ⟨M15, hLM15, hr16, h⟩ := h
    refine w_cV (n := 61) (idx := 96) (cal := 172) (na := 3) (nl := 4) (as := [.int x1, .int 3, .int v14]) (rest := []) hLM13 (by decide +kernel) (by decide +kernel) (at_483) (by decide +kernel) rfl rfl rfl (Nat.le_of_ble_eq_true rfl) rfl hr16 ?_
    subst h
    exact w_vreturn (by decide +kernel) (by decide +kernel)
  · rw [if_neg c30] at h
    refine w_if_ge_n (n := 30) (off := 11) (by decide +kernel) rfl c30 ?_
    refine w_aload_n (n := 31) (i := 0) (by decide +kernel) rfl rfl ?_
    refine w_iconst (n := 32) (v := 2) (x := 2) (by decide +kernel) rfl (by decide) ?_
    obtain ⟨v20, M19, hLM19, hr29, h⟩ := h
    refine w_cV (n := 35) (idx := 173) (cal := 174) (na := 1) (nl := 2) (as := [.int 2]) (rest := [.int (v2 * v8)]) hLM9 (by decide +kernel) (by decide +kernel) (at_483) (by decide +kernel) rfl rfl rfl (Nat.le_of_ble_eq_true rfl) rfl hr29 ?_
    refine w_goto (n := 39) (off := 4) (by decide +kernel) (by decide) ?_
    refine w_iadd (n := 40) (by decide +kernel) rfl ?_
    refine w_istore_n (n := 41) (i := 2) (l1' := [some (.ref 483), some (.int x1), some (.int ((v2 * v8) + v20))]) (l2' := []) (by decide +kernel) rfl (Nat.le_of_ble_eq_true rfl) rfl rfl ?_
    refine w_aload_n (n := 42) (i := 0) (by decide +kernel) rfl rfl ?_
    refine w_iload_n (n := 43) (i := 1) (by decide +kernel) rfl rfl ?_
    refine w_iconst (n := 44) (v := 3) (x := 3) (by decide +kernel) rfl (by decide) ?_
    refine w_sipush (n := 47) (v := 300) (x := 300) (by decide +kernel) rfl (by decide) ?_
    refine w_aload_n (n := 48) (i := 0) (by decide +kernel) rfl rfl ?_
    refine w_iload_n (n := 49) (i := 1) (by decide +kernel) rfl rfl ?_
    refine w_iconst (n := 50) (v := 3) (x := 3) (by decide +kernel) rfl (by decide) ?_
    obtain ⟨v22, M21, hLM21, hr28, h⟩ := h
    refine w_cV (n := 53) (idx := 92) (cal := 171) (na := 2) (nl := 3) (as := [.int x1, .int 3]) (rest := [.int 300, .int 3, .int x1, .ref 483]) hLM19 (by decide +kernel) (by decide +kernel) (at_483) (by decide +kernel) rfl rfl rfl (Nat.le_of_ble_eq_true rfl) rfl hr28 ?_
    refine w_iload_n (n := 54) (i := 2) (by decide +kernel) rfl rfl ?_
    refine w_iadd (n := 55) (by decide +kernel) rfl ?_
    obtain ⟨v24, M23, hLM23, hr27, h⟩ := h
    refine w_cS (n := 58) (idx := 176) (cal := 316) (na := 2) (nl := 2) (as := [.int 300, .int (v22 + ((v2 * v8) + v20))]) (rest := [.int 3, .int x1, .ref 483]) (by decide +kernel) (by decide +kernel) rfl rfl rfl (Nat.le_of_ble_eq_true rfl) rfl hr27 ?_
    obtain ⟨M25, hLM25, hr26, h⟩ := h
    refine w_cV (n := 61) (idx := 96) (cal := 172) (na := 3) (nl := 4) (as := [.int x1, .int 3, .int v24]) (rest := []) hLM23 (by decide +kernel) (by decide +kernel) (at_483) (by decide +kernel) rfl rfl rfl (Nat.le_of_ble_eq_true rfl) rfl hr26 ?_
    subst h
    exact w_vreturn (by decide +kernel) (by decide +kernel)
theorem t_208 {X : ak_X} {M : ak_M} {r : ak_O × ak_M} (hL : ab_lay M) (x1 : Int32) (h : (∃ (v2 : Int32) (M1 : ak_M), ab_lay M1 ∧ rn X 185 [.ref 483, .int x1] M (.inl (some (.int v2)), M1) ∧ (if 0 ≤ v2 then r = (.inl none, M1) else (∃ (v4 : Int32) (M3 : ak_M), ab_lay M3 ∧ rn X 182 [.ref 483, .int x1] M1 (.inl (some (.int v4)), M3) ∧ (∃ (v6 : Int32) (M5 : ak_M), ab_lay M5 ∧ rn X 314 [.int v4] M3 (.inl (some (.int v6)), M5) ∧ (∃ (v8 : Int32) (M7 : ak_M), ab_lay M7 ∧ rn X 183 [.ref 483, .int x1] M5 (.inl (some (.int v8)), M7) ∧ (∃ (v10 : Int32) (M9 : ak_M), ab_lay M9 ∧ rn X 314 [.int v8] M7 (.inl (some (.int v10)), M9) ∧ (∃ (v12 : Int32) (M11 : ak_M), ab_lay M11 ∧ rn X 171 [.ref 483, .int x1, .int 3] M9 (.inl (some (.int v12)), M11) ∧ (if v12 < v6 then (if v6 < v10 then (∃ (v14 : Int32) (M13 : ak_M), ab_lay M13 ∧ rn X 183 [.ref 483, .int x1] M11 (.inl (some (.int v14)), M13) ∧ (∃ (v16 : Int32) (M15 : ak_M), ab_lay M15 ∧ rn X 189 [.int v14] M13 (.inl (some (.int v16)), M15) ∧ (∃ (M17 : ak_M), ab_lay M17 ∧ rn X 173 [.ref 483, .int x1, .int 2, .int (-v16)] M15 (.inl (none), M17) ∧ sg X 208 (0, [some (.ref 483), some (.int x1), some (.int v6), some (.int v10)], [], []) M17 r))) else (∃ (v22 : Int32) (M21 : ak_M), ab_lay M21 ∧ rn X 182 [.ref 483, .int x1] M11 (.inl (some (.int v22)), M21) ∧ (∃ (v24 : Int32) (M23 : ak_M), ab_lay M23 ∧ rn X 189 [.int v22] M21 (.inl (some (.int v24)), M23) ∧ (∃ (M25 : ak_M), ab_lay M25 ∧ rn X 173 [.ref 483, .int x1, .int 1, .int (-v24)] M23 (.inl (none), M25) ∧ sg X 208 (0, [some (.ref 483), some (.int x1), some (.int v6), some (.int v10)], [], []) M25 r)))) else (∃ (v31 : Int32) (M30 : ak_M), ab_lay M30 ∧ rn X 171 [.ref 483, .int x1, .int 3] M11 (.inl (some (.int v31)), M30) ∧ (if v31 < v10 then (if v6 < v10 then (∃ (v33 : Int32) (M32 : ak_M), ab_lay M32 ∧ rn X 183 [.ref 483, .int x1] M30 (.inl (some (.int v33)), M32) ∧ (∃ (v35 : Int32) (M34 : ak_M), ab_lay M34 ∧ rn X 189 [.int v33] M32 (.inl (some (.int v35)), M34) ∧ (∃ (M36 : ak_M), ab_lay M36 ∧ rn X 173 [.ref 483, .int x1, .int 2, .int (-v35)] M34 (.inl (none), M36) ∧ sg X 208 (0, [some (.ref 483), some (.int x1), some (.int v6), some (.int v10)], [], []) M36 r))) else (∃ (v41 : Int32) (M40 : ak_M), ab_lay M40 ∧ rn X 182 [.ref 483, .int x1] M30 (.inl (some (.int v41)), M40) ∧ (∃ (v43 : Int32) (M42 : ak_M), ab_lay M42 ∧ rn X 189 [.int v41] M40 (.inl (some (.int v43)), M42) ∧ (∃ (M44 : ak_M), ab_lay M44 ∧ rn X 173 [.ref 483, .int x1, .int 1, .int (-v43)] M42 (.inl (none), M44) ∧ sg X 208 (0, [some (.ref 483), some (.int x1), some (.int v6), some (.int v10)], [], []) M44 r)))) else (∃ (M49 : ak_M), ab_lay M49 ∧ rn X 173 [.ref 483, .int x1, .int 3, .int ((-1))] M30 (.inl (none), M49) ∧ sg X 208 (0, [some (.ref 483), some (.int x1), some (.int v6), some (.int v10)], [], []) M49 r)))))))))))) : rn X 208 [.ref 483, .int x1] M r := by
  refine w_rn (nL := 4) (l1 := [some (.ref 483), some (.int x1), none, none]) (by decide +kernel) rfl rfl ?_
  refine w_aload_n (n := 1) (i := 0) (by decide +kernel) rfl rfl ?_
  refine w_iload_n (n := 2) (i := 1) (by decide +kernel) rfl rfl ?_
  obtain ⟨v2, M1, hLM1, hr60, h⟩ := h
  refine w_cV (n := 5) (idx := 161) (cal := 185) (na := 1) (nl := 2) (as := [.int x1]) (rest := []) hL (by decide +kernel) (by decide +kernel) (at_483) (by decide +kernel) rfl rfl rfl (Nat.le_of_ble_eq_true rfl) rfl hr60 ?_
  by_cases c59 : 0 ≤ v2
  · rw [if_pos c59] at h
    refine w_if_ge_j (n := 97) (off := 92) (by decide +kernel) (by decide) c59 ?_
    subst h
    exact w_vreturn (by decide +kernel) (by decide +kernel)
  · rw [if_neg c59] at h
    refine w_if_ge_n (n := 8) (off := 92) (by decide +kernel) rfl c59 ?_
    refine w_aload_n (n := 9) (i := 0) (by decide +kernel) rfl rfl ?_
    refine w_iload_n (n := 10) (i := 1) (by decide +kernel) rfl rfl ?_
    obtain ⟨v4, M3, hLM3, hr58, h⟩ := h
    refine w_cV (n := 13) (idx := 114) (cal := 182) (na := 1) (nl := 2) (as := [.int x1]) (rest := []) hLM1 (by decide +kernel) (by decide +kernel) (at_483) (by decide +kernel) rfl rfl rfl (Nat.le_of_ble_eq_true rfl) rfl hr58 ?_
    obtain ⟨v6, M5, hLM5, hr57, h⟩ := h
    refine w_cS (n := 16) (idx := 105) (cal := 314) (na := 1) (nl := 1) (as := [.int v4]) (rest := []) (by decide +kernel) (by decide +kernel) rfl rfl rfl (Nat.le_of_ble_eq_true rfl) rfl hr57 ?_
    refine w_istore_n (n := 17) (i := 2) (l1' := [some (.ref 483), some (.int x1), some (.int v6), none]) (l2' := []) (by decide +kernel) rfl (Nat.le_of_ble_eq_true rfl) rfl rfl ?_
    refine w_aload_n (n := 18) (i := 0) (by decide +kernel) rfl rfl ?_
    refine w_iload_n (n := 19) (i := 1) (by decide +kernel) rfl rfl ?_
    obtain ⟨v8, M7, hLM7, hr56, h⟩ := h
    refine w_cV (n := 22) (idx := 117) (cal := 183) (na := 1) (nl := 2) (as := [.int x1]) (rest := []) hLM5 (by decide +kernel) (by decide +kernel) (at_483) (by decide +kernel) rfl rfl rfl (Nat.le_of_ble_eq_true rfl) rfl hr56 ?_
    obtain ⟨v10, M9, hLM9, hr55, h⟩ := h
    refine w_cS (n := 25) (idx := 105) (cal := 314) (na := 1) (nl := 1) (as := [.int v8]) (rest := []) (by decide +kernel) (by decide +kernel) rfl rfl rfl (Nat.le_of_ble_eq_true rfl) rfl hr55 ?_
    refine w_istore_n (n := 26) (i := 3) (l1' := [some (.ref 483), some (.int x1), some (.int v6), some (.int v10)]) (l2' := []) (by decide +kernel) rfl (Nat.le_of_ble_eq_true rfl) rfl rfl ?_
    refine w_aload_n (n := 27) (i := 0) (by decide +kernel) rfl rfl ?_
    refine w_iload_n (n := 28) (i := 1) (by decide +kernel) rfl rfl ?_
    refine w_iconst (n := 29) (v := 3) (x := 3) (by decide +kernel) rfl (by decide) ?_
    obtain ⟨v12, M11, hLM11, hr54, h⟩ := h
    refine w_cV (n := 32) (idx := 92) (cal := 171) (na := 2) (nl := 3) (as := [.int x1, .int 3]) (rest := []) hLM9 (by decide +kernel) (by decide +kernel) (at_483) (by decide +kernel) rfl rfl rfl (Nat.le_of_ble_eq_true rfl) rfl hr54 ?_
    refine w_iload_n (n := 33) (i := 2) (by decide +kernel) rfl rfl ?_
    by_cases c53 : v12 < v6
    · rw [if_pos c53] at h
      refine w_icmp_lt_j (n := 56) (off := 23) (by decide +kernel) (by decide) c53 ?_
      refine w_iload_n (n := 57) (i := 2) (by decide +kernel) rfl rfl ?_
      refine w_iload_n (n := 58) (i := 3) (by decide +kernel) rfl rfl ?_
      by_cases c29 : v6 < v10
      · rw [if_pos c29] at h
        refine w_icmp_lt_j (n := 79) (off := 21) (by decide +kernel) (by decide) c29 ?_
        refine w_aload_n (n := 80) (i := 0) (by decide +kernel) rfl rfl ?_
        refine w_iload_n (n := 81) (i := 1) (by decide +kernel) rfl rfl ?_
        refine w_iconst (n := 82) (v := 2) (x := 2) (by decide +kernel) rfl (by decide) ?_
        refine w_aload_n (n := 83) (i := 0) (by decide +kernel) rfl rfl ?_
        refine w_iload_n (n := 84) (i := 1) (by decide +kernel) rfl rfl ?_
        obtain ⟨v14, M13, hLM13, hr20, h⟩ := h
        refine w_cV (n := 87) (idx := 117) (cal := 183) (na := 1) (nl := 2) (as := [.int x1]) (rest := [.int 2, .int x1, .ref 483]) hLM11 (by decide +kernel) (by decide +kernel) (at_483) (by decide +kernel) rfl rfl rfl (Nat.le_of_ble_eq_true rfl) rfl hr20 ?_
        obtain ⟨v16, M15, hLM15, hr19, h⟩ := h
        refine w_cS (n := 90) (idx := 138) (cal := 189) (na := 1) (nl := 1) (as := [.int v14]) (rest := [.int 2, .int x1, .ref 483]) (by decide +kernel) (by decide +kernel) rfl rfl rfl (Nat.le_of_ble_eq_true rfl) rfl hr19 ?_
        refine w_ineg (n := 91) (by decide +kernel) rfl ?_
        obtain ⟨M17, hLM17, hr18, h⟩ := h
        refine w_cV (n := 94) (idx := 197) (cal := 173) (na := 3) (nl := 4) (as := [.int x1, .int 2, .int (-v16)]) (rest := []) hLM15 (by decide +kernel) (by decide +kernel) (at_483) (by decide +kernel) rfl rfl rfl (Nat.le_of_ble_eq_true rfl) rfl hr18 ?_
        refine w_goto (n := 0) (off := (-94)) (by decide +kernel) (by decide) ?_
        exact h
      · rw [if_neg c29] at h
        refine w_icmp_lt_n (n := 61) (off := 21) (by decide +kernel) rfl c29 ?_
        refine w_aload_n (n := 62) (i := 0) (by decide +kernel) rfl rfl ?_
        refine w_iload_n (n := 63) (i := 1) (by decide +kernel) rfl rfl ?_
        refine w_iconst (n := 64) (v := 1) (x := 1) (by decide +kernel) rfl (by decide) ?_
        refine w_aload_n (n := 65) (i := 0) (by decide +kernel) rfl rfl ?_
        refine w_iload_n (n := 66) (i := 1) (by decide +kernel) rfl rfl ?_
        obtain ⟨v22, M21, hLM21, hr28, h⟩ := h
        refine w_cV (n := 69) (idx := 114) (cal := 182) (na := 1) (nl := 2) (as := [.int x1]) (rest := [.int 1, .int x1, .ref 483]) hLM11 (by decide +kernel) (by decide +kernel) (at_483) (by decide +kernel) rfl rfl rfl (Nat.le_of_ble_eq_true rfl) rfl hr28 ?_
        obtain ⟨v24, M23, hLM23, hr27, h⟩ := h
        refine w_cS (n := 72) (idx := 138) (cal := 189) (na := 1) (nl := 1) (as := [.int v22]) (rest := [.int 1, .int x1, .ref 483]) (by decide +kernel) (by decide +kernel) rfl rfl rfl (Nat.le_of_ble_eq_true rfl) rfl hr27 ?_
        refine w_ineg (n := 73) (by decide +kernel) rfl ?_
        obtain ⟨M25, hLM25, hr26, h⟩ := h
        refine w_cV (n := 76) (idx := 197) (cal := 173) (na := 3) (nl := 4) (as := [.int x1, .int 1, .int (-v24)]) (rest := []) hLM23 (by decide +kernel) (by decide +kernel) (at_483) (by decide +kernel) rfl rfl rfl (Nat.le_of_ble_eq_true rfl) rfl hr26 ?_
        refine w_goto (n := 94) (off := 18) (by decide +kernel) (by decide) ?_
        refine w_goto (n := 0) (off := (-94)) (by decide +kernel) (by decide) ?_
        exact h
    · rw [if_neg c53] at h
      refine w_icmp_lt_n (n := 36) (off := 23) (by decide +kernel) rfl c53 ?_
      refine w_aload_n (n := 37) (i := 0) (by decide +kernel) rfl rfl ?_
      refine w_iload_n (n := 38) (i := 1) (by decide +kernel) rfl rfl ?_
      refine w_iconst (n := 39) (v := 3) (x := 3) (by decide +kernel) rfl (by decide) ?_
      obtain ⟨v31, M30, hLM30, hr52, h⟩ := h
      refine w_cV (n := 42) (idx := 92) (cal := 171) (na := 2) (nl := 3) (as := [.int x1, .int 3]) (rest := []) hLM11 (by decide +kernel) (by decide +kernel) (at_483) (by decide +kernel) rfl rfl rfl (Nat.le_of_ble_eq_true rfl) rfl hr52 ?_
      refine w_iload_n (n := 43) (i := 3) (by decide +kernel) rfl rfl ?_
      by_cases c51 : v31 < v10
      · rw [if_pos c51] at h
        refine w_icmp_lt_j (n := 56) (off := 13) (by decide +kernel) (by decide) c51 ?_
        refine w_iload_n (n := 57) (i := 2) (by decide +kernel) rfl rfl ?_
        refine w_iload_n (n := 58) (i := 3) (by decide +kernel) rfl rfl ?_
        by_cases c48 : v6 < v10
        · rw [if_pos c48] at h
          refine w_icmp_lt_j (n := 79) (off := 21) (by decide +kernel) (by decide) c48 ?_
          refine w_aload_n (n := 80) (i := 0) (by decide +kernel) rfl rfl ?_
          refine w_iload_n (n := 81) (i := 1) (by decide +kernel) rfl rfl ?_
          refine w_iconst (n := 82) (v := 2) (x := 2) (by decide +kernel) rfl (by decide) ?_
          refine w_aload_n (n := 83) (i := 0) (by decide +kernel) rfl rfl ?_
          refine w_iload_n (n := 84) (i := 1) (by decide +kernel) rfl rfl ?_
          obtain ⟨v33, M32, hLM32, hr39, h⟩ := h
          refine w_cV (n := 87) (idx := 117) (cal := 183) (na := 1) (nl := 2) (as := [.int x1]) (rest := [.int 2, .int x1, .ref 483]) hLM30 (by decide +kernel) (by decide +kernel) (at_483) (by decide +kernel) rfl rfl rfl (Nat.le_of_ble_eq_true rfl) rfl hr39 ?_
          obtain ⟨v35, M34, hLM34, hr38, h⟩ := h
          refine w_cS (n := 90) (idx := 138) (cal := 189) (na := 1) (nl := 1) (as := [.int v33]) (rest := [.int 2, .int x1, .ref 483]) (by decide +kernel) (by decide +kernel) rfl rfl rfl (Nat.le_of_ble_eq_true rfl) rfl hr38 ?_
          refine w_ineg (n := 91) (by decide +kernel) rfl ?_
          obtain ⟨M36, hLM36, hr37, h⟩ := h
          refine w_cV (n := 94) (idx := 197) (cal := 173) (na := 3) (nl := 4) (as := [.int x1, .int 2, .int (-v35)]) (rest := []) hLM34 (by decide +kernel) (by decide +kernel) (at_483) (by decide +kernel) rfl rfl rfl (Nat.le_of_ble_eq_true rfl) rfl hr37 ?_
          refine w_goto (n := 0) (off := (-94)) (by decide +kernel) (by decide) ?_
          exact h
        · rw [if_neg c48] at h
          refine w_icmp_lt_n (n := 61) (off := 21) (by decide +kernel) rfl c48 ?_
          refine w_aload_n (n := 62) (i := 0) (by decide +kernel) rfl rfl ?_
          refine w_iload_n (n := 63) (i := 1) (by decide +kernel) rfl rfl ?_
          refine w_iconst (n := 64) (v := 1) (x := 1) (by decide +kernel) rfl (by decide) ?_
          refine w_aload_n (n := 65) (i := 0) (by decide +kernel) rfl rfl ?_
          refine w_iload_n (n := 66) (i := 1) (by decide +kernel) rfl rfl ?_
          obtain ⟨v41, M40, hLM40, hr47, h⟩ := h
          refine w_cV (n := 69) (idx := 114) (cal := 182) (na := 1) (nl := 2) (as := [.int x1]) (rest := [.int 1, .int x1, .ref 483]) hLM30 (by decide +kernel) (by decide +kernel) (at_483) (by decide +kernel) rfl rfl rfl (Nat.le_of_ble_eq_true rfl) rfl hr47 ?_
          obtain ⟨v43, M42, hLM42, hr46, h⟩ := h
          refine w_cS (n := 72) (idx := 138) (cal := 189) (na := 1) (nl := 1) (as := [.int v41]) (rest := [.int 1, .int x1, .ref 483]) (by decide +kernel) (by decide +kernel) rfl rfl rfl (Nat.le_of_ble_eq_true rfl) rfl hr46 ?_
          refine w_ineg (n := 73) (by decide +kernel) rfl ?_
          obtain ⟨M44, hLM44, hr45, h⟩ := h
          refine w_cV (n := 76) (idx := 197) (cal := 173) (na := 3) (nl := 4) (as := [.int x1, .int 1, .int (-v43)]) (rest := []) hLM42 (by decide +kernel) (by decide +kernel) (at_483) (by decide +kernel) rfl rfl rfl (Nat.le_of_ble_eq_true rfl) rfl hr45 ?_
          refine w_goto (n := 94) (off := 18) (by decide +kernel) (by decide) ?_
          refine w_goto (n := 0) (off := (-94)) (by decide +kernel) (by decide) ?_
          exact h
      · rw [if_neg c51] at h
        refine w_icmp_lt_n (n := 46) (off := 13) (by decide +kernel) rfl c51 ?_
        refine w_aload_n (n := 47) (i := 0) (by decide +kernel) rfl rfl ?_
        refine w_iload_n (n := 48) (i := 1) (by decide +kernel) rfl rfl ?_
        refine w_iconst (n := 49) (v := 3) (x := 3) (by decide +kernel) rfl (by decide) ?_
        refine w_iconst (n := 50) (v := -1) (x := (-1)) (by decide +kernel) rfl (by decide) ?_
        obtain ⟨M49, hLM49, hr50, h⟩ := h
        refine w_cV (n := 53) (idx := 197) (cal := 173) (na := 3) (nl := 4) (as := [.int x1, .int 3, .int ((-1))]) (rest := []) hLM30 (by decide +kernel) (by decide +kernel) (at_483) (by decide +kernel) rfl rfl rfl (Nat.le_of_ble_eq_true rfl) rfl hr50 ?_
        refine w_goto (n := 94) (off := 41) (by decide +kernel) (by decide) ?_
        refine w_goto (n := 0) (off := (-94)) (by decide +kernel) (by decide) ?_
        exact h
theorem t_208_0 {X : ak_X} {M : ak_M} {r : ak_O × ak_M} (hL : ab_lay M) (x1 : Int32) (o2 : Option Value) (o3 : Option Value) (h : (∃ (v62 : Int32) (M61 : ak_M), ab_lay M61 ∧ rn X 185 [.ref 483, .int x1] M (.inl (some (.int v62)), M61) ∧ (if 0 ≤ v62 then r = (.inl none, M61) else (∃ (v64 : Int32) (M63 : ak_M), ab_lay M63 ∧ rn X 182 [.ref 483, .int x1] M61 (.inl (some (.int v64)), M63) ∧ (∃ (v66 : Int32) (M65 : ak_M), ab_lay M65 ∧ rn X 314 [.int v64] M63 (.inl (some (.int v66)), M65) ∧ (∃ (v68 : Int32) (M67 : ak_M), ab_lay M67 ∧ rn X 183 [.ref 483, .int x1] M65 (.inl (some (.int v68)), M67) ∧ (∃ (v70 : Int32) (M69 : ak_M), ab_lay M69 ∧ rn X 314 [.int v68] M67 (.inl (some (.int v70)), M69) ∧ (∃ (v72 : Int32) (M71 : ak_M), ab_lay M71 ∧ rn X 171 [.ref 483, .int x1, .int 3] M69 (.inl (some (.int v72)), M71) ∧ (if v72 < v66 then (if v66 < v70 then (∃ (v74 : Int32) (M73 : ak_M), ab_lay M73 ∧ rn X 183 [.ref 483, .int x1] M71 (.inl (some (.int v74)), M73) ∧ (∃ (v76 : Int32) (M75 : ak_M), ab_lay M75 ∧ rn X 189 [.int v74] M73 (.inl (some (.int v76)), M75) ∧ (∃ (M77 : ak_M), ab_lay M77 ∧ rn X 173 [.ref 483, .int x1, .int 2, .int (-v76)] M75 (.inl (none), M77) ∧ sg X 208 (0, [some (.ref 483), some (.int x1), some (.int v66), some (.int v70)], [], []) M77 r))) else (∃ (v82 : Int32) (M81 : ak_M), ab_lay M81 ∧ rn X 182 [.ref 483, .int x1] M71 (.inl (some (.int v82)), M81) ∧ (∃ (v84 : Int32) (M83 : ak_M), ab_lay M83 ∧ rn X 189 [.int v82] M81 (.inl (some (.int v84)), M83) ∧ (∃ (M85 : ak_M), ab_lay M85 ∧ rn X 173 [.ref 483, .int x1, .int 1, .int (-v84)] M83 (.inl (none), M85) ∧ sg X 208 (0, [some (.ref 483), some (.int x1), some (.int v66), some (.int v70)], [], []) M85 r)))) else (∃ (v91 : Int32) (M90 : ak_M), ab_lay M90 ∧ rn X 171 [.ref 483, .int x1, .int 3] M71 (.inl (some (.int v91)), M90) ∧ (if v91 < v70 then (if v66 < v70 then (∃ (v93 : Int32) (M92 : ak_M), ab_lay M92 ∧ rn X 183 [.ref 483, .int x1] M90 (.inl (some (.int v93)), M92) ∧ (∃ (v95 : Int32) (M94 : ak_M), ab_lay M94 ∧ rn X 189 [.int v93] M92 (.inl (some (.int v95)), M94) ∧ (∃ (M96 : ak_M), ab_lay M96 ∧ rn X 173 [.ref 483, .int x1, .int 2, .int (-v95)] M94 (.inl (none), M96) ∧ sg X 208 (0, [some (.ref 483), some (.int x1), some (.int v66), some (.int v70)], [], []) M96 r))) else (∃ (v101 : Int32) (M100 : ak_M), ab_lay M100 ∧ rn X 182 [.ref 483, .int x1] M90 (.inl (some (.int v101)), M100) ∧ (∃ (v103 : Int32) (M102 : ak_M), ab_lay M102 ∧ rn X 189 [.int v101] M100 (.inl (some (.int v103)), M102) ∧ (∃ (M104 : ak_M), ab_lay M104 ∧ rn X 173 [.ref 483, .int x1, .int 1, .int (-v103)] M102 (.inl (none), M104) ∧ sg X 208 (0, [some (.ref 483), some (.int x1), some (.int v66), some (.int v70)], [], []) M104 r)))) else (∃ (M109 : ak_M), ab_lay M109 ∧ rn X 173 [.ref 483, .int x1, .int 3, .int ((-1))] M90 (.inl (none), M109) ∧ sg X 208 (0, [some (.ref 483), some (.int x1), some (.int v66), some (.int v70)], [], []) M109 r)))))))))))) : sg X 208 (0, [some (.ref 483), some (.int x1), o2, o3], [], []) M r := by
  refine w_aload_n (n := 1) (i := 0) (by decide +kernel) rfl rfl ?_
  refine w_iload_n (n := 2) (i := 1) (by decide +kernel) rfl rfl ?_
  obtain ⟨v62, M61, hLM61, hr120, h⟩ := h
  refine w_cV (n := 5) (idx := 161) (cal := 185) (na := 1) (nl := 2) (as := [.int x1]) (rest := []) hL (by decide +kernel) (by decide +kernel) (at_483) (by decide +kernel) rfl rfl rfl (Nat.le_of_ble_eq_true rfl) rfl hr120 ?_
  by_cases c119 : 0 ≤ v62
  · rw [if_pos c119] at h
    refine w_if_ge_j (n := 97) (off := 92) (by decide +kernel) (by decide) c119 ?_
    subst h
    exact w_vreturn (by decide +kernel) (by decide +kernel)
  · rw [if_neg c119] at h
    refine w_if_ge_n (n := 8) (off := 92) (by decide +kernel) rfl c119 ?_
    refine w_aload_n (n := 9) (i := 0) (by decide +kernel) rfl rfl ?_
    refine w_iload_n (n := 10) (i := 1) (by decide +kernel) rfl rfl ?_
    obtain ⟨v64, M63, hLM63, hr118, h⟩ := h
    refine w_cV (n := 13) (idx := 114) (cal := 182) (na := 1) (nl := 2) (as := [.int x1]) (rest := []) hLM61 (by decide +kernel) (by decide +kernel) (at_483) (by decide +kernel) rfl rfl rfl (Nat.le_of_ble_eq_true rfl) rfl hr118 ?_
    obtain ⟨v66, M65, hLM65, hr117, h⟩ := h
    refine w_cS (n := 16) (idx := 105) (cal := 314) (na := 1) (nl := 1) (as := [.int v64]) (rest := []) (by decide +kernel) (by decide +kernel) rfl rfl rfl (Nat.le_of_ble_eq_true rfl) rfl hr117 ?_
    refine w_istore_n (n := 17) (i := 2) (l1' := [some (.ref 483), some (.int x1), some (.int v66), o3]) (l2' := []) (by decide +kernel) rfl (Nat.le_of_ble_eq_true rfl) rfl rfl ?_
    refine w_aload_n (n := 18) (i := 0) (by decide +kernel) rfl rfl ?_
    refine w_iload_n (n := 19) (i := 1) (by decide +kernel) rfl rfl ?_
    obtain ⟨v68, M67, hLM67, hr116, h⟩ := h
    refine w_cV (n := 22) (idx := 117) (cal := 183) (na := 1) (nl := 2) (as := [.int x1]) (rest := []) hLM65 (by decide +kernel) (by decide +kernel) (at_483) (by decide +kernel) rfl rfl rfl (Nat.le_of_ble_eq_true rfl) rfl hr116 ?_
    obtain ⟨v70, M69, hLM69, hr115, h⟩ := h
    refine w_cS (n := 25) (idx := 105) (cal := 314) (na := 1) (nl := 1) (as := [.int v68]) (rest := []) (by decide +kernel) (by decide +kernel) rfl rfl rfl (Nat.le_of_ble_eq_true rfl) rfl hr115 ?_
    refine w_istore_n (n := 26) (i := 3) (l1' := [some (.ref 483), some (.int x1), some (.int v66), some (.int v70)]) (l2' := []) (by decide +kernel) rfl (Nat.le_of_ble_eq_true rfl) rfl rfl ?_
    refine w_aload_n (n := 27) (i := 0) (by decide +kernel) rfl rfl ?_
    refine w_iload_n (n := 28) (i := 1) (by decide +kernel) rfl rfl ?_
    refine w_iconst (n := 29) (v := 3) (x := 3) (by decide +kernel) rfl (by decide) ?_
    obtain ⟨v72, M71, hLM71, hr114, h⟩ := h
    refine w_cV (n := 32) (idx := 92) (cal := 171) (na := 2) (nl := 3) (as := [.int x1, .int 3]) (rest := []) hLM69 (by decide +kernel) (by decide +kernel) (at_483) (by decide +kernel) rfl rfl rfl (Nat.le_of_ble_eq_true rfl) rfl hr114 ?_
    refine w_iload_n (n := 33) (i := 2) (by decide +kernel) rfl rfl ?_
    by_cases c113 : v72 < v66
    · rw [if_pos c113] at h
      refine w_icmp_lt_j (n := 56) (off := 23) (by decide +kernel) (by decide) c113 ?_
      refine w_iload_n (n := 57) (i := 2) (by decide +kernel) rfl rfl ?_
      refine w_iload_n (n := 58) (i := 3) (by decide +kernel) rfl rfl ?_
      by_cases c89 : v66 < v70
      · rw [if_pos c89] at h
        refine w_icmp_lt_j (n := 79) (off := 21) (by decide +kernel) (by decide) c89 ?_
        refine w_aload_n (n := 80) (i := 0) (by decide +kernel) rfl rfl ?_
        refine w_iload_n (n := 81) (i := 1) (by decide +kernel) rfl rfl ?_
        refine w_iconst (n := 82) (v := 2) (x := 2) (by decide +kernel) rfl (by decide) ?_
        refine w_aload_n (n := 83) (i := 0) (by decide +kernel) rfl rfl ?_
        refine w_iload_n (n := 84) (i := 1) (by decide +kernel) rfl rfl ?_
        obtain ⟨v74, M73, hLM73, hr80, h⟩ := h
        refine w_cV (n := 87) (idx := 117) (cal := 183) (na := 1) (nl := 2) (as := [.int x1]) (rest := [.int 2, .int x1, .ref 483]) hLM71 (by decide +kernel) (by decide +kernel) (at_483) (by decide +kernel) rfl rfl rfl (Nat.le_of_ble_eq_true rfl) rfl hr80 ?_
        obtain ⟨v76, M75, hLM75, hr79, h⟩ := h
        refine w_cS (n := 90) (idx := 138) (cal := 189) (na := 1) (nl := 1) (as := [.int v74]) (rest := [.int 2, .int x1, .ref 483]) (by decide +kernel) (by decide +kernel) rfl rfl rfl (Nat.le_of_ble_eq_true rfl) rfl hr79 ?_
        refine w_ineg (n := 91) (by decide +kernel) rfl ?_
        obtain ⟨M77, hLM77, hr78, h⟩ := h
        refine w_cV (n := 94) (idx := 197) (cal := 173) (na := 3) (nl := 4) (as := [.int x1, .int 2, .int (-v76)]) (rest := []) hLM75 (by decide +kernel) (by decide +kernel) (at_483) (by decide +kernel) rfl rfl rfl (Nat.le_of_ble_eq_true rfl) rfl hr78 ?_
        refine w_goto (n := 0) (off := (-94)) (by decide +kernel) (by decide) ?_
        exact h
      · rw [if_neg c89] at h
        refine w_icmp_lt_n (n := 61) (off := 21) (by decide +kernel) rfl c89 ?_
        refine w_aload_n (n := 62) (i := 0) (by decide +kernel) rfl rfl ?_
        refine w_iload_n (n := 63) (i := 1) (by decide +kernel) rfl rfl ?_
        refine w_iconst (n := 64) (v := 1) (x := 1) (by decide +kernel) rfl (by decide) ?_
        refine w_aload_n (n := 65) (i := 0) (by decide +kernel) rfl rfl ?_
        refine w_iload_n (n := 66) (i := 1) (by decide +kernel) rfl rfl ?_
        obtain ⟨v82, M81, hLM81, hr88, h⟩ := h
        refine w_cV (n := 69) (idx := 114) (cal := 182) (na := 1) (nl := 2) (as := [.int x1]) (rest := [.int 1, .int x1, .ref 483]) hLM71 (by decide +kernel) (by decide +kernel) (at_483) (by decide +kernel) rfl rfl rfl (Nat.le_of_ble_eq_true rfl) rfl hr88 ?_
        obtain ⟨v84, M83, hLM83, hr87, h⟩ := h
        refine w_cS (n := 72) (idx := 138) (cal := 189) (na := 1) (nl := 1) (as := [.int v82]) (rest := [.int 1, .int x1, .ref 483]) (by decide +kernel) (by decide +kernel) rfl rfl rfl (Nat.le_of_ble_eq_true rfl) rfl hr87 ?_
        refine w_ineg (n := 73) (by decide +kernel) rfl ?_
        obtain ⟨M85, hLM85, hr86, h⟩ := h
        refine w_cV (n := 76) (idx := 197) (cal := 173) (na := 3) (nl := 4) (as := [.int x1, .int 1, .int (-v84)]) (rest := []) hLM83 (by decide +kernel) (by decide +kernel) (at_483) (by decide +kernel) rfl rfl rfl (Nat.le_of_ble_eq_true rfl) rfl hr86 ?_
        refine w_goto (n := 94) (off := 18) (by decide +kernel) (by decide) ?_
        refine w_goto (n := 0) (off := (-94)) (by decide +kernel) (by decide) ?_
        exact h
    · rw [if_neg c113] at h
      refine w_icmp_lt_n (n := 36) (off := 23) (by decide +kernel) rfl c113 ?_
      refine w_aload_n (n := 37) (i := 0) (by decide +kernel) rfl rfl ?_
      refine w_iload_n (n := 38) (i := 1) (by decide +kernel) rfl rfl ?_
      refine w_iconst (n := 39) (v := 3) (x := 3) (by decide +kernel) rfl (by decide) ?_
      obtain ⟨v91, M90, hLM90, hr112, h⟩ := h
      refine w_cV (n := 42) (idx := 92) (cal := 171) (na := 2) (nl := 3) (as := [.int x1, .int 3]) (rest := []) hLM71 (by decide +kernel) (by decide +kernel) (at_483) (by decide +kernel) rfl rfl rfl (Nat.le_of_ble_eq_true rfl) rfl hr112 ?_
      refine w_iload_n (n := 43) (i := 3) (by decide +kernel) rfl rfl ?_
      by_cases c111 : v91 < v70
      · rw [if_pos c111] at h
        refine w_icmp_lt_j (n := 56) (off := 13) (by decide +kernel) (by decide) c111 ?_
        refine w_iload_n (n := 57) (i := 2) (by decide +kernel) rfl rfl ?_
        refine w_iload_n (n := 58) (i := 3) (by decide +kernel) rfl rfl ?_
        by_cases c108 : v66 < v70
        · rw [if_pos c108] at h
          refine w_icmp_lt_j (n := 79) (off := 21) (by decide +kernel) (by decide) c108 ?_
          refine w_aload_n (n := 80) (i := 0) (by decide +kernel) rfl rfl ?_
          refine w_iload_n (n := 81) (i := 1) (by decide +kernel) rfl rfl ?_
          refine w_iconst (n := 82) (v := 2) (x := 2) (by decide +kernel) rfl (by decide) ?_
          refine w_aload_n (n := 83) (i := 0) (by decide +kernel) rfl rfl ?_
          refine w_iload_n (n := 84) (i := 1) (by decide +kernel) rfl rfl ?_
          obtain ⟨v93, M92, hLM92, hr99, h⟩ := h
          refine w_cV (n := 87) (idx := 117) (cal := 183) (na := 1) (nl := 2) (as := [.int x1]) (rest := [.int 2, .int x1, .ref 483]) hLM90 (by decide +kernel) (by decide +kernel) (at_483) (by decide +kernel) rfl rfl rfl (Nat.le_of_ble_eq_true rfl) rfl hr99 ?_
          obtain ⟨v95, M94, hLM94, hr98, h⟩ := h
          refine w_cS (n := 90) (idx := 138) (cal := 189) (na := 1) (nl := 1) (as := [.int v93]) (rest := [.int 2, .int x1, .ref 483]) (by decide +kernel) (by decide +kernel) rfl rfl rfl (Nat.le_of_ble_eq_true rfl) rfl hr98 ?_
          refine w_ineg (n := 91) (by decide +kernel) rfl ?_
          obtain ⟨M96, hLM96, hr97, h⟩ := h
          refine w_cV (n := 94) (idx := 197) (cal := 173) (na := 3) (nl := 4) (as := [.int x1, .int 2, .int (-v95)]) (rest := []) hLM94 (by decide +kernel) (by decide +kernel) (at_483) (by decide +kernel) rfl rfl rfl (Nat.le_of_ble_eq_true rfl) rfl hr97 ?_
          refine w_goto (n := 0) (off := (-94)) (by decide +kernel) (by decide) ?_
          exact h
        · rw [if_neg c108] at h
          refine w_icmp_lt_n (n := 61) (off := 21) (by decide +kernel) rfl c108 ?_
          refine w_aload_n (n := 62) (i := 0) (by decide +kernel) rfl rfl ?_
          refine w_iload_n (n := 63) (i := 1) (by decide +kernel) rfl rfl ?_
          refine w_iconst (n := 64) (v := 1) (x := 1) (by decide +kernel) rfl (by decide) ?_
          refine w_aload_n (n := 65) (i := 0) (by decide +kernel) rfl rfl ?_
          refine w_iload_n (n := 66) (i := 1) (by decide +kernel) rfl rfl ?_
          obtain ⟨v101, M100, hLM100, hr107, h⟩ := h
          refine w_cV (n := 69) (idx := 114) (cal := 182) (na := 1) (nl := 2) (as := [.int x1]) (rest := [.int 1, .int x1, .ref 483]) hLM90 (by decide +kernel) (by decide +kernel) (at_483) (by decide +kernel) rfl rfl rfl (Nat.le_of_ble_eq_true rfl) rfl hr107 ?_
          obtain ⟨v103, M102, hLM102, hr106, h⟩ := h
          refine w_cS (n := 72) (idx := 138) (cal := 189) (na := 1) (nl := 1) (as := [.int v101]) (rest := [.int 1, .int x1, .ref 483]) (by decide +kernel) (by decide +kernel) rfl rfl rfl (Nat.le_of_ble_eq_true rfl) rfl hr106 ?_
          refine w_ineg (n := 73) (by decide +kernel) rfl ?_
          obtain ⟨M104, hLM104, hr105, h⟩ := h
          refine w_cV (n := 76) (idx := 197) (cal := 173) (na := 3) (nl := 4) (as := [.int x1, .int 1, .int (-v103)]) (rest := []) hLM102 (by decide +kernel) (by decide +kernel) (at_483) (by decide +kernel) rfl rfl rfl (Nat.le_of_ble_eq_true rfl) rfl hr105 ?_
          refine w_goto (n := 94) (off := 18) (by decide +kernel) (by decide) ?_
          refine w_goto (n := 0) (off := (-94)) (by decide +kernel) (by decide) ?_
          exact h
      · rw [if_neg c111] at h
        refine w_icmp_lt_n (n := 46) (off := 13) (by decide +kernel) rfl c111 ?_
        refine w_aload_n (n := 47) (i := 0) (by decide +kernel) rfl rfl ?_
        refine w_iload_n (n := 48) (i := 1) (by decide +kernel) rfl rfl ?_
        refine w_iconst (n := 49) (v := 3) (x := 3) (by decide +kernel) rfl (by decide) ?_
        refine w_iconst (n := 50) (v := -1) (x := (-1)) (by decide +kernel) rfl (by decide) ?_
        obtain ⟨M109, hLM109, hr110, h⟩ := h
        refine w_cV (n := 53) (idx := 197) (cal := 173) (na := 3) (nl := 4) (as := [.int x1, .int 3, .int ((-1))]) (rest := []) hLM90 (by decide +kernel) (by decide +kernel) (at_483) (by decide +kernel) rfl rfl rfl (Nat.le_of_ble_eq_true rfl) rfl hr110 ?_
        refine w_goto (n := 94) (off := 41) (by decide +kernel) (by decide) ?_
        refine w_goto (n := 0) (off := (-94)) (by decide +kernel) (by decide) ?_
        exact h
theorem t_209 {X : ak_X} {M : ak_M} {r : ak_O × ak_M} (hL : ab_lay M) (x1 : Int32) (h : (∃ (v2 : Int32) (M1 : ak_M), ab_lay M1 ∧ rn X 171 [.ref 483, .int x1, .int 6] M (.inl (some (.int v2)), M1) ∧ (∃ (v4 : Int32) (M3 : ak_M), ab_lay M3 ∧ rn X 171 [.ref 483, .int x1, .int 7] M1 (.inl (some (.int v4)), M3) ∧ (∃ (v6 : Int32) (M5 : ak_M), ab_lay M5 ∧ rn X 316 [.int 400, .int (v2 + v4)] M3 (.inl (some (.int v6)), M5) ∧ (∃ (v8 : Int32) (M7 : ak_M), ab_lay M7 ∧ rn X 315 [.int 1, .int v6] M5 (.inl (some (.int v8)), M7) ∧ (∃ (M9 : ak_M), ab_lay M9 ∧ rn X 172 [.ref 483, .int x1, .int 6, .int v8] M7 (.inl (none), M9) ∧ (∃ (M10 : ak_M), ab_lay M10 ∧ rn X 205 [.ref 483, .int x1] M9 (.inl (none), M10) ∧ (∃ (v12 : Int32) (M11 : ak_M), ab_lay M11 ∧ rn X 185 [.ref 483, .int x1] M10 (.inl (some (.int v12)), M11) ∧ (∃ (v14 : Int32) (M13 : ak_M), ab_lay M13 ∧ rn X 174 [.ref 483, .int 0] M11 (.inl (some (.int v14)), M13) ∧ (if v14 < v12 then (∃ (M15 : ak_M), ab_lay M15 ∧ rn X 206 [.ref 483, .int x1] M13 (.inl (none), M15) ∧ (∃ (M16 : ak_M), ab_lay M16 ∧ rn X 208 [.ref 483, .int x1] M15 (.inl (none), M16) ∧ (∃ (v18 : Int32) (M17 : ak_M), ab_lay M17 ∧ rn X 171 [.ref 483, .int x1, .int 3] M16 (.inl (some (.int v18)), M17) ∧ (if v18 ≤ 0 then (∃ (M19 : ak_M), ab_lay M19 ∧ rn X 172 [.ref 483, .int x1, .int 0, .int 1] M17 (.inl (none), M19) ∧ (∃ (M20 : ak_M), ab_lay M20 ∧ rn X 187 [.ref 483, .int 0, .int x1, .int ((-1))] M19 (.inl (none), M20) ∧ r = (.inl none, M20))) else r = (.inl none, M17))))) else (∃ (M27 : ak_M), ab_lay M27 ∧ rn X 207 [.ref 483, .int x1] M13 (.inl (none), M27) ∧ (∃ (M28 : ak_M), ab_lay M28 ∧ rn X 208 [.ref 483, .int x1] M27 (.inl (none), M28) ∧ (∃ (v30 : Int32) (M29 : ak_M), ab_lay M29 ∧ rn X 171 [.ref 483, .int x1, .int 3] M28 (.inl (some (.int v30)), M29) ∧ (if v30 ≤ 0 then (∃ (M31 : ak_M), ab_lay M31 ∧ rn X 172 [.ref 483, .int x1, .int 0, .int 1] M29 (.inl (none), M31) ∧ (∃ (M32 : ak_M), ab_lay M32 ∧ rn X 187 [.ref 483, .int 0, .int x1, .int ((-1))] M31 (.inl (none), M32) ∧ r = (.inl none, M32))) else r = (.inl none, M29))))))))))))))) : rn X 209 [.ref 483, .int x1] M r := by
  refine w_rn (nL := 2) (l1 := [some (.ref 483), some (.int x1)]) (by decide +kernel) rfl rfl ?_
  refine w_aload_n (n := 1) (i := 0) (by decide +kernel) rfl rfl ?_
  refine w_iload_n (n := 2) (i := 1) (by decide +kernel) rfl rfl ?_
  refine w_bipush (n := 4) (v := 6) (x := 6) (by decide +kernel) rfl (by decide) ?_
  refine w_iconst (n := 5) (v := 1) (x := 1) (by decide +kernel) rfl (by decide) ?_
  refine w_sipush (n := 8) (v := 400) (x := 400) (by decide +kernel) rfl (by decide) ?_
  refine w_aload_n (n := 9) (i := 0) (by decide +kernel) rfl rfl ?_
  refine w_iload_n (n := 10) (i := 1) (by decide +kernel) rfl rfl ?_
  refine w_bipush (n := 12) (v := 6) (x := 6) (by decide +kernel) rfl (by decide) ?_
  obtain ⟨v2, M1, hLM1, hr47, h⟩ := h
  refine w_cV (n := 15) (idx := 92) (cal := 171) (na := 2) (nl := 3) (as := [.int x1, .int 6]) (rest := [.int 400, .int 1, .int 6, .int x1, .ref 483]) hL (by decide +kernel) (by decide +kernel) (at_483) (by decide +kernel) rfl rfl rfl (Nat.le_of_ble_eq_true rfl) rfl hr47 ?_
  refine w_aload_n (n := 16) (i := 0) (by decide +kernel) rfl rfl ?_
  refine w_iload_n (n := 17) (i := 1) (by decide +kernel) rfl rfl ?_
  refine w_bipush (n := 19) (v := 7) (x := 7) (by decide +kernel) rfl (by decide) ?_
  obtain ⟨v4, M3, hLM3, hr46, h⟩ := h
  refine w_cV (n := 22) (idx := 92) (cal := 171) (na := 2) (nl := 3) (as := [.int x1, .int 7]) (rest := [.int v2, .int 400, .int 1, .int 6, .int x1, .ref 483]) hLM1 (by decide +kernel) (by decide +kernel) (at_483) (by decide +kernel) rfl rfl rfl (Nat.le_of_ble_eq_true rfl) rfl hr46 ?_
  refine w_iadd (n := 23) (by decide +kernel) rfl ?_
  obtain ⟨v6, M5, hLM5, hr45, h⟩ := h
  refine w_cS (n := 26) (idx := 176) (cal := 316) (na := 2) (nl := 2) (as := [.int 400, .int (v2 + v4)]) (rest := [.int 1, .int 6, .int x1, .ref 483]) (by decide +kernel) (by decide +kernel) rfl rfl rfl (Nat.le_of_ble_eq_true rfl) rfl hr45 ?_
  obtain ⟨v8, M7, hLM7, hr44, h⟩ := h
  refine w_cS (n := 29) (idx := 111) (cal := 315) (na := 2) (nl := 2) (as := [.int 1, .int v6]) (rest := [.int 6, .int x1, .ref 483]) (by decide +kernel) (by decide +kernel) rfl rfl rfl (Nat.le_of_ble_eq_true rfl) rfl hr44 ?_
  obtain ⟨M9, hLM9, hr43, h⟩ := h
  refine w_cV (n := 32) (idx := 96) (cal := 172) (na := 3) (nl := 4) (as := [.int x1, .int 6, .int v8]) (rest := []) hLM7 (by decide +kernel) (by decide +kernel) (at_483) (by decide +kernel) rfl rfl rfl (Nat.le_of_ble_eq_true rfl) rfl hr43 ?_
  refine w_aload_n (n := 33) (i := 0) (by decide +kernel) rfl rfl ?_
  refine w_iload_n (n := 34) (i := 1) (by decide +kernel) rfl rfl ?_
  obtain ⟨M10, hLM10, hr42, h⟩ := h
  refine w_cV (n := 37) (idx := 200) (cal := 205) (na := 1) (nl := 2) (as := [.int x1]) (rest := []) hLM9 (by decide +kernel) (by decide +kernel) (at_483) (by decide +kernel) rfl rfl rfl (Nat.le_of_ble_eq_true rfl) rfl hr42 ?_
  refine w_aload_n (n := 38) (i := 0) (by decide +kernel) rfl rfl ?_
  refine w_iload_n (n := 39) (i := 1) (by decide +kernel) rfl rfl ?_
  obtain ⟨v12, M11, hLM11, hr41, h⟩ := h
  refine w_cV (n := 42) (idx := 161) (cal := 185) (na := 1) (nl := 2) (as := [.int x1]) (rest := []) hLM10 (by decide +kernel) (by decide +kernel) (at_483) (by decide +kernel) rfl rfl rfl (Nat.le_of_ble_eq_true rfl) rfl hr41 ?_
  refine w_aload_n (n := 43) (i := 0) (by decide +kernel) rfl rfl ?_
  refine w_iconst (n := 44) (v := 0) (x := 0) (by decide +kernel) rfl (by decide) ?_
  obtain ⟨v14, M13, hLM13, hr40, h⟩ := h
  refine w_cV (n := 47) (idx := 173) (cal := 174) (na := 1) (nl := 2) (as := [.int 0]) (rest := [.int v12]) hLM11 (by decide +kernel) (by decide +kernel) (at_483) (by decide +kernel) rfl rfl rfl (Nat.le_of_ble_eq_true rfl) rfl hr40 ?_
  by_cases c39 : v14 < v12
  · rw [if_pos c39] at h
    refine w_icmp_gt_j (n := 58) (off := 11) (by decide +kernel) (by decide) c39 ?_
    refine w_aload_n (n := 59) (i := 0) (by decide +kernel) rfl rfl ?_
    refine w_iload_n (n := 60) (i := 1) (by decide +kernel) rfl rfl ?_
    obtain ⟨M15, hLM15, hr26, h⟩ := h
    refine w_cV (n := 63) (idx := 207) (cal := 206) (na := 1) (nl := 2) (as := [.int x1]) (rest := []) hLM13 (by decide +kernel) (by decide +kernel) (at_483) (by decide +kernel) rfl rfl rfl (Nat.le_of_ble_eq_true rfl) rfl hr26 ?_
    refine w_aload_n (n := 64) (i := 0) (by decide +kernel) rfl rfl ?_
    refine w_iload_n (n := 65) (i := 1) (by decide +kernel) rfl rfl ?_
    obtain ⟨M16, hLM16, hr25, h⟩ := h
    refine w_cV (n := 68) (idx := 210) (cal := 208) (na := 1) (nl := 2) (as := [.int x1]) (rest := []) hLM15 (by decide +kernel) (by decide +kernel) (at_483) (by decide +kernel) rfl rfl rfl (Nat.le_of_ble_eq_true rfl) rfl hr25 ?_
    refine w_aload_n (n := 69) (i := 0) (by decide +kernel) rfl rfl ?_
    refine w_iload_n (n := 70) (i := 1) (by decide +kernel) rfl rfl ?_
    refine w_iconst (n := 71) (v := 3) (x := 3) (by decide +kernel) rfl (by decide) ?_
    obtain ⟨v18, M17, hLM17, hr24, h⟩ := h
    refine w_cV (n := 74) (idx := 92) (cal := 171) (na := 2) (nl := 3) (as := [.int x1, .int 3]) (rest := []) hLM16 (by decide +kernel) (by decide +kernel) (at_483) (by decide +kernel) rfl rfl rfl (Nat.le_of_ble_eq_true rfl) rfl hr24 ?_
    by_cases c23 : v18 ≤ 0
    · rw [if_pos c23] at h
      refine w_if_le_j (n := 78) (off := 4) (by decide +kernel) (by decide) c23 ?_
      refine w_aload_n (n := 79) (i := 0) (by decide +kernel) rfl rfl ?_
      refine w_iload_n (n := 80) (i := 1) (by decide +kernel) rfl rfl ?_
      refine w_iconst (n := 81) (v := 0) (x := 0) (by decide +kernel) rfl (by decide) ?_
      refine w_iconst (n := 82) (v := 1) (x := 1) (by decide +kernel) rfl (by decide) ?_
      obtain ⟨M19, hLM19, hr22, h⟩ := h
      refine w_cV (n := 85) (idx := 96) (cal := 172) (na := 3) (nl := 4) (as := [.int x1, .int 0, .int 1]) (rest := []) hLM17 (by decide +kernel) (by decide +kernel) (at_483) (by decide +kernel) rfl rfl rfl (Nat.le_of_ble_eq_true rfl) rfl hr22 ?_
      refine w_aload_n (n := 86) (i := 0) (by decide +kernel) rfl rfl ?_
      refine w_iconst (n := 87) (v := 0) (x := 0) (by decide +kernel) rfl (by decide) ?_
      refine w_iload_n (n := 88) (i := 1) (by decide +kernel) rfl rfl ?_
      refine w_iconst (n := 89) (v := -1) (x := (-1)) (by decide +kernel) rfl (by decide) ?_
      obtain ⟨M20, hLM20, hr21, h⟩ := h
      refine w_cV (n := 92) (idx := 213) (cal := 187) (na := 3) (nl := 4) (as := [.int 0, .int x1, .int ((-1))]) (rest := []) hLM19 (by decide +kernel) (by decide +kernel) (at_483) (by decide +kernel) rfl rfl rfl (Nat.le_of_ble_eq_true rfl) rfl hr21 ?_
      subst h
      exact w_vreturn (by decide +kernel) (by decide +kernel)
    · rw [if_neg c23] at h
      refine w_if_le_n (n := 77) (off := 4) (by decide +kernel) rfl c23 ?_
      subst h
      exact w_vreturn (by decide +kernel) (by decide +kernel)
  · rw [if_neg c39] at h
    refine w_icmp_gt_n (n := 50) (off := 11) (by decide +kernel) rfl c39 ?_
    refine w_aload_n (n := 51) (i := 0) (by decide +kernel) rfl rfl ?_
    refine w_iload_n (n := 52) (i := 1) (by decide +kernel) rfl rfl ?_
    obtain ⟨M27, hLM27, hr38, h⟩ := h
    refine w_cV (n := 55) (idx := 204) (cal := 207) (na := 1) (nl := 2) (as := [.int x1]) (rest := []) hLM13 (by decide +kernel) (by decide +kernel) (at_483) (by decide +kernel) rfl rfl rfl (Nat.le_of_ble_eq_true rfl) rfl hr38 ?_
    refine w_goto (n := 63) (off := 8) (by decide +kernel) (by decide) ?_
    refine w_aload_n (n := 64) (i := 0) (by decide +kernel) rfl rfl ?_
    refine w_iload_n (n := 65) (i := 1) (by decide +kernel) rfl rfl ?_
    obtain ⟨M28, hLM28, hr37, h⟩ := h
    refine w_cV (n := 68) (idx := 210) (cal := 208) (na := 1) (nl := 2) (as := [.int x1]) (rest := []) hLM27 (by decide +kernel) (by decide +kernel) (at_483) (by decide +kernel) rfl rfl rfl (Nat.le_of_ble_eq_true rfl) rfl hr37 ?_
    refine w_aload_n (n := 69) (i := 0) (by decide +kernel) rfl rfl ?_
    refine w_iload_n (n := 70) (i := 1) (by decide +kernel) rfl rfl ?_
    refine w_iconst (n := 71) (v := 3) (x := 3) (by decide +kernel) rfl (by decide) ?_
    obtain ⟨v30, M29, hLM29, hr36, h⟩ := h
    refine w_cV (n := 74) (idx := 92) (cal := 171) (na := 2) (nl := 3) (as := [.int x1, .int 3]) (rest := []) hLM28 (by decide +kernel) (by decide +kernel) (at_483) (by decide +kernel) rfl rfl rfl (Nat.le_of_ble_eq_true rfl) rfl hr36 ?_
    by_cases c35 : v30 ≤ 0
    · rw [if_pos c35] at h
      refine w_if_le_j (n := 78) (off := 4) (by decide +kernel) (by decide) c35 ?_
      refine w_aload_n (n := 79) (i := 0) (by decide +kernel) rfl rfl ?_
      refine w_iload_n (n := 80) (i := 1) (by decide +kernel) rfl rfl ?_
      refine w_iconst (n := 81) (v := 0) (x := 0) (by decide +kernel) rfl (by decide) ?_
      refine w_iconst (n := 82) (v := 1) (x := 1) (by decide +kernel) rfl (by decide) ?_
      obtain ⟨M31, hLM31, hr34, h⟩ := h
      refine w_cV (n := 85) (idx := 96) (cal := 172) (na := 3) (nl := 4) (as := [.int x1, .int 0, .int 1]) (rest := []) hLM29 (by decide +kernel) (by decide +kernel) (at_483) (by decide +kernel) rfl rfl rfl (Nat.le_of_ble_eq_true rfl) rfl hr34 ?_
      refine w_aload_n (n := 86) (i := 0) (by decide +kernel) rfl rfl ?_
      refine w_iconst (n := 87) (v := 0) (x := 0) (by decide +kernel) rfl (by decide) ?_
      refine w_iload_n (n := 88) (i := 1) (by decide +kernel) rfl rfl ?_
      refine w_iconst (n := 89) (v := -1) (x := (-1)) (by decide +kernel) rfl (by decide) ?_
      obtain ⟨M32, hLM32, hr33, h⟩ := h
      refine w_cV (n := 92) (idx := 213) (cal := 187) (na := 3) (nl := 4) (as := [.int 0, .int x1, .int ((-1))]) (rest := []) hLM31 (by decide +kernel) (by decide +kernel) (at_483) (by decide +kernel) rfl rfl rfl (Nat.le_of_ble_eq_true rfl) rfl hr33 ?_
      subst h
      exact w_vreturn (by decide +kernel) (by decide +kernel)
    · rw [if_neg c35] at h
      refine w_if_le_n (n := 77) (off := 4) (by decide +kernel) rfl c35 ?_
      subst h
      exact w_vreturn (by decide +kernel) (by decide +kernel)
theorem t_210 {X : ak_X} {M : ak_M} {r : ak_O × ak_M} (hL : ab_lay M) (h : sg X 210 (2, [some (.ref 483), some (.int 0)], [], []) M r) : rn X 210 [.ref 483] M r := by
  refine w_rn (nL := 2) (l1 := [some (.ref 483), none]) (by decide +kernel) rfl rfl ?_
  refine w_iconst (n := 1) (v := 0) (x := 0) (by decide +kernel) rfl (by decide) ?_
  refine w_istore_n (n := 2) (i := 1) (l1' := [some (.ref 483), some (.int 0)]) (l2' := []) (by decide +kernel) rfl (Nat.le_of_ble_eq_true rfl) rfl rfl ?_
  exact h
theorem t_210_2 {X : ak_X} {M : ak_M} {r : ak_O × ak_M} (hL : ab_lay M) (y1 : Int32) (h : (∃ (v2 : Int32) (M1 : ak_M), ab_lay M1 ∧ rn X 168 [.ref 483] M (.inl (some (.int v2)), M1) ∧ (if v2 ≤ y1 then sg X 210 (87, [some (.ref 483), some (.int 0)], [], []) M1 r else (∃ (v4 : Int32) (M3 : ak_M), ab_lay M3 ∧ rn X 200 [.ref 483, .int y1] M1 (.inl (some (.int v4)), M3) ∧ (∃ i5 : Nat, ab_ix y1 i5 10 ∧ (∀ M6 : ak_M, M6 = ak_sI M3 490 i5 v4 → (∃ (v8 : Int32) (M7 : ak_M), ab_lay M7 ∧ rn X 201 [.ref 483, .int y1] M6 (.inl (some (.int v8)), M7) ∧ (∃ i9 : Nat, ab_ix y1 i9 10 ∧ (∀ M10 : ak_M, M10 = ak_sI M7 491 i9 v8 → (∃ i11 : Nat, ab_ix y1 i11 10 ∧ (if ak_I M10 491 i11 = (-1) then sg X 210 (2, [some (.ref 483), some (.int (y1 + 1))], [], []) M10 r else (∃ i12 : Nat, ab_ix y1 i12 10 ∧ (∃ (v14 : Int32) (M13 : ak_M), ab_lay M13 ∧ rn X 197 [.ref 483, .int y1, .int (ak_I M10 491 i12)] M10 (.inl (some (.int v14)), M13) ∧ (∃ i15 : Nat, ab_ix y1 i15 10 ∧ (∀ M16 : ak_M, M16 = ak_sI M13 492 i15 v14 → (∃ i17 : Nat, ab_ix y1 i17 10 ∧ (∃ (v19 : Int32) (M18 : ak_M), ab_lay M18 ∧ rn X 198 [.ref 483, .int y1, .int (ak_I M16 491 i17)] M16 (.inl (some (.int v19)), M18) ∧ (∃ i20 : Nat, ab_ix y1 i20 10 ∧ (∀ M21 : ak_M, M21 = ak_sI M18 493 i20 v19 → sg X 210 (2, [some (.ref 483), some (.int (y1 + 1))], [], []) M21 r))))))))))))))))))) : sg X 210 (2, [some (.ref 483), some (.int y1)], [], []) M r := by
  refine w_iload_n (n := 3) (i := 1) (by decide +kernel) rfl rfl ?_
  refine w_aload_n (n := 4) (i := 0) (by decide +kernel) rfl rfl ?_
  obtain ⟨v2, M1, hLM1, hr28, h⟩ := h
  refine w_cV (n := 7) (idx := 80) (cal := 168) (na := 0) (nl := 1) (as := []) (rest := [.int y1]) hL (by decide +kernel) (by decide +kernel) (at_483) (by decide +kernel) rfl rfl rfl (Nat.le_of_ble_eq_true rfl) rfl hr28 ?_
  by_cases c27 : v2 ≤ y1
  · rw [if_pos c27] at h
    refine w_icmp_ge_j (n := 85) (off := 78) (by decide +kernel) (by decide) c27 ?_
    refine w_iconst (n := 86) (v := 0) (x := 0) (by decide +kernel) rfl (by decide) ?_
    refine w_istore_n (n := 87) (i := 1) (l1' := [some (.ref 483), some (.int 0)]) (l2' := []) (by decide +kernel) rfl (Nat.le_of_ble_eq_true rfl) rfl rfl ?_
    exact h
  · rw [if_neg c27] at h
    refine w_icmp_ge_n (n := 10) (off := 78) (by decide +kernel) rfl c27 ?_
    refine w_aload_n (n := 11) (i := 0) (by decide +kernel) rfl rfl ?_
    refine w_getR (n := 14) hLM1 (by decide +kernel) oO_210 fF_12_28 (at_483) (by decide) (ar_483_11) rfl ?_
    refine w_iload_n (n := 15) (i := 1) (by decide +kernel) rfl rfl ?_
    refine w_aload_n (n := 16) (i := 0) (by decide +kernel) rfl rfl ?_
    refine w_iload_n (n := 17) (i := 1) (by decide +kernel) rfl rfl ?_
    obtain ⟨v4, M3, hLM3, hr26, h⟩ := h
    refine w_cV (n := 20) (idx := 216) (cal := 200) (na := 1) (nl := 2) (as := [.int y1]) (rest := [.int y1, .ref 490]) hLM1 (by decide +kernel) (by decide +kernel) (at_483) (by decide +kernel) rfl rfl rfl (Nat.le_of_ble_eq_true rfl) rfl hr26 ?_
    obtain ⟨i5, gi5, h⟩ := h
    refine w_iast (n := 21) hLM3 (by decide +kernel) (at_490) (an_490) gi5 rfl ?_
    generalize eM6 : ak_sI M3 490 i5 v4 = M6
    have hLM6 : ab_lay M6 := by rw [← eM6]; exact ab_lay.sI hLM3
    replace h := h M6 eM6.symm
    refine w_aload_n (n := 22) (i := 0) (by decide +kernel) rfl rfl ?_
    refine w_getR (n := 25) hLM6 (by decide +kernel) oO_210 fF_12_31 (at_483) (by decide) (ar_483_12) rfl ?_
    refine w_iload_n (n := 26) (i := 1) (by decide +kernel) rfl rfl ?_
    refine w_aload_n (n := 27) (i := 0) (by decide +kernel) rfl rfl ?_
    refine w_iload_n (n := 28) (i := 1) (by decide +kernel) rfl rfl ?_
    obtain ⟨v8, M7, hLM7, hr25, h⟩ := h
    refine w_cV (n := 31) (idx := 219) (cal := 201) (na := 1) (nl := 2) (as := [.int y1]) (rest := [.int y1, .ref 491]) hLM6 (by decide +kernel) (by decide +kernel) (at_483) (by decide +kernel) rfl rfl rfl (Nat.le_of_ble_eq_true rfl) rfl hr25 ?_
    obtain ⟨i9, gi9, h⟩ := h
    refine w_iast (n := 32) hLM7 (by decide +kernel) (at_491) (an_491) gi9 rfl ?_
    generalize eM10 : ak_sI M7 491 i9 v8 = M10
    have hLM10 : ab_lay M10 := by rw [← eM10]; exact ab_lay.sI hLM7
    replace h := h M10 eM10.symm
    refine w_aload_n (n := 33) (i := 0) (by decide +kernel) rfl rfl ?_
    refine w_getR (n := 36) hLM10 (by decide +kernel) oO_210 fF_12_31 (at_483) (by decide) (ar_483_12) rfl ?_
    refine w_iload_n (n := 37) (i := 1) (by decide +kernel) rfl rfl ?_
    obtain ⟨i11, gi11, h⟩ := h
    refine w_iald (n := 38) hLM10 (by decide +kernel) (at_491) (an_491) gi11 rfl ?_
    refine w_iconst (n := 39) (v := -1) (x := (-1)) (by decide +kernel) rfl (by decide) ?_
    by_cases c24 : ak_I M10 491 i11 = (-1)
    · rw [if_pos c24] at h
      refine w_icmp_ne_n (n := 42) (off := 6) (by decide +kernel) rfl c24 ?_
      refine w_goto (n := 79) (off := 37) (by decide +kernel) (by decide) ?_
      refine w_iinc (n := 82) (i := 1) (v := 1) (y := y1 + 1) (l1' := [some (.ref 483), some (.int (y1 + 1))]) (l2' := []) (by decide +kernel) rfl rfl rfl rfl rfl ?_
      refine w_goto (n := 2) (off := (-80)) (by decide +kernel) (by decide) ?_
      exact h
    · rw [if_neg c24] at h
      refine w_icmp_ne_j (n := 45) (off := 6) (by decide +kernel) (by decide) c24 ?_
      refine w_aload_n (n := 46) (i := 0) (by decide +kernel) rfl rfl ?_
      refine w_getR (n := 49) hLM10 (by decide +kernel) oO_210 fF_12_34 (at_483) (by decide) (ar_483_13) rfl ?_
      refine w_iload_n (n := 50) (i := 1) (by decide +kernel) rfl rfl ?_
      refine w_aload_n (n := 51) (i := 0) (by decide +kernel) rfl rfl ?_
      refine w_iload_n (n := 52) (i := 1) (by decide +kernel) rfl rfl ?_
      refine w_aload_n (n := 53) (i := 0) (by decide +kernel) rfl rfl ?_
      refine w_getR (n := 56) hLM10 (by decide +kernel) oO_210 fF_12_31 (at_483) (by decide) (ar_483_12) rfl ?_
      refine w_iload_n (n := 57) (i := 1) (by decide +kernel) rfl rfl ?_
      obtain ⟨i12, gi12, h⟩ := h
      refine w_iald (n := 58) hLM10 (by decide +kernel) (at_491) (an_491) gi12 rfl ?_
      obtain ⟨v14, M13, hLM13, hr23, h⟩ := h
      refine w_cV (n := 61) (idx := 222) (cal := 197) (na := 2) (nl := 3) (as := [.int y1, .int (ak_I M10 491 i12)]) (rest := [.int y1, .ref 492]) hLM10 (by decide +kernel) (by decide +kernel) (at_483) (by decide +kernel) rfl rfl rfl (Nat.le_of_ble_eq_true rfl) rfl hr23 ?_
      obtain ⟨i15, gi15, h⟩ := h
      refine w_iast (n := 62) hLM13 (by decide +kernel) (at_492) (an_492) gi15 rfl ?_
      generalize eM16 : ak_sI M13 492 i15 v14 = M16
      have hLM16 : ab_lay M16 := by rw [← eM16]; exact ab_lay.sI hLM13
      replace h := h M16 eM16.symm
      refine w_aload_n (n := 63) (i := 0) (by decide +kernel) rfl rfl ?_
      refine w_getR (n := 66) hLM16 (by decide +kernel) oO_210 fF_12_37 (at_483) (by decide) (ar_483_14) rfl ?_
      refine w_iload_n (n := 67) (i := 1) (by decide +kernel) rfl rfl ?_
      refine w_aload_n (n := 68) (i := 0) (by decide +kernel) rfl rfl ?_
      refine w_iload_n (n := 69) (i := 1) (by decide +kernel) rfl rfl ?_
      refine w_aload_n (n := 70) (i := 0) (by decide +kernel) rfl rfl ?_
      refine w_getR (n := 73) hLM16 (by decide +kernel) oO_210 fF_12_31 (at_483) (by decide) (ar_483_12) rfl ?_
      refine w_iload_n (n := 74) (i := 1) (by decide +kernel) rfl rfl ?_
      obtain ⟨i17, gi17, h⟩ := h
      refine w_iald (n := 75) hLM16 (by decide +kernel) (at_491) (an_491) gi17 rfl ?_
      obtain ⟨v19, M18, hLM18, hr22, h⟩ := h
      refine w_cV (n := 78) (idx := 225) (cal := 198) (na := 2) (nl := 3) (as := [.int y1, .int (ak_I M16 491 i17)]) (rest := [.int y1, .ref 493]) hLM16 (by decide +kernel) (by decide +kernel) (at_483) (by decide +kernel) rfl rfl rfl (Nat.le_of_ble_eq_true rfl) rfl hr22 ?_
      obtain ⟨i20, gi20, h⟩ := h
      refine w_iast (n := 79) hLM18 (by decide +kernel) (at_493) (an_493) gi20 rfl ?_
      generalize eM21 : ak_sI M18 493 i20 v19 = M21
      have hLM21 : ab_lay M21 := by rw [← eM21]; exact ab_lay.sI hLM18
      replace h := h M21 eM21.symm
      refine w_iinc (n := 82) (i := 1) (v := 1) (y := y1 + 1) (l1' := [some (.ref 483), some (.int (y1 + 1))]) (l2' := []) (by decide +kernel) rfl rfl rfl rfl rfl ?_
      refine w_goto (n := 2) (off := (-80)) (by decide +kernel) (by decide) ?_
      exact h
theorem t_210_87 {X : ak_X} {M : ak_M} {r : ak_O × ak_M} (hL : ab_lay M) (y1 : Int32) (h : (∃ (v30 : Int32) (M29 : ak_M), ab_lay M29 ∧ rn X 168 [.ref 483] M (.inl (some (.int v30)), M29) ∧ (if v30 ≤ y1 then r = (.inl none, M29) else (∃ i31 : Nat, ab_ix y1 i31 10 ∧ (∃ (M32 : ak_M), ab_lay M32 ∧ rn X 173 [.ref 483, .int y1, .int 10, .int (ak_I M29 490 i31)] M29 (.inl (none), M32) ∧ (∃ (v34 : Int32) (M33 : ak_M), ab_lay M33 ∧ rn X 175 [.ref 483, .int y1] M32 (.inl (some (.int v34)), M33) ∧ (if v34 = 0 then sg X 210 (87, [some (.ref 483), some (.int (y1 + 1))], [], []) M33 r else (∃ i35 : Nat, ab_ix y1 i35 10 ∧ (if ak_I M33 491 i35 = (-1) then sg X 210 (87, [some (.ref 483), some (.int (y1 + 1))], [], []) M33 r else (∃ (v37 : Int32) (M36 : ak_M), ab_lay M36 ∧ rn X 171 [.ref 483, .int y1, .int 10] M33 (.inl (some (.int v37)), M36) ∧ (∃ (v39 : Int32) (M38 : ak_M), ab_lay M38 ∧ rn X 171 [.ref 483, .int y1, .int 9] M36 (.inl (some (.int v39)), M38) ∧ (if v39 ≤ v37 then (∃ (M40 : ak_M), ab_lay M40 ∧ rn X 172 [.ref 483, .int y1, .int 0, .int 2] M38 (.inl (none), M40) ∧ (∃ i41 : Nat, ab_ix y1 i41 10 ∧ (∃ (M42 : ak_M), ab_lay M42 ∧ rn X 172 [.ref 483, .int y1, .int 13, .int (ak_I M40 491 i41)] M40 (.inl (none), M42) ∧ (∃ i43 : Nat, ab_ix y1 i43 10 ∧ (∃ (M44 : ak_M), ab_lay M44 ∧ rn X 173 [.ref 483, .int (ak_I M42 491 i43), .int 11, .int 1] M42 (.inl (none), M44) ∧ (∃ i45 : Nat, ab_ix 10 i45 245 ∧ (∃ i46 : Nat, ab_ix 10 i46 245 ∧ (∀ M47 : ak_M, M47 = ak_sI M44 484 i46 ((ak_I M44 484 i45) + 1) → (∃ i48 : Nat, ab_ix y1 i48 10 ∧ (∃ i49 : Nat, ab_ix y1 i49 10 ∧ (∃ i50 : Nat, ab_ix y1 i50 10 ∧ (∃ (M51 : ak_M), ab_lay M51 ∧ rn X 186 [.ref 483, .int 1, .int y1, .int (ak_I M47 491 i48), .int (ak_I M47 492 i49), .int (ak_I M47 493 i50)] M47 (.inl (none), M51) ∧ sg X 210 (87, [some (.ref 483), some (.int (y1 + 1))], [], []) M51 r)))))))))))) else sg X 210 (87, [some (.ref 483), some (.int (y1 + 1))], [], []) M38 r)))))))))))) : sg X 210 (87, [some (.ref 483), some (.int y1)], [], []) M r := by
  refine w_iload_n (n := 88) (i := 1) (by decide +kernel) rfl rfl ?_
  refine w_aload_n (n := 89) (i := 0) (by decide +kernel) rfl rfl ?_
  obtain ⟨v30, M29, hLM29, hr64, h⟩ := h
  refine w_cV (n := 92) (idx := 80) (cal := 168) (na := 0) (nl := 1) (as := []) (rest := [.int y1]) hL (by decide +kernel) (by decide +kernel) (at_483) (by decide +kernel) rfl rfl rfl (Nat.le_of_ble_eq_true rfl) rfl hr64 ?_
  by_cases c63 : v30 ≤ y1
  · rw [if_pos c63] at h
    refine w_icmp_ge_j (n := 225) (off := 133) (by decide +kernel) (by decide) c63 ?_
    subst h
    exact w_vreturn (by decide +kernel) (by decide +kernel)
  · rw [if_neg c63] at h
    refine w_icmp_ge_n (n := 95) (off := 133) (by decide +kernel) rfl c63 ?_
    refine w_aload_n (n := 96) (i := 0) (by decide +kernel) rfl rfl ?_
    refine w_iload_n (n := 97) (i := 1) (by decide +kernel) rfl rfl ?_
    refine w_bipush (n := 99) (v := 10) (x := 10) (by decide +kernel) rfl (by decide) ?_
    refine w_aload_n (n := 100) (i := 0) (by decide +kernel) rfl rfl ?_
    refine w_getR (n := 103) hLM29 (by decide +kernel) oO_210 fF_12_28 (at_483) (by decide) (ar_483_11) rfl ?_
    refine w_iload_n (n := 104) (i := 1) (by decide +kernel) rfl rfl ?_
    obtain ⟨i31, gi31, h⟩ := h
    refine w_iald (n := 105) hLM29 (by decide +kernel) (at_490) (an_490) gi31 rfl ?_
    obtain ⟨M32, hLM32, hr62, h⟩ := h
    refine w_cV (n := 108) (idx := 197) (cal := 173) (na := 3) (nl := 4) (as := [.int y1, .int 10, .int (ak_I M29 490 i31)]) (rest := []) hLM29 (by decide +kernel) (by decide +kernel) (at_483) (by decide +kernel) rfl rfl rfl (Nat.le_of_ble_eq_true rfl) rfl hr62 ?_
    refine w_aload_n (n := 109) (i := 0) (by decide +kernel) rfl rfl ?_
    refine w_iload_n (n := 110) (i := 1) (by decide +kernel) rfl rfl ?_
    obtain ⟨v34, M33, hLM33, hr61, h⟩ := h
    refine w_cV (n := 113) (idx := 99) (cal := 175) (na := 1) (nl := 2) (as := [.int y1]) (rest := []) hLM32 (by decide +kernel) (by decide +kernel) (at_483) (by decide +kernel) rfl rfl rfl (Nat.le_of_ble_eq_true rfl) rfl hr61 ?_
    by_cases c60 : v34 = 0
    · rw [if_pos c60] at h
      refine w_if_eq_j (n := 219) (off := 106) (by decide +kernel) (by decide) c60 ?_
      refine w_iinc (n := 222) (i := 1) (v := 1) (y := y1 + 1) (l1' := [some (.ref 483), some (.int (y1 + 1))]) (l2' := []) (by decide +kernel) rfl rfl rfl rfl rfl ?_
      refine w_goto (n := 87) (off := (-135)) (by decide +kernel) (by decide) ?_
      exact h
    · rw [if_neg c60] at h
      refine w_if_eq_n (n := 116) (off := 106) (by decide +kernel) rfl c60 ?_
      refine w_aload_n (n := 117) (i := 0) (by decide +kernel) rfl rfl ?_
      refine w_getR (n := 120) hLM33 (by decide +kernel) oO_210 fF_12_31 (at_483) (by decide) (ar_483_12) rfl ?_
      refine w_iload_n (n := 121) (i := 1) (by decide +kernel) rfl rfl ?_
      obtain ⟨i35, gi35, h⟩ := h
      refine w_iald (n := 122) hLM33 (by decide +kernel) (at_491) (an_491) gi35 rfl ?_
      refine w_iconst (n := 123) (v := -1) (x := (-1)) (by decide +kernel) rfl (by decide) ?_
      by_cases c59 : ak_I M33 491 i35 = (-1)
      · rw [if_pos c59] at h
        refine w_icmp_eq_j (n := 219) (off := 96) (by decide +kernel) (by decide) c59 ?_
        refine w_iinc (n := 222) (i := 1) (v := 1) (y := y1 + 1) (l1' := [some (.ref 483), some (.int (y1 + 1))]) (l2' := []) (by decide +kernel) rfl rfl rfl rfl rfl ?_
        refine w_goto (n := 87) (off := (-135)) (by decide +kernel) (by decide) ?_
        exact h
      · rw [if_neg c59] at h
        refine w_icmp_eq_n (n := 126) (off := 96) (by decide +kernel) rfl c59 ?_
        refine w_aload_n (n := 127) (i := 0) (by decide +kernel) rfl rfl ?_
        refine w_iload_n (n := 128) (i := 1) (by decide +kernel) rfl rfl ?_
        refine w_bipush (n := 130) (v := 10) (x := 10) (by decide +kernel) rfl (by decide) ?_
        obtain ⟨v37, M36, hLM36, hr58, h⟩ := h
        refine w_cV (n := 133) (idx := 92) (cal := 171) (na := 2) (nl := 3) (as := [.int y1, .int 10]) (rest := []) hLM33 (by decide +kernel) (by decide +kernel) (at_483) (by decide +kernel) rfl rfl rfl (Nat.le_of_ble_eq_true rfl) rfl hr58 ?_
        refine w_aload_n (n := 134) (i := 0) (by decide +kernel) rfl rfl ?_
        refine w_iload_n (n := 135) (i := 1) (by decide +kernel) rfl rfl ?_
        refine w_bipush (n := 137) (v := 9) (x := 9) (by decide +kernel) rfl (by decide) ?_
        obtain ⟨v39, M38, hLM38, hr57, h⟩ := h
        refine w_cV (n := 140) (idx := 92) (cal := 171) (na := 2) (nl := 3) (as := [.int y1, .int 9]) (rest := [.int v37]) hLM36 (by decide +kernel) (by decide +kernel) (at_483) (by decide +kernel) rfl rfl rfl (Nat.le_of_ble_eq_true rfl) rfl hr57 ?_
        by_cases c56 : v39 ≤ v37
        · rw [if_pos c56] at h
          refine w_icmp_ge_j (n := 146) (off := 6) (by decide +kernel) (by decide) c56 ?_
          refine w_aload_n (n := 147) (i := 0) (by decide +kernel) rfl rfl ?_
          refine w_iload_n (n := 148) (i := 1) (by decide +kernel) rfl rfl ?_
          refine w_iconst (n := 149) (v := 0) (x := 0) (by decide +kernel) rfl (by decide) ?_
          refine w_iconst (n := 150) (v := 2) (x := 2) (by decide +kernel) rfl (by decide) ?_
          obtain ⟨M40, hLM40, hr55, h⟩ := h
          refine w_cV (n := 153) (idx := 96) (cal := 172) (na := 3) (nl := 4) (as := [.int y1, .int 0, .int 2]) (rest := []) hLM38 (by decide +kernel) (by decide +kernel) (at_483) (by decide +kernel) rfl rfl rfl (Nat.le_of_ble_eq_true rfl) rfl hr55 ?_
          refine w_aload_n (n := 154) (i := 0) (by decide +kernel) rfl rfl ?_
          refine w_iload_n (n := 155) (i := 1) (by decide +kernel) rfl rfl ?_
          refine w_bipush (n := 157) (v := 13) (x := 13) (by decide +kernel) rfl (by decide) ?_
          refine w_aload_n (n := 158) (i := 0) (by decide +kernel) rfl rfl ?_
          refine w_getR (n := 161) hLM40 (by decide +kernel) oO_210 fF_12_31 (at_483) (by decide) (ar_483_12) rfl ?_
          refine w_iload_n (n := 162) (i := 1) (by decide +kernel) rfl rfl ?_
          obtain ⟨i41, gi41, h⟩ := h
          refine w_iald (n := 163) hLM40 (by decide +kernel) (at_491) (an_491) gi41 rfl ?_
          obtain ⟨M42, hLM42, hr54, h⟩ := h
          refine w_cV (n := 166) (idx := 96) (cal := 172) (na := 3) (nl := 4) (as := [.int y1, .int 13, .int (ak_I M40 491 i41)]) (rest := []) hLM40 (by decide +kernel) (by decide +kernel) (at_483) (by decide +kernel) rfl rfl rfl (Nat.le_of_ble_eq_true rfl) rfl hr54 ?_
          refine w_aload_n (n := 167) (i := 0) (by decide +kernel) rfl rfl ?_
          refine w_aload_n (n := 168) (i := 0) (by decide +kernel) rfl rfl ?_
          refine w_getR (n := 171) hLM42 (by decide +kernel) oO_210 fF_12_31 (at_483) (by decide) (ar_483_12) rfl ?_
          refine w_iload_n (n := 172) (i := 1) (by decide +kernel) rfl rfl ?_
          obtain ⟨i43, gi43, h⟩ := h
          refine w_iald (n := 173) hLM42 (by decide +kernel) (at_491) (an_491) gi43 rfl ?_
          refine w_bipush (n := 175) (v := 11) (x := 11) (by decide +kernel) rfl (by decide) ?_
          refine w_iconst (n := 176) (v := 1) (x := 1) (by decide +kernel) rfl (by decide) ?_
          obtain ⟨M44, hLM44, hr53, h⟩ := h
          refine w_cV (n := 179) (idx := 197) (cal := 173) (na := 3) (nl := 4) (as := [.int (ak_I M42 491 i43), .int 11, .int 1]) (rest := []) hLM42 (by decide +kernel) (by decide +kernel) (at_483) (by decide +kernel) rfl rfl rfl (Nat.le_of_ble_eq_true rfl) rfl hr53 ?_
          refine w_aload_n (n := 180) (i := 0) (by decide +kernel) rfl rfl ?_
          refine w_getR (n := 183) hLM44 (by decide +kernel) oO_210 fF_12_7 (at_483) (by decide) (ar_483_1) rfl ?_
          refine w_bipush (n := 185) (v := 10) (x := 10) (by decide +kernel) rfl (by decide) ?_
          refine w_aload_n (n := 186) (i := 0) (by decide +kernel) rfl rfl ?_
          refine w_getR (n := 189) hLM44 (by decide +kernel) oO_210 fF_12_7 (at_483) (by decide) (ar_483_1) rfl ?_
          refine w_bipush (n := 191) (v := 10) (x := 10) (by decide +kernel) rfl (by decide) ?_
          obtain ⟨i45, gi45, h⟩ := h
          refine w_iald (n := 192) hLM44 (by decide +kernel) (at_484) (an_484) gi45 rfl ?_
          refine w_iconst (n := 193) (v := 1) (x := 1) (by decide +kernel) rfl (by decide) ?_
          refine w_iadd (n := 194) (by decide +kernel) rfl ?_
          obtain ⟨i46, gi46, h⟩ := h
          refine w_iast (n := 195) hLM44 (by decide +kernel) (at_484) (an_484) gi46 rfl ?_
          generalize eM47 : ak_sI M44 484 i46 ((ak_I M44 484 i45) + 1) = M47
          have hLM47 : ab_lay M47 := by rw [← eM47]; exact ab_lay.sI hLM44
          replace h := h M47 eM47.symm
          refine w_aload_n (n := 196) (i := 0) (by decide +kernel) rfl rfl ?_
          refine w_iconst (n := 197) (v := 1) (x := 1) (by decide +kernel) rfl (by decide) ?_
          refine w_iload_n (n := 198) (i := 1) (by decide +kernel) rfl rfl ?_
          refine w_aload_n (n := 199) (i := 0) (by decide +kernel) rfl rfl ?_
          refine w_getR (n := 202) hLM47 (by decide +kernel) oO_210 fF_12_31 (at_483) (by decide) (ar_483_12) rfl ?_
          refine w_iload_n (n := 203) (i := 1) (by decide +kernel) rfl rfl ?_
          obtain ⟨i48, gi48, h⟩ := h
          refine w_iald (n := 204) hLM47 (by decide +kernel) (at_491) (an_491) gi48 rfl ?_
          refine w_aload_n (n := 205) (i := 0) (by decide +kernel) rfl rfl ?_
          refine w_getR (n := 208) hLM47 (by decide +kernel) oO_210 fF_12_34 (at_483) (by decide) (ar_483_13) rfl ?_
          refine w_iload_n (n := 209) (i := 1) (by decide +kernel) rfl rfl ?_
          obtain ⟨i49, gi49, h⟩ := h
          refine w_iald (n := 210) hLM47 (by decide +kernel) (at_492) (an_492) gi49 rfl ?_
          refine w_aload_n (n := 211) (i := 0) (by decide +kernel) rfl rfl ?_
          refine w_getR (n := 214) hLM47 (by decide +kernel) oO_210 fF_12_37 (at_483) (by decide) (ar_483_14) rfl ?_
          refine w_iload_n (n := 215) (i := 1) (by decide +kernel) rfl rfl ?_
          obtain ⟨i50, gi50, h⟩ := h
          refine w_iald (n := 216) hLM47 (by decide +kernel) (at_493) (an_493) gi50 rfl ?_
          obtain ⟨M51, hLM51, hr52, h⟩ := h
          refine w_cV (n := 219) (idx := 130) (cal := 186) (na := 5) (nl := 6) (as := [.int 1, .int y1, .int (ak_I M47 491 i48), .int (ak_I M47 492 i49), .int (ak_I M47 493 i50)]) (rest := []) hLM47 (by decide +kernel) (by decide +kernel) (at_483) (by decide +kernel) rfl rfl rfl (Nat.le_of_ble_eq_true rfl) rfl hr52 ?_
          refine w_iinc (n := 222) (i := 1) (v := 1) (y := y1 + 1) (l1' := [some (.ref 483), some (.int (y1 + 1))]) (l2' := []) (by decide +kernel) rfl rfl rfl rfl rfl ?_
          refine w_goto (n := 87) (off := (-135)) (by decide +kernel) (by decide) ?_
          exact h
        · rw [if_neg c56] at h
          refine w_icmp_ge_n (n := 143) (off := 6) (by decide +kernel) rfl c56 ?_
          refine w_goto (n := 219) (off := 76) (by decide +kernel) (by decide) ?_
          refine w_iinc (n := 222) (i := 1) (v := 1) (y := y1 + 1) (l1' := [some (.ref 483), some (.int (y1 + 1))]) (l2' := []) (by decide +kernel) rfl rfl rfl rfl rfl ?_
          refine w_goto (n := 87) (off := (-135)) (by decide +kernel) (by decide) ?_
          exact h
theorem t_211 {X : ak_X} {M : ak_M} {r : ak_O × ak_M} (hL : ab_lay M) (h : sg X 211 (2, [some (.ref 483), some (.int 0), none], [], []) M r) : rn X 211 [.ref 483] M r := by
  refine w_rn (nL := 3) (l1 := [some (.ref 483), none, none]) (by decide +kernel) rfl rfl ?_
  refine w_iconst (n := 1) (v := 0) (x := 0) (by decide +kernel) rfl (by decide) ?_
  refine w_istore_n (n := 2) (i := 1) (l1' := [some (.ref 483), some (.int 0), none]) (l2' := []) (by decide +kernel) rfl (Nat.le_of_ble_eq_true rfl) rfl rfl ?_
  exact h
theorem t_211_2 {X : ak_X} {M : ak_M} {r : ak_O × ak_M} (hL : ab_lay M) (y1 : Int32) (o2 : Option Value) (h : (∃ (v2 : Int32) (M1 : ak_M), ab_lay M1 ∧ rn X 168 [.ref 483] M (.inl (some (.int v2)), M1) ∧ (if v2 ≤ y1 then sg X 211 (66, [some (.ref 483), some (.int 0), o2], [], []) M1 r else (∃ i3 : Nat, ab_ix y1 i3 10 ∧ (if ak_I M1 494 i3 = 0 then sg X 211 (2, [some (.ref 483), some (.int (y1 + 1)), o2], [], []) M1 r else (∃ (M4 : ak_M), ab_lay M4 ∧ rn X 205 [.ref 483, .int y1] M1 (.inl (none), M4) ∧ (∃ (M5 : ak_M), ab_lay M5 ∧ rn X 206 [.ref 483, .int y1] M4 (.inl (none), M5) ∧ (∃ (v7 : Int32) (M6 : ak_M), ab_lay M6 ∧ rn X 171 [.ref 483, .int y1, .int 3] M5 (.inl (some (.int v7)), M6) ∧ (if v7 ≤ 0 then (∃ (M8 : ak_M), ab_lay M8 ∧ rn X 172 [.ref 483, .int y1, .int 0, .int 3] M6 (.inl (none), M8) ∧ (∃ (M9 : ak_M), ab_lay M9 ∧ rn X 187 [.ref 483, .int 2, .int y1, .int ((-1))] M8 (.inl (none), M9) ∧ sg X 211 (2, [some (.ref 483), some (.int (y1 + 1)), o2], [], []) M9 r)) else sg X 211 (2, [some (.ref 483), some (.int (y1 + 1)), o2], [], []) M6 r))))))))) : sg X 211 (2, [some (.ref 483), some (.int y1), o2], [], []) M r := by
  refine w_iload_n (n := 3) (i := 1) (by decide +kernel) rfl rfl ?_
  refine w_aload_n (n := 4) (i := 0) (by decide +kernel) rfl rfl ?_
  obtain ⟨v2, M1, hLM1, hr18, h⟩ := h
  refine w_cV (n := 7) (idx := 80) (cal := 168) (na := 0) (nl := 1) (as := []) (rest := [.int y1]) hL (by decide +kernel) (by decide +kernel) (at_483) (by decide +kernel) rfl rfl rfl (Nat.le_of_ble_eq_true rfl) rfl hr18 ?_
  by_cases c17 : v2 ≤ y1
  · rw [if_pos c17] at h
    refine w_icmp_ge_j (n := 64) (off := 57) (by decide +kernel) (by decide) c17 ?_
    refine w_iconst (n := 65) (v := 0) (x := 0) (by decide +kernel) rfl (by decide) ?_
    refine w_istore_n (n := 66) (i := 1) (l1' := [some (.ref 483), some (.int 0), o2]) (l2' := []) (by decide +kernel) rfl (Nat.le_of_ble_eq_true rfl) rfl rfl ?_
    exact h
  · rw [if_neg c17] at h
    refine w_icmp_ge_n (n := 10) (off := 57) (by decide +kernel) rfl c17 ?_
    refine w_aload_n (n := 11) (i := 0) (by decide +kernel) rfl rfl ?_
    refine w_getR (n := 14) hLM1 (by decide +kernel) oO_211 fF_12_40 (at_483) (by decide) (ar_483_15) rfl ?_
    refine w_iload_n (n := 15) (i := 1) (by decide +kernel) rfl rfl ?_
    obtain ⟨i3, gi3, h⟩ := h
    refine w_bald (n := 16) hLM1 (by decide +kernel) (at_494) (by decide) (an_494) gi3 rfl ?_
    by_cases c16 : ak_I M1 494 i3 = 0
    · rw [if_pos c16] at h
      refine w_if_ne_n (n := 19) (off := 6) (by decide +kernel) rfl c16 ?_
      refine w_goto (n := 58) (off := 39) (by decide +kernel) (by decide) ?_
      refine w_iinc (n := 61) (i := 1) (v := 1) (y := y1 + 1) (l1' := [some (.ref 483), some (.int (y1 + 1)), o2]) (l2' := []) (by decide +kernel) rfl rfl rfl rfl rfl ?_
      refine w_goto (n := 2) (off := (-59)) (by decide +kernel) (by decide) ?_
      exact h
    · rw [if_neg c16] at h
      refine w_if_ne_j (n := 22) (off := 6) (by decide +kernel) (by decide) c16 ?_
      refine w_aload_n (n := 23) (i := 0) (by decide +kernel) rfl rfl ?_
      refine w_iload_n (n := 24) (i := 1) (by decide +kernel) rfl rfl ?_
      obtain ⟨M4, hLM4, hr15, h⟩ := h
      refine w_cV (n := 27) (idx := 200) (cal := 205) (na := 1) (nl := 2) (as := [.int y1]) (rest := []) hLM1 (by decide +kernel) (by decide +kernel) (at_483) (by decide +kernel) rfl rfl rfl (Nat.le_of_ble_eq_true rfl) rfl hr15 ?_
      refine w_aload_n (n := 28) (i := 0) (by decide +kernel) rfl rfl ?_
      refine w_iload_n (n := 29) (i := 1) (by decide +kernel) rfl rfl ?_
      obtain ⟨M5, hLM5, hr14, h⟩ := h
      refine w_cV (n := 32) (idx := 207) (cal := 206) (na := 1) (nl := 2) (as := [.int y1]) (rest := []) hLM4 (by decide +kernel) (by decide +kernel) (at_483) (by decide +kernel) rfl rfl rfl (Nat.le_of_ble_eq_true rfl) rfl hr14 ?_
      refine w_aload_n (n := 33) (i := 0) (by decide +kernel) rfl rfl ?_
      refine w_iload_n (n := 34) (i := 1) (by decide +kernel) rfl rfl ?_
      refine w_iconst (n := 35) (v := 3) (x := 3) (by decide +kernel) rfl (by decide) ?_
      obtain ⟨v7, M6, hLM6, hr13, h⟩ := h
      refine w_cV (n := 38) (idx := 92) (cal := 171) (na := 2) (nl := 3) (as := [.int y1, .int 3]) (rest := []) hLM5 (by decide +kernel) (by decide +kernel) (at_483) (by decide +kernel) rfl rfl rfl (Nat.le_of_ble_eq_true rfl) rfl hr13 ?_
      by_cases c12 : v7 ≤ 0
      · rw [if_pos c12] at h
        refine w_if_le_j (n := 44) (off := 6) (by decide +kernel) (by decide) c12 ?_
        refine w_aload_n (n := 45) (i := 0) (by decide +kernel) rfl rfl ?_
        refine w_iload_n (n := 46) (i := 1) (by decide +kernel) rfl rfl ?_
        refine w_iconst (n := 47) (v := 0) (x := 0) (by decide +kernel) rfl (by decide) ?_
        refine w_iconst (n := 48) (v := 3) (x := 3) (by decide +kernel) rfl (by decide) ?_
        obtain ⟨M8, hLM8, hr11, h⟩ := h
        refine w_cV (n := 51) (idx := 96) (cal := 172) (na := 3) (nl := 4) (as := [.int y1, .int 0, .int 3]) (rest := []) hLM6 (by decide +kernel) (by decide +kernel) (at_483) (by decide +kernel) rfl rfl rfl (Nat.le_of_ble_eq_true rfl) rfl hr11 ?_
        refine w_aload_n (n := 52) (i := 0) (by decide +kernel) rfl rfl ?_
        refine w_iconst (n := 53) (v := 2) (x := 2) (by decide +kernel) rfl (by decide) ?_
        refine w_iload_n (n := 54) (i := 1) (by decide +kernel) rfl rfl ?_
        refine w_iconst (n := 55) (v := -1) (x := (-1)) (by decide +kernel) rfl (by decide) ?_
        obtain ⟨M9, hLM9, hr10, h⟩ := h
        refine w_cV (n := 58) (idx := 213) (cal := 187) (na := 3) (nl := 4) (as := [.int 2, .int y1, .int ((-1))]) (rest := []) hLM8 (by decide +kernel) (by decide +kernel) (at_483) (by decide +kernel) rfl rfl rfl (Nat.le_of_ble_eq_true rfl) rfl hr10 ?_
        refine w_iinc (n := 61) (i := 1) (v := 1) (y := y1 + 1) (l1' := [some (.ref 483), some (.int (y1 + 1)), o2]) (l2' := []) (by decide +kernel) rfl rfl rfl rfl rfl ?_
        refine w_goto (n := 2) (off := (-59)) (by decide +kernel) (by decide) ?_
        exact h
      · rw [if_neg c12] at h
        refine w_if_le_n (n := 41) (off := 6) (by decide +kernel) rfl c12 ?_
        refine w_goto (n := 58) (off := 17) (by decide +kernel) (by decide) ?_
        refine w_iinc (n := 61) (i := 1) (v := 1) (y := y1 + 1) (l1' := [some (.ref 483), some (.int (y1 + 1)), o2]) (l2' := []) (by decide +kernel) rfl rfl rfl rfl rfl ?_
        refine w_goto (n := 2) (off := (-59)) (by decide +kernel) (by decide) ?_
        exact h
theorem t_211_66 {X : ak_X} {M : ak_M} {r : ak_O × ak_M} (hL : ab_lay M) (y1 : Int32) (o2 : Option Value) (h : (∃ (v20 : Int32) (M19 : ak_M), ab_lay M19 ∧ rn X 168 [.ref 483] M (.inl (some (.int v20)), M19) ∧ (if v20 ≤ y1 then r = (.inl none, M19) else (∃ (v22 : Int32) (M21 : ak_M), ab_lay M21 ∧ rn X 171 [.ref 483, .int y1, .int 0] M19 (.inl (some (.int v22)), M21) ∧ (if v22 = 3 then (∃ (v24 : Int32) (M23 : ak_M), ab_lay M23 ∧ rn X 171 [.ref 483, .int y1, .int 1] M21 (.inl (some (.int v24)), M23) ∧ (∃ (v26 : Int32) (M25 : ak_M), ab_lay M25 ∧ rn X 171 [.ref 483, .int y1, .int 2] M23 (.inl (some (.int v26)), M25) ∧ (∃ (v28 : Int32) (M27 : ak_M), ab_lay M27 ∧ rn X 203 [.ref 483, .int v24, .int v26, .int y1] M25 (.inl (some (.int v28)), M27) ∧ (if v28 = (-1) then sg X 211 (66, [some (.ref 483), some (.int (y1 + 1)), some (.int v28)], [], []) M27 r else (∃ (M29 : ak_M), ab_lay M29 ∧ rn X 172 [.ref 483, .int y1, .int 0, .int 4] M27 (.inl (none), M29) ∧ (∃ (M30 : ak_M), ab_lay M30 ∧ rn X 172 [.ref 483, .int y1, .int 12, .int v28] M29 (.inl (none), M30) ∧ (∃ (M31 : ak_M), ab_lay M31 ∧ rn X 173 [.ref 483, .int v28, .int 11, .int 2] M30 (.inl (none), M31) ∧ (∃ (M32 : ak_M), ab_lay M32 ∧ rn X 187 [.ref 483, .int 3, .int y1, .int v28] M31 (.inl (none), M32) ∧ sg X 211 (66, [some (.ref 483), some (.int (y1 + 1)), some (.int v28)], [], []) M32 r)))))))) else sg X 211 (66, [some (.ref 483), some (.int (y1 + 1)), o2], [], []) M21 r))))) : sg X 211 (66, [some (.ref 483), some (.int y1), o2], [], []) M r := by
  refine w_iload_n (n := 67) (i := 1) (by decide +kernel) rfl rfl ?_
  refine w_aload_n (n := 68) (i := 0) (by decide +kernel) rfl rfl ?_
  obtain ⟨v20, M19, hLM19, hr44, h⟩ := h
  refine w_cV (n := 71) (idx := 80) (cal := 168) (na := 0) (nl := 1) (as := []) (rest := [.int y1]) hL (by decide +kernel) (by decide +kernel) (at_483) (by decide +kernel) rfl rfl rfl (Nat.le_of_ble_eq_true rfl) rfl hr44 ?_
  by_cases c43 : v20 ≤ y1
  · rw [if_pos c43] at h
    refine w_icmp_ge_j (n := 149) (off := 78) (by decide +kernel) (by decide) c43 ?_
    subst h
    exact w_vreturn (by decide +kernel) (by decide +kernel)
  · rw [if_neg c43] at h
    refine w_icmp_ge_n (n := 74) (off := 78) (by decide +kernel) rfl c43 ?_
    refine w_aload_n (n := 75) (i := 0) (by decide +kernel) rfl rfl ?_
    refine w_iload_n (n := 76) (i := 1) (by decide +kernel) rfl rfl ?_
    refine w_iconst (n := 77) (v := 0) (x := 0) (by decide +kernel) rfl (by decide) ?_
    obtain ⟨v22, M21, hLM21, hr42, h⟩ := h
    refine w_cV (n := 80) (idx := 92) (cal := 171) (na := 2) (nl := 3) (as := [.int y1, .int 0]) (rest := []) hLM19 (by decide +kernel) (by decide +kernel) (at_483) (by decide +kernel) rfl rfl rfl (Nat.le_of_ble_eq_true rfl) rfl hr42 ?_
    refine w_iconst (n := 81) (v := 3) (x := 3) (by decide +kernel) rfl (by decide) ?_
    by_cases c41 : v22 = 3
    · rw [if_pos c41] at h
      refine w_icmp_eq_j (n := 87) (off := 6) (by decide +kernel) (by decide) c41 ?_
      refine w_aload_n (n := 88) (i := 0) (by decide +kernel) rfl rfl ?_
      refine w_aload_n (n := 89) (i := 0) (by decide +kernel) rfl rfl ?_
      refine w_iload_n (n := 90) (i := 1) (by decide +kernel) rfl rfl ?_
      refine w_iconst (n := 91) (v := 1) (x := 1) (by decide +kernel) rfl (by decide) ?_
      obtain ⟨v24, M23, hLM23, hr40, h⟩ := h
      refine w_cV (n := 94) (idx := 92) (cal := 171) (na := 2) (nl := 3) (as := [.int y1, .int 1]) (rest := [.ref 483]) hLM21 (by decide +kernel) (by decide +kernel) (at_483) (by decide +kernel) rfl rfl rfl (Nat.le_of_ble_eq_true rfl) rfl hr40 ?_
      refine w_aload_n (n := 95) (i := 0) (by decide +kernel) rfl rfl ?_
      refine w_iload_n (n := 96) (i := 1) (by decide +kernel) rfl rfl ?_
      refine w_iconst (n := 97) (v := 2) (x := 2) (by decide +kernel) rfl (by decide) ?_
      obtain ⟨v26, M25, hLM25, hr39, h⟩ := h
      refine w_cV (n := 100) (idx := 92) (cal := 171) (na := 2) (nl := 3) (as := [.int y1, .int 2]) (rest := [.int v24, .ref 483]) hLM23 (by decide +kernel) (by decide +kernel) (at_483) (by decide +kernel) rfl rfl rfl (Nat.le_of_ble_eq_true rfl) rfl hr39 ?_
      refine w_iload_n (n := 101) (i := 1) (by decide +kernel) rfl rfl ?_
      obtain ⟨v28, M27, hLM27, hr38, h⟩ := h
      refine w_cV (n := 104) (idx := 228) (cal := 203) (na := 3) (nl := 4) (as := [.int v24, .int v26, .int y1]) (rest := []) hLM25 (by decide +kernel) (by decide +kernel) (at_483) (by decide +kernel) rfl rfl rfl (Nat.le_of_ble_eq_true rfl) rfl hr38 ?_
      refine w_istore_n (n := 105) (i := 2) (l1' := [some (.ref 483), some (.int y1), some (.int v28)]) (l2' := []) (by decide +kernel) rfl (Nat.le_of_ble_eq_true rfl) rfl rfl ?_
      refine w_iload_n (n := 106) (i := 2) (by decide +kernel) rfl rfl ?_
      refine w_iconst (n := 107) (v := -1) (x := (-1)) (by decide +kernel) rfl (by decide) ?_
      by_cases c37 : v28 = (-1)
      · rw [if_pos c37] at h
        refine w_icmp_ne_n (n := 110) (off := 6) (by decide +kernel) rfl c37 ?_
        refine w_goto (n := 143) (off := 33) (by decide +kernel) (by decide) ?_
        refine w_iinc (n := 146) (i := 1) (v := 1) (y := y1 + 1) (l1' := [some (.ref 483), some (.int (y1 + 1)), some (.int v28)]) (l2' := []) (by decide +kernel) rfl rfl rfl rfl rfl ?_
        refine w_goto (n := 66) (off := (-80)) (by decide +kernel) (by decide) ?_
        exact h
      · rw [if_neg c37] at h
        refine w_icmp_ne_j (n := 113) (off := 6) (by decide +kernel) (by decide) c37 ?_
        refine w_aload_n (n := 114) (i := 0) (by decide +kernel) rfl rfl ?_
        refine w_iload_n (n := 115) (i := 1) (by decide +kernel) rfl rfl ?_
        refine w_iconst (n := 116) (v := 0) (x := 0) (by decide +kernel) rfl (by decide) ?_
        refine w_iconst (n := 117) (v := 4) (x := 4) (by decide +kernel) rfl (by decide) ?_
        obtain ⟨M29, hLM29, hr36, h⟩ := h
        refine w_cV (n := 120) (idx := 96) (cal := 172) (na := 3) (nl := 4) (as := [.int y1, .int 0, .int 4]) (rest := []) hLM27 (by decide +kernel) (by decide +kernel) (at_483) (by decide +kernel) rfl rfl rfl (Nat.le_of_ble_eq_true rfl) rfl hr36 ?_
        refine w_aload_n (n := 121) (i := 0) (by decide +kernel) rfl rfl ?_
        refine w_iload_n (n := 122) (i := 1) (by decide +kernel) rfl rfl ?_
        refine w_bipush (n := 124) (v := 12) (x := 12) (by decide +kernel) rfl (by decide) ?_
        refine w_iload_n (n := 125) (i := 2) (by decide +kernel) rfl rfl ?_
        obtain ⟨M30, hLM30, hr35, h⟩ := h
        refine w_cV (n := 128) (idx := 96) (cal := 172) (na := 3) (nl := 4) (as := [.int y1, .int 12, .int v28]) (rest := []) hLM29 (by decide +kernel) (by decide +kernel) (at_483) (by decide +kernel) rfl rfl rfl (Nat.le_of_ble_eq_true rfl) rfl hr35 ?_
        refine w_aload_n (n := 129) (i := 0) (by decide +kernel) rfl rfl ?_
        refine w_iload_n (n := 130) (i := 2) (by decide +kernel) rfl rfl ?_
        refine w_bipush (n := 132) (v := 11) (x := 11) (by decide +kernel) rfl (by decide) ?_
        refine w_iconst (n := 133) (v := 2) (x := 2) (by decide +kernel) rfl (by decide) ?_
        obtain ⟨M31, hLM31, hr34, h⟩ := h
        refine w_cV (n := 136) (idx := 197) (cal := 173) (na := 3) (nl := 4) (as := [.int v28, .int 11, .int 2]) (rest := []) hLM30 (by decide +kernel) (by decide +kernel) (at_483) (by decide +kernel) rfl rfl rfl (Nat.le_of_ble_eq_true rfl) rfl hr34 ?_
        refine w_aload_n (n := 137) (i := 0) (by decide +kernel) rfl rfl ?_
        refine w_iconst (n := 138) (v := 3) (x := 3) (by decide +kernel) rfl (by decide) ?_
        refine w_iload_n (n := 139) (i := 1) (by decide +kernel) rfl rfl ?_
        refine w_iload_n (n := 140) (i := 2) (by decide +kernel) rfl rfl ?_
        obtain ⟨M32, hLM32, hr33, h⟩ := h
        refine w_cV (n := 143) (idx := 213) (cal := 187) (na := 3) (nl := 4) (as := [.int 3, .int y1, .int v28]) (rest := []) hLM31 (by decide +kernel) (by decide +kernel) (at_483) (by decide +kernel) rfl rfl rfl (Nat.le_of_ble_eq_true rfl) rfl hr33 ?_
        refine w_iinc (n := 146) (i := 1) (v := 1) (y := y1 + 1) (l1' := [some (.ref 483), some (.int (y1 + 1)), some (.int v28)]) (l2' := []) (by decide +kernel) rfl rfl rfl rfl rfl ?_
        refine w_goto (n := 66) (off := (-80)) (by decide +kernel) (by decide) ?_
        exact h
    · rw [if_neg c41] at h
      refine w_icmp_eq_n (n := 84) (off := 6) (by decide +kernel) rfl c41 ?_
      refine w_goto (n := 143) (off := 59) (by decide +kernel) (by decide) ?_
      refine w_iinc (n := 146) (i := 1) (v := 1) (y := y1 + 1) (l1' := [some (.ref 483), some (.int (y1 + 1)), o2]) (l2' := []) (by decide +kernel) rfl rfl rfl rfl rfl ?_
      refine w_goto (n := 66) (off := (-80)) (by decide +kernel) (by decide) ?_
      exact h
theorem t_212 {X : ak_X} {M : ak_M} {r : ak_O × ak_M} (hL : ab_lay M) (h : sg X 212 (2, [some (.ref 483), some (.int 0)], [], []) M r) : rn X 212 [.ref 483] M r := by
  refine w_rn (nL := 2) (l1 := [some (.ref 483), none]) (by decide +kernel) rfl rfl ?_
  refine w_iconst (n := 1) (v := 0) (x := 0) (by decide +kernel) rfl (by decide) ?_
  refine w_istore_n (n := 2) (i := 1) (l1' := [some (.ref 483), some (.int 0)]) (l2' := []) (by decide +kernel) rfl (Nat.le_of_ble_eq_true rfl) rfl rfl ?_
  exact h
theorem t_212_2 {X : ak_X} {M : ak_M} {r : ak_O × ak_M} (hL : ab_lay M) (y1 : Int32) (h : (∃ (v2 : Int32) (M1 : ak_M), ab_lay M1 ∧ rn X 168 [.ref 483] M (.inl (some (.int v2)), M1) ∧ (if v2 ≤ y1 then sg X 212 (39, [some (.ref 483), some (.int 0)], [], []) M1 r else (∃ (v4 : Int32) (M3 : ak_M), ab_lay M3 ∧ rn X 171 [.ref 483, .int y1, .int 0] M1 (.inl (some (.int v4)), M3) ∧ (if v4 = 2 then (∃ i7 : Nat, ab_ix y1 i7 10 ∧ (∀ M8 : ak_M, M8 = ak_sI M3 494 i7 (vp_nar .boolean 1) → sg X 212 (2, [some (.ref 483), some (.int (y1 + 1))], [], []) M8 r)) else (∃ i5 : Nat, ab_ix y1 i5 10 ∧ (∀ M6 : ak_M, M6 = ak_sI M3 494 i5 (vp_nar .boolean 0) → sg X 212 (2, [some (.ref 483), some (.int (y1 + 1))], [], []) M6 r))))))) : sg X 212 (2, [some (.ref 483), some (.int y1)], [], []) M r := by
  refine w_iload_n (n := 3) (i := 1) (by decide +kernel) rfl rfl ?_
  refine w_aload_n (n := 4) (i := 0) (by decide +kernel) rfl rfl ?_
  obtain ⟨v2, M1, hLM1, hr12, h⟩ := h
  refine w_cV (n := 7) (idx := 80) (cal := 168) (na := 0) (nl := 1) (as := []) (rest := [.int y1]) hL (by decide +kernel) (by decide +kernel) (at_483) (by decide +kernel) rfl rfl rfl (Nat.le_of_ble_eq_true rfl) rfl hr12 ?_
  by_cases c11 : v2 ≤ y1
  · rw [if_pos c11] at h
    refine w_icmp_ge_j (n := 37) (off := 30) (by decide +kernel) (by decide) c11 ?_
    refine w_iconst (n := 38) (v := 0) (x := 0) (by decide +kernel) rfl (by decide) ?_
    refine w_istore_n (n := 39) (i := 1) (l1' := [some (.ref 483), some (.int 0)]) (l2' := []) (by decide +kernel) rfl (Nat.le_of_ble_eq_true rfl) rfl rfl ?_
    exact h
  · rw [if_neg c11] at h
    refine w_icmp_ge_n (n := 10) (off := 30) (by decide +kernel) rfl c11 ?_
    refine w_aload_n (n := 11) (i := 0) (by decide +kernel) rfl rfl ?_
    refine w_getR (n := 14) hLM1 (by decide +kernel) oO_212 fF_12_40 (at_483) (by decide) (ar_483_15) rfl ?_
    refine w_iload_n (n := 15) (i := 1) (by decide +kernel) rfl rfl ?_
    refine w_aload_n (n := 16) (i := 0) (by decide +kernel) rfl rfl ?_
    refine w_iload_n (n := 17) (i := 1) (by decide +kernel) rfl rfl ?_
    refine w_iconst (n := 18) (v := 0) (x := 0) (by decide +kernel) rfl (by decide) ?_
    obtain ⟨v4, M3, hLM3, hr10, h⟩ := h
    refine w_cV (n := 21) (idx := 92) (cal := 171) (na := 2) (nl := 3) (as := [.int y1, .int 0]) (rest := [.int y1, .ref 494]) hLM1 (by decide +kernel) (by decide +kernel) (at_483) (by decide +kernel) rfl rfl rfl (Nat.le_of_ble_eq_true rfl) rfl hr10 ?_
    refine w_iconst (n := 22) (v := 2) (x := 2) (by decide +kernel) rfl (by decide) ?_
    by_cases c9 : v4 = 2
    · rw [if_pos c9] at h
      refine w_icmp_ne_n (n := 25) (off := 7) (by decide +kernel) rfl c9 ?_
      refine w_iconst (n := 26) (v := 1) (x := 1) (by decide +kernel) rfl (by decide) ?_
      refine w_goto (n := 30) (off := 4) (by decide +kernel) (by decide) ?_
      obtain ⟨i7, gi7, h⟩ := h
      refine w_zast (n := 31) hLM3 (by decide +kernel) (at_494) (an_494) gi7 rfl ?_
      generalize eM8 : ak_sI M3 494 i7 (vp_nar .boolean 1) = M8
      have hLM8 : ab_lay M8 := by rw [← eM8]; exact ab_lay.sI hLM3
      replace h := h M8 eM8.symm
      refine w_iinc (n := 34) (i := 1) (v := 1) (y := y1 + 1) (l1' := [some (.ref 483), some (.int (y1 + 1))]) (l2' := []) (by decide +kernel) rfl rfl rfl rfl rfl ?_
      refine w_goto (n := 2) (off := (-32)) (by decide +kernel) (by decide) ?_
      exact h
    · rw [if_neg c9] at h
      refine w_icmp_ne_j (n := 29) (off := 7) (by decide +kernel) (by decide) c9 ?_
      refine w_iconst (n := 30) (v := 0) (x := 0) (by decide +kernel) rfl (by decide) ?_
      obtain ⟨i5, gi5, h⟩ := h
      refine w_zast (n := 31) hLM3 (by decide +kernel) (at_494) (an_494) gi5 rfl ?_
      generalize eM6 : ak_sI M3 494 i5 (vp_nar .boolean 0) = M6
      have hLM6 : ab_lay M6 := by rw [← eM6]; exact ab_lay.sI hLM3
      replace h := h M6 eM6.symm
      refine w_iinc (n := 34) (i := 1) (v := 1) (y := y1 + 1) (l1' := [some (.ref 483), some (.int (y1 + 1))]) (l2' := []) (by decide +kernel) rfl rfl rfl rfl rfl ?_
      refine w_goto (n := 2) (off := (-32)) (by decide +kernel) (by decide) ?_
      exact h
theorem t_212_39 {X : ak_X} {M : ak_M} {r : ak_O × ak_M} (hL : ab_lay M) (y1 : Int32) (h : (∃ (v14 : Int32) (M13 : ak_M), ab_lay M13 ∧ rn X 168 [.ref 483] M (.inl (some (.int v14)), M13) ∧ (if v14 ≤ y1 then (∃ (M15 : ak_M), ab_lay M15 ∧ rn X 210 [.ref 483] M13 (.inl (none), M15) ∧ (∃ (M16 : ak_M), ab_lay M16 ∧ rn X 211 [.ref 483] M15 (.inl (none), M16) ∧ (∃ i17 : Nat, ab_ix 0 i17 245 ∧ (∃ i18 : Nat, ab_ix 0 i18 245 ∧ (∀ M19 : ak_M, M19 = ak_sI M16 484 i18 ((ak_I M16 484 i17) + 1) → r = (.inl none, M19)))))) else (∃ (v23 : Int32) (M22 : ak_M), ab_lay M22 ∧ rn X 175 [.ref 483, .int y1] M13 (.inl (some (.int v23)), M22) ∧ (if v23 = 0 then sg X 212 (39, [some (.ref 483), some (.int (y1 + 1))], [], []) M22 r else (∃ (M24 : ak_M), ab_lay M24 ∧ rn X 209 [.ref 483, .int y1] M22 (.inl (none), M24) ∧ sg X 212 (39, [some (.ref 483), some (.int (y1 + 1))], [], []) M24 r)))))) : sg X 212 (39, [some (.ref 483), some (.int y1)], [], []) M r := by
  refine w_iload_n (n := 40) (i := 1) (by decide +kernel) rfl rfl ?_
  refine w_aload_n (n := 41) (i := 0) (by decide +kernel) rfl rfl ?_
  obtain ⟨v14, M13, hLM13, hr29, h⟩ := h
  refine w_cV (n := 44) (idx := 80) (cal := 168) (na := 0) (nl := 1) (as := []) (rest := [.int y1]) hL (by decide +kernel) (by decide +kernel) (at_483) (by decide +kernel) rfl rfl rfl (Nat.le_of_ble_eq_true rfl) rfl hr29 ?_
  by_cases c28 : v14 ≤ y1
  · rw [if_pos c28] at h
    refine w_icmp_ge_j (n := 66) (off := 22) (by decide +kernel) (by decide) c28 ?_
    refine w_aload_n (n := 67) (i := 0) (by decide +kernel) rfl rfl ?_
    obtain ⟨M15, hLM15, hr21, h⟩ := h
    refine w_cV (n := 70) (idx := 234) (cal := 210) (na := 0) (nl := 1) (as := []) (rest := []) hLM13 (by decide +kernel) (by decide +kernel) (at_483) (by decide +kernel) rfl rfl rfl (Nat.le_of_ble_eq_true rfl) rfl hr21 ?_
    refine w_aload_n (n := 71) (i := 0) (by decide +kernel) rfl rfl ?_
    obtain ⟨M16, hLM16, hr20, h⟩ := h
    refine w_cV (n := 74) (idx := 237) (cal := 211) (na := 0) (nl := 1) (as := []) (rest := []) hLM15 (by decide +kernel) (by decide +kernel) (at_483) (by decide +kernel) rfl rfl rfl (Nat.le_of_ble_eq_true rfl) rfl hr20 ?_
    refine w_aload_n (n := 75) (i := 0) (by decide +kernel) rfl rfl ?_
    refine w_getR (n := 78) hLM16 (by decide +kernel) oO_212 fF_12_7 (at_483) (by decide) (ar_483_1) rfl ?_
    refine w_iconst (n := 79) (v := 0) (x := 0) (by decide +kernel) rfl (by decide) ?_
    refine w_aload_n (n := 80) (i := 0) (by decide +kernel) rfl rfl ?_
    refine w_getR (n := 83) hLM16 (by decide +kernel) oO_212 fF_12_7 (at_483) (by decide) (ar_483_1) rfl ?_
    refine w_iconst (n := 84) (v := 0) (x := 0) (by decide +kernel) rfl (by decide) ?_
    obtain ⟨i17, gi17, h⟩ := h
    refine w_iald (n := 85) hLM16 (by decide +kernel) (at_484) (an_484) gi17 rfl ?_
    refine w_iconst (n := 86) (v := 1) (x := 1) (by decide +kernel) rfl (by decide) ?_
    refine w_iadd (n := 87) (by decide +kernel) rfl ?_
    obtain ⟨i18, gi18, h⟩ := h
    refine w_iast (n := 88) hLM16 (by decide +kernel) (at_484) (an_484) gi18 rfl ?_
    generalize eM19 : ak_sI M16 484 i18 ((ak_I M16 484 i17) + 1) = M19
    have hLM19 : ab_lay M19 := by rw [← eM19]; exact ab_lay.sI hLM16
    replace h := h M19 eM19.symm
    subst h
    exact w_vreturn (by decide +kernel) (by decide +kernel)
  · rw [if_neg c28] at h
    refine w_icmp_ge_n (n := 47) (off := 22) (by decide +kernel) rfl c28 ?_
    refine w_aload_n (n := 48) (i := 0) (by decide +kernel) rfl rfl ?_
    refine w_iload_n (n := 49) (i := 1) (by decide +kernel) rfl rfl ?_
    obtain ⟨v23, M22, hLM22, hr27, h⟩ := h
    refine w_cV (n := 52) (idx := 99) (cal := 175) (na := 1) (nl := 2) (as := [.int y1]) (rest := []) hLM13 (by decide +kernel) (by decide +kernel) (at_483) (by decide +kernel) rfl rfl rfl (Nat.le_of_ble_eq_true rfl) rfl hr27 ?_
    by_cases c26 : v23 = 0
    · rw [if_pos c26] at h
      refine w_if_eq_j (n := 60) (off := 8) (by decide +kernel) (by decide) c26 ?_
      refine w_iinc (n := 63) (i := 1) (v := 1) (y := y1 + 1) (l1' := [some (.ref 483), some (.int (y1 + 1))]) (l2' := []) (by decide +kernel) rfl rfl rfl rfl rfl ?_
      refine w_goto (n := 39) (off := (-24)) (by decide +kernel) (by decide) ?_
      exact h
    · rw [if_neg c26] at h
      refine w_if_eq_n (n := 55) (off := 8) (by decide +kernel) rfl c26 ?_
      refine w_aload_n (n := 56) (i := 0) (by decide +kernel) rfl rfl ?_
      refine w_iload_n (n := 57) (i := 1) (by decide +kernel) rfl rfl ?_
      obtain ⟨M24, hLM24, hr25, h⟩ := h
      refine w_cV (n := 60) (idx := 231) (cal := 209) (na := 1) (nl := 2) (as := [.int y1]) (rest := []) hLM22 (by decide +kernel) (by decide +kernel) (at_483) (by decide +kernel) rfl rfl rfl (Nat.le_of_ble_eq_true rfl) rfl hr25 ?_
      refine w_iinc (n := 63) (i := 1) (v := 1) (y := y1 + 1) (l1' := [some (.ref 483), some (.int (y1 + 1))]) (l2' := []) (by decide +kernel) rfl rfl rfl rfl rfl ?_
      refine w_goto (n := 39) (off := (-24)) (by decide +kernel) (by decide) ?_
      exact h
theorem t_213 {X : ak_X} {M : ak_M} {r : ak_O × ak_M} (hL : ab_lay M) (x1 : Int32) (h : sg X 213 (2, [some (.ref 483), some (.int x1), some (.int 0)], [], []) M r) : rn X 213 [.ref 483, .int x1] M r := by
  refine w_rn (nL := 3) (l1 := [some (.ref 483), some (.int x1), none]) (by decide +kernel) rfl rfl ?_
  refine w_iconst (n := 1) (v := 0) (x := 0) (by decide +kernel) rfl (by decide) ?_
  refine w_istore_n (n := 2) (i := 2) (l1' := [some (.ref 483), some (.int x1), some (.int 0)]) (l2' := []) (by decide +kernel) rfl (Nat.le_of_ble_eq_true rfl) rfl rfl ?_
  exact h
theorem t_213_2 {X : ak_X} {M : ak_M} {r : ak_O × ak_M} (hL : ab_lay M) (x1 : Int32) (y2 : Int32) (h : (if x1 ≤ y2 then r = (.inl none, M) else (∃ i1 : Nat, ab_ix 0 i1 245 ∧ (if 5000 ≤ ak_I M 484 i1 then r = (.inl none, M) else (∃ (M2 : ak_M), ab_lay M2 ∧ rn X 212 [.ref 483] M (.inl (none), M2) ∧ sg X 213 (2, [some (.ref 483), some (.int x1), some (.int (y2 + 1))], [], []) M2 r))))) : sg X 213 (2, [some (.ref 483), some (.int x1), some (.int y2)], [], []) M r := by
  refine w_iload_n (n := 3) (i := 2) (by decide +kernel) rfl rfl ?_
  refine w_iload_n (n := 4) (i := 1) (by decide +kernel) rfl rfl ?_
  by_cases c5 : x1 ≤ y2
  · rw [if_pos c5] at h
    refine w_icmp_ge_j (n := 29) (off := 25) (by decide +kernel) (by decide) c5 ?_
    subst h
    exact w_vreturn (by decide +kernel) (by decide +kernel)
  · rw [if_neg c5] at h
    refine w_icmp_ge_n (n := 7) (off := 25) (by decide +kernel) rfl c5 ?_
    refine w_aload_n (n := 8) (i := 0) (by decide +kernel) rfl rfl ?_
    refine w_getR (n := 11) hL (by decide +kernel) oO_213 fF_12_7 (at_483) (by decide) (ar_483_1) rfl ?_
    refine w_iconst (n := 12) (v := 0) (x := 0) (by decide +kernel) rfl (by decide) ?_
    obtain ⟨i1, gi1, h⟩ := h
    refine w_iald (n := 13) hL (by decide +kernel) (at_484) (an_484) gi1 rfl ?_
    refine w_sipush (n := 16) (v := 5000) (x := 5000) (by decide +kernel) rfl (by decide) ?_
    by_cases c4 : 5000 ≤ ak_I M 484 i1
    · rw [if_pos c4] at h
      refine w_icmp_ge_j (n := 29) (off := 13) (by decide +kernel) (by decide) c4 ?_
      subst h
      exact w_vreturn (by decide +kernel) (by decide +kernel)
    · rw [if_neg c4] at h
      refine w_icmp_ge_n (n := 19) (off := 13) (by decide +kernel) rfl c4 ?_
      refine w_aload_n (n := 20) (i := 0) (by decide +kernel) rfl rfl ?_
      obtain ⟨M2, hLM2, hr3, h⟩ := h
      refine w_cV (n := 23) (idx := 240) (cal := 212) (na := 0) (nl := 1) (as := []) (rest := []) hL (by decide +kernel) (by decide +kernel) (at_483) (by decide +kernel) rfl rfl rfl (Nat.le_of_ble_eq_true rfl) rfl hr3 ?_
      refine w_iinc (n := 26) (i := 2) (v := 1) (y := y2 + 1) (l1' := [some (.ref 483), some (.int x1), some (.int (y2 + 1))]) (l2' := []) (by decide +kernel) rfl rfl rfl rfl rfl ?_
      refine w_goto (n := 2) (off := (-24)) (by decide +kernel) (by decide) ?_
      exact h
theorem t_214 {X : ak_X} {M : ak_M} {r : ak_O × ak_M} (hL : ab_lay M) (x1 : Int32) (h : sg X 214 (4, [some (.ref 483), some (.int x1), some (.int 0), some (.int 0)], [], []) M r) : rn X 214 [.ref 483, .int x1] M r := by
  refine w_rn (nL := 4) (l1 := [some (.ref 483), some (.int x1), none, none]) (by decide +kernel) rfl rfl ?_
  refine w_iconst (n := 1) (v := 0) (x := 0) (by decide +kernel) rfl (by decide) ?_
  refine w_istore_n (n := 2) (i := 2) (l1' := [some (.ref 483), some (.int x1), some (.int 0), none]) (l2' := []) (by decide +kernel) rfl (Nat.le_of_ble_eq_true rfl) rfl rfl ?_
  refine w_iconst (n := 3) (v := 0) (x := 0) (by decide +kernel) rfl (by decide) ?_
  refine w_istore_n (n := 4) (i := 3) (l1' := [some (.ref 483), some (.int x1), some (.int 0), some (.int 0)]) (l2' := []) (by decide +kernel) rfl (Nat.le_of_ble_eq_true rfl) rfl rfl ?_
  exact h
theorem t_214_4 {X : ak_X} {M : ak_M} {r : ak_O × ak_M} (hL : ab_lay M) (x1 : Int32) (y2 : Int32) (y3 : Int32) (h : (∃ (v2 : Int32) (M1 : ak_M), ab_lay M1 ∧ rn X 168 [.ref 483] M (.inl (some (.int v2)), M1) ∧ (if v2 ≤ y3 then r = (.inl (some (.int y2)), M1) else (∃ (v4 : Int32) (M3 : ak_M), ab_lay M3 ∧ rn X 171 [.ref 483, .int y3, .int 0] M1 (.inl (some (.int v4)), M3) ∧ (if v4 = x1 then sg X 214 (4, [some (.ref 483), some (.int x1), some (.int (y2 + 1)), some (.int (y3 + 1))], [], []) M3 r else sg X 214 (4, [some (.ref 483), some (.int x1), some (.int y2), some (.int (y3 + 1))], [], []) M3 r))))) : sg X 214 (4, [some (.ref 483), some (.int x1), some (.int y2), some (.int y3)], [], []) M r := by
  refine w_iload_n (n := 5) (i := 3) (by decide +kernel) rfl rfl ?_
  refine w_aload_n (n := 6) (i := 0) (by decide +kernel) rfl rfl ?_
  obtain ⟨v2, M1, hLM1, hr8, h⟩ := h
  refine w_cV (n := 9) (idx := 80) (cal := 168) (na := 0) (nl := 1) (as := []) (rest := [.int y3]) hL (by decide +kernel) (by decide +kernel) (at_483) (by decide +kernel) rfl rfl rfl (Nat.le_of_ble_eq_true rfl) rfl hr8 ?_
  by_cases c7 : v2 ≤ y3
  · rw [if_pos c7] at h
    refine w_icmp_ge_j (n := 32) (off := 23) (by decide +kernel) (by decide) c7 ?_
    refine w_iload_n (n := 33) (i := 2) (by decide +kernel) rfl rfl ?_
    subst h
    exact w_ireturn (by decide +kernel) (w_okI (by decide +kernel))
  · rw [if_neg c7] at h
    refine w_icmp_ge_n (n := 12) (off := 23) (by decide +kernel) rfl c7 ?_
    refine w_aload_n (n := 13) (i := 0) (by decide +kernel) rfl rfl ?_
    refine w_iload_n (n := 14) (i := 3) (by decide +kernel) rfl rfl ?_
    refine w_iconst (n := 15) (v := 0) (x := 0) (by decide +kernel) rfl (by decide) ?_
    obtain ⟨v4, M3, hLM3, hr6, h⟩ := h
    refine w_cV (n := 18) (idx := 92) (cal := 171) (na := 2) (nl := 3) (as := [.int y3, .int 0]) (rest := []) hLM1 (by decide +kernel) (by decide +kernel) (at_483) (by decide +kernel) rfl rfl rfl (Nat.le_of_ble_eq_true rfl) rfl hr6 ?_
    refine w_iload_n (n := 19) (i := 1) (by decide +kernel) rfl rfl ?_
    by_cases c5 : v4 = x1
    · rw [if_pos c5] at h
      refine w_icmp_ne_n (n := 22) (off := 7) (by decide +kernel) rfl c5 ?_
      refine w_iload_n (n := 23) (i := 2) (by decide +kernel) rfl rfl ?_
      refine w_iconst (n := 24) (v := 1) (x := 1) (by decide +kernel) rfl (by decide) ?_
      refine w_iadd (n := 25) (by decide +kernel) rfl ?_
      refine w_istore_n (n := 26) (i := 2) (l1' := [some (.ref 483), some (.int x1), some (.int (y2 + 1)), some (.int y3)]) (l2' := []) (by decide +kernel) rfl (Nat.le_of_ble_eq_true rfl) rfl rfl ?_
      refine w_iinc (n := 29) (i := 3) (v := 1) (y := y3 + 1) (l1' := [some (.ref 483), some (.int x1), some (.int (y2 + 1)), some (.int (y3 + 1))]) (l2' := []) (by decide +kernel) rfl rfl rfl rfl rfl ?_
      refine w_goto (n := 4) (off := (-25)) (by decide +kernel) (by decide) ?_
      exact h
    · rw [if_neg c5] at h
      refine w_icmp_ne_j (n := 26) (off := 7) (by decide +kernel) (by decide) c5 ?_
      refine w_iinc (n := 29) (i := 3) (v := 1) (y := y3 + 1) (l1' := [some (.ref 483), some (.int x1), some (.int y2), some (.int (y3 + 1))]) (l2' := []) (by decide +kernel) rfl rfl rfl rfl rfl ?_
      refine w_goto (n := 4) (off := (-25)) (by decide +kernel) (by decide) ?_
      exact h
theorem t_215 {X : ak_X} {M : ak_M} {r : ak_O × ak_M} (hL : ab_lay M) (x1 : Int32) (h : (∀ M1 : ak_M, M1 = ak_sI M 483 0 0 → (if x1 = 0 then (∃ (v3 : Int32) (M2 : ak_M), ab_lay M2 ∧ rn X 168 [.ref 483] M1 (.inl (some (.int v3)), M2) ∧ r = (.inl (some (.int v3)), M2)) else (if x1 = 1 then (∃ i5 : Nat, ab_ix 2 i5 245 ∧ r = (.inl (some (.int (ak_I M1 484 i5))), M1)) else (if x1 = 2 then (∃ i6 : Nat, ab_ix 0 i6 245 ∧ r = (.inl (some (.int (ak_I M1 484 i6))), M1)) else (if x1 = 3 then (∃ (v8 : Int32) (M7 : ak_M), ab_lay M7 ∧ rn X 214 [.ref 483, .int (x1 - 3)] M1 (.inl (some (.int v8)), M7) ∧ r = (.inl (some (.int v8)), M7)) else (if x1 = 4 then (∃ (v11 : Int32) (M10 : ak_M), ab_lay M10 ∧ rn X 214 [.ref 483, .int (x1 - 3)] M1 (.inl (some (.int v11)), M10) ∧ r = (.inl (some (.int v11)), M10)) else (if x1 = 5 then (∃ (v14 : Int32) (M13 : ak_M), ab_lay M13 ∧ rn X 214 [.ref 483, .int (x1 - 3)] M1 (.inl (some (.int v14)), M13) ∧ r = (.inl (some (.int v14)), M13)) else (if x1 = 6 then (∃ (v17 : Int32) (M16 : ak_M), ab_lay M16 ∧ rn X 214 [.ref 483, .int (x1 - 3)] M1 (.inl (some (.int v17)), M16) ∧ r = (.inl (some (.int v17)), M16)) else (if x1 = 7 then (∃ (v20 : Int32) (M19 : ak_M), ab_lay M19 ∧ rn X 214 [.ref 483, .int (x1 - 3)] M1 (.inl (some (.int v20)), M19) ∧ r = (.inl (some (.int v20)), M19)) else (if x1 = 8 then (∃ i22 : Nat, ab_ix 9 i22 245 ∧ r = (.inl (some (.int (ak_I M1 484 i22))), M1)) else (if x1 = 9 then (∃ i23 : Nat, ab_ix 10 i23 245 ∧ r = (.inl (some (.int (ak_I M1 484 i23))), M1)) else (if x1 = 10 then (∃ (v25 : Int32) (M24 : ak_M), ab_lay M24 ∧ rn X 202 [.ref 483, .int 0] M1 (.inl (some (.int v25)), M24) ∧ r = (.inl (some (.int v25)), M24)) else (if x1 = 11 then (∃ (v28 : Int32) (M27 : ak_M), ab_lay M27 ∧ rn X 202 [.ref 483, .int 1] M1 (.inl (some (.int v28)), M27) ∧ r = (.inl (some (.int v28)), M27)) else (if x1 = 12 then r = (.inl (some (.int (ak_I M1 483 7))), M1) else r = (.inl (some (.int ((-1)))), M1)))))))))))))))) : rn X 215 [.ref 483, .int x1] M r := by
  refine w_rn (nL := 2) (l1 := [some (.ref 483), some (.int x1)]) (by decide +kernel) rfl rfl ?_
  refine w_aload_n (n := 1) (i := 0) (by decide +kernel) rfl rfl ?_
  refine w_iconst (n := 2) (v := 0) (x := 0) (by decide +kernel) rfl (by decide) ?_
  refine w_putI (n := 5) hL (by decide +kernel) oO_215 fF_12_62 (at_483) ⟨by decide, Or.inl (by decide)⟩ rfl ?_
  generalize eM1 : ak_sI M 483 0 0 = M1
  have hLM1 : ab_lay M1 := by rw [← eM1]; exact ab_lay.sI hL
  replace h := h M1 eM1.symm
  refine w_iload_n (n := 6) (i := 1) (by decide +kernel) rfl rfl ?_
  by_cases c30 : x1 = 0
  · rw [if_pos c30] at h
    refine w_tsw (n := 72) (d := 126) (lo := 0) (hi := 12) (offs := #[66, 71, 78, 85, 85, 85, 85, 85, 93, 101, 109, 115, 121]) (o := 66) (by decide +kernel) (by rw [c30]; decide) (by decide) ?_
    refine w_aload_n (n := 73) (i := 0) (by decide +kernel) rfl rfl ?_
    obtain ⟨v3, M2, hLM2, hr4, h⟩ := h
    refine w_cV (n := 76) (idx := 80) (cal := 168) (na := 0) (nl := 1) (as := []) (rest := []) hLM1 (by decide +kernel) (by decide +kernel) (at_483) (by decide +kernel) rfl rfl rfl (Nat.le_of_ble_eq_true rfl) rfl hr4 ?_
    subst h
    exact w_ireturn (by decide +kernel) (w_okI (by decide +kernel))
  · rw [if_neg c30] at h
    by_cases c31 : x1 = 1
    · rw [if_pos c31] at h
      refine w_tsw (n := 77) (d := 126) (lo := 0) (hi := 12) (offs := #[66, 71, 78, 85, 85, 85, 85, 85, 93, 101, 109, 115, 121]) (o := 71) (by decide +kernel) (by rw [c31]; decide) (by decide) ?_
      refine w_aload_n (n := 78) (i := 0) (by decide +kernel) rfl rfl ?_
      refine w_getR (n := 81) hLM1 (by decide +kernel) oO_215 fF_12_7 (at_483) (by decide) (ar_483_1) rfl ?_
      refine w_iconst (n := 82) (v := 2) (x := 2) (by decide +kernel) rfl (by decide) ?_
      obtain ⟨i5, gi5, h⟩ := h
      refine w_iald (n := 83) hLM1 (by decide +kernel) (at_484) (an_484) gi5 rfl ?_
      subst h
      exact w_ireturn (by decide +kernel) (w_okI (by decide +kernel))
    · rw [if_neg c31] at h
      by_cases c32 : x1 = 2
      · rw [if_pos c32] at h
        refine w_tsw (n := 84) (d := 126) (lo := 0) (hi := 12) (offs := #[66, 71, 78, 85, 85, 85, 85, 85, 93, 101, 109, 115, 121]) (o := 78) (by decide +kernel) (by rw [c32]; decide) (by decide) ?_
        refine w_aload_n (n := 85) (i := 0) (by decide +kernel) rfl rfl ?_
        refine w_getR (n := 88) hLM1 (by decide +kernel) oO_215 fF_12_7 (at_483) (by decide) (ar_483_1) rfl ?_
        refine w_iconst (n := 89) (v := 0) (x := 0) (by decide +kernel) rfl (by decide) ?_
        obtain ⟨i6, gi6, h⟩ := h
        refine w_iald (n := 90) hLM1 (by decide +kernel) (at_484) (an_484) gi6 rfl ?_
        subst h
        exact w_ireturn (by decide +kernel) (w_okI (by decide +kernel))
      · rw [if_neg c32] at h
        by_cases c33 : x1 = 3
        · rw [if_pos c33] at h
          refine w_tsw (n := 91) (d := 126) (lo := 0) (hi := 12) (offs := #[66, 71, 78, 85, 85, 85, 85, 85, 93, 101, 109, 115, 121]) (o := 85) (by decide +kernel) (by rw [c33]; decide) (by decide) ?_
          refine w_aload_n (n := 92) (i := 0) (by decide +kernel) rfl rfl ?_
          refine w_iload_n (n := 93) (i := 1) (by decide +kernel) rfl rfl ?_
          refine w_iconst (n := 94) (v := 3) (x := 3) (by decide +kernel) rfl (by decide) ?_
          refine w_isub (n := 95) (by decide +kernel) rfl ?_
          obtain ⟨v8, M7, hLM7, hr9, h⟩ := h
          refine w_cV (n := 98) (idx := 243) (cal := 214) (na := 1) (nl := 2) (as := [.int (x1 - 3)]) (rest := []) hLM1 (by decide +kernel) (by decide +kernel) (at_483) (by decide +kernel) rfl rfl rfl (Nat.le_of_ble_eq_true rfl) rfl hr9 ?_
          subst h
          exact w_ireturn (by decide +kernel) (w_okI (by decide +kernel))
        · rw [if_neg c33] at h
          by_cases c34 : x1 = 4
          · rw [if_pos c34] at h
            refine w_tsw (n := 91) (d := 126) (lo := 0) (hi := 12) (offs := #[66, 71, 78, 85, 85, 85, 85, 85, 93, 101, 109, 115, 121]) (o := 85) (by decide +kernel) (by rw [c34]; decide) (by decide) ?_
            refine w_aload_n (n := 92) (i := 0) (by decide +kernel) rfl rfl ?_
            refine w_iload_n (n := 93) (i := 1) (by decide +kernel) rfl rfl ?_
            refine w_iconst (n := 94) (v := 3) (x := 3) (by decide +kernel) rfl (by decide) ?_
            refine w_isub (n := 95) (by decide +kernel) rfl ?_
            obtain ⟨v11, M10, hLM10, hr12, h⟩ := h
            refine w_cV (n := 98) (idx := 243) (cal := 214) (na := 1) (nl := 2) (as := [.int (x1 - 3)]) (rest := []) hLM1 (by decide +kernel) (by decide +kernel) (at_483) (by decide +kernel) rfl rfl rfl (Nat.le_of_ble_eq_true rfl) rfl hr12 ?_
            subst h
            exact w_ireturn (by decide +kernel) (w_okI (by decide +kernel))
          · rw [if_neg c34] at h
            by_cases c35 : x1 = 5
            · rw [if_pos c35] at h
              refine w_tsw (n := 91) (d := 126) (lo := 0) (hi := 12) (offs := #[66, 71, 78, 85, 85, 85, 85, 85, 93, 101, 109, 115, 121]) (o := 85) (by decide +kernel) (by rw [c35]; decide) (by decide) ?_
              refine w_aload_n (n := 92) (i := 0) (by decide +kernel) rfl rfl ?_
              refine w_iload_n (n := 93) (i := 1) (by decide +kernel) rfl rfl ?_
              refine w_iconst (n := 94) (v := 3) (x := 3) (by decide +kernel) rfl (by decide) ?_
              refine w_isub (n := 95) (by decide +kernel) rfl ?_
              obtain ⟨v14, M13, hLM13, hr15, h⟩ := h
              refine w_cV (n := 98) (idx := 243) (cal := 214) (na := 1) (nl := 2) (as := [.int (x1 - 3)]) (rest := []) hLM1 (by decide +kernel) (by decide +kernel) (at_483) (by decide +kernel) rfl rfl rfl (Nat.le_of_ble_eq_true rfl) rfl hr15 ?_
              subst h
              exact w_ireturn (by decide +kernel) (w_okI (by decide +kernel))
            · rw [if_neg c35] at h
              by_cases c36 : x1 = 6
              · rw [if_pos c36] at h
                refine w_tsw (n := 91) (d := 126) (lo := 0) (hi := 12) (offs := #[66, 71, 78, 85, 85, 85, 85, 85, 93, 101, 109, 115, 121]) (o := 85) (by decide +kernel) (by rw [c36]; decide) (by decide) ?_
                refine w_aload_n (n := 92) (i := 0) (by decide +kernel) rfl rfl ?_
                refine w_iload_n (n := 93) (i := 1) (by decide +kernel) rfl rfl ?_
                refine w_iconst (n := 94) (v := 3) (x := 3) (by decide +kernel) rfl (by decide) ?_
                refine w_isub (n := 95) (by decide +kernel) rfl ?_
                obtain ⟨v17, M16, hLM16, hr18, h⟩ := h
                refine w_cV (n := 98) (idx := 243) (cal := 214) (na := 1) (nl := 2) (as := [.int (x1 - 3)]) (rest := []) hLM1 (by decide +kernel) (by decide +kernel) (at_483) (by decide +kernel) rfl rfl rfl (Nat.le_of_ble_eq_true rfl) rfl hr18 ?_
                subst h
                exact w_ireturn (by decide +kernel) (w_okI (by decide +kernel))
              · rw [if_neg c36] at h
                by_cases c37 : x1 = 7
                · rw [if_pos c37] at h
                  refine w_tsw (n := 91) (d := 126) (lo := 0) (hi := 12) (offs := #[66, 71, 78, 85, 85, 85, 85, 85, 93, 101, 109, 115, 121]) (o := 85) (by decide +kernel) (by rw [c37]; decide) (by decide) ?_
                  refine w_aload_n (n := 92) (i := 0) (by decide +kernel) rfl rfl ?_
                  refine w_iload_n (n := 93) (i := 1) (by decide +kernel) rfl rfl ?_
                  refine w_iconst (n := 94) (v := 3) (x := 3) (by decide +kernel) rfl (by decide) ?_
                  refine w_isub (n := 95) (by decide +kernel) rfl ?_
                  obtain ⟨v20, M19, hLM19, hr21, h⟩ := h
                  refine w_cV (n := 98) (idx := 243) (cal := 214) (na := 1) (nl := 2) (as := [.int (x1 - 3)]) (rest := []) hLM1 (by decide +kernel) (by decide +kernel) (at_483) (by decide +kernel) rfl rfl rfl (Nat.le_of_ble_eq_true rfl) rfl hr21 ?_
                  subst h
                  exact w_ireturn (by decide +kernel) (w_okI (by decide +kernel))
                · rw [if_neg c37] at h
                  by_cases c38 : x1 = 8
                  · rw [if_pos c38] at h
                    refine w_tsw (n := 99) (d := 126) (lo := 0) (hi := 12) (offs := #[66, 71, 78, 85, 85, 85, 85, 85, 93, 101, 109, 115, 121]) (o := 93) (by decide +kernel) (by rw [c38]; decide) (by decide) ?_
                    refine w_aload_n (n := 100) (i := 0) (by decide +kernel) rfl rfl ?_
                    refine w_getR (n := 103) hLM1 (by decide +kernel) oO_215 fF_12_7 (at_483) (by decide) (ar_483_1) rfl ?_
                    refine w_bipush (n := 105) (v := 9) (x := 9) (by decide +kernel) rfl (by decide) ?_
                    obtain ⟨i22, gi22, h⟩ := h
                    refine w_iald (n := 106) hLM1 (by decide +kernel) (at_484) (an_484) gi22 rfl ?_
                    subst h
                    exact w_ireturn (by decide +kernel) (w_okI (by decide +kernel))
                  · rw [if_neg c38] at h
                    by_cases c39 : x1 = 9
                    · rw [if_pos c39] at h
                      refine w_tsw (n := 107) (d := 126) (lo := 0) (hi := 12) (offs := #[66, 71, 78, 85, 85, 85, 85, 85, 93, 101, 109, 115, 121]) (o := 101) (by decide +kernel) (by rw [c39]; decide) (by decide) ?_
                      refine w_aload_n (n := 108) (i := 0) (by decide +kernel) rfl rfl ?_
                      refine w_getR (n := 111) hLM1 (by decide +kernel) oO_215 fF_12_7 (at_483) (by decide) (ar_483_1) rfl ?_
                      refine w_bipush (n := 113) (v := 10) (x := 10) (by decide +kernel) rfl (by decide) ?_
                      obtain ⟨i23, gi23, h⟩ := h
                      refine w_iald (n := 114) hLM1 (by decide +kernel) (at_484) (an_484) gi23 rfl ?_
                      subst h
                      exact w_ireturn (by decide +kernel) (w_okI (by decide +kernel))
                    · rw [if_neg c39] at h
                      by_cases c40 : x1 = 10
                      · rw [if_pos c40] at h
                        refine w_tsw (n := 115) (d := 126) (lo := 0) (hi := 12) (offs := #[66, 71, 78, 85, 85, 85, 85, 85, 93, 101, 109, 115, 121]) (o := 109) (by decide +kernel) (by rw [c40]; decide) (by decide) ?_
                        refine w_aload_n (n := 116) (i := 0) (by decide +kernel) rfl rfl ?_
                        refine w_iconst (n := 117) (v := 0) (x := 0) (by decide +kernel) rfl (by decide) ?_
                        obtain ⟨v25, M24, hLM24, hr26, h⟩ := h
                        refine w_cV (n := 120) (idx := 246) (cal := 202) (na := 1) (nl := 2) (as := [.int 0]) (rest := []) hLM1 (by decide +kernel) (by decide +kernel) (at_483) (by decide +kernel) rfl rfl rfl (Nat.le_of_ble_eq_true rfl) rfl hr26 ?_
                        subst h
                        exact w_ireturn (by decide +kernel) (w_okI (by decide +kernel))
                      · rw [if_neg c40] at h
                        by_cases c41 : x1 = 11
                        · rw [if_pos c41] at h
                          refine w_tsw (n := 121) (d := 126) (lo := 0) (hi := 12) (offs := #[66, 71, 78, 85, 85, 85, 85, 85, 93, 101, 109, 115, 121]) (o := 115) (by decide +kernel) (by rw [c41]; decide) (by decide) ?_
                          refine w_aload_n (n := 122) (i := 0) (by decide +kernel) rfl rfl ?_
                          refine w_iconst (n := 123) (v := 1) (x := 1) (by decide +kernel) rfl (by decide) ?_
                          obtain ⟨v28, M27, hLM27, hr29, h⟩ := h
                          refine w_cV (n := 126) (idx := 246) (cal := 202) (na := 1) (nl := 2) (as := [.int 1]) (rest := []) hLM1 (by decide +kernel) (by decide +kernel) (at_483) (by decide +kernel) rfl rfl rfl (Nat.le_of_ble_eq_true rfl) rfl hr29 ?_
                          subst h
                          exact w_ireturn (by decide +kernel) (w_okI (by decide +kernel))
                        · rw [if_neg c41] at h
                          by_cases c42 : x1 = 12
                          · rw [if_pos c42] at h
                            refine w_tsw (n := 127) (d := 126) (lo := 0) (hi := 12) (offs := #[66, 71, 78, 85, 85, 85, 85, 85, 93, 101, 109, 115, 121]) (o := 121) (by decide +kernel) (by rw [c42]; decide) (by decide) ?_
                            refine w_aload_n (n := 128) (i := 0) (by decide +kernel) rfl rfl ?_
                            refine w_getI (n := 131) hLM1 (by decide +kernel) oO_215 fF_12_69 (at_483) (by decide) rfl ?_
                            subst h
                            exact w_ireturn (by decide +kernel) (w_okI (by decide +kernel))
                          · rw [if_neg c42] at h
                            refine w_tsw (n := 132) (d := 126) (lo := 0) (hi := 12) (offs := #[66, 71, 78, 85, 85, 85, 85, 85, 93, 101, 109, 115, 121]) (o := 126) (by decide +kernel) (w_swd (by intro j h1 h2; rcases (show j = 0 ∨ j = 1 ∨ j = 2 ∨ j = 3 ∨ j = 4 ∨ j = 5 ∨ j = 6 ∨ j = 7 ∨ j = 8 ∨ j = 9 ∨ j = 10 ∨ j = 11 ∨ j = 12 by omega) with rfl | rfl | rfl | rfl | rfl | rfl | rfl | rfl | rfl | rfl | rfl | rfl | rfl; all_goals first | exact fun e => c30 (e.trans (by decide)) | exact fun e => c31 (e.trans (by decide)) | exact fun e => c32 (e.trans (by decide)) | exact fun e => c33 (e.trans (by decide)) | exact fun e => c34 (e.trans (by decide)) | exact fun e => c35 (e.trans (by decide)) | exact fun e => c36 (e.trans (by decide)) | exact fun e => c37 (e.trans (by decide)) | exact fun e => c38 (e.trans (by decide)) | exact fun e => c39 (e.trans (by decide)) | exact fun e => c40 (e.trans (by decide)) | exact fun e => c41 (e.trans (by decide)) | exact fun e => c42 (e.trans (by decide)))) (by decide) ?_
                            refine w_iconst (n := 133) (v := -1) (x := (-1)) (by decide +kernel) rfl (by decide) ?_
                            subst h
                            exact w_ireturn (by decide +kernel) (w_okI (by decide +kernel))
theorem t_216 {X : ak_X} {M : ak_M} {r : ak_O × ak_M} (hL : ab_lay M) (x1 : Int32) (h : (∀ M1 : ak_M, M1 = ak_sI M 483 0 0 → (∃ (v3 : Int32) (M2 : ak_M), ab_lay M2 ∧ rn X 157 [.long (x1.toInt64), .long 0, .long 5] M1 (.inl (some (.int v3)), M2) ∧ (if v3 = 0 then r = (.inl (some (.int ((-1)))), M2) else (∃ (v5 : Int32) (M4 : ak_M), ab_lay M4 ∧ rn X 174 [.ref 483, .int x1] M2 (.inl (some (.int v5)), M4) ∧ r = (.inl (some (.int v5)), M4)))))) : rn X 216 [.ref 483, .int x1] M r := by
  refine w_rn (nL := 2) (l1 := [some (.ref 483), some (.int x1)]) (by decide +kernel) rfl rfl ?_
  refine w_aload_n (n := 1) (i := 0) (by decide +kernel) rfl rfl ?_
  refine w_iconst (n := 2) (v := 0) (x := 0) (by decide +kernel) rfl (by decide) ?_
  refine w_putI (n := 5) hL (by decide +kernel) oO_216 fF_12_62 (at_483) ⟨by decide, Or.inl (by decide)⟩ rfl ?_
  generalize eM1 : ak_sI M 483 0 0 = M1
  have hLM1 : ab_lay M1 := by rw [← eM1]; exact ab_lay.sI hL
  replace h := h M1 eM1.symm
  refine w_iload_n (n := 6) (i := 1) (by decide +kernel) rfl rfl ?_
  refine w_i2l (n := 7) (by decide +kernel) rfl ?_
  refine w_lconst (n := 8) (v := 0) (x := 0) (by decide +kernel) rfl (by decide) ?_
  refine w_ldc2 (n := 11) (idx := 250) (v := 5) (by decide +kernel) oO_216 (by decide +kernel) rfl ?_
  obtain ⟨v3, M2, hLM2, hr8, h⟩ := h
  refine w_cS (n := 14) (idx := 84) (cal := 157) (na := 3) (nl := 6) (as := [.long (x1.toInt64), .long 0, .long 5]) (rest := []) (by decide +kernel) (by decide +kernel) rfl rfl rfl (Nat.le_of_ble_eq_true rfl) rfl hr8 ?_
  by_cases c7 : v3 = 0
  · rw [if_pos c7] at h
    refine w_if_eq_j (n := 25) (off := 11) (by decide +kernel) (by decide) c7 ?_
    refine w_iconst (n := 26) (v := -1) (x := (-1)) (by decide +kernel) rfl (by decide) ?_
    subst h
    exact w_ireturn (by decide +kernel) (w_okI (by decide +kernel))
  · rw [if_neg c7] at h
    refine w_if_eq_n (n := 17) (off := 11) (by decide +kernel) rfl c7 ?_
    refine w_aload_n (n := 18) (i := 0) (by decide +kernel) rfl rfl ?_
    refine w_iload_n (n := 19) (i := 1) (by decide +kernel) rfl rfl ?_
    obtain ⟨v5, M4, hLM4, hr6, h⟩ := h
    refine w_cV (n := 22) (idx := 173) (cal := 174) (na := 1) (nl := 2) (as := [.int x1]) (rest := []) hLM2 (by decide +kernel) (by decide +kernel) (at_483) (by decide +kernel) rfl rfl rfl (Nat.le_of_ble_eq_true rfl) rfl hr6 ?_
    refine w_goto (n := 26) (off := 4) (by decide +kernel) (by decide) ?_
    subst h
    exact w_ireturn (by decide +kernel) (w_okI (by decide +kernel))
theorem t_217 {X : ak_X} {M : ak_M} {r : ak_O × ak_M} (hL : ab_lay M) (x0 : Int32) (h : (∃ (v2 : Int32) (M1 : ak_M), ab_lay M1 ∧ rn X 157 [.long (x0.toInt64), .long 0, .long 13] M (.inl (some (.int v2)), M1) ∧ ((v2 = 0 ∨ v2 = 1) ∧ r = (.inl (some (.int v2)), M1)))) : rn X 217 [.int x0] M r := by
  refine w_rn (nL := 1) (l1 := [some (.int x0)]) (by decide +kernel) rfl rfl ?_
  refine w_iload_n (n := 1) (i := 0) (by decide +kernel) rfl rfl ?_
  refine w_i2l (n := 2) (by decide +kernel) rfl ?_
  refine w_lconst (n := 3) (v := 0) (x := 0) (by decide +kernel) rfl (by decide) ?_
  refine w_ldc2 (n := 6) (idx := 252) (v := 13) (by decide +kernel) oO_217 (by decide +kernel) rfl ?_
  obtain ⟨v2, M1, hLM1, hr4, h⟩ := h
  refine w_cS (n := 9) (idx := 84) (cal := 157) (na := 3) (nl := 6) (as := [.long (x0.toInt64), .long 0, .long 13]) (rest := []) (by decide +kernel) (by decide +kernel) rfl rfl rfl (Nat.le_of_ble_eq_true rfl) rfl hr4 ?_
  obtain ⟨g3, rfl⟩ := h
  exact w_ireturn (by decide +kernel) (w_okZ (by decide +kernel) g3)
theorem t_218 {X : ak_X} {M : ak_M} {r : ak_O × ak_M} (hL : ab_lay M) (x1 : Int32) (x2 : Int32) (h : (∃ (v2 : Int32) (M1 : ak_M), ab_lay M1 ∧ rn X 169 [.ref 483, .int x1] M (.inl (some (.int v2)), M1) ∧ (∃ (v4 : Int32) (M3 : ak_M), ab_lay M3 ∧ rn X 155 [.ref 483, .int v2] M1 (.inl (some (.int v4)), M3) ∧ (if v4 = 0 then r = (.inl (some (.int 0)), M3) else (∃ (v6 : Int32) (M5 : ak_M), ab_lay M5 ∧ rn X 217 [.int x2] M3 (.inl (some (.int v6)), M5) ∧ (∃ (v8 : Int32) (M7 : ak_M), ab_lay M7 ∧ rn X 156 [.ref 483, .int v6, .int 2] M5 (.inl (some (.int v8)), M7) ∧ (if v8 = 0 then r = (.inl (some (.int 0)), M7) else (∃ (v10 : Int32) (M9 : ak_M), ab_lay M9 ∧ rn X 171 [.ref 483, .int x1, .int x2] M7 (.inl (some (.int v10)), M9) ∧ r = (.inl (some (.int v10)), M9))))))))) : rn X 218 [.ref 483, .int x1, .int x2] M r := by
  refine w_rn (nL := 3) (l1 := [some (.ref 483), some (.int x1), some (.int x2)]) (by decide +kernel) rfl rfl ?_
  refine w_aload_n (n := 1) (i := 0) (by decide +kernel) rfl rfl ?_
  refine w_aload_n (n := 2) (i := 0) (by decide +kernel) rfl rfl ?_
  refine w_iload_n (n := 3) (i := 1) (by decide +kernel) rfl rfl ?_
  obtain ⟨v2, M1, hLM1, hr17, h⟩ := h
  refine w_cV (n := 6) (idx := 88) (cal := 169) (na := 1) (nl := 2) (as := [.int x1]) (rest := [.ref 483]) hL (by decide +kernel) (by decide +kernel) (at_483) (by decide +kernel) rfl rfl rfl (Nat.le_of_ble_eq_true rfl) rfl hr17 ?_
  obtain ⟨v4, M3, hLM3, hr16, h⟩ := h
  refine w_cV (n := 9) (idx := 72) (cal := 155) (na := 1) (nl := 2) (as := [.int v2]) (rest := []) hLM1 (by decide +kernel) (by decide +kernel) (at_483) (by decide +kernel) rfl rfl rfl (Nat.le_of_ble_eq_true rfl) rfl hr16 ?_
  by_cases c15 : v4 = 0
  · rw [if_pos c15] at h
    refine w_if_eq_j (n := 33) (off := 24) (by decide +kernel) (by decide) c15 ?_
    refine w_iconst (n := 34) (v := 0) (x := 0) (by decide +kernel) rfl (by decide) ?_
    subst h
    exact w_ireturn (by decide +kernel) (w_okI (by decide +kernel))
  · rw [if_neg c15] at h
    refine w_if_eq_n (n := 12) (off := 24) (by decide +kernel) rfl c15 ?_
    refine w_aload_n (n := 13) (i := 0) (by decide +kernel) rfl rfl ?_
    refine w_iload_n (n := 14) (i := 2) (by decide +kernel) rfl rfl ?_
    obtain ⟨v6, M5, hLM5, hr14, h⟩ := h
    refine w_cS (n := 17) (idx := 254) (cal := 217) (na := 1) (nl := 1) (as := [.int x2]) (rest := [.ref 483]) (by decide +kernel) (by decide +kernel) rfl rfl rfl (Nat.le_of_ble_eq_true rfl) rfl hr14 ?_
    refine w_iconst (n := 18) (v := 2) (x := 2) (by decide +kernel) rfl (by decide) ?_
    obtain ⟨v8, M7, hLM7, hr13, h⟩ := h
    refine w_cV (n := 21) (idx := 257) (cal := 156) (na := 2) (nl := 3) (as := [.int v6, .int 2]) (rest := []) hLM5 (by decide +kernel) (by decide +kernel) (at_483) (by decide +kernel) rfl rfl rfl (Nat.le_of_ble_eq_true rfl) rfl hr13 ?_
    by_cases c12 : v8 = 0
    · rw [if_pos c12] at h
      refine w_if_eq_j (n := 33) (off := 12) (by decide +kernel) (by decide) c12 ?_
      refine w_iconst (n := 34) (v := 0) (x := 0) (by decide +kernel) rfl (by decide) ?_
      subst h
      exact w_ireturn (by decide +kernel) (w_okI (by decide +kernel))
    · rw [if_neg c12] at h
      refine w_if_eq_n (n := 24) (off := 12) (by decide +kernel) rfl c12 ?_
      refine w_aload_n (n := 25) (i := 0) (by decide +kernel) rfl rfl ?_
      refine w_iload_n (n := 26) (i := 1) (by decide +kernel) rfl rfl ?_
      refine w_iload_n (n := 27) (i := 2) (by decide +kernel) rfl rfl ?_
      obtain ⟨v10, M9, hLM9, hr11, h⟩ := h
      refine w_cV (n := 30) (idx := 92) (cal := 171) (na := 2) (nl := 3) (as := [.int x1, .int x2]) (rest := []) hLM7 (by decide +kernel) (by decide +kernel) (at_483) (by decide +kernel) rfl rfl rfl (Nat.le_of_ble_eq_true rfl) rfl hr11 ?_
      refine w_goto (n := 34) (off := 4) (by decide +kernel) (by decide) ?_
      subst h
      exact w_ireturn (by decide +kernel) (w_okI (by decide +kernel))
theorem t_219 {X : ak_X} {M : ak_M} {r : ak_O × ak_M} (hL : ab_lay M) (x1 : Int32) (x2 : Int32) (h : (∃ i1 : Nat, ab_ix 2 i1 245 ∧ (∃ (v3 : Int32) (M2 : ak_M), ab_lay M2 ∧ rn X 157 [.long (x1.toInt64), .long 0, .long (((ak_I M 484 i1) - 1).toInt64)] M (.inl (some (.int v3)), M2) ∧ (∃ (v5 : Int32) (M4 : ak_M), ab_lay M4 ∧ rn X 155 [.ref 483, .int v3] M2 (.inl (some (.int v5)), M4) ∧ (if v5 = 0 then r = (.inl (some (.int 0)), M4) else (∃ (v7 : Int32) (M6 : ak_M), ab_lay M6 ∧ rn X 157 [.long (x2.toInt64), .long 0, .long 3] M4 (.inl (some (.int v7)), M6) ∧ (∃ (v9 : Int32) (M8 : ak_M), ab_lay M8 ∧ rn X 156 [.ref 483, .int v7, .int 2] M6 (.inl (some (.int v9)), M8) ∧ (if v9 = 0 then r = (.inl (some (.int 0)), M8) else (if x2 = 3 then (∃ (v14 : Int32) (M13 : ak_M), ab_lay M13 ∧ rn X 179 [.ref 483, .int x1] M8 (.inl (some (.int v14)), M13) ∧ r = (.inl (some (.int v14)), M13)) else (∃ (v11 : Int32) (M10 : ak_M), ab_lay M10 ∧ rn X 177 [.ref 483, .int x1, .int x2] M8 (.inl (some (.int v11)), M10) ∧ r = (.inl (some (.int v11)), M10))))))))))) : rn X 219 [.ref 483, .int x1, .int x2] M r := by
  refine w_rn (nL := 3) (l1 := [some (.ref 483), some (.int x1), some (.int x2)]) (by decide +kernel) rfl rfl ?_
  refine w_aload_n (n := 1) (i := 0) (by decide +kernel) rfl rfl ?_
  refine w_iload_n (n := 2) (i := 1) (by decide +kernel) rfl rfl ?_
  refine w_i2l (n := 3) (by decide +kernel) rfl ?_
  refine w_lconst (n := 4) (v := 0) (x := 0) (by decide +kernel) rfl (by decide) ?_
  refine w_aload_n (n := 5) (i := 0) (by decide +kernel) rfl rfl ?_
  refine w_getR (n := 8) hL (by decide +kernel) oO_219 fF_12_7 (at_483) (by decide) (ar_483_1) rfl ?_
  refine w_iconst (n := 9) (v := 2) (x := 2) (by decide +kernel) rfl (by decide) ?_
  obtain ⟨i1, gi1, h⟩ := h
  refine w_iald (n := 10) hL (by decide +kernel) (at_484) (an_484) gi1 rfl ?_
  refine w_iconst (n := 11) (v := 1) (x := 1) (by decide +kernel) rfl (by decide) ?_
  refine w_isub (n := 12) (by decide +kernel) rfl ?_
  refine w_i2l (n := 13) (by decide +kernel) rfl ?_
  obtain ⟨v3, M2, hLM2, hr22, h⟩ := h
  refine w_cS (n := 16) (idx := 84) (cal := 157) (na := 3) (nl := 6) (as := [.long (x1.toInt64), .long 0, .long (((ak_I M 484 i1) - 1).toInt64)]) (rest := [.ref 483]) (by decide +kernel) (by decide +kernel) rfl rfl rfl (Nat.le_of_ble_eq_true rfl) rfl hr22 ?_
  obtain ⟨v5, M4, hLM4, hr21, h⟩ := h
  refine w_cV (n := 19) (idx := 72) (cal := 155) (na := 1) (nl := 2) (as := [.int v3]) (rest := []) hLM2 (by decide +kernel) (by decide +kernel) (at_483) (by decide +kernel) rfl rfl rfl (Nat.le_of_ble_eq_true rfl) rfl hr21 ?_
  by_cases c20 : v5 = 0
  · rw [if_pos c20] at h
    refine w_if_eq_j (n := 39) (off := 20) (by decide +kernel) (by decide) c20 ?_
    refine w_iconst (n := 40) (v := 0) (x := 0) (by decide +kernel) rfl (by decide) ?_
    subst h
    exact w_ireturn (by decide +kernel) (w_okI (by decide +kernel))
  · rw [if_neg c20] at h
    refine w_if_eq_n (n := 22) (off := 20) (by decide +kernel) rfl c20 ?_
    refine w_aload_n (n := 23) (i := 0) (by decide +kernel) rfl rfl ?_
    refine w_iload_n (n := 24) (i := 2) (by decide +kernel) rfl rfl ?_
    refine w_i2l (n := 25) (by decide +kernel) rfl ?_
    refine w_lconst (n := 26) (v := 0) (x := 0) (by decide +kernel) rfl (by decide) ?_
    refine w_ldc2 (n := 29) (idx := 261) (v := 3) (by decide +kernel) oO_219 (by decide +kernel) rfl ?_
    obtain ⟨v7, M6, hLM6, hr19, h⟩ := h
    refine w_cS (n := 32) (idx := 84) (cal := 157) (na := 3) (nl := 6) (as := [.long (x2.toInt64), .long 0, .long 3]) (rest := [.ref 483]) (by decide +kernel) (by decide +kernel) rfl rfl rfl (Nat.le_of_ble_eq_true rfl) rfl hr19 ?_
    refine w_iconst (n := 33) (v := 2) (x := 2) (by decide +kernel) rfl (by decide) ?_
    obtain ⟨v9, M8, hLM8, hr18, h⟩ := h
    refine w_cV (n := 36) (idx := 257) (cal := 156) (na := 2) (nl := 3) (as := [.int v7, .int 2]) (rest := []) hLM6 (by decide +kernel) (by decide +kernel) (at_483) (by decide +kernel) rfl rfl rfl (Nat.le_of_ble_eq_true rfl) rfl hr18 ?_
    by_cases c17 : v9 = 0
    · rw [if_pos c17] at h
      refine w_if_ne_n (n := 39) (off := 5) (by decide +kernel) rfl c17 ?_
      refine w_iconst (n := 40) (v := 0) (x := 0) (by decide +kernel) rfl (by decide) ?_
      subst h
      exact w_ireturn (by decide +kernel) (w_okI (by decide +kernel))
    · rw [if_neg c17] at h
      refine w_if_ne_j (n := 41) (off := 5) (by decide +kernel) (by decide) c17 ?_
      refine w_iload_n (n := 42) (i := 2) (by decide +kernel) rfl rfl ?_
      refine w_iconst (n := 43) (v := 3) (x := 3) (by decide +kernel) rfl (by decide) ?_
      by_cases c16 : x2 = 3
      · rw [if_pos c16] at h
        refine w_icmp_ne_n (n := 46) (off := 11) (by decide +kernel) rfl c16 ?_
        refine w_aload_n (n := 47) (i := 0) (by decide +kernel) rfl rfl ?_
        refine w_iload_n (n := 48) (i := 1) (by decide +kernel) rfl rfl ?_
        obtain ⟨v14, M13, hLM13, hr15, h⟩ := h
        refine w_cV (n := 51) (idx := 194) (cal := 179) (na := 1) (nl := 2) (as := [.int x1]) (rest := []) hLM8 (by decide +kernel) (by decide +kernel) (at_483) (by decide +kernel) rfl rfl rfl (Nat.le_of_ble_eq_true rfl) rfl hr15 ?_
        refine w_goto (n := 60) (off := 9) (by decide +kernel) (by decide) ?_
        subst h
        exact w_ireturn (by decide +kernel) (w_okI (by decide +kernel))
      · rw [if_neg c16] at h
        refine w_icmp_ne_j (n := 54) (off := 11) (by decide +kernel) (by decide) c16 ?_
        refine w_aload_n (n := 55) (i := 0) (by decide +kernel) rfl rfl ?_
        refine w_iload_n (n := 56) (i := 1) (by decide +kernel) rfl rfl ?_
        refine w_iload_n (n := 57) (i := 2) (by decide +kernel) rfl rfl ?_
        obtain ⟨v11, M10, hLM10, hr12, h⟩ := h
        refine w_cV (n := 60) (idx := 102) (cal := 177) (na := 2) (nl := 3) (as := [.int x1, .int x2]) (rest := []) hLM8 (by decide +kernel) (by decide +kernel) (at_483) (by decide +kernel) rfl rfl rfl (Nat.le_of_ble_eq_true rfl) rfl hr12 ?_
        subst h
        exact w_ireturn (by decide +kernel) (w_okI (by decide +kernel))
theorem t_220 {X : ak_X} {M : ak_M} {r : ak_O × ak_M} (hL : ab_lay M) (x1 : Int32) (h : (∃ (v2 : Int32) (M1 : ak_M), ab_lay M1 ∧ rn X 157 [.long (x1.toInt64), .long 0, .long 300] M (.inl (some (.int v2)), M1) ∧ (∃ (v4 : Int32) (M3 : ak_M), ab_lay M3 ∧ rn X 155 [.ref 483, .int v2] M1 (.inl (some (.int v4)), M3) ∧ (if v4 = 0 then r = (.inl (some (.int 0)), M3) else (∃ (v6 : Int32) (M5 : ak_M), ab_lay M5 ∧ rn X 178 [.ref 483, .int x1] M3 (.inl (some (.int v6)), M5) ∧ r = (.inl (some (.int v6)), M5)))))) : rn X 220 [.ref 483, .int x1] M r := by
  refine w_rn (nL := 2) (l1 := [some (.ref 483), some (.int x1)]) (by decide +kernel) rfl rfl ?_
  refine w_aload_n (n := 1) (i := 0) (by decide +kernel) rfl rfl ?_
  refine w_iload_n (n := 2) (i := 1) (by decide +kernel) rfl rfl ?_
  refine w_i2l (n := 3) (by decide +kernel) rfl ?_
  refine w_lconst (n := 4) (v := 0) (x := 0) (by decide +kernel) rfl (by decide) ?_
  refine w_ldc2 (n := 7) (idx := 263) (v := 300) (by decide +kernel) oO_220 (by decide +kernel) rfl ?_
  obtain ⟨v2, M1, hLM1, hr10, h⟩ := h
  refine w_cS (n := 10) (idx := 84) (cal := 157) (na := 3) (nl := 6) (as := [.long (x1.toInt64), .long 0, .long 300]) (rest := [.ref 483]) (by decide +kernel) (by decide +kernel) rfl rfl rfl (Nat.le_of_ble_eq_true rfl) rfl hr10 ?_
  obtain ⟨v4, M3, hLM3, hr9, h⟩ := h
  refine w_cV (n := 13) (idx := 72) (cal := 155) (na := 1) (nl := 2) (as := [.int v2]) (rest := []) hLM1 (by decide +kernel) (by decide +kernel) (at_483) (by decide +kernel) rfl rfl rfl (Nat.le_of_ble_eq_true rfl) rfl hr9 ?_
  by_cases c8 : v4 = 0
  · rw [if_pos c8] at h
    refine w_if_eq_j (n := 24) (off := 11) (by decide +kernel) (by decide) c8 ?_
    refine w_iconst (n := 25) (v := 0) (x := 0) (by decide +kernel) rfl (by decide) ?_
    subst h
    exact w_ireturn (by decide +kernel) (w_okI (by decide +kernel))
  · rw [if_neg c8] at h
    refine w_if_eq_n (n := 16) (off := 11) (by decide +kernel) rfl c8 ?_
    refine w_aload_n (n := 17) (i := 0) (by decide +kernel) rfl rfl ?_
    refine w_iload_n (n := 18) (i := 1) (by decide +kernel) rfl rfl ?_
    obtain ⟨v6, M5, hLM5, hr7, h⟩ := h
    refine w_cV (n := 21) (idx := 188) (cal := 178) (na := 1) (nl := 2) (as := [.int x1]) (rest := []) hLM3 (by decide +kernel) (by decide +kernel) (at_483) (by decide +kernel) rfl rfl rfl (Nat.le_of_ble_eq_true rfl) rfl hr7 ?_
    refine w_goto (n := 25) (off := 4) (by decide +kernel) (by decide) ?_
    subst h
    exact w_ireturn (by decide +kernel) (w_okI (by decide +kernel))
theorem t_221 {X : ak_X} {M : ak_M} {r : ak_O × ak_M} (hL : ab_lay M) (x1 : Int32) (h : (∃ (v2 : Int32) (M1 : ak_M), ab_lay M1 ∧ rn X 169 [.ref 483, .int x1] M (.inl (some (.int v2)), M1) ∧ (∃ (v4 : Int32) (M3 : ak_M), ab_lay M3 ∧ rn X 155 [.ref 483, .int v2] M1 (.inl (some (.int v4)), M3) ∧ (if v4 = 0 then r = (.inl (some (.int 0)), M3) else (∃ (v6 : Int32) (M5 : ak_M), ab_lay M5 ∧ rn X 175 [.ref 483, .int x1] M3 (.inl (some (.int v6)), M5) ∧ (if v6 = 0 then r = (.inl (some (.int ((-1)))), M5) else (∃ (v8 : Int32) (M7 : ak_M), ab_lay M7 ∧ rn X 184 [.ref 483, .int x1] M5 (.inl (some (.int v8)), M7) ∧ r = (.inl (some (.int v8)), M7)))))))) : rn X 221 [.ref 483, .int x1] M r := by
  refine w_rn (nL := 2) (l1 := [some (.ref 483), some (.int x1)]) (by decide +kernel) rfl rfl ?_
  refine w_aload_n (n := 1) (i := 0) (by decide +kernel) rfl rfl ?_
  refine w_aload_n (n := 2) (i := 0) (by decide +kernel) rfl rfl ?_
  refine w_iload_n (n := 3) (i := 1) (by decide +kernel) rfl rfl ?_
  obtain ⟨v2, M1, hLM1, hr14, h⟩ := h
  refine w_cV (n := 6) (idx := 88) (cal := 169) (na := 1) (nl := 2) (as := [.int x1]) (rest := [.ref 483]) hL (by decide +kernel) (by decide +kernel) (at_483) (by decide +kernel) rfl rfl rfl (Nat.le_of_ble_eq_true rfl) rfl hr14 ?_
  obtain ⟨v4, M3, hLM3, hr13, h⟩ := h
  refine w_cV (n := 9) (idx := 72) (cal := 155) (na := 1) (nl := 2) (as := [.int v2]) (rest := []) hLM1 (by decide +kernel) (by decide +kernel) (at_483) (by decide +kernel) rfl rfl rfl (Nat.le_of_ble_eq_true rfl) rfl hr13 ?_
  by_cases c12 : v4 = 0
  · rw [if_pos c12] at h
    refine w_if_ne_n (n := 12) (off := 5) (by decide +kernel) rfl c12 ?_
    refine w_iconst (n := 13) (v := 0) (x := 0) (by decide +kernel) rfl (by decide) ?_
    subst h
    exact w_ireturn (by decide +kernel) (w_okI (by decide +kernel))
  · rw [if_neg c12] at h
    refine w_if_ne_j (n := 14) (off := 5) (by decide +kernel) (by decide) c12 ?_
    refine w_aload_n (n := 15) (i := 0) (by decide +kernel) rfl rfl ?_
    refine w_iload_n (n := 16) (i := 1) (by decide +kernel) rfl rfl ?_
    obtain ⟨v6, M5, hLM5, hr11, h⟩ := h
    refine w_cV (n := 19) (idx := 99) (cal := 175) (na := 1) (nl := 2) (as := [.int x1]) (rest := []) hLM3 (by decide +kernel) (by decide +kernel) (at_483) (by decide +kernel) rfl rfl rfl (Nat.le_of_ble_eq_true rfl) rfl hr11 ?_
    by_cases c10 : v6 = 0
    · rw [if_pos c10] at h
      refine w_if_eq_j (n := 30) (off := 11) (by decide +kernel) (by decide) c10 ?_
      refine w_iconst (n := 31) (v := -1) (x := (-1)) (by decide +kernel) rfl (by decide) ?_
      subst h
      exact w_ireturn (by decide +kernel) (w_okI (by decide +kernel))
    · rw [if_neg c10] at h
      refine w_if_eq_n (n := 22) (off := 11) (by decide +kernel) rfl c10 ?_
      refine w_aload_n (n := 23) (i := 0) (by decide +kernel) rfl rfl ?_
      refine w_iload_n (n := 24) (i := 1) (by decide +kernel) rfl rfl ?_
      obtain ⟨v8, M7, hLM7, hr9, h⟩ := h
      refine w_cV (n := 27) (idx := 127) (cal := 184) (na := 1) (nl := 2) (as := [.int x1]) (rest := []) hLM5 (by decide +kernel) (by decide +kernel) (at_483) (by decide +kernel) rfl rfl rfl (Nat.le_of_ble_eq_true rfl) rfl hr9 ?_
      refine w_goto (n := 31) (off := 4) (by decide +kernel) (by decide) ?_
      subst h
      exact w_ireturn (by decide +kernel) (w_okI (by decide +kernel))
theorem t_222 {X : ak_X} {M : ak_M} {r : ak_O × ak_M} (hL : ab_lay M) (x1 : Int32) (h : (∃ (v2 : Int32) (M1 : ak_M), ab_lay M1 ∧ rn X 169 [.ref 483, .int x1] M (.inl (some (.int v2)), M1) ∧ (∃ (v4 : Int32) (M3 : ak_M), ab_lay M3 ∧ rn X 155 [.ref 483, .int v2] M1 (.inl (some (.int v4)), M3) ∧ (if v4 = 0 then r = (.inl (some (.int 0)), M3) else (∃ (v6 : Int32) (M5 : ak_M), ab_lay M5 ∧ rn X 175 [.ref 483, .int x1] M3 (.inl (some (.int v6)), M5) ∧ (∃ (v8 : Int32) (M7 : ak_M), ab_lay M7 ∧ rn X 156 [.ref 483, .int v6, .int 2] M5 (.inl (some (.int v8)), M7) ∧ (if v8 = 0 then r = (.inl (some (.int 0)), M7) else (∃ (v10 : Int32) (M9 : ak_M), ab_lay M9 ∧ rn X 185 [.ref 483, .int x1] M7 (.inl (some (.int v10)), M9) ∧ r = (.inl (some (.int v10)), M9))))))))) : rn X 222 [.ref 483, .int x1] M r := by
  refine w_rn (nL := 2) (l1 := [some (.ref 483), some (.int x1)]) (by decide +kernel) rfl rfl ?_
  refine w_aload_n (n := 1) (i := 0) (by decide +kernel) rfl rfl ?_
  refine w_aload_n (n := 2) (i := 0) (by decide +kernel) rfl rfl ?_
  refine w_iload_n (n := 3) (i := 1) (by decide +kernel) rfl rfl ?_
  obtain ⟨v2, M1, hLM1, hr17, h⟩ := h
  refine w_cV (n := 6) (idx := 88) (cal := 169) (na := 1) (nl := 2) (as := [.int x1]) (rest := [.ref 483]) hL (by decide +kernel) (by decide +kernel) (at_483) (by decide +kernel) rfl rfl rfl (Nat.le_of_ble_eq_true rfl) rfl hr17 ?_
  obtain ⟨v4, M3, hLM3, hr16, h⟩ := h
  refine w_cV (n := 9) (idx := 72) (cal := 155) (na := 1) (nl := 2) (as := [.int v2]) (rest := []) hLM1 (by decide +kernel) (by decide +kernel) (at_483) (by decide +kernel) rfl rfl rfl (Nat.le_of_ble_eq_true rfl) rfl hr16 ?_
  by_cases c15 : v4 = 0
  · rw [if_pos c15] at h
    refine w_if_eq_j (n := 33) (off := 24) (by decide +kernel) (by decide) c15 ?_
    refine w_iconst (n := 34) (v := 0) (x := 0) (by decide +kernel) rfl (by decide) ?_
    subst h
    exact w_ireturn (by decide +kernel) (w_okI (by decide +kernel))
  · rw [if_neg c15] at h
    refine w_if_eq_n (n := 12) (off := 24) (by decide +kernel) rfl c15 ?_
    refine w_aload_n (n := 13) (i := 0) (by decide +kernel) rfl rfl ?_
    refine w_aload_n (n := 14) (i := 0) (by decide +kernel) rfl rfl ?_
    refine w_iload_n (n := 15) (i := 1) (by decide +kernel) rfl rfl ?_
    obtain ⟨v6, M5, hLM5, hr14, h⟩ := h
    refine w_cV (n := 18) (idx := 99) (cal := 175) (na := 1) (nl := 2) (as := [.int x1]) (rest := [.ref 483]) hLM3 (by decide +kernel) (by decide +kernel) (at_483) (by decide +kernel) rfl rfl rfl (Nat.le_of_ble_eq_true rfl) rfl hr14 ?_
    refine w_iconst (n := 19) (v := 2) (x := 2) (by decide +kernel) rfl (by decide) ?_
    obtain ⟨v8, M7, hLM7, hr13, h⟩ := h
    refine w_cV (n := 22) (idx := 257) (cal := 156) (na := 2) (nl := 3) (as := [.int v6, .int 2]) (rest := []) hLM5 (by decide +kernel) (by decide +kernel) (at_483) (by decide +kernel) rfl rfl rfl (Nat.le_of_ble_eq_true rfl) rfl hr13 ?_
    by_cases c12 : v8 = 0
    · rw [if_pos c12] at h
      refine w_if_eq_j (n := 33) (off := 11) (by decide +kernel) (by decide) c12 ?_
      refine w_iconst (n := 34) (v := 0) (x := 0) (by decide +kernel) rfl (by decide) ?_
      subst h
      exact w_ireturn (by decide +kernel) (w_okI (by decide +kernel))
    · rw [if_neg c12] at h
      refine w_if_eq_n (n := 25) (off := 11) (by decide +kernel) rfl c12 ?_
      refine w_aload_n (n := 26) (i := 0) (by decide +kernel) rfl rfl ?_
      refine w_iload_n (n := 27) (i := 1) (by decide +kernel) rfl rfl ?_
      obtain ⟨v10, M9, hLM9, hr11, h⟩ := h
      refine w_cV (n := 30) (idx := 161) (cal := 185) (na := 1) (nl := 2) (as := [.int x1]) (rest := []) hLM7 (by decide +kernel) (by decide +kernel) (at_483) (by decide +kernel) rfl rfl rfl (Nat.le_of_ble_eq_true rfl) rfl hr11 ?_
      refine w_goto (n := 34) (off := 4) (by decide +kernel) (by decide) ?_
      subst h
      exact w_ireturn (by decide +kernel) (w_okI (by decide +kernel))
theorem t_223 {X : ak_X} {M : ak_M} {r : ak_O × ak_M} (hL : ab_lay M) (x1 : Int32) (x2 : Int32) (h : (∃ (v2 : Int32) (M1 : ak_M), ab_lay M1 ∧ rn X 170 [.ref 483, .int x1, .int x2] M (.inl (some (.int v2)), M1) ∧ (∃ (v4 : Int32) (M3 : ak_M), ab_lay M3 ∧ rn X 155 [.ref 483, .int v2] M1 (.inl (some (.int v4)), M3) ∧ (if v4 = 0 then r = (.inl (some (.int 0)), M3) else (∃ (v6 : Int32) (M5 : ak_M), ab_lay M5 ∧ rn X 192 [.ref 483, .int x1, .int x2] M3 (.inl (some (.int v6)), M5) ∧ (if v6 = 0 then r = (.inl (some (.int 0)), M5) else r = (.inl (some (.int 1)), M5))))))) : rn X 223 [.ref 483, .int x1, .int x2] M r := by
  refine w_rn (nL := 3) (l1 := [some (.ref 483), some (.int x1), some (.int x2)]) (by decide +kernel) rfl rfl ?_
  refine w_aload_n (n := 1) (i := 0) (by decide +kernel) rfl rfl ?_
  refine w_aload_n (n := 2) (i := 0) (by decide +kernel) rfl rfl ?_
  refine w_iload_n (n := 3) (i := 1) (by decide +kernel) rfl rfl ?_
  refine w_iload_n (n := 4) (i := 2) (by decide +kernel) rfl rfl ?_
  obtain ⟨v2, M1, hLM1, hr11, h⟩ := h
  refine w_cV (n := 7) (idx := 265) (cal := 170) (na := 2) (nl := 3) (as := [.int x1, .int x2]) (rest := [.ref 483]) hL (by decide +kernel) (by decide +kernel) (at_483) (by decide +kernel) rfl rfl rfl (Nat.le_of_ble_eq_true rfl) rfl hr11 ?_
  obtain ⟨v4, M3, hLM3, hr10, h⟩ := h
  refine w_cV (n := 10) (idx := 72) (cal := 155) (na := 1) (nl := 2) (as := [.int v2]) (rest := []) hLM1 (by decide +kernel) (by decide +kernel) (at_483) (by decide +kernel) rfl rfl rfl (Nat.le_of_ble_eq_true rfl) rfl hr10 ?_
  by_cases c9 : v4 = 0
  · rw [if_pos c9] at h
    refine w_if_eq_j (n := 26) (off := 16) (by decide +kernel) (by decide) c9 ?_
    refine w_iconst (n := 27) (v := 0) (x := 0) (by decide +kernel) rfl (by decide) ?_
    subst h
    exact w_ireturn (by decide +kernel) (by decide +kernel)
  · rw [if_neg c9] at h
    refine w_if_eq_n (n := 13) (off := 16) (by decide +kernel) rfl c9 ?_
    refine w_aload_n (n := 14) (i := 0) (by decide +kernel) rfl rfl ?_
    refine w_iload_n (n := 15) (i := 1) (by decide +kernel) rfl rfl ?_
    refine w_iload_n (n := 16) (i := 2) (by decide +kernel) rfl rfl ?_
    obtain ⟨v6, M5, hLM5, hr8, h⟩ := h
    refine w_cV (n := 19) (idx := 167) (cal := 192) (na := 2) (nl := 3) (as := [.int x1, .int x2]) (rest := []) hLM3 (by decide +kernel) (by decide +kernel) (at_483) (by decide +kernel) rfl rfl rfl (Nat.le_of_ble_eq_true rfl) rfl hr8 ?_
    by_cases c7 : v6 = 0
    · rw [if_pos c7] at h
      refine w_if_eq_j (n := 26) (off := 7) (by decide +kernel) (by decide) c7 ?_
      refine w_iconst (n := 27) (v := 0) (x := 0) (by decide +kernel) rfl (by decide) ?_
      subst h
      exact w_ireturn (by decide +kernel) (by decide +kernel)
    · rw [if_neg c7] at h
      refine w_if_eq_n (n := 22) (off := 7) (by decide +kernel) rfl c7 ?_
      refine w_iconst (n := 23) (v := 1) (x := 1) (by decide +kernel) rfl (by decide) ?_
      refine w_goto (n := 27) (off := 4) (by decide +kernel) (by decide) ?_
      subst h
      exact w_ireturn (by decide +kernel) (by decide +kernel)
theorem t_224 {X : ak_X} {M : ak_M} {r : ak_O × ak_M} (hL : ab_lay M) (x1 : Int32) (x2 : Int32) (x3 : Int32) (h : (∃ (v2 : Int32) (M1 : ak_M), ab_lay M1 ∧ rn X 170 [.ref 483, .int x1, .int x2] M (.inl (some (.int v2)), M1) ∧ (∃ (v4 : Int32) (M3 : ak_M), ab_lay M3 ∧ rn X 155 [.ref 483, .int v2] M1 (.inl (some (.int v4)), M3) ∧ (if v4 = 0 then r = (.inl (some (.int 0)), M3) else (∃ (v6 : Int32) (M5 : ak_M), ab_lay M5 ∧ rn X 157 [.long (x3.toInt64), .long 0, .long 4] M3 (.inl (some (.int v6)), M5) ∧ (∃ (v8 : Int32) (M7 : ak_M), ab_lay M7 ∧ rn X 156 [.ref 483, .int v6, .int 2] M5 (.inl (some (.int v8)), M7) ∧ (if v8 = 0 then r = (.inl (some (.int 0)), M7) else (∃ (v10 : Int32) (M9 : ak_M), ab_lay M9 ∧ rn X 192 [.ref 483, .int x1, .int x2] M7 (.inl (some (.int v10)), M9) ∧ (if v10 = 0 then r = (.inl (some (.int ((-1)))), M9) else (if x3 = 0 then (∃ (v12 : Int32) (M11 : ak_M), ab_lay M11 ∧ rn X 197 [.ref 483, .int x1, .int x2] M9 (.inl (some (.int v12)), M11) ∧ r = (.inl (some (.int v12)), M11)) else (if x3 = 1 then (∃ (v15 : Int32) (M14 : ak_M), ab_lay M14 ∧ rn X 198 [.ref 483, .int x1, .int x2] M9 (.inl (some (.int v15)), M14) ∧ r = (.inl (some (.int v15)), M14)) else (if x3 = 2 then (∃ (v18 : Int32) (M17 : ak_M), ab_lay M17 ∧ rn X 194 [.ref 483, .int x1, .int x2] M9 (.inl (some (.int v18)), M17) ∧ r = (.inl (some (.int v18)), M17)) else (if x3 = 3 then (∃ (v21 : Int32) (M20 : ak_M), ab_lay M20 ∧ rn X 194 [.ref 483, .int x2, .int x1] M9 (.inl (some (.int v21)), M20) ∧ r = (.inl (some (.int v21)), M20)) else (∃ (v24 : Int32) (M23 : ak_M), ab_lay M23 ∧ rn X 195 [.ref 483, .int x1, .int x2] M9 (.inl (some (.int v24)), M23) ∧ r = (.inl (some (.int v24)), M23))))))))))))))) : rn X 224 [.ref 483, .int x1, .int x2, .int x3] M r := by
  refine w_rn (nL := 4) (l1 := [some (.ref 483), some (.int x1), some (.int x2), some (.int x3)]) (by decide +kernel) rfl rfl ?_
  refine w_aload_n (n := 1) (i := 0) (by decide +kernel) rfl rfl ?_
  refine w_aload_n (n := 2) (i := 0) (by decide +kernel) rfl rfl ?_
  refine w_iload_n (n := 3) (i := 1) (by decide +kernel) rfl rfl ?_
  refine w_iload_n (n := 4) (i := 2) (by decide +kernel) rfl rfl ?_
  obtain ⟨v2, M1, hLM1, hr37, h⟩ := h
  refine w_cV (n := 7) (idx := 265) (cal := 170) (na := 2) (nl := 3) (as := [.int x1, .int x2]) (rest := [.ref 483]) hL (by decide +kernel) (by decide +kernel) (at_483) (by decide +kernel) rfl rfl rfl (Nat.le_of_ble_eq_true rfl) rfl hr37 ?_
  obtain ⟨v4, M3, hLM3, hr36, h⟩ := h
  refine w_cV (n := 10) (idx := 72) (cal := 155) (na := 1) (nl := 2) (as := [.int v2]) (rest := []) hLM1 (by decide +kernel) (by decide +kernel) (at_483) (by decide +kernel) rfl rfl rfl (Nat.le_of_ble_eq_true rfl) rfl hr36 ?_
  by_cases c35 : v4 = 0
  · rw [if_pos c35] at h
    refine w_if_eq_j (n := 30) (off := 20) (by decide +kernel) (by decide) c35 ?_
    refine w_iconst (n := 31) (v := 0) (x := 0) (by decide +kernel) rfl (by decide) ?_
    subst h
    exact w_ireturn (by decide +kernel) (w_okI (by decide +kernel))
  · rw [if_neg c35] at h
    refine w_if_eq_n (n := 13) (off := 20) (by decide +kernel) rfl c35 ?_
    refine w_aload_n (n := 14) (i := 0) (by decide +kernel) rfl rfl ?_
    refine w_iload_n (n := 15) (i := 3) (by decide +kernel) rfl rfl ?_
    refine w_i2l (n := 16) (by decide +kernel) rfl ?_
    refine w_lconst (n := 17) (v := 0) (x := 0) (by decide +kernel) rfl (by decide) ?_
    refine w_ldc2 (n := 20) (idx := 268) (v := 4) (by decide +kernel) oO_224 (by decide +kernel) rfl ?_
    obtain ⟨v6, M5, hLM5, hr34, h⟩ := h
    refine w_cS (n := 23) (idx := 84) (cal := 157) (na := 3) (nl := 6) (as := [.long (x3.toInt64), .long 0, .long 4]) (rest := [.ref 483]) (by decide +kernel) (by decide +kernel) rfl rfl rfl (Nat.le_of_ble_eq_true rfl) rfl hr34 ?_
    refine w_iconst (n := 24) (v := 2) (x := 2) (by decide +kernel) rfl (by decide) ?_
    obtain ⟨v8, M7, hLM7, hr33, h⟩ := h
    refine w_cV (n := 27) (idx := 257) (cal := 156) (na := 2) (nl := 3) (as := [.int v6, .int 2]) (rest := []) hLM5 (by decide +kernel) (by decide +kernel) (at_483) (by decide +kernel) rfl rfl rfl (Nat.le_of_ble_eq_true rfl) rfl hr33 ?_
    by_cases c32 : v8 = 0
    · rw [if_pos c32] at h
      refine w_if_ne_n (n := 30) (off := 5) (by decide +kernel) rfl c32 ?_
      refine w_iconst (n := 31) (v := 0) (x := 0) (by decide +kernel) rfl (by decide) ?_
      subst h
      exact w_ireturn (by decide +kernel) (w_okI (by decide +kernel))
    · rw [if_neg c32] at h
      refine w_if_ne_j (n := 32) (off := 5) (by decide +kernel) (by decide) c32 ?_
      refine w_aload_n (n := 33) (i := 0) (by decide +kernel) rfl rfl ?_
      refine w_iload_n (n := 34) (i := 1) (by decide +kernel) rfl rfl ?_
      refine w_iload_n (n := 35) (i := 2) (by decide +kernel) rfl rfl ?_
      obtain ⟨v10, M9, hLM9, hr31, h⟩ := h
      refine w_cV (n := 38) (idx := 167) (cal := 192) (na := 2) (nl := 3) (as := [.int x1, .int x2]) (rest := []) hLM7 (by decide +kernel) (by decide +kernel) (at_483) (by decide +kernel) rfl rfl rfl (Nat.le_of_ble_eq_true rfl) rfl hr31 ?_
      by_cases c30 : v10 = 0
      · rw [if_pos c30] at h
        refine w_if_ne_n (n := 41) (off := 5) (by decide +kernel) rfl c30 ?_
        refine w_iconst (n := 42) (v := -1) (x := (-1)) (by decide +kernel) rfl (by decide) ?_
        subst h
        exact w_ireturn (by decide +kernel) (w_okI (by decide +kernel))
      · rw [if_neg c30] at h
        refine w_if_ne_j (n := 43) (off := 5) (by decide +kernel) (by decide) c30 ?_
        refine w_iload_n (n := 44) (i := 3) (by decide +kernel) rfl rfl ?_
        by_cases c26 : x3 = 0
        · rw [if_pos c26] at h
          refine w_tsw (n := 76) (d := 60) (lo := 0) (hi := 3) (offs := #[32, 39, 46, 53]) (o := 32) (by decide +kernel) (by rw [c26]; decide) (by decide) ?_
          refine w_aload_n (n := 77) (i := 0) (by decide +kernel) rfl rfl ?_
          refine w_iload_n (n := 78) (i := 1) (by decide +kernel) rfl rfl ?_
          refine w_iload_n (n := 79) (i := 2) (by decide +kernel) rfl rfl ?_
          obtain ⟨v12, M11, hLM11, hr13, h⟩ := h
          refine w_cV (n := 82) (idx := 222) (cal := 197) (na := 2) (nl := 3) (as := [.int x1, .int x2]) (rest := []) hLM9 (by decide +kernel) (by decide +kernel) (at_483) (by decide +kernel) rfl rfl rfl (Nat.le_of_ble_eq_true rfl) rfl hr13 ?_
          subst h
          exact w_ireturn (by decide +kernel) (w_okI (by decide +kernel))
        · rw [if_neg c26] at h
          by_cases c27 : x3 = 1
          · rw [if_pos c27] at h
            refine w_tsw (n := 83) (d := 60) (lo := 0) (hi := 3) (offs := #[32, 39, 46, 53]) (o := 39) (by decide +kernel) (by rw [c27]; decide) (by decide) ?_
            refine w_aload_n (n := 84) (i := 0) (by decide +kernel) rfl rfl ?_
            refine w_iload_n (n := 85) (i := 1) (by decide +kernel) rfl rfl ?_
            refine w_iload_n (n := 86) (i := 2) (by decide +kernel) rfl rfl ?_
            obtain ⟨v15, M14, hLM14, hr16, h⟩ := h
            refine w_cV (n := 89) (idx := 225) (cal := 198) (na := 2) (nl := 3) (as := [.int x1, .int x2]) (rest := []) hLM9 (by decide +kernel) (by decide +kernel) (at_483) (by decide +kernel) rfl rfl rfl (Nat.le_of_ble_eq_true rfl) rfl hr16 ?_
            subst h
            exact w_ireturn (by decide +kernel) (w_okI (by decide +kernel))
          · rw [if_neg c27] at h
            by_cases c28 : x3 = 2
            · rw [if_pos c28] at h
              refine w_tsw (n := 90) (d := 60) (lo := 0) (hi := 3) (offs := #[32, 39, 46, 53]) (o := 46) (by decide +kernel) (by rw [c28]; decide) (by decide) ?_
              refine w_aload_n (n := 91) (i := 0) (by decide +kernel) rfl rfl ?_
              refine w_iload_n (n := 92) (i := 1) (by decide +kernel) rfl rfl ?_
              refine w_iload_n (n := 93) (i := 2) (by decide +kernel) rfl rfl ?_
              obtain ⟨v18, M17, hLM17, hr19, h⟩ := h
              refine w_cV (n := 96) (idx := 164) (cal := 194) (na := 2) (nl := 3) (as := [.int x1, .int x2]) (rest := []) hLM9 (by decide +kernel) (by decide +kernel) (at_483) (by decide +kernel) rfl rfl rfl (Nat.le_of_ble_eq_true rfl) rfl hr19 ?_
              subst h
              exact w_ireturn (by decide +kernel) (w_okI (by decide +kernel))
            · rw [if_neg c28] at h
              by_cases c29 : x3 = 3
              · rw [if_pos c29] at h
                refine w_tsw (n := 97) (d := 60) (lo := 0) (hi := 3) (offs := #[32, 39, 46, 53]) (o := 53) (by decide +kernel) (by rw [c29]; decide) (by decide) ?_
                refine w_aload_n (n := 98) (i := 0) (by decide +kernel) rfl rfl ?_
                refine w_iload_n (n := 99) (i := 2) (by decide +kernel) rfl rfl ?_
                refine w_iload_n (n := 100) (i := 1) (by decide +kernel) rfl rfl ?_
                obtain ⟨v21, M20, hLM20, hr22, h⟩ := h
                refine w_cV (n := 103) (idx := 164) (cal := 194) (na := 2) (nl := 3) (as := [.int x2, .int x1]) (rest := []) hLM9 (by decide +kernel) (by decide +kernel) (at_483) (by decide +kernel) rfl rfl rfl (Nat.le_of_ble_eq_true rfl) rfl hr22 ?_
                subst h
                exact w_ireturn (by decide +kernel) (w_okI (by decide +kernel))
              · rw [if_neg c29] at h
                refine w_tsw (n := 104) (d := 60) (lo := 0) (hi := 3) (offs := #[32, 39, 46, 53]) (o := 60) (by decide +kernel) (w_swd (by intro j h1 h2; rcases (show j = 0 ∨ j = 1 ∨ j = 2 ∨ j = 3 by omega) with rfl | rfl | rfl | rfl; all_goals first | exact fun e => c26 (e.trans (by decide)) | exact fun e => c27 (e.trans (by decide)) | exact fun e => c28 (e.trans (by decide)) | exact fun e => c29 (e.trans (by decide)))) (by decide) ?_
                refine w_aload_n (n := 105) (i := 0) (by decide +kernel) rfl rfl ?_
                refine w_iload_n (n := 106) (i := 1) (by decide +kernel) rfl rfl ?_
                refine w_iload_n (n := 107) (i := 2) (by decide +kernel) rfl rfl ?_
                obtain ⟨v24, M23, hLM23, hr25, h⟩ := h
                refine w_cV (n := 110) (idx := 170) (cal := 195) (na := 2) (nl := 3) (as := [.int x1, .int x2]) (rest := []) hLM9 (by decide +kernel) (by decide +kernel) (at_483) (by decide +kernel) rfl rfl rfl (Nat.le_of_ble_eq_true rfl) rfl hr25 ?_
                subst h
                exact w_ireturn (by decide +kernel) (w_okI (by decide +kernel))
theorem t_225 {X : ak_X} {M : ak_M} {r : ak_O × ak_M} (hL : ab_lay M) (x1 : Int32) (h : (∃ (v2 : Int32) (M1 : ak_M), ab_lay M1 ∧ rn X 169 [.ref 483, .int x1] M (.inl (some (.int v2)), M1) ∧ (∃ (v4 : Int32) (M3 : ak_M), ab_lay M3 ∧ rn X 155 [.ref 483, .int v2] M1 (.inl (some (.int v4)), M3) ∧ (if v4 = 0 then r = (.inl (some (.int 0)), M3) else sg X 225 (18, [some (.ref 483), some (.int x1), some (.int 0), some (.int 0)], [], []) M3 r)))) : rn X 225 [.ref 483, .int x1] M r := by
  refine w_rn (nL := 4) (l1 := [some (.ref 483), some (.int x1), none, none]) (by decide +kernel) rfl rfl ?_
  refine w_aload_n (n := 1) (i := 0) (by decide +kernel) rfl rfl ?_
  refine w_aload_n (n := 2) (i := 0) (by decide +kernel) rfl rfl ?_
  refine w_iload_n (n := 3) (i := 1) (by decide +kernel) rfl rfl ?_
  obtain ⟨v2, M1, hLM1, hr7, h⟩ := h
  refine w_cV (n := 6) (idx := 88) (cal := 169) (na := 1) (nl := 2) (as := [.int x1]) (rest := [.ref 483]) hL (by decide +kernel) (by decide +kernel) (at_483) (by decide +kernel) rfl rfl rfl (Nat.le_of_ble_eq_true rfl) rfl hr7 ?_
  obtain ⟨v4, M3, hLM3, hr6, h⟩ := h
  refine w_cV (n := 9) (idx := 72) (cal := 155) (na := 1) (nl := 2) (as := [.int v2]) (rest := []) hLM1 (by decide +kernel) (by decide +kernel) (at_483) (by decide +kernel) rfl rfl rfl (Nat.le_of_ble_eq_true rfl) rfl hr6 ?_
  by_cases c5 : v4 = 0
  · rw [if_pos c5] at h
    refine w_if_ne_n (n := 12) (off := 5) (by decide +kernel) rfl c5 ?_
    refine w_iconst (n := 13) (v := 0) (x := 0) (by decide +kernel) rfl (by decide) ?_
    subst h
    exact w_ireturn (by decide +kernel) (w_okI (by decide +kernel))
  · rw [if_neg c5] at h
    refine w_if_ne_j (n := 14) (off := 5) (by decide +kernel) (by decide) c5 ?_
    refine w_iconst (n := 15) (v := 0) (x := 0) (by decide +kernel) rfl (by decide) ?_
    refine w_istore_n (n := 16) (i := 2) (l1' := [some (.ref 483), some (.int x1), some (.int 0), none]) (l2' := []) (by decide +kernel) rfl (Nat.le_of_ble_eq_true rfl) rfl rfl ?_
    refine w_iconst (n := 17) (v := 0) (x := 0) (by decide +kernel) rfl (by decide) ?_
    refine w_istore_n (n := 18) (i := 3) (l1' := [some (.ref 483), some (.int x1), some (.int 0), some (.int 0)]) (l2' := []) (by decide +kernel) rfl (Nat.le_of_ble_eq_true rfl) rfl rfl ?_
    exact h
theorem t_225_18 {X : ak_X} {M : ak_M} {r : ak_O × ak_M} (hL : ab_lay M) (x1 : Int32) (y2 : Int32) (y3 : Int32) (h : (∃ (v9 : Int32) (M8 : ak_M), ab_lay M8 ∧ rn X 168 [.ref 483] M (.inl (some (.int v9)), M8) ∧ (if v9 ≤ y3 then r = (.inl (some (.int y2)), M8) else (∃ (v11 : Int32) (M10 : ak_M), ab_lay M10 ∧ rn X 196 [.ref 483, .int x1, .int y3] M8 (.inl (some (.int v11)), M10) ∧ (if v11 = 0 then sg X 225 (18, [some (.ref 483), some (.int x1), some (.int y2), some (.int (y3 + 1))], [], []) M10 r else (∀ z12 : Int32, z12 = y2 ||| (1 <<< (y3 &&& 31)) → sg X 225 (18, [some (.ref 483), some (.int x1), some (.int z12), some (.int (y3 + 1))], [], []) M10 r)))))) : sg X 225 (18, [some (.ref 483), some (.int x1), some (.int y2), some (.int y3)], [], []) M r := by
  refine w_iload_n (n := 19) (i := 3) (by decide +kernel) rfl rfl ?_
  refine w_aload_n (n := 20) (i := 0) (by decide +kernel) rfl rfl ?_
  obtain ⟨v9, M8, hLM8, hr16, h⟩ := h
  refine w_cV (n := 23) (idx := 80) (cal := 168) (na := 0) (nl := 1) (as := []) (rest := [.int y3]) hL (by decide +kernel) (by decide +kernel) (at_483) (by decide +kernel) rfl rfl rfl (Nat.le_of_ble_eq_true rfl) rfl hr16 ?_
  by_cases c15 : v9 ≤ y3
  · rw [if_pos c15] at h
    refine w_icmp_ge_j (n := 47) (off := 24) (by decide +kernel) (by decide) c15 ?_
    refine w_iload_n (n := 48) (i := 2) (by decide +kernel) rfl rfl ?_
    subst h
    exact w_ireturn (by decide +kernel) (w_okI (by decide +kernel))
  · rw [if_neg c15] at h
    refine w_icmp_ge_n (n := 26) (off := 24) (by decide +kernel) rfl c15 ?_
    refine w_aload_n (n := 27) (i := 0) (by decide +kernel) rfl rfl ?_
    refine w_iload_n (n := 28) (i := 1) (by decide +kernel) rfl rfl ?_
    refine w_iload_n (n := 29) (i := 3) (by decide +kernel) rfl rfl ?_
    obtain ⟨v11, M10, hLM10, hr14, h⟩ := h
    refine w_cV (n := 32) (idx := 179) (cal := 196) (na := 2) (nl := 3) (as := [.int x1, .int y3]) (rest := []) hLM8 (by decide +kernel) (by decide +kernel) (at_483) (by decide +kernel) rfl rfl rfl (Nat.le_of_ble_eq_true rfl) rfl hr14 ?_
    by_cases c13 : v11 = 0
    · rw [if_pos c13] at h
      refine w_if_eq_j (n := 41) (off := 9) (by decide +kernel) (by decide) c13 ?_
      refine w_iinc (n := 44) (i := 3) (v := 1) (y := y3 + 1) (l1' := [some (.ref 483), some (.int x1), some (.int y2), some (.int (y3 + 1))]) (l2' := []) (by decide +kernel) rfl rfl rfl rfl rfl ?_
      refine w_goto (n := 18) (off := (-26)) (by decide +kernel) (by decide) ?_
      exact h
    · rw [if_neg c13] at h
      refine w_if_eq_n (n := 35) (off := 9) (by decide +kernel) rfl c13 ?_
      refine w_iload_n (n := 36) (i := 2) (by decide +kernel) rfl rfl ?_
      refine w_iconst (n := 37) (v := 1) (x := 1) (by decide +kernel) rfl (by decide) ?_
      refine w_iload_n (n := 38) (i := 3) (by decide +kernel) rfl rfl ?_
      refine w_ishl (n := 39) (by decide +kernel) rfl ?_
      refine w_ior (n := 40) (by decide +kernel) rfl ?_
      refine w_istore_n (n := 41) (i := 2) (l1' := [some (.ref 483), some (.int x1), some (.int (y2 ||| (1 <<< (y3 &&& 31)))), some (.int y3)]) (l2' := []) (by decide +kernel) rfl (Nat.le_of_ble_eq_true rfl) rfl rfl ?_
      generalize ez12 : y2 ||| (1 <<< (y3 &&& 31)) = z12
      replace h := h z12 ez12.symm
      refine w_iinc (n := 44) (i := 3) (v := 1) (y := y3 + 1) (l1' := [some (.ref 483), some (.int x1), some (.int z12), some (.int (y3 + 1))]) (l2' := []) (by decide +kernel) rfl rfl rfl rfl rfl ?_
      refine w_goto (n := 18) (off := (-26)) (by decide +kernel) (by decide) ?_
      exact h
theorem t_226 {X : ak_X} {M : ak_M} {r : ak_O × ak_M} (hL : ab_lay M) (x1 : Int32) (h : (∃ (v2 : Int32) (M1 : ak_M), ab_lay M1 ∧ rn X 169 [.ref 483, .int x1] M (.inl (some (.int v2)), M1) ∧ (∃ (v4 : Int32) (M3 : ak_M), ab_lay M3 ∧ rn X 155 [.ref 483, .int v2] M1 (.inl (some (.int v4)), M3) ∧ (if v4 = 0 then r = (.inl (some (.int 0)), M3) else (∃ (v6 : Int32) (M5 : ak_M), ab_lay M5 ∧ rn X 200 [.ref 483, .int x1] M3 (.inl (some (.int v6)), M5) ∧ r = (.inl (some (.int v6)), M5)))))) : rn X 226 [.ref 483, .int x1] M r := by
  refine w_rn (nL := 2) (l1 := [some (.ref 483), some (.int x1)]) (by decide +kernel) rfl rfl ?_
  refine w_aload_n (n := 1) (i := 0) (by decide +kernel) rfl rfl ?_
  refine w_aload_n (n := 2) (i := 0) (by decide +kernel) rfl rfl ?_
  refine w_iload_n (n := 3) (i := 1) (by decide +kernel) rfl rfl ?_
  obtain ⟨v2, M1, hLM1, hr10, h⟩ := h
  refine w_cV (n := 6) (idx := 88) (cal := 169) (na := 1) (nl := 2) (as := [.int x1]) (rest := [.ref 483]) hL (by decide +kernel) (by decide +kernel) (at_483) (by decide +kernel) rfl rfl rfl (Nat.le_of_ble_eq_true rfl) rfl hr10 ?_
  obtain ⟨v4, M3, hLM3, hr9, h⟩ := h
  refine w_cV (n := 9) (idx := 72) (cal := 155) (na := 1) (nl := 2) (as := [.int v2]) (rest := []) hLM1 (by decide +kernel) (by decide +kernel) (at_483) (by decide +kernel) rfl rfl rfl (Nat.le_of_ble_eq_true rfl) rfl hr9 ?_
  by_cases c8 : v4 = 0
  · rw [if_pos c8] at h
    refine w_if_eq_j (n := 20) (off := 11) (by decide +kernel) (by decide) c8 ?_
    refine w_iconst (n := 21) (v := 0) (x := 0) (by decide +kernel) rfl (by decide) ?_
    subst h
    exact w_ireturn (by decide +kernel) (w_okI (by decide +kernel))
  · rw [if_neg c8] at h
    refine w_if_eq_n (n := 12) (off := 11) (by decide +kernel) rfl c8 ?_
    refine w_aload_n (n := 13) (i := 0) (by decide +kernel) rfl rfl ?_
    refine w_iload_n (n := 14) (i := 1) (by decide +kernel) rfl rfl ?_
    obtain ⟨v6, M5, hLM5, hr7, h⟩ := h
    refine w_cV (n := 17) (idx := 216) (cal := 200) (na := 1) (nl := 2) (as := [.int x1]) (rest := []) hLM3 (by decide +kernel) (by decide +kernel) (at_483) (by decide +kernel) rfl rfl rfl (Nat.le_of_ble_eq_true rfl) rfl hr7 ?_
    refine w_goto (n := 21) (off := 4) (by decide +kernel) (by decide) ?_
    subst h
    exact w_ireturn (by decide +kernel) (w_okI (by decide +kernel))
theorem t_227 {X : ak_X} {M : ak_M} {r : ak_O × ak_M} (hL : ab_lay M) (x1 : Int32) (x2 : Int32) (h : (∃ i1 : Nat, ab_ix 9 i1 245 ∧ (∃ (v3 : Int32) (M2 : ak_M), ab_lay M2 ∧ rn X 157 [.long (x1.toInt64), .long 0, .long (((ak_I M 484 i1) - 1).toInt64)] M (.inl (some (.int v3)), M2) ∧ (∃ (v5 : Int32) (M4 : ak_M), ab_lay M4 ∧ rn X 155 [.ref 483, .int v3] M2 (.inl (some (.int v5)), M4) ∧ (if v5 = 0 then r = (.inl (some (.int 0)), M4) else (∃ (v7 : Int32) (M6 : ak_M), ab_lay M6 ∧ rn X 157 [.long (x2.toInt64), .long 0, .long 5] M4 (.inl (some (.int v7)), M6) ∧ (∃ (v9 : Int32) (M8 : ak_M), ab_lay M8 ∧ rn X 156 [.ref 483, .int v7, .int 2] M6 (.inl (some (.int v9)), M8) ∧ (if v9 = 0 then r = (.inl (some (.int 0)), M8) else (∃ i10 : Nat, ab_ix ((173 + (6 * x1)) + x2) i10 245 ∧ r = (.inl (some (.int (ak_I M8 484 i10))), M8)))))))))) : rn X 227 [.ref 483, .int x1, .int x2] M r := by
  refine w_rn (nL := 3) (l1 := [some (.ref 483), some (.int x1), some (.int x2)]) (by decide +kernel) rfl rfl ?_
  refine w_aload_n (n := 1) (i := 0) (by decide +kernel) rfl rfl ?_
  refine w_iload_n (n := 2) (i := 1) (by decide +kernel) rfl rfl ?_
  refine w_i2l (n := 3) (by decide +kernel) rfl ?_
  refine w_lconst (n := 4) (v := 0) (x := 0) (by decide +kernel) rfl (by decide) ?_
  refine w_aload_n (n := 5) (i := 0) (by decide +kernel) rfl rfl ?_
  refine w_getR (n := 8) hL (by decide +kernel) oO_227 fF_12_7 (at_483) (by decide) (ar_483_1) rfl ?_
  refine w_bipush (n := 10) (v := 9) (x := 9) (by decide +kernel) rfl (by decide) ?_
  obtain ⟨i1, gi1, h⟩ := h
  refine w_iald (n := 11) hL (by decide +kernel) (at_484) (an_484) gi1 rfl ?_
  refine w_iconst (n := 12) (v := 1) (x := 1) (by decide +kernel) rfl (by decide) ?_
  refine w_isub (n := 13) (by decide +kernel) rfl ?_
  refine w_i2l (n := 14) (by decide +kernel) rfl ?_
  obtain ⟨v3, M2, hLM2, hr16, h⟩ := h
  refine w_cS (n := 17) (idx := 84) (cal := 157) (na := 3) (nl := 6) (as := [.long (x1.toInt64), .long 0, .long (((ak_I M 484 i1) - 1).toInt64)]) (rest := [.ref 483]) (by decide +kernel) (by decide +kernel) rfl rfl rfl (Nat.le_of_ble_eq_true rfl) rfl hr16 ?_
  obtain ⟨v5, M4, hLM4, hr15, h⟩ := h
  refine w_cV (n := 20) (idx := 72) (cal := 155) (na := 1) (nl := 2) (as := [.int v3]) (rest := []) hLM2 (by decide +kernel) (by decide +kernel) (at_483) (by decide +kernel) rfl rfl rfl (Nat.le_of_ble_eq_true rfl) rfl hr15 ?_
  by_cases c14 : v5 = 0
  · rw [if_pos c14] at h
    refine w_if_eq_j (n := 58) (off := 38) (by decide +kernel) (by decide) c14 ?_
    refine w_iconst (n := 59) (v := 0) (x := 0) (by decide +kernel) rfl (by decide) ?_
    subst h
    exact w_ireturn (by decide +kernel) (w_okI (by decide +kernel))
  · rw [if_neg c14] at h
    refine w_if_eq_n (n := 23) (off := 38) (by decide +kernel) rfl c14 ?_
    refine w_aload_n (n := 24) (i := 0) (by decide +kernel) rfl rfl ?_
    refine w_iload_n (n := 25) (i := 2) (by decide +kernel) rfl rfl ?_
    refine w_i2l (n := 26) (by decide +kernel) rfl ?_
    refine w_lconst (n := 27) (v := 0) (x := 0) (by decide +kernel) rfl (by decide) ?_
    refine w_ldc2 (n := 30) (idx := 250) (v := 5) (by decide +kernel) oO_227 (by decide +kernel) rfl ?_
    obtain ⟨v7, M6, hLM6, hr13, h⟩ := h
    refine w_cS (n := 33) (idx := 84) (cal := 157) (na := 3) (nl := 6) (as := [.long (x2.toInt64), .long 0, .long 5]) (rest := [.ref 483]) (by decide +kernel) (by decide +kernel) rfl rfl rfl (Nat.le_of_ble_eq_true rfl) rfl hr13 ?_
    refine w_iconst (n := 34) (v := 2) (x := 2) (by decide +kernel) rfl (by decide) ?_
    obtain ⟨v9, M8, hLM8, hr12, h⟩ := h
    refine w_cV (n := 37) (idx := 257) (cal := 156) (na := 2) (nl := 3) (as := [.int v7, .int 2]) (rest := []) hLM6 (by decide +kernel) (by decide +kernel) (at_483) (by decide +kernel) rfl rfl rfl (Nat.le_of_ble_eq_true rfl) rfl hr12 ?_
    by_cases c11 : v9 = 0
    · rw [if_pos c11] at h
      refine w_if_eq_j (n := 58) (off := 21) (by decide +kernel) (by decide) c11 ?_
      refine w_iconst (n := 59) (v := 0) (x := 0) (by decide +kernel) rfl (by decide) ?_
      subst h
      exact w_ireturn (by decide +kernel) (w_okI (by decide +kernel))
    · rw [if_neg c11] at h
      refine w_if_eq_n (n := 40) (off := 21) (by decide +kernel) rfl c11 ?_
      refine w_aload_n (n := 41) (i := 0) (by decide +kernel) rfl rfl ?_
      refine w_getR (n := 44) hLM8 (by decide +kernel) oO_227 fF_12_7 (at_483) (by decide) (ar_483_1) rfl ?_
      refine w_sipush (n := 47) (v := 173) (x := 173) (by decide +kernel) rfl (by decide) ?_
      refine w_bipush (n := 49) (v := 6) (x := 6) (by decide +kernel) rfl (by decide) ?_
      refine w_iload_n (n := 50) (i := 1) (by decide +kernel) rfl rfl ?_
      refine w_imul (n := 51) (by decide +kernel) rfl ?_
      refine w_iadd (n := 52) (by decide +kernel) rfl ?_
      refine w_iload_n (n := 53) (i := 2) (by decide +kernel) rfl rfl ?_
      refine w_iadd (n := 54) (by decide +kernel) rfl ?_
      obtain ⟨i10, gi10, h⟩ := h
      refine w_iald (n := 55) hLM8 (by decide +kernel) (at_484) (an_484) gi10 rfl ?_
      refine w_goto (n := 59) (off := 4) (by decide +kernel) (by decide) ?_
      subst h
      exact w_ireturn (by decide +kernel) (w_okI (by decide +kernel))
theorem t_228 {X : ak_X} {M : ak_M} {r : ak_O × ak_M} (hL : ab_lay M) (h : (∀ M1 : ak_M, M1 = ak_sI M 483 0 0 → sg X 228 (9, [some (.ref 483), some (.int ((-1))), some (.int 0)], [], []) M1 r)) : rn X 228 [.ref 483] M r := by
  refine w_rn (nL := 3) (l1 := [some (.ref 483), none, none]) (by decide +kernel) rfl rfl ?_
  refine w_aload_n (n := 1) (i := 0) (by decide +kernel) rfl rfl ?_
  refine w_iconst (n := 2) (v := 0) (x := 0) (by decide +kernel) rfl (by decide) ?_
  refine w_putI (n := 5) hL (by decide +kernel) oO_228 fF_12_62 (at_483) ⟨by decide, Or.inl (by decide)⟩ rfl ?_
  generalize eM1 : ak_sI M 483 0 0 = M1
  have hLM1 : ab_lay M1 := by rw [← eM1]; exact ab_lay.sI hL
  replace h := h M1 eM1.symm
  refine w_iconst (n := 6) (v := -1) (x := (-1)) (by decide +kernel) rfl (by decide) ?_
  refine w_istore_n (n := 7) (i := 1) (l1' := [some (.ref 483), some (.int ((-1))), none]) (l2' := []) (by decide +kernel) rfl (Nat.le_of_ble_eq_true rfl) rfl rfl ?_
  refine w_iconst (n := 8) (v := 0) (x := 0) (by decide +kernel) rfl (by decide) ?_
  refine w_istore_n (n := 9) (i := 2) (l1' := [some (.ref 483), some (.int ((-1))), some (.int 0)]) (l2' := []) (by decide +kernel) rfl (Nat.le_of_ble_eq_true rfl) rfl rfl ?_
  exact h
theorem t_228_9 {X : ak_X} {M : ak_M} {r : ak_O × ak_M} (hL : ab_lay M) (y1 : Int32) (y2 : Int32) (h : (∃ (v3 : Int32) (M2 : ak_M), ab_lay M2 ∧ rn X 168 [.ref 483] M (.inl (some (.int v3)), M2) ∧ (if v3 ≤ y2 then r = (.inl (some (.int y1)), M2) else (∃ (v5 : Int32) (M4 : ak_M), ab_lay M4 ∧ rn X 175 [.ref 483, .int y2] M2 (.inl (some (.int v5)), M4) ∧ (if v5 = 0 then sg X 228 (9, [some (.ref 483), some (.int y1), some (.int (y2 + 1))], [], []) M4 r else (if y1 = (-1) then sg X 228 (9, [some (.ref 483), some (.int y2), some (.int (y2 + 1))], [], []) M4 r else (∃ (v7 : Int32) (M6 : ak_M), ab_lay M6 ∧ rn X 171 [.ref 483, .int y2, .int 3] M4 (.inl (some (.int v7)), M6) ∧ (∃ (v9 : Int32) (M8 : ak_M), ab_lay M8 ∧ rn X 171 [.ref 483, .int y1, .int 3] M6 (.inl (some (.int v9)), M8) ∧ (if v7 ≤ v9 then sg X 228 (9, [some (.ref 483), some (.int y1), some (.int (y2 + 1))], [], []) M8 r else sg X 228 (9, [some (.ref 483), some (.int y2), some (.int (y2 + 1))], [], []) M8 r))))))))) : sg X 228 (9, [some (.ref 483), some (.int y1), some (.int y2)], [], []) M r := by
  refine w_iload_n (n := 10) (i := 2) (by decide +kernel) rfl rfl ?_
  refine w_aload_n (n := 11) (i := 0) (by decide +kernel) rfl rfl ?_
  obtain ⟨v3, M2, hLM2, hr17, h⟩ := h
  refine w_cV (n := 14) (idx := 80) (cal := 168) (na := 0) (nl := 1) (as := []) (rest := [.int y2]) hL (by decide +kernel) (by decide +kernel) (at_483) (by decide +kernel) rfl rfl rfl (Nat.le_of_ble_eq_true rfl) rfl hr17 ?_
  by_cases c16 : v3 ≤ y2
  · rw [if_pos c16] at h
    refine w_icmp_ge_j (n := 53) (off := 39) (by decide +kernel) (by decide) c16 ?_
    refine w_iload_n (n := 54) (i := 1) (by decide +kernel) rfl rfl ?_
    subst h
    exact w_ireturn (by decide +kernel) (w_okI (by decide +kernel))
  · rw [if_neg c16] at h
    refine w_icmp_ge_n (n := 17) (off := 39) (by decide +kernel) rfl c16 ?_
    refine w_aload_n (n := 18) (i := 0) (by decide +kernel) rfl rfl ?_
    refine w_iload_n (n := 19) (i := 2) (by decide +kernel) rfl rfl ?_
    obtain ⟨v5, M4, hLM4, hr15, h⟩ := h
    refine w_cV (n := 22) (idx := 99) (cal := 175) (na := 1) (nl := 2) (as := [.int y2]) (rest := []) hLM2 (by decide +kernel) (by decide +kernel) (at_483) (by decide +kernel) rfl rfl rfl (Nat.le_of_ble_eq_true rfl) rfl hr15 ?_
    by_cases c14 : v5 = 0
    · rw [if_pos c14] at h
      refine w_if_eq_j (n := 47) (off := 25) (by decide +kernel) (by decide) c14 ?_
      refine w_iinc (n := 50) (i := 2) (v := 1) (y := y2 + 1) (l1' := [some (.ref 483), some (.int y1), some (.int (y2 + 1))]) (l2' := []) (by decide +kernel) rfl rfl rfl rfl rfl ?_
      refine w_goto (n := 9) (off := (-41)) (by decide +kernel) (by decide) ?_
      exact h
    · rw [if_neg c14] at h
      refine w_if_eq_n (n := 25) (off := 25) (by decide +kernel) rfl c14 ?_
      refine w_iload_n (n := 26) (i := 1) (by decide +kernel) rfl rfl ?_
      refine w_iconst (n := 27) (v := -1) (x := (-1)) (by decide +kernel) rfl (by decide) ?_
      by_cases c13 : y1 = (-1)
      · rw [if_pos c13] at h
        refine w_icmp_eq_j (n := 45) (off := 18) (by decide +kernel) (by decide) c13 ?_
        refine w_iload_n (n := 46) (i := 2) (by decide +kernel) rfl rfl ?_
        refine w_istore_n (n := 47) (i := 1) (l1' := [some (.ref 483), some (.int y2), some (.int y2)]) (l2' := []) (by decide +kernel) rfl (Nat.le_of_ble_eq_true rfl) rfl rfl ?_
        refine w_iinc (n := 50) (i := 2) (v := 1) (y := y2 + 1) (l1' := [some (.ref 483), some (.int y2), some (.int (y2 + 1))]) (l2' := []) (by decide +kernel) rfl rfl rfl rfl rfl ?_
        refine w_goto (n := 9) (off := (-41)) (by decide +kernel) (by decide) ?_
        exact h
      · rw [if_neg c13] at h
        refine w_icmp_eq_n (n := 30) (off := 18) (by decide +kernel) rfl c13 ?_
        refine w_aload_n (n := 31) (i := 0) (by decide +kernel) rfl rfl ?_
        refine w_iload_n (n := 32) (i := 2) (by decide +kernel) rfl rfl ?_
        refine w_iconst (n := 33) (v := 3) (x := 3) (by decide +kernel) rfl (by decide) ?_
        obtain ⟨v7, M6, hLM6, hr12, h⟩ := h
        refine w_cV (n := 36) (idx := 92) (cal := 171) (na := 2) (nl := 3) (as := [.int y2, .int 3]) (rest := []) hLM4 (by decide +kernel) (by decide +kernel) (at_483) (by decide +kernel) rfl rfl rfl (Nat.le_of_ble_eq_true rfl) rfl hr12 ?_
        refine w_aload_n (n := 37) (i := 0) (by decide +kernel) rfl rfl ?_
        refine w_iload_n (n := 38) (i := 1) (by decide +kernel) rfl rfl ?_
        refine w_iconst (n := 39) (v := 3) (x := 3) (by decide +kernel) rfl (by decide) ?_
        obtain ⟨v9, M8, hLM8, hr11, h⟩ := h
        refine w_cV (n := 42) (idx := 92) (cal := 171) (na := 2) (nl := 3) (as := [.int y1, .int 3]) (rest := [.int v7]) hLM6 (by decide +kernel) (by decide +kernel) (at_483) (by decide +kernel) rfl rfl rfl (Nat.le_of_ble_eq_true rfl) rfl hr11 ?_
        by_cases c10 : v7 ≤ v9
        · rw [if_pos c10] at h
          refine w_icmp_le_j (n := 47) (off := 5) (by decide +kernel) (by decide) c10 ?_
          refine w_iinc (n := 50) (i := 2) (v := 1) (y := y2 + 1) (l1' := [some (.ref 483), some (.int y1), some (.int (y2 + 1))]) (l2' := []) (by decide +kernel) rfl rfl rfl rfl rfl ?_
          refine w_goto (n := 9) (off := (-41)) (by decide +kernel) (by decide) ?_
          exact h
        · rw [if_neg c10] at h
          refine w_icmp_le_n (n := 45) (off := 5) (by decide +kernel) rfl c10 ?_
          refine w_iload_n (n := 46) (i := 2) (by decide +kernel) rfl rfl ?_
          refine w_istore_n (n := 47) (i := 1) (l1' := [some (.ref 483), some (.int y2), some (.int y2)]) (l2' := []) (by decide +kernel) rfl (Nat.le_of_ble_eq_true rfl) rfl rfl ?_
          refine w_iinc (n := 50) (i := 2) (v := 1) (y := y2 + 1) (l1' := [some (.ref 483), some (.int y2), some (.int (y2 + 1))]) (l2' := []) (by decide +kernel) rfl rfl rfl rfl rfl ?_
          refine w_goto (n := 9) (off := (-41)) (by decide +kernel) (by decide) ?_
          exact h
theorem t_229 {X : ak_X} {M : ak_M} {r : ak_O × ak_M} (hL : ab_lay M) (h : sg X 229 (4, [some (.ref 483), some (.int ((-1))), some (.int 0)], [], []) M r) : rn X 229 [.ref 483] M r := by
  refine w_rn (nL := 3) (l1 := [some (.ref 483), none, none]) (by decide +kernel) rfl rfl ?_
  refine w_iconst (n := 1) (v := -1) (x := (-1)) (by decide +kernel) rfl (by decide) ?_
  refine w_istore_n (n := 2) (i := 1) (l1' := [some (.ref 483), some (.int ((-1))), none]) (l2' := []) (by decide +kernel) rfl (Nat.le_of_ble_eq_true rfl) rfl rfl ?_
  refine w_iconst (n := 3) (v := 0) (x := 0) (by decide +kernel) rfl (by decide) ?_
  refine w_istore_n (n := 4) (i := 2) (l1' := [some (.ref 483), some (.int ((-1))), some (.int 0)]) (l2' := []) (by decide +kernel) rfl (Nat.le_of_ble_eq_true rfl) rfl rfl ?_
  exact h
theorem t_229_4 {X : ak_X} {M : ak_M} {r : ak_O × ak_M} (hL : ab_lay M) (y1 : Int32) (y2 : Int32) (h : (∃ (v2 : Int32) (M1 : ak_M), ab_lay M1 ∧ rn X 168 [.ref 483] M (.inl (some (.int v2)), M1) ∧ (if v2 ≤ y2 then r = (.inl (some (.int y1)), M1) else (∃ (v4 : Int32) (M3 : ak_M), ab_lay M3 ∧ rn X 175 [.ref 483, .int y2] M1 (.inl (some (.int v4)), M3) ∧ (if v4 = 0 then sg X 229 (4, [some (.ref 483), some (.int y1), some (.int (y2 + 1))], [], []) M3 r else (if y1 = (-1) then sg X 229 (4, [some (.ref 483), some (.int y2), some (.int (y2 + 1))], [], []) M3 r else (∃ (v6 : Int32) (M5 : ak_M), ab_lay M5 ∧ rn X 171 [.ref 483, .int y2, .int 3] M3 (.inl (some (.int v6)), M5) ∧ (∃ (v8 : Int32) (M7 : ak_M), ab_lay M7 ∧ rn X 171 [.ref 483, .int y1, .int 3] M5 (.inl (some (.int v8)), M7) ∧ (if v8 ≤ v6 then sg X 229 (4, [some (.ref 483), some (.int y1), some (.int (y2 + 1))], [], []) M7 r else sg X 229 (4, [some (.ref 483), some (.int y2), some (.int (y2 + 1))], [], []) M7 r))))))))) : sg X 229 (4, [some (.ref 483), some (.int y1), some (.int y2)], [], []) M r := by
  refine w_iload_n (n := 5) (i := 2) (by decide +kernel) rfl rfl ?_
  refine w_aload_n (n := 6) (i := 0) (by decide +kernel) rfl rfl ?_
  obtain ⟨v2, M1, hLM1, hr16, h⟩ := h
  refine w_cV (n := 9) (idx := 80) (cal := 168) (na := 0) (nl := 1) (as := []) (rest := [.int y2]) hL (by decide +kernel) (by decide +kernel) (at_483) (by decide +kernel) rfl rfl rfl (Nat.le_of_ble_eq_true rfl) rfl hr16 ?_
  by_cases c15 : v2 ≤ y2
  · rw [if_pos c15] at h
    refine w_icmp_ge_j (n := 48) (off := 39) (by decide +kernel) (by decide) c15 ?_
    refine w_iload_n (n := 49) (i := 1) (by decide +kernel) rfl rfl ?_
    subst h
    exact w_ireturn (by decide +kernel) (w_okI (by decide +kernel))
  · rw [if_neg c15] at h
    refine w_icmp_ge_n (n := 12) (off := 39) (by decide +kernel) rfl c15 ?_
    refine w_aload_n (n := 13) (i := 0) (by decide +kernel) rfl rfl ?_
    refine w_iload_n (n := 14) (i := 2) (by decide +kernel) rfl rfl ?_
    obtain ⟨v4, M3, hLM3, hr14, h⟩ := h
    refine w_cV (n := 17) (idx := 99) (cal := 175) (na := 1) (nl := 2) (as := [.int y2]) (rest := []) hLM1 (by decide +kernel) (by decide +kernel) (at_483) (by decide +kernel) rfl rfl rfl (Nat.le_of_ble_eq_true rfl) rfl hr14 ?_
    by_cases c13 : v4 = 0
    · rw [if_pos c13] at h
      refine w_if_eq_j (n := 42) (off := 25) (by decide +kernel) (by decide) c13 ?_
      refine w_iinc (n := 45) (i := 2) (v := 1) (y := y2 + 1) (l1' := [some (.ref 483), some (.int y1), some (.int (y2 + 1))]) (l2' := []) (by decide +kernel) rfl rfl rfl rfl rfl ?_
      refine w_goto (n := 4) (off := (-41)) (by decide +kernel) (by decide) ?_
      exact h
    · rw [if_neg c13] at h
      refine w_if_eq_n (n := 20) (off := 25) (by decide +kernel) rfl c13 ?_
      refine w_iload_n (n := 21) (i := 1) (by decide +kernel) rfl rfl ?_
      refine w_iconst (n := 22) (v := -1) (x := (-1)) (by decide +kernel) rfl (by decide) ?_
      by_cases c12 : y1 = (-1)
      · rw [if_pos c12] at h
        refine w_icmp_eq_j (n := 40) (off := 18) (by decide +kernel) (by decide) c12 ?_
        refine w_iload_n (n := 41) (i := 2) (by decide +kernel) rfl rfl ?_
        refine w_istore_n (n := 42) (i := 1) (l1' := [some (.ref 483), some (.int y2), some (.int y2)]) (l2' := []) (by decide +kernel) rfl (Nat.le_of_ble_eq_true rfl) rfl rfl ?_
        refine w_iinc (n := 45) (i := 2) (v := 1) (y := y2 + 1) (l1' := [some (.ref 483), some (.int y2), some (.int (y2 + 1))]) (l2' := []) (by decide +kernel) rfl rfl rfl rfl rfl ?_
        refine w_goto (n := 4) (off := (-41)) (by decide +kernel) (by decide) ?_
        exact h
      · rw [if_neg c12] at h
        refine w_icmp_eq_n (n := 25) (off := 18) (by decide +kernel) rfl c12 ?_
        refine w_aload_n (n := 26) (i := 0) (by decide +kernel) rfl rfl ?_
        refine w_iload_n (n := 27) (i := 2) (by decide +kernel) rfl rfl ?_
        refine w_iconst (n := 28) (v := 3) (x := 3) (by decide +kernel) rfl (by decide) ?_
        obtain ⟨v6, M5, hLM5, hr11, h⟩ := h
        refine w_cV (n := 31) (idx := 92) (cal := 171) (na := 2) (nl := 3) (as := [.int y2, .int 3]) (rest := []) hLM3 (by decide +kernel) (by decide +kernel) (at_483) (by decide +kernel) rfl rfl rfl (Nat.le_of_ble_eq_true rfl) rfl hr11 ?_
        refine w_aload_n (n := 32) (i := 0) (by decide +kernel) rfl rfl ?_
        refine w_iload_n (n := 33) (i := 1) (by decide +kernel) rfl rfl ?_
        refine w_iconst (n := 34) (v := 3) (x := 3) (by decide +kernel) rfl (by decide) ?_
        obtain ⟨v8, M7, hLM7, hr10, h⟩ := h
        refine w_cV (n := 37) (idx := 92) (cal := 171) (na := 2) (nl := 3) (as := [.int y1, .int 3]) (rest := [.int v6]) hLM5 (by decide +kernel) (by decide +kernel) (at_483) (by decide +kernel) rfl rfl rfl (Nat.le_of_ble_eq_true rfl) rfl hr10 ?_
        by_cases c9 : v8 ≤ v6
        · rw [if_pos c9] at h
          refine w_icmp_ge_j (n := 42) (off := 5) (by decide +kernel) (by decide) c9 ?_
          refine w_iinc (n := 45) (i := 2) (v := 1) (y := y2 + 1) (l1' := [some (.ref 483), some (.int y1), some (.int (y2 + 1))]) (l2' := []) (by decide +kernel) rfl rfl rfl rfl rfl ?_
          refine w_goto (n := 4) (off := (-41)) (by decide +kernel) (by decide) ?_
          exact h
        · rw [if_neg c9] at h
          refine w_icmp_ge_n (n := 40) (off := 5) (by decide +kernel) rfl c9 ?_
          refine w_iload_n (n := 41) (i := 2) (by decide +kernel) rfl rfl ?_
          refine w_istore_n (n := 42) (i := 1) (l1' := [some (.ref 483), some (.int y2), some (.int y2)]) (l2' := []) (by decide +kernel) rfl (Nat.le_of_ble_eq_true rfl) rfl rfl ?_
          refine w_iinc (n := 45) (i := 2) (v := 1) (y := y2 + 1) (l1' := [some (.ref 483), some (.int y2), some (.int (y2 + 1))]) (l2' := []) (by decide +kernel) rfl rfl rfl rfl rfl ?_
          refine w_goto (n := 4) (off := (-41)) (by decide +kernel) (by decide) ?_
          exact h
theorem t_230 {X : ak_X} {M : ak_M} {r : ak_O × ak_M} (hL : ab_lay M) (h : (∀ M1 : ak_M, M1 = ak_sI M 483 0 0 → sg X 230 (9, [some (.ref 483), some (.int ((-1))), some (.int 0)], [], []) M1 r)) : rn X 230 [.ref 483] M r := by
  refine w_rn (nL := 3) (l1 := [some (.ref 483), none, none]) (by decide +kernel) rfl rfl ?_
  refine w_aload_n (n := 1) (i := 0) (by decide +kernel) rfl rfl ?_
  refine w_iconst (n := 2) (v := 0) (x := 0) (by decide +kernel) rfl (by decide) ?_
  refine w_putI (n := 5) hL (by decide +kernel) oO_230 fF_12_62 (at_483) ⟨by decide, Or.inl (by decide)⟩ rfl ?_
  generalize eM1 : ak_sI M 483 0 0 = M1
  have hLM1 : ab_lay M1 := by rw [← eM1]; exact ab_lay.sI hL
  replace h := h M1 eM1.symm
  refine w_iconst (n := 6) (v := -1) (x := (-1)) (by decide +kernel) rfl (by decide) ?_
  refine w_istore_n (n := 7) (i := 1) (l1' := [some (.ref 483), some (.int ((-1))), none]) (l2' := []) (by decide +kernel) rfl (Nat.le_of_ble_eq_true rfl) rfl rfl ?_
  refine w_iconst (n := 8) (v := 0) (x := 0) (by decide +kernel) rfl (by decide) ?_
  refine w_istore_n (n := 9) (i := 2) (l1' := [some (.ref 483), some (.int ((-1))), some (.int 0)]) (l2' := []) (by decide +kernel) rfl (Nat.le_of_ble_eq_true rfl) rfl rfl ?_
  exact h
theorem t_230_9 {X : ak_X} {M : ak_M} {r : ak_O × ak_M} (hL : ab_lay M) (y1 : Int32) (y2 : Int32) (h : (∃ (v3 : Int32) (M2 : ak_M), ab_lay M2 ∧ rn X 168 [.ref 483] M (.inl (some (.int v3)), M2) ∧ (if v3 ≤ y2 then r = (.inl (some (.int y1)), M2) else (∃ (v5 : Int32) (M4 : ak_M), ab_lay M4 ∧ rn X 175 [.ref 483, .int y2] M2 (.inl (some (.int v5)), M4) ∧ (if v5 = 0 then sg X 230 (9, [some (.ref 483), some (.int y1), some (.int (y2 + 1))], [], []) M4 r else (if y1 = (-1) then sg X 230 (9, [some (.ref 483), some (.int y2), some (.int (y2 + 1))], [], []) M4 r else (∃ (v7 : Int32) (M6 : ak_M), ab_lay M6 ∧ rn X 185 [.ref 483, .int y2] M4 (.inl (some (.int v7)), M6) ∧ (∃ (v9 : Int32) (M8 : ak_M), ab_lay M8 ∧ rn X 185 [.ref 483, .int y1] M6 (.inl (some (.int v9)), M8) ∧ (if v9 ≤ v7 then sg X 230 (9, [some (.ref 483), some (.int y1), some (.int (y2 + 1))], [], []) M8 r else sg X 230 (9, [some (.ref 483), some (.int y2), some (.int (y2 + 1))], [], []) M8 r))))))))) : sg X 230 (9, [some (.ref 483), some (.int y1), some (.int y2)], [], []) M r := by
  refine w_iload_n (n := 10) (i := 2) (by decide +kernel) rfl rfl ?_
  refine w_aload_n (n := 11) (i := 0) (by decide +kernel) rfl rfl ?_
  obtain ⟨v3, M2, hLM2, hr17, h⟩ := h
  refine w_cV (n := 14) (idx := 80) (cal := 168) (na := 0) (nl := 1) (as := []) (rest := [.int y2]) hL (by decide +kernel) (by decide +kernel) (at_483) (by decide +kernel) rfl rfl rfl (Nat.le_of_ble_eq_true rfl) rfl hr17 ?_
  by_cases c16 : v3 ≤ y2
  · rw [if_pos c16] at h
    refine w_icmp_ge_j (n := 51) (off := 37) (by decide +kernel) (by decide) c16 ?_
    refine w_iload_n (n := 52) (i := 1) (by decide +kernel) rfl rfl ?_
    subst h
    exact w_ireturn (by decide +kernel) (w_okI (by decide +kernel))
  · rw [if_neg c16] at h
    refine w_icmp_ge_n (n := 17) (off := 37) (by decide +kernel) rfl c16 ?_
    refine w_aload_n (n := 18) (i := 0) (by decide +kernel) rfl rfl ?_
    refine w_iload_n (n := 19) (i := 2) (by decide +kernel) rfl rfl ?_
    obtain ⟨v5, M4, hLM4, hr15, h⟩ := h
    refine w_cV (n := 22) (idx := 99) (cal := 175) (na := 1) (nl := 2) (as := [.int y2]) (rest := []) hLM2 (by decide +kernel) (by decide +kernel) (at_483) (by decide +kernel) rfl rfl rfl (Nat.le_of_ble_eq_true rfl) rfl hr15 ?_
    by_cases c14 : v5 = 0
    · rw [if_pos c14] at h
      refine w_if_eq_j (n := 45) (off := 23) (by decide +kernel) (by decide) c14 ?_
      refine w_iinc (n := 48) (i := 2) (v := 1) (y := y2 + 1) (l1' := [some (.ref 483), some (.int y1), some (.int (y2 + 1))]) (l2' := []) (by decide +kernel) rfl rfl rfl rfl rfl ?_
      refine w_goto (n := 9) (off := (-39)) (by decide +kernel) (by decide) ?_
      exact h
    · rw [if_neg c14] at h
      refine w_if_eq_n (n := 25) (off := 23) (by decide +kernel) rfl c14 ?_
      refine w_iload_n (n := 26) (i := 1) (by decide +kernel) rfl rfl ?_
      refine w_iconst (n := 27) (v := -1) (x := (-1)) (by decide +kernel) rfl (by decide) ?_
      by_cases c13 : y1 = (-1)
      · rw [if_pos c13] at h
        refine w_icmp_eq_j (n := 43) (off := 16) (by decide +kernel) (by decide) c13 ?_
        refine w_iload_n (n := 44) (i := 2) (by decide +kernel) rfl rfl ?_
        refine w_istore_n (n := 45) (i := 1) (l1' := [some (.ref 483), some (.int y2), some (.int y2)]) (l2' := []) (by decide +kernel) rfl (Nat.le_of_ble_eq_true rfl) rfl rfl ?_
        refine w_iinc (n := 48) (i := 2) (v := 1) (y := y2 + 1) (l1' := [some (.ref 483), some (.int y2), some (.int (y2 + 1))]) (l2' := []) (by decide +kernel) rfl rfl rfl rfl rfl ?_
        refine w_goto (n := 9) (off := (-39)) (by decide +kernel) (by decide) ?_
        exact h
      · rw [if_neg c13] at h
        refine w_icmp_eq_n (n := 30) (off := 16) (by decide +kernel) rfl c13 ?_
        refine w_aload_n (n := 31) (i := 0) (by decide +kernel) rfl rfl ?_
        refine w_iload_n (n := 32) (i := 2) (by decide +kernel) rfl rfl ?_
        obtain ⟨v7, M6, hLM6, hr12, h⟩ := h
        refine w_cV (n := 35) (idx := 161) (cal := 185) (na := 1) (nl := 2) (as := [.int y2]) (rest := []) hLM4 (by decide +kernel) (by decide +kernel) (at_483) (by decide +kernel) rfl rfl rfl (Nat.le_of_ble_eq_true rfl) rfl hr12 ?_
        refine w_aload_n (n := 36) (i := 0) (by decide +kernel) rfl rfl ?_
        refine w_iload_n (n := 37) (i := 1) (by decide +kernel) rfl rfl ?_
        obtain ⟨v9, M8, hLM8, hr11, h⟩ := h
        refine w_cV (n := 40) (idx := 161) (cal := 185) (na := 1) (nl := 2) (as := [.int y1]) (rest := [.int v7]) hLM6 (by decide +kernel) (by decide +kernel) (at_483) (by decide +kernel) rfl rfl rfl (Nat.le_of_ble_eq_true rfl) rfl hr11 ?_
        by_cases c10 : v9 ≤ v7
        · rw [if_pos c10] at h
          refine w_icmp_ge_j (n := 45) (off := 5) (by decide +kernel) (by decide) c10 ?_
          refine w_iinc (n := 48) (i := 2) (v := 1) (y := y2 + 1) (l1' := [some (.ref 483), some (.int y1), some (.int (y2 + 1))]) (l2' := []) (by decide +kernel) rfl rfl rfl rfl rfl ?_
          refine w_goto (n := 9) (off := (-39)) (by decide +kernel) (by decide) ?_
          exact h
        · rw [if_neg c10] at h
          refine w_icmp_ge_n (n := 43) (off := 5) (by decide +kernel) rfl c10 ?_
          refine w_iload_n (n := 44) (i := 2) (by decide +kernel) rfl rfl ?_
          refine w_istore_n (n := 45) (i := 1) (l1' := [some (.ref 483), some (.int y2), some (.int y2)]) (l2' := []) (by decide +kernel) rfl (Nat.le_of_ble_eq_true rfl) rfl rfl ?_
          refine w_iinc (n := 48) (i := 2) (v := 1) (y := y2 + 1) (l1' := [some (.ref 483), some (.int y2), some (.int (y2 + 1))]) (l2' := []) (by decide +kernel) rfl rfl rfl rfl rfl ?_
          refine w_goto (n := 9) (off := (-39)) (by decide +kernel) (by decide) ?_
          exact h
theorem t_231 {X : ak_X} {M : ak_M} {r : ak_O × ak_M} (hL : ab_lay M) (h : (∀ M1 : ak_M, M1 = ak_sI M 483 0 0 → sg X 231 (11, [some (.ref 483), some (.int ((-1))), some (.int 0), some (.int 0)], [], []) M1 r)) : rn X 231 [.ref 483] M r := by
  refine w_rn (nL := 4) (l1 := [some (.ref 483), none, none, none]) (by decide +kernel) rfl rfl ?_
  refine w_aload_n (n := 1) (i := 0) (by decide +kernel) rfl rfl ?_
  refine w_iconst (n := 2) (v := 0) (x := 0) (by decide +kernel) rfl (by decide) ?_
  refine w_putI (n := 5) hL (by decide +kernel) oO_231 fF_12_62 (at_483) ⟨by decide, Or.inl (by decide)⟩ rfl ?_
  generalize eM1 : ak_sI M 483 0 0 = M1
  have hLM1 : ab_lay M1 := by rw [← eM1]; exact ab_lay.sI hL
  replace h := h M1 eM1.symm
  refine w_iconst (n := 6) (v := -1) (x := (-1)) (by decide +kernel) rfl (by decide) ?_
  refine w_istore_n (n := 7) (i := 1) (l1' := [some (.ref 483), some (.int ((-1))), none, none]) (l2' := []) (by decide +kernel) rfl (Nat.le_of_ble_eq_true rfl) rfl rfl ?_
  refine w_iconst (n := 8) (v := 0) (x := 0) (by decide +kernel) rfl (by decide) ?_
  refine w_istore_n (n := 9) (i := 2) (l1' := [some (.ref 483), some (.int ((-1))), some (.int 0), none]) (l2' := []) (by decide +kernel) rfl (Nat.le_of_ble_eq_true rfl) rfl rfl ?_
  refine w_iconst (n := 10) (v := 0) (x := 0) (by decide +kernel) rfl (by decide) ?_
  refine w_istore_n (n := 11) (i := 3) (l1' := [some (.ref 483), some (.int ((-1))), some (.int 0), some (.int 0)]) (l2' := []) (by decide +kernel) rfl (Nat.le_of_ble_eq_true rfl) rfl rfl ?_
  exact h
theorem t_231_11 {X : ak_X} {M : ak_M} {r : ak_O × ak_M} (hL : ab_lay M) (y1 : Int32) (y2 : Int32) (y3 : Int32) (h : (∃ (v3 : Int32) (M2 : ak_M), ab_lay M2 ∧ rn X 168 [.ref 483] M (.inl (some (.int v3)), M2) ∧ (if v3 ≤ y3 then r = (.inl (some (.int y1)), M2) else (∃ (v5 : Int32) (M4 : ak_M), ab_lay M4 ∧ rn X 171 [.ref 483, .int y3, .int 11] M2 (.inl (some (.int v5)), M4) ∧ (if y2 < v5 then (∃ (v7 : Int32) (M6 : ak_M), ab_lay M6 ∧ rn X 171 [.ref 483, .int y3, .int 11] M4 (.inl (some (.int v7)), M6) ∧ sg X 231 (11, [some (.ref 483), some (.int y3), some (.int v7), some (.int (y3 + 1))], [], []) M6 r) else sg X 231 (11, [some (.ref 483), some (.int y1), some (.int y2), some (.int (y3 + 1))], [], []) M4 r))))) : sg X 231 (11, [some (.ref 483), some (.int y1), some (.int y2), some (.int y3)], [], []) M r := by
  refine w_iload_n (n := 12) (i := 3) (by decide +kernel) rfl rfl ?_
  refine w_aload_n (n := 13) (i := 0) (by decide +kernel) rfl rfl ?_
  obtain ⟨v3, M2, hLM2, hr12, h⟩ := h
  refine w_cV (n := 16) (idx := 80) (cal := 168) (na := 0) (nl := 1) (as := []) (rest := [.int y3]) hL (by decide +kernel) (by decide +kernel) (at_483) (by decide +kernel) rfl rfl rfl (Nat.le_of_ble_eq_true rfl) rfl hr12 ?_
  by_cases c11 : v3 ≤ y3
  · rw [if_pos c11] at h
    refine w_icmp_ge_j (n := 49) (off := 33) (by decide +kernel) (by decide) c11 ?_
    refine w_iload_n (n := 50) (i := 1) (by decide +kernel) rfl rfl ?_
    subst h
    exact w_ireturn (by decide +kernel) (w_okI (by decide +kernel))
  · rw [if_neg c11] at h
    refine w_icmp_ge_n (n := 19) (off := 33) (by decide +kernel) rfl c11 ?_
    refine w_aload_n (n := 20) (i := 0) (by decide +kernel) rfl rfl ?_
    refine w_iload_n (n := 21) (i := 3) (by decide +kernel) rfl rfl ?_
    refine w_bipush (n := 23) (v := 11) (x := 11) (by decide +kernel) rfl (by decide) ?_
    obtain ⟨v5, M4, hLM4, hr10, h⟩ := h
    refine w_cV (n := 26) (idx := 92) (cal := 171) (na := 2) (nl := 3) (as := [.int y3, .int 11]) (rest := []) hLM2 (by decide +kernel) (by decide +kernel) (at_483) (by decide +kernel) rfl rfl rfl (Nat.le_of_ble_eq_true rfl) rfl hr10 ?_
    refine w_iload_n (n := 27) (i := 2) (by decide +kernel) rfl rfl ?_
    by_cases c9 : y2 < v5
    · rw [if_pos c9] at h
      refine w_icmp_gt_j (n := 33) (off := 6) (by decide +kernel) (by decide) c9 ?_
      refine w_iload_n (n := 34) (i := 3) (by decide +kernel) rfl rfl ?_
      refine w_istore_n (n := 35) (i := 1) (l1' := [some (.ref 483), some (.int y3), some (.int y2), some (.int y3)]) (l2' := []) (by decide +kernel) rfl (Nat.le_of_ble_eq_true rfl) rfl rfl ?_
      refine w_aload_n (n := 36) (i := 0) (by decide +kernel) rfl rfl ?_
      refine w_iload_n (n := 37) (i := 3) (by decide +kernel) rfl rfl ?_
      refine w_bipush (n := 39) (v := 11) (x := 11) (by decide +kernel) rfl (by decide) ?_
      obtain ⟨v7, M6, hLM6, hr8, h⟩ := h
      refine w_cV (n := 42) (idx := 92) (cal := 171) (na := 2) (nl := 3) (as := [.int y3, .int 11]) (rest := []) hLM4 (by decide +kernel) (by decide +kernel) (at_483) (by decide +kernel) rfl rfl rfl (Nat.le_of_ble_eq_true rfl) rfl hr8 ?_
      refine w_istore_n (n := 43) (i := 2) (l1' := [some (.ref 483), some (.int y3), some (.int v7), some (.int y3)]) (l2' := []) (by decide +kernel) rfl (Nat.le_of_ble_eq_true rfl) rfl rfl ?_
      refine w_iinc (n := 46) (i := 3) (v := 1) (y := y3 + 1) (l1' := [some (.ref 483), some (.int y3), some (.int v7), some (.int (y3 + 1))]) (l2' := []) (by decide +kernel) rfl rfl rfl rfl rfl ?_
      refine w_goto (n := 11) (off := (-35)) (by decide +kernel) (by decide) ?_
      exact h
    · rw [if_neg c9] at h
      refine w_icmp_gt_n (n := 30) (off := 6) (by decide +kernel) rfl c9 ?_
      refine w_goto (n := 43) (off := 13) (by decide +kernel) (by decide) ?_
      refine w_iinc (n := 46) (i := 3) (v := 1) (y := y3 + 1) (l1' := [some (.ref 483), some (.int y1), some (.int y2), some (.int (y3 + 1))]) (l2' := []) (by decide +kernel) rfl rfl rfl rfl rfl ?_
      refine w_goto (n := 11) (off := (-35)) (by decide +kernel) (by decide) ?_
      exact h
theorem t_232 {X : ak_X} {M : ak_M} {r : ak_O × ak_M} (hL : ab_lay M) (x0 : Int32) (x1 : Int32) (h : (∃ (v2 : Int32) (M1 : ak_M), ab_lay M1 ∧ rn X 157 [.long (x0.toInt64), .long 0, .long 199] M (.inl (some (.int v2)), M1) ∧ (if v2 = 0 then r = (.inl (some (.int 0)), M1) else (∃ (v4 : Int32) (M3 : ak_M), ab_lay M3 ∧ rn X 157 [.long (x1.toInt64), .long 0, .long 199] M1 (.inl (some (.int v4)), M3) ∧ (if v4 = 0 then r = (.inl (some (.int 0)), M3) else r = (.inl (some (.int 1)), M3)))))) : rn X 232 [.int x0, .int x1] M r := by
  refine w_rn (nL := 2) (l1 := [some (.int x0), some (.int x1)]) (by decide +kernel) rfl rfl ?_
  refine w_iload_n (n := 1) (i := 0) (by decide +kernel) rfl rfl ?_
  refine w_i2l (n := 2) (by decide +kernel) rfl ?_
  refine w_lconst (n := 3) (v := 0) (x := 0) (by decide +kernel) rfl (by decide) ?_
  refine w_ldc2 (n := 6) (idx := 270) (v := 199) (by decide +kernel) oO_232 (by decide +kernel) rfl ?_
  obtain ⟨v2, M1, hLM1, hr8, h⟩ := h
  refine w_cS (n := 9) (idx := 84) (cal := 157) (na := 3) (nl := 6) (as := [.long (x0.toInt64), .long 0, .long 199]) (rest := []) (by decide +kernel) (by decide +kernel) rfl rfl rfl (Nat.le_of_ble_eq_true rfl) rfl hr8 ?_
  by_cases c7 : v2 = 0
  · rw [if_pos c7] at h
    refine w_if_eq_j (n := 28) (off := 19) (by decide +kernel) (by decide) c7 ?_
    refine w_iconst (n := 29) (v := 0) (x := 0) (by decide +kernel) rfl (by decide) ?_
    subst h
    exact w_ireturn (by decide +kernel) (by decide +kernel)
  · rw [if_neg c7] at h
    refine w_if_eq_n (n := 12) (off := 19) (by decide +kernel) rfl c7 ?_
    refine w_iload_n (n := 13) (i := 1) (by decide +kernel) rfl rfl ?_
    refine w_i2l (n := 14) (by decide +kernel) rfl ?_
    refine w_lconst (n := 15) (v := 0) (x := 0) (by decide +kernel) rfl (by decide) ?_
    refine w_ldc2 (n := 18) (idx := 270) (v := 199) (by decide +kernel) oO_232 (by decide +kernel) rfl ?_
    obtain ⟨v4, M3, hLM3, hr6, h⟩ := h
    refine w_cS (n := 21) (idx := 84) (cal := 157) (na := 3) (nl := 6) (as := [.long (x1.toInt64), .long 0, .long 199]) (rest := []) (by decide +kernel) (by decide +kernel) rfl rfl rfl (Nat.le_of_ble_eq_true rfl) rfl hr6 ?_
    by_cases c5 : v4 = 0
    · rw [if_pos c5] at h
      refine w_if_eq_j (n := 28) (off := 7) (by decide +kernel) (by decide) c5 ?_
      refine w_iconst (n := 29) (v := 0) (x := 0) (by decide +kernel) rfl (by decide) ?_
      subst h
      exact w_ireturn (by decide +kernel) (by decide +kernel)
    · rw [if_neg c5] at h
      refine w_if_eq_n (n := 24) (off := 7) (by decide +kernel) rfl c5 ?_
      refine w_iconst (n := 25) (v := 1) (x := 1) (by decide +kernel) rfl (by decide) ?_
      refine w_goto (n := 29) (off := 4) (by decide +kernel) (by decide) ?_
      subst h
      exact w_ireturn (by decide +kernel) (by decide +kernel)
theorem t_233 {X : ak_X} {M : ak_M} {r : ak_O × ak_M} (hL : ab_lay M) (x1 : Int32) (x2 : Int32) (x3 : Int32) (h : (∃ (v2 : Int32) (M1 : ak_M), ab_lay M1 ∧ rn X 232 [.int x1, .int x2] M (.inl (some (.int v2)), M1) ∧ (if v2 = 0 then (∃ (v4 : Int32) (M3 : ak_M), ab_lay M3 ∧ rn X 155 [.ref 483, .int 0] M1 (.inl (some (.int v4)), M3) ∧ (if v4 = 0 then r = (.inl (some (.int 0)), M3) else (∃ (v6 : Int32) (M5 : ak_M), ab_lay M5 ∧ rn X 203 [.ref 483, .int x1, .int x2, .int x3] M3 (.inl (some (.int v6)), M5) ∧ r = (.inl (some (.int v6)), M5)))) else (∃ (v11 : Int32) (M10 : ak_M), ab_lay M10 ∧ rn X 168 [.ref 483] M1 (.inl (some (.int v11)), M10) ∧ (∃ (v13 : Int32) (M12 : ak_M), ab_lay M12 ∧ rn X 157 [.long (x3.toInt64), .long ((-1)), .long ((v11 - 1).toInt64)] M10 (.inl (some (.int v13)), M12) ∧ (if v13 = 0 then (∃ (v15 : Int32) (M14 : ak_M), ab_lay M14 ∧ rn X 155 [.ref 483, .int 0] M12 (.inl (some (.int v15)), M14) ∧ (if v15 = 0 then r = (.inl (some (.int 0)), M14) else (∃ (v17 : Int32) (M16 : ak_M), ab_lay M16 ∧ rn X 203 [.ref 483, .int x1, .int x2, .int x3] M14 (.inl (some (.int v17)), M16) ∧ r = (.inl (some (.int v17)), M16)))) else (∃ (v22 : Int32) (M21 : ak_M), ab_lay M21 ∧ rn X 155 [.ref 483, .int 1] M12 (.inl (some (.int v22)), M21) ∧ (if v22 = 0 then r = (.inl (some (.int 0)), M21) else (∃ (v24 : Int32) (M23 : ak_M), ab_lay M23 ∧ rn X 203 [.ref 483, .int x1, .int x2, .int x3] M21 (.inl (some (.int v24)), M23) ∧ r = (.inl (some (.int v24)), M23)))))))))) : rn X 233 [.ref 483, .int x1, .int x2, .int x3] M r := by
  refine w_rn (nL := 4) (l1 := [some (.ref 483), some (.int x1), some (.int x2), some (.int x3)]) (by decide +kernel) rfl rfl ?_
  refine w_aload_n (n := 1) (i := 0) (by decide +kernel) rfl rfl ?_
  refine w_iload_n (n := 2) (i := 1) (by decide +kernel) rfl rfl ?_
  refine w_iload_n (n := 3) (i := 2) (by decide +kernel) rfl rfl ?_
  obtain ⟨v2, M1, hLM1, hr32, h⟩ := h
  refine w_cS (n := 6) (idx := 272) (cal := 232) (na := 2) (nl := 2) (as := [.int x1, .int x2]) (rest := [.ref 483]) (by decide +kernel) (by decide +kernel) rfl rfl rfl (Nat.le_of_ble_eq_true rfl) rfl hr32 ?_
  by_cases c31 : v2 = 0
  · rw [if_pos c31] at h
    refine w_if_eq_j (n := 31) (off := 25) (by decide +kernel) (by decide) c31 ?_
    refine w_iconst (n := 32) (v := 0) (x := 0) (by decide +kernel) rfl (by decide) ?_
    obtain ⟨v4, M3, hLM3, hr9, h⟩ := h
    refine w_cV (n := 35) (idx := 72) (cal := 155) (na := 1) (nl := 2) (as := [.int 0]) (rest := []) hLM1 (by decide +kernel) (by decide +kernel) (at_483) (by decide +kernel) rfl rfl rfl (Nat.le_of_ble_eq_true rfl) rfl hr9 ?_
    by_cases c8 : v4 = 0
    · rw [if_pos c8] at h
      refine w_if_eq_j (n := 48) (off := 13) (by decide +kernel) (by decide) c8 ?_
      refine w_iconst (n := 49) (v := 0) (x := 0) (by decide +kernel) rfl (by decide) ?_
      subst h
      exact w_ireturn (by decide +kernel) (w_okI (by decide +kernel))
    · rw [if_neg c8] at h
      refine w_if_eq_n (n := 38) (off := 13) (by decide +kernel) rfl c8 ?_
      refine w_aload_n (n := 39) (i := 0) (by decide +kernel) rfl rfl ?_
      refine w_iload_n (n := 40) (i := 1) (by decide +kernel) rfl rfl ?_
      refine w_iload_n (n := 41) (i := 2) (by decide +kernel) rfl rfl ?_
      refine w_iload_n (n := 42) (i := 3) (by decide +kernel) rfl rfl ?_
      obtain ⟨v6, M5, hLM5, hr7, h⟩ := h
      refine w_cV (n := 45) (idx := 228) (cal := 203) (na := 3) (nl := 4) (as := [.int x1, .int x2, .int x3]) (rest := []) hLM3 (by decide +kernel) (by decide +kernel) (at_483) (by decide +kernel) rfl rfl rfl (Nat.le_of_ble_eq_true rfl) rfl hr7 ?_
      refine w_goto (n := 49) (off := 4) (by decide +kernel) (by decide) ?_
      subst h
      exact w_ireturn (by decide +kernel) (w_okI (by decide +kernel))
  · rw [if_neg c31] at h
    refine w_if_eq_n (n := 9) (off := 25) (by decide +kernel) rfl c31 ?_
    refine w_iload_n (n := 10) (i := 3) (by decide +kernel) rfl rfl ?_
    refine w_i2l (n := 11) (by decide +kernel) rfl ?_
    refine w_ldc2 (n := 14) (idx := 275) (v := (-1)) (by decide +kernel) oO_233 (by decide +kernel) rfl ?_
    refine w_aload_n (n := 15) (i := 0) (by decide +kernel) rfl rfl ?_
    obtain ⟨v11, M10, hLM10, hr30, h⟩ := h
    refine w_cV (n := 18) (idx := 80) (cal := 168) (na := 0) (nl := 1) (as := []) (rest := [.long ((-1)), .long (x3.toInt64), .ref 483]) hLM1 (by decide +kernel) (by decide +kernel) (at_483) (by decide +kernel) rfl rfl rfl (Nat.le_of_ble_eq_true rfl) rfl hr30 ?_
    refine w_iconst (n := 19) (v := 1) (x := 1) (by decide +kernel) rfl (by decide) ?_
    refine w_isub (n := 20) (by decide +kernel) rfl ?_
    refine w_i2l (n := 21) (by decide +kernel) rfl ?_
    obtain ⟨v13, M12, hLM12, hr29, h⟩ := h
    refine w_cS (n := 24) (idx := 84) (cal := 157) (na := 3) (nl := 6) (as := [.long (x3.toInt64), .long ((-1)), .long ((v11 - 1).toInt64)]) (rest := [.ref 483]) (by decide +kernel) (by decide +kernel) rfl rfl rfl (Nat.le_of_ble_eq_true rfl) rfl hr29 ?_
    by_cases c28 : v13 = 0
    · rw [if_pos c28] at h
      refine w_if_eq_j (n := 31) (off := 7) (by decide +kernel) (by decide) c28 ?_
      refine w_iconst (n := 32) (v := 0) (x := 0) (by decide +kernel) rfl (by decide) ?_
      obtain ⟨v15, M14, hLM14, hr20, h⟩ := h
      refine w_cV (n := 35) (idx := 72) (cal := 155) (na := 1) (nl := 2) (as := [.int 0]) (rest := []) hLM12 (by decide +kernel) (by decide +kernel) (at_483) (by decide +kernel) rfl rfl rfl (Nat.le_of_ble_eq_true rfl) rfl hr20 ?_
      by_cases c19 : v15 = 0
      · rw [if_pos c19] at h
        refine w_if_eq_j (n := 48) (off := 13) (by decide +kernel) (by decide) c19 ?_
        refine w_iconst (n := 49) (v := 0) (x := 0) (by decide +kernel) rfl (by decide) ?_
        subst h
        exact w_ireturn (by decide +kernel) (w_okI (by decide +kernel))
      · rw [if_neg c19] at h
        refine w_if_eq_n (n := 38) (off := 13) (by decide +kernel) rfl c19 ?_
        refine w_aload_n (n := 39) (i := 0) (by decide +kernel) rfl rfl ?_
        refine w_iload_n (n := 40) (i := 1) (by decide +kernel) rfl rfl ?_
        refine w_iload_n (n := 41) (i := 2) (by decide +kernel) rfl rfl ?_
        refine w_iload_n (n := 42) (i := 3) (by decide +kernel) rfl rfl ?_
        obtain ⟨v17, M16, hLM16, hr18, h⟩ := h
        refine w_cV (n := 45) (idx := 228) (cal := 203) (na := 3) (nl := 4) (as := [.int x1, .int x2, .int x3]) (rest := []) hLM14 (by decide +kernel) (by decide +kernel) (at_483) (by decide +kernel) rfl rfl rfl (Nat.le_of_ble_eq_true rfl) rfl hr18 ?_
        refine w_goto (n := 49) (off := 4) (by decide +kernel) (by decide) ?_
        subst h
        exact w_ireturn (by decide +kernel) (w_okI (by decide +kernel))
    · rw [if_neg c28] at h
      refine w_if_eq_n (n := 27) (off := 7) (by decide +kernel) rfl c28 ?_
      refine w_iconst (n := 28) (v := 1) (x := 1) (by decide +kernel) rfl (by decide) ?_
      refine w_goto (n := 32) (off := 4) (by decide +kernel) (by decide) ?_
      obtain ⟨v22, M21, hLM21, hr27, h⟩ := h
      refine w_cV (n := 35) (idx := 72) (cal := 155) (na := 1) (nl := 2) (as := [.int 1]) (rest := []) hLM12 (by decide +kernel) (by decide +kernel) (at_483) (by decide +kernel) rfl rfl rfl (Nat.le_of_ble_eq_true rfl) rfl hr27 ?_
      by_cases c26 : v22 = 0
      · rw [if_pos c26] at h
        refine w_if_eq_j (n := 48) (off := 13) (by decide +kernel) (by decide) c26 ?_
        refine w_iconst (n := 49) (v := 0) (x := 0) (by decide +kernel) rfl (by decide) ?_
        subst h
        exact w_ireturn (by decide +kernel) (w_okI (by decide +kernel))
      · rw [if_neg c26] at h
        refine w_if_eq_n (n := 38) (off := 13) (by decide +kernel) rfl c26 ?_
        refine w_aload_n (n := 39) (i := 0) (by decide +kernel) rfl rfl ?_
        refine w_iload_n (n := 40) (i := 1) (by decide +kernel) rfl rfl ?_
        refine w_iload_n (n := 41) (i := 2) (by decide +kernel) rfl rfl ?_
        refine w_iload_n (n := 42) (i := 3) (by decide +kernel) rfl rfl ?_
        obtain ⟨v24, M23, hLM23, hr25, h⟩ := h
        refine w_cV (n := 45) (idx := 228) (cal := 203) (na := 3) (nl := 4) (as := [.int x1, .int x2, .int x3]) (rest := []) hLM21 (by decide +kernel) (by decide +kernel) (at_483) (by decide +kernel) rfl rfl rfl (Nat.le_of_ble_eq_true rfl) rfl hr25 ?_
        refine w_goto (n := 49) (off := 4) (by decide +kernel) (by decide) ?_
        subst h
        exact w_ireturn (by decide +kernel) (w_okI (by decide +kernel))
theorem t_234 {X : ak_X} {M : ak_M} {r : ak_O × ak_M} (hL : ab_lay M) (x1 : Int32) (x2 : Int32) (h : (∃ (v2 : Int32) (M1 : ak_M), ab_lay M1 ∧ rn X 170 [.ref 483, .int x1, .int x2] M (.inl (some (.int v2)), M1) ∧ (∃ (v4 : Int32) (M3 : ak_M), ab_lay M3 ∧ rn X 155 [.ref 483, .int v2] M1 (.inl (some (.int v4)), M3) ∧ (if v4 = 0 then r = (.inl (some (.int 0)), M3) else (∃ (v6 : Int32) (M5 : ak_M), ab_lay M5 ∧ rn X 171 [.ref 483, .int x1, .int 1] M3 (.inl (some (.int v6)), M5) ∧ (∃ (v8 : Int32) (M7 : ak_M), ab_lay M7 ∧ rn X 171 [.ref 483, .int x2, .int 1] M5 (.inl (some (.int v8)), M7) ∧ (∃ (v10 : Int32) (M9 : ak_M), ab_lay M9 ∧ rn X 171 [.ref 483, .int x1, .int 2] M7 (.inl (some (.int v10)), M9) ∧ (∃ (v12 : Int32) (M11 : ak_M), ab_lay M11 ∧ rn X 171 [.ref 483, .int x2, .int 2] M9 (.inl (some (.int v12)), M11) ∧ (∃ (v14 : Int32) (M13 : ak_M), ab_lay M13 ∧ rn X 171 [.ref 483, .int x1, .int 3] M11 (.inl (some (.int v14)), M13) ∧ (∃ (v16 : Int32) (M15 : ak_M), ab_lay M15 ∧ rn X 171 [.ref 483, .int x2, .int 3] M13 (.inl (some (.int v16)), M15) ∧ (∃ (v18 : Int32) (M17 : ak_M), ab_lay M17 ∧ rn X 181 [.int (v6 - v8), .int (v10 - v12), .int (v14 - v16)] M15 (.inl (some (.int v18)), M17) ∧ (∃ (v20 : Int32) (M19 : ak_M), ab_lay M19 ∧ rn X 180 [.int v18, .int 400] M17 (.inl (some (.int v20)), M19) ∧ r = (.inl (some (.int v20)), M19))))))))))))) : rn X 234 [.ref 483, .int x1, .int x2] M r := by
  refine w_rn (nL := 3) (l1 := [some (.ref 483), some (.int x1), some (.int x2)]) (by decide +kernel) rfl rfl ?_
  refine w_aload_n (n := 1) (i := 0) (by decide +kernel) rfl rfl ?_
  refine w_aload_n (n := 2) (i := 0) (by decide +kernel) rfl rfl ?_
  refine w_iload_n (n := 3) (i := 1) (by decide +kernel) rfl rfl ?_
  refine w_iload_n (n := 4) (i := 2) (by decide +kernel) rfl rfl ?_
  obtain ⟨v2, M1, hLM1, hr31, h⟩ := h
  refine w_cV (n := 7) (idx := 265) (cal := 170) (na := 2) (nl := 3) (as := [.int x1, .int x2]) (rest := [.ref 483]) hL (by decide +kernel) (by decide +kernel) (at_483) (by decide +kernel) rfl rfl rfl (Nat.le_of_ble_eq_true rfl) rfl hr31 ?_
  obtain ⟨v4, M3, hLM3, hr30, h⟩ := h
  refine w_cV (n := 10) (idx := 72) (cal := 155) (na := 1) (nl := 2) (as := [.int v2]) (rest := []) hLM1 (by decide +kernel) (by decide +kernel) (at_483) (by decide +kernel) rfl rfl rfl (Nat.le_of_ble_eq_true rfl) rfl hr30 ?_
  by_cases c29 : v4 = 0
  · rw [if_pos c29] at h
    refine w_if_ne_n (n := 13) (off := 5) (by decide +kernel) rfl c29 ?_
    refine w_iconst (n := 14) (v := 0) (x := 0) (by decide +kernel) rfl (by decide) ?_
    subst h
    exact w_ireturn (by decide +kernel) (w_okI (by decide +kernel))
  · rw [if_neg c29] at h
    refine w_if_ne_j (n := 15) (off := 5) (by decide +kernel) (by decide) c29 ?_
    refine w_aload_n (n := 16) (i := 0) (by decide +kernel) rfl rfl ?_
    refine w_iload_n (n := 17) (i := 1) (by decide +kernel) rfl rfl ?_
    refine w_iconst (n := 18) (v := 1) (x := 1) (by decide +kernel) rfl (by decide) ?_
    obtain ⟨v6, M5, hLM5, hr28, h⟩ := h
    refine w_cV (n := 21) (idx := 92) (cal := 171) (na := 2) (nl := 3) (as := [.int x1, .int 1]) (rest := []) hLM3 (by decide +kernel) (by decide +kernel) (at_483) (by decide +kernel) rfl rfl rfl (Nat.le_of_ble_eq_true rfl) rfl hr28 ?_
    refine w_aload_n (n := 22) (i := 0) (by decide +kernel) rfl rfl ?_
    refine w_iload_n (n := 23) (i := 2) (by decide +kernel) rfl rfl ?_
    refine w_iconst (n := 24) (v := 1) (x := 1) (by decide +kernel) rfl (by decide) ?_
    obtain ⟨v8, M7, hLM7, hr27, h⟩ := h
    refine w_cV (n := 27) (idx := 92) (cal := 171) (na := 2) (nl := 3) (as := [.int x2, .int 1]) (rest := [.int v6]) hLM5 (by decide +kernel) (by decide +kernel) (at_483) (by decide +kernel) rfl rfl rfl (Nat.le_of_ble_eq_true rfl) rfl hr27 ?_
    refine w_isub (n := 28) (by decide +kernel) rfl ?_
    refine w_aload_n (n := 29) (i := 0) (by decide +kernel) rfl rfl ?_
    refine w_iload_n (n := 30) (i := 1) (by decide +kernel) rfl rfl ?_
    refine w_iconst (n := 31) (v := 2) (x := 2) (by decide +kernel) rfl (by decide) ?_
    obtain ⟨v10, M9, hLM9, hr26, h⟩ := h
    refine w_cV (n := 34) (idx := 92) (cal := 171) (na := 2) (nl := 3) (as := [.int x1, .int 2]) (rest := [.int (v6 - v8)]) hLM7 (by decide +kernel) (by decide +kernel) (at_483) (by decide +kernel) rfl rfl rfl (Nat.le_of_ble_eq_true rfl) rfl hr26 ?_
    refine w_aload_n (n := 35) (i := 0) (by decide +kernel) rfl rfl ?_
    refine w_iload_n (n := 36) (i := 2) (by decide +kernel) rfl rfl ?_
    refine w_iconst (n := 37) (v := 2) (x := 2) (by decide +kernel) rfl (by decide) ?_
    obtain ⟨v12, M11, hLM11, hr25, h⟩ := h
    refine w_cV (n := 40) (idx := 92) (cal := 171) (na := 2) (nl := 3) (as := [.int x2, .int 2]) (rest := [.int v10, .int (v6 - v8)]) hLM9 (by decide +kernel) (by decide +kernel) (at_483) (by decide +kernel) rfl rfl rfl (Nat.le_of_ble_eq_true rfl) rfl hr25 ?_
    refine w_isub (n := 41) (by decide +kernel) rfl ?_
    refine w_aload_n (n := 42) (i := 0) (by decide +kernel) rfl rfl ?_
    refine w_iload_n (n := 43) (i := 1) (by decide +kernel) rfl rfl ?_
    refine w_iconst (n := 44) (v := 3) (x := 3) (by decide +kernel) rfl (by decide) ?_
    obtain ⟨v14, M13, hLM13, hr24, h⟩ := h
    refine w_cV (n := 47) (idx := 92) (cal := 171) (na := 2) (nl := 3) (as := [.int x1, .int 3]) (rest := [.int (v10 - v12), .int (v6 - v8)]) hLM11 (by decide +kernel) (by decide +kernel) (at_483) (by decide +kernel) rfl rfl rfl (Nat.le_of_ble_eq_true rfl) rfl hr24 ?_
    refine w_aload_n (n := 48) (i := 0) (by decide +kernel) rfl rfl ?_
    refine w_iload_n (n := 49) (i := 2) (by decide +kernel) rfl rfl ?_
    refine w_iconst (n := 50) (v := 3) (x := 3) (by decide +kernel) rfl (by decide) ?_
    obtain ⟨v16, M15, hLM15, hr23, h⟩ := h
    refine w_cV (n := 53) (idx := 92) (cal := 171) (na := 2) (nl := 3) (as := [.int x2, .int 3]) (rest := [.int v14, .int (v10 - v12), .int (v6 - v8)]) hLM13 (by decide +kernel) (by decide +kernel) (at_483) (by decide +kernel) rfl rfl rfl (Nat.le_of_ble_eq_true rfl) rfl hr23 ?_
    refine w_isub (n := 54) (by decide +kernel) rfl ?_
    obtain ⟨v18, M17, hLM17, hr22, h⟩ := h
    refine w_cS (n := 57) (idx := 120) (cal := 181) (na := 3) (nl := 3) (as := [.int (v6 - v8), .int (v10 - v12), .int (v14 - v16)]) (rest := []) (by decide +kernel) (by decide +kernel) rfl rfl rfl (Nat.le_of_ble_eq_true rfl) rfl hr22 ?_
    refine w_sipush (n := 60) (v := 400) (x := 400) (by decide +kernel) rfl (by decide) ?_
    obtain ⟨v20, M19, hLM19, hr21, h⟩ := h
    refine w_cS (n := 63) (idx := 124) (cal := 180) (na := 2) (nl := 2) (as := [.int v18, .int 400]) (rest := []) (by decide +kernel) (by decide +kernel) rfl rfl rfl (Nat.le_of_ble_eq_true rfl) rfl hr21 ?_
    subst h
    exact w_ireturn (by decide +kernel) (w_okI (by decide +kernel))
theorem t_235 {X : ak_X} {M : ak_M} {r : ak_O × ak_M} (hL : ab_lay M) (x1 : Int32) (x2 : Int32) (h : (∃ (v2 : Int32) (M1 : ak_M), ab_lay M1 ∧ rn X 171 [.ref 483, .int x1, .int 1] M (.inl (some (.int v2)), M1) ∧ (∃ (v4 : Int32) (M3 : ak_M), ab_lay M3 ∧ rn X 171 [.ref 483, .int x2, .int 1] M1 (.inl (some (.int v4)), M3) ∧ (∃ (v6 : Int32) (M5 : ak_M), ab_lay M5 ∧ rn X 171 [.ref 483, .int x1, .int 2] M3 (.inl (some (.int v6)), M5) ∧ (∃ (v8 : Int32) (M7 : ak_M), ab_lay M7 ∧ rn X 171 [.ref 483, .int x2, .int 2] M5 (.inl (some (.int v8)), M7) ∧ (∃ (v10 : Int32) (M9 : ak_M), ab_lay M9 ∧ rn X 181 [.int (v2 - v4), .int (v6 - v8), .int 0] M7 (.inl (some (.int v10)), M9) ∧ r = (.inl (some (.int v10)), M9))))))) : rn X 235 [.ref 483, .int x1, .int x2] M r := by
  refine w_rn (nL := 3) (l1 := [some (.ref 483), some (.int x1), some (.int x2)]) (by decide +kernel) rfl rfl ?_
  refine w_aload_n (n := 1) (i := 0) (by decide +kernel) rfl rfl ?_
  refine w_iload_n (n := 2) (i := 1) (by decide +kernel) rfl rfl ?_
  refine w_iconst (n := 3) (v := 1) (x := 1) (by decide +kernel) rfl (by decide) ?_
  obtain ⟨v2, M1, hLM1, hr15, h⟩ := h
  refine w_cV (n := 6) (idx := 92) (cal := 171) (na := 2) (nl := 3) (as := [.int x1, .int 1]) (rest := []) hL (by decide +kernel) (by decide +kernel) (at_483) (by decide +kernel) rfl rfl rfl (Nat.le_of_ble_eq_true rfl) rfl hr15 ?_
  refine w_aload_n (n := 7) (i := 0) (by decide +kernel) rfl rfl ?_
  refine w_iload_n (n := 8) (i := 2) (by decide +kernel) rfl rfl ?_
  refine w_iconst (n := 9) (v := 1) (x := 1) (by decide +kernel) rfl (by decide) ?_
  obtain ⟨v4, M3, hLM3, hr14, h⟩ := h
  refine w_cV (n := 12) (idx := 92) (cal := 171) (na := 2) (nl := 3) (as := [.int x2, .int 1]) (rest := [.int v2]) hLM1 (by decide +kernel) (by decide +kernel) (at_483) (by decide +kernel) rfl rfl rfl (Nat.le_of_ble_eq_true rfl) rfl hr14 ?_
  refine w_isub (n := 13) (by decide +kernel) rfl ?_
  refine w_aload_n (n := 14) (i := 0) (by decide +kernel) rfl rfl ?_
  refine w_iload_n (n := 15) (i := 1) (by decide +kernel) rfl rfl ?_
  refine w_iconst (n := 16) (v := 2) (x := 2) (by decide +kernel) rfl (by decide) ?_
  obtain ⟨v6, M5, hLM5, hr13, h⟩ := h
  refine w_cV (n := 19) (idx := 92) (cal := 171) (na := 2) (nl := 3) (as := [.int x1, .int 2]) (rest := [.int (v2 - v4)]) hLM3 (by decide +kernel) (by decide +kernel) (at_483) (by decide +kernel) rfl rfl rfl (Nat.le_of_ble_eq_true rfl) rfl hr13 ?_
  refine w_aload_n (n := 20) (i := 0) (by decide +kernel) rfl rfl ?_
  refine w_iload_n (n := 21) (i := 2) (by decide +kernel) rfl rfl ?_
  refine w_iconst (n := 22) (v := 2) (x := 2) (by decide +kernel) rfl (by decide) ?_
  obtain ⟨v8, M7, hLM7, hr12, h⟩ := h
  refine w_cV (n := 25) (idx := 92) (cal := 171) (na := 2) (nl := 3) (as := [.int x2, .int 2]) (rest := [.int v6, .int (v2 - v4)]) hLM5 (by decide +kernel) (by decide +kernel) (at_483) (by decide +kernel) rfl rfl rfl (Nat.le_of_ble_eq_true rfl) rfl hr12 ?_
  refine w_isub (n := 26) (by decide +kernel) rfl ?_
  refine w_iconst (n := 27) (v := 0) (x := 0) (by decide +kernel) rfl (by decide) ?_
  obtain ⟨v10, M9, hLM9, hr11, h⟩ := h
  refine w_cS (n := 30) (idx := 120) (cal := 181) (na := 3) (nl := 3) (as := [.int (v2 - v4), .int (v6 - v8), .int 0]) (rest := []) (by decide +kernel) (by decide +kernel) rfl rfl rfl (Nat.le_of_ble_eq_true rfl) rfl hr11 ?_
  subst h
  exact w_ireturn (by decide +kernel) (w_okI (by decide +kernel))
theorem t_236 {X : ak_X} {M : ak_M} {r : ak_O × ak_M} (hL : ab_lay M) (x1 : Int32) (h : (∃ (v2 : Int32) (M1 : ak_M), ab_lay M1 ∧ rn X 169 [.ref 483, .int x1] M (.inl (some (.int v2)), M1) ∧ (∃ (v4 : Int32) (M3 : ak_M), ab_lay M3 ∧ rn X 155 [.ref 483, .int v2] M1 (.inl (some (.int v4)), M3) ∧ (if v4 = 0 then r = (.inl (some (.int 0)), M3) else sg X 236 (18, [some (.ref 483), some (.int x1), some (.int ((-1))), some (.int 0)], [], []) M3 r)))) : rn X 236 [.ref 483, .int x1] M r := by
  refine w_rn (nL := 4) (l1 := [some (.ref 483), some (.int x1), none, none]) (by decide +kernel) rfl rfl ?_
  refine w_aload_n (n := 1) (i := 0) (by decide +kernel) rfl rfl ?_
  refine w_aload_n (n := 2) (i := 0) (by decide +kernel) rfl rfl ?_
  refine w_iload_n (n := 3) (i := 1) (by decide +kernel) rfl rfl ?_
  obtain ⟨v2, M1, hLM1, hr7, h⟩ := h
  refine w_cV (n := 6) (idx := 88) (cal := 169) (na := 1) (nl := 2) (as := [.int x1]) (rest := [.ref 483]) hL (by decide +kernel) (by decide +kernel) (at_483) (by decide +kernel) rfl rfl rfl (Nat.le_of_ble_eq_true rfl) rfl hr7 ?_
  obtain ⟨v4, M3, hLM3, hr6, h⟩ := h
  refine w_cV (n := 9) (idx := 72) (cal := 155) (na := 1) (nl := 2) (as := [.int v2]) (rest := []) hLM1 (by decide +kernel) (by decide +kernel) (at_483) (by decide +kernel) rfl rfl rfl (Nat.le_of_ble_eq_true rfl) rfl hr6 ?_
  by_cases c5 : v4 = 0
  · rw [if_pos c5] at h
    refine w_if_ne_n (n := 12) (off := 5) (by decide +kernel) rfl c5 ?_
    refine w_iconst (n := 13) (v := 0) (x := 0) (by decide +kernel) rfl (by decide) ?_
    subst h
    exact w_ireturn (by decide +kernel) (w_okI (by decide +kernel))
  · rw [if_neg c5] at h
    refine w_if_ne_j (n := 14) (off := 5) (by decide +kernel) (by decide) c5 ?_
    refine w_iconst (n := 15) (v := -1) (x := (-1)) (by decide +kernel) rfl (by decide) ?_
    refine w_istore_n (n := 16) (i := 2) (l1' := [some (.ref 483), some (.int x1), some (.int ((-1))), none]) (l2' := []) (by decide +kernel) rfl (Nat.le_of_ble_eq_true rfl) rfl rfl ?_
    refine w_iconst (n := 17) (v := 0) (x := 0) (by decide +kernel) rfl (by decide) ?_
    refine w_istore_n (n := 18) (i := 3) (l1' := [some (.ref 483), some (.int x1), some (.int ((-1))), some (.int 0)]) (l2' := []) (by decide +kernel) rfl (Nat.le_of_ble_eq_true rfl) rfl rfl ?_
    exact h
theorem t_236_18 {X : ak_X} {M : ak_M} {r : ak_O × ak_M} (hL : ab_lay M) (x1 : Int32) (y2 : Int32) (y3 : Int32) (h : (∃ (v9 : Int32) (M8 : ak_M), ab_lay M8 ∧ rn X 168 [.ref 483] M (.inl (some (.int v9)), M8) ∧ (if v9 ≤ y3 then r = (.inl (some (.int y2)), M8) else (if y3 = x1 then sg X 236 (18, [some (.ref 483), some (.int x1), some (.int y2), some (.int (y3 + 1))], [], []) M8 r else (∃ (v11 : Int32) (M10 : ak_M), ab_lay M10 ∧ rn X 175 [.ref 483, .int y3] M8 (.inl (some (.int v11)), M10) ∧ (if v11 = 0 then sg X 236 (18, [some (.ref 483), some (.int x1), some (.int y2), some (.int (y3 + 1))], [], []) M10 r else (if y2 = (-1) then sg X 236 (18, [some (.ref 483), some (.int x1), some (.int y3), some (.int (y3 + 1))], [], []) M10 r else (∃ (v13 : Int32) (M12 : ak_M), ab_lay M12 ∧ rn X 235 [.ref 483, .int x1, .int y3] M10 (.inl (some (.int v13)), M12) ∧ (∃ (v15 : Int32) (M14 : ak_M), ab_lay M14 ∧ rn X 235 [.ref 483, .int x1, .int y2] M12 (.inl (some (.int v15)), M14) ∧ (if v15 ≤ v13 then sg X 236 (18, [some (.ref 483), some (.int x1), some (.int y2), some (.int (y3 + 1))], [], []) M14 r else sg X 236 (18, [some (.ref 483), some (.int x1), some (.int y3), some (.int (y3 + 1))], [], []) M14 r)))))))))) : sg X 236 (18, [some (.ref 483), some (.int x1), some (.int y2), some (.int y3)], [], []) M r := by
  refine w_iload_n (n := 19) (i := 3) (by decide +kernel) rfl rfl ?_
  refine w_aload_n (n := 20) (i := 0) (by decide +kernel) rfl rfl ?_
  obtain ⟨v9, M8, hLM8, hr24, h⟩ := h
  refine w_cV (n := 23) (idx := 80) (cal := 168) (na := 0) (nl := 1) (as := []) (rest := [.int y3]) hL (by decide +kernel) (by decide +kernel) (at_483) (by decide +kernel) rfl rfl rfl (Nat.le_of_ble_eq_true rfl) rfl hr24 ?_
  by_cases c23 : v9 ≤ y3
  · rw [if_pos c23] at h
    refine w_icmp_ge_j (n := 67) (off := 44) (by decide +kernel) (by decide) c23 ?_
    refine w_iload_n (n := 68) (i := 2) (by decide +kernel) rfl rfl ?_
    subst h
    exact w_ireturn (by decide +kernel) (w_okI (by decide +kernel))
  · rw [if_neg c23] at h
    refine w_icmp_ge_n (n := 26) (off := 44) (by decide +kernel) rfl c23 ?_
    refine w_iload_n (n := 27) (i := 3) (by decide +kernel) rfl rfl ?_
    refine w_iload_n (n := 28) (i := 1) (by decide +kernel) rfl rfl ?_
    by_cases c22 : y3 = x1
    · rw [if_pos c22] at h
      refine w_icmp_eq_j (n := 61) (off := 33) (by decide +kernel) (by decide) c22 ?_
      refine w_iinc (n := 64) (i := 3) (v := 1) (y := y3 + 1) (l1' := [some (.ref 483), some (.int x1), some (.int y2), some (.int (y3 + 1))]) (l2' := []) (by decide +kernel) rfl rfl rfl rfl rfl ?_
      refine w_goto (n := 18) (off := (-46)) (by decide +kernel) (by decide) ?_
      exact h
    · rw [if_neg c22] at h
      refine w_icmp_eq_n (n := 31) (off := 33) (by decide +kernel) rfl c22 ?_
      refine w_aload_n (n := 32) (i := 0) (by decide +kernel) rfl rfl ?_
      refine w_iload_n (n := 33) (i := 3) (by decide +kernel) rfl rfl ?_
      obtain ⟨v11, M10, hLM10, hr21, h⟩ := h
      refine w_cV (n := 36) (idx := 99) (cal := 175) (na := 1) (nl := 2) (as := [.int y3]) (rest := []) hLM8 (by decide +kernel) (by decide +kernel) (at_483) (by decide +kernel) rfl rfl rfl (Nat.le_of_ble_eq_true rfl) rfl hr21 ?_
      by_cases c20 : v11 = 0
      · rw [if_pos c20] at h
        refine w_if_eq_j (n := 61) (off := 25) (by decide +kernel) (by decide) c20 ?_
        refine w_iinc (n := 64) (i := 3) (v := 1) (y := y3 + 1) (l1' := [some (.ref 483), some (.int x1), some (.int y2), some (.int (y3 + 1))]) (l2' := []) (by decide +kernel) rfl rfl rfl rfl rfl ?_
        refine w_goto (n := 18) (off := (-46)) (by decide +kernel) (by decide) ?_
        exact h
      · rw [if_neg c20] at h
        refine w_if_eq_n (n := 39) (off := 25) (by decide +kernel) rfl c20 ?_
        refine w_iload_n (n := 40) (i := 2) (by decide +kernel) rfl rfl ?_
        refine w_iconst (n := 41) (v := -1) (x := (-1)) (by decide +kernel) rfl (by decide) ?_
        by_cases c19 : y2 = (-1)
        · rw [if_pos c19] at h
          refine w_icmp_eq_j (n := 59) (off := 18) (by decide +kernel) (by decide) c19 ?_
          refine w_iload_n (n := 60) (i := 3) (by decide +kernel) rfl rfl ?_
          refine w_istore_n (n := 61) (i := 2) (l1' := [some (.ref 483), some (.int x1), some (.int y3), some (.int y3)]) (l2' := []) (by decide +kernel) rfl (Nat.le_of_ble_eq_true rfl) rfl rfl ?_
          refine w_iinc (n := 64) (i := 3) (v := 1) (y := y3 + 1) (l1' := [some (.ref 483), some (.int x1), some (.int y3), some (.int (y3 + 1))]) (l2' := []) (by decide +kernel) rfl rfl rfl rfl rfl ?_
          refine w_goto (n := 18) (off := (-46)) (by decide +kernel) (by decide) ?_
          exact h
        · rw [if_neg c19] at h
          refine w_icmp_eq_n (n := 44) (off := 18) (by decide +kernel) rfl c19 ?_
          refine w_aload_n (n := 45) (i := 0) (by decide +kernel) rfl rfl ?_
          refine w_iload_n (n := 46) (i := 1) (by decide +kernel) rfl rfl ?_
          refine w_iload_n (n := 47) (i := 3) (by decide +kernel) rfl rfl ?_
          obtain ⟨v13, M12, hLM12, hr18, h⟩ := h
          refine w_cV (n := 50) (idx := 277) (cal := 235) (na := 2) (nl := 3) (as := [.int x1, .int y3]) (rest := []) hLM10 (by decide +kernel) (by decide +kernel) (at_483) (by decide +kernel) rfl rfl rfl (Nat.le_of_ble_eq_true rfl) rfl hr18 ?_
          refine w_aload_n (n := 51) (i := 0) (by decide +kernel) rfl rfl ?_
          refine w_iload_n (n := 52) (i := 1) (by decide +kernel) rfl rfl ?_
          refine w_iload_n (n := 53) (i := 2) (by decide +kernel) rfl rfl ?_
          obtain ⟨v15, M14, hLM14, hr17, h⟩ := h
          refine w_cV (n := 56) (idx := 277) (cal := 235) (na := 2) (nl := 3) (as := [.int x1, .int y2]) (rest := [.int v13]) hLM12 (by decide +kernel) (by decide +kernel) (at_483) (by decide +kernel) rfl rfl rfl (Nat.le_of_ble_eq_true rfl) rfl hr17 ?_
          by_cases c16 : v15 ≤ v13
          · rw [if_pos c16] at h
            refine w_icmp_ge_j (n := 61) (off := 5) (by decide +kernel) (by decide) c16 ?_
            refine w_iinc (n := 64) (i := 3) (v := 1) (y := y3 + 1) (l1' := [some (.ref 483), some (.int x1), some (.int y2), some (.int (y3 + 1))]) (l2' := []) (by decide +kernel) rfl rfl rfl rfl rfl ?_
            refine w_goto (n := 18) (off := (-46)) (by decide +kernel) (by decide) ?_
            exact h
          · rw [if_neg c16] at h
            refine w_icmp_ge_n (n := 59) (off := 5) (by decide +kernel) rfl c16 ?_
            refine w_iload_n (n := 60) (i := 3) (by decide +kernel) rfl rfl ?_
            refine w_istore_n (n := 61) (i := 2) (l1' := [some (.ref 483), some (.int x1), some (.int y3), some (.int y3)]) (l2' := []) (by decide +kernel) rfl (Nat.le_of_ble_eq_true rfl) rfl rfl ?_
            refine w_iinc (n := 64) (i := 3) (v := 1) (y := y3 + 1) (l1' := [some (.ref 483), some (.int x1), some (.int y3), some (.int (y3 + 1))]) (l2' := []) (by decide +kernel) rfl rfl rfl rfl rfl ?_
            refine w_goto (n := 18) (off := (-46)) (by decide +kernel) (by decide) ?_
            exact h
theorem t_237 {X : ak_X} {M : ak_M} {r : ak_O × ak_M} (hL : ab_lay M) (x1 : Int32) (h : (∃ (v2 : Int32) (M1 : ak_M), ab_lay M1 ∧ rn X 169 [.ref 483, .int x1] M (.inl (some (.int v2)), M1) ∧ (∃ (v4 : Int32) (M3 : ak_M), ab_lay M3 ∧ rn X 155 [.ref 483, .int v2] M1 (.inl (some (.int v4)), M3) ∧ (if v4 = 0 then r = (.inl (some (.int 0)), M3) else (∃ (v6 : Int32) (M5 : ak_M), ab_lay M5 ∧ rn X 175 [.ref 483, .int x1] M3 (.inl (some (.int v6)), M5) ∧ (∃ (v8 : Int32) (M7 : ak_M), ab_lay M7 ∧ rn X 156 [.ref 483, .int v6, .int 2] M5 (.inl (some (.int v8)), M7) ∧ (if v8 = 0 then r = (.inl (some (.int 0)), M7) else (∃ (v10 : Int32) (M9 : ak_M), ab_lay M9 ∧ rn X 171 [.ref 483, .int x1, .int 3] M7 (.inl (some (.int v10)), M9) ∧ (∃ (v12 : Int32) (M11 : ak_M), ab_lay M11 ∧ rn X 178 [.ref 483, .int v10] M9 (.inl (some (.int v12)), M11) ∧ (∃ (v14 : Int32) (M13 : ak_M), ab_lay M13 ∧ rn X 182 [.ref 483, .int x1] M11 (.inl (some (.int v14)), M13) ∧ (∃ (v16 : Int32) (M15 : ak_M), ab_lay M15 ∧ rn X 177 [.ref 483, .int v12, .int 1] M13 (.inl (some (.int v16)), M15) ∧ (∃ (v18 : Int32) (M17 : ak_M), ab_lay M17 ∧ rn X 183 [.ref 483, .int x1] M15 (.inl (some (.int v18)), M17) ∧ (∃ (v20 : Int32) (M19 : ak_M), ab_lay M19 ∧ rn X 177 [.ref 483, .int v12, .int 2] M17 (.inl (some (.int v20)), M19) ∧ (∃ (v22 : Int32) (M21 : ak_M), ab_lay M21 ∧ rn X 189 [.int ((v14 * v16) + (v18 * v20))] M19 (.inl (some (.int v22)), M21) ∧ r = (.inl (some (.int (-v22))), M21))))))))))))))) : rn X 237 [.ref 483, .int x1] M r := by
  refine w_rn (nL := 3) (l1 := [some (.ref 483), some (.int x1), none]) (by decide +kernel) rfl rfl ?_
  refine w_aload_n (n := 1) (i := 0) (by decide +kernel) rfl rfl ?_
  refine w_aload_n (n := 2) (i := 0) (by decide +kernel) rfl rfl ?_
  refine w_iload_n (n := 3) (i := 1) (by decide +kernel) rfl rfl ?_
  obtain ⟨v2, M1, hLM1, hr35, h⟩ := h
  refine w_cV (n := 6) (idx := 88) (cal := 169) (na := 1) (nl := 2) (as := [.int x1]) (rest := [.ref 483]) hL (by decide +kernel) (by decide +kernel) (at_483) (by decide +kernel) rfl rfl rfl (Nat.le_of_ble_eq_true rfl) rfl hr35 ?_
  obtain ⟨v4, M3, hLM3, hr34, h⟩ := h
  refine w_cV (n := 9) (idx := 72) (cal := 155) (na := 1) (nl := 2) (as := [.int v2]) (rest := []) hLM1 (by decide +kernel) (by decide +kernel) (at_483) (by decide +kernel) rfl rfl rfl (Nat.le_of_ble_eq_true rfl) rfl hr34 ?_
  by_cases c33 : v4 = 0
  · rw [if_pos c33] at h
    refine w_if_eq_j (n := 25) (off := 16) (by decide +kernel) (by decide) c33 ?_
    refine w_iconst (n := 26) (v := 0) (x := 0) (by decide +kernel) rfl (by decide) ?_
    subst h
    exact w_ireturn (by decide +kernel) (w_okI (by decide +kernel))
  · rw [if_neg c33] at h
    refine w_if_eq_n (n := 12) (off := 16) (by decide +kernel) rfl c33 ?_
    refine w_aload_n (n := 13) (i := 0) (by decide +kernel) rfl rfl ?_
    refine w_aload_n (n := 14) (i := 0) (by decide +kernel) rfl rfl ?_
    refine w_iload_n (n := 15) (i := 1) (by decide +kernel) rfl rfl ?_
    obtain ⟨v6, M5, hLM5, hr32, h⟩ := h
    refine w_cV (n := 18) (idx := 99) (cal := 175) (na := 1) (nl := 2) (as := [.int x1]) (rest := [.ref 483]) hLM3 (by decide +kernel) (by decide +kernel) (at_483) (by decide +kernel) rfl rfl rfl (Nat.le_of_ble_eq_true rfl) rfl hr32 ?_
    refine w_iconst (n := 19) (v := 2) (x := 2) (by decide +kernel) rfl (by decide) ?_
    obtain ⟨v8, M7, hLM7, hr31, h⟩ := h
    refine w_cV (n := 22) (idx := 257) (cal := 156) (na := 2) (nl := 3) (as := [.int v6, .int 2]) (rest := []) hLM5 (by decide +kernel) (by decide +kernel) (at_483) (by decide +kernel) rfl rfl rfl (Nat.le_of_ble_eq_true rfl) rfl hr31 ?_
    by_cases c30 : v8 = 0
    · rw [if_pos c30] at h
      refine w_if_ne_n (n := 25) (off := 5) (by decide +kernel) rfl c30 ?_
      refine w_iconst (n := 26) (v := 0) (x := 0) (by decide +kernel) rfl (by decide) ?_
      subst h
      exact w_ireturn (by decide +kernel) (w_okI (by decide +kernel))
    · rw [if_neg c30] at h
      refine w_if_ne_j (n := 27) (off := 5) (by decide +kernel) (by decide) c30 ?_
      refine w_aload_n (n := 28) (i := 0) (by decide +kernel) rfl rfl ?_
      refine w_aload_n (n := 29) (i := 0) (by decide +kernel) rfl rfl ?_
      refine w_iload_n (n := 30) (i := 1) (by decide +kernel) rfl rfl ?_
      refine w_iconst (n := 31) (v := 3) (x := 3) (by decide +kernel) rfl (by decide) ?_
      obtain ⟨v10, M9, hLM9, hr29, h⟩ := h
      refine w_cV (n := 34) (idx := 92) (cal := 171) (na := 2) (nl := 3) (as := [.int x1, .int 3]) (rest := [.ref 483]) hLM7 (by decide +kernel) (by decide +kernel) (at_483) (by decide +kernel) rfl rfl rfl (Nat.le_of_ble_eq_true rfl) rfl hr29 ?_
      obtain ⟨v12, M11, hLM11, hr28, h⟩ := h
      refine w_cV (n := 37) (idx := 188) (cal := 178) (na := 1) (nl := 2) (as := [.int v10]) (rest := []) hLM9 (by decide +kernel) (by decide +kernel) (at_483) (by decide +kernel) rfl rfl rfl (Nat.le_of_ble_eq_true rfl) rfl hr28 ?_
      refine w_istore_n (n := 38) (i := 2) (l1' := [some (.ref 483), some (.int x1), some (.int v12)]) (l2' := []) (by decide +kernel) rfl (Nat.le_of_ble_eq_true rfl) rfl rfl ?_
      refine w_aload_n (n := 39) (i := 0) (by decide +kernel) rfl rfl ?_
      refine w_iload_n (n := 40) (i := 1) (by decide +kernel) rfl rfl ?_
      obtain ⟨v14, M13, hLM13, hr27, h⟩ := h
      refine w_cV (n := 43) (idx := 114) (cal := 182) (na := 1) (nl := 2) (as := [.int x1]) (rest := []) hLM11 (by decide +kernel) (by decide +kernel) (at_483) (by decide +kernel) rfl rfl rfl (Nat.le_of_ble_eq_true rfl) rfl hr27 ?_
      refine w_aload_n (n := 44) (i := 0) (by decide +kernel) rfl rfl ?_
      refine w_iload_n (n := 45) (i := 2) (by decide +kernel) rfl rfl ?_
      refine w_iconst (n := 46) (v := 1) (x := 1) (by decide +kernel) rfl (by decide) ?_
      obtain ⟨v16, M15, hLM15, hr26, h⟩ := h
      refine w_cV (n := 49) (idx := 102) (cal := 177) (na := 2) (nl := 3) (as := [.int v12, .int 1]) (rest := [.int v14]) hLM13 (by decide +kernel) (by decide +kernel) (at_483) (by decide +kernel) rfl rfl rfl (Nat.le_of_ble_eq_true rfl) rfl hr26 ?_
      refine w_imul (n := 50) (by decide +kernel) rfl ?_
      refine w_aload_n (n := 51) (i := 0) (by decide +kernel) rfl rfl ?_
      refine w_iload_n (n := 52) (i := 1) (by decide +kernel) rfl rfl ?_
      obtain ⟨v18, M17, hLM17, hr25, h⟩ := h
      refine w_cV (n := 55) (idx := 117) (cal := 183) (na := 1) (nl := 2) (as := [.int x1]) (rest := [.int (v14 * v16)]) hLM15 (by decide +kernel) (by decide +kernel) (at_483) (by decide +kernel) rfl rfl rfl (Nat.le_of_ble_eq_true rfl) rfl hr25 ?_
      refine w_aload_n (n := 56) (i := 0) (by decide +kernel) rfl rfl ?_
      refine w_iload_n (n := 57) (i := 2) (by decide +kernel) rfl rfl ?_
      refine w_iconst (n := 58) (v := 2) (x := 2) (by decide +kernel) rfl (by decide) ?_
      obtain ⟨v20, M19, hLM19, hr24, h⟩ := h
      refine w_cV (n := 61) (idx := 102) (cal := 177) (na := 2) (nl := 3) (as := [.int v12, .int 2]) (rest := [.int v18, .int (v14 * v16)]) hLM17 (by decide +kernel) (by decide +kernel) (at_483) (by decide +kernel) rfl rfl rfl (Nat.le_of_ble_eq_true rfl) rfl hr24 ?_
      refine w_imul (n := 62) (by decide +kernel) rfl ?_
      refine w_iadd (n := 63) (by decide +kernel) rfl ?_
      obtain ⟨v22, M21, hLM21, hr23, h⟩ := h
      refine w_cS (n := 66) (idx := 138) (cal := 189) (na := 1) (nl := 1) (as := [.int ((v14 * v16) + (v18 * v20))]) (rest := []) (by decide +kernel) (by decide +kernel) rfl rfl rfl (Nat.le_of_ble_eq_true rfl) rfl hr23 ?_
      refine w_ineg (n := 67) (by decide +kernel) rfl ?_
      subst h
      exact w_ireturn (by decide +kernel) (w_okI (by decide +kernel))
theorem t_238 {X : ak_X} {M : ak_M} {r : ak_O × ak_M} (hL : ab_lay M) (x1 : Int32) (h : (∃ (v2 : Int32) (M1 : ak_M), ab_lay M1 ∧ rn X 169 [.ref 483, .int x1] M (.inl (some (.int v2)), M1) ∧ (∃ (v4 : Int32) (M3 : ak_M), ab_lay M3 ∧ rn X 155 [.ref 483, .int v2] M1 (.inl (some (.int v4)), M3) ∧ (if v4 = 0 then r = (.inl (some (.int 0)), M3) else (∃ (v6 : Int32) (M5 : ak_M), ab_lay M5 ∧ rn X 201 [.ref 483, .int x1] M3 (.inl (some (.int v6)), M5) ∧ r = (.inl (some (.int v6)), M5)))))) : rn X 238 [.ref 483, .int x1] M r := by
  refine w_rn (nL := 2) (l1 := [some (.ref 483), some (.int x1)]) (by decide +kernel) rfl rfl ?_
  refine w_aload_n (n := 1) (i := 0) (by decide +kernel) rfl rfl ?_
  refine w_aload_n (n := 2) (i := 0) (by decide +kernel) rfl rfl ?_
  refine w_iload_n (n := 3) (i := 1) (by decide +kernel) rfl rfl ?_
  obtain ⟨v2, M1, hLM1, hr10, h⟩ := h
  refine w_cV (n := 6) (idx := 88) (cal := 169) (na := 1) (nl := 2) (as := [.int x1]) (rest := [.ref 483]) hL (by decide +kernel) (by decide +kernel) (at_483) (by decide +kernel) rfl rfl rfl (Nat.le_of_ble_eq_true rfl) rfl hr10 ?_
  obtain ⟨v4, M3, hLM3, hr9, h⟩ := h
  refine w_cV (n := 9) (idx := 72) (cal := 155) (na := 1) (nl := 2) (as := [.int v2]) (rest := []) hLM1 (by decide +kernel) (by decide +kernel) (at_483) (by decide +kernel) rfl rfl rfl (Nat.le_of_ble_eq_true rfl) rfl hr9 ?_
  by_cases c8 : v4 = 0
  · rw [if_pos c8] at h
    refine w_if_eq_j (n := 20) (off := 11) (by decide +kernel) (by decide) c8 ?_
    refine w_iconst (n := 21) (v := 0) (x := 0) (by decide +kernel) rfl (by decide) ?_
    subst h
    exact w_ireturn (by decide +kernel) (w_okI (by decide +kernel))
  · rw [if_neg c8] at h
    refine w_if_eq_n (n := 12) (off := 11) (by decide +kernel) rfl c8 ?_
    refine w_aload_n (n := 13) (i := 0) (by decide +kernel) rfl rfl ?_
    refine w_iload_n (n := 14) (i := 1) (by decide +kernel) rfl rfl ?_
    obtain ⟨v6, M5, hLM5, hr7, h⟩ := h
    refine w_cV (n := 17) (idx := 219) (cal := 201) (na := 1) (nl := 2) (as := [.int x1]) (rest := []) hLM3 (by decide +kernel) (by decide +kernel) (at_483) (by decide +kernel) rfl rfl rfl (Nat.le_of_ble_eq_true rfl) rfl hr7 ?_
    refine w_goto (n := 21) (off := 4) (by decide +kernel) (by decide) ?_
    subst h
    exact w_ireturn (by decide +kernel) (w_okI (by decide +kernel))
theorem t_239 {X : ak_X} {M : ak_M} {r : ak_O × ak_M} (hL : ab_lay M) (x1 : Int32) (h : (∃ (v2 : Int32) (M1 : ak_M), ab_lay M1 ∧ rn X 217 [.int x1] M (.inl (some (.int v2)), M1) ∧ (∃ (v4 : Int32) (M3 : ak_M), ab_lay M3 ∧ rn X 155 [.ref 483, .int v2] M1 (.inl (some (.int v4)), M3) ∧ (if v4 = 0 then r = (.inl (some (.int 0)), M3) else sg X 239 (17, [some (.ref 483), some (.int x1), some (.int 0), some (.int 0)], [], []) M3 r)))) : rn X 239 [.ref 483, .int x1] M r := by
  refine w_rn (nL := 4) (l1 := [some (.ref 483), some (.int x1), none, none]) (by decide +kernel) rfl rfl ?_
  refine w_aload_n (n := 1) (i := 0) (by decide +kernel) rfl rfl ?_
  refine w_iload_n (n := 2) (i := 1) (by decide +kernel) rfl rfl ?_
  obtain ⟨v2, M1, hLM1, hr7, h⟩ := h
  refine w_cS (n := 5) (idx := 254) (cal := 217) (na := 1) (nl := 1) (as := [.int x1]) (rest := [.ref 483]) (by decide +kernel) (by decide +kernel) rfl rfl rfl (Nat.le_of_ble_eq_true rfl) rfl hr7 ?_
  obtain ⟨v4, M3, hLM3, hr6, h⟩ := h
  refine w_cV (n := 8) (idx := 72) (cal := 155) (na := 1) (nl := 2) (as := [.int v2]) (rest := []) hLM1 (by decide +kernel) (by decide +kernel) (at_483) (by decide +kernel) rfl rfl rfl (Nat.le_of_ble_eq_true rfl) rfl hr6 ?_
  by_cases c5 : v4 = 0
  · rw [if_pos c5] at h
    refine w_if_ne_n (n := 11) (off := 5) (by decide +kernel) rfl c5 ?_
    refine w_iconst (n := 12) (v := 0) (x := 0) (by decide +kernel) rfl (by decide) ?_
    subst h
    exact w_ireturn (by decide +kernel) (w_okI (by decide +kernel))
  · rw [if_neg c5] at h
    refine w_if_ne_j (n := 13) (off := 5) (by decide +kernel) (by decide) c5 ?_
    refine w_iconst (n := 14) (v := 0) (x := 0) (by decide +kernel) rfl (by decide) ?_
    refine w_istore_n (n := 15) (i := 2) (l1' := [some (.ref 483), some (.int x1), some (.int 0), none]) (l2' := []) (by decide +kernel) rfl (Nat.le_of_ble_eq_true rfl) rfl rfl ?_
    refine w_iconst (n := 16) (v := 0) (x := 0) (by decide +kernel) rfl (by decide) ?_
    refine w_istore_n (n := 17) (i := 3) (l1' := [some (.ref 483), some (.int x1), some (.int 0), some (.int 0)]) (l2' := []) (by decide +kernel) rfl (Nat.le_of_ble_eq_true rfl) rfl rfl ?_
    exact h
theorem t_239_17 {X : ak_X} {M : ak_M} {r : ak_O × ak_M} (hL : ab_lay M) (x1 : Int32) (y2 : Int32) (y3 : Int32) (h : (∃ (v9 : Int32) (M8 : ak_M), ab_lay M8 ∧ rn X 168 [.ref 483] M (.inl (some (.int v9)), M8) ∧ (if v9 ≤ y3 then r = (.inl (some (.int y2)), M8) else (∃ (v11 : Int32) (M10 : ak_M), ab_lay M10 ∧ rn X 171 [.ref 483, .int y3, .int x1] M8 (.inl (some (.int v11)), M10) ∧ sg X 239 (17, [some (.ref 483), some (.int x1), some (.int (y2 + v11)), some (.int (y3 + 1))], [], []) M10 r)))) : sg X 239 (17, [some (.ref 483), some (.int x1), some (.int y2), some (.int y3)], [], []) M r := by
  refine w_iload_n (n := 18) (i := 3) (by decide +kernel) rfl rfl ?_
  refine w_aload_n (n := 19) (i := 0) (by decide +kernel) rfl rfl ?_
  obtain ⟨v9, M8, hLM8, hr14, h⟩ := h
  refine w_cV (n := 22) (idx := 80) (cal := 168) (na := 0) (nl := 1) (as := []) (rest := [.int y3]) hL (by decide +kernel) (by decide +kernel) (at_483) (by decide +kernel) rfl rfl rfl (Nat.le_of_ble_eq_true rfl) rfl hr14 ?_
  by_cases c13 : v9 ≤ y3
  · rw [if_pos c13] at h
    refine w_icmp_ge_j (n := 40) (off := 18) (by decide +kernel) (by decide) c13 ?_
    refine w_iload_n (n := 41) (i := 2) (by decide +kernel) rfl rfl ?_
    subst h
    exact w_ireturn (by decide +kernel) (w_okI (by decide +kernel))
  · rw [if_neg c13] at h
    refine w_icmp_ge_n (n := 25) (off := 18) (by decide +kernel) rfl c13 ?_
    refine w_iload_n (n := 26) (i := 2) (by decide +kernel) rfl rfl ?_
    refine w_aload_n (n := 27) (i := 0) (by decide +kernel) rfl rfl ?_
    refine w_iload_n (n := 28) (i := 3) (by decide +kernel) rfl rfl ?_
    refine w_iload_n (n := 29) (i := 1) (by decide +kernel) rfl rfl ?_
    obtain ⟨v11, M10, hLM10, hr12, h⟩ := h
    refine w_cV (n := 32) (idx := 92) (cal := 171) (na := 2) (nl := 3) (as := [.int y3, .int x1]) (rest := [.int y2]) hLM8 (by decide +kernel) (by decide +kernel) (at_483) (by decide +kernel) rfl rfl rfl (Nat.le_of_ble_eq_true rfl) rfl hr12 ?_
    refine w_iadd (n := 33) (by decide +kernel) rfl ?_
    refine w_istore_n (n := 34) (i := 2) (l1' := [some (.ref 483), some (.int x1), some (.int (y2 + v11)), some (.int y3)]) (l2' := []) (by decide +kernel) rfl (Nat.le_of_ble_eq_true rfl) rfl rfl ?_
    refine w_iinc (n := 37) (i := 3) (v := 1) (y := y3 + 1) (l1' := [some (.ref 483), some (.int x1), some (.int (y2 + v11)), some (.int (y3 + 1))]) (l2' := []) (by decide +kernel) rfl rfl rfl rfl rfl ?_
    refine w_goto (n := 17) (off := (-20)) (by decide +kernel) (by decide) ?_
    exact h
theorem t_240 {X : ak_X} {M : ak_M} {r : ak_O × ak_M} (hL : ab_lay M) (x1 : Int32) (h : (∃ (v2 : Int32) (M1 : ak_M), ab_lay M1 ∧ rn X 169 [.ref 483, .int x1] M (.inl (some (.int v2)), M1) ∧ (∃ (v4 : Int32) (M3 : ak_M), ab_lay M3 ∧ rn X 155 [.ref 483, .int v2] M1 (.inl (some (.int v4)), M3) ∧ (if v4 = 0 then r = (.inl (some (.int 0)), M3) else sg X 240 (18, [some (.ref 483), some (.int x1), some (.int 0), some (.int 0)], [], []) M3 r)))) : rn X 240 [.ref 483, .int x1] M r := by
  refine w_rn (nL := 4) (l1 := [some (.ref 483), some (.int x1), none, none]) (by decide +kernel) rfl rfl ?_
  refine w_aload_n (n := 1) (i := 0) (by decide +kernel) rfl rfl ?_
  refine w_aload_n (n := 2) (i := 0) (by decide +kernel) rfl rfl ?_
  refine w_iload_n (n := 3) (i := 1) (by decide +kernel) rfl rfl ?_
  obtain ⟨v2, M1, hLM1, hr7, h⟩ := h
  refine w_cV (n := 6) (idx := 88) (cal := 169) (na := 1) (nl := 2) (as := [.int x1]) (rest := [.ref 483]) hL (by decide +kernel) (by decide +kernel) (at_483) (by decide +kernel) rfl rfl rfl (Nat.le_of_ble_eq_true rfl) rfl hr7 ?_
  obtain ⟨v4, M3, hLM3, hr6, h⟩ := h
  refine w_cV (n := 9) (idx := 72) (cal := 155) (na := 1) (nl := 2) (as := [.int v2]) (rest := []) hLM1 (by decide +kernel) (by decide +kernel) (at_483) (by decide +kernel) rfl rfl rfl (Nat.le_of_ble_eq_true rfl) rfl hr6 ?_
  by_cases c5 : v4 = 0
  · rw [if_pos c5] at h
    refine w_if_ne_n (n := 12) (off := 5) (by decide +kernel) rfl c5 ?_
    refine w_iconst (n := 13) (v := 0) (x := 0) (by decide +kernel) rfl (by decide) ?_
    subst h
    exact w_ireturn (by decide +kernel) (w_okI (by decide +kernel))
  · rw [if_neg c5] at h
    refine w_if_ne_j (n := 14) (off := 5) (by decide +kernel) (by decide) c5 ?_
    refine w_iconst (n := 15) (v := 0) (x := 0) (by decide +kernel) rfl (by decide) ?_
    refine w_istore_n (n := 16) (i := 2) (l1' := [some (.ref 483), some (.int x1), some (.int 0), none]) (l2' := []) (by decide +kernel) rfl (Nat.le_of_ble_eq_true rfl) rfl rfl ?_
    refine w_iconst (n := 17) (v := 0) (x := 0) (by decide +kernel) rfl (by decide) ?_
    refine w_istore_n (n := 18) (i := 3) (l1' := [some (.ref 483), some (.int x1), some (.int 0), some (.int 0)]) (l2' := []) (by decide +kernel) rfl (Nat.le_of_ble_eq_true rfl) rfl rfl ?_
    exact h
theorem t_240_18 {X : ak_X} {M : ak_M} {r : ak_O × ak_M} (hL : ab_lay M) (x1 : Int32) (y2 : Int32) (y3 : Int32) (h : (∃ (v9 : Int32) (M8 : ak_M), ab_lay M8 ∧ rn X 168 [.ref 483] M (.inl (some (.int v9)), M8) ∧ (if v9 ≤ y3 then r = (.inl (some (.int y2)), M8) else (∃ (v11 : Int32) (M10 : ak_M), ab_lay M10 ∧ rn X 171 [.ref 483, .int y3, .int 11] M8 (.inl (some (.int v11)), M10) ∧ (∃ (v13 : Int32) (M12 : ak_M), ab_lay M12 ∧ rn X 171 [.ref 483, .int x1, .int 11] M10 (.inl (some (.int v13)), M12) ∧ (if v13 < v11 then sg X 240 (18, [some (.ref 483), some (.int x1), some (.int (y2 + 1)), some (.int (y3 + 1))], [], []) M12 r else (∃ (v15 : Int32) (M14 : ak_M), ab_lay M14 ∧ rn X 171 [.ref 483, .int y3, .int 11] M12 (.inl (some (.int v15)), M14) ∧ (∃ (v17 : Int32) (M16 : ak_M), ab_lay M16 ∧ rn X 171 [.ref 483, .int x1, .int 11] M14 (.inl (some (.int v17)), M16) ∧ (if v15 = v17 then (if x1 ≤ y3 then sg X 240 (18, [some (.ref 483), some (.int x1), some (.int y2), some (.int (y3 + 1))], [], []) M16 r else sg X 240 (18, [some (.ref 483), some (.int x1), some (.int (y2 + 1)), some (.int (y3 + 1))], [], []) M16 r) else sg X 240 (18, [some (.ref 483), some (.int x1), some (.int y2), some (.int (y3 + 1))], [], []) M16 r))))))))) : sg X 240 (18, [some (.ref 483), some (.int x1), some (.int y2), some (.int y3)], [], []) M r := by
  refine w_iload_n (n := 19) (i := 3) (by decide +kernel) rfl rfl ?_
  refine w_aload_n (n := 20) (i := 0) (by decide +kernel) rfl rfl ?_
  obtain ⟨v9, M8, hLM8, hr26, h⟩ := h
  refine w_cV (n := 23) (idx := 80) (cal := 168) (na := 0) (nl := 1) (as := []) (rest := [.int y3]) hL (by decide +kernel) (by decide +kernel) (at_483) (by decide +kernel) rfl rfl rfl (Nat.le_of_ble_eq_true rfl) rfl hr26 ?_
  by_cases c25 : v9 ≤ y3
  · rw [if_pos c25] at h
    refine w_icmp_ge_j (n := 75) (off := 52) (by decide +kernel) (by decide) c25 ?_
    refine w_iload_n (n := 76) (i := 2) (by decide +kernel) rfl rfl ?_
    subst h
    exact w_ireturn (by decide +kernel) (w_okI (by decide +kernel))
  · rw [if_neg c25] at h
    refine w_icmp_ge_n (n := 26) (off := 52) (by decide +kernel) rfl c25 ?_
    refine w_aload_n (n := 27) (i := 0) (by decide +kernel) rfl rfl ?_
    refine w_iload_n (n := 28) (i := 3) (by decide +kernel) rfl rfl ?_
    refine w_bipush (n := 30) (v := 11) (x := 11) (by decide +kernel) rfl (by decide) ?_
    obtain ⟨v11, M10, hLM10, hr24, h⟩ := h
    refine w_cV (n := 33) (idx := 92) (cal := 171) (na := 2) (nl := 3) (as := [.int y3, .int 11]) (rest := []) hLM8 (by decide +kernel) (by decide +kernel) (at_483) (by decide +kernel) rfl rfl rfl (Nat.le_of_ble_eq_true rfl) rfl hr24 ?_
    refine w_aload_n (n := 34) (i := 0) (by decide +kernel) rfl rfl ?_
    refine w_iload_n (n := 35) (i := 1) (by decide +kernel) rfl rfl ?_
    refine w_bipush (n := 37) (v := 11) (x := 11) (by decide +kernel) rfl (by decide) ?_
    obtain ⟨v13, M12, hLM12, hr23, h⟩ := h
    refine w_cV (n := 40) (idx := 92) (cal := 171) (na := 2) (nl := 3) (as := [.int x1, .int 11]) (rest := [.int v11]) hLM10 (by decide +kernel) (by decide +kernel) (at_483) (by decide +kernel) rfl rfl rfl (Nat.le_of_ble_eq_true rfl) rfl hr23 ?_
    by_cases c22 : v13 < v11
    · rw [if_pos c22] at h
      refine w_icmp_gt_j (n := 65) (off := 25) (by decide +kernel) (by decide) c22 ?_
      refine w_iload_n (n := 66) (i := 2) (by decide +kernel) rfl rfl ?_
      refine w_iconst (n := 67) (v := 1) (x := 1) (by decide +kernel) rfl (by decide) ?_
      refine w_iadd (n := 68) (by decide +kernel) rfl ?_
      refine w_istore_n (n := 69) (i := 2) (l1' := [some (.ref 483), some (.int x1), some (.int (y2 + 1)), some (.int y3)]) (l2' := []) (by decide +kernel) rfl (Nat.le_of_ble_eq_true rfl) rfl rfl ?_
      refine w_iinc (n := 72) (i := 3) (v := 1) (y := y3 + 1) (l1' := [some (.ref 483), some (.int x1), some (.int (y2 + 1)), some (.int (y3 + 1))]) (l2' := []) (by decide +kernel) rfl rfl rfl rfl rfl ?_
      refine w_goto (n := 18) (off := (-54)) (by decide +kernel) (by decide) ?_
      exact h
    · rw [if_neg c22] at h
      refine w_icmp_gt_n (n := 43) (off := 25) (by decide +kernel) rfl c22 ?_
      refine w_aload_n (n := 44) (i := 0) (by decide +kernel) rfl rfl ?_
      refine w_iload_n (n := 45) (i := 3) (by decide +kernel) rfl rfl ?_
      refine w_bipush (n := 47) (v := 11) (x := 11) (by decide +kernel) rfl (by decide) ?_
      obtain ⟨v15, M14, hLM14, hr21, h⟩ := h
      refine w_cV (n := 50) (idx := 92) (cal := 171) (na := 2) (nl := 3) (as := [.int y3, .int 11]) (rest := []) hLM12 (by decide +kernel) (by decide +kernel) (at_483) (by decide +kernel) rfl rfl rfl (Nat.le_of_ble_eq_true rfl) rfl hr21 ?_
      refine w_aload_n (n := 51) (i := 0) (by decide +kernel) rfl rfl ?_
      refine w_iload_n (n := 52) (i := 1) (by decide +kernel) rfl rfl ?_
      refine w_bipush (n := 54) (v := 11) (x := 11) (by decide +kernel) rfl (by decide) ?_
      obtain ⟨v17, M16, hLM16, hr20, h⟩ := h
      refine w_cV (n := 57) (idx := 92) (cal := 171) (na := 2) (nl := 3) (as := [.int x1, .int 11]) (rest := [.int v15]) hLM14 (by decide +kernel) (by decide +kernel) (at_483) (by decide +kernel) rfl rfl rfl (Nat.le_of_ble_eq_true rfl) rfl hr20 ?_
      by_cases c19 : v15 = v17
      · rw [if_pos c19] at h
        refine w_icmp_ne_n (n := 60) (off := 12) (by decide +kernel) rfl c19 ?_
        refine w_iload_n (n := 61) (i := 3) (by decide +kernel) rfl rfl ?_
        refine w_iload_n (n := 62) (i := 1) (by decide +kernel) rfl rfl ?_
        by_cases c18 : x1 ≤ y3
        · rw [if_pos c18] at h
          refine w_icmp_ge_j (n := 69) (off := 7) (by decide +kernel) (by decide) c18 ?_
          refine w_iinc (n := 72) (i := 3) (v := 1) (y := y3 + 1) (l1' := [some (.ref 483), some (.int x1), some (.int y2), some (.int (y3 + 1))]) (l2' := []) (by decide +kernel) rfl rfl rfl rfl rfl ?_
          refine w_goto (n := 18) (off := (-54)) (by decide +kernel) (by decide) ?_
          exact h
        · rw [if_neg c18] at h
          refine w_icmp_ge_n (n := 65) (off := 7) (by decide +kernel) rfl c18 ?_
          refine w_iload_n (n := 66) (i := 2) (by decide +kernel) rfl rfl ?_
          refine w_iconst (n := 67) (v := 1) (x := 1) (by decide +kernel) rfl (by decide) ?_
          refine w_iadd (n := 68) (by decide +kernel) rfl ?_
          refine w_istore_n (n := 69) (i := 2) (l1' := [some (.ref 483), some (.int x1), some (.int (y2 + 1)), some (.int y3)]) (l2' := []) (by decide +kernel) rfl (Nat.le_of_ble_eq_true rfl) rfl rfl ?_
          refine w_iinc (n := 72) (i := 3) (v := 1) (y := y3 + 1) (l1' := [some (.ref 483), some (.int x1), some (.int (y2 + 1)), some (.int (y3 + 1))]) (l2' := []) (by decide +kernel) rfl rfl rfl rfl rfl ?_
          refine w_goto (n := 18) (off := (-54)) (by decide +kernel) (by decide) ?_
          exact h
      · rw [if_neg c19] at h
        refine w_icmp_ne_j (n := 69) (off := 12) (by decide +kernel) (by decide) c19 ?_
        refine w_iinc (n := 72) (i := 3) (v := 1) (y := y3 + 1) (l1' := [some (.ref 483), some (.int x1), some (.int y2), some (.int (y3 + 1))]) (l2' := []) (by decide +kernel) rfl rfl rfl rfl rfl ?_
        refine w_goto (n := 18) (off := (-54)) (by decide +kernel) (by decide) ?_
        exact h
theorem t_241 {X : ak_X} {M : ak_M} {r : ak_O × ak_M} (hL : ab_lay M) (x1 : Int32) (x2 : Int32) (x3 : Int32) (x4 : Int32) (h : (∃ (v2 : Int32) (M1 : ak_M), ab_lay M1 ∧ rn X 232 [.int x1, .int x2] M (.inl (some (.int v2)), M1) ∧ (if v2 = 0 then (∃ (v4 : Int32) (M3 : ak_M), ab_lay M3 ∧ rn X 155 [.ref 483, .int 0] M1 (.inl (some (.int v4)), M3) ∧ (if v4 = 0 then r = (.inl (some (.int 0)), M3) else sg X 241 (48, [some (.ref 483), some (.int x1), some (.int x2), some (.int x3), some (.int x4), some (.int 0), some (.int 0)], [], []) M3 r)) else (∃ (v8 : Int32) (M7 : ak_M), ab_lay M7 ∧ rn X 232 [.int x3, .int x4] M1 (.inl (some (.int v8)), M7) ∧ (if v8 = 0 then (∃ (v10 : Int32) (M9 : ak_M), ab_lay M9 ∧ rn X 155 [.ref 483, .int 0] M7 (.inl (some (.int v10)), M9) ∧ (if v10 = 0 then r = (.inl (some (.int 0)), M9) else sg X 241 (48, [some (.ref 483), some (.int x1), some (.int x2), some (.int x3), some (.int x4), some (.int 0), some (.int 0)], [], []) M9 r)) else (if x3 < x1 then (∃ (v14 : Int32) (M13 : ak_M), ab_lay M13 ∧ rn X 155 [.ref 483, .int 0] M7 (.inl (some (.int v14)), M13) ∧ (if v14 = 0 then r = (.inl (some (.int 0)), M13) else sg X 241 (48, [some (.ref 483), some (.int x1), some (.int x2), some (.int x3), some (.int x4), some (.int 0), some (.int 0)], [], []) M13 r)) else (if x4 < x2 then (∃ (v18 : Int32) (M17 : ak_M), ab_lay M17 ∧ rn X 155 [.ref 483, .int 0] M7 (.inl (some (.int v18)), M17) ∧ (if v18 = 0 then r = (.inl (some (.int 0)), M17) else sg X 241 (48, [some (.ref 483), some (.int x1), some (.int x2), some (.int x3), some (.int x4), some (.int 0), some (.int 0)], [], []) M17 r)) else (∃ (v22 : Int32) (M21 : ak_M), ab_lay M21 ∧ rn X 155 [.ref 483, .int 1] M7 (.inl (some (.int v22)), M21) ∧ (if v22 = 0 then r = (.inl (some (.int 0)), M21) else sg X 241 (48, [some (.ref 483), some (.int x1), some (.int x2), some (.int x3), some (.int x4), some (.int 0), some (.int 0)], [], []) M21 r))))))))) : rn X 241 [.ref 483, .int x1, .int x2, .int x3, .int x4] M r := by
  refine w_rn (nL := 7) (l1 := [some (.ref 483), some (.int x1), some (.int x2), some (.int x3), some (.int x4), none, none]) (by decide +kernel) rfl rfl ?_
  refine w_aload_n (n := 1) (i := 0) (by decide +kernel) rfl rfl ?_
  refine w_iload_n (n := 2) (i := 1) (by decide +kernel) rfl rfl ?_
  refine w_iload_n (n := 3) (i := 2) (by decide +kernel) rfl rfl ?_
  obtain ⟨v2, M1, hLM1, hr30, h⟩ := h
  refine w_cS (n := 6) (idx := 272) (cal := 232) (na := 2) (nl := 2) (as := [.int x1, .int x2]) (rest := [.ref 483]) (by decide +kernel) (by decide +kernel) rfl rfl rfl (Nat.le_of_ble_eq_true rfl) rfl hr30 ?_
  by_cases c29 : v2 = 0
  · rw [if_pos c29] at h
    refine w_if_eq_j (n := 33) (off := 27) (by decide +kernel) (by decide) c29 ?_
    refine w_iconst (n := 34) (v := 0) (x := 0) (by decide +kernel) rfl (by decide) ?_
    obtain ⟨v4, M3, hLM3, hr6, h⟩ := h
    refine w_cV (n := 37) (idx := 72) (cal := 155) (na := 1) (nl := 2) (as := [.int 0]) (rest := []) hLM1 (by decide +kernel) (by decide +kernel) (at_483) (by decide +kernel) rfl rfl rfl (Nat.le_of_ble_eq_true rfl) rfl hr6 ?_
    by_cases c5 : v4 = 0
    · rw [if_pos c5] at h
      refine w_if_ne_n (n := 40) (off := 5) (by decide +kernel) rfl c5 ?_
      refine w_iconst (n := 41) (v := 0) (x := 0) (by decide +kernel) rfl (by decide) ?_
      subst h
      exact w_ireturn (by decide +kernel) (w_okI (by decide +kernel))
    · rw [if_neg c5] at h
      refine w_if_ne_j (n := 42) (off := 5) (by decide +kernel) (by decide) c5 ?_
      refine w_iconst (n := 43) (v := 0) (x := 0) (by decide +kernel) rfl (by decide) ?_
      refine w_istore (n := 45) (i := 5) (l1' := [some (.ref 483), some (.int x1), some (.int x2), some (.int x3), some (.int x4), some (.int 0), none]) (l2' := []) (by decide +kernel) rfl (Nat.le_of_ble_eq_true rfl) rfl rfl ?_
      refine w_iconst (n := 46) (v := 0) (x := 0) (by decide +kernel) rfl (by decide) ?_
      refine w_istore (n := 48) (i := 6) (l1' := [some (.ref 483), some (.int x1), some (.int x2), some (.int x3), some (.int x4), some (.int 0), some (.int 0)]) (l2' := []) (by decide +kernel) rfl (Nat.le_of_ble_eq_true rfl) rfl rfl ?_
      exact h
  · rw [if_neg c29] at h
    refine w_if_eq_n (n := 9) (off := 27) (by decide +kernel) rfl c29 ?_
    refine w_iload_n (n := 10) (i := 3) (by decide +kernel) rfl rfl ?_
    refine w_iload (n := 12) (i := 4) (by decide +kernel) rfl rfl ?_
    obtain ⟨v8, M7, hLM7, hr28, h⟩ := h
    refine w_cS (n := 15) (idx := 272) (cal := 232) (na := 2) (nl := 2) (as := [.int x3, .int x4]) (rest := [.ref 483]) (by decide +kernel) (by decide +kernel) rfl rfl rfl (Nat.le_of_ble_eq_true rfl) rfl hr28 ?_
    by_cases c27 : v8 = 0
    · rw [if_pos c27] at h
      refine w_if_eq_j (n := 33) (off := 18) (by decide +kernel) (by decide) c27 ?_
      refine w_iconst (n := 34) (v := 0) (x := 0) (by decide +kernel) rfl (by decide) ?_
      obtain ⟨v10, M9, hLM9, hr12, h⟩ := h
      refine w_cV (n := 37) (idx := 72) (cal := 155) (na := 1) (nl := 2) (as := [.int 0]) (rest := []) hLM7 (by decide +kernel) (by decide +kernel) (at_483) (by decide +kernel) rfl rfl rfl (Nat.le_of_ble_eq_true rfl) rfl hr12 ?_
      by_cases c11 : v10 = 0
      · rw [if_pos c11] at h
        refine w_if_ne_n (n := 40) (off := 5) (by decide +kernel) rfl c11 ?_
        refine w_iconst (n := 41) (v := 0) (x := 0) (by decide +kernel) rfl (by decide) ?_
        subst h
        exact w_ireturn (by decide +kernel) (w_okI (by decide +kernel))
      · rw [if_neg c11] at h
        refine w_if_ne_j (n := 42) (off := 5) (by decide +kernel) (by decide) c11 ?_
        refine w_iconst (n := 43) (v := 0) (x := 0) (by decide +kernel) rfl (by decide) ?_
        refine w_istore (n := 45) (i := 5) (l1' := [some (.ref 483), some (.int x1), some (.int x2), some (.int x3), some (.int x4), some (.int 0), none]) (l2' := []) (by decide +kernel) rfl (Nat.le_of_ble_eq_true rfl) rfl rfl ?_
        refine w_iconst (n := 46) (v := 0) (x := 0) (by decide +kernel) rfl (by decide) ?_
        refine w_istore (n := 48) (i := 6) (l1' := [some (.ref 483), some (.int x1), some (.int x2), some (.int x3), some (.int x4), some (.int 0), some (.int 0)]) (l2' := []) (by decide +kernel) rfl (Nat.le_of_ble_eq_true rfl) rfl rfl ?_
        exact h
    · rw [if_neg c27] at h
      refine w_if_eq_n (n := 18) (off := 18) (by decide +kernel) rfl c27 ?_
      refine w_iload_n (n := 19) (i := 1) (by decide +kernel) rfl rfl ?_
      refine w_iload_n (n := 20) (i := 3) (by decide +kernel) rfl rfl ?_
      by_cases c26 : x3 < x1
      · rw [if_pos c26] at h
        refine w_icmp_gt_j (n := 33) (off := 13) (by decide +kernel) (by decide) c26 ?_
        refine w_iconst (n := 34) (v := 0) (x := 0) (by decide +kernel) rfl (by decide) ?_
        obtain ⟨v14, M13, hLM13, hr16, h⟩ := h
        refine w_cV (n := 37) (idx := 72) (cal := 155) (na := 1) (nl := 2) (as := [.int 0]) (rest := []) hLM7 (by decide +kernel) (by decide +kernel) (at_483) (by decide +kernel) rfl rfl rfl (Nat.le_of_ble_eq_true rfl) rfl hr16 ?_
        by_cases c15 : v14 = 0
        · rw [if_pos c15] at h
          refine w_if_ne_n (n := 40) (off := 5) (by decide +kernel) rfl c15 ?_
          refine w_iconst (n := 41) (v := 0) (x := 0) (by decide +kernel) rfl (by decide) ?_
          subst h
          exact w_ireturn (by decide +kernel) (w_okI (by decide +kernel))
        · rw [if_neg c15] at h
          refine w_if_ne_j (n := 42) (off := 5) (by decide +kernel) (by decide) c15 ?_
          refine w_iconst (n := 43) (v := 0) (x := 0) (by decide +kernel) rfl (by decide) ?_
          refine w_istore (n := 45) (i := 5) (l1' := [some (.ref 483), some (.int x1), some (.int x2), some (.int x3), some (.int x4), some (.int 0), none]) (l2' := []) (by decide +kernel) rfl (Nat.le_of_ble_eq_true rfl) rfl rfl ?_
          refine w_iconst (n := 46) (v := 0) (x := 0) (by decide +kernel) rfl (by decide) ?_
          refine w_istore (n := 48) (i := 6) (l1' := [some (.ref 483), some (.int x1), some (.int x2), some (.int x3), some (.int x4), some (.int 0), some (.int 0)]) (l2' := []) (by decide +kernel) rfl (Nat.le_of_ble_eq_true rfl) rfl rfl ?_
          exact h
      · rw [if_neg c26] at h
        refine w_icmp_gt_n (n := 23) (off := 13) (by decide +kernel) rfl c26 ?_
        refine w_iload_n (n := 24) (i := 2) (by decide +kernel) rfl rfl ?_
        refine w_iload (n := 26) (i := 4) (by decide +kernel) rfl rfl ?_
        by_cases c25 : x4 < x2
        · rw [if_pos c25] at h
          refine w_icmp_gt_j (n := 33) (off := 7) (by decide +kernel) (by decide) c25 ?_
          refine w_iconst (n := 34) (v := 0) (x := 0) (by decide +kernel) rfl (by decide) ?_
          obtain ⟨v18, M17, hLM17, hr20, h⟩ := h
          refine w_cV (n := 37) (idx := 72) (cal := 155) (na := 1) (nl := 2) (as := [.int 0]) (rest := []) hLM7 (by decide +kernel) (by decide +kernel) (at_483) (by decide +kernel) rfl rfl rfl (Nat.le_of_ble_eq_true rfl) rfl hr20 ?_
          by_cases c19 : v18 = 0
          · rw [if_pos c19] at h
            refine w_if_ne_n (n := 40) (off := 5) (by decide +kernel) rfl c19 ?_
            refine w_iconst (n := 41) (v := 0) (x := 0) (by decide +kernel) rfl (by decide) ?_
            subst h
            exact w_ireturn (by decide +kernel) (w_okI (by decide +kernel))
          · rw [if_neg c19] at h
            refine w_if_ne_j (n := 42) (off := 5) (by decide +kernel) (by decide) c19 ?_
            refine w_iconst (n := 43) (v := 0) (x := 0) (by decide +kernel) rfl (by decide) ?_
            refine w_istore (n := 45) (i := 5) (l1' := [some (.ref 483), some (.int x1), some (.int x2), some (.int x3), some (.int x4), some (.int 0), none]) (l2' := []) (by decide +kernel) rfl (Nat.le_of_ble_eq_true rfl) rfl rfl ?_
            refine w_iconst (n := 46) (v := 0) (x := 0) (by decide +kernel) rfl (by decide) ?_
            refine w_istore (n := 48) (i := 6) (l1' := [some (.ref 483), some (.int x1), some (.int x2), some (.int x3), some (.int x4), some (.int 0), some (.int 0)]) (l2' := []) (by decide +kernel) rfl (Nat.le_of_ble_eq_true rfl) rfl rfl ?_
            exact h
        · rw [if_neg c25] at h
          refine w_icmp_gt_n (n := 29) (off := 7) (by decide +kernel) rfl c25 ?_
          refine w_iconst (n := 30) (v := 1) (x := 1) (by decide +kernel) rfl (by decide) ?_
          refine w_goto (n := 34) (off := 4) (by decide +kernel) (by decide) ?_
          obtain ⟨v22, M21, hLM21, hr24, h⟩ := h
          refine w_cV (n := 37) (idx := 72) (cal := 155) (na := 1) (nl := 2) (as := [.int 1]) (rest := []) hLM7 (by decide +kernel) (by decide +kernel) (at_483) (by decide +kernel) rfl rfl rfl (Nat.le_of_ble_eq_true rfl) rfl hr24 ?_
          by_cases c23 : v22 = 0
          · rw [if_pos c23] at h
            refine w_if_ne_n (n := 40) (off := 5) (by decide +kernel) rfl c23 ?_
            refine w_iconst (n := 41) (v := 0) (x := 0) (by decide +kernel) rfl (by decide) ?_
            subst h
            exact w_ireturn (by decide +kernel) (w_okI (by decide +kernel))
          · rw [if_neg c23] at h
            refine w_if_ne_j (n := 42) (off := 5) (by decide +kernel) (by decide) c23 ?_
            refine w_iconst (n := 43) (v := 0) (x := 0) (by decide +kernel) rfl (by decide) ?_
            refine w_istore (n := 45) (i := 5) (l1' := [some (.ref 483), some (.int x1), some (.int x2), some (.int x3), some (.int x4), some (.int 0), none]) (l2' := []) (by decide +kernel) rfl (Nat.le_of_ble_eq_true rfl) rfl rfl ?_
            refine w_iconst (n := 46) (v := 0) (x := 0) (by decide +kernel) rfl (by decide) ?_
            refine w_istore (n := 48) (i := 6) (l1' := [some (.ref 483), some (.int x1), some (.int x2), some (.int x3), some (.int x4), some (.int 0), some (.int 0)]) (l2' := []) (by decide +kernel) rfl (Nat.le_of_ble_eq_true rfl) rfl rfl ?_
            exact h
theorem t_241_48 {X : ak_X} {M : ak_M} {r : ak_O × ak_M} (hL : ab_lay M) (x1 : Int32) (x2 : Int32) (x3 : Int32) (x4 : Int32) (y5 : Int32) (y6 : Int32) (h : (∃ (v32 : Int32) (M31 : ak_M), ab_lay M31 ∧ rn X 168 [.ref 483] M (.inl (some (.int v32)), M31) ∧ (if v32 ≤ y6 then r = (.inl (some (.int y5)), M31) else (∃ (v34 : Int32) (M33 : ak_M), ab_lay M33 ∧ rn X 171 [.ref 483, .int y6, .int 1] M31 (.inl (some (.int v34)), M33) ∧ (∃ (v36 : Int32) (M35 : ak_M), ab_lay M35 ∧ rn X 157 [.long (v34.toInt64), .long (x1.toInt64), .long (x3.toInt64)] M33 (.inl (some (.int v36)), M35) ∧ (if v36 = 0 then sg X 241 (48, [some (.ref 483), some (.int x1), some (.int x2), some (.int x3), some (.int x4), some (.int y5), some (.int (y6 + 1))], [], []) M35 r else (∃ (v38 : Int32) (M37 : ak_M), ab_lay M37 ∧ rn X 171 [.ref 483, .int y6, .int 2] M35 (.inl (some (.int v38)), M37) ∧ (∃ (v40 : Int32) (M39 : ak_M), ab_lay M39 ∧ rn X 157 [.long (v38.toInt64), .long (x2.toInt64), .long (x4.toInt64)] M37 (.inl (some (.int v40)), M39) ∧ (if v40 = 0 then sg X 241 (48, [some (.ref 483), some (.int x1), some (.int x2), some (.int x3), some (.int x4), some (.int y5), some (.int (y6 + 1))], [], []) M39 r else (∀ z41 : Int32, z41 = y5 ||| (1 <<< (y6 &&& 31)) → sg X 241 (48, [some (.ref 483), some (.int x1), some (.int x2), some (.int x3), some (.int x4), some (.int z41), some (.int (y6 + 1))], [], []) M39 r)))))))))) : sg X 241 (48, [some (.ref 483), some (.int x1), some (.int x2), some (.int x3), some (.int x4), some (.int y5), some (.int y6)], [], []) M r := by
  refine w_iload (n := 50) (i := 6) (by decide +kernel) rfl rfl ?_
  refine w_aload_n (n := 51) (i := 0) (by decide +kernel) rfl rfl ?_
  obtain ⟨v32, M31, hLM31, hr49, h⟩ := h
  refine w_cV (n := 54) (idx := 80) (cal := 168) (na := 0) (nl := 1) (as := []) (rest := [.int y6]) hL (by decide +kernel) (by decide +kernel) (at_483) (by decide +kernel) rfl rfl rfl (Nat.le_of_ble_eq_true rfl) rfl hr49 ?_
  by_cases c48 : v32 ≤ y6
  · rw [if_pos c48] at h
    refine w_icmp_ge_j (n := 109) (off := 55) (by decide +kernel) (by decide) c48 ?_
    refine w_iload (n := 111) (i := 5) (by decide +kernel) rfl rfl ?_
    subst h
    exact w_ireturn (by decide +kernel) (w_okI (by decide +kernel))
  · rw [if_neg c48] at h
    refine w_icmp_ge_n (n := 57) (off := 55) (by decide +kernel) rfl c48 ?_
    refine w_aload_n (n := 58) (i := 0) (by decide +kernel) rfl rfl ?_
    refine w_iload (n := 60) (i := 6) (by decide +kernel) rfl rfl ?_
    refine w_iconst (n := 61) (v := 1) (x := 1) (by decide +kernel) rfl (by decide) ?_
    obtain ⟨v34, M33, hLM33, hr47, h⟩ := h
    refine w_cV (n := 64) (idx := 92) (cal := 171) (na := 2) (nl := 3) (as := [.int y6, .int 1]) (rest := []) hLM31 (by decide +kernel) (by decide +kernel) (at_483) (by decide +kernel) rfl rfl rfl (Nat.le_of_ble_eq_true rfl) rfl hr47 ?_
    refine w_i2l (n := 65) (by decide +kernel) rfl ?_
    refine w_iload_n (n := 66) (i := 1) (by decide +kernel) rfl rfl ?_
    refine w_i2l (n := 67) (by decide +kernel) rfl ?_
    refine w_iload_n (n := 68) (i := 3) (by decide +kernel) rfl rfl ?_
    refine w_i2l (n := 69) (by decide +kernel) rfl ?_
    obtain ⟨v36, M35, hLM35, hr46, h⟩ := h
    refine w_cS (n := 72) (idx := 84) (cal := 157) (na := 3) (nl := 6) (as := [.long (v34.toInt64), .long (x1.toInt64), .long (x3.toInt64)]) (rest := []) (by decide +kernel) (by decide +kernel) rfl rfl rfl (Nat.le_of_ble_eq_true rfl) rfl hr46 ?_
    by_cases c45 : v36 = 0
    · rw [if_pos c45] at h
      refine w_if_eq_j (n := 103) (off := 31) (by decide +kernel) (by decide) c45 ?_
      refine w_iinc (n := 106) (i := 6) (v := 1) (y := y6 + 1) (l1' := [some (.ref 483), some (.int x1), some (.int x2), some (.int x3), some (.int x4), some (.int y5), some (.int (y6 + 1))]) (l2' := []) (by decide +kernel) rfl rfl rfl rfl rfl ?_
      refine w_goto (n := 48) (off := (-58)) (by decide +kernel) (by decide) ?_
      exact h
    · rw [if_neg c45] at h
      refine w_if_eq_n (n := 75) (off := 31) (by decide +kernel) rfl c45 ?_
      refine w_aload_n (n := 76) (i := 0) (by decide +kernel) rfl rfl ?_
      refine w_iload (n := 78) (i := 6) (by decide +kernel) rfl rfl ?_
      refine w_iconst (n := 79) (v := 2) (x := 2) (by decide +kernel) rfl (by decide) ?_
      obtain ⟨v38, M37, hLM37, hr44, h⟩ := h
      refine w_cV (n := 82) (idx := 92) (cal := 171) (na := 2) (nl := 3) (as := [.int y6, .int 2]) (rest := []) hLM35 (by decide +kernel) (by decide +kernel) (at_483) (by decide +kernel) rfl rfl rfl (Nat.le_of_ble_eq_true rfl) rfl hr44 ?_
      refine w_i2l (n := 83) (by decide +kernel) rfl ?_
      refine w_iload_n (n := 84) (i := 2) (by decide +kernel) rfl rfl ?_
      refine w_i2l (n := 85) (by decide +kernel) rfl ?_
      refine w_iload (n := 87) (i := 4) (by decide +kernel) rfl rfl ?_
      refine w_i2l (n := 88) (by decide +kernel) rfl ?_
      obtain ⟨v40, M39, hLM39, hr43, h⟩ := h
      refine w_cS (n := 91) (idx := 84) (cal := 157) (na := 3) (nl := 6) (as := [.long (v38.toInt64), .long (x2.toInt64), .long (x4.toInt64)]) (rest := []) (by decide +kernel) (by decide +kernel) rfl rfl rfl (Nat.le_of_ble_eq_true rfl) rfl hr43 ?_
      by_cases c42 : v40 = 0
      · rw [if_pos c42] at h
        refine w_if_eq_j (n := 103) (off := 12) (by decide +kernel) (by decide) c42 ?_
        refine w_iinc (n := 106) (i := 6) (v := 1) (y := y6 + 1) (l1' := [some (.ref 483), some (.int x1), some (.int x2), some (.int x3), some (.int x4), some (.int y5), some (.int (y6 + 1))]) (l2' := []) (by decide +kernel) rfl rfl rfl rfl rfl ?_
        refine w_goto (n := 48) (off := (-58)) (by decide +kernel) (by decide) ?_
        exact h
      · rw [if_neg c42] at h
        refine w_if_eq_n (n := 94) (off := 12) (by decide +kernel) rfl c42 ?_
        refine w_iload (n := 96) (i := 5) (by decide +kernel) rfl rfl ?_
        refine w_iconst (n := 97) (v := 1) (x := 1) (by decide +kernel) rfl (by decide) ?_
        refine w_iload (n := 99) (i := 6) (by decide +kernel) rfl rfl ?_
        refine w_ishl (n := 100) (by decide +kernel) rfl ?_
        refine w_ior (n := 101) (by decide +kernel) rfl ?_
        refine w_istore (n := 103) (i := 5) (l1' := [some (.ref 483), some (.int x1), some (.int x2), some (.int x3), some (.int x4), some (.int (y5 ||| (1 <<< (y6 &&& 31)))), some (.int y6)]) (l2' := []) (by decide +kernel) rfl (Nat.le_of_ble_eq_true rfl) rfl rfl ?_
        generalize ez41 : y5 ||| (1 <<< (y6 &&& 31)) = z41
        replace h := h z41 ez41.symm
        refine w_iinc (n := 106) (i := 6) (v := 1) (y := y6 + 1) (l1' := [some (.ref 483), some (.int x1), some (.int x2), some (.int x3), some (.int x4), some (.int z41), some (.int (y6 + 1))]) (l2' := []) (by decide +kernel) rfl rfl rfl rfl rfl ?_
        refine w_goto (n := 48) (off := (-58)) (by decide +kernel) (by decide) ?_
        exact h
theorem t_242 {X : ak_X} {M : ak_M} {r : ak_O × ak_M} (hL : ab_lay M) (h : (∃ (v2 : Int32) (M1 : ak_M), ab_lay M1 ∧ rn X 228 [.ref 483] M (.inl (some (.int v2)), M1) ∧ (if v2 = (-1) then r = (.inl (some (.int ((-1)))), M1) else (∃ (v4 : Int32) (M3 : ak_M), ab_lay M3 ∧ rn X 171 [.ref 483, .int v2, .int 3] M1 (.inl (some (.int v4)), M3) ∧ (∃ (v6 : Int32) (M5 : ak_M), ab_lay M5 ∧ rn X 229 [.ref 483] M3 (.inl (some (.int v6)), M5) ∧ (∃ (v8 : Int32) (M7 : ak_M), ab_lay M7 ∧ rn X 171 [.ref 483, .int v6, .int 3] M5 (.inl (some (.int v8)), M7) ∧ r = (.inl (some (.int (v4 - v8))), M7))))))) : rn X 242 [.ref 483] M r := by
  refine w_rn (nL := 2) (l1 := [some (.ref 483), none]) (by decide +kernel) rfl rfl ?_
  refine w_aload_n (n := 1) (i := 0) (by decide +kernel) rfl rfl ?_
  obtain ⟨v2, M1, hLM1, hr13, h⟩ := h
  refine w_cV (n := 4) (idx := 280) (cal := 228) (na := 0) (nl := 1) (as := []) (rest := []) hL (by decide +kernel) (by decide +kernel) (at_483) (by decide +kernel) rfl rfl rfl (Nat.le_of_ble_eq_true rfl) rfl hr13 ?_
  refine w_istore_n (n := 5) (i := 1) (l1' := [some (.ref 483), some (.int v2)]) (l2' := []) (by decide +kernel) rfl (Nat.le_of_ble_eq_true rfl) rfl rfl ?_
  refine w_iload_n (n := 6) (i := 1) (by decide +kernel) rfl rfl ?_
  refine w_iconst (n := 7) (v := -1) (x := (-1)) (by decide +kernel) rfl (by decide) ?_
  by_cases c12 : v2 = (-1)
  · rw [if_pos c12] at h
    refine w_icmp_ne_n (n := 10) (off := 7) (by decide +kernel) rfl c12 ?_
    refine w_iconst (n := 11) (v := -1) (x := (-1)) (by decide +kernel) rfl (by decide) ?_
    refine w_goto (n := 30) (off := 19) (by decide +kernel) (by decide) ?_
    subst h
    exact w_ireturn (by decide +kernel) (w_okI (by decide +kernel))
  · rw [if_neg c12] at h
    refine w_icmp_ne_j (n := 14) (off := 7) (by decide +kernel) (by decide) c12 ?_
    refine w_aload_n (n := 15) (i := 0) (by decide +kernel) rfl rfl ?_
    refine w_iload_n (n := 16) (i := 1) (by decide +kernel) rfl rfl ?_
    refine w_iconst (n := 17) (v := 3) (x := 3) (by decide +kernel) rfl (by decide) ?_
    obtain ⟨v4, M3, hLM3, hr11, h⟩ := h
    refine w_cV (n := 20) (idx := 92) (cal := 171) (na := 2) (nl := 3) (as := [.int v2, .int 3]) (rest := []) hLM1 (by decide +kernel) (by decide +kernel) (at_483) (by decide +kernel) rfl rfl rfl (Nat.le_of_ble_eq_true rfl) rfl hr11 ?_
    refine w_aload_n (n := 21) (i := 0) (by decide +kernel) rfl rfl ?_
    refine w_aload_n (n := 22) (i := 0) (by decide +kernel) rfl rfl ?_
    obtain ⟨v6, M5, hLM5, hr10, h⟩ := h
    refine w_cV (n := 25) (idx := 283) (cal := 229) (na := 0) (nl := 1) (as := []) (rest := [.ref 483, .int v4]) hLM3 (by decide +kernel) (by decide +kernel) (at_483) (by decide +kernel) rfl rfl rfl (Nat.le_of_ble_eq_true rfl) rfl hr10 ?_
    refine w_iconst (n := 26) (v := 3) (x := 3) (by decide +kernel) rfl (by decide) ?_
    obtain ⟨v8, M7, hLM7, hr9, h⟩ := h
    refine w_cV (n := 29) (idx := 92) (cal := 171) (na := 2) (nl := 3) (as := [.int v6, .int 3]) (rest := [.int v4]) hLM5 (by decide +kernel) (by decide +kernel) (at_483) (by decide +kernel) rfl rfl rfl (Nat.le_of_ble_eq_true rfl) rfl hr9 ?_
    refine w_isub (n := 30) (by decide +kernel) rfl ?_
    subst h
    exact w_ireturn (by decide +kernel) (w_okI (by decide +kernel))
theorem t_243 {X : ak_X} {M : ak_M} {r : ak_O × ak_M} (hL : ab_lay M) (h : (∀ M1 : ak_M, M1 = ak_sI M 483 0 0 → sg X 243 (9, [some (.ref 483), some (.int 0), some (.int 0)], [], []) M1 r)) : rn X 243 [.ref 483] M r := by
  refine w_rn (nL := 3) (l1 := [some (.ref 483), none, none]) (by decide +kernel) rfl rfl ?_
  refine w_aload_n (n := 1) (i := 0) (by decide +kernel) rfl rfl ?_
  refine w_iconst (n := 2) (v := 0) (x := 0) (by decide +kernel) rfl (by decide) ?_
  refine w_putI (n := 5) hL (by decide +kernel) oO_243 fF_12_62 (at_483) ⟨by decide, Or.inl (by decide)⟩ rfl ?_
  generalize eM1 : ak_sI M 483 0 0 = M1
  have hLM1 : ab_lay M1 := by rw [← eM1]; exact ab_lay.sI hL
  replace h := h M1 eM1.symm
  refine w_iconst (n := 6) (v := 0) (x := 0) (by decide +kernel) rfl (by decide) ?_
  refine w_istore_n (n := 7) (i := 1) (l1' := [some (.ref 483), some (.int 0), none]) (l2' := []) (by decide +kernel) rfl (Nat.le_of_ble_eq_true rfl) rfl rfl ?_
  refine w_iconst (n := 8) (v := 0) (x := 0) (by decide +kernel) rfl (by decide) ?_
  refine w_istore_n (n := 9) (i := 2) (l1' := [some (.ref 483), some (.int 0), some (.int 0)]) (l2' := []) (by decide +kernel) rfl (Nat.le_of_ble_eq_true rfl) rfl rfl ?_
  exact h
theorem t_243_9 {X : ak_X} {M : ak_M} {r : ak_O × ak_M} (hL : ab_lay M) (y1 : Int32) (y2 : Int32) (h : (∃ (v3 : Int32) (M2 : ak_M), ab_lay M2 ∧ rn X 168 [.ref 483] M (.inl (some (.int v3)), M2) ∧ (if v3 ≤ y2 then (∃ (v5 : Int32) (M4 : ak_M), ab_lay M4 ∧ rn X 214 [.ref 483, .int 0] M2 (.inl (some (.int v5)), M4) ∧ (if v5 = 0 then r = (.inl (some (.double (FP.dconst0))), M4) else (∃ (v7 : Int32) (M6 : ak_M), ab_lay M6 ∧ rn X 214 [.ref 483, .int 0] M4 (.inl (some (.int v7)), M6) ∧ ((FP.ddiv (FP.i2d y1) (FP.i2d v7)) &&& 0x7fffffffffffffff ≤ 0x7ff0000000000000 ∧ r = (.inl (some (.double (FP.ddiv (FP.i2d y1) (FP.i2d v7)))), M6))))) else (∃ (v13 : Int32) (M12 : ak_M), ab_lay M12 ∧ rn X 175 [.ref 483, .int y2] M2 (.inl (some (.int v13)), M12) ∧ (if v13 = 0 then sg X 243 (9, [some (.ref 483), some (.int y1), some (.int (y2 + 1))], [], []) M12 r else (∃ (v15 : Int32) (M14 : ak_M), ab_lay M14 ∧ rn X 171 [.ref 483, .int y2, .int 3] M12 (.inl (some (.int v15)), M14) ∧ sg X 243 (9, [some (.ref 483), some (.int (y1 + v15)), some (.int (y2 + 1))], [], []) M14 r)))))) : sg X 243 (9, [some (.ref 483), some (.int y1), some (.int y2)], [], []) M r := by
  refine w_iload_n (n := 10) (i := 2) (by decide +kernel) rfl rfl ?_
  refine w_aload_n (n := 11) (i := 0) (by decide +kernel) rfl rfl ?_
  obtain ⟨v3, M2, hLM2, hr20, h⟩ := h
  refine w_cV (n := 14) (idx := 80) (cal := 168) (na := 0) (nl := 1) (as := []) (rest := [.int y2]) hL (by decide +kernel) (by decide +kernel) (at_483) (by decide +kernel) rfl rfl rfl (Nat.le_of_ble_eq_true rfl) rfl hr20 ?_
  by_cases c19 : v3 ≤ y2
  · rw [if_pos c19] at h
    refine w_icmp_ge_j (n := 40) (off := 26) (by decide +kernel) (by decide) c19 ?_
    refine w_aload_n (n := 41) (i := 0) (by decide +kernel) rfl rfl ?_
    refine w_iconst (n := 42) (v := 0) (x := 0) (by decide +kernel) rfl (by decide) ?_
    obtain ⟨v5, M4, hLM4, hr11, h⟩ := h
    refine w_cV (n := 45) (idx := 243) (cal := 214) (na := 1) (nl := 2) (as := [.int 0]) (rest := []) hLM2 (by decide +kernel) (by decide +kernel) (at_483) (by decide +kernel) rfl rfl rfl (Nat.le_of_ble_eq_true rfl) rfl hr11 ?_
    by_cases c10 : v5 = 0
    · rw [if_pos c10] at h
      refine w_if_ne_n (n := 48) (off := 7) (by decide +kernel) rfl c10 ?_
      refine w_dconst (n := 49) (by decide +kernel) rfl ?_
      refine w_goto (n := 61) (off := 12) (by decide +kernel) (by decide) ?_
      subst h
      exact w_dreturn (by decide +kernel) (by decide +kernel)
    · rw [if_neg c10] at h
      refine w_if_ne_j (n := 52) (off := 7) (by decide +kernel) (by decide) c10 ?_
      refine w_iload_n (n := 53) (i := 1) (by decide +kernel) rfl rfl ?_
      refine w_i2d (n := 54) (by decide +kernel) rfl ?_
      refine w_aload_n (n := 55) (i := 0) (by decide +kernel) rfl rfl ?_
      refine w_iconst (n := 56) (v := 0) (x := 0) (by decide +kernel) rfl (by decide) ?_
      obtain ⟨v7, M6, hLM6, hr9, h⟩ := h
      refine w_cV (n := 59) (idx := 243) (cal := 214) (na := 1) (nl := 2) (as := [.int 0]) (rest := [.double (FP.i2d y1)]) hLM4 (by decide +kernel) (by decide +kernel) (at_483) (by decide +kernel) rfl rfl rfl (Nat.le_of_ble_eq_true rfl) rfl hr9 ?_
      refine w_i2d (n := 60) (by decide +kernel) rfl ?_
      obtain ⟨g8, h⟩ := h
      refine w_ddiv (n := 61) (by decide +kernel) rfl g8 ?_
      subst h
      exact w_dreturn (by decide +kernel) (by decide +kernel)
  · rw [if_neg c19] at h
    refine w_icmp_ge_n (n := 17) (off := 26) (by decide +kernel) rfl c19 ?_
    refine w_aload_n (n := 18) (i := 0) (by decide +kernel) rfl rfl ?_
    refine w_iload_n (n := 19) (i := 2) (by decide +kernel) rfl rfl ?_
    obtain ⟨v13, M12, hLM12, hr18, h⟩ := h
    refine w_cV (n := 22) (idx := 99) (cal := 175) (na := 1) (nl := 2) (as := [.int y2]) (rest := []) hLM2 (by decide +kernel) (by decide +kernel) (at_483) (by decide +kernel) rfl rfl rfl (Nat.le_of_ble_eq_true rfl) rfl hr18 ?_
    by_cases c17 : v13 = 0
    · rw [if_pos c17] at h
      refine w_if_eq_j (n := 34) (off := 12) (by decide +kernel) (by decide) c17 ?_
      refine w_iinc (n := 37) (i := 2) (v := 1) (y := y2 + 1) (l1' := [some (.ref 483), some (.int y1), some (.int (y2 + 1))]) (l2' := []) (by decide +kernel) rfl rfl rfl rfl rfl ?_
      refine w_goto (n := 9) (off := (-28)) (by decide +kernel) (by decide) ?_
      exact h
    · rw [if_neg c17] at h
      refine w_if_eq_n (n := 25) (off := 12) (by decide +kernel) rfl c17 ?_
      refine w_iload_n (n := 26) (i := 1) (by decide +kernel) rfl rfl ?_
      refine w_aload_n (n := 27) (i := 0) (by decide +kernel) rfl rfl ?_
      refine w_iload_n (n := 28) (i := 2) (by decide +kernel) rfl rfl ?_
      refine w_iconst (n := 29) (v := 3) (x := 3) (by decide +kernel) rfl (by decide) ?_
      obtain ⟨v15, M14, hLM14, hr16, h⟩ := h
      refine w_cV (n := 32) (idx := 92) (cal := 171) (na := 2) (nl := 3) (as := [.int y2, .int 3]) (rest := [.int y1]) hLM12 (by decide +kernel) (by decide +kernel) (at_483) (by decide +kernel) rfl rfl rfl (Nat.le_of_ble_eq_true rfl) rfl hr16 ?_
      refine w_iadd (n := 33) (by decide +kernel) rfl ?_
      refine w_istore_n (n := 34) (i := 1) (l1' := [some (.ref 483), some (.int (y1 + v15)), some (.int y2)]) (l2' := []) (by decide +kernel) rfl (Nat.le_of_ble_eq_true rfl) rfl rfl ?_
      refine w_iinc (n := 37) (i := 2) (v := 1) (y := y2 + 1) (l1' := [some (.ref 483), some (.int (y1 + v15)), some (.int (y2 + 1))]) (l2' := []) (by decide +kernel) rfl rfl rfl rfl rfl ?_
      refine w_goto (n := 9) (off := (-28)) (by decide +kernel) (by decide) ?_
      exact h
theorem t_244 {X : ak_X} {M : ak_M} {r : ak_O × ak_M} (hL : ab_lay M) (x1 : Int32) (h : (∃ (v2 : Int32) (M1 : ak_M), ab_lay M1 ∧ rn X 169 [.ref 483, .int x1] M (.inl (some (.int v2)), M1) ∧ (∃ (v4 : Int32) (M3 : ak_M), ab_lay M3 ∧ rn X 155 [.ref 483, .int v2] M1 (.inl (some (.int v4)), M3) ∧ (if v4 = 0 then r = (.inl (some (.float (FP.fconst0))), M3) else (∃ (v6 : Int32) (M5 : ak_M), ab_lay M5 ∧ rn X 171 [.ref 483, .int x1, .int 9] M3 (.inl (some (.int v6)), M5) ∧ (∃ (v8 : Int32) (M7 : ak_M), ab_lay M7 ∧ rn X 171 [.ref 483, .int x1, .int 10] M5 (.inl (some (.int v8)), M7) ∧ (∃ (v10 : Int32) (M9 : ak_M), ab_lay M9 ∧ rn X 315 [.int 0, .int (v6 - v8)] M7 (.inl (some (.int v10)), M9) ∧ (∃ (v12 : Int32) (M11 : ak_M), ab_lay M11 ∧ rn X 171 [.ref 483, .int x1, .int 9] M9 (.inl (some (.int v12)), M11) ∧ ((FP.fdiv (FP.i2f v10) (FP.i2f v12)) &&& 0x7fffffff ≤ 0x7f800000 ∧ r = (.inl (some (.float (FP.fdiv (FP.i2f v10) (FP.i2f v12)))), M11)))))))))) : rn X 244 [.ref 483, .int x1] M r := by
  refine w_rn (nL := 2) (l1 := [some (.ref 483), some (.int x1)]) (by decide +kernel) rfl rfl ?_
  refine w_aload_n (n := 1) (i := 0) (by decide +kernel) rfl rfl ?_
  refine w_aload_n (n := 2) (i := 0) (by decide +kernel) rfl rfl ?_
  refine w_iload_n (n := 3) (i := 1) (by decide +kernel) rfl rfl ?_
  obtain ⟨v2, M1, hLM1, hr20, h⟩ := h
  refine w_cV (n := 6) (idx := 88) (cal := 169) (na := 1) (nl := 2) (as := [.int x1]) (rest := [.ref 483]) hL (by decide +kernel) (by decide +kernel) (at_483) (by decide +kernel) rfl rfl rfl (Nat.le_of_ble_eq_true rfl) rfl hr20 ?_
  obtain ⟨v4, M3, hLM3, hr19, h⟩ := h
  refine w_cV (n := 9) (idx := 72) (cal := 155) (na := 1) (nl := 2) (as := [.int v2]) (rest := []) hLM1 (by decide +kernel) (by decide +kernel) (at_483) (by decide +kernel) rfl rfl rfl (Nat.le_of_ble_eq_true rfl) rfl hr19 ?_
  by_cases c18 : v4 = 0
  · rw [if_pos c18] at h
    refine w_if_ne_n (n := 12) (off := 5) (by decide +kernel) rfl c18 ?_
    refine w_fconst (n := 13) (by decide +kernel) rfl ?_
    subst h
    exact w_freturn (by decide +kernel) (by decide +kernel)
  · rw [if_neg c18] at h
    refine w_if_ne_j (n := 14) (off := 5) (by decide +kernel) (by decide) c18 ?_
    refine w_iconst (n := 15) (v := 0) (x := 0) (by decide +kernel) rfl (by decide) ?_
    refine w_aload_n (n := 16) (i := 0) (by decide +kernel) rfl rfl ?_
    refine w_iload_n (n := 17) (i := 1) (by decide +kernel) rfl rfl ?_
    refine w_bipush (n := 19) (v := 9) (x := 9) (by decide +kernel) rfl (by decide) ?_
    obtain ⟨v6, M5, hLM5, hr17, h⟩ := h
    refine w_cV (n := 22) (idx := 92) (cal := 171) (na := 2) (nl := 3) (as := [.int x1, .int 9]) (rest := [.int 0]) hLM3 (by decide +kernel) (by decide +kernel) (at_483) (by decide +kernel) rfl rfl rfl (Nat.le_of_ble_eq_true rfl) rfl hr17 ?_
    refine w_aload_n (n := 23) (i := 0) (by decide +kernel) rfl rfl ?_
    refine w_iload_n (n := 24) (i := 1) (by decide +kernel) rfl rfl ?_
    refine w_bipush (n := 26) (v := 10) (x := 10) (by decide +kernel) rfl (by decide) ?_
    obtain ⟨v8, M7, hLM7, hr16, h⟩ := h
    refine w_cV (n := 29) (idx := 92) (cal := 171) (na := 2) (nl := 3) (as := [.int x1, .int 10]) (rest := [.int v6, .int 0]) hLM5 (by decide +kernel) (by decide +kernel) (at_483) (by decide +kernel) rfl rfl rfl (Nat.le_of_ble_eq_true rfl) rfl hr16 ?_
    refine w_isub (n := 30) (by decide +kernel) rfl ?_
    obtain ⟨v10, M9, hLM9, hr15, h⟩ := h
    refine w_cS (n := 33) (idx := 111) (cal := 315) (na := 2) (nl := 2) (as := [.int 0, .int (v6 - v8)]) (rest := []) (by decide +kernel) (by decide +kernel) rfl rfl rfl (Nat.le_of_ble_eq_true rfl) rfl hr15 ?_
    refine w_i2f (n := 34) (by decide +kernel) rfl ?_
    refine w_aload_n (n := 35) (i := 0) (by decide +kernel) rfl rfl ?_
    refine w_iload_n (n := 36) (i := 1) (by decide +kernel) rfl rfl ?_
    refine w_bipush (n := 38) (v := 9) (x := 9) (by decide +kernel) rfl (by decide) ?_
    obtain ⟨v12, M11, hLM11, hr14, h⟩ := h
    refine w_cV (n := 41) (idx := 92) (cal := 171) (na := 2) (nl := 3) (as := [.int x1, .int 9]) (rest := [.float (FP.i2f v10)]) hLM9 (by decide +kernel) (by decide +kernel) (at_483) (by decide +kernel) rfl rfl rfl (Nat.le_of_ble_eq_true rfl) rfl hr14 ?_
    refine w_i2f (n := 42) (by decide +kernel) rfl ?_
    obtain ⟨g13, h⟩ := h
    refine w_fdiv (n := 43) (by decide +kernel) rfl g13 ?_
    subst h
    exact w_freturn (by decide +kernel) (by decide +kernel)
theorem t_245 {X : ak_X} {M : ak_M} {r : ak_O × ak_M} (hL : ab_lay M) (x0 : Int32) (h : (∃ (v2 : Int32) (M1 : ak_M), ab_lay M1 ∧ rn X 157 [.long (x0.toInt64), .long 1, .long 100] M (.inl (some (.int v2)), M1) ∧ ((v2 = 0 ∨ v2 = 1) ∧ r = (.inl (some (.int v2)), M1)))) : rn X 245 [.int x0] M r := by
  refine w_rn (nL := 1) (l1 := [some (.int x0)]) (by decide +kernel) rfl rfl ?_
  refine w_iload_n (n := 1) (i := 0) (by decide +kernel) rfl rfl ?_
  refine w_i2l (n := 2) (by decide +kernel) rfl ?_
  refine w_lconst (n := 3) (v := 1) (x := 1) (by decide +kernel) rfl (by decide) ?_
  refine w_ldc2 (n := 6) (idx := 286) (v := 100) (by decide +kernel) oO_245 (by decide +kernel) rfl ?_
  obtain ⟨v2, M1, hLM1, hr4, h⟩ := h
  refine w_cS (n := 9) (idx := 84) (cal := 157) (na := 3) (nl := 6) (as := [.long (x0.toInt64), .long 1, .long 100]) (rest := []) (by decide +kernel) (by decide +kernel) rfl rfl rfl (Nat.le_of_ble_eq_true rfl) rfl hr4 ?_
  obtain ⟨g3, rfl⟩ := h
  exact w_ireturn (by decide +kernel) (w_okZ (by decide +kernel) g3)
theorem t_246 {X : ak_X} {M : ak_M} {r : ak_O × ak_M} (hL : ab_lay M) (x1 : Int32) (x2 : Int32) (x3 : Int32) (h : (∃ (v2 : Int32) (M1 : ak_M), ab_lay M1 ∧ rn X 169 [.ref 483, .int x1] M (.inl (some (.int v2)), M1) ∧ (∃ (v4 : Int32) (M3 : ak_M), ab_lay M3 ∧ rn X 155 [.ref 483, .int v2] M1 (.inl (some (.int v4)), M3) ∧ (if v4 = 0 then r = (.inl (some (.int 0)), M3) else (∃ (v6 : Int32) (M5 : ak_M), ab_lay M5 ∧ rn X 217 [.int x2] M3 (.inl (some (.int v6)), M5) ∧ (if v6 = 0 then (∃ (v8 : Int32) (M7 : ak_M), ab_lay M7 ∧ rn X 156 [.ref 483, .int 0, .int 2] M5 (.inl (some (.int v8)), M7) ∧ (if v8 = 0 then r = (.inl (some (.int 0)), M7) else (∃ (M9 : ak_M), ab_lay M9 ∧ rn X 166 [.ref 483] M7 (.inl (none), M9) ∧ (∃ (M10 : ak_M), ab_lay M10 ∧ rn X 213 [.ref 483, .int x3] M9 (.inl (none), M10) ∧ (∃ (v12 : Int32) (M11 : ak_M), ab_lay M11 ∧ rn X 171 [.ref 483, .int x1, .int x2] M10 (.inl (some (.int v12)), M11) ∧ (∃ (v14 : Int32) (M13 : ak_M), ab_lay M13 ∧ rn X 167 [.ref 483, .int v12] M11 (.inl (some (.int v14)), M13) ∧ r = (.inl (some (.int v14)), M13))))))) else (∃ (v22 : Int32) (M21 : ak_M), ab_lay M21 ∧ rn X 245 [.int x3] M5 (.inl (some (.int v22)), M21) ∧ (if v22 = 0 then (∃ (v24 : Int32) (M23 : ak_M), ab_lay M23 ∧ rn X 156 [.ref 483, .int 0, .int 2] M21 (.inl (some (.int v24)), M23) ∧ (if v24 = 0 then r = (.inl (some (.int 0)), M23) else (∃ (M25 : ak_M), ab_lay M25 ∧ rn X 166 [.ref 483] M23 (.inl (none), M25) ∧ (∃ (M26 : ak_M), ab_lay M26 ∧ rn X 213 [.ref 483, .int x3] M25 (.inl (none), M26) ∧ (∃ (v28 : Int32) (M27 : ak_M), ab_lay M27 ∧ rn X 171 [.ref 483, .int x1, .int x2] M26 (.inl (some (.int v28)), M27) ∧ (∃ (v30 : Int32) (M29 : ak_M), ab_lay M29 ∧ rn X 167 [.ref 483, .int v28] M27 (.inl (some (.int v30)), M29) ∧ r = (.inl (some (.int v30)), M29))))))) else (∃ (v38 : Int32) (M37 : ak_M), ab_lay M37 ∧ rn X 156 [.ref 483, .int 1, .int 2] M21 (.inl (some (.int v38)), M37) ∧ (if v38 = 0 then r = (.inl (some (.int 0)), M37) else (∃ (M39 : ak_M), ab_lay M39 ∧ rn X 166 [.ref 483] M37 (.inl (none), M39) ∧ (∃ (M40 : ak_M), ab_lay M40 ∧ rn X 213 [.ref 483, .int x3] M39 (.inl (none), M40) ∧ (∃ (v42 : Int32) (M41 : ak_M), ab_lay M41 ∧ rn X 171 [.ref 483, .int x1, .int x2] M40 (.inl (some (.int v42)), M41) ∧ (∃ (v44 : Int32) (M43 : ak_M), ab_lay M43 ∧ rn X 167 [.ref 483, .int v42] M41 (.inl (some (.int v44)), M43) ∧ r = (.inl (some (.int v44)), M43))))))))))))))) : rn X 246 [.ref 483, .int x1, .int x2, .int x3] M r := by
  refine w_rn (nL := 4) (l1 := [some (.ref 483), some (.int x1), some (.int x2), some (.int x3)]) (by decide +kernel) rfl rfl ?_
  refine w_aload_n (n := 1) (i := 0) (by decide +kernel) rfl rfl ?_
  refine w_aload_n (n := 2) (i := 0) (by decide +kernel) rfl rfl ?_
  refine w_iload_n (n := 3) (i := 1) (by decide +kernel) rfl rfl ?_
  obtain ⟨v2, M1, hLM1, hr57, h⟩ := h
  refine w_cV (n := 6) (idx := 88) (cal := 169) (na := 1) (nl := 2) (as := [.int x1]) (rest := [.ref 483]) hL (by decide +kernel) (by decide +kernel) (at_483) (by decide +kernel) rfl rfl rfl (Nat.le_of_ble_eq_true rfl) rfl hr57 ?_
  obtain ⟨v4, M3, hLM3, hr56, h⟩ := h
  refine w_cV (n := 9) (idx := 72) (cal := 155) (na := 1) (nl := 2) (as := [.int v2]) (rest := []) hLM1 (by decide +kernel) (by decide +kernel) (at_483) (by decide +kernel) rfl rfl rfl (Nat.le_of_ble_eq_true rfl) rfl hr56 ?_
  by_cases c55 : v4 = 0
  · rw [if_pos c55] at h
    refine w_if_eq_j (n := 39) (off := 30) (by decide +kernel) (by decide) c55 ?_
    refine w_iconst (n := 40) (v := 0) (x := 0) (by decide +kernel) rfl (by decide) ?_
    subst h
    exact w_ireturn (by decide +kernel) (w_okI (by decide +kernel))
  · rw [if_neg c55] at h
    refine w_if_eq_n (n := 12) (off := 30) (by decide +kernel) rfl c55 ?_
    refine w_aload_n (n := 13) (i := 0) (by decide +kernel) rfl rfl ?_
    refine w_iload_n (n := 14) (i := 2) (by decide +kernel) rfl rfl ?_
    obtain ⟨v6, M5, hLM5, hr54, h⟩ := h
    refine w_cS (n := 17) (idx := 254) (cal := 217) (na := 1) (nl := 1) (as := [.int x2]) (rest := [.ref 483]) (by decide +kernel) (by decide +kernel) rfl rfl rfl (Nat.le_of_ble_eq_true rfl) rfl hr54 ?_
    by_cases c53 : v6 = 0
    · rw [if_pos c53] at h
      refine w_if_eq_j (n := 31) (off := 14) (by decide +kernel) (by decide) c53 ?_
      refine w_iconst (n := 32) (v := 0) (x := 0) (by decide +kernel) rfl (by decide) ?_
      refine w_iconst (n := 33) (v := 2) (x := 2) (by decide +kernel) rfl (by decide) ?_
      obtain ⟨v8, M7, hLM7, hr20, h⟩ := h
      refine w_cV (n := 36) (idx := 257) (cal := 156) (na := 2) (nl := 3) (as := [.int 0, .int 2]) (rest := []) hLM5 (by decide +kernel) (by decide +kernel) (at_483) (by decide +kernel) rfl rfl rfl (Nat.le_of_ble_eq_true rfl) rfl hr20 ?_
      by_cases c19 : v8 = 0
      · rw [if_pos c19] at h
        refine w_if_ne_n (n := 39) (off := 5) (by decide +kernel) rfl c19 ?_
        refine w_iconst (n := 40) (v := 0) (x := 0) (by decide +kernel) rfl (by decide) ?_
        subst h
        exact w_ireturn (by decide +kernel) (w_okI (by decide +kernel))
      · rw [if_neg c19] at h
        refine w_if_ne_j (n := 41) (off := 5) (by decide +kernel) (by decide) c19 ?_
        refine w_aload_n (n := 42) (i := 0) (by decide +kernel) rfl rfl ?_
        obtain ⟨M9, hLM9, hr18, h⟩ := h
        refine w_cV (n := 45) (idx := 291) (cal := 166) (na := 0) (nl := 1) (as := []) (rest := []) hLM7 (by decide +kernel) (by decide +kernel) (at_483) (by decide +kernel) rfl rfl rfl (Nat.le_of_ble_eq_true rfl) rfl hr18 ?_
        refine w_aload_n (n := 46) (i := 0) (by decide +kernel) rfl rfl ?_
        refine w_iload_n (n := 47) (i := 3) (by decide +kernel) rfl rfl ?_
        obtain ⟨M10, hLM10, hr17, h⟩ := h
        refine w_cV (n := 50) (idx := 294) (cal := 213) (na := 1) (nl := 2) (as := [.int x3]) (rest := []) hLM9 (by decide +kernel) (by decide +kernel) (at_483) (by decide +kernel) rfl rfl rfl (Nat.le_of_ble_eq_true rfl) rfl hr17 ?_
        refine w_aload_n (n := 51) (i := 0) (by decide +kernel) rfl rfl ?_
        refine w_aload_n (n := 52) (i := 0) (by decide +kernel) rfl rfl ?_
        refine w_iload_n (n := 53) (i := 1) (by decide +kernel) rfl rfl ?_
        refine w_iload_n (n := 54) (i := 2) (by decide +kernel) rfl rfl ?_
        obtain ⟨v12, M11, hLM11, hr16, h⟩ := h
        refine w_cV (n := 57) (idx := 92) (cal := 171) (na := 2) (nl := 3) (as := [.int x1, .int x2]) (rest := [.ref 483]) hLM10 (by decide +kernel) (by decide +kernel) (at_483) (by decide +kernel) rfl rfl rfl (Nat.le_of_ble_eq_true rfl) rfl hr16 ?_
        obtain ⟨v14, M13, hLM13, hr15, h⟩ := h
        refine w_cV (n := 60) (idx := 297) (cal := 167) (na := 1) (nl := 2) (as := [.int v12]) (rest := []) hLM11 (by decide +kernel) (by decide +kernel) (at_483) (by decide +kernel) rfl rfl rfl (Nat.le_of_ble_eq_true rfl) rfl hr15 ?_
        subst h
        exact w_ireturn (by decide +kernel) (w_okI (by decide +kernel))
    · rw [if_neg c53] at h
      refine w_if_eq_n (n := 20) (off := 14) (by decide +kernel) rfl c53 ?_
      refine w_iload_n (n := 21) (i := 3) (by decide +kernel) rfl rfl ?_
      obtain ⟨v22, M21, hLM21, hr52, h⟩ := h
      refine w_cS (n := 24) (idx := 288) (cal := 245) (na := 1) (nl := 1) (as := [.int x3]) (rest := [.ref 483]) (by decide +kernel) (by decide +kernel) rfl rfl rfl (Nat.le_of_ble_eq_true rfl) rfl hr52 ?_
      by_cases c51 : v22 = 0
      · rw [if_pos c51] at h
        refine w_if_eq_j (n := 31) (off := 7) (by decide +kernel) (by decide) c51 ?_
        refine w_iconst (n := 32) (v := 0) (x := 0) (by decide +kernel) rfl (by decide) ?_
        refine w_iconst (n := 33) (v := 2) (x := 2) (by decide +kernel) rfl (by decide) ?_
        obtain ⟨v24, M23, hLM23, hr36, h⟩ := h
        refine w_cV (n := 36) (idx := 257) (cal := 156) (na := 2) (nl := 3) (as := [.int 0, .int 2]) (rest := []) hLM21 (by decide +kernel) (by decide +kernel) (at_483) (by decide +kernel) rfl rfl rfl (Nat.le_of_ble_eq_true rfl) rfl hr36 ?_
        by_cases c35 : v24 = 0
        · rw [if_pos c35] at h
          refine w_if_ne_n (n := 39) (off := 5) (by decide +kernel) rfl c35 ?_
          refine w_iconst (n := 40) (v := 0) (x := 0) (by decide +kernel) rfl (by decide) ?_
          subst h
          exact w_ireturn (by decide +kernel) (w_okI (by decide +kernel))
        · rw [if_neg c35] at h
          refine w_if_ne_j (n := 41) (off := 5) (by decide +kernel) (by decide) c35 ?_
          refine w_aload_n (n := 42) (i := 0) (by decide +kernel) rfl rfl ?_
          obtain ⟨M25, hLM25, hr34, h⟩ := h
          refine w_cV (n := 45) (idx := 291) (cal := 166) (na := 0) (nl := 1) (as := []) (rest := []) hLM23 (by decide +kernel) (by decide +kernel) (at_483) (by decide +kernel) rfl rfl rfl (Nat.le_of_ble_eq_true rfl) rfl hr34 ?_
          refine w_aload_n (n := 46) (i := 0) (by decide +kernel) rfl rfl ?_
          refine w_iload_n (n := 47) (i := 3) (by decide +kernel) rfl rfl ?_
          obtain ⟨M26, hLM26, hr33, h⟩ := h
          refine w_cV (n := 50) (idx := 294) (cal := 213) (na := 1) (nl := 2) (as := [.int x3]) (rest := []) hLM25 (by decide +kernel) (by decide +kernel) (at_483) (by decide +kernel) rfl rfl rfl (Nat.le_of_ble_eq_true rfl) rfl hr33 ?_
          refine w_aload_n (n := 51) (i := 0) (by decide +kernel) rfl rfl ?_
          refine w_aload_n (n := 52) (i := 0) (by decide +kernel) rfl rfl ?_
          refine w_iload_n (n := 53) (i := 1) (by decide +kernel) rfl rfl ?_
          refine w_iload_n (n := 54) (i := 2) (by decide +kernel) rfl rfl ?_
          obtain ⟨v28, M27, hLM27, hr32, h⟩ := h
          refine w_cV (n := 57) (idx := 92) (cal := 171) (na := 2) (nl := 3) (as := [.int x1, .int x2]) (rest := [.ref 483]) hLM26 (by decide +kernel) (by decide +kernel) (at_483) (by decide +kernel) rfl rfl rfl (Nat.le_of_ble_eq_true rfl) rfl hr32 ?_
          obtain ⟨v30, M29, hLM29, hr31, h⟩ := h
          refine w_cV (n := 60) (idx := 297) (cal := 167) (na := 1) (nl := 2) (as := [.int v28]) (rest := []) hLM27 (by decide +kernel) (by decide +kernel) (at_483) (by decide +kernel) rfl rfl rfl (Nat.le_of_ble_eq_true rfl) rfl hr31 ?_
          subst h
          exact w_ireturn (by decide +kernel) (w_okI (by decide +kernel))
      · rw [if_neg c51] at h
        refine w_if_eq_n (n := 27) (off := 7) (by decide +kernel) rfl c51 ?_
        refine w_iconst (n := 28) (v := 1) (x := 1) (by decide +kernel) rfl (by decide) ?_
        refine w_goto (n := 32) (off := 4) (by decide +kernel) (by decide) ?_
        refine w_iconst (n := 33) (v := 2) (x := 2) (by decide +kernel) rfl (by decide) ?_
        obtain ⟨v38, M37, hLM37, hr50, h⟩ := h
        refine w_cV (n := 36) (idx := 257) (cal := 156) (na := 2) (nl := 3) (as := [.int 1, .int 2]) (rest := []) hLM21 (by decide +kernel) (by decide +kernel) (at_483) (by decide +kernel) rfl rfl rfl (Nat.le_of_ble_eq_true rfl) rfl hr50 ?_
        by_cases c49 : v38 = 0
        · rw [if_pos c49] at h
          refine w_if_ne_n (n := 39) (off := 5) (by decide +kernel) rfl c49 ?_
          refine w_iconst (n := 40) (v := 0) (x := 0) (by decide +kernel) rfl (by decide) ?_
          subst h
          exact w_ireturn (by decide +kernel) (w_okI (by decide +kernel))
        · rw [if_neg c49] at h
          refine w_if_ne_j (n := 41) (off := 5) (by decide +kernel) (by decide) c49 ?_
          refine w_aload_n (n := 42) (i := 0) (by decide +kernel) rfl rfl ?_
          obtain ⟨M39, hLM39, hr48, h⟩ := h
          refine w_cV (n := 45) (idx := 291) (cal := 166) (na := 0) (nl := 1) (as := []) (rest := []) hLM37 (by decide +kernel) (by decide +kernel) (at_483) (by decide +kernel) rfl rfl rfl (Nat.le_of_ble_eq_true rfl) rfl hr48 ?_
          refine w_aload_n (n := 46) (i := 0) (by decide +kernel) rfl rfl ?_
          refine w_iload_n (n := 47) (i := 3) (by decide +kernel) rfl rfl ?_
          obtain ⟨M40, hLM40, hr47, h⟩ := h
          refine w_cV (n := 50) (idx := 294) (cal := 213) (na := 1) (nl := 2) (as := [.int x3]) (rest := []) hLM39 (by decide +kernel) (by decide +kernel) (at_483) (by decide +kernel) rfl rfl rfl (Nat.le_of_ble_eq_true rfl) rfl hr47 ?_
          refine w_aload_n (n := 51) (i := 0) (by decide +kernel) rfl rfl ?_
          refine w_aload_n (n := 52) (i := 0) (by decide +kernel) rfl rfl ?_
          refine w_iload_n (n := 53) (i := 1) (by decide +kernel) rfl rfl ?_
          refine w_iload_n (n := 54) (i := 2) (by decide +kernel) rfl rfl ?_
          obtain ⟨v42, M41, hLM41, hr46, h⟩ := h
          refine w_cV (n := 57) (idx := 92) (cal := 171) (na := 2) (nl := 3) (as := [.int x1, .int x2]) (rest := [.ref 483]) hLM40 (by decide +kernel) (by decide +kernel) (at_483) (by decide +kernel) rfl rfl rfl (Nat.le_of_ble_eq_true rfl) rfl hr46 ?_
          obtain ⟨v44, M43, hLM43, hr45, h⟩ := h
          refine w_cV (n := 60) (idx := 297) (cal := 167) (na := 1) (nl := 2) (as := [.int v42]) (rest := []) hLM41 (by decide +kernel) (by decide +kernel) (at_483) (by decide +kernel) rfl rfl rfl (Nat.le_of_ble_eq_true rfl) rfl hr45 ?_
          subst h
          exact w_ireturn (by decide +kernel) (w_okI (by decide +kernel))
theorem t_247 {X : ak_X} {M : ak_M} {r : ak_O × ak_M} (hL : ab_lay M) (x1 : Int32) (x2 : Int32) (x3 : Int32) (h : (if x1 = 0 then (∃ (v2 : Int32) (M1 : ak_M), ab_lay M1 ∧ rn X 176 [.ref 483, .int x2] M (.inl (some (.int v2)), M1) ∧ (if v2 = 0 then r = (.inl (some (.int 1)), M1) else r = (.inl (some (.int 0)), M1))) else (if x1 = 1 then (∃ (v6 : Int32) (M5 : ak_M), ab_lay M5 ∧ rn X 175 [.ref 483, .int x2] M (.inl (some (.int v6)), M5) ∧ (if v6 = 0 then (∃ (v8 : Int32) (M7 : ak_M), ab_lay M7 ∧ rn X 171 [.ref 483, .int x2, .int 0] M5 (.inl (some (.int v8)), M7) ∧ (if v8 = 2 then r = (.inl (some (.int 0)), M7) else r = (.inl (some (.int 1)), M7))) else r = (.inl (some (.int 0)), M5))) else (∃ (v14 : Int32) (M13 : ak_M), ab_lay M13 ∧ rn X 192 [.ref 483, .int x2, .int x3] M (.inl (some (.int v14)), M13) ∧ ((v14 = 0 ∨ v14 = 1) ∧ r = (.inl (some (.int v14)), M13)))))) : rn X 247 [.ref 483, .int x1, .int x2, .int x3] M r := by
  refine w_rn (nL := 4) (l1 := [some (.ref 483), some (.int x1), some (.int x2), some (.int x3)]) (by decide +kernel) rfl rfl ?_
  refine w_iload_n (n := 1) (i := 1) (by decide +kernel) rfl rfl ?_
  by_cases c17 : x1 = 0
  · rw [if_pos c17] at h
    refine w_lsw (n := 28) (d := 65) (ps := #[(0, 27), (1, 41)]) (o := 27) (by decide +kernel) (by decide) (by rw [c17]; decide) (by decide) ?_
    refine w_aload_n (n := 29) (i := 0) (by decide +kernel) rfl rfl ?_
    refine w_iload_n (n := 30) (i := 2) (by decide +kernel) rfl rfl ?_
    obtain ⟨v2, M1, hLM1, hr4, h⟩ := h
    refine w_cV (n := 33) (idx := 185) (cal := 176) (na := 1) (nl := 2) (as := [.int x2]) (rest := []) hL (by decide +kernel) (by decide +kernel) (at_483) (by decide +kernel) rfl rfl rfl (Nat.le_of_ble_eq_true rfl) rfl hr4 ?_
    by_cases c3 : v2 = 0
    · rw [if_pos c3] at h
      refine w_if_ne_n (n := 36) (off := 7) (by decide +kernel) rfl c3 ?_
      refine w_iconst (n := 37) (v := 1) (x := 1) (by decide +kernel) rfl (by decide) ?_
      refine w_goto (n := 41) (off := 4) (by decide +kernel) (by decide) ?_
      subst h
      exact w_ireturn (by decide +kernel) (by decide +kernel)
    · rw [if_neg c3] at h
      refine w_if_ne_j (n := 40) (off := 7) (by decide +kernel) (by decide) c3 ?_
      refine w_iconst (n := 41) (v := 0) (x := 0) (by decide +kernel) rfl (by decide) ?_
      subst h
      exact w_ireturn (by decide +kernel) (by decide +kernel)
  · rw [if_neg c17] at h
    by_cases c18 : x1 = 1
    · rw [if_pos c18] at h
      refine w_lsw (n := 42) (d := 65) (ps := #[(0, 27), (1, 41)]) (o := 41) (by decide +kernel) (by decide) (by rw [c18]; decide) (by decide) ?_
      refine w_aload_n (n := 43) (i := 0) (by decide +kernel) rfl rfl ?_
      refine w_iload_n (n := 44) (i := 2) (by decide +kernel) rfl rfl ?_
      obtain ⟨v6, M5, hLM5, hr12, h⟩ := h
      refine w_cV (n := 47) (idx := 99) (cal := 175) (na := 1) (nl := 2) (as := [.int x2]) (rest := []) hL (by decide +kernel) (by decide +kernel) (at_483) (by decide +kernel) rfl rfl rfl (Nat.le_of_ble_eq_true rfl) rfl hr12 ?_
      by_cases c11 : v6 = 0
      · rw [if_pos c11] at h
        refine w_if_ne_n (n := 50) (off := 17) (by decide +kernel) rfl c11 ?_
        refine w_aload_n (n := 51) (i := 0) (by decide +kernel) rfl rfl ?_
        refine w_iload_n (n := 52) (i := 2) (by decide +kernel) rfl rfl ?_
        refine w_iconst (n := 53) (v := 0) (x := 0) (by decide +kernel) rfl (by decide) ?_
        obtain ⟨v8, M7, hLM7, hr10, h⟩ := h
        refine w_cV (n := 56) (idx := 92) (cal := 171) (na := 2) (nl := 3) (as := [.int x2, .int 0]) (rest := []) hLM5 (by decide +kernel) (by decide +kernel) (at_483) (by decide +kernel) rfl rfl rfl (Nat.le_of_ble_eq_true rfl) rfl hr10 ?_
        refine w_iconst (n := 57) (v := 2) (x := 2) (by decide +kernel) rfl (by decide) ?_
        by_cases c9 : v8 = 2
        · rw [if_pos c9] at h
          refine w_icmp_eq_j (n := 64) (off := 7) (by decide +kernel) (by decide) c9 ?_
          refine w_iconst (n := 65) (v := 0) (x := 0) (by decide +kernel) rfl (by decide) ?_
          subst h
          exact w_ireturn (by decide +kernel) (by decide +kernel)
        · rw [if_neg c9] at h
          refine w_icmp_eq_n (n := 60) (off := 7) (by decide +kernel) rfl c9 ?_
          refine w_iconst (n := 61) (v := 1) (x := 1) (by decide +kernel) rfl (by decide) ?_
          refine w_goto (n := 65) (off := 4) (by decide +kernel) (by decide) ?_
          subst h
          exact w_ireturn (by decide +kernel) (by decide +kernel)
      · rw [if_neg c11] at h
        refine w_if_ne_j (n := 64) (off := 17) (by decide +kernel) (by decide) c11 ?_
        refine w_iconst (n := 65) (v := 0) (x := 0) (by decide +kernel) rfl (by decide) ?_
        subst h
        exact w_ireturn (by decide +kernel) (by decide +kernel)
    · rw [if_neg c18] at h
      refine w_lsw (n := 66) (d := 65) (ps := #[(0, 27), (1, 41)]) (o := 65) (by decide +kernel) (by decide) ((lv_osw c17 (by decide)).trans ((lv_osw c18 (by decide)).trans rfl)) (by decide) ?_
      refine w_aload_n (n := 67) (i := 0) (by decide +kernel) rfl rfl ?_
      refine w_iload_n (n := 68) (i := 2) (by decide +kernel) rfl rfl ?_
      refine w_iload_n (n := 69) (i := 3) (by decide +kernel) rfl rfl ?_
      obtain ⟨v14, M13, hLM13, hr16, h⟩ := h
      refine w_cV (n := 72) (idx := 167) (cal := 192) (na := 2) (nl := 3) (as := [.int x2, .int x3]) (rest := []) hL (by decide +kernel) (by decide +kernel) (at_483) (by decide +kernel) rfl rfl rfl (Nat.le_of_ble_eq_true rfl) rfl hr16 ?_
      obtain ⟨g15, rfl⟩ := h
      exact w_ireturn (by decide +kernel) (w_okZ (by decide +kernel) g15)
theorem t_248 {X : ak_X} {M : ak_M} {r : ak_O × ak_M} (hL : ab_lay M) (x1 : Int32) (x2 : Int32) (x3 : Int32) (x4 : Int32) (h : (∃ (M1 : ak_M), ab_lay M1 ∧ rn X 166 [.ref 483] M (.inl (none), M1) ∧ sg X 248 (7, [some (.ref 483), some (.int x1), some (.int x2), some (.int x3), some (.int x4), some (.int 0)], [], []) M1 r)) : rn X 248 [.ref 483, .int x1, .int x2, .int x3, .int x4] M r := by
  refine w_rn (nL := 6) (l1 := [some (.ref 483), some (.int x1), some (.int x2), some (.int x3), some (.int x4), none]) (by decide +kernel) rfl rfl ?_
  refine w_aload_n (n := 1) (i := 0) (by decide +kernel) rfl rfl ?_
  obtain ⟨M1, hLM1, hr2, h⟩ := h
  refine w_cV (n := 4) (idx := 291) (cal := 166) (na := 0) (nl := 1) (as := []) (rest := []) hL (by decide +kernel) (by decide +kernel) (at_483) (by decide +kernel) rfl rfl rfl (Nat.le_of_ble_eq_true rfl) rfl hr2 ?_
  refine w_iconst (n := 5) (v := 0) (x := 0) (by decide +kernel) rfl (by decide) ?_
  refine w_istore (n := 7) (i := 5) (l1' := [some (.ref 483), some (.int x1), some (.int x2), some (.int x3), some (.int x4), some (.int 0)]) (l2' := []) (by decide +kernel) rfl (Nat.le_of_ble_eq_true rfl) rfl rfl ?_
  exact h
theorem t_248_7 {X : ak_X} {M : ak_M} {r : ak_O × ak_M} (hL : ab_lay M) (x1 : Int32) (x2 : Int32) (x3 : Int32) (x4 : Int32) (y5 : Int32) (h : (if x4 ≤ y5 then (∃ (v4 : Int32) (M3 : ak_M), ab_lay M3 ∧ rn X 247 [.ref 483, .int x1, .int x2, .int x3] M (.inl (some (.int v4)), M3) ∧ (if v4 = 0 then (∃ (v6 : Int32) (M5 : ak_M), ab_lay M5 ∧ rn X 167 [.ref 483, .int ((-1))] M3 (.inl (some (.int v6)), M5) ∧ r = (.inl (some (.int v6)), M5)) else (∃ (v9 : Int32) (M8 : ak_M), ab_lay M8 ∧ rn X 167 [.ref 483, .int y5] M3 (.inl (some (.int v9)), M8) ∧ r = (.inl (some (.int v9)), M8)))) else (∃ i13 : Nat, ab_ix 0 i13 245 ∧ (if 5000 ≤ ak_I M 484 i13 then (∃ (v15 : Int32) (M14 : ak_M), ab_lay M14 ∧ rn X 247 [.ref 483, .int x1, .int x2, .int x3] M (.inl (some (.int v15)), M14) ∧ (if v15 = 0 then (∃ (v17 : Int32) (M16 : ak_M), ab_lay M16 ∧ rn X 167 [.ref 483, .int ((-1))] M14 (.inl (some (.int v17)), M16) ∧ r = (.inl (some (.int v17)), M16)) else (∃ (v20 : Int32) (M19 : ak_M), ab_lay M19 ∧ rn X 167 [.ref 483, .int y5] M14 (.inl (some (.int v20)), M19) ∧ r = (.inl (some (.int v20)), M19)))) else (∃ (v25 : Int32) (M24 : ak_M), ab_lay M24 ∧ rn X 247 [.ref 483, .int x1, .int x2, .int x3] M (.inl (some (.int v25)), M24) ∧ (if v25 = 0 then (∃ (M36 : ak_M), ab_lay M36 ∧ rn X 212 [.ref 483] M24 (.inl (none), M36) ∧ sg X 248 (7, [some (.ref 483), some (.int x1), some (.int x2), some (.int x3), some (.int x4), some (.int (y5 + 1))], [], []) M36 r) else (∃ (v27 : Int32) (M26 : ak_M), ab_lay M26 ∧ rn X 247 [.ref 483, .int x1, .int x2, .int x3] M24 (.inl (some (.int v27)), M26) ∧ (if v27 = 0 then (∃ (v29 : Int32) (M28 : ak_M), ab_lay M28 ∧ rn X 167 [.ref 483, .int ((-1))] M26 (.inl (some (.int v29)), M28) ∧ r = (.inl (some (.int v29)), M28)) else (∃ (v32 : Int32) (M31 : ak_M), ab_lay M31 ∧ rn X 167 [.ref 483, .int y5] M26 (.inl (some (.int v32)), M31) ∧ r = (.inl (some (.int v32)), M31)))))))))) : sg X 248 (7, [some (.ref 483), some (.int x1), some (.int x2), some (.int x3), some (.int x4), some (.int y5)], [], []) M r := by
  refine w_iload (n := 9) (i := 5) (by decide +kernel) rfl rfl ?_
  refine w_iload (n := 11) (i := 4) (by decide +kernel) rfl rfl ?_
  by_cases c41 : x4 ≤ y5
  · rw [if_pos c41] at h
    refine w_icmp_ge_j (n := 49) (off := 38) (by decide +kernel) (by decide) c41 ?_
    refine w_aload_n (n := 50) (i := 0) (by decide +kernel) rfl rfl ?_
    refine w_aload_n (n := 51) (i := 0) (by decide +kernel) rfl rfl ?_
    refine w_iload_n (n := 52) (i := 1) (by decide +kernel) rfl rfl ?_
    refine w_iload_n (n := 53) (i := 2) (by decide +kernel) rfl rfl ?_
    refine w_iload_n (n := 54) (i := 3) (by decide +kernel) rfl rfl ?_
    obtain ⟨v4, M3, hLM3, hr12, h⟩ := h
    refine w_cV (n := 57) (idx := 300) (cal := 247) (na := 3) (nl := 4) (as := [.int x1, .int x2, .int x3]) (rest := [.ref 483]) hL (by decide +kernel) (by decide +kernel) (at_483) (by decide +kernel) rfl rfl rfl (Nat.le_of_ble_eq_true rfl) rfl hr12 ?_
    by_cases c11 : v4 = 0
    · rw [if_pos c11] at h
      refine w_if_eq_j (n := 65) (off := 8) (by decide +kernel) (by decide) c11 ?_
      refine w_iconst (n := 66) (v := -1) (x := (-1)) (by decide +kernel) rfl (by decide) ?_
      obtain ⟨v6, M5, hLM5, hr7, h⟩ := h
      refine w_cV (n := 69) (idx := 297) (cal := 167) (na := 1) (nl := 2) (as := [.int ((-1))]) (rest := []) hLM3 (by decide +kernel) (by decide +kernel) (at_483) (by decide +kernel) rfl rfl rfl (Nat.le_of_ble_eq_true rfl) rfl hr7 ?_
      subst h
      exact w_ireturn (by decide +kernel) (w_okI (by decide +kernel))
    · rw [if_neg c11] at h
      refine w_if_eq_n (n := 60) (off := 8) (by decide +kernel) rfl c11 ?_
      refine w_iload (n := 62) (i := 5) (by decide +kernel) rfl rfl ?_
      refine w_goto (n := 66) (off := 4) (by decide +kernel) (by decide) ?_
      obtain ⟨v9, M8, hLM8, hr10, h⟩ := h
      refine w_cV (n := 69) (idx := 297) (cal := 167) (na := 1) (nl := 2) (as := [.int y5]) (rest := []) hLM3 (by decide +kernel) (by decide +kernel) (at_483) (by decide +kernel) rfl rfl rfl (Nat.le_of_ble_eq_true rfl) rfl hr10 ?_
      subst h
      exact w_ireturn (by decide +kernel) (w_okI (by decide +kernel))
  · rw [if_neg c41] at h
    refine w_icmp_ge_n (n := 14) (off := 38) (by decide +kernel) rfl c41 ?_
    refine w_aload_n (n := 15) (i := 0) (by decide +kernel) rfl rfl ?_
    refine w_getR (n := 18) hL (by decide +kernel) oO_248 fF_12_7 (at_483) (by decide) (ar_483_1) rfl ?_
    refine w_iconst (n := 19) (v := 0) (x := 0) (by decide +kernel) rfl (by decide) ?_
    obtain ⟨i13, gi13, h⟩ := h
    refine w_iald (n := 20) hL (by decide +kernel) (at_484) (an_484) gi13 rfl ?_
    refine w_sipush (n := 23) (v := 5000) (x := 5000) (by decide +kernel) rfl (by decide) ?_
    by_cases c40 : 5000 ≤ ak_I M 484 i13
    · rw [if_pos c40] at h
      refine w_icmp_ge_j (n := 49) (off := 26) (by decide +kernel) (by decide) c40 ?_
      refine w_aload_n (n := 50) (i := 0) (by decide +kernel) rfl rfl ?_
      refine w_aload_n (n := 51) (i := 0) (by decide +kernel) rfl rfl ?_
      refine w_iload_n (n := 52) (i := 1) (by decide +kernel) rfl rfl ?_
      refine w_iload_n (n := 53) (i := 2) (by decide +kernel) rfl rfl ?_
      refine w_iload_n (n := 54) (i := 3) (by decide +kernel) rfl rfl ?_
      obtain ⟨v15, M14, hLM14, hr23, h⟩ := h
      refine w_cV (n := 57) (idx := 300) (cal := 247) (na := 3) (nl := 4) (as := [.int x1, .int x2, .int x3]) (rest := [.ref 483]) hL (by decide +kernel) (by decide +kernel) (at_483) (by decide +kernel) rfl rfl rfl (Nat.le_of_ble_eq_true rfl) rfl hr23 ?_
      by_cases c22 : v15 = 0
      · rw [if_pos c22] at h
        refine w_if_eq_j (n := 65) (off := 8) (by decide +kernel) (by decide) c22 ?_
        refine w_iconst (n := 66) (v := -1) (x := (-1)) (by decide +kernel) rfl (by decide) ?_
        obtain ⟨v17, M16, hLM16, hr18, h⟩ := h
        refine w_cV (n := 69) (idx := 297) (cal := 167) (na := 1) (nl := 2) (as := [.int ((-1))]) (rest := []) hLM14 (by decide +kernel) (by decide +kernel) (at_483) (by decide +kernel) rfl rfl rfl (Nat.le_of_ble_eq_true rfl) rfl hr18 ?_
        subst h
        exact w_ireturn (by decide +kernel) (w_okI (by decide +kernel))
      · rw [if_neg c22] at h
        refine w_if_eq_n (n := 60) (off := 8) (by decide +kernel) rfl c22 ?_
        refine w_iload (n := 62) (i := 5) (by decide +kernel) rfl rfl ?_
        refine w_goto (n := 66) (off := 4) (by decide +kernel) (by decide) ?_
        obtain ⟨v20, M19, hLM19, hr21, h⟩ := h
        refine w_cV (n := 69) (idx := 297) (cal := 167) (na := 1) (nl := 2) (as := [.int y5]) (rest := []) hLM14 (by decide +kernel) (by decide +kernel) (at_483) (by decide +kernel) rfl rfl rfl (Nat.le_of_ble_eq_true rfl) rfl hr21 ?_
        subst h
        exact w_ireturn (by decide +kernel) (w_okI (by decide +kernel))
    · rw [if_neg c40] at h
      refine w_icmp_ge_n (n := 26) (off := 26) (by decide +kernel) rfl c40 ?_
      refine w_aload_n (n := 27) (i := 0) (by decide +kernel) rfl rfl ?_
      refine w_iload_n (n := 28) (i := 1) (by decide +kernel) rfl rfl ?_
      refine w_iload_n (n := 29) (i := 2) (by decide +kernel) rfl rfl ?_
      refine w_iload_n (n := 30) (i := 3) (by decide +kernel) rfl rfl ?_
      obtain ⟨v25, M24, hLM24, hr39, h⟩ := h
      refine w_cV (n := 33) (idx := 300) (cal := 247) (na := 3) (nl := 4) (as := [.int x1, .int x2, .int x3]) (rest := []) hL (by decide +kernel) (by decide +kernel) (at_483) (by decide +kernel) rfl rfl rfl (Nat.le_of_ble_eq_true rfl) rfl hr39 ?_
      by_cases c38 : v25 = 0
      · rw [if_pos c38] at h
        refine w_if_ne_n (n := 36) (off := 16) (by decide +kernel) rfl c38 ?_
        refine w_aload_n (n := 37) (i := 0) (by decide +kernel) rfl rfl ?_
        obtain ⟨M36, hLM36, hr37, h⟩ := h
        refine w_cV (n := 40) (idx := 240) (cal := 212) (na := 0) (nl := 1) (as := []) (rest := []) hLM24 (by decide +kernel) (by decide +kernel) (at_483) (by decide +kernel) rfl rfl rfl (Nat.le_of_ble_eq_true rfl) rfl hr37 ?_
        refine w_iload (n := 42) (i := 5) (by decide +kernel) rfl rfl ?_
        refine w_iconst (n := 43) (v := 1) (x := 1) (by decide +kernel) rfl (by decide) ?_
        refine w_iadd (n := 44) (by decide +kernel) rfl ?_
        refine w_istore (n := 46) (i := 5) (l1' := [some (.ref 483), some (.int x1), some (.int x2), some (.int x3), some (.int x4), some (.int (y5 + 1))]) (l2' := []) (by decide +kernel) rfl (Nat.le_of_ble_eq_true rfl) rfl rfl ?_
        refine w_goto (n := 7) (off := (-39)) (by decide +kernel) (by decide) ?_
        exact h
      · rw [if_neg c38] at h
        refine w_if_ne_j (n := 49) (off := 16) (by decide +kernel) (by decide) c38 ?_
        refine w_aload_n (n := 50) (i := 0) (by decide +kernel) rfl rfl ?_
        refine w_aload_n (n := 51) (i := 0) (by decide +kernel) rfl rfl ?_
        refine w_iload_n (n := 52) (i := 1) (by decide +kernel) rfl rfl ?_
        refine w_iload_n (n := 53) (i := 2) (by decide +kernel) rfl rfl ?_
        refine w_iload_n (n := 54) (i := 3) (by decide +kernel) rfl rfl ?_
        obtain ⟨v27, M26, hLM26, hr35, h⟩ := h
        refine w_cV (n := 57) (idx := 300) (cal := 247) (na := 3) (nl := 4) (as := [.int x1, .int x2, .int x3]) (rest := [.ref 483]) hLM24 (by decide +kernel) (by decide +kernel) (at_483) (by decide +kernel) rfl rfl rfl (Nat.le_of_ble_eq_true rfl) rfl hr35 ?_
        by_cases c34 : v27 = 0
        · rw [if_pos c34] at h
          refine w_if_eq_j (n := 65) (off := 8) (by decide +kernel) (by decide) c34 ?_
          refine w_iconst (n := 66) (v := -1) (x := (-1)) (by decide +kernel) rfl (by decide) ?_
          obtain ⟨v29, M28, hLM28, hr30, h⟩ := h
          refine w_cV (n := 69) (idx := 297) (cal := 167) (na := 1) (nl := 2) (as := [.int ((-1))]) (rest := []) hLM26 (by decide +kernel) (by decide +kernel) (at_483) (by decide +kernel) rfl rfl rfl (Nat.le_of_ble_eq_true rfl) rfl hr30 ?_
          subst h
          exact w_ireturn (by decide +kernel) (w_okI (by decide +kernel))
        · rw [if_neg c34] at h
          refine w_if_eq_n (n := 60) (off := 8) (by decide +kernel) rfl c34 ?_
          refine w_iload (n := 62) (i := 5) (by decide +kernel) rfl rfl ?_
          refine w_goto (n := 66) (off := 4) (by decide +kernel) (by decide) ?_
          obtain ⟨v32, M31, hLM31, hr33, h⟩ := h
          refine w_cV (n := 69) (idx := 297) (cal := 167) (na := 1) (nl := 2) (as := [.int y5]) (rest := []) hLM26 (by decide +kernel) (by decide +kernel) (at_483) (by decide +kernel) rfl rfl rfl (Nat.le_of_ble_eq_true rfl) rfl hr33 ?_
          subst h
          exact w_ireturn (by decide +kernel) (w_okI (by decide +kernel))
theorem t_249 {X : ak_X} {M : ak_M} {r : ak_O × ak_M} (hL : ab_lay M) (x1 : Int32) (x2 : Int32) (h : (∃ (v2 : Int32) (M1 : ak_M), ab_lay M1 ∧ rn X 169 [.ref 483, .int x1] M (.inl (some (.int v2)), M1) ∧ (∃ (v4 : Int32) (M3 : ak_M), ab_lay M3 ∧ rn X 155 [.ref 483, .int v2] M1 (.inl (some (.int v4)), M3) ∧ (if v4 = 0 then r = (.inl (some (.int 0)), M3) else (∃ (v6 : Int32) (M5 : ak_M), ab_lay M5 ∧ rn X 245 [.int x2] M3 (.inl (some (.int v6)), M5) ∧ (∃ (v8 : Int32) (M7 : ak_M), ab_lay M7 ∧ rn X 156 [.ref 483, .int v6, .int 2] M5 (.inl (some (.int v8)), M7) ∧ (if v8 = 0 then r = (.inl (some (.int 0)), M7) else (∃ (v10 : Int32) (M9 : ak_M), ab_lay M9 ∧ rn X 248 [.ref 483, .int 0, .int x1, .int x1, .int x2] M7 (.inl (some (.int v10)), M9) ∧ r = (.inl (some (.int v10)), M9))))))))) : rn X 249 [.ref 483, .int x1, .int x2] M r := by
  refine w_rn (nL := 3) (l1 := [some (.ref 483), some (.int x1), some (.int x2)]) (by decide +kernel) rfl rfl ?_
  refine w_aload_n (n := 1) (i := 0) (by decide +kernel) rfl rfl ?_
  refine w_aload_n (n := 2) (i := 0) (by decide +kernel) rfl rfl ?_
  refine w_iload_n (n := 3) (i := 1) (by decide +kernel) rfl rfl ?_
  obtain ⟨v2, M1, hLM1, hr17, h⟩ := h
  refine w_cV (n := 6) (idx := 88) (cal := 169) (na := 1) (nl := 2) (as := [.int x1]) (rest := [.ref 483]) hL (by decide +kernel) (by decide +kernel) (at_483) (by decide +kernel) rfl rfl rfl (Nat.le_of_ble_eq_true rfl) rfl hr17 ?_
  obtain ⟨v4, M3, hLM3, hr16, h⟩ := h
  refine w_cV (n := 9) (idx := 72) (cal := 155) (na := 1) (nl := 2) (as := [.int v2]) (rest := []) hLM1 (by decide +kernel) (by decide +kernel) (at_483) (by decide +kernel) rfl rfl rfl (Nat.le_of_ble_eq_true rfl) rfl hr16 ?_
  by_cases c15 : v4 = 0
  · rw [if_pos c15] at h
    refine w_if_eq_j (n := 35) (off := 26) (by decide +kernel) (by decide) c15 ?_
    refine w_iconst (n := 36) (v := 0) (x := 0) (by decide +kernel) rfl (by decide) ?_
    subst h
    exact w_ireturn (by decide +kernel) (w_okI (by decide +kernel))
  · rw [if_neg c15] at h
    refine w_if_eq_n (n := 12) (off := 26) (by decide +kernel) rfl c15 ?_
    refine w_aload_n (n := 13) (i := 0) (by decide +kernel) rfl rfl ?_
    refine w_iload_n (n := 14) (i := 2) (by decide +kernel) rfl rfl ?_
    obtain ⟨v6, M5, hLM5, hr14, h⟩ := h
    refine w_cS (n := 17) (idx := 288) (cal := 245) (na := 1) (nl := 1) (as := [.int x2]) (rest := [.ref 483]) (by decide +kernel) (by decide +kernel) rfl rfl rfl (Nat.le_of_ble_eq_true rfl) rfl hr14 ?_
    refine w_iconst (n := 18) (v := 2) (x := 2) (by decide +kernel) rfl (by decide) ?_
    obtain ⟨v8, M7, hLM7, hr13, h⟩ := h
    refine w_cV (n := 21) (idx := 257) (cal := 156) (na := 2) (nl := 3) (as := [.int v6, .int 2]) (rest := []) hLM5 (by decide +kernel) (by decide +kernel) (at_483) (by decide +kernel) rfl rfl rfl (Nat.le_of_ble_eq_true rfl) rfl hr13 ?_
    by_cases c12 : v8 = 0
    · rw [if_pos c12] at h
      refine w_if_eq_j (n := 35) (off := 14) (by decide +kernel) (by decide) c12 ?_
      refine w_iconst (n := 36) (v := 0) (x := 0) (by decide +kernel) rfl (by decide) ?_
      subst h
      exact w_ireturn (by decide +kernel) (w_okI (by decide +kernel))
    · rw [if_neg c12] at h
      refine w_if_eq_n (n := 24) (off := 14) (by decide +kernel) rfl c12 ?_
      refine w_aload_n (n := 25) (i := 0) (by decide +kernel) rfl rfl ?_
      refine w_iconst (n := 26) (v := 0) (x := 0) (by decide +kernel) rfl (by decide) ?_
      refine w_iload_n (n := 27) (i := 1) (by decide +kernel) rfl rfl ?_
      refine w_iload_n (n := 28) (i := 1) (by decide +kernel) rfl rfl ?_
      refine w_iload_n (n := 29) (i := 2) (by decide +kernel) rfl rfl ?_
      obtain ⟨v10, M9, hLM9, hr11, h⟩ := h
      refine w_cV (n := 32) (idx := 304) (cal := 248) (na := 4) (nl := 5) (as := [.int 0, .int x1, .int x1, .int x2]) (rest := []) hLM7 (by decide +kernel) (by decide +kernel) (at_483) (by decide +kernel) rfl rfl rfl (Nat.le_of_ble_eq_true rfl) rfl hr11 ?_
      refine w_goto (n := 36) (off := 4) (by decide +kernel) (by decide) ?_
      subst h
      exact w_ireturn (by decide +kernel) (w_okI (by decide +kernel))
theorem t_250 {X : ak_X} {M : ak_M} {r : ak_O × ak_M} (hL : ab_lay M) (x1 : Int32) (x2 : Int32) (x3 : Int32) (h : (∃ (v2 : Int32) (M1 : ak_M), ab_lay M1 ∧ rn X 170 [.ref 483, .int x1, .int x2] M (.inl (some (.int v2)), M1) ∧ (∃ (v4 : Int32) (M3 : ak_M), ab_lay M3 ∧ rn X 155 [.ref 483, .int v2] M1 (.inl (some (.int v4)), M3) ∧ (if v4 = 0 then r = (.inl (some (.int 0)), M3) else (∃ (v6 : Int32) (M5 : ak_M), ab_lay M5 ∧ rn X 245 [.int x3] M3 (.inl (some (.int v6)), M5) ∧ (∃ (v8 : Int32) (M7 : ak_M), ab_lay M7 ∧ rn X 156 [.ref 483, .int v6, .int 2] M5 (.inl (some (.int v8)), M7) ∧ (if v8 = 0 then r = (.inl (some (.int 0)), M7) else (∃ (v10 : Int32) (M9 : ak_M), ab_lay M9 ∧ rn X 248 [.ref 483, .int 2, .int x1, .int x2, .int x3] M7 (.inl (some (.int v10)), M9) ∧ r = (.inl (some (.int v10)), M9))))))))) : rn X 250 [.ref 483, .int x1, .int x2, .int x3] M r := by
  refine w_rn (nL := 4) (l1 := [some (.ref 483), some (.int x1), some (.int x2), some (.int x3)]) (by decide +kernel) rfl rfl ?_
  refine w_aload_n (n := 1) (i := 0) (by decide +kernel) rfl rfl ?_
  refine w_aload_n (n := 2) (i := 0) (by decide +kernel) rfl rfl ?_
  refine w_iload_n (n := 3) (i := 1) (by decide +kernel) rfl rfl ?_
  refine w_iload_n (n := 4) (i := 2) (by decide +kernel) rfl rfl ?_
  obtain ⟨v2, M1, hLM1, hr17, h⟩ := h
  refine w_cV (n := 7) (idx := 265) (cal := 170) (na := 2) (nl := 3) (as := [.int x1, .int x2]) (rest := [.ref 483]) hL (by decide +kernel) (by decide +kernel) (at_483) (by decide +kernel) rfl rfl rfl (Nat.le_of_ble_eq_true rfl) rfl hr17 ?_
  obtain ⟨v4, M3, hLM3, hr16, h⟩ := h
  refine w_cV (n := 10) (idx := 72) (cal := 155) (na := 1) (nl := 2) (as := [.int v2]) (rest := []) hLM1 (by decide +kernel) (by decide +kernel) (at_483) (by decide +kernel) rfl rfl rfl (Nat.le_of_ble_eq_true rfl) rfl hr16 ?_
  by_cases c15 : v4 = 0
  · rw [if_pos c15] at h
    refine w_if_eq_j (n := 36) (off := 26) (by decide +kernel) (by decide) c15 ?_
    refine w_iconst (n := 37) (v := 0) (x := 0) (by decide +kernel) rfl (by decide) ?_
    subst h
    exact w_ireturn (by decide +kernel) (w_okI (by decide +kernel))
  · rw [if_neg c15] at h
    refine w_if_eq_n (n := 13) (off := 26) (by decide +kernel) rfl c15 ?_
    refine w_aload_n (n := 14) (i := 0) (by decide +kernel) rfl rfl ?_
    refine w_iload_n (n := 15) (i := 3) (by decide +kernel) rfl rfl ?_
    obtain ⟨v6, M5, hLM5, hr14, h⟩ := h
    refine w_cS (n := 18) (idx := 288) (cal := 245) (na := 1) (nl := 1) (as := [.int x3]) (rest := [.ref 483]) (by decide +kernel) (by decide +kernel) rfl rfl rfl (Nat.le_of_ble_eq_true rfl) rfl hr14 ?_
    refine w_iconst (n := 19) (v := 2) (x := 2) (by decide +kernel) rfl (by decide) ?_
    obtain ⟨v8, M7, hLM7, hr13, h⟩ := h
    refine w_cV (n := 22) (idx := 257) (cal := 156) (na := 2) (nl := 3) (as := [.int v6, .int 2]) (rest := []) hLM5 (by decide +kernel) (by decide +kernel) (at_483) (by decide +kernel) rfl rfl rfl (Nat.le_of_ble_eq_true rfl) rfl hr13 ?_
    by_cases c12 : v8 = 0
    · rw [if_pos c12] at h
      refine w_if_eq_j (n := 36) (off := 14) (by decide +kernel) (by decide) c12 ?_
      refine w_iconst (n := 37) (v := 0) (x := 0) (by decide +kernel) rfl (by decide) ?_
      subst h
      exact w_ireturn (by decide +kernel) (w_okI (by decide +kernel))
    · rw [if_neg c12] at h
      refine w_if_eq_n (n := 25) (off := 14) (by decide +kernel) rfl c12 ?_
      refine w_aload_n (n := 26) (i := 0) (by decide +kernel) rfl rfl ?_
      refine w_iconst (n := 27) (v := 2) (x := 2) (by decide +kernel) rfl (by decide) ?_
      refine w_iload_n (n := 28) (i := 1) (by decide +kernel) rfl rfl ?_
      refine w_iload_n (n := 29) (i := 2) (by decide +kernel) rfl rfl ?_
      refine w_iload_n (n := 30) (i := 3) (by decide +kernel) rfl rfl ?_
      obtain ⟨v10, M9, hLM9, hr11, h⟩ := h
      refine w_cV (n := 33) (idx := 304) (cal := 248) (na := 4) (nl := 5) (as := [.int 2, .int x1, .int x2, .int x3]) (rest := []) hLM7 (by decide +kernel) (by decide +kernel) (at_483) (by decide +kernel) rfl rfl rfl (Nat.le_of_ble_eq_true rfl) rfl hr11 ?_
      refine w_goto (n := 37) (off := 4) (by decide +kernel) (by decide) ?_
      subst h
      exact w_ireturn (by decide +kernel) (w_okI (by decide +kernel))
theorem t_251 {X : ak_X} {M : ak_M} {r : ak_O × ak_M} (hL : ab_lay M) (x1 : Int32) (h : (∃ (v2 : Int32) (M1 : ak_M), ab_lay M1 ∧ rn X 245 [.int x1] M (.inl (some (.int v2)), M1) ∧ (∃ (v4 : Int32) (M3 : ak_M), ab_lay M3 ∧ rn X 155 [.ref 483, .int v2] M1 (.inl (some (.int v4)), M3) ∧ (if v4 = 0 then r = (.inl (some (.int 0)), M3) else (∃ i5 : Nat, ab_ix 10 i5 245 ∧ (∃ (M6 : ak_M), ab_lay M6 ∧ rn X 166 [.ref 483] M3 (.inl (none), M6) ∧ (∃ (M7 : ak_M), ab_lay M7 ∧ rn X 213 [.ref 483, .int x1] M6 (.inl (none), M7) ∧ (∃ i8 : Nat, ab_ix 10 i8 245 ∧ (∃ (v10 : Int32) (M9 : ak_M), ab_lay M9 ∧ rn X 167 [.ref 483, .int ((ak_I M7 484 i8) - (ak_I M3 484 i5))] M7 (.inl (some (.int v10)), M9) ∧ r = (.inl (some (.int v10)), M9)))))))))) : rn X 251 [.ref 483, .int x1] M r := by
  refine w_rn (nL := 3) (l1 := [some (.ref 483), some (.int x1), none]) (by decide +kernel) rfl rfl ?_
  refine w_aload_n (n := 1) (i := 0) (by decide +kernel) rfl rfl ?_
  refine w_iload_n (n := 2) (i := 1) (by decide +kernel) rfl rfl ?_
  obtain ⟨v2, M1, hLM1, hr16, h⟩ := h
  refine w_cS (n := 5) (idx := 288) (cal := 245) (na := 1) (nl := 1) (as := [.int x1]) (rest := [.ref 483]) (by decide +kernel) (by decide +kernel) rfl rfl rfl (Nat.le_of_ble_eq_true rfl) rfl hr16 ?_
  obtain ⟨v4, M3, hLM3, hr15, h⟩ := h
  refine w_cV (n := 8) (idx := 72) (cal := 155) (na := 1) (nl := 2) (as := [.int v2]) (rest := []) hLM1 (by decide +kernel) (by decide +kernel) (at_483) (by decide +kernel) rfl rfl rfl (Nat.le_of_ble_eq_true rfl) rfl hr15 ?_
  by_cases c14 : v4 = 0
  · rw [if_pos c14] at h
    refine w_if_ne_n (n := 11) (off := 5) (by decide +kernel) rfl c14 ?_
    refine w_iconst (n := 12) (v := 0) (x := 0) (by decide +kernel) rfl (by decide) ?_
    subst h
    exact w_ireturn (by decide +kernel) (w_okI (by decide +kernel))
  · rw [if_neg c14] at h
    refine w_if_ne_j (n := 13) (off := 5) (by decide +kernel) (by decide) c14 ?_
    refine w_aload_n (n := 14) (i := 0) (by decide +kernel) rfl rfl ?_
    refine w_getR (n := 17) hLM3 (by decide +kernel) oO_251 fF_12_7 (at_483) (by decide) (ar_483_1) rfl ?_
    refine w_bipush (n := 19) (v := 10) (x := 10) (by decide +kernel) rfl (by decide) ?_
    obtain ⟨i5, gi5, h⟩ := h
    refine w_iald (n := 20) hLM3 (by decide +kernel) (at_484) (an_484) gi5 rfl ?_
    refine w_istore_n (n := 21) (i := 2) (l1' := [some (.ref 483), some (.int x1), some (.int (ak_I M3 484 i5))]) (l2' := []) (by decide +kernel) rfl (Nat.le_of_ble_eq_true rfl) rfl rfl ?_
    refine w_aload_n (n := 22) (i := 0) (by decide +kernel) rfl rfl ?_
    obtain ⟨M6, hLM6, hr13, h⟩ := h
    refine w_cV (n := 25) (idx := 291) (cal := 166) (na := 0) (nl := 1) (as := []) (rest := []) hLM3 (by decide +kernel) (by decide +kernel) (at_483) (by decide +kernel) rfl rfl rfl (Nat.le_of_ble_eq_true rfl) rfl hr13 ?_
    refine w_aload_n (n := 26) (i := 0) (by decide +kernel) rfl rfl ?_
    refine w_iload_n (n := 27) (i := 1) (by decide +kernel) rfl rfl ?_
    obtain ⟨M7, hLM7, hr12, h⟩ := h
    refine w_cV (n := 30) (idx := 294) (cal := 213) (na := 1) (nl := 2) (as := [.int x1]) (rest := []) hLM6 (by decide +kernel) (by decide +kernel) (at_483) (by decide +kernel) rfl rfl rfl (Nat.le_of_ble_eq_true rfl) rfl hr12 ?_
    refine w_aload_n (n := 31) (i := 0) (by decide +kernel) rfl rfl ?_
    refine w_aload_n (n := 32) (i := 0) (by decide +kernel) rfl rfl ?_
    refine w_getR (n := 35) hLM7 (by decide +kernel) oO_251 fF_12_7 (at_483) (by decide) (ar_483_1) rfl ?_
    refine w_bipush (n := 37) (v := 10) (x := 10) (by decide +kernel) rfl (by decide) ?_
    obtain ⟨i8, gi8, h⟩ := h
    refine w_iald (n := 38) hLM7 (by decide +kernel) (at_484) (an_484) gi8 rfl ?_
    refine w_iload_n (n := 39) (i := 2) (by decide +kernel) rfl rfl ?_
    refine w_isub (n := 40) (by decide +kernel) rfl ?_
    obtain ⟨v10, M9, hLM9, hr11, h⟩ := h
    refine w_cV (n := 43) (idx := 297) (cal := 167) (na := 1) (nl := 2) (as := [.int ((ak_I M7 484 i8) - (ak_I M3 484 i5))]) (rest := []) hLM7 (by decide +kernel) (by decide +kernel) (at_483) (by decide +kernel) rfl rfl rfl (Nat.le_of_ble_eq_true rfl) rfl hr11 ?_
    subst h
    exact w_ireturn (by decide +kernel) (w_okI (by decide +kernel))
theorem t_252 {X : ak_X} {M : ak_M} {r : ak_O × ak_M} (hL : ab_lay M) (x1 : Int32) (x2 : Int32) (h : (∃ (v2 : Int32) (M1 : ak_M), ab_lay M1 ∧ rn X 169 [.ref 483, .int x1] M (.inl (some (.int v2)), M1) ∧ (∃ (v4 : Int32) (M3 : ak_M), ab_lay M3 ∧ rn X 155 [.ref 483, .int v2] M1 (.inl (some (.int v4)), M3) ∧ (if v4 = 0 then r = (.inl (some (.int 0)), M3) else (∃ (v6 : Int32) (M5 : ak_M), ab_lay M5 ∧ rn X 245 [.int x2] M3 (.inl (some (.int v6)), M5) ∧ (∃ (v8 : Int32) (M7 : ak_M), ab_lay M7 ∧ rn X 156 [.ref 483, .int v6, .int 2] M5 (.inl (some (.int v8)), M7) ∧ (if v8 = 0 then r = (.inl (some (.int 0)), M7) else (∃ (v10 : Int32) (M9 : ak_M), ab_lay M9 ∧ rn X 248 [.ref 483, .int 1, .int x1, .int x1, .int x2] M7 (.inl (some (.int v10)), M9) ∧ r = (.inl (some (.int v10)), M9))))))))) : rn X 252 [.ref 483, .int x1, .int x2] M r := by
  refine w_rn (nL := 3) (l1 := [some (.ref 483), some (.int x1), some (.int x2)]) (by decide +kernel) rfl rfl ?_
  refine w_aload_n (n := 1) (i := 0) (by decide +kernel) rfl rfl ?_
  refine w_aload_n (n := 2) (i := 0) (by decide +kernel) rfl rfl ?_
  refine w_iload_n (n := 3) (i := 1) (by decide +kernel) rfl rfl ?_
  obtain ⟨v2, M1, hLM1, hr17, h⟩ := h
  refine w_cV (n := 6) (idx := 88) (cal := 169) (na := 1) (nl := 2) (as := [.int x1]) (rest := [.ref 483]) hL (by decide +kernel) (by decide +kernel) (at_483) (by decide +kernel) rfl rfl rfl (Nat.le_of_ble_eq_true rfl) rfl hr17 ?_
  obtain ⟨v4, M3, hLM3, hr16, h⟩ := h
  refine w_cV (n := 9) (idx := 72) (cal := 155) (na := 1) (nl := 2) (as := [.int v2]) (rest := []) hLM1 (by decide +kernel) (by decide +kernel) (at_483) (by decide +kernel) rfl rfl rfl (Nat.le_of_ble_eq_true rfl) rfl hr16 ?_
  by_cases c15 : v4 = 0
  · rw [if_pos c15] at h
    refine w_if_eq_j (n := 35) (off := 26) (by decide +kernel) (by decide) c15 ?_
    refine w_iconst (n := 36) (v := 0) (x := 0) (by decide +kernel) rfl (by decide) ?_
    subst h
    exact w_ireturn (by decide +kernel) (w_okI (by decide +kernel))
  · rw [if_neg c15] at h
    refine w_if_eq_n (n := 12) (off := 26) (by decide +kernel) rfl c15 ?_
    refine w_aload_n (n := 13) (i := 0) (by decide +kernel) rfl rfl ?_
    refine w_iload_n (n := 14) (i := 2) (by decide +kernel) rfl rfl ?_
    obtain ⟨v6, M5, hLM5, hr14, h⟩ := h
    refine w_cS (n := 17) (idx := 288) (cal := 245) (na := 1) (nl := 1) (as := [.int x2]) (rest := [.ref 483]) (by decide +kernel) (by decide +kernel) rfl rfl rfl (Nat.le_of_ble_eq_true rfl) rfl hr14 ?_
    refine w_iconst (n := 18) (v := 2) (x := 2) (by decide +kernel) rfl (by decide) ?_
    obtain ⟨v8, M7, hLM7, hr13, h⟩ := h
    refine w_cV (n := 21) (idx := 257) (cal := 156) (na := 2) (nl := 3) (as := [.int v6, .int 2]) (rest := []) hLM5 (by decide +kernel) (by decide +kernel) (at_483) (by decide +kernel) rfl rfl rfl (Nat.le_of_ble_eq_true rfl) rfl hr13 ?_
    by_cases c12 : v8 = 0
    · rw [if_pos c12] at h
      refine w_if_eq_j (n := 35) (off := 14) (by decide +kernel) (by decide) c12 ?_
      refine w_iconst (n := 36) (v := 0) (x := 0) (by decide +kernel) rfl (by decide) ?_
      subst h
      exact w_ireturn (by decide +kernel) (w_okI (by decide +kernel))
    · rw [if_neg c12] at h
      refine w_if_eq_n (n := 24) (off := 14) (by decide +kernel) rfl c12 ?_
      refine w_aload_n (n := 25) (i := 0) (by decide +kernel) rfl rfl ?_
      refine w_iconst (n := 26) (v := 1) (x := 1) (by decide +kernel) rfl (by decide) ?_
      refine w_iload_n (n := 27) (i := 1) (by decide +kernel) rfl rfl ?_
      refine w_iload_n (n := 28) (i := 1) (by decide +kernel) rfl rfl ?_
      refine w_iload_n (n := 29) (i := 2) (by decide +kernel) rfl rfl ?_
      obtain ⟨v10, M9, hLM9, hr11, h⟩ := h
      refine w_cV (n := 32) (idx := 304) (cal := 248) (na := 4) (nl := 5) (as := [.int 1, .int x1, .int x1, .int x2]) (rest := []) hLM7 (by decide +kernel) (by decide +kernel) (at_483) (by decide +kernel) rfl rfl rfl (Nat.le_of_ble_eq_true rfl) rfl hr11 ?_
      refine w_goto (n := 36) (off := 4) (by decide +kernel) (by decide) ?_
      subst h
      exact w_ireturn (by decide +kernel) (w_okI (by decide +kernel))
theorem t_253 {X : ak_X} {M : ak_M} {r : ak_O × ak_M} (hL : ab_lay M) (x1 : Int32) (x2 : Int32) (x3 : Int32) (h : (∃ (v2 : Int32) (M1 : ak_M), ab_lay M1 ∧ rn X 170 [.ref 483, .int x1, .int x2] M (.inl (some (.int v2)), M1) ∧ (∃ (v4 : Int32) (M3 : ak_M), ab_lay M3 ∧ rn X 155 [.ref 483, .int v2] M1 (.inl (some (.int v4)), M3) ∧ (if v4 = 0 then r = (.inl (some (.int 0)), M3) else (∃ (v6 : Int32) (M5 : ak_M), ab_lay M5 ∧ rn X 245 [.int x3] M3 (.inl (some (.int v6)), M5) ∧ (∃ (v8 : Int32) (M7 : ak_M), ab_lay M7 ∧ rn X 156 [.ref 483, .int v6, .int 2] M5 (.inl (some (.int v8)), M7) ∧ (if v8 = 0 then r = (.inl (some (.int 0)), M7) else (∃ (v10 : Int32) (M9 : ak_M), ab_lay M9 ∧ rn X 248 [.ref 483, .int 0, .int x1, .int x1, .int x3] M7 (.inl (some (.int v10)), M9) ∧ (∃ (v12 : Int32) (M11 : ak_M), ab_lay M11 ∧ rn X 248 [.ref 483, .int 0, .int x2, .int x2, .int x3] M9 (.inl (some (.int v12)), M11) ∧ (if v10 = v12 then r = (.inl (some (.int ((-1)))), M11) else (if v12 = (-1) then r = (.inl (some (.int x1)), M11) else (if v10 = (-1) then r = (.inl (some (.int x2)), M11) else (if v12 ≤ v10 then r = (.inl (some (.int x2)), M11) else r = (.inl (some (.int x1)), M11)))))))))))))) : rn X 253 [.ref 483, .int x1, .int x2, .int x3] M r := by
  refine w_rn (nL := 6) (l1 := [some (.ref 483), some (.int x1), some (.int x2), some (.int x3), none, none]) (by decide +kernel) rfl rfl ?_
  refine w_aload_n (n := 1) (i := 0) (by decide +kernel) rfl rfl ?_
  refine w_aload_n (n := 2) (i := 0) (by decide +kernel) rfl rfl ?_
  refine w_iload_n (n := 3) (i := 1) (by decide +kernel) rfl rfl ?_
  refine w_iload_n (n := 4) (i := 2) (by decide +kernel) rfl rfl ?_
  obtain ⟨v2, M1, hLM1, hr24, h⟩ := h
  refine w_cV (n := 7) (idx := 265) (cal := 170) (na := 2) (nl := 3) (as := [.int x1, .int x2]) (rest := [.ref 483]) hL (by decide +kernel) (by decide +kernel) (at_483) (by decide +kernel) rfl rfl rfl (Nat.le_of_ble_eq_true rfl) rfl hr24 ?_
  obtain ⟨v4, M3, hLM3, hr23, h⟩ := h
  refine w_cV (n := 10) (idx := 72) (cal := 155) (na := 1) (nl := 2) (as := [.int v2]) (rest := []) hLM1 (by decide +kernel) (by decide +kernel) (at_483) (by decide +kernel) rfl rfl rfl (Nat.le_of_ble_eq_true rfl) rfl hr23 ?_
  by_cases c22 : v4 = 0
  · rw [if_pos c22] at h
    refine w_if_eq_j (n := 25) (off := 15) (by decide +kernel) (by decide) c22 ?_
    refine w_iconst (n := 26) (v := 0) (x := 0) (by decide +kernel) rfl (by decide) ?_
    subst h
    exact w_ireturn (by decide +kernel) (w_okI (by decide +kernel))
  · rw [if_neg c22] at h
    refine w_if_eq_n (n := 13) (off := 15) (by decide +kernel) rfl c22 ?_
    refine w_aload_n (n := 14) (i := 0) (by decide +kernel) rfl rfl ?_
    refine w_iload_n (n := 15) (i := 3) (by decide +kernel) rfl rfl ?_
    obtain ⟨v6, M5, hLM5, hr21, h⟩ := h
    refine w_cS (n := 18) (idx := 288) (cal := 245) (na := 1) (nl := 1) (as := [.int x3]) (rest := [.ref 483]) (by decide +kernel) (by decide +kernel) rfl rfl rfl (Nat.le_of_ble_eq_true rfl) rfl hr21 ?_
    refine w_iconst (n := 19) (v := 2) (x := 2) (by decide +kernel) rfl (by decide) ?_
    obtain ⟨v8, M7, hLM7, hr20, h⟩ := h
    refine w_cV (n := 22) (idx := 257) (cal := 156) (na := 2) (nl := 3) (as := [.int v6, .int 2]) (rest := []) hLM5 (by decide +kernel) (by decide +kernel) (at_483) (by decide +kernel) rfl rfl rfl (Nat.le_of_ble_eq_true rfl) rfl hr20 ?_
    by_cases c19 : v8 = 0
    · rw [if_pos c19] at h
      refine w_if_ne_n (n := 25) (off := 5) (by decide +kernel) rfl c19 ?_
      refine w_iconst (n := 26) (v := 0) (x := 0) (by decide +kernel) rfl (by decide) ?_
      subst h
      exact w_ireturn (by decide +kernel) (w_okI (by decide +kernel))
    · rw [if_neg c19] at h
      refine w_if_ne_j (n := 27) (off := 5) (by decide +kernel) (by decide) c19 ?_
      refine w_aload_n (n := 28) (i := 0) (by decide +kernel) rfl rfl ?_
      refine w_iconst (n := 29) (v := 0) (x := 0) (by decide +kernel) rfl (by decide) ?_
      refine w_iload_n (n := 30) (i := 1) (by decide +kernel) rfl rfl ?_
      refine w_iload_n (n := 31) (i := 1) (by decide +kernel) rfl rfl ?_
      refine w_iload_n (n := 32) (i := 3) (by decide +kernel) rfl rfl ?_
      obtain ⟨v10, M9, hLM9, hr18, h⟩ := h
      refine w_cV (n := 35) (idx := 304) (cal := 248) (na := 4) (nl := 5) (as := [.int 0, .int x1, .int x1, .int x3]) (rest := []) hLM7 (by decide +kernel) (by decide +kernel) (at_483) (by decide +kernel) rfl rfl rfl (Nat.le_of_ble_eq_true rfl) rfl hr18 ?_
      refine w_istore (n := 37) (i := 4) (l1' := [some (.ref 483), some (.int x1), some (.int x2), some (.int x3), some (.int v10), none]) (l2' := []) (by decide +kernel) rfl (Nat.le_of_ble_eq_true rfl) rfl rfl ?_
      refine w_aload_n (n := 38) (i := 0) (by decide +kernel) rfl rfl ?_
      refine w_iconst (n := 39) (v := 0) (x := 0) (by decide +kernel) rfl (by decide) ?_
      refine w_iload_n (n := 40) (i := 2) (by decide +kernel) rfl rfl ?_
      refine w_iload_n (n := 41) (i := 2) (by decide +kernel) rfl rfl ?_
      refine w_iload_n (n := 42) (i := 3) (by decide +kernel) rfl rfl ?_
      obtain ⟨v12, M11, hLM11, hr17, h⟩ := h
      refine w_cV (n := 45) (idx := 304) (cal := 248) (na := 4) (nl := 5) (as := [.int 0, .int x2, .int x2, .int x3]) (rest := []) hLM9 (by decide +kernel) (by decide +kernel) (at_483) (by decide +kernel) rfl rfl rfl (Nat.le_of_ble_eq_true rfl) rfl hr17 ?_
      refine w_istore (n := 47) (i := 5) (l1' := [some (.ref 483), some (.int x1), some (.int x2), some (.int x3), some (.int v10), some (.int v12)]) (l2' := []) (by decide +kernel) rfl (Nat.le_of_ble_eq_true rfl) rfl rfl ?_
      refine w_iload (n := 49) (i := 4) (by decide +kernel) rfl rfl ?_
      refine w_iload (n := 51) (i := 5) (by decide +kernel) rfl rfl ?_
      by_cases c16 : v10 = v12
      · rw [if_pos c16] at h
        refine w_icmp_ne_n (n := 54) (off := 5) (by decide +kernel) rfl c16 ?_
        refine w_iconst (n := 55) (v := -1) (x := (-1)) (by decide +kernel) rfl (by decide) ?_
        subst h
        exact w_ireturn (by decide +kernel) (w_okI (by decide +kernel))
      · rw [if_neg c16] at h
        refine w_icmp_ne_j (n := 56) (off := 5) (by decide +kernel) (by decide) c16 ?_
        refine w_iload (n := 58) (i := 5) (by decide +kernel) rfl rfl ?_
        refine w_iconst (n := 59) (v := -1) (x := (-1)) (by decide +kernel) rfl (by decide) ?_
        by_cases c15 : v12 = (-1)
        · rw [if_pos c15] at h
          refine w_icmp_eq_j (n := 75) (off := 16) (by decide +kernel) (by decide) c15 ?_
          refine w_iload_n (n := 76) (i := 1) (by decide +kernel) rfl rfl ?_
          refine w_goto (n := 80) (off := 4) (by decide +kernel) (by decide) ?_
          subst h
          exact w_ireturn (by decide +kernel) (w_okI (by decide +kernel))
        · rw [if_neg c15] at h
          refine w_icmp_eq_n (n := 62) (off := 16) (by decide +kernel) rfl c15 ?_
          refine w_iload (n := 64) (i := 4) (by decide +kernel) rfl rfl ?_
          refine w_iconst (n := 65) (v := -1) (x := (-1)) (by decide +kernel) rfl (by decide) ?_
          by_cases c14 : v10 = (-1)
          · rw [if_pos c14] at h
            refine w_icmp_eq_j (n := 79) (off := 14) (by decide +kernel) (by decide) c14 ?_
            refine w_iload_n (n := 80) (i := 2) (by decide +kernel) rfl rfl ?_
            subst h
            exact w_ireturn (by decide +kernel) (w_okI (by decide +kernel))
          · rw [if_neg c14] at h
            refine w_icmp_eq_n (n := 68) (off := 14) (by decide +kernel) rfl c14 ?_
            refine w_iload (n := 70) (i := 4) (by decide +kernel) rfl rfl ?_
            refine w_iload (n := 72) (i := 5) (by decide +kernel) rfl rfl ?_
            by_cases c13 : v12 ≤ v10
            · rw [if_pos c13] at h
              refine w_icmp_ge_j (n := 79) (off := 7) (by decide +kernel) (by decide) c13 ?_
              refine w_iload_n (n := 80) (i := 2) (by decide +kernel) rfl rfl ?_
              subst h
              exact w_ireturn (by decide +kernel) (w_okI (by decide +kernel))
            · rw [if_neg c13] at h
              refine w_icmp_ge_n (n := 75) (off := 7) (by decide +kernel) rfl c13 ?_
              refine w_iload_n (n := 76) (i := 1) (by decide +kernel) rfl rfl ?_
              refine w_goto (n := 80) (off := 4) (by decide +kernel) (by decide) ?_
              subst h
              exact w_ireturn (by decide +kernel) (w_okI (by decide +kernel))
theorem t_254 {X : ak_X} {M : ak_M} {r : ak_O × ak_M} (hL : ab_lay M) (x1 : Int32) (x2 : Int32) (x3 : Int32) (x4 : Int32) (h : (∃ (v2 : Int32) (M1 : ak_M), ab_lay M1 ∧ rn X 169 [.ref 483, .int x1] M (.inl (some (.int v2)), M1) ∧ (∃ (v4 : Int32) (M3 : ak_M), ab_lay M3 ∧ rn X 155 [.ref 483, .int v2] M1 (.inl (some (.int v4)), M3) ∧ (if v4 = 0 then r = (.inl (some (.int 0)), M3) else (∃ (v6 : Int32) (M5 : ak_M), ab_lay M5 ∧ rn X 157 [.long (x2.toInt64), .long 1, .long 50] M3 (.inl (some (.int v6)), M5) ∧ (∃ (v8 : Int32) (M7 : ak_M), ab_lay M7 ∧ rn X 156 [.ref 483, .int v6, .int 2] M5 (.inl (some (.int v8)), M7) ∧ (if v8 = 0 then r = (.inl (some (.int 0)), M7) else (∃ (M9 : ak_M), ab_lay M9 ∧ rn X 166 [.ref 483] M7 (.inl (none), M9) ∧ sg X 254 (45, [some (.ref 483), some (.int x1), some (.int x2), some (.int x3), some (.int x4), some (.int 0), some (.int 0), some (.int ((-9))), none], [], []) M9 r)))))))) : rn X 254 [.ref 483, .int x1, .int x2, .int x3, .int x4] M r := by
  refine w_rn (nL := 9) (l1 := [some (.ref 483), some (.int x1), some (.int x2), some (.int x3), some (.int x4), none, none, none, none]) (by decide +kernel) rfl rfl ?_
  refine w_aload_n (n := 1) (i := 0) (by decide +kernel) rfl rfl ?_
  refine w_aload_n (n := 2) (i := 0) (by decide +kernel) rfl rfl ?_
  refine w_iload_n (n := 3) (i := 1) (by decide +kernel) rfl rfl ?_
  obtain ⟨v2, M1, hLM1, hr16, h⟩ := h
  refine w_cV (n := 6) (idx := 88) (cal := 169) (na := 1) (nl := 2) (as := [.int x1]) (rest := [.ref 483]) hL (by decide +kernel) (by decide +kernel) (at_483) (by decide +kernel) rfl rfl rfl (Nat.le_of_ble_eq_true rfl) rfl hr16 ?_
  obtain ⟨v4, M3, hLM3, hr15, h⟩ := h
  refine w_cV (n := 9) (idx := 72) (cal := 155) (na := 1) (nl := 2) (as := [.int v2]) (rest := []) hLM1 (by decide +kernel) (by decide +kernel) (at_483) (by decide +kernel) rfl rfl rfl (Nat.le_of_ble_eq_true rfl) rfl hr15 ?_
  by_cases c14 : v4 = 0
  · rw [if_pos c14] at h
    refine w_if_eq_j (n := 29) (off := 20) (by decide +kernel) (by decide) c14 ?_
    refine w_iconst (n := 30) (v := 0) (x := 0) (by decide +kernel) rfl (by decide) ?_
    subst h
    exact w_ireturn (by decide +kernel) (w_okI (by decide +kernel))
  · rw [if_neg c14] at h
    refine w_if_eq_n (n := 12) (off := 20) (by decide +kernel) rfl c14 ?_
    refine w_aload_n (n := 13) (i := 0) (by decide +kernel) rfl rfl ?_
    refine w_iload_n (n := 14) (i := 2) (by decide +kernel) rfl rfl ?_
    refine w_i2l (n := 15) (by decide +kernel) rfl ?_
    refine w_lconst (n := 16) (v := 1) (x := 1) (by decide +kernel) rfl (by decide) ?_
    refine w_ldc2 (n := 19) (idx := 307) (v := 50) (by decide +kernel) oO_254 (by decide +kernel) rfl ?_
    obtain ⟨v6, M5, hLM5, hr13, h⟩ := h
    refine w_cS (n := 22) (idx := 84) (cal := 157) (na := 3) (nl := 6) (as := [.long (x2.toInt64), .long 1, .long 50]) (rest := [.ref 483]) (by decide +kernel) (by decide +kernel) rfl rfl rfl (Nat.le_of_ble_eq_true rfl) rfl hr13 ?_
    refine w_iconst (n := 23) (v := 2) (x := 2) (by decide +kernel) rfl (by decide) ?_
    obtain ⟨v8, M7, hLM7, hr12, h⟩ := h
    refine w_cV (n := 26) (idx := 257) (cal := 156) (na := 2) (nl := 3) (as := [.int v6, .int 2]) (rest := []) hLM5 (by decide +kernel) (by decide +kernel) (at_483) (by decide +kernel) rfl rfl rfl (Nat.le_of_ble_eq_true rfl) rfl hr12 ?_
    by_cases c11 : v8 = 0
    · rw [if_pos c11] at h
      refine w_if_ne_n (n := 29) (off := 5) (by decide +kernel) rfl c11 ?_
      refine w_iconst (n := 30) (v := 0) (x := 0) (by decide +kernel) rfl (by decide) ?_
      subst h
      exact w_ireturn (by decide +kernel) (w_okI (by decide +kernel))
    · rw [if_neg c11] at h
      refine w_if_ne_j (n := 31) (off := 5) (by decide +kernel) (by decide) c11 ?_
      refine w_aload_n (n := 32) (i := 0) (by decide +kernel) rfl rfl ?_
      obtain ⟨M9, hLM9, hr10, h⟩ := h
      refine w_cV (n := 35) (idx := 291) (cal := 166) (na := 0) (nl := 1) (as := []) (rest := []) hLM7 (by decide +kernel) (by decide +kernel) (at_483) (by decide +kernel) rfl rfl rfl (Nat.le_of_ble_eq_true rfl) rfl hr10 ?_
      refine w_iconst (n := 36) (v := 0) (x := 0) (by decide +kernel) rfl (by decide) ?_
      refine w_istore (n := 38) (i := 5) (l1' := [some (.ref 483), some (.int x1), some (.int x2), some (.int x3), some (.int x4), some (.int 0), none, none, none]) (l2' := []) (by decide +kernel) rfl (Nat.le_of_ble_eq_true rfl) rfl rfl ?_
      refine w_iconst (n := 39) (v := 0) (x := 0) (by decide +kernel) rfl (by decide) ?_
      refine w_istore (n := 41) (i := 6) (l1' := [some (.ref 483), some (.int x1), some (.int x2), some (.int x3), some (.int x4), some (.int 0), some (.int 0), none, none]) (l2' := []) (by decide +kernel) rfl (Nat.le_of_ble_eq_true rfl) rfl rfl ?_
      refine w_bipush (n := 43) (v := -9) (x := (-9)) (by decide +kernel) rfl (by decide) ?_
      refine w_istore (n := 45) (i := 7) (l1' := [some (.ref 483), some (.int x1), some (.int x2), some (.int x3), some (.int x4), some (.int 0), some (.int 0), some (.int ((-9))), none]) (l2' := []) (by decide +kernel) rfl (Nat.le_of_ble_eq_true rfl) rfl rfl ?_
      exact h
theorem t_254_45 {X : ak_X} {M : ak_M} {r : ak_O × ak_M} (hL : ab_lay M) (x1 : Int32) (x2 : Int32) (x3 : Int32) (x4 : Int32) (y5 : Int32) (y6 : Int32) (y7 : Int32) (o8 : Option Value) (h : (if 9 < y7 then r = (.inl (some (.int y5)), M) else (∃ (M17 : ak_M), ab_lay M17 ∧ rn X 172 [.ref 483, .int x1, .int 7, .int y7] M (.inl (none), M17) ∧ (∃ (M18 : ak_M), ab_lay M18 ∧ rn X 213 [.ref 483, .int x2] M17 (.inl (none), M18) ∧ (∃ (v20 : Int32) (M19 : ak_M), ab_lay M19 ∧ rn X 171 [.ref 483, .int x1, .int x3] M18 (.inl (some (.int v20)), M19) ∧ (∃ (v22 : Int32) (M21 : ak_M), ab_lay M21 ∧ rn X 167 [.ref 483, .int (x4 * v20)] M19 (.inl (some (.int v22)), M21) ∧ (if y7 ≤ (-9) then sg X 254 (45, [some (.ref 483), some (.int x1), some (.int x2), some (.int x3), some (.int x4), some (.int y7), some (.int v22), some (.int (y7 + 1)), some (.int v22)], [], []) M21 r else (if y6 < v22 then sg X 254 (45, [some (.ref 483), some (.int x1), some (.int x2), some (.int x3), some (.int x4), some (.int y7), some (.int v22), some (.int (y7 + 1)), some (.int v22)], [], []) M21 r else sg X 254 (45, [some (.ref 483), some (.int x1), some (.int x2), some (.int x3), some (.int x4), some (.int y5), some (.int y6), some (.int (y7 + 1)), some (.int v22)], [], []) M21 r)))))))) : sg X 254 (45, [some (.ref 483), some (.int x1), some (.int x2), some (.int x3), some (.int x4), some (.int y5), some (.int y6), some (.int y7), o8], [], []) M r := by
  refine w_iload (n := 47) (i := 7) (by decide +kernel) rfl rfl ?_
  refine w_bipush (n := 49) (v := 9) (x := 9) (by decide +kernel) rfl (by decide) ?_
  by_cases c29 : 9 < y7
  · rw [if_pos c29] at h
    refine w_icmp_gt_j (n := 112) (off := 63) (by decide +kernel) (by decide) c29 ?_
    refine w_iload (n := 114) (i := 5) (by decide +kernel) rfl rfl ?_
    subst h
    exact w_ireturn (by decide +kernel) (w_okI (by decide +kernel))
  · rw [if_neg c29] at h
    refine w_icmp_gt_n (n := 52) (off := 63) (by decide +kernel) rfl c29 ?_
    refine w_aload_n (n := 53) (i := 0) (by decide +kernel) rfl rfl ?_
    refine w_iload_n (n := 54) (i := 1) (by decide +kernel) rfl rfl ?_
    refine w_bipush (n := 56) (v := 7) (x := 7) (by decide +kernel) rfl (by decide) ?_
    refine w_iload (n := 58) (i := 7) (by decide +kernel) rfl rfl ?_
    obtain ⟨M17, hLM17, hr28, h⟩ := h
    refine w_cV (n := 61) (idx := 96) (cal := 172) (na := 3) (nl := 4) (as := [.int x1, .int 7, .int y7]) (rest := []) hL (by decide +kernel) (by decide +kernel) (at_483) (by decide +kernel) rfl rfl rfl (Nat.le_of_ble_eq_true rfl) rfl hr28 ?_
    refine w_aload_n (n := 62) (i := 0) (by decide +kernel) rfl rfl ?_
    refine w_iload_n (n := 63) (i := 2) (by decide +kernel) rfl rfl ?_
    obtain ⟨M18, hLM18, hr27, h⟩ := h
    refine w_cV (n := 66) (idx := 294) (cal := 213) (na := 1) (nl := 2) (as := [.int x2]) (rest := []) hLM17 (by decide +kernel) (by decide +kernel) (at_483) (by decide +kernel) rfl rfl rfl (Nat.le_of_ble_eq_true rfl) rfl hr27 ?_
    refine w_aload_n (n := 67) (i := 0) (by decide +kernel) rfl rfl ?_
    refine w_iload (n := 69) (i := 4) (by decide +kernel) rfl rfl ?_
    refine w_aload_n (n := 70) (i := 0) (by decide +kernel) rfl rfl ?_
    refine w_iload_n (n := 71) (i := 1) (by decide +kernel) rfl rfl ?_
    refine w_iload_n (n := 72) (i := 3) (by decide +kernel) rfl rfl ?_
    obtain ⟨v20, M19, hLM19, hr26, h⟩ := h
    refine w_cV (n := 75) (idx := 92) (cal := 171) (na := 2) (nl := 3) (as := [.int x1, .int x3]) (rest := [.int x4, .ref 483]) hLM18 (by decide +kernel) (by decide +kernel) (at_483) (by decide +kernel) rfl rfl rfl (Nat.le_of_ble_eq_true rfl) rfl hr26 ?_
    refine w_imul (n := 76) (by decide +kernel) rfl ?_
    obtain ⟨v22, M21, hLM21, hr25, h⟩ := h
    refine w_cV (n := 79) (idx := 297) (cal := 167) (na := 1) (nl := 2) (as := [.int (x4 * v20)]) (rest := []) hLM19 (by decide +kernel) (by decide +kernel) (at_483) (by decide +kernel) rfl rfl rfl (Nat.le_of_ble_eq_true rfl) rfl hr25 ?_
    refine w_istore (n := 81) (i := 8) (l1' := [some (.ref 483), some (.int x1), some (.int x2), some (.int x3), some (.int x4), some (.int y5), some (.int y6), some (.int y7), some (.int v22)]) (l2' := []) (by decide +kernel) rfl (Nat.le_of_ble_eq_true rfl) rfl rfl ?_
    refine w_iload (n := 83) (i := 7) (by decide +kernel) rfl rfl ?_
    refine w_bipush (n := 85) (v := -9) (x := (-9)) (by decide +kernel) rfl (by decide) ?_
    by_cases c24 : y7 ≤ (-9)
    · rw [if_pos c24] at h
      refine w_icmp_le_j (n := 98) (off := 13) (by decide +kernel) (by decide) c24 ?_
      refine w_iload (n := 100) (i := 7) (by decide +kernel) rfl rfl ?_
      refine w_istore (n := 102) (i := 5) (l1' := [some (.ref 483), some (.int x1), some (.int x2), some (.int x3), some (.int x4), some (.int y7), some (.int y6), some (.int y7), some (.int v22)]) (l2' := []) (by decide +kernel) rfl (Nat.le_of_ble_eq_true rfl) rfl rfl ?_
      refine w_iload (n := 104) (i := 8) (by decide +kernel) rfl rfl ?_
      refine w_istore (n := 106) (i := 6) (l1' := [some (.ref 483), some (.int x1), some (.int x2), some (.int x3), some (.int x4), some (.int y7), some (.int v22), some (.int y7), some (.int v22)]) (l2' := []) (by decide +kernel) rfl (Nat.le_of_ble_eq_true rfl) rfl rfl ?_
      refine w_iinc (n := 109) (i := 7) (v := 1) (y := y7 + 1) (l1' := [some (.ref 483), some (.int x1), some (.int x2), some (.int x3), some (.int x4), some (.int y7), some (.int v22), some (.int (y7 + 1)), some (.int v22)]) (l2' := []) (by decide +kernel) rfl rfl rfl rfl rfl ?_
      refine w_goto (n := 45) (off := (-64)) (by decide +kernel) (by decide) ?_
      exact h
    · rw [if_neg c24] at h
      refine w_icmp_le_n (n := 88) (off := 13) (by decide +kernel) rfl c24 ?_
      refine w_iload (n := 90) (i := 8) (by decide +kernel) rfl rfl ?_
      refine w_iload (n := 92) (i := 6) (by decide +kernel) rfl rfl ?_
      by_cases c23 : y6 < v22
      · rw [if_pos c23] at h
        refine w_icmp_gt_j (n := 98) (off := 6) (by decide +kernel) (by decide) c23 ?_
        refine w_iload (n := 100) (i := 7) (by decide +kernel) rfl rfl ?_
        refine w_istore (n := 102) (i := 5) (l1' := [some (.ref 483), some (.int x1), some (.int x2), some (.int x3), some (.int x4), some (.int y7), some (.int y6), some (.int y7), some (.int v22)]) (l2' := []) (by decide +kernel) rfl (Nat.le_of_ble_eq_true rfl) rfl rfl ?_
        refine w_iload (n := 104) (i := 8) (by decide +kernel) rfl rfl ?_
        refine w_istore (n := 106) (i := 6) (l1' := [some (.ref 483), some (.int x1), some (.int x2), some (.int x3), some (.int x4), some (.int y7), some (.int v22), some (.int y7), some (.int v22)]) (l2' := []) (by decide +kernel) rfl (Nat.le_of_ble_eq_true rfl) rfl rfl ?_
        refine w_iinc (n := 109) (i := 7) (v := 1) (y := y7 + 1) (l1' := [some (.ref 483), some (.int x1), some (.int x2), some (.int x3), some (.int x4), some (.int y7), some (.int v22), some (.int (y7 + 1)), some (.int v22)]) (l2' := []) (by decide +kernel) rfl rfl rfl rfl rfl ?_
        refine w_goto (n := 45) (off := (-64)) (by decide +kernel) (by decide) ?_
        exact h
      · rw [if_neg c23] at h
        refine w_icmp_gt_n (n := 95) (off := 6) (by decide +kernel) rfl c23 ?_
        refine w_goto (n := 106) (off := 11) (by decide +kernel) (by decide) ?_
        refine w_iinc (n := 109) (i := 7) (v := 1) (y := y7 + 1) (l1' := [some (.ref 483), some (.int x1), some (.int x2), some (.int x3), some (.int x4), some (.int y5), some (.int y6), some (.int (y7 + 1)), some (.int v22)]) (l2' := []) (by decide +kernel) rfl rfl rfl rfl rfl ?_
        refine w_goto (n := 45) (off := (-64)) (by decide +kernel) (by decide) ?_
        exact h
theorem t_255 {X : ak_X} {M : ak_M} {r : ak_O × ak_M} (hL : ab_lay M) (x1 : Int32) (x2 : Int32) (h : (∃ (v2 : Int32) (M1 : ak_M), ab_lay M1 ∧ rn X 254 [.ref 483, .int x1, .int x2, .int 10, .int ((-1))] M (.inl (some (.int v2)), M1) ∧ r = (.inl (some (.int v2)), M1))) : rn X 255 [.ref 483, .int x1, .int x2] M r := by
  refine w_rn (nL := 3) (l1 := [some (.ref 483), some (.int x1), some (.int x2)]) (by decide +kernel) rfl rfl ?_
  refine w_aload_n (n := 1) (i := 0) (by decide +kernel) rfl rfl ?_
  refine w_iload_n (n := 2) (i := 1) (by decide +kernel) rfl rfl ?_
  refine w_iload_n (n := 3) (i := 2) (by decide +kernel) rfl rfl ?_
  refine w_bipush (n := 5) (v := 10) (x := 10) (by decide +kernel) rfl (by decide) ?_
  refine w_iconst (n := 6) (v := -1) (x := (-1)) (by decide +kernel) rfl (by decide) ?_
  obtain ⟨v2, M1, hLM1, hr3, h⟩ := h
  refine w_cV (n := 9) (idx := 309) (cal := 254) (na := 4) (nl := 5) (as := [.int x1, .int x2, .int 10, .int ((-1))]) (rest := []) hL (by decide +kernel) (by decide +kernel) (at_483) (by decide +kernel) rfl rfl rfl (Nat.le_of_ble_eq_true rfl) rfl hr3 ?_
  subst h
  exact w_ireturn (by decide +kernel) (w_okI (by decide +kernel))
theorem t_256 {X : ak_X} {M : ak_M} {r : ak_O × ak_M} (hL : ab_lay M) (x1 : Int32) (x2 : Int32) (h : (∃ (v2 : Int32) (M1 : ak_M), ab_lay M1 ∧ rn X 254 [.ref 483, .int x1, .int x2, .int 3, .int 1] M (.inl (some (.int v2)), M1) ∧ r = (.inl (some (.int v2)), M1))) : rn X 256 [.ref 483, .int x1, .int x2] M r := by
  refine w_rn (nL := 3) (l1 := [some (.ref 483), some (.int x1), some (.int x2)]) (by decide +kernel) rfl rfl ?_
  refine w_aload_n (n := 1) (i := 0) (by decide +kernel) rfl rfl ?_
  refine w_iload_n (n := 2) (i := 1) (by decide +kernel) rfl rfl ?_
  refine w_iload_n (n := 3) (i := 2) (by decide +kernel) rfl rfl ?_
  refine w_iconst (n := 4) (v := 3) (x := 3) (by decide +kernel) rfl (by decide) ?_
  refine w_iconst (n := 5) (v := 1) (x := 1) (by decide +kernel) rfl (by decide) ?_
  obtain ⟨v2, M1, hLM1, hr3, h⟩ := h
  refine w_cV (n := 8) (idx := 309) (cal := 254) (na := 4) (nl := 5) (as := [.int x1, .int x2, .int 3, .int 1]) (rest := []) hL (by decide +kernel) (by decide +kernel) (at_483) (by decide +kernel) rfl rfl rfl (Nat.le_of_ble_eq_true rfl) rfl hr3 ?_
  subst h
  exact w_ireturn (by decide +kernel) (w_okI (by decide +kernel))
theorem t_257 {X : ak_X} {M : ak_M} {r : ak_O × ak_M} (hL : ab_lay M) (x1 : Int32) (x2 : Int32) (h : (∃ (v2 : Int32) (M1 : ak_M), ab_lay M1 ∧ rn X 254 [.ref 483, .int x1, .int x2, .int 11, .int 1] M (.inl (some (.int v2)), M1) ∧ r = (.inl (some (.int v2)), M1))) : rn X 257 [.ref 483, .int x1, .int x2] M r := by
  refine w_rn (nL := 3) (l1 := [some (.ref 483), some (.int x1), some (.int x2)]) (by decide +kernel) rfl rfl ?_
  refine w_aload_n (n := 1) (i := 0) (by decide +kernel) rfl rfl ?_
  refine w_iload_n (n := 2) (i := 1) (by decide +kernel) rfl rfl ?_
  refine w_iload_n (n := 3) (i := 2) (by decide +kernel) rfl rfl ?_
  refine w_bipush (n := 5) (v := 11) (x := 11) (by decide +kernel) rfl (by decide) ?_
  refine w_iconst (n := 6) (v := 1) (x := 1) (by decide +kernel) rfl (by decide) ?_
  obtain ⟨v2, M1, hLM1, hr3, h⟩ := h
  refine w_cV (n := 9) (idx := 309) (cal := 254) (na := 4) (nl := 5) (as := [.int x1, .int x2, .int 11, .int 1]) (rest := []) hL (by decide +kernel) (by decide +kernel) (at_483) (by decide +kernel) rfl rfl rfl (Nat.le_of_ble_eq_true rfl) rfl hr3 ?_
  subst h
  exact w_ireturn (by decide +kernel) (w_okI (by decide +kernel))
theorem t_258 {X : ak_X} {M : ak_M} {r : ak_O × ak_M} (hL : ab_lay M) (x1 : Int32) (h : (∃ (v2 : Int32) (M1 : ak_M), ab_lay M1 ∧ rn X 157 [.long (x1.toInt64), .long 1, .long 200] M (.inl (some (.int v2)), M1) ∧ (∃ (v4 : Int32) (M3 : ak_M), ab_lay M3 ∧ rn X 155 [.ref 483, .int v2] M1 (.inl (some (.int v4)), M3) ∧ (if v4 = 0 then r = (.inl (some (.int 0)), M3) else (∃ i5 : Nat, ab_ix 0 i5 245 ∧ (if 5000 < (ak_I M3 484 i5) + x1 then (∃ (v7 : Int32) (M6 : ak_M), ab_lay M6 ∧ rn X 156 [.ref 483, .int 0, .int 2] M3 (.inl (some (.int v7)), M6) ∧ (if v7 = 0 then r = (.inl (some (.int 0)), M6) else (∃ (M8 : ak_M), ab_lay M8 ∧ rn X 161 [.ref 483] M6 (.inl (none), M8) ∧ (∃ i9 : Nat, ab_ix 10 i9 245 ∧ (∃ (M10 : ak_M), ab_lay M10 ∧ rn X 213 [.ref 483, .int x1] M8 (.inl (none), M10) ∧ (∃ i11 : Nat, ab_ix 10 i11 245 ∧ (∃ (v13 : Int32) (M12 : ak_M), ab_lay M12 ∧ rn X 162 [.ref 483, .int ((ak_I M10 484 i11) - (ak_I M8 484 i9))] M10 (.inl (some (.int v13)), M12) ∧ r = (.inl (some (.int v13)), M12)))))))) else (∃ (v20 : Int32) (M19 : ak_M), ab_lay M19 ∧ rn X 156 [.ref 483, .int 1, .int 2] M3 (.inl (some (.int v20)), M19) ∧ (if v20 = 0 then r = (.inl (some (.int 0)), M19) else (∃ (M21 : ak_M), ab_lay M21 ∧ rn X 161 [.ref 483] M19 (.inl (none), M21) ∧ (∃ i22 : Nat, ab_ix 10 i22 245 ∧ (∃ (M23 : ak_M), ab_lay M23 ∧ rn X 213 [.ref 483, .int x1] M21 (.inl (none), M23) ∧ (∃ i24 : Nat, ab_ix 10 i24 245 ∧ (∃ (v26 : Int32) (M25 : ak_M), ab_lay M25 ∧ rn X 162 [.ref 483, .int ((ak_I M23 484 i24) - (ak_I M21 484 i22))] M23 (.inl (some (.int v26)), M25) ∧ r = (.inl (some (.int v26)), M25)))))))))))))) : rn X 258 [.ref 483, .int x1] M r := by
  refine w_rn (nL := 3) (l1 := [some (.ref 483), some (.int x1), none]) (by decide +kernel) rfl rfl ?_
  refine w_aload_n (n := 1) (i := 0) (by decide +kernel) rfl rfl ?_
  refine w_iload_n (n := 2) (i := 1) (by decide +kernel) rfl rfl ?_
  refine w_i2l (n := 3) (by decide +kernel) rfl ?_
  refine w_lconst (n := 4) (v := 1) (x := 1) (by decide +kernel) rfl (by decide) ?_
  refine w_ldc2 (n := 7) (idx := 312) (v := 200) (by decide +kernel) oO_258 (by decide +kernel) rfl ?_
  obtain ⟨v2, M1, hLM1, hr35, h⟩ := h
  refine w_cS (n := 10) (idx := 84) (cal := 157) (na := 3) (nl := 6) (as := [.long (x1.toInt64), .long 1, .long 200]) (rest := [.ref 483]) (by decide +kernel) (by decide +kernel) rfl rfl rfl (Nat.le_of_ble_eq_true rfl) rfl hr35 ?_
  obtain ⟨v4, M3, hLM3, hr34, h⟩ := h
  refine w_cV (n := 13) (idx := 72) (cal := 155) (na := 1) (nl := 2) (as := [.int v2]) (rest := []) hLM1 (by decide +kernel) (by decide +kernel) (at_483) (by decide +kernel) rfl rfl rfl (Nat.le_of_ble_eq_true rfl) rfl hr34 ?_
  by_cases c33 : v4 = 0
  · rw [if_pos c33] at h
    refine w_if_eq_j (n := 43) (off := 30) (by decide +kernel) (by decide) c33 ?_
    refine w_iconst (n := 44) (v := 0) (x := 0) (by decide +kernel) rfl (by decide) ?_
    subst h
    exact w_ireturn (by decide +kernel) (w_okI (by decide +kernel))
  · rw [if_neg c33] at h
    refine w_if_eq_n (n := 16) (off := 30) (by decide +kernel) rfl c33 ?_
    refine w_aload_n (n := 17) (i := 0) (by decide +kernel) rfl rfl ?_
    refine w_aload_n (n := 18) (i := 0) (by decide +kernel) rfl rfl ?_
    refine w_getR (n := 21) hLM3 (by decide +kernel) oO_258 fF_12_7 (at_483) (by decide) (ar_483_1) rfl ?_
    refine w_iconst (n := 22) (v := 0) (x := 0) (by decide +kernel) rfl (by decide) ?_
    obtain ⟨i5, gi5, h⟩ := h
    refine w_iald (n := 23) hLM3 (by decide +kernel) (at_484) (an_484) gi5 rfl ?_
    refine w_iload_n (n := 24) (i := 1) (by decide +kernel) rfl rfl ?_
    refine w_iadd (n := 25) (by decide +kernel) rfl ?_
    refine w_sipush (n := 28) (v := 5000) (x := 5000) (by decide +kernel) rfl (by decide) ?_
    by_cases c32 : 5000 < (ak_I M3 484 i5) + x1
    · rw [if_pos c32] at h
      refine w_icmp_gt_j (n := 35) (off := 7) (by decide +kernel) (by decide) c32 ?_
      refine w_iconst (n := 36) (v := 0) (x := 0) (by decide +kernel) rfl (by decide) ?_
      refine w_iconst (n := 37) (v := 2) (x := 2) (by decide +kernel) rfl (by decide) ?_
      obtain ⟨v7, M6, hLM6, hr18, h⟩ := h
      refine w_cV (n := 40) (idx := 257) (cal := 156) (na := 2) (nl := 3) (as := [.int 0, .int 2]) (rest := []) hLM3 (by decide +kernel) (by decide +kernel) (at_483) (by decide +kernel) rfl rfl rfl (Nat.le_of_ble_eq_true rfl) rfl hr18 ?_
      by_cases c17 : v7 = 0
      · rw [if_pos c17] at h
        refine w_if_ne_n (n := 43) (off := 5) (by decide +kernel) rfl c17 ?_
        refine w_iconst (n := 44) (v := 0) (x := 0) (by decide +kernel) rfl (by decide) ?_
        subst h
        exact w_ireturn (by decide +kernel) (w_okI (by decide +kernel))
      · rw [if_neg c17] at h
        refine w_if_ne_j (n := 45) (off := 5) (by decide +kernel) (by decide) c17 ?_
        refine w_aload_n (n := 46) (i := 0) (by decide +kernel) rfl rfl ?_
        obtain ⟨M8, hLM8, hr16, h⟩ := h
        refine w_cV (n := 49) (idx := 314) (cal := 161) (na := 0) (nl := 1) (as := []) (rest := []) hLM6 (by decide +kernel) (by decide +kernel) (at_483) (by decide +kernel) rfl rfl rfl (Nat.le_of_ble_eq_true rfl) rfl hr16 ?_
        refine w_aload_n (n := 50) (i := 0) (by decide +kernel) rfl rfl ?_
        refine w_getR (n := 53) hLM8 (by decide +kernel) oO_258 fF_12_7 (at_483) (by decide) (ar_483_1) rfl ?_
        refine w_bipush (n := 55) (v := 10) (x := 10) (by decide +kernel) rfl (by decide) ?_
        obtain ⟨i9, gi9, h⟩ := h
        refine w_iald (n := 56) hLM8 (by decide +kernel) (at_484) (an_484) gi9 rfl ?_
        refine w_istore_n (n := 57) (i := 2) (l1' := [some (.ref 483), some (.int x1), some (.int (ak_I M8 484 i9))]) (l2' := []) (by decide +kernel) rfl (Nat.le_of_ble_eq_true rfl) rfl rfl ?_
        refine w_aload_n (n := 58) (i := 0) (by decide +kernel) rfl rfl ?_
        refine w_iload_n (n := 59) (i := 1) (by decide +kernel) rfl rfl ?_
        obtain ⟨M10, hLM10, hr15, h⟩ := h
        refine w_cV (n := 62) (idx := 294) (cal := 213) (na := 1) (nl := 2) (as := [.int x1]) (rest := []) hLM8 (by decide +kernel) (by decide +kernel) (at_483) (by decide +kernel) rfl rfl rfl (Nat.le_of_ble_eq_true rfl) rfl hr15 ?_
        refine w_aload_n (n := 63) (i := 0) (by decide +kernel) rfl rfl ?_
        refine w_aload_n (n := 64) (i := 0) (by decide +kernel) rfl rfl ?_
        refine w_getR (n := 67) hLM10 (by decide +kernel) oO_258 fF_12_7 (at_483) (by decide) (ar_483_1) rfl ?_
        refine w_bipush (n := 69) (v := 10) (x := 10) (by decide +kernel) rfl (by decide) ?_
        obtain ⟨i11, gi11, h⟩ := h
        refine w_iald (n := 70) hLM10 (by decide +kernel) (at_484) (an_484) gi11 rfl ?_
        refine w_iload_n (n := 71) (i := 2) (by decide +kernel) rfl rfl ?_
        refine w_isub (n := 72) (by decide +kernel) rfl ?_
        obtain ⟨v13, M12, hLM12, hr14, h⟩ := h
        refine w_cV (n := 75) (idx := 317) (cal := 162) (na := 1) (nl := 2) (as := [.int ((ak_I M10 484 i11) - (ak_I M8 484 i9))]) (rest := []) hLM10 (by decide +kernel) (by decide +kernel) (at_483) (by decide +kernel) rfl rfl rfl (Nat.le_of_ble_eq_true rfl) rfl hr14 ?_
        subst h
        exact w_ireturn (by decide +kernel) (w_okI (by decide +kernel))
    · rw [if_neg c32] at h
      refine w_icmp_gt_n (n := 31) (off := 7) (by decide +kernel) rfl c32 ?_
      refine w_iconst (n := 32) (v := 1) (x := 1) (by decide +kernel) rfl (by decide) ?_
      refine w_goto (n := 36) (off := 4) (by decide +kernel) (by decide) ?_
      refine w_iconst (n := 37) (v := 2) (x := 2) (by decide +kernel) rfl (by decide) ?_
      obtain ⟨v20, M19, hLM19, hr31, h⟩ := h
      refine w_cV (n := 40) (idx := 257) (cal := 156) (na := 2) (nl := 3) (as := [.int 1, .int 2]) (rest := []) hLM3 (by decide +kernel) (by decide +kernel) (at_483) (by decide +kernel) rfl rfl rfl (Nat.le_of_ble_eq_true rfl) rfl hr31 ?_
      by_cases c30 : v20 = 0
      · rw [if_pos c30] at h
        refine w_if_ne_n (n := 43) (off := 5) (by decide +kernel) rfl c30 ?_
        refine w_iconst (n := 44) (v := 0) (x := 0) (by decide +kernel) rfl (by decide) ?_
        subst h
        exact w_ireturn (by decide +kernel) (w_okI (by decide +kernel))
      · rw [if_neg c30] at h
        refine w_if_ne_j (n := 45) (off := 5) (by decide +kernel) (by decide) c30 ?_
        refine w_aload_n (n := 46) (i := 0) (by decide +kernel) rfl rfl ?_
        obtain ⟨M21, hLM21, hr29, h⟩ := h
        refine w_cV (n := 49) (idx := 314) (cal := 161) (na := 0) (nl := 1) (as := []) (rest := []) hLM19 (by decide +kernel) (by decide +kernel) (at_483) (by decide +kernel) rfl rfl rfl (Nat.le_of_ble_eq_true rfl) rfl hr29 ?_
        refine w_aload_n (n := 50) (i := 0) (by decide +kernel) rfl rfl ?_
        refine w_getR (n := 53) hLM21 (by decide +kernel) oO_258 fF_12_7 (at_483) (by decide) (ar_483_1) rfl ?_
        refine w_bipush (n := 55) (v := 10) (x := 10) (by decide +kernel) rfl (by decide) ?_
        obtain ⟨i22, gi22, h⟩ := h
        refine w_iald (n := 56) hLM21 (by decide +kernel) (at_484) (an_484) gi22 rfl ?_
        refine w_istore_n (n := 57) (i := 2) (l1' := [some (.ref 483), some (.int x1), some (.int (ak_I M21 484 i22))]) (l2' := []) (by decide +kernel) rfl (Nat.le_of_ble_eq_true rfl) rfl rfl ?_
        refine w_aload_n (n := 58) (i := 0) (by decide +kernel) rfl rfl ?_
        refine w_iload_n (n := 59) (i := 1) (by decide +kernel) rfl rfl ?_
        obtain ⟨M23, hLM23, hr28, h⟩ := h
        refine w_cV (n := 62) (idx := 294) (cal := 213) (na := 1) (nl := 2) (as := [.int x1]) (rest := []) hLM21 (by decide +kernel) (by decide +kernel) (at_483) (by decide +kernel) rfl rfl rfl (Nat.le_of_ble_eq_true rfl) rfl hr28 ?_
        refine w_aload_n (n := 63) (i := 0) (by decide +kernel) rfl rfl ?_
        refine w_aload_n (n := 64) (i := 0) (by decide +kernel) rfl rfl ?_
        refine w_getR (n := 67) hLM23 (by decide +kernel) oO_258 fF_12_7 (at_483) (by decide) (ar_483_1) rfl ?_
        refine w_bipush (n := 69) (v := 10) (x := 10) (by decide +kernel) rfl (by decide) ?_
        obtain ⟨i24, gi24, h⟩ := h
        refine w_iald (n := 70) hLM23 (by decide +kernel) (at_484) (an_484) gi24 rfl ?_
        refine w_iload_n (n := 71) (i := 2) (by decide +kernel) rfl rfl ?_
        refine w_isub (n := 72) (by decide +kernel) rfl ?_
        obtain ⟨v26, M25, hLM25, hr27, h⟩ := h
        refine w_cV (n := 75) (idx := 317) (cal := 162) (na := 1) (nl := 2) (as := [.int ((ak_I M23 484 i24) - (ak_I M21 484 i22))]) (rest := []) hLM23 (by decide +kernel) (by decide +kernel) (at_483) (by decide +kernel) rfl rfl rfl (Nat.le_of_ble_eq_true rfl) rfl hr27 ?_
        subst h
        exact w_ireturn (by decide +kernel) (w_okI (by decide +kernel))
theorem t_259 {X : ak_X} {M : ak_M} {r : ak_O × ak_M} (hL : ab_lay M) (x1 : Int32) (h : (∃ (v2 : Int32) (M1 : ak_M), ab_lay M1 ∧ rn X 171 [.ref 483, .int x1, .int 4] M (.inl (some (.int v2)), M1) ∧ (∃ (M3 : ak_M), ab_lay M3 ∧ rn X 172 [.ref 483, .int x1, .int 1, .int v2] M1 (.inl (none), M3) ∧ (∃ (v5 : Int32) (M4 : ak_M), ab_lay M4 ∧ rn X 171 [.ref 483, .int x1, .int 5] M3 (.inl (some (.int v5)), M4) ∧ (∃ (M6 : ak_M), ab_lay M6 ∧ rn X 172 [.ref 483, .int x1, .int 2, .int v5] M4 (.inl (none), M6) ∧ r = (.inl none, M6)))))) : rn X 259 [.ref 483, .int x1] M r := by
  refine w_rn (nL := 2) (l1 := [some (.ref 483), some (.int x1)]) (by decide +kernel) rfl rfl ?_
  refine w_aload_n (n := 1) (i := 0) (by decide +kernel) rfl rfl ?_
  refine w_iload_n (n := 2) (i := 1) (by decide +kernel) rfl rfl ?_
  refine w_iconst (n := 3) (v := 1) (x := 1) (by decide +kernel) rfl (by decide) ?_
  refine w_aload_n (n := 4) (i := 0) (by decide +kernel) rfl rfl ?_
  refine w_iload_n (n := 5) (i := 1) (by decide +kernel) rfl rfl ?_
  refine w_iconst (n := 6) (v := 4) (x := 4) (by decide +kernel) rfl (by decide) ?_
  obtain ⟨v2, M1, hLM1, hr10, h⟩ := h
  refine w_cV (n := 9) (idx := 92) (cal := 171) (na := 2) (nl := 3) (as := [.int x1, .int 4]) (rest := [.int 1, .int x1, .ref 483]) hL (by decide +kernel) (by decide +kernel) (at_483) (by decide +kernel) rfl rfl rfl (Nat.le_of_ble_eq_true rfl) rfl hr10 ?_
  obtain ⟨M3, hLM3, hr9, h⟩ := h
  refine w_cV (n := 12) (idx := 96) (cal := 172) (na := 3) (nl := 4) (as := [.int x1, .int 1, .int v2]) (rest := []) hLM1 (by decide +kernel) (by decide +kernel) (at_483) (by decide +kernel) rfl rfl rfl (Nat.le_of_ble_eq_true rfl) rfl hr9 ?_
  refine w_aload_n (n := 13) (i := 0) (by decide +kernel) rfl rfl ?_
  refine w_iload_n (n := 14) (i := 1) (by decide +kernel) rfl rfl ?_
  refine w_iconst (n := 15) (v := 2) (x := 2) (by decide +kernel) rfl (by decide) ?_
  refine w_aload_n (n := 16) (i := 0) (by decide +kernel) rfl rfl ?_
  refine w_iload_n (n := 17) (i := 1) (by decide +kernel) rfl rfl ?_
  refine w_iconst (n := 18) (v := 5) (x := 5) (by decide +kernel) rfl (by decide) ?_
  obtain ⟨v5, M4, hLM4, hr8, h⟩ := h
  refine w_cV (n := 21) (idx := 92) (cal := 171) (na := 2) (nl := 3) (as := [.int x1, .int 5]) (rest := [.int 2, .int x1, .ref 483]) hLM3 (by decide +kernel) (by decide +kernel) (at_483) (by decide +kernel) rfl rfl rfl (Nat.le_of_ble_eq_true rfl) rfl hr8 ?_
  obtain ⟨M6, hLM6, hr7, h⟩ := h
  refine w_cV (n := 24) (idx := 96) (cal := 172) (na := 3) (nl := 4) (as := [.int x1, .int 2, .int v5]) (rest := []) hLM4 (by decide +kernel) (by decide +kernel) (at_483) (by decide +kernel) rfl rfl rfl (Nat.le_of_ble_eq_true rfl) rfl hr7 ?_
  subst h
  exact w_vreturn (by decide +kernel) (by decide +kernel)
