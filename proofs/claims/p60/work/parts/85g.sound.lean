/-! the walk of isSound, laid by wip/p60/lawn.py -/
theorem t_362 {X : ak_X} {M : ak_M} {r : ak_O × ak_M} (hL : ab_lay M) (x1 : Int32) (h : (∃ (v2 : Int32) (M1 : ak_M), ab_lay M1 ∧ rn X 92 [.ref 0, .int 0] M (.inl (some (.int v2)), M1) ∧ sg X 362 (17, [some (.ref 0), some (.int x1), some (.int v2), some (.int 0), some (.int 0), some (.int 0), some (.int 3), none, none, none, none], [], []) M1 r)) : rn X 362 [.ref 0, .int x1] M r := by
  refine w_rn (nL := 11) (l1 := [some (.ref 0), some (.int x1), none, none, none, none, none, none, none, none, none]) (by decide +kernel) rfl rfl ?_
  refine w_aload_n (n := 1) (i := 0) (by decide +kernel) rfl rfl ?_
  refine w_iconst (n := 2) (v := 0) (x := 0) (by decide +kernel) rfl (by decide) ?_
  obtain ⟨v2, M1, hLM1, hr3, h⟩ := h
  refine w_cV (n := 5) (idx := 91) (cal := 92) (na := 1) (nl := 2) (as := [.int 0]) (rest := []) hL (by decide +kernel) (by decide +kernel) (at_0) (by decide +kernel) rfl rfl rfl (Nat.le_of_ble_eq_true rfl) rfl hr3 ?_
  refine w_istore_n (n := 6) (i := 2) (l1' := [some (.ref 0), some (.int x1), some (.int v2), none, none, none, none, none, none, none, none]) (l2' := []) (by decide +kernel) rfl (Nat.le_of_ble_eq_true rfl) rfl rfl ?_
  refine w_iconst (n := 7) (v := 0) (x := 0) (by decide +kernel) rfl (by decide) ?_
  refine w_istore_n (n := 8) (i := 3) (l1' := [some (.ref 0), some (.int x1), some (.int v2), some (.int 0), none, none, none, none, none, none, none]) (l2' := []) (by decide +kernel) rfl (Nat.le_of_ble_eq_true rfl) rfl rfl ?_
  refine w_iconst (n := 9) (v := 0) (x := 0) (by decide +kernel) rfl (by decide) ?_
  refine w_istore (n := 11) (i := 4) (l1' := [some (.ref 0), some (.int x1), some (.int v2), some (.int 0), some (.int 0), none, none, none, none, none, none]) (l2' := []) (by decide +kernel) rfl (Nat.le_of_ble_eq_true rfl) rfl rfl ?_
  refine w_iconst (n := 12) (v := 0) (x := 0) (by decide +kernel) rfl (by decide) ?_
  refine w_istore (n := 14) (i := 5) (l1' := [some (.ref 0), some (.int x1), some (.int v2), some (.int 0), some (.int 0), some (.int 0), none, none, none, none, none]) (l2' := []) (by decide +kernel) rfl (Nat.le_of_ble_eq_true rfl) rfl rfl ?_
  refine w_iconst (n := 15) (v := 3) (x := 3) (by decide +kernel) rfl (by decide) ?_
  refine w_istore (n := 17) (i := 6) (l1' := [some (.ref 0), some (.int x1), some (.int v2), some (.int 0), some (.int 0), some (.int 0), some (.int 3), none, none, none, none]) (l2' := []) (by decide +kernel) rfl (Nat.le_of_ble_eq_true rfl) rfl rfl ?_
  exact h
theorem t_362_17 {X : ak_X} {M : ak_M} {r : ak_O × ak_M} (hL : ab_lay M) (x1 : Int32) (y2 : Int32) (y3 : Int32) (y4 : Int32) (y5 : Int32) (y6 : Int32) (o7 : Option Value) (o8 : Option Value) (o9 : Option Value) (o10 : Option Value) (h : (if 8 ≤ y6 then sg X 362 (44, [some (.ref 0), some (.int x1), some (.int y2), some (.int y3), some (.int y4), some (.int y5), some (.int 0), o7, o8, o9, o10], [], []) M r else (∃ (v5 : Int32) (M4 : ak_M), ab_lay M4 ∧ rn X 92 [.ref 0, .int y6] M (.inl (some (.int v5)), M4) ∧ sg X 362 (17, [some (.ref 0), some (.int x1), some (.int y2), some (.int y3), some (.int y4), some (.int (y5 + v5)), some (.int (y6 + 1)), o7, o8, o9, o10], [], []) M4 r))) : sg X 362 (17, [some (.ref 0), some (.int x1), some (.int y2), some (.int y3), some (.int y4), some (.int y5), some (.int y6), o7, o8, o9, o10], [], []) M r := by
  refine w_iload (n := 19) (i := 6) (by decide +kernel) rfl rfl ?_
  refine w_bipush (n := 21) (v := 8) (x := 8) (by decide +kernel) rfl (by decide) ?_
  by_cases c7 : 8 ≤ y6
  · rw [if_pos c7] at h
    refine w_icmp_ge_j (n := 41) (off := 20) (by decide +kernel) (by decide) c7 ?_
    refine w_iconst (n := 42) (v := 0) (x := 0) (by decide +kernel) rfl (by decide) ?_
    refine w_istore (n := 44) (i := 6) (l1' := [some (.ref 0), some (.int x1), some (.int y2), some (.int y3), some (.int y4), some (.int y5), some (.int 0), o7, o8, o9, o10]) (l2' := []) (by decide +kernel) rfl (Nat.le_of_ble_eq_true rfl) rfl rfl ?_
    exact h
  · rw [if_neg c7] at h
    refine w_icmp_ge_n (n := 24) (off := 20) (by decide +kernel) rfl c7 ?_
    refine w_iload (n := 26) (i := 5) (by decide +kernel) rfl rfl ?_
    refine w_aload_n (n := 27) (i := 0) (by decide +kernel) rfl rfl ?_
    refine w_iload (n := 29) (i := 6) (by decide +kernel) rfl rfl ?_
    obtain ⟨v5, M4, hLM4, hr6, h⟩ := h
    refine w_cV (n := 32) (idx := 91) (cal := 92) (na := 1) (nl := 2) (as := [.int y6]) (rest := [.int y5]) hL (by decide +kernel) (by decide +kernel) (at_0) (by decide +kernel) rfl rfl rfl (Nat.le_of_ble_eq_true rfl) rfl hr6 ?_
    refine w_iadd (n := 33) (by decide +kernel) rfl ?_
    refine w_istore (n := 35) (i := 5) (l1' := [some (.ref 0), some (.int x1), some (.int y2), some (.int y3), some (.int y4), some (.int (y5 + v5)), some (.int y6), o7, o8, o9, o10]) (l2' := []) (by decide +kernel) rfl (Nat.le_of_ble_eq_true rfl) rfl rfl ?_
    refine w_iinc (n := 38) (i := 6) (v := 1) (y := y6 + 1) (l1' := [some (.ref 0), some (.int x1), some (.int y2), some (.int y3), some (.int y4), some (.int (y5 + v5)), some (.int (y6 + 1)), o7, o8, o9, o10]) (l2' := []) (by decide +kernel) rfl rfl rfl rfl rfl ?_
    refine w_goto (n := 17) (off := (-21)) (by decide +kernel) (by decide) ?_
    exact h
theorem t_362_44 {X : ak_X} {M : ak_M} {r : ak_O × ak_M} (hL : ab_lay M) (x1 : Int32) (y2 : Int32) (y3 : Int32) (y4 : Int32) (y5 : Int32) (y6 : Int32) (o7 : Option Value) (o8 : Option Value) (o9 : Option Value) (o10 : Option Value) (h : (if y2 ≤ y6 then (∃ (v9 : Int32) (M8 : ak_M), ab_lay M8 ∧ rn X 92 [.ref 0, .int 10] M (.inl (some (.int v9)), M8) ∧ (if y3 = v9 then (∃ (v11 : Int32) (M10 : ak_M), ab_lay M10 ∧ rn X 92 [.ref 0, .int 11] M8 (.inl (some (.int v11)), M10) ∧ (if y4 = v11 then (if y5 = y2 then ((∃ (v13 : Int32) (M12 : ak_M), ab_lay M12 ∧ rn X 113 [.ref 0, .int 11] M10 (.inl (some (.int v13)), M12) ∧ (∃ (v15 : Int32) (M14 : ak_M), ab_lay M14 ∧ rn X 92 [.ref 0, .int 9] M12 (.inl (some (.int v15)), M14) ∧ (∃ (v17 : Int32) (M16 : ak_M), ab_lay M16 ∧ rn X 92 [.ref 0, .int 7] M14 (.inl (some (.int v17)), M16) ∧ (if v13 = v15 + (2 * v17) then (∃ (v19 : Int32) (M18 : ak_M), ab_lay M18 ∧ rn X 92 [.ref 0, .int 8] M16 (.inl (some (.int v19)), M18) ∧ (if 12 < v19 then sg X 362 (682, [some (.ref 0), some (.int x1), some (.int y2), some (.int y3), some (.int y4), some (.int y5), some (.int y6), o7, o8, o9, o10], [], []) M18 r else (∃ (v21 : Int32) (M20 : ak_M), ab_lay M20 ∧ rn X 105 [.ref 0] M18 (.inl (some (.int v21)), M20) ∧ (if v21 = (-1) then (∃ (v27 : Int32) (M26 : ak_M), ab_lay M26 ∧ rn X 92 [.ref 0, .int 3] M20 (.inl (some (.int v27)), M26) ∧ (if v27 = 0 then r = (.inl (some (.int 1)), M26) else sg X 362 (682, [some (.ref 0), some (.int x1), some (.int y2), some (.int y3), some (.int y4), some (.int y5), some (.int y6), o7, o8, o9, o10], [], []) M26 r)) else (∃ (v23 : Int32) (M22 : ak_M), ab_lay M22 ∧ rn X 92 [.ref 0, .int 3] M20 (.inl (some (.int v23)), M22) ∧ (if v23 = 0 then sg X 362 (682, [some (.ref 0), some (.int x1), some (.int y2), some (.int y3), some (.int y4), some (.int y5), some (.int y6), o7, o8, o9, o10], [], []) M22 r else r = (.inl (some (.int 1)), M22))))))) else sg X 362 (682, [some (.ref 0), some (.int x1), some (.int y2), some (.int y3), some (.int y4), some (.int y5), some (.int y6), o7, o8, o9, o10], [], []) M16 r)))) ∨ ∃ (E38 : Nat) (M39 : ak_M), rn X 113 [.ref 0, .int 11] M10 (.inr E38, M39) ∧ r = (.inr E38, M39)) else sg X 362 (682, [some (.ref 0), some (.int x1), some (.int y2), some (.int y3), some (.int y4), some (.int y5), some (.int y6), o7, o8, o9, o10], [], []) M10 r) else sg X 362 (682, [some (.ref 0), some (.int x1), some (.int y2), some (.int y3), some (.int y4), some (.int y5), some (.int y6), o7, o8, o9, o10], [], []) M10 r)) else sg X 362 (682, [some (.ref 0), some (.int x1), some (.int y2), some (.int y3), some (.int y4), some (.int y5), some (.int y6), o7, o8, o9, o10], [], []) M8 r)) else sg X 362 (56, [some (.ref 0), some (.int x1), some (.int y2), some (.int y3), some (.int y4), some (.int y5), some (.int y6), some (.int 0), some (.int 0), o9, o10], [], []) M r)) : sg X 362 (44, [some (.ref 0), some (.int x1), some (.int y2), some (.int y3), some (.int y4), some (.int y5), some (.int y6), o7, o8, o9, o10], [], []) M r := by
  refine w_iload (n := 46) (i := 6) (by decide +kernel) rfl rfl ?_
  refine w_iload_n (n := 47) (i := 2) (by decide +kernel) rfl rfl ?_
  by_cases c46 : y2 ≤ y6
  · rw [if_pos c46] at h
    refine w_icmp_ge_j (n := 587) (off := 540) (by decide +kernel) (by decide) c46 ?_
    refine w_iload_n (n := 588) (i := 3) (by decide +kernel) rfl rfl ?_
    refine w_aload_n (n := 589) (i := 0) (by decide +kernel) rfl rfl ?_
    refine w_bipush (n := 591) (v := 10) (x := 10) (by decide +kernel) rfl (by decide) ?_
    obtain ⟨v9, M8, hLM8, hr45, h⟩ := h
    refine w_cV (n := 594) (idx := 91) (cal := 92) (na := 1) (nl := 2) (as := [.int 10]) (rest := [.int y3]) hL (by decide +kernel) (by decide +kernel) (at_0) (by decide +kernel) rfl rfl rfl (Nat.le_of_ble_eq_true rfl) rfl hr45 ?_
    by_cases c44 : y3 = v9
    · rw [if_pos c44] at h
      refine w_icmp_ne_n (n := 597) (off := 88) (by decide +kernel) rfl c44 ?_
      refine w_iload (n := 599) (i := 4) (by decide +kernel) rfl rfl ?_
      refine w_aload_n (n := 600) (i := 0) (by decide +kernel) rfl rfl ?_
      refine w_bipush (n := 602) (v := 11) (x := 11) (by decide +kernel) rfl (by decide) ?_
      obtain ⟨v11, M10, hLM10, hr43, h⟩ := h
      refine w_cV (n := 605) (idx := 91) (cal := 92) (na := 1) (nl := 2) (as := [.int 11]) (rest := [.int y4]) hLM8 (by decide +kernel) (by decide +kernel) (at_0) (by decide +kernel) rfl rfl rfl (Nat.le_of_ble_eq_true rfl) rfl hr43 ?_
      by_cases c42 : y4 = v11
      · rw [if_pos c42] at h
        refine w_icmp_ne_n (n := 608) (off := 77) (by decide +kernel) rfl c42 ?_
        refine w_iload (n := 610) (i := 5) (by decide +kernel) rfl rfl ?_
        refine w_iload_n (n := 611) (i := 2) (by decide +kernel) rfl rfl ?_
        by_cases c41 : y5 = y2
        · rw [if_pos c41] at h
          refine w_icmp_ne_n (n := 614) (off := 71) (by decide +kernel) rfl c41 ?_
          refine w_aload_n (n := 615) (i := 0) (by decide +kernel) rfl rfl ?_
          refine w_bipush (n := 617) (v := 11) (x := 11) (by decide +kernel) rfl (by decide) ?_
          rcases h with h | ⟨E38, M39, hr40, rfl⟩
          · obtain ⟨v13, M12, hLM12, hr37, h⟩ := h
            refine w_cV (n := 620) (idx := 131) (cal := 113) (na := 1) (nl := 2) (as := [.int 11]) (rest := []) hLM10 (by decide +kernel) (by decide +kernel) (at_0) (by decide +kernel) rfl rfl rfl (Nat.le_of_ble_eq_true rfl) rfl hr37 ?_
            refine w_aload_n (n := 621) (i := 0) (by decide +kernel) rfl rfl ?_
            refine w_bipush (n := 623) (v := 9) (x := 9) (by decide +kernel) rfl (by decide) ?_
            obtain ⟨v15, M14, hLM14, hr36, h⟩ := h
            refine w_cV (n := 626) (idx := 91) (cal := 92) (na := 1) (nl := 2) (as := [.int 9]) (rest := [.int v13]) hLM12 (by decide +kernel) (by decide +kernel) (at_0) (by decide +kernel) rfl rfl rfl (Nat.le_of_ble_eq_true rfl) rfl hr36 ?_
            refine w_iconst (n := 627) (v := 2) (x := 2) (by decide +kernel) rfl (by decide) ?_
            refine w_aload_n (n := 628) (i := 0) (by decide +kernel) rfl rfl ?_
            refine w_bipush (n := 630) (v := 7) (x := 7) (by decide +kernel) rfl (by decide) ?_
            obtain ⟨v17, M16, hLM16, hr35, h⟩ := h
            refine w_cV (n := 633) (idx := 91) (cal := 92) (na := 1) (nl := 2) (as := [.int 7]) (rest := [.int 2, .int v15, .int v13]) hLM14 (by decide +kernel) (by decide +kernel) (at_0) (by decide +kernel) rfl rfl rfl (Nat.le_of_ble_eq_true rfl) rfl hr35 ?_
            refine w_imul (n := 634) (by decide +kernel) rfl ?_
            refine w_iadd (n := 635) (by decide +kernel) rfl ?_
            by_cases c34 : v13 = v15 + (2 * v17)
            · rw [if_pos c34] at h
              refine w_icmp_ne_n (n := 638) (off := 47) (by decide +kernel) rfl c34 ?_
              refine w_aload_n (n := 639) (i := 0) (by decide +kernel) rfl rfl ?_
              refine w_bipush (n := 641) (v := 8) (x := 8) (by decide +kernel) rfl (by decide) ?_
              obtain ⟨v19, M18, hLM18, hr33, h⟩ := h
              refine w_cV (n := 644) (idx := 91) (cal := 92) (na := 1) (nl := 2) (as := [.int 8]) (rest := []) hLM16 (by decide +kernel) (by decide +kernel) (at_0) (by decide +kernel) rfl rfl rfl (Nat.le_of_ble_eq_true rfl) rfl hr33 ?_
              refine w_bipush (n := 646) (v := 12) (x := 12) (by decide +kernel) rfl (by decide) ?_
              by_cases c32 : 12 < v19
              · rw [if_pos c32] at h
                refine w_icmp_gt_j (n := 682) (off := 36) (by decide +kernel) (by decide) c32 ?_
                exact h
              · rw [if_neg c32] at h
                refine w_icmp_gt_n (n := 649) (off := 36) (by decide +kernel) rfl c32 ?_
                refine w_aload_n (n := 650) (i := 0) (by decide +kernel) rfl rfl ?_
                obtain ⟨v21, M20, hLM20, hr31, h⟩ := h
                refine w_cV (n := 653) (idx := 134) (cal := 105) (na := 0) (nl := 1) (as := []) (rest := []) hLM18 (by decide +kernel) (by decide +kernel) (at_0) (by decide +kernel) rfl rfl rfl (Nat.le_of_ble_eq_true rfl) rfl hr31 ?_
                refine w_iconst (n := 654) (v := -1) (x := (-1)) (by decide +kernel) rfl (by decide) ?_
                by_cases c30 : v21 = (-1)
                · rw [if_pos c30] at h
                  refine w_icmp_ne_n (n := 657) (off := 7) (by decide +kernel) rfl c30 ?_
                  refine w_iconst (n := 658) (v := 1) (x := 1) (by decide +kernel) rfl (by decide) ?_
                  refine w_goto (n := 662) (off := 4) (by decide +kernel) (by decide) ?_
                  refine w_aload_n (n := 663) (i := 0) (by decide +kernel) rfl rfl ?_
                  refine w_iconst (n := 664) (v := 3) (x := 3) (by decide +kernel) rfl (by decide) ?_
                  obtain ⟨v27, M26, hLM26, hr29, h⟩ := h
                  refine w_cV (n := 667) (idx := 91) (cal := 92) (na := 1) (nl := 2) (as := [.int 3]) (rest := [.int 1]) hLM20 (by decide +kernel) (by decide +kernel) (at_0) (by decide +kernel) rfl rfl rfl (Nat.le_of_ble_eq_true rfl) rfl hr29 ?_
                  by_cases c28 : v27 = 0
                  · rw [if_pos c28] at h
                    refine w_if_ne_n (n := 670) (off := 7) (by decide +kernel) rfl c28 ?_
                    refine w_iconst (n := 671) (v := 1) (x := 1) (by decide +kernel) rfl (by decide) ?_
                    refine w_goto (n := 675) (off := 4) (by decide +kernel) (by decide) ?_
                    refine w_icmp_ne_n (n := 678) (off := 7) (by decide +kernel) rfl (by decide) ?_
                    refine w_iconst (n := 679) (v := 1) (x := 1) (by decide +kernel) rfl (by decide) ?_
                    refine w_goto (n := 683) (off := 4) (by decide +kernel) (by decide) ?_
                    subst h
                    exact w_ireturn (by decide +kernel) (by decide +kernel)
                  · rw [if_neg c28] at h
                    refine w_if_ne_j (n := 674) (off := 7) (by decide +kernel) (by decide) c28 ?_
                    refine w_iconst (n := 675) (v := 0) (x := 0) (by decide +kernel) rfl (by decide) ?_
                    refine w_icmp_ne_j (n := 682) (off := 7) (by decide +kernel) (by decide) (by decide) ?_
                    exact h
                · rw [if_neg c30] at h
                  refine w_icmp_ne_j (n := 661) (off := 7) (by decide +kernel) (by decide) c30 ?_
                  refine w_iconst (n := 662) (v := 0) (x := 0) (by decide +kernel) rfl (by decide) ?_
                  refine w_aload_n (n := 663) (i := 0) (by decide +kernel) rfl rfl ?_
                  refine w_iconst (n := 664) (v := 3) (x := 3) (by decide +kernel) rfl (by decide) ?_
                  obtain ⟨v23, M22, hLM22, hr25, h⟩ := h
                  refine w_cV (n := 667) (idx := 91) (cal := 92) (na := 1) (nl := 2) (as := [.int 3]) (rest := [.int 0]) hLM20 (by decide +kernel) (by decide +kernel) (at_0) (by decide +kernel) rfl rfl rfl (Nat.le_of_ble_eq_true rfl) rfl hr25 ?_
                  by_cases c24 : v23 = 0
                  · rw [if_pos c24] at h
                    refine w_if_ne_n (n := 670) (off := 7) (by decide +kernel) rfl c24 ?_
                    refine w_iconst (n := 671) (v := 1) (x := 1) (by decide +kernel) rfl (by decide) ?_
                    refine w_goto (n := 675) (off := 4) (by decide +kernel) (by decide) ?_
                    refine w_icmp_ne_j (n := 682) (off := 7) (by decide +kernel) (by decide) (by decide) ?_
                    exact h
                  · rw [if_neg c24] at h
                    refine w_if_ne_j (n := 674) (off := 7) (by decide +kernel) (by decide) c24 ?_
                    refine w_iconst (n := 675) (v := 0) (x := 0) (by decide +kernel) rfl (by decide) ?_
                    refine w_icmp_ne_n (n := 678) (off := 7) (by decide +kernel) rfl (by decide) ?_
                    refine w_iconst (n := 679) (v := 1) (x := 1) (by decide +kernel) rfl (by decide) ?_
                    refine w_goto (n := 683) (off := 4) (by decide +kernel) (by decide) ?_
                    subst h
                    exact w_ireturn (by decide +kernel) (by decide +kernel)
            · rw [if_neg c34] at h
              refine w_icmp_ne_j (n := 682) (off := 47) (by decide +kernel) (by decide) c34 ?_
              exact h
          · exact w_tV (idx := 131) (cal := 113) (na := 1) (nl := 2) (as := [.int 11]) (rest := []) hLM10 (by decide +kernel) (by decide +kernel) (at_0) (by decide +kernel) rfl rfl rfl (Nat.le_of_ble_eq_true rfl) (by decide +kernel) (by decide +kernel) hr40
        · rw [if_neg c41] at h
          refine w_icmp_ne_j (n := 682) (off := 71) (by decide +kernel) (by decide) c41 ?_
          exact h
      · rw [if_neg c42] at h
        refine w_icmp_ne_j (n := 682) (off := 77) (by decide +kernel) (by decide) c42 ?_
        exact h
    · rw [if_neg c44] at h
      refine w_icmp_ne_j (n := 682) (off := 88) (by decide +kernel) (by decide) c44 ?_
      exact h
  · rw [if_neg c46] at h
    refine w_icmp_ge_n (n := 50) (off := 540) (by decide +kernel) rfl c46 ?_
    refine w_iconst (n := 51) (v := 0) (x := 0) (by decide +kernel) rfl (by decide) ?_
    refine w_istore (n := 53) (i := 7) (l1' := [some (.ref 0), some (.int x1), some (.int y2), some (.int y3), some (.int y4), some (.int y5), some (.int y6), some (.int 0), o8, o9, o10]) (l2' := []) (by decide +kernel) rfl (Nat.le_of_ble_eq_true rfl) rfl rfl ?_
    refine w_iconst (n := 54) (v := 0) (x := 0) (by decide +kernel) rfl (by decide) ?_
    refine w_istore (n := 56) (i := 8) (l1' := [some (.ref 0), some (.int x1), some (.int y2), some (.int y3), some (.int y4), some (.int y5), some (.int y6), some (.int 0), some (.int 0), o9, o10]) (l2' := []) (by decide +kernel) rfl (Nat.le_of_ble_eq_true rfl) rfl rfl ?_
    exact h
theorem t_362_56 {X : ak_X} {M : ak_M} {r : ak_O × ak_M} (hL : ab_lay M) (x1 : Int32) (y2 : Int32) (y3 : Int32) (y4 : Int32) (y5 : Int32) (y6 : Int32) (y7 : Int32) (y8 : Int32) (o9 : Option Value) (o10 : Option Value) (h : (if y2 ≤ y8 then ((∃ (v48 : Int32) (M47 : ak_M), ab_lay M47 ∧ rn X 95 [.ref 0, .int y6, .int 3] M (.inl (some (.int v48)), M47) ∧ ((∃ (v50 : Int32) (M49 : ak_M), ab_lay M49 ∧ rn X 103 [.ref 0, .int y6] M47 (.inl (some (.int v50)), M49) ∧ (if y7 = v50 then ((∃ (v52 : Int32) (M51 : ak_M), ab_lay M51 ∧ rn X 112 [.ref 0, .int y6] M49 (.inl (some (.int v52)), M51) ∧ (if v52 < 0 then ((∃ (v54 : Int32) (M53 : ak_M), ab_lay M53 ∧ rn X 102 [.ref 0, .int y6] M51 (.inl (some (.int v54)), M53) ∧ (if v54 = 0 then (if v48 < 0 then sg X 362 (554, [some (.ref 0), some (.int x1), some (.int y2), some (.int y3), some (.int y4), some (.int y5), some (.int y6), some (.int y7), some (.int v48), o9, o10], [], []) M53 r else (if 300 < v48 then sg X 362 (554, [some (.ref 0), some (.int x1), some (.int y2), some (.int y3), some (.int y4), some (.int y5), some (.int y6), some (.int y7), some (.int v48), o9, o10], [], []) M53 r else ((∃ (v56 : Int32) (M55 : ak_M), ab_lay M55 ∧ rn X 98 [.ref 0, .int y6] M53 (.inl (some (.int v56)), M55) ∧ (if v56 < 0 then ((∃ (v58 : Int32) (M57 : ak_M), ab_lay M57 ∧ rn X 95 [.ref 0, .int y6, .int 0] M55 (.inl (some (.int v58)), M57) ∧ (if v58 = 0 then sg X 362 (554, [some (.ref 0), some (.int x1), some (.int y2), some (.int y3), some (.int y4), some (.int y5), some (.int y6), some (.int y7), some (.int v48), o9, o10], [], []) M57 r else ((∃ (v60 : Int32) (M59 : ak_M), ab_lay M59 ∧ rn X 95 [.ref 0, .int y6, .int 0] M57 (.inl (some (.int v60)), M59) ∧ (if v60 = 0 then (if v48 = 0 then sg X 362 (554, [some (.ref 0), some (.int x1), some (.int y2), some (.int y3), some (.int y4), some (.int y5), some (.int y6), some (.int y7), some (.int v48), o9, o10], [], []) M59 r else sg X 362 (522, [some (.ref 0), some (.int x1), some (.int y2), some (.int y3), some (.int y4), some (.int y5), some (.int y6), some (.int y7), some (.int v48), o9, o10], [], []) M59 r) else sg X 362 (522, [some (.ref 0), some (.int x1), some (.int y2), some (.int y3), some (.int y4), some (.int y5), some (.int y6), some (.int y7), some (.int v48), o9, o10], [], []) M59 r)) ∨ ∃ (E64 : Nat) (M65 : ak_M), rn X 95 [.ref 0, .int y6, .int 0] M57 (.inr E64, M65) ∧ r = (.inr E64, M65)))) ∨ ∃ (E69 : Nat) (M70 : ak_M), rn X 95 [.ref 0, .int y6, .int 0] M55 (.inr E69, M70) ∧ r = (.inr E69, M70)) else ((∃ (v73 : Int32) (M72 : ak_M), ab_lay M72 ∧ rn X 95 [.ref 0, .int y6, .int 0] M55 (.inl (some (.int v73)), M72) ∧ (if v73 = 0 then ((∃ (v75 : Int32) (M74 : ak_M), ab_lay M74 ∧ rn X 95 [.ref 0, .int y6, .int 0] M72 (.inl (some (.int v75)), M74) ∧ (if v75 = 0 then (if v48 = 0 then sg X 362 (554, [some (.ref 0), some (.int x1), some (.int y2), some (.int y3), some (.int y4), some (.int y5), some (.int y6), some (.int y7), some (.int v48), o9, o10], [], []) M74 r else sg X 362 (522, [some (.ref 0), some (.int x1), some (.int y2), some (.int y3), some (.int y4), some (.int y5), some (.int y6), some (.int y7), some (.int v48), o9, o10], [], []) M74 r) else sg X 362 (522, [some (.ref 0), some (.int x1), some (.int y2), some (.int y3), some (.int y4), some (.int y5), some (.int y6), some (.int y7), some (.int v48), o9, o10], [], []) M74 r)) ∨ ∃ (E79 : Nat) (M80 : ak_M), rn X 95 [.ref 0, .int y6, .int 0] M72 (.inr E79, M80) ∧ r = (.inr E79, M80)) else sg X 362 (554, [some (.ref 0), some (.int x1), some (.int y2), some (.int y3), some (.int y4), some (.int y5), some (.int y6), some (.int y7), some (.int v48), o9, o10], [], []) M72 r)) ∨ ∃ (E84 : Nat) (M85 : ak_M), rn X 95 [.ref 0, .int y6, .int 0] M55 (.inr E84, M85) ∧ r = (.inr E84, M85)))) ∨ ∃ (E89 : Nat) (M90 : ak_M), rn X 98 [.ref 0, .int y6] M53 (.inr E89, M90) ∧ r = (.inr E89, M90)))) else sg X 362 (554, [some (.ref 0), some (.int x1), some (.int y2), some (.int y3), some (.int y4), some (.int y5), some (.int y6), some (.int y7), some (.int v48), o9, o10], [], []) M53 r)) ∨ ∃ (E96 : Nat) (M97 : ak_M), rn X 102 [.ref 0, .int y6] M51 (.inr E96, M97) ∧ r = (.inr E96, M97)) else ((∃ (v100 : Int32) (M99 : ak_M), ab_lay M99 ∧ rn X 102 [.ref 0, .int y6] M51 (.inl (some (.int v100)), M99) ∧ (if v100 = 0 then sg X 362 (554, [some (.ref 0), some (.int x1), some (.int y2), some (.int y3), some (.int y4), some (.int y5), some (.int y6), some (.int y7), some (.int v48), o9, o10], [], []) M99 r else (if v48 < 0 then sg X 362 (554, [some (.ref 0), some (.int x1), some (.int y2), some (.int y3), some (.int y4), some (.int y5), some (.int y6), some (.int y7), some (.int v48), o9, o10], [], []) M99 r else (if 300 < v48 then sg X 362 (554, [some (.ref 0), some (.int x1), some (.int y2), some (.int y3), some (.int y4), some (.int y5), some (.int y6), some (.int y7), some (.int v48), o9, o10], [], []) M99 r else ((∃ (v102 : Int32) (M101 : ak_M), ab_lay M101 ∧ rn X 98 [.ref 0, .int y6] M99 (.inl (some (.int v102)), M101) ∧ (if v102 < 0 then ((∃ (v104 : Int32) (M103 : ak_M), ab_lay M103 ∧ rn X 95 [.ref 0, .int y6, .int 0] M101 (.inl (some (.int v104)), M103) ∧ (if v104 = 0 then sg X 362 (554, [some (.ref 0), some (.int x1), some (.int y2), some (.int y3), some (.int y4), some (.int y5), some (.int y6), some (.int y7), some (.int v48), o9, o10], [], []) M103 r else ((∃ (v106 : Int32) (M105 : ak_M), ab_lay M105 ∧ rn X 95 [.ref 0, .int y6, .int 0] M103 (.inl (some (.int v106)), M105) ∧ (if v106 = 0 then (if v48 = 0 then sg X 362 (554, [some (.ref 0), some (.int x1), some (.int y2), some (.int y3), some (.int y4), some (.int y5), some (.int y6), some (.int y7), some (.int v48), o9, o10], [], []) M105 r else sg X 362 (522, [some (.ref 0), some (.int x1), some (.int y2), some (.int y3), some (.int y4), some (.int y5), some (.int y6), some (.int y7), some (.int v48), o9, o10], [], []) M105 r) else sg X 362 (522, [some (.ref 0), some (.int x1), some (.int y2), some (.int y3), some (.int y4), some (.int y5), some (.int y6), some (.int y7), some (.int v48), o9, o10], [], []) M105 r)) ∨ ∃ (E110 : Nat) (M111 : ak_M), rn X 95 [.ref 0, .int y6, .int 0] M103 (.inr E110, M111) ∧ r = (.inr E110, M111)))) ∨ ∃ (E115 : Nat) (M116 : ak_M), rn X 95 [.ref 0, .int y6, .int 0] M101 (.inr E115, M116) ∧ r = (.inr E115, M116)) else ((∃ (v119 : Int32) (M118 : ak_M), ab_lay M118 ∧ rn X 95 [.ref 0, .int y6, .int 0] M101 (.inl (some (.int v119)), M118) ∧ (if v119 = 0 then ((∃ (v121 : Int32) (M120 : ak_M), ab_lay M120 ∧ rn X 95 [.ref 0, .int y6, .int 0] M118 (.inl (some (.int v121)), M120) ∧ (if v121 = 0 then (if v48 = 0 then sg X 362 (554, [some (.ref 0), some (.int x1), some (.int y2), some (.int y3), some (.int y4), some (.int y5), some (.int y6), some (.int y7), some (.int v48), o9, o10], [], []) M120 r else sg X 362 (522, [some (.ref 0), some (.int x1), some (.int y2), some (.int y3), some (.int y4), some (.int y5), some (.int y6), some (.int y7), some (.int v48), o9, o10], [], []) M120 r) else sg X 362 (522, [some (.ref 0), some (.int x1), some (.int y2), some (.int y3), some (.int y4), some (.int y5), some (.int y6), some (.int y7), some (.int v48), o9, o10], [], []) M120 r)) ∨ ∃ (E125 : Nat) (M126 : ak_M), rn X 95 [.ref 0, .int y6, .int 0] M118 (.inr E125, M126) ∧ r = (.inr E125, M126)) else sg X 362 (554, [some (.ref 0), some (.int x1), some (.int y2), some (.int y3), some (.int y4), some (.int y5), some (.int y6), some (.int y7), some (.int v48), o9, o10], [], []) M118 r)) ∨ ∃ (E130 : Nat) (M131 : ak_M), rn X 95 [.ref 0, .int y6, .int 0] M101 (.inr E130, M131) ∧ r = (.inr E130, M131)))) ∨ ∃ (E135 : Nat) (M136 : ak_M), rn X 98 [.ref 0, .int y6] M99 (.inr E135, M136) ∧ r = (.inr E135, M136)))))) ∨ ∃ (E142 : Nat) (M143 : ak_M), rn X 102 [.ref 0, .int y6] M51 (.inr E142, M143) ∧ r = (.inr E142, M143)))) ∨ ∃ (E147 : Nat) (M148 : ak_M), rn X 112 [.ref 0, .int y6] M49 (.inr E147, M148) ∧ r = (.inr E147, M148)) else sg X 362 (554, [some (.ref 0), some (.int x1), some (.int y2), some (.int y3), some (.int y4), some (.int y5), some (.int y6), some (.int y7), some (.int v48), o9, o10], [], []) M49 r)) ∨ ∃ (E152 : Nat) (M153 : ak_M), rn X 103 [.ref 0, .int y6] M47 (.inr E152, M153) ∧ r = (.inr E152, M153))) ∨ ∃ (E156 : Nat) (M157 : ak_M), rn X 95 [.ref 0, .int y6, .int 3] M (.inr E156, M157) ∧ r = (.inr E156, M157)) else ((∃ (v160 : Int32) (M159 : ak_M), ab_lay M159 ∧ rn X 100 [.ref 0, .int y6, .int y8] M (.inl (some (.int v160)), M159) ∧ ((∃ (v162 : Int32) (M161 : ak_M), ab_lay M161 ∧ rn X 102 [.ref 0, .int y6] M159 (.inl (some (.int v162)), M161) ∧ (if (v162 >>> (y8 &&& 31)) &&& 1 = 1 then ((∃ (v171 : Int32) (M170 : ak_M), ab_lay M170 ∧ rn X 100 [.ref 0, .int y8, .int y6] M161 (.inl (some (.int v171)), M170) ∧ (if v160 = v171 then (if v160 = 0 then sg X 362 (215, [some (.ref 0), some (.int x1), some (.int y2), some (.int y3), some (.int y4), some (.int y5), some (.int y6), some (.int y7), some (.int y8), some (.int v160), some (.int 1)], [], []) M170 r else sg X 362 (117, [some (.ref 0), some (.int x1), some (.int y2), some (.int y3), some (.int y4), some (.int y5), some (.int y6), some (.int y7), some (.int y8), some (.int v160), some (.int 1)], [], []) M170 r) else sg X 362 (215, [some (.ref 0), some (.int x1), some (.int y2), some (.int y3), some (.int y4), some (.int y5), some (.int y6), some (.int y7), some (.int y8), some (.int v160), some (.int 1)], [], []) M170 r)) ∨ ∃ (E175 : Nat) (M176 : ak_M), rn X 100 [.ref 0, .int y8, .int y6] M161 (.inr E175, M176) ∧ r = (.inr E175, M176)) else ((∃ (v164 : Int32) (M163 : ak_M), ab_lay M163 ∧ rn X 100 [.ref 0, .int y8, .int y6] M161 (.inl (some (.int v164)), M163) ∧ (if v160 = v164 then sg X 362 (117, [some (.ref 0), some (.int x1), some (.int y2), some (.int y3), some (.int y4), some (.int y5), some (.int y6), some (.int y7), some (.int y8), some (.int v160), some (.int 0)], [], []) M163 r else sg X 362 (215, [some (.ref 0), some (.int x1), some (.int y2), some (.int y3), some (.int y4), some (.int y5), some (.int y6), some (.int y7), some (.int y8), some (.int v160), some (.int 0)], [], []) M163 r)) ∨ ∃ (E167 : Nat) (M168 : ak_M), rn X 100 [.ref 0, .int y8, .int y6] M161 (.inr E167, M168) ∧ r = (.inr E167, M168)))) ∨ ∃ (E180 : Nat) (M181 : ak_M), rn X 102 [.ref 0, .int y6] M159 (.inr E180, M181) ∧ r = (.inr E180, M181))) ∨ ∃ (E184 : Nat) (M185 : ak_M), rn X 100 [.ref 0, .int y6, .int y8] M (.inr E184, M185) ∧ r = (.inr E184, M185)))) : sg X 362 (56, [some (.ref 0), some (.int x1), some (.int y2), some (.int y3), some (.int y4), some (.int y5), some (.int y6), some (.int y7), some (.int y8), o9, o10], [], []) M r := by
  refine w_iload (n := 58) (i := 8) (by decide +kernel) rfl rfl ?_
  refine w_iload_n (n := 59) (i := 2) (by decide +kernel) rfl rfl ?_
  by_cases c187 : y2 ≤ y8
  · rw [if_pos c187] at h
    refine w_icmp_ge_j (n := 411) (off := 352) (by decide +kernel) (by decide) c187 ?_
    refine w_aload_n (n := 412) (i := 0) (by decide +kernel) rfl rfl ?_
    refine w_iload (n := 414) (i := 6) (by decide +kernel) rfl rfl ?_
    refine w_iconst (n := 415) (v := 3) (x := 3) (by decide +kernel) rfl (by decide) ?_
    rcases h with h | ⟨E156, M157, hr158, rfl⟩
    · obtain ⟨v48, M47, hLM47, hr155, h⟩ := h
      refine w_cV (n := 418) (idx := 101) (cal := 95) (na := 2) (nl := 3) (as := [.int y6, .int 3]) (rest := []) hL (by decide +kernel) (by decide +kernel) (at_0) (by decide +kernel) rfl rfl rfl (Nat.le_of_ble_eq_true rfl) rfl hr155 ?_
      refine w_istore (n := 420) (i := 8) (l1' := [some (.ref 0), some (.int x1), some (.int y2), some (.int y3), some (.int y4), some (.int y5), some (.int y6), some (.int y7), some (.int v48), o9, o10]) (l2' := []) (by decide +kernel) rfl (Nat.le_of_ble_eq_true rfl) rfl rfl ?_
      refine w_iload (n := 422) (i := 7) (by decide +kernel) rfl rfl ?_
      refine w_aload_n (n := 423) (i := 0) (by decide +kernel) rfl rfl ?_
      refine w_iload (n := 425) (i := 6) (by decide +kernel) rfl rfl ?_
      rcases h with h | ⟨E152, M153, hr154, rfl⟩
      · obtain ⟨v50, M49, hLM49, hr151, h⟩ := h
        refine w_cV (n := 428) (idx := 115) (cal := 103) (na := 1) (nl := 2) (as := [.int y6]) (rest := [.int y7]) hLM47 (by decide +kernel) (by decide +kernel) (at_0) (by decide +kernel) rfl rfl rfl (Nat.le_of_ble_eq_true rfl) rfl hr151 ?_
        by_cases c150 : y7 = v50
        · rw [if_pos c150] at h
          refine w_icmp_ne_n (n := 431) (off := 126) (by decide +kernel) rfl c150 ?_
          refine w_aload_n (n := 432) (i := 0) (by decide +kernel) rfl rfl ?_
          refine w_iload (n := 434) (i := 6) (by decide +kernel) rfl rfl ?_
          rcases h with h | ⟨E147, M148, hr149, rfl⟩
          · obtain ⟨v52, M51, hLM51, hr146, h⟩ := h
            refine w_cV (n := 437) (idx := 118) (cal := 112) (na := 1) (nl := 2) (as := [.int y6]) (rest := []) hLM49 (by decide +kernel) (by decide +kernel) (at_0) (by decide +kernel) rfl rfl rfl (Nat.le_of_ble_eq_true rfl) rfl hr146 ?_
            by_cases c145 : v52 < 0
            · rw [if_pos c145] at h
              refine w_if_lt_j (n := 444) (off := 7) (by decide +kernel) (by decide) c145 ?_
              refine w_iconst (n := 445) (v := 0) (x := 0) (by decide +kernel) rfl (by decide) ?_
              refine w_aload_n (n := 446) (i := 0) (by decide +kernel) rfl rfl ?_
              refine w_iload (n := 448) (i := 6) (by decide +kernel) rfl rfl ?_
              rcases h with h | ⟨E96, M97, hr98, rfl⟩
              · obtain ⟨v54, M53, hLM53, hr95, h⟩ := h
                refine w_cV (n := 451) (idx := 98) (cal := 102) (na := 1) (nl := 2) (as := [.int y6]) (rest := [.int 0]) hLM51 (by decide +kernel) (by decide +kernel) (at_0) (by decide +kernel) rfl rfl rfl (Nat.le_of_ble_eq_true rfl) rfl hr95 ?_
                by_cases c94 : v54 = 0
                · rw [if_pos c94] at h
                  refine w_if_eq_j (n := 458) (off := 7) (by decide +kernel) (by decide) c94 ?_
                  refine w_iconst (n := 459) (v := 0) (x := 0) (by decide +kernel) rfl (by decide) ?_
                  refine w_icmp_ne_n (n := 462) (off := 95) (by decide +kernel) rfl (by decide) ?_
                  refine w_iload (n := 464) (i := 8) (by decide +kernel) rfl rfl ?_
                  by_cases c93 : v48 < 0
                  · rw [if_pos c93] at h
                    refine w_if_lt_j (n := 554) (off := 90) (by decide +kernel) (by decide) c93 ?_
                    exact h
                  · rw [if_neg c93] at h
                    refine w_if_lt_n (n := 467) (off := 90) (by decide +kernel) rfl c93 ?_
                    refine w_iload (n := 469) (i := 8) (by decide +kernel) rfl rfl ?_
                    refine w_sipush (n := 472) (v := 300) (x := 300) (by decide +kernel) rfl (by decide) ?_
                    by_cases c92 : 300 < v48
                    · rw [if_pos c92] at h
                      refine w_icmp_gt_j (n := 554) (off := 82) (by decide +kernel) (by decide) c92 ?_
                      exact h
                    · rw [if_neg c92] at h
                      refine w_icmp_gt_n (n := 475) (off := 82) (by decide +kernel) rfl c92 ?_
                      refine w_aload_n (n := 476) (i := 0) (by decide +kernel) rfl rfl ?_
                      refine w_iload (n := 478) (i := 6) (by decide +kernel) rfl rfl ?_
                      rcases h with h | ⟨E89, M90, hr91, rfl⟩
                      · obtain ⟨v56, M55, hLM55, hr88, h⟩ := h
                        refine w_cV (n := 481) (idx := 121) (cal := 98) (na := 1) (nl := 2) (as := [.int y6]) (rest := []) hLM53 (by decide +kernel) (by decide +kernel) (at_0) (by decide +kernel) rfl rfl rfl (Nat.le_of_ble_eq_true rfl) rfl hr88 ?_
                        by_cases c87 : v56 < 0
                        · rw [if_pos c87] at h
                          refine w_if_lt_j (n := 488) (off := 7) (by decide +kernel) (by decide) c87 ?_
                          refine w_iconst (n := 489) (v := 0) (x := 0) (by decide +kernel) rfl (by decide) ?_
                          refine w_aload_n (n := 490) (i := 0) (by decide +kernel) rfl rfl ?_
                          refine w_iload (n := 492) (i := 6) (by decide +kernel) rfl rfl ?_
                          refine w_iconst (n := 493) (v := 0) (x := 0) (by decide +kernel) rfl (by decide) ?_
                          rcases h with h | ⟨E69, M70, hr71, rfl⟩
                          · obtain ⟨v58, M57, hLM57, hr68, h⟩ := h
                            refine w_cV (n := 496) (idx := 101) (cal := 95) (na := 2) (nl := 3) (as := [.int y6, .int 0]) (rest := [.int 0]) hLM55 (by decide +kernel) (by decide +kernel) (at_0) (by decide +kernel) rfl rfl rfl (Nat.le_of_ble_eq_true rfl) rfl hr68 ?_
                            by_cases c67 : v58 = 0
                            · rw [if_pos c67] at h
                              refine w_if_ne_n (n := 499) (off := 7) (by decide +kernel) rfl c67 ?_
                              refine w_iconst (n := 500) (v := 1) (x := 1) (by decide +kernel) rfl (by decide) ?_
                              refine w_goto (n := 504) (off := 4) (by decide +kernel) (by decide) ?_
                              refine w_icmp_ne_j (n := 554) (off := 50) (by decide +kernel) (by decide) (by decide) ?_
                              exact h
                            · rw [if_neg c67] at h
                              refine w_if_ne_j (n := 503) (off := 7) (by decide +kernel) (by decide) c67 ?_
                              refine w_iconst (n := 504) (v := 0) (x := 0) (by decide +kernel) rfl (by decide) ?_
                              refine w_icmp_ne_n (n := 507) (off := 50) (by decide +kernel) rfl (by decide) ?_
                              refine w_aload_n (n := 508) (i := 0) (by decide +kernel) rfl rfl ?_
                              refine w_iload (n := 510) (i := 6) (by decide +kernel) rfl rfl ?_
                              refine w_iconst (n := 511) (v := 0) (x := 0) (by decide +kernel) rfl (by decide) ?_
                              rcases h with h | ⟨E64, M65, hr66, rfl⟩
                              · obtain ⟨v60, M59, hLM59, hr63, h⟩ := h
                                refine w_cV (n := 514) (idx := 101) (cal := 95) (na := 2) (nl := 3) (as := [.int y6, .int 0]) (rest := []) hLM57 (by decide +kernel) (by decide +kernel) (at_0) (by decide +kernel) rfl rfl rfl (Nat.le_of_ble_eq_true rfl) rfl hr63 ?_
                                by_cases c62 : v60 = 0
                                · rw [if_pos c62] at h
                                  refine w_if_ne_n (n := 517) (off := 8) (by decide +kernel) rfl c62 ?_
                                  refine w_iload (n := 519) (i := 8) (by decide +kernel) rfl rfl ?_
                                  by_cases c61 : v48 = 0
                                  · rw [if_pos c61] at h
                                    refine w_if_eq_j (n := 554) (off := 35) (by decide +kernel) (by decide) c61 ?_
                                    exact h
                                  · rw [if_neg c61] at h
                                    refine w_if_eq_n (n := 522) (off := 35) (by decide +kernel) rfl c61 ?_
                                    exact h
                                · rw [if_neg c62] at h
                                  refine w_if_ne_j (n := 522) (off := 8) (by decide +kernel) (by decide) c62 ?_
                                  exact h
                              · exact w_tV (idx := 101) (cal := 95) (na := 2) (nl := 3) (as := [.int y6, .int 0]) (rest := []) hLM57 (by decide +kernel) (by decide +kernel) (at_0) (by decide +kernel) rfl rfl rfl (Nat.le_of_ble_eq_true rfl) (by decide +kernel) (by decide +kernel) hr66
                          · exact w_tV (idx := 101) (cal := 95) (na := 2) (nl := 3) (as := [.int y6, .int 0]) (rest := [.int 0]) hLM55 (by decide +kernel) (by decide +kernel) (at_0) (by decide +kernel) rfl rfl rfl (Nat.le_of_ble_eq_true rfl) (by decide +kernel) (by decide +kernel) hr71
                        · rw [if_neg c87] at h
                          refine w_if_lt_n (n := 484) (off := 7) (by decide +kernel) rfl c87 ?_
                          refine w_iconst (n := 485) (v := 1) (x := 1) (by decide +kernel) rfl (by decide) ?_
                          refine w_goto (n := 489) (off := 4) (by decide +kernel) (by decide) ?_
                          refine w_aload_n (n := 490) (i := 0) (by decide +kernel) rfl rfl ?_
                          refine w_iload (n := 492) (i := 6) (by decide +kernel) rfl rfl ?_
                          refine w_iconst (n := 493) (v := 0) (x := 0) (by decide +kernel) rfl (by decide) ?_
                          rcases h with h | ⟨E84, M85, hr86, rfl⟩
                          · obtain ⟨v73, M72, hLM72, hr83, h⟩ := h
                            refine w_cV (n := 496) (idx := 101) (cal := 95) (na := 2) (nl := 3) (as := [.int y6, .int 0]) (rest := [.int 1]) hLM55 (by decide +kernel) (by decide +kernel) (at_0) (by decide +kernel) rfl rfl rfl (Nat.le_of_ble_eq_true rfl) rfl hr83 ?_
                            by_cases c82 : v73 = 0
                            · rw [if_pos c82] at h
                              refine w_if_ne_n (n := 499) (off := 7) (by decide +kernel) rfl c82 ?_
                              refine w_iconst (n := 500) (v := 1) (x := 1) (by decide +kernel) rfl (by decide) ?_
                              refine w_goto (n := 504) (off := 4) (by decide +kernel) (by decide) ?_
                              refine w_icmp_ne_n (n := 507) (off := 50) (by decide +kernel) rfl (by decide) ?_
                              refine w_aload_n (n := 508) (i := 0) (by decide +kernel) rfl rfl ?_
                              refine w_iload (n := 510) (i := 6) (by decide +kernel) rfl rfl ?_
                              refine w_iconst (n := 511) (v := 0) (x := 0) (by decide +kernel) rfl (by decide) ?_
                              rcases h with h | ⟨E79, M80, hr81, rfl⟩
                              · obtain ⟨v75, M74, hLM74, hr78, h⟩ := h
                                refine w_cV (n := 514) (idx := 101) (cal := 95) (na := 2) (nl := 3) (as := [.int y6, .int 0]) (rest := []) hLM72 (by decide +kernel) (by decide +kernel) (at_0) (by decide +kernel) rfl rfl rfl (Nat.le_of_ble_eq_true rfl) rfl hr78 ?_
                                by_cases c77 : v75 = 0
                                · rw [if_pos c77] at h
                                  refine w_if_ne_n (n := 517) (off := 8) (by decide +kernel) rfl c77 ?_
                                  refine w_iload (n := 519) (i := 8) (by decide +kernel) rfl rfl ?_
                                  by_cases c76 : v48 = 0
                                  · rw [if_pos c76] at h
                                    refine w_if_eq_j (n := 554) (off := 35) (by decide +kernel) (by decide) c76 ?_
                                    exact h
                                  · rw [if_neg c76] at h
                                    refine w_if_eq_n (n := 522) (off := 35) (by decide +kernel) rfl c76 ?_
                                    exact h
                                · rw [if_neg c77] at h
                                  refine w_if_ne_j (n := 522) (off := 8) (by decide +kernel) (by decide) c77 ?_
                                  exact h
                              · exact w_tV (idx := 101) (cal := 95) (na := 2) (nl := 3) (as := [.int y6, .int 0]) (rest := []) hLM72 (by decide +kernel) (by decide +kernel) (at_0) (by decide +kernel) rfl rfl rfl (Nat.le_of_ble_eq_true rfl) (by decide +kernel) (by decide +kernel) hr81
                            · rw [if_neg c82] at h
                              refine w_if_ne_j (n := 503) (off := 7) (by decide +kernel) (by decide) c82 ?_
                              refine w_iconst (n := 504) (v := 0) (x := 0) (by decide +kernel) rfl (by decide) ?_
                              refine w_icmp_ne_j (n := 554) (off := 50) (by decide +kernel) (by decide) (by decide) ?_
                              exact h
                          · exact w_tV (idx := 101) (cal := 95) (na := 2) (nl := 3) (as := [.int y6, .int 0]) (rest := [.int 1]) hLM55 (by decide +kernel) (by decide +kernel) (at_0) (by decide +kernel) rfl rfl rfl (Nat.le_of_ble_eq_true rfl) (by decide +kernel) (by decide +kernel) hr86
                      · exact w_tV (idx := 121) (cal := 98) (na := 1) (nl := 2) (as := [.int y6]) (rest := []) hLM53 (by decide +kernel) (by decide +kernel) (at_0) (by decide +kernel) rfl rfl rfl (Nat.le_of_ble_eq_true rfl) (by decide +kernel) (by decide +kernel) hr91
                · rw [if_neg c94] at h
                  refine w_if_eq_n (n := 454) (off := 7) (by decide +kernel) rfl c94 ?_
                  refine w_iconst (n := 455) (v := 1) (x := 1) (by decide +kernel) rfl (by decide) ?_
                  refine w_goto (n := 459) (off := 4) (by decide +kernel) (by decide) ?_
                  refine w_icmp_ne_j (n := 554) (off := 95) (by decide +kernel) (by decide) (by decide) ?_
                  exact h
              · exact w_tV (idx := 98) (cal := 102) (na := 1) (nl := 2) (as := [.int y6]) (rest := [.int 0]) hLM51 (by decide +kernel) (by decide +kernel) (at_0) (by decide +kernel) rfl rfl rfl (Nat.le_of_ble_eq_true rfl) (by decide +kernel) (by decide +kernel) hr98
            · rw [if_neg c145] at h
              refine w_if_lt_n (n := 440) (off := 7) (by decide +kernel) rfl c145 ?_
              refine w_iconst (n := 441) (v := 1) (x := 1) (by decide +kernel) rfl (by decide) ?_
              refine w_goto (n := 445) (off := 4) (by decide +kernel) (by decide) ?_
              refine w_aload_n (n := 446) (i := 0) (by decide +kernel) rfl rfl ?_
              refine w_iload (n := 448) (i := 6) (by decide +kernel) rfl rfl ?_
              rcases h with h | ⟨E142, M143, hr144, rfl⟩
              · obtain ⟨v100, M99, hLM99, hr141, h⟩ := h
                refine w_cV (n := 451) (idx := 98) (cal := 102) (na := 1) (nl := 2) (as := [.int y6]) (rest := [.int 1]) hLM51 (by decide +kernel) (by decide +kernel) (at_0) (by decide +kernel) rfl rfl rfl (Nat.le_of_ble_eq_true rfl) rfl hr141 ?_
                by_cases c140 : v100 = 0
                · rw [if_pos c140] at h
                  refine w_if_eq_j (n := 458) (off := 7) (by decide +kernel) (by decide) c140 ?_
                  refine w_iconst (n := 459) (v := 0) (x := 0) (by decide +kernel) rfl (by decide) ?_
                  refine w_icmp_ne_j (n := 554) (off := 95) (by decide +kernel) (by decide) (by decide) ?_
                  exact h
                · rw [if_neg c140] at h
                  refine w_if_eq_n (n := 454) (off := 7) (by decide +kernel) rfl c140 ?_
                  refine w_iconst (n := 455) (v := 1) (x := 1) (by decide +kernel) rfl (by decide) ?_
                  refine w_goto (n := 459) (off := 4) (by decide +kernel) (by decide) ?_
                  refine w_icmp_ne_n (n := 462) (off := 95) (by decide +kernel) rfl (by decide) ?_
                  refine w_iload (n := 464) (i := 8) (by decide +kernel) rfl rfl ?_
                  by_cases c139 : v48 < 0
                  · rw [if_pos c139] at h
                    refine w_if_lt_j (n := 554) (off := 90) (by decide +kernel) (by decide) c139 ?_
                    exact h
                  · rw [if_neg c139] at h
                    refine w_if_lt_n (n := 467) (off := 90) (by decide +kernel) rfl c139 ?_
                    refine w_iload (n := 469) (i := 8) (by decide +kernel) rfl rfl ?_
                    refine w_sipush (n := 472) (v := 300) (x := 300) (by decide +kernel) rfl (by decide) ?_
                    by_cases c138 : 300 < v48
                    · rw [if_pos c138] at h
                      refine w_icmp_gt_j (n := 554) (off := 82) (by decide +kernel) (by decide) c138 ?_
                      exact h
                    · rw [if_neg c138] at h
                      refine w_icmp_gt_n (n := 475) (off := 82) (by decide +kernel) rfl c138 ?_
                      refine w_aload_n (n := 476) (i := 0) (by decide +kernel) rfl rfl ?_
                      refine w_iload (n := 478) (i := 6) (by decide +kernel) rfl rfl ?_
                      rcases h with h | ⟨E135, M136, hr137, rfl⟩
                      · obtain ⟨v102, M101, hLM101, hr134, h⟩ := h
                        refine w_cV (n := 481) (idx := 121) (cal := 98) (na := 1) (nl := 2) (as := [.int y6]) (rest := []) hLM99 (by decide +kernel) (by decide +kernel) (at_0) (by decide +kernel) rfl rfl rfl (Nat.le_of_ble_eq_true rfl) rfl hr134 ?_
                        by_cases c133 : v102 < 0
                        · rw [if_pos c133] at h
                          refine w_if_lt_j (n := 488) (off := 7) (by decide +kernel) (by decide) c133 ?_
                          refine w_iconst (n := 489) (v := 0) (x := 0) (by decide +kernel) rfl (by decide) ?_
                          refine w_aload_n (n := 490) (i := 0) (by decide +kernel) rfl rfl ?_
                          refine w_iload (n := 492) (i := 6) (by decide +kernel) rfl rfl ?_
                          refine w_iconst (n := 493) (v := 0) (x := 0) (by decide +kernel) rfl (by decide) ?_
                          rcases h with h | ⟨E115, M116, hr117, rfl⟩
                          · obtain ⟨v104, M103, hLM103, hr114, h⟩ := h
                            refine w_cV (n := 496) (idx := 101) (cal := 95) (na := 2) (nl := 3) (as := [.int y6, .int 0]) (rest := [.int 0]) hLM101 (by decide +kernel) (by decide +kernel) (at_0) (by decide +kernel) rfl rfl rfl (Nat.le_of_ble_eq_true rfl) rfl hr114 ?_
                            by_cases c113 : v104 = 0
                            · rw [if_pos c113] at h
                              refine w_if_ne_n (n := 499) (off := 7) (by decide +kernel) rfl c113 ?_
                              refine w_iconst (n := 500) (v := 1) (x := 1) (by decide +kernel) rfl (by decide) ?_
                              refine w_goto (n := 504) (off := 4) (by decide +kernel) (by decide) ?_
                              refine w_icmp_ne_j (n := 554) (off := 50) (by decide +kernel) (by decide) (by decide) ?_
                              exact h
                            · rw [if_neg c113] at h
                              refine w_if_ne_j (n := 503) (off := 7) (by decide +kernel) (by decide) c113 ?_
                              refine w_iconst (n := 504) (v := 0) (x := 0) (by decide +kernel) rfl (by decide) ?_
                              refine w_icmp_ne_n (n := 507) (off := 50) (by decide +kernel) rfl (by decide) ?_
                              refine w_aload_n (n := 508) (i := 0) (by decide +kernel) rfl rfl ?_
                              refine w_iload (n := 510) (i := 6) (by decide +kernel) rfl rfl ?_
                              refine w_iconst (n := 511) (v := 0) (x := 0) (by decide +kernel) rfl (by decide) ?_
                              rcases h with h | ⟨E110, M111, hr112, rfl⟩
                              · obtain ⟨v106, M105, hLM105, hr109, h⟩ := h
                                refine w_cV (n := 514) (idx := 101) (cal := 95) (na := 2) (nl := 3) (as := [.int y6, .int 0]) (rest := []) hLM103 (by decide +kernel) (by decide +kernel) (at_0) (by decide +kernel) rfl rfl rfl (Nat.le_of_ble_eq_true rfl) rfl hr109 ?_
                                by_cases c108 : v106 = 0
                                · rw [if_pos c108] at h
                                  refine w_if_ne_n (n := 517) (off := 8) (by decide +kernel) rfl c108 ?_
                                  refine w_iload (n := 519) (i := 8) (by decide +kernel) rfl rfl ?_
                                  by_cases c107 : v48 = 0
                                  · rw [if_pos c107] at h
                                    refine w_if_eq_j (n := 554) (off := 35) (by decide +kernel) (by decide) c107 ?_
                                    exact h
                                  · rw [if_neg c107] at h
                                    refine w_if_eq_n (n := 522) (off := 35) (by decide +kernel) rfl c107 ?_
                                    exact h
                                · rw [if_neg c108] at h
                                  refine w_if_ne_j (n := 522) (off := 8) (by decide +kernel) (by decide) c108 ?_
                                  exact h
                              · exact w_tV (idx := 101) (cal := 95) (na := 2) (nl := 3) (as := [.int y6, .int 0]) (rest := []) hLM103 (by decide +kernel) (by decide +kernel) (at_0) (by decide +kernel) rfl rfl rfl (Nat.le_of_ble_eq_true rfl) (by decide +kernel) (by decide +kernel) hr112
                          · exact w_tV (idx := 101) (cal := 95) (na := 2) (nl := 3) (as := [.int y6, .int 0]) (rest := [.int 0]) hLM101 (by decide +kernel) (by decide +kernel) (at_0) (by decide +kernel) rfl rfl rfl (Nat.le_of_ble_eq_true rfl) (by decide +kernel) (by decide +kernel) hr117
                        · rw [if_neg c133] at h
                          refine w_if_lt_n (n := 484) (off := 7) (by decide +kernel) rfl c133 ?_
                          refine w_iconst (n := 485) (v := 1) (x := 1) (by decide +kernel) rfl (by decide) ?_
                          refine w_goto (n := 489) (off := 4) (by decide +kernel) (by decide) ?_
                          refine w_aload_n (n := 490) (i := 0) (by decide +kernel) rfl rfl ?_
                          refine w_iload (n := 492) (i := 6) (by decide +kernel) rfl rfl ?_
                          refine w_iconst (n := 493) (v := 0) (x := 0) (by decide +kernel) rfl (by decide) ?_
                          rcases h with h | ⟨E130, M131, hr132, rfl⟩
                          · obtain ⟨v119, M118, hLM118, hr129, h⟩ := h
                            refine w_cV (n := 496) (idx := 101) (cal := 95) (na := 2) (nl := 3) (as := [.int y6, .int 0]) (rest := [.int 1]) hLM101 (by decide +kernel) (by decide +kernel) (at_0) (by decide +kernel) rfl rfl rfl (Nat.le_of_ble_eq_true rfl) rfl hr129 ?_
                            by_cases c128 : v119 = 0
                            · rw [if_pos c128] at h
                              refine w_if_ne_n (n := 499) (off := 7) (by decide +kernel) rfl c128 ?_
                              refine w_iconst (n := 500) (v := 1) (x := 1) (by decide +kernel) rfl (by decide) ?_
                              refine w_goto (n := 504) (off := 4) (by decide +kernel) (by decide) ?_
                              refine w_icmp_ne_n (n := 507) (off := 50) (by decide +kernel) rfl (by decide) ?_
                              refine w_aload_n (n := 508) (i := 0) (by decide +kernel) rfl rfl ?_
                              refine w_iload (n := 510) (i := 6) (by decide +kernel) rfl rfl ?_
                              refine w_iconst (n := 511) (v := 0) (x := 0) (by decide +kernel) rfl (by decide) ?_
                              rcases h with h | ⟨E125, M126, hr127, rfl⟩
                              · obtain ⟨v121, M120, hLM120, hr124, h⟩ := h
                                refine w_cV (n := 514) (idx := 101) (cal := 95) (na := 2) (nl := 3) (as := [.int y6, .int 0]) (rest := []) hLM118 (by decide +kernel) (by decide +kernel) (at_0) (by decide +kernel) rfl rfl rfl (Nat.le_of_ble_eq_true rfl) rfl hr124 ?_
                                by_cases c123 : v121 = 0
                                · rw [if_pos c123] at h
                                  refine w_if_ne_n (n := 517) (off := 8) (by decide +kernel) rfl c123 ?_
                                  refine w_iload (n := 519) (i := 8) (by decide +kernel) rfl rfl ?_
                                  by_cases c122 : v48 = 0
                                  · rw [if_pos c122] at h
                                    refine w_if_eq_j (n := 554) (off := 35) (by decide +kernel) (by decide) c122 ?_
                                    exact h
                                  · rw [if_neg c122] at h
                                    refine w_if_eq_n (n := 522) (off := 35) (by decide +kernel) rfl c122 ?_
                                    exact h
                                · rw [if_neg c123] at h
                                  refine w_if_ne_j (n := 522) (off := 8) (by decide +kernel) (by decide) c123 ?_
                                  exact h
                              · exact w_tV (idx := 101) (cal := 95) (na := 2) (nl := 3) (as := [.int y6, .int 0]) (rest := []) hLM118 (by decide +kernel) (by decide +kernel) (at_0) (by decide +kernel) rfl rfl rfl (Nat.le_of_ble_eq_true rfl) (by decide +kernel) (by decide +kernel) hr127
                            · rw [if_neg c128] at h
                              refine w_if_ne_j (n := 503) (off := 7) (by decide +kernel) (by decide) c128 ?_
                              refine w_iconst (n := 504) (v := 0) (x := 0) (by decide +kernel) rfl (by decide) ?_
                              refine w_icmp_ne_j (n := 554) (off := 50) (by decide +kernel) (by decide) (by decide) ?_
                              exact h
                          · exact w_tV (idx := 101) (cal := 95) (na := 2) (nl := 3) (as := [.int y6, .int 0]) (rest := [.int 1]) hLM101 (by decide +kernel) (by decide +kernel) (at_0) (by decide +kernel) rfl rfl rfl (Nat.le_of_ble_eq_true rfl) (by decide +kernel) (by decide +kernel) hr132
                      · exact w_tV (idx := 121) (cal := 98) (na := 1) (nl := 2) (as := [.int y6]) (rest := []) hLM99 (by decide +kernel) (by decide +kernel) (at_0) (by decide +kernel) rfl rfl rfl (Nat.le_of_ble_eq_true rfl) (by decide +kernel) (by decide +kernel) hr137
              · exact w_tV (idx := 98) (cal := 102) (na := 1) (nl := 2) (as := [.int y6]) (rest := [.int 1]) hLM51 (by decide +kernel) (by decide +kernel) (at_0) (by decide +kernel) rfl rfl rfl (Nat.le_of_ble_eq_true rfl) (by decide +kernel) (by decide +kernel) hr144
          · exact w_tV (idx := 118) (cal := 112) (na := 1) (nl := 2) (as := [.int y6]) (rest := []) hLM49 (by decide +kernel) (by decide +kernel) (at_0) (by decide +kernel) rfl rfl rfl (Nat.le_of_ble_eq_true rfl) (by decide +kernel) (by decide +kernel) hr149
        · rw [if_neg c150] at h
          refine w_icmp_ne_j (n := 554) (off := 126) (by decide +kernel) (by decide) c150 ?_
          exact h
      · exact w_tV (idx := 115) (cal := 103) (na := 1) (nl := 2) (as := [.int y6]) (rest := [.int y7]) hLM47 (by decide +kernel) (by decide +kernel) (at_0) (by decide +kernel) rfl rfl rfl (Nat.le_of_ble_eq_true rfl) (by decide +kernel) (by decide +kernel) hr154
    · exact w_tV (idx := 101) (cal := 95) (na := 2) (nl := 3) (as := [.int y6, .int 3]) (rest := []) hL (by decide +kernel) (by decide +kernel) (at_0) (by decide +kernel) rfl rfl rfl (Nat.le_of_ble_eq_true rfl) (by decide +kernel) (by decide +kernel) hr158
  · rw [if_neg c187] at h
    refine w_icmp_ge_n (n := 62) (off := 352) (by decide +kernel) rfl c187 ?_
    refine w_aload_n (n := 63) (i := 0) (by decide +kernel) rfl rfl ?_
    refine w_iload (n := 65) (i := 6) (by decide +kernel) rfl rfl ?_
    refine w_iload (n := 67) (i := 8) (by decide +kernel) rfl rfl ?_
    rcases h with h | ⟨E184, M185, hr186, rfl⟩
    · obtain ⟨v160, M159, hLM159, hr183, h⟩ := h
      refine w_cV (n := 70) (idx := 94) (cal := 100) (na := 2) (nl := 3) (as := [.int y6, .int y8]) (rest := []) hL (by decide +kernel) (by decide +kernel) (at_0) (by decide +kernel) rfl rfl rfl (Nat.le_of_ble_eq_true rfl) rfl hr183 ?_
      refine w_istore (n := 72) (i := 9) (l1' := [some (.ref 0), some (.int x1), some (.int y2), some (.int y3), some (.int y4), some (.int y5), some (.int y6), some (.int y7), some (.int y8), some (.int v160), o10]) (l2' := []) (by decide +kernel) rfl (Nat.le_of_ble_eq_true rfl) rfl rfl ?_
      refine w_aload_n (n := 73) (i := 0) (by decide +kernel) rfl rfl ?_
      refine w_iload (n := 75) (i := 6) (by decide +kernel) rfl rfl ?_
      rcases h with h | ⟨E180, M181, hr182, rfl⟩
      · obtain ⟨v162, M161, hLM161, hr179, h⟩ := h
        refine w_cV (n := 78) (idx := 98) (cal := 102) (na := 1) (nl := 2) (as := [.int y6]) (rest := []) hLM159 (by decide +kernel) (by decide +kernel) (at_0) (by decide +kernel) rfl rfl rfl (Nat.le_of_ble_eq_true rfl) rfl hr179 ?_
        refine w_iload (n := 80) (i := 8) (by decide +kernel) rfl rfl ?_
        refine w_ishr (n := 81) (by decide +kernel) rfl ?_
        refine w_iconst (n := 82) (v := 1) (x := 1) (by decide +kernel) rfl (by decide) ?_
        refine w_iand (n := 83) (by decide +kernel) rfl ?_
        refine w_iconst (n := 84) (v := 1) (x := 1) (by decide +kernel) rfl (by decide) ?_
        by_cases c178 : (v162 >>> (y8 &&& 31)) &&& 1 = 1
        · rw [if_pos c178] at h
          refine w_icmp_ne_n (n := 87) (off := 7) (by decide +kernel) rfl c178 ?_
          refine w_iconst (n := 88) (v := 1) (x := 1) (by decide +kernel) rfl (by decide) ?_
          refine w_goto (n := 92) (off := 4) (by decide +kernel) (by decide) ?_
          refine w_istore (n := 94) (i := 10) (l1' := [some (.ref 0), some (.int x1), some (.int y2), some (.int y3), some (.int y4), some (.int y5), some (.int y6), some (.int y7), some (.int y8), some (.int v160), some (.int 1)]) (l2' := []) (by decide +kernel) rfl (Nat.le_of_ble_eq_true rfl) rfl rfl ?_
          refine w_iload (n := 96) (i := 9) (by decide +kernel) rfl rfl ?_
          refine w_aload_n (n := 97) (i := 0) (by decide +kernel) rfl rfl ?_
          refine w_iload (n := 99) (i := 8) (by decide +kernel) rfl rfl ?_
          refine w_iload (n := 101) (i := 6) (by decide +kernel) rfl rfl ?_
          rcases h with h | ⟨E175, M176, hr177, rfl⟩
          · obtain ⟨v171, M170, hLM170, hr174, h⟩ := h
            refine w_cV (n := 104) (idx := 94) (cal := 100) (na := 2) (nl := 3) (as := [.int y8, .int y6]) (rest := [.int v160]) hLM161 (by decide +kernel) (by decide +kernel) (at_0) (by decide +kernel) rfl rfl rfl (Nat.le_of_ble_eq_true rfl) rfl hr174 ?_
            by_cases c173 : v160 = v171
            · rw [if_pos c173] at h
              refine w_icmp_ne_n (n := 107) (off := 111) (by decide +kernel) rfl c173 ?_
              refine w_iload (n := 109) (i := 10) (by decide +kernel) rfl rfl ?_
              refine w_if_eq_n (n := 112) (off := 8) (by decide +kernel) rfl (by decide) ?_
              refine w_iload (n := 114) (i := 9) (by decide +kernel) rfl rfl ?_
              by_cases c172 : v160 = 0
              · rw [if_pos c172] at h
                refine w_if_eq_j (n := 215) (off := 101) (by decide +kernel) (by decide) c172 ?_
                exact h
              · rw [if_neg c172] at h
                refine w_if_eq_n (n := 117) (off := 101) (by decide +kernel) rfl c172 ?_
                exact h
            · rw [if_neg c173] at h
              refine w_icmp_ne_j (n := 215) (off := 111) (by decide +kernel) (by decide) c173 ?_
              exact h
          · exact w_tV (idx := 94) (cal := 100) (na := 2) (nl := 3) (as := [.int y8, .int y6]) (rest := [.int v160]) hLM161 (by decide +kernel) (by decide +kernel) (at_0) (by decide +kernel) rfl rfl rfl (Nat.le_of_ble_eq_true rfl) (by decide +kernel) (by decide +kernel) hr177
        · rw [if_neg c178] at h
          refine w_icmp_ne_j (n := 91) (off := 7) (by decide +kernel) (by decide) c178 ?_
          refine w_iconst (n := 92) (v := 0) (x := 0) (by decide +kernel) rfl (by decide) ?_
          refine w_istore (n := 94) (i := 10) (l1' := [some (.ref 0), some (.int x1), some (.int y2), some (.int y3), some (.int y4), some (.int y5), some (.int y6), some (.int y7), some (.int y8), some (.int v160), some (.int 0)]) (l2' := []) (by decide +kernel) rfl (Nat.le_of_ble_eq_true rfl) rfl rfl ?_
          refine w_iload (n := 96) (i := 9) (by decide +kernel) rfl rfl ?_
          refine w_aload_n (n := 97) (i := 0) (by decide +kernel) rfl rfl ?_
          refine w_iload (n := 99) (i := 8) (by decide +kernel) rfl rfl ?_
          refine w_iload (n := 101) (i := 6) (by decide +kernel) rfl rfl ?_
          rcases h with h | ⟨E167, M168, hr169, rfl⟩
          · obtain ⟨v164, M163, hLM163, hr166, h⟩ := h
            refine w_cV (n := 104) (idx := 94) (cal := 100) (na := 2) (nl := 3) (as := [.int y8, .int y6]) (rest := [.int v160]) hLM161 (by decide +kernel) (by decide +kernel) (at_0) (by decide +kernel) rfl rfl rfl (Nat.le_of_ble_eq_true rfl) rfl hr166 ?_
            by_cases c165 : v160 = v164
            · rw [if_pos c165] at h
              refine w_icmp_ne_n (n := 107) (off := 111) (by decide +kernel) rfl c165 ?_
              refine w_iload (n := 109) (i := 10) (by decide +kernel) rfl rfl ?_
              refine w_if_eq_j (n := 117) (off := 8) (by decide +kernel) (by decide) (by decide) ?_
              exact h
            · rw [if_neg c165] at h
              refine w_icmp_ne_j (n := 215) (off := 111) (by decide +kernel) (by decide) c165 ?_
              exact h
          · exact w_tV (idx := 94) (cal := 100) (na := 2) (nl := 3) (as := [.int y8, .int y6]) (rest := [.int v160]) hLM161 (by decide +kernel) (by decide +kernel) (at_0) (by decide +kernel) rfl rfl rfl (Nat.le_of_ble_eq_true rfl) (by decide +kernel) (by decide +kernel) hr169
      · exact w_tV (idx := 98) (cal := 102) (na := 1) (nl := 2) (as := [.int y6]) (rest := []) hLM159 (by decide +kernel) (by decide +kernel) (at_0) (by decide +kernel) rfl rfl rfl (Nat.le_of_ble_eq_true rfl) (by decide +kernel) (by decide +kernel) hr182
    · exact w_tV (idx := 94) (cal := 100) (na := 2) (nl := 3) (as := [.int y6, .int y8]) (rest := []) hL (by decide +kernel) (by decide +kernel) (at_0) (by decide +kernel) rfl rfl rfl (Nat.le_of_ble_eq_true rfl) (by decide +kernel) (by decide +kernel) hr186
theorem t_362_117 {X : ak_X} {M : ak_M} {r : ak_O × ak_M} (hL : ab_lay M) (x1 : Int32) (y2 : Int32) (y3 : Int32) (y4 : Int32) (y5 : Int32) (y6 : Int32) (y7 : Int32) (y8 : Int32) (y9 : Int32) (y10 : Int32) (h : ((∃ (v189 : Int32) (M188 : ak_M), ab_lay M188 ∧ rn X 102 [.ref 0, .int y8] M (.inl (some (.int v189)), M188) ∧ (if (v189 >>> (y6 &&& 31)) &&& 1 = 1 then (if y10 = 1 then (if y9 = 0 then sg X 362 (174, [some (.ref 0), some (.int x1), some (.int y2), some (.int y3), some (.int y4), some (.int y5), some (.int y6), some (.int y7), some (.int y8), some (.int y9), some (.int y10)], [], []) M188 r else (if y6 = y8 then sg X 362 (215, [some (.ref 0), some (.int x1), some (.int y2), some (.int y3), some (.int y4), some (.int y5), some (.int y6), some (.int y7), some (.int y8), some (.int y9), some (.int y10)], [], []) M188 r else ((∃ (v208 : Int32) (M207 : ak_M), ab_lay M207 ∧ rn X 95 [.ref 0, .int y6, .int 0] M188 (.inl (some (.int v208)), M207) ∧ (if v208 = 0 then ((∃ (v210 : Int32) (M209 : ak_M), ab_lay M209 ∧ rn X 95 [.ref 0, .int y8, .int 0] M207 (.inl (some (.int v210)), M209) ∧ (if v210 = 0 then sg X 362 (174, [some (.ref 0), some (.int x1), some (.int y2), some (.int y3), some (.int y4), some (.int y5), some (.int y6), some (.int y7), some (.int y8), some (.int y9), some (.int y10)], [], []) M209 r else sg X 362 (215, [some (.ref 0), some (.int x1), some (.int y2), some (.int y3), some (.int y4), some (.int y5), some (.int y6), some (.int y7), some (.int y8), some (.int y9), some (.int y10)], [], []) M209 r)) ∨ ∃ (E213 : Nat) (M214 : ak_M), rn X 95 [.ref 0, .int y8, .int 0] M207 (.inr E213, M214) ∧ r = (.inr E213, M214)) else sg X 362 (215, [some (.ref 0), some (.int x1), some (.int y2), some (.int y3), some (.int y4), some (.int y5), some (.int y6), some (.int y7), some (.int y8), some (.int y9), some (.int y10)], [], []) M207 r)) ∨ ∃ (E218 : Nat) (M219 : ak_M), rn X 95 [.ref 0, .int y6, .int 0] M188 (.inr E218, M219) ∧ r = (.inr E218, M219)))) else sg X 362 (215, [some (.ref 0), some (.int x1), some (.int y2), some (.int y3), some (.int y4), some (.int y5), some (.int y6), some (.int y7), some (.int y8), some (.int y9), some (.int y10)], [], []) M188 r) else (if y10 = 0 then (if y9 = 0 then sg X 362 (174, [some (.ref 0), some (.int x1), some (.int y2), some (.int y3), some (.int y4), some (.int y5), some (.int y6), some (.int y7), some (.int y8), some (.int y9), some (.int y10)], [], []) M188 r else (if y6 = y8 then sg X 362 (215, [some (.ref 0), some (.int x1), some (.int y2), some (.int y3), some (.int y4), some (.int y5), some (.int y6), some (.int y7), some (.int y8), some (.int y9), some (.int y10)], [], []) M188 r else ((∃ (v191 : Int32) (M190 : ak_M), ab_lay M190 ∧ rn X 95 [.ref 0, .int y6, .int 0] M188 (.inl (some (.int v191)), M190) ∧ (if v191 = 0 then ((∃ (v193 : Int32) (M192 : ak_M), ab_lay M192 ∧ rn X 95 [.ref 0, .int y8, .int 0] M190 (.inl (some (.int v193)), M192) ∧ (if v193 = 0 then sg X 362 (174, [some (.ref 0), some (.int x1), some (.int y2), some (.int y3), some (.int y4), some (.int y5), some (.int y6), some (.int y7), some (.int y8), some (.int y9), some (.int y10)], [], []) M192 r else sg X 362 (215, [some (.ref 0), some (.int x1), some (.int y2), some (.int y3), some (.int y4), some (.int y5), some (.int y6), some (.int y7), some (.int y8), some (.int y9), some (.int y10)], [], []) M192 r)) ∨ ∃ (E196 : Nat) (M197 : ak_M), rn X 95 [.ref 0, .int y8, .int 0] M190 (.inr E196, M197) ∧ r = (.inr E196, M197)) else sg X 362 (215, [some (.ref 0), some (.int x1), some (.int y2), some (.int y3), some (.int y4), some (.int y5), some (.int y6), some (.int y7), some (.int y8), some (.int y9), some (.int y10)], [], []) M190 r)) ∨ ∃ (E201 : Nat) (M202 : ak_M), rn X 95 [.ref 0, .int y6, .int 0] M188 (.inr E201, M202) ∧ r = (.inr E201, M202)))) else sg X 362 (215, [some (.ref 0), some (.int x1), some (.int y2), some (.int y3), some (.int y4), some (.int y5), some (.int y6), some (.int y7), some (.int y8), some (.int y9), some (.int y10)], [], []) M188 r))) ∨ ∃ (E226 : Nat) (M227 : ak_M), rn X 102 [.ref 0, .int y8] M (.inr E226, M227) ∧ r = (.inr E226, M227))) : sg X 362 (117, [some (.ref 0), some (.int x1), some (.int y2), some (.int y3), some (.int y4), some (.int y5), some (.int y6), some (.int y7), some (.int y8), some (.int y9), some (.int y10)], [], []) M r := by
  refine w_iload (n := 119) (i := 10) (by decide +kernel) rfl rfl ?_
  refine w_aload_n (n := 120) (i := 0) (by decide +kernel) rfl rfl ?_
  refine w_iload (n := 122) (i := 8) (by decide +kernel) rfl rfl ?_
  rcases h with h | ⟨E226, M227, hr228, rfl⟩
  · obtain ⟨v189, M188, hLM188, hr225, h⟩ := h
    refine w_cV (n := 125) (idx := 98) (cal := 102) (na := 1) (nl := 2) (as := [.int y8]) (rest := [.int y10]) hL (by decide +kernel) (by decide +kernel) (at_0) (by decide +kernel) rfl rfl rfl (Nat.le_of_ble_eq_true rfl) rfl hr225 ?_
    refine w_iload (n := 127) (i := 6) (by decide +kernel) rfl rfl ?_
    refine w_ishr (n := 128) (by decide +kernel) rfl ?_
    refine w_iconst (n := 129) (v := 1) (x := 1) (by decide +kernel) rfl (by decide) ?_
    refine w_iand (n := 130) (by decide +kernel) rfl ?_
    refine w_iconst (n := 131) (v := 1) (x := 1) (by decide +kernel) rfl (by decide) ?_
    by_cases c224 : (v189 >>> (y6 &&& 31)) &&& 1 = 1
    · rw [if_pos c224] at h
      refine w_icmp_ne_n (n := 134) (off := 7) (by decide +kernel) rfl c224 ?_
      refine w_iconst (n := 135) (v := 1) (x := 1) (by decide +kernel) rfl (by decide) ?_
      refine w_goto (n := 139) (off := 4) (by decide +kernel) (by decide) ?_
      by_cases c223 : y10 = 1
      · rw [if_pos c223] at h
        refine w_icmp_ne_n (n := 142) (off := 76) (by decide +kernel) rfl c223 ?_
        refine w_iload (n := 144) (i := 9) (by decide +kernel) rfl rfl ?_
        by_cases c222 : y9 = 0
        · rw [if_pos c222] at h
          refine w_if_eq_j (n := 174) (off := 30) (by decide +kernel) (by decide) c222 ?_
          exact h
        · rw [if_neg c222] at h
          refine w_if_eq_n (n := 147) (off := 30) (by decide +kernel) rfl c222 ?_
          refine w_iload (n := 149) (i := 6) (by decide +kernel) rfl rfl ?_
          refine w_iload (n := 151) (i := 8) (by decide +kernel) rfl rfl ?_
          by_cases c221 : y6 = y8
          · rw [if_pos c221] at h
            refine w_icmp_eq_j (n := 215) (off := 64) (by decide +kernel) (by decide) c221 ?_
            exact h
          · rw [if_neg c221] at h
            refine w_icmp_eq_n (n := 154) (off := 64) (by decide +kernel) rfl c221 ?_
            refine w_aload_n (n := 155) (i := 0) (by decide +kernel) rfl rfl ?_
            refine w_iload (n := 157) (i := 6) (by decide +kernel) rfl rfl ?_
            refine w_iconst (n := 158) (v := 0) (x := 0) (by decide +kernel) rfl (by decide) ?_
            rcases h with h | ⟨E218, M219, hr220, rfl⟩
            · obtain ⟨v208, M207, hLM207, hr217, h⟩ := h
              refine w_cV (n := 161) (idx := 101) (cal := 95) (na := 2) (nl := 3) (as := [.int y6, .int 0]) (rest := []) hLM188 (by decide +kernel) (by decide +kernel) (at_0) (by decide +kernel) rfl rfl rfl (Nat.le_of_ble_eq_true rfl) rfl hr217 ?_
              by_cases c216 : v208 = 0
              · rw [if_pos c216] at h
                refine w_if_ne_n (n := 164) (off := 54) (by decide +kernel) rfl c216 ?_
                refine w_aload_n (n := 165) (i := 0) (by decide +kernel) rfl rfl ?_
                refine w_iload (n := 167) (i := 8) (by decide +kernel) rfl rfl ?_
                refine w_iconst (n := 168) (v := 0) (x := 0) (by decide +kernel) rfl (by decide) ?_
                rcases h with h | ⟨E213, M214, hr215, rfl⟩
                · obtain ⟨v210, M209, hLM209, hr212, h⟩ := h
                  refine w_cV (n := 171) (idx := 101) (cal := 95) (na := 2) (nl := 3) (as := [.int y8, .int 0]) (rest := []) hLM207 (by decide +kernel) (by decide +kernel) (at_0) (by decide +kernel) rfl rfl rfl (Nat.le_of_ble_eq_true rfl) rfl hr212 ?_
                  by_cases c211 : v210 = 0
                  · rw [if_pos c211] at h
                    refine w_if_ne_n (n := 174) (off := 44) (by decide +kernel) rfl c211 ?_
                    exact h
                  · rw [if_neg c211] at h
                    refine w_if_ne_j (n := 215) (off := 44) (by decide +kernel) (by decide) c211 ?_
                    exact h
                · exact w_tV (idx := 101) (cal := 95) (na := 2) (nl := 3) (as := [.int y8, .int 0]) (rest := []) hLM207 (by decide +kernel) (by decide +kernel) (at_0) (by decide +kernel) rfl rfl rfl (Nat.le_of_ble_eq_true rfl) (by decide +kernel) (by decide +kernel) hr215
              · rw [if_neg c216] at h
                refine w_if_ne_j (n := 215) (off := 54) (by decide +kernel) (by decide) c216 ?_
                exact h
            · exact w_tV (idx := 101) (cal := 95) (na := 2) (nl := 3) (as := [.int y6, .int 0]) (rest := []) hLM188 (by decide +kernel) (by decide +kernel) (at_0) (by decide +kernel) rfl rfl rfl (Nat.le_of_ble_eq_true rfl) (by decide +kernel) (by decide +kernel) hr220
      · rw [if_neg c223] at h
        refine w_icmp_ne_j (n := 215) (off := 76) (by decide +kernel) (by decide) c223 ?_
        exact h
    · rw [if_neg c224] at h
      refine w_icmp_ne_j (n := 138) (off := 7) (by decide +kernel) (by decide) c224 ?_
      refine w_iconst (n := 139) (v := 0) (x := 0) (by decide +kernel) rfl (by decide) ?_
      by_cases c206 : y10 = 0
      · rw [if_pos c206] at h
        refine w_icmp_ne_n (n := 142) (off := 76) (by decide +kernel) rfl c206 ?_
        refine w_iload (n := 144) (i := 9) (by decide +kernel) rfl rfl ?_
        by_cases c205 : y9 = 0
        · rw [if_pos c205] at h
          refine w_if_eq_j (n := 174) (off := 30) (by decide +kernel) (by decide) c205 ?_
          exact h
        · rw [if_neg c205] at h
          refine w_if_eq_n (n := 147) (off := 30) (by decide +kernel) rfl c205 ?_
          refine w_iload (n := 149) (i := 6) (by decide +kernel) rfl rfl ?_
          refine w_iload (n := 151) (i := 8) (by decide +kernel) rfl rfl ?_
          by_cases c204 : y6 = y8
          · rw [if_pos c204] at h
            refine w_icmp_eq_j (n := 215) (off := 64) (by decide +kernel) (by decide) c204 ?_
            exact h
          · rw [if_neg c204] at h
            refine w_icmp_eq_n (n := 154) (off := 64) (by decide +kernel) rfl c204 ?_
            refine w_aload_n (n := 155) (i := 0) (by decide +kernel) rfl rfl ?_
            refine w_iload (n := 157) (i := 6) (by decide +kernel) rfl rfl ?_
            refine w_iconst (n := 158) (v := 0) (x := 0) (by decide +kernel) rfl (by decide) ?_
            rcases h with h | ⟨E201, M202, hr203, rfl⟩
            · obtain ⟨v191, M190, hLM190, hr200, h⟩ := h
              refine w_cV (n := 161) (idx := 101) (cal := 95) (na := 2) (nl := 3) (as := [.int y6, .int 0]) (rest := []) hLM188 (by decide +kernel) (by decide +kernel) (at_0) (by decide +kernel) rfl rfl rfl (Nat.le_of_ble_eq_true rfl) rfl hr200 ?_
              by_cases c199 : v191 = 0
              · rw [if_pos c199] at h
                refine w_if_ne_n (n := 164) (off := 54) (by decide +kernel) rfl c199 ?_
                refine w_aload_n (n := 165) (i := 0) (by decide +kernel) rfl rfl ?_
                refine w_iload (n := 167) (i := 8) (by decide +kernel) rfl rfl ?_
                refine w_iconst (n := 168) (v := 0) (x := 0) (by decide +kernel) rfl (by decide) ?_
                rcases h with h | ⟨E196, M197, hr198, rfl⟩
                · obtain ⟨v193, M192, hLM192, hr195, h⟩ := h
                  refine w_cV (n := 171) (idx := 101) (cal := 95) (na := 2) (nl := 3) (as := [.int y8, .int 0]) (rest := []) hLM190 (by decide +kernel) (by decide +kernel) (at_0) (by decide +kernel) rfl rfl rfl (Nat.le_of_ble_eq_true rfl) rfl hr195 ?_
                  by_cases c194 : v193 = 0
                  · rw [if_pos c194] at h
                    refine w_if_ne_n (n := 174) (off := 44) (by decide +kernel) rfl c194 ?_
                    exact h
                  · rw [if_neg c194] at h
                    refine w_if_ne_j (n := 215) (off := 44) (by decide +kernel) (by decide) c194 ?_
                    exact h
                · exact w_tV (idx := 101) (cal := 95) (na := 2) (nl := 3) (as := [.int y8, .int 0]) (rest := []) hLM190 (by decide +kernel) (by decide +kernel) (at_0) (by decide +kernel) rfl rfl rfl (Nat.le_of_ble_eq_true rfl) (by decide +kernel) (by decide +kernel) hr198
              · rw [if_neg c199] at h
                refine w_if_ne_j (n := 215) (off := 54) (by decide +kernel) (by decide) c199 ?_
                exact h
            · exact w_tV (idx := 101) (cal := 95) (na := 2) (nl := 3) (as := [.int y6, .int 0]) (rest := []) hLM188 (by decide +kernel) (by decide +kernel) (at_0) (by decide +kernel) rfl rfl rfl (Nat.le_of_ble_eq_true rfl) (by decide +kernel) (by decide +kernel) hr203
      · rw [if_neg c206] at h
        refine w_icmp_ne_j (n := 215) (off := 76) (by decide +kernel) (by decide) c206 ?_
        exact h
  · exact w_tV (idx := 98) (cal := 102) (na := 1) (nl := 2) (as := [.int y8]) (rest := [.int y10]) hL (by decide +kernel) (by decide +kernel) (at_0) (by decide +kernel) rfl rfl rfl (Nat.le_of_ble_eq_true rfl) (by decide +kernel) (by decide +kernel) hr228
theorem t_362_174 {X : ak_X} {M : ak_M} {r : ak_O × ak_M} (hL : ab_lay M) (x1 : Int32) (y2 : Int32) (y3 : Int32) (y4 : Int32) (y5 : Int32) (y6 : Int32) (y7 : Int32) (y8 : Int32) (y9 : Int32) (y10 : Int32) (h : ((∃ (v230 : Int32) (M229 : ak_M), ab_lay M229 ∧ rn X 101 [.ref 0, .int y6, .int y8, .int 4] M (.inl (some (.int v230)), M229) ∧ (if v230 < 0 then (if y9 = 0 then ((∃ (v232 : Int32) (M231 : ak_M), ab_lay M231 ∧ rn X 109 [.ref 0, .int y6, .int y8] M229 (.inl (some (.int v232)), M231) ∧ ((∃ (v234 : Int32) (M233 : ak_M), ab_lay M233 ∧ rn X 109 [.ref 0, .int y8, .int y6] M231 (.inl (some (.int v234)), M233) ∧ (if v232 = v234 then (if y9 = 0 then sg X 362 (327, [some (.ref 0), some (.int x1), some (.int y2), some (.int y3), some (.int y4), some (.int y5), some (.int y6), some (.int y7), some (.int y8), some (.int y9), some (.int y10)], [], []) M233 r else ((∃ (v236 : Int32) (M235 : ak_M), ab_lay M235 ∧ rn X 101 [.ref 0, .int y6, .int y8, .int 4] M233 (.inl (some (.int v236)), M235) ∧ ((∃ (v238 : Int32) (M237 : ak_M), ab_lay M237 ∧ rn X 101 [.ref 0, .int y6, .int y8, .int 2] M235 (.inl (some (.int v238)), M237) ∧ ((∃ (v240 : Int32) (M239 : ak_M), ab_lay M239 ∧ rn X 101 [.ref 0, .int y6, .int y8, .int 3] M237 (.inl (some (.int v240)), M239) ∧ (∃ (v242 : Int32) (M241 : ak_M), ab_lay M241 ∧ rn X 314 [.int (v238 - v240)] M239 (.inl (some (.int v242)), M241) ∧ (if v236 = v242 then ((∃ (v244 : Int32) (M243 : ak_M), ab_lay M243 ∧ rn X 101 [.ref 0, .int y6, .int y8, .int 4] M241 (.inl (some (.int v244)), M243) ∧ (∃ (v246 : Int32) (M245 : ak_M), ab_lay M245 ∧ rn X 93 [.ref 0, .int 4] M243 (.inl (some (.int v246)), M245) ∧ (if v246 < v244 then (if y10 = 0 then ((∃ (v248 : Int32) (M247 : ak_M), ab_lay M247 ∧ rn X 101 [.ref 0, .int y6, .int y8, .int 0] M245 (.inl (some (.int v248)), M247) ∧ ((∃ (v250 : Int32) (M249 : ak_M), ab_lay M249 ∧ rn X 101 [.ref 0, .int y8, .int y6, .int 0] M247 (.inl (some (.int v250)), M249) ∧ (if v248 = v250 then ((∃ (v252 : Int32) (M251 : ak_M), ab_lay M251 ∧ rn X 101 [.ref 0, .int y6, .int y8, .int 2] M249 (.inl (some (.int v252)), M251) ∧ ((∃ (v254 : Int32) (M253 : ak_M), ab_lay M253 ∧ rn X 101 [.ref 0, .int y8, .int y6, .int 3] M251 (.inl (some (.int v254)), M253) ∧ (if v252 = v254 then sg X 362 (327, [some (.ref 0), some (.int x1), some (.int y2), some (.int y3), some (.int y4), some (.int y5), some (.int y6), some (.int y7), some (.int y8), some (.int y9), some (.int y10)], [], []) M253 r else sg X 362 (325, [some (.ref 0), some (.int x1), some (.int y2), some (.int y3), some (.int y4), some (.int y5), some (.int y6), some (.int y7), some (.int y8), some (.int y9), some (.int y10)], [], []) M253 r)) ∨ ∃ (E257 : Nat) (M258 : ak_M), rn X 101 [.ref 0, .int y8, .int y6, .int 3] M251 (.inr E257, M258) ∧ r = (.inr E257, M258))) ∨ ∃ (E261 : Nat) (M262 : ak_M), rn X 101 [.ref 0, .int y6, .int y8, .int 2] M249 (.inr E261, M262) ∧ r = (.inr E261, M262)) else sg X 362 (325, [some (.ref 0), some (.int x1), some (.int y2), some (.int y3), some (.int y4), some (.int y5), some (.int y6), some (.int y7), some (.int y8), some (.int y9), some (.int y10)], [], []) M249 r)) ∨ ∃ (E266 : Nat) (M267 : ak_M), rn X 101 [.ref 0, .int y8, .int y6, .int 0] M247 (.inr E266, M267) ∧ r = (.inr E266, M267))) ∨ ∃ (E270 : Nat) (M271 : ak_M), rn X 101 [.ref 0, .int y6, .int y8, .int 0] M245 (.inr E270, M271) ∧ r = (.inr E270, M271)) else sg X 362 (325, [some (.ref 0), some (.int x1), some (.int y2), some (.int y3), some (.int y4), some (.int y5), some (.int y6), some (.int y7), some (.int y8), some (.int y9), some (.int y10)], [], []) M245 r) else (if y10 = 1 then ((∃ (v275 : Int32) (M274 : ak_M), ab_lay M274 ∧ rn X 101 [.ref 0, .int y6, .int y8, .int 0] M245 (.inl (some (.int v275)), M274) ∧ ((∃ (v277 : Int32) (M276 : ak_M), ab_lay M276 ∧ rn X 101 [.ref 0, .int y8, .int y6, .int 0] M274 (.inl (some (.int v277)), M276) ∧ (if v275 = v277 then ((∃ (v279 : Int32) (M278 : ak_M), ab_lay M278 ∧ rn X 101 [.ref 0, .int y6, .int y8, .int 2] M276 (.inl (some (.int v279)), M278) ∧ ((∃ (v281 : Int32) (M280 : ak_M), ab_lay M280 ∧ rn X 101 [.ref 0, .int y8, .int y6, .int 3] M278 (.inl (some (.int v281)), M280) ∧ (if v279 = v281 then sg X 362 (327, [some (.ref 0), some (.int x1), some (.int y2), some (.int y3), some (.int y4), some (.int y5), some (.int y6), some (.int y7), some (.int y8), some (.int y9), some (.int y10)], [], []) M280 r else sg X 362 (325, [some (.ref 0), some (.int x1), some (.int y2), some (.int y3), some (.int y4), some (.int y5), some (.int y6), some (.int y7), some (.int y8), some (.int y9), some (.int y10)], [], []) M280 r)) ∨ ∃ (E284 : Nat) (M285 : ak_M), rn X 101 [.ref 0, .int y8, .int y6, .int 3] M278 (.inr E284, M285) ∧ r = (.inr E284, M285))) ∨ ∃ (E288 : Nat) (M289 : ak_M), rn X 101 [.ref 0, .int y6, .int y8, .int 2] M276 (.inr E288, M289) ∧ r = (.inr E288, M289)) else sg X 362 (325, [some (.ref 0), some (.int x1), some (.int y2), some (.int y3), some (.int y4), some (.int y5), some (.int y6), some (.int y7), some (.int y8), some (.int y9), some (.int y10)], [], []) M276 r)) ∨ ∃ (E293 : Nat) (M294 : ak_M), rn X 101 [.ref 0, .int y8, .int y6, .int 0] M274 (.inr E293, M294) ∧ r = (.inr E293, M294))) ∨ ∃ (E297 : Nat) (M298 : ak_M), rn X 101 [.ref 0, .int y6, .int y8, .int 0] M245 (.inr E297, M298) ∧ r = (.inr E297, M298)) else sg X 362 (325, [some (.ref 0), some (.int x1), some (.int y2), some (.int y3), some (.int y4), some (.int y5), some (.int y6), some (.int y7), some (.int y8), some (.int y9), some (.int y10)], [], []) M245 r)))) ∨ ∃ (E304 : Nat) (M305 : ak_M), rn X 101 [.ref 0, .int y6, .int y8, .int 4] M241 (.inr E304, M305) ∧ r = (.inr E304, M305)) else sg X 362 (325, [some (.ref 0), some (.int x1), some (.int y2), some (.int y3), some (.int y4), some (.int y5), some (.int y6), some (.int y7), some (.int y8), some (.int y9), some (.int y10)], [], []) M241 r))) ∨ ∃ (E310 : Nat) (M311 : ak_M), rn X 101 [.ref 0, .int y6, .int y8, .int 3] M237 (.inr E310, M311) ∧ r = (.inr E310, M311))) ∨ ∃ (E314 : Nat) (M315 : ak_M), rn X 101 [.ref 0, .int y6, .int y8, .int 2] M235 (.inr E314, M315) ∧ r = (.inr E314, M315))) ∨ ∃ (E318 : Nat) (M319 : ak_M), rn X 101 [.ref 0, .int y6, .int y8, .int 4] M233 (.inr E318, M319) ∧ r = (.inr E318, M319))) else sg X 362 (215, [some (.ref 0), some (.int x1), some (.int y2), some (.int y3), some (.int y4), some (.int y5), some (.int y6), some (.int y7), some (.int y8), some (.int y9), some (.int y10)], [], []) M233 r)) ∨ ∃ (E324 : Nat) (M325 : ak_M), rn X 109 [.ref 0, .int y8, .int y6] M231 (.inr E324, M325) ∧ r = (.inr E324, M325))) ∨ ∃ (E328 : Nat) (M329 : ak_M), rn X 109 [.ref 0, .int y6, .int y8] M229 (.inr E328, M329) ∧ r = (.inr E328, M329)) else sg X 362 (215, [some (.ref 0), some (.int x1), some (.int y2), some (.int y3), some (.int y4), some (.int y5), some (.int y6), some (.int y7), some (.int y8), some (.int y9), some (.int y10)], [], []) M229 r) else (if y9 = 1 then ((∃ (v333 : Int32) (M332 : ak_M), ab_lay M332 ∧ rn X 109 [.ref 0, .int y6, .int y8] M229 (.inl (some (.int v333)), M332) ∧ ((∃ (v335 : Int32) (M334 : ak_M), ab_lay M334 ∧ rn X 109 [.ref 0, .int y8, .int y6] M332 (.inl (some (.int v335)), M334) ∧ (if v333 = v335 then (if y9 = 0 then sg X 362 (327, [some (.ref 0), some (.int x1), some (.int y2), some (.int y3), some (.int y4), some (.int y5), some (.int y6), some (.int y7), some (.int y8), some (.int y9), some (.int y10)], [], []) M334 r else ((∃ (v337 : Int32) (M336 : ak_M), ab_lay M336 ∧ rn X 101 [.ref 0, .int y6, .int y8, .int 4] M334 (.inl (some (.int v337)), M336) ∧ ((∃ (v339 : Int32) (M338 : ak_M), ab_lay M338 ∧ rn X 101 [.ref 0, .int y6, .int y8, .int 2] M336 (.inl (some (.int v339)), M338) ∧ ((∃ (v341 : Int32) (M340 : ak_M), ab_lay M340 ∧ rn X 101 [.ref 0, .int y6, .int y8, .int 3] M338 (.inl (some (.int v341)), M340) ∧ (∃ (v343 : Int32) (M342 : ak_M), ab_lay M342 ∧ rn X 314 [.int (v339 - v341)] M340 (.inl (some (.int v343)), M342) ∧ (if v337 = v343 then ((∃ (v345 : Int32) (M344 : ak_M), ab_lay M344 ∧ rn X 101 [.ref 0, .int y6, .int y8, .int 4] M342 (.inl (some (.int v345)), M344) ∧ (∃ (v347 : Int32) (M346 : ak_M), ab_lay M346 ∧ rn X 93 [.ref 0, .int 4] M344 (.inl (some (.int v347)), M346) ∧ (if v347 < v345 then (if y10 = 0 then ((∃ (v349 : Int32) (M348 : ak_M), ab_lay M348 ∧ rn X 101 [.ref 0, .int y6, .int y8, .int 0] M346 (.inl (some (.int v349)), M348) ∧ ((∃ (v351 : Int32) (M350 : ak_M), ab_lay M350 ∧ rn X 101 [.ref 0, .int y8, .int y6, .int 0] M348 (.inl (some (.int v351)), M350) ∧ (if v349 = v351 then ((∃ (v353 : Int32) (M352 : ak_M), ab_lay M352 ∧ rn X 101 [.ref 0, .int y6, .int y8, .int 2] M350 (.inl (some (.int v353)), M352) ∧ ((∃ (v355 : Int32) (M354 : ak_M), ab_lay M354 ∧ rn X 101 [.ref 0, .int y8, .int y6, .int 3] M352 (.inl (some (.int v355)), M354) ∧ (if v353 = v355 then sg X 362 (327, [some (.ref 0), some (.int x1), some (.int y2), some (.int y3), some (.int y4), some (.int y5), some (.int y6), some (.int y7), some (.int y8), some (.int y9), some (.int y10)], [], []) M354 r else sg X 362 (325, [some (.ref 0), some (.int x1), some (.int y2), some (.int y3), some (.int y4), some (.int y5), some (.int y6), some (.int y7), some (.int y8), some (.int y9), some (.int y10)], [], []) M354 r)) ∨ ∃ (E358 : Nat) (M359 : ak_M), rn X 101 [.ref 0, .int y8, .int y6, .int 3] M352 (.inr E358, M359) ∧ r = (.inr E358, M359))) ∨ ∃ (E362 : Nat) (M363 : ak_M), rn X 101 [.ref 0, .int y6, .int y8, .int 2] M350 (.inr E362, M363) ∧ r = (.inr E362, M363)) else sg X 362 (325, [some (.ref 0), some (.int x1), some (.int y2), some (.int y3), some (.int y4), some (.int y5), some (.int y6), some (.int y7), some (.int y8), some (.int y9), some (.int y10)], [], []) M350 r)) ∨ ∃ (E367 : Nat) (M368 : ak_M), rn X 101 [.ref 0, .int y8, .int y6, .int 0] M348 (.inr E367, M368) ∧ r = (.inr E367, M368))) ∨ ∃ (E371 : Nat) (M372 : ak_M), rn X 101 [.ref 0, .int y6, .int y8, .int 0] M346 (.inr E371, M372) ∧ r = (.inr E371, M372)) else sg X 362 (325, [some (.ref 0), some (.int x1), some (.int y2), some (.int y3), some (.int y4), some (.int y5), some (.int y6), some (.int y7), some (.int y8), some (.int y9), some (.int y10)], [], []) M346 r) else (if y10 = 1 then ((∃ (v376 : Int32) (M375 : ak_M), ab_lay M375 ∧ rn X 101 [.ref 0, .int y6, .int y8, .int 0] M346 (.inl (some (.int v376)), M375) ∧ ((∃ (v378 : Int32) (M377 : ak_M), ab_lay M377 ∧ rn X 101 [.ref 0, .int y8, .int y6, .int 0] M375 (.inl (some (.int v378)), M377) ∧ (if v376 = v378 then ((∃ (v380 : Int32) (M379 : ak_M), ab_lay M379 ∧ rn X 101 [.ref 0, .int y6, .int y8, .int 2] M377 (.inl (some (.int v380)), M379) ∧ ((∃ (v382 : Int32) (M381 : ak_M), ab_lay M381 ∧ rn X 101 [.ref 0, .int y8, .int y6, .int 3] M379 (.inl (some (.int v382)), M381) ∧ (if v380 = v382 then sg X 362 (327, [some (.ref 0), some (.int x1), some (.int y2), some (.int y3), some (.int y4), some (.int y5), some (.int y6), some (.int y7), some (.int y8), some (.int y9), some (.int y10)], [], []) M381 r else sg X 362 (325, [some (.ref 0), some (.int x1), some (.int y2), some (.int y3), some (.int y4), some (.int y5), some (.int y6), some (.int y7), some (.int y8), some (.int y9), some (.int y10)], [], []) M381 r)) ∨ ∃ (E385 : Nat) (M386 : ak_M), rn X 101 [.ref 0, .int y8, .int y6, .int 3] M379 (.inr E385, M386) ∧ r = (.inr E385, M386))) ∨ ∃ (E389 : Nat) (M390 : ak_M), rn X 101 [.ref 0, .int y6, .int y8, .int 2] M377 (.inr E389, M390) ∧ r = (.inr E389, M390)) else sg X 362 (325, [some (.ref 0), some (.int x1), some (.int y2), some (.int y3), some (.int y4), some (.int y5), some (.int y6), some (.int y7), some (.int y8), some (.int y9), some (.int y10)], [], []) M377 r)) ∨ ∃ (E394 : Nat) (M395 : ak_M), rn X 101 [.ref 0, .int y8, .int y6, .int 0] M375 (.inr E394, M395) ∧ r = (.inr E394, M395))) ∨ ∃ (E398 : Nat) (M399 : ak_M), rn X 101 [.ref 0, .int y6, .int y8, .int 0] M346 (.inr E398, M399) ∧ r = (.inr E398, M399)) else sg X 362 (325, [some (.ref 0), some (.int x1), some (.int y2), some (.int y3), some (.int y4), some (.int y5), some (.int y6), some (.int y7), some (.int y8), some (.int y9), some (.int y10)], [], []) M346 r)))) ∨ ∃ (E405 : Nat) (M406 : ak_M), rn X 101 [.ref 0, .int y6, .int y8, .int 4] M342 (.inr E405, M406) ∧ r = (.inr E405, M406)) else sg X 362 (325, [some (.ref 0), some (.int x1), some (.int y2), some (.int y3), some (.int y4), some (.int y5), some (.int y6), some (.int y7), some (.int y8), some (.int y9), some (.int y10)], [], []) M342 r))) ∨ ∃ (E411 : Nat) (M412 : ak_M), rn X 101 [.ref 0, .int y6, .int y8, .int 3] M338 (.inr E411, M412) ∧ r = (.inr E411, M412))) ∨ ∃ (E415 : Nat) (M416 : ak_M), rn X 101 [.ref 0, .int y6, .int y8, .int 2] M336 (.inr E415, M416) ∧ r = (.inr E415, M416))) ∨ ∃ (E419 : Nat) (M420 : ak_M), rn X 101 [.ref 0, .int y6, .int y8, .int 4] M334 (.inr E419, M420) ∧ r = (.inr E419, M420))) else sg X 362 (215, [some (.ref 0), some (.int x1), some (.int y2), some (.int y3), some (.int y4), some (.int y5), some (.int y6), some (.int y7), some (.int y8), some (.int y9), some (.int y10)], [], []) M334 r)) ∨ ∃ (E425 : Nat) (M426 : ak_M), rn X 109 [.ref 0, .int y8, .int y6] M332 (.inr E425, M426) ∧ r = (.inr E425, M426))) ∨ ∃ (E429 : Nat) (M430 : ak_M), rn X 109 [.ref 0, .int y6, .int y8] M229 (.inr E429, M430) ∧ r = (.inr E429, M430)) else sg X 362 (215, [some (.ref 0), some (.int x1), some (.int y2), some (.int y3), some (.int y4), some (.int y5), some (.int y6), some (.int y7), some (.int y8), some (.int y9), some (.int y10)], [], []) M229 r))) ∨ ∃ (E435 : Nat) (M436 : ak_M), rn X 101 [.ref 0, .int y6, .int y8, .int 4] M (.inr E435, M436) ∧ r = (.inr E435, M436))) : sg X 362 (174, [some (.ref 0), some (.int x1), some (.int y2), some (.int y3), some (.int y4), some (.int y5), some (.int y6), some (.int y7), some (.int y8), some (.int y9), some (.int y10)], [], []) M r := by
  refine w_iload (n := 176) (i := 9) (by decide +kernel) rfl rfl ?_
  refine w_aload_n (n := 177) (i := 0) (by decide +kernel) rfl rfl ?_
  refine w_iload (n := 179) (i := 6) (by decide +kernel) rfl rfl ?_
  refine w_iload (n := 181) (i := 8) (by decide +kernel) rfl rfl ?_
  refine w_iconst (n := 182) (v := 4) (x := 4) (by decide +kernel) rfl (by decide) ?_
  rcases h with h | ⟨E435, M436, hr437, rfl⟩
  · obtain ⟨v230, M229, hLM229, hr434, h⟩ := h
    refine w_cV (n := 185) (idx := 105) (cal := 101) (na := 3) (nl := 4) (as := [.int y6, .int y8, .int 4]) (rest := [.int y9]) hL (by decide +kernel) (by decide +kernel) (at_0) (by decide +kernel) rfl rfl rfl (Nat.le_of_ble_eq_true rfl) rfl hr434 ?_
    by_cases c433 : v230 < 0
    · rw [if_pos c433] at h
      refine w_if_lt_j (n := 192) (off := 7) (by decide +kernel) (by decide) c433 ?_
      refine w_iconst (n := 193) (v := 0) (x := 0) (by decide +kernel) rfl (by decide) ?_
      by_cases c331 : y9 = 0
      · rw [if_pos c331] at h
        refine w_icmp_ne_n (n := 196) (off := 22) (by decide +kernel) rfl c331 ?_
        refine w_aload_n (n := 197) (i := 0) (by decide +kernel) rfl rfl ?_
        refine w_iload (n := 199) (i := 6) (by decide +kernel) rfl rfl ?_
        refine w_iload (n := 201) (i := 8) (by decide +kernel) rfl rfl ?_
        rcases h with h | ⟨E328, M329, hr330, rfl⟩
        · obtain ⟨v232, M231, hLM231, hr327, h⟩ := h
          refine w_cV (n := 204) (idx := 109) (cal := 109) (na := 2) (nl := 3) (as := [.int y6, .int y8]) (rest := []) hLM229 (by decide +kernel) (by decide +kernel) (at_0) (by decide +kernel) rfl rfl rfl (Nat.le_of_ble_eq_true rfl) rfl hr327 ?_
          refine w_aload_n (n := 205) (i := 0) (by decide +kernel) rfl rfl ?_
          refine w_iload (n := 207) (i := 8) (by decide +kernel) rfl rfl ?_
          refine w_iload (n := 209) (i := 6) (by decide +kernel) rfl rfl ?_
          rcases h with h | ⟨E324, M325, hr326, rfl⟩
          · obtain ⟨v234, M233, hLM233, hr323, h⟩ := h
            refine w_cV (n := 212) (idx := 109) (cal := 109) (na := 2) (nl := 3) (as := [.int y8, .int y6]) (rest := [.int v232]) hLM231 (by decide +kernel) (by decide +kernel) (at_0) (by decide +kernel) rfl rfl rfl (Nat.le_of_ble_eq_true rfl) rfl hr323 ?_
            by_cases c322 : v232 = v234
            · rw [if_pos c322] at h
              refine w_icmp_eq_j (n := 217) (off := 5) (by decide +kernel) (by decide) c322 ?_
              refine w_iload (n := 219) (i := 9) (by decide +kernel) rfl rfl ?_
              by_cases c321 : y9 = 0
              · rw [if_pos c321] at h
                refine w_if_eq_j (n := 327) (off := 108) (by decide +kernel) (by decide) c321 ?_
                exact h
              · rw [if_neg c321] at h
                refine w_if_eq_n (n := 222) (off := 108) (by decide +kernel) rfl c321 ?_
                refine w_aload_n (n := 223) (i := 0) (by decide +kernel) rfl rfl ?_
                refine w_iload (n := 225) (i := 6) (by decide +kernel) rfl rfl ?_
                refine w_iload (n := 227) (i := 8) (by decide +kernel) rfl rfl ?_
                refine w_iconst (n := 228) (v := 4) (x := 4) (by decide +kernel) rfl (by decide) ?_
                rcases h with h | ⟨E318, M319, hr320, rfl⟩
                · obtain ⟨v236, M235, hLM235, hr317, h⟩ := h
                  refine w_cV (n := 231) (idx := 105) (cal := 101) (na := 3) (nl := 4) (as := [.int y6, .int y8, .int 4]) (rest := []) hLM233 (by decide +kernel) (by decide +kernel) (at_0) (by decide +kernel) rfl rfl rfl (Nat.le_of_ble_eq_true rfl) rfl hr317 ?_
                  refine w_aload_n (n := 232) (i := 0) (by decide +kernel) rfl rfl ?_
                  refine w_iload (n := 234) (i := 6) (by decide +kernel) rfl rfl ?_
                  refine w_iload (n := 236) (i := 8) (by decide +kernel) rfl rfl ?_
                  refine w_iconst (n := 237) (v := 2) (x := 2) (by decide +kernel) rfl (by decide) ?_
                  rcases h with h | ⟨E314, M315, hr316, rfl⟩
                  · obtain ⟨v238, M237, hLM237, hr313, h⟩ := h
                    refine w_cV (n := 240) (idx := 105) (cal := 101) (na := 3) (nl := 4) (as := [.int y6, .int y8, .int 2]) (rest := [.int v236]) hLM235 (by decide +kernel) (by decide +kernel) (at_0) (by decide +kernel) rfl rfl rfl (Nat.le_of_ble_eq_true rfl) rfl hr313 ?_
                    refine w_aload_n (n := 241) (i := 0) (by decide +kernel) rfl rfl ?_
                    refine w_iload (n := 243) (i := 6) (by decide +kernel) rfl rfl ?_
                    refine w_iload (n := 245) (i := 8) (by decide +kernel) rfl rfl ?_
                    refine w_iconst (n := 246) (v := 3) (x := 3) (by decide +kernel) rfl (by decide) ?_
                    rcases h with h | ⟨E310, M311, hr312, rfl⟩
                    · obtain ⟨v240, M239, hLM239, hr309, h⟩ := h
                      refine w_cV (n := 249) (idx := 105) (cal := 101) (na := 3) (nl := 4) (as := [.int y6, .int y8, .int 3]) (rest := [.int v238, .int v236]) hLM237 (by decide +kernel) (by decide +kernel) (at_0) (by decide +kernel) rfl rfl rfl (Nat.le_of_ble_eq_true rfl) rfl hr309 ?_
                      refine w_isub (n := 250) (by decide +kernel) rfl ?_
                      obtain ⟨v242, M241, hLM241, hr308, h⟩ := h
                      refine w_cS (n := 253) (idx := 81) (cal := 314) (na := 1) (nl := 1) (as := [.int (v238 - v240)]) (rest := [.int v236]) (by decide +kernel) (by decide +kernel) rfl rfl rfl (Nat.le_of_ble_eq_true rfl) rfl hr308 ?_
                      by_cases c307 : v236 = v242
                      · rw [if_pos c307] at h
                        refine w_icmp_ne_n (n := 256) (off := 72) (by decide +kernel) rfl c307 ?_
                        refine w_iload (n := 258) (i := 10) (by decide +kernel) rfl rfl ?_
                        refine w_aload_n (n := 259) (i := 0) (by decide +kernel) rfl rfl ?_
                        refine w_iload (n := 261) (i := 6) (by decide +kernel) rfl rfl ?_
                        refine w_iload (n := 263) (i := 8) (by decide +kernel) rfl rfl ?_
                        refine w_iconst (n := 264) (v := 4) (x := 4) (by decide +kernel) rfl (by decide) ?_
                        rcases h with h | ⟨E304, M305, hr306, rfl⟩
                        · obtain ⟨v244, M243, hLM243, hr303, h⟩ := h
                          refine w_cV (n := 267) (idx := 105) (cal := 101) (na := 3) (nl := 4) (as := [.int y6, .int y8, .int 4]) (rest := [.int y10]) hLM241 (by decide +kernel) (by decide +kernel) (at_0) (by decide +kernel) rfl rfl rfl (Nat.le_of_ble_eq_true rfl) rfl hr303 ?_
                          refine w_aload_n (n := 268) (i := 0) (by decide +kernel) rfl rfl ?_
                          refine w_iconst (n := 269) (v := 4) (x := 4) (by decide +kernel) rfl (by decide) ?_
                          obtain ⟨v246, M245, hLM245, hr302, h⟩ := h
                          refine w_cV (n := 272) (idx := 112) (cal := 93) (na := 1) (nl := 2) (as := [.int 4]) (rest := [.int v244, .int y10]) hLM243 (by decide +kernel) (by decide +kernel) (at_0) (by decide +kernel) rfl rfl rfl (Nat.le_of_ble_eq_true rfl) rfl hr302 ?_
                          by_cases c301 : v246 < v244
                          · rw [if_pos c301] at h
                            refine w_icmp_gt_j (n := 279) (off := 7) (by decide +kernel) (by decide) c301 ?_
                            refine w_iconst (n := 280) (v := 0) (x := 0) (by decide +kernel) rfl (by decide) ?_
                            by_cases c273 : y10 = 0
                            · rw [if_pos c273] at h
                              refine w_icmp_ne_n (n := 283) (off := 45) (by decide +kernel) rfl c273 ?_
                              refine w_aload_n (n := 284) (i := 0) (by decide +kernel) rfl rfl ?_
                              refine w_iload (n := 286) (i := 6) (by decide +kernel) rfl rfl ?_
                              refine w_iload (n := 288) (i := 8) (by decide +kernel) rfl rfl ?_
                              refine w_iconst (n := 289) (v := 0) (x := 0) (by decide +kernel) rfl (by decide) ?_
                              rcases h with h | ⟨E270, M271, hr272, rfl⟩
                              · obtain ⟨v248, M247, hLM247, hr269, h⟩ := h
                                refine w_cV (n := 292) (idx := 105) (cal := 101) (na := 3) (nl := 4) (as := [.int y6, .int y8, .int 0]) (rest := []) hLM245 (by decide +kernel) (by decide +kernel) (at_0) (by decide +kernel) rfl rfl rfl (Nat.le_of_ble_eq_true rfl) rfl hr269 ?_
                                refine w_aload_n (n := 293) (i := 0) (by decide +kernel) rfl rfl ?_
                                refine w_iload (n := 295) (i := 8) (by decide +kernel) rfl rfl ?_
                                refine w_iload (n := 297) (i := 6) (by decide +kernel) rfl rfl ?_
                                refine w_iconst (n := 298) (v := 0) (x := 0) (by decide +kernel) rfl (by decide) ?_
                                rcases h with h | ⟨E266, M267, hr268, rfl⟩
                                · obtain ⟨v250, M249, hLM249, hr265, h⟩ := h
                                  refine w_cV (n := 301) (idx := 105) (cal := 101) (na := 3) (nl := 4) (as := [.int y8, .int y6, .int 0]) (rest := [.int v248]) hLM247 (by decide +kernel) (by decide +kernel) (at_0) (by decide +kernel) rfl rfl rfl (Nat.le_of_ble_eq_true rfl) rfl hr265 ?_
                                  by_cases c264 : v248 = v250
                                  · rw [if_pos c264] at h
                                    refine w_icmp_ne_n (n := 304) (off := 24) (by decide +kernel) rfl c264 ?_
                                    refine w_aload_n (n := 305) (i := 0) (by decide +kernel) rfl rfl ?_
                                    refine w_iload (n := 307) (i := 6) (by decide +kernel) rfl rfl ?_
                                    refine w_iload (n := 309) (i := 8) (by decide +kernel) rfl rfl ?_
                                    refine w_iconst (n := 310) (v := 2) (x := 2) (by decide +kernel) rfl (by decide) ?_
                                    rcases h with h | ⟨E261, M262, hr263, rfl⟩
                                    · obtain ⟨v252, M251, hLM251, hr260, h⟩ := h
                                      refine w_cV (n := 313) (idx := 105) (cal := 101) (na := 3) (nl := 4) (as := [.int y6, .int y8, .int 2]) (rest := []) hLM249 (by decide +kernel) (by decide +kernel) (at_0) (by decide +kernel) rfl rfl rfl (Nat.le_of_ble_eq_true rfl) rfl hr260 ?_
                                      refine w_aload_n (n := 314) (i := 0) (by decide +kernel) rfl rfl ?_
                                      refine w_iload (n := 316) (i := 8) (by decide +kernel) rfl rfl ?_
                                      refine w_iload (n := 318) (i := 6) (by decide +kernel) rfl rfl ?_
                                      refine w_iconst (n := 319) (v := 3) (x := 3) (by decide +kernel) rfl (by decide) ?_
                                      rcases h with h | ⟨E257, M258, hr259, rfl⟩
                                      · obtain ⟨v254, M253, hLM253, hr256, h⟩ := h
                                        refine w_cV (n := 322) (idx := 105) (cal := 101) (na := 3) (nl := 4) (as := [.int y8, .int y6, .int 3]) (rest := [.int v252]) hLM251 (by decide +kernel) (by decide +kernel) (at_0) (by decide +kernel) rfl rfl rfl (Nat.le_of_ble_eq_true rfl) rfl hr256 ?_
                                        by_cases c255 : v252 = v254
                                        · rw [if_pos c255] at h
                                          refine w_icmp_eq_j (n := 327) (off := 5) (by decide +kernel) (by decide) c255 ?_
                                          exact h
                                        · rw [if_neg c255] at h
                                          refine w_icmp_eq_n (n := 325) (off := 5) (by decide +kernel) rfl c255 ?_
                                          exact h
                                      · exact w_tV (idx := 105) (cal := 101) (na := 3) (nl := 4) (as := [.int y8, .int y6, .int 3]) (rest := [.int v252]) hLM251 (by decide +kernel) (by decide +kernel) (at_0) (by decide +kernel) rfl rfl rfl (Nat.le_of_ble_eq_true rfl) (by decide +kernel) (by decide +kernel) hr259
                                    · exact w_tV (idx := 105) (cal := 101) (na := 3) (nl := 4) (as := [.int y6, .int y8, .int 2]) (rest := []) hLM249 (by decide +kernel) (by decide +kernel) (at_0) (by decide +kernel) rfl rfl rfl (Nat.le_of_ble_eq_true rfl) (by decide +kernel) (by decide +kernel) hr263
                                  · rw [if_neg c264] at h
                                    refine w_icmp_ne_j (n := 325) (off := 24) (by decide +kernel) (by decide) c264 ?_
                                    exact h
                                · exact w_tV (idx := 105) (cal := 101) (na := 3) (nl := 4) (as := [.int y8, .int y6, .int 0]) (rest := [.int v248]) hLM247 (by decide +kernel) (by decide +kernel) (at_0) (by decide +kernel) rfl rfl rfl (Nat.le_of_ble_eq_true rfl) (by decide +kernel) (by decide +kernel) hr268
                              · exact w_tV (idx := 105) (cal := 101) (na := 3) (nl := 4) (as := [.int y6, .int y8, .int 0]) (rest := []) hLM245 (by decide +kernel) (by decide +kernel) (at_0) (by decide +kernel) rfl rfl rfl (Nat.le_of_ble_eq_true rfl) (by decide +kernel) (by decide +kernel) hr272
                            · rw [if_neg c273] at h
                              refine w_icmp_ne_j (n := 325) (off := 45) (by decide +kernel) (by decide) c273 ?_
                              exact h
                          · rw [if_neg c301] at h
                            refine w_icmp_gt_n (n := 275) (off := 7) (by decide +kernel) rfl c301 ?_
                            refine w_iconst (n := 276) (v := 1) (x := 1) (by decide +kernel) rfl (by decide) ?_
                            refine w_goto (n := 280) (off := 4) (by decide +kernel) (by decide) ?_
                            by_cases c300 : y10 = 1
                            · rw [if_pos c300] at h
                              refine w_icmp_ne_n (n := 283) (off := 45) (by decide +kernel) rfl c300 ?_
                              refine w_aload_n (n := 284) (i := 0) (by decide +kernel) rfl rfl ?_
                              refine w_iload (n := 286) (i := 6) (by decide +kernel) rfl rfl ?_
                              refine w_iload (n := 288) (i := 8) (by decide +kernel) rfl rfl ?_
                              refine w_iconst (n := 289) (v := 0) (x := 0) (by decide +kernel) rfl (by decide) ?_
                              rcases h with h | ⟨E297, M298, hr299, rfl⟩
                              · obtain ⟨v275, M274, hLM274, hr296, h⟩ := h
                                refine w_cV (n := 292) (idx := 105) (cal := 101) (na := 3) (nl := 4) (as := [.int y6, .int y8, .int 0]) (rest := []) hLM245 (by decide +kernel) (by decide +kernel) (at_0) (by decide +kernel) rfl rfl rfl (Nat.le_of_ble_eq_true rfl) rfl hr296 ?_
                                refine w_aload_n (n := 293) (i := 0) (by decide +kernel) rfl rfl ?_
                                refine w_iload (n := 295) (i := 8) (by decide +kernel) rfl rfl ?_
                                refine w_iload (n := 297) (i := 6) (by decide +kernel) rfl rfl ?_
                                refine w_iconst (n := 298) (v := 0) (x := 0) (by decide +kernel) rfl (by decide) ?_
                                rcases h with h | ⟨E293, M294, hr295, rfl⟩
                                · obtain ⟨v277, M276, hLM276, hr292, h⟩ := h
                                  refine w_cV (n := 301) (idx := 105) (cal := 101) (na := 3) (nl := 4) (as := [.int y8, .int y6, .int 0]) (rest := [.int v275]) hLM274 (by decide +kernel) (by decide +kernel) (at_0) (by decide +kernel) rfl rfl rfl (Nat.le_of_ble_eq_true rfl) rfl hr292 ?_
                                  by_cases c291 : v275 = v277
                                  · rw [if_pos c291] at h
                                    refine w_icmp_ne_n (n := 304) (off := 24) (by decide +kernel) rfl c291 ?_
                                    refine w_aload_n (n := 305) (i := 0) (by decide +kernel) rfl rfl ?_
                                    refine w_iload (n := 307) (i := 6) (by decide +kernel) rfl rfl ?_
                                    refine w_iload (n := 309) (i := 8) (by decide +kernel) rfl rfl ?_
                                    refine w_iconst (n := 310) (v := 2) (x := 2) (by decide +kernel) rfl (by decide) ?_
                                    rcases h with h | ⟨E288, M289, hr290, rfl⟩
                                    · obtain ⟨v279, M278, hLM278, hr287, h⟩ := h
                                      refine w_cV (n := 313) (idx := 105) (cal := 101) (na := 3) (nl := 4) (as := [.int y6, .int y8, .int 2]) (rest := []) hLM276 (by decide +kernel) (by decide +kernel) (at_0) (by decide +kernel) rfl rfl rfl (Nat.le_of_ble_eq_true rfl) rfl hr287 ?_
                                      refine w_aload_n (n := 314) (i := 0) (by decide +kernel) rfl rfl ?_
                                      refine w_iload (n := 316) (i := 8) (by decide +kernel) rfl rfl ?_
                                      refine w_iload (n := 318) (i := 6) (by decide +kernel) rfl rfl ?_
                                      refine w_iconst (n := 319) (v := 3) (x := 3) (by decide +kernel) rfl (by decide) ?_
                                      rcases h with h | ⟨E284, M285, hr286, rfl⟩
                                      · obtain ⟨v281, M280, hLM280, hr283, h⟩ := h
                                        refine w_cV (n := 322) (idx := 105) (cal := 101) (na := 3) (nl := 4) (as := [.int y8, .int y6, .int 3]) (rest := [.int v279]) hLM278 (by decide +kernel) (by decide +kernel) (at_0) (by decide +kernel) rfl rfl rfl (Nat.le_of_ble_eq_true rfl) rfl hr283 ?_
                                        by_cases c282 : v279 = v281
                                        · rw [if_pos c282] at h
                                          refine w_icmp_eq_j (n := 327) (off := 5) (by decide +kernel) (by decide) c282 ?_
                                          exact h
                                        · rw [if_neg c282] at h
                                          refine w_icmp_eq_n (n := 325) (off := 5) (by decide +kernel) rfl c282 ?_
                                          exact h
                                      · exact w_tV (idx := 105) (cal := 101) (na := 3) (nl := 4) (as := [.int y8, .int y6, .int 3]) (rest := [.int v279]) hLM278 (by decide +kernel) (by decide +kernel) (at_0) (by decide +kernel) rfl rfl rfl (Nat.le_of_ble_eq_true rfl) (by decide +kernel) (by decide +kernel) hr286
                                    · exact w_tV (idx := 105) (cal := 101) (na := 3) (nl := 4) (as := [.int y6, .int y8, .int 2]) (rest := []) hLM276 (by decide +kernel) (by decide +kernel) (at_0) (by decide +kernel) rfl rfl rfl (Nat.le_of_ble_eq_true rfl) (by decide +kernel) (by decide +kernel) hr290
                                  · rw [if_neg c291] at h
                                    refine w_icmp_ne_j (n := 325) (off := 24) (by decide +kernel) (by decide) c291 ?_
                                    exact h
                                · exact w_tV (idx := 105) (cal := 101) (na := 3) (nl := 4) (as := [.int y8, .int y6, .int 0]) (rest := [.int v275]) hLM274 (by decide +kernel) (by decide +kernel) (at_0) (by decide +kernel) rfl rfl rfl (Nat.le_of_ble_eq_true rfl) (by decide +kernel) (by decide +kernel) hr295
                              · exact w_tV (idx := 105) (cal := 101) (na := 3) (nl := 4) (as := [.int y6, .int y8, .int 0]) (rest := []) hLM245 (by decide +kernel) (by decide +kernel) (at_0) (by decide +kernel) rfl rfl rfl (Nat.le_of_ble_eq_true rfl) (by decide +kernel) (by decide +kernel) hr299
                            · rw [if_neg c300] at h
                              refine w_icmp_ne_j (n := 325) (off := 45) (by decide +kernel) (by decide) c300 ?_
                              exact h
                        · exact w_tV (idx := 105) (cal := 101) (na := 3) (nl := 4) (as := [.int y6, .int y8, .int 4]) (rest := [.int y10]) hLM241 (by decide +kernel) (by decide +kernel) (at_0) (by decide +kernel) rfl rfl rfl (Nat.le_of_ble_eq_true rfl) (by decide +kernel) (by decide +kernel) hr306
                      · rw [if_neg c307] at h
                        refine w_icmp_ne_j (n := 325) (off := 72) (by decide +kernel) (by decide) c307 ?_
                        exact h
                    · exact w_tV (idx := 105) (cal := 101) (na := 3) (nl := 4) (as := [.int y6, .int y8, .int 3]) (rest := [.int v238, .int v236]) hLM237 (by decide +kernel) (by decide +kernel) (at_0) (by decide +kernel) rfl rfl rfl (Nat.le_of_ble_eq_true rfl) (by decide +kernel) (by decide +kernel) hr312
                  · exact w_tV (idx := 105) (cal := 101) (na := 3) (nl := 4) (as := [.int y6, .int y8, .int 2]) (rest := [.int v236]) hLM235 (by decide +kernel) (by decide +kernel) (at_0) (by decide +kernel) rfl rfl rfl (Nat.le_of_ble_eq_true rfl) (by decide +kernel) (by decide +kernel) hr316
                · exact w_tV (idx := 105) (cal := 101) (na := 3) (nl := 4) (as := [.int y6, .int y8, .int 4]) (rest := []) hLM233 (by decide +kernel) (by decide +kernel) (at_0) (by decide +kernel) rfl rfl rfl (Nat.le_of_ble_eq_true rfl) (by decide +kernel) (by decide +kernel) hr320
            · rw [if_neg c322] at h
              refine w_icmp_eq_n (n := 215) (off := 5) (by decide +kernel) rfl c322 ?_
              exact h
          · exact w_tV (idx := 109) (cal := 109) (na := 2) (nl := 3) (as := [.int y8, .int y6]) (rest := [.int v232]) hLM231 (by decide +kernel) (by decide +kernel) (at_0) (by decide +kernel) rfl rfl rfl (Nat.le_of_ble_eq_true rfl) (by decide +kernel) (by decide +kernel) hr326
        · exact w_tV (idx := 109) (cal := 109) (na := 2) (nl := 3) (as := [.int y6, .int y8]) (rest := []) hLM229 (by decide +kernel) (by decide +kernel) (at_0) (by decide +kernel) rfl rfl rfl (Nat.le_of_ble_eq_true rfl) (by decide +kernel) (by decide +kernel) hr330
      · rw [if_neg c331] at h
        refine w_icmp_ne_j (n := 215) (off := 22) (by decide +kernel) (by decide) c331 ?_
        exact h
    · rw [if_neg c433] at h
      refine w_if_lt_n (n := 188) (off := 7) (by decide +kernel) rfl c433 ?_
      refine w_iconst (n := 189) (v := 1) (x := 1) (by decide +kernel) rfl (by decide) ?_
      refine w_goto (n := 193) (off := 4) (by decide +kernel) (by decide) ?_
      by_cases c432 : y9 = 1
      · rw [if_pos c432] at h
        refine w_icmp_ne_n (n := 196) (off := 22) (by decide +kernel) rfl c432 ?_
        refine w_aload_n (n := 197) (i := 0) (by decide +kernel) rfl rfl ?_
        refine w_iload (n := 199) (i := 6) (by decide +kernel) rfl rfl ?_
        refine w_iload (n := 201) (i := 8) (by decide +kernel) rfl rfl ?_
        rcases h with h | ⟨E429, M430, hr431, rfl⟩
        · obtain ⟨v333, M332, hLM332, hr428, h⟩ := h
          refine w_cV (n := 204) (idx := 109) (cal := 109) (na := 2) (nl := 3) (as := [.int y6, .int y8]) (rest := []) hLM229 (by decide +kernel) (by decide +kernel) (at_0) (by decide +kernel) rfl rfl rfl (Nat.le_of_ble_eq_true rfl) rfl hr428 ?_
          refine w_aload_n (n := 205) (i := 0) (by decide +kernel) rfl rfl ?_
          refine w_iload (n := 207) (i := 8) (by decide +kernel) rfl rfl ?_
          refine w_iload (n := 209) (i := 6) (by decide +kernel) rfl rfl ?_
          rcases h with h | ⟨E425, M426, hr427, rfl⟩
          · obtain ⟨v335, M334, hLM334, hr424, h⟩ := h
            refine w_cV (n := 212) (idx := 109) (cal := 109) (na := 2) (nl := 3) (as := [.int y8, .int y6]) (rest := [.int v333]) hLM332 (by decide +kernel) (by decide +kernel) (at_0) (by decide +kernel) rfl rfl rfl (Nat.le_of_ble_eq_true rfl) rfl hr424 ?_
            by_cases c423 : v333 = v335
            · rw [if_pos c423] at h
              refine w_icmp_eq_j (n := 217) (off := 5) (by decide +kernel) (by decide) c423 ?_
              refine w_iload (n := 219) (i := 9) (by decide +kernel) rfl rfl ?_
              by_cases c422 : y9 = 0
              · rw [if_pos c422] at h
                refine w_if_eq_j (n := 327) (off := 108) (by decide +kernel) (by decide) c422 ?_
                exact h
              · rw [if_neg c422] at h
                refine w_if_eq_n (n := 222) (off := 108) (by decide +kernel) rfl c422 ?_
                refine w_aload_n (n := 223) (i := 0) (by decide +kernel) rfl rfl ?_
                refine w_iload (n := 225) (i := 6) (by decide +kernel) rfl rfl ?_
                refine w_iload (n := 227) (i := 8) (by decide +kernel) rfl rfl ?_
                refine w_iconst (n := 228) (v := 4) (x := 4) (by decide +kernel) rfl (by decide) ?_
                rcases h with h | ⟨E419, M420, hr421, rfl⟩
                · obtain ⟨v337, M336, hLM336, hr418, h⟩ := h
                  refine w_cV (n := 231) (idx := 105) (cal := 101) (na := 3) (nl := 4) (as := [.int y6, .int y8, .int 4]) (rest := []) hLM334 (by decide +kernel) (by decide +kernel) (at_0) (by decide +kernel) rfl rfl rfl (Nat.le_of_ble_eq_true rfl) rfl hr418 ?_
                  refine w_aload_n (n := 232) (i := 0) (by decide +kernel) rfl rfl ?_
                  refine w_iload (n := 234) (i := 6) (by decide +kernel) rfl rfl ?_
                  refine w_iload (n := 236) (i := 8) (by decide +kernel) rfl rfl ?_
                  refine w_iconst (n := 237) (v := 2) (x := 2) (by decide +kernel) rfl (by decide) ?_
                  rcases h with h | ⟨E415, M416, hr417, rfl⟩
                  · obtain ⟨v339, M338, hLM338, hr414, h⟩ := h
                    refine w_cV (n := 240) (idx := 105) (cal := 101) (na := 3) (nl := 4) (as := [.int y6, .int y8, .int 2]) (rest := [.int v337]) hLM336 (by decide +kernel) (by decide +kernel) (at_0) (by decide +kernel) rfl rfl rfl (Nat.le_of_ble_eq_true rfl) rfl hr414 ?_
                    refine w_aload_n (n := 241) (i := 0) (by decide +kernel) rfl rfl ?_
                    refine w_iload (n := 243) (i := 6) (by decide +kernel) rfl rfl ?_
                    refine w_iload (n := 245) (i := 8) (by decide +kernel) rfl rfl ?_
                    refine w_iconst (n := 246) (v := 3) (x := 3) (by decide +kernel) rfl (by decide) ?_
                    rcases h with h | ⟨E411, M412, hr413, rfl⟩
                    · obtain ⟨v341, M340, hLM340, hr410, h⟩ := h
                      refine w_cV (n := 249) (idx := 105) (cal := 101) (na := 3) (nl := 4) (as := [.int y6, .int y8, .int 3]) (rest := [.int v339, .int v337]) hLM338 (by decide +kernel) (by decide +kernel) (at_0) (by decide +kernel) rfl rfl rfl (Nat.le_of_ble_eq_true rfl) rfl hr410 ?_
                      refine w_isub (n := 250) (by decide +kernel) rfl ?_
                      obtain ⟨v343, M342, hLM342, hr409, h⟩ := h
                      refine w_cS (n := 253) (idx := 81) (cal := 314) (na := 1) (nl := 1) (as := [.int (v339 - v341)]) (rest := [.int v337]) (by decide +kernel) (by decide +kernel) rfl rfl rfl (Nat.le_of_ble_eq_true rfl) rfl hr409 ?_
                      by_cases c408 : v337 = v343
                      · rw [if_pos c408] at h
                        refine w_icmp_ne_n (n := 256) (off := 72) (by decide +kernel) rfl c408 ?_
                        refine w_iload (n := 258) (i := 10) (by decide +kernel) rfl rfl ?_
                        refine w_aload_n (n := 259) (i := 0) (by decide +kernel) rfl rfl ?_
                        refine w_iload (n := 261) (i := 6) (by decide +kernel) rfl rfl ?_
                        refine w_iload (n := 263) (i := 8) (by decide +kernel) rfl rfl ?_
                        refine w_iconst (n := 264) (v := 4) (x := 4) (by decide +kernel) rfl (by decide) ?_
                        rcases h with h | ⟨E405, M406, hr407, rfl⟩
                        · obtain ⟨v345, M344, hLM344, hr404, h⟩ := h
                          refine w_cV (n := 267) (idx := 105) (cal := 101) (na := 3) (nl := 4) (as := [.int y6, .int y8, .int 4]) (rest := [.int y10]) hLM342 (by decide +kernel) (by decide +kernel) (at_0) (by decide +kernel) rfl rfl rfl (Nat.le_of_ble_eq_true rfl) rfl hr404 ?_
                          refine w_aload_n (n := 268) (i := 0) (by decide +kernel) rfl rfl ?_
                          refine w_iconst (n := 269) (v := 4) (x := 4) (by decide +kernel) rfl (by decide) ?_
                          obtain ⟨v347, M346, hLM346, hr403, h⟩ := h
                          refine w_cV (n := 272) (idx := 112) (cal := 93) (na := 1) (nl := 2) (as := [.int 4]) (rest := [.int v345, .int y10]) hLM344 (by decide +kernel) (by decide +kernel) (at_0) (by decide +kernel) rfl rfl rfl (Nat.le_of_ble_eq_true rfl) rfl hr403 ?_
                          by_cases c402 : v347 < v345
                          · rw [if_pos c402] at h
                            refine w_icmp_gt_j (n := 279) (off := 7) (by decide +kernel) (by decide) c402 ?_
                            refine w_iconst (n := 280) (v := 0) (x := 0) (by decide +kernel) rfl (by decide) ?_
                            by_cases c374 : y10 = 0
                            · rw [if_pos c374] at h
                              refine w_icmp_ne_n (n := 283) (off := 45) (by decide +kernel) rfl c374 ?_
                              refine w_aload_n (n := 284) (i := 0) (by decide +kernel) rfl rfl ?_
                              refine w_iload (n := 286) (i := 6) (by decide +kernel) rfl rfl ?_
                              refine w_iload (n := 288) (i := 8) (by decide +kernel) rfl rfl ?_
                              refine w_iconst (n := 289) (v := 0) (x := 0) (by decide +kernel) rfl (by decide) ?_
                              rcases h with h | ⟨E371, M372, hr373, rfl⟩
                              · obtain ⟨v349, M348, hLM348, hr370, h⟩ := h
                                refine w_cV (n := 292) (idx := 105) (cal := 101) (na := 3) (nl := 4) (as := [.int y6, .int y8, .int 0]) (rest := []) hLM346 (by decide +kernel) (by decide +kernel) (at_0) (by decide +kernel) rfl rfl rfl (Nat.le_of_ble_eq_true rfl) rfl hr370 ?_
                                refine w_aload_n (n := 293) (i := 0) (by decide +kernel) rfl rfl ?_
                                refine w_iload (n := 295) (i := 8) (by decide +kernel) rfl rfl ?_
                                refine w_iload (n := 297) (i := 6) (by decide +kernel) rfl rfl ?_
                                refine w_iconst (n := 298) (v := 0) (x := 0) (by decide +kernel) rfl (by decide) ?_
                                rcases h with h | ⟨E367, M368, hr369, rfl⟩
                                · obtain ⟨v351, M350, hLM350, hr366, h⟩ := h
                                  refine w_cV (n := 301) (idx := 105) (cal := 101) (na := 3) (nl := 4) (as := [.int y8, .int y6, .int 0]) (rest := [.int v349]) hLM348 (by decide +kernel) (by decide +kernel) (at_0) (by decide +kernel) rfl rfl rfl (Nat.le_of_ble_eq_true rfl) rfl hr366 ?_
                                  by_cases c365 : v349 = v351
                                  · rw [if_pos c365] at h
                                    refine w_icmp_ne_n (n := 304) (off := 24) (by decide +kernel) rfl c365 ?_
                                    refine w_aload_n (n := 305) (i := 0) (by decide +kernel) rfl rfl ?_
                                    refine w_iload (n := 307) (i := 6) (by decide +kernel) rfl rfl ?_
                                    refine w_iload (n := 309) (i := 8) (by decide +kernel) rfl rfl ?_
                                    refine w_iconst (n := 310) (v := 2) (x := 2) (by decide +kernel) rfl (by decide) ?_
                                    rcases h with h | ⟨E362, M363, hr364, rfl⟩
                                    · obtain ⟨v353, M352, hLM352, hr361, h⟩ := h
                                      refine w_cV (n := 313) (idx := 105) (cal := 101) (na := 3) (nl := 4) (as := [.int y6, .int y8, .int 2]) (rest := []) hLM350 (by decide +kernel) (by decide +kernel) (at_0) (by decide +kernel) rfl rfl rfl (Nat.le_of_ble_eq_true rfl) rfl hr361 ?_
                                      refine w_aload_n (n := 314) (i := 0) (by decide +kernel) rfl rfl ?_
                                      refine w_iload (n := 316) (i := 8) (by decide +kernel) rfl rfl ?_
                                      refine w_iload (n := 318) (i := 6) (by decide +kernel) rfl rfl ?_
                                      refine w_iconst (n := 319) (v := 3) (x := 3) (by decide +kernel) rfl (by decide) ?_
                                      rcases h with h | ⟨E358, M359, hr360, rfl⟩
                                      · obtain ⟨v355, M354, hLM354, hr357, h⟩ := h
                                        refine w_cV (n := 322) (idx := 105) (cal := 101) (na := 3) (nl := 4) (as := [.int y8, .int y6, .int 3]) (rest := [.int v353]) hLM352 (by decide +kernel) (by decide +kernel) (at_0) (by decide +kernel) rfl rfl rfl (Nat.le_of_ble_eq_true rfl) rfl hr357 ?_
                                        by_cases c356 : v353 = v355
                                        · rw [if_pos c356] at h
                                          refine w_icmp_eq_j (n := 327) (off := 5) (by decide +kernel) (by decide) c356 ?_
                                          exact h
                                        · rw [if_neg c356] at h
                                          refine w_icmp_eq_n (n := 325) (off := 5) (by decide +kernel) rfl c356 ?_
                                          exact h
                                      · exact w_tV (idx := 105) (cal := 101) (na := 3) (nl := 4) (as := [.int y8, .int y6, .int 3]) (rest := [.int v353]) hLM352 (by decide +kernel) (by decide +kernel) (at_0) (by decide +kernel) rfl rfl rfl (Nat.le_of_ble_eq_true rfl) (by decide +kernel) (by decide +kernel) hr360
                                    · exact w_tV (idx := 105) (cal := 101) (na := 3) (nl := 4) (as := [.int y6, .int y8, .int 2]) (rest := []) hLM350 (by decide +kernel) (by decide +kernel) (at_0) (by decide +kernel) rfl rfl rfl (Nat.le_of_ble_eq_true rfl) (by decide +kernel) (by decide +kernel) hr364
                                  · rw [if_neg c365] at h
                                    refine w_icmp_ne_j (n := 325) (off := 24) (by decide +kernel) (by decide) c365 ?_
                                    exact h
                                · exact w_tV (idx := 105) (cal := 101) (na := 3) (nl := 4) (as := [.int y8, .int y6, .int 0]) (rest := [.int v349]) hLM348 (by decide +kernel) (by decide +kernel) (at_0) (by decide +kernel) rfl rfl rfl (Nat.le_of_ble_eq_true rfl) (by decide +kernel) (by decide +kernel) hr369
                              · exact w_tV (idx := 105) (cal := 101) (na := 3) (nl := 4) (as := [.int y6, .int y8, .int 0]) (rest := []) hLM346 (by decide +kernel) (by decide +kernel) (at_0) (by decide +kernel) rfl rfl rfl (Nat.le_of_ble_eq_true rfl) (by decide +kernel) (by decide +kernel) hr373
                            · rw [if_neg c374] at h
                              refine w_icmp_ne_j (n := 325) (off := 45) (by decide +kernel) (by decide) c374 ?_
                              exact h
                          · rw [if_neg c402] at h
                            refine w_icmp_gt_n (n := 275) (off := 7) (by decide +kernel) rfl c402 ?_
                            refine w_iconst (n := 276) (v := 1) (x := 1) (by decide +kernel) rfl (by decide) ?_
                            refine w_goto (n := 280) (off := 4) (by decide +kernel) (by decide) ?_
                            by_cases c401 : y10 = 1
                            · rw [if_pos c401] at h
                              refine w_icmp_ne_n (n := 283) (off := 45) (by decide +kernel) rfl c401 ?_
                              refine w_aload_n (n := 284) (i := 0) (by decide +kernel) rfl rfl ?_
                              refine w_iload (n := 286) (i := 6) (by decide +kernel) rfl rfl ?_
                              refine w_iload (n := 288) (i := 8) (by decide +kernel) rfl rfl ?_
                              refine w_iconst (n := 289) (v := 0) (x := 0) (by decide +kernel) rfl (by decide) ?_
                              rcases h with h | ⟨E398, M399, hr400, rfl⟩
                              · obtain ⟨v376, M375, hLM375, hr397, h⟩ := h
                                refine w_cV (n := 292) (idx := 105) (cal := 101) (na := 3) (nl := 4) (as := [.int y6, .int y8, .int 0]) (rest := []) hLM346 (by decide +kernel) (by decide +kernel) (at_0) (by decide +kernel) rfl rfl rfl (Nat.le_of_ble_eq_true rfl) rfl hr397 ?_
                                refine w_aload_n (n := 293) (i := 0) (by decide +kernel) rfl rfl ?_
                                refine w_iload (n := 295) (i := 8) (by decide +kernel) rfl rfl ?_
                                refine w_iload (n := 297) (i := 6) (by decide +kernel) rfl rfl ?_
                                refine w_iconst (n := 298) (v := 0) (x := 0) (by decide +kernel) rfl (by decide) ?_
                                rcases h with h | ⟨E394, M395, hr396, rfl⟩
                                · obtain ⟨v378, M377, hLM377, hr393, h⟩ := h
                                  refine w_cV (n := 301) (idx := 105) (cal := 101) (na := 3) (nl := 4) (as := [.int y8, .int y6, .int 0]) (rest := [.int v376]) hLM375 (by decide +kernel) (by decide +kernel) (at_0) (by decide +kernel) rfl rfl rfl (Nat.le_of_ble_eq_true rfl) rfl hr393 ?_
                                  by_cases c392 : v376 = v378
                                  · rw [if_pos c392] at h
                                    refine w_icmp_ne_n (n := 304) (off := 24) (by decide +kernel) rfl c392 ?_
                                    refine w_aload_n (n := 305) (i := 0) (by decide +kernel) rfl rfl ?_
                                    refine w_iload (n := 307) (i := 6) (by decide +kernel) rfl rfl ?_
                                    refine w_iload (n := 309) (i := 8) (by decide +kernel) rfl rfl ?_
                                    refine w_iconst (n := 310) (v := 2) (x := 2) (by decide +kernel) rfl (by decide) ?_
                                    rcases h with h | ⟨E389, M390, hr391, rfl⟩
                                    · obtain ⟨v380, M379, hLM379, hr388, h⟩ := h
                                      refine w_cV (n := 313) (idx := 105) (cal := 101) (na := 3) (nl := 4) (as := [.int y6, .int y8, .int 2]) (rest := []) hLM377 (by decide +kernel) (by decide +kernel) (at_0) (by decide +kernel) rfl rfl rfl (Nat.le_of_ble_eq_true rfl) rfl hr388 ?_
                                      refine w_aload_n (n := 314) (i := 0) (by decide +kernel) rfl rfl ?_
                                      refine w_iload (n := 316) (i := 8) (by decide +kernel) rfl rfl ?_
                                      refine w_iload (n := 318) (i := 6) (by decide +kernel) rfl rfl ?_
                                      refine w_iconst (n := 319) (v := 3) (x := 3) (by decide +kernel) rfl (by decide) ?_
                                      rcases h with h | ⟨E385, M386, hr387, rfl⟩
                                      · obtain ⟨v382, M381, hLM381, hr384, h⟩ := h
                                        refine w_cV (n := 322) (idx := 105) (cal := 101) (na := 3) (nl := 4) (as := [.int y8, .int y6, .int 3]) (rest := [.int v380]) hLM379 (by decide +kernel) (by decide +kernel) (at_0) (by decide +kernel) rfl rfl rfl (Nat.le_of_ble_eq_true rfl) rfl hr384 ?_
                                        by_cases c383 : v380 = v382
                                        · rw [if_pos c383] at h
                                          refine w_icmp_eq_j (n := 327) (off := 5) (by decide +kernel) (by decide) c383 ?_
                                          exact h
                                        · rw [if_neg c383] at h
                                          refine w_icmp_eq_n (n := 325) (off := 5) (by decide +kernel) rfl c383 ?_
                                          exact h
                                      · exact w_tV (idx := 105) (cal := 101) (na := 3) (nl := 4) (as := [.int y8, .int y6, .int 3]) (rest := [.int v380]) hLM379 (by decide +kernel) (by decide +kernel) (at_0) (by decide +kernel) rfl rfl rfl (Nat.le_of_ble_eq_true rfl) (by decide +kernel) (by decide +kernel) hr387
                                    · exact w_tV (idx := 105) (cal := 101) (na := 3) (nl := 4) (as := [.int y6, .int y8, .int 2]) (rest := []) hLM377 (by decide +kernel) (by decide +kernel) (at_0) (by decide +kernel) rfl rfl rfl (Nat.le_of_ble_eq_true rfl) (by decide +kernel) (by decide +kernel) hr391
                                  · rw [if_neg c392] at h
                                    refine w_icmp_ne_j (n := 325) (off := 24) (by decide +kernel) (by decide) c392 ?_
                                    exact h
                                · exact w_tV (idx := 105) (cal := 101) (na := 3) (nl := 4) (as := [.int y8, .int y6, .int 0]) (rest := [.int v376]) hLM375 (by decide +kernel) (by decide +kernel) (at_0) (by decide +kernel) rfl rfl rfl (Nat.le_of_ble_eq_true rfl) (by decide +kernel) (by decide +kernel) hr396
                              · exact w_tV (idx := 105) (cal := 101) (na := 3) (nl := 4) (as := [.int y6, .int y8, .int 0]) (rest := []) hLM346 (by decide +kernel) (by decide +kernel) (at_0) (by decide +kernel) rfl rfl rfl (Nat.le_of_ble_eq_true rfl) (by decide +kernel) (by decide +kernel) hr400
                            · rw [if_neg c401] at h
                              refine w_icmp_ne_j (n := 325) (off := 45) (by decide +kernel) (by decide) c401 ?_
                              exact h
                        · exact w_tV (idx := 105) (cal := 101) (na := 3) (nl := 4) (as := [.int y6, .int y8, .int 4]) (rest := [.int y10]) hLM342 (by decide +kernel) (by decide +kernel) (at_0) (by decide +kernel) rfl rfl rfl (Nat.le_of_ble_eq_true rfl) (by decide +kernel) (by decide +kernel) hr407
                      · rw [if_neg c408] at h
                        refine w_icmp_ne_j (n := 325) (off := 72) (by decide +kernel) (by decide) c408 ?_
                        exact h
                    · exact w_tV (idx := 105) (cal := 101) (na := 3) (nl := 4) (as := [.int y6, .int y8, .int 3]) (rest := [.int v339, .int v337]) hLM338 (by decide +kernel) (by decide +kernel) (at_0) (by decide +kernel) rfl rfl rfl (Nat.le_of_ble_eq_true rfl) (by decide +kernel) (by decide +kernel) hr413
                  · exact w_tV (idx := 105) (cal := 101) (na := 3) (nl := 4) (as := [.int y6, .int y8, .int 2]) (rest := [.int v337]) hLM336 (by decide +kernel) (by decide +kernel) (at_0) (by decide +kernel) rfl rfl rfl (Nat.le_of_ble_eq_true rfl) (by decide +kernel) (by decide +kernel) hr417
                · exact w_tV (idx := 105) (cal := 101) (na := 3) (nl := 4) (as := [.int y6, .int y8, .int 4]) (rest := []) hLM334 (by decide +kernel) (by decide +kernel) (at_0) (by decide +kernel) rfl rfl rfl (Nat.le_of_ble_eq_true rfl) (by decide +kernel) (by decide +kernel) hr421
            · rw [if_neg c423] at h
              refine w_icmp_eq_n (n := 215) (off := 5) (by decide +kernel) rfl c423 ?_
              exact h
          · exact w_tV (idx := 109) (cal := 109) (na := 2) (nl := 3) (as := [.int y8, .int y6]) (rest := [.int v333]) hLM332 (by decide +kernel) (by decide +kernel) (at_0) (by decide +kernel) rfl rfl rfl (Nat.le_of_ble_eq_true rfl) (by decide +kernel) (by decide +kernel) hr427
        · exact w_tV (idx := 109) (cal := 109) (na := 2) (nl := 3) (as := [.int y6, .int y8]) (rest := []) hLM229 (by decide +kernel) (by decide +kernel) (at_0) (by decide +kernel) rfl rfl rfl (Nat.le_of_ble_eq_true rfl) (by decide +kernel) (by decide +kernel) hr431
      · rw [if_neg c432] at h
        refine w_icmp_ne_j (n := 215) (off := 22) (by decide +kernel) (by decide) c432 ?_
        exact h
  · exact w_tV (idx := 105) (cal := 101) (na := 3) (nl := 4) (as := [.int y6, .int y8, .int 4]) (rest := [.int y9]) hL (by decide +kernel) (by decide +kernel) (at_0) (by decide +kernel) rfl rfl rfl (Nat.le_of_ble_eq_true rfl) (by decide +kernel) (by decide +kernel) hr437
theorem t_362_215 {X : ak_X} {M : ak_M} {r : ak_O × ak_M} (hL : ab_lay M) (x1 : Int32) (o2 : Option Value) (o3 : Option Value) (o4 : Option Value) (o5 : Option Value) (o6 : Option Value) (o7 : Option Value) (o8 : Option Value) (o9 : Option Value) (o10 : Option Value) (h : r = (.inl (some (.int 0)), M)) : sg X 362 (215, [some (.ref 0), some (.int x1), o2, o3, o4, o5, o6, o7, o8, o9, o10], [], []) M r := by
  refine w_iconst (n := 216) (v := 0) (x := 0) (by decide +kernel) rfl (by decide) ?_
  subst h
  exact w_ireturn (by decide +kernel) (by decide +kernel)
theorem t_362_325 {X : ak_X} {M : ak_M} {r : ak_O × ak_M} (hL : ab_lay M) (x1 : Int32) (o2 : Option Value) (o3 : Option Value) (o4 : Option Value) (o5 : Option Value) (o6 : Option Value) (o7 : Option Value) (o8 : Option Value) (o9 : Option Value) (o10 : Option Value) (h : r = (.inl (some (.int 0)), M)) : sg X 362 (325, [some (.ref 0), some (.int x1), o2, o3, o4, o5, o6, o7, o8, o9, o10], [], []) M r := by
  refine w_iconst (n := 326) (v := 0) (x := 0) (by decide +kernel) rfl (by decide) ?_
  subst h
  exact w_ireturn (by decide +kernel) (by decide +kernel)
theorem t_362_327 {X : ak_X} {M : ak_M} {r : ak_O × ak_M} (hL : ab_lay M) (x1 : Int32) (y2 : Int32) (y3 : Int32) (y4 : Int32) (y5 : Int32) (y6 : Int32) (y7 : Int32) (y8 : Int32) (y9 : Int32) (y10 : Int32) (h : (if y9 = 0 then (if y10 = 0 then (if y10 = 0 then sg X 362 (56, [some (.ref 0), some (.int x1), some (.int y2), some (.int (y3 + 0)), some (.int (y4 + 0)), some (.int y5), some (.int y6), some (.int (y7 + 0)), some (.int (y8 + 1)), some (.int y9), some (.int y10)], [], []) M r else ((∃ (v439 : Int32) (M438 : ak_M), ab_lay M438 ∧ rn X 95 [.ref 0, .int y8, .int 8] M (.inl (some (.int v439)), M438) ∧ ((∃ (v441 : Int32) (M440 : ak_M), ab_lay M440 ∧ rn X 95 [.ref 0, .int y8, .int 7] M438 (.inl (some (.int v441)), M440) ∧ (∃ (v443 : Int32) (M442 : ak_M), ab_lay M442 ∧ rn X 314 [.int v441] M440 (.inl (some (.int v443)), M442) ∧ sg X 362 (56, [some (.ref 0), some (.int x1), some (.int y2), some (.int (y3 + 0)), some (.int (y4 + 0)), some (.int y5), some (.int y6), some (.int (y7 + (v439 * (1 + v443)))), some (.int (y8 + 1)), some (.int y9), some (.int y10)], [], []) M442 r)) ∨ ∃ (E446 : Nat) (M447 : ak_M), rn X 95 [.ref 0, .int y8, .int 7] M438 (.inr E446, M447) ∧ r = (.inr E446, M447))) ∨ ∃ (E450 : Nat) (M451 : ak_M), rn X 95 [.ref 0, .int y8, .int 8] M (.inr E450, M451) ∧ r = (.inr E450, M451))) else (if y8 ≤ y6 then (if y10 = 0 then sg X 362 (56, [some (.ref 0), some (.int x1), some (.int y2), some (.int (y3 + 0)), some (.int (y4 + 0)), some (.int y5), some (.int y6), some (.int (y7 + 0)), some (.int (y8 + 1)), some (.int y9), some (.int y10)], [], []) M r else ((∃ (v455 : Int32) (M454 : ak_M), ab_lay M454 ∧ rn X 95 [.ref 0, .int y8, .int 8] M (.inl (some (.int v455)), M454) ∧ ((∃ (v457 : Int32) (M456 : ak_M), ab_lay M456 ∧ rn X 95 [.ref 0, .int y8, .int 7] M454 (.inl (some (.int v457)), M456) ∧ (∃ (v459 : Int32) (M458 : ak_M), ab_lay M458 ∧ rn X 314 [.int v457] M456 (.inl (some (.int v459)), M458) ∧ sg X 362 (56, [some (.ref 0), some (.int x1), some (.int y2), some (.int (y3 + 0)), some (.int (y4 + 0)), some (.int y5), some (.int y6), some (.int (y7 + (v455 * (1 + v459)))), some (.int (y8 + 1)), some (.int y9), some (.int y10)], [], []) M458 r)) ∨ ∃ (E462 : Nat) (M463 : ak_M), rn X 95 [.ref 0, .int y8, .int 7] M454 (.inr E462, M463) ∧ r = (.inr E462, M463))) ∨ ∃ (E466 : Nat) (M467 : ak_M), rn X 95 [.ref 0, .int y8, .int 8] M (.inr E466, M467) ∧ r = (.inr E466, M467))) else (if y10 = 0 then sg X 362 (56, [some (.ref 0), some (.int x1), some (.int y2), some (.int (y3 + 0)), some (.int (y4 + 1)), some (.int y5), some (.int y6), some (.int (y7 + 0)), some (.int (y8 + 1)), some (.int y9), some (.int y10)], [], []) M r else ((∃ (v471 : Int32) (M470 : ak_M), ab_lay M470 ∧ rn X 95 [.ref 0, .int y8, .int 8] M (.inl (some (.int v471)), M470) ∧ ((∃ (v473 : Int32) (M472 : ak_M), ab_lay M472 ∧ rn X 95 [.ref 0, .int y8, .int 7] M470 (.inl (some (.int v473)), M472) ∧ (∃ (v475 : Int32) (M474 : ak_M), ab_lay M474 ∧ rn X 314 [.int v473] M472 (.inl (some (.int v475)), M474) ∧ sg X 362 (56, [some (.ref 0), some (.int x1), some (.int y2), some (.int (y3 + 0)), some (.int (y4 + 1)), some (.int y5), some (.int y6), some (.int (y7 + (v471 * (1 + v475)))), some (.int (y8 + 1)), some (.int y9), some (.int y10)], [], []) M474 r)) ∨ ∃ (E478 : Nat) (M479 : ak_M), rn X 95 [.ref 0, .int y8, .int 7] M470 (.inr E478, M479) ∧ r = (.inr E478, M479))) ∨ ∃ (E482 : Nat) (M483 : ak_M), rn X 95 [.ref 0, .int y8, .int 8] M (.inr E482, M483) ∧ r = (.inr E482, M483))))) else (if y8 ≤ y6 then (if y10 = 0 then (if y10 = 0 then sg X 362 (56, [some (.ref 0), some (.int x1), some (.int y2), some (.int (y3 + 0)), some (.int (y4 + 0)), some (.int y5), some (.int y6), some (.int (y7 + 0)), some (.int (y8 + 1)), some (.int y9), some (.int y10)], [], []) M r else ((∃ (v489 : Int32) (M488 : ak_M), ab_lay M488 ∧ rn X 95 [.ref 0, .int y8, .int 8] M (.inl (some (.int v489)), M488) ∧ ((∃ (v491 : Int32) (M490 : ak_M), ab_lay M490 ∧ rn X 95 [.ref 0, .int y8, .int 7] M488 (.inl (some (.int v491)), M490) ∧ (∃ (v493 : Int32) (M492 : ak_M), ab_lay M492 ∧ rn X 314 [.int v491] M490 (.inl (some (.int v493)), M492) ∧ sg X 362 (56, [some (.ref 0), some (.int x1), some (.int y2), some (.int (y3 + 0)), some (.int (y4 + 0)), some (.int y5), some (.int y6), some (.int (y7 + (v489 * (1 + v493)))), some (.int (y8 + 1)), some (.int y9), some (.int y10)], [], []) M492 r)) ∨ ∃ (E496 : Nat) (M497 : ak_M), rn X 95 [.ref 0, .int y8, .int 7] M488 (.inr E496, M497) ∧ r = (.inr E496, M497))) ∨ ∃ (E500 : Nat) (M501 : ak_M), rn X 95 [.ref 0, .int y8, .int 8] M (.inr E500, M501) ∧ r = (.inr E500, M501))) else (if y8 ≤ y6 then (if y10 = 0 then sg X 362 (56, [some (.ref 0), some (.int x1), some (.int y2), some (.int (y3 + 0)), some (.int (y4 + 0)), some (.int y5), some (.int y6), some (.int (y7 + 0)), some (.int (y8 + 1)), some (.int y9), some (.int y10)], [], []) M r else ((∃ (v505 : Int32) (M504 : ak_M), ab_lay M504 ∧ rn X 95 [.ref 0, .int y8, .int 8] M (.inl (some (.int v505)), M504) ∧ ((∃ (v507 : Int32) (M506 : ak_M), ab_lay M506 ∧ rn X 95 [.ref 0, .int y8, .int 7] M504 (.inl (some (.int v507)), M506) ∧ (∃ (v509 : Int32) (M508 : ak_M), ab_lay M508 ∧ rn X 314 [.int v507] M506 (.inl (some (.int v509)), M508) ∧ sg X 362 (56, [some (.ref 0), some (.int x1), some (.int y2), some (.int (y3 + 0)), some (.int (y4 + 0)), some (.int y5), some (.int y6), some (.int (y7 + (v505 * (1 + v509)))), some (.int (y8 + 1)), some (.int y9), some (.int y10)], [], []) M508 r)) ∨ ∃ (E512 : Nat) (M513 : ak_M), rn X 95 [.ref 0, .int y8, .int 7] M504 (.inr E512, M513) ∧ r = (.inr E512, M513))) ∨ ∃ (E516 : Nat) (M517 : ak_M), rn X 95 [.ref 0, .int y8, .int 8] M (.inr E516, M517) ∧ r = (.inr E516, M517))) else (if y10 = 0 then sg X 362 (56, [some (.ref 0), some (.int x1), some (.int y2), some (.int (y3 + 0)), some (.int (y4 + 1)), some (.int y5), some (.int y6), some (.int (y7 + 0)), some (.int (y8 + 1)), some (.int y9), some (.int y10)], [], []) M r else ((∃ (v521 : Int32) (M520 : ak_M), ab_lay M520 ∧ rn X 95 [.ref 0, .int y8, .int 8] M (.inl (some (.int v521)), M520) ∧ ((∃ (v523 : Int32) (M522 : ak_M), ab_lay M522 ∧ rn X 95 [.ref 0, .int y8, .int 7] M520 (.inl (some (.int v523)), M522) ∧ (∃ (v525 : Int32) (M524 : ak_M), ab_lay M524 ∧ rn X 314 [.int v523] M522 (.inl (some (.int v525)), M524) ∧ sg X 362 (56, [some (.ref 0), some (.int x1), some (.int y2), some (.int (y3 + 0)), some (.int (y4 + 1)), some (.int y5), some (.int y6), some (.int (y7 + (v521 * (1 + v525)))), some (.int (y8 + 1)), some (.int y9), some (.int y10)], [], []) M524 r)) ∨ ∃ (E528 : Nat) (M529 : ak_M), rn X 95 [.ref 0, .int y8, .int 7] M520 (.inr E528, M529) ∧ r = (.inr E528, M529))) ∨ ∃ (E532 : Nat) (M533 : ak_M), rn X 95 [.ref 0, .int y8, .int 8] M (.inr E532, M533) ∧ r = (.inr E532, M533))))) else (if y10 = 0 then (if y10 = 0 then sg X 362 (56, [some (.ref 0), some (.int x1), some (.int y2), some (.int (y3 + 1)), some (.int (y4 + 0)), some (.int y5), some (.int y6), some (.int (y7 + 0)), some (.int (y8 + 1)), some (.int y9), some (.int y10)], [], []) M r else ((∃ (v539 : Int32) (M538 : ak_M), ab_lay M538 ∧ rn X 95 [.ref 0, .int y8, .int 8] M (.inl (some (.int v539)), M538) ∧ ((∃ (v541 : Int32) (M540 : ak_M), ab_lay M540 ∧ rn X 95 [.ref 0, .int y8, .int 7] M538 (.inl (some (.int v541)), M540) ∧ (∃ (v543 : Int32) (M542 : ak_M), ab_lay M542 ∧ rn X 314 [.int v541] M540 (.inl (some (.int v543)), M542) ∧ sg X 362 (56, [some (.ref 0), some (.int x1), some (.int y2), some (.int (y3 + 1)), some (.int (y4 + 0)), some (.int y5), some (.int y6), some (.int (y7 + (v539 * (1 + v543)))), some (.int (y8 + 1)), some (.int y9), some (.int y10)], [], []) M542 r)) ∨ ∃ (E546 : Nat) (M547 : ak_M), rn X 95 [.ref 0, .int y8, .int 7] M538 (.inr E546, M547) ∧ r = (.inr E546, M547))) ∨ ∃ (E550 : Nat) (M551 : ak_M), rn X 95 [.ref 0, .int y8, .int 8] M (.inr E550, M551) ∧ r = (.inr E550, M551))) else (if y8 ≤ y6 then (if y10 = 0 then sg X 362 (56, [some (.ref 0), some (.int x1), some (.int y2), some (.int (y3 + 1)), some (.int (y4 + 0)), some (.int y5), some (.int y6), some (.int (y7 + 0)), some (.int (y8 + 1)), some (.int y9), some (.int y10)], [], []) M r else ((∃ (v555 : Int32) (M554 : ak_M), ab_lay M554 ∧ rn X 95 [.ref 0, .int y8, .int 8] M (.inl (some (.int v555)), M554) ∧ ((∃ (v557 : Int32) (M556 : ak_M), ab_lay M556 ∧ rn X 95 [.ref 0, .int y8, .int 7] M554 (.inl (some (.int v557)), M556) ∧ (∃ (v559 : Int32) (M558 : ak_M), ab_lay M558 ∧ rn X 314 [.int v557] M556 (.inl (some (.int v559)), M558) ∧ sg X 362 (56, [some (.ref 0), some (.int x1), some (.int y2), some (.int (y3 + 1)), some (.int (y4 + 0)), some (.int y5), some (.int y6), some (.int (y7 + (v555 * (1 + v559)))), some (.int (y8 + 1)), some (.int y9), some (.int y10)], [], []) M558 r)) ∨ ∃ (E562 : Nat) (M563 : ak_M), rn X 95 [.ref 0, .int y8, .int 7] M554 (.inr E562, M563) ∧ r = (.inr E562, M563))) ∨ ∃ (E566 : Nat) (M567 : ak_M), rn X 95 [.ref 0, .int y8, .int 8] M (.inr E566, M567) ∧ r = (.inr E566, M567))) else (if y10 = 0 then sg X 362 (56, [some (.ref 0), some (.int x1), some (.int y2), some (.int (y3 + 1)), some (.int (y4 + 1)), some (.int y5), some (.int y6), some (.int (y7 + 0)), some (.int (y8 + 1)), some (.int y9), some (.int y10)], [], []) M r else ((∃ (v571 : Int32) (M570 : ak_M), ab_lay M570 ∧ rn X 95 [.ref 0, .int y8, .int 8] M (.inl (some (.int v571)), M570) ∧ ((∃ (v573 : Int32) (M572 : ak_M), ab_lay M572 ∧ rn X 95 [.ref 0, .int y8, .int 7] M570 (.inl (some (.int v573)), M572) ∧ (∃ (v575 : Int32) (M574 : ak_M), ab_lay M574 ∧ rn X 314 [.int v573] M572 (.inl (some (.int v575)), M574) ∧ sg X 362 (56, [some (.ref 0), some (.int x1), some (.int y2), some (.int (y3 + 1)), some (.int (y4 + 1)), some (.int y5), some (.int y6), some (.int (y7 + (v571 * (1 + v575)))), some (.int (y8 + 1)), some (.int y9), some (.int y10)], [], []) M574 r)) ∨ ∃ (E578 : Nat) (M579 : ak_M), rn X 95 [.ref 0, .int y8, .int 7] M570 (.inr E578, M579) ∧ r = (.inr E578, M579))) ∨ ∃ (E582 : Nat) (M583 : ak_M), rn X 95 [.ref 0, .int y8, .int 8] M (.inr E582, M583) ∧ r = (.inr E582, M583)))))))) : sg X 362 (327, [some (.ref 0), some (.int x1), some (.int y2), some (.int y3), some (.int y4), some (.int y5), some (.int y6), some (.int y7), some (.int y8), some (.int y9), some (.int y10)], [], []) M r := by
  refine w_iload_n (n := 328) (i := 3) (by decide +kernel) rfl rfl ?_
  refine w_iload (n := 330) (i := 9) (by decide +kernel) rfl rfl ?_
  by_cases c589 : y9 = 0
  · rw [if_pos c589] at h
    refine w_if_eq_j (n := 344) (off := 14) (by decide +kernel) (by decide) c589 ?_
    refine w_iconst (n := 345) (v := 0) (x := 0) (by decide +kernel) rfl (by decide) ?_
    refine w_iadd (n := 346) (by decide +kernel) rfl ?_
    refine w_istore_n (n := 347) (i := 3) (l1' := [some (.ref 0), some (.int x1), some (.int y2), some (.int (y3 + 0)), some (.int y4), some (.int y5), some (.int y6), some (.int y7), some (.int y8), some (.int y9), some (.int y10)]) (l2' := []) (by decide +kernel) rfl (Nat.le_of_ble_eq_true rfl) rfl rfl ?_
    refine w_iload (n := 349) (i := 4) (by decide +kernel) rfl rfl ?_
    refine w_iload (n := 351) (i := 10) (by decide +kernel) rfl rfl ?_
    by_cases c487 : y10 = 0
    · rw [if_pos c487] at h
      refine w_if_eq_j (n := 365) (off := 14) (by decide +kernel) (by decide) c487 ?_
      refine w_iconst (n := 366) (v := 0) (x := 0) (by decide +kernel) rfl (by decide) ?_
      refine w_iadd (n := 367) (by decide +kernel) rfl ?_
      refine w_istore (n := 369) (i := 4) (l1' := [some (.ref 0), some (.int x1), some (.int y2), some (.int (y3 + 0)), some (.int (y4 + 0)), some (.int y5), some (.int y6), some (.int y7), some (.int y8), some (.int y9), some (.int y10)]) (l2' := []) (by decide +kernel) rfl (Nat.le_of_ble_eq_true rfl) rfl rfl ?_
      refine w_iload (n := 371) (i := 7) (by decide +kernel) rfl rfl ?_
      refine w_iload (n := 373) (i := 10) (by decide +kernel) rfl rfl ?_
      by_cases c453 : y10 = 0
      · rw [if_pos c453] at h
        refine w_if_eq_j (n := 401) (off := 28) (by decide +kernel) (by decide) c453 ?_
        refine w_iconst (n := 402) (v := 0) (x := 0) (by decide +kernel) rfl (by decide) ?_
        refine w_iadd (n := 403) (by decide +kernel) rfl ?_
        refine w_istore (n := 405) (i := 7) (l1' := [some (.ref 0), some (.int x1), some (.int y2), some (.int (y3 + 0)), some (.int (y4 + 0)), some (.int y5), some (.int y6), some (.int (y7 + 0)), some (.int y8), some (.int y9), some (.int y10)]) (l2' := []) (by decide +kernel) rfl (Nat.le_of_ble_eq_true rfl) rfl rfl ?_
        refine w_iinc (n := 408) (i := 8) (v := 1) (y := y8 + 1) (l1' := [some (.ref 0), some (.int x1), some (.int y2), some (.int (y3 + 0)), some (.int (y4 + 0)), some (.int y5), some (.int y6), some (.int (y7 + 0)), some (.int (y8 + 1)), some (.int y9), some (.int y10)]) (l2' := []) (by decide +kernel) rfl rfl rfl rfl rfl ?_
        refine w_goto (n := 56) (off := (-352)) (by decide +kernel) (by decide) ?_
        exact h
      · rw [if_neg c453] at h
        refine w_if_eq_n (n := 376) (off := 28) (by decide +kernel) rfl c453 ?_
        refine w_aload_n (n := 377) (i := 0) (by decide +kernel) rfl rfl ?_
        refine w_iload (n := 379) (i := 8) (by decide +kernel) rfl rfl ?_
        refine w_bipush (n := 381) (v := 8) (x := 8) (by decide +kernel) rfl (by decide) ?_
        rcases h with h | ⟨E450, M451, hr452, rfl⟩
        · obtain ⟨v439, M438, hLM438, hr449, h⟩ := h
          refine w_cV (n := 384) (idx := 101) (cal := 95) (na := 2) (nl := 3) (as := [.int y8, .int 8]) (rest := [.int y7]) hL (by decide +kernel) (by decide +kernel) (at_0) (by decide +kernel) rfl rfl rfl (Nat.le_of_ble_eq_true rfl) rfl hr449 ?_
          refine w_iconst (n := 385) (v := 1) (x := 1) (by decide +kernel) rfl (by decide) ?_
          refine w_aload_n (n := 386) (i := 0) (by decide +kernel) rfl rfl ?_
          refine w_iload (n := 388) (i := 8) (by decide +kernel) rfl rfl ?_
          refine w_bipush (n := 390) (v := 7) (x := 7) (by decide +kernel) rfl (by decide) ?_
          rcases h with h | ⟨E446, M447, hr448, rfl⟩
          · obtain ⟨v441, M440, hLM440, hr445, h⟩ := h
            refine w_cV (n := 393) (idx := 101) (cal := 95) (na := 2) (nl := 3) (as := [.int y8, .int 7]) (rest := [.int 1, .int v439, .int y7]) hLM438 (by decide +kernel) (by decide +kernel) (at_0) (by decide +kernel) rfl rfl rfl (Nat.le_of_ble_eq_true rfl) rfl hr445 ?_
            obtain ⟨v443, M442, hLM442, hr444, h⟩ := h
            refine w_cS (n := 396) (idx := 81) (cal := 314) (na := 1) (nl := 1) (as := [.int v441]) (rest := [.int 1, .int v439, .int y7]) (by decide +kernel) (by decide +kernel) rfl rfl rfl (Nat.le_of_ble_eq_true rfl) rfl hr444 ?_
            refine w_iadd (n := 397) (by decide +kernel) rfl ?_
            refine w_imul (n := 398) (by decide +kernel) rfl ?_
            refine w_goto (n := 402) (off := 4) (by decide +kernel) (by decide) ?_
            refine w_iadd (n := 403) (by decide +kernel) rfl ?_
            refine w_istore (n := 405) (i := 7) (l1' := [some (.ref 0), some (.int x1), some (.int y2), some (.int (y3 + 0)), some (.int (y4 + 0)), some (.int y5), some (.int y6), some (.int (y7 + (v439 * (1 + v443)))), some (.int y8), some (.int y9), some (.int y10)]) (l2' := []) (by decide +kernel) rfl (Nat.le_of_ble_eq_true rfl) rfl rfl ?_
            refine w_iinc (n := 408) (i := 8) (v := 1) (y := y8 + 1) (l1' := [some (.ref 0), some (.int x1), some (.int y2), some (.int (y3 + 0)), some (.int (y4 + 0)), some (.int y5), some (.int y6), some (.int (y7 + (v439 * (1 + v443)))), some (.int (y8 + 1)), some (.int y9), some (.int y10)]) (l2' := []) (by decide +kernel) rfl rfl rfl rfl rfl ?_
            refine w_goto (n := 56) (off := (-352)) (by decide +kernel) (by decide) ?_
            exact h
          · exact w_tV (idx := 101) (cal := 95) (na := 2) (nl := 3) (as := [.int y8, .int 7]) (rest := [.int 1, .int v439, .int y7]) hLM438 (by decide +kernel) (by decide +kernel) (at_0) (by decide +kernel) rfl rfl rfl (Nat.le_of_ble_eq_true rfl) (by decide +kernel) (by decide +kernel) hr448
        · exact w_tV (idx := 101) (cal := 95) (na := 2) (nl := 3) (as := [.int y8, .int 8]) (rest := [.int y7]) hL (by decide +kernel) (by decide +kernel) (at_0) (by decide +kernel) rfl rfl rfl (Nat.le_of_ble_eq_true rfl) (by decide +kernel) (by decide +kernel) hr452
    · rw [if_neg c487] at h
      refine w_if_eq_n (n := 354) (off := 14) (by decide +kernel) rfl c487 ?_
      refine w_iload (n := 356) (i := 6) (by decide +kernel) rfl rfl ?_
      refine w_iload (n := 358) (i := 8) (by decide +kernel) rfl rfl ?_
      by_cases c486 : y8 ≤ y6
      · rw [if_pos c486] at h
        refine w_icmp_ge_j (n := 365) (off := 7) (by decide +kernel) (by decide) c486 ?_
        refine w_iconst (n := 366) (v := 0) (x := 0) (by decide +kernel) rfl (by decide) ?_
        refine w_iadd (n := 367) (by decide +kernel) rfl ?_
        refine w_istore (n := 369) (i := 4) (l1' := [some (.ref 0), some (.int x1), some (.int y2), some (.int (y3 + 0)), some (.int (y4 + 0)), some (.int y5), some (.int y6), some (.int y7), some (.int y8), some (.int y9), some (.int y10)]) (l2' := []) (by decide +kernel) rfl (Nat.le_of_ble_eq_true rfl) rfl rfl ?_
        refine w_iload (n := 371) (i := 7) (by decide +kernel) rfl rfl ?_
        refine w_iload (n := 373) (i := 10) (by decide +kernel) rfl rfl ?_
        by_cases c469 : y10 = 0
        · rw [if_pos c469] at h
          refine w_if_eq_j (n := 401) (off := 28) (by decide +kernel) (by decide) c469 ?_
          refine w_iconst (n := 402) (v := 0) (x := 0) (by decide +kernel) rfl (by decide) ?_
          refine w_iadd (n := 403) (by decide +kernel) rfl ?_
          refine w_istore (n := 405) (i := 7) (l1' := [some (.ref 0), some (.int x1), some (.int y2), some (.int (y3 + 0)), some (.int (y4 + 0)), some (.int y5), some (.int y6), some (.int (y7 + 0)), some (.int y8), some (.int y9), some (.int y10)]) (l2' := []) (by decide +kernel) rfl (Nat.le_of_ble_eq_true rfl) rfl rfl ?_
          refine w_iinc (n := 408) (i := 8) (v := 1) (y := y8 + 1) (l1' := [some (.ref 0), some (.int x1), some (.int y2), some (.int (y3 + 0)), some (.int (y4 + 0)), some (.int y5), some (.int y6), some (.int (y7 + 0)), some (.int (y8 + 1)), some (.int y9), some (.int y10)]) (l2' := []) (by decide +kernel) rfl rfl rfl rfl rfl ?_
          refine w_goto (n := 56) (off := (-352)) (by decide +kernel) (by decide) ?_
          exact h
        · rw [if_neg c469] at h
          refine w_if_eq_n (n := 376) (off := 28) (by decide +kernel) rfl c469 ?_
          refine w_aload_n (n := 377) (i := 0) (by decide +kernel) rfl rfl ?_
          refine w_iload (n := 379) (i := 8) (by decide +kernel) rfl rfl ?_
          refine w_bipush (n := 381) (v := 8) (x := 8) (by decide +kernel) rfl (by decide) ?_
          rcases h with h | ⟨E466, M467, hr468, rfl⟩
          · obtain ⟨v455, M454, hLM454, hr465, h⟩ := h
            refine w_cV (n := 384) (idx := 101) (cal := 95) (na := 2) (nl := 3) (as := [.int y8, .int 8]) (rest := [.int y7]) hL (by decide +kernel) (by decide +kernel) (at_0) (by decide +kernel) rfl rfl rfl (Nat.le_of_ble_eq_true rfl) rfl hr465 ?_
            refine w_iconst (n := 385) (v := 1) (x := 1) (by decide +kernel) rfl (by decide) ?_
            refine w_aload_n (n := 386) (i := 0) (by decide +kernel) rfl rfl ?_
            refine w_iload (n := 388) (i := 8) (by decide +kernel) rfl rfl ?_
            refine w_bipush (n := 390) (v := 7) (x := 7) (by decide +kernel) rfl (by decide) ?_
            rcases h with h | ⟨E462, M463, hr464, rfl⟩
            · obtain ⟨v457, M456, hLM456, hr461, h⟩ := h
              refine w_cV (n := 393) (idx := 101) (cal := 95) (na := 2) (nl := 3) (as := [.int y8, .int 7]) (rest := [.int 1, .int v455, .int y7]) hLM454 (by decide +kernel) (by decide +kernel) (at_0) (by decide +kernel) rfl rfl rfl (Nat.le_of_ble_eq_true rfl) rfl hr461 ?_
              obtain ⟨v459, M458, hLM458, hr460, h⟩ := h
              refine w_cS (n := 396) (idx := 81) (cal := 314) (na := 1) (nl := 1) (as := [.int v457]) (rest := [.int 1, .int v455, .int y7]) (by decide +kernel) (by decide +kernel) rfl rfl rfl (Nat.le_of_ble_eq_true rfl) rfl hr460 ?_
              refine w_iadd (n := 397) (by decide +kernel) rfl ?_
              refine w_imul (n := 398) (by decide +kernel) rfl ?_
              refine w_goto (n := 402) (off := 4) (by decide +kernel) (by decide) ?_
              refine w_iadd (n := 403) (by decide +kernel) rfl ?_
              refine w_istore (n := 405) (i := 7) (l1' := [some (.ref 0), some (.int x1), some (.int y2), some (.int (y3 + 0)), some (.int (y4 + 0)), some (.int y5), some (.int y6), some (.int (y7 + (v455 * (1 + v459)))), some (.int y8), some (.int y9), some (.int y10)]) (l2' := []) (by decide +kernel) rfl (Nat.le_of_ble_eq_true rfl) rfl rfl ?_
              refine w_iinc (n := 408) (i := 8) (v := 1) (y := y8 + 1) (l1' := [some (.ref 0), some (.int x1), some (.int y2), some (.int (y3 + 0)), some (.int (y4 + 0)), some (.int y5), some (.int y6), some (.int (y7 + (v455 * (1 + v459)))), some (.int (y8 + 1)), some (.int y9), some (.int y10)]) (l2' := []) (by decide +kernel) rfl rfl rfl rfl rfl ?_
              refine w_goto (n := 56) (off := (-352)) (by decide +kernel) (by decide) ?_
              exact h
            · exact w_tV (idx := 101) (cal := 95) (na := 2) (nl := 3) (as := [.int y8, .int 7]) (rest := [.int 1, .int v455, .int y7]) hLM454 (by decide +kernel) (by decide +kernel) (at_0) (by decide +kernel) rfl rfl rfl (Nat.le_of_ble_eq_true rfl) (by decide +kernel) (by decide +kernel) hr464
          · exact w_tV (idx := 101) (cal := 95) (na := 2) (nl := 3) (as := [.int y8, .int 8]) (rest := [.int y7]) hL (by decide +kernel) (by decide +kernel) (at_0) (by decide +kernel) rfl rfl rfl (Nat.le_of_ble_eq_true rfl) (by decide +kernel) (by decide +kernel) hr468
      · rw [if_neg c486] at h
        refine w_icmp_ge_n (n := 361) (off := 7) (by decide +kernel) rfl c486 ?_
        refine w_iconst (n := 362) (v := 1) (x := 1) (by decide +kernel) rfl (by decide) ?_
        refine w_goto (n := 366) (off := 4) (by decide +kernel) (by decide) ?_
        refine w_iadd (n := 367) (by decide +kernel) rfl ?_
        refine w_istore (n := 369) (i := 4) (l1' := [some (.ref 0), some (.int x1), some (.int y2), some (.int (y3 + 0)), some (.int (y4 + 1)), some (.int y5), some (.int y6), some (.int y7), some (.int y8), some (.int y9), some (.int y10)]) (l2' := []) (by decide +kernel) rfl (Nat.le_of_ble_eq_true rfl) rfl rfl ?_
        refine w_iload (n := 371) (i := 7) (by decide +kernel) rfl rfl ?_
        refine w_iload (n := 373) (i := 10) (by decide +kernel) rfl rfl ?_
        by_cases c485 : y10 = 0
        · rw [if_pos c485] at h
          refine w_if_eq_j (n := 401) (off := 28) (by decide +kernel) (by decide) c485 ?_
          refine w_iconst (n := 402) (v := 0) (x := 0) (by decide +kernel) rfl (by decide) ?_
          refine w_iadd (n := 403) (by decide +kernel) rfl ?_
          refine w_istore (n := 405) (i := 7) (l1' := [some (.ref 0), some (.int x1), some (.int y2), some (.int (y3 + 0)), some (.int (y4 + 1)), some (.int y5), some (.int y6), some (.int (y7 + 0)), some (.int y8), some (.int y9), some (.int y10)]) (l2' := []) (by decide +kernel) rfl (Nat.le_of_ble_eq_true rfl) rfl rfl ?_
          refine w_iinc (n := 408) (i := 8) (v := 1) (y := y8 + 1) (l1' := [some (.ref 0), some (.int x1), some (.int y2), some (.int (y3 + 0)), some (.int (y4 + 1)), some (.int y5), some (.int y6), some (.int (y7 + 0)), some (.int (y8 + 1)), some (.int y9), some (.int y10)]) (l2' := []) (by decide +kernel) rfl rfl rfl rfl rfl ?_
          refine w_goto (n := 56) (off := (-352)) (by decide +kernel) (by decide) ?_
          exact h
        · rw [if_neg c485] at h
          refine w_if_eq_n (n := 376) (off := 28) (by decide +kernel) rfl c485 ?_
          refine w_aload_n (n := 377) (i := 0) (by decide +kernel) rfl rfl ?_
          refine w_iload (n := 379) (i := 8) (by decide +kernel) rfl rfl ?_
          refine w_bipush (n := 381) (v := 8) (x := 8) (by decide +kernel) rfl (by decide) ?_
          rcases h with h | ⟨E482, M483, hr484, rfl⟩
          · obtain ⟨v471, M470, hLM470, hr481, h⟩ := h
            refine w_cV (n := 384) (idx := 101) (cal := 95) (na := 2) (nl := 3) (as := [.int y8, .int 8]) (rest := [.int y7]) hL (by decide +kernel) (by decide +kernel) (at_0) (by decide +kernel) rfl rfl rfl (Nat.le_of_ble_eq_true rfl) rfl hr481 ?_
            refine w_iconst (n := 385) (v := 1) (x := 1) (by decide +kernel) rfl (by decide) ?_
            refine w_aload_n (n := 386) (i := 0) (by decide +kernel) rfl rfl ?_
            refine w_iload (n := 388) (i := 8) (by decide +kernel) rfl rfl ?_
            refine w_bipush (n := 390) (v := 7) (x := 7) (by decide +kernel) rfl (by decide) ?_
            rcases h with h | ⟨E478, M479, hr480, rfl⟩
            · obtain ⟨v473, M472, hLM472, hr477, h⟩ := h
              refine w_cV (n := 393) (idx := 101) (cal := 95) (na := 2) (nl := 3) (as := [.int y8, .int 7]) (rest := [.int 1, .int v471, .int y7]) hLM470 (by decide +kernel) (by decide +kernel) (at_0) (by decide +kernel) rfl rfl rfl (Nat.le_of_ble_eq_true rfl) rfl hr477 ?_
              obtain ⟨v475, M474, hLM474, hr476, h⟩ := h
              refine w_cS (n := 396) (idx := 81) (cal := 314) (na := 1) (nl := 1) (as := [.int v473]) (rest := [.int 1, .int v471, .int y7]) (by decide +kernel) (by decide +kernel) rfl rfl rfl (Nat.le_of_ble_eq_true rfl) rfl hr476 ?_
              refine w_iadd (n := 397) (by decide +kernel) rfl ?_
              refine w_imul (n := 398) (by decide +kernel) rfl ?_
              refine w_goto (n := 402) (off := 4) (by decide +kernel) (by decide) ?_
              refine w_iadd (n := 403) (by decide +kernel) rfl ?_
              refine w_istore (n := 405) (i := 7) (l1' := [some (.ref 0), some (.int x1), some (.int y2), some (.int (y3 + 0)), some (.int (y4 + 1)), some (.int y5), some (.int y6), some (.int (y7 + (v471 * (1 + v475)))), some (.int y8), some (.int y9), some (.int y10)]) (l2' := []) (by decide +kernel) rfl (Nat.le_of_ble_eq_true rfl) rfl rfl ?_
              refine w_iinc (n := 408) (i := 8) (v := 1) (y := y8 + 1) (l1' := [some (.ref 0), some (.int x1), some (.int y2), some (.int (y3 + 0)), some (.int (y4 + 1)), some (.int y5), some (.int y6), some (.int (y7 + (v471 * (1 + v475)))), some (.int (y8 + 1)), some (.int y9), some (.int y10)]) (l2' := []) (by decide +kernel) rfl rfl rfl rfl rfl ?_
              refine w_goto (n := 56) (off := (-352)) (by decide +kernel) (by decide) ?_
              exact h
            · exact w_tV (idx := 101) (cal := 95) (na := 2) (nl := 3) (as := [.int y8, .int 7]) (rest := [.int 1, .int v471, .int y7]) hLM470 (by decide +kernel) (by decide +kernel) (at_0) (by decide +kernel) rfl rfl rfl (Nat.le_of_ble_eq_true rfl) (by decide +kernel) (by decide +kernel) hr480
          · exact w_tV (idx := 101) (cal := 95) (na := 2) (nl := 3) (as := [.int y8, .int 8]) (rest := [.int y7]) hL (by decide +kernel) (by decide +kernel) (at_0) (by decide +kernel) rfl rfl rfl (Nat.le_of_ble_eq_true rfl) (by decide +kernel) (by decide +kernel) hr484
  · rw [if_neg c589] at h
    refine w_if_eq_n (n := 333) (off := 14) (by decide +kernel) rfl c589 ?_
    refine w_iload (n := 335) (i := 6) (by decide +kernel) rfl rfl ?_
    refine w_iload (n := 337) (i := 8) (by decide +kernel) rfl rfl ?_
    by_cases c588 : y8 ≤ y6
    · rw [if_pos c588] at h
      refine w_icmp_ge_j (n := 344) (off := 7) (by decide +kernel) (by decide) c588 ?_
      refine w_iconst (n := 345) (v := 0) (x := 0) (by decide +kernel) rfl (by decide) ?_
      refine w_iadd (n := 346) (by decide +kernel) rfl ?_
      refine w_istore_n (n := 347) (i := 3) (l1' := [some (.ref 0), some (.int x1), some (.int y2), some (.int (y3 + 0)), some (.int y4), some (.int y5), some (.int y6), some (.int y7), some (.int y8), some (.int y9), some (.int y10)]) (l2' := []) (by decide +kernel) rfl (Nat.le_of_ble_eq_true rfl) rfl rfl ?_
      refine w_iload (n := 349) (i := 4) (by decide +kernel) rfl rfl ?_
      refine w_iload (n := 351) (i := 10) (by decide +kernel) rfl rfl ?_
      by_cases c537 : y10 = 0
      · rw [if_pos c537] at h
        refine w_if_eq_j (n := 365) (off := 14) (by decide +kernel) (by decide) c537 ?_
        refine w_iconst (n := 366) (v := 0) (x := 0) (by decide +kernel) rfl (by decide) ?_
        refine w_iadd (n := 367) (by decide +kernel) rfl ?_
        refine w_istore (n := 369) (i := 4) (l1' := [some (.ref 0), some (.int x1), some (.int y2), some (.int (y3 + 0)), some (.int (y4 + 0)), some (.int y5), some (.int y6), some (.int y7), some (.int y8), some (.int y9), some (.int y10)]) (l2' := []) (by decide +kernel) rfl (Nat.le_of_ble_eq_true rfl) rfl rfl ?_
        refine w_iload (n := 371) (i := 7) (by decide +kernel) rfl rfl ?_
        refine w_iload (n := 373) (i := 10) (by decide +kernel) rfl rfl ?_
        by_cases c503 : y10 = 0
        · rw [if_pos c503] at h
          refine w_if_eq_j (n := 401) (off := 28) (by decide +kernel) (by decide) c503 ?_
          refine w_iconst (n := 402) (v := 0) (x := 0) (by decide +kernel) rfl (by decide) ?_
          refine w_iadd (n := 403) (by decide +kernel) rfl ?_
          refine w_istore (n := 405) (i := 7) (l1' := [some (.ref 0), some (.int x1), some (.int y2), some (.int (y3 + 0)), some (.int (y4 + 0)), some (.int y5), some (.int y6), some (.int (y7 + 0)), some (.int y8), some (.int y9), some (.int y10)]) (l2' := []) (by decide +kernel) rfl (Nat.le_of_ble_eq_true rfl) rfl rfl ?_
          refine w_iinc (n := 408) (i := 8) (v := 1) (y := y8 + 1) (l1' := [some (.ref 0), some (.int x1), some (.int y2), some (.int (y3 + 0)), some (.int (y4 + 0)), some (.int y5), some (.int y6), some (.int (y7 + 0)), some (.int (y8 + 1)), some (.int y9), some (.int y10)]) (l2' := []) (by decide +kernel) rfl rfl rfl rfl rfl ?_
          refine w_goto (n := 56) (off := (-352)) (by decide +kernel) (by decide) ?_
          exact h
        · rw [if_neg c503] at h
          refine w_if_eq_n (n := 376) (off := 28) (by decide +kernel) rfl c503 ?_
          refine w_aload_n (n := 377) (i := 0) (by decide +kernel) rfl rfl ?_
          refine w_iload (n := 379) (i := 8) (by decide +kernel) rfl rfl ?_
          refine w_bipush (n := 381) (v := 8) (x := 8) (by decide +kernel) rfl (by decide) ?_
          rcases h with h | ⟨E500, M501, hr502, rfl⟩
          · obtain ⟨v489, M488, hLM488, hr499, h⟩ := h
            refine w_cV (n := 384) (idx := 101) (cal := 95) (na := 2) (nl := 3) (as := [.int y8, .int 8]) (rest := [.int y7]) hL (by decide +kernel) (by decide +kernel) (at_0) (by decide +kernel) rfl rfl rfl (Nat.le_of_ble_eq_true rfl) rfl hr499 ?_
            refine w_iconst (n := 385) (v := 1) (x := 1) (by decide +kernel) rfl (by decide) ?_
            refine w_aload_n (n := 386) (i := 0) (by decide +kernel) rfl rfl ?_
            refine w_iload (n := 388) (i := 8) (by decide +kernel) rfl rfl ?_
            refine w_bipush (n := 390) (v := 7) (x := 7) (by decide +kernel) rfl (by decide) ?_
            rcases h with h | ⟨E496, M497, hr498, rfl⟩
            · obtain ⟨v491, M490, hLM490, hr495, h⟩ := h
              refine w_cV (n := 393) (idx := 101) (cal := 95) (na := 2) (nl := 3) (as := [.int y8, .int 7]) (rest := [.int 1, .int v489, .int y7]) hLM488 (by decide +kernel) (by decide +kernel) (at_0) (by decide +kernel) rfl rfl rfl (Nat.le_of_ble_eq_true rfl) rfl hr495 ?_
              obtain ⟨v493, M492, hLM492, hr494, h⟩ := h
              refine w_cS (n := 396) (idx := 81) (cal := 314) (na := 1) (nl := 1) (as := [.int v491]) (rest := [.int 1, .int v489, .int y7]) (by decide +kernel) (by decide +kernel) rfl rfl rfl (Nat.le_of_ble_eq_true rfl) rfl hr494 ?_
              refine w_iadd (n := 397) (by decide +kernel) rfl ?_
              refine w_imul (n := 398) (by decide +kernel) rfl ?_
              refine w_goto (n := 402) (off := 4) (by decide +kernel) (by decide) ?_
              refine w_iadd (n := 403) (by decide +kernel) rfl ?_
              refine w_istore (n := 405) (i := 7) (l1' := [some (.ref 0), some (.int x1), some (.int y2), some (.int (y3 + 0)), some (.int (y4 + 0)), some (.int y5), some (.int y6), some (.int (y7 + (v489 * (1 + v493)))), some (.int y8), some (.int y9), some (.int y10)]) (l2' := []) (by decide +kernel) rfl (Nat.le_of_ble_eq_true rfl) rfl rfl ?_
              refine w_iinc (n := 408) (i := 8) (v := 1) (y := y8 + 1) (l1' := [some (.ref 0), some (.int x1), some (.int y2), some (.int (y3 + 0)), some (.int (y4 + 0)), some (.int y5), some (.int y6), some (.int (y7 + (v489 * (1 + v493)))), some (.int (y8 + 1)), some (.int y9), some (.int y10)]) (l2' := []) (by decide +kernel) rfl rfl rfl rfl rfl ?_
              refine w_goto (n := 56) (off := (-352)) (by decide +kernel) (by decide) ?_
              exact h
            · exact w_tV (idx := 101) (cal := 95) (na := 2) (nl := 3) (as := [.int y8, .int 7]) (rest := [.int 1, .int v489, .int y7]) hLM488 (by decide +kernel) (by decide +kernel) (at_0) (by decide +kernel) rfl rfl rfl (Nat.le_of_ble_eq_true rfl) (by decide +kernel) (by decide +kernel) hr498
          · exact w_tV (idx := 101) (cal := 95) (na := 2) (nl := 3) (as := [.int y8, .int 8]) (rest := [.int y7]) hL (by decide +kernel) (by decide +kernel) (at_0) (by decide +kernel) rfl rfl rfl (Nat.le_of_ble_eq_true rfl) (by decide +kernel) (by decide +kernel) hr502
      · rw [if_neg c537] at h
        refine w_if_eq_n (n := 354) (off := 14) (by decide +kernel) rfl c537 ?_
        refine w_iload (n := 356) (i := 6) (by decide +kernel) rfl rfl ?_
        refine w_iload (n := 358) (i := 8) (by decide +kernel) rfl rfl ?_
        by_cases c536 : y8 ≤ y6
        · rw [if_pos c536] at h
          refine w_icmp_ge_j (n := 365) (off := 7) (by decide +kernel) (by decide) c536 ?_
          refine w_iconst (n := 366) (v := 0) (x := 0) (by decide +kernel) rfl (by decide) ?_
          refine w_iadd (n := 367) (by decide +kernel) rfl ?_
          refine w_istore (n := 369) (i := 4) (l1' := [some (.ref 0), some (.int x1), some (.int y2), some (.int (y3 + 0)), some (.int (y4 + 0)), some (.int y5), some (.int y6), some (.int y7), some (.int y8), some (.int y9), some (.int y10)]) (l2' := []) (by decide +kernel) rfl (Nat.le_of_ble_eq_true rfl) rfl rfl ?_
          refine w_iload (n := 371) (i := 7) (by decide +kernel) rfl rfl ?_
          refine w_iload (n := 373) (i := 10) (by decide +kernel) rfl rfl ?_
          by_cases c519 : y10 = 0
          · rw [if_pos c519] at h
            refine w_if_eq_j (n := 401) (off := 28) (by decide +kernel) (by decide) c519 ?_
            refine w_iconst (n := 402) (v := 0) (x := 0) (by decide +kernel) rfl (by decide) ?_
            refine w_iadd (n := 403) (by decide +kernel) rfl ?_
            refine w_istore (n := 405) (i := 7) (l1' := [some (.ref 0), some (.int x1), some (.int y2), some (.int (y3 + 0)), some (.int (y4 + 0)), some (.int y5), some (.int y6), some (.int (y7 + 0)), some (.int y8), some (.int y9), some (.int y10)]) (l2' := []) (by decide +kernel) rfl (Nat.le_of_ble_eq_true rfl) rfl rfl ?_
            refine w_iinc (n := 408) (i := 8) (v := 1) (y := y8 + 1) (l1' := [some (.ref 0), some (.int x1), some (.int y2), some (.int (y3 + 0)), some (.int (y4 + 0)), some (.int y5), some (.int y6), some (.int (y7 + 0)), some (.int (y8 + 1)), some (.int y9), some (.int y10)]) (l2' := []) (by decide +kernel) rfl rfl rfl rfl rfl ?_
            refine w_goto (n := 56) (off := (-352)) (by decide +kernel) (by decide) ?_
            exact h
          · rw [if_neg c519] at h
            refine w_if_eq_n (n := 376) (off := 28) (by decide +kernel) rfl c519 ?_
            refine w_aload_n (n := 377) (i := 0) (by decide +kernel) rfl rfl ?_
            refine w_iload (n := 379) (i := 8) (by decide +kernel) rfl rfl ?_
            refine w_bipush (n := 381) (v := 8) (x := 8) (by decide +kernel) rfl (by decide) ?_
            rcases h with h | ⟨E516, M517, hr518, rfl⟩
            · obtain ⟨v505, M504, hLM504, hr515, h⟩ := h
              refine w_cV (n := 384) (idx := 101) (cal := 95) (na := 2) (nl := 3) (as := [.int y8, .int 8]) (rest := [.int y7]) hL (by decide +kernel) (by decide +kernel) (at_0) (by decide +kernel) rfl rfl rfl (Nat.le_of_ble_eq_true rfl) rfl hr515 ?_
              refine w_iconst (n := 385) (v := 1) (x := 1) (by decide +kernel) rfl (by decide) ?_
              refine w_aload_n (n := 386) (i := 0) (by decide +kernel) rfl rfl ?_
              refine w_iload (n := 388) (i := 8) (by decide +kernel) rfl rfl ?_
              refine w_bipush (n := 390) (v := 7) (x := 7) (by decide +kernel) rfl (by decide) ?_
              rcases h with h | ⟨E512, M513, hr514, rfl⟩
              · obtain ⟨v507, M506, hLM506, hr511, h⟩ := h
                refine w_cV (n := 393) (idx := 101) (cal := 95) (na := 2) (nl := 3) (as := [.int y8, .int 7]) (rest := [.int 1, .int v505, .int y7]) hLM504 (by decide +kernel) (by decide +kernel) (at_0) (by decide +kernel) rfl rfl rfl (Nat.le_of_ble_eq_true rfl) rfl hr511 ?_
                obtain ⟨v509, M508, hLM508, hr510, h⟩ := h
                refine w_cS (n := 396) (idx := 81) (cal := 314) (na := 1) (nl := 1) (as := [.int v507]) (rest := [.int 1, .int v505, .int y7]) (by decide +kernel) (by decide +kernel) rfl rfl rfl (Nat.le_of_ble_eq_true rfl) rfl hr510 ?_
                refine w_iadd (n := 397) (by decide +kernel) rfl ?_
                refine w_imul (n := 398) (by decide +kernel) rfl ?_
                refine w_goto (n := 402) (off := 4) (by decide +kernel) (by decide) ?_
                refine w_iadd (n := 403) (by decide +kernel) rfl ?_
                refine w_istore (n := 405) (i := 7) (l1' := [some (.ref 0), some (.int x1), some (.int y2), some (.int (y3 + 0)), some (.int (y4 + 0)), some (.int y5), some (.int y6), some (.int (y7 + (v505 * (1 + v509)))), some (.int y8), some (.int y9), some (.int y10)]) (l2' := []) (by decide +kernel) rfl (Nat.le_of_ble_eq_true rfl) rfl rfl ?_
                refine w_iinc (n := 408) (i := 8) (v := 1) (y := y8 + 1) (l1' := [some (.ref 0), some (.int x1), some (.int y2), some (.int (y3 + 0)), some (.int (y4 + 0)), some (.int y5), some (.int y6), some (.int (y7 + (v505 * (1 + v509)))), some (.int (y8 + 1)), some (.int y9), some (.int y10)]) (l2' := []) (by decide +kernel) rfl rfl rfl rfl rfl ?_
                refine w_goto (n := 56) (off := (-352)) (by decide +kernel) (by decide) ?_
                exact h
              · exact w_tV (idx := 101) (cal := 95) (na := 2) (nl := 3) (as := [.int y8, .int 7]) (rest := [.int 1, .int v505, .int y7]) hLM504 (by decide +kernel) (by decide +kernel) (at_0) (by decide +kernel) rfl rfl rfl (Nat.le_of_ble_eq_true rfl) (by decide +kernel) (by decide +kernel) hr514
            · exact w_tV (idx := 101) (cal := 95) (na := 2) (nl := 3) (as := [.int y8, .int 8]) (rest := [.int y7]) hL (by decide +kernel) (by decide +kernel) (at_0) (by decide +kernel) rfl rfl rfl (Nat.le_of_ble_eq_true rfl) (by decide +kernel) (by decide +kernel) hr518
        · rw [if_neg c536] at h
          refine w_icmp_ge_n (n := 361) (off := 7) (by decide +kernel) rfl c536 ?_
          refine w_iconst (n := 362) (v := 1) (x := 1) (by decide +kernel) rfl (by decide) ?_
          refine w_goto (n := 366) (off := 4) (by decide +kernel) (by decide) ?_
          refine w_iadd (n := 367) (by decide +kernel) rfl ?_
          refine w_istore (n := 369) (i := 4) (l1' := [some (.ref 0), some (.int x1), some (.int y2), some (.int (y3 + 0)), some (.int (y4 + 1)), some (.int y5), some (.int y6), some (.int y7), some (.int y8), some (.int y9), some (.int y10)]) (l2' := []) (by decide +kernel) rfl (Nat.le_of_ble_eq_true rfl) rfl rfl ?_
          refine w_iload (n := 371) (i := 7) (by decide +kernel) rfl rfl ?_
          refine w_iload (n := 373) (i := 10) (by decide +kernel) rfl rfl ?_
          by_cases c535 : y10 = 0
          · rw [if_pos c535] at h
            refine w_if_eq_j (n := 401) (off := 28) (by decide +kernel) (by decide) c535 ?_
            refine w_iconst (n := 402) (v := 0) (x := 0) (by decide +kernel) rfl (by decide) ?_
            refine w_iadd (n := 403) (by decide +kernel) rfl ?_
            refine w_istore (n := 405) (i := 7) (l1' := [some (.ref 0), some (.int x1), some (.int y2), some (.int (y3 + 0)), some (.int (y4 + 1)), some (.int y5), some (.int y6), some (.int (y7 + 0)), some (.int y8), some (.int y9), some (.int y10)]) (l2' := []) (by decide +kernel) rfl (Nat.le_of_ble_eq_true rfl) rfl rfl ?_
            refine w_iinc (n := 408) (i := 8) (v := 1) (y := y8 + 1) (l1' := [some (.ref 0), some (.int x1), some (.int y2), some (.int (y3 + 0)), some (.int (y4 + 1)), some (.int y5), some (.int y6), some (.int (y7 + 0)), some (.int (y8 + 1)), some (.int y9), some (.int y10)]) (l2' := []) (by decide +kernel) rfl rfl rfl rfl rfl ?_
            refine w_goto (n := 56) (off := (-352)) (by decide +kernel) (by decide) ?_
            exact h
          · rw [if_neg c535] at h
            refine w_if_eq_n (n := 376) (off := 28) (by decide +kernel) rfl c535 ?_
            refine w_aload_n (n := 377) (i := 0) (by decide +kernel) rfl rfl ?_
            refine w_iload (n := 379) (i := 8) (by decide +kernel) rfl rfl ?_
            refine w_bipush (n := 381) (v := 8) (x := 8) (by decide +kernel) rfl (by decide) ?_
            rcases h with h | ⟨E532, M533, hr534, rfl⟩
            · obtain ⟨v521, M520, hLM520, hr531, h⟩ := h
              refine w_cV (n := 384) (idx := 101) (cal := 95) (na := 2) (nl := 3) (as := [.int y8, .int 8]) (rest := [.int y7]) hL (by decide +kernel) (by decide +kernel) (at_0) (by decide +kernel) rfl rfl rfl (Nat.le_of_ble_eq_true rfl) rfl hr531 ?_
              refine w_iconst (n := 385) (v := 1) (x := 1) (by decide +kernel) rfl (by decide) ?_
              refine w_aload_n (n := 386) (i := 0) (by decide +kernel) rfl rfl ?_
              refine w_iload (n := 388) (i := 8) (by decide +kernel) rfl rfl ?_
              refine w_bipush (n := 390) (v := 7) (x := 7) (by decide +kernel) rfl (by decide) ?_
              rcases h with h | ⟨E528, M529, hr530, rfl⟩
              · obtain ⟨v523, M522, hLM522, hr527, h⟩ := h
                refine w_cV (n := 393) (idx := 101) (cal := 95) (na := 2) (nl := 3) (as := [.int y8, .int 7]) (rest := [.int 1, .int v521, .int y7]) hLM520 (by decide +kernel) (by decide +kernel) (at_0) (by decide +kernel) rfl rfl rfl (Nat.le_of_ble_eq_true rfl) rfl hr527 ?_
                obtain ⟨v525, M524, hLM524, hr526, h⟩ := h
                refine w_cS (n := 396) (idx := 81) (cal := 314) (na := 1) (nl := 1) (as := [.int v523]) (rest := [.int 1, .int v521, .int y7]) (by decide +kernel) (by decide +kernel) rfl rfl rfl (Nat.le_of_ble_eq_true rfl) rfl hr526 ?_
                refine w_iadd (n := 397) (by decide +kernel) rfl ?_
                refine w_imul (n := 398) (by decide +kernel) rfl ?_
                refine w_goto (n := 402) (off := 4) (by decide +kernel) (by decide) ?_
                refine w_iadd (n := 403) (by decide +kernel) rfl ?_
                refine w_istore (n := 405) (i := 7) (l1' := [some (.ref 0), some (.int x1), some (.int y2), some (.int (y3 + 0)), some (.int (y4 + 1)), some (.int y5), some (.int y6), some (.int (y7 + (v521 * (1 + v525)))), some (.int y8), some (.int y9), some (.int y10)]) (l2' := []) (by decide +kernel) rfl (Nat.le_of_ble_eq_true rfl) rfl rfl ?_
                refine w_iinc (n := 408) (i := 8) (v := 1) (y := y8 + 1) (l1' := [some (.ref 0), some (.int x1), some (.int y2), some (.int (y3 + 0)), some (.int (y4 + 1)), some (.int y5), some (.int y6), some (.int (y7 + (v521 * (1 + v525)))), some (.int (y8 + 1)), some (.int y9), some (.int y10)]) (l2' := []) (by decide +kernel) rfl rfl rfl rfl rfl ?_
                refine w_goto (n := 56) (off := (-352)) (by decide +kernel) (by decide) ?_
                exact h
              · exact w_tV (idx := 101) (cal := 95) (na := 2) (nl := 3) (as := [.int y8, .int 7]) (rest := [.int 1, .int v521, .int y7]) hLM520 (by decide +kernel) (by decide +kernel) (at_0) (by decide +kernel) rfl rfl rfl (Nat.le_of_ble_eq_true rfl) (by decide +kernel) (by decide +kernel) hr530
            · exact w_tV (idx := 101) (cal := 95) (na := 2) (nl := 3) (as := [.int y8, .int 8]) (rest := [.int y7]) hL (by decide +kernel) (by decide +kernel) (at_0) (by decide +kernel) rfl rfl rfl (Nat.le_of_ble_eq_true rfl) (by decide +kernel) (by decide +kernel) hr534
    · rw [if_neg c588] at h
      refine w_icmp_ge_n (n := 340) (off := 7) (by decide +kernel) rfl c588 ?_
      refine w_iconst (n := 341) (v := 1) (x := 1) (by decide +kernel) rfl (by decide) ?_
      refine w_goto (n := 345) (off := 4) (by decide +kernel) (by decide) ?_
      refine w_iadd (n := 346) (by decide +kernel) rfl ?_
      refine w_istore_n (n := 347) (i := 3) (l1' := [some (.ref 0), some (.int x1), some (.int y2), some (.int (y3 + 1)), some (.int y4), some (.int y5), some (.int y6), some (.int y7), some (.int y8), some (.int y9), some (.int y10)]) (l2' := []) (by decide +kernel) rfl (Nat.le_of_ble_eq_true rfl) rfl rfl ?_
      refine w_iload (n := 349) (i := 4) (by decide +kernel) rfl rfl ?_
      refine w_iload (n := 351) (i := 10) (by decide +kernel) rfl rfl ?_
      by_cases c587 : y10 = 0
      · rw [if_pos c587] at h
        refine w_if_eq_j (n := 365) (off := 14) (by decide +kernel) (by decide) c587 ?_
        refine w_iconst (n := 366) (v := 0) (x := 0) (by decide +kernel) rfl (by decide) ?_
        refine w_iadd (n := 367) (by decide +kernel) rfl ?_
        refine w_istore (n := 369) (i := 4) (l1' := [some (.ref 0), some (.int x1), some (.int y2), some (.int (y3 + 1)), some (.int (y4 + 0)), some (.int y5), some (.int y6), some (.int y7), some (.int y8), some (.int y9), some (.int y10)]) (l2' := []) (by decide +kernel) rfl (Nat.le_of_ble_eq_true rfl) rfl rfl ?_
        refine w_iload (n := 371) (i := 7) (by decide +kernel) rfl rfl ?_
        refine w_iload (n := 373) (i := 10) (by decide +kernel) rfl rfl ?_
        by_cases c553 : y10 = 0
        · rw [if_pos c553] at h
          refine w_if_eq_j (n := 401) (off := 28) (by decide +kernel) (by decide) c553 ?_
          refine w_iconst (n := 402) (v := 0) (x := 0) (by decide +kernel) rfl (by decide) ?_
          refine w_iadd (n := 403) (by decide +kernel) rfl ?_
          refine w_istore (n := 405) (i := 7) (l1' := [some (.ref 0), some (.int x1), some (.int y2), some (.int (y3 + 1)), some (.int (y4 + 0)), some (.int y5), some (.int y6), some (.int (y7 + 0)), some (.int y8), some (.int y9), some (.int y10)]) (l2' := []) (by decide +kernel) rfl (Nat.le_of_ble_eq_true rfl) rfl rfl ?_
          refine w_iinc (n := 408) (i := 8) (v := 1) (y := y8 + 1) (l1' := [some (.ref 0), some (.int x1), some (.int y2), some (.int (y3 + 1)), some (.int (y4 + 0)), some (.int y5), some (.int y6), some (.int (y7 + 0)), some (.int (y8 + 1)), some (.int y9), some (.int y10)]) (l2' := []) (by decide +kernel) rfl rfl rfl rfl rfl ?_
          refine w_goto (n := 56) (off := (-352)) (by decide +kernel) (by decide) ?_
          exact h
        · rw [if_neg c553] at h
          refine w_if_eq_n (n := 376) (off := 28) (by decide +kernel) rfl c553 ?_
          refine w_aload_n (n := 377) (i := 0) (by decide +kernel) rfl rfl ?_
          refine w_iload (n := 379) (i := 8) (by decide +kernel) rfl rfl ?_
          refine w_bipush (n := 381) (v := 8) (x := 8) (by decide +kernel) rfl (by decide) ?_
          rcases h with h | ⟨E550, M551, hr552, rfl⟩
          · obtain ⟨v539, M538, hLM538, hr549, h⟩ := h
            refine w_cV (n := 384) (idx := 101) (cal := 95) (na := 2) (nl := 3) (as := [.int y8, .int 8]) (rest := [.int y7]) hL (by decide +kernel) (by decide +kernel) (at_0) (by decide +kernel) rfl rfl rfl (Nat.le_of_ble_eq_true rfl) rfl hr549 ?_
            refine w_iconst (n := 385) (v := 1) (x := 1) (by decide +kernel) rfl (by decide) ?_
            refine w_aload_n (n := 386) (i := 0) (by decide +kernel) rfl rfl ?_
            refine w_iload (n := 388) (i := 8) (by decide +kernel) rfl rfl ?_
            refine w_bipush (n := 390) (v := 7) (x := 7) (by decide +kernel) rfl (by decide) ?_
            rcases h with h | ⟨E546, M547, hr548, rfl⟩
            · obtain ⟨v541, M540, hLM540, hr545, h⟩ := h
              refine w_cV (n := 393) (idx := 101) (cal := 95) (na := 2) (nl := 3) (as := [.int y8, .int 7]) (rest := [.int 1, .int v539, .int y7]) hLM538 (by decide +kernel) (by decide +kernel) (at_0) (by decide +kernel) rfl rfl rfl (Nat.le_of_ble_eq_true rfl) rfl hr545 ?_
              obtain ⟨v543, M542, hLM542, hr544, h⟩ := h
              refine w_cS (n := 396) (idx := 81) (cal := 314) (na := 1) (nl := 1) (as := [.int v541]) (rest := [.int 1, .int v539, .int y7]) (by decide +kernel) (by decide +kernel) rfl rfl rfl (Nat.le_of_ble_eq_true rfl) rfl hr544 ?_
              refine w_iadd (n := 397) (by decide +kernel) rfl ?_
              refine w_imul (n := 398) (by decide +kernel) rfl ?_
              refine w_goto (n := 402) (off := 4) (by decide +kernel) (by decide) ?_
              refine w_iadd (n := 403) (by decide +kernel) rfl ?_
              refine w_istore (n := 405) (i := 7) (l1' := [some (.ref 0), some (.int x1), some (.int y2), some (.int (y3 + 1)), some (.int (y4 + 0)), some (.int y5), some (.int y6), some (.int (y7 + (v539 * (1 + v543)))), some (.int y8), some (.int y9), some (.int y10)]) (l2' := []) (by decide +kernel) rfl (Nat.le_of_ble_eq_true rfl) rfl rfl ?_
              refine w_iinc (n := 408) (i := 8) (v := 1) (y := y8 + 1) (l1' := [some (.ref 0), some (.int x1), some (.int y2), some (.int (y3 + 1)), some (.int (y4 + 0)), some (.int y5), some (.int y6), some (.int (y7 + (v539 * (1 + v543)))), some (.int (y8 + 1)), some (.int y9), some (.int y10)]) (l2' := []) (by decide +kernel) rfl rfl rfl rfl rfl ?_
              refine w_goto (n := 56) (off := (-352)) (by decide +kernel) (by decide) ?_
              exact h
            · exact w_tV (idx := 101) (cal := 95) (na := 2) (nl := 3) (as := [.int y8, .int 7]) (rest := [.int 1, .int v539, .int y7]) hLM538 (by decide +kernel) (by decide +kernel) (at_0) (by decide +kernel) rfl rfl rfl (Nat.le_of_ble_eq_true rfl) (by decide +kernel) (by decide +kernel) hr548
          · exact w_tV (idx := 101) (cal := 95) (na := 2) (nl := 3) (as := [.int y8, .int 8]) (rest := [.int y7]) hL (by decide +kernel) (by decide +kernel) (at_0) (by decide +kernel) rfl rfl rfl (Nat.le_of_ble_eq_true rfl) (by decide +kernel) (by decide +kernel) hr552
      · rw [if_neg c587] at h
        refine w_if_eq_n (n := 354) (off := 14) (by decide +kernel) rfl c587 ?_
        refine w_iload (n := 356) (i := 6) (by decide +kernel) rfl rfl ?_
        refine w_iload (n := 358) (i := 8) (by decide +kernel) rfl rfl ?_
        by_cases c586 : y8 ≤ y6
        · rw [if_pos c586] at h
          refine w_icmp_ge_j (n := 365) (off := 7) (by decide +kernel) (by decide) c586 ?_
          refine w_iconst (n := 366) (v := 0) (x := 0) (by decide +kernel) rfl (by decide) ?_
          refine w_iadd (n := 367) (by decide +kernel) rfl ?_
          refine w_istore (n := 369) (i := 4) (l1' := [some (.ref 0), some (.int x1), some (.int y2), some (.int (y3 + 1)), some (.int (y4 + 0)), some (.int y5), some (.int y6), some (.int y7), some (.int y8), some (.int y9), some (.int y10)]) (l2' := []) (by decide +kernel) rfl (Nat.le_of_ble_eq_true rfl) rfl rfl ?_
          refine w_iload (n := 371) (i := 7) (by decide +kernel) rfl rfl ?_
          refine w_iload (n := 373) (i := 10) (by decide +kernel) rfl rfl ?_
          by_cases c569 : y10 = 0
          · rw [if_pos c569] at h
            refine w_if_eq_j (n := 401) (off := 28) (by decide +kernel) (by decide) c569 ?_
            refine w_iconst (n := 402) (v := 0) (x := 0) (by decide +kernel) rfl (by decide) ?_
            refine w_iadd (n := 403) (by decide +kernel) rfl ?_
            refine w_istore (n := 405) (i := 7) (l1' := [some (.ref 0), some (.int x1), some (.int y2), some (.int (y3 + 1)), some (.int (y4 + 0)), some (.int y5), some (.int y6), some (.int (y7 + 0)), some (.int y8), some (.int y9), some (.int y10)]) (l2' := []) (by decide +kernel) rfl (Nat.le_of_ble_eq_true rfl) rfl rfl ?_
            refine w_iinc (n := 408) (i := 8) (v := 1) (y := y8 + 1) (l1' := [some (.ref 0), some (.int x1), some (.int y2), some (.int (y3 + 1)), some (.int (y4 + 0)), some (.int y5), some (.int y6), some (.int (y7 + 0)), some (.int (y8 + 1)), some (.int y9), some (.int y10)]) (l2' := []) (by decide +kernel) rfl rfl rfl rfl rfl ?_
            refine w_goto (n := 56) (off := (-352)) (by decide +kernel) (by decide) ?_
            exact h
          · rw [if_neg c569] at h
            refine w_if_eq_n (n := 376) (off := 28) (by decide +kernel) rfl c569 ?_
            refine w_aload_n (n := 377) (i := 0) (by decide +kernel) rfl rfl ?_
            refine w_iload (n := 379) (i := 8) (by decide +kernel) rfl rfl ?_
            refine w_bipush (n := 381) (v := 8) (x := 8) (by decide +kernel) rfl (by decide) ?_
            rcases h with h | ⟨E566, M567, hr568, rfl⟩
            · obtain ⟨v555, M554, hLM554, hr565, h⟩ := h
              refine w_cV (n := 384) (idx := 101) (cal := 95) (na := 2) (nl := 3) (as := [.int y8, .int 8]) (rest := [.int y7]) hL (by decide +kernel) (by decide +kernel) (at_0) (by decide +kernel) rfl rfl rfl (Nat.le_of_ble_eq_true rfl) rfl hr565 ?_
              refine w_iconst (n := 385) (v := 1) (x := 1) (by decide +kernel) rfl (by decide) ?_
              refine w_aload_n (n := 386) (i := 0) (by decide +kernel) rfl rfl ?_
              refine w_iload (n := 388) (i := 8) (by decide +kernel) rfl rfl ?_
              refine w_bipush (n := 390) (v := 7) (x := 7) (by decide +kernel) rfl (by decide) ?_
              rcases h with h | ⟨E562, M563, hr564, rfl⟩
              · obtain ⟨v557, M556, hLM556, hr561, h⟩ := h
                refine w_cV (n := 393) (idx := 101) (cal := 95) (na := 2) (nl := 3) (as := [.int y8, .int 7]) (rest := [.int 1, .int v555, .int y7]) hLM554 (by decide +kernel) (by decide +kernel) (at_0) (by decide +kernel) rfl rfl rfl (Nat.le_of_ble_eq_true rfl) rfl hr561 ?_
                obtain ⟨v559, M558, hLM558, hr560, h⟩ := h
                refine w_cS (n := 396) (idx := 81) (cal := 314) (na := 1) (nl := 1) (as := [.int v557]) (rest := [.int 1, .int v555, .int y7]) (by decide +kernel) (by decide +kernel) rfl rfl rfl (Nat.le_of_ble_eq_true rfl) rfl hr560 ?_
                refine w_iadd (n := 397) (by decide +kernel) rfl ?_
                refine w_imul (n := 398) (by decide +kernel) rfl ?_
                refine w_goto (n := 402) (off := 4) (by decide +kernel) (by decide) ?_
                refine w_iadd (n := 403) (by decide +kernel) rfl ?_
                refine w_istore (n := 405) (i := 7) (l1' := [some (.ref 0), some (.int x1), some (.int y2), some (.int (y3 + 1)), some (.int (y4 + 0)), some (.int y5), some (.int y6), some (.int (y7 + (v555 * (1 + v559)))), some (.int y8), some (.int y9), some (.int y10)]) (l2' := []) (by decide +kernel) rfl (Nat.le_of_ble_eq_true rfl) rfl rfl ?_
                refine w_iinc (n := 408) (i := 8) (v := 1) (y := y8 + 1) (l1' := [some (.ref 0), some (.int x1), some (.int y2), some (.int (y3 + 1)), some (.int (y4 + 0)), some (.int y5), some (.int y6), some (.int (y7 + (v555 * (1 + v559)))), some (.int (y8 + 1)), some (.int y9), some (.int y10)]) (l2' := []) (by decide +kernel) rfl rfl rfl rfl rfl ?_
                refine w_goto (n := 56) (off := (-352)) (by decide +kernel) (by decide) ?_
                exact h
              · exact w_tV (idx := 101) (cal := 95) (na := 2) (nl := 3) (as := [.int y8, .int 7]) (rest := [.int 1, .int v555, .int y7]) hLM554 (by decide +kernel) (by decide +kernel) (at_0) (by decide +kernel) rfl rfl rfl (Nat.le_of_ble_eq_true rfl) (by decide +kernel) (by decide +kernel) hr564
            · exact w_tV (idx := 101) (cal := 95) (na := 2) (nl := 3) (as := [.int y8, .int 8]) (rest := [.int y7]) hL (by decide +kernel) (by decide +kernel) (at_0) (by decide +kernel) rfl rfl rfl (Nat.le_of_ble_eq_true rfl) (by decide +kernel) (by decide +kernel) hr568
        · rw [if_neg c586] at h
          refine w_icmp_ge_n (n := 361) (off := 7) (by decide +kernel) rfl c586 ?_
          refine w_iconst (n := 362) (v := 1) (x := 1) (by decide +kernel) rfl (by decide) ?_
          refine w_goto (n := 366) (off := 4) (by decide +kernel) (by decide) ?_
          refine w_iadd (n := 367) (by decide +kernel) rfl ?_
          refine w_istore (n := 369) (i := 4) (l1' := [some (.ref 0), some (.int x1), some (.int y2), some (.int (y3 + 1)), some (.int (y4 + 1)), some (.int y5), some (.int y6), some (.int y7), some (.int y8), some (.int y9), some (.int y10)]) (l2' := []) (by decide +kernel) rfl (Nat.le_of_ble_eq_true rfl) rfl rfl ?_
          refine w_iload (n := 371) (i := 7) (by decide +kernel) rfl rfl ?_
          refine w_iload (n := 373) (i := 10) (by decide +kernel) rfl rfl ?_
          by_cases c585 : y10 = 0
          · rw [if_pos c585] at h
            refine w_if_eq_j (n := 401) (off := 28) (by decide +kernel) (by decide) c585 ?_
            refine w_iconst (n := 402) (v := 0) (x := 0) (by decide +kernel) rfl (by decide) ?_
            refine w_iadd (n := 403) (by decide +kernel) rfl ?_
            refine w_istore (n := 405) (i := 7) (l1' := [some (.ref 0), some (.int x1), some (.int y2), some (.int (y3 + 1)), some (.int (y4 + 1)), some (.int y5), some (.int y6), some (.int (y7 + 0)), some (.int y8), some (.int y9), some (.int y10)]) (l2' := []) (by decide +kernel) rfl (Nat.le_of_ble_eq_true rfl) rfl rfl ?_
            refine w_iinc (n := 408) (i := 8) (v := 1) (y := y8 + 1) (l1' := [some (.ref 0), some (.int x1), some (.int y2), some (.int (y3 + 1)), some (.int (y4 + 1)), some (.int y5), some (.int y6), some (.int (y7 + 0)), some (.int (y8 + 1)), some (.int y9), some (.int y10)]) (l2' := []) (by decide +kernel) rfl rfl rfl rfl rfl ?_
            refine w_goto (n := 56) (off := (-352)) (by decide +kernel) (by decide) ?_
            exact h
          · rw [if_neg c585] at h
            refine w_if_eq_n (n := 376) (off := 28) (by decide +kernel) rfl c585 ?_
            refine w_aload_n (n := 377) (i := 0) (by decide +kernel) rfl rfl ?_
            refine w_iload (n := 379) (i := 8) (by decide +kernel) rfl rfl ?_
            refine w_bipush (n := 381) (v := 8) (x := 8) (by decide +kernel) rfl (by decide) ?_
            rcases h with h | ⟨E582, M583, hr584, rfl⟩
            · obtain ⟨v571, M570, hLM570, hr581, h⟩ := h
              refine w_cV (n := 384) (idx := 101) (cal := 95) (na := 2) (nl := 3) (as := [.int y8, .int 8]) (rest := [.int y7]) hL (by decide +kernel) (by decide +kernel) (at_0) (by decide +kernel) rfl rfl rfl (Nat.le_of_ble_eq_true rfl) rfl hr581 ?_
              refine w_iconst (n := 385) (v := 1) (x := 1) (by decide +kernel) rfl (by decide) ?_
              refine w_aload_n (n := 386) (i := 0) (by decide +kernel) rfl rfl ?_
              refine w_iload (n := 388) (i := 8) (by decide +kernel) rfl rfl ?_
              refine w_bipush (n := 390) (v := 7) (x := 7) (by decide +kernel) rfl (by decide) ?_
              rcases h with h | ⟨E578, M579, hr580, rfl⟩
              · obtain ⟨v573, M572, hLM572, hr577, h⟩ := h
                refine w_cV (n := 393) (idx := 101) (cal := 95) (na := 2) (nl := 3) (as := [.int y8, .int 7]) (rest := [.int 1, .int v571, .int y7]) hLM570 (by decide +kernel) (by decide +kernel) (at_0) (by decide +kernel) rfl rfl rfl (Nat.le_of_ble_eq_true rfl) rfl hr577 ?_
                obtain ⟨v575, M574, hLM574, hr576, h⟩ := h
                refine w_cS (n := 396) (idx := 81) (cal := 314) (na := 1) (nl := 1) (as := [.int v573]) (rest := [.int 1, .int v571, .int y7]) (by decide +kernel) (by decide +kernel) rfl rfl rfl (Nat.le_of_ble_eq_true rfl) rfl hr576 ?_
                refine w_iadd (n := 397) (by decide +kernel) rfl ?_
                refine w_imul (n := 398) (by decide +kernel) rfl ?_
                refine w_goto (n := 402) (off := 4) (by decide +kernel) (by decide) ?_
                refine w_iadd (n := 403) (by decide +kernel) rfl ?_
                refine w_istore (n := 405) (i := 7) (l1' := [some (.ref 0), some (.int x1), some (.int y2), some (.int (y3 + 1)), some (.int (y4 + 1)), some (.int y5), some (.int y6), some (.int (y7 + (v571 * (1 + v575)))), some (.int y8), some (.int y9), some (.int y10)]) (l2' := []) (by decide +kernel) rfl (Nat.le_of_ble_eq_true rfl) rfl rfl ?_
                refine w_iinc (n := 408) (i := 8) (v := 1) (y := y8 + 1) (l1' := [some (.ref 0), some (.int x1), some (.int y2), some (.int (y3 + 1)), some (.int (y4 + 1)), some (.int y5), some (.int y6), some (.int (y7 + (v571 * (1 + v575)))), some (.int (y8 + 1)), some (.int y9), some (.int y10)]) (l2' := []) (by decide +kernel) rfl rfl rfl rfl rfl ?_
                refine w_goto (n := 56) (off := (-352)) (by decide +kernel) (by decide) ?_
                exact h
              · exact w_tV (idx := 101) (cal := 95) (na := 2) (nl := 3) (as := [.int y8, .int 7]) (rest := [.int 1, .int v571, .int y7]) hLM570 (by decide +kernel) (by decide +kernel) (at_0) (by decide +kernel) rfl rfl rfl (Nat.le_of_ble_eq_true rfl) (by decide +kernel) (by decide +kernel) hr580
            · exact w_tV (idx := 101) (cal := 95) (na := 2) (nl := 3) (as := [.int y8, .int 8]) (rest := [.int y7]) hL (by decide +kernel) (by decide +kernel) (at_0) (by decide +kernel) rfl rfl rfl (Nat.le_of_ble_eq_true rfl) (by decide +kernel) (by decide +kernel) hr584
theorem t_362_522 {X : ak_X} {M : ak_M} {r : ak_O × ak_M} (hL : ab_lay M) (x1 : Int32) (y2 : Int32) (y3 : Int32) (y4 : Int32) (y5 : Int32) (y6 : Int32) (o7 : Option Value) (o8 : Option Value) (o9 : Option Value) (o10 : Option Value) (h : ((∃ (v591 : Int32) (M590 : ak_M), ab_lay M590 ∧ rn X 95 [.ref 0, .int y6, .int 1] M (.inl (some (.int v591)), M590) ∧ ((∃ (v593 : Int32) (M592 : ak_M), ab_lay M592 ∧ rn X 95 [.ref 0, .int y6, .int 2] M590 (.inl (some (.int v593)), M592) ∧ ((∃ (v595 : Int32) (M594 : ak_M), ab_lay M594 ∧ rn X 115 [.ref 0, .int v591, .int v593, .int 199, .int 199] M592 (.inl (some (.int v595)), M594) ∧ (if (v595 >>> (y6 &&& 31)) &&& 1 = 0 then sg X 362 (554, [some (.ref 0), some (.int x1), some (.int y2), some (.int y3), some (.int y4), some (.int y5), some (.int y6), o7, o8, o9, o10], [], []) M594 r else (if x1 = 0 then sg X 362 (581, [some (.ref 0), some (.int x1), some (.int y2), some (.int y3), some (.int y4), some (.int y5), some (.int y6), o7, o8, o9, o10], [], []) M594 r else ((∃ (v597 : Int32) (M596 : ak_M), ab_lay M596 ∧ rn X 95 [.ref 0, .int y6, .int 0] M594 (.inl (some (.int v597)), M596) ∧ (if v597 = 0 then ((∃ (v599 : Int32) (M598 : ak_M), ab_lay M598 ∧ rn X 99 [.ref 0, .int y6] M596 (.inl (some (.int v599)), M598) ∧ (if 0 ≤ v599 then sg X 362 (581, [some (.ref 0), some (.int x1), some (.int y2), some (.int y3), some (.int y4), some (.int y5), some (.int y6), o7, o8, o9, o10], [], []) M598 r else r = (.inl (some (.int 0)), M598))) ∨ ∃ (E602 : Nat) (M603 : ak_M), rn X 99 [.ref 0, .int y6] M596 (.inr E602, M603) ∧ r = (.inr E602, M603)) else sg X 362 (581, [some (.ref 0), some (.int x1), some (.int y2), some (.int y3), some (.int y4), some (.int y5), some (.int y6), o7, o8, o9, o10], [], []) M596 r)) ∨ ∃ (E607 : Nat) (M608 : ak_M), rn X 95 [.ref 0, .int y6, .int 0] M594 (.inr E607, M608) ∧ r = (.inr E607, M608))))) ∨ ∃ (E613 : Nat) (M614 : ak_M), rn X 115 [.ref 0, .int v591, .int v593, .int 199, .int 199] M592 (.inr E613, M614) ∧ r = (.inr E613, M614))) ∨ ∃ (E617 : Nat) (M618 : ak_M), rn X 95 [.ref 0, .int y6, .int 2] M590 (.inr E617, M618) ∧ r = (.inr E617, M618))) ∨ ∃ (E621 : Nat) (M622 : ak_M), rn X 95 [.ref 0, .int y6, .int 1] M (.inr E621, M622) ∧ r = (.inr E621, M622))) : sg X 362 (522, [some (.ref 0), some (.int x1), some (.int y2), some (.int y3), some (.int y4), some (.int y5), some (.int y6), o7, o8, o9, o10], [], []) M r := by
  refine w_aload_n (n := 523) (i := 0) (by decide +kernel) rfl rfl ?_
  refine w_aload_n (n := 524) (i := 0) (by decide +kernel) rfl rfl ?_
  refine w_iload (n := 526) (i := 6) (by decide +kernel) rfl rfl ?_
  refine w_iconst (n := 527) (v := 1) (x := 1) (by decide +kernel) rfl (by decide) ?_
  rcases h with h | ⟨E621, M622, hr623, rfl⟩
  · obtain ⟨v591, M590, hLM590, hr620, h⟩ := h
    refine w_cV (n := 530) (idx := 101) (cal := 95) (na := 2) (nl := 3) (as := [.int y6, .int 1]) (rest := [.ref 0]) hL (by decide +kernel) (by decide +kernel) (at_0) (by decide +kernel) rfl rfl rfl (Nat.le_of_ble_eq_true rfl) rfl hr620 ?_
    refine w_aload_n (n := 531) (i := 0) (by decide +kernel) rfl rfl ?_
    refine w_iload (n := 533) (i := 6) (by decide +kernel) rfl rfl ?_
    refine w_iconst (n := 534) (v := 2) (x := 2) (by decide +kernel) rfl (by decide) ?_
    rcases h with h | ⟨E617, M618, hr619, rfl⟩
    · obtain ⟨v593, M592, hLM592, hr616, h⟩ := h
      refine w_cV (n := 537) (idx := 101) (cal := 95) (na := 2) (nl := 3) (as := [.int y6, .int 2]) (rest := [.int v591, .ref 0]) hLM590 (by decide +kernel) (by decide +kernel) (at_0) (by decide +kernel) rfl rfl rfl (Nat.le_of_ble_eq_true rfl) rfl hr616 ?_
      refine w_sipush (n := 540) (v := 199) (x := 199) (by decide +kernel) rfl (by decide) ?_
      refine w_sipush (n := 543) (v := 199) (x := 199) (by decide +kernel) rfl (by decide) ?_
      rcases h with h | ⟨E613, M614, hr615, rfl⟩
      · obtain ⟨v595, M594, hLM594, hr612, h⟩ := h
        refine w_cV (n := 546) (idx := 124) (cal := 115) (na := 4) (nl := 5) (as := [.int v591, .int v593, .int 199, .int 199]) (rest := []) hLM592 (by decide +kernel) (by decide +kernel) (at_0) (by decide +kernel) rfl rfl rfl (Nat.le_of_ble_eq_true rfl) rfl hr612 ?_
        refine w_iload (n := 548) (i := 6) (by decide +kernel) rfl rfl ?_
        refine w_ishr (n := 549) (by decide +kernel) rfl ?_
        refine w_iconst (n := 550) (v := 1) (x := 1) (by decide +kernel) rfl (by decide) ?_
        refine w_iand (n := 551) (by decide +kernel) rfl ?_
        by_cases c611 : (v595 >>> (y6 &&& 31)) &&& 1 = 0
        · rw [if_pos c611] at h
          refine w_if_ne_n (n := 554) (off := 5) (by decide +kernel) rfl c611 ?_
          exact h
        · rw [if_neg c611] at h
          refine w_if_ne_j (n := 556) (off := 5) (by decide +kernel) (by decide) c611 ?_
          refine w_iload_n (n := 557) (i := 1) (by decide +kernel) rfl rfl ?_
          by_cases c610 : x1 = 0
          · rw [if_pos c610] at h
            refine w_if_eq_j (n := 581) (off := 24) (by decide +kernel) (by decide) c610 ?_
            exact h
          · rw [if_neg c610] at h
            refine w_if_eq_n (n := 560) (off := 24) (by decide +kernel) rfl c610 ?_
            refine w_aload_n (n := 561) (i := 0) (by decide +kernel) rfl rfl ?_
            refine w_iload (n := 563) (i := 6) (by decide +kernel) rfl rfl ?_
            refine w_iconst (n := 564) (v := 0) (x := 0) (by decide +kernel) rfl (by decide) ?_
            rcases h with h | ⟨E607, M608, hr609, rfl⟩
            · obtain ⟨v597, M596, hLM596, hr606, h⟩ := h
              refine w_cV (n := 567) (idx := 101) (cal := 95) (na := 2) (nl := 3) (as := [.int y6, .int 0]) (rest := []) hLM594 (by decide +kernel) (by decide +kernel) (at_0) (by decide +kernel) rfl rfl rfl (Nat.le_of_ble_eq_true rfl) rfl hr606 ?_
              by_cases c605 : v597 = 0
              · rw [if_pos c605] at h
                refine w_if_ne_n (n := 570) (off := 14) (by decide +kernel) rfl c605 ?_
                refine w_aload_n (n := 571) (i := 0) (by decide +kernel) rfl rfl ?_
                refine w_iload (n := 573) (i := 6) (by decide +kernel) rfl rfl ?_
                rcases h with h | ⟨E602, M603, hr604, rfl⟩
                · obtain ⟨v599, M598, hLM598, hr601, h⟩ := h
                  refine w_cV (n := 576) (idx := 128) (cal := 99) (na := 1) (nl := 2) (as := [.int y6]) (rest := []) hLM596 (by decide +kernel) (by decide +kernel) (at_0) (by decide +kernel) rfl rfl rfl (Nat.le_of_ble_eq_true rfl) rfl hr601 ?_
                  by_cases c600 : 0 ≤ v599
                  · rw [if_pos c600] at h
                    refine w_if_ge_j (n := 581) (off := 5) (by decide +kernel) (by decide) c600 ?_
                    exact h
                  · rw [if_neg c600] at h
                    refine w_if_ge_n (n := 579) (off := 5) (by decide +kernel) rfl c600 ?_
                    refine w_iconst (n := 580) (v := 0) (x := 0) (by decide +kernel) rfl (by decide) ?_
                    subst h
                    exact w_ireturn (by decide +kernel) (by decide +kernel)
                · exact w_tV (idx := 128) (cal := 99) (na := 1) (nl := 2) (as := [.int y6]) (rest := []) hLM596 (by decide +kernel) (by decide +kernel) (at_0) (by decide +kernel) rfl rfl rfl (Nat.le_of_ble_eq_true rfl) (by decide +kernel) (by decide +kernel) hr604
              · rw [if_neg c605] at h
                refine w_if_ne_j (n := 581) (off := 14) (by decide +kernel) (by decide) c605 ?_
                exact h
            · exact w_tV (idx := 101) (cal := 95) (na := 2) (nl := 3) (as := [.int y6, .int 0]) (rest := []) hLM594 (by decide +kernel) (by decide +kernel) (at_0) (by decide +kernel) rfl rfl rfl (Nat.le_of_ble_eq_true rfl) (by decide +kernel) (by decide +kernel) hr609
      · exact w_tV (idx := 124) (cal := 115) (na := 4) (nl := 5) (as := [.int v591, .int v593, .int 199, .int 199]) (rest := []) hLM592 (by decide +kernel) (by decide +kernel) (at_0) (by decide +kernel) rfl rfl rfl (Nat.le_of_ble_eq_true rfl) (by decide +kernel) (by decide +kernel) hr615
    · exact w_tV (idx := 101) (cal := 95) (na := 2) (nl := 3) (as := [.int y6, .int 2]) (rest := [.int v591, .ref 0]) hLM590 (by decide +kernel) (by decide +kernel) (at_0) (by decide +kernel) rfl rfl rfl (Nat.le_of_ble_eq_true rfl) (by decide +kernel) (by decide +kernel) hr619
  · exact w_tV (idx := 101) (cal := 95) (na := 2) (nl := 3) (as := [.int y6, .int 1]) (rest := [.ref 0]) hL (by decide +kernel) (by decide +kernel) (at_0) (by decide +kernel) rfl rfl rfl (Nat.le_of_ble_eq_true rfl) (by decide +kernel) (by decide +kernel) hr623
theorem t_362_554 {X : ak_X} {M : ak_M} {r : ak_O × ak_M} (hL : ab_lay M) (x1 : Int32) (o2 : Option Value) (o3 : Option Value) (o4 : Option Value) (o5 : Option Value) (o6 : Option Value) (o7 : Option Value) (o8 : Option Value) (o9 : Option Value) (o10 : Option Value) (h : r = (.inl (some (.int 0)), M)) : sg X 362 (554, [some (.ref 0), some (.int x1), o2, o3, o4, o5, o6, o7, o8, o9, o10], [], []) M r := by
  refine w_iconst (n := 555) (v := 0) (x := 0) (by decide +kernel) rfl (by decide) ?_
  subst h
  exact w_ireturn (by decide +kernel) (by decide +kernel)
theorem t_362_581 {X : ak_X} {M : ak_M} {r : ak_O × ak_M} (hL : ab_lay M) (x1 : Int32) (y2 : Int32) (y3 : Int32) (y4 : Int32) (y5 : Int32) (y6 : Int32) (o7 : Option Value) (o8 : Option Value) (o9 : Option Value) (o10 : Option Value) (h : sg X 362 (44, [some (.ref 0), some (.int x1), some (.int y2), some (.int y3), some (.int y4), some (.int y5), some (.int (y6 + 1)), o7, o8, o9, o10], [], []) M r) : sg X 362 (581, [some (.ref 0), some (.int x1), some (.int y2), some (.int y3), some (.int y4), some (.int y5), some (.int y6), o7, o8, o9, o10], [], []) M r := by
  refine w_iinc (n := 584) (i := 6) (v := 1) (y := y6 + 1) (l1' := [some (.ref 0), some (.int x1), some (.int y2), some (.int y3), some (.int y4), some (.int y5), some (.int (y6 + 1)), o7, o8, o9, o10]) (l2' := []) (by decide +kernel) rfl rfl rfl rfl rfl ?_
  refine w_goto (n := 44) (off := (-540)) (by decide +kernel) (by decide) ?_
  exact h
theorem t_362_682 {X : ak_X} {M : ak_M} {r : ak_O × ak_M} (hL : ab_lay M) (x1 : Int32) (o2 : Option Value) (o3 : Option Value) (o4 : Option Value) (o5 : Option Value) (o6 : Option Value) (o7 : Option Value) (o8 : Option Value) (o9 : Option Value) (o10 : Option Value) (h : r = (.inl (some (.int 0)), M)) : sg X 362 (682, [some (.ref 0), some (.int x1), o2, o3, o4, o5, o6, o7, o8, o9, o10], [], []) M r := by
  refine w_iconst (n := 683) (v := 0) (x := 0) (by decide +kernel) rfl (by decide) ?_
  subst h
  exact w_ireturn (by decide +kernel) (by decide +kernel)
