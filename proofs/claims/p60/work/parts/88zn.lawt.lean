/-! the walk of the law, laid by wip/p60/lawt.py -/
theorem t_364_49 {X : ak_X} {M : ak_M} {r : ak_O × ak_M} (hL : ab_lay M) (y2 : Int32) (o3 : Option Value) (o4 : Option Value) (o5 : Option Value) (o6 : Option Value) (o7 : Option Value) (o8 : Option Value) (o9 : Option Value) (o10 : Option Value) (o11 : Option Value) (h : sg X 364 (51, [some (.ref 1000000), some (.ref 0), some (.int y2), some (.int 0), o4, o5, o6, o7, o8, o9, o10, o11], [], []) M r) : sg X 364 (49, [some (.ref 1000000), some (.ref 0), some (.int y2), o3, o4, o5, o6, o7, o8, o9, o10, o11], [], []) M r := by
  refine w_iconst (n := 50) (v := 0) (x := 0) (by decide +kernel) rfl (by decide) ?_
  refine w_istore_n (n := 51) (i := 3) (l1' := [some (.ref 1000000), some (.ref 0), some (.int y2), some (.int 0), o4, o5, o6, o7, o8, o9, o10, o11]) (l2' := []) (by decide +kernel) rfl (Nat.le_of_ble_eq_true rfl) rfl rfl ?_
  exact h
theorem t_364_51 {X : ak_X} {M : ak_M} {r : ak_O × ak_M} (hL : ab_lay M) (y2 : Int32) (y3 : Int32) (o4 : Option Value) (o5 : Option Value) (o6 : Option Value) (o7 : Option Value) (o8 : Option Value) (o9 : Option Value) (o10 : Option Value) (o11 : Option Value) (h : (if y2 ≤ y3 then (∃ (v2 : Int32) (M1 : ak_M), ab_lay M1 ∧ rn X 358 [.ref 1000000, .int 85, .int 2, .int 14] M (.inl (some (.int v2)), M1) ∧ sg X 364 (110, [some (.ref 1000000), some (.ref 0), some (.int y2), some (.int v2), some (.int 0), o5, o6, o7, o8, o9, o10, o11], [], []) M1 r) else (∃ (v5 : Int32) (M4 : ak_M), ab_lay M4 ∧ rn X 358 [.ref 1000000, .int (75 + y3), .int 0, .int 3] M (.inl (some (.int v5)), M4) ∧ (if v5 ≤ 0 then sg X 364 (91, [some (.ref 1000000), some (.ref 0), some (.int y2), some (.int y3), o4, o5, o6, o7, o8, o9, o10, o11], [], []) M4 r else ((∃ (v7 : Int32) (M6 : ak_M), ab_lay M6 ∧ rn X 129 [.ref 0, .int y3] M4 (.inl (some (.int v7)), M6) ∧ ((∃ (v9 : Int32) (M8 : ak_M), ab_lay M8 ∧ rn X 95 [.ref 0, .int y3, .int 6] M6 (.inl (some (.int v9)), M8) ∧ (∃ (v11 : Int32) (M10 : ak_M), ab_lay M10 ∧ rn X 316 [.int 20, .int v9] M8 (.inl (some (.int v11)), M10) ∧ (if v7 = v11 then sg X 364 (91, [some (.ref 1000000), some (.ref 0), some (.int y2), some (.int y3), o4, o5, o6, o7, o8, o9, o10, o11], [], []) M10 r else r = (.inl (some (.int 0)), M10)))) ∨ ∃ (E15 : Nat) (M16 : ak_M), rn X 95 [.ref 0, .int y3, .int 6] M6 (.inr E15, M16) ∧ r = (.inr E15, M16))) ∨ ∃ (E19 : Nat) (M20 : ak_M), rn X 129 [.ref 0, .int y3] M4 (.inr E19, M20) ∧ r = (.inr E19, M20)))))) : sg X 364 (51, [some (.ref 1000000), some (.ref 0), some (.int y2), some (.int y3), o4, o5, o6, o7, o8, o9, o10, o11], [], []) M r := by
  refine w_iload_n (n := 52) (i := 3) (by decide +kernel) rfl rfl ?_
  refine w_iload_n (n := 53) (i := 2) (by decide +kernel) rfl rfl ?_
  by_cases c24 : y2 ≤ y3
  · rw [if_pos c24] at h
    refine w_icmp_ge_j (n := 97) (off := 44) (by decide +kernel) (by decide) c24 ?_
    refine w_aload_n (n := 98) (i := 0) (by decide +kernel) rfl rfl ?_
    refine w_bipush (n := 100) (v := 85) (x := 85) (by decide +kernel) rfl (by decide) ?_
    refine w_iconst (n := 101) (v := 2) (x := 2) (by decide +kernel) rfl (by decide) ?_
    refine w_bipush (n := 103) (v := 14) (x := 14) (by decide +kernel) rfl (by decide) ?_
    obtain ⟨v2, M1, hLM1, hr3, h⟩ := h
    refine w_cS (n := 106) (idx := 49) (cal := 358) (na := 4) (nl := 4) (as := [.ref 1000000, .int 85, .int 2, .int 14]) (rest := []) (by decide +kernel) (by decide +kernel) rfl rfl rfl (Nat.le_of_ble_eq_true rfl) rfl hr3 ?_
    refine w_istore_n (n := 107) (i := 3) (l1' := [some (.ref 1000000), some (.ref 0), some (.int y2), some (.int v2), o4, o5, o6, o7, o8, o9, o10, o11]) (l2' := []) (by decide +kernel) rfl (Nat.le_of_ble_eq_true rfl) rfl rfl ?_
    refine w_iconst (n := 108) (v := 0) (x := 0) (by decide +kernel) rfl (by decide) ?_
    refine w_istore (n := 110) (i := 4) (l1' := [some (.ref 1000000), some (.ref 0), some (.int y2), some (.int v2), some (.int 0), o5, o6, o7, o8, o9, o10, o11]) (l2' := []) (by decide +kernel) rfl (Nat.le_of_ble_eq_true rfl) rfl rfl ?_
    exact h
  · rw [if_neg c24] at h
    refine w_icmp_ge_n (n := 56) (off := 44) (by decide +kernel) rfl c24 ?_
    refine w_aload_n (n := 57) (i := 0) (by decide +kernel) rfl rfl ?_
    refine w_bipush (n := 59) (v := 75) (x := 75) (by decide +kernel) rfl (by decide) ?_
    refine w_iload_n (n := 60) (i := 3) (by decide +kernel) rfl rfl ?_
    refine w_iadd (n := 61) (by decide +kernel) rfl ?_
    refine w_iconst (n := 62) (v := 0) (x := 0) (by decide +kernel) rfl (by decide) ?_
    refine w_iconst (n := 63) (v := 3) (x := 3) (by decide +kernel) rfl (by decide) ?_
    obtain ⟨v5, M4, hLM4, hr23, h⟩ := h
    refine w_cS (n := 66) (idx := 49) (cal := 358) (na := 4) (nl := 4) (as := [.ref 1000000, .int (75 + y3), .int 0, .int 3]) (rest := []) (by decide +kernel) (by decide +kernel) rfl rfl rfl (Nat.le_of_ble_eq_true rfl) rfl hr23 ?_
    by_cases c22 : v5 ≤ 0
    · rw [if_pos c22] at h
      refine w_if_le_j (n := 91) (off := 25) (by decide +kernel) (by decide) c22 ?_
      exact h
    · rw [if_neg c22] at h
      refine w_if_le_n (n := 69) (off := 25) (by decide +kernel) rfl c22 ?_
      refine w_aload_n (n := 70) (i := 1) (by decide +kernel) rfl rfl ?_
      refine w_iload_n (n := 71) (i := 3) (by decide +kernel) rfl rfl ?_
      rcases h with h | ⟨E19, M20, hr21, rfl⟩
      · obtain ⟨v7, M6, hLM6, hr18, h⟩ := h
        refine w_cV (n := 74) (idx := 137) (cal := 129) (na := 1) (nl := 2) (as := [.int y3]) (rest := []) hLM4 (by decide +kernel) (by decide +kernel) (at_0) (by decide +kernel) rfl rfl rfl (Nat.le_of_ble_eq_true rfl) rfl hr18 ?_
        refine w_bipush (n := 76) (v := 20) (x := 20) (by decide +kernel) rfl (by decide) ?_
        refine w_aload_n (n := 77) (i := 1) (by decide +kernel) rfl rfl ?_
        refine w_iload_n (n := 78) (i := 3) (by decide +kernel) rfl rfl ?_
        refine w_bipush (n := 80) (v := 6) (x := 6) (by decide +kernel) rfl (by decide) ?_
        rcases h with h | ⟨E15, M16, hr17, rfl⟩
        · obtain ⟨v9, M8, hLM8, hr14, h⟩ := h
          refine w_cV (n := 83) (idx := 101) (cal := 95) (na := 2) (nl := 3) (as := [.int y3, .int 6]) (rest := [.int 20, .int v7]) hLM6 (by decide +kernel) (by decide +kernel) (at_0) (by decide +kernel) rfl rfl rfl (Nat.le_of_ble_eq_true rfl) rfl hr14 ?_
          obtain ⟨v11, M10, hLM10, hr13, h⟩ := h
          refine w_cS (n := 86) (idx := 168) (cal := 316) (na := 2) (nl := 2) (as := [.int 20, .int v9]) (rest := [.int v7]) (by decide +kernel) (by decide +kernel) rfl rfl rfl (Nat.le_of_ble_eq_true rfl) rfl hr13 ?_
          by_cases c12 : v7 = v11
          · rw [if_pos c12] at h
            refine w_icmp_eq_j (n := 91) (off := 5) (by decide +kernel) (by decide) c12 ?_
            exact h
          · rw [if_neg c12] at h
            refine w_icmp_eq_n (n := 89) (off := 5) (by decide +kernel) rfl c12 ?_
            refine w_iconst (n := 90) (v := 0) (x := 0) (by decide +kernel) rfl (by decide) ?_
            subst h
            exact w_ireturn (by decide +kernel) (by decide +kernel)
        · exact w_tV (idx := 101) (cal := 95) (na := 2) (nl := 3) (as := [.int y3, .int 6]) (rest := [.int 20, .int v7]) hLM6 (by decide +kernel) (by decide +kernel) (at_0) (by decide +kernel) rfl rfl rfl (Nat.le_of_ble_eq_true rfl) (by decide +kernel) (by decide +kernel) hr17
      · exact w_tV (idx := 137) (cal := 129) (na := 1) (nl := 2) (as := [.int y3]) (rest := []) hLM4 (by decide +kernel) (by decide +kernel) (at_0) (by decide +kernel) rfl rfl rfl (Nat.le_of_ble_eq_true rfl) (by decide +kernel) (by decide +kernel) hr21
theorem t_364_91 {X : ak_X} {M : ak_M} {r : ak_O × ak_M} (hL : ab_lay M) (y2 : Int32) (y3 : Int32) (o4 : Option Value) (o5 : Option Value) (o6 : Option Value) (o7 : Option Value) (o8 : Option Value) (o9 : Option Value) (o10 : Option Value) (o11 : Option Value) (h : sg X 364 (51, [some (.ref 1000000), some (.ref 0), some (.int y2), some (.int (y3 + 1)), o4, o5, o6, o7, o8, o9, o10, o11], [], []) M r) : sg X 364 (91, [some (.ref 1000000), some (.ref 0), some (.int y2), some (.int y3), o4, o5, o6, o7, o8, o9, o10, o11], [], []) M r := by
  refine w_iinc (n := 94) (i := 3) (v := 1) (y := y3 + 1) (l1' := [some (.ref 1000000), some (.ref 0), some (.int y2), some (.int (y3 + 1)), o4, o5, o6, o7, o8, o9, o10, o11]) (l2' := []) (by decide +kernel) rfl rfl rfl rfl rfl ?_
  refine w_goto (n := 51) (off := (-43)) (by decide +kernel) (by decide) ?_
  exact h
theorem t_364_110 {X : ak_X} {M : ak_M} {r : ak_O × ak_M} (hL : ab_lay M) (y2 : Int32) (y3 : Int32) (y4 : Int32) (o5 : Option Value) (o6 : Option Value) (o7 : Option Value) (o8 : Option Value) (o9 : Option Value) (o10 : Option Value) (o11 : Option Value) (h : (if y3 ≤ y4 then (∃ (v26 : Int32) (M25 : ak_M), ab_lay M25 ∧ rn X 92 [.ref 0, .int 2] M (.inl (some (.int v26)), M25) ∧ (∃ (v28 : Int32) (M27 : ak_M), ab_lay M27 ∧ rn X 92 [.ref 0, .int 12] M25 (.inl (some (.int v28)), M27) ∧ ((∃ (v30 : Int32) (M29 : ak_M), ab_lay M29 ∧ rn X 113 [.ref 0, .int 11] M27 (.inl (some (.int v30)), M29) ∧ (∃ (v32 : Int32) (M31 : ak_M), ab_lay M31 ∧ rn X 142 [.ref 0] M29 (.inl (some (.int v32)), M31) ∧ ((∃ (v34 : Int32) (M33 : ak_M), ab_lay M33 ∧ rn X 119 [.ref 0, .int 0, .int 10, .int 20] M31 (.inl (some (.int v34)), M33) ∧ ((∃ (v36 : Int32) (M35 : ak_M), ab_lay M35 ∧ rn X 126 [.ref 0, .int 0, .int 10] M33 (.inl (some (.int v36)), M35) ∧ ((∃ (v38 : Int32) (M37 : ak_M), ab_lay M37 ∧ rn X 128 [.ref 0, .int 20] M35 (.inl (some (.int v38)), M37) ∧ (if v38 < 0 then sg X 364 (400, [some (.ref 1000000), some (.ref 0), some (.int y2), some (.int y3), some (.int v26), some (.int v28), some (.int v30), some (.int v32), some (.int v34), some (.int v36), o10, o11], [], []) M37 r else ((∃ (v40 : Int32) (M39 : ak_M), ab_lay M39 ∧ rn X 95 [.ref 0, .int 0, .int 10] M37 (.inl (some (.int v40)), M39) ∧ (if v40 = v34 then ((∃ (v42 : Int32) (M41 : ak_M), ab_lay M41 ∧ rn X 137 [.ref 0] M39 (.inl (some (.int v42)), M41) ∧ (if v42 < 0 then sg X 364 (400, [some (.ref 1000000), some (.ref 0), some (.int y2), some (.int y3), some (.int v26), some (.int v28), some (.int v30), some (.int v32), some (.int v34), some (.int v36), o10, o11], [], []) M41 r else (∃ (v44 : Int32) (M43 : ak_M), ab_lay M43 ∧ rn X 92 [.ref 0, .int 2] M41 (.inl (some (.int v44)), M43) ∧ (if v44 = v26 then ((∃ (v46 : Int32) (M45 : ak_M), ab_lay M45 ∧ rn X 113 [.ref 0, .int 11] M43 (.inl (some (.int v46)), M45) ∧ (if v46 = v30 then ((∃ (v48 : Int32) (M47 : ak_M), ab_lay M47 ∧ rn X 130 [.ref 0, .int 0, .int v36] M45 (.inl (some (.int v48)), M47) ∧ (if (-9) ≤ v48 then ((∃ (v50 : Int32) (M49 : ak_M), ab_lay M49 ∧ rn X 119 [.ref 0, .int 0, .int 3, .int 10] M47 (.inl (some (.int v50)), M49) ∧ sg X 364 (430, [some (.ref 1000000), some (.ref 0), some (.int y2), some (.int y3), some (.int v26), some (.int v28), some (.int v30), some (.int v32), some (.int v34), some (.int v36), some (.int v50), some (.int ((-9)))], [], []) M49 r) ∨ ∃ (E52 : Nat) (M53 : ak_M), rn X 119 [.ref 0, .int 0, .int 3, .int 10] M47 (.inr E52, M53) ∧ r = (.inr E52, M53)) else r = (.inl (some (.int 0)), M47))) ∨ ∃ (E57 : Nat) (M58 : ak_M), rn X 130 [.ref 0, .int 0, .int v36] M45 (.inr E57, M58) ∧ r = (.inr E57, M58)) else sg X 364 (400, [some (.ref 1000000), some (.ref 0), some (.int y2), some (.int y3), some (.int v26), some (.int v28), some (.int v30), some (.int v32), some (.int v34), some (.int v36), o10, o11], [], []) M45 r)) ∨ ∃ (E62 : Nat) (M63 : ak_M), rn X 113 [.ref 0, .int 11] M43 (.inr E62, M63) ∧ r = (.inr E62, M63)) else sg X 364 (400, [some (.ref 1000000), some (.ref 0), some (.int y2), some (.int y3), some (.int v26), some (.int v28), some (.int v30), some (.int v32), some (.int v34), some (.int v36), o10, o11], [], []) M43 r)))) ∨ ∃ (E69 : Nat) (M70 : ak_M), rn X 137 [.ref 0] M39 (.inr E69, M70) ∧ r = (.inr E69, M70)) else sg X 364 (400, [some (.ref 1000000), some (.ref 0), some (.int y2), some (.int y3), some (.int v26), some (.int v28), some (.int v30), some (.int v32), some (.int v34), some (.int v36), o10, o11], [], []) M39 r)) ∨ ∃ (E74 : Nat) (M75 : ak_M), rn X 95 [.ref 0, .int 0, .int 10] M37 (.inr E74, M75) ∧ r = (.inr E74, M75)))) ∨ ∃ (E79 : Nat) (M80 : ak_M), rn X 128 [.ref 0, .int 20] M35 (.inr E79, M80) ∧ r = (.inr E79, M80))) ∨ ∃ (E83 : Nat) (M84 : ak_M), rn X 126 [.ref 0, .int 0, .int 10] M33 (.inr E83, M84) ∧ r = (.inr E83, M84))) ∨ ∃ (E87 : Nat) (M88 : ak_M), rn X 119 [.ref 0, .int 0, .int 10, .int 20] M31 (.inr E87, M88) ∧ r = (.inr E87, M88)))) ∨ ∃ (E92 : Nat) (M93 : ak_M), rn X 113 [.ref 0, .int 11] M27 (.inr E92, M93) ∧ r = (.inr E92, M93)))) else ((∃ (M97 : ak_M), ab_lay M97 ∧ rn X 363 [.ref 0, .ref 1000000, .int (90 + (5 * y4)), .int y2] M (.inl (none), M97) ∧ ((∃ (v99 : Int32) (M98 : ak_M), ab_lay M98 ∧ rn X 362 [.ref 0, .int 0] M97 (.inl (some (.int v99)), M98) ∧ (if v99 = 0 then r = (.inl (some (.int 0)), M98) else (∃ (v101 : Int32) (M100 : ak_M), ab_lay M100 ∧ rn X 358 [.ref 1000000, .int (94 + (5 * y4)), .int 1, .int 6] M98 (.inl (some (.int v101)), M100) ∧ (∃ (v103 : Int32) (M102 : ak_M), ab_lay M102 ∧ rn X 358 [.ref 1000000, .int (92 + (5 * y4)), .int 0, .int (y2 - 1)] M100 (.inl (some (.int v103)), M102) ∧ ((∃ (v105 : Int32) (M104 : ak_M), ab_lay M104 ∧ rn X 119 [.ref 0, .int v103, .int 3, .int v101] M102 (.inl (some (.int v105)), M104) ∧ ((∃ (v107 : Int32) (M106 : ak_M), ab_lay M106 ∧ rn X 122 [.ref 0, .int v101] M104 (.inl (some (.int v107)), M106) ∧ ((∃ (v109 : Int32) (M108 : ak_M), ab_lay M108 ∧ rn X 123 [.ref 0, .int v103, .int v101] M106 (.inl (some (.int v109)), M108) ∧ (∃ (v111 : Int32) (M110 : ak_M), ab_lay M110 ∧ rn X 92 [.ref 0, .int 9] M108 (.inl (some (.int v111)), M110) ∧ ((∃ (v113 : Int32) (M112 : ak_M), ab_lay M112 ∧ rn X 128 [.ref 0, .int v101] M110 (.inl (some (.int v113)), M112) ∧ (if v113 = v107 then (∃ (v115 : Int32) (M114 : ak_M), ab_lay M114 ∧ rn X 92 [.ref 0, .int 9] M112 (.inl (some (.int v115)), M114) ∧ (if v115 = v111 + v107 then ((∃ (v117 : Int32) (M116 : ak_M), ab_lay M116 ∧ rn X 95 [.ref 0, .int v103, .int 3] M114 (.inl (some (.int v117)), M116) ∧ (if v117 = v105 then (if v109 = (-1) then ((∃ (v140 : Int32) (M139 : ak_M), ab_lay M139 ∧ rn X 95 [.ref 0, .int v103, .int 0] M116 (.inl (some (.int v140)), M139) ∧ (if v140 = 0 then ((∃ (v142 : Int32) (M141 : ak_M), ab_lay M141 ∧ rn X 362 [.ref 0, .int 1] M139 (.inl (some (.int v142)), M141) ∧ (if v142 = 0 then sg X 364 (294, [some (.ref 1000000), some (.ref 0), some (.int y2), some (.int y3), some (.int y4), some (.int v101), some (.int v103), some (.int v105), some (.int v107), some (.int v109), some (.int v111), o11], [], []) M141 r else sg X 364 (110, [some (.ref 1000000), some (.ref 0), some (.int y2), some (.int y3), some (.int (y4 + 1)), some (.int v101), some (.int v103), some (.int v105), some (.int v107), some (.int v109), some (.int v111), o11], [], []) M141 r)) ∨ ∃ (E145 : Nat) (M146 : ak_M), rn X 362 [.ref 0, .int 1] M139 (.inr E145, M146) ∧ r = (.inr E145, M146)) else ((∃ (v149 : Int32) (M148 : ak_M), ab_lay M148 ∧ rn X 95 [.ref 0, .int v103, .int 0] M139 (.inl (some (.int v149)), M148) ∧ (if v149 = 2 then ((∃ (v151 : Int32) (M150 : ak_M), ab_lay M150 ∧ rn X 362 [.ref 0, .int 1] M148 (.inl (some (.int v151)), M150) ∧ (if v151 = 0 then sg X 364 (294, [some (.ref 1000000), some (.ref 0), some (.int y2), some (.int y3), some (.int y4), some (.int v101), some (.int v103), some (.int v105), some (.int v107), some (.int v109), some (.int v111), o11], [], []) M150 r else sg X 364 (110, [some (.ref 1000000), some (.ref 0), some (.int y2), some (.int y3), some (.int (y4 + 1)), some (.int v101), some (.int v103), some (.int v105), some (.int v107), some (.int v109), some (.int v111), o11], [], []) M150 r)) ∨ ∃ (E154 : Nat) (M155 : ak_M), rn X 362 [.ref 0, .int 1] M148 (.inr E154, M155) ∧ r = (.inr E154, M155)) else sg X 364 (294, [some (.ref 1000000), some (.ref 0), some (.int y2), some (.int y3), some (.int y4), some (.int v101), some (.int v103), some (.int v105), some (.int v107), some (.int v109), some (.int v111), o11], [], []) M148 r)) ∨ ∃ (E159 : Nat) (M160 : ak_M), rn X 95 [.ref 0, .int v103, .int 0] M139 (.inr E159, M160) ∧ r = (.inr E159, M160)))) ∨ ∃ (E164 : Nat) (M165 : ak_M), rn X 95 [.ref 0, .int v103, .int 0] M116 (.inr E164, M165) ∧ r = (.inr E164, M165)) else ((∃ (v119 : Int32) (M118 : ak_M), ab_lay M118 ∧ rn X 95 [.ref 0, .int v103, .int 0] M116 (.inl (some (.int v119)), M118) ∧ (if v119 = 0 then sg X 364 (294, [some (.ref 1000000), some (.ref 0), some (.int y2), some (.int y3), some (.int y4), some (.int v101), some (.int v103), some (.int v105), some (.int v107), some (.int v109), some (.int v111), o11], [], []) M118 r else ((∃ (v121 : Int32) (M120 : ak_M), ab_lay M120 ∧ rn X 95 [.ref 0, .int v103, .int 0] M118 (.inl (some (.int v121)), M120) ∧ (if v121 = 2 then sg X 364 (294, [some (.ref 1000000), some (.ref 0), some (.int y2), some (.int y3), some (.int y4), some (.int v101), some (.int v103), some (.int v105), some (.int v107), some (.int v109), some (.int v111), o11], [], []) M120 r else ((∃ (v123 : Int32) (M122 : ak_M), ab_lay M122 ∧ rn X 362 [.ref 0, .int 1] M120 (.inl (some (.int v123)), M122) ∧ (if v123 = 0 then sg X 364 (294, [some (.ref 1000000), some (.ref 0), some (.int y2), some (.int y3), some (.int y4), some (.int v101), some (.int v103), some (.int v105), some (.int v107), some (.int v109), some (.int v111), o11], [], []) M122 r else sg X 364 (110, [some (.ref 1000000), some (.ref 0), some (.int y2), some (.int y3), some (.int (y4 + 1)), some (.int v101), some (.int v103), some (.int v105), some (.int v107), some (.int v109), some (.int v111), o11], [], []) M122 r)) ∨ ∃ (E126 : Nat) (M127 : ak_M), rn X 362 [.ref 0, .int 1] M120 (.inr E126, M127) ∧ r = (.inr E126, M127)))) ∨ ∃ (E131 : Nat) (M132 : ak_M), rn X 95 [.ref 0, .int v103, .int 0] M118 (.inr E131, M132) ∧ r = (.inr E131, M132)))) ∨ ∃ (E136 : Nat) (M137 : ak_M), rn X 95 [.ref 0, .int v103, .int 0] M116 (.inr E136, M137) ∧ r = (.inr E136, M137))) else sg X 364 (294, [some (.ref 1000000), some (.ref 0), some (.int y2), some (.int y3), some (.int y4), some (.int v101), some (.int v103), some (.int v105), some (.int v107), some (.int v109), some (.int v111), o11], [], []) M116 r)) ∨ ∃ (E170 : Nat) (M171 : ak_M), rn X 95 [.ref 0, .int v103, .int 3] M114 (.inr E170, M171) ∧ r = (.inr E170, M171)) else sg X 364 (294, [some (.ref 1000000), some (.ref 0), some (.int y2), some (.int y3), some (.int y4), some (.int v101), some (.int v103), some (.int v105), some (.int v107), some (.int v109), some (.int v111), o11], [], []) M114 r)) else sg X 364 (294, [some (.ref 1000000), some (.ref 0), some (.int y2), some (.int y3), some (.int y4), some (.int v101), some (.int v103), some (.int v105), some (.int v107), some (.int v109), some (.int v111), o11], [], []) M112 r)) ∨ ∃ (E177 : Nat) (M178 : ak_M), rn X 128 [.ref 0, .int v101] M110 (.inr E177, M178) ∧ r = (.inr E177, M178)))) ∨ ∃ (E182 : Nat) (M183 : ak_M), rn X 123 [.ref 0, .int v103, .int v101] M106 (.inr E182, M183) ∧ r = (.inr E182, M183))) ∨ ∃ (E186 : Nat) (M187 : ak_M), rn X 122 [.ref 0, .int v101] M104 (.inr E186, M187) ∧ r = (.inr E186, M187))) ∨ ∃ (E190 : Nat) (M191 : ak_M), rn X 119 [.ref 0, .int v103, .int 3, .int v101] M102 (.inr E190, M191) ∧ r = (.inr E190, M191)))))) ∨ ∃ (E197 : Nat) (M198 : ak_M), rn X 362 [.ref 0, .int 0] M97 (.inr E197, M198) ∧ r = (.inr E197, M198))) ∨ ∃ (E201 : Nat) (M202 : ak_M), rn X 363 [.ref 0, .ref 1000000, .int (90 + (5 * y4)), .int y2] M (.inr E201, M202) ∧ r = (.inr E201, M202)))) : sg X 364 (110, [some (.ref 1000000), some (.ref 0), some (.int y2), some (.int y3), some (.int y4), o5, o6, o7, o8, o9, o10, o11], [], []) M r := by
  refine w_iload (n := 112) (i := 4) (by decide +kernel) rfl rfl ?_
  refine w_iload_n (n := 113) (i := 3) (by decide +kernel) rfl rfl ?_
  by_cases c204 : y3 ≤ y4
  · rw [if_pos c204] at h
    refine w_icmp_ge_j (n := 302) (off := 189) (by decide +kernel) (by decide) c204 ?_
    refine w_aload_n (n := 303) (i := 1) (by decide +kernel) rfl rfl ?_
    refine w_iconst (n := 304) (v := 2) (x := 2) (by decide +kernel) rfl (by decide) ?_
    obtain ⟨v26, M25, hLM25, hr96, h⟩ := h
    refine w_cV (n := 307) (idx := 91) (cal := 92) (na := 1) (nl := 2) (as := [.int 2]) (rest := []) hL (by decide +kernel) (by decide +kernel) (at_0) (by decide +kernel) rfl rfl rfl (Nat.le_of_ble_eq_true rfl) rfl hr96 ?_
    refine w_istore (n := 309) (i := 4) (l1' := [some (.ref 1000000), some (.ref 0), some (.int y2), some (.int y3), some (.int v26), o5, o6, o7, o8, o9, o10, o11]) (l2' := []) (by decide +kernel) rfl (Nat.le_of_ble_eq_true rfl) rfl rfl ?_
    refine w_aload_n (n := 310) (i := 1) (by decide +kernel) rfl rfl ?_
    refine w_bipush (n := 312) (v := 12) (x := 12) (by decide +kernel) rfl (by decide) ?_
    obtain ⟨v28, M27, hLM27, hr95, h⟩ := h
    refine w_cV (n := 315) (idx := 91) (cal := 92) (na := 1) (nl := 2) (as := [.int 12]) (rest := []) hLM25 (by decide +kernel) (by decide +kernel) (at_0) (by decide +kernel) rfl rfl rfl (Nat.le_of_ble_eq_true rfl) rfl hr95 ?_
    refine w_istore (n := 317) (i := 5) (l1' := [some (.ref 1000000), some (.ref 0), some (.int y2), some (.int y3), some (.int v26), some (.int v28), o6, o7, o8, o9, o10, o11]) (l2' := []) (by decide +kernel) rfl (Nat.le_of_ble_eq_true rfl) rfl rfl ?_
    refine w_aload_n (n := 318) (i := 1) (by decide +kernel) rfl rfl ?_
    refine w_bipush (n := 320) (v := 11) (x := 11) (by decide +kernel) rfl (by decide) ?_
    rcases h with h | ⟨E92, M93, hr94, rfl⟩
    · obtain ⟨v30, M29, hLM29, hr91, h⟩ := h
      refine w_cV (n := 323) (idx := 131) (cal := 113) (na := 1) (nl := 2) (as := [.int 11]) (rest := []) hLM27 (by decide +kernel) (by decide +kernel) (at_0) (by decide +kernel) rfl rfl rfl (Nat.le_of_ble_eq_true rfl) rfl hr91 ?_
      refine w_istore (n := 325) (i := 6) (l1' := [some (.ref 1000000), some (.ref 0), some (.int y2), some (.int y3), some (.int v26), some (.int v28), some (.int v30), o7, o8, o9, o10, o11]) (l2' := []) (by decide +kernel) rfl (Nat.le_of_ble_eq_true rfl) rfl rfl ?_
      refine w_aload_n (n := 326) (i := 1) (by decide +kernel) rfl rfl ?_
      obtain ⟨v32, M31, hLM31, hr90, h⟩ := h
      refine w_cV (n := 329) (idx := 187) (cal := 142) (na := 0) (nl := 1) (as := []) (rest := []) hLM29 (by decide +kernel) (by decide +kernel) (at_0) (by decide +kernel) rfl rfl rfl (Nat.le_of_ble_eq_true rfl) rfl hr90 ?_
      refine w_istore (n := 331) (i := 7) (l1' := [some (.ref 1000000), some (.ref 0), some (.int y2), some (.int y3), some (.int v26), some (.int v28), some (.int v30), some (.int v32), o8, o9, o10, o11]) (l2' := []) (by decide +kernel) rfl (Nat.le_of_ble_eq_true rfl) rfl rfl ?_
      refine w_aload_n (n := 332) (i := 1) (by decide +kernel) rfl rfl ?_
      refine w_iconst (n := 333) (v := 0) (x := 0) (by decide +kernel) rfl (by decide) ?_
      refine w_bipush (n := 335) (v := 10) (x := 10) (by decide +kernel) rfl (by decide) ?_
      refine w_bipush (n := 337) (v := 20) (x := 20) (by decide +kernel) rfl (by decide) ?_
      rcases h with h | ⟨E87, M88, hr89, rfl⟩
      · obtain ⟨v34, M33, hLM33, hr86, h⟩ := h
        refine w_cV (n := 340) (idx := 175) (cal := 119) (na := 3) (nl := 4) (as := [.int 0, .int 10, .int 20]) (rest := []) hLM31 (by decide +kernel) (by decide +kernel) (at_0) (by decide +kernel) rfl rfl rfl (Nat.le_of_ble_eq_true rfl) rfl hr86 ?_
        refine w_istore (n := 342) (i := 8) (l1' := [some (.ref 1000000), some (.ref 0), some (.int y2), some (.int y3), some (.int v26), some (.int v28), some (.int v30), some (.int v32), some (.int v34), o9, o10, o11]) (l2' := []) (by decide +kernel) rfl (Nat.le_of_ble_eq_true rfl) rfl rfl ?_
        refine w_aload_n (n := 343) (i := 1) (by decide +kernel) rfl rfl ?_
        refine w_iconst (n := 344) (v := 0) (x := 0) (by decide +kernel) rfl (by decide) ?_
        refine w_bipush (n := 346) (v := 10) (x := 10) (by decide +kernel) rfl (by decide) ?_
        rcases h with h | ⟨E83, M84, hr85, rfl⟩
        · obtain ⟨v36, M35, hLM35, hr82, h⟩ := h
          refine w_cV (n := 349) (idx := 190) (cal := 126) (na := 2) (nl := 3) (as := [.int 0, .int 10]) (rest := []) hLM33 (by decide +kernel) (by decide +kernel) (at_0) (by decide +kernel) rfl rfl rfl (Nat.le_of_ble_eq_true rfl) rfl hr82 ?_
          refine w_istore (n := 351) (i := 9) (l1' := [some (.ref 1000000), some (.ref 0), some (.int y2), some (.int y3), some (.int v26), some (.int v28), some (.int v30), some (.int v32), some (.int v34), some (.int v36), o10, o11]) (l2' := []) (by decide +kernel) rfl (Nat.le_of_ble_eq_true rfl) rfl rfl ?_
          refine w_aload_n (n := 352) (i := 1) (by decide +kernel) rfl rfl ?_
          refine w_bipush (n := 354) (v := 20) (x := 20) (by decide +kernel) rfl (by decide) ?_
          rcases h with h | ⟨E79, M80, hr81, rfl⟩
          · obtain ⟨v38, M37, hLM37, hr78, h⟩ := h
            refine w_cV (n := 357) (idx := 184) (cal := 128) (na := 1) (nl := 2) (as := [.int 20]) (rest := []) hLM35 (by decide +kernel) (by decide +kernel) (at_0) (by decide +kernel) rfl rfl rfl (Nat.le_of_ble_eq_true rfl) rfl hr78 ?_
            by_cases c77 : v38 < 0
            · rw [if_pos c77] at h
              refine w_if_lt_j (n := 400) (off := 43) (by decide +kernel) (by decide) c77 ?_
              exact h
            · rw [if_neg c77] at h
              refine w_if_lt_n (n := 360) (off := 43) (by decide +kernel) rfl c77 ?_
              refine w_aload_n (n := 361) (i := 1) (by decide +kernel) rfl rfl ?_
              refine w_iconst (n := 362) (v := 0) (x := 0) (by decide +kernel) rfl (by decide) ?_
              refine w_bipush (n := 364) (v := 10) (x := 10) (by decide +kernel) rfl (by decide) ?_
              rcases h with h | ⟨E74, M75, hr76, rfl⟩
              · obtain ⟨v40, M39, hLM39, hr73, h⟩ := h
                refine w_cV (n := 367) (idx := 101) (cal := 95) (na := 2) (nl := 3) (as := [.int 0, .int 10]) (rest := []) hLM37 (by decide +kernel) (by decide +kernel) (at_0) (by decide +kernel) rfl rfl rfl (Nat.le_of_ble_eq_true rfl) rfl hr73 ?_
                refine w_iload (n := 369) (i := 8) (by decide +kernel) rfl rfl ?_
                by_cases c72 : v40 = v34
                · rw [if_pos c72] at h
                  refine w_icmp_ne_n (n := 372) (off := 31) (by decide +kernel) rfl c72 ?_
                  refine w_aload_n (n := 373) (i := 1) (by decide +kernel) rfl rfl ?_
                  rcases h with h | ⟨E69, M70, hr71, rfl⟩
                  · obtain ⟨v42, M41, hLM41, hr68, h⟩ := h
                    refine w_cV (n := 376) (idx := 193) (cal := 137) (na := 0) (nl := 1) (as := []) (rest := []) hLM39 (by decide +kernel) (by decide +kernel) (at_0) (by decide +kernel) rfl rfl rfl (Nat.le_of_ble_eq_true rfl) rfl hr68 ?_
                    by_cases c67 : v42 < 0
                    · rw [if_pos c67] at h
                      refine w_if_lt_j (n := 400) (off := 24) (by decide +kernel) (by decide) c67 ?_
                      exact h
                    · rw [if_neg c67] at h
                      refine w_if_lt_n (n := 379) (off := 24) (by decide +kernel) rfl c67 ?_
                      refine w_aload_n (n := 380) (i := 1) (by decide +kernel) rfl rfl ?_
                      refine w_iconst (n := 381) (v := 2) (x := 2) (by decide +kernel) rfl (by decide) ?_
                      obtain ⟨v44, M43, hLM43, hr66, h⟩ := h
                      refine w_cV (n := 384) (idx := 91) (cal := 92) (na := 1) (nl := 2) (as := [.int 2]) (rest := []) hLM41 (by decide +kernel) (by decide +kernel) (at_0) (by decide +kernel) rfl rfl rfl (Nat.le_of_ble_eq_true rfl) rfl hr66 ?_
                      refine w_iload (n := 386) (i := 4) (by decide +kernel) rfl rfl ?_
                      by_cases c65 : v44 = v26
                      · rw [if_pos c65] at h
                        refine w_icmp_ne_n (n := 389) (off := 14) (by decide +kernel) rfl c65 ?_
                        refine w_aload_n (n := 390) (i := 1) (by decide +kernel) rfl rfl ?_
                        refine w_bipush (n := 392) (v := 11) (x := 11) (by decide +kernel) rfl (by decide) ?_
                        rcases h with h | ⟨E62, M63, hr64, rfl⟩
                        · obtain ⟨v46, M45, hLM45, hr61, h⟩ := h
                          refine w_cV (n := 395) (idx := 131) (cal := 113) (na := 1) (nl := 2) (as := [.int 11]) (rest := []) hLM43 (by decide +kernel) (by decide +kernel) (at_0) (by decide +kernel) rfl rfl rfl (Nat.le_of_ble_eq_true rfl) rfl hr61 ?_
                          refine w_iload (n := 397) (i := 6) (by decide +kernel) rfl rfl ?_
                          by_cases c60 : v46 = v30
                          · rw [if_pos c60] at h
                            refine w_icmp_eq_j (n := 402) (off := 5) (by decide +kernel) (by decide) c60 ?_
                            refine w_aload_n (n := 403) (i := 1) (by decide +kernel) rfl rfl ?_
                            refine w_iconst (n := 404) (v := 0) (x := 0) (by decide +kernel) rfl (by decide) ?_
                            refine w_iload (n := 406) (i := 9) (by decide +kernel) rfl rfl ?_
                            rcases h with h | ⟨E57, M58, hr59, rfl⟩
                            · obtain ⟨v48, M47, hLM47, hr56, h⟩ := h
                              refine w_cV (n := 409) (idx := 143) (cal := 130) (na := 2) (nl := 3) (as := [.int 0, .int v36]) (rest := []) hLM45 (by decide +kernel) (by decide +kernel) (at_0) (by decide +kernel) rfl rfl rfl (Nat.le_of_ble_eq_true rfl) rfl hr56 ?_
                              refine w_bipush (n := 411) (v := -9) (x := (-9)) (by decide +kernel) rfl (by decide) ?_
                              by_cases c55 : (-9) ≤ v48
                              · rw [if_pos c55] at h
                                refine w_icmp_ge_j (n := 416) (off := 5) (by decide +kernel) (by decide) c55 ?_
                                refine w_aload_n (n := 417) (i := 1) (by decide +kernel) rfl rfl ?_
                                refine w_iconst (n := 418) (v := 0) (x := 0) (by decide +kernel) rfl (by decide) ?_
                                refine w_iconst (n := 419) (v := 3) (x := 3) (by decide +kernel) rfl (by decide) ?_
                                refine w_bipush (n := 421) (v := 10) (x := 10) (by decide +kernel) rfl (by decide) ?_
                                rcases h with h | ⟨E52, M53, hr54, rfl⟩
                                · obtain ⟨v50, M49, hLM49, hr51, h⟩ := h
                                  refine w_cV (n := 424) (idx := 175) (cal := 119) (na := 3) (nl := 4) (as := [.int 0, .int 3, .int 10]) (rest := []) hLM47 (by decide +kernel) (by decide +kernel) (at_0) (by decide +kernel) rfl rfl rfl (Nat.le_of_ble_eq_true rfl) rfl hr51 ?_
                                  refine w_istore (n := 426) (i := 10) (l1' := [some (.ref 1000000), some (.ref 0), some (.int y2), some (.int y3), some (.int v26), some (.int v28), some (.int v30), some (.int v32), some (.int v34), some (.int v36), some (.int v50), o11]) (l2' := []) (by decide +kernel) rfl (Nat.le_of_ble_eq_true rfl) rfl rfl ?_
                                  refine w_bipush (n := 428) (v := -9) (x := (-9)) (by decide +kernel) rfl (by decide) ?_
                                  refine w_istore (n := 430) (i := 11) (l1' := [some (.ref 1000000), some (.ref 0), some (.int y2), some (.int y3), some (.int v26), some (.int v28), some (.int v30), some (.int v32), some (.int v34), some (.int v36), some (.int v50), some (.int ((-9)))]) (l2' := []) (by decide +kernel) rfl (Nat.le_of_ble_eq_true rfl) rfl rfl ?_
                                  exact h
                                · exact w_tV (idx := 175) (cal := 119) (na := 3) (nl := 4) (as := [.int 0, .int 3, .int 10]) (rest := []) hLM47 (by decide +kernel) (by decide +kernel) (at_0) (by decide +kernel) rfl rfl rfl (Nat.le_of_ble_eq_true rfl) (by decide +kernel) (by decide +kernel) hr54
                              · rw [if_neg c55] at h
                                refine w_icmp_ge_n (n := 414) (off := 5) (by decide +kernel) rfl c55 ?_
                                refine w_iconst (n := 415) (v := 0) (x := 0) (by decide +kernel) rfl (by decide) ?_
                                subst h
                                exact w_ireturn (by decide +kernel) (by decide +kernel)
                            · exact w_tV (idx := 143) (cal := 130) (na := 2) (nl := 3) (as := [.int 0, .int v36]) (rest := []) hLM45 (by decide +kernel) (by decide +kernel) (at_0) (by decide +kernel) rfl rfl rfl (Nat.le_of_ble_eq_true rfl) (by decide +kernel) (by decide +kernel) hr59
                          · rw [if_neg c60] at h
                            refine w_icmp_eq_n (n := 400) (off := 5) (by decide +kernel) rfl c60 ?_
                            exact h
                        · exact w_tV (idx := 131) (cal := 113) (na := 1) (nl := 2) (as := [.int 11]) (rest := []) hLM43 (by decide +kernel) (by decide +kernel) (at_0) (by decide +kernel) rfl rfl rfl (Nat.le_of_ble_eq_true rfl) (by decide +kernel) (by decide +kernel) hr64
                      · rw [if_neg c65] at h
                        refine w_icmp_ne_j (n := 400) (off := 14) (by decide +kernel) (by decide) c65 ?_
                        exact h
                  · exact w_tV (idx := 193) (cal := 137) (na := 0) (nl := 1) (as := []) (rest := []) hLM39 (by decide +kernel) (by decide +kernel) (at_0) (by decide +kernel) rfl rfl rfl (Nat.le_of_ble_eq_true rfl) (by decide +kernel) (by decide +kernel) hr71
                · rw [if_neg c72] at h
                  refine w_icmp_ne_j (n := 400) (off := 31) (by decide +kernel) (by decide) c72 ?_
                  exact h
              · exact w_tV (idx := 101) (cal := 95) (na := 2) (nl := 3) (as := [.int 0, .int 10]) (rest := []) hLM37 (by decide +kernel) (by decide +kernel) (at_0) (by decide +kernel) rfl rfl rfl (Nat.le_of_ble_eq_true rfl) (by decide +kernel) (by decide +kernel) hr76
          · exact w_tV (idx := 184) (cal := 128) (na := 1) (nl := 2) (as := [.int 20]) (rest := []) hLM35 (by decide +kernel) (by decide +kernel) (at_0) (by decide +kernel) rfl rfl rfl (Nat.le_of_ble_eq_true rfl) (by decide +kernel) (by decide +kernel) hr81
        · exact w_tV (idx := 190) (cal := 126) (na := 2) (nl := 3) (as := [.int 0, .int 10]) (rest := []) hLM33 (by decide +kernel) (by decide +kernel) (at_0) (by decide +kernel) rfl rfl rfl (Nat.le_of_ble_eq_true rfl) (by decide +kernel) (by decide +kernel) hr85
      · exact w_tV (idx := 175) (cal := 119) (na := 3) (nl := 4) (as := [.int 0, .int 10, .int 20]) (rest := []) hLM31 (by decide +kernel) (by decide +kernel) (at_0) (by decide +kernel) rfl rfl rfl (Nat.le_of_ble_eq_true rfl) (by decide +kernel) (by decide +kernel) hr89
    · exact w_tV (idx := 131) (cal := 113) (na := 1) (nl := 2) (as := [.int 11]) (rest := []) hLM27 (by decide +kernel) (by decide +kernel) (at_0) (by decide +kernel) rfl rfl rfl (Nat.le_of_ble_eq_true rfl) (by decide +kernel) (by decide +kernel) hr94
  · rw [if_neg c204] at h
    refine w_icmp_ge_n (n := 116) (off := 189) (by decide +kernel) rfl c204 ?_
    refine w_aload_n (n := 117) (i := 1) (by decide +kernel) rfl rfl ?_
    refine w_aload_n (n := 118) (i := 0) (by decide +kernel) rfl rfl ?_
    refine w_bipush (n := 120) (v := 90) (x := 90) (by decide +kernel) rfl (by decide) ?_
    refine w_iconst (n := 121) (v := 5) (x := 5) (by decide +kernel) rfl (by decide) ?_
    refine w_iload (n := 123) (i := 4) (by decide +kernel) rfl rfl ?_
    refine w_imul (n := 124) (by decide +kernel) rfl ?_
    refine w_iadd (n := 125) (by decide +kernel) rfl ?_
    refine w_iload_n (n := 126) (i := 2) (by decide +kernel) rfl rfl ?_
    rcases h with h | ⟨E201, M202, hr203, rfl⟩
    · obtain ⟨M97, hLM97, hr200, h⟩ := h
      refine w_cS (n := 129) (idx := 171) (cal := 363) (na := 4) (nl := 4) (as := [.ref 0, .ref 1000000, .int (90 + (5 * y4)), .int y2]) (rest := []) (by decide +kernel) (by decide +kernel) rfl rfl rfl (Nat.le_of_ble_eq_true rfl) rfl hr200 ?_
      refine w_aload_n (n := 130) (i := 1) (by decide +kernel) rfl rfl ?_
      refine w_iconst (n := 131) (v := 0) (x := 0) (by decide +kernel) rfl (by decide) ?_
      rcases h with h | ⟨E197, M198, hr199, rfl⟩
      · obtain ⟨v99, M98, hLM98, hr196, h⟩ := h
        refine w_cS (n := 134) (idx := 164) (cal := 362) (na := 2) (nl := 2) (as := [.ref 0, .int 0]) (rest := []) (by decide +kernel) (by decide +kernel) rfl rfl rfl (Nat.le_of_ble_eq_true rfl) rfl hr196 ?_
        by_cases c195 : v99 = 0
        · rw [if_pos c195] at h
          refine w_if_ne_n (n := 137) (off := 5) (by decide +kernel) rfl c195 ?_
          refine w_iconst (n := 138) (v := 0) (x := 0) (by decide +kernel) rfl (by decide) ?_
          subst h
          exact w_ireturn (by decide +kernel) (by decide +kernel)
        · rw [if_neg c195] at h
          refine w_if_ne_j (n := 139) (off := 5) (by decide +kernel) (by decide) c195 ?_
          refine w_aload_n (n := 140) (i := 0) (by decide +kernel) rfl rfl ?_
          refine w_bipush (n := 142) (v := 94) (x := 94) (by decide +kernel) rfl (by decide) ?_
          refine w_iconst (n := 143) (v := 5) (x := 5) (by decide +kernel) rfl (by decide) ?_
          refine w_iload (n := 145) (i := 4) (by decide +kernel) rfl rfl ?_
          refine w_imul (n := 146) (by decide +kernel) rfl ?_
          refine w_iadd (n := 147) (by decide +kernel) rfl ?_
          refine w_iconst (n := 148) (v := 1) (x := 1) (by decide +kernel) rfl (by decide) ?_
          refine w_bipush (n := 150) (v := 6) (x := 6) (by decide +kernel) rfl (by decide) ?_
          obtain ⟨v101, M100, hLM100, hr194, h⟩ := h
          refine w_cS (n := 153) (idx := 49) (cal := 358) (na := 4) (nl := 4) (as := [.ref 1000000, .int (94 + (5 * y4)), .int 1, .int 6]) (rest := []) (by decide +kernel) (by decide +kernel) rfl rfl rfl (Nat.le_of_ble_eq_true rfl) rfl hr194 ?_
          refine w_istore (n := 155) (i := 5) (l1' := [some (.ref 1000000), some (.ref 0), some (.int y2), some (.int y3), some (.int y4), some (.int v101), o6, o7, o8, o9, o10, o11]) (l2' := []) (by decide +kernel) rfl (Nat.le_of_ble_eq_true rfl) rfl rfl ?_
          refine w_aload_n (n := 156) (i := 0) (by decide +kernel) rfl rfl ?_
          refine w_bipush (n := 158) (v := 92) (x := 92) (by decide +kernel) rfl (by decide) ?_
          refine w_iconst (n := 159) (v := 5) (x := 5) (by decide +kernel) rfl (by decide) ?_
          refine w_iload (n := 161) (i := 4) (by decide +kernel) rfl rfl ?_
          refine w_imul (n := 162) (by decide +kernel) rfl ?_
          refine w_iadd (n := 163) (by decide +kernel) rfl ?_
          refine w_iconst (n := 164) (v := 0) (x := 0) (by decide +kernel) rfl (by decide) ?_
          refine w_iload_n (n := 165) (i := 2) (by decide +kernel) rfl rfl ?_
          refine w_iconst (n := 166) (v := 1) (x := 1) (by decide +kernel) rfl (by decide) ?_
          refine w_isub (n := 167) (by decide +kernel) rfl ?_
          obtain ⟨v103, M102, hLM102, hr193, h⟩ := h
          refine w_cS (n := 170) (idx := 49) (cal := 358) (na := 4) (nl := 4) (as := [.ref 1000000, .int (92 + (5 * y4)), .int 0, .int (y2 - 1)]) (rest := []) (by decide +kernel) (by decide +kernel) rfl rfl rfl (Nat.le_of_ble_eq_true rfl) rfl hr193 ?_
          refine w_istore (n := 172) (i := 6) (l1' := [some (.ref 1000000), some (.ref 0), some (.int y2), some (.int y3), some (.int y4), some (.int v101), some (.int v103), o7, o8, o9, o10, o11]) (l2' := []) (by decide +kernel) rfl (Nat.le_of_ble_eq_true rfl) rfl rfl ?_
          refine w_aload_n (n := 173) (i := 1) (by decide +kernel) rfl rfl ?_
          refine w_iload (n := 175) (i := 6) (by decide +kernel) rfl rfl ?_
          refine w_iconst (n := 176) (v := 3) (x := 3) (by decide +kernel) rfl (by decide) ?_
          refine w_iload (n := 178) (i := 5) (by decide +kernel) rfl rfl ?_
          rcases h with h | ⟨E190, M191, hr192, rfl⟩
          · obtain ⟨v105, M104, hLM104, hr189, h⟩ := h
            refine w_cV (n := 181) (idx := 175) (cal := 119) (na := 3) (nl := 4) (as := [.int v103, .int 3, .int v101]) (rest := []) hLM102 (by decide +kernel) (by decide +kernel) (at_0) (by decide +kernel) rfl rfl rfl (Nat.le_of_ble_eq_true rfl) rfl hr189 ?_
            refine w_istore (n := 183) (i := 7) (l1' := [some (.ref 1000000), some (.ref 0), some (.int y2), some (.int y3), some (.int y4), some (.int v101), some (.int v103), some (.int v105), o8, o9, o10, o11]) (l2' := []) (by decide +kernel) rfl (Nat.le_of_ble_eq_true rfl) rfl rfl ?_
            refine w_aload_n (n := 184) (i := 1) (by decide +kernel) rfl rfl ?_
            refine w_iload (n := 186) (i := 5) (by decide +kernel) rfl rfl ?_
            rcases h with h | ⟨E186, M187, hr188, rfl⟩
            · obtain ⟨v107, M106, hLM106, hr185, h⟩ := h
              refine w_cV (n := 189) (idx := 178) (cal := 122) (na := 1) (nl := 2) (as := [.int v101]) (rest := []) hLM104 (by decide +kernel) (by decide +kernel) (at_0) (by decide +kernel) rfl rfl rfl (Nat.le_of_ble_eq_true rfl) rfl hr185 ?_
              refine w_istore (n := 191) (i := 8) (l1' := [some (.ref 1000000), some (.ref 0), some (.int y2), some (.int y3), some (.int y4), some (.int v101), some (.int v103), some (.int v105), some (.int v107), o9, o10, o11]) (l2' := []) (by decide +kernel) rfl (Nat.le_of_ble_eq_true rfl) rfl rfl ?_
              refine w_aload_n (n := 192) (i := 1) (by decide +kernel) rfl rfl ?_
              refine w_iload (n := 194) (i := 6) (by decide +kernel) rfl rfl ?_
              refine w_iload (n := 196) (i := 5) (by decide +kernel) rfl rfl ?_
              rcases h with h | ⟨E182, M183, hr184, rfl⟩
              · obtain ⟨v109, M108, hLM108, hr181, h⟩ := h
                refine w_cV (n := 199) (idx := 181) (cal := 123) (na := 2) (nl := 3) (as := [.int v103, .int v101]) (rest := []) hLM106 (by decide +kernel) (by decide +kernel) (at_0) (by decide +kernel) rfl rfl rfl (Nat.le_of_ble_eq_true rfl) rfl hr181 ?_
                refine w_istore (n := 201) (i := 9) (l1' := [some (.ref 1000000), some (.ref 0), some (.int y2), some (.int y3), some (.int y4), some (.int v101), some (.int v103), some (.int v105), some (.int v107), some (.int v109), o10, o11]) (l2' := []) (by decide +kernel) rfl (Nat.le_of_ble_eq_true rfl) rfl rfl ?_
                refine w_aload_n (n := 202) (i := 1) (by decide +kernel) rfl rfl ?_
                refine w_bipush (n := 204) (v := 9) (x := 9) (by decide +kernel) rfl (by decide) ?_
                obtain ⟨v111, M110, hLM110, hr180, h⟩ := h
                refine w_cV (n := 207) (idx := 91) (cal := 92) (na := 1) (nl := 2) (as := [.int 9]) (rest := []) hLM108 (by decide +kernel) (by decide +kernel) (at_0) (by decide +kernel) rfl rfl rfl (Nat.le_of_ble_eq_true rfl) rfl hr180 ?_
                refine w_istore (n := 209) (i := 10) (l1' := [some (.ref 1000000), some (.ref 0), some (.int y2), some (.int y3), some (.int y4), some (.int v101), some (.int v103), some (.int v105), some (.int v107), some (.int v109), some (.int v111), o11]) (l2' := []) (by decide +kernel) rfl (Nat.le_of_ble_eq_true rfl) rfl rfl ?_
                refine w_aload_n (n := 210) (i := 1) (by decide +kernel) rfl rfl ?_
                refine w_iload (n := 212) (i := 5) (by decide +kernel) rfl rfl ?_
                rcases h with h | ⟨E177, M178, hr179, rfl⟩
                · obtain ⟨v113, M112, hLM112, hr176, h⟩ := h
                  refine w_cV (n := 215) (idx := 184) (cal := 128) (na := 1) (nl := 2) (as := [.int v101]) (rest := []) hLM110 (by decide +kernel) (by decide +kernel) (at_0) (by decide +kernel) rfl rfl rfl (Nat.le_of_ble_eq_true rfl) rfl hr176 ?_
                  refine w_iload (n := 217) (i := 8) (by decide +kernel) rfl rfl ?_
                  by_cases c175 : v113 = v107
                  · rw [if_pos c175] at h
                    refine w_icmp_ne_n (n := 220) (off := 77) (by decide +kernel) rfl c175 ?_
                    refine w_aload_n (n := 221) (i := 1) (by decide +kernel) rfl rfl ?_
                    refine w_bipush (n := 223) (v := 9) (x := 9) (by decide +kernel) rfl (by decide) ?_
                    obtain ⟨v115, M114, hLM114, hr174, h⟩ := h
                    refine w_cV (n := 226) (idx := 91) (cal := 92) (na := 1) (nl := 2) (as := [.int 9]) (rest := []) hLM112 (by decide +kernel) (by decide +kernel) (at_0) (by decide +kernel) rfl rfl rfl (Nat.le_of_ble_eq_true rfl) rfl hr174 ?_
                    refine w_iload (n := 228) (i := 10) (by decide +kernel) rfl rfl ?_
                    refine w_iload (n := 230) (i := 8) (by decide +kernel) rfl rfl ?_
                    refine w_iadd (n := 231) (by decide +kernel) rfl ?_
                    by_cases c173 : v115 = v111 + v107
                    · rw [if_pos c173] at h
                      refine w_icmp_ne_n (n := 234) (off := 63) (by decide +kernel) rfl c173 ?_
                      refine w_aload_n (n := 235) (i := 1) (by decide +kernel) rfl rfl ?_
                      refine w_iload (n := 237) (i := 6) (by decide +kernel) rfl rfl ?_
                      refine w_iconst (n := 238) (v := 3) (x := 3) (by decide +kernel) rfl (by decide) ?_
                      rcases h with h | ⟨E170, M171, hr172, rfl⟩
                      · obtain ⟨v117, M116, hLM116, hr169, h⟩ := h
                        refine w_cV (n := 241) (idx := 101) (cal := 95) (na := 2) (nl := 3) (as := [.int v103, .int 3]) (rest := []) hLM114 (by decide +kernel) (by decide +kernel) (at_0) (by decide +kernel) rfl rfl rfl (Nat.le_of_ble_eq_true rfl) rfl hr169 ?_
                        refine w_iload (n := 243) (i := 7) (by decide +kernel) rfl rfl ?_
                        by_cases c168 : v117 = v105
                        · rw [if_pos c168] at h
                          refine w_icmp_ne_n (n := 246) (off := 51) (by decide +kernel) rfl c168 ?_
                          refine w_iload (n := 248) (i := 9) (by decide +kernel) rfl rfl ?_
                          refine w_iconst (n := 249) (v := -1) (x := (-1)) (by decide +kernel) rfl (by decide) ?_
                          by_cases c167 : v109 = (-1)
                          · rw [if_pos c167] at h
                            refine w_icmp_ne_n (n := 252) (off := 7) (by decide +kernel) rfl c167 ?_
                            refine w_iconst (n := 253) (v := 1) (x := 1) (by decide +kernel) rfl (by decide) ?_
                            refine w_goto (n := 257) (off := 4) (by decide +kernel) (by decide) ?_
                            refine w_aload_n (n := 258) (i := 1) (by decide +kernel) rfl rfl ?_
                            refine w_iload (n := 260) (i := 6) (by decide +kernel) rfl rfl ?_
                            refine w_iconst (n := 261) (v := 0) (x := 0) (by decide +kernel) rfl (by decide) ?_
                            rcases h with h | ⟨E164, M165, hr166, rfl⟩
                            · obtain ⟨v140, M139, hLM139, hr163, h⟩ := h
                              refine w_cV (n := 264) (idx := 101) (cal := 95) (na := 2) (nl := 3) (as := [.int v103, .int 0]) (rest := [.int 1]) hLM116 (by decide +kernel) (by decide +kernel) (at_0) (by decide +kernel) rfl rfl rfl (Nat.le_of_ble_eq_true rfl) rfl hr163 ?_
                              by_cases c162 : v140 = 0
                              · rw [if_pos c162] at h
                                refine w_if_eq_j (n := 278) (off := 14) (by decide +kernel) (by decide) c162 ?_
                                refine w_iconst (n := 279) (v := 1) (x := 1) (by decide +kernel) rfl (by decide) ?_
                                refine w_goto (n := 283) (off := 4) (by decide +kernel) (by decide) ?_
                                refine w_icmp_ne_n (n := 286) (off := 11) (by decide +kernel) rfl (by decide) ?_
                                refine w_aload_n (n := 287) (i := 1) (by decide +kernel) rfl rfl ?_
                                refine w_iconst (n := 288) (v := 1) (x := 1) (by decide +kernel) rfl (by decide) ?_
                                rcases h with h | ⟨E145, M146, hr147, rfl⟩
                                · obtain ⟨v142, M141, hLM141, hr144, h⟩ := h
                                  refine w_cS (n := 291) (idx := 164) (cal := 362) (na := 2) (nl := 2) (as := [.ref 0, .int 1]) (rest := []) (by decide +kernel) (by decide +kernel) rfl rfl rfl (Nat.le_of_ble_eq_true rfl) rfl hr144 ?_
                                  by_cases c143 : v142 = 0
                                  · rw [if_pos c143] at h
                                    refine w_if_ne_n (n := 294) (off := 5) (by decide +kernel) rfl c143 ?_
                                    exact h
                                  · rw [if_neg c143] at h
                                    refine w_if_ne_j (n := 296) (off := 5) (by decide +kernel) (by decide) c143 ?_
                                    refine w_iinc (n := 299) (i := 4) (v := 1) (y := y4 + 1) (l1' := [some (.ref 1000000), some (.ref 0), some (.int y2), some (.int y3), some (.int (y4 + 1)), some (.int v101), some (.int v103), some (.int v105), some (.int v107), some (.int v109), some (.int v111), o11]) (l2' := []) (by decide +kernel) rfl rfl rfl rfl rfl ?_
                                    refine w_goto (n := 110) (off := (-189)) (by decide +kernel) (by decide) ?_
                                    exact h
                                · exact w_tS (idx := 164) (cal := 362) (na := 2) (nl := 2) (as := [.ref 0, .int 1]) (rest := []) (by decide +kernel) (by decide +kernel) rfl rfl rfl (Nat.le_of_ble_eq_true rfl) (by decide +kernel) (by decide +kernel) hr147
                              · rw [if_neg c162] at h
                                refine w_if_eq_n (n := 267) (off := 14) (by decide +kernel) rfl c162 ?_
                                refine w_aload_n (n := 268) (i := 1) (by decide +kernel) rfl rfl ?_
                                refine w_iload (n := 270) (i := 6) (by decide +kernel) rfl rfl ?_
                                refine w_iconst (n := 271) (v := 0) (x := 0) (by decide +kernel) rfl (by decide) ?_
                                rcases h with h | ⟨E159, M160, hr161, rfl⟩
                                · obtain ⟨v149, M148, hLM148, hr158, h⟩ := h
                                  refine w_cV (n := 274) (idx := 101) (cal := 95) (na := 2) (nl := 3) (as := [.int v103, .int 0]) (rest := [.int 1]) hLM139 (by decide +kernel) (by decide +kernel) (at_0) (by decide +kernel) rfl rfl rfl (Nat.le_of_ble_eq_true rfl) rfl hr158 ?_
                                  refine w_iconst (n := 275) (v := 2) (x := 2) (by decide +kernel) rfl (by decide) ?_
                                  by_cases c157 : v149 = 2
                                  · rw [if_pos c157] at h
                                    refine w_icmp_ne_n (n := 278) (off := 7) (by decide +kernel) rfl c157 ?_
                                    refine w_iconst (n := 279) (v := 1) (x := 1) (by decide +kernel) rfl (by decide) ?_
                                    refine w_goto (n := 283) (off := 4) (by decide +kernel) (by decide) ?_
                                    refine w_icmp_ne_n (n := 286) (off := 11) (by decide +kernel) rfl (by decide) ?_
                                    refine w_aload_n (n := 287) (i := 1) (by decide +kernel) rfl rfl ?_
                                    refine w_iconst (n := 288) (v := 1) (x := 1) (by decide +kernel) rfl (by decide) ?_
                                    rcases h with h | ⟨E154, M155, hr156, rfl⟩
                                    · obtain ⟨v151, M150, hLM150, hr153, h⟩ := h
                                      refine w_cS (n := 291) (idx := 164) (cal := 362) (na := 2) (nl := 2) (as := [.ref 0, .int 1]) (rest := []) (by decide +kernel) (by decide +kernel) rfl rfl rfl (Nat.le_of_ble_eq_true rfl) rfl hr153 ?_
                                      by_cases c152 : v151 = 0
                                      · rw [if_pos c152] at h
                                        refine w_if_ne_n (n := 294) (off := 5) (by decide +kernel) rfl c152 ?_
                                        exact h
                                      · rw [if_neg c152] at h
                                        refine w_if_ne_j (n := 296) (off := 5) (by decide +kernel) (by decide) c152 ?_
                                        refine w_iinc (n := 299) (i := 4) (v := 1) (y := y4 + 1) (l1' := [some (.ref 1000000), some (.ref 0), some (.int y2), some (.int y3), some (.int (y4 + 1)), some (.int v101), some (.int v103), some (.int v105), some (.int v107), some (.int v109), some (.int v111), o11]) (l2' := []) (by decide +kernel) rfl rfl rfl rfl rfl ?_
                                        refine w_goto (n := 110) (off := (-189)) (by decide +kernel) (by decide) ?_
                                        exact h
                                    · exact w_tS (idx := 164) (cal := 362) (na := 2) (nl := 2) (as := [.ref 0, .int 1]) (rest := []) (by decide +kernel) (by decide +kernel) rfl rfl rfl (Nat.le_of_ble_eq_true rfl) (by decide +kernel) (by decide +kernel) hr156
                                  · rw [if_neg c157] at h
                                    refine w_icmp_ne_j (n := 282) (off := 7) (by decide +kernel) (by decide) c157 ?_
                                    refine w_iconst (n := 283) (v := 0) (x := 0) (by decide +kernel) rfl (by decide) ?_
                                    refine w_icmp_ne_j (n := 294) (off := 11) (by decide +kernel) (by decide) (by decide) ?_
                                    exact h
                                · exact w_tV (idx := 101) (cal := 95) (na := 2) (nl := 3) (as := [.int v103, .int 0]) (rest := [.int 1]) hLM139 (by decide +kernel) (by decide +kernel) (at_0) (by decide +kernel) rfl rfl rfl (Nat.le_of_ble_eq_true rfl) (by decide +kernel) (by decide +kernel) hr161
                            · exact w_tV (idx := 101) (cal := 95) (na := 2) (nl := 3) (as := [.int v103, .int 0]) (rest := [.int 1]) hLM116 (by decide +kernel) (by decide +kernel) (at_0) (by decide +kernel) rfl rfl rfl (Nat.le_of_ble_eq_true rfl) (by decide +kernel) (by decide +kernel) hr166
                          · rw [if_neg c167] at h
                            refine w_icmp_ne_j (n := 256) (off := 7) (by decide +kernel) (by decide) c167 ?_
                            refine w_iconst (n := 257) (v := 0) (x := 0) (by decide +kernel) rfl (by decide) ?_
                            refine w_aload_n (n := 258) (i := 1) (by decide +kernel) rfl rfl ?_
                            refine w_iload (n := 260) (i := 6) (by decide +kernel) rfl rfl ?_
                            refine w_iconst (n := 261) (v := 0) (x := 0) (by decide +kernel) rfl (by decide) ?_
                            rcases h with h | ⟨E136, M137, hr138, rfl⟩
                            · obtain ⟨v119, M118, hLM118, hr135, h⟩ := h
                              refine w_cV (n := 264) (idx := 101) (cal := 95) (na := 2) (nl := 3) (as := [.int v103, .int 0]) (rest := [.int 0]) hLM116 (by decide +kernel) (by decide +kernel) (at_0) (by decide +kernel) rfl rfl rfl (Nat.le_of_ble_eq_true rfl) rfl hr135 ?_
                              by_cases c134 : v119 = 0
                              · rw [if_pos c134] at h
                                refine w_if_eq_j (n := 278) (off := 14) (by decide +kernel) (by decide) c134 ?_
                                refine w_iconst (n := 279) (v := 1) (x := 1) (by decide +kernel) rfl (by decide) ?_
                                refine w_goto (n := 283) (off := 4) (by decide +kernel) (by decide) ?_
                                refine w_icmp_ne_j (n := 294) (off := 11) (by decide +kernel) (by decide) (by decide) ?_
                                exact h
                              · rw [if_neg c134] at h
                                refine w_if_eq_n (n := 267) (off := 14) (by decide +kernel) rfl c134 ?_
                                refine w_aload_n (n := 268) (i := 1) (by decide +kernel) rfl rfl ?_
                                refine w_iload (n := 270) (i := 6) (by decide +kernel) rfl rfl ?_
                                refine w_iconst (n := 271) (v := 0) (x := 0) (by decide +kernel) rfl (by decide) ?_
                                rcases h with h | ⟨E131, M132, hr133, rfl⟩
                                · obtain ⟨v121, M120, hLM120, hr130, h⟩ := h
                                  refine w_cV (n := 274) (idx := 101) (cal := 95) (na := 2) (nl := 3) (as := [.int v103, .int 0]) (rest := [.int 0]) hLM118 (by decide +kernel) (by decide +kernel) (at_0) (by decide +kernel) rfl rfl rfl (Nat.le_of_ble_eq_true rfl) rfl hr130 ?_
                                  refine w_iconst (n := 275) (v := 2) (x := 2) (by decide +kernel) rfl (by decide) ?_
                                  by_cases c129 : v121 = 2
                                  · rw [if_pos c129] at h
                                    refine w_icmp_ne_n (n := 278) (off := 7) (by decide +kernel) rfl c129 ?_
                                    refine w_iconst (n := 279) (v := 1) (x := 1) (by decide +kernel) rfl (by decide) ?_
                                    refine w_goto (n := 283) (off := 4) (by decide +kernel) (by decide) ?_
                                    refine w_icmp_ne_j (n := 294) (off := 11) (by decide +kernel) (by decide) (by decide) ?_
                                    exact h
                                  · rw [if_neg c129] at h
                                    refine w_icmp_ne_j (n := 282) (off := 7) (by decide +kernel) (by decide) c129 ?_
                                    refine w_iconst (n := 283) (v := 0) (x := 0) (by decide +kernel) rfl (by decide) ?_
                                    refine w_icmp_ne_n (n := 286) (off := 11) (by decide +kernel) rfl (by decide) ?_
                                    refine w_aload_n (n := 287) (i := 1) (by decide +kernel) rfl rfl ?_
                                    refine w_iconst (n := 288) (v := 1) (x := 1) (by decide +kernel) rfl (by decide) ?_
                                    rcases h with h | ⟨E126, M127, hr128, rfl⟩
                                    · obtain ⟨v123, M122, hLM122, hr125, h⟩ := h
                                      refine w_cS (n := 291) (idx := 164) (cal := 362) (na := 2) (nl := 2) (as := [.ref 0, .int 1]) (rest := []) (by decide +kernel) (by decide +kernel) rfl rfl rfl (Nat.le_of_ble_eq_true rfl) rfl hr125 ?_
                                      by_cases c124 : v123 = 0
                                      · rw [if_pos c124] at h
                                        refine w_if_ne_n (n := 294) (off := 5) (by decide +kernel) rfl c124 ?_
                                        exact h
                                      · rw [if_neg c124] at h
                                        refine w_if_ne_j (n := 296) (off := 5) (by decide +kernel) (by decide) c124 ?_
                                        refine w_iinc (n := 299) (i := 4) (v := 1) (y := y4 + 1) (l1' := [some (.ref 1000000), some (.ref 0), some (.int y2), some (.int y3), some (.int (y4 + 1)), some (.int v101), some (.int v103), some (.int v105), some (.int v107), some (.int v109), some (.int v111), o11]) (l2' := []) (by decide +kernel) rfl rfl rfl rfl rfl ?_
                                        refine w_goto (n := 110) (off := (-189)) (by decide +kernel) (by decide) ?_
                                        exact h
                                    · exact w_tS (idx := 164) (cal := 362) (na := 2) (nl := 2) (as := [.ref 0, .int 1]) (rest := []) (by decide +kernel) (by decide +kernel) rfl rfl rfl (Nat.le_of_ble_eq_true rfl) (by decide +kernel) (by decide +kernel) hr128
                                · exact w_tV (idx := 101) (cal := 95) (na := 2) (nl := 3) (as := [.int v103, .int 0]) (rest := [.int 0]) hLM118 (by decide +kernel) (by decide +kernel) (at_0) (by decide +kernel) rfl rfl rfl (Nat.le_of_ble_eq_true rfl) (by decide +kernel) (by decide +kernel) hr133
                            · exact w_tV (idx := 101) (cal := 95) (na := 2) (nl := 3) (as := [.int v103, .int 0]) (rest := [.int 0]) hLM116 (by decide +kernel) (by decide +kernel) (at_0) (by decide +kernel) rfl rfl rfl (Nat.le_of_ble_eq_true rfl) (by decide +kernel) (by decide +kernel) hr138
                        · rw [if_neg c168] at h
                          refine w_icmp_ne_j (n := 294) (off := 51) (by decide +kernel) (by decide) c168 ?_
                          exact h
                      · exact w_tV (idx := 101) (cal := 95) (na := 2) (nl := 3) (as := [.int v103, .int 3]) (rest := []) hLM114 (by decide +kernel) (by decide +kernel) (at_0) (by decide +kernel) rfl rfl rfl (Nat.le_of_ble_eq_true rfl) (by decide +kernel) (by decide +kernel) hr172
                    · rw [if_neg c173] at h
                      refine w_icmp_ne_j (n := 294) (off := 63) (by decide +kernel) (by decide) c173 ?_
                      exact h
                  · rw [if_neg c175] at h
                    refine w_icmp_ne_j (n := 294) (off := 77) (by decide +kernel) (by decide) c175 ?_
                    exact h
                · exact w_tV (idx := 184) (cal := 128) (na := 1) (nl := 2) (as := [.int v101]) (rest := []) hLM110 (by decide +kernel) (by decide +kernel) (at_0) (by decide +kernel) rfl rfl rfl (Nat.le_of_ble_eq_true rfl) (by decide +kernel) (by decide +kernel) hr179
              · exact w_tV (idx := 181) (cal := 123) (na := 2) (nl := 3) (as := [.int v103, .int v101]) (rest := []) hLM106 (by decide +kernel) (by decide +kernel) (at_0) (by decide +kernel) rfl rfl rfl (Nat.le_of_ble_eq_true rfl) (by decide +kernel) (by decide +kernel) hr184
            · exact w_tV (idx := 178) (cal := 122) (na := 1) (nl := 2) (as := [.int v101]) (rest := []) hLM104 (by decide +kernel) (by decide +kernel) (at_0) (by decide +kernel) rfl rfl rfl (Nat.le_of_ble_eq_true rfl) (by decide +kernel) (by decide +kernel) hr188
          · exact w_tV (idx := 175) (cal := 119) (na := 3) (nl := 4) (as := [.int v103, .int 3, .int v101]) (rest := []) hLM102 (by decide +kernel) (by decide +kernel) (at_0) (by decide +kernel) rfl rfl rfl (Nat.le_of_ble_eq_true rfl) (by decide +kernel) (by decide +kernel) hr192
      · exact w_tS (idx := 164) (cal := 362) (na := 2) (nl := 2) (as := [.ref 0, .int 0]) (rest := []) (by decide +kernel) (by decide +kernel) rfl rfl rfl (Nat.le_of_ble_eq_true rfl) (by decide +kernel) (by decide +kernel) hr199
    · exact w_tS (idx := 171) (cal := 363) (na := 4) (nl := 4) (as := [.ref 0, .ref 1000000, .int (90 + (5 * y4)), .int y2]) (rest := []) (by decide +kernel) (by decide +kernel) rfl rfl rfl (Nat.le_of_ble_eq_true rfl) (by decide +kernel) (by decide +kernel) hr203
theorem t_364_294 {X : ak_X} {M : ak_M} {r : ak_O × ak_M} (hL : ab_lay M) (o1 : Option Value) (o2 : Option Value) (o3 : Option Value) (o4 : Option Value) (o5 : Option Value) (o6 : Option Value) (o7 : Option Value) (o8 : Option Value) (o9 : Option Value) (o10 : Option Value) (o11 : Option Value) (h : r = (.inl (some (.int 0)), M)) : sg X 364 (294, [some (.ref 1000000), o1, o2, o3, o4, o5, o6, o7, o8, o9, o10, o11], [], []) M r := by
  refine w_iconst (n := 295) (v := 0) (x := 0) (by decide +kernel) rfl (by decide) ?_
  subst h
  exact w_ireturn (by decide +kernel) (by decide +kernel)
theorem t_364_400 {X : ak_X} {M : ak_M} {r : ak_O × ak_M} (hL : ab_lay M) (o1 : Option Value) (o2 : Option Value) (o3 : Option Value) (o4 : Option Value) (o5 : Option Value) (o6 : Option Value) (o7 : Option Value) (o8 : Option Value) (o9 : Option Value) (o10 : Option Value) (o11 : Option Value) (h : r = (.inl (some (.int 0)), M)) : sg X 364 (400, [some (.ref 1000000), o1, o2, o3, o4, o5, o6, o7, o8, o9, o10, o11], [], []) M r := by
  refine w_iconst (n := 401) (v := 0) (x := 0) (by decide +kernel) rfl (by decide) ?_
  subst h
  exact w_ireturn (by decide +kernel) (by decide +kernel)
theorem t_364_430 {X : ak_X} {M : ak_M} {r : ak_O × ak_M} (hL : ab_lay M) (o2 : Option Value) (o3 : Option Value) (y4 : Int32) (y5 : Int32) (o6 : Option Value) (y7 : Int32) (y8 : Int32) (o9 : Option Value) (y10 : Int32) (y11 : Int32) (h : (if 9 < y11 then (if 10 < y5 then sg X 364 (528, [some (.ref 1000000), some (.ref 0), o2, o3, some (.int y4), some (.int y5), o6, some (.int y7), some (.int y8), o9, some (.int y10), some (.int y11)], [], []) M r else (if y7 = y4 then ((∃ (v206 : Int32) (M205 : ak_M), ab_lay M205 ∧ rn X 143 [.ref 0] M (.inl (some (.int v206)), M205) ∧ (if v206 = y4 then (∃ (v208 : Int32) (M207 : ak_M), ab_lay M207 ∧ rn X 92 [.ref 0, .int 12] M205 (.inl (some (.int v208)), M207) ∧ (if v208 = 0 then ((∃ (v210 : Int32) (M209 : ak_M), ab_lay M209 ∧ rn X 362 [.ref 0, .int 1] M207 (.inl (some (.int v210)), M209) ∧ (if v210 = 0 then sg X 364 (528, [some (.ref 1000000), some (.ref 0), o2, o3, some (.int y4), some (.int y5), o6, some (.int y7), some (.int y8), o9, some (.int y10), some (.int y11)], [], []) M209 r else ((∃ (v212 : Int32) (M211 : ak_M), ab_lay M211 ∧ rn X 119 [.ref 0, .int 0, .int 10, .int 20] M209 (.inl (some (.int v212)), M211) ∧ (if v212 = y8 then r = (.inl (some (.int 1)), M211) else sg X 364 (528, [some (.ref 1000000), some (.ref 0), o2, o3, some (.int y4), some (.int y5), o6, some (.int y7), some (.int y8), o9, some (.int y10), some (.int y11)], [], []) M211 r)) ∨ ∃ (E215 : Nat) (M216 : ak_M), rn X 119 [.ref 0, .int 0, .int 10, .int 20] M209 (.inr E215, M216) ∧ r = (.inr E215, M216)))) ∨ ∃ (E220 : Nat) (M221 : ak_M), rn X 362 [.ref 0, .int 1] M207 (.inr E220, M221) ∧ r = (.inr E220, M221)) else sg X 364 (528, [some (.ref 1000000), some (.ref 0), o2, o3, some (.int y4), some (.int y5), o6, some (.int y7), some (.int y8), o9, some (.int y10), some (.int y11)], [], []) M207 r)) else sg X 364 (528, [some (.ref 1000000), some (.ref 0), o2, o3, some (.int y4), some (.int y5), o6, some (.int y7), some (.int y8), o9, some (.int y10), some (.int y11)], [], []) M205 r)) ∨ ∃ (E227 : Nat) (M228 : ak_M), rn X 143 [.ref 0] M (.inr E227, M228) ∧ r = (.inr E227, M228)) else sg X 364 (528, [some (.ref 1000000), some (.ref 0), o2, o3, some (.int y4), some (.int y5), o6, some (.int y7), some (.int y8), o9, some (.int y10), some (.int y11)], [], []) M r)) else ((∃ (v233 : Int32) (M232 : ak_M), ab_lay M232 ∧ rn X 130 [.ref 0, .int 0, .int y11] M (.inl (some (.int v233)), M232) ∧ (if v233 < (-9) then sg X 364 (462, [some (.ref 1000000), some (.ref 0), o2, o3, some (.int y4), some (.int y5), o6, some (.int y7), some (.int y8), o9, some (.int y10), some (.int y11)], [], []) M232 r else ((∃ (v235 : Int32) (M234 : ak_M), ab_lay M234 ∧ rn X 119 [.ref 0, .int 0, .int 3, .int 10] M232 (.inl (some (.int v235)), M234) ∧ (if v235 ≤ y10 then sg X 364 (430, [some (.ref 1000000), some (.ref 0), o2, o3, some (.int y4), some (.int y5), o6, some (.int y7), some (.int y8), o9, some (.int y10), some (.int (y11 + 3))], [], []) M234 r else sg X 364 (462, [some (.ref 1000000), some (.ref 0), o2, o3, some (.int y4), some (.int y5), o6, some (.int y7), some (.int y8), o9, some (.int y10), some (.int y11)], [], []) M234 r)) ∨ ∃ (E238 : Nat) (M239 : ak_M), rn X 119 [.ref 0, .int 0, .int 3, .int 10] M232 (.inr E238, M239) ∧ r = (.inr E238, M239)))) ∨ ∃ (E243 : Nat) (M244 : ak_M), rn X 130 [.ref 0, .int 0, .int y11] M (.inr E243, M244) ∧ r = (.inr E243, M244)))) : sg X 364 (430, [some (.ref 1000000), some (.ref 0), o2, o3, some (.int y4), some (.int y5), o6, some (.int y7), some (.int y8), o9, some (.int y10), some (.int y11)], [], []) M r := by
  refine w_iload (n := 432) (i := 11) (by decide +kernel) rfl rfl ?_
  refine w_bipush (n := 434) (v := 9) (x := 9) (by decide +kernel) rfl (by decide) ?_
  by_cases c246 : 9 < y11
  · rw [if_pos c246] at h
    refine w_icmp_gt_j (n := 470) (off := 36) (by decide +kernel) (by decide) c246 ?_
    refine w_iload (n := 472) (i := 5) (by decide +kernel) rfl rfl ?_
    refine w_bipush (n := 474) (v := 10) (x := 10) (by decide +kernel) rfl (by decide) ?_
    by_cases c231 : 10 < y5
    · rw [if_pos c231] at h
      refine w_icmp_gt_j (n := 528) (off := 54) (by decide +kernel) (by decide) c231 ?_
      exact h
    · rw [if_neg c231] at h
      refine w_icmp_gt_n (n := 477) (off := 54) (by decide +kernel) rfl c231 ?_
      refine w_iload (n := 479) (i := 7) (by decide +kernel) rfl rfl ?_
      refine w_iload (n := 481) (i := 4) (by decide +kernel) rfl rfl ?_
      by_cases c230 : y7 = y4
      · rw [if_pos c230] at h
        refine w_icmp_ne_n (n := 484) (off := 47) (by decide +kernel) rfl c230 ?_
        refine w_aload_n (n := 485) (i := 1) (by decide +kernel) rfl rfl ?_
        rcases h with h | ⟨E227, M228, hr229, rfl⟩
        · obtain ⟨v206, M205, hLM205, hr226, h⟩ := h
          refine w_cV (n := 488) (idx := 196) (cal := 143) (na := 0) (nl := 1) (as := []) (rest := []) hL (by decide +kernel) (by decide +kernel) (at_0) (by decide +kernel) rfl rfl rfl (Nat.le_of_ble_eq_true rfl) rfl hr226 ?_
          refine w_iload (n := 490) (i := 4) (by decide +kernel) rfl rfl ?_
          by_cases c225 : v206 = y4
          · rw [if_pos c225] at h
            refine w_icmp_ne_n (n := 493) (off := 38) (by decide +kernel) rfl c225 ?_
            refine w_aload_n (n := 494) (i := 1) (by decide +kernel) rfl rfl ?_
            refine w_bipush (n := 496) (v := 12) (x := 12) (by decide +kernel) rfl (by decide) ?_
            obtain ⟨v208, M207, hLM207, hr224, h⟩ := h
            refine w_cV (n := 499) (idx := 91) (cal := 92) (na := 1) (nl := 2) (as := [.int 12]) (rest := []) hLM205 (by decide +kernel) (by decide +kernel) (at_0) (by decide +kernel) rfl rfl rfl (Nat.le_of_ble_eq_true rfl) rfl hr224 ?_
            by_cases c223 : v208 = 0
            · rw [if_pos c223] at h
              refine w_if_ne_n (n := 502) (off := 29) (by decide +kernel) rfl c223 ?_
              refine w_aload_n (n := 503) (i := 1) (by decide +kernel) rfl rfl ?_
              refine w_iconst (n := 504) (v := 1) (x := 1) (by decide +kernel) rfl (by decide) ?_
              rcases h with h | ⟨E220, M221, hr222, rfl⟩
              · obtain ⟨v210, M209, hLM209, hr219, h⟩ := h
                refine w_cS (n := 507) (idx := 164) (cal := 362) (na := 2) (nl := 2) (as := [.ref 0, .int 1]) (rest := []) (by decide +kernel) (by decide +kernel) rfl rfl rfl (Nat.le_of_ble_eq_true rfl) rfl hr219 ?_
                by_cases c218 : v210 = 0
                · rw [if_pos c218] at h
                  refine w_if_eq_j (n := 528) (off := 21) (by decide +kernel) (by decide) c218 ?_
                  exact h
                · rw [if_neg c218] at h
                  refine w_if_eq_n (n := 510) (off := 21) (by decide +kernel) rfl c218 ?_
                  refine w_aload_n (n := 511) (i := 1) (by decide +kernel) rfl rfl ?_
                  refine w_iconst (n := 512) (v := 0) (x := 0) (by decide +kernel) rfl (by decide) ?_
                  refine w_bipush (n := 514) (v := 10) (x := 10) (by decide +kernel) rfl (by decide) ?_
                  refine w_bipush (n := 516) (v := 20) (x := 20) (by decide +kernel) rfl (by decide) ?_
                  rcases h with h | ⟨E215, M216, hr217, rfl⟩
                  · obtain ⟨v212, M211, hLM211, hr214, h⟩ := h
                    refine w_cV (n := 519) (idx := 175) (cal := 119) (na := 3) (nl := 4) (as := [.int 0, .int 10, .int 20]) (rest := []) hLM209 (by decide +kernel) (by decide +kernel) (at_0) (by decide +kernel) rfl rfl rfl (Nat.le_of_ble_eq_true rfl) rfl hr214 ?_
                    refine w_iload (n := 521) (i := 8) (by decide +kernel) rfl rfl ?_
                    by_cases c213 : v212 = y8
                    · rw [if_pos c213] at h
                      refine w_icmp_ne_n (n := 524) (off := 7) (by decide +kernel) rfl c213 ?_
                      refine w_iconst (n := 525) (v := 1) (x := 1) (by decide +kernel) rfl (by decide) ?_
                      refine w_goto (n := 529) (off := 4) (by decide +kernel) (by decide) ?_
                      subst h
                      exact w_ireturn (by decide +kernel) (by decide +kernel)
                    · rw [if_neg c213] at h
                      refine w_icmp_ne_j (n := 528) (off := 7) (by decide +kernel) (by decide) c213 ?_
                      exact h
                  · exact w_tV (idx := 175) (cal := 119) (na := 3) (nl := 4) (as := [.int 0, .int 10, .int 20]) (rest := []) hLM209 (by decide +kernel) (by decide +kernel) (at_0) (by decide +kernel) rfl rfl rfl (Nat.le_of_ble_eq_true rfl) (by decide +kernel) (by decide +kernel) hr217
              · exact w_tS (idx := 164) (cal := 362) (na := 2) (nl := 2) (as := [.ref 0, .int 1]) (rest := []) (by decide +kernel) (by decide +kernel) rfl rfl rfl (Nat.le_of_ble_eq_true rfl) (by decide +kernel) (by decide +kernel) hr222
            · rw [if_neg c223] at h
              refine w_if_ne_j (n := 528) (off := 29) (by decide +kernel) (by decide) c223 ?_
              exact h
          · rw [if_neg c225] at h
            refine w_icmp_ne_j (n := 528) (off := 38) (by decide +kernel) (by decide) c225 ?_
            exact h
        · exact w_tV (idx := 196) (cal := 143) (na := 0) (nl := 1) (as := []) (rest := []) hL (by decide +kernel) (by decide +kernel) (at_0) (by decide +kernel) rfl rfl rfl (Nat.le_of_ble_eq_true rfl) (by decide +kernel) (by decide +kernel) hr229
      · rw [if_neg c230] at h
        refine w_icmp_ne_j (n := 528) (off := 47) (by decide +kernel) (by decide) c230 ?_
        exact h
  · rw [if_neg c246] at h
    refine w_icmp_gt_n (n := 437) (off := 36) (by decide +kernel) rfl c246 ?_
    refine w_aload_n (n := 438) (i := 1) (by decide +kernel) rfl rfl ?_
    refine w_iconst (n := 439) (v := 0) (x := 0) (by decide +kernel) rfl (by decide) ?_
    refine w_iload (n := 441) (i := 11) (by decide +kernel) rfl rfl ?_
    rcases h with h | ⟨E243, M244, hr245, rfl⟩
    · obtain ⟨v233, M232, hLM232, hr242, h⟩ := h
      refine w_cV (n := 444) (idx := 143) (cal := 130) (na := 2) (nl := 3) (as := [.int 0, .int y11]) (rest := []) hL (by decide +kernel) (by decide +kernel) (at_0) (by decide +kernel) rfl rfl rfl (Nat.le_of_ble_eq_true rfl) rfl hr242 ?_
      refine w_bipush (n := 446) (v := -9) (x := (-9)) (by decide +kernel) rfl (by decide) ?_
      by_cases c241 : v233 < (-9)
      · rw [if_pos c241] at h
        refine w_icmp_lt_j (n := 462) (off := 16) (by decide +kernel) (by decide) c241 ?_
        exact h
      · rw [if_neg c241] at h
        refine w_icmp_lt_n (n := 449) (off := 16) (by decide +kernel) rfl c241 ?_
        refine w_aload_n (n := 450) (i := 1) (by decide +kernel) rfl rfl ?_
        refine w_iconst (n := 451) (v := 0) (x := 0) (by decide +kernel) rfl (by decide) ?_
        refine w_iconst (n := 452) (v := 3) (x := 3) (by decide +kernel) rfl (by decide) ?_
        refine w_bipush (n := 454) (v := 10) (x := 10) (by decide +kernel) rfl (by decide) ?_
        rcases h with h | ⟨E238, M239, hr240, rfl⟩
        · obtain ⟨v235, M234, hLM234, hr237, h⟩ := h
          refine w_cV (n := 457) (idx := 175) (cal := 119) (na := 3) (nl := 4) (as := [.int 0, .int 3, .int 10]) (rest := []) hLM232 (by decide +kernel) (by decide +kernel) (at_0) (by decide +kernel) rfl rfl rfl (Nat.le_of_ble_eq_true rfl) rfl hr237 ?_
          refine w_iload (n := 459) (i := 10) (by decide +kernel) rfl rfl ?_
          by_cases c236 : v235 ≤ y10
          · rw [if_pos c236] at h
            refine w_icmp_le_j (n := 464) (off := 5) (by decide +kernel) (by decide) c236 ?_
            refine w_iinc (n := 467) (i := 11) (v := 3) (y := y11 + 3) (l1' := [some (.ref 1000000), some (.ref 0), o2, o3, some (.int y4), some (.int y5), o6, some (.int y7), some (.int y8), o9, some (.int y10), some (.int (y11 + 3))]) (l2' := []) (by decide +kernel) rfl rfl rfl rfl rfl ?_
            refine w_goto (n := 430) (off := (-37)) (by decide +kernel) (by decide) ?_
            exact h
          · rw [if_neg c236] at h
            refine w_icmp_le_n (n := 462) (off := 5) (by decide +kernel) rfl c236 ?_
            exact h
        · exact w_tV (idx := 175) (cal := 119) (na := 3) (nl := 4) (as := [.int 0, .int 3, .int 10]) (rest := []) hLM232 (by decide +kernel) (by decide +kernel) (at_0) (by decide +kernel) rfl rfl rfl (Nat.le_of_ble_eq_true rfl) (by decide +kernel) (by decide +kernel) hr240
    · exact w_tV (idx := 143) (cal := 130) (na := 2) (nl := 3) (as := [.int 0, .int y11]) (rest := []) hL (by decide +kernel) (by decide +kernel) (at_0) (by decide +kernel) rfl rfl rfl (Nat.le_of_ble_eq_true rfl) (by decide +kernel) (by decide +kernel) hr245
theorem t_364_462 {X : ak_X} {M : ak_M} {r : ak_O × ak_M} (hL : ab_lay M) (o1 : Option Value) (o2 : Option Value) (o3 : Option Value) (o4 : Option Value) (o5 : Option Value) (o6 : Option Value) (o7 : Option Value) (o8 : Option Value) (o9 : Option Value) (o10 : Option Value) (o11 : Option Value) (h : r = (.inl (some (.int 0)), M)) : sg X 364 (462, [some (.ref 1000000), o1, o2, o3, o4, o5, o6, o7, o8, o9, o10, o11], [], []) M r := by
  refine w_iconst (n := 463) (v := 0) (x := 0) (by decide +kernel) rfl (by decide) ?_
  subst h
  exact w_ireturn (by decide +kernel) (by decide +kernel)
theorem t_364_528 {X : ak_X} {M : ak_M} {r : ak_O × ak_M} (hL : ab_lay M) (o1 : Option Value) (o2 : Option Value) (o3 : Option Value) (o4 : Option Value) (o5 : Option Value) (o6 : Option Value) (o7 : Option Value) (o8 : Option Value) (o9 : Option Value) (o10 : Option Value) (o11 : Option Value) (h : r = (.inl (some (.int 0)), M)) : sg X 364 (528, [some (.ref 1000000), o1, o2, o3, o4, o5, o6, o7, o8, o9, o10, o11], [], []) M r := by
  refine w_iconst (n := 529) (v := 0) (x := 0) (by decide +kernel) rfl (by decide) ?_
  subst h
  exact w_ireturn (by decide +kernel) (by decide +kernel)
