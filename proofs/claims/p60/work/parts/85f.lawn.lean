/-! the walk of cell, draw and acts, laid by wip/p60/lawn.py -/
theorem t_357 {X : ak_X} {M : ak_M} {r : ak_O × ak_M} (hL : ab_lay M) (x1 : Int32) (h : (if Int32.ofNat X.1 ≤ x1 then r = (.inl (some (.int ((8191 * x1) + 131071))), M) else (∃ i1 : Nat, ab_ix x1 i1 X.1 ∧ r = (.inl (some (.int (X.2.1 i1))), M)))) : rn X 357 [.ref 1000000, .int x1] M r := by
  refine w_rn (nL := 2) (l1 := [some (.ref 1000000), some (.int x1)]) (by decide +kernel) rfl rfl ?_
  refine w_iload_n (n := 1) (i := 1) (by decide +kernel) rfl rfl ?_
  refine w_aload_n (n := 2) (i := 0) (by decide +kernel) rfl rfl ?_
  refine w_slen (n := 3) hL (by decide +kernel) rfl ?_
  by_cases c2 : Int32.ofNat X.1 ≤ x1
  · rw [if_pos c2] at h
    refine w_icmp_ge_j (n := 12) (off := 9) (by decide +kernel) (by decide) c2 ?_
    refine w_sipush (n := 15) (v := 8191) (x := 8191) (by decide +kernel) rfl (by decide) ?_
    refine w_iload_n (n := 16) (i := 1) (by decide +kernel) rfl rfl ?_
    refine w_imul (n := 17) (by decide +kernel) rfl ?_
    refine x_ldcI (n := 19) (idx := 7) (v := 131071) (by decide +kernel) oO_357 (by decide +kernel) (by decide +kernel) rfl ?_
    refine w_iadd (n := 20) (by decide +kernel) rfl ?_
    subst h
    exact w_ireturn (by decide +kernel) (w_okI (by decide +kernel))
  · rw [if_neg c2] at h
    refine w_icmp_ge_n (n := 6) (off := 9) (by decide +kernel) rfl c2 ?_
    refine w_aload_n (n := 7) (i := 0) (by decide +kernel) rfl rfl ?_
    refine w_iload_n (n := 8) (i := 1) (by decide +kernel) rfl rfl ?_
    obtain ⟨i1, gi1, h⟩ := h
    refine w_sld (n := 9) hL (by decide +kernel) gi1 rfl ?_
    refine w_goto (n := 20) (off := 11) (by decide +kernel) (by decide) ?_
    subst h
    exact w_ireturn (by decide +kernel) (w_okI (by decide +kernel))
theorem t_358 {X : ak_X} {M : ak_M} {r : ak_O × ak_M} (hL : ab_lay M) (x1 : Int32) (x2 : Int32) (x3 : Int32) (h : (∃ (v2 : Int32) (M1 : ak_M), ab_lay M1 ∧ rn X 357 [.ref 1000000, .int x1] M (.inl (some (.int v2)), M1) ∧ ((x3 - x2) + 1 ≠ 0 ∧ r = (.inl (some (.int (x2 + ((v2 &&& 2147483647) - (v2 &&& 2147483647) / ((x3 - x2) + 1) * ((x3 - x2) + 1))))), M1)))) : rn X 358 [.ref 1000000, .int x1, .int x2, .int x3] M r := by
  refine w_rn (nL := 4) (l1 := [some (.ref 1000000), some (.int x1), some (.int x2), some (.int x3)]) (by decide +kernel) rfl rfl ?_
  refine w_iload_n (n := 1) (i := 2) (by decide +kernel) rfl rfl ?_
  refine w_aload_n (n := 2) (i := 0) (by decide +kernel) rfl rfl ?_
  refine w_iload_n (n := 3) (i := 1) (by decide +kernel) rfl rfl ?_
  obtain ⟨v2, M1, hLM1, hr4, h⟩ := h
  refine w_cS (n := 6) (idx := 8) (cal := 357) (na := 2) (nl := 2) (as := [.ref 1000000, .int x1]) (rest := [.int x2]) (by decide +kernel) (by decide +kernel) rfl rfl rfl (Nat.le_of_ble_eq_true rfl) rfl hr4 ?_
  refine x_ldcI (n := 8) (idx := 14) (v := 2147483647) (by decide +kernel) oO_358 (by decide +kernel) (by decide +kernel) rfl ?_
  refine w_iand (n := 9) (by decide +kernel) rfl ?_
  refine w_iload_n (n := 10) (i := 3) (by decide +kernel) rfl rfl ?_
  refine w_iload_n (n := 11) (i := 2) (by decide +kernel) rfl rfl ?_
  refine w_isub (n := 12) (by decide +kernel) rfl ?_
  refine w_iconst (n := 13) (v := 1) (x := 1) (by decide +kernel) rfl (by decide) ?_
  refine w_iadd (n := 14) (by decide +kernel) rfl ?_
  obtain ⟨g3, h⟩ := h
  refine w_irem (n := 15) (by decide +kernel) rfl g3 ?_
  refine w_iadd (n := 16) (by decide +kernel) rfl ?_
  subst h
  exact w_ireturn (by decide +kernel) (w_okI (by decide +kernel))
theorem t_363 {X : ak_X} {M : ak_M} {r : ak_O × ak_M} (hL : ab_lay M) (x2 : Int32) (x3 : Int32) (h : (∃ (v2 : Int32) (M1 : ak_M), ab_lay M1 ∧ rn X 358 [.ref 1000000, .int x2, .int 0, .int (x3 - 1)] M (.inl (some (.int v2)), M1) ∧ (∃ (v4 : Int32) (M3 : ak_M), ab_lay M3 ∧ rn X 358 [.ref 1000000, .int (x2 + 1), .int 0, .int 6] M1 (.inl (some (.int v4)), M3) ∧ (if v4 = 0 then ((∃ (v6 : Int32) (M5 : ak_M), ab_lay M5 ∧ rn X 95 [.ref 0, .int v2, .int 0] M3 (.inl (some (.int v6)), M5) ∧ (if v6 = 1 then ((∃ (v8 : Int32) (M7 : ak_M), ab_lay M7 ∧ rn X 129 [.ref 0, .int v2] M5 (.inl (some (.int v8)), M7) ∧ (if v8 ≤ 0 then r = (.inl none, M7) else (∃ (v10 : Int32) (M9 : ak_M), ab_lay M9 ∧ rn X 358 [.ref 1000000, .int (x2 + 2), .int 0, .int 1] M7 (.inl (some (.int v10)), M9) ∧ (if v10 = 0 then (∃ (v12 : Int32) (M11 : ak_M), ab_lay M11 ∧ rn X 358 [.ref 1000000, .int (x2 + 2), .int 60, .int 110] M9 (.inl (some (.int v12)), M11) ∧ (∃ (v14 : Int32) (M13 : ak_M), ab_lay M13 ∧ rn X 358 [.ref 1000000, .int (x2 + 3), .int 60, .int 110] M11 (.inl (some (.int v14)), M13) ∧ ((∃ (v16 : Int32) (M15 : ak_M), ab_lay M15 ∧ rn X 133 [.ref 0, .int v2, .int v12, .int v14] M13 (.inl (some (.int v16)), M15) ∧ r = (.inl none, M15)) ∨ ∃ (E18 : Nat) (M19 : ak_M), rn X 133 [.ref 0, .int v2, .int v12, .int v14] M13 (.inr E18, M19) ∧ r = (.inr E18, M19)))) else r = (.inl none, M9))))) ∨ ∃ (E27 : Nat) (M28 : ak_M), rn X 129 [.ref 0, .int v2] M5 (.inr E27, M28) ∧ r = (.inr E27, M28)) else r = (.inl none, M5))) ∨ ∃ (E32 : Nat) (M33 : ak_M), rn X 95 [.ref 0, .int v2, .int 0] M3 (.inr E32, M33) ∧ r = (.inr E32, M33)) else (if v4 = 1 then ((∃ (v36 : Int32) (M35 : ak_M), ab_lay M35 ∧ rn X 95 [.ref 0, .int v2, .int 0] M3 (.inl (some (.int v36)), M35) ∧ (if v36 = 1 then ((∃ (v38 : Int32) (M37 : ak_M), ab_lay M37 ∧ rn X 129 [.ref 0, .int v2] M35 (.inl (some (.int v38)), M37) ∧ (if v38 ≤ 0 then r = (.inl none, M37) else (∃ (v40 : Int32) (M39 : ak_M), ab_lay M39 ∧ rn X 358 [.ref 1000000, .int (x2 + 2), .int 0, .int 1] M37 (.inl (some (.int v40)), M39) ∧ (if v40 = 0 then (∃ (v42 : Int32) (M41 : ak_M), ab_lay M41 ∧ rn X 358 [.ref 1000000, .int (x2 + 2), .int 60, .int 110] M39 (.inl (some (.int v42)), M41) ∧ (∃ (v44 : Int32) (M43 : ak_M), ab_lay M43 ∧ rn X 358 [.ref 1000000, .int (x2 + 3), .int 60, .int 110] M41 (.inl (some (.int v44)), M43) ∧ ((∃ (v46 : Int32) (M45 : ak_M), ab_lay M45 ∧ rn X 133 [.ref 0, .int v2, .int v42, .int v44] M43 (.inl (some (.int v46)), M45) ∧ r = (.inl none, M45)) ∨ ∃ (E48 : Nat) (M49 : ak_M), rn X 133 [.ref 0, .int v2, .int v42, .int v44] M43 (.inr E48, M49) ∧ r = (.inr E48, M49)))) else r = (.inl none, M39))))) ∨ ∃ (E57 : Nat) (M58 : ak_M), rn X 129 [.ref 0, .int v2] M35 (.inr E57, M58) ∧ r = (.inr E57, M58)) else r = (.inl none, M35))) ∨ ∃ (E62 : Nat) (M63 : ak_M), rn X 95 [.ref 0, .int v2, .int 0] M3 (.inr E62, M63) ∧ r = (.inr E62, M63)) else (if v4 = 2 then (∃ (v66 : Int32) (M65 : ak_M), ab_lay M65 ∧ rn X 358 [.ref 1000000, .int (x2 + 2), .int ((-9)), .int 9] M3 (.inl (some (.int v66)), M65) ∧ ((∃ (v68 : Int32) (M67 : ak_M), ab_lay M67 ∧ rn X 130 [.ref 0, .int v2, .int v66] M65 (.inl (some (.int v68)), M67) ∧ r = (.inl none, M67)) ∨ ∃ (E70 : Nat) (M71 : ak_M), rn X 130 [.ref 0, .int v2, .int v66] M65 (.inr E70, M71) ∧ r = (.inr E70, M71))) else (if v4 = 3 then ((∃ (v75 : Int32) (M74 : ak_M), ab_lay M74 ∧ rn X 95 [.ref 0, .int v2, .int 0] M3 (.inl (some (.int v75)), M74) ∧ (if 2 ≤ v75 then r = (.inl none, M74) else (∃ (v77 : Int32) (M76 : ak_M), ab_lay M76 ∧ rn X 358 [.ref 1000000, .int (x2 + 2), .int 1, .int 90] M74 (.inl (some (.int v77)), M76) ∧ ((∃ (v79 : Int32) (M78 : ak_M), ab_lay M78 ∧ rn X 132 [.ref 0, .int v2, .int v77] M76 (.inl (some (.int v79)), M78) ∧ r = (.inl none, M78)) ∨ ∃ (E81 : Nat) (M82 : ak_M), rn X 132 [.ref 0, .int v2, .int v77] M76 (.inr E81, M82) ∧ r = (.inr E81, M82))))) ∨ ∃ (E87 : Nat) (M88 : ak_M), rn X 95 [.ref 0, .int v2, .int 0] M3 (.inr E87, M88) ∧ r = (.inr E87, M88)) else (if v4 = 4 then (∃ (v91 : Int32) (M90 : ak_M), ab_lay M90 ∧ rn X 358 [.ref 1000000, .int (x2 + 2), .int 60, .int 110] M3 (.inl (some (.int v91)), M90) ∧ (∃ (v93 : Int32) (M92 : ak_M), ab_lay M92 ∧ rn X 358 [.ref 1000000, .int (x2 + 3), .int 60, .int 110] M90 (.inl (some (.int v93)), M92) ∧ ((∃ (v95 : Int32) (M94 : ak_M), ab_lay M94 ∧ rn X 133 [.ref 0, .int v2, .int v91, .int v93] M92 (.inl (some (.int v95)), M94) ∧ r = (.inl none, M94)) ∨ ∃ (E97 : Nat) (M98 : ak_M), rn X 133 [.ref 0, .int v2, .int v91, .int v93] M92 (.inr E97, M98) ∧ r = (.inr E97, M98)))) else (if v4 = 5 then (∃ (v103 : Int32) (M102 : ak_M), ab_lay M102 ∧ rn X 358 [.ref 1000000, .int (x2 + 2), .int ((-9)), .int 9] M3 (.inl (some (.int v103)), M102) ∧ (∃ (v105 : Int32) (M104 : ak_M), ab_lay M104 ∧ rn X 358 [.ref 1000000, .int (x2 + 3), .int ((-9)), .int 9] M102 (.inl (some (.int v105)), M104) ∧ ((∃ (v107 : Int32) (M106 : ak_M), ab_lay M106 ∧ rn X 135 [.ref 0, .int 0, .int v103, .int v105] M104 (.inl (some (.int v107)), M106) ∧ r = (.inl none, M106)) ∨ ∃ (E109 : Nat) (M110 : ak_M), rn X 135 [.ref 0, .int 0, .int v103, .int v105] M104 (.inr E109, M110) ∧ r = (.inr E109, M110)))) else ((∃ (v115 : Int32) (M114 : ak_M), ab_lay M114 ∧ rn X 95 [.ref 0, .int v2, .int 0] M3 (.inl (some (.int v115)), M114) ∧ (if v115 = 0 then (∃ (v117 : Int32) (M116 : ak_M), ab_lay M116 ∧ rn X 358 [.ref 1000000, .int (x2 + 2), .int 0, .int 3] M114 (.inl (some (.int v117)), M116) ∧ (if v117 = 0 then ((∃ (v119 : Int32) (M118 : ak_M), ab_lay M118 ∧ rn X 131 [.ref 0, .int v2] M116 (.inl (some (.int v119)), M118) ∧ r = (.inl none, M118)) ∨ ∃ (E121 : Nat) (M122 : ak_M), rn X 131 [.ref 0, .int v2] M116 (.inr E121, M122) ∧ r = (.inr E121, M122)) else r = (.inl none, M116))) else r = (.inl none, M114))) ∨ ∃ (E128 : Nat) (M129 : ak_M), rn X 95 [.ref 0, .int v2, .int 0] M3 (.inr E128, M129) ∧ r = (.inr E128, M129))))))))))) : rn X 363 [.ref 0, .ref 1000000, .int x2, .int x3] M r := by
  refine w_rn (nL := 5) (l1 := [some (.ref 0), some (.ref 1000000), some (.int x2), some (.int x3), none]) (by decide +kernel) rfl rfl ?_
  refine w_aload_n (n := 1) (i := 1) (by decide +kernel) rfl rfl ?_
  refine w_iload_n (n := 2) (i := 2) (by decide +kernel) rfl rfl ?_
  refine w_iconst (n := 3) (v := 0) (x := 0) (by decide +kernel) rfl (by decide) ?_
  refine w_iload_n (n := 4) (i := 3) (by decide +kernel) rfl rfl ?_
  refine w_iconst (n := 5) (v := 1) (x := 1) (by decide +kernel) rfl (by decide) ?_
  refine w_isub (n := 6) (by decide +kernel) rfl ?_
  obtain ⟨v2, M1, hLM1, hr138, h⟩ := h
  refine w_cS (n := 9) (idx := 49) (cal := 358) (na := 4) (nl := 4) (as := [.ref 1000000, .int x2, .int 0, .int (x3 - 1)]) (rest := []) (by decide +kernel) (by decide +kernel) rfl rfl rfl (Nat.le_of_ble_eq_true rfl) rfl hr138 ?_
  refine w_istore (n := 11) (i := 4) (l1' := [some (.ref 0), some (.ref 1000000), some (.int x2), some (.int x3), some (.int v2)]) (l2' := []) (by decide +kernel) rfl (Nat.le_of_ble_eq_true rfl) rfl rfl ?_
  refine w_aload_n (n := 12) (i := 1) (by decide +kernel) rfl rfl ?_
  refine w_iload_n (n := 13) (i := 2) (by decide +kernel) rfl rfl ?_
  refine w_iconst (n := 14) (v := 1) (x := 1) (by decide +kernel) rfl (by decide) ?_
  refine w_iadd (n := 15) (by decide +kernel) rfl ?_
  refine w_iconst (n := 16) (v := 0) (x := 0) (by decide +kernel) rfl (by decide) ?_
  refine w_bipush (n := 18) (v := 6) (x := 6) (by decide +kernel) rfl (by decide) ?_
  obtain ⟨v4, M3, hLM3, hr137, h⟩ := h
  refine w_cS (n := 21) (idx := 49) (cal := 358) (na := 4) (nl := 4) (as := [.ref 1000000, .int (x2 + 1), .int 0, .int 6]) (rest := []) (by decide +kernel) (by decide +kernel) rfl rfl rfl (Nat.le_of_ble_eq_true rfl) rfl hr137 ?_
  by_cases c131 : v4 = 0
  · rw [if_pos c131] at h
    refine w_tsw (n := 60) (d := 218) (lo := 0) (hi := 5) (offs := #[39, 39, 103, 124, 155, 187]) (o := 39) (by decide +kernel) (by rw [c131]; decide) (by decide) ?_
    refine w_aload_n (n := 61) (i := 0) (by decide +kernel) rfl rfl ?_
    refine w_iload (n := 63) (i := 4) (by decide +kernel) rfl rfl ?_
    refine w_iconst (n := 64) (v := 0) (x := 0) (by decide +kernel) rfl (by decide) ?_
    rcases h with h | ⟨E32, M33, hr34, rfl⟩
    · obtain ⟨v6, M5, hLM5, hr31, h⟩ := h
      refine w_cV (n := 67) (idx := 101) (cal := 95) (na := 2) (nl := 3) (as := [.int v2, .int 0]) (rest := []) hLM3 (by decide +kernel) (by decide +kernel) (at_0) (by decide +kernel) rfl rfl rfl (Nat.le_of_ble_eq_true rfl) rfl hr31 ?_
      refine w_iconst (n := 68) (v := 1) (x := 1) (by decide +kernel) rfl (by decide) ?_
      by_cases c30 : v6 = 1
      · rw [if_pos c30] at h
        refine w_icmp_ne_n (n := 71) (off := 200) (by decide +kernel) rfl c30 ?_
        refine w_aload_n (n := 72) (i := 0) (by decide +kernel) rfl rfl ?_
        refine w_iload (n := 74) (i := 4) (by decide +kernel) rfl rfl ?_
        rcases h with h | ⟨E27, M28, hr29, rfl⟩
        · obtain ⟨v8, M7, hLM7, hr26, h⟩ := h
          refine w_cV (n := 77) (idx := 137) (cal := 129) (na := 1) (nl := 2) (as := [.int v2]) (rest := []) hLM5 (by decide +kernel) (by decide +kernel) (at_0) (by decide +kernel) rfl rfl rfl (Nat.le_of_ble_eq_true rfl) rfl hr26 ?_
          by_cases c25 : v8 ≤ 0
          · rw [if_pos c25] at h
            refine w_if_le_j (n := 268) (off := 191) (by decide +kernel) (by decide) c25 ?_
            subst h
            exact w_vreturn (by decide +kernel) (by decide +kernel)
          · rw [if_neg c25] at h
            refine w_if_le_n (n := 80) (off := 191) (by decide +kernel) rfl c25 ?_
            refine w_aload_n (n := 81) (i := 1) (by decide +kernel) rfl rfl ?_
            refine w_iload_n (n := 82) (i := 2) (by decide +kernel) rfl rfl ?_
            refine w_iconst (n := 83) (v := 2) (x := 2) (by decide +kernel) rfl (by decide) ?_
            refine w_iadd (n := 84) (by decide +kernel) rfl ?_
            refine w_iconst (n := 85) (v := 0) (x := 0) (by decide +kernel) rfl (by decide) ?_
            refine w_iconst (n := 86) (v := 1) (x := 1) (by decide +kernel) rfl (by decide) ?_
            obtain ⟨v10, M9, hLM9, hr24, h⟩ := h
            refine w_cS (n := 89) (idx := 49) (cal := 358) (na := 4) (nl := 4) (as := [.ref 1000000, .int (x2 + 2), .int 0, .int 1]) (rest := []) (by decide +kernel) (by decide +kernel) rfl rfl rfl (Nat.le_of_ble_eq_true rfl) rfl hr24 ?_
            by_cases c23 : v10 = 0
            · rw [if_pos c23] at h
              refine w_if_ne_n (n := 92) (off := 179) (by decide +kernel) rfl c23 ?_
              refine w_aload_n (n := 93) (i := 0) (by decide +kernel) rfl rfl ?_
              refine w_iload (n := 95) (i := 4) (by decide +kernel) rfl rfl ?_
              refine w_aload_n (n := 96) (i := 1) (by decide +kernel) rfl rfl ?_
              refine w_iload_n (n := 97) (i := 2) (by decide +kernel) rfl rfl ?_
              refine w_iconst (n := 98) (v := 2) (x := 2) (by decide +kernel) rfl (by decide) ?_
              refine w_iadd (n := 99) (by decide +kernel) rfl ?_
              refine w_bipush (n := 101) (v := 60) (x := 60) (by decide +kernel) rfl (by decide) ?_
              refine w_bipush (n := 103) (v := 110) (x := 110) (by decide +kernel) rfl (by decide) ?_
              obtain ⟨v12, M11, hLM11, hr22, h⟩ := h
              refine w_cS (n := 106) (idx := 49) (cal := 358) (na := 4) (nl := 4) (as := [.ref 1000000, .int (x2 + 2), .int 60, .int 110]) (rest := [.int v2, .ref 0]) (by decide +kernel) (by decide +kernel) rfl rfl rfl (Nat.le_of_ble_eq_true rfl) rfl hr22 ?_
              refine w_aload_n (n := 107) (i := 1) (by decide +kernel) rfl rfl ?_
              refine w_iload_n (n := 108) (i := 2) (by decide +kernel) rfl rfl ?_
              refine w_iconst (n := 109) (v := 3) (x := 3) (by decide +kernel) rfl (by decide) ?_
              refine w_iadd (n := 110) (by decide +kernel) rfl ?_
              refine w_bipush (n := 112) (v := 60) (x := 60) (by decide +kernel) rfl (by decide) ?_
              refine w_bipush (n := 114) (v := 110) (x := 110) (by decide +kernel) rfl (by decide) ?_
              obtain ⟨v14, M13, hLM13, hr21, h⟩ := h
              refine w_cS (n := 117) (idx := 49) (cal := 358) (na := 4) (nl := 4) (as := [.ref 1000000, .int (x2 + 3), .int 60, .int 110]) (rest := [.int v12, .int v2, .ref 0]) (by decide +kernel) (by decide +kernel) rfl rfl rfl (Nat.le_of_ble_eq_true rfl) rfl hr21 ?_
              rcases h with h | ⟨E18, M19, hr20, rfl⟩
              · obtain ⟨v16, M15, hLM15, hr17, h⟩ := h
                refine w_cV (n := 120) (idx := 140) (cal := 133) (na := 3) (nl := 4) (as := [.int v2, .int v12, .int v14]) (rest := []) hLM13 (by decide +kernel) (by decide +kernel) (at_0) (by decide +kernel) rfl rfl rfl (Nat.le_of_ble_eq_true rfl) rfl hr17 ?_
                refine w_pop_int (n := 121) (by decide +kernel) rfl ?_
                refine w_goto (n := 268) (off := 147) (by decide +kernel) (by decide) ?_
                subst h
                exact w_vreturn (by decide +kernel) (by decide +kernel)
              · exact w_tV (idx := 140) (cal := 133) (na := 3) (nl := 4) (as := [.int v2, .int v12, .int v14]) (rest := []) hLM13 (by decide +kernel) (by decide +kernel) (at_0) (by decide +kernel) rfl rfl rfl (Nat.le_of_ble_eq_true rfl) (by decide +kernel) (by decide +kernel) hr20
            · rw [if_neg c23] at h
              refine w_if_ne_j (n := 268) (off := 179) (by decide +kernel) (by decide) c23 ?_
              subst h
              exact w_vreturn (by decide +kernel) (by decide +kernel)
        · exact w_tV (idx := 137) (cal := 129) (na := 1) (nl := 2) (as := [.int v2]) (rest := []) hLM5 (by decide +kernel) (by decide +kernel) (at_0) (by decide +kernel) rfl rfl rfl (Nat.le_of_ble_eq_true rfl) (by decide +kernel) (by decide +kernel) hr29
      · rw [if_neg c30] at h
        refine w_icmp_ne_j (n := 268) (off := 200) (by decide +kernel) (by decide) c30 ?_
        subst h
        exact w_vreturn (by decide +kernel) (by decide +kernel)
    · exact w_tV (idx := 101) (cal := 95) (na := 2) (nl := 3) (as := [.int v2, .int 0]) (rest := []) hLM3 (by decide +kernel) (by decide +kernel) (at_0) (by decide +kernel) rfl rfl rfl (Nat.le_of_ble_eq_true rfl) (by decide +kernel) (by decide +kernel) hr34
  · rw [if_neg c131] at h
    by_cases c132 : v4 = 1
    · rw [if_pos c132] at h
      refine w_tsw (n := 60) (d := 218) (lo := 0) (hi := 5) (offs := #[39, 39, 103, 124, 155, 187]) (o := 39) (by decide +kernel) (by rw [c132]; decide) (by decide) ?_
      refine w_aload_n (n := 61) (i := 0) (by decide +kernel) rfl rfl ?_
      refine w_iload (n := 63) (i := 4) (by decide +kernel) rfl rfl ?_
      refine w_iconst (n := 64) (v := 0) (x := 0) (by decide +kernel) rfl (by decide) ?_
      rcases h with h | ⟨E62, M63, hr64, rfl⟩
      · obtain ⟨v36, M35, hLM35, hr61, h⟩ := h
        refine w_cV (n := 67) (idx := 101) (cal := 95) (na := 2) (nl := 3) (as := [.int v2, .int 0]) (rest := []) hLM3 (by decide +kernel) (by decide +kernel) (at_0) (by decide +kernel) rfl rfl rfl (Nat.le_of_ble_eq_true rfl) rfl hr61 ?_
        refine w_iconst (n := 68) (v := 1) (x := 1) (by decide +kernel) rfl (by decide) ?_
        by_cases c60 : v36 = 1
        · rw [if_pos c60] at h
          refine w_icmp_ne_n (n := 71) (off := 200) (by decide +kernel) rfl c60 ?_
          refine w_aload_n (n := 72) (i := 0) (by decide +kernel) rfl rfl ?_
          refine w_iload (n := 74) (i := 4) (by decide +kernel) rfl rfl ?_
          rcases h with h | ⟨E57, M58, hr59, rfl⟩
          · obtain ⟨v38, M37, hLM37, hr56, h⟩ := h
            refine w_cV (n := 77) (idx := 137) (cal := 129) (na := 1) (nl := 2) (as := [.int v2]) (rest := []) hLM35 (by decide +kernel) (by decide +kernel) (at_0) (by decide +kernel) rfl rfl rfl (Nat.le_of_ble_eq_true rfl) rfl hr56 ?_
            by_cases c55 : v38 ≤ 0
            · rw [if_pos c55] at h
              refine w_if_le_j (n := 268) (off := 191) (by decide +kernel) (by decide) c55 ?_
              subst h
              exact w_vreturn (by decide +kernel) (by decide +kernel)
            · rw [if_neg c55] at h
              refine w_if_le_n (n := 80) (off := 191) (by decide +kernel) rfl c55 ?_
              refine w_aload_n (n := 81) (i := 1) (by decide +kernel) rfl rfl ?_
              refine w_iload_n (n := 82) (i := 2) (by decide +kernel) rfl rfl ?_
              refine w_iconst (n := 83) (v := 2) (x := 2) (by decide +kernel) rfl (by decide) ?_
              refine w_iadd (n := 84) (by decide +kernel) rfl ?_
              refine w_iconst (n := 85) (v := 0) (x := 0) (by decide +kernel) rfl (by decide) ?_
              refine w_iconst (n := 86) (v := 1) (x := 1) (by decide +kernel) rfl (by decide) ?_
              obtain ⟨v40, M39, hLM39, hr54, h⟩ := h
              refine w_cS (n := 89) (idx := 49) (cal := 358) (na := 4) (nl := 4) (as := [.ref 1000000, .int (x2 + 2), .int 0, .int 1]) (rest := []) (by decide +kernel) (by decide +kernel) rfl rfl rfl (Nat.le_of_ble_eq_true rfl) rfl hr54 ?_
              by_cases c53 : v40 = 0
              · rw [if_pos c53] at h
                refine w_if_ne_n (n := 92) (off := 179) (by decide +kernel) rfl c53 ?_
                refine w_aload_n (n := 93) (i := 0) (by decide +kernel) rfl rfl ?_
                refine w_iload (n := 95) (i := 4) (by decide +kernel) rfl rfl ?_
                refine w_aload_n (n := 96) (i := 1) (by decide +kernel) rfl rfl ?_
                refine w_iload_n (n := 97) (i := 2) (by decide +kernel) rfl rfl ?_
                refine w_iconst (n := 98) (v := 2) (x := 2) (by decide +kernel) rfl (by decide) ?_
                refine w_iadd (n := 99) (by decide +kernel) rfl ?_
                refine w_bipush (n := 101) (v := 60) (x := 60) (by decide +kernel) rfl (by decide) ?_
                refine w_bipush (n := 103) (v := 110) (x := 110) (by decide +kernel) rfl (by decide) ?_
                obtain ⟨v42, M41, hLM41, hr52, h⟩ := h
                refine w_cS (n := 106) (idx := 49) (cal := 358) (na := 4) (nl := 4) (as := [.ref 1000000, .int (x2 + 2), .int 60, .int 110]) (rest := [.int v2, .ref 0]) (by decide +kernel) (by decide +kernel) rfl rfl rfl (Nat.le_of_ble_eq_true rfl) rfl hr52 ?_
                refine w_aload_n (n := 107) (i := 1) (by decide +kernel) rfl rfl ?_
                refine w_iload_n (n := 108) (i := 2) (by decide +kernel) rfl rfl ?_
                refine w_iconst (n := 109) (v := 3) (x := 3) (by decide +kernel) rfl (by decide) ?_
                refine w_iadd (n := 110) (by decide +kernel) rfl ?_
                refine w_bipush (n := 112) (v := 60) (x := 60) (by decide +kernel) rfl (by decide) ?_
                refine w_bipush (n := 114) (v := 110) (x := 110) (by decide +kernel) rfl (by decide) ?_
                obtain ⟨v44, M43, hLM43, hr51, h⟩ := h
                refine w_cS (n := 117) (idx := 49) (cal := 358) (na := 4) (nl := 4) (as := [.ref 1000000, .int (x2 + 3), .int 60, .int 110]) (rest := [.int v42, .int v2, .ref 0]) (by decide +kernel) (by decide +kernel) rfl rfl rfl (Nat.le_of_ble_eq_true rfl) rfl hr51 ?_
                rcases h with h | ⟨E48, M49, hr50, rfl⟩
                · obtain ⟨v46, M45, hLM45, hr47, h⟩ := h
                  refine w_cV (n := 120) (idx := 140) (cal := 133) (na := 3) (nl := 4) (as := [.int v2, .int v42, .int v44]) (rest := []) hLM43 (by decide +kernel) (by decide +kernel) (at_0) (by decide +kernel) rfl rfl rfl (Nat.le_of_ble_eq_true rfl) rfl hr47 ?_
                  refine w_pop_int (n := 121) (by decide +kernel) rfl ?_
                  refine w_goto (n := 268) (off := 147) (by decide +kernel) (by decide) ?_
                  subst h
                  exact w_vreturn (by decide +kernel) (by decide +kernel)
                · exact w_tV (idx := 140) (cal := 133) (na := 3) (nl := 4) (as := [.int v2, .int v42, .int v44]) (rest := []) hLM43 (by decide +kernel) (by decide +kernel) (at_0) (by decide +kernel) rfl rfl rfl (Nat.le_of_ble_eq_true rfl) (by decide +kernel) (by decide +kernel) hr50
              · rw [if_neg c53] at h
                refine w_if_ne_j (n := 268) (off := 179) (by decide +kernel) (by decide) c53 ?_
                subst h
                exact w_vreturn (by decide +kernel) (by decide +kernel)
          · exact w_tV (idx := 137) (cal := 129) (na := 1) (nl := 2) (as := [.int v2]) (rest := []) hLM35 (by decide +kernel) (by decide +kernel) (at_0) (by decide +kernel) rfl rfl rfl (Nat.le_of_ble_eq_true rfl) (by decide +kernel) (by decide +kernel) hr59
        · rw [if_neg c60] at h
          refine w_icmp_ne_j (n := 268) (off := 200) (by decide +kernel) (by decide) c60 ?_
          subst h
          exact w_vreturn (by decide +kernel) (by decide +kernel)
      · exact w_tV (idx := 101) (cal := 95) (na := 2) (nl := 3) (as := [.int v2, .int 0]) (rest := []) hLM3 (by decide +kernel) (by decide +kernel) (at_0) (by decide +kernel) rfl rfl rfl (Nat.le_of_ble_eq_true rfl) (by decide +kernel) (by decide +kernel) hr64
    · rw [if_neg c132] at h
      by_cases c133 : v4 = 2
      · rw [if_pos c133] at h
        refine w_tsw (n := 124) (d := 218) (lo := 0) (hi := 5) (offs := #[39, 39, 103, 124, 155, 187]) (o := 103) (by decide +kernel) (by rw [c133]; decide) (by decide) ?_
        refine w_aload_n (n := 125) (i := 0) (by decide +kernel) rfl rfl ?_
        refine w_iload (n := 127) (i := 4) (by decide +kernel) rfl rfl ?_
        refine w_aload_n (n := 128) (i := 1) (by decide +kernel) rfl rfl ?_
        refine w_iload_n (n := 129) (i := 2) (by decide +kernel) rfl rfl ?_
        refine w_iconst (n := 130) (v := 2) (x := 2) (by decide +kernel) rfl (by decide) ?_
        refine w_iadd (n := 131) (by decide +kernel) rfl ?_
        refine w_bipush (n := 133) (v := -9) (x := (-9)) (by decide +kernel) rfl (by decide) ?_
        refine w_bipush (n := 135) (v := 9) (x := 9) (by decide +kernel) rfl (by decide) ?_
        obtain ⟨v66, M65, hLM65, hr73, h⟩ := h
        refine w_cS (n := 138) (idx := 49) (cal := 358) (na := 4) (nl := 4) (as := [.ref 1000000, .int (x2 + 2), .int ((-9)), .int 9]) (rest := [.int v2, .ref 0]) (by decide +kernel) (by decide +kernel) rfl rfl rfl (Nat.le_of_ble_eq_true rfl) rfl hr73 ?_
        rcases h with h | ⟨E70, M71, hr72, rfl⟩
        · obtain ⟨v68, M67, hLM67, hr69, h⟩ := h
          refine w_cV (n := 141) (idx := 143) (cal := 130) (na := 2) (nl := 3) (as := [.int v2, .int v66]) (rest := []) hLM65 (by decide +kernel) (by decide +kernel) (at_0) (by decide +kernel) rfl rfl rfl (Nat.le_of_ble_eq_true rfl) rfl hr69 ?_
          refine w_pop_int (n := 142) (by decide +kernel) rfl ?_
          refine w_goto (n := 268) (off := 126) (by decide +kernel) (by decide) ?_
          subst h
          exact w_vreturn (by decide +kernel) (by decide +kernel)
        · exact w_tV (idx := 143) (cal := 130) (na := 2) (nl := 3) (as := [.int v2, .int v66]) (rest := []) hLM65 (by decide +kernel) (by decide +kernel) (at_0) (by decide +kernel) rfl rfl rfl (Nat.le_of_ble_eq_true rfl) (by decide +kernel) (by decide +kernel) hr72
      · rw [if_neg c133] at h
        by_cases c134 : v4 = 3
        · rw [if_pos c134] at h
          refine w_tsw (n := 145) (d := 218) (lo := 0) (hi := 5) (offs := #[39, 39, 103, 124, 155, 187]) (o := 124) (by decide +kernel) (by rw [c134]; decide) (by decide) ?_
          refine w_aload_n (n := 146) (i := 0) (by decide +kernel) rfl rfl ?_
          refine w_iload (n := 148) (i := 4) (by decide +kernel) rfl rfl ?_
          refine w_iconst (n := 149) (v := 0) (x := 0) (by decide +kernel) rfl (by decide) ?_
          rcases h with h | ⟨E87, M88, hr89, rfl⟩
          · obtain ⟨v75, M74, hLM74, hr86, h⟩ := h
            refine w_cV (n := 152) (idx := 101) (cal := 95) (na := 2) (nl := 3) (as := [.int v2, .int 0]) (rest := []) hLM3 (by decide +kernel) (by decide +kernel) (at_0) (by decide +kernel) rfl rfl rfl (Nat.le_of_ble_eq_true rfl) rfl hr86 ?_
            refine w_iconst (n := 153) (v := 2) (x := 2) (by decide +kernel) rfl (by decide) ?_
            by_cases c85 : 2 ≤ v75
            · rw [if_pos c85] at h
              refine w_icmp_ge_j (n := 268) (off := 115) (by decide +kernel) (by decide) c85 ?_
              subst h
              exact w_vreturn (by decide +kernel) (by decide +kernel)
            · rw [if_neg c85] at h
              refine w_icmp_ge_n (n := 156) (off := 115) (by decide +kernel) rfl c85 ?_
              refine w_aload_n (n := 157) (i := 0) (by decide +kernel) rfl rfl ?_
              refine w_iload (n := 159) (i := 4) (by decide +kernel) rfl rfl ?_
              refine w_aload_n (n := 160) (i := 1) (by decide +kernel) rfl rfl ?_
              refine w_iload_n (n := 161) (i := 2) (by decide +kernel) rfl rfl ?_
              refine w_iconst (n := 162) (v := 2) (x := 2) (by decide +kernel) rfl (by decide) ?_
              refine w_iadd (n := 163) (by decide +kernel) rfl ?_
              refine w_iconst (n := 164) (v := 1) (x := 1) (by decide +kernel) rfl (by decide) ?_
              refine w_bipush (n := 166) (v := 90) (x := 90) (by decide +kernel) rfl (by decide) ?_
              obtain ⟨v77, M76, hLM76, hr84, h⟩ := h
              refine w_cS (n := 169) (idx := 49) (cal := 358) (na := 4) (nl := 4) (as := [.ref 1000000, .int (x2 + 2), .int 1, .int 90]) (rest := [.int v2, .ref 0]) (by decide +kernel) (by decide +kernel) rfl rfl rfl (Nat.le_of_ble_eq_true rfl) rfl hr84 ?_
              rcases h with h | ⟨E81, M82, hr83, rfl⟩
              · obtain ⟨v79, M78, hLM78, hr80, h⟩ := h
                refine w_cV (n := 172) (idx := 146) (cal := 132) (na := 2) (nl := 3) (as := [.int v2, .int v77]) (rest := []) hLM76 (by decide +kernel) (by decide +kernel) (at_0) (by decide +kernel) rfl rfl rfl (Nat.le_of_ble_eq_true rfl) rfl hr80 ?_
                refine w_pop_int (n := 173) (by decide +kernel) rfl ?_
                refine w_goto (n := 268) (off := 95) (by decide +kernel) (by decide) ?_
                subst h
                exact w_vreturn (by decide +kernel) (by decide +kernel)
              · exact w_tV (idx := 146) (cal := 132) (na := 2) (nl := 3) (as := [.int v2, .int v77]) (rest := []) hLM76 (by decide +kernel) (by decide +kernel) (at_0) (by decide +kernel) rfl rfl rfl (Nat.le_of_ble_eq_true rfl) (by decide +kernel) (by decide +kernel) hr83
          · exact w_tV (idx := 101) (cal := 95) (na := 2) (nl := 3) (as := [.int v2, .int 0]) (rest := []) hLM3 (by decide +kernel) (by decide +kernel) (at_0) (by decide +kernel) rfl rfl rfl (Nat.le_of_ble_eq_true rfl) (by decide +kernel) (by decide +kernel) hr89
        · rw [if_neg c134] at h
          by_cases c135 : v4 = 4
          · rw [if_pos c135] at h
            refine w_tsw (n := 176) (d := 218) (lo := 0) (hi := 5) (offs := #[39, 39, 103, 124, 155, 187]) (o := 155) (by decide +kernel) (by rw [c135]; decide) (by decide) ?_
            refine w_aload_n (n := 177) (i := 0) (by decide +kernel) rfl rfl ?_
            refine w_iload (n := 179) (i := 4) (by decide +kernel) rfl rfl ?_
            refine w_aload_n (n := 180) (i := 1) (by decide +kernel) rfl rfl ?_
            refine w_iload_n (n := 181) (i := 2) (by decide +kernel) rfl rfl ?_
            refine w_iconst (n := 182) (v := 2) (x := 2) (by decide +kernel) rfl (by decide) ?_
            refine w_iadd (n := 183) (by decide +kernel) rfl ?_
            refine w_bipush (n := 185) (v := 60) (x := 60) (by decide +kernel) rfl (by decide) ?_
            refine w_bipush (n := 187) (v := 110) (x := 110) (by decide +kernel) rfl (by decide) ?_
            obtain ⟨v91, M90, hLM90, hr101, h⟩ := h
            refine w_cS (n := 190) (idx := 49) (cal := 358) (na := 4) (nl := 4) (as := [.ref 1000000, .int (x2 + 2), .int 60, .int 110]) (rest := [.int v2, .ref 0]) (by decide +kernel) (by decide +kernel) rfl rfl rfl (Nat.le_of_ble_eq_true rfl) rfl hr101 ?_
            refine w_aload_n (n := 191) (i := 1) (by decide +kernel) rfl rfl ?_
            refine w_iload_n (n := 192) (i := 2) (by decide +kernel) rfl rfl ?_
            refine w_iconst (n := 193) (v := 3) (x := 3) (by decide +kernel) rfl (by decide) ?_
            refine w_iadd (n := 194) (by decide +kernel) rfl ?_
            refine w_bipush (n := 196) (v := 60) (x := 60) (by decide +kernel) rfl (by decide) ?_
            refine w_bipush (n := 198) (v := 110) (x := 110) (by decide +kernel) rfl (by decide) ?_
            obtain ⟨v93, M92, hLM92, hr100, h⟩ := h
            refine w_cS (n := 201) (idx := 49) (cal := 358) (na := 4) (nl := 4) (as := [.ref 1000000, .int (x2 + 3), .int 60, .int 110]) (rest := [.int v91, .int v2, .ref 0]) (by decide +kernel) (by decide +kernel) rfl rfl rfl (Nat.le_of_ble_eq_true rfl) rfl hr100 ?_
            rcases h with h | ⟨E97, M98, hr99, rfl⟩
            · obtain ⟨v95, M94, hLM94, hr96, h⟩ := h
              refine w_cV (n := 204) (idx := 140) (cal := 133) (na := 3) (nl := 4) (as := [.int v2, .int v91, .int v93]) (rest := []) hLM92 (by decide +kernel) (by decide +kernel) (at_0) (by decide +kernel) rfl rfl rfl (Nat.le_of_ble_eq_true rfl) rfl hr96 ?_
              refine w_pop_int (n := 205) (by decide +kernel) rfl ?_
              refine w_goto (n := 268) (off := 63) (by decide +kernel) (by decide) ?_
              subst h
              exact w_vreturn (by decide +kernel) (by decide +kernel)
            · exact w_tV (idx := 140) (cal := 133) (na := 3) (nl := 4) (as := [.int v2, .int v91, .int v93]) (rest := []) hLM92 (by decide +kernel) (by decide +kernel) (at_0) (by decide +kernel) rfl rfl rfl (Nat.le_of_ble_eq_true rfl) (by decide +kernel) (by decide +kernel) hr99
          · rw [if_neg c135] at h
            by_cases c136 : v4 = 5
            · rw [if_pos c136] at h
              refine w_tsw (n := 208) (d := 218) (lo := 0) (hi := 5) (offs := #[39, 39, 103, 124, 155, 187]) (o := 187) (by decide +kernel) (by rw [c136]; decide) (by decide) ?_
              refine w_aload_n (n := 209) (i := 0) (by decide +kernel) rfl rfl ?_
              refine w_iconst (n := 210) (v := 0) (x := 0) (by decide +kernel) rfl (by decide) ?_
              refine w_aload_n (n := 211) (i := 1) (by decide +kernel) rfl rfl ?_
              refine w_iload_n (n := 212) (i := 2) (by decide +kernel) rfl rfl ?_
              refine w_iconst (n := 213) (v := 2) (x := 2) (by decide +kernel) rfl (by decide) ?_
              refine w_iadd (n := 214) (by decide +kernel) rfl ?_
              refine w_bipush (n := 216) (v := -9) (x := (-9)) (by decide +kernel) rfl (by decide) ?_
              refine w_bipush (n := 218) (v := 9) (x := 9) (by decide +kernel) rfl (by decide) ?_
              obtain ⟨v103, M102, hLM102, hr113, h⟩ := h
              refine w_cS (n := 221) (idx := 49) (cal := 358) (na := 4) (nl := 4) (as := [.ref 1000000, .int (x2 + 2), .int ((-9)), .int 9]) (rest := [.int 0, .ref 0]) (by decide +kernel) (by decide +kernel) rfl rfl rfl (Nat.le_of_ble_eq_true rfl) rfl hr113 ?_
              refine w_aload_n (n := 222) (i := 1) (by decide +kernel) rfl rfl ?_
              refine w_iload_n (n := 223) (i := 2) (by decide +kernel) rfl rfl ?_
              refine w_iconst (n := 224) (v := 3) (x := 3) (by decide +kernel) rfl (by decide) ?_
              refine w_iadd (n := 225) (by decide +kernel) rfl ?_
              refine w_bipush (n := 227) (v := -9) (x := (-9)) (by decide +kernel) rfl (by decide) ?_
              refine w_bipush (n := 229) (v := 9) (x := 9) (by decide +kernel) rfl (by decide) ?_
              obtain ⟨v105, M104, hLM104, hr112, h⟩ := h
              refine w_cS (n := 232) (idx := 49) (cal := 358) (na := 4) (nl := 4) (as := [.ref 1000000, .int (x2 + 3), .int ((-9)), .int 9]) (rest := [.int v103, .int 0, .ref 0]) (by decide +kernel) (by decide +kernel) rfl rfl rfl (Nat.le_of_ble_eq_true rfl) rfl hr112 ?_
              rcases h with h | ⟨E109, M110, hr111, rfl⟩
              · obtain ⟨v107, M106, hLM106, hr108, h⟩ := h
                refine w_cV (n := 235) (idx := 149) (cal := 135) (na := 3) (nl := 4) (as := [.int 0, .int v103, .int v105]) (rest := []) hLM104 (by decide +kernel) (by decide +kernel) (at_0) (by decide +kernel) rfl rfl rfl (Nat.le_of_ble_eq_true rfl) rfl hr108 ?_
                refine w_pop_int (n := 236) (by decide +kernel) rfl ?_
                refine w_goto (n := 268) (off := 32) (by decide +kernel) (by decide) ?_
                subst h
                exact w_vreturn (by decide +kernel) (by decide +kernel)
              · exact w_tV (idx := 149) (cal := 135) (na := 3) (nl := 4) (as := [.int 0, .int v103, .int v105]) (rest := []) hLM104 (by decide +kernel) (by decide +kernel) (at_0) (by decide +kernel) rfl rfl rfl (Nat.le_of_ble_eq_true rfl) (by decide +kernel) (by decide +kernel) hr111
            · rw [if_neg c136] at h
              refine w_tsw (n := 239) (d := 218) (lo := 0) (hi := 5) (offs := #[39, 39, 103, 124, 155, 187]) (o := 218) (by decide +kernel) (w_swd (by intro j h1 h2; rcases (show j = 0 ∨ j = 1 ∨ j = 2 ∨ j = 3 ∨ j = 4 ∨ j = 5 by omega) with rfl | rfl | rfl | rfl | rfl | rfl; all_goals first | exact fun e => c131 (e.trans (by decide)) | exact fun e => c132 (e.trans (by decide)) | exact fun e => c133 (e.trans (by decide)) | exact fun e => c134 (e.trans (by decide)) | exact fun e => c135 (e.trans (by decide)) | exact fun e => c136 (e.trans (by decide)))) (by decide) ?_
              refine w_aload_n (n := 240) (i := 0) (by decide +kernel) rfl rfl ?_
              refine w_iload (n := 242) (i := 4) (by decide +kernel) rfl rfl ?_
              refine w_iconst (n := 243) (v := 0) (x := 0) (by decide +kernel) rfl (by decide) ?_
              rcases h with h | ⟨E128, M129, hr130, rfl⟩
              · obtain ⟨v115, M114, hLM114, hr127, h⟩ := h
                refine w_cV (n := 246) (idx := 101) (cal := 95) (na := 2) (nl := 3) (as := [.int v2, .int 0]) (rest := []) hLM3 (by decide +kernel) (by decide +kernel) (at_0) (by decide +kernel) rfl rfl rfl (Nat.le_of_ble_eq_true rfl) rfl hr127 ?_
                by_cases c126 : v115 = 0
                · rw [if_pos c126] at h
                  refine w_if_ne_n (n := 249) (off := 22) (by decide +kernel) rfl c126 ?_
                  refine w_aload_n (n := 250) (i := 1) (by decide +kernel) rfl rfl ?_
                  refine w_iload_n (n := 251) (i := 2) (by decide +kernel) rfl rfl ?_
                  refine w_iconst (n := 252) (v := 2) (x := 2) (by decide +kernel) rfl (by decide) ?_
                  refine w_iadd (n := 253) (by decide +kernel) rfl ?_
                  refine w_iconst (n := 254) (v := 0) (x := 0) (by decide +kernel) rfl (by decide) ?_
                  refine w_iconst (n := 255) (v := 3) (x := 3) (by decide +kernel) rfl (by decide) ?_
                  obtain ⟨v117, M116, hLM116, hr125, h⟩ := h
                  refine w_cS (n := 258) (idx := 49) (cal := 358) (na := 4) (nl := 4) (as := [.ref 1000000, .int (x2 + 2), .int 0, .int 3]) (rest := []) (by decide +kernel) (by decide +kernel) rfl rfl rfl (Nat.le_of_ble_eq_true rfl) rfl hr125 ?_
                  by_cases c124 : v117 = 0
                  · rw [if_pos c124] at h
                    refine w_if_ne_n (n := 261) (off := 10) (by decide +kernel) rfl c124 ?_
                    refine w_aload_n (n := 262) (i := 0) (by decide +kernel) rfl rfl ?_
                    refine w_iload (n := 264) (i := 4) (by decide +kernel) rfl rfl ?_
                    rcases h with h | ⟨E121, M122, hr123, rfl⟩
                    · obtain ⟨v119, M118, hLM118, hr120, h⟩ := h
                      refine w_cV (n := 267) (idx := 152) (cal := 131) (na := 1) (nl := 2) (as := [.int v2]) (rest := []) hLM116 (by decide +kernel) (by decide +kernel) (at_0) (by decide +kernel) rfl rfl rfl (Nat.le_of_ble_eq_true rfl) rfl hr120 ?_
                      refine w_pop_int (n := 268) (by decide +kernel) rfl ?_
                      subst h
                      exact w_vreturn (by decide +kernel) (by decide +kernel)
                    · exact w_tV (idx := 152) (cal := 131) (na := 1) (nl := 2) (as := [.int v2]) (rest := []) hLM116 (by decide +kernel) (by decide +kernel) (at_0) (by decide +kernel) rfl rfl rfl (Nat.le_of_ble_eq_true rfl) (by decide +kernel) (by decide +kernel) hr123
                  · rw [if_neg c124] at h
                    refine w_if_ne_j (n := 268) (off := 10) (by decide +kernel) (by decide) c124 ?_
                    subst h
                    exact w_vreturn (by decide +kernel) (by decide +kernel)
                · rw [if_neg c126] at h
                  refine w_if_ne_j (n := 268) (off := 22) (by decide +kernel) (by decide) c126 ?_
                  subst h
                  exact w_vreturn (by decide +kernel) (by decide +kernel)
              · exact w_tV (idx := 101) (cal := 95) (na := 2) (nl := 3) (as := [.int v2, .int 0]) (rest := []) hLM3 (by decide +kernel) (by decide +kernel) (at_0) (by decide +kernel) rfl rfl rfl (Nat.le_of_ble_eq_true rfl) (by decide +kernel) (by decide +kernel) hr130
