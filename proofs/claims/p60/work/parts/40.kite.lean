/-! the walk of Kite and Wind, laid by wip/p60/walk.py -/
theorem t_35 {X : ak_X} {M : ak_M} {r : ak_O × ak_M} (hL : ab_lay M) {b0 : Nat} (hb0 : b0 ∈ ab_fb) {k0 : Nat} (hk0 : k0 < 10) {b1 : Nat} (hb1 : b1 ∈ ab_fb) {k1 : Nat} (hk1 : k1 < 10) (h : (∀ M1 : ak_M, M1 = ak_sI M (b0 + 6 + k0) 0 (ak_I M (b1 + 6 + k1) 0) → (∀ M2 : ak_M, M2 = ak_sI M1 (b0 + 6 + k0) 1 (ak_I M1 (b1 + 6 + k1) 1) → (∀ M3 : ak_M, M3 = ak_sI M2 (b0 + 6 + k0) 2 (ak_I M2 (b1 + 6 + k1) 2) → (∀ M4 : ak_M, M4 = ak_sI M3 (b0 + 6 + k0) 3 (ak_I M3 (b1 + 6 + k1) 3) → (∀ M5 : ak_M, M5 = ak_sI M4 (b0 + 6 + k0) 4 (ak_I M4 (b1 + 6 + k1) 4) → (∀ M6 : ak_M, M6 = ak_sI M5 (b0 + 6 + k0) 5 (ak_I M5 (b1 + 6 + k1) 5) → (∀ M7 : ak_M, M7 = ak_sI M6 (b0 + 6 + k0) 6 (ak_I M6 (b1 + 6 + k1) 6) → (∀ M8 : ak_M, M8 = ak_sI M7 (b0 + 6 + k0) 7 (ak_I M7 (b1 + 6 + k1) 7) → (∀ M9 : ak_M, M9 = ak_sI M8 (b0 + 6 + k0) 8 (ak_I M8 (b1 + 6 + k1) 8) → (∀ M10 : ak_M, M10 = ak_sI M9 (b0 + 6 + k0) 9 (ak_I M9 (b1 + 6 + k1) 9) → (∀ M11 : ak_M, M11 = ak_sI M10 (b0 + 6 + k0) 10 (ak_I M10 (b1 + 6 + k1) 10) → (∀ M12 : ak_M, M12 = ak_sI M11 (b0 + 6 + k0) 11 (ak_I M11 (b1 + 6 + k1) 11) → (∀ M13 : ak_M, M13 = ak_sI M12 (b0 + 6 + k0) 12 (ak_I M12 (b1 + 6 + k1) 12) → (∀ M14 : ak_M, M14 = ak_sI M13 (b0 + 6 + k0) 13 (ak_I M13 (b1 + 6 + k1) 13) → r = (.inl none, M14)))))))))))))))) : rn X 35 [.ref (b0 + 6 + k0), .ref (b1 + 6 + k1)] M r := by
  refine w_rn (nL := 2) (l1 := [some (.ref (b0 + 6 + k0)), some (.ref (b1 + 6 + k1))]) (by decide +kernel) rfl rfl ?_
  refine w_aload_n (n := 1) (i := 0) (by decide +kernel) rfl rfl ?_
  refine w_aload_n (n := 2) (i := 1) (by decide +kernel) rfl rfl ?_
  refine w_getI (n := 5) hL (by decide +kernel) oO_35 fF_5_9 (af_K hb1 hk1) (by decide) rfl ?_
  refine w_putI (n := 8) hL (by decide +kernel) oO_35 fF_5_9 (af_K hb0 hk0) ⟨by decide, Or.inl (by decide)⟩ rfl ?_
  generalize eM1 : ak_sI M (b0 + 6 + k0) 0 (ak_I M (b1 + 6 + k1) 0) = M1
  have hLM1 : ab_lay M1 := by rw [← eM1]; exact ab_lay.sI hL
  replace h := h M1 eM1.symm
  refine w_aload_n (n := 9) (i := 0) (by decide +kernel) rfl rfl ?_
  refine w_aload_n (n := 10) (i := 1) (by decide +kernel) rfl rfl ?_
  refine w_getI (n := 13) hLM1 (by decide +kernel) oO_35 fF_5_15 (af_K hb1 hk1) (by decide) rfl ?_
  refine w_putI (n := 16) hLM1 (by decide +kernel) oO_35 fF_5_15 (af_K hb0 hk0) ⟨by decide, Or.inl (by decide)⟩ rfl ?_
  generalize eM2 : ak_sI M1 (b0 + 6 + k0) 1 (ak_I M1 (b1 + 6 + k1) 1) = M2
  have hLM2 : ab_lay M2 := by rw [← eM2]; exact ab_lay.sI hLM1
  replace h := h M2 eM2.symm
  refine w_aload_n (n := 17) (i := 0) (by decide +kernel) rfl rfl ?_
  refine w_aload_n (n := 18) (i := 1) (by decide +kernel) rfl rfl ?_
  refine w_getI (n := 21) hLM2 (by decide +kernel) oO_35 fF_5_18 (af_K hb1 hk1) (by decide) rfl ?_
  refine w_putI (n := 24) hLM2 (by decide +kernel) oO_35 fF_5_18 (af_K hb0 hk0) ⟨by decide, Or.inl (by decide)⟩ rfl ?_
  generalize eM3 : ak_sI M2 (b0 + 6 + k0) 2 (ak_I M2 (b1 + 6 + k1) 2) = M3
  have hLM3 : ab_lay M3 := by rw [← eM3]; exact ab_lay.sI hLM2
  replace h := h M3 eM3.symm
  refine w_aload_n (n := 25) (i := 0) (by decide +kernel) rfl rfl ?_
  refine w_aload_n (n := 26) (i := 1) (by decide +kernel) rfl rfl ?_
  refine w_getI (n := 29) hLM3 (by decide +kernel) oO_35 fF_5_21 (af_K hb1 hk1) (by decide) rfl ?_
  refine w_putI (n := 32) hLM3 (by decide +kernel) oO_35 fF_5_21 (af_K hb0 hk0) ⟨by decide, Or.inl (by decide)⟩ rfl ?_
  generalize eM4 : ak_sI M3 (b0 + 6 + k0) 3 (ak_I M3 (b1 + 6 + k1) 3) = M4
  have hLM4 : ab_lay M4 := by rw [← eM4]; exact ab_lay.sI hLM3
  replace h := h M4 eM4.symm
  refine w_aload_n (n := 33) (i := 0) (by decide +kernel) rfl rfl ?_
  refine w_aload_n (n := 34) (i := 1) (by decide +kernel) rfl rfl ?_
  refine w_getI (n := 37) hLM4 (by decide +kernel) oO_35 fF_5_24 (af_K hb1 hk1) (by decide) rfl ?_
  refine w_putI (n := 40) hLM4 (by decide +kernel) oO_35 fF_5_24 (af_K hb0 hk0) ⟨by decide, Or.inl (by decide)⟩ rfl ?_
  generalize eM5 : ak_sI M4 (b0 + 6 + k0) 4 (ak_I M4 (b1 + 6 + k1) 4) = M5
  have hLM5 : ab_lay M5 := by rw [← eM5]; exact ab_lay.sI hLM4
  replace h := h M5 eM5.symm
  refine w_aload_n (n := 41) (i := 0) (by decide +kernel) rfl rfl ?_
  refine w_aload_n (n := 42) (i := 1) (by decide +kernel) rfl rfl ?_
  refine w_getI (n := 45) hLM5 (by decide +kernel) oO_35 fF_5_27 (af_K hb1 hk1) (by decide) rfl ?_
  refine w_putI (n := 48) hLM5 (by decide +kernel) oO_35 fF_5_27 (af_K hb0 hk0) ⟨by decide, Or.inl (by decide)⟩ rfl ?_
  generalize eM6 : ak_sI M5 (b0 + 6 + k0) 5 (ak_I M5 (b1 + 6 + k1) 5) = M6
  have hLM6 : ab_lay M6 := by rw [← eM6]; exact ab_lay.sI hLM5
  replace h := h M6 eM6.symm
  refine w_aload_n (n := 49) (i := 0) (by decide +kernel) rfl rfl ?_
  refine w_aload_n (n := 50) (i := 1) (by decide +kernel) rfl rfl ?_
  refine w_getI (n := 53) hLM6 (by decide +kernel) oO_35 fF_5_30 (af_K hb1 hk1) (by decide) rfl ?_
  refine w_putI (n := 56) hLM6 (by decide +kernel) oO_35 fF_5_30 (af_K hb0 hk0) ⟨by decide, Or.inl (by decide)⟩ rfl ?_
  generalize eM7 : ak_sI M6 (b0 + 6 + k0) 6 (ak_I M6 (b1 + 6 + k1) 6) = M7
  have hLM7 : ab_lay M7 := by rw [← eM7]; exact ab_lay.sI hLM6
  replace h := h M7 eM7.symm
  refine w_aload_n (n := 57) (i := 0) (by decide +kernel) rfl rfl ?_
  refine w_aload_n (n := 58) (i := 1) (by decide +kernel) rfl rfl ?_
  refine w_getI (n := 61) hLM7 (by decide +kernel) oO_35 fF_5_33 (af_K hb1 hk1) (by decide) rfl ?_
  refine w_putI (n := 64) hLM7 (by decide +kernel) oO_35 fF_5_33 (af_K hb0 hk0) ⟨by decide, Or.inl (by decide)⟩ rfl ?_
  generalize eM8 : ak_sI M7 (b0 + 6 + k0) 7 (ak_I M7 (b1 + 6 + k1) 7) = M8
  have hLM8 : ab_lay M8 := by rw [← eM8]; exact ab_lay.sI hLM7
  replace h := h M8 eM8.symm
  refine w_aload_n (n := 65) (i := 0) (by decide +kernel) rfl rfl ?_
  refine w_aload_n (n := 66) (i := 1) (by decide +kernel) rfl rfl ?_
  refine w_getI (n := 69) hLM8 (by decide +kernel) oO_35 fF_5_36 (af_K hb1 hk1) (by decide) rfl ?_
  refine w_putI (n := 72) hLM8 (by decide +kernel) oO_35 fF_5_36 (af_K hb0 hk0) ⟨by decide, Or.inl (by decide)⟩ rfl ?_
  generalize eM9 : ak_sI M8 (b0 + 6 + k0) 8 (ak_I M8 (b1 + 6 + k1) 8) = M9
  have hLM9 : ab_lay M9 := by rw [← eM9]; exact ab_lay.sI hLM8
  replace h := h M9 eM9.symm
  refine w_aload_n (n := 73) (i := 0) (by decide +kernel) rfl rfl ?_
  refine w_aload_n (n := 74) (i := 1) (by decide +kernel) rfl rfl ?_
  refine w_getI (n := 77) hLM9 (by decide +kernel) oO_35 fF_5_39 (af_K hb1 hk1) (by decide) rfl ?_
  refine w_putI (n := 80) hLM9 (by decide +kernel) oO_35 fF_5_39 (af_K hb0 hk0) ⟨by decide, Or.inl (by decide)⟩ rfl ?_
  generalize eM10 : ak_sI M9 (b0 + 6 + k0) 9 (ak_I M9 (b1 + 6 + k1) 9) = M10
  have hLM10 : ab_lay M10 := by rw [← eM10]; exact ab_lay.sI hLM9
  replace h := h M10 eM10.symm
  refine w_aload_n (n := 81) (i := 0) (by decide +kernel) rfl rfl ?_
  refine w_aload_n (n := 82) (i := 1) (by decide +kernel) rfl rfl ?_
  refine w_getI (n := 85) hLM10 (by decide +kernel) oO_35 fF_5_42 (af_K hb1 hk1) (by decide) rfl ?_
  refine w_putI (n := 88) hLM10 (by decide +kernel) oO_35 fF_5_42 (af_K hb0 hk0) ⟨by decide, Or.inl (by decide)⟩ rfl ?_
  generalize eM11 : ak_sI M10 (b0 + 6 + k0) 10 (ak_I M10 (b1 + 6 + k1) 10) = M11
  have hLM11 : ab_lay M11 := by rw [← eM11]; exact ab_lay.sI hLM10
  replace h := h M11 eM11.symm
  refine w_aload_n (n := 89) (i := 0) (by decide +kernel) rfl rfl ?_
  refine w_aload_n (n := 90) (i := 1) (by decide +kernel) rfl rfl ?_
  refine w_getI (n := 93) hLM11 (by decide +kernel) oO_35 fF_5_45 (af_K hb1 hk1) (by decide) rfl ?_
  refine w_putI (n := 96) hLM11 (by decide +kernel) oO_35 fF_5_45 (af_K hb0 hk0) ⟨by decide, Or.inl (by decide)⟩ rfl ?_
  generalize eM12 : ak_sI M11 (b0 + 6 + k0) 11 (ak_I M11 (b1 + 6 + k1) 11) = M12
  have hLM12 : ab_lay M12 := by rw [← eM12]; exact ab_lay.sI hLM11
  replace h := h M12 eM12.symm
  refine w_aload_n (n := 97) (i := 0) (by decide +kernel) rfl rfl ?_
  refine w_aload_n (n := 98) (i := 1) (by decide +kernel) rfl rfl ?_
  refine w_getI (n := 101) hLM12 (by decide +kernel) oO_35 fF_5_48 (af_K hb1 hk1) (by decide) rfl ?_
  refine w_putI (n := 104) hLM12 (by decide +kernel) oO_35 fF_5_48 (af_K hb0 hk0) ⟨by decide, Or.inl (by decide)⟩ rfl ?_
  generalize eM13 : ak_sI M12 (b0 + 6 + k0) 12 (ak_I M12 (b1 + 6 + k1) 12) = M13
  have hLM13 : ab_lay M13 := by rw [← eM13]; exact ab_lay.sI hLM12
  replace h := h M13 eM13.symm
  refine w_aload_n (n := 105) (i := 0) (by decide +kernel) rfl rfl ?_
  refine w_aload_n (n := 106) (i := 1) (by decide +kernel) rfl rfl ?_
  refine w_getI (n := 109) hLM13 (by decide +kernel) oO_35 fF_5_51 (af_K hb1 hk1) (by decide) rfl ?_
  refine w_putI (n := 112) hLM13 (by decide +kernel) oO_35 fF_5_51 (af_K hb0 hk0) ⟨by decide, Or.inl (by decide)⟩ rfl ?_
  generalize eM14 : ak_sI M13 (b0 + 6 + k0) 13 (ak_I M13 (b1 + 6 + k1) 13) = M14
  have hLM14 : ab_lay M14 := by rw [← eM14]; exact ab_lay.sI hLM13
  replace h := h M14 eM14.symm
  subst h
  exact w_vreturn (by decide +kernel) (by decide +kernel)
theorem t_36 {X : ak_X} {M : ak_M} {r : ak_O × ak_M} (hL : ab_lay M) {b0 : Nat} (hb0 : b0 ∈ ab_fb) {k0 : Nat} (hk0 : k0 < 10) (x1 : Int32) (x2 : Int32) (h : (∀ M1 : ak_M, M1 = ak_sI M (b0 + 6 + k0) 4 x1 → (∀ M2 : ak_M, M2 = ak_sI M1 (b0 + 6 + k0) 5 x2 → (∃ (M3 : ak_M), ab_lay M3 ∧ rn X 38 [.ref (b0 + 6 + k0)] M2 (.inl (none), M3) ∧ (∀ M4 : ak_M, M4 = ak_sI M3 (b0 + 6 + k0) 7 0 → (∀ M5 : ak_M, M5 = ak_sI M4 (b0 + 6 + k0) 8 1 → (∀ M6 : ak_M, M6 = ak_sI M5 (b0 + 6 + k0) 9 20 → (∀ M7 : ak_M, M7 = ak_sI M6 (b0 + 6 + k0) 6 10 → (∀ M8 : ak_M, M8 = ak_sI M7 (b0 + 6 + k0) 10 0 → (∀ M9 : ak_M, M9 = ak_sI M8 (b0 + 6 + k0) 11 0 → (∀ M10 : ak_M, M10 = ak_sI M9 (b0 + 6 + k0) 12 ((-1)) → (∀ M11 : ak_M, M11 = ak_sI M10 (b0 + 6 + k0) 13 ((-1)) → r = (.inl none, M11))))))))))))) : rn X 36 [.ref (b0 + 6 + k0), .int x1, .int x2] M r := by
  refine w_rn (nL := 3) (l1 := [some (.ref (b0 + 6 + k0)), some (.int x1), some (.int x2)]) (by decide +kernel) rfl rfl ?_
  refine w_aload_n (n := 1) (i := 0) (by decide +kernel) rfl rfl ?_
  refine w_iload_n (n := 2) (i := 1) (by decide +kernel) rfl rfl ?_
  refine w_putI (n := 5) hL (by decide +kernel) oO_36 fF_5_24 (af_K hb0 hk0) ⟨by decide, Or.inl (by decide)⟩ rfl ?_
  generalize eM1 : ak_sI M (b0 + 6 + k0) 4 x1 = M1
  have hLM1 : ab_lay M1 := by rw [← eM1]; exact ab_lay.sI hL
  replace h := h M1 eM1.symm
  refine w_aload_n (n := 6) (i := 0) (by decide +kernel) rfl rfl ?_
  refine w_iload_n (n := 7) (i := 2) (by decide +kernel) rfl rfl ?_
  refine w_putI (n := 10) hLM1 (by decide +kernel) oO_36 fF_5_27 (af_K hb0 hk0) ⟨by decide, Or.inl (by decide)⟩ rfl ?_
  generalize eM2 : ak_sI M1 (b0 + 6 + k0) 5 x2 = M2
  have hLM2 : ab_lay M2 := by rw [← eM2]; exact ab_lay.sI hLM1
  replace h := h M2 eM2.symm
  refine w_aload_n (n := 11) (i := 0) (by decide +kernel) rfl rfl ?_
  obtain ⟨M3, hLM3, hr12, h⟩ := h
  refine w_cV (n := 14) (idx := 54) (cal := 38) (na := 0) (nl := 1) (as := []) (rest := []) hLM2 (by decide +kernel) (by decide +kernel) (af_K hb0 hk0) (by decide +kernel) rfl rfl rfl (Nat.le_of_ble_eq_true rfl) rfl hr12 ?_
  refine w_aload_n (n := 15) (i := 0) (by decide +kernel) rfl rfl ?_
  refine w_iconst (n := 16) (v := 0) (x := 0) (by decide +kernel) rfl (by decide) ?_
  refine w_putI (n := 19) hLM3 (by decide +kernel) oO_36 fF_5_33 (af_K hb0 hk0) ⟨by decide, Or.inl (by decide)⟩ rfl ?_
  generalize eM4 : ak_sI M3 (b0 + 6 + k0) 7 0 = M4
  have hLM4 : ab_lay M4 := by rw [← eM4]; exact ab_lay.sI hLM3
  replace h := h M4 eM4.symm
  refine w_aload_n (n := 20) (i := 0) (by decide +kernel) rfl rfl ?_
  refine w_iconst (n := 21) (v := 1) (x := 1) (by decide +kernel) rfl (by decide) ?_
  refine w_putI (n := 24) hLM4 (by decide +kernel) oO_36 fF_5_36 (af_K hb0 hk0) ⟨by decide, Or.inl (by decide)⟩ rfl ?_
  generalize eM5 : ak_sI M4 (b0 + 6 + k0) 8 1 = M5
  have hLM5 : ab_lay M5 := by rw [← eM5]; exact ab_lay.sI hLM4
  replace h := h M5 eM5.symm
  refine w_aload_n (n := 25) (i := 0) (by decide +kernel) rfl rfl ?_
  refine w_bipush (n := 27) (v := 20) (x := 20) (by decide +kernel) rfl (by decide) ?_
  refine w_putI (n := 30) hLM5 (by decide +kernel) oO_36 fF_5_39 (af_K hb0 hk0) ⟨by decide, Or.inl (by decide)⟩ rfl ?_
  generalize eM6 : ak_sI M5 (b0 + 6 + k0) 9 20 = M6
  have hLM6 : ab_lay M6 := by rw [← eM6]; exact ab_lay.sI hLM5
  replace h := h M6 eM6.symm
  refine w_aload_n (n := 31) (i := 0) (by decide +kernel) rfl rfl ?_
  refine w_bipush (n := 33) (v := 10) (x := 10) (by decide +kernel) rfl (by decide) ?_
  refine w_putI (n := 36) hLM6 (by decide +kernel) oO_36 fF_5_30 (af_K hb0 hk0) ⟨by decide, Or.inl (by decide)⟩ rfl ?_
  generalize eM7 : ak_sI M6 (b0 + 6 + k0) 6 10 = M7
  have hLM7 : ab_lay M7 := by rw [← eM7]; exact ab_lay.sI hLM6
  replace h := h M7 eM7.symm
  refine w_aload_n (n := 37) (i := 0) (by decide +kernel) rfl rfl ?_
  refine w_iconst (n := 38) (v := 0) (x := 0) (by decide +kernel) rfl (by decide) ?_
  refine w_putI (n := 41) hLM7 (by decide +kernel) oO_36 fF_5_42 (af_K hb0 hk0) ⟨by decide, Or.inl (by decide)⟩ rfl ?_
  generalize eM8 : ak_sI M7 (b0 + 6 + k0) 10 0 = M8
  have hLM8 : ab_lay M8 := by rw [← eM8]; exact ab_lay.sI hLM7
  replace h := h M8 eM8.symm
  refine w_aload_n (n := 42) (i := 0) (by decide +kernel) rfl rfl ?_
  refine w_iconst (n := 43) (v := 0) (x := 0) (by decide +kernel) rfl (by decide) ?_
  refine w_putI (n := 46) hLM8 (by decide +kernel) oO_36 fF_5_45 (af_K hb0 hk0) ⟨by decide, Or.inl (by decide)⟩ rfl ?_
  generalize eM9 : ak_sI M8 (b0 + 6 + k0) 11 0 = M9
  have hLM9 : ab_lay M9 := by rw [← eM9]; exact ab_lay.sI hLM8
  replace h := h M9 eM9.symm
  refine w_aload_n (n := 47) (i := 0) (by decide +kernel) rfl rfl ?_
  refine w_iconst (n := 48) (v := -1) (x := (-1)) (by decide +kernel) rfl (by decide) ?_
  refine w_putI (n := 51) hLM9 (by decide +kernel) oO_36 fF_5_48 (af_K hb0 hk0) ⟨by decide, Or.inl (by decide)⟩ rfl ?_
  generalize eM10 : ak_sI M9 (b0 + 6 + k0) 12 ((-1)) = M10
  have hLM10 : ab_lay M10 := by rw [← eM10]; exact ab_lay.sI hLM9
  replace h := h M10 eM10.symm
  refine w_aload_n (n := 52) (i := 0) (by decide +kernel) rfl rfl ?_
  refine w_iconst (n := 53) (v := -1) (x := (-1)) (by decide +kernel) rfl (by decide) ?_
  refine w_putI (n := 56) hLM10 (by decide +kernel) oO_36 fF_5_51 (af_K hb0 hk0) ⟨by decide, Or.inl (by decide)⟩ rfl ?_
  generalize eM11 : ak_sI M10 (b0 + 6 + k0) 13 ((-1)) = M11
  have hLM11 : ab_lay M11 := by rw [← eM11]; exact ab_lay.sI hLM10
  replace h := h M11 eM11.symm
  subst h
  exact w_vreturn (by decide +kernel) (by decide +kernel)
theorem t_38 {X : ak_X} {M : ak_M} {r : ak_O × ak_M} (hL : ab_lay M) {b0 : Nat} (hb0 : b0 ∈ ab_fb) {k0 : Nat} (hk0 : k0 < 10) (h : (∀ M1 : ak_M, M1 = ak_sI M (b0 + 6 + k0) 0 1 → (∀ M2 : ak_M, M2 = ak_sI M1 (b0 + 6 + k0) 1 (ak_I M1 (b0 + 6 + k0) 4) → (∀ M3 : ak_M, M3 = ak_sI M2 (b0 + 6 + k0) 2 (ak_I M2 (b0 + 6 + k0) 5) → (∀ M4 : ak_M, M4 = ak_sI M3 (b0 + 6 + k0) 3 0 → r = (.inl none, M4)))))) : rn X 38 [.ref (b0 + 6 + k0)] M r := by
  refine w_rn (nL := 1) (l1 := [some (.ref (b0 + 6 + k0))]) (by decide +kernel) rfl rfl ?_
  refine w_aload_n (n := 1) (i := 0) (by decide +kernel) rfl rfl ?_
  refine w_iconst (n := 2) (v := 1) (x := 1) (by decide +kernel) rfl (by decide) ?_
  refine w_putI (n := 5) hL (by decide +kernel) oO_38 fF_5_9 (af_K hb0 hk0) ⟨by decide, Or.inl (by decide)⟩ rfl ?_
  generalize eM1 : ak_sI M (b0 + 6 + k0) 0 1 = M1
  have hLM1 : ab_lay M1 := by rw [← eM1]; exact ab_lay.sI hL
  replace h := h M1 eM1.symm
  refine w_aload_n (n := 6) (i := 0) (by decide +kernel) rfl rfl ?_
  refine w_aload_n (n := 7) (i := 0) (by decide +kernel) rfl rfl ?_
  refine w_getI (n := 10) hLM1 (by decide +kernel) oO_38 fF_5_24 (af_K hb0 hk0) (by decide) rfl ?_
  refine w_putI (n := 13) hLM1 (by decide +kernel) oO_38 fF_5_15 (af_K hb0 hk0) ⟨by decide, Or.inl (by decide)⟩ rfl ?_
  generalize eM2 : ak_sI M1 (b0 + 6 + k0) 1 (ak_I M1 (b0 + 6 + k0) 4) = M2
  have hLM2 : ab_lay M2 := by rw [← eM2]; exact ab_lay.sI hLM1
  replace h := h M2 eM2.symm
  refine w_aload_n (n := 14) (i := 0) (by decide +kernel) rfl rfl ?_
  refine w_aload_n (n := 15) (i := 0) (by decide +kernel) rfl rfl ?_
  refine w_getI (n := 18) hLM2 (by decide +kernel) oO_38 fF_5_27 (af_K hb0 hk0) (by decide) rfl ?_
  refine w_putI (n := 21) hLM2 (by decide +kernel) oO_38 fF_5_18 (af_K hb0 hk0) ⟨by decide, Or.inl (by decide)⟩ rfl ?_
  generalize eM3 : ak_sI M2 (b0 + 6 + k0) 2 (ak_I M2 (b0 + 6 + k0) 5) = M3
  have hLM3 : ab_lay M3 := by rw [← eM3]; exact ab_lay.sI hLM2
  replace h := h M3 eM3.symm
  refine w_aload_n (n := 22) (i := 0) (by decide +kernel) rfl rfl ?_
  refine w_iconst (n := 23) (v := 0) (x := 0) (by decide +kernel) rfl (by decide) ?_
  refine w_putI (n := 26) hLM3 (by decide +kernel) oO_38 fF_5_21 (af_K hb0 hk0) ⟨by decide, Or.inl (by decide)⟩ rfl ?_
  generalize eM4 : ak_sI M3 (b0 + 6 + k0) 3 0 = M4
  have hLM4 : ab_lay M4 := by rw [← eM4]; exact ab_lay.sI hLM3
  replace h := h M4 eM4.symm
  subst h
  exact w_vreturn (by decide +kernel) (by decide +kernel)
theorem t_39 {X : ak_X} {M : ak_M} {r : ak_O × ak_M} (hL : ab_lay M) {b0 : Nat} (hb0 : b0 ∈ ab_fb) {k0 : Nat} (hk0 : k0 < 10) (x1 : Int32) (h : (if x1 = 0 then r = (.inl (some (.int (ak_I M (b0 + 6 + k0) 0))), M) else (if x1 = 1 then r = (.inl (some (.int (ak_I M (b0 + 6 + k0) 1))), M) else (if x1 = 2 then r = (.inl (some (.int (ak_I M (b0 + 6 + k0) 2))), M) else (if x1 = 3 then r = (.inl (some (.int (ak_I M (b0 + 6 + k0) 3))), M) else (if x1 = 4 then r = (.inl (some (.int (ak_I M (b0 + 6 + k0) 4))), M) else (if x1 = 5 then r = (.inl (some (.int (ak_I M (b0 + 6 + k0) 5))), M) else (if x1 = 6 then r = (.inl (some (.int (ak_I M (b0 + 6 + k0) 6))), M) else (if x1 = 7 then r = (.inl (some (.int (ak_I M (b0 + 6 + k0) 7))), M) else (if x1 = 8 then r = (.inl (some (.int (ak_I M (b0 + 6 + k0) 8))), M) else (if x1 = 9 then r = (.inl (some (.int (ak_I M (b0 + 6 + k0) 9))), M) else (if x1 = 10 then r = (.inl (some (.int (ak_I M (b0 + 6 + k0) 10))), M) else (if x1 = 11 then r = (.inl (some (.int (ak_I M (b0 + 6 + k0) 11))), M) else (if x1 = 12 then r = (.inl (some (.int (ak_I M (b0 + 6 + k0) 12))), M) else r = (.inl (some (.int (ak_I M (b0 + 6 + k0) 13))), M))))))))))))))) : rn X 39 [.ref (b0 + 6 + k0), .int x1] M r := by
  refine w_rn (nL := 2) (l1 := [some (.ref (b0 + 6 + k0)), some (.int x1)]) (by decide +kernel) rfl rfl ?_
  refine w_iload_n (n := 1) (i := 1) (by decide +kernel) rfl rfl ?_
  by_cases c1 : x1 = 0
  · rw [if_pos c1] at h
    refine w_tsw (n := 68) (d := 132) (lo := 0) (hi := 12) (offs := #[67, 72, 77, 82, 87, 92, 97, 102, 107, 112, 117, 122, 127]) (o := 67) (by decide +kernel) (by rw [c1]; decide) (by decide) ?_
    refine w_aload_n (n := 69) (i := 0) (by decide +kernel) rfl rfl ?_
    refine w_getI (n := 72) hL (by decide +kernel) oO_39 fF_5_9 (af_K hb0 hk0) (by decide) rfl ?_
    subst h
    exact w_ireturn (by decide +kernel) (w_okI (by decide +kernel))
  · rw [if_neg c1] at h
    by_cases c2 : x1 = 1
    · rw [if_pos c2] at h
      refine w_tsw (n := 73) (d := 132) (lo := 0) (hi := 12) (offs := #[67, 72, 77, 82, 87, 92, 97, 102, 107, 112, 117, 122, 127]) (o := 72) (by decide +kernel) (by rw [c2]; decide) (by decide) ?_
      refine w_aload_n (n := 74) (i := 0) (by decide +kernel) rfl rfl ?_
      refine w_getI (n := 77) hL (by decide +kernel) oO_39 fF_5_15 (af_K hb0 hk0) (by decide) rfl ?_
      subst h
      exact w_ireturn (by decide +kernel) (w_okI (by decide +kernel))
    · rw [if_neg c2] at h
      by_cases c3 : x1 = 2
      · rw [if_pos c3] at h
        refine w_tsw (n := 78) (d := 132) (lo := 0) (hi := 12) (offs := #[67, 72, 77, 82, 87, 92, 97, 102, 107, 112, 117, 122, 127]) (o := 77) (by decide +kernel) (by rw [c3]; decide) (by decide) ?_
        refine w_aload_n (n := 79) (i := 0) (by decide +kernel) rfl rfl ?_
        refine w_getI (n := 82) hL (by decide +kernel) oO_39 fF_5_18 (af_K hb0 hk0) (by decide) rfl ?_
        subst h
        exact w_ireturn (by decide +kernel) (w_okI (by decide +kernel))
      · rw [if_neg c3] at h
        by_cases c4 : x1 = 3
        · rw [if_pos c4] at h
          refine w_tsw (n := 83) (d := 132) (lo := 0) (hi := 12) (offs := #[67, 72, 77, 82, 87, 92, 97, 102, 107, 112, 117, 122, 127]) (o := 82) (by decide +kernel) (by rw [c4]; decide) (by decide) ?_
          refine w_aload_n (n := 84) (i := 0) (by decide +kernel) rfl rfl ?_
          refine w_getI (n := 87) hL (by decide +kernel) oO_39 fF_5_21 (af_K hb0 hk0) (by decide) rfl ?_
          subst h
          exact w_ireturn (by decide +kernel) (w_okI (by decide +kernel))
        · rw [if_neg c4] at h
          by_cases c5 : x1 = 4
          · rw [if_pos c5] at h
            refine w_tsw (n := 88) (d := 132) (lo := 0) (hi := 12) (offs := #[67, 72, 77, 82, 87, 92, 97, 102, 107, 112, 117, 122, 127]) (o := 87) (by decide +kernel) (by rw [c5]; decide) (by decide) ?_
            refine w_aload_n (n := 89) (i := 0) (by decide +kernel) rfl rfl ?_
            refine w_getI (n := 92) hL (by decide +kernel) oO_39 fF_5_24 (af_K hb0 hk0) (by decide) rfl ?_
            subst h
            exact w_ireturn (by decide +kernel) (w_okI (by decide +kernel))
          · rw [if_neg c5] at h
            by_cases c6 : x1 = 5
            · rw [if_pos c6] at h
              refine w_tsw (n := 93) (d := 132) (lo := 0) (hi := 12) (offs := #[67, 72, 77, 82, 87, 92, 97, 102, 107, 112, 117, 122, 127]) (o := 92) (by decide +kernel) (by rw [c6]; decide) (by decide) ?_
              refine w_aload_n (n := 94) (i := 0) (by decide +kernel) rfl rfl ?_
              refine w_getI (n := 97) hL (by decide +kernel) oO_39 fF_5_27 (af_K hb0 hk0) (by decide) rfl ?_
              subst h
              exact w_ireturn (by decide +kernel) (w_okI (by decide +kernel))
            · rw [if_neg c6] at h
              by_cases c7 : x1 = 6
              · rw [if_pos c7] at h
                refine w_tsw (n := 98) (d := 132) (lo := 0) (hi := 12) (offs := #[67, 72, 77, 82, 87, 92, 97, 102, 107, 112, 117, 122, 127]) (o := 97) (by decide +kernel) (by rw [c7]; decide) (by decide) ?_
                refine w_aload_n (n := 99) (i := 0) (by decide +kernel) rfl rfl ?_
                refine w_getI (n := 102) hL (by decide +kernel) oO_39 fF_5_30 (af_K hb0 hk0) (by decide) rfl ?_
                subst h
                exact w_ireturn (by decide +kernel) (w_okI (by decide +kernel))
              · rw [if_neg c7] at h
                by_cases c8 : x1 = 7
                · rw [if_pos c8] at h
                  refine w_tsw (n := 103) (d := 132) (lo := 0) (hi := 12) (offs := #[67, 72, 77, 82, 87, 92, 97, 102, 107, 112, 117, 122, 127]) (o := 102) (by decide +kernel) (by rw [c8]; decide) (by decide) ?_
                  refine w_aload_n (n := 104) (i := 0) (by decide +kernel) rfl rfl ?_
                  refine w_getI (n := 107) hL (by decide +kernel) oO_39 fF_5_33 (af_K hb0 hk0) (by decide) rfl ?_
                  subst h
                  exact w_ireturn (by decide +kernel) (w_okI (by decide +kernel))
                · rw [if_neg c8] at h
                  by_cases c9 : x1 = 8
                  · rw [if_pos c9] at h
                    refine w_tsw (n := 108) (d := 132) (lo := 0) (hi := 12) (offs := #[67, 72, 77, 82, 87, 92, 97, 102, 107, 112, 117, 122, 127]) (o := 107) (by decide +kernel) (by rw [c9]; decide) (by decide) ?_
                    refine w_aload_n (n := 109) (i := 0) (by decide +kernel) rfl rfl ?_
                    refine w_getI (n := 112) hL (by decide +kernel) oO_39 fF_5_36 (af_K hb0 hk0) (by decide) rfl ?_
                    subst h
                    exact w_ireturn (by decide +kernel) (w_okI (by decide +kernel))
                  · rw [if_neg c9] at h
                    by_cases c10 : x1 = 9
                    · rw [if_pos c10] at h
                      refine w_tsw (n := 113) (d := 132) (lo := 0) (hi := 12) (offs := #[67, 72, 77, 82, 87, 92, 97, 102, 107, 112, 117, 122, 127]) (o := 112) (by decide +kernel) (by rw [c10]; decide) (by decide) ?_
                      refine w_aload_n (n := 114) (i := 0) (by decide +kernel) rfl rfl ?_
                      refine w_getI (n := 117) hL (by decide +kernel) oO_39 fF_5_39 (af_K hb0 hk0) (by decide) rfl ?_
                      subst h
                      exact w_ireturn (by decide +kernel) (w_okI (by decide +kernel))
                    · rw [if_neg c10] at h
                      by_cases c11 : x1 = 10
                      · rw [if_pos c11] at h
                        refine w_tsw (n := 118) (d := 132) (lo := 0) (hi := 12) (offs := #[67, 72, 77, 82, 87, 92, 97, 102, 107, 112, 117, 122, 127]) (o := 117) (by decide +kernel) (by rw [c11]; decide) (by decide) ?_
                        refine w_aload_n (n := 119) (i := 0) (by decide +kernel) rfl rfl ?_
                        refine w_getI (n := 122) hL (by decide +kernel) oO_39 fF_5_42 (af_K hb0 hk0) (by decide) rfl ?_
                        subst h
                        exact w_ireturn (by decide +kernel) (w_okI (by decide +kernel))
                      · rw [if_neg c11] at h
                        by_cases c12 : x1 = 11
                        · rw [if_pos c12] at h
                          refine w_tsw (n := 123) (d := 132) (lo := 0) (hi := 12) (offs := #[67, 72, 77, 82, 87, 92, 97, 102, 107, 112, 117, 122, 127]) (o := 122) (by decide +kernel) (by rw [c12]; decide) (by decide) ?_
                          refine w_aload_n (n := 124) (i := 0) (by decide +kernel) rfl rfl ?_
                          refine w_getI (n := 127) hL (by decide +kernel) oO_39 fF_5_45 (af_K hb0 hk0) (by decide) rfl ?_
                          subst h
                          exact w_ireturn (by decide +kernel) (w_okI (by decide +kernel))
                        · rw [if_neg c12] at h
                          by_cases c13 : x1 = 12
                          · rw [if_pos c13] at h
                            refine w_tsw (n := 128) (d := 132) (lo := 0) (hi := 12) (offs := #[67, 72, 77, 82, 87, 92, 97, 102, 107, 112, 117, 122, 127]) (o := 127) (by decide +kernel) (by rw [c13]; decide) (by decide) ?_
                            refine w_aload_n (n := 129) (i := 0) (by decide +kernel) rfl rfl ?_
                            refine w_getI (n := 132) hL (by decide +kernel) oO_39 fF_5_48 (af_K hb0 hk0) (by decide) rfl ?_
                            subst h
                            exact w_ireturn (by decide +kernel) (w_okI (by decide +kernel))
                          · rw [if_neg c13] at h
                            refine w_tsw (n := 133) (d := 132) (lo := 0) (hi := 12) (offs := #[67, 72, 77, 82, 87, 92, 97, 102, 107, 112, 117, 122, 127]) (o := 132) (by decide +kernel) (w_swd (by intro j h1 h2; rcases (show j = 0 ∨ j = 1 ∨ j = 2 ∨ j = 3 ∨ j = 4 ∨ j = 5 ∨ j = 6 ∨ j = 7 ∨ j = 8 ∨ j = 9 ∨ j = 10 ∨ j = 11 ∨ j = 12 by omega) with rfl | rfl | rfl | rfl | rfl | rfl | rfl | rfl | rfl | rfl | rfl | rfl | rfl; all_goals first | exact fun e => c1 (e.trans (by decide)) | exact fun e => c2 (e.trans (by decide)) | exact fun e => c3 (e.trans (by decide)) | exact fun e => c4 (e.trans (by decide)) | exact fun e => c5 (e.trans (by decide)) | exact fun e => c6 (e.trans (by decide)) | exact fun e => c7 (e.trans (by decide)) | exact fun e => c8 (e.trans (by decide)) | exact fun e => c9 (e.trans (by decide)) | exact fun e => c10 (e.trans (by decide)) | exact fun e => c11 (e.trans (by decide)) | exact fun e => c12 (e.trans (by decide)) | exact fun e => c13 (e.trans (by decide)))) (by decide) ?_
                            refine w_aload_n (n := 134) (i := 0) (by decide +kernel) rfl rfl ?_
                            refine w_getI (n := 137) hL (by decide +kernel) oO_39 fF_5_51 (af_K hb0 hk0) (by decide) rfl ?_
                            subst h
                            exact w_ireturn (by decide +kernel) (w_okI (by decide +kernel))
theorem t_41 {X : ak_X} {M : ak_M} {r : ak_O × ak_M} (hL : ab_lay M) {b0 : Nat} (hb0 : b0 ∈ ab_fb) {k0 : Nat} (hk0 : k0 < 10) (x1 : Int32) (x2 : Int32) (x3 : Int32) (h : (∀ z1 : Int32, z1 = x1 - (ak_I M (b0 + 6 + k0) 1) → (∀ z2 : Int32, z2 = x2 - (ak_I M (b0 + 6 + k0) 2) → (∀ z3 : Int32, z3 = x3 - (ak_I M (b0 + 6 + k0) 3) → (∀ z4 : Int32, z4 = ((z1 * z1) + (z2 * z2)) + (z3 * z3) → sg X 41 (51, [some (.ref (b0 + 6 + k0)), some (.int x1), some (.int x2), some (.int x3), some (.int z1), some (.int z2), some (.int z3), some (.int z4), some (.int 0), some (.int 256)], [], []) M r))))) : rn X 41 [.ref (b0 + 6 + k0), .int x1, .int x2, .int x3] M r := by
  refine w_rn (nL := 10) (l1 := [some (.ref (b0 + 6 + k0)), some (.int x1), some (.int x2), some (.int x3), none, none, none, none, none, none]) (by decide +kernel) rfl rfl ?_
  refine w_iload_n (n := 1) (i := 1) (by decide +kernel) rfl rfl ?_
  refine w_aload_n (n := 2) (i := 0) (by decide +kernel) rfl rfl ?_
  refine w_getI (n := 5) hL (by decide +kernel) oO_41 fF_5_15 (af_K hb0 hk0) (by decide) rfl ?_
  refine w_isub (n := 6) (by decide +kernel) rfl ?_
  refine w_istore (n := 8) (i := 4) (l1' := [some (.ref (b0 + 6 + k0)), some (.int x1), some (.int x2), some (.int x3), some (.int (x1 - (ak_I M (b0 + 6 + k0) 1))), none, none, none, none, none]) (l2' := []) (by decide +kernel) rfl (Nat.le_of_ble_eq_true rfl) rfl rfl ?_
  generalize ez1 : x1 - (ak_I M (b0 + 6 + k0) 1) = z1
  replace h := h z1 ez1.symm
  refine w_iload_n (n := 9) (i := 2) (by decide +kernel) rfl rfl ?_
  refine w_aload_n (n := 10) (i := 0) (by decide +kernel) rfl rfl ?_
  refine w_getI (n := 13) hL (by decide +kernel) oO_41 fF_5_18 (af_K hb0 hk0) (by decide) rfl ?_
  refine w_isub (n := 14) (by decide +kernel) rfl ?_
  refine w_istore (n := 16) (i := 5) (l1' := [some (.ref (b0 + 6 + k0)), some (.int x1), some (.int x2), some (.int x3), some (.int z1), some (.int (x2 - (ak_I M (b0 + 6 + k0) 2))), none, none, none, none]) (l2' := []) (by decide +kernel) rfl (Nat.le_of_ble_eq_true rfl) rfl rfl ?_
  generalize ez2 : x2 - (ak_I M (b0 + 6 + k0) 2) = z2
  replace h := h z2 ez2.symm
  refine w_iload_n (n := 17) (i := 3) (by decide +kernel) rfl rfl ?_
  refine w_aload_n (n := 18) (i := 0) (by decide +kernel) rfl rfl ?_
  refine w_getI (n := 21) hL (by decide +kernel) oO_41 fF_5_21 (af_K hb0 hk0) (by decide) rfl ?_
  refine w_isub (n := 22) (by decide +kernel) rfl ?_
  refine w_istore (n := 24) (i := 6) (l1' := [some (.ref (b0 + 6 + k0)), some (.int x1), some (.int x2), some (.int x3), some (.int z1), some (.int z2), some (.int (x3 - (ak_I M (b0 + 6 + k0) 3))), none, none, none]) (l2' := []) (by decide +kernel) rfl (Nat.le_of_ble_eq_true rfl) rfl rfl ?_
  generalize ez3 : x3 - (ak_I M (b0 + 6 + k0) 3) = z3
  replace h := h z3 ez3.symm
  refine w_iload (n := 26) (i := 4) (by decide +kernel) rfl rfl ?_
  refine w_iload (n := 28) (i := 4) (by decide +kernel) rfl rfl ?_
  refine w_imul (n := 29) (by decide +kernel) rfl ?_
  refine w_iload (n := 31) (i := 5) (by decide +kernel) rfl rfl ?_
  refine w_iload (n := 33) (i := 5) (by decide +kernel) rfl rfl ?_
  refine w_imul (n := 34) (by decide +kernel) rfl ?_
  refine w_iadd (n := 35) (by decide +kernel) rfl ?_
  refine w_iload (n := 37) (i := 6) (by decide +kernel) rfl rfl ?_
  refine w_iload (n := 39) (i := 6) (by decide +kernel) rfl rfl ?_
  refine w_imul (n := 40) (by decide +kernel) rfl ?_
  refine w_iadd (n := 41) (by decide +kernel) rfl ?_
  refine w_istore (n := 43) (i := 7) (l1' := [some (.ref (b0 + 6 + k0)), some (.int x1), some (.int x2), some (.int x3), some (.int z1), some (.int z2), some (.int z3), some (.int (((z1 * z1) + (z2 * z2)) + (z3 * z3))), none, none]) (l2' := []) (by decide +kernel) rfl (Nat.le_of_ble_eq_true rfl) rfl rfl ?_
  generalize ez4 : ((z1 * z1) + (z2 * z2)) + (z3 * z3) = z4
  replace h := h z4 ez4.symm
  refine w_iconst (n := 44) (v := 0) (x := 0) (by decide +kernel) rfl (by decide) ?_
  refine w_istore (n := 46) (i := 8) (l1' := [some (.ref (b0 + 6 + k0)), some (.int x1), some (.int x2), some (.int x3), some (.int z1), some (.int z2), some (.int z3), some (.int z4), some (.int 0), none]) (l2' := []) (by decide +kernel) rfl (Nat.le_of_ble_eq_true rfl) rfl rfl ?_
  refine w_sipush (n := 49) (v := 256) (x := 256) (by decide +kernel) rfl (by decide) ?_
  refine w_istore (n := 51) (i := 9) (l1' := [some (.ref (b0 + 6 + k0)), some (.int x1), some (.int x2), some (.int x3), some (.int z1), some (.int z2), some (.int z3), some (.int z4), some (.int 0), some (.int 256)]) (l2' := []) (by decide +kernel) rfl (Nat.le_of_ble_eq_true rfl) rfl rfl ?_
  exact h
theorem t_41_51 {X : ak_X} {M : ak_M} {r : ak_O × ak_M} (hL : ab_lay M) {b0 : Nat} (hb0 : b0 ∈ ab_fb) {k0 : Nat} (hk0 : k0 < 10) (x1 : Int32) (x2 : Int32) (x3 : Int32) (o0 : Option Value) (o1 : Option Value) (o2 : Option Value) (o3 : Option Value) (o4 : Option Value) (o5 : Option Value) (o6 : Option Value) (y7 : Int32) (y8 : Int32) (y9 : Int32) (h : (if y9 ≤ 0 then r = (.inl (some (.int y8)), M) else (if y7 < (y8 + y9) * (y8 + y9) then sg X 41 (51, [o0, o1, o2, o3, o4, o5, o6, some (.int y7), some (.int y8), some (.int (y9 >>> (1 &&& 31)))], [], []) M r else sg X 41 (51, [o0, o1, o2, o3, o4, o5, o6, some (.int y7), some (.int (y8 + y9)), some (.int (y9 >>> (1 &&& 31)))], [], []) M r))) : sg X 41 (51, [o0, o1, o2, o3, o4, o5, o6, some (.int y7), some (.int y8), some (.int y9)], [], []) M r := by
  refine w_iload (n := 53) (i := 9) (by decide +kernel) rfl rfl ?_
  by_cases c6 : y9 ≤ 0
  · rw [if_pos c6] at h
    refine w_if_le_j (n := 88) (off := 35) (by decide +kernel) (by decide) c6 ?_
    refine w_iload (n := 90) (i := 8) (by decide +kernel) rfl rfl ?_
    subst h
    exact w_ireturn (by decide +kernel) (w_okI (by decide +kernel))
  · rw [if_neg c6] at h
    refine w_if_le_n (n := 56) (off := 35) (by decide +kernel) rfl c6 ?_
    refine w_iload (n := 58) (i := 8) (by decide +kernel) rfl rfl ?_
    refine w_iload (n := 60) (i := 9) (by decide +kernel) rfl rfl ?_
    refine w_iadd (n := 61) (by decide +kernel) rfl ?_
    refine w_iload (n := 63) (i := 8) (by decide +kernel) rfl rfl ?_
    refine w_iload (n := 65) (i := 9) (by decide +kernel) rfl rfl ?_
    refine w_iadd (n := 66) (by decide +kernel) rfl ?_
    refine w_imul (n := 67) (by decide +kernel) rfl ?_
    refine w_iload (n := 69) (i := 7) (by decide +kernel) rfl rfl ?_
    by_cases c5 : y7 < (y8 + y9) * (y8 + y9)
    · rw [if_pos c5] at h
      refine w_icmp_gt_j (n := 79) (off := 10) (by decide +kernel) (by decide) c5 ?_
      refine w_iload (n := 81) (i := 9) (by decide +kernel) rfl rfl ?_
      refine w_iconst (n := 82) (v := 1) (x := 1) (by decide +kernel) rfl (by decide) ?_
      refine w_ishr (n := 83) (by decide +kernel) rfl ?_
      refine w_istore (n := 85) (i := 9) (l1' := [o0, o1, o2, o3, o4, o5, o6, some (.int y7), some (.int y8), some (.int (y9 >>> (1 &&& 31)))]) (l2' := []) (by decide +kernel) rfl (Nat.le_of_ble_eq_true rfl) rfl rfl ?_
      refine w_goto (n := 51) (off := (-34)) (by decide +kernel) (by decide) ?_
      exact h
    · rw [if_neg c5] at h
      refine w_icmp_gt_n (n := 72) (off := 10) (by decide +kernel) rfl c5 ?_
      refine w_iload (n := 74) (i := 8) (by decide +kernel) rfl rfl ?_
      refine w_iload (n := 76) (i := 9) (by decide +kernel) rfl rfl ?_
      refine w_iadd (n := 77) (by decide +kernel) rfl ?_
      refine w_istore (n := 79) (i := 8) (l1' := [o0, o1, o2, o3, o4, o5, o6, some (.int y7), some (.int (y8 + y9)), some (.int y9)]) (l2' := []) (by decide +kernel) rfl (Nat.le_of_ble_eq_true rfl) rfl rfl ?_
      refine w_iload (n := 81) (i := 9) (by decide +kernel) rfl rfl ?_
      refine w_iconst (n := 82) (v := 1) (x := 1) (by decide +kernel) rfl (by decide) ?_
      refine w_ishr (n := 83) (by decide +kernel) rfl ?_
      refine w_istore (n := 85) (i := 9) (l1' := [o0, o1, o2, o3, o4, o5, o6, some (.int y7), some (.int (y8 + y9)), some (.int (y9 >>> (1 &&& 31)))]) (l2' := []) (by decide +kernel) rfl (Nat.le_of_ble_eq_true rfl) rfl rfl ?_
      refine w_goto (n := 51) (off := (-34)) (by decide +kernel) (by decide) ?_
      exact h
theorem t_42 {X : ak_X} {M : ak_M} {r : ak_O × ak_M} (hL : ab_lay M) {b0 : Nat} (hb0 : b0 ∈ ab_fb) {k0 : Nat} (hk0 : k0 < 10) (h : (∃ (v2 : Int32) (M1 : ak_M), ab_lay M1 ∧ rn X 41 [.ref (b0 + 6 + k0), .int (ak_I M (b0 + 6 + k0) 4), .int (ak_I M (b0 + 6 + k0) 5), .int 0] M (.inl (some (.int v2)), M1) ∧ r = (.inl (some (.int v2)), M1))) : rn X 42 [.ref (b0 + 6 + k0)] M r := by
  refine w_rn (nL := 1) (l1 := [some (.ref (b0 + 6 + k0))]) (by decide +kernel) rfl rfl ?_
  refine w_aload_n (n := 1) (i := 0) (by decide +kernel) rfl rfl ?_
  refine w_aload_n (n := 2) (i := 0) (by decide +kernel) rfl rfl ?_
  refine w_getI (n := 5) hL (by decide +kernel) oO_42 fF_5_24 (af_K hb0 hk0) (by decide) rfl ?_
  refine w_aload_n (n := 6) (i := 0) (by decide +kernel) rfl rfl ?_
  refine w_getI (n := 9) hL (by decide +kernel) oO_42 fF_5_27 (af_K hb0 hk0) (by decide) rfl ?_
  refine w_iconst (n := 10) (v := 0) (x := 0) (by decide +kernel) rfl (by decide) ?_
  obtain ⟨v2, M1, hLM1, hr3, h⟩ := h
  refine w_cV (n := 13) (idx := 57) (cal := 41) (na := 3) (nl := 4) (as := [.int (ak_I M (b0 + 6 + k0) 4), .int (ak_I M (b0 + 6 + k0) 5), .int 0]) (rest := []) hL (by decide +kernel) (by decide +kernel) (af_K hb0 hk0) (by decide +kernel) rfl rfl rfl (Nat.le_of_ble_eq_true rfl) rfl hr3 ?_
  subst h
  exact w_ireturn (by decide +kernel) (w_okI (by decide +kernel))
theorem t_43 {X : ak_X} {M : ak_M} {r : ak_O × ak_M} (hL : ab_lay M) {b0 : Nat} (hb0 : b0 ∈ ab_fb) {k0 : Nat} (hk0 : k0 < 10) (h : (∃ (v2 : Int32) (M1 : ak_M), ab_lay M1 ∧ rn X 41 [.ref (b0 + 6 + k0), .int (ak_I M (b0 + 6 + k0) 4), .int (ak_I M (b0 + 6 + k0) 5), .int 0] M (.inl (some (.int v2)), M1) ∧ r = (.inl (some (.int ((ak_I M (b0 + 6 + k0) 6) - v2))), M1))) : rn X 43 [.ref (b0 + 6 + k0)] M r := by
  refine w_rn (nL := 1) (l1 := [some (.ref (b0 + 6 + k0))]) (by decide +kernel) rfl rfl ?_
  refine w_aload_n (n := 1) (i := 0) (by decide +kernel) rfl rfl ?_
  refine w_getI (n := 4) hL (by decide +kernel) oO_43 fF_5_30 (af_K hb0 hk0) (by decide) rfl ?_
  refine w_aload_n (n := 5) (i := 0) (by decide +kernel) rfl rfl ?_
  refine w_aload_n (n := 6) (i := 0) (by decide +kernel) rfl rfl ?_
  refine w_getI (n := 9) hL (by decide +kernel) oO_43 fF_5_24 (af_K hb0 hk0) (by decide) rfl ?_
  refine w_aload_n (n := 10) (i := 0) (by decide +kernel) rfl rfl ?_
  refine w_getI (n := 13) hL (by decide +kernel) oO_43 fF_5_27 (af_K hb0 hk0) (by decide) rfl ?_
  refine w_iconst (n := 14) (v := 0) (x := 0) (by decide +kernel) rfl (by decide) ?_
  obtain ⟨v2, M1, hLM1, hr3, h⟩ := h
  refine w_cV (n := 17) (idx := 57) (cal := 41) (na := 3) (nl := 4) (as := [.int (ak_I M (b0 + 6 + k0) 4), .int (ak_I M (b0 + 6 + k0) 5), .int 0]) (rest := [.int (ak_I M (b0 + 6 + k0) 6)]) hL (by decide +kernel) (by decide +kernel) (af_K hb0 hk0) (by decide +kernel) rfl rfl rfl (Nat.le_of_ble_eq_true rfl) rfl hr3 ?_
  refine w_isub (n := 18) (by decide +kernel) rfl ?_
  subst h
  exact w_ireturn (by decide +kernel) (w_okI (by decide +kernel))
theorem t_44 {X : ak_X} {M : ak_M} {r : ak_O × ak_M} (hL : ab_lay M) {b0 : Nat} (hb0 : b0 ∈ ab_fb) {k0 : Nat} (hk0 : k0 < 10) (h : (∃ (v2 : Int32) (M1 : ak_M), ab_lay M1 ∧ rn X 314 [.int (ak_I M (b0 + 6 + k0) 7)] M (.inl (some (.int v2)), M1) ∧ r = (.inl (some (.int ((ak_I M (b0 + 6 + k0) 8) * (1 + v2)))), M1))) : rn X 44 [.ref (b0 + 6 + k0)] M r := by
  refine w_rn (nL := 1) (l1 := [some (.ref (b0 + 6 + k0))]) (by decide +kernel) rfl rfl ?_
  refine w_aload_n (n := 1) (i := 0) (by decide +kernel) rfl rfl ?_
  refine w_getI (n := 4) hL (by decide +kernel) oO_44 fF_5_36 (af_K hb0 hk0) (by decide) rfl ?_
  refine w_iconst (n := 5) (v := 1) (x := 1) (by decide +kernel) rfl (by decide) ?_
  refine w_aload_n (n := 6) (i := 0) (by decide +kernel) rfl rfl ?_
  refine w_getI (n := 9) hL (by decide +kernel) oO_44 fF_5_33 (af_K hb0 hk0) (by decide) rfl ?_
  obtain ⟨v2, M1, hLM1, hr3, h⟩ := h
  refine w_cS (n := 12) (idx := 61) (cal := 314) (na := 1) (nl := 1) (as := [.int (ak_I M (b0 + 6 + k0) 7)]) (rest := [.int 1, .int (ak_I M (b0 + 6 + k0) 8)]) (by decide +kernel) (by decide +kernel) rfl rfl rfl (Nat.le_of_ble_eq_true rfl) rfl hr3 ?_
  refine w_iadd (n := 13) (by decide +kernel) rfl ?_
  refine w_imul (n := 14) (by decide +kernel) rfl ?_
  subst h
  exact w_ireturn (by decide +kernel) (w_okI (by decide +kernel))
theorem t_45 {X : ak_X} {M : ak_M} {r : ak_O × ak_M} (hL : ab_lay M) {b0 : Nat} (hb0 : b0 ∈ ab_fb) {k0 : Nat} (hk0 : k0 < 10) {b1 : Nat} (hb1 : b1 ∈ ab_fb) {k1 : Nat} (hk1 : k1 < 4) (h : (∃ (v2 : Int32) (M1 : ak_M), ab_lay M1 ∧ rn X 152 [.int ((ak_I M (b0 + 6 + k0) 1) + (ak_I M (b1 + 16 + k1) 1)), .int 0, .int 199] M (.inl (some (.int v2)), M1) ∧ (∀ M3 : ak_M, M3 = ak_sI M1 (b0 + 6 + k0) 1 v2 → (∃ (v5 : Int32) (M4 : ak_M), ab_lay M4 ∧ rn X 152 [.int ((ak_I M3 (b0 + 6 + k0) 2) + (ak_I M3 (b1 + 16 + k1) 2)), .int 0, .int 199] M3 (.inl (some (.int v5)), M4) ∧ (∀ M6 : ak_M, M6 = ak_sI M4 (b0 + 6 + k0) 2 v5 → r = (.inl none, M6)))))) : rn X 45 [.ref (b0 + 6 + k0), .ref (b1 + 16 + k1)] M r := by
  refine w_rn (nL := 2) (l1 := [some (.ref (b0 + 6 + k0)), some (.ref (b1 + 16 + k1))]) (by decide +kernel) rfl rfl ?_
  refine w_aload_n (n := 1) (i := 0) (by decide +kernel) rfl rfl ?_
  refine w_aload_n (n := 2) (i := 0) (by decide +kernel) rfl rfl ?_
  refine w_getI (n := 5) hL (by decide +kernel) oO_45 fF_5_15 (af_K hb0 hk0) (by decide) rfl ?_
  refine w_aload_n (n := 6) (i := 1) (by decide +kernel) rfl rfl ?_
  refine w_getI (n := 9) hL (by decide +kernel) oO_45 fF_5_67 (af_W hb1 hk1) (by decide) rfl ?_
  refine w_iadd (n := 10) (by decide +kernel) rfl ?_
  refine w_iconst (n := 11) (v := 0) (x := 0) (by decide +kernel) rfl (by decide) ?_
  refine w_sipush (n := 14) (v := 199) (x := 199) (by decide +kernel) rfl (by decide) ?_
  obtain ⟨v2, M1, hLM1, hr8, h⟩ := h
  refine w_cS (n := 17) (idx := 70) (cal := 152) (na := 3) (nl := 3) (as := [.int ((ak_I M (b0 + 6 + k0) 1) + (ak_I M (b1 + 16 + k1) 1)), .int 0, .int 199]) (rest := [.ref (b0 + 6 + k0)]) (by decide +kernel) (by decide +kernel) rfl rfl rfl (Nat.le_of_ble_eq_true rfl) rfl hr8 ?_
  refine w_putI (n := 20) hLM1 (by decide +kernel) oO_45 fF_5_15 (af_K hb0 hk0) ⟨by decide, Or.inl (by decide)⟩ rfl ?_
  generalize eM3 : ak_sI M1 (b0 + 6 + k0) 1 v2 = M3
  have hLM3 : ab_lay M3 := by rw [← eM3]; exact ab_lay.sI hLM1
  replace h := h M3 eM3.symm
  refine w_aload_n (n := 21) (i := 0) (by decide +kernel) rfl rfl ?_
  refine w_aload_n (n := 22) (i := 0) (by decide +kernel) rfl rfl ?_
  refine w_getI (n := 25) hLM3 (by decide +kernel) oO_45 fF_5_18 (af_K hb0 hk0) (by decide) rfl ?_
  refine w_aload_n (n := 26) (i := 1) (by decide +kernel) rfl rfl ?_
  refine w_getI (n := 29) hLM3 (by decide +kernel) oO_45 fF_5_73 (af_W hb1 hk1) (by decide) rfl ?_
  refine w_iadd (n := 30) (by decide +kernel) rfl ?_
  refine w_iconst (n := 31) (v := 0) (x := 0) (by decide +kernel) rfl (by decide) ?_
  refine w_sipush (n := 34) (v := 199) (x := 199) (by decide +kernel) rfl (by decide) ?_
  obtain ⟨v5, M4, hLM4, hr7, h⟩ := h
  refine w_cS (n := 37) (idx := 70) (cal := 152) (na := 3) (nl := 3) (as := [.int ((ak_I M3 (b0 + 6 + k0) 2) + (ak_I M3 (b1 + 16 + k1) 2)), .int 0, .int 199]) (rest := [.ref (b0 + 6 + k0)]) (by decide +kernel) (by decide +kernel) rfl rfl rfl (Nat.le_of_ble_eq_true rfl) rfl hr7 ?_
  refine w_putI (n := 40) hLM4 (by decide +kernel) oO_45 fF_5_18 (af_K hb0 hk0) ⟨by decide, Or.inl (by decide)⟩ rfl ?_
  generalize eM6 : ak_sI M4 (b0 + 6 + k0) 2 v5 = M6
  have hLM6 : ab_lay M6 := by rw [← eM6]; exact ab_lay.sI hLM4
  replace h := h M6 eM6.symm
  subst h
  exact w_vreturn (by decide +kernel) (by decide +kernel)
theorem t_46 {X : ak_X} {M : ak_M} {r : ak_O × ak_M} (hL : ab_lay M) {b0 : Nat} (hb0 : b0 ∈ ab_fb) {k0 : Nat} (hk0 : k0 < 10) (h : sg X 46 (2, [some (.ref (b0 + 6 + k0)), some (.int 0), none, none], [], []) M r) : rn X 46 [.ref (b0 + 6 + k0)] M r := by
  refine w_rn (nL := 4) (l1 := [some (.ref (b0 + 6 + k0)), none, none, none]) (by decide +kernel) rfl rfl ?_
  refine w_iconst (n := 1) (v := 0) (x := 0) (by decide +kernel) rfl (by decide) ?_
  refine w_istore_n (n := 2) (i := 1) (l1' := [some (.ref (b0 + 6 + k0)), some (.int 0), none, none]) (l2' := []) (by decide +kernel) rfl (Nat.le_of_ble_eq_true rfl) rfl rfl ?_
  exact h
theorem t_46_2 {X : ak_X} {M : ak_M} {r : ak_O × ak_M} (hL : ab_lay M) {b0 : Nat} (hb0 : b0 ∈ ab_fb) {k0 : Nat} (hk0 : k0 < 10) (y1 : Int32) (o2 : Option Value) (o3 : Option Value) (h : (if 1000 ≤ y1 then r = (.inl none, M) else (∃ (v2 : Int32) (M1 : ak_M), ab_lay M1 ∧ rn X 314 [.int ((ak_I M (b0 + 6 + k0) 1) - (ak_I M (b0 + 6 + k0) 4))] M (.inl (some (.int v2)), M1) ∧ (∃ (v4 : Int32) (M3 : ak_M), ab_lay M3 ∧ rn X 314 [.int ((ak_I M1 (b0 + 6 + k0) 2) - (ak_I M1 (b0 + 6 + k0) 5))] M1 (.inl (some (.int v4)), M3) ∧ (if ((ak_I M3 (b0 + 6 + k0) 6) + 1) * ((ak_I M3 (b0 + 6 + k0) 6) + 1) ≤ ((v2 * v2) + (v4 * v4)) + ((ak_I M3 (b0 + 6 + k0) 3) * (ak_I M3 (b0 + 6 + k0) 3)) then (if ak_I M3 (b0 + 6 + k0) 3 < v2 then (if v2 < v4 then (if ak_I M3 (b0 + 6 + k0) 2 ≤ ak_I M3 (b0 + 6 + k0) 5 then (∀ M5 : ak_M, M5 = ak_sI M3 (b0 + 6 + k0) 2 ((ak_I M3 (b0 + 6 + k0) 2) + 1) → sg X 46 (2, [some (.ref (b0 + 6 + k0)), some (.int (y1 + 1)), some (.int v2), some (.int v4)], [], []) M5 r) else (∀ M6 : ak_M, M6 = ak_sI M3 (b0 + 6 + k0) 2 ((ak_I M3 (b0 + 6 + k0) 2) + ((-1))) → sg X 46 (2, [some (.ref (b0 + 6 + k0)), some (.int (y1 + 1)), some (.int v2), some (.int v4)], [], []) M6 r)) else (if ak_I M3 (b0 + 6 + k0) 1 ≤ ak_I M3 (b0 + 6 + k0) 4 then (∀ M8 : ak_M, M8 = ak_sI M3 (b0 + 6 + k0) 1 ((ak_I M3 (b0 + 6 + k0) 1) + 1) → sg X 46 (2, [some (.ref (b0 + 6 + k0)), some (.int (y1 + 1)), some (.int v2), some (.int v4)], [], []) M8 r) else (∀ M9 : ak_M, M9 = ak_sI M3 (b0 + 6 + k0) 1 ((ak_I M3 (b0 + 6 + k0) 1) + ((-1))) → sg X 46 (2, [some (.ref (b0 + 6 + k0)), some (.int (y1 + 1)), some (.int v2), some (.int v4)], [], []) M9 r))) else (if ak_I M3 (b0 + 6 + k0) 3 < v4 then (if v2 < v4 then (if ak_I M3 (b0 + 6 + k0) 2 ≤ ak_I M3 (b0 + 6 + k0) 5 then (∀ M12 : ak_M, M12 = ak_sI M3 (b0 + 6 + k0) 2 ((ak_I M3 (b0 + 6 + k0) 2) + 1) → sg X 46 (2, [some (.ref (b0 + 6 + k0)), some (.int (y1 + 1)), some (.int v2), some (.int v4)], [], []) M12 r) else (∀ M13 : ak_M, M13 = ak_sI M3 (b0 + 6 + k0) 2 ((ak_I M3 (b0 + 6 + k0) 2) + ((-1))) → sg X 46 (2, [some (.ref (b0 + 6 + k0)), some (.int (y1 + 1)), some (.int v2), some (.int v4)], [], []) M13 r)) else (if ak_I M3 (b0 + 6 + k0) 1 ≤ ak_I M3 (b0 + 6 + k0) 4 then (∀ M15 : ak_M, M15 = ak_sI M3 (b0 + 6 + k0) 1 ((ak_I M3 (b0 + 6 + k0) 1) + 1) → sg X 46 (2, [some (.ref (b0 + 6 + k0)), some (.int (y1 + 1)), some (.int v2), some (.int v4)], [], []) M15 r) else (∀ M16 : ak_M, M16 = ak_sI M3 (b0 + 6 + k0) 1 ((ak_I M3 (b0 + 6 + k0) 1) + ((-1))) → sg X 46 (2, [some (.ref (b0 + 6 + k0)), some (.int (y1 + 1)), some (.int v2), some (.int v4)], [], []) M16 r))) else (∀ M19 : ak_M, M19 = ak_sI M3 (b0 + 6 + k0) 3 ((ak_I M3 (b0 + 6 + k0) 3) - 1) → sg X 46 (2, [some (.ref (b0 + 6 + k0)), some (.int (y1 + 1)), some (.int v2), some (.int v4)], [], []) M19 r))) else r = (.inl none, M3)))))) : sg X 46 (2, [some (.ref (b0 + 6 + k0)), some (.int y1), o2, o3], [], []) M r := by
  refine w_iload_n (n := 3) (i := 1) (by decide +kernel) rfl rfl ?_
  refine w_sipush (n := 6) (v := 1000) (x := 1000) (by decide +kernel) rfl (by decide) ?_
  by_cases c25 : 1000 ≤ y1
  · rw [if_pos c25] at h
    refine w_icmp_ge_j (n := 162) (off := 156) (by decide +kernel) (by decide) c25 ?_
    subst h
    exact w_vreturn (by decide +kernel) (by decide +kernel)
  · rw [if_neg c25] at h
    refine w_icmp_ge_n (n := 9) (off := 156) (by decide +kernel) rfl c25 ?_
    refine w_aload_n (n := 10) (i := 0) (by decide +kernel) rfl rfl ?_
    refine w_getI (n := 13) hL (by decide +kernel) oO_46 fF_5_15 (af_K hb0 hk0) (by decide) rfl ?_
    refine w_aload_n (n := 14) (i := 0) (by decide +kernel) rfl rfl ?_
    refine w_getI (n := 17) hL (by decide +kernel) oO_46 fF_5_24 (af_K hb0 hk0) (by decide) rfl ?_
    refine w_isub (n := 18) (by decide +kernel) rfl ?_
    obtain ⟨v2, M1, hLM1, hr24, h⟩ := h
    refine w_cS (n := 21) (idx := 61) (cal := 314) (na := 1) (nl := 1) (as := [.int ((ak_I M (b0 + 6 + k0) 1) - (ak_I M (b0 + 6 + k0) 4))]) (rest := []) (by decide +kernel) (by decide +kernel) rfl rfl rfl (Nat.le_of_ble_eq_true rfl) rfl hr24 ?_
    refine w_istore_n (n := 22) (i := 2) (l1' := [some (.ref (b0 + 6 + k0)), some (.int y1), some (.int v2), o3]) (l2' := []) (by decide +kernel) rfl (Nat.le_of_ble_eq_true rfl) rfl rfl ?_
    refine w_aload_n (n := 23) (i := 0) (by decide +kernel) rfl rfl ?_
    refine w_getI (n := 26) hLM1 (by decide +kernel) oO_46 fF_5_18 (af_K hb0 hk0) (by decide) rfl ?_
    refine w_aload_n (n := 27) (i := 0) (by decide +kernel) rfl rfl ?_
    refine w_getI (n := 30) hLM1 (by decide +kernel) oO_46 fF_5_27 (af_K hb0 hk0) (by decide) rfl ?_
    refine w_isub (n := 31) (by decide +kernel) rfl ?_
    obtain ⟨v4, M3, hLM3, hr23, h⟩ := h
    refine w_cS (n := 34) (idx := 61) (cal := 314) (na := 1) (nl := 1) (as := [.int ((ak_I M1 (b0 + 6 + k0) 2) - (ak_I M1 (b0 + 6 + k0) 5))]) (rest := []) (by decide +kernel) (by decide +kernel) rfl rfl rfl (Nat.le_of_ble_eq_true rfl) rfl hr23 ?_
    refine w_istore_n (n := 35) (i := 3) (l1' := [some (.ref (b0 + 6 + k0)), some (.int y1), some (.int v2), some (.int v4)]) (l2' := []) (by decide +kernel) rfl (Nat.le_of_ble_eq_true rfl) rfl rfl ?_
    refine w_iload_n (n := 36) (i := 2) (by decide +kernel) rfl rfl ?_
    refine w_iload_n (n := 37) (i := 2) (by decide +kernel) rfl rfl ?_
    refine w_imul (n := 38) (by decide +kernel) rfl ?_
    refine w_iload_n (n := 39) (i := 3) (by decide +kernel) rfl rfl ?_
    refine w_iload_n (n := 40) (i := 3) (by decide +kernel) rfl rfl ?_
    refine w_imul (n := 41) (by decide +kernel) rfl ?_
    refine w_iadd (n := 42) (by decide +kernel) rfl ?_
    refine w_aload_n (n := 43) (i := 0) (by decide +kernel) rfl rfl ?_
    refine w_getI (n := 46) hLM3 (by decide +kernel) oO_46 fF_5_21 (af_K hb0 hk0) (by decide) rfl ?_
    refine w_aload_n (n := 47) (i := 0) (by decide +kernel) rfl rfl ?_
    refine w_getI (n := 50) hLM3 (by decide +kernel) oO_46 fF_5_21 (af_K hb0 hk0) (by decide) rfl ?_
    refine w_imul (n := 51) (by decide +kernel) rfl ?_
    refine w_iadd (n := 52) (by decide +kernel) rfl ?_
    refine w_aload_n (n := 53) (i := 0) (by decide +kernel) rfl rfl ?_
    refine w_getI (n := 56) hLM3 (by decide +kernel) oO_46 fF_5_30 (af_K hb0 hk0) (by decide) rfl ?_
    refine w_iconst (n := 57) (v := 1) (x := 1) (by decide +kernel) rfl (by decide) ?_
    refine w_iadd (n := 58) (by decide +kernel) rfl ?_
    refine w_aload_n (n := 59) (i := 0) (by decide +kernel) rfl rfl ?_
    refine w_getI (n := 62) hLM3 (by decide +kernel) oO_46 fF_5_30 (af_K hb0 hk0) (by decide) rfl ?_
    refine w_iconst (n := 63) (v := 1) (x := 1) (by decide +kernel) rfl (by decide) ?_
    refine w_iadd (n := 64) (by decide +kernel) rfl ?_
    refine w_imul (n := 65) (by decide +kernel) rfl ?_
    by_cases c22 : ((ak_I M3 (b0 + 6 + k0) 6) + 1) * ((ak_I M3 (b0 + 6 + k0) 6) + 1) ≤ ((v2 * v2) + (v4 * v4)) + ((ak_I M3 (b0 + 6 + k0) 3) * (ak_I M3 (b0 + 6 + k0) 3))
    · rw [if_pos c22] at h
      refine w_icmp_ge_j (n := 69) (off := 4) (by decide +kernel) (by decide) c22 ?_
      refine w_aload_n (n := 70) (i := 0) (by decide +kernel) rfl rfl ?_
      refine w_getI (n := 73) hLM3 (by decide +kernel) oO_46 fF_5_21 (af_K hb0 hk0) (by decide) rfl ?_
      refine w_iload_n (n := 74) (i := 2) (by decide +kernel) rfl rfl ?_
      by_cases c21 : ak_I M3 (b0 + 6 + k0) 3 < v2
      · rw [if_pos c21] at h
        refine w_icmp_lt_j (n := 98) (off := 24) (by decide +kernel) (by decide) c21 ?_
        refine w_iload_n (n := 99) (i := 2) (by decide +kernel) rfl rfl ?_
        refine w_iload_n (n := 100) (i := 3) (by decide +kernel) rfl rfl ?_
        by_cases c11 : v2 < v4
        · rw [if_pos c11] at h
          refine w_icmp_lt_j (n := 131) (off := 31) (by decide +kernel) (by decide) c11 ?_
          refine w_aload_n (n := 132) (i := 0) (by decide +kernel) rfl rfl ?_
          refine w_dup_ref (n := 133) (by decide +kernel) rfl ?_
          refine w_getI (n := 136) hLM3 (by decide +kernel) oO_46 fF_5_18 (af_K hb0 hk0) (by decide) rfl ?_
          refine w_aload_n (n := 137) (i := 0) (by decide +kernel) rfl rfl ?_
          refine w_getI (n := 140) hLM3 (by decide +kernel) oO_46 fF_5_18 (af_K hb0 hk0) (by decide) rfl ?_
          refine w_aload_n (n := 141) (i := 0) (by decide +kernel) rfl rfl ?_
          refine w_getI (n := 144) hLM3 (by decide +kernel) oO_46 fF_5_27 (af_K hb0 hk0) (by decide) rfl ?_
          by_cases c7 : ak_I M3 (b0 + 6 + k0) 2 ≤ ak_I M3 (b0 + 6 + k0) 5
          · rw [if_pos c7] at h
            refine w_icmp_le_j (n := 151) (off := 7) (by decide +kernel) (by decide) c7 ?_
            refine w_iconst (n := 152) (v := 1) (x := 1) (by decide +kernel) rfl (by decide) ?_
            refine w_iadd (n := 153) (by decide +kernel) rfl ?_
            refine w_putI (n := 156) hLM3 (by decide +kernel) oO_46 fF_5_18 (af_K hb0 hk0) ⟨by decide, Or.inl (by decide)⟩ rfl ?_
            generalize eM5 : ak_sI M3 (b0 + 6 + k0) 2 ((ak_I M3 (b0 + 6 + k0) 2) + 1) = M5
            have hLM5 : ab_lay M5 := by rw [← eM5]; exact ab_lay.sI hLM3
            replace h := h M5 eM5.symm
            refine w_iinc (n := 159) (i := 1) (v := 1) (y := y1 + 1) (l1' := [some (.ref (b0 + 6 + k0)), some (.int (y1 + 1)), some (.int v2), some (.int v4)]) (l2' := []) (by decide +kernel) rfl rfl rfl rfl rfl ?_
            refine w_goto (n := 2) (off := (-157)) (by decide +kernel) (by decide) ?_
            exact h
          · rw [if_neg c7] at h
            refine w_icmp_le_n (n := 147) (off := 7) (by decide +kernel) rfl c7 ?_
            refine w_iconst (n := 148) (v := -1) (x := (-1)) (by decide +kernel) rfl (by decide) ?_
            refine w_goto (n := 152) (off := 4) (by decide +kernel) (by decide) ?_
            refine w_iadd (n := 153) (by decide +kernel) rfl ?_
            refine w_putI (n := 156) hLM3 (by decide +kernel) oO_46 fF_5_18 (af_K hb0 hk0) ⟨by decide, Or.inl (by decide)⟩ rfl ?_
            generalize eM6 : ak_sI M3 (b0 + 6 + k0) 2 ((ak_I M3 (b0 + 6 + k0) 2) + ((-1))) = M6
            have hLM6 : ab_lay M6 := by rw [← eM6]; exact ab_lay.sI hLM3
            replace h := h M6 eM6.symm
            refine w_iinc (n := 159) (i := 1) (v := 1) (y := y1 + 1) (l1' := [some (.ref (b0 + 6 + k0)), some (.int (y1 + 1)), some (.int v2), some (.int v4)]) (l2' := []) (by decide +kernel) rfl rfl rfl rfl rfl ?_
            refine w_goto (n := 2) (off := (-157)) (by decide +kernel) (by decide) ?_
            exact h
        · rw [if_neg c11] at h
          refine w_icmp_lt_n (n := 103) (off := 31) (by decide +kernel) rfl c11 ?_
          refine w_aload_n (n := 104) (i := 0) (by decide +kernel) rfl rfl ?_
          refine w_dup_ref (n := 105) (by decide +kernel) rfl ?_
          refine w_getI (n := 108) hLM3 (by decide +kernel) oO_46 fF_5_15 (af_K hb0 hk0) (by decide) rfl ?_
          refine w_aload_n (n := 109) (i := 0) (by decide +kernel) rfl rfl ?_
          refine w_getI (n := 112) hLM3 (by decide +kernel) oO_46 fF_5_15 (af_K hb0 hk0) (by decide) rfl ?_
          refine w_aload_n (n := 113) (i := 0) (by decide +kernel) rfl rfl ?_
          refine w_getI (n := 116) hLM3 (by decide +kernel) oO_46 fF_5_24 (af_K hb0 hk0) (by decide) rfl ?_
          by_cases c10 : ak_I M3 (b0 + 6 + k0) 1 ≤ ak_I M3 (b0 + 6 + k0) 4
          · rw [if_pos c10] at h
            refine w_icmp_le_j (n := 123) (off := 7) (by decide +kernel) (by decide) c10 ?_
            refine w_iconst (n := 124) (v := 1) (x := 1) (by decide +kernel) rfl (by decide) ?_
            refine w_iadd (n := 125) (by decide +kernel) rfl ?_
            refine w_putI (n := 128) hLM3 (by decide +kernel) oO_46 fF_5_15 (af_K hb0 hk0) ⟨by decide, Or.inl (by decide)⟩ rfl ?_
            generalize eM8 : ak_sI M3 (b0 + 6 + k0) 1 ((ak_I M3 (b0 + 6 + k0) 1) + 1) = M8
            have hLM8 : ab_lay M8 := by rw [← eM8]; exact ab_lay.sI hLM3
            replace h := h M8 eM8.symm
            refine w_goto (n := 156) (off := 28) (by decide +kernel) (by decide) ?_
            refine w_iinc (n := 159) (i := 1) (v := 1) (y := y1 + 1) (l1' := [some (.ref (b0 + 6 + k0)), some (.int (y1 + 1)), some (.int v2), some (.int v4)]) (l2' := []) (by decide +kernel) rfl rfl rfl rfl rfl ?_
            refine w_goto (n := 2) (off := (-157)) (by decide +kernel) (by decide) ?_
            exact h
          · rw [if_neg c10] at h
            refine w_icmp_le_n (n := 119) (off := 7) (by decide +kernel) rfl c10 ?_
            refine w_iconst (n := 120) (v := -1) (x := (-1)) (by decide +kernel) rfl (by decide) ?_
            refine w_goto (n := 124) (off := 4) (by decide +kernel) (by decide) ?_
            refine w_iadd (n := 125) (by decide +kernel) rfl ?_
            refine w_putI (n := 128) hLM3 (by decide +kernel) oO_46 fF_5_15 (af_K hb0 hk0) ⟨by decide, Or.inl (by decide)⟩ rfl ?_
            generalize eM9 : ak_sI M3 (b0 + 6 + k0) 1 ((ak_I M3 (b0 + 6 + k0) 1) + ((-1))) = M9
            have hLM9 : ab_lay M9 := by rw [← eM9]; exact ab_lay.sI hLM3
            replace h := h M9 eM9.symm
            refine w_goto (n := 156) (off := 28) (by decide +kernel) (by decide) ?_
            refine w_iinc (n := 159) (i := 1) (v := 1) (y := y1 + 1) (l1' := [some (.ref (b0 + 6 + k0)), some (.int (y1 + 1)), some (.int v2), some (.int v4)]) (l2' := []) (by decide +kernel) rfl rfl rfl rfl rfl ?_
            refine w_goto (n := 2) (off := (-157)) (by decide +kernel) (by decide) ?_
            exact h
      · rw [if_neg c21] at h
        refine w_icmp_lt_n (n := 77) (off := 24) (by decide +kernel) rfl c21 ?_
        refine w_aload_n (n := 78) (i := 0) (by decide +kernel) rfl rfl ?_
        refine w_getI (n := 81) hLM3 (by decide +kernel) oO_46 fF_5_21 (af_K hb0 hk0) (by decide) rfl ?_
        refine w_iload_n (n := 82) (i := 3) (by decide +kernel) rfl rfl ?_
        by_cases c20 : ak_I M3 (b0 + 6 + k0) 3 < v4
        · rw [if_pos c20] at h
          refine w_icmp_lt_j (n := 98) (off := 16) (by decide +kernel) (by decide) c20 ?_
          refine w_iload_n (n := 99) (i := 2) (by decide +kernel) rfl rfl ?_
          refine w_iload_n (n := 100) (i := 3) (by decide +kernel) rfl rfl ?_
          by_cases c18 : v2 < v4
          · rw [if_pos c18] at h
            refine w_icmp_lt_j (n := 131) (off := 31) (by decide +kernel) (by decide) c18 ?_
            refine w_aload_n (n := 132) (i := 0) (by decide +kernel) rfl rfl ?_
            refine w_dup_ref (n := 133) (by decide +kernel) rfl ?_
            refine w_getI (n := 136) hLM3 (by decide +kernel) oO_46 fF_5_18 (af_K hb0 hk0) (by decide) rfl ?_
            refine w_aload_n (n := 137) (i := 0) (by decide +kernel) rfl rfl ?_
            refine w_getI (n := 140) hLM3 (by decide +kernel) oO_46 fF_5_18 (af_K hb0 hk0) (by decide) rfl ?_
            refine w_aload_n (n := 141) (i := 0) (by decide +kernel) rfl rfl ?_
            refine w_getI (n := 144) hLM3 (by decide +kernel) oO_46 fF_5_27 (af_K hb0 hk0) (by decide) rfl ?_
            by_cases c14 : ak_I M3 (b0 + 6 + k0) 2 ≤ ak_I M3 (b0 + 6 + k0) 5
            · rw [if_pos c14] at h
              refine w_icmp_le_j (n := 151) (off := 7) (by decide +kernel) (by decide) c14 ?_
              refine w_iconst (n := 152) (v := 1) (x := 1) (by decide +kernel) rfl (by decide) ?_
              refine w_iadd (n := 153) (by decide +kernel) rfl ?_
              refine w_putI (n := 156) hLM3 (by decide +kernel) oO_46 fF_5_18 (af_K hb0 hk0) ⟨by decide, Or.inl (by decide)⟩ rfl ?_
              generalize eM12 : ak_sI M3 (b0 + 6 + k0) 2 ((ak_I M3 (b0 + 6 + k0) 2) + 1) = M12
              have hLM12 : ab_lay M12 := by rw [← eM12]; exact ab_lay.sI hLM3
              replace h := h M12 eM12.symm
              refine w_iinc (n := 159) (i := 1) (v := 1) (y := y1 + 1) (l1' := [some (.ref (b0 + 6 + k0)), some (.int (y1 + 1)), some (.int v2), some (.int v4)]) (l2' := []) (by decide +kernel) rfl rfl rfl rfl rfl ?_
              refine w_goto (n := 2) (off := (-157)) (by decide +kernel) (by decide) ?_
              exact h
            · rw [if_neg c14] at h
              refine w_icmp_le_n (n := 147) (off := 7) (by decide +kernel) rfl c14 ?_
              refine w_iconst (n := 148) (v := -1) (x := (-1)) (by decide +kernel) rfl (by decide) ?_
              refine w_goto (n := 152) (off := 4) (by decide +kernel) (by decide) ?_
              refine w_iadd (n := 153) (by decide +kernel) rfl ?_
              refine w_putI (n := 156) hLM3 (by decide +kernel) oO_46 fF_5_18 (af_K hb0 hk0) ⟨by decide, Or.inl (by decide)⟩ rfl ?_
              generalize eM13 : ak_sI M3 (b0 + 6 + k0) 2 ((ak_I M3 (b0 + 6 + k0) 2) + ((-1))) = M13
              have hLM13 : ab_lay M13 := by rw [← eM13]; exact ab_lay.sI hLM3
              replace h := h M13 eM13.symm
              refine w_iinc (n := 159) (i := 1) (v := 1) (y := y1 + 1) (l1' := [some (.ref (b0 + 6 + k0)), some (.int (y1 + 1)), some (.int v2), some (.int v4)]) (l2' := []) (by decide +kernel) rfl rfl rfl rfl rfl ?_
              refine w_goto (n := 2) (off := (-157)) (by decide +kernel) (by decide) ?_
              exact h
          · rw [if_neg c18] at h
            refine w_icmp_lt_n (n := 103) (off := 31) (by decide +kernel) rfl c18 ?_
            refine w_aload_n (n := 104) (i := 0) (by decide +kernel) rfl rfl ?_
            refine w_dup_ref (n := 105) (by decide +kernel) rfl ?_
            refine w_getI (n := 108) hLM3 (by decide +kernel) oO_46 fF_5_15 (af_K hb0 hk0) (by decide) rfl ?_
            refine w_aload_n (n := 109) (i := 0) (by decide +kernel) rfl rfl ?_
            refine w_getI (n := 112) hLM3 (by decide +kernel) oO_46 fF_5_15 (af_K hb0 hk0) (by decide) rfl ?_
            refine w_aload_n (n := 113) (i := 0) (by decide +kernel) rfl rfl ?_
            refine w_getI (n := 116) hLM3 (by decide +kernel) oO_46 fF_5_24 (af_K hb0 hk0) (by decide) rfl ?_
            by_cases c17 : ak_I M3 (b0 + 6 + k0) 1 ≤ ak_I M3 (b0 + 6 + k0) 4
            · rw [if_pos c17] at h
              refine w_icmp_le_j (n := 123) (off := 7) (by decide +kernel) (by decide) c17 ?_
              refine w_iconst (n := 124) (v := 1) (x := 1) (by decide +kernel) rfl (by decide) ?_
              refine w_iadd (n := 125) (by decide +kernel) rfl ?_
              refine w_putI (n := 128) hLM3 (by decide +kernel) oO_46 fF_5_15 (af_K hb0 hk0) ⟨by decide, Or.inl (by decide)⟩ rfl ?_
              generalize eM15 : ak_sI M3 (b0 + 6 + k0) 1 ((ak_I M3 (b0 + 6 + k0) 1) + 1) = M15
              have hLM15 : ab_lay M15 := by rw [← eM15]; exact ab_lay.sI hLM3
              replace h := h M15 eM15.symm
              refine w_goto (n := 156) (off := 28) (by decide +kernel) (by decide) ?_
              refine w_iinc (n := 159) (i := 1) (v := 1) (y := y1 + 1) (l1' := [some (.ref (b0 + 6 + k0)), some (.int (y1 + 1)), some (.int v2), some (.int v4)]) (l2' := []) (by decide +kernel) rfl rfl rfl rfl rfl ?_
              refine w_goto (n := 2) (off := (-157)) (by decide +kernel) (by decide) ?_
              exact h
            · rw [if_neg c17] at h
              refine w_icmp_le_n (n := 119) (off := 7) (by decide +kernel) rfl c17 ?_
              refine w_iconst (n := 120) (v := -1) (x := (-1)) (by decide +kernel) rfl (by decide) ?_
              refine w_goto (n := 124) (off := 4) (by decide +kernel) (by decide) ?_
              refine w_iadd (n := 125) (by decide +kernel) rfl ?_
              refine w_putI (n := 128) hLM3 (by decide +kernel) oO_46 fF_5_15 (af_K hb0 hk0) ⟨by decide, Or.inl (by decide)⟩ rfl ?_
              generalize eM16 : ak_sI M3 (b0 + 6 + k0) 1 ((ak_I M3 (b0 + 6 + k0) 1) + ((-1))) = M16
              have hLM16 : ab_lay M16 := by rw [← eM16]; exact ab_lay.sI hLM3
              replace h := h M16 eM16.symm
              refine w_goto (n := 156) (off := 28) (by decide +kernel) (by decide) ?_
              refine w_iinc (n := 159) (i := 1) (v := 1) (y := y1 + 1) (l1' := [some (.ref (b0 + 6 + k0)), some (.int (y1 + 1)), some (.int v2), some (.int v4)]) (l2' := []) (by decide +kernel) rfl rfl rfl rfl rfl ?_
              refine w_goto (n := 2) (off := (-157)) (by decide +kernel) (by decide) ?_
              exact h
        · rw [if_neg c20] at h
          refine w_icmp_lt_n (n := 85) (off := 16) (by decide +kernel) rfl c20 ?_
          refine w_aload_n (n := 86) (i := 0) (by decide +kernel) rfl rfl ?_
          refine w_dup_ref (n := 87) (by decide +kernel) rfl ?_
          refine w_getI (n := 90) hLM3 (by decide +kernel) oO_46 fF_5_21 (af_K hb0 hk0) (by decide) rfl ?_
          refine w_iconst (n := 91) (v := 1) (x := 1) (by decide +kernel) rfl (by decide) ?_
          refine w_isub (n := 92) (by decide +kernel) rfl ?_
          refine w_putI (n := 95) hLM3 (by decide +kernel) oO_46 fF_5_21 (af_K hb0 hk0) ⟨by decide, Or.inl (by decide)⟩ rfl ?_
          generalize eM19 : ak_sI M3 (b0 + 6 + k0) 3 ((ak_I M3 (b0 + 6 + k0) 3) - 1) = M19
          have hLM19 : ab_lay M19 := by rw [← eM19]; exact ab_lay.sI hLM3
          replace h := h M19 eM19.symm
          refine w_goto (n := 156) (off := 61) (by decide +kernel) (by decide) ?_
          refine w_iinc (n := 159) (i := 1) (v := 1) (y := y1 + 1) (l1' := [some (.ref (b0 + 6 + k0)), some (.int (y1 + 1)), some (.int v2), some (.int v4)]) (l2' := []) (by decide +kernel) rfl rfl rfl rfl rfl ?_
          refine w_goto (n := 2) (off := (-157)) (by decide +kernel) (by decide) ?_
          exact h
    · rw [if_neg c22] at h
      refine w_icmp_ge_n (n := 68) (off := 4) (by decide +kernel) rfl c22 ?_
      subst h
      exact w_vreturn (by decide +kernel) (by decide +kernel)
theorem t_82 {X : ak_X} {M : ak_M} {r : ak_O × ak_M} (hL : ab_lay M) {b0 : Nat} (hb0 : b0 ∈ ab_fb) {k0 : Nat} (hk0 : k0 < 4) {b1 : Nat} (hb1 : b1 ∈ ab_fb) {k1 : Nat} (hk1 : k1 < 4) (h : (∃ (M1 : ak_M), ab_lay M1 ∧ rn X 83 [.ref (b0 + 16 + k0), .int (ak_I M (b1 + 16 + k1) 0), .int (ak_I M (b1 + 16 + k1) 1), .int (ak_I M (b1 + 16 + k1) 2)] M (.inl (none), M1) ∧ r = (.inl none, M1))) : rn X 82 [.ref (b0 + 16 + k0), .ref (b1 + 16 + k1)] M r := by
  refine w_rn (nL := 2) (l1 := [some (.ref (b0 + 16 + k0)), some (.ref (b1 + 16 + k1))]) (by decide +kernel) rfl rfl ?_
  refine w_aload_n (n := 1) (i := 0) (by decide +kernel) rfl rfl ?_
  refine w_aload_n (n := 2) (i := 1) (by decide +kernel) rfl rfl ?_
  refine w_getI (n := 5) hL (by decide +kernel) oO_82 fF_10_7 (af_W hb1 hk1) (by decide) rfl ?_
  refine w_aload_n (n := 6) (i := 1) (by decide +kernel) rfl rfl ?_
  refine w_getI (n := 9) hL (by decide +kernel) oO_82 fF_10_13 (af_W hb1 hk1) (by decide) rfl ?_
  refine w_aload_n (n := 10) (i := 1) (by decide +kernel) rfl rfl ?_
  refine w_getI (n := 13) hL (by decide +kernel) oO_82 fF_10_16 (af_W hb1 hk1) (by decide) rfl ?_
  obtain ⟨M1, hLM1, hr2, h⟩ := h
  refine w_cV (n := 16) (idx := 19) (cal := 83) (na := 3) (nl := 4) (as := [.int (ak_I M (b1 + 16 + k1) 0), .int (ak_I M (b1 + 16 + k1) 1), .int (ak_I M (b1 + 16 + k1) 2)]) (rest := []) hL (by decide +kernel) (by decide +kernel) (af_W hb0 hk0) (by decide +kernel) rfl rfl rfl (Nat.le_of_ble_eq_true rfl) rfl hr2 ?_
  subst h
  exact w_vreturn (by decide +kernel) (by decide +kernel)
theorem t_83 {X : ak_X} {M : ak_M} {r : ak_O × ak_M} (hL : ab_lay M) {b0 : Nat} (hb0 : b0 ∈ ab_fb) {k0 : Nat} (hk0 : k0 < 4) (x1 : Int32) (x2 : Int32) (x3 : Int32) (h : (∀ M1 : ak_M, M1 = ak_sI M (b0 + 16 + k0) 0 x1 → (∀ M2 : ak_M, M2 = ak_sI M1 (b0 + 16 + k0) 1 x2 → (∀ M3 : ak_M, M3 = ak_sI M2 (b0 + 16 + k0) 2 x3 → r = (.inl none, M3))))) : rn X 83 [.ref (b0 + 16 + k0), .int x1, .int x2, .int x3] M r := by
  refine w_rn (nL := 4) (l1 := [some (.ref (b0 + 16 + k0)), some (.int x1), some (.int x2), some (.int x3)]) (by decide +kernel) rfl rfl ?_
  refine w_aload_n (n := 1) (i := 0) (by decide +kernel) rfl rfl ?_
  refine w_iload_n (n := 2) (i := 1) (by decide +kernel) rfl rfl ?_
  refine w_putI (n := 5) hL (by decide +kernel) oO_83 fF_10_7 (af_W hb0 hk0) ⟨by decide, Or.inl (by decide)⟩ rfl ?_
  generalize eM1 : ak_sI M (b0 + 16 + k0) 0 x1 = M1
  have hLM1 : ab_lay M1 := by rw [← eM1]; exact ab_lay.sI hL
  replace h := h M1 eM1.symm
  refine w_aload_n (n := 6) (i := 0) (by decide +kernel) rfl rfl ?_
  refine w_iload_n (n := 7) (i := 2) (by decide +kernel) rfl rfl ?_
  refine w_putI (n := 10) hLM1 (by decide +kernel) oO_83 fF_10_13 (af_W hb0 hk0) ⟨by decide, Or.inl (by decide)⟩ rfl ?_
  generalize eM2 : ak_sI M1 (b0 + 16 + k0) 1 x2 = M2
  have hLM2 : ab_lay M2 := by rw [← eM2]; exact ab_lay.sI hLM1
  replace h := h M2 eM2.symm
  refine w_aload_n (n := 11) (i := 0) (by decide +kernel) rfl rfl ?_
  refine w_iload_n (n := 12) (i := 3) (by decide +kernel) rfl rfl ?_
  refine w_putI (n := 15) hLM2 (by decide +kernel) oO_83 fF_10_16 (af_W hb0 hk0) ⟨by decide, Or.inl (by decide)⟩ rfl ?_
  generalize eM3 : ak_sI M2 (b0 + 16 + k0) 2 x3 = M3
  have hLM3 : ab_lay M3 := by rw [← eM3]; exact ab_lay.sI hLM2
  replace h := h M3 eM3.symm
  subst h
  exact w_vreturn (by decide +kernel) (by decide +kernel)
theorem t_84 {X : ak_X} {M : ak_M} {r : ak_O × ak_M} (hL : ab_lay M) {b0 : Nat} (hb0 : b0 ∈ ab_fb) {k0 : Nat} (hk0 : k0 < 4) (h : (∃ (v2 : Int32) (M1 : ak_M), ab_lay M1 ∧ rn X 314 [.int (ak_I M (b0 + 16 + k0) 1)] M (.inl (some (.int v2)), M1) ∧ (∃ (v4 : Int32) (M3 : ak_M), ab_lay M3 ∧ rn X 314 [.int (ak_I M1 (b0 + 16 + k0) 2)] M1 (.inl (some (.int v4)), M3) ∧ (∃ (v6 : Int32) (M5 : ak_M), ab_lay M5 ∧ rn X 315 [.int v2, .int v4] M3 (.inl (some (.int v6)), M5) ∧ r = (.inl (some (.int v6)), M5))))) : rn X 84 [.ref (b0 + 16 + k0)] M r := by
  refine w_rn (nL := 1) (l1 := [some (.ref (b0 + 16 + k0))]) (by decide +kernel) rfl rfl ?_
  refine w_aload_n (n := 1) (i := 0) (by decide +kernel) rfl rfl ?_
  refine w_getI (n := 4) hL (by decide +kernel) oO_84 fF_10_13 (af_W hb0 hk0) (by decide) rfl ?_
  obtain ⟨v2, M1, hLM1, hr9, h⟩ := h
  refine w_cS (n := 7) (idx := 23) (cal := 314) (na := 1) (nl := 1) (as := [.int (ak_I M (b0 + 16 + k0) 1)]) (rest := []) (by decide +kernel) (by decide +kernel) rfl rfl rfl (Nat.le_of_ble_eq_true rfl) rfl hr9 ?_
  refine w_aload_n (n := 8) (i := 0) (by decide +kernel) rfl rfl ?_
  refine w_getI (n := 11) hLM1 (by decide +kernel) oO_84 fF_10_16 (af_W hb0 hk0) (by decide) rfl ?_
  obtain ⟨v4, M3, hLM3, hr8, h⟩ := h
  refine w_cS (n := 14) (idx := 23) (cal := 314) (na := 1) (nl := 1) (as := [.int (ak_I M1 (b0 + 16 + k0) 2)]) (rest := [.int v2]) (by decide +kernel) (by decide +kernel) rfl rfl rfl (Nat.le_of_ble_eq_true rfl) rfl hr8 ?_
  obtain ⟨v6, M5, hLM5, hr7, h⟩ := h
  refine w_cS (n := 17) (idx := 29) (cal := 315) (na := 2) (nl := 2) (as := [.int v2, .int v4]) (rest := []) (by decide +kernel) (by decide +kernel) rfl rfl rfl (Nat.le_of_ble_eq_true rfl) rfl hr7 ?_
  subst h
  exact w_ireturn (by decide +kernel) (w_okI (by decide +kernel))
