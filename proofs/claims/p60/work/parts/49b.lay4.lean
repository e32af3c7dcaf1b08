/-! refs and ints of the start -/
set_option maxRecDepth 1000000 in
theorem al_R0 : al_ckR 0 130 = true := by decide +kernel
set_option maxRecDepth 1000000 in
theorem al_R1 : al_ckR 130 120 = true := by decide +kernel
set_option maxRecDepth 1000000 in
theorem al_R2 : al_ckR 250 120 = true := by decide +kernel
set_option maxRecDepth 1000000 in
theorem al_R3 : al_ckR 370 113 = true := by decide +kernel
set_option maxRecDepth 1000000 in
theorem al_I0 : al_ckI [(0, 11), (1, 2), (3, 2), (5, 7), (38, 3), (52, 3), (65, 11)] = true := by decide +kernel
set_option maxRecDepth 1000000 in
theorem al_I1 : al_ckI [(69, 6), (81, 3), (161, 3)] = true := by decide +kernel
theorem al_lay : ab_lay al_M4 := by
  refine ⟨by have h := (al_Pof al_L4).trans al_4P; show 483 ≤ ak_P (al_all al_L4 ak_M0) ∧ ak_P (al_all al_L4 ak_M0) ≤ 800000; omega, fun p hp => ?_, fun p hp k hk => ?_⟩
  · have h1 := (al_kof al_L4).2 p (by rw [al_4P]; exact hp)
    rw [al_4k, List.getElem?_map, List.getElem?_range hp] at h1
    have h2 := Option.some.inj h1
    exact ⟨(congrArg Prod.fst h2).symm, (congrArg Prod.snd h2).symm⟩
  · have key : al_R al_L4 483 p k = ab_R p k := by
      have go : ∀ a n, al_ckR a n = true → a ≤ p → p < a + n → al_R al_L4 483 p k = ab_R p k := fun a n h h1 h2 =>
        of_decide_eq_true (List.all_eq_true.mp (List.all_eq_true.mp h p (List.mem_range'_1.mpr ⟨h1, h2⟩)) k (List.mem_range.mpr hk))
      by_cases h1 : p < 130
      · exact go 0 130 al_R0 (Nat.zero_le _) (by omega)
      · by_cases h2 : p < 250
        · exact go 130 120 al_R1 (by omega) (by omega)
        · by_cases h3 : p < 370
          · exact go 250 120 al_R2 (by omega) (by omega)
          · exact go 370 113 al_R3 (by omega) (by omega)
    have h := al_Rof al_L4 p k
    rw [al_4P] at h
    exact h.symm.trans key
