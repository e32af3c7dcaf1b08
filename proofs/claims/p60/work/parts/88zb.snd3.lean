/-! the class is sound: the loops -/
section SND3
variable {X : ak_X} {M M' M0 : ak_M} {σ : Nat → Int32} {ρ : Nat → Nat → Int32} {hn nk nw i j k a b : Nat} {v w : Int32} {as : List Value}
theorem w_z {Z Z' A : ak_O × ak_M → Prop} : Wz Z A → (∀ r, Z r → Z' r) → Wz Z' A := fun ⟨r, z, g⟩ h => ⟨r, h r z, g⟩
theorem pr_st (r : Bool) (x : Int32) : x + mo_pra σ r a (b - 1 - a) + (if mo_pc σ r a b = true ∧ a < b then 1 else 0) = x + mo_pra σ r a (b + 1 - 1 - a) := by
  rw [pr_step]
  by_cases h : a < b
  · rw [if_pos h]
    by_cases h2 : mo_pc σ r a b = true
    · rw [if_pos ⟨h2, h⟩, if_pos h2, Int32.add_assoc]
    · rw [if_neg (fun e => h2 e.1), if_neg h2, Int32.add_zero]
  · rw [if_neg (fun e => h e.2), if_neg h, Int32.add_zero]
theorem we_st : mo_wear σ a b + (if mo_rub σ a b = true then mo_brings σ b else 0) = mo_wear σ a (b + 1) := by
  rw [mo_wear_s]
  split
  · rfl
  · exact Int32.add_zero _
theorem pa_0 (r : Bool) : mo_pas σ r nk a + mo_pra σ r a (0 - 1 - a) = mo_pas σ r nk a := by
  rw [show 0 - 1 - a = 0 by omega]
  exact Int32.add_zero _
theorem d_in {Z : ak_O × ak_M → Prop} (hnk : nk ≤ 9) (ha : a < nk) (x1 : Int32) (hS : SoH σ nk x1) (y5 : Int32) (N : Nat) (g : ∀ M, LB σ ρ hn nk nw M0 N M → ∀ y7 o8 o9 o10, Wz Z (sg X 362 (44, [some (.ref 0), some (.int x1), some (.int (nI nk)), some (.int (mo_pas σ false nk (a + 1))), some (.int (mo_pas σ true nk (a + 1))), some (.int y5), some (.int (nI (a + 1))), some (.int y7), o8, o9, o10], [], []) M)) :
    ∀ c b, b + c = nk → ∀ i M, LB σ ρ hn nk nw M0 i M → i + 25 * c + 15 ≤ N → ∀ o9 o10, Wz Z (sg X 362 (56, [some (.ref 0), some (.int x1), some (.int (nI nk)), some (.int (mo_pas σ false nk a + mo_pra σ false a (b - 1 - a))), some (.int (mo_pas σ true nk a + mo_pra σ true a (b - 1 - a))), some (.int y5), some (.int (nI a)), some (.int (mo_wear σ a b)), some (.int (nI b)), o9, o10], [], []) M)
  | 0, b, hb, i, M, B, hN, o9, o10 => by
    have e : b = nk := by omega
    subst e
    refine d_row B hnk ha x1 hS _ _ y5 o9 o10 fun M B y7 o8 => ?_
    have g' := g M (B.mo (by omega)) y7 o8 o9 o10
    rw [← mi_s] at g'
    exact g'
  | c + 1, b, hb, i, M, B, hN, o9, o10 => by
    refine d_56 B hnk ha (by omega) x1 _ _ y5 _ o9 o10 fun M B => ?_
    have ih := d_in hnk ha x1 hS y5 N g c (b + 1) (by omega) (i + 25) M B (by omega) (some (.int (bI (mo_cross σ a b)))) (some (.int (bI (mo_rub σ a b))))
    rw [← pr_st, ← pr_st, ← we_st, ← mi_s] at ih
    exact ih
theorem d_out {Z : ak_O × ak_M → Prop} (hnk : nk ≤ 9) (x1 : Int32) (hS : SoH σ nk x1) (y5 : Int32) (N : Nat) (g : ∀ M, LB σ ρ hn nk nw M0 N M → ∀ o7 o8 o9 o10, Wz Z (sg X 362 (44, [some (.ref 0), some (.int x1), some (.int (nI nk)), some (.int (mo_pas σ false nk nk)), some (.int (mo_pas σ true nk nk)), some (.int y5), some (.int (nI nk)), o7, o8, o9, o10], [], []) M)) :
    ∀ c a, a + c = nk → ∀ i M, LB σ ρ hn nk nw M0 i M → i + 240 * c ≤ N → ∀ o7 o8 o9 o10, Wz Z (sg X 362 (44, [some (.ref 0), some (.int x1), some (.int (nI nk)), some (.int (mo_pas σ false nk a)), some (.int (mo_pas σ true nk a)), some (.int y5), some (.int (nI a)), o7, o8, o9, o10], [], []) M)
  | 0, a, hb, i, M, B, hN, o7, o8, o9, o10 => by
    have e : a = nk := by omega
    subst e
    exact g M (B.mo (by omega)) o7 o8 o9 o10
  | c + 1, a, hb, i, M, B, hN, o7, o8, o9, o10 => by
    refine w_t (fun r h => t_362_44 B.1.1 _ _ _ _ _ _ _ _ _ _ h) ?_
    refine w_n (fun e => by have := (mi_le (by omega) (by omega)).mp e; omega) ?_
    have h := d_in (Z := Z) (X := X) (M0 := M0) (ρ := ρ) (hn := hn) (nw := nw) hnk (a := a) (by omega) x1 hS y5 (i + 240) (fun M B y7 o8 o9 o10 => d_out hnk x1 hS y5 N g c (a + 1) (by omega) (i + 240) M B (by omega) _ o8 o9 o10) nk 0 (by omega) i M B (by omega) o9 o10
    rw [pa_0, pa_0] at h
    exact h
theorem s92_7 (h : Int32) : sp_92 σ nk h 7 = mo_ins σ 4 nk := by unfold sp_92; rw [if_pos (by decide), show (7 : Int32) - 3 = 4 by decide]
theorem d_end (B : LB σ ρ hn nk nw M0 i M) (hnk : nk ≤ 9) (x1 : Int32) (hS : SoH σ nk x1) (o7 o8 o9 o10 : Option Value) : Wz (fun r => ∃ M', r = (.inl (some (.int 1)), M') ∧ LB σ ρ hn nk nw M0 (i + 8) M') (sg X 362 (44, [some (.ref 0), some (.int x1), some (.int (nI nk)), some (.int (mo_pas σ false nk nk)), some (.int (mo_pas σ true nk nk)), some (.int (nI nk)), some (.int (nI nk)), o7, o8, o9, o10], [], []) M) := by
  obtain ⟨ne, hv⟩ := B.1.vs
  rw [pas_eq, pas_eq]
  have h12 : ¬ (12 : Int32) < σ 9 := by
    rw [hv.1.2.2.2.2.2]
    intro e
    have := (mi_lt (a := 12) (b := ne) (by omega) (by have := hv.1.2.2.1; omega)).mp e
    have := hv.1.2.2.1
    omega
  have eh := oI_m1 (nk := nk) (by omega) (mo_hi σ nk) fun b hb => mo_hi_lt σ nk b hb
  have e0 : (nI (nIn σ 0 nk) = 0) ↔ mo_hi σ nk = none := by
    rw [hi_n]
    refine (mi_eq (b := 0) (by have := nIn_le σ 0 nk; omega) (by omega)).trans ?_
    rw [nIn_0]
    unfold mo_fly
    exact ⟨fun h b hb => decide_eq_false (h b hb), fun h b hb => of_decide_eq_false (h b hb)⟩
  refine w_t (fun r h => t_362_44 B.1.1 _ _ _ _ _ _ _ _ _ _ h) ?_
  refine w_y (Int32.le_refl _) ?_
  refine lq1 B (qv (q_92 B.1 10) (s92_10 _)) fun M B => ?_
  refine w_y rfl ?_
  refine lq1 B (qv (q_92 B.1 11) (s92_11 _)) fun M B => ?_
  refine w_y rfl ?_
  refine w_y rfl ?_
  refine lq2 B (q_113 B.1 11 (by decide)) fun M B => ?_
  refine lq1 B (qv (q_92 B.1 9) (s92_9 _)) fun M B => ?_
  refine lq1 B (qv (q_92 B.1 7) (s92_7 _)) fun M B => ?_
  refine w_y hS.2.1 ?_
  refine lq1 B (qv (q_92 B.1 8) (s92_8 _)) fun M B => ?_
  refine w_n h12 ?_
  refine lq1 B (q_105 B.1) fun M B => ?_
  by_cases h : mo_hi σ nk = none
  · refine w_y (eh.mpr h) ?_
    refine lq1 B (qv (q_92 B.1 3) (s92_i (s := 0) _ (by decide) (by decide))) fun M B => ?_
    refine w_y (e0.mpr h) ?_
    exact ⟨_, ⟨M, rfl, B⟩, rfl⟩
  · refine w_n (fun e => h (eh.mp e)) ?_
    refine lq1 B (qv (q_92 B.1 3) (s92_i (s := 0) _ (by decide) (by decide))) fun M B => ?_
    refine w_n (fun e => h (e0.mp e)) ?_
    exact ⟨_, ⟨M, rfl, B⟩, rfl⟩
theorem q_362 (Q : LQ σ ρ hn nk nw M) (hnk : nk ≤ 9) (x1 : Int32) (hS : SoH σ nk x1) : ∃ M', rn X 362 [.ref 0, .int x1] M (.inl (some (.int 1)), M') ∧ LQ σ ρ hn nk nw M' ∧ fq 3000 M M' := by
  obtain ⟨ne, hv⟩ := Q.vs
  have B : LB σ ρ hn nk nw M 0 M := ⟨Q, fq.rf Q.1⟩
  have h : Wz (fun r => ∃ M', r = (.inl (some (.int 1)), M') ∧ LB σ ρ hn nk nw M 3000 M') (rn X 362 [.ref 0, .int x1] M) := by
    refine w_t (fun r h => t_362 B.1.1 _ h) ?_
    refine lq1 B (qv (q_92 B.1 0) ((s92_0 _).trans hv.1.2.2.2.1)) fun M B => ?_
    refine w_t (fun r h => t_362_17 B.1.1 _ _ _ _ _ _ _ _ _ _ h) ?_
    refine w_n (by decide) ?_
    refine lq1 B (qv (q_92 B.1 3) (s92_i (s := 0) _ (by decide) (by decide))) fun M B => ?_
    refine w_t (fun r h => t_362_17 B.1.1 _ _ _ _ _ _ _ _ _ _ h) ?_
    refine w_n (by decide) ?_
    refine lq1 B (qv (q_92 B.1 (3 + 1)) (s92_i (s := 1) _ (by decide) (by decide))) fun M B => ?_
    refine w_t (fun r h => t_362_17 B.1.1 _ _ _ _ _ _ _ _ _ _ h) ?_
    refine w_n (by decide) ?_
    refine lq1 B (qv (q_92 B.1 (3 + 1 + 1)) (s92_i (s := 2) _ (by decide) (by decide))) fun M B => ?_
    refine w_t (fun r h => t_362_17 B.1.1 _ _ _ _ _ _ _ _ _ _ h) ?_
    refine w_n (by decide) ?_
    refine lq1 B (qv (q_92 B.1 (3 + 1 + 1 + 1)) (s92_i (s := 3) _ (by decide) (by decide))) fun M B => ?_
    refine w_t (fun r h => t_362_17 B.1.1 _ _ _ _ _ _ _ _ _ _ h) ?_
    refine w_n (by decide) ?_
    refine lq1 B (qv (q_92 B.1 (3 + 1 + 1 + 1 + 1)) (s92_i (s := 4) _ (by decide) (by decide))) fun M B => ?_
    refine w_t (fun r h => t_362_17 B.1.1 _ _ _ _ _ _ _ _ _ _ h) ?_
    refine w_y (by decide) ?_
    have e5 : (0 : Int32) + nI (nIn σ 0 nk) + nI (nIn σ 1 nk) + nI (nIn σ 2 nk) + nI (nIn σ 3 nk) + nI (nIn σ 4 nk) = nI nk := by
      rw [Int32.zero_add, mi_add, mi_add, mi_add, mi_add]
      congr 1
      have := nIn_all σ nk fun k hk => vs_s04 hv hk
      omega
    rw [e5]
    have g := d_out (X := X) (Z := fun r => ∃ M', r = (.inl (some (.int 1)), M') ∧ LB σ ρ hn nk nw _ 3000 M') hnk x1 hS (nI nk) 2900 (fun M B o7 o8 o9 o10 => w_z (d_end B hnk x1 hS o7 o8 o9 o10) fun r ⟨M', e, B'⟩ => ⟨M', e, B'.mo (by omega)⟩) nk 0 (by omega) _ M B (by omega) none none none none
    exact g
  obtain ⟨r, ⟨M', e, B'⟩, h⟩ := h
  subst e
  exact ⟨M', h, B'⟩
end SND3
