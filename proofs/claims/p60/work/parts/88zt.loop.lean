/-! the law's loops and its end -/
def Zl (M0 : ak_M) (r : ak_O × ak_M) : Prop := ∃ M', r = (.inl (some (.int 1)), M') ∧ ak_C M' ≤ ak_C M0 + 2 * 120000 ∧ ak_Z M' ≤ ak_Z M0 + 12 * 120000
section SLO
variable {X : ak_X} {M M' M0 : ak_M} {σ τ υ : Nat → Int32} {ρ : Nat → Nat → Int32} {hn nk nw i j k a b n : Nat} {v w x : Int32} {sv : Bool} {Z : ak_O × ak_M → Prop}
theorem zl_y (B : LT sv υ M0 i σ ρ hn nk nw M) (hi : i ≤ 120000) : Wz (Zl M0) (fun r => r = (.inl (some (.int 1)), M)) := ⟨_, ⟨M, rfl, Nat.le_trans B.2.2.1 (Nat.add_le_add_left (Nat.mul_le_mul_left 2 hi) _), Nat.le_trans B.2.2.2 (Nat.add_le_add_left (Nat.mul_le_mul_left 12 hi) _)⟩, rfl⟩
theorem So_0 (h : Iv σ nk) : SoH σ nk 0 := ⟨fun a ha hf => h.1 a ha (of_decide_eq_true hf), by have := h.2; unfold dv at this; grind, fun e => absurd rfl e⟩
theorem So_1 (h : Iv σ nk) (g : ∀ a, a < nk → kf σ a 0 = 0 → Gd σ a) (x : Int32) : SoH σ nk x := ⟨(So_0 h).1, (So_0 h).2.1, fun _ a ha hf => (g a ha (of_decide_eq_true hf)).2⟩
theorem l_sv {P : Int32 → ak_M → ak_O × ak_M → Prop} (B : LT false υ M0 i σ ρ hn nk nw M) (g : ∀ M', LT true σ M0 i σ ρ hn nk nw M' → Wz Z (P (σ 0) M')) : Wz Z fun r => ∃ (v2 : Int32) (M1 : ak_M), ab_lay M1 ∧ rn X 142 [.ref 0] M (.inl (some (.int v2)), M1) ∧ P v2 M1 r := by
  obtain ⟨hL, ne, fe, hf, hR, hv, hH⟩ := B.1
  obtain ⟨M', r', f, hR', h8⟩ := cu_142 (X := X) hL hR hv
  refine w_t (fun r h => ⟨_, M', f.1, r', h⟩) (g M' ⟨⟨f.1, ne, fe, hf, hR.fr hv.1 f (fun p k e => by unfold cV cS at e; omega), hv, hH.fr f (fun p k e => by unfold cV cS at e; omega)⟩, fun _ => ⟨h8, ne, fe, hR', hv⟩, ?_, ?_⟩)
  · rw [f.2.2.2.2.1]; exact B.2.2.1
  · rw [f.2.2.2.2.2]; exact B.2.2.2
theorem pn_s (h : hn ≤ 10) : ∃ m, pn hn = m + 1 ∧ m ≤ 10 ∧ psh ρ hn σ m = σ := by
  unfold pn psh
  by_cases c : hn = 10
  · refine ⟨9, by rw [if_pos c], by omega, ?_⟩
    funext j
    simp only [c, if_true]
  · refine ⟨hn, by rw [if_neg c], by omega, ?_⟩
    funext j
    rw [if_neg c, if_pos rfl]
theorem l_un {P : Int32 → ak_M → ak_O × ak_M → Prop} {R : ak_O × ak_M → Prop} (hh : hn ≤ 10) (B : LT sv υ M0 i τ (psh ρ hn σ) (pn hn) nk nw M) (g : ∀ M' m, m ≤ 10 → LT sv υ M0 i σ (psh ρ hn σ) m nk nw M' → Wz Z (P (nI m) M')) : Wz Z fun r => (∃ (v2 : Int32) (M1 : ak_M), ab_lay M1 ∧ rn X 137 [.ref 0] M (.inl (some (.int v2)), M1) ∧ P v2 M1 r) ∨ R r := by
  obtain ⟨m, e1, e2, e3⟩ := pn_s (ρ := ρ) (σ := σ) hh
  have B' := B
  rw [e1] at B'
  obtain ⟨hL, ne, fe, hf, hR, hv, hH⟩ := B'.1
  obtain ⟨M', r', c⟩ := cu_137 (X := X) hL hH
  rw [e3] at c
  exact w_t (fun r h => Or.inl ⟨_, M', c.L, r', h⟩) (g M' m e2 (ck_LT B c))
theorem l_rs {P : Int32 → ak_M → ak_O × ak_M → Prop} {R : ak_O × ak_M → Prop} (B : LT true σ M0 i τ ρ hn nk nw M) (g : ∀ M', LT true σ M0 i σ ρ 0 nk nw M' → Wz Z (P (σ 0) M')) : Wz Z fun r => (∃ (v2 : Int32) (M1 : ak_M), ab_lay M1 ∧ rn X 143 [.ref 0] M (.inl (some (.int v2)), M1) ∧ P v2 M1 r) ∨ R r := by
  obtain ⟨hL, ne, fe, hf, hR, hv, hH⟩ := B.1
  obtain ⟨h8, ne', fe', hR', hv'⟩ := B.2.1 rfl
  obtain ⟨M', r', c⟩ := cu_143 (X := X) hL hR' hv' hH h8
  exact w_t (fun r h => Or.inl ⟨_, M', c.L, r', h⟩) (g M' (ck_LT B c))
theorem l_mn {P : Int32 → ak_M → ak_O × ak_M → Prop} {y : Int32} (hL : ab_lay M) (g : Wz Z (P (mn32 x y) M)) : Wz Z fun r => ∃ (v2 : Int32) (M1 : ak_M), ab_lay M1 ∧ rn X 316 [.int x, .int y] M (.inl (some (.int v2)), M1) ∧ P v2 M1 r := w_t (fun r h => ⟨_, M, hL, jm_min hL, h⟩) g
/-- the reels, one after another -/
theorem d430 (h2 : 1 ≤ nk) (h9 : nk ≤ 9) (hI : Iv σ nk) (hG : ∀ a, a < nk → kf σ a 0 = 0 → Gd σ a) {y5 y10 : Int32} (h5 : ¬ 10 < y5) (hb : ∀ j, j < 19 → kf (mo_ts (lay σ 0 7 (yJ j)) nk 10) 0 3 ≤ y10) : ∀ c m, m + c = 7 → ∀ M i x ρ hn o2 o3 o6 o9, LT true σ M0 i (lay σ 0 7 x) ρ hn nk nw M → i + 2 * c + 3100 ≤ 120000 → Wz (Zl M0) (sg X 364 (430, [some (.ref 1000000), some (.ref 0), o2, o3, some (.int (σ 0)), some (.int y5), o6, some (.int (σ 0)), some (.int (kf (mo_ts σ nk 20) 0 10)), o9, some (.int y10), some (.int (yJ (3 * m)))], [], []) M)
  | 0, m, hm, M, i, x, ρ, hn, o2, o3, o6, o9, B, hi => by
    have e : m = 7 := by omega
    subst e
    refine w_t (fun r h => t_364_430 B.1.1 _ _ _ _ _ _ _ _ _ _ h) ?_
    refine w_y (by decide) ?_
    refine w_n h5 ?_
    refine w_y rfl ?_
    refine l_rs B fun M B => ?_
    refine w_y rfl ?_
    refine lt1 B (qv (q_92 B.1 12) (s92_12 _)) fun M B => ?_
    refine w_y rfl ?_
    refine lt2 B (q_362 B.1 h9 1 (So_1 hI hG 1)) fun M B => ?_
    refine w_n (by decide) ?_
    refine lt2 B (q_119 B.1 (a := 0) (by omega) 10 (by decide) (t := 20) (by decide)) fun M B => ?_
    refine w_y rfl ?_
    exact zl_y B (by omega)
  | c + 1, m, hm, M, i, x, ρ, hn, o2, o3, o6, o9, B, hi => by
    have hy := yJ_3 m (by omega)
    obtain ⟨⟨ne, hv⟩, -⟩ := LQ_K B.1
    have h7 : in32 (kf (lay σ 0 7 x) 0 7) (-9) 9 = true := hv.2.2.1 0 (by omega) 7 (by decide)
    refine w_t (fun r h => t_364_430 B.1.1 _ _ _ _ _ _ _ _ _ _ h) ?_
    refine w_n hy.2 ?_
    refine lcc B (c_130 B.1 (a := 0) (by omega) (yJ_in (3 * m) (by omega))) fun M B => ?_
    refine w_n (fun e => ?_) ?_
    · have h8 := (in32_t.mp h7).1
      have h9 := Int32.lt_iff_toInt_lt.mp e
      omega
    rw [lay_lay (by decide)] at B
    refine lt2 B (q_119 B.1 (a := 0) (by omega) 3 (by decide) (t := 10) (by decide)) fun M B => ?_
    refine w_y (hb (3 * m) (by omega)) ?_
    rw [hy.1]
    exact d430 h2 h9 hI hG h5 hb c (m + 1) (by omega) M _ _ _ _ _ _ _ _ B (by omega)
theorem d110 (hX : X.1 ≤ 260) (h2 : 1 ≤ nk) (h9 : nk ≤ 9) {na : Nat} (hna : 2 ≤ na ∧ na ≤ 14) : ∀ c k, k + c = na → ∀ M i σ υ ρ hn o5 o6 o7 o8 o9 o10 o11, LT false υ M0 i σ ρ hn nk nw M → Iv σ nk → (k ≠ 0 → ∀ a, a < nk → kf σ a 0 = 0 → Gd σ a) → (σ 0).toInt ≤ 6 * k → i + 6100 * c + 4000 ≤ 120000 → Wz (Zl M0) (sg X 364 (110, [some (.ref 1000000), some (.ref 0), some (.int (nI nk)), some (.int (nI na)), some (.int (nI k)), o5, o6, o7, o8, o9, o10, o11], [], []) M)
  | 0, k, hk, M, i, σ, υ, ρ, hn, o5, o6, o7, o8, o9, o10, o11, B, hI, hG, ht, hi => by
    have e : k = na := by omega
    subst e
    have hG := hG (by omega)
    obtain ⟨⟨ne, hv⟩, hh⟩ := LQ_K B.1
    have h7 : in32 (kf σ 0 7) (-9) 9 = true := hv.2.2.1 0 (by omega) 7 (by decide)
    obtain ⟨m1, m2⟩ := rf_m (-9) (mo_rv σ nk 0 10 3 1) 19
    obtain ⟨jb, hj, ej⟩ := m2 (by decide)
    refine w_t (fun r h => t_364_110 B.1.1 _ _ _ _ _ _ _ _ _ _ h) ?_
    refine w_y (Int32.le_refl _) ?_
    refine lt1 B (qv (q_92 B.1 2) (s92_2 _)) fun M B => ?_
    refine lt1 B (qv (q_92 B.1 12) (s92_12 _)) fun M B => ?_
    refine lt2 B (q_113 B.1 11 (by decide)) fun M B => ?_
    refine l_sv B fun M B => ?_
    refine lt2 B (q_119 B.1 (a := 0) (by omega) 10 (by decide) (t := 20) (by decide)) fun M B => ?_
    refine lt2 B (q_126 B.1 (a := 0) (by omega) (t := 10) (by decide)) fun M B => ?_
    refine lcc B (c_128 B.1 (t := 20) (by decide) (by omega)) fun M B => ?_
    refine w_n (cut_nn h9 20 (by decide)) ?_
    refine lt2 B (q_95 B.1 (a := 0) (by omega) 10 (by decide)) fun M B => ?_
    refine w_y rfl ?_
    refine l_un hh B fun M m hm B => ?_
    refine w_n (nI_nn (by omega)) ?_
    refine lt1 B (qv (q_92 B.1 2) (s92_2 _)) fun M B => ?_
    refine w_y rfl ?_
    refine lt2 B (q_113 B.1 11 (by decide)) fun M B => ?_
    refine w_y rfl ?_
    rw [ej]
    refine lcc B (c_130 B.1 (a := 0) (by omega) (yJ_in jb hj)) fun M B => ?_
    refine w_y (Int32.le_iff_toInt_le.mpr (in32_t.mp h7).1) ?_
    refine lt2 B (q_119 B.1 (a := 0) (by omega) 3 (by decide) (t := 10) (by decide)) fun M B => ?_
    have h5 : ¬ (10 : Int32) < nI hn := fun e => by
      have := (mi_lt (a := 10) (b := hn) (by omega) (by omega)).mp e
      omega
    have one : ∀ y : Int32, (1 : Int32) * y = y := fun y => Int32.one_mul y
    refine d430 h2 h9 hI hG h5 (fun j hj' => ?_) 7 0 (by omega) M _ _ _ _ _ _ _ _ B (by omega)
    have hm := m1 j hj'
    rw [ej] at hm
    unfold mo_rv at hm
    dsimp only at hm
    rw [one, one] at hm
    exact hm
  | c + 1, k, hk, M, i, σ, υ, ρ, hn, o5, o6, o7, o8, o9, o10, o11, B, hI, hG, ht, hi => by
    refine w_t (fun r h => t_364_110 B.1.1 _ _ _ _ _ _ _ _ _ _ h) ?_
    refine w_n (fun e => by have := (mi_le (by omega) (by omega)).mp e; omega) ?_
    have ek : ∀ b : Nat, nI b + 5 * nI k = nI (b + 5 * k) := fun b => by
      show nI b + nI 5 * nI k = _
      rw [mi_mul, mi_add]
    obtain ⟨M1, σ1, ρ1, hn1, r1, B1, I1, t1⟩ := d363 (X := X) hX (k := 90 + 5 * k) (by omega) h2 h9 B hI
    rw [← ek 90] at r1
    refine w_t (fun r h => Or.inl ⟨M1, B1.1.1, r1, h⟩) ?_
    clear r1 B M hI hG
    obtain ⟨⟨ne, hv⟩, hh⟩ := LQ_K B1.1
    have B := B1
    refine lt2 B (q_362 B.1 h9 0 (So_0 I1)) fun M B => ?_
    refine w_n (by decide) ?_
    refine ltd B.1.1 hX (k := 94 + 5 * k) (lo := 1) (hi := 6) (ek 94) rfl rfl (by omega) (by omega) ?_
    refine ltd B.1.1 hX (k := 92 + 5 * k) (lo := 0) (hi := nk - 1) (ek 92) rfl (mi_sb (b := 1) h2) (by omega) (by omega) ?_
    have hT := dn_r (X := X) (k := 94 + 5 * k) (lo := 1) (hi := 6) (by omega) (by omega)
    have hA := (dn_r (X := X) (k := 92 + 5 * k) (lo := 0) (hi := nk - 1) (by omega) (by omega)).2.1
    generalize dn X (94 + 5 * k) 1 6 = t at hT ⊢
    generalize dn X (92 + 5 * k) 0 (nk - 1) = a at hA ⊢
    have ha : a < nk := by omega
    have ht5 : (σ1 0).toInt + (t : Int) < 5000 := by rw [t1]; omega
    refine lt2 B (q_119 B.1 ha 3 (by decide) (t := t) (by omega)) fun M B => ?_
    refine lt2 B (q_122 B.1 (t := t) (by omega)) fun M B => ?_
    refine lt2 B (q_123 B.1 ha (t := t) (by omega)) fun M B => ?_
    refine lt1 B (qv (q_92 B.1 9) (s92_9 _)) fun M B => ?_
    refine lcc B (c_128 B.1 (t := t) (by omega) ht5) fun M B => ?_
    refine w_y rfl ?_
    refine lt1 B (qv (q_92 B.1 9) (s92_9 _)) fun M B => ?_
    refine w_y (by grind) ?_
    refine lt2 B (q_95 B.1 ha 3 (by decide)) fun M B => ?_
    refine w_y rfl ?_
    have hF := fst_L ha (by omega) t 0 hv ht5 (by omega)
    obtain ⟨-, g2, g3, g4⟩ := t_ts t hv ht5
    have g4 := g4 (by omega)
    obtain ⟨⟨ne2, hv2⟩, -⟩ := LQ_K B.1
    have I2 : Iv (mo_ts σ1 nk t) nk := ⟨fun a ha hf => (g4 a ha hf).1, g2.trans I1.2⟩
    have hs := in_04 (vs_s04 hv2 ha)
    have go : ∀ M' i' ρ' hn' o5 o6 o7 o8 o9 o10 o11, LT false σ1 M0 i' (mo_ts σ1 nk t) ρ' hn' nk nw M' → i' ≤ i + 3100 → Wz (Zl M0) fun r => (∃ (v2 : Int32) (M1 : ak_M), ab_lay M1 ∧ rn X 362 [.ref 0, .int 1] M' (.inl (some (.int v2)), M1) ∧ (if v2 = 0 then sg X 364 (294, [some (.ref 1000000), some (.ref 0), some (.int (nI nk)), some (.int (nI na)), some (.int (nI k)), o5, o6, o7, o8, o9, o10, o11], [], []) M1 r else sg X 364 (110, [some (.ref 1000000), some (.ref 0), some (.int (nI nk)), some (.int (nI na)), some (.int (nI k + 1)), o5, o6, o7, o8, o9, o10, o11], [], []) M1 r)) ∨ ∃ (E : Nat) (M2 : ak_M), rn X 362 [.ref 0, .int 1] M' (.inr E, M2) ∧ r = (.inr E, M2) := by
      intro M' i' ρ' hn' o5 o6 o7 o8 o9 o10 o11 B' hi'
      refine lt2 B' (q_362 B'.1 h9 1 (So_1 I2 g4 1)) fun M B => ?_
      refine w_n (by decide) ?_
      rw [mi_s]
      exact d110 hX h2 h9 hna c (k + 1) (by omega) M _ _ _ _ _ _ _ _ _ _ _ _ B I2 (fun _ => g4) (by rw [g3, t1]; omega) (by omega)
    by_cases hf : mo_fst (mo_is 1 a a) nk (t + 1) 0 σ1 = -1
    · refine w_y hf ?_
      have hL := hF.mp hf
      refine lt2 B (q_95 B.1 ha 0 (by decide)) fun M B => ?_
      by_cases s0 : kf (mo_ts σ1 nk t) a 0 = 0
      · refine w_y s0 ?_
        exact go _ _ _ _ _ _ _ _ _ _ _ B (by omega)
      · refine w_n s0 ?_
        refine lt2 B (q_95 B.1 ha 0 (by decide)) fun M B => ?_
        have s2 : kf (mo_ts σ1 nk t) a 0 = 2 := by
          rcases hs with h | h | h | h | h
          · exact absurd h s0
          · exact absurd (Or.inl h) hL
          · exact h
          · exact absurd (Or.inr (Or.inl h)) hL
          · exact absurd (Or.inr (Or.inr h)) hL
        refine w_y s2 ?_
        exact go _ _ _ _ _ _ _ _ _ _ _ B (by omega)
    · refine w_n hf ?_
      have hL : L1 (mo_ts σ1 nk t) a := Classical.byContradiction fun h => hf (hF.mpr h)
      unfold L1 at hL
      have n0 : ¬ kf (mo_ts σ1 nk t) a 0 = 0 := fun h => by rw [h] at hL; revert hL; decide
      have n2 : ¬ kf (mo_ts σ1 nk t) a 0 = 2 := fun h => by rw [h] at hL; revert hL; decide
      refine lt2 B (q_95 B.1 ha 0 (by decide)) fun M B => ?_
      refine w_n n0 ?_
      refine lt2 B (q_95 B.1 ha 0 (by decide)) fun M B => ?_
      refine w_n n2 ?_
      exact go _ _ _ _ _ _ _ _ _ _ _ B (by omega)
theorem d51 (hX : X.1 ≤ 260) (h2 : 1 ≤ nk) (h9 : nk ≤ 9) : ∀ c k, k + c = nk → ∀ M i σ ρ hn o4 o5 o6 o7 o8 o9 o10 o11, LT false υ M0 i σ ρ hn nk nw M → Iv σ nk → (∀ a, k ≤ a → a < nk → kf σ a 0 = 1) → σ 0 = 0 → i + 2 * c ≤ 20000 → Wz (Zl M0) (sg X 364 (51, [some (.ref 1000000), some (.ref 0), some (.int (nI nk)), some (.int (nI k)), o4, o5, o6, o7, o8, o9, o10, o11], [], []) M)
  | 0, k, hk, M, i, σ, ρ, hn, o4, o5, o6, o7, o8, o9, o10, o11, B, hI, h1, h0, hi => by
    have e : k = nk := by omega
    subst e
    have hN := dn_r (X := X) (k := 85) (lo := 2) (hi := 14) (by omega) (by omega)
    refine w_t (fun r h => t_364_51 B.1.1 _ _ _ _ _ _ _ _ _ _ h) ?_
    refine w_y (Int32.le_refl _) ?_
    refine ltd B.1.1 hX (k := 85) (lo := 2) (hi := 14) rfl rfl rfl (by omega) (by omega) ?_
    exact d110 hX h2 h9 (by omega) (dn X 85 2 14) 0 (by omega) M _ _ _ _ _ _ _ _ _ _ _ _ B hI (fun e => absurd rfl e) (by rw [h0]; decide) (by omega)
  | c + 1, k, hk, M, i, σ, ρ, hn, o4, o5, o6, o7, o8, o9, o10, o11, B, hI, h1, h0, hi => by
    obtain ⟨⟨ne, hv⟩, -⟩ := LQ_K B.1
    refine w_t (fun r h => t_364_51 B.1.1 _ _ _ _ _ _ _ _ _ _ h) ?_
    refine w_n (fun e => by have := (mi_le (by omega) (by omega)).mp e; omega) ?_
    refine ltd B.1.1 hX (k := 75 + k) (lo := 0) (hi := 3) (mi_add 75 k) rfl rfl (by omega) (by omega) ?_
    by_cases d0 : nI (dn X (75 + k) 0 3) ≤ 0
    · refine w_y d0 ?_
      refine w_t (fun r h => t_364_91 B.1.1 _ _ _ _ _ _ _ _ _ _ h) ?_
      rw [mi_s]
      exact d51 hX h2 h9 c (k + 1) (by omega) M i σ ρ hn _ _ _ _ _ _ _ _ B hI (fun a ha => h1 a (by omega)) h0 (by omega)
    · refine w_n d0 ?_
      have s1 := h1 k (Nat.le_refl _) (by omega)
      obtain ⟨I1, l3, l6, -⟩ := lnc_I hv hI (show k < nk by omega) s1
      refine lcc B (c_129 B.1 (show k < nk by omega) s1) fun M B => ?_
      refine lt2 B (q_95 B.1 (a := k) (by omega) 6 (by decide)) fun M B => ?_
      refine l_mn B.1.1 ?_
      refine w_y (by rw [l3, l6]) ?_
      refine w_t (fun r h => t_364_91 B.1.1 _ _ _ _ _ _ _ _ _ _ h) ?_
      rw [mi_s]
      refine d51 hX h2 h9 c (k + 1) (by omega) M _ _ _ _ _ _ _ _ _ _ _ _ B I1 (fun a ha hb => ?_) ((lnc_0 (by omega)).trans h0) (by omega)
      rw [lnc_f (by omega) (by omega) (by decide), if_neg (by omega), if_neg (by omega), if_neg (by omega), if_neg (by omega)]
      exact h1 a (by omega) hb
end SLO
