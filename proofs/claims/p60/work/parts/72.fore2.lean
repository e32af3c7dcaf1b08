/-! the class's forecasts, run -/
def sp_119 (σ : Nat → Int32) (n : Nat) (x w t : Int32) : Int32 ⊕ Nat := if mo_isK σ x = true then (if in32 w 0 13 = true then (if in32 t 1 100 = true then .inl (kf (mo_ts σ n (kN t)) (kN x) (kN w)) else .inr 1) else .inr 1) else .inr 0
def sp_120 (σ : Nat → Int32) (n : Nat) (x t : Int32) : Int32 ⊕ Nat := if mo_isK σ x = true then (if in32 t 1 100 = true then .inl (mo_fst (mo_is 0 (kN x) (kN x)) n (kN t + 1) 0 σ) else .inr 1) else .inr 0
def sp_121 (σ : Nat → Int32) (n : Nat) (x y t : Int32) : Int32 ⊕ Nat := if mo_isK σ x = true then (if mo_isK σ y = true then (if in32 t 1 100 = true then .inl (mo_fst (mo_is 2 (kN x) (kN y)) n (kN t + 1) 0 σ) else .inr 1) else .inr 0) else .inr 0
def sp_122 (σ : Nat → Int32) (n : Nat) (t : Int32) : Int32 ⊕ Nat := if in32 t 1 100 = true then .inl (mo_ts σ n (kN t) 10 - σ 10) else .inr 1
def sp_123 (σ : Nat → Int32) (n : Nat) (x t : Int32) : Int32 ⊕ Nat := if mo_isK σ x = true then (if in32 t 1 100 = true then .inl (mo_fst (mo_is 1 (kN x) (kN x)) n (kN t + 1) 0 σ) else .inr 1) else .inr 0
def sp_124 (σ : Nat → Int32) (n : Nat) (x y t : Int32) : Int32 ⊕ Nat := if mo_isK σ x = true then (if mo_isK σ y = true then (if in32 t 1 100 = true then .inl (mo_dv x y (mo_fst (mo_is 0 (kN x) (kN x)) n (kN t + 1) 0 σ) (mo_fst (mo_is 0 (kN y) (kN y)) n (kN t + 1) 0 σ)) else .inr 1) else .inr 0) else .inr 0
def mo_rv (σ : Nat → Int32) (n k t w : Nat) (s : Int32) (j : Nat) : Int32 := s * kf (mo_ts (lay σ k 7 (yJ j)) n t) k w
def sp_148 (σ : Nat → Int32) (n w : Nat) (s : Int32) (x t : Int32) : Int32 ⊕ Nat := if mo_isK σ x = true then (if in32 t 1 50 = true then .inl (mo_rf (-9) (mo_rv σ n (kN x) (kN t) w s) 19).1 else .inr 1) else .inr 0
section SFP
variable {X : ak_X} {M : ak_M} {k o nk nw ne fe : Nat} {σ : Nat → Int32}
theorem in_100 {x : Int32} (h : in32 x 1 100 = true) : ∃ m, 1 ≤ m ∧ m ≤ 100 ∧ x = nI m := in_r (a := 100) (by decide) h
theorem in_50 {x : Int32} (h : in32 x 1 50 = true) : ∃ m, 1 ≤ m ∧ m ≤ 50 ∧ x = nI m := in_r (a := 50) (by decide) h
theorem in_13 {x : Int32} (h : in32 x 0 13 = true) : ∃ m, m ≤ 13 ∧ x = nI m := (in_n (a := 13) (by decide)).mp h
theorem cp97 (hL : ab_lay M) (hR : Rb 65 σ nk nw ne fe M) (hv : vs σ nk nw ne) : ∃ M', rn X 10 [.ref 97, .ref 65] M (.inl none, M') ∧ ch 97 σ nk nw M M' := by
  obtain ⟨M', r, m⟩ := sk_10 (X := X) hL h65 h97 (by decide) hR hv.1
  exact ⟨M', r, _, _, hv, m⟩
theorem ch.f {σ : Nat → Int32} {b : Nat} {M' : ak_M} (h : ch b σ nk nw M M') : fr (cS b) M M' := by obtain ⟨_, _, _, d⟩ := h; exact d.1
theorem ch.s39 {M' : ak_M} (h : ch 97 σ nk nw M M') (hk : k < nk) {j : Nat} (hj : j < 14) : rn X 39 [.ref (97 + 6 + k), .int (nI j)] M' (.inl (some (.int (kf σ k j))), M') := by
  obtain ⟨_, _, v, d⟩ := h
  exact sk_39 d.1.1 h97 d.2 v.1 hk hj
theorem ch.k0 {M' : ak_M} (h : ch 97 σ nk nw M M') (hk : k < nk) {j : Nat} (hj : j < 14) : ak_I M' (97 + 6 + k) j = kf σ k j := by
  obtain ⟨_, _, v, d⟩ := h
  exact d.2.kk hk hj
theorem ch.i9 {M' : ak_M} (h : ch 97 σ nk nw M M') : ak_I M' 97 9 = σ 0 := by
  obtain ⟨_, _, v, d⟩ := h
  exact d.2.2.1.2.2.2.2.1
theorem ch.i10 {M' : ak_M} (h : ch 97 σ nk nw M M') : ak_I M' 97 10 = σ 10 := by
  obtain ⟨_, _, v, d⟩ := h
  exact d.2.2.1.2.2.2.2.2
theorem ch.t20 {M' : ak_M} (h : ch 97 σ nk nw M M') {t : Nat} (ht : t ≤ 1000) : ∃ M2, rn X 20 [.ref 97, .int (nI t)] M' (.inl none, M2) ∧ ch 97 (mo_ts σ nk t) nk nw M M2 := by
  obtain ⟨_, _, v, d⟩ := h
  obtain ⟨M2, r, m⟩ := sk_20 (X := X) d.1.1 h97 d.2 v ht
  exact ⟨M2, r, ch.tr (σ := σ) ⟨_, _, v, d⟩ m⟩
theorem ch.t21 {M' : ak_M} (h : ch 97 σ nk nw M M') (ht : σ 0 < 5000) : ∃ M2, rn X 21 [.ref 97] M' (.inl none, M2) ∧ ch 97 (mo_tick σ nk) nk nw M M2 := by
  obtain ⟨_, _, v, d⟩ := h
  obtain ⟨M2, r, m⟩ := sk_21 (X := X) d.1.1 h97 d.2 v ht
  exact ⟨M2, r, ch.tr (σ := σ) ⟨_, _, v, d⟩ m⟩
theorem ca_119 (hL : ab_lay M) (hR : Rb 65 σ nk nw ne fe M) (hv : vs σ nk nw ne) (x w t : Int32) : ca (cS 97) X 119 [.int x, .int w, .int t] M (sp_119 σ nk x w t) := by
  have h10 := hv.1.1
  have c0 := ck_144 (X := X) hL hR.2.1.1 (x := x)
  have c1 := ck_146 (X := X) hL (x := w) (lo := 0) (hi := 13)
  have c2 := ck_146 (X := X) hL (x := t) (lo := 1) (hi := 100)
  unfold sp_119
  by_cases h0 : mo_isK σ x = true
  · rw [if_pos h0]
    by_cases h1 : in32 w 0 13 = true
    · rw [if_pos h1]
      by_cases h2 : in32 t 1 100 = true
      · rw [if_pos h2]
        obtain ⟨k, hk, rfl⟩ := (isK_of hv.1).mp h0
        obtain ⟨j, hj, rfl⟩ := in_13 h1
        obtain ⟨m, hm1, hm, rfl⟩ := in_100 h2
        rw [kN_n (by omega), kN_n (by omega), kN_n (by omega)]
        obtain ⟨M1, r1, m1⟩ := cp97 (X := X) hL hR hv
        obtain ⟨M2, r2, m2⟩ := m1.t20 (X := X) (t := m) (by omega)
        exact ⟨M2, t_119 hL _ _ _ (Or.inl ⟨M, hL, c0.1 h0, Or.inl ⟨M, hL, c1.1 h1, Or.inl ⟨M, hL, c2.1 h2, M1, m1.lay0, r1, M2, m2.lay0, r2, k, by omega, mb_ix (by omega) (by decide), _, M2, m2.lay0, m2.s39 hk (by omega), rfl⟩⟩⟩), m2.f.qx⟩
      · rw [if_neg h2]
        exact ⟨_, t_119 hL _ _ _ (Or.inl ⟨M, hL, c0.1 h0, Or.inl ⟨M, hL, c1.1 h1, Or.inr ⟨1, _, c2.2 (bf h2), rfl⟩⟩⟩), (fr.rf hL).ux⟩
    · rw [if_neg h1]
      exact ⟨_, t_119 hL _ _ _ (Or.inl ⟨M, hL, c0.1 h0, Or.inr ⟨1, _, c1.2 (bf h1), rfl⟩⟩), (fr.rf hL).ux⟩
  · rw [if_neg h0]
    exact ⟨_, t_119 hL _ _ _ (Or.inr ⟨0, _, c0.2 (bf h0), rfl⟩), (fr.rf hL).ux⟩
theorem ca_122 (hL : ab_lay M) (hR : Rb 65 σ nk nw ne fe M) (hv : vs σ nk nw ne) (t : Int32) : ca (cS 97) X 122 [.int t] M (sp_122 σ nk t) := by
  have c2 := ck_146 (X := X) hL (x := t) (lo := 1) (hi := 100)
  unfold sp_122
  by_cases h2 : in32 t 1 100 = true
  · rw [if_pos h2]
    obtain ⟨m, hm1, hm, rfl⟩ := in_100 h2
    rw [kN_n (by omega)]
    obtain ⟨M1, r1, m1⟩ := cp97 (X := X) hL hR hv
    obtain ⟨M2, r2, m2⟩ := m1.t20 (X := X) (t := m) (by omega)
    refine ⟨M2, t_122 hL _ (Or.inl ⟨M, hL, c2.1 h2, M1, m1.lay0, r1, M2, m2.lay0, r2, ?_⟩), m2.f.qx⟩
    have e := (c97 m2.f hR hv.1).2.1.2.2.2.2.2
    rw [m2.i10, e]
    rfl
  · rw [if_neg h2]
    exact ⟨_, t_122 hL _ (Or.inr ⟨1, _, c2.2 (bf h2), rfl⟩), (fr.rf hL).ux⟩
theorem sk_123l (hk : k < nk) (h10 : nk ≤ 10) {t : Nat} (ht : t ≤ 100) : ∀ d i M1 σ o4, i + d = t + 1 → ch 97 σ nk nw M M1 →
    ∃ M', sg X 123 (25, [some (.ref 0), some (.int (nI k)), some (.int (nI t)), some (.int (nI i)), o4], [], []) M1 (.inl (some (.int (mo_fst (mo_is 1 k k) nk d i σ))), M') ∧ fr (cS 97) M M' := by
  intro d
  induction d with
  | zero =>
    intro i M1 σ o4 hi m1
    exact ⟨M1, t_123_25 m1.lay0 _ _ _ _ (mb_y ((mi_lt (by omega) (by omega)).mpr (by omega)) rfl), m1.f⟩
  | succ d ih =>
    intro i M1 σ o4 hi m1
    have c0 : ¬ nI t < nI i := by rw [mi_lt (by omega) (by omega)]; omega
    have e0 := m1.k0 hk (j := 0) (by decide)
    obtain ⟨M3, r3, m3⟩ := m1.t20 (X := X) (t := 1) (by decide)
    obtain ⟨M', h', f'⟩ := ih (i + 1) M3 _ (some (.int (ak_I M1 (97 + 6 + k) 0))) (by omega) m3
    rw [← mi_s] at h'
    by_cases d0 : kf σ k 0 = 0
    · have hp : mo_is 1 k k σ = false := by unfold mo_is mo_fly; rw [d0]; rfl
      rw [fst_t hp]
      exact ⟨M', t_123_25 m1.lay0 _ _ _ _ (mb_n c0 ⟨k, by omega, mb_ix (by omega) (by decide), mb_y (e0.trans d0) ⟨M3, m3.lay0, r3, h'⟩⟩), f'⟩
    · by_cases d2 : kf σ k 0 = 2
      · have hp : mo_is 1 k k σ = false := by unfold mo_is mo_fly; rw [d2]; rfl
        rw [fst_t hp]
        exact ⟨M', t_123_25 m1.lay0 _ _ _ _ (mb_n c0 ⟨k, by omega, mb_ix (by omega) (by decide), mb_n (fun e => d0 (e0.symm.trans e)) (mb_y (e0.trans d2) ⟨M3, m3.lay0, r3, h'⟩)⟩), f'⟩
      · have hp : mo_is 1 k k σ = true := by unfold mo_is mo_fly; rw [decide_eq_false d0, decide_eq_false d2]; rfl
        rw [fst_y hp]
        exact ⟨M1, t_123_25 m1.lay0 _ _ _ _ (mb_n c0 ⟨k, by omega, mb_ix (by omega) (by decide), mb_n (fun e => d0 (e0.symm.trans e)) (mb_n (fun e => d2 (e0.symm.trans e)) rfl)⟩), m1.f⟩
theorem ca_123 (hL : ab_lay M) (hR : Rb 65 σ nk nw ne fe M) (hv : vs σ nk nw ne) (x t : Int32) : ca (cS 97) X 123 [.int x, .int t] M (sp_123 σ nk x t) := by
  have h10 := hv.1.1
  have c0 := ck_144 (X := X) hL hR.2.1.1 (x := x)
  have c2 := ck_146 (X := X) hL (x := t) (lo := 1) (hi := 100)
  unfold sp_123
  by_cases h0 : mo_isK σ x = true
  · rw [if_pos h0]
    by_cases h2 : in32 t 1 100 = true
    · rw [if_pos h2]
      obtain ⟨k, hk, rfl⟩ := (isK_of hv.1).mp h0
      obtain ⟨m, hm1, hm, rfl⟩ := in_100 h2
      rw [kN_n (by omega), kN_n (by omega)]
      obtain ⟨M1, r1, m1⟩ := cp97 (X := X) hL hR hv
      obtain ⟨M', h', f'⟩ := sk_123l (X := X) (t := m) hk h10 hm (m + 1) 0 M1 σ none (by omega) m1
      exact ⟨M', t_123 hL _ _ (Or.inl ⟨M, hL, c0.1 h0, Or.inl ⟨M, hL, c2.1 h2, M1, m1.lay0, r1, h'⟩⟩), f'.qx⟩
    · rw [if_neg h2]
      exact ⟨_, t_123 hL _ _ (Or.inl ⟨M, hL, c0.1 h0, Or.inr ⟨1, _, c2.2 (bf h2), rfl⟩⟩), (fr.rf hL).ux⟩
  · rw [if_neg h0]
    exact ⟨_, t_123 hL _ _ (Or.inr ⟨0, _, c0.2 (bf h0), rfl⟩), (fr.rf hL).ux⟩
end SFP
