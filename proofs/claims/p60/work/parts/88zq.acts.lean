/-! changes, as the law makes them -/
def LT (sv : Bool) (υ : Nat → Int32) (M0 : ak_M) (i : Nat) (σ : Nat → Int32) (ρ : Nat → Nat → Int32) (hn nk nw : Nat) (M : ak_M) : Prop := LQ σ ρ hn nk nw M ∧ (sv = true → Sv υ nk nw M) ∧ ak_C M ≤ ak_C M0 + 2 * i ∧ ak_Z M ≤ ak_Z M0 + 12 * i
/-- who flies is above the ground; points are cuts and finds -/
def Iv (σ : Nat → Int32) (nk : Nat) : Prop := (∀ a, a < nk → kf σ a 0 = 0 → kf σ a 3 ≠ 0) ∧ dv σ nk = 0
section SAC
variable {X : ak_X} {M M' M0 : ak_M} {σ τ υ : Nat → Int32} {ρ : Nat → Nat → Int32} {hn nk nw i j k a b n : Nat} {v w x : Int32} {as : List Value} {sv : Bool} {Z : ak_O × ak_M → Prop}
theorem LT.mo (B : LT sv υ M0 i σ ρ hn nk nw M) (h : i ≤ j) : LT sv υ M0 j σ ρ hn nk nw M := ⟨B.1, B.2.1, by have := B.2.2.1; omega, by have := B.2.2.2; omega⟩
theorem LT.q (B : LT sv υ M0 i σ ρ hn nk nw M) (Q : LQ σ ρ hn nk nw M') (f : fq j M M') : LT sv υ M0 (i + j) σ ρ hn nk nw M' := ⟨Q, fun e => Sv_q (B.2.1 e) B.1.1 f, by have := B.2.2.1; have := f.2.2.1; omega, by have := B.2.2.2; have := f.2.2.2; omega⟩
theorem lt1 {P : Int32 → ak_M → ak_O × ak_M → Prop} (B : LT sv υ M0 i σ ρ hn nk nw M) (q : ∃ M', rn X k as M (.inl (some (.int v)), M') ∧ LQ σ ρ hn nk nw M' ∧ fq j M M') (g : ∀ M', LT sv υ M0 (i + j) σ ρ hn nk nw M' → Wz Z (P v M')) : Wz Z fun r => ∃ (v2 : Int32) (M1 : ak_M), ab_lay M1 ∧ rn X k as M (.inl (some (.int v2)), M1) ∧ P v2 M1 r := by
  obtain ⟨M', r1, Q, f⟩ := q
  exact w_t (fun r h => ⟨v, M', Q.1, r1, h⟩) (g M' (B.q Q f))
theorem lt2 {P : Int32 → ak_M → ak_O × ak_M → Prop} {R : ak_O × ak_M → Prop} (B : LT sv υ M0 i σ ρ hn nk nw M) (q : ∃ M', rn X k as M (.inl (some (.int v)), M') ∧ LQ σ ρ hn nk nw M' ∧ fq j M M') (g : ∀ M', LT sv υ M0 (i + j) σ ρ hn nk nw M' → Wz Z (P v M')) : Wz Z fun r => (∃ (v2 : Int32) (M1 : ak_M), ab_lay M1 ∧ rn X k as M (.inl (some (.int v2)), M1) ∧ P v2 M1 r) ∨ R r := w_t (fun _ h => Or.inl h) (lt1 B q g)
theorem ltd {P : Int32 → ak_M → ak_O × ak_M → Prop} {lo hi : Nat} (hL : ab_lay M) (hX : X.1 ≤ 260) {kk x y : Int32} (ek : kk = nI k) (ex : x = nI lo) (ey : y = nI hi) (hk : k ≤ 400) (h : lo ≤ hi ∧ hi ≤ 1000) (g : Wz Z (P (nI (dn X k lo hi)) M)) : Wz Z fun r => ∃ (v : Int32) (M1 : ak_M), ab_lay M1 ∧ rn X 358 [.ref 1000000, .int kk, .int x, .int y] M (.inl (some (.int v)), M1) ∧ P v M1 r := by
  subst ek ex ey
  have e := d358 (M := M) (X := X) hL hX hk (x := nI lo) (y := nI hi) lo hi (mi_t (by omega)) (mi_t (by omega)) (by omega) (by omega) (by omega)
  rw [(dn_r h.1 h.2).2.2] at e
  exact w_t (fun r h => ⟨_, M, hL, e, h⟩) g
theorem ltz {P : Int32 → ak_M → ak_O × ak_M → Prop} (hL : ab_lay M) (hX : X.1 ≤ 260) {kk : Int32} (ek : kk = nI k) (hk : k ≤ 400) (g : Wz Z (P (dz X k) M)) : Wz Z fun r => ∃ (v : Int32) (M1 : ak_M), ab_lay M1 ∧ rn X 358 [.ref 1000000, .int kk, .int (-9), .int 9] M (.inl (some (.int v)), M1) ∧ P v M1 r := by
  subst ek
  exact w_t (fun r h => ⟨_, M, hL, d358 hL hX hk (-9) 9 m9_t rfl (by omega) (by omega) (by omega), h⟩) g
theorem ck_LT (B : LT sv υ M0 i σ ρ hn nk nw M) {ρ' : Nat → Nat → Int32} {hn' : Nat} (c : ck M ρ' hn' nk nw τ M') : LT sv υ M0 i τ ρ' hn' nk nw M' := by
  obtain ⟨ne, fe, f, h1, h2, h3, h4⟩ := c
  refine ⟨⟨h1.1, ne, fe, f, h2, h3, h4⟩, fun e => ?_, by have := B.2.2.1; rw [h1.2.2.2.2.1]; exact this, by have := B.2.2.2; rw [h1.2.2.2.2.2]; exact this⟩
  obtain ⟨g1, ne', fe', g2, g3⟩ := B.2.1 e
  exact ⟨(h1.2.1 0 8 (by unfold cZ cY cS; omega)).trans g1, ne', fe', g2.fr g3.1 h1 (fun p k e => by unfold cZ cY cS at e; omega), g3⟩
theorem lcc {P : Int32 → ak_M → ak_O × ak_M → Prop} {R : ak_O × ak_M → Prop} (B : LT sv υ M0 i σ ρ hn nk nw M) (c : cc X k as M ρ hn nk nw σ (.inl (v, τ))) (g : ∀ M', LT sv υ M0 i τ (psh ρ hn σ) (pn hn) nk nw M' → Wz Z (P v M')) : Wz Z fun r => (∃ (v2 : Int32) (M1 : ak_M), ab_lay M1 ∧ rn X k (.ref 0 :: as) M (.inl (some (.int v2)), M1) ∧ P v2 M1 r) ∨ R r := by
  obtain ⟨M', r1, c'⟩ := c
  exact w_t (fun r h => Or.inl ⟨v, M', c'.L, r1, h⟩) (g M' (ck_LT B c'))
theorem c_129 (Q : LQ σ ρ hn nk nw M) (ha : a < nk) (h0 : kf σ a 0 = 1) : cc X 129 [.int (nI a)] M ρ hn nk nw σ (.inl (kf (mo_lnc σ a) a 3, mo_lnc σ a)) := by
  obtain ⟨k1, k2⟩ := Q.isK ha
  obtain ⟨hL, ne, fe, hf, hR, hv, hH⟩ := Q
  have h := cc_129 (X := X) hL hR hv hH (nI a)
  unfold sc_129 at h
  rw [if_pos k1, k2, if_pos h0] at h
  exact h
theorem c_130 (Q : LQ σ ρ hn nk nw M) (ha : a < nk) (h0 : in32 x (-9) 9 = true) : cc X 130 [.int (nI a), .int x] M ρ hn nk nw σ (.inl (kf σ a 7, lay σ a 7 x)) := by
  obtain ⟨k1, k2⟩ := Q.isK ha
  obtain ⟨hL, ne, fe, hf, hR, hv, hH⟩ := Q
  have h := cc_130 (X := X) hL hR hv hH (nI a) x
  unfold sc_130 at h
  rw [if_pos k1, k2, if_pos h0] at h
  exact h
theorem c_131 (Q : LQ σ ρ hn nk nw M) (ha : a < nk) (h0 : kf σ a 0 = 0) : cc X 131 [.int (nI a)] M ρ hn nk nw σ (.inl (kf σ a 3, lay σ a 0 2)) := by
  obtain ⟨k1, k2⟩ := Q.isK ha
  obtain ⟨hL, ne, fe, hf, hR, hv, hH⟩ := Q
  have h := cc_131 (X := X) hL hR hv hH (nI a)
  unfold sc_131 at h
  rw [if_pos k1, k2, if_pos (show mo_fly σ a = true from decide_eq_true h0)] at h
  exact h
theorem c_132 (Q : LQ σ ρ hn nk nw M) (ha : a < nk) (h0 : in32 x 1 400 = true) (h1 : mo_held σ a = true) : cc X 132 [.int (nI a), .int x] M ρ hn nk nw σ (.inl (kf σ a 6, lay σ a 6 x)) := by
  obtain ⟨k1, k2⟩ := Q.isK ha
  obtain ⟨hL, ne, fe, hf, hR, hv, hH⟩ := Q
  have h := cc_132 (X := X) hL hR hv hH (nI a) x
  unfold sc_132 at h
  rw [if_pos k1, k2, if_pos h0, if_pos h1] at h
  exact h
theorem c_133 (Q : LQ σ ρ hn nk nw M) (ha : a < nk) (h0 : in32 x 0 199 = true ∧ in32 w 0 199 = true) : ∃ v, cc X 133 [.int (nI a), .int x, .int w] M ρ hn nk nw σ (.inl (v, mo_wk σ a x w)) := by
  obtain ⟨k1, k2⟩ := Q.isK ha
  obtain ⟨hL, ne, fe, hf, hR, hv, hH⟩ := Q
  have h := cc_133 (X := X) hL hR hv hH (nI a) x w
  unfold sc_133 at h
  rw [if_pos k1, k2, if_pos (and_2.mpr h0)] at h
  exact ⟨_, h⟩
theorem c_135 (Q : LQ σ ρ hn nk nw M) (h0 : in32 x (-9) 9 = true ∧ in32 w (-9) 9 = true) : ∃ v, cc X 135 [.int 0, .int x, .int w] M ρ hn nk nw σ (.inl (v, up (up σ 12 x) 13 w)) := by
  obtain ⟨hL, ne, fe, hf, hR, hv, hH⟩ := Q
  have h := cc_135 (X := X) hL hR hv hH 0 x w
  have e2 : σ 2 = nI nw := hv.1.2.2.2.2.1
  have h1 : in32 0 0 (σ 2 - 1) = true := by
    rw [e2]
    exact (in_nk (n := nw) (by have := hv.1.2.1; omega)).mpr ⟨0, hv.1.2.1.1, rfl⟩
  unfold sc_135 at h
  rw [if_pos h1, if_pos (and_2.mpr h0)] at h
  exact ⟨_, h⟩
theorem c_128 (Q : LQ σ ρ hn nk nw M) {t : Nat} (ht : 1 ≤ t ∧ t ≤ 100) (h5 : (σ 0).toInt + t < 5000) : cc X 128 [.int (nI t)] M ρ hn nk nw σ (.inl (mo_ts σ nk t 10 - σ 10, mo_ts σ nk t)) := by
  obtain ⟨hL, ne, fe, hf, hR, hv, hH⟩ := Q
  have h := cc_128 (X := X) hL hR hv hH (nI t)
  have h0 := in32_t.mp hv.2.1
  have hz : (0 : Int32).toInt = 0 := rfl
  unfold sc_128 at h
  have i1 : in32 (nI t) 1 200 = true := in_v (lo := 1) (hi := 200) (by omega) (by omega)
  rw [if_pos i1, if_neg ?_, kN_n (by omega)] at h
  · exact h
  · intro e
    have := Int32.lt_iff_toInt_lt.mp e
    rw [j3_add (by rw [mi_t (by omega)]; omega) (by rw [mi_t (by omega)]; omega), mi_t (by omega)] at this
    have e5 : (5000 : Int32).toInt = 5000 := rfl
    omega
/-! what a change keeps -/
theorem Iv_e (h : Iv σ nk) (h1 : ∀ a, a < nk → kf τ a 0 = 0 → kf σ a 0 = 0 ∧ kf τ a 3 = kf σ a 3) (h2 : dv τ nk = dv σ nk) : Iv τ nk := ⟨fun a ha hf => by rw [(h1 a ha hf).2]; exact h.1 a ha (h1 a ha hf).1, h2.trans h.2⟩
theorem Iv_lay {w : Nat} (h : Iv σ nk) (hw : w < 15) (h0 : w ≠ 0) (h3 : w ≠ 3) (h11 : w ≠ 11) : Iv (lay σ k w v) nk := Iv_e h (fun a _ hf => ⟨(kf_n hw (by decide) (by omega)).symm.trans hf, kf_n hw (by decide) (by omega)⟩) (dv_lay hw h0 h11)
theorem Iv_up {i : Nat} (h : Iv σ nk) (hi : i < 23) (h10 : i ≠ 10) : Iv (up σ i v) nk := Iv_e h (fun a _ hf => ⟨(up_kf2 hi).symm.trans hf, up_kf2 hi⟩) (dv_c (fun a _ => up_kf2 hi) (fun a _ => by rw [up_kf2 hi]) (up_n (fun e => h10 e.symm)))
theorem Iv_go (h : Iv σ nk) (hf : kf σ k 0 = 0) : Iv (lay σ k 0 2) nk := Iv_e h (fun a _ hh => by
    by_cases c : a = k
    · subst c; rw [kf_s] at hh; exact absurd hh (by decide)
    · exact ⟨(kf_n (by decide) (by decide) (fun e => c e.1)).symm.trans hh, kf_n (by decide) (by decide) (fun e => c e.1)⟩) (dv_0 (by decide) (by rw [hf]; decide))
theorem Iv_wk {y : Int32} (h : Iv σ nk) : Iv (mo_wk σ k x y) nk := by
  unfold mo_wk
  have h2 : Iv (lay (lay σ k 4 x) k 5 y) nk := Iv_lay (Iv_lay h (by decide) (by decide) (by decide) (by decide)) (by decide) (by decide) (by decide) (by decide)
  split
  · exact Iv_lay (Iv_lay h2 (by decide) (by decide) (by decide) (by decide)) (by decide) (by decide) (by decide) (by decide)
  · exact h2
theorem wk_0 {y : Int32} : mo_wk σ k x y 0 = σ 0 := by
  unfold mo_wk lay
  split <;> repeat rw [up_n (by omega)]
theorem lnc_f (hk : k < 10) {q w : Nat} (hq : q < 10) (hw : w < 15) : kf (mo_lnc σ k) q w = if q = k ∧ w = 3 then mn32 20 (kf σ k 6) else if q = k ∧ w = 2 then kf σ k 5 else if q = k ∧ w = 1 then kf σ k 4 else if q = k ∧ w = 0 then 0 else kf σ q w := by
  unfold mo_lnc mo_hapAt
  rw [hap_kf hq hw]
  unfold mo_l1 mo_go
  have e6 : kf (lay (lay (lay σ k 0 0) k 1 (kf (lay σ k 0 0) k 4)) k 2 (kf (lay (lay σ k 0 0) k 1 (kf (lay σ k 0 0) k 4)) k 5)) k 6 = kf σ k 6 := by
    rw [kf_n (by decide) (by decide) (by omega), kf_n (by decide) (by decide) (by omega), kf_n (by decide) (by decide) (by omega)]
  have e5 : kf (lay (lay σ k 0 0) k 1 (kf (lay σ k 0 0) k 4)) k 5 = kf σ k 5 := by
    rw [kf_n (by decide) (by decide) (by omega), kf_n (by decide) (by decide) (by omega)]
  have e4 : kf (lay σ k 0 0) k 4 = kf σ k 4 := kf_n (by decide) (by decide) (by omega)
  rw [e6, e5, e4, kf_lay (by decide) hw, kf_lay (by decide) hw, kf_lay (by decide) hw, kf_lay (by decide) hw]
theorem lnc_0 (hk : k < 10) : mo_lnc σ k 0 = σ 0 := by
  unfold mo_lnc mo_hapAt
  rw [hap_lo (by decide) (by decide)]
  unfold mo_l1 mo_go lay
  repeat rw [up_n (by omega)]
theorem mn20 (hv : in32 v 1 400 = true) : 1 ≤ (mn32 20 v).toInt := by
  have h := in32_t.mp hv
  have h1 : (1 : Int32).toInt = 1 := rfl
  have h20 : (20 : Int32).toInt = 20 := rfl
  unfold mn32
  split <;> omega
theorem lnc_I (hv : vs σ nk nw n) (h : Iv σ nk) (hk : k < nk) (h1 : kf σ k 0 = 1) : Iv (mo_lnc σ k) nk ∧ kf (mo_lnc σ k) k 3 = mn32 20 (kf σ k 6) ∧ kf (mo_lnc σ k) k 6 = kf σ k 6 ∧ 1 ≤ (mn32 20 (kf σ k 6)).toInt := by
  have h10 := hv.1.1
  have h6 : in32 (kf σ k 6) 1 400 = true := hv.2.2.1 k hk 6 (by decide)
  have hm := mn20 h6
  have e3 : kf (mo_lnc σ k) k 3 = mn32 20 (kf σ k 6) := by rw [lnc_f (by omega) (by omega) (by decide), if_pos ⟨rfl, rfl⟩]
  refine ⟨⟨fun a ha hf => ?_, ?_⟩, e3, ?_, hm⟩
  · by_cases c : a = k
    · subst c
      rw [e3]
      intro e
      rw [e] at hm
      exact absurd hm (by decide)
    · have g : ∀ w, w < 15 → kf (mo_lnc σ k) a w = kf σ a w := fun w hw => by
        rw [lnc_f (by omega) (by omega) hw, if_neg (fun e => c e.1), if_neg (fun e => c e.1), if_neg (fun e => c e.1), if_neg (fun e => c e.1)]
      rw [g 3 (by decide)]
      exact h.1 a ha ((g 0 (by decide)).symm.trans hf)
  · refine Eq.trans (dv_c (fun a ha => ?_) (fun a ha => ?_) ?_) h.2
    · rw [lnc_f (by omega) (by omega) (by decide), if_neg (by omega), if_neg (by omega), if_neg (by omega), if_neg (by omega)]
    · rw [lnc_f (by omega) (by omega) (by decide), if_neg (by omega), if_neg (by omega), if_neg (by omega)]
      by_cases c : a = k
      · subst c; rw [if_pos ⟨rfl, rfl⟩, h1]; decide
      · rw [if_neg (fun e => c e.1)]
    · unfold mo_lnc mo_hapAt
      rw [hap_lo (by decide) (by decide)]
      unfold mo_l1 mo_go lay
      repeat rw [up_n (by omega)]
  · rw [lnc_f (by omega) (by omega) (by decide), if_neg (by omega), if_neg (by omega), if_neg (by omega), if_neg (by omega)]
theorem LQ_K (Q : LQ σ ρ hn nk nw M) : (∃ ne, vs σ nk nw ne) ∧ hn ≤ 10 := by
  obtain ⟨hL, ne, fe, hf, hR, hv, hH⟩ := Q
  exact ⟨⟨ne, hv⟩, hH.1⟩
end SAC
