/-! the class's answers, as the law asks for them -/
def sQ (p _k : Nat) : Prop := p = 70 ∨ (97 ≤ p ∧ p < 129)
/-- j questions later -/
def fq (j : Nat) (M M' : ak_M) : Prop := ab_lay M' ∧ (∀ p k, ¬ sQ p k → ak_I M' p k = ak_I M p k) ∧ ak_C M' ≤ ak_C M + 2 * j ∧ ak_Z M' ≤ ak_Z M + 12 * j
/-- the class's field is the row σ, its past ρ -/
def LQ (σ : Nat → Int32) (ρ : Nat → Nat → Int32) (hn nk nw : Nat) (M : ak_M) : Prop := ab_lay M ∧ ∃ ne fe hf, Rb 65 σ nk nw ne fe M ∧ vs σ nk nw ne ∧ Hc ρ hn hf nk nw M
/-- what is saved is the row τ -/
def Sv (τ : Nat → Int32) (nk nw : Nat) (M : ak_M) : Prop := ak_I M 0 8 = 1 ∧ ∃ ne fe, Rb 129 τ nk nw ne fe M ∧ vs τ nk nw ne
section SQS
variable {X : ak_X} {M M' M2 : ak_M} {σ τ : Nat → Int32} {ρ : Nat → Nat → Int32} {hn nk nw i j a b w t : Nat}
theorem fq.rf (hL : ab_lay M) : fq 0 M M := ⟨hL, fun _ _ _ => rfl, by omega, by omega⟩
theorem fq.tr (h : fq i M M') (g : fq j M' M2) : fq (i + j) M M2 := ⟨g.1, fun p k hs => (g.2.1 p k hs).trans (h.2.1 p k hs), by have := h.2.2.1; have := g.2.2.1; omega, by have := h.2.2.2; have := g.2.2.2; omega⟩
theorem fq.mo (h : fq i M M') (hij : i ≤ j) : fq j M M' := ⟨h.1, h.2.1, by have := h.2.2.1; omega, by have := h.2.2.2; omega⟩
theorem fq_rp (h : fq i M M') (hL : ab_lay M) : fr sQ M (rp M M') := ⟨hL, h.2.1, rfl, rfl, rfl, rfl⟩
theorem LQ_q (Q : LQ σ ρ hn nk nw M) (h : fq i M M') : LQ σ ρ hn nk nw M' := by
  obtain ⟨hL, ne, fe, hf, hR, hv, hH⟩ := Q
  refine ⟨h.1, ne, fe, hf, ?_, hv, ?_⟩
  · have g : Rb 65 σ nk nw ne fe (rp M M') := hR.fr hv.1 (fq_rp h hL) fun p k e => by unfold sQ at e; omega
    exact g
  · have g : Hc ρ hn hf nk nw (rp M M') := hH.fr (fq_rp h hL) fun p k e => by unfold sQ at e; omega
    exact g
theorem Sv_q (Q : Sv τ nk nw M) (hL : ab_lay M) (h : fq i M M') : Sv τ nk nw M' := by
  obtain ⟨h8, ne, fe, hR, hv⟩ := Q
  refine ⟨(h.2.1 0 8 (by unfold sQ; omega)).trans h8, ne, fe, ?_, hv⟩
  have g : Rb 129 τ nk nw ne fe (rp M M') := hR.fr hv.1 (fq_rp h hL) fun p k e => by unfold sQ at e; omega
  exact g
theorem LQ_ca {S : Nat → Nat → Prop} {k : Nat} {as : List Value} {v : Int32} (Q : LQ σ ρ hn nk nw M) (h : ca S X k as M (.inl v)) (hS : ∀ p k, S p k → sQ p k) : ∃ M', rn X k (.ref 0 :: as) M (.inl (some (.int v)), M') ∧ LQ σ ρ hn nk nw M' ∧ fq 1 M M' := by
  obtain ⟨M', r, f⟩ := h
  have g : fq 1 M M' := ⟨f.1, fun p k hs => f.2.1 p k fun e => hs (hS p k e), by have := f.2.2.1; omega, by have := f.2.2.2; omega⟩
  exact ⟨M', r, LQ_q Q g, g⟩
theorem cX_sQ : ∀ p k, cX 65 p k → sQ p k := fun p k h => Or.inl h
theorem cS_sQ : ∀ p k, cS 97 p k → sQ p k := fun p k h => Or.inr h
theorem LQ.isK (Q : LQ σ ρ hn nk nw M) (ha : a < nk) : mo_isK σ (nI a) = true ∧ kN (nI a) = a := by
  obtain ⟨hL, ne, fe, hf, hR, hv, hH⟩ := Q
  have := hv.1.1
  exact ⟨(isK_of hv.1).mpr ⟨a, ha, rfl⟩, kN_n (by omega)⟩
theorem q_92 (Q : LQ σ ρ hn nk nw M) (x : Int32) : ∃ M', rn X 92 [.ref 0, .int x] M (.inl (some (.int (sp_92 σ nk (nI hn) x))), M') ∧ LQ σ ρ hn nk nw M' ∧ fq 1 M M' := by
  obtain ⟨hL, ne, fe, hf, hR, hv, hH⟩ := id Q
  have h := ca_92 (X := X) hL hR hv x
  rw [hH.2.2.1] at h
  exact LQ_ca Q h cX_sQ
theorem q_93 (Q : LQ σ ρ hn nk nw M) (x : Int32) : ∃ M', rn X 93 [.ref 0, .int x] M (.inl (some (.int (sp_93 σ x))), M') ∧ LQ σ ρ hn nk nw M' ∧ fq 1 M M' := by
  obtain ⟨hL, ne, fe, hf, hR, hv, hH⟩ := id Q
  exact LQ_ca Q (ca_93 (X := X) hL hR x) cX_sQ
theorem q13_in (hw : w < 14) : in32 (nI w) 0 13 = true ∧ kN (nI w) = w := ⟨in32_t.mpr ⟨by rw [mi_t (by omega)]; show (0 : Int) ≤ _; omega, by rw [mi_t (by omega)]; show _ ≤ (13 : Int); omega⟩, kN_n (by omega)⟩
theorem q_95 (Q : LQ σ ρ hn nk nw M) (ha : a < nk) (w : Nat) (hw : w < 14) : ∃ M', rn X 95 [.ref 0, .int (nI a), .int (nI w)] M (.inl (some (.int (kf σ a w))), M') ∧ LQ σ ρ hn nk nw M' ∧ fq 1 M M' := by
  obtain ⟨hL, ne, fe, hf, hR, hv, hH⟩ := id Q
  have h := ca_95 (X := X) hL hR hv (nI a) (nI w)
  obtain ⟨k1, k2⟩ := Q.isK ha
  obtain ⟨w1, w2⟩ := q13_in hw
  unfold sp_95 at h
  rw [if_pos k1, if_pos w1, k2, w2] at h
  exact LQ_ca Q h cX_sQ
theorem q_98 (Q : LQ σ ρ hn nk nw M) (ha : a < nk) : ∃ M', rn X 98 [.ref 0, .int (nI a)] M (.inl (some (.int (if mo_fly σ a = true then mo_span σ a else (-1)))), M') ∧ LQ σ ρ hn nk nw M' ∧ fq 1 M M' := by
  obtain ⟨hL, ne, fe, hf, hR, hv, hH⟩ := id Q
  have h := ca_98 (X := X) hL hR hv (nI a)
  obtain ⟨k1, k2⟩ := Q.isK ha
  unfold sp_98 at h
  rw [if_pos k1, k2] at h
  exact LQ_ca Q h cX_sQ
theorem q_99 (Q : LQ σ ρ hn nk nw M) (ha : a < nk) (hf : mo_fly σ a = true) : ∃ M', rn X 99 [.ref 0, .int (nI a)] M (.inl (some (.int (mo_slack σ a))), M') ∧ LQ σ ρ hn nk nw M' ∧ fq 1 M M' := by
  obtain ⟨hL, ne, fe, hff, hR, hv, hH⟩ := id Q
  have h := ca_99 (X := X) hL hR hv (nI a)
  obtain ⟨k1, k2⟩ := Q.isK ha
  unfold sp_99 at h
  rw [if_pos k1, k2, if_pos hf] at h
  exact LQ_ca Q h cX_sQ
theorem q_100 (Q : LQ σ ρ hn nk nw M) (ha : a < nk) (hb : b < nk) : ∃ M', rn X 100 [.ref 0, .int (nI a), .int (nI b)] M (.inl (some (.int (bI (mo_cross σ a b)))), M') ∧ LQ σ ρ hn nk nw M' ∧ fq 1 M M' := by
  obtain ⟨hL, ne, fe, hf, hR, hv, hH⟩ := id Q
  have h := ca_100 (X := X) hL hR hv (nI a) (nI b)
  obtain ⟨k1, k2⟩ := Q.isK ha
  obtain ⟨w1, w2⟩ := Q.isK hb
  unfold sp_100 at h
  rw [if_pos k1, if_pos w1, k2, w2] at h
  exact LQ_ca Q h cX_sQ
theorem q_101 (Q : LQ σ ρ hn nk nw M) (ha : a < nk) (hb : b < nk) (w : Int32) (hw : in32 w 0 4 = true) : ∃ M', rn X 101 [.ref 0, .int (nI a), .int (nI b), .int w] M (.inl (some (.int (sp_101v σ a b w))), M') ∧ LQ σ ρ hn nk nw M' ∧ fq 1 M M' := by
  obtain ⟨hL, ne, fe, hf, hR, hv, hH⟩ := id Q
  have h := ca_101 (X := X) hL hR hv (nI a) (nI b) w
  obtain ⟨k1, k2⟩ := Q.isK ha
  obtain ⟨w1, w2⟩ := Q.isK hb
  unfold sp_101 at h
  rw [if_pos k1, if_pos w1, if_pos hw, k2, w2] at h
  exact LQ_ca Q h cX_sQ
theorem q_102 (Q : LQ σ ρ hn nk nw M) (ha : a < nk) : ∃ M', rn X 102 [.ref 0, .int (nI a)] M (.inl (some (.int (mo_rs σ a nk))), M') ∧ LQ σ ρ hn nk nw M' ∧ fq 1 M M' := by
  obtain ⟨hL, ne, fe, hf, hR, hv, hH⟩ := id Q
  have h := ca_102 (X := X) hL hR hv (nI a)
  obtain ⟨k1, k2⟩ := Q.isK ha
  unfold sp_102 at h
  rw [if_pos k1, k2] at h
  exact LQ_ca Q h cX_sQ
theorem q_103 (Q : LQ σ ρ hn nk nw M) (ha : a < nk) : ∃ M', rn X 103 [.ref 0, .int (nI a)] M (.inl (some (.int (mo_wear σ a nk))), M') ∧ LQ σ ρ hn nk nw M' ∧ fq 1 M M' := by
  obtain ⟨hL, ne, fe, hf, hR, hv, hH⟩ := id Q
  have h := ca_103 (X := X) hL hR hv (nI a)
  obtain ⟨k1, k2⟩ := Q.isK ha
  unfold sp_103 at h
  rw [if_pos k1, k2] at h
  exact LQ_ca Q h cX_sQ
theorem q_105 (Q : LQ σ ρ hn nk nw M) : ∃ M', rn X 105 [.ref 0] M (.inl (some (.int (oI (mo_hi σ nk)))), M') ∧ LQ σ ρ hn nk nw M' ∧ fq 1 M M' := by
  obtain ⟨hL, ne, fe, hf, hR, hv, hH⟩ := id Q
  exact LQ_ca Q (ca_105 (X := X) hL hR hv) cX_sQ
theorem q_109 (Q : LQ σ ρ hn nk nw M) (ha : a < nk) (hb : b < nk) : ∃ M', rn X 109 [.ref 0, .int (nI a), .int (nI b)] M (.inl (some (.int (mo_gap σ a b))), M') ∧ LQ σ ρ hn nk nw M' ∧ fq 1 M M' := by
  obtain ⟨hL, ne, fe, hf, hR, hv, hH⟩ := id Q
  have h := ca_109 (X := X) hL hR hv (nI a) (nI b)
  obtain ⟨k1, k2⟩ := Q.isK ha
  obtain ⟨w1, w2⟩ := Q.isK hb
  unfold sp_109 at h
  rw [if_pos k1, if_pos w1, k2, w2] at h
  exact LQ_ca Q h cX_sQ
theorem q_112 (Q : LQ σ ρ hn nk nw M) (ha : a < nk) : ∃ M', rn X 112 [.ref 0, .int (nI a)] M (.inl (some (.int (oI (mo_threat σ a nk)))), M') ∧ LQ σ ρ hn nk nw M' ∧ fq 1 M M' := by
  obtain ⟨hL, ne, fe, hf, hR, hv, hH⟩ := id Q
  have h := ca_112 (X := X) hL hR hv (nI a)
  obtain ⟨k1, k2⟩ := Q.isK ha
  unfold sp_112 at h
  rw [if_pos k1, k2] at h
  exact LQ_ca Q h cX_sQ
theorem q_113 (Q : LQ σ ρ hn nk nw M) (w : Nat) (hw : w < 14) : ∃ M', rn X 113 [.ref 0, .int (nI w)] M (.inl (some (.int (mo_sm σ w nk))), M') ∧ LQ σ ρ hn nk nw M' ∧ fq 1 M M' := by
  obtain ⟨hL, ne, fe, hf, hR, hv, hH⟩ := id Q
  have h := ca_113 (X := X) hL hR hv (nI w)
  obtain ⟨w1, w2⟩ := q13_in hw
  unfold sp_113 at h
  rw [if_pos w1, w2] at h
  exact LQ_ca Q h cX_sQ
theorem q_115 (Q : LQ σ ρ hn nk nw M) {x y tx ty : Int32} (h0 : in32 x 0 199 = true ∧ in32 y 0 199 = true ∧ in32 tx x 199 = true ∧ in32 ty y 199 = true) : ∃ M', rn X 115 [.ref 0, .int x, .int y, .int tx, .int ty] M (.inl (some (.int (mo_bx σ x y tx ty nk))), M') ∧ LQ σ ρ hn nk nw M' ∧ fq 1 M M' := by
  obtain ⟨hL, ne, fe, hf, hR, hv, hH⟩ := id Q
  have h := ca_115 (X := X) hL hR hv x y tx ty
  unfold sp_115 at h
  rw [if_pos h0] at h
  exact LQ_ca Q h cX_sQ
theorem q100_in (ht : 1 ≤ t ∧ t ≤ 100) : in32 (nI t) 1 100 = true ∧ kN (nI t) = t := ⟨in32_t.mpr ⟨by rw [mi_t (by omega)]; show (1 : Int) ≤ _; omega, by rw [mi_t (by omega)]; show _ ≤ (100 : Int); omega⟩, kN_n (by omega)⟩
theorem q_119 (Q : LQ σ ρ hn nk nw M) (ha : a < nk) (w : Nat) (hw : w < 14) (ht : 1 ≤ t ∧ t ≤ 100) : ∃ M', rn X 119 [.ref 0, .int (nI a), .int (nI w), .int (nI t)] M (.inl (some (.int (kf (mo_ts σ nk t) a w))), M') ∧ LQ σ ρ hn nk nw M' ∧ fq 1 M M' := by
  obtain ⟨hL, ne, fe, hf, hR, hv, hH⟩ := id Q
  have h := ca_119 (X := X) hL hR hv (nI a) (nI w) (nI t)
  obtain ⟨k1, k2⟩ := Q.isK ha
  obtain ⟨w1, w2⟩ := q13_in hw
  obtain ⟨t1, t2⟩ := q100_in ht
  unfold sp_119 at h
  rw [if_pos k1, if_pos w1, if_pos t1, k2, w2, t2] at h
  exact LQ_ca Q h cS_sQ
theorem q_122 (Q : LQ σ ρ hn nk nw M) (ht : 1 ≤ t ∧ t ≤ 100) : ∃ M', rn X 122 [.ref 0, .int (nI t)] M (.inl (some (.int (mo_ts σ nk t 10 - σ 10))), M') ∧ LQ σ ρ hn nk nw M' ∧ fq 1 M M' := by
  obtain ⟨hL, ne, fe, hf, hR, hv, hH⟩ := id Q
  have h := ca_122 (X := X) hL hR hv (nI t)
  obtain ⟨t1, t2⟩ := q100_in ht
  unfold sp_122 at h
  rw [if_pos t1, t2] at h
  exact LQ_ca Q h cS_sQ
theorem q_123 (Q : LQ σ ρ hn nk nw M) (ha : a < nk) (ht : 1 ≤ t ∧ t ≤ 100) : ∃ M', rn X 123 [.ref 0, .int (nI a), .int (nI t)] M (.inl (some (.int (mo_fst (mo_is 1 a a) nk (t + 1) 0 σ))), M') ∧ LQ σ ρ hn nk nw M' ∧ fq 1 M M' := by
  obtain ⟨hL, ne, fe, hf, hR, hv, hH⟩ := id Q
  have h := ca_123 (X := X) hL hR hv (nI a) (nI t)
  obtain ⟨k1, k2⟩ := Q.isK ha
  obtain ⟨t1, t2⟩ := q100_in ht
  unfold sp_123 at h
  rw [if_pos k1, if_pos t1, k2, t2] at h
  exact LQ_ca Q h cS_sQ
theorem q_126 (Q : LQ σ ρ hn nk nw M) (ha : a < nk) (ht : 1 ≤ t ∧ t ≤ 50) : ∃ M', rn X 126 [.ref 0, .int (nI a), .int (nI t)] M (.inl (some (.int (mo_rf (-9) (mo_rv σ nk a t 3 1) 19).1)), M') ∧ LQ σ ρ hn nk nw M' ∧ fq 1 M M' := by
  obtain ⟨hL, ne, fe, hf, hR, hv, hH⟩ := id Q
  have h10 := hv.1.1
  have c0 := ck_144 (X := X) hL hR.2.1.1 (x := nI a)
  have c2 := ck_146 (X := X) hL (x := nI t) (lo := 1) (hi := 50)
  have h2 : in32 (nI t) 1 50 = true := in32_t.mpr ⟨by rw [mi_t (by omega)]; show (1 : Int) ≤ _; omega, by rw [mi_t (by omega)]; show _ ≤ (50 : Int); omega⟩
  obtain ⟨M2, r2, f2⟩ := sk_148 (X := X) hL hR hv ha (t := t) (w := 3) (by omega) (by decide) 1
  exact LQ_ca Q ⟨M2, t_126 hL _ _ (Or.inl ⟨M, hL, c0.1 (Q.isK ha).1, Or.inl ⟨M, hL, c2.1 h2, _, M2, f2.1, r2, rfl⟩⟩), f2.qx⟩ cS_sQ
end SQS
