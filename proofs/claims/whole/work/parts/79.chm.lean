/-! the model's changes -/
def mo_ch (p k : Nat) : Prop := p = 484 ∨ p = 485 ∨ p = 489 ∨ (490 ≤ p ∧ p ≤ 494) ∨ (p = 483 ∧ (k = 0 ∨ k = 7 ∨ k = 9 ∨ k = 10))
/-- a change of the model under way -/
def mk (M : ak_M) (ρ : Nat → Nat → Int32) (n : Nat) (τ : Nat → Int32) (M1 : ak_M) : Prop := fr mo_ch M M1 ∧ ro M1 = τ ∧ (∀ k, k < 245 → ak_I M1 485 k = ro M k) ∧ Hm ρ n M1 ∧ ak_I M1 483 0 = 0
def mc (X : ak_X) (k : Nat) (as : List Value) (M : ak_M) (ρ : Nat → Nat → Int32) (n : Nat) (cd : Nat → Int32) (o : Int32 × (Nat → Int32) ⊕ Nat) : Prop := match o with
  | .inl (v, τ) => ∃ M', rn X k (.ref 483 :: as) M (.inl (some (.int v)), M') ∧ fr mo_ch M M' ∧ ro M' = τ ∧ ak_I M' 483 0 = 0 ∧ Hm (psh ρ n (ro M)) (pn n) M'
  | .inr E => ∃ M' v, rn X k (.ref 483 :: as) M (.inl (some (.int v)), M') ∧ fr mo_q1 M M' ∧ ak_I M' 483 0 = cd E
def cd3 (E : Nat) : Int32 := if E = 0 then 1 else if E = 1 then 2 else 3
theorem mk_lay_d : True := trivial
section SMC
variable {X : ak_X} {M N M1 M2 : ak_M} {n nk nw ne k : Nat} {σ τ : Nat → Int32} {ρ : Nat → Nat → Int32}
theorem q1_ch {p k : Nat} (h : mo_q1 p k) : mo_ch p k := by unfold mo_q1 at h; unfold mo_ch; omega
theorem mk_st (F : fr mo_q1 M N) (h0 : ak_I N 483 0 = 0) (hH : Hm ρ n M) : ∃ M', rn X 161 [.ref 483] N (.inl none, M') ∧ mk M ρ n (ro M) M' := by
  obtain ⟨M', r, f, e⟩ := sm_161 (X := X) F.1
  have er : ro N = ro M := F.row fun k h => absurd h.1 (by decide)
  rw [er] at e
  have e4 : ∀ p, p ≠ 485 → ak_I M' p = ak_I N p := fun p hp => f.row fun k h => hp h.1
  refine ⟨M', r, (F.mo fun _ _ => q1_ch).tr (f.mo fun p k h => Or.inr (Or.inl h.1)), (e4 484 (by decide)).trans er, e, (hH.fr F fun p k h => by unfold mo_q1 at h; omega).fr f fun p k h => by unfold cQ at h; omega, by rw [e4 483 (by decide)]; exact h0⟩
theorem mk_f {S : Nat → Nat → Prop} (h : mk M ρ n τ M1) (g : fr S M1 M2) (hS : ∀ p k, S p k → p = 484 ∨ (490 ≤ p ∧ p ≤ 494) ∨ (p = 483 ∧ (k = 9 ∨ k = 10))) (e : ro M2 = σ) : mk M ρ n σ M2 := by
  obtain ⟨h1, h2, h3, h4, h5⟩ := h
  exact ⟨h1.tr (g.mo fun p k hs => by have := hS p k hs; unfold mo_ch; omega), e, fun k hk => by rw [g.row fun k hs => by have := hS _ _ hs; omega]; exact h3 k hk, h4.fr g fun p k hs => by have := hS p k hs; omega, by rw [g.2.1 483 0 fun hs => by have := hS _ _ hs; omega]; exact h5⟩
theorem mk_wr (h : mk M ρ n τ M1) {i : Nat} {v : Int32} : mk M ρ n (up τ i v) (ak_sI M1 484 i v) := mk_f h ((fr.rf h.1.1).st (S := fun p _ => p = 484) rfl) (fun p k e => Or.inl e) (by rw [ro_up, h.2.1])
theorem mk_lay (h : mk M ρ n τ M1) (hk : k < 10) {w : Nat} (hw : w < 15) {v : Int32} : rn X 172 [.ref 483, .int (nI k), .int (nI w), .int v] M1 (.inl none, ak_sI M1 484 (23 + 15 * k + w) v) ∧ mk M ρ n (lay τ k w v) (ak_sI M1 484 (23 + 15 * k + w) v) := ⟨sm_172 h.1.1 hk hw, mk_wr h⟩
theorem mk_mr (h : mk M ρ n τ M1) (g : mr M1 σ M2) : mk M ρ n σ M2 := mk_f h g.1 (fun p k e => by unfold mo_tk mo_pq at e; omega) g.2
theorem mk_mt (h : mk M ρ n τ M1) (g : mt M1 σ M2) : mk M ρ n σ M2 := mk_f h g.1 (fun p k e => by unfold mo_tt mo_tk mo_pq at e; omega) g.2
theorem mk_71 (h : mk M ρ n τ M1) (hk : k < 10) {w : Nat} (hw : w < 15) : rn X 171 [.ref 483, .int (nI k), .int (nI w)] M1 (.inl (some (.int (kf τ k w))), M1) := by
  have := sm_171 (X := X) h.1.1 hk hw
  rw [h.2.1] at this
  exact this
theorem mk_go (h : mk M ρ n τ M1) (hk : k < 10) : ∃ M2, rn X 259 [.ref 483, .int (nI k)] M1 (.inl none, M2) ∧ mk M ρ n (mo_go τ k) M2 := by
  have s4 := mk_71 (X := X) h hk (w := 4) (by decide)
  obtain ⟨r1, h1⟩ := mk_lay (X := X) h hk (w := 1) (by decide) (v := kf τ k 4)
  have s5 := mk_71 (X := X) h1 hk (w := 5) (by decide)
  obtain ⟨r2, h2⟩ := mk_lay (X := X) h1 hk (w := 2) (by decide) (v := kf (lay τ k 1 (kf τ k 4)) k 5)
  exact ⟨_, t_259 h.1.1 _ ⟨_, M1, h.1.1, s4, _, h1.1.1, r1, _, _, h1.1.1, s5, _, h2.1.1, r2, rfl⟩, h2⟩
theorem mk_dn (h : mk M ρ n τ M1) (v : Int32) : ∃ M2, rn X 162 [.ref 483, .int v] M1 (.inl (some (.int v)), M2) ∧ (fr mo_ch M M2 ∧ ro M2 = τ ∧ ak_I M2 483 0 = 0 ∧ Hm (psh ρ n (ro M)) (pn n) M2) := by
  obtain ⟨h1, h2, h3, h4, h5⟩ := h
  obtain ⟨M2, r, f, H⟩ := sm_162 (X := X) h1.1 h4 h3 v
  refine ⟨M2, r, h1.tr (f.mo fun p k e => by unfold mo_hs at e; unfold mo_ch; omega), ?_, ?_, H⟩
  · rw [← h2]; exact f.row fun k e => by unfold mo_hs at e; omega
  · rw [f.2.1 483 0 fun e => by unfold mo_hs at e; omega]; exact h5
theorem mc_e {k : Nat} {as : List Value} {cd : Nat → Int32} {M' : ak_M} {E : Nat} {w : Int32} (h : rn X k (.ref 483 :: as) M (.inl (some (.int w)), M')) (f : fr mo_q1 M M') (t : ak_I M' 483 0 = cd E) : mc X k as M ρ n cd (.inr E) := ⟨M', w, h, f, t⟩
theorem mc_258 (hL : ab_lay M) (hv : vs (ro M) nk nw ne) (hH : Hm ρ n M) (t : Int32) : mc X 258 [.int t] M ρ n (cdI 1) (sc_128 (ro M) nk t) := by
  have l1 := to_L hL 0
  have l2 := to_L l1 0
  unfold sc_128
  by_cases h2 : in32 t 1 200 = true
  · rw [if_pos h2]
    have e0 : ak_I (to M 0) 484 0 = ro M 0 := congrFun (to_r 0) 0
    by_cases h5 : 5000 < ro M 0 + t
    · rw [if_pos h5]
      exact mc_e (t_258 hL _ ⟨_, M, hL, jm_in32 (by rfl) (by rfl), _, _, l1, sm_155y hL h2, mb_n (by1 h2) ⟨0, ⟨rfl, rfl⟩, mb_y (by rw [e0]; exact h5) ⟨_, _, to_L l1 2, sm_156n l1 (b := false) (by decide), mb_y rfl rfl⟩⟩⟩) ((to_f hL 0).tr (to_f l1 2)) (to_0 _)
    · rw [if_neg h5]
      obtain ⟨m, hm1, hm, rfl⟩ := in_200 h2
      rw [kN_n (by omega)]
      obtain ⟨M1, r1, m1⟩ := mk_st (X := X) (ρ := ρ) ((to_f hL 0).tr (to_f l1 0)) (to_0 _) hH
      obtain ⟨M2, r2, g2⟩ := sm_213 (X := X) m1.1.1 (nk := nk) (nw := nw) (ne := ne) (by rw [m1.2.1]; exact hv) (t := m) (by omega)
      rw [m1.2.1] at g2
      have m2 := mk_mt m1 g2
      obtain ⟨M3, r3, m3⟩ := mk_dn (X := X) m2 (mo_ts (ro M) nk m 10 - ro M 10)
      refine ⟨M3, t_258 hL _ ⟨_, M, hL, jm_in32 (by rfl) (by rfl), _, _, l1, sm_155y hL h2, mb_n (by1 h2) ⟨0, ⟨rfl, rfl⟩, mb_n (by rw [e0]; exact h5) ⟨_, _, l2, sm_156y l1 (b := true) rfl, mb_n (by decide) ⟨M1, m1.1.1, r1, 10, ⟨rfl, rfl⟩, M2, m2.1.1, r2, 10, ⟨rfl, rfl⟩, _, M3, m3.1.1, ?_, rfl⟩⟩⟩⟩, m3⟩
      rw [show ak_I M2 484 10 = mo_ts (ro M) nk m 10 from congrFun m2.2.1 10, show ak_I M1 484 10 = ro M 10 from congrFun m1.2.1 10]
      exact r3
  · rw [if_neg h2]
    exact mc_e (t_258 hL _ ⟨_, M, hL, jm_in32 (by rfl) (by rfl), _, _, to_L hL 1, sm_155n hL h2, mb_y (bn1 h2) rfl⟩) (to_f hL 1) (to_0 _)
theorem mc_260 (hL : ab_lay M) (hv : vs (ro M) nk nw ne) (hH : Hm ρ n M) (x : Int32) : mc X 260 [.int x] M ρ n (cdI 0) (sc_129 (ro M) x) := by
  have h10 := hv.1.1
  have l1 := to_L hL 0
  have l2 := to_L l1 0
  unfold sc_129
  by_cases h0 : mo_isK (ro M) x = true
  · rw [if_pos h0]
    obtain ⟨k, hk, rfl⟩ := (isK_of hv.1).mp h0
    have hk10 : k < 10 := by omega
    rw [kN_n (by omega)]
    have s0 := sm_171 (X := X) (w := 0) l1 hk10 (by decide)
    rw [to_r] at s0
    by_cases h1 : kf (ro M) k 0 = 1
    · rw [if_pos h1]
      obtain ⟨M1, r1, m1⟩ := mk_st (X := X) (ρ := ρ) ((to_f hL 0).tr (to_f l1 0)) (to_0 _) hH
      obtain ⟨r2, m2⟩ := mk_lay (X := X) m1 hk10 (w := 0) (by decide) (v := 0)
      generalize ak_sI M1 484 (23 + 15 * k + 0) 0 = M2 at r2 m2
      obtain ⟨M3, r3, m3⟩ := mk_go (X := X) m2 hk10
      have m3 : mk M ρ n (mo_l1 (ro M) k) M3 := m3
      have s6 := mk_71 (X := X) m3 hk10 (w := 6) (by decide)
      obtain ⟨r4, m4⟩ := mk_lay (X := X) m3 hk10 (w := 3) (by decide) (v := mn32 20 (kf (mo_l1 (ro M) k) k 6))
      generalize ak_sI M3 484 (23 + 15 * k + 3) (mn32 20 (kf (mo_l1 (ro M) k) k 6)) = M4 at r4 m4
      have ct4 : ct (lay (mo_l1 (ro M) k) k 3 (mn32 20 (kf (mo_l1 (ro M) k) k 6))) nk nw ne := ct_lay (ct_lay (ct_lay (ct_lay hv.1)))
      obtain ⟨M5, r5, g5⟩ := sm_187 (X := X) m4.1.1 (nk := nk) (nw := nw) (ne := ne) (by rw [m4.2.1]; exact ct4) (kd := 4) (o := -1) hk10
      rw [m4.2.1] at g5
      have m5 : mk M ρ n (mo_lnc (ro M) k) M5 := mk_mr m4 g5
      have s3 := mk_71 (X := X) m5 hk10 (w := 3) (by decide)
      obtain ⟨M6, r6, m6⟩ := mk_dn (X := X) m5 (kf (mo_lnc (ro M) k) k 3)
      exact ⟨M6, t_260 hL _ ⟨_, M, hL, sm_169 hL, _, _, l1, sm_155y hL h0, mb_n (by1 h0) ⟨_, _, l1, s0, mb_y h1 ⟨_, _, l2, sm_156y l1 (b := true) rfl, mb_n (by decide) ⟨M1, m1.1.1, r1, M2, m2.1.1, r2, M3, m3.1.1, r3, _, M3, m3.1.1, s6, _, M3, m3.1.1, jm_min m3.1.1, M4, m4.1.1, r4, M5, m5.1.1, r5, _, M5, m5.1.1, s3, _, M6, m6.1.1, r6, rfl⟩⟩⟩⟩, m6⟩
    · rw [if_neg h1]
      exact mc_e (t_260 hL _ ⟨_, M, hL, sm_169 hL, _, _, l1, sm_155y hL h0, mb_n (by1 h0) ⟨_, _, l1, s0, mb_n h1 ⟨_, _, to_L l1 2, sm_156n l1 (b := false) (by decide), mb_y rfl rfl⟩⟩⟩) ((to_f hL 0).tr (to_f l1 2)) (to_0 _)
  · rw [if_neg h0]
    exact mc_e (t_260 hL _ ⟨_, M, hL, sm_169 hL, _, _, to_L hL 1, sm_155n hL h0, mb_y (bn1 h0) rfl⟩) (to_f hL 1) (to_0 _)
theorem mc_261 (hL : ab_lay M) (hv : vs (ro M) nk nw ne) (hH : Hm ρ n M) (x v : Int32) : mc X 261 [.int x, .int v] M ρ n (cdI 0) (sc_130 (ro M) x v) := by
  have h10 := hv.1.1
  have l1 := to_L hL 0
  have l2 := to_L l1 0
  unfold sc_130
  by_cases h0 : mo_isK (ro M) x = true
  · rw [if_pos h0]
    by_cases h1 : in32 v (-9) 9 = true
    · rw [if_pos h1]
      obtain ⟨k, hk, rfl⟩ := (isK_of hv.1).mp h0
      have hk10 : k < 10 := by omega
      rw [kN_n (by omega)]
      obtain ⟨M1, r1, m1⟩ := mk_st (X := X) (ρ := ρ) ((to_f hL 0).tr (to_f l1 0)) (to_0 _) hH
      have s7 := mk_71 (X := X) m1 hk10 (w := 7) (by decide)
      obtain ⟨r2, m2⟩ := mk_lay (X := X) m1 hk10 (w := 7) (by decide) (v := v)
      obtain ⟨M6, r6, m6⟩ := mk_dn (X := X) m2 (kf (ro M) k 7)
      exact ⟨M6, t_261 hL _ _ ⟨_, M, hL, sm_169 hL, _, _, l1, sm_155y hL h0, mb_n (by1 h0) ⟨_, _, l1, jm_in32 (by rfl) (by rfl), _, _, l2, sm_156y l1 h1, mb_n (by1 h1) ⟨M1, m1.1.1, r1, _, M1, m1.1.1, s7, _, m2.1.1, r2, _, M6, m6.1.1, r6, rfl⟩⟩⟩, m6⟩
    · rw [if_neg h1]
      exact mc_e (t_261 hL _ _ ⟨_, M, hL, sm_169 hL, _, _, l1, sm_155y hL h0, mb_n (by1 h0) ⟨_, _, l1, jm_in32 (by rfl) (by rfl), _, _, to_L l1 2, sm_156n l1 h1, mb_y (bn1 h1) rfl⟩⟩) ((to_f hL 0).tr (to_f l1 2)) (to_0 _)
  · rw [if_neg h0]
    exact mc_e (t_261 hL _ _ ⟨_, M, hL, sm_169 hL, _, _, to_L hL 1, sm_155n hL h0, mb_y (bn1 h0) rfl⟩) (to_f hL 1) (to_0 _)
theorem mc_262 (hL : ab_lay M) (hv : vs (ro M) nk nw ne) (hH : Hm ρ n M) (x : Int32) : mc X 262 [.int x] M ρ n (cdI 0) (sc_131 (ro M) x) := by
  have h10 := hv.1.1
  have l1 := to_L hL 0
  have l2 := to_L l1 0
  unfold sc_131
  by_cases h0 : mo_isK (ro M) x = true
  · rw [if_pos h0]
    obtain ⟨k, hk, rfl⟩ := (isK_of hv.1).mp h0
    have hk10 : k < 10 := by omega
    rw [kN_n (by omega)]
    have s0 := sm_175 (X := X) l1 hk10
    rw [to_r] at s0
    by_cases h1 : mo_fly (ro M) k = true
    · rw [if_pos h1]
      obtain ⟨M1, r1, m1⟩ := mk_st (X := X) (ρ := ρ) ((to_f hL 0).tr (to_f l1 0)) (to_0 _) hH
      obtain ⟨r2, m2⟩ := mk_lay (X := X) m1 hk10 (w := 0) (by decide) (v := 2)
      have s3 := mk_71 (X := X) m2 hk10 (w := 3) (by decide)
      rw [kf_n (by decide) (by decide) (by omega)] at s3
      obtain ⟨M6, r6, m6⟩ := mk_dn (X := X) m2 (kf (ro M) k 3)
      exact ⟨M6, t_262 hL _ ⟨_, M, hL, sm_169 hL, _, _, l1, sm_155y hL h0, mb_n (by1 h0) ⟨_, _, l1, s0, _, _, l2, sm_156y l1 h1, mb_n (by1 h1) ⟨M1, m1.1.1, r1, _, m2.1.1, r2, _, _, m2.1.1, s3, _, M6, m6.1.1, r6, rfl⟩⟩⟩, m6⟩
    · rw [if_neg h1]
      exact mc_e (t_262 hL _ ⟨_, M, hL, sm_169 hL, _, _, l1, sm_155y hL h0, mb_n (by1 h0) ⟨_, _, l1, s0, _, _, to_L l1 2, sm_156n l1 h1, mb_y (bn1 h1) rfl⟩⟩) ((to_f hL 0).tr (to_f l1 2)) (to_0 _)
  · rw [if_neg h0]
    exact mc_e (t_262 hL _ ⟨_, M, hL, sm_169 hL, _, _, to_L hL 1, sm_155n hL h0, mb_y (bn1 h0) rfl⟩) (to_f hL 1) (to_0 _)
theorem mc_263 (hL : ab_lay M) (hv : vs (ro M) nk nw ne) (hH : Hm ρ n M) (x v : Int32) : mc X 263 [.int x, .int v] M ρ n cd3 (sc_132 (ro M) x v) := by
  have h10 := hv.1.1
  have l1 := to_L hL 0
  have l2 := to_L l1 0
  have l3 := to_L l2 0
  unfold sc_132
  by_cases h0 : mo_isK (ro M) x = true
  · rw [if_pos h0]
    by_cases h1 : in32 v 1 400 = true
    · rw [if_pos h1]
      obtain ⟨k, hk, rfl⟩ := (isK_of hv.1).mp h0
      have hk10 : k < 10 := by omega
      rw [kN_n (by omega)]
      have s0 := sm_176 (X := X) l2 hk10
      rw [to_r, to_r] at s0
      by_cases h2 : mo_held (ro M) k = true
      · rw [if_pos h2]
        obtain ⟨M1, r1, m1⟩ := mk_st (X := X) (ρ := ρ) (((to_f hL 0).tr (to_f l1 0)).tr (to_f l2 0)) (to_0 _) hH
        have s6 := mk_71 (X := X) m1 hk10 (w := 6) (by decide)
        obtain ⟨r2, m2⟩ := mk_lay (X := X) m1 hk10 (w := 6) (by decide) (v := v)
        obtain ⟨M6, r6, m6⟩ := mk_dn (X := X) m2 (kf (ro M) k 6)
        exact ⟨M6, t_263 hL _ _ ⟨_, M, hL, sm_169 hL, _, _, l1, sm_155y hL h0, mb_n (by1 h0) ⟨_, _, l1, jm_in32 (by rfl) (by rfl), _, _, l2, sm_156y l1 h1, mb_n (by1 h1) ⟨_, _, l2, s0, _, _, l3, sm_156y l2 h2, mb_n (by1 h2) ⟨M1, m1.1.1, r1, _, M1, m1.1.1, s6, _, m2.1.1, r2, _, M6, m6.1.1, r6, rfl⟩⟩⟩⟩, m6⟩
      · rw [if_neg h2]
        exact mc_e (t_263 hL _ _ ⟨_, M, hL, sm_169 hL, _, _, l1, sm_155y hL h0, mb_n (by1 h0) ⟨_, _, l1, jm_in32 (by rfl) (by rfl), _, _, l2, sm_156y l1 h1, mb_n (by1 h1) ⟨_, _, l2, s0, _, _, to_L l2 3, sm_156n l2 h2, mb_y (bn1 h2) rfl⟩⟩⟩) (((to_f hL 0).tr (to_f l1 0)).tr (to_f l2 3)) (to_0 _)
    · rw [if_neg h1]
      exact mc_e (t_263 hL _ _ ⟨_, M, hL, sm_169 hL, _, _, l1, sm_155y hL h0, mb_n (by1 h0) ⟨_, _, l1, jm_in32 (by rfl) (by rfl), _, _, to_L l1 2, sm_156n l1 h1, mb_y (bn1 h1) rfl⟩⟩) ((to_f hL 0).tr (to_f l1 2)) (to_0 _)
  · rw [if_neg h0]
    exact mc_e (t_263 hL _ _ ⟨_, M, hL, sm_169 hL, _, _, to_L hL 1, sm_155n hL h0, mb_y (bn1 h0) rfl⟩) (to_f hL 1) (to_0 _)
theorem go_wk (k : Nat) (a b : Int32) : mo_go (lay (lay σ k 4 a) k 5 b) k = lay (lay (lay (lay σ k 4 a) k 5 b) k 1 a) k 2 b := by
  have e4 : kf (lay (lay σ k 4 a) k 5 b) k 4 = a := by rw [kf_n (by decide) (by decide) (by omega)]; exact kf_s
  have e5 : kf (lay (lay (lay σ k 4 a) k 5 b) k 1 a) k 5 = b := by rw [kf_n (by decide) (by decide) (by omega)]; exact kf_s
  unfold mo_go
  rw [e4, e5]
theorem mc_264 (hL : ab_lay M) (hv : vs (ro M) nk nw ne) (hH : Hm ρ n M) (x a b : Int32) : mc X 264 [.int x, .int a, .int b] M ρ n (cdI 0) (sc_133 (ro M) x a b) := by
  have h10 := hv.1.1
  have l1 := to_L hL 0
  have l2 := to_L l1 0
  unfold sc_133
  by_cases h0 : mo_isK (ro M) x = true
  · rw [if_pos h0]
    by_cases h1 : (in32 a 0 199 && in32 b 0 199) = true
    · rw [if_pos h1]
      obtain ⟨k, hk, rfl⟩ := (isK_of hv.1).mp h0
      have hk10 : k < 10 := by omega
      rw [kN_n (by omega)]
      obtain ⟨M1, r1, m1⟩ := mk_st (X := X) (ρ := ρ) ((to_f hL 0).tr (to_f l1 0)) (to_0 _) hH
      have s4 := mk_71 (X := X) m1 hk10 (w := 4) (by decide)
      have s5 := mk_71 (X := X) m1 hk10 (w := 5) (by decide)
      obtain ⟨r2, m2⟩ := mk_lay (X := X) m1 hk10 (w := 4) (by decide) (v := a)
      obtain ⟨r3, m3⟩ := mk_lay (X := X) m2 hk10 (w := 5) (by decide) (v := b)
      have s0 := mk_71 (X := X) m3 hk10 (w := 0) (by decide)
      by_cases d : kf (lay (lay (ro M) k 4 a) k 5 b) k 0 = 1
      · have ew : mo_wk (ro M) k a b = mo_go (lay (lay (ro M) k 4 a) k 5 b) k := by rw [go_wk]; exact if_pos d
        rw [ew]
        obtain ⟨M4, r4, m4⟩ := mk_go (X := X) m3 hk10
        obtain ⟨M6, r6, m6⟩ := mk_dn (X := X) m4 (ab32 (kf (ro M) k 4 - a) + ab32 (kf (ro M) k 5 - b))
        exact ⟨M6, t_264 hL _ _ _ ⟨_, M, hL, sm_169 hL, _, _, l1, sm_155y hL h0, mb_n (by1 h0) ⟨_, _, l1, sm_232 l1, _, _, l2, sm_156y l1 h1, mb_n (by1 h1) ⟨M1, m1.1.1, r1, _, M1, m1.1.1, s4, _, M1, m1.1.1, jm_abs m1.1.1, _, M1, m1.1.1, s5, _, M1, m1.1.1, jm_abs m1.1.1, _, m2.1.1, r2, _, m3.1.1, r3, _, _, m3.1.1, s0, mb_y d ⟨M4, m4.1.1, r4, _, M6, m6.1.1, r6, rfl⟩⟩⟩⟩, m6⟩
      · have ew : mo_wk (ro M) k a b = lay (lay (ro M) k 4 a) k 5 b := if_neg d
        rw [ew]
        obtain ⟨M6, r6, m6⟩ := mk_dn (X := X) m3 (ab32 (kf (ro M) k 4 - a) + ab32 (kf (ro M) k 5 - b))
        exact ⟨M6, t_264 hL _ _ _ ⟨_, M, hL, sm_169 hL, _, _, l1, sm_155y hL h0, mb_n (by1 h0) ⟨_, _, l1, sm_232 l1, _, _, l2, sm_156y l1 h1, mb_n (by1 h1) ⟨M1, m1.1.1, r1, _, M1, m1.1.1, s4, _, M1, m1.1.1, jm_abs m1.1.1, _, M1, m1.1.1, s5, _, M1, m1.1.1, jm_abs m1.1.1, _, m2.1.1, r2, _, m3.1.1, r3, _, _, m3.1.1, s0, mb_n d ⟨_, M6, m6.1.1, r6, rfl⟩⟩⟩⟩, m6⟩
    · rw [if_neg h1]
      exact mc_e (t_264 hL _ _ _ ⟨_, M, hL, sm_169 hL, _, _, l1, sm_155y hL h0, mb_n (by1 h0) ⟨_, _, l1, sm_232 l1, _, _, to_L l1 2, sm_156n l1 h1, mb_y (bn1 h1) rfl⟩⟩) ((to_f hL 0).tr (to_f l1 2)) (to_0 _)
  · rw [if_neg h0]
    exact mc_e (t_264 hL _ _ _ ⟨_, M, hL, sm_169 hL, _, _, to_L hL 1, sm_155n hL h0, mb_y (bn1 h0) rfl⟩) (to_f hL 1) (to_0 _)
end SMC
