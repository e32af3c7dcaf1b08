/-! the class's changes -/
def cZ (p k : Nat) : Prop := cY p k ∨ cS 65 p k
/-- a change under way: the past is ρ, the field is τ -/
def ck (M : ak_M) (ρ : Nat → Nat → Int32) (n nk nw : Nat) (τ : Nat → Int32) (M1 : ak_M) : Prop := ∃ ne fe f, fr cZ M M1 ∧ Rb 65 τ nk nw ne fe M1 ∧ vs τ nk nw ne ∧ Hc ρ n f nk nw M1
/-- a change of the class: what it answers and what the field becomes, or what is thrown -/
def cc (X : ak_X) (k : Nat) (as : List Value) (M : ak_M) (ρ : Nat → Nat → Int32) (n nk nw : Nat) (σ : Nat → Int32) (o : Int32 × (Nat → Int32) ⊕ Nat) : Prop := match o with
  | .inl (v, τ) => ∃ M', rn X k (.ref 0 :: as) M (.inl (some (.int v)), M') ∧ ck M (psh ρ n σ) (pn n) nk nw τ M'
  | .inr E => ∃ M', rn X k (.ref 0 :: as) M (.inr E, M') ∧ fx (cX 65) M M'
def mo_go (σ : Nat → Int32) (k : Nat) : Nat → Int32 := lay (lay σ k 1 (kf σ k 4)) k 2 (kf (lay σ k 1 (kf σ k 4)) k 5)
def mo_l1 (σ : Nat → Int32) (k : Nat) : Nat → Int32 := mo_go (lay σ k 0 0) k
def mo_lnc (σ : Nat → Int32) (k : Nat) : Nat → Int32 := mo_hapAt (lay (mo_l1 σ k) k 3 (mn32 20 (kf (mo_l1 σ k) k 6))) 4 k (-1)
def sc_128 (σ : Nat → Int32) (n : Nat) (t : Int32) : Int32 × (Nat → Int32) ⊕ Nat := if in32 t 1 200 = true then (if 5000 < σ 0 + t then .inr 2 else .inl (mo_ts σ n (kN t) 10 - σ 10, mo_ts σ n (kN t))) else .inr 1
def sc_129 (σ : Nat → Int32) (x : Int32) : Int32 × (Nat → Int32) ⊕ Nat := if mo_isK σ x = true then (if kf σ (kN x) 0 = 1 then .inl (kf (mo_lnc σ (kN x)) (kN x) 3, mo_lnc σ (kN x)) else .inr 2) else .inr 0
def sc_130 (σ : Nat → Int32) (x v : Int32) : Int32 × (Nat → Int32) ⊕ Nat := if mo_isK σ x = true then (if in32 v (-9) 9 = true then .inl (kf σ (kN x) 7, lay σ (kN x) 7 v) else .inr 1) else .inr 0
def sc_131 (σ : Nat → Int32) (x : Int32) : Int32 × (Nat → Int32) ⊕ Nat := if mo_isK σ x = true then (if mo_fly σ (kN x) = true then .inl (kf σ (kN x) 3, lay σ (kN x) 0 2) else .inr 2) else .inr 0
def sc_132 (σ : Nat → Int32) (x v : Int32) : Int32 × (Nat → Int32) ⊕ Nat := if mo_isK σ x = true then (if in32 v 1 400 = true then (if mo_held σ (kN x) = true then .inl (kf σ (kN x) 6, lay σ (kN x) 6 v) else .inr 2) else .inr 1) else .inr 0
def mo_wk (σ : Nat → Int32) (k : Nat) (x y : Int32) : Nat → Int32 := if kf (lay (lay σ k 4 x) k 5 y) k 0 = 1 then lay (lay (lay (lay σ k 4 x) k 5 y) k 1 x) k 2 y else lay (lay σ k 4 x) k 5 y
def sc_133 (σ : Nat → Int32) (x a b : Int32) : Int32 × (Nat → Int32) ⊕ Nat := if mo_isK σ x = true then (if (in32 a 0 199 && in32 b 0 199) = true then .inl (ab32 (kf σ (kN x) 4 - a) + ab32 (kf σ (kN x) 5 - b), mo_wk σ (kN x) a b) else .inr 1) else .inr 0
def sc_135 (σ : Nat → Int32) (x a b : Int32) : Int32 × (Nat → Int32) ⊕ Nat := if in32 x 0 (σ 2 - 1) = true then (if (in32 a (-9) 9 && in32 b (-9) 9) = true then .inl (mo_force σ (kN x), up (up σ (11 + 3 * kN x + 1) a) (11 + 3 * kN x + 2) b) else .inr 1) else .inr 0
section SCC
variable {X : ak_X} {M M' : ak_M} {n f nk nw ne fe k : Nat} {σ τ : Nat → Int32} {ρ : Nat → Nat → Int32}
theorem ck.L {M1 : ak_M} (h : ck M ρ n nk nw τ M1) : ab_lay M1 := by obtain ⟨_, _, _, g, _⟩ := h; exact g.1
theorem ck.fz {M1 : ak_M} (h : ck M ρ n nk nw τ M1) : fr cZ M M1 := by obtain ⟨_, _, _, g, _⟩ := h; exact g
theorem ck.kq {M1 : ak_M} (h : ck M ρ n nk nw τ M1) (hk : k < nk) {w : Nat} (hw : w < 14) : ak_I M1 (65 + 6 + k) w = kf τ k w := by obtain ⟨_, _, _, _, g, _⟩ := h; exact g.kk hk hw
theorem ck.lay {M1 M2 : ak_M} (h : ck M ρ n nk nw τ M1) (hk : k < nk) {w : Nat} {v : Int32} (hw : w < 14) (hr : rg w v = true) (e : M2 = ak_sI M1 (65 + 6 + k) w v) : ck M ρ n nk nw (lay τ k w v) M2 := by
  obtain ⟨ne, fe, f, g1, g2, g3, g4⟩ := h
  have h10 := g3.1.1
  have g5 : fr (cS 65) M1 M2 := e ▸ (fr.rf g1.1).st ⟨by omega, by omega⟩
  exact ⟨ne, fe, f, g1.tr (g5.mo fun _ _ h => Or.inr h), e ▸ g2.lay g3.1 hk hw, vs_lay g3 (by omega) (by omega) fun _ => hr, g4.fr g5 fun p k hs => by unfold cS at hs; omega⟩
theorem ck.hap {M1 : ak_M} (h : ck M ρ n nk nw τ M1) (hk : k < nk) {kd o : Int32} (h1 : in32 kd 0 4 = true) (h3 : in32 o (-1) 9 = true) : ∃ M2, rn X 18 [.ref 65, .int kd, .int (nI k), .int o] M1 (.inl none, M2) ∧ ck M ρ n nk nw (mo_hapAt τ kd k o) M2 := by
  obtain ⟨ne, fe, f, g1, g2, g3, g4⟩ := h
  obtain ⟨M2, r, m⟩ := sk_18 (X := X) g1.1 h65 g2 g3.1 hk (kd := kd) (o := o)
  exact ⟨M2, r, _, _, f, g1.tr (m.1.mo fun _ _ h => Or.inr h), m.2, hap_vs g3 h1 (in_k (Nat.lt_of_lt_of_le hk g3.1.1)) h3, g4.fr m.1 fun p k hs => by unfold cS at hs; omega⟩
theorem ck.ts {M1 : ak_M} (h : ck M ρ n nk nw τ M1) {t : Nat} (ht : t ≤ 1000) : ∃ M2, rn X 20 [.ref 65, .int (nI t)] M1 (.inl none, M2) ∧ ck M ρ n nk nw (mo_ts τ nk t) M2 := by
  obtain ⟨ne, fe, f, g1, g2, g3, g4⟩ := h
  obtain ⟨M2, r, ne', fe', v, m⟩ := sk_20 (X := X) g1.1 h65 g2 g3 ht
  exact ⟨M2, r, _, _, f, g1.tr (m.1.mo fun _ _ h => Or.inr h), m.2, v, g4.fr m.1 fun p k hs => by unfold cS at hs; omega⟩
theorem ck.i10 {M1 : ak_M} (h : ck M ρ n nk nw τ M1) : ak_I M1 65 10 = τ 10 := by obtain ⟨_, _, _, _, g, _⟩ := h; exact g.2.1.2.2.2.2.2
theorem push (hL : ab_lay M) (hR : Rb 65 σ nk nw ne fe M) (hv : vs σ nk nw ne) (h : Hc ρ n f nk nw M) : ∃ M', rn X 30 [.ref 161, .ref 65] M (.inl none, M') ∧ ck M (psh ρ n σ) (pn n) nk nw σ M' := by
  obtain ⟨M', f', r, g, h', R'⟩ := sk_30 (X := X) hL hR hv h
  exact ⟨M', r, _, _, f', g.mo fun _ _ h => Or.inl h, R', hv, h'⟩
theorem in_200 {x : Int32} (h : in32 x 1 200 = true) : ∃ m, 1 ≤ m ∧ m ≤ 200 ∧ x = nI m := in_r (a := 200) (by decide) h
theorem cc_128 (hL : ab_lay M) (hR : Rb 65 σ nk nw ne fe M) (hv : vs σ nk nw ne) (hH : Hc ρ n f nk nw M) (t : Int32) : cc X 128 [.int t] M ρ n nk nw σ (sc_128 σ nk t) := by
  have c2 := ck_146 (X := X) hL (x := t) (lo := 1) (hi := 200)
  have e9 : ak_I M 65 9 = σ 0 := hR.2.1.2.2.2.2.1
  unfold sc_128
  by_cases h2 : in32 t 1 200 = true
  · rw [if_pos h2]
    by_cases h5 : 5000 < σ 0 + t
    · rw [if_pos h5]
      exact ⟨_, t_128 hL _ (Or.inl ⟨M, hL, c2.1 h2, mb_y (by rw [e9]; exact h5) (Or.inr ⟨2, _, ck_147n hL, rfl⟩)⟩), (fr.rf hL).ux⟩
    · rw [if_neg h5]
      obtain ⟨m, hm1, hm, rfl⟩ := in_200 h2
      rw [kN_n (by omega)]
      obtain ⟨M1, r1, m1⟩ := push (X := X) hL hR hv hH
      obtain ⟨M2, r2, m2⟩ := m1.ts (X := X) (t := m) (by omega)
      refine ⟨M2, t_128 hL _ (Or.inl ⟨M, hL, c2.1 h2, mb_n (by rw [e9]; exact h5) (Or.inl ⟨M, hL, ck_147y hL, M1, m1.L, r1, M2, m2.L, r2, ?_⟩)⟩), m2⟩
      rw [m2.i10, m1.i10]
  · rw [if_neg h2]
    exact ⟨_, t_128 hL _ (Or.inr ⟨1, _, c2.2 (bf h2), rfl⟩), (fr.rf hL).ux⟩
theorem cc_129 (hL : ab_lay M) (hR : Rb 65 σ nk nw ne fe M) (hv : vs σ nk nw ne) (hH : Hc ρ n f nk nw M) (x : Int32) : cc X 129 [.int x] M ρ n nk nw σ (sc_129 σ x) := by
  have c0 := ck_144 (X := X) hL hR.2.1.1 (x := x)
  have h10 := hv.1.1
  unfold sc_129
  by_cases h0 : mo_isK σ x = true
  · rw [if_pos h0]
    obtain ⟨k, hk, rfl⟩ := (isK_of hv.1).mp h0
    rw [kN_n (by omega)]
    have e0 : ak_I M (65 + 6 + k) 0 = kf σ k 0 := hR.kk hk (by decide)
    by_cases h1 : kf σ k 0 = 1
    · rw [if_pos h1]
      have kp' := hv.kp hk
      obtain ⟨M1, r1, m1⟩ := push (X := X) hL hR hv hH
      generalize g2 : ak_sI M1 (65 + 6 + k) 0 0 = M2
      have m2 := m1.lay hk (w := 0) (by decide) (by decide) g2.symm
      generalize g3 : ak_sI M2 (65 + 6 + k) 1 (kf (lay σ k 0 0) k 4) = M3
      have m3 := m2.lay hk (w := 1) (by decide) (by rw [kf_n (by decide) (by decide) (by omega)]; exact kp'.2.2.2.1) g3.symm
      generalize g4 : ak_sI M3 (65 + 6 + k) 2 (kf (lay (lay σ k 0 0) k 1 (kf (lay σ k 0 0) k 4)) k 5) = M4
      have m4 := m3.lay hk (w := 2) (by decide) (by rw [kf_n (by decide) (by decide) (by omega), kf_n (by decide) (by decide) (by omega)]; exact kp'.2.2.2.2) g4.symm
      have m4 : ck M (psh ρ n σ) (pn n) nk nw (mo_l1 σ k) M4 := m4
      have e6 : kf (mo_l1 σ k) k 6 = kf σ k 6 := by unfold mo_l1 mo_go; rw [kf_n (by decide) (by decide) (by omega), kf_n (by decide) (by decide) (by omega), kf_n (by decide) (by decide) (by omega)]
      generalize g5 : ak_sI M4 (65 + 6 + k) 3 (mn32 20 (kf (mo_l1 σ k) k 6)) = M5
      have m5 := m4.lay hk (w := 3) (by decide) (by
        have := in32_t.mp (show in32 (kf σ k 6) 1 400 = true from hv.2.2.1 k hk 6 (by decide))
        rw [show (1 : Int32).toInt = 1 from rfl, show (400 : Int32).toInt = 400 from rfl] at this
        show in32 _ 0 300 = true
        rw [e6, in32_t, mn32_t, show (0 : Int32).toInt = 0 from rfl, show (300 : Int32).toInt = 300 from rfl, show (20 : Int32).toInt = 20 from rfl]
        split <;> omega) g5.symm
      obtain ⟨M6, r6, m6⟩ := m5.hap (X := X) hk (kd := 4) (o := -1) (by decide) (by decide)
      refine ⟨M6, t_129 hL _ (Or.inl ⟨M, hL, c0.1 h0, k, by omega, mb_ix (by omega) (by decide), mb_y (e0.trans h1) (Or.inl ⟨M, hL, ck_147y hL, M1, m1.L, r1, fun N2 e2 N3 e3 N4 e4 => ?_⟩)⟩), m6⟩
      obtain rfl := e2.trans g2
      rw [m2.kq hk (by decide)] at e3
      obtain rfl := e3.trans g3
      rw [m3.kq hk (by decide)] at e4
      obtain rfl := e4.trans g4
      refine ⟨_, N4, m4.L, jm_min m4.L, fun N5 e5 => ?_⟩
      rw [m4.kq hk (by decide)] at e5
      obtain rfl := e5.trans g5
      refine ⟨M6, m6.L, r6, ?_⟩
      rw [m6.kq hk (by decide)]
      rfl
    · rw [if_neg h1]
      exact ⟨_, t_129 hL _ (Or.inl ⟨M, hL, c0.1 h0, k, by omega, mb_ix (by omega) (by decide), mb_n (by rw [e0]; exact h1) (Or.inr ⟨2, _, ck_147n hL, rfl⟩)⟩), (fr.rf hL).ux⟩
  · rw [if_neg h0]
    exact ⟨_, t_129 hL _ (Or.inr ⟨0, _, c0.2 (bf h0), rfl⟩), (fr.rf hL).ux⟩
theorem cc_130 (hL : ab_lay M) (hR : Rb 65 σ nk nw ne fe M) (hv : vs σ nk nw ne) (hH : Hc ρ n f nk nw M) (x v : Int32) : cc X 130 [.int x, .int v] M ρ n nk nw σ (sc_130 σ x v) := by
  have c0 := ck_144 (X := X) hL hR.2.1.1 (x := x)
  have c1 := ck_146 (X := X) hL (x := v) (lo := -9) (hi := 9)
  have h10 := hv.1.1
  unfold sc_130
  by_cases h0 : mo_isK σ x = true
  · rw [if_pos h0]
    by_cases h1 : in32 v (-9) 9 = true
    · rw [if_pos h1]
      obtain ⟨k, hk, rfl⟩ := (isK_of hv.1).mp h0
      rw [kN_n (by omega)]
      obtain ⟨M1, r1, m1⟩ := push (X := X) hL hR hv hH
      generalize g2 : ak_sI M1 (65 + 6 + k) 7 v = M2
      have m2 := m1.lay hk (w := 7) (by decide) h1 g2.symm
      refine ⟨M2, t_130 hL _ _ (Or.inl ⟨M, hL, c0.1 h0, Or.inl ⟨M, hL, c1.1 h1, M1, m1.L, r1, k, by omega, mb_ix (by omega) (by decide), k, by omega, mb_ix (by omega) (by decide), fun N e => ?_⟩⟩), m2⟩
      obtain rfl := e.trans g2
      rw [m1.kq hk (by decide)]
    · rw [if_neg h1]
      exact ⟨_, t_130 hL _ _ (Or.inl ⟨M, hL, c0.1 h0, Or.inr ⟨1, _, c1.2 (bf h1), rfl⟩⟩), (fr.rf hL).ux⟩
  · rw [if_neg h0]
    exact ⟨_, t_130 hL _ _ (Or.inr ⟨0, _, c0.2 (bf h0), rfl⟩), (fr.rf hL).ux⟩
theorem cc_131 (hL : ab_lay M) (hR : Rb 65 σ nk nw ne fe M) (hv : vs σ nk nw ne) (hH : Hc ρ n f nk nw M) (x : Int32) : cc X 131 [.int x] M ρ n nk nw σ (sc_131 σ x) := by
  have c0 := ck_144 (X := X) hL hR.2.1.1 (x := x)
  have h10 := hv.1.1
  unfold sc_131
  by_cases h0 : mo_isK σ x = true
  · rw [if_pos h0]
    obtain ⟨k, hk, rfl⟩ := (isK_of hv.1).mp h0
    rw [kN_n (by omega)]
    have e0 : ak_I M (65 + 6 + k) 0 = kf σ k 0 := hR.kk hk (by decide)
    by_cases h1 : mo_fly σ k = true
    · rw [if_pos h1]
      obtain ⟨M1, r1, m1⟩ := push (X := X) hL hR hv hH
      generalize g2 : ak_sI M1 (65 + 6 + k) 0 2 = M2
      have m2 := m1.lay hk (w := 0) (by decide) (by decide) g2.symm
      refine ⟨M2, t_131 hL _ (Or.inl ⟨M, hL, c0.1 h0, k, by omega, mb_ix (by omega) (by decide), mb_y (e0.trans (fly_0.mp h1)) (Or.inl ⟨M, hL, ck_147y hL, M1, m1.L, r1, fun N e => ?_⟩)⟩), m2⟩
      obtain rfl := e.trans g2
      rw [m2.kq hk (by decide), kf_n (by decide) (by decide) (by omega)]
    · rw [if_neg h1]
      exact ⟨_, t_131 hL _ (Or.inl ⟨M, hL, c0.1 h0, k, by omega, mb_ix (by omega) (by decide), mb_n (by rw [e0]; exact fun e => h1 (fly_0.mpr e)) (Or.inr ⟨2, _, ck_147n hL, rfl⟩)⟩), (fr.rf hL).ux⟩
  · rw [if_neg h0]
    exact ⟨_, t_131 hL _ (Or.inr ⟨0, _, c0.2 (bf h0), rfl⟩), (fr.rf hL).ux⟩
theorem held_01 {σ : Nat → Int32} {k : Nat} : mo_held σ k = true ↔ kf σ k 0 = 0 ∨ kf σ k 0 = 1 := by unfold mo_held; rw [Bool.or_eq_true, decide_eq_true_eq, decide_eq_true_eq]
theorem cc_132 (hL : ab_lay M) (hR : Rb 65 σ nk nw ne fe M) (hv : vs σ nk nw ne) (hH : Hc ρ n f nk nw M) (x v : Int32) : cc X 132 [.int x, .int v] M ρ n nk nw σ (sc_132 σ x v) := by
  have c0 := ck_144 (X := X) hL hR.2.1.1 (x := x)
  have c1 := ck_146 (X := X) hL (x := v) (lo := 1) (hi := 400)
  have h10 := hv.1.1
  unfold sc_132
  by_cases h0 : mo_isK σ x = true
  · rw [if_pos h0]
    by_cases h1 : in32 v 1 400 = true
    · rw [if_pos h1]
      obtain ⟨k, hk, rfl⟩ := (isK_of hv.1).mp h0
      rw [kN_n (by omega)]
      have e0 : ak_I M (65 + 6 + k) 0 = kf σ k 0 := hR.kk hk (by decide)
      by_cases h2 : mo_held σ k = true
      · rw [if_pos h2]
        obtain ⟨M1, r1, m1⟩ := push (X := X) hL hR hv hH
        generalize g2 : ak_sI M1 (65 + 6 + k) 6 v = M2
        have m2 := m1.lay hk (w := 6) (by decide) h1 g2.symm
        have fin : ∀ N, N = ak_sI M1 (65 + 6 + k) 6 v → ((.inl (some (.int (kf σ k 6))), M2) : ak_O × ak_M) = (.inl (some (.int (ak_I M1 (65 + 6 + k) 6))), N) := fun N e => by
          obtain rfl := e.trans g2
          rw [m1.kq hk (by decide)]
        by_cases d : kf σ k 0 = 0
        · exact ⟨M2, t_132 hL _ _ (Or.inl ⟨M, hL, c0.1 h0, Or.inl ⟨M, hL, c1.1 h1, k, by omega, mb_ix (by omega) (by decide), mb_y (e0.trans d) (Or.inl ⟨M, hL, ck_147y hL, M1, m1.L, r1, fin⟩)⟩⟩), m2⟩
        · exact ⟨M2, t_132 hL _ _ (Or.inl ⟨M, hL, c0.1 h0, Or.inl ⟨M, hL, c1.1 h1, k, by omega, mb_ix (by omega) (by decide), mb_n (by rw [e0]; exact d) (mb_y (e0.trans ((held_01.mp h2).resolve_left d)) (Or.inl ⟨M, hL, ck_147y hL, M1, m1.L, r1, fin⟩))⟩⟩), m2⟩
      · rw [if_neg h2]
        exact ⟨_, t_132 hL _ _ (Or.inl ⟨M, hL, c0.1 h0, Or.inl ⟨M, hL, c1.1 h1, k, by omega, mb_ix (by omega) (by decide), mb_n (by rw [e0]; exact fun e => h2 (held_01.mpr (Or.inl e))) (mb_n (by rw [e0]; exact fun e => h2 (held_01.mpr (Or.inr e))) (Or.inr ⟨2, _, ck_147n hL, rfl⟩))⟩⟩), (fr.rf hL).ux⟩
    · rw [if_neg h1]
      exact ⟨_, t_132 hL _ _ (Or.inl ⟨M, hL, c0.1 h0, Or.inr ⟨1, _, c1.2 (bf h1), rfl⟩⟩), (fr.rf hL).ux⟩
  · rw [if_neg h0]
    exact ⟨_, t_132 hL _ _ (Or.inr ⟨0, _, c0.2 (bf h0), rfl⟩), (fr.rf hL).ux⟩
theorem ab_sw (a b : Int32) : ab32 (a - b) = ab32 (b - a) := ab32_sub _ _
theorem cc_133 (hL : ab_lay M) (hR : Rb 65 σ nk nw ne fe M) (hv : vs σ nk nw ne) (hH : Hc ρ n f nk nw M) (x a b : Int32) : cc X 133 [.int x, .int a, .int b] M ρ n nk nw σ (sc_133 σ x a b) := by
  have c0 := ck_144 (X := X) hL hR.2.1.1 (x := x)
  have c1 := ck_146 (X := X) hL (x := a) (lo := 0) (hi := 199)
  have c2 := ck_146 (X := X) hL (x := b) (lo := 0) (hi := 199)
  have h10 := hv.1.1
  unfold sc_133
  by_cases h0 : mo_isK σ x = true
  · rw [if_pos h0]
    by_cases h1 : in32 a 0 199 = true
    · by_cases h2 : in32 b 0 199 = true
      · rw [if_pos (and_2.mpr ⟨h1, h2⟩)]
        obtain ⟨k, hk, rfl⟩ := (isK_of hv.1).mp h0
        rw [kN_n (by omega)]
        obtain ⟨M1, r1, m1⟩ := push (X := X) hL hR hv hH
        have s1 := jm_abs (X := X) m1.L (x := a - ak_I M1 (65 + 6 + k) 4)
        have s2 := jm_abs (X := X) m1.L (x := b - ak_I M1 (65 + 6 + k) 5)
        generalize g2 : ak_sI M1 (65 + 6 + k) 4 a = M2
        have m2 := m1.lay hk (w := 4) (by decide) h1 g2.symm
        generalize g3 : ak_sI M2 (65 + 6 + k) 5 b = M3
        have m3 := m2.lay hk (w := 5) (by decide) h2 g3.symm
        have ev : ab32 (a - ak_I M1 (65 + 6 + k) 4) + ab32 (b - ak_I M1 (65 + 6 + k) 5) = ab32 (kf σ k 4 - a) + ab32 (kf σ k 5 - b) := by rw [m1.kq hk (by decide), m1.kq hk (by decide), ab_sw a, ab_sw b]
        by_cases d : kf (lay (lay σ k 4 a) k 5 b) k 0 = 1
        · have ew : mo_wk σ k a b = lay (lay (lay (lay σ k 4 a) k 5 b) k 1 a) k 2 b := if_pos d
          rw [ew]
          generalize g4 : ak_sI M3 (65 + 6 + k) 1 a = M4
          have m4 := m3.lay hk (w := 1) (by decide) h1 g4.symm
          generalize g5 : ak_sI M4 (65 + 6 + k) 2 b = M5
          have m5 := m4.lay hk (w := 2) (by decide) h2 g5.symm
          refine ⟨M5, t_133 hL _ _ _ (Or.inl ⟨M, hL, c0.1 h0, Or.inl ⟨M, hL, c1.1 h1, Or.inl ⟨M, hL, c2.1 h2, M1, m1.L, r1, k, by omega, mb_ix (by omega) (by decide), _, M1, m1.L, s1, _, M1, m1.L, s2, fun N2 e2 N3 e3 => ?_⟩⟩⟩), m5⟩
          obtain rfl := e2.trans g2
          obtain rfl := e3.trans g3
          refine mb_y ((m3.kq hk (by decide)).trans d) fun N4 e4 N5 e5 => ?_
          obtain rfl := e4.trans g4
          obtain rfl := e5.trans g5
          rw [ev]
        · have ew : mo_wk σ k a b = lay (lay σ k 4 a) k 5 b := if_neg d
          rw [ew]
          refine ⟨M3, t_133 hL _ _ _ (Or.inl ⟨M, hL, c0.1 h0, Or.inl ⟨M, hL, c1.1 h1, Or.inl ⟨M, hL, c2.1 h2, M1, m1.L, r1, k, by omega, mb_ix (by omega) (by decide), _, M1, m1.L, s1, _, M1, m1.L, s2, fun N2 e2 N3 e3 => ?_⟩⟩⟩), m3⟩
          obtain rfl := e2.trans g2
          obtain rfl := e3.trans g3
          refine mb_n (by rw [m3.kq hk (by decide)]; exact d) ?_
          rw [ev]
      · rw [if_neg fun e => h2 (and_2.mp e).2]
        exact ⟨_, t_133 hL _ _ _ (Or.inl ⟨M, hL, c0.1 h0, Or.inl ⟨M, hL, c1.1 h1, Or.inr ⟨1, _, c2.2 (bf h2), rfl⟩⟩⟩), (fr.rf hL).ux⟩
    · rw [if_neg fun e => h1 (and_2.mp e).1]
      exact ⟨_, t_133 hL _ _ _ (Or.inl ⟨M, hL, c0.1 h0, Or.inr ⟨1, _, c1.2 (bf h1), rfl⟩⟩), (fr.rf hL).ux⟩
  · rw [if_neg h0]
    exact ⟨_, t_133 hL _ _ _ (Or.inr ⟨0, _, c0.2 (bf h0), rfl⟩), (fr.rf hL).ux⟩
end SCC
