/-! the class's changes: a new line, the wind, the settings, undoing, keeping and bringing back -/
def mo_r0 (σ : Nat → Int32) (k : Nat) : Nat → Int32 := if kf σ k 0 = 4 then mo_go (lay (lay σ k 0 1) k 3 0) k else σ
def mo_r6 (σ : Nat → Int32) (k : Nat) (s t : Int32) : Nat → Int32 := lay (lay (lay (lay (lay (lay σ k 8 s) k 9 t) k 10 0) k 6 10) k 12 (-1)) k 13 (-1)
def mo_r8 (τ : Nat → Int32) (k : Nat) : Nat → Int32 := lay (mo_go (lay τ k 0 1) k) k 3 0
def mo_rst (σ : Nat → Int32) (k : Nat) (s t : Int32) : Nat → Int32 := mo_r6 (mo_r0 σ k) k s t
def lo6 (w : Nat) : Int32 := if w = 3 then 1 else 0
def hi6 (w : Nat) : Int32 := if w = 0 then 99 else if w = 1 then 9 else if w = 2 then 9 else if w = 3 then 20 else 50
def sc_134 (σ : Nat → Int32) (x s t : Int32) : Int32 × (Nat → Int32) ⊕ Nat := if mo_isK σ x = true then (if in32 s 0 9 = true then (if in32 t 1 99 = true then (if kf σ (kN x) 0 = 1 ∨ kf σ (kN x) 0 = 4 then .inl (kf σ (kN x) 10, mo_rst σ (kN x) s t) else .inr 2) else .inr 1) else .inr 1) else .inr 0
def sc_136 (σ : Nat → Int32) (x v : Int32) : Int32 × (Nat → Int32) ⊕ Nat := if in32 x 0 5 = true then (if in32 v (lo6 (kN x)) (hi6 (kN x)) = true then .inl (σ (3 + kN x), up σ (3 + kN x) v) else .inr 1) else .inr 1
theorem ci_lo (X : ak_X) : ∀ w, w < 6 → ak_cI X (1000001 + 0) w = lo6 w ∧ ak_cI X (1000001 + 1) w = hi6 w := by
  intro w hw
  have h1 : ak_cI X (1000001 + 0) w = ak_t0.getD w 0 := rfl
  have h2 : ak_cI X (1000001 + 1) w = ak_t1.getD w 0 := rfl
  rw [h1, h2]
  clear h1 h2
  revert w
  decide
section SCD
variable {X : ak_X} {M M' : ak_M} {b n f nk nw ne fe k : Nat} {σ τ : Nat → Int32} {ρ : Nat → Nat → Int32}
theorem r68 (s t : Int32) : (if kf σ k 0 = 4 then mo_r8 (mo_r6 σ k s t) k else mo_r6 σ k s t) = mo_rst σ k s t := by
  unfold mo_rst mo_r0
  by_cases h : kf σ k 0 = 4
  · rw [if_pos h, if_pos h]
    unfold mo_r8 mo_r6 mo_go
    have a4 : kf (lay (lay (lay (lay (lay (lay (lay σ k 8 s) k 9 t) k 10 0) k 6 10) k 12 (-1)) k 13 (-1)) k 0 1) k 4 = kf σ k 4 := by
      rw [kf_n (by decide) (by decide) (by omega), kf_n (by decide) (by decide) (by omega), kf_n (by decide) (by decide) (by omega), kf_n (by decide) (by decide) (by omega), kf_n (by decide) (by decide) (by omega), kf_n (by decide) (by decide) (by omega), kf_n (by decide) (by decide) (by omega)]
    have b4 : kf (lay (lay σ k 0 1) k 3 0) k 4 = kf σ k 4 := by rw [kf_n (by decide) (by decide) (by omega), kf_n (by decide) (by decide) (by omega)]
    rw [a4, b4]
    have a5 : kf (lay (lay (lay (lay (lay (lay (lay (lay σ k 8 s) k 9 t) k 10 0) k 6 10) k 12 (-1)) k 13 (-1)) k 0 1) k 1 (kf σ k 4)) k 5 = kf σ k 5 := by
      rw [kf_n (by decide) (by decide) (by omega), kf_n (by decide) (by decide) (by omega), kf_n (by decide) (by decide) (by omega), kf_n (by decide) (by decide) (by omega), kf_n (by decide) (by decide) (by omega), kf_n (by decide) (by decide) (by omega), kf_n (by decide) (by decide) (by omega), kf_n (by decide) (by decide) (by omega)]
    have b5 : kf (lay (lay (lay σ k 0 1) k 3 0) k 1 (kf σ k 4)) k 5 = kf σ k 5 := by rw [kf_n (by decide) (by decide) (by omega), kf_n (by decide) (by decide) (by omega), kf_n (by decide) (by decide) (by omega)]
    rw [a5, b5]
    generalize kf σ k 4 = p
    generalize kf σ k 5 = q
    unfold lay
    funext i
    simp only [up_e]
    by_cases h0 : i = 23 + 15 * k + 0
    · subst h0; simp
    by_cases h1 : i = 23 + 15 * k + 1
    · subst h1; simp
    by_cases h2 : i = 23 + 15 * k + 2
    · subst h2; simp
    by_cases h3 : i = 23 + 15 * k + 3
    · subst h3; simp
    rw [if_neg h3, if_neg h2, if_neg h1, if_neg h0, if_neg h2, if_neg h1, if_neg h3, if_neg h0]
  · rw [if_neg h, if_neg h]
theorem ck_rd {M1 : ak_M} (h : ck M ρ n nk nw τ M1) (hk : k < nk) : rg 1 (kf τ k 4) = true ∧ rg 2 (kf τ k 5) = true := by
  obtain ⟨_, _, _, _, _, v, _⟩ := h
  exact ⟨(v.kp hk).2.2.2.1, (v.kp hk).2.2.2.2⟩
/-! rows of the wind and of the settings -/
theorem up_kf2 {i : Nat} {v : Int32} (h : i < 23) {q w : Nat} : kf (up σ i v) q w = kf σ q w := up_n (by omega)
theorem up_ef2 {i : Nat} {v : Int32} (h : i < 23) {q w : Nat} : ef (up σ i v) q w = ef σ q w := up_n (by omega)
theorem Rb.wi (h : Rb b σ nk nw ne fe M) (hc : ct σ nk nw ne) {i w : Nat} (hi : i < nw) (hw : w < 3) {v : Int32} : Rb b (up σ (11 + 3 * i + w) v) nk nw ne fe (ak_sI M (b + 16 + i) w v) := by
  have h10 := hc.1
  have h4 := hc.2.1.2
  obtain ⟨h1, ⟨a1, a2, a3, a4, a5, a6⟩, h3, h5, h6, h7⟩ := h
  have e0 : ∀ j, ak_I (ak_sI M (b + 16 + i) w v) b j = ak_I M b j := fun j => congrFun (mb_sIr (by omega)) j
  refine ⟨h1, by rw [e0, e0, e0, e0, e0, e0, up_n (by omega), up_n (by omega), up_n (by omega), up_n (by omega), up_n (by omega)]; exact ⟨a1, a2, a3, a4, a5, a6⟩, fun q hq j hj => ?_, fun q hq j hj => ?_, fun j hj => ?_, fun q hq j hj => ?_⟩
  · rw [up_kf2 (by omega), mb_sIr (by omega)]; exact h3 q hq j hj
  · rw [mb_sI]
    show _ = up σ (11 + 3 * i + w) v (11 + 3 * q + j)
    rw [up_e]
    by_cases c : q = i ∧ j = w
    · rw [if_pos (by omega), if_pos (by omega)]
    · rw [if_neg (by omega), if_neg (by omega)]; exact h5 q hq j hj
  · rw [up_n (by omega), mb_sIr (by omega)]; exact h6 j hj
  · rw [up_ef2 (by omega), mb_sIr (by omega)]; exact h7 q hq j hj
theorem Rb.se (h : Rb b σ nk nw ne fe M) (hc : ct σ nk nw ne) {w : Nat} (hw : w < 6) {v : Int32} : Rb b (up σ (3 + w) v) nk nw ne fe (ak_sI M (b + 4) w v) := by
  have h10 := hc.1
  have h4 := hc.2.1.2
  obtain ⟨h1, ⟨a1, a2, a3, a4, a5, a6⟩, h3, h5, h6, h7⟩ := h
  have e0 : ∀ j, ak_I (ak_sI M (b + 4) w v) b j = ak_I M b j := fun j => congrFun (mb_sIr (by omega)) j
  refine ⟨h1, by rw [e0, e0, e0, e0, e0, e0, up_n (by omega), up_n (by omega), up_n (by omega), up_n (by omega), up_n (by omega)]; exact ⟨a1, a2, a3, a4, a5, a6⟩, fun q hq j hj => ?_, fun q hq j hj => ?_, fun j hj => ?_, fun q hq j hj => ?_⟩
  · rw [up_kf2 (by omega), mb_sIr (by omega)]; exact h3 q hq j hj
  · rw [show wf (up σ (3 + w) v) q j = wf σ q j from up_n (by omega), mb_sIr (by omega)]; exact h5 q hq j hj
  · rw [mb_sI, up_e]
    by_cases c : j = w
    · rw [if_pos ⟨rfl, c⟩, if_pos (by omega)]
    · rw [if_neg (by omega), if_neg (by omega)]; exact h6 j hj
  · rw [up_ef2 (by omega), mb_sIr (by omega)]; exact h7 q hq j hj
theorem vs_w {i : Nat} (h : vs σ nk nw ne) (hi : i < 23) (h3 : 3 ≤ i ∧ i ≠ 9 ∧ i ≠ 10) {v : Int32} (hs : sv (up σ i v)) (hw : ∀ q, q < nw → wv (up σ i v) q) : vs (up σ i v) nk nw ne := by
  obtain ⟨⟨a, b, c, d, e, f⟩, h2, h4, h5, h6, h7⟩ := h
  refine ⟨⟨a, b, c, by rw [up_n (by omega)]; exact d, by rw [up_n (by omega)]; exact e, by rw [up_n (by omega)]; exact f⟩, by rw [up_n (by omega)]; exact h2, fun q hq w hw => by rw [up_kf2 hi]; exact h4 q hq w hw, hw, hs, fun j hj => ?_⟩
  unfold ev
  rw [up_ef2 hi, up_ef2 hi, up_ef2 hi, up_ef2 hi]
  exact h7 j hj
theorem vs_wi {i w : Nat} (h : vs σ nk nw ne) (hi : i < nw) (hw : w = 1 ∨ w = 2) {v : Int32} (hr : in32 v (-9) 9 = true) : vs (up σ (11 + 3 * i + w) v) nk nw ne := by
  have h4 := h.1.2.1.2
  refine vs_w h (by omega) (by omega) ?_ fun q hq => ?_
  · unfold sv
    rw [up_n (by omega), up_n (by omega), up_n (by omega), up_n (by omega), up_n (by omega), up_n (by omega)]
    exact h.2.2.2.2.1
  · have o := h.2.2.2.1 q hq
    unfold wv wf
    rw [up_e, up_e]
    refine ⟨?_, ?_⟩
    · split
      · exact hr
      · exact o.1
    · split
      · exact hr
      · exact o.2
theorem vs_se {w : Nat} (h : vs σ nk nw ne) (hw : w < 6) {v : Int32} (hr : in32 v (lo6 w) (hi6 w) = true) : vs (up σ (3 + w) v) nk nw ne := by
  refine vs_w h (by omega) (by omega) ?_ fun q hq => ?_
  · obtain ⟨s0, s1, s2, s3, s4, s5⟩ := h.2.2.2.2.1
    unfold sv
    rcases (show w = 0 ∨ w = 1 ∨ w = 2 ∨ w = 3 ∨ w = 4 ∨ w = 5 by omega) with rfl | rfl | rfl | rfl | rfl | rfl
    · rw [up_s, up_n (by decide), up_n (by decide), up_n (by decide), up_n (by decide), up_n (by decide)]; exact ⟨hr, s1, s2, s3, s4, s5⟩
    · rw [up_s, up_n (by decide), up_n (by decide), up_n (by decide), up_n (by decide), up_n (by decide)]; exact ⟨s0, hr, s2, s3, s4, s5⟩
    · rw [up_s, up_n (by decide), up_n (by decide), up_n (by decide), up_n (by decide), up_n (by decide)]; exact ⟨s0, s1, hr, s3, s4, s5⟩
    · rw [up_s, up_n (by decide), up_n (by decide), up_n (by decide), up_n (by decide), up_n (by decide)]; exact ⟨s0, s1, s2, hr, s4, s5⟩
    · rw [up_s, up_n (by decide), up_n (by decide), up_n (by decide), up_n (by decide), up_n (by decide)]; exact ⟨s0, s1, s2, s3, hr, s5⟩
    · rw [up_s, up_n (by decide), up_n (by decide), up_n (by decide), up_n (by decide), up_n (by decide)]; exact ⟨s0, s1, s2, s3, s4, hr⟩
  · have o := h.2.2.2.1 q hq
    unfold wv wf
    rw [up_n (by omega), up_n (by omega)]
    exact o
theorem ck.st {M1 : ak_M} (h : ck M ρ n nk nw τ M1) {p w : Nat} {v : Int32} {u : Nat → Int32} (hp : 65 ≤ p ∧ p < 97) (hr : ∀ ne fe, Rb 65 τ nk nw ne fe M1 → vs τ nk nw ne → Rb 65 u nk nw ne fe (ak_sI M1 p w v) ∧ vs u nk nw ne) : ck M ρ n nk nw u (ak_sI M1 p w v) := by
  obtain ⟨ne, fe, f, g1, g2, g3, g4⟩ := h
  have g5 : fr (cS 65) M1 (ak_sI M1 p w v) := (fr.rf g1.1).st ⟨by omega, by omega⟩
  have h' := hr ne fe g2 g3
  exact ⟨ne, fe, f, g1.tr (g5.mo fun _ _ h => Or.inr h), h'.1, h'.2, g4.fr g5 fun p k hs => by unfold cS at hs; omega⟩
theorem cc_135 (hL : ab_lay M) (hR : Rb 65 σ nk nw ne fe M) (hv : vs σ nk nw ne) (hH : Hc ρ n f nk nw M) (x a c : Int32) : cc X 135 [.int x, .int a, .int c] M ρ n nk nw σ (sc_135 σ x a c) := by
  have h4 := hv.1.2.1.2
  have e2 : σ 2 = nI nw := hv.1.2.2.2.2.1
  have c0 := ck_145 (X := X) hL hR.2.1.2.1 (x := x)
  have c1 := ck_146 (X := X) hL (x := a) (lo := -9) (hi := 9)
  have c2 := ck_146 (X := X) hL (x := c) (lo := -9) (hi := 9)
  unfold sc_135
  by_cases h0 : in32 x 0 (σ 2 - 1) = true
  · rw [if_pos h0]
    by_cases h1 : in32 a (-9) 9 = true
    · by_cases h2 : in32 c (-9) 9 = true
      · rw [if_pos (and_2.mpr ⟨h1, h2⟩)]
        obtain ⟨i, hi, rfl⟩ := (in_nk (n := nw) (by omega)).mp (e2 ▸ h0)
        rw [kN_n (by omega)]
        obtain ⟨M1, r1, m1⟩ := push (X := X) hL hR hv hH
        have s84 : rn X 84 [.ref (65 + 16 + i)] M1 (.inl (some (.int (mo_force σ i))), M1) := by
          obtain ⟨_, _, _, g1, g2, g3, _⟩ := id m1
          exact sk_84 g1.1 h65 g2 g3.1 hi
        have m2 := m1.st (p := 65 + 16 + i) (w := 1) (v := a) (by omega) fun ne fe R V => ⟨R.wi V.1 hi (by decide), vs_wi V hi (Or.inl rfl) h1⟩
        have m3 := m2.st (p := 65 + 16 + i) (w := 2) (v := c) (by omega) fun ne fe R V => ⟨R.wi V.1 hi (by decide), vs_wi V hi (Or.inr rfl) h2⟩
        refine ⟨_, t_135 hL _ _ _ (Or.inl ⟨M, hL, c0.1 h0, Or.inl ⟨M, hL, c1.1 h1, Or.inl ⟨M, hL, c2.1 h2, M1, m1.L, r1, i, by omega, mb_ix (by omega) (by decide), _, M1, m1.L, s84, i, by omega, mb_ix (by omega) (by decide), fun N1 e1 => ⟨i, by omega, mb_ix (by omega) (by decide), fun N2 e2 => ?_⟩⟩⟩⟩), m3⟩
        rw [e2, e1]
      · rw [if_neg fun e => h2 (and_2.mp e).2]
        exact ⟨_, t_135 hL _ _ _ (Or.inl ⟨M, hL, c0.1 h0, Or.inl ⟨M, hL, c1.1 h1, Or.inr ⟨1, _, c2.2 (bf h2), rfl⟩⟩⟩), (fr.rf hL).ux⟩
    · rw [if_neg fun e => h1 (and_2.mp e).1]
      exact ⟨_, t_135 hL _ _ _ (Or.inl ⟨M, hL, c0.1 h0, Or.inr ⟨1, _, c1.2 (bf h1), rfl⟩⟩), (fr.rf hL).ux⟩
  · rw [if_neg h0]
    exact ⟨_, t_135 hL _ _ _ (Or.inr ⟨0, _, c0.2 (bf h0), rfl⟩), (fr.rf hL).ux⟩
theorem in_5 {x : Int32} (h : in32 x 0 5 = true) : ∃ m, m ≤ 5 ∧ x = nI m := (in_n (a := 5) (by decide)).mp h
theorem cu_137 (hL : ab_lay M) (hH : Hc ρ (n + 1) f nk nw M) : ∃ M', rn X 137 [.ref 0] M (.inl (some (.int (nI n))), M') ∧ ck M ρ n nk nw (ρ n) M' := by
  obtain ⟨M1, ne, fe, r1, f1, H1, R1, v1⟩ := sk_31 (X := X) hL hH
  have h10 := hH.1
  refine ⟨M1, t_137 hL (mb_n (by rw [hH.2.2.1, show (0 : Int32) = nI 0 from rfl, mi_le (by omega) (by omega)]; omega) (Or.inl ⟨M, hL, ck_147y hL, M1, f1.1, r1, ?_⟩)), ne, fe, f, f1, R1, v1, H1⟩
  rw [H1.2.2.1]
theorem cu_137n (hL : ab_lay M) (hH : Hc ρ 0 f nk nw M) : ∃ M', rn X 137 [.ref 0] M (.inr 2, M') ∧ fx (cX 65) M M' :=
  ⟨_, t_137 hL (mb_y (by rw [hH.2.2.1]; decide) (Or.inr ⟨2, _, ck_147n hL, rfl⟩)), (fr.rf hL).ux⟩
def cV (p k : Nat) : Prop := cS 129 p k ∨ (p = 0 ∧ k = 8)
theorem h129 : 129 ∈ ab_fb := by decide
theorem cu_142 (hL : ab_lay M) (hR : Rb 65 σ nk nw ne fe M) (hv : vs σ nk nw ne) : ∃ M', rn X 142 [.ref 0] M (.inl (some (.int (σ 0))), M') ∧ fr cV M M' ∧ Rb 129 σ nk nw ne fe M' ∧ ak_I M' 0 8 = 1 := by
  obtain ⟨M1, r1, m1⟩ := sk_10 (X := X) hL h65 h129 (by decide) hR hv.1
  have f2 : fr cV M (ak_sI M1 0 8 1) := (m1.1.mo fun _ _ h => Or.inl h).st (Or.inr ⟨rfl, rfl⟩)
  have g2 : fr (fun p _ => p = 0) M1 (ak_sI M1 0 8 1) := (fr.rf m1.1.1).st rfl
  refine ⟨_, t_142 hL ⟨M1, m1.1.1, r1, fun N e => ?_⟩, f2, m1.2.fr hv.1 g2 fun p k h => by omega, mb_sIs⟩
  have e9 : ak_I N 65 9 = σ 0 := (hR.fr hv.1 f2 fun p k h => by unfold cV cS at h; omega).2.1.2.2.2.2.1 ▸ e ▸ rfl
  rw [e9, e]
theorem cu_143 (hL : ab_lay M) (hR : Rb 129 τ nk nw ne fe M) (hv : vs τ nk nw ne) (hH : Hc ρ n f nk nw M) (h8 : ak_I M 0 8 = 1) : ∃ M', rn X 143 [.ref 0] M (.inl (some (.int (τ 0))), M') ∧ ck M ρ 0 nk nw τ M' := by
  obtain ⟨M1, r1, m1⟩ := sk_10 (X := X) hL h129 h65 (by decide) hR hv.1
  have H1 := hH.fr m1.1 fun p k h => by unfold cS at h; omega
  obtain ⟨r2, H2⟩ := sk_29 (X := X) m1.1.1 H1
  have g2 : fr (fun p _ => p = 161) M1 (ak_sI M1 161 2 0) := (fr.rf m1.1.1).st rfl
  have R2 : Rb 65 τ nk nw ne fe (ak_sI M1 161 2 0) := m1.2.fr hv.1 g2 fun p k h => by omega
  refine ⟨_, t_143 hL (Or.inl ⟨M, hL, by rw [h8]; exact ck_147y hL, M1, m1.1.1, r1, _, g2.1, r2, ?_⟩), ne, fe, f, (m1.1.mo fun _ _ h => Or.inr h).tr (g2.mo fun _ _ h => Or.inl (Or.inl h)), R2, hv, H2⟩
  rw [R2.2.1.2.2.2.2.1]
theorem cu_143n (hL : ab_lay M) (h8 : ak_I M 0 8 = 0) : ∃ M', rn X 143 [.ref 0] M (.inr 2, M') ∧ fx (cX 65) M M' :=
  ⟨_, t_143 hL (Or.inr ⟨2, _, by rw [h8]; exact ck_147n hL, rfl⟩), (fr.rf hL).ux⟩
end SCD
