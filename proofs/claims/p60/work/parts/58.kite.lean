/-! the class: a field in memory, and its kites -/
/-- the field at b is the row σ -/
def Rb (b : Nat) (σ : Nat → Int32) (nk nw ne fe : Nat) (M : ak_M) : Prop := fe < 12 ∧ (ak_I M b 5 = σ 1 ∧ ak_I M b 6 = σ 2 ∧ ak_I M b 7 = σ 9 ∧ ak_I M b 8 = nI fe ∧ ak_I M b 9 = σ 0 ∧ ak_I M b 10 = σ 10) ∧ (∀ k, k < nk → ∀ w, w < 14 → ak_I M (b + 6 + k) w = kf σ k w) ∧ (∀ i, i < nw → ∀ w, w < 3 → ak_I M (b + 16 + i) w = wf σ i w) ∧ (∀ j, j < 6 → ak_I M (b + 4) j = σ (3 + j)) ∧ ∀ j, j < ne → ∀ w, w < 6 → ak_I M (b + 20 + (fe + j) % 12) w = ef σ j w
/-- the field and nothing else -/
def cS (b p _k : Nat) : Prop := b ≤ p ∧ p < b + 32
/-- where lines cross, and nothing else -/
def cX (b p _k : Nat) : Prop := p = b + 5
theorem cX_S {b p k : Nat} (h : cX b p k) : cS b p k := by unfold cX at h; unfold cS; omega
section SKK
variable {X : ak_X} {M M' : ak_M} {b k nk nw ne fe : Nat} {σ : Nat → Int32}
theorem Rb.kk (h : Rb b σ nk nw ne fe M) (hk : k < nk) {w : Nat} (hw : w < 14) : ak_I M (b + 6 + k) w = kf σ k w := h.2.2.1 k hk w hw
theorem Rb.w (h : Rb b σ nk nw ne fe M) (hk : k < nw) {w : Nat} (hw : w < 3) : ak_I M (b + 16 + k) w = wf σ k w := h.2.2.2.1 k hk w hw
theorem Rb.s (h : Rb b σ nk nw ne fe M) {j : Nat} (hj : j < 6) : ak_I M (b + 4) j = σ (3 + j) := h.2.2.2.2.1 j hj
/-- what is written elsewhere leaves the field -/
theorem Rb.fr {S : Nat → Nat → Prop} (h : Rb b σ nk nw ne fe M) (hc : ct σ nk nw ne) (f : fr S M M') (hS : ∀ p k, S p k → p < b ∨ b + 32 ≤ p ∨ p = b + 5) : Rb b σ nk nw ne fe M' := by
  have e : ∀ p, b ≤ p → p < b + 32 → p ≠ b + 5 → ak_I M' p = ak_I M p := fun p h1 h2 h3 => f.row fun k hs => by
    rcases hS p k hs with h | h | h <;> omega
  obtain ⟨h1, ⟨a1, a2, a3, a4, a5, a6⟩, h3, h4, h5, h6⟩ := h
  have e0 := e b (by omega) (by omega) (by omega)
  have c1 := hc.1
  have c2 := hc.2.1.2
  refine ⟨h1, by rw [e0]; exact ⟨a1, a2, a3, a4, a5, a6⟩, fun k hk w hw => ?_, fun i hi w hw => ?_, fun j hj => ?_, fun j hj w hw => ?_⟩
  · rw [e _ (by omega) (by omega) (by omega)]; exact h3 k hk w hw
  · rw [e _ (by omega) (by omega) (by omega)]; exact h4 i hi w hw
  · rw [e _ (by omega) (by omega) (by omega)]; exact h5 j hj
  · rw [e _ (by omega) (by omega) (by omega)]; exact h6 j hj w hw
/-- a number of a kite is written -/
theorem Rb.lay (h : Rb b σ nk nw ne fe M) (hc : ct σ nk nw ne) (hk : k < nk) {w : Nat} {v : Int32} (hw : w < 14) : Rb b (lay σ k w v) nk nw ne fe (ak_sI M (b + 6 + k) w v) := by
  obtain ⟨h1, ⟨a1, a2, a3, a4, a5, a6⟩, h3, h4, h5, h6⟩ := h
  have c1 := hc.1
  have c2 := hc.2.1.2
  have hk10 : k < 10 := by omega
  have e0 : ∀ j, ak_I (ak_sI M (b + 6 + k) w v) b j = ak_I M b j := fun j => congrFun (mb_sIr (by omega)) j
  refine ⟨h1, by rw [e0, e0, e0, e0, e0, e0, lay_lo (by decide), lay_lo (by decide), lay_lo (by decide), lay_lo (by decide), lay_lo (by decide)]; exact ⟨a1, a2, a3, a4, a5, a6⟩, fun k' hk' w' hw' => ?_, fun i hi w' hw' => ?_, fun j hj => ?_, fun j hj w' hw' => ?_⟩
  · rw [kf_lay (by omega) (by omega), mb_sI]
    by_cases e : k' = k ∧ w' = w
    · rw [if_pos e, if_pos (by omega)]
    · rw [if_neg e, if_neg (by omega)]; exact h3 k' hk' w' hw'
  · rw [wf_lay (by omega) hw', mb_sIr (by omega)]; exact h4 i hi w' hw'
  · rw [lay_lo (by omega), mb_sIr (by omega)]; exact h5 j hj
  · rw [ef_lay hk10 (by omega), mb_sIr (by omega)]; exact h6 j hj w' hw'
theorem sk_152 (hL : ab_lay M) {v lo hi : Int32} : rn X 152 [.int v, .int lo, .int hi] M (.inl (some (.int (mx32 lo (mn32 hi v)))), M) :=
  t_152 hL _ _ _ ⟨_, M, hL, jm_min hL, _, M, hL, jm_max hL, rfl⟩
theorem sk_151 (hL : ab_lay M) {v lo hi : Int32} : rn X 151 [.int v, .int lo, .int hi] M (.inl (some (.int (bI (in32 v lo hi)))), M) := by
  refine t_151 hL _ _ _ ?_
  unfold in32
  by_cases h1 : v < lo
  · rw [decide_eq_false (mb_le.mpr h1)]; exact mb_y h1 rfl
  · refine mb_n h1 ?_
    rw [decide_eq_true (mb_lt.mp h1)]
    by_cases h2 : hi < v
    · rw [decide_eq_false (mb_le.mpr h2)]; exact mb_y h2 rfl
    · rw [decide_eq_true (mb_lt.mp h2)]; exact mb_n h2 rfl
theorem mi_shr : ∀ j, j < 8 → nI (2 ^ (j + 1)) >>> (1 &&& 31) = nI (2 ^ j) := by decide +kernel
theorem sk_41l (hL : ab_lay M) (hb : b ∈ ab_fb) (hk : k < 10) {n : Nat} (hn : n < 262144) (x1 x2 x3 : Int32) {o0 o1 o2 o3 o4 o5 o6 : Option Value} :
    ∀ j, j ≤ 8 → ∀ r, r * r ≤ n → n < (r + 2 ^ (j + 1)) * (r + 2 ^ (j + 1)) → r + 2 ^ (j + 1) ≤ 512 → sg X 41 (51, [o0, o1, o2, o3, o4, o5, o6, some (.int (nI n)), some (.int (nI r)), some (.int (nI (2 ^ j)))], [], []) M (.inl (some (.int (nI (iq n 511)))), M) := by
  have fin : ∀ r, r * r ≤ n → n < (r + 1) * (r + 1) → r ≤ 511 → sg X 41 (51, [o0, o1, o2, o3, o4, o5, o6, some (.int (nI n)), some (.int (nI r)), some (.int (nI 1 >>> (1 &&& 31)))], [], []) M (.inl (some (.int (nI (iq n 511)))), M) := by
    intro r h1 h2 h3
    rw [iq_un h3 h1 h2]
    exact t_41_51 hL hb hk x1 x2 x3 _ _ _ _ _ _ _ _ _ _ (mb_y (by decide) rfl)
  have step : ∀ j r, j ≤ 8 → r + 2 ^ (j + 1) ≤ 512 → (∀ r', r' * r' ≤ n → n < (r' + 2 ^ j) * (r' + 2 ^ j) → r' + 2 ^ j ≤ 512 → sg X 41 (51, [o0, o1, o2, o3, o4, o5, o6, some (.int (nI n)), some (.int (nI r')), some (.int (nI (2 ^ j) >>> (1 &&& 31)))], [], []) M (.inl (some (.int (nI (iq n 511)))), M)) → r * r ≤ n → n < (r + 2 ^ (j + 1)) * (r + 2 ^ (j + 1)) → sg X 41 (51, [o0, o1, o2, o3, o4, o5, o6, some (.int (nI n)), some (.int (nI r)), some (.int (nI (2 ^ j)))], [], []) M (.inl (some (.int (nI (iq n 511)))), M) := by
    intro j r hj h3 go h1 h2
    have hp : 0 < 2 ^ j := Nat.pow_pos (by decide)
    have e2 : r + 2 ^ (j + 1) = r + 2 ^ j + 2 ^ j := by rw [Nat.pow_succ]; omega
    rw [e2] at h2 h3
    have e : (nI r + nI (2 ^ j)) * (nI r + nI (2 ^ j)) = nI ((r + 2 ^ j) * (r + 2 ^ j)) := by rw [mi_add, mi_mul]
    generalize 2 ^ j = p at *
    have hb : (r + p) * (r + p) ≤ 512 * 512 := Nat.mul_le_mul (by omega) (by omega)
    refine t_41_51 hL ‹b ∈ ab_fb› hk x1 x2 x3 _ _ _ _ _ _ _ _ _ _ (mb_n (by rw [show (0 : Int32) = nI 0 from rfl, mi_le (by omega) (by omega)]; omega) ?_)
    rw [e]
    by_cases hc : n < (r + p) * (r + p)
    · exact mb_y ((mi_lt (by omega) (by omega)).mpr hc) (go r h1 hc (by omega))
    · refine mb_n (by rw [mi_lt (by omega) (by omega)]; exact hc) ?_
      rw [mi_add]
      exact go (r + p) (by omega) h2 h3
  intro j
  induction j with
  | zero =>
    intro _ r h1 h2 h3
    exact step 0 r (by decide) h3 (fun r' g1 g2 g3 => fin r' g1 g2 (by omega)) h1 h2
  | succ j ih =>
    intro hj r h1 h2 h3
    refine step (j + 1) r hj h3 (fun r' g1 g2 g3 => ?_) h1 h2
    rw [mi_shr j (by omega)]
    exact ih (by omega) r' g1 g2 g3
theorem sk_41 (hL : ab_lay M) (hb : b ∈ ab_fb) (hk : k < 10) {x y z : Int32} (h : 0 ≤ (mo_sq (x - ak_I M (b + 6 + k) 1) (y - ak_I M (b + 6 + k) 2) (z - ak_I M (b + 6 + k) 3)).toInt ∧ (mo_sq (x - ak_I M (b + 6 + k) 1) (y - ak_I M (b + 6 + k) 2) (z - ak_I M (b + 6 + k) 3)).toInt < 262144) :
    rn X 41 [.ref (b + 6 + k), .int x, .int y, .int z] M (.inl (some (.int (nI (iq (mo_sq (x - ak_I M (b + 6 + k) 1) (y - ak_I M (b + 6 + k) 2) (z - ak_I M (b + 6 + k) 3)).toNatClampNeg 511)))), M) := by
  refine t_41 hL hb hk _ _ _ fun z1 e1 z2 e2 z3 e3 z4 e4 => ?_
  subst e1 e2 e3
  have e5 : mo_sq (x - ak_I M (b + 6 + k) 1) (y - ak_I M (b + 6 + k) 2) (z - ak_I M (b + 6 + k) 3) = z4 := e4.symm
  rw [e5] at h ⊢
  have e6 : z4 = nI z4.toNatClampNeg := (Int32.ofNat_toNatClampNeg z4 (j3_nn.mpr h.1)).symm
  have e7 : (z4.toNatClampNeg : Int) = z4.toInt := Int32.cast_toNatClampNeg z4 (j3_nn.mpr h.1)
  have hn : z4.toNatClampNeg < 262144 := by omega
  generalize z4.toNatClampNeg = n at *
  rw [e6]
  exact sk_41l hL hb hk hn x y z 8 (by decide) 0 (by omega) (by show n < (0 + 512) * (0 + 512); omega) (by decide)
theorem iq_ext {n m m' : Nat} (h : n < (m + 1) * (m + 1)) (hm : m ≤ m') : iq n m' = iq n m := by
  refine iq_un (Nat.le_trans (iq_le n m) hm) (iq_sq n m) ?_
  by_cases e : iq n m = m
  · rw [e]; exact h
  · have h1 := iq_le n m
    refine Nat.lt_of_not_le fun h2 => ?_
    have := iq_gt n m (iq n m + 1) (by omega) h2
    omega
theorem sq_neg3 (a b c d e f : Int32) : mo_sq (a - b) (c - d) (e - f) = mo_sq (b - a) (d - c) (f - e) := by
  unfold mo_sq
  grind
theorem sub0 (x : Int32) : x - 0 = x := by rw [← Int32.toInt_inj, j3_sub (by rw [mb_i0]; have := x.le_toInt; omega) (by rw [mb_i0]; have := x.toInt_lt; omega), mb_i0]; omega
theorem sk_43 (hL : ab_lay M) (hb : b ∈ ab_fb) (hR : Rb b σ nk nw ne fe M) (hc : ct σ nk nw ne) (hk : k < nk) (hp : kp σ k) : rn X 43 [.ref (b + 6 + k)] M (.inl (some (.int (mo_slack σ k))), M) ∧ rn X 42 [.ref (b + 6 + k)] M (.inl (some (.int (mo_span σ k))), M) := by
  have hk10 : k < 10 := Nat.lt_of_lt_of_le hk hc.1
  have e : mo_sq (ak_I M (b + 6 + k) 4 - ak_I M (b + 6 + k) 1) (ak_I M (b + 6 + k) 5 - ak_I M (b + 6 + k) 2) (0 - ak_I M (b + 6 + k) 3) = mo_sq (mo_wx σ k) (mo_wy σ k) (kf σ k 3) := by
    rw [sq_neg3, sub0, hR.kk hk (by decide), hR.kk hk (by decide), hR.kk hk (by decide), hR.kk hk (by decide), hR.kk hk (by decide)]
    rfl
  have q := kp_sq hp
  have h := sk_41 (X := X) hL hb hk10 (x := ak_I M (b + 6 + k) 4) (y := ak_I M (b + 6 + k) 5) (z := 0) (by rw [e]; omega)
  rw [e] at h
  have e7 : ((mo_sq (mo_wx σ k) (mo_wy σ k) (kf σ k 3)).toNatClampNeg : Int) = (mo_sq (mo_wx σ k) (mo_wy σ k) (kf σ k 3)).toInt := Int32.cast_toNatClampNeg _ (j3_nn.mpr q.2.1)
  have e8 : iq (mo_sq (mo_wx σ k) (mo_wy σ k) (kf σ k 3)).toNatClampNeg 1000 = iq (mo_sq (mo_wx σ k) (mo_wy σ k) (kf σ k 3)).toNatClampNeg 511 := iq_ext (by omega) (by decide)
  refine ⟨t_43 hL hb hk10 ⟨_, M, hL, h, ?_⟩, t_42 hL hb hk10 ⟨_, M, hL, h, ?_⟩⟩
  · rw [hR.kk hk (by decide)]; unfold mo_slack mo_span; rw [e8]
  · unfold mo_span; rw [e8]
theorem sk_44 (hL : ab_lay M) (hb : b ∈ ab_fb) (hR : Rb b σ nk nw ne fe M) (hc : ct σ nk nw ne) (hk : k < nk) : rn X 44 [.ref (b + 6 + k)] M (.inl (some (.int (mo_brings σ k))), M) :=
  t_44 hL hb (Nat.lt_of_lt_of_le hk hc.1) ⟨_, M, hL, jm_abs hL, by rw [hR.kk hk (by decide), hR.kk hk (by decide)]; rfl⟩
theorem sk_84 (hL : ab_lay M) (hb : b ∈ ab_fb) (hR : Rb b σ nk nw ne fe M) (hc : ct σ nk nw ne) (hk : k < nw) : rn X 84 [.ref (b + 16 + k)] M (.inl (some (.int (mo_force σ k))), M) :=
  t_84 hL hb (Nat.lt_of_lt_of_le hk hc.2.1.2) ⟨_, M, hL, jm_abs hL, _, M, hL, jm_abs hL, _, M, hL, jm_max hL, by rw [hR.w hk (by decide), hR.w hk (by decide)]; rfl⟩
theorem sk_11 (hL : ab_lay M) (hb : b ∈ ab_fb) (hR : Rb b σ nk nw ne fe M) (hc : ct σ nk nw ne) {s : Int32} : rn X 11 [.ref b, .int s] M (.inl (some (.int (mo_ins σ s nk))), M) := by
  refine t_11 hL hb _ ?_
  have e5 : ak_I M b 5 = σ 1 := hR.2.1.1
  refine mb_up (P := fun i => sg X 11 (4, [some (.ref b), some (.int s), some (.int (mo_ins σ s i)), some (.int (nI i))], [], []) M (.inl (some (.int (mo_ins σ s nk))), M)) (n := nk) ?_ ?_ 0 (Nat.zero_le _)
  · exact t_11_4 hL hb _ _ _ (mb_y (by rw [e5]; exact ct_ge hc) rfl)
  · intro i hi ih
    have hi10 : i < 10 := Nat.lt_of_lt_of_le hi hc.1
    refine t_11_4 hL hb _ _ _ (mb_n (by rw [e5]; exact ct_lt hc hi) ⟨i, hi10, mb_ix hi10 (by decide), ?_⟩)
    rw [mi_s, hR.kk hi (by decide)]
    rw [mo_ins_s] at ih
    by_cases h : kf σ i 0 = s
    · rw [if_pos h] at ih; exact mb_y h ih
    · rw [if_neg h] at ih; exact mb_n h ih
theorem sk_12 (hL : ab_lay M) (hb : b ∈ ab_fb) (hR : Rb b σ nk nw ne fe M) (hc : ct σ nk nw ne) {h : Int32} : rn X 12 [.ref b, .int h] M (.inl (some (.int (nI (mo_wind σ h nw)))), M) := by
  refine t_12 hL hb _ ?_
  have e6 : ak_I M b 6 = nI nw := hR.2.1.2.1.trans hc.2.2.2.2.1
  have h4 := hc.2.1.2
  have H := mb_up (P := fun i => 1 ≤ i → sg X 12 (4, [some (.ref b), some (.int h), some (.int (nI (mo_wind σ h i))), some (.int (nI i))], [], []) M (.inl (some (.int (nI (mo_wind σ h nw)))), M)) (n := nw) ?_ ?_ 1 hc.2.1.1 (by decide)
  · rw [mo_wind_1] at H
    exact H
  · intro _
    exact t_12_4 hL hb _ _ _ (mb_y (by rw [e6]; exact Int32.le_refl _) rfl)
  · intro i hi ih h0
    have ih := ih (by omega)
    have hi4 : i < 4 := by omega
    refine t_12_4 hL hb _ _ _ (mb_n (by rw [e6, mi_le (by omega) (by omega)]; omega) ⟨i, hi4, mb_ix hi4 (by decide), ?_⟩)
    rw [mi_s, hR.w hi (by decide)]
    rw [mo_wind_s] at ih
    by_cases hh : wf σ i 0 ≤ h
    · rw [if_pos ⟨hh, by omega⟩] at ih
      exact mb_n (mb_lt.mpr hh) ih
    · rw [if_neg (fun e => hh e.1)] at ih
      exact mb_y (mb_le.mp hh) ih
/-- a field that changes -/
def cr (b : Nat) (σ : Nat → Int32) (nk nw ne fe : Nat) (M M' : ak_M) : Prop := fr (cS b) M M' ∧ Rb b σ nk nw ne fe M'
theorem cr.lay {M1 M2 : ak_M} (h : cr b σ nk nw ne fe M M1) (hc : ct σ nk nw ne) (hk : k < nk) {w : Nat} {v : Int32} (hw : w < 14) (e : M2 = ak_sI M1 (b + 6 + k) w v) : cr b (lay σ k w v) nk nw ne fe M M2 := by
  rw [e]
  have := hc.1
  exact ⟨h.1.st ⟨by omega, by omega⟩, h.2.lay hc hk hw⟩
theorem cr.tr {τ : Nat → Int32} {n1 f1 n2 f2 : Nat} {M1 M2 : ak_M} (h : cr b σ nk nw n1 f1 M M1) (g : cr b τ nk nw n2 f2 M1 M2) : cr b τ nk nw n2 f2 M M2 := ⟨h.1.tr g.1, g.2⟩
theorem sk_45 (hL : ab_lay M) (hb : b ∈ ab_fb) (hR : Rb b σ nk nw ne fe M) (hc : ct σ nk nw ne) (hk : k < nk) : ∃ M', rn X 45 [.ref (b + 6 + k), .ref (b + 16 + mo_wind σ (kf σ k 3) nw)] M (.inl none, M') ∧ cr b (mo_blow σ k) nk nw ne fe M M' := by
  have hw := mo_wind_lt σ (kf σ k 3) nw hc.2.1.1
  have hk10 : k < 10 := Nat.lt_of_lt_of_le hk hc.1
  have hw4 : mo_wind σ (kf σ k 3) nw < 4 := Nat.lt_of_lt_of_le hw hc.2.1.2
  have k0 : cr b σ nk nw ne fe M M := ⟨fr.rf hL, hR⟩
  generalize g1 : ak_sI M (b + 6 + k) 1 (mo_field (kf σ k 1 + wf σ (mo_wind σ (kf σ k 3) nw) 1)) = M1
  have k1 := k0.lay hc hk (by decide) g1.symm
  generalize g2 : ak_sI M1 (b + 6 + k) 2 (mo_field (kf σ k 2 + wf σ (mo_wind σ (kf σ k 3) nw) 2)) = M2
  have k2 := k1.lay (ct_lay hc) hk (by decide) g2.symm
  refine ⟨M2, t_45 hL hb hk10 hb hw4 ⟨_, M, hL, sk_152 hL, fun N e => ?_⟩, ?_⟩
  · rw [hR.kk hk (by decide), hR.w hw (by decide)] at e
    obtain rfl := e.trans g1
    refine ⟨_, N, k1.1.1, sk_152 k1.1.1, fun N' e => ?_⟩
    rw [k1.2.kk hk (by decide), k1.2.w hw (by decide), kf_n (by decide) (by decide) (by omega), wf_lay hw4 (by decide)] at e
    obtain rfl := e.trans g2
    rfl
  · unfold mo_blow
    rw [ct_nW hc]
    exact k2
end SKK
