/-! the model: a kite is blown, climbs, sinks, is pulled in -/
def mo_blow (σ : Nat → Int32) (k : Nat) : Nat → Int32 :=
  lay (lay σ k 1 (mo_field (kf σ k 1 + wf σ (mo_wind σ (kf σ k 3) (nW σ)) 1))) k 2 (mo_field (kf σ k 2 + wf σ (mo_wind σ (kf σ k 3) (nW σ)) 2))
def mo_sink (σ : Nat → Int32) (k : Nat) : Nat → Int32 := lay σ k 3 (mx32 0 (kf σ k 3 - σ 6))
def mo_up (σ : Nat → Int32) (k : Nat) : Int32 := σ 4 * mo_force σ (mo_wind σ (kf σ k 3) (nW σ)) + (if 0 ≤ kf σ k 7 then 0 else σ 5)
def mo_climb (σ : Nat → Int32) (k : Nat) : Nat → Int32 := lay σ k 3 (mn32 300 (kf σ k 3 + mo_up σ k))
/-- one step of pulling in -/
def mo_p1 (σ : Nat → Int32) (k : Nat) : Nat → Int32 :=
  if ab32 (mo_wx σ k) ≤ kf σ k 3 ∧ ab32 (mo_wy σ k) ≤ kf σ k 3 then lay σ k 3 (kf σ k 3 + (-1))
  else if ab32 (mo_wy σ k) ≤ ab32 (mo_wx σ k) then lay σ k 1 (kf σ k 1 + - mo_sgn (mo_wx σ k))
  else lay σ k 2 (kf σ k 2 + - mo_sgn (mo_wy σ k))
def mo_pl (σ : Nat → Int32) (k : Nat) : Nat → (Nat → Int32)
  | 0 => σ
  | n + 1 => if 0 ≤ mo_slack σ k then σ else mo_pl (mo_p1 σ k) k n
/-- how much there is to pull in -/
def mo_mz (σ : Nat → Int32) (k : Nat) : Nat := (kf σ k 3).toInt.natAbs + (zx σ k).natAbs + (zy σ k).natAbs
theorem rg_1 {v : Int32} (h : in32 v 0 199 = true) : rg 1 v = true := by
  unfold rg
  rw [if_neg (by decide), if_pos (by decide)]
  exact h
theorem rg_2 {v : Int32} (h : in32 v 0 199 = true) : rg 2 v = true := by
  unfold rg
  rw [if_neg (by decide), if_pos (by decide)]
  exact h
theorem rg_3 {v : Int32} (h : in32 v 0 300 = true) : rg 3 v = true := by
  unfold rg
  rw [if_neg (by decide), if_neg (by decide), if_pos (by decide)]
  exact h
theorem kv_out {σ : Nat → Int32} {k : Nat} (h : kv σ k) : 1 ≤ (kf σ k 6).toInt ∧ (kf σ k 6).toInt ≤ 400 := in32_t.mp (h 6 (by decide))
theorem sgn_c (v : Int32) : (v.toInt < 0 ∧ mo_sgn v = (-1)) ∨ (v.toInt = 0 ∧ mo_sgn v = 0) ∨ (0 < v.toInt ∧ mo_sgn v = 1) := by
  unfold mo_sgn
  by_cases h1 : v ≤ 0
  · rw [if_pos h1]
    rw [Int32.le_iff_toInt_le, Int32.toInt_zero] at h1
    by_cases h2 : 0 ≤ v
    · rw [if_pos h2]
      rw [Int32.le_iff_toInt_le, Int32.toInt_zero] at h2
      exact Or.inr (Or.inl ⟨by omega, rfl⟩)
    · rw [if_neg h2]
      rw [Int32.le_iff_toInt_le, Int32.toInt_zero] at h2
      exact Or.inl ⟨by omega, rfl⟩
  · rw [if_neg h1]
    rw [Int32.le_iff_toInt_le, Int32.toInt_zero] at h1
    exact Or.inr (Or.inr ⟨by omega, rfl⟩)
theorem slack_t {σ : Nat → Int32} {k : Nat} (h : kv σ k) : (mo_slack σ k).toInt = (kf σ k 6).toInt - (iq (mo_sq (mo_wx σ k) (mo_wy σ k) (kf σ k 3)).toNatClampNeg 1000 : Nat) := by
  have hi := iq_le (mo_sq (mo_wx σ k) (mo_wy σ k) (kf σ k 3)).toNatClampNeg 1000
  have ho := kv_out h
  unfold mo_slack mo_span
  generalize iq (mo_sq (mo_wx σ k) (mo_wy σ k) (kf σ k 3)).toNatClampNeg 1000 = n at hi
  have e : (nI n).toInt = n := mi_t (by omega)
  rw [j3_sub (by omega) (by omega), e]
/-- where the slack is below 0 there is something to pull in -/
theorem slack_n {σ : Nat → Int32} {k : Nat} (h : kv σ k) (hs : ¬ 0 ≤ mo_slack σ k) : mo_mz σ k ≠ 0 := by
  intro hz
  unfold mo_mz at hz
  have e := slack_t h
  have ho := kv_out h
  have q := kp_sq h.kp
  rw [(kp_wx h.kp).1, (kp_wy h.kp).1] at q
  have z1 : (kf σ k 1).toInt - (kf σ k 4).toInt = 0 := by show zx σ k = 0; omega
  have z2 : (kf σ k 2).toInt - (kf σ k 5).toInt = 0 := by show zy σ k = 0; omega
  have z3 : (kf σ k 3).toInt = 0 := by omega
  rw [z1, z2, z3] at q
  have e0 : (mo_sq (mo_wx σ k) (mo_wy σ k) (kf σ k 3)).toNatClampNeg = 0 := by
    show (mo_sq (mo_wx σ k) (mo_wy σ k) (kf σ k 3)).toInt.toNat = 0
    rw [q.1]; rfl
  rw [e0] at e
  have e1 : iq 0 1000 = 0 := iq_un (by decide) (by decide) (by decide)
  rw [e1] at e
  rw [j3_nn] at hs
  omega
section SGQ
variable {X : ak_X} {M : ak_M} {nk nw ne : Nat} {σ : Nat → Int32} {k : Nat}
theorem ab32_z {x : Int32} (h : -1000 ≤ x.toInt ∧ x.toInt ≤ 1000) : (ab32 x).toInt = x.toInt.natAbs := by
  rw [ab32_t (by omega)]; split <;> omega
theorem p1_i1 {h x y : Int} (hz : h.natAbs + x.natAbs + y.natAbs ≠ 0) (c : (x.natAbs : Int) ≤ h ∧ (y.natAbs : Int) ≤ h) : 1 ≤ h := by omega
theorem p1_i2 {h x y : Int} (h1 : 1 ≤ h) : (h - 1).natAbs + x.natAbs + y.natAbs + 1 = h.natAbs + x.natAbs + y.natAbs := by omega
theorem p1_i3 {h : Int} (h1 : 1 ≤ h) (h2 : 0 ≤ h ∧ h ≤ 300) : 0 ≤ h - 1 ∧ h - 1 ≤ 300 := by omega
theorem p1_i4 {x : Int32} (h1 : 1 ≤ x.toInt) (h2 : 0 ≤ x.toInt ∧ x.toInt ≤ 300) : (x + (-1)).toInt = x.toInt - 1 := by
  have m1 : (-1 : Int32).toInt = -1 := by decide
  rw [j3_add (by rw [m1]; omega) (by rw [m1]; omega), m1]
  rfl
theorem p1_lay (h : vs σ nk nw ne) (hk : k < nk) (hs : ¬ 0 ≤ mo_slack σ k) : vs (mo_p1 σ k) nk nw ne ∧ mo_mz (mo_p1 σ k) k + 1 = mo_mz σ k := by
  have hk10 : k < 10 := Nat.lt_of_lt_of_le hk h.1.1
  have hv := h.2.2.1 k hk
  have hz := slack_n hv hs
  have wx := kp_wx hv.kp
  have wy := kp_wy hv.kp
  have ax : (ab32 (mo_wx σ k)).toInt = (zx σ k).natAbs := by rw [ab32_z (by omega), wx.1]; rfl
  have ay : (ab32 (mo_wy σ k)).toInt = (zy σ k).natAbs := by rw [ab32_z (by omega), wy.1]; rfl
  have h1 := mi_199 hv.kp.1
  have h2 := mi_199 hv.kp.2.1
  have h3 := mi_300 hv.kp.2.2.1
  have h4 := mi_199 hv.kp.2.2.2.1
  have h5 := mi_199 hv.kp.2.2.2.2
  have m1 : (-1 : Int32).toInt = -1 := by decide
  have m1' : (- (1 : Int32)).toInt = -1 := by decide
  have m1'' : (- (-1 : Int32)).toInt = 1 := by decide
  unfold mo_mz at hz
  unfold mo_p1
  have i1 : (ab32 (mo_wx σ k) ≤ kf σ k 3 ∧ ab32 (mo_wy σ k) ≤ kf σ k 3) ↔ (((zx σ k).natAbs : Int) ≤ (kf σ k 3).toInt ∧ ((zy σ k).natAbs : Int) ≤ (kf σ k 3).toInt) := by
    rw [Int32.le_iff_toInt_le, Int32.le_iff_toInt_le, ax, ay]
  have i2 : ab32 (mo_wy σ k) ≤ ab32 (mo_wx σ k) ↔ ((zy σ k).natAbs : Int) ≤ ((zx σ k).natAbs : Int) := by
    rw [Int32.le_iff_toInt_le, ax, ay]
  by_cases c1 : ((zx σ k).natAbs : Int) ≤ (kf σ k 3).toInt ∧ ((zy σ k).natAbs : Int) ≤ (kf σ k 3).toInt
  · rw [if_pos (i1.mpr c1)]
    have hpos := p1_i1 hz c1
    have e : (kf σ k 3 + (-1)).toInt = (kf σ k 3).toInt - 1 := p1_i4 hpos h3
    refine ⟨vs_lay h hk10 (by decide) (fun _ => rg_3 (in32_t.mpr ?_)), ?_⟩
    · rw [e, mb_i0, mb_i300]; exact p1_i3 hpos h3
    · unfold mo_mz zx zy
      rw [kf_s, kf_n (by decide) (by decide) (fun q => absurd q.2 (by decide)), kf_n (by decide) (by decide) (fun q => absurd q.2 (by decide)), kf_n (by decide) (by decide) (fun q => absurd q.2 (by decide)), kf_n (by decide) (by decide) (fun q => absurd q.2 (by decide)), e]
      exact p1_i2 hpos
  · rw [if_neg (fun e => c1 (i1.mp e))]
    by_cases c2 : ((zy σ k).natAbs : Int) ≤ ((zx σ k).natAbs : Int)
    · rw [if_pos (i2.mpr c2)]
      have e : (kf σ k 1 + - mo_sgn (mo_wx σ k)).toInt = (kf σ k 1).toInt + (if 0 < zx σ k then -1 else 1) ∧ zx σ k ≠ 0 := by
        have ez : zx σ k = (kf σ k 1).toInt - (kf σ k 4).toInt := rfl
        rcases sgn_c (mo_wx σ k) with ⟨a, b⟩ | ⟨a, b⟩ | ⟨a, b⟩
        · rw [b, if_neg (by omega), j3_add (by rw [m1'']; omega) (by rw [m1'']; omega), m1'']; exact ⟨rfl, by omega⟩
        · exfalso; omega
        · rw [b, if_pos (by omega), j3_add (by rw [m1']; omega) (by rw [m1']; omega), m1']; exact ⟨rfl, by omega⟩
      have ez : zx σ k = (kf σ k 1).toInt - (kf σ k 4).toInt := rfl
      refine ⟨vs_lay h hk10 (by decide) (fun _ => rg_1 (in32_t.mpr ?_)), ?_⟩
      · rw [e.1, mb_i0, mb_i199]
        split <;> omega
      · unfold mo_mz
        have e2 : zx (lay σ k 1 (kf σ k 1 + - mo_sgn (mo_wx σ k))) k = zx σ k + (if 0 < zx σ k then -1 else 1) := by
          unfold zx
          rw [kf_s, kf_n (by decide) (by decide) (by omega), e.1]
          unfold zx
          omega
        have e3 : zy (lay σ k 1 (kf σ k 1 + - mo_sgn (mo_wx σ k))) k = zy σ k := by
          unfold zy
          rw [kf_n (by decide) (by decide) (by omega), kf_n (by decide) (by decide) (by omega)]
        rw [e2, e3, kf_n (by decide) (by decide) (by omega)]
        split <;> omega
    · rw [if_neg (fun e => c2 (i2.mp e))]
      have e : (kf σ k 2 + - mo_sgn (mo_wy σ k)).toInt = (kf σ k 2).toInt + (if 0 < zy σ k then -1 else 1) ∧ zy σ k ≠ 0 := by
        have ez : zy σ k = (kf σ k 2).toInt - (kf σ k 5).toInt := rfl
        rcases sgn_c (mo_wy σ k) with ⟨a, b⟩ | ⟨a, b⟩ | ⟨a, b⟩
        · rw [b, if_neg (by omega), j3_add (by rw [m1'']; omega) (by rw [m1'']; omega), m1'']; exact ⟨rfl, by omega⟩
        · exfalso; omega
        · rw [b, if_pos (by omega), j3_add (by rw [m1']; omega) (by rw [m1']; omega), m1']; exact ⟨rfl, by omega⟩
      have ez : zy σ k = (kf σ k 2).toInt - (kf σ k 5).toInt := rfl
      refine ⟨vs_lay h hk10 (by decide) (fun _ => rg_2 (in32_t.mpr ?_)), ?_⟩
      · rw [e.1, mb_i0, mb_i199]
        split <;> omega
      · unfold mo_mz
        have e2 : zy (lay σ k 2 (kf σ k 2 + - mo_sgn (mo_wy σ k))) k = zy σ k + (if 0 < zy σ k then -1 else 1) := by
          unfold zy
          rw [kf_s, kf_n (by decide) (by decide) (by omega), e.1]
          unfold zy
          omega
        have e3 : zx (lay σ k 2 (kf σ k 2 + - mo_sgn (mo_wy σ k))) k = zx σ k := by
          unfold zx
          rw [kf_n (by decide) (by decide) (by omega), kf_n (by decide) (by decide) (by omega)]
        rw [e2, e3, kf_n (by decide) (by decide) (by omega)]
        split <;> omega
theorem pl_vs : ∀ (n : Nat) {σ : Nat → Int32}, vs σ nk nw ne → k < nk → vs (mo_pl σ k n) nk nw ne
  | 0, σ, h, _ => h
  | n + 1, σ, h, hk => by
    unfold mo_pl
    by_cases hs : 0 ≤ mo_slack σ k
    · rw [if_pos hs]; exact h
    · rw [if_neg hs]; exact pl_vs n (p1_lay h hk hs).1 hk
theorem mz_le (h : vs σ nk nw ne) (hk : k < nk) : mo_mz σ k ≤ 698 := by
  have hv := h.2.2.1 k hk
  have h1 := mi_199 hv.kp.1
  have h2 := mi_199 hv.kp.2.1
  have h3 := mi_300 hv.kp.2.2.1
  have h4 := mi_199 hv.kp.2.2.2.1
  have h5 := mi_199 hv.kp.2.2.2.2
  unfold mo_mz zx zy
  omega
/-- what a round of pulling in asks -/
def tr208 (X : ak_X) (k : Nat) (M : ak_M) (r : ak_O × ak_M) : Prop :=
  (∃ (v62 : Int32) (M61 : ak_M), ab_lay M61 ∧ rn X 185 [.ref 483, .int (nI k)] M (.inl (some (.int v62)), M61) ∧ (if 0 ≤ v62 then r = (.inl none, M61) else (∃ (v64 : Int32) (M63 : ak_M), ab_lay M63 ∧ rn X 182 [.ref 483, .int (nI k)] M61 (.inl (some (.int v64)), M63) ∧ (∃ (v66 : Int32) (M65 : ak_M), ab_lay M65 ∧ rn X 314 [.int v64] M63 (.inl (some (.int v66)), M65) ∧ (∃ (v68 : Int32) (M67 : ak_M), ab_lay M67 ∧ rn X 183 [.ref 483, .int (nI k)] M65 (.inl (some (.int v68)), M67) ∧ (∃ (v70 : Int32) (M69 : ak_M), ab_lay M69 ∧ rn X 314 [.int v68] M67 (.inl (some (.int v70)), M69) ∧ (∃ (v72 : Int32) (M71 : ak_M), ab_lay M71 ∧ rn X 171 [.ref 483, .int (nI k), .int 3] M69 (.inl (some (.int v72)), M71) ∧ (if v72 < v66 then (if v66 < v70 then (∃ (v74 : Int32) (M73 : ak_M), ab_lay M73 ∧ rn X 183 [.ref 483, .int (nI k)] M71 (.inl (some (.int v74)), M73) ∧ (∃ (v76 : Int32) (M75 : ak_M), ab_lay M75 ∧ rn X 189 [.int v74] M73 (.inl (some (.int v76)), M75) ∧ (∃ (M77 : ak_M), ab_lay M77 ∧ rn X 173 [.ref 483, .int (nI k), .int 2, .int (-v76)] M75 (.inl (none), M77) ∧ sg X 208 (0, [some (.ref 483), some (.int (nI k)), some (.int v66), some (.int v70)], [], []) M77 r))) else (∃ (v82 : Int32) (M81 : ak_M), ab_lay M81 ∧ rn X 182 [.ref 483, .int (nI k)] M71 (.inl (some (.int v82)), M81) ∧ (∃ (v84 : Int32) (M83 : ak_M), ab_lay M83 ∧ rn X 189 [.int v82] M81 (.inl (some (.int v84)), M83) ∧ (∃ (M85 : ak_M), ab_lay M85 ∧ rn X 173 [.ref 483, .int (nI k), .int 1, .int (-v84)] M83 (.inl (none), M85) ∧ sg X 208 (0, [some (.ref 483), some (.int (nI k)), some (.int v66), some (.int v70)], [], []) M85 r)))) else (∃ (v91 : Int32) (M90 : ak_M), ab_lay M90 ∧ rn X 171 [.ref 483, .int (nI k), .int 3] M71 (.inl (some (.int v91)), M90) ∧ (if v91 < v70 then (if v66 < v70 then (∃ (v93 : Int32) (M92 : ak_M), ab_lay M92 ∧ rn X 183 [.ref 483, .int (nI k)] M90 (.inl (some (.int v93)), M92) ∧ (∃ (v95 : Int32) (M94 : ak_M), ab_lay M94 ∧ rn X 189 [.int v93] M92 (.inl (some (.int v95)), M94) ∧ (∃ (M96 : ak_M), ab_lay M96 ∧ rn X 173 [.ref 483, .int (nI k), .int 2, .int (-v95)] M94 (.inl (none), M96) ∧ sg X 208 (0, [some (.ref 483), some (.int (nI k)), some (.int v66), some (.int v70)], [], []) M96 r))) else (∃ (v101 : Int32) (M100 : ak_M), ab_lay M100 ∧ rn X 182 [.ref 483, .int (nI k)] M90 (.inl (some (.int v101)), M100) ∧ (∃ (v103 : Int32) (M102 : ak_M), ab_lay M102 ∧ rn X 189 [.int v101] M100 (.inl (some (.int v103)), M102) ∧ (∃ (M104 : ak_M), ab_lay M104 ∧ rn X 173 [.ref 483, .int (nI k), .int 1, .int (-v103)] M102 (.inl (none), M104) ∧ sg X 208 (0, [some (.ref 483), some (.int (nI k)), some (.int v66), some (.int v70)], [], []) M104 r)))) else (∃ (M109 : ak_M), ab_lay M109 ∧ rn X 173 [.ref 483, .int (nI k), .int 3, .int ((-1))] M90 (.inl (none), M109) ∧ sg X 208 (0, [some (.ref 483), some (.int (nI k)), some (.int v66), some (.int v70)], [], []) M109 r)))))))))))
end SGQ
/-! a kite goes on for a tick -/
def mo_g1 (σ : Nat → Int32) (k : Nat) : Nat → Int32 := lay σ k 6 (mx32 1 (mn32 400 (kf σ k 6 + kf σ k 7)))
def mo_g2 (σ : Nat → Int32) (k : Nat) : Nat → Int32 := if mo_slack σ k ≤ σ 3 then mo_climb σ k else mo_sink σ k
def mo_g3 (σ : Nat → Int32) (k : Nat) : Nat → Int32 := if kf σ k 3 ≤ 0 then mo_hapAt (lay σ k 0 1) 0 k (-1) else σ
def mo_goes (σ : Nat → Int32) (k : Nat) : Nat → Int32 := mo_g3 (mo_pl (mo_g2 (mo_blow (mo_g1 σ k) k) k) k 1000) k
theorem mr.tr {M M1 M2 : ak_M} {σ τ : Nat → Int32} (a : mr M σ M1) (b : mr M1 τ M2) : mr M τ M2 := ⟨a.1.tr b.1, b.2⟩
section SGR
variable {X : ak_X} {M : ak_M} {nk nw ne : Nat} {σ : Nat → Int32} {k : Nat}
theorem field_in (v : Int32) : in32 (mo_field v) 0 199 = true := by
  unfold mo_field
  rw [in32_t, mx32_t, mn32_t, mb_i0, mb_i199]
  repeat' split
  all_goals omega
theorem blow_vs (h : vs σ nk nw ne) (hk : k < 10) : vs (mo_blow σ k) nk nw ne :=
  vs_lay (vs_lay h hk (by decide) fun _ => field_in _) hk (by decide) fun _ => field_in _
theorem g1_vs (h : vs σ nk nw ne) (hk : k < 10) : vs (mo_g1 σ k) nk nw ne := by
  refine vs_lay h hk (by decide) fun _ => in32_t.mpr ?_
  rw [mx32_t, mn32_t, show (1 : Int32).toInt = 1 from rfl, show (400 : Int32).toInt = 400 from rfl]
  repeat' split
  all_goals omega
theorem vs_st (h : vs σ nk nw ne) : (0 ≤ (σ 3).toInt ∧ (σ 3).toInt ≤ 99) ∧ (0 ≤ (σ 4).toInt ∧ (σ 4).toInt ≤ 9) ∧ (0 ≤ (σ 5).toInt ∧ (σ 5).toInt ≤ 9) ∧ (1 ≤ (σ 6).toInt ∧ (σ 6).toInt ≤ 20) := by
  obtain ⟨-, -, -, -, ⟨a, b, c, d, -⟩, -⟩ := h
  exact ⟨in32_t.mp a, in32_t.mp b, in32_t.mp c, in32_t.mp d⟩
theorem m9_t : (-9 : Int32).toInt = -9 := by decide
theorem wv_f (h : vs σ nk nw ne) {i : Nat} (hi : i < nw) : 0 ≤ (mo_force σ i).toInt ∧ (mo_force σ i).toInt ≤ 9 := by
  have hw := h.2.2.2.1 i hi
  have a := in32_t.mp hw.1
  have b := in32_t.mp hw.2
  rw [m9_t, show (9 : Int32).toInt = 9 from rfl] at a b
  unfold mo_force
  rw [mx32_t, ab32_t (by omega), ab32_t (by omega)]
  repeat' split
  all_goals omega
theorem up_b (h : vs σ nk nw ne) : 0 ≤ (mo_up σ k).toInt ∧ (mo_up σ k).toInt ≤ 90 := by
  have hw := mo_wind_lt σ (kf σ k 3) nw h.1.2.1.1
  have hf := wv_f h hw
  have hs := vs_st h
  unfold mo_up
  rw [ct_nW h.1]
  generalize mo_force σ (mo_wind σ (kf σ k 3) nw) = f at hf
  have p := mi_pr (a := (σ 4).toInt) (b := f.toInt) (A := 9) (B := 9) ⟨by omega, by omega⟩ ⟨by omega, by omega⟩
  have p0 : 0 ≤ (σ 4).toInt * f.toInt := Int.mul_nonneg (by omega) (by omega)
  have e1 : (σ 4 * f).toInt = (σ 4).toInt * f.toInt := j3_mul (by omega) (by omega)
  split
  · rw [j3_add (by rw [mb_i0]; omega) (by rw [mb_i0]; omega), e1, mb_i0]; omega
  · rw [j3_add (by omega) (by omega), e1]; omega
theorem climb_vs (h : vs σ nk nw ne) (hk : k < nk) : vs (mo_climb σ k) nk nw ne := by
  have hk10 : k < 10 := Nat.lt_of_lt_of_le hk h.1.1
  refine vs_lay h hk10 (by decide) fun _ => in32_t.mpr ?_
  have hu := up_b (k := k) h
  have h3 := mi_300 (h.kp hk).2.2.1
  rw [mn32_t, mb_i0, mb_i300, j3_add (by omega) (by omega)]
  split <;> omega
theorem sink_vs (h : vs σ nk nw ne) (hk : k < nk) : vs (mo_sink σ k) nk nw ne := by
  have hk10 : k < 10 := Nat.lt_of_lt_of_le hk h.1.1
  refine vs_lay h hk10 (by decide) fun _ => in32_t.mpr ?_
  have hs := (vs_st h).2.2.2
  have h3 := mi_300 (h.kp hk).2.2.1
  rw [mx32_t, mb_i0, mb_i300, j3_sub (by omega) (by omega)]
  split <;> omega
theorem g2_vs (h : vs σ nk nw ne) (hk : k < nk) : vs (mo_g2 σ k) nk nw ne := by
  unfold mo_g2
  split
  · exact climb_vs h hk
  · exact sink_vs h hk
theorem mb_i9 : (9 : Int32).toInt = 9 := rfl
theorem mb_im1 : (-1 : Int32).toInt = -1 := by decide
theorem in_k (hk : k < 10) : in32 (nI k) 0 9 = true := by rw [in32_t, mi_t (by omega), mb_i0, mb_i9]; omega
theorem in_k1 (hk : k < 10) : in32 (nI k) (-1) 9 = true := by rw [in32_t, mi_t (by omega), mb_im1, mb_i9]; omega
theorem g3_vs (h : vs σ nk nw ne) (hk : k < nk) : ∃ n', vs (mo_g3 σ k) nk nw n' := by
  have hk10 : k < 10 := Nat.lt_of_lt_of_le hk h.1.1
  unfold mo_g3
  split
  · exact ⟨_, hap_vs (vs_lay h hk10 (by decide) fun _ => by decide) (by decide) (in_k hk10) (by decide)⟩
  · exact ⟨_, h⟩
theorem goes_vs (h : vs σ nk nw ne) (hk : k < nk) : ∃ n', vs (mo_goes σ k) nk nw n' :=
  g3_vs (pl_vs 1000 (g2_vs (blow_vs (g1_vs h (Nat.lt_of_lt_of_le hk h.1.1)) (Nat.lt_of_lt_of_le hk h.1.1)) hk) hk) hk
end SGR
