/-! the class's questions -/
/-- what a call comes to: a number, or what is thrown -/
def oc (o : Int32 ⊕ Nat) : ak_O := match o with | .inl v => .inl (some (.int v)) | .inr E => .inr E
/-- what a call of the law may leave changed, and what it may make -/
def fx (S : Nat → Nat → Prop) (M M' : ak_M) : Prop := ab_lay M' ∧ (∀ p k, ¬ S p k → ak_I M' p k = ak_I M p k) ∧ ak_C M' ≤ ak_C M + 2 ∧ ak_Z M' ≤ ak_Z M + 12
theorem fr.qx {S : Nat → Nat → Prop} {M M' : ak_M} (h : fr S M M') : fx S M M' := ⟨h.1, h.2.1, by rw [h.2.2.2.2.1]; omega, by rw [h.2.2.2.2.2]; omega⟩
theorem fr.ux {S : Nat → Nat → Prop} {M M' : ak_M} (h : fr S M M') : fx S M (ak_use M' 1 6) := by
  refine ⟨h.1.use, h.2.1, ?_, ?_⟩
  · have e : ak_C (ak_use M' 1 6) = ak_C M' + 1 := rfl
    rw [e, h.2.2.2.2.1]; omega
  · have e : ak_Z (ak_use M' 1 6) = ak_Z M' + 6 := rfl
    rw [e, h.2.2.2.2.2]; omega
theorem fx.mo {S T : Nat → Nat → Prop} {M M' : ak_M} (h : fx S M M') (hs : ∀ p k, S p k → T p k) : fx T M M' := ⟨h.1, fun p k hn => h.2.1 p k fun e => hn (hs p k e), h.2.2⟩
/-- a call of the class: what it comes to -/
def ca (S : Nat → Nat → Prop) (X : ak_X) (k : Nat) (as : List Value) (M : ak_M) (o : Int32 ⊕ Nat) : Prop := ∃ M', rn X k (.ref 0 :: as) M (oc o, M') ∧ fx S M M'
theorem h65 : 65 ∈ ab_fb := by decide
theorem in_nk {n : Nat} (hn : n ≤ 1000) {x : Int32} : in32 x 0 (nI n - 1) = true ↔ ∃ k, k < n ∧ x = nI k := by
  have e : (nI n - 1).toInt = (n : Int) - 1 := by
    have e1 : (1 : Int32).toInt = 1 := by decide
    rw [j3_sub (by rw [mi_t (by omega), e1]; omega) (by rw [mi_t (by omega), e1]; omega), mi_t (by omega), e1]
  rw [in32_t, e, mb_i0]
  constructor
  · rintro ⟨h1, h2⟩
    exact ⟨x.toInt.toNat, by omega, mi_of (by omega)⟩
  · rintro ⟨k, hk, rfl⟩
    rw [mi_t (by omega)]
    omega
theorem in_n {a : Nat} (ha : a ≤ 100000) {x : Int32} : in32 x 0 (nI a) = true ↔ ∃ k, k ≤ a ∧ x = nI k := by
  rw [in32_t, mi_t (by omega), mb_i0]
  constructor
  · rintro ⟨h1, h2⟩
    exact ⟨x.toInt.toNat, by omega, mi_of (by omega)⟩
  · rintro ⟨k, hk, rfl⟩
    rw [mi_t (by omega)]
    omega
theorem isK_of {σ : Nat → Int32} {nk nw ne : Nat} (hc : ct σ nk nw ne) {x : Int32} : mo_isK σ x = true ↔ ∃ k, k < nk ∧ x = nI k := by
  unfold mo_isK
  rw [hc.2.2.2.1]
  exact in_nk (by have := hc.1; omega)
section SCQ
variable {X : ak_X} {M : ak_M} {b k nk nw ne fe : Nat} {σ : Nat → Int32}
theorem ck_146 (hL : ab_lay M) {x lo hi : Int32} : (in32 x lo hi = true → rn X 146 [.int x, .int lo, .int hi] M (.inl none, M)) ∧ (in32 x lo hi = false → rn X 146 [.int x, .int lo, .int hi] M (.inr 1, ak_use M 1 6)) :=
  ⟨fun h => t_146 hL _ _ _ ⟨_, M, hL, sk_151 hL, mb_n (by rw [h]; decide) rfl⟩, fun h => t_146 hL _ _ _ ⟨_, M, hL, sk_151 hL, mb_y (by rw [h]; rfl) rfl⟩⟩
theorem ck_144 (hL : ab_lay M) (e5 : ak_I M 65 5 = σ 1) {x : Int32} : (mo_isK σ x = true → rn X 144 [.ref 0, .int x] M (.inl none, M)) ∧ (mo_isK σ x = false → rn X 144 [.ref 0, .int x] M (.inr 0, ak_use M 1 6)) := by
  have s := sk_151 (X := X) hL (v := x) (lo := 0) (hi := ak_I M 65 5 - 1)
  have e : in32 x 0 (ak_I M 65 5 - 1) = mo_isK σ x := by rw [e5]; rfl
  rw [e] at s
  exact ⟨fun h => t_144 hL _ ⟨_, M, hL, s, mb_n (by rw [h]; decide) rfl⟩, fun h => t_144 hL _ ⟨_, M, hL, s, mb_y (by rw [h]; rfl) rfl⟩⟩
theorem ck_145 (hL : ab_lay M) (e6 : ak_I M 65 6 = σ 2) {x : Int32} : (in32 x 0 (σ 2 - 1) = true → rn X 145 [.ref 0, .int x] M (.inl none, M)) ∧ (in32 x 0 (σ 2 - 1) = false → rn X 145 [.ref 0, .int x] M (.inr 0, ak_use M 1 6)) := by
  have s := sk_151 (X := X) hL (v := x) (lo := 0) (hi := ak_I M 65 6 - 1)
  rw [e6] at s
  exact ⟨fun h => t_145 hL _ ⟨_, M, hL, by rw [e6]; exact s, mb_n (by rw [h]; decide) rfl⟩, fun h => t_145 hL _ ⟨_, M, hL, by rw [e6]; exact s, mb_y (by rw [h]; rfl) rfl⟩⟩
theorem ck_147y (hL : ab_lay M) : rn X 147 [.int 1] M (.inl none, M) := t_147 hL _ (mb_n (by decide) rfl)
theorem ck_147n (hL : ab_lay M) : rn X 147 [.int 0] M (.inr 2, ak_use M 1 6) := t_147 hL _ (mb_y rfl rfl)
theorem sk_39 (hL : ab_lay M) (hb : b ∈ ab_fb) (hR : Rb b σ nk nw ne fe M) (hc : ct σ nk nw ne) (hk : k < nk) {j : Nat} (hj : j < 14) : rn X 39 [.ref (b + 6 + k), .int (nI j)] M (.inl (some (.int (kf σ k j))), M) := by
  have hk10 : k < 10 := Nat.lt_of_lt_of_le hk hc.1
  rcases (show j = 0 ∨ j = 1 ∨ j = 2 ∨ j = 3 ∨ j = 4 ∨ j = 5 ∨ j = 6 ∨ j = 7 ∨ j = 8 ∨ j = 9 ∨ j = 10 ∨ j = 11 ∨ j = 12 ∨ j = 13 by omega) with rfl | rfl | rfl | rfl | rfl | rfl | rfl | rfl | rfl | rfl | rfl | rfl | rfl | rfl
  · exact t_39 hL hb hk10 _ (mb_y (by decide) (by rw [hR.kk hk (by decide)]))
  · exact t_39 hL hb hk10 _ (mb_n (by decide) (mb_y (by decide) (by rw [hR.kk hk (by decide)])))
  · exact t_39 hL hb hk10 _ (mb_n (by decide) (mb_n (by decide) (mb_y (by decide) (by rw [hR.kk hk (by decide)]))))
  · exact t_39 hL hb hk10 _ (mb_n (by decide) (mb_n (by decide) (mb_n (by decide) (mb_y (by decide) (by rw [hR.kk hk (by decide)])))))
  · exact t_39 hL hb hk10 _ (mb_n (by decide) (mb_n (by decide) (mb_n (by decide) (mb_n (by decide) (mb_y (by decide) (by rw [hR.kk hk (by decide)]))))))
  · exact t_39 hL hb hk10 _ (mb_n (by decide) (mb_n (by decide) (mb_n (by decide) (mb_n (by decide) (mb_n (by decide) (mb_y (by decide) (by rw [hR.kk hk (by decide)])))))))
  · exact t_39 hL hb hk10 _ (mb_n (by decide) (mb_n (by decide) (mb_n (by decide) (mb_n (by decide) (mb_n (by decide) (mb_n (by decide) (mb_y (by decide) (by rw [hR.kk hk (by decide)]))))))))
  · exact t_39 hL hb hk10 _ (mb_n (by decide) (mb_n (by decide) (mb_n (by decide) (mb_n (by decide) (mb_n (by decide) (mb_n (by decide) (mb_n (by decide) (mb_y (by decide) (by rw [hR.kk hk (by decide)])))))))))
  · exact t_39 hL hb hk10 _ (mb_n (by decide) (mb_n (by decide) (mb_n (by decide) (mb_n (by decide) (mb_n (by decide) (mb_n (by decide) (mb_n (by decide) (mb_n (by decide) (mb_y (by decide) (by rw [hR.kk hk (by decide)]))))))))))
  · exact t_39 hL hb hk10 _ (mb_n (by decide) (mb_n (by decide) (mb_n (by decide) (mb_n (by decide) (mb_n (by decide) (mb_n (by decide) (mb_n (by decide) (mb_n (by decide) (mb_n (by decide) (mb_y (by decide) (by rw [hR.kk hk (by decide)])))))))))))
  · exact t_39 hL hb hk10 _ (mb_n (by decide) (mb_n (by decide) (mb_n (by decide) (mb_n (by decide) (mb_n (by decide) (mb_n (by decide) (mb_n (by decide) (mb_n (by decide) (mb_n (by decide) (mb_n (by decide) (mb_y (by decide) (by rw [hR.kk hk (by decide)]))))))))))))
  · exact t_39 hL hb hk10 _ (mb_n (by decide) (mb_n (by decide) (mb_n (by decide) (mb_n (by decide) (mb_n (by decide) (mb_n (by decide) (mb_n (by decide) (mb_n (by decide) (mb_n (by decide) (mb_n (by decide) (mb_n (by decide) (mb_y (by decide) (by rw [hR.kk hk (by decide)])))))))))))))
  · exact t_39 hL hb hk10 _ (mb_n (by decide) (mb_n (by decide) (mb_n (by decide) (mb_n (by decide) (mb_n (by decide) (mb_n (by decide) (mb_n (by decide) (mb_n (by decide) (mb_n (by decide) (mb_n (by decide) (mb_n (by decide) (mb_n (by decide) (mb_y (by decide) (by rw [hR.kk hk (by decide)]))))))))))))))
  · exact t_39 hL hb hk10 _ (mb_n (by decide) (mb_n (by decide) (mb_n (by decide) (mb_n (by decide) (mb_n (by decide) (mb_n (by decide) (mb_n (by decide) (mb_n (by decide) (mb_n (by decide) (mb_n (by decide) (mb_n (by decide) (mb_n (by decide) (mb_n (by decide) (by rw [hR.kk hk (by decide)]))))))))))))))
def kN (x : Int32) : Nat := x.toNatClampNeg
theorem kN_n {n : Nat} (h : n < 2147483648) : kN (nI n) = n := mi_c h
/-- kite -/
def sp_95 (σ : Nat → Int32) (x w : Int32) : Int32 ⊕ Nat := if mo_isK σ x = true then (if in32 w 0 13 = true then .inl (kf σ (kN x) (kN w)) else .inr 1) else .inr 0
theorem bf {b : Bool} (h : ¬ b = true) : b = false := by cases b <;> first | rfl | exact absurd rfl h
theorem ca_95 (hL : ab_lay M) (hR : Rb 65 σ nk nw ne fe M) (hv : vs σ nk nw ne) (x w : Int32) : ca (cX 65) X 95 [.int x, .int w] M (sp_95 σ x w) := by
  have hc := hv.1
  have h10 := hc.1
  have c0 := ck_144 (X := X) hL hR.2.1.1 (x := x)
  have c1 := ck_146 (X := X) hL (x := w) (lo := 0) (hi := 13)
  unfold sp_95
  by_cases h0 : mo_isK σ x = true
  · rw [if_pos h0]
    by_cases h1 : in32 w 0 13 = true
    · rw [if_pos h1]
      obtain ⟨k, hk, rfl⟩ := (isK_of hc).mp h0
      obtain ⟨j, hj, rfl⟩ := (in_n (a := 13) (by decide)).mp h1
      rw [kN_n (by omega), kN_n (by omega)]
      exact ⟨M, t_95 hL _ _ (Or.inl ⟨M, hL, c0.1 h0, Or.inl ⟨M, hL, c1.1 h1, k, by omega, mb_ix (by omega) (by decide), _, M, hL, sk_39 hL h65 hR hc hk (by omega), rfl⟩⟩), (fr.rf hL).qx⟩
    · rw [if_neg h1]
      exact ⟨_, t_95 hL _ _ (Or.inl ⟨M, hL, c0.1 h0, Or.inr ⟨1, _, c1.2 (bf h1), rfl⟩⟩), (fr.rf hL).ux⟩
  · rw [if_neg h0]
    exact ⟨_, t_95 hL _ _ (Or.inr ⟨0, _, c0.2 (bf h0), rfl⟩), (fr.rf hL).ux⟩
/-- wind -/
def sp_96 (σ : Nat → Int32) (x w : Int32) : Int32 ⊕ Nat := if in32 x 0 (σ 2 - 1) = true then (if in32 w 0 3 = true then .inl (if kN w = 3 then mo_force σ (kN x) else wf σ (kN x) (kN w)) else .inr 1) else .inr 0
theorem isW_of (hc : ct σ nk nw ne) {x : Int32} : in32 x 0 (σ 2 - 1) = true ↔ ∃ k, k < nw ∧ x = nI k := by
  rw [hc.2.2.2.2.1]
  exact in_nk (by have := hc.2.1; omega)
/-- windAt -/
def sp_97 (σ : Nat → Int32) (n : Nat) (x : Int32) : Int32 ⊕ Nat := if in32 x 0 300 = true then .inl (nI (mo_wind σ x n)) else .inr 1
/-- span -/
def sp_98 (σ : Nat → Int32) (x : Int32) : Int32 ⊕ Nat := if mo_isK σ x = true then .inl (if mo_fly σ (kN x) = true then mo_span σ (kN x) else (-1)) else .inr 0
theorem ca_98 (hL : ab_lay M) (hR : Rb 65 σ nk nw ne fe M) (hv : vs σ nk nw ne) (x : Int32) : ca (cX 65) X 98 [.int x] M (sp_98 σ x) := by
  have hc := hv.1
  have h10 := hc.1
  have c0 := ck_144 (X := X) hL hR.2.1.1 (x := x)
  unfold sp_98
  by_cases h0 : mo_isK σ x = true
  · rw [if_pos h0]
    obtain ⟨k, hk, rfl⟩ := (isK_of hc).mp h0
    rw [kN_n (by omega)]
    have e0 := hR.kk hk (w := 0) (by decide)
    unfold mo_fly
    by_cases hf : kf σ k 0 = 0
    · rw [if_pos (decide_eq_true hf)]
      exact ⟨M, t_98 hL _ (Or.inl ⟨M, hL, c0.1 h0, k, by omega, mb_ix (by omega) (by decide), mb_y (e0.trans hf) ⟨_, M, hL, (sk_43 hL h65 hR hc hk (hv.kp hk)).2, rfl⟩⟩), (fr.rf hL).qx⟩
    · rw [if_neg (fun e => hf (of_decide_eq_true e))]
      exact ⟨M, t_98 hL _ (Or.inl ⟨M, hL, c0.1 h0, k, by omega, mb_ix (by omega) (by decide), mb_n (fun e => hf (e0.symm.trans e)) rfl⟩), (fr.rf hL).qx⟩
  · rw [if_neg h0]
    exact ⟨_, t_98 hL _ (Or.inr ⟨0, _, c0.2 (bf h0), rfl⟩), (fr.rf hL).ux⟩
/-- slack -/
def sp_99 (σ : Nat → Int32) (x : Int32) : Int32 ⊕ Nat := if mo_isK σ x = true then (if mo_fly σ (kN x) = true then .inl (mo_slack σ (kN x)) else .inr 2) else .inr 0
theorem ca_99 (hL : ab_lay M) (hR : Rb 65 σ nk nw ne fe M) (hv : vs σ nk nw ne) (x : Int32) : ca (cX 65) X 99 [.int x] M (sp_99 σ x) := by
  have hc := hv.1
  have h10 := hc.1
  have c0 := ck_144 (X := X) hL hR.2.1.1 (x := x)
  unfold sp_99
  by_cases h0 : mo_isK σ x = true
  · rw [if_pos h0]
    obtain ⟨k, hk, rfl⟩ := (isK_of hc).mp h0
    rw [kN_n (by omega)]
    have e0 := hR.kk hk (w := 0) (by decide)
    unfold mo_fly
    by_cases hf : kf σ k 0 = 0
    · rw [if_pos (decide_eq_true hf)]
      exact ⟨M, t_99 hL _ (Or.inl ⟨M, hL, c0.1 h0, k, by omega, mb_ix (by omega) (by decide), mb_y (e0.trans hf) (Or.inl ⟨M, hL, ck_147y hL, _, M, hL, (sk_43 hL h65 hR hc hk (hv.kp hk)).1, rfl⟩)⟩), (fr.rf hL).qx⟩
    · rw [if_neg (fun e => hf (of_decide_eq_true e))]
      exact ⟨_, t_99 hL _ (Or.inl ⟨M, hL, c0.1 h0, k, by omega, mb_ix (by omega) (by decide), mb_n (fun e => hf (e0.symm.trans e)) (Or.inr ⟨2, _, ck_147n hL, rfl⟩)⟩), (fr.rf hL).ux⟩
  · rw [if_neg h0]
    exact ⟨_, t_99 hL _ (Or.inr ⟨0, _, c0.2 (bf h0), rfl⟩), (fr.rf hL).ux⟩
/-- crosses -/
def sp_100 (σ : Nat → Int32) (x y : Int32) : Int32 ⊕ Nat := if mo_isK σ x = true then (if mo_isK σ y = true then .inl (bI (mo_cross σ (kN x) (kN y))) else .inr 0) else .inr 0
theorem ca_100 (hL : ab_lay M) (hR : Rb 65 σ nk nw ne fe M) (hv : vs σ nk nw ne) (x y : Int32) : ca (cX 65) X 100 [.int x, .int y] M (sp_100 σ x y) := by
  have hc := hv.1
  have h10 := hc.1
  have c0 := ck_144 (X := X) hL hR.2.1.1 (x := x)
  have c1 := ck_144 (X := X) hL hR.2.1.1 (x := y)
  unfold sp_100
  by_cases h0 : mo_isK σ x = true
  · rw [if_pos h0]
    by_cases h1 : mo_isK σ y = true
    · rw [if_pos h1]
      obtain ⟨k, hk, rfl⟩ := (isK_of hc).mp h0
      obtain ⟨j, hj, rfl⟩ := (isK_of hc).mp h1
      rw [kN_n (by omega), kN_n (by omega)]
      obtain ⟨M', r, f, -⟩ := sk_13 (X := X) hL h65 hR hc hk hj (hv.kp hk) (hv.kp hj)
      exact ⟨M', t_100 hL _ _ (Or.inl ⟨M, hL, c0.1 h0, Or.inl ⟨M, hL, c1.1 h1, _, M', f.1, r, bI_01 _, rfl⟩⟩), f.qx⟩
    · rw [if_neg h1]
      exact ⟨_, t_100 hL _ _ (Or.inl ⟨M, hL, c0.1 h0, Or.inr ⟨0, _, c1.2 (bf h1), rfl⟩⟩), (fr.rf hL).ux⟩
  · rw [if_neg h0]
    exact ⟨_, t_100 hL _ _ (Or.inr ⟨0, _, c0.2 (bf h0), rfl⟩), (fr.rf hL).ux⟩
/-- crossing -/
def sp_101v (σ : Nat → Int32) (k j : Nat) (w : Int32) : Int32 := if mo_cross σ k j = true then (if w = 0 then mo_cX σ k j else if w = 1 then mo_cY σ k j else if w = 2 then mo_high σ k j else if w = 3 then mo_high σ j k else mo_apart σ k j) else (-1)
def sp_101 (σ : Nat → Int32) (x y w : Int32) : Int32 ⊕ Nat := if mo_isK σ x = true then (if mo_isK σ y = true then (if in32 w 0 4 = true then .inl (sp_101v σ (kN x) (kN y) w) else .inr 1) else .inr 0) else .inr 0
theorem ca_101 (hL : ab_lay M) (hR : Rb 65 σ nk nw ne fe M) (hv : vs σ nk nw ne) (x y w : Int32) : ca (cX 65) X 101 [.int x, .int y, .int w] M (sp_101 σ x y w) := by
  have hc := hv.1
  have h10 := hc.1
  have c0 := ck_144 (X := X) hL hR.2.1.1 (x := x)
  have c1 := ck_144 (X := X) hL hR.2.1.1 (x := y)
  have c2 := ck_146 (X := X) hL (x := w) (lo := 0) (hi := 4)
  unfold sp_101
  by_cases h0 : mo_isK σ x = true
  · rw [if_pos h0]
    by_cases h1 : mo_isK σ y = true
    · rw [if_pos h1]
      by_cases h2 : in32 w 0 4 = true
      · rw [if_pos h2]
        obtain ⟨k, hk, rfl⟩ := (isK_of hc).mp h0
        obtain ⟨j, hj, rfl⟩ := (isK_of hc).mp h1
        rw [kN_n (by omega), kN_n (by omega)]
        obtain ⟨M', r, f, H⟩ := sk_13 (X := X) hL h65 hR hc hk hj (hv.kp hk) (hv.kp hj)
        refine ⟨M', t_101 hL _ _ _ (Or.inl ⟨M, hL, c0.1 h0, Or.inl ⟨M, hL, c1.1 h1, Or.inl ⟨M, hL, c2.1 h2, _, M', f.1, r, ?_⟩⟩⟩), f.qx⟩
        by_cases hcr : mo_cross σ k j = true
        · have H := H hcr
          rw [hcr]
          refine mb_n (by decide) ?_
          by_cases d0 : w = 0
          · have e : sp_101v σ k j w = mo_cX σ k j := by unfold sp_101v; rw [if_pos hcr, if_pos d0]
            refine mb_y d0 ?_
            rw [e, H.1]; rfl
          · refine mb_n d0 ?_
            by_cases d1 : w = 1
            · have e : sp_101v σ k j w = mo_cY σ k j := by unfold sp_101v; rw [if_pos hcr, if_neg d0, if_pos d1]
              refine mb_y d1 ?_
              rw [e, H.2.1]; rfl
            · refine mb_n d1 ?_
              by_cases d2 : w = 2
              · have e : sp_101v σ k j w = mo_high σ k j := by unfold sp_101v; rw [if_pos hcr, if_neg d0, if_neg d1, if_pos d2]
                refine mb_y d2 ?_
                rw [e]
                by_cases hkj : j ≤ k
                · refine mb_y ((mi_le (by omega) (by omega)).mpr hkj) ?_
                  rw [H.2.2.2, Nat.min_eq_right hkj, Nat.max_eq_left hkj]; rfl
                · refine mb_n (fun e => hkj ((mi_le (by omega) (by omega)).mp e)) ?_
                  rw [H.2.2.1, Nat.min_eq_left (by omega), Nat.max_eq_right (by omega)]; rfl
              · refine mb_n d2 ?_
                by_cases d3 : w = 3
                · have e : sp_101v σ k j w = mo_high σ j k := by unfold sp_101v; rw [if_pos hcr, if_neg d0, if_neg d1, if_neg d2, if_pos d3]
                  refine mb_y d3 ?_
                  rw [e]
                  by_cases hkj : j ≤ k
                  · refine mb_y ((mi_le (by omega) (by omega)).mpr hkj) ?_
                    rw [H.2.2.1, Nat.min_eq_right hkj, Nat.max_eq_left hkj]; rfl
                  · refine mb_n (fun e => hkj ((mi_le (by omega) (by omega)).mp e)) ?_
                    rw [H.2.2.2, Nat.min_eq_left (by omega), Nat.max_eq_right (by omega)]; rfl
                · have e : sp_101v σ k j w = mo_apart σ k j := by unfold sp_101v; rw [if_pos hcr, if_neg d0, if_neg d1, if_neg d2, if_neg d3]
                  have s3 := sk_3 (X := X) f.1 h65 H
                  have ea : mo_apart σ (min k j) (max k j) = mo_apart σ k j := by
                    rcases Nat.le_total k j with e | e
                    · rw [Nat.min_eq_left e, Nat.max_eq_right e]
                    · rw [Nat.min_eq_right e, Nat.max_eq_left e, apart_s]
                  rw [ea] at s3
                  rw [e]
                  exact mb_n d3 ⟨_, M', f.1, s3, rfl⟩
        · have e : sp_101v σ k j w = (-1) := by unfold sp_101v; rw [if_neg hcr]
          rw [bf hcr, e]
          exact mb_y rfl rfl
      · rw [if_neg h2]
        exact ⟨_, t_101 hL _ _ _ (Or.inl ⟨M, hL, c0.1 h0, Or.inl ⟨M, hL, c1.1 h1, Or.inr ⟨1, _, c2.2 (bf h2), rfl⟩⟩⟩), (fr.rf hL).ux⟩
    · rw [if_neg h1]
      exact ⟨_, t_101 hL _ _ _ (Or.inl ⟨M, hL, c0.1 h0, Or.inr ⟨0, _, c1.2 (bf h1), rfl⟩⟩), (fr.rf hL).ux⟩
  · rw [if_neg h0]
    exact ⟨_, t_101 hL _ _ _ (Or.inr ⟨0, _, c0.2 (bf h0), rfl⟩), (fr.rf hL).ux⟩
/-- event -/
def sp_104 (σ : Nat → Int32) (x w : Int32) : Int32 ⊕ Nat := if in32 x 0 (σ 9 - 1) = true then (if in32 w 0 5 = true then .inl (ef σ (kN x) (kN w)) else .inr 1) else .inr 0
theorem isE_of (hc : ct σ nk nw ne) {x : Int32} : in32 x 0 (σ 9 - 1) = true ↔ ∃ k, k < ne ∧ x = nI k := by
  rw [hc.2.2.2.2.2]
  exact in_nk (by have := hc.2.2.1; omega)
end SCQ
