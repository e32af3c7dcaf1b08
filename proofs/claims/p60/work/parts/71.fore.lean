/-! the class's forecasts -/
def mo_is (p k o : Nat) (σ : Nat → Int32) : Bool := if p = 0 then !(mo_held σ k) else if p = 1 then (!(mo_fly σ k) && !(decide (kf σ k 0 = 2))) else mo_cross σ k o
/-- the first time of so many that it is so -/
def mo_fst (p : (Nat → Int32) → Bool) (n : Nat) : Nat → Nat → (Nat → Int32) → Int32
  | 0, _, _ => (-1)
  | d + 1, i, σ => if p σ = true then nI i else if σ 0 < 5000 then mo_fst p n d (i + 1) (mo_tick σ n) else (-1)
def yJ (j : Nat) : Int32 := nI j - 9
/-- the best of the values so far -/
def mo_rf (z : Int32) (v : Nat → Int32) : Nat → Int32 × Int32
  | 0 => (z, 0)
  | j + 1 => if j = 0 ∨ (mo_rf z v j).2 < v j then (yJ j, v j) else mo_rf z v j
theorem mo_rf_s (z : Int32) (v : Nat → Int32) (j : Nat) : mo_rf z v (j + 1) = if j = 0 ∨ (mo_rf z v j).2 < v j then (yJ j, v j) else mo_rf z v j := rfl
theorem rf_z (z z' : Int32) (v : Nat → Int32) : ∀ j, mo_rf z v (j + 1) = mo_rf z' v (j + 1)
  | 0 => by rw [mo_rf_s, mo_rf_s, if_pos (Or.inl rfl), if_pos (Or.inl rfl)]
  | j + 1 => by rw [mo_rf_s, mo_rf_s z', rf_z z z' v j]
theorem yJ_f : ∀ j, j < 19 → ¬ 9 < yJ j ∧ (yJ j = (-9) ↔ j = 0) ∧ (yJ j ≤ (-9) ↔ j = 0) ∧ in32 (yJ j) (-9) 9 = true ∧ yJ j + 1 = yJ (j + 1) := by decide +kernel
section SFO
variable {X : ak_X} {M : ak_M} {b k o nk nw ne fe : Nat} {σ τ : Nat → Int32} {p q : (Nat → Int32) → Bool}
theorem fst_t {n d i : Nat} (h : p σ = false) : mo_fst p n (d + 1) i σ = mo_fst p n d (i + 1) (mo_ts σ n 1) := by
  unfold mo_ts
  by_cases c : σ 0 < 5000
  · rw [if_pos c]
    show (if p σ = true then _ else _) = _
    rw [h, if_neg (by decide), if_pos c]
    rfl
  · rw [if_neg c]
    show (if p σ = true then _ else _) = _
    rw [h, if_neg (by decide), if_neg c]
    cases d with
    | zero => rfl
    | succ d =>
      show _ = (if p σ = true then _ else _)
      rw [h, if_neg (by decide), if_neg c]
theorem fst_v {n : Nat} : ∀ d i (σ : Nat → Int32), mo_fst p n d i σ = (-1) ∨ ∃ j, i ≤ j ∧ j < i + d ∧ mo_fst p n d i σ = nI j
  | 0, _, _ => Or.inl rfl
  | d + 1, i, σ => by
    unfold mo_fst
    split
    · exact Or.inr ⟨i, Nat.le_refl _, by omega, rfl⟩
    · split
      · rcases fst_v d (i + 1) (mo_tick σ n) with e | ⟨j, h1, h2, e⟩
        · exact Or.inl e
        · exact Or.inr ⟨j, by omega, by omega, e⟩
      · exact Or.inl rfl
theorem fst_y {n d i : Nat} (h : p σ = true) : mo_fst p n (d + 1) i σ = nI i := by
  unfold mo_fst
  rw [if_pos h]
/-- who of two is lost first -/
def mo_dv (x y f g : Int32) : Int32 := if f = g then (-1) else if g = (-1) then x else if f = (-1) then y else if g ≤ f then y else x
/-! a kite in hand is in hand, down or cut a tick later -/
def P0 (k : Nat) (τ : Nat → Int32) : Prop := kf τ k 0 = 0 ∨ kf τ k 0 = 1 ∨ kf τ k 0 = 2
theorem P0_c {τ u : Nat → Int32} (h : P0 k τ) (e : kf u k 0 = kf τ k 0) : P0 k u := by unfold P0; rw [e]; exact h
theorem k0_lay {i w : Nat} {v : Int32} (hw : w < 15) (h0 : w ≠ 0) : kf (lay τ i w v) k 0 = kf τ k 0 := kf_n hw (by decide) (by omega)
theorem k0_lo {i : Nat} {v : Int32} (h : k ≠ i) : kf (lay τ i 0 v) k 0 = kf τ k 0 := kf_n (by decide) (by decide) (by omega)
theorem k0_pl {i : Nat} : ∀ (n : Nat) {τ : Nat → Int32}, kf (mo_pl τ i n) k 0 = kf τ k 0
  | 0, _ => rfl
  | n + 1, τ => by
    unfold mo_pl
    split
    · rfl
    · rw [k0_pl n]
      unfold mo_p1
      split
      · exact k0_lay (by decide) (by decide)
      · split <;> exact k0_lay (by decide) (by decide)
theorem k0_bs {i : Nat} : kf (mo_sink (mo_blow τ i) i) k 0 = kf τ k 0 := (k0_lay (by decide) (by decide)).trans ((k0_lay (by decide) (by decide)).trans (k0_lay (by decide) (by decide)))
theorem P0_goes {i : Nat} (hk : k < 10) (h : P0 k τ) : P0 k (mo_goes τ i) := by
  have e : kf (mo_pl (mo_g2 (mo_blow (mo_g1 τ i) i) i) i 1000) k 0 = kf τ k 0 := by
    rw [k0_pl]
    have e2 : kf (mo_blow (mo_g1 τ i) i) k 0 = kf τ k 0 := (k0_lay (by decide) (by decide)).trans ((k0_lay (by decide) (by decide)).trans (k0_lay (by decide) (by decide)))
    unfold mo_g2
    split
    · exact (k0_lay (by decide) (by decide)).trans e2
    · exact (k0_lay (by decide) (by decide)).trans e2
  unfold mo_goes mo_g3
  generalize mo_pl (mo_g2 (mo_blow (mo_g1 τ i) i) i) i 1000 = u at *
  split
  · by_cases c : k = i
    · subst c
      exact Or.inr (Or.inl ((hap_kf hk (by decide)).trans kf_s))
    · exact P0_c h ((hap_kf hk (by decide)).trans ((k0_lo c).trans e))
  · exact P0_c h e
theorem P0_tick (hk : k < 10) (n : Nat) (h : mo_held σ k = true) : P0 k (mo_tick σ n) := by
  have h0 : P0 k σ := by
    unfold mo_held at h
    rw [Bool.or_eq_true, decide_eq_true_eq, decide_eq_true_eq] at h
    rcases h with h | h
    · exact Or.inl h
    · exact Or.inr (Or.inl h)
  have hd : (decide (kf σ k 0 = 2)) = false := by
    unfold mo_held at h
    rw [Bool.or_eq_true, decide_eq_true_eq, decide_eq_true_eq] at h
    rcases h with h | h <;> rw [h] <;> decide
  have h1 : ∀ i, P0 k (mo_fls σ i) := by
    intro i
    induction i with
    | zero => exact h0
    | succ i ih =>
      rw [mo_fls_s]
      split
      · exact P0_goes hk ih
      · exact ih
  have h2 : ∀ i, P0 k (mo_cuts (mo_fls σ n) n i) := by
    intro i
    induction i with
    | zero => exact h1 n
    | succ i ih =>
      show P0 k (mo_cut1 (mo_fls σ n) (mo_cuts (mo_fls σ n) n i) n i)
      generalize mo_cuts (mo_fls σ n) n i = u at *
      generalize mo_fls σ n = ρ
      have k1 : P0 k (lay u i 10 (kf u i 10 + mo_wear ρ i n)) := P0_c ih (k0_lay (by decide) (by decide))
      unfold mo_cut1
      cases ht : mo_threat ρ i n with
      | none => exact k1
      | some b =>
        dsimp only
        generalize lay u i 10 (kf u i 10 + mo_wear ρ i n) = ψ at *
        split
        · unfold mo_cutb
          by_cases c : k = i
          · subst c
            exact Or.inr (Or.inr ((hap_kf hk (by decide)).trans ((up_n (by omega)).trans ((k0_lay (by decide) (by decide)).trans ((k0_lay (by decide) (by decide)).trans kf_s)))))
          · exact P0_c k1 ((hap_kf hk (by decide)).trans ((up_n (by omega)).trans ((k0_lay (by decide) (by decide)).trans ((k0_lay (by decide) (by decide)).trans (k0_lo c)))))
        · exact k1
  have h3 : ∀ i, P0 k (mo_drs (fun j => decide (kf σ j 0 = 2)) (mo_cuts (mo_fls σ n) n n) i) := by
    intro i
    induction i with
    | zero => exact h2 n
    | succ i ih =>
      show P0 k (mo_dr1 (fun j => decide (kf σ j 0 = 2)) (mo_drs (fun j => decide (kf σ j 0 = 2)) (mo_cuts (mo_fls σ n) n n) i) i)
      generalize mo_drs (fun j => decide (kf σ j 0 = 2)) (mo_cuts (mo_fls σ n) n n) i = u at *
      unfold mo_dr1
      by_cases c : k = i
      · subst c
        rw [if_neg (show ¬ decide (kf σ k 0 = 2) = true by rw [hd]; decide)]
        exact ih
      · split
        · split
          · exact P0_c ih ((hap_kf hk (by decide)).trans ((k0_lo c).trans k0_bs))
          · exact P0_c ih k0_bs
        · exact ih
  have h4 : ∀ i, P0 k (mo_pks (mo_drs (fun j => decide (kf σ j 0 = 2)) (mo_cuts (mo_fls σ n) n n) n) n i) := by
    intro i
    induction i with
    | zero => exact h3 n
    | succ i ih =>
      show P0 k (mo_pk1 (mo_pks (mo_drs (fun j => decide (kf σ j 0 = 2)) (mo_cuts (mo_fls σ n) n n) n) n i) n i)
      generalize mo_pks (mo_drs (fun j => decide (kf σ j 0 = 2)) (mo_cuts (mo_fls σ n) n n) n) n i = u at *
      unfold mo_pk1
      split
      · rename_i h3
        have c : k ≠ i := by
          intro c
          subst c
          rcases ih with e | e | e <;> rw [h3] at e <;> exact absurd e (by decide)
        cases (mo_pkr u (kf u i 1) (kf u i 2) (nI i) n).1 with
        | none => exact ih
        | some b =>
          exact P0_c ih ((hap_kf hk (by decide)).trans ((k0_lay (by decide) (by decide)).trans ((k0_lay (by decide) (by decide)).trans (k0_lo c))))
      · exact ih
  exact P0_c (h4 n) (up_n (by omega))
theorem is0_tick (hk : k < 10) (n : Nat) (h : mo_is 0 k o σ = false) : mo_is 0 k o (mo_tick σ n) = decide (kf (mo_tick σ n) k 0 = 2) := by
  have hh : mo_held σ k = true := by
    unfold mo_is at h
    rw [if_pos rfl] at h
    cases g : mo_held σ k
    · rw [g] at h; cases h
    · rfl
  have := P0_tick hk n hh
  unfold mo_is mo_held
  rw [if_pos rfl]
  rcases this with e | e | e <;> rw [e] <;> rfl
theorem in_r {a : Nat} (ha : a ≤ 100000) {x : Int32} (h : in32 x 1 (nI a) = true) : ∃ m, 1 ≤ m ∧ m ≤ a ∧ x = nI m := by
  rw [in32_t, mi_t (by omega), show (1 : Int32).toInt = 1 from rfl] at h
  exact ⟨x.toInt.toNat, by omega, by omega, mi_of (by omega)⟩
theorem c97 {τM : ak_M} (f : fr (cS 97) M τM) (hR : Rb 65 σ nk nw ne fe M) (hc : ct σ nk nw ne) : Rb 65 σ nk nw ne fe τM := hR.fr hc f fun p k h => by unfold cS at h; omega
theorem h97 : 97 ∈ ab_fb := by decide
end SFO
