/-! the law's helpers of changes -/
def kw (M : ak_M) (ρ : Nat → Nat → Int32) (n nk nw : Nat) (τ : Nat → Int32) (M1 : ak_M) : Prop := ∃ ne fe f, wf2 cZ M M1 ∧ Rb 65 τ nk nw ne fe M1 ∧ vs τ nk nw ne ∧ Hc ρ n f nk nw M1 ∧ ak_C M1 ≤ ak_C M + 3 ∧ ak_Z M1 ≤ ak_Z M + 12
def hk (X : ak_X) (k : Nat) (as : List Value) (M : ak_M) (ρ : Nat → Nat → Int32) (n nk nw : Nat) (σ : Nat → Int32) (cd : Nat → Int32) (o : Int32 × (Nat → Int32) ⊕ Nat) : Prop := match o with
  | .inl (v, τ) => ∃ M1, rn X k as M (.inl (some (.int 0)), M1) ∧ kw M (psh ρ n σ) (pn n) nk nw τ M1 ∧ ak_L M1 497 0 = v.toInt64
  | .inr E => ∃ M1, rn X k as M (.inl (some (.int (cd E))), M1) ∧ fy (cX 65) M M1
section SHK
variable {X : ak_X} {M M' : ak_M} {o : Int32 × (Nat → Int32) ⊕ Nat} {x1 x2 x3 : Int32} {ρ : Nat → Nat → Int32} {n nk nw : Nat} {σ : Nat → Int32}
theorem kw_L {τ : Nat → Int32} (h : ck M ρ n nk nw τ M') (v : Int64) : kw M ρ n nk nw τ (ak_sL M' 497 0 v) := by
  obtain ⟨ne, fe, f, g1, g2, g3, g4⟩ := h
  exact ⟨ne, fe, f, ⟨g1.1, g1.2.1⟩, g2, g3, g4, by show ak_C M' ≤ _; rw [g1.2.2.2.2.1]; omega, by show ak_Z M' ≤ _; rw [g1.2.2.2.2.2]; omega⟩
theorem hk_352 (hL : ab_lay M) (h : cc X 128 [.int x1] M ρ n nk nw σ o) (hE : ∀ E, o = .inr E → E = 1 ∨ E = 2) : hk X 352 [.ref 0, .int x1, .ref 497] M ρ n nk nw σ (cdI 1) o := by
  cases o with
  | inl p =>
    obtain ⟨v, τ⟩ := p
    obtain ⟨M0, r0, k0⟩ := h
    exact ⟨_, t_352 hL _ (Or.inl ⟨v, M0, k0.L, r0, rfl⟩), kw_L k0 _, sL_0 _ _⟩
  | inr E =>
    obtain ⟨M0, r0, f0⟩ := h
    rcases hE E rfl with e | e <;> subst e
    · exact ⟨_, t_352 hL _ (Or.inr (Or.inl ⟨M0, f0.1, r0, rfl⟩)), fy_u f0⟩
    · exact ⟨_, t_352 hL _ (Or.inr (Or.inr ⟨M0, f0.1, r0, rfl⟩)), fy_u f0⟩
theorem hk_353 (hL : ab_lay M) (h : cc X 129 [.int x1] M ρ n nk nw σ o) (hE : ∀ E, o = .inr E → E = 0 ∨ E = 2) : hk X 353 [.ref 0, .int x1, .ref 497] M ρ n nk nw σ (cdI 0) o := by
  cases o with
  | inl p =>
    obtain ⟨v, τ⟩ := p
    obtain ⟨M0, r0, k0⟩ := h
    exact ⟨_, t_353 hL _ (Or.inl ⟨v, M0, k0.L, r0, rfl⟩), kw_L k0 _, sL_0 _ _⟩
  | inr E =>
    obtain ⟨M0, r0, f0⟩ := h
    rcases hE E rfl with e | e <;> subst e
    · exact ⟨_, t_353 hL _ (Or.inr (Or.inl ⟨M0, f0.1, r0, rfl⟩)), fy_u f0⟩
    · exact ⟨_, t_353 hL _ (Or.inr (Or.inr ⟨M0, f0.1, r0, rfl⟩)), fy_u f0⟩
theorem hk_354 (hL : ab_lay M) (h : cc X 130 [.int x1, .int x2] M ρ n nk nw σ o) (hE : ∀ E, o = .inr E → E = 0 ∨ E = 1) : hk X 354 [.ref 0, .int x1, .int x2, .ref 497] M ρ n nk nw σ (cdI 0) o := by
  cases o with
  | inl p =>
    obtain ⟨v, τ⟩ := p
    obtain ⟨M0, r0, k0⟩ := h
    exact ⟨_, t_354 hL _ _ (Or.inl ⟨v, M0, k0.L, r0, rfl⟩), kw_L k0 _, sL_0 _ _⟩
  | inr E =>
    obtain ⟨M0, r0, f0⟩ := h
    rcases hE E rfl with e | e <;> subst e
    · exact ⟨_, t_354 hL _ _ (Or.inr (Or.inl ⟨M0, f0.1, r0, rfl⟩)), fy_u f0⟩
    · exact ⟨_, t_354 hL _ _ (Or.inr (Or.inr ⟨M0, f0.1, r0, rfl⟩)), fy_u f0⟩
theorem hk_355 (hL : ab_lay M) (h : cc X 131 [.int x1] M ρ n nk nw σ o) (hE : ∀ E, o = .inr E → E = 0 ∨ E = 2) : hk X 355 [.ref 0, .int x1, .ref 497] M ρ n nk nw σ (cdI 0) o := by
  cases o with
  | inl p =>
    obtain ⟨v, τ⟩ := p
    obtain ⟨M0, r0, k0⟩ := h
    exact ⟨_, t_355 hL _ (Or.inl ⟨v, M0, k0.L, r0, rfl⟩), kw_L k0 _, sL_0 _ _⟩
  | inr E =>
    obtain ⟨M0, r0, f0⟩ := h
    rcases hE E rfl with e | e <;> subst e
    · exact ⟨_, t_355 hL _ (Or.inr (Or.inl ⟨M0, f0.1, r0, rfl⟩)), fy_u f0⟩
    · exact ⟨_, t_355 hL _ (Or.inr (Or.inr ⟨M0, f0.1, r0, rfl⟩)), fy_u f0⟩
theorem hk_356 (hL : ab_lay M) (h : cc X 132 [.int x1, .int x2] M ρ n nk nw σ o) (hE : ∀ E, o = .inr E → E = 0 ∨ E = 1 ∨ E = 2) : hk X 356 [.ref 0, .int x1, .int x2, .ref 497] M ρ n nk nw σ cd3 o := by
  cases o with
  | inl p =>
    obtain ⟨v, τ⟩ := p
    obtain ⟨M0, r0, k0⟩ := h
    exact ⟨_, t_356 hL _ _ (Or.inl ⟨v, M0, k0.L, r0, rfl⟩), kw_L k0 _, sL_0 _ _⟩
  | inr E =>
    obtain ⟨M0, r0, f0⟩ := h
    rcases hE E rfl with e | e | e <;> subst e
    · exact ⟨_, t_356 hL _ _ (Or.inr (Or.inl ⟨M0, f0.1, r0, rfl⟩)), fy_u f0⟩
    · exact ⟨_, t_356 hL _ _ (Or.inr (Or.inr (Or.inl ⟨M0, f0.1, r0, rfl⟩))), fy_u f0⟩
    · exact ⟨_, t_356 hL _ _ (Or.inr (Or.inr (Or.inr ⟨M0, f0.1, r0, rfl⟩))), fy_u f0⟩
theorem hk_357 (hL : ab_lay M) (h : cc X 133 [.int x1, .int x2, .int x3] M ρ n nk nw σ o) (hE : ∀ E, o = .inr E → E = 0 ∨ E = 1) : hk X 357 [.ref 0, .int x1, .int x2, .int x3, .ref 497] M ρ n nk nw σ (cdI 0) o := by
  cases o with
  | inl p =>
    obtain ⟨v, τ⟩ := p
    obtain ⟨M0, r0, k0⟩ := h
    exact ⟨_, t_357 hL _ _ _ (Or.inl ⟨v, M0, k0.L, r0, rfl⟩), kw_L k0 _, sL_0 _ _⟩
  | inr E =>
    obtain ⟨M0, r0, f0⟩ := h
    rcases hE E rfl with e | e <;> subst e
    · exact ⟨_, t_357 hL _ _ _ (Or.inr (Or.inl ⟨M0, f0.1, r0, rfl⟩)), fy_u f0⟩
    · exact ⟨_, t_357 hL _ _ _ (Or.inr (Or.inr ⟨M0, f0.1, r0, rfl⟩)), fy_u f0⟩
theorem hk_358 (hL : ab_lay M) (h : cc X 134 [.int x1, .int x2, .int x3] M ρ n nk nw σ o) (hE : ∀ E, o = .inr E → E = 0 ∨ E = 1 ∨ E = 2) : hk X 358 [.ref 0, .int x1, .int x2, .int x3, .ref 497] M ρ n nk nw σ cd3 o := by
  cases o with
  | inl p =>
    obtain ⟨v, τ⟩ := p
    obtain ⟨M0, r0, k0⟩ := h
    exact ⟨_, t_358 hL _ _ _ (Or.inl ⟨v, M0, k0.L, r0, rfl⟩), kw_L k0 _, sL_0 _ _⟩
  | inr E =>
    obtain ⟨M0, r0, f0⟩ := h
    rcases hE E rfl with e | e | e <;> subst e
    · exact ⟨_, t_358 hL _ _ _ (Or.inr (Or.inl ⟨M0, f0.1, r0, rfl⟩)), fy_u f0⟩
    · exact ⟨_, t_358 hL _ _ _ (Or.inr (Or.inr (Or.inl ⟨M0, f0.1, r0, rfl⟩))), fy_u f0⟩
    · exact ⟨_, t_358 hL _ _ _ (Or.inr (Or.inr (Or.inr ⟨M0, f0.1, r0, rfl⟩))), fy_u f0⟩
theorem hk_359 (hL : ab_lay M) (h : cc X 135 [.int x1, .int x2, .int x3] M ρ n nk nw σ o) (hE : ∀ E, o = .inr E → E = 0 ∨ E = 1) : hk X 359 [.ref 0, .int x1, .int x2, .int x3, .ref 497] M ρ n nk nw σ (cdI 0) o := by
  cases o with
  | inl p =>
    obtain ⟨v, τ⟩ := p
    obtain ⟨M0, r0, k0⟩ := h
    exact ⟨_, t_359 hL _ _ _ (Or.inl ⟨v, M0, k0.L, r0, rfl⟩), kw_L k0 _, sL_0 _ _⟩
  | inr E =>
    obtain ⟨M0, r0, f0⟩ := h
    rcases hE E rfl with e | e <;> subst e
    · exact ⟨_, t_359 hL _ _ _ (Or.inr (Or.inl ⟨M0, f0.1, r0, rfl⟩)), fy_u f0⟩
    · exact ⟨_, t_359 hL _ _ _ (Or.inr (Or.inr ⟨M0, f0.1, r0, rfl⟩)), fy_u f0⟩
theorem hk_360 (hL : ab_lay M) (h : cc X 136 [.int x1, .int x2] M ρ n nk nw σ o) (hE : ∀ E, o = .inr E → E = 1) : hk X 360 [.ref 0, .int x1, .int x2, .ref 497] M ρ n nk nw σ (cdI 1) o := by
  cases o with
  | inl p =>
    obtain ⟨v, τ⟩ := p
    obtain ⟨M0, r0, k0⟩ := h
    exact ⟨_, t_360 hL _ _ (Or.inl ⟨v, M0, k0.L, r0, rfl⟩), kw_L k0 _, sL_0 _ _⟩
  | inr E =>
    obtain ⟨M0, r0, f0⟩ := h
    have e := hE E rfl
    subst e
    exact ⟨_, t_360 hL _ _ (Or.inr ⟨M0, f0.1, r0, rfl⟩), fy_u f0⟩
end SHK
section SHF
variable {σ : Nat → Int32} {n E : Nat} {x v a b c t s : Int32}
theorem e_sc_128 : sc_128 σ n t = .inr E → E = 1 ∨ E = 2 := by
  unfold sc_128
  repeat' split
  all_goals (intro h; cases h <;> decide)
theorem e_sc_129 : sc_129 σ x = .inr E → E = 0 ∨ E = 2 := by
  unfold sc_129
  repeat' split
  all_goals (intro h; cases h <;> decide)
theorem e_sc_130 : sc_130 σ x v = .inr E → E = 0 ∨ E = 1 := by
  unfold sc_130
  repeat' split
  all_goals (intro h; cases h <;> decide)
theorem e_sc_131 : sc_131 σ x = .inr E → E = 0 ∨ E = 2 := by
  unfold sc_131
  repeat' split
  all_goals (intro h; cases h <;> decide)
theorem e_sc_132 : sc_132 σ x v = .inr E → E = 0 ∨ E = 1 ∨ E = 2 := by
  unfold sc_132
  repeat' split
  all_goals (intro h; cases h <;> decide)
theorem e_sc_133 : sc_133 σ x a b = .inr E → E = 0 ∨ E = 1 := by
  unfold sc_133
  repeat' split
  all_goals (intro h; cases h <;> decide)
theorem e_sc_134 : sc_134 σ x s t = .inr E → E = 0 ∨ E = 1 ∨ E = 2 := by
  unfold sc_134
  repeat' split
  all_goals (intro h; cases h <;> decide)
theorem e_sc_135 : sc_135 σ x a c = .inr E → E = 0 ∨ E = 1 := by
  unfold sc_135
  repeat' split
  all_goals (intro h; cases h <;> decide)
theorem e_sc_136 : sc_136 σ x v = .inr E → E = 1 := by
  unfold sc_136
  repeat' split
  all_goals (intro h; cases h <;> decide)
end SHF
