/-! the model's runs of a tick -/
def mo_tr (p k : Nat) : Prop := mo_tk p k ∨ (490 ≤ p ∧ p ≤ 493)
def mo_tt (p k : Nat) : Prop := mo_tk p k ∨ (490 ≤ p ∧ p ≤ 494)
theorem tk_tr {p k : Nat} (h : mo_tk p k) : mo_tr p k := Or.inl h
theorem tr_tt {p k : Nat} (h : mo_tr p k) : mo_tt p k := by
  rcases h with h | h
  · exact Or.inl h
  · exact Or.inr ⟨h.1, by omega⟩
theorem tk_r {p : Nat} (h : 490 ≤ p) : ∀ k, ¬ mo_tk p k := by
  intro k h2
  rcases h2 with h2 | h2
  · omega
  · have := h2.1; omega
theorem tr_r : ∀ k, ¬ mo_tr 494 k := by
  intro k h2
  rcases h2 with h2 | h2
  · exact tk_r (by decide) k h2
  · omega
/-- what the first pass over the lines found -/
def ar (σ : Nat → Int32) (n : Nat) (M : ak_M) (i : Nat) : Prop := ∀ j, j < i → ak_I M 490 j = mo_wear σ j n ∧ ak_I M 491 j = oI (mo_threat σ j n) ∧ ∀ b, mo_threat σ j n = some b → ak_I M 492 j = mo_cX σ j b ∧ ak_I M 493 j = mo_cY σ j b
theorem ar_fr {σ : Nat → Int32} {n i : Nat} {M M' : ak_M} (h : ar σ n M i) (f : fr mo_tk M M') : ar σ n M' i := by
  intro j hj
  rw [f.row (tk_r (by decide)), f.row (tk_r (by decide)), f.row (tk_r (by decide)), f.row (tk_r (by decide))]
  exact h j hj
section SGV
variable {X : ak_X} {M : ak_M} {nk nw ne : Nat}
theorem rub_cross {σ : Nat → Int32} {k o : Nat} (h : mo_rub σ k o = true) : mo_cross σ k o = true := by
  unfold mo_rub at h
  rw [Bool.and_eq_true] at h
  exact h.1
end SGV
