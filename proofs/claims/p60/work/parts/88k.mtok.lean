/-- a byte is one of a byte's values -/
def BR (β : Nat → Int32) (n : Nat) : Prop := ∀ j, j < n → in32 (β j) (-128) 127 = true
theorem wd_u : ∀ c, c < 11 → ∀ c', c' < 11 → c ≠ c' → tl c ≠ tl c' ∨ (List.range (tl c)).any (fun i => decide (tb c i ≠ tb c' i)) = true := by decide +kernel
section SMT
variable {X : ak_X} {M : ak_M} {β : Nat → Int32} {n p s c c' : Nat}
theorem wq_u (h : wq β n s c = true) (h' : wq β n s c' = true) (hc : c < 11) (hc' : c' < 11) : c = c' := by
  unfold wq at h h'
  rw [Bool.and_eq_true, Bool.and_eq_true, decide_eq_true_eq, decide_eq_true_eq, mtf_t] at h h'
  by_cases e : c = c'
  · exact e
  · rcases wd_u c hc c' hc' e with u | u
    · exact absurd (h.2.1.symm.trans h'.2.1) u
    · obtain ⟨i, hi, u⟩ := List.any_eq_true.mp u
      rw [List.mem_range] at hi
      rw [decide_eq_true_eq] at u
      have h1 := h.2.1
      exact absurd ((h.2.2 i (Nat.zero_le _) (by omega)).symm.trans (h'.2.2 i (Nat.zero_le _) (by omega))) u
theorem wo_t : wo β n s = some c ↔ c < 11 ∧ wq β n s c = true := by
  refine ⟨fun h => ?_, fun h => ?_⟩
  · have := wof_s 11 0 c h
    exact ⟨by omega, this.2.2⟩
  · cases e : wo β n s with
    | none => exact absurd h.2 (wof_n 11 0 e c (Nat.zero_le _) (by omega))
    | some d =>
      have := wof_s 11 0 d e
      rw [wq_u this.2.2 h.2 (by omega) h.1]
end SMT
