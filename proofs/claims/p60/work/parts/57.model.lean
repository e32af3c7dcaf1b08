/-! the model's runs: drifting, a tick, ticks -/
section SGW1
variable {X : ak_X} {M : ak_M} {nk nw ne : Nat}
theorem bool_n (b : Bool) : vp_nar .boolean (bI b) = bI b := by cases b <;> rfl
/-- a run of the model's ticks -/
def mt (M : ak_M) (σ : Nat → Int32) (M' : ak_M) : Prop := fr mo_tt M M' ∧ ro M' = σ
theorem mt.tr {M M1 M2 : ak_M} {σ τ : Nat → Int32} (a : mt M σ M1) (b : mt M1 τ M2) : mt M τ M2 := ⟨a.1.tr b.1, b.2⟩
end SGW1
