/-! the model's questions -/
def to (M : ak_M) (c : Int32) : ak_M := ak_sI M 483 0 c
def mo_q1 (p k : Nat) : Prop := p = 483 ∧ (k = 0 ∨ k = 9 ∨ k = 10)
theorem pq_q1 {p k : Nat} (h : mo_pq p k) : mo_q1 p k := ⟨h.1, Or.inr h.2⟩
theorem q1_ro : ∀ k, ¬ mo_q1 484 k := fun _ h => absurd h.1 (by decide)
theorem q1_r {p : Nat} (h : p ≠ 483) : ∀ k, ¬ mo_q1 p k := fun _ e => h e.1
/-- what the model tells of what was thrown -/
def tc (cd : Nat → Int32) (o : Int32 ⊕ Nat) : Int32 := match o with | .inl _ => 0 | .inr E => cd E
/-- the first of the exceptions told has the code 1, another one 2 -/
def cdI (a : Nat) (E : Nat) : Int32 := if E = a then 1 else 2
/-- a call of the model: what it comes to -/
def cm (S : Nat → Nat → Prop) (X : ak_X) (k : Nat) (as : List Value) (M : ak_M) (cd : Nat → Int32) (o : Int32 ⊕ Nat) : Prop := ∃ M' v, rn X k (.ref 483 :: as) M (.inl (some (.int v)), M') ∧ fr S M M' ∧ ak_I M' 483 0 = tc cd o ∧ ∀ w, o = .inl w → v = w
section SMQ
variable {X : ak_X} {M : ak_M} {nk nw ne : Nat} {σ : Nat → Int32}
theorem to_f (hL : ab_lay M) (c : Int32) : fr mo_q1 M (to M c) := (fr.rf hL).st ⟨rfl, Or.inl rfl⟩
theorem to_r (c : Int32) : ro (to M c) = ro M := mb_sIr (by decide)
theorem to_0 (c : Int32) : ak_I (to M c) 483 0 = c := mb_sIs
theorem to_L (hL : ab_lay M) (c : Int32) : ab_lay (to M c) := hL.sI
/-- with the answer and what was told last -/
theorem cm_v {S : Nat → Nat → Prop} {k : Nat} {as : List Value} {cd : Nat → Int32} {M' : ak_M} {w : Int32} (h : rn X k (.ref 483 :: as) M (.inl (some (.int w)), M')) (f : fr S M M') (t : ak_I M' 483 0 = 0) : cm S X k as M cd (.inl w) := ⟨M', w, h, f, t, fun _ e => by cases e; rfl⟩
theorem cm_e {S : Nat → Nat → Prop} {k : Nat} {as : List Value} {cd : Nat → Int32} {M' : ak_M} {E : Nat} {w : Int32} (h : rn X k (.ref 483 :: as) M (.inl (some (.int w)), M')) (f : fr S M M') (t : ak_I M' 483 0 = cd E) : cm S X k as M cd (.inr E) := ⟨M', w, h, f, t, fun _ e => by cases e⟩
theorem by1 {b : Bool} (h : b = true) : ¬ bI b = 0 := by rw [h]; decide
theorem bn1 {b : Bool} (h : ¬ b = true) : bI b = 0 := by rw [bf h]; rfl
theorem and_2 {a b : Bool} : (a && b) = true ↔ a = true ∧ b = true := by rw [Bool.and_eq_true]
end SMQ
