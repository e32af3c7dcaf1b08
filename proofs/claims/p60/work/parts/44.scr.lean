/-! the script, as the law reads it -/
section SGL
variable {X : ak_X} {mi pc n : Nat} {l1 : List (Option Value)} {l2 : List (Nat × Value)} {st : List Value} {M : ak_M} {r : ak_O × ak_M}
theorem w_slen (hL : ab_lay M) (h : am_A mi pc = some .arraylength) (hn : pc + 1 = n) (k : sg X mi (n, l1, l2, .int (Int32.ofNat X.1) :: st) M r) : sg X mi (pc, l1, l2, .ref 1000000 :: st) M r := by
  subst hn
  refine sg_nx ((ak_SA h).trans ?_) k
  simp only [ak_x]
  have h4 : ¬ (@LT.lt Nat _ 1000000 (ak_P M)) := by have := hL.1.2; omega
  have h3 : ak_cK 1000000 = 100 := rfl
  have h5 : ak_cN X 1000000 = X.1 := rfl
  rw [if_neg h4, if_pos ⟨Nat.le_refl _, Or.inl h3⟩, h5]
  rfl
theorem w_sld {i : Nat} {x : Int32} (hL : ab_lay M) (h : am_A mi pc = some .iaload) (hi : ab_ix x i X.1) (hn : pc + 1 = n) (k : sg X mi (n, l1, l2, .int (X.2.1 i) :: st) M r) : sg X mi (pc, l1, l2, .int x :: .ref 1000000 :: st) M r := by
  subst hn
  refine sg_nx ((ak_SA h).trans ?_) k
  simp only [ak_x]
  have h4 : ¬ (@LT.lt Nat _ 1000000 (ak_P M)) := by have := hL.1.2; omega
  have h3 : ak_cK 1000000 = 100 := rfl
  have h5 : ak_cN X 1000000 = X.1 := rfl
  rw [if_neg h4, if_pos ⟨Nat.le_refl _, h3, by rw [h5]; exact hi.1⟩, hi.2]
  rfl
end SGL
