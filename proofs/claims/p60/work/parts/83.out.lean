/-! what is printed: bytes and numbers -/
def Oc1 (l : List Int32) (M : ak_M) : Prop := Oc (fun j => l.getD j 0) l.length M
def Om1 (l : List Int32) (M : ak_M) : Prop := Om (fun j => l.getD j 0) l.length M
def by8 (x : Int32) : Int32 := vp_nar .byte (x.toInt8.toInt32)
def cO (p k : Nat) : Prop := p = 4 ∨ (p = 3 ∧ k = 1)
def mo_ou (p k : Nat) : Prop := p = 496 ∨ (p = 483 ∧ k = 28)
theorem gd_ap (l : List Int32) (v : Int32) (j : Nat) (h : j < (l ++ [v]).length) : (l ++ [v]).getD j 0 = if j = l.length then v else l.getD j 0 := by
  rw [List.length_append, List.length_singleton] at h
  by_cases c : j = l.length
  · subst c; simp
  · rw [if_neg c]
    have : j < l.length := by omega
    simp [List.getElem?_append_left this]
theorem mi_div {a b : Nat} (ha : a < 2147483648) (hb : b < 2147483648) : nI a / nI b = nI (a / b) := by
  refine mi_of ?_
  rw [j3_div (by rw [mi_t ha]; omega), mi_t ha, mi_t hb]
  exact (Int.ofNat_tdiv a b).symm
theorem mi_sbn {a b : Nat} (h : b ≤ a) : nI a - nI b = nI (a - b) := by
  have e : nI a = nI (a - b) + nI b := by rw [mi_add, Nat.sub_add_cancel h]
  rw [e, Int32.add_sub_cancel]
theorem mi_mod {a : Nat} (ha : a < 2147483648) : nI a - nI a / 10 * 10 = nI (a % 10) := by
  rw [show (10 : Int32) = nI 10 from rfl, mi_div ha (by decide), mi_mul, mi_sbn (by omega)]
  congr 1
  omega
section SOU
variable {X : ak_X} {M M' : ak_M} {l : List Int32} {n : Nat}
/-- a digit -/
def dg (d : Nat) : Int32 := by8 (48 + nI d)
/-- a number to 9999, printed -/
def dgs (n : Nat) : List Int32 := if n ≤ 9 then [dg (n % 10)] else if n ≤ 99 then [dg (n / 10 % 10), dg (n % 10)] else if n ≤ 999 then [dg (n / 100 % 10), dg (n / 10 % 10), dg (n % 10)] else [dg (n / 1000 % 10), dg (n / 100 % 10), dg (n / 10 % 10), dg (n % 10)]
theorem dgs_le (n : Nat) : (dgs n).length ≤ 4 := by
  unfold dgs
  split
  · exact (by decide : 1 ≤ 4)
  · split
    · exact (by decide : 2 ≤ 4)
    · split
      · exact (by decide : 3 ≤ 4)
      · exact (by decide : 4 ≤ 4)
theorem dgs_s (h : 9 < n) (hn : n ≤ 9999) : dgs n = dgs (n / 10) ++ [dg (n % 10)] := by
  have e1 : n / 10 / 10 = n / 100 := by omega
  have e2 : n / 10 / 100 = n / 1000 := by omega
  unfold dgs
  rw [if_neg (show ¬ n ≤ 9 by omega), e1, e2]
  by_cases a : n ≤ 99
  · rw [if_pos a, if_pos (show n / 10 ≤ 9 by omega)]; rfl
  · rw [if_neg a, if_neg (show ¬ n / 10 ≤ 9 by omega)]
    by_cases b : n ≤ 999
    · rw [if_pos b, if_pos (show n / 10 ≤ 99 by omega)]; rfl
    · rw [if_neg b, if_neg (show ¬ n / 10 ≤ 99 by omega), if_pos (show n / 10 ≤ 999 by omega)]; rfl
/-- method k prints the numbers up to b -/
def NL (X : ak_X) (k b : Nat) : Prop := ∀ (M : ak_M) (l : List Int32) (n : Nat), ab_lay M → Om1 l M → l.length + 6 ≤ 640 → n ≤ b → ∃ M', rn X k [.ref 483, .int (nI n)] M (.inl none, M') ∧ fr mo_ou M M' ∧ Om1 (l ++ dgs n) M'
end SOU
