/-! names: in the model a number to base 27, in the class letters; printed -/
def lts : Nat → Nat → List Int32
  | 0, n => [nI (96 + n % 27)]
  | f + 1, n => if n ≤ 26 then [nI (96 + n % 27)] else lts f (n / 27) ++ [nI (96 + n % 27)]
theorem lts_s (f n : Nat) : lts (f + 1) n = if n ≤ 26 then [nI (96 + n % 27)] else lts f (n / 27) ++ [nI (96 + n % 27)] := rfl
theorem lts_l : ∀ f n, (lts f n).length ≤ f + 1
  | 0, _ => Nat.le_refl _
  | f + 1, n => by
    rw [lts_s]
    split
    · exact Nat.le_add_left _ _
    · rw [List.length_append, List.length_singleton]; have := lts_l f (n / 27); omega
theorem lts_f : ∀ f n, n < 27 ^ (f + 1) → lts (f + 1) n = lts f n
  | 0, n, h => by rw [lts_s, if_pos (by omega)]; rfl
  | f + 1, n, h => by
    by_cases c : n ≤ 26
    · rw [lts_s (f + 1) n, if_pos c, lts_s f n, if_pos c]
    · rw [lts_s (f + 1) n, if_neg c, lts_f f (n / 27) (by rw [Nat.pow_succ] at h; exact Nat.div_lt_of_lt_mul (by rw [Nat.mul_comm]; exact h)), lts_s f n, if_neg c]
theorem lt_f : ∀ d, d < 27 → (97 + nI d) - 1 = nI (96 + d) := by decide +kernel
theorem mi_m27 {a : Nat} (ha : a < 2147483648) : nI a - nI a / 27 * 27 = nI (a % 27) := by
  rw [show (27 : Int32) = nI 27 from rfl, mi_div ha (by decide), mi_mul, mi_sbn (by omega)]
  congr 1
  omega
/-- method k prints the names below b -/
def LL (X : ak_X) (k f b : Nat) : Prop := ∀ (M : ak_M) (l : List Int32) (n : Nat), ab_lay M → Om1 l M → l.length + f + 1 ≤ 640 → n < b → ∃ M', rn X k [.ref 483, .int (nI n)] M (.inl none, M') ∧ fr mo_ou M M' ∧ Om1 (l ++ (lts f n).map by8) M'
section SNM
variable {X : ak_X} {M M' : ak_M} {l : List Int32} {n k : Nat}
theorem le26 (hn : n < 2147483648) : nI n ≤ 26 ↔ n ≤ 26 := mi_le (a := n) (b := 26) hn (by decide)
/-- the class's names are these numbers -/
def Nc (ν : Nat → Nat) (nk : Nat) (M : ak_M) : Prop := nk ≤ 10 ∧ ak_I M 52 2 = nI nk ∧ ∀ k, k < nk → ν k < 387420489 ∧ ak_I M 64 k = nI (lts 5 (ν k)).length ∧ ∀ j, j < (lts 5 (ν k)).length → ak_I M (54 + k) j = (lts 5 (ν k)).getD j 0
theorem nb52 : 52 ∈ ab_nb := by decide
theorem tk_ap (l : List Int32) (i : Nat) (h : i < l.length) : (l.take i).map by8 ++ [by8 (l.getD i 0)] = (l.take (i + 1)).map by8 := by
  rw [List.take_succ, List.map_append]
  congr 1
  rw [List.getD_eq_getElem?_getD, List.getElem?_eq_getElem h]
  rfl
end SNM
