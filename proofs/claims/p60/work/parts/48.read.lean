/-! what a log says of the memory -/
def al_P : List al_o → Nat
  | [] => 0
  | o :: L => match o.1 with | 0 => al_P L + 1 | 1 => al_P L | 2 => al_P L | _ => al_P L + 1 + o.2.1
def al_k : List al_o → List (Nat × Nat)
  | [] => []
  | o :: L => match o.1 with | 0 => al_k L ++ [(o.2.1, o.2.2.1)] | 1 => al_k L | 2 => al_k L | _ => al_k L ++ (109, o.2.1) :: List.replicate o.2.1 (101, o.2.2.1)
def al_R : List al_o → Nat → Nat → Nat → Option Nat
  | [], _, _, _ => none
  | o :: L, P, p, k => match o.1 with
    | 0 => if p + 1 = P then none else al_R L (P - 1) p k
    | 1 => al_R L P p k
    | 2 => if p = o.2.1 ∧ k = o.2.2.1 then some o.2.2.2.1 else al_R L P p k
    | _ => if P - 1 - o.2.1 ≤ p ∧ p < P then (if p = P - 1 - o.2.1 then (if k < o.2.1 then some (P - 1 - o.2.1 + 1 + k) else none) else none) else al_R L (P - 1 - o.2.1) p k
def al_I : List al_o → Nat → Nat → Nat → Int32
  | [], _, _, _ => 0
  | o :: L, P, p, k => match o.1 with
    | 0 => if p + 1 = P then 0 else al_I L (P - 1) p k
    | 1 => if p = o.2.1 ∧ k = o.2.2.1 then o.2.2.2.2 else al_I L P p k
    | 2 => al_I L P p k
    | _ => if P - 1 - o.2.1 ≤ p ∧ p < P then 0 else al_I L (P - 1 - o.2.1) p k
theorem al_Pn (kd ln z : Nat) (M : ak_M) : ak_P (ak_new M kd ln z) = ak_P M + 1 := rfl
theorem al_Pm (n k : Nat) (M : ak_M) : ak_P (ak_mna M n k) = ak_P M + 1 + n := rfl
theorem al_Pof : ∀ L : List al_o, ak_P (al_all L ak_M0) = al_P L
  | [] => rfl
  | (t, a, b, c, v) :: L => by
    have ih := al_Pof L
    match t with
    | 0 => show ak_P (al_all L ak_M0) + 1 = al_P L + 1; rw [ih]
    | 1 => exact ih
    | 2 => exact ih
    | t + 3 => show ak_P (al_all L ak_M0) + 1 + a = al_P L + 1 + a; rw [ih]
theorem al_Rof : ∀ (L : List al_o) (p k : Nat), al_R L (al_P L) p k = ak_R (al_all L ak_M0) p k
  | [], p, k => rfl
  | (t, a, b, c, v) :: L, p, k => by
    have ih := al_Rof L p k
    have hP := al_Pof L
    match t with
    | 0 =>
      show (if p + 1 = al_P L + 1 then none else al_R L (al_P L + 1 - 1) p k) = (if p = ak_P (al_all L ak_M0) then none else ak_R (al_all L ak_M0) p k)
      rw [hP, Nat.add_sub_cancel, ih]
      by_cases h : p = al_P L
      · rw [if_pos (by omega), if_pos h]
      · rw [if_neg (by omega), if_neg h]
    | 1 => exact ih
    | 2 =>
      show (if p = a ∧ k = b then some c else al_R L (al_P L) p k) = (if p = a ∧ k = b then some c else ak_R (al_all L ak_M0) p k)
      rw [ih]
    | t + 3 =>
      show (if al_P L + 1 + a - 1 - a ≤ p ∧ p < al_P L + 1 + a then (if p = al_P L + 1 + a - 1 - a then (if k < a then some (al_P L + 1 + a - 1 - a + 1 + k) else none) else none) else al_R L (al_P L + 1 + a - 1 - a) p k) = (if p = ak_P (al_all L ak_M0) then (if k < a then some (ak_P (al_all L ak_M0) + 1 + k) else none) else if ak_P (al_all L ak_M0) ≤ p ∧ p ≤ ak_P (al_all L ak_M0) + a then none else ak_R (al_all L ak_M0) p k)
      rw [hP, show al_P L + 1 + a - 1 - a = al_P L by omega, ih]
      by_cases h : p = al_P L
      · rw [if_pos (by omega), if_pos h, if_pos h]
      · rw [if_neg h, if_neg h]
        by_cases h2 : al_P L ≤ p ∧ p ≤ al_P L + a
        · rw [if_pos (by omega), if_pos h2]
        · rw [if_neg (by omega), if_neg h2]
theorem al_Iof : ∀ (L : List al_o) (p k : Nat), al_I L (al_P L) p k = ak_I (al_all L ak_M0) p k
  | [], p, k => rfl
  | (t, a, b, c, v) :: L, p, k => by
    have ih := al_Iof L p k
    have hP := al_Pof L
    match t with
    | 0 =>
      show (if p + 1 = al_P L + 1 then 0 else al_I L (al_P L + 1 - 1) p k) = (if p = ak_P (al_all L ak_M0) then 0 else ak_I (al_all L ak_M0) p k)
      rw [hP, Nat.add_sub_cancel, ih]
      by_cases h : p = al_P L
      · rw [if_pos (by omega), if_pos h]
      · rw [if_neg (by omega), if_neg h]
    | 1 =>
      show (if p = a ∧ k = b then v else al_I L (al_P L) p k) = (if p = a ∧ k = b then v else ak_I (al_all L ak_M0) p k)
      rw [ih]
    | 2 => exact ih
    | t + 3 =>
      show (if al_P L + 1 + a - 1 - a ≤ p ∧ p < al_P L + 1 + a then 0 else al_I L (al_P L + 1 + a - 1 - a) p k) = (if ak_P (al_all L ak_M0) ≤ p ∧ p ≤ ak_P (al_all L ak_M0) + a then 0 else ak_I (al_all L ak_M0) p k)
      rw [hP, show al_P L + 1 + a - 1 - a = al_P L by omega, ih]
      by_cases h2 : al_P L ≤ p ∧ p ≤ al_P L + a
      · rw [if_pos (by omega), if_pos h2]
      · rw [if_neg (by omega), if_neg h2]
