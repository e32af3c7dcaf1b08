/-! the layout after the constructors, off their logs -/
theorem al_kof : ∀ L : List al_o, (al_k L).length = al_P L ∧ ∀ p, p < al_P L → (al_k L)[p]? = some (ak_K (al_all L ak_M0) p, ak_N (al_all L ak_M0) p)
  | [] => ⟨rfl, fun p h => absurd h (Nat.not_lt_zero p)⟩
  | (t, a, b, c, v) :: L => by
    obtain ⟨h1, h2⟩ := al_kof L
    have hP := al_Pof L
    match t with
    | 0 =>
      refine ⟨by show (al_k L ++ [(a, b)]).length = al_P L + 1; rw [List.length_append, h1]; rfl, fun p hp => ?_⟩
      have hp : p < al_P L + 1 := hp
      show (al_k L ++ [(a, b)])[p]? = some (if p = ak_P (al_all L ak_M0) then a else ak_K (al_all L ak_M0) p, if p = ak_P (al_all L ak_M0) then b else ak_N (al_all L ak_M0) p)
      rw [hP]
      by_cases h : p = al_P L
      · rw [if_pos h, if_pos h, List.getElem?_append_right (by omega), h1, h, Nat.sub_self]; rfl
      · rw [if_neg h, if_neg h, List.getElem?_append_left (by omega)]; exact h2 p (by omega)
    | 1 => exact ⟨h1, h2⟩
    | 2 => exact ⟨h1, h2⟩
    | t + 3 =>
      refine ⟨by show (al_k L ++ (109, a) :: List.replicate a (101, b)).length = al_P L + 1 + a; rw [List.length_append, h1, List.length_cons, List.length_replicate]; omega, fun p hp => ?_⟩
      have hp : p < al_P L + 1 + a := hp
      show (al_k L ++ (109, a) :: List.replicate a (101, b))[p]? = some (if p = ak_P (al_all L ak_M0) then 109 else if ak_P (al_all L ak_M0) ≤ p ∧ p ≤ ak_P (al_all L ak_M0) + a then 101 else ak_K (al_all L ak_M0) p, if p = ak_P (al_all L ak_M0) then a else if ak_P (al_all L ak_M0) ≤ p ∧ p ≤ ak_P (al_all L ak_M0) + a then b else ak_N (al_all L ak_M0) p)
      rw [hP]
      by_cases h : p = al_P L
      · rw [if_pos h, if_pos h, List.getElem?_append_right (by omega), h1, h, Nat.sub_self]; rfl
      · rw [if_neg h, if_neg h]
        by_cases hl : p < al_P L
        · rw [if_neg (by omega), if_neg (by omega), List.getElem?_append_left (by omega)]; exact h2 p hl
        · rw [if_pos (by omega), if_pos (by omega), List.getElem?_append_right (by omega), h1]
          obtain ⟨j, hj⟩ : ∃ j, p - al_P L = j + 1 := ⟨p - al_P L - 1, by omega⟩
          rw [hj, List.getElem?_cons_succ, List.getElem?_replicate, if_pos (by omega)]
def al_L4 : List al_o := al_L1
def al_M4 : ak_M := al_all al_L4 ak_M0
set_option maxRecDepth 1000000 in
theorem al_4P : al_P al_L4 = 483 := by decide +kernel
set_option maxRecDepth 1000000 in
theorem al_4k : al_k al_L4 = (List.range 483).map (fun p => (ab_K p, ab_N p)) := by decide +kernel
def al_ckR (a n : Nat) : Bool := (List.range' a n).all (fun p => (List.range (ab_Rl.getD p []).length).all (fun k => decide (al_R al_L4 483 p k = ab_R p k)))
def al_ckI (l : List (Nat × Nat)) : Bool := l.all (fun q => (List.range q.2).all (fun k => decide (al_I al_L4 483 q.1 k = ab_I q.1 k)))
