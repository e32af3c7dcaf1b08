/-! numbers printed by the class -/
section SNU
variable {X : ak_X} {M M' : ak_M} {l : List Int32} {n : Nat}
/-- a digit is left out: no digit stands yet, it is 0, and it is not the last -/
def d59b (n : Nat) (s : Bool) (y : Nat) : Bool := !s && (decide (n / y % 10 = 0) && !(decide (y = 1)))
abbrev d59o (n : Nat) (s : Bool) (y : Nat) : Prop := d59b n s y = true
theorem d59_i {n : Nat} {s : Bool} {y : Nat} : d59o n s y ↔ s = false ∧ n / y % 10 = 0 ∧ y ≠ 1 := by
  unfold d59o d59b
  cases s
  · rw [Bool.not_false, Bool.true_and, Bool.and_eq_true, decide_eq_true_eq, Bool.not_eq_true', decide_eq_false_iff_not]
    exact ⟨fun h => ⟨rfl, h⟩, fun h => h.2⟩
  · exact ⟨fun h => (by cases h), fun h => (by cases h.1)⟩
theorem st_59 (hL : ab_lay M) (h : Oc1 l M) (hl : l.length < 640) (hn : n ≤ 9999) {y : Nat} (hy : 0 < y) (hy2 : y ≤ 1000) (s : Bool) (o : Option Value) {P : ak_M → Prop}
    (go : ∀ M1 o1, fr cO M M1 → Oc1 (if d59o n s y then l else l ++ [dg (n / y % 10)]) M1 → ∃ M', sg X 59 (6, [some (.ref 3), some (.int (nI n)), some (.int (bI (if d59o n s y then false else true))), some (.int (nI (y / 10))), o1], [], []) M1 (.inl none, M') ∧ P M') :
    ∃ M', sg X 59 (6, [some (.ref 3), some (.int (nI n)), some (.int (bI s)), some (.int (nI y)), o], [], []) M (.inl none, M') ∧ P M' := by
  have c0 : ¬ nI y ≤ 0 := fun e => absurd ((mi_le (a := y) (b := 0) (by omega) (by decide)).mp e) (by omega)
  have c1 : nI y ≠ 0 := fun e => absurd ((mi_eq (a := y) (b := 0) (by omega) (by decide)).mp e) (by omega)
  have hlt : n / y < 2147483648 := by have := Nat.div_le_self n y; omega
  have ez : nI n / nI y - nI n / nI y / 10 * 10 = nI (n / y % 10) := by rw [mi_div (by omega) (by omega), mi_mod hlt]
  have ey : nI y / 10 = nI (y / 10) := mi_div (b := 10) (by omega) (by decide)
  have z0 : nI (n / y % 10) = 0 ↔ n / y % 10 = 0 := mi_eq (a := n / y % 10) (b := 0) (by omega) (by decide)
  have y1 : nI y = 1 ↔ y = 1 := mi_eq (a := y) (b := 1) (by omega) (by decide)
  by_cases c : d59o n s y
  · rw [if_pos c, if_pos c] at go
    obtain ⟨M1, hs, p⟩ := go M (some (.int (nI (n / y % 10)))) (fr.rf hL) h
    obtain ⟨rfl, d1, d2⟩ := d59_i.mp c
    refine ⟨M1, t_59_6 hL _ _ _ _ (mb_n c0 ⟨c1, fun z e => ?_⟩), p⟩
    rw [ez] at e
    subst e
    rw [ey]
    exact mb_y rfl (mb_y (z0.mpr d1) (mb_n (fun e => d2 (y1.mp e)) hs))
  · rw [if_neg c, if_neg c] at go
    obtain ⟨M1, r1, f1, o1⟩ := sk_54 (X := X) hL h hl (48 + nI (n / y % 10))
    obtain ⟨M2, hs, p⟩ := go M1 (some (.int (nI (n / y % 10)))) f1 o1
    refine ⟨M2, t_59_6 hL _ _ _ _ (mb_n c0 ⟨c1, fun z e => ?_⟩), p⟩
    rw [ez] at e
    subst e
    rw [ey]
    cases s
    · refine mb_y rfl ?_
      by_cases d1 : n / y % 10 = 0
      · have d2 : y = 1 := by
          by_cases d2 : y = 1
          · exact d2
          · exact absurd (d59_i.mpr ⟨rfl, d1, d2⟩) c
        exact mb_y (z0.mpr d1) (mb_y (y1.mpr d2) ⟨M1, f1.1, r1, hs⟩)
      · exact mb_n (fun e => d1 (z0.mp e)) ⟨M1, f1.1, r1, hs⟩
    · exact mb_n (by decide) ⟨M1, f1.1, r1, hs⟩
theorem sk_59 (hL : ab_lay M) (h : Oc1 l M) (hl : l.length + 6 ≤ 640) (hn : n ≤ 9999) : ∃ M', rn X 59 [.ref 3, .int (nI n)] M (.inl none, M') ∧ fr cO M M' ∧ Oc1 (l ++ dgs n) M' := by
  have ap : ∀ (b : Prop) [Decidable b] (l : List Int32) (v : Int32), (if b then l else l ++ [v]).length ≤ l.length + 1 := fun b _ l v => by
    split
    · omega
    · rw [List.length_append, List.length_singleton]; omega
  obtain ⟨M', hs, p⟩ := st_59 (X := X) (P := fun M' => fr cO M M' ∧ Oc1 (l ++ dgs n) M') hL h (by omega) hn (y := 1000) (by decide) (by decide) false none fun M1 o1 f1 a1 =>
    st_59 (X := X) (P := fun M' => fr cO M M' ∧ Oc1 (l ++ dgs n) M') f1.1 a1 (by have := ap (d59o n false 1000) l (dg (n / 1000 % 10)); omega) hn (y := 100) (by decide) (by decide) _ o1 fun M2 o2 f2 a2 =>
    st_59 (X := X) (P := fun M' => fr cO M M' ∧ Oc1 (l ++ dgs n) M') f2.1 a2 (by have := ap (d59o n false 1000) l (dg (n / 1000 % 10)); have := ap (d59o n (if d59o n false 1000 then false else true) 100) (if d59o n false 1000 then l else l ++ [dg (n / 1000 % 10)]) (dg (n / 100 % 10)); omega) hn (y := 10) (by decide) (by decide) _ o2 fun M3 o3 f3 a3 =>
    st_59 (X := X) (P := fun M' => fr cO M M' ∧ Oc1 (l ++ dgs n) M') f3.1 a3 (by have := ap (d59o n false 1000) l (dg (n / 1000 % 10)); have := ap (d59o n (if d59o n false 1000 then false else true) 100) (if d59o n false 1000 then l else l ++ [dg (n / 1000 % 10)]) (dg (n / 100 % 10)); have := ap (d59o n (if d59o n (if d59o n false 1000 then false else true) 100 then false else true) 10) (if d59o n (if d59o n false 1000 then false else true) 100 then (if d59o n false 1000 then l else l ++ [dg (n / 1000 % 10)]) else (if d59o n false 1000 then l else l ++ [dg (n / 1000 % 10)]) ++ [dg (n / 100 % 10)]) (dg (n / 10 % 10)); omega) hn (y := 1) (by decide) (by decide) _ o3 fun M4 o4 f4 a4 => by
      refine ⟨M4, t_59_6 f4.1 _ _ _ _ (mb_y (by decide) rfl), ((f1.tr f2).tr f3).tr f4, ?_⟩
      have q1 : n / 1 % 10 = n % 10 := by rw [Nat.div_one]
      have e1 : d59o n false 1000 ↔ n ≤ 999 := by rw [d59_i]; exact ⟨fun h => (by have := h.2.1; omega), fun h => ⟨rfl, (by omega), (by decide)⟩⟩
      rw [q1] at a4
      have last : ∀ s, ¬ d59o n s 1 := fun s h => (d59_i.mp h).2.2 rfl
      rw [if_neg (last _)] at a4
      unfold dgs
      by_cases c3 : n ≤ 999
      · rw [if_pos (e1.mpr c3)] at a4
        rw [if_pos (e1.mpr c3)] at a4
        have e2 : d59o n false 100 ↔ n ≤ 99 := by rw [d59_i]; exact ⟨fun h => (by have := h.2.1; omega), fun h => ⟨rfl, (by omega), (by decide)⟩⟩
        by_cases c2 : n ≤ 99
        · rw [if_pos (e2.mpr c2)] at a4
          rw [if_pos (e2.mpr c2)] at a4
          have e3 : d59o n false 10 ↔ n ≤ 9 := by rw [d59_i]; exact ⟨fun h => (by have := h.2.1; omega), fun h => ⟨rfl, (by omega), (by decide)⟩⟩
          by_cases c1 : n ≤ 9
          · rw [if_pos (e3.mpr c1)] at a4
            rw [if_pos c1]
            exact a4
          · rw [if_neg (fun h => c1 (e3.mp h))] at a4
            rw [if_neg c1, if_pos c2]
            simpa using a4
        · rw [if_neg (fun h => c2 (e2.mp h))] at a4
          rw [if_neg (fun h => c2 (e2.mp h))] at a4
          rw [if_neg (show ¬ d59o n true 10 from fun h => (by cases (d59_i.mp h).1))] at a4
          rw [if_neg (show ¬ n ≤ 9 by omega), if_neg c2, if_pos c3]
          simpa using a4
      · rw [if_neg (fun h => c3 (e1.mp h))] at a4
        rw [if_neg (fun h => c3 (e1.mp h))] at a4
        rw [if_neg (show ¬ d59o n true 100 from fun h => (by cases (d59_i.mp h).1))] at a4
        rw [if_neg (show ¬ d59o n true 100 from fun h => (by cases (d59_i.mp h).1))] at a4
        rw [if_neg (show ¬ d59o n true 10 from fun h => (by cases (d59_i.mp h).1))] at a4
        rw [if_neg (show ¬ n ≤ 9 by omega), if_neg (show ¬ n ≤ 99 by omega), if_neg c3]
        simpa using a4
  exact ⟨M', t_59 hL _ hs, p⟩
end SNU
