/-! what is printed: bytes and numbers -/
def Oc1 (l : List Int32) (M : ak_M) : Prop := Oc (fun j => l.getD j 0) l.length M
def Om1 (l : List Int32) (M : ak_M) : Prop := Om (fun j => l.getD j 0) l.length M
def by8 (x : Int32) : Int32 := vp_nar .byte (x.toInt8.toInt32)
def cO (p k : Nat) : Prop := p = 4 ∨ (p = 3 ∧ k = 1)
def mo_ou (p k : Nat) : Prop := p = 496 ∨ (p = 483 ∧ k = 28)
theorem gd_ap (l : List Int32) (v : Int32) (j : Nat) (h : j < (l ++ [v]).length) : (l ++ [v]).getD j 0 = if j = l.length then v else l.getD j 0 := by
  rw [List.length_append, List.length_singleton] at h
  by_cases c : j = l.length
  · subst c; simp
  · rw [if_neg c]
    have : j < l.length := by omega
    simp [List.getElem?_append_left this]
theorem mi_div {a b : Nat} (ha : a < 2147483648) (hb : b < 2147483648) : nI a / nI b = nI (a / b) := by
  refine mi_of ?_
  rw [j3_div (by rw [mi_t ha]; omega), mi_t ha, mi_t hb]
  exact (Int.ofNat_tdiv a b).symm
theorem mi_sbn {a b : Nat} (h : b ≤ a) : nI a - nI b = nI (a - b) := by
  have e : nI a = nI (a - b) + nI b := by rw [mi_add, Nat.sub_add_cancel h]
  rw [e, Int32.add_sub_cancel]
theorem mi_mod {a : Nat} (ha : a < 2147483648) : nI a - nI a / 10 * 10 = nI (a % 10) := by
  rw [show (10 : Int32) = nI 10 from rfl, mi_div ha (by decide), mi_mul, mi_sbn (by omega)]
  congr 1
  omega
section SOU
variable {X : ak_X} {M M' : ak_M} {l : List Int32} {n : Nat}
theorem sk_54 (hL : ab_lay M) (h : Oc1 l M) (hl : l.length < 640) (x : Int32) : ∃ M', rn X 54 [.ref 3, .int x] M (.inl none, M') ∧ fr cO M M' ∧ Oc1 (l ++ [by8 x]) M' := by
  obtain ⟨h1, h2, h3⟩ := h
  refine ⟨ak_sI (ak_sI M 4 l.length (by8 x)) 3 1 (nI (l.length + 1)), t_54 hL _ (mb_n (by rw [h2, show (640 : Int32) = nI 640 from rfl, mi_le (by omega) (by omega)]; omega) ⟨l.length, by rw [h2]; exact mb_ix hl (by decide), fun N1 e1 N2 e2 => ?_⟩), ((fr.rf hL).st (Or.inl rfl)).st (Or.inr ⟨rfl, rfl⟩), by rw [List.length_append, List.length_singleton]; omega, ?_, fun j hj => ?_⟩
  · have e3 : ak_I N1 3 1 = nI l.length := by rw [e1, mb_sIr (by decide)]; exact h2
    rw [e3, mi_s, e1] at e2
    rw [e2]
    rfl
  · rw [List.length_append, List.length_singleton]; exact mb_sIs
  · show _ = (l ++ [by8 x]).getD j 0
    rw [gd_ap _ _ _ hj, mb_sIr (by decide), mb_sI]
    by_cases c : j = l.length
    · rw [if_pos ⟨rfl, c⟩, if_pos c]
    · rw [if_neg (fun e => c e.2), if_neg c]
      rw [List.length_append, List.length_singleton] at hj
      exact h3 j (by omega)
theorem sm_294 (hL : ab_lay M) (h : Om1 l M) (hl : l.length < 640) (x : Int32) : ∃ M', rn X 294 [.ref 483, .int x] M (.inl none, M') ∧ fr mo_ou M M' ∧ Om1 (l ++ [by8 x]) M' := by
  obtain ⟨h1, h2, h3⟩ := h
  refine ⟨ak_sI (ak_sI M 496 l.length (by8 x)) 483 28 (nI (l.length + 1)), t_294 hL _ ⟨l.length, by rw [h2]; exact mb_ix (by omega) (by decide), fun N1 e1 N2 e2 => ?_⟩, ((fr.rf hL).st (Or.inl rfl)).st (Or.inr ⟨rfl, rfl⟩), by rw [List.length_append, List.length_singleton]; omega, ?_, fun j hj => ?_⟩
  · have e3 : ak_I N1 483 28 = nI l.length := by rw [e1, mb_sIr (by decide)]; exact h2
    rw [e3, mi_s, e1] at e2
    rw [e2]
    rfl
  · rw [List.length_append, List.length_singleton]; exact mb_sIs
  · show _ = (l ++ [by8 x]).getD j 0
    rw [gd_ap _ _ _ hj, mb_sIr (by decide), mb_sI]
    by_cases c : j = l.length
    · rw [if_pos ⟨rfl, c⟩, if_pos c]
    · rw [if_neg (fun e => c e.2), if_neg c]
      rw [List.length_append, List.length_singleton] at hj
      exact h3 j (by omega)
/-- a digit -/
def dg (d : Nat) : Int32 := by8 (48 + nI d)
/-- a number to 9999, printed -/
def dgs (n : Nat) : List Int32 := if n ≤ 9 then [dg (n % 10)] else if n ≤ 99 then [dg (n / 10 % 10), dg (n % 10)] else if n ≤ 999 then [dg (n / 100 % 10), dg (n / 10 % 10), dg (n % 10)] else [dg (n / 1000 % 10), dg (n / 100 % 10), dg (n / 10 % 10), dg (n % 10)]
theorem dgs_le (n : Nat) : (dgs n).length ≤ 4 := by
  unfold dgs
  split
  · exact (by decide : 1 ≤ 4)
  · split
    · exact (by decide : 2 ≤ 4)
    · split
      · exact (by decide : 3 ≤ 4)
      · exact (by decide : 4 ≤ 4)
theorem dgs_s (h : 9 < n) (hn : n ≤ 9999) : dgs n = dgs (n / 10) ++ [dg (n % 10)] := by
  have e1 : n / 10 / 10 = n / 100 := by omega
  have e2 : n / 10 / 100 = n / 1000 := by omega
  unfold dgs
  rw [if_neg (show ¬ n ≤ 9 by omega), e1, e2]
  by_cases a : n ≤ 99
  · rw [if_pos a, if_pos (show n / 10 ≤ 9 by omega)]; rfl
  · rw [if_neg a, if_neg (show ¬ n / 10 ≤ 9 by omega)]
    by_cases b : n ≤ 999
    · rw [if_pos b, if_pos (show n / 10 ≤ 99 by omega)]; rfl
    · rw [if_neg b, if_neg (show ¬ n / 10 ≤ 99 by omega), if_pos (show n / 10 ≤ 999 by omega)]; rfl
theorem sm_dig (hL : ab_lay M) (h : Om1 l M) (hl : l.length < 640) (hn : n ≤ 9999) : ∃ M', rn X 294 [.ref 483, .int (48 + (nI n - nI n / 10 * 10))] M (.inl none, M') ∧ fr mo_ou M M' ∧ Om1 (l ++ [dg (n % 10)]) M' := by
  rw [mi_mod (by omega)]
  exact sm_294 hL h hl _
/-- method k prints the numbers up to b -/
def NL (X : ak_X) (k b : Nat) : Prop := ∀ (M : ak_M) (l : List Int32) (n : Nat), ab_lay M → Om1 l M → l.length + 6 ≤ 640 → n ≤ b → ∃ M', rn X k [.ref 483, .int (nI n)] M (.inl none, M') ∧ fr mo_ou M M' ∧ Om1 (l ++ dgs n) M'
/-- one level of the model's numbers, over the level below -/
theorem sm_lev {k k' : Nat} (ht : ∀ {M : ak_M} {r : ak_O × ak_M} (_ : ab_lay M) (x1 : Int32) (_ : (if x1 ≤ 9 then (∃ (M1 : ak_M), ab_lay M1 ∧ rn X 294 [.ref 483, .int (48 + (x1 - x1 / 10 * 10))] M (.inl (none), M1) ∧ r = (.inl none, M1)) else (∃ (M3 : ak_M), ab_lay M3 ∧ rn X k' [.ref 483, .int (x1 / 10)] M (.inl (none), M3) ∧ (∃ (M4 : ak_M), ab_lay M4 ∧ rn X 294 [.ref 483, .int (48 + (x1 - x1 / 10 * 10))] M3 (.inl (none), M4) ∧ r = (.inl none, M4))))), rn X k [.ref 483, .int x1] M r)
    {b : Nat} (hb : b ≤ 999) (ih : NL X k' b) : NL X k (10 * b + 9) := by
  intro M l n hL h hl hn
  by_cases c : n ≤ 9
  · obtain ⟨M1, r1, f1, o1⟩ := sm_dig (X := X) hL h (by omega) (n := n) (by omega)
    refine ⟨M1, ht hL _ (mb_y ((mi_le (a := n) (b := 9) (by omega) (by decide)).mpr c) ⟨M1, f1.1, r1, rfl⟩), f1, ?_⟩
    unfold dgs
    rw [if_pos c]
    exact o1
  · obtain ⟨M1, r1, f1, o1⟩ := ih M l (n / 10) hL h (by omega) (by omega)
    have hl1 : (l ++ dgs (n / 10)).length < 640 := by rw [List.length_append]; have := dgs_le (n / 10); omega
    obtain ⟨M2, r2, f2, o2⟩ := sm_dig (X := X) f1.1 o1 hl1 (n := n) (by omega)
    refine ⟨M2, ht hL _ (mb_n (fun e => c ((mi_le (a := n) (b := 9) (by omega) (by decide)).mp e)) ⟨M1, f1.1, ?_, M2, f2.1, r2, rfl⟩), f1.tr f2, ?_⟩
    · rw [show (10 : Int32) = nI 10 from rfl, mi_div (by omega) (by decide)]
      exact r1
    · rw [dgs_s (by omega) (by omega), ← List.append_assoc]
      exact o2
theorem sm_295 (hL : ab_lay M) (h : Om1 l M) (hl : l.length < 640) (hn : n ≤ 9) : ∃ M', rn X 295 [.ref 483, .int (nI n)] M (.inl none, M') ∧ fr mo_ou M M' ∧ Om1 (l ++ dgs n) M' := by
  obtain ⟨M1, r1, f1, o1⟩ := sm_dig (X := X) hL h hl (n := n) (by omega)
  refine ⟨M1, t_295 hL _ (mb_y ((mi_le (a := n) (b := 9) (by omega) (by decide)).mpr hn) ⟨M1, f1.1, r1, rfl⟩), f1, ?_⟩
  unfold dgs
  rw [if_pos hn]
  exact o1
theorem sm_299 : NL X 299 9999 := by
  have a5 : NL X 295 9 := fun M l n hL h hl hn => sm_295 hL h (by omega) hn
  have a6 : NL X 296 99 := sm_lev t_296 (b := 9) (by decide) a5
  have a7 : NL X 297 999 := sm_lev t_297 (b := 99) (by decide) a6
  have a8 : NL X 298 999 := fun M l n hL h hl hn => sm_lev t_298 (b := 999) (by decide) a7 M l n hL h hl (by omega)
  exact sm_lev t_299 (b := 999) (by decide) a8
end SOU
