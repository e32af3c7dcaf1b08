/-! texts printed -/
def txt (s : Nat) : Nat → List Int32
  | 0 => []
  | i + 1 => txt s i ++ [by8 (tb s i)]
theorem txt_l (s : Nat) : ∀ i, (txt s i).length = i
  | 0 => rfl
  | i + 1 => by show (txt s i ++ [by8 (tb s i)]).length = i + 1; rw [List.length_append, txt_l s i, List.length_singleton]
/-- the word of a state -/
def stw (v : Int32) : Nat := if v = 0 then 16 else if v = 1 then 17 else if v = 2 then 18 else if v = 3 then 19 else 20
def stt (v : Int32) : List Int32 := txt (stw v) (tl (stw v))
theorem stt_m : ∀ j, j < 5 → txt (22 + j) (tl (22 + j)) = txt (16 + j) (tl (16 + j)) := by decide +kernel
theorem stt_l (v : Int32) : (stt v).length ≤ 6 := by
  unfold stt stw
  rw [txt_l]
  split
  · decide
  · split
    · decide
    · split
      · decide
      · split <;> decide
/-- the letter of a kind of happening -/
def kdl (v : Int32) : Int32 := if v = 0 then 100 else if v = 1 then 99 else if v = 2 then 102 else if v = 3 then 112 else 108
section SWD
variable {X : ak_X} {M M' : ak_M} {l : List Int32} {s : Nat}
theorem sk_57 (hL : ab_lay M) (h : Oc1 l M) (hs : s < 28) (hl : l.length + tl s ≤ 640) : ∃ M', rn X 57 [.ref 3, .ref (1001000 + s)] M (.inl none, M') ∧ fr cO M M' ∧ Oc1 (l ++ txt s (tl s)) M' := by
  have h6 := (tb_f s hs).1
  suffices H : ∀ i, i ≤ tl s → ∀ M1, fr cO M M1 → Oc1 (l ++ txt s i) M1 → ∃ M', sg X 57 (2, [some (.ref 3), some (.ref (1001000 + s)), some (.int (nI i))], [], []) M1 (.inl none, M') ∧ fr cO M M' ∧ Oc1 (l ++ txt s (tl s)) M' by
    obtain ⟨M', r, p⟩ := H 0 (Nat.zero_le _) M (fr.rf hL) (by rw [show txt s 0 = [] from rfl, List.append_nil]; exact h)
    exact ⟨M', t_57 hL hs r, p⟩
  refine mb_up ?_ ?_
  · intro M1 f1 o1
    exact ⟨M1, t_57_2 f1.1 hs _ ⟨_, M1, f1.1, j_317 f1.1 hs, mb_y (Int32.le_refl _) rfl⟩, f1, o1⟩
  · intro i hi ih M1 f1 o1
    obtain ⟨M2, r2, f2, o2⟩ := sk_54 (X := X) f1.1 o1 (by rw [List.length_append, txt_l]; omega) (tb s i)
    obtain ⟨M', h', m'⟩ := ih M2 (f1.tr f2) (by rw [List.append_assoc] at o2; exact o2)
    rw [← mi_s] at h'
    exact ⟨M', t_57_2 f1.1 hs _ ⟨_, M1, f1.1, j_317 f1.1 hs, mb_n (by rw [mi_le (by omega) (by omega)]; omega) ⟨_, M1, f1.1, j_318 f1.1 hs hi, M2, f2.1, r2, h'⟩⟩, m'⟩
theorem sm_307 (hL : ab_lay M) (h : Om1 l M) (hs : s < 28) (hl : l.length + tl s ≤ 640) : ∃ M', rn X 307 [.ref 483, .ref (1001000 + s)] M (.inl none, M') ∧ fr mo_ou M M' ∧ Om1 (l ++ txt s (tl s)) M' := by
  have h6 := (tb_f s hs).1
  suffices H : ∀ i, i ≤ tl s → ∀ M1, fr mo_ou M M1 → Om1 (l ++ txt s i) M1 → ∃ M', sg X 307 (2, [some (.ref 483), some (.ref (1001000 + s)), some (.int (nI i))], [], []) M1 (.inl none, M') ∧ fr mo_ou M M' ∧ Om1 (l ++ txt s (tl s)) M' by
    obtain ⟨M', r, p⟩ := H 0 (Nat.zero_le _) M (fr.rf hL) (by rw [show txt s 0 = [] from rfl, List.append_nil]; exact h)
    exact ⟨M', t_307 hL hs r, p⟩
  refine mb_up ?_ ?_
  · intro M1 f1 o1
    exact ⟨M1, t_307_2 f1.1 hs _ ⟨_, M1, f1.1, j_317 f1.1 hs, mb_y (Int32.le_refl _) rfl⟩, f1, o1⟩
  · intro i hi ih M1 f1 o1
    obtain ⟨M2, r2, f2, o2⟩ := sm_294 (X := X) f1.1 o1 (by rw [List.length_append, txt_l]; omega) (tb s i)
    obtain ⟨M', h', m'⟩ := ih M2 (f1.tr f2) (by rw [List.append_assoc] at o2; exact o2)
    rw [← mi_s] at h'
    exact ⟨M', t_307_2 f1.1 hs _ ⟨_, M1, f1.1, j_317 f1.1 hs, mb_n (by rw [mi_le (by omega) (by omega)]; omega) ⟨_, M1, f1.1, j_318 f1.1 hs hi, M2, f2.1, r2, h'⟩⟩, m'⟩
theorem stw_l (v : Int32) : stw v < 28 := by
  unfold stw
  repeat' split
  all_goals decide
theorem sk_149 (hL : ab_lay M) (v : Int32) : rn X 149 [.int v] M (.inl (some (.ref (1001000 + stw v))), M) := by
  refine t_149 hL _ ?_
  by_cases h0 : v = 0
  · rw [show stw v = 16 from if_pos h0]; exact mb_y h0 rfl
  · refine mb_n h0 ?_
    by_cases h1 : v = 1
    · rw [show stw v = 17 by unfold stw; rw [if_neg h0, if_pos h1]]; exact mb_y h1 rfl
    · refine mb_n h1 ?_
      by_cases h2 : v = 2
      · rw [show stw v = 18 by unfold stw; rw [if_neg h0, if_neg h1, if_pos h2]]; exact mb_y h2 rfl
      · refine mb_n h2 ?_
        by_cases h3 : v = 3
        · rw [show stw v = 19 by unfold stw; rw [if_neg h0, if_neg h1, if_neg h2, if_pos h3]]; exact mb_y h3 rfl
        · rw [show stw v = 20 by unfold stw; rw [if_neg h0, if_neg h1, if_neg h2, if_neg h3]]; exact mb_n h3 rfl
theorem sm_308 (hL : ab_lay M) (h : Om1 l M) (hl : l.length + 6 ≤ 640) (v : Int32) : ∃ M', rn X 308 [.ref 483, .int v] M (.inl none, M') ∧ fr mo_ou M M' ∧ Om1 (l ++ stt v) M' := by
  have go : ∀ j : Nat, j < 5 → ∃ M', rn X 307 [.ref 483, .ref (1001000 + (22 + j))] M (.inl none, M') ∧ fr mo_ou M M' ∧ Om1 (l ++ txt (16 + j) (tl (16 + j))) M' := by
    intro j hj
    have hlt : tl (22 + j) ≤ 6 := by revert j; decide
    rw [← stt_m j hj]
    exact sm_307 hL h (show 22 + j < 28 by omega) (show l.length + tl (22 + j) ≤ 640 by omega)
  unfold stt
  by_cases h0 : v = 0
  · obtain ⟨M', r, f, o⟩ := go 0 (by decide)
    rw [show stw v = 16 from if_pos h0]
    exact ⟨M', t_308 hL _ (mb_y h0 ⟨M', f.1, r, rfl⟩), f, o⟩
  · by_cases h1 : v = 1
    · obtain ⟨M', r, f, o⟩ := go 1 (by decide)
      rw [show stw v = 17 by unfold stw; rw [if_neg h0, if_pos h1]]
      exact ⟨M', t_308 hL _ (mb_n h0 (mb_y h1 ⟨M', f.1, r, rfl⟩)), f, o⟩
    · by_cases h2 : v = 2
      · obtain ⟨M', r, f, o⟩ := go 2 (by decide)
        rw [show stw v = 18 by unfold stw; rw [if_neg h0, if_neg h1, if_pos h2]]
        exact ⟨M', t_308 hL _ (mb_n h0 (mb_n h1 (mb_y h2 ⟨M', f.1, r, rfl⟩))), f, o⟩
      · by_cases h3 : v = 3
        · obtain ⟨M', r, f, o⟩ := go 3 (by decide)
          rw [show stw v = 19 by unfold stw; rw [if_neg h0, if_neg h1, if_neg h2, if_pos h3]]
          exact ⟨M', t_308 hL _ (mb_n h0 (mb_n h1 (mb_n h2 (mb_y h3 ⟨M', f.1, r, rfl⟩)))), f, o⟩
        · obtain ⟨M', r, f, o⟩ := go 4 (by decide)
          rw [show stw v = 20 by unfold stw; rw [if_neg h0, if_neg h1, if_neg h2, if_neg h3]]
          exact ⟨M', t_308 hL _ (mb_n h0 (mb_n h1 (mb_n h2 (mb_n h3 ⟨M', f.1, r, rfl⟩)))), f, o⟩
theorem sk_150 (hL : ab_lay M) (v : Int32) : rn X 150 [.int v] M (.inl (some (.int (kdl v))), M) := by
  refine t_150 hL _ ?_
  by_cases h0 : v = 0
  · rw [show kdl v = 100 from if_pos h0]; exact mb_y h0 rfl
  · refine mb_n h0 ?_
    by_cases h1 : v = 1
    · rw [show kdl v = 99 by unfold kdl; rw [if_neg h0, if_pos h1]]; exact mb_y h1 rfl
    · refine mb_n h1 ?_
      by_cases h2 : v = 2
      · rw [show kdl v = 102 by unfold kdl; rw [if_neg h0, if_neg h1, if_pos h2]]; exact mb_y h2 rfl
      · refine mb_n h2 ?_
        by_cases h3 : v = 3
        · rw [show kdl v = 112 by unfold kdl; rw [if_neg h0, if_neg h1, if_neg h2, if_pos h3]]; exact mb_y h3 rfl
        · rw [show kdl v = 108 by unfold kdl; rw [if_neg h0, if_neg h1, if_neg h2, if_neg h3]]; exact mb_n h3 rfl
/-- nothing printed yet -/
theorem Oc1_0 (hL : ab_lay M) : fr cO M (ak_sI M 3 1 0) ∧ Oc1 [] (ak_sI M 3 1 0) := ⟨(fr.rf hL).st (Or.inr ⟨rfl, rfl⟩), by decide, mb_sIs, fun j hj => absurd hj (Nat.not_lt_zero _)⟩
theorem Om1_0 (hL : ab_lay M) : fr mo_ou M (ak_sI M 483 28 0) ∧ Om1 [] (ak_sI M 483 28 0) := ⟨(fr.rf hL).st (Or.inr ⟨rfl, rfl⟩), by decide, mb_sIs, fun j hj => absurd hj (Nat.not_lt_zero _)⟩
def gap (l : List Int32) : List Int32 := if l = [] then [] else l ++ [by8 32]
def hyp (l : List Int32) : List Int32 := if l = [] then [by8 45] else l
theorem ln_0 (l : List Int32) (h : l.length ≤ 640) : nI l.length ≤ 0 ↔ l = [] := by
  rw [show (0 : Int32) = nI 0 from rfl, mi_le (by omega) (by decide)]
  exact ⟨fun e => List.length_eq_zero_iff.mp (by omega), fun e => by rw [e]; exact Nat.le_refl _⟩
theorem sk_55 (hL : ab_lay M) (h : Oc1 l M) (hl : l.length < 640) : ∃ M', rn X 55 [.ref 3] M (.inl none, M') ∧ fr cO M M' ∧ Oc1 (gap l) M' := by
  have e1 := h.2.1
  unfold gap
  by_cases c : l = []
  · rw [if_pos c]
    subst c
    exact ⟨M, t_55 hL (mb_y (by rw [e1]; exact (ln_0 [] (by decide)).mpr rfl) rfl), fr.rf hL, h⟩
  · rw [if_neg c]
    obtain ⟨M1, r, f, o⟩ := sk_54 (X := X) hL h hl 32
    exact ⟨M1, t_55 hL (mb_n (by rw [e1]; exact fun e => c ((ln_0 l (by omega)).mp e)) ⟨M1, f.1, r, rfl⟩), f, o⟩
end SWD
