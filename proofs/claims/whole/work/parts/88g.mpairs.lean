/-! all pairs printed: the model -/
def mo_px (p k : Nat) : Prop := mo_pp p k ∨ (p = 483 ∧ k = 0)
/-- what stands through the model's printing -/
def mq (σ : Nat → Int32) (M M1 : ak_M) : Prop := fr mo_px M M1 ∧ ro M1 = σ ∧ ak_I M1 483 0 = 0
section SPS
variable {X : ak_X} {M M1 M2 : ak_M} {nk nw ne : Nat} {σ : Nat → Int32} {ν : Nat → Nat}
theorem mq.pp (h : mq σ M M1) (f : fr mo_pp M1 M2) (e : ro M2 = ro M1) : mq σ M M2 :=
  ⟨h.1.tr (f.mo fun _ _ h => Or.inl h), e.trans h.2.1, (f.2.1 483 0 fun e => by unfold mo_pp mo_ou mo_pq at e; omega).trans h.2.2⟩
theorem mq.ou (h : mq σ M M1) (f : fr mo_ou M1 M2) : mq σ M M2 :=
  h.pp (f.mo fun _ _ h => Or.inl h) (f.row fun q e => by unfold mo_ou at e; omega)
theorem mp_310i (hv : vs σ nk nw ne) (hn : ∀ k, k < nk → ν k < 387420489 ∧ kf σ k 14 = nI (ν k)) {i : Nat} (hi : i < nk) {l : List Int32} (hl : l.length + 14 * tri (nk - i) ≤ 630) {N : ak_O × ak_M → Prop}
    (go : ∀ M1, mq σ M M1 → Om1 (ppi σ ν i l (nk - 1 - i)) M1 → ∃ r, N r ∧ sg X 310 (12, [some (.ref 483), some (.int (nI (i + 1))), some (.int (nI nk))], [], []) M1 r) :
    ∀ e d, d + e = nk - 1 - i → ∀ M1, mq σ M M1 → Om1 (ppi σ ν i l d) M1 → ∃ r, N r ∧ sg X 310 (24, [some (.ref 483), some (.int (nI i)), some (.int (nI (i + 1 + d)))], [], []) M1 r := by
  have h10 := hv.1.1
  intro e
  induction e with
  | zero =>
    intro d hd M1 f1 o1
    have ed : d = nk - 1 - i := by omega
    have ej : i + 1 + d = nk := by omega
    rw [ed] at o1
    obtain ⟨r, hN, hs⟩ := go M1 f1 o1
    have s := sm_168 (X := X) f1.1.1
    rw [f1.2.1] at s
    refine ⟨r, hN, t_310_24 f1.1.1 _ _ ⟨_, M1, f1.1.1, s, mb_y (by rw [ej]; exact ct_ge hv.1) ?_⟩⟩
    rw [mi_s, ej]
    exact hs
  | succ e ih =>
    intro d hd M1 f1 o1
    have hj : i + 1 + d < nk := by omega
    have hL1 := ppi_l (σ := σ) (ν := ν) (i := i) (l := l) d
    have ht : tri (nk - i) = tri (nk - 1 - i) + (nk - 1 - i) := by rw [show nk - i = nk - 1 - i + 1 by omega]; rfl
    obtain ⟨M2, f2, o2, e2, T⟩ := sm_pair (X := X) (M := M1) (ν := ν) f1.1.1 o1 (by rw [f1.2.1]; exact hv) (by rw [f1.2.1]; exact hn) hi hj (by omega)
    rw [f1.2.1] at o2
    obtain ⟨r, hN, hs⟩ := ih (d + 1) (by omega) M2 (f1.pp f2 e2) o2
    have s := sm_168 (X := X) f1.1.1
    rw [f1.2.1] at s
    refine ⟨r, hN, t_310_24 f1.1.1 _ _ ⟨_, M1, f1.1.1, s, mb_n (ct_lt hv.1 hj) (T (fun Mx r => sg X 310 (24, [some (.ref 483), some (.int (nI i)), some (.int (nI (i + 1 + d) + 1))], [], []) Mx r) r ?_)⟩⟩
    show sg X 310 (24, [some (.ref 483), some (.int (nI i)), some (.int (nI (i + 1 + d) + 1))], [], []) M2 r
    rw [mi_s]
    exact hs
/-- the model's end: the hyphen -/
theorem mo_hyp {l : List Int32} (f1 : mq σ M M1) (o1 : Om1 l M1) : ∃ M', mq σ M M' ∧ Om1 (hyp l) M' ∧ (if ak_I M1 483 28 = 0 then (∃ (M5 : ak_M), ab_lay M5 ∧ rn X 294 [.ref 483, .int 45] M1 (.inl (none), M5) ∧ (Sum.inl (some (.int (nI (hyp l).length))), M') = ((.inl (some (.int (ak_I M5 483 28))), M5) : ak_O × ak_M)) else (Sum.inl (some (.int (nI (hyp l).length))), M') = ((.inl (some (.int (ak_I M1 483 28))), M1) : ak_O × ak_M)) := by
  have e1 := o1.2.1
  have h6 := o1.1
  have c0 : nI l.length = 0 ↔ l = [] := by
    rw [show (0 : Int32) = nI 0 from rfl, mi_eq (by omega) (by decide)]
    exact List.length_eq_zero_iff
  unfold hyp
  by_cases c : l = []
  · rw [if_pos c]
    subst c
    obtain ⟨M2, r, f, o⟩ := sm_294 (X := X) f1.1.1 o1 (by decide) 45
    exact ⟨M2, f1.ou f, o, mb_y (by rw [e1]; rfl) ⟨M2, f.1, r, by rw [o.2.1]; rfl⟩⟩
  · rw [if_neg c]
    exact ⟨M1, f1, o1, mb_n (by rw [e1]; exact fun e => c (c0.mp e)) (by rw [e1])⟩
theorem mq0 (hL : ab_lay M) : mq (ro M) M (ak_sI (to M 0) 483 28 0) ∧ Om1 [] (ak_sI (to M 0) 483 28 0) := by
  have l1 := to_L hL 0
  have z := Om1_0 l1
  have f0 : fr mo_px M (to M 0) := (fr.rf hL).st (Or.inr ⟨rfl, rfl⟩)
  refine ⟨⟨f0.tr (z.1.mo fun _ _ h => Or.inl (Or.inl h)), ?_, ?_⟩, z.2⟩
  · show ak_I (ak_sI (to M 0) 483 28 0) 484 = ak_I M 484
    rw [mb_sIr (by decide)]
    exact mb_sIr (by decide)
  · rw [mb_sIk (by decide)]
    exact to_0 _
theorem mp_310 (hL : ab_lay M) (hv : vs (ro M) nk nw ne) (hn : ∀ k, k < nk → ν k < 387420489 ∧ kf (ro M) k 14 = nI (ν k)) : ∃ M', rn X 310 [.ref 483] M (.inl (some (.int (nI (hyp (pps (ro M) ν nk nk)).length))), M') ∧ mq (ro M) M M' ∧ Om1 (hyp (pps (ro M) ν nk nk)) M' := by
  have h10 := hv.1.1
  have q0 := mq0 hL
  generalize ro M = σ at hv hn q0 ⊢
  have H : ∀ e i, i + e = nk → ∀ M1 o2, mq σ M M1 → Om1 (pps σ ν nk i) M1 → (pps σ ν nk i).length + 14 * tri (nk - i) ≤ 630 → ∃ r : ak_O × ak_M, (∃ M', r = (.inl (some (.int (nI (hyp (pps σ ν nk nk)).length))), M') ∧ mq σ M M' ∧ Om1 (hyp (pps σ ν nk nk)) M') ∧ sg X 310 (12, [some (.ref 483), some (.int (nI i)), o2], [], []) M1 r := by
    intro e
    induction e with
    | zero =>
      intro i hi M1 o2 f1 o1 hl
      have ei : i = nk := by omega
      rw [ei] at o1
      obtain ⟨M2, f2, q2, T⟩ := mo_hyp (X := X) f1 o1
      have s := sm_168 (X := X) f1.1.1
      rw [f1.2.1] at s
      exact ⟨_, ⟨M2, rfl, f2, q2⟩, t_310_12 f1.1.1 _ _ ⟨_, M1, f1.1.1, s, mb_y (by rw [ei]; exact ct_ge hv.1) T⟩⟩
    | succ e ih =>
      intro i hi M1 o2 f1 o1 hl
      have hi' : i < nk := by omega
      have ht : tri (nk - i) = tri (nk - 1 - i) + (nk - 1 - i) := by rw [show nk - i = nk - 1 - i + 1 by omega]; rfl
      obtain ⟨r, hr, hs⟩ := mp_310i (X := X) (M := M) hv hn hi' (l := pps σ ν nk i) hl (N := fun r => ∃ M', r = (.inl (some (.int (nI (hyp (pps σ ν nk nk)).length))), M') ∧ mq σ M M' ∧ Om1 (hyp (pps σ ν nk nk)) M') (fun M2 f2 q2 => by
        have hp := ppi_l (σ := σ) (ν := ν) (i := i) (l := pps σ ν nk i) (nk - 1 - i)
        refine ih (i + 1) (by omega) M2 _ f2 q2 ?_
        show (ppi σ ν i (pps σ ν nk i) (nk - 1 - i)).length + _ ≤ _
        rw [show nk - (i + 1) = nk - 1 - i by omega]
        omega) (nk - 1 - i) 0 (by omega) M1 f1 o1
      have s := sm_168 (X := X) f1.1.1
      rw [f1.2.1] at s
      refine ⟨r, hr, t_310_12 f1.1.1 _ _ ⟨_, M1, f1.1.1, s, mb_n (ct_lt hv.1 hi') ?_⟩⟩
      rw [mi_s]
      exact hs
  have t45 := tri_le nk h10
  obtain ⟨r, ⟨M', e, f, o⟩, hs⟩ := H nk 0 (by omega) _ none q0.1 q0.2 (by show 0 + _ ≤ _; rw [Nat.sub_zero]; omega)
  subst e
  refine ⟨M', t_310 hL fun N e N2 e2 => ?_, f, o⟩
  subst e
  subst e2
  exact hs
end SPS
