/-! all pairs printed: the class -/
def tri : Nat → Nat
  | 0 => 0
  | m + 1 => tri m + m
theorem tri_le : ∀ n, n ≤ 10 → tri n ≤ 45 := by decide
section SPQ
variable {X : ak_X} {M M1 : ak_M} {nk nw ne fe : Nat} {σ : Nat → Int32} {ν : Nat → Nat}
theorem sk_139i (hv : vs σ nk nw ne) (hR : Rb 65 σ nk nw ne fe M) (hN : Nc ν nk M) {i : Nat} (hi : i < nk) {l : List Int32} (hl : l.length + 14 * tri (nk - i) ≤ 630) {N : ak_O × ak_M → Prop}
    (go : ∀ M1, fr cOX M M1 → Oc1 (ppi σ ν i l (nk - 1 - i)) M1 → ∃ r, N r ∧ sg X 139 (10, [some (.ref 0), some (.int (nI (i + 1))), some (.int (nI nk))], [], []) M1 r) :
    ∀ e d, d + e = nk - 1 - i → ∀ M1, fr cOX M M1 → Oc1 (ppi σ ν i l d) M1 → ∃ r, N r ∧ sg X 139 (25, [some (.ref 0), some (.int (nI i)), some (.int (nI (i + 1 + d)))], [], []) M1 r := by
  have h10 := hv.1.1
  have rR : ∀ {M1}, fr cOX M M1 → Rb 65 σ nk nw ne fe M1 := fun f => hR.fr hv.1 f fun p k e => by unfold cOX cO cX at e; omega
  intro e
  induction e with
  | zero =>
    intro d hd M1 f1 o1
    have ed : d = nk - 1 - i := by omega
    have ej : i + 1 + d = nk := by omega
    rw [ed] at o1
    obtain ⟨r, hN, hs⟩ := go M1 f1 o1
    refine ⟨r, hN, t_139_25 f1.1 _ _ (mb_y (by rw [(rR f1).2.1.1, ej]; exact ct_ge hv.1) ?_)⟩
    rw [mi_s, ej]
    exact hs
  | succ e ih =>
    intro d hd M1 f1 o1
    have hj : i + 1 + d < nk := by omega
    have hL1 := ppi_l (σ := σ) (ν := ν) (i := i) (l := l) d
    have ht : tri (nk - i) = tri (nk - 1 - i) + (nk - 1 - i) := by rw [show nk - i = nk - 1 - i + 1 by omega]; rfl
    obtain ⟨M2, f2, o2, T⟩ := sk_pair (X := X) f1.1 o1 (rR f1) hv (hN.fr f1) hi hj (by omega)
    obtain ⟨r, hN, hs⟩ := ih (d + 1) (by omega) M2 (f1.tr f2) o2
    refine ⟨r, hN, t_139_25 f1.1 _ _ (mb_n (by rw [(rR f1).2.1.1]; exact ct_lt hv.1 hj) (T (fun Mx r => sg X 139 (25, [some (.ref 0), some (.int (nI i)), some (.int (nI (i + 1 + d) + 1))], [], []) Mx r) r ?_))⟩
    show sg X 139 (25, [some (.ref 0), some (.int (nI i)), some (.int (nI (i + 1 + d) + 1))], [], []) M2 r
    rw [mi_s]
    exact hs
theorem cp_139 (hL : ab_lay M) (hR : Rb 65 σ nk nw ne fe M) (hv : vs σ nk nw ne) (hN : Nc ν nk M) : ∃ M', rn X 139 [.ref 0] M (.inl (some (.int (nI (hyp (pps σ ν nk nk)).length))), M') ∧ fr cOX M M' ∧ Oc1 (hyp (pps σ ν nk nk)) M' := by
  have h10 := hv.1.1
  have rR : ∀ {M1}, fr cOX M M1 → Rb 65 σ nk nw ne fe M1 := fun f => hR.fr hv.1 f fun p k e => by unfold cOX cO cX at e; omega
  have H : ∀ e i, i + e = nk → ∀ M1 o2, fr cOX M M1 → Oc1 (pps σ ν nk i) M1 → (pps σ ν nk i).length + 14 * tri (nk - i) ≤ 630 → ∃ r : ak_O × ak_M, (∃ M', r = (.inl (some (.int (nI (hyp (pps σ ν nk nk)).length))), M') ∧ fr cOX M M' ∧ Oc1 (hyp (pps σ ν nk nk)) M') ∧ sg X 139 (10, [some (.ref 0), some (.int (nI i)), o2], [], []) M1 r := by
    intro e
    induction e with
    | zero =>
      intro i hi M1 o2 f1 o1 hl
      have ei : i = nk := by omega
      rw [ei] at o1
      obtain ⟨M2, r2, f2, q2⟩ := sk_56 (X := X) f1.1 o1
      refine ⟨_, ⟨M2, rfl, f1.tr (f2.mo fun _ _ h => Or.inl h), q2⟩, t_139_10 f1.1 _ _ (mb_y (by rw [(rR f1).2.1.1, ei]; exact ct_ge hv.1) ⟨M2, f2.1, r2, ?_⟩)⟩
      rw [q2.2.1]
    | succ e ih =>
      intro i hi M1 o2 f1 o1 hl
      have hi' : i < nk := by omega
      have ht : tri (nk - i) = tri (nk - 1 - i) + (nk - 1 - i) := by rw [show nk - i = nk - 1 - i + 1 by omega]; rfl
      obtain ⟨r, hr, hs⟩ := sk_139i (X := X) hv (rR f1) (hN.fr f1) hi' (l := pps σ ν nk i) hl (N := fun r => ∃ M', r = (.inl (some (.int (nI (hyp (pps σ ν nk nk)).length))), M') ∧ fr cOX M M' ∧ Oc1 (hyp (pps σ ν nk nk)) M') (fun M2 f2 q2 => by
        have hp := ppi_l (σ := σ) (ν := ν) (i := i) (l := pps σ ν nk i) (nk - 1 - i)
        refine ih (i + 1) (by omega) M2 _ (f1.tr f2) q2 ?_
        show (ppi σ ν i (pps σ ν nk i) (nk - 1 - i)).length + _ ≤ _
        rw [show nk - (i + 1) = nk - 1 - i by omega]
        omega) (nk - 1 - i) 0 (by omega) M1 (fr.rf f1.1) o1
      refine ⟨r, hr, t_139_10 f1.1 _ _ (mb_n (by rw [(rR f1).2.1.1]; exact ct_lt hv.1 hi') ?_)⟩
      rw [mi_s]
      exact hs
  obtain ⟨f3, o3⟩ := Oc1_0 hL
  have t45 := tri_le nk h10
  obtain ⟨r, ⟨M', e, f, o⟩, hs⟩ := H nk 0 (by omega) (ak_sI M 3 1 0) none (f3.mo fun _ _ h => Or.inl h) o3 (by show 0 + _ ≤ _; rw [Nat.sub_zero]; omega)
  subst e
  exact ⟨M', t_139 hL fun N e => by rw [e]; exact hs, f, o⟩
end SPQ
