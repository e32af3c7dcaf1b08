/-! pairs printed: the class -/
def nmb (ν : Nat → Nat) (k : Nat) : List Int32 := (lts 5 (ν k)).map by8
/-- one pair more -/
def pp1 (σ : Nat → Int32) (ν : Nat → Nat) (i j : Nat) (l : List Int32) : List Int32 := if mo_cross σ i j = true then pk1 (gap l ++ nmb ν i) (if mo_rub σ i j = true then 42 else 120) ++ nmb ν j else l
def ppi (σ : Nat → Int32) (ν : Nat → Nat) (i : Nat) (l : List Int32) : Nat → List Int32
  | 0 => l
  | d + 1 => pp1 σ ν i (i + 1 + d) (ppi σ ν i l d)
def pps (σ : Nat → Int32) (ν : Nat → Nat) (n : Nat) : Nat → List Int32
  | 0 => []
  | i + 1 => ppi σ ν i (pps σ ν n i) (n - 1 - i)
def cOX (p k : Nat) : Prop := cO p k ∨ cX 65 p k
section SPP
variable {X : ak_X} {M M1 : ak_M} {l : List Int32} {i j nk nw ne fe : Nat} {σ : Nat → Int32} {ν : Nat → Nat}
theorem nmb_l : (nmb ν i).length ≤ 6 := by unfold nmb; rw [List.length_map]; exact lts_l 5 _
theorem gap_l : (gap l).length ≤ l.length + 1 := by
  unfold gap
  split
  · exact Nat.zero_le _
  · rw [List.length_append, List.length_singleton]; exact Nat.le_refl _
theorem pp1_l : (pp1 σ ν i j l).length ≤ l.length + 14 := by
  unfold pp1
  split
  · rw [List.length_append, pk1_l, List.length_append]
    have := nmb_l (ν := ν) (i := i)
    have := nmb_l (ν := ν) (i := j)
    have := gap_l (l := l)
    omega
  · omega
theorem ppi_l : ∀ d, (ppi σ ν i l d).length ≤ l.length + 14 * d
  | 0 => Nat.le_refl _
  | d + 1 => by
    have a := ppi_l d
    have b := pp1_l (σ := σ) (ν := ν) (i := i) (j := i + 1 + d) (l := ppi σ ν i l d)
    show (pp1 σ ν i (i + 1 + d) (ppi σ ν i l d)).length ≤ _
    omega
theorem Nc.fr (h : Nc ν nk M) (f : fr cOX M M1) : Nc ν nk M1 :=
  ⟨h.1, by rw [f.row (p := 52) fun q e => by unfold cOX cO cX at e; omega]; exact h.2.1, fun q hq => by
    rw [f.row (p := 64) fun q e => by unfold cOX cO cX at e; omega]
    have h10 := h.1
    exact ⟨(h.2.2 q hq).1, (h.2.2 q hq).2.1, fun j hj => by rw [f.row (p := 54 + q) fun u e => by unfold cOX cO cX at e; omega]; exact (h.2.2 q hq).2.2 j hj⟩⟩
theorem sk_pair (hL : ab_lay M) (h : Oc1 l M) (hR : Rb 65 σ nk nw ne fe M) (hv : vs σ nk nw ne) (hN : Nc ν nk M) (hi : i < nk) (hj : j < nk) (hl : l.length + 20 ≤ 640) :
    ∃ M', fr cOX M M' ∧ Oc1 (pp1 σ ν i j l) M' ∧ ∀ (T : ak_M → ak_O × ak_M → Prop) (r : ak_O × ak_M), T M' r → (∃ (v6 : Int32) (M5 : ak_M), ab_lay M5 ∧ rn X 13 [.ref 65, .int (nI i), .int (nI j)] M (.inl (some (.int v6)), M5) ∧ (if v6 = 0 then T M5 r else (∃ (M7 : ak_M), ab_lay M7 ∧ rn X 55 [.ref 3] M5 (.inl (none), M7) ∧ (∃ (M8 : ak_M), ab_lay M8 ∧ rn X 58 [.ref 3, .ref 52, .int (nI i)] M7 (.inl (none), M8) ∧ (∃ (v10 : Int32) (M9 : ak_M), ab_lay M9 ∧ rn X 14 [.ref 65, .int (nI i), .int (nI j)] M8 (.inl (some (.int v10)), M9) ∧ (if v10 = 0 then (∃ (M11 : ak_M), ab_lay M11 ∧ rn X 54 [.ref 3, .int 120] M9 (.inl (none), M11) ∧ (∃ (M12 : ak_M), ab_lay M12 ∧ rn X 58 [.ref 3, .ref 52, .int (nI j)] M11 (.inl (none), M12) ∧ T M12 r)) else (∃ (M15 : ak_M), ab_lay M15 ∧ rn X 54 [.ref 3, .int 42] M9 (.inl (none), M15) ∧ (∃ (M16 : ak_M), ab_lay M16 ∧ rn X 58 [.ref 3, .ref 52, .int (nI j)] M15 (.inl (none), M16) ∧ T M16 r)))))))) := by
  have hc := hv.1
  have oR : ∀ {N N' : ak_M}, fr cO N N' → Rb 65 σ nk nw ne fe N → Rb 65 σ nk nw ne fe N' := fun f R => R.fr hc f fun p k e => by unfold cO at e; omega
  have xO : ∀ {N N' : ak_M} {l : List Int32}, fr (cX 65) N N' → Oc1 l N → Oc1 l N' := fun f o => ⟨o.1, by rw [f.row (p := 3) fun q e => by unfold cX at e; omega]; exact o.2.1, fun q hq => by rw [f.row (p := 4) fun q e => by unfold cX at e; omega]; exact o.2.2 q hq⟩
  obtain ⟨M5, r5, f5, -⟩ := sk_13 (X := X) hL h65 hR hc hi hj (hv.kp hi) (hv.kp hj)
  have g5 : fr cOX M M5 := f5.mo fun _ _ h => Or.inr h
  have R5 := hR.fr hc f5 cX_out
  have o5 := xO f5 h
  cases hcr : mo_cross σ i j
  · rw [hcr] at r5
    refine ⟨M5, g5, ?_, fun T r t => ⟨_, M5, f5.1, r5, mb_y rfl t⟩⟩
    unfold pp1
    rw [if_neg (by rw [hcr]; decide)]
    exact o5
  · rw [hcr] at r5
    obtain ⟨M7, r7, f7, o7⟩ := sk_55 (X := X) f5.1 o5 (by omega)
    have g7 : fr cOX M M7 := g5.tr (f7.mo fun _ _ h => Or.inl h)
    have L7 := gap_l (l := l)
    obtain ⟨M8, r8, f8, o8⟩ := sk_58 (X := X) f7.1 o7 (hN.fr g7) hi (by omega)
    have g8 : fr cOX M M8 := g7.tr (f8.mo fun _ _ h => Or.inl h)
    have L8 := nmb_l (ν := ν) (i := i)
    obtain ⟨M9, r9, f9⟩ := sk_14 (X := X) f8.1 h65 (oR f8 (oR f7 R5)) hc hi hj (hv.kp hi) (hv.kp hj)
    have g9 : fr cOX M M9 := g8.tr (f9.mo fun _ _ h => Or.inr h)
    have o9 : Oc1 (gap l ++ nmb ν i) M9 := xO f9 o8
    have L9 : (gap l ++ nmb ν i).length < 640 := by rw [List.length_append]; omega
    cases hrb : mo_rub σ i j
    · rw [hrb] at r9
      obtain ⟨M11, r11, f11, o11⟩ := sk_54 (X := X) f9.1 o9 L9 120
      have g11 : fr cOX M M11 := g9.tr (f11.mo fun _ _ h => Or.inl h)
      obtain ⟨M12, r12, f12, o12⟩ := sk_58 (X := X) f11.1 o11 (hN.fr g11) hj (by rw [List.length_append, List.length_append, List.length_singleton]; omega)
      refine ⟨M12, g11.tr (f12.mo fun _ _ h => Or.inl h), ?_, fun T r t => ⟨_, M5, f5.1, r5, mb_n (by decide) ⟨M7, f7.1, r7, M8, f8.1, r8, _, M9, f9.1, r9, mb_y rfl ⟨M11, f11.1, r11, M12, f12.1, r12, t⟩⟩⟩⟩
      unfold pp1
      rw [if_pos hcr, if_neg (by rw [hrb]; decide)]
      exact o12
    · rw [hrb] at r9
      obtain ⟨M11, r11, f11, o11⟩ := sk_54 (X := X) f9.1 o9 L9 42
      have g11 : fr cOX M M11 := g9.tr (f11.mo fun _ _ h => Or.inl h)
      obtain ⟨M12, r12, f12, o12⟩ := sk_58 (X := X) f11.1 o11 (hN.fr g11) hj (by rw [List.length_append, List.length_append, List.length_singleton]; omega)
      refine ⟨M12, g11.tr (f12.mo fun _ _ h => Or.inl h), ?_, fun T r t => ⟨_, M5, f5.1, r5, mb_n (by decide) ⟨M7, f7.1, r7, M8, f8.1, r8, _, M9, f9.1, r9, mb_n (by decide) ⟨M11, f11.1, r11, M12, f12.1, r12, t⟩⟩⟩⟩
      unfold pp1
      rw [if_pos hcr, if_pos hrb]
      exact o12
end SPP
