/-! a pair printed: the model -/
def mo_pp (p k : Nat) : Prop := mo_ou p k ∨ mo_pq p k
section SPR
variable {X : ak_X} {M M1 : ak_M} {l : List Int32} {i j nk nw ne : Nat} {ν : Nat → Nat}
theorem sm_pair (hL : ab_lay M) (h : Om1 l M) (hv : vs (ro M) nk nw ne) (hn : ∀ k, k < nk → ν k < 387420489 ∧ kf (ro M) k 14 = nI (ν k)) (hi : i < nk) (hj : j < nk) (hl : l.length + 22 ≤ 640) :
    ∃ M', fr mo_pp M M' ∧ Om1 (pp1 (ro M) ν i j l) M' ∧ ro M' = ro M ∧ ∀ (T : ak_M → ak_O × ak_M → Prop) (r : ak_O × ak_M), T M' r → (∃ (v13 : Int32) (M12 : ak_M), ab_lay M12 ∧ rn X 192 [.ref 483, .int (nI i), .int (nI j)] M (.inl (some (.int v13)), M12) ∧ (if v13 = 0 then T M12 r else (if ak_I M12 483 28 ≤ 0 then (∃ (v15 : Int32) (M14 : ak_M), ab_lay M14 ∧ rn X 171 [.ref 483, .int (nI i), .int 14] M12 (.inl (some (.int v15)), M14) ∧ (∃ (M16 : ak_M), ab_lay M16 ∧ rn X 306 [.ref 483, .int v15] M14 (.inl (none), M16) ∧ (∃ (v18 : Int32) (M17 : ak_M), ab_lay M17 ∧ rn X 196 [.ref 483, .int (nI i), .int (nI j)] M16 (.inl (some (.int v18)), M17) ∧ (if v18 = 0 then (∃ (M19 : ak_M), ab_lay M19 ∧ rn X 294 [.ref 483, .int 120] M17 (.inl (none), M19) ∧ (∃ (v21 : Int32) (M20 : ak_M), ab_lay M20 ∧ rn X 171 [.ref 483, .int (nI j), .int 14] M19 (.inl (some (.int v21)), M20) ∧ (∃ (M22 : ak_M), ab_lay M22 ∧ rn X 306 [.ref 483, .int v21] M20 (.inl (none), M22) ∧ T M22 r))) else (∃ (M26 : ak_M), ab_lay M26 ∧ rn X 294 [.ref 483, .int 42] M17 (.inl (none), M26) ∧ (∃ (v28 : Int32) (M27 : ak_M), ab_lay M27 ∧ rn X 171 [.ref 483, .int (nI j), .int 14] M26 (.inl (some (.int v28)), M27) ∧ (∃ (M29 : ak_M), ab_lay M29 ∧ rn X 306 [.ref 483, .int v28] M27 (.inl (none), M29) ∧ T M29 r))))))) else (∃ (M37 : ak_M), ab_lay M37 ∧ rn X 294 [.ref 483, .int 32] M12 (.inl (none), M37) ∧ (∃ (v39 : Int32) (M38 : ak_M), ab_lay M38 ∧ rn X 171 [.ref 483, .int (nI i), .int 14] M37 (.inl (some (.int v39)), M38) ∧ (∃ (M40 : ak_M), ab_lay M40 ∧ rn X 306 [.ref 483, .int v39] M38 (.inl (none), M40) ∧ (∃ (v42 : Int32) (M41 : ak_M), ab_lay M41 ∧ rn X 196 [.ref 483, .int (nI i), .int (nI j)] M40 (.inl (some (.int v42)), M41) ∧ (if v42 = 0 then (∃ (M43 : ak_M), ab_lay M43 ∧ rn X 294 [.ref 483, .int 120] M41 (.inl (none), M43) ∧ (∃ (v45 : Int32) (M44 : ak_M), ab_lay M44 ∧ rn X 171 [.ref 483, .int (nI j), .int 14] M43 (.inl (some (.int v45)), M44) ∧ (∃ (M46 : ak_M), ab_lay M46 ∧ rn X 306 [.ref 483, .int v45] M44 (.inl (none), M46) ∧ T M46 r))) else (∃ (M50 : ak_M), ab_lay M50 ∧ rn X 294 [.ref 483, .int 42] M41 (.inl (none), M50) ∧ (∃ (v52 : Int32) (M51 : ak_M), ab_lay M51 ∧ rn X 171 [.ref 483, .int (nI j), .int 14] M50 (.inl (some (.int v52)), M51) ∧ (∃ (M53 : ak_M), ab_lay M53 ∧ rn X 306 [.ref 483, .int v52] M51 (.inl (none), M53) ∧ T M53 r))))))))))) := by
  have h10 := hv.1.1
  have hi10 : i < 10 := by omega
  have hj10 : j < 10 := by omega
  have s := sm_192 (X := X) hL hi10 hj10
  have e1 := h.2.1
  have og : ∀ {N N' : ak_M}, fr mo_ou N N' → ro N' = ro N := fun f => f.row fun q e => by unfold mo_ou at e; omega
  have pg : ∀ {N N' : ak_M}, fr mo_pq N N' → ro N' = ro N := fun f => f.row fun q e => by unfold mo_pq at e; omega
  have po : ∀ {N N' : ak_M} {l : List Int32}, fr mo_pq N N' → Om1 l N → Om1 l N' := fun f o => ⟨o.1, by rw [f.2.1 483 28 fun e => by unfold mo_pq at e; omega]; exact o.2.1, fun q hq => by rw [f.row (p := 496) fun q e => by unfold mo_pq at e; omega]; exact o.2.2 q hq⟩
  cases hcr : mo_cross (ro M) i j
  · rw [hcr] at s
    refine ⟨M, fr.rf hL, ?_, rfl, fun T r t => ⟨_, M, hL, s, mb_y rfl t⟩⟩
    unfold pp1
    rw [if_neg (by rw [hcr]; decide)]
    exact h
  · rw [hcr] at s
    -- from the name of the first on
    have rest : ∀ {N : ak_M} {l' : List Int32}, fr mo_pp M N → ro N = ro M → Om1 l' N → l'.length + 21 ≤ 640 → ∃ M', fr mo_pp M M' ∧ Om1 (pk1 (l' ++ nmb ν i) (if mo_rub (ro M) i j = true then 42 else 120) ++ nmb ν j) M' ∧ ro M' = ro M ∧ ∀ (T : ak_M → ak_O × ak_M → Prop) (r : ak_O × ak_M), T M' r → (∃ (v15 : Int32) (M14 : ak_M), ab_lay M14 ∧ rn X 171 [.ref 483, .int (nI i), .int 14] N (.inl (some (.int v15)), M14) ∧ (∃ (M16 : ak_M), ab_lay M16 ∧ rn X 306 [.ref 483, .int v15] M14 (.inl (none), M16) ∧ (∃ (v18 : Int32) (M17 : ak_M), ab_lay M17 ∧ rn X 196 [.ref 483, .int (nI i), .int (nI j)] M16 (.inl (some (.int v18)), M17) ∧ (if v18 = 0 then (∃ (M19 : ak_M), ab_lay M19 ∧ rn X 294 [.ref 483, .int 120] M17 (.inl (none), M19) ∧ (∃ (v21 : Int32) (M20 : ak_M), ab_lay M20 ∧ rn X 171 [.ref 483, .int (nI j), .int 14] M19 (.inl (some (.int v21)), M20) ∧ (∃ (M22 : ak_M), ab_lay M22 ∧ rn X 306 [.ref 483, .int v21] M20 (.inl (none), M22) ∧ T M22 r))) else (∃ (M26 : ak_M), ab_lay M26 ∧ rn X 294 [.ref 483, .int 42] M17 (.inl (none), M26) ∧ (∃ (v28 : Int32) (M27 : ak_M), ab_lay M27 ∧ rn X 171 [.ref 483, .int (nI j), .int 14] M26 (.inl (some (.int v28)), M27) ∧ (∃ (M29 : ak_M), ab_lay M29 ∧ rn X 306 [.ref 483, .int v28] M27 (.inl (none), M29) ∧ T M29 r))))))) := by
      intro N l' g eN o hl'
      have s1 := sm_171 (X := X) (w := 14) g.1 hi10 (by decide)
      rw [eN, (hn i hi).2] at s1
      obtain ⟨M16, r16, f16, o16⟩ := sm_306 (X := X) g.1 o (by omega) (hn i hi).1
      have e16 : ro M16 = ro M := (og f16).trans eN
      obtain ⟨M17, r17, f17⟩ := sm_196 (X := X) f16.1 hi10 hj10 (by rw [e16]; exact hv.kp hi) (by rw [e16]; exact hv.kp hj)
      rw [e16] at r17
      have e17 : ro M17 = ro M := (pg f17).trans e16
      have o17 := po f17 o16
      have g17 : fr mo_pp M M17 := (g.tr (f16.mo fun _ _ h => Or.inl h)).tr (f17.mo fun _ _ h => Or.inr h)
      have Ln := nmb_l (ν := ν) (i := i)
      have L17 : (l' ++ nmb ν i).length < 640 := by rw [List.length_append]; omega
      cases hrb : mo_rub (ro M) i j
      · rw [hrb] at r17
        obtain ⟨M19, r19, f19, o19⟩ := sm_294 (X := X) g17.1 o17 L17 120
        have e19 : ro M19 = ro M := (og f19).trans e17
        have s2 := sm_171 (X := X) (w := 14) f19.1 hj10 (by decide)
        rw [e19, (hn j hj).2] at s2
        obtain ⟨M22, r22, f22, o22⟩ := sm_306 (X := X) f19.1 o19 (by show (l' ++ nmb ν i ++ [by8 120]).length + 8 ≤ 640; rw [List.length_append, List.length_append, List.length_singleton]; omega) (hn j hj).1
        exact ⟨M22, (g17.tr (f19.mo fun _ _ h => Or.inl h)).tr (f22.mo fun _ _ h => Or.inl h), o22, (og f22).trans e19, fun T r t => ⟨_, N, g.1, s1, M16, f16.1, r16, _, M17, g17.1, r17, mb_y rfl ⟨M19, f19.1, r19, _, M19, f19.1, s2, M22, f22.1, r22, t⟩⟩⟩
      · rw [hrb] at r17
        obtain ⟨M19, r19, f19, o19⟩ := sm_294 (X := X) g17.1 o17 L17 42
        have e19 : ro M19 = ro M := (og f19).trans e17
        have s2 := sm_171 (X := X) (w := 14) f19.1 hj10 (by decide)
        rw [e19, (hn j hj).2] at s2
        obtain ⟨M22, r22, f22, o22⟩ := sm_306 (X := X) f19.1 o19 (by show (l' ++ nmb ν i ++ [by8 42]).length + 8 ≤ 640; rw [List.length_append, List.length_append, List.length_singleton]; omega) (hn j hj).1
        exact ⟨M22, (g17.tr (f19.mo fun _ _ h => Or.inl h)).tr (f22.mo fun _ _ h => Or.inl h), o22, (og f22).trans e19, fun T r t => ⟨_, N, g.1, s1, M16, f16.1, r16, _, M17, g17.1, r17, mb_n (by decide) ⟨M19, f19.1, r19, _, M19, f19.1, s2, M22, f22.1, r22, t⟩⟩⟩
    have ep : pp1 (ro M) ν i j l = pk1 (gap l ++ nmb ν i) (if mo_rub (ro M) i j = true then 42 else 120) ++ nmb ν j := if_pos hcr
    rw [ep]
    by_cases c : l = []
    · have eg : gap l = l := by unfold gap; rw [if_pos c, c]
      rw [eg]
      obtain ⟨M', g', o', e', T'⟩ := rest (fr.rf hL) rfl h (by omega)
      exact ⟨M', g', o', e', fun T r t => ⟨_, M, hL, s, mb_n (by decide) (mb_y (by rw [e1]; exact (ln_0 l (by omega)).mpr c) (T' T r t))⟩⟩
    · have eg : gap l = l ++ [by8 32] := if_neg c
      rw [eg]
      obtain ⟨M37, r37, f37, o37⟩ := sm_294 (X := X) hL h (by omega) 32
      obtain ⟨M', g', o', e', T'⟩ := rest (f37.mo fun _ _ h => Or.inl h) (og f37) o37 (by rw [List.length_append, List.length_singleton]; omega)
      exact ⟨M', g', o', e', fun T r t => ⟨_, M, hL, s, mb_n (by decide) (mb_n (by rw [e1]; exact fun e => c ((ln_0 l (by omega)).mp e)) ⟨M37, f37.1, r37, T' T r t⟩)⟩⟩
end SPR
