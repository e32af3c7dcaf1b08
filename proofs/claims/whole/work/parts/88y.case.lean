/-! the cases of the law -/
/-- from a place of the law on it answers 1, within the room -/
def Dn (X : ak_X) (pc i : Nat) (o6 o7 o8 o9 : Option Value) (l2 : List (Nat × Value)) (M : ak_M) : Prop := ∃ M', sg X 364 (pc, [some (.ref 1000000), some (.ref 0), some (.ref 483), some (.ref 497), some (.ref 498), some (.int (nI (6 * i))), o6, o7, o8, o9], l2, []) M (.inl (some (.int 1)), M') ∧ ak_C M' ≤ 601024 ∧ ak_Z M' ≤ 7293034
def Nxt (X : ak_X) (i : Nat) (M : ak_M) : Prop := ∀ M2, JJ M2 → ak_C M2 ≤ ak_C M + 3 → ak_Z M2 ≤ ak_Z M + 12 → ∀ o6 o7 o8 o9 l2, Dn X 3274 i o6 o7 o8 o9 l2 M2
theorem cdI_z (a : Nat) : ∀ E, ¬ cdI a E = 0 := fun E => by
  unfold cdI
  split <;> decide
theorem cd3_z : ∀ E, ¬ cd3 E = 0 := fun E => by
  unfold cd3
  split
  · decide
  · split <;> decide
theorem lgc (x : Int64) : lg_cmp x x = 0 := (lg_cmp_eq x x).mpr rfl
section SLC
variable {X : ak_X} {M M1 M2 : ak_M} {i : Nat} {S : Nat → Nat → Prop}
theorem sm_154 (hL : ab_lay M) : rn X 154 [.ref 483] M (.inl (some (.int (ak_I M 483 0))), M) := t_154 hL rfl
theorem lx {n : Nat} (h3 : n ≤ 3072) (j : Nat) (hj : 6 * i + j < n) : ab_ix (nI (6 * i) + nI j) (6 * i + j) n := mb_ixe (mi_add _ _) hj h3
theorem fin_q {A B B' : Prop} {x : Int32} {cd : Nat → Int32} {o : Int32 ⊕ Nat} (hcd : ∀ E, ¬ cd E = 0) (ht : ak_I M2 483 0 = tc cd o) (hl : ∀ w, o = .inl w → ak_L M2 497 0 = w.toInt64 ∧ x = w) (a : A) : if ak_I M2 483 0 = tc cd o then (if tc cd o = 0 then (if lg_cmp (ak_L M2 497 0) x.toInt64 = 0 then A else B) else A) else B' := by
  refine mb_y ht ?_
  cases o with
  | inl w =>
    obtain ⟨e1, e2⟩ := hl w rfl
    exact mb_y rfl (mb_y (by rw [e1, e2]; exact lgc _) a)
  | inr E => exact mb_n (hcd E) a
theorem cX_5 {p k : Nat} (h : cX 65 p k) : sc5 p k := Or.inl h
theorem cS_5 {p k : Nat} (h : cS 97 p k) : sc5 p k := Or.inr (Or.inl h)
theorem q1_5 {p k : Nat} (h : mo_q1 p k) : sc5 p k := by unfold mo_q1 at h; unfold sc5; omega
theorem fc_5 {p k : Nat} (h : mo_fc p k) : sc5 p k := by unfold mo_fc mo_q1 at h; unfold sc5; omega
theorem b_C (f : fr S M1 M2) (h : ak_C M1 ≤ ak_C M + 3) : ak_C M2 ≤ ak_C M + 3 := by rw [f.2.2.2.2.1]; exact h
theorem b_Z (f : fr S M1 M2) (h : ak_Z M1 ≤ ak_Z M + 12) : ak_Z M2 ≤ ak_Z M + 12 := by rw [f.2.2.2.2.2]; exact h
theorem fx_C (f : fx S M M1) : ak_C M1 ≤ ak_C M + 3 := Nat.le_trans f.2.2.1 (by omega)
theorem lc_425 (hX : 6 * i + 6 ≤ X.1) (h3 : X.1 ≤ 3072) (hJ : JJ M) (K : Nxt X i M) (o6 o7 o8 o9 : Option Value) (l2 : List (Nat × Value)) : Dn X 425 i o6 o7 o8 o9 l2 M := by
  have hJ' := hJ
  obtain ⟨hL, ji, ⟨ν, ρ, hn, hf, nk, nw, ne, fe, jf⟩, jc, jo⟩ := hJ
  have jf' := jf
  obtain ⟨hR, hv, hN, hNV, hHc, hHm, hNρ, hsv⟩ := jf'
  obtain ⟨M1, r1, f1⟩ := ca_92 (X := X) hL hR hv (X.2.1 (6 * i + 1))
  have l1 := f1.1
  have e1 : ro M1 = ro M := f1.w.row fun k e => by unfold cX at e; omega
  have eh : ak_I M 161 2 = ak_I M1 483 7 := by
    rw [hHc.2.2.1, f1.2.1 483 7 fun e => by unfold cX at e; omega, hHm.2.1]
  rw [eh] at r1
  obtain ⟨M2, v, r2, f2, t2, w2⟩ := cm_215 (X := X) l1 e1 hv (X.2.1 (6 * i + 1)) (cdI 0)
  have ev := w2 _ rfl
  subst ev
  have J2 : JJ M2 := hJ'.w ((f1.w.mo fun _ _ => cX_5).tr (f2.w.mo fun _ _ => q1_5))
  obtain ⟨M', hs, b1, b2⟩ := K M2 J2 (b_C f2 (fx_C f1)) (b_Z f2 f1.2.2.2) o6 o7 o8 o9 l2
  exact ⟨M', t_364_425 hL _ _ _ _ _ _ ⟨_, lx h3 1 (by omega), _, M1, l1, r1, _, lx h3 1 (by omega), _, M2, f2.1, r2, mb_y rfl hs⟩, b1, b2⟩
theorem lc_450 (hX : 6 * i + 6 ≤ X.1) (h3 : X.1 ≤ 3072) (hJ : JJ M) (K : Nxt X i M) (o6 o7 o8 o9 : Option Value) (l2 : List (Nat × Value)) : Dn X 450 i o6 o7 o8 o9 l2 M := by
  have hJ' := hJ
  obtain ⟨hL, ji, ⟨ν, ρ, hn, hf, nk, nw, ne, fe, jf⟩, jc, jo⟩ := hJ
  have jf' := jf
  obtain ⟨hR, hv, hN, hNV, hHc, hHm, hNρ, hsv⟩ := jf'
  obtain ⟨M1, r1, f1⟩ := ca_93 (X := X) hL hR (X.2.1 (6 * i + 1))
  have l1 := f1.1
  have e1 : ro M1 = ro M := f1.w.row fun k e => by unfold cX at e; omega
  obtain ⟨M2, v, r2, f2, t2, w2⟩ := cm_216 (X := X) l1 e1 (X.2.1 (6 * i + 1)) (cdI 0)
  have ev := w2 _ rfl
  subst ev
  have J2 : JJ M2 := hJ'.w ((f1.w.mo fun _ _ => cX_5).tr (f2.w.mo fun _ _ => q1_5))
  obtain ⟨M', hs, b1, b2⟩ := K M2 J2 (b_C f2 (fx_C f1)) (b_Z f2 f1.2.2.2) o6 o7 o8 o9 l2
  exact ⟨M', t_364_450 hL _ _ _ _ _ _ ⟨_, lx h3 1 (by omega), _, M1, l1, r1, _, lx h3 1 (by omega), _, M2, f2.1, r2, mb_y rfl hs⟩, b1, b2⟩
theorem lc_488 (hX : 6 * i + 6 ≤ X.1) (h3 : X.1 ≤ 3072) (hJ : JJ M) (K : Nxt X i M) (o6 o7 o8 o9 : Option Value) (l2 : List (Nat × Value)) : Dn X 488 i o6 o7 o8 o9 l2 M := by
  have hJ' := hJ
  obtain ⟨hL, ji, ⟨ν, ρ, hn, hf, nk, nw, ne, fe, jf⟩, jc, jo⟩ := hJ
  have jf' := jf
  obtain ⟨hR, hv, hN, hNV, hHc, hHm, hNρ, hsv⟩ := jf'
  have c := ca_95 (X := X) hL hR hv (X.2.1 (6 * i + 1)) (X.2.1 (6 * i + 2))
  obtain ⟨M1, r1, f1, L1⟩ := hq_324 hL c fun E => e_sp_95
  have l1 := f1.1.1
  have e1 : ro M1 = ro M := f1.1.row fun k e => by unfold cX at e; omega
  have hv1 : vs (ro M1) nk nw ne := by rw [e1]; exact hv
  have m := cm_218 (X := X) l1 e1 hv (X.2.1 (6 * i + 1)) (X.2.1 (6 * i + 2))
  obtain ⟨M2, v, r2, f2, t2, w2⟩ := m
  have J2 : JJ M2 := hJ'.w ((f1.1.mo fun _ _ => cX_5).tr (f2.w.mo fun _ _ => q1_5))
  obtain ⟨M', hs, b1, b2⟩ := K M2 J2 (b_C f2 f1.2.1) (b_Z f2 f1.2.2) _ _ o8 o9 _
  exact ⟨M', t_364_488 hL _ _ _ _ _ _ ⟨_, lx h3 1 (by omega), _, lx h3 2 (by omega), _, M1, l1, r1, _, lx h3 1 (by omega), _, lx h3 2 (by omega), _, M2, f2.1, r2, _, M2, f2.1, sm_154 f2.1, fin_q (cdI_z _) t2 (fun w e => ⟨by rw [f2.2.2.1]; exact L1 w e, w2 w e⟩) hs⟩, b1, b2⟩
theorem lc_556 (hX : 6 * i + 6 ≤ X.1) (h3 : X.1 ≤ 3072) (hJ : JJ M) (K : Nxt X i M) (o6 o7 o8 o9 : Option Value) (l2 : List (Nat × Value)) : Dn X 556 i o6 o7 o8 o9 l2 M := by
  have hJ' := hJ
  obtain ⟨hL, ji, ⟨ν, ρ, hn, hf, nk, nw, ne, fe, jf⟩, jc, jo⟩ := hJ
  have jf' := jf
  obtain ⟨hR, hv, hN, hNV, hHc, hHm, hNρ, hsv⟩ := jf'
  have c := ca_96 (X := X) hL hR hv (X.2.1 (6 * i + 1)) (X.2.1 (6 * i + 2))
  obtain ⟨M1, r1, f1, L1⟩ := hq_325 hL c fun E => e_sp_96
  have l1 := f1.1.1
  have e1 : ro M1 = ro M := f1.1.row fun k e => by unfold cX at e; omega
  have hv1 : vs (ro M1) nk nw ne := by rw [e1]; exact hv
  have m := cm_219 (X := X) l1 e1 hv (X.2.1 (6 * i + 1)) (X.2.1 (6 * i + 2))
  obtain ⟨M2, v, r2, f2, t2, w2⟩ := m
  have J2 : JJ M2 := hJ'.w ((f1.1.mo fun _ _ => cX_5).tr (f2.w.mo fun _ _ => q1_5))
  obtain ⟨M', hs, b1, b2⟩ := K M2 J2 (b_C f2 f1.2.1) (b_Z f2 f1.2.2) _ _ o8 o9 _
  exact ⟨M', t_364_556 hL _ _ _ _ _ _ ⟨_, lx h3 1 (by omega), _, lx h3 2 (by omega), _, M1, l1, r1, _, lx h3 1 (by omega), _, lx h3 2 (by omega), _, M2, f2.1, r2, _, M2, f2.1, sm_154 f2.1, fin_q (cdI_z _) t2 (fun w e => ⟨by rw [f2.2.2.1]; exact L1 w e, w2 w e⟩) hs⟩, b1, b2⟩
theorem lc_624 (hX : 6 * i + 6 ≤ X.1) (h3 : X.1 ≤ 3072) (hJ : JJ M) (K : Nxt X i M) (o6 o7 o8 o9 : Option Value) (l2 : List (Nat × Value)) : Dn X 624 i o6 o7 o8 o9 l2 M := by
  have hJ' := hJ
  obtain ⟨hL, ji, ⟨ν, ρ, hn, hf, nk, nw, ne, fe, jf⟩, jc, jo⟩ := hJ
  have jf' := jf
  obtain ⟨hR, hv, hN, hNV, hHc, hHm, hNρ, hsv⟩ := jf'
  have c := ca_97 (X := X) hL hR hv (X.2.1 (6 * i + 1))
  obtain ⟨M1, r1, f1, L1⟩ := hq_326 hL c fun E => e_sp_97
  have l1 := f1.1.1
  have e1 : ro M1 = ro M := f1.1.row fun k e => by unfold cX at e; omega
  have hv1 : vs (ro M1) nk nw ne := by rw [e1]; exact hv
  have m := cm_220 (X := X) l1 e1 hv (X.2.1 (6 * i + 1))
  obtain ⟨M2, v, r2, f2, t2, w2⟩ := m
  have J2 : JJ M2 := hJ'.w ((f1.1.mo fun _ _ => cX_5).tr (f2.w.mo fun _ _ => q1_5))
  obtain ⟨M', hs, b1, b2⟩ := K M2 J2 (b_C f2 f1.2.1) (b_Z f2 f1.2.2) _ _ o8 o9 _
  exact ⟨M', t_364_624 hL _ _ _ _ _ _ ⟨_, lx h3 1 (by omega), _, M1, l1, r1, _, lx h3 1 (by omega), _, M2, f2.1, r2, _, M2, f2.1, sm_154 f2.1, fin_q (cdI_z _) t2 (fun w e => ⟨by rw [f2.2.2.1]; exact L1 w e, w2 w e⟩) hs⟩, b1, b2⟩
theorem lc_680 (hX : 6 * i + 6 ≤ X.1) (h3 : X.1 ≤ 3072) (hJ : JJ M) (K : Nxt X i M) (o6 o7 o8 o9 : Option Value) (l2 : List (Nat × Value)) : Dn X 680 i o6 o7 o8 o9 l2 M := by
  have hJ' := hJ
  obtain ⟨hL, ji, ⟨ν, ρ, hn, hf, nk, nw, ne, fe, jf⟩, jc, jo⟩ := hJ
  have jf' := jf
  obtain ⟨hR, hv, hN, hNV, hHc, hHm, hNρ, hsv⟩ := jf'
  have c := ca_98 (X := X) hL hR hv (X.2.1 (6 * i + 1))
  obtain ⟨M1, r1, f1, L1⟩ := hq_327 hL c fun E => e_sp_98
  have l1 := f1.1.1
  have e1 : ro M1 = ro M := f1.1.row fun k e => by unfold cX at e; omega
  have hv1 : vs (ro M1) nk nw ne := by rw [e1]; exact hv
  have m := cm_221 (X := X) l1 e1 hv (X.2.1 (6 * i + 1))
  obtain ⟨M2, v, r2, f2, t2, w2⟩ := m
  have J2 : JJ M2 := hJ'.w ((f1.1.mo fun _ _ => cX_5).tr (f2.w.mo fun _ _ => q1_5))
  obtain ⟨M', hs, b1, b2⟩ := K M2 J2 (b_C f2 f1.2.1) (b_Z f2 f1.2.2) _ _ o8 o9 _
  exact ⟨M', t_364_680 hL _ _ _ _ _ _ ⟨_, lx h3 1 (by omega), _, M1, l1, r1, _, lx h3 1 (by omega), _, M2, f2.1, r2, _, M2, f2.1, sm_154 f2.1, fin_q (cdI_z _) t2 (fun w e => ⟨by rw [f2.2.2.1]; exact L1 w e, w2 w e⟩) hs⟩, b1, b2⟩
theorem lc_736 (hX : 6 * i + 6 ≤ X.1) (h3 : X.1 ≤ 3072) (hJ : JJ M) (K : Nxt X i M) (o6 o7 o8 o9 : Option Value) (l2 : List (Nat × Value)) : Dn X 736 i o6 o7 o8 o9 l2 M := by
  have hJ' := hJ
  obtain ⟨hL, ji, ⟨ν, ρ, hn, hf, nk, nw, ne, fe, jf⟩, jc, jo⟩ := hJ
  have jf' := jf
  obtain ⟨hR, hv, hN, hNV, hHc, hHm, hNρ, hsv⟩ := jf'
  have c := ca_99 (X := X) hL hR hv (X.2.1 (6 * i + 1))
  obtain ⟨M1, r1, f1, L1⟩ := hq_328 hL c fun E => e_sp_99
  have l1 := f1.1.1
  have e1 : ro M1 = ro M := f1.1.row fun k e => by unfold cX at e; omega
  have hv1 : vs (ro M1) nk nw ne := by rw [e1]; exact hv
  have m := cm_222 (X := X) l1 e1 hv (X.2.1 (6 * i + 1))
  obtain ⟨M2, v, r2, f2, t2, w2⟩ := m
  have J2 : JJ M2 := hJ'.w ((f1.1.mo fun _ _ => cX_5).tr (f2.w.mo fun _ _ => q1_5))
  obtain ⟨M', hs, b1, b2⟩ := K M2 J2 (b_C f2 f1.2.1) (b_Z f2 f1.2.2) _ _ o8 o9 _
  exact ⟨M', t_364_736 hL _ _ _ _ _ _ ⟨_, lx h3 1 (by omega), _, M1, l1, r1, _, lx h3 1 (by omega), _, M2, f2.1, r2, _, M2, f2.1, sm_154 f2.1, fin_q (cdI_z _) t2 (fun w e => ⟨by rw [f2.2.2.1]; exact L1 w e, w2 w e⟩) hs⟩, b1, b2⟩
theorem lc_867 (hX : 6 * i + 6 ≤ X.1) (h3 : X.1 ≤ 3072) (hJ : JJ M) (K : Nxt X i M) (o6 o7 o8 o9 : Option Value) (l2 : List (Nat × Value)) : Dn X 867 i o6 o7 o8 o9 l2 M := by
  have hJ' := hJ
  obtain ⟨hL, ji, ⟨ν, ρ, hn, hf, nk, nw, ne, fe, jf⟩, jc, jo⟩ := hJ
  have jf' := jf
  obtain ⟨hR, hv, hN, hNV, hHc, hHm, hNρ, hsv⟩ := jf'
  have c := ca_101 (X := X) hL hR hv (X.2.1 (6 * i + 1)) (X.2.1 (6 * i + 2)) (X.2.1 (6 * i + 3))
  obtain ⟨M1, r1, f1, L1⟩ := hq_330 hL c fun E => e_sp_101
  have l1 := f1.1.1
  have e1 : ro M1 = ro M := f1.1.row fun k e => by unfold cX at e; omega
  have hv1 : vs (ro M1) nk nw ne := by rw [e1]; exact hv
  have m := cm_224 (X := X) l1 e1 hv (X.2.1 (6 * i + 1)) (X.2.1 (6 * i + 2)) (X.2.1 (6 * i + 3))
  obtain ⟨M2, v, r2, f2, t2, w2⟩ := m
  have J2 : JJ M2 := hJ'.w ((f1.1.mo fun _ _ => cX_5).tr (f2.w.mo fun _ _ => q1_5))
  obtain ⟨M', hs, b1, b2⟩ := K M2 J2 (b_C f2 f1.2.1) (b_Z f2 f1.2.2) _ _ o8 o9 _
  exact ⟨M', t_364_867 hL _ _ _ _ _ _ ⟨_, lx h3 1 (by omega), _, lx h3 2 (by omega), _, lx h3 3 (by omega), _, M1, l1, r1, _, lx h3 1 (by omega), _, lx h3 2 (by omega), _, lx h3 3 (by omega), _, M2, f2.1, r2, _, M2, f2.1, sm_154 f2.1, fin_q (cdI_z _) t2 (fun w e => ⟨by rw [f2.2.2.1]; exact L1 w e, w2 w e⟩) hs⟩, b1, b2⟩
theorem lc_947 (hX : 6 * i + 6 ≤ X.1) (h3 : X.1 ≤ 3072) (hJ : JJ M) (K : Nxt X i M) (o6 o7 o8 o9 : Option Value) (l2 : List (Nat × Value)) : Dn X 947 i o6 o7 o8 o9 l2 M := by
  have hJ' := hJ
  obtain ⟨hL, ji, ⟨ν, ρ, hn, hf, nk, nw, ne, fe, jf⟩, jc, jo⟩ := hJ
  have jf' := jf
  obtain ⟨hR, hv, hN, hNV, hHc, hHm, hNρ, hsv⟩ := jf'
  have c := ca_102 (X := X) hL hR hv (X.2.1 (6 * i + 1))
  obtain ⟨M1, r1, f1, L1⟩ := hq_331 hL c fun E => e_sp_102
  have l1 := f1.1.1
  have e1 : ro M1 = ro M := f1.1.row fun k e => by unfold cX at e; omega
  have hv1 : vs (ro M1) nk nw ne := by rw [e1]; exact hv
  have m := cm_225 (X := X) l1 e1 hv (X.2.1 (6 * i + 1))
  obtain ⟨M2, v, r2, f2, t2, w2⟩ := m
  have J2 : JJ M2 := hJ'.w ((f1.1.mo fun _ _ => cX_5).tr (f2.w.mo fun _ _ => q1_5))
  obtain ⟨M', hs, b1, b2⟩ := K M2 J2 (b_C f2 f1.2.1) (b_Z f2 f1.2.2) _ _ o8 o9 _
  exact ⟨M', t_364_947 hL _ _ _ _ _ _ ⟨_, lx h3 1 (by omega), _, M1, l1, r1, _, lx h3 1 (by omega), _, M2, f2.1, r2, _, M2, f2.1, sm_154 f2.1, fin_q (cdI_z _) t2 (fun w e => ⟨by rw [f2.2.2.1]; exact L1 w e, w2 w e⟩) hs⟩, b1, b2⟩
theorem lc_1003 (hX : 6 * i + 6 ≤ X.1) (h3 : X.1 ≤ 3072) (hJ : JJ M) (K : Nxt X i M) (o6 o7 o8 o9 : Option Value) (l2 : List (Nat × Value)) : Dn X 1003 i o6 o7 o8 o9 l2 M := by
  have hJ' := hJ
  obtain ⟨hL, ji, ⟨ν, ρ, hn, hf, nk, nw, ne, fe, jf⟩, jc, jo⟩ := hJ
  have jf' := jf
  obtain ⟨hR, hv, hN, hNV, hHc, hHm, hNρ, hsv⟩ := jf'
  have c := ca_103 (X := X) hL hR hv (X.2.1 (6 * i + 1))
  obtain ⟨M1, r1, f1, L1⟩ := hq_332 hL c fun E => e_sp_103
  have l1 := f1.1.1
  have e1 : ro M1 = ro M := f1.1.row fun k e => by unfold cX at e; omega
  have hv1 : vs (ro M1) nk nw ne := by rw [e1]; exact hv
  have m := (cm_226 (X := X) l1 e1 hv (X.2.1 (6 * i + 1))).1
  obtain ⟨M2, v, r2, f2, t2, w2⟩ := m
  have J2 : JJ M2 := hJ'.w ((f1.1.mo fun _ _ => cX_5).tr (f2.w.mo fun _ _ => q1_5))
  obtain ⟨M', hs, b1, b2⟩ := K M2 J2 (b_C f2 f1.2.1) (b_Z f2 f1.2.2) _ _ o8 o9 _
  exact ⟨M', t_364_1003 hL _ _ _ _ _ _ ⟨_, lx h3 1 (by omega), _, M1, l1, r1, _, lx h3 1 (by omega), _, M2, f2.1, r2, _, M2, f2.1, sm_154 f2.1, fin_q (cdI_z _) t2 (fun w e => ⟨by rw [f2.2.2.1]; exact L1 w e, w2 w e⟩) hs⟩, b1, b2⟩
theorem lc_1059 (hX : 6 * i + 6 ≤ X.1) (h3 : X.1 ≤ 3072) (hJ : JJ M) (K : Nxt X i M) (o6 o7 o8 o9 : Option Value) (l2 : List (Nat × Value)) : Dn X 1059 i o6 o7 o8 o9 l2 M := by
  have hJ' := hJ
  obtain ⟨hL, ji, ⟨ν, ρ, hn, hf, nk, nw, ne, fe, jf⟩, jc, jo⟩ := hJ
  have jf' := jf
  obtain ⟨hR, hv, hN, hNV, hHc, hHm, hNρ, hsv⟩ := jf'
  have c := ca_104 (X := X) hL hR hv (X.2.1 (6 * i + 1)) (X.2.1 (6 * i + 2))
  obtain ⟨M1, r1, f1, L1⟩ := hq_333 hL c fun E => e_sp_104
  have l1 := f1.1.1
  have e1 : ro M1 = ro M := f1.1.row fun k e => by unfold cX at e; omega
  have hv1 : vs (ro M1) nk nw ne := by rw [e1]; exact hv
  have m := cm_227 (X := X) l1 e1 hv (X.2.1 (6 * i + 1)) (X.2.1 (6 * i + 2))
  obtain ⟨M2, v, r2, f2, t2, w2⟩ := m
  have J2 : JJ M2 := hJ'.w ((f1.1.mo fun _ _ => cX_5).tr (f2.w.mo fun _ _ => q1_5))
  obtain ⟨M', hs, b1, b2⟩ := K M2 J2 (b_C f2 f1.2.1) (b_Z f2 f1.2.2) _ _ o8 o9 _
  exact ⟨M', t_364_1059 hL _ _ _ _ _ _ ⟨_, lx h3 1 (by omega), _, lx h3 2 (by omega), _, M1, l1, r1, _, lx h3 1 (by omega), _, lx h3 2 (by omega), _, M2, f2.1, r2, _, M2, f2.1, sm_154 f2.1, fin_q (cdI_z _) t2 (fun w e => ⟨by rw [f2.2.2.1]; exact L1 w e, w2 w e⟩) hs⟩, b1, b2⟩
theorem lc_1127 (hX : 6 * i + 6 ≤ X.1) (h3 : X.1 ≤ 3072) (hJ : JJ M) (K : Nxt X i M) (o6 o7 o8 o9 : Option Value) (l2 : List (Nat × Value)) : Dn X 1127 i o6 o7 o8 o9 l2 M := by
  have hJ' := hJ
  obtain ⟨hL, ji, ⟨ν, ρ, hn, hf, nk, nw, ne, fe, jf⟩, jc, jo⟩ := hJ
  have jf' := jf
  obtain ⟨hR, hv, hN, hNV, hHc, hHm, hNρ, hsv⟩ := jf'
  obtain ⟨M1, r1, f1⟩ := ca_105 (X := X) hL hR hv 
  have l1 := f1.1
  have e1 : ro M1 = ro M := f1.w.row fun k e => by unfold cX at e; omega
  obtain ⟨M2, v, r2, f2, t2, w2⟩ := (cm_228 (X := X) l1 e1 hv (cdI 0)).1
  have ev := w2 _ rfl
  subst ev
  have J2 : JJ M2 := hJ'.w ((f1.w.mo fun _ _ => cX_5).tr (f2.w.mo fun _ _ => q1_5))
  obtain ⟨M', hs, b1, b2⟩ := K M2 J2 (b_C f2 (fx_C f1)) (b_Z f2 f1.2.2.2) o6 o7 o8 o9 l2
  exact ⟨M', t_364_1127 hL _ _ _ _ _ _ ⟨_, M1, l1, r1, _, M2, f2.1, r2, mb_y rfl hs⟩, b1, b2⟩
theorem lc_1140 (hX : 6 * i + 6 ≤ X.1) (h3 : X.1 ≤ 3072) (hJ : JJ M) (K : Nxt X i M) (o6 o7 o8 o9 : Option Value) (l2 : List (Nat × Value)) : Dn X 1140 i o6 o7 o8 o9 l2 M := by
  have hJ' := hJ
  obtain ⟨hL, ji, ⟨ν, ρ, hn, hf, nk, nw, ne, fe, jf⟩, jc, jo⟩ := hJ
  have jf' := jf
  obtain ⟨hR, hv, hN, hNV, hHc, hHm, hNρ, hsv⟩ := jf'
  obtain ⟨M1, r1, f1⟩ := ca_106 (X := X) hL hR hv 
  have l1 := f1.1
  have e1 : ro M1 = ro M := f1.w.row fun k e => by unfold cX at e; omega
  obtain ⟨M2, v, r2, f2, t2, w2⟩ := (cm_228 (X := X) l1 e1 hv (cdI 0)).2.1
  have ev := w2 _ rfl
  subst ev
  have J2 : JJ M2 := hJ'.w ((f1.w.mo fun _ _ => cX_5).tr (f2.w.mo fun _ _ => q1_5))
  obtain ⟨M', hs, b1, b2⟩ := K M2 J2 (b_C f2 (fx_C f1)) (b_Z f2 f1.2.2.2) o6 o7 o8 o9 l2
  exact ⟨M', t_364_1140 hL _ _ _ _ _ _ ⟨_, M1, l1, r1, _, M2, f2.1, r2, mb_y rfl hs⟩, b1, b2⟩
theorem lc_1153 (hX : 6 * i + 6 ≤ X.1) (h3 : X.1 ≤ 3072) (hJ : JJ M) (K : Nxt X i M) (o6 o7 o8 o9 : Option Value) (l2 : List (Nat × Value)) : Dn X 1153 i o6 o7 o8 o9 l2 M := by
  have hJ' := hJ
  obtain ⟨hL, ji, ⟨ν, ρ, hn, hf, nk, nw, ne, fe, jf⟩, jc, jo⟩ := hJ
  have jf' := jf
  obtain ⟨hR, hv, hN, hNV, hHc, hHm, hNρ, hsv⟩ := jf'
  obtain ⟨M1, r1, f1⟩ := ca_107 (X := X) hL hR hv 
  have l1 := f1.1
  have e1 : ro M1 = ro M := f1.w.row fun k e => by unfold cX at e; omega
  obtain ⟨M2, v, r2, f2, t2, w2⟩ := (cm_228 (X := X) l1 e1 hv (cdI 0)).2.2
  have ev := w2 _ rfl
  subst ev
  have J2 : JJ M2 := hJ'.w ((f1.w.mo fun _ _ => cX_5).tr (f2.w.mo fun _ _ => q1_5))
  obtain ⟨M', hs, b1, b2⟩ := K M2 J2 (b_C f2 (fx_C f1)) (b_Z f2 f1.2.2.2) o6 o7 o8 o9 l2
  exact ⟨M', t_364_1153 hL _ _ _ _ _ _ ⟨_, M1, l1, r1, _, M2, f2.1, r2, mb_y rfl hs⟩, b1, b2⟩
theorem lc_1166 (hX : 6 * i + 6 ≤ X.1) (h3 : X.1 ≤ 3072) (hJ : JJ M) (K : Nxt X i M) (o6 o7 o8 o9 : Option Value) (l2 : List (Nat × Value)) : Dn X 1166 i o6 o7 o8 o9 l2 M := by
  have hJ' := hJ
  obtain ⟨hL, ji, ⟨ν, ρ, hn, hf, nk, nw, ne, fe, jf⟩, jc, jo⟩ := hJ
  have jf' := jf
  obtain ⟨hR, hv, hN, hNV, hHc, hHm, hNρ, hsv⟩ := jf'
  have c := ca_108 (X := X) hL hR hv (X.2.1 (6 * i + 1)) (X.2.1 (6 * i + 2)) (X.2.1 (6 * i + 3))
  obtain ⟨M1, r1, f1, L1⟩ := hq_334 hL c fun E => e_sp_108
  have l1 := f1.1.1
  have e1 : ro M1 = ro M := f1.1.row fun k e => by unfold cX at e; omega
  have hv1 : vs (ro M1) nk nw ne := by rw [e1]; exact hv
  have m := cm_233 (X := X) l1 e1 hv (X.2.1 (6 * i + 1)) (X.2.1 (6 * i + 2)) (X.2.1 (6 * i + 3))
  obtain ⟨M2, v, r2, f2, t2, w2⟩ := m
  have J2 : JJ M2 := hJ'.w ((f1.1.mo fun _ _ => cX_5).tr (f2.w.mo fun _ _ => q1_5))
  obtain ⟨M', hs, b1, b2⟩ := K M2 J2 (b_C f2 f1.2.1) (b_Z f2 f1.2.2) _ _ o8 o9 _
  exact ⟨M', t_364_1166 hL _ _ _ _ _ _ ⟨_, lx h3 1 (by omega), _, lx h3 2 (by omega), _, lx h3 3 (by omega), _, M1, l1, r1, _, lx h3 1 (by omega), _, lx h3 2 (by omega), _, lx h3 3 (by omega), _, M2, f2.1, r2, _, M2, f2.1, sm_154 f2.1, fin_q (cdI_z _) t2 (fun w e => ⟨by rw [f2.2.2.1]; exact L1 w e, w2 w e⟩) hs⟩, b1, b2⟩
theorem lc_1246 (hX : 6 * i + 6 ≤ X.1) (h3 : X.1 ≤ 3072) (hJ : JJ M) (K : Nxt X i M) (o6 o7 o8 o9 : Option Value) (l2 : List (Nat × Value)) : Dn X 1246 i o6 o7 o8 o9 l2 M := by
  have hJ' := hJ
  obtain ⟨hL, ji, ⟨ν, ρ, hn, hf, nk, nw, ne, fe, jf⟩, jc, jo⟩ := hJ
  have jf' := jf
  obtain ⟨hR, hv, hN, hNV, hHc, hHm, hNρ, hsv⟩ := jf'
  have c := ca_109 (X := X) hL hR hv (X.2.1 (6 * i + 1)) (X.2.1 (6 * i + 2))
  obtain ⟨M1, r1, f1, L1⟩ := hq_335 hL c fun E => e_sp_109
  have l1 := f1.1.1
  have e1 : ro M1 = ro M := f1.1.row fun k e => by unfold cX at e; omega
  have hv1 : vs (ro M1) nk nw ne := by rw [e1]; exact hv
  have m := cm_234 (X := X) l1 e1 hv (X.2.1 (6 * i + 1)) (X.2.1 (6 * i + 2))
  obtain ⟨M2, v, r2, f2, t2, w2⟩ := m
  have J2 : JJ M2 := hJ'.w ((f1.1.mo fun _ _ => cX_5).tr (f2.w.mo fun _ _ => q1_5))
  obtain ⟨M', hs, b1, b2⟩ := K M2 J2 (b_C f2 f1.2.1) (b_Z f2 f1.2.2) _ _ o8 o9 _
  exact ⟨M', t_364_1246 hL _ _ _ _ _ _ ⟨_, lx h3 1 (by omega), _, lx h3 2 (by omega), _, M1, l1, r1, _, lx h3 1 (by omega), _, lx h3 2 (by omega), _, M2, f2.1, r2, _, M2, f2.1, sm_154 f2.1, fin_q (cdI_z _) t2 (fun w e => ⟨by rw [f2.2.2.1]; exact L1 w e, w2 w e⟩) hs⟩, b1, b2⟩
theorem lc_1314 (hX : 6 * i + 6 ≤ X.1) (h3 : X.1 ≤ 3072) (hJ : JJ M) (K : Nxt X i M) (o6 o7 o8 o9 : Option Value) (l2 : List (Nat × Value)) : Dn X 1314 i o6 o7 o8 o9 l2 M := by
  have hJ' := hJ
  obtain ⟨hL, ji, ⟨ν, ρ, hn, hf, nk, nw, ne, fe, jf⟩, jc, jo⟩ := hJ
  have jf' := jf
  obtain ⟨hR, hv, hN, hNV, hHc, hHm, hNρ, hsv⟩ := jf'
  have c := ca_110 (X := X) hL hR hv (X.2.1 (6 * i + 1))
  obtain ⟨M1, r1, f1, L1⟩ := hq_336 hL c fun E => e_sp_110
  have l1 := f1.1.1
  have e1 : ro M1 = ro M := f1.1.row fun k e => by unfold cX at e; omega
  have hv1 : vs (ro M1) nk nw ne := by rw [e1]; exact hv
  have m := cm_236 (X := X) l1 e1 hv (X.2.1 (6 * i + 1))
  obtain ⟨M2, v, r2, f2, t2, w2⟩ := m
  have J2 : JJ M2 := hJ'.w ((f1.1.mo fun _ _ => cX_5).tr (f2.w.mo fun _ _ => q1_5))
  obtain ⟨M', hs, b1, b2⟩ := K M2 J2 (b_C f2 f1.2.1) (b_Z f2 f1.2.2) _ _ o8 o9 _
  exact ⟨M', t_364_1314 hL _ _ _ _ _ _ ⟨_, lx h3 1 (by omega), _, M1, l1, r1, _, lx h3 1 (by omega), _, M2, f2.1, r2, _, M2, f2.1, sm_154 f2.1, fin_q (cdI_z _) t2 (fun w e => ⟨by rw [f2.2.2.1]; exact L1 w e, w2 w e⟩) hs⟩, b1, b2⟩
theorem lc_1370 (hX : 6 * i + 6 ≤ X.1) (h3 : X.1 ≤ 3072) (hJ : JJ M) (K : Nxt X i M) (o6 o7 o8 o9 : Option Value) (l2 : List (Nat × Value)) : Dn X 1370 i o6 o7 o8 o9 l2 M := by
  have hJ' := hJ
  obtain ⟨hL, ji, ⟨ν, ρ, hn, hf, nk, nw, ne, fe, jf⟩, jc, jo⟩ := hJ
  have jf' := jf
  obtain ⟨hR, hv, hN, hNV, hHc, hHm, hNρ, hsv⟩ := jf'
  have c := ca_111 (X := X) hL hR hv (X.2.1 (6 * i + 1))
  obtain ⟨M1, r1, f1, L1⟩ := hq_337 hL c fun E => e_sp_111
  have l1 := f1.1.1
  have e1 : ro M1 = ro M := f1.1.row fun k e => by unfold cX at e; omega
  have hv1 : vs (ro M1) nk nw ne := by rw [e1]; exact hv
  have m := cm_237 (X := X) l1 e1 hv (X.2.1 (6 * i + 1))
  obtain ⟨M2, v, r2, f2, t2, w2⟩ := m
  have J2 : JJ M2 := hJ'.w ((f1.1.mo fun _ _ => cX_5).tr (f2.w.mo fun _ _ => q1_5))
  obtain ⟨M', hs, b1, b2⟩ := K M2 J2 (b_C f2 f1.2.1) (b_Z f2 f1.2.2) _ _ o8 o9 _
  exact ⟨M', t_364_1370 hL _ _ _ _ _ _ ⟨_, lx h3 1 (by omega), _, M1, l1, r1, _, lx h3 1 (by omega), _, M2, f2.1, r2, _, M2, f2.1, sm_154 f2.1, fin_q (cdI_z _) t2 (fun w e => ⟨by rw [f2.2.2.1]; exact L1 w e, w2 w e⟩) hs⟩, b1, b2⟩
theorem lc_1426 (hX : 6 * i + 6 ≤ X.1) (h3 : X.1 ≤ 3072) (hJ : JJ M) (K : Nxt X i M) (o6 o7 o8 o9 : Option Value) (l2 : List (Nat × Value)) : Dn X 1426 i o6 o7 o8 o9 l2 M := by
  have hJ' := hJ
  obtain ⟨hL, ji, ⟨ν, ρ, hn, hf, nk, nw, ne, fe, jf⟩, jc, jo⟩ := hJ
  have jf' := jf
  obtain ⟨hR, hv, hN, hNV, hHc, hHm, hNρ, hsv⟩ := jf'
  have c := ca_112 (X := X) hL hR hv (X.2.1 (6 * i + 1))
  obtain ⟨M1, r1, f1, L1⟩ := hq_338 hL c fun E => e_sp_112
  have l1 := f1.1.1
  have e1 : ro M1 = ro M := f1.1.row fun k e => by unfold cX at e; omega
  have hv1 : vs (ro M1) nk nw ne := by rw [e1]; exact hv
  have m := (cm_226 (X := X) l1 e1 hv (X.2.1 (6 * i + 1))).2
  obtain ⟨M2, v, r2, f2, t2, w2⟩ := m
  have J2 : JJ M2 := hJ'.w ((f1.1.mo fun _ _ => cX_5).tr (f2.w.mo fun _ _ => q1_5))
  obtain ⟨M', hs, b1, b2⟩ := K M2 J2 (b_C f2 f1.2.1) (b_Z f2 f1.2.2) _ _ o8 o9 _
  exact ⟨M', t_364_1426 hL _ _ _ _ _ _ ⟨_, lx h3 1 (by omega), _, M1, l1, r1, _, lx h3 1 (by omega), _, M2, f2.1, r2, _, M2, f2.1, sm_154 f2.1, fin_q (cdI_z _) t2 (fun w e => ⟨by rw [f2.2.2.1]; exact L1 w e, w2 w e⟩) hs⟩, b1, b2⟩
theorem lc_1482 (hX : 6 * i + 6 ≤ X.1) (h3 : X.1 ≤ 3072) (hJ : JJ M) (K : Nxt X i M) (o6 o7 o8 o9 : Option Value) (l2 : List (Nat × Value)) : Dn X 1482 i o6 o7 o8 o9 l2 M := by
  have hJ' := hJ
  obtain ⟨hL, ji, ⟨ν, ρ, hn, hf, nk, nw, ne, fe, jf⟩, jc, jo⟩ := hJ
  have jf' := jf
  obtain ⟨hR, hv, hN, hNV, hHc, hHm, hNρ, hsv⟩ := jf'
  have c := ca_113 (X := X) hL hR hv (X.2.1 (6 * i + 1))
  obtain ⟨M1, r1, f1, L1⟩ := hq_339 hL c fun E => e_sp_113
  have l1 := f1.1.1
  have e1 : ro M1 = ro M := f1.1.row fun k e => by unfold cX at e; omega
  have hv1 : vs (ro M1) nk nw ne := by rw [e1]; exact hv
  have m := cm_239 (X := X) l1 e1 hv (X.2.1 (6 * i + 1))
  obtain ⟨M2, v, r2, f2, t2, w2⟩ := m
  have J2 : JJ M2 := hJ'.w ((f1.1.mo fun _ _ => cX_5).tr (f2.w.mo fun _ _ => q1_5))
  obtain ⟨M', hs, b1, b2⟩ := K M2 J2 (b_C f2 f1.2.1) (b_Z f2 f1.2.2) _ _ o8 o9 _
  exact ⟨M', t_364_1482 hL _ _ _ _ _ _ ⟨_, lx h3 1 (by omega), _, M1, l1, r1, _, lx h3 1 (by omega), _, M2, f2.1, r2, _, M2, f2.1, sm_154 f2.1, fin_q (cdI_z _) t2 (fun w e => ⟨by rw [f2.2.2.1]; exact L1 w e, w2 w e⟩) hs⟩, b1, b2⟩
theorem lc_1538 (hX : 6 * i + 6 ≤ X.1) (h3 : X.1 ≤ 3072) (hJ : JJ M) (K : Nxt X i M) (o6 o7 o8 o9 : Option Value) (l2 : List (Nat × Value)) : Dn X 1538 i o6 o7 o8 o9 l2 M := by
  have hJ' := hJ
  obtain ⟨hL, ji, ⟨ν, ρ, hn, hf, nk, nw, ne, fe, jf⟩, jc, jo⟩ := hJ
  have jf' := jf
  obtain ⟨hR, hv, hN, hNV, hHc, hHm, hNρ, hsv⟩ := jf'
  have c := ca_114 (X := X) hL hR hv (X.2.1 (6 * i + 1))
  obtain ⟨M1, r1, f1, L1⟩ := hq_340 hL c fun E => e_sp_114
  have l1 := f1.1.1
  have e1 : ro M1 = ro M := f1.1.row fun k e => by unfold cX at e; omega
  have hv1 : vs (ro M1) nk nw ne := by rw [e1]; exact hv
  have m := cm_240 (X := X) l1 e1 hv (X.2.1 (6 * i + 1))
  obtain ⟨M2, v, r2, f2, t2, w2⟩ := m
  have J2 : JJ M2 := hJ'.w ((f1.1.mo fun _ _ => cX_5).tr (f2.w.mo fun _ _ => q1_5))
  obtain ⟨M', hs, b1, b2⟩ := K M2 J2 (b_C f2 f1.2.1) (b_Z f2 f1.2.2) _ _ o8 o9 _
  exact ⟨M', t_364_1538 hL _ _ _ _ _ _ ⟨_, lx h3 1 (by omega), _, M1, l1, r1, _, lx h3 1 (by omega), _, M2, f2.1, r2, _, M2, f2.1, sm_154 f2.1, fin_q (cdI_z _) t2 (fun w e => ⟨by rw [f2.2.2.1]; exact L1 w e, w2 w e⟩) hs⟩, b1, b2⟩
theorem lc_1594 (hX : 6 * i + 6 ≤ X.1) (h3 : X.1 ≤ 3072) (hJ : JJ M) (K : Nxt X i M) (o6 o7 o8 o9 : Option Value) (l2 : List (Nat × Value)) : Dn X 1594 i o6 o7 o8 o9 l2 M := by
  have hJ' := hJ
  obtain ⟨hL, ji, ⟨ν, ρ, hn, hf, nk, nw, ne, fe, jf⟩, jc, jo⟩ := hJ
  have jf' := jf
  obtain ⟨hR, hv, hN, hNV, hHc, hHm, hNρ, hsv⟩ := jf'
  have c := ca_115 (X := X) hL hR hv (X.2.1 (6 * i + 1)) (X.2.1 (6 * i + 2)) (X.2.1 (6 * i + 3)) (X.2.1 (6 * i + 4))
  obtain ⟨M1, r1, f1, L1⟩ := hq_341 hL c fun E => e_sp_115
  have l1 := f1.1.1
  have e1 : ro M1 = ro M := f1.1.row fun k e => by unfold cX at e; omega
  have hv1 : vs (ro M1) nk nw ne := by rw [e1]; exact hv
  have m := cm_241 (X := X) l1 e1 hv (X.2.1 (6 * i + 1)) (X.2.1 (6 * i + 2)) (X.2.1 (6 * i + 3)) (X.2.1 (6 * i + 4))
  obtain ⟨M2, v, r2, f2, t2, w2⟩ := m
  have J2 : JJ M2 := hJ'.w ((f1.1.mo fun _ _ => cX_5).tr (f2.w.mo fun _ _ => q1_5))
  obtain ⟨M', hs, b1, b2⟩ := K M2 J2 (b_C f2 f1.2.1) (b_Z f2 f1.2.2) _ _ o8 o9 _
  exact ⟨M', t_364_1594 hL _ _ _ _ _ _ ⟨_, lx h3 1 (by omega), _, lx h3 2 (by omega), _, lx h3 3 (by omega), _, lx h3 4 (by omega), _, M1, l1, r1, _, lx h3 1 (by omega), _, lx h3 2 (by omega), _, lx h3 3 (by omega), _, lx h3 4 (by omega), _, M2, f2.1, r2, _, M2, f2.1, sm_154 f2.1, fin_q (cdI_z _) t2 (fun w e => ⟨by rw [f2.2.2.1]; exact L1 w e, w2 w e⟩) hs⟩, b1, b2⟩
theorem lc_1686 (hX : 6 * i + 6 ≤ X.1) (h3 : X.1 ≤ 3072) (hJ : JJ M) (K : Nxt X i M) (o6 o7 o8 o9 : Option Value) (l2 : List (Nat × Value)) : Dn X 1686 i o6 o7 o8 o9 l2 M := by
  have hJ' := hJ
  obtain ⟨hL, ji, ⟨ν, ρ, hn, hf, nk, nw, ne, fe, jf⟩, jc, jo⟩ := hJ
  have jf' := jf
  obtain ⟨hR, hv, hN, hNV, hHc, hHm, hNρ, hsv⟩ := jf'
  obtain ⟨M1, r1, f1⟩ := ca_116 (X := X) hL hR hv 
  have l1 := f1.1
  have e1 : ro M1 = ro M := f1.w.row fun k e => by unfold cX at e; omega
  obtain ⟨M2, v, r2, f2, t2, w2⟩ := cm_242 (X := X) l1 e1 hv (cdI 0)
  have ev := w2 _ rfl
  subst ev
  have J2 : JJ M2 := hJ'.w ((f1.w.mo fun _ _ => cX_5).tr (f2.w.mo fun _ _ => q1_5))
  obtain ⟨M', hs, b1, b2⟩ := K M2 J2 (b_C f2 (fx_C f1)) (b_Z f2 f1.2.2.2) o6 o7 o8 o9 l2
  exact ⟨M', t_364_1686 hL _ _ _ _ _ _ ⟨_, M1, l1, r1, _, M2, f2.1, r2, mb_y rfl hs⟩, b1, b2⟩
theorem lc_1818 (hX : 6 * i + 6 ≤ X.1) (h3 : X.1 ≤ 3072) (hJ : JJ M) (K : Nxt X i M) (o6 o7 o8 o9 : Option Value) (l2 : List (Nat × Value)) : Dn X 1818 i o6 o7 o8 o9 l2 M := by
  have hJ' := hJ
  obtain ⟨hL, ji, ⟨ν, ρ, hn, hf, nk, nw, ne, fe, jf⟩, jc, jo⟩ := hJ
  have jf' := jf
  obtain ⟨hR, hv, hN, hNV, hHc, hHm, hNρ, hsv⟩ := jf'
  have c := ca_119 (X := X) hL hR hv (X.2.1 (6 * i + 1)) (X.2.1 (6 * i + 2)) (X.2.1 (6 * i + 3))
  obtain ⟨M1, r1, f1, L1⟩ := hq_343 hL c fun E => e_sp_119
  have l1 := f1.1.1
  have e1 : ro M1 = ro M := f1.1.row fun k e => by unfold cS at e; omega
  have hv1 : vs (ro M1) nk nw ne := by rw [e1]; exact hv
  have m := cm_246 (X := X) l1 hv1 (X.2.1 (6 * i + 1)) (X.2.1 (6 * i + 2)) (X.2.1 (6 * i + 3))
  rw [e1] at m
  obtain ⟨M2, v, r2, f2, t2, w2⟩ := m
  have J2 : JJ M2 := hJ'.w ((f1.1.mo fun _ _ => cS_5).tr (f2.w.mo fun _ _ => fc_5))
  obtain ⟨M', hs, b1, b2⟩ := K M2 J2 (b_C f2 f1.2.1) (b_Z f2 f1.2.2) _ _ o8 o9 _
  exact ⟨M', t_364_1818 hL _ _ _ _ _ _ ⟨_, lx h3 1 (by omega), _, lx h3 2 (by omega), _, lx h3 3 (by omega), _, M1, l1, r1, _, lx h3 1 (by omega), _, lx h3 2 (by omega), _, lx h3 3 (by omega), _, M2, f2.1, r2, _, M2, f2.1, sm_154 f2.1, fin_q (cdI_z _) t2 (fun w e => ⟨by rw [f2.2.2.1]; exact L1 w e, w2 w e⟩) hs⟩, b1, b2⟩
theorem lc_1898 (hX : 6 * i + 6 ≤ X.1) (h3 : X.1 ≤ 3072) (hJ : JJ M) (K : Nxt X i M) (o6 o7 o8 o9 : Option Value) (l2 : List (Nat × Value)) : Dn X 1898 i o6 o7 o8 o9 l2 M := by
  have hJ' := hJ
  obtain ⟨hL, ji, ⟨ν, ρ, hn, hf, nk, nw, ne, fe, jf⟩, jc, jo⟩ := hJ
  have jf' := jf
  obtain ⟨hR, hv, hN, hNV, hHc, hHm, hNρ, hsv⟩ := jf'
  have c := ca_120 (X := X) hL hR hv (X.2.1 (6 * i + 1)) (X.2.1 (6 * i + 2))
  obtain ⟨M1, r1, f1, L1⟩ := hq_344 hL c fun E => e_sp_120
  have l1 := f1.1.1
  have e1 : ro M1 = ro M := f1.1.row fun k e => by unfold cS at e; omega
  have hv1 : vs (ro M1) nk nw ne := by rw [e1]; exact hv
  have m := (cm_249 (X := X) l1 hv1 (X.2.1 (6 * i + 1)) (X.2.1 (6 * i + 2))).1
  rw [e1] at m
  obtain ⟨M2, v, r2, f2, t2, w2⟩ := m
  have J2 : JJ M2 := hJ'.w ((f1.1.mo fun _ _ => cS_5).tr (f2.w.mo fun _ _ => fc_5))
  obtain ⟨M', hs, b1, b2⟩ := K M2 J2 (b_C f2 f1.2.1) (b_Z f2 f1.2.2) _ _ o8 o9 _
  exact ⟨M', t_364_1898 hL _ _ _ _ _ _ ⟨_, lx h3 1 (by omega), _, lx h3 2 (by omega), _, M1, l1, r1, _, lx h3 1 (by omega), _, lx h3 2 (by omega), _, M2, f2.1, r2, _, M2, f2.1, sm_154 f2.1, fin_q (cdI_z _) t2 (fun w e => ⟨by rw [f2.2.2.1]; exact L1 w e, w2 w e⟩) hs⟩, b1, b2⟩
theorem lc_1966 (hX : 6 * i + 6 ≤ X.1) (h3 : X.1 ≤ 3072) (hJ : JJ M) (K : Nxt X i M) (o6 o7 o8 o9 : Option Value) (l2 : List (Nat × Value)) : Dn X 1966 i o6 o7 o8 o9 l2 M := by
  have hJ' := hJ
  obtain ⟨hL, ji, ⟨ν, ρ, hn, hf, nk, nw, ne, fe, jf⟩, jc, jo⟩ := hJ
  have jf' := jf
  obtain ⟨hR, hv, hN, hNV, hHc, hHm, hNρ, hsv⟩ := jf'
  have c := ca_121 (X := X) hL hR hv (X.2.1 (6 * i + 1)) (X.2.1 (6 * i + 2)) (X.2.1 (6 * i + 3))
  obtain ⟨M1, r1, f1, L1⟩ := hq_345 hL c fun E => e_sp_121
  have l1 := f1.1.1
  have e1 : ro M1 = ro M := f1.1.row fun k e => by unfold cS at e; omega
  have hv1 : vs (ro M1) nk nw ne := by rw [e1]; exact hv
  have m := (cm_250 (X := X) l1 hv1 (X.2.1 (6 * i + 1)) (X.2.1 (6 * i + 2)) (X.2.1 (6 * i + 3))).1
  rw [e1] at m
  obtain ⟨M2, v, r2, f2, t2, w2⟩ := m
  have J2 : JJ M2 := hJ'.w ((f1.1.mo fun _ _ => cS_5).tr (f2.w.mo fun _ _ => fc_5))
  obtain ⟨M', hs, b1, b2⟩ := K M2 J2 (b_C f2 f1.2.1) (b_Z f2 f1.2.2) _ _ o8 o9 _
  exact ⟨M', t_364_1966 hL _ _ _ _ _ _ ⟨_, lx h3 1 (by omega), _, lx h3 2 (by omega), _, lx h3 3 (by omega), _, M1, l1, r1, _, lx h3 1 (by omega), _, lx h3 2 (by omega), _, lx h3 3 (by omega), _, M2, f2.1, r2, _, M2, f2.1, sm_154 f2.1, fin_q (cdI_z _) t2 (fun w e => ⟨by rw [f2.2.2.1]; exact L1 w e, w2 w e⟩) hs⟩, b1, b2⟩
theorem lc_2046 (hX : 6 * i + 6 ≤ X.1) (h3 : X.1 ≤ 3072) (hJ : JJ M) (K : Nxt X i M) (o6 o7 o8 o9 : Option Value) (l2 : List (Nat × Value)) : Dn X 2046 i o6 o7 o8 o9 l2 M := by
  have hJ' := hJ
  obtain ⟨hL, ji, ⟨ν, ρ, hn, hf, nk, nw, ne, fe, jf⟩, jc, jo⟩ := hJ
  have jf' := jf
  obtain ⟨hR, hv, hN, hNV, hHc, hHm, hNρ, hsv⟩ := jf'
  have c := ca_122 (X := X) hL hR hv (X.2.1 (6 * i + 1))
  obtain ⟨M1, r1, f1, L1⟩ := hq_346 hL c fun E => e_sp_122
  have l1 := f1.1.1
  have e1 : ro M1 = ro M := f1.1.row fun k e => by unfold cS at e; omega
  have hv1 : vs (ro M1) nk nw ne := by rw [e1]; exact hv
  have m := cm_251 (X := X) l1 hv1 (X.2.1 (6 * i + 1))
  rw [e1] at m
  obtain ⟨M2, v, r2, f2, t2, w2⟩ := m
  have J2 : JJ M2 := hJ'.w ((f1.1.mo fun _ _ => cS_5).tr (f2.w.mo fun _ _ => fc_5))
  obtain ⟨M', hs, b1, b2⟩ := K M2 J2 (b_C f2 f1.2.1) (b_Z f2 f1.2.2) _ _ o8 o9 _
  exact ⟨M', t_364_2046 hL _ _ _ _ _ _ ⟨_, lx h3 1 (by omega), _, M1, l1, r1, _, lx h3 1 (by omega), _, M2, f2.1, r2, _, M2, f2.1, sm_154 f2.1, fin_q (cdI_z _) t2 (fun w e => ⟨by rw [f2.2.2.1]; exact L1 w e, w2 w e⟩) hs⟩, b1, b2⟩
theorem lc_2102 (hX : 6 * i + 6 ≤ X.1) (h3 : X.1 ≤ 3072) (hJ : JJ M) (K : Nxt X i M) (o6 o7 o8 o9 : Option Value) (l2 : List (Nat × Value)) : Dn X 2102 i o6 o7 o8 o9 l2 M := by
  have hJ' := hJ
  obtain ⟨hL, ji, ⟨ν, ρ, hn, hf, nk, nw, ne, fe, jf⟩, jc, jo⟩ := hJ
  have jf' := jf
  obtain ⟨hR, hv, hN, hNV, hHc, hHm, hNρ, hsv⟩ := jf'
  have c := ca_123 (X := X) hL hR hv (X.2.1 (6 * i + 1)) (X.2.1 (6 * i + 2))
  obtain ⟨M1, r1, f1, L1⟩ := hq_347 hL c fun E => e_sp_123
  have l1 := f1.1.1
  have e1 : ro M1 = ro M := f1.1.row fun k e => by unfold cS at e; omega
  have hv1 : vs (ro M1) nk nw ne := by rw [e1]; exact hv
  have m := (cm_249 (X := X) l1 hv1 (X.2.1 (6 * i + 1)) (X.2.1 (6 * i + 2))).2
  rw [e1] at m
  obtain ⟨M2, v, r2, f2, t2, w2⟩ := m
  have J2 : JJ M2 := hJ'.w ((f1.1.mo fun _ _ => cS_5).tr (f2.w.mo fun _ _ => fc_5))
  obtain ⟨M', hs, b1, b2⟩ := K M2 J2 (b_C f2 f1.2.1) (b_Z f2 f1.2.2) _ _ o8 o9 _
  exact ⟨M', t_364_2102 hL _ _ _ _ _ _ ⟨_, lx h3 1 (by omega), _, lx h3 2 (by omega), _, M1, l1, r1, _, lx h3 1 (by omega), _, lx h3 2 (by omega), _, M2, f2.1, r2, _, M2, f2.1, sm_154 f2.1, fin_q (cdI_z _) t2 (fun w e => ⟨by rw [f2.2.2.1]; exact L1 w e, w2 w e⟩) hs⟩, b1, b2⟩
theorem lc_2170 (hX : 6 * i + 6 ≤ X.1) (h3 : X.1 ≤ 3072) (hJ : JJ M) (K : Nxt X i M) (o6 o7 o8 o9 : Option Value) (l2 : List (Nat × Value)) : Dn X 2170 i o6 o7 o8 o9 l2 M := by
  have hJ' := hJ
  obtain ⟨hL, ji, ⟨ν, ρ, hn, hf, nk, nw, ne, fe, jf⟩, jc, jo⟩ := hJ
  have jf' := jf
  obtain ⟨hR, hv, hN, hNV, hHc, hHm, hNρ, hsv⟩ := jf'
  have c := ca_124 (X := X) hL hR hv (X.2.1 (6 * i + 1)) (X.2.1 (6 * i + 2)) (X.2.1 (6 * i + 3))
  obtain ⟨M1, r1, f1, L1⟩ := hq_348 hL c fun E => e_sp_124
  have l1 := f1.1.1
  have e1 : ro M1 = ro M := f1.1.row fun k e => by unfold cS at e; omega
  have hv1 : vs (ro M1) nk nw ne := by rw [e1]; exact hv
  have m := (cm_250 (X := X) l1 hv1 (X.2.1 (6 * i + 1)) (X.2.1 (6 * i + 2)) (X.2.1 (6 * i + 3))).2
  rw [e1] at m
  obtain ⟨M2, v, r2, f2, t2, w2⟩ := m
  have J2 : JJ M2 := hJ'.w ((f1.1.mo fun _ _ => cS_5).tr (f2.w.mo fun _ _ => fc_5))
  obtain ⟨M', hs, b1, b2⟩ := K M2 J2 (b_C f2 f1.2.1) (b_Z f2 f1.2.2) _ _ o8 o9 _
  exact ⟨M', t_364_2170 hL _ _ _ _ _ _ ⟨_, lx h3 1 (by omega), _, lx h3 2 (by omega), _, lx h3 3 (by omega), _, M1, l1, r1, _, lx h3 1 (by omega), _, lx h3 2 (by omega), _, lx h3 3 (by omega), _, M2, f2.1, r2, _, M2, f2.1, sm_154 f2.1, fin_q (cdI_z _) t2 (fun w e => ⟨by rw [f2.2.2.1]; exact L1 w e, w2 w e⟩) hs⟩, b1, b2⟩
theorem lc_2250 (hX : 6 * i + 6 ≤ X.1) (h3 : X.1 ≤ 3072) (hJ : JJ M) (K : Nxt X i M) (o6 o7 o8 o9 : Option Value) (l2 : List (Nat × Value)) : Dn X 2250 i o6 o7 o8 o9 l2 M := by
  have hJ' := hJ
  obtain ⟨hL, ji, ⟨ν, ρ, hn, hf, nk, nw, ne, fe, jf⟩, jc, jo⟩ := hJ
  have jf' := jf
  obtain ⟨hR, hv, hN, hNV, hHc, hHm, hNρ, hsv⟩ := jf'
  have c := (ca_125 (X := X) hL hR hv (X.2.1 (6 * i + 1)) (X.2.1 (6 * i + 2))).1
  obtain ⟨M1, r1, f1, L1⟩ := hq_349 hL c fun E => e_sp_148
  have l1 := f1.1.1
  have e1 : ro M1 = ro M := f1.1.row fun k e => by unfold cS at e; omega
  have hv1 : vs (ro M1) nk nw ne := by rw [e1]; exact hv
  have m := (cm_255 (X := X) l1 hv1 (X.2.1 (6 * i + 1)) (X.2.1 (6 * i + 2))).1
  rw [e1] at m
  obtain ⟨M2, v, r2, f2, t2, w2⟩ := m
  have J2 : JJ M2 := hJ'.w ((f1.1.mo fun _ _ => cS_5).tr (f2.w.mo fun _ _ => fc_5))
  obtain ⟨M', hs, b1, b2⟩ := K M2 J2 (b_C f2 f1.2.1) (b_Z f2 f1.2.2) _ _ o8 o9 _
  exact ⟨M', t_364_2250 hL _ _ _ _ _ _ ⟨_, lx h3 1 (by omega), _, lx h3 2 (by omega), _, M1, l1, r1, _, lx h3 1 (by omega), _, lx h3 2 (by omega), _, M2, f2.1, r2, _, M2, f2.1, sm_154 f2.1, fin_q (cdI_z _) t2 (fun w e => ⟨by rw [f2.2.2.1]; exact L1 w e, w2 w e⟩) hs⟩, b1, b2⟩
theorem lc_2318 (hX : 6 * i + 6 ≤ X.1) (h3 : X.1 ≤ 3072) (hJ : JJ M) (K : Nxt X i M) (o6 o7 o8 o9 : Option Value) (l2 : List (Nat × Value)) : Dn X 2318 i o6 o7 o8 o9 l2 M := by
  have hJ' := hJ
  obtain ⟨hL, ji, ⟨ν, ρ, hn, hf, nk, nw, ne, fe, jf⟩, jc, jo⟩ := hJ
  have jf' := jf
  obtain ⟨hR, hv, hN, hNV, hHc, hHm, hNρ, hsv⟩ := jf'
  have c := (ca_125 (X := X) hL hR hv (X.2.1 (6 * i + 1)) (X.2.1 (6 * i + 2))).2.1
  obtain ⟨M1, r1, f1, L1⟩ := hq_350 hL c fun E => e_sp_148
  have l1 := f1.1.1
  have e1 : ro M1 = ro M := f1.1.row fun k e => by unfold cS at e; omega
  have hv1 : vs (ro M1) nk nw ne := by rw [e1]; exact hv
  have m := (cm_255 (X := X) l1 hv1 (X.2.1 (6 * i + 1)) (X.2.1 (6 * i + 2))).2.1
  rw [e1] at m
  obtain ⟨M2, v, r2, f2, t2, w2⟩ := m
  have J2 : JJ M2 := hJ'.w ((f1.1.mo fun _ _ => cS_5).tr (f2.w.mo fun _ _ => fc_5))
  obtain ⟨M', hs, b1, b2⟩ := K M2 J2 (b_C f2 f1.2.1) (b_Z f2 f1.2.2) _ _ o8 o9 _
  exact ⟨M', t_364_2318 hL _ _ _ _ _ _ ⟨_, lx h3 1 (by omega), _, lx h3 2 (by omega), _, M1, l1, r1, _, lx h3 1 (by omega), _, lx h3 2 (by omega), _, M2, f2.1, r2, _, M2, f2.1, sm_154 f2.1, fin_q (cdI_z _) t2 (fun w e => ⟨by rw [f2.2.2.1]; exact L1 w e, w2 w e⟩) hs⟩, b1, b2⟩
theorem lc_2386 (hX : 6 * i + 6 ≤ X.1) (h3 : X.1 ≤ 3072) (hJ : JJ M) (K : Nxt X i M) (o6 o7 o8 o9 : Option Value) (l2 : List (Nat × Value)) : Dn X 2386 i o6 o7 o8 o9 l2 M := by
  have hJ' := hJ
  obtain ⟨hL, ji, ⟨ν, ρ, hn, hf, nk, nw, ne, fe, jf⟩, jc, jo⟩ := hJ
  have jf' := jf
  obtain ⟨hR, hv, hN, hNV, hHc, hHm, hNρ, hsv⟩ := jf'
  have c := (ca_125 (X := X) hL hR hv (X.2.1 (6 * i + 1)) (X.2.1 (6 * i + 2))).2.2
  obtain ⟨M1, r1, f1, L1⟩ := hq_351 hL c fun E => e_sp_148
  have l1 := f1.1.1
  have e1 : ro M1 = ro M := f1.1.row fun k e => by unfold cS at e; omega
  have hv1 : vs (ro M1) nk nw ne := by rw [e1]; exact hv
  have m := (cm_255 (X := X) l1 hv1 (X.2.1 (6 * i + 1)) (X.2.1 (6 * i + 2))).2.2
  rw [e1] at m
  obtain ⟨M2, v, r2, f2, t2, w2⟩ := m
  have J2 : JJ M2 := hJ'.w ((f1.1.mo fun _ _ => cS_5).tr (f2.w.mo fun _ _ => fc_5))
  obtain ⟨M', hs, b1, b2⟩ := K M2 J2 (b_C f2 f1.2.1) (b_Z f2 f1.2.2) _ _ o8 o9 _
  exact ⟨M', t_364_2386 hL _ _ _ _ _ _ ⟨_, lx h3 1 (by omega), _, lx h3 2 (by omega), _, M1, l1, r1, _, lx h3 1 (by omega), _, lx h3 2 (by omega), _, M2, f2.1, r2, _, M2, f2.1, sm_154 f2.1, fin_q (cdI_z _) t2 (fun w e => ⟨by rw [f2.2.2.1]; exact L1 w e, w2 w e⟩) hs⟩, b1, b2⟩
end SLC
