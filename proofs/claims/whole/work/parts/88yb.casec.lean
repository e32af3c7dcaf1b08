/-! the law's cases of changes -/
section SLD
variable {X : ak_X} {M M1 M2 : ak_M} {i : Nat} {ν : Nat → Nat} {ρ ρ' : Nat → Nat → Int32} {hn hn' hf hf' nk nw ne fe ne' fe' : Nat} {σ τ : Nat → Int32}
theorem JJ_ch (hL : ab_lay M) (ji : Ji M) (jc : Jc M) (jo : Jo M) (jf : Jf ν ρ hn hf nk nw ne fe M) (f1 : wf2 cZ M M1) (R1 : Rb 65 τ nk nw ne' fe' M1) (hv' : vs τ nk nw ne') (H1 : Hc ρ' hn' hf' nk nw M1) (f2 : fr mo_ch M1 M2) (q : q245 (ro M2) τ) (Hm2 : Hm ρ' hn' M2) (hNτ : NV τ ν nk) (hNρ' : ∀ j, j < hn' → NV (ρ' j) ν nk) : JJ M2 := by
  obtain ⟨hR, hv, hN, hNV, hHc, hHm, hNρ, hsv⟩ := jf
  have ji1 : Ji M1 := ji.w hL f1 fun p k e => by unfold cZ cY cS at e; unfold oi; omega
  have jc1 : Jc M1 := jc.w hL f1 fun p k e => by unfold cZ cY cS at e; unfold oe; omega
  have jo1 : Jo M1 := jo.w hL f1 fun p k e => by unfold cZ cY cS at e; unfold oo; omega
  have hN1 : Nc ν nk M1 := Nn_52.mp ((Nn_52.mpr hN).w hL f1 fun p k e => by unfold cZ cY cS at e; omega)
  have sv1 : Jsv ν nk nw M1 := hsv.w hL f1 fun p k e => by unfold cZ cY cS at e; omega
  have h10 := hv'.1.1
  refine ⟨f2.1, ji1.fr f2 fun p k e => ?_, ⟨ν, ρ', hn', hf', nk, nw, ne', fe', ?_, q_vs (q_sy q) hv', Nn_52.mp ((Nn_52.mpr hN1).ff f2 fun p k e => ?_), NV_q hNτ h10 q, H1.fr f2 fun p k e => ?_, Hm2, hNρ', sv1.fr f2 fun p k e => ?_⟩, jc1.fr f2 fun p k e => ?_, jo1.fr f2 fun p k e => ?_⟩
  · unfold mo_ch at e; unfold oi; omega
  · exact q_Rb (q_sy q) hv'.1 (R1.fr hv'.1 f2 fun p k e => by unfold mo_ch at e; omega)
  · unfold mo_ch at e; omega
  · unfold mo_ch at e; omega
  · unfold mo_ch at e; omega
  · unfold mo_ch at e; unfold oe; omega
  · unfold mo_ch at e; unfold oo; omega
theorem NV_psh (h : ∀ j, j < hn → NV (ρ j) ν nk) (hs : NV σ ν nk) : ∀ j, j < pn hn → NV (psh ρ hn σ j) ν nk := by
  intro j hj
  unfold pn at hj
  unfold psh
  by_cases c : hn = 10
  · rw [if_pos c] at hj ⊢
    by_cases e : j = 9
    · rw [if_pos e]; exact hs
    · rw [if_neg e]; exact h _ (by omega)
  · rw [if_neg c] at hj ⊢
    by_cases e : j = hn
    · rw [if_pos e]; exact hs
    · rw [if_neg e]; exact h _ (by omega)
theorem lc_2454 (hX : 6 * i + 6 ≤ X.1) (h3 : X.1 ≤ 3072) (hJ : JJ M) (K : Nxt X i M) (o6 o7 o8 o9 : Option Value) (l2 : List (Nat × Value)) : Dn X 2454 i o6 o7 o8 o9 l2 M := by
  have hJ' := hJ
  obtain ⟨hL, ji, ⟨ν, ρ, hn, hf, nk, nw, ne, fe, jf⟩, jc, jo⟩ := hJ
  have jf' := jf
  obtain ⟨hR, hv, hN, hNV, hHc, hHm, hNρ, hsv⟩ := jf'
  have c := hk_352 hL (cc_128 (X := X) hL hR hv hHc (X.2.1 (6 * i + 1))) fun E => e_sc_128
  cases ho : sc_128 (ro M) nk (X.2.1 (6 * i + 1)) with
  | inr E =>
    rw [ho] at c
    obtain ⟨M1, r1, f1⟩ := c
    have l1 := f1.1.1
    have e1 : ro M1 = ro M := f1.1.row fun k e => by unfold cX at e; omega
    have hv1 : vs (ro M1) nk nw ne := by rw [e1]; exact hv
    have hHm1 : Hm ρ hn M1 := hHm.w hL f1.1 fun p k e => by unfold cX at e; omega
    have m := mc_258 (X := X) l1 hv1 hHm1 (X.2.1 (6 * i + 1))
    rw [e1, ho] at m
    obtain ⟨M2, v, r2, f2, t2⟩ := m
    have J2 : JJ M2 := hJ'.w ((f1.1.mo fun _ _ => cX_5).tr (f2.w.mo fun _ _ => q1_5))
    obtain ⟨M', hs, b1, b2⟩ := K M2 J2 (b_C f2 f1.2.1) (b_Z f2 f1.2.2) _ _ o8 o9 _
    exact ⟨M', t_364_2454 hL _ _ _ _ _ _ ⟨_, lx h3 1 (by omega), _, M1, l1, r1, _, lx h3 1 (by omega), _, M2, f2.1, r2, _, M2, f2.1, sm_154 f2.1, mb_y t2 (mb_n (cdI_z _ E) hs)⟩, b1, b2⟩
  | inl p =>
    obtain ⟨v, τ⟩ := p
    rw [ho] at c
    obtain ⟨M1, r1, ⟨ne', fe', hf', f1, R1, hv', H1, c1, z1⟩, L1⟩ := c
    have l1 := f1.1
    have e1 : ro M1 = ro M := f1.row fun k e => by unfold cZ cY cS at e; omega
    have hv1 : vs (ro M1) nk nw ne := by rw [e1]; exact hv
    have hHm1 : Hm ρ hn M1 := hHm.w hL f1 fun p k e => by unfold cZ cY cS at e; omega
    have m := mc_258 (X := X) l1 hv1 hHm1 (X.2.1 (6 * i + 1))
    rw [e1, ho] at m
    obtain ⟨M2, r2, f2, eτ, t2, Hm2⟩ := m
    rw [e1] at Hm2
    have J2 : JJ M2 := JJ_ch hL ji jc jo jf f1 R1 hv' H1 f2 (fun k _ => by rw [eτ]) Hm2 (NV_nm hNV hv.1.1 (nm_128 hv ho)) (NV_psh hNρ hNV)
    obtain ⟨M', hs, b1, b2⟩ := K M2 J2 (b_C f2 c1) (b_Z f2 z1) _ _ o8 o9 _
    exact ⟨M', t_364_2454 hL _ _ _ _ _ _ ⟨_, lx h3 1 (by omega), _, M1, l1, r1, _, lx h3 1 (by omega), _, M2, f2.1, r2, _, M2, f2.1, sm_154 f2.1, mb_y t2 (mb_y rfl (mb_y (by rw [f2.2.2.1, L1]; exact lgc _) hs))⟩, b1, b2⟩
theorem lc_2510 (hX : 6 * i + 6 ≤ X.1) (h3 : X.1 ≤ 3072) (hJ : JJ M) (K : Nxt X i M) (o6 o7 o8 o9 : Option Value) (l2 : List (Nat × Value)) : Dn X 2510 i o6 o7 o8 o9 l2 M := by
  have hJ' := hJ
  obtain ⟨hL, ji, ⟨ν, ρ, hn, hf, nk, nw, ne, fe, jf⟩, jc, jo⟩ := hJ
  have jf' := jf
  obtain ⟨hR, hv, hN, hNV, hHc, hHm, hNρ, hsv⟩ := jf'
  have c := hk_353 hL (cc_129 (X := X) hL hR hv hHc (X.2.1 (6 * i + 1))) fun E => e_sc_129
  cases ho : sc_129 (ro M) (X.2.1 (6 * i + 1)) with
  | inr E =>
    rw [ho] at c
    obtain ⟨M1, r1, f1⟩ := c
    have l1 := f1.1.1
    have e1 : ro M1 = ro M := f1.1.row fun k e => by unfold cX at e; omega
    have hv1 : vs (ro M1) nk nw ne := by rw [e1]; exact hv
    have hHm1 : Hm ρ hn M1 := hHm.w hL f1.1 fun p k e => by unfold cX at e; omega
    have m := mc_260 (X := X) l1 hv1 hHm1 (X.2.1 (6 * i + 1))
    rw [e1, ho] at m
    obtain ⟨M2, v, r2, f2, t2⟩ := m
    have J2 : JJ M2 := hJ'.w ((f1.1.mo fun _ _ => cX_5).tr (f2.w.mo fun _ _ => q1_5))
    obtain ⟨M', hs, b1, b2⟩ := K M2 J2 (b_C f2 f1.2.1) (b_Z f2 f1.2.2) _ _ o8 o9 _
    exact ⟨M', t_364_2510 hL _ _ _ _ _ _ ⟨_, lx h3 1 (by omega), _, M1, l1, r1, _, lx h3 1 (by omega), _, M2, f2.1, r2, _, M2, f2.1, sm_154 f2.1, mb_y t2 (mb_n (cdI_z _ E) hs)⟩, b1, b2⟩
  | inl p =>
    obtain ⟨v, τ⟩ := p
    rw [ho] at c
    obtain ⟨M1, r1, ⟨ne', fe', hf', f1, R1, hv', H1, c1, z1⟩, L1⟩ := c
    have l1 := f1.1
    have e1 : ro M1 = ro M := f1.row fun k e => by unfold cZ cY cS at e; omega
    have hv1 : vs (ro M1) nk nw ne := by rw [e1]; exact hv
    have hHm1 : Hm ρ hn M1 := hHm.w hL f1 fun p k e => by unfold cZ cY cS at e; omega
    have m := mc_260 (X := X) l1 hv1 hHm1 (X.2.1 (6 * i + 1))
    rw [e1, ho] at m
    obtain ⟨M2, r2, f2, eτ, t2, Hm2⟩ := m
    rw [e1] at Hm2
    have J2 : JJ M2 := JJ_ch hL ji jc jo jf f1 R1 hv' H1 f2 (fun k _ => by rw [eτ]) Hm2 (NV_nm hNV hv.1.1 (nm_129 hv ho)) (NV_psh hNρ hNV)
    obtain ⟨M', hs, b1, b2⟩ := K M2 J2 (b_C f2 c1) (b_Z f2 z1) _ _ o8 o9 _
    exact ⟨M', t_364_2510 hL _ _ _ _ _ _ ⟨_, lx h3 1 (by omega), _, M1, l1, r1, _, lx h3 1 (by omega), _, M2, f2.1, r2, _, M2, f2.1, sm_154 f2.1, mb_y t2 (mb_y rfl (mb_y (by rw [f2.2.2.1, L1]; exact lgc _) hs))⟩, b1, b2⟩
theorem lc_2566 (hX : 6 * i + 6 ≤ X.1) (h3 : X.1 ≤ 3072) (hJ : JJ M) (K : Nxt X i M) (o6 o7 o8 o9 : Option Value) (l2 : List (Nat × Value)) : Dn X 2566 i o6 o7 o8 o9 l2 M := by
  have hJ' := hJ
  obtain ⟨hL, ji, ⟨ν, ρ, hn, hf, nk, nw, ne, fe, jf⟩, jc, jo⟩ := hJ
  have jf' := jf
  obtain ⟨hR, hv, hN, hNV, hHc, hHm, hNρ, hsv⟩ := jf'
  have c := hk_354 hL (cc_130 (X := X) hL hR hv hHc (X.2.1 (6 * i + 1)) (X.2.1 (6 * i + 2))) fun E => e_sc_130
  cases ho : sc_130 (ro M) (X.2.1 (6 * i + 1)) (X.2.1 (6 * i + 2)) with
  | inr E =>
    rw [ho] at c
    obtain ⟨M1, r1, f1⟩ := c
    have l1 := f1.1.1
    have e1 : ro M1 = ro M := f1.1.row fun k e => by unfold cX at e; omega
    have hv1 : vs (ro M1) nk nw ne := by rw [e1]; exact hv
    have hHm1 : Hm ρ hn M1 := hHm.w hL f1.1 fun p k e => by unfold cX at e; omega
    have m := mc_261 (X := X) l1 hv1 hHm1 (X.2.1 (6 * i + 1)) (X.2.1 (6 * i + 2))
    rw [e1, ho] at m
    obtain ⟨M2, v, r2, f2, t2⟩ := m
    have J2 : JJ M2 := hJ'.w ((f1.1.mo fun _ _ => cX_5).tr (f2.w.mo fun _ _ => q1_5))
    obtain ⟨M', hs, b1, b2⟩ := K M2 J2 (b_C f2 f1.2.1) (b_Z f2 f1.2.2) _ _ o8 o9 _
    exact ⟨M', t_364_2566 hL _ _ _ _ _ _ ⟨_, lx h3 1 (by omega), _, lx h3 2 (by omega), _, M1, l1, r1, _, lx h3 1 (by omega), _, lx h3 2 (by omega), _, M2, f2.1, r2, _, M2, f2.1, sm_154 f2.1, mb_y t2 (mb_n (cdI_z _ E) hs)⟩, b1, b2⟩
  | inl p =>
    obtain ⟨v, τ⟩ := p
    rw [ho] at c
    obtain ⟨M1, r1, ⟨ne', fe', hf', f1, R1, hv', H1, c1, z1⟩, L1⟩ := c
    have l1 := f1.1
    have e1 : ro M1 = ro M := f1.row fun k e => by unfold cZ cY cS at e; omega
    have hv1 : vs (ro M1) nk nw ne := by rw [e1]; exact hv
    have hHm1 : Hm ρ hn M1 := hHm.w hL f1 fun p k e => by unfold cZ cY cS at e; omega
    have m := mc_261 (X := X) l1 hv1 hHm1 (X.2.1 (6 * i + 1)) (X.2.1 (6 * i + 2))
    rw [e1, ho] at m
    obtain ⟨M2, r2, f2, eτ, t2, Hm2⟩ := m
    rw [e1] at Hm2
    have J2 : JJ M2 := JJ_ch hL ji jc jo jf f1 R1 hv' H1 f2 (fun k _ => by rw [eτ]) Hm2 (NV_nm hNV hv.1.1 (nm_130 hv ho)) (NV_psh hNρ hNV)
    obtain ⟨M', hs, b1, b2⟩ := K M2 J2 (b_C f2 c1) (b_Z f2 z1) _ _ o8 o9 _
    exact ⟨M', t_364_2566 hL _ _ _ _ _ _ ⟨_, lx h3 1 (by omega), _, lx h3 2 (by omega), _, M1, l1, r1, _, lx h3 1 (by omega), _, lx h3 2 (by omega), _, M2, f2.1, r2, _, M2, f2.1, sm_154 f2.1, mb_y t2 (mb_y rfl (mb_y (by rw [f2.2.2.1, L1]; exact lgc _) hs))⟩, b1, b2⟩
theorem lc_2634 (hX : 6 * i + 6 ≤ X.1) (h3 : X.1 ≤ 3072) (hJ : JJ M) (K : Nxt X i M) (o6 o7 o8 o9 : Option Value) (l2 : List (Nat × Value)) : Dn X 2634 i o6 o7 o8 o9 l2 M := by
  have hJ' := hJ
  obtain ⟨hL, ji, ⟨ν, ρ, hn, hf, nk, nw, ne, fe, jf⟩, jc, jo⟩ := hJ
  have jf' := jf
  obtain ⟨hR, hv, hN, hNV, hHc, hHm, hNρ, hsv⟩ := jf'
  have c := hk_355 hL (cc_131 (X := X) hL hR hv hHc (X.2.1 (6 * i + 1))) fun E => e_sc_131
  cases ho : sc_131 (ro M) (X.2.1 (6 * i + 1)) with
  | inr E =>
    rw [ho] at c
    obtain ⟨M1, r1, f1⟩ := c
    have l1 := f1.1.1
    have e1 : ro M1 = ro M := f1.1.row fun k e => by unfold cX at e; omega
    have hv1 : vs (ro M1) nk nw ne := by rw [e1]; exact hv
    have hHm1 : Hm ρ hn M1 := hHm.w hL f1.1 fun p k e => by unfold cX at e; omega
    have m := mc_262 (X := X) l1 hv1 hHm1 (X.2.1 (6 * i + 1))
    rw [e1, ho] at m
    obtain ⟨M2, v, r2, f2, t2⟩ := m
    have J2 : JJ M2 := hJ'.w ((f1.1.mo fun _ _ => cX_5).tr (f2.w.mo fun _ _ => q1_5))
    obtain ⟨M', hs, b1, b2⟩ := K M2 J2 (b_C f2 f1.2.1) (b_Z f2 f1.2.2) _ _ o8 o9 _
    exact ⟨M', t_364_2634 hL _ _ _ _ _ _ ⟨_, lx h3 1 (by omega), _, M1, l1, r1, _, lx h3 1 (by omega), _, M2, f2.1, r2, _, M2, f2.1, sm_154 f2.1, mb_y t2 (mb_n (cdI_z _ E) hs)⟩, b1, b2⟩
  | inl p =>
    obtain ⟨v, τ⟩ := p
    rw [ho] at c
    obtain ⟨M1, r1, ⟨ne', fe', hf', f1, R1, hv', H1, c1, z1⟩, L1⟩ := c
    have l1 := f1.1
    have e1 : ro M1 = ro M := f1.row fun k e => by unfold cZ cY cS at e; omega
    have hv1 : vs (ro M1) nk nw ne := by rw [e1]; exact hv
    have hHm1 : Hm ρ hn M1 := hHm.w hL f1 fun p k e => by unfold cZ cY cS at e; omega
    have m := mc_262 (X := X) l1 hv1 hHm1 (X.2.1 (6 * i + 1))
    rw [e1, ho] at m
    obtain ⟨M2, r2, f2, eτ, t2, Hm2⟩ := m
    rw [e1] at Hm2
    have J2 : JJ M2 := JJ_ch hL ji jc jo jf f1 R1 hv' H1 f2 (fun k _ => by rw [eτ]) Hm2 (NV_nm hNV hv.1.1 (nm_131 hv ho)) (NV_psh hNρ hNV)
    obtain ⟨M', hs, b1, b2⟩ := K M2 J2 (b_C f2 c1) (b_Z f2 z1) _ _ o8 o9 _
    exact ⟨M', t_364_2634 hL _ _ _ _ _ _ ⟨_, lx h3 1 (by omega), _, M1, l1, r1, _, lx h3 1 (by omega), _, M2, f2.1, r2, _, M2, f2.1, sm_154 f2.1, mb_y t2 (mb_y rfl (mb_y (by rw [f2.2.2.1, L1]; exact lgc _) hs))⟩, b1, b2⟩
theorem lc_2690 (hX : 6 * i + 6 ≤ X.1) (h3 : X.1 ≤ 3072) (hJ : JJ M) (K : Nxt X i M) (o6 o7 o8 o9 : Option Value) (l2 : List (Nat × Value)) : Dn X 2690 i o6 o7 o8 o9 l2 M := by
  have hJ' := hJ
  obtain ⟨hL, ji, ⟨ν, ρ, hn, hf, nk, nw, ne, fe, jf⟩, jc, jo⟩ := hJ
  have jf' := jf
  obtain ⟨hR, hv, hN, hNV, hHc, hHm, hNρ, hsv⟩ := jf'
  have c := hk_356 hL (cc_132 (X := X) hL hR hv hHc (X.2.1 (6 * i + 1)) (X.2.1 (6 * i + 2))) fun E => e_sc_132
  cases ho : sc_132 (ro M) (X.2.1 (6 * i + 1)) (X.2.1 (6 * i + 2)) with
  | inr E =>
    rw [ho] at c
    obtain ⟨M1, r1, f1⟩ := c
    have l1 := f1.1.1
    have e1 : ro M1 = ro M := f1.1.row fun k e => by unfold cX at e; omega
    have hv1 : vs (ro M1) nk nw ne := by rw [e1]; exact hv
    have hHm1 : Hm ρ hn M1 := hHm.w hL f1.1 fun p k e => by unfold cX at e; omega
    have m := mc_263 (X := X) l1 hv1 hHm1 (X.2.1 (6 * i + 1)) (X.2.1 (6 * i + 2))
    rw [e1, ho] at m
    obtain ⟨M2, v, r2, f2, t2⟩ := m
    have J2 : JJ M2 := hJ'.w ((f1.1.mo fun _ _ => cX_5).tr (f2.w.mo fun _ _ => q1_5))
    obtain ⟨M', hs, b1, b2⟩ := K M2 J2 (b_C f2 f1.2.1) (b_Z f2 f1.2.2) _ _ o8 o9 _
    exact ⟨M', t_364_2690 hL _ _ _ _ _ _ ⟨_, lx h3 1 (by omega), _, lx h3 2 (by omega), _, M1, l1, r1, _, lx h3 1 (by omega), _, lx h3 2 (by omega), _, M2, f2.1, r2, _, M2, f2.1, sm_154 f2.1, mb_y t2 (mb_n (cd3_z E) hs)⟩, b1, b2⟩
  | inl p =>
    obtain ⟨v, τ⟩ := p
    rw [ho] at c
    obtain ⟨M1, r1, ⟨ne', fe', hf', f1, R1, hv', H1, c1, z1⟩, L1⟩ := c
    have l1 := f1.1
    have e1 : ro M1 = ro M := f1.row fun k e => by unfold cZ cY cS at e; omega
    have hv1 : vs (ro M1) nk nw ne := by rw [e1]; exact hv
    have hHm1 : Hm ρ hn M1 := hHm.w hL f1 fun p k e => by unfold cZ cY cS at e; omega
    have m := mc_263 (X := X) l1 hv1 hHm1 (X.2.1 (6 * i + 1)) (X.2.1 (6 * i + 2))
    rw [e1, ho] at m
    obtain ⟨M2, r2, f2, eτ, t2, Hm2⟩ := m
    rw [e1] at Hm2
    have J2 : JJ M2 := JJ_ch hL ji jc jo jf f1 R1 hv' H1 f2 (fun k _ => by rw [eτ]) Hm2 (NV_nm hNV hv.1.1 (nm_132 hv ho)) (NV_psh hNρ hNV)
    obtain ⟨M', hs, b1, b2⟩ := K M2 J2 (b_C f2 c1) (b_Z f2 z1) _ _ o8 o9 _
    exact ⟨M', t_364_2690 hL _ _ _ _ _ _ ⟨_, lx h3 1 (by omega), _, lx h3 2 (by omega), _, M1, l1, r1, _, lx h3 1 (by omega), _, lx h3 2 (by omega), _, M2, f2.1, r2, _, M2, f2.1, sm_154 f2.1, mb_y t2 (mb_y rfl (mb_y (by rw [f2.2.2.1, L1]; exact lgc _) hs))⟩, b1, b2⟩
theorem lc_2758 (hX : 6 * i + 6 ≤ X.1) (h3 : X.1 ≤ 3072) (hJ : JJ M) (K : Nxt X i M) (o6 o7 o8 o9 : Option Value) (l2 : List (Nat × Value)) : Dn X 2758 i o6 o7 o8 o9 l2 M := by
  have hJ' := hJ
  obtain ⟨hL, ji, ⟨ν, ρ, hn, hf, nk, nw, ne, fe, jf⟩, jc, jo⟩ := hJ
  have jf' := jf
  obtain ⟨hR, hv, hN, hNV, hHc, hHm, hNρ, hsv⟩ := jf'
  have c := hk_357 hL (cc_133 (X := X) hL hR hv hHc (X.2.1 (6 * i + 1)) (X.2.1 (6 * i + 2)) (X.2.1 (6 * i + 3))) fun E => e_sc_133
  cases ho : sc_133 (ro M) (X.2.1 (6 * i + 1)) (X.2.1 (6 * i + 2)) (X.2.1 (6 * i + 3)) with
  | inr E =>
    rw [ho] at c
    obtain ⟨M1, r1, f1⟩ := c
    have l1 := f1.1.1
    have e1 : ro M1 = ro M := f1.1.row fun k e => by unfold cX at e; omega
    have hv1 : vs (ro M1) nk nw ne := by rw [e1]; exact hv
    have hHm1 : Hm ρ hn M1 := hHm.w hL f1.1 fun p k e => by unfold cX at e; omega
    have m := mc_264 (X := X) l1 hv1 hHm1 (X.2.1 (6 * i + 1)) (X.2.1 (6 * i + 2)) (X.2.1 (6 * i + 3))
    rw [e1, ho] at m
    obtain ⟨M2, v, r2, f2, t2⟩ := m
    have J2 : JJ M2 := hJ'.w ((f1.1.mo fun _ _ => cX_5).tr (f2.w.mo fun _ _ => q1_5))
    obtain ⟨M', hs, b1, b2⟩ := K M2 J2 (b_C f2 f1.2.1) (b_Z f2 f1.2.2) _ _ o8 o9 _
    exact ⟨M', t_364_2758 hL _ _ _ _ _ _ ⟨_, lx h3 1 (by omega), _, lx h3 2 (by omega), _, lx h3 3 (by omega), _, M1, l1, r1, _, lx h3 1 (by omega), _, lx h3 2 (by omega), _, lx h3 3 (by omega), _, M2, f2.1, r2, _, M2, f2.1, sm_154 f2.1, mb_y t2 (mb_n (cdI_z _ E) hs)⟩, b1, b2⟩
  | inl p =>
    obtain ⟨v, τ⟩ := p
    rw [ho] at c
    obtain ⟨M1, r1, ⟨ne', fe', hf', f1, R1, hv', H1, c1, z1⟩, L1⟩ := c
    have l1 := f1.1
    have e1 : ro M1 = ro M := f1.row fun k e => by unfold cZ cY cS at e; omega
    have hv1 : vs (ro M1) nk nw ne := by rw [e1]; exact hv
    have hHm1 : Hm ρ hn M1 := hHm.w hL f1 fun p k e => by unfold cZ cY cS at e; omega
    have m := mc_264 (X := X) l1 hv1 hHm1 (X.2.1 (6 * i + 1)) (X.2.1 (6 * i + 2)) (X.2.1 (6 * i + 3))
    rw [e1, ho] at m
    obtain ⟨M2, r2, f2, eτ, t2, Hm2⟩ := m
    rw [e1] at Hm2
    have J2 : JJ M2 := JJ_ch hL ji jc jo jf f1 R1 hv' H1 f2 (fun k _ => by rw [eτ]) Hm2 (NV_nm hNV hv.1.1 (nm_133 hv ho)) (NV_psh hNρ hNV)
    obtain ⟨M', hs, b1, b2⟩ := K M2 J2 (b_C f2 c1) (b_Z f2 z1) _ _ o8 o9 _
    exact ⟨M', t_364_2758 hL _ _ _ _ _ _ ⟨_, lx h3 1 (by omega), _, lx h3 2 (by omega), _, lx h3 3 (by omega), _, M1, l1, r1, _, lx h3 1 (by omega), _, lx h3 2 (by omega), _, lx h3 3 (by omega), _, M2, f2.1, r2, _, M2, f2.1, sm_154 f2.1, mb_y t2 (mb_y rfl (mb_y (by rw [f2.2.2.1, L1]; exact lgc _) hs))⟩, b1, b2⟩
theorem lc_2838 (hX : 6 * i + 6 ≤ X.1) (h3 : X.1 ≤ 3072) (hJ : JJ M) (K : Nxt X i M) (o6 o7 o8 o9 : Option Value) (l2 : List (Nat × Value)) : Dn X 2838 i o6 o7 o8 o9 l2 M := by
  have hJ' := hJ
  obtain ⟨hL, ji, ⟨ν, ρ, hn, hf, nk, nw, ne, fe, jf⟩, jc, jo⟩ := hJ
  have jf' := jf
  obtain ⟨hR, hv, hN, hNV, hHc, hHm, hNρ, hsv⟩ := jf'
  have c := hk_358 hL (cc_134 (X := X) hL hR hv hHc (X.2.1 (6 * i + 1)) (X.2.1 (6 * i + 2)) (X.2.1 (6 * i + 3))) fun E => e_sc_134
  cases ho : sc_134 (ro M) (X.2.1 (6 * i + 1)) (X.2.1 (6 * i + 2)) (X.2.1 (6 * i + 3)) with
  | inr E =>
    rw [ho] at c
    obtain ⟨M1, r1, f1⟩ := c
    have l1 := f1.1.1
    have e1 : ro M1 = ro M := f1.1.row fun k e => by unfold cX at e; omega
    have hv1 : vs (ro M1) nk nw ne := by rw [e1]; exact hv
    have hHm1 : Hm ρ hn M1 := hHm.w hL f1.1 fun p k e => by unfold cX at e; omega
    have m := mc_265 (X := X) l1 hv1 hHm1 (X.2.1 (6 * i + 1)) (X.2.1 (6 * i + 2)) (X.2.1 (6 * i + 3))
    rw [e1, ho] at m
    obtain ⟨M2, v, r2, f2, t2⟩ := m
    have J2 : JJ M2 := hJ'.w ((f1.1.mo fun _ _ => cX_5).tr (f2.w.mo fun _ _ => q1_5))
    obtain ⟨M', hs, b1, b2⟩ := K M2 J2 (b_C f2 f1.2.1) (b_Z f2 f1.2.2) _ _ o8 o9 _
    exact ⟨M', t_364_2838 hL _ _ _ _ _ _ ⟨_, lx h3 1 (by omega), _, lx h3 2 (by omega), _, lx h3 3 (by omega), _, M1, l1, r1, _, lx h3 1 (by omega), _, lx h3 2 (by omega), _, lx h3 3 (by omega), _, M2, f2.1, r2, _, M2, f2.1, sm_154 f2.1, mb_y t2 (mb_n (cd3_z E) hs)⟩, b1, b2⟩
  | inl p =>
    obtain ⟨v, τ⟩ := p
    rw [ho] at c
    obtain ⟨M1, r1, ⟨ne', fe', hf', f1, R1, hv', H1, c1, z1⟩, L1⟩ := c
    have l1 := f1.1
    have e1 : ro M1 = ro M := f1.row fun k e => by unfold cZ cY cS at e; omega
    have hv1 : vs (ro M1) nk nw ne := by rw [e1]; exact hv
    have hHm1 : Hm ρ hn M1 := hHm.w hL f1 fun p k e => by unfold cZ cY cS at e; omega
    have m := mc_265 (X := X) l1 hv1 hHm1 (X.2.1 (6 * i + 1)) (X.2.1 (6 * i + 2)) (X.2.1 (6 * i + 3))
    rw [e1, ho] at m
    obtain ⟨M2, r2, f2, eτ, t2, Hm2⟩ := m
    rw [e1] at Hm2
    have J2 : JJ M2 := JJ_ch hL ji jc jo jf f1 R1 hv' H1 f2 (fun k _ => by rw [eτ]) Hm2 (NV_nm hNV hv.1.1 (nm_134 hv ho)) (NV_psh hNρ hNV)
    obtain ⟨M', hs, b1, b2⟩ := K M2 J2 (b_C f2 c1) (b_Z f2 z1) _ _ o8 o9 _
    exact ⟨M', t_364_2838 hL _ _ _ _ _ _ ⟨_, lx h3 1 (by omega), _, lx h3 2 (by omega), _, lx h3 3 (by omega), _, M1, l1, r1, _, lx h3 1 (by omega), _, lx h3 2 (by omega), _, lx h3 3 (by omega), _, M2, f2.1, r2, _, M2, f2.1, sm_154 f2.1, mb_y t2 (mb_y rfl (mb_y (by rw [f2.2.2.1, L1]; exact lgc _) hs))⟩, b1, b2⟩
theorem lc_2918 (hX : 6 * i + 6 ≤ X.1) (h3 : X.1 ≤ 3072) (hJ : JJ M) (K : Nxt X i M) (o6 o7 o8 o9 : Option Value) (l2 : List (Nat × Value)) : Dn X 2918 i o6 o7 o8 o9 l2 M := by
  have hJ' := hJ
  obtain ⟨hL, ji, ⟨ν, ρ, hn, hf, nk, nw, ne, fe, jf⟩, jc, jo⟩ := hJ
  have jf' := jf
  obtain ⟨hR, hv, hN, hNV, hHc, hHm, hNρ, hsv⟩ := jf'
  have c := hk_359 hL (cc_135 (X := X) hL hR hv hHc (X.2.1 (6 * i + 1)) (X.2.1 (6 * i + 2)) (X.2.1 (6 * i + 3))) fun E => e_sc_135
  cases ho : sc_135 (ro M) (X.2.1 (6 * i + 1)) (X.2.1 (6 * i + 2)) (X.2.1 (6 * i + 3)) with
  | inr E =>
    rw [ho] at c
    obtain ⟨M1, r1, f1⟩ := c
    have l1 := f1.1.1
    have e1 : ro M1 = ro M := f1.1.row fun k e => by unfold cX at e; omega
    have hv1 : vs (ro M1) nk nw ne := by rw [e1]; exact hv
    have hHm1 : Hm ρ hn M1 := hHm.w hL f1.1 fun p k e => by unfold cX at e; omega
    have m := mc_267 (X := X) l1 hv1 hHm1 (X.2.1 (6 * i + 1)) (X.2.1 (6 * i + 2)) (X.2.1 (6 * i + 3))
    rw [e1, ho] at m
    obtain ⟨M2, v, r2, f2, t2⟩ := m
    have J2 : JJ M2 := hJ'.w ((f1.1.mo fun _ _ => cX_5).tr (f2.w.mo fun _ _ => q1_5))
    obtain ⟨M', hs, b1, b2⟩ := K M2 J2 (b_C f2 f1.2.1) (b_Z f2 f1.2.2) _ _ o8 o9 _
    exact ⟨M', t_364_2918 hL _ _ _ _ _ _ ⟨_, lx h3 1 (by omega), _, lx h3 2 (by omega), _, lx h3 3 (by omega), _, M1, l1, r1, _, lx h3 1 (by omega), _, lx h3 2 (by omega), _, lx h3 3 (by omega), _, M2, f2.1, r2, _, M2, f2.1, sm_154 f2.1, mb_y t2 (mb_n (cdI_z _ E) hs)⟩, b1, b2⟩
  | inl p =>
    obtain ⟨v, τ⟩ := p
    rw [ho] at c
    obtain ⟨M1, r1, ⟨ne', fe', hf', f1, R1, hv', H1, c1, z1⟩, L1⟩ := c
    have l1 := f1.1
    have e1 : ro M1 = ro M := f1.row fun k e => by unfold cZ cY cS at e; omega
    have hv1 : vs (ro M1) nk nw ne := by rw [e1]; exact hv
    have hHm1 : Hm ρ hn M1 := hHm.w hL f1 fun p k e => by unfold cZ cY cS at e; omega
    have m := mc_267 (X := X) l1 hv1 hHm1 (X.2.1 (6 * i + 1)) (X.2.1 (6 * i + 2)) (X.2.1 (6 * i + 3))
    rw [e1, ho] at m
    obtain ⟨M2, r2, f2, eτ, t2, Hm2⟩ := m
    rw [e1] at Hm2
    have J2 : JJ M2 := JJ_ch hL ji jc jo jf f1 R1 hv' H1 f2 (fun k _ => by rw [eτ]) Hm2 (NV_nm hNV hv.1.1 (nm_135 hv ho)) (NV_psh hNρ hNV)
    obtain ⟨M', hs, b1, b2⟩ := K M2 J2 (b_C f2 c1) (b_Z f2 z1) _ _ o8 o9 _
    exact ⟨M', t_364_2918 hL _ _ _ _ _ _ ⟨_, lx h3 1 (by omega), _, lx h3 2 (by omega), _, lx h3 3 (by omega), _, M1, l1, r1, _, lx h3 1 (by omega), _, lx h3 2 (by omega), _, lx h3 3 (by omega), _, M2, f2.1, r2, _, M2, f2.1, sm_154 f2.1, mb_y t2 (mb_y rfl (mb_y (by rw [f2.2.2.1, L1]; exact lgc _) hs))⟩, b1, b2⟩
theorem lc_2998 (hX : 6 * i + 6 ≤ X.1) (h3 : X.1 ≤ 3072) (hJ : JJ M) (K : Nxt X i M) (o6 o7 o8 o9 : Option Value) (l2 : List (Nat × Value)) : Dn X 2998 i o6 o7 o8 o9 l2 M := by
  have hJ' := hJ
  obtain ⟨hL, ji, ⟨ν, ρ, hn, hf, nk, nw, ne, fe, jf⟩, jc, jo⟩ := hJ
  have jf' := jf
  obtain ⟨hR, hv, hN, hNV, hHc, hHm, hNρ, hsv⟩ := jf'
  have c := hk_360 hL (cc_136 (X := X) hL hR hv hHc (X.2.1 (6 * i + 1)) (X.2.1 (6 * i + 2))) fun E => e_sc_136
  cases ho : sc_136 (ro M) (X.2.1 (6 * i + 1)) (X.2.1 (6 * i + 2)) with
  | inr E =>
    rw [ho] at c
    obtain ⟨M1, r1, f1⟩ := c
    have l1 := f1.1.1
    have e1 : ro M1 = ro M := f1.1.row fun k e => by unfold cX at e; omega
    have hv1 : vs (ro M1) nk nw ne := by rw [e1]; exact hv
    have hHm1 : Hm ρ hn M1 := hHm.w hL f1.1 fun p k e => by unfold cX at e; omega
    have m := mc_270 (X := X) l1 hHm1 (X.2.1 (6 * i + 1)) (X.2.1 (6 * i + 2))
    rw [e1, ho] at m
    obtain ⟨M2, v, r2, f2, t2⟩ := m
    have J2 : JJ M2 := hJ'.w ((f1.1.mo fun _ _ => cX_5).tr (f2.w.mo fun _ _ => q1_5))
    obtain ⟨M', hs, b1, b2⟩ := K M2 J2 (b_C f2 f1.2.1) (b_Z f2 f1.2.2) _ _ o8 o9 _
    exact ⟨M', t_364_2998 hL _ _ _ _ _ _ ⟨_, lx h3 1 (by omega), _, lx h3 2 (by omega), _, M1, l1, r1, _, lx h3 1 (by omega), _, lx h3 2 (by omega), _, M2, f2.1, r2, _, M2, f2.1, sm_154 f2.1, mb_y t2 (mb_n (cdI_z _ E) hs)⟩, b1, b2⟩
  | inl p =>
    obtain ⟨v, τ⟩ := p
    rw [ho] at c
    obtain ⟨M1, r1, ⟨ne', fe', hf', f1, R1, hv', H1, c1, z1⟩, L1⟩ := c
    have l1 := f1.1
    have e1 : ro M1 = ro M := f1.row fun k e => by unfold cZ cY cS at e; omega
    have hv1 : vs (ro M1) nk nw ne := by rw [e1]; exact hv
    have hHm1 : Hm ρ hn M1 := hHm.w hL f1 fun p k e => by unfold cZ cY cS at e; omega
    have m := mc_270 (X := X) l1 hHm1 (X.2.1 (6 * i + 1)) (X.2.1 (6 * i + 2))
    rw [e1, ho] at m
    obtain ⟨M2, r2, f2, eτ, t2, Hm2⟩ := m
    rw [e1] at Hm2
    have J2 : JJ M2 := JJ_ch hL ji jc jo jf f1 R1 hv' H1 f2 (fun k _ => by rw [eτ]) Hm2 (NV_nm hNV hv.1.1 (nm_136 ho)) (NV_psh hNρ hNV)
    obtain ⟨M', hs, b1, b2⟩ := K M2 J2 (b_C f2 c1) (b_Z f2 z1) _ _ o8 o9 _
    exact ⟨M', t_364_2998 hL _ _ _ _ _ _ ⟨_, lx h3 1 (by omega), _, lx h3 2 (by omega), _, M1, l1, r1, _, lx h3 1 (by omega), _, lx h3 2 (by omega), _, M2, f2.1, r2, _, M2, f2.1, sm_154 f2.1, mb_y t2 (mb_y rfl (mb_y (by rw [f2.2.2.1, L1]; exact lgc _) hs))⟩, b1, b2⟩
end SLD
