/-! the law's cases: a kite printed, lines that cross, heights, the past, a parse -/
theorem d_self {v : UInt32} (h : Jvm.FP.Core.fIsNaN v = false) : Op.cmpValue (FP.dcmp (FP.f2d v) (FP.f2d v)) .l = 0 ∧ (FP.f2d v) &&& 0x7fffffffffffffff ≤ 0x7ff0000000000000 := by
  have e : Jvm.FP.Core.dIsNaN (FP.f2d v) = false := (Jvm.FP.f2d_nan v).trans h
  have c : FP.dcmp (FP.f2d v) (FP.f2d v) = some .eq := Jvm.FP.Core.dcmp_self ((Jvm.FP.Core.notNaN_iff _).mp e)
  refine ⟨by rw [c]; decide, ?_⟩
  generalize FP.f2d v = a at *
  have h1 := Jvm.FP.Core.isNaN_bits a
  rw [e] at h1
  rw [UInt64.le_iff_toNat_le, Jvm.FP.Core.mask_toNat]
  refine Nat.le_of_not_lt fun c => ?_
  have := h1.mpr c
  cases this
theorem lft_ok (v : Int32) {t : Int32} (h : t ≠ 0) : Jvm.FP.Core.fIsNaN (FP.fdiv (FP.i2f v) (FP.i2f t)) = false :=
  Jvm.FP.Core.fdiv_out (Jvm.FP.Core.i2f_fin v).notNaN (Jvm.FP.Core.i2f_fin t) (by
    have := Jvm.FP.Core.i2f_ne_zero h
    rw [Jvm.FP.Core.zero_bits232]
    exact this)
section SLF
variable {X : ak_X} {M M1 M2 : ak_M} {i : Nat} {β xs : Nat → Int32} {n : Nat}
theorem JJ_ou2 {S : Nat → Nat → Prop} (hJ : JJ M) (f1 : wf2 cOX M M1) (f2 : fr S M1 M2) (hS : ∀ p k, S p k → mo_px p k) (jo : Jo M2) : JJ M2 := by
  obtain ⟨hL, ji, ⟨ν, ρ, hn, hf, nk, nw, ne, fe, jf⟩, jc, -⟩ := hJ
  refine ⟨f2.1, (ji.w hL f1 fun p k e => ?_).fr f2 fun p k e => ?_, ⟨ν, ρ, hn, hf, nk, nw, ne, fe, (jf.w hL f1 fun p k e => ?_).fr f2 fun p k e => ?_⟩, (jc.w hL f1 fun p k e => ?_).fr f2 fun p k e => ?_, jo⟩
  · unfold cOX cO cX at e; unfold oi; omega
  · have e := hS p k e; unfold mo_px mo_pp mo_ou mo_pq at e; unfold oi; omega
  · unfold cOX cO cX at e; unfold of5; omega
  · have e := hS p k e; unfold mo_px mo_pp mo_ou mo_pq at e; unfold of5; omega
  · unfold cOX cO cX at e; unfold oe; omega
  · have e := hS p k e; unfold mo_px mo_pp mo_ou mo_pq at e; unfold oe; omega
theorem fy_to {S : Nat → Nat → Prop} (f : fy S M M1) (c : Int32) : ak_C (to M1 c) ≤ ak_C M + 3 ∧ ak_Z (to M1 c) ≤ ak_Z M + 12 := ⟨f.2.1, f.2.2⟩
theorem lc_3110 (hX : 6 * i + 6 ≤ X.1) (h3 : X.1 ≤ 3072) (hJ : JJ M) (K : Nxt X i M) (o6 o7 o8 o9 : Option Value) (l2 : List (Nat × Value)) : Dn X 3110 i o6 o7 o8 o9 l2 M := by
  have hJ' := hJ
  obtain ⟨hL, -, ⟨ν, ρ, hn, hf, nk, nw, ne, fe, jf⟩, -, -⟩ := hJ'
  obtain ⟨hR, hv, hN, hNV, hHc, hHm, hNρ, hsv⟩ := jf
  by_cases c : mo_isK (ro M) (X.2.1 (6 * i + 1)) = true
  · obtain ⟨k, hk, ek⟩ := (isK_of hv.1).mp c
    obtain ⟨M0, r0, f0, o0⟩ := cp_138 (X := X) hL hR hv hN hk
    rw [← ek] at r0
    obtain ⟨M1, hM1⟩ : ∃ M1, M1 = ak_sL M0 497 0 (nI (pkt (ro M) (ν k) k).length).toInt64 := ⟨_, rfl⟩
    have r1 : rn X 362 [.ref 0, .int (X.2.1 (6 * i + 1)), .ref 497] M (.inl (some (.int 0)), M1) := t_362 hL _ (Or.inl ⟨_, M0, f0.1, r0, by rw [hM1]⟩)
    have y1 : fy cO M M1 := by rw [hM1]; exact fy_L f0.qx _
    have l1 := y1.1.1
    have e1 : ro M1 = ro M := y1.1.row fun k e => by unfold cO at e; omega
    obtain ⟨M2, r2, f2, t2, o2⟩ := mp_309 (X := X) (nk := nk) (nw := nw) (ne := ne) (ν := ν) (k := k) l1 (by rw [e1]; exact hv) (by rw [e1]; exact ⟨(hNV k hk).1, (hNV k hk).2.1⟩) hk
    rw [e1] at r2 o2
    rw [← ek] at r2
    have o1 : Oc1 (pkt (ro M) (ν k) k) M1 := by rw [hM1]; exact o0
    have J2 : JJ M2 := JJ_ou2 hJ (y1.1.mo fun _ _ h => Or.inl h) f2 (fun p k e => by unfold mo_pk mo_q1 mo_ou at e; unfold mo_px mo_pp mo_ou mo_pq; omega) ⟨_, o1.ff f2 fun p k e => by unfold mo_pk mo_q1 mo_ou at e; omega, o2⟩
    obtain ⟨M', hs, b1, b2⟩ := K M2 J2 (b_C f2 y1.2.1) (b_Z f2 y1.2.2) _ _ o8 o9 _
    exact ⟨M', t_364_3110 hL _ _ _ _ _ _ ⟨_, lx h3 1 (by omega), _, M1, l1, r1, _, lx h3 1 (by omega), _, M2, f2.1, r2, _, M2, f2.1, sm_154 f2.1, mb_y t2 (mb_y rfl (mb_y (by rw [f2.2.2.1, hM1, sL_0]; exact lgc _) hs))⟩, b1, b2⟩
  · obtain ⟨M0, r0, f0⟩ := cp_138n (X := X) hL hR c
    have r1 : rn X 362 [.ref 0, .int (X.2.1 (6 * i + 1)), .ref 497] M (.inl (some (.int 1)), ak_use M0 1 0) := t_362 hL _ (Or.inr ⟨M0, f0.1, r0, rfl⟩)
    have y1 : fy (cX 65) M (ak_use M0 1 0) := fy_u f0
    have l1 := y1.1.1
    have e1 : ro (ak_use M0 1 0) = ro M := y1.1.row fun k e => by unfold cX at e; omega
    have r2 := mp_309n (X := X) (M := ak_use M0 1 0) (x := X.2.1 (6 * i + 1)) l1 (by rw [e1]; exact c)
    have J2 : JJ (to (ak_use M0 1 0) 1) := hJ.w ((y1.1.mo fun _ _ => cX_5).tr (to_5 l1 1))
    obtain ⟨M', hs, b1, b2⟩ := K _ J2 (fy_to y1 1).1 (fy_to y1 1).2 _ _ o8 o9 _
    exact ⟨M', t_364_3110 hL _ _ _ _ _ _ ⟨_, lx h3 1 (by omega), _, _, l1, r1, _, lx h3 1 (by omega), _, _, to_L l1 1, r2, _, _, to_L l1 1, sm_154 (to_L l1 1), mb_y (to_0 _) (mb_n (by decide) hs)⟩, b1, b2⟩
theorem sp100_b {σ : Nat → Int32} {x y w : Int32} (h : sp_100 σ x y = .inl w) : w = 0 ∨ w = 1 := by
  unfold sp_100 at h
  split at h
  · split at h
    · cases h; exact bI_01 _
    · cases h
  · cases h
theorem lc_792 (hX : 6 * i + 6 ≤ X.1) (h3 : X.1 ≤ 3072) (hJ : JJ M) (K : Nxt X i M) (o6 o7 o8 o9 : Option Value) (l2 : List (Nat × Value)) : Dn X 792 i o6 o7 o8 o9 l2 M := by
  have hJ' := hJ
  obtain ⟨hL, -, ⟨ν, ρ, hn, hf, nk, nw, ne, fe, jf⟩, -, -⟩ := hJ'
  obtain ⟨hR, hv, hN, hNV, hHc, hHm, hNρ, hsv⟩ := jf
  have c := ca_100 (X := X) hL hR hv (X.2.1 (6 * i + 1)) (X.2.1 (6 * i + 2))
  obtain ⟨M1, r1, f1, L1⟩ := hq_329 hL c (fun E => e_sp_100) fun v => sp100_b
  have l1 := f1.1.1
  have e1 : ro M1 = ro M := f1.1.row fun k e => by unfold cX at e; omega
  obtain ⟨M2, v, r2, f2, t2, w2⟩ := cm_223 (X := X) l1 e1 hv (X.2.1 (6 * i + 1)) (X.2.1 (6 * i + 2))
  have J2 : JJ M2 := hJ.w ((f1.1.mo fun _ _ => cX_5).tr (f2.w.mo fun _ _ => q1_5))
  obtain ⟨M', hs, b1, b2⟩ := K M2 J2 (b_C f2 f1.2.1) (b_Z f2 f1.2.2) (some (.int (tc (cdI 0) (sp_100 (ro M) (X.2.1 (6 * i + 1)) (X.2.1 (6 * i + 2)))))) (some (.int v)) o8 o9 (((l2).filter (fun q => !(q.1 == 6) && !(q.1 + 1 == 6))).filter (fun q => !(q.1 == 7) && !(q.1 + 1 == 7)))
  refine ⟨M', t_364_792 hL _ _ _ _ _ _ ⟨_, lx h3 1 (by omega), _, lx h3 2 (by omega), _, M1, l1, r1, _, lx h3 1 (by omega), _, lx h3 2 (by omega), _, M2, f2.1, r2, _, M2, f2.1, sm_154 f2.1, mb_y t2 ?_⟩, b1, b2⟩
  cases ho : sp_100 (ro M) (X.2.1 (6 * i + 1)) (X.2.1 (6 * i + 2)) with
  | inr E =>
    rw [ho] at hs
    exact mb_n (cdI_z _ E) hs
  | inl w =>
    rw [ho] at hs
    have ew := w2 w ho
    have eL : ak_L M2 497 0 = w.toInt64 := by rw [f2.2.2.1]; exact L1 w ho
    refine mb_y rfl ?_
    rcases sp100_b ho with z | z
    · rw [z] at ew eL
      exact mb_y ew (mb_y (by rw [eL]; exact lgc _) hs)
    · rw [z] at ew eL
      exact mb_n (by rw [ew]; decide) (mb_y (by rw [eL]; exact lgc _) hs)
theorem lc_1699 (hX : 6 * i + 6 ≤ X.1) (h3 : X.1 ≤ 3072) (hJ : JJ M) (K : Nxt X i M) (o6 o7 o8 o9 : Option Value) (l2 : List (Nat × Value)) : Dn X 1699 i o6 o7 o8 o9 l2 M := by
  have hJ' := hJ
  obtain ⟨hL, -, ⟨ν, ρ, hn, hf, nk, nw, ne, fe, jf⟩, -, -⟩ := hJ'
  obtain ⟨hR, hv, hN, hNV, hHc, hHm, hNρ, hsv⟩ := jf
  have r1 := cd_117 (X := X) hL hR hv
  have r2 := cm_243 (X := X) hL hv
  have J2 : JJ (to M 0) := hJ.w (to_5 hL 0)
  generalize sp_117 (ro M) nk = z at *
  obtain ⟨M', hs, b1, b2⟩ := K _ J2 (by show ak_C M ≤ _; omega) (by show ak_Z M ≤ _; omega) none none none none ((8, .double z) :: ((6, .double z) :: (l2).filter (fun q => !(q.1 == 6) && (!(q.1 == 6 + 1) && !(q.1 + 1 == 6)))).filter (fun q => !(q.1 == 8) && (!(q.1 == 8 + 1) && !(q.1 + 1 == 8))))
  refine ⟨M', t_364_1699 hL _ _ _ _ _ _ ⟨_, M, hL, r1, _, _, to_L hL 0, r2, ?_⟩, b1, b2⟩
  by_cases c : Op.cmpValue (FP.dcmp z z) .l = 0
  · exact mb_y c hs
  · exact mb_n c (mb_n c (mb_n c hs))
theorem lc_1740 (hX : 6 * i + 6 ≤ X.1) (h3 : X.1 ≤ 3072) (hJ : JJ M) (K : Nxt X i M) (o6 o7 o8 o9 : Option Value) (l2 : List (Nat × Value)) : Dn X 1740 i o6 o7 o8 o9 l2 M := by
  have hJ' := hJ
  obtain ⟨hL, -, ⟨ν, ρ, hn, hf, nk, nw, ne, fe, jf⟩, -, -⟩ := hJ'
  obtain ⟨hR, hv, hN, hNV, hHc, hHm, hNρ, hsv⟩ := jf
  have r1 := cd_118 (X := X) hL hR hv (X.2.1 (6 * i + 1))
  by_cases c : mo_isK (ro M) (X.2.1 (6 * i + 1)) = true
  · rw [if_pos c] at r1
    have hk := isK_lt hv c
    have t0 : kf (ro M) (kN (X.2.1 (6 * i + 1))) 9 ≠ 0 := fun e => by
      have h9 : in32 (kf (ro M) (kN (X.2.1 (6 * i + 1))) 9) 1 99 = true := hv.2.2.1 _ hk 9 (by decide)
      rw [e] at h9
      exact absurd h9 (by decide)
    have ok := lft_ok (mx32 0 (kf (ro M) (kN (X.2.1 (6 * i + 1))) 9 - kf (ro M) (kN (X.2.1 (6 * i + 1))) 10)) t0
    have ok : Jvm.FP.Core.fIsNaN (mo_lft (ro M) (kN (X.2.1 (6 * i + 1)))) = false := ok
    generalize hz : mo_lft (ro M) (kN (X.2.1 (6 * i + 1))) = z at *
    obtain ⟨d1, d2⟩ := d_self ok
    obtain ⟨M1, hM1⟩ : ∃ M1, M1 = ak_sD M 498 0 (FP.f2d z) := ⟨_, rfl⟩
    have r3 : rn X 342 [.ref 0, .int (X.2.1 (6 * i + 1)), .ref 498] M (.inl (some (.int 0)), M1) := t_342 hL _ (Or.inl ⟨_, M, hL, r1, d2, by rw [hM1]⟩)
    have f1 : wf2 sc5 M M1 := by rw [hM1]; exact ⟨hL, fun _ _ _ => rfl⟩
    have l1 := f1.1
    have e1 : ro M1 = ro M := by rw [hM1]; rfl
    have r2 := cm_244 (X := X) (nk := nk) (nw := nw) (ne := ne) l1 (by rw [e1]; exact hv) (X.2.1 (6 * i + 1))
    rw [e1, if_pos c, hz] at r2
    have J2 : JJ (to M1 0) := hJ.w (f1.tr (to_5 l1 0))
    have eC : ak_C (to M1 0) = ak_C M := by rw [hM1]; rfl
    have eZ : ak_Z (to M1 0) = ak_Z M := by rw [hM1]; rfl
    have eD : ak_D (to M1 0) 498 0 = FP.f2d z := by
      rw [hM1]
      show (if 498 = 498 ∧ 0 = 0 then FP.f2d z else ak_D M 498 0) = FP.f2d z
      exact if_pos ⟨rfl, rfl⟩
    obtain ⟨M', hs, b1, b2⟩ := K _ J2 (by omega) (by omega) _ _ o8 o9 _
    exact ⟨M', t_364_1740 hL _ _ _ _ _ _ ⟨_, lx h3 1 (by omega), _, M1, l1, r3, _, lx h3 1 (by omega), _, _, to_L l1 0, r2, _, _, to_L l1 0, sm_154 (to_L l1 0), mb_y (to_0 _) (mb_y rfl ⟨d2, mb_y (by rw [eD]; exact d1) hs⟩)⟩, b1, b2⟩
  · rw [if_neg c] at r1
    have r3 : rn X 342 [.ref 0, .int (X.2.1 (6 * i + 1)), .ref 498] M (.inl (some (.int 1)), ak_use (ak_use M 1 6) 1 0) := t_342 hL _ (Or.inr ⟨_, (fr.rf (S := cX 65) hL).ux.1, r1, rfl⟩)
    have y1 : fy (cX 65) M (ak_use (ak_use M 1 6) 1 0) := fy_u (fr.rf hL).ux
    have l1 := y1.1.1
    have e1 : ro (ak_use (ak_use M 1 6) 1 0) = ro M := rfl
    have r2 := cm_244 (X := X) (M := ak_use (ak_use M 1 6) 1 0) (nk := nk) (nw := nw) (ne := ne) l1 hv (X.2.1 (6 * i + 1))
    rw [e1, if_neg c] at r2
    have J2 : JJ (to (ak_use (ak_use M 1 6) 1 0) 1) := hJ.w ((y1.1.mo fun _ _ => cX_5).tr (to_5 l1 1))
    obtain ⟨M', hs, b1, b2⟩ := K _ J2 (fy_to y1 1).1 (fy_to y1 1).2 _ _ o8 o9 _
    exact ⟨M', t_364_1740 hL _ _ _ _ _ _ ⟨_, lx h3 1 (by omega), _, _, l1, r3, _, lx h3 1 (by omega), _, _, to_L l1 1, r2, _, _, to_L l1 1, sm_154 (to_L l1 1), mb_y (to_0 _) (mb_n (by decide) hs)⟩, b1, b2⟩
/-! undo, save, restore -/
theorem lc_3066 (hX : 6 * i + 6 ≤ X.1) (h3 : X.1 ≤ 3072) (hJ : JJ M) (K : Nxt X i M) (o6 o7 o8 o9 : Option Value) (l2 : List (Nat × Value)) : Dn X 3066 i o6 o7 o8 o9 l2 M := by
  have hJ' := hJ
  obtain ⟨hL, ji, ⟨ν, ρ, hn, hf, nk, nw, ne, fe, jf⟩, jc, jo⟩ := hJ'
  have jf' := jf
  obtain ⟨hR, hv, hN, hNV, hHc, hHm, hNρ, hsv⟩ := jf'
  cases hn with
  | zero =>
    obtain ⟨M0, r0, f0⟩ := cu_137n (X := X) hL hHc
    have r1 : rn X 361 [.ref 0, .ref 497] M (.inl (some (.int 1)), ak_use M0 1 0) := t_361 hL (Or.inr ⟨M0, f0.1, r0, rfl⟩)
    have y1 : fy (cX 65) M (ak_use M0 1 0) := fy_u f0
    have l1 := y1.1.1
    have hHm1 : Hm ρ 0 (ak_use M0 1 0) := hHm.w hL y1.1 fun p k e => by unfold cX at e; omega
    have r2 := mu_163n (X := X) l1 hHm1
    have J2 : JJ (to (ak_use M0 1 0) 1) := hJ.w ((y1.1.mo fun _ _ => cX_5).tr (to_5 l1 1))
    obtain ⟨M', hs, b1, b2⟩ := K _ J2 (fy_to y1 1).1 (fy_to y1 1).2 _ _ o8 o9 _
    exact ⟨M', t_364_3066 hL _ _ _ _ _ _ ⟨_, _, l1, r1, _, _, to_L l1 1, r2, _, _, to_L l1 1, sm_154 (to_L l1 1), mb_y (to_0 _) (mb_n (by decide) hs)⟩, b1, b2⟩
  | succ n =>
    obtain ⟨M0, r0, k0⟩ := cu_137 (X := X) hL hHc
    obtain ⟨M1, hM1⟩ : ∃ M1, M1 = ak_sL M0 497 0 (nI n).toInt64 := ⟨_, rfl⟩
    have r1 : rn X 361 [.ref 0, .ref 497] M (.inl (some (.int 0)), M1) := t_361 hL (Or.inl ⟨_, M0, k0.L, r0, by rw [hM1]⟩)
    have kw1 : kw M ρ n nk nw (ρ n) M1 := by rw [hM1]; exact kw_L k0 _
    obtain ⟨ne', fe', hf', f1, R1, hv', H1, c1, z1⟩ := kw1
    have l1 := f1.1
    have hHm1 : Hm ρ (n + 1) M1 := hHm.w hL f1 fun p k e => by unfold cZ cY cS at e; omega
    obtain ⟨M2, r2, f2, q, t2, Hm2⟩ := mu_163 (X := X) l1 hHm1
    have J2 : JJ M2 := JJ_ch hL ji jc jo jf f1 R1 hv' H1 f2 q Hm2 (hNρ n (by omega)) fun j hj => hNρ j (by omega)
    obtain ⟨M', hs, b1, b2⟩ := K M2 J2 (b_C f2 c1) (b_Z f2 z1) _ _ o8 o9 _
    exact ⟨M', t_364_3066 hL _ _ _ _ _ _ ⟨_, M1, l1, r1, _, M2, f2.1, r2, _, M2, f2.1, sm_154 f2.1, mb_y t2 (mb_y rfl (mb_y (by rw [f2.2.2.1, hM1, sL_0]; exact lgc _) hs))⟩, b1, b2⟩
theorem lc_3217 (hX : 6 * i + 6 ≤ X.1) (h3 : X.1 ≤ 3072) (hJ : JJ M) (K : Nxt X i M) (o6 o7 o8 o9 : Option Value) (l2 : List (Nat × Value)) : Dn X 3217 i o6 o7 o8 o9 l2 M := by
  obtain ⟨hL, ji, ⟨ν, ρ, hn, hf, nk, nw, ne, fe, jf⟩, jc, jo⟩ := hJ
  obtain ⟨hR, hv, hN, hNV, hHc, hHm, hNρ, hsv⟩ := jf
  obtain ⟨M1, r1, f1, R1, e8⟩ := cu_142 (X := X) hL hR hv
  have e1 : ro M1 = ro M := f1.row fun k e => by unfold cV cS at e; omega
  obtain ⟨M2, r2, f2, q, e48, t2⟩ := mu_164 (X := X) f1.1
  rw [e1] at r2 q
  have e2 : ro M2 = ro M := (f2.row fun k e => by unfold mo_sv at e; omega).trans e1
  have h10 := hv.1.1
  have J2 : JJ M2 := by
    refine ⟨f2.1, (ji.fr f1 fun p k e => ?_).fr f2 fun p k e => ?_, ⟨ν, ρ, hn, hf, nk, nw, ne, fe, ?_, by rw [e2]; exact hv, Nn_52.mp (((Nn_52.mpr hN).ff f1 fun p k e => ?_).ff f2 fun p k e => ?_), by rw [e2]; exact hNV, (hHc.fr f1 fun p k e => ?_).fr f2 fun p k e => ?_, (hHm.fr f1 fun p k e => ?_).fr f2 fun p k e => ?_, hNρ, Or.inr ⟨?_, e48, ne, fe, ?_, q_vs (q_sy q) hv, NV_q hNV h10 q⟩⟩, (jc.fr f1 fun p k e => ?_).fr f2 fun p k e => ?_, (jo.fr f1 fun p k e => ?_).fr f2 fun p k e => ?_⟩
    · unfold cV cS at e; unfold oi; omega
    · unfold mo_sv at e; unfold oi; omega
    · rw [e2]
      exact (hR.fr hv.1 f1 fun p k e => by unfold cV cS at e; omega).fr hv.1 f2 fun p k e => by unfold mo_sv at e; omega
    · unfold cV cS at e; omega
    · unfold mo_sv at e; omega
    · unfold cV cS at e; omega
    · unfold mo_sv at e; omega
    · unfold cV cS at e; omega
    · unfold mo_sv at e; omega
    · rw [f2.2.1 0 8 fun e => by unfold mo_sv at e; omega]; exact e8
    · exact q_Rb (q_sy q) hv.1 (R1.fr hv.1 f2 fun p k e => by unfold mo_sv at e; omega)
    · unfold cV cS at e; unfold oe; omega
    · unfold mo_sv at e; unfold oe; omega
    · unfold cV cS at e; unfold oo; omega
    · unfold mo_sv at e; unfold oo; omega
  obtain ⟨M', hs, b1, b2⟩ := K M2 J2 (frC f1 f2) (frZ f1 f2) o6 o7 o8 o9 l2
  exact ⟨M', t_364_3217 hL _ _ _ _ _ _ ⟨_, M1, f1.1, r1, _, M2, f2.1, r2, mb_y rfl hs⟩, b1, b2⟩
theorem lc_3230 (hX : 6 * i + 6 ≤ X.1) (h3 : X.1 ≤ 3072) (hJ : JJ M) (K : Nxt X i M) (o6 o7 o8 o9 : Option Value) (l2 : List (Nat × Value)) : Dn X 3230 i o6 o7 o8 o9 l2 M := by
  have hJ' := hJ
  obtain ⟨hL, ji, ⟨ν, ρ, hn, hf, nk, nw, ne, fe, jf⟩, jc, jo⟩ := hJ'
  have jf' := jf
  obtain ⟨hR, hv, hN, hNV, hHc, hHm, hNρ, hsv⟩ := jf'
  rcases hsv with ⟨s1, s2⟩ | ⟨s1, s2, ns, fs, Rs, vs', NVs⟩
  · obtain ⟨M0, r0, f0⟩ := cu_143n (X := X) hL s1
    have r1 : rn X 363 [.ref 0, .ref 497] M (.inl (some (.int 1)), ak_use M0 1 0) := t_363 hL (Or.inr ⟨M0, f0.1, r0, rfl⟩)
    have y1 : fy (cX 65) M (ak_use M0 1 0) := fy_u f0
    have l1 := y1.1.1
    have r2 := mu_165n (X := X) l1 ((y1.1.2 483 8 fun e => by unfold cX at e; omega).trans s2)
    have J2 : JJ (to (ak_use M0 1 0) 1) := hJ.w ((y1.1.mo fun _ _ => cX_5).tr (to_5 l1 1))
    obtain ⟨M', hs, b1, b2⟩ := K _ J2 (fy_to y1 1).1 (fy_to y1 1).2 _ _ o8 o9 _
    exact ⟨M', t_364_3230 hL _ _ _ _ _ _ ⟨_, _, l1, r1, _, _, to_L l1 1, r2, _, _, to_L l1 1, sm_154 (to_L l1 1), mb_y (to_0 _) (mb_n (by decide) hs)⟩, b1, b2⟩
  · obtain ⟨M0, r0, k0⟩ := cu_143 (X := X) hL Rs vs' hHc s1
    obtain ⟨M1, hM1⟩ : ∃ M1, M1 = ak_sL M0 497 0 (ak_I M 488 0).toInt64 := ⟨_, rfl⟩
    have r1 : rn X 363 [.ref 0, .ref 497] M (.inl (some (.int 0)), M1) := t_363 hL (Or.inl ⟨_, M0, k0.L, r0, by rw [hM1]⟩)
    have kw1 : kw M ρ 0 nk nw (ak_I M 488) M1 := by rw [hM1]; exact kw_L k0 _
    obtain ⟨ne', fe', hf', f1, R1, hv', H1, c1, z1⟩ := kw1
    have l1 := f1.1
    have hHm1 : Hm ρ hn M1 := hHm.w hL f1 fun p k e => by unfold cZ cY cS at e; omega
    have e88 : ak_I M1 488 = ak_I M 488 := f1.row fun k e => by unfold cZ cY cS at e; omega
    obtain ⟨M2, r2, f2, q, t2, Hm2⟩ := mu_165 (X := X) l1 hHm1 ((f1.2 483 8 fun e => by unfold cZ cY cS at e; omega).trans s2)
    rw [e88] at r2 q
    have J2 : JJ M2 := JJ_ch hL ji jc jo jf f1 R1 hv' H1 f2 q Hm2 NVs fun j hj => absurd hj (Nat.not_lt_zero _)
    obtain ⟨M', hs, b1, b2⟩ := K M2 J2 (b_C f2 c1) (b_Z f2 z1) _ _ o8 o9 _
    exact ⟨M', t_364_3230 hL _ _ _ _ _ _ ⟨_, M1, l1, r1, _, M2, f2.1, r2, _, M2, f2.1, sm_154 f2.1, mb_y t2 (mb_y rfl (mb_y (by rw [f2.2.2.1, hM1, sL_0]; exact lgc _) hs))⟩, b1, b2⟩
/-! a parse -/
theorem lc_386 (hX : 6 * i + 6 ≤ X.1) (h3 : X.1 ≤ 3072) (hJ : JJ M) (K : Nxt X i M) (o6 o7 o8 o9 : Option Value) (l2 : List (Nat × Value)) : Dn X 386 i o6 o7 o8 o9 l2 M := by
  obtain ⟨hL, ⟨β, n, hI, hIm, hB⟩, ⟨ν, ρ, hn, hf, nk, nw, ne, fe, jf⟩, jc, jo⟩ := hJ
  obtain ⟨hR, hv, hN, hNV, hHc, hHm, hNρ, hsv⟩ := jf
  have c := cp_89 (X := X) hL hI (rz0_q (ro M)) hHc
  cases ea : ps_a β n (rz0 (ro M)) with
  | inl e =>
    rw [ea] at c
    obtain ⟨M1, r1, f1, i1, c9, c10⟩ := c
    have e1 : ro M1 = ro M := f1.row fun k e => by unfold cPa cA at e; omega
    have m1 := hIm.ff f1 fun p k e => by unfold cPa cA at e; omega
    have m := mp_291 (X := X) f1.1 m1 hB
    rw [e1, ea] at m
    obtain ⟨M2, r2, f2, i2, t2, d, q, k7, k8⟩ := m
    have h10 := hv.1.1
    have J2 : JJ M2 := by
      refine ⟨f2.1, ⟨β, 0, i1.ff f2 fun p k e => ?_, i2, BR_0⟩, ⟨ν, ρ, hn, hf, nk, nw, ne, fe, ?_, q_vs (q_sy q) hv, Nn_52.mp (((Nn_52.mpr hN).ff f1 fun p k e => ?_).ff f2 fun p k e => ?_), NV_q hNV h10 q, (hHc.fr f1 fun p k e => ?_).fr f2 fun p k e => ?_, ⟨hHm.1, ?_, fun j hj k hk => ?_⟩, hNρ, ?_⟩, ⟨?_, ?_⟩, (jo.fr f1 fun p k e => ?_).fr f2 fun p k e => ?_⟩
      · unfold mPa at e; omega
      · exact q_Rb (q_sy q) hv.1 ((hR.fr hv.1 f1 fun p k e => by unfold cPa cA at e; omega).fr hv.1 f2 fun p k e => by unfold mPa at e; omega)
      · unfold cPa cA at e; omega
      · unfold mPa at e; omega
      · unfold cPa cA at e; omega
      · unfold mPa at e; omega
      · rw [k7, f1.2.1 483 7 fun e => by unfold cPa cA at e; omega]; exact hHm.2.1
      · rw [f2.row (p := 489) fun k e => by unfold mPa at e; omega, f1.row (p := 489) fun k e => by unfold cPa cA at e; omega]
        exact hHm.2.2 j hj k hk
      · have z0 : ak_I M2 0 8 = ak_I M 0 8 := by rw [f2.2.1 0 8 fun e => by unfold mPa at e; omega, f1.2.1 0 8 fun e => by unfold cPa cA at e; omega]
        have z4 : ak_I M2 483 8 = ak_I M 483 8 := by rw [k8, f1.2.1 483 8 fun e => by unfold cPa cA at e; omega]
        have z8 : ak_I M2 488 = ak_I M 488 := by rw [f2.row fun k e => by unfold mPa at e; omega, f1.row fun k e => by unfold cPa cA at e; omega]
        unfold Jsv
        rw [z0, z4, z8]
        rcases hsv with h | ⟨h1, h2, ns, fs, h3, h4, h5⟩
        · exact Or.inl h
        · exact Or.inr ⟨h1, h2, ns, fs, (h3.fr h4.1 f1 fun p k e => by unfold cPa cA at e; omega).fr h4.1 f2 fun p k e => by unfold mPa at e; omega, h4, h5⟩
      · rw [f2.2.1 0 9 fun e => by unfold mPa at e; omega, c9, d.1]
      · rw [f2.2.1 0 10 fun e => by unfold mPa at e; omega, c10, d.2.1]
      · unfold cPa cA at e; unfold oo; omega
      · unfold mPa at e; unfold oo; omega
    obtain ⟨M', hs, b1, b2⟩ := K M2 J2 (frC f1 f2) (frZ f1 f2) o6 o7 o8 o9 l2
    exact ⟨M', t_364_386 hL _ _ _ _ _ _ ⟨_, M1, f1.1, r1, _, M2, f2.1, r2, mb_y rfl hs⟩, b1, b2⟩
  | inr q =>
    have hVq : vs q.1 q.2.2.1 q.2.2.2.1 0 ∧ NV q.1 q.2.1 q.2.2.1 := by
      obtain ⟨p, e1, e2⟩ := bnd_i ea
      cases e2
      exact PV_f (ps_l_i 701 _ p (PV_0 (rz0_q _)) e1)
    rw [ea] at c
    obtain ⟨M1, r1, f1, i1, c9, c10, R1, N1, H1, c8⟩ := c
    have e1 : ro M1 = ro M := f1.row fun k e => by unfold cPb cPa cA at e; omega
    have m1 := hIm.ff f1 fun p k e => by unfold cPb cPa cA at e; omega
    have m := mp_291 (X := X) f1.1 m1 hB
    rw [e1, ea] at m
    obtain ⟨M2, r2, f2, i2, t2, d1, d2, eq, k7, k8⟩ := m
    have J2 : JJ M2 := by
      refine ⟨f2.1, ⟨β, 0, i1.ff f2 fun p k e => ?_, i2, BR_0⟩, ⟨q.2.1, ρ, 0, hf, q.2.2.1, q.2.2.2.1, 0, 0, ?_, by rw [eq]; exact hVq.1, Nn_52.mp ((Nn_52.mpr N1).ff f2 fun p k e => ?_), by rw [eq]; exact hVq.2, H1.fr f2 fun p k e => ?_, ⟨Nat.zero_le _, k7, fun j hj => absurd hj (Nat.not_lt_zero _)⟩, fun j hj => absurd hj (Nat.not_lt_zero _), Or.inl ⟨?_, k8⟩⟩, ⟨?_, ?_⟩, (jo.fr f1 fun p k e => ?_).fr f2 fun p k e => ?_⟩
      · unfold mPa at e; omega
      · rw [eq]; exact R1.fr hVq.1.1 f2 fun p k e => by unfold mPa at e; omega
      · unfold mPa at e; omega
      · unfold mPa at e; omega
      · rw [f2.2.1 0 8 fun e => by unfold mPa at e; omega]; exact c8
      · rw [f2.2.1 0 9 fun e => by unfold mPa at e; omega, c9, d1]
      · rw [f2.2.1 0 10 fun e => by unfold mPa at e; omega, c10, d2]
      · unfold cPb cPa cA at e; unfold oo; omega
      · unfold mPa at e; unfold oo; omega
    obtain ⟨M', hs, b1, b2⟩ := K M2 J2 (frC f1 f2) (frZ f1 f2) o6 o7 o8 o9 l2
    exact ⟨M', t_364_386 hL _ _ _ _ _ _ ⟨_, M1, f1.1, r1, _, M2, f2.1, r2, mb_y rfl hs⟩, b1, b2⟩
end SLF
