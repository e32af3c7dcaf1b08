/-! the law's cases: text, output, past -/
/-- a byte of an int is one of a byte's values -/
theorem by_r (x : Int32) : in32 (vp_nar .byte x) (-128) 127 = true := by
  rw [vp_nar_byte, in32_t, Int8.toInt_toInt32]
  have a := x.toInt8.le_toInt
  have b := x.toInt8.toInt_lt
  have m1 : (-128 : Int32).toInt = -128 := by decide
  have m2 : (127 : Int32).toInt = 127 := by decide
  rw [m1, m2]
  omega
section SLE
variable {X : ak_X} {M M1 M2 : ak_M} {i : Nat} {β xs : Nat → Int32} {n : Nat}
theorem BR_fdn (h : BR β n) : ∀ k, BR (fdn β n xs k) (n + k)
  | 0 => h
  | k + 1 => fun j hj => by
    show in32 (ext (fdn β n xs k) (n + k) (fby xs k) j) (-128) 127 = true
    unfold ext
    by_cases c : j = n + k
    · rw [if_pos c]; unfold fby; exact by_r _
    · rw [if_neg c]; exact BR_fdn h k j (by omega)
theorem BR_fd2 (h : BR β n) : BR (fd2 β n xs) (fn2 n) := by
  unfold fd2 fn2
  by_cases c : n + 20 ≤ 700
  · rw [if_pos c, if_pos c]; exact BR_fdn h 20
  · rw [if_neg c, if_neg c]; exact h
theorem fn3_le {x : Int32} (hn : n ≤ 700) : fn3 n x ≤ n := by
  unfold fn3
  by_cases c : in32 x 0 (nI n) = true
  · rw [if_pos c]
    obtain ⟨m, hm, rfl⟩ := (in_n (a := n) (by omega)).mp c
    rw [kN_n (by omega)]
    exact hm
  · rw [if_neg c]; exact Nat.le_refl _
theorem BR_le {m : Nat} (h : BR β n) (hm : m ≤ n) : BR β m := fun j hj => h j (by omega)
theorem BR_0 : BR β 0 := fun j hj => absurd hj (Nat.not_lt_zero _)
/-- behind a change of the input alone -/
theorem JJ_in (hJ : JJ M) (f1 : fr cI M M1) (f2 : fr mo_in M1 M2) (ji : Ji M2) : JJ M2 := by
  obtain ⟨hL, -, ⟨ν, ρ, hn, hf, nk, nw, ne, fe, jf⟩, jc, jo⟩ := hJ
  refine ⟨f2.1, ji, ⟨ν, ρ, hn, hf, nk, nw, ne, fe, (jf.fr f1 fun p k e => ?_).fr f2 fun p k e => ?_⟩, (jc.fr f1 fun p k e => ?_).fr f2 fun p k e => ?_, (jo.fr f1 fun p k e => ?_).fr f2 fun p k e => ?_⟩
  · unfold cI at e; unfold of5; omega
  · unfold mo_in at e; unfold of5; omega
  · unfold cI at e; unfold oe; omega
  · unfold mo_in at e; unfold oe; omega
  · unfold cI at e; unfold oo; omega
  · unfold mo_in at e; unfold oo; omega
theorem frC {S T : Nat → Nat → Prop} (f : fr S M M1) (g : fr T M1 M2) : ak_C M2 ≤ ak_C M + 3 := by rw [g.2.2.2.2.1, f.2.2.2.2.1]; omega
theorem frZ {S T : Nat → Nat → Prop} (f : fr S M M1) (g : fr T M1 M2) : ak_Z M2 ≤ ak_Z M + 12 := by rw [g.2.2.2.2.2, f.2.2.2.2.2]; omega
theorem lc_288 (hX : 6 * i + 6 ≤ X.1) (h3 : X.1 ≤ 3072) (hJ : JJ M) (K : Nxt X i M) (o6 o7 o8 o9 : Option Value) (l2 : List (Nat × Value)) : Dn X 288 i o6 o7 o8 o9 l2 M := by
  have hJ' := hJ
  obtain ⟨hL, ⟨β, n, hI, hIm, hB⟩, -, -, -⟩ := hJ'
  obtain ⟨M1, r1, f1, i1⟩ := sk_87 (X := X) hL hI (X.2.1 (6 * i + 1)) (X.2.1 (6 * i + 2)) (X.2.1 (6 * i + 3)) (X.2.1 (6 * i + 4)) (X.2.1 (6 * i + 5))
  have m1 := hIm.ff f1 fun p k e => by unfold cI at e; omega
  obtain ⟨M2, r2, f2, t2, i2⟩ := sm_271 (X := X) f1.1 m1 (X.2.1 (6 * i + 1)) (X.2.1 (6 * i + 2)) (X.2.1 (6 * i + 3)) (X.2.1 (6 * i + 4)) (X.2.1 (6 * i + 5))
  have J2 : JJ M2 := JJ_in hJ f1 f2 ⟨_, _, i1.ff f2 fun p k e => by unfold mo_in at e; omega, i2, BR_fd2 hB⟩
  obtain ⟨M', hs, b1, b2⟩ := K M2 J2 (frC f1 f2) (frZ f1 f2) o6 o7 o8 o9 l2
  exact ⟨M', t_364_288 hL _ _ _ _ _ _ ⟨_, lx h3 1 (by omega), _, lx h3 2 (by omega), _, lx h3 3 (by omega), _, lx h3 4 (by omega), _, lx h3 5 (by omega), _, M1, f1.1, r1, _, lx h3 1 (by omega), _, lx h3 2 (by omega), _, lx h3 3 (by omega), _, lx h3 4 (by omega), _, lx h3 5 (by omega), _, M2, f2.1, r2, mb_y rfl hs⟩, b1, b2⟩
theorem lc_361 (hX : 6 * i + 6 ≤ X.1) (h3 : X.1 ≤ 3072) (hJ : JJ M) (K : Nxt X i M) (o6 o7 o8 o9 : Option Value) (l2 : List (Nat × Value)) : Dn X 361 i o6 o7 o8 o9 l2 M := by
  have hJ' := hJ
  obtain ⟨hL, ⟨β, n, hI, hIm, hB⟩, -, -, -⟩ := hJ'
  obtain ⟨M1, r1, f1, i1⟩ := sk_88 (X := X) hL hI (X.2.1 (6 * i + 1))
  have m1 := hIm.ff f1 fun p k e => by unfold cI at e; omega
  obtain ⟨M2, r2, f2, t2, i2⟩ := sm_272 (X := X) f1.1 m1 (X.2.1 (6 * i + 1))
  have J2 : JJ M2 := JJ_in hJ f1 f2 ⟨_, _, i1.ff f2 fun p k e => by unfold mo_in at e; omega, i2, BR_le hB (fn3_le hI.1)⟩
  obtain ⟨M', hs, b1, b2⟩ := K M2 J2 (frC f1 f2) (frZ f1 f2) o6 o7 o8 o9 l2
  exact ⟨M', t_364_361 hL _ _ _ _ _ _ ⟨_, lx h3 1 (by omega), _, M1, f1.1, r1, _, lx h3 1 (by omega), _, M2, f2.1, r2, mb_y rfl hs⟩, b1, b2⟩
theorem lc_475 (hX : 6 * i + 6 ≤ X.1) (h3 : X.1 ≤ 3072) (hJ : JJ M) (K : Nxt X i M) (o6 o7 o8 o9 : Option Value) (l2 : List (Nat × Value)) : Dn X 475 i o6 o7 o8 o9 l2 M := by
  have hJ' := hJ
  obtain ⟨hL, ⟨β, n, hI, hIm, hB⟩, ⟨ν, ρ, hn, hf, nk, nw, ne, fe, jf⟩, -, -⟩ := hJ'
  obtain ⟨hR, hv, hN, hNV, hHc, hHm, hNρ, hsv⟩ := jf
  obtain ⟨M1, r1, f1, i1⟩ := cp_94 (X := X) hL hI hN
  have m1 := hIm.ff f1 fun p k e => by unfold cI at e; omega
  have e1 : ro M1 = ro M := f1.row fun k e => by unfold cI at e; omega
  obtain ⟨M2, r2, f2, i2, t2⟩ := mp_279 (X := X) (nk := nk) (ν := ν) f1.1 m1 (by rw [e1]; exact hv.1.2.2.2.1) hv.1.1 (by rw [e1]; exact hNV)
  have J2 : JJ M2 := JJ_in hJ f1 f2 ⟨_, _, i1.ff f2 fun p k e => by unfold mo_in at e; omega, i2, BR_0⟩
  obtain ⟨M', hs, b1, b2⟩ := K M2 J2 (frC f1 f2) (frZ f1 f2) o6 o7 o8 o9 l2
  exact ⟨M', t_364_475 hL _ _ _ _ _ _ ⟨_, M1, f1.1, r1, _, M2, f2.1, r2, mb_y rfl hs⟩, b1, b2⟩
/-! the last error -/
theorem to_5 (hL : ab_lay M) (c : Int32) : wf2 sc5 M (to M c) := ⟨to_L hL c, fun p k h => mb_sIn fun e => h (by unfold sc5; omega)⟩
theorem lc_399 (hX : 6 * i + 6 ≤ X.1) (h3 : X.1 ≤ 3072) (hJ : JJ M) (K : Nxt X i M) (o6 o7 o8 o9 : Option Value) (l2 : List (Nat × Value)) : Dn X 399 i o6 o7 o8 o9 l2 M := by
  have hL := hJ.1
  have jc := hJ.2.2.2.1
  have J2 : JJ (to M 0) := hJ.w (to_5 hL 0)
  obtain ⟨M', hs, b1, b2⟩ := K _ J2 (by show ak_C M ≤ _; omega) (by show ak_Z M ≤ _; omega) o6 o7 o8 o9 l2
  have r2 : rn X 292 [.ref 483] M (.inl (some (.int (ak_I M 483 24))), to M 0) := t_292 hL fun N e => by
    rw [e, mb_sIk (by decide)]
    rfl
  exact ⟨M', t_364_399 hL _ _ _ _ _ _ ⟨_, M, hL, (sk_90 hL).1, _, _, to_L hL 0, r2, mb_y jc.1 hs⟩, b1, b2⟩
theorem lc_412 (hX : 6 * i + 6 ≤ X.1) (h3 : X.1 ≤ 3072) (hJ : JJ M) (K : Nxt X i M) (o6 o7 o8 o9 : Option Value) (l2 : List (Nat × Value)) : Dn X 412 i o6 o7 o8 o9 l2 M := by
  have hL := hJ.1
  have jc := hJ.2.2.2.1
  have J2 : JJ (to M 0) := hJ.w (to_5 hL 0)
  obtain ⟨M', hs, b1, b2⟩ := K _ J2 (by show ak_C M ≤ _; omega) (by show ak_Z M ≤ _; omega) o6 o7 o8 o9 l2
  have r2 : rn X 293 [.ref 483] M (.inl (some (.int (ak_I M 483 25))), to M 0) := t_293 hL fun N e => by
    rw [e, mb_sIk (by decide)]
    rfl
  exact ⟨M', t_364_412 hL _ _ _ _ _ _ ⟨_, M, hL, (sk_90 hL).2, _, _, to_L hL 0, r2, mb_y jc.2 hs⟩, b1, b2⟩
/-! the output -/
/-- behind a change of the output alone -/
theorem JJ_ou {S : Nat → Nat → Prop} (hJ : JJ M) (f1 : fr cOX M M1) (f2 : fr S M1 M2) (hS : ∀ p k, S p k → mo_px p k) (jo : Jo M2) : JJ M2 := by
  obtain ⟨hL, ji, ⟨ν, ρ, hn, hf, nk, nw, ne, fe, jf⟩, jc, -⟩ := hJ
  refine ⟨f2.1, (ji.fr f1 fun p k e => ?_).fr f2 fun p k e => ?_, ⟨ν, ρ, hn, hf, nk, nw, ne, fe, (jf.fr f1 fun p k e => ?_).fr f2 fun p k e => ?_⟩, (jc.fr f1 fun p k e => ?_).fr f2 fun p k e => ?_, jo⟩
  · unfold cOX cO cX at e; unfold oi; omega
  · have e := hS p k e; unfold mo_px mo_pp mo_ou mo_pq at e; unfold oi; omega
  · unfold cOX cO cX at e; unfold of5; omega
  · have e := hS p k e; unfold mo_px mo_pp mo_ou mo_pq at e; unfold of5; omega
  · unfold cOX cO cX at e; unfold oe; omega
  · have e := hS p k e; unfold mo_px mo_pp mo_ou mo_pq at e; unfold oe; omega
theorem lc_3192 (hX : 6 * i + 6 ≤ X.1) (h3 : X.1 ≤ 3072) (hJ : JJ M) (K : Nxt X i M) (o6 o7 o8 o9 : Option Value) (l2 : List (Nat × Value)) : Dn X 3192 i o6 o7 o8 o9 l2 M := by
  have hL := hJ.1
  obtain ⟨l, ho, hm⟩ := hJ.2.2.2.2
  have r1 := sk_141 (X := X) hL ho (X.2.1 (6 * i + 1))
  have r2 := sm_312 (X := X) hL hm (X.2.1 (6 * i + 1))
  have J2 : JJ (to M 0) := hJ.w (to_5 hL 0)
  obtain ⟨M', hs, b1, b2⟩ := K _ J2 (by show ak_C M ≤ _; omega) (by show ak_Z M ≤ _; omega) o6 o7 o8 o9 l2
  exact ⟨M', t_364_3192 hL _ _ _ _ _ _ ⟨_, lx h3 1 (by omega), _, M, hL, r1, _, lx h3 1 (by omega), _, _, to_L hL 0, r2, mb_y rfl hs⟩, b1, b2⟩
theorem lc_3166 (hX : 6 * i + 6 ≤ X.1) (h3 : X.1 ≤ 3072) (hJ : JJ M) (K : Nxt X i M) (o6 o7 o8 o9 : Option Value) (l2 : List (Nat × Value)) : Dn X 3166 i o6 o7 o8 o9 l2 M := by
  have hJ' := hJ
  obtain ⟨hL, -, ⟨ν, ρ, hn, hf, nk, nw, ne, fe, jf⟩, -, -⟩ := hJ'
  obtain ⟨hR, hv, hN, hNV, hHc, hHm, hNρ, hsv⟩ := jf
  obtain ⟨M1, r1, f1, o1⟩ := cp_139 (X := X) hL hR hv hN
  have e1 : ro M1 = ro M := f1.row fun k e => by unfold cOX cO cX at e; omega
  obtain ⟨M2, r2, f2, o2⟩ := mp_310 (X := X) (ν := ν) (nk := nk) (nw := nw) (ne := ne) f1.1 (by rw [e1]; exact hv) (by rw [e1]; exact fun k hk => ⟨(hNV k hk).1, (hNV k hk).2.1⟩)
  rw [e1] at r2 o2
  have J2 : JJ M2 := JJ_ou hJ f1 f2.1 (fun _ _ h => h) ⟨_, o1.ff f2.1 fun p k e => by unfold mo_px mo_pp mo_ou mo_pq at e; omega, o2⟩
  obtain ⟨M', hs, b1, b2⟩ := K M2 J2 (frC f1 f2.1) (frZ f1 f2.1) o6 o7 o8 o9 l2
  exact ⟨M', t_364_3166 hL _ _ _ _ _ _ ⟨_, M1, f1.1, r1, _, M2, f2.1.1, r2, mb_y rfl hs⟩, b1, b2⟩
theorem lc_3179 (hX : 6 * i + 6 ≤ X.1) (h3 : X.1 ≤ 3072) (hJ : JJ M) (K : Nxt X i M) (o6 o7 o8 o9 : Option Value) (l2 : List (Nat × Value)) : Dn X 3179 i o6 o7 o8 o9 l2 M := by
  have hJ' := hJ
  obtain ⟨hL, -, ⟨ν, ρ, hn, hf, nk, nw, ne, fe, jf⟩, -, -⟩ := hJ'
  obtain ⟨hR, hv, hN, hNV, hHc, hHm, hNρ, hsv⟩ := jf
  obtain ⟨M1, r1, f1, o1⟩ := cp_140 (X := X) hL hR hv
  have e1 : ro M1 = ro M := f1.row fun k e => by unfold cO at e; omega
  obtain ⟨M2, r2, f2, o2⟩ := mp_311 (X := X) (nk := nk) (nw := nw) (ne := ne) f1.1 (by rw [e1]; exact hv)
  rw [e1] at r2 o2
  have J2 : JJ M2 := JJ_ou hJ (f1.mo fun _ _ h => Or.inl h) f2.1 (fun _ _ h => h) ⟨_, o1.ff f2.1 fun p k e => by unfold mo_px mo_pp mo_ou mo_pq at e; omega, o2⟩
  obtain ⟨M', hs, b1, b2⟩ := K M2 J2 (frC f1 f2.1) (frZ f1 f2.1) o6 o7 o8 o9 l2
  exact ⟨M', t_364_3179 hL _ _ _ _ _ _ ⟨_, M1, f1.1, r1, _, M2, f2.1.1, r2, mb_y rfl hs⟩, b1, b2⟩
end SLE
