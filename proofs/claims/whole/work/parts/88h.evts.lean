/-! events printed, both sides -/
def pea (σ : Nat → Int32) (j : Nat) (l : List Int32) : List Int32 := pk2 (pk1 (pk2 (gap l) (ef σ j 0)) (kdl (ef σ j 1))) (ef σ j 2)
def pe1 (σ : Nat → Int32) (j : Nat) (l : List Int32) : List Int32 := if ef σ j 3 = -1 then pea σ j l else pk2 (pk1 (pea σ j l) 47) (ef σ j 3)
def pes (σ : Nat → Int32) : Nat → List Int32
  | 0 => []
  | j + 1 => pe1 σ j (pes σ j)
theorem pea_l (σ : Nat → Int32) (j : Nat) (l : List Int32) : (pea σ j l).length ≤ l.length + 10 := by
  unfold pea
  have a := gap_l (l := l)
  have b := pk2_l (gap l) (ef σ j 0)
  have c := pk1_l (pk2 (gap l) (ef σ j 0)) (kdl (ef σ j 1))
  have d := pk2_l (pk1 (pk2 (gap l) (ef σ j 0)) (kdl (ef σ j 1))) (ef σ j 2)
  omega
theorem pe1_l (σ : Nat → Int32) (j : Nat) (l : List Int32) : (pe1 σ j l).length ≤ l.length + 15 := by
  have a := pea_l σ j l
  unfold pe1
  split
  · omega
  · have b := pk1_l (pea σ j l) 47
    have c := pk2_l (pk1 (pea σ j l) 47) (ef σ j 3)
    omega
theorem pes_l (σ : Nat → Int32) : ∀ j, (pes σ j).length ≤ 15 * j
  | 0 => Nat.le_refl _
  | j + 1 => by
    have a := pes_l σ j
    have b := pe1_l σ j (pes σ j)
    show (pe1 σ j (pes σ j)).length ≤ _
    omega
theorem pk2_nn (l : List Int32) (v : Int32) (h : l ≠ []) : pk2 l v ≠ [] := fun e => h (List.append_eq_nil_iff.mp e).1
theorem pk1_nn (l : List Int32) (v : Int32) : pk1 l v ≠ [] := fun e => absurd (List.append_eq_nil_iff.mp e).2 (List.cons_ne_nil _ _)
theorem pes_nn (σ : Nat → Int32) (j : Nat) : pes σ (j + 1) ≠ [] := by
  show pe1 σ j (pes σ j) ≠ []
  have a : pea σ j (pes σ j) ≠ [] := pk2_nn _ _ (pk1_nn _ _)
  unfold pe1
  split
  · exact a
  · exact pk2_nn _ _ (pk1_nn _ _)
theorem kdl_t : ∀ m, m < 5 → tb 27 m = kdl (nI m) ∧ m < tl 27 := by decide +kernel
section SPE
variable {X : ak_X} {M M1 M2 : ak_M} {l : List Int32} {j nk nw ne fe : Nat} {σ : Nat → Int32}
theorem oc_m (f : fr cO M M1) (h : Oc1 l M1) (hl : l.length < 600) {v : Int32} (hv : ∃ m, m ≤ 9999 ∧ v = nI m) : ∃ M2, ab_lay M2 ∧ rn X 59 [.ref 3, .int v] M1 (.inl none, M2) ∧ fr cO M M2 ∧ Oc1 (pk2 l v) M2 := by
  obtain ⟨m, hm, rfl⟩ := hv
  obtain ⟨M2, r, g, o⟩ := sk_59 (X := X) f.1 h (by omega) (n := m) hm
  refine ⟨M2, g.1, r, f.tr g, ?_⟩
  unfold pk2
  rw [kN_n (by omega)]
  exact o
theorem oq_m (f : mq σ M M1) (h : Om1 l M1) (hl : l.length < 600) {v : Int32} (hv : ∃ m, m ≤ 9999 ∧ v = nI m) : ∃ M2, rn X 299 [.ref 483, .int v] M1 (.inl none, M2) ∧ mq σ M M2 ∧ Om1 (pk2 l v) M2 := by
  obtain ⟨m, hm, rfl⟩ := hv
  obtain ⟨M2, r, g, o⟩ := sm_299 (X := X) M1 l m f.1.1 h (by omega) hm
  refine ⟨M2, r, f.ou g, ?_⟩
  unfold pk2
  rw [kN_n (by omega)]
  exact o
theorem oq_b (f : mq σ M M1) (h : Om1 l M1) (hl : l.length < 600) (a : Int32) : ∃ M2, rn X 294 [.ref 483, .int a] M1 (.inl none, M2) ∧ mq σ M M2 ∧ Om1 (pk1 l a) M2 := by
  obtain ⟨M2, r, g, o⟩ := sm_294 (X := X) f.1.1 h (by omega) a
  exact ⟨M2, r, f.ou g, o⟩
/-- the numbers of an event -/
theorem ev_n (h : ev σ j) : (∃ m, m ≤ 9999 ∧ ef σ j 0 = nI m) ∧ (∃ m, m < 5 ∧ ef σ j 1 = nI m) ∧ (∃ m, m ≤ 9999 ∧ ef σ j 2 = nI m) ∧ (ef σ j 3 ≠ -1 → ∃ m, m ≤ 9999 ∧ ef σ j 3 = nI m) := by
  obtain ⟨h0, h1, h2, h3⟩ := h
  obtain ⟨a, ha, ea⟩ := (in_n (a := 5000) (by decide)).mp h0
  obtain ⟨b, hb, eb⟩ := (in_n (a := 4) (by decide)).mp h1
  obtain ⟨c, hc, ec⟩ := (in_n (a := 9) (by decide)).mp h2
  refine ⟨⟨a, by omega, ea⟩, ⟨b, by omega, eb⟩, ⟨c, by omega, ec⟩, fun hn => ?_⟩
  have i := in32_t.mp h3
  have e1 : (-1 : Int32).toInt = -1 := by decide
  have e9 : (9 : Int32).toInt = 9 := by decide
  rw [e1, e9] at i
  have hn' : (ef σ j 3).toInt ≠ -1 := fun e => hn (Int32.toInt_inj.mp (e.trans e1.symm))
  refine ⟨(ef σ j 3).toInt.toNat, by omega, mi_of ?_⟩
  omega
theorem cp_140 (hL : ab_lay M) (hR : Rb 65 σ nk nw ne fe M) (hv : vs σ nk nw ne) : ∃ M', rn X 140 [.ref 0] M (.inl (some (.int (nI (hyp (pes σ ne)).length))), M') ∧ fr cO M M' ∧ Oc1 (hyp (pes σ ne)) M' := by
  have hc := hv.1
  have h12 := hc.2.2.1
  have hf := hR.1
  have rd : ∀ {N : ak_M} {p : Nat}, fr cO M N → p ≠ 3 → p ≠ 4 → ak_I N p = ak_I M p := fun f h3 h4 => f.row fun q e => by unfold cO at e; omega
  have H : ∀ i, i ≤ ne → ∀ M1 o2, fr cO M M1 → Oc1 (pes σ i) M1 → ∃ M', sg X 140 (10, [some (.ref 0), some (.int (nI i)), o2], [], []) M1 (.inl (some (.int (nI (hyp (pes σ ne)).length))), M') ∧ fr cO M M' ∧ Oc1 (hyp (pes σ ne)) M' := by
    refine mb_up ?_ ?_
    · intro M1 o2 f1 o1
      obtain ⟨M2, r2, f2, q2⟩ := sk_56 (X := X) f1.1 o1
      refine ⟨M2, t_140_10 f1.1 _ _ (mb_y (by rw [rd f1 (by decide) (by decide), hR.2.1.2.2.1, hc.2.2.2.2.2]; exact Int32.le_refl _) ⟨M2, f2.1, r2, by rw [q2.2.1]⟩), f1.tr f2, q2⟩
    · intro i hi ih M1 o2 f1 o1
      obtain ⟨n0, ⟨m1, hm1, n1⟩, n2, n3⟩ := ev_n (hv.2.2.2.2.2 i hi)
      have hl := pes_l σ i
      have hJ : (fe + i) % 12 < 12 := Nat.mod_lt _ (by decide)
      have re : ∀ {N : ak_M}, fr cO M N → ∀ w, w < 6 → ak_I N (65 + 20 + (fe + i) % 12) w = ef σ i w := fun f w hw => by
        rw [rd f (by omega) (by omega)]
        exact hR.2.2.2.2.2 i hi w hw
      have s17 := sk_17 (X := X) f1.1 h65 (f := fe) (j := i) (by rw [rd f1 (by decide) (by decide)]; exact hR.2.1.2.2.2.1) (by omega)
      obtain ⟨M3, r3, f3, o3⟩ := sk_55 (X := X) f1.1 o1 (by omega)
      have g3 := f1.tr f3
      have L3 := gap_l (l := pes σ i)
      obtain ⟨M4, l4, r4, f4, o4⟩ := oc_m (X := X) g3 o3 (by omega) n0
      have L4 := pk2_l (gap (pes σ i)) (ef σ i 0)
      obtain ⟨M5, l5, r5, f5, o5⟩ := oc_b (X := X) f4 o4 (by omega) (kdl (ef σ i 1))
      have L5 := pk1_l (pk2 (gap (pes σ i)) (ef σ i 0)) (kdl (ef σ i 1))
      obtain ⟨M6, l6, r6, f6, o6⟩ := oc_m (X := X) f5 o5 (by omega) n2
      have L6 := pea_l σ i (pes σ i)
      by_cases c : ef σ i 3 = -1
      · obtain ⟨M', hs, m'⟩ := ih M6 (some (.ref (65 + 20 + (fe + i) % 12))) f6 (by show Oc1 (pe1 σ i (pes σ i)) M6; unfold pe1; rw [if_pos c]; exact o6)
        rw [← mi_s] at hs
        exact ⟨M', t_140_10 f1.1 _ _ (mb_n (by rw [rd f1 (by decide) (by decide), hR.2.1.2.2.1, hc.2.2.2.2.2, mi_le (by omega) (by omega)]; omega) ⟨(fe + i) % 12, M1, hJ, f1.1, s17, M3, f3.1, r3, M4, l4, by rw [re g3 0 (by decide)]; exact r4, _, M4, l4, by rw [re f4 1 (by decide)]; exact sk_150 l4 _, M5, l5, r5, M6, l6, by rw [re f5 2 (by decide)]; exact r6, mb_y (by rw [re f6 3 (by decide)]; exact c) hs⟩), m'⟩
      · obtain ⟨M7, l7, r7, f7, o7⟩ := oc_b (X := X) f6 o6 (by unfold pea at L6; omega) 47
        have L7 := pk1_l (pea σ i (pes σ i)) 47
        obtain ⟨M8, l8, r8, f8, o8⟩ := oc_m (X := X) f7 o7 (by unfold pea at L6 L7; omega) (n3 c)
        obtain ⟨M', hs, m'⟩ := ih M8 (some (.ref (65 + 20 + (fe + i) % 12))) f8 (by show Oc1 (pe1 σ i (pes σ i)) M8; unfold pe1; rw [if_neg c]; exact o8)
        rw [← mi_s] at hs
        exact ⟨M', t_140_10 f1.1 _ _ (mb_n (by rw [rd f1 (by decide) (by decide), hR.2.1.2.2.1, hc.2.2.2.2.2, mi_le (by omega) (by omega)]; omega) ⟨(fe + i) % 12, M1, hJ, f1.1, s17, M3, f3.1, r3, M4, l4, by rw [re g3 0 (by decide)]; exact r4, _, M4, l4, by rw [re f4 1 (by decide)]; exact sk_150 l4 _, M5, l5, r5, M6, l6, by rw [re f5 2 (by decide)]; exact r6, mb_n (by rw [re f6 3 (by decide)]; exact c) ⟨M7, l7, r7, M8, l8, by rw [re f7 3 (by decide)]; exact r8, hs⟩⟩), m'⟩
  obtain ⟨f3, o3⟩ := Oc1_0 hL
  obtain ⟨M', hs, f, o⟩ := H 0 (Nat.zero_le _) (ak_sI M 3 1 0) none f3 o3
  exact ⟨M', t_140 hL fun N e => by rw [e]; exact hs, f, o⟩
theorem mb_ef0 (hj : j < 12) : ab_ix (173 + 6 * nI j) (173 + 6 * j + 0) 245 := by
  refine mb_ixe ?_ (by omega) (by omega)
  rw [show (173 : Int32) = nI 173 from rfl, show (6 : Int32) = nI 6 from rfl, mi_mul, mi_add]
  rfl
theorem mb_efw (hj : j < 12) {w : Nat} (hw : w < 6) : ab_ix ((173 + 6 * nI j) + nI w) (173 + 6 * j + w) 245 := by
  refine mb_ixe ?_ (by omega) (by omega)
  rw [show (173 : Int32) = nI 173 from rfl, show (6 : Int32) = nI 6 from rfl, mi_mul, mi_add, mi_add]
theorem sm_evt (hv : vs σ nk nw ne) (hj : j < ne) (g : mq σ M M1) (o1 : Om1 l M1) (hl : l.length < 300) :
    ∃ M', mq σ M M' ∧ Om1 (if ef σ j 3 = -1 then pk2 (pk1 (pk2 l (ef σ j 0)) (kdl (ef σ j 1))) (ef σ j 2) else pk2 (pk1 (pk2 (pk1 (pk2 l (ef σ j 0)) (kdl (ef σ j 1))) (ef σ j 2)) 47) (ef σ j 3)) M' ∧ ∀ (T : ak_M → ak_O × ak_M → Prop) (r : ak_O × ak_M), T M' r → (∃ i7 : Nat, ab_ix (173 + (6 * nI j)) i7 245 ∧ (∃ (M8 : ak_M), ab_lay M8 ∧ rn X 299 [.ref 483, .int (ak_I M1 484 i7)] M1 (.inl (none), M8) ∧ (∃ i9 : Nat, ab_ix ((173 + (6 * nI j)) + 1) i9 245 ∧ (∃ (v11 : Int32) (M10 : ak_M), ab_lay M10 ∧ rn X 318 [.ref (1001000 + 27), .int (ak_I M8 484 i9)] M8 (.inl (some (.int v11)), M10) ∧ (∃ (M12 : ak_M), ab_lay M12 ∧ rn X 294 [.ref 483, .int v11] M10 (.inl (none), M12) ∧ (∃ i13 : Nat, ab_ix ((173 + (6 * nI j)) + 2) i13 245 ∧ (∃ (M14 : ak_M), ab_lay M14 ∧ rn X 299 [.ref 483, .int (ak_I M12 484 i13)] M12 (.inl (none), M14) ∧ (∃ i15 : Nat, ab_ix ((173 + (6 * nI j)) + 3) i15 245 ∧ (if ak_I M14 484 i15 = (-1) then T M14 r else (∃ (M16 : ak_M), ab_lay M16 ∧ rn X 294 [.ref 483, .int 47] M14 (.inl (none), M16) ∧ (∃ i17 : Nat, ab_ix ((173 + (6 * nI j)) + 3) i17 245 ∧ (∃ (M18 : ak_M), ab_lay M18 ∧ rn X 299 [.ref 483, .int (ak_I M16 484 i17)] M16 (.inl (none), M18) ∧ T M18 r)))))))))))) := by
  have h12 := hv.1.2.2.1
  have hj12 : j < 12 := by omega
  obtain ⟨n0, ⟨m1, hm1, n1⟩, n2, n3⟩ := ev_n (hv.2.2.2.2.2 j hj)
  obtain ⟨k1, k2⟩ := kdl_t m1 hm1
  have re : ∀ {N : ak_M}, mq σ M N → ∀ w, ak_I N 484 (173 + 6 * j + w) = ef σ j w := fun f w => congrFun f.2.1 _
  obtain ⟨M4, r4, f4, o4⟩ := oq_m (X := X) g o1 (by omega) n0
  have L4 := pk2_l l (ef σ j 0)
  have s := j_318 (X := X) (s := 27) (i := m1) f4.1.1 (by decide) k2
  rw [k1, ← n1] at s
  have s' : rn X 318 [.ref (1001000 + 27), .int (ef σ j 1)] M4 (.inl (some (.int (kdl (ef σ j 1)))), M4) := s
  obtain ⟨M5, r5, f5, o5⟩ := oq_b (X := X) f4 o4 (by omega) (kdl (ef σ j 1))
  have L5 := pk1_l (pk2 l (ef σ j 0)) (kdl (ef σ j 1))
  obtain ⟨M6, r6, f6, o6⟩ := oq_m (X := X) f5 o5 (by omega) n2
  have L6 := pk2_l (pk1 (pk2 l (ef σ j 0)) (kdl (ef σ j 1))) (ef σ j 2)
  by_cases c : ef σ j 3 = -1
  · rw [if_pos c]
    exact ⟨M6, f6, o6, fun T r t => ⟨_, mb_ef0 hj12, M4, f4.1.1, by rw [re g 0]; exact r4, _, mb_efw (w := 1) hj12 (by decide), _, M4, f4.1.1, by rw [re f4 1]; exact s', M5, f5.1.1, r5, _, mb_efw (w := 2) hj12 (by decide), M6, f6.1.1, by rw [re f5 2]; exact r6, _, mb_efw (w := 3) hj12 (by decide), mb_y (by rw [re f6 3]; exact c) t⟩⟩
  · rw [if_neg c]
    obtain ⟨M7, r7, f7, o7⟩ := oq_b (X := X) f6 o6 (by omega) 47
    have L7 := pk1_l (pk2 (pk1 (pk2 l (ef σ j 0)) (kdl (ef σ j 1))) (ef σ j 2)) 47
    obtain ⟨M8, r8, f8, o8⟩ := oq_m (X := X) f7 o7 (by omega) (n3 c)
    exact ⟨M8, f8, o8, fun T r t => ⟨_, mb_ef0 hj12, M4, f4.1.1, by rw [re g 0]; exact r4, _, mb_efw (w := 1) hj12 (by decide), _, M4, f4.1.1, by rw [re f4 1]; exact s', M5, f5.1.1, r5, _, mb_efw (w := 2) hj12 (by decide), M6, f6.1.1, by rw [re f5 2]; exact r6, _, mb_efw (w := 3) hj12 (by decide), mb_n (by rw [re f6 3]; exact c) ⟨M7, f7.1.1, r7, _, mb_efw (w := 3) hj12 (by decide), M8, f8.1.1, by rw [re f7 3]; exact r8, t⟩⟩⟩
theorem mp_311 (hL : ab_lay M) (hv : vs (ro M) nk nw ne) : ∃ M', rn X 311 [.ref 483] M (.inl (some (.int (nI (hyp (pes (ro M) ne)).length))), M') ∧ mq (ro M) M M' ∧ Om1 (hyp (pes (ro M) ne)) M' := by
  have hc := hv.1
  have h12 := hc.2.2.1
  have q0 := mq0 hL
  generalize ro M = σ at hv hc q0 ⊢
  have H : ∀ i, i ≤ ne → ∀ M1 o2, mq σ M M1 → Om1 (pes σ i) M1 → ∃ M', sg X 311 (12, [some (.ref 483), some (.int (nI i)), o2], [], []) M1 (.inl (some (.int (nI (hyp (pes σ ne)).length))), M') ∧ mq σ M M' ∧ Om1 (hyp (pes σ ne)) M' := by
    have e9 : ∀ {M1}, mq σ M M1 → ak_I M1 484 9 = nI ne := fun f => (congrFun f.2.1 9).trans hc.2.2.2.2.2
    refine mb_up ?_ ?_
    · intro M1 o2 f1 o1
      obtain ⟨M2, f2, q2, T⟩ := mo_hyp (X := X) f1 o1
      exact ⟨M2, t_311_12 f1.1.1 _ _ ⟨9, ⟨rfl, rfl⟩, mb_y (by rw [e9 f1]; exact Int32.le_refl _) T⟩, f2, q2⟩
    · intro i hi ih M1 o2 f1 o1
      have hl := pes_l σ i
      have hgo : ∀ {M2 : ak_M}, mq σ M M2 → Om1 (gap (pes σ i)) M2 → ∃ M', (∀ r, r = ((.inl (some (.int (nI (hyp (pes σ ne)).length))), M') : ak_O × ak_M) → ∃ M3, mq σ M M3 ∧ (∃ i7 : Nat, ab_ix (173 + (6 * nI i)) i7 245 ∧ (∃ (M8 : ak_M), ab_lay M8 ∧ rn X 299 [.ref 483, .int (ak_I M2 484 i7)] M2 (.inl (none), M8) ∧ (∃ i9 : Nat, ab_ix ((173 + (6 * nI i)) + 1) i9 245 ∧ (∃ (v11 : Int32) (M10 : ak_M), ab_lay M10 ∧ rn X 318 [.ref (1001000 + 27), .int (ak_I M8 484 i9)] M8 (.inl (some (.int v11)), M10) ∧ (∃ (M12 : ak_M), ab_lay M12 ∧ rn X 294 [.ref 483, .int v11] M10 (.inl (none), M12) ∧ (∃ i13 : Nat, ab_ix ((173 + (6 * nI i)) + 2) i13 245 ∧ (∃ (M14 : ak_M), ab_lay M14 ∧ rn X 299 [.ref 483, .int (ak_I M12 484 i13)] M12 (.inl (none), M14) ∧ (∃ i15 : Nat, ab_ix ((173 + (6 * nI i)) + 3) i15 245 ∧ (if ak_I M14 484 i15 = (-1) then sg X 311 (12, [some (.ref 483), some (.int (nI i + 1)), some (.int (173 + (6 * nI i)))], [], []) M14 r else (∃ (M16 : ak_M), ab_lay M16 ∧ rn X 294 [.ref 483, .int 47] M14 (.inl (none), M16) ∧ (∃ i17 : Nat, ab_ix ((173 + (6 * nI i)) + 3) i17 245 ∧ (∃ (M18 : ak_M), ab_lay M18 ∧ rn X 299 [.ref 483, .int (ak_I M16 484 i17)] M16 (.inl (none), M18) ∧ sg X 311 (12, [some (.ref 483), some (.int (nI i + 1)), some (.int (173 + (6 * nI i)))], [], []) M18 r))))))))))))) ∧ mq σ M M' ∧ Om1 (hyp (pes σ ne)) M' := by
        intro M2 f2 o2
        have hg := gap_l (l := pes σ i)
        obtain ⟨M3, f3, o3, T⟩ := sm_evt (X := X) (M := M) hv hi f2 o2 (by omega)
        obtain ⟨M', hs, m'⟩ := ih M3 (some (.int (173 + (6 * nI i)))) f3 o3
        rw [← mi_s] at hs
        exact ⟨M', fun r e => ⟨M3, f3, T (fun Mx r => sg X 311 (12, [some (.ref 483), some (.int (nI i + 1)), some (.int (173 + (6 * nI i)))], [], []) Mx r) r (by rw [e]; exact hs)⟩, m'⟩
      have hlt : ¬ ak_I M1 484 9 ≤ nI i := by rw [e9 f1, mi_le (by omega) (by omega)]; omega
      by_cases c : i = 0
      · subst c
        obtain ⟨M', T, m'⟩ := hgo f1 o1
        obtain ⟨-, -, T⟩ := T _ rfl
        exact ⟨M', t_311_12 f1.1.1 _ _ ⟨9, ⟨rfl, rfl⟩, mb_n hlt (mb_y (Int32.le_refl _) T)⟩, m'⟩
      · have hne : pes σ i ≠ [] := by
          obtain ⟨i', rfl⟩ : ∃ i', i = i' + 1 := ⟨i - 1, by omega⟩
          exact pes_nn σ i'
        obtain ⟨M2, r2, f2, o2⟩ := oq_b (X := X) f1 o1 (by omega) 32
        have eg : gap (pes σ i) = pk1 (pes σ i) 32 := if_neg hne
        obtain ⟨M', T, m'⟩ := hgo f2 (by rw [eg]; exact o2)
        obtain ⟨-, -, T⟩ := T _ rfl
        exact ⟨M', t_311_12 f1.1.1 _ _ ⟨9, ⟨rfl, rfl⟩, mb_n hlt (mb_n (fun e => absurd ((mi_le (a := i) (b := 0) (by omega) (by decide)).mp e) (by omega)) ⟨M2, f2.1.1, r2, T⟩)⟩, m'⟩
  obtain ⟨M', hs, f, o⟩ := H 0 (Nat.zero_le _) _ none q0.1 q0.2
  refine ⟨M', t_311 hL fun N e N2 e2 => ?_, f, o⟩
  subst e
  subst e2
  exact hs
end SPE
