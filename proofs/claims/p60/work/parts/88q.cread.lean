/-! the class reads a text -/
/-- what comes of a reading -/
def od {α : Type} (M : ak_M) (o : (Nat × Nat) ⊕ α) (R : α → ak_M → Prop) (r : ak_O × ak_M) : Prop := match o with
  | .inl e => ∃ M', r = (.inl (some (.int 0)), M') ∧ fr cA M M' ∧ ak_I M' 5 5 = nI e.1 ∧ ak_I M' 5 6 = nI e.2
  | .inr q => ∃ M', r = (.inl (some (.int 1)), M') ∧ fr cA M M' ∧ R q M'
section SCR
variable {X : ak_X} {M M1 : ak_M} {β : Nat → Int32} {n s nk nw : Nat} {ν : Nat → Nat} {σ : Nat → Int32} {τ : Int32}
theorem od_c {α : Type} {k : Nat} {as : List Value} {o : (Nat × Nat) ⊕ α} {R : α → ak_M → Prop} {r : ak_O × ak_M} (f : fr cA M M1) (h : od M1 o R r) (g : rn X k as M r) : cst X k as M o R := by
  cases o with
  | inl e =>
    obtain ⟨M', rfl, f', d⟩ := h
    exact ⟨M', g, f.tr f', d⟩
  | inr q =>
    obtain ⟨M', rfl, f', d⟩ := h
    exact ⟨M', g, f.tr f', d⟩
theorem c_od {α : Type} {k : Nat} {as : List Value} {o : (Nat × Nat) ⊕ α} {R : α → ak_M → Prop} (h : cst X k as M o R) : ∃ (v : Int32) (M' : ak_M), ab_lay M' ∧ rn X k as M (.inl (some (.int v)), M') ∧ (v = 0 ∨ v = 1) ∧ od M o R (.inl (some (.int v)), M') := by
  cases o with
  | inl e =>
    obtain ⟨M', r, f, d⟩ := h
    exact ⟨0, M', f.1, r, Or.inl rfl, M', rfl, f, d⟩
  | inr q =>
    obtain ⟨M', r, f, d⟩ := h
    exact ⟨1, M', f.1, r, Or.inr rfl, M', rfl, f, d⟩
/-- all that a wind's statement writes -/
def cW (nw p k : Nat) : Prop := p = 51 ∨ (p = 5 ∧ k = 4) ∨ p = 6 + 16 + nw ∨ (p = 6 ∧ k = 6)
theorem cW_A (h4 : nw < 4) {p k : Nat} (h : cW nw p k) : cA p k := by unfold cW at h; unfold cA; omega
theorem cN_W {p k : Nat} (h : cN p k) : cW nw p k := by unfold cN at h; unfold cW; omega
theorem Rb_wind (hR : Rb 6 σ nk nw 0 0 M) (h10 : nk ≤ 10) (h4 : nw < 4) (f : fr (cW nw) M M1) {l x y : Int32} {g : Nat → Int32} (hrow : ak_I M1 (6 + 16 + nw) = ru (ru (ru g 0 l) 1 x) 2 y) (h6 : ak_I M1 6 6 = nI (nw + 1)) :
    Rb 6 (rw3 σ nw l x y) nk (nw + 1) 0 0 M1 := by
  have e : ∀ p, 6 < p → p < 38 → p ≠ 6 + 16 + nw → ak_I M1 p = ak_I M p := fun p h1 h2 h3 => f.row fun k hs => by unfold cW at hs; omega
  have e6 : ∀ j, j ≠ 6 → ak_I M1 6 j = ak_I M 6 j := fun j hj => f.2.1 6 j fun hs => by unfold cW at hs; omega
  have lo : ∀ i, i < 11 → i ≠ 2 → rw3 σ nw l x y i = σ i := fun i hi h2 => by
    rw [rw3_e h4, if_neg h2, if_neg (by omega), if_neg (by omega), if_neg (by omega)]
  obtain ⟨a1, ⟨b1, b2, b3, b4, b5, b6⟩, a3, a4, a5, a6⟩ := hR
  refine ⟨a1, ?_, fun k hk' w hw => ?_, fun i hi w hw => ?_, fun j hj => ?_, fun j hj => absurd hj (Nat.not_lt_zero _)⟩
  · rw [lo 1 (by decide) (by decide), lo 9 (by decide) (by decide), lo 0 (by decide) (by decide), lo 10 (by decide) (by decide), e6 5 (by decide), e6 7 (by decide), e6 8 (by decide), e6 9 (by decide), e6 10 (by decide), rw3_e h4]
    exact ⟨b1, h6, b3, b4, b5, b6⟩
  · rw [rw3_kf h4, e _ (by omega) (by omega) (by omega)]
    exact a3 k hk' w hw
  · unfold wf
    rw [rw3_e h4, if_neg (by omega)]
    by_cases ei : i = nw
    · subst ei
      rw [hrow]
      rcases (show w = 0 ∨ w = 1 ∨ w = 2 by omega) with e | e | e <;> subst e
      · rw [if_neg (by omega), if_neg (by omega), if_pos (by omega)]; rfl
      · rw [if_neg (by omega), if_pos (by omega)]; rfl
      · rw [if_pos (by omega)]; rfl
    · rw [if_neg (by omega), if_neg (by omega), if_neg (by omega), e _ (by omega) (by omega) (by omega)]
      exact a4 i (by omega) w hw
  · rw [lo _ (by omega) (by omega), e _ (by omega) (by omega) (by omega)]
    exact a5 j hj
theorem sk_83 (hL : ab_lay M) (h4 : nw < 4) (l x y : Int32) : ∃ M', rn X 83 [.ref (6 + 16 + nw), .int l, .int x, .int y] M (.inl none, M') ∧ fr (fun p _ => p = 6 + 16 + nw) M M' ∧ ak_I M' (6 + 16 + nw) = ru (ru (ru (ak_I M (6 + 16 + nw)) 0 l) 1 x) 2 y := by
  have st : ∀ {N : ak_M} {w : Nat} {v : Int32}, fr (fun p _ => p = 6 + 16 + nw) M N → fr (fun p _ => p = 6 + 16 + nw) M (ak_sI N (6 + 16 + nw) w v) := fun f => f.st rfl
  refine ⟨_, t_83 hL h6 h4 _ _ _ fun N1 e1 N2 e2 N3 e3 => by rw [e3, e2, e1], st (st (st (fr.rf hL))), ?_⟩
  rw [sI_ru, sI_ru, sI_ru]
/-- the class's way through a wind's numbers -/
theorem sk_66w {M0 : ak_M} (g1 : fr (cW nw) M0 M1) (hI : Ic β n M1) (hT : Tc β n s M1) (hR : Rb 6 σ nk nw 0 0 M0) (hN : Nn 38 ν nk M0) (h3 : ak_I M0 5 3 = τ) (h55 : ak_I M0 5 5 = 0) (h56 : ak_I M0 5 6 = (-1)) (h4 : nw < 4) (h10 : nk ≤ 10) (e66 : ak_I M0 6 6 = nI nw) (e661 : ak_I M1 6 6 = nI nw) (lo hi : Int32) :
    ∃ r, od M0 (bnd (nb β n s lo hi) fun l => bnd (spd β n l.2) fun x => bnd (spd β n x.2) fun y => .inr (rw3 σ nw l.1 x.1 y.1, ν, nk, nw + 1, τ, y.2)) (Pc β n) r ∧ (∃ (v5 : Int32) (M4 : ak_M), ab_lay M4 ∧ rn X 69 [.ref 5, .int lo, .int hi] M1 (.inl (some (.int v5)), M4) ∧ (if v5 = 0 then r = (.inl (some (.int 0)), M4) else (∃ (v7 : Int32) (M6 : ak_M), ab_lay M6 ∧ rn X 67 [.ref 5] M4 (.inl (some (.int v7)), M6) ∧ (if v7 = 0 then r = (.inl (some (.int 0)), M6) else (∃ (v9 : Int32) (M8 : ak_M), ab_lay M8 ∧ rn X 67 [.ref 5] M6 (.inl (some (.int v9)), M8) ∧ (if v9 = 0 then r = (.inl (some (.int 0)), M8) else (∃ i10 : Nat, i10 < 4 ∧ ab_ix (ak_I M0 6 6) i10 4 ∧ (∃ (M11 : ak_M), ab_lay M11 ∧ rn X 83 [.ref (6 + 16 + i10), .int (ak_I M4 5 4), .int (ak_I M6 5 4), .int (ak_I M8 5 4)] M8 (.inl (none), M11) ∧ (∀ M12 : ak_M, M12 = ak_sI M11 6 6 ((ak_I M11 6 6) + 1) → r = (.inl (some (.int 1)), M12)))))))))) := by
  have s1 := sk_69 (X := X) g1.1 hI hT lo hi
  have gA : ∀ {N : ak_M}, fr (cW nw) M0 N → fr cA M0 N := fun f => f.mo fun _ _ h => cW_A h4 h
  cases q1 : nb β n s lo hi with
  | inl e =>
    rw [q1] at s1
    obtain ⟨M4, r4, f4, d4⟩ := s1
    exact ⟨_, ⟨M4, rfl, (gA g1).tr f4, d4⟩, _, M4, f4.1, r4, mb_y rfl rfl⟩
  | inr l =>
    rw [q1] at s1
    obtain ⟨M4, r4, f4, t4, x4⟩ := s1
    have g4 : fr (cW nw) M0 M4 := g1.tr (f4.mo fun _ _ h => cN_W h)
    have I4 := cN_I hI f4
    have s2 := sk_67 (X := X) f4.1 I4 t4
    show ∃ r, od M0 (bnd (spd β n l.2) _) _ r ∧ _
    cases q2 : spd β n l.2 with
    | inl e =>
      rw [q2] at s2
      obtain ⟨M6, r6, f6, d6⟩ := s2
      exact ⟨_, ⟨M6, rfl, (gA g4).tr f6, d6⟩, _, M4, f4.1, r4, mb_n (by decide) ⟨_, M6, f6.1, r6, mb_y rfl rfl⟩⟩
    | inr x =>
      rw [q2] at s2
      obtain ⟨M6, r6, f6, t6, x6⟩ := s2
      have g6 : fr (cW nw) M0 M6 := g4.tr (f6.mo fun _ _ h => cN_W h)
      have I6 := cN_I I4 f6
      have s3 := sk_67 (X := X) f6.1 I6 t6
      show ∃ r, od M0 (bnd (spd β n x.2) _) _ r ∧ _
      cases q3 : spd β n x.2 with
      | inl e =>
        rw [q3] at s3
        obtain ⟨M8, r8, f8, d8⟩ := s3
        exact ⟨_, ⟨M8, rfl, (gA g6).tr f8, d8⟩, _, M4, f4.1, r4, mb_n (by decide) ⟨_, M6, f6.1, r6, mb_n (by decide) ⟨_, M8, f8.1, r8, mb_y rfl rfl⟩⟩⟩
      | inr y =>
        rw [q3] at s3
        obtain ⟨M8, r8, f8, t8, x8⟩ := s3
        have g8 : fr (cW nw) M0 M8 := g6.tr (f8.mo fun _ _ h => cN_W h)
        have I8 := cN_I I6 f8
        obtain ⟨M11, r11, f11, w11⟩ := sk_83 (X := X) f8.1 h4 l.1 x.1 y.1
        have g11 : fr (cW nw) M0 M11 := g8.tr (f11.mo fun p k e => by unfold cW; omega)
        -- the count of winds has not been written yet
        have z : ∀ {A B : ak_M}, fr cN A B → ak_I B 6 = ak_I A 6 := fun f => f.row fun k e => by unfold cN at e; omega
        refine ⟨(.inl (some (.int 1)), ak_sI M11 6 6 (ak_I M11 6 6 + 1)), ⟨_, rfl, ?_, ?_⟩, _, M4, f4.1, r4, mb_n (by decide) ⟨_, M6, f6.1, r6, mb_n (by decide) ⟨_, M8, f8.1, r8, mb_n (by decide) ⟨nw, h4, by rw [e66]; exact mb_ix h4 (by decide), M11, f11.1, by rw [x4, x6, x8]; exact r11, fun N e => by rw [e]⟩⟩⟩⟩
        · exact gA (g11.st (by unfold cW; omega))
        · have b : ∀ p, p ≠ 6 → p ≠ 6 + 16 + nw → ak_I (ak_sI M11 6 6 (ak_I M11 6 6 + 1)) p = ak_I M8 p := fun p h1 h2 => by rw [mb_sIr h1]; exact f11.row fun k e => h2 e
          have g12 : fr (cW nw) M0 (ak_sI M11 6 6 (ak_I M11 6 6 + 1)) := g11.st (by unfold cW; omega)
          have I12 : Ic β n (ak_sI M11 6 6 (ak_I M11 6 6 + 1)) := ⟨I8.1, by rw [b 1 (by decide) (by omega)]; exact I8.2.1, fun j hj => by rw [b 2 (by decide) (by omega)]; exact I8.2.2 j hj⟩
          have T12 : Tc β n y.2 (ak_sI M11 6 6 (ak_I M11 6 6 + 1)) := by
            unfold Tc at t8 ⊢
            rw [b 51 (by decide) (by omega)]
            exact t8
          have c11 : ak_I M11 6 6 = nI nw := by
            rw [f11.row (p := 6) fun k e => by omega, z f8, z f6, z f4]
            exact e661
          refine ⟨I12, T12, Rb_wind hR h10 h4 g12 (g := ak_I M8 (6 + 16 + nw)) ?_ ?_, hN.ff g12 fun p k e => by unfold cW at e; omega, ?_, ?_, ?_⟩
          · rw [mb_sIr (by omega)]; exact w11
          · rw [mb_sIs, c11, mi_s]
          · rw [g12.2.1 5 3 fun e => by unfold cW at e; omega]; exact h3
          · rw [g12.2.1 5 5 fun e => by unfold cW at e; omega]; exact h55
          · rw [g12.2.1 5 6 fun e => by unfold cW at e; omega]; exact h56
theorem sk_66 (hL : ab_lay M) (hP : Pc β n (σ, ν, nk, nw, τ, s) M) (hV : PV (σ, ν, nk, nw, τ, s)) : cst X 66 [.ref 5] M (ps_w β n (σ, ν, nk, nw, τ, s)) (Pc β n) := by
  obtain ⟨hI, hT, hR, hN, h3, h55, h56⟩ := hP
  obtain ⟨v1, v2, v3, v4, v5, v6, v7, v8, v9, v10, v11, v12, v13⟩ := hV
  have e66 : ak_I M 6 6 = nI nw := hR.2.1.2.1.trans v4
  show cst X 66 [.ref 5] M (if nw = 4 then _ else _) _
  by_cases c4 : nw = 4
  · rw [if_pos c4]
    exact bad_in (c := 4) (fr.rf hL) (sk_71a hL hT 4) fun r hr => t_66 hL (mb_y (by rw [e66, c4]; rfl) hr)
  · rw [if_neg c4]
    have c4' : ¬ ak_I M 6 6 = 4 := by rw [e66, show (4 : Int32) = nI 4 from rfl, mi_eq (by omega) (by decide)]; exact c4
    have h4 : nw < 4 := by omega
    obtain ⟨M1, r1, f1, t1⟩ := sk_76t (X := X) hL hI hT
    have I1 := cT_I hI f1
    have g1 : fr (cW nw) M M1 := f1.mo fun p k e => Or.inl e
    have e661 : ak_I M1 6 6 = nI nw := by rw [f1.row (p := 6) fun k e => by unfold cT at e; omega]; exact e66
    obtain ⟨r, ho, hw⟩ := sk_66w (X := X) g1 I1 t1 hR hN h3 h55 h56 h4 v1 e66 e661 (wlo σ nw) (whi nw)
    refine od_c (fr.rf hL) ho ?_
    by_cases c0 : nw = 0
    · have z0 : ak_I M 6 6 = 0 := by rw [e66, c0]; rfl
      unfold wlo whi at hw
      rw [if_pos c0, if_pos c0] at hw
      exact t_66 hL (mb_n c4' ⟨M1, f1.1, r1, mb_y z0 (mb_y z0 hw)⟩)
    · have z0 : ¬ ak_I M 6 6 = 0 := by rw [e66, show (0 : Int32) = nI 0 from rfl, mi_eq (by omega) (by decide)]; exact c0
      obtain ⟨w, rfl⟩ : ∃ w, nw = w + 1 := ⟨nw - 1, by omega⟩
      unfold wlo whi at hw
      rw [if_neg c0, if_neg c0, show w + 1 - 1 = w by omega] at hw
      refine t_66 hL (mb_n c4' ⟨M1, f1.1, r1, mb_n z0 ⟨w, by omega, by rw [e66, mi_p]; exact mb_ix (by omega) (by decide), fun z ez => mb_n z0 ?_⟩⟩)
      have e0 : ak_I M1 (6 + 16 + w) 0 = wf σ w 0 := by
        rw [f1.row (p := 6 + 16 + w) fun k e => by unfold cT at e; omega]
        exact hR.w (by omega) (by decide)
      rw [e0] at ez
      rw [ez]
      exact hw
/-- settings -/
theorem Rb_set (hR : Rb 6 σ nk nw 0 0 M) (h10 : nk ≤ 10) (h4 : nw ≤ 4) {w : Nat} (hw : w < 6) (v : Int32) : Rb 6 (up σ (3 + w) v) nk nw 0 0 (ak_sI M (6 + 4) w v) := by
  obtain ⟨a1, ⟨b1, b2, b3, b4, b5, b6⟩, a3, a4, a5, a6⟩ := hR
  have e : ∀ p, p ≠ 6 + 4 → ak_I (ak_sI M (6 + 4) w v) p = ak_I M p := fun p h => mb_sIr h
  have lo : ∀ i, i < 3 ∨ 9 ≤ i → up σ (3 + w) v i = σ i := fun i hi => up_n (by omega)
  refine ⟨a1, ?_, fun k hk u hu => ?_, fun i hi u hu => ?_, fun j hj => ?_, fun j hj => absurd hj (Nat.not_lt_zero _)⟩
  · rw [lo 1 (by omega), lo 2 (by omega), lo 9 (by omega), lo 0 (by omega), lo 10 (by omega), e 6 (by decide)]
    exact ⟨b1, b2, b3, b4, b5, b6⟩
  · rw [e _ (by omega), show kf (up σ (3 + w) v) k u = kf σ k u from lo _ (by omega)]
    exact a3 k hk u hu
  · rw [e _ (by omega), show wf (up σ (3 + w) v) i u = wf σ i u from lo _ (by omega)]
    exact a4 i hi u hu
  · rw [up_e]
    by_cases ej : j = w
    · rw [ej, if_pos rfl]; exact mb_sIs
    · rw [if_neg (by omega), mb_sIk ej]; exact a5 j hj
def cQs (p k : Nat) : Prop := p = 51 ∨ (p = 5 ∧ k = 4) ∨ (p = 5 ∧ k = 3) ∨ p = 6 + 4
theorem sk_68 (hL : ab_lay M) (hP : Pc β n (σ, ν, nk, nw, τ, s) M) (hV : PV (σ, ν, nk, nw, τ, s)) {w : Nat} (hw : w < 6) : cst X 68 [.ref 5, .int (nI w)] M (ps_s β n w (σ, ν, nk, nw, τ, s)) (Pc β n) := by
  obtain ⟨hI, hT, hR, hN, h3, h55, h56⟩ := hP
  obtain ⟨v1, v2, v3, v4, v5, v6, v7, v8, v9, v10, v11, v12, v13⟩ := hV
  obtain ⟨ci1, ci2⟩ := ci_lo X w hw
  show cst X 68 [.ref 5, .int (nI w)] M (if τ &&& bit w = 0 then _ else _) _
  by_cases c : τ &&& bit w = 0
  · rw [if_pos c]
    have c' : ak_I M 5 3 &&& (1 <<< (nI w &&& 31)) = 0 := by rw [h3]; exact c
    obtain ⟨M1, hM1⟩ : ∃ M1, M1 = ak_sI M 5 3 (τ ||| bit w) := ⟨_, rfl⟩
    have g1 : fr cQs M M1 := by rw [hM1]; exact (fr.rf hL).st (by unfold cQs; omega)
    have b1 : ∀ p, p ≠ 5 → ak_I M1 p = ak_I M p := fun p h => by rw [hM1]; exact mb_sIr h
    have I1 : Ic β n M1 := ⟨hI.1, by rw [b1 1 (by decide)]; exact hI.2.1, fun j hj => by rw [b1 2 (by decide)]; exact hI.2.2 j hj⟩
    have T1 : Tc β n s M1 := by
      unfold Tc at hT ⊢
      rw [b1 51 (by decide)]
      exact hT
    obtain ⟨M2, r2, f2, t2⟩ := sk_76t (X := X) g1.1 I1 T1
    have g2 : fr cQs M M2 := g1.tr (f2.mo fun p k e => Or.inl e)
    have I2 := cT_I I1 f2
    have s1 := sk_69 (X := X) f2.1 I2 t2 (lo6 w) (hi6 w)
    have hd : ∀ {r : ak_O × ak_M}, (∃ (v6 : Int32) (M5 : ak_M), ab_lay M5 ∧ rn X 69 [.ref 5, .int (lo6 w), .int (hi6 w)] M2 (.inl (some (.int v6)), M5) ∧ (if v6 = 0 then r = (.inl (some (.int 0)), M5) else (∃ i7 : Nat, ab_ix (nI w) i7 6 ∧ (∀ M8 : ak_M, M8 = ak_sI M5 (6 + 4) i7 (ak_I M5 5 4) → r = (.inl (some (.int 1)), M8))))) → rn X 68 [.ref 5, .int (nI w)] M r := by
      intro r hr
      refine t_68 hL _ (mb_y c' fun N e => ?_)
      have eb : ak_I M 5 3 ||| (1 <<< (nI w &&& 31)) = τ ||| bit w := by rw [h3]; rfl
      rw [eb, ← hM1] at e
      rw [e]
      exact ⟨M2, f2.1, r2, w, mb_ix hw (by decide), w, mb_ix hw (by decide), by rw [ci1, ci2]; exact hr⟩
    show cst X 68 [.ref 5, .int (nI w)] M (bnd (nb β n (nx β n s) (lo6 w) (hi6 w)) _) _
    cases q1 : nb β n (nx β n s) (lo6 w) (hi6 w) with
    | inl e =>
      rw [q1] at s1
      obtain ⟨M5, r5, f5, d5⟩ := s1
      exact cst_bad (hd ⟨_, M5, f5.1, r5, mb_y rfl rfl⟩) ((g2.mo fun p k e => by unfold cQs at e; unfold cA; omega).tr f5) d5
    | inr v =>
      rw [q1] at s1
      obtain ⟨M5, r5, f5, t5, x5⟩ := s1
      have g5 : fr cQs M M5 := g2.tr (f5.mo fun p k e => by unfold cN at e; unfold cQs; omega)
      have g8 : fr cQs M (ak_sI M5 (6 + 4) w v.1) := g5.st (by unfold cQs; omega)
      have I5 := cN_I I2 f5
      have b8 : ∀ p, p ≠ 6 + 4 → ak_I (ak_sI M5 (6 + 4) w v.1) p = ak_I M5 p := fun p h => mb_sIr h
      have e53 : ak_I M5 5 3 = τ ||| bit w := by
        rw [f5.2.1 5 3 fun e => by unfold cN at e; omega, f2.row (p := 5) fun k e => by unfold cT at e; omega, hM1]
        exact mb_sIs
      have R5 : Rb 6 σ nk nw 0 0 M5 := by
        have ra : Rb 6 σ nk nw 0 0 M1 := rb_f6 hR (M := M) (S := fun p k => p = 5 ∧ k = 3) v1 v2 (by rw [hM1]; exact (fr.rf hL).st ⟨rfl, rfl⟩) fun p k e => by omega
        have rb := rb_f6 ra v1 v2 f2 fun p k e => by unfold cT at e; omega
        exact rb_f6 rb v1 v2 f5 fun p k e => by unfold cN at e; omega
      refine ⟨_, hd ⟨_, M5, f5.1, r5, mb_n (by decide) ⟨w, mb_ix hw (by decide), fun N e => by rw [x5] at e; rw [e]⟩⟩, g8.mo fun p k e => by unfold cQs at e; unfold cA; omega, ?_, ?_, Rb_set R5 v1 v2 hw v.1, hN.ff g8 fun p k e => by unfold cQs at e; omega, ?_, ?_, ?_⟩
      · exact ⟨I5.1, by rw [b8 1 (by decide)]; exact I5.2.1, fun j hj => by rw [b8 2 (by decide)]; exact I5.2.2 j hj⟩
      · unfold Tc at t5 ⊢
        rw [b8 51 (by decide)]
        exact t5
      · rw [b8 5 (by decide)]; exact e53
      · rw [g8.2.1 5 5 fun e => by unfold cQs at e; omega]; exact h55
      · rw [g8.2.1 5 6 fun e => by unfold cQs at e; omega]; exact h56
  · rw [if_neg c]
    have c' : ¬ ak_I M 5 3 &&& (1 <<< (nI w &&& 31)) = 0 := by rw [h3]; exact c
    exact bad_in (c := 3) (fr.rf hL) (sk_71a hL hT 3) fun r hr => t_68 hL _ (mb_n c' hr)
theorem sk_62 (hL : ab_lay M) {q : PS} (hP : Pc β n q M) (hV : PV q) : cst X 62 [.ref 5, .int (oI (wo β n q.2.2.2.2.2))] M (ps_1 β n q) (Pc β n) := by
  obtain ⟨σ, ν, nk, nw, τ, s⟩ := q
  have hT := hP.2.1
  unfold ps_1
  show cst X 62 [.ref 5, .int (oI (wo β n s))] M (match wo β n s with
    | some c => if c = 0 then ps_k β n (σ, ν, nk, nw, τ, s) else if c = 1 then ps_w β n (σ, ν, nk, nw, τ, s) else if c < 8 then ps_s β n (c - 2) (σ, ν, nk, nw, τ, s) else .inl (1, s)
    | none => .inl (1, s)) (Pc β n)
  cases e : wo β n s with
  | none =>
    have s151 := sk_151 (X := X) hL (v := (-1)) (lo := 2) (hi := 7)
    have z : in32 (-1) 2 7 = false := by decide
    rw [z] at s151
    exact bad_in (c := 1) (fr.rf hL) (sk_71a hL hT 1) fun r hr => t_62 hL _ (mb_n (by decide) (mb_n (by decide) ⟨_, M, hL, s151, mb_y rfl hr⟩))
  | some c =>
    have hc := (wo_t.mp e).1
    show cst X 62 [.ref 5, .int (nI c)] M (if c = 0 then _ else _) (Pc β n)
    have eq : ∀ m : Nat, m < 100 → (nI c = nI m ↔ c = m) := fun m hm => mi_eq (by omega) (by omega)
    by_cases c0 : c = 0
    · rw [if_pos c0]
      obtain ⟨v, M', l, r, v01, o⟩ := c_od (sk_63 (X := X) hL hP hV)
      exact od_c (fr.rf hL) o (t_62 hL _ (mb_y ((eq 0 (by decide)).mpr c0) ⟨v, M', l, r, v01, rfl⟩))
    · rw [if_neg c0]
      have d0 : ¬ nI c = 0 := fun e => c0 ((eq 0 (by decide)).mp e)
      by_cases c1 : c = 1
      · rw [if_pos c1]
        obtain ⟨v, M', l, r, v01, o⟩ := c_od (sk_66 (X := X) hL hP hV)
        exact od_c (fr.rf hL) o (t_62 hL _ (mb_n d0 (mb_y ((eq 1 (by decide)).mpr c1) ⟨v, M', l, r, v01, rfl⟩)))
      · rw [if_neg c1]
        have d1 : ¬ nI c = 1 := fun e => c1 ((eq 1 (by decide)).mp e)
        have s151 := sk_151 (X := X) hL (v := nI c) (lo := 2) (hi := 7)
        have a2 : (2 : Int32).toInt = 2 := by decide
        have a7 : (7 : Int32).toInt = 7 := by decide
        by_cases c8 : c < 8
        · rw [if_pos c8]
          rw [in32_t.mpr (by rw [mi_t (by omega), a2, a7]; omega)] at s151
          obtain ⟨v, M', l, r, v01, o⟩ := c_od (sk_68 (X := X) hL hP hV (w := c - 2) (by omega))
          have e2 : nI c - 2 = nI (c - 2) := mi_sbn (b := 2) (by omega)
          exact od_c (fr.rf hL) o (t_62 hL _ (mb_n d0 (mb_n d1 ⟨_, M, hL, s151, mb_n (by decide) ⟨v, M', l, by rw [e2]; exact r, v01, rfl⟩⟩)))
        · rw [if_neg c8]
          rw [show in32 (nI c) 2 7 = false from bf fun h => by have := in32_t.mp h; rw [mi_t (by omega), a2, a7] at this; omega] at s151
          exact bad_in (c := 1) (fr.rf hL) (sk_71a hL hT 1) fun r hr => t_62 hL _ (mb_n d0 (mb_n d1 ⟨_, M, hL, s151, mb_y rfl hr⟩))
/-- behind the last statement: a wind, if none was told -/
def ps_f : PS → PS
  | (σ, ν, nk, nw, τ, s) => if nw = 0 then (rw3 σ 0 0 3 0, ν, nk, 1, τ, s) else (σ, ν, nk, nw, τ, s)
theorem sk_9 (hL : ab_lay M) (hR : Rb 6 σ nk 0 0 0 M) (h10 : nk ≤ 10) : ∃ M', rn X 9 [.ref 6] M (.inl none, M') ∧ fr (cS 6) M M' ∧ Rb 6 (rw3 σ 0 0 3 0) nk 1 0 0 M' := by
  obtain ⟨M1, r1, f1, w1⟩ := sk_83 (X := X) (nw := 0) hL (by decide) 0 3 0
  have g : fr (cW 0) M (ak_sI M1 6 6 1) := (f1.mo fun p k e => by unfold cW; omega).st (by unfold cW; omega)
  exact ⟨_, t_9 hL h6 ⟨0, by decide, mb_ix (by decide) (by decide), M1, f1.1, r1, fun N e => by rw [e]⟩, (f1.mo fun p k e => by unfold cS; omega).st (by unfold cS; omega), Rb_wind hR h10 (by decide) g (by rw [mb_sIr (by decide)]; exact w1) mb_sIs⟩
theorem sk_61f (hL : ab_lay M) {q : PS} (hP : Pc β n q M) (hV : PV q) : ∃ r, od M (.inr (ps_f q)) (Pc β n) r ∧ (if ak_I M 6 6 = 0 then (∃ (M10 : ak_M), ab_lay M10 ∧ rn X 9 [.ref 6] M (.inl (none), M10) ∧ r = (.inl (some (.int 1)), M10)) else r = (.inl (some (.int 1)), M)) := by
  obtain ⟨σ, ν, nk, nw, τ, s⟩ := q
  obtain ⟨hI, hT, hR, hN, h3, h55, h56⟩ := hP
  obtain ⟨v1, v2, v3, v4, v5, v6, v7, v8, v9, v10, v11, v12, v13⟩ := hV
  have e66 : ak_I M 6 6 = nI nw := hR.2.1.2.1.trans v4
  show ∃ r, od M (.inr (if nw = 0 then (rw3 σ 0 0 3 0, ν, nk, 1, τ, s) else (σ, ν, nk, nw, τ, s))) (Pc β n) r ∧ _
  by_cases c : nw = 0
  · rw [if_pos c]
    subst c
    obtain ⟨M', r, f, R⟩ := sk_9 (X := X) hL hR v1
    refine ⟨_, ⟨M', rfl, f.mo fun p k e => by unfold cS at e; unfold cA; omega, hI.ff f fun p k e => by unfold cS at e; omega, hT.ff f fun p k e => by unfold cS at e; omega, R, hN.ff f fun p k e => by unfold cS at e; omega, ?_, ?_, ?_⟩, mb_y (by rw [e66]; rfl) ⟨M', f.1, r, rfl⟩⟩
    · rw [f.2.1 5 3 fun e => by unfold cS at e; omega]; exact h3
    · rw [f.2.1 5 5 fun e => by unfold cS at e; omega]; exact h55
    · rw [f.2.1 5 6 fun e => by unfold cS at e; omega]; exact h56
  · rw [if_neg c]
    exact ⟨_, ⟨M, rfl, fr.rf hL, hI, hT, hR, hN, h3, h55, h56⟩, mb_n (by rw [e66, show (0 : Int32) = nI 0 from rfl, mi_eq (by omega) (by decide)]; exact c) rfl⟩
end SCR
