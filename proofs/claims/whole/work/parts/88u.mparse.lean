/-! the model parses a text -/
section SMP
variable {X : ak_X} {M M1 : ak_M} {β : Nat → Int32} {n s nk nw : Nat} {ν : Nat → Nat} {σ : Nat → Int32} {τ : Int32} {e : Nat × Nat}
/-- the end of a statement -/
def tr290 (X : ak_X) (M72 : ak_M) (r : ak_O × ak_M) : Prop := (if ak_I M72 483 21 = 3 then (∃ (M77 : ak_M), ab_lay M77 ∧ rn X 281 [.ref 483, .int 1, .int 1] M72 (.inl (none), M77) ∧ (∃ (M78 : ak_M), ab_lay M78 ∧ rn X 282 [.ref 483] M77 (.inl (none), M78) ∧ r = (.inl none, M78))) else (∃ (M73 : ak_M), ab_lay M73 ∧ rn X 281 [.ref 483, .int 0, .int 1] M72 (.inl (none), M73) ∧ (∃ (M74 : ak_M), ab_lay M74 ∧ rn X 282 [.ref 483] M73 (.inl (none), M74) ∧ r = (.inl none, M74))))
theorem d_290 (hL : ab_lay M) (d : dead e M) : tr290 X M (.inl none, M) := by
  unfold tr290
  by_cases c : ak_I M 483 21 = 3
  · exact mb_y c ⟨M, hL, d_281 hL d _ _, M, hL, d_282 hL d, rfl⟩
  · exact mb_n c ⟨M, hL, d_281 hL d _ _, M, hL, d_282 hL d, rfl⟩
/-- behind a statement's own part -/
theorem sm_290e (hR : BR β n) {o : (Nat × Nat) ⊕ PS} {k : Nat} {as : List Value} {r1 : ak_O × ak_M} (ho : mo_od M o (Pm β n) r1) (hr : rn X k as M r1) : ∃ r, mo_od M (bnd o (ps_e β n)) (Pm β n) r ∧ ∃ (M72 : ak_M), ab_lay M72 ∧ rn X k as M (.inl none, M72) ∧ tr290 X M72 r := by
  cases o with
  | inl e =>
    obtain ⟨N, rfl, f, d⟩ := ho
    exact ⟨_, ⟨N, rfl, f, d⟩, N, f.1, hr, d_290 f.1 d⟩
  | inr q =>
    obtain ⟨N, rfl, f, hP⟩ := ho
    obtain ⟨σ, ν, nk, nw, τ, s⟩ := q
    obtain ⟨hJ, hT, hσ, h26, h24, h25⟩ := hP
    have tf := tm_f β n s
    show ∃ r, mo_od M (if tkd β n s = 4 then .inr (σ, ν, nk, nw, τ, nx β n s) else .inl (1, s)) (Pm β n) r ∧ _
    by_cases c : tkd β n s = 4
    · rw [if_pos c]
      obtain ⟨N2, r2, f2, t2⟩ := a_282 (X := X) f.1 h24 hJ hR hT
      refine ⟨_, ⟨N2, rfl, f.tr (f2.mo fun _ _ h => mT_A h), mT_J hJ f2, t2, ?_, ?_, mT_24 f2 h24, ?_⟩, N, f.1, hr, ?_⟩
      · exact (f2.row fun k e => by unfold mT at e; omega).trans hσ
      · rw [f2.2.1 483 26 fun e => by unfold mT at e; omega]; exact h26
      · rw [f2.2.1 483 25 fun e => by unfold mT at e; omega]; exact h25
      · unfold tr290
        exact mb_y (by rw [hT.2.2.2.1]; exact tf.2.2.2.1.mpr c) ⟨N, f.1, a_281 f.1 h24 (by decide) _, N2, f2.1, r2, rfl⟩
    · rw [if_neg c]
      obtain ⟨N2, r2, f2, d2, -⟩ := b_281 (X := X) f.1 h24 hT.2.2.1 (c := 1) (by decide)
      refine ⟨_, ⟨N2, rfl, f.tr (f2.mo fun _ _ h => mF_A h), d2⟩, N, f.1, hr, ?_⟩
      unfold tr290
      exact mb_n (by rw [hT.2.2.2.1]; exact fun e => c (tf.2.2.2.1.mp e)) ⟨N2, f2.1, r2, N2, f2.1, d_282 f2.1 d2, rfl⟩
theorem sm_290 (hL : ab_lay M) (hR : BR β n) {q : PS} (hP : Pm β n q M) (hV : PV q) : ∃ r, mo_od M (ps_2 β n q) (Pm β n) r ∧ rn X 290 [.ref 483] M r := by
  obtain ⟨σ, ν, nk, nw, τ, s⟩ := q
  have hP' := hP
  obtain ⟨hJ, hT, hσ, h26, h24, h25⟩ := hP'
  have tf := tm_f β n s
  have s6 := a_283 (X := X) hL h24 hT (c := 0) (by decide)
  have s7 := a_283 (X := X) hL h24 hT (c := 1) (by decide)
  rw [show nI (mwc 0) = 6 from rfl] at s6
  rw [show nI (mwc 1) = 7 from rfl] at s7
  -- no such statement
  obtain ⟨N, rN, fN, dN, -⟩ := b_281 (X := X) hL h24 hT.2.2.1 (c := 1) (by decide)
  have hw : ∀ c, c < 11 → (wq β n s c = true ↔ wo β n s = some c) := fun c hc => ⟨fun h => wo_t.mpr ⟨hc, h⟩, fun h => (wo_t.mp h).2⟩
  have no : ∀ o : (Nat × Nat) ⊕ PS, o = .inl (1, s) → mo_od M (bnd o (ps_e β n)) (Pm β n) (.inl none, N) := fun o h => by
    rw [h]
    exact ⟨N, rfl, fN.mo fun _ _ h => mF_A h, dN⟩
  unfold ps_2
  by_cases k1 : tkd β n s = 1
  · have c1 : ak_I M 483 21 = 1 := by rw [hT.2.2.2.1]; exact tf.2.1.mpr k1
    have w22 := hT.2.2.2.2.1 k1
    have s57 : rn X 157 [.long (ak_I M 483 22).toInt64, .long 0, .long 5] M (.inl (some (.int (bI (in32 (ak_I M 483 22) 0 5)))), M) := jm_in32 (by rfl) (by rfl)
    cases ew : wo β n s with
    | none =>
      rw [ew] at w22
      have w22 : ak_I M 483 22 = (-1) := w22
      have z : in32 (ak_I M 483 22) 0 5 = false := by rw [w22]; decide
      rw [z] at s57
      have z0 : wq β n s 0 = false := bf fun h => by rw [(hw 0 (by decide)).mp h] at ew; cases ew
      have z1 : wq β n s 1 = false := bf fun h => by rw [(hw 1 (by decide)).mp h] at ew; cases ew
      rw [z0] at s6
      rw [z1] at s7
      refine ⟨_, no _ ?_, t_290 hL (mb_y c1 ⟨_, M, hL, s57, mb_y rfl ⟨_, M, hL, s6, mb_y rfl ⟨_, M, hL, s7, mb_y rfl ⟨N, fN.1, rN, d_290 (X := X) fN.1 dN⟩⟩⟩⟩)⟩
      unfold ps_1
      dsimp only
      rw [ew]
    | some c =>
      have hc := (wo_t.mp ew).1
      obtain ⟨d1, d2⟩ := wd_c c hc
      rw [ew] at w22
      have w22 : ak_I M 483 22 = nI (mwc c) := w22
      have e0 : wq β n s 0 = decide (c = 0) := by
        by_cases h : c = 0
        · rw [decide_eq_true h]; exact (hw 0 (by decide)).mpr (by rw [ew, h])
        · rw [decide_eq_false h]; exact bf fun e => h (by have := (hw 0 (by decide)).mp e; rw [ew] at this; exact Option.some.inj this)
      have e1 : wq β n s 1 = decide (c = 1) := by
        by_cases h : c = 1
        · rw [decide_eq_true h]; exact (hw 1 (by decide)).mpr (by rw [ew, h])
        · rw [decide_eq_false h]; exact bf fun e => h (by have := (hw 1 (by decide)).mp e; rw [ew] at this; exact Option.some.inj this)
      rw [e0] at s6
      rw [e1] at s7
      have a5 : (5 : Int32).toInt = 5 := by decide
      have a0 : (0 : Int32).toInt = 0 := rfl
      have ein : in32 (ak_I M 483 22) 0 5 = true ↔ mwc c ≤ 5 := by rw [w22, in32_t, mi_t (by omega), a0, a5]; omega
      have ps : ps_1 β n (σ, ν, nk, nw, τ, s) = if c = 0 then ps_k β n (σ, ν, nk, nw, τ, s) else if c = 1 then ps_w β n (σ, ν, nk, nw, τ, s) else if c < 8 then ps_s β n (c - 2) (σ, ν, nk, nw, τ, s) else .inl (1, s) := by
        unfold ps_1
        dsimp only
        rw [ew]
      rw [ps]
      by_cases c0 : c = 0
      · rw [if_pos c0]
        rw [decide_eq_true c0] at s6
        rw [show in32 (ak_I M 483 22) 0 5 = false from bf fun h => by have := ein.mp h; rw [c0] at this; revert this; decide] at s57
        obtain ⟨r1, o1, g1⟩ := sm_287 (X := X) hL hR hP hV
        obtain ⟨r, ho, M2, l2, g2, T⟩ := sm_290e (X := X) hR o1 g1
        exact ⟨r, ho, t_290 hL (mb_y c1 ⟨_, M, hL, s57, mb_y rfl ⟨_, M, hL, s6, mb_n (by decide) ⟨M2, l2, g2, T⟩⟩⟩)⟩
      · rw [if_neg c0]
        rw [decide_eq_false c0] at s6
        by_cases c1' : c = 1
        · rw [if_pos c1']
          rw [decide_eq_true c1'] at s7
          rw [show in32 (ak_I M 483 22) 0 5 = false from bf fun h => by have := ein.mp h; rw [c1'] at this; revert this; decide] at s57
          obtain ⟨r1, o1, g1⟩ := sm_288 (X := X) hL hR hP hV
          obtain ⟨r, ho, M2, l2, g2, T⟩ := sm_290e (X := X) hR o1 g1
          exact ⟨r, ho, t_290 hL (mb_y c1 ⟨_, M, hL, s57, mb_y rfl ⟨_, M, hL, s6, mb_y rfl ⟨_, M, hL, s7, mb_n (by decide) ⟨M2, l2, g2, T⟩⟩⟩⟩)⟩
        · rw [if_neg c1']
          rw [decide_eq_false c1'] at s7
          by_cases c8 : c < 8
          · rw [if_pos c8]
            have em : mwc c = c - 2 := by unfold mwc; rw [if_neg (by omega), if_pos c8]
            rw [ein.mpr (by omega)] at s57
            obtain ⟨r1, o1, g1⟩ := sm_289 (X := X) hL hR hP hV (w := c - 2) (by omega) (by rw [w22, em])
            obtain ⟨r, ho, M2, l2, g2, T⟩ := sm_290e (X := X) hR o1 g1
            exact ⟨r, ho, t_290 hL (mb_y c1 ⟨_, M, hL, s57, mb_n (by decide) ⟨M2, l2, g2, T⟩⟩)⟩
          · rw [if_neg c8]
            have em : mwc c = c := by unfold mwc; rw [if_neg (by omega), if_neg c8]
            rw [show in32 (ak_I M 483 22) 0 5 = false from bf fun h => by have := ein.mp h; omega] at s57
            exact ⟨_, no _ rfl, t_290 hL (mb_y c1 ⟨_, M, hL, s57, mb_y rfl ⟨_, M, hL, s6, mb_y rfl ⟨_, M, hL, s7, mb_y rfl ⟨N, fN.1, rN, d_290 (X := X) fN.1 dN⟩⟩⟩⟩)⟩
  · have c1 : ¬ ak_I M 483 21 = 1 := by rw [hT.2.2.2.1]; exact fun e => k1 (tf.2.1.mp e)
    have ew : wo β n s = none := wo_0 k1
    have z0 : wq β n s 0 = false := bf fun h => by rw [(hw 0 (by decide)).mp h] at ew; cases ew
    have z1 : wq β n s 1 = false := bf fun h => by rw [(hw 1 (by decide)).mp h] at ew; cases ew
    rw [z0] at s6
    rw [z1] at s7
    refine ⟨_, no _ ?_, t_290 hL (mb_n c1 ⟨_, M, hL, s6, mb_y rfl ⟨_, M, hL, s7, mb_y rfl ⟨N, fN.1, rN, d_290 (X := X) fN.1 dN⟩⟩⟩)⟩
    unfold ps_1
    dsimp only
    rw [ew]
/-- a row begun anew -/
def rz0 (σ : Nat → Int32) : Nat → Int32 := fun i => if i < 245 then rz i else σ i
theorem rz0_q (σ : Nat → Int32) : q245 (rz0 σ) rz := fun i hi => if_pos hi
theorem sm_159 (hL : ab_lay M) : ∃ M', rn X 159 [.ref 483] M (.inl none, M') ∧ fr (fun p k => p = 484) M M' ∧ ro M' = rz0 (ro M) := by
  have H := mb_up (P := fun i => ∀ M1, fr (fun p k => p = 484) M M1 → (∀ k, ro M1 k = if k < i then 0 else ro M k) → ∃ M', sg X 159 (2, [some (.ref 483), some (.int (nI i))], [], []) M1 (.inl none, M') ∧ fr (fun p k => p = 484) M M' ∧ ro M' = rz0 (ro M)) (n := 245) ?_ ?_ 0 (by decide) M (fr.rf hL) fun k => (if_neg (Nat.not_lt_zero _)).symm
  · obtain ⟨M', hs, m'⟩ := H
    exact ⟨M', t_159 hL hs, m'⟩
  · intro M1 f1 k1
    refine ⟨ak_sI (ak_sI (ak_sI (ak_sI (ak_sI (ak_sI M1 484 3 5) 484 4 2) 484 5 3) 484 6 4) 484 7 3) 484 8 10, t_159_2 f1.1 _ (mb_y (by decide) ⟨3, ⟨rfl, rfl⟩, fun N1 e1 => ⟨4, ⟨rfl, rfl⟩, fun N2 e2 => ⟨5, ⟨rfl, rfl⟩, fun N3 e3 => ⟨6, ⟨rfl, rfl⟩, fun N4 e4 => ⟨7, ⟨rfl, rfl⟩, fun N5 e5 => ⟨8, ⟨rfl, rfl⟩, fun N6 e6 => by rw [e6, e5, e4, e3, e2, e1]⟩⟩⟩⟩⟩⟩), (((((f1.st rfl).st rfl).st rfl).st rfl).st rfl).st rfl, ?_⟩
    show up (up (up (up (up (up (ro M1) 3 5) 4 2) 5 3) 6 4) 7 3) 8 10 = rz0 (ro M)
    funext i
    unfold rz0 rz
    rw [up_e, up_e, up_e, up_e, up_e, up_e, k1]
    by_cases h : i < 245
    · rw [if_pos h]
      by_cases a8 : i = 8
      · subst a8; rfl
      by_cases a7 : i = 7
      · subst a7; rfl
      by_cases a6 : i = 6
      · subst a6; rfl
      by_cases a5 : i = 5
      · subst a5; rfl
      by_cases a4 : i = 4
      · subst a4; rfl
      by_cases a3 : i = 3
      · subst a3; rfl
      rw [if_neg a8, if_neg a7, if_neg a6, if_neg a5, if_neg a4, if_neg a3, if_neg a3, if_neg a4, if_neg a5, if_neg a6, if_neg a7, if_neg a8, if_pos h]
    · rw [if_neg h, if_neg (by omega), if_neg (by omega), if_neg (by omega), if_neg (by omega), if_neg (by omega), if_neg (by omega), if_neg h]
  · intro i hi ih M1 f1 k1
    obtain ⟨M', hs, m'⟩ := ih (ak_sI M1 484 i 0) (f1.st rfl) fun k => by
      show up (ro M1) i 0 k = _
      rw [up_e, k1]
      by_cases c : k = i
      · rw [if_pos c, if_pos (by omega)]
      · by_cases d : k < i
        · rw [if_neg c, if_pos d, if_pos (by omega)]
        · rw [if_neg c, if_neg d, if_neg (by omega)]
    refine ⟨M', t_159_2 f1.1 _ (mb_n (by rw [show (245 : Int32) = nI 245 from rfl, mi_le (by decide) (by omega)]; omega) ⟨i, mb_ix hi (by decide), fun N e => ?_⟩), m'⟩
    rw [e, mi_s]
    exact hs
theorem r487 : ab_ar 487 := ⟨at_487, an_487⟩
/-- what the model's parse may write -/
def mPa (p k : Nat) : Prop := p = 484 ∨ p = 487 ∨ (p = 483 ∧ (k = 0 ∨ k = 7 ∨ k = 8 ∨ (17 ≤ k ∧ k ≤ 26)))
/-- behind the loop: success -/
theorem sm_291f (hL : ab_lay M) {q : PS} (hP : Pm β n q M) (hV : PV q) : ∃ M', fr mPa M M' ∧ ro M' = (ps_f q).1 ∧ ak_I M' 483 7 = 0 ∧ ak_I M' 483 8 = 0 ∧ (∀ k, k ≠ 7 → k ≠ 8 → ak_I M' 483 k = ak_I M 483 k) ∧ ∀ r : ak_O × ak_M, r = (.inl (some (.int (nI (ps_f q).2.2.1))), M') → (∃ i18 : Nat, ab_ix 2 i18 245 ∧ (if ak_I M 484 i18 = 0 then (∃ (M24 : ak_M), ab_lay M24 ∧ rn X 160 [.ref 483, .int 0, .int 3, .int 0] M (.inl (none), M24) ∧ (∀ M25 : ak_M, M25 = ak_sI M24 483 7 0 → (∀ M26 : ak_M, M26 = ak_sI M25 483 8 0 → (∃ (v28 : Int32) (M27 : ak_M), ab_lay M27 ∧ rn X 168 [.ref 483] M26 (.inl (some (.int v28)), M27) ∧ r = (.inl (some (.int v28)), M27))))) else (∀ M19 : ak_M, M19 = ak_sI M 483 7 0 → (∀ M20 : ak_M, M20 = ak_sI M19 483 8 0 → (∃ (v22 : Int32) (M21 : ak_M), ab_lay M21 ∧ rn X 168 [.ref 483] M20 (.inl (some (.int v22)), M21) ∧ r = (.inl (some (.int v22)), M21)))))) := by
  obtain ⟨σ, ν, nk, nw, τ, s⟩ := q
  obtain ⟨hJ, hT, hσ, h26, h24, h25⟩ := hP
  obtain ⟨v1, v2, v3, v4, v5, v6, v7, v8, v9, v10, v11, v12, v13⟩ := hV
  have e2 : ak_I M 484 2 = nI nw := (congrFun hσ 2).trans v4
  have fin : ∀ {N : ak_M} {u : Nat → Int32}, fr mPa M N → ro N = u → u 1 = nI nk → (∀ k, ak_I N 483 k = ak_I M 483 k) → fr mPa M (ak_sI (ak_sI N 483 7 0) 483 8 0) ∧ ro (ak_sI (ak_sI N 483 7 0) 483 8 0) = u ∧ ak_I (ak_sI (ak_sI N 483 7 0) 483 8 0) 483 7 = 0 ∧ ak_I (ak_sI (ak_sI N 483 7 0) 483 8 0) 483 8 = 0 ∧ (∀ k, k ≠ 7 → k ≠ 8 → ak_I (ak_sI (ak_sI N 483 7 0) 483 8 0) 483 k = ak_I M 483 k) ∧ rn X 168 [.ref 483] (ak_sI (ak_sI N 483 7 0) 483 8 0) (.inl (some (.int (nI nk))), ak_sI (ak_sI N 483 7 0) 483 8 0) := by
    intro N u f hu h1 hk
    have g := (f.st (p := 483) (k := 7) (v := 0) (by unfold mPa; omega)).st (p := 483) (k := 8) (v := 0) (by unfold mPa; omega)
    have er : ro (ak_sI (ak_sI N 483 7 0) 483 8 0) = u := ((mb_sIr (by decide)).trans (mb_sIr (by decide))).trans hu
    have s := sm_168 (X := X) g.1
    rw [er, h1] at s
    exact ⟨g, er, (mb_sIk (by decide)).trans mb_sIs, mb_sIs, fun k h7 h8 => ((mb_sIk h8).trans (mb_sIk h7)).trans (hk k), s⟩
  by_cases c : nw = 0
  · have e : ps_f (σ, ν, nk, nw, τ, s) = (rw3 σ 0 0 3 0, ν, nk, 1, τ, s) := if_pos c
    rw [e]
    have s160 := sm_160 (X := X) (nw := 0) hL (by show ak_I M 484 2 = nI 0; rw [e2, c]) (by decide) 0 3 0
    have fv : fr mPa M (mV M 0 0 3 0) := (mV_f hL).mo fun p k e => by unfold mA at e; unfold mPa; omega
    have k1 : rw3 σ 0 0 3 0 1 = nI nk := by rw [rw3_e (by decide)]; exact v3
    obtain ⟨a1, a2, a3, a4, a5, a6⟩ := fin fv (u := rw3 σ 0 0 3 0) (by rw [mV_ro, hσ]) k1 fun k => congrFun (mV_r (by decide)) k
    refine ⟨_, a1, a2, a3, a4, a5, fun r hr => ⟨2, ⟨rfl, rfl⟩, mb_y (by rw [e2, c]; rfl) ⟨_, fv.1, s160, fun N1 e1 N2 e2 => ?_⟩⟩⟩
    rw [e2, e1]
    exact ⟨_, _, a1.1, a6, hr⟩
  · have e : ps_f (σ, ν, nk, nw, τ, s) = (σ, ν, nk, nw, τ, s) := if_neg c
    rw [e]
    obtain ⟨a1, a2, a3, a4, a5, a6⟩ := fin (fr.rf hL) (u := σ) hσ v3 fun k => rfl
    refine ⟨_, a1, a2, a3, a4, a5, fun r hr => ⟨2, ⟨rfl, rfl⟩, mb_n (by rw [e2, show (0 : Int32) = nI 0 from rfl, mi_eq (by omega) (by decide)]; exact c) fun N1 e1 N2 e2 => ?_⟩⟩
    rw [e2, e1]
    exact ⟨_, _, a1.1, a6, hr⟩
/-- behind the loop: an error -/
theorem sm_291d (hL : ab_lay M) (d : dead e M) : ∃ M', fr (cQ 484) M M' ∧ (∀ k, k < 245 → ro M' k = ak_I M 487 k) ∧ sg X 291 (57, [some (.ref 483)], [], []) M (.inl (some (.int (-1))), M') := by
  have s0 := d_280 (X := X) hL d
  obtain ⟨M', r, f, h⟩ := sm_158 (X := X) (p := 487) (q := 484) hL r487 r484 (by decide)
  exact ⟨M', f, h, t_291_57 hL ⟨_, M, hL, s0, mb_y rfl ⟨_, M, hL, s0, mb_y rfl ⟨M', f.1, r, rfl⟩⟩⟩⟩
theorem sm_291l (hR : BR β n) : ∀ d (q : PS) (M0 M1 : ak_M), n - q.2.2.2.2.2 < d → fr mPa M0 M1 → (∀ p k, p = 487 ∨ (p = 483 ∧ (k = 0 ∨ k = 7 ∨ k = 8 ∨ k = 17)) → ak_I M1 p k = ak_I M0 p k) → Pm β n q M1 → PV q → match bnd (ps_l β n d q) (fun q => (.inr (ps_f q) : (Nat × Nat) ⊕ PS)) with
    | .inl e => ∃ M', sg X 291 (57, [some (.ref 483)], [], []) M1 (.inl (some (.int (-1))), M') ∧ fr mPa M0 M' ∧ dead e M' ∧ (∀ k, k < 245 → ro M' k = ak_I M0 487 k) ∧ ∀ k, k = 0 ∨ k = 7 ∨ k = 8 ∨ k = 17 → ak_I M' 483 k = ak_I M0 483 k
    | .inr q' => ∃ M', sg X 291 (57, [some (.ref 483)], [], []) M1 (.inl (some (.int (nI q'.2.2.1))), M') ∧ fr mPa M0 M' ∧ ro M' = q'.1 ∧ ak_I M' 483 24 = 0 ∧ ak_I M' 483 25 = (-1) ∧ ak_I M' 483 7 = 0 ∧ ak_I M' 483 8 = 0 ∧ ∀ k, k = 0 ∨ k = 17 → ak_I M' 483 k = ak_I M0 483 k
  | 0, q, M0, M1, hd, _, _, _, _ => absurd hd (Nat.not_lt_zero _)
  | d + 1, q, M0, M1, hd, f1, hk, hP, hV => by
    have hT : Tm β n q.2.2.2.2.2 M1 := by obtain ⟨σ, ν, nk, nw, τ, s⟩ := q; exact hP.2.1
    have h24 : ak_I M1 483 24 = 0 := by obtain ⟨σ, ν, nk, nw, τ, s⟩ := q; exact hP.2.2.2.2.1
    have h25 : ak_I M1 483 25 = (-1) := by obtain ⟨σ, ν, nk, nw, τ, s⟩ := q; exact hP.2.2.2.2.2
    have tf := tm_f β n q.2.2.2.2.2
    have s0 := a_280 (X := X) f1.1 h24
    have hsn := hT.1.1
    by_cases c : tkd β n q.2.2.2.2.2 = 0
    · have el : ps_l β n (d + 1) q = .inr q := if_pos c
      rw [el]
      obtain ⟨M', f, a1, a2, a3, a4, T⟩ := sm_291f (X := X) f1.1 hP hV
      refine ⟨M', t_291_57 f1.1 ⟨_, M1, f1.1, s0, mb_n (by decide) (mb_y (by rw [hT.2.2.2.1]; exact tf.1.mpr c) ⟨_, M1, f1.1, s0, mb_n (by decide) (T _ rfl)⟩)⟩, f1.tr f, a1, by rw [a4 24 (by decide) (by decide)]; exact h24, by rw [a4 25 (by decide) (by decide)]; exact h25, a2, a3, fun k h => ?_⟩
      rw [a4 k (by omega) (by omega)]
      exact hk 483 k (Or.inr ⟨rfl, by omega⟩)
    · have el : ps_l β n (d + 1) q = bnd (ps_2 β n q) (ps_l β n d) := if_neg c
      rw [el]
      obtain ⟨r1, ho, hr⟩ := sm_290 (X := X) f1.1 hR hP hV
      have c0 : ¬ ak_I M1 483 21 = 0 := by rw [hT.2.2.2.1]; exact fun e => c (tf.1.mp e)
      have up : ∀ {A B : ak_M}, fr mA A B → fr mPa A B := fun f => f.mo fun p k e => by unfold mA at e; unfold mPa; omega
      cases e2 : ps_2 β n q with
      | inl e =>
        rw [e2] at ho
        obtain ⟨N, rfl, fN, dN⟩ := ho
        obtain ⟨M', f, h, g⟩ := sm_291d (X := X) fN.1 dN
        show ∃ M', _ ∧ _
        have dk : ∀ k, ak_I M' 483 k = ak_I N 483 k := fun k => congrFun (f.row fun j e => by unfold cQ at e; omega) k
        refine ⟨M', t_291_57 f1.1 ⟨_, M1, f1.1, s0, mb_n (by decide) (mb_n c0 ⟨N, fN.1, hr, g⟩)⟩, (f1.tr (up fN)).tr (f.mo fun p k e => Or.inl e.1), ⟨by rw [dk]; exact dN.1, by rw [dk]; exact dN.2.1, dN.2.2⟩, fun k hk' => ?_, fun k h' => ?_⟩
        · rw [h k hk', fN.row (p := 487) fun j e => by unfold mA at e; omega]
          exact hk 487 k (Or.inl rfl)
        · rw [dk, fN.2.1 483 k fun e => by unfold mA at e; omega]
          exact hk 483 k (Or.inr ⟨rfl, h'⟩)
      | inr p =>
        rw [e2] at ho
        obtain ⟨N, rfl, fN, hPN⟩ := ho
        obtain ⟨hV2, hlt⟩ := ps_2_i hV e2
        have ih := sm_291l hR d p M0 N (by
          have : p.2.2.2.2.2 ≤ n := by
            obtain ⟨σ, ν, nk, nw, τ, s⟩ := p
            exact hPN.2.1.1.1
          omega) (f1.tr (up fN)) (fun u k h => by
          rw [fN.2.1 u k fun e => by unfold mA at e; omega]
          exact hk u k h) hPN hV2
        have st : ∀ {r : ak_O × ak_M}, sg X 291 (57, [some (.ref 483)], [], []) N r → sg X 291 (57, [some (.ref 483)], [], []) M1 r := fun g => t_291_57 f1.1 ⟨_, M1, f1.1, s0, mb_n (by decide) (mb_n c0 ⟨N, fN.1, hr, g⟩)⟩
        show match bnd (ps_l β n d p) (fun q => (.inr (ps_f q) : (Nat × Nat) ⊕ PS)) with
          | .inl e => _
          | .inr q' => _
        cases e3 : bnd (ps_l β n d p) (fun q => (.inr (ps_f q) : (Nat × Nat) ⊕ PS)) with
        | inl e =>
          rw [e3] at ih
          obtain ⟨M', g, m'⟩ := ih
          exact ⟨M', st g, m'⟩
        | inr q' =>
          rw [e3] at ih
          obtain ⟨M', g, m'⟩ := ih
          exact ⟨M', st g, m'⟩
theorem mp_291 (hL : ab_lay M) (hI : Im β n M) (hR : BR β n) : match ps_a β n (rz0 (ro M)) with
    | .inl e => ∃ M', rn X 291 [.ref 483] M (.inl (some (.int (-1))), M') ∧ fr mPa M M' ∧ Im β 0 M' ∧ ak_I M' 483 0 = 0 ∧ dead e M' ∧ q245 (ro M') (ro M) ∧ ak_I M' 483 7 = ak_I M 483 7 ∧ ak_I M' 483 8 = ak_I M 483 8
    | .inr q => ∃ M', rn X 291 [.ref 483] M (.inl (some (.int (nI q.2.2.1))), M') ∧ fr mPa M M' ∧ Im β 0 M' ∧ ak_I M' 483 0 = 0 ∧ ak_I M' 483 24 = 0 ∧ ak_I M' 483 25 = (-1) ∧ ro M' = q.1 ∧ ak_I M' 483 7 = 0 ∧ ak_I M' 483 8 = 0 := by
  have h7 := hI.1
  obtain ⟨M3, hM3⟩ : ∃ M3, M3 = ak_sI (ak_sI (ak_sI M 483 0 0) 483 24 0) 483 25 (-1) := ⟨_, rfl⟩
  have f3 : fr (fun p k => p = 483 ∧ (k = 0 ∨ k = 24 ∨ k = 25)) M M3 := by
    rw [hM3]
    have g0 : fr (fun p k => p = 483 ∧ (k = 0 ∨ k = 24 ∨ k = 25)) M M := fr.rf hL
    exact ((g0.st ⟨rfl, Or.inl rfl⟩).st ⟨rfl, Or.inr (Or.inl rfl)⟩).st ⟨rfl, Or.inr (Or.inr rfl)⟩
  obtain ⟨M4, r4, f4, q4⟩ := sm_158 (X := X) (p := 484) (q := 487) f3.1 r484 r487 (by decide)
  obtain ⟨M5, r5, f5, e5⟩ := sm_159 (X := X) f4.1
  have ro4 : ro M4 = ro M := by
    show ak_I M4 484 = ak_I M 484
    rw [f4.row fun k e => by unfold cQ at e; omega, f3.row fun k e => by omega]
  rw [ro4] at e5
  have k5 : ∀ k, ak_I M5 483 k = ak_I M3 483 k := fun k => by
    rw [f5.row (p := 483) fun j e => by omega, f4.row (p := 483) fun j e => by unfold cQ at e; omega]
  obtain ⟨M9, hM9⟩ : ∃ M9, M9 = ak_sI (ak_sI (ak_sI (ak_sI M5 483 26 0) 483 18 (nI n)) 483 17 0) 483 19 0 := ⟨_, rfl⟩
  have f9 : fr (fun p k => p = 483 ∧ (k = 17 ∨ k = 18 ∨ k = 19 ∨ k = 26)) M5 M9 := by
    rw [hM9]
    have g0 : fr (fun p k => p = 483 ∧ (k = 17 ∨ k = 18 ∨ k = 19 ∨ k = 26)) M5 M5 := fr.rf f5.1
    exact (((g0.st ⟨rfl, by decide⟩).st ⟨rfl, by decide⟩).st ⟨rfl, by decide⟩).st ⟨rfl, by decide⟩
  have e495 : ak_I M9 495 = ak_I M 495 := by
    rw [f9.row fun k e => by omega, f5.row fun k e => by omega, f4.row fun k e => by unfold cQ at e; omega, f3.row fun k e => by omega]
  have J9 : Jm β n M9 := ⟨h7, by rw [hM9, mb_sIk (by decide), mb_sIk (by decide)]; exact mb_sIs, fun j hj => by rw [e495]; exact hI.2.2 j hj⟩
  obtain ⟨M10, r10, f10, t10⟩ := sm_275 (X := X) (p := 0) f9.1 J9 hR (Nat.zero_le _) (by rw [hM9]; exact mb_sIs)
  have g10 : fr mPa M M10 := by
    refine ((((f3.mo fun p k e => ?_).tr (f4.mo fun p k e => ?_)).tr (f5.mo fun p k e => ?_)).tr (f9.mo fun p k e => ?_)).tr (f10.mo fun p k e => ?_)
    · unfold mPa; omega
    · unfold cQ at e; unfold mPa; omega
    · unfold mPa; omega
    · unfold mPa; omega
    · unfold mT at e; unfold mPa; omega
  have k10 : ∀ k, k < 17 ∨ 23 < k → k ≠ 26 → ak_I M10 483 k = ak_I M3 483 k := fun k h h' => by
    rw [f10.2.1 483 k fun e => by unfold mT at e; omega, f9.2.1 483 k fun e => by omega, k5]
  have b0 : ak_I M3 483 0 = 0 := by rw [hM3, mb_sIk (by decide), mb_sIk (by decide)]; exact mb_sIs
  have b24 : ak_I M3 483 24 = 0 := by rw [hM3, mb_sIk (by decide)]; exact mb_sIs
  have b25 : ak_I M3 483 25 = (-1) := by rw [hM3]; exact mb_sIs
  have z17 : ak_I M10 483 17 = 0 := by rw [f10.2.1 483 17 fun e => by unfold mT at e; omega, hM9, mb_sIk (by decide)]; exact mb_sIs
  have hP : Pm β n (ps_0 β n (rz0 (ro M))) M10 := by
    refine ⟨mT_J J9 f10, t10, ?_, ?_, ?_, ?_⟩
    · show ak_I M10 484 = _
      rw [f10.row fun k e => by unfold mT at e; omega, f9.row fun k e => by omega]
      exact e5
    · rw [f10.2.1 483 26 fun e => by unfold mT at e; omega, hM9, mb_sIk (by decide), mb_sIk (by decide), mb_sIk (by decide)]
      exact mb_sIs
    · rw [k10 24 (by omega) (by decide)]; exact b24
    · rw [k10 25 (by omega) (by decide)]; exact b25
  have H := sm_291l (X := X) hR 701 (ps_0 β n (rz0 (ro M))) M10 M10 (by show n - _ < 701; omega) (fr.rf g10.1) (fun _ _ _ => rfl) hP (PV_0 (rz0_q _))
  have go : ∀ {r : ak_O × ak_M}, sg X 291 (57, [some (.ref 483)], [], []) M10 r → rn X 291 [.ref 483] M r := by
    intro r h
    refine t_291 hL fun N1 e1 N2 e2 N3 e3 => ?_
    rw [e2, e1, ← hM3] at e3
    rw [e3]
    refine ⟨M4, f4.1, r4, M5, f5.1, r5, fun N6 e6 N7 e7 N8 e8 N9 e9 => ?_⟩
    have a17 : ak_I N6 483 17 = nI n := by
      rw [e6, mb_sIk (by decide), k5, f3.2.1 483 17 fun e => by omega]
      exact hI.2.1
    rw [a17] at e7
    rw [e8, e7, e6, ← hM9] at e9
    rw [e9]
    exact ⟨M10, f10.1, r10, h⟩
  have z0 : ∀ {N : ak_M}, ak_I N 483 17 = 0 → Im β 0 N := fun h => ⟨Nat.zero_le _, h, fun j hj => absurd hj (Nat.not_lt_zero _)⟩
  have p7 : ∀ k, k = 7 ∨ k = 8 → ak_I M10 483 k = ak_I M 483 k := fun k h => by
    rw [k10 k (by omega) (by omega), f3.2.1 483 k fun e => by omega]
  unfold ps_a
  cases ea : bnd (ps_l β n 701 (ps_0 β n (rz0 (ro M)))) (fun q => (.inr (ps_f q) : (Nat × Nat) ⊕ PS)) with
  | inl e =>
    rw [ea] at H
    obtain ⟨M', g, f, d, q, k⟩ := H
    refine ⟨M', go g, g10.tr f, z0 ((k 17 (by omega)).trans z17), ?_, d, fun i hi => ?_, (k 7 (by omega)).trans (p7 7 (by omega)), (k 8 (by omega)).trans (p7 8 (by omega))⟩
    · rw [k 0 (by omega), k10 0 (by omega) (by decide)]; exact b0
    · rw [q i hi, f10.row (p := 487) fun j e => by unfold mT at e; omega, f9.row (p := 487) fun j e => by omega, f5.row (p := 487) fun j e => by omega, q4 i hi]
      exact congrFun (f3.row fun j e => by omega) i
  | inr q =>
    rw [ea] at H
    obtain ⟨M', g, f, a1, a2, a3, a4, a5, k⟩ := H
    refine ⟨M', go g, g10.tr f, z0 ((k 17 (by omega)).trans z17), ?_, a2, a3, a1, a4, a5⟩
    rw [k 0 (by omega), k10 0 (by omega) (by decide)]
    exact b0
end SMP
