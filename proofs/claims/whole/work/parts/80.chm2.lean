/-! the model's changes: a new line, the wind, the settings, undoing, keeping and bringing back -/
section SMD
variable {X : ak_X} {M N M1 M2 : ak_M} {n nk nw ne k : Nat} {σ τ : Nat → Int32} {ρ : Nat → Nat → Int32}
theorem mk_126 (h : mk M ρ n τ M1) (hk : k < 10) (s t v : Int32) : ∃ M2, sg X 265 (126, [some (.ref 483), some (.int (nI k)), some (.int s), some (.int t), some (.int v)], [], []) M1 (.inl (some (.int v)), M2) ∧ (fr mo_ch M M2 ∧ ro M2 = mo_r6 τ k s t ∧ ak_I M2 483 0 = 0 ∧ Hm (psh ρ n (ro M)) (pn n) M2) := by
  obtain ⟨r1, m1⟩ := mk_lay (X := X) h hk (w := 8) (by decide) (v := s)
  obtain ⟨r2, m2⟩ := mk_lay (X := X) m1 hk (w := 9) (by decide) (v := t)
  obtain ⟨r3, m3⟩ := mk_lay (X := X) m2 hk (w := 10) (by decide) (v := 0)
  obtain ⟨r4, m4⟩ := mk_lay (X := X) m3 hk (w := 6) (by decide) (v := 10)
  obtain ⟨r5, m5⟩ := mk_lay (X := X) m4 hk (w := 12) (by decide) (v := -1)
  obtain ⟨r6, m6⟩ := mk_lay (X := X) m5 hk (w := 13) (by decide) (v := -1)
  obtain ⟨M2, r7, m7⟩ := mk_dn (X := X) m6 v
  exact ⟨M2, t_265_126 h.1.1 _ _ _ _ ⟨_, m1.1.1, r1, _, m2.1.1, r2, _, m3.1.1, r3, _, m4.1.1, r4, _, m5.1.1, r5, _, m6.1.1, r6, _, M2, m7.1.1, r7, rfl⟩, m7⟩
/-- after the conditions: the way to the last part -/
theorem mk_265 (h : mk M ρ n σ M1) (hk : k < 10) (s t : Int32) : ∃ M2, (fr mo_ch M M2 ∧ ro M2 = mo_rst σ k s t ∧ ak_I M2 483 0 = 0 ∧ Hm (psh ρ n (ro M)) (pn n) M2) ∧ ((if kf σ k 0 = 4 then (∃ (M18 : ak_M), ab_lay M18 ∧ rn X 172 [.ref 483, .int (nI k), .int 0, .int 1] M1 (.inl (none), M18) ∧ (∃ (M19 : ak_M), ab_lay M19 ∧ rn X 172 [.ref 483, .int (nI k), .int 3, .int 0] M18 (.inl (none), M19) ∧ (∃ (M20 : ak_M), ab_lay M20 ∧ rn X 259 [.ref 483, .int (nI k)] M19 (.inl (none), M20) ∧ sg X 265 (126, [some (.ref 483), some (.int (nI k)), some (.int s), some (.int t), some (.int (kf σ k 10))], [], []) M20 (.inl (some (.int (kf σ k 10))), M2)))) else sg X 265 (126, [some (.ref 483), some (.int (nI k)), some (.int s), some (.int t), some (.int (kf σ k 10))], [], []) M1 (.inl (some (.int (kf σ k 10))), M2))) := by
  unfold mo_rst mo_r0
  by_cases d : kf σ k 0 = 4
  · rw [if_pos d]
    obtain ⟨r2, m2⟩ := mk_lay (X := X) h hk (w := 0) (by decide) (v := 1)
    obtain ⟨r3, m3⟩ := mk_lay (X := X) m2 hk (w := 3) (by decide) (v := 0)
    obtain ⟨M4, r4, m4⟩ := mk_go (X := X) m3 hk
    obtain ⟨M5, r5, m5⟩ := mk_126 (X := X) m4 hk s t (kf σ k 10)
    exact ⟨M5, m5, mb_y d ⟨_, m2.1.1, r2, _, m3.1.1, r3, M4, m4.1.1, r4, r5⟩⟩
  · rw [if_neg d]
    obtain ⟨M5, r5, m5⟩ := mk_126 (X := X) h hk s t (kf σ k 10)
    exact ⟨M5, m5, mb_n d r5⟩
theorem mc_265 (hL : ab_lay M) (hv : vs (ro M) nk nw ne) (hH : Hm ρ n M) (x s t : Int32) : mc X 265 [.int x, .int s, .int t] M ρ n cd3 (sc_134 (ro M) x s t) := by
  have h10 := hv.1.1
  have l1 := to_L hL 0
  have l2 := to_L l1 0
  have l3 := to_L l2 0
  have out : ∀ {o0 o1 o2 o3 o4 : Option Value} {N : ak_M}, ab_lay N → sg X 265 (82, [o0, o1, o2, o3, o4], [], []) N (.inl (some (.int 0)), N) := fun h => t_265_82 h 0 0 0 _ _ _ _ _ rfl
  unfold sc_134
  by_cases h0 : mo_isK (ro M) x = true
  · rw [if_pos h0]
    by_cases h1 : in32 s 0 9 = true
    · rw [if_pos h1]
      by_cases h2 : in32 t 1 99 = true
      · rw [if_pos h2]
        obtain ⟨k, hk, rfl⟩ := (isK_of hv.1).mp h0
        have hk10 : k < 10 := by omega
        rw [kN_n (by omega)]
        have s0 := sm_171 (X := X) (w := 0) l2 hk10 (by decide)
        rw [to_r, to_r] at s0
        by_cases d : kf (ro M) k 0 = 1 ∨ kf (ro M) k 0 = 4
        · rw [if_pos d]
          obtain ⟨M1, r1, m1⟩ := mk_st (X := X) (ρ := ρ) (((to_f hL 0).tr (to_f l1 0)).tr (to_f l2 0)) (to_0 _) hH
          have s10 := mk_71 (X := X) m1 hk10 (w := 10) (by decide)
          have s00 := mk_71 (X := X) m1 hk10 (w := 0) (by decide)
          obtain ⟨M2, m2, T⟩ := mk_265 (X := X) m1 hk10 s t
          have head : ∀ {r : ak_O × ak_M}, _ → rn X 265 [.ref 483, .int (nI k), .int s, .int t] M r := fun {r} h => t_265 hL _ _ _ ⟨_, M, hL, sm_169 hL, _, _, l1, sm_155y hL h0, mb_n (by1 h0) ⟨_, _, l1, jm_in32 (by rfl) (by rfl), mb_n (by1 h1) ⟨_, _, l1, jm_in32 (by rfl) (by rfl), mb_n (by1 h2) ⟨_, _, l2, sm_156y l1 (b := true) rfl, mb_n (by decide) ⟨_, _, l2, s0, h⟩⟩⟩⟩⟩
          by_cases d1 : kf (ro M) k 0 = 1
          · exact ⟨M2, head (mb_y d1 ⟨_, _, l3, sm_156y l2 (b := true) rfl, mb_n (by decide) ⟨M1, m1.1.1, r1, _, M1, m1.1.1, s10, _, M1, m1.1.1, s00, T⟩⟩), m2⟩
          · exact ⟨M2, head (mb_n d1 ⟨_, _, l2, s0, mb_y (d.resolve_left d1) ⟨_, _, l3, sm_156y l2 (b := true) rfl, mb_n (by decide) ⟨M1, m1.1.1, r1, _, M1, m1.1.1, s10, _, M1, m1.1.1, s00, T⟩⟩⟩), m2⟩
        · rw [if_neg d]
          exact mc_e (t_265 hL _ _ _ ⟨_, M, hL, sm_169 hL, _, _, l1, sm_155y hL h0, mb_n (by1 h0) ⟨_, _, l1, jm_in32 (by rfl) (by rfl), mb_n (by1 h1) ⟨_, _, l1, jm_in32 (by rfl) (by rfl), mb_n (by1 h2) ⟨_, _, l2, sm_156y l1 (b := true) rfl, mb_n (by decide) ⟨_, _, l2, s0, mb_n (fun e => d (Or.inl e)) ⟨_, _, l2, s0, mb_n (fun e => d (Or.inr e)) ⟨_, _, to_L l2 3, sm_156n l2 (b := false) (by decide), mb_y rfl (out (to_L l2 3))⟩⟩⟩⟩⟩⟩⟩) (((to_f hL 0).tr (to_f l1 0)).tr (to_f l2 3)) (to_0 _)
      · rw [if_neg h2]
        exact mc_e (t_265 hL _ _ _ ⟨_, M, hL, sm_169 hL, _, _, l1, sm_155y hL h0, mb_n (by1 h0) ⟨_, _, l1, jm_in32 (by rfl) (by rfl), mb_n (by1 h1) ⟨_, _, l1, jm_in32 (by rfl) (by rfl), mb_y (bn1 h2) ⟨_, _, to_L l1 2, sm_156n l1 (b := false) (by decide), mb_y rfl (out (to_L l1 2))⟩⟩⟩⟩) ((to_f hL 0).tr (to_f l1 2)) (to_0 _)
    · rw [if_neg h1]
      exact mc_e (t_265 hL _ _ _ ⟨_, M, hL, sm_169 hL, _, _, l1, sm_155y hL h0, mb_n (by1 h0) ⟨_, _, l1, jm_in32 (by rfl) (by rfl), mb_y (bn1 h1) ⟨_, _, to_L l1 2, sm_156n l1 (b := false) (by decide), mb_y rfl (out (to_L l1 2))⟩⟩⟩) ((to_f hL 0).tr (to_f l1 2)) (to_0 _)
  · rw [if_neg h0]
    exact mc_e (t_265 hL _ _ _ ⟨_, M, hL, sm_169 hL, _, _, to_L hL 1, sm_155n hL h0, mb_y (bn1 h0) (out (to_L hL 1))⟩) (to_f hL 1) (to_0 _)
theorem sm_266 (hL : ab_lay M) {x y : Int32} : rn X 266 [.int x, .int y] M (.inl (some (.int (bI (in32 x (-9) 9 && in32 y (-9) 9)))), M) := by
  have j : ∀ z : Int32, rn X 157 [.long z.toInt64, .long (-9), .long 9] M (.inl (some (.int (bI (in32 z (-9) 9)))), M) := fun z => jm_in32 (a := -9) (b := 9) (by rfl) (by rfl)
  refine t_266 hL _ _ ⟨_, M, hL, j x, ?_⟩
  cases in32 x (-9) 9
  · exact mb_y rfl rfl
  · refine mb_n (by decide) ⟨_, M, hL, j y, ?_⟩
    cases in32 y (-9) 9
    · exact mb_y rfl rfl
    · exact mb_n (by decide) rfl
theorem mc_267 (hL : ab_lay M) (hv : vs (ro M) nk nw ne) (hH : Hm ρ n M) (x a b : Int32) : mc X 267 [.int x, .int a, .int b] M ρ n (cdI 0) (sc_135 (ro M) x a b) := by
  have h4 := hv.1.2.1.2
  have e2 : ro M 2 = nI nw := hv.1.2.2.2.2.1
  have l1 := to_L hL 0
  have l2 := to_L l1 0
  have j1 : rn X 157 [.long x.toInt64, .long 0, .long ((ak_I M 484 2 - 1).toInt64)] M (.inl (some (.int (bI (in32 x 0 (ro M 2 - 1))))), M) := jm_in32 (by rfl) (by rfl)
  unfold sc_135
  by_cases h0 : in32 x 0 (ro M 2 - 1) = true
  · rw [if_pos h0]
    by_cases h1 : (in32 a (-9) 9 && in32 b (-9) 9) = true
    · rw [if_pos h1]
      have h0' := h0
      rw [e2] at h0'
      obtain ⟨i, hi, rfl⟩ := (in_nk (n := nw) (by omega)).mp h0'
      rw [kN_n (by omega)]
      obtain ⟨M1, r1, m1⟩ := mk_st (X := X) (ρ := ρ) ((to_f hL 0).tr (to_f l1 0)) (to_0 _) hH
      have s := sm_179 (X := X) m1.1.1 (k := i) (by omega)
      rw [m1.2.1] at s
      have m2 := mk_wr m1 (i := 11 + 3 * i + 1) (v := a)
      have m3 := mk_wr m2 (i := 11 + 3 * i + 2) (v := b)
      obtain ⟨M6, r6, m6⟩ := mk_dn (X := X) m3 (mo_force (ro M) i)
      have ix : ∀ w, w < 3 → ab_ix (11 + 3 * nI i + nI w) (11 + 3 * i + w) 245 := fun w hw => by
        rw [show (11 : Int32) = nI 11 from rfl, show (3 : Int32) = nI 3 from rfl, mi_mul, mi_add, mi_add]
        exact mb_ix (by omega) (by decide)
      refine ⟨M6, t_267 hL _ _ _ ⟨2, ⟨rfl, rfl⟩, _, M, hL, j1, _, _, l1, sm_155y hL h0, mb_n (by1 h0) ⟨_, _, l1, sm_266 l1, _, _, l2, sm_156y l1 h1, mb_n (by1 h1) ⟨M1, m1.1.1, r1, _, M1, m1.1.1, s, _, ix 1 (by decide), fun N1 e1 => ⟨_, ix 2 (by decide), fun N2 e2 => ?_⟩⟩⟩⟩, m6⟩
      subst e1 e2
      exact ⟨_, M6, m6.1.1, r6, rfl⟩
    · rw [if_neg h1]
      exact mc_e (t_267 hL _ _ _ ⟨2, ⟨rfl, rfl⟩, _, M, hL, j1, _, _, l1, sm_155y hL h0, mb_n (by1 h0) ⟨_, _, l1, sm_266 l1, _, _, to_L l1 2, sm_156n l1 h1, mb_y (bn1 h1) rfl⟩⟩) ((to_f hL 0).tr (to_f l1 2)) (to_0 _)
  · rw [if_neg h0]
    exact mc_e (t_267 hL _ _ _ ⟨2, ⟨rfl, rfl⟩, _, M, hL, j1, _, _, to_L hL 1, sm_155n hL h0, mb_y (bn1 h0) rfl⟩) (to_f hL 1) (to_0 _)
theorem sm_268 (hL : ab_lay M) {w : Nat} (hw : w < 6) : rn X 268 [.int (nI w)] M (.inl (some (.int (lo6 w))), M) ∧ rn X 269 [.int (nI w)] M (.inl (some (.int (hi6 w))), M) := by
  rcases (show w = 0 ∨ w = 1 ∨ w = 2 ∨ w = 3 ∨ w = 4 ∨ w = 5 by omega) with rfl | rfl | rfl | rfl | rfl | rfl
  · exact ⟨t_268 hL _ (mb_n (by decide) rfl), t_269 hL _ (mb_y rfl rfl)⟩
  · exact ⟨t_268 hL _ (mb_n (by decide) rfl), t_269 hL _ (mb_n (by decide) (mb_y rfl rfl))⟩
  · exact ⟨t_268 hL _ (mb_n (by decide) rfl), t_269 hL _ (mb_n (by decide) (mb_n (by decide) (mb_y rfl rfl)))⟩
  · exact ⟨t_268 hL _ (mb_y rfl rfl), t_269 hL _ (mb_n (by decide) (mb_n (by decide) (mb_n (by decide) (mb_y rfl rfl))))⟩
  · exact ⟨t_268 hL _ (mb_n (by decide) rfl), t_269 hL _ (mb_n (by decide) (mb_n (by decide) (mb_n (by decide) (mb_n (by decide) rfl))))⟩
  · exact ⟨t_268 hL _ (mb_n (by decide) rfl), t_269 hL _ (mb_n (by decide) (mb_n (by decide) (mb_n (by decide) (mb_n (by decide) rfl))))⟩
theorem mc_270 (hL : ab_lay M) (hH : Hm ρ n M) (x v : Int32) : mc X 270 [.int x, .int v] M ρ n (cdI 1) (sc_136 (ro M) x v) := by
  have l1 := to_L hL 0
  unfold sc_136
  by_cases h0 : in32 x 0 5 = true
  · rw [if_pos h0]
    obtain ⟨w, hw, rfl⟩ := in_5 h0
    rw [kN_n (by omega)]
    obtain ⟨j1, j2⟩ := sm_268 (X := X) hL (w := w) (by omega)
    by_cases h1 : in32 v (lo6 w) (hi6 w) = true
    · rw [if_pos h1]
      obtain ⟨M1, r1, m1⟩ := mk_st (X := X) (ρ := ρ) (to_f hL 0) (to_0 _) hH
      have s := sm_174 (X := X) m1.1.1 (w := w) (by omega)
      rw [m1.2.1] at s
      have m2 := mk_wr m1 (i := 3 + w) (v := v)
      obtain ⟨M6, r6, m6⟩ := mk_dn (X := X) m2 (ro M (3 + w))
      refine ⟨M6, t_270 hL _ _ ⟨_, M, hL, jm_in32 (by rfl) (by rfl), mb_n (by1 h0) ⟨_, M, hL, j1, _, M, hL, j2, _, M, hL, jm_in32 (by rfl) (by rfl), mb_n (by1 h1) ⟨_, _, l1, sm_155y hL (b := true) rfl, mb_n (by decide) ⟨M1, m1.1.1, r1, _, M1, m1.1.1, s, 3 + w, ?_, fun N e => ?_⟩⟩⟩⟩, m6⟩
      · rw [show (3 : Int32) = nI 3 from rfl, mi_add]
        exact mb_ix (by omega) (by decide)
      · subst e
        exact ⟨_, M6, m6.1.1, r6, rfl⟩
    · rw [if_neg h1]
      exact mc_e (t_270 hL _ _ ⟨_, M, hL, jm_in32 (by rfl) (by rfl), mb_n (by1 h0) ⟨_, M, hL, j1, _, M, hL, j2, _, M, hL, jm_in32 (by rfl) (by rfl), mb_y (bn1 h1) ⟨_, _, to_L hL 1, sm_155n hL (b := false) (by decide), mb_y rfl rfl⟩⟩⟩) (to_f hL 1) (to_0 _)
  · rw [if_neg h0]
    exact mc_e (t_270 hL _ _ ⟨_, M, hL, jm_in32 (by rfl) (by rfl), mb_y (bn1 h0) ⟨_, _, to_L hL 1, sm_155n hL (b := false) (by decide), mb_y rfl rfl⟩⟩) (to_f hL 1) (to_0 _)
/-- undoing: the row is the last that was kept -/
theorem mu_163 (hL : ab_lay M) (hH : Hm ρ (n + 1) M) : ∃ M', rn X 163 [.ref 483] M (.inl (some (.int (nI n))), M') ∧ fr mo_ch M M' ∧ q245 (ro M') (ρ n) ∧ ak_I M' 483 0 = 0 ∧ Hm ρ n M' := by
  obtain ⟨h1, h2, h3⟩ := hH
  have l1 := to_L hL 0
  have e7 : ak_I (to M 0) 483 7 = nI (n + 1) := (mb_sIk (by decide)).trans h2
  generalize g1 : ak_sI (to M 0) 483 7 (nI n) = M1
  have f1 : fr mo_ch M M1 := g1 ▸ ((to_f hL 0).mo fun _ _ => q1_ch).st (Or.inr (Or.inr (Or.inr (Or.inr ⟨rfl, by decide⟩))))
  have a7 : ak_I M1 483 7 = nI n := g1 ▸ mb_sIs
  have a0 : ak_I M1 483 0 = 0 := by rw [← g1, mb_sIk (by decide)]; exact to_0 _
  have a9 : ak_I M1 489 = ak_I M 489 := by rw [← g1, mb_sIr (by decide)]; exact mb_sIr (by decide)
  have H : ∀ i, i ≤ 245 → ∀ M2, fr (fun p _ => p = 484) M1 M2 → (∀ j, j < i → ak_I M2 484 j = ρ n j) → ∃ M', sg X 163 (33, [some (.ref 483), some (.int (nI i))], [], []) M2 (.inl (some (.int (nI n))), M') ∧ fr mo_ch M M' ∧ q245 (ro M') (ρ n) ∧ ak_I M' 483 0 = 0 ∧ Hm ρ n M' := by
    refine mb_up ?_ ?_
    · intro M2 f2 b
      have c3 : ak_I M2 483 = ak_I M1 483 := f2.row fun k (e : 483 = 484) => absurd e (by decide)
      have c9 : ak_I M2 489 = ak_I M1 489 := f2.row fun k (e : 489 = 484) => absurd e (by decide)
      refine ⟨M2, t_163_33 f2.1 _ (mb_y (Int32.le_refl _) (by rw [c3, a7])), f1.tr (f2.mo fun _ _ e => Or.inl e), b, by rw [c3]; exact a0, by omega, by rw [c3]; exact a7, fun j hj k hk => ?_⟩
      rw [c9, a9]
      exact h3 j (by omega) k hk
    · intro i hi ih M2 f2 b
      have c3 : ak_I M2 483 7 = nI n := (congrFun (f2.row fun k (e : 483 = 484) => absurd e (by decide)) 7).trans a7
      have c9 : ak_I M2 489 (245 * n + i) = ρ n i := by
        rw [f2.row fun k (e : 489 = 484) => absurd e (by decide), a9]
        exact h3 n (by omega) i hi
      obtain ⟨M', h', m'⟩ := ih (ak_sI M2 484 i (ak_I M2 489 (245 * n + i))) (f2.st rfl) (fun j hj => by
        by_cases c : j = i
        · rw [c, mb_sIs, c9]
        · rw [mb_sIk c]; exact b j (by omega))
      refine ⟨M', t_163_33 f2.1 _ (mb_n (by rw [show (245 : Int32) = nI 245 from rfl, mi_le (by omega) (by omega)]; omega) ⟨245 * n + i, ?_, i, mb_ix hi (by decide), fun N e => ?_⟩), m'⟩
      · rw [c3, show (245 : Int32) = nI 245 from rfl, mi_mul, mi_add]
        exact mb_ix (by omega) (by decide)
      · rw [e, mi_s]
        exact h'
  obtain ⟨M', h', m'⟩ := H 0 (Nat.zero_le _) M1 (fr.rf f1.1) fun j hj => absurd hj (Nat.not_lt_zero _)
  refine ⟨M', t_163 hL (mb_n (by rw [h2, show (0 : Int32) = nI 0 from rfl, mi_le (by omega) (by omega)]; omega) ⟨_, _, l1, sm_155y hL (b := true) rfl, mb_n (by decide) fun N e => ?_⟩), m'⟩
  rw [e7, mi_p] at e
  obtain rfl := e.trans g1
  exact h'
theorem mu_163n (hL : ab_lay M) (hH : Hm ρ 0 M) : rn X 163 [.ref 483] M (.inl (some (.int 0)), to M 1) :=
  t_163 hL (mb_y (by rw [hH.2.1]; decide) ⟨_, _, to_L hL 1, sm_155n hL (b := false) (by decide), mb_y rfl rfl⟩)
def mo_sv (p k : Nat) : Prop := p = 488 ∨ (p = 483 ∧ (k = 0 ∨ k = 8))
theorem mu_164 (hL : ab_lay M) : ∃ M', rn X 164 [.ref 483] M (.inl (some (.int (ro M 0))), M') ∧ fr mo_sv M M' ∧ q245 (ak_I M' 488) (ro M) ∧ ak_I M' 483 8 = 1 ∧ ak_I M' 483 0 = 0 := by
  have f1 : fr mo_sv M (to M 0) := (to_f hL 0).mo (S := mo_q1) (T := fun p k => mo_q1 p k) (fun _ _ h => h) |> fun _ => (fr.rf hL).st (Or.inr ⟨rfl, Or.inl rfl⟩)
  obtain ⟨M2, r2, f2, e2⟩ := sm_158 (X := X) (to_L hL 0) r484 r488 (by decide)
  rw [show ak_I (to M 0) 484 = ro M from to_r 0] at e2
  have f3 : fr mo_sv M (ak_sI M2 483 8 1) := (f1.tr (f2.mo fun _ _ h => Or.inl h.1)).st (Or.inr ⟨rfl, Or.inr rfl⟩)
  refine ⟨_, t_164 hL fun N e => ?_, f3, fun k hk => by rw [mb_sIr (by decide)]; exact e2 k hk, mb_sIs, ?_⟩
  · subst e
    refine ⟨M2, f2.1, r2, fun N e => ⟨0, ⟨rfl, rfl⟩, ?_⟩⟩
    subst e
    rw [f3.row (p := 484) fun k h => by unfold mo_sv at h; omega]
  · rw [mb_sIk (by decide), f2.row fun k h => absurd h.1 (by decide)]
    exact to_0 _
theorem mu_165 (hL : ab_lay M) (hH : Hm ρ n M) (h8 : ak_I M 483 8 = 1) : ∃ M', rn X 165 [.ref 483] M (.inl (some (.int (ak_I M 488 0))), M') ∧ fr mo_ch M M' ∧ q245 (ro M') (ak_I M 488) ∧ ak_I M' 483 0 = 0 ∧ Hm ρ 0 M' := by
  have l1 := to_L hL 0
  obtain ⟨M2, r2, f2, e2⟩ := sm_158 (X := X) l1 r488 r484 (by decide)
  rw [show ak_I (to M 0) 488 = ak_I M 488 from mb_sIr (by decide)] at e2
  have f3 : fr mo_ch M (ak_sI M2 483 7 0) := (((to_f hL 0).mo fun _ _ => q1_ch).tr (f2.mo fun _ _ h => Or.inl h.1)).st (Or.inr (Or.inr (Or.inr (Or.inr ⟨rfl, by decide⟩))))
  refine ⟨_, t_165 hL ⟨_, _, l1, by rw [h8]; exact sm_155y hL (b := true) rfl, mb_n (by decide) ⟨M2, f2.1, r2, fun N e => ⟨0, ⟨rfl, rfl⟩, ?_⟩⟩⟩, f3, fun k hk => ?_, ?_, by decide, mb_sIs, fun j hj => absurd hj (Nat.not_lt_zero _)⟩
  · subst e
    rw [mb_sIr (by decide), e2 0 (by decide)]
  · show ak_I (ak_sI M2 483 7 0) 484 k = _
    rw [mb_sIr (by decide)]
    exact e2 k hk
  · rw [mb_sIk (by decide), f2.row fun k h => absurd h.1 (by decide)]
    exact to_0 _
theorem mu_165n (hL : ab_lay M) (h8 : ak_I M 483 8 = 0) : rn X 165 [.ref 483] M (.inl (some (.int 0)), to M 1) :=
  t_165 hL ⟨_, _, to_L hL 1, by rw [h8]; exact sm_155n hL (b := false) (by decide), mb_y rfl rfl⟩
end SMD
