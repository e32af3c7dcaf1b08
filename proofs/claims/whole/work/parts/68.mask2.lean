/-! the model's questions: the rest -/
section SMR
variable {X : ak_X} {M : ak_M} {nk nw ne : Nat} {σ : Nat → Int32}
theorem sm_228l (hL : ab_lay M) (hv : vs (ro M) nk nw ne) : sg X 228 (9, [some (.ref 483), some (.int (-1)), some (.int 0)], [], []) M (.inl (some (.int (oI (mo_hi (ro M) nk)))), M) := by
  have hc := hv.1
  have h10 := hc.1
  have H : ∀ i, i ≤ nk → sg X 228 (9, [some (.ref 483), some (.int (oI (mo_hi (ro M) i))), some (.int (nI i))], [], []) M (.inl (some (.int (oI (mo_hi (ro M) nk)))), M) := by
    refine mb_up ?_ ?_
    · exact t_228_9 hL _ _ ⟨_, M, hL, sm_168 hL, mb_y (ct_ge hc) rfl⟩
    · intro i hi ih
      have hi10 : i < 10 := by omega
      refine t_228_9 hL _ _ ⟨_, M, hL, sm_168 hL, mb_n (ct_lt hc hi) ⟨_, M, hL, sm_175 hL hi10, ?_⟩⟩
      rw [mi_s]
      rw [mo_hi_s] at ih
      by_cases hf : mo_fly (ro M) i = true
      · rw [if_pos hf] at ih
        refine mb_n (by1 hf) ?_
        cases ht : mo_hi (ro M) i with
        | none => rw [ht] at ih; exact mb_y rfl ih
        | some c =>
          have hcl := mo_hi_lt _ _ _ ht
          rw [ht] at ih
          refine mb_n (mi_n1 (by omega)) ⟨_, M, hL, sm_171 (w := 3) hL hi10 (by decide), _, M, hL, sm_171 (w := 3) hL (k := c) (by omega) (by decide), ?_⟩
          dsimp only at ih
          by_cases hh : kf (ro M) c 3 < kf (ro M) i 3
          · rw [if_pos hh] at ih; exact mb_n (mb_le.mpr hh) ih
          · rw [if_neg hh] at ih; exact mb_y (mb_lt.mp hh) ih
      · rw [if_neg hf] at ih
        exact mb_y (bn1 hf) ih
  exact H 0 (Nat.zero_le _)
theorem sm_229 (hL : ab_lay M) (hv : vs (ro M) nk nw ne) : rn X 229 [.ref 483] M (.inl (some (.int (oI (mo_lo (ro M) nk)))), M) := by
  have hc := hv.1
  have h10 := hc.1
  have H : ∀ i, i ≤ nk → sg X 229 (4, [some (.ref 483), some (.int (oI (mo_lo (ro M) i))), some (.int (nI i))], [], []) M (.inl (some (.int (oI (mo_lo (ro M) nk)))), M) := by
    refine mb_up ?_ ?_
    · exact t_229_4 hL _ _ ⟨_, M, hL, sm_168 hL, mb_y (ct_ge hc) rfl⟩
    · intro i hi ih
      have hi10 : i < 10 := by omega
      refine t_229_4 hL _ _ ⟨_, M, hL, sm_168 hL, mb_n (ct_lt hc hi) ⟨_, M, hL, sm_175 hL hi10, ?_⟩⟩
      rw [mi_s]
      rw [mo_lo_s] at ih
      by_cases hf : mo_fly (ro M) i = true
      · rw [if_pos hf] at ih
        refine mb_n (by1 hf) ?_
        cases ht : mo_lo (ro M) i with
        | none => rw [ht] at ih; exact mb_y rfl ih
        | some c =>
          have hcl := mo_lo_lt _ _ _ ht
          rw [ht] at ih
          refine mb_n (mi_n1 (by omega)) ⟨_, M, hL, sm_171 (w := 3) hL hi10 (by decide), _, M, hL, sm_171 (w := 3) hL (k := c) (by omega) (by decide), ?_⟩
          dsimp only at ih
          by_cases hh : kf (ro M) i 3 < kf (ro M) c 3
          · rw [if_pos hh] at ih; exact mb_n (mb_le.mpr hh) ih
          · rw [if_neg hh] at ih; exact mb_y (mb_lt.mp hh) ih
      · rw [if_neg hf] at ih
        exact mb_y (bn1 hf) ih
  exact t_229 hL (H 0 (Nat.zero_le _))
theorem sm_230l (hL : ab_lay M) (hv : vs (ro M) nk nw ne) : sg X 230 (9, [some (.ref 483), some (.int (-1)), some (.int 0)], [], []) M (.inl (some (.int (oI (mo_ta (ro M) nk)))), M) := by
  have hc := hv.1
  have h10 := hc.1
  have H : ∀ i, i ≤ nk → sg X 230 (9, [some (.ref 483), some (.int (oI (mo_ta (ro M) i))), some (.int (nI i))], [], []) M (.inl (some (.int (oI (mo_ta (ro M) nk)))), M) := by
    refine mb_up ?_ ?_
    · exact t_230_9 hL _ _ ⟨_, M, hL, sm_168 hL, mb_y (ct_ge hc) rfl⟩
    · intro i hi ih
      have hi10 : i < 10 := by omega
      refine t_230_9 hL _ _ ⟨_, M, hL, sm_168 hL, mb_n (ct_lt hc hi) ⟨_, M, hL, sm_175 hL hi10, ?_⟩⟩
      rw [mi_s]
      rw [mo_ta_s] at ih
      by_cases hf : mo_fly (ro M) i = true
      · rw [if_pos hf] at ih
        refine mb_n (by1 hf) ?_
        cases ht : mo_ta (ro M) i with
        | none => rw [ht] at ih; exact mb_y rfl ih
        | some c =>
          have hcl := mo_ta_lt _ _ _ ht
          rw [ht] at ih
          refine mb_n (mi_n1 (by omega)) ⟨_, M, hL, sm_185 hL hi10 (hv.kp hi), _, M, hL, sm_185 hL (k := c) (by omega) (hv.kp (by omega)), ?_⟩
          dsimp only at ih
          by_cases hh : mo_slack (ro M) i < mo_slack (ro M) c
          · rw [if_pos hh] at ih; exact mb_n (mb_le.mpr hh) ih
          · rw [if_neg hh] at ih; exact mb_y (mb_lt.mp hh) ih
      · rw [if_neg hf] at ih
        exact mb_y (bn1 hf) ih
  exact H 0 (Nat.zero_le _)
theorem sm_231l (hL : ab_lay M) (hv : vs (ro M) nk nw ne) : sg X 231 (11, [some (.ref 483), some (.int (-1)), some (.int 0), some (.int 0)], [], []) M (.inl (some (.int (oI (mo_ld (ro M) nk).1))), M) := by
  have hc := hv.1
  have h10 := hc.1
  have H : ∀ i, i ≤ nk → sg X 231 (11, [some (.ref 483), some (.int (oI (mo_ld (ro M) i).1)), some (.int (mo_ld (ro M) i).2), some (.int (nI i))], [], []) M (.inl (some (.int (oI (mo_ld (ro M) nk).1))), M) := by
    refine mb_up ?_ ?_
    · exact t_231_11 hL _ _ _ ⟨_, M, hL, sm_168 hL, mb_y (ct_ge hc) rfl⟩
    · intro i hi ih
      have hi10 : i < 10 := by omega
      refine t_231_11 hL _ _ _ ⟨_, M, hL, sm_168 hL, mb_n (ct_lt hc hi) ⟨_, M, hL, sm_171 (w := 11) hL hi10 (by decide), ?_⟩⟩
      rw [mi_s]
      rw [mo_ld_s] at ih
      by_cases hh : kf (ro M) i 11 ≤ (mo_ld (ro M) i).2
      · rw [if_pos hh] at ih; exact mb_n (mb_lt.mpr hh) ih
      · rw [if_neg hh] at ih; exact mb_y (mb_le.mp hh) ⟨_, M, hL, sm_171 (w := 11) hL hi10 (by decide), ih⟩
  exact H 0 (Nat.zero_le _)
/-- highest, tautest, leader -/
theorem cm_228 (hL : ab_lay M) (hσ : ro M = σ) (hv : vs σ nk nw ne) (cd : Nat → Int32) : cm mo_q1 X 228 [] M cd (.inl (oI (mo_hi σ nk))) ∧ cm mo_q1 X 230 [] M cd (.inl (oI (mo_ta σ nk))) ∧ cm mo_q1 X 231 [] M cd (.inl (oI (mo_ld σ nk).1)) := by
  subst hσ
  have l1 := to_L hL 0
  have v1 : vs (ro (to M 0)) nk nw ne := by rw [to_r]; exact hv
  have a := sm_228l (X := X) l1 v1
  have b := sm_230l (X := X) l1 v1
  have c := sm_231l (X := X) l1 v1
  rw [to_r] at a b c
  exact ⟨cm_v (t_228 hL fun N e => by rw [e]; exact a) (to_f hL 0) (to_0 _), cm_v (t_230 hL fun N e => by rw [e]; exact b) (to_f hL 0) (to_0 _), cm_v (t_231 hL fun N e => by rw [e]; exact c) (to_f hL 0) (to_0 _)⟩
theorem sm_232 (hL : ab_lay M) {x y : Int32} : rn X 232 [.int x, .int y] M (.inl (some (.int (bI (in32 x 0 199 && in32 y 0 199)))), M) := by
  refine t_232 hL _ _ ⟨_, M, hL, jm_in32 (a := 0) (b := 199) rfl rfl, ?_⟩
  cases in32 x 0 199
  · exact mb_y rfl rfl
  · refine mb_n (by decide) ⟨_, M, hL, jm_in32 (a := 0) (b := 199) rfl rfl, ?_⟩
    cases in32 y 0 199
    · exact mb_y rfl rfl
    · exact mb_n (by decide) rfl
/-- picker -/
theorem cm_233 (hL : ab_lay M) (hσ : ro M = σ) (hv : vs σ nk nw ne) (x y bt : Int32) : cm mo_q1 X 233 [.int x, .int y, .int bt] M (cdI 1) (sp_108 σ nk x y bt) := by
  subst hσ
  have l1 := to_L hL 0
  have n155 := sm_155n (X := X) hL (b := false) (by decide)
  have y155 := sm_155y (X := X) hL (b := true) rfl
  have s := sm_203 (X := X) (M := to M 0) l1 (nk := nk) (nw := nw) (ne := ne) (by rw [to_r]; exact hv.1) (x := x) (y := y) (bt := bt)
  rw [to_r] at s
  have sin := jm_in32 (X := X) (M := M) (x := bt) (a := -1) (b := ro M 1 - 1) (p := -1) (q := (ro M 1 - 1).toInt64) rfl rfl
  unfold sp_108
  by_cases h1 : (in32 x 0 199 && in32 y 0 199) = true
  · have h1' := and_2.mp h1
    by_cases h3 : in32 bt (-1) (ro M 1 - 1) = true
    · rw [if_pos ⟨h1'.1, h1'.2, h3⟩]
      exact cm_v (t_233 hL _ _ _ ⟨_, M, hL, sm_232 hL, mb_n (by1 h1) ⟨_, M, hL, sm_168 hL, _, M, hL, sin, mb_n (by1 h3) ⟨_, _, l1, y155, mb_n (by decide) ⟨_, _, l1, s, rfl⟩⟩⟩⟩) (to_f hL 0) (to_0 _)
    · rw [if_neg (fun e => h3 e.2.2)]
      exact cm_e (t_233 hL _ _ _ ⟨_, M, hL, sm_232 hL, mb_n (by1 h1) ⟨_, M, hL, sm_168 hL, _, M, hL, sin, mb_y (bn1 h3) ⟨_, _, to_L hL 1, n155, mb_y rfl rfl⟩⟩⟩) (to_f hL 1) (to_0 _)
  · rw [if_neg (fun e => h1 (and_2.mpr ⟨e.1, e.2.1⟩))]
    exact cm_e (t_233 hL _ _ _ ⟨_, M, hL, sm_232 hL, mb_y (bn1 h1) ⟨_, _, to_L hL 1, n155, mb_y rfl rfl⟩⟩) (to_f hL 1) (to_0 _)
/-- gap -/
theorem cm_234 (hL : ab_lay M) (hσ : ro M = σ) (hv : vs σ nk nw ne) (x y : Int32) : cm mo_q1 X 234 [.int x, .int y] M (cdI 0) (sp_109 σ x y) := by
  subst hσ
  have hc := hv.1
  have h10 := hc.1
  have l1 := to_L hL 0
  have no : ¬ (mo_isK (ro M) x && mo_isK (ro M) y) = true → cm mo_q1 X 234 [.int x, .int y] M (cdI 0) (.inr 0) := fun h => cm_e (t_234 hL _ _ ⟨_, M, hL, sm_170 hL, _, _, to_L hL 1, sm_155n hL h, mb_y (bn1 h) rfl⟩) (to_f hL 1) (to_0 _)
  unfold sp_109
  by_cases h0 : mo_isK (ro M) x = true
  · rw [if_pos h0]
    by_cases h1 : mo_isK (ro M) y = true
    · rw [if_pos h1]
      have hh : (mo_isK (ro M) x && mo_isK (ro M) y) = true := and_2.mpr ⟨h0, h1⟩
      obtain ⟨k, hk, rfl⟩ := (isK_of hc).mp h0
      obtain ⟨j, hj, rfl⟩ := (isK_of hc).mp h1
      rw [kN_n (by omega), kN_n (by omega)]
      have g : ∀ (q w : Nat), q < 10 → w < 15 → rn X 171 [.ref 483, .int (nI q), .int (nI w)] (to M 0) (.inl (some (.int (kf (ro M) q w))), to M 0) := fun q w hq hw => by
        have s := sm_171 (X := X) (M := to M 0) l1 (k := q) (w := w) hq hw
        rw [to_r] at s
        exact s
      have q := gap_sq (hv.kp hk) (hv.kp hj)
      exact cm_v (t_234 hL _ _ ⟨_, M, hL, sm_170 hL, _, _, l1, sm_155y hL hh, mb_n (by1 hh) ⟨_, _, l1, g k 1 (by omega) (by decide), _, _, l1, g j 1 (by omega) (by decide), _, _, l1, g k 2 (by omega) (by decide), _, _, l1, g j 2 (by omega) (by decide), _, _, l1, g k 3 (by omega) (by decide), _, _, l1, g j 3 (by omega) (by decide), _, _, l1, sm_181 l1, _, _, l1, sm_180 (m := 400) l1 (by decide) (j3_nn.mpr q.1), rfl⟩⟩) (to_f hL 0) (to_0 _)
    · rw [if_neg h1]
      exact no (fun e => h1 (and_2.mp e).2)
  · rw [if_neg h0]
    exact no (fun e => h0 (and_2.mp e).1)
theorem sm_235 (hL : ab_lay M) {k o : Nat} (hk : k < 10) (ho : o < 10) : rn X 235 [.ref 483, .int (nI k), .int (nI o)] M (.inl (some (.int (mo_far (ro M) k o))), M) :=
  t_235 hL _ _ ⟨_, M, hL, sm_171 (w := 1) hL hk (by decide), _, M, hL, sm_171 (w := 1) hL ho (by decide), _, M, hL, sm_171 (w := 2) hL hk (by decide), _, M, hL, sm_171 (w := 2) hL ho (by decide), _, M, hL, sm_181 hL, rfl⟩
theorem sm_236l (hL : ab_lay M) (hv : vs (ro M) nk nw ne) {k : Nat} (hk : k < nk) : sg X 236 (18, [some (.ref 483), some (.int (nI k)), some (.int (-1)), some (.int 0)], [], []) M (.inl (some (.int (oI (mo_nr (ro M) k nk)))), M) := by
  have hc := hv.1
  have h10 := hc.1
  have hk10 : k < 10 := by omega
  have H : ∀ i, i ≤ nk → sg X 236 (18, [some (.ref 483), some (.int (nI k)), some (.int (oI (mo_nr (ro M) k i))), some (.int (nI i))], [], []) M (.inl (some (.int (oI (mo_nr (ro M) k nk)))), M) := by
    refine mb_up ?_ ?_
    · exact t_236_18 hL _ _ _ ⟨_, M, hL, sm_168 hL, mb_y (ct_ge hc) rfl⟩
    · intro i hi ih
      have hi10 : i < 10 := by omega
      refine t_236_18 hL _ _ _ ⟨_, M, hL, sm_168 hL, mb_n (ct_lt hc hi) ?_⟩
      rw [mi_s]
      rw [mo_nr_s] at ih
      by_cases hik : i = k
      · rw [if_neg (fun e => e.1 hik)] at ih
        exact mb_y (by rw [hik]) ih
      · refine mb_n (by rw [mi_eq (by omega) (by omega)]; exact hik) ⟨_, M, hL, sm_175 hL hi10, ?_⟩
        by_cases hf : mo_fly (ro M) i = true
        · rw [if_pos ⟨hik, hf⟩] at ih
          refine mb_n (by1 hf) ?_
          cases ht : mo_nr (ro M) k i with
          | none => rw [ht] at ih; exact mb_y rfl ih
          | some c =>
            have hcl := mo_nr_lt _ _ _ _ ht
            rw [ht] at ih
            refine mb_n (mi_n1 (by omega)) ⟨_, M, hL, sm_235 hL hk10 hi10, _, M, hL, sm_235 hL hk10 (o := c) (by omega), ?_⟩
            dsimp only at ih
            by_cases hh : mo_far (ro M) k i < mo_far (ro M) k c
            · rw [if_pos hh] at ih; exact mb_n (mb_le.mpr hh) ih
            · rw [if_neg hh] at ih; exact mb_y (mb_lt.mp hh) ih
        · rw [if_neg (fun e => hf e.2)] at ih
          exact mb_y (bn1 hf) ih
  exact H 0 (Nat.zero_le _)
/-- nearest -/
theorem cm_236 (hL : ab_lay M) (hσ : ro M = σ) (hv : vs σ nk nw ne) (x : Int32) : cm mo_q1 X 236 [.int x] M (cdI 0) (sp_110 σ nk x) := by
  subst hσ
  have hc := hv.1
  have h10 := hc.1
  have l1 := to_L hL 0
  unfold sp_110
  by_cases h0 : mo_isK (ro M) x = true
  · rw [if_pos h0]
    obtain ⟨k, hk, rfl⟩ := (isK_of hc).mp h0
    rw [kN_n (by omega)]
    have s := sm_236l (X := X) (M := to M 0) l1 (nk := nk) (nw := nw) (ne := ne) (by rw [to_r]; exact hv) hk
    rw [to_r] at s
    exact cm_v (t_236 hL _ ⟨_, M, hL, sm_169 hL, _, _, l1, sm_155y hL h0, mb_n (by1 h0) s⟩) (to_f hL 0) (to_0 _)
  · rw [if_neg h0]
    exact cm_e (t_236 hL _ ⟨_, M, hL, sm_169 hL, _, _, to_L hL 1, sm_155n hL h0, mb_y (bn1 h0) rfl⟩) (to_f hL 1) (to_0 _)
/-- upwind -/
theorem cm_237 (hL : ab_lay M) (hσ : ro M = σ) (hv : vs σ nk nw ne) (x : Int32) : cm mo_q1 X 237 [.int x] M (cdI 0) (sp_111 σ nw x) := by
  subst hσ
  have hc := hv.1
  have h10 := hc.1
  have l1 := to_L hL 0
  have l2 := to_L l1 0
  unfold sp_111
  by_cases h0 : mo_isK (ro M) x = true
  · rw [if_pos h0]
    obtain ⟨k, hk, rfl⟩ := (isK_of hc).mp h0
    have hk10 : k < 10 := by omega
    rw [kN_n (by omega)]
    have s := sm_175 (X := X) (M := to M 0) l1 hk10
    rw [to_r] at s
    have hw := mo_wind_lt (ro M) (kf (ro M) k 3) nw hc.2.1.1
    have hw4 : mo_wind (ro M) (kf (ro M) k 3) nw < 4 := Nat.lt_of_lt_of_le hw hc.2.1.2
    by_cases hf : mo_fly (ro M) k = true
    · rw [if_pos hf]
      have a1 := sm_171 (X := X) (M := to (to M 0) 0) (w := 3) l2 hk10 (by decide)
      have a2 := sm_178 (X := X) (M := to (to M 0) 0) l2 (nk := nk) (nw := nw) (ne := ne) (by rw [to_r, to_r]; exact hc) (h := kf (ro M) k 3)
      have a3 := sm_182 (X := X) (M := to (to M 0) 0) l2 hk10
      have a4 := sm_177 (X := X) (M := to (to M 0) 0) (w := 1) l2 hw4 (by decide)
      have a5 := sm_183 (X := X) (M := to (to M 0) 0) l2 hk10
      have a6 := sm_177 (X := X) (M := to (to M 0) 0) (w := 2) l2 hw4 (by decide)
      rw [to_r, to_r] at a1 a2 a3 a4 a5 a6
      exact cm_v (t_237 hL _ ⟨_, M, hL, sm_169 hL, _, _, l1, sm_155y hL h0, mb_n (by1 h0) ⟨_, _, l1, s, _, _, l2, sm_156y l1 hf, mb_n (by1 hf) ⟨_, _, l2, a1, _, _, l2, a2, _, _, l2, a3, _, _, l2, a4, _, _, l2, a5, _, _, l2, a6, _, _, l2, sm_189 l2, rfl⟩⟩⟩) ((to_f hL 0).tr (to_f l1 0)) (to_0 _)
    · rw [if_neg hf]
      exact cm_e (t_237 hL _ ⟨_, M, hL, sm_169 hL, _, _, l1, sm_155y hL h0, mb_n (by1 h0) ⟨_, _, l1, s, _, _, to_L l1 2, sm_156n l1 hf, mb_y (bn1 hf) rfl⟩⟩) ((to_f hL 0).tr (to_f l1 2)) (to_0 _)
  · rw [if_neg h0]
    exact cm_e (t_237 hL _ ⟨_, M, hL, sm_169 hL, _, _, to_L hL 1, sm_155n hL h0, mb_y (bn1 h0) rfl⟩) (to_f hL 1) (to_0 _)
theorem sm_239l (hL : ab_lay M) (hv : vs (ro M) nk nw ne) {w : Nat} (hw : w < 15) : sg X 239 (17, [some (.ref 483), some (.int (nI w)), some (.int 0), some (.int 0)], [], []) M (.inl (some (.int (mo_sm (ro M) w nk))), M) := by
  have hc := hv.1
  have h10 := hc.1
  have H : ∀ i, i ≤ nk → sg X 239 (17, [some (.ref 483), some (.int (nI w)), some (.int (mo_sm (ro M) w i)), some (.int (nI i))], [], []) M (.inl (some (.int (mo_sm (ro M) w nk))), M) := by
    refine mb_up ?_ ?_
    · exact t_239_17 hL _ _ _ ⟨_, M, hL, sm_168 hL, mb_y (ct_ge hc) rfl⟩
    · intro i hi ih
      refine t_239_17 hL _ _ _ ⟨_, M, hL, sm_168 hL, mb_n (ct_lt hc hi) ⟨_, M, hL, sm_171 hL (k := i) (by omega) hw, ?_⟩⟩
      rw [mi_s]
      exact ih
  exact H 0 (Nat.zero_le _)
/-- sum -/
theorem cm_239 (hL : ab_lay M) (hσ : ro M = σ) (hv : vs σ nk nw ne) (w : Int32) : cm mo_q1 X 239 [.int w] M (cdI 1) (sp_113 σ nk w) := by
  subst hσ
  have l1 := to_L hL 0
  unfold sp_113
  by_cases h1 : in32 w 0 13 = true
  · rw [if_pos h1]
    obtain ⟨j, hj, rfl⟩ := (in_n (a := 13) (by decide)).mp h1
    rw [kN_n (by omega)]
    have s := sm_239l (X := X) (M := to M 0) l1 (nk := nk) (nw := nw) (ne := ne) (by rw [to_r]; exact hv) (w := j) (by omega)
    rw [to_r] at s
    exact cm_v (t_239 hL _ ⟨_, M, hL, sm_217 hL, _, _, l1, sm_155y hL h1, mb_n (by1 h1) s⟩) (to_f hL 0) (to_0 _)
  · rw [if_neg h1]
    exact cm_e (t_239 hL _ ⟨_, M, hL, sm_217 hL, _, _, to_L hL 1, sm_155n hL h1, mb_y (bn1 h1) rfl⟩) (to_f hL 1) (to_0 _)
theorem sm_240l (hL : ab_lay M) (hv : vs (ro M) nk nw ne) {k : Nat} (hk : k < nk) : sg X 240 (18, [some (.ref 483), some (.int (nI k)), some (.int 0), some (.int 0)], [], []) M (.inl (some (.int (mo_rk (ro M) k nk))), M) := by
  have hc := hv.1
  have h10 := hc.1
  have hk10 : k < 10 := by omega
  have H : ∀ i, i ≤ nk → sg X 240 (18, [some (.ref 483), some (.int (nI k)), some (.int (mo_rk (ro M) k i)), some (.int (nI i))], [], []) M (.inl (some (.int (mo_rk (ro M) k nk))), M) := by
    refine mb_up ?_ ?_
    · exact t_240_18 hL _ _ _ ⟨_, M, hL, sm_168 hL, mb_y (ct_ge hc) rfl⟩
    · intro i hi ih
      have hi10 : i < 10 := by omega
      refine t_240_18 hL _ _ _ ⟨_, M, hL, sm_168 hL, mb_n (ct_lt hc hi) ⟨_, M, hL, sm_171 (w := 11) hL hi10 (by decide), _, M, hL, sm_171 (w := 11) hL hk10 (by decide), ?_⟩⟩
      rw [mi_s]
      rw [mo_rk_s] at ih
      by_cases h1 : kf (ro M) k 11 < kf (ro M) i 11
      · rw [if_pos (Or.inl h1)] at ih; exact mb_y h1 ih
      · refine mb_n h1 ⟨_, M, hL, sm_171 (w := 11) hL hi10 (by decide), _, M, hL, sm_171 (w := 11) hL hk10 (by decide), ?_⟩
        by_cases h2 : kf (ro M) i 11 = kf (ro M) k 11
        · refine mb_y h2 ?_
          by_cases h3 : i < k
          · rw [if_pos (Or.inr ⟨h2, h3⟩)] at ih
            exact mb_n (by rw [mi_le (by omega) (by omega)]; omega) ih
          · rw [if_neg (fun e => e.elim h1 (fun e => h3 e.2))] at ih
            exact mb_y (by rw [mi_le (by omega) (by omega)]; omega) ih
        · rw [if_neg (fun e => e.elim h1 (fun e => h2 e.1))] at ih
          exact mb_n h2 ih
  exact H 0 (Nat.zero_le _)
/-- rank -/
theorem cm_240 (hL : ab_lay M) (hσ : ro M = σ) (hv : vs σ nk nw ne) (x : Int32) : cm mo_q1 X 240 [.int x] M (cdI 0) (sp_114 σ nk x) := by
  subst hσ
  have hc := hv.1
  have h10 := hc.1
  have l1 := to_L hL 0
  unfold sp_114
  by_cases h0 : mo_isK (ro M) x = true
  · rw [if_pos h0]
    obtain ⟨k, hk, rfl⟩ := (isK_of hc).mp h0
    rw [kN_n (by omega)]
    have s := sm_240l (X := X) (M := to M 0) l1 (nk := nk) (nw := nw) (ne := ne) (by rw [to_r]; exact hv) hk
    rw [to_r] at s
    exact cm_v (t_240 hL _ ⟨_, M, hL, sm_169 hL, _, _, l1, sm_155y hL h0, mb_n (by1 h0) s⟩) (to_f hL 0) (to_0 _)
  · rw [if_neg h0]
    exact cm_e (t_240 hL _ ⟨_, M, hL, sm_169 hL, _, _, to_L hL 1, sm_155n hL h0, mb_y (bn1 h0) rfl⟩) (to_f hL 1) (to_0 _)
theorem sm_241l (hL : ab_lay M) (hv : vs (ro M) nk nw ne) {x y tx ty : Int32} : sg X 241 (48, [some (.ref 483), some (.int x), some (.int y), some (.int tx), some (.int ty), some (.int 0), some (.int 0)], [], []) M (.inl (some (.int (mo_bx (ro M) x y tx ty nk))), M) := by
  have hc := hv.1
  have h10 := hc.1
  have H : ∀ i, i ≤ nk → sg X 241 (48, [some (.ref 483), some (.int x), some (.int y), some (.int tx), some (.int ty), some (.int (mo_bx (ro M) x y tx ty i)), some (.int (nI i))], [], []) M (.inl (some (.int (mo_bx (ro M) x y tx ty nk))), M) := by
    refine mb_up ?_ ?_
    · exact t_241_48 hL _ _ _ _ _ _ ⟨_, M, hL, sm_168 hL, mb_y (ct_ge hc) rfl⟩
    · intro i hi ih
      have hi10 : i < 10 := by omega
      rw [mo_bx_s] at ih
      refine t_241_48 hL _ _ _ _ _ _ ⟨_, M, hL, sm_168 hL, mb_n (ct_lt hc hi) ⟨_, M, hL, sm_171 (w := 1) hL hi10 (by decide), _, M, hL, jm_in32 rfl rfl, ?_⟩⟩
      rw [mi_s]
      by_cases q1 : in32 (kf (ro M) i 1) x tx = true
      · refine mb_n (by1 q1) ⟨_, M, hL, sm_171 (w := 2) hL hi10 (by decide), _, M, hL, jm_in32 rfl rfl, ?_⟩
        by_cases q2 : in32 (kf (ro M) i 2) y ty = true
        · rw [if_pos ⟨q1, q2⟩] at ih
          exact mb_n (by1 q2) fun z e => by rw [e]; exact ih
        · rw [if_neg (fun e => q2 e.2)] at ih
          exact mb_y (bn1 q2) ih
      · rw [if_neg (fun e => q1 e.1)] at ih
        exact mb_y (bn1 q1) ih
  exact H 0 (Nat.zero_le _)
/-- inBox -/
theorem cm_241 (hL : ab_lay M) (hσ : ro M = σ) (hv : vs σ nk nw ne) (x y tx ty : Int32) : cm mo_q1 X 241 [.int x, .int y, .int tx, .int ty] M (cdI 1) (sp_115 σ nk x y tx ty) := by
  subst hσ
  have l1 := to_L hL 0
  have n155 := sm_155n (X := X) hL (b := false) (by decide)
  have y155 := sm_155y (X := X) hL (b := true) rfl
  have s := sm_241l (X := X) (M := to M 0) l1 (nk := nk) (nw := nw) (ne := ne) (by rw [to_r]; exact hv) (x := x) (y := y) (tx := tx) (ty := ty)
  rw [to_r] at s
  have cond : (in32 x 0 199 = true ∧ in32 y 0 199 = true ∧ in32 tx x 199 = true ∧ in32 ty y 199 = true) ↔ ((in32 x 0 199 && in32 y 0 199) = true ∧ (in32 tx 0 199 && in32 ty 0 199) = true ∧ ¬ tx < x ∧ ¬ ty < y) := by
    rw [and_2, and_2, Int32.lt_iff_toInt_lt, Int32.lt_iff_toInt_lt]
    simp only [in32_t, mb_i0, mb_i199]
    omega
  unfold sp_115
  by_cases h1 : (in32 x 0 199 && in32 y 0 199) = true
  · by_cases h2 : (in32 tx 0 199 && in32 ty 0 199) = true
    · by_cases h3 : tx < x
      · rw [if_neg (fun e => (cond.mp e).2.2.1 h3)]
        exact cm_e (t_241 hL _ _ _ _ ⟨_, M, hL, sm_232 hL, mb_n (by1 h1) ⟨_, M, hL, sm_232 hL, mb_n (by1 h2) (mb_y h3 ⟨_, _, to_L hL 1, n155, mb_y rfl rfl⟩)⟩⟩) (to_f hL 1) (to_0 _)
      · by_cases h4 : ty < y
        · rw [if_neg (fun e => (cond.mp e).2.2.2 h4)]
          exact cm_e (t_241 hL _ _ _ _ ⟨_, M, hL, sm_232 hL, mb_n (by1 h1) ⟨_, M, hL, sm_232 hL, mb_n (by1 h2) (mb_n h3 (mb_y h4 ⟨_, _, to_L hL 1, n155, mb_y rfl rfl⟩))⟩⟩) (to_f hL 1) (to_0 _)
        · rw [if_pos (cond.mpr ⟨h1, h2, h3, h4⟩)]
          exact cm_v (t_241 hL _ _ _ _ ⟨_, M, hL, sm_232 hL, mb_n (by1 h1) ⟨_, M, hL, sm_232 hL, mb_n (by1 h2) (mb_n h3 (mb_n h4 ⟨_, _, l1, y155, mb_n (by decide) s⟩))⟩⟩) (to_f hL 0) (to_0 _)
    · rw [if_neg (fun e => h2 (cond.mp e).2.1)]
      exact cm_e (t_241 hL _ _ _ _ ⟨_, M, hL, sm_232 hL, mb_n (by1 h1) ⟨_, M, hL, sm_232 hL, mb_y (bn1 h2) ⟨_, _, to_L hL 1, n155, mb_y rfl rfl⟩⟩⟩) (to_f hL 1) (to_0 _)
  · rw [if_neg (fun e => h1 (cond.mp e).1)]
    exact cm_e (t_241 hL _ _ _ _ ⟨_, M, hL, sm_232 hL, mb_y (bn1 h1) ⟨_, _, to_L hL 1, n155, mb_y rfl rfl⟩⟩) (to_f hL 1) (to_0 _)
/-- spread -/
theorem cm_242 (hL : ab_lay M) (hσ : ro M = σ) (hv : vs σ nk nw ne) (cd : Nat → Int32) : cm mo_q1 X 242 [] M cd (.inl (mo_spread σ nk)) := by
  subst hσ
  have hc := hv.1
  have h10 := hc.1
  have l1 := to_L hL 0
  have v1 : vs (ro (to M 0)) nk nw ne := by rw [to_r]; exact hv
  have a := sm_228l (X := X) l1 v1
  have b := sm_229 (X := X) l1 v1
  rw [to_r] at a b
  have a' : rn X 228 [.ref 483] M (.inl (some (.int (oI (mo_hi (ro M) nk)))), to M 0) := t_228 hL fun N e => by rw [e]; exact a
  have hsome : ∀ n c, mo_hi (ro M) n = some c → ∃ d, mo_lo (ro M) n = some d := by
    intro n
    induction n with
    | zero => intro c h; cases h
    | succ n ih =>
      intro c h
      rw [mo_hi_s] at h
      rw [mo_lo_s]
      by_cases hf : mo_fly (ro M) n = true
      · rw [if_pos hf]
        cases mo_lo (ro M) n with
        | none => exact ⟨_, rfl⟩
        | some d => dsimp only; split <;> exact ⟨_, rfl⟩
      · rw [if_neg hf] at h ⊢
        exact ih c h
  unfold mo_spread
  cases ht : mo_hi (ro M) nk with
  | none =>
    rw [ht] at a'
    exact cm_v (t_242 hL ⟨_, _, l1, a', mb_y rfl rfl⟩) (to_f hL 0) (to_0 _)
  | some c =>
    rw [ht] at a'
    obtain ⟨d, hd⟩ := hsome nk c ht
    have hcl := mo_hi_lt _ _ _ ht
    have hdl := mo_lo_lt _ _ _ hd
    rw [hd] at b ⊢
    have s1 := sm_171 (X := X) (M := to M 0) (w := 3) l1 (k := c) (by omega) (by decide)
    have s2 := sm_171 (X := X) (M := to M 0) (w := 3) l1 (k := d) (by omega) (by decide)
    rw [to_r] at s1 s2
    exact cm_v (t_242 hL ⟨_, _, l1, a', mb_n (mi_n1 (by omega)) ⟨_, _, l1, s1, _, _, l1, b, _, _, l1, s2, rfl⟩⟩) (to_f hL 0) (to_0 _)
theorem sm_202 (hL : ab_lay M) (hv : vs (ro M) nk nw ne) (r : Bool) : ∃ M', rn X 202 [.ref 483, .int (bI r)] M (.inl (some (.int (mo_prs (ro M) r nk))), M') ∧ fr mo_pq M M' := by
  have hc := hv.1
  have h10 := hc.1
  have H1 : ∀ j, j ≤ nk → ∀ M1 o4, fr mo_pq M M1 → ∃ M', sg X 202 (4, [some (.ref 483), some (.int (bI r)), some (.int (mo_prs (ro M) r j)), some (.int (nI j)), o4], [], []) M1 (.inl (some (.int (mo_prs (ro M) r nk))), M') ∧ fr mo_pq M M' := by
    refine mb_up ?_ ?_
    · intro M1 o4 f1
      have r1 : ro M1 = ro M := f1.row pq_ro
      exact ⟨M1, t_202_4 f1.1 _ _ _ _ ⟨_, M1, f1.1, sm_168 f1.1, mb_y (by rw [r1]; exact ct_ge hc) rfl⟩, f1⟩
    · intro j hj ih M1 o4 f1
      have r1 : ro M1 = ro M := f1.row pq_ro
      have H2 : ∀ i, i ≤ j → ∀ M2, fr mo_pq M M2 → ∃ M', sg X 202 (15, [some (.ref 483), some (.int (bI r)), some (.int (mo_prs (ro M) r j + mo_prb (ro M) r j i)), some (.int (nI j)), some (.int (nI i))], [], []) M2 (.inl (some (.int (mo_prs (ro M) r nk))), M') ∧ fr mo_pq M M' := by
        refine mb_up ?_ ?_
        · intro M2 f2
          obtain ⟨M', h', f'⟩ := ih M2 (some (.int (nI j))) f2
          refine ⟨M', t_202_15 f2.1 _ _ _ _ (mb_y (Int32.le_refl _) ?_), f'⟩
          rw [mi_s]
          exact h'
        · intro i hi ih2 M2 f2
          have r2 : ro M2 = ro M := f2.row pq_ro
          have n1 : ¬ nI j ≤ nI i := by rw [mi_le (by omega) (by omega)]; omega
          rw [mo_prb_s] at ih2
          cases r
          · rw [mo_pc_f] at ih2
            have s := sm_192 (X := X) f2.1 (k := i) (o := j) (by omega) (by omega)
            rw [r2] at s
            obtain ⟨M', h', f'⟩ := ih2 M2 f2
            refine ⟨M', t_202_15 f2.1 _ _ _ _ (mb_n n1 (mb_y rfl ⟨_, M2, f2.1, s, ?_⟩)), f'⟩
            rw [mi_s]
            cases hx : mo_cross (ro M) i j
            · rw [hx, if_neg (by decide)] at h'; exact mb_y rfl h'
            · rw [hx, if_pos rfl, ← Int32.add_assoc] at h'; exact mb_n (by decide) h'
          · rw [mo_pc_t] at ih2
            obtain ⟨M3, s, f3⟩ := sm_196 (X := X) f2.1 (k := i) (o := j) (by omega) (by omega) (by rw [r2]; exact hv.kp (by omega)) (by rw [r2]; exact hv.kp hj)
            rw [r2] at s
            obtain ⟨M', h', f'⟩ := ih2 M3 (f2.tr f3)
            refine ⟨M', t_202_15 f2.1 _ _ _ _ (mb_n n1 (mb_n (by decide) ⟨_, M3, f3.1, s, ?_⟩)), f'⟩
            rw [mi_s]
            cases hx : mo_rub (ro M) i j
            · rw [hx, if_neg (by decide)] at h'; exact mb_y rfl h'
            · rw [hx, if_pos rfl, ← Int32.add_assoc] at h'; exact mb_n (by decide) h'
      obtain ⟨M', h', f'⟩ := H2 0 (Nat.zero_le _) M1 f1
      refine ⟨M', t_202_4 f1.1 _ _ _ _ ⟨_, M1, f1.1, sm_168 f1.1, mb_n (by rw [r1]; exact ct_lt hc hj) ?_⟩, f'⟩
      have e0 : mo_prs (ro M) r j + mo_prb (ro M) r j 0 = mo_prs (ro M) r j := Int32.add_zero _
      rw [e0] at h'
      exact h'
  obtain ⟨M', h', f'⟩ := H1 0 (Nat.zero_le _) M none (fr.rf hL)
  exact ⟨M', t_202 hL _ h', f'⟩
/-- setting -/
theorem cm_216 (hL : ab_lay M) (hσ : ro M = σ) (x : Int32) (cd : Nat → Int32) : cm mo_q1 X 216 [.int x] M cd (.inl (sp_93 σ x)) := by
  subst hσ
  have l1 := to_L hL 0
  unfold sp_93
  by_cases h : in32 x 0 5 = true
  · obtain ⟨j, hj, rfl⟩ := (in_n (a := 5) (by decide)).mp h
    rw [if_pos h, kN_n (by omega)]
    have s := sm_174 (X := X) (M := to M 0) l1 (w := j) (by omega)
    rw [to_r] at s
    exact cm_v (t_216 hL _ fun N e => by
      rw [show N = to M 0 from e]
      exact ⟨_, _, l1, jm_in32 (by rfl) (by rfl), mb_n (by1 h) ⟨_, _, l1, s, rfl⟩⟩) (to_f hL 0) (to_0 _)
  · rw [if_neg h]
    exact cm_v (t_216 hL _ fun N e => by
      rw [show N = to M 0 from e]
      exact ⟨_, _, l1, jm_in32 (by rfl) (by rfl), mb_y (bn1 h) rfl⟩) (to_f hL 0) (to_0 _)
/-- count -/
theorem cm_215 (hL : ab_lay M) (hσ : ro M = σ) (hv : vs σ nk nw ne) (x : Int32) (cd : Nat → Int32) : cm mo_q1 X 215 [.int x] M cd (.inl (sp_92 σ nk (ak_I M 483 7) x)) := by
  subst hσ
  have l1 := to_L hL 0
  have v1 : vs (ro (to M 0)) nk nw ne := by rw [to_r]; exact hv
  have e7 : ak_I (to M 0) 483 7 = ak_I M 483 7 := mb_sIk (by decide)
  have tz : ∀ {M'}, fr mo_pq (to M 0) M' → ak_I M' 483 0 = 0 := fun f => by rw [f.2.1 483 0 (fun e => by rcases e.2 with e | e <;> cases e)]; exact to_0 _
  have s214 := sm_214 (X := X) (M := to M 0) l1 (nk := nk) (nw := nw) (ne := ne) v1.1 (s := x - 3)
  rw [to_r] at s214
  have s168 := sm_168 (X := X) (M := to M 0) l1
  rw [to_r] at s168
  have in37 : ∀ j : Nat, 3 ≤ j → j ≤ 7 → x = nI j → in32 x 3 7 = true := by
    intro j h1 h2 e
    rw [e, in32_t, mi_t (by omega), show (3 : Int32).toInt = 3 from rfl, show (7 : Int32).toInt = 7 from rfl]
    omega
  have rdw : ∀ i, ak_I (to M 0) 484 i = ro M i := fun i => congrFun (to_r 0) i
  by_cases d0 : x = 0
  · have e : sp_92 (ro M) nk (ak_I M 483 7) x = ro M 1 := by subst d0; rfl
    rw [e]
    exact cm_v (t_215 hL x fun N eN => by subst eN; exact mb_y d0 ⟨_, _, l1, s168, rfl⟩) (to_f hL 0) (to_0 _)
  by_cases d1 : x = 1
  · have e : sp_92 (ro M) nk (ak_I M 483 7) x = ro M 2 := by subst d1; rfl
    rw [e]
    exact cm_v (M' := to M 0) (t_215 hL x fun N eN => by subst eN; exact mb_n d0 (mb_y d1 ⟨2, ⟨rfl, rfl⟩, by rw [show ∀ i, ak_I (ak_sI M 483 0 0) 484 i = ro M i from rdw]; rfl⟩)) (to_f hL 0) (to_0 _)
  by_cases d2 : x = 2
  · have e : sp_92 (ro M) nk (ak_I M 483 7) x = ro M 0 := by subst d2; rfl
    rw [e]
    exact cm_v (M' := to M 0) (t_215 hL x fun N eN => by subst eN; exact mb_n d0 (mb_n d1 (mb_y d2 ⟨0, ⟨rfl, rfl⟩, by rw [show ∀ i, ak_I (ak_sI M 483 0 0) 484 i = ro M i from rdw]; rfl⟩))) (to_f hL 0) (to_0 _)
  by_cases d3 : x = 3
  · have e : sp_92 (ro M) nk (ak_I M 483 7) x = mo_ins (ro M) (x - 3) nk := if_pos (in37 3 (by decide) (by decide) d3)
    rw [e]
    exact cm_v (t_215 hL x fun N eN => by subst eN; exact mb_n d0 (mb_n d1 (mb_n d2 (mb_y d3 ⟨_, _, l1, s214, rfl⟩)))) (to_f hL 0) (to_0 _)
  by_cases d4 : x = 4
  · have e : sp_92 (ro M) nk (ak_I M 483 7) x = mo_ins (ro M) (x - 3) nk := if_pos (in37 4 (by decide) (by decide) d4)
    rw [e]
    exact cm_v (t_215 hL x fun N eN => by subst eN; exact mb_n d0 (mb_n d1 (mb_n d2 (mb_n d3 (mb_y d4 ⟨_, _, l1, s214, rfl⟩))))) (to_f hL 0) (to_0 _)
  by_cases d5 : x = 5
  · have e : sp_92 (ro M) nk (ak_I M 483 7) x = mo_ins (ro M) (x - 3) nk := if_pos (in37 5 (by decide) (by decide) d5)
    rw [e]
    exact cm_v (t_215 hL x fun N eN => by subst eN; exact mb_n d0 (mb_n d1 (mb_n d2 (mb_n d3 (mb_n d4 (mb_y d5 ⟨_, _, l1, s214, rfl⟩)))))) (to_f hL 0) (to_0 _)
  by_cases d6 : x = 6
  · have e : sp_92 (ro M) nk (ak_I M 483 7) x = mo_ins (ro M) (x - 3) nk := if_pos (in37 6 (by decide) (by decide) d6)
    rw [e]
    exact cm_v (t_215 hL x fun N eN => by subst eN; exact mb_n d0 (mb_n d1 (mb_n d2 (mb_n d3 (mb_n d4 (mb_n d5 (mb_y d6 ⟨_, _, l1, s214, rfl⟩))))))) (to_f hL 0) (to_0 _)
  by_cases d7 : x = 7
  · have e : sp_92 (ro M) nk (ak_I M 483 7) x = mo_ins (ro M) (x - 3) nk := if_pos (in37 7 (by decide) (by decide) d7)
    rw [e]
    exact cm_v (t_215 hL x fun N eN => by subst eN; exact mb_n d0 (mb_n d1 (mb_n d2 (mb_n d3 (mb_n d4 (mb_n d5 (mb_n d6 (mb_y d7 ⟨_, _, l1, s214, rfl⟩)))))))) (to_f hL 0) (to_0 _)
  have hn : ¬ in32 x 3 7 = true := by
    intro h
    rw [in32_t, show (3 : Int32).toInt = 3 from rfl, show (7 : Int32).toInt = 7 from rfl] at h
    rcases (show x.toInt = 3 ∨ x.toInt = 4 ∨ x.toInt = 5 ∨ x.toInt = 6 ∨ x.toInt = 7 by omega) with e | e | e | e | e
    · exact d3 (by rw [← Int32.toInt_inj, e]; rfl)
    · exact d4 (by rw [← Int32.toInt_inj, e]; rfl)
    · exact d5 (by rw [← Int32.toInt_inj, e]; rfl)
    · exact d6 (by rw [← Int32.toInt_inj, e]; rfl)
    · exact d7 (by rw [← Int32.toInt_inj, e]; rfl)
  by_cases d8 : x = 8
  · have e : sp_92 (ro M) nk (ak_I M 483 7) x = ro M 9 := by unfold sp_92; rw [if_neg hn, if_neg d0, if_neg d1, if_neg d2, if_pos d8]
    rw [e]
    exact cm_v (M' := to M 0) (t_215 hL x fun N eN => by subst eN; exact mb_n d0 (mb_n d1 (mb_n d2 (mb_n d3 (mb_n d4 (mb_n d5 (mb_n d6 (mb_n d7 (mb_y d8 ⟨9, ⟨rfl, rfl⟩, by rw [show ∀ i, ak_I (ak_sI M 483 0 0) 484 i = ro M i from rdw]; rfl⟩))))))))) (to_f hL 0) (to_0 _)
  by_cases d9 : x = 9
  · have e : sp_92 (ro M) nk (ak_I M 483 7) x = ro M 10 := by unfold sp_92; rw [if_neg hn, if_neg d0, if_neg d1, if_neg d2, if_neg d8, if_pos d9]
    rw [e]
    exact cm_v (M' := to M 0) (t_215 hL x fun N eN => by subst eN; exact mb_n d0 (mb_n d1 (mb_n d2 (mb_n d3 (mb_n d4 (mb_n d5 (mb_n d6 (mb_n d7 (mb_n d8 (mb_y d9 ⟨10, ⟨rfl, rfl⟩, by rw [show ∀ i, ak_I (ak_sI M 483 0 0) 484 i = ro M i from rdw]; rfl⟩)))))))))) (to_f hL 0) (to_0 _)
  by_cases d10 : x = 10
  · have e : sp_92 (ro M) nk (ak_I M 483 7) x = mo_prs (ro M) false nk := by unfold sp_92; rw [if_neg hn, if_neg d0, if_neg d1, if_neg d2, if_neg d8, if_neg d9, if_pos d10]
    rw [e]
    obtain ⟨M', s, f⟩ := sm_202 (X := X) l1 v1 false
    rw [to_r] at s
    exact cm_v (t_215 hL x fun N eN => by subst eN; exact mb_n d0 (mb_n d1 (mb_n d2 (mb_n d3 (mb_n d4 (mb_n d5 (mb_n d6 (mb_n d7 (mb_n d8 (mb_n d9 (mb_y d10 ⟨_, M', f.1, s, rfl⟩))))))))))) ((to_f hL 0).tr (f.mo fun _ _ => pq_q1)) (tz f)
  by_cases d11 : x = 11
  · have e : sp_92 (ro M) nk (ak_I M 483 7) x = mo_prs (ro M) true nk := by unfold sp_92; rw [if_neg hn, if_neg d0, if_neg d1, if_neg d2, if_neg d8, if_neg d9, if_neg d10, if_pos d11]
    rw [e]
    obtain ⟨M', s, f⟩ := sm_202 (X := X) l1 v1 true
    rw [to_r] at s
    exact cm_v (t_215 hL x fun N eN => by subst eN; exact mb_n d0 (mb_n d1 (mb_n d2 (mb_n d3 (mb_n d4 (mb_n d5 (mb_n d6 (mb_n d7 (mb_n d8 (mb_n d9 (mb_n d10 (mb_y d11 ⟨_, M', f.1, s, rfl⟩)))))))))))) ((to_f hL 0).tr (f.mo fun _ _ => pq_q1)) (tz f)
  by_cases d12 : x = 12
  · have e : sp_92 (ro M) nk (ak_I M 483 7) x = ak_I M 483 7 := by unfold sp_92; rw [if_neg hn, if_neg d0, if_neg d1, if_neg d2, if_neg d8, if_neg d9, if_neg d10, if_neg d11, if_pos d12]
    rw [e]
    exact cm_v (M' := to M 0) (t_215 hL x fun N eN => by subst eN; exact mb_n d0 (mb_n d1 (mb_n d2 (mb_n d3 (mb_n d4 (mb_n d5 (mb_n d6 (mb_n d7 (mb_n d8 (mb_n d9 (mb_n d10 (mb_n d11 (mb_y d12 (by rw [← e7]; rfl)))))))))))))) (to_f hL 0) (to_0 _)
  · have e : sp_92 (ro M) nk (ak_I M 483 7) x = (-1) := by unfold sp_92; rw [if_neg hn, if_neg d0, if_neg d1, if_neg d2, if_neg d8, if_neg d9, if_neg d10, if_neg d11, if_neg d12]
    rw [e]
    exact cm_v (M' := to M 0) (t_215 hL x fun N eN => by subst eN; exact mb_n d0 (mb_n d1 (mb_n d2 (mb_n d3 (mb_n d4 (mb_n d5 (mb_n d6 (mb_n d7 (mb_n d8 (mb_n d9 (mb_n d10 (mb_n d11 (mb_n d12 rfl))))))))))))) (to_f hL 0) (to_0 _)
end SMR
