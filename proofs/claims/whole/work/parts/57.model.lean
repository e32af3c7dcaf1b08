/-! the model's runs: drifting, a tick, ticks -/
section SGW1
variable {X : ak_X} {M : ak_M} {nk nw ne : Nat}
theorem sm_211b {σ : Nat → Int32} (hv : vs σ nk nw ne) {o2 : Option Value} {M0 : ak_M} (m0 : mr M σ M0) : ∃ M', sg X 211 (66, [some (.ref 483), some (.int 0), o2], [], []) M0 (.inl none, M') ∧ mr M (mo_pks σ nk nk) M' := by
  suffices H : ∀ i, i ≤ nk → ∀ M1 o2, mr M (mo_pks σ nk i) M1 → ∃ M', sg X 211 (66, [some (.ref 483), some (.int (nI i)), o2], [], []) M1 (.inl none, M') ∧ mr M (mo_pks σ nk nk) M' from H 0 (Nat.zero_le _) M0 o2 m0
  refine mb_up ?_ ?_
  · intro M1 o2 m1
    obtain ⟨n', v'⟩ := pks_vs hv nk (Nat.le_refl _)
    exact ⟨M1, t_211_66 m1.1.1 _ _ ⟨_, M1, m1.1.1, sm_168 m1.1.1, mb_y (by rw [m1.2]; exact ct_ge v'.1) rfl⟩, m1⟩
  · intro i hi ih M1 o2 m1
    obtain ⟨n', v'⟩ := pks_vs hv i (by omega)
    have hi10 : i < 10 := Nat.lt_of_lt_of_le hi v'.1.1
    have l1 := m1.1.1
    have ih := fun M2 o2 (m : mr M (mo_pk1 (mo_pks σ nk i) nk i) M2) => ih M2 o2 m
    have s0 := sm_171 (X := X) (w := 0) l1 hi10 (by decide)
    have s1 := sm_171 (X := X) (w := 1) l1 hi10 (by decide)
    have s2 := sm_171 (X := X) (w := 2) l1 hi10 (by decide)
    have s3 := sm_203 (X := X) (M := M1) l1 (nk := nk) (nw := nw) (ne := n') (by rw [m1.2]; exact v'.1) (x := kf (mo_pks σ nk i) i 1) (y := kf (mo_pks σ nk i) i 2) (bt := nI i)
    rw [m1.2] at s0 s1 s2 s3
    have c1 : ¬ ro M1 1 ≤ nI i := by rw [m1.2]; exact ct_lt v'.1 hi
    generalize mo_pks σ nk i = τ at *
    unfold mo_pk1 at ih
    by_cases h3 : kf τ i 0 = 3
    · rw [if_pos h3] at ih
      cases hp : (mo_pkr τ (kf τ i 1) (kf τ i 2) (nI i) nk).1 with
      | none =>
        rw [hp] at ih s3
        obtain ⟨M', h', m'⟩ := ih M1 (some (.int (-1))) m1
        refine ⟨M', t_211_66 l1 _ _ ⟨_, M1, l1, sm_168 l1, mb_n c1 ⟨_, M1, l1, s0, mb_y h3 ⟨_, M1, l1, s1, _, M1, l1, s2, _, M1, l1, s3, mb_y rfl ?_⟩⟩⟩, m'⟩
        rw [mi_s]
        exact h'
      | some b =>
        rw [hp] at ih s3
        have hb10 : b < 10 := Nat.lt_of_lt_of_le (mo_pkr_lt _ _ _ _ _ _ hp).1 v'.1.1
        have k1 := m1.st (M2 := ak_sI M1 484 (23 + 15 * i + 0) 4) rfl
        generalize g1 : ak_sI M1 484 (23 + 15 * i + 0) 4 = M2 at k1
        have k2 := k1.st (M2 := ak_sI M2 484 (23 + 15 * i + 12) (nI b)) rfl
        generalize g2 : ak_sI M2 484 (23 + 15 * i + 12) (nI b) = M3 at k2
        have k3 := k2.st (M2 := ak_sI M3 484 (23 + 15 * b + 11) (kf (ro M3) b 11 + 2)) rfl
        generalize g3 : ak_sI M3 484 (23 + 15 * b + 11) (kf (ro M3) b 11 + 2) = M4 at k3
        rw [k2.2] at k3
        have v4 := vs_lay (vs_lay (vs_lay v' hi10 (w := 0) (v := 4) (by decide) fun _ => by decide) hi10 (w := 12) (v := nI b) (by decide) fun _ => rg_hi (by decide)) hb10 (w := 11) (v := kf (lay (lay τ i 0 4) i 12 (nI b)) b 11 + 2) (by decide) fun _ => rg_hi (by decide)
        obtain ⟨M5, h5, m5⟩ := sm_187 (X := X) k3.1.1 (kd := 3) (o := nI b) (nk := nk) (nw := nw) (ne := n') (by rw [k3.2]; exact v4.1) hi10
        rw [k3.2] at m5
        obtain ⟨M', h', m'⟩ := ih M5 (some (.int (nI b))) (k3.tr m5)
        refine ⟨M', t_211_66 l1 _ _ ⟨_, M1, l1, sm_168 l1, mb_n c1 ⟨_, M1, l1, s0, mb_y h3 ⟨_, M1, l1, s1, _, M1, l1, s2, _, M1, l1, s3, mb_n (mi_n1 (by omega)) ⟨M2, k1.1.1, by rw [← g1]; exact sm_172 (w := 0) l1 hi10 (by decide), M3, k2.1.1, by rw [← g2]; exact sm_172 (w := 12) k1.1.1 hi10 (by decide), M4, k3.1.1, by rw [← g3]; exact sm_173 (w := 11) k2.1.1 hb10 (by decide), M5, m5.1.1, h5, ?_⟩⟩⟩⟩, m'⟩
        rw [mi_s]
        exact h'
    · rw [if_neg h3] at ih
      obtain ⟨M', h', m'⟩ := ih M1 o2 m1
      refine ⟨M', t_211_66 l1 _ _ ⟨_, M1, l1, sm_168 l1, mb_n c1 ⟨_, M1, l1, s0, mb_n h3 ?_⟩⟩, m'⟩
      rw [mi_s]
      exact h'
theorem sm_211 (hL : ab_lay M) (hv : vs (ro M) nk nw ne) {d : Nat → Bool} (hd : ∀ j, j < nk → ak_I M 494 j = bI (d j)) : ∃ M', rn X 211 [.ref 483] M (.inl none, M') ∧ mr M (mo_pks (mo_drs d (ro M) nk) nk nk) M' := by
  suffices H : ∀ i, i ≤ nk → ∀ M1 o2, mr M (mo_drs d (ro M) i) M1 → ∃ M', sg X 211 (2, [some (.ref 483), some (.int (nI i)), o2], [], []) M1 (.inl none, M') ∧ mr M (mo_pks (mo_drs d (ro M) nk) nk nk) M' by
    obtain ⟨M', h, m⟩ := H 0 (Nat.zero_le _) M none ⟨fr.rf hL, rfl⟩
    exact ⟨M', t_211 hL h, m⟩
  refine mb_up ?_ ?_
  · intro M1 o2 m1
    obtain ⟨n', v'⟩ := drs_vs (d := d) hv nk (Nat.le_refl _)
    obtain ⟨M', h, m⟩ := sm_211b (X := X) (o2 := o2) v' m1
    exact ⟨M', t_211_2 m1.1.1 _ _ ⟨_, M1, m1.1.1, sm_168 m1.1.1, mb_y (by rw [m1.2]; exact ct_ge v'.1) h⟩, m⟩
  · intro i hi ih M1 o2 m1
    obtain ⟨n', v'⟩ := drs_vs (d := d) hv i (by omega)
    have hi10 : i < 10 := Nat.lt_of_lt_of_le hi v'.1.1
    have l1 := m1.1.1
    have ih := fun M2 o2 (m : mr M (mo_dr1 d (mo_drs d (ro M) i) i) M2) => ih M2 o2 m
    have c1 : ¬ ro M1 1 ≤ nI i := by rw [m1.2]; exact ct_lt v'.1 hi
    have ed : ak_I M1 494 i = bI (d i) := by rw [m1.1.row (tk_r (by decide))]; exact hd i hi
    have ix : ab_ix (nI i) i 10 := mb_ix hi10 (by decide)
    generalize mo_drs d (ro M) i = τ at *
    unfold mo_dr1 at ih
    cases hdi : d i
    · rw [hdi, if_neg (by decide)] at ih
      rw [hdi] at ed
      obtain ⟨M', h', m'⟩ := ih M1 o2 m1
      refine ⟨M', t_211_2 l1 _ _ ⟨_, M1, l1, sm_168 l1, mb_n c1 ⟨i, ix, mb_y ed ?_⟩⟩, m'⟩
      rw [mi_s]
      exact h'
    · rw [hdi, if_pos rfl] at ih
      rw [hdi] at ed
      obtain ⟨M4, h4, m4⟩ := sm_205 (X := X) l1 (nk := nk) (nw := nw) (ne := n') (by rw [m1.2]; exact v'.1) hi10
      rw [m1.2] at m4
      have k4 := m1.tr m4
      have v4 := blow_vs v' hi10
      obtain ⟨M5, h5, m5⟩ := sm_206 (X := X) k4.1.1 hi10
      rw [k4.2] at m5
      have k5 := k4.tr m5
      have v5 := sink_vs v4 hi
      have s3 := sm_171 (X := X) (w := 3) k5.1.1 hi10 (by decide)
      rw [k5.2] at s3
      generalize mo_sink (mo_blow τ i) i = u at *
      by_cases hz : kf u i 3 ≤ 0
      · rw [if_pos hz] at ih
        have k6 := k5.st (M2 := ak_sI M5 484 (23 + 15 * i + 0) 3) rfl
        generalize g6 : ak_sI M5 484 (23 + 15 * i + 0) 3 = M6 at k6
        have v6 := vs_lay v5 hi10 (w := 0) (v := 3) (by decide) fun _ => by decide
        obtain ⟨M7, h7, m7⟩ := sm_187 (X := X) k6.1.1 (kd := 2) (o := -1) (nk := nk) (nw := nw) (ne := n') (by rw [k6.2]; exact v6.1) hi10
        rw [k6.2] at m7
        obtain ⟨M', h', m'⟩ := ih M7 o2 (k6.tr m7)
        refine ⟨M', t_211_2 l1 _ _ ⟨_, M1, l1, sm_168 l1, mb_n c1 ⟨i, ix, mb_n (by rw [ed]; decide) ⟨M4, m4.1.1, h4, M5, m5.1.1, h5, _, M5, k5.1.1, s3, mb_y hz ⟨M6, k6.1.1, by rw [← g6]; exact sm_172 (w := 0) k5.1.1 hi10 (by decide), M7, m7.1.1, h7, ?_⟩⟩⟩⟩, m'⟩
        rw [mi_s]
        exact h'
      · rw [if_neg hz] at ih
        obtain ⟨M', h', m'⟩ := ih M5 o2 k5
        refine ⟨M', t_211_2 l1 _ _ ⟨_, M1, l1, sm_168 l1, mb_n c1 ⟨i, ix, mb_n (by rw [ed]; decide) ⟨M4, m4.1.1, h4, M5, m5.1.1, h5, _, M5, k5.1.1, s3, mb_n hz ?_⟩⟩⟩, m'⟩
        rw [mi_s]
        exact h'
theorem bool_n (b : Bool) : vp_nar .boolean (bI b) = bI b := by cases b <;> rfl
/-- a run of the model's ticks -/
def mt (M : ak_M) (σ : Nat → Int32) (M' : ak_M) : Prop := fr mo_tt M M' ∧ ro M' = σ
theorem mt.tr {M M1 M2 : ak_M} {σ τ : Nat → Int32} (a : mt M σ M1) (b : mt M1 τ M2) : mt M τ M2 := ⟨a.1.tr b.1, b.2⟩
theorem sm_212b {σ0 : Nat → Int32} (hv : vs σ0 nk nw ne) {M0 : ak_M} (m0 : mt M σ0 M0) (hd : ∀ j, j < nk → ak_I M0 494 j = bI (decide (kf σ0 j 0 = 2))) : ∃ M', sg X 212 (39, [some (.ref 483), some (.int 0)], [], []) M0 (.inl none, M') ∧ mt M (mo_tick σ0 nk) M' := by
  suffices H : ∀ i, i ≤ nk → ∀ M1, mt M (mo_fls σ0 i) M1 → (∀ j, j < nk → ak_I M1 494 j = bI (decide (kf σ0 j 0 = 2))) → ∃ M', sg X 212 (39, [some (.ref 483), some (.int (nI i))], [], []) M1 (.inl none, M') ∧ mt M (mo_tick σ0 nk) M' from H 0 (Nat.zero_le _) M0 m0 hd
  refine mb_up ?_ ?_
  · intro M1 m1 d1
    have l1 := m1.1.1
    obtain ⟨n1, v1⟩ := fls_vs hv nk (Nat.le_refl _)
    obtain ⟨M15, h15, f15, r15⟩ := sm_210 (X := X) l1 (nk := nk) (nw := nw) (ne := n1) (by rw [m1.2]; exact v1)
    rw [m1.2] at r15
    obtain ⟨n2, v2⟩ := cuts_vs v1 nk (Nat.le_refl _)
    obtain ⟨M16, h16, m16⟩ := sm_211 (X := X) f15.1 (nk := nk) (nw := nw) (ne := n2) (d := fun j => decide (kf σ0 j 0 = 2)) (by rw [r15]; exact v2) (fun j hj => by rw [f15.row tr_r]; exact d1 j hj)
    rw [r15] at m16
    have F : mt M _ M16 := ⟨(m1.1.tr (f15.mo fun _ _ => tr_tt)).tr (m16.1.mo fun _ _ h => Or.inl h), m16.2⟩
    refine ⟨ak_sI M16 484 0 (ak_I M16 484 0 + 1), t_212_39 l1 _ ⟨_, M1, l1, sm_168 l1, mb_y (by rw [m1.2]; exact ct_ge v1.1) ⟨M15, f15.1, h15, M16, m16.1.1, h16, 0, ⟨rfl, rfl⟩, 0, ⟨rfl, rfl⟩, fun N e => by rw [e]⟩⟩, F.1.st (Or.inl (Or.inl rfl)), ?_⟩
    show up (ro M16) 0 (ro M16 0 + 1) = _
    rw [F.2]
    rfl
  · intro i hi ih M1 m1 d1
    have l1 := m1.1.1
    obtain ⟨n', v'⟩ := fls_vs hv i (by omega)
    have hi10 : i < 10 := Nat.lt_of_lt_of_le hi v'.1.1
    have c1 : ¬ ro M1 1 ≤ nI i := by rw [m1.2]; exact ct_lt v'.1 hi
    have s := sm_175 (X := X) l1 hi10
    rw [m1.2] at s
    rw [mo_fls_s] at ih
    cases hf : mo_fly (mo_fls σ0 i) i
    · rw [hf, if_neg (by decide)] at ih
      rw [hf] at s
      obtain ⟨M', h', m'⟩ := ih M1 m1 d1
      refine ⟨M', t_212_39 l1 _ ⟨_, M1, l1, sm_168 l1, mb_n c1 ⟨_, M1, l1, s, mb_y rfl ?_⟩⟩, m'⟩
      rw [mi_s]
      exact h'
    · rw [hf, if_pos rfl] at ih
      rw [hf] at s
      obtain ⟨M2, h2, m2⟩ := sm_209 (X := X) l1 (nk := nk) (nw := nw) (ne := n') (by rw [m1.2]; exact v') hi
      rw [m1.2] at m2
      obtain ⟨M', h', m'⟩ := ih M2 ⟨m1.1.tr (m2.1.mo fun _ _ h => Or.inl h), m2.2⟩ (fun j hj => by rw [m2.1.row (tk_r (by decide))]; exact d1 j hj)
      refine ⟨M', t_212_39 l1 _ ⟨_, M1, l1, sm_168 l1, mb_n c1 ⟨_, M1, l1, s, mb_n (by decide) ⟨M2, m2.1.1, h2, ?_⟩⟩⟩, m'⟩
      rw [mi_s]
      exact h'
theorem sm_212 (hL : ab_lay M) (hv : vs (ro M) nk nw ne) : ∃ M', rn X 212 [.ref 483] M (.inl none, M') ∧ mt M (mo_tick (ro M) nk) M' := by
  suffices H : ∀ i, i ≤ nk → ∀ M1, mt M (ro M) M1 → (∀ j, j < i → ak_I M1 494 j = bI (decide (kf (ro M) j 0 = 2))) → ∃ M', sg X 212 (2, [some (.ref 483), some (.int (nI i))], [], []) M1 (.inl none, M') ∧ mt M (mo_tick (ro M) nk) M' by
    obtain ⟨M', h, m⟩ := H 0 (Nat.zero_le _) M ⟨fr.rf hL, rfl⟩ (fun j hj => absurd hj (Nat.not_lt_zero _))
    exact ⟨M', t_212 hL h, m⟩
  refine mb_up ?_ ?_
  · intro M1 m1 d1
    have l1 := m1.1.1
    obtain ⟨M', h, m⟩ := sm_212b (X := X) hv m1 d1
    exact ⟨M', t_212_2 l1 _ ⟨_, M1, l1, sm_168 l1, mb_y (by rw [m1.2]; exact ct_ge hv.1) h⟩, m⟩
  · intro i hi ih M1 m1 d1
    have l1 := m1.1.1
    have hi10 : i < 10 := Nat.lt_of_lt_of_le hi hv.1.1
    have c1 : ¬ ro M1 1 ≤ nI i := by rw [m1.2]; exact ct_lt hv.1 hi
    have s := sm_171 (X := X) (w := 0) l1 hi10 (by decide)
    rw [m1.2] at s
    have ix : ab_ix (nI i) i 10 := mb_ix hi10 (by decide)
    have go : ∀ M2, M2 = ak_sI M1 494 i (bI (decide (kf (ro M) i 0 = 2))) → ∃ M', sg X 212 (2, [some (.ref 483), some (.int (nI i + 1))], [], []) M2 (.inl none, M') ∧ mt M (mo_tick (ro M) nk) M' := by
      intro M2 e
      rw [mi_s]
      refine ih M2 ⟨by rw [e]; exact m1.1.st (Or.inr ⟨by decide, by decide⟩), by rw [← m1.2, e]; exact mb_sIr (by decide)⟩ (fun j hj => ?_)
      rw [e, mb_sI]
      by_cases hj : j = i
      · rw [if_pos ⟨rfl, hj⟩, hj]
      · rw [if_neg (fun e => hj e.2)]; exact d1 j (by omega)
    by_cases h2 : kf (ro M) i 0 = 2
    · obtain ⟨M', h', m'⟩ := go _ rfl
      refine ⟨M', t_212_2 l1 _ ⟨_, M1, l1, sm_168 l1, mb_n c1 ⟨_, M1, l1, s, mb_y h2 ⟨i, ix, fun N e => ?_⟩⟩⟩, m'⟩
      rw [decide_eq_true h2] at h'
      rw [e]
      exact h'
    · obtain ⟨M', h', m'⟩ := go _ rfl
      refine ⟨M', t_212_2 l1 _ ⟨_, M1, l1, sm_168 l1, mb_n c1 ⟨_, M1, l1, s, mb_n h2 ⟨i, ix, fun N e => ?_⟩⟩⟩, m'⟩
      rw [decide_eq_false h2] at h'
      rw [e]
      exact h'
theorem sm_213 (hL : ab_lay M) (hv : vs (ro M) nk nw ne) {t : Nat} (ht : t ≤ 1000) : ∃ M', rn X 213 [.ref 483, .int (nI t)] M (.inl none, M') ∧ mt M (mo_ts (ro M) nk t) M' := by
  suffices H : ∀ d i, i + d = t → ∀ M1 σ ne, mt M σ M1 → vs σ nk nw ne → ∃ M', sg X 213 (2, [some (.ref 483), some (.int (nI t)), some (.int (nI i))], [], []) M1 (.inl none, M') ∧ mt M (mo_ts σ nk d) M' by
    obtain ⟨M', h, m⟩ := H t 0 (by omega) M _ _ ⟨fr.rf hL, rfl⟩ hv
    exact ⟨M', t_213 hL _ h, m⟩
  intro d
  induction d with
  | zero =>
    intro i hi M1 σ ne m1 v1
    have e : i = t := by omega
    subst e
    exact ⟨M1, t_213_2 m1.1.1 _ _ (mb_y (Int32.le_refl _) rfl), m1⟩
  | succ d ih =>
    intro i hi M1 σ ne m1 v1
    have l1 := m1.1.1
    have c0 : ¬ nI t ≤ nI i := by rw [mi_le (by omega) (by omega)]; omega
    have e0 : ak_I M1 484 0 = σ 0 := congrFun m1.2 0
    unfold mo_ts
    by_cases hs : σ 0 < 5000
    · rw [if_pos hs]
      obtain ⟨n', v'⟩ := tick_vs v1 hs
      obtain ⟨M2, h2, m2⟩ := sm_212 (X := X) l1 (nk := nk) (nw := nw) (ne := ne) (by rw [m1.2]; exact v1)
      rw [m1.2] at m2
      obtain ⟨M', h', m'⟩ := ih (i + 1) (by omega) M2 _ _ (m1.tr m2) v'
      refine ⟨M', t_213_2 l1 _ _ (mb_n c0 ⟨0, ⟨rfl, rfl⟩, mb_n (by rw [e0]; exact mb_le.mpr hs) ⟨M2, m2.1.1, h2, ?_⟩⟩), m'⟩
      rw [mi_s]
      exact h'
    · rw [if_neg hs]
      exact ⟨M1, t_213_2 l1 _ _ (mb_n c0 ⟨0, ⟨rfl, rfl⟩, mb_y (by rw [e0]; exact mb_lt.mp hs) rfl⟩), m1⟩
end SGW1
