/-! the class: a kite flies, drifts, is picked up -/
section SGFL
variable {X : ak_X} {M M' : ak_M} {b k nk nw ne fe : Nat} {σ τ : Nat → Int32}
/-- a change of the field, whatever becomes of its events -/
def ch (b : Nat) (σ : Nat → Int32) (nk nw : Nat) (M M' : ak_M) : Prop := ∃ n f, vs σ nk nw n ∧ cr b σ nk nw n f M M'
theorem ch.tr {M1 M2 : ak_M} (h : ch b σ nk nw M M1) (g : ch b τ nk nw M1 M2) : ch b τ nk nw M M2 := by
  obtain ⟨_, _, _, c⟩ := h
  obtain ⟨n, f, v, d⟩ := g
  exact ⟨n, f, v, c.1.tr d.1, d.2⟩
theorem ch.hap {M1 : ak_M} (h : ch b σ nk nw M M1) (hb : b ∈ ab_fb) (hk : k < nk) {kd o : Int32} (h1 : in32 kd 0 4 = true) (h3 : in32 o (-1) 9 = true) : ∃ M', rn X 18 [.ref b, .int kd, .int (nI k), .int o] M1 (.inl none, M') ∧ ch b (mo_hapAt σ kd k o) nk nw M M' := by
  obtain ⟨n, f, v, c⟩ := h
  obtain ⟨M', r, d⟩ := sk_18 (X := X) c.1.1 hb c.2 v.1 hk (kd := kd) (o := o)
  exact ⟨M', r, _, _, hap_vs v h1 (in_k (Nat.lt_of_lt_of_le hk v.1.1)) h3, c.1.tr d.1, d.2⟩
theorem h_eq0 (h : vs σ nk nw ne) (hk : k < nk) : kf σ k 3 = 0 ↔ kf σ k 3 ≤ 0 := by
  have h3 := mi_300 (h.kp hk).2.2.1
  rw [Int32.le_iff_toInt_le, ← Int32.toInt_inj, mb_i0]
  omega
theorem sk_22 (hL : ab_lay M) (hb : b ∈ ab_fb) (hR : Rb b σ nk nw ne fe M) (hv : vs σ nk nw ne) (hk : k < nk) : ∃ M', rn X 22 [.ref b, .int (nI k)] M (.inl none, M') ∧ ch b (mo_goes σ k) nk nw M M' := by
  have hc := hv.1
  have hk10 : k < 10 := Nat.lt_of_lt_of_le hk hc.1
  have hw := mo_wind_lt σ (kf σ k 3) nw hc.2.1.1
  have hw4 : mo_wind σ (kf σ k 3) nw < 4 := Nat.lt_of_lt_of_le hw hc.2.1.2
  have ixk : ab_ix (nI k) k 10 := mb_ix hk10 (by decide)
  have ixw : ab_ix (nI (mo_wind σ (kf σ k 3) nw)) (mo_wind σ (kf σ k 3) nw) 4 := mb_ix hw4 (by decide)
  have s12 := sk_12 (X := X) hL hb hR hc (h := kf σ k 3)
  have k0 : cr b σ nk nw ne fe M M := ⟨fr.rf hL, hR⟩
  generalize g7 : ak_sI M (b + 6 + k) 6 (mx32 1 (mn32 400 (kf σ k 6 + kf σ k 7))) = M7
  have k7 : cr b (mo_g1 σ k) nk nw ne fe M M7 := k0.lay hc hk (by decide) g7.symm
  have v7 := g1_vs hv hk10
  have ew : mo_wind (mo_g1 σ k) (kf (mo_g1 σ k) k 3) nw = mo_wind σ (kf σ k 3) nw := by
    have e3 : kf (mo_g1 σ k) k 3 = kf σ k 3 := kf_n (by decide) (by decide) (by omega)
    rw [e3]
    have : ∀ n, n ≤ 4 → mo_wind (mo_g1 σ k) (kf σ k 3) n = mo_wind σ (kf σ k 3) n := by
      intro n
      induction n with
      | zero => intro _; rfl
      | succ n ih =>
        intro hn
        unfold mo_wind
        rw [ih (by omega), show wf (mo_g1 σ k) n 0 = wf σ n 0 from wf_lay (by omega) (by decide)]
    exact this nw hc.2.1.2
  obtain ⟨M8, r8, c8⟩ := sk_45 (X := X) k7.1.1 hb k7.2 v7.1 hk
  rw [ew] at r8
  have k8 := k7.tr c8
  have v8 := blow_vs v7 hk10
  have s43 := (sk_43 (X := X) k8.1.1 hb k8.2 v8.1 hk (v8.kp hk)).1
  have e7 : kf (mo_blow (mo_g1 σ k) k) k 7 = kf σ k 7 := by
    unfold mo_blow mo_g1
    rw [kf_n (by decide) (by decide) (by omega), kf_n (by decide) (by decide) (by omega), kf_n (by decide) (by decide) (by omega)]
  have ew8 : mo_wind (mo_blow (mo_g1 σ k) k) (kf (mo_blow (mo_g1 σ k) k) k 3) nw = mo_wind σ (kf σ k 3) nw := by
    have e3 : kf (mo_blow (mo_g1 σ k) k) k 3 = kf σ k 3 := by
      unfold mo_blow mo_g1
      rw [kf_n (by decide) (by decide) (by omega), kf_n (by decide) (by decide) (by omega), kf_n (by decide) (by decide) (by omega)]
    rw [e3]
    have : ∀ n, n ≤ 4 → mo_wind (mo_blow (mo_g1 σ k) k) (kf σ k 3) n = mo_wind σ (kf σ k 3) n := by
      intro n
      induction n with
      | zero => intro _; rfl
      | succ n ih =>
        intro hn
        unfold mo_wind
        rw [ih (by omega)]
        have : wf (mo_blow (mo_g1 σ k) k) n 0 = wf σ n 0 := by
          unfold mo_blow mo_g1
          rw [wf_lay (by omega) (by decide), wf_lay (by omega) (by decide), wf_lay (by omega) (by decide)]
        rw [this]
    exact this nw hc.2.1.2
  have s84 := sk_84 (X := X) k8.1.1 hb k8.2 v8.1 hw
  have hup : mo_up (mo_blow (mo_g1 σ k) k) k = mo_blow (mo_g1 σ k) k 4 * mo_force (mo_blow (mo_g1 σ k) k) (mo_wind σ (kf σ k 3) nw) + (if 0 ≤ kf σ k 7 then 0 else mo_blow (mo_g1 σ k) k 5) := by
    unfold mo_up
    rw [ct_nW v8.1, ew8, e7]
  have goesE : mo_goes σ k = mo_g3 (mo_pl (mo_g2 (mo_blow (mo_g1 σ k) k) k) k 1000) k := rfl
  rw [goesE]
  generalize mo_blow (mo_g1 σ k) k = u at *
  -- behind the height
  have rest : ∀ h N, N = ak_sI M8 (b + 6 + k) 3 h → vs (lay u k 3 h) nk nw ne → mo_g2 u k = lay u k 3 h → ∃ M16, rn X 46 [.ref (b + 6 + k)] N (.inl none, M16) ∧ ab_lay M16 ∧ ∃ M', ch b (mo_g3 (mo_pl (mo_g2 u k) k 1000) k) nk nw M M' ∧ (if ak_I M16 (b + 6 + k) 3 = 0 then (∀ M17 : ak_M, M17 = ak_sI M16 (b + 6 + k) 0 1 → (∃ (M18 : ak_M), ab_lay M18 ∧ rn X 18 [.ref b, .int 0, .int (nI k), .int ((-1))] M17 (.inl (none), M18) ∧ ((.inl none, M') : ak_O × ak_M) = (.inl none, M18))) else ((.inl none, M') : ak_O × ak_M) = (.inl none, M16)) := by
    intro h N eN v9 e9
    have k9 := k8.lay v8.1 hk (w := 3) (v := h) (by decide) eN
    obtain ⟨M16, r16, c16⟩ := sk_46 (X := X) k9.1.1 hb k9.2 v9 hk
    have k16 := k9.tr c16
    have v16 := pl_vs 1000 v9 hk
    rw [e9]
    refine ⟨M16, r16, k16.1.1, ?_⟩
    rw [k16.2.kk hk (by decide)]
    unfold mo_g3
    generalize mo_pl (lay u k 3 h) k 1000 = z at *
    by_cases hz : kf z k 3 ≤ 0
    · rw [if_pos hz]
      have k17 := k16.lay v16.1 hk (w := 0) (v := 1) (M2 := ak_sI M16 (b + 6 + k) 0 1) (by decide) rfl
      have v17 := vs_lay v16 hk10 (w := 0) (v := 1) (by decide) fun _ => by decide
      obtain ⟨M18, r18, c18⟩ := ch.hap (X := X) ⟨_, _, v17, k17⟩ hb hk (kd := 0) (o := -1) (by decide) (by decide)
      have l18 : ab_lay M18 := by obtain ⟨_, _, _, d⟩ := c18; exact d.1.1
      exact ⟨M18, c18, mb_y ((h_eq0 v16 hk).mpr hz) fun N e => ⟨M18, l18, by rw [e]; exact r18, rfl⟩⟩
    · rw [if_neg hz]
      exact ⟨M16, ⟨_, _, v16, k16⟩, mb_n (fun e => hz ((h_eq0 v16 hk).mp e)) rfl⟩
  have head : ∀ {r}, (if u 3 < mo_slack u k then (∃ i12 : Nat, ab_ix 3 i12 6 ∧ (∃ (v14 : Int32) (M13 : ak_M), ab_lay M13 ∧ rn X 315 [.int 0, .int ((ak_I M8 (b + 6 + k) 3) - (ak_I M8 (b + 4) i12))] M8 (.inl (some (.int v14)), M13) ∧ (∀ M15 : ak_M, M15 = ak_sI M13 (b + 6 + k) 3 v14 → (∃ (M16 : ak_M), ab_lay M16 ∧ rn X 46 [.ref (b + 6 + k)] M15 (.inl (none), M16) ∧ (if ak_I M16 (b + 6 + k) 3 = 0 then (∀ M17 : ak_M, M17 = ak_sI M16 (b + 6 + k) 0 1 → (∃ (M18 : ak_M), ab_lay M18 ∧ rn X 18 [.ref b, .int 0, .int (nI k), .int ((-1))] M17 (.inl (none), M18) ∧ r = (.inl none, M18))) else r = (.inl none, M16)))))) else (if 0 ≤ kf σ k 7 then (∃ i23 : Nat, ab_ix 1 i23 6 ∧ (∃ (v25 : Int32) (M24 : ak_M), ab_lay M24 ∧ rn X 84 [.ref (b + 16 + mo_wind σ (kf σ k 3) nw)] M8 (.inl (some (.int v25)), M24) ∧ (∃ (v27 : Int32) (M26 : ak_M), ab_lay M26 ∧ rn X 316 [.int 300, .int (((ak_I M8 (b + 6 + k) 3) + ((ak_I M8 (b + 4) i23) * v25)) + 0)] M24 (.inl (some (.int v27)), M26) ∧ (∀ M28 : ak_M, M28 = ak_sI M26 (b + 6 + k) 3 v27 → (∃ (M29 : ak_M), ab_lay M29 ∧ rn X 46 [.ref (b + 6 + k)] M28 (.inl (none), M29) ∧ (if ak_I M29 (b + 6 + k) 3 = 0 then (∀ M30 : ak_M, M30 = ak_sI M29 (b + 6 + k) 0 1 → (∃ (M31 : ak_M), ab_lay M31 ∧ rn X 18 [.ref b, .int 0, .int (nI k), .int ((-1))] M30 (.inl (none), M31) ∧ r = (.inl none, M31))) else r = (.inl none, M29))))))) else (∃ i37 : Nat, ab_ix 2 i37 6 ∧ (∃ i38 : Nat, ab_ix 1 i38 6 ∧ (∃ (v40 : Int32) (M39 : ak_M), ab_lay M39 ∧ rn X 84 [.ref (b + 16 + mo_wind σ (kf σ k 3) nw)] M8 (.inl (some (.int v40)), M39) ∧ (∃ (v42 : Int32) (M41 : ak_M), ab_lay M41 ∧ rn X 316 [.int 300, .int (((ak_I M8 (b + 6 + k) 3) + ((ak_I M8 (b + 4) i38) * v40)) + (ak_I M8 (b + 4) i37))] M39 (.inl (some (.int v42)), M41) ∧ (∀ M43 : ak_M, M43 = ak_sI M41 (b + 6 + k) 3 v42 → (∃ (M44 : ak_M), ab_lay M44 ∧ rn X 46 [.ref (b + 6 + k)] M43 (.inl (none), M44) ∧ (if ak_I M44 (b + 6 + k) 3 = 0 then (∀ M45 : ak_M, M45 = ak_sI M44 (b + 6 + k) 0 1 → (∃ (M46 : ak_M), ab_lay M46 ∧ rn X 18 [.ref b, .int 0, .int (nI k), .int ((-1))] M45 (.inl (none), M46) ∧ r = (.inl none, M46))) else r = (.inl none, M44)))))))))) → rn X 22 [.ref b, .int (nI k)] M r := by
    intro r hr
    refine t_22 hL hb _ ⟨k, hk10, ixk, _, M, hL, by rw [hR.kk hk (by decide)]; exact s12, _, hw4, ixw, _, M, hL, sk_152 hL, fun N e => ?_⟩
    rw [hR.kk hk (by decide), hR.kk hk (by decide)] at e
    obtain rfl := e.trans g7
    refine ⟨M8, c8.1.1, r8, _, M8, c8.1.1, s43, 0, ⟨rfl, rfl⟩, ?_⟩
    rw [k8.2.s (by decide), k8.2.kk hk (w := 7) (by decide), e7]
    exact hr
  have e3 := k8.2.kk hk (w := 3) (by decide)
  by_cases hs : mo_slack u k ≤ u 3
  · have g2 : mo_g2 u k = lay u k 3 (mn32 300 (kf u k 3 + mo_up u k)) := by unfold mo_g2; rw [if_pos hs]; rfl
    have v9 : vs (lay u k 3 (mn32 300 (kf u k 3 + mo_up u k))) nk nw ne := climb_vs v8 hk
    by_cases h7 : 0 ≤ kf σ k 7
    · have eh : ak_I M8 (b + 6 + k) 3 + ak_I M8 (b + 4) 1 * mo_force u (mo_wind σ (kf σ k 3) nw) + 0 = kf u k 3 + mo_up u k := by
        rw [e3, k8.2.s (by decide), hup, if_pos h7, ← Int32.add_assoc]
      obtain ⟨M16, r16, l16, M', c', h'⟩ := rest _ _ rfl v9 g2
      refine ⟨M', head (mb_n (mb_lt.mpr hs) (mb_y h7 ⟨1, ⟨rfl, rfl⟩, _, M8, k8.1.1, s84, _, M8, k8.1.1, jm_min k8.1.1, fun N e => ⟨M16, l16, ?_, h'⟩⟩)), c'⟩
      rw [eh] at e
      rw [e]
      exact r16
    · have eh : ak_I M8 (b + 6 + k) 3 + ak_I M8 (b + 4) 1 * mo_force u (mo_wind σ (kf σ k 3) nw) + ak_I M8 (b + 4) 2 = kf u k 3 + mo_up u k := by
        rw [e3, k8.2.s (by decide), k8.2.s (by decide), hup, if_neg h7, ← Int32.add_assoc]
      obtain ⟨M16, r16, l16, M', c', h'⟩ := rest _ _ rfl v9 g2
      refine ⟨M', head (mb_n (mb_lt.mpr hs) (mb_n h7 ⟨2, ⟨rfl, rfl⟩, 1, ⟨rfl, rfl⟩, _, M8, k8.1.1, s84, _, M8, k8.1.1, jm_min k8.1.1, fun N e => ⟨M16, l16, ?_, h'⟩⟩)), c'⟩
      rw [eh] at e
      rw [e]
      exact r16
  · have g2 : mo_g2 u k = lay u k 3 (mx32 0 (kf u k 3 - u 6)) := by unfold mo_g2; rw [if_neg hs]; rfl
    have v9 : vs (lay u k 3 (mx32 0 (kf u k 3 - u 6))) nk nw ne := sink_vs v8 hk
    obtain ⟨M16, r16, l16, M', c', h'⟩ := rest _ _ rfl v9 g2
    refine ⟨M', head (mb_y (mb_le.mp hs) ⟨3, ⟨rfl, rfl⟩, _, M8, k8.1.1, jm_max k8.1.1, fun N e => ⟨M16, l16, ?_, h'⟩⟩), c'⟩
    rw [e3, k8.2.s (by decide)] at e
    rw [e]
    exact r16
theorem sk_26 (hL : ab_lay M) (hb : b ∈ ab_fb) (hR : Rb b σ nk nw ne fe M) (hv : vs σ nk nw ne) (hk : k < nk) {d : Nat → Bool} (hd : d k = true) : ∃ M', rn X 26 [.ref b, .int (nI k)] M (.inl none, M') ∧ ch b (mo_dr1 d σ k) nk nw M M' := by
  have hc := hv.1
  have hk10 : k < 10 := Nat.lt_of_lt_of_le hk hc.1
  have hw := mo_wind_lt σ (kf σ k 3) nw hc.2.1.1
  have hw4 : mo_wind σ (kf σ k 3) nw < 4 := Nat.lt_of_lt_of_le hw hc.2.1.2
  have k0 : cr b σ nk nw ne fe M M := ⟨fr.rf hL, hR⟩
  have s12 := sk_12 (X := X) hL hb hR hc (h := kf σ k 3)
  obtain ⟨M5, r5, c5⟩ := sk_45 (X := X) hL hb hR hc hk
  have v5 := blow_vs hv hk10
  have k9 := c5.lay v5.1 hk (w := 3) (v := mx32 0 (kf (mo_blow σ k) k 3 - mo_blow σ k 6)) (M2 := ak_sI M5 (b + 6 + k) 3 (mx32 0 (kf (mo_blow σ k) k 3 - mo_blow σ k 6))) (by decide) rfl
  have v9 : vs (lay (mo_blow σ k) k 3 (mx32 0 (kf (mo_blow σ k) k 3 - mo_blow σ k 6))) nk nw ne := sink_vs v5 hk
  have e3 := c5.2.kk hk (w := 3) (by decide)
  have e6 : ak_I M5 (b + 4) 3 = mo_blow σ k 6 := c5.2.s (by decide)
  unfold mo_dr1
  rw [if_pos hd]
  have es : mo_sink (mo_blow σ k) k = lay (mo_blow σ k) k 3 (mx32 0 (kf (mo_blow σ k) k 3 - mo_blow σ k 6)) := rfl
  rw [es]
  have head : ∀ {r}, (if kf (lay (mo_blow σ k) k 3 (mx32 0 (kf (mo_blow σ k) k 3 - mo_blow σ k 6))) k 3 = 0 then (∀ M10 : ak_M, M10 = ak_sI (ak_sI M5 (b + 6 + k) 3 (mx32 0 (kf (mo_blow σ k) k 3 - mo_blow σ k 6))) (b + 6 + k) 0 3 → (∃ (M11 : ak_M), ab_lay M11 ∧ rn X 18 [.ref b, .int 2, .int (nI k), .int ((-1))] M10 (.inl (none), M11) ∧ r = (.inl none, M11))) else r = (.inl none, (ak_sI M5 (b + 6 + k) 3 (mx32 0 (kf (mo_blow σ k) k 3 - mo_blow σ k 6))))) → rn X 26 [.ref b, .int (nI k)] M r := by
    intro r hr
    refine t_26 hL hb _ ⟨k, hk10, mb_ix hk10 (by decide), _, M, hL, by rw [hR.kk hk (by decide)]; exact s12, _, hw4, mb_ix hw4 (by decide), M5, c5.1.1, r5, 3, ⟨rfl, rfl⟩, _, M5, c5.1.1, jm_max c5.1.1, fun N e => ?_⟩
    rw [e3, e6] at e
    rw [e, k9.2.kk hk (by decide)]
    exact hr
  generalize ak_sI M5 (b + 6 + k) 3 (mx32 0 (kf (mo_blow σ k) k 3 - mo_blow σ k 6)) = M9 at *
  generalize lay (mo_blow σ k) k 3 (mx32 0 (kf (mo_blow σ k) k 3 - mo_blow σ k 6)) = z at *
  by_cases hz : kf z k 3 ≤ 0
  · rw [if_pos hz]
    have k10 := k9.lay v9.1 hk (w := 0) (v := 3) (M2 := ak_sI M9 (b + 6 + k) 0 3) (by decide) rfl
    have v10 := vs_lay v9 hk10 (w := 0) (v := 3) (by decide) fun _ => by decide
    obtain ⟨M11, r11, c11⟩ := ch.hap (X := X) ⟨_, _, v10, k10⟩ hb hk (kd := 2) (o := -1) (by decide) (by decide)
    have l11 : ab_lay M11 := by obtain ⟨_, _, _, d⟩ := c11; exact d.1.1
    exact ⟨M11, head (mb_y ((h_eq0 v9 hk).mpr hz) fun N e => ⟨M11, l11, by rw [e]; exact r11, rfl⟩), c11⟩
  · rw [if_neg hz]
    exact ⟨M9, head (mb_n (fun e => hz ((h_eq0 v9 hk).mp e)) rfl), _, _, v9, k9⟩
theorem sk_27 (hL : ab_lay M) (hb : b ∈ ab_fb) (hR : Rb b σ nk nw ne fe M) (hv : vs σ nk nw ne) : ∃ M', rn X 27 [.ref b] M (.inl none, M') ∧ ch b (mo_pks σ nk nk) nk nw M M' := by
  suffices H : ∀ i, i ≤ nk → ∀ M1 o2 o3, ch b (mo_pks σ nk i) nk nw M M1 → ∃ M', sg X 27 (2, [some (.ref b), some (.int (nI i)), o2, o3], [], []) M1 (.inl none, M') ∧ ch b (mo_pks σ nk nk) nk nw M M' by
    obtain ⟨M', h, m⟩ := H 0 (Nat.zero_le _) M none none ⟨_, _, hv, fr.rf hL, hR⟩
    exact ⟨M', t_27 hL hb h, m⟩
  refine mb_up ?_ ?_
  · rintro M1 o2 o3 ⟨n1, f1, v1, c1⟩
    exact ⟨M1, t_27_2 c1.1.1 hb _ _ _ (mb_y (by rw [c1.2.2.1.1]; exact ct_ge v1.1) rfl), _, _, v1, c1⟩
  · rintro i hi ih M1 o2 o3 ⟨n1, f1, v1, c1⟩
    have hi10 : i < 10 := Nat.lt_of_lt_of_le hi v1.1.1
    have l1 := c1.1.1
    have ih := fun M2 o2 o3 (m : ch b (mo_pk1 (mo_pks σ nk i) nk i) nk nw M M2) => ih M2 o2 o3 m
    have n1' : ¬ ak_I M1 b 5 ≤ nI i := by rw [c1.2.2.1.1]; exact ct_lt v1.1 hi
    have ixi : ab_ix (nI i) i 10 := mb_ix hi10 (by decide)
    have e0 := c1.2.kk hi (w := 0) (by decide)
    have e1 := c1.2.kk hi (w := 1) (by decide)
    have e2 := c1.2.kk hi (w := 2) (by decide)
    have s16 := sk_16 (X := X) l1 hb c1.2 v1.1 (x := kf (mo_pks σ nk i) i 1) (y := kf (mo_pks σ nk i) i 2) (bt := nI i)
    generalize mo_pks σ nk i = τ at *
    unfold mo_pk1 at ih
    by_cases h3 : kf τ i 0 = 3
    · rw [if_pos h3] at ih
      cases hp : (mo_pkr τ (kf τ i 1) (kf τ i 2) (nI i) nk).1 with
      | none =>
        rw [hp] at ih s16
        obtain ⟨M', h', m'⟩ := ih M1 (some (.ref (b + 6 + i))) (some (.int (-1))) ⟨_, _, v1, c1⟩
        refine ⟨M', t_27_2 l1 hb _ _ _ (mb_n n1' ⟨i, hi10, ixi, ?_⟩), m'⟩
        rw [e0, e1, e2]
        refine mb_y h3 ⟨_, M1, l1, s16, mb_y rfl ?_⟩
        rw [mi_s]
        exact h'
      | some c =>
        rw [hp] at ih s16
        have hcl := (mo_pkr_lt _ _ _ _ _ _ hp).1
        have hc10 : c < 10 := Nat.lt_of_lt_of_le hcl v1.1.1
        have k4 := c1.lay v1.1 hi (w := 0) (v := 4) (M2 := ak_sI M1 (b + 6 + i) 0 4) (by decide) rfl
        generalize g4 : ak_sI M1 (b + 6 + i) 0 4 = M4 at k4
        have v4 := vs_lay v1 hi10 (w := 0) (v := 4) (by decide) fun _ => by decide
        have k5 := k4.lay v4.1 hi (w := 12) (v := nI c) (M2 := ak_sI M4 (b + 6 + i) 12 (nI c)) (by decide) rfl
        generalize g5 : ak_sI M4 (b + 6 + i) 12 (nI c) = M5 at k5
        have v5 := vs_lay v4 hi10 (w := 12) (v := nI c) (by decide) fun _ => rg_hi (by decide)
        have k7 := k5.lay v5.1 hcl (w := 11) (v := kf (lay (lay τ i 0 4) i 12 (nI c)) c 11 + 2) (M2 := ak_sI M5 (b + 6 + c) 11 (kf (lay (lay τ i 0 4) i 12 (nI c)) c 11 + 2)) (by decide) rfl
        generalize g7 : ak_sI M5 (b + 6 + c) 11 (kf (lay (lay τ i 0 4) i 12 (nI c)) c 11 + 2) = M7 at k7
        have v7 := vs_lay v5 hc10 (w := 11) (v := kf (lay (lay τ i 0 4) i 12 (nI c)) c 11 + 2) (by decide) fun _ => rg_hi (by decide)
        obtain ⟨M8, r8, c8⟩ := ch.hap (X := X) ⟨_, _, v7, k7⟩ hb hi (kd := 3) (o := nI c) (by decide) (by rw [in32_t, mi_t (by omega), mb_im1, mb_i9]; omega)
        have l8 : ab_lay M8 := by obtain ⟨_, _, _, d⟩ := c8; exact d.1.1
        obtain ⟨M', h', m'⟩ := ih M8 (some (.ref (b + 6 + i))) (some (.int (nI c))) c8
        refine ⟨M', t_27_2 l1 hb _ _ _ (mb_n n1' ⟨i, hi10, ixi, ?_⟩), m'⟩
        rw [e0, e1, e2]
        refine mb_y h3 ⟨_, M1, l1, s16, mb_n (mi_n1 (by omega)) fun N e => ?_⟩
        obtain rfl := e.trans g4
        intro N e
        obtain rfl := e.trans g5
        refine ⟨c, hc10, mb_ix hc10 (by decide), fun N' e => ?_⟩
        rw [k5.2.kk hcl (w := 11) (by decide)] at e
        obtain rfl := e.trans g7
        refine ⟨M8, l8, r8, ?_⟩
        rw [mi_s]
        exact h'
    · rw [if_neg h3] at ih
      obtain ⟨M', h', m'⟩ := ih M1 (some (.ref (b + 6 + i))) (some (.int (-1))) ⟨_, _, v1, c1⟩
      refine ⟨M', t_27_2 l1 hb _ _ _ (mb_n n1' ⟨i, hi10, ixi, ?_⟩), m'⟩
      rw [e0]
      refine mb_n h3 ?_
      rw [mi_s]
      exact h'
end SGFL
