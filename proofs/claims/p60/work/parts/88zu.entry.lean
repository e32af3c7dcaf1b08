/-! the law begins -/
section SZB
variable {X : ak_X} {mi pc n : Nat} {l1 : List (Option Value)} {l2 : List (Nat × Value)} {st : List Value} {M M' : ak_M} {r : ak_O × ak_M} {σ : Nat → Int32} {ρ : Nat → Nat → Int32} {nk nw : Nat} {β : Nat → Int32}
theorem w_new {idx ci nf p : Nat} (h : am_A mi pc = some (.new idx)) (hW : (am_W (am_O mi) idx).map (·.1) = some ci) (hf : am_nf ci = nf) (hP : ak_P M = p) (hp : p < 900000) (hn : pc + 3 = n) (k : sg X mi (n, l1, l2, .ref p :: st) (al_ap (0, ci, 0, nf, 0) M) r) : sg X mi (pc, l1, l2, st) M r := by
  subst hn hf hP
  cases hq : am_W (am_O mi) idx with
  | none => rw [hq] at hW; cases hW
  | some q =>
    obtain ⟨c, z⟩ := q
    rw [hq] at hW
    have hc : c = ci := Option.some.inj hW
    subst hc
    refine sg_nx ((ak_SA h).trans ?_) k
    simp only [ak_x]
    rw [hq]
    dsimp only
    rw [if_pos hp]
    rfl
theorem lw_k0 : ak_go ab_X0 20000 ab_kq (ak_en ab_kq [.ref 0]) ab_M1 = some (.inl none, al_all al_L1 ak_M0) := by
  obtain ⟨M, h⟩ := al_ck_of al_t1
  have g := al_is (Mi := ak_M0) _ _ _ _ _ _ _ _ h rfl
  rw [← g.1]
  exact g.2
theorem lw_k : rn X 86 [.ref 0] (al_ap (0, 11, 0, 11, 0) ak_M0) (.inl none, al_M4) := ⟨20000, ab_xgo 20000 ab_kq _ _ _ (by decide) lw_k0⟩
theorem lw_m2 : ab_M2 = al_M4 := by
  unfold ab_M2 ab_r1
  rw [lw_k0]
  rfl
theorem lw_CZ : ak_P al_M4 = 483 ∧ ak_C al_M4 = 483 ∧ ak_Z al_M4 ≤ 6500 := by
  have h := ab_ck1t
  unfold ab_ck1 at h
  rw [Bool.and_eq_true] at h
  have g := of_decide_eq_true h.2
  rw [lw_m2] at g
  exact g
theorem lw_I {l : List (Nat × Nat)} (h : al_ckI l = true) {p n k : Nat} (hp : (p, n) ∈ l) (hk : k < n) : ak_I al_M4 p k = ab_I p k := by
  have g := of_decide_eq_true (List.all_eq_true.mp (List.all_eq_true.mp h (p, n) hp) k (List.mem_range.mpr hk))
  have e := al_Iof al_L4 p k
  rw [al_4P] at e
  exact e.symm.trans g
theorem lw_1 : ak_I al_M4 1 1 = 0 := (lw_I al_I0 (p := 1) (n := 2) (by decide) (by decide)).trans (by decide +kernel)
theorem lw_161 : ak_I al_M4 161 1 = 0 ∧ ak_I al_M4 161 2 = 0 := ⟨(lw_I al_I1 (p := 161) (n := 3) (by decide) (by decide)).trans (by decide +kernel), (lw_I al_I1 (p := 161) (n := 3) (by decide) (by decide)).trans (by decide +kernel)⟩
theorem sm_0 {w : Nat} : ∀ n, (∀ a, a < n → kf σ a w = 0) → mo_sm σ w n = 0
  | 0, _ => rfl
  | n + 1, h => by
    show mo_sm σ w n + kf σ n w = 0
    rw [sm_0 n fun a ha => h a (by omega), h n (by omega)]
    rfl
theorem nIn_f {s : Int32} : ∀ n, (∀ a, a < n → kf σ a 0 = s) → nIn σ s n = n
  | 0, _ => rfl
  | n + 1, h => by
    show (if kf σ n 0 = s then nIn σ s n + 1 else nIn σ s n) = n + 1
    rw [if_pos (h n (by omega)), nIn_f n fun a ha => h a (by omega)]
theorem cp_in {σ0 : Nat → Int32} {n0 hn hf hk hw : Nat} {q : PS} (hL : ab_lay M) (hI : Ic β n0 M) (h0 : q245 σ0 rz) (hH : Hc ρ hn hf hk hw M) (pa : ps_a β n0 σ0 = .inr q) : ∃ M', rn X 89 [.ref 0] M (.inl (some (.int (nI q.2.2.1))), M') ∧ fr cPb M M' ∧ Rb 65 q.1 q.2.2.1 q.2.2.2.1 0 0 M' ∧ Hc ρ 0 hf q.2.2.1 q.2.2.2.1 M' := by
  have c := cp_89 (X := X) hL hI h0 hH
  rw [pa] at c
  obtain ⟨M2, r2, f2, -, -, -, hR, -, hH2, -⟩ := c
  exact ⟨M2, r2, f2, hR, hH2⟩
/-- the text is parsed -/
theorem d360 {ps qq : Nat} (hL : ab_lay M) (hP : ak_P M < 700000) (h9 : nk ≤ 9) (hT : Tx M ps qq (stT X nk).length (lg (stT X nk))) (h7 : c7 (stT X nk)) (hl : (stT X nk).length ≤ 560) (hp : 483 ≤ ps ∧ 483 ≤ qq ∧ ps < ak_P M) (e1 : ak_I M 1 1 = 0) (e2 : ak_I M 161 1 = 0 ∧ ak_I M 161 2 = 0) : ∃ M' σ nw, rn X 360 [.ref 0, .ref ps] M (.inl (some (.int (nI nk))), M') ∧ LQ σ (fun _ _ => 0) 0 nk nw M' ∧ (∀ a, a < nk → kf σ a 0 = 1) ∧ Iv σ nk ∧ σ 0 = 0 ∧ ak_C M' ≤ ak_C M + 29 ∧ ak_Z M' ≤ ak_Z M + 43500 := by
  have hq : qq < ak_P M := by
    rcases hT.2 with ⟨-, -, -, -, h, -⟩ | ⟨s, hs, e, -, -, -, h⟩
    · exact h
    · exfalso; have := hp.2.2; omega
  obtain ⟨M1, r1, I1, F1⟩ := d359 (X := X) (β := fun _ => 0) hL hP h7 hl (y := ak_P M) ⟨hT, hp.1, hp.2.1, hp.2.2, hq, Nat.le_refl _⟩ ⟨by omega, e1, fun j hj => absurd hj (Nat.not_lt_zero j)⟩
  have i1 : ∀ k, ak_I M1 161 k = ak_I M 161 k := fun k => F1.2.1 161 k (by decide) (by unfold cI; omega)
  have hH : Hc (fun _ _ => 0) 0 0 0 1 M1 := ⟨by decide, by decide, by rw [i1, e2.2]; rfl, by rw [i1, e2.1]; rfl, fun j hj => absurd hj (Nat.not_lt_zero j)⟩
  obtain ⟨⟨σ, ν, nk', nw, τ, s⟩, pa, en, hJ, hV, hw⟩ := p_all (X := X) (β := lg (stT X nk)) (n := (stT X nk).length) (σ := rz) (nk := nk) ⟨Nat.zero_add _, fun j _ => by rw [Nat.zero_add]⟩ h9 (fun _ _ => rfl)
  dsimp only at en hJ hw
  subst en
  obtain ⟨M2, r2, f2, hR, hH2⟩ := cp_in (X := X) F1.1 I1 (fun _ _ => rfl) hH pa
  dsimp only at hR hH2 r2
  have hF := (PV_f hV).1
  have ef : ps_f (σ, ν, nk', nw, τ, s) = (σ, ν, nk', nw, τ, s) := by
    show (if nw = 0 then _ else _) = _
    rw [if_neg hw]
  rw [ef] at hF
  obtain ⟨-, -, -, -, v0, -, v10, -⟩ := hV
  refine ⟨M2, σ, nw, t_360 _ ⟨M1, r1, rc_0 F1.1, _, M2, r2, rfl⟩, ⟨f2.1, 0, 0, 0, hR, hF, hH2⟩, hJ.2, ⟨fun a ha hf => ?_, ?_⟩, v0, ?_, ?_⟩
  · rw [hJ.2 a ha] at hf
    exact absurd hf (by decide)
  · unfold dv
    have z1 : mo_ins σ 4 nk' = 0 := by
      rw [ins_N, (nIn_0 σ 4 nk').mpr fun b hb => by rw [hJ.2 b hb]; decide]
      rfl
    rw [sm_0 nk' fun a ha => (hJ.1 a (by omega)).2, v10, z1]
    decide
  · rw [f2.2.2.2.2.1]; exact F1.2.2.1
  · rw [f2.2.2.2.2.2]; have := F1.2.2.2; omega
theorem lw_top (hX : X.1 ≤ 260) : ∃ M', rn X 364 [.ref 1000000] ak_M0 (.inl (some (.int 1)), M') ∧ ak_C M' ≤ 600086 ∧ ak_Z M' ≤ 7301442 := by
  have cz := lw_CZ
  have hN := dn_r (X := X) (k := 0) (lo := 2) (hi := 9) (by omega) (by omega)
  have rN := d358 (M := al_M4) (X := X) al_lay hX (k := 0) (by omega) (x := nI 2) (y := nI 9) 2 9 rfl rfl (by omega) (by omega) (by omega)
  rw [hN.2.2] at rN
  generalize dn X 0 2 9 = nk at hN rN
  obtain ⟨M1, ps, qq, r1, hT, G1, hl, h7, hp⟩ := d361 (X := X) al_lay (by omega) hX (nk := nk) (by omega)
  have hP1 : ak_P M1 < 700000 := by have := G1.2.2.1.2; omega
  obtain ⟨M2, σ, nw, r2, Q, hs, hI, h0, hC, hZ⟩ := d360 (X := X) G1.1 hP1 (show nk ≤ 9 by omega) hT h7 hl hp ((G1.2.1 1 1 (by decide)).trans lw_1) ⟨(G1.2.1 161 1 (by decide)).trans lw_161.1, (G1.2.1 161 2 (by decide)).trans lw_161.2⟩
  have B : LT false σ M2 0 σ (fun _ _ => 0) 0 nk nw M2 := ⟨Q, fun e => absurd e (by decide), by omega, by omega⟩
  have c4 : sp_92 σ nk (nI 0) 4 = nI nk := by
    rw [s92_i (s := 1) _ (by decide) (by decide), nIn_f nk hs]
  obtain ⟨M3, r3, Q3, f3⟩ := qv (q_92 (X := X) B.1 4) c4
  have B3 := B.q Q3 f3
  have hG : ∀ a, a < nk → kf σ a 0 = 0 → Gd σ a := fun a ha hf => by
    rw [hs a ha] at hf
    exact absurd hf (by decide)
  obtain ⟨M4, r4, Q4, f4⟩ := q_362 (X := X) B3.1 (by omega) 1 (So_1 hI hG 1)
  have B4 := B3.q Q4 f4
  obtain ⟨r, ⟨M', e, z1, z2⟩, h⟩ := d51 (X := X) hX (show 1 ≤ nk by omega) (show nk ≤ 9 by omega) nk 0 (by omega) M4 _ σ _ _ none none none none none none none none B4 hI (fun a _ => hs a) h0 (by omega)
  subst e
  refine ⟨M', ?_, ?_, ?_⟩
  · refine w_rn (nL := 12) (l1 := [some (.ref 1000000), none, none, none, none, none, none, none, none, none, none, none]) am_X364 rfl rfl ?_
    refine w_new (n := 3) (idx := 26) (ci := 11) (nf := 11) (p := 0) (by decide +kernel) (by decide +kernel) (by decide +kernel) rfl (by decide) rfl ?_
    refine w_dup_ref (n := 4) (by decide +kernel) rfl ?_
    refine w_cI (n := 7) (idx := 155) (cal := 86) (na := 0) (nl := 1) (p := 0) (as := []) (rest := [.ref 0]) (by decide +kernel) (by decide +kernel) rfl rfl rfl (Nat.le_of_ble_eq_true rfl) rfl lw_k ?_
    refine w_astore_n (n := 8) (i := 1) (x := 0) (by decide +kernel) rfl (Nat.le_of_ble_eq_true rfl) rfl rfl ?_
    refine w_aload_n (n := 9) (i := 0) (by decide +kernel) rfl rfl ?_
    refine w_iconst (n := 10) (v := 0) (x := nI 0) (by decide +kernel) rfl (by decide) ?_
    refine w_iconst (n := 11) (v := 2) (x := nI 2) (by decide +kernel) rfl (by decide) ?_
    refine w_bipush (n := 13) (v := 9) (x := nI 9) (by decide +kernel) rfl (by decide) ?_
    refine w_cS (n := 16) (idx := 49) (cal := 358) (na := 4) (nl := 4) (as := [.ref 1000000, .int (nI 0), .int (nI 2), .int (nI 9)]) (rest := []) (by decide +kernel) (by decide +kernel) rfl rfl rfl (Nat.le_of_ble_eq_true rfl) rfl rN ?_
    refine w_istore_n (n := 17) (i := 2) (x := nI nk) (by decide +kernel) rfl (Nat.le_of_ble_eq_true rfl) rfl rfl ?_
    refine w_aload_n (n := 18) (i := 1) (by decide +kernel) rfl rfl ?_
    refine w_aload_n (n := 19) (i := 0) (by decide +kernel) rfl rfl ?_
    refine w_iload_n (n := 20) (i := 2) (by decide +kernel) rfl rfl ?_
    refine w_cS (n := 23) (idx := 156) (cal := 361) (na := 2) (nl := 2) (as := [.ref 1000000, .int (nI nk)]) (rest := [.ref 0]) (by decide +kernel) (by decide +kernel) rfl rfl rfl (Nat.le_of_ble_eq_true rfl) rfl r1 ?_
    refine w_cS (n := 26) (idx := 160) (cal := 360) (na := 2) (nl := 2) (as := [.ref 0, .ref ps]) (rest := []) (by decide +kernel) (by decide +kernel) rfl rfl rfl (Nat.le_of_ble_eq_true rfl) rfl r2 ?_
    refine w_iload_n (n := 27) (i := 2) (by decide +kernel) rfl rfl ?_
    refine w_icmp_ne_n (n := 30) (off := 20) (by decide +kernel) rfl rfl ?_
    refine w_aload_n (n := 31) (i := 1) (by decide +kernel) rfl rfl ?_
    refine w_iconst (n := 32) (v := 4) (x := 4) (by decide +kernel) rfl (by decide) ?_
    refine w_cV (n := 35) (idx := 91) (cal := 92) (na := 1) (nl := 2) (as := [.int 4]) (rest := []) Q.1 (by decide +kernel) (by decide +kernel) (at_0) (by decide +kernel) rfl rfl rfl (Nat.le_of_ble_eq_true rfl) rfl r3 ?_
    refine w_iload_n (n := 36) (i := 2) (by decide +kernel) rfl rfl ?_
    refine w_icmp_ne_n (n := 39) (off := 11) (by decide +kernel) rfl rfl ?_
    refine w_aload_n (n := 40) (i := 1) (by decide +kernel) rfl rfl ?_
    refine w_iconst (n := 41) (v := 1) (x := 1) (by decide +kernel) rfl (by decide) ?_
    refine w_cS (n := 44) (idx := 164) (cal := 362) (na := 2) (nl := 2) (as := [.ref 0, .int 1]) (rest := []) (by decide +kernel) (by decide +kernel) rfl rfl rfl (Nat.le_of_ble_eq_true rfl) rfl r4 ?_
    refine w_if_ne_j (n := 49) (off := 5) (by decide +kernel) (by decide) (by decide) ?_
    exact t_364_49 Q4.1 _ _ _ _ _ _ _ _ _ _ h
  · have := f3.2.2.1
    have := G1.2.2.2.1
    omega
  · have := G1.2.2.2.2
    omega
end SZB
