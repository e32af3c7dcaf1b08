/-! the law begins: both constructors, two rows of one -/
section SZB
variable {X : ak_X} {mi pc n : Nat} {l1 : List (Option Value)} {l2 : List (Nat × Value)} {st : List Value} {M : ak_M} {r : ak_O × ak_M}
theorem w_new {idx ci nf p : Nat} (h : am_A mi pc = some (.new idx)) (hW : (am_W (am_O mi) idx).map (·.1) = some ci) (hf : am_nf ci = nf) (hP : ak_P M = p) (hp : p < 900000) (hn : pc + 3 = n) (k : sg X mi (n, l1, l2, .ref p :: st) (al_ap (0, ci, 0, nf, 0) M) r) : sg X mi (pc, l1, l2, st) M r := by
  subst hn hf hP
  cases hq : am_W (am_O mi) idx with
  | none => rw [hq] at hW; cases hW
  | some q =>
    obtain ⟨c, z⟩ := q
    rw [hq] at hW
    have hc : c = ci := Option.some.inj hW
    subst hc
    refine sg_nx ((ak_SA h).trans ?_) k
    simp only [ak_x]
    rw [hq]
    dsimp only
    rw [if_pos hp]
    rfl
theorem w_nwL {p : Nat} (h : am_A mi pc = some (.newarray .long)) (hP : ak_P M = p) (hp : p < 900000) (hn : pc + 2 = n) (k : sg X mi (n, l1, l2, .ref p :: st) (al_ap (0, 103, 1, 1, 0) M) r) : sg X mi (pc, l1, l2, .int 1 :: st) M r := by
  subst hn hP
  refine sg_nx ((ak_SA h).trans ?_) k
  simp only [ak_x]
  rw [if_pos ⟨hp, by decide, by decide⟩]
  rfl
theorem w_nwD {p : Nat} (h : am_A mi pc = some (.newarray .double)) (hP : ak_P M = p) (hp : p < 900000) (hn : pc + 2 = n) (k : sg X mi (n, l1, l2, .ref p :: st) (al_ap (0, 104, 1, 1, 0) M) r) : sg X mi (pc, l1, l2, .int 1 :: st) M r := by
  subst hn hP
  refine sg_nx ((ak_SA h).trans ?_) k
  simp only [ak_x]
  rw [if_pos ⟨hp, by decide, by decide⟩]
  rfl
theorem al_allc (o : al_o) (L : List al_o) (M : ak_M) : al_all (o :: L) M = al_ap o (al_all L M) := rfl
theorem al_ap0 (c l z : Nat) (M : ak_M) : al_ap (0, c, l, z, 0) M = ak_new M c l z := rfl
theorem lw_M4 : al_M4 = al_ap (0, 104, 1, 1, 0) (al_ap (0, 103, 1, 1, 0) (al_all al_L2 ak_M0)) := by
  unfold al_M4 al_L4
  rw [al_allc, al_allc]
theorem lw_k0 : ak_go ab_X0 20000 ab_kq (ak_en ab_kq [.ref 0]) ab_M1 = some (.inl none, al_all al_L1 ak_M0) := by
  obtain ⟨M, h⟩ := al_ck_of al_t1
  have g := al_is (Mi := ak_M0) _ _ _ _ _ _ _ _ h rfl
  rw [← g.1]
  exact g.2
theorem lw_d0 : ak_go ab_X0 20000 ab_md (ak_en ab_md [.ref 483]) (al_all ((0, 12, 0, 29, 0) :: al_L1) ak_M0) = some (.inl none, al_all al_L2 ak_M0) := by
  obtain ⟨M, h⟩ := al_ck_of al_t2
  have g := al_is (Mi := ak_M0) _ _ _ _ _ _ _ _ h rfl
  rw [← g.1]
  exact g.2
theorem lw_k : rn X 86 [.ref 0] (al_ap (0, 11, 0, 11, 0) ak_M0) (.inl none, al_all al_L1 ak_M0) := ⟨20000, ab_xgo 20000 ab_kq _ _ _ (by decide) lw_k0⟩
theorem lw_d : rn X 153 [.ref 483] (al_ap (0, 12, 0, 29, 0) (al_all al_L1 ak_M0)) (.inl none, al_all al_L2 ak_M0) := by
  have h := lw_d0
  rw [al_allc] at h
  exact ⟨20000, ab_xgo 20000 ab_md _ _ _ (by decide) h⟩
set_option maxRecDepth 1000000 in
theorem lw_P1 : al_P al_L1 = 483 := by decide +kernel
set_option maxRecDepth 1000000 in
theorem lw_P2 : al_P al_L2 = 497 := by decide +kernel
theorem lw_P3 : ak_P (al_ap (0, 103, 1, 1, 0) (al_all al_L2 ak_M0)) = 498 := by rw [al_ap0, al_Pn, al_Pof, lw_P2]
theorem lw_run (h : sg X 364 (28, [some (.ref 1000000), some (.ref 0), some (.ref 483), some (.ref 497), some (.ref 498), some (.int (nI (6 * 0))), none, none, none, none], [], []) al_M4 r) : rn X 364 [.ref 1000000] ak_M0 r := by
  refine w_rn (nL := 10) (l1 := [some (.ref 1000000), none, none, none, none, none, none, none, none, none]) am_X364 rfl rfl ?_
  refine w_new (n := 3) (idx := 8) (ci := 11) (nf := 11) (p := 0) (by decide +kernel) (by decide +kernel) (by decide +kernel) rfl (by decide) rfl ?_
  refine w_dup_ref (n := 4) (by decide +kernel) rfl ?_
  refine w_cI (n := 7) (idx := 142) (cal := 86) (na := 0) (nl := 1) (p := 0) (as := []) (rest := [.ref 0]) (by decide +kernel) (by decide +kernel) rfl rfl rfl (Nat.le_of_ble_eq_true rfl) rfl lw_k ?_
  refine w_astore_n (n := 8) (i := 1) (x := 0) (by decide +kernel) rfl (Nat.le_of_ble_eq_true rfl) rfl rfl ?_
  refine w_new (n := 11) (idx := 143) (ci := 12) (nf := 29) (p := 483) (by decide +kernel) (by decide +kernel) (by decide +kernel) ((al_Pof al_L1).trans lw_P1) (by decide) rfl ?_
  refine w_dup_ref (n := 12) (by decide +kernel) rfl ?_
  refine w_cI (n := 15) (idx := 145) (cal := 153) (na := 0) (nl := 1) (p := 483) (as := []) (rest := [.ref 483]) (by decide +kernel) (by decide +kernel) rfl rfl rfl (Nat.le_of_ble_eq_true rfl) rfl lw_d ?_
  refine w_astore_n (n := 16) (i := 2) (x := 483) (by decide +kernel) rfl (Nat.le_of_ble_eq_true rfl) rfl rfl ?_
  refine w_iconst (n := 17) (v := 1) (x := 1) (by decide +kernel) rfl (by decide) ?_
  refine w_nwL (n := 19) (p := 497) (by decide +kernel) ((al_Pof al_L2).trans lw_P2) (by decide) rfl ?_
  refine w_astore_n (n := 20) (i := 3) (x := 497) (by decide +kernel) rfl (Nat.le_of_ble_eq_true rfl) rfl rfl ?_
  refine w_iconst (n := 21) (v := 1) (x := 1) (by decide +kernel) rfl (by decide) ?_
  refine w_nwD (n := 23) (p := 498) (by decide +kernel) lw_P3 (by decide) rfl ?_
  refine w_astore (n := 25) (i := 4) (x := 498) (by decide +kernel) rfl (Nat.le_of_ble_eq_true rfl) rfl rfl ?_
  refine w_iconst (n := 26) (v := 0) (x := nI (6 * 0)) (by decide +kernel) rfl (by decide) ?_
  refine w_istore (n := 28) (i := 5) (x := nI (6 * 0)) (by decide +kernel) rfl (Nat.le_of_ble_eq_true rfl) rfl rfl ?_
  rw [lw_M4] at h
  exact h
end SZB
/-! the room of the start -/
theorem lw_m2 : ab_M2 = al_all al_L1 ak_M0 := by
  unfold ab_M2 ab_r1
  rw [lw_k0]
  rfl
theorem lw_m3 : ab_M3 = al_all al_L2 ak_M0 := by
  unfold ab_M3 ab_r2
  rw [lw_m2]
  have f : am_nf 12 = 29 := by decide +kernel
  have h := lw_d0
  rw [al_allc, al_ap0] at h
  rw [f, h]
  rfl
theorem lw_CZ : ak_C al_M4 = 499 ∧ ak_Z al_M4 = 10875 := by
  have e : ab_M4 = al_M4 := by
    unfold ab_M4
    rw [lw_m3, lw_M4, al_ap0, al_ap0]
  have h := ab_ck1t
  unfold ab_ck1 at h
  rw [Bool.and_eq_true, Bool.and_eq_true, Bool.and_eq_true, Bool.and_eq_true] at h
  have g := of_decide_eq_true h.2.2.2.2
  rw [e] at g
  exact g.2
/-! the memory of the start keeps the invariant -/
theorem lw_I {l : List (Nat × Nat)} (h : al_ckI l = true) {p n k : Nat} (hp : (p, n) ∈ l) (hk : k < n) : ak_I al_M4 p k = ab_I p k := by
  have g := of_decide_eq_true (List.all_eq_true.mp (List.all_eq_true.mp h (p, n) hp) k (List.mem_range.mpr hk))
  have e := al_Iof al_L4 p k
  rw [al_4P] at e
  exact e.symm.trans g
theorem lw_0 {k : Nat} (hk : k < 11) : ak_I al_M4 0 k = ab_I 0 k := lw_I al_I0 (n := 11) (by decide) hk
theorem lw_65 {k : Nat} (hk : k < 11) : ak_I al_M4 65 k = ab_I 65 k := lw_I al_I0 (n := 11) (by decide) hk
theorem lw_69 {k : Nat} (hk : k < 6) : ak_I al_M4 69 k = ab_I 69 k := lw_I al_I1 (n := 6) (by decide) hk
theorem lw_81 {k : Nat} (hk : k < 3) : ak_I al_M4 81 k = ab_I 81 k := lw_I al_I1 (n := 3) (by decide) hk
theorem lw_483 {k : Nat} (hk : k < 29) : ak_I al_M4 483 k = ab_I 483 k := lw_I al_I1 (n := 29) (by decide) hk
theorem lw_484 {k : Nat} (hk : k < 26) : ro al_M4 k = ab_I 484 k := lw_I al_I1 (n := 26) (by decide) hk
theorem lw_wf {w : Nat} (hw : w < 3) : wf (ro al_M4) 0 w = ab_I 81 w := by
  have e : wf (ro al_M4) 0 w = ro al_M4 (11 + 3 * 0 + w) := rfl
  rw [e, lw_484 (by omega)]
  revert w
  decide +kernel
theorem lw_vs : vs (ro al_M4) 0 1 0 := by
  refine ⟨⟨by decide, by decide, by decide, (lw_484 (by decide)).trans (by decide +kernel), (lw_484 (by decide)).trans (by decide +kernel), (lw_484 (by decide)).trans (by decide +kernel)⟩, ?_, fun k hk => absurd hk (Nat.not_lt_zero _), fun i hi => ?_, ?_, fun j hj => absurd hj (Nat.not_lt_zero _)⟩
  · rw [lw_484 (by decide)]; decide +kernel
  · rw [show i = 0 by omega]
    unfold wv
    rw [lw_wf (by decide), lw_wf (by decide)]
    decide +kernel
  · unfold sv
    rw [lw_484 (by decide), lw_484 (by decide), lw_484 (by decide), lw_484 (by decide), lw_484 (by decide), lw_484 (by decide)]
    decide +kernel
theorem lw_Rb : Rb 65 (ro al_M4) 0 1 0 0 al_M4 := by
  refine ⟨by decide, ⟨?_, ?_, ?_, ?_, ?_, ?_⟩, fun k hk => absurd hk (Nat.not_lt_zero _), fun i hi w hw => ?_, fun j hj => ?_, fun j hj => absurd hj (Nat.not_lt_zero _)⟩
  · rw [lw_65 (by decide), lw_484 (by decide)]; decide +kernel
  · rw [lw_65 (by decide), lw_484 (by decide)]; decide +kernel
  · rw [lw_65 (by decide), lw_484 (by decide)]; decide +kernel
  · rw [lw_65 (by decide)]; decide +kernel
  · rw [lw_65 (by decide), lw_484 (by decide)]; decide +kernel
  · rw [lw_65 (by decide), lw_484 (by decide)]; decide +kernel
  · have hi0 : i = 0 := by omega
    subst hi0
    rw [lw_wf hw]
    exact lw_81 hw
  · rw [lw_484 (by omega)]
    refine (lw_69 hj).trans ?_
    revert j
    decide +kernel
theorem lw_J : JJ al_M4 := by
  refine ⟨al_lay, ⟨fun _ => 0, 0, ⟨by decide, (lw_I al_I0 (p := 1) (n := 2) (by decide) (by decide)).trans (by decide +kernel), fun j hj => absurd hj (Nat.not_lt_zero _)⟩, ⟨by decide, (lw_483 (by decide)).trans (by decide +kernel), fun j hj => absurd hj (Nat.not_lt_zero _)⟩, BR_0⟩, ⟨fun _ => 0, fun _ _ => 0, 0, 0, 0, 1, 0, 0, lw_Rb, lw_vs, ⟨by decide, (lw_I al_I0 (p := 52) (n := 3) (by decide) (by decide)).trans (by decide +kernel), fun k hk => absurd hk (Nat.not_lt_zero _)⟩, fun k hk => absurd hk (Nat.not_lt_zero _), ⟨by decide, by decide, (lw_I al_I1 (p := 161) (n := 3) (by decide) (by decide)).trans (by decide +kernel), (lw_I al_I1 (p := 161) (n := 3) (by decide) (by decide)).trans (by decide +kernel), fun j hj => absurd hj (Nat.not_lt_zero _)⟩, ⟨by decide, (lw_483 (by decide)).trans (by decide +kernel), fun j hj => absurd hj (Nat.not_lt_zero _)⟩, fun j hj => absurd hj (Nat.not_lt_zero _), Or.inl ⟨(lw_0 (by decide)).trans (by decide +kernel), (lw_483 (by decide)).trans (by decide +kernel)⟩⟩, ⟨?_, ?_⟩, [], ⟨by decide, (lw_I al_I0 (p := 3) (n := 2) (by decide) (by decide)).trans (by decide +kernel), fun j hj => absurd hj (Nat.not_lt_zero _)⟩, by decide, (lw_483 (by decide)).trans (by decide +kernel), fun j hj => absurd hj (Nat.not_lt_zero _)⟩
  · rw [lw_0 (by decide), lw_483 (by decide)]; decide +kernel
  · rw [lw_0 (by decide), lw_483 (by decide)]; decide +kernel
theorem ak_top : ak_Top := by
  intro X hX
  obtain ⟨M', hs, b1, b2⟩ := lw_loop (X := X) hX 0 (Nat.zero_le _) al_M4 lw_J (by rw [lw_CZ.1]; decide) (by rw [lw_CZ.2]; decide) none none none none []
  obtain ⟨n, hn⟩ := lw_run hs
  exact ⟨n, M', hn, b1, b2⟩
