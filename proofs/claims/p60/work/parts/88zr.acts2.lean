/-! what a step of the law does -/
section SAD
variable {X : ak_X} {M M' M0 : ak_M} {σ τ υ : Nat → Int32} {ρ : Nat → Nat → Int32} {hn nk nw i j k a b n : Nat} {v w x : Int32} {sv : Bool}
/-- behind the acts -/
def Za (M0 : ak_M) (i nk nw : Nat) (t0 : Int32) (r : ak_O × ak_M) : Prop := ∃ M' τ ρ hn, r = (.inl none, M') ∧ LT false τ M0 i τ ρ hn nk nw M' ∧ Iv τ nk ∧ τ 0 = t0
theorem za_y {A : ak_O × ak_M → Prop} (B : LT false υ M0 j τ ρ hn nk nw M) (hI : Iv τ nk) (h0 : τ 0 = v) (hij : j ≤ i) (hA : A (.inl none, M)) : Wz (Za M0 i nk nw v) A := ⟨_, ⟨M, τ, ρ, hn, rfl, ⟨B.1, fun e => absurd e (by decide), (B.mo hij).2.2⟩, hI, h0⟩, hA⟩
theorem in_dz : in32 (dz X k) (-9) 9 = true := in32_t.mpr (by rw [m9_t]; exact dz_r)
theorem c_wk {A : Int32 → ak_M → ak_O × ak_M → Prop} {R : ak_O × ak_M → Prop} {Z : ak_O × ak_M → Prop} (B : LT false υ M0 i σ ρ hn nk nw M) (ha : a < nk) {p q : Nat} (hp : p ≤ 110 ∧ q ≤ 110) (g : ∀ v M', LT false υ M0 i (mo_wk σ a (nI p) (nI q)) (psh ρ hn σ) (pn hn) nk nw M' → Wz Z (A v M')) : Wz Z fun r => (∃ (v2 : Int32) (M1 : ak_M), ab_lay M1 ∧ rn X 133 [.ref 0, .int (nI a), .int (nI p), .int (nI q)] M (.inl (some (.int v2)), M1) ∧ A v2 M1 r) ∨ R r := by
  obtain ⟨v, c⟩ := c_133 (X := X) B.1 ha (x := nI p) (w := nI q) ⟨in_v (lo := 0) (hi := 199) (by omega) (by omega), in_v (lo := 0) (hi := 199) (by omega) (by omega)⟩
  exact lcc B c (g v)
theorem d363 (hX : X.1 ≤ 260) (hk : k ≤ 300) (h2 : 1 ≤ nk) (h9 : nk ≤ 9) (B : LT false υ M0 i σ ρ hn nk nw M) (hI : Iv σ nk) : ∃ M' τ ρ' hn', rn X 363 [.ref 0, .ref 1000000, .int (nI k), .int (nI nk)] M (.inl none, M') ∧ LT false τ M0 (i + 5) τ ρ' hn' nk nw M' ∧ Iv τ nk ∧ τ 0 = σ 0 := by
  suffices H : Wz (Za M0 (i + 5) nk nw (σ 0)) (rn X 363 [.ref 0, .ref 1000000, .int (nI k), .int (nI nk)] M) by
    obtain ⟨r, ⟨M', τ, ρ', hn', e, z⟩, h⟩ := H
    subst e
    exact ⟨M', τ, ρ', hn', h, z⟩
  obtain ⟨⟨ne, hv⟩, -⟩ := LQ_K B.1
  have ha := (dn_r (X := X) (k := k) (lo := 0) (hi := nk - 1) (by omega) (by omega)).2.1
  have ha' : dn X k 0 (nk - 1) < nk := by omega
  have hd := (dn_r (X := X) (k := k + 1) (lo := 0) (hi := 6) (by omega) (by omega)).2.1
  have b2 := (dn_r (X := X) (k := k + 2) (lo := 60) (hi := 110) (by omega) (by omega)).2.1
  have b3 := (dn_r (X := X) (k := k + 3) (lo := 60) (hi := 110) (by omega) (by omega)).2.1
  have b90 := dn_r (X := X) (k := k + 2) (lo := 1) (hi := 90) (by omega) (by omega)
  have e1 : nI k + 1 = nI (k + 1) := mi_add k 1
  have e2 : nI k + 2 = nI (k + 2) := mi_add k 2
  have e3 : nI k + 3 = nI (k + 3) := mi_add k 3
  have en : nI nk - 1 = nI (nk - 1) := mi_sb (b := 1) h2
  have D : ∀ {m c : Nat}, m ≤ 6 → c ≤ 6 → (nI m = nI c ↔ m = c) := fun h h' => mi_eq (by omega) (by omega)
  refine w_t (fun r h => t_363 B.1.1 _ _ h) ?_
  refine ltd B.1.1 hX (k := k) (lo := 0) (hi := nk - 1) rfl rfl en (by omega) (by omega) ?_
  refine ltd B.1.1 hX (k := k + 1) (lo := 0) (hi := 6) e1 rfl rfl (by omega) (by omega) ?_
  generalize dn X k 0 (nk - 1) = a at ha ha' ⊢
  generalize dn X (k + 1) 0 6 = c at hd ⊢
  have h04 := in_04 (vs_s04 hv ha')
  by_cases d0 : c = 0
  · refine w_y ((D (c := 0) hd (by omega)).mpr d0) ?_
    refine lt2 B (q_95 B.1 ha' 0 (by decide)) fun M B => ?_
    by_cases s1 : kf σ a 0 = 1
    · refine w_y s1 ?_
      obtain ⟨I1, l3, l6, lp⟩ := lnc_I hv hI ha' s1
      have l0 := lnc_0 (σ := σ) (k := a) (by omega)
      refine lcc B (c_129 B.1 ha' s1) fun M B => ?_
      by_cases z : kf (mo_lnc σ a) a 3 ≤ 0
      · refine w_y z ?_
        exact za_y B I1 l0 (by omega) rfl
      · refine w_n z ?_
        refine ltd B.1.1 hX (k := k + 2) (lo := 0) (hi := 1) e2 rfl rfl (by omega) (by omega) ?_
        by_cases y0 : nI (dn X (k + 2) 0 1) = 0
        · refine w_y y0 ?_
          refine ltd B.1.1 hX (k := k + 2) (lo := 60) (hi := 110) e2 rfl rfl (by omega) (by omega) ?_
          refine ltd B.1.1 hX (k := k + 3) (lo := 60) (hi := 110) e3 rfl rfl (by omega) (by omega) ?_
          refine c_wk B ha' ⟨b2, b3⟩ fun v M B => ?_
          exact za_y B (Iv_wk I1) (wk_0.trans l0) (by omega) rfl
        · refine w_n y0 ?_
          exact za_y B I1 l0 (by omega) rfl
    · refine w_n s1 ?_
      exact za_y B hI rfl (by omega) rfl
  refine w_n (fun e => d0 ((D (c := 0) hd (by omega)).mp e)) ?_
  by_cases d1 : c = 1
  · refine w_y ((D (c := 1) hd (by omega)).mpr d1) ?_
    refine lt2 B (q_95 B.1 ha' 0 (by decide)) fun M B => ?_
    by_cases s1 : kf σ a 0 = 1
    · refine w_y s1 ?_
      obtain ⟨I1, l3, l6, lp⟩ := lnc_I hv hI ha' s1
      have l0 := lnc_0 (σ := σ) (k := a) (by omega)
      refine lcc B (c_129 B.1 ha' s1) fun M B => ?_
      by_cases z : kf (mo_lnc σ a) a 3 ≤ 0
      · refine w_y z ?_
        exact za_y B I1 l0 (by omega) rfl
      · refine w_n z ?_
        refine ltd B.1.1 hX (k := k + 2) (lo := 0) (hi := 1) e2 rfl rfl (by omega) (by omega) ?_
        by_cases y0 : nI (dn X (k + 2) 0 1) = 0
        · refine w_y y0 ?_
          refine ltd B.1.1 hX (k := k + 2) (lo := 60) (hi := 110) e2 rfl rfl (by omega) (by omega) ?_
          refine ltd B.1.1 hX (k := k + 3) (lo := 60) (hi := 110) e3 rfl rfl (by omega) (by omega) ?_
          refine c_wk B ha' ⟨b2, b3⟩ fun v M B => ?_
          exact za_y B (Iv_wk I1) (wk_0.trans l0) (by omega) rfl
        · refine w_n y0 ?_
          exact za_y B I1 l0 (by omega) rfl
    · refine w_n s1 ?_
      exact za_y B hI rfl (by omega) rfl
  refine w_n (fun e => d1 ((D (c := 1) hd (by omega)).mp e)) ?_
  by_cases d2 : c = 2
  · refine w_y ((D (c := 2) hd (by omega)).mpr d2) ?_
    refine ltz B.1.1 hX (k := k + 2) e2 (by omega) ?_
    refine lcc B (c_130 B.1 ha' in_dz) fun M B => ?_
    exact za_y B (Iv_lay hI (by decide) (by decide) (by decide) (by decide)) (up_n (by omega)) (by omega) rfl
  refine w_n (fun e => d2 ((D (c := 2) hd (by omega)).mp e)) ?_
  by_cases d3 : c = 3
  · refine w_y ((D (c := 3) hd (by omega)).mpr d3) ?_
    refine lt2 B (q_95 B.1 ha' 0 (by decide)) fun M B => ?_
    by_cases s2 : 2 ≤ kf σ a 0
    · refine w_y s2 ?_
      exact za_y B hI rfl (by omega) rfl
    · refine w_n s2 ?_
      have hh : mo_held σ a = true := by
        unfold mo_held
        rcases h04 with h | h | h | h | h <;> rw [h] at s2 ⊢ <;> revert s2 <;> decide
      refine ltd B.1.1 hX (k := k + 2) (lo := 1) (hi := 90) e2 rfl rfl (by omega) (by omega) ?_
      refine lcc B (c_132 B.1 ha' (in_v (lo := 1) (hi := 400) (by omega) (by omega)) hh) fun M B => ?_
      exact za_y B (Iv_lay hI (by decide) (by decide) (by decide) (by decide)) (up_n (by omega)) (by omega) rfl
  refine w_n (fun e => d3 ((D (c := 3) hd (by omega)).mp e)) ?_
  by_cases d4 : c = 4
  · refine w_y ((D (c := 4) hd (by omega)).mpr d4) ?_
    refine ltd B.1.1 hX (k := k + 2) (lo := 60) (hi := 110) e2 rfl rfl (by omega) (by omega) ?_
    refine ltd B.1.1 hX (k := k + 3) (lo := 60) (hi := 110) e3 rfl rfl (by omega) (by omega) ?_
    refine c_wk B ha' ⟨b2, b3⟩ fun v M B => ?_
    exact za_y B (Iv_wk hI) wk_0 (by omega) rfl
  refine w_n (fun e => d4 ((D (c := 4) hd (by omega)).mp e)) ?_
  by_cases d5 : c = 5
  · refine w_y ((D (c := 5) hd (by omega)).mpr d5) ?_
    refine ltz B.1.1 hX (k := k + 2) e2 (by omega) ?_
    refine ltz B.1.1 hX (k := k + 3) e3 (by omega) ?_
    obtain ⟨v, c5⟩ := c_135 (X := X) B.1 (x := dz X (k + 2)) (w := dz X (k + 3)) ⟨in_dz, in_dz⟩
    refine lcc B c5 fun M B => ?_
    exact za_y B (Iv_up (Iv_up hI (by decide) (by decide)) (by decide) (by decide)) ((up_n (by decide)).trans (up_n (by decide))) (by omega) rfl
  refine w_n (fun e => d5 ((D (c := 5) hd (by omega)).mp e)) ?_
  refine lt2 B (q_95 B.1 ha' 0 (by decide)) fun M B => ?_
  by_cases s0 : kf σ a 0 = 0
  · refine w_y s0 ?_
    refine ltd B.1.1 hX (k := k + 2) (lo := 0) (hi := 3) e2 rfl rfl (by omega) (by omega) ?_
    by_cases y0 : nI (dn X (k + 2) 0 3) = 0
    · refine w_y y0 ?_
      refine lcc B (c_131 B.1 ha' s0) fun M B => ?_
      exact za_y B (Iv_go hI s0) (up_n (by omega)) (by omega) rfl
    · refine w_n y0 ?_
      exact za_y B hI rfl (by omega) rfl
  · refine w_n s0 ?_
    exact za_y B hI rfl (by omega) rfl
end SAD
