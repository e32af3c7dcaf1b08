/-! the model reads a kite and a wind -/
def Pm (β : Nat → Int32) (n : Nat) : PS → ak_M → Prop
  | (σ, _, _, _, τ, s), M => Jm β n M ∧ Tm β n s M ∧ ro M = σ ∧ ak_I M 483 26 = τ ∧ ak_I M 483 24 = 0 ∧ ak_I M 483 25 = (-1)
def mA (p k : Nat) : Prop := p = 484 ∨ (p = 483 ∧ 19 ≤ k ∧ k ≤ 26)
/-- what comes of a statement in the model -/
def mo_od {α : Type} (M : ak_M) (o : (Nat × Nat) ⊕ α) (R : α → ak_M → Prop) (r : ak_O × ak_M) : Prop := match o with
  | .inl e => ∃ M', r = (.inl none, M') ∧ fr mA M M' ∧ dead e M'
  | .inr q => ∃ M', r = (.inl none, M') ∧ fr mA M M' ∧ R q M'
theorem mT_A {p k : Nat} (h : mT p k) : mA p k := by unfold mT at h; unfold mA; omega
theorem mF_A {p k : Nat} (h : mF p k) : mA p k := by unfold mF at h; unfold mA; omega
def mW (M : ak_M) (k : Nat) (x y sh to ou nm c : Int32) : ak_M :=
  ak_sI (ak_sI (ak_sI (ak_sI (ak_sI (ak_sI (ak_sI (ak_sI (ak_sI (ak_sI (ak_sI (ak_sI M 484 (23 + 15 * k + 0) 1) 484 (23 + 15 * k + 4) x) 484 (23 + 15 * k + 5) y) 484 (23 + 15 * k + 1) x) 484 (23 + 15 * k + 2) y) 484 (23 + 15 * k + 6) ou) 484 (23 + 15 * k + 8) sh) 484 (23 + 15 * k + 9) to) 484 (23 + 15 * k + 12) (-1)) 484 (23 + 15 * k + 13) (-1)) 484 (23 + 15 * k + 14) nm) 484 1 c
section SMK
variable {X : ak_X} {M M1 : ak_M} {β : Nat → Int32} {n s nk nw : Nat} {ν : Nat → Nat} {σ : Nat → Int32} {τ : Int32}
theorem mW_r {k : Nat} {x y sh to ou nm c : Int32} {p : Nat} (h : p ≠ 484) : ak_I (mW M k x y sh to ou nm c) p = ak_I M p := by
  unfold mW
  rw [mb_sIr h, mb_sIr h, mb_sIr h, mb_sIr h, mb_sIr h, mb_sIr h, mb_sIr h, mb_sIr h, mb_sIr h, mb_sIr h, mb_sIr h, mb_sIr h]
theorem mW_ro {k v : Nat} {x y sh to ou : Int32} (h : ro M = σ) : ro (mW M k x y sh to ou (nI v) (nI (k + 1))) = rk σ k x y sh to ou v := by
  rw [← h]
  rfl
theorem mW_f (hL : ab_lay M) {k : Nat} {x y sh to ou nm c : Int32} : fr mA M (mW M k x y sh to ou nm c) := by
  have z : ∀ k, mA 484 k := fun k => Or.inl rfl
  unfold mW
  exact ((((((((((((fr.rf hL).st (z _)).st (z _)).st (z _)).st (z _)).st (z _)).st (z _)).st (z _)).st (z _)).st (z _)).st (z _)).st (z _)).st (z _)
theorem sm_259 (hL : ab_lay M) (hk : nk < 10) {x y : Int32} (h4 : kf (ro M) nk 4 = x) (h5 : kf (ro M) nk 5 = y) : rn X 259 [.ref 483, .int (nI nk)] M (.inl none, ak_sI (ak_sI M 484 (23 + 15 * nk + 1) x) 484 (23 + 15 * nk + 2) y) := by
  have s4 := sm_171 (X := X) (w := 4) hL hk (by decide)
  rw [h4] at s4
  have s5 := sm_171 (X := X) (M := ak_sI M 484 (23 + 15 * nk + 1) x) (w := 5) hL.sI hk (by decide)
  have e5 : kf (ro (ak_sI M 484 (23 + 15 * nk + 1) x)) nk 5 = y := by
    show kf (lay (ro M) nk 1 x) nk 5 = y
    rw [kf_n (by decide) (by decide) (by omega)]
    exact h5
  rw [e5] at s5
  exact t_259 hL _ ⟨_, M, hL, s4, _, hL.sI, sm_172 (w := 1) hL hk (by decide), _, _, hL.sI, s5, _, hL.sI.sI, sm_172 (w := 2) hL.sI hk (by decide), rfl⟩
/-- the model's way through a kite's numbers -/
theorem sm_118 (hL : ab_lay M) (h24 : ak_I M 483 24 = 0) (hJ : Jm β n M) (hR : BR β n) (hT : Tm β n s M) (hσ : ro M = σ) (h1 : σ 1 = nI nk) (hk : nk < 10) (v : Nat) (o2 o3 o4 o5 o6 o7 : Option Value) :
    ∃ r, mo_od M (kst β n (nx β n s)) (fun q M' => ak_I M' 483 24 = 0 ∧ ak_I M' 483 25 = ak_I M 483 25 ∧ ak_I M' 483 26 = ak_I M 483 26 ∧ Jm β n M' ∧ Tm β n q.2.2.2.2.2 M' ∧ ro M' = rk σ nk q.1 q.2.1 q.2.2.1 q.2.2.2.1 q.2.2.2.2.1 v) r ∧ sg X 287 (118, [some (.ref 483), some (.int (nI v)), o2, o3, o4, o5, o6, o7], [], []) M r := by
  obtain ⟨M0, r0, f0, t0⟩ := a_282 (X := X) hL h24 hJ hR hT
  have a0 := mT_24 f0 h24
  have J0 := mT_J hJ f0
  have s1 := sm_284 (X := X) f0.1 a0 J0 hR t0 0 199
  have up : ∀ {A B : ak_M}, fr mT A B → fr mA A B := fun f => f.mo fun _ _ h => mT_A h
  have uf : ∀ {A B : ak_M}, fr mF A B → fr mA A B := fun f => f.mo fun _ _ h => mF_A h
  unfold kst
  cases q1 : nb β n (nx β n s) 0 199 with
  | inl e =>
    rw [q1] at s1
    obtain ⟨N, v1, r1, f1, d⟩ := s1
    have l := f1.1
    exact ⟨_, ⟨N, rfl, (up f0).tr (uf f1), d⟩, t_287_118 hL _ _ _ _ _ _ _ ⟨M0, f0.1, r0, _, N, l, r1, _, N, l, d_284 l d _ _, _, N, l, d_286 l d _ _ _ _, _, N, l, d_286 l d _ _ _ _, _, N, l, d_286 l d _ _ _ _, _, N, l, d_280 l d, mb_y rfl rfl⟩⟩
  | inr x =>
    rw [q1] at s1
    obtain ⟨M1, r1, f1, t1⟩ := s1
    have g1 := f0.tr f1
    have s2 := sm_284 (X := X) f1.1 (mT_24 g1 h24) (mT_J hJ g1) hR t1 0 199
    show ∃ r, mo_od M (bnd (nb β n x.2 0 199) _) _ r ∧ _
    cases q2 : nb β n x.2 0 199 with
    | inl e =>
      rw [q2] at s2
      obtain ⟨N, v2, r2, f2, d⟩ := s2
      have l := f2.1
      exact ⟨_, ⟨N, rfl, (up g1).tr (uf f2), d⟩, t_287_118 hL _ _ _ _ _ _ _ ⟨M0, f0.1, r0, _, M1, f1.1, r1, _, N, l, r2, _, N, l, d_286 l d _ _ _ _, _, N, l, d_286 l d _ _ _ _, _, N, l, d_286 l d _ _ _ _, _, N, l, d_280 l d, mb_y rfl rfl⟩⟩
    | inr y =>
      rw [q2] at s2
      obtain ⟨M2, r2, f2, t2⟩ := s2
      have g2 := g1.tr f2
      have s3 := sm_286 (X := X) f2.1 (mT_24 g2 h24) (mT_J hJ g2) hR t2 (c := 8) (by decide) 0 9 1
      rw [show nI (mwc 8) = 8 from rfl] at s3
      show ∃ r, mo_od M (bnd (opt β n y.2 8 0 9 1) _) _ r ∧ _
      cases q3 : opt β n y.2 8 0 9 1 with
      | inl e =>
        rw [q3] at s3
        obtain ⟨N, v3, r3, f3, d⟩ := s3
        have l := f3.1
        exact ⟨_, ⟨N, rfl, (up g2).tr (uf f3), d⟩, t_287_118 hL _ _ _ _ _ _ _ ⟨M0, f0.1, r0, _, M1, f1.1, r1, _, M2, f2.1, r2, _, N, l, r3, _, N, l, d_286 l d _ _ _ _, _, N, l, d_286 l d _ _ _ _, _, N, l, d_280 l d, mb_y rfl rfl⟩⟩
      | inr h =>
        rw [q3] at s3
        obtain ⟨M3, r3, f3, t3⟩ := s3
        have g3 := g2.tr f3
        have s4 := sm_286 (X := X) f3.1 (mT_24 g3 h24) (mT_J hJ g3) hR t3 (c := 9) (by decide) 1 99 20
        rw [show nI (mwc 9) = 9 from rfl] at s4
        show ∃ r, mo_od M (bnd (opt β n h.2 9 1 99 20) _) _ r ∧ _
        cases q4 : opt β n h.2 9 1 99 20 with
        | inl e =>
          rw [q4] at s4
          obtain ⟨N, v4, r4, f4, d⟩ := s4
          have l := f4.1
          exact ⟨_, ⟨N, rfl, (up g3).tr (uf f4), d⟩, t_287_118 hL _ _ _ _ _ _ _ ⟨M0, f0.1, r0, _, M1, f1.1, r1, _, M2, f2.1, r2, _, M3, f3.1, r3, _, N, l, r4, _, N, l, d_286 l d _ _ _ _, _, N, l, d_280 l d, mb_y rfl rfl⟩⟩
        | inr t =>
          rw [q4] at s4
          obtain ⟨M4, r4, f4, t4⟩ := s4
          have g4 := g3.tr f4
          have s5 := sm_286 (X := X) f4.1 (mT_24 g4 h24) (mT_J hJ g4) hR t4 (c := 10) (by decide) 1 400 10
          rw [show nI (mwc 10) = 10 from rfl] at s5
          show ∃ r, mo_od M (bnd (opt β n t.2 10 1 400 10) _) _ r ∧ _
          cases q5 : opt β n t.2 10 1 400 10 with
          | inl e =>
            rw [q5] at s5
            obtain ⟨N, v5, r5, f5, d⟩ := s5
            have l := f5.1
            exact ⟨_, ⟨N, rfl, (up g4).tr (uf f5), d⟩, t_287_118 hL _ _ _ _ _ _ _ ⟨M0, f0.1, r0, _, M1, f1.1, r1, _, M2, f2.1, r2, _, M3, f3.1, r3, _, M4, f4.1, r4, _, N, l, r5, _, N, l, d_280 l d, mb_y rfl rfl⟩⟩
          | inr o =>
            rw [q5] at s5
            obtain ⟨M5, r5, f5, t5⟩ := s5
            have g5 := g4.tr f5
            have l := f5.1
            have e5 : ro M5 = σ := (g5.row fun k e => by unfold mT at e; omega).trans hσ
            have s68 := sm_168 (X := X) l
            rw [e5, h1] at s68
            have r259 := sm_259 (X := X) (M := ak_sI (ak_sI (ak_sI M5 484 (23 + 15 * nk + 0) 1) 484 (23 + 15 * nk + 4) x.1) 484 (23 + 15 * nk + 5) y.1) (nk := nk) l.sI.sI.sI hk (x := x.1) (y := y.1) (by
              show kf (lay (lay (lay (ro M5) nk 0 1) nk 4 x.1) nk 5 y.1) nk 4 = x.1
              rw [kf_n (by decide) (by decide) (by omega)]
              exact kf_s) (by
              show kf (lay (lay (lay (ro M5) nk 0 1) nk 4 x.1) nk 5 y.1) nk 5 = y.1
              exact kf_s)
            have rr : ∀ {p : Nat}, p ≠ 484 → ak_I (mW M5 nk x.1 y.1 h.1 t.1 o.1 (nI v) (nI (nk + 1))) p = ak_I M5 p := fun h => mW_r h
            refine ⟨(.inl none, mW M5 nk x.1 y.1 h.1 t.1 o.1 (nI v) (nI (nk + 1))), ⟨_, rfl, (up g5).tr (mW_f l), ?_, ?_, ?_, ?_, ?_, mW_ro e5⟩, t_287_118 hL _ _ _ _ _ _ _ ⟨M0, f0.1, r0, _, M1, f1.1, r1, _, M2, f2.1, r2, _, M3, f3.1, r3, _, M4, f4.1, r4, _, M5, l, r5, _, M5, l, a_280 l (mT_24 g5 h24), mb_n (by decide) ⟨_, M5, l, s68, _, l.sI, sm_172 (w := 0) l hk (by decide), _, l.sI.sI, sm_172 (w := 4) l.sI hk (by decide), _, l.sI.sI.sI, sm_172 (w := 5) l.sI.sI hk (by decide), _, l.sI.sI.sI.sI.sI, r259, _, l.sI.sI.sI.sI.sI.sI, sm_172 (w := 6) l.sI.sI.sI.sI.sI hk (by decide), _, l.sI.sI.sI.sI.sI.sI.sI, sm_172 (w := 8) l.sI.sI.sI.sI.sI.sI hk (by decide), _, l.sI.sI.sI.sI.sI.sI.sI.sI, sm_172 (w := 9) l.sI.sI.sI.sI.sI.sI.sI hk (by decide), _, l.sI.sI.sI.sI.sI.sI.sI.sI.sI, sm_172 (w := 12) l.sI.sI.sI.sI.sI.sI.sI.sI hk (by decide), _, l.sI.sI.sI.sI.sI.sI.sI.sI.sI.sI, sm_172 (w := 13) l.sI.sI.sI.sI.sI.sI.sI.sI.sI hk (by decide), _, l.sI.sI.sI.sI.sI.sI.sI.sI.sI.sI.sI, sm_172 (w := 14) l.sI.sI.sI.sI.sI.sI.sI.sI.sI.sI hk (by decide), 1, ⟨rfl, rfl⟩, fun N e => ?_⟩⟩⟩
            · rw [rr (by decide)]; exact mT_24 g5 h24
            · rw [rr (by decide)]; exact g5.2.1 483 25 fun e => by unfold mT at e; omega
            · rw [rr (by decide)]; exact g5.2.1 483 26 fun e => by unfold mT at e; omega
            · have J5 := mT_J hJ g5
              exact ⟨J5.1, by rw [rr (by decide)]; exact J5.2.1, fun j hj => by rw [rr (by decide)]; exact J5.2.2 j hj⟩
            · unfold Tm at t5 ⊢
              rw [rr (by decide)]
              exact t5
            · rw [mi_s] at e
              rw [e]
              rfl
end SMK
