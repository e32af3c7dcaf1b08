/-! the model reads statements -/
section SMR
variable {X : ak_X} {M M1 : ak_M} {β : Nat → Int32} {n s nk nw : Nat} {ν : Nat → Nat} {σ : Nat → Int32} {τ : Int32} {e : Nat × Nat}
theorem d_118 (hL : ab_lay M) (d : dead e M) (y : Int32) (o2 o3 o4 o5 o6 o7 : Option Value) : sg X 287 (118, [some (.ref 483), some (.int y), o2, o3, o4, o5, o6, o7], [], []) M (.inl none, M) :=
  t_287_118 hL _ _ _ _ _ _ _ ⟨M, hL, d_282 hL d, _, M, hL, d_284 hL d _ _, _, M, hL, d_284 hL d _ _, _, M, hL, d_286 hL d _ _ _ _, _, M, hL, d_286 hL d _ _ _ _, _, M, hL, d_286 hL d _ _ _ _, _, M, hL, d_280 hL d, mb_y rfl rfl⟩
theorem sm_287 (hL : ab_lay M) (hR : BR β n) (hP : Pm β n (σ, ν, nk, nw, τ, s) M) (hV : PV (σ, ν, nk, nw, τ, s)) : ∃ r, mo_od M (ps_k β n (σ, ν, nk, nw, τ, s)) (Pm β n) r ∧ rn X 287 [.ref 483] M r := by
  obtain ⟨hJ, hT, hσ, h26, h24, h25⟩ := hP
  obtain ⟨v1, v2, v3, v4, v5, v6, v7, v8, v9, v10, v11, v12, v13⟩ := hV
  have h7 := hJ.1
  have s68 := sm_168 (X := X) hL
  rw [hσ, v3] at s68
  have uf : ∀ {A B : ak_M}, fr mF A B → fr mA A B := fun f => f.mo fun _ _ h => mF_A h
  show ∃ r, mo_od M (if nk = 10 then _ else _) _ r ∧ _
  by_cases c10 : nk = 10
  · rw [if_pos c10]
    obtain ⟨N, rN, fN, dN, -⟩ := b_281 (X := X) hL h24 hT.2.2.1 (c := 4) (by decide)
    have l := fN.1
    have d8 := fun (y : Int32) => d_118 (X := X) l dN y none none none none none none
    refine ⟨_, ⟨N, rfl, uf fN, dN⟩, t_287 hL ⟨_, M, hL, s68, mb_y (by rw [c10]; exact Int32.le_refl _) ⟨N, l, rN, N, l, d_282 l dN, ?_⟩⟩⟩
    by_cases a : ak_I N 483 21 = 1
    · refine mb_y a ?_
      by_cases b : ak_I N 483 22 = (-1)
      · refine mb_y b ?_
        by_cases c : 6 < (ak_I N 483 19) - (ak_I N 483 20)
        · exact mb_y c ⟨N, l, d_281 l dN _ _, _, N, l, d_280 l dN, mb_y rfl ⟨_, N, l, d_280 l dN, mb_y rfl (d8 0)⟩⟩
        · exact mb_n c ⟨N, l, d_281 l dN _ _, _, N, l, d_280 l dN, mb_y rfl ⟨_, N, l, d_280 l dN, mb_y rfl (d8 0)⟩⟩
      · exact mb_n b ⟨N, l, d_281 l dN _ _, _, N, l, d_280 l dN, mb_y rfl ⟨_, N, l, d_280 l dN, mb_y rfl (d8 0)⟩⟩
    · exact mb_n a ⟨N, l, d_281 l dN _ _, _, N, l, d_280 l dN, mb_y rfl ⟨_, N, l, d_280 l dN, mb_y rfl (d8 0)⟩⟩
  · rw [if_neg c10]
    have hk : nk < 10 := by omega
    have c10' : ¬ 10 ≤ nI nk := by rw [show (10 : Int32) = nI 10 from rfl, mi_le (by decide) (by omega)]; omega
    obtain ⟨M1, r1, f1, t1⟩ := a_282 (X := X) hL h24 hJ hR hT
    have l1 := f1.1
    have a1 := mT_24 f1 h24
    have J1 := mT_J hJ f1
    have e1 : ro M1 = σ := (f1.row fun k e => by unfold mT at e; omega).trans hσ
    have tf := tm_f β n (nx β n s)
    have u1 : fr mA M M1 := f1.mo fun _ _ h => mT_A h
    have hsn := t1.1.1
    have te1 := te_le (β := β) hsn
    have te0 := te_ge (β := β) (n := n) (s := nx β n s)
    have es : ak_I M1 483 19 - ak_I M1 483 20 = nI (te β n (nx β n s) - nx β n s) := by rw [t1.2.1, t1.2.2.1, mi_sbn te0]
    have na := a_281 (X := X) hL h24 (b := 1) (by decide) 4
    -- an error at the name
    obtain ⟨N, rN, fN, dN, -⟩ := b_281 (X := X) l1 a1 t1.2.2.1 (c := 1) (by decide)
    have l := fN.1
    unfold nmo
    by_cases k1 : tkd β n (nx β n s) = 1
    · have c1 : ak_I M1 483 21 = 1 := by rw [t1.2.2.2.1]; exact tf.2.1.mpr k1
      have w22 := t1.2.2.2.2.1 k1
      cases k3 : wo β n (nx β n s) with
      | none =>
        rw [k3] at w22
        have c2 : ak_I M1 483 22 = (-1) := w22
        by_cases k2 : te β n (nx β n s) - nx β n s ≤ 6
        · have c3 : ¬ 6 < (ak_I M1 483 19) - (ak_I M1 483 20) := by rw [es, show (6 : Int32) = nI 6 from rfl, mi_lt (by decide) (by omega)]; omega
          rw [if_pos ⟨k1, k2, rfl⟩]
          have hs := tkd_i (β := β) (n := n) (s := nx β n s) (by omega)
          have t2 := te_lt (β := β) hs
          have hn : nal β (nx β n s) (te β n (nx β n s) - nx β n s) := ⟨by omega, k2, fun i hi => (tkd_in (Or.inl k1) (Nat.le_add_right _ i) (by omega)).trans k1⟩
          have s77 := (sm_277 (X := X) (s := nx β n s) (L := te β n (nx β n s) - nx β n s) l1 J1.2.2 h7 (by omega)).1 hn
          have a77 : rn X 277 [.ref 483, .int (ak_I M1 483 20), .int ((ak_I M1 483 19) - (ak_I M1 483 20))] M1 (.inl (some (.int (nI (nvs β n (nx β n s))))), M1) := by rw [es, t1.2.2.1]; exact s77
          have s78 := sm_278 (X := X) (nk := nk) l1 (by rw [e1]; exact v3) v1 (nI (nvs β n (nx β n s)))
          rw [e1, show nvs β n (nx β n s) = nv β (nx β n s) (te β n (nx β n s) - nx β n s) from rfl, nof_y v12 hn] at s78
          have hd : ∀ {r : ak_O × ak_M}, (if oI (nof ν nk (inp β (nx β n s) (te β n (nx β n s) - nx β n s))) = (-1) then (∃ (M266 : ak_M), ab_lay M266 ∧ rn X 281 [.ref 483, .int 1, .int 3] M1 (.inl (none), M266) ∧ sg X 287 (118, [some (.ref 483), some (.int (nI (nvs β n (nx β n s)))), none, none, none, none, none, none], [], []) M266 r) else (∃ (M264 : ak_M), ab_lay M264 ∧ rn X 281 [.ref 483, .int 0, .int 3] M1 (.inl (none), M264) ∧ sg X 287 (118, [some (.ref 483), some (.int (nI (nvs β n (nx β n s)))), none, none, none, none, none, none], [], []) M264 r)) → rn X 287 [.ref 483] M r := fun h =>
            t_287 hL ⟨_, M, hL, s68, mb_n c10' ⟨M, hL, na, M1, l1, r1, mb_y c1 (mb_y c2 (mb_n c3 ⟨M1, l1, a_281 l1 a1 (by decide) _, _, M1, l1, a_280 l1 a1, mb_n (by decide) ⟨_, M1, l1, a77, _, M1, l1, a_280 l1 a1, mb_n (by decide) ⟨_, M1, l1, s78, h⟩⟩⟩))⟩⟩
          cases k4 : nof ν nk (inp β (nx β n s) (te β n (nx β n s) - nx β n s)) with
          | none =>
            rw [k4] at hd
            rw [if_pos rfl]
            obtain ⟨r, ho, hg⟩ := sm_118 (X := X) l1 a1 J1 hR t1 e1 v3 hk (nvs β n (nx β n s)) none none none none none none
            refine ⟨r, ?_, hd (mb_y rfl ⟨M1, l1, a_281 l1 a1 (by decide) _, hg⟩)⟩
            show mo_od M (bnd (kst β n (nx β n (nx β n s))) _) _ r
            cases k5 : kst β n (nx β n (nx β n s)) with
            | inl e =>
              rw [k5] at ho
              obtain ⟨N, er, fN, dN⟩ := ho
              exact ⟨N, er, u1.tr fN, dN⟩
            | inr q =>
              rw [k5] at ho
              obtain ⟨N, er, fN, d1, d2, d3, d4, d5, d6⟩ := ho
              refine ⟨N, er, u1.tr fN, d4, d5, d6, ?_, d1, ?_⟩
              · rw [d3, f1.2.1 483 26 fun e => by unfold mT at e; omega]; exact h26
              · rw [d2, f1.2.1 483 25 fun e => by unfold mT at e; omega]; exact h25
          | some k =>
            rw [k4] at hd
            have kl := wof_s nk 0 k k4
            rw [if_neg (fun e => by cases e)]
            obtain ⟨N, rN, fN, dN, -⟩ := b_281 (X := X) l1 a1 t1.2.2.1 (c := 3) (by decide)
            exact ⟨_, ⟨N, rfl, u1.tr (uf fN), dN⟩, hd (mb_n (mi_n1 (a := k) (by omega)) ⟨N, fN.1, rN, d_118 fN.1 dN _ _ _ _ _ _ _⟩)⟩
        · have c3 : 6 < (ak_I M1 483 19) - (ak_I M1 483 20) := by rw [es, show (6 : Int32) = nI 6 from rfl, mi_lt (by decide) (by omega)]; omega
          rw [if_neg fun e => k2 e.2.1]
          exact ⟨_, ⟨N, rfl, u1.tr (uf fN), dN⟩, t_287 hL ⟨_, M, hL, s68, mb_n c10' ⟨M, hL, na, M1, l1, r1, mb_y c1 (mb_y c2 (mb_y c3 ⟨N, l, rN, _, N, l, d_280 l dN, mb_y rfl ⟨_, N, l, d_280 l dN, mb_y rfl (d_118 l dN _ _ _ _ _ _ _)⟩⟩))⟩⟩⟩
      | some c =>
        rw [k3] at w22
        have cl := (wo_t.mp k3).1
        have c2 : ¬ ak_I M1 483 22 = (-1) := by rw [w22]; exact mi_n1 (a := mwc c) (by have := (wd_c c cl).2; omega)
        rw [if_neg fun e => by cases e.2.2]
        exact ⟨_, ⟨N, rfl, u1.tr (uf fN), dN⟩, t_287 hL ⟨_, M, hL, s68, mb_n c10' ⟨M, hL, na, M1, l1, r1, mb_y c1 (mb_n c2 ⟨N, l, rN, _, N, l, d_280 l dN, mb_y rfl ⟨_, N, l, d_280 l dN, mb_y rfl (d_118 l dN _ _ _ _ _ _ _)⟩⟩)⟩⟩⟩
    · have c1 : ¬ ak_I M1 483 21 = 1 := by rw [t1.2.2.2.1]; exact fun e => k1 (tf.2.1.mp e)
      rw [if_neg fun e => k1 e.1]
      exact ⟨_, ⟨N, rfl, u1.tr (uf fN), dN⟩, t_287 hL ⟨_, M, hL, s68, mb_n c10' ⟨M, hL, na, M1, l1, r1, mb_n c1 ⟨N, l, rN, _, N, l, d_280 l dN, mb_y rfl ⟨_, N, l, d_280 l dN, mb_y rfl (d_118 l dN _ _ _ _ _ _ _)⟩⟩⟩⟩⟩
/-! winds -/
def mV (M : ak_M) (w : Nat) (l x y : Int32) : ak_M := ak_sI (ak_sI (ak_sI (ak_sI M 484 (11 + 3 * w + 0) l) 484 (11 + 3 * w + 1) x) 484 (11 + 3 * w + 2) y) 484 2 (nI (w + 1))
theorem mV_r {w : Nat} {l x y : Int32} {p : Nat} (h : p ≠ 484) : ak_I (mV M w l x y) p = ak_I M p := by
  unfold mV
  rw [mb_sIr h, mb_sIr h, mb_sIr h, mb_sIr h]
theorem mV_ro {w : Nat} {l x y : Int32} : ro (mV M w l x y) = rw3 (ro M) w l x y := rfl
theorem mV_f (hL : ab_lay M) {w : Nat} {l x y : Int32} : fr mA M (mV M w l x y) := by
  have z : ∀ k, mA 484 k := fun k => Or.inl rfl
  unfold mV
  exact ((((fr.rf hL).st (z _)).st (z _)).st (z _)).st (z _)
theorem sm_160 (hL : ab_lay M) (h2 : ro M 2 = nI nw) (h4 : nw < 4) (l x y : Int32) : rn X 160 [.ref 483, .int l, .int x, .int y] M (.inl none, mV M nw l x y) := by
  have ez : 11 + 3 * nI nw = nI (11 + 3 * nw) := by rw [show (11 : Int32) = nI 11 from rfl, show (3 : Int32) = nI 3 from rfl, mi_mul, mi_add]
  refine t_160 hL _ _ _ ⟨2, ⟨rfl, rfl⟩, fun z e => ?_⟩
  have e : z = nI (11 + 3 * nw) := by rw [e, show ak_I M 484 2 = nI nw from h2, ez]
  rw [e]
  refine ⟨11 + 3 * nw + 0, mb_ixe (mi_add _ 0) (by omega) (by decide), fun N1 e1 => ⟨11 + 3 * nw + 1, mb_ixe (mi_add _ 1) (by omega) (by decide), fun N2 e2 => ⟨11 + 3 * nw + 2, mb_ixe (mi_add _ 2) (by omega) (by decide), fun N3 e3 => ⟨2, ⟨rfl, rfl⟩, 2, ⟨rfl, rfl⟩, fun N4 e4 => ?_⟩⟩⟩⟩
  have e5 : ak_I N3 484 2 = nI nw := by
    rw [e3, mb_sIk (by omega), e2, mb_sIk (by omega), e1, mb_sIk (by omega)]
    exact h2
  rw [e5, mi_s, e3, e2, e1] at e4
  rw [e4]
  rfl
/-- the tail of a wind's statement -/
def tr288 (X : ak_X) (z lo hi : Int32) (M3 : ak_M) (r : ak_O × ak_M) : Prop := (∃ (v20 : Int32) (M19 : ak_M), ab_lay M19 ∧ rn X 284 [.ref 483, .int lo, .int hi] M3 (.inl (some (.int v20)), M19) ∧ (∃ (v22 : Int32) (M21 : ak_M), ab_lay M21 ∧ rn X 285 [.ref 483] M19 (.inl (some (.int v22)), M21) ∧ (∃ (v24 : Int32) (M23 : ak_M), ab_lay M23 ∧ rn X 285 [.ref 483] M21 (.inl (some (.int v24)), M23) ∧ (∃ (v26 : Int32) (M25 : ak_M), ab_lay M25 ∧ rn X 280 [.ref 483] M23 (.inl (some (.int v26)), M25) ∧ (if v26 = 0 then sg X 288 (93, [some (.ref 483), some (.int z), some (.int v20), some (.int v22), some (.int v24)], [], []) M25 r else (∃ (M27 : ak_M), ab_lay M27 ∧ rn X 160 [.ref 483, .int v20, .int v22, .int v24] M25 (.inl (none), M27) ∧ sg X 288 (93, [some (.ref 483), some (.int z), some (.int v20), some (.int v22), some (.int v24)], [], []) M27 r))))))
theorem d_288 (hL : ab_lay M) (d : dead e M) (z lo hi : Int32) : tr288 X z lo hi M (.inl none, M) :=
  ⟨_, M, hL, d_284 hL d _ _, _, M, hL, d_285 hL d, _, M, hL, d_285 hL d, _, M, hL, d_280 hL d, mb_y rfl (t_288_93 hL _ _ _ _ _ rfl)⟩
theorem sm_288w (hL : ab_lay M) (h24 : ak_I M 483 24 = 0) (hJ : Jm β n M) (hR : BR β n) (hT : Tm β n s M) (hσ : ro M = σ) (h2 : σ 2 = nI nw) (h4 : nw < 4) (z lo hi : Int32) :
    ∃ r, mo_od M (bnd (nb β n s lo hi) fun l => bnd (spd β n l.2) fun x => bnd (spd β n x.2) fun y => .inr (rw3 σ nw l.1 x.1 y.1, y.2)) (fun (q : (Nat → Int32) × Nat) M' => ak_I M' 483 24 = 0 ∧ ak_I M' 483 25 = ak_I M 483 25 ∧ ak_I M' 483 26 = ak_I M 483 26 ∧ Jm β n M' ∧ Tm β n q.2 M' ∧ ro M' = q.1) r ∧ tr288 X z lo hi M r := by
  have s1 := sm_284 (X := X) hL h24 hJ hR hT lo hi
  have up : ∀ {A B : ak_M}, fr mT A B → fr mA A B := fun f => f.mo fun _ _ h => mT_A h
  have uf : ∀ {A B : ak_M}, fr mF A B → fr mA A B := fun f => f.mo fun _ _ h => mF_A h
  cases q1 : nb β n s lo hi with
  | inl e =>
    rw [q1] at s1
    obtain ⟨N, v1, r1, f1, d⟩ := s1
    have l := f1.1
    exact ⟨_, ⟨N, rfl, uf f1, d⟩, _, N, l, r1, _, N, l, d_285 l d, _, N, l, d_285 l d, _, N, l, d_280 l d, mb_y rfl (t_288_93 l _ _ _ _ _ rfl)⟩
  | inr a =>
    rw [q1] at s1
    obtain ⟨M1, r1, f1, t1⟩ := s1
    have s2 := sm_285 (X := X) f1.1 (mT_24 f1 h24) (mT_J hJ f1) hR t1
    show ∃ r, mo_od M (bnd (spd β n a.2) _) _ r ∧ _
    cases q2 : spd β n a.2 with
    | inl e =>
      rw [q2] at s2
      obtain ⟨N, v2, r2, f2, d⟩ := s2
      have l := f2.1
      exact ⟨_, ⟨N, rfl, (up f1).tr (uf f2), d⟩, _, M1, f1.1, r1, _, N, l, r2, _, N, l, d_285 l d, _, N, l, d_280 l d, mb_y rfl (t_288_93 l _ _ _ _ _ rfl)⟩
    | inr x =>
      rw [q2] at s2
      obtain ⟨M2, r2, f2, t2⟩ := s2
      have g2 := f1.tr f2
      have s3 := sm_285 (X := X) f2.1 (mT_24 g2 h24) (mT_J hJ g2) hR t2
      show ∃ r, mo_od M (bnd (spd β n x.2) _) _ r ∧ _
      cases q3 : spd β n x.2 with
      | inl e =>
        rw [q3] at s3
        obtain ⟨N, v3, r3, f3, d⟩ := s3
        have l := f3.1
        exact ⟨_, ⟨N, rfl, (up g2).tr (uf f3), d⟩, _, M1, f1.1, r1, _, M2, f2.1, r2, _, N, l, r3, _, N, l, d_280 l d, mb_y rfl (t_288_93 l _ _ _ _ _ rfl)⟩
      | inr y =>
        rw [q3] at s3
        obtain ⟨M3, r3, f3, t3⟩ := s3
        have g3 := g2.tr f3
        have e3 : ro M3 = σ := (g3.row fun k e => by unfold mT at e; omega).trans hσ
        have s160 := sm_160 (X := X) f3.1 (by rw [e3]; exact h2) h4 a.1 x.1 y.1
        have v := mV_f f3.1 (w := nw) (l := a.1) (x := x.1) (y := y.1)
        have rr : ∀ {p : Nat}, p ≠ 484 → ak_I (mV M3 nw a.1 x.1 y.1) p = ak_I M3 p := fun h => mV_r h
        refine ⟨_, ⟨mV M3 nw a.1 x.1 y.1, rfl, (up g3).tr v, ?_, ?_, ?_, ?_, ?_, ?_⟩, _, M1, f1.1, r1, _, M2, f2.1, r2, _, M3, f3.1, r3, _, M3, f3.1, a_280 f3.1 (mT_24 g3 h24), mb_n (by decide) ⟨_, v.1, s160, t_288_93 v.1 _ _ _ _ _ rfl⟩⟩
        · rw [rr (by decide)]; exact mT_24 g3 h24
        · rw [rr (by decide)]; exact g3.2.1 483 25 fun e => by unfold mT at e; omega
        · rw [rr (by decide)]; exact g3.2.1 483 26 fun e => by unfold mT at e; omega
        · have J3 := mT_J hJ g3
          exact ⟨J3.1, by rw [rr (by decide)]; exact J3.2.1, fun j hj => by rw [rr (by decide)]; exact J3.2.2 j hj⟩
        · unfold Tm at t3 ⊢
          rw [rr (by decide)]
          exact t3
        · rw [mV_ro, e3]
theorem sm_288 (hL : ab_lay M) (hR : BR β n) (hP : Pm β n (σ, ν, nk, nw, τ, s) M) (hV : PV (σ, ν, nk, nw, τ, s)) : ∃ r, mo_od M (ps_w β n (σ, ν, nk, nw, τ, s)) (Pm β n) r ∧ rn X 288 [.ref 483] M r := by
  obtain ⟨hJ, hT, hσ, h26, h24, h25⟩ := hP
  obtain ⟨v1, v2, v3, v4, v5, v6, v7, v8, v9, v10, v11, v12, v13⟩ := hV
  have e2 : ak_I M 484 2 = nI nw := (congrFun hσ 2).trans v4
  have uf : ∀ {A B : ak_M}, fr mF A B → fr mA A B := fun f => f.mo fun _ _ h => mF_A h
  show ∃ r, mo_od M (if nw = 4 then _ else _) _ r ∧ _
  by_cases c4 : nw = 4
  · rw [if_pos c4]
    obtain ⟨N, rN, fN, dN, -⟩ := b_281 (X := X) hL h24 hT.2.2.1 (c := 4) (by decide)
    have l := fN.1
    have z0 : ¬ ak_I M 484 2 = 0 := by rw [e2, c4]; decide
    exact ⟨_, ⟨N, rfl, uf fN, dN⟩, t_288 hL ⟨2, ⟨rfl, rfl⟩, mb_y (by rw [e2, c4]; exact Int32.le_refl _) ⟨N, l, rN, N, l, d_282 l dN, mb_n z0 ⟨_, N, l, d_280 l dN, mb_y rfl (mb_n z0 (d_288 (X := X) l dN (ak_I M 484 2) 0 300))⟩⟩⟩⟩
  · rw [if_neg c4]
    have h4 : nw < 4 := by omega
    have c4' : ¬ 4 ≤ ak_I M 484 2 := by rw [e2, show (4 : Int32) = nI 4 from rfl, mi_le (by decide) (by omega)]; omega
    obtain ⟨M1, r1, f1, t1⟩ := a_282 (X := X) hL h24 hJ hR hT
    have l1 := f1.1
    have a1 := mT_24 f1 h24
    have e1 : ro M1 = σ := (f1.row fun k e => by unfold mT at e; omega).trans hσ
    have u1 : fr mA M M1 := f1.mo fun _ _ h => mT_A h
    have na := a_281 (X := X) hL h24 (b := 1) (by decide) 4
    obtain ⟨r, ho, hw⟩ := sm_288w (X := X) l1 a1 (mT_J hJ f1) hR t1 e1 v4 h4 (ak_I M 484 2) (wlo σ nw) (whi nw)
    refine ⟨r, ?_, ?_⟩
    · have cv : ∀ (o : (Nat × Nat) ⊕ ((Nat → Int32) × Nat)), mo_od M1 o (fun (q : (Nat → Int32) × Nat) M' => ak_I M' 483 24 = 0 ∧ ak_I M' 483 25 = ak_I M1 483 25 ∧ ak_I M' 483 26 = ak_I M1 483 26 ∧ Jm β n M' ∧ Tm β n q.2 M' ∧ ro M' = q.1) r → mo_od M (bnd o fun q => .inr (q.1, ν, nk, nw + 1, τ, q.2)) (Pm β n) r := by
        intro o h
        cases o with
        | inl e =>
          obtain ⟨N, er, fN, dN⟩ := h
          exact ⟨N, er, u1.tr fN, dN⟩
        | inr q =>
          obtain ⟨N, er, fN, d1, d2, d3, d4, d5, d6⟩ := h
          refine ⟨N, er, u1.tr fN, d4, d5, d6, ?_, d1, ?_⟩
          · rw [d3, f1.2.1 483 26 fun e => by unfold mT at e; omega]; exact h26
          · rw [d2, f1.2.1 483 25 fun e => by unfold mT at e; omega]; exact h25
      have := cv _ ho
      cases q1 : nb β n (nx β n s) (wlo σ nw) (whi nw) with
      | inl e => rw [q1] at this; exact this
      | inr a =>
        rw [q1] at this
        show mo_od M (bnd (spd β n a.2) _) _ r
        have this : mo_od M (bnd (bnd (spd β n a.2) fun x => bnd (spd β n x.2) fun y => .inr (rw3 σ nw a.1 x.1 y.1, y.2)) fun q => .inr (q.1, ν, nk, nw + 1, τ, q.2)) (Pm β n) r := this
        cases q2 : spd β n a.2 with
        | inl e => rw [q2] at this; exact this
        | inr x =>
          rw [q2] at this
          show mo_od M (bnd (spd β n x.2) _) _ r
          have this : mo_od M (bnd (bnd (spd β n x.2) fun y => .inr (rw3 σ nw a.1 x.1 y.1, y.2)) fun q => .inr (q.1, ν, nk, nw + 1, τ, q.2)) (Pm β n) r := this
          cases q3 : spd β n x.2 with
          | inl e => rw [q3] at this; exact this
          | inr y => rw [q3] at this; exact this
    · by_cases c0 : nw = 0
      · have z0 : ak_I M 484 2 = 0 := by rw [e2, c0]; rfl
        unfold wlo whi at hw
        rw [if_pos c0, if_pos c0] at hw
        exact t_288 hL ⟨2, ⟨rfl, rfl⟩, mb_n c4' ⟨M, hL, na, M1, l1, r1, mb_y z0 (mb_y z0 hw)⟩⟩
      · have z0 : ¬ ak_I M 484 2 = 0 := by rw [e2, show (0 : Int32) = nI 0 from rfl, mi_eq (by omega) (by decide)]; exact c0
        obtain ⟨w, rfl⟩ : ∃ w, nw = w + 1 := ⟨nw - 1, by omega⟩
        unfold wlo whi at hw
        rw [if_neg c0, if_neg c0, show w + 1 - 1 = w by omega] at hw
        have s77 := sm_177 (X := X) (k := w) (w := 0) l1 (by omega) (by decide)
        rw [e1] at s77
        exact t_288 hL ⟨2, ⟨rfl, rfl⟩, mb_n c4' ⟨M, hL, na, M1, l1, r1, mb_n z0 ⟨_, M1, l1, a_280 l1 a1, mb_n (by decide) ⟨_, M1, l1, by rw [e2, mi_p]; exact s77, mb_n z0 hw⟩⟩⟩⟩
/-! settings -/
theorem sm_289 (hL : ab_lay M) (hR : BR β n) (hP : Pm β n (σ, ν, nk, nw, τ, s) M) (hV : PV (σ, ν, nk, nw, τ, s)) {w : Nat} (hw : w < 6) (h22 : ak_I M 483 22 = nI w) : ∃ r, mo_od M (ps_s β n w (σ, ν, nk, nw, τ, s)) (Pm β n) r ∧ rn X 289 [.ref 483] M r := by
  obtain ⟨hJ, hT, hσ, h26, h24, h25⟩ := hP
  obtain ⟨v1, v2, v3, v4, v5, v6, v7, v8, v9, v10, v11, v12, t, ht, et⟩ := hV
  have bf := (bit_f t ht w hw).1
  rw [← et] at bf
  have cq : (((ak_I M 483 26) >>> ((ak_I M 483 22) &&& 31)) &&& 1 = 0) ↔ τ &&& bit w = 0 := by rw [h26, h22]; exact bf.symm
  have eb : (1 <<< ((ak_I M 483 22) &&& 31) : Int32) = bit w := by rw [h22]; rfl
  show ∃ r, mo_od M (if τ &&& bit w = 0 then _ else _) _ r ∧ _
  by_cases c : τ &&& bit w = 0
  · rw [if_pos c]
    obtain ⟨M1, hM1⟩ : ∃ M1, M1 = ak_sI M 483 26 (τ ||| bit w) := ⟨_, rfl⟩
    have f1 : fr (fun p k => p = 483 ∧ k = 26) M M1 := by rw [hM1]; exact (fr.rf hL).st ⟨rfl, rfl⟩
    have b1 : ∀ k, k ≠ 26 → ak_I M1 483 k = ak_I M 483 k := fun k h => by rw [hM1]; exact mb_sIk h
    have J1 : Jm β n M1 := ⟨hJ.1, by rw [b1 18 (by decide)]; exact hJ.2.1, fun j hj => by rw [f1.row (p := 495) fun k e => by omega]; exact hJ.2.2 j hj⟩
    have T1 : Tm β n s M1 := by
      unfold Tm at hT ⊢
      rw [b1 19 (by decide), b1 20 (by decide), b1 21 (by decide), b1 22 (by decide), b1 23 (by decide)]
      exact hT
    have a1 : ak_I M1 483 24 = 0 := (b1 24 (by decide)).trans h24
    obtain ⟨M2, r2, f2, t2⟩ := a_282 (X := X) f1.1 a1 J1 hR T1
    have a2 := mT_24 f2 a1
    have s6 := sm_268 (X := X) f2.1 hw
    have s1 := sm_284 (X := X) f2.1 a2 (mT_J J1 f2) hR t2 (lo6 w) (hi6 w)
    have g2 : fr mA M M2 := (f1.mo fun p k e => by unfold mA; omega).tr (f2.mo fun _ _ h => mT_A h)
    have hd : ∀ {r : ak_O × ak_M}, (∃ (v29 : Int32) (M28 : ak_M), ab_lay M28 ∧ rn X 284 [.ref 483, .int (lo6 w), .int (hi6 w)] M2 (.inl (some (.int v29)), M28) ∧ (∃ (v31 : Int32) (M30 : ak_M), ab_lay M30 ∧ rn X 280 [.ref 483] M28 (.inl (some (.int v31)), M30) ∧ (if v31 = 0 then r = (.inl none, M30) else (∃ i32 : Nat, ab_ix (3 + (ak_I M 483 22)) i32 245 ∧ (∀ M33 : ak_M, M33 = ak_sI M30 484 i32 v29 → r = (.inl none, M33)))))) → rn X 289 [.ref 483] M r := by
      intro r h
      refine t_289 hL (mb_y (cq.mpr c) ⟨M, hL, a_281 hL h24 (by decide) _, fun N e => ?_⟩)
      rw [eb, h26, ← hM1] at e
      rw [e]
      exact ⟨M2, f2.1, r2, _, M2, f2.1, by rw [h22]; exact s6.1, _, M2, f2.1, by rw [h22]; exact s6.2, h⟩
    show ∃ r, mo_od M (bnd (nb β n (nx β n s) (lo6 w) (hi6 w)) _) _ r ∧ _
    cases q1 : nb β n (nx β n s) (lo6 w) (hi6 w) with
    | inl e =>
      rw [q1] at s1
      obtain ⟨N, v, rN, fN, d⟩ := s1
      exact ⟨_, ⟨N, rfl, g2.tr (fN.mo fun _ _ h => mF_A h), d⟩, hd ⟨_, N, fN.1, rN, _, N, fN.1, d_280 fN.1 d, mb_y rfl rfl⟩⟩
    | inr v =>
      rw [q1] at s1
      obtain ⟨M3, r3, f3, t3⟩ := s1
      have e3 : ro M3 = σ := by
        show ak_I M3 484 = σ
        rw [f3.row fun k e => by unfold mT at e; omega, f2.row fun k e => by unfold mT at e; omega, f1.row fun k e => by omega]
        exact hσ
      have k3 : ∀ k, 23 < k → ak_I M3 483 k = ak_I M1 483 k := fun k hk => by
        rw [f3.2.1 483 k fun e => by unfold mT at e; omega, f2.2.1 483 k fun e => by unfold mT at e; omega]
      refine ⟨_, ⟨ak_sI M3 484 (3 + w) v.1, rfl, (g2.tr (f3.mo fun _ _ h => mT_A h)).st (Or.inl rfl), ?_, ?_, ?_, ?_, ?_, ?_⟩, hd ⟨_, M3, f3.1, r3, _, M3, f3.1, a_280 f3.1 (mT_24 f3 a2), mb_n (by decide) ⟨3 + w, by rw [h22]; exact mb_ixe (mi_add 3 w) (by omega) (by decide), fun N e => by rw [e]⟩⟩⟩
      · have J3 := mT_J (mT_J J1 f2) f3
        exact ⟨J3.1, by rw [mb_sIr (by decide)]; exact J3.2.1, fun j hj => by rw [mb_sIr (by decide)]; exact J3.2.2 j hj⟩
      · unfold Tm at t3 ⊢
        rw [mb_sIr (by decide)]
        exact t3
      · rw [ro_up, e3]
      · rw [mb_sIr (by decide), k3 26 (by decide), hM1]; exact mb_sIs
      · rw [mb_sIr (by decide)]; exact mT_24 f3 a2
      · rw [mb_sIr (by decide), k3 25 (by decide), b1 25 (by decide)]; exact h25
  · rw [if_neg c]
    obtain ⟨N, rN, fN, dN, kN⟩ := b_281 (X := X) hL h24 hT.2.2.1 (c := 3) (by decide)
    obtain ⟨N1, hN1⟩ : ∃ N1, N1 = ak_sI N 483 26 ((ak_I N 483 26) ||| bit w) := ⟨_, rfl⟩
    have f1 : fr mA N N1 := by rw [hN1]; exact (fr.rf fN.1).st (Or.inr ⟨rfl, by decide, by decide⟩)
    have l := f1.1
    have d1 : dead (3, s) N1 := by
      obtain ⟨x1, x2, x3⟩ := dN
      exact ⟨by rw [hN1, mb_sIk (by decide)]; exact x1, by rw [hN1, mb_sIk (by decide)]; exact x2, x3⟩
    have s6 := sm_268 (X := X) l hw
    refine ⟨_, ⟨N1, rfl, (fN.mo fun _ _ h => mF_A h).tr f1, d1⟩, t_289 hL (mb_n (fun e => c (cq.mp e)) ⟨N, fN.1, rN, fun N2 e => ?_⟩)⟩
    rw [eb, ← hN1] at e
    rw [e]
    exact ⟨N1, l, d_282 l d1, _, N1, l, by rw [h22]; exact s6.1, _, N1, l, by rw [h22]; exact s6.2, _, N1, l, d_284 l d1 _ _, _, N1, l, d_280 l d1, mb_y rfl rfl⟩
end SMR
