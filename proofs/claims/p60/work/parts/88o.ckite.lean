/-! the class reads a kite -/
/-- all that a kite's statement writes -/
def cK (nk p k : Nat) : Prop := p = 51 ∨ (p = 5 ∧ k = 4) ∨ (38 ≤ p ∧ p ≤ 50) ∨ p = 6 + 6 + nk ∨ (p = 6 ∧ k = 5)
def kr1 (x y sh to ou : Int32) (f : Nat → Int32) : Nat → Int32 := ru (ru (ru (kr0 x y f) 8 sh) 9 to) 6 ou
theorem kf_ru {σ : Nat → Int32} {k w : Nat} {v : Int32} : kf (lay σ k w v) k = ru (kf σ k) w v := by
  funext j
  unfold ru kf lay
  rw [up_e]
  by_cases c : j = w
  · rw [if_pos c, if_pos (by omega)]
  · rw [if_neg c, if_neg (by omega)]
def mr1 (x y sh to ou nm : Int32) (f : Nat → Int32) : Nat → Int32 := ru (ru (ru (ru (ru (ru (ru (ru (ru (ru (ru f 0 1) 4 x) 5 y) 1 x) 2 y) 6 ou) 8 sh) 9 to) 12 (-1)) 13 (-1)) 14 nm
theorem rk_row {σ : Nat → Int32} {k : Nat} {x y sh to ou : Int32} {v : Nat} : kf (rk σ k x y sh to ou v) k = mr1 x y sh to ou (nI v) (kf σ k) := by
  unfold rk mr1
  funext j
  rw [up_kf2 (by decide), kf_ru, kf_ru, kf_ru, kf_ru, kf_ru, kf_ru, kf_ru, kf_ru, kf_ru, kf_ru, kf_ru]
theorem rk_kf {σ : Nat → Int32} {k q w : Nat} {x y sh to ou : Int32} {v : Nat} (h : q ≠ k) (hw : w < 15) : kf (rk σ k x y sh to ou v) q w = kf σ q w := by
  unfold rk
  rw [up_kf2 (by decide), kf_n (by decide) hw (fun e => h e.1), kf_n (by decide) hw (fun e => h e.1), kf_n (by decide) hw (fun e => h e.1), kf_n (by decide) hw (fun e => h e.1), kf_n (by decide) hw (fun e => h e.1), kf_n (by decide) hw (fun e => h e.1), kf_n (by decide) hw (fun e => h e.1), kf_n (by decide) hw (fun e => h e.1), kf_n (by decide) hw (fun e => h e.1), kf_n (by decide) hw (fun e => h e.1), kf_n (by decide) hw (fun e => h e.1)]
theorem rk_lo {σ : Nat → Int32} {k i : Nat} {x y sh to ou : Int32} {v : Nat} (h : i < 23) : rk σ k x y sh to ou v i = if i = 1 then nI (k + 1) else σ i := by
  unfold rk
  rw [up_e]
  by_cases c : i = 1
  · rw [if_pos c, if_pos c]
  · rw [if_neg c, if_neg c, lay_lo h, lay_lo h, lay_lo h, lay_lo h, lay_lo h, lay_lo h, lay_lo h, lay_lo h, lay_lo h, lay_lo h, lay_lo h]
theorem rows_eq (x y sh to ou nm : Int32) (f g : Nat → Int32) (h3 : f 3 = 0) (h7 : f 7 = 0) (h10 : f 10 = 0) (h11 : f 11 = 0) : ∀ w, w < 14 → kr1 x y sh to ou g w = mr1 x y sh to ou nm f w := by
  intro w hw
  rcases (show w = 0 ∨ w = 1 ∨ w = 2 ∨ w = 3 ∨ w = 4 ∨ w = 5 ∨ w = 6 ∨ w = 7 ∨ w = 8 ∨ w = 9 ∨ w = 10 ∨ w = 11 ∨ w = 12 ∨ w = 13 by omega) with e | e | e | e | e | e | e | e | e | e | e | e | e | e <;> subst e
  · rfl
  · rfl
  · rfl
  · exact h3.symm
  · rfl
  · rfl
  · rfl
  · exact h7.symm
  · rfl
  · rfl
  · exact h10.symm
  · exact h11.symm
  · rfl
  · rfl
/-- what holds of a row while a text is read -/
def PV : PS → Prop
  | (σ, ν, nk, nw, τ, _) => nk ≤ 10 ∧ nw ≤ 4 ∧ σ 1 = nI nk ∧ σ 2 = nI nw ∧ σ 0 = 0 ∧ σ 9 = 0 ∧ σ 10 = 0 ∧ (∀ k, k < nk → kv σ k) ∧ (∀ i, i < nw → wv σ i) ∧ sv σ ∧ (∀ k, nk ≤ k → k < 10 → ∀ w, w < 15 → kf σ k w = 0) ∧ NV σ ν nk ∧ ∃ t, t < 64 ∧ τ = nI t
section SKI
variable {X : ak_X} {M M1 : ak_M} {β : Nat → Int32} {n s nk nw : Nat} {ν : Nat → Nat} {σ : Nat → Int32} {τ : Int32}
theorem cst_bad {k : Nat} {as : List Value} {e : Nat × Nat} {M' : ak_M} (r : rn X k as M (.inl (some (.int 0)), M')) (f : fr cA M M') (h : ak_I M' 5 5 = nI e.1 ∧ ak_I M' 5 6 = nI e.2) : bad X k as M e := ⟨M', r, f, h.1, h.2⟩
theorem Rb_kite (hR : Rb 6 σ nk nw 0 0 M) (hk : nk < 10) (hw4 : nw ≤ 4) (hz : ∀ w, w < 15 → kf σ nk w = 0) (f : fr (cK nk) M M1) {x y sh to ou : Int32} {v : Nat} {g : Nat → Int32} (hrow : ak_I M1 (6 + 6 + nk) = kr1 x y sh to ou g) (h5 : ak_I M1 6 5 = nI (nk + 1)) :
    Rb 6 (rk σ nk x y sh to ou v) (nk + 1) nw 0 0 M1 := by
  have e : ∀ p, 6 < p → p < 38 → p ≠ 6 + 6 + nk → ak_I M1 p = ak_I M p := fun p h1 h2 h3 => f.row fun k hs => by unfold cK at hs; omega
  have e6 : ∀ j, j ≠ 5 → ak_I M1 6 j = ak_I M 6 j := fun j hj => f.2.1 6 j fun hs => by unfold cK at hs; omega
  obtain ⟨a1, ⟨b1, b2, b3, b4, b5, b6⟩, a3, a4, a5, a6⟩ := hR
  refine ⟨a1, ?_, fun k hk' w hw => ?_, fun i hi w hw => ?_, fun j hj => ?_, fun j hj => absurd hj (Nat.not_lt_zero _)⟩
  · rw [rk_lo (by decide), rk_lo (by decide), rk_lo (by decide), rk_lo (by decide), rk_lo (by decide), e6 6 (by decide), e6 7 (by decide), e6 8 (by decide), e6 9 (by decide), e6 10 (by decide)]
    exact ⟨h5, b2, b3, b4, b5, b6⟩
  · by_cases ek : k = nk
    · subst ek
      rw [hrow, rk_row]
      exact rows_eq x y sh to ou (nI v) _ _ (hz 3 (by decide)) (hz 7 (by decide)) (hz 10 (by decide)) (hz 11 (by decide)) w hw
    · rw [rk_kf ek (by omega), e _ (by omega) (by omega) (by omega)]
      exact a3 k (by omega) w hw
  · have : wf (rk σ nk x y sh to ou v) i w = wf σ i w := by
      unfold wf
      rw [rk_lo (by omega), if_neg (by omega)]
    rw [this, e _ (by omega) (by omega) (by omega)]
    exact a4 i hi w hw
  · rw [rk_lo (by omega), if_neg (by omega), e _ (by omega) (by omega) (by omega)]
    exact a5 j hj
theorem cN_K {p k : Nat} (h : cN p k) : cK nk p k := by unfold cN at h; unfold cK; omega
theorem cK_A (h10 : nk < 10) {p k : Nat} (h : cK nk p k) : cA p k := by unfold cK at h; unfold cA; omega
theorem sk_63 (hL : ab_lay M) (hP : Pc β n (σ, ν, nk, nw, τ, s) M) (hV : PV (σ, ν, nk, nw, τ, s)) : cst X 63 [.ref 5] M (ps_k β n (σ, ν, nk, nw, τ, s)) (Pc β n) := by
  obtain ⟨hI, hT, hR, hN, h3, h55, h56⟩ := hP
  obtain ⟨v1, v2, v3, v4, v5, v6, v7, v8, v9, v10, v11, v12, v13⟩ := hV
  have e65 : ak_I M 6 5 = nI nk := hR.2.1.1.trans v3
  unfold ps_k
  by_cases c10 : nk = 10
  · show cst X 63 [.ref 5] M (if nk = 10 then _ else _) _
    rw [if_pos c10]
    exact bad_in (c := 4) (fr.rf hL) (sk_71a hL hT 4) fun r hr => t_63 hL (mb_y (by rw [e65, c10]; rfl) hr)
  · show cst X 63 [.ref 5] M (if nk = 10 then _ else _) _
    rw [if_neg c10]
    have c10' : ¬ ak_I M 6 5 = 10 := by rw [e65, show (10 : Int32) = nI 10 from rfl, mi_eq (by omega) (by decide)]; exact c10
    have hk : nk < 10 := by omega
    obtain ⟨M1, r1, f1, t1⟩ := sk_76t (X := X) hL hI hT
    have I1 := cT_I hI f1
    have N1 := hN.ff f1 fun p k e => by unfold cT at e; omega
    have g1 : fr (cK nk) M M1 := f1.mo fun p k e => Or.inl e
    have s64 := sk_64 (X := X) f1.1 I1 t1 N1 hk
    cases q1 : nmo β n ν nk (nx β n s) with
    | inl e =>
      rw [q1] at s64
      obtain ⟨M2, r2, f2, d2⟩ := s64
      exact cst_bad (t_63 hL (mb_n c10' ⟨M1, f1.1, r1, _, M2, f2.1, r2, mb_y rfl rfl⟩)) ((g1.mo fun _ _ h => cK_A hk h).tr f2) d2
    | inr t =>
      rw [q1] at s64
      obtain ⟨M2, r2, f2, t2, n2⟩ := s64
      have g2 : fr (cK nk) M M2 := g1.tr (f2.mo fun p k e => by unfold cNN at e; unfold cK; omega)
      have I2 : Ic β n M2 := I1.ff f2 fun p k e => by unfold cNN at e; omega
      show cst X 63 [.ref 5] M (bnd (kst β n t) _) _
      unfold kst
      have s1 := sk_69 (X := X) f2.1 I2 t2 0 199
      cases q2 : nb β n t 0 199 with
      | inl e =>
        rw [q2] at s1
        obtain ⟨M4, r4, f4, d4⟩ := s1
        exact cst_bad (t_63 hL (mb_n c10' ⟨M1, f1.1, r1, _, M2, f2.1, r2, mb_n (by decide) ⟨_, M4, f4.1, r4, mb_y rfl rfl⟩⟩)) ((g2.mo fun _ _ h => cK_A hk h).tr f4) d4
      | inr x =>
        rw [q2] at s1
        obtain ⟨M4, r4, f4, t4, x4⟩ := s1
        have g4 : fr (cK nk) M M4 := g2.tr (f4.mo fun _ _ h => cN_K h)
        have s2 := sk_69 (X := X) f4.1 (cN_I I2 f4) t4 0 199
        show cst X 63 [.ref 5] M (bnd (bnd (nb β n x.2 0 199) _) _) _
        cases q3 : nb β n x.2 0 199 with
        | inl e =>
          rw [q3] at s2
          obtain ⟨M6, r6, f6, d6⟩ := s2
          exact cst_bad (t_63 hL (mb_n c10' ⟨M1, f1.1, r1, _, M2, f2.1, r2, mb_n (by decide) ⟨_, M4, f4.1, r4, mb_n (by decide) ⟨_, M6, f6.1, r6, mb_y rfl rfl⟩⟩⟩)) ((g4.mo fun _ _ h => cK_A hk h).tr f6) d6
        | inr y =>
          rw [q3] at s2
          obtain ⟨M6, r6, f6, t6, y6⟩ := s2
          have g6 : fr (cK nk) M M6 := g4.tr (f6.mo fun _ _ h => cN_K h)
          have e5 : ak_I M6 6 5 = nI nk := by
            have e2 : ak_I M2 6 5 = ak_I M 6 5 := by
              rw [f2.row (p := 6) fun k e => by unfold cNN at e; omega, f1.row (p := 6) fun k e => by unfold cT at e; omega]
            rw [f6.row (p := 6) fun k e => by unfold cN at e; omega, f4.row (p := 6) fun k e => by unfold cN at e; omega, e2]
            exact e65
          obtain ⟨M9, r9, f9, w9⟩ := sk_36 (X := X) f6.1 hk x.1 y.1
          have g9 : fr (cK nk) M M9 := g6.tr (f9.mo fun p k e => by unfold cK; omega)
          have e95 : ak_I M9 6 5 = nI nk := by rw [f9.row (p := 6) fun k e => by omega]; exact e5
          obtain ⟨M10, hM10⟩ : ∃ M10, M10 = ak_sI M9 6 5 (nI (nk + 1)) := ⟨_, rfl⟩
          have g10 : fr (cK nk) M M10 := by rw [hM10]; exact g9.st (by unfold cK; omega)
          have w10 : ak_I M10 (6 + 6 + nk) = kr0 x.1 y.1 (ak_I M6 (6 + 6 + nk)) := by rw [hM10, mb_sIr (by omega)]; exact w9
          have e105 : ak_I M10 6 5 = nI (nk + 1) := by rw [hM10]; exact mb_sIs
          have b10 : ∀ p, p ≠ 6 → p ≠ 6 + 6 + nk → ak_I M10 p = ak_I M6 p := fun p h1 h2 => by rw [hM10, mb_sIr h1]; exact f9.row fun k e => h2 e
          have I10 : Ic β n M10 := by
            have i6 := cN_I (cN_I I2 f4) f6
            exact ⟨i6.1, by rw [b10 1 (by decide) (by omega)]; exact i6.2.1, fun j hj => by rw [b10 2 (by decide) (by omega)]; exact i6.2.2 j hj⟩
          have T10 : Tc β n y.2 M10 := by
            unfold Tc at t6 ⊢
            rw [b10 51 (by decide) (by omega)]
            exact t6
          have s3 := sk_65 (X := X) g10.1 I10 T10 (c := 8) (by decide) 0 9 1
          have v8' : ak_I M10 (6 + 6 + nk) 8 = 1 := by rw [w10]; rfl
          have hd : ∀ {r : ak_O × ak_M}, (∃ (v12 : Int32) (M11 : ak_M), ab_lay M11 ∧ rn X 65 [.ref 5, .int 8, .int 0, .int 9, .int 1] M10 (.inl (some (.int v12)), M11) ∧ (if v12 = 0 then r = (.inl (some (.int 0)), M11) else (∀ M13 : ak_M, M13 = ak_sI M11 (6 + 6 + nk) 8 (ak_I M11 5 4) → (∃ (v15 : Int32) (M14 : ak_M), ab_lay M14 ∧ rn X 65 [.ref 5, .int 9, .int 1, .int 99, .int (ak_I M13 (6 + 6 + nk) 9)] M13 (.inl (some (.int v15)), M14) ∧ (if v15 = 0 then r = (.inl (some (.int 0)), M14) else (∀ M16 : ak_M, M16 = ak_sI M14 (6 + 6 + nk) 9 (ak_I M14 5 4) → (∃ (v18 : Int32) (M17 : ak_M), ab_lay M17 ∧ rn X 65 [.ref 5, .int 10, .int 1, .int 400, .int (ak_I M16 (6 + 6 + nk) 6)] M16 (.inl (some (.int v18)), M17) ∧ (if v18 = 0 then r = (.inl (some (.int 0)), M17) else (∀ M19 : ak_M, M19 = ak_sI M17 (6 + 6 + nk) 6 (ak_I M17 5 4) → r = (.inl (some (.int 1)), M19)))))))))) → rn X 63 [.ref 5] M r := by
            intro r hr
            refine t_63 hL (mb_n c10' ⟨M1, f1.1, r1, _, M2, f2.1, r2, mb_n (by decide) ⟨_, M4, f4.1, r4, mb_n (by decide) ⟨_, M6, f6.1, r6, mb_n (by decide) ⟨nk, hk, by rw [e5]; exact mb_ix hk (by decide), M9, f9.1, by rw [x4, y6]; exact r9, fun N e => ?_⟩⟩⟩⟩)
            rw [e95, mi_s, ← hM10] at e
            rw [e, v8']
            exact hr
          show cst X 63 [.ref 5] M (bnd (bnd (opt β n y.2 8 0 9 1) _) _) _
          cases q4 : opt β n y.2 8 0 9 1 with
          | inl e =>
            rw [q4] at s3
            obtain ⟨M11, r11, f11, d11⟩ := s3
            exact cst_bad (hd ⟨_, M11, f11.1, r11, mb_y rfl rfl⟩) ((g10.mo fun _ _ h => cK_A hk h).tr f11) d11
          | inr h =>
            rw [q4] at s3
            obtain ⟨M11, r11, f11, t11, x11⟩ := s3
            have g11 : fr (cK nk) M M11 := g10.tr (f11.mo fun _ _ h => cN_K h)
            have w11 : ak_I M11 (6 + 6 + nk) = kr0 x.1 y.1 (ak_I M6 (6 + 6 + nk)) := by rw [f11.row fun k e => by unfold cN at e; omega]; exact w10
            obtain ⟨M13, hM13⟩ : ∃ M13, M13 = ak_sI M11 (6 + 6 + nk) 8 h.1 := ⟨_, rfl⟩
            have g13 : fr (cK nk) M M13 := by rw [hM13]; exact g11.st (by unfold cK; omega)
            have w13 : ak_I M13 (6 + 6 + nk) = ru (kr0 x.1 y.1 (ak_I M6 (6 + 6 + nk))) 8 h.1 := by rw [hM13, sI_ru, w11]
            have b13 : ∀ p, p ≠ 6 + 6 + nk → ak_I M13 p = ak_I M11 p := fun p h2 => by rw [hM13]; exact mb_sIr h2
            have i11 := cN_I I10 f11
            have I13 : Ic β n M13 := ⟨i11.1, by rw [b13 1 (by omega)]; exact i11.2.1, fun j hj => by rw [b13 2 (by omega)]; exact i11.2.2 j hj⟩
            have T13 : Tc β n h.2 M13 := by
              unfold Tc at t11 ⊢
              rw [b13 51 (by omega)]
              exact t11
            have s4 := sk_65 (X := X) g13.1 I13 T13 (c := 9) (by decide) 1 99 20
            have v9' : ak_I M13 (6 + 6 + nk) 9 = 20 := by rw [w13]; rfl
            show cst X 63 [.ref 5] M (bnd (bnd (opt β n h.2 9 1 99 20) _) _) _
            cases q5 : opt β n h.2 9 1 99 20 with
            | inl e =>
              rw [q5] at s4
              obtain ⟨M14, r14, f14, d14⟩ := s4
              exact cst_bad (hd ⟨_, M11, f11.1, r11, mb_n (by decide) fun N e => by rw [x11, ← hM13] at e; rw [e, v9']; exact ⟨_, M14, f14.1, r14, mb_y rfl rfl⟩⟩) ((g13.mo fun _ _ h => cK_A hk h).tr f14) d14
            | inr t' =>
              rw [q5] at s4
              obtain ⟨M14, r14, f14, t14, x14⟩ := s4
              have g14 : fr (cK nk) M M14 := g13.tr (f14.mo fun _ _ h => cN_K h)
              have w14 : ak_I M14 (6 + 6 + nk) = ru (kr0 x.1 y.1 (ak_I M6 (6 + 6 + nk))) 8 h.1 := by rw [f14.row fun k e => by unfold cN at e; omega]; exact w13
              obtain ⟨M16, hM16⟩ : ∃ M16, M16 = ak_sI M14 (6 + 6 + nk) 9 t'.1 := ⟨_, rfl⟩
              have g16 : fr (cK nk) M M16 := by rw [hM16]; exact g14.st (by unfold cK; omega)
              have w16 : ak_I M16 (6 + 6 + nk) = ru (ru (kr0 x.1 y.1 (ak_I M6 (6 + 6 + nk))) 8 h.1) 9 t'.1 := by rw [hM16, sI_ru, w14]
              have b16 : ∀ p, p ≠ 6 + 6 + nk → ak_I M16 p = ak_I M14 p := fun p h2 => by rw [hM16]; exact mb_sIr h2
              have i14 := cN_I I13 f14
              have I16 : Ic β n M16 := ⟨i14.1, by rw [b16 1 (by omega)]; exact i14.2.1, fun j hj => by rw [b16 2 (by omega)]; exact i14.2.2 j hj⟩
              have T16 : Tc β n t'.2 M16 := by
                unfold Tc at t14 ⊢
                rw [b16 51 (by omega)]
                exact t14
              have s5 := sk_65 (X := X) g16.1 I16 T16 (c := 10) (by decide) 1 400 10
              have v6' : ak_I M16 (6 + 6 + nk) 6 = 10 := by rw [w16]; rfl
              show cst X 63 [.ref 5] M (bnd (bnd (opt β n t'.2 10 1 400 10) _) _) _
              cases q6 : opt β n t'.2 10 1 400 10 with
              | inl e =>
                rw [q6] at s5
                obtain ⟨M17, r17, f17, d17⟩ := s5
                exact cst_bad (hd ⟨_, M11, f11.1, r11, mb_n (by decide) fun N e => by rw [x11, ← hM13] at e; rw [e, v9']; exact ⟨_, M14, f14.1, r14, mb_n (by decide) fun N2 e2 => by rw [x14, ← hM16] at e2; rw [e2, v6']; exact ⟨_, M17, f17.1, r17, mb_y rfl rfl⟩⟩⟩) ((g16.mo fun _ _ h => cK_A hk h).tr f17) d17
              | inr o =>
                rw [q6] at s5
                obtain ⟨M17, r17, f17, t17, x17⟩ := s5
                have g17 : fr (cK nk) M M17 := g16.tr (f17.mo fun _ _ h => cN_K h)
                have w17 : ak_I M17 (6 + 6 + nk) = ru (ru (kr0 x.1 y.1 (ak_I M6 (6 + 6 + nk))) 8 h.1) 9 t'.1 := by rw [f17.row fun k e => by unfold cN at e; omega]; exact w16
                obtain ⟨M19, hM19⟩ : ∃ M19, M19 = ak_sI M17 (6 + 6 + nk) 6 o.1 := ⟨_, rfl⟩
                have g19 : fr (cK nk) M M19 := by rw [hM19]; exact g17.st (by unfold cK; omega)
                have w19 : ak_I M19 (6 + 6 + nk) = kr1 x.1 y.1 h.1 t'.1 o.1 (ak_I M6 (6 + 6 + nk)) := by rw [hM19, sI_ru, w17]; rfl
                have b19 : ∀ p, p ≠ 6 + 6 + nk → ak_I M19 p = ak_I M17 p := fun p h2 => by rw [hM19]; exact mb_sIr h2
                have i17 := cN_I I16 f17
                have I19 : Ic β n M19 := ⟨i17.1, by rw [b19 1 (by omega)]; exact i17.2.1, fun j hj => by rw [b19 2 (by omega)]; exact i17.2.2 j hj⟩
                have T19 : Tc β n o.2 M19 := by
                  unfold Tc at t17 ⊢
                  rw [b19 51 (by omega)]
                  exact t17
                have e19 : ak_I M19 6 5 = nI (nk + 1) := by
                  rw [b19 6 (by omega), f17.row (p := 6) fun k e => by unfold cN at e; omega, b16 6 (by omega), f14.row (p := 6) fun k e => by unfold cN at e; omega, b13 6 (by omega), f11.row (p := 6) fun k e => by unfold cN at e; omega]
                  exact e105
                have nn : ∀ p, 38 ≤ p → p ≤ 50 → ak_I M19 p = ak_I M2 p := fun p h1 h2 => by
                  rw [b19 p (by omega), f17.row fun k e => by unfold cN at e; omega, b16 p (by omega), f14.row fun k e => by unfold cN at e; omega, b13 p (by omega), f11.row fun k e => by unfold cN at e; omega, b10 p (by omega) (by omega), f6.row fun k e => by unfold cN at e; omega, f4.row fun k e => by unfold cN at e; omega]
                have N19 : Nn 38 (nu1 ν nk (nvs β n (nx β n s))) (nk + 1) M19 := by
                  obtain ⟨m1, m2, m3⟩ := n2
                  refine ⟨m1, by rw [nn 38 (by decide) (by decide)]; exact m2, fun k hk' => ?_⟩
                  obtain ⟨l1, l2, l3⟩ := m3 k hk'
                  refine ⟨l1, by rw [nn _ (by decide) (by decide)]; exact l2, fun j hj => ?_⟩
                  rw [nn _ (by omega) (by omega)]
                  exact l3 j hj
                refine ⟨M19, hd ⟨_, M11, f11.1, r11, mb_n (by decide) fun N e => by rw [x11, ← hM13] at e; rw [e, v9']; exact ⟨_, M14, f14.1, r14, mb_n (by decide) fun N2 e2 => by rw [x14, ← hM16] at e2; rw [e2, v6']; exact ⟨_, M17, f17.1, r17, mb_n (by decide) fun N3 e3 => by rw [x17, ← hM19] at e3; rw [e3]⟩⟩⟩, g19.mo fun _ _ h => cK_A hk h, I19, T19, ?_, N19, ?_, ?_, ?_⟩
                · exact Rb_kite hR hk v2 (fun w hw => v11 nk (Nat.le_refl _) hk w hw) g19 w19 e19
                · rw [g19.2.1 5 3 fun e => by unfold cK at e; omega]; exact h3
                · rw [g19.2.1 5 5 fun e => by unfold cK at e; omega]; exact h55
                · rw [g19.2.1 5 6 fun e => by unfold cK at e; omega]; exact h56
end SKI
