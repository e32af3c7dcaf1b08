/-! the class parses a text -/
/-- the settings at first, all else nothing -/
def rz (i : Nat) : Int32 := if i = 3 then 5 else if i = 4 then 2 else if i = 5 then 3 else if i = 6 then 4 else if i = 7 then 3 else if i = 8 then 10 else 0
def ps_0 (β : Nat → Int32) (n : Nat) (σ : Nat → Int32) : PS := (σ, fun _ => 0, 0, 0, 0, rnd β n 5 0)
/-- a whole text -/
def ps_a (β : Nat → Int32) (n : Nat) (σ : Nat → Int32) : (Nat × Nat) ⊕ PS := bnd (ps_l β n 701 (ps_0 β n σ)) fun q => .inr (ps_f q)
theorem ps_l_i {β : Nat → Int32} {n : Nat} : ∀ d (q q' : PS), PV q → ps_l β n d q = .inr q' → PV q'
  | 0, q, q', hV, h => by cases h; exact hV
  | d + 1, q, q', hV, h => by
    unfold ps_l at h
    by_cases c : tkd β n q.2.2.2.2.2 = 0
    · rw [if_pos c] at h; cases h; exact hV
    · rw [if_neg c] at h
      obtain ⟨p, e1, h⟩ := bnd_i h
      exact ps_l_i d p q' (ps_2_i hV e1).1 h
theorem PV_0 {β : Nat → Int32} {n : Nat} {σ : Nat → Int32} (h : q245 σ rz) : PV (ps_0 β n σ) := by
  have z : ∀ i, i < 245 → σ i = rz i := h
  have k0 : ∀ k, k < 10 → ∀ w, w < 15 → kf σ k w = 0 := fun k hk w hw => by
    unfold kf
    rw [z _ (by omega)]
    unfold rz
    rw [if_neg (by omega), if_neg (by omega), if_neg (by omega), if_neg (by omega), if_neg (by omega), if_neg (by omega)]
  refine ⟨by decide, by decide, by rw [z 1 (by decide)]; rfl, by rw [z 2 (by decide)]; rfl, by rw [z 0 (by decide)]; rfl, by rw [z 9 (by decide)]; rfl, by rw [z 10 (by decide)]; rfl, fun k hk => absurd hk (Nat.not_lt_zero _), fun k hk => absurd hk (Nat.not_lt_zero _), ?_, fun k _ hk w hw => k0 k hk w hw, fun k hk => absurd hk (Nat.not_lt_zero _), 0, by decide, rfl⟩
  unfold sv
  rw [z 3 (by decide), z 4 (by decide), z 5 (by decide), z 6 (by decide), z 7 (by decide), z 8 (by decide)]
  decide
/-- the row behind a text is a valid one -/
theorem PV_f {q : PS} (h : PV q) : vs (ps_f q).1 (ps_f q).2.2.1 (ps_f q).2.2.2.1 0 ∧ NV (ps_f q).1 (ps_f q).2.1 (ps_f q).2.2.1 := by
  obtain ⟨σ, ν, nk, nw, τ, s⟩ := q
  obtain ⟨v1, v2, v3, v4, v5, v6, v7, v8, v9, v10, v11, v12, v13⟩ := h
  by_cases c : nw = 0
  · have e : ps_f (σ, ν, nk, nw, τ, s) = (rw3 σ 0 0 3 0, ν, nk, 1, τ, s) := if_pos c
    rw [e]
    have lo : ∀ i, i < 11 → i ≠ 2 → rw3 σ 0 0 3 0 i = σ i := fun i hi h2 => by
      rw [rw3_e (by decide), if_neg h2, if_neg (by omega), if_neg (by omega), if_neg (by omega)]
    refine ⟨⟨⟨v1, by show 1 ≤ 1 ∧ 1 ≤ 4; decide, by decide, (lo 1 (by decide) (by decide)).trans v3, rfl, (lo 9 (by decide) (by decide)).trans v6⟩, ?_, fun k hk w hw => ?_, fun i hi => ?_, ?_, fun j hj => absurd hj (Nat.not_lt_zero _)⟩, fun k hk => ?_⟩
    · show in32 (rw3 σ 0 0 3 0 0) 0 5000 = true
      rw [lo 0 (by decide) (by decide), v5]; decide
    · show rg w (kf (rw3 σ 0 0 3 0) k w) = true
      rw [rw3_kf (by decide)]; exact v8 k hk w hw
    · have hi : i < 1 := hi
      rw [show i = 0 by omega]
      show in32 (3 : Int32) (-9) 9 = true ∧ in32 (0 : Int32) (-9) 9 = true
      decide
    · show sv (rw3 σ 0 0 3 0)
      unfold sv
      rw [lo 3 (by decide) (by decide), lo 4 (by decide) (by decide), lo 5 (by decide) (by decide), lo 6 (by decide) (by decide), lo 7 (by decide) (by decide), lo 8 (by decide) (by decide)]
      exact v10
    · show _ ∧ kf (rw3 σ 0 0 3 0) k 14 = _ ∧ _
      rw [rw3_kf (by decide)]
      exact v12 k hk
  · have e : ps_f (σ, ν, nk, nw, τ, s) = (σ, ν, nk, nw, τ, s) := if_neg c
    rw [e]
    exact ⟨⟨⟨v1, ⟨Nat.one_le_iff_ne_zero.mpr c, v2⟩, by decide, v3, v4, v6⟩, by show in32 (σ 0) 0 5000 = true; rw [v5]; decide, v8, v9, v10, fun j hj => absurd hj (Nat.not_lt_zero _)⟩, v12⟩
theorem lts_b : ∀ f n j, j < (lts f n).length → ∃ d, d ≤ 26 ∧ (lts f n).getD j 0 = nI (96 + d)
  | 0, n, j, h => by
    have h : j < 1 := h
    rw [show j = 0 by omega]
    exact ⟨n % 27, by omega, rfl⟩
  | f + 1, n, j, h => by
    rw [lts_s] at h ⊢
    by_cases c : n ≤ 26
    · rw [if_pos c] at h ⊢
      have h : j < 1 := h
      rw [show j = 0 by omega]
      exact ⟨n % 27, by omega, rfl⟩
    · rw [if_neg c] at h ⊢
      rw [gd_ap _ _ _ h]
      by_cases e : j = (lts f (n / 27)).length
      · rw [if_pos e]
        exact ⟨n % 27, by omega, rfl⟩
      · rw [if_neg e]
        rw [List.length_append, List.length_singleton] at h
        exact lts_b f (n / 27) j (by omega)
section SCZ
variable {X : ak_X} {M M1 : ak_M} {β : Nat → Int32} {n s nk nw : Nat} {ν : Nat → Nat} {σ : Nat → Int32} {τ : Int32}
theorem sk_61l : ∀ d (q : PS) (i : Nat) (o2 : Option Value) (M0 M1 : ak_M), n - q.2.2.2.2.2 < d → i ≤ q.2.2.2.2.2 → fr cA M0 M1 → Pc β n q M1 → PV q → ∃ r, od M0 (bnd (ps_l β n d q) fun q => .inr (ps_f q)) (Pc β n) r ∧ sg X 61 (38, [some (.ref 5), some (.int (nI i)), o2], [], []) M1 r
  | 0, q, i, o2, M0, M1, hd, _, _, _, _ => absurd hd (Nat.not_lt_zero _)
  | d + 1, q, i, o2, M0, M1, hd, hi, f1, hP, hV => by
    have hI : Ic β n M1 := by obtain ⟨σ, ν, nk, nw, τ, s⟩ := q; exact hP.1
    have hT : Tc β n q.2.2.2.2.2 M1 := by obtain ⟨σ, ν, nk, nw, τ, s⟩ := q; exact hP.2.1
    have h7 := hI.1
    have hsn := hT.1.1
    have c7 : ¬ 700 < nI i := by rw [show (700 : Int32) = nI 700 from rfl, mi_lt (by decide) (by omega)]; omega
    unfold ps_l
    by_cases c : tkd β n q.2.2.2.2.2 = 0
    · rw [if_pos c]
      obtain ⟨r, ho, hr⟩ := sk_61f (X := X) f1.1 hP hV
      refine ⟨r, ?_, t_61_38 f1.1 _ _ (mb_n c7 (mb_y ((hT.k (m := 0) (by decide)).mpr c) hr))⟩
      obtain ⟨M', e, f, p⟩ := ho
      exact ⟨M', e, f1.tr f, p⟩
    · rw [if_neg c]
      have c0 : ¬ ak_I M1 51 1 = 0 := fun e => c ((hT.k (m := 0) (by decide)).mp e)
      have s72 := sk_72 (X := X) f1.1 hI hT
      have s62 := sk_62 (X := X) f1.1 hP hV
      unfold ps_2
      cases e1 : ps_1 β n q with
      | inl e =>
        rw [e1] at s62
        obtain ⟨M2, r2, f2, d2⟩ := s62
        exact ⟨_, ⟨M2, rfl, f1.tr f2, d2⟩, t_61_38 f1.1 _ _ (mb_n c7 (mb_n c0 ⟨_, M1, f1.1, s72, _, M2, f2.1, r2, mb_y rfl rfl⟩))⟩
      | inr p =>
        rw [e1] at s62
        obtain ⟨M2, r2, f2, hP2⟩ := s62
        obtain ⟨hV2, hle⟩ := ps_1_i hV e1
        obtain ⟨σ, ν, nk, nw, τ, s⟩ := p
        obtain ⟨I2, T2, R2, N2, a3, a5, a6⟩ := hP2
        have hle : q.2.2.2.2.2 ≤ s := hle
        obtain ⟨g1, g2⟩ := sk_70 (X := X) f2.1 I2 T2
        show ∃ r, od M0 (bnd (bnd (if tkd β n s = 4 then .inr (σ, ν, nk, nw, τ, nx β n s) else .inl (1, s)) (ps_l β n d)) _) _ r ∧ _
        by_cases c4 : tkd β n s = 4
        · rw [if_pos c4]
          obtain ⟨M3, r3, f3, t3⟩ := g1 c4
          have hs : s < n := tkd_i (β := β) (by omega)
          have hn := nx_gt (β := β) hs
          have hP3 : Pc β n (σ, ν, nk, nw, τ, nx β n s) M3 := ⟨cT_I I2 f3, t3, rb_f6 R2 hV2.1 hV2.2.1 f3 fun p k e => by unfold cT at e; omega, N2.ff f3 fun p k e => by unfold cT at e; omega, by rw [f3.row (p := 5) fun k e => by unfold cT at e; omega]; exact a3, by rw [f3.row (p := 5) fun k e => by unfold cT at e; omega]; exact a5, by rw [f3.row (p := 5) fun k e => by unfold cT at e; omega]; exact a6⟩
          have g3 : fr cA M0 M3 := (f1.tr f2).tr (f3.mo fun p k e => by unfold cT at e; unfold cA; omega)
          obtain ⟨r, ho, hr⟩ := sk_61l d (σ, ν, nk, nw, τ, nx β n s) (i + 1) (some (.int (oI (wo β n q.2.2.2.2.2)))) M0 M3 (by show n - nx β n s < d; omega) (by show i + 1 ≤ nx β n s; omega) g3 hP3 hV2
          rw [← mi_s] at hr
          exact ⟨r, ho, t_61_38 f1.1 _ _ (mb_n c7 (mb_n c0 ⟨_, M1, f1.1, s72, _, M2, f2.1, r2, mb_n (by decide) ⟨_, M3, f3.1, r3, mb_n (by decide) hr⟩⟩))⟩
        · rw [if_neg c4]
          obtain ⟨M3, r3, f3, d3⟩ := g2 c4
          exact ⟨_, ⟨M3, rfl, (f1.tr f2).tr f3, d3⟩, t_61_38 f1.1 _ _ (mb_n c7 (mb_n c0 ⟨_, M1, f1.1, s72, _, M2, f2.1, r2, mb_n (by decide) ⟨_, M3, f3.1, r3, mb_y rfl rfl⟩⟩))⟩
theorem ci_f (X : ak_X) : ∀ w, w < 6 → ak_cI X (1000001 + 2) w = rz (3 + w) := by
  intro w hw
  rcases (show w = 0 ∨ w = 1 ∨ w = 2 ∨ w = 3 ∨ w = 4 ∨ w = 5 by omega) with e | e | e | e | e | e <;> subst e <;> rfl
theorem sk_8 (hL : ab_lay M) (h : q245 σ rz) : ∃ M', rn X 8 [.ref 6] M (.inl none, M') ∧ fr (fun p k => p = 6 ∨ p = 6 + 4) M M' ∧ Rb 6 σ 0 0 0 0 M' := by
  have z : ∀ i, i < 245 → σ i = rz i := h
  obtain ⟨M6, hM6⟩ : ∃ M6, M6 = ak_sI (ak_sI (ak_sI (ak_sI (ak_sI (ak_sI M 6 5 0) 6 6 0) 6 7 0) 6 8 0) 6 9 0) 6 10 0 := ⟨_, rfl⟩
  have g6 : fr (fun p k => p = 6 ∨ p = 6 + 4) M M6 := by
    rw [hM6]
    exact ((((((fr.rf hL).st (Or.inl rfl)).st (Or.inl rfl)).st (Or.inl rfl)).st (Or.inl rfl)).st (Or.inl rfl)).st (Or.inl rfl)
  have v6 : ∀ k, 5 ≤ k → k < 11 → ak_I M6 6 k = 0 := fun k h1 h2 => by
    rw [hM6, sI_ru, sI_ru, sI_ru, sI_ru, sI_ru, sI_ru]
    rcases (show k = 5 ∨ k = 6 ∨ k = 7 ∨ k = 8 ∨ k = 9 ∨ k = 10 by omega) with e | e | e | e | e | e <;> subst e <;> rfl
  have H := mb_up (P := fun i => ∀ M1, fr (fun p k => p = 6 ∨ p = 6 + 4) M M1 → (∀ k, 5 ≤ k → k < 11 → ak_I M1 6 k = 0) → (∀ j, j < i → ak_I M1 (6 + 4) j = rz (3 + j)) → ∃ M', sg X 8 (32, [some (.ref 6), some (.int (nI i))], [], []) M1 (.inl none, M') ∧ fr (fun p k => p = 6 ∨ p = 6 + 4) M M' ∧ Rb 6 σ 0 0 0 0 M') (n := 6) ?_ ?_ 0 (by decide) M6 g6 v6 fun j hj => absurd hj (Nat.not_lt_zero _)
  · obtain ⟨M', hs, m'⟩ := H
    refine ⟨M', t_8 hL h6 fun N1 e1 N2 e2 N3 e3 N4 e4 N5 e5 N6 e6 => ?_, m'⟩
    rw [e5, e4, e3, e2, e1, ← hM6] at e6
    rw [e6]
    exact hs
  · intro M1 f1 k1 j1
    refine ⟨M1, t_8_32 f1.1 h6 _ (mb_y (by decide) rfl), f1, by decide, ?_, fun k hk => absurd hk (Nat.not_lt_zero _), fun k hk => absurd hk (Nat.not_lt_zero _), fun j hj => by rw [j1 j hj, z _ (by omega)], fun j hj => absurd hj (Nat.not_lt_zero _)⟩
    rw [k1 5 (by decide) (by decide), k1 6 (by decide) (by decide), k1 7 (by decide) (by decide), k1 8 (by decide) (by decide), k1 9 (by decide) (by decide), k1 10 (by decide) (by decide), z 1 (by decide), z 2 (by decide), z 9 (by decide), z 0 (by decide), z 10 (by decide)]
    exact ⟨rfl, rfl, rfl, rfl, rfl, rfl⟩
  · intro i hi ih M1 f1 k1 j1
    obtain ⟨M', hs, m'⟩ := ih (ak_sI M1 (6 + 4) i (rz (3 + i))) (f1.st (Or.inr rfl)) (fun k h1 h2 => by rw [mb_sIr (by decide)]; exact k1 k h1 h2) fun j hj => by
      by_cases e : j = i
      · rw [e]; exact mb_sIs
      · rw [mb_sIk e]; exact j1 j (by omega)
    refine ⟨M', t_8_32 f1.1 h6 _ (mb_n (by rw [show (6 : Int32) = nI 6 from rfl, mi_le (by decide) (by omega)]; omega) ⟨i, mb_ix hi (by decide), i, mb_ix hi (by decide), fun N e => ?_⟩), m'⟩
    rw [ci_f X i hi] at e
    rw [e, mi_s]
    exact hs
theorem sk_61 (hL : ab_lay M) (hI : Ic β n M) (h0 : q245 σ rz) : ∃ r, od M (ps_a β n σ) (Pc β n) r ∧ rn X 61 [.ref 5] M r := by
  have h7 := hI.1
  obtain ⟨M2, hM2⟩ : ∃ M2, M2 = ak_sI (ak_sI M 5 5 0) 5 6 (-1) := ⟨_, rfl⟩
  have f2 : fr (fun p k => p = 5) M M2 := by rw [hM2]; exact fr.st (S := fun p k => p = 5) (fr.st (S := fun p k => p = 5) (fr.rf hL) rfl) rfl
  obtain ⟨M3, r3, f3, R3⟩ := sk_8 (X := X) f2.1 h0
  have f4 : fr (fun p k => p = 38) M3 (ak_sI M3 38 2 0) := fr.st (S := fun p k => p = 38) (fr.rf f3.1) rfl
  have r4 : rn X 48 [.ref 38] M3 (.inl none, ak_sI M3 38 2 0) := t_48 f3.1 h38 fun N e => by rw [e]
  obtain ⟨M5, hM5⟩ : ∃ M5, M5 = ak_sI (ak_sI M3 38 2 0) 5 3 0 := ⟨_, rfl⟩
  have f5 : fr (fun p k => p = 38 ∨ p = 5 ∧ k = 3) M3 M5 := by rw [hM5]; exact (f4.mo fun p k e => Or.inl e).st (Or.inr ⟨rfl, rfl⟩)
  have g5 : fr cA M M5 := ((f2.mo fun p k e => by unfold cA; omega).tr (f3.mo fun p k e => by unfold cA; omega)).tr (f5.mo fun p k e => by unfold cA; omega)
  have I5 : Ic β n M5 := hI.ff g5 fun p k e => by unfold cA at e; omega
  obtain ⟨M6, r6, f6, t6⟩ := sk_75 (X := X) g5.1 I5
  have g6 : fr cA M M6 := g5.tr (f6.mo fun p k e => by unfold cT at e; unfold cA; omega)
  have e5 : ∀ k, k = 5 ∨ k = 6 → ak_I M6 5 k = ak_I M2 5 k := fun k hk => by
    rw [f6.row (p := 5) fun k e => by unfold cT at e; omega, f5.2.1 5 k fun e => by omega, f3.row (p := 5) fun k e => by omega]
  have hP : Pc β n (ps_0 β n σ) M6 := by
    refine ⟨I5.ff f6 fun p k e => by unfold cT at e; omega, t6, ?_, ⟨Nat.zero_le _, ?_, fun k hk => absurd hk (Nat.not_lt_zero _)⟩, ?_, ?_, ?_⟩
    · exact rb_f6 (rb_f6 R3 (Nat.zero_le _) (Nat.zero_le _) f5 fun p k e => by omega) (Nat.zero_le _) (Nat.zero_le _) f6 fun p k e => by unfold cT at e; omega
    · rw [f6.row (p := 38) fun k e => by unfold cT at e; omega, hM5, mb_sIr (by decide)]
      exact mb_sIs
    · rw [f6.row (p := 5) fun k e => by unfold cT at e; omega, hM5]
      exact mb_sIs
    · rw [e5 5 (Or.inl rfl), hM2, mb_sIk (by decide)]; exact mb_sIs
    · rw [e5 6 (Or.inr rfl), hM2]; exact mb_sIs
  obtain ⟨r, ho, hr⟩ := sk_61l (X := X) 701 (ps_0 β n σ) 0 none M M6 (by show n - _ < 701; omega) (Nat.zero_le _) g6 hP (PV_0 h0)
  refine ⟨r, ho, t_61 hL fun N1 e1 N2 e2 => ?_⟩
  rw [e1, ← hM2] at e2
  rw [e2]
  exact ⟨M3, f3.1, r3, _, f4.1, r4, fun N5 e5 => by rw [← hM5] at e5; rw [e5]; exact ⟨M6, f6.1, r6, hr⟩⟩
/-- the names copied -/
theorem sk_49 (hL : ab_lay M) (hN : Nn 38 ν nk M) : ∃ M', rn X 49 [.ref 52, .ref 38] M (.inl none, M') ∧ fr (cNm 52) M M' ∧ Nc ν nk M' := by
  obtain ⟨h10, n2, n3⟩ := hN
  have src : ∀ {N : ak_M}, fr (cNm 52) M N → ∀ p, p ≤ 51 → ak_I N p = ak_I M p := fun f p hp => f.row fun k e => by unfold cNm at e; omega
  have H : ∀ i, i ≤ nk → ∀ M1 o3, fr (cNm 52) M M1 → ak_I M1 52 2 = nI nk → (∀ k, k < i → ak_I M1 (52 + 12) k = nI (lts 5 (ν k)).length ∧ ∀ j, j < (lts 5 (ν k)).length → ak_I M1 (52 + 2 + k) j = (lts 5 (ν k)).getD j 0) → ∃ M', sg X 49 (10, [some (.ref 52), some (.ref 38), some (.int (nI i)), o3], [], []) M1 (.inl none, M') ∧ fr (cNm 52) M M' ∧ Nc ν nk M' := by
    refine mb_up ?_ ?_
    · intro M1 o3 f1 e2 hk
      exact ⟨M1, t_49_10 f1.1 nb52 h38 _ _ (mb_y (by rw [e2]; exact Int32.le_refl _) rfl), f1, Nn_52.mp ⟨h10, e2, fun k hk' => ⟨(n3 k hk').1, hk k hk'⟩⟩⟩
    · intro i hi ih M1 o3 f1 e2 hk
      obtain ⟨l1, l2, l3⟩ := n3 i hi
      have n6 := lts_l 5 (ν i)
      have lb := lts_b 5 (ν i)
      obtain ⟨w, hw⟩ : ∃ w, w = lts 5 (ν i) := ⟨_, rfl⟩
      rw [← hw] at l2 l3 n6 lb
      have f2 : fr (cNm 52) M (ak_sI M1 (52 + 12) i (nI w.length)) := f1.st ⟨by decide, by decide⟩
      have inner : ∀ j, j ≤ w.length → ∀ M2, fr (cNm 52) M M2 → ak_I M2 52 2 = nI nk → ak_I M2 (52 + 12) i = nI w.length → (∀ k, k < i → ak_I M2 (52 + 12) k = nI (lts 5 (ν k)).length ∧ ∀ j, j < (lts 5 (ν k)).length → ak_I M2 (52 + 2 + k) j = (lts 5 (ν k)).getD j 0) → (∀ u, u < j → ak_I M2 (52 + 2 + i) u = w.getD u 0) → ∃ M', sg X 49 (32, [some (.ref 52), some (.ref 38), some (.int (nI i)), some (.int (nI j))], [], []) M2 (.inl none, M') ∧ fr (cNm 52) M M' ∧ Nc ν nk M' := by
        refine mb_up ?_ ?_
        · intro M2 f2 e2 el hk2 hu
          obtain ⟨M', hs, m'⟩ := ih M2 (some (.int (nI w.length))) f2 e2 fun k hk' => by
            by_cases ek : k = i
            · rw [ek, ← hw]; exact ⟨el, hu⟩
            · exact hk2 k (by omega)
          refine ⟨M', t_49_32 f2.1 nb52 h38 _ _ ⟨i, mb_ix (by omega) (by decide), mb_y (by rw [el]; exact Int32.le_refl _) ?_⟩, m'⟩
          rw [mi_s]
          exact hs
        · intro j hj ihj M2 f2 e2 el hk2 hu
          obtain ⟨d, hd, ed⟩ := lb j hj
          have eb : vp_nar .byte (ak_I M2 (38 + 2 + i) j) = w.getD j 0 := by
            rw [src f2 _ (by omega), l3 j hj, ed, byl d hd]
          obtain ⟨M', hs, m'⟩ := ihj (ak_sI M2 (52 + 2 + i) j (w.getD j 0)) (f2.st ⟨by omega, by omega⟩) (by rw [mb_sIr (by omega)]; exact e2) (by rw [mb_sIr (by omega)]; exact el) (fun k hk' => by
            rw [mb_sIr (by omega), mb_sIr (by omega)]
            exact hk2 k hk') fun u hu' => by
            by_cases eu : u = j
            · rw [eu]; exact mb_sIs
            · rw [mb_sIk eu]; exact hu u (by omega)
          refine ⟨M', t_49_32 f2.1 nb52 h38 _ _ ⟨i, mb_ix (by omega) (by decide), mb_n (by rw [el, mi_le (by omega) (by omega)]; omega) ⟨i, by omega, mb_ix (by omega) (by decide), i, by omega, mb_ix (by omega) (by decide), j, mb_ix (by omega) (by decide), j, mb_ix (by omega) (by decide), fun N e => ?_⟩⟩, m'⟩
          rw [eb] at e
          rw [e, mi_s]
          exact hs
      obtain ⟨M', hs, m'⟩ := inner 0 (Nat.zero_le _) _ f2 (by rw [mb_sIr (by decide)]; exact e2) mb_sIs (fun k hk' => by
        rw [mb_sIk (by omega), mb_sIr (by omega)]
        exact hk k hk') fun u hu => absurd hu (Nat.not_lt_zero _)
      refine ⟨M', t_49_10 f1.1 nb52 h38 _ _ (mb_n (by rw [e2, mi_le (by omega) (by omega)]; omega) ⟨i, mb_ix (by omega) (by decide), i, mb_ix (by omega) (by decide), fun N e => ?_⟩), m'⟩
      rw [src f1 _ (by decide), l2] at e
      rw [e]
      exact hs
  obtain ⟨M', hs, m'⟩ := H 0 (Nat.zero_le _) (ak_sI M 52 2 (nI nk)) none ((fr.rf hL).st ⟨by decide, by decide⟩) mb_sIs fun k hk => absurd hk (Nat.not_lt_zero _)
  refine ⟨M', t_49 hL nb52 h38 fun N e => ?_, m'⟩
  rw [n2] at e
  rw [e]
  exact hs
/-- what a parse may write: without, with success -/
def cPa (p k : Nat) : Prop := cA p k ∨ (p = 1 ∧ k = 1) ∨ (p = 0 ∧ (k = 9 ∨ k = 10))
def cPb (p k : Nat) : Prop := cPa p k ∨ (p = 0 ∧ k = 8) ∨ (52 ≤ p ∧ p < 97) ∨ p = 161
theorem cp_89 (hL : ab_lay M) (hI : Ic β n M) (h0 : q245 σ rz) {ρ : Nat → Nat → Int32} {hn hf hk hw : Nat} (hH : Hc ρ hn hf hk hw M) : match ps_a β n σ with
    | .inl e => ∃ M', rn X 89 [.ref 0] M (.inl (some (.int (-1))), M') ∧ fr cPa M M' ∧ Ic β 0 M' ∧ ak_I M' 0 9 = nI e.1 ∧ ak_I M' 0 10 = nI e.2
    | .inr q => ∃ M', rn X 89 [.ref 0] M (.inl (some (.int (nI q.2.2.1))), M') ∧ fr cPb M M' ∧ Ic β 0 M' ∧ ak_I M' 0 9 = 0 ∧ ak_I M' 0 10 = (-1) ∧ Rb 65 q.1 q.2.2.1 q.2.2.2.1 0 0 M' ∧ Nc q.2.1 q.2.2.1 M' ∧ Hc ρ 0 hf q.2.2.1 q.2.2.2.1 M' ∧ ak_I M' 0 8 = 0 := by
  obtain ⟨r, ho, hr⟩ := sk_61 (X := X) hL hI h0
  cases ea : ps_a β n σ with
  | inl e =>
    rw [ea] at ho
    obtain ⟨M1, rfl, f1, d1, d2⟩ := ho
    obtain ⟨M5, hM5⟩ : ∃ M5, M5 = ak_sI (ak_sI (ak_sI M1 1 1 0) 0 9 (nI e.1)) 0 10 (nI e.2) := ⟨_, rfl⟩
    have f5 : fr cPa M M5 := by
      rw [hM5]
      have g1 : fr cPa M M1 := f1.mo fun p k h => Or.inl h
      exact ((g1.st (Or.inr (Or.inl ⟨rfl, rfl⟩))).st (Or.inr (Or.inr ⟨rfl, Or.inl rfl⟩))).st (Or.inr (Or.inr ⟨rfl, Or.inr rfl⟩))
    refine ⟨M5, t_89 hL ⟨_, M1, f1.1, hr, fun N3 e3 N4 e4 N5 e5 => ?_⟩, f5, ⟨Nat.zero_le _, ?_, fun j hj => absurd hj (Nat.not_lt_zero _)⟩, ?_, ?_⟩
    · have a3 : ak_I N3 5 5 = nI e.1 := by rw [e3, mb_sIr (by decide)]; exact d1
      rw [a3] at e4
      have a4 : ak_I N4 5 6 = nI e.2 := by rw [e4, mb_sIr (by decide), e3, mb_sIr (by decide)]; exact d2
      rw [a4, e4, e3, ← hM5] at e5
      rw [e5]
      exact mb_y rfl rfl
    · rw [hM5, mb_sIr (by decide), mb_sIr (by decide)]; exact mb_sIs
    · rw [hM5, mb_sIk (by decide)]; exact mb_sIs
    · rw [hM5]; exact mb_sIs
  | inr q =>
    rw [ea] at ho
    have hV : vs q.1 q.2.2.1 q.2.2.2.1 0 := by
      obtain ⟨p, e1, e2⟩ := bnd_i ea
      cases e2
      exact (PV_f (ps_l_i 701 _ p (PV_0 h0) e1)).1
    obtain ⟨M1, rfl, f1, hP⟩ := ho
    obtain ⟨σ', ν', nk', nw', τ', s'⟩ := q
    obtain ⟨I1, T1, R1, N1, a3, a5, a6⟩ := hP
    have hV : vs σ' nk' nw' 0 := hV
    obtain ⟨M5, hM5⟩ : ∃ M5, M5 = ak_sI (ak_sI (ak_sI M1 1 1 0) 0 9 0) 0 10 (-1) := ⟨_, rfl⟩
    have f5 : fr (fun p k => (p = 1 ∧ k = 1) ∨ (p = 0 ∧ (k = 9 ∨ k = 10))) M1 M5 := by
      rw [hM5]
      have g1 : fr (fun p k => (p = 1 ∧ k = 1) ∨ (p = 0 ∧ (k = 9 ∨ k = 10))) M1 M1 := fr.rf f1.1
      exact ((g1.st (Or.inl ⟨rfl, rfl⟩)).st (Or.inr ⟨rfl, Or.inl rfl⟩)).st (Or.inr ⟨rfl, Or.inr rfl⟩)
    have R5 := rb_f6 R1 hV.1.1 hV.1.2.1.2 f5 fun p k e => by omega
    have N5 := N1.ff f5 fun p k e => by omega
    obtain ⟨M6, r6, f6, R6⟩ := sk_10 (X := X) f5.1 h6 h65 (by decide) R5 hV.1
    have N6 := N5.ff f6 fun p k e => by unfold cS at e; omega
    obtain ⟨M7, r7, f7, N7⟩ := sk_49 (X := X) f6.1 N6
    have H1 : Hc ρ hn hf hk hw M1 := hH.fr f1 fun p k e => by unfold cA at e; omega
    have H5 : Hc ρ hn hf hk hw M5 := H1.fr f5 fun p k e => by omega
    have H6 : Hc ρ hn hf hk hw M6 := H5.fr f6 fun p k e => by unfold cS at e; omega
    have H7 : Hc ρ hn hf hk hw M7 := H6.fr f7 fun p k e => by unfold cNm at e; omega
    obtain ⟨r8, H8⟩ := sk_29 (X := X) f7.1 H7
    have f8 : fr (fun p k => p = 161) M7 (ak_sI M7 161 2 0) := fr.st (S := fun p k => p = 161) (fr.rf f7.1) rfl
    obtain ⟨M9, hM9⟩ : ∃ M9, M9 = ak_sI (ak_sI M7 161 2 0) 0 8 0 := ⟨_, rfl⟩
    have f9 : fr (fun p k => p = 161 ∨ (p = 0 ∧ k = 8)) M7 M9 := by
      rw [hM9]
      have g8 : fr (fun p k => p = 161 ∨ (p = 0 ∧ k = 8)) M7 (ak_sI M7 161 2 0) := f8.mo fun p k e => Or.inl e
      exact g8.st (Or.inr ⟨rfl, rfl⟩)
    have R9 : Rb 65 σ' nk' nw' 0 0 M9 := (R6.fr hV.1 f7 fun p k e => by unfold cNm at e; omega).fr hV.1 f9 fun p k e => by omega
    have g9 : fr cPb M M9 := by
      refine ((((f1.mo fun p k e => Or.inl (Or.inl e)).tr (f5.mo fun p k e => Or.inl (Or.inr e))).tr (f6.mo fun p k e => ?_)).tr (f7.mo fun p k e => ?_)).tr (f9.mo fun p k e => ?_)
      · unfold cS at e; exact Or.inr (Or.inr (Or.inl (by omega)))
      · unfold cNm at e; exact Or.inr (Or.inr (Or.inl (by omega)))
      · rcases e with e | e
        · exact Or.inr (Or.inr (Or.inr e))
        · exact Or.inr (Or.inl e)
    have keep : ∀ p k, (p = 1 ∨ (p = 0 ∧ k ≠ 8)) → ak_I M9 p k = ak_I M5 p k := fun p k h => by
      rw [f9.2.1 p k fun e => by omega, f7.2.1 p k fun e => by unfold cNm at e; omega, f6.2.1 p k fun e => by unfold cS at e; omega]
    refine ⟨M9, t_89 hL ⟨_, M1, f1.1, hr, fun N3 e3 N4 e4 N5' e5 => ?_⟩, g9, ⟨Nat.zero_le _, ?_, fun j hj => absurd hj (Nat.not_lt_zero _)⟩, ?_, ?_, R9, ?_, ⟨H8.1, H8.2.1, ?_, ?_, fun j hj => absurd hj (Nat.not_lt_zero _)⟩, ?_⟩
    · have b3 : ak_I N3 5 5 = 0 := by rw [e3, mb_sIr (by decide)]; exact a5
      rw [b3] at e4
      have b4 : ak_I N4 5 6 = (-1) := by rw [e4, mb_sIr (by decide), e3, mb_sIr (by decide)]; exact a6
      rw [b4, e4, e3, ← hM5] at e5
      rw [e5]
      refine mb_n (by decide) ⟨M6, f6.1, r6, M7, f7.1, r7, _, f8.1, r8, fun N9 e9 => ?_⟩
      rw [← hM9] at e9
      rw [e9]
      have : ak_I M9 65 5 = nI nk' := R9.2.1.1.trans hV.1.2.2.2.1
      rw [this]
    · rw [keep 1 1 (Or.inl rfl), hM5, mb_sIr (by decide), mb_sIr (by decide)]; exact mb_sIs
    · rw [keep 0 9 (Or.inr ⟨rfl, by decide⟩), hM5, mb_sIk (by decide)]; exact mb_sIs
    · rw [keep 0 10 (Or.inr ⟨rfl, by decide⟩), hM5]; exact mb_sIs
    · exact Nn_52.mp ((Nn_52.mpr N7).ff f9 fun p k e => by omega)
    · rw [hM9, mb_sIr (by decide)]; exact H8.2.2.1
    · rw [hM9, mb_sIr (by decide)]; exact H8.2.2.2.1
    · rw [hM9]; exact mb_sIs
end SCZ
