/-! the setup text is drawn: the walk -/
section SSV
variable {X : ak_X} {M M0 M1 M' M2 : ak_M} {p i j m n b e k lo hi nk : Nat} {r : ak_O × ak_M} {Z : ak_O × ak_M → Prop}
theorem l_new {P : ak_M → ak_O × ak_M → Prop} {N0 N1 : ak_M} {c : Prop} {as : List Value} (hc : c) (r1 : rn X n as N0 (.inl none, N1)) (g : Wz Z (P N1)) : Wz Z fun r => c ∧ ∀ N : ak_M, N = N0 → ∃ (M3 : ak_M), rn X n as N (.inl none, M3) ∧ P M3 r := w_t (fun r h => ⟨hc, fun N e => by subst e; exact ⟨N1, r1, h⟩⟩) g
theorem ch_97 : ∀ k, k < 10 → ((97 + nI k).toUInt32 % 65536).toInt32 = nI (97 + k) := by decide +kernel
theorem dn_b {a b : Nat} (h : a ≤ b) (h2 : b ≤ 127) : dn X k a b < 128 := by have := dn_r (X := X) (k := k) h (by omega); omega
theorem lowT_b : ∀ k, lowT X k ≤ 30 * k
  | 0 => Nat.le_refl 0
  | k + 1 => by
    have := lowT_b k
    have := (dn_r (X := X) (k := 68 + k) (lo := 1) (hi := 30) (by omega) (by omega)).2.1
    show lowT X k + dn X (68 + k) 1 30 ≤ _
    omega
theorem d361_221 (hX : X.1 ≤ 260) (hk : k < 4) {L : List Int32} (T : TS M0 i b p L M) (hi : i + 10 ≤ 1000) (hb : b + 20 ≤ 600) (x1 y3 : Int32) (g : ∀ M', TS M0 (i + 5) (b + 11) p (L ++ (sgT X (60 + 2 * k) ++ sgT X (60 + 2 * k + 1) ++ [nI 59])) M' → ∀ o6, Wz Z (sg X 361 (195, [some (.ref 1000000), some (.int x1), some (.ref p), some (.int (y3 + nI (dn X (68 + k) 1 30))), some (.int (nI k + 1)), some (.int 2), o6], [], []) M')) (o6 : Option Value) : Wz Z (sg X 361 (221, [some (.ref 1000000), some (.int x1), some (.ref p), some (.int y3), some (.int (nI k)), some (.int 0), o6], [], []) M) := by
  have ek : ∀ e : Nat, (60 + 2 * nI k) + nI e = nI (60 + 2 * k + e) := fun e => by
    show (nI 60 + nI 2 * nI k) + nI e = _
    rw [mi_mul, mi_add, mi_add]
  have one : ∀ (e : Nat) (_ : e < 2) (M : ak_M) (i b : Nat) (L : List Int32) (_ : TS M0 i b p L M) (_ : i + 2 ≤ 1000) (_ : b + 8 ≤ 600) (o6 : Option Value) (g : ∀ M', TS M0 (i + 2) (b + 5) p (L ++ sgT X (60 + 2 * k + e)) M' → ∀ o6, Wz Z (sg X 361 (221, [some (.ref 1000000), some (.int x1), some (.ref p), some (.int y3), some (.int (nI k)), some (.int (nI e + 1)), o6], [], []) M')), Wz Z (sg X 361 (221, [some (.ref 1000000), some (.int x1), some (.ref p), some (.int y3), some (.int (nI k)), some (.int (nI e)), o6], [], []) M) := by
    intro e he M i b L T hi hb o6 g
    have ha := da_r (X := X) (k := 60 + 2 * k + e)
    refine w_t (fun r h => t_361_221 _ _ _ _ _ _ h) ?_
    refine w_n (fun h => by have := (mi_le (a := 2) (by omega) (by omega)).mp h; omega) ?_
    refine l_dz T.2.2.1.1 hX (ek e) (by omega) ?_
    by_cases c : 0 ≤ dz X (60 + 2 * k + e)
    · refine w_y c ?_
      refine l_s T (s := 24) (c := 1) (by decide) rfl (by omega) (by omega) fun M T => ?_
      refine l_abs T.2.2.1.1 ?_
      rw [ha.2]
      refine l_n T (n := da X (60 + 2 * k + e)) (by omega) (by omega) (by omega) fun M T => ?_
      refine g M (T.cg ?_ (by omega) (by omega) (by omega)) _
      unfold sgT
      rw [if_pos c, List.append_assoc]
    · refine w_n c ?_
      refine l_s T (s := 23) (c := 2) (by decide) rfl (by omega) (by omega) fun M T => ?_
      refine l_abs T.2.2.1.1 ?_
      rw [ha.2]
      refine l_n T (n := da X (60 + 2 * k + e)) (by omega) (by omega) (by omega) fun M T => ?_
      refine g M (T.cg ?_ (by omega) (by omega) (by omega)) _
      unfold sgT
      rw [if_neg c, List.append_assoc]
  refine one 0 (by omega) M i b L T (by omega) (by omega) o6 fun M T o6 => ?_
  refine one 1 (by omega) M _ _ _ T (by omega) (by omega) o6 fun M T o6 => ?_
  refine w_t (fun r h => t_361_221 _ _ _ _ _ _ h) ?_
  refine w_y (by decide) ?_
  refine l_c T (c := 59) (rfl) (by omega) (by omega) (by omega) fun M T => ?_
  refine l_dr T.2.2.1.1 hX (k := 68 + k) (lo := 1) (hi := 30) (mi_add 68 k) rfl rfl (by omega) (by omega) ?_
  refine g M (T.cg ?_ (by omega) (by omega) (by omega)) _
  simp only [List.append_assoc, Nat.add_zero]
theorem d361_195 (hX : X.1 ≤ 260) (hnk : nk ≤ 9) (x1 : Int32) (Z0 : ∀ M p, TS M0 170 560 p (stT X nk) M → Wz Z fun r => ak_rc M p = 12 ∧ ∃ (v : Nat) (M1 : ak_M), rn X 352 [.ref p] M (.inl (some (.ref v)), M1) ∧ r = (.inl (some (.ref v)), M1)) : ∀ c k, k + c = dn X 4 1 4 → ∀ M p o5 o6, TS M0 (130 + 8 * k) (420 + 19 * k) p (hdT X ++ cat (kiT X) nk ++ cat (wiT X) k) M → Wz Z (sg X 361 (195, [some (.ref 1000000), some (.int x1), some (.ref p), some (.int (nI (lowT X k))), some (.int (nI k)), o5, o6], [], []) M)
  | 0, k, hc, M, p, o5, o6, T => by
    have h4 := dn_r (X := X) (k := 4) (lo := 1) (hi := 4) (by omega) (by omega)
    have e : k = dn X 4 1 4 := by omega
    refine w_t (fun r h => t_361_195 _ _ _ _ _ _ h) ?_
    refine l_dr T.2.2.1.1 hX (k := 4) (lo := 1) (hi := 4) rfl rfl rfl (by omega) (by omega) ?_
    refine w_y (by rw [e]; exact Int32.le_refl _) ?_
    refine Z0 M p (T.cg ?_ (by omega) (by omega) (by omega))
    unfold stT
    rw [← e]
  | c + 1, k, hc, M, p, o5, o6, T => by
    have h4 := dn_r (X := X) (k := 4) (lo := 1) (hi := 4) (by omega) (by omega)
    have hlow := lowT_b (X := X) k
    refine w_t (fun r h => t_361_195 _ _ _ _ _ _ h) ?_
    refine l_dr T.2.2.1.1 hX (k := 4) (lo := 1) (hi := 4) rfl rfl rfl (by omega) (by omega) ?_
    refine w_n (fun e => by have := (mi_le (by omega) (by omega)).mp e; omega) ?_
    refine l_s T (s := 22) (c := 5) (by decide) rfl (by omega) (by omega) fun M T => ?_
    refine l_n T (n := lowT X k) (by omega) (by omega) (by omega) fun M T => ?_
    refine d361_221 hX (k := k) (by omega) T (by omega) (by omega) _ _ (fun M T o6 => ?_) _
    rw [mi_add, mi_s]
    refine d361_195 hX hnk x1 Z0 c (k + 1) (by omega) M p _ o6 (T.cg ?_ (by omega) (by omega) (by omega))
    simp only [cat, wiT, List.append_assoc]
theorem d361_62 (hX : X.1 ≤ 260) (hnk : nk ≤ 9) (Z0 : ∀ M p, TS M0 170 560 p (stT X nk) M → Wz Z fun r => ak_rc M p = 12 ∧ ∃ (v : Nat) (M1 : ak_M), rn X 352 [.ref p] M (.inl (some (.ref v)), M1) ∧ r = (.inl (some (.ref v)), M1)) : ∀ c k, k + c = nk → ∀ M p o4 o5 o6, TS M0 (11 + 13 * k) (30 + 43 * k) p (hdT X ++ cat (kiT X) k) M → Wz Z (sg X 361 (62, [some (.ref 1000000), some (.int (nI nk)), some (.ref p), some (.int (nI k)), o4, o5, o6], [], []) M)
  | 0, k, hc, M, p, o4, o5, o6, T => by
    have e : k = nk := by omega
    subst e
    refine w_t (fun r h => t_361_62 _ _ _ _ _ _ h) ?_
    refine w_y (Int32.le_refl _) ?_
    exact d361_195 hX hnk (nI k) Z0 (dn X 4 1 4) 0 (by omega) M p o5 o6 (T.cg (List.append_nil _).symm (by omega) (by omega) (by omega))
  | c + 1, k, hc, M, p, o4, o5, o6, T => by
    refine w_t (fun r h => t_361_62 _ _ _ _ _ _ h) ?_
    refine w_n (fun e => by have := (mi_le (by omega) (by omega)).mp e; omega) ?_
    refine l_s T (s := 18) (c := 5) (by decide) rfl (by omega) (by omega) fun M T => ?_
    refine l_c T (c := 97 + k) (ch_97 k (by omega)) (by omega) (by omega) (by omega) fun M T => ?_
    refine l_c T (c := 32) (rfl) (by omega) (by omega) (by omega) fun M T => ?_
    refine l_dr T.2.2.1.1 hX (k := 10 + k) (lo := 60) (hi := 110) (mi_add 10 k) rfl rfl (by omega) (by omega) ?_
    refine l_n T (n := dn X (10 + k) 60 110) (dn_b (by omega) (by omega)) (by omega) (by omega) fun M T => ?_
    refine l_c T (c := 32) (rfl) (by omega) (by omega) (by omega) fun M T => ?_
    refine l_dr T.2.2.1.1 hX (k := 20 + k) (lo := 60) (hi := 110) (mi_add 20 k) rfl rfl (by omega) (by omega) ?_
    refine l_n T (n := dn X (20 + k) 60 110) (dn_b (by omega) (by omega)) (by omega) (by omega) fun M T => ?_
    refine l_s T (s := 19) (c := 7) (by decide) rfl (by omega) (by omega) fun M T => ?_
    refine l_dr T.2.2.1.1 hX (k := 30 + k) (lo := 0) (hi := 9) (mi_add 30 k) rfl rfl (by omega) (by omega) ?_
    refine l_n T (n := dn X (30 + k) 0 9) (dn_b (by omega) (by omega)) (by omega) (by omega) fun M T => ?_
    refine l_s T (s := 20) (c := 7) (by decide) rfl (by omega) (by omega) fun M T => ?_
    refine l_dr T.2.2.1.1 hX (k := 40 + k) (lo := 1) (hi := 40) (mi_add 40 k) rfl rfl (by omega) (by omega) ?_
    refine l_n T (n := dn X (40 + k) 1 40) (dn_b (by omega) (by omega)) (by omega) (by omega) fun M T => ?_
    refine l_s T (s := 21) (c := 5) (by decide) rfl (by omega) (by omega) fun M T => ?_
    refine l_dr T.2.2.1.1 hX (k := 50 + k) (lo := 1) (hi := 60) (mi_add 50 k) rfl rfl (by omega) (by omega) ?_
    refine l_n T (n := dn X (50 + k) 1 60) (dn_b (by omega) (by omega)) (by omega) (by omega) fun M T => ?_
    refine l_c T (c := 59) (rfl) (by omega) (by omega) (by omega) fun M T => ?_
    rw [mi_s]
    refine d361_62 hX hnk Z0 c (k + 1) (by omega) M p _ _ _ (T.cg ?_ (by omega) (by omega) (by omega))
    simp only [cat, kiT, List.append_assoc]
theorem d361 (hL : ab_lay M) (hP : ak_P M ≤ 500) (hX : X.1 ≤ 260) (hnk : nk ≤ 9) : ∃ M' ps qq, rn X 361 [.ref 1000000, .int (nI nk)] M (.inl (some (.ref ps)), M') ∧ Tx M' ps qq (stT X nk).length (lg (stT X nk)) ∧ gr 200 M M' ∧ (stT X nk).length ≤ 560 ∧ c7 (stT X nk) ∧ 483 ≤ ps ∧ 483 ≤ qq ∧ ps < ak_P M' := by
  have h : Wz (fun r => ∃ M' ps qq, r = (.inl (some (.ref ps)), M') ∧ Tx M' ps qq (stT X nk).length (lg (stT X nk)) ∧ gr 200 M M' ∧ (stT X nk).length ≤ 560 ∧ c7 (stT X nk) ∧ 483 ≤ ps ∧ 483 ≤ qq ∧ ps < ak_P M') (rn X 361 [.ref 1000000, .int (nI nk)] M) := by
    refine w_t (fun r h => t_361 _ h) ?_
    obtain ⟨M1, q, cap, r1, s1, g1⟩ := d349 (X := X) (s := 15) hL (by omega) (by omega)
    have l15 := ctx_l (s := 15) (by omega)
    have T : TS M 3 6 (ak_P M) (ctx 15) M1 := ⟨⟨q, cap, s1⟩, ctx_7 (by omega), g1, hP, by omega, by decide⟩
    refine l_new (by omega) r1 ?_
    clear r1 s1 l15 g1
    refine l_dr T.2.2.1.1 hX (k := 1) (lo := 0) (hi := 50) (rfl) rfl rfl (by omega) (by omega) ?_
    refine l_n T (n := dn X 1 0 50) (dn_b (by omega) (by omega)) (by omega) (by omega) fun M T => ?_
    refine l_s T (s := 16) (c := 6) (by decide) rfl (by omega) (by omega) fun M T => ?_
    refine l_dr T.2.2.1.1 hX (k := 2) (lo := 0) (hi := 50) (rfl) rfl rfl (by omega) (by omega) ?_
    refine l_n T (n := dn X 2 0 50) (dn_b (by omega) (by omega)) (by omega) (by omega) fun M T => ?_
    refine l_s T (s := 17) (c := 7) (by decide) rfl (by omega) (by omega) fun M T => ?_
    refine l_dr T.2.2.1.1 hX (k := 3) (lo := 0) (hi := 20) (rfl) rfl rfl (by omega) (by omega) ?_
    refine l_n T (n := dn X 3 0 20) (dn_b (by omega) (by omega)) (by omega) (by omega) fun M T => ?_
    refine l_c T (c := 59) (rfl) (by omega) (by omega) (by omega) fun M T => ?_
    refine d361_62 hX hnk (fun N p TN => ?_) nk 0 (by omega) _ _ none none none (T.cg ?_ (by omega) (by omega) (by omega))
    · have hPN := TN.P
      obtain ⟨⟨q, cap, hS⟩, h7, f, h5, h6, h8⟩ := TN
      obtain ⟨M', qq, rr, tt, gg, pp⟩ := d352 (X := X) f.1 hPN hS h7 (by omega)
      exact ⟨_, ⟨M', _, qq, rfl, tt, (f.tr gg).mo (by omega), h8, h7, pp⟩, rc_p hS.1.2.1 hS.1.2.2.1, _, M', rr, rfl⟩
    · simp only [hdT, cat, List.append_assoc, List.append_nil]
  obtain ⟨r, ⟨M', ps, qq, e, hh⟩, h⟩ := h
  subst e
  exact ⟨M', ps, qq, h, hh⟩
end SSV
