/-! the text is fed: the loops -/
section SFG
variable {X : ak_X} {M M0 M1 M' M2 : ak_M} {p q i j m n b e k y at' : Nat} {L : List Int32} {r : ak_O × ak_M} {Z : ak_O × ak_M → Prop} {β : Nat → Int32}
/-- cells, counts, no places -/
def fz (i : Nat) (M M' : ak_M) : Prop := ab_lay M' ∧ (∀ p k, p < 483 → ¬ cI p k → ak_I M' p k = ak_I M p k) ∧ ak_C M' ≤ ak_C M + i ∧ ak_Z M' ≤ ak_Z M + 1500 * i
theorem rc_0 (hL : ab_lay M) : ak_rc M 0 = 11 := rc_p (by have := hL.1.1; omega) ((hL.2.1 0 (by decide)).1.trans (by decide +kernel))
theorem Ty.T (h : Ty M p q y L) : Tx M p q L.length (lg L) := h.1
theorem Ic_cg (h : Ic β n M) {β' : Nat → Int32} (e : ∀ j, j < n → β j = β' j) : Ic β' n M := ⟨h.1, h.2.1, fun j hj => (h.2.2 j hj).trans (e j hj)⟩
theorem d359_17 (h7 : c7 L) (hl : L.length ≤ 560) (hat : at' + 20 ≤ 600) (g : ∀ M', Ty M' p q y L → Ic (bL L) (at' + 20) M' → fe i M0 M' → Wz Z (sg X 359 (2, [some (.ref 0), some (.ref p), some (.int (nI (at' + 20))), some (.ref y), some (.int (nI 20))], [], []) M')) : ∀ c k, k + c = 20 → ∀ M, Ty M p q y L → Wd M y k (fun j => bL L (at' + j)) → Ic (bL L) at' M → fe i M0 M → Wz Z (sg X 359 (17, [some (.ref 0), some (.ref p), some (.int (nI at')), some (.ref y), some (.int (nI k))], [], []) M)
  | 0, k, hk, M, T, W, I, F => by
    have e : k = 20 := by omega
    subst e
    obtain ⟨w1, w2, w3, w4, w5⟩ := W
    have ix : ∀ q, q < 5 → ab_ix (nI q) q (ak_N M y) := fun q hq => mb_ix (by omega) (by omega)
    obtain ⟨M', r', f', I'⟩ := sg_87 (X := X) F.1 I (by omega) (ak_I M y 0) (ak_I M y 1) (ak_I M y 2) (ak_I M y 3) (ak_I M y 4)
    refine w_t (fun r h => t_359_17 _ _ _ _ h) ?_
    refine w_y (Int32.le_refl _) ?_
    have hx : ∀ q, q < 5 → x5 (ak_I M y 0) (ak_I M y 1) (ak_I M y 2) (ak_I M y 3) (ak_I M y 4) q = pk (fun j => bL L (at' + j)) q 4 := by
      intro q hq
      have e := w5 q hq
      rw [show min 4 (20 - 4 * q) = 4 by omega] at e
      rw [← e]
      rcases (by omega : q = 0 ∨ q = 1 ∨ q = 2 ∨ q = 3 ∨ q = 4) with c | c | c | c | c <;> (subst c; rfl)
    have g' := g M' (T.tr (by rw [f'.2.2.2.2]; exact Nat.le_refl _) f'.1.1.1.2 fun x h1 h2 => ⟨funext fun j => f'.1.2.1 x j (fun e => by unfold cI at e; omega), congrFun f'.2.2.1 x, congrFun f'.2.2.2.1 x, congrFun f'.2.1 x⟩) (Ic_cg I' fun j hj => by
      rw [fdn_e]
      by_cases c : at' ≤ j ∧ j < at' + 20
      · rw [if_pos c, fby_pk (fun j => bL_7 h7 _) hx (by omega)]
        show bL L (at' + (j - at')) = _
        rw [show at' + (j - at') = j by omega]
      · rw [if_neg c]) ((F.tr f'.fe).mo (by omega))
    rw [← mi_add at' 20] at g'
    exact w_t (fun r h => ⟨0, ⟨⟨w1, w2⟩, ix 0 (by omega)⟩, 1, ⟨⟨w1, w2⟩, ix 1 (by omega)⟩, 2, ⟨⟨w1, w2⟩, ix 2 (by omega)⟩, 3, ⟨⟨w1, w2⟩, ix 3 (by omega)⟩, 4, ⟨⟨w1, w2⟩, ix 4 (by omega)⟩, rc_0 F.1, _, M', r', h⟩) g'
  | c + 1, k, hk, M, T, W, I, F => by
    have W' := W.st (by omega)
    obtain ⟨w1, w2, w3, w4, w5⟩ := W
    have ix : ab_ix (nI k / 4) (k / 4) (ak_N M y) := mb_ixe (q4 k (by omega)) (by omega) (by omega)
    have ih := d359_17 h7 hl hat g c (k + 1) (by omega) _ (T.tr (M' := ak_sI M y (k / 4) (ak_I M y (k / 4) ||| (bL L (at' + k) <<< ((24 - 8 * nI (k % 4)) &&& 31)))) (Nat.le_refl _) F.1.1.2 fun x h1 h2 => ⟨mb_sIr (by omega), rfl, rfl, rfl⟩) W' (by
      refine ⟨I.1, ?_, fun j hj => ?_⟩
      · rw [mb_sIr (by omega)]; exact I.2.1
      · rw [mb_sIr (by omega)]; exact I.2.2 j hj) ((F.tr (gr_sI F.1 w4).fe).mo (by omega))
    rw [← mi_s] at ih
    refine w_t (fun r h => t_359_17 _ _ _ _ h) ?_
    refine w_n (fun e => by have := (mi_le (a := 20) (by omega) (by omega)).mp e; omega) ?_
    refine w_t (fun r h => ⟨k / 4, ⟨⟨w1, w2⟩, ix⟩, T.T.rc, _, M, jt_317 T.T, h⟩) ?_
    rw [sh_m k (by omega), mi_add at' k]
    by_cases c2 : L.length ≤ at' + k
    · refine w_y ((mi_le (by omega) (by omega)).mpr c2) ?_
      refine w_t (fun r h => ⟨k / 4, ⟨⟨w1, w2⟩, ix⟩, fun N e => by subst e; exact h⟩) ?_
      have e32 : bL L (at' + k) = 32 := if_neg (by omega)
      rw [e32] at ih
      exact ih
    · refine w_n (fun e => c2 ((mi_le (by omega) (by omega)).mp e)) ?_
      have j8 := jt_318 (X := X) T.T (i := at' + k) (by omega)
      refine w_t (fun r h => ⟨T.T.rc, _, M, j8, k / 4, ⟨⟨w1, w2⟩, ix⟩, fun N e => by subst e; exact h⟩) ?_
      rw [bL_b (by omega)] at ih
      exact ih
theorem d359_2 (h7 : c7 L) (hl : L.length ≤ 560) (i0 : Nat) : ∀ c t, L.length ≤ 20 * (t + c) → 20 * t < L.length + 20 → ∀ M y o3 o4, Ty M p q y L → Ic (bL L) (20 * t) M → fe (i0 + t) M0 M → ak_P M0 + i0 + 40 < 800000 → Wz (fun r => ∃ M', r = (.inl none, M') ∧ Ic (lg L) L.length M' ∧ fz (i0 + 29) M0 M') (sg X 359 (2, [some (.ref 0), some (.ref p), some (.int (nI (20 * t))), o3, o4], [], []) M)
  | c, t, hc, ht, M, y, o3, o4, T, I, F, hP => by
    refine w_t (fun r h => t_359_2 _ _ _ _ h) ?_
    refine w_t (fun r h => ⟨T.T.rc, _, M, jt_317 T.T, h⟩) ?_
    by_cases c2 : L.length ≤ 20 * t
    · refine w_y ((mi_le (by omega) (by omega)).mpr c2) ?_
      obtain ⟨M', r', f', I'⟩ := sk_88 (X := X) F.1 I (nI L.length)
      have e : fn3 (20 * t) (nI L.length) = L.length := by
        unfold fn3
        rw [if_pos ((in_n (a := 20 * t) (by omega)).mpr ⟨L.length, by omega, rfl⟩), kN_n (by omega)]
      rw [e] at I'
      have I2 := Ic_cg I' (β' := lg L) fun j hj => bL_b hj
      have f2 : fz (i0 + 29) M0 M' := ⟨f'.1, fun p k hp hc => (f'.2.1 p k hc).trans (F.2.1 p k hp hc), by rw [f'.2.2.2.2.1]; have := F.2.2.2.1; omega, by rw [f'.2.2.2.2.2]; have := F.2.2.2.2; omega⟩
      exact ⟨_, ⟨M', rfl, I2, f2⟩, T.T.rc, _, M, jt_317 T.T, rc_0 F.1, _, M', r', rfl⟩
    · refine w_n (fun e => c2 ((mi_le (by omega) (by omega)).mp e)) ?_
      cases c with
      | zero => exfalso; omega
      | succ c =>
        have hP' : ak_P M < 800000 := by have := F.2.2.1.2; omega
        have G := gr_nw (kd := 100) (ln := 5) (z := 5) F.1 hP' (by omega)
        have hlo := F.1.1.1
        have a1 : ak_P M < 900000 ∧ ¬ (5 : Int32) < 0 ∧ (5 : Int32).toNatClampNeg ≤ 60000000 := ⟨by omega, by decide, by decide⟩
        refine w_t (fun r h => ⟨a1, fun N e => by subst e; exact h⟩) ?_
        refine d359_17 (q := q) (at' := 20 * t) (i := i0 + t + 1) (M0 := M0) h7 hl (by omega) (fun M' T' I' F' => ?_) 20 0 (by omega) _ (y := ak_P M) ?_ ?_ ?_ (F.tr G.fe)
        · have ih := d359_2 h7 hl i0 c (t + 1) (by omega) (by omega) M' (ak_P M) (some (.ref (ak_P M))) (some (.int (nI 20))) T' (by rw [show 20 * (t + 1) = 20 * t + 20 by omega]; exact I') F' hP
          rw [show 20 * (t + 1) = 20 * t + 20 by omega] at ih
          exact ih
        · have T2 := T.tr (M' := ak_new M 100 5 5) (by rw [nwP]; omega) G.1.1.2 fun x h1 h2 => by
            have h3 := T.2.2.2.2.2
            have e : ¬ x = ak_P M := by omega
            exact ⟨funext fun j => by rw [nwI, if_neg e], by rw [nwK, if_neg e], by rw [nwN, if_neg e], funext fun j => by rw [nwR, if_neg e]⟩
          exact ⟨T2.1, T2.2.1, T2.2.2.1, by have := T.2.2.2.1; have := T.2.2.2.2.2; omega, by have := T.2.2.2.2.1; have := T.2.2.2.2.2; omega, by show ak_P M ≤ ak_P M + 1; omega⟩
        · refine ⟨by show ak_P M < ak_P M + 1; omega, by rw [nwK, if_pos rfl], by rw [nwN, if_pos rfl]; rfl, hlo, fun q hq => ?_⟩
          rw [nwI, if_pos rfl, show min 4 (0 - 4 * q) = 0 by omega]
          rfl
        · exact ⟨I.1, by rw [nwI, if_neg (by omega)]; exact I.2.1, fun j hj => by rw [nwI, if_neg (by omega)]; exact I.2.2 j hj⟩
theorem d359 (hL : ab_lay M) (hP : ak_P M < 700000) (h7 : c7 L) (hl : L.length ≤ 560) (T : Ty M p q y L) (I : Ic β 0 M) : ∃ M', rn X 359 [.ref 0, .ref p] M (.inl none, M') ∧ Ic (lg L) L.length M' ∧ fz 29 M M' := by
  have I0 : Ic (bL L) (20 * 0) M := ⟨by omega, I.2.1, fun j hj => absurd hj (by omega)⟩
  obtain ⟨r, ⟨M', e, I', F⟩, h⟩ := d359_2 (X := X) (M0 := M) h7 hl 0 29 0 (by omega) (by omega) M y none none T I0 (fe.rf hL) (by omega)
  subst e
  exact ⟨M', t_359 _ h, I', F.1, F.2.1, by have := F.2.2.1; omega, by have := F.2.2.2; omega⟩
end SFG
