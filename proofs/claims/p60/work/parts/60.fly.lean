/-! the class: events, pulling in, flying, drifting, picking up -/
section SFL
variable {X : ak_X} {M M' : ak_M} {b k nk nw ne fe : Nat} {σ τ : Nat → Int32}
theorem Rb.cg (h : Rb b σ nk nw ne fe M) (h1 : σ 0 = τ 0 ∧ σ 1 = τ 1 ∧ σ 2 = τ 2 ∧ σ 9 = τ 9 ∧ σ 10 = τ 10) (h2 : ∀ j, j < 6 → σ (3 + j) = τ (3 + j)) (h3 : ∀ k, k < nk → ∀ w, w < 14 → kf σ k w = kf τ k w) (h4 : ∀ i, i < nw → ∀ w, w < 3 → wf σ i w = wf τ i w) (h5 : ∀ j, j < ne → ∀ w, w < 6 → ef σ j w = ef τ j w) : Rb b τ nk nw ne fe M := by
  obtain ⟨a1, ⟨b1, b2, b3, b4, b5, b6⟩, a3, a4, a5, a6⟩ := h
  obtain ⟨c0, c1, c2, c9, c10⟩ := h1
  exact ⟨a1, ⟨b1.trans c1, b2.trans c2, b3.trans c9, b4, b5.trans c0, b6.trans c10⟩, fun k hk w hw => (a3 k hk w hw).trans (h3 k hk w hw), fun i hi w hw => (a4 i hi w hw).trans (h4 i hi w hw), fun j hj => (a5 j hj).trans (h2 j hj), fun j hj w hw => (a6 j hj w hw).trans (h5 j hj w hw)⟩
theorem sk_16 (hL : ab_lay M) (hb : b ∈ ab_fb) (hR : Rb b σ nk nw ne fe M) (hc : ct σ nk nw ne) {x y bt : Int32} : rn X 16 [.ref b, .int x, .int y, .int bt] M (.inl (some (.int (oI (mo_pkr σ x y bt nk).1))), M) := by
  refine t_16 hL hb _ _ _ ?_
  have e5 : ak_I M b 5 = σ 1 := hR.2.1.1
  suffices H : ∀ i, i ≤ nk → ∀ o7 o8 o9 o10, sg X 16 (9, [some (.ref b), some (.int x), some (.int y), some (.int bt), some (.int (oI (mo_pkr σ x y bt i).1)), some (.int (mo_pkr σ x y bt i).2), some (.int (nI i)), o7, o8, o9, o10], [], []) M (.inl (some (.int (oI (mo_pkr σ x y bt nk).1))), M) from H 0 (Nat.zero_le _) _ _ _ _
  refine mb_up ?_ ?_
  · intro o7 o8 o9 o10
    exact t_16_9 hL hb _ _ _ _ _ _ _ _ _ _ (mb_y (by rw [e5]; exact ct_ge hc) rfl)
  · intro i hi ih o7 o8 o9 o10
    have hi10 : i < 10 := Nat.lt_of_lt_of_le hi hc.1
    have ex : ab32 (x - kf σ i 4) = ab32 (kf σ i 4 - x) := ab32_sub _ _
    have ey : ab32 (y - kf σ i 5) = ab32 (kf σ i 5 - y) := ab32_sub _ _
    have hb' : ∀ c, (mo_pkr σ x y bt i).1 = some c → c < i := fun c h => (mo_pkr_lt _ _ _ _ _ _ h).1
    have skip : (nI i = bt ∨ mo_held σ i = false ∨ σ 8 < ab32 (kf σ i 4 - x) ∨ σ 8 < ab32 (kf σ i 5 - y) ∨ ((mo_pkr σ x y bt i).1 ≠ none ∧ (mo_pkr σ x y bt i).2 ≤ ab32 (kf σ i 4 - x) + ab32 (kf σ i 5 - y))) → ∀ o7 o8 o9 o10, sg X 16 (135, [some (.ref b), some (.int x), some (.int y), some (.int bt), some (.int (oI (mo_pkr σ x y bt i).1)), some (.int (mo_pkr σ x y bt i).2), some (.int (nI i)), o7, o8, o9, o10], [], []) M (.inl (some (.int (oI (mo_pkr σ x y bt nk).1))), M) := by
      intro hs o7 o8 o9 o10
      have h := ih o7 o8 o9 o10
      rw [mo_pkr_s] at h
      rw [if_pos hs] at h
      refine t_16_135 hL hb _ _ _ _ _ _ _ _ _ _ ?_
      rw [mi_s]
      exact h
    have take : ¬ (nI i = bt ∨ mo_held σ i = false ∨ σ 8 < ab32 (kf σ i 4 - x) ∨ σ 8 < ab32 (kf σ i 5 - y) ∨ ((mo_pkr σ x y bt i).1 ≠ none ∧ (mo_pkr σ x y bt i).2 ≤ ab32 (kf σ i 4 - x) + ab32 (kf σ i 5 - y))) → ∀ o4 o5 o7 o10, sg X 16 (124, [some (.ref b), some (.int x), some (.int y), some (.int bt), o4, o5, some (.int (nI i)), o7, some (.int (ab32 (kf σ i 4 - x))), some (.int (ab32 (kf σ i 5 - y))), o10], [], []) M (.inl (some (.int (oI (mo_pkr σ x y bt nk).1))), M) := by
      intro hs o4 o5 o7 o10
      have h := ih o7 (some (.int (ab32 (kf σ i 4 - x)))) (some (.int (ab32 (kf σ i 5 - y)))) o10
      rw [mo_pkr_s] at h
      rw [if_neg hs] at h
      refine t_16_124 hL hb _ _ _ _ _ _ _ _ _ _ (t_16_135 hL hb _ _ _ _ _ _ _ _ _ _ ?_)
      rw [mi_s]
      exact h
    have held : mo_held σ i = true → ¬ nI i = bt → sg X 16 (74, [some (.ref b), some (.int x), some (.int y), some (.int bt), some (.int (oI (mo_pkr σ x y bt i).1)), some (.int (mo_pkr σ x y bt i).2), some (.int (nI i)), some (.ref (b + 6 + i)), some (.int (ab32 (kf σ i 4 - x))), some (.int (ab32 (kf σ i 5 - y))), o10], [], []) M (.inl (some (.int (oI (mo_pkr σ x y bt nk).1))), M) := by
      intro c2 c1
      refine t_16_74 hL hb _ _ _ _ _ _ _ _ _ _ ⟨5, ⟨rfl, rfl⟩, ?_⟩
      rw [hR.s (by decide)]
      by_cases c3 : σ 8 < ab32 (kf σ i 4 - x)
      · exact mb_y c3 (skip (Or.inr (Or.inr (Or.inl c3))) _ _ _ _)
      · refine mb_n c3 ⟨5, ⟨rfl, rfl⟩, ?_⟩
        rw [hR.s (by decide)]
        by_cases c4 : σ 8 < ab32 (kf σ i 5 - y)
        · exact mb_y c4 (skip (Or.inr (Or.inr (Or.inr (Or.inl c4)))) _ _ _ _)
        · refine mb_n c4 ?_
          by_cases c5 : (mo_pkr σ x y bt i).1 = none
          · refine mb_y ((oI_n hb' (by omega)).mpr c5) (take ?_ _ _ _ _)
            rintro (e | e | e | e | e)
            · exact c1 e
            · rw [c2] at e; cases e
            · exact c3 e
            · exact c4 e
            · exact e.1 c5
          · refine mb_n (fun e => c5 ((oI_n hb' (by omega)).mp e)) ?_
            by_cases c6 : (mo_pkr σ x y bt i).2 ≤ ab32 (kf σ i 4 - x) + ab32 (kf σ i 5 - y)
            · exact mb_y c6 (skip (Or.inr (Or.inr (Or.inr (Or.inr ⟨c5, c6⟩)))) _ _ _ _)
            · refine mb_n c6 (take ?_ _ _ _ _)
              rintro (e | e | e | e | e)
              · exact c1 e
              · rw [c2] at e; cases e
              · exact c3 e
              · exact c4 e
              · exact c6 e.2
    have a1 := jm_abs (X := X) hL (x := x - ak_I M (b + 6 + i) 4)
    have a2 := jm_abs (X := X) hL (x := y - ak_I M (b + 6 + i) 5)
    rw [hR.kk hi (by decide)] at a1 a2
    rw [ex] at a1
    rw [ey] at a2
    refine t_16_9 hL hb _ _ _ _ _ _ _ _ _ _ (mb_n (by rw [e5]; exact ct_lt hc hi) ⟨i, hi10, mb_ix hi10 (by decide), _, M, hL, by rw [hR.kk hi (by decide)]; exact a1, _, M, hL, by rw [hR.kk hi (by decide)]; exact a2, ?_⟩)
    rw [hR.kk hi (by decide)]
    by_cases c1 : nI i = bt
    · exact mb_y c1 (t_16_78 hL hb _ _ _ _ _ _ _ _ _ _ (skip (Or.inl c1) _ _ _ _))
    · refine mb_n c1 ?_
      by_cases d0 : kf σ i 0 = 0
      · exact mb_y d0 (held (by unfold mo_held; rw [decide_eq_true d0]; rfl) c1)
      · refine mb_n d0 ?_
        by_cases d1 : kf σ i 0 = 1
        · exact mb_y d1 (held (by unfold mo_held; rw [decide_eq_true d1, Bool.or_true]) c1)
        · exact mb_n d1 (t_16_78 hL hb _ _ _ _ _ _ _ _ _ _ (skip (Or.inr (Or.inl (by unfold mo_held; rw [decide_eq_false d0, decide_eq_false d1]; rfl))) _ _ _ _))
theorem mi_rem12 {n : Nat} (h : n < 2147483648) : nI n - nI n / 12 * 12 = nI (n % 12) := by
  have h1 : (nI n).toInt = n := mi_t h
  have e : (nI n - nI n / 12 * 12).toInt = ((n % 12 : Nat) : Int) := by
    have e12 : (12 : Int32).toInt = 12 := by decide
    have d : (nI n / 12).toInt = (n / 12 : Nat) := by
      rw [j3_div (by omega), h1, e12]
      rfl
    have m : (nI n / 12 * 12).toInt = (n / 12 : Nat) * 12 := by
      rw [j3_mul (by rw [d, e12]; omega) (by rw [d, e12]; omega), d, e12]
    rw [j3_sub (by omega) (by omega), m, h1]
    omega
  exact mi_of e
theorem sk_17 (hL : ab_lay M) (hb : b ∈ ab_fb) {f j : Nat} (hf : ak_I M b 8 = nI f) (h : f + j < 1000) : rn X 17 [.ref b, .int (nI j)] M (.inl (some (.ref (b + 20 + (f + j) % 12))), M) := by
  refine t_17 hL hb _ ⟨(f + j) % 12, Nat.mod_lt _ (by decide), ?_, rfl⟩
  rw [hf, mi_add, mi_rem12 (by omega)]
  exact mb_ix (Nat.mod_lt _ (by decide)) (by decide)
/-- which is the earliest behind one more -/
def fe' (ne fe : Nat) : Nat := if ne = 12 then (fe + 1) % 12 else fe
theorem sk_19 (hL : ab_lay M) (hb : b ∈ ab_fb) (hR : Rb b σ nk nw ne fe M) (hc : ct σ nk nw ne) {x1 x2 x3 x4 x5 : Int32} : ∃ M', rn X 19 [.ref b, .int x1, .int x2, .int x3, .int x4, .int x5] M (.inl none, M') ∧ cr b (mo_hap σ x1 x2 x3 x4 x5) nk nw (me ne + 1) (fe' ne fe) M M' ∧ ∀ p, p ≠ b → p < b + 20 → ak_I M' p = ak_I M p := by
  have c1 := hc.1
  have c2 := hc.2.1.2
  have c3 := hc.2.2.1
  have hfe := hR.1
  have e7 : ak_I M b 7 = nI ne := hR.2.1.2.2.1.trans hc.2.2.2.2.2
  have e8 : ak_I M b 8 = nI fe := hR.2.1.2.2.2.1
  -- behind the count
  have core : ∀ M1, fr (cS b) M M1 → (∀ p, p ≠ b → ak_I M1 p = ak_I M p) → (∀ j, j ≠ 7 → j ≠ 8 → ak_I M1 b j = ak_I M b j) → ak_I M1 b 7 = nI (me ne + 1) → ak_I M1 b 8 = nI (fe' ne fe) → ∃ M', (cr b (mo_hap σ x1 x2 x3 x4 x5) nk nw (me ne + 1) (fe' ne fe) M M' ∧ ∀ p, p ≠ b → p < b + 20 → ak_I M' p = ak_I M p) ∧ ∃ (j13 : Nat) (M12 : ak_M), j13 < 12 ∧ ab_lay M12 ∧ rn X 17 [.ref b, .int ((ak_I M1 b 7) - 1)] M1 (.inl (some (.ref (b + 20 + j13))), M12) ∧ (∀ M14 : ak_M, M14 = ak_sI M12 (b + 20 + j13) 0 (ak_I M12 b 9) → (∀ M15 : ak_M, M15 = ak_sI M14 (b + 20 + j13) 1 x1 → (∀ M16 : ak_M, M16 = ak_sI M15 (b + 20 + j13) 2 x2 → (∀ M17 : ak_M, M17 = ak_sI M16 (b + 20 + j13) 3 x3 → (∀ M18 : ak_M, M18 = ak_sI M17 (b + 20 + j13) 4 x4 → (∀ M19 : ak_M, M19 = ak_sI M18 (b + 20 + j13) 5 x5 → ((.inl none, M') : ak_O × ak_M) = (.inl none, M19))))))) := by
    intro M1 f1 o1 o2 d7 d8
    have hm : me ne + 1 ≤ 12 := by unfold me; split <;> omega
    have hf' : fe' ne fe < 12 := by unfold fe'; split <;> omega
    have ej : ak_I M1 b 7 - 1 = nI (me ne) := by
      rw [d7, ← mi_s]; grind
    have r17 := sk_17 (X := X) f1.1 hb (f := fe' ne fe) (j := me ne) d8 (by omega)
    have hq : (fe' ne fe + me ne) % 12 < 12 := Nat.mod_lt _ (by decide)
    generalize hqq : (fe' ne fe + me ne) % 12 = q at *
    have d9 : ak_I M1 b 9 = σ 0 := (o2 9 (by decide) (by decide)).trans hR.2.1.2.2.2.2.1
    generalize g14 : ak_sI M1 (b + 20 + q) 0 (σ 0) = M14
    generalize g15 : ak_sI M14 (b + 20 + q) 1 x1 = M15
    generalize g16 : ak_sI M15 (b + 20 + q) 2 x2 = M16
    generalize g17 : ak_sI M16 (b + 20 + q) 3 x3 = M17
    generalize g18 : ak_sI M17 (b + 20 + q) 4 x4 = M18
    generalize g19 : ak_sI M18 (b + 20 + q) 5 x5 = M19
    have hin : ∀ w, cS b (b + 20 + q) w := fun _ => ⟨by omega, by omega⟩
    have f19 : fr (cS b) M M19 := by
      rw [← g19, ← g18, ← g17, ← g16, ← g15, ← g14]
      exact (((((f1.st (hin _)).st (hin _)).st (hin _)).st (hin _)).st (hin _)).st (hin _)
    have out : ∀ p, p ≠ b + 20 + q → ak_I M19 p = ak_I M1 p := by
      intro p hp
      rw [← g19, mb_sIr hp, ← g18, mb_sIr hp, ← g17, mb_sIr hp, ← g16, mb_sIr hp, ← g15, mb_sIr hp, ← g14, mb_sIr hp]
    have ins : ∀ w, w < 6 → ak_I M19 (b + 20 + q) w = (if w = 0 then σ 0 else if w = 1 then x1 else if w = 2 then x2 else if w = 3 then x3 else if w = 4 then x4 else x5) := by
      intro w hw
      rcases (show w = 0 ∨ w = 1 ∨ w = 2 ∨ w = 3 ∨ w = 4 ∨ w = 5 by omega) with rfl | rfl | rfl | rfl | rfl | rfl
      · rw [← g19, mb_sIk (by decide), ← g18, mb_sIk (by decide), ← g17, mb_sIk (by decide), ← g16, mb_sIk (by decide), ← g15, mb_sIk (by decide), ← g14, mb_sIs]; rfl
      · rw [← g19, mb_sIk (by decide), ← g18, mb_sIk (by decide), ← g17, mb_sIk (by decide), ← g16, mb_sIk (by decide), ← g15, mb_sIs]; rfl
      · rw [← g19, mb_sIk (by decide), ← g18, mb_sIk (by decide), ← g17, mb_sIk (by decide), ← g16, mb_sIs]; rfl
      · rw [← g19, mb_sIk (by decide), ← g18, mb_sIk (by decide), ← g17, mb_sIs]; rfl
      · rw [← g19, mb_sIk (by decide), ← g18, mb_sIs]; rfl
      · rw [← g19, mb_sIs]; rfl
    refine ⟨M19, ⟨⟨f19, hf', ⟨?_, ?_, ?_, ?_, ?_, ?_⟩, fun k hk w hw => ?_, fun i hi w hw => ?_, fun j hj => ?_, fun j hj w hw => ?_⟩, fun p hp hp2 => ?_⟩, q, M1, hq, f1.1, ?_, ?_⟩
    · rw [out _ (by omega), o2 _ (by decide) (by decide), hap_lo (by decide) (by decide)]; exact hR.2.1.1
    · rw [out _ (by omega), o2 _ (by decide) (by decide), hap_lo (by decide) (by decide)]; exact hR.2.1.2.1
    · rw [out _ (by omega), d7]; exact (hap_ct hc).2.2.2.2.2.symm
    · rw [out _ (by omega), d8]
    · rw [out _ (by omega), d9, hap_lo (by decide) (by decide)]
    · rw [out _ (by omega), o2 _ (by decide) (by decide), hap_lo (by decide) (by decide)]; exact hR.2.1.2.2.2.2.2
    · rw [out _ (by omega), o1 _ (by omega), hap_kf (by omega) (by omega)]; exact hR.kk hk hw
    · rw [out _ (by omega), o1 _ (by omega), hap_wf (by omega) hw]; exact hR.w hi hw
    · rw [out _ (by omega), o1 _ (by omega), hap_lo (by omega) (by omega)]; exact hR.s hj
    · rw [hap_ef hc hw hj]
      by_cases hjm : j = me ne
      · rw [if_pos hjm, hjm, hqq]; exact ins w hw
      · have hne : (fe' ne fe + j) % 12 ≠ q := by
          rw [← hqq]; omega
        rw [if_neg hjm, out _ (by omega), o1 _ (by omega)]
        have := hR.2.2.2.2.2 (if ne = 12 then j + 1 else j) (by
          unfold me at hj hjm
          split <;> split at hj <;> split at hjm <;> omega) w hw
        rw [← this]
        congr 2
        unfold fe' me at *
        split <;> simp_all <;> omega
    · rw [out p (by omega)]; exact o1 p hp
    · rw [ej]; exact r17
    · intro N14 h14
      rw [d9] at h14
      obtain rfl := h14.trans g14
      intro N15 h15
      obtain rfl := h15.trans g15
      intro N16 h16
      obtain rfl := h16.trans g16
      intro N17 h17
      obtain rfl := h17.trans g17
      intro N18 h18
      obtain rfl := h18.trans g18
      intro N19 h19
      obtain rfl := h19.trans g19
      rfl
  by_cases hn : ne = 12
  · generalize g : ak_sI M b 8 (nI (fe' ne fe)) = M1
    obtain ⟨M', k', h'⟩ := core M1 (by rw [← g]; exact (fr.rf hL).st ⟨by omega, by omega⟩) (fun p hp => by rw [← g]; exact mb_sIr hp) (fun j _ h8 => by rw [← g]; exact mb_sIk h8) (by rw [← g, mb_sIk (by decide), e7]; unfold me; rw [if_pos hn, hn]) (by rw [← g, mb_sIs])
    refine ⟨M', t_19 hL hb _ _ _ _ _ (mb_y (by rw [e7, hn]; rfl) fun N e => ?_), k'⟩
    rw [e8, mi_s, mi_rem12 (by omega)] at e
    have g' : ak_sI M b 8 (nI ((fe + 1) % 12)) = M1 := by rw [← g]; unfold fe'; rw [if_pos hn]
    obtain rfl := e.trans g'
    exact h'
  · generalize g : ak_sI M b 7 (nI (ne + 1)) = M1
    obtain ⟨M', k', h'⟩ := core M1 (by rw [← g]; exact (fr.rf hL).st ⟨by omega, by omega⟩) (fun p hp => by rw [← g]; exact mb_sIr hp) (fun j h7 _ => by rw [← g]; exact mb_sIk h7) (by rw [← g, mb_sIs]; unfold me; rw [if_neg hn]) (by rw [← g, mb_sIk (by decide), e8]; unfold fe'; rw [if_neg hn])
    refine ⟨M', t_19 hL hb _ _ _ _ _ (mb_n (by rw [e7, show (12 : Int32) = nI 12 from rfl, mi_eq (by omega) (by omega)]; exact hn) fun N e => ?_), k'⟩
    rw [e7, mi_s] at e
    obtain rfl := e.trans g
    exact h'
theorem sk_18 (hL : ab_lay M) (hb : b ∈ ab_fb) (hR : Rb b σ nk nw ne fe M) (hc : ct σ nk nw ne) (hk : k < nk) {kd o : Int32} : ∃ M', rn X 18 [.ref b, .int kd, .int (nI k), .int o] M (.inl none, M') ∧ cr b (mo_hapAt σ kd k o) nk nw (me ne + 1) (fe' ne fe) M M' := by
  have hk10 : k < 10 := Nat.lt_of_lt_of_le hk hc.1
  obtain ⟨M', h, c, -⟩ := sk_19 (X := X) hL hb hR hc (x1 := kd) (x2 := nI k) (x3 := o) (x4 := kf σ k 1) (x5 := kf σ k 2)
  refine ⟨M', t_18 hL hb _ _ _ ⟨k, hk10, mb_ix hk10 (by decide), k, hk10, mb_ix hk10 (by decide), M', c.1.1, ?_, rfl⟩, c⟩
  rw [hR.kk hk (by decide), hR.kk hk (by decide)]
  exact h
/-! pulling in -/
theorem ab_sq (x : Int32) : ab32 x * ab32 x = x * x := by
  unfold ab32
  split
  · rfl
  · grind
theorem pull_c (hv : kv σ k) : ((kf σ k 6 + 1) * (kf σ k 6 + 1) ≤ ab32 (mo_wx σ k) * ab32 (mo_wx σ k) + ab32 (mo_wy σ k) * ab32 (mo_wy σ k) + kf σ k 3 * kf σ k 3) ↔ ¬ 0 ≤ mo_slack σ k := by
  have ho := kv_out hv
  have q := kp_sq hv.kp
  have st := slack_t hv
  have e : ab32 (mo_wx σ k) * ab32 (mo_wx σ k) + ab32 (mo_wy σ k) * ab32 (mo_wy σ k) + kf σ k 3 * kf σ k 3 = mo_sq (mo_wx σ k) (mo_wy σ k) (kf σ k 3) := by
    rw [ab_sq, ab_sq]; rfl
  have e7 : ((mo_sq (mo_wx σ k) (mo_wy σ k) (kf σ k 3)).toNatClampNeg : Int) = (mo_sq (mo_wx σ k) (mo_wy σ k) (kf σ k 3)).toInt := Int32.cast_toNatClampNeg _ (j3_nn.mpr q.2.1)
  rw [e, j3_nn, st, Int32.le_iff_toInt_le, ← e7]
  generalize (mo_sq (mo_wx σ k) (mo_wy σ k) (kf σ k 3)).toNatClampNeg = n at *
  obtain ⟨u, hu⟩ : ∃ u : Nat, (kf σ k 6).toInt = u := ⟨(kf σ k 6).toInt.toNat, by omega⟩
  rw [hu] at ho ⊢
  have e1 : (kf σ k 6 + 1).toInt = ((u + 1 : Nat) : Int) := by
    rw [j3_add (by rw [hu, show (1 : Int32).toInt = 1 from rfl]; omega) (by rw [hu, show (1 : Int32).toInt = 1 from rfl]; omega), hu]; rfl
  have hb : (u + 1) * (u + 1) ≤ 401 * 401 := Nat.mul_le_mul (by omega) (by omega)
  have e2 : ((kf σ k 6 + 1) * (kf σ k 6 + 1)).toInt = (((u + 1) * (u + 1) : Nat) : Int) := by
    rw [j3_mul (by rw [e1, ← Int.natCast_mul]; omega) (by rw [e1, ← Int.natCast_mul]; omega), e1, ← Int.natCast_mul]
  rw [e2]
  have a1 := iq_sq n 1000
  have a2 := iq_gt n 1000 (u + 1) (by omega)
  generalize iq n 1000 = v at *
  constructor
  · intro h
    have := a2 (by omega)
    omega
  · intro h
    have h3 : (u + 1) * (u + 1) ≤ v * v := Nat.mul_le_mul (by omega) (by omega)
    omega
theorem sub1 (x : Int32) : x - 1 = x + (-1) := by grind
theorem sk_46s (hL : ab_lay M) (hb : b ∈ ab_fb) (hR : Rb b σ nk nw ne fe M) (hv : vs σ nk nw ne) (hk : k < nk) (hs : ¬ 0 ≤ mo_slack σ k) {y1 : Int32} (hy : ¬ 1000 ≤ y1) {o2 o3 : Option Value} :
    ∃ M1, cr b (mo_p1 σ k) nk nw ne fe M M1 ∧ ∀ r, sg X 46 (2, [some (.ref (b + 6 + k)), some (.int (y1 + 1)), some (.int (ab32 (mo_wx σ k))), some (.int (ab32 (mo_wy σ k)))], [], []) M1 r → sg X 46 (2, [some (.ref (b + 6 + k)), some (.int y1), o2, o3], [], []) M r := by
  have hc := hv.1
  have hk10 : k < 10 := Nat.lt_of_lt_of_le hk hc.1
  have kvk := hv.2.2.1 k hk
  have k0 : cr b σ nk nw ne fe M M := ⟨fr.rf hL, hR⟩
  have e1 := hR.kk hk (w := 1) (by decide)
  have e2 := hR.kk hk (w := 2) (by decide)
  have e3 := hR.kk hk (w := 3) (by decide)
  have e4 := hR.kk hk (w := 4) (by decide)
  have e5 := hR.kk hk (w := 5) (by decide)
  have e6 := hR.kk hk (w := 6) (by decide)
  have cond := (pull_c kvk).mpr hs
  have wx := kp_wx kvk.kp
  have wy := kp_wy kvk.kp
  have h3 := mi_300 kvk.kp.2.2.1
  have ax : (ab32 (mo_wx σ k)).toInt = (mo_wx σ k).toInt.natAbs := ab32_z (by omega)
  have ay : (ab32 (mo_wy σ k)).toInt = (mo_wy σ k).toInt.natAbs := ab32_z (by omega)
  have stepX : ab32 (mo_wy σ k) ≤ ab32 (mo_wx σ k) → ¬ (ab32 (mo_wx σ k) ≤ kf σ k 3 ∧ ab32 (mo_wy σ k) ≤ kf σ k 3) → kf σ k 1 + - mo_sgn (mo_wx σ k) = (if kf σ k 1 ≤ kf σ k 4 then kf σ k 1 + 1 else kf σ k 1 + (-1)) := by
    intro c2 c1
    rw [Int32.le_iff_toInt_le] at c2
    rw [Int32.le_iff_toInt_le, Int32.le_iff_toInt_le] at c1
    rcases sgn_c (mo_wx σ k) with ⟨a, e⟩ | ⟨a, e⟩ | ⟨a, e⟩
    · rw [e, if_pos (by rw [Int32.le_iff_toInt_le]; omega)]; rfl
    · exfalso; omega
    · rw [e, if_neg (by rw [Int32.le_iff_toInt_le]; omega)]
  have stepY : ¬ ab32 (mo_wy σ k) ≤ ab32 (mo_wx σ k) → kf σ k 2 + - mo_sgn (mo_wy σ k) = (if kf σ k 2 ≤ kf σ k 5 then kf σ k 2 + 1 else kf σ k 2 + (-1)) := by
    intro c2
    rw [Int32.le_iff_toInt_le] at c2
    rcases sgn_c (mo_wy σ k) with ⟨a, e⟩ | ⟨a, e⟩ | ⟨a, e⟩
    · rw [e, if_pos (by rw [Int32.le_iff_toInt_le]; omega)]; rfl
    · exfalso; omega
    · rw [e, if_neg (by rw [Int32.le_iff_toInt_le]; omega)]
  have jx : rn X 314 [.int (ak_I M (b + 6 + k) 1 - ak_I M (b + 6 + k) 4)] M (.inl (some (.int (ab32 (mo_wx σ k)))), M) := by rw [e1, e4]; exact jm_abs hL
  have jy : rn X 314 [.int (ak_I M (b + 6 + k) 2 - ak_I M (b + 6 + k) 5)] M (.inl (some (.int (ab32 (mo_wy σ k)))), M) := by rw [e2, e5]; exact jm_abs hL
  unfold mo_p1
  by_cases c1 : ab32 (mo_wx σ k) ≤ kf σ k 3 ∧ ab32 (mo_wy σ k) ≤ kf σ k 3
  · rw [if_pos c1]
    refine ⟨_, k0.lay hc hk (w := 3) (by decide) rfl, fun r hr => t_46_2 hL hb hk10 _ _ _ (mb_n hy ⟨_, M, hL, jx, _, M, hL, jy, ?_⟩)⟩
    rw [e1, e2, e3, e4, e5, e6]
    refine mb_y cond (mb_n (mb_lt.mpr c1.1) (mb_n (mb_lt.mpr c1.2) fun N e => ?_))
    rw [e, sub1]
    exact hr
  · rw [if_neg c1]
    by_cases c2 : ab32 (mo_wy σ k) ≤ ab32 (mo_wx σ k)
    · rw [if_pos c2, stepX c2 c1]
      refine ⟨_, k0.lay hc hk (w := 1) (by decide) rfl, fun r hr => t_46_2 hL hb hk10 _ _ _ (mb_n hy ⟨_, M, hL, jx, _, M, hL, jy, ?_⟩)⟩
      rw [e1, e2, e3, e4, e5, e6]
      refine mb_y cond ?_
      have fin : (if kf σ k 1 ≤ kf σ k 4 then (∀ M8 : ak_M, M8 = ak_sI M (b + 6 + k) 1 (kf σ k 1 + 1) → sg X 46 (2, [some (.ref (b + 6 + k)), some (.int (y1 + 1)), some (.int (ab32 (mo_wx σ k))), some (.int (ab32 (mo_wy σ k)))], [], []) M8 r) else (∀ M9 : ak_M, M9 = ak_sI M (b + 6 + k) 1 (kf σ k 1 + (-1)) → sg X 46 (2, [some (.ref (b + 6 + k)), some (.int (y1 + 1)), some (.int (ab32 (mo_wx σ k))), some (.int (ab32 (mo_wy σ k)))], [], []) M9 r)) := by
        by_cases c4 : kf σ k 1 ≤ kf σ k 4
        · rw [if_pos c4] at hr; exact mb_y c4 fun N e => by rw [e]; exact hr
        · rw [if_neg c4] at hr; exact mb_n c4 fun N e => by rw [e]; exact hr
      by_cases c3 : kf σ k 3 < ab32 (mo_wx σ k)
      · exact mb_y c3 (mb_n (mb_lt.mpr c2) fin)
      · exact mb_n c3 (mb_y (mb_le.mp fun e => c1 ⟨mb_lt.mp c3, e⟩) (mb_n (mb_lt.mpr c2) fin))
    · rw [if_neg c2, stepY c2]
      refine ⟨_, k0.lay hc hk (w := 2) (by decide) rfl, fun r hr => t_46_2 hL hb hk10 _ _ _ (mb_n hy ⟨_, M, hL, jx, _, M, hL, jy, ?_⟩)⟩
      rw [e1, e2, e3, e4, e5, e6]
      refine mb_y cond ?_
      have fin : (if kf σ k 2 ≤ kf σ k 5 then (∀ M8 : ak_M, M8 = ak_sI M (b + 6 + k) 2 (kf σ k 2 + 1) → sg X 46 (2, [some (.ref (b + 6 + k)), some (.int (y1 + 1)), some (.int (ab32 (mo_wx σ k))), some (.int (ab32 (mo_wy σ k)))], [], []) M8 r) else (∀ M9 : ak_M, M9 = ak_sI M (b + 6 + k) 2 (kf σ k 2 + (-1)) → sg X 46 (2, [some (.ref (b + 6 + k)), some (.int (y1 + 1)), some (.int (ab32 (mo_wx σ k))), some (.int (ab32 (mo_wy σ k)))], [], []) M9 r)) := by
        by_cases c4 : kf σ k 2 ≤ kf σ k 5
        · rw [if_pos c4] at hr; exact mb_y c4 fun N e => by rw [e]; exact hr
        · rw [if_neg c4] at hr; exact mb_n c4 fun N e => by rw [e]; exact hr
      by_cases c3 : kf σ k 3 < ab32 (mo_wx σ k)
      · exact mb_y c3 (mb_y (mb_le.mp c2) fin)
      · exact mb_n c3 (mb_y (mb_le.mp fun e => c1 ⟨mb_lt.mp c3, e⟩) (mb_y (mb_le.mp c2) fin))
theorem sk_46 (hL : ab_lay M) (hb : b ∈ ab_fb) (hR : Rb b σ nk nw ne fe M) (hv : vs σ nk nw ne) (hk : k < nk) : ∃ M', rn X 46 [.ref (b + 6 + k)] M (.inl none, M') ∧ cr b (mo_pl σ k 1000) nk nw ne fe M M' := by
  have hk10 : k < 10 := Nat.lt_of_lt_of_le hk hv.1.1
  suffices H : ∀ d i, i + d = 1000 → ∀ M1 τ o2 o3, cr b τ nk nw ne fe M M1 → vs τ nk nw ne → ∃ M', sg X 46 (2, [some (.ref (b + 6 + k)), some (.int (nI i)), o2, o3], [], []) M1 (.inl none, M') ∧ cr b (mo_pl τ k d) nk nw ne fe M M' by
    obtain ⟨M', h, c⟩ := H 1000 0 (by omega) M σ none none ⟨fr.rf hL, hR⟩ hv
    exact ⟨M', t_46 hL hb hk10 h, c⟩
  intro d
  induction d with
  | zero =>
    intro i hi M1 τ o2 o3 c1 v1
    have e : i = 1000 := by omega
    subst e
    exact ⟨M1, t_46_2 c1.1.1 hb hk10 _ _ _ (mb_y (by decide) rfl), c1⟩
  | succ d ih =>
    intro i hi M1 τ o2 o3 c1 v1
    have hy : ¬ 1000 ≤ nI i := by rw [show (1000 : Int32) = nI 1000 from rfl, mi_le (by omega) (by omega)]; omega
    unfold mo_pl
    by_cases hs : 0 ≤ mo_slack τ k
    · rw [if_pos hs]
      refine ⟨M1, t_46_2 c1.1.1 hb hk10 _ _ _ (mb_n hy ⟨_, M1, c1.1.1, jm_abs c1.1.1, _, M1, c1.1.1, jm_abs c1.1.1, ?_⟩), c1⟩
      have cond := (pull_c (v1.2.2.1 k hk))
      rw [c1.2.kk hk (by decide), c1.2.kk hk (by decide), c1.2.kk hk (by decide), c1.2.kk hk (by decide), c1.2.kk hk (by decide), c1.2.kk hk (by decide)]
      exact mb_n (fun e => (cond.mp e) hs) rfl
    · rw [if_neg hs]
      obtain ⟨M2, c2, run⟩ := sk_46s (X := X) c1.1.1 hb c1.2 v1 hk hs hy (o2 := o2) (o3 := o3)
      obtain ⟨M', h', c'⟩ := ih (i + 1) (by omega) M2 _ (some (.int (ab32 (mo_wx τ k)))) (some (.int (ab32 (mo_wy τ k)))) (c1.tr c2) (p1_lay v1 hk hs).1
      refine ⟨M', run _ ?_, c'⟩
      rw [mi_s]
      exact h'
end SFL
