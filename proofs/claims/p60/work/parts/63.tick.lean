/-! the class: all lines rub, worn lines are cut, a tick, ticks -/
section STK
variable {X : ak_X} {M M' : ak_M} {b k o nk nw ne fe : Nat} {σ τ : Nat → Int32} {f g : Nat → Int32}
theorem wr_rub (hc : ct σ nk nw ne) {i j : Nat} (hi : i < nk) (hj : j < nk) : mo_rub (mo_wr σ f) i j = mo_rub σ i j ∧ mo_cz (mo_wr σ f) i j = mo_cz σ i j ∧ mo_apart (mo_wr σ f) i j = mo_apart σ i j := by
  have h10 := hc.1
  have a : ∀ q, q < nk → ∀ w, w < 10 → kf (mo_wr σ f) q w = kf σ q w := fun q hq w hw => by rw [kf_wr (by omega) (by omega), if_neg (by omega)]
  have e := geo (τ := mo_wr σ f) (σ := σ) (k := i) (o := j) (fun w _ hw => a i hi w hw) (fun w _ hw => a j hj w hw)
  exact ⟨rub_eq (a i hi) (a j hj) (wr_lo (by decide)), e.1, e.2.1⟩
theorem sk_23b (hb : b ∈ ab_fb) (hc : ct σ nk nw ne) (hp : ∀ k, k < nk → kp σ k) {i : Nat} (hi : i < nk) {N : ak_O × ak_M → Prop}
    (go : ∀ M1 o3, rq b σ nk nw ne fe i nk M M1 → ∃ r, N r ∧ sg X 23 (38, [some (.ref b), some (.int (nI (i + 1))), some (.int (nI nk)), o3], [], []) M1 r) :
    ∀ j, j ≤ nk → i < j → ∀ M1 o3, rq b σ nk nw ne fe i j M M1 → ∃ r, N r ∧ sg X 23 (50, [some (.ref b), some (.int (nI i)), some (.int (nI j)), o3], [], []) M1 r := by
  have h10 := hc.1
  have hi10 : i < 10 := by omega
  refine mb_up ?_ ?_
  · intro _ M1 o3 h
    obtain ⟨r, hN, hr⟩ := go M1 o3 h
    refine ⟨r, hN, t_23_50 h.1.1.1 hb _ _ _ (mb_y (by rw [h.1.2.2.1.1, wr_lo (by decide)]; exact ct_ge hc) ?_)⟩
    rw [mi_s]
    exact hr
  · intro j hj ih hij M1 o3 h
    have ih := ih (by omega)
    have hj10 : j < 10 := by omega
    have l1 := h.1.1.1
    have n1 : ¬ ak_I M1 b 5 ≤ nI j := by rw [h.1.2.2.1.1, wr_lo (by decide)]; exact ct_lt hc hj
    have ixi : ab_ix (nI i) i 10 := mb_ix hi10 (by decide)
    have ixj : ab_ix (nI j) j 10 := mb_ix hj10 (by decide)
    have e0 : ak_I M1 (b + 6 + i) 0 = kf σ i 0 := by rw [h.1.2.kk hi (by decide), kf_wr hi10 (by decide), if_neg (by decide)]
    have e0' : ak_I M1 (b + 6 + j) 0 = kf σ j 0 := by rw [h.1.2.kk hj (by decide), kf_wr hj10 (by decide), if_neg (by decide)]
    have wr := wr_rub (f := fun k => mo_wear σ k (pre nk i j k)) hc hi hj
    have frub : mo_rub σ i j = (mo_cross σ i j && decide (mo_apart σ i j ≤ σ 7)) := rfl
    rw [cross_cz] at frub
    by_cases d0 : kf σ i 0 = 0
    · by_cases d1 : kf σ j 0 = 0
      · have ff : mo_rub σ i j = (mo_cz σ i j && decide (mo_apart σ i j ≤ σ 7)) := by
          rw [frub]
          unfold mo_fly
          rw [decide_eq_true d0, decide_eq_true d1, Bool.true_and, Bool.true_and]
        obtain ⟨M2, r2, f2, H2⟩ := sk_1 (X := X) l1 hb h.1.2 (ct_wr hc) hi hj (kp_wr hi10 (hp i hi)) (kp_wr hj10 (hp j hj))
        have h2 : rq b σ nk nw ne fe i j M M2 := ⟨⟨h.1.1.tr (f2.mo fun _ _ => cX_S), h.1.2.fr (ct_wr hc) f2 cX_out⟩, fun k hk => by
          rw [f2.row (fun w (hw : cX b _ w) => by have hw : _ = b + 5 := hw; omega)]
          exact h.2 k hk⟩
        rw [wr.2.1] at r2 H2
        cases hz : mo_cz σ i j
        · have hr : mo_rub σ i j = false := by rw [ff, hz]; rfl
          obtain ⟨r, hN, hs⟩ := ih M2 (some (.int 1)) (rq_no hc hp hij hj hr h2)
          refine ⟨r, hN, t_23_50 l1 hb _ _ _ (mb_n n1 ⟨i, hi10, ixi, ?_⟩)⟩
          rw [e0]
          refine mb_y d0 ⟨j, hj10, ixj, ?_⟩
          rw [e0']
          rw [hz] at r2
          refine mb_y d1 ⟨i, hi10, ixi, j, hj10, ixj, _, M2, f2.1, r2, mb_y rfl ?_⟩
          rw [mi_s]
          exact hs
        · have s3 := sk_3 (X := X) f2.1 hb (H2 hz)
          rw [wr.2.2] at s3
          have e4 : ak_I M2 (b + 4) 4 = σ 7 := by rw [h2.1.2.s (by decide)]; exact wr_lo (by decide)
          rw [hz] at r2
          by_cases hr7 : mo_apart σ i j ≤ σ 7
          · have hr : mo_rub σ i j = true := by rw [ff, hz, decide_eq_true hr7]; rfl
            obtain ⟨M3, M4, r3, l3, r4, h4⟩ := rq_yes (X := X) hb hc hp hij hj hr h2
            obtain ⟨r, hN, hs⟩ := ih M4 (some (.int 1)) h4
            refine ⟨r, hN, t_23_50 l1 hb _ _ _ (mb_n n1 ⟨i, hi10, ixi, ?_⟩)⟩
            rw [e0]
            refine mb_y d0 ⟨j, hj10, ixj, ?_⟩
            rw [e0']
            refine mb_y d1 ⟨i, hi10, ixi, j, hj10, ixj, _, M2, f2.1, r2, mb_n (by decide) ⟨_, M2, f2.1, s3, 4, ⟨rfl, rfl⟩, ?_⟩⟩
            rw [e4]
            refine mb_n (mb_lt.mpr hr7) ⟨M3, l3, r3, M4, h4.1.1.1, r4, ?_⟩
            rw [mi_s]
            exact hs
          · have hr : mo_rub σ i j = false := by rw [ff, hz, decide_eq_false hr7]; rfl
            obtain ⟨r, hN, hs⟩ := ih M2 (some (.int 1)) (rq_no hc hp hij hj hr h2)
            refine ⟨r, hN, t_23_50 l1 hb _ _ _ (mb_n n1 ⟨i, hi10, ixi, ?_⟩)⟩
            rw [e0]
            refine mb_y d0 ⟨j, hj10, ixj, ?_⟩
            rw [e0']
            refine mb_y d1 ⟨i, hi10, ixi, j, hj10, ixj, _, M2, f2.1, r2, mb_n (by decide) ⟨_, M2, f2.1, s3, 4, ⟨rfl, rfl⟩, ?_⟩⟩
            rw [e4]
            refine mb_y (mb_le.mp hr7) ?_
            rw [mi_s]
            exact hs
      · have hr : mo_rub σ i j = false := by
          rw [frub]
          unfold mo_fly
          rw [decide_eq_false d1, Bool.false_and, Bool.and_false]; rfl
        obtain ⟨r, hN, hs⟩ := ih M1 (some (.int 0)) (rq_no hc hp hij hj hr h)
        refine ⟨r, hN, t_23_50 l1 hb _ _ _ (mb_n n1 ⟨i, hi10, ixi, ?_⟩)⟩
        rw [e0]
        refine mb_y d0 ⟨j, hj10, ixj, ?_⟩
        rw [e0']
        refine mb_n d1 ?_
        rw [mi_s]
        exact hs
    · have hr : mo_rub σ i j = false := by
        rw [frub]
        unfold mo_fly
        rw [decide_eq_false d0]; rfl
      obtain ⟨r, hN, hs⟩ := ih M1 (some (.int 0)) (rq_no hc hp hij hj hr h)
      refine ⟨r, hN, t_23_50 l1 hb _ _ _ (mb_n n1 ⟨i, hi10, ixi, ?_⟩)⟩
      rw [e0]
      refine mb_n d0 ?_
      rw [mi_s]
      exact hs
theorem sk_23 (hL : ab_lay M) (hb : b ∈ ab_fb) (hR : Rb b σ nk nw ne fe M) (hc : ct σ nk nw ne) (hp : ∀ k, k < nk → kp σ k) : ∃ M', rn X 23 [.ref b] M (.inl none, M') ∧ cr b (mo_wr σ (fun k => mo_wear σ k nk)) nk nw ne fe M M' ∧ ∀ k, k < nk → ak_I M' (b + 6 + k) 15 = oI (mo_threat σ k nk) := by
  have h10 := hc.1
  -- the pairs
  have H2 : ∀ d i, i + d = nk → ∀ M1 o2 o3, rq b σ nk nw ne fe i (i + 1) M M1 → ∃ r : ak_O × ak_M, (∃ M', r = (.inl none, M') ∧ cr b (mo_wr σ (fun k => mo_wear σ k nk)) nk nw ne fe M M' ∧ ∀ k, k < nk → ak_I M' (b + 6 + k) 15 = oI (mo_threat σ k nk)) ∧ sg X 23 (38, [some (.ref b), some (.int (nI i)), o2, o3], [], []) M1 r := by
    intro d
    induction d with
    | zero =>
      intro i hi M1 o2 o3 h
      have e : i = nk := by omega
      subst e
      refine ⟨_, ⟨M1, rfl, ⟨h.1.1, wr_cg hc h.1.2 fun k hk => by unfold pre; rw [if_pos hk]⟩, fun k hk => ?_⟩, t_23_38 h.1.1.1 hb _ _ _ (mb_y (by rw [h.1.2.2.1.1, wr_lo (by decide)]; exact ct_ge hc) rfl)⟩
      have := (h.2 k hk).1
      unfold pre at this
      rw [if_pos hk] at this
      exact this
    | succ d ih =>
      intro i hi M1 o2 o3 h
      obtain ⟨r, hN, hs⟩ := sk_23b (X := X) hb hc hp (i := i) (by omega) (N := fun r => ∃ M', r = (.inl none, M') ∧ cr b (mo_wr σ (fun k => mo_wear σ k nk)) nk nw ne fe M M' ∧ ∀ k, k < nk → ak_I M' (b + 6 + k) 15 = oI (mo_threat σ k nk)) (fun M2 o3 h2 => ih (i + 1) (by omega) M2 (some (.int (nI nk))) o3 (rq_row hc hp h2)) (i + 1) (by omega) (by omega) M1 o3 h
      refine ⟨r, hN, t_23_38 h.1.1.1 hb _ _ _ (mb_n (by rw [h.1.2.2.1.1, wr_lo (by decide)]; exact ct_lt hc (by omega)) ?_)⟩
      rw [mi_s]
      exact hs
  -- the scratch
  suffices H1 : ∀ i, i ≤ nk → ∀ M1 o2 o3, cr b σ nk nw ne fe M M1 → (∀ k, k < i → ak_I M1 (b + 6 + k) 14 = 0 ∧ ak_I M1 (b + 6 + k) 15 = (-1)) → ∃ M', sg X 23 (2, [some (.ref b), some (.int (nI i)), o2, o3], [], []) M1 (.inl none, M') ∧ cr b (mo_wr σ (fun k => mo_wear σ k nk)) nk nw ne fe M M' ∧ ∀ k, k < nk → ak_I M' (b + 6 + k) 15 = oI (mo_threat σ k nk) by
    obtain ⟨M', h, hh⟩ := H1 0 (Nat.zero_le _) M none none ⟨fr.rf hL, hR⟩ (fun k hk => absurd hk (Nat.not_lt_zero _))
    exact ⟨M', t_23 hL hb h, hh⟩
  refine mb_up ?_ ?_
  · intro M1 o2 o3 c1 z1
    have start : rq b σ nk nw ne fe 0 1 M M1 := by
      have w0 : ∀ k, k < nk → mo_wear σ k (pre nk 0 1 k) = 0 ∧ mo_threat σ k (pre nk 0 1 k) = none := by
        intro k hk
        unfold pre
        rw [if_neg (Nat.not_lt_zero _)]
        by_cases h : k = 0
        · subst h
          rw [if_pos rfl]
          exact wear_n (rub_irr (hp 0 hk))
        · rw [if_neg h, if_neg (by omega)]; exact ⟨rfl, rfl⟩
      refine ⟨⟨c1.1, c1.2.cg ?_ (fun q hq => ?_) (fun k hk w hw => ?_) (fun q hq w hw => ?_) (fun q hq w hw => ?_)⟩, fun k hk => ?_⟩
      · rw [wr_lo (by decide), wr_lo (by decide), wr_lo (by decide), wr_lo (by decide), wr_lo (by decide)]
        exact ⟨rfl, rfl, rfl, rfl, rfl⟩
      · rw [wr_lo (by omega)]
      · rw [kf_wr (by omega) (by omega), (w0 k hk).1]
        by_cases h : w = 10
        · rw [if_pos h, h, Int32.add_zero]
        · rw [if_neg h]
      · have := hc.2.1.2
        exact (wr_lo (i := 11 + 3 * q + w) (by omega)).symm
      · exact (wr_lo (i := 173 + 6 * q + w) (by omega)).symm
      · unfold tw
        rw [(w0 k hk).2]
        exact ⟨(z1 k hk).2, fun c hc => by cases hc⟩
    obtain ⟨r, ⟨M', hr, hh⟩, hs⟩ := H2 nk 0 (by omega) M1 o2 o3 start
    subst hr
    exact ⟨M', t_23_2 c1.1.1 hb _ _ _ (mb_y (by rw [c1.2.2.1.1]; exact ct_ge hc) hs), hh⟩
  · intro i hi ih M1 o2 o3 c1 z1
    have hi10 : i < 10 := by omega
    have ixi : ab_ix (nI i) i 10 := mb_ix hi10 (by decide)
    have hin : ∀ w, cS b (b + 6 + i) w := fun _ => ⟨by omega, by omega⟩
    generalize g2 : ak_sI M1 (b + 6 + i) 14 0 = M2
    generalize g4 : ak_sI M2 (b + 6 + i) 15 (-1) = M4
    have c4 : cr b σ nk nw ne fe M M4 := by
      rw [← g4, ← g2]
      exact ⟨(c1.1.st (hin _)).st (hin _), (c1.2.sc hc hi10 (by decide)).sc hc hi10 (by decide)⟩
    obtain ⟨M', hs, hh⟩ := ih M4 o2 o3 c4 (by
      intro k hk
      by_cases e : k = i
      · subst e
        rw [← g4, mb_sIs, mb_sIk (by decide), ← g2, mb_sIs]; exact ⟨rfl, rfl⟩
      · rw [← g4, mb_sIr (by omega), ← g2, mb_sIr (by omega)]; exact z1 k (by omega))
    refine ⟨M', t_23_2 c1.1.1 hb _ _ _ (mb_n (by rw [c1.2.2.1.1]; exact ct_lt hc hi) ⟨i, hi10, ixi, fun N e => ?_⟩), hh⟩
    obtain rfl := e.trans g2
    refine ⟨i, hi10, ixi, fun N' e => ?_⟩
    obtain rfl := e.trans g4
    rw [mi_s]
    exact hs
/-! cutting -/
theorem up_kf {i w : Nat} {v : Int32} (h : i < 23) : kf (up σ i v) k w = kf σ k w := by
  show up σ i v (23 + 15 * k + w) = _
  exact up_n (by omega)
theorem up_wf {i j w : Nat} {v : Int32} (h : i < 11) : wf (up σ i v) j w = wf σ j w := by
  show up σ i v (11 + 3 * j + w) = _
  exact up_n (by omega)
theorem up_ef {i j w : Nat} {v : Int32} (h : i < 173) : ef (up σ i v) j w = ef σ j w := by
  show up σ i v (173 + 6 * j + w) = _
  exact up_n (by omega)
theorem Rb.c10 (h : Rb b σ nk nw ne fe M) {v : Int32} : Rb b (up σ 10 v) nk nw ne fe (ak_sI M b 10 v) := by
  obtain ⟨h1, ⟨a1, a2, a3, a4, a5, a6⟩, h3, h4, h5, h6⟩ := h
  refine ⟨h1, ⟨?_, ?_, ?_, ?_, ?_, ?_⟩, fun k hk w hw => ?_, fun i hi w hw => ?_, fun j hj => ?_, fun j hj w hw => ?_⟩
  · rw [mb_sIk (by decide), up_n (by decide)]; exact a1
  · rw [mb_sIk (by decide), up_n (by decide)]; exact a2
  · rw [mb_sIk (by decide), up_n (by decide)]; exact a3
  · rw [mb_sIk (by decide)]; exact a4
  · rw [mb_sIk (by decide), up_n (by decide)]; exact a5
  · rw [mb_sIs, up_s]
  · rw [mb_sIr (by omega)]; rw [up_kf (by decide)]; exact h3 k hk w hw
  · rw [mb_sIr (by omega)]; rw [up_wf (by decide)]; exact h4 i hi w hw
  · rw [mb_sIr (by omega)]; rw [up_n (by omega)]; exact h5 j hj
  · rw [mb_sIr (by omega)]; rw [up_ef (by decide)]; exact h6 j hj w hw
theorem Rb.c9 (h : Rb b σ nk nw ne fe M) {v : Int32} : Rb b (up σ 0 v) nk nw ne fe (ak_sI M b 9 v) := by
  obtain ⟨h1, ⟨a1, a2, a3, a4, a5, a6⟩, h3, h4, h5, h6⟩ := h
  refine ⟨h1, ⟨?_, ?_, ?_, ?_, ?_, ?_⟩, fun k hk w hw => ?_, fun i hi w hw => ?_, fun j hj => ?_, fun j hj w hw => ?_⟩
  · rw [mb_sIk (by decide), up_n (by decide)]; exact a1
  · rw [mb_sIk (by decide), up_n (by decide)]; exact a2
  · rw [mb_sIk (by decide), up_n (by decide)]; exact a3
  · rw [mb_sIk (by decide)]; exact a4
  · rw [mb_sIs, up_s]
  · rw [mb_sIk (by decide), up_n (by decide)]; exact a6
  · rw [mb_sIr (by omega)]; rw [up_kf (by decide)]; exact h3 k hk w hw
  · rw [mb_sIr (by omega)]; rw [up_wf (by decide)]; exact h4 i hi w hw
  · rw [mb_sIr (by omega)]; rw [up_n (by omega)]; exact h5 j hj
  · rw [mb_sIr (by omega)]; rw [up_ef (by decide)]; exact h6 j hj w hw
/-- cutting leaves the places -/
theorem cuts_geo (hc : ct σ nk nw ne) : ∀ i, i ≤ nk → ∀ k, k < 10 → ∀ w, 1 ≤ w → w < 10 → kf (mo_cuts σ nk i) k w = kf σ k w
  | 0, _, _, _, _, _, _ => rfl
  | i + 1, hi, k, hk, w, h1, h2 => by
    have h10 := hc.1
    rw [← cuts_geo hc i (by omega) k hk w h1 h2]
    show kf (mo_cut1 σ (mo_cuts σ nk i) nk i) k w = _
    generalize mo_cuts σ nk i = ρ
    unfold mo_cut1
    cases ht : mo_threat σ i nk with
    | none => exact kf_n (by decide) (by omega) (by omega)
    | some c =>
      dsimp only
      split
      · unfold mo_cutb
        rw [hap_kf hk (by omega)]
        show up _ 10 _ _ = _
        rw [up_n (by omega)]
        show kf (lay _ c 11 _) k w = _
        rw [kf_n (by decide) (by omega) (by omega), kf_n (by decide) (by omega) (by omega), kf_n (by decide) (by omega) (by omega), kf_n (by decide) (by omega) (by omega)]
      · exact kf_n (by decide) (by omega) (by omega)
/-- the wear still to come to the lines from i on -/
def gw (σ : Nat → Int32) (n i : Nat) : Nat → Int32 := fun k => if k < i then 0 else mo_wear σ k n
theorem gw_lt {n i : Nat} (h : k < i) : gw σ n i k = 0 := if_pos h
theorem gw_ge {n i : Nat} (h : ¬ k < i) : gw σ n i k = mo_wear σ k n := if_neg h
/-- the class's field ahead of the cut of line i -/
def cq (b : Nat) (σ : Nat → Int32) (nk nw i : Nat) (M M1 : ak_M) : Prop := ∃ n f, vs (mo_cuts σ nk i) nk nw n ∧ cr b (mo_wr (mo_cuts σ nk i) (gw σ nk i)) nk nw n f M M1 ∧ ∀ k, k < nk → ak_I M1 (b + 6 + k) 15 = oI (mo_threat σ k nk)
theorem sk_25 (hL : ab_lay M) (hb : b ∈ ab_fb) {M0 : ak_M} (hv : vs σ nk nw ne) (h0 : cr b (mo_wr σ (fun k => mo_wear σ k nk)) nk nw ne fe M0 M) (hy : ∀ k, k < nk → ak_I M (b + 6 + k) 15 = oI (mo_threat σ k nk)) : ∃ M', rn X 25 [.ref b] M (.inl none, M') ∧ ch b (mo_cuts σ nk nk) nk nw M0 M' := by
  have hc := hv.1
  have h10 := hc.1
  suffices H : ∀ i, i ≤ nk → ∀ M1 o2 o3, cq b σ nk nw i M0 M1 → ∃ M', sg X 25 (2, [some (.ref b), some (.int (nI i)), o2, o3], [], []) M1 (.inl none, M') ∧ ch b (mo_cuts σ nk nk) nk nw M0 M' by
    obtain ⟨M', h, m⟩ := H 0 (Nat.zero_le _) M none none ⟨_, _, hv, ⟨h0.1, wr_cg hc h0.2 fun k hk => by unfold gw; rw [if_neg (Nat.not_lt_zero _)]⟩, hy⟩
    exact ⟨M', t_25 hL hb h, m⟩
  refine mb_up ?_ ?_
  · rintro M1 o2 o3 ⟨n, f, v, c, y⟩
    refine ⟨M1, t_25_2 c.1.1 hb _ _ _ (mb_y (by rw [c.2.2.1.1, wr_lo (by decide)]; exact ct_ge v.1) rfl), n, f, v, c.1, ?_⟩
    refine c.2.cg ?_ (fun q hq => wr_lo (by omega)) (fun k hk w hw => ?_) (fun q hq w hw => ?_) (fun q hq w hw => ?_)
    · rw [wr_lo (by decide), wr_lo (by decide), wr_lo (by decide), wr_lo (by decide), wr_lo (by decide)]
      exact ⟨rfl, rfl, rfl, rfl, rfl⟩
    · rw [kf_wr (by omega) (by omega)]
      unfold gw
      by_cases h : w = 10
      · rw [if_pos h, h, if_pos hk, Int32.add_zero]
      · rw [if_neg h]
    · have := hc.2.1.2
      exact wr_lo (i := 11 + 3 * q + w) (by omega)
    · exact wr_lo (i := 173 + 6 * q + w) (by omega)
  · rintro i hi ih M1 o2 o3 ⟨n, f, v, c, y⟩
    have hi10 : i < 10 := by omega
    have l1 := c.1.1
    have ixi : ab_ix (nI i) i 10 := mb_ix hi10 (by decide)
    have n1 : ¬ ak_I M1 b 5 ≤ nI i := by rw [c.2.2.1.1, wr_lo (by decide)]; exact ct_lt v.1 hi
    have geo0 := cuts_geo hc i (by omega)
    have ihs : mo_cuts σ nk (i + 1) = mo_cut1 σ (mo_cuts σ nk i) nk i := rfl
    have v1 : vs (lay (mo_cuts σ nk i) i 10 (kf (mo_cuts σ nk i) i 10 + mo_wear σ i nk)) nk nw n := vs_lay v hi10 (by decide) fun _ => rg_hi (by decide)
    have geo1 : ∀ k, k < 10 → ∀ w, 1 ≤ w → w < 10 → kf (lay (mo_cuts σ nk i) i 10 (kf (mo_cuts σ nk i) i 10 + mo_wear σ i nk)) k w = kf σ k w := fun k hk w h1 h2 => by
      rw [kf_n (by decide) (by omega) (by omega)]; exact geo0 k hk w h1 h2
    have c1 : cr b (mo_wr (lay (mo_cuts σ nk i) i 10 (kf (mo_cuts σ nk i) i 10 + mo_wear σ i nk)) (gw σ nk (i + 1))) nk nw n f M0 M1 := by
      refine ⟨c.1, c.2.cg ?_ (fun q hq => ?_) (fun k hk w hw => ?_) (fun q hq w hw => ?_) (fun q hq w hw => ?_)⟩
      · rw [wr_lo (by decide), wr_lo (by decide), wr_lo (by decide), wr_lo (by decide), wr_lo (by decide), wr_lo (by decide), wr_lo (by decide), wr_lo (by decide), wr_lo (by decide), wr_lo (by decide), lay_lo (by decide), lay_lo (by decide), lay_lo (by decide), lay_lo (by decide), lay_lo (by decide)]
        exact ⟨rfl, rfl, rfl, rfl, rfl⟩
      · rw [wr_lo (by omega), wr_lo (by omega), lay_lo (by omega)]
      · rw [kf_wr (by omega) (by omega), kf_wr (by omega) (by omega), kf_lay (by decide) (by omega), kf_lay (by decide) (by omega)]
        by_cases h : w = 10
        · subst h
          rw [if_pos rfl, if_pos rfl]
          by_cases e : k = i
          · subst e
            rw [gw_ge (Nat.lt_irrefl k), gw_lt (Nat.lt_succ_self k), if_pos ⟨rfl, rfl⟩, Int32.add_zero]
          · rw [if_neg (fun q => e q.1)]
            by_cases e2 : k < i
            · rw [gw_lt e2, gw_lt (by omega)]
            · rw [gw_ge e2, gw_ge (by omega)]
        · rw [if_neg h, if_neg h, if_neg (by omega)]
      · have := hc.2.1.2
        show mo_wr _ _ (11 + 3 * q + w) = mo_wr _ _ (11 + 3 * q + w)
        rw [wr_lo (by omega), wr_lo (by omega), lay_lo (by omega)]
      · show mo_wr _ _ (173 + 6 * q + w) = mo_wr _ _ (173 + 6 * q + w)
        rw [wr_lo (by omega), wr_lo (by omega), lay_hi hi10 (by decide) (by omega)]
    unfold cq at ih
    rw [ihs] at ih
    have eN : mo_threat σ i nk = none → mo_cut1 σ (mo_cuts σ nk i) nk i = lay (mo_cuts σ nk i) i 10 (kf (mo_cuts σ nk i) i 10 + mo_wear σ i nk) := fun h => by unfold mo_cut1; rw [h]
    have eS : ∀ q, mo_threat σ i nk = some q → ¬ (mo_fly (lay (mo_cuts σ nk i) i 10 (kf (mo_cuts σ nk i) i 10 + mo_wear σ i nk)) i = true ∧ kf (lay (mo_cuts σ nk i) i 10 (kf (mo_cuts σ nk i) i 10 + mo_wear σ i nk)) i 9 ≤ kf (lay (mo_cuts σ nk i) i 10 (kf (mo_cuts σ nk i) i 10 + mo_wear σ i nk)) i 10) → mo_cut1 σ (mo_cuts σ nk i) nk i = lay (mo_cuts σ nk i) i 10 (kf (mo_cuts σ nk i) i 10 + mo_wear σ i nk) := fun q h hn => by unfold mo_cut1; rw [h]; exact if_neg hn
    have eY : ∀ q, mo_threat σ i nk = some q → (mo_fly (lay (mo_cuts σ nk i) i 10 (kf (mo_cuts σ nk i) i 10 + mo_wear σ i nk)) i = true ∧ kf (lay (mo_cuts σ nk i) i 10 (kf (mo_cuts σ nk i) i 10 + mo_wear σ i nk)) i 9 ≤ kf (lay (mo_cuts σ nk i) i 10 (kf (mo_cuts σ nk i) i 10 + mo_wear σ i nk)) i 10) → mo_cut1 σ (mo_cuts σ nk i) nk i = mo_cutb (lay (mo_cuts σ nk i) i 10 (kf (mo_cuts σ nk i) i 10 + mo_wear σ i nk)) i q (mo_cX σ i q) (mo_cY σ i q) := fun q h hn => by unfold mo_cut1; rw [h]; exact if_pos hn
    generalize mo_cut1 σ (mo_cuts σ nk i) nk i = D at *
    generalize lay (mo_cuts σ nk i) i 10 (kf (mo_cuts σ nk i) i 10 + mo_wear σ i nk) = τ at *
    have ek : ∀ w, w < 10 → ak_I M1 (b + 6 + i) w = kf τ i w := fun w hw => by rw [c1.2.kk hi (by omega), kf_wr hi10 (by omega), if_neg (by omega)]
    have ek10 : ak_I M1 (b + 6 + i) 10 = kf τ i 10 := by
      rw [c1.2.kk hi (by omega), kf_wr hi10 (by omega), if_pos rfl]
      unfold gw
      rw [if_pos (by omega), Int32.add_zero]
    have ey := y i hi
    have next : ∀ o2 o3, D = τ → ∃ M', sg X 25 (2, [some (.ref b), some (.int (nI (i + 1))), o2, o3], [], []) M1 (.inl none, M') ∧ ch b (mo_cuts σ nk nk) nk nw M0 M' := by
      intro o2 o3 e
      refine ih M1 o2 o3 ⟨n, f, ?_, ?_, y⟩
      · rw [e]; exact v1
      · rw [e]; exact c1
    by_cases d0 : kf τ i 0 = 0
    · by_cases d1 : kf τ i 10 < kf τ i 9
      · obtain ⟨M', h', m'⟩ := next (some (.ref (b + 6 + i))) o3 (by
          cases ht : mo_threat σ i nk with
          | none => exact eN ht
          | some c => exact eS c ht (fun e => mb_le.mpr d1 e.2))
        refine ⟨M', t_25_2 l1 hb _ _ _ (mb_n n1 ⟨i, hi10, ixi, ?_⟩), m'⟩
        rw [ek 0 (by decide), ek10, ek 9 (by decide)]
        refine mb_y d0 (mb_y d1 ?_)
        rw [mi_s]
        exact h'
      · cases ht : mo_threat σ i nk with
        | none =>
          rw [ht] at ey
          obtain ⟨M', h', m'⟩ := next (some (.ref (b + 6 + i))) o3 (eN ht)
          refine ⟨M', t_25_2 l1 hb _ _ _ (mb_n n1 ⟨i, hi10, ixi, ?_⟩), m'⟩
          rw [ek 0 (by decide), ek10, ek 9 (by decide), ey]
          refine mb_y d0 (mb_n d1 (mb_y rfl ?_))
          rw [mi_s]
          exact h'
        | some q =>
          rw [ht] at ey
          have hq := mo_threat_lt _ _ _ _ ht
          have hqn : q < nk := hq.1
          have hq10 : q < 10 := by omega
          have ey : ak_I M1 (b + 6 + i) 15 = nI q := ey
          rw [eY q ht ⟨by unfold mo_fly; rw [decide_eq_true d0], mb_lt.mp d1⟩] at ih
          have cw : ct (mo_wr τ (gw σ nk (i + 1))) nk nw n := ct_wr v1.1
          generalize hT : mo_wr τ (gw σ nk (i + 1)) = T at *
          have k2 := c1.lay cw hi (w := 0) (v := 2) (M2 := ak_sI M1 (b + 6 + i) 0 2) (by decide) rfl
          generalize g2 : ak_sI M1 (b + 6 + i) 0 2 = M2 at k2
          have k3 := k2.lay (ct_lay cw) hi (w := 13) (v := nI q) (M2 := ak_sI M2 (b + 6 + i) 13 (nI q)) (by decide) rfl
          generalize g3 : ak_sI M2 (b + 6 + i) 13 (nI q) = M3 at k3
          have k5 := k3.lay (ct_lay (ct_lay cw)) hqn (w := 11) (v := kf (lay (lay T i 0 2) i 13 (nI q)) q 11 + 1) (M2 := ak_sI M3 (b + 6 + q) 11 (kf (lay (lay T i 0 2) i 13 (nI q)) q 11 + 1)) (by decide) rfl
          generalize g5 : ak_sI M3 (b + 6 + q) 11 (kf (lay (lay T i 0 2) i 13 (nI q)) q 11 + 1) = M5 at k5
          have c5 : ct (lay (lay (lay T i 0 2) i 13 (nI q)) q 11 (kf (lay (lay T i 0 2) i 13 (nI q)) q 11 + 1)) nk nw n := ct_lay (ct_lay (ct_lay cw))
          have e3q := k3.2.kk hqn (w := 11) (by decide)
          -- what the class's row and the model's have in common
          have same : ∀ k, k < nk → ∀ w, w < 14 → w ≠ 10 → kf (lay (lay (lay T i 0 2) i 13 (nI q)) q 11 (kf (lay (lay T i 0 2) i 13 (nI q)) q 11 + 1)) k w = kf (lay (lay (lay τ i 0 2) i 13 (nI q)) q 11 (kf (lay (lay τ i 0 2) i 13 (nI q)) q 11 + 1)) k w := by
            intro k hk w hw h
            have eT : ∀ k, k < 10 → ∀ w, w < 14 → w ≠ 10 → kf T k w = kf τ k w := fun k hk w hw h => by rw [← hT, kf_wr hk (by omega), if_neg h]
            rw [kf_lay (by omega) (by omega), kf_lay (by omega) (by omega), kf_lay (by omega) (by omega), kf_lay (by omega) (by omega), kf_lay (by omega) (by omega), kf_lay (by omega) (by omega), kf_lay (by omega) (by omega), kf_lay (by omega) (by omega), kf_lay (by omega) (by omega), kf_lay (by omega) (by omega), eT k (by omega) w hw h, eT q hq10 11 (by decide) (by decide)]
          have same10 : ∀ k, k < nk → kf (lay (lay (lay T i 0 2) i 13 (nI q)) q 11 (kf (lay (lay T i 0 2) i 13 (nI q)) q 11 + 1)) k 10 = kf τ k 10 + gw σ nk (i + 1) k := by
            intro k hk
            rw [kf_n (by decide) (by decide) (by omega), kf_n (by decide) (by decide) (by omega), kf_n (by decide) (by decide) (by omega), ← hT, kf_wr (by omega) (by decide), if_pos rfl]
          have sameτ : ∀ k, k < nk → kf (lay (lay (lay τ i 0 2) i 13 (nI q)) q 11 (kf (lay (lay τ i 0 2) i 13 (nI q)) q 11 + 1)) k 10 = kf τ k 10 := by
            intro k hk
            rw [kf_n (by decide) (by decide) (by omega), kf_n (by decide) (by decide) (by omega), kf_n (by decide) (by decide) (by omega)]
          have sgeo : ∀ k, k < nk → ∀ w, 1 ≤ w → w < 10 → kf (lay (lay (lay T i 0 2) i 13 (nI q)) q 11 (kf (lay (lay T i 0 2) i 13 (nI q)) q 11 + 1)) k w = kf σ k w := by
            intro k hk w h1 h2
            rw [same k hk w (by omega) (by omega), kf_n (by decide) (by omega) (by omega), kf_n (by decide) (by omega) (by omega), kf_n (by decide) (by omega) (by omega)]
            exact geo1 k (by omega) w h1 h2
          have slo : ∀ j, j < 23 → lay (lay (lay T i 0 2) i 13 (nI q)) q 11 (kf (lay (lay T i 0 2) i 13 (nI q)) q 11 + 1) j = lay (lay (lay τ i 0 2) i 13 (nI q)) q 11 (kf (lay (lay τ i 0 2) i 13 (nI q)) q 11 + 1) j := by
            intro j hj
            rw [lay_lo hj, lay_lo hj, lay_lo hj, lay_lo hj, lay_lo hj, lay_lo hj, ← hT, wr_lo (by omega)]
          have shi : ∀ j, 173 ≤ j → lay (lay (lay T i 0 2) i 13 (nI q)) q 11 (kf (lay (lay T i 0 2) i 13 (nI q)) q 11 + 1) j = lay (lay (lay τ i 0 2) i 13 (nI q)) q 11 (kf (lay (lay τ i 0 2) i 13 (nI q)) q 11 + 1) j := by
            intro j hj
            rw [lay_hi hq10 (by decide) hj, lay_hi hi10 (by decide) hj, lay_hi hi10 (by decide) hj, lay_hi hq10 (by decide) hj, lay_hi hi10 (by decide) hj, lay_hi hi10 (by decide) hj, ← hT, wr_lo (by omega)]
          have v5 : vs (lay (lay (lay τ i 0 2) i 13 (nI q)) q 11 (kf (lay (lay τ i 0 2) i 13 (nI q)) q 11 + 1)) nk nw n := vs_lay (vs_lay (vs_lay v1 hi10 (by decide) fun _ => by decide) hi10 (by decide) fun _ => rg_hi (by decide)) hq10 (by decide) fun _ => rg_hi (by decide)
          have vcut := cutb_vs (x := mo_cX σ i q) (y := mo_cY σ i q) v1 hi10 hq10
          unfold mo_cutb at ih vcut
          generalize lay (lay (lay T i 0 2) i 13 (nI q)) q 11 (kf (lay (lay T i 0 2) i 13 (nI q)) q 11 + 1) = U at *
          generalize lay (lay (lay τ i 0 2) i 13 (nI q)) q 11 (kf (lay (lay τ i 0 2) i 13 (nI q)) q 11 + 1) = u at *
          have e10 : ak_I M5 b 10 = U 10 := k5.2.2.1.2.2.2.2.2
          generalize g6 : ak_sI M5 b 10 (U 10 + 1) = M6
          have k6 : cr b (up U 10 (U 10 + 1)) nk nw n f M0 M6 := by
            rw [← g6]
            exact ⟨k5.1.st ⟨by omega, by omega⟩, k5.2.c10⟩
          have c6 : ct (up U 10 (U 10 + 1)) nk nw n := ⟨c5.1, c5.2.1, c5.2.2.1, by rw [up_n (by decide)]; exact c5.2.2.2.1, by rw [up_n (by decide)]; exact c5.2.2.2.2.1, by rw [up_n (by decide)]; exact c5.2.2.2.2.2⟩
          have kf6 : ∀ k, k < 10 → ∀ w, w < 15 → kf (up U 10 (U 10 + 1)) k w = kf U k w := fun k hk w hw => up_n (by omega)
          have lmin : min i q < nk := by omega
          have lmax : max i q < nk := by omega
          have kpU : ∀ k, k < nk → kp (up U 10 (U 10 + 1)) k := by
            intro k hk
            have := hv.kp hk
            unfold kp at this ⊢
            rw [kf6 k (by omega) 1 (by decide), kf6 k (by omega) 2 (by decide), kf6 k (by omega) 3 (by decide), kf6 k (by omega) 4 (by decide), kf6 k (by omega) 5 (by decide), sgeo k hk 1 (by decide) (by decide), sgeo k hk 2 (by decide) (by decide), sgeo k hk 3 (by decide) (by decide), sgeo k hk 4 (by decide) (by decide), sgeo k hk 5 (by decide) (by decide)]
            exact this
          obtain ⟨M13, r13, f13, H13⟩ := sk_1 (X := X) k6.1.1 hb k6.2 c6 lmin lmax (kpU _ lmin) (kpU _ lmax)
          have gg := geo (τ := up U 10 (U 10 + 1)) (σ := σ) (k := min i q) (o := max i q) (fun w h1 h2 => by rw [kf6 _ (by omega) w (by omega)]; exact sgeo _ lmin w h1 h2) (fun w h1 h2 => by rw [kf6 _ (by omega) w (by omega)]; exact sgeo _ lmax w h1 h2)
          have hcz : mo_cz σ (min i q) (max i q) = true := by
            have := rub_cross hq.2
            rw [← cross_mm (hv.kp hi) (hv.kp hqn), cross_cz, Bool.and_eq_true, Bool.and_eq_true] at this
            exact this.2.2
          have HH := H13 (by rw [gg.1]; exact hcz)
          have ex : ak_I M13 (b + 5) 0 = mo_cX σ i q := by rw [HH.1, gg.2.2.2.1]; rfl
          have ey' : ak_I M13 (b + 5) 1 = mo_cY σ i q := by rw [HH.2.1, gg.2.2.2.2]; rfl
          have R13 := k6.2.fr c6 f13 cX_out
          obtain ⟨M15, r15, k15, o15⟩ := sk_19 (X := X) f13.1 hb R13 c6 (x1 := 1) (x2 := nI i) (x3 := nI q) (x4 := mo_cX σ i q) (x5 := mo_cY σ i q)
          have F15 : fr (cS b) M0 M15 := (k6.1.tr (f13.mo fun _ _ => cX_S)).tr k15.1
          have cu : ct (up u 10 (u 10 + 1)) nk nw n := (vs_up10 v5).1
          obtain ⟨n', vn'⟩ := vcut
          have en' : n' = me n + 1 := by
            have a := ct_nE vn'.1
            have a2 := ct_nE (hap_ct (kd := 1) (k := nI i) (o := nI q) (x := mo_cX σ i q) (y := mo_cY σ i q) cu)
            rw [← a, ← a2]
          subst en'
          have hcr : cr b (mo_wr (mo_hap (up u 10 (u 10 + 1)) 1 (nI i) (nI q) (mo_cX σ i q) (mo_cY σ i q)) (gw σ nk (i + 1))) nk nw (me n + 1) (fe' n f) M0 M15 := by
            refine ⟨F15, k15.2.cg ?_ (fun j hj => ?_) (fun k hk w hw => ?_) (fun j hj w hw => ?_) (fun j hj w hw => ?_)⟩
            · have U0 : ∀ j, j < 23 → j ≠ 9 → j ≠ 10 → mo_hap (up U 10 (U 10 + 1)) 1 (nI i) (nI q) (mo_cX σ i q) (mo_cY σ i q) j = mo_wr (mo_hap (up u 10 (u 10 + 1)) 1 (nI i) (nI q) (mo_cX σ i q) (mo_cY σ i q)) (gw σ nk (i + 1)) j := by
                intro j hj h9 h10'
                rw [hap_lo (by omega) h9, wr_lo (by omega), hap_lo (by omega) h9, up_n h10', up_n h10', slo j hj]
              refine ⟨U0 0 (by decide) (by decide) (by decide), U0 1 (by decide) (by decide) (by decide), U0 2 (by decide) (by decide) (by decide), ?_, ?_⟩
              · rw [wr_lo (by decide)]
                exact (hap_ct c6).2.2.2.2.2.trans (hap_ct cu).2.2.2.2.2.symm
              · rw [wr_lo (by decide), hap_lo (by decide) (by decide), hap_lo (by decide) (by decide), up_s, up_s, slo 10 (by decide)]
            · rw [wr_lo (by omega), hap_lo (by omega) (by omega), hap_lo (by omega) (by omega), up_n (by omega), up_n (by omega), slo _ (by omega)]
            · rw [kf_wr (by omega) (by omega), hap_kf (by omega) (by omega), hap_kf (by omega) (by omega), hap_kf (by omega) (by omega), kf6 k (by omega) w (by omega)]
              have e2 : ∀ w, w < 15 → kf (up u 10 (u 10 + 1)) k w = kf u k w := fun w hw => up_n (by omega)
              rw [e2 w (by omega), e2 10 (by decide)]
              by_cases h : w = 10
              · subst h
                rw [if_pos rfl, same10 k hk, sameτ k hk]
              · rw [if_neg h, same k hk w hw h]
            · have := hc.2.1.2
              rw [hap_wf (by omega) hw]
              show _ = mo_wr _ _ (11 + 3 * j + w)
              rw [wr_lo (by omega)]
              show up U 10 _ (11 + 3 * j + w) = _
              rw [hap_lo (by omega) (by omega), up_n (by omega), up_n (by omega), slo _ (by omega)]
            · show ef (mo_hap _ _ _ _ _ _) j w = mo_wr _ _ (173 + 6 * j + w)
              rw [wr_lo (by omega)]
              show _ = ef (mo_hap _ _ _ _ _ _) j w
              rw [hap_ef c6 hw hj, hap_ef cu hw hj, up_n (by decide), up_n (by decide), slo 0 (by decide)]
              have e3 : ∀ j, ef (up U 10 (U 10 + 1)) j w = ef (up u 10 (u 10 + 1)) j w := by
                intro j
                show up U 10 _ (173 + 6 * j + w) = up u 10 _ (173 + 6 * j + w)
                rw [up_n (by omega), up_n (by omega), shi _ (by omega)]
              rw [e3]
          have hyy : ∀ k, k < nk → ak_I M15 (b + 6 + k) 15 = oI (mo_threat σ k nk) := by
            intro k hk
            have w15 : ak_I M15 (b + 6 + k) 15 = ak_I M1 (b + 6 + k) 15 := by
              rw [o15 _ (by omega) (by omega), f13.row (fun w (hw : cX b _ w) => by have hw : _ = b + 5 := hw; omega), ← g6, mb_sIr (by omega), ← g5, mb_sIk (by decide), ← g3, mb_sIk (by decide), ← g2, mb_sIk (by decide)]
            rw [w15]
            exact y k hk
          obtain ⟨M', h', m'⟩ := ih M15 (some (.ref (b + 6 + i))) (some (.int (nI q))) ⟨me n + 1, fe' n f, vn', hcr, hyy⟩
          refine ⟨M', t_25_2 l1 hb _ _ _ (mb_n n1 ⟨i, hi10, ixi, ?_⟩), m'⟩
          rw [ek 0 (by decide), ek10, ek 9 (by decide), ey]
          refine mb_y d0 (mb_n d1 (mb_n (mi_n1 (by omega)) fun N e => ?_))
          obtain rfl := e.trans g2
          intro N e
          obtain rfl := e.trans g3
          refine ⟨q, hq10, mb_ix hq10 (by decide), fun N e => ?_⟩
          rw [e3q] at e
          obtain rfl := e.trans g5
          intro N e
          rw [e10] at e
          obtain rfl := e.trans g6
          have j1 := jm_min (X := X) k6.1.1 (x := nI i) (y := nI q)
          have j2 := jm_max (X := X) k6.1.1 (x := nI i) (y := nI q)
          rw [mn_nat (by omega) (by omega)] at j1
          rw [mx_nat (by omega) (by omega)] at j2
          refine ⟨_, N, k6.1.1, j1, min i q, by omega, mb_ix (by omega) (by decide), _, N, k6.1.1, j2, max i q, by omega, mb_ix (by omega) (by decide), _, M13, f13.1, r13, M15, k15.1.1, ?_, ?_⟩
          · rw [ex, ey']; exact r15
          · rw [mi_s]; exact h'
    · obtain ⟨M', h', m'⟩ := next (some (.ref (b + 6 + i))) o3 (by
        cases ht : mo_threat σ i nk with
        | none => exact eN ht
        | some c => exact eS c ht (fun e => d0 (by have := e.1; unfold mo_fly at this; exact of_decide_eq_true this)))
      refine ⟨M', t_25_2 l1 hb _ _ _ (mb_n n1 ⟨i, hi10, ixi, ?_⟩), m'⟩
      rw [ek 0 (by decide)]
      refine mb_n d0 ?_
      rw [mi_s]
      exact h'
end STK
/-! a tick -/
theorem tb_s : ∀ l, l < 32 → ((1 : Int32) <<< (nI l &&& 31)).toBitVec = BitVec.twoPow 32 l := by decide +kernel
theorem tb_z : ∀ l, l < 32 → BitVec.twoPow 32 l ≠ 0#32 := by decide +kernel
theorem tb_and {x : Int32} {l : Nat} (hl : l < 32) : (x &&& ((1 : Int32) <<< (nI l &&& 31))) = 0 ↔ x.toBitVec.getLsbD l = false := by
  rw [← Int32.toBitVec_inj, Int32.toBitVec_and, tb_s l hl, BitVec.and_twoPow]
  have e : (0 : Int32).toBitVec = 0#32 := rfl
  rw [e]
  cases x.toBitVec.getLsbD l
  · exact ⟨fun _ => rfl, fun _ => by rw [if_neg (by decide)]⟩
  · rw [if_pos rfl]
    exact ⟨fun h => absurd h (tb_z l hl), fun h => by cases h⟩
theorem tb_or {x : Int32} {l i : Nat} (hl : l < 32) : (x ||| ((1 : Int32) <<< (nI l &&& 31))).toBitVec.getLsbD i = (x.toBitVec.getLsbD i || decide (l = i)) := by
  rw [Int32.toBitVec_or, tb_s l hl, BitVec.getLsbD_or, BitVec.getLsbD_twoPow, decide_eq_true hl, Bool.true_and]
section STI
variable {X : ak_X} {M M' : ak_M} {b k o nk nw ne fe : Nat} {σ τ : Nat → Int32}
theorem ch.lay0 {M1 : ak_M} (h : ch b σ nk nw M M1) : ab_lay M1 := by obtain ⟨_, _, _, d⟩ := h; exact d.1.1
theorem sk_21 (hL : ab_lay M) (hb : b ∈ ab_fb) (hR : Rb b σ nk nw ne fe M) (hv : vs σ nk nw ne) (ht : σ 0 < 5000) : ∃ M', rn X 21 [.ref b] M (.inl none, M') ∧ ch b (mo_tick σ nk) nk nw M M' := by
  have hc := hv.1
  have h10 := hc.1
  -- the last pass
  have H3 : ∀ τ0 y, (∀ j, j < nk → y.toBitVec.getLsbD j = decide (kf σ j 0 = 2)) → (∃ n, vs τ0 nk nw n) → mo_tick σ nk = up (mo_pks (mo_drs (fun j => decide (kf σ j 0 = 2)) τ0 nk) nk nk) 0 (mo_pks (mo_drs (fun j => decide (kf σ j 0 = 2)) τ0 nk) nk nk 0 + 1) →
      ∀ i, i ≤ nk → ∀ M1, ch b (mo_drs (fun j => decide (kf σ j 0 = 2)) τ0 i) nk nw M M1 → ∃ M', sg X 21 (80, [some (.ref b), some (.int y), some (.int (nI i))], [], []) M1 (.inl none, M') ∧ ch b (mo_tick σ nk) nk nw M M' := by
    rintro τ0 y hy ⟨n0, v0⟩ et
    refine mb_up ?_ ?_
    · rintro M1 ⟨n1, f1, v1, c1⟩
      obtain ⟨M14, r14, n2, f2, v2, c2⟩ := sk_27 (X := X) c1.1.1 hb c1.2 v1
      have e9 : ak_I M14 b 9 = mo_pks (mo_drs (fun j => decide (kf σ j 0 = 2)) τ0 nk) nk nk 0 := c2.2.2.1.2.2.2.2.1
      obtain ⟨n3, v3⟩ := tick_vs hv ht
      refine ⟨ak_sI M14 b 9 (ak_I M14 b 9 + 1), t_21_80 c1.1.1 hb _ _ (mb_y (by rw [c1.2.2.1.1]; exact ct_ge v1.1) ⟨M14, c2.1.1, r14, fun N e => by rw [e]⟩), n2, f2, ?_, ?_⟩
      · have : n3 = n2 := by
          have a := ct_nE v3.1
          rw [et] at a
          have b2 : nE (up (mo_pks (mo_drs (fun j => decide (kf σ j 0 = 2)) τ0 nk) nk nk) 0 (mo_pks (mo_drs (fun j => decide (kf σ j 0 = 2)) τ0 nk) nk nk 0 + 1)) = nE (mo_pks (mo_drs (fun j => decide (kf σ j 0 = 2)) τ0 nk) nk nk) := by
            unfold nE
            rw [up_n (by decide)]
          rw [b2, ct_nE v2.1] at a
          omega
        rw [← this]
        exact v3
      · rw [et, e9]
        exact ⟨(c1.1.tr c2.1).st ⟨Nat.le_refl _, by omega⟩, c2.2.c9⟩
    · rintro i hi ih M1 ⟨n1, f1, v1, c1⟩
      have hi10 : i < 10 := by omega
      have n1' : ¬ ak_I M1 b 5 ≤ nI i := by rw [c1.2.2.1.1]; exact ct_lt v1.1 hi
      have hyi := hy i hi
      have ihs : mo_drs (fun j => decide (kf σ j 0 = 2)) τ0 (i + 1) = mo_dr1 (fun j => decide (kf σ j 0 = 2)) (mo_drs (fun j => decide (kf σ j 0 = 2)) τ0 i) i := rfl
      rw [ihs] at ih
      generalize mo_drs (fun j => decide (kf σ j 0 = 2)) τ0 i = τ at *
      by_cases h2 : kf σ i 0 = 2
      · rw [decide_eq_true h2] at hyi
        obtain ⟨M2, r2, c2⟩ := sk_26 (X := X) c1.1.1 hb c1.2 v1 hi (d := fun j => decide (kf σ j 0 = 2)) (decide_eq_true h2)
        obtain ⟨M', h', m'⟩ := ih M2 (ch.tr (σ := τ) ⟨_, _, v1, c1⟩ c2)
        refine ⟨M', t_21_80 c1.1.1 hb _ _ (mb_n n1' (mb_n (by rw [tb_and (by omega), hyi]; decide) ⟨M2, c2.lay0, r2, ?_⟩)), m'⟩
        rw [mi_s]
        exact h'
      · rw [decide_eq_false h2] at hyi
        have e1 : mo_dr1 (fun j => decide (kf σ j 0 = 2)) τ i = τ := if_neg (by show ¬ decide (kf σ i 0 = 2) = true; rw [decide_eq_false h2]; decide)
        obtain ⟨M', h', m'⟩ := ih M1 (by rw [e1]; exact ⟨_, _, v1, c1⟩)
        refine ⟨M', t_21_80 c1.1.1 hb _ _ (mb_n n1' (mb_y (by rw [tb_and (by omega)]; exact hyi) ?_)), m'⟩
        rw [mi_s]
        exact h'
  -- flying
  have H2 : ∀ y, (∀ j, j < nk → y.toBitVec.getLsbD j = decide (kf σ j 0 = 2)) → ∀ i, i ≤ nk → ∀ M1, ch b (mo_fls σ i) nk nw M M1 → ∃ M', sg X 21 (39, [some (.ref b), some (.int y), some (.int (nI i))], [], []) M1 (.inl none, M') ∧ ch b (mo_tick σ nk) nk nw M M' := by
    intro y hy
    refine mb_up ?_ ?_
    · rintro M1 ⟨n1, f1, v1, c1⟩
      obtain ⟨M5, r5, c5, y5⟩ := sk_23 (X := X) c1.1.1 hb c1.2 v1.1 (fun k hk => v1.kp hk)
      obtain ⟨M6, r6, c6⟩ := sk_25 (X := X) c5.1.1 hb v1 ⟨c1.1.tr c5.1, c5.2⟩ y5
      obtain ⟨M', h', m'⟩ := H3 _ y hy (cuts_vs v1 nk (Nat.le_refl _)) rfl 0 (Nat.zero_le _) M6 c6
      exact ⟨M', t_21_39 c1.1.1 hb _ _ (mb_y (by rw [c1.2.2.1.1]; exact ct_ge v1.1) ⟨M5, c5.1.1, r5, M6, c6.lay0, r6, h'⟩), m'⟩
    · rintro i hi ih M1 ⟨n1, f1, v1, c1⟩
      have hi10 : i < 10 := by omega
      have n1' : ¬ ak_I M1 b 5 ≤ nI i := by rw [c1.2.2.1.1]; exact ct_lt v1.1 hi
      have ixi : ab_ix (nI i) i 10 := mb_ix hi10 (by decide)
      have e0 := c1.2.kk hi (w := 0) (by decide)
      rw [mo_fls_s] at ih
      by_cases h0 : kf (mo_fls σ i) i 0 = 0
      · have hf : mo_fly (mo_fls σ i) i = true := decide_eq_true h0
        rw [if_pos hf] at ih
        obtain ⟨M2, r2, c2⟩ := sk_22 (X := X) c1.1.1 hb c1.2 v1 hi
        obtain ⟨M', h', m'⟩ := ih M2 (ch.tr (σ := mo_fls σ i) ⟨_, _, v1, c1⟩ c2)
        refine ⟨M', t_21_39 c1.1.1 hb _ _ (mb_n n1' ⟨i, hi10, ixi, ?_⟩), m'⟩
        rw [e0]
        refine mb_y h0 ⟨M2, c2.lay0, r2, ?_⟩
        rw [mi_s]
        exact h'
      · have hf : ¬ mo_fly (mo_fls σ i) i = true := fun e => h0 (of_decide_eq_true e)
        rw [if_neg hf] at ih
        obtain ⟨M', h', m'⟩ := ih M1 ⟨_, _, v1, c1⟩
        refine ⟨M', t_21_39 c1.1.1 hb _ _ (mb_n n1' ⟨i, hi10, ixi, ?_⟩), m'⟩
        rw [e0]
        refine mb_n h0 ?_
        rw [mi_s]
        exact h'
  -- who drifts
  have H1 : ∀ i, i ≤ nk → ∀ y : Int32, (∀ j, j < 32 → y.toBitVec.getLsbD j = (decide (j < i) && decide (kf σ j 0 = 2))) → ∃ M', sg X 21 (4, [some (.ref b), some (.int y), some (.int (nI i))], [], []) M (.inl none, M') ∧ ch b (mo_tick σ nk) nk nw M M' := by
    refine mb_up ?_ ?_
    · intro y hy
      obtain ⟨M', h', m'⟩ := H2 y (fun j hj => by rw [hy j (by omega), decide_eq_true hj, Bool.true_and]) 0 (Nat.zero_le _) M ⟨_, _, hv, fr.rf hL, hR⟩
      exact ⟨M', t_21_4 hL hb _ _ (mb_y (by rw [hR.2.1.1]; exact ct_ge hc) h'), m'⟩
    · intro i hi ih y hy
      have hi10 : i < 10 := by omega
      have n1' : ¬ ak_I M b 5 ≤ nI i := by rw [hR.2.1.1]; exact ct_lt hc hi
      have ixi : ab_ix (nI i) i 10 := mb_ix hi10 (by decide)
      have e0 := hR.kk hi (w := 0) (by decide)
      by_cases h2 : kf σ i 0 = 2
      · obtain ⟨M', h', m'⟩ := ih (y ||| ((1 : Int32) <<< (nI i &&& 31))) (fun j hj => by
          rw [tb_or (by omega), hy j hj]
          by_cases e : i = j
          · subst e
            rw [decide_eq_true (rfl : i = i), Bool.or_true, decide_eq_true h2, decide_eq_true (Nat.lt_succ_self i)]; rfl
          · rw [decide_eq_false e, Bool.or_false]
            congr 1
            exact decide_eq_decide.mpr (by omega))
        refine ⟨M', t_21_4 hL hb _ _ (mb_n n1' ⟨i, hi10, ixi, ?_⟩), m'⟩
        rw [e0]
        refine mb_y h2 fun z e => ?_
        rw [e, mi_s]
        exact h'
      · obtain ⟨M', h', m'⟩ := ih y (fun j hj => by
          rw [hy j hj]
          by_cases e : j = i
          · subst e
            rw [decide_eq_false h2, Bool.and_false, Bool.and_false]
          · congr 1
            exact decide_eq_decide.mpr (by omega))
        refine ⟨M', t_21_4 hL hb _ _ (mb_n n1' ⟨i, hi10, ixi, ?_⟩), m'⟩
        rw [e0]
        refine mb_n h2 ?_
        rw [mi_s]
        exact h'
  obtain ⟨M', h, m⟩ := H1 0 (Nat.zero_le _) 0 (fun j _ => by
    rw [decide_eq_false (Nat.not_lt_zero _), Bool.false_and]
    exact BitVec.getLsbD_zero)
  exact ⟨M', t_21 hL hb h, m⟩
theorem sk_20 (hL : ab_lay M) (hb : b ∈ ab_fb) (hR : Rb b σ nk nw ne fe M) (hv : vs σ nk nw ne) {t : Nat} (ht : t ≤ 1000) : ∃ M', rn X 20 [.ref b, .int (nI t)] M (.inl none, M') ∧ ch b (mo_ts σ nk t) nk nw M M' := by
  suffices H : ∀ d i, i + d = t → ∀ M1 σ, ch b σ nk nw M M1 → ∃ M', sg X 20 (2, [some (.ref b), some (.int (nI t)), some (.int (nI i))], [], []) M1 (.inl none, M') ∧ ch b (mo_ts σ nk d) nk nw M M' by
    obtain ⟨M', h, m⟩ := H t 0 (by omega) M _ ⟨_, _, hv, fr.rf hL, hR⟩
    exact ⟨M', t_20 hL hb _ h, m⟩
  intro d
  induction d with
  | zero =>
    intro i hi M1 σ m1
    have e : i = t := by omega
    subst e
    exact ⟨M1, t_20_2 m1.lay0 hb _ _ (mb_y (Int32.le_refl _) rfl), m1⟩
  | succ d ih =>
    rintro i hi M1 σ ⟨n1, f1, v1, c1⟩
    have c0 : ¬ nI t ≤ nI i := by rw [mi_le (by omega) (by omega)]; omega
    have e9 : ak_I M1 b 9 = σ 0 := c1.2.2.1.2.2.2.2.1
    unfold mo_ts
    by_cases hs : σ 0 < 5000
    · rw [if_pos hs]
      obtain ⟨M2, h2, m2⟩ := sk_21 (X := X) c1.1.1 hb c1.2 v1 hs
      obtain ⟨M', h', m'⟩ := ih (i + 1) (by omega) M2 _ (ch.tr (σ := σ) ⟨_, _, v1, c1⟩ m2)
      refine ⟨M', t_20_2 c1.1.1 hb _ _ (mb_n c0 (mb_n (by rw [e9]; exact mb_le.mpr hs) ⟨M2, m2.lay0, h2, ?_⟩)), m'⟩
      rw [mi_s]
      exact h'
    · rw [if_neg hs]
      exact ⟨M1, t_20_2 c1.1.1 hb _ _ (mb_n c0 (mb_y (by rw [e9]; exact mb_lt.mp hs) rfl)), _, _, v1, c1⟩
end STI
