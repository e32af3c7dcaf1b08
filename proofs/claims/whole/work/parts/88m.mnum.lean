/-! find, both sides; the model's numbers -/
section SFI
variable {X : ak_X} {M : ak_M} {β : Nat → Int32} {n nk nw ne : Nat} {ν : Nat → Nat}
theorem cp_94 (hL : ab_lay M) (hI : Ic β n M) (hN : Nc ν nk M) : ∃ M', rn X 94 [.ref 0] M (.inl (some (.int (oI (nof ν nk (inp β 0 n))))), M') ∧ fr cI M M' ∧ Ic β 0 M' := by
  have h7 := hI.1
  have s := sk_51 (X := X) (u := 52) (s := 0) (L := n) hL nb52 hI.2.2 h7 (Nn_52.mpr hN) (by omega)
  refine ⟨ak_sI M 1 1 0, t_94 hL ⟨_, M, hL, by rw [hI.2.1]; exact s, fun N e => by rw [e]⟩, (fr.rf hL).st (Or.inr ⟨rfl, rfl⟩), Nat.zero_le _, mb_sIs, fun j hj => absurd hj (Nat.not_lt_zero _)⟩
theorem mp_279 (hL : ab_lay M) (hI : Im β n M) (h1 : ro M 1 = nI nk) (h10 : nk ≤ 10) (hV : NV (ro M) ν nk) : ∃ M', rn X 279 [.ref 483] M (.inl (some (.int (oI (nof ν nk (inp β 0 n))))), M') ∧ fr mo_in M M' ∧ Im β 0 M' ∧ ak_I M' 483 0 = 0 := by
  have h7 := hI.1
  have f1 : fr mo_in M (to M 0) := (fr.rf hL).st (Or.inr ⟨rfl, Or.inl rfl⟩)
  have e17 : ak_I (to M 0) 483 17 = nI n := (mb_sIk (by decide)).trans hI.2.1
  have e495 : ak_I (to M 0) 495 = ak_I M 495 := mb_sIr (by decide)
  have s := sm_277 (X := X) (β := β) (n := n) (s := 0) (L := n) f1.1 (fun j hj => by rw [e495]; exact hI.2.2 j hj) h7 (by omega)
  have f2 : fr mo_in M (ak_sI (to M 0) 483 17 0) := f1.st (Or.inr ⟨rfl, Or.inr rfl⟩)
  have er : ro (ak_sI (to M 0) 483 17 0) = ro M := (mb_sIr (by decide)).trans (to_r 0)
  have fin : fr mo_in M (ak_sI (to M 0) 483 17 0) ∧ Im β 0 (ak_sI (to M 0) 483 17 0) ∧ ak_I (ak_sI (to M 0) 483 17 0) 483 0 = 0 := ⟨f2, ⟨Nat.zero_le _, mb_sIs, fun j hj => absurd hj (Nat.not_lt_zero _)⟩, (mb_sIk (by decide)).trans (to_0 _)⟩
  by_cases c : nal β 0 n
  · have s := s.1 c
    obtain ⟨a1, a2, a3⟩ := nal_nv c
    have s8 := sm_278 (X := X) (nk := nk) f2.1 (by rw [er]; exact h1) h10 (nI (nv β 0 n))
    rw [er, nof_y hV c] at s8
    refine ⟨_, t_279 hL fun N e => ?_, fin⟩
    subst e
    exact ⟨_, _, f1.1, by rw [show ak_I (ak_sI M 483 0 0) 483 17 = nI n from e17]; exact s, fun N e => by rw [e]; exact mb_n (mi_n1 (by omega)) ⟨_, _, f2.1, s8, rfl⟩⟩
  · have s := s.2 c
    rw [nof_n hV c]
    refine ⟨_, t_279 hL fun N e => ?_, fin⟩
    subst e
    exact ⟨_, _, f1.1, by rw [show ak_I (ak_sI M 483 0 0) 483 17 = nI n from e17]; exact s, fun N e => by rw [e]; exact mb_y rfl rfl⟩
end SFI
def tmf (k : Nat) (b : Bool) : Int32 := if k = 0 then 0 else if k = 1 then 1 else if k = 2 then (if b = true then 2 else 5) else if k = 4 then 3 else if k = 3 then 4 else 5
theorem tmf_f : ∀ k, k < 7 → ∀ b : Bool, (tmf k b = 0 ↔ k = 0) ∧ (tmf k b = 1 ↔ k = 1) ∧ (tmf k b = 2 ↔ k = 2 ∧ b = true) ∧ (tmf k b = 3 ↔ k = 4) ∧ (tmf k b = 4 ↔ k = 3) := by decide +kernel
def mF (p k : Nat) : Prop := p = 483 ∧ 19 ≤ k ∧ k ≤ 25
/-- the model has an error -/
def dead (e : Nat × Nat) (M : ak_M) : Prop := ak_I M 483 24 = nI e.1 ∧ ak_I M 483 25 = nI e.2 ∧ e.1 ≠ 0 ∧ e.1 < 10
def mnr (X : ak_X) (β : Nat → Int32) (n k : Nat) (as : List Value) (M : ak_M) (o : (Nat × Nat) ⊕ (Int32 × Nat)) : Prop := match o with
  | .inl e => ∃ M' v, rn X k as M (.inl (some (.int v)), M') ∧ fr mF M M' ∧ dead e M'
  | .inr q => ∃ M', rn X k as M (.inl (some (.int q.1)), M') ∧ fr mT M M' ∧ Tm β n q.2 M'
theorem mT_F {p k : Nat} (h : mT p k) : mF p k := by unfold mT at h; unfold mF; omega
section SMN
variable {X : ak_X} {M : ak_M} {β : Nat → Int32} {n s : Nat} {e : Nat × Nat}
theorem tm_f (β : Nat → Int32) (n s : Nat) : (tmk β n s = 0 ↔ tkd β n s = 0) ∧ (tmk β n s = 1 ↔ tkd β n s = 1) ∧ (tmk β n s = 2 ↔ isn β n s = true) ∧ (tmk β n s = 3 ↔ tkd β n s = 4) ∧ (tmk β n s = 4 ↔ tkd β n s = 3) := by
  have e : tmk β n s = tmf (tkd β n s) (decide (te β n s - s ≤ 4)) := by
    unfold tmk tmf
    simp only [decide_eq_true_eq]
  have h7 : tkd β n s < 7 := by
    unfold tkd
    split
    · have := kof_b (β s); omega
    · decide
  have f := tmf_f _ h7 (decide (te β n s - s ≤ 4))
  rw [e]
  refine ⟨f.1, f.2.1, f.2.2.1.trans ?_, f.2.2.2⟩
  unfold isn
  rw [Bool.and_eq_true, decide_eq_true_eq, decide_eq_true_eq]
theorem dead.nz (h : dead e M) : ¬ ak_I M 483 24 = 0 := by
  obtain ⟨h1, h2, h3, h4⟩ := h
  rw [h1]
  exact fun e => h3 ((mi_eq (b := 0) (by omega) (by decide)).mp e)
theorem d_280 (hL : ab_lay M) (h : dead e M) : rn X 280 [.ref 483] M (.inl (some (.int 0)), M) := t_280 hL (mb_n h.nz rfl)
theorem d_281 (hL : ab_lay M) (h : dead e M) (b c : Int32) : rn X 281 [.ref 483, .int b, .int c] M (.inl none, M) := t_281 hL _ _ (mb_n h.nz rfl)
theorem d_282 (hL : ab_lay M) (h : dead e M) : rn X 282 [.ref 483] M (.inl none, M) := t_282 hL ⟨_, M, hL, d_280 hL h, mb_y rfl rfl⟩
theorem d_283 (hL : ab_lay M) (h : dead e M) (c : Int32) : rn X 283 [.ref 483, .int c] M (.inl (some (.int 0)), M) := t_283 hL _ ⟨_, M, hL, d_280 hL h, mb_y rfl rfl⟩
theorem d_284 (hL : ab_lay M) (h : dead e M) (lo hi : Int32) : rn X 284 [.ref 483, .int lo, .int hi] M (.inl (some (.int (ak_I M 483 23))), M) := by
  refine t_284 hL _ _ ?_
  by_cases c : ak_I M 483 21 = 2
  · exact mb_y c ⟨M, hL, d_281 hL h _ _, _, M, hL, d_280 hL h, mb_y rfl ⟨M, hL, d_282 hL h, rfl⟩⟩
  · exact mb_n c ⟨M, hL, d_281 hL h _ _, _, M, hL, d_280 hL h, mb_y rfl ⟨M, hL, d_282 hL h, rfl⟩⟩
theorem d_285 (hL : ab_lay M) (h : dead e M) : rn X 285 [.ref 483] M (.inl (some (.int (ak_I M 483 23))), M) :=
  t_285 hL ⟨_, M, hL, d_280 hL h, mb_y rfl ⟨_, M, hL, d_284 hL h _ _, rfl⟩⟩
theorem d_286 (hL : ab_lay M) (h : dead e M) (c lo hi d : Int32) : rn X 286 [.ref 483, .int c, .int lo, .int hi, .int d] M (.inl (some (.int d)), M) :=
  t_286 hL _ _ _ _ ⟨_, M, hL, d_283 hL h _, mb_y rfl rfl⟩
/-! without an error -/
theorem a_280 (hL : ab_lay M) (h : ak_I M 483 24 = 0) : rn X 280 [.ref 483] M (.inl (some (.int 1)), M) := t_280 hL (mb_y h rfl)
theorem a_281 (hL : ab_lay M) (h : ak_I M 483 24 = 0) {b : Int32} (hb : ¬ b = 0) (c : Int32) : rn X 281 [.ref 483, .int b, .int c] M (.inl none, M) := t_281 hL _ _ (mb_y h (mb_n hb rfl))
theorem b_281 (hL : ab_lay M) (h : ak_I M 483 24 = 0) (h20 : ak_I M 483 20 = nI s) {c : Nat} (hc : c ≠ 0 ∧ c < 10) : ∃ M', rn X 281 [.ref 483, .int 0, .int (nI c)] M (.inl none, M') ∧ fr mF M M' ∧ dead (c, s) M' ∧ ∀ k, k < 24 → ak_I M' 483 k = ak_I M 483 k := by
  refine ⟨ak_sI (ak_sI M 483 24 (nI c)) 483 25 (nI s), t_281 hL _ _ (mb_y h (mb_y rfl fun N e N2 e2 => ?_)), ((fr.rf hL).st ⟨rfl, by decide, by decide⟩).st ⟨rfl, by decide, by decide⟩, ⟨(mb_sIk (by decide)).trans mb_sIs, mb_sIs, hc⟩, fun k hk => (mb_sIk (by omega)).trans (mb_sIk (by omega))⟩
  rw [e, mb_sIk (by decide), h20] at e2
  rw [e2]
theorem a_282 (hL : ab_lay M) (h : ak_I M 483 24 = 0) (hJ : Jm β n M) (hR : BR β n) (hT : Tm β n s M) : ∃ M', rn X 282 [.ref 483] M (.inl none, M') ∧ fr mT M M' ∧ Tm β n (nx β n s) M' := by
  obtain ⟨M1, r1, f1, t1⟩ := sm_275 (X := X) hL hJ hR (te_le hT.1.1) hT.2.1
  exact ⟨M1, t_282 hL ⟨_, M, hL, a_280 hL h, mb_n (by decide) ⟨M1, f1.1, r1, rfl⟩⟩, f1, t1⟩
theorem a_283 (hL : ab_lay M) (h : ak_I M 483 24 = 0) (hT : Tm β n s M) {c : Nat} (hc : c < 11) : rn X 283 [.ref 483, .int (nI (mwc c))] M (.inl (some (.int (bI (wq β n s c)))), M) := by
  have tf := tm_f β n s
  refine t_283 hL _ ⟨_, M, hL, a_280 hL h, mb_n (by decide) ?_⟩
  rw [hT.2.2.2.1]
  by_cases k1 : tkd β n s = 1
  · refine mb_y (tf.2.1.mpr k1) ?_
    rw [hT.2.2.2.2.1 k1]
    have eq : oI ((wo β n s).map mwc) = nI (mwc c) ↔ wq β n s c = true := by
      obtain ⟨c1, c2⟩ := wd_c c hc
      cases ew : wo β n s with
      | none =>
        refine ⟨fun e => absurd e.symm (mi_n1 (by omega)), fun hq => ?_⟩
        have := wo_t.mpr ⟨hc, hq⟩
        rw [ew] at this
        cases this
      | some d =>
        obtain ⟨d1, d2⟩ := wo_t.mp ew
        obtain ⟨d3, d4⟩ := wd_c d d1
        refine ⟨fun e => ?_, fun hq => by rw [wq_u d2 hq d1 hc]; rfl⟩
        have e : mwc d = mwc c := (mi_eq (by omega) (by omega)).mp e
        rw [← c1, ← e, d3]
        exact d2
    cases hw : wq β n s c
    · exact mb_n (fun e => by rw [eq.mp e] at hw; cases hw) rfl
    · exact mb_y (eq.mpr hw) rfl
  · refine mb_n (fun e => k1 (tf.2.1.mp e)) ?_
    unfold wq
    rw [decide_eq_false k1]
    rfl
theorem sm_284 (hL : ab_lay M) (h : ak_I M 483 24 = 0) (hJ : Jm β n M) (hR : BR β n) (hT : Tm β n s M) (lo hi : Int32) : mnr X β n 284 [.ref 483, .int lo, .int hi] M (nb β n s lo hi) := by
  have tf := tm_f β n s
  unfold nb
  by_cases c : isn β n s = true
  · rw [if_pos c]
    have e23 := hT.2.2.2.2.2 c
    generalize nI (vl β s (te β n s - s)) = v at *
    have t2 : ak_I M 483 21 = 2 := by rw [hT.2.2.2.1]; exact tf.2.2.1.mpr c
    have s57 : rn X 157 [.long (ak_I M 483 23).toInt64, .long lo.toInt64, .long hi.toInt64] M (.inl (some (.int (bI (in32 v lo hi)))), M) := by rw [e23]; exact jm_in32 rfl rfl
    have a1 := a_281 (X := X) hL h (b := 1) (by decide) 1
    by_cases ci : in32 v lo hi = true
    · rw [if_pos ci]
      rw [ci] at s57
      obtain ⟨M2, r2, f2, t⟩ := a_282 (X := X) hL h hJ hR hT
      exact ⟨M2, t_284 hL _ _ (mb_y t2 ⟨M, hL, a1, _, M, hL, a_280 hL h, mb_n (by decide) ⟨_, M, hL, s57, M, hL, a_281 hL h (by decide) 2, M2, f2.1, r2, by rw [e23]⟩⟩), f2, t⟩
    · rw [if_neg ci]
      rw [bf ci] at s57
      obtain ⟨M2, r2, f2, d2, -⟩ := b_281 (X := X) hL h hT.2.2.1 (c := 2) (by decide)
      exact ⟨M2, _, t_284 hL _ _ (mb_y t2 ⟨M, hL, a1, _, M, hL, a_280 hL h, mb_n (by decide) ⟨_, M, hL, s57, M2, f2.1, r2, M2, f2.1, d_282 f2.1 d2, rfl⟩⟩), f2, d2⟩
  · rw [if_neg c]
    obtain ⟨M2, r2, f2, d2, -⟩ := b_281 (X := X) hL h hT.2.2.1 (c := 1) (by decide)
    exact ⟨M2, _, t_284 hL _ _ (mb_n (by rw [hT.2.2.2.1]; exact fun e => c (tf.2.2.1.mp e)) ⟨M2, f2.1, r2, _, M2, f2.1, d_280 f2.1 d2, mb_y rfl ⟨M2, f2.1, d_282 f2.1 d2, rfl⟩⟩), f2, d2⟩
theorem mT_24 {N : ak_M} (f : fr mT M N) (h : ak_I M 483 24 = 0) : ak_I N 483 24 = 0 := by rw [f.2.1 483 24 fun e => by unfold mT at e; omega]; exact h
theorem sm_285 (hL : ab_lay M) (h : ak_I M 483 24 = 0) (hJ : Jm β n M) (hR : BR β n) (hT : Tm β n s M) : mnr X β n 285 [.ref 483] M (spd β n s) := by
  have tf := tm_f β n s
  unfold spd
  by_cases c : tkd β n s = 3
  · rw [if_pos c]
    obtain ⟨M1, r1, f1, t1⟩ := a_282 (X := X) hL h hJ hR hT
    have s84 := sm_284 (X := X) f1.1 (mT_24 f1 h) (mT_J hJ f1) hR t1 0 9
    have c4 : ak_I M 483 21 = 4 := by rw [hT.2.2.2.1]; exact tf.2.2.2.2.mpr c
    cases hq : nb β n (nx β n s) 0 9 with
    | inl e =>
      rw [hq] at s84
      obtain ⟨M2, v, r2, f2, d2⟩ := s84
      exact ⟨M2, _, t_285 hL ⟨_, M, hL, a_280 hL h, mb_n (by decide) (mb_y c4 ⟨M1, f1.1, r1, _, M2, f2.1, r2, rfl⟩)⟩, (f1.mo fun _ _ h => mT_F h).tr f2, d2⟩
    | inr q =>
      rw [hq] at s84
      obtain ⟨M2, r2, f2, t2⟩ := s84
      exact ⟨M2, t_285 hL ⟨_, M, hL, a_280 hL h, mb_n (by decide) (mb_y c4 ⟨M1, f1.1, r1, _, M2, f2.1, r2, rfl⟩)⟩, f1.tr f2, t2⟩
  · rw [if_neg c]
    have s84 := sm_284 (X := X) hL h hJ hR hT 0 9
    have c4 : ¬ ak_I M 483 21 = 4 := by rw [hT.2.2.2.1]; exact fun e => c (tf.2.2.2.2.mp e)
    cases hq : nb β n s 0 9 with
    | inl e =>
      rw [hq] at s84
      obtain ⟨M2, v, r2, f2, d2⟩ := s84
      exact ⟨M2, _, t_285 hL ⟨_, M, hL, a_280 hL h, mb_n (by decide) (mb_n c4 ⟨_, M2, f2.1, r2, rfl⟩)⟩, f2, d2⟩
    | inr q =>
      rw [hq] at s84
      obtain ⟨M2, r2, f2, t2⟩ := s84
      exact ⟨M2, t_285 hL ⟨_, M, hL, a_280 hL h, mb_n (by decide) (mb_n c4 ⟨_, M2, f2.1, r2, rfl⟩)⟩, f2, t2⟩
theorem sm_286 (hL : ab_lay M) (h : ak_I M 483 24 = 0) (hJ : Jm β n M) (hR : BR β n) (hT : Tm β n s M) {c : Nat} (hc : c < 11) (lo hi d : Int32) : mnr X β n 286 [.ref 483, .int (nI (mwc c)), .int lo, .int hi, .int d] M (opt β n s c lo hi d) := by
  have s83 := a_283 (X := X) hL h hT hc
  unfold opt
  by_cases w : wq β n s c = true
  · rw [if_pos w]
    rw [w] at s83
    obtain ⟨M1, r1, f1, t1⟩ := a_282 (X := X) hL h hJ hR hT
    have s84 := sm_284 (X := X) f1.1 (mT_24 f1 h) (mT_J hJ f1) hR t1 lo hi
    cases hq : nb β n (nx β n s) lo hi with
    | inl e =>
      rw [hq] at s84
      obtain ⟨M2, v, r2, f2, d2⟩ := s84
      exact ⟨M2, _, t_286 hL _ _ _ _ ⟨_, M, hL, s83, mb_n (by decide) ⟨M1, f1.1, r1, _, M2, f2.1, r2, rfl⟩⟩, (f1.mo fun _ _ h => mT_F h).tr f2, d2⟩
    | inr q =>
      rw [hq] at s84
      obtain ⟨M2, r2, f2, t2⟩ := s84
      exact ⟨M2, t_286 hL _ _ _ _ ⟨_, M, hL, s83, mb_n (by decide) ⟨M1, f1.1, r1, _, M2, f2.1, r2, rfl⟩⟩, f1.tr f2, t2⟩
  · rw [if_neg w]
    rw [bf w] at s83
    exact ⟨M, t_286 hL _ _ _ _ ⟨_, M, hL, s83, mb_y rfl rfl⟩, fr.rf hL, hT⟩
end SMN
