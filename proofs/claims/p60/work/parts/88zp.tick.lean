/-! a tick, some ticks -/
def Nf (σ τ : Nat → Int32) : Prop := ∀ a, a < 10 → kf σ a 0 ≠ 0 → kf τ a 0 = kf σ a 0
section STJ
variable {σ τ u : Nat → Int32} {nk nw ne k b e n a i : Nat} {v c : Int32}
theorem Nf.tr (f : Nf σ τ) (g : Nf τ u) : Nf σ u := fun a ha h => (g a ha (by rw [f a ha h]; exact h)).trans (f a ha h)
theorem Nf_e (h : ∀ a, a < 10 → kf τ a 0 = kf σ a 0) : Nf σ τ := fun a ha _ => h a ha
theorem Nf_l {w : Nat} (hw : w < 15) (h0 : w ≠ 0) : Nf σ (lay σ k w v) := Nf_e fun a _ => kf_n hw (by decide) (by omega)
theorem Nf_0 (h : kf σ k 0 = 0) : Nf σ (lay σ k 0 v) := fun a ha hn => kf_n (by decide) (by decide) fun e => hn (by rw [e.1]; exact h)
theorem Nf_hap {kd x o y z : Int32} : Nf σ (mo_hap σ kd x o y z) := Nf_e fun a ha => hap_kf ha (by decide)
theorem Nf_up {i : Nat} (hi : i < 23) : Nf σ (up σ i v) := Nf_e fun a _ => up_kf2 hi
theorem g4_0 : kf (mo_pl (mo_g2 (mo_blow (mo_g1 σ k) k) k) k 1000) a 0 = kf σ a 0 := by
  refine (Rv_pl k 0 a 1000).2.2.trans ?_
  have z2 : kf (mo_blow (mo_g1 σ k) k) a 0 = kf σ a 0 := ((kf_n (by decide) (by decide) (by omega)).trans (kf_n (by decide) (by decide) (by omega))).trans (kf_n (by decide) (by decide) (by omega))
  unfold mo_g2
  split
  · exact (kf_n (by decide) (by decide) (by omega)).trans z2
  · exact (kf_n (by decide) (by decide) (by omega)).trans z2
theorem Nf_goes (hf : kf σ k 0 = 0) : Nf σ (mo_goes σ k) := by
  have h4 : Nf σ (mo_pl (mo_g2 (mo_blow (mo_g1 σ k) k) k) k 1000) := Nf_e fun a _ => g4_0
  have e4 := (g4_0 (σ := σ) (k := k) (a := k)).trans hf
  unfold mo_goes mo_g3
  split
  · exact (h4.tr (Nf_0 e4)).tr Nf_hap
  · exact h4
theorem Gd_tr (h : ∀ w, 1 ≤ w → w ≤ 6 → kf τ a w = kf σ a w) (g : Gd σ a) : Gd τ a := by
  unfold Gd mo_slack mo_span mo_wx mo_wy at *
  rw [h 1 (by decide) (by decide), h 2 (by decide) (by decide), h 3 (by decide) (by decide), h 4 (by decide) (by decide), h 5 (by decide) (by decide), h 6 (by decide) (by decide)]
  exact g
theorem t_fls (hv : vs σ nk nw ne) : ∀ i, i ≤ nk → R2 σ (mo_fls σ i) ∧ dv (mo_fls σ i) nk = dv σ nk ∧ Nf σ (mo_fls σ i) ∧ ∀ a, a < i → kf (mo_fls σ i) a 0 = 0 → Gd (mo_fls σ i) a
  | 0, _ => ⟨(Rv.rf (e := 0)).r2, rfl, fun _ _ _ => rfl, fun a ha => absurd ha (Nat.not_lt_zero a)⟩
  | i + 1, hi' => by
    obtain ⟨n', v'⟩ := fls_vs hv i (by omega)
    obtain ⟨h1, h2, h3, h4⟩ := t_fls hv i (by omega)
    have h10 := hv.1.1
    rw [mo_fls_s]
    by_cases c : mo_fly (mo_fls σ i) i = true
    · rw [if_pos c]
      have c0 : kf (mo_fls σ i) i 0 = 0 := of_decide_eq_true c
      obtain ⟨g1, g2, g3⟩ := Rv_goes v' (show i < nk by omega) c0
      refine ⟨h1.tr g1.r2, g2.trans h2, h3.tr (Nf_goes c0), fun a ha hf => ?_⟩
      by_cases e : a = i
      · subst e; exact g3 hf
      · exact Gd_tr (fun w w1 w2 => (g1 a (by omega)).2.2 e hf w w1 w2) (h4 a (by omega) ((g1 a (by omega)).2.1 hf))
    · rw [if_neg c]
      refine ⟨h1, h2, h3, fun a ha hf => ?_⟩
      by_cases e : a = i
      · subst e; exact absurd (decide_eq_true hf) c
      · exact h4 a (by omega) hf
theorem cutb_r (h10 : nk ≤ 10) (hk : k < 10) (hb : b < nk) (hf : kf τ k 0 = 0) {x y : Int32} : Rv 10 τ (mo_cutb τ k b x y) ∧ dv (mo_cutb τ k b x y) nk = dv τ nk ∧ Nf τ (mo_cutb τ k b x y) := by
  unfold mo_cutb
  have r1 : Rv 10 τ (lay (lay τ k 0 2) k 13 (nI b)) := (Rv_0 (by decide) (fun h => by unfold L1 at h; rw [hf] at h; revert h; decide)).tr (Rv_hi (by decide) (by decide))
  have d1 : dv (lay (lay τ k 0 2) k 13 (nI b)) nk = dv τ nk := (dv_lay (by decide) (by decide) (by decide)).trans (dv_0 (by decide) (by rw [hf]; decide))
  have n1 : Nf τ (lay (lay τ k 0 2) k 13 (nI b)) := (Nf_0 hf).tr (Nf_l (by decide) (by decide))
  generalize lay (lay τ k 0 2) k 13 (nI b) = A at *
  refine ⟨((r1.tr (Rv_hi (by decide) (by decide))).tr (Rv_up (by decide))).tr Rv_hap, (dv_hap h10).trans (Eq.trans ?_ d1), ((n1.tr (Nf_l (by decide) (by decide))).tr (Nf_up (by decide))).tr Nf_hap⟩
  unfold dv
  have e1 : mo_sm (up (lay A b 11 (kf A b 11 + 1)) 10 (lay A b 11 (kf A b 11 + 1) 10 + 1)) 11 nk = mo_sm A 11 nk + 1 := sm_a (b := b) ((up_kf2 (by decide)).trans kf_s) (fun a ha => (up_kf2 (by decide)).trans (kf_n (by decide) (by decide) (fun e => ha e.1))) nk hb
  have e2 : mo_ins (up (lay A b 11 (kf A b 11 + 1)) 10 (lay A b 11 (kf A b 11 + 1) 10 + 1)) 4 nk = mo_ins A 4 nk := in_c nk fun a _ => by rw [up_kf2 (by decide), kf_n (by decide) (by decide) (by omega)]
  have e3 : up (lay A b 11 (kf A b 11 + 1)) 10 (lay A b 11 (kf A b 11 + 1) 10 + 1) 10 = A 10 + 1 := by rw [up_s]; show up _ _ _ 10 + 1 = _; rw [up_n (by omega)]
  rw [e1, e2, e3]
  grind
theorem t_cuts (hv : vs σ nk nw ne) : ∀ i, i ≤ nk → Rv 10 σ (mo_cuts σ nk i) ∧ dv (mo_cuts σ nk i) nk = dv σ nk ∧ Nf σ (mo_cuts σ nk i)
  | 0, _ => ⟨Rv.rf, rfl, fun _ _ _ => rfl⟩
  | i + 1, hi' => by
    obtain ⟨h1, h2, h3⟩ := t_cuts hv i (by omega)
    have h10 := hv.1.1
    show Rv 10 σ (mo_cut1 σ (mo_cuts σ nk i) nk i) ∧ dv (mo_cut1 σ (mo_cuts σ nk i) nk i) nk = dv σ nk ∧ Nf σ (mo_cut1 σ (mo_cuts σ nk i) nk i)
    generalize mo_cuts σ nk i = τ at *
    unfold mo_cut1
    have k1 : Rv 10 σ (lay τ i 10 (kf τ i 10 + mo_wear σ i nk)) := h1.tr (Rv_hi (by decide) (by decide))
    have k2 : dv (lay τ i 10 (kf τ i 10 + mo_wear σ i nk)) nk = dv σ nk := (dv_lay (by decide) (by decide) (by decide)).trans h2
    have k3 : Nf σ (lay τ i 10 (kf τ i 10 + mo_wear σ i nk)) := h3.tr (Nf_l (by decide) (by decide))
    cases ht : mo_threat σ i nk with
    | none => exact ⟨k1, k2, k3⟩
    | some b =>
      dsimp only
      have hb := (mo_threat_lt _ _ _ _ ht).1
      generalize lay τ i 10 (kf τ i 10 + mo_wear σ i nk) = ψ at *
      by_cases c : mo_fly ψ i = true ∧ kf ψ i 9 ≤ kf ψ i 10
      · rw [if_pos c]
        obtain ⟨g1, g2, g3⟩ := cutb_r (x := mo_cX σ i b) (y := mo_cY σ i b) h10 (show i < 10 by omega) hb (of_decide_eq_true c.1)
        exact ⟨k1.tr g1, g2.trans k2, k3.tr g3⟩
      · rw [if_neg c]; exact ⟨k1, k2, k3⟩
theorem t_drs {d : Nat → Bool} (hv : vs σ nk nw ne) (hd : ∀ a, a < nk → d a = true → kf σ a 0 = 2) : ∀ i, i ≤ nk → Rv 10 σ (mo_drs d σ i) ∧ dv (mo_drs d σ i) nk = dv σ nk ∧ ∀ a, i ≤ a → a < 10 → kf (mo_drs d σ i) a 0 = kf σ a 0
  | 0, _ => ⟨Rv.rf, rfl, fun _ _ _ => rfl⟩
  | i + 1, hi' => by
    obtain ⟨h1, h2, h3⟩ := t_drs hv hd i (by omega)
    have h10 := hv.1.1
    show Rv 10 σ (mo_dr1 d (mo_drs d σ i) i) ∧ dv (mo_dr1 d (mo_drs d σ i) i) nk = dv σ nk ∧ ∀ a, i + 1 ≤ a → a < 10 → kf (mo_dr1 d (mo_drs d σ i) i) a 0 = kf σ a 0
    generalize mo_drs d σ i = τ at *
    unfold mo_dr1
    by_cases c : d i = true
    · rw [if_pos c]
      have e2 : kf τ i 0 = 2 := (h3 i (Nat.le_refl _) (by omega)).trans (hd i (by omega) c)
      have n1 : kf τ i 0 ≠ 0 := by rw [e2]; decide
      have e3 : kf (lay τ i 1 (mo_field (kf τ i 1 + wf τ (mo_wind τ (kf τ i 3) (nW τ)) 1))) i 0 = kf τ i 0 := kf_n (by decide) (by decide) (by omega)
      have e4 : kf (mo_blow τ i) i 0 = kf τ i 0 := (kf_n (by decide) (by decide) (by omega)).trans e3
      have e5 : ∀ a, kf (mo_sink (mo_blow τ i) i) a 0 = kf τ a 0 := fun a => ((kf_n (by decide) (by decide) (by omega)).trans (kf_n (by decide) (by decide) (by omega))).trans (kf_n (by decide) (by decide) (by omega))
      have r1 : Rv 10 σ (mo_sink (mo_blow τ i) i) := h1.tr (((Rv_nf (by decide) (by decide) n1).tr (Rv_nf (by decide) (by decide) (by rw [e3]; exact n1))).tr (Rv_nf (by decide) (by decide) (show kf (mo_blow τ i) i 0 ≠ 0 by rw [e4]; exact n1)))
      have d1 : dv (mo_sink (mo_blow τ i) i) nk = dv σ nk := (((dv_lay (by decide) (by decide) (by decide)).trans (dv_lay (by decide) (by decide) (by decide))).trans (dv_lay (by decide) (by decide) (by decide))).trans h2
      generalize mo_sink (mo_blow τ i) i = ψ at *
      by_cases c2 : kf ψ i 3 ≤ 0
      · rw [if_pos c2]
        refine ⟨(r1.tr (Rv_0 (by decide) (fun _ => Or.inr (Or.inl rfl)))).tr Rv_hap, ((dv_hap h10).trans (dv_0 (by decide) (by rw [e5, e2]; decide))).trans d1, fun a ha ha' => ?_⟩
        exact ((hap_kf ha' (by decide)).trans (kf_n (by decide) (by decide) (by omega))).trans ((e5 a).trans (h3 a (by omega) ha'))
      · rw [if_neg c2]
        exact ⟨r1, d1, fun a ha ha' => (e5 a).trans (h3 a (by omega) ha')⟩
    · rw [if_neg c]
      exact ⟨h1, h2, fun a ha ha' => h3 a (by omega) ha'⟩
theorem pkb_r (h10 : nk ≤ 10) (hk : k < nk) (hb : b < nk) (hf : kf σ k 0 = 3) : Rv 10 σ (mo_pkb σ k b) ∧ dv (mo_pkb σ k b) nk = dv σ nk := by
  unfold mo_pkb mo_hapAt
  have r1 : Rv 10 σ (lay (lay σ k 0 4) k 12 (nI b)) := (Rv_0 (by decide) (fun _ => Or.inr (Or.inr rfl))).tr (Rv_hi (by decide) (by decide))
  have s1 : mo_sm (lay (lay σ k 0 4) k 12 (nI b)) 11 nk = mo_sm σ 11 nk := sm_c nk fun a _ => (kf_n (by decide) (by decide) (by omega)).trans (kf_n (by decide) (by decide) (by omega))
  have i1 : mo_ins (lay (lay σ k 0 4) k 12 (nI b)) 4 nk = mo_ins σ 4 nk + 1 := in_a (k := k) ((kf_n (by decide) (by decide) (by omega)).trans kf_s) (by rw [hf]; decide) (fun a ha => (kf_n (by decide) (by decide) (by omega)).trans (kf_n (by decide) (by decide) (fun e => ha e.1))) nk hk
  have t1 : lay (lay σ k 0 4) k 12 (nI b) 10 = σ 10 := (up_n (by omega)).trans (up_n (by omega))
  generalize lay (lay σ k 0 4) k 12 (nI b) = A at *
  refine ⟨(r1.tr (Rv_hi (by decide) (by decide))).tr Rv_hap, (dv_hap h10).trans ?_⟩
  unfold dv
  have e1 : mo_sm (lay A b 11 (kf A b 11 + 2)) 11 nk = mo_sm A 11 nk + 2 := sm_a (b := b) kf_s (fun a ha => kf_n (by decide) (by decide) (fun e => ha e.1)) nk hb
  have e2 : mo_ins (lay A b 11 (kf A b 11 + 2)) 4 nk = mo_ins A 4 nk := in_c nk fun a _ => by rw [kf_n (by decide) (by decide) (by omega)]
  have e3 : lay A b 11 (kf A b 11 + 2) 10 = A 10 := up_n (by omega)
  rw [e1, e2, e3, s1, i1, t1]
  grind
theorem t_pks (hv : vs σ nk nw ne) : ∀ i, i ≤ nk → Rv 10 σ (mo_pks σ nk i) ∧ dv (mo_pks σ nk i) nk = dv σ nk
  | 0, _ => ⟨Rv.rf, rfl⟩
  | i + 1, hi' => by
    obtain ⟨h1, h2⟩ := t_pks hv i (by omega)
    show Rv 10 σ (mo_pk1 (mo_pks σ nk i) nk i) ∧ dv (mo_pk1 (mo_pks σ nk i) nk i) nk = dv σ nk
    generalize mo_pks σ nk i = τ at *
    unfold mo_pk1
    by_cases c : kf τ i 0 = 3
    · rw [if_pos c]
      cases hp : (mo_pkr τ (kf τ i 1) (kf τ i 2) (nI i) nk).1 with
      | none => exact ⟨h1, h2⟩
      | some b =>
        obtain ⟨g1, g2⟩ := pkb_r hv.1.1 (show i < nk by omega) (mo_pkr_lt _ _ _ _ _ _ hp).1 c
        exact ⟨h1.tr g1, g2.trans h2⟩
    · rw [if_neg c]; exact ⟨h1, h2⟩
theorem t_tick (hv : vs σ nk nw ne) : R2 σ (mo_tick σ nk) ∧ dv (mo_tick σ nk) nk = dv σ nk ∧ ∀ a, a < nk → kf (mo_tick σ nk) a 0 = 0 → Gd (mo_tick σ nk) a := by
  have h10 := hv.1.1
  obtain ⟨n1, v1⟩ := fls_vs hv nk (Nat.le_refl _)
  obtain ⟨n2, v2⟩ := cuts_vs v1 nk (Nat.le_refl _)
  obtain ⟨n3, v3⟩ := drs_vs (d := fun j => decide (kf σ j 0 = 2)) v2 nk (Nat.le_refl _)
  obtain ⟨a1, a2, a3, a4⟩ := t_fls hv nk (Nat.le_refl _)
  obtain ⟨b1, b2, b3⟩ := t_cuts v1 nk (Nat.le_refl _)
  obtain ⟨c1, c2, -⟩ := t_drs (d := fun j => decide (kf σ j 0 = 2)) v2 (fun a ha h => by
    have h2 : kf σ a 0 = 2 := of_decide_eq_true h
    exact ((a3.tr b3) a (by omega) (by rw [h2]; decide)).trans h2) nk (Nat.le_refl _)
  obtain ⟨d1, d2⟩ := t_pks v3 nk (Nat.le_refl _)
  have r : Rv 10 (mo_fls σ nk) (mo_tick σ nk) := ((b1.tr c1).tr d1).tr (Rv_up (by decide))
  refine ⟨a1.tr r.r2, ?_, fun a ha hf => ?_⟩
  · refine Eq.trans ?_ (d2.trans (c2.trans (b2.trans a2)))
    exact dv_c (fun a _ => up_kf2 (by decide)) (fun a _ => by rw [show kf (mo_tick σ nk) a 0 = _ from up_kf2 (by decide)]) (up_n (by decide))
  · exact Gd_tr (fun w w1 w2 => (r a (by omega)).2.2 (by omega) hf w w1 w2) (a4 a ha ((r a (by omega)).2.1 hf))
theorem tick_t (hv : vs σ nk nw ne) (h : (σ 0).toInt < 5000) : (mo_tick σ nk 0).toInt = (σ 0).toInt + 1 ∧ σ 0 < 5000 := by
  have h0 := in32_t.mp hv.2.1
  have h1 : (1 : Int32).toInt = 1 := rfl
  have hz : (0 : Int32).toInt = 0 := rfl
  rw [tick_0 nk hv.1.1]
  exact ⟨by rw [j3_add (by omega) (by omega)]; omega, Int32.lt_iff_toInt_lt.mpr h⟩
theorem t_ts : ∀ (t : Nat) {σ : Nat → Int32} {ne : Nat}, vs σ nk nw ne → (σ 0).toInt + t < 5000 → R2 σ (mo_ts σ nk t) ∧ dv (mo_ts σ nk t) nk = dv σ nk ∧ (mo_ts σ nk t 0).toInt = (σ 0).toInt + t ∧ (1 ≤ t → ∀ a, a < nk → kf (mo_ts σ nk t) a 0 = 0 → Gd (mo_ts σ nk t) a)
  | 0, σ, _, _, _ => ⟨(Rv.rf (e := 0)).r2, rfl, by show (σ 0).toInt = _; omega, fun h => absurd h (by decide)⟩
  | t + 1, σ, ne, hv, ht => by
    have hT := tick_t hv (by omega)
    obtain ⟨n', v'⟩ := tick_vs hv hT.2
    obtain ⟨a1, a2, a3⟩ := t_tick hv
    obtain ⟨b1, b2, b3, b4⟩ := t_ts t v' (by rw [hT.1]; omega)
    have e : mo_ts σ nk (t + 1) = mo_ts (mo_tick σ nk) nk t := (ts_1 σ nk t).trans (if_pos hT.2)
    rw [e]
    refine ⟨a1.tr b1, b2.trans a2, by rw [b3, hT.1]; omega, fun _ => ?_⟩
    cases t with
    | zero => exact a3
    | succ t => exact b4 (by omega)
/-- landed or not -/
theorem is1 (hv : vs σ nk nw ne) (ha : a < nk) : mo_is 1 a a σ = true ↔ L1 σ a := by
  unfold mo_is L1
  rw [if_neg (by decide), if_pos rfl]
  unfold mo_fly
  rcases in_04 (vs_s04 hv ha) with h | h | h | h | h <;> rw [h] <;> decide
theorem fst_L (ha : a < nk) (h10 : nk ≤ 10) : ∀ (t i : Nat) {σ : Nat → Int32} {ne : Nat}, vs σ nk nw ne → (σ 0).toInt + t < 5000 → i + t < 1000 → (mo_fst (mo_is 1 a a) nk (t + 1) i σ = -1 ↔ ¬ L1 (mo_ts σ nk t) a)
  | 0, i, σ, ne, hv, ht, hi => by
    show (if mo_is 1 a a σ = true then nI i else if σ 0 < 5000 then (-1 : Int32) else -1) = -1 ↔ ¬ L1 σ a
    rw [← is1 hv ha]
    by_cases c : mo_is 1 a a σ = true
    · rw [if_pos c]
      refine ⟨fun e => ?_, fun e => absurd c e⟩
      have : (nI i).toInt = -1 := by rw [e]; rfl
      rw [mi_t (by omega)] at this
      omega
    · rw [if_neg c]
      refine ⟨fun _ => c, fun _ => ?_⟩
      split <;> rfl
  | t + 1, i, σ, ne, hv, ht, hi => by
    have hT := tick_t hv (by omega)
    obtain ⟨n', v'⟩ := tick_vs hv hT.2
    have e : mo_ts σ nk (t + 1) = mo_ts (mo_tick σ nk) nk t := (ts_1 σ nk t).trans (if_pos hT.2)
    show (if mo_is 1 a a σ = true then nI i else if σ 0 < 5000 then mo_fst (mo_is 1 a a) nk (t + 1) (i + 1) (mo_tick σ nk) else -1) = -1 ↔ _
    by_cases c : mo_is 1 a a σ = true
    · rw [if_pos c]
      have hL := (t_ts (t + 1) hv ht).1 a (by omega)
      refine ⟨fun e => ?_, fun e => absurd (hL.1 ((is1 hv ha).mp c)) e⟩
      have : (nI i).toInt = -1 := by rw [e]; rfl
      rw [mi_t (by omega)] at this
      omega
    · rw [if_neg c, if_pos hT.2, e]
      exact fst_L ha h10 t (i + 1) v' (by rw [hT.1]; omega) (by omega)
end STJ
