/-! rows that change, and what a row must keep -/
def up (σ : Nat → Int32) (i : Nat) (v : Int32) : Nat → Int32 := fun j => if 484 = 484 ∧ j = i then v else σ j
theorem up_e {σ : Nat → Int32} {i j : Nat} {v : Int32} : up σ i v j = if j = i then v else σ j := by
  unfold up
  by_cases h : j = i
  · rw [if_pos ⟨rfl, h⟩, if_pos h]
  · rw [if_neg (fun e => h e.2), if_neg h]
theorem up_s {σ : Nat → Int32} {i : Nat} {v : Int32} : up σ i v i = v := if_pos ⟨rfl, rfl⟩
theorem up_n {σ : Nat → Int32} {i j : Nat} {v : Int32} (h : j ≠ i) : up σ i v j = σ j := if_neg fun e => h e.2
theorem ro_up {M : ak_M} {i : Nat} {v : Int32} : ro (ak_sI M 484 i v) = up (ro M) i v := rfl
def lay (σ : Nat → Int32) (k w : Nat) (v : Int32) : Nat → Int32 := up σ (23 + 15 * k + w) v
section SGO
variable {σ : Nat → Int32} {k k' w w' i nk nw ne : Nat} {v : Int32}
theorem kf_lay (hw : w < 15) (hw' : w' < 15) : kf (lay σ k w v) k' w' = if k' = k ∧ w' = w then v else kf σ k' w' := by
  unfold kf lay
  rw [up_e]
  by_cases h : k' = k ∧ w' = w
  · rw [if_pos h, if_pos (by omega)]
  · rw [if_neg h, if_neg (by omega)]
theorem kf_s : kf (lay σ k w v) k w = v := up_s
theorem kf_n (hw : w < 15) (hw' : w' < 15) (h : ¬ (k' = k ∧ w' = w)) : kf (lay σ k w v) k' w' = kf σ k' w' := by rw [kf_lay hw hw', if_neg h]
theorem lay_lo (h : i < 23) : lay σ k w v i = σ i := up_n (by omega)
theorem lay_hi (hk : k < 10) (hw : w < 15) (h : 173 ≤ i) : lay σ k w v i = σ i := up_n (by omega)
theorem wf_lay (hi : i < 4) (hw' : w' < 3) : wf (lay σ k w v) i w' = wf σ i w' := lay_lo (by omega)
theorem ef_lay (hk : k < 10) (hw : w < 15) {j : Nat} : ef (lay σ k w v) j w' = ef σ j w' := lay_hi hk hw (by omega)
/-- the range of a kite's number -/
def rg (w : Nat) (v : Int32) : Bool := if w = 0 then in32 v 0 4 else if w = 1 ∨ w = 2 ∨ w = 4 ∨ w = 5 then in32 v 0 199 else if w = 3 then in32 v 0 300 else if w = 6 then in32 v 1 400 else if w = 7 then in32 v (-9) 9 else if w = 8 then in32 v 0 9 else if w = 9 then in32 v 1 99 else true
def kv (σ : Nat → Int32) (k : Nat) : Prop := ∀ w, w < 14 → rg w (kf σ k w) = true
def wv (σ : Nat → Int32) (i : Nat) : Prop := in32 (wf σ i 1) (-9) 9 = true ∧ in32 (wf σ i 2) (-9) 9 = true
def sv (σ : Nat → Int32) : Prop := in32 (σ 3) 0 99 = true ∧ in32 (σ 4) 0 9 = true ∧ in32 (σ 5) 0 9 = true ∧ in32 (σ 6) 1 20 = true ∧ in32 (σ 7) 0 50 = true ∧ in32 (σ 8) 0 50 = true
def ev (σ : Nat → Int32) (j : Nat) : Prop := in32 (ef σ j 0) 0 5000 = true ∧ in32 (ef σ j 1) 0 4 = true ∧ in32 (ef σ j 2) 0 9 = true ∧ in32 (ef σ j 3) (-1) 9 = true
def vs (σ : Nat → Int32) (nk nw ne : Nat) : Prop := ct σ nk nw ne ∧ in32 (σ 0) 0 5000 = true ∧ (∀ k, k < nk → kv σ k) ∧ (∀ i, i < nw → wv σ i) ∧ sv σ ∧ ∀ j, j < ne → ev σ j
theorem kv.kp (h : kv σ k) : kp σ k := ⟨h 1 (by decide), h 2 (by decide), h 3 (by decide), h 4 (by decide), h 5 (by decide)⟩
theorem vs.kp (h : vs σ nk nw ne) (hk : k < nk) : kp σ k := (h.2.2.1 k hk).kp
theorem ct_lay (h : ct σ nk nw ne) : ct (lay σ k w v) nk nw ne := by
  obtain ⟨a, b, c, d, e, f⟩ := h
  exact ⟨a, b, c, by rw [lay_lo (by decide)]; exact d, by rw [lay_lo (by decide)]; exact e, by rw [lay_lo (by decide)]; exact f⟩
theorem vs_lay (h : vs σ nk nw ne) (hk : k < 10) (hw : w < 15) (hr : w < 14 → rg w v = true) : vs (lay σ k w v) nk nw ne := by
  obtain ⟨h1, h2, h3, h4, h5, h6⟩ := h
  refine ⟨ct_lay h1, by rw [lay_lo (by decide)]; exact h2, fun k' hk' w' hw' => ?_, fun i hi => ?_, ?_, fun j hj => ?_⟩
  · rw [kf_lay hw (by omega)]
    split
    · rename_i e; rw [e.2]; exact hr (by omega)
    · exact h3 k' hk' w' hw'
  · have hi4 : i < 4 := by have := h1.2.1.2; omega
    unfold wv
    rw [wf_lay hi4 (by decide), wf_lay hi4 (by decide)]
    exact h4 i hi
  · unfold sv
    rw [lay_lo (by decide), lay_lo (by decide), lay_lo (by decide), lay_lo (by decide), lay_lo (by decide), lay_lo (by decide)]
    exact h5
  · unfold ev
    rw [ef_lay hk hw, ef_lay hk hw, ef_lay hk hw, ef_lay hk hw]
    exact h6 j hj
end SGO
def nK (σ : Nat → Int32) : Nat := (σ 1).toNatClampNeg
def nW (σ : Nat → Int32) : Nat := (σ 2).toNatClampNeg
def nE (σ : Nat → Int32) : Nat := (σ 9).toNatClampNeg
theorem ct_nK {σ : Nat → Int32} {nk nw ne : Nat} (h : ct σ nk nw ne) : nK σ = nk := by unfold nK; rw [h.2.2.2.1, mi_c (by have := h.1; omega)]
theorem ct_nW {σ : Nat → Int32} {nk nw ne : Nat} (h : ct σ nk nw ne) : nW σ = nw := by unfold nW; rw [h.2.2.2.2.1, mi_c (by have := h.2.1; omega)]
theorem ct_nE {σ : Nat → Int32} {nk nw ne : Nat} (h : ct σ nk nw ne) : nE σ = ne := by unfold nE; rw [h.2.2.2.2.2, mi_c (by have := h.2.2.1; omega)]
/-! what happens is kept -/
def sh (σ : Nat → Int32) : Nat → Int32 := fun j => if 173 ≤ j ∧ j < 239 then σ (j + 6) else σ j
def mo_h0 (σ : Nat → Int32) : Nat → Int32 := if nE σ = 12 then up (sh σ) 9 (sh σ 9 - 1) else σ
def mo_w6 (τ : Nat → Int32) (n : Nat) (kd k o x y : Int32) : Nat → Int32 := up (up (up (up (up (up τ (173 + 6 * n) (τ 0)) (173 + 6 * n + 1) kd) (173 + 6 * n + 2) k) (173 + 6 * n + 3) o) (173 + 6 * n + 4) x) (173 + 6 * n + 5) y
def mo_h1 (τ : Nat → Int32) (kd k o x y : Int32) : Nat → Int32 := up (mo_w6 τ (nE τ) kd k o x y) 9 (mo_w6 τ (nE τ) kd k o x y 9 + 1)
def mo_hap (σ : Nat → Int32) (kd k o x y : Int32) : Nat → Int32 := mo_h1 (mo_h0 σ) kd k o x y
def mo_hapAt (σ : Nat → Int32) (kd : Int32) (k : Nat) (o : Int32) : Nat → Int32 := mo_hap σ kd (nI k) o (kf σ k 1) (kf σ k 2)
section SGE
variable {σ τ : Nat → Int32} {nk nw ne : Nat} {kd k o x y : Int32}
theorem w6_lo {n i : Nat} (h : i < 173) : mo_w6 τ n kd k o x y i = τ i := by
  unfold mo_w6
  rw [up_n (by omega), up_n (by omega), up_n (by omega), up_n (by omega), up_n (by omega), up_n (by omega)]
theorem w6_ef {n j w : Nat} (hw : w < 6) : ef (mo_w6 τ n kd k o x y) j w = if j = n then (if w = 0 then τ 0 else if w = 1 then kd else if w = 2 then k else if w = 3 then o else if w = 4 then x else y) else ef τ j w := by
  unfold mo_w6 ef
  simp only [up_e]
  by_cases hj : j = n
  · subst hj
    rw [if_pos rfl]
    rcases (show w = 0 ∨ w = 1 ∨ w = 2 ∨ w = 3 ∨ w = 4 ∨ w = 5 by omega) with rfl | rfl | rfl | rfl | rfl | rfl
    all_goals simp
  · rw [if_neg hj, if_neg (by omega), if_neg (by omega), if_neg (by omega), if_neg (by omega), if_neg (by omega), if_neg (by omega)]
theorem h1_lo {i : Nat} (h : i < 173) (h9 : i ≠ 9) : mo_h1 τ kd k o x y i = τ i := by
  unfold mo_h1; rw [up_n h9, w6_lo h]
theorem h1_9 : mo_h1 τ kd k o x y 9 = τ 9 + 1 := by unfold mo_h1; rw [up_s, w6_lo (by decide)]
theorem h1_ef {j w : Nat} (hw : w < 6) : ef (mo_h1 τ kd k o x y) j w = if j = nE τ then (if w = 0 then τ 0 else if w = 1 then kd else if w = 2 then k else if w = 3 then o else if w = 4 then x else y) else ef τ j w := by
  unfold mo_h1
  rw [← w6_ef hw]
  exact up_n (by omega)
theorem sh_lo {i : Nat} (h : i < 173) : sh σ i = σ i := if_neg (by omega)
theorem sh_ef {j w : Nat} (hw : w < 6) (hj : j < 11) : ef (sh σ) j w = ef σ (j + 1) w := by
  unfold ef sh
  rw [if_pos (by omega)]
  congr 1; omega
theorem h0_lo {i : Nat} (h : i < 173) (h9 : i ≠ 9) : mo_h0 σ i = σ i := by
  unfold mo_h0
  split
  · rw [up_n h9, sh_lo h]
  · rfl
/-- how many there are behind room was made -/
def me (ne : Nat) : Nat := if ne = 12 then 11 else ne
theorem h0_ct (h : ct σ nk nw ne) : ct (mo_h0 σ) nk nw (me ne) := by
  have e := ct_nE h
  obtain ⟨a, b, c, d1, d2, d3⟩ := h
  refine ⟨a, b, ?_, by rw [h0_lo (by decide) (by decide)]; exact d1, by rw [h0_lo (by decide) (by decide)]; exact d2, ?_⟩
  · unfold me; split <;> omega
  · unfold mo_h0 me
    rw [e]
    by_cases h : ne = 12
    · rw [if_pos h, if_pos h, up_s, sh_lo (by decide), d3, h]; rfl
    · rw [if_neg h, if_neg h]; exact d3
theorem h0_ef (h : ct σ nk nw ne) {j w : Nat} (hw : w < 6) (hj : j < me ne) : ef (mo_h0 σ) j w = ef σ (if ne = 12 then j + 1 else j) w := by
  have e := ct_nE h
  unfold mo_h0
  unfold me at hj
  rw [e]
  by_cases h : ne = 12
  · rw [if_pos h] at hj
    rw [if_pos h, if_pos h, ← sh_ef hw hj]
    exact up_n (by omega)
  · rw [if_neg h, if_neg h]
theorem hap_lo {i : Nat} (h : i < 173) (h9 : i ≠ 9) : mo_hap σ kd k o x y i = σ i := by
  unfold mo_hap; rw [h1_lo h h9, h0_lo h h9]
theorem hap_ct (h : ct σ nk nw ne) : ct (mo_hap σ kd k o x y) nk nw (me ne + 1) := by
  obtain ⟨a, b, c, d1, d2, d3⟩ := h0_ct h
  have h12 := h.2.2.1
  refine ⟨a, b, by unfold me; split <;> omega, ?_, ?_, ?_⟩
  · unfold mo_hap; rw [h1_lo (by decide) (by decide)]; exact d1
  · unfold mo_hap; rw [h1_lo (by decide) (by decide)]; exact d2
  · unfold mo_hap; rw [h1_9, d3]; exact mi_s _
theorem hap_ef (h : ct σ nk nw ne) {j w : Nat} (hw : w < 6) (hj : j < me ne + 1) : ef (mo_hap σ kd k o x y) j w = if j = me ne then (if w = 0 then σ 0 else if w = 1 then kd else if w = 2 then k else if w = 3 then o else if w = 4 then x else y) else ef σ (if ne = 12 then j + 1 else j) w := by
  unfold mo_hap
  rw [h1_ef hw, ct_nE (h0_ct h), h0_lo (by decide) (by decide)]
  by_cases hj : j = me ne
  · rw [if_pos hj, if_pos hj]
  · rw [if_neg hj, if_neg hj, h0_ef h hw (by omega)]
theorem hap_kf {q w : Nat} (hq : q < 10) (hw : w < 15) : kf (mo_hap σ kd k o x y) q w = kf σ q w := hap_lo (by omega) (by omega)
theorem hap_wf {q w : Nat} (hq : q < 4) (hw : w < 3) : wf (mo_hap σ kd k o x y) q w = wf σ q w := hap_lo (by omega) (by omega)
theorem hap_vs (h : vs σ nk nw ne) (h1 : in32 kd 0 4 = true) (h2 : in32 k 0 9 = true) (h3 : in32 o (-1) 9 = true) : vs (mo_hap σ kd k o x y) nk nw (me ne + 1) := by
  obtain ⟨a, b, c, d, e, f⟩ := h
  refine ⟨hap_ct a, by rw [hap_lo (by decide) (by decide)]; exact b, fun q hq w hw => ?_, fun i hi => ?_, ?_, fun j hj => ?_⟩
  · rw [hap_kf (by have := a.1; omega) (by omega)]; exact c q hq w hw
  · have hi4 : i < 4 := by have := a.2.1.2; omega
    unfold wv
    rw [hap_wf hi4 (by decide), hap_wf hi4 (by decide)]
    exact d i hi
  · unfold sv
    rw [hap_lo (by decide) (by decide), hap_lo (by decide) (by decide), hap_lo (by decide) (by decide), hap_lo (by decide) (by decide), hap_lo (by decide) (by decide), hap_lo (by decide) (by decide)]
    exact e
  · unfold ev
    rw [hap_ef a (by decide) hj, hap_ef a (by decide) hj, hap_ef a (by decide) hj, hap_ef a (by decide) hj]
    by_cases hm : j = me ne
    · rw [if_pos hm, if_pos hm, if_pos hm, if_pos hm]; exact ⟨b, h1, h2, h3⟩
    · rw [if_neg hm, if_neg hm, if_neg hm, if_neg hm]
      refine f _ ?_
      have := a.2.2.1
      unfold me at hj hm
      split <;> split at hj <;> split at hm <;> omega
end SGE
/-- what a tick of the model may write -/
def mo_tk (p k : Nat) : Prop := p = 484 ∨ mo_pq p k
theorem pq_tk {p k : Nat} (h : mo_pq p k) : mo_tk p k := Or.inr h
theorem fr.tk {M M' : ak_M} (h : fr mo_pq M M') : fr mo_tk M M' := h.mo fun _ _ => pq_tk
/-- a run of the model that changes the row -/
def mr (M : ak_M) (σ : Nat → Int32) (M' : ak_M) : Prop := fr mo_tk M M' ∧ ro M' = σ
theorem mr.st {M M1 M2 : ak_M} {σ : Nat → Int32} {i : Nat} {v : Int32} (h : mr M σ M1) (e : M2 = ak_sI M1 484 i v) : mr M (up σ i v) M2 := by
  rw [e]
  refine ⟨h.1.st (Or.inl rfl), ?_⟩
  rw [ro_up, h.2]
section SGP
variable {X : ak_X} {M : ak_M} {nk nw ne : Nat}
theorem sm_h1 {σ τ : Nat → Int32} {M1 : ak_M} (hm : mr M τ M1) (hc : ct τ nk nw ne) (hne : ne < 12) {x1 x2 x3 x4 x5 : Int32} :
    ∃ M', (∀ r, r = ((.inl none : ak_O), M') → (∃ i2 : Nat, ab_ix 9 i2 245 ∧ (∀ z3 : Int32, z3 = 173 + (6 * (ak_I M1 484 i2)) → (∃ i4 : Nat, ab_ix 0 i4 245 ∧ (∃ i5 : Nat, ab_ix z3 i5 245 ∧ (∀ M6 : ak_M, M6 = ak_sI M1 484 i5 (ak_I M1 484 i4) → (∃ i7 : Nat, ab_ix (z3 + 1) i7 245 ∧ (∀ M8 : ak_M, M8 = ak_sI M6 484 i7 x1 → (∃ i9 : Nat, ab_ix (z3 + 2) i9 245 ∧ (∀ M10 : ak_M, M10 = ak_sI M8 484 i9 x2 → (∃ i11 : Nat, ab_ix (z3 + 3) i11 245 ∧ (∀ M12 : ak_M, M12 = ak_sI M10 484 i11 x3 → (∃ i13 : Nat, ab_ix (z3 + 4) i13 245 ∧ (∀ M14 : ak_M, M14 = ak_sI M12 484 i13 x4 → (∃ i15 : Nat, ab_ix (z3 + 5) i15 245 ∧ (∀ M16 : ak_M, M16 = ak_sI M14 484 i15 x5 → (∃ i17 : Nat, ab_ix 9 i17 245 ∧ (∃ i18 : Nat, ab_ix 9 i18 245 ∧ (∀ M19 : ak_M, M19 = ak_sI M16 484 i18 ((ak_I M16 484 i17) + 1) → r = (.inl none, M19)))))))))))))))))))) ∧ mr M (mo_h1 τ x1 x2 x3 x4 x5) M' := by
  have e9 : ak_I M1 484 9 = nI ne := by show ro M1 9 = _; rw [hm.2]; exact hc.2.2.2.2.2
  have eE := ct_nE hc
  generalize g6 : ak_sI M1 484 (173 + 6 * ne) (ak_I M1 484 0) = N6
  have k6 := hm.st g6.symm
  generalize g8 : ak_sI N6 484 (173 + 6 * ne + 1) x1 = N8
  have k8 := k6.st g8.symm
  generalize g10 : ak_sI N8 484 (173 + 6 * ne + 2) x2 = N10
  have k10 := k8.st g10.symm
  generalize g12 : ak_sI N10 484 (173 + 6 * ne + 3) x3 = N12
  have k12 := k10.st g12.symm
  generalize g14 : ak_sI N12 484 (173 + 6 * ne + 4) x4 = N14
  have k14 := k12.st g14.symm
  generalize g16 : ak_sI N14 484 (173 + 6 * ne + 5) x5 = N16
  have k16 := k14.st g16.symm
  generalize g19 : ak_sI N16 484 9 ((ak_I N16 484 9) + 1) = N19
  have k19 := k16.st g19.symm
  have e0 : ak_I M1 484 0 = τ 0 := congrFun hm.2 0
  have e16 : ak_I N16 484 9 = mo_w6 τ ne x1 x2 x3 x4 x5 9 := by
    have := congrFun k16.2 9
    rw [e0] at this
    exact this
  refine ⟨N19, fun r hr => ⟨9, ⟨rfl, rfl⟩, fun z ez => ?_⟩, ?_⟩
  · have ez' : z = nI (173 + 6 * ne) := by
      rw [ez, e9, show (173 : Int32) = nI 173 from rfl, show (6 : Int32) = nI 6 from rfl, mi_mul, mi_add]
    refine ⟨0, ⟨rfl, rfl⟩, _, mb_ixe ez' (by omega) (by decide), fun N h => ?_⟩
    obtain rfl := h.trans g6
    refine ⟨_, mb_ixe (by rw [ez']; exact mi_add _ 1) (by omega) (by decide), fun N h => ?_⟩
    obtain rfl := h.trans g8
    refine ⟨_, mb_ixe (by rw [ez']; exact mi_add _ 2) (by omega) (by decide), fun N h => ?_⟩
    obtain rfl := h.trans g10
    refine ⟨_, mb_ixe (by rw [ez']; exact mi_add _ 3) (by omega) (by decide), fun N h => ?_⟩
    obtain rfl := h.trans g12
    refine ⟨_, mb_ixe (by rw [ez']; exact mi_add _ 4) (by omega) (by decide), fun N h => ?_⟩
    obtain rfl := h.trans g14
    refine ⟨_, mb_ixe (by rw [ez']; exact mi_add _ 5) (by omega) (by decide), fun N h => ?_⟩
    obtain rfl := h.trans g16
    refine ⟨9, ⟨rfl, rfl⟩, 9, ⟨rfl, rfl⟩, fun N h => ?_⟩
    obtain rfl := h.trans g19
    exact hr
  · rw [e16, e0] at k19
    unfold mo_h1
    rw [eE]
    exact k19
end SGP
