/-! what a tick keeps -/
def L1 (σ : Nat → Int32) (a : Nat) : Prop := kf σ a 0 = 1 ∨ kf σ a 0 = 3 ∨ kf σ a 0 = 4
/-- kites other than e that fly are as they were; nobody takes off; who landed stays so -/
def Rv (e : Nat) (σ τ : Nat → Int32) : Prop := ∀ a, a < 10 → (L1 σ a → L1 τ a) ∧ (kf τ a 0 = 0 → kf σ a 0 = 0) ∧ (a ≠ e → kf τ a 0 = 0 → ∀ w, 1 ≤ w → w ≤ 6 → kf τ a w = kf σ a w)
def R2 (σ τ : Nat → Int32) : Prop := ∀ a, a < 10 → (L1 σ a → L1 τ a) ∧ (kf τ a 0 = 0 → kf σ a 0 = 0)
def Gd (τ : Nat → Int32) (a : Nat) : Prop := kf τ a 3 ≠ 0 ∧ 0 ≤ mo_slack τ a
/-- points without those of cuts and finds -/
def dv (σ : Nat → Int32) (n : Nat) : Int32 := mo_sm σ 11 n - σ 10 - 2 * mo_ins σ 4 n
section STI
variable {σ τ u : Nat → Int32} {nk nw ne k b e n a : Nat} {v c : Int32}
theorem Rv.rf : Rv e σ σ := fun _ _ => ⟨id, id, fun _ _ _ _ _ => rfl⟩
theorem Rv.tr (f : Rv e σ τ) (g : Rv e τ u) : Rv e σ u := fun a ha => ⟨fun h => (g a ha).1 ((f a ha).1 h), fun h => (f a ha).2.1 ((g a ha).2.1 h), fun he h w h1 h2 => ((g a ha).2.2 he h w h1 h2).trans ((f a ha).2.2 he ((g a ha).2.1 h) w h1 h2)⟩
theorem Rv.r2 (f : Rv e σ τ) : R2 σ τ := fun a ha => ⟨(f a ha).1, (f a ha).2.1⟩
theorem R2.tr (f : R2 σ τ) (g : R2 τ u) : R2 σ u := fun a ha => ⟨fun h => (g a ha).1 ((f a ha).1 h), fun h => (f a ha).2 ((g a ha).2 h)⟩
theorem Rv_kf (h : ∀ a, a < 10 → ∀ w, w ≤ 6 → kf τ a w = kf σ a w) : Rv e σ τ := fun a ha => by
  have h0 := h a ha 0 (by omega)
  refine ⟨?_, by rw [h0]; exact id, fun _ _ w _ hw => h a ha w hw⟩
  unfold L1; rw [h0]; exact id
theorem Rv_hi {w : Nat} (hw : w < 15) (h7 : 7 ≤ w) : Rv e σ (lay σ k w v) := Rv_kf fun a _ w' hw' => kf_n hw (by omega) (by omega)
theorem Rv_up {i : Nat} (hi : i < 23) : Rv e σ (up σ i v) := Rv_kf fun a _ w' _ => up_kf2 hi
theorem Rv_hap {kd x o y z : Int32} : Rv e σ (mo_hap σ kd x o y z) := Rv_kf fun a ha w' hw' => hap_kf ha (by omega)
theorem Rv_at {w : Nat} (hw : w < 15) (h0 : w ≠ 0) : Rv k σ (lay σ k w v) := fun a ha => by
  have e0 : kf (lay σ k w v) a 0 = kf σ a 0 := kf_n hw (by decide) (by omega)
  refine ⟨?_, by rw [e0]; exact id, fun he _ w' _ h2 => kf_n hw (by omega) (by omega)⟩
  unfold L1; rw [e0]; exact id
theorem Rv_nf {w : Nat} (hw : w < 15) (h0 : w ≠ 0) (hf : kf σ k 0 ≠ 0) : Rv e σ (lay σ k w v) := fun a ha => by
  have e0 : kf (lay σ k w v) a 0 = kf σ a 0 := kf_n hw (by decide) (by omega)
  refine ⟨?_, by rw [e0]; exact id, fun he hh w' _ h2 => kf_n hw (by omega) (fun e => hf (by rw [← e.1, ← e0]; exact hh))⟩
  unfold L1; rw [e0]; exact id
theorem Rv_0 (hv : v ≠ 0) (hl : L1 σ k → v = 1 ∨ v = 3 ∨ v = 4) : Rv e σ (lay σ k 0 v) := fun a ha => by
  by_cases c : a = k
  · subst c
    have e0 : kf (lay σ a 0 v) a 0 = v := kf_s
    refine ⟨?_, fun h => absurd (e0 ▸ h) hv, fun _ h => absurd (e0 ▸ h) hv⟩
    unfold L1 at hl ⊢; rw [e0]; exact hl
  · have e0 : ∀ w, w < 15 → kf (lay σ k 0 v) a w = kf σ a w := fun w hw => kf_n (by decide) hw (fun e => c e.1)
    refine ⟨?_, by rw [e0 0 (by decide)]; exact id, fun _ _ w _ hw => e0 w (by omega)⟩
    unfold L1; rw [e0 0 (by decide)]; exact id
/-! sums -/
theorem sm_c {w : Nat} : ∀ n, (∀ a, a < n → kf τ a w = kf σ a w) → mo_sm τ w n = mo_sm σ w n
  | 0, _ => rfl
  | n + 1, h => by
    show mo_sm τ w n + kf τ n w = mo_sm σ w n + kf σ n w
    rw [sm_c n fun a ha => h a (by omega), h n (by omega)]
theorem in_c {s : Int32} : ∀ n, (∀ a, a < n → (kf τ a 0 = s ↔ kf σ a 0 = s)) → mo_ins τ s n = mo_ins σ s n
  | 0, _ => rfl
  | n + 1, h => by
    rw [mo_ins_s, mo_ins_s, in_c n fun a ha => h a (by omega)]
    by_cases c : kf σ n 0 = s
    · rw [if_pos c, if_pos ((h n (by omega)).mpr c)]
    · rw [if_neg c, if_neg (fun e => c ((h n (by omega)).mp e))]
theorem sm_a {w : Nat} (h1 : kf τ b w = kf σ b w + c) (h : ∀ a, a ≠ b → kf τ a w = kf σ a w) : ∀ n, b < n → mo_sm τ w n = mo_sm σ w n + c
  | 0, hb => absurd hb (Nat.not_lt_zero b)
  | n + 1, hb => by
    show mo_sm τ w n + kf τ n w = mo_sm σ w n + kf σ n w + c
    by_cases e : b = n
    · subst e
      rw [h1, sm_c b fun a ha => h a (by omega), Int32.add_assoc]
    · rw [sm_a h1 h n (by omega), h n (by omega)]
      grind
theorem in_a {s : Int32} {σ τ : Nat → Int32} (h1 : kf τ k 0 = s) (h2 : kf σ k 0 ≠ s) (h : ∀ a, a ≠ k → kf τ a 0 = kf σ a 0) : ∀ n, k < n → mo_ins τ s n = mo_ins σ s n + 1
  | 0, hb => absurd hb (Nat.not_lt_zero k)
  | n + 1, hb => by
    rw [mo_ins_s, mo_ins_s]
    by_cases e : k = n
    · subst e
      rw [if_pos h1, if_neg h2]
      exact congrArg (· + 1) (in_c k fun a ha => by rw [h a (by omega)])
    · rw [in_a h1 h2 h n (by omega), h n (by omega)]
      split <;> rfl
theorem dv_c (h1 : ∀ a, a < n → kf τ a 11 = kf σ a 11) (h0 : ∀ a, a < n → (kf τ a 0 = 4 ↔ kf σ a 0 = 4)) (h : τ 10 = σ 10) : dv τ n = dv σ n := by
  unfold dv
  rw [sm_c n h1, in_c n h0, h]
theorem dv_lay {w : Nat} (hw : w < 15) (h0 : w ≠ 0) (h1 : w ≠ 11) : dv (lay σ k w v) n = dv σ n := dv_c (fun a _ => kf_n hw (by decide) (by omega)) (fun a _ => by rw [kf_n hw (by decide) (by omega)]) (up_n (by omega))
theorem dv_hap {kd x o y z : Int32} (h10 : n ≤ 10) : dv (mo_hap σ kd x o y z) n = dv σ n := dv_c (fun a ha => hap_kf (by omega) (by decide)) (fun a ha => by rw [hap_kf (by omega) (by decide)]) (hap_lo (by decide) (by decide))
theorem dv_0 (h1 : v ≠ 4) (h2 : kf σ k 0 ≠ 4) : dv (lay σ k 0 v) n = dv σ n := dv_c (fun a _ => kf_n (by decide) (by decide) (by omega)) (fun a _ => by
    by_cases c : a = k
    · subst c; rw [kf_s]; exact ⟨fun e => absurd e h1, fun e => absurd e h2⟩
    · rw [kf_n (by decide) (by decide) (fun e => c e.1)]) (up_n (by omega))
/-! a flight -/
theorem Rv_blow : Rv k σ (mo_blow σ k) := (Rv_at (by decide) (by decide)).tr (Rv_at (by decide) (by decide))
theorem Rv_p1 : Rv k σ (mo_p1 σ k) := by
  unfold mo_p1
  split
  · exact Rv_at (by decide) (by decide)
  · split
    · exact Rv_at (by decide) (by decide)
    · exact Rv_at (by decide) (by decide)
theorem dv_p1 : dv (mo_p1 σ k) n = dv σ n := by
  unfold mo_p1
  split
  · exact dv_lay (by decide) (by decide) (by decide)
  · split
    · exact dv_lay (by decide) (by decide) (by decide)
    · exact dv_lay (by decide) (by decide) (by decide)
theorem p1_0 : kf (mo_p1 σ k) a 0 = kf σ a 0 := by
  unfold mo_p1
  split
  · exact kf_n (by decide) (by decide) (by omega)
  · split
    · exact kf_n (by decide) (by decide) (by omega)
    · exact kf_n (by decide) (by decide) (by omega)
theorem Rv_pl (k n a : Nat) : ∀ (m : Nat) {σ : Nat → Int32}, Rv k σ (mo_pl σ k m) ∧ dv (mo_pl σ k m) n = dv σ n ∧ kf (mo_pl σ k m) a 0 = kf σ a 0
  | 0, _ => ⟨Rv.rf, rfl, rfl⟩
  | m + 1, σ => by
    unfold mo_pl
    split
    · exact ⟨Rv.rf, rfl, rfl⟩
    · obtain ⟨h1, h2, h3⟩ := Rv_pl k n a m (σ := mo_p1 σ k)
      exact ⟨Rv_p1.tr h1, h2.trans dv_p1, h3.trans p1_0⟩
theorem pl_end : ∀ (m : Nat) {σ : Nat → Int32}, vs σ nk nw ne → k < nk → mo_mz σ k ≤ m → 0 ≤ mo_slack (mo_pl σ k m) k
  | 0, σ, hv, hk, hm => by
    show 0 ≤ mo_slack σ k
    refine Classical.byContradiction fun hs => ?_
    exact slack_n (hv.2.2.1 k hk) hs (by omega)
  | m + 1, σ, hv, hk, hm => by
    unfold mo_pl
    split
    · rename_i h; exact h
    · rename_i h
      have p := p1_lay hv hk h
      exact pl_end m p.1 hk (by omega)
theorem Rv_goes (hv : vs σ nk nw ne) (hk : k < nk) (hf : kf σ k 0 = 0) : Rv k σ (mo_goes σ k) ∧ dv (mo_goes σ k) nk = dv σ nk ∧ (kf (mo_goes σ k) k 0 = 0 → Gd (mo_goes σ k) k) := by
  have hk10 : k < 10 := Nat.lt_of_lt_of_le hk hv.1.1
  have v3 := g2_vs (blow_vs (g1_vs hv hk10) hk10) hk
  have v4 := pl_vs 1000 v3 hk
  have r1 : Rv k σ (mo_g1 σ k) := Rv_at (by decide) (by decide)
  have r2 : Rv k σ (mo_blow (mo_g1 σ k) k) := r1.tr Rv_blow
  have d2 : dv (mo_blow (mo_g1 σ k) k) nk = dv σ nk := ((dv_lay (by decide) (by decide) (by decide)).trans (dv_lay (by decide) (by decide) (by decide))).trans (dv_lay (by decide) (by decide) (by decide))
  have r3 : Rv k σ (mo_g2 (mo_blow (mo_g1 σ k) k) k) ∧ dv (mo_g2 (mo_blow (mo_g1 σ k) k) k) nk = dv σ nk := by
    unfold mo_g2
    split
    · exact ⟨r2.tr (Rv_at (by decide) (by decide)), (dv_lay (by decide) (by decide) (by decide)).trans d2⟩
    · exact ⟨r2.tr (Rv_at (by decide) (by decide)), (dv_lay (by decide) (by decide) (by decide)).trans d2⟩
  have s4 := pl_end 1000 v3 hk (by have := mz_le v3 hk; omega)
  obtain ⟨p1, p2, p3⟩ := Rv_pl k nk k 1000 (σ := mo_g2 (mo_blow (mo_g1 σ k) k) k)
  have z3 : kf (mo_g2 (mo_blow (mo_g1 σ k) k) k) k 0 = kf σ k 0 := by
    have z2 : kf (mo_blow (mo_g1 σ k) k) k 0 = kf σ k 0 := ((kf_n (by decide) (by decide) (by omega)).trans (kf_n (by decide) (by decide) (by omega))).trans (kf_n (by decide) (by decide) (by omega))
    unfold mo_g2
    split
    · exact (kf_n (by decide) (by decide) (by omega)).trans z2
    · exact (kf_n (by decide) (by decide) (by omega)).trans z2
  have z4 := (p3.trans z3).trans hf
  have r4 := r3.1.tr p1
  have d4 := p2.trans r3.2
  unfold mo_goes
  generalize mo_pl (mo_g2 (mo_blow (mo_g1 σ k) k) k) k 1000 = τ at *
  unfold mo_g3
  by_cases c : kf τ k 3 ≤ 0
  · rw [if_pos c]
    have h4 : kf τ k 0 ≠ 4 := by rw [z4]; decide
    have e0 : kf (mo_hapAt (lay τ k 0 1) 0 k (-1)) k 0 = 1 := (hap_kf hk10 (by decide)).trans kf_s
    refine ⟨(r4.tr (Rv_0 (by decide) (fun _ => Or.inl rfl))).tr Rv_hap, ((dv_hap hv.1.1).trans (dv_0 (by decide) h4)).trans d4, fun h => ?_⟩
    rw [e0] at h
    exact absurd h (by decide)
  · rw [if_neg c]
    exact ⟨r4, d4, fun _ => ⟨fun h => c (by rw [h]; exact Int32.le_refl _), s4⟩⟩
end STI
