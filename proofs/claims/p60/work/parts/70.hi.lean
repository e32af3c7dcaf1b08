/-! what lies above the 245 numbers stays -/
def hi (σ τ : Nat → Int32) : Prop := ∀ i, 245 ≤ i → τ i = σ i
section SHI
variable {nk nw ne : Nat} {σ τ u : Nat → Int32} {k b : Nat}
theorem hi.rf : hi σ σ := fun _ _ => rfl
theorem hi.tr (a : hi σ τ) (b : hi τ u) : hi σ u := fun i h => (b i h).trans (a i h)
theorem hi_lay (h : hi σ τ) (hk : k < 10) {w : Nat} {v : Int32} (hw : w < 15) : hi σ (lay τ k w v) := fun i hi => (lay_hi hk hw (by omega)).trans (h i hi)
theorem hi_up {j : Nat} {v : Int32} (h : hi σ τ) (hj : j < 245) : hi σ (up τ j v) := fun i hi => (up_n (by omega)).trans (h i hi)
theorem hi_hap {kd k o x y : Int32} (h : hi σ τ) (hc : ct τ nk nw ne) : hi σ (mo_hap τ kd k o x y) := by
  intro i hi
  have hm : me ne ≤ 11 := by have := hc.2.2.1; unfold me; split <;> omega
  unfold mo_hap mo_h1
  rw [up_n (by omega), ct_nE (h0_ct hc)]
  unfold mo_w6
  rw [up_n (by omega), up_n (by omega), up_n (by omega), up_n (by omega), up_n (by omega), up_n (by omega)]
  unfold mo_h0
  split
  · rw [up_n (by omega)]
    unfold sh
    rw [if_neg (by omega)]
    exact h i hi
  · exact h i hi
theorem hi_blow (h : hi σ τ) (hk : k < 10) : hi σ (mo_blow τ k) := hi_lay (hi_lay h hk (by decide)) hk (by decide)
theorem hi_pl (hk : k < 10) : ∀ (n : Nat) {τ : Nat → Int32}, hi σ τ → hi σ (mo_pl τ k n)
  | 0, _, h => h
  | n + 1, τ, h => by
    unfold mo_pl
    split
    · exact h
    · refine hi_pl hk n ?_
      unfold mo_p1
      split
      · exact hi_lay h hk (by decide)
      · split
        · exact hi_lay h hk (by decide)
        · exact hi_lay h hk (by decide)
theorem hi_goes (h : hi σ τ) (hv : vs τ nk nw ne) (hk : k < nk) : hi σ (mo_goes τ k) := by
  have hk10 : k < 10 := Nat.lt_of_lt_of_le hk hv.1.1
  have v4 := pl_vs 1000 (g2_vs (blow_vs (g1_vs hv hk10) hk10) hk) hk
  have h4 : hi σ (mo_pl (mo_g2 (mo_blow (mo_g1 τ k) k) k) k 1000) := by
    refine hi_pl hk10 1000 ?_
    have h2 : hi σ (mo_blow (mo_g1 τ k) k) := hi_blow (hi_lay h hk10 (by decide)) hk10
    unfold mo_g2
    split
    · exact hi_lay h2 hk10 (by decide)
    · exact hi_lay h2 hk10 (by decide)
  unfold mo_goes mo_g3
  split
  · exact hi_hap (hi_lay h4 hk10 (by decide)) (ct_lay v4.1)
  · exact h4
theorem hi_fls (hv : vs σ nk nw ne) : ∀ i, i ≤ nk → hi σ (mo_fls σ i)
  | 0, _ => hi.rf
  | i + 1, hi' => by
    obtain ⟨n', v'⟩ := fls_vs hv i (by omega)
    have ih := hi_fls hv i (by omega)
    rw [mo_fls_s]
    split
    · exact hi_goes ih v' (by omega)
    · exact ih
theorem hi_cuts {ρ : Nat → Int32} (h : hi ρ σ) (hv : vs σ nk nw ne) : ∀ i, i ≤ nk → hi ρ (mo_cuts σ nk i)
  | 0, _ => h
  | i + 1, hi' => by
    obtain ⟨n', v'⟩ := cuts_vs hv i (by omega)
    have ih := hi_cuts h hv i (by omega)
    have i10 : i < 10 := Nat.lt_of_lt_of_le hi' hv.1.1
    show hi ρ (mo_cut1 σ (mo_cuts σ nk i) nk i)
    generalize mo_cuts σ nk i = τ at *
    unfold mo_cut1
    have k1 : hi ρ (lay τ i 10 (kf τ i 10 + mo_wear σ i nk)) := hi_lay ih i10 (by decide)
    have v1 : vs (lay τ i 10 (kf τ i 10 + mo_wear σ i nk)) nk nw n' := vs_lay v' i10 (by decide) fun _ => rg_hi (by decide)
    cases ht : mo_threat σ i nk with
    | none => exact k1
    | some b =>
      dsimp only
      have hb : b < 10 := Nat.lt_of_lt_of_le (mo_threat_lt _ _ _ _ ht).1 v'.1.1
      generalize lay τ i 10 (kf τ i 10 + mo_wear σ i nk) = ψ at *
      split
      · unfold mo_cutb
        refine hi_hap (nk := nk) (nw := nw) (ne := n') (hi_up (hi_lay (hi_lay (hi_lay k1 i10 (by decide)) i10 (by decide)) hb (by decide)) (by decide)) ?_
        exact (vs_up10 (vs_lay (vs_lay (vs_lay v1 i10 (by decide) fun _ => by decide) i10 (by decide) fun _ => rg_hi (by decide)) hb (by decide) fun _ => rg_hi (by decide))).1
      · exact k1
theorem hi_drs {ρ : Nat → Int32} {d : Nat → Bool} (h : hi ρ σ) (hv : vs σ nk nw ne) : ∀ i, i ≤ nk → hi ρ (mo_drs d σ i)
  | 0, _ => h
  | i + 1, hi' => by
    obtain ⟨n', v'⟩ := drs_vs (d := d) hv i (by omega)
    have ih := hi_drs (d := d) h hv i (by omega)
    have i10 : i < 10 := Nat.lt_of_lt_of_le hi' hv.1.1
    show hi ρ (mo_dr1 d (mo_drs d σ i) i)
    generalize mo_drs d σ i = τ at *
    have v1 := sink_vs (blow_vs v' i10) (k := i) (by omega)
    have k1 : hi ρ (mo_sink (mo_blow τ i) i) := hi_lay (hi_blow ih i10) i10 (by decide)
    unfold mo_dr1
    split
    · split
      · exact hi_hap (hi_lay k1 i10 (by decide)) (ct_lay v1.1)
      · exact k1
    · exact ih
theorem hi_pks {ρ : Nat → Int32} (h : hi ρ σ) (hv : vs σ nk nw ne) : ∀ i, i ≤ nk → hi ρ (mo_pks σ nk i)
  | 0, _ => h
  | i + 1, hi' => by
    obtain ⟨n', v'⟩ := pks_vs hv i (by omega)
    have ih := hi_pks h hv i (by omega)
    have i10 : i < 10 := Nat.lt_of_lt_of_le hi' hv.1.1
    show hi ρ (mo_pk1 (mo_pks σ nk i) nk i)
    generalize mo_pks σ nk i = τ at *
    unfold mo_pk1
    split
    · cases hp : (mo_pkr τ (kf τ i 1) (kf τ i 2) (nI i) nk).1 with
      | none => exact ih
      | some b =>
        have hb : b < 10 := Nat.lt_of_lt_of_le (mo_pkr_lt _ _ _ _ _ _ hp).1 v'.1.1
        exact hi_hap (hi_lay (hi_lay (hi_lay ih i10 (by decide)) i10 (by decide)) hb (by decide)) (ct_lay (ct_lay (ct_lay v'.1)))
    · exact ih
theorem hi_tick (hv : vs σ nk nw ne) : hi σ (mo_tick σ nk) := by
  obtain ⟨n1, h1⟩ := fls_vs hv nk (Nat.le_refl _)
  obtain ⟨n2, h2⟩ := cuts_vs h1 nk (Nat.le_refl _)
  obtain ⟨n3, h3⟩ := drs_vs (d := fun j => decide (kf σ j 0 = 2)) h2 nk (Nat.le_refl _)
  exact hi_up (hi_pks (hi_drs (hi_cuts (hi_fls hv nk (Nat.le_refl _)) h1 nk (Nat.le_refl _)) h2 nk (Nat.le_refl _)) h3 nk (Nat.le_refl _)) (by decide)
theorem hi_ts : ∀ t {σ : Nat → Int32} {ne : Nat}, vs σ nk nw ne → hi σ (mo_ts σ nk t)
  | 0, _, _, _ => hi.rf
  | t + 1, σ, ne, h => by
    unfold mo_ts
    split
    · rename_i ht
      obtain ⟨n', h'⟩ := tick_vs h ht
      exact (hi_tick h).tr (hi_ts t h')
    · exact hi.rf
/-- two rows that agree below and above are one -/
theorem hi_q (h : hi σ τ) (q : q245 τ σ) : τ = σ := funext fun i => by
  by_cases c : i < 245
  · exact q i c
  · exact h i (by omega)
end SHI
