/-! what lies above the 245 numbers stays -/
def nm (σ τ : Nat → Int32) : Prop := ∀ k, k < 10 → kf τ k 14 = kf σ k 14
section SNA
variable {nk nw ne : Nat} {σ τ u : Nat → Int32} {k b : Nat}
theorem nm.rf : nm σ σ := fun _ _ => rfl
theorem nm.tr (a : nm σ τ) (b : nm τ u) : nm σ u := fun i h => (b i h).trans (a i h)
theorem nm_lay (h : nm σ τ) (hk : k < 10) {w : Nat} {v : Int32} (hw : w < 14) : nm σ (lay τ k w v) := fun q hq => (kf_n (by omega) (by decide) (fun e => by omega)).trans (h q hq)
theorem nm_up {j : Nat} {v : Int32} (h : nm σ τ) (hj : j < 23) : nm σ (up τ j v) := fun q hq => (up_kf2 hj).trans (h q hq)
theorem nm_hap {kd k o x y : Int32} (h : nm σ τ) (hc : ct τ nk nw ne) : nm σ (mo_hap τ kd k o x y) := fun q hq => (hap_kf hq (by decide)).trans (h q hq)
theorem nm_blow (h : nm σ τ) (hk : k < 10) : nm σ (mo_blow τ k) := nm_lay (nm_lay h hk (by decide)) hk (by decide)
theorem nm_pl (hk : k < 10) : ∀ (n : Nat) {τ : Nat → Int32}, nm σ τ → nm σ (mo_pl τ k n)
  | 0, _, h => h
  | n + 1, τ, h => by
    unfold mo_pl
    split
    · exact h
    · refine nm_pl hk n ?_
      unfold mo_p1
      split
      · exact nm_lay h hk (by decide)
      · split
        · exact nm_lay h hk (by decide)
        · exact nm_lay h hk (by decide)
theorem nm_goes (h : nm σ τ) (hv : vs τ nk nw ne) (hk : k < nk) : nm σ (mo_goes τ k) := by
  have hk10 : k < 10 := Nat.lt_of_lt_of_le hk hv.1.1
  have v4 := pl_vs 1000 (g2_vs (blow_vs (g1_vs hv hk10) hk10) hk) hk
  have h4 : nm σ (mo_pl (mo_g2 (mo_blow (mo_g1 τ k) k) k) k 1000) := by
    refine nm_pl hk10 1000 ?_
    have h2 : nm σ (mo_blow (mo_g1 τ k) k) := nm_blow (nm_lay h hk10 (by decide)) hk10
    unfold mo_g2
    split
    · exact nm_lay h2 hk10 (by decide)
    · exact nm_lay h2 hk10 (by decide)
  unfold mo_goes mo_g3
  split
  · exact nm_hap (nm_lay h4 hk10 (by decide)) (ct_lay v4.1)
  · exact h4
theorem nm_fls (hv : vs σ nk nw ne) : ∀ i, i ≤ nk → nm σ (mo_fls σ i)
  | 0, _ => nm.rf
  | i + 1, hi' => by
    obtain ⟨n', v'⟩ := fls_vs hv i (by omega)
    have ih := nm_fls hv i (by omega)
    rw [mo_fls_s]
    split
    · exact nm_goes ih v' (by omega)
    · exact ih
theorem nm_cuts {ρ : Nat → Int32} (h : nm ρ σ) (hv : vs σ nk nw ne) : ∀ i, i ≤ nk → nm ρ (mo_cuts σ nk i)
  | 0, _ => h
  | i + 1, hi' => by
    obtain ⟨n', v'⟩ := cuts_vs hv i (by omega)
    have ih := nm_cuts h hv i (by omega)
    have i10 : i < 10 := Nat.lt_of_lt_of_le hi' hv.1.1
    show nm ρ (mo_cut1 σ (mo_cuts σ nk i) nk i)
    generalize mo_cuts σ nk i = τ at *
    unfold mo_cut1
    have k1 : nm ρ (lay τ i 10 (kf τ i 10 + mo_wear σ i nk)) := nm_lay ih i10 (by decide)
    have v1 : vs (lay τ i 10 (kf τ i 10 + mo_wear σ i nk)) nk nw n' := vs_lay v' i10 (by decide) fun _ => rg_hi (by decide)
    cases ht : mo_threat σ i nk with
    | none => exact k1
    | some b =>
      dsimp only
      have hb : b < 10 := Nat.lt_of_lt_of_le (mo_threat_lt _ _ _ _ ht).1 v'.1.1
      generalize lay τ i 10 (kf τ i 10 + mo_wear σ i nk) = ψ at *
      split
      · unfold mo_cutb
        refine nm_hap (nk := nk) (nw := nw) (ne := n') (nm_up (nm_lay (nm_lay (nm_lay k1 i10 (by decide)) i10 (by decide)) hb (by decide)) (by decide)) ?_
        exact (vs_up10 (vs_lay (vs_lay (vs_lay v1 i10 (by decide) fun _ => by decide) i10 (by decide) fun _ => rg_hi (by decide)) hb (by decide) fun _ => rg_hi (by decide))).1
      · exact k1
theorem nm_drs {ρ : Nat → Int32} {d : Nat → Bool} (h : nm ρ σ) (hv : vs σ nk nw ne) : ∀ i, i ≤ nk → nm ρ (mo_drs d σ i)
  | 0, _ => h
  | i + 1, hi' => by
    obtain ⟨n', v'⟩ := drs_vs (d := d) hv i (by omega)
    have ih := nm_drs (d := d) h hv i (by omega)
    have i10 : i < 10 := Nat.lt_of_lt_of_le hi' hv.1.1
    show nm ρ (mo_dr1 d (mo_drs d σ i) i)
    generalize mo_drs d σ i = τ at *
    have v1 := sink_vs (blow_vs v' i10) (k := i) (by omega)
    have k1 : nm ρ (mo_sink (mo_blow τ i) i) := nm_lay (nm_blow ih i10) i10 (by decide)
    unfold mo_dr1
    split
    · split
      · exact nm_hap (nm_lay k1 i10 (by decide)) (ct_lay v1.1)
      · exact k1
    · exact ih
theorem nm_pks {ρ : Nat → Int32} (h : nm ρ σ) (hv : vs σ nk nw ne) : ∀ i, i ≤ nk → nm ρ (mo_pks σ nk i)
  | 0, _ => h
  | i + 1, hi' => by
    obtain ⟨n', v'⟩ := pks_vs hv i (by omega)
    have ih := nm_pks h hv i (by omega)
    have i10 : i < 10 := Nat.lt_of_lt_of_le hi' hv.1.1
    show nm ρ (mo_pk1 (mo_pks σ nk i) nk i)
    generalize mo_pks σ nk i = τ at *
    unfold mo_pk1
    split
    · cases hp : (mo_pkr τ (kf τ i 1) (kf τ i 2) (nI i) nk).1 with
      | none => exact ih
      | some b =>
        have hb : b < 10 := Nat.lt_of_lt_of_le (mo_pkr_lt _ _ _ _ _ _ hp).1 v'.1.1
        exact nm_hap (nm_lay (nm_lay (nm_lay ih i10 (by decide)) i10 (by decide)) hb (by decide)) (ct_lay (ct_lay (ct_lay v'.1)))
    · exact ih
theorem nm_tick (hv : vs σ nk nw ne) : nm σ (mo_tick σ nk) := by
  obtain ⟨n1, h1⟩ := fls_vs hv nk (Nat.le_refl _)
  obtain ⟨n2, h2⟩ := cuts_vs h1 nk (Nat.le_refl _)
  obtain ⟨n3, h3⟩ := drs_vs (d := fun j => decide (kf σ j 0 = 2)) h2 nk (Nat.le_refl _)
  exact nm_up (nm_pks (nm_drs (nm_cuts (nm_fls hv nk (Nat.le_refl _)) h1 nk (Nat.le_refl _)) h2 nk (Nat.le_refl _)) h3 nk (Nat.le_refl _)) (by decide)
theorem nm_ts : ∀ t {σ : Nat → Int32} {ne : Nat}, vs σ nk nw ne → nm σ (mo_ts σ nk t)
  | 0, _, _, _ => nm.rf
  | t + 1, σ, ne, h => by
    unfold mo_ts
    split
    · rename_i ht
      obtain ⟨n', h'⟩ := tick_vs h ht
      exact (nm_tick h).tr (nm_ts t h')
    · exact nm.rf
end SNA
