/-! the invariant of the law's loop -/
section SNS2
variable {nk nw ne : Nat} {σ τ : Nat → Int32} {v x y a c t w : Int32} {k : Nat}
theorem nm_go (h : nm σ τ) (hk : k < 10) : nm σ (mo_go τ k) := nm_lay (nm_lay h hk (by decide)) hk (by decide)
theorem isK_lt (hv : vs σ nk nw ne) (h : mo_isK σ x = true) : kN x < nk := by
  obtain ⟨k, hk, rfl⟩ := (isK_of hv.1).mp h
  rw [kN_n (by have := hv.1.1; omega)]
  exact hk
theorem nm_128 (hv : vs σ nk nw ne) (h : sc_128 σ nk t = .inl (v, τ)) : nm σ τ := by
  unfold sc_128 at h
  split at h
  · split at h
    · cases h
    · cases h; exact nm_ts _ hv
  · cases h
theorem nm_129 (hv : vs σ nk nw ne) (h : sc_129 σ x = .inl (v, τ)) : nm σ τ := by
  unfold sc_129 at h
  split at h
  · rename_i hK
    have hk := isK_lt hv hK
    have k10 : kN x < 10 := Nat.lt_of_lt_of_le hk hv.1.1
    split at h
    · cases h
      unfold mo_lnc mo_hapAt mo_l1
      have h1 : nm σ (mo_go (lay σ (kN x) 0 0) (kN x)) := nm_go (nm_lay nm.rf k10 (by decide)) k10
      refine nm_hap (nk := nk) (nw := nw) (ne := ne) (nm_lay h1 k10 (by decide)) ?_
      unfold mo_go
      exact ct_lay (ct_lay (ct_lay (ct_lay hv.1)))
    · cases h
  · cases h
theorem nm_130 (hv : vs σ nk nw ne) (h : sc_130 σ x w = .inl (v, τ)) : nm σ τ := by
  unfold sc_130 at h
  split at h
  · rename_i hK
    have k10 : kN x < 10 := Nat.lt_of_lt_of_le (isK_lt hv hK) hv.1.1
    split at h
    · cases h; exact nm_lay nm.rf k10 (by decide)
    · cases h
  · cases h
theorem nm_131 (hv : vs σ nk nw ne) (h : sc_131 σ x = .inl (v, τ)) : nm σ τ := by
  unfold sc_131 at h
  split at h
  · rename_i hK
    have k10 : kN x < 10 := Nat.lt_of_lt_of_le (isK_lt hv hK) hv.1.1
    split at h
    · cases h; exact nm_lay nm.rf k10 (by decide)
    · cases h
  · cases h
theorem nm_132 (hv : vs σ nk nw ne) (h : sc_132 σ x w = .inl (v, τ)) : nm σ τ := by
  unfold sc_132 at h
  split at h
  · rename_i hK
    have k10 : kN x < 10 := Nat.lt_of_lt_of_le (isK_lt hv hK) hv.1.1
    split at h
    · split at h
      · cases h; exact nm_lay nm.rf k10 (by decide)
      · cases h
    · cases h
  · cases h
theorem nm_133 (hv : vs σ nk nw ne) (h : sc_133 σ x a c = .inl (v, τ)) : nm σ τ := by
  unfold sc_133 at h
  split at h
  · rename_i hK
    have k10 : kN x < 10 := Nat.lt_of_lt_of_le (isK_lt hv hK) hv.1.1
    split at h
    · cases h
      unfold mo_wk
      split
      · exact nm_lay (nm_lay (nm_lay (nm_lay nm.rf k10 (by decide)) k10 (by decide)) k10 (by decide)) k10 (by decide)
      · exact nm_lay (nm_lay nm.rf k10 (by decide)) k10 (by decide)
    · cases h
  · cases h
theorem nm_134 (hv : vs σ nk nw ne) (h : sc_134 σ x a c = .inl (v, τ)) : nm σ τ := by
  unfold sc_134 at h
  split at h
  · rename_i hK
    have k10 : kN x < 10 := Nat.lt_of_lt_of_le (isK_lt hv hK) hv.1.1
    split at h
    · split at h
      · split at h
        · cases h
          unfold mo_rst mo_r6
          have h0 : nm σ (mo_r0 σ (kN x)) := by
            unfold mo_r0
            split
            · exact nm_go (nm_lay (nm_lay nm.rf k10 (by decide)) k10 (by decide)) k10
            · exact nm.rf
          exact nm_lay (nm_lay (nm_lay (nm_lay (nm_lay (nm_lay h0 k10 (by decide)) k10 (by decide)) k10 (by decide)) k10 (by decide)) k10 (by decide)) k10 (by decide)
        · cases h
      · cases h
    · cases h
  · cases h
theorem nm_135 (hv : vs σ nk nw ne) (h : sc_135 σ x a c = .inl (v, τ)) : nm σ τ := by
  unfold sc_135 at h
  split at h
  · rename_i hW
    obtain ⟨k, hk, rfl⟩ := (isW_of hv.1).mp hW
    have h4 := hv.1.2.1.2
    rw [kN_n (by omega)] at h
    split at h
    · cases h
      exact nm_up (nm_up nm.rf (by omega)) (by omega)
    · cases h
  · cases h
theorem nm_136 (h : sc_136 σ x w = .inl (v, τ)) : nm σ τ := by
  unfold sc_136 at h
  split at h
  · rename_i hW
    obtain ⟨k, hk, rfl⟩ := in_5 hW
    rw [kN_n (by omega)] at h
    split at h
    · cases h
      exact nm_up nm.rf (by omega)
    · cases h
  · cases h
theorem NV_nm {ν : Nat → Nat} (h : NV σ ν nk) (h10 : nk ≤ 10) (g : nm σ τ) : NV τ ν nk := fun k hk => by
  rw [g k (by omega)]
  exact h k hk
theorem NV_q {ν : Nat → Nat} (h : NV σ ν nk) (h10 : nk ≤ 10) (g : q245 τ σ) : NV τ ν nk := fun k hk => by
  rw [q_kf g (by omega) (by decide)]
  exact h k hk
theorem q_sy (g : q245 τ σ) : q245 σ τ := fun k hk => (g k hk).symm
end SNS2
/-- the input, the fields, the last error, the output -/
def Ji (M : ak_M) : Prop := ∃ (β : Nat → Int32) (n : Nat), Ic β n M ∧ Im β n M ∧ BR β n
def Jsv (ν : Nat → Nat) (nk nw : Nat) (M : ak_M) : Prop := (ak_I M 0 8 = 0 ∧ ak_I M 483 8 = 0) ∨ (ak_I M 0 8 = 1 ∧ ak_I M 483 8 = 1 ∧ ∃ ne fe, Rb 129 (ak_I M 488) nk nw ne fe M ∧ vs (ak_I M 488) nk nw ne ∧ NV (ak_I M 488) ν nk)
def Jf (ν : Nat → Nat) (ρ : Nat → Nat → Int32) (hn hf nk nw ne fe : Nat) (M : ak_M) : Prop := Rb 65 (ro M) nk nw ne fe M ∧ vs (ro M) nk nw ne ∧ Nc ν nk M ∧ NV (ro M) ν nk ∧ Hc ρ hn hf nk nw M ∧ Hm ρ hn M ∧ (∀ j, j < hn → NV (ρ j) ν nk) ∧ Jsv ν nk nw M
def Jc (M : ak_M) : Prop := ak_I M 0 9 = ak_I M 483 24 ∧ ak_I M 0 10 = ak_I M 483 25
def Jo (M : ak_M) : Prop := ∃ l, Oc1 l M ∧ Om1 l M
def JJ (M : ak_M) : Prop := ab_lay M ∧ Ji M ∧ (∃ ν ρ hn hf nk nw ne fe, Jf ν ρ hn hf nk nw ne fe M) ∧ Jc M ∧ Jo M
/-- the cells that are M', all else as it was -/
def rp (M M' : ak_M) : ak_M := (ak_I M', M.2)
/-- cells alone -/
def wf2 (S : Nat → Nat → Prop) (M M' : ak_M) : Prop := ab_lay M' ∧ ∀ p k, ¬ S p k → ak_I M' p k = ak_I M p k
section SIV
variable {M M' M2 : ak_M} {S T : Nat → Nat → Prop} {ν : Nat → Nat} {ρ : Nat → Nat → Int32} {hn hf nk nw ne fe n : Nat} {β : Nat → Int32} {l : List Int32}
theorem fr.w (h : fr S M M') : wf2 S M M' := ⟨h.1, h.2.1⟩
theorem fx.w (h : fx S M M') : wf2 S M M' := ⟨h.1, h.2.1⟩
theorem wf2.tr (a : wf2 S M M') (b : wf2 S M' M2) : wf2 S M M2 := ⟨b.1, fun p k h => (b.2 p k h).trans (a.2 p k h)⟩
theorem wf2.mo (a : wf2 S M M') (h : ∀ p k, S p k → T p k) : wf2 T M M' := ⟨a.1, fun p k hn => a.2 p k fun hs => hn (h p k hs)⟩
theorem wf2.r (a : wf2 S M M') (hL : ab_lay M) : fr S M (rp M M') := ⟨hL, a.2, rfl, rfl, rfl, rfl⟩
theorem wf2.row (a : wf2 S M M') {p : Nat} (h : ∀ k, ¬ S p k) : ak_I M' p = ak_I M p := funext fun k => a.2 p k (h k)
theorem Im.ff (h : Im β n M) (f : fr S M M') (hS : ∀ p k, S p k → p ≠ 495 ∧ ¬ (p = 483 ∧ k = 17)) : Im β n M' :=
  ⟨h.1, by rw [f.2.1 483 17 fun e => (hS _ _ e).2 ⟨rfl, rfl⟩]; exact h.2.1, fun j hj => by rw [f.row (p := 495) fun k e => (hS _ _ e).1 rfl]; exact h.2.2 j hj⟩
theorem Oc1.ff (h : Oc1 l M) (f : fr S M M') (hS : ∀ p k, S p k → p ≠ 3 ∧ p ≠ 4) : Oc1 l M' :=
  ⟨h.1, by rw [f.row (p := 3) fun k e => (hS _ _ e).1 rfl]; exact h.2.1, fun j hj => by rw [f.row (p := 4) fun k e => (hS _ _ e).2 rfl]; exact h.2.2 j hj⟩
theorem Om1.ff (h : Om1 l M) (f : fr S M M') (hS : ∀ p k, S p k → p ≠ 496 ∧ ¬ (p = 483 ∧ k = 28)) : Om1 l M' :=
  ⟨h.1, by rw [f.2.1 483 28 fun e => (hS _ _ e).2 ⟨rfl, rfl⟩]; exact h.2.1, fun j hj => by rw [f.row (p := 496) fun k e => (hS _ _ e).1 rfl]; exact h.2.2 j hj⟩
/-- what may be written without the input, the fields, the errors, the output being touched -/
def oi (p k : Nat) : Prop := p ≠ 1 ∧ p ≠ 2 ∧ p ≠ 495 ∧ ¬ (p = 483 ∧ k = 17)
def of5 (p k : Nat) : Prop := (p < 52 ∨ p = 70 ∨ (97 ≤ p ∧ p < 129) ∨ 483 ≤ p) ∧ p ≠ 484 ∧ p ≠ 488 ∧ p ≠ 489 ∧ ¬ (p = 483 ∧ (k = 7 ∨ k = 8)) ∧ ¬ (p = 0 ∧ k = 8)
def oe (p k : Nat) : Prop := ¬ (p = 0 ∧ (k = 9 ∨ k = 10)) ∧ ¬ (p = 483 ∧ (k = 24 ∨ k = 25))
def oo (p k : Nat) : Prop := p ≠ 3 ∧ p ≠ 4 ∧ p ≠ 496 ∧ ¬ (p = 483 ∧ k = 28)
theorem Ji.fr (h : Ji M) (f : fr S M M') (hS : ∀ p k, S p k → oi p k) : Ji M' := by
  obtain ⟨β, n, a, b, c⟩ := h
  exact ⟨β, n, a.ff f fun p k e => ⟨(hS p k e).1, (hS p k e).2.1⟩, b.ff f fun p k e => ⟨(hS p k e).2.2.1, (hS p k e).2.2.2⟩, c⟩
theorem Jsv.fr (h : Jsv ν nk nw M) (f : fr S M M') (hS : ∀ p k, S p k → (p < 129 ∨ 161 ≤ p) ∧ p ≠ 488 ∧ ¬ (p = 483 ∧ k = 8) ∧ ¬ (p = 0 ∧ k = 8)) : Jsv ν nk nw M' := by
  have e0 : ak_I M' 0 8 = ak_I M 0 8 := f.2.1 0 8 fun e => (hS _ _ e).2.2.2 ⟨rfl, rfl⟩
  have e4 : ak_I M' 483 8 = ak_I M 483 8 := f.2.1 483 8 fun e => (hS _ _ e).2.2.1 ⟨rfl, rfl⟩
  have e8 : ak_I M' 488 = ak_I M 488 := f.row fun k e => (hS _ _ e).2.1 rfl
  unfold Jsv
  rw [e0, e4, e8]
  rcases h with h | ⟨h1, h2, ne, fe, h3, h4, h5⟩
  · exact Or.inl h
  · exact Or.inr ⟨h1, h2, ne, fe, h3.fr h4.1 f fun p k e => by have := (hS p k e).1; omega, h4, h5⟩
theorem Jf.fr (h : Jf ν ρ hn hf nk nw ne fe M) (f : fr S M M') (hS : ∀ p k, S p k → of5 p k) : Jf ν ρ hn hf nk nw ne fe M' := by
  obtain ⟨h1, h2, h3, h4, h5, h6, h7, h8⟩ := h
  have er : ro M' = ro M := f.row fun k e => (hS _ _ e).2.1 rfl
  unfold Jf
  rw [er]
  refine ⟨h1.fr h2.1 f fun p k e => ?_, h2, Nn_52.mp ((Nn_52.mpr h3).ff f fun p k e => ?_), h4, h5.fr f fun p k e => ?_, h6.fr f fun p k e => ?_, h7, h8.fr f fun p k e => ?_⟩
  · have := (hS p k e).1; omega
  · have := (hS p k e).1; omega
  · have := (hS p k e).1; omega
  · have a := hS p k e
    exact ⟨a.2.2.2.1, fun g => a.2.2.2.2.1 ⟨g.1, Or.inl g.2⟩⟩
  · have a := hS p k e
    refine ⟨?_, a.2.2.1, fun g => a.2.2.2.2.1 ⟨g.1, Or.inr g.2⟩, a.2.2.2.2.2⟩
    have := a.1
    omega
theorem Jc.fr (h : Jc M) (f : fr S M M') (hS : ∀ p k, S p k → oe p k) : Jc M' := by
  have e1 : ak_I M' 0 9 = ak_I M 0 9 := f.2.1 0 9 fun e => (hS _ _ e).1 ⟨rfl, Or.inl rfl⟩
  have e2 : ak_I M' 0 10 = ak_I M 0 10 := f.2.1 0 10 fun e => (hS _ _ e).1 ⟨rfl, Or.inr rfl⟩
  have e3 : ak_I M' 483 24 = ak_I M 483 24 := f.2.1 483 24 fun e => (hS _ _ e).2 ⟨rfl, Or.inl rfl⟩
  have e4 : ak_I M' 483 25 = ak_I M 483 25 := f.2.1 483 25 fun e => (hS _ _ e).2 ⟨rfl, Or.inr rfl⟩
  unfold Jc
  rw [e1, e2, e3, e4]
  exact h
theorem Jo.fr (h : Jo M) (f : fr S M M') (hS : ∀ p k, S p k → oo p k) : Jo M' := by
  obtain ⟨l, a, b⟩ := h
  exact ⟨l, a.ff f fun p k e => ⟨(hS p k e).1, (hS p k e).2.1⟩, b.ff f fun p k e => ⟨(hS p k e).2.2.1, (hS p k e).2.2.2⟩⟩
/-! the same over cells alone -/
theorem Ji.w (h : Ji M) (hL : ab_lay M) (f : wf2 S M M') (hS : ∀ p k, S p k → oi p k) : Ji M' := by
  have g : Ji (rp M M') := h.fr (f.r hL) hS
  exact g
theorem Jf.w (h : Jf ν ρ hn hf nk nw ne fe M) (hL : ab_lay M) (f : wf2 S M M') (hS : ∀ p k, S p k → of5 p k) : Jf ν ρ hn hf nk nw ne fe M' := by
  have g : Jf ν ρ hn hf nk nw ne fe (rp M M') := h.fr (f.r hL) hS
  exact g
theorem Jc.w (h : Jc M) (hL : ab_lay M) (f : wf2 S M M') (hS : ∀ p k, S p k → oe p k) : Jc M' := by
  have g : Jc (rp M M') := h.fr (f.r hL) hS
  exact g
theorem Jo.w (h : Jo M) (hL : ab_lay M) (f : wf2 S M M') (hS : ∀ p k, S p k → oo p k) : Jo M' := by
  have g : Jo (rp M M') := h.fr (f.r hL) hS
  exact g
theorem Hm.w (h : Hm ρ n M) (hL : ab_lay M) (f : wf2 S M M') (hS : ∀ p k, S p k → p ≠ 489 ∧ ¬ (p = 483 ∧ k = 7)) : Hm ρ n M' := by
  have g : Hm ρ n (rp M M') := h.fr (f.r hL) hS
  exact g
theorem Nn.w {u : Nat} (h : Nn u ν nk M) (hL : ab_lay M) (f : wf2 S M M') (hS : ∀ p k, S p k → p < u ∨ u + 12 < p) : Nn u ν nk M' := by
  have g : Nn u ν nk (rp M M') := h.ff (f.r hL) hS
  exact g
theorem Jsv.w (h : Jsv ν nk nw M) (hL : ab_lay M) (f : wf2 S M M') (hS : ∀ p k, S p k → (p < 129 ∨ 161 ≤ p) ∧ p ≠ 488 ∧ ¬ (p = 483 ∧ k = 8) ∧ ¬ (p = 0 ∧ k = 8)) : Jsv ν nk nw M' := by
  have g : Jsv ν nk nw (rp M M') := h.fr (f.r hL) hS
  exact g
/-- scratch -/
def sc5 (p k : Nat) : Prop := p = 70 ∨ (97 ≤ p ∧ p < 129) ∨ p = 485 ∨ p = 486 ∨ (490 ≤ p ∧ p ≤ 494) ∨ (p = 483 ∧ (k = 0 ∨ k = 9 ∨ k = 10))
theorem JJ.w (h : JJ M) (f : wf2 sc5 M M') : JJ M' := by
  obtain ⟨hL, a, ⟨ν, ρ, hn, hf, nk, nw, ne, fe, b⟩, c, d⟩ := h
  refine ⟨f.1, a.w hL f fun p k e => ?_, ⟨ν, ρ, hn, hf, nk, nw, ne, fe, b.w hL f fun p k e => ?_⟩, c.w hL f fun p k e => ?_, d.w hL f fun p k e => ?_⟩
  · unfold sc5 at e; unfold oi; omega
  · unfold sc5 at e; unfold of5; omega
  · unfold sc5 at e; unfold oe; omega
  · unfold sc5 at e; unfold oo; omega
end SIV
