/-! what is kept of the past -/
/-- what is kept when one more is kept -/
def psh (ρ : Nat → Nat → Int32) (n : Nat) (σ : Nat → Int32) : Nat → Nat → Int32 := fun j => if n = 10 then (if j = 9 then σ else ρ (j + 1)) else (if j = n then σ else ρ j)
def pn (n : Nat) : Nat := if n = 10 then 10 else n + 1
/-- the class keeps these n rows, from place f of the ring on -/
def Hc (ρ : Nat → Nat → Int32) (n f nk nw : Nat) (M : ak_M) : Prop := n ≤ 10 ∧ f < 10 ∧ ak_I M 161 2 = nI n ∧ ak_I M 161 1 = nI f ∧ ∀ j, j < n → ∃ ne fe, vs (ρ j) nk nw ne ∧ Rb (163 + 32 * ((f + j) % 10)) (ρ j) nk nw ne fe M
/-- the model keeps these n rows -/
def Hm (ρ : Nat → Nat → Int32) (n : Nat) (M : ak_M) : Prop := n ≤ 10 ∧ ak_I M 483 7 = nI n ∧ ∀ j, j < n → ∀ k, k < 245 → ak_I M 489 (245 * j + k) = ρ j k
def cY (p _k : Nat) : Prop := p = 161 ∨ (163 ≤ p ∧ p < 483)
def mo_hs (p k : Nat) : Prop := p = 489 ∨ (p = 483 ∧ k = 7)
theorem mi_m10 : ∀ a, a < 40 → nI a - nI a / 10 * 10 = nI (a % 10) := by decide +kernel
theorem mi_p (q : Nat) : nI (q + 1) - 1 = nI q := by rw [← mi_s, Int32.add_sub_cancel]
theorem fb_h : ∀ j, j < 10 → 163 + 32 * j ∈ ab_fb := by decide
section SHS
variable {X : ak_X} {M M' : ak_M} {n f nk nw ne fe : Nat} {σ : Nat → Int32} {ρ : Nat → Nat → Int32}
theorem Hc.fr {S : Nat → Nat → Prop} (h : Hc ρ n f nk nw M) (g : fr S M M') (hS : ∀ p k, S p k → p < 161 ∨ 483 ≤ p) : Hc ρ n f nk nw M' := by
  obtain ⟨h1, h2, h3, h4, h5⟩ := h
  have e : ak_I M' 161 = ak_I M 161 := g.row fun k hs => by have := hS _ _ hs; omega
  refine ⟨h1, h2, by rw [e]; exact h3, by rw [e]; exact h4, fun j hj => ?_⟩
  obtain ⟨ne, fe, v, r⟩ := h5 j hj
  have hm : (f + j) % 10 < 10 := Nat.mod_lt _ (by decide)
  exact ⟨ne, fe, v, r.fr v.1 g fun p k hs => by have := hS p k hs; omega⟩
theorem sk_30 (hL : ab_lay M) (hR : Rb 65 σ nk nw ne fe M) (hv : vs σ nk nw ne) (h : Hc ρ n f nk nw M) : ∃ M' f', rn X 30 [.ref 161, .ref 65] M (.inl none, M') ∧ fr cY M M' ∧ Hc (psh ρ n σ) (pn n) f' nk nw M' ∧ Rb 65 σ nk nw ne fe M' := by
  obtain ⟨h1, h2, h3, h4, h5⟩ := h
  have keep : ∀ {M1 M2 : ak_M} {d j : Nat}, fr (fun p _ => p = 161) M M1 → fr (cS (163 + 32 * d)) M1 M2 → d < 10 → j < n → (f + j) % 10 ≠ d → ∃ ne fe, vs (ρ j) nk nw ne ∧ Rb (163 + 32 * ((f + j) % 10)) (ρ j) nk nw ne fe M2 := by
    intro M1 M2 d j g1 g2 hd hj hne
    obtain ⟨ne, fe, v, r⟩ := h5 j hj
    exact ⟨ne, fe, v, (r.fr v.1 g1 fun p k hs => by omega).fr v.1 g2 fun p k hs => by unfold cS at hs; omega⟩
  by_cases c : n = 10
  · subst c
    generalize g1 : ak_sI M 161 1 (nI ((f + 1) % 10)) = M5
    have f5 : fr (fun p _ => p = 161) M M5 := g1 ▸ (fr.rf hL).st rfl
    have a1 : ak_I M5 161 1 = nI ((f + 1) % 10) := by rw [← g1]; exact mb_sIs
    have a2 : ak_I M5 161 2 = nI 10 := by rw [← g1, mb_sIk (by decide)]; exact h3
    have r5 : Rb 65 σ nk nw ne fe M5 := hR.fr hv.1 f5 fun p k hs => by omega
    obtain ⟨M7, r7, m7⟩ := sk_10 (X := X) f5.1 h65 (fb_h f h2) (by omega) r5 hv.1
    have e7 : ak_I M7 161 = ak_I M5 161 := m7.1.row fun k hs => by unfold cS at hs; omega
    refine ⟨M7, (f + 1) % 10, t_30 hL h65 (mb_y h3 fun N e => ?_), (f5.mo fun _ _ h => Or.inl h).tr (m7.1.mo fun p k hs => by unfold cS at hs; exact (show p = 161 ∨ (163 ≤ p ∧ p < 483) by omega)), ⟨by decide, Nat.mod_lt _ (by decide), by rw [e7]; exact a2, by rw [e7]; exact a1, fun j hj => ?_⟩, r5.fr hv.1 m7.1 fun p k hs => by unfold cS at hs; omega⟩
    · rw [h4, mi_s, mi_m10 _ (by omega)] at e
      obtain rfl := e.trans g1
      refine ⟨f, h2, ?_, M7, m7.1.1, r7, rfl⟩
      rw [a1, a2, mi_add, show (f + 1) % 10 + 10 = (f + 1) % 10 + 9 + 1 from rfl, mi_p, mi_m10 _ (by omega)]
      exact mb_ixe (by congr 1; omega) h2 (by decide)
    · unfold pn at hj
      rw [if_pos rfl] at hj
      unfold psh
      rw [if_pos rfl]
      by_cases d : j = 9
      · rw [if_pos d, show ((f + 1) % 10 + j) % 10 = f by omega]
        exact ⟨ne, fe, hv, m7.2⟩
      · rw [if_neg d, show ((f + 1) % 10 + j) % 10 = (f + (j + 1)) % 10 by omega]
        exact keep f5 m7.1 h2 (by omega) (by omega)
  · generalize g1 : ak_sI M 161 2 (nI (n + 1)) = M1
    have f1 : fr (fun p _ => p = 161) M M1 := g1 ▸ (fr.rf hL).st rfl
    have a2 : ak_I M1 161 2 = nI (n + 1) := by rw [← g1]; exact mb_sIs
    have a1 : ak_I M1 161 1 = nI f := by rw [← g1, mb_sIk (by decide)]; exact h4
    have r1 : Rb 65 σ nk nw ne fe M1 := hR.fr hv.1 f1 fun p k hs => by omega
    have hi : (f + n) % 10 < 10 := Nat.mod_lt _ (by decide)
    obtain ⟨M3, r3, m3⟩ := sk_10 (X := X) f1.1 h65 (fb_h _ hi) (by omega) r1 hv.1
    have e3 : ak_I M3 161 = ak_I M1 161 := m3.1.row fun k hs => by unfold cS at hs; omega
    refine ⟨M3, f, t_30 hL h65 (mb_n (by rw [h3, show (10 : Int32) = nI 10 from rfl, mi_eq (by omega) (by omega)]; exact c) fun N e => ?_), (f1.mo fun _ _ h => Or.inl h).tr (m3.1.mo fun p k hs => by unfold cS at hs; exact (show p = 161 ∨ (163 ≤ p ∧ p < 483) by omega)), ⟨by unfold pn; rw [if_neg c]; omega, h2, by rw [e3]; unfold pn; rw [if_neg c]; exact a2, by rw [e3]; exact a1, fun j hj => ?_⟩, r1.fr hv.1 m3.1 fun p k hs => by unfold cS at hs; omega⟩
    · rw [h3, mi_s] at e
      obtain rfl := e.trans g1
      refine ⟨(f + n) % 10, hi, ?_, M3, m3.1.1, r3, rfl⟩
      rw [a1, a2, mi_add, ← Nat.add_assoc, mi_p, mi_m10 _ (by omega)]
      exact mb_ix hi (by decide)
    · unfold pn at hj
      rw [if_neg c] at hj
      unfold psh
      rw [if_neg c]
      by_cases d : j = n
      · rw [if_pos d, d]
        exact ⟨ne, fe, hv, m3.2⟩
      · rw [if_neg d]
        exact keep f1 m3.1 hi (by omega) (by omega)
/-- the last that is kept comes back -/
theorem sk_31 (hL : ab_lay M) (h : Hc ρ (n + 1) f nk nw M) : ∃ M' ne fe, rn X 31 [.ref 161, .ref 65] M (.inl none, M') ∧ fr (fun p k => cY p k ∨ cS 65 p k) M M' ∧ Hc ρ n f nk nw M' ∧ Rb 65 (ρ n) nk nw ne fe M' ∧ vs (ρ n) nk nw ne := by
  obtain ⟨h1, h2, h3, h4, h5⟩ := h
  generalize g1 : ak_sI M 161 2 (nI n) = M1
  have f1 : fr (fun p _ => p = 161) M M1 := g1 ▸ (fr.rf hL).st rfl
  have a2 : ak_I M1 161 2 = nI n := by rw [← g1]; exact mb_sIs
  have a1 : ak_I M1 161 1 = nI f := by rw [← g1, mb_sIk (by decide)]; exact h4
  have hi : (f + n) % 10 < 10 := Nat.mod_lt _ (by decide)
  obtain ⟨ne, fe, v, r⟩ := h5 n (by omega)
  have r1 := r.fr v.1 f1 fun p k hs => by omega
  obtain ⟨M3, r3, m3⟩ := sk_10 (X := X) f1.1 (fb_h _ hi) h65 (by omega) r1 v.1
  have e3 : ak_I M3 161 = ak_I M1 161 := m3.1.row fun k hs => by unfold cS at hs; omega
  refine ⟨M3, ne, fe, t_31 hL h65 (mb_n (by rw [h3, show (0 : Int32) = nI 0 from rfl, mi_le (by omega) (by omega)]; omega) fun N e => ?_), (f1.mo fun _ _ h => Or.inl (Or.inl h)).tr (m3.1.mo fun _ _ h => Or.inr h), ⟨by omega, h2, by rw [e3]; exact a2, by rw [e3]; exact a1, fun j hj => ?_⟩, m3.2, v⟩
  · rw [h3, mi_p] at e
    obtain rfl := e.trans g1
    refine ⟨(f + n) % 10, hi, ?_, M3, m3.1.1, r3, rfl⟩
    rw [a1, a2, mi_add, mi_m10 _ (by omega)]
    exact mb_ix hi (by decide)
  · obtain ⟨ne', fe', v', r'⟩ := h5 j (by omega)
    exact ⟨ne', fe', v', (r'.fr v'.1 f1 fun p k hs => by omega).fr v'.1 m3.1 fun p k hs => by unfold cS at hs; omega⟩
theorem sk_29 (hL : ab_lay M) (h : Hc ρ n f nk nw M) : rn X 29 [.ref 161] M (.inl none, ak_sI M 161 2 0) ∧ Hc ρ 0 f nk nw (ak_sI M 161 2 0) :=
  ⟨t_29 hL fun N e => by rw [e], by decide, h.2.1, mb_sIs, (mb_sIk (by decide)).trans h.2.2.2.1, fun j hj => absurd hj (Nat.not_lt_zero _)⟩
/-! the model -/
theorem Hm.fr {S : Nat → Nat → Prop} (h : Hm ρ n M) (g : fr S M M') (hS : ∀ p k, S p k → p ≠ 489 ∧ ¬ (p = 483 ∧ k = 7)) : Hm ρ n M' := by
  obtain ⟨h1, h2, h3⟩ := h
  exact ⟨h1, by rw [g.2.1 483 7 fun e => (hS _ _ e).2 ⟨rfl, rfl⟩]; exact h2, fun j hj k hk => by rw [g.row fun k e => (hS _ _ e).1 rfl]; exact h3 j hj k hk⟩
end SHS
