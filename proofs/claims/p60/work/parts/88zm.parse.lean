/-! the drawn text parses -/
def kis (X : ak_X) : Nat → Nat → List Int32 → List Int32
  | _, 0, R => R
  | k, c + 1, R => kiN X k (kis X (k + 1) c R)
def wis (X : ak_X) : Nat → Nat → List Int32
  | _, 0 => []
  | k, c + 1 => wiN X k (wis X (k + 1) c)
section PAR
variable {X : ak_X} {β : Nat → Int32} {n s p k v d nk nw : Nat} {w R : List Int32} {σ : Nat → Int32} {ν : Nat → Nat} {τ : Int32} {q q' : PS}
theorem kis_e : ∀ c k, cat (kiT X) k ++ kis X k c R = cat (kiT X) (k + c) ++ R
  | 0, _ => rfl
  | c + 1, k => by
    show cat (kiT X) k ++ kiN X k (kis X (k + 1) c R) = _
    rw [← kiN_e, ← List.append_assoc, show k + (c + 1) = (k + 1) + c by omega]
    exact kis_e c (k + 1)
theorem wis_e : ∀ c k, cat (wiT X) k ++ wis X k c = cat (wiT X) (k + c)
  | 0, _ => List.append_nil _
  | c + 1, k => by
    show cat (wiT X) k ++ wiN X k (wis X (k + 1) c) = _
    rw [← wiN_e, ← List.append_assoc, show k + (c + 1) = (k + 1) + c by omega]
    exact wis_e c (k + 1)
theorem stT_e : stT X nk = seN 6 (dn X 1 0 50) (seN 7 (dn X 2 0 50) (seN 2 (dn X 3 0 20) (kis X 0 nk (wis X 0 (dn X 4 1 4))))) := by
  have e1 := kis_e (X := X) (R := wis X 0 (dn X 4 1 4)) nk 0
  have e2 := wis_e (X := X) (dn X 4 1 4) 0
  rw [Nat.zero_add] at e1 e2
  have e3 : cat (kiT X) 0 ++ kis X 0 nk (wis X 0 (dn X 4 1 4)) = kis X 0 nk (wis X 0 (dn X 4 1 4)) := rfl
  have e4 : cat (wiT X) 0 ++ wis X 0 (dn X 4 1 4) = wis X 0 (dn X 4 1 4) := rfl
  rw [e3] at e1
  rw [e4] at e2
  rw [← hdN_e, e1, e2]
  unfold stT
  rw [List.append_assoc]
theorem hk_wis : ∀ c, hk (wis X k c) ≠ 5
  | 0 => by show (0 : Nat) ≠ 5; decide
  | c + 1 => by rw [show wis X k (c + 1) = wiN X k (wis X (k + 1) c) from rfl, hk_wi]; decide
theorem hk_kis (h : hk R ≠ 5) : ∀ c, hk (kis X k c R) ≠ 5
  | 0 => h
  | c + 1 => by rw [show kis X k (c + 1) R = kiN X k (kis X (k + 1) c R) from rfl, hk_ki]; decide
theorem J0_k {x y a b c : Int32} {v : Nat} (h : J0 σ k) (hk' : k < 10) : J0 (rk σ k x y a b c v) (k + 1) := by
  refine ⟨fun e he => ⟨?_, ?_⟩, fun e he => ?_⟩
  · unfold rk lay kf
    repeat rw [up_n (by omega)]
    exact (h.1 e he).1
  · unfold rk lay kf
    repeat rw [up_n (by omega)]
    exact (h.1 e he).2
  · unfold rk lay kf
    iterate 11 rw [up_n (by omega)]
    by_cases c : e = k
    · rw [c]; exact up_s
    · rw [up_n (by omega)]; exact h.2 e (by omega)
theorem J0_w {l x y : Int32} (h : J0 σ k) (h4 : nw < 4) (h10 : k ≤ 10) : J0 (rw3 σ nw l x y) k := by
  refine ⟨fun e he => ⟨?_, ?_⟩, fun e he => ?_⟩ <;> unfold rw3 kf <;> iterate 4 rw [up_n (by omega)]
  · exact (h.1 e he).1
  · exact (h.1 e he).2
  · exact h.2 e he
theorem J0_u {w : Nat} {v : Int32} (h : J0 σ k) (hw : w < 23) : J0 (up σ w v) k := by
  refine ⟨fun e he => ⟨?_, ?_⟩, fun e he => ?_⟩ <;> unfold kf <;> rw [up_n (by omega)]
  · exact (h.1 e he).1
  · exact (h.1 e he).2
  · exact h.2 e he
theorem p_kites (hR : hk R ≠ 5) (h9 : nk ≤ 9) : ∀ c k, k + c = nk → ∀ σ ν s, En β n s (kis X k c R) → (∀ c, c < k → ν c = c + 1) → J0 σ k → ∃ σ' ν' s', ps_l β n (d + c) (σ, ν, k, nw, τ, s) = ps_l β n d (σ', ν', nk, nw, τ, s') ∧ En β n s' R ∧ J0 σ' nk
  | 0, k, hc, σ, ν, s, h, hν, hJ => by
    have e : k = nk := by omega
    subst e
    exact ⟨σ, ν, s, rfl, h, hJ⟩
  | c + 1, k, hc, σ, ν, s, h, hν, hJ => by
    obtain ⟨s', e, h'⟩ := p_kite (d := d + c) (σ := σ) (nw := nw) (τ := τ) h (hk_kis hR c) (by omega) hν
    obtain ⟨σ2, ν2, s2, e2, h2, J2⟩ := p_kites hR h9 c (k + 1) (by omega) _ (nu1 ν k (k + 1)) s' h' (fun c hc => by
      unfold nu1
      by_cases e : c = k
      · rw [if_pos e, e]
      · rw [if_neg e]; exact hν c (by omega)) (J0_k hJ (by omega))
    exact ⟨σ2, ν2, s2, by rw [show d + (c + 1) = d + c + 1 from rfl, e, e2], h2, J2⟩
theorem p_winds (h4 : nw ≤ 4) (h10 : nk ≤ 10) : ∀ c k, k + c = nw → ∀ σ s, En β n s (wis X k c) → (k ≠ 0 → wf σ (k - 1) 0 = nI (lowT X (k - 1))) → J0 σ nk → ∃ σ' s', ps_l β n (d + c) (σ, ν, nk, k, τ, s) = ps_l β n d (σ', ν, nk, nw, τ, s') ∧ En β n s' [] ∧ J0 σ' nk
  | 0, k, hc, σ, s, h, hw, hJ => by
    have e : k = nw := by omega
    subst e
    exact ⟨σ, s, rfl, h, hJ⟩
  | c + 1, k, hc, σ, s, h, hw, hJ => by
    obtain ⟨s', x, y, e, h'⟩ := p_wind (d := d + c) (σ := σ) (ν := ν) (nk := nk) (τ := τ) h (hk_wis c) (by omega) hw
    obtain ⟨σ2, s2, e2, h2, J2⟩ := p_winds h4 h10 c (k + 1) (by omega) (rw3 σ k (nI (lowT X k)) x y) s' h' (fun _ => by
      unfold rw3 wf
      rw [show k + 1 - 1 = k by omega]
      iterate 3 rw [up_n (by omega)]
      exact up_s) (J0_w hJ (by omega) h10)
    exact ⟨σ2, s2, by rw [show d + (c + 1) = d + c + 1 from rfl, e, e2], h2, J2⟩
theorem p_all (h : En β n 0 (stT X nk)) (h9 : nk ≤ 9) (hz : q245 σ rz) : ∃ q, ps_a β n σ = .inr q ∧ q.2.2.1 = nk ∧ J0 q.1 nk ∧ PV q ∧ q.2.2.2.1 ≠ 0 := by
  have hw4 := dn_r (X := X) (k := 4) (lo := 1) (hi := 4) (by omega) (by omega)
  have b1 := dn_r (X := X) (k := 1) (lo := 0) (hi := 50) (by omega) (by omega)
  have b2 := dn_r (X := X) (k := 2) (lo := 0) (hi := 50) (by omega) (by omega)
  have b3 := dn_r (X := X) (k := 3) (lo := 0) (hi := 20) (by omega) (by omega)
  rw [stT_e] at h
  have e0 : ps_0 β n σ = (σ, fun _ => 0, 0, 0, 0, 0) := by
    unfold ps_0
    rw [rnd_0 fun h2 => by rw [h.kk h2, hk_se (by omega)]; decide]
  have hJ : J0 σ 0 := ⟨fun c hc => ⟨by rw [show kf σ c 10 = kf rz c 10 from hz _ (by omega)]; unfold kf rz; iterate 6 rw [if_neg (by omega)], by rw [show kf σ c 11 = kf rz c 11 from hz _ (by omega)]; unfold kf rz; iterate 6 rw [if_neg (by omega)]⟩, fun c hc => absurd hc (Nat.not_lt_zero c)⟩
  have hR1 : hk (wis X 0 (dn X 4 1 4)) ≠ 5 := hk_wis _
  have hR2 := hk_kis (X := X) (k := 0) hR1 nk
  obtain ⟨s1, e1, h1⟩ := p_set (w := 4) (d := 700) (σ := σ) (ν := fun _ => 0) (nk := 0) (nw := 0) (τ := 0) (by decide) h (by omega) (by rw [hk_se (by omega)]; decide) (by decide) (in_v (lo := 0) (hi := 50) (by omega) (by omega))
  obtain ⟨s2, e2, h2⟩ := p_set (w := 5) (d := 699) (σ := up σ (3 + 4) (nI (dn X 1 0 50))) (ν := fun _ => 0) (nk := 0) (nw := 0) (τ := 0 ||| bit 4) (by decide) h1 (by omega) (by rw [hk_se (by omega)]; decide) (by decide) (in_v (lo := 0) (hi := 50) (by omega) (by omega))
  obtain ⟨s3, e3, h3⟩ := p_set (w := 0) (d := 698) (σ := up (up σ (3 + 4) (nI (dn X 1 0 50))) (3 + 5) (nI (dn X 2 0 50))) (ν := fun _ => 0) (nk := 0) (nw := 0) (τ := 0 ||| bit 4 ||| bit 5) (by decide) h2 (by omega) hR2 (by decide) (in_v (lo := 0) (hi := 99) (by omega) (by omega))
  obtain ⟨σ4, ν4, s4, e4, h4, J4⟩ := p_kites (β := β) (n := n) (d := 698 - nk) (nw := 0) (τ := 0 ||| bit 4 ||| bit 5 ||| bit 0) hR1 h9 nk 0 (by omega) _ (fun _ => 0) s3 h3 (fun c hc => absurd hc (Nat.not_lt_zero c)) (J0_u (J0_u (J0_u hJ (show 3 + 4 < 23 by decide)) (show 3 + 5 < 23 by decide)) (show 3 + 0 < 23 by decide))
  rw [show 698 - nk + nk = 698 by omega] at e4
  obtain ⟨σ5, s5, e5, h5, J5⟩ := p_winds (β := β) (n := n) (nw := dn X 4 1 4) (d := 698 - nk - dn X 4 1 4) (ν := ν4) (τ := 0 ||| bit 4 ||| bit 5 ||| bit 0) (by omega) (show nk ≤ 10 by omega) (dn X 4 1 4) 0 (by omega) σ4 s4 h4 (fun e => absurd rfl e) J4
  rw [show 698 - nk - dn X 4 1 4 + dn X 4 1 4 = 698 - nk by omega] at e5
  have hs : ¬ s5 < n := by have := h5.1; simp only [List.length_nil] at this; omega
  have eE : ∀ d, ps_l β n d (σ5, ν4, nk, dn X 4 1 4, 0 ||| bit 4 ||| bit 5 ||| bit 0, s5) = .inr (σ5, ν4, nk, dn X 4 1 4, 0 ||| bit 4 ||| bit 5 ||| bit 0, s5) := by
    intro d
    cases d with
    | zero => rfl
    | succ d =>
      show (if tkd β n s5 = 0 then _ else _) = _
      rw [if_pos (tkd_n hs)]
  have eA : ps_l β n 701 (ps_0 β n σ) = .inr (σ5, ν4, nk, dn X 4 1 4, 0 ||| bit 4 ||| bit 5 ||| bit 0, s5) := by
    rw [e0, e1, e2, e3, e4, e5, eE]
  have hV := ps_l_i 701 _ _ (PV_0 hz) eA
  refine ⟨(σ5, ν4, nk, dn X 4 1 4, 0 ||| bit 4 ||| bit 5 ||| bit 0, s5), ?_, rfl, J5, hV, show dn X 4 1 4 ≠ 0 by omega⟩
  unfold ps_a
  rw [eA]
  show (Sum.inr (ps_f (σ5, ν4, nk, dn X 4 1 4, 0 ||| bit 4 ||| bit 5 ||| bit 0, s5)) : (Nat × Nat) ⊕ PS) = _
  congr 1
  show (if dn X 4 1 4 = 0 then _ else _) = _
  rw [if_neg (by omega)]
end PAR
