/-! a setup text read: what stays true, and that it goes on -/
section SPV
variable {β : Nat → Int32} {n s nk nw : Nat} {ν : Nat → Nat} {σ : Nat → Int32} {τ : Int32}
theorem bnd_i {α γ : Type} {o : (Nat × Nat) ⊕ α} {f : α → (Nat × Nat) ⊕ γ} {b : γ} (h : bnd o f = .inr b) : ∃ a, o = .inr a ∧ f a = .inr b := by
  cases o with
  | inl e => cases h
  | inr a => exact ⟨a, rfl, h⟩
theorem nx_ge : s ≤ nx β n s := Nat.le_trans te_ge rnd_ge
theorem nb_i {lo hi : Int32} {q : Int32 × Nat} (h : nb β n s lo hi = .inr q) : in32 q.1 lo hi = true ∧ s ≤ q.2 := by
  unfold nb at h
  by_cases c : isn β n s = true
  · rw [if_pos c] at h
    by_cases d : in32 (nI (vl β s (te β n s - s))) lo hi = true
    · rw [if_pos d] at h
      cases h
      exact ⟨d, nx_ge⟩
    · rw [if_neg d] at h; cases h
  · rw [if_neg c] at h; cases h
theorem in9_n {x : Int32} (h : in32 x 0 9 = true) : in32 x (-9) 9 = true ∧ in32 (-x) (-9) 9 = true := by
  have t := in32_t.mp h
  have a0 : (0 : Int32).toInt = 0 := rfl
  have a9 : (9 : Int32).toInt = 9 := by decide
  have m9 : (-9 : Int32).toInt = -9 := by decide
  rw [a0, a9] at t
  refine ⟨in32_t.mpr ?_, in32_t.mpr ?_⟩
  · rw [m9, a9]; omega
  · rw [m9, a9, j3_neg (by omega)]; omega
theorem spd_i {q : Int32 × Nat} (h : spd β n s = .inr q) : in32 q.1 (-9) 9 = true ∧ s ≤ q.2 := by
  unfold spd at h
  by_cases c : tkd β n s = 3
  · rw [if_pos c] at h
    cases e : nb β n (nx β n s) 0 9 with
    | inl e' => rw [e] at h; cases h
    | inr p =>
      rw [e] at h
      cases h
      have i := nb_i e
      exact ⟨(in9_n i.1).2, Nat.le_trans nx_ge i.2⟩
  · rw [if_neg c] at h
    have i := nb_i h
    exact ⟨(in9_n i.1).1, i.2⟩
theorem opt_i {c : Nat} {lo hi d : Int32} {q : Int32 × Nat} (h : opt β n s c lo hi d = .inr q) (hd : in32 d lo hi = true) : in32 q.1 lo hi = true ∧ s ≤ q.2 := by
  unfold opt at h
  by_cases w : wq β n s c = true
  · rw [if_pos w] at h
    have i := nb_i h
    exact ⟨i.1, Nat.le_trans nx_ge i.2⟩
  · rw [if_neg w] at h
    cases h
    exact ⟨hd, Nat.le_refl _⟩
theorem nmo_i {t : Nat} (h : nmo β n ν nk s = .inr t) : nal β s (te β n s - s) ∧ s ≤ t := by
  unfold nmo at h
  by_cases c : tkd β n s = 1 ∧ te β n s - s ≤ 6 ∧ wo β n s = none
  · rw [if_pos c] at h
    by_cases d : nof ν nk (inp β s (te β n s - s)) = none
    · rw [if_pos d] at h
      cases h
      have hs := tkd_i (β := β) (n := n) (s := s) (by omega)
      have t2 := te_lt (β := β) hs
      exact ⟨⟨by omega, c.2.1, fun i hi => (tkd_in (Or.inl c.1) (Nat.le_add_right s i) (by omega)).trans c.1⟩, nx_ge⟩
    · rw [if_neg d] at h; cases h
  · rw [if_neg c] at h; cases h
theorem kst_i {q : Int32 × Int32 × Int32 × Int32 × Int32 × Nat} (h : kst β n s = .inr q) : in32 q.1 0 199 = true ∧ in32 q.2.1 0 199 = true ∧ in32 q.2.2.1 0 9 = true ∧ in32 q.2.2.2.1 1 99 = true ∧ in32 q.2.2.2.2.1 1 400 = true ∧ s ≤ q.2.2.2.2.2 := by
  unfold kst at h
  obtain ⟨x, e1, h⟩ := bnd_i h
  obtain ⟨y, e2, h⟩ := bnd_i h
  obtain ⟨sh, e3, h⟩ := bnd_i h
  obtain ⟨to, e4, h⟩ := bnd_i h
  obtain ⟨ou, e5, h⟩ := bnd_i h
  cases h
  have i1 := nb_i e1
  have i2 := nb_i e2
  have i3 := opt_i e3 (by decide)
  have i4 := opt_i e4 (by decide)
  have i5 := opt_i e5 (by decide)
  exact ⟨i1.1, i2.1, i3.1, i4.1, i5.1, by show s ≤ ou.2; omega⟩
theorem in_0 {a b : Int32} (h : in32 0 a b = true) (x : Int32) (hx : x = 0) : in32 x a b = true := by rw [hx]; exact h
theorem bit_f : ∀ t, t < 64 → ∀ w, w < 6 → (nI t &&& bit w = 0 ↔ (nI t >>> (nI w &&& 31)) &&& 1 = 0) ∧ ∃ t', t' < 64 ∧ nI t ||| bit w = nI t' := by
  have h : ∀ t, t < 64 → ∀ w, w < 6 → (nI t &&& bit w = 0 ↔ (nI t >>> (nI w &&& 31)) &&& 1 = 0) ∧ (List.range 64).any (fun t' => decide (nI t ||| bit w = nI t')) = true := by decide +kernel
  intro t ht w hw
  obtain ⟨h1, h2⟩ := h t ht w hw
  obtain ⟨t', h3, h4⟩ := List.any_eq_true.mp h2
  exact ⟨h1, t', List.mem_range.mp h3, of_decide_eq_true h4⟩
theorem ps_k_i {q' : PS} (hV : PV (σ, ν, nk, nw, τ, s)) (h : ps_k β n (σ, ν, nk, nw, τ, s) = .inr q') : PV q' ∧ s ≤ q'.2.2.2.2.2 := by
  have h : (if nk = 10 then .inl (4, s) else bnd (nmo β n ν nk (nx β n s)) fun t => bnd (kst β n t) fun q => .inr (rk σ nk q.1 q.2.1 q.2.2.1 q.2.2.2.1 q.2.2.2.2.1 (nvs β n (nx β n s)), nu1 ν nk (nvs β n (nx β n s)), nk + 1, nw, τ, q.2.2.2.2.2)) = (.inr q' : (Nat × Nat) ⊕ PS) := h
  by_cases c : nk = 10
  · rw [if_pos c] at h; cases h
  · rw [if_neg c] at h
    obtain ⟨t, e1, h⟩ := bnd_i h
    obtain ⟨q, e2, h⟩ := bnd_i h
    cases h
    obtain ⟨na, i1⟩ := nmo_i e1
    obtain ⟨k1, k2, k3, k4, k5, i2⟩ := kst_i e2
    obtain ⟨v1, v2, v3, v4, v5, v6, v7, v8, v9, v10, v11, v12, v13⟩ := hV
    have hge := nx_ge (β := β) (n := n) (s := s)
    have hz : ∀ w, w < 15 → kf σ nk w = 0 := fun w hw => v11 nk (Nat.le_refl _) (by omega) w hw
    obtain ⟨a1, a2, a3⟩ := nal_nv na
    refine ⟨⟨by omega, v2, by rw [rk_lo (by decide)]; rfl, by rw [rk_lo (by decide)]; exact v4, by rw [rk_lo (by decide)]; exact v5, by rw [rk_lo (by decide)]; exact v6, by rw [rk_lo (by decide)]; exact v7, fun k hk => ?_, fun i hi => ?_, ?_, fun k h1 h2 w hw => ?_, fun k hk => ?_, v13⟩, by show s ≤ q.2.2.2.2.2; omega⟩
    · by_cases ek : k = nk
      · subst ek
        intro w hw
        rw [rk_row]
        rcases (show w = 0 ∨ w = 1 ∨ w = 2 ∨ w = 3 ∨ w = 4 ∨ w = 5 ∨ w = 6 ∨ w = 7 ∨ w = 8 ∨ w = 9 ∨ w = 10 ∨ w = 11 ∨ w = 12 ∨ w = 13 by omega) with e | e | e | e | e | e | e | e | e | e | e | e | e | e <;> subst e
        · rfl
        · exact k1
        · exact k2
        · exact in_0 (a := 0) (b := 300) (by decide) _ (hz 3 (by decide))
        · exact k1
        · exact k2
        · exact k5
        · exact in_0 (a := -9) (b := 9) (by decide) _ (hz 7 (by decide))
        · exact k3
        · exact k4
        · rfl
        · rfl
        · rfl
        · rfl
      · intro w hw
        rw [rk_kf ek (by omega)]
        exact v8 k (by omega) w hw
    · have hw3 : ∀ w, w < 3 → wf (rk σ nk q.1 q.2.1 q.2.2.1 q.2.2.2.1 q.2.2.2.2.1 (nvs β n (nx β n s))) i w = wf σ i w := fun w hw => by
        unfold wf
        rw [rk_lo (by omega), if_neg (by omega)]
      unfold wv
      rw [hw3 1 (by decide), hw3 2 (by decide)]
      exact v9 i hi
    · unfold sv
      rw [rk_lo (by decide), rk_lo (by decide), rk_lo (by decide), rk_lo (by decide), rk_lo (by decide), rk_lo (by decide)]
      exact v10
    · rw [rk_kf (by omega) hw]
      exact v11 k (by omega) h2 w hw
    · unfold nu1
      by_cases ek : k = nk
      · subst ek
        rw [if_pos rfl, rk_row]
        exact ⟨a2, rfl, a3⟩
      · rw [if_neg ek, rk_kf ek (by decide)]
        exact v12 k (by omega)
theorem rw3_e {w i : Nat} {l x y : Int32} (hw : w < 4) : rw3 σ w l x y i = if i = 2 then nI (w + 1) else if i = 11 + 3 * w + 2 then y else if i = 11 + 3 * w + 1 then x else if i = 11 + 3 * w then l else σ i := by
  unfold rw3
  rw [up_e, up_e, up_e, up_e]
  rfl
theorem rw3_kf {w k j : Nat} {l x y : Int32} (hw : w < 4) : kf (rw3 σ w l x y) k j = kf σ k j := by
  unfold kf
  rw [rw3_e hw, if_neg (by omega), if_neg (by omega), if_neg (by omega), if_neg (by omega)]
theorem ps_w_i {q' : PS} (hV : PV (σ, ν, nk, nw, τ, s)) (h : ps_w β n (σ, ν, nk, nw, τ, s) = .inr q') : PV q' ∧ s ≤ q'.2.2.2.2.2 := by
  have h : (if nw = 4 then .inl (4, s) else bnd (nb β n (nx β n s) (wlo σ nw) (whi nw)) fun l => bnd (spd β n l.2) fun x => bnd (spd β n x.2) fun y => .inr (rw3 σ nw l.1 x.1 y.1, ν, nk, nw + 1, τ, y.2)) = (.inr q' : (Nat × Nat) ⊕ PS) := h
  by_cases c : nw = 4
  · rw [if_pos c] at h; cases h
  · rw [if_neg c] at h
    obtain ⟨l, e1, h⟩ := bnd_i h
    obtain ⟨x, e2, h⟩ := bnd_i h
    obtain ⟨y, e3, h⟩ := bnd_i h
    cases h
    have i1 := nb_i e1
    have i2 := spd_i e2
    have i3 := spd_i e3
    obtain ⟨v1, v2, v3, v4, v5, v6, v7, v8, v9, v10, v11, v12, v13⟩ := hV
    have hge := nx_ge (β := β) (n := n) (s := s)
    have h4 : nw < 4 := by omega
    have lo : ∀ i, i < 11 → i ≠ 2 → rw3 σ nw l.1 x.1 y.1 i = σ i := fun i hi h2 => by
      rw [rw3_e h4, if_neg h2, if_neg (by omega), if_neg (by omega), if_neg (by omega)]
    refine ⟨⟨v1, by omega, by rw [lo 1 (by decide) (by decide)]; exact v3, by rw [rw3_e h4]; rfl, by rw [lo 0 (by decide) (by decide)]; exact v5, by rw [lo 9 (by decide) (by decide)]; exact v6, by rw [lo 10 (by decide) (by decide)]; exact v7, fun k hk w hw => by rw [rw3_kf h4]; exact v8 k hk w hw, fun i hi => ?_, ?_, fun k h1 h2 w hw => by rw [rw3_kf h4]; exact v11 k h1 h2 w hw, fun k hk => by rw [rw3_kf h4]; exact v12 k hk, v13⟩, by show s ≤ y.2; omega⟩
    · unfold wv wf
      rw [rw3_e h4, rw3_e h4, if_neg (by omega), if_neg (by omega)]
      by_cases ei : i = nw
      · subst ei
        rw [if_pos rfl, if_neg (by omega), if_pos rfl]
        exact ⟨i2.1, i3.1⟩
      · rw [if_neg (by omega), if_neg (by omega), if_neg (by omega), if_neg (by omega), if_neg (by omega), if_neg (by omega)]
        exact v9 i (by omega)
    · unfold sv
      rw [lo 3 (by decide) (by decide), lo 4 (by decide) (by decide), lo 5 (by decide) (by decide), lo 6 (by decide) (by decide), lo 7 (by decide) (by decide), lo 8 (by decide) (by decide)]
      exact v10
theorem sv_up {w : Nat} (hw : w < 6) {v : Int32} (hs : sv σ) (hv : in32 v (lo6 w) (hi6 w) = true) : sv (up σ (3 + w) v) := by
  obtain ⟨s0, s1, s2, s3, s4, s5⟩ := hs
  unfold sv
  rw [up_e, up_e, up_e, up_e, up_e, up_e]
  rcases (show w = 0 ∨ w = 1 ∨ w = 2 ∨ w = 3 ∨ w = 4 ∨ w = 5 by omega) with e | e | e | e | e | e <;> subst e
  · exact ⟨hv, s1, s2, s3, s4, s5⟩
  · exact ⟨s0, hv, s2, s3, s4, s5⟩
  · exact ⟨s0, s1, hv, s3, s4, s5⟩
  · exact ⟨s0, s1, s2, hv, s4, s5⟩
  · exact ⟨s0, s1, s2, s3, hv, s5⟩
  · exact ⟨s0, s1, s2, s3, s4, hv⟩
theorem ps_s_i {q' : PS} {w : Nat} (hw : w < 6) (hV : PV (σ, ν, nk, nw, τ, s)) (h : ps_s β n w (σ, ν, nk, nw, τ, s) = .inr q') : PV q' ∧ s ≤ q'.2.2.2.2.2 := by
  have h : (if τ &&& bit w = 0 then bnd (nb β n (nx β n s) (lo6 w) (hi6 w)) fun v => .inr (up σ (3 + w) v.1, ν, nk, nw, τ ||| bit w, v.2) else .inl (3, s)) = (.inr q' : (Nat × Nat) ⊕ PS) := h
  by_cases c : τ &&& bit w = 0
  · rw [if_pos c] at h
    obtain ⟨v, e1, h⟩ := bnd_i h
    cases h
    have i1 := nb_i e1
    obtain ⟨v1, v2, v3, v4, v5, v6, v7, v8, v9, v10, v11, v12, t, ht, et⟩ := hV
    have hge := nx_ge (β := β) (n := n) (s := s)
    obtain ⟨-, t', h3, h4⟩ := bit_f t ht w hw
    have lo : ∀ i, i < 3 ∨ 9 ≤ i → up σ (3 + w) v.1 i = σ i := fun i hi => up_n (by omega)
    have kk : ∀ k j, kf (up σ (3 + w) v.1) k j = kf σ k j := fun k j => up_n (by omega)
    refine ⟨⟨v1, v2, by rw [lo 1 (by omega)]; exact v3, by rw [lo 2 (by omega)]; exact v4, by rw [lo 0 (by omega)]; exact v5, by rw [lo 9 (by omega)]; exact v6, by rw [lo 10 (by omega)]; exact v7, fun k hk w hw => by rw [kk]; exact v8 k hk w hw, fun i hi => ?_, sv_up hw v10 i1.1, fun k h1 h2 w hw => by rw [kk]; exact v11 k h1 h2 w hw, fun k hk => by rw [kk]; exact v12 k hk, t', h3, by rw [et]; exact h4⟩, by show s ≤ v.2; omega⟩
    unfold wv wf
    rw [lo _ (by omega), lo _ (by omega)]
    exact v9 i hi
  · rw [if_neg c] at h; cases h
theorem ps_1_i {q q' : PS} (hV : PV q) (h : ps_1 β n q = .inr q') : PV q' ∧ q.2.2.2.2.2 ≤ q'.2.2.2.2.2 := by
  obtain ⟨σ, ν, nk, nw, τ, s⟩ := q
  unfold ps_1 at h
  show PV q' ∧ s ≤ q'.2.2.2.2.2
  dsimp only at h
  cases e : wo β n s with
  | none => rw [e] at h; cases h
  | some c =>
    rw [e] at h
    dsimp only at h
    by_cases c0 : c = 0
    · rw [if_pos c0] at h
      exact ps_k_i hV h
    · rw [if_neg c0] at h
      by_cases c1 : c = 1
      · rw [if_pos c1] at h
        exact ps_w_i hV h
      · rw [if_neg c1] at h
        by_cases c8 : c < 8
        · rw [if_pos c8] at h
          exact ps_s_i (by omega) hV h
        · rw [if_neg c8] at h; cases h
theorem ps_2_i {q q' : PS} (hV : PV q) (h : ps_2 β n q = .inr q') : PV q' ∧ q.2.2.2.2.2 < q'.2.2.2.2.2 := by
  obtain ⟨⟨σ, ν, nk, nw, τ, s⟩, e1, h⟩ := bnd_i h
  obtain ⟨h1, h2⟩ := ps_1_i hV e1
  have h : (if tkd β n s = 4 then .inr (σ, ν, nk, nw, τ, nx β n s) else .inl (1, s)) = (.inr q' : (Nat × Nat) ⊕ PS) := h
  by_cases c : tkd β n s = 4
  · rw [if_pos c] at h
    cases h
    have hs := nx_gt (β := β) (tkd_i (β := β) (n := n) (s := s) (by omega))
    exact ⟨h1, Nat.lt_of_le_of_lt h2 hs⟩
  · rw [if_neg c] at h; cases h
end SPV
/-- statements to the end of the text -/
def ps_l (β : Nat → Int32) (n : Nat) : Nat → PS → (Nat × Nat) ⊕ PS
  | 0, q => .inr q
  | d + 1, q => if tkd β n q.2.2.2.2.2 = 0 then .inr q else bnd (ps_2 β n q) (ps_l β n d)
