/-! the drawn text, statement by statement -/
def sdT (X : ak_X) (k : Nat) : List Int32 := (if 0 ≤ dz X k then [] else [45]) ++ dgt (da X k)
def seN (c v : Nat) (R : List Int32) : List Int32 := ctx c ++ 32 :: (dgt v ++ 59 :: R)
def kiN (X : ak_X) (k : Nat) (R : List Int32) : List Int32 := ctx 0 ++ 32 :: (nI (97 + k) :: 32 :: (dgt (dn X (10 + k) 60 110) ++ 32 :: (dgt (dn X (20 + k) 60 110) ++ 32 :: (ctx 8 ++ 32 :: (dgt (dn X (30 + k) 0 9) ++ 32 :: (ctx 9 ++ 32 :: (dgt (dn X (40 + k) 1 40) ++ 32 :: (ctx 10 ++ 32 :: (dgt (dn X (50 + k) 1 60) ++ 59 :: R)))))))))
def wiN (X : ak_X) (k : Nat) (R : List Int32) : List Int32 := ctx 1 ++ 32 :: (dgt (lowT X k) ++ 32 :: (sdT X (60 + 2 * k) ++ 32 :: (sdT X (60 + 2 * k + 1) ++ 59 :: R)))
def J0 (σ : Nat → Int32) (k : Nat) : Prop := (∀ c, c < 10 → kf σ c 10 = 0 ∧ kf σ c 11 = 0) ∧ ∀ c, c < k → kf σ c 0 = 1
section STM
variable {X : ak_X} {β : Nat → Int32} {n s p k v d nk nw : Nat} {w R : List Int32} {σ : Nat → Int32} {ν : Nat → Nat} {τ : Int32} {q q' : PS}
theorem kiN_e : kiT X k ++ R = kiN X k R := by
  unfold kiT kiN
  rw [show ctx 18 = ctx 0 ++ [32] from rfl, show ctx 19 = 32 :: (ctx 8 ++ [32]) from rfl, show ctx 20 = 32 :: (ctx 9 ++ [32]) from rfl, show ctx 21 = 32 :: (ctx 10 ++ [32]) from rfl, show nI 32 = 32 from rfl, show nI 59 = 59 from rfl]
  simp only [List.append_assoc, List.cons_append, List.nil_append]
theorem sdT_e : sgT X k ++ R = 32 :: (sdT X k ++ R) := by
  unfold sgT sdT
  by_cases c : 0 ≤ dz X k
  · rw [if_pos c, if_pos c, show ctx 24 = [32] from rfl]
    simp only [List.cons_append, List.nil_append]
  · rw [if_neg c, if_neg c, show ctx 23 = [32, 45] from rfl]
    simp only [List.cons_append, List.nil_append]
theorem wiN_e : wiT X k ++ R = wiN X k R := by
  unfold wiT wiN
  rw [show ctx 22 = ctx 1 ++ [32] from rfl, show nI 59 = 59 from rfl]
  simp only [List.append_assoc, sdT_e, List.cons_append, List.nil_append]
theorem hdN_e : hdT X ++ R = seN 6 (dn X 1 0 50) (seN 7 (dn X 2 0 50) (seN 2 (dn X 3 0 20) R)) := by
  unfold hdT seN
  rw [show ctx 15 = ctx 6 ++ [32] from rfl, show ctx 16 = 59 :: (ctx 7 ++ [32]) from rfl, show ctx 17 = 59 :: (ctx 2 ++ [32]) from rfl, show nI 59 = 59 from rfl]
  simp only [List.append_assoc, List.cons_append, List.nil_append]
theorem hk_se {c : Nat} (hc : c < 11) : hk (seN c v R) = 1 := hk_ctx hc
theorem hk_ki : hk (kiN X k R) = 1 := hk_ctx (by decide)
theorem hk_wi : hk (wiN X k R) = 1 := hk_ctx (by decide)
theorem pl_s (h : tkd β n q.2.2.2.2.2 ≠ 0) (h2 : ps_2 β n q = .inr q') : ps_l β n (d + 1) q = ps_l β n d q' := by
  show (if tkd β n q.2.2.2.2.2 = 0 then .inr q else bnd (ps_2 β n q) (ps_l β n d)) = _
  rw [if_neg h, h2]
  rfl
/-- a setting -/
theorem p_set {w : Nat} (hw : w < 6) (h : En β n s (seN (2 + w) v R)) (hv : v < 128) (hR : hk R ≠ 5) (hb : τ &&& bit w = 0) (hr : in32 (nI v) (lo6 w) (hi6 w) = true) : ∃ s', ps_l β n (d + 1) (σ, ν, nk, nw, τ, s) = ps_l β n d (up σ (3 + w) (nI v), ν, nk, nw, τ ||| bit w, s') ∧ En β n s' R := by
  obtain ⟨a, b, e, f⟩ := wo_c h (by omega) (by rw [hk_dg hv]; decide)
  obtain ⟨t, g1, g2⟩ := nb_0 f hv hr
  obtain ⟨p1, p2⟩ := ps_e_y g2 hR (σ := up σ (3 + w) (nI v)) (ν := ν) (nk := nk) (nw := nw) (τ := τ ||| bit w)
  refine ⟨t + 1, pl_s (by show tkd β n s ≠ 0; omega) ?_, p2⟩
  unfold ps_2 ps_1
  have a' : wo β n (σ, ν, nk, nw, τ, s).2.2.2.2.2 = some (2 + w) := a
  rw [a']
  dsimp only
  rw [if_neg (by omega), if_neg (by omega), if_pos (by omega), show 2 + w - 2 = w by omega]
  unfold ps_s
  dsimp only
  rw [if_pos hb, e, g1]
  exact p1
/-- a number, its sign before it -/
theorem spd_b (h : En β n s (sdT X k ++ 32 :: R)) (hR : hk R ≠ 5) : ∃ t x, spd β n s = .inr (x, t) ∧ En β n t R := by
  have ha := (da_r (X := X) (k := k)).1
  unfold sdT at h
  by_cases c : 0 ≤ dz X k
  · rw [if_pos c, List.nil_append] at h
    obtain ⟨t, g1, g2⟩ := nb_b h (by omega) hR (lo := 0) (hi := 9) (in_v (lo := 0) (hi := 9) (by omega) (by omega))
    obtain ⟨-, -, g3⟩ := nb_v h (by omega) (show hk (32 :: R) ≠ 2 by show kof 32 ≠ 2; decide) (lo := 0) (hi := 9) (in_v (lo := 0) (hi := 9) (by omega) (by omega))
    refine ⟨t, nI (da X k), ?_, g2⟩
    unfold spd
    rw [if_neg (by omega), g1]
  · rw [if_neg c] at h
    have h' : En β n s (45 :: (dgt (da X k) ++ 32 :: R)) := h
    obtain ⟨a, b, f⟩ := tk_1 h' (by decide)
    have e := nx_0 b f (by rw [hk_dg (by omega)]; decide)
    obtain ⟨t, g1, g2⟩ := nb_b f (by omega) hR (lo := 0) (hi := 9) (in_v (lo := 0) (hi := 9) (by omega) (by omega))
    refine ⟨t, -nI (da X k), ?_, g2⟩
    unfold spd
    rw [if_pos (a.trans (by decide)), e, g1]
theorem spd_0 (h : En β n s (sdT X k ++ 59 :: R)) : ∃ t x, spd β n s = .inr (x, t) ∧ En β n t (59 :: R) := by
  have ha := (da_r (X := X) (k := k)).1
  have k4 : hk (59 :: R) = 4 := by show kof 59 = 4; decide
  unfold sdT at h
  by_cases c : 0 ≤ dz X k
  · rw [if_pos c, List.nil_append] at h
    obtain ⟨t, g1, g2⟩ := nb_0 h (by omega) (lo := 0) (hi := 9) (in_v (lo := 0) (hi := 9) (by omega) (by omega))
    obtain ⟨-, -, g3⟩ := nb_v h (by omega) (by omega) (lo := 0) (hi := 9) (in_v (lo := 0) (hi := 9) (by omega) (by omega))
    refine ⟨t, nI (da X k), ?_, g2⟩
    unfold spd
    rw [if_neg (by omega), g1]
  · rw [if_neg c] at h
    have h' : En β n s (45 :: (dgt (da X k) ++ 59 :: R)) := h
    obtain ⟨a, b, f⟩ := tk_1 h' (by decide)
    have e := nx_0 b f (by rw [hk_dg (by omega)]; decide)
    obtain ⟨t, g1, g2⟩ := nb_0 f (by omega) (lo := 0) (hi := 9) (in_v (lo := 0) (hi := 9) (by omega) (by omega))
    refine ⟨t, -nI (da X k), ?_, g2⟩
    unfold spd
    rw [if_pos (a.trans (by decide)), e, g1]
theorem hk_sd : hk (sdT X k ++ R) ≠ 5 := by
  have ha := (da_r (X := X) (k := k)).1
  unfold sdT
  by_cases c : 0 ≤ dz X k
  · rw [if_pos c, List.nil_append, hk_dg (by omega)]; decide
  · rw [if_neg c]; show kof 45 ≠ 5; decide
/-- a wind -/
theorem p_wind (h : En β n s (wiN X nw R)) (hR : hk R ≠ 5) (h4 : nw < 4) (hw : nw ≠ 0 → wf σ (nw - 1) 0 = nI (lowT X (nw - 1))) : ∃ s' x y, ps_l β n (d + 1) (σ, ν, nk, nw, τ, s) = ps_l β n d (rw3 σ nw (nI (lowT X nw)) x y, ν, nk, nw + 1, τ, s') ∧ En β n s' R := by
  have hl := lowT_b (X := X) nw
  obtain ⟨a, b, e, f⟩ := wo_c h (by omega) (by rw [hk_dg (by omega)]; decide)
  have hr : in32 (nI (lowT X nw)) (wlo σ nw) (whi nw) = true := by
    unfold wlo whi
    by_cases c : nw = 0
    · rw [if_pos c, if_pos c, c]; show in32 (nI 0) 0 0 = true; decide
    · rw [if_neg c, if_neg c, hw c]
      have e1 : lowT X nw = lowT X (nw - 1) + dn X (68 + (nw - 1)) 1 30 := by
        obtain ⟨m, rfl⟩ : ∃ m, nw = m + 1 := ⟨nw - 1, by omega⟩
        rfl
      have h1 := dn_r (X := X) (k := 68 + (nw - 1)) (lo := 1) (hi := 30) (by omega) (by omega)
      rw [mi_s]
      exact in_v (hi := 300) (by omega) (by omega)
  obtain ⟨t, g1, g2⟩ := nb_b f (by omega) hk_sd hr
  obtain ⟨t2, x, g3, g4⟩ := spd_b g2 hk_sd
  obtain ⟨t3, y, g5, g6⟩ := spd_0 g4
  obtain ⟨p1, p2⟩ := ps_e_y g6 hR (σ := rw3 σ nw (nI (lowT X nw)) x y) (ν := ν) (nk := nk) (nw := nw + 1) (τ := τ)
  refine ⟨t3 + 1, x, y, pl_s (by show tkd β n s ≠ 0; omega) ?_, p2⟩
  unfold ps_2 ps_1
  have a' : wo β n (σ, ν, nk, nw, τ, s).2.2.2.2.2 = some 1 := a
  rw [a']
  dsimp only
  rw [if_neg (by omega), if_pos rfl]
  unfold ps_w
  dsimp only
  rw [if_neg (by omega), e, g1]
  simp only [bnd]
  rw [g3]
  dsimp only
  rw [g5]
  exact p1
theorem lts_1 : ∀ c, c < 10 → lts 5 (c + 1) = [nI (97 + c)] := by decide +kernel
theorem kN_97 : ∀ c, c < 10 → kN (nI (97 + c)) - 96 = c + 1 ∧ kof (nI (97 + c)) = 1 := by decide +kernel
/-- a kite -/
theorem p_kite (h : En β n s (kiN X nk R)) (hR : hk R ≠ 5) (h9 : nk < 9) (hν : ∀ c, c < nk → ν c = c + 1) : ∃ s', ps_l β n (d + 1) (σ, ν, nk, nw, τ, s) = ps_l β n d (rk σ nk (nI (dn X (10 + nk) 60 110)) (nI (dn X (20 + nk) 60 110)) (nI (dn X (30 + nk) 0 9)) (nI (dn X (40 + nk) 1 40)) (nI (dn X (50 + nk) 1 60)) (nk + 1), nu1 ν nk (nk + 1), nk + 1, nw, τ, s') ∧ En β n s' R := by
  obtain ⟨u1, u2⟩ := kN_97 nk (by omega)
  have bx := dn_r (X := X) (k := 10 + nk) (lo := 60) (hi := 110) (by omega) (by omega)
  have bY := dn_r (X := X) (k := 20 + nk) (lo := 60) (hi := 110) (by omega) (by omega)
  have bs := dn_r (X := X) (k := 30 + nk) (lo := 0) (hi := 9) (by omega) (by omega)
  have bt := dn_r (X := X) (k := 40 + nk) (lo := 1) (hi := 40) (by omega) (by omega)
  have bo := dn_r (X := X) (k := 50 + nk) (lo := 1) (hi := 60) (by omega) (by omega)
  obtain ⟨a, b, e, f⟩ := wo_c (k := 0) h (by omega) (by show kof (nI (97 + nk)) ≠ 5; omega)
  generalize s + (ctx 0).length + 1 = s1 at e f
  have f' : En β n s1 ([nI (97 + nk)] ++ 32 :: _) := f
  obtain ⟨c1, c2, c3, c4⟩ := tk_w f' (fun c hc => by rw [List.mem_singleton.mp hc]; exact u2) (by simp) (by rw [hk_dg (by omega)]; decide)
  rw [List.length_singleton] at c2 c3 c4
  have cn : nmo β n ν nk s1 = .inr (s1 + 1 + 1) := by
    unfold nmo
    rw [if_pos ⟨c1, by omega, wo_1 c2⟩, if_pos ?_, c3]
    cases eo : nof ν nk (inp β s1 (te β n s1 - s1)) with
    | none => rfl
    | some c =>
      exfalso
      unfold nof at eo
      obtain ⟨-, hc, hq⟩ := wof_s _ _ _ eo
      rw [decide_eq_true_eq, hν c (by omega), lts_1 c (by omega), show te β n s1 - s1 = 1 by omega] at hq
      have e2 : inp β s1 1 = [β s1] := rfl
      rw [e2, f.hd] at hq
      have e3 := List.head_eq_of_cons_eq hq
      have := (mi_eq (a := 97 + c) (b := 97 + nk) (by omega) (by omega)).mp e3
      omega
  have cv : nvs β n s1 = nk + 1 := by
    unfold nvs
    rw [show te β n s1 - s1 = 1 by omega]
    show 27 * 0 + (kN (β (s1 + 0)) - 96) = _
    rw [Nat.add_zero, f.hd, u1]; omega
  obtain ⟨t1, g1, g2⟩ := nb_b c4 (by omega) (by rw [hk_dg (by omega)]; decide) (lo := 0) (hi := 199) (in_v (lo := 0) (hi := 199) (by omega) (by omega))
  obtain ⟨t2, g3, g4⟩ := nb_b g2 (by omega) (by rw [hk_ctx (by omega)]; decide) (lo := 0) (hi := 199) (in_v (lo := 0) (hi := 199) (by omega) (by omega))
  obtain ⟨t3, g5, g6⟩ := opt_y g4 (ctx_a (by omega)) (ctx_k 8 (by omega)).2 (by rw [hk_dg (by omega)]; decide) rfl (lo := 0) (hi := 9) (d := 1)
  obtain ⟨t4, g7, g8⟩ := nb_b g6 (by omega) (by rw [hk_ctx (by omega)]; decide) (lo := 0) (hi := 9) (in_v (lo := 0) (hi := 9) (by omega) (by omega))
  obtain ⟨t5, g9, g10⟩ := opt_y g8 (ctx_a (by omega)) (ctx_k 9 (by omega)).2 (by rw [hk_dg (by omega)]; decide) rfl (lo := 1) (hi := 99) (d := 20)
  obtain ⟨t6, g11, g12⟩ := nb_b g10 (by omega) (by rw [hk_ctx (by omega)]; decide) (lo := 1) (hi := 99) (in_v (lo := 1) (hi := 99) (by omega) (by omega))
  obtain ⟨t7, g13, g14⟩ := opt_y g12 (ctx_a (by omega)) (ctx_k 10 (by omega)).2 (by rw [hk_dg (by omega)]; decide) rfl (lo := 1) (hi := 400) (d := 10)
  obtain ⟨t8, g15, g16⟩ := nb_0 g14 (by omega) (lo := 1) (hi := 400) (in_v (lo := 1) (hi := 400) (by omega) (by omega))
  have ck : kst β n (s1 + 1 + 1) = .inr (nI (dn X (10 + nk) 60 110), nI (dn X (20 + nk) 60 110), nI (dn X (30 + nk) 0 9), nI (dn X (40 + nk) 1 40), nI (dn X (50 + nk) 1 60), t8) := by
    unfold kst
    rw [g1]
    simp only [bnd]
    rw [g3]
    dsimp only
    rw [g5, g7]
    dsimp only
    rw [g9, g11]
    dsimp only
    rw [g13, g15]
  obtain ⟨p1, p2⟩ := ps_e_y g16 hR (σ := rk σ nk (nI (dn X (10 + nk) 60 110)) (nI (dn X (20 + nk) 60 110)) (nI (dn X (30 + nk) 0 9)) (nI (dn X (40 + nk) 1 40)) (nI (dn X (50 + nk) 1 60)) (nk + 1)) (ν := nu1 ν nk (nk + 1)) (nk := nk + 1) (nw := nw) (τ := τ)
  refine ⟨t8 + 1, pl_s (by show tkd β n s ≠ 0; omega) ?_, p2⟩
  unfold ps_2 ps_1
  have a' : wo β n (σ, ν, nk, nw, τ, s).2.2.2.2.2 = some 0 := a
  rw [a']
  dsimp only
  rw [if_pos rfl]
  unfold ps_k
  dsimp only
  rw [if_neg (by omega), e, cn, cv]
  simp only [bnd]
  rw [ck]
  exact p1
end STM
