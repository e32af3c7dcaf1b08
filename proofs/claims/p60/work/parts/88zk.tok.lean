/-! the drawn text, token by token -/
/-- what is left of the text from s on -/
def En (β : Nat → Int32) (n s : Nat) (l : List Int32) : Prop := s + l.length = n ∧ ∀ j, j < l.length → β (s + j) = lg l j
def hk (l : List Int32) : Nat := match l with | [] => 0 | c :: _ => kof c
section STK
variable {β : Nat → Int32} {n s p k v : Nat} {w R : List Int32}
theorem En.hd {c : Int32} (h : En β n s (c :: R)) : β s = c := h.2 0 (Nat.succ_pos _)
theorem En.dr (h : En β n s (w ++ R)) : En β n (s + w.length) R := by
  refine ⟨by have := h.1; rw [List.length_append] at this; omega, fun j hj => ?_⟩
  have := h.2 (w.length + j) (by rw [List.length_append]; omega)
  rw [lg_ap, if_neg (by omega), show w.length + j - w.length = j by omega, ← Nat.add_assoc] at this
  exact this
theorem En.lf (h : En β n s (w ++ R)) : s + w.length ≤ n ∧ ∀ j, j < w.length → β (s + j) = lg w j := by
  refine ⟨by have := h.1; rw [List.length_append] at this; omega, fun j hj => ?_⟩
  have := h.2 j (by rw [List.length_append]; omega)
  rw [lg_ap, if_pos hj] at this
  exact this
theorem En.kk (h : En β n s R) (hs : s < n) : kof (β s) = hk R := by
  cases R with
  | nil => exfalso; have := h.1; simp only [List.length_nil] at this; omega
  | cons c R => rw [h.hd]; rfl
theorem rnd_eq {q : Nat} (h1 : p ≤ q) (h2 : q ≤ n) (h3 : ∀ j, p ≤ j → j < q → kof (β j) = k) (h4 : q < n → kof (β q) ≠ k) : rnd β n k p = q := by
  have a := rnd_ge (β := β) (n := n) (k := k) (p := p)
  have b := rnd_le (β := β) (n := n) (k := k) (p := p) (by omega)
  rcases Nat.lt_trichotomy (rnd β n k p) q with c | c | c
  · exact absurd (h3 _ a c) (rnd_end (by omega) (by omega))
  · exact c
  · exact absurd (rnd_in (β := β) (n := n) (k := k) h1 c) (h4 (by omega))
theorem lg_kof (hw : ∀ c ∈ w, kof c = k) {j : Nat} (hj : j < w.length) : kof (lg w j) = k := by
  unfold lg
  rw [List.getD_eq_getElem?_getD, List.getElem?_eq_getElem hj]
  exact hw _ (List.getElem_mem hj)
/-- a run of one kind -/
theorem tk_run (h : En β n s (w ++ R)) (hw : ∀ c ∈ w, kof c = k) (h0 : w ≠ []) (hk' : k = 1 ∨ k = 2) (hR : hk R ≠ k) : tkd β n s = k ∧ te β n s = s + w.length := by
  have hl : 0 < w.length := List.length_pos_iff.mpr h0
  have a := h.lf
  have b := h.dr
  have k0 : kof (β s) = k := by have := a.2 0 hl; rw [Nat.add_zero] at this; rw [this]; exact lg_kof hw hl
  refine ⟨by rw [tkd_y (by omega)]; exact k0, ?_⟩
  rw [te_r (by omega) (by rw [k0]; exact hk'), k0]
  refine rnd_eq (by omega) a.1 (fun j h1 h2 => ?_) fun h2 => by rw [b.kk h2]; exact hR
  have := a.2 (j - s) (by omega)
  rw [show s + (j - s) = j by omega] at this
  rw [this]
  exact lg_kof hw (by omega)
theorem nx_b (he : te β n s = p) (h : En β n p (32 :: R)) (hR : hk R ≠ 5) : nx β n s = p + 1 ∧ En β n (p + 1) R := by
  have b : En β n (p + 1) R := En.dr (w := [32]) h
  refine ⟨?_, b⟩
  unfold nx
  rw [he]
  have := h.1
  simp only [List.length_cons] at this
  refine rnd_eq (by omega) (by omega) (fun j h1 h2 => ?_) fun h2 => by rw [b.kk h2]; exact hR
  obtain rfl : j = p := by omega
  rw [h.hd]
  decide
theorem nx_0 (he : te β n s = p) (h : En β n p R) (hR : hk R ≠ 5) : nx β n s = p := by
  unfold nx
  rw [he]
  exact rnd_0 fun h2 => by rw [h.kk h2]; exact hR
theorem tk_1 {c : Int32} (h : En β n s (c :: R)) (hc : kof c ≠ 1 ∧ kof c ≠ 2) : tkd β n s = kof c ∧ te β n s = s + 1 ∧ En β n (s + 1) R := by
  have := h.1
  simp only [List.length_cons] at this
  refine ⟨by rw [tkd_y (by omega), h.hd], te_1 (by omega) (by rw [h.hd]; omega), En.dr (w := [c]) h⟩
/-- a word -/
theorem tk_w (h : En β n s (w ++ 32 :: R)) (hw : ∀ c ∈ w, kof c = 1) (h0 : w ≠ []) (hR : hk R ≠ 5) : tkd β n s = 1 ∧ te β n s = s + w.length ∧ nx β n s = s + w.length + 1 ∧ En β n (s + w.length + 1) R := by
  obtain ⟨a, b⟩ := tk_run h hw h0 (Or.inl rfl) (show hk (32 :: R) ≠ 1 by show kof 32 ≠ 1; decide)
  exact ⟨a, b, nx_b b h.dr hR⟩
theorem wq_c (h : En β n s (w ++ R)) (h1 : tkd β n s = 1) (he : te β n s = s + w.length) {c : Nat} (hc : w = ctx c) : wq β n s c = true := by
  unfold wq
  have e : te β n s - s = w.length := by omega
  rw [h1, e]
  refine and_2.mpr ⟨by decide, and_2.mpr ⟨?_, ?_⟩⟩
  · rw [hc]; exact decide_eq_true rfl
  · refine (mtf_t _ _).mpr fun j _ hj => ?_
    rw [h.lf.2 j (by omega), hc]
    rfl
theorem tl_2 : ∀ c, c < 11 → 3 ≤ tl c := by decide +kernel
theorem wo_1 (he : te β n s = s + 1) : wo β n s = none := by
  cases e : wo β n s with
  | none => rfl
  | some c =>
    obtain ⟨hc, hq⟩ := wo_t.mp e
    unfold wq at hq
    rw [and_2, and_2, decide_eq_true_eq, decide_eq_true_eq] at hq
    have := tl_2 c hc
    omega
theorem dg_k : ∀ v, v < 128 → (dgt v).all (fun c => decide (kof c = 2)) = true ∧ dgt v ≠ [] ∧ vl (lg (dgt v)) 0 (dgt v).length = v := by decide +kernel
theorem vl_cg {β' : Nat → Int32} {s' : Nat} : ∀ i, (∀ j, j < i → β (s + j) = β' (s' + j)) → vl β s i = vl β' s' i
  | 0, _ => rfl
  | i + 1, h => by
    rw [vl_s, vl_s, vl_cg i fun j hj => h j (by omega), h i (by omega)]
theorem dg_a {v : Nat} (hv : v < 128) : ∀ c ∈ dgt v, kof c = 2 := fun c hc => of_decide_eq_true (List.all_eq_true.mp (dg_k v hv).1 c hc)
theorem hk_ap (h : w ≠ []) : hk (w ++ R) = hk w := by
  cases w with
  | nil => exact absurd rfl h
  | cons c w => rfl
theorem hk_dg {v : Nat} (hv : v < 128) : hk (dgt v ++ R) = 2 := by
  have h0 := (dg_k v hv).2.1
  rw [hk_ap h0]
  have ha := dg_a hv
  cases e : dgt v with
  | nil => exact absurd e h0
  | cons c w => rw [e] at ha; exact ha c List.mem_cons_self
theorem nb_v (h : En β n s (dgt v ++ R)) (hv : v < 128) (hR : hk R ≠ 2) {lo hi : Int32} (hr : in32 (nI v) lo hi = true) : nb β n s lo hi = .inr (nI v, nx β n s) ∧ te β n s = s + (dgt v).length ∧ tkd β n s = 2 := by
  obtain ⟨h1, h2, h3⟩ := dg_k v hv
  obtain ⟨a, b⟩ := tk_run h (dg_a hv) h2 (Or.inr rfl) hR
  have hl := (dq8 v hv).1
  have ev : vl β s (te β n s - s) = v := by
    rw [show te β n s - s = (dgt v).length by omega, vl_cg (β' := lg (dgt v)) (s' := 0) _ fun j hj => by rw [h.lf.2 j hj, Nat.zero_add]]
    exact h3
  refine ⟨?_, b, a⟩
  unfold nb isn
  rw [if_pos (and_2.mpr ⟨decide_eq_true a, decide_eq_true (by omega)⟩), ev, if_pos hr]
/-- a number and a blank; a number and no blank -/
theorem nb_b (h : En β n s (dgt v ++ 32 :: R)) (hv : v < 128) (hR : hk R ≠ 5) {lo hi : Int32} (hr : in32 (nI v) lo hi = true) : ∃ t, nb β n s lo hi = .inr (nI v, t) ∧ En β n t R := by
  obtain ⟨a, b, -⟩ := nb_v h hv (show hk (32 :: R) ≠ 2 by show kof 32 ≠ 2; decide) hr
  obtain ⟨c, d⟩ := nx_b b h.dr hR
  exact ⟨_, by rw [a, c], d⟩
theorem nb_0 (h : En β n s (dgt v ++ 59 :: R)) (hv : v < 128) {lo hi : Int32} (hr : in32 (nI v) lo hi = true) : ∃ t, nb β n s lo hi = .inr (nI v, t) ∧ En β n t (59 :: R) := by
  have k4 : hk (59 :: R) = 4 := by show kof 59 = 4; decide
  obtain ⟨a, b, -⟩ := nb_v h hv (by omega) hr
  exact ⟨_, by rw [a, nx_0 b h.dr (by omega)], h.dr⟩
theorem ps_e_y (h : En β n s (59 :: R)) (hR : hk R ≠ 5) {σ : Nat → Int32} {ν : Nat → Nat} {nk nw : Nat} {τ : Int32} : ps_e β n (σ, ν, nk, nw, τ, s) = .inr (σ, ν, nk, nw, τ, s + 1) ∧ En β n (s + 1) R := by
  obtain ⟨a, b, c⟩ := tk_1 h (by decide)
  refine ⟨?_, c⟩
  show (if tkd β n s = 4 then (.inr (σ, ν, nk, nw, τ, nx β n s) : (Nat × Nat) ⊕ PS) else .inl (1, s)) = _
  rw [if_pos (a.trans (by decide)), nx_0 b c hR]
theorem opt_y (h : En β n s (w ++ 32 :: R)) (hw : ∀ c ∈ w, kof c = 1) (h0 : w ≠ []) (hR : hk R ≠ 5) {c : Nat} (hc : w = ctx c) {lo hi d : Int32} : ∃ t, opt β n s c lo hi d = nb β n t lo hi ∧ En β n t R := by
  obtain ⟨a, b, e, f⟩ := tk_w h hw h0 hR
  refine ⟨_, ?_, f⟩
  unfold opt
  rw [if_pos (wq_c h a b hc), e]
theorem ctx_k : ∀ c, c < 11 → (ctx c).all (fun x => decide (kof x = 1)) = true ∧ ctx c ≠ [] := by decide +kernel
theorem ctx_a {c : Nat} (hc : c < 11) : ∀ x ∈ ctx c, kof x = 1 := fun x hx => of_decide_eq_true (List.all_eq_true.mp (ctx_k c hc).1 x hx)
theorem hk_ctx {c : Nat} (hc : c < 11) : hk (ctx c ++ R) = 1 := by
  have h0 := (ctx_k c hc).2
  rw [hk_ap h0]
  have ha := ctx_a hc
  cases e : ctx c with
  | nil => exact absurd e h0
  | cons x w => rw [e] at ha; exact ha x List.mem_cons_self
theorem in_v {v lo hi : Nat} (h : lo ≤ v ∧ v ≤ hi) (hh : hi ≤ 1000) : in32 (nI v) (nI lo) (nI hi) = true := in32_t.mpr ⟨by rw [mi_t (by omega), mi_t (by omega)]; omega, by rw [mi_t (by omega), mi_t (by omega)]; omega⟩
/-- which statement begins here -/
theorem wo_c (h : En β n s (ctx k ++ 32 :: R)) (hk' : k < 11) (hR : hk R ≠ 5) : wo β n s = some k ∧ tkd β n s = 1 ∧ nx β n s = s + (ctx k).length + 1 ∧ En β n (s + (ctx k).length + 1) R := by
  obtain ⟨a, b, e, f⟩ := tk_w h (ctx_a hk') (ctx_k k hk').2 hR
  exact ⟨wo_t.mpr ⟨hk', wq_c h a b rfl⟩, a, e, f⟩
end STK
