/-! statements of a setup text: what they tell, and the class -/
def bnd {α γ : Type} (o : (Nat × Nat) ⊕ α) (f : α → (Nat × Nat) ⊕ γ) : (Nat × Nat) ⊕ γ := match o with | .inl e => .inl e | .inr a => f a
/-- row, names, how many kites and winds, settings told, where -/
abbrev PS : Type := (Nat → Int32) × (Nat → Nat) × Nat × Nat × Int32 × Nat
def nmo (β : Nat → Int32) (n : Nat) (ν : Nat → Nat) (nk s : Nat) : (Nat × Nat) ⊕ Nat := if tkd β n s = 1 ∧ te β n s - s ≤ 6 ∧ wo β n s = none then (if nof ν nk (inp β s (te β n s - s)) = none then .inr (nx β n s) else .inl (3, s)) else .inl (1, s)
/-- the number of the name at s -/
def nvs (β : Nat → Int32) (n s : Nat) : Nat := nv β s (te β n s - s)
def kst (β : Nat → Int32) (n s : Nat) : (Nat × Nat) ⊕ (Int32 × Int32 × Int32 × Int32 × Int32 × Nat) :=
  bnd (nb β n s 0 199) fun x => bnd (nb β n x.2 0 199) fun y => bnd (opt β n y.2 8 0 9 1) fun h => bnd (opt β n h.2 9 1 99 20) fun t => bnd (opt β n t.2 10 1 400 10) fun o => .inr (x.1, y.1, h.1, t.1, o.1, o.2)
/-- a row with one kite more -/
def rk (σ : Nat → Int32) (k : Nat) (x y sh to ou : Int32) (v : Nat) : Nat → Int32 :=
  up (lay (lay (lay (lay (lay (lay (lay (lay (lay (lay (lay σ k 0 1) k 4 x) k 5 y) k 1 x) k 2 y) k 6 ou) k 8 sh) k 9 to) k 12 (-1)) k 13 (-1)) k 14 (nI v)) 1 (nI (k + 1))
/-- a row with one wind more -/
def rw3 (σ : Nat → Int32) (w : Nat) (l x y : Int32) : Nat → Int32 := up (up (up (up σ (11 + 3 * w + 0) l) (11 + 3 * w + 1) x) (11 + 3 * w + 2) y) 2 (nI (w + 1))
def bit (w : Nat) : Int32 := 1 <<< (nI w &&& 31)
def ps_k (β : Nat → Int32) (n : Nat) : PS → (Nat × Nat) ⊕ PS
  | (σ, ν, nk, nw, τ, s) => if nk = 10 then .inl (4, s) else bnd (nmo β n ν nk (nx β n s)) fun t => bnd (kst β n t) fun q => .inr (rk σ nk q.1 q.2.1 q.2.2.1 q.2.2.2.1 q.2.2.2.2.1 (nvs β n (nx β n s)), nu1 ν nk (nvs β n (nx β n s)), nk + 1, nw, τ, q.2.2.2.2.2)
def wlo (σ : Nat → Int32) (nw : Nat) : Int32 := if nw = 0 then 0 else wf σ (nw - 1) 0 + 1
def whi (nw : Nat) : Int32 := if nw = 0 then 0 else 300
def ps_w (β : Nat → Int32) (n : Nat) : PS → (Nat × Nat) ⊕ PS
  | (σ, ν, nk, nw, τ, s) => if nw = 4 then .inl (4, s) else bnd (nb β n (nx β n s) (wlo σ nw) (whi nw)) fun l => bnd (spd β n l.2) fun x => bnd (spd β n x.2) fun y => .inr (rw3 σ nw l.1 x.1 y.1, ν, nk, nw + 1, τ, y.2)
def ps_s (β : Nat → Int32) (n w : Nat) : PS → (Nat × Nat) ⊕ PS
  | (σ, ν, nk, nw, τ, s) => if τ &&& bit w = 0 then bnd (nb β n (nx β n s) (lo6 w) (hi6 w)) fun v => .inr (up σ (3 + w) v.1, ν, nk, nw, τ ||| bit w, v.2) else .inl (3, s)
def ps_1 (β : Nat → Int32) (n : Nat) (q : PS) : (Nat × Nat) ⊕ PS := match wo β n q.2.2.2.2.2 with
  | some c => if c = 0 then ps_k β n q else if c = 1 then ps_w β n q else if c < 8 then ps_s β n (c - 2) q else .inl (1, q.2.2.2.2.2)
  | none => .inl (1, q.2.2.2.2.2)
def ps_e (β : Nat → Int32) (n : Nat) : PS → (Nat × Nat) ⊕ PS
  | (σ, ν, nk, nw, τ, s) => if tkd β n s = 4 then .inr (σ, ν, nk, nw, τ, nx β n s) else .inl (1, s)
def ps_2 (β : Nat → Int32) (n : Nat) (q : PS) : (Nat × Nat) ⊕ PS := bnd (ps_1 β n q) (ps_e β n)
/-! the class -/
def Pc (β : Nat → Int32) (n : Nat) : PS → ak_M → Prop
  | (σ, ν, nk, nw, τ, s), M => Ic β n M ∧ Tc β n s M ∧ Rb 6 σ nk nw 0 0 M ∧ Nn 38 ν nk M ∧ ak_I M 5 3 = τ ∧ ak_I M 5 5 = 0 ∧ ak_I M 5 6 = (-1)
def cst {α : Type} (X : ak_X) (k : Nat) (as : List Value) (M : ak_M) (o : (Nat × Nat) ⊕ α) (R : α → ak_M → Prop) : Prop := match o with
  | .inl e => bad X k as M e
  | .inr q => ∃ M', rn X k as M (.inl (some (.int 1)), M') ∧ fr cA M M' ∧ R q M'
/-- one number of a row changed -/
def ru (f : Nat → Int32) (k : Nat) (v : Int32) : Nat → Int32 := fun j => if j = k then v else f j
def kr0 (x y : Int32) (f : Nat → Int32) : Nat → Int32 := ru (ru (ru (ru (ru (ru (ru (ru (ru (ru (ru (ru (ru (ru f 4 x) 5 y) 0 1) 1 x) 2 y) 3 0) 7 0) 8 1) 9 20) 6 10) 10 0) 11 0) 12 (-1)) 13 (-1)
section SST
variable {X : ak_X} {M M1 : ak_M} {β : Nat → Int32} {n s nk nw : Nat} {ν : Nat → Nat} {σ : Nat → Int32} {τ : Int32}
theorem sI_ru {p k : Nat} {v : Int32} : ak_I (ak_sI M p k v) p = ru (ak_I M p) k v := by
  funext j
  unfold ru
  rw [mb_sI]
  by_cases c : j = k
  · rw [if_pos c, if_pos ⟨rfl, c⟩]
  · rw [if_neg c, if_neg fun e => c e.2]
theorem rb_f6 {S : Nat → Nat → Prop} (h : Rb 6 σ nk nw 0 0 M) (h10 : nk ≤ 10) (h4 : nw ≤ 4) (f : fr S M M1) (hS : ∀ p k, S p k → p < 6 ∨ 38 ≤ p) : Rb 6 σ nk nw 0 0 M1 := by
  have e : ∀ p, 6 ≤ p → p < 38 → ak_I M1 p = ak_I M p := fun p h1 h2 => f.row fun k hs => by
    have := hS p k hs
    omega
  obtain ⟨a1, a2, a3, a4, a5, a6⟩ := h
  refine ⟨a1, by rw [e 6 (by decide) (by decide)]; exact a2, fun k hk w hw => ?_, fun i hi w hw => ?_, fun j hj => ?_, fun j hj => absurd hj (Nat.not_lt_zero _)⟩
  · rw [e _ (by omega) (by omega)]; exact a3 k hk w hw
  · rw [e _ (by omega) (by omega)]; exact a4 i hi w hw
  · rw [e _ (by omega) (by omega)]; exact a5 j hj
theorem Nn.ff {S : Nat → Nat → Prop} {u : Nat} (h : Nn u ν nk M) (f : fr S M M1) (hS : ∀ p k, S p k → p < u ∨ u + 12 < p) : Nn u ν nk M1 := by
  have e : ∀ p, u ≤ p → p ≤ u + 12 → ak_I M1 p = ak_I M p := fun p h1 h2 => f.row fun k hs => by
    have := hS p k hs
    omega
  have h10 := h.1
  refine ⟨h.1, by rw [e u (by omega) (by omega)]; exact h.2.1, fun k hk => ?_⟩
  obtain ⟨n1, n2, n3⟩ := h.2.2 k hk
  refine ⟨n1, by rw [e _ (by omega) (by omega)]; exact n2, fun j hj => ?_⟩
  rw [e _ (by omega) (by omega)]
  exact n3 j hj
theorem sk_36 (hL : ab_lay M) {k : Nat} (hk : k < 10) (x y : Int32) : ∃ M', rn X 36 [.ref (6 + 6 + k), .int x, .int y] M (.inl none, M') ∧ fr (fun p _ => p = 6 + 6 + k) M M' ∧ ak_I M' (6 + 6 + k) = kr0 x y (ak_I M (6 + 6 + k)) := by
  have hb : 6 ∈ ab_fb := by decide
  obtain ⟨p, hp⟩ : ∃ p, p = 6 + 6 + k := ⟨_, rfl⟩
  have st : ∀ {N : ak_M} {w : Nat} {v : Int32}, fr (fun u _ => u = 6 + 6 + k) M N → fr (fun u _ => u = 6 + 6 + k) M (ak_sI N (6 + 6 + k) w v) := fun f => f.st rfl
  generalize g1 : ak_sI M (6 + 6 + k) 4 x = M1
  have f1 := st (w := 4) (v := x) (fr.rf hL)
  have q1 : ak_I M1 (6 + 6 + k) = ru (ak_I M (6 + 6 + k)) 4 x := by rw [← g1, sI_ru]
  rw [g1] at f1
  generalize g2 : ak_sI M1 (6 + 6 + k) 5 y = M2
  have f2 := st (w := 5) (v := y) f1
  have q2 : ak_I M2 (6 + 6 + k) = ru (ru (ak_I M (6 + 6 + k)) 4 x) 5 y := by rw [← g2, sI_ru, q1]
  rw [g2] at f2
  generalize g3 : ak_sI M2 (6 + 6 + k) 0 1 = M3
  have f3 := st (w := 0) (v := 1) f2
  have q3 : ak_I M3 (6 + 6 + k) = ru (ru (ru (ak_I M (6 + 6 + k)) 4 x) 5 y) 0 1 := by rw [← g3, sI_ru, q2]
  rw [g3] at f3
  have x4 : ak_I M3 (6 + 6 + k) 4 = x := by rw [q3]; rfl
  generalize g4 : ak_sI M3 (6 + 6 + k) 1 x = M4
  have f4 := st (w := 1) (v := x) f3
  have q4 : ak_I M4 (6 + 6 + k) = ru (ru (ru (ru (ak_I M (6 + 6 + k)) 4 x) 5 y) 0 1) 1 x := by rw [← g4, sI_ru, q3]
  rw [g4] at f4
  have x5 : ak_I M4 (6 + 6 + k) 5 = y := by rw [q4]; rfl
  generalize g5 : ak_sI M4 (6 + 6 + k) 2 y = M5
  have f5 := st (w := 2) (v := y) f4
  have q5 : ak_I M5 (6 + 6 + k) = ru (ru (ru (ru (ru (ak_I M (6 + 6 + k)) 4 x) 5 y) 0 1) 1 x) 2 y := by rw [← g5, sI_ru, q4]
  rw [g5] at f5
  generalize g6 : ak_sI M5 (6 + 6 + k) 3 0 = M6
  have f6 := st (w := 3) (v := 0) f5
  have q6 : ak_I M6 (6 + 6 + k) = ru (ru (ru (ru (ru (ru (ak_I M (6 + 6 + k)) 4 x) 5 y) 0 1) 1 x) 2 y) 3 0 := by rw [← g6, sI_ru, q5]
  rw [g6] at f6
  have r38 : rn X 38 [.ref (6 + 6 + k)] M2 (.inl none, M6) := t_38 f2.1 hb hk fun N1 e1 N2 e2 N3 e3 N4 e4 => by
    rw [g3] at e1
    rw [e1, x4, g4] at e2
    rw [e2, x5, g5] at e3
    rw [e3, g6] at e4
    rw [e4]
  refine ⟨_, t_36 hL hb hk _ _ fun N1 e1 N2 e2 => ?_, ((((((((st (w := 7) (v := 0) f6).st (p := 6 + 6 + k) (k := 8) (v := 1) rfl).st (p := 6 + 6 + k) (k := 9) (v := 20) rfl).st (p := 6 + 6 + k) (k := 6) (v := 10) rfl).st (p := 6 + 6 + k) (k := 10) (v := 0) rfl).st (p := 6 + 6 + k) (k := 11) (v := 0) rfl).st (p := 6 + 6 + k) (k := 12) (v := (-1)) rfl).st (p := 6 + 6 + k) (k := 13) (v := (-1)) rfl), ?_⟩
  · rw [g1] at e1
    rw [e1, g2] at e2
    rw [e2]
    exact ⟨M6, f6.1, r38, fun N4 e4 N5 e5 N6 e6 N7 e7 N8 e8 N9 e9 N10 e10 N11 e11 => by rw [e11, e10, e9, e8, e7, e6, e5, e4]⟩
  · rw [sI_ru, sI_ru, sI_ru, sI_ru, sI_ru, sI_ru, sI_ru, sI_ru, q6]
    rfl
def cNN (p _k : Nat) : Prop := p = 51 ∨ (38 ≤ p ∧ p ≤ 50)
theorem h38 : 38 ∈ ab_nb := by decide
theorem h6 : 6 ∈ ab_fb := by decide
theorem sk_64 (hL : ab_lay M) (h : Ic β n M) (hT : Tc β n s M) (hN : Nn 38 ν nk M) (hk : nk < 10) : match nmo β n ν nk s with
    | .inl e => bad X 64 [.ref 5] M e
    | .inr t => ∃ M', rn X 64 [.ref 5] M (.inl (some (.int 1)), M') ∧ fr cNN M M' ∧ Tc β n t M' ∧ Nn 38 (nu1 ν nk (nvs β n s)) (nk + 1) M' := by
  have h7 := h.1
  have hsn := hT.1.1
  have t1 := te_le (β := β) hsn
  have t0 := te_ge (β := β) (n := n) (s := s)
  have s72 := sk_72 (X := X) hL h hT
  have wl := fun c => (wo_t (β := β) (n := n) (s := s) (c := c))
  unfold nmo
  by_cases k1 : tkd β n s = 1
  · have c1 : ak_I M 51 1 = 1 := (hT.k (m := 1) (by decide)).mpr k1
    by_cases k2 : te β n s - s ≤ 6
    · have c2 : ¬ 6 < ak_I M 51 3 := by rw [hT.2.2.1, show (6 : Int32) = nI 6 from rfl, mi_lt (by decide) (by omega)]; omega
      cases k3 : wo β n s with
      | none =>
        rw [k3] at s72
        have s51 := sk_51 (X := X) (u := 38) (s := s) (L := te β n s - s) hL h38 h.2.2 h7 hN (by omega)
        have a51 : rn X 51 [.ref 38, .ref 2, .int (ak_I M 51 2), .int (ak_I M 51 3)] M (.inl (some (.int (oI (nof ν nk (inp β s (te β n s - s)))))), M) := by rw [hT.2.1, hT.2.2.1]; exact s51
        rw [if_pos ⟨k1, k2, rfl⟩]
        cases k4 : nof ν nk (inp β s (te β n s - s)) with
        | none =>
          rw [k4] at a51
          rw [if_pos rfl]
          have hs := tkd_i (β := β) (n := n) (s := s) (by omega)
          have t2 := te_lt (β := β) hs
          obtain ⟨L, hLn⟩ : ∃ L, te β n s - s = L + 1 := ⟨te β n s - s - 1, by omega⟩
          obtain ⟨M2, r2, f2, n2⟩ := sk_50 (X := X) (u := 38) (s := s) (L := L) hL h38 h.2.2 h7 hN hk (by omega) (by omega) fun i hi => (tkd_in (Or.inl k1) (Nat.le_add_right s i) (by omega)).trans k1
          have g2 : fr cNN M M2 := f2.mo fun p k e => Or.inr e
          have I2 := h.ff g2 fun p k e => by unfold cNN at e; omega
          have T2 := hT.ff f2 fun p k e => by unfold cNm at e; omega
          obtain ⟨M3, r3, f3, t3⟩ := sk_76t (X := X) f2.1 I2 T2
          refine ⟨M3, t_64 hL (mb_y c1 (mb_n c2 ⟨_, M, hL, s72, mb_y rfl ⟨_, M, hL, a51, mb_y rfl ⟨M2, f2.1, ?_, M3, f3.1, r3, rfl⟩⟩⟩)), g2.tr (f3.mo fun p k e => Or.inl e), t3, ?_⟩
          · rw [hT.2.1, hT.2.2.1, hLn]
            exact r2
          · unfold nvs
            rw [hLn]
            exact n2.ff f3 fun p k e => by unfold cT at e; omega
        | some k =>
          rw [k4] at a51
          have kl := wof_s nk 0 k k4
          rw [if_neg (fun e => by cases e)]
          exact bad_in (c := 3) (fr.rf hL) (sk_71a hL hT 3) fun r hr => t_64 hL (mb_y c1 (mb_n c2 ⟨_, M, hL, s72, mb_y rfl ⟨_, M, hL, a51, mb_n (mi_n1 (a := k) (by omega)) hr⟩⟩))
      | some c =>
        rw [k3] at s72
        have cl := (wl c).mp k3
        rw [if_neg fun e => by cases e.2.2]
        exact bad_in (c := 1) (fr.rf hL) (sk_71a hL hT 1) fun r hr => t_64 hL (mb_y c1 (mb_n c2 ⟨_, M, hL, s72, mb_n (mi_n1 (a := c) (by omega)) hr⟩))
    · have c2 : 6 < ak_I M 51 3 := by rw [hT.2.2.1, show (6 : Int32) = nI 6 from rfl, mi_lt (by decide) (by omega)]; omega
      rw [if_neg fun e => k2 e.2.1]
      exact bad_in (c := 1) (fr.rf hL) (sk_71a hL hT 1) fun r hr => t_64 hL (mb_y c1 (mb_y c2 hr))
  · rw [if_neg fun e => k1 e.1]
    exact bad_in (c := 1) (fr.rf hL) (sk_71a hL hT 1) fun r hr => t_64 hL (mb_n (fun e => k1 ((hT.k (m := 1) (by decide)).mp e)) hr)
end SST
