/-! the text that is made -/
def lg (L : List Int32) (j : Nat) : Int32 := L.getD j 0
def c7 (L : List Int32) : Prop := ∀ j, j < L.length → isC7 (lg L j) = true
/-- i places later, none of the old ones touched -/
def gr (i : Nat) (M M' : ak_M) : Prop := ab_lay M' ∧ (∀ p k, p < 483 → ak_I M' p k = ak_I M p k) ∧ (ak_P M ≤ ak_P M' ∧ ak_P M' ≤ ak_P M + i) ∧ ak_C M' ≤ ak_C M + i ∧ ak_Z M' ≤ ak_Z M + 1500 * i
def Sq (p q cap : Nat) (L : List Int32) (M : ak_M) : Prop := (483 ≤ p ∧ p < ak_P M ∧ ak_K M p = 12 ∧ ak_R M p 0 = some q ∧ ak_I M p 1 = 0 ∧ ak_I M p 3 = nI L.length) ∧ (483 ≤ q ∧ q < ak_P M ∧ q ≠ p ∧ ak_K M q = 101 ∧ ak_N M q = cap ∧ L.length ≤ cap ∧ cap ≤ 1500) ∧ (∀ j, j < cap → isC7 (ak_I M q j) = true) ∧ ∀ j, j < L.length → ak_I M q j = lg L j
section SSB
variable {X : ak_X} {M M1 M' M2 : ak_M} {p q cap i j m kd ln z : Nat} {L L' : List Int32} {r : ak_O × ak_M}
theorem gr.rf (hL : ab_lay M) : gr 0 M M := ⟨hL, fun _ _ _ => rfl, by omega, by omega, by omega⟩
theorem gr.tr (h : gr i M M') (g : gr j M' M2) : gr (i + j) M M2 := ⟨g.1, fun p k hs => (g.2.1 p k hs).trans (h.2.1 p k hs), by have := h.2.2.1; have := g.2.2.1; omega, by have := h.2.2.2.1; have := g.2.2.2.1; omega, by have := h.2.2.2.2; have := g.2.2.2.2; omega⟩
theorem gr.mo (h : gr i M M') (hij : i ≤ j) : gr j M M' := ⟨h.1, h.2.1, by have := h.2.2.1; omega, by have := h.2.2.2.1; omega, by have := h.2.2.2.2; omega⟩
theorem lay_new (h : ab_lay M) (hP : ak_P M < 800000) : ab_lay (ak_new M kd ln z) := by
  refine ⟨⟨?_, ?_⟩, fun p hp => ?_, fun p hp k hk => ?_⟩
  · show 483 ≤ ak_P M + 1; have := h.1.1; omega
  · show ak_P M + 1 ≤ 800000; omega
  · have e : ¬ p = ak_P M := by have := h.1.1; omega
    show (if p = ak_P M then kd else ak_K M p) = _ ∧ (if p = ak_P M then ln else ak_N M p) = _
    rw [if_neg e, if_neg e]; exact h.2.1 p hp
  · have e : ¬ p = ak_P M := by have := h.1.1; omega
    show (if p = ak_P M then none else ak_R M p k) = _
    rw [if_neg e]; exact h.2.2 p hp k hk
theorem lay_sR {v : Option Nat} {f : Nat} (h : ab_lay M) (hp : 483 ≤ p) : ab_lay (ak_sR M p f v) := by
  refine ⟨h.1, h.2.1, fun x hx k hk => ?_⟩
  show (if x = p ∧ k = f then v else ak_R M x k) = _
  rw [if_neg (fun e => by omega)]; exact h.2.2 x hx k hk
theorem gr_nw (h : ab_lay M) (hP : ak_P M < 800000) (hz : z ≤ 1500) : gr 1 M (ak_new M kd ln z) := by
  refine ⟨lay_new h hP, fun p k hp => ?_, ⟨?_, ?_⟩, ?_, ?_⟩
  · have e : ¬ p = ak_P M := by have := h.1.1; omega
    show (if p = ak_P M then 0 else ak_I M p k) = _
    rw [if_neg e]
  · show ak_P M ≤ ak_P M + 1; omega
  · show ak_P M + 1 ≤ ak_P M + 1; omega
  · show ak_C M + 1 ≤ ak_C M + 1; omega
  · show ak_Z M + z ≤ ak_Z M + 1500 * 1; omega
theorem gr_sR {v : Option Nat} {f : Nat} (h : ab_lay M) (hp : 483 ≤ p) : gr 0 M (ak_sR M p f v) := ⟨lay_sR h hp, fun _ _ _ => rfl, ⟨Nat.le_refl _, Nat.le_refl _⟩, Nat.le_refl _, Nat.le_refl _⟩
theorem gr_sI {v : Int32} {f : Nat} (h : ab_lay M) (hp : 483 ≤ p) : gr 0 M (ak_sI M p f v) := ⟨h, fun x k hx => if_neg fun e => by omega, ⟨Nat.le_refl _, Nat.le_refl _⟩, Nat.le_refl _, Nat.le_refl _⟩
theorem gr_cpy {f : Nat → Int32} {sp dp n : Nat} (h : ab_lay M) (hp : 483 ≤ p) : gr 0 M (ak_cpy M f p sp dp n) := ⟨h, fun x k hx => if_neg fun e => by omega, ⟨Nat.le_refl _, Nat.le_refl _⟩, Nat.le_refl _, Nat.le_refl _⟩
theorem sh_r (x : Int32) : x >>> ((0 : Int32) &&& 31) = x := by
  rw [show (0 : Int32) &&& 31 = 0 by decide]; exact Int32.shiftRight_zero
theorem sh_l (x : Int32) : x <<< ((0 : Int32) &&& 31) = x := by
  rw [show (0 : Int32) &&& 31 = 0 by decide]; exact Int32.shiftLeft_zero
theorem all_r {n : Nat} {f : Nat → Bool} (h : ∀ i, i < n → f i = true) : (List.range n).all f = true := List.all_eq_true.mpr fun i hi => h i (List.mem_range.mp hi)
theorem c7_B0 : ∀ c, c < 128 → ak_isB (nI c) = true := by decide +kernel
theorem c7_B {x : Int32} (h : isC7 x = true) : ak_isB x = true := by obtain ⟨c, hc, rfl⟩ := c7_n h; exact c7_B0 c hc
theorem c7_b0 : ∀ c, c < 128 → vp_nar .byte (nI c) = nI c ∧ vp_nar .byte ((nI c).toInt8.toInt32) = nI c ∧ isC7 (nI c) = true := by decide +kernel
theorem c7_b {x : Int32} (h : isC7 x = true) : vp_nar .byte x = x := by obtain ⟨c, hc, rfl⟩ := c7_n h; exact (c7_b0 c hc).1
theorem c7_z : isC7 0 = true := by decide
theorem nI_nn2 {n : Nat} (h : n < 2147483648) : ¬ nI n < 0 := nI_nn h
theorem rc_p (h : p < ak_P M) (hk : ak_K M p = kd) : ak_rc M p = kd := by unfold ak_rc; rw [if_pos h, hk]
theorem by_p {k : Nat} (h : q < ak_P M) : ak_by X M q k = ak_I M q k := if_pos h
theorem bn_p (h : q < ak_P M) : ak_bn X M q = ak_N M q := if_pos h
theorem isb_p (h : q < ak_P M) (hk : ak_K M q = 101) : ak_isb M q = true := by unfold ak_isb; rw [if_pos h, hk]; rfl
theorem mx_n {a b : Nat} (ha : a < 2147483648) (hb : b < 2147483648) : mx32 (nI a) (nI b) = nI (max a b) := by
  unfold mx32
  by_cases h : a < b
  · rw [if_pos ((mi_lt ha hb).mpr h), Nat.max_eq_right (by omega)]
  · rw [if_neg (fun e => h ((mi_lt ha hb).mp e)), Nat.max_eq_left (by omega)]
theorem mn_n {a b : Nat} (ha : a < 2147483648) (hb : b < 2147483648) : mn32 (nI a) (nI b) = nI (min a b) := by
  unfold mn32
  by_cases h : b < a
  · rw [if_pos ((mi_lt hb ha).mpr h), Nat.min_eq_right (by omega)]
  · rw [if_neg (fun e => h ((mi_lt hb ha).mp e)), Nat.min_eq_left (by omega)]
theorem mi_sb {a b : Nat} (h : b ≤ a) : nI a - nI b = nI (a - b) := mi_sbn h
theorem d325 (hL : ab_lay M) {a b c : Nat} (h0 : 0 < a + max b c) (h : a + max b c ≤ 10000) (hb : b ≤ 10000) (hc : c ≤ 10000) : rn X 325 [.int (nI a), .int (nI b), .int (nI c)] M (.inl (some (.int (nI (a + max b c)))), M) := by
  have e := mx_n (a := b) (b := c) (by omega) (by omega)
  have e2 : nI a + nI (max b c) = nI (a + max b c) := mi_add _ _
  have r := jm_max (X := X) hL (x := nI b) (y := nI c)
  rw [e] at r
  refine t_325 _ _ _ ⟨_, M, r, ?_⟩
  rw [e2]
  refine mb_n (fun e => ?_) (mb_n (fun e => ?_) rfl)
  · have := (mi_le (b := 0) (by omega) (by omega)).mp e; omega
  · have := (mi_lt (a := 2147483639) (by omega) (by omega)).mp e; omega
theorem d335 (hL : ab_lay M) (h : Sq p q cap L M) (hm : m ≤ 700) (hc : cap < m) : rn X 335 [.ref p, .int (nI m)] M (.inl (some (.int (nI (cap + max (m - cap) (cap + 2))))), M) := by
  obtain ⟨⟨h1, h2, h3, h4, h5, h6⟩, ⟨g1, g2, g3, g4, g5, g6, g7⟩, -, -⟩ := h
  have hp : p < ak_P M ∧ ak_K M p = 12 := ⟨h2, h3⟩
  refine t_335 _ _ ⟨hp, q, h4, ⟨g2, by omega⟩, hp, fun z6 e6 z7 e7 => ⟨hp, ?_⟩⟩
  rw [h5, sh_l] at e6
  rw [g5, e6] at e7
  have e8 : z7 = nI (m - cap) := e7.trans (mi_sb (by omega))
  rw [h5, g5, e8, show (Int32.ofNat cap) + ((2 : Int32) <<< ((0 : Int32) &&& 31)) = nI (cap + 2) by rw [sh_l]; exact mi_add cap 2]
  refine ⟨_, M, d325 hL (by omega) (by omega) (by omega) (by omega), mb_n ?_ ⟨hp, ?_⟩⟩
  · intro e
    have := (mi_eq (b := 2147483647) (by omega) (by omega)).mp e; omega
  · rw [h5, sh_r]
theorem d326 (hL : ab_lay M) (hP : ak_P M < 800000) {c2 : Nat} (hq : q < ak_P M ∧ ak_K M q = 101 ∧ ak_N M q = cap) (hz : ∀ j, j < cap → isC7 (ak_I M q j) = true) (hc : cap < c2) (h2 : c2 ≤ 1500) : rn X 326 [.ref q, .int (nI c2)] M (.inl (some (.ref (ak_P M))), ak_cpy (ak_new M 101 c2 c2) (ak_by X (ak_new M 101 c2 c2) q) (ak_P M) 0 0 cap) := by
  have ec : (nI c2).toNatClampNeg = c2 := mi_c (by omega)
  have hqp : ¬ q = ak_P M := by omega
  have q2 : q < ak_P (ak_new M 101 c2 c2) := by show q < ak_P M + 1; omega
  have k2 : ak_K (ak_new M 101 c2 c2) q = 101 := by show (if q = ak_P M then 101 else ak_K M q) = 101; rw [if_neg hqp]; exact hq.2.1
  have n2 : ak_N (ak_new M 101 c2 c2) q = cap := by show (if q = ak_P M then c2 else ak_N M q) = cap; rw [if_neg hqp]; exact hq.2.2
  have p2 : ak_P M < ak_P (ak_new M 101 c2 c2) := by show ak_P M < ak_P M + 1; omega
  have kp2 : ak_K (ak_new M 101 c2 c2) (ak_P M) = 101 := by show (if ak_P M = ak_P M then 101 else _) = 101; rw [if_pos rfl]
  have np2 : ak_N (ak_new M 101 c2 c2) (ak_P M) = c2 := by show (if ak_P M = ak_P M then c2 else _) = c2; rw [if_pos rfl]
  have i2 : ∀ j, ak_I (ak_new M 101 c2 c2) q j = ak_I M q j := fun j => by show (if q = ak_P M then 0 else ak_I M q j) = _; rw [if_neg hqp]
  have l2 : ab_lay (ak_new M 101 c2 c2) := lay_new hL hP
  have r := jm_min (X := X) l2 (x := nI cap) (y := nI c2)
  rw [mn_n (by omega) (by omega), Nat.min_eq_left (by omega)] at r
  have ecap : (nI cap).toNatClampNeg = cap := mi_c (by omega)
  refine t_326 _ _ ⟨⟨hq.1, by omega⟩, mb_n ?_ ⟨⟨by omega, nI_nn (by omega), by omega⟩, ?_⟩⟩
  · rw [hq.2.2]
    intro e
    have := (mi_eq (a := c2) (b := cap) (by omega) (by omega)).mp e; omega
  · rw [ec]
    intro M2 e2
    subst e2
    refine ⟨⟨q2, by omega⟩, ?_⟩
    rw [n2]
    refine ⟨_, _, r, ?_⟩
    rw [ecap, show (0 : Int32).toNatClampNeg = 0 from rfl]
    refine ⟨⟨p2, kp2, isb_p q2 k2, by decide, by decide, nI_nn (by omega), ?_, ?_, ?_⟩, fun M7 e7 => by rw [e7]⟩
    · rw [bn_p q2, n2]; omega
    · rw [np2]; omega
    · refine all_r fun i hi => ?_
      rw [by_p q2, i2, Nat.zero_add]
      exact c7_B (hz i hi)
theorem sb_ens (hL : ab_lay M) (hP : ak_P M < 800000) (h : Sq p q cap L M) (hm : m ≤ 700) : ∃ M' q' cap', rn X 336 [.ref p, .int (nI m)] M (.inl none, M') ∧ Sq p q' cap' L M' ∧ m ≤ cap' ∧ gr 1 M M' := by
  have h' := h
  obtain ⟨⟨h1, h2, h3, h4, h5, h6⟩, ⟨g1, g2, g3, g4, g5, g6, g7⟩, hz, hg⟩ := h
  have hp : p < ak_P M ∧ ak_K M p = 12 := ⟨h2, h3⟩
  by_cases c : m ≤ cap
  · refine ⟨M, q, cap, t_336 _ _ ⟨hp, q, h4, ⟨g2, by omega⟩, hp, fun z6 e6 => mb_y ?_ rfl⟩, h', c, (gr.rf hL).mo (by omega)⟩
    rw [e6, h5, g5, sh_r]
    show nI m - nI cap ≤ 0
    rw [Int32.le_iff_toInt_le, j3_sub (by rw [mi_t (by omega), mi_t (by omega)]; omega) (by rw [mi_t (by omega), mi_t (by omega)]; omega), mi_t (by omega), mi_t (by omega)]
    show _ ≤ (0 : Int)
    omega
  · have hc2 : cap + max (m - cap) (cap + 2) ≤ 1500 := by omega
    refine ⟨ak_sR (ak_cpy (ak_new M 101 (cap + max (m - cap) (cap + 2)) (cap + max (m - cap) (cap + 2))) (ak_by X (ak_new M 101 (cap + max (m - cap) (cap + 2)) (cap + max (m - cap) (cap + 2))) q) (ak_P M) 0 0 cap) p 0 (some (ak_P M)), ak_P M, cap + max (m - cap) (cap + 2), ?_, ?_, by omega, ?_⟩
    · refine t_336 _ _ ⟨hp, q, h4, ⟨g2, by omega⟩, hp, fun z6 e6 => mb_n ?_ ⟨hp, q, h4, rc_p h2 h3, _, M, d335 hL h' hm (by omega), hp, ?_⟩⟩
      · rw [e6, h5, g5, sh_r]
        show ¬ nI m - nI cap ≤ 0
        rw [Int32.le_iff_toInt_le, j3_sub (by rw [mi_t (by omega), mi_t (by omega)]; omega) (by rw [mi_t (by omega), mi_t (by omega)]; omega), mi_t (by omega), mi_t (by omega)]
        show ¬ _ ≤ (0 : Int)
        omega
      · rw [h5, sh_l]
        have l2 := lay_new (kd := 101) (ln := cap + max (m - cap) (cap + 2)) (z := cap + max (m - cap) (cap + 2)) hL hP
        refine ⟨_, _, d326 hL hP ⟨g2, g4, g5⟩ hz (by omega) hc2, ⟨⟨?_, ?_⟩, ?_⟩, fun M15 e15 => by rw [e15]⟩
        · show p < ak_P M + 1; omega
        · show (if p = ak_P M then 101 else ak_K M p) = 12
          rw [if_neg (by omega)]; exact h3
        · show ak_P M < ak_P M + 1; omega
    · refine ⟨⟨h1, ?_, ?_, ?_, ?_, ?_⟩, ⟨?_, ?_, ?_, ?_, ?_, ?_, hc2⟩, ?_, ?_⟩
      · show p < ak_P M + 1; omega
      · show (if p = ak_P M then 101 else ak_K M p) = 12
        rw [if_neg (by omega)]; exact h3
      · show (if p = p ∧ 0 = 0 then some (ak_P M) else _) = some (ak_P M)
        rw [if_pos ⟨rfl, rfl⟩]
      · show (if p = ak_P M ∧ 0 ≤ 1 ∧ 1 < 0 + cap then _ else if p = ak_P M then 0 else ak_I M p 1) = 0
        rw [if_neg (by omega), if_neg (by omega)]; exact h5
      · show (if p = ak_P M ∧ 0 ≤ 3 ∧ 3 < 0 + cap then _ else if p = ak_P M then 0 else ak_I M p 3) = nI L.length
        rw [if_neg (by omega), if_neg (by omega)]; exact h6
      · have := hL.1.1; omega
      · show ak_P M < ak_P M + 1; omega
      · omega
      · show (if ak_P M = ak_P M then 101 else _) = 101
        rw [if_pos rfl]
      · show (if ak_P M = ak_P M then cap + max (m - cap) (cap + 2) else _) = cap + max (m - cap) (cap + 2)
        rw [if_pos rfl]
      · omega
      · intro j hj
        show isC7 (if ak_P M = ak_P M ∧ 0 ≤ j ∧ j < 0 + cap then (if q < ak_P M + 1 then (if q = ak_P M then 0 else ak_I M q (0 + (j - 0))) else _) else if ak_P M = ak_P M then 0 else ak_I M (ak_P M) j) = true
        by_cases e : j < cap
        · rw [if_pos ⟨rfl, by omega, by omega⟩, if_pos (by omega), if_neg (by omega), show 0 + (j - 0) = j by omega]
          exact hz j e
        · rw [if_neg (by omega), if_pos rfl]; exact c7_z
      · intro j hj
        show (if ak_P M = ak_P M ∧ 0 ≤ j ∧ j < 0 + cap then (if q < ak_P M + 1 then (if q = ak_P M then 0 else ak_I M q (0 + (j - 0))) else _) else if ak_P M = ak_P M then 0 else ak_I M (ak_P M) j) = lg L j
        rw [if_pos ⟨rfl, by omega, by omega⟩, if_pos (by omega), if_neg (by omega), show 0 + (j - 0) = j by omega]
        exact hg j hj
    · exact ((gr_nw hL hP hc2).tr (gr_cpy (lay_new hL hP) (by have := hL.1.1; omega))).tr (gr_sR (lay_new hL hP) h1)
end SSB
