/-! what the law's helpers need besides -/
section SGH
variable {X : ak_X} {mi pc n : Nat} {l1 : List (Option Value)} {l2 : List (Nat × Value)} {st : List Value} {M : ak_M} {r : ak_O × ak_M}
theorem ab_lay.sL {M : ak_M} (h : ab_lay M) {p k : Nat} {v : Int64} : ab_lay (ak_sL M p k v) := h
theorem ab_lay.sD {M : ak_M} (h : ab_lay M) {p k : Nat} {v : UInt64} : ab_lay (ak_sD M p k v) := h
theorem w_last {p m i : Nat} {x : Int32} {v : Int64} (hL : ab_lay M) (h : am_A mi pc = some .lastore) (hp : ab_at p 103) (hm : ab_N p = m) (hi : ab_ix x i m) (hn : pc + 1 = n) (k : sg X mi (n, l1, l2, st) (ak_sL M p i v) r) : sg X mi (pc, l1, l2, .long v :: .int x :: .ref p :: st) M r := by
  subst hn
  refine sg_nx ((ak_SA h).trans ?_) k
  simp only [ak_x]
  have h1 : ak_P M = 499 := hL.1
  rw [if_pos ⟨by rw [h1]; exact hp.1, (hL.2.1 p hp.1).1.trans hp.2, by rw [(hL.2.1 p hp.1).2, hm]; exact hi.1⟩, hi.2]
  rfl
theorem w_dast {p m i : Nat} {x : Int32} {v : UInt64} (hL : ab_lay M) (h : am_A mi pc = some .dastore) (hp : ab_at p 104) (hm : ab_N p = m) (hi : ab_ix x i m) (hn : pc + 1 = n) (k : sg X mi (n, l1, l2, st) (ak_sD M p i v) r) : sg X mi (pc, l1, l2, .double v :: .int x :: .ref p :: st) M r := by
  subst hn
  refine sg_nx ((ak_SA h).trans ?_) k
  simp only [ak_x]
  have h1 : ak_P M = 499 := hL.1
  rw [if_pos ⟨by rw [h1]; exact hp.1, (hL.2.1 p hp.1).1.trans hp.2, by rw [(hL.2.1 p hp.1).2, hm]; exact hi.1⟩, hi.2]
  rfl
theorem w_lald {p m i : Nat} {x : Int32} (hL : ab_lay M) (h : am_A mi pc = some .laload) (hp : ab_at p 103) (hm : ab_N p = m) (hi : ab_ix x i m) (hn : pc + 1 = n) (k : sg X mi (n, l1, l2, .long (ak_L M p i) :: st) M r) : sg X mi (pc, l1, l2, .int x :: .ref p :: st) M r := by
  subst hn
  refine sg_nx ((ak_SA h).trans ?_) k
  simp only [ak_x]
  have h1 : ak_P M = 499 := hL.1
  rw [if_pos ⟨by rw [h1]; exact hp.1, (hL.2.1 p hp.1).1.trans hp.2, by rw [(hL.2.1 p hp.1).2, hm]; exact hi.1⟩, hi.2]
  rfl
theorem w_dald {p m i : Nat} {x : Int32} (hL : ab_lay M) (h : am_A mi pc = some .daload) (hp : ab_at p 104) (hm : ab_N p = m) (hi : ab_ix x i m) (hn : pc + 1 = n) (k : sg X mi (n, l1, l2, .double (ak_D M p i) :: st) M r) : sg X mi (pc, l1, l2, .int x :: .ref p :: st) M r := by
  subst hn
  refine sg_nx ((ak_SA h).trans ?_) k
  simp only [ak_x]
  have h1 : ak_P M = 499 := hL.1
  rw [if_pos ⟨by rw [h1]; exact hp.1, (hL.2.1 p hp.1).1.trans hp.2, by rw [(hL.2.1 p hp.1).2, hm]; exact hi.1⟩, hi.2]
  rfl
theorem w_hV {idx cal na nl p kd E t : Nat} {as rest : List Value} {M2 : ak_M} (hL : ab_lay M) (h : am_A mi pc = some (.invokevirtual idx)) (hc : w_cs mi idx 0 cal na nl = true) (hp : ab_at p kd) (hr : am_C cal = kd) (hs : st = as.reverse ++ .ref p :: rest) (hl : as.length = na) (he : (ak_e1 (.ref p :: as)).length = nl) (ht : ak_cat rest ≤ 8)
    (hth : am_th.contains cal = true) (hH : (am_H mi).isEmpty = false) (hh : ak_h (am_H mi) (pc + 3 - 3) E = some t) (h1 : rn X cal (.ref p :: as) M (.inr E, M2)) (k : sg X mi (t, l1, l2, [.ref (3000000 + ak_C M2)]) (ak_use M2 1 0) r) : sg X mi (pc, l1, l2, st) M r :=
  sg_ct ((ak_SA h).trans (w_invV hc ((ab_rc hL hp).trans hr.symm) hs hl he ht)) hth hH hh h1 k
theorem w_rn2 {X : ak_X} {mi nL : Nat} {as : List Value} {l1 : List (Option Value)} {l2 : List (Nat × Value)} {M : ak_M} {r : ak_O × ak_M} (hX : am_X mi = nL) (h1 : ak_e1 as ++ List.replicate (nL - (ak_e1 as).length) none = l1) (h2 : ak_e2 0 as = l2) (k : sg X mi (0, l1, l2, []) M r) : rn X mi as M r := by
  unfold rn ak_en
  rw [hX, h1, h2]
  exact k
end SGH
