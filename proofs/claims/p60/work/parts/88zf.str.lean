/-! a text begins and ends -/
section SST
variable {X : ak_X} {M M1 M' M2 : ak_M} {p q cap i j m kd ln z n s b e : Nat} {L L' : List Int32} {r : ak_O × ak_M} {g : Nat → Int32}
theorem nwI : ak_I (ak_new M kd ln z) q j = if q = ak_P M then 0 else ak_I M q j := rfl
theorem nwK : ak_K (ak_new M kd ln z) q = if q = ak_P M then kd else ak_K M q := rfl
theorem nwN : ak_N (ak_new M kd ln z) q = if q = ak_P M then ln else ak_N M q := rfl
theorem nwR : ak_R (ak_new M kd ln z) q j = if q = ak_P M then none else ak_R M q j := rfl
theorem nwP : ak_P (ak_new M kd ln z) = ak_P M + 1 := rfl
theorem sRR {v : Option Nat} {k : Nat} : ak_R (ak_sR M p k v) q j = if q = p ∧ j = k then v else ak_R M q j := rfl
theorem ctx_l (hs : s < 25) : (ctx s).length ≤ 60 := (tb_f s hs).1
theorem d349 (hL : ab_lay M) (hP : ak_P M < 799000) (hs : s < 25) : ∃ M' q cap, rn X 349 [.ref (ak_P M), .ref (1001000 + s)] (ak_new M 12 0 (am_nf 12)) (.inl none, M') ∧ Sq (ak_P M) q cap (ctx s) M' ∧ gr 3 M M' := by
  have l60 := ctx_l hs
  have hlo := hL.1.1
  have L1 : ab_lay (ak_new M 12 0 (am_nf 12)) := lay_new hL (by omega)
  have G1 : gr 1 M (ak_new M 12 0 (am_nf 12)) := gr_nw hL (by omega) (by decide)
  have hT1 : Tx (ak_new M 12 0 (am_nf 12)) (1001000 + s) (1002000 + s) (ctx s).length (lg (ctx s)) := Tx.c L1 hs
  have L2 : ab_lay (ak_new (ak_sI (ak_new M 12 0 (am_nf 12)) (ak_P M) 1 0) 101 ((ctx s).length + 16) ((ctx s).length + 16)) := lay_new L1.sI (show ak_P M + 1 < 800000 by omega)
  have G2 : gr 1 (ak_sI (ak_new M 12 0 (am_nf 12)) (ak_P M) 1 0) (ak_new (ak_sI (ak_new M 12 0 (am_nf 12)) (ak_P M) 1 0) 101 ((ctx s).length + 16) ((ctx s).length + 16)) := gr_nw L1.sI (show ak_P M + 1 < 800000 by omega) (by omega)
  have G3 := gr_sR (v := some (ak_P M + 1)) (f := 0) (p := ak_P M) L2 hlo
  have S3 : Sq (ak_P M) (ak_P M + 1) ((ctx s).length + 16) [] (ak_sR (ak_new (ak_sI (ak_new M 12 0 (am_nf 12)) (ak_P M) 1 0) 101 ((ctx s).length + 16) ((ctx s).length + 16)) (ak_P M) 0 (some (ak_P M + 1))) := by
    refine ⟨⟨hlo, ?_, ?_, ?_, ?_, ?_⟩, ⟨by omega, ?_, by omega, ?_, ?_, by show 0 ≤ _; omega, by omega⟩, fun j hj => ?_, fun j hj => absurd hj (Nat.not_lt_zero j)⟩
    · show ak_P M < ak_P M + 1 + 1; omega
    · show (if ak_P M = ak_P M + 1 then 101 else if ak_P M = ak_P M then 12 else _) = 12
      rw [if_neg (by omega), if_pos rfl]
    · show (if ak_P M = ak_P M ∧ 0 = 0 then some (ak_P M + 1) else _) = some (ak_P M + 1)
      rw [if_pos ⟨rfl, rfl⟩]
    · show (if ak_P M = ak_P M + 1 then 0 else if ak_P M = ak_P M ∧ 1 = 1 then (0 : Int32) else _) = 0
      rw [if_neg (by omega), if_pos ⟨rfl, rfl⟩]
    · show (if ak_P M = ak_P M + 1 then (0 : Int32) else if ak_P M = ak_P M ∧ 3 = 1 then (0 : Int32) else if ak_P M = ak_P M then 0 else _) = nI 0
      rw [if_neg (by omega), if_neg (by omega), if_pos rfl]; rfl
    · show ak_P M + 1 < ak_P M + 1 + 1; omega
    · show (if ak_P M + 1 = ak_P M + 1 then 101 else _) = 101
      rw [if_pos rfl]
    · show (if ak_P M + 1 = ak_P M + 1 then (ctx s).length + 16 else _) = (ctx s).length + 16
      rw [if_pos rfl]
    · show isC7 (if ak_P M + 1 = ak_P M + 1 then 0 else _) = true
      rw [if_pos rfl]; exact c7_z
  obtain ⟨M', q', c', r', s', g'⟩ := sb_s (X := X) G3.1 (show ak_P M + 1 + 1 < 800000 by omega) S3 hs (by show 0 + _ ≤ 700; omega)
  rw [List.nil_append] at s'
  have G0 : gr 0 (ak_new M 12 0 (am_nf 12)) (ak_sI (ak_new M 12 0 (am_nf 12)) (ak_P M) 1 0) := gr_sI L1 hlo
  have rcp : ∀ N : ak_M, (ak_P M < ak_P N ∧ ak_K N (ak_P M) = 12) → ak_rc N (ak_P M) = 12 := fun N h => rc_p h.1 h.2
  refine ⟨M', q', c', ?_, s', (((G1.tr G0).tr G2).tr G3 |>.tr g').mo (by omega)⟩
  refine t_349 _ _ ⟨M', t_348 _ _ ⟨hT1.rc, _, _, jt_317 hT1, mb_n (fun e => ?_) ⟨hT1.rc, _, _, jt_319 hT1, ⟨⟨?_, ?_⟩, by decide⟩, fun M20 e20 => mb_y rfl ⟨⟨?_, ?_, ?_⟩, fun M22 e22 => ⟨⟨⟨?_, ?_⟩, ?_⟩, fun M24 e24 => ?_⟩⟩⟩⟩, rfl⟩
  · have := (mi_le (a := 2147483631) (by omega) (by omega)).mp e; omega
  · show ak_P M < ak_P M + 1; omega
  · rw [nwK, if_pos rfl]
  · rw [e20]; show ak_P M + 1 < 900000; omega
  · rw [show nI (ctx s).length + 16 = nI ((ctx s).length + 16) from mi_add _ 16]; exact nI_nn (by omega)
  · rw [show nI (ctx s).length + 16 = nI ((ctx s).length + 16) from mi_add _ 16, mi_c (by omega)]; omega
  · rw [e22, e20]; show ak_P M < ak_P M + 1 + 1; omega
  · rw [e22, e20]
    show (if ak_P M = ak_P M + 1 then 101 else if ak_P M = ak_P M then 12 else _) = 12
    rw [if_neg (by omega), if_pos rfl]
  · rw [e22, e20]; show ak_P M + 1 < ak_P M + 1 + 1; omega
  · have e24' : M24 = ak_sR (ak_new (ak_sI (ak_new M 12 0 (am_nf 12)) (ak_P M) 1 0) 101 ((ctx s).length + 16) ((ctx s).length + 16)) (ak_P M) 0 (some (ak_P M + 1)) := by
      rw [e24, e22, e20, show nI (ctx s).length + 16 = nI ((ctx s).length + 16) from mi_add _ 16, mi_c (by omega)]
      rfl
    rw [e24']
    have hrc := rcp _ ⟨S3.1.2.1, S3.1.2.2.1⟩
    exact ⟨hrc, _, M', t_346 _ _ ⟨hrc, _, M', t_343 _ _ ⟨hrc, _, M', r', rfl⟩, rfl⟩, rfl⟩
theorem d329 (hL : ab_lay M) (hP : ak_P M < 799000) (hq : q < ak_P M ∧ ak_K M q = 101 ∧ ak_N M q = cap) (hz : ∀ j, j < cap → isC7 (ak_I M q j) = true) (hn : n ≤ cap) (hc : cap ≤ 1500) : ∃ M', rn X 329 [.ref q, .int 0, .int (nI n)] M (.inl (some (.ref (ak_P M))), M') ∧ gr 1 M M' ∧ ak_P M' = ak_P M + 1 ∧ (∀ x, x ≠ ak_P M → ak_I M' x = ak_I M x ∧ ak_K M' x = ak_K M x ∧ ak_N M' x = ak_N M x ∧ ak_R M' x = ak_R M x) ∧ ak_K M' (ak_P M) = 101 ∧ ak_N M' (ak_P M) = n ∧ ∀ j, j < n → ak_I M' (ak_P M) j = ak_I M q j := by
  have hlo := hL.1.1
  have hqp : ¬ q = ak_P M := by omega
  have q2 : q < ak_P (ak_new M 101 n n) := by show q < ak_P M + 1; omega
  have k2 : ak_K (ak_new M 101 n n) q = 101 := by rw [nwK, if_neg hqp]; exact hq.2.1
  have l2 : ab_lay (ak_new M 101 n n) := lay_new hL (by omega)
  by_cases c : n = cap
  · refine ⟨ak_cln M (ak_I M q) (ak_N M q), t_329 _ _ _ (mb_y rfl ⟨⟨hq.1, by omega⟩, mb_y ?_ ⟨⟨hq.1, hq.2.1, by omega, ?_⟩, fun M6 e6 => ?_⟩⟩), ⟨lay_new hL (by omega), fun p k hp => ?_, ⟨?_, ?_⟩, ?_, ?_⟩, rfl, fun x hx => ⟨?_, ?_, ?_, ?_⟩, ?_, ?_, fun j hj => ?_⟩
    · rw [hq.2.2, c]; rfl
    · refine all_r fun i hi => c7_B (hz i ?_)
      rw [← hq.2.2]; exact hi
    · rw [e6]
      refine ⟨⟨?_, ?_⟩, rfl⟩
      · show ak_P M < ak_P M + 1; omega
      · show (if ak_P M = ak_P M then 101 else _) = 101
        rw [if_pos rfl]
    · show (if p = ak_P M then ak_I M q k else if p = ak_P M then 0 else ak_I M p k) = _
      rw [if_neg (by omega), if_neg (by omega)]
    · show ak_P M ≤ ak_P M + 1; omega
    · show ak_P M + 1 ≤ ak_P M + 1; omega
    · show ak_C M + 1 ≤ ak_C M + 1; omega
    · show ak_Z M + ak_N M q ≤ ak_Z M + 1500 * 1; rw [hq.2.2]; omega
    · funext k
      show (if x = ak_P M then ak_I M q k else if x = ak_P M then 0 else ak_I M x k) = _
      rw [if_neg hx, if_neg hx]
    · exact if_neg hx
    · exact if_neg hx
    · funext k; exact if_neg hx
    · show (if ak_P M = ak_P M then 101 else _) = 101
      rw [if_pos rfl]
    · show (if ak_P M = ak_P M then ak_N M q else _) = n
      rw [if_pos rfl, hq.2.2, c]
    · show (if ak_P M = ak_P M then ak_I M q j else _) = _
      rw [if_pos rfl]
  · have n2 : ak_N (ak_new M 101 n n) q = cap := by rw [nwN, if_neg hqp]; exact hq.2.2
    have i2 : ∀ j, ak_I (ak_new M 101 n n) q j = ak_I M q j := fun j => by rw [nwI, if_neg hqp]
    have r := jm_min (X := X) l2 (x := nI cap) (y := nI n)
    rw [mn_n (by omega) (by omega), Nat.min_eq_right (by omega)] at r
    have en : (nI n).toNatClampNeg = n := mi_c (by omega)
    have r3 : rn X 328 [.ref q, .int 0, .int (nI n)] M (.inl (some (.ref (ak_P M))), ak_cpy (ak_new M 101 n n) (ak_by X (ak_new M 101 n n) q) (ak_P M) 0 0 n) := by
      refine t_328 _ _ _ ⟨M, t_327 _ _ (mb_y (j3_nn.mpr (by rw [mi_t (by omega)]; omega)) rfl), ?_⟩
      rw [Int32.sub_zero]
      refine ⟨⟨by omega, nI_nn (by omega), by omega⟩, ?_⟩
      rw [en]
      intro M2 e2
      subst e2
      refine ⟨⟨q2, by omega⟩, ?_⟩
      rw [n2, Int32.sub_zero]
      refine ⟨_, _, r, ?_⟩
      rw [en, show (0 : Int32).toNatClampNeg = 0 from rfl]
      refine ⟨⟨?_, ?_, isb_p q2 k2, by decide, by decide, nI_nn (by omega), ?_, ?_, ?_⟩, fun M7 e7 => by rw [e7]⟩
      · show ak_P M < ak_P M + 1; omega
      · rw [nwK, if_pos rfl]
      · rw [bn_p q2, n2]; omega
      · rw [nwN, if_pos rfl]; omega
      · refine all_r fun i hi => ?_
        rw [by_p q2, i2, Nat.zero_add]
        exact c7_B (hz i (by omega))
    refine ⟨_, t_329 _ _ _ (mb_y rfl ⟨⟨hq.1, by omega⟩, mb_n ?_ ⟨_, _, r3, rfl⟩⟩), (gr_nw hL (by omega) (by omega)).tr (gr_cpy l2 hlo), rfl, fun x hx => ⟨?_, ?_, ?_, ?_⟩, ?_, ?_, fun j hj => ?_⟩
    · rw [hq.2.2]
      intro e
      have := (mi_eq (a := n) (b := cap) (by omega) (by omega)).mp e; omega
    · funext k
      show (if x = ak_P M ∧ 0 ≤ k ∧ k < 0 + n then _ else if x = ak_P M then 0 else ak_I M x k) = _
      rw [if_neg (by omega), if_neg hx]
    · exact if_neg hx
    · exact if_neg hx
    · funext k; exact if_neg hx
    · show (if ak_P M = ak_P M then 101 else _) = 101
      rw [if_pos rfl]
    · show (if ak_P M = ak_P M then n else _) = n
      rw [if_pos rfl]
    · show (if ak_P M = ak_P M ∧ 0 ≤ j ∧ j < 0 + n then ak_by X (ak_new M 101 n n) q (0 + (j - 0)) else _) = _
      rw [if_pos ⟨rfl, by omega, by omega⟩, by_p q2, i2, show 0 + (j - 0) = j by omega]
theorem d352 (hL : ab_lay M) (hP : ak_P M < 790000) (h : Sq p q cap L M) (h7 : c7 L) (h10 : L.length ≤ 1000) : ∃ M' qq, rn X 352 [.ref p] M (.inl (some (.ref (ak_P M))), M') ∧ Tx M' (ak_P M) qq L.length (lg L) ∧ gr 3 M M' ∧ 483 ≤ ak_P M ∧ 483 ≤ qq ∧ ak_P M < ak_P M' := by
  obtain ⟨⟨h1, h2, h3, h4, h5, h6⟩, ⟨g1, g2, g3, g4, g5, g6, g7⟩, hz, hg⟩ := h
  have hlo := hL.1.1
  have L1 : ab_lay (ak_new M 13 0 (am_nf 13)) := lay_new hL (by omega)
  have G1 : gr 1 M (ak_new M 13 0 (am_nf 13)) := gr_nw hL (by omega) (by decide)
  have G0 : gr 0 (ak_new M 13 0 (am_nf 13)) (ak_sI (ak_new M 13 0 (am_nf 13)) (ak_P M) 1 0) := gr_sI L1 hlo
  have p1 : p < ak_P (ak_new M 13 0 (am_nf 13)) := by show p < ak_P M + 1; omega
  have k1 : ak_K (ak_new M 13 0 (am_nf 13)) p = 12 := by rw [nwK, if_neg (by omega)]; exact h3
  have iq : ∀ j, ak_I (ak_sI (ak_new M 13 0 (am_nf 13)) (ak_P M) 1 0) q j = ak_I M q j := fun j => by rw [mb_sI, if_neg (by omega), nwI, if_neg (by omega)]
  obtain ⟨M2, r2, f2, eP, eo, eK, eN, eI⟩ := d329 (X := X) (q := q) (cap := cap) (n := L.length) G0.1 (show ak_P M + 1 < 799000 by omega) ⟨show q < ak_P M + 1 by omega, (by show (if q = ak_P M then 13 else ak_K M q) = 101; rw [if_neg (by omega)]; exact g4), (by show (if q = ak_P M then 0 else ak_N M q) = cap; rw [if_neg (by omega)]; exact g5)⟩ (fun j hj => by rw [iq]; exact hz j hj) g6 g7
  have eP0 : ak_P (ak_sI (ak_new M 13 0 (am_nf 13)) (ak_P M) 1 0) = ak_P M + 1 := rfl
  rw [eP0] at r2 eP eo eK eN eI
  have eo' := eo (ak_P M) (by omega)
  have ps2 : ak_P M < ak_P M2 ∧ ak_K M2 (ak_P M) = 13 := ⟨by omega, by rw [eo'.2.1]; show (if ak_P M = ak_P M then 13 else _) = 13; rw [if_pos rfl]⟩
  have rc1 := rc_p p1 k1
  refine ⟨ak_sR M2 (ak_P M) 0 (some (ak_P M + 1)), ak_P M + 1, ?_, ?_, (((G1.tr G0).tr f2).tr (gr_sR f2.1 hlo)).mo (by omega), hlo, by omega, ps2.1⟩
  · refine t_352 _ ⟨by omega, fun M1 e1 => ?_⟩
    subst e1
    refine ⟨_, t_351 _ _ ⟨_, t_350 _ _ ⟨rc1, q, _, t_333 _ ⟨⟨p1, k1⟩, q, ?_, rfl⟩, rc1, nI L.length, _, t_347 _ ⟨rc1, _, _, t_334 _ ⟨⟨p1, k1⟩, rfl⟩, ?_⟩, rc1, 1, _, t_332 _ ⟨⟨p1, k1⟩, mb_y ?_ rfl⟩, mb_n (by decide) ⟨⟨⟨?_, ?_⟩, by decide⟩, fun M17 e17 => ?_⟩⟩, rfl⟩, rfl⟩
    · rw [nwR, if_neg (by omega)]; exact h4
    · rw [nwI, if_neg (by omega), h6]
    · rw [nwI, if_neg (by omega), h5]
    · show ak_P M < ak_P M + 1; omega
    · rw [nwK, if_pos rfl]
    · subst e17
      exact ⟨_, M2, r2, ⟨ps2, by omega⟩, fun M21 e21 => by rw [e21]⟩
  · refine ⟨⟨h10, h7⟩, Or.inl ⟨ps2.1, ps2.2, ?_, ?_, ?_, eK, eN, fun i hi => ?_⟩⟩
    · rw [sRR, if_pos ⟨rfl, rfl⟩]
    · show ak_I M2 (ak_P M) 1 = 0
      rw [eo'.1, mb_sI, if_pos ⟨rfl, rfl⟩]
    · show ak_P M + 1 < ak_P M2; omega
    · show ak_I M2 (ak_P M + 1) i = _
      rw [eI i hi, iq]
      exact hg i hi
end SST
