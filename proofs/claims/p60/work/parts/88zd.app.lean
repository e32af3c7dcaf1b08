/-! a text grows -/
def ctx (s : Nat) : List Int32 := am_sb.getD s []
/-- the digits of a small number -/
def dgt (n : Nat) : List Int32 := if n < 10 then [nI (48 + n)] else if n < 100 then [nI (48 + n / 10), nI (48 + n % 10)] else [nI 49, nI (48 + (n - 100) / 10), nI (48 + (n - 100) % 10)]
section SAP
variable {X : ak_X} {M M1 M' M2 : ak_M} {p q cap i j m kd ln z n s b e : Nat} {L L' : List Int32} {r : ak_O × ak_M} {g : Nat → Int32}
theorem lg_ap : lg (L ++ L') j = if j < L.length then lg L j else lg L' (j - L.length) := by
  unfold lg
  by_cases h : j < L.length
  · rw [if_pos h, List.getD_eq_getElem?_getD, List.getD_eq_getElem?_getD, List.getElem?_append_left h]
  · rw [if_neg h, List.getD_eq_getElem?_getD, List.getD_eq_getElem?_getD, List.getElem?_append_right (by omega)]
theorem Sq.ap (hL : ab_lay M) (h : Sq p q cap L M) (h7 : c7 L') (hl : L.length + L'.length ≤ cap) (eR : ak_R M' = ak_R M) (eK : ak_K M' = ak_K M) (eN : ak_N M' = ak_N M) (eP : ak_P M' = ak_P M) (eC : ak_C M' = ak_C M) (eZ : ak_Z M' = ak_Z M)
    (hI : ∀ x j, ak_I M' x j = if x = p ∧ j = 3 then nI (L.length + L'.length) else if x = q ∧ L.length ≤ j ∧ j < L.length + L'.length then lg L' (j - L.length) else ak_I M x j) : Sq p q cap (L ++ L') M' ∧ gr 0 M M' := by
  obtain ⟨⟨h1, h2, h3, h4, h5, h6⟩, ⟨g1, g2, g3, g4, g5, g6, g7⟩, hz, hg⟩ := h
  have ll : (L ++ L').length = L.length + L'.length := List.length_append
  refine ⟨⟨⟨h1, by rw [eP]; exact h2, by rw [eK]; exact h3, by rw [eR]; exact h4, ?_, ?_⟩, ⟨g1, by rw [eP]; exact g2, g3, by rw [eK]; exact g4, by rw [eN]; exact g5, by omega, g7⟩, fun j hj => ?_, fun j hj => ?_⟩, ⟨⟨by rw [eP]; exact hL.1, by rw [eK, eN]; exact hL.2.1, by rw [eR]; exact hL.2.2⟩, fun x k hx => ?_, by rw [eP]; omega, by rw [eC]; omega, by rw [eZ]; omega⟩⟩
  · rw [hI, if_neg (by omega), if_neg (by omega)]; exact h5
  · rw [hI, if_pos ⟨rfl, rfl⟩, ll]
  · rw [hI, if_neg (by omega)]
    by_cases c : q = q ∧ L.length ≤ j ∧ j < L.length + L'.length
    · rw [if_pos c]; exact h7 _ (by omega)
    · rw [if_neg c]; exact hz j hj
  · rw [hI, if_neg (by omega), lg_ap]
    by_cases c : j < L.length
    · rw [if_neg (by omega), if_pos c]; exact hg j c
    · rw [if_pos ⟨rfl, by omega, by omega⟩, if_neg c]
  · rw [hI, if_neg (by omega), if_neg (by omega)]
theorem Tx.by (hT : Tx M p q n g) (hi : i < n) : ak_by X M q i = g i := by
  rcases hT.2 with ⟨h1, h2, h3, h4, h5, h6, h7, h8⟩ | ⟨s, hs, rfl, rfl, rfl, hg, hP⟩
  · rw [by_p h5]; exact h8 i hi
  · unfold ak_by
    rw [if_neg (by omega), hg i hi]
    unfold ak_cI
    rw [if_neg (by omega), if_neg (by omega), if_neg (by omega), if_neg (by omega), if_neg (by omega), if_neg (by omega), show 1002000 + s - 1002000 = s by omega]
    rfl
theorem Tx.bn (hT : Tx M p q n g) : ak_bn X M q = n := by
  rcases hT.2 with ⟨h1, h2, h3, h4, h5, h6, h7, h8⟩ | ⟨s, hs, rfl, rfl, rfl, hg, hP⟩
  · rw [bn_p h5]; exact h7
  · unfold ak_bn
    rw [if_neg (by omega)]
    unfold ak_cN
    rw [if_neg (by omega), if_neg (by omega), if_neg (by omega), show 1002000 + s - 1002000 = s by omega]
    rfl
theorem Tx.ib (hT : Tx M p q n g) : ak_isb M q = true := by
  rcases hT.2 with ⟨h1, h2, h3, h4, h5, h6, h7, h8⟩ | ⟨s, hs, rfl, rfl, rfl, hg, hP⟩
  · exact isb_p h5 h6
  · unfold ak_isb
    rw [if_neg (by omega)]
    exact decide_eq_true ⟨by omega, by omega⟩
theorem d337 {q1 : Nat} (hT : Tx M p q1 n g) (hq : q < ak_P M ∧ ak_K M q = 101) (hb : b + n ≤ ak_N M q) (h3 : b ≤ 3000) : rn X 337 [.ref p, .ref q, .int (nI b), .int 0] M (.inl none, ak_cpy M (ak_by X M q1) q 0 b n) := by
  have h0 := hT.1.1
  have en : (nI n).toNatClampNeg = n := mi_c (by omega)
  have eb : (nI b).toNatClampNeg = b := mi_c (by omega)
  refine w_rn (nL := 4) (l1 := [some (.ref p), some (.ref q), some (.int (nI b)), some (.int 0)]) (by decide +kernel) rfl rfl ?_
  refine w_aload_n (n := 1) (i := 0) (by decide +kernel) rfl rfl ?_
  refine w_cVr (n := 4) (idx := 335) (cal := 319) (na := 0) (nl := 1) (as := []) (rest := []) (hT.rc.trans (by decide +kernel)) (by decide +kernel) (by decide +kernel) rfl rfl rfl (Nat.le_of_ble_eq_true rfl) rfl (jt_319 hT) ?_
  refine w_iload_n (n := 5) (i := 3) (by decide +kernel) rfl rfl ?_
  refine w_icmp_ne_n (n := 8) (off := 23) (by decide +kernel) rfl rfl ?_
  refine w_aload_n (n := 9) (i := 0) (by decide +kernel) rfl rfl ?_
  refine w_txt (f := 0) (idx := 9) (n := 12) hT (by decide) (by decide +kernel) (by decide +kernel) rfl ?_
  rw [if_pos rfl]
  refine w_iconst (n := 13) (v := 0) (x := 0) (by decide +kernel) rfl (by decide) ?_
  refine w_aload_n (n := 14) (i := 1) (by decide +kernel) rfl rfl ?_
  refine w_iload_n (n := 15) (i := 2) (by decide +kernel) rfl rfl ?_
  refine w_iload_n (n := 16) (i := 3) (by decide +kernel) rfl rfl ?_
  refine w_ishl (n := 17) (by decide +kernel) rfl ?_
  refine w_aload_n (n := 18) (i := 0) (by decide +kernel) rfl rfl ?_
  refine w_txt (f := 0) (idx := 9) (n := 21) hT (by decide) (by decide +kernel) (by decide +kernel) rfl ?_
  rw [if_pos rfl]
  refine w_tln (n := 22) hT (by decide +kernel) rfl ?_
  rw [sh_l]
  refine x_acp (n := 25) (idx := 212) (by decide +kernel) (cal := 0) (z := (1117, 1064, 1063, 48)) (by decide +kernel) (Nat.le_of_ble_eq_true rfl) ?_ rfl (rfl) ?_
  · refine ⟨hq.1, hq.2, hT.ib, by decide, nI_nn (by omega), nI_nn (by omega), ?_, ?_, ?_⟩
    · rw [hT.bn, en]; show 0 + n ≤ n; omega
    · rw [en, eb]; exact hb
    · rw [en]
      refine all_r fun i hi => ?_
      rw [show (0 : Int32).toNatClampNeg + i = i from Nat.zero_add i, hT.by hi]
      exact c7_B (hT.1.2 i hi)
  rw [en, eb, show (0 : Int32).toNatClampNeg = 0 from rfl]
  refine w_goto (n := 43) (off := 18) (by decide +kernel) (by decide) ?_
  exact w_vreturn (by decide +kernel) (by decide +kernel)
theorem ctx_7 (hs : s < 25) : c7 (ctx s) := fun j hj => (tb_f s hs).2 j hj
theorem sb_s (hL : ab_lay M) (hP : ak_P M < 800000) (h : Sq p q cap L M) (hs : s < 25) (hm : L.length + (ctx s).length ≤ 700) : ∃ M' q' cap', rn X 340 [.ref p, .ref (1001000 + s)] M (.inl (some (.ref p)), M') ∧ Sq p q' cap' (L ++ ctx s) M' ∧ gr 1 M M' := by
  have hT : Tx M (1001000 + s) (1002000 + s) (ctx s).length (lg (ctx s)) := Tx.c hL hs
  obtain ⟨M1, q1, c1, r1, s1, hc, g1⟩ := sb_ens (X := X) hL hP h hm
  have hT1 : Tx M1 (1001000 + s) (1002000 + s) (ctx s).length (lg (ctx s)) := Tx.c g1.1 hs
  have s1' := s1
  obtain ⟨⟨a1, a2, a3, a4, a5, a6⟩, ⟨b1, b2, b3, b4, b5, b6, b7⟩, hz, hg⟩ := s1
  obtain ⟨f1, f2⟩ := Sq.ap (M' := ak_sI (ak_cpy M1 (ak_by X M1 (1002000 + s)) q1 0 L.length (ctx s).length) p 3 (nI (L.length + (ctx s).length))) g1.1 s1' (ctx_7 hs) (by omega) rfl rfl rfl rfl rfl rfl (fun x j => by
    rw [mb_sI]
    by_cases c : x = p ∧ j = 3
    · rw [if_pos c, if_pos c]
    · rw [if_neg c, if_neg c]
      show (if x = q1 ∧ L.length ≤ j ∧ j < L.length + (ctx s).length then ak_by X M1 (1002000 + s) (0 + (j - L.length)) else ak_I M1 x j) = _
      by_cases c2 : x = q1 ∧ L.length ≤ j ∧ j < L.length + (ctx s).length
      · rw [if_pos c2, if_pos c2, Nat.zero_add, hT1.by (by omega)]
      · rw [if_neg c2, if_neg c2])
  refine ⟨_, q1, c1, t_340 _ _ ⟨hT.rc, _, M, jt_317 hT, ⟨h.1.2.1, h.1.2.2.1⟩, rc_p h.1.2.1 h.1.2.2.1, M1, ?_, ⟨a2, a3⟩, rc_p a2 a3, ak_cpy M1 (ak_by X M1 (1002000 + s)) q1 0 L.length (ctx s).length, ?_, ⟨a2, a3⟩, ⟨a2, a3⟩, fun M8 e8 => ?_⟩, f1, g1.tr f2⟩
  · rw [h.1.2.2.2.2.2, mi_add]; exact r1
  · rw [a6]
    refine t_339 _ _ _ ⟨rc_p a2 a3, M1, t_338 _ _ ⟨⟨a2, a3⟩, hT1.rc, 0, M1, jt_319 hT1, mb_y a5 rfl⟩, ⟨a2, a3⟩, q1, a4, ⟨a2, a3⟩, hT1.rc, _, ?_, rfl⟩
    rw [a5]
    exact d337 hT1 ⟨b2, b4⟩ (by omega) (by omega)
  · have e : ak_I (ak_cpy M1 (ak_by X M1 (1002000 + s)) q1 0 L.length (ctx s).length) p 3 = nI L.length := by
      show (if p = q1 ∧ L.length ≤ 3 ∧ 3 < L.length + (ctx s).length then _ else ak_I M1 p 3) = _
      rw [if_neg (by omega)]; exact a6
    rw [e8, e, mi_add]
theorem d332 (h : Sq p q cap L M) : rn X 332 [.ref p] M (.inl (some (.int 1)), M) := t_332 _ ⟨⟨h.1.2.1, h.1.2.2.1⟩, mb_y h.1.2.2.2.2.1 rfl⟩
theorem sb_c (hL : ab_lay M) (hP : ak_P M < 800000) (h : Sq p q cap L M) {c : Nat} (hc7 : c < 128) (hm : L.length + 1 ≤ 700) : ∃ M' q' cap', rn X 341 [.ref p, .int (nI c)] M (.inl (some (.ref p)), M') ∧ Sq p q' cap' (L ++ [nI c]) M' ∧ gr 1 M M' := by
  obtain ⟨M1, q1, c1, r1, s1, hc, g1⟩ := sb_ens (X := X) hL hP h hm
  have s1' := s1
  obtain ⟨⟨a1, a2, a3, a4, a5, a6⟩, ⟨b1, b2, b3, b4, b5, b6, b7⟩, hz, hg⟩ := s1
  have hb := c7_b0 c hc7
  obtain ⟨f1, f2⟩ := Sq.ap (L' := [nI c]) (M' := ak_sI (ak_sI M1 p 3 (nI (L.length + 1))) q1 L.length (nI c)) g1.1 s1' (fun j hj => by
      obtain rfl : j = 0 := by simp only [List.length_singleton] at hj; omega
      exact hb.2.2) (by simp only [List.length_singleton]; omega) rfl rfl rfl rfl rfl rfl (fun x j => by
    rw [mb_sI, mb_sI, List.length_singleton]
    by_cases c : x = p ∧ j = 3
    · rw [if_neg (by omega), if_pos c, if_pos c]
    · rw [if_neg c, if_neg c]
      by_cases c2 : x = q1 ∧ L.length ≤ j ∧ j < L.length + 1
      · rw [if_pos c2, if_pos ⟨c2.1, by omega⟩, show j - L.length = 0 by omega]; rfl
      · rw [if_neg c2, if_neg (by omega)])
  refine ⟨_, q1, c1, t_341 _ _ ⟨⟨h.1.2.1, h.1.2.2.1⟩, rc_p h.1.2.1 h.1.2.2.1, M1, ?_, rc_p a2 a3, 1, M1, d332 s1', mb_n (by decide) ⟨1, M1, t_324 _ (mb_n (fun e => by have := (mi_lt (a := 255) (by omega) (by omega)).mp e; omega) rfl), mb_n (by decide) ⟨⟨a2, a3⟩, q1, a4, ⟨a2, a3⟩, ⟨a2, a3⟩, fun M33 e33 => ⟨L.length, ⟨⟨?_, ?_⟩, ?_⟩, fun M36 e36 => ?_⟩⟩⟩⟩, f1, g1.tr f2⟩
  · rw [h.1.2.2.2.2.2, mi_s]; exact r1
  · rw [e33]; exact b2
  · rw [e33]; exact b4
  · rw [e33, a6, show ak_N (ak_sI M1 p 3 (nI L.length + 1)) q1 = c1 from b5]; exact mb_ix (by omega) (by omega)
  · rw [e36, e33, hb.2.1, a6, mi_s]
end SAP
