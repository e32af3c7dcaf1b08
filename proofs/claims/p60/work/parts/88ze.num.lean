/-! a number is appended; the text is done -/
section SNB
variable {X : ak_X} {M M1 M' M2 : ak_M} {p q cap i j m kd ln z n s b e : Nat} {L L' : List Int32} {r : ak_O × ak_M} {g : Nat → Int32}
theorem dq0 : ∀ n, n < 128 → (0 : Int32) ≤ nI n ∧ ((-100) < -nI n ↔ n < 100) ∧ ((-9) ≤ -nI n ↔ n < 10) ∧ -(-nI n) = nI n ∧ (-nI n ≤ (-10) ↔ 10 ≤ n) ∧ (-nI n ≤ 10 * (-10) ↔ 100 ≤ n) ∧ ¬ (-nI n ≤ 10 * (10 * (-10))) := by decide +kernel
theorem dq1 : ∀ n, n < 28 → -nI (100 + n) / 100 = -1 ∧ (((-nI (100 + n) / 100) * 100) - (-nI (100 + n))) = nI n := by decide +kernel
theorem dq6 : ∀ n, n < 100 → ak_t6.getD n 0 = nI (48 + n % 10) := by decide +kernel
theorem dq5 : ∀ n, n < 100 → ak_t5.getD n 0 = nI (48 + n / 10) := by decide +kernel
theorem dq7 : ∀ n, n < 100 → vp_nar .byte (nI (48 + n % 10)) = nI (48 + n % 10) ∧ vp_nar .byte (nI (48 + n / 10)) = nI (48 + n / 10) := by decide +kernel
theorem dq8 : ∀ n, n < 128 → (dgt n).length ≤ 3 ∧ 1 ≤ (dgt n).length ∧ (List.range (dgt n).length).all (fun j => isC7 (lg (dgt n) j)) = true := by decide +kernel
theorem dc6 (hi : i < 100) : vp_nar .byte (ak_cI X (999999 + 6) i) = nI (48 + i % 10) := by
  rw [show ak_cI X (999999 + 6) i = ak_t6.getD i 0 from rfl, dq6 i hi, (dq7 i hi).1]
theorem dc5 (hi : i < 100) : vp_nar .byte (ak_cI X (999999 + 5) i) = nI (48 + i / 10) := by
  rw [show ak_cI X (999999 + 5) i = ak_t5.getD i 0 from rfl, dq5 i hi, (dq7 i hi).2]
theorem dgt_7 (h : n < 128) : c7 (dgt n) := fun j hj => List.all_eq_true.mp (dq8 n h).2.2 j (List.mem_range.mpr hj)
theorem m1_n (e : Nat) : nI (e + 1) + (-1) = nI e := by
  rw [← mi_s]
  grind
theorem d330 (hn : n < 128) : rn X 330 [.int (nI n)] M (.inl (some (.int (nI (dgt n).length))), M) := by
  obtain ⟨h1, h2, h3, h4, h5, h6, h7⟩ := dq0 n hn
  refine t_330 _ (mb_n (nI_nn (by omega)) (t_330_16 _ _ _ _ (mb_n (by decide) ?_)))
  unfold dgt
  by_cases c : 10 ≤ n
  · refine mb_y (h5.mpr c) (t_330_16 _ _ _ _ (mb_n (by decide) ?_))
    by_cases c2 : 100 ≤ n
    · refine mb_y (h6.mpr c2) (t_330_16 _ _ _ _ (mb_n (by decide) (mb_n h7 ?_)))
      rw [if_neg (by omega), if_neg (by omega)]
      rfl
    · refine mb_n (fun e => c2 (h6.mp e)) ?_
      rw [if_neg (by omega), if_pos (by omega)]
      rfl
  · refine mb_n (fun e => c (h5.mp e)) ?_
    rw [if_pos (by omega)]
    rfl
theorem d331 (hP : ak_P M ≤ 800000) (hq : q < ak_P M ∧ ak_K M q = 101) (hn : n < 128) (he : b + (dgt n).length ≤ ak_N M q) (h3 : ak_N M q ≤ 3000) : ∃ M', rn X 331 [.int (nI n), .int (nI (b + (dgt n).length)), .ref q] M (.inl (some (.int (nI b))), M') ∧ M'.2 = M.2 ∧ ∀ x j, ak_I M' x j = if x = q ∧ b ≤ j ∧ j < b + (dgt n).length then lg (dgt n) (j - b) else ak_I M x j := by
  obtain ⟨h1, h2, h3', h4, -⟩ := dq0 n hn
  have T0 := fun M' r h => t_331 (X := X) (M := M) (r := (.inl (some (.int r)), M')) (nI n) (nI (b + (dgt n).length)) q (mb_y h1 h)
  unfold dgt at he T0 ⊢
  by_cases c : n < 10
  · rw [if_pos c] at he T0 ⊢
    simp only [List.length_singleton] at he T0 ⊢
    refine ⟨ak_sI M q b (nI (48 + n)), T0 _ _ (t_331_22 0 _ _ _ _ _ _ _ (mb_y (h2.mpr (by omega)) ⟨n, ⟨hP, ?_⟩, b, ⟨hq, ?_⟩, fun M5 e5 => mb_y (h3'.mpr c) (mb_y rfl ?_)⟩)), rfl, fun x j => ?_⟩
    · rw [h4]; exact mb_ix (by omega) (by omega)
    · rw [m1_n]; exact mb_ix (by omega) (by omega)
    · rw [dc6 (by omega), Nat.mod_eq_of_lt c] at e5
      rw [e5, m1_n]
    · rw [mb_sI]
      by_cases c2 : x = q ∧ j = b
      · rw [if_pos c2, if_pos ⟨c2.1, by omega, by omega⟩, show j - b = 0 by omega]; rfl
      · rw [if_neg c2, if_neg (by omega)]
  · rw [if_neg c] at he T0 ⊢
    by_cases c' : n < 100
    · rw [if_pos c'] at he T0 ⊢
      simp only [List.length_cons, List.length_nil, Nat.zero_add, Nat.reduceAdd] at he T0 ⊢
      refine ⟨ak_sI (ak_sI M q (b + 1) (nI (48 + n % 10))) q b (nI (48 + n / 10)), T0 _ _ (t_331_22 0 _ _ _ _ _ _ _ (mb_y (h2.mpr (by omega)) ⟨n, ⟨hP, ?_⟩, b + 1, ⟨hq, ?_⟩, fun M5 e5 => mb_n (fun e => c (h3'.mp e)) ⟨n, ⟨?_, ?_⟩, b, ⟨?_, ?_⟩, fun M14 e14 => mb_y rfl ?_⟩⟩)), rfl, fun x j => ?_⟩
      · rw [h4]; exact mb_ix (by omega) (by omega)
      · rw [show b + 2 = (b + 1) + 1 from rfl, m1_n]; exact mb_ix (by omega) (by omega)
      · rw [e5]; exact hP
      · rw [h4]; exact mb_ix (by omega) (by omega)
      · rw [e5]; exact hq
      · rw [show b + 2 = (b + 1) + 1 from rfl, m1_n, m1_n, e5]
        exact mb_ix (show b < ak_N M q by omega) (show ak_N M q ≤ 3072 by omega)
      · rw [dc6 (by omega)] at e5
        rw [dc5 (by omega), e5] at e14
        rw [e14, show b + 2 = (b + 1) + 1 from rfl, m1_n, m1_n]
      · rw [mb_sI, mb_sI]
        by_cases c2 : x = q ∧ j = b
        · rw [if_pos c2, if_pos ⟨c2.1, by omega, by omega⟩, show j - b = 0 by omega]; rfl
        · rw [if_neg c2]
          by_cases c3 : x = q ∧ j = b + 1
          · rw [if_pos c3, if_pos ⟨c3.1, by omega, by omega⟩, show j - b = 1 by omega]; rfl
          · rw [if_neg c3, if_neg (by omega)]
    · rw [if_neg c'] at he T0 ⊢
      obtain ⟨k, hk, rfl⟩ : ∃ k, k < 28 ∧ n = 100 + k := ⟨n - 100, by omega, by omega⟩
      obtain ⟨d1, d2⟩ := dq1 k hk
      simp only [List.length_cons, List.length_nil, Nat.zero_add, Nat.reduceAdd] at he T0 ⊢
      rw [show 100 + k - 100 = k by omega]
      refine ⟨ak_sI (ak_sI (ak_sI M q (b + 2) (nI (48 + k % 10))) q (b + 1) (nI (48 + k / 10))) q b (nI 49), T0 _ _ (t_331_22 0 _ _ _ _ _ _ _ (mb_n (fun e => c' (h2.mp e)) ⟨k, ⟨hP, ?_⟩, b + 2, ⟨hq, ?_⟩, fun M5 e5 => ⟨k, ⟨?_, ?_⟩, b + 1, ⟨?_, ?_⟩, fun M14 e14 => ?_⟩⟩)), rfl, fun x j => ?_⟩
      · rw [d2]; exact mb_ix (by omega) (by omega)
      · rw [show b + 3 = (b + 2) + 1 from rfl, m1_n]; exact mb_ix (by omega) (by omega)
      · rw [e5]; exact hP
      · rw [d2]; exact mb_ix (by omega) (by omega)
      · rw [e5]; exact hq
      · rw [show b + 3 = (b + 2) + 1 from rfl, m1_n, show b + 2 = (b + 1) + 1 from rfl, m1_n, e5]
        exact mb_ix (show b + 1 < ak_N M q by omega) (show ak_N M q ≤ 3072 by omega)
      · rw [dc6 (by omega)] at e5
        rw [dc5 (by omega), e5] at e14
        rw [d1, show b + 3 = (b + 2) + 1 from rfl, m1_n, show b + 2 = (b + 1) + 1 from rfl, m1_n, e14]
        refine t_331_22 0 _ _ _ _ _ _ _ (mb_y (by decide) ⟨1, ⟨hP, mb_ixe (by decide) (by decide) (by decide)⟩, b, ⟨hq, ?_⟩, fun M6 e6 => mb_y (by decide) (mb_y rfl ?_)⟩)
        · rw [m1_n]; exact mb_ix (show b < ak_N M q by omega) (show ak_N M q ≤ 3072 by omega)
        · rw [dc6 (by omega)] at e6
          rw [e6, m1_n]
      · rw [mb_sI, mb_sI, mb_sI]
        by_cases c2 : x = q ∧ j = b
        · rw [if_pos c2, if_pos ⟨c2.1, by omega, by omega⟩, show j - b = 0 by omega]; rfl
        · rw [if_neg c2]
          by_cases c3 : x = q ∧ j = b + 1
          · rw [if_pos c3, if_pos ⟨c3.1, by omega, by omega⟩, show j - b = 1 by omega]; rfl
          · rw [if_neg c3]
            by_cases c4 : x = q ∧ j = b + 2
            · rw [if_pos c4, if_pos ⟨c4.1, by omega, by omega⟩, show j - b = 2 by omega]; rfl
            · rw [if_neg c4, if_neg (by omega)]
theorem sb_n (hL : ab_lay M) (hP : ak_P M < 800000) (h : Sq p q cap L M) (hn : n < 128) (hm : L.length + 3 ≤ 700) : ∃ M' q' cap', rn X 342 [.ref p, .int (nI n)] M (.inl (some (.ref p)), M') ∧ Sq p q' cap' (L ++ dgt n) M' ∧ gr 1 M M' := by
  have hd := dq8 n hn
  obtain ⟨M1, q1, c1, r1, s1, hc, g1⟩ := sb_ens (X := X) (m := L.length + (dgt n).length) hL hP h (by omega)
  have s1' := s1
  obtain ⟨⟨a1, a2, a3, a4, a5, a6⟩, ⟨b1, b2, b3, b4, b5, b6, b7⟩, hz, hg⟩ := s1
  obtain ⟨M2, r2, e2, hI2⟩ := d331 (X := X) (b := L.length) (n := n) g1.1.1.2 ⟨b2, b4⟩ hn (by omega) (by omega)
  have eP : ak_P M2 = ak_P M1 := congrArg (fun y => ak_P (M1.1, y)) e2
  have eK : ak_K M2 = ak_K M1 := congrArg (fun y => ak_K (M1.1, y)) e2
  have eR : ak_R M2 = ak_R M1 := congrArg (fun y => ak_R (M1.1, y)) e2
  have eN : ak_N M2 = ak_N M1 := congrArg (fun y => ak_N (M1.1, y)) e2
  have eC : ak_C M2 = ak_C M1 := congrArg (fun y => ak_C (M1.1, y)) e2
  have eZ : ak_Z M2 = ak_Z M1 := congrArg (fun y => ak_Z (M1.1, y)) e2
  obtain ⟨f1, f2⟩ := Sq.ap (L' := dgt n) (M' := ak_sI M2 p 3 (nI (L.length + (dgt n).length))) g1.1 s1' (dgt_7 hn) (by omega) eR eK eN eP eC eZ (fun x j => by
    rw [mb_sI]
    by_cases c : x = p ∧ j = 3
    · rw [if_pos c, if_pos c]
    · rw [if_neg c, if_neg c, hI2])
  refine ⟨_, q1, c1, t_342 _ _ ⟨⟨h.1.2.1, h.1.2.2.1⟩, _, M, d330 hn, rc_p h.1.2.1 h.1.2.2.1, M1, ?_, rc_p a2 a3, 1, M1, d332 s1', mb_n (by decide) ⟨⟨a2, a3⟩, q1, a4, nI L.length, M2, ?_, ⟨?_, ?_⟩, fun M15 e15 => ?_⟩⟩, f1, g1.tr f2⟩
  · rw [h.1.2.2.2.2.2, mi_add]; exact r1
  · rw [h.1.2.2.2.2.2, mi_add]; exact r2
  · rw [eP]; exact a2
  · rw [eK]; exact a3
  · rw [e15, h.1.2.2.2.2.2, mi_add]
end SNB
