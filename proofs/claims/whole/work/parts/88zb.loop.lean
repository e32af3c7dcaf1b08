/-! the law's loop, laid by wip/whole/gen88zb.py -/
section SLZ
variable {X : ak_X} {M : ak_M} {i : Nat}
theorem lw_end (h3 : X.1 ≤ 3072) (hi : 6 * i ≤ 3072) : Int32.ofNat X.1 - 6 < nI (6 * i) ↔ X.1 < 6 * i + 6 := by
  have a6 : (6 : Int32).toInt = 6 := by decide
  have e1 : (Int32.ofNat X.1).toInt = X.1 := mi_t (by omega)
  rw [Int32.lt_iff_toInt_lt, j3_sub (by rw [e1, a6]; omega) (by rw [e1, a6]; omega), e1, a6, mi_t (by omega)]
  omega
theorem lw_round (hX : 6 * i + 6 ≤ X.1) (h3 : X.1 ≤ 3072) (hJ : JJ M) (K : Nxt X i M) (o6 o7 o8 o9 : Option Value) (l2 : List (Nat × Value)) : Dn X 28 i o6 o7 o8 o9 l2 M := by
  have hL := hJ.1
  have hn : ¬ Int32.ofNat X.1 - 6 < nI (6 * i) := fun e => by have := (lw_end h3 (by omega)).mp e; omega
  have hi : ab_ix (nI (6 * i)) (6 * i) X.1 := mb_ix (by omega) h3
  by_cases c0 : (X.2.1 (6 * i)) &&& 63 = 0
  · obtain ⟨M', hs, b1, b2⟩ := lc_288 hX h3 hJ K o6 o7 o8 o9 l2
    exact ⟨M', t_364_28 hL _ _ _ _ _ _ (mb_n hn ⟨_, hi, mb_y c0 hs⟩), b1, b2⟩
  by_cases c1 : (X.2.1 (6 * i)) &&& 63 = 1
  · obtain ⟨M', hs, b1, b2⟩ := lc_361 hX h3 hJ K o6 o7 o8 o9 l2
    exact ⟨M', t_364_28 hL _ _ _ _ _ _ (mb_n hn ⟨_, hi, mb_n c0 (mb_y c1 hs)⟩), b1, b2⟩
  by_cases c2 : (X.2.1 (6 * i)) &&& 63 = 2
  · obtain ⟨M', hs, b1, b2⟩ := lc_386 hX h3 hJ K o6 o7 o8 o9 l2
    exact ⟨M', t_364_28 hL _ _ _ _ _ _ (mb_n hn ⟨_, hi, mb_n c0 (mb_n c1 (mb_y c2 hs))⟩), b1, b2⟩
  by_cases c3 : (X.2.1 (6 * i)) &&& 63 = 3
  · obtain ⟨M', hs, b1, b2⟩ := lc_399 hX h3 hJ K o6 o7 o8 o9 l2
    exact ⟨M', t_364_28 hL _ _ _ _ _ _ (mb_n hn ⟨_, hi, mb_n c0 (mb_n c1 (mb_n c2 (mb_y c3 hs)))⟩), b1, b2⟩
  by_cases c4 : (X.2.1 (6 * i)) &&& 63 = 4
  · obtain ⟨M', hs, b1, b2⟩ := lc_412 hX h3 hJ K o6 o7 o8 o9 l2
    exact ⟨M', t_364_28 hL _ _ _ _ _ _ (mb_n hn ⟨_, hi, mb_n c0 (mb_n c1 (mb_n c2 (mb_n c3 (mb_y c4 hs))))⟩), b1, b2⟩
  by_cases c5 : (X.2.1 (6 * i)) &&& 63 = 5
  · obtain ⟨M', hs, b1, b2⟩ := lc_425 hX h3 hJ K o6 o7 o8 o9 l2
    exact ⟨M', t_364_28 hL _ _ _ _ _ _ (mb_n hn ⟨_, hi, mb_n c0 (mb_n c1 (mb_n c2 (mb_n c3 (mb_n c4 (mb_y c5 hs)))))⟩), b1, b2⟩
  by_cases c6 : (X.2.1 (6 * i)) &&& 63 = 6
  · obtain ⟨M', hs, b1, b2⟩ := lc_450 hX h3 hJ K o6 o7 o8 o9 l2
    exact ⟨M', t_364_28 hL _ _ _ _ _ _ (mb_n hn ⟨_, hi, mb_n c0 (mb_n c1 (mb_n c2 (mb_n c3 (mb_n c4 (mb_n c5 (mb_y c6 hs))))))⟩), b1, b2⟩
  by_cases c7 : (X.2.1 (6 * i)) &&& 63 = 7
  · obtain ⟨M', hs, b1, b2⟩ := lc_475 hX h3 hJ K o6 o7 o8 o9 l2
    exact ⟨M', t_364_28 hL _ _ _ _ _ _ (mb_n hn ⟨_, hi, mb_n c0 (mb_n c1 (mb_n c2 (mb_n c3 (mb_n c4 (mb_n c5 (mb_n c6 (mb_y c7 hs)))))))⟩), b1, b2⟩
  by_cases c8 : (X.2.1 (6 * i)) &&& 63 = 8
  · obtain ⟨M', hs, b1, b2⟩ := lc_488 hX h3 hJ K o6 o7 o8 o9 l2
    exact ⟨M', t_364_28 hL _ _ _ _ _ _ (mb_n hn ⟨_, hi, mb_n c0 (mb_n c1 (mb_n c2 (mb_n c3 (mb_n c4 (mb_n c5 (mb_n c6 (mb_n c7 (mb_y c8 hs))))))))⟩), b1, b2⟩
  by_cases c9 : (X.2.1 (6 * i)) &&& 63 = 9
  · obtain ⟨M', hs, b1, b2⟩ := lc_556 hX h3 hJ K o6 o7 o8 o9 l2
    exact ⟨M', t_364_28 hL _ _ _ _ _ _ (mb_n hn ⟨_, hi, mb_n c0 (mb_n c1 (mb_n c2 (mb_n c3 (mb_n c4 (mb_n c5 (mb_n c6 (mb_n c7 (mb_n c8 (mb_y c9 hs)))))))))⟩), b1, b2⟩
  by_cases c10 : (X.2.1 (6 * i)) &&& 63 = 10
  · obtain ⟨M', hs, b1, b2⟩ := lc_624 hX h3 hJ K o6 o7 o8 o9 l2
    exact ⟨M', t_364_28 hL _ _ _ _ _ _ (mb_n hn ⟨_, hi, mb_n c0 (mb_n c1 (mb_n c2 (mb_n c3 (mb_n c4 (mb_n c5 (mb_n c6 (mb_n c7 (mb_n c8 (mb_n c9 (mb_y c10 hs))))))))))⟩), b1, b2⟩
  by_cases c11 : (X.2.1 (6 * i)) &&& 63 = 11
  · obtain ⟨M', hs, b1, b2⟩ := lc_680 hX h3 hJ K o6 o7 o8 o9 l2
    exact ⟨M', t_364_28 hL _ _ _ _ _ _ (mb_n hn ⟨_, hi, mb_n c0 (mb_n c1 (mb_n c2 (mb_n c3 (mb_n c4 (mb_n c5 (mb_n c6 (mb_n c7 (mb_n c8 (mb_n c9 (mb_n c10 (mb_y c11 hs)))))))))))⟩), b1, b2⟩
  by_cases c12 : (X.2.1 (6 * i)) &&& 63 = 12
  · obtain ⟨M', hs, b1, b2⟩ := lc_736 hX h3 hJ K o6 o7 o8 o9 l2
    exact ⟨M', t_364_28 hL _ _ _ _ _ _ (mb_n hn ⟨_, hi, mb_n c0 (mb_n c1 (mb_n c2 (mb_n c3 (mb_n c4 (mb_n c5 (mb_n c6 (mb_n c7 (mb_n c8 (mb_n c9 (mb_n c10 (mb_n c11 (mb_y c12 hs))))))))))))⟩), b1, b2⟩
  by_cases c13 : (X.2.1 (6 * i)) &&& 63 = 13
  · obtain ⟨M', hs, b1, b2⟩ := lc_792 hX h3 hJ K o6 o7 o8 o9 l2
    exact ⟨M', t_364_28 hL _ _ _ _ _ _ (mb_n hn ⟨_, hi, mb_n c0 (mb_n c1 (mb_n c2 (mb_n c3 (mb_n c4 (mb_n c5 (mb_n c6 (mb_n c7 (mb_n c8 (mb_n c9 (mb_n c10 (mb_n c11 (mb_n c12 (mb_y c13 hs)))))))))))))⟩), b1, b2⟩
  by_cases c14 : (X.2.1 (6 * i)) &&& 63 = 14
  · obtain ⟨M', hs, b1, b2⟩ := lc_867 hX h3 hJ K o6 o7 o8 o9 l2
    exact ⟨M', t_364_28 hL _ _ _ _ _ _ (mb_n hn ⟨_, hi, mb_n c0 (mb_n c1 (mb_n c2 (mb_n c3 (mb_n c4 (mb_n c5 (mb_n c6 (mb_n c7 (mb_n c8 (mb_n c9 (mb_n c10 (mb_n c11 (mb_n c12 (mb_n c13 (mb_y c14 hs))))))))))))))⟩), b1, b2⟩
  by_cases c15 : (X.2.1 (6 * i)) &&& 63 = 15
  · obtain ⟨M', hs, b1, b2⟩ := lc_947 hX h3 hJ K o6 o7 o8 o9 l2
    exact ⟨M', t_364_28 hL _ _ _ _ _ _ (mb_n hn ⟨_, hi, mb_n c0 (mb_n c1 (mb_n c2 (mb_n c3 (mb_n c4 (mb_n c5 (mb_n c6 (mb_n c7 (mb_n c8 (mb_n c9 (mb_n c10 (mb_n c11 (mb_n c12 (mb_n c13 (mb_n c14 (mb_y c15 hs)))))))))))))))⟩), b1, b2⟩
  by_cases c16 : (X.2.1 (6 * i)) &&& 63 = 16
  · obtain ⟨M', hs, b1, b2⟩ := lc_1003 hX h3 hJ K o6 o7 o8 o9 l2
    exact ⟨M', t_364_28 hL _ _ _ _ _ _ (mb_n hn ⟨_, hi, mb_n c0 (mb_n c1 (mb_n c2 (mb_n c3 (mb_n c4 (mb_n c5 (mb_n c6 (mb_n c7 (mb_n c8 (mb_n c9 (mb_n c10 (mb_n c11 (mb_n c12 (mb_n c13 (mb_n c14 (mb_n c15 (mb_y c16 hs))))))))))))))))⟩), b1, b2⟩
  by_cases c17 : (X.2.1 (6 * i)) &&& 63 = 17
  · obtain ⟨M', hs, b1, b2⟩ := lc_1059 hX h3 hJ K o6 o7 o8 o9 l2
    exact ⟨M', t_364_28 hL _ _ _ _ _ _ (mb_n hn ⟨_, hi, mb_n c0 (mb_n c1 (mb_n c2 (mb_n c3 (mb_n c4 (mb_n c5 (mb_n c6 (mb_n c7 (mb_n c8 (mb_n c9 (mb_n c10 (mb_n c11 (mb_n c12 (mb_n c13 (mb_n c14 (mb_n c15 (mb_n c16 (mb_y c17 hs)))))))))))))))))⟩), b1, b2⟩
  by_cases c18 : (X.2.1 (6 * i)) &&& 63 = 18
  · obtain ⟨M', hs, b1, b2⟩ := lc_1127 hX h3 hJ K o6 o7 o8 o9 l2
    exact ⟨M', t_364_28 hL _ _ _ _ _ _ (mb_n hn ⟨_, hi, mb_n c0 (mb_n c1 (mb_n c2 (mb_n c3 (mb_n c4 (mb_n c5 (mb_n c6 (mb_n c7 (mb_n c8 (mb_n c9 (mb_n c10 (mb_n c11 (mb_n c12 (mb_n c13 (mb_n c14 (mb_n c15 (mb_n c16 (mb_n c17 (mb_y c18 hs))))))))))))))))))⟩), b1, b2⟩
  by_cases c19 : (X.2.1 (6 * i)) &&& 63 = 19
  · obtain ⟨M', hs, b1, b2⟩ := lc_1140 hX h3 hJ K o6 o7 o8 o9 l2
    exact ⟨M', t_364_28 hL _ _ _ _ _ _ (mb_n hn ⟨_, hi, mb_n c0 (mb_n c1 (mb_n c2 (mb_n c3 (mb_n c4 (mb_n c5 (mb_n c6 (mb_n c7 (mb_n c8 (mb_n c9 (mb_n c10 (mb_n c11 (mb_n c12 (mb_n c13 (mb_n c14 (mb_n c15 (mb_n c16 (mb_n c17 (mb_n c18 (mb_y c19 hs)))))))))))))))))))⟩), b1, b2⟩
  by_cases c20 : (X.2.1 (6 * i)) &&& 63 = 20
  · obtain ⟨M', hs, b1, b2⟩ := lc_1153 hX h3 hJ K o6 o7 o8 o9 l2
    exact ⟨M', t_364_28 hL _ _ _ _ _ _ (mb_n hn ⟨_, hi, mb_n c0 (mb_n c1 (mb_n c2 (mb_n c3 (mb_n c4 (mb_n c5 (mb_n c6 (mb_n c7 (mb_n c8 (mb_n c9 (mb_n c10 (mb_n c11 (mb_n c12 (mb_n c13 (mb_n c14 (mb_n c15 (mb_n c16 (mb_n c17 (mb_n c18 (mb_n c19 (mb_y c20 hs))))))))))))))))))))⟩), b1, b2⟩
  by_cases c21 : (X.2.1 (6 * i)) &&& 63 = 21
  · obtain ⟨M', hs, b1, b2⟩ := lc_1166 hX h3 hJ K o6 o7 o8 o9 l2
    exact ⟨M', t_364_28 hL _ _ _ _ _ _ (mb_n hn ⟨_, hi, mb_n c0 (mb_n c1 (mb_n c2 (mb_n c3 (mb_n c4 (mb_n c5 (mb_n c6 (mb_n c7 (mb_n c8 (mb_n c9 (mb_n c10 (mb_n c11 (mb_n c12 (mb_n c13 (mb_n c14 (mb_n c15 (mb_n c16 (mb_n c17 (mb_n c18 (mb_n c19 (mb_n c20 (mb_y c21 hs)))))))))))))))))))))⟩), b1, b2⟩
  by_cases c22 : (X.2.1 (6 * i)) &&& 63 = 22
  · obtain ⟨M', hs, b1, b2⟩ := lc_1246 hX h3 hJ K o6 o7 o8 o9 l2
    exact ⟨M', t_364_28 hL _ _ _ _ _ _ (mb_n hn ⟨_, hi, mb_n c0 (mb_n c1 (mb_n c2 (mb_n c3 (mb_n c4 (mb_n c5 (mb_n c6 (mb_n c7 (mb_n c8 (mb_n c9 (mb_n c10 (mb_n c11 (mb_n c12 (mb_n c13 (mb_n c14 (mb_n c15 (mb_n c16 (mb_n c17 (mb_n c18 (mb_n c19 (mb_n c20 (mb_n c21 (mb_y c22 hs))))))))))))))))))))))⟩), b1, b2⟩
  by_cases c23 : (X.2.1 (6 * i)) &&& 63 = 23
  · obtain ⟨M', hs, b1, b2⟩ := lc_1314 hX h3 hJ K o6 o7 o8 o9 l2
    exact ⟨M', t_364_28 hL _ _ _ _ _ _ (mb_n hn ⟨_, hi, mb_n c0 (mb_n c1 (mb_n c2 (mb_n c3 (mb_n c4 (mb_n c5 (mb_n c6 (mb_n c7 (mb_n c8 (mb_n c9 (mb_n c10 (mb_n c11 (mb_n c12 (mb_n c13 (mb_n c14 (mb_n c15 (mb_n c16 (mb_n c17 (mb_n c18 (mb_n c19 (mb_n c20 (mb_n c21 (mb_n c22 (mb_y c23 hs)))))))))))))))))))))))⟩), b1, b2⟩
  by_cases c24 : (X.2.1 (6 * i)) &&& 63 = 24
  · obtain ⟨M', hs, b1, b2⟩ := lc_1370 hX h3 hJ K o6 o7 o8 o9 l2
    exact ⟨M', t_364_28 hL _ _ _ _ _ _ (mb_n hn ⟨_, hi, mb_n c0 (mb_n c1 (mb_n c2 (mb_n c3 (mb_n c4 (mb_n c5 (mb_n c6 (mb_n c7 (mb_n c8 (mb_n c9 (mb_n c10 (mb_n c11 (mb_n c12 (mb_n c13 (mb_n c14 (mb_n c15 (mb_n c16 (mb_n c17 (mb_n c18 (mb_n c19 (mb_n c20 (mb_n c21 (mb_n c22 (mb_n c23 (mb_y c24 hs))))))))))))))))))))))))⟩), b1, b2⟩
  by_cases c25 : (X.2.1 (6 * i)) &&& 63 = 25
  · obtain ⟨M', hs, b1, b2⟩ := lc_1426 hX h3 hJ K o6 o7 o8 o9 l2
    exact ⟨M', t_364_28 hL _ _ _ _ _ _ (mb_n hn ⟨_, hi, mb_n c0 (mb_n c1 (mb_n c2 (mb_n c3 (mb_n c4 (mb_n c5 (mb_n c6 (mb_n c7 (mb_n c8 (mb_n c9 (mb_n c10 (mb_n c11 (mb_n c12 (mb_n c13 (mb_n c14 (mb_n c15 (mb_n c16 (mb_n c17 (mb_n c18 (mb_n c19 (mb_n c20 (mb_n c21 (mb_n c22 (mb_n c23 (mb_n c24 (mb_y c25 hs)))))))))))))))))))))))))⟩), b1, b2⟩
  by_cases c26 : (X.2.1 (6 * i)) &&& 63 = 26
  · obtain ⟨M', hs, b1, b2⟩ := lc_1482 hX h3 hJ K o6 o7 o8 o9 l2
    exact ⟨M', t_364_28 hL _ _ _ _ _ _ (mb_n hn ⟨_, hi, mb_n c0 (mb_n c1 (mb_n c2 (mb_n c3 (mb_n c4 (mb_n c5 (mb_n c6 (mb_n c7 (mb_n c8 (mb_n c9 (mb_n c10 (mb_n c11 (mb_n c12 (mb_n c13 (mb_n c14 (mb_n c15 (mb_n c16 (mb_n c17 (mb_n c18 (mb_n c19 (mb_n c20 (mb_n c21 (mb_n c22 (mb_n c23 (mb_n c24 (mb_n c25 (mb_y c26 hs))))))))))))))))))))))))))⟩), b1, b2⟩
  by_cases c27 : (X.2.1 (6 * i)) &&& 63 = 27
  · obtain ⟨M', hs, b1, b2⟩ := lc_1538 hX h3 hJ K o6 o7 o8 o9 l2
    exact ⟨M', t_364_28 hL _ _ _ _ _ _ (mb_n hn ⟨_, hi, mb_n c0 (mb_n c1 (mb_n c2 (mb_n c3 (mb_n c4 (mb_n c5 (mb_n c6 (mb_n c7 (mb_n c8 (mb_n c9 (mb_n c10 (mb_n c11 (mb_n c12 (mb_n c13 (mb_n c14 (mb_n c15 (mb_n c16 (mb_n c17 (mb_n c18 (mb_n c19 (mb_n c20 (mb_n c21 (mb_n c22 (mb_n c23 (mb_n c24 (mb_n c25 (mb_n c26 (mb_y c27 hs)))))))))))))))))))))))))))⟩), b1, b2⟩
  by_cases c28 : (X.2.1 (6 * i)) &&& 63 = 28
  · obtain ⟨M', hs, b1, b2⟩ := lc_1594 hX h3 hJ K o6 o7 o8 o9 l2
    exact ⟨M', t_364_28 hL _ _ _ _ _ _ (mb_n hn ⟨_, hi, mb_n c0 (mb_n c1 (mb_n c2 (mb_n c3 (mb_n c4 (mb_n c5 (mb_n c6 (mb_n c7 (mb_n c8 (mb_n c9 (mb_n c10 (mb_n c11 (mb_n c12 (mb_n c13 (mb_n c14 (mb_n c15 (mb_n c16 (mb_n c17 (mb_n c18 (mb_n c19 (mb_n c20 (mb_n c21 (mb_n c22 (mb_n c23 (mb_n c24 (mb_n c25 (mb_n c26 (mb_n c27 (mb_y c28 hs))))))))))))))))))))))))))))⟩), b1, b2⟩
  by_cases c29 : (X.2.1 (6 * i)) &&& 63 = 29
  · obtain ⟨M', hs, b1, b2⟩ := lc_1686 hX h3 hJ K o6 o7 o8 o9 l2
    exact ⟨M', t_364_28 hL _ _ _ _ _ _ (mb_n hn ⟨_, hi, mb_n c0 (mb_n c1 (mb_n c2 (mb_n c3 (mb_n c4 (mb_n c5 (mb_n c6 (mb_n c7 (mb_n c8 (mb_n c9 (mb_n c10 (mb_n c11 (mb_n c12 (mb_n c13 (mb_n c14 (mb_n c15 (mb_n c16 (mb_n c17 (mb_n c18 (mb_n c19 (mb_n c20 (mb_n c21 (mb_n c22 (mb_n c23 (mb_n c24 (mb_n c25 (mb_n c26 (mb_n c27 (mb_n c28 (mb_y c29 hs)))))))))))))))))))))))))))))⟩), b1, b2⟩
  by_cases c30 : (X.2.1 (6 * i)) &&& 63 = 30
  · obtain ⟨M', hs, b1, b2⟩ := lc_1699 hX h3 hJ K o6 o7 o8 o9 l2
    exact ⟨M', t_364_28 hL _ _ _ _ _ _ (mb_n hn ⟨_, hi, mb_n c0 (mb_n c1 (mb_n c2 (mb_n c3 (mb_n c4 (mb_n c5 (mb_n c6 (mb_n c7 (mb_n c8 (mb_n c9 (mb_n c10 (mb_n c11 (mb_n c12 (mb_n c13 (mb_n c14 (mb_n c15 (mb_n c16 (mb_n c17 (mb_n c18 (mb_n c19 (mb_n c20 (mb_n c21 (mb_n c22 (mb_n c23 (mb_n c24 (mb_n c25 (mb_n c26 (mb_n c27 (mb_n c28 (mb_n c29 (mb_y c30 hs))))))))))))))))))))))))))))))⟩), b1, b2⟩
  by_cases c31 : (X.2.1 (6 * i)) &&& 63 = 31
  · obtain ⟨M', hs, b1, b2⟩ := lc_1740 hX h3 hJ K o6 o7 o8 o9 l2
    exact ⟨M', t_364_28 hL _ _ _ _ _ _ (mb_n hn ⟨_, hi, mb_n c0 (mb_n c1 (mb_n c2 (mb_n c3 (mb_n c4 (mb_n c5 (mb_n c6 (mb_n c7 (mb_n c8 (mb_n c9 (mb_n c10 (mb_n c11 (mb_n c12 (mb_n c13 (mb_n c14 (mb_n c15 (mb_n c16 (mb_n c17 (mb_n c18 (mb_n c19 (mb_n c20 (mb_n c21 (mb_n c22 (mb_n c23 (mb_n c24 (mb_n c25 (mb_n c26 (mb_n c27 (mb_n c28 (mb_n c29 (mb_n c30 (mb_y c31 hs)))))))))))))))))))))))))))))))⟩), b1, b2⟩
  by_cases c32 : (X.2.1 (6 * i)) &&& 63 = 32
  · obtain ⟨M', hs, b1, b2⟩ := lc_1818 hX h3 hJ K o6 o7 o8 o9 l2
    exact ⟨M', t_364_28 hL _ _ _ _ _ _ (mb_n hn ⟨_, hi, mb_n c0 (mb_n c1 (mb_n c2 (mb_n c3 (mb_n c4 (mb_n c5 (mb_n c6 (mb_n c7 (mb_n c8 (mb_n c9 (mb_n c10 (mb_n c11 (mb_n c12 (mb_n c13 (mb_n c14 (mb_n c15 (mb_n c16 (mb_n c17 (mb_n c18 (mb_n c19 (mb_n c20 (mb_n c21 (mb_n c22 (mb_n c23 (mb_n c24 (mb_n c25 (mb_n c26 (mb_n c27 (mb_n c28 (mb_n c29 (mb_n c30 (mb_n c31 (mb_y c32 hs))))))))))))))))))))))))))))))))⟩), b1, b2⟩
  by_cases c33 : (X.2.1 (6 * i)) &&& 63 = 33
  · obtain ⟨M', hs, b1, b2⟩ := lc_1898 hX h3 hJ K o6 o7 o8 o9 l2
    exact ⟨M', t_364_28 hL _ _ _ _ _ _ (mb_n hn ⟨_, hi, mb_n c0 (mb_n c1 (mb_n c2 (mb_n c3 (mb_n c4 (mb_n c5 (mb_n c6 (mb_n c7 (mb_n c8 (mb_n c9 (mb_n c10 (mb_n c11 (mb_n c12 (mb_n c13 (mb_n c14 (mb_n c15 (mb_n c16 (mb_n c17 (mb_n c18 (mb_n c19 (mb_n c20 (mb_n c21 (mb_n c22 (mb_n c23 (mb_n c24 (mb_n c25 (mb_n c26 (mb_n c27 (mb_n c28 (mb_n c29 (mb_n c30 (mb_n c31 (mb_n c32 (mb_y c33 hs)))))))))))))))))))))))))))))))))⟩), b1, b2⟩
  by_cases c34 : (X.2.1 (6 * i)) &&& 63 = 34
  · obtain ⟨M', hs, b1, b2⟩ := lc_1966 hX h3 hJ K o6 o7 o8 o9 l2
    exact ⟨M', t_364_28 hL _ _ _ _ _ _ (mb_n hn ⟨_, hi, mb_n c0 (mb_n c1 (mb_n c2 (mb_n c3 (mb_n c4 (mb_n c5 (mb_n c6 (mb_n c7 (mb_n c8 (mb_n c9 (mb_n c10 (mb_n c11 (mb_n c12 (mb_n c13 (mb_n c14 (mb_n c15 (mb_n c16 (mb_n c17 (mb_n c18 (mb_n c19 (mb_n c20 (mb_n c21 (mb_n c22 (mb_n c23 (mb_n c24 (mb_n c25 (mb_n c26 (mb_n c27 (mb_n c28 (mb_n c29 (mb_n c30 (mb_n c31 (mb_n c32 (mb_n c33 (mb_y c34 hs))))))))))))))))))))))))))))))))))⟩), b1, b2⟩
  by_cases c35 : (X.2.1 (6 * i)) &&& 63 = 35
  · obtain ⟨M', hs, b1, b2⟩ := lc_2046 hX h3 hJ K o6 o7 o8 o9 l2
    exact ⟨M', t_364_28 hL _ _ _ _ _ _ (mb_n hn ⟨_, hi, mb_n c0 (mb_n c1 (mb_n c2 (mb_n c3 (mb_n c4 (mb_n c5 (mb_n c6 (mb_n c7 (mb_n c8 (mb_n c9 (mb_n c10 (mb_n c11 (mb_n c12 (mb_n c13 (mb_n c14 (mb_n c15 (mb_n c16 (mb_n c17 (mb_n c18 (mb_n c19 (mb_n c20 (mb_n c21 (mb_n c22 (mb_n c23 (mb_n c24 (mb_n c25 (mb_n c26 (mb_n c27 (mb_n c28 (mb_n c29 (mb_n c30 (mb_n c31 (mb_n c32 (mb_n c33 (mb_n c34 (mb_y c35 hs)))))))))))))))))))))))))))))))))))⟩), b1, b2⟩
  by_cases c36 : (X.2.1 (6 * i)) &&& 63 = 36
  · obtain ⟨M', hs, b1, b2⟩ := lc_2102 hX h3 hJ K o6 o7 o8 o9 l2
    exact ⟨M', t_364_28 hL _ _ _ _ _ _ (mb_n hn ⟨_, hi, mb_n c0 (mb_n c1 (mb_n c2 (mb_n c3 (mb_n c4 (mb_n c5 (mb_n c6 (mb_n c7 (mb_n c8 (mb_n c9 (mb_n c10 (mb_n c11 (mb_n c12 (mb_n c13 (mb_n c14 (mb_n c15 (mb_n c16 (mb_n c17 (mb_n c18 (mb_n c19 (mb_n c20 (mb_n c21 (mb_n c22 (mb_n c23 (mb_n c24 (mb_n c25 (mb_n c26 (mb_n c27 (mb_n c28 (mb_n c29 (mb_n c30 (mb_n c31 (mb_n c32 (mb_n c33 (mb_n c34 (mb_n c35 (mb_y c36 hs))))))))))))))))))))))))))))))))))))⟩), b1, b2⟩
  by_cases c37 : (X.2.1 (6 * i)) &&& 63 = 37
  · obtain ⟨M', hs, b1, b2⟩ := lc_2170 hX h3 hJ K o6 o7 o8 o9 l2
    exact ⟨M', t_364_28 hL _ _ _ _ _ _ (mb_n hn ⟨_, hi, mb_n c0 (mb_n c1 (mb_n c2 (mb_n c3 (mb_n c4 (mb_n c5 (mb_n c6 (mb_n c7 (mb_n c8 (mb_n c9 (mb_n c10 (mb_n c11 (mb_n c12 (mb_n c13 (mb_n c14 (mb_n c15 (mb_n c16 (mb_n c17 (mb_n c18 (mb_n c19 (mb_n c20 (mb_n c21 (mb_n c22 (mb_n c23 (mb_n c24 (mb_n c25 (mb_n c26 (mb_n c27 (mb_n c28 (mb_n c29 (mb_n c30 (mb_n c31 (mb_n c32 (mb_n c33 (mb_n c34 (mb_n c35 (mb_n c36 (mb_y c37 hs)))))))))))))))))))))))))))))))))))))⟩), b1, b2⟩
  by_cases c38 : (X.2.1 (6 * i)) &&& 63 = 38
  · obtain ⟨M', hs, b1, b2⟩ := lc_2250 hX h3 hJ K o6 o7 o8 o9 l2
    exact ⟨M', t_364_28 hL _ _ _ _ _ _ (mb_n hn ⟨_, hi, mb_n c0 (mb_n c1 (mb_n c2 (mb_n c3 (mb_n c4 (mb_n c5 (mb_n c6 (mb_n c7 (mb_n c8 (mb_n c9 (mb_n c10 (mb_n c11 (mb_n c12 (mb_n c13 (mb_n c14 (mb_n c15 (mb_n c16 (mb_n c17 (mb_n c18 (mb_n c19 (mb_n c20 (mb_n c21 (mb_n c22 (mb_n c23 (mb_n c24 (mb_n c25 (mb_n c26 (mb_n c27 (mb_n c28 (mb_n c29 (mb_n c30 (mb_n c31 (mb_n c32 (mb_n c33 (mb_n c34 (mb_n c35 (mb_n c36 (mb_n c37 (mb_y c38 hs))))))))))))))))))))))))))))))))))))))⟩), b1, b2⟩
  by_cases c39 : (X.2.1 (6 * i)) &&& 63 = 39
  · obtain ⟨M', hs, b1, b2⟩ := lc_2318 hX h3 hJ K o6 o7 o8 o9 l2
    exact ⟨M', t_364_28 hL _ _ _ _ _ _ (mb_n hn ⟨_, hi, mb_n c0 (mb_n c1 (mb_n c2 (mb_n c3 (mb_n c4 (mb_n c5 (mb_n c6 (mb_n c7 (mb_n c8 (mb_n c9 (mb_n c10 (mb_n c11 (mb_n c12 (mb_n c13 (mb_n c14 (mb_n c15 (mb_n c16 (mb_n c17 (mb_n c18 (mb_n c19 (mb_n c20 (mb_n c21 (mb_n c22 (mb_n c23 (mb_n c24 (mb_n c25 (mb_n c26 (mb_n c27 (mb_n c28 (mb_n c29 (mb_n c30 (mb_n c31 (mb_n c32 (mb_n c33 (mb_n c34 (mb_n c35 (mb_n c36 (mb_n c37 (mb_n c38 (mb_y c39 hs)))))))))))))))))))))))))))))))))))))))⟩), b1, b2⟩
  by_cases c40 : (X.2.1 (6 * i)) &&& 63 = 40
  · obtain ⟨M', hs, b1, b2⟩ := lc_2386 hX h3 hJ K o6 o7 o8 o9 l2
    exact ⟨M', t_364_28 hL _ _ _ _ _ _ (mb_n hn ⟨_, hi, mb_n c0 (mb_n c1 (mb_n c2 (mb_n c3 (mb_n c4 (mb_n c5 (mb_n c6 (mb_n c7 (mb_n c8 (mb_n c9 (mb_n c10 (mb_n c11 (mb_n c12 (mb_n c13 (mb_n c14 (mb_n c15 (mb_n c16 (mb_n c17 (mb_n c18 (mb_n c19 (mb_n c20 (mb_n c21 (mb_n c22 (mb_n c23 (mb_n c24 (mb_n c25 (mb_n c26 (mb_n c27 (mb_n c28 (mb_n c29 (mb_n c30 (mb_n c31 (mb_n c32 (mb_n c33 (mb_n c34 (mb_n c35 (mb_n c36 (mb_n c37 (mb_n c38 (mb_n c39 (mb_y c40 hs))))))))))))))))))))))))))))))))))))))))⟩), b1, b2⟩
  by_cases c41 : (X.2.1 (6 * i)) &&& 63 = 41
  · obtain ⟨M', hs, b1, b2⟩ := lc_2454 hX h3 hJ K o6 o7 o8 o9 l2
    exact ⟨M', t_364_28 hL _ _ _ _ _ _ (mb_n hn ⟨_, hi, mb_n c0 (mb_n c1 (mb_n c2 (mb_n c3 (mb_n c4 (mb_n c5 (mb_n c6 (mb_n c7 (mb_n c8 (mb_n c9 (mb_n c10 (mb_n c11 (mb_n c12 (mb_n c13 (mb_n c14 (mb_n c15 (mb_n c16 (mb_n c17 (mb_n c18 (mb_n c19 (mb_n c20 (mb_n c21 (mb_n c22 (mb_n c23 (mb_n c24 (mb_n c25 (mb_n c26 (mb_n c27 (mb_n c28 (mb_n c29 (mb_n c30 (mb_n c31 (mb_n c32 (mb_n c33 (mb_n c34 (mb_n c35 (mb_n c36 (mb_n c37 (mb_n c38 (mb_n c39 (mb_n c40 (mb_y c41 hs)))))))))))))))))))))))))))))))))))))))))⟩), b1, b2⟩
  by_cases c42 : (X.2.1 (6 * i)) &&& 63 = 42
  · obtain ⟨M', hs, b1, b2⟩ := lc_2510 hX h3 hJ K o6 o7 o8 o9 l2
    exact ⟨M', t_364_28 hL _ _ _ _ _ _ (mb_n hn ⟨_, hi, mb_n c0 (mb_n c1 (mb_n c2 (mb_n c3 (mb_n c4 (mb_n c5 (mb_n c6 (mb_n c7 (mb_n c8 (mb_n c9 (mb_n c10 (mb_n c11 (mb_n c12 (mb_n c13 (mb_n c14 (mb_n c15 (mb_n c16 (mb_n c17 (mb_n c18 (mb_n c19 (mb_n c20 (mb_n c21 (mb_n c22 (mb_n c23 (mb_n c24 (mb_n c25 (mb_n c26 (mb_n c27 (mb_n c28 (mb_n c29 (mb_n c30 (mb_n c31 (mb_n c32 (mb_n c33 (mb_n c34 (mb_n c35 (mb_n c36 (mb_n c37 (mb_n c38 (mb_n c39 (mb_n c40 (mb_n c41 (mb_y c42 hs))))))))))))))))))))))))))))))))))))))))))⟩), b1, b2⟩
  by_cases c43 : (X.2.1 (6 * i)) &&& 63 = 43
  · obtain ⟨M', hs, b1, b2⟩ := lc_2566 hX h3 hJ K o6 o7 o8 o9 l2
    exact ⟨M', t_364_28 hL _ _ _ _ _ _ (mb_n hn ⟨_, hi, mb_n c0 (mb_n c1 (mb_n c2 (mb_n c3 (mb_n c4 (mb_n c5 (mb_n c6 (mb_n c7 (mb_n c8 (mb_n c9 (mb_n c10 (mb_n c11 (mb_n c12 (mb_n c13 (mb_n c14 (mb_n c15 (mb_n c16 (mb_n c17 (mb_n c18 (mb_n c19 (mb_n c20 (mb_n c21 (mb_n c22 (mb_n c23 (mb_n c24 (mb_n c25 (mb_n c26 (mb_n c27 (mb_n c28 (mb_n c29 (mb_n c30 (mb_n c31 (mb_n c32 (mb_n c33 (mb_n c34 (mb_n c35 (mb_n c36 (mb_n c37 (mb_n c38 (mb_n c39 (mb_n c40 (mb_n c41 (mb_n c42 (mb_y c43 hs)))))))))))))))))))))))))))))))))))))))))))⟩), b1, b2⟩
  by_cases c44 : (X.2.1 (6 * i)) &&& 63 = 44
  · obtain ⟨M', hs, b1, b2⟩ := lc_2634 hX h3 hJ K o6 o7 o8 o9 l2
    exact ⟨M', t_364_28 hL _ _ _ _ _ _ (mb_n hn ⟨_, hi, mb_n c0 (mb_n c1 (mb_n c2 (mb_n c3 (mb_n c4 (mb_n c5 (mb_n c6 (mb_n c7 (mb_n c8 (mb_n c9 (mb_n c10 (mb_n c11 (mb_n c12 (mb_n c13 (mb_n c14 (mb_n c15 (mb_n c16 (mb_n c17 (mb_n c18 (mb_n c19 (mb_n c20 (mb_n c21 (mb_n c22 (mb_n c23 (mb_n c24 (mb_n c25 (mb_n c26 (mb_n c27 (mb_n c28 (mb_n c29 (mb_n c30 (mb_n c31 (mb_n c32 (mb_n c33 (mb_n c34 (mb_n c35 (mb_n c36 (mb_n c37 (mb_n c38 (mb_n c39 (mb_n c40 (mb_n c41 (mb_n c42 (mb_n c43 (mb_y c44 hs))))))))))))))))))))))))))))))))))))))))))))⟩), b1, b2⟩
  by_cases c45 : (X.2.1 (6 * i)) &&& 63 = 45
  · obtain ⟨M', hs, b1, b2⟩ := lc_2690 hX h3 hJ K o6 o7 o8 o9 l2
    exact ⟨M', t_364_28 hL _ _ _ _ _ _ (mb_n hn ⟨_, hi, mb_n c0 (mb_n c1 (mb_n c2 (mb_n c3 (mb_n c4 (mb_n c5 (mb_n c6 (mb_n c7 (mb_n c8 (mb_n c9 (mb_n c10 (mb_n c11 (mb_n c12 (mb_n c13 (mb_n c14 (mb_n c15 (mb_n c16 (mb_n c17 (mb_n c18 (mb_n c19 (mb_n c20 (mb_n c21 (mb_n c22 (mb_n c23 (mb_n c24 (mb_n c25 (mb_n c26 (mb_n c27 (mb_n c28 (mb_n c29 (mb_n c30 (mb_n c31 (mb_n c32 (mb_n c33 (mb_n c34 (mb_n c35 (mb_n c36 (mb_n c37 (mb_n c38 (mb_n c39 (mb_n c40 (mb_n c41 (mb_n c42 (mb_n c43 (mb_n c44 (mb_y c45 hs)))))))))))))))))))))))))))))))))))))))))))))⟩), b1, b2⟩
  by_cases c46 : (X.2.1 (6 * i)) &&& 63 = 46
  · obtain ⟨M', hs, b1, b2⟩ := lc_2758 hX h3 hJ K o6 o7 o8 o9 l2
    exact ⟨M', t_364_28 hL _ _ _ _ _ _ (mb_n hn ⟨_, hi, mb_n c0 (mb_n c1 (mb_n c2 (mb_n c3 (mb_n c4 (mb_n c5 (mb_n c6 (mb_n c7 (mb_n c8 (mb_n c9 (mb_n c10 (mb_n c11 (mb_n c12 (mb_n c13 (mb_n c14 (mb_n c15 (mb_n c16 (mb_n c17 (mb_n c18 (mb_n c19 (mb_n c20 (mb_n c21 (mb_n c22 (mb_n c23 (mb_n c24 (mb_n c25 (mb_n c26 (mb_n c27 (mb_n c28 (mb_n c29 (mb_n c30 (mb_n c31 (mb_n c32 (mb_n c33 (mb_n c34 (mb_n c35 (mb_n c36 (mb_n c37 (mb_n c38 (mb_n c39 (mb_n c40 (mb_n c41 (mb_n c42 (mb_n c43 (mb_n c44 (mb_n c45 (mb_y c46 hs))))))))))))))))))))))))))))))))))))))))))))))⟩), b1, b2⟩
  by_cases c47 : (X.2.1 (6 * i)) &&& 63 = 47
  · obtain ⟨M', hs, b1, b2⟩ := lc_2838 hX h3 hJ K o6 o7 o8 o9 l2
    exact ⟨M', t_364_28 hL _ _ _ _ _ _ (mb_n hn ⟨_, hi, mb_n c0 (mb_n c1 (mb_n c2 (mb_n c3 (mb_n c4 (mb_n c5 (mb_n c6 (mb_n c7 (mb_n c8 (mb_n c9 (mb_n c10 (mb_n c11 (mb_n c12 (mb_n c13 (mb_n c14 (mb_n c15 (mb_n c16 (mb_n c17 (mb_n c18 (mb_n c19 (mb_n c20 (mb_n c21 (mb_n c22 (mb_n c23 (mb_n c24 (mb_n c25 (mb_n c26 (mb_n c27 (mb_n c28 (mb_n c29 (mb_n c30 (mb_n c31 (mb_n c32 (mb_n c33 (mb_n c34 (mb_n c35 (mb_n c36 (mb_n c37 (mb_n c38 (mb_n c39 (mb_n c40 (mb_n c41 (mb_n c42 (mb_n c43 (mb_n c44 (mb_n c45 (mb_n c46 (mb_y c47 hs)))))))))))))))))))))))))))))))))))))))))))))))⟩), b1, b2⟩
  by_cases c48 : (X.2.1 (6 * i)) &&& 63 = 48
  · obtain ⟨M', hs, b1, b2⟩ := lc_2918 hX h3 hJ K o6 o7 o8 o9 l2
    exact ⟨M', t_364_28 hL _ _ _ _ _ _ (mb_n hn ⟨_, hi, mb_n c0 (mb_n c1 (mb_n c2 (mb_n c3 (mb_n c4 (mb_n c5 (mb_n c6 (mb_n c7 (mb_n c8 (mb_n c9 (mb_n c10 (mb_n c11 (mb_n c12 (mb_n c13 (mb_n c14 (mb_n c15 (mb_n c16 (mb_n c17 (mb_n c18 (mb_n c19 (mb_n c20 (mb_n c21 (mb_n c22 (mb_n c23 (mb_n c24 (mb_n c25 (mb_n c26 (mb_n c27 (mb_n c28 (mb_n c29 (mb_n c30 (mb_n c31 (mb_n c32 (mb_n c33 (mb_n c34 (mb_n c35 (mb_n c36 (mb_n c37 (mb_n c38 (mb_n c39 (mb_n c40 (mb_n c41 (mb_n c42 (mb_n c43 (mb_n c44 (mb_n c45 (mb_n c46 (mb_n c47 (mb_y c48 hs))))))))))))))))))))))))))))))))))))))))))))))))⟩), b1, b2⟩
  by_cases c49 : (X.2.1 (6 * i)) &&& 63 = 49
  · obtain ⟨M', hs, b1, b2⟩ := lc_2998 hX h3 hJ K o6 o7 o8 o9 l2
    exact ⟨M', t_364_28 hL _ _ _ _ _ _ (mb_n hn ⟨_, hi, mb_n c0 (mb_n c1 (mb_n c2 (mb_n c3 (mb_n c4 (mb_n c5 (mb_n c6 (mb_n c7 (mb_n c8 (mb_n c9 (mb_n c10 (mb_n c11 (mb_n c12 (mb_n c13 (mb_n c14 (mb_n c15 (mb_n c16 (mb_n c17 (mb_n c18 (mb_n c19 (mb_n c20 (mb_n c21 (mb_n c22 (mb_n c23 (mb_n c24 (mb_n c25 (mb_n c26 (mb_n c27 (mb_n c28 (mb_n c29 (mb_n c30 (mb_n c31 (mb_n c32 (mb_n c33 (mb_n c34 (mb_n c35 (mb_n c36 (mb_n c37 (mb_n c38 (mb_n c39 (mb_n c40 (mb_n c41 (mb_n c42 (mb_n c43 (mb_n c44 (mb_n c45 (mb_n c46 (mb_n c47 (mb_n c48 (mb_y c49 hs)))))))))))))))))))))))))))))))))))))))))))))))))⟩), b1, b2⟩
  by_cases c50 : (X.2.1 (6 * i)) &&& 63 = 50
  · obtain ⟨M', hs, b1, b2⟩ := lc_3066 hX h3 hJ K o6 o7 o8 o9 l2
    exact ⟨M', t_364_28 hL _ _ _ _ _ _ (mb_n hn ⟨_, hi, mb_n c0 (mb_n c1 (mb_n c2 (mb_n c3 (mb_n c4 (mb_n c5 (mb_n c6 (mb_n c7 (mb_n c8 (mb_n c9 (mb_n c10 (mb_n c11 (mb_n c12 (mb_n c13 (mb_n c14 (mb_n c15 (mb_n c16 (mb_n c17 (mb_n c18 (mb_n c19 (mb_n c20 (mb_n c21 (mb_n c22 (mb_n c23 (mb_n c24 (mb_n c25 (mb_n c26 (mb_n c27 (mb_n c28 (mb_n c29 (mb_n c30 (mb_n c31 (mb_n c32 (mb_n c33 (mb_n c34 (mb_n c35 (mb_n c36 (mb_n c37 (mb_n c38 (mb_n c39 (mb_n c40 (mb_n c41 (mb_n c42 (mb_n c43 (mb_n c44 (mb_n c45 (mb_n c46 (mb_n c47 (mb_n c48 (mb_n c49 (mb_y c50 hs))))))))))))))))))))))))))))))))))))))))))))))))))⟩), b1, b2⟩
  by_cases c51 : (X.2.1 (6 * i)) &&& 63 = 51
  · obtain ⟨M', hs, b1, b2⟩ := lc_3110 hX h3 hJ K o6 o7 o8 o9 l2
    exact ⟨M', t_364_28 hL _ _ _ _ _ _ (mb_n hn ⟨_, hi, mb_n c0 (mb_n c1 (mb_n c2 (mb_n c3 (mb_n c4 (mb_n c5 (mb_n c6 (mb_n c7 (mb_n c8 (mb_n c9 (mb_n c10 (mb_n c11 (mb_n c12 (mb_n c13 (mb_n c14 (mb_n c15 (mb_n c16 (mb_n c17 (mb_n c18 (mb_n c19 (mb_n c20 (mb_n c21 (mb_n c22 (mb_n c23 (mb_n c24 (mb_n c25 (mb_n c26 (mb_n c27 (mb_n c28 (mb_n c29 (mb_n c30 (mb_n c31 (mb_n c32 (mb_n c33 (mb_n c34 (mb_n c35 (mb_n c36 (mb_n c37 (mb_n c38 (mb_n c39 (mb_n c40 (mb_n c41 (mb_n c42 (mb_n c43 (mb_n c44 (mb_n c45 (mb_n c46 (mb_n c47 (mb_n c48 (mb_n c49 (mb_n c50 (mb_y c51 hs)))))))))))))))))))))))))))))))))))))))))))))))))))⟩), b1, b2⟩
  by_cases c52 : (X.2.1 (6 * i)) &&& 63 = 52
  · obtain ⟨M', hs, b1, b2⟩ := lc_3166 hX h3 hJ K o6 o7 o8 o9 l2
    exact ⟨M', t_364_28 hL _ _ _ _ _ _ (mb_n hn ⟨_, hi, mb_n c0 (mb_n c1 (mb_n c2 (mb_n c3 (mb_n c4 (mb_n c5 (mb_n c6 (mb_n c7 (mb_n c8 (mb_n c9 (mb_n c10 (mb_n c11 (mb_n c12 (mb_n c13 (mb_n c14 (mb_n c15 (mb_n c16 (mb_n c17 (mb_n c18 (mb_n c19 (mb_n c20 (mb_n c21 (mb_n c22 (mb_n c23 (mb_n c24 (mb_n c25 (mb_n c26 (mb_n c27 (mb_n c28 (mb_n c29 (mb_n c30 (mb_n c31 (mb_n c32 (mb_n c33 (mb_n c34 (mb_n c35 (mb_n c36 (mb_n c37 (mb_n c38 (mb_n c39 (mb_n c40 (mb_n c41 (mb_n c42 (mb_n c43 (mb_n c44 (mb_n c45 (mb_n c46 (mb_n c47 (mb_n c48 (mb_n c49 (mb_n c50 (mb_n c51 (mb_y c52 hs))))))))))))))))))))))))))))))))))))))))))))))))))))⟩), b1, b2⟩
  by_cases c53 : (X.2.1 (6 * i)) &&& 63 = 53
  · obtain ⟨M', hs, b1, b2⟩ := lc_3179 hX h3 hJ K o6 o7 o8 o9 l2
    exact ⟨M', t_364_28 hL _ _ _ _ _ _ (mb_n hn ⟨_, hi, mb_n c0 (mb_n c1 (mb_n c2 (mb_n c3 (mb_n c4 (mb_n c5 (mb_n c6 (mb_n c7 (mb_n c8 (mb_n c9 (mb_n c10 (mb_n c11 (mb_n c12 (mb_n c13 (mb_n c14 (mb_n c15 (mb_n c16 (mb_n c17 (mb_n c18 (mb_n c19 (mb_n c20 (mb_n c21 (mb_n c22 (mb_n c23 (mb_n c24 (mb_n c25 (mb_n c26 (mb_n c27 (mb_n c28 (mb_n c29 (mb_n c30 (mb_n c31 (mb_n c32 (mb_n c33 (mb_n c34 (mb_n c35 (mb_n c36 (mb_n c37 (mb_n c38 (mb_n c39 (mb_n c40 (mb_n c41 (mb_n c42 (mb_n c43 (mb_n c44 (mb_n c45 (mb_n c46 (mb_n c47 (mb_n c48 (mb_n c49 (mb_n c50 (mb_n c51 (mb_n c52 (mb_y c53 hs)))))))))))))))))))))))))))))))))))))))))))))))))))))⟩), b1, b2⟩
  by_cases c54 : (X.2.1 (6 * i)) &&& 63 = 54
  · obtain ⟨M', hs, b1, b2⟩ := lc_3192 hX h3 hJ K o6 o7 o8 o9 l2
    exact ⟨M', t_364_28 hL _ _ _ _ _ _ (mb_n hn ⟨_, hi, mb_n c0 (mb_n c1 (mb_n c2 (mb_n c3 (mb_n c4 (mb_n c5 (mb_n c6 (mb_n c7 (mb_n c8 (mb_n c9 (mb_n c10 (mb_n c11 (mb_n c12 (mb_n c13 (mb_n c14 (mb_n c15 (mb_n c16 (mb_n c17 (mb_n c18 (mb_n c19 (mb_n c20 (mb_n c21 (mb_n c22 (mb_n c23 (mb_n c24 (mb_n c25 (mb_n c26 (mb_n c27 (mb_n c28 (mb_n c29 (mb_n c30 (mb_n c31 (mb_n c32 (mb_n c33 (mb_n c34 (mb_n c35 (mb_n c36 (mb_n c37 (mb_n c38 (mb_n c39 (mb_n c40 (mb_n c41 (mb_n c42 (mb_n c43 (mb_n c44 (mb_n c45 (mb_n c46 (mb_n c47 (mb_n c48 (mb_n c49 (mb_n c50 (mb_n c51 (mb_n c52 (mb_n c53 (mb_y c54 hs))))))))))))))))))))))))))))))))))))))))))))))))))))))⟩), b1, b2⟩
  by_cases c55 : (X.2.1 (6 * i)) &&& 63 = 55
  · obtain ⟨M', hs, b1, b2⟩ := lc_3217 hX h3 hJ K o6 o7 o8 o9 l2
    exact ⟨M', t_364_28 hL _ _ _ _ _ _ (mb_n hn ⟨_, hi, mb_n c0 (mb_n c1 (mb_n c2 (mb_n c3 (mb_n c4 (mb_n c5 (mb_n c6 (mb_n c7 (mb_n c8 (mb_n c9 (mb_n c10 (mb_n c11 (mb_n c12 (mb_n c13 (mb_n c14 (mb_n c15 (mb_n c16 (mb_n c17 (mb_n c18 (mb_n c19 (mb_n c20 (mb_n c21 (mb_n c22 (mb_n c23 (mb_n c24 (mb_n c25 (mb_n c26 (mb_n c27 (mb_n c28 (mb_n c29 (mb_n c30 (mb_n c31 (mb_n c32 (mb_n c33 (mb_n c34 (mb_n c35 (mb_n c36 (mb_n c37 (mb_n c38 (mb_n c39 (mb_n c40 (mb_n c41 (mb_n c42 (mb_n c43 (mb_n c44 (mb_n c45 (mb_n c46 (mb_n c47 (mb_n c48 (mb_n c49 (mb_n c50 (mb_n c51 (mb_n c52 (mb_n c53 (mb_n c54 (mb_y c55 hs)))))))))))))))))))))))))))))))))))))))))))))))))))))))⟩), b1, b2⟩
  by_cases c56 : (X.2.1 (6 * i)) &&& 63 = 56
  · obtain ⟨M', hs, b1, b2⟩ := lc_3230 hX h3 hJ K o6 o7 o8 o9 l2
    exact ⟨M', t_364_28 hL _ _ _ _ _ _ (mb_n hn ⟨_, hi, mb_n c0 (mb_n c1 (mb_n c2 (mb_n c3 (mb_n c4 (mb_n c5 (mb_n c6 (mb_n c7 (mb_n c8 (mb_n c9 (mb_n c10 (mb_n c11 (mb_n c12 (mb_n c13 (mb_n c14 (mb_n c15 (mb_n c16 (mb_n c17 (mb_n c18 (mb_n c19 (mb_n c20 (mb_n c21 (mb_n c22 (mb_n c23 (mb_n c24 (mb_n c25 (mb_n c26 (mb_n c27 (mb_n c28 (mb_n c29 (mb_n c30 (mb_n c31 (mb_n c32 (mb_n c33 (mb_n c34 (mb_n c35 (mb_n c36 (mb_n c37 (mb_n c38 (mb_n c39 (mb_n c40 (mb_n c41 (mb_n c42 (mb_n c43 (mb_n c44 (mb_n c45 (mb_n c46 (mb_n c47 (mb_n c48 (mb_n c49 (mb_n c50 (mb_n c51 (mb_n c52 (mb_n c53 (mb_n c54 (mb_n c55 (mb_y c56 hs))))))))))))))))))))))))))))))))))))))))))))))))))))))))⟩), b1, b2⟩
  obtain ⟨M', hs, b1, b2⟩ := K M hJ (by omega) (by omega) o6 o7 o8 o9 l2
  exact ⟨M', t_364_28 hL _ _ _ _ _ _ (mb_n hn ⟨_, hi, mb_n c0 (mb_n c1 (mb_n c2 (mb_n c3 (mb_n c4 (mb_n c5 (mb_n c6 (mb_n c7 (mb_n c8 (mb_n c9 (mb_n c10 (mb_n c11 (mb_n c12 (mb_n c13 (mb_n c14 (mb_n c15 (mb_n c16 (mb_n c17 (mb_n c18 (mb_n c19 (mb_n c20 (mb_n c21 (mb_n c22 (mb_n c23 (mb_n c24 (mb_n c25 (mb_n c26 (mb_n c27 (mb_n c28 (mb_n c29 (mb_n c30 (mb_n c31 (mb_n c32 (mb_n c33 (mb_n c34 (mb_n c35 (mb_n c36 (mb_n c37 (mb_n c38 (mb_n c39 (mb_n c40 (mb_n c41 (mb_n c42 (mb_n c43 (mb_n c44 (mb_n c45 (mb_n c46 (mb_n c47 (mb_n c48 (mb_n c49 (mb_n c50 (mb_n c51 (mb_n c52 (mb_n c53 (mb_n c54 (mb_n c55 (mb_n c56 hs))))))))))))))))))))))))))))))))))))))))))))))))))))))))⟩), b1, b2⟩
theorem lw_loop (h3 : X.1 ≤ 3072) : ∀ i, i ≤ X.1 / 6 → ∀ M, JJ M → ak_C M ≤ 600 + 3 * i → ak_Z M ≤ 11000 + 12 * i → ∀ o6 o7 o8 o9 l2, Dn X 28 i o6 o7 o8 o9 l2 M := by
  refine mb_up (P := fun i => ∀ M, JJ M → ak_C M ≤ 600 + 3 * i → ak_Z M ≤ 11000 + 12 * i → ∀ o6 o7 o8 o9 l2, Dn X 28 i o6 o7 o8 o9 l2 M) (n := X.1 / 6) ?_ ?_
  · intro M hJ hC hZ o6 o7 o8 o9 l2
    exact ⟨M, t_364_28 hJ.1 _ _ _ _ _ _ (mb_y ((lw_end h3 (by omega)).mpr (by omega)) rfl), by omega, by omega⟩
  · intro i hi ih M hJ hC hZ o6 o7 o8 o9 l2
    refine lw_round (by omega) h3 hJ (fun M2 hJ2 hC2 hZ2 o6 o7 o8 o9 l2 => ?_) o6 o7 o8 o9 l2
    obtain ⟨M', hs, b1, b2⟩ := ih M2 hJ2 (by omega) (by omega) o6 o7 o8 o9 ((l2).filter (fun q => !(q.1 == 5) && !(q.1 + 1 == 5)))
    refine ⟨M', t_364_3274 hJ2.1 _ _ _ _ _ _ ?_, b1, b2⟩
    rw [show nI (6 * i) + 6 = nI (6 * (i + 1)) from mi_add (6 * i) 6]
    exact hs
end SLZ
