/-! the walk of the law, laid by wip/whole/walk.py -/
theorem t_364_28 {X : ak_X} {M : ak_M} {r : ak_O × ak_M} (hL : ab_lay M) (y5 : Int32) (o6 o7 o8 o9 : Option Value) (l2 : List (Nat × Value)) (h : (if (Int32.ofNat X.1) - 6 < y5 then r = (.inl (some (.int 1)), M) else (∃ i1 : Nat, ab_ix y5 i1 X.1 ∧ (if (X.2.1 i1) &&& 63 = 0 then sg X 364 (288, [some (.ref 1000000), some (.ref 0), some (.ref 483), some (.ref 497), some (.ref 498), some (.int y5), o6, o7, o8, o9], l2, []) M r else (if (X.2.1 i1) &&& 63 = 1 then sg X 364 (361, [some (.ref 1000000), some (.ref 0), some (.ref 483), some (.ref 497), some (.ref 498), some (.int y5), o6, o7, o8, o9], l2, []) M r else (if (X.2.1 i1) &&& 63 = 2 then sg X 364 (386, [some (.ref 1000000), some (.ref 0), some (.ref 483), some (.ref 497), some (.ref 498), some (.int y5), o6, o7, o8, o9], l2, []) M r else (if (X.2.1 i1) &&& 63 = 3 then sg X 364 (399, [some (.ref 1000000), some (.ref 0), some (.ref 483), some (.ref 497), some (.ref 498), some (.int y5), o6, o7, o8, o9], l2, []) M r else (if (X.2.1 i1) &&& 63 = 4 then sg X 364 (412, [some (.ref 1000000), some (.ref 0), some (.ref 483), some (.ref 497), some (.ref 498), some (.int y5), o6, o7, o8, o9], l2, []) M r else (if (X.2.1 i1) &&& 63 = 5 then sg X 364 (425, [some (.ref 1000000), some (.ref 0), some (.ref 483), some (.ref 497), some (.ref 498), some (.int y5), o6, o7, o8, o9], l2, []) M r else (if (X.2.1 i1) &&& 63 = 6 then sg X 364 (450, [some (.ref 1000000), some (.ref 0), some (.ref 483), some (.ref 497), some (.ref 498), some (.int y5), o6, o7, o8, o9], l2, []) M r else (if (X.2.1 i1) &&& 63 = 7 then sg X 364 (475, [some (.ref 1000000), some (.ref 0), some (.ref 483), some (.ref 497), some (.ref 498), some (.int y5), o6, o7, o8, o9], l2, []) M r else (if (X.2.1 i1) &&& 63 = 8 then sg X 364 (488, [some (.ref 1000000), some (.ref 0), some (.ref 483), some (.ref 497), some (.ref 498), some (.int y5), o6, o7, o8, o9], l2, []) M r else (if (X.2.1 i1) &&& 63 = 9 then sg X 364 (556, [some (.ref 1000000), some (.ref 0), some (.ref 483), some (.ref 497), some (.ref 498), some (.int y5), o6, o7, o8, o9], l2, []) M r else (if (X.2.1 i1) &&& 63 = 10 then sg X 364 (624, [some (.ref 1000000), some (.ref 0), some (.ref 483), some (.ref 497), some (.ref 498), some (.int y5), o6, o7, o8, o9], l2, []) M r else (if (X.2.1 i1) &&& 63 = 11 then sg X 364 (680, [some (.ref 1000000), some (.ref 0), some (.ref 483), some (.ref 497), some (.ref 498), some (.int y5), o6, o7, o8, o9], l2, []) M r else (if (X.2.1 i1) &&& 63 = 12 then sg X 364 (736, [some (.ref 1000000), some (.ref 0), some (.ref 483), some (.ref 497), some (.ref 498), some (.int y5), o6, o7, o8, o9], l2, []) M r else (if (X.2.1 i1) &&& 63 = 13 then sg X 364 (792, [some (.ref 1000000), some (.ref 0), some (.ref 483), some (.ref 497), some (.ref 498), some (.int y5), o6, o7, o8, o9], l2, []) M r else (if (X.2.1 i1) &&& 63 = 14 then sg X 364 (867, [some (.ref 1000000), some (.ref 0), some (.ref 483), some (.ref 497), some (.ref 498), some (.int y5), o6, o7, o8, o9], l2, []) M r else (if (X.2.1 i1) &&& 63 = 15 then sg X 364 (947, [some (.ref 1000000), some (.ref 0), some (.ref 483), some (.ref 497), some (.ref 498), some (.int y5), o6, o7, o8, o9], l2, []) M r else (if (X.2.1 i1) &&& 63 = 16 then sg X 364 (1003, [some (.ref 1000000), some (.ref 0), some (.ref 483), some (.ref 497), some (.ref 498), some (.int y5), o6, o7, o8, o9], l2, []) M r else (if (X.2.1 i1) &&& 63 = 17 then sg X 364 (1059, [some (.ref 1000000), some (.ref 0), some (.ref 483), some (.ref 497), some (.ref 498), some (.int y5), o6, o7, o8, o9], l2, []) M r else (if (X.2.1 i1) &&& 63 = 18 then sg X 364 (1127, [some (.ref 1000000), some (.ref 0), some (.ref 483), some (.ref 497), some (.ref 498), some (.int y5), o6, o7, o8, o9], l2, []) M r else (if (X.2.1 i1) &&& 63 = 19 then sg X 364 (1140, [some (.ref 1000000), some (.ref 0), some (.ref 483), some (.ref 497), some (.ref 498), some (.int y5), o6, o7, o8, o9], l2, []) M r else (if (X.2.1 i1) &&& 63 = 20 then sg X 364 (1153, [some (.ref 1000000), some (.ref 0), some (.ref 483), some (.ref 497), some (.ref 498), some (.int y5), o6, o7, o8, o9], l2, []) M r else (if (X.2.1 i1) &&& 63 = 21 then sg X 364 (1166, [some (.ref 1000000), some (.ref 0), some (.ref 483), some (.ref 497), some (.ref 498), some (.int y5), o6, o7, o8, o9], l2, []) M r else (if (X.2.1 i1) &&& 63 = 22 then sg X 364 (1246, [some (.ref 1000000), some (.ref 0), some (.ref 483), some (.ref 497), some (.ref 498), some (.int y5), o6, o7, o8, o9], l2, []) M r else (if (X.2.1 i1) &&& 63 = 23 then sg X 364 (1314, [some (.ref 1000000), some (.ref 0), some (.ref 483), some (.ref 497), some (.ref 498), some (.int y5), o6, o7, o8, o9], l2, []) M r else (if (X.2.1 i1) &&& 63 = 24 then sg X 364 (1370, [some (.ref 1000000), some (.ref 0), some (.ref 483), some (.ref 497), some (.ref 498), some (.int y5), o6, o7, o8, o9], l2, []) M r else (if (X.2.1 i1) &&& 63 = 25 then sg X 364 (1426, [some (.ref 1000000), some (.ref 0), some (.ref 483), some (.ref 497), some (.ref 498), some (.int y5), o6, o7, o8, o9], l2, []) M r else (if (X.2.1 i1) &&& 63 = 26 then sg X 364 (1482, [some (.ref 1000000), some (.ref 0), some (.ref 483), some (.ref 497), some (.ref 498), some (.int y5), o6, o7, o8, o9], l2, []) M r else (if (X.2.1 i1) &&& 63 = 27 then sg X 364 (1538, [some (.ref 1000000), some (.ref 0), some (.ref 483), some (.ref 497), some (.ref 498), some (.int y5), o6, o7, o8, o9], l2, []) M r else (if (X.2.1 i1) &&& 63 = 28 then sg X 364 (1594, [some (.ref 1000000), some (.ref 0), some (.ref 483), some (.ref 497), some (.ref 498), some (.int y5), o6, o7, o8, o9], l2, []) M r else (if (X.2.1 i1) &&& 63 = 29 then sg X 364 (1686, [some (.ref 1000000), some (.ref 0), some (.ref 483), some (.ref 497), some (.ref 498), some (.int y5), o6, o7, o8, o9], l2, []) M r else (if (X.2.1 i1) &&& 63 = 30 then sg X 364 (1699, [some (.ref 1000000), some (.ref 0), some (.ref 483), some (.ref 497), some (.ref 498), some (.int y5), o6, o7, o8, o9], l2, []) M r else (if (X.2.1 i1) &&& 63 = 31 then sg X 364 (1740, [some (.ref 1000000), some (.ref 0), some (.ref 483), some (.ref 497), some (.ref 498), some (.int y5), o6, o7, o8, o9], l2, []) M r else (if (X.2.1 i1) &&& 63 = 32 then sg X 364 (1818, [some (.ref 1000000), some (.ref 0), some (.ref 483), some (.ref 497), some (.ref 498), some (.int y5), o6, o7, o8, o9], l2, []) M r else (if (X.2.1 i1) &&& 63 = 33 then sg X 364 (1898, [some (.ref 1000000), some (.ref 0), some (.ref 483), some (.ref 497), some (.ref 498), some (.int y5), o6, o7, o8, o9], l2, []) M r else (if (X.2.1 i1) &&& 63 = 34 then sg X 364 (1966, [some (.ref 1000000), some (.ref 0), some (.ref 483), some (.ref 497), some (.ref 498), some (.int y5), o6, o7, o8, o9], l2, []) M r else (if (X.2.1 i1) &&& 63 = 35 then sg X 364 (2046, [some (.ref 1000000), some (.ref 0), some (.ref 483), some (.ref 497), some (.ref 498), some (.int y5), o6, o7, o8, o9], l2, []) M r else (if (X.2.1 i1) &&& 63 = 36 then sg X 364 (2102, [some (.ref 1000000), some (.ref 0), some (.ref 483), some (.ref 497), some (.ref 498), some (.int y5), o6, o7, o8, o9], l2, []) M r else (if (X.2.1 i1) &&& 63 = 37 then sg X 364 (2170, [some (.ref 1000000), some (.ref 0), some (.ref 483), some (.ref 497), some (.ref 498), some (.int y5), o6, o7, o8, o9], l2, []) M r else (if (X.2.1 i1) &&& 63 = 38 then sg X 364 (2250, [some (.ref 1000000), some (.ref 0), some (.ref 483), some (.ref 497), some (.ref 498), some (.int y5), o6, o7, o8, o9], l2, []) M r else (if (X.2.1 i1) &&& 63 = 39 then sg X 364 (2318, [some (.ref 1000000), some (.ref 0), some (.ref 483), some (.ref 497), some (.ref 498), some (.int y5), o6, o7, o8, o9], l2, []) M r else (if (X.2.1 i1) &&& 63 = 40 then sg X 364 (2386, [some (.ref 1000000), some (.ref 0), some (.ref 483), some (.ref 497), some (.ref 498), some (.int y5), o6, o7, o8, o9], l2, []) M r else (if (X.2.1 i1) &&& 63 = 41 then sg X 364 (2454, [some (.ref 1000000), some (.ref 0), some (.ref 483), some (.ref 497), some (.ref 498), some (.int y5), o6, o7, o8, o9], l2, []) M r else (if (X.2.1 i1) &&& 63 = 42 then sg X 364 (2510, [some (.ref 1000000), some (.ref 0), some (.ref 483), some (.ref 497), some (.ref 498), some (.int y5), o6, o7, o8, o9], l2, []) M r else (if (X.2.1 i1) &&& 63 = 43 then sg X 364 (2566, [some (.ref 1000000), some (.ref 0), some (.ref 483), some (.ref 497), some (.ref 498), some (.int y5), o6, o7, o8, o9], l2, []) M r else (if (X.2.1 i1) &&& 63 = 44 then sg X 364 (2634, [some (.ref 1000000), some (.ref 0), some (.ref 483), some (.ref 497), some (.ref 498), some (.int y5), o6, o7, o8, o9], l2, []) M r else (if (X.2.1 i1) &&& 63 = 45 then sg X 364 (2690, [some (.ref 1000000), some (.ref 0), some (.ref 483), some (.ref 497), some (.ref 498), some (.int y5), o6, o7, o8, o9], l2, []) M r else (if (X.2.1 i1) &&& 63 = 46 then sg X 364 (2758, [some (.ref 1000000), some (.ref 0), some (.ref 483), some (.ref 497), some (.ref 498), some (.int y5), o6, o7, o8, o9], l2, []) M r else (if (X.2.1 i1) &&& 63 = 47 then sg X 364 (2838, [some (.ref 1000000), some (.ref 0), some (.ref 483), some (.ref 497), some (.ref 498), some (.int y5), o6, o7, o8, o9], l2, []) M r else (if (X.2.1 i1) &&& 63 = 48 then sg X 364 (2918, [some (.ref 1000000), some (.ref 0), some (.ref 483), some (.ref 497), some (.ref 498), some (.int y5), o6, o7, o8, o9], l2, []) M r else (if (X.2.1 i1) &&& 63 = 49 then sg X 364 (2998, [some (.ref 1000000), some (.ref 0), some (.ref 483), some (.ref 497), some (.ref 498), some (.int y5), o6, o7, o8, o9], l2, []) M r else (if (X.2.1 i1) &&& 63 = 50 then sg X 364 (3066, [some (.ref 1000000), some (.ref 0), some (.ref 483), some (.ref 497), some (.ref 498), some (.int y5), o6, o7, o8, o9], l2, []) M r else (if (X.2.1 i1) &&& 63 = 51 then sg X 364 (3110, [some (.ref 1000000), some (.ref 0), some (.ref 483), some (.ref 497), some (.ref 498), some (.int y5), o6, o7, o8, o9], l2, []) M r else (if (X.2.1 i1) &&& 63 = 52 then sg X 364 (3166, [some (.ref 1000000), some (.ref 0), some (.ref 483), some (.ref 497), some (.ref 498), some (.int y5), o6, o7, o8, o9], l2, []) M r else (if (X.2.1 i1) &&& 63 = 53 then sg X 364 (3179, [some (.ref 1000000), some (.ref 0), some (.ref 483), some (.ref 497), some (.ref 498), some (.int y5), o6, o7, o8, o9], l2, []) M r else (if (X.2.1 i1) &&& 63 = 54 then sg X 364 (3192, [some (.ref 1000000), some (.ref 0), some (.ref 483), some (.ref 497), some (.ref 498), some (.int y5), o6, o7, o8, o9], l2, []) M r else (if (X.2.1 i1) &&& 63 = 55 then sg X 364 (3217, [some (.ref 1000000), some (.ref 0), some (.ref 483), some (.ref 497), some (.ref 498), some (.int y5), o6, o7, o8, o9], l2, []) M r else (if (X.2.1 i1) &&& 63 = 56 then sg X 364 (3230, [some (.ref 1000000), some (.ref 0), some (.ref 483), some (.ref 497), some (.ref 498), some (.int y5), o6, o7, o8, o9], l2, []) M r else sg X 364 (3274, [some (.ref 1000000), some (.ref 0), some (.ref 483), some (.ref 497), some (.ref 498), some (.int y5), o6, o7, o8, o9], l2, []) M r)))))))))))))))))))))))))))))))))))))))))))))))))))))))))))) : sg X 364 (28, [some (.ref 1000000), some (.ref 0), some (.ref 483), some (.ref 497), some (.ref 498), some (.int y5), o6, o7, o8, o9], l2, []) M r := by
  refine w_iload (n := 30) (i := 5) (by decide +kernel) rfl rfl ?_
  refine w_aload_n (n := 31) (i := 0) (by decide +kernel) rfl rfl ?_
  refine w_slen (n := 32) hL (by decide +kernel) rfl ?_
  refine w_bipush (n := 34) (v := 6) (x := 6) (by decide +kernel) rfl (by decide) ?_
  refine w_isub (n := 35) (by decide +kernel) rfl ?_
  by_cases c59 : (Int32.ofNat X.1) - 6 < y5
  · rw [if_pos c59] at h
    refine w_icmp_gt_j (n := 3280) (off := 3245) (by decide +kernel) (by decide) c59 ?_
    refine w_iconst (n := 3281) (v := 1) (x := 1) (by decide +kernel) rfl (by decide) ?_
    subst h
    exact w_ireturn (by decide +kernel) (by decide +kernel)
  · rw [if_neg c59] at h
    refine w_icmp_gt_n (n := 38) (off := 3245) (by decide +kernel) rfl c59 ?_
    refine w_aload_n (n := 39) (i := 0) (by decide +kernel) rfl rfl ?_
    refine w_iload (n := 41) (i := 5) (by decide +kernel) rfl rfl ?_
    obtain ⟨i1, gi1, h⟩ := h
    refine w_sld (n := 42) hL (by decide +kernel) gi1 rfl ?_
    refine w_bipush (n := 44) (v := 63) (x := 63) (by decide +kernel) rfl (by decide) ?_
    refine w_iand (n := 45) (by decide +kernel) rfl ?_
    by_cases c2 : (X.2.1 i1) &&& 63 = 0
    · rw [if_pos c2] at h
      refine w_tsw (n := 288) (d := 3229) (lo := 0) (hi := 56) (offs := #[243, 316, 341, 354, 367, 380, 405, 430, 443, 511, 579, 635, 691, 747, 822, 902, 958, 1014, 1082, 1095, 1108, 1121, 1201, 1269, 1325, 1381, 1437, 1493, 1549, 1641, 1654, 1695, 1773, 1853, 1921, 2001, 2057, 2125, 2205, 2273, 2341, 2409, 2465, 2521, 2589, 2645, 2713, 2793, 2873, 2953, 3021, 3065, 3121, 3134, 3147, 3172, 3185]) (o := 243) (by decide +kernel) (by rw [c2]; decide) (by decide) ?_
      exact h
    · rw [if_neg c2] at h
      by_cases c3 : (X.2.1 i1) &&& 63 = 1
      · rw [if_pos c3] at h
        refine w_tsw (n := 361) (d := 3229) (lo := 0) (hi := 56) (offs := #[243, 316, 341, 354, 367, 380, 405, 430, 443, 511, 579, 635, 691, 747, 822, 902, 958, 1014, 1082, 1095, 1108, 1121, 1201, 1269, 1325, 1381, 1437, 1493, 1549, 1641, 1654, 1695, 1773, 1853, 1921, 2001, 2057, 2125, 2205, 2273, 2341, 2409, 2465, 2521, 2589, 2645, 2713, 2793, 2873, 2953, 3021, 3065, 3121, 3134, 3147, 3172, 3185]) (o := 316) (by decide +kernel) (by rw [c3]; decide) (by decide) ?_
        exact h
      · rw [if_neg c3] at h
        by_cases c4 : (X.2.1 i1) &&& 63 = 2
        · rw [if_pos c4] at h
          refine w_tsw (n := 386) (d := 3229) (lo := 0) (hi := 56) (offs := #[243, 316, 341, 354, 367, 380, 405, 430, 443, 511, 579, 635, 691, 747, 822, 902, 958, 1014, 1082, 1095, 1108, 1121, 1201, 1269, 1325, 1381, 1437, 1493, 1549, 1641, 1654, 1695, 1773, 1853, 1921, 2001, 2057, 2125, 2205, 2273, 2341, 2409, 2465, 2521, 2589, 2645, 2713, 2793, 2873, 2953, 3021, 3065, 3121, 3134, 3147, 3172, 3185]) (o := 341) (by decide +kernel) (by rw [c4]; decide) (by decide) ?_
          exact h
        · rw [if_neg c4] at h
          by_cases c5 : (X.2.1 i1) &&& 63 = 3
          · rw [if_pos c5] at h
            refine w_tsw (n := 399) (d := 3229) (lo := 0) (hi := 56) (offs := #[243, 316, 341, 354, 367, 380, 405, 430, 443, 511, 579, 635, 691, 747, 822, 902, 958, 1014, 1082, 1095, 1108, 1121, 1201, 1269, 1325, 1381, 1437, 1493, 1549, 1641, 1654, 1695, 1773, 1853, 1921, 2001, 2057, 2125, 2205, 2273, 2341, 2409, 2465, 2521, 2589, 2645, 2713, 2793, 2873, 2953, 3021, 3065, 3121, 3134, 3147, 3172, 3185]) (o := 354) (by decide +kernel) (by rw [c5]; decide) (by decide) ?_
            exact h
          · rw [if_neg c5] at h
            by_cases c6 : (X.2.1 i1) &&& 63 = 4
            · rw [if_pos c6] at h
              refine w_tsw (n := 412) (d := 3229) (lo := 0) (hi := 56) (offs := #[243, 316, 341, 354, 367, 380, 405, 430, 443, 511, 579, 635, 691, 747, 822, 902, 958, 1014, 1082, 1095, 1108, 1121, 1201, 1269, 1325, 1381, 1437, 1493, 1549, 1641, 1654, 1695, 1773, 1853, 1921, 2001, 2057, 2125, 2205, 2273, 2341, 2409, 2465, 2521, 2589, 2645, 2713, 2793, 2873, 2953, 3021, 3065, 3121, 3134, 3147, 3172, 3185]) (o := 367) (by decide +kernel) (by rw [c6]; decide) (by decide) ?_
              exact h
            · rw [if_neg c6] at h
              by_cases c7 : (X.2.1 i1) &&& 63 = 5
              · rw [if_pos c7] at h
                refine w_tsw (n := 425) (d := 3229) (lo := 0) (hi := 56) (offs := #[243, 316, 341, 354, 367, 380, 405, 430, 443, 511, 579, 635, 691, 747, 822, 902, 958, 1014, 1082, 1095, 1108, 1121, 1201, 1269, 1325, 1381, 1437, 1493, 1549, 1641, 1654, 1695, 1773, 1853, 1921, 2001, 2057, 2125, 2205, 2273, 2341, 2409, 2465, 2521, 2589, 2645, 2713, 2793, 2873, 2953, 3021, 3065, 3121, 3134, 3147, 3172, 3185]) (o := 380) (by decide +kernel) (by rw [c7]; decide) (by decide) ?_
                exact h
              · rw [if_neg c7] at h
                by_cases c8 : (X.2.1 i1) &&& 63 = 6
                · rw [if_pos c8] at h
                  refine w_tsw (n := 450) (d := 3229) (lo := 0) (hi := 56) (offs := #[243, 316, 341, 354, 367, 380, 405, 430, 443, 511, 579, 635, 691, 747, 822, 902, 958, 1014, 1082, 1095, 1108, 1121, 1201, 1269, 1325, 1381, 1437, 1493, 1549, 1641, 1654, 1695, 1773, 1853, 1921, 2001, 2057, 2125, 2205, 2273, 2341, 2409, 2465, 2521, 2589, 2645, 2713, 2793, 2873, 2953, 3021, 3065, 3121, 3134, 3147, 3172, 3185]) (o := 405) (by decide +kernel) (by rw [c8]; decide) (by decide) ?_
                  exact h
                · rw [if_neg c8] at h
                  by_cases c9 : (X.2.1 i1) &&& 63 = 7
                  · rw [if_pos c9] at h
                    refine w_tsw (n := 475) (d := 3229) (lo := 0) (hi := 56) (offs := #[243, 316, 341, 354, 367, 380, 405, 430, 443, 511, 579, 635, 691, 747, 822, 902, 958, 1014, 1082, 1095, 1108, 1121, 1201, 1269, 1325, 1381, 1437, 1493, 1549, 1641, 1654, 1695, 1773, 1853, 1921, 2001, 2057, 2125, 2205, 2273, 2341, 2409, 2465, 2521, 2589, 2645, 2713, 2793, 2873, 2953, 3021, 3065, 3121, 3134, 3147, 3172, 3185]) (o := 430) (by decide +kernel) (by rw [c9]; decide) (by decide) ?_
                    exact h
                  · rw [if_neg c9] at h
                    by_cases c10 : (X.2.1 i1) &&& 63 = 8
                    · rw [if_pos c10] at h
                      refine w_tsw (n := 488) (d := 3229) (lo := 0) (hi := 56) (offs := #[243, 316, 341, 354, 367, 380, 405, 430, 443, 511, 579, 635, 691, 747, 822, 902, 958, 1014, 1082, 1095, 1108, 1121, 1201, 1269, 1325, 1381, 1437, 1493, 1549, 1641, 1654, 1695, 1773, 1853, 1921, 2001, 2057, 2125, 2205, 2273, 2341, 2409, 2465, 2521, 2589, 2645, 2713, 2793, 2873, 2953, 3021, 3065, 3121, 3134, 3147, 3172, 3185]) (o := 443) (by decide +kernel) (by rw [c10]; decide) (by decide) ?_
                      exact h
                    · rw [if_neg c10] at h
                      by_cases c11 : (X.2.1 i1) &&& 63 = 9
                      · rw [if_pos c11] at h
                        refine w_tsw (n := 556) (d := 3229) (lo := 0) (hi := 56) (offs := #[243, 316, 341, 354, 367, 380, 405, 430, 443, 511, 579, 635, 691, 747, 822, 902, 958, 1014, 1082, 1095, 1108, 1121, 1201, 1269, 1325, 1381, 1437, 1493, 1549, 1641, 1654, 1695, 1773, 1853, 1921, 2001, 2057, 2125, 2205, 2273, 2341, 2409, 2465, 2521, 2589, 2645, 2713, 2793, 2873, 2953, 3021, 3065, 3121, 3134, 3147, 3172, 3185]) (o := 511) (by decide +kernel) (by rw [c11]; decide) (by decide) ?_
                        exact h
                      · rw [if_neg c11] at h
                        by_cases c12 : (X.2.1 i1) &&& 63 = 10
                        · rw [if_pos c12] at h
                          refine w_tsw (n := 624) (d := 3229) (lo := 0) (hi := 56) (offs := #[243, 316, 341, 354, 367, 380, 405, 430, 443, 511, 579, 635, 691, 747, 822, 902, 958, 1014, 1082, 1095, 1108, 1121, 1201, 1269, 1325, 1381, 1437, 1493, 1549, 1641, 1654, 1695, 1773, 1853, 1921, 2001, 2057, 2125, 2205, 2273, 2341, 2409, 2465, 2521, 2589, 2645, 2713, 2793, 2873, 2953, 3021, 3065, 3121, 3134, 3147, 3172, 3185]) (o := 579) (by decide +kernel) (by rw [c12]; decide) (by decide) ?_
                          exact h
                        · rw [if_neg c12] at h
                          by_cases c13 : (X.2.1 i1) &&& 63 = 11
                          · rw [if_pos c13] at h
                            refine w_tsw (n := 680) (d := 3229) (lo := 0) (hi := 56) (offs := #[243, 316, 341, 354, 367, 380, 405, 430, 443, 511, 579, 635, 691, 747, 822, 902, 958, 1014, 1082, 1095, 1108, 1121, 1201, 1269, 1325, 1381, 1437, 1493, 1549, 1641, 1654, 1695, 1773, 1853, 1921, 2001, 2057, 2125, 2205, 2273, 2341, 2409, 2465, 2521, 2589, 2645, 2713, 2793, 2873, 2953, 3021, 3065, 3121, 3134, 3147, 3172, 3185]) (o := 635) (by decide +kernel) (by rw [c13]; decide) (by decide) ?_
                            exact h
                          · rw [if_neg c13] at h
                            by_cases c14 : (X.2.1 i1) &&& 63 = 12
                            · rw [if_pos c14] at h
                              refine w_tsw (n := 736) (d := 3229) (lo := 0) (hi := 56) (offs := #[243, 316, 341, 354, 367, 380, 405, 430, 443, 511, 579, 635, 691, 747, 822, 902, 958, 1014, 1082, 1095, 1108, 1121, 1201, 1269, 1325, 1381, 1437, 1493, 1549, 1641, 1654, 1695, 1773, 1853, 1921, 2001, 2057, 2125, 2205, 2273, 2341, 2409, 2465, 2521, 2589, 2645, 2713, 2793, 2873, 2953, 3021, 3065, 3121, 3134, 3147, 3172, 3185]) (o := 691) (by decide +kernel) (by rw [c14]; decide) (by decide) ?_
                              exact h
                            · rw [if_neg c14] at h
                              by_cases c15 : (X.2.1 i1) &&& 63 = 13
                              · rw [if_pos c15] at h
                                refine w_tsw (n := 792) (d := 3229) (lo := 0) (hi := 56) (offs := #[243, 316, 341, 354, 367, 380, 405, 430, 443, 511, 579, 635, 691, 747, 822, 902, 958, 1014, 1082, 1095, 1108, 1121, 1201, 1269, 1325, 1381, 1437, 1493, 1549, 1641, 1654, 1695, 1773, 1853, 1921, 2001, 2057, 2125, 2205, 2273, 2341, 2409, 2465, 2521, 2589, 2645, 2713, 2793, 2873, 2953, 3021, 3065, 3121, 3134, 3147, 3172, 3185]) (o := 747) (by decide +kernel) (by rw [c15]; decide) (by decide) ?_
                                exact h
                              · rw [if_neg c15] at h
                                by_cases c16 : (X.2.1 i1) &&& 63 = 14
                                · rw [if_pos c16] at h
                                  refine w_tsw (n := 867) (d := 3229) (lo := 0) (hi := 56) (offs := #[243, 316, 341, 354, 367, 380, 405, 430, 443, 511, 579, 635, 691, 747, 822, 902, 958, 1014, 1082, 1095, 1108, 1121, 1201, 1269, 1325, 1381, 1437, 1493, 1549, 1641, 1654, 1695, 1773, 1853, 1921, 2001, 2057, 2125, 2205, 2273, 2341, 2409, 2465, 2521, 2589, 2645, 2713, 2793, 2873, 2953, 3021, 3065, 3121, 3134, 3147, 3172, 3185]) (o := 822) (by decide +kernel) (by rw [c16]; decide) (by decide) ?_
                                  exact h
                                · rw [if_neg c16] at h
                                  by_cases c17 : (X.2.1 i1) &&& 63 = 15
                                  · rw [if_pos c17] at h
                                    refine w_tsw (n := 947) (d := 3229) (lo := 0) (hi := 56) (offs := #[243, 316, 341, 354, 367, 380, 405, 430, 443, 511, 579, 635, 691, 747, 822, 902, 958, 1014, 1082, 1095, 1108, 1121, 1201, 1269, 1325, 1381, 1437, 1493, 1549, 1641, 1654, 1695, 1773, 1853, 1921, 2001, 2057, 2125, 2205, 2273, 2341, 2409, 2465, 2521, 2589, 2645, 2713, 2793, 2873, 2953, 3021, 3065, 3121, 3134, 3147, 3172, 3185]) (o := 902) (by decide +kernel) (by rw [c17]; decide) (by decide) ?_
                                    exact h
                                  · rw [if_neg c17] at h
                                    by_cases c18 : (X.2.1 i1) &&& 63 = 16
                                    · rw [if_pos c18] at h
                                      refine w_tsw (n := 1003) (d := 3229) (lo := 0) (hi := 56) (offs := #[243, 316, 341, 354, 367, 380, 405, 430, 443, 511, 579, 635, 691, 747, 822, 902, 958, 1014, 1082, 1095, 1108, 1121, 1201, 1269, 1325, 1381, 1437, 1493, 1549, 1641, 1654, 1695, 1773, 1853, 1921, 2001, 2057, 2125, 2205, 2273, 2341, 2409, 2465, 2521, 2589, 2645, 2713, 2793, 2873, 2953, 3021, 3065, 3121, 3134, 3147, 3172, 3185]) (o := 958) (by decide +kernel) (by rw [c18]; decide) (by decide) ?_
                                      exact h
                                    · rw [if_neg c18] at h
                                      by_cases c19 : (X.2.1 i1) &&& 63 = 17
                                      · rw [if_pos c19] at h
                                        refine w_tsw (n := 1059) (d := 3229) (lo := 0) (hi := 56) (offs := #[243, 316, 341, 354, 367, 380, 405, 430, 443, 511, 579, 635, 691, 747, 822, 902, 958, 1014, 1082, 1095, 1108, 1121, 1201, 1269, 1325, 1381, 1437, 1493, 1549, 1641, 1654, 1695, 1773, 1853, 1921, 2001, 2057, 2125, 2205, 2273, 2341, 2409, 2465, 2521, 2589, 2645, 2713, 2793, 2873, 2953, 3021, 3065, 3121, 3134, 3147, 3172, 3185]) (o := 1014) (by decide +kernel) (by rw [c19]; decide) (by decide) ?_
                                        exact h
                                      · rw [if_neg c19] at h
                                        by_cases c20 : (X.2.1 i1) &&& 63 = 18
                                        · rw [if_pos c20] at h
                                          refine w_tsw (n := 1127) (d := 3229) (lo := 0) (hi := 56) (offs := #[243, 316, 341, 354, 367, 380, 405, 430, 443, 511, 579, 635, 691, 747, 822, 902, 958, 1014, 1082, 1095, 1108, 1121, 1201, 1269, 1325, 1381, 1437, 1493, 1549, 1641, 1654, 1695, 1773, 1853, 1921, 2001, 2057, 2125, 2205, 2273, 2341, 2409, 2465, 2521, 2589, 2645, 2713, 2793, 2873, 2953, 3021, 3065, 3121, 3134, 3147, 3172, 3185]) (o := 1082) (by decide +kernel) (by rw [c20]; decide) (by decide) ?_
                                          exact h
                                        · rw [if_neg c20] at h
                                          by_cases c21 : (X.2.1 i1) &&& 63 = 19
                                          · rw [if_pos c21] at h
                                            refine w_tsw (n := 1140) (d := 3229) (lo := 0) (hi := 56) (offs := #[243, 316, 341, 354, 367, 380, 405, 430, 443, 511, 579, 635, 691, 747, 822, 902, 958, 1014, 1082, 1095, 1108, 1121, 1201, 1269, 1325, 1381, 1437, 1493, 1549, 1641, 1654, 1695, 1773, 1853, 1921, 2001, 2057, 2125, 2205, 2273, 2341, 2409, 2465, 2521, 2589, 2645, 2713, 2793, 2873, 2953, 3021, 3065, 3121, 3134, 3147, 3172, 3185]) (o := 1095) (by decide +kernel) (by rw [c21]; decide) (by decide) ?_
                                            exact h
                                          · rw [if_neg c21] at h
                                            by_cases c22 : (X.2.1 i1) &&& 63 = 20
                                            · rw [if_pos c22] at h
                                              refine w_tsw (n := 1153) (d := 3229) (lo := 0) (hi := 56) (offs := #[243, 316, 341, 354, 367, 380, 405, 430, 443, 511, 579, 635, 691, 747, 822, 902, 958, 1014, 1082, 1095, 1108, 1121, 1201, 1269, 1325, 1381, 1437, 1493, 1549, 1641, 1654, 1695, 1773, 1853, 1921, 2001, 2057, 2125, 2205, 2273, 2341, 2409, 2465, 2521, 2589, 2645, 2713, 2793, 2873, 2953, 3021, 3065, 3121, 3134, 3147, 3172, 3185]) (o := 1108) (by decide +kernel) (by rw [c22]; decide) (by decide) ?_
                                              exact h
                                            · rw [if_neg c22] at h
                                              by_cases c23 : (X.2.1 i1) &&& 63 = 21
                                              · rw [if_pos c23] at h
                                                refine w_tsw (n := 1166) (d := 3229) (lo := 0) (hi := 56) (offs := #[243, 316, 341, 354, 367, 380, 405, 430, 443, 511, 579, 635, 691, 747, 822, 902, 958, 1014, 1082, 1095, 1108, 1121, 1201, 1269, 1325, 1381, 1437, 1493, 1549, 1641, 1654, 1695, 1773, 1853, 1921, 2001, 2057, 2125, 2205, 2273, 2341, 2409, 2465, 2521, 2589, 2645, 2713, 2793, 2873, 2953, 3021, 3065, 3121, 3134, 3147, 3172, 3185]) (o := 1121) (by decide +kernel) (by rw [c23]; decide) (by decide) ?_
                                                exact h
                                              · rw [if_neg c23] at h
                                                by_cases c24 : (X.2.1 i1) &&& 63 = 22
                                                · rw [if_pos c24] at h
                                                  refine w_tsw (n := 1246) (d := 3229) (lo := 0) (hi := 56) (offs := #[243, 316, 341, 354, 367, 380, 405, 430, 443, 511, 579, 635, 691, 747, 822, 902, 958, 1014, 1082, 1095, 1108, 1121, 1201, 1269, 1325, 1381, 1437, 1493, 1549, 1641, 1654, 1695, 1773, 1853, 1921, 2001, 2057, 2125, 2205, 2273, 2341, 2409, 2465, 2521, 2589, 2645, 2713, 2793, 2873, 2953, 3021, 3065, 3121, 3134, 3147, 3172, 3185]) (o := 1201) (by decide +kernel) (by rw [c24]; decide) (by decide) ?_
                                                  exact h
                                                · rw [if_neg c24] at h
                                                  by_cases c25 : (X.2.1 i1) &&& 63 = 23
                                                  · rw [if_pos c25] at h
                                                    refine w_tsw (n := 1314) (d := 3229) (lo := 0) (hi := 56) (offs := #[243, 316, 341, 354, 367, 380, 405, 430, 443, 511, 579, 635, 691, 747, 822, 902, 958, 1014, 1082, 1095, 1108, 1121, 1201, 1269, 1325, 1381, 1437, 1493, 1549, 1641, 1654, 1695, 1773, 1853, 1921, 2001, 2057, 2125, 2205, 2273, 2341, 2409, 2465, 2521, 2589, 2645, 2713, 2793, 2873, 2953, 3021, 3065, 3121, 3134, 3147, 3172, 3185]) (o := 1269) (by decide +kernel) (by rw [c25]; decide) (by decide) ?_
                                                    exact h
                                                  · rw [if_neg c25] at h
                                                    by_cases c26 : (X.2.1 i1) &&& 63 = 24
                                                    · rw [if_pos c26] at h
                                                      refine w_tsw (n := 1370) (d := 3229) (lo := 0) (hi := 56) (offs := #[243, 316, 341, 354, 367, 380, 405, 430, 443, 511, 579, 635, 691, 747, 822, 902, 958, 1014, 1082, 1095, 1108, 1121, 1201, 1269, 1325, 1381, 1437, 1493, 1549, 1641, 1654, 1695, 1773, 1853, 1921, 2001, 2057, 2125, 2205, 2273, 2341, 2409, 2465, 2521, 2589, 2645, 2713, 2793, 2873, 2953, 3021, 3065, 3121, 3134, 3147, 3172, 3185]) (o := 1325) (by decide +kernel) (by rw [c26]; decide) (by decide) ?_
                                                      exact h
                                                    · rw [if_neg c26] at h
                                                      by_cases c27 : (X.2.1 i1) &&& 63 = 25
                                                      · rw [if_pos c27] at h
                                                        refine w_tsw (n := 1426) (d := 3229) (lo := 0) (hi := 56) (offs := #[243, 316, 341, 354, 367, 380, 405, 430, 443, 511, 579, 635, 691, 747, 822, 902, 958, 1014, 1082, 1095, 1108, 1121, 1201, 1269, 1325, 1381, 1437, 1493, 1549, 1641, 1654, 1695, 1773, 1853, 1921, 2001, 2057, 2125, 2205, 2273, 2341, 2409, 2465, 2521, 2589, 2645, 2713, 2793, 2873, 2953, 3021, 3065, 3121, 3134, 3147, 3172, 3185]) (o := 1381) (by decide +kernel) (by rw [c27]; decide) (by decide) ?_
                                                        exact h
                                                      · rw [if_neg c27] at h
                                                        by_cases c28 : (X.2.1 i1) &&& 63 = 26
                                                        · rw [if_pos c28] at h
                                                          refine w_tsw (n := 1482) (d := 3229) (lo := 0) (hi := 56) (offs := #[243, 316, 341, 354, 367, 380, 405, 430, 443, 511, 579, 635, 691, 747, 822, 902, 958, 1014, 1082, 1095, 1108, 1121, 1201, 1269, 1325, 1381, 1437, 1493, 1549, 1641, 1654, 1695, 1773, 1853, 1921, 2001, 2057, 2125, 2205, 2273, 2341, 2409, 2465, 2521, 2589, 2645, 2713, 2793, 2873, 2953, 3021, 3065, 3121, 3134, 3147, 3172, 3185]) (o := 1437) (by decide +kernel) (by rw [c28]; decide) (by decide) ?_
                                                          exact h
                                                        · rw [if_neg c28] at h
                                                          by_cases c29 : (X.2.1 i1) &&& 63 = 27
                                                          · rw [if_pos c29] at h
                                                            refine w_tsw (n := 1538) (d := 3229) (lo := 0) (hi := 56) (offs := #[243, 316, 341, 354, 367, 380, 405, 430, 443, 511, 579, 635, 691, 747, 822, 902, 958, 1014, 1082, 1095, 1108, 1121, 1201, 1269, 1325, 1381, 1437, 1493, 1549, 1641, 1654, 1695, 1773, 1853, 1921, 2001, 2057, 2125, 2205, 2273, 2341, 2409, 2465, 2521, 2589, 2645, 2713, 2793, 2873, 2953, 3021, 3065, 3121, 3134, 3147, 3172, 3185]) (o := 1493) (by decide +kernel) (by rw [c29]; decide) (by decide) ?_
                                                            exact h
                                                          · rw [if_neg c29] at h
                                                            by_cases c30 : (X.2.1 i1) &&& 63 = 28
                                                            · rw [if_pos c30] at h
                                                              refine w_tsw (n := 1594) (d := 3229) (lo := 0) (hi := 56) (offs := #[243, 316, 341, 354, 367, 380, 405, 430, 443, 511, 579, 635, 691, 747, 822, 902, 958, 1014, 1082, 1095, 1108, 1121, 1201, 1269, 1325, 1381, 1437, 1493, 1549, 1641, 1654, 1695, 1773, 1853, 1921, 2001, 2057, 2125, 2205, 2273, 2341, 2409, 2465, 2521, 2589, 2645, 2713, 2793, 2873, 2953, 3021, 3065, 3121, 3134, 3147, 3172, 3185]) (o := 1549) (by decide +kernel) (by rw [c30]; decide) (by decide) ?_
                                                              exact h
                                                            · rw [if_neg c30] at h
                                                              by_cases c31 : (X.2.1 i1) &&& 63 = 29
                                                              · rw [if_pos c31] at h
                                                                refine w_tsw (n := 1686) (d := 3229) (lo := 0) (hi := 56) (offs := #[243, 316, 341, 354, 367, 380, 405, 430, 443, 511, 579, 635, 691, 747, 822, 902, 958, 1014, 1082, 1095, 1108, 1121, 1201, 1269, 1325, 1381, 1437, 1493, 1549, 1641, 1654, 1695, 1773, 1853, 1921, 2001, 2057, 2125, 2205, 2273, 2341, 2409, 2465, 2521, 2589, 2645, 2713, 2793, 2873, 2953, 3021, 3065, 3121, 3134, 3147, 3172, 3185]) (o := 1641) (by decide +kernel) (by rw [c31]; decide) (by decide) ?_
                                                                exact h
                                                              · rw [if_neg c31] at h
                                                                by_cases c32 : (X.2.1 i1) &&& 63 = 30
                                                                · rw [if_pos c32] at h
                                                                  refine w_tsw (n := 1699) (d := 3229) (lo := 0) (hi := 56) (offs := #[243, 316, 341, 354, 367, 380, 405, 430, 443, 511, 579, 635, 691, 747, 822, 902, 958, 1014, 1082, 1095, 1108, 1121, 1201, 1269, 1325, 1381, 1437, 1493, 1549, 1641, 1654, 1695, 1773, 1853, 1921, 2001, 2057, 2125, 2205, 2273, 2341, 2409, 2465, 2521, 2589, 2645, 2713, 2793, 2873, 2953, 3021, 3065, 3121, 3134, 3147, 3172, 3185]) (o := 1654) (by decide +kernel) (by rw [c32]; decide) (by decide) ?_
                                                                  exact h
                                                                · rw [if_neg c32] at h
                                                                  by_cases c33 : (X.2.1 i1) &&& 63 = 31
                                                                  · rw [if_pos c33] at h
                                                                    refine w_tsw (n := 1740) (d := 3229) (lo := 0) (hi := 56) (offs := #[243, 316, 341, 354, 367, 380, 405, 430, 443, 511, 579, 635, 691, 747, 822, 902, 958, 1014, 1082, 1095, 1108, 1121, 1201, 1269, 1325, 1381, 1437, 1493, 1549, 1641, 1654, 1695, 1773, 1853, 1921, 2001, 2057, 2125, 2205, 2273, 2341, 2409, 2465, 2521, 2589, 2645, 2713, 2793, 2873, 2953, 3021, 3065, 3121, 3134, 3147, 3172, 3185]) (o := 1695) (by decide +kernel) (by rw [c33]; decide) (by decide) ?_
                                                                    exact h
                                                                  · rw [if_neg c33] at h
                                                                    by_cases c34 : (X.2.1 i1) &&& 63 = 32
                                                                    · rw [if_pos c34] at h
                                                                      refine w_tsw (n := 1818) (d := 3229) (lo := 0) (hi := 56) (offs := #[243, 316, 341, 354, 367, 380, 405, 430, 443, 511, 579, 635, 691, 747, 822, 902, 958, 1014, 1082, 1095, 1108, 1121, 1201, 1269, 1325, 1381, 1437, 1493, 1549, 1641, 1654, 1695, 1773, 1853, 1921, 2001, 2057, 2125, 2205, 2273, 2341, 2409, 2465, 2521, 2589, 2645, 2713, 2793, 2873, 2953, 3021, 3065, 3121, 3134, 3147, 3172, 3185]) (o := 1773) (by decide +kernel) (by rw [c34]; decide) (by decide) ?_
                                                                      exact h
                                                                    · rw [if_neg c34] at h
                                                                      by_cases c35 : (X.2.1 i1) &&& 63 = 33
                                                                      · rw [if_pos c35] at h
                                                                        refine w_tsw (n := 1898) (d := 3229) (lo := 0) (hi := 56) (offs := #[243, 316, 341, 354, 367, 380, 405, 430, 443, 511, 579, 635, 691, 747, 822, 902, 958, 1014, 1082, 1095, 1108, 1121, 1201, 1269, 1325, 1381, 1437, 1493, 1549, 1641, 1654, 1695, 1773, 1853, 1921, 2001, 2057, 2125, 2205, 2273, 2341, 2409, 2465, 2521, 2589, 2645, 2713, 2793, 2873, 2953, 3021, 3065, 3121, 3134, 3147, 3172, 3185]) (o := 1853) (by decide +kernel) (by rw [c35]; decide) (by decide) ?_
                                                                        exact h
                                                                      · rw [if_neg c35] at h
                                                                        by_cases c36 : (X.2.1 i1) &&& 63 = 34
                                                                        · rw [if_pos c36] at h
                                                                          refine w_tsw (n := 1966) (d := 3229) (lo := 0) (hi := 56) (offs := #[243, 316, 341, 354, 367, 380, 405, 430, 443, 511, 579, 635, 691, 747, 822, 902, 958, 1014, 1082, 1095, 1108, 1121, 1201, 1269, 1325, 1381, 1437, 1493, 1549, 1641, 1654, 1695, 1773, 1853, 1921, 2001, 2057, 2125, 2205, 2273, 2341, 2409, 2465, 2521, 2589, 2645, 2713, 2793, 2873, 2953, 3021, 3065, 3121, 3134, 3147, 3172, 3185]) (o := 1921) (by decide +kernel) (by rw [c36]; decide) (by decide) ?_
                                                                          exact h
                                                                        · rw [if_neg c36] at h
                                                                          by_cases c37 : (X.2.1 i1) &&& 63 = 35
                                                                          · rw [if_pos c37] at h
                                                                            refine w_tsw (n := 2046) (d := 3229) (lo := 0) (hi := 56) (offs := #[243, 316, 341, 354, 367, 380, 405, 430, 443, 511, 579, 635, 691, 747, 822, 902, 958, 1014, 1082, 1095, 1108, 1121, 1201, 1269, 1325, 1381, 1437, 1493, 1549, 1641, 1654, 1695, 1773, 1853, 1921, 2001, 2057, 2125, 2205, 2273, 2341, 2409, 2465, 2521, 2589, 2645, 2713, 2793, 2873, 2953, 3021, 3065, 3121, 3134, 3147, 3172, 3185]) (o := 2001) (by decide +kernel) (by rw [c37]; decide) (by decide) ?_
                                                                            exact h
                                                                          · rw [if_neg c37] at h
                                                                            by_cases c38 : (X.2.1 i1) &&& 63 = 36
                                                                            · rw [if_pos c38] at h
                                                                              refine w_tsw (n := 2102) (d := 3229) (lo := 0) (hi := 56) (offs := #[243, 316, 341, 354, 367, 380, 405, 430, 443, 511, 579, 635, 691, 747, 822, 902, 958, 1014, 1082, 1095, 1108, 1121, 1201, 1269, 1325, 1381, 1437, 1493, 1549, 1641, 1654, 1695, 1773, 1853, 1921, 2001, 2057, 2125, 2205, 2273, 2341, 2409, 2465, 2521, 2589, 2645, 2713, 2793, 2873, 2953, 3021, 3065, 3121, 3134, 3147, 3172, 3185]) (o := 2057) (by decide +kernel) (by rw [c38]; decide) (by decide) ?_
                                                                              exact h
                                                                            · rw [if_neg c38] at h
                                                                              by_cases c39 : (X.2.1 i1) &&& 63 = 37
                                                                              · rw [if_pos c39] at h
                                                                                refine w_tsw (n := 2170) (d := 3229) (lo := 0) (hi := 56) (offs := #[243, 316, 341, 354, 367, 380, 405, 430, 443, 511, 579, 635, 691, 747, 822, 902, 958, 1014, 1082, 1095, 1108, 1121, 1201, 1269, 1325, 1381, 1437, 1493, 1549, 1641, 1654, 1695, 1773, 1853, 1921, 2001, 2057, 2125, 2205, 2273, 2341, 2409, 2465, 2521, 2589, 2645, 2713, 2793, 2873, 2953, 3021, 3065, 3121, 3134, 3147, 3172, 3185]) (o := 2125) (by decide +kernel) (by rw [c39]; decide) (by decide) ?_
                                                                                exact h
                                                                              · rw [if_neg c39] at h
                                                                                by_cases c40 : (X.2.1 i1) &&& 63 = 38
                                                                                · rw [if_pos c40] at h
                                                                                  refine w_tsw (n := 2250) (d := 3229) (lo := 0) (hi := 56) (offs := #[243, 316, 341, 354, 367, 380, 405, 430, 443, 511, 579, 635, 691, 747, 822, 902, 958, 1014, 1082, 1095, 1108, 1121, 1201, 1269, 1325, 1381, 1437, 1493, 1549, 1641, 1654, 1695, 1773, 1853, 1921, 2001, 2057, 2125, 2205, 2273, 2341, 2409, 2465, 2521, 2589, 2645, 2713, 2793, 2873, 2953, 3021, 3065, 3121, 3134, 3147, 3172, 3185]) (o := 2205) (by decide +kernel) (by rw [c40]; decide) (by decide) ?_
                                                                                  exact h
                                                                                · rw [if_neg c40] at h
                                                                                  by_cases c41 : (X.2.1 i1) &&& 63 = 39
                                                                                  · rw [if_pos c41] at h
                                                                                    refine w_tsw (n := 2318) (d := 3229) (lo := 0) (hi := 56) (offs := #[243, 316, 341, 354, 367, 380, 405, 430, 443, 511, 579, 635, 691, 747, 822, 902, 958, 1014, 1082, 1095, 1108, 1121, 1201, 1269, 1325, 1381, 1437, 1493, 1549, 1641, 1654, 1695, 1773, 1853, 1921, 2001, 2057, 2125, 2205, 2273, 2341, 2409, 2465, 2521, 2589, 2645, 2713, 2793, 2873, 2953, 3021, 3065, 3121, 3134, 3147, 3172, 3185]) (o := 2273) (by decide +kernel) (by rw [c41]; decide) (by decide) ?_
                                                                                    exact h
                                                                                  · rw [if_neg c41] at h
                                                                                    by_cases c42 : (X.2.1 i1) &&& 63 = 40
                                                                                    · rw [if_pos c42] at h
                                                                                      refine w_tsw (n := 2386) (d := 3229) (lo := 0) (hi := 56) (offs := #[243, 316, 341, 354, 367, 380, 405, 430, 443, 511, 579, 635, 691, 747, 822, 902, 958, 1014, 1082, 1095, 1108, 1121, 1201, 1269, 1325, 1381, 1437, 1493, 1549, 1641, 1654, 1695, 1773, 1853, 1921, 2001, 2057, 2125, 2205, 2273, 2341, 2409, 2465, 2521, 2589, 2645, 2713, 2793, 2873, 2953, 3021, 3065, 3121, 3134, 3147, 3172, 3185]) (o := 2341) (by decide +kernel) (by rw [c42]; decide) (by decide) ?_
                                                                                      exact h
                                                                                    · rw [if_neg c42] at h
                                                                                      by_cases c43 : (X.2.1 i1) &&& 63 = 41
                                                                                      · rw [if_pos c43] at h
                                                                                        refine w_tsw (n := 2454) (d := 3229) (lo := 0) (hi := 56) (offs := #[243, 316, 341, 354, 367, 380, 405, 430, 443, 511, 579, 635, 691, 747, 822, 902, 958, 1014, 1082, 1095, 1108, 1121, 1201, 1269, 1325, 1381, 1437, 1493, 1549, 1641, 1654, 1695, 1773, 1853, 1921, 2001, 2057, 2125, 2205, 2273, 2341, 2409, 2465, 2521, 2589, 2645, 2713, 2793, 2873, 2953, 3021, 3065, 3121, 3134, 3147, 3172, 3185]) (o := 2409) (by decide +kernel) (by rw [c43]; decide) (by decide) ?_
                                                                                        exact h
                                                                                      · rw [if_neg c43] at h
                                                                                        by_cases c44 : (X.2.1 i1) &&& 63 = 42
                                                                                        · rw [if_pos c44] at h
                                                                                          refine w_tsw (n := 2510) (d := 3229) (lo := 0) (hi := 56) (offs := #[243, 316, 341, 354, 367, 380, 405, 430, 443, 511, 579, 635, 691, 747, 822, 902, 958, 1014, 1082, 1095, 1108, 1121, 1201, 1269, 1325, 1381, 1437, 1493, 1549, 1641, 1654, 1695, 1773, 1853, 1921, 2001, 2057, 2125, 2205, 2273, 2341, 2409, 2465, 2521, 2589, 2645, 2713, 2793, 2873, 2953, 3021, 3065, 3121, 3134, 3147, 3172, 3185]) (o := 2465) (by decide +kernel) (by rw [c44]; decide) (by decide) ?_
                                                                                          exact h
                                                                                        · rw [if_neg c44] at h
                                                                                          by_cases c45 : (X.2.1 i1) &&& 63 = 43
                                                                                          · rw [if_pos c45] at h
                                                                                            refine w_tsw (n := 2566) (d := 3229) (lo := 0) (hi := 56) (offs := #[243, 316, 341, 354, 367, 380, 405, 430, 443, 511, 579, 635, 691, 747, 822, 902, 958, 1014, 1082, 1095, 1108, 1121, 1201, 1269, 1325, 1381, 1437, 1493, 1549, 1641, 1654, 1695, 1773, 1853, 1921, 2001, 2057, 2125, 2205, 2273, 2341, 2409, 2465, 2521, 2589, 2645, 2713, 2793, 2873, 2953, 3021, 3065, 3121, 3134, 3147, 3172, 3185]) (o := 2521) (by decide +kernel) (by rw [c45]; decide) (by decide) ?_
                                                                                            exact h
                                                                                          · rw [if_neg c45] at h
                                                                                            by_cases c46 : (X.2.1 i1) &&& 63 = 44
                                                                                            · rw [if_pos c46] at h
                                                                                              refine w_tsw (n := 2634) (d := 3229) (lo := 0) (hi := 56) (offs := #[243, 316, 341, 354, 367, 380, 405, 430, 443, 511, 579, 635, 691, 747, 822, 902, 958, 1014, 1082, 1095, 1108, 1121, 1201, 1269, 1325, 1381, 1437, 1493, 1549, 1641, 1654, 1695, 1773, 1853, 1921, 2001, 2057, 2125, 2205, 2273, 2341, 2409, 2465, 2521, 2589, 2645, 2713, 2793, 2873, 2953, 3021, 3065, 3121, 3134, 3147, 3172, 3185]) (o := 2589) (by decide +kernel) (by rw [c46]; decide) (by decide) ?_
                                                                                              exact h
                                                                                            · rw [if_neg c46] at h
                                                                                              by_cases c47 : (X.2.1 i1) &&& 63 = 45
                                                                                              · rw [if_pos c47] at h
                                                                                                refine w_tsw (n := 2690) (d := 3229) (lo := 0) (hi := 56) (offs := #[243, 316, 341, 354, 367, 380, 405, 430, 443, 511, 579, 635, 691, 747, 822, 902, 958, 1014, 1082, 1095, 1108, 1121, 1201, 1269, 1325, 1381, 1437, 1493, 1549, 1641, 1654, 1695, 1773, 1853, 1921, 2001, 2057, 2125, 2205, 2273, 2341, 2409, 2465, 2521, 2589, 2645, 2713, 2793, 2873, 2953, 3021, 3065, 3121, 3134, 3147, 3172, 3185]) (o := 2645) (by decide +kernel) (by rw [c47]; decide) (by decide) ?_
                                                                                                exact h
                                                                                              · rw [if_neg c47] at h
                                                                                                by_cases c48 : (X.2.1 i1) &&& 63 = 46
                                                                                                · rw [if_pos c48] at h
                                                                                                  refine w_tsw (n := 2758) (d := 3229) (lo := 0) (hi := 56) (offs := #[243, 316, 341, 354, 367, 380, 405, 430, 443, 511, 579, 635, 691, 747, 822, 902, 958, 1014, 1082, 1095, 1108, 1121, 1201, 1269, 1325, 1381, 1437, 1493, 1549, 1641, 1654, 1695, 1773, 1853, 1921, 2001, 2057, 2125, 2205, 2273, 2341, 2409, 2465, 2521, 2589, 2645, 2713, 2793, 2873, 2953, 3021, 3065, 3121, 3134, 3147, 3172, 3185]) (o := 2713) (by decide +kernel) (by rw [c48]; decide) (by decide) ?_
                                                                                                  exact h
                                                                                                · rw [if_neg c48] at h
                                                                                                  by_cases c49 : (X.2.1 i1) &&& 63 = 47
                                                                                                  · rw [if_pos c49] at h
                                                                                                    refine w_tsw (n := 2838) (d := 3229) (lo := 0) (hi := 56) (offs := #[243, 316, 341, 354, 367, 380, 405, 430, 443, 511, 579, 635, 691, 747, 822, 902, 958, 1014, 1082, 1095, 1108, 1121, 1201, 1269, 1325, 1381, 1437, 1493, 1549, 1641, 1654, 1695, 1773, 1853, 1921, 2001, 2057, 2125, 2205, 2273, 2341, 2409, 2465, 2521, 2589, 2645, 2713, 2793, 2873, 2953, 3021, 3065, 3121, 3134, 3147, 3172, 3185]) (o := 2793) (by decide +kernel) (by rw [c49]; decide) (by decide) ?_
                                                                                                    exact h
                                                                                                  · rw [if_neg c49] at h
                                                                                                    by_cases c50 : (X.2.1 i1) &&& 63 = 48
                                                                                                    · rw [if_pos c50] at h
                                                                                                      refine w_tsw (n := 2918) (d := 3229) (lo := 0) (hi := 56) (offs := #[243, 316, 341, 354, 367, 380, 405, 430, 443, 511, 579, 635, 691, 747, 822, 902, 958, 1014, 1082, 1095, 1108, 1121, 1201, 1269, 1325, 1381, 1437, 1493, 1549, 1641, 1654, 1695, 1773, 1853, 1921, 2001, 2057, 2125, 2205, 2273, 2341, 2409, 2465, 2521, 2589, 2645, 2713, 2793, 2873, 2953, 3021, 3065, 3121, 3134, 3147, 3172, 3185]) (o := 2873) (by decide +kernel) (by rw [c50]; decide) (by decide) ?_
                                                                                                      exact h
                                                                                                    · rw [if_neg c50] at h
                                                                                                      by_cases c51 : (X.2.1 i1) &&& 63 = 49
                                                                                                      · rw [if_pos c51] at h
                                                                                                        refine w_tsw (n := 2998) (d := 3229) (lo := 0) (hi := 56) (offs := #[243, 316, 341, 354, 367, 380, 405, 430, 443, 511, 579, 635, 691, 747, 822, 902, 958, 1014, 1082, 1095, 1108, 1121, 1201, 1269, 1325, 1381, 1437, 1493, 1549, 1641, 1654, 1695, 1773, 1853, 1921, 2001, 2057, 2125, 2205, 2273, 2341, 2409, 2465, 2521, 2589, 2645, 2713, 2793, 2873, 2953, 3021, 3065, 3121, 3134, 3147, 3172, 3185]) (o := 2953) (by decide +kernel) (by rw [c51]; decide) (by decide) ?_
                                                                                                        exact h
                                                                                                      · rw [if_neg c51] at h
                                                                                                        by_cases c52 : (X.2.1 i1) &&& 63 = 50
                                                                                                        · rw [if_pos c52] at h
                                                                                                          refine w_tsw (n := 3066) (d := 3229) (lo := 0) (hi := 56) (offs := #[243, 316, 341, 354, 367, 380, 405, 430, 443, 511, 579, 635, 691, 747, 822, 902, 958, 1014, 1082, 1095, 1108, 1121, 1201, 1269, 1325, 1381, 1437, 1493, 1549, 1641, 1654, 1695, 1773, 1853, 1921, 2001, 2057, 2125, 2205, 2273, 2341, 2409, 2465, 2521, 2589, 2645, 2713, 2793, 2873, 2953, 3021, 3065, 3121, 3134, 3147, 3172, 3185]) (o := 3021) (by decide +kernel) (by rw [c52]; decide) (by decide) ?_
                                                                                                          exact h
                                                                                                        · rw [if_neg c52] at h
                                                                                                          by_cases c53 : (X.2.1 i1) &&& 63 = 51
                                                                                                          · rw [if_pos c53] at h
                                                                                                            refine w_tsw (n := 3110) (d := 3229) (lo := 0) (hi := 56) (offs := #[243, 316, 341, 354, 367, 380, 405, 430, 443, 511, 579, 635, 691, 747, 822, 902, 958, 1014, 1082, 1095, 1108, 1121, 1201, 1269, 1325, 1381, 1437, 1493, 1549, 1641, 1654, 1695, 1773, 1853, 1921, 2001, 2057, 2125, 2205, 2273, 2341, 2409, 2465, 2521, 2589, 2645, 2713, 2793, 2873, 2953, 3021, 3065, 3121, 3134, 3147, 3172, 3185]) (o := 3065) (by decide +kernel) (by rw [c53]; decide) (by decide) ?_
                                                                                                            exact h
                                                                                                          · rw [if_neg c53] at h
                                                                                                            by_cases c54 : (X.2.1 i1) &&& 63 = 52
                                                                                                            · rw [if_pos c54] at h
                                                                                                              refine w_tsw (n := 3166) (d := 3229) (lo := 0) (hi := 56) (offs := #[243, 316, 341, 354, 367, 380, 405, 430, 443, 511, 579, 635, 691, 747, 822, 902, 958, 1014, 1082, 1095, 1108, 1121, 1201, 1269, 1325, 1381, 1437, 1493, 1549, 1641, 1654, 1695, 1773, 1853, 1921, 2001, 2057, 2125, 2205, 2273, 2341, 2409, 2465, 2521, 2589, 2645, 2713, 2793, 2873, 2953, 3021, 3065, 3121, 3134, 3147, 3172, 3185]) (o := 3121) (by decide +kernel) (by rw [c54]; decide) (by decide) ?_
                                                                                                              exact h
                                                                                                            · rw [if_neg c54] at h
                                                                                                              by_cases c55 : (X.2.1 i1) &&& 63 = 53
                                                                                                              · rw [if_pos c55] at h
                                                                                                                refine w_tsw (n := 3179) (d := 3229) (lo := 0) (hi := 56) (offs := #[243, 316, 341, 354, 367, 380, 405, 430, 443, 511, 579, 635, 691, 747, 822, 902, 958, 1014, 1082, 1095, 1108, 1121, 1201, 1269, 1325, 1381, 1437, 1493, 1549, 1641, 1654, 1695, 1773, 1853, 1921, 2001, 2057, 2125, 2205, 2273, 2341, 2409, 2465, 2521, 2589, 2645, 2713, 2793, 2873, 2953, 3021, 3065, 3121, 3134, 3147, 3172, 3185]) (o := 3134) (by decide +kernel) (by rw [c55]; decide) (by decide) ?_
                                                                                                                exact h
                                                                                                              · rw [if_neg c55] at h
                                                                                                                by_cases c56 : (X.2.1 i1) &&& 63 = 54
                                                                                                                · rw [if_pos c56] at h
                                                                                                                  refine w_tsw (n := 3192) (d := 3229) (lo := 0) (hi := 56) (offs := #[243, 316, 341, 354, 367, 380, 405, 430, 443, 511, 579, 635, 691, 747, 822, 902, 958, 1014, 1082, 1095, 1108, 1121, 1201, 1269, 1325, 1381, 1437, 1493, 1549, 1641, 1654, 1695, 1773, 1853, 1921, 2001, 2057, 2125, 2205, 2273, 2341, 2409, 2465, 2521, 2589, 2645, 2713, 2793, 2873, 2953, 3021, 3065, 3121, 3134, 3147, 3172, 3185]) (o := 3147) (by decide +kernel) (by rw [c56]; decide) (by decide) ?_
                                                                                                                  exact h
                                                                                                                · rw [if_neg c56] at h
                                                                                                                  by_cases c57 : (X.2.1 i1) &&& 63 = 55
                                                                                                                  · rw [if_pos c57] at h
                                                                                                                    refine w_tsw (n := 3217) (d := 3229) (lo := 0) (hi := 56) (offs := #[243, 316, 341, 354, 367, 380, 405, 430, 443, 511, 579, 635, 691, 747, 822, 902, 958, 1014, 1082, 1095, 1108, 1121, 1201, 1269, 1325, 1381, 1437, 1493, 1549, 1641, 1654, 1695, 1773, 1853, 1921, 2001, 2057, 2125, 2205, 2273, 2341, 2409, 2465, 2521, 2589, 2645, 2713, 2793, 2873, 2953, 3021, 3065, 3121, 3134, 3147, 3172, 3185]) (o := 3172) (by decide +kernel) (by rw [c57]; decide) (by decide) ?_
                                                                                                                    exact h
                                                                                                                  · rw [if_neg c57] at h
                                                                                                                    by_cases c58 : (X.2.1 i1) &&& 63 = 56
                                                                                                                    · rw [if_pos c58] at h
                                                                                                                      refine w_tsw (n := 3230) (d := 3229) (lo := 0) (hi := 56) (offs := #[243, 316, 341, 354, 367, 380, 405, 430, 443, 511, 579, 635, 691, 747, 822, 902, 958, 1014, 1082, 1095, 1108, 1121, 1201, 1269, 1325, 1381, 1437, 1493, 1549, 1641, 1654, 1695, 1773, 1853, 1921, 2001, 2057, 2125, 2205, 2273, 2341, 2409, 2465, 2521, 2589, 2645, 2713, 2793, 2873, 2953, 3021, 3065, 3121, 3134, 3147, 3172, 3185]) (o := 3185) (by decide +kernel) (by rw [c58]; decide) (by decide) ?_
                                                                                                                      exact h
                                                                                                                    · rw [if_neg c58] at h
                                                                                                                      refine w_tsw (n := 3274) (d := 3229) (lo := 0) (hi := 56) (offs := #[243, 316, 341, 354, 367, 380, 405, 430, 443, 511, 579, 635, 691, 747, 822, 902, 958, 1014, 1082, 1095, 1108, 1121, 1201, 1269, 1325, 1381, 1437, 1493, 1549, 1641, 1654, 1695, 1773, 1853, 1921, 2001, 2057, 2125, 2205, 2273, 2341, 2409, 2465, 2521, 2589, 2645, 2713, 2793, 2873, 2953, 3021, 3065, 3121, 3134, 3147, 3172, 3185]) (o := 3229) (by decide +kernel) (w_swd (by intro j h1 h2; rcases (show j = 0 ∨ j = 1 ∨ j = 2 ∨ j = 3 ∨ j = 4 ∨ j = 5 ∨ j = 6 ∨ j = 7 ∨ j = 8 ∨ j = 9 ∨ j = 10 ∨ j = 11 ∨ j = 12 ∨ j = 13 ∨ j = 14 ∨ j = 15 ∨ j = 16 ∨ j = 17 ∨ j = 18 ∨ j = 19 ∨ j = 20 ∨ j = 21 ∨ j = 22 ∨ j = 23 ∨ j = 24 ∨ j = 25 ∨ j = 26 ∨ j = 27 ∨ j = 28 ∨ j = 29 ∨ j = 30 ∨ j = 31 ∨ j = 32 ∨ j = 33 ∨ j = 34 ∨ j = 35 ∨ j = 36 ∨ j = 37 ∨ j = 38 ∨ j = 39 ∨ j = 40 ∨ j = 41 ∨ j = 42 ∨ j = 43 ∨ j = 44 ∨ j = 45 ∨ j = 46 ∨ j = 47 ∨ j = 48 ∨ j = 49 ∨ j = 50 ∨ j = 51 ∨ j = 52 ∨ j = 53 ∨ j = 54 ∨ j = 55 ∨ j = 56 by omega) with rfl | rfl | rfl | rfl | rfl | rfl | rfl | rfl | rfl | rfl | rfl | rfl | rfl | rfl | rfl | rfl | rfl | rfl | rfl | rfl | rfl | rfl | rfl | rfl | rfl | rfl | rfl | rfl | rfl | rfl | rfl | rfl | rfl | rfl | rfl | rfl | rfl | rfl | rfl | rfl | rfl | rfl | rfl | rfl | rfl | rfl | rfl | rfl | rfl | rfl | rfl | rfl | rfl | rfl | rfl | rfl | rfl; all_goals first | exact fun e => c2 (e.trans (by decide)) | exact fun e => c3 (e.trans (by decide)) | exact fun e => c4 (e.trans (by decide)) | exact fun e => c5 (e.trans (by decide)) | exact fun e => c6 (e.trans (by decide)) | exact fun e => c7 (e.trans (by decide)) | exact fun e => c8 (e.trans (by decide)) | exact fun e => c9 (e.trans (by decide)) | exact fun e => c10 (e.trans (by decide)) | exact fun e => c11 (e.trans (by decide)) | exact fun e => c12 (e.trans (by decide)) | exact fun e => c13 (e.trans (by decide)) | exact fun e => c14 (e.trans (by decide)) | exact fun e => c15 (e.trans (by decide)) | exact fun e => c16 (e.trans (by decide)) | exact fun e => c17 (e.trans (by decide)) | exact fun e => c18 (e.trans (by decide)) | exact fun e => c19 (e.trans (by decide)) | exact fun e => c20 (e.trans (by decide)) | exact fun e => c21 (e.trans (by decide)) | exact fun e => c22 (e.trans (by decide)) | exact fun e => c23 (e.trans (by decide)) | exact fun e => c24 (e.trans (by decide)) | exact fun e => c25 (e.trans (by decide)) | exact fun e => c26 (e.trans (by decide)) | exact fun e => c27 (e.trans (by decide)) | exact fun e => c28 (e.trans (by decide)) | exact fun e => c29 (e.trans (by decide)) | exact fun e => c30 (e.trans (by decide)) | exact fun e => c31 (e.trans (by decide)) | exact fun e => c32 (e.trans (by decide)) | exact fun e => c33 (e.trans (by decide)) | exact fun e => c34 (e.trans (by decide)) | exact fun e => c35 (e.trans (by decide)) | exact fun e => c36 (e.trans (by decide)) | exact fun e => c37 (e.trans (by decide)) | exact fun e => c38 (e.trans (by decide)) | exact fun e => c39 (e.trans (by decide)) | exact fun e => c40 (e.trans (by decide)) | exact fun e => c41 (e.trans (by decide)) | exact fun e => c42 (e.trans (by decide)) | exact fun e => c43 (e.trans (by decide)) | exact fun e => c44 (e.trans (by decide)) | exact fun e => c45 (e.trans (by decide)) | exact fun e => c46 (e.trans (by decide)) | exact fun e => c47 (e.trans (by decide)) | exact fun e => c48 (e.trans (by decide)) | exact fun e => c49 (e.trans (by decide)) | exact fun e => c50 (e.trans (by decide)) | exact fun e => c51 (e.trans (by decide)) | exact fun e => c52 (e.trans (by decide)) | exact fun e => c53 (e.trans (by decide)) | exact fun e => c54 (e.trans (by decide)) | exact fun e => c55 (e.trans (by decide)) | exact fun e => c56 (e.trans (by decide)) | exact fun e => c57 (e.trans (by decide)) | exact fun e => c58 (e.trans (by decide)))) (by decide) ?_
                                                                                                                      exact h
theorem t_364_288 {X : ak_X} {M : ak_M} {r : ak_O × ak_M} (hL : ab_lay M) (y5 : Int32) (o6 o7 o8 o9 : Option Value) (l2 : List (Nat × Value)) (h : (∃ i60 : Nat, ab_ix (y5 + 1) i60 X.1 ∧ (∃ i61 : Nat, ab_ix (y5 + 2) i61 X.1 ∧ (∃ i62 : Nat, ab_ix (y5 + 3) i62 X.1 ∧ (∃ i63 : Nat, ab_ix (y5 + 4) i63 X.1 ∧ (∃ i64 : Nat, ab_ix (y5 + 5) i64 X.1 ∧ (∃ (v66 : Int32) (M65 : ak_M), ab_lay M65 ∧ rn X 87 [.ref 0, .int (X.2.1 i60), .int (X.2.1 i61), .int (X.2.1 i62), .int (X.2.1 i63), .int (X.2.1 i64)] M (.inl (some (.int v66)), M65) ∧ (∃ i67 : Nat, ab_ix (y5 + 1) i67 X.1 ∧ (∃ i68 : Nat, ab_ix (y5 + 2) i68 X.1 ∧ (∃ i69 : Nat, ab_ix (y5 + 3) i69 X.1 ∧ (∃ i70 : Nat, ab_ix (y5 + 4) i70 X.1 ∧ (∃ i71 : Nat, ab_ix (y5 + 5) i71 X.1 ∧ (∃ (v73 : Int32) (M72 : ak_M), ab_lay M72 ∧ rn X 271 [.ref 483, .int (X.2.1 i67), .int (X.2.1 i68), .int (X.2.1 i69), .int (X.2.1 i70), .int (X.2.1 i71)] M65 (.inl (some (.int v73)), M72) ∧ (if v66 = v73 then sg X 364 (3274, [some (.ref 1000000), some (.ref 0), some (.ref 483), some (.ref 497), some (.ref 498), some (.int y5), o6, o7, o8, o9], l2, []) M72 r else r = (.inl (some (.int 0)), M72))))))))))))))) : sg X 364 (288, [some (.ref 1000000), some (.ref 0), some (.ref 483), some (.ref 497), some (.ref 498), some (.int y5), o6, o7, o8, o9], l2, []) M r := by
  refine w_aload_n (n := 289) (i := 1) (by decide +kernel) rfl rfl ?_
  refine w_aload_n (n := 290) (i := 0) (by decide +kernel) rfl rfl ?_
  refine w_iload (n := 292) (i := 5) (by decide +kernel) rfl rfl ?_
  refine w_iconst (n := 293) (v := 1) (x := 1) (by decide +kernel) rfl (by decide) ?_
  refine w_iadd (n := 294) (by decide +kernel) rfl ?_
  obtain ⟨i60, gi60, h⟩ := h
  refine w_sld (n := 295) hL (by decide +kernel) gi60 rfl ?_
  refine w_aload_n (n := 296) (i := 0) (by decide +kernel) rfl rfl ?_
  refine w_iload (n := 298) (i := 5) (by decide +kernel) rfl rfl ?_
  refine w_iconst (n := 299) (v := 2) (x := 2) (by decide +kernel) rfl (by decide) ?_
  refine w_iadd (n := 300) (by decide +kernel) rfl ?_
  obtain ⟨i61, gi61, h⟩ := h
  refine w_sld (n := 301) hL (by decide +kernel) gi61 rfl ?_
  refine w_aload_n (n := 302) (i := 0) (by decide +kernel) rfl rfl ?_
  refine w_iload (n := 304) (i := 5) (by decide +kernel) rfl rfl ?_
  refine w_iconst (n := 305) (v := 3) (x := 3) (by decide +kernel) rfl (by decide) ?_
  refine w_iadd (n := 306) (by decide +kernel) rfl ?_
  obtain ⟨i62, gi62, h⟩ := h
  refine w_sld (n := 307) hL (by decide +kernel) gi62 rfl ?_
  refine w_aload_n (n := 308) (i := 0) (by decide +kernel) rfl rfl ?_
  refine w_iload (n := 310) (i := 5) (by decide +kernel) rfl rfl ?_
  refine w_iconst (n := 311) (v := 4) (x := 4) (by decide +kernel) rfl (by decide) ?_
  refine w_iadd (n := 312) (by decide +kernel) rfl ?_
  obtain ⟨i63, gi63, h⟩ := h
  refine w_sld (n := 313) hL (by decide +kernel) gi63 rfl ?_
  refine w_aload_n (n := 314) (i := 0) (by decide +kernel) rfl rfl ?_
  refine w_iload (n := 316) (i := 5) (by decide +kernel) rfl rfl ?_
  refine w_iconst (n := 317) (v := 5) (x := 5) (by decide +kernel) rfl (by decide) ?_
  refine w_iadd (n := 318) (by decide +kernel) rfl ?_
  obtain ⟨i64, gi64, h⟩ := h
  refine w_sld (n := 319) hL (by decide +kernel) gi64 rfl ?_
  obtain ⟨v66, M65, hLM65, hr76, h⟩ := h
  refine w_cV (n := 322) (idx := 146) (cal := 87) (na := 5) (nl := 6) (as := [.int (X.2.1 i60), .int (X.2.1 i61), .int (X.2.1 i62), .int (X.2.1 i63), .int (X.2.1 i64)]) (rest := []) hL (by decide +kernel) (by decide +kernel) (at_0) (by decide +kernel) rfl rfl rfl (Nat.le_of_ble_eq_true rfl) rfl hr76 ?_
  refine w_aload_n (n := 323) (i := 2) (by decide +kernel) rfl rfl ?_
  refine w_aload_n (n := 324) (i := 0) (by decide +kernel) rfl rfl ?_
  refine w_iload (n := 326) (i := 5) (by decide +kernel) rfl rfl ?_
  refine w_iconst (n := 327) (v := 1) (x := 1) (by decide +kernel) rfl (by decide) ?_
  refine w_iadd (n := 328) (by decide +kernel) rfl ?_
  obtain ⟨i67, gi67, h⟩ := h
  refine w_sld (n := 329) hLM65 (by decide +kernel) gi67 rfl ?_
  refine w_aload_n (n := 330) (i := 0) (by decide +kernel) rfl rfl ?_
  refine w_iload (n := 332) (i := 5) (by decide +kernel) rfl rfl ?_
  refine w_iconst (n := 333) (v := 2) (x := 2) (by decide +kernel) rfl (by decide) ?_
  refine w_iadd (n := 334) (by decide +kernel) rfl ?_
  obtain ⟨i68, gi68, h⟩ := h
  refine w_sld (n := 335) hLM65 (by decide +kernel) gi68 rfl ?_
  refine w_aload_n (n := 336) (i := 0) (by decide +kernel) rfl rfl ?_
  refine w_iload (n := 338) (i := 5) (by decide +kernel) rfl rfl ?_
  refine w_iconst (n := 339) (v := 3) (x := 3) (by decide +kernel) rfl (by decide) ?_
  refine w_iadd (n := 340) (by decide +kernel) rfl ?_
  obtain ⟨i69, gi69, h⟩ := h
  refine w_sld (n := 341) hLM65 (by decide +kernel) gi69 rfl ?_
  refine w_aload_n (n := 342) (i := 0) (by decide +kernel) rfl rfl ?_
  refine w_iload (n := 344) (i := 5) (by decide +kernel) rfl rfl ?_
  refine w_iconst (n := 345) (v := 4) (x := 4) (by decide +kernel) rfl (by decide) ?_
  refine w_iadd (n := 346) (by decide +kernel) rfl ?_
  obtain ⟨i70, gi70, h⟩ := h
  refine w_sld (n := 347) hLM65 (by decide +kernel) gi70 rfl ?_
  refine w_aload_n (n := 348) (i := 0) (by decide +kernel) rfl rfl ?_
  refine w_iload (n := 350) (i := 5) (by decide +kernel) rfl rfl ?_
  refine w_iconst (n := 351) (v := 5) (x := 5) (by decide +kernel) rfl (by decide) ?_
  refine w_iadd (n := 352) (by decide +kernel) rfl ?_
  obtain ⟨i71, gi71, h⟩ := h
  refine w_sld (n := 353) hLM65 (by decide +kernel) gi71 rfl ?_
  obtain ⟨v73, M72, hLM72, hr75, h⟩ := h
  refine w_cV (n := 356) (idx := 150) (cal := 271) (na := 5) (nl := 6) (as := [.int (X.2.1 i67), .int (X.2.1 i68), .int (X.2.1 i69), .int (X.2.1 i70), .int (X.2.1 i71)]) (rest := [.int v66]) hLM65 (by decide +kernel) (by decide +kernel) (at_483) (by decide +kernel) rfl rfl rfl (Nat.le_of_ble_eq_true rfl) rfl hr75 ?_
  by_cases c74 : v66 = v73
  · rw [if_pos c74] at h
    refine w_icmp_eq_j (n := 3274) (off := 2918) (by decide +kernel) (by decide) c74 ?_
    exact h
  · rw [if_neg c74] at h
    refine w_icmp_eq_n (n := 359) (off := 2918) (by decide +kernel) rfl c74 ?_
    refine w_iconst (n := 360) (v := 0) (x := 0) (by decide +kernel) rfl (by decide) ?_
    subst h
    exact w_ireturn (by decide +kernel) (by decide +kernel)
theorem t_364_361 {X : ak_X} {M : ak_M} {r : ak_O × ak_M} (hL : ab_lay M) (y5 : Int32) (o6 o7 o8 o9 : Option Value) (l2 : List (Nat × Value)) (h : (∃ i77 : Nat, ab_ix (y5 + 1) i77 X.1 ∧ (∃ (v79 : Int32) (M78 : ak_M), ab_lay M78 ∧ rn X 88 [.ref 0, .int (X.2.1 i77)] M (.inl (some (.int v79)), M78) ∧ (∃ i80 : Nat, ab_ix (y5 + 1) i80 X.1 ∧ (∃ (v82 : Int32) (M81 : ak_M), ab_lay M81 ∧ rn X 272 [.ref 483, .int (X.2.1 i80)] M78 (.inl (some (.int v82)), M81) ∧ (if v79 = v82 then sg X 364 (3274, [some (.ref 1000000), some (.ref 0), some (.ref 483), some (.ref 497), some (.ref 498), some (.int y5), o6, o7, o8, o9], l2, []) M81 r else r = (.inl (some (.int 0)), M81))))))) : sg X 364 (361, [some (.ref 1000000), some (.ref 0), some (.ref 483), some (.ref 497), some (.ref 498), some (.int y5), o6, o7, o8, o9], l2, []) M r := by
  refine w_aload_n (n := 362) (i := 1) (by decide +kernel) rfl rfl ?_
  refine w_aload_n (n := 363) (i := 0) (by decide +kernel) rfl rfl ?_
  refine w_iload (n := 365) (i := 5) (by decide +kernel) rfl rfl ?_
  refine w_iconst (n := 366) (v := 1) (x := 1) (by decide +kernel) rfl (by decide) ?_
  refine w_iadd (n := 367) (by decide +kernel) rfl ?_
  obtain ⟨i77, gi77, h⟩ := h
  refine w_sld (n := 368) hL (by decide +kernel) gi77 rfl ?_
  obtain ⟨v79, M78, hLM78, hr85, h⟩ := h
  refine w_cV (n := 371) (idx := 151) (cal := 88) (na := 1) (nl := 2) (as := [.int (X.2.1 i77)]) (rest := []) hL (by decide +kernel) (by decide +kernel) (at_0) (by decide +kernel) rfl rfl rfl (Nat.le_of_ble_eq_true rfl) rfl hr85 ?_
  refine w_aload_n (n := 372) (i := 2) (by decide +kernel) rfl rfl ?_
  refine w_aload_n (n := 373) (i := 0) (by decide +kernel) rfl rfl ?_
  refine w_iload (n := 375) (i := 5) (by decide +kernel) rfl rfl ?_
  refine w_iconst (n := 376) (v := 1) (x := 1) (by decide +kernel) rfl (by decide) ?_
  refine w_iadd (n := 377) (by decide +kernel) rfl ?_
  obtain ⟨i80, gi80, h⟩ := h
  refine w_sld (n := 378) hLM78 (by decide +kernel) gi80 rfl ?_
  obtain ⟨v82, M81, hLM81, hr84, h⟩ := h
  refine w_cV (n := 381) (idx := 155) (cal := 272) (na := 1) (nl := 2) (as := [.int (X.2.1 i80)]) (rest := [.int v79]) hLM78 (by decide +kernel) (by decide +kernel) (at_483) (by decide +kernel) rfl rfl rfl (Nat.le_of_ble_eq_true rfl) rfl hr84 ?_
  by_cases c83 : v79 = v82
  · rw [if_pos c83] at h
    refine w_icmp_eq_j (n := 3274) (off := 2893) (by decide +kernel) (by decide) c83 ?_
    exact h
  · rw [if_neg c83] at h
    refine w_icmp_eq_n (n := 384) (off := 2893) (by decide +kernel) rfl c83 ?_
    refine w_iconst (n := 385) (v := 0) (x := 0) (by decide +kernel) rfl (by decide) ?_
    subst h
    exact w_ireturn (by decide +kernel) (by decide +kernel)
theorem t_364_386 {X : ak_X} {M : ak_M} {r : ak_O × ak_M} (hL : ab_lay M) (y5 : Int32) (o6 o7 o8 o9 : Option Value) (l2 : List (Nat × Value)) (h : (∃ (v87 : Int32) (M86 : ak_M), ab_lay M86 ∧ rn X 89 [.ref 0] M (.inl (some (.int v87)), M86) ∧ (∃ (v89 : Int32) (M88 : ak_M), ab_lay M88 ∧ rn X 291 [.ref 483] M86 (.inl (some (.int v89)), M88) ∧ (if v87 = v89 then sg X 364 (3274, [some (.ref 1000000), some (.ref 0), some (.ref 483), some (.ref 497), some (.ref 498), some (.int y5), o6, o7, o8, o9], l2, []) M88 r else r = (.inl (some (.int 0)), M88))))) : sg X 364 (386, [some (.ref 1000000), some (.ref 0), some (.ref 483), some (.ref 497), some (.ref 498), some (.int y5), o6, o7, o8, o9], l2, []) M r := by
  refine w_aload_n (n := 387) (i := 1) (by decide +kernel) rfl rfl ?_
  obtain ⟨v87, M86, hLM86, hr92, h⟩ := h
  refine w_cV (n := 390) (idx := 156) (cal := 89) (na := 0) (nl := 1) (as := []) (rest := []) hL (by decide +kernel) (by decide +kernel) (at_0) (by decide +kernel) rfl rfl rfl (Nat.le_of_ble_eq_true rfl) rfl hr92 ?_
  refine w_aload_n (n := 391) (i := 2) (by decide +kernel) rfl rfl ?_
  obtain ⟨v89, M88, hLM88, hr91, h⟩ := h
  refine w_cV (n := 394) (idx := 159) (cal := 291) (na := 0) (nl := 1) (as := []) (rest := [.int v87]) hLM86 (by decide +kernel) (by decide +kernel) (at_483) (by decide +kernel) rfl rfl rfl (Nat.le_of_ble_eq_true rfl) rfl hr91 ?_
  by_cases c90 : v87 = v89
  · rw [if_pos c90] at h
    refine w_icmp_eq_j (n := 3274) (off := 2880) (by decide +kernel) (by decide) c90 ?_
    exact h
  · rw [if_neg c90] at h
    refine w_icmp_eq_n (n := 397) (off := 2880) (by decide +kernel) rfl c90 ?_
    refine w_iconst (n := 398) (v := 0) (x := 0) (by decide +kernel) rfl (by decide) ?_
    subst h
    exact w_ireturn (by decide +kernel) (by decide +kernel)
theorem t_364_399 {X : ak_X} {M : ak_M} {r : ak_O × ak_M} (hL : ab_lay M) (y5 : Int32) (o6 o7 o8 o9 : Option Value) (l2 : List (Nat × Value)) (h : (∃ (v94 : Int32) (M93 : ak_M), ab_lay M93 ∧ rn X 90 [.ref 0] M (.inl (some (.int v94)), M93) ∧ (∃ (v96 : Int32) (M95 : ak_M), ab_lay M95 ∧ rn X 292 [.ref 483] M93 (.inl (some (.int v96)), M95) ∧ (if v94 = v96 then sg X 364 (3274, [some (.ref 1000000), some (.ref 0), some (.ref 483), some (.ref 497), some (.ref 498), some (.int y5), o6, o7, o8, o9], l2, []) M95 r else r = (.inl (some (.int 0)), M95))))) : sg X 364 (399, [some (.ref 1000000), some (.ref 0), some (.ref 483), some (.ref 497), some (.ref 498), some (.int y5), o6, o7, o8, o9], l2, []) M r := by
  refine w_aload_n (n := 400) (i := 1) (by decide +kernel) rfl rfl ?_
  obtain ⟨v94, M93, hLM93, hr99, h⟩ := h
  refine w_cV (n := 403) (idx := 160) (cal := 90) (na := 0) (nl := 1) (as := []) (rest := []) hL (by decide +kernel) (by decide +kernel) (at_0) (by decide +kernel) rfl rfl rfl (Nat.le_of_ble_eq_true rfl) rfl hr99 ?_
  refine w_aload_n (n := 404) (i := 2) (by decide +kernel) rfl rfl ?_
  obtain ⟨v96, M95, hLM95, hr98, h⟩ := h
  refine w_cV (n := 407) (idx := 163) (cal := 292) (na := 0) (nl := 1) (as := []) (rest := [.int v94]) hLM93 (by decide +kernel) (by decide +kernel) (at_483) (by decide +kernel) rfl rfl rfl (Nat.le_of_ble_eq_true rfl) rfl hr98 ?_
  by_cases c97 : v94 = v96
  · rw [if_pos c97] at h
    refine w_icmp_eq_j (n := 3274) (off := 2867) (by decide +kernel) (by decide) c97 ?_
    exact h
  · rw [if_neg c97] at h
    refine w_icmp_eq_n (n := 410) (off := 2867) (by decide +kernel) rfl c97 ?_
    refine w_iconst (n := 411) (v := 0) (x := 0) (by decide +kernel) rfl (by decide) ?_
    subst h
    exact w_ireturn (by decide +kernel) (by decide +kernel)
theorem t_364_412 {X : ak_X} {M : ak_M} {r : ak_O × ak_M} (hL : ab_lay M) (y5 : Int32) (o6 o7 o8 o9 : Option Value) (l2 : List (Nat × Value)) (h : (∃ (v101 : Int32) (M100 : ak_M), ab_lay M100 ∧ rn X 91 [.ref 0] M (.inl (some (.int v101)), M100) ∧ (∃ (v103 : Int32) (M102 : ak_M), ab_lay M102 ∧ rn X 293 [.ref 483] M100 (.inl (some (.int v103)), M102) ∧ (if v101 = v103 then sg X 364 (3274, [some (.ref 1000000), some (.ref 0), some (.ref 483), some (.ref 497), some (.ref 498), some (.int y5), o6, o7, o8, o9], l2, []) M102 r else r = (.inl (some (.int 0)), M102))))) : sg X 364 (412, [some (.ref 1000000), some (.ref 0), some (.ref 483), some (.ref 497), some (.ref 498), some (.int y5), o6, o7, o8, o9], l2, []) M r := by
  refine w_aload_n (n := 413) (i := 1) (by decide +kernel) rfl rfl ?_
  obtain ⟨v101, M100, hLM100, hr106, h⟩ := h
  refine w_cV (n := 416) (idx := 164) (cal := 91) (na := 0) (nl := 1) (as := []) (rest := []) hL (by decide +kernel) (by decide +kernel) (at_0) (by decide +kernel) rfl rfl rfl (Nat.le_of_ble_eq_true rfl) rfl hr106 ?_
  refine w_aload_n (n := 417) (i := 2) (by decide +kernel) rfl rfl ?_
  obtain ⟨v103, M102, hLM102, hr105, h⟩ := h
  refine w_cV (n := 420) (idx := 167) (cal := 293) (na := 0) (nl := 1) (as := []) (rest := [.int v101]) hLM100 (by decide +kernel) (by decide +kernel) (at_483) (by decide +kernel) rfl rfl rfl (Nat.le_of_ble_eq_true rfl) rfl hr105 ?_
  by_cases c104 : v101 = v103
  · rw [if_pos c104] at h
    refine w_icmp_eq_j (n := 3274) (off := 2854) (by decide +kernel) (by decide) c104 ?_
    exact h
  · rw [if_neg c104] at h
    refine w_icmp_eq_n (n := 423) (off := 2854) (by decide +kernel) rfl c104 ?_
    refine w_iconst (n := 424) (v := 0) (x := 0) (by decide +kernel) rfl (by decide) ?_
    subst h
    exact w_ireturn (by decide +kernel) (by decide +kernel)
theorem t_364_425 {X : ak_X} {M : ak_M} {r : ak_O × ak_M} (hL : ab_lay M) (y5 : Int32) (o6 o7 o8 o9 : Option Value) (l2 : List (Nat × Value)) (h : (∃ i107 : Nat, ab_ix (y5 + 1) i107 X.1 ∧ (∃ (v109 : Int32) (M108 : ak_M), ab_lay M108 ∧ rn X 92 [.ref 0, .int (X.2.1 i107)] M (.inl (some (.int v109)), M108) ∧ (∃ i110 : Nat, ab_ix (y5 + 1) i110 X.1 ∧ (∃ (v112 : Int32) (M111 : ak_M), ab_lay M111 ∧ rn X 215 [.ref 483, .int (X.2.1 i110)] M108 (.inl (some (.int v112)), M111) ∧ (if v109 = v112 then sg X 364 (3274, [some (.ref 1000000), some (.ref 0), some (.ref 483), some (.ref 497), some (.ref 498), some (.int y5), o6, o7, o8, o9], l2, []) M111 r else r = (.inl (some (.int 0)), M111))))))) : sg X 364 (425, [some (.ref 1000000), some (.ref 0), some (.ref 483), some (.ref 497), some (.ref 498), some (.int y5), o6, o7, o8, o9], l2, []) M r := by
  refine w_aload_n (n := 426) (i := 1) (by decide +kernel) rfl rfl ?_
  refine w_aload_n (n := 427) (i := 0) (by decide +kernel) rfl rfl ?_
  refine w_iload (n := 429) (i := 5) (by decide +kernel) rfl rfl ?_
  refine w_iconst (n := 430) (v := 1) (x := 1) (by decide +kernel) rfl (by decide) ?_
  refine w_iadd (n := 431) (by decide +kernel) rfl ?_
  obtain ⟨i107, gi107, h⟩ := h
  refine w_sld (n := 432) hL (by decide +kernel) gi107 rfl ?_
  obtain ⟨v109, M108, hLM108, hr115, h⟩ := h
  refine w_cV (n := 435) (idx := 168) (cal := 92) (na := 1) (nl := 2) (as := [.int (X.2.1 i107)]) (rest := []) hL (by decide +kernel) (by decide +kernel) (at_0) (by decide +kernel) rfl rfl rfl (Nat.le_of_ble_eq_true rfl) rfl hr115 ?_
  refine w_aload_n (n := 436) (i := 2) (by decide +kernel) rfl rfl ?_
  refine w_aload_n (n := 437) (i := 0) (by decide +kernel) rfl rfl ?_
  refine w_iload (n := 439) (i := 5) (by decide +kernel) rfl rfl ?_
  refine w_iconst (n := 440) (v := 1) (x := 1) (by decide +kernel) rfl (by decide) ?_
  refine w_iadd (n := 441) (by decide +kernel) rfl ?_
  obtain ⟨i110, gi110, h⟩ := h
  refine w_sld (n := 442) hLM108 (by decide +kernel) gi110 rfl ?_
  obtain ⟨v112, M111, hLM111, hr114, h⟩ := h
  refine w_cV (n := 445) (idx := 171) (cal := 215) (na := 1) (nl := 2) (as := [.int (X.2.1 i110)]) (rest := [.int v109]) hLM108 (by decide +kernel) (by decide +kernel) (at_483) (by decide +kernel) rfl rfl rfl (Nat.le_of_ble_eq_true rfl) rfl hr114 ?_
  by_cases c113 : v109 = v112
  · rw [if_pos c113] at h
    refine w_icmp_eq_j (n := 3274) (off := 2829) (by decide +kernel) (by decide) c113 ?_
    exact h
  · rw [if_neg c113] at h
    refine w_icmp_eq_n (n := 448) (off := 2829) (by decide +kernel) rfl c113 ?_
    refine w_iconst (n := 449) (v := 0) (x := 0) (by decide +kernel) rfl (by decide) ?_
    subst h
    exact w_ireturn (by decide +kernel) (by decide +kernel)
theorem t_364_450 {X : ak_X} {M : ak_M} {r : ak_O × ak_M} (hL : ab_lay M) (y5 : Int32) (o6 o7 o8 o9 : Option Value) (l2 : List (Nat × Value)) (h : (∃ i116 : Nat, ab_ix (y5 + 1) i116 X.1 ∧ (∃ (v118 : Int32) (M117 : ak_M), ab_lay M117 ∧ rn X 93 [.ref 0, .int (X.2.1 i116)] M (.inl (some (.int v118)), M117) ∧ (∃ i119 : Nat, ab_ix (y5 + 1) i119 X.1 ∧ (∃ (v121 : Int32) (M120 : ak_M), ab_lay M120 ∧ rn X 216 [.ref 483, .int (X.2.1 i119)] M117 (.inl (some (.int v121)), M120) ∧ (if v118 = v121 then sg X 364 (3274, [some (.ref 1000000), some (.ref 0), some (.ref 483), some (.ref 497), some (.ref 498), some (.int y5), o6, o7, o8, o9], l2, []) M120 r else r = (.inl (some (.int 0)), M120))))))) : sg X 364 (450, [some (.ref 1000000), some (.ref 0), some (.ref 483), some (.ref 497), some (.ref 498), some (.int y5), o6, o7, o8, o9], l2, []) M r := by
  refine w_aload_n (n := 451) (i := 1) (by decide +kernel) rfl rfl ?_
  refine w_aload_n (n := 452) (i := 0) (by decide +kernel) rfl rfl ?_
  refine w_iload (n := 454) (i := 5) (by decide +kernel) rfl rfl ?_
  refine w_iconst (n := 455) (v := 1) (x := 1) (by decide +kernel) rfl (by decide) ?_
  refine w_iadd (n := 456) (by decide +kernel) rfl ?_
  obtain ⟨i116, gi116, h⟩ := h
  refine w_sld (n := 457) hL (by decide +kernel) gi116 rfl ?_
  obtain ⟨v118, M117, hLM117, hr124, h⟩ := h
  refine w_cV (n := 460) (idx := 172) (cal := 93) (na := 1) (nl := 2) (as := [.int (X.2.1 i116)]) (rest := []) hL (by decide +kernel) (by decide +kernel) (at_0) (by decide +kernel) rfl rfl rfl (Nat.le_of_ble_eq_true rfl) rfl hr124 ?_
  refine w_aload_n (n := 461) (i := 2) (by decide +kernel) rfl rfl ?_
  refine w_aload_n (n := 462) (i := 0) (by decide +kernel) rfl rfl ?_
  refine w_iload (n := 464) (i := 5) (by decide +kernel) rfl rfl ?_
  refine w_iconst (n := 465) (v := 1) (x := 1) (by decide +kernel) rfl (by decide) ?_
  refine w_iadd (n := 466) (by decide +kernel) rfl ?_
  obtain ⟨i119, gi119, h⟩ := h
  refine w_sld (n := 467) hLM117 (by decide +kernel) gi119 rfl ?_
  obtain ⟨v121, M120, hLM120, hr123, h⟩ := h
  refine w_cV (n := 470) (idx := 175) (cal := 216) (na := 1) (nl := 2) (as := [.int (X.2.1 i119)]) (rest := [.int v118]) hLM117 (by decide +kernel) (by decide +kernel) (at_483) (by decide +kernel) rfl rfl rfl (Nat.le_of_ble_eq_true rfl) rfl hr123 ?_
  by_cases c122 : v118 = v121
  · rw [if_pos c122] at h
    refine w_icmp_eq_j (n := 3274) (off := 2804) (by decide +kernel) (by decide) c122 ?_
    exact h
  · rw [if_neg c122] at h
    refine w_icmp_eq_n (n := 473) (off := 2804) (by decide +kernel) rfl c122 ?_
    refine w_iconst (n := 474) (v := 0) (x := 0) (by decide +kernel) rfl (by decide) ?_
    subst h
    exact w_ireturn (by decide +kernel) (by decide +kernel)
theorem t_364_475 {X : ak_X} {M : ak_M} {r : ak_O × ak_M} (hL : ab_lay M) (y5 : Int32) (o6 o7 o8 o9 : Option Value) (l2 : List (Nat × Value)) (h : (∃ (v126 : Int32) (M125 : ak_M), ab_lay M125 ∧ rn X 94 [.ref 0] M (.inl (some (.int v126)), M125) ∧ (∃ (v128 : Int32) (M127 : ak_M), ab_lay M127 ∧ rn X 279 [.ref 483] M125 (.inl (some (.int v128)), M127) ∧ (if v126 = v128 then sg X 364 (3274, [some (.ref 1000000), some (.ref 0), some (.ref 483), some (.ref 497), some (.ref 498), some (.int y5), o6, o7, o8, o9], l2, []) M127 r else r = (.inl (some (.int 0)), M127))))) : sg X 364 (475, [some (.ref 1000000), some (.ref 0), some (.ref 483), some (.ref 497), some (.ref 498), some (.int y5), o6, o7, o8, o9], l2, []) M r := by
  refine w_aload_n (n := 476) (i := 1) (by decide +kernel) rfl rfl ?_
  obtain ⟨v126, M125, hLM125, hr131, h⟩ := h
  refine w_cV (n := 479) (idx := 176) (cal := 94) (na := 0) (nl := 1) (as := []) (rest := []) hL (by decide +kernel) (by decide +kernel) (at_0) (by decide +kernel) rfl rfl rfl (Nat.le_of_ble_eq_true rfl) rfl hr131 ?_
  refine w_aload_n (n := 480) (i := 2) (by decide +kernel) rfl rfl ?_
  obtain ⟨v128, M127, hLM127, hr130, h⟩ := h
  refine w_cV (n := 483) (idx := 179) (cal := 279) (na := 0) (nl := 1) (as := []) (rest := [.int v126]) hLM125 (by decide +kernel) (by decide +kernel) (at_483) (by decide +kernel) rfl rfl rfl (Nat.le_of_ble_eq_true rfl) rfl hr130 ?_
  by_cases c129 : v126 = v128
  · rw [if_pos c129] at h
    refine w_icmp_eq_j (n := 3274) (off := 2791) (by decide +kernel) (by decide) c129 ?_
    exact h
  · rw [if_neg c129] at h
    refine w_icmp_eq_n (n := 486) (off := 2791) (by decide +kernel) rfl c129 ?_
    refine w_iconst (n := 487) (v := 0) (x := 0) (by decide +kernel) rfl (by decide) ?_
    subst h
    exact w_ireturn (by decide +kernel) (by decide +kernel)
theorem t_364_488 {X : ak_X} {M : ak_M} {r : ak_O × ak_M} (hL : ab_lay M) (y5 : Int32) (o6 o7 o8 o9 : Option Value) (l2 : List (Nat × Value)) (h : (∃ i132 : Nat, ab_ix (y5 + 1) i132 X.1 ∧ (∃ i133 : Nat, ab_ix (y5 + 2) i133 X.1 ∧ (∃ (v135 : Int32) (M134 : ak_M), ab_lay M134 ∧ rn X 324 [.ref 0, .int (X.2.1 i132), .int (X.2.1 i133), .ref 497] M (.inl (some (.int v135)), M134) ∧ (∃ i136 : Nat, ab_ix (y5 + 1) i136 X.1 ∧ (∃ i137 : Nat, ab_ix (y5 + 2) i137 X.1 ∧ (∃ (v139 : Int32) (M138 : ak_M), ab_lay M138 ∧ rn X 218 [.ref 483, .int (X.2.1 i136), .int (X.2.1 i137)] M134 (.inl (some (.int v139)), M138) ∧ (∃ (v141 : Int32) (M140 : ak_M), ab_lay M140 ∧ rn X 154 [.ref 483] M138 (.inl (some (.int v141)), M140) ∧ (if v141 = v135 then (if v135 = 0 then (if lg_cmp (ak_L M140 497 0) (v139.toInt64) = 0 then sg X 364 (3274, [some (.ref 1000000), some (.ref 0), some (.ref 483), some (.ref 497), some (.ref 498), some (.int y5), some (.int v135), some (.int v139), o8, o9], ((l2).filter (fun q => !(q.1 == 6) && !(q.1 + 1 == 6))).filter (fun q => !(q.1 == 7) && !(q.1 + 1 == 7)), []) M140 r else r = (.inl (some (.int 0)), M140)) else sg X 364 (3274, [some (.ref 1000000), some (.ref 0), some (.ref 483), some (.ref 497), some (.ref 498), some (.int y5), some (.int v135), some (.int v139), o8, o9], ((l2).filter (fun q => !(q.1 == 6) && !(q.1 + 1 == 6))).filter (fun q => !(q.1 == 7) && !(q.1 + 1 == 7)), []) M140 r) else r = (.inl (some (.int 0)), M140)))))))))) : sg X 364 (488, [some (.ref 1000000), some (.ref 0), some (.ref 483), some (.ref 497), some (.ref 498), some (.int y5), o6, o7, o8, o9], l2, []) M r := by
  refine w_aload_n (n := 489) (i := 1) (by decide +kernel) rfl rfl ?_
  refine w_aload_n (n := 490) (i := 0) (by decide +kernel) rfl rfl ?_
  refine w_iload (n := 492) (i := 5) (by decide +kernel) rfl rfl ?_
  refine w_iconst (n := 493) (v := 1) (x := 1) (by decide +kernel) rfl (by decide) ?_
  refine w_iadd (n := 494) (by decide +kernel) rfl ?_
  obtain ⟨i132, gi132, h⟩ := h
  refine w_sld (n := 495) hL (by decide +kernel) gi132 rfl ?_
  refine w_aload_n (n := 496) (i := 0) (by decide +kernel) rfl rfl ?_
  refine w_iload (n := 498) (i := 5) (by decide +kernel) rfl rfl ?_
  refine w_iconst (n := 499) (v := 2) (x := 2) (by decide +kernel) rfl (by decide) ?_
  refine w_iadd (n := 500) (by decide +kernel) rfl ?_
  obtain ⟨i133, gi133, h⟩ := h
  refine w_sld (n := 501) hL (by decide +kernel) gi133 rfl ?_
  refine w_aload_n (n := 502) (i := 3) (by decide +kernel) rfl rfl ?_
  obtain ⟨v135, M134, hLM134, hr147, h⟩ := h
  refine w_cS (n := 505) (idx := 180) (cal := 324) (na := 4) (nl := 4) (as := [.ref 0, .int (X.2.1 i132), .int (X.2.1 i133), .ref 497]) (rest := []) (by decide +kernel) (by decide +kernel) rfl rfl rfl (Nat.le_of_ble_eq_true rfl) rfl hr147 ?_
  refine w_istore (n := 507) (i := 6) (l1' := [some (.ref 1000000), some (.ref 0), some (.ref 483), some (.ref 497), some (.ref 498), some (.int y5), some (.int v135), o7, o8, o9]) (l2' := (l2).filter (fun q => !(q.1 == 6) && !(q.1 + 1 == 6))) (by decide +kernel) rfl (Nat.le_of_ble_eq_true rfl) rfl rfl ?_
  refine w_aload_n (n := 508) (i := 2) (by decide +kernel) rfl rfl ?_
  refine w_aload_n (n := 509) (i := 0) (by decide +kernel) rfl rfl ?_
  refine w_iload (n := 511) (i := 5) (by decide +kernel) rfl rfl ?_
  refine w_iconst (n := 512) (v := 1) (x := 1) (by decide +kernel) rfl (by decide) ?_
  refine w_iadd (n := 513) (by decide +kernel) rfl ?_
  obtain ⟨i136, gi136, h⟩ := h
  refine w_sld (n := 514) hLM134 (by decide +kernel) gi136 rfl ?_
  refine w_aload_n (n := 515) (i := 0) (by decide +kernel) rfl rfl ?_
  refine w_iload (n := 517) (i := 5) (by decide +kernel) rfl rfl ?_
  refine w_iconst (n := 518) (v := 2) (x := 2) (by decide +kernel) rfl (by decide) ?_
  refine w_iadd (n := 519) (by decide +kernel) rfl ?_
  obtain ⟨i137, gi137, h⟩ := h
  refine w_sld (n := 520) hLM134 (by decide +kernel) gi137 rfl ?_
  obtain ⟨v139, M138, hLM138, hr146, h⟩ := h
  refine w_cV (n := 523) (idx := 185) (cal := 218) (na := 2) (nl := 3) (as := [.int (X.2.1 i136), .int (X.2.1 i137)]) (rest := []) hLM134 (by decide +kernel) (by decide +kernel) (at_483) (by decide +kernel) rfl rfl rfl (Nat.le_of_ble_eq_true rfl) rfl hr146 ?_
  refine w_istore (n := 525) (i := 7) (l1' := [some (.ref 1000000), some (.ref 0), some (.ref 483), some (.ref 497), some (.ref 498), some (.int y5), some (.int v135), some (.int v139), o8, o9]) (l2' := ((l2).filter (fun q => !(q.1 == 6) && !(q.1 + 1 == 6))).filter (fun q => !(q.1 == 7) && !(q.1 + 1 == 7))) (by decide +kernel) rfl (Nat.le_of_ble_eq_true rfl) rfl rfl ?_
  refine w_aload_n (n := 526) (i := 2) (by decide +kernel) rfl rfl ?_
  obtain ⟨v141, M140, hLM140, hr145, h⟩ := h
  refine w_cV (n := 529) (idx := 186) (cal := 154) (na := 0) (nl := 1) (as := []) (rest := []) hLM138 (by decide +kernel) (by decide +kernel) (at_483) (by decide +kernel) rfl rfl rfl (Nat.le_of_ble_eq_true rfl) rfl hr145 ?_
  refine w_iload (n := 531) (i := 6) (by decide +kernel) rfl rfl ?_
  by_cases c144 : v141 = v135
  · rw [if_pos c144] at h
    refine w_icmp_eq_j (n := 536) (off := 5) (by decide +kernel) (by decide) c144 ?_
    refine w_iload (n := 538) (i := 6) (by decide +kernel) rfl rfl ?_
    by_cases c143 : v135 = 0
    · rw [if_pos c143] at h
      refine w_if_ne_n (n := 541) (off := 15) (by decide +kernel) rfl c143 ?_
      refine w_aload_n (n := 542) (i := 3) (by decide +kernel) rfl rfl ?_
      refine w_iconst (n := 543) (v := 0) (x := 0) (by decide +kernel) rfl (by decide) ?_
      refine w_lald (n := 544) (i := 0) hLM140 (by decide +kernel) (at_497) (an_497) ⟨by decide, by decide⟩ rfl ?_
      refine w_iload (n := 546) (i := 7) (by decide +kernel) rfl rfl ?_
      refine w_i2l (n := 547) (by decide +kernel) rfl ?_
      refine w_lcmp (n := 548) (by decide +kernel) rfl ?_
      by_cases c142 : lg_cmp (ak_L M140 497 0) (v139.toInt64) = 0
      · rw [if_pos c142] at h
        refine w_if_eq_j (n := 553) (off := 5) (by decide +kernel) (by decide) c142 ?_
        refine w_goto (n := 3274) (off := 2721) (by decide +kernel) (by decide) ?_
        exact h
      · rw [if_neg c142] at h
        refine w_if_eq_n (n := 551) (off := 5) (by decide +kernel) rfl c142 ?_
        refine w_iconst (n := 552) (v := 0) (x := 0) (by decide +kernel) rfl (by decide) ?_
        subst h
        exact w_ireturn (by decide +kernel) (by decide +kernel)
    · rw [if_neg c143] at h
      refine w_if_ne_j (n := 553) (off := 15) (by decide +kernel) (by decide) c143 ?_
      refine w_goto (n := 3274) (off := 2721) (by decide +kernel) (by decide) ?_
      exact h
  · rw [if_neg c144] at h
    refine w_icmp_eq_n (n := 534) (off := 5) (by decide +kernel) rfl c144 ?_
    refine w_iconst (n := 535) (v := 0) (x := 0) (by decide +kernel) rfl (by decide) ?_
    subst h
    exact w_ireturn (by decide +kernel) (by decide +kernel)
theorem t_364_556 {X : ak_X} {M : ak_M} {r : ak_O × ak_M} (hL : ab_lay M) (y5 : Int32) (o6 o7 o8 o9 : Option Value) (l2 : List (Nat × Value)) (h : (∃ i148 : Nat, ab_ix (y5 + 1) i148 X.1 ∧ (∃ i149 : Nat, ab_ix (y5 + 2) i149 X.1 ∧ (∃ (v151 : Int32) (M150 : ak_M), ab_lay M150 ∧ rn X 325 [.ref 0, .int (X.2.1 i148), .int (X.2.1 i149), .ref 497] M (.inl (some (.int v151)), M150) ∧ (∃ i152 : Nat, ab_ix (y5 + 1) i152 X.1 ∧ (∃ i153 : Nat, ab_ix (y5 + 2) i153 X.1 ∧ (∃ (v155 : Int32) (M154 : ak_M), ab_lay M154 ∧ rn X 219 [.ref 483, .int (X.2.1 i152), .int (X.2.1 i153)] M150 (.inl (some (.int v155)), M154) ∧ (∃ (v157 : Int32) (M156 : ak_M), ab_lay M156 ∧ rn X 154 [.ref 483] M154 (.inl (some (.int v157)), M156) ∧ (if v157 = v151 then (if v151 = 0 then (if lg_cmp (ak_L M156 497 0) (v155.toInt64) = 0 then sg X 364 (3274, [some (.ref 1000000), some (.ref 0), some (.ref 483), some (.ref 497), some (.ref 498), some (.int y5), some (.int v151), some (.int v155), o8, o9], ((l2).filter (fun q => !(q.1 == 6) && !(q.1 + 1 == 6))).filter (fun q => !(q.1 == 7) && !(q.1 + 1 == 7)), []) M156 r else r = (.inl (some (.int 0)), M156)) else sg X 364 (3274, [some (.ref 1000000), some (.ref 0), some (.ref 483), some (.ref 497), some (.ref 498), some (.int y5), some (.int v151), some (.int v155), o8, o9], ((l2).filter (fun q => !(q.1 == 6) && !(q.1 + 1 == 6))).filter (fun q => !(q.1 == 7) && !(q.1 + 1 == 7)), []) M156 r) else r = (.inl (some (.int 0)), M156)))))))))) : sg X 364 (556, [some (.ref 1000000), some (.ref 0), some (.ref 483), some (.ref 497), some (.ref 498), some (.int y5), o6, o7, o8, o9], l2, []) M r := by
  refine w_aload_n (n := 557) (i := 1) (by decide +kernel) rfl rfl ?_
  refine w_aload_n (n := 558) (i := 0) (by decide +kernel) rfl rfl ?_
  refine w_iload (n := 560) (i := 5) (by decide +kernel) rfl rfl ?_
  refine w_iconst (n := 561) (v := 1) (x := 1) (by decide +kernel) rfl (by decide) ?_
  refine w_iadd (n := 562) (by decide +kernel) rfl ?_
  obtain ⟨i148, gi148, h⟩ := h
  refine w_sld (n := 563) hL (by decide +kernel) gi148 rfl ?_
  refine w_aload_n (n := 564) (i := 0) (by decide +kernel) rfl rfl ?_
  refine w_iload (n := 566) (i := 5) (by decide +kernel) rfl rfl ?_
  refine w_iconst (n := 567) (v := 2) (x := 2) (by decide +kernel) rfl (by decide) ?_
  refine w_iadd (n := 568) (by decide +kernel) rfl ?_
  obtain ⟨i149, gi149, h⟩ := h
  refine w_sld (n := 569) hL (by decide +kernel) gi149 rfl ?_
  refine w_aload_n (n := 570) (i := 3) (by decide +kernel) rfl rfl ?_
  obtain ⟨v151, M150, hLM150, hr163, h⟩ := h
  refine w_cS (n := 573) (idx := 189) (cal := 325) (na := 4) (nl := 4) (as := [.ref 0, .int (X.2.1 i148), .int (X.2.1 i149), .ref 497]) (rest := []) (by decide +kernel) (by decide +kernel) rfl rfl rfl (Nat.le_of_ble_eq_true rfl) rfl hr163 ?_
  refine w_istore (n := 575) (i := 6) (l1' := [some (.ref 1000000), some (.ref 0), some (.ref 483), some (.ref 497), some (.ref 498), some (.int y5), some (.int v151), o7, o8, o9]) (l2' := (l2).filter (fun q => !(q.1 == 6) && !(q.1 + 1 == 6))) (by decide +kernel) rfl (Nat.le_of_ble_eq_true rfl) rfl rfl ?_
  refine w_aload_n (n := 576) (i := 2) (by decide +kernel) rfl rfl ?_
  refine w_aload_n (n := 577) (i := 0) (by decide +kernel) rfl rfl ?_
  refine w_iload (n := 579) (i := 5) (by decide +kernel) rfl rfl ?_
  refine w_iconst (n := 580) (v := 1) (x := 1) (by decide +kernel) rfl (by decide) ?_
  refine w_iadd (n := 581) (by decide +kernel) rfl ?_
  obtain ⟨i152, gi152, h⟩ := h
  refine w_sld (n := 582) hLM150 (by decide +kernel) gi152 rfl ?_
  refine w_aload_n (n := 583) (i := 0) (by decide +kernel) rfl rfl ?_
  refine w_iload (n := 585) (i := 5) (by decide +kernel) rfl rfl ?_
  refine w_iconst (n := 586) (v := 2) (x := 2) (by decide +kernel) rfl (by decide) ?_
  refine w_iadd (n := 587) (by decide +kernel) rfl ?_
  obtain ⟨i153, gi153, h⟩ := h
  refine w_sld (n := 588) hLM150 (by decide +kernel) gi153 rfl ?_
  obtain ⟨v155, M154, hLM154, hr162, h⟩ := h
  refine w_cV (n := 591) (idx := 191) (cal := 219) (na := 2) (nl := 3) (as := [.int (X.2.1 i152), .int (X.2.1 i153)]) (rest := []) hLM150 (by decide +kernel) (by decide +kernel) (at_483) (by decide +kernel) rfl rfl rfl (Nat.le_of_ble_eq_true rfl) rfl hr162 ?_
  refine w_istore (n := 593) (i := 7) (l1' := [some (.ref 1000000), some (.ref 0), some (.ref 483), some (.ref 497), some (.ref 498), some (.int y5), some (.int v151), some (.int v155), o8, o9]) (l2' := ((l2).filter (fun q => !(q.1 == 6) && !(q.1 + 1 == 6))).filter (fun q => !(q.1 == 7) && !(q.1 + 1 == 7))) (by decide +kernel) rfl (Nat.le_of_ble_eq_true rfl) rfl rfl ?_
  refine w_aload_n (n := 594) (i := 2) (by decide +kernel) rfl rfl ?_
  obtain ⟨v157, M156, hLM156, hr161, h⟩ := h
  refine w_cV (n := 597) (idx := 186) (cal := 154) (na := 0) (nl := 1) (as := []) (rest := []) hLM154 (by decide +kernel) (by decide +kernel) (at_483) (by decide +kernel) rfl rfl rfl (Nat.le_of_ble_eq_true rfl) rfl hr161 ?_
  refine w_iload (n := 599) (i := 6) (by decide +kernel) rfl rfl ?_
  by_cases c160 : v157 = v151
  · rw [if_pos c160] at h
    refine w_icmp_eq_j (n := 604) (off := 5) (by decide +kernel) (by decide) c160 ?_
    refine w_iload (n := 606) (i := 6) (by decide +kernel) rfl rfl ?_
    by_cases c159 : v151 = 0
    · rw [if_pos c159] at h
      refine w_if_ne_n (n := 609) (off := 15) (by decide +kernel) rfl c159 ?_
      refine w_aload_n (n := 610) (i := 3) (by decide +kernel) rfl rfl ?_
      refine w_iconst (n := 611) (v := 0) (x := 0) (by decide +kernel) rfl (by decide) ?_
      refine w_lald (n := 612) (i := 0) hLM156 (by decide +kernel) (at_497) (an_497) ⟨by decide, by decide⟩ rfl ?_
      refine w_iload (n := 614) (i := 7) (by decide +kernel) rfl rfl ?_
      refine w_i2l (n := 615) (by decide +kernel) rfl ?_
      refine w_lcmp (n := 616) (by decide +kernel) rfl ?_
      by_cases c158 : lg_cmp (ak_L M156 497 0) (v155.toInt64) = 0
      · rw [if_pos c158] at h
        refine w_if_eq_j (n := 621) (off := 5) (by decide +kernel) (by decide) c158 ?_
        refine w_goto (n := 3274) (off := 2653) (by decide +kernel) (by decide) ?_
        exact h
      · rw [if_neg c158] at h
        refine w_if_eq_n (n := 619) (off := 5) (by decide +kernel) rfl c158 ?_
        refine w_iconst (n := 620) (v := 0) (x := 0) (by decide +kernel) rfl (by decide) ?_
        subst h
        exact w_ireturn (by decide +kernel) (by decide +kernel)
    · rw [if_neg c159] at h
      refine w_if_ne_j (n := 621) (off := 15) (by decide +kernel) (by decide) c159 ?_
      refine w_goto (n := 3274) (off := 2653) (by decide +kernel) (by decide) ?_
      exact h
  · rw [if_neg c160] at h
    refine w_icmp_eq_n (n := 602) (off := 5) (by decide +kernel) rfl c160 ?_
    refine w_iconst (n := 603) (v := 0) (x := 0) (by decide +kernel) rfl (by decide) ?_
    subst h
    exact w_ireturn (by decide +kernel) (by decide +kernel)
theorem t_364_624 {X : ak_X} {M : ak_M} {r : ak_O × ak_M} (hL : ab_lay M) (y5 : Int32) (o6 o7 o8 o9 : Option Value) (l2 : List (Nat × Value)) (h : (∃ i164 : Nat, ab_ix (y5 + 1) i164 X.1 ∧ (∃ (v166 : Int32) (M165 : ak_M), ab_lay M165 ∧ rn X 326 [.ref 0, .int (X.2.1 i164), .ref 497] M (.inl (some (.int v166)), M165) ∧ (∃ i167 : Nat, ab_ix (y5 + 1) i167 X.1 ∧ (∃ (v169 : Int32) (M168 : ak_M), ab_lay M168 ∧ rn X 220 [.ref 483, .int (X.2.1 i167)] M165 (.inl (some (.int v169)), M168) ∧ (∃ (v171 : Int32) (M170 : ak_M), ab_lay M170 ∧ rn X 154 [.ref 483] M168 (.inl (some (.int v171)), M170) ∧ (if v171 = v166 then (if v166 = 0 then (if lg_cmp (ak_L M170 497 0) (v169.toInt64) = 0 then sg X 364 (3274, [some (.ref 1000000), some (.ref 0), some (.ref 483), some (.ref 497), some (.ref 498), some (.int y5), some (.int v166), some (.int v169), o8, o9], ((l2).filter (fun q => !(q.1 == 6) && !(q.1 + 1 == 6))).filter (fun q => !(q.1 == 7) && !(q.1 + 1 == 7)), []) M170 r else r = (.inl (some (.int 0)), M170)) else sg X 364 (3274, [some (.ref 1000000), some (.ref 0), some (.ref 483), some (.ref 497), some (.ref 498), some (.int y5), some (.int v166), some (.int v169), o8, o9], ((l2).filter (fun q => !(q.1 == 6) && !(q.1 + 1 == 6))).filter (fun q => !(q.1 == 7) && !(q.1 + 1 == 7)), []) M170 r) else r = (.inl (some (.int 0)), M170)))))))) : sg X 364 (624, [some (.ref 1000000), some (.ref 0), some (.ref 483), some (.ref 497), some (.ref 498), some (.int y5), o6, o7, o8, o9], l2, []) M r := by
  refine w_aload_n (n := 625) (i := 1) (by decide +kernel) rfl rfl ?_
  refine w_aload_n (n := 626) (i := 0) (by decide +kernel) rfl rfl ?_
  refine w_iload (n := 628) (i := 5) (by decide +kernel) rfl rfl ?_
  refine w_iconst (n := 629) (v := 1) (x := 1) (by decide +kernel) rfl (by decide) ?_
  refine w_iadd (n := 630) (by decide +kernel) rfl ?_
  obtain ⟨i164, gi164, h⟩ := h
  refine w_sld (n := 631) hL (by decide +kernel) gi164 rfl ?_
  refine w_aload_n (n := 632) (i := 3) (by decide +kernel) rfl rfl ?_
  obtain ⟨v166, M165, hLM165, hr177, h⟩ := h
  refine w_cS (n := 635) (idx := 192) (cal := 326) (na := 3) (nl := 3) (as := [.ref 0, .int (X.2.1 i164), .ref 497]) (rest := []) (by decide +kernel) (by decide +kernel) rfl rfl rfl (Nat.le_of_ble_eq_true rfl) rfl hr177 ?_
  refine w_istore (n := 637) (i := 6) (l1' := [some (.ref 1000000), some (.ref 0), some (.ref 483), some (.ref 497), some (.ref 498), some (.int y5), some (.int v166), o7, o8, o9]) (l2' := (l2).filter (fun q => !(q.1 == 6) && !(q.1 + 1 == 6))) (by decide +kernel) rfl (Nat.le_of_ble_eq_true rfl) rfl rfl ?_
  refine w_aload_n (n := 638) (i := 2) (by decide +kernel) rfl rfl ?_
  refine w_aload_n (n := 639) (i := 0) (by decide +kernel) rfl rfl ?_
  refine w_iload (n := 641) (i := 5) (by decide +kernel) rfl rfl ?_
  refine w_iconst (n := 642) (v := 1) (x := 1) (by decide +kernel) rfl (by decide) ?_
  refine w_iadd (n := 643) (by decide +kernel) rfl ?_
  obtain ⟨i167, gi167, h⟩ := h
  refine w_sld (n := 644) hLM165 (by decide +kernel) gi167 rfl ?_
  obtain ⟨v169, M168, hLM168, hr176, h⟩ := h
  refine w_cV (n := 647) (idx := 195) (cal := 220) (na := 1) (nl := 2) (as := [.int (X.2.1 i167)]) (rest := []) hLM165 (by decide +kernel) (by decide +kernel) (at_483) (by decide +kernel) rfl rfl rfl (Nat.le_of_ble_eq_true rfl) rfl hr176 ?_
  refine w_istore (n := 649) (i := 7) (l1' := [some (.ref 1000000), some (.ref 0), some (.ref 483), some (.ref 497), some (.ref 498), some (.int y5), some (.int v166), some (.int v169), o8, o9]) (l2' := ((l2).filter (fun q => !(q.1 == 6) && !(q.1 + 1 == 6))).filter (fun q => !(q.1 == 7) && !(q.1 + 1 == 7))) (by decide +kernel) rfl (Nat.le_of_ble_eq_true rfl) rfl rfl ?_
  refine w_aload_n (n := 650) (i := 2) (by decide +kernel) rfl rfl ?_
  obtain ⟨v171, M170, hLM170, hr175, h⟩ := h
  refine w_cV (n := 653) (idx := 186) (cal := 154) (na := 0) (nl := 1) (as := []) (rest := []) hLM168 (by decide +kernel) (by decide +kernel) (at_483) (by decide +kernel) rfl rfl rfl (Nat.le_of_ble_eq_true rfl) rfl hr175 ?_
  refine w_iload (n := 655) (i := 6) (by decide +kernel) rfl rfl ?_
  by_cases c174 : v171 = v166
  · rw [if_pos c174] at h
    refine w_icmp_eq_j (n := 660) (off := 5) (by decide +kernel) (by decide) c174 ?_
    refine w_iload (n := 662) (i := 6) (by decide +kernel) rfl rfl ?_
    by_cases c173 : v166 = 0
    · rw [if_pos c173] at h
      refine w_if_ne_n (n := 665) (off := 15) (by decide +kernel) rfl c173 ?_
      refine w_aload_n (n := 666) (i := 3) (by decide +kernel) rfl rfl ?_
      refine w_iconst (n := 667) (v := 0) (x := 0) (by decide +kernel) rfl (by decide) ?_
      refine w_lald (n := 668) (i := 0) hLM170 (by decide +kernel) (at_497) (an_497) ⟨by decide, by decide⟩ rfl ?_
      refine w_iload (n := 670) (i := 7) (by decide +kernel) rfl rfl ?_
      refine w_i2l (n := 671) (by decide +kernel) rfl ?_
      refine w_lcmp (n := 672) (by decide +kernel) rfl ?_
      by_cases c172 : lg_cmp (ak_L M170 497 0) (v169.toInt64) = 0
      · rw [if_pos c172] at h
        refine w_if_eq_j (n := 677) (off := 5) (by decide +kernel) (by decide) c172 ?_
        refine w_goto (n := 3274) (off := 2597) (by decide +kernel) (by decide) ?_
        exact h
      · rw [if_neg c172] at h
        refine w_if_eq_n (n := 675) (off := 5) (by decide +kernel) rfl c172 ?_
        refine w_iconst (n := 676) (v := 0) (x := 0) (by decide +kernel) rfl (by decide) ?_
        subst h
        exact w_ireturn (by decide +kernel) (by decide +kernel)
    · rw [if_neg c173] at h
      refine w_if_ne_j (n := 677) (off := 15) (by decide +kernel) (by decide) c173 ?_
      refine w_goto (n := 3274) (off := 2597) (by decide +kernel) (by decide) ?_
      exact h
  · rw [if_neg c174] at h
    refine w_icmp_eq_n (n := 658) (off := 5) (by decide +kernel) rfl c174 ?_
    refine w_iconst (n := 659) (v := 0) (x := 0) (by decide +kernel) rfl (by decide) ?_
    subst h
    exact w_ireturn (by decide +kernel) (by decide +kernel)
theorem t_364_680 {X : ak_X} {M : ak_M} {r : ak_O × ak_M} (hL : ab_lay M) (y5 : Int32) (o6 o7 o8 o9 : Option Value) (l2 : List (Nat × Value)) (h : (∃ i178 : Nat, ab_ix (y5 + 1) i178 X.1 ∧ (∃ (v180 : Int32) (M179 : ak_M), ab_lay M179 ∧ rn X 327 [.ref 0, .int (X.2.1 i178), .ref 497] M (.inl (some (.int v180)), M179) ∧ (∃ i181 : Nat, ab_ix (y5 + 1) i181 X.1 ∧ (∃ (v183 : Int32) (M182 : ak_M), ab_lay M182 ∧ rn X 221 [.ref 483, .int (X.2.1 i181)] M179 (.inl (some (.int v183)), M182) ∧ (∃ (v185 : Int32) (M184 : ak_M), ab_lay M184 ∧ rn X 154 [.ref 483] M182 (.inl (some (.int v185)), M184) ∧ (if v185 = v180 then (if v180 = 0 then (if lg_cmp (ak_L M184 497 0) (v183.toInt64) = 0 then sg X 364 (3274, [some (.ref 1000000), some (.ref 0), some (.ref 483), some (.ref 497), some (.ref 498), some (.int y5), some (.int v180), some (.int v183), o8, o9], ((l2).filter (fun q => !(q.1 == 6) && !(q.1 + 1 == 6))).filter (fun q => !(q.1 == 7) && !(q.1 + 1 == 7)), []) M184 r else r = (.inl (some (.int 0)), M184)) else sg X 364 (3274, [some (.ref 1000000), some (.ref 0), some (.ref 483), some (.ref 497), some (.ref 498), some (.int y5), some (.int v180), some (.int v183), o8, o9], ((l2).filter (fun q => !(q.1 == 6) && !(q.1 + 1 == 6))).filter (fun q => !(q.1 == 7) && !(q.1 + 1 == 7)), []) M184 r) else r = (.inl (some (.int 0)), M184)))))))) : sg X 364 (680, [some (.ref 1000000), some (.ref 0), some (.ref 483), some (.ref 497), some (.ref 498), some (.int y5), o6, o7, o8, o9], l2, []) M r := by
  refine w_aload_n (n := 681) (i := 1) (by decide +kernel) rfl rfl ?_
  refine w_aload_n (n := 682) (i := 0) (by decide +kernel) rfl rfl ?_
  refine w_iload (n := 684) (i := 5) (by decide +kernel) rfl rfl ?_
  refine w_iconst (n := 685) (v := 1) (x := 1) (by decide +kernel) rfl (by decide) ?_
  refine w_iadd (n := 686) (by decide +kernel) rfl ?_
  obtain ⟨i178, gi178, h⟩ := h
  refine w_sld (n := 687) hL (by decide +kernel) gi178 rfl ?_
  refine w_aload_n (n := 688) (i := 3) (by decide +kernel) rfl rfl ?_
  obtain ⟨v180, M179, hLM179, hr191, h⟩ := h
  refine w_cS (n := 691) (idx := 196) (cal := 327) (na := 3) (nl := 3) (as := [.ref 0, .int (X.2.1 i178), .ref 497]) (rest := []) (by decide +kernel) (by decide +kernel) rfl rfl rfl (Nat.le_of_ble_eq_true rfl) rfl hr191 ?_
  refine w_istore (n := 693) (i := 6) (l1' := [some (.ref 1000000), some (.ref 0), some (.ref 483), some (.ref 497), some (.ref 498), some (.int y5), some (.int v180), o7, o8, o9]) (l2' := (l2).filter (fun q => !(q.1 == 6) && !(q.1 + 1 == 6))) (by decide +kernel) rfl (Nat.le_of_ble_eq_true rfl) rfl rfl ?_
  refine w_aload_n (n := 694) (i := 2) (by decide +kernel) rfl rfl ?_
  refine w_aload_n (n := 695) (i := 0) (by decide +kernel) rfl rfl ?_
  refine w_iload (n := 697) (i := 5) (by decide +kernel) rfl rfl ?_
  refine w_iconst (n := 698) (v := 1) (x := 1) (by decide +kernel) rfl (by decide) ?_
  refine w_iadd (n := 699) (by decide +kernel) rfl ?_
  obtain ⟨i181, gi181, h⟩ := h
  refine w_sld (n := 700) hLM179 (by decide +kernel) gi181 rfl ?_
  obtain ⟨v183, M182, hLM182, hr190, h⟩ := h
  refine w_cV (n := 703) (idx := 198) (cal := 221) (na := 1) (nl := 2) (as := [.int (X.2.1 i181)]) (rest := []) hLM179 (by decide +kernel) (by decide +kernel) (at_483) (by decide +kernel) rfl rfl rfl (Nat.le_of_ble_eq_true rfl) rfl hr190 ?_
  refine w_istore (n := 705) (i := 7) (l1' := [some (.ref 1000000), some (.ref 0), some (.ref 483), some (.ref 497), some (.ref 498), some (.int y5), some (.int v180), some (.int v183), o8, o9]) (l2' := ((l2).filter (fun q => !(q.1 == 6) && !(q.1 + 1 == 6))).filter (fun q => !(q.1 == 7) && !(q.1 + 1 == 7))) (by decide +kernel) rfl (Nat.le_of_ble_eq_true rfl) rfl rfl ?_
  refine w_aload_n (n := 706) (i := 2) (by decide +kernel) rfl rfl ?_
  obtain ⟨v185, M184, hLM184, hr189, h⟩ := h
  refine w_cV (n := 709) (idx := 186) (cal := 154) (na := 0) (nl := 1) (as := []) (rest := []) hLM182 (by decide +kernel) (by decide +kernel) (at_483) (by decide +kernel) rfl rfl rfl (Nat.le_of_ble_eq_true rfl) rfl hr189 ?_
  refine w_iload (n := 711) (i := 6) (by decide +kernel) rfl rfl ?_
  by_cases c188 : v185 = v180
  · rw [if_pos c188] at h
    refine w_icmp_eq_j (n := 716) (off := 5) (by decide +kernel) (by decide) c188 ?_
    refine w_iload (n := 718) (i := 6) (by decide +kernel) rfl rfl ?_
    by_cases c187 : v180 = 0
    · rw [if_pos c187] at h
      refine w_if_ne_n (n := 721) (off := 15) (by decide +kernel) rfl c187 ?_
      refine w_aload_n (n := 722) (i := 3) (by decide +kernel) rfl rfl ?_
      refine w_iconst (n := 723) (v := 0) (x := 0) (by decide +kernel) rfl (by decide) ?_
      refine w_lald (n := 724) (i := 0) hLM184 (by decide +kernel) (at_497) (an_497) ⟨by decide, by decide⟩ rfl ?_
      refine w_iload (n := 726) (i := 7) (by decide +kernel) rfl rfl ?_
      refine w_i2l (n := 727) (by decide +kernel) rfl ?_
      refine w_lcmp (n := 728) (by decide +kernel) rfl ?_
      by_cases c186 : lg_cmp (ak_L M184 497 0) (v183.toInt64) = 0
      · rw [if_pos c186] at h
        refine w_if_eq_j (n := 733) (off := 5) (by decide +kernel) (by decide) c186 ?_
        refine w_goto (n := 3274) (off := 2541) (by decide +kernel) (by decide) ?_
        exact h
      · rw [if_neg c186] at h
        refine w_if_eq_n (n := 731) (off := 5) (by decide +kernel) rfl c186 ?_
        refine w_iconst (n := 732) (v := 0) (x := 0) (by decide +kernel) rfl (by decide) ?_
        subst h
        exact w_ireturn (by decide +kernel) (by decide +kernel)
    · rw [if_neg c187] at h
      refine w_if_ne_j (n := 733) (off := 15) (by decide +kernel) (by decide) c187 ?_
      refine w_goto (n := 3274) (off := 2541) (by decide +kernel) (by decide) ?_
      exact h
  · rw [if_neg c188] at h
    refine w_icmp_eq_n (n := 714) (off := 5) (by decide +kernel) rfl c188 ?_
    refine w_iconst (n := 715) (v := 0) (x := 0) (by decide +kernel) rfl (by decide) ?_
    subst h
    exact w_ireturn (by decide +kernel) (by decide +kernel)
theorem t_364_736 {X : ak_X} {M : ak_M} {r : ak_O × ak_M} (hL : ab_lay M) (y5 : Int32) (o6 o7 o8 o9 : Option Value) (l2 : List (Nat × Value)) (h : (∃ i192 : Nat, ab_ix (y5 + 1) i192 X.1 ∧ (∃ (v194 : Int32) (M193 : ak_M), ab_lay M193 ∧ rn X 328 [.ref 0, .int (X.2.1 i192), .ref 497] M (.inl (some (.int v194)), M193) ∧ (∃ i195 : Nat, ab_ix (y5 + 1) i195 X.1 ∧ (∃ (v197 : Int32) (M196 : ak_M), ab_lay M196 ∧ rn X 222 [.ref 483, .int (X.2.1 i195)] M193 (.inl (some (.int v197)), M196) ∧ (∃ (v199 : Int32) (M198 : ak_M), ab_lay M198 ∧ rn X 154 [.ref 483] M196 (.inl (some (.int v199)), M198) ∧ (if v199 = v194 then (if v194 = 0 then (if lg_cmp (ak_L M198 497 0) (v197.toInt64) = 0 then sg X 364 (3274, [some (.ref 1000000), some (.ref 0), some (.ref 483), some (.ref 497), some (.ref 498), some (.int y5), some (.int v194), some (.int v197), o8, o9], ((l2).filter (fun q => !(q.1 == 6) && !(q.1 + 1 == 6))).filter (fun q => !(q.1 == 7) && !(q.1 + 1 == 7)), []) M198 r else r = (.inl (some (.int 0)), M198)) else sg X 364 (3274, [some (.ref 1000000), some (.ref 0), some (.ref 483), some (.ref 497), some (.ref 498), some (.int y5), some (.int v194), some (.int v197), o8, o9], ((l2).filter (fun q => !(q.1 == 6) && !(q.1 + 1 == 6))).filter (fun q => !(q.1 == 7) && !(q.1 + 1 == 7)), []) M198 r) else r = (.inl (some (.int 0)), M198)))))))) : sg X 364 (736, [some (.ref 1000000), some (.ref 0), some (.ref 483), some (.ref 497), some (.ref 498), some (.int y5), o6, o7, o8, o9], l2, []) M r := by
  refine w_aload_n (n := 737) (i := 1) (by decide +kernel) rfl rfl ?_
  refine w_aload_n (n := 738) (i := 0) (by decide +kernel) rfl rfl ?_
  refine w_iload (n := 740) (i := 5) (by decide +kernel) rfl rfl ?_
  refine w_iconst (n := 741) (v := 1) (x := 1) (by decide +kernel) rfl (by decide) ?_
  refine w_iadd (n := 742) (by decide +kernel) rfl ?_
  obtain ⟨i192, gi192, h⟩ := h
  refine w_sld (n := 743) hL (by decide +kernel) gi192 rfl ?_
  refine w_aload_n (n := 744) (i := 3) (by decide +kernel) rfl rfl ?_
  obtain ⟨v194, M193, hLM193, hr205, h⟩ := h
  refine w_cS (n := 747) (idx := 199) (cal := 328) (na := 3) (nl := 3) (as := [.ref 0, .int (X.2.1 i192), .ref 497]) (rest := []) (by decide +kernel) (by decide +kernel) rfl rfl rfl (Nat.le_of_ble_eq_true rfl) rfl hr205 ?_
  refine w_istore (n := 749) (i := 6) (l1' := [some (.ref 1000000), some (.ref 0), some (.ref 483), some (.ref 497), some (.ref 498), some (.int y5), some (.int v194), o7, o8, o9]) (l2' := (l2).filter (fun q => !(q.1 == 6) && !(q.1 + 1 == 6))) (by decide +kernel) rfl (Nat.le_of_ble_eq_true rfl) rfl rfl ?_
  refine w_aload_n (n := 750) (i := 2) (by decide +kernel) rfl rfl ?_
  refine w_aload_n (n := 751) (i := 0) (by decide +kernel) rfl rfl ?_
  refine w_iload (n := 753) (i := 5) (by decide +kernel) rfl rfl ?_
  refine w_iconst (n := 754) (v := 1) (x := 1) (by decide +kernel) rfl (by decide) ?_
  refine w_iadd (n := 755) (by decide +kernel) rfl ?_
  obtain ⟨i195, gi195, h⟩ := h
  refine w_sld (n := 756) hLM193 (by decide +kernel) gi195 rfl ?_
  obtain ⟨v197, M196, hLM196, hr204, h⟩ := h
  refine w_cV (n := 759) (idx := 201) (cal := 222) (na := 1) (nl := 2) (as := [.int (X.2.1 i195)]) (rest := []) hLM193 (by decide +kernel) (by decide +kernel) (at_483) (by decide +kernel) rfl rfl rfl (Nat.le_of_ble_eq_true rfl) rfl hr204 ?_
  refine w_istore (n := 761) (i := 7) (l1' := [some (.ref 1000000), some (.ref 0), some (.ref 483), some (.ref 497), some (.ref 498), some (.int y5), some (.int v194), some (.int v197), o8, o9]) (l2' := ((l2).filter (fun q => !(q.1 == 6) && !(q.1 + 1 == 6))).filter (fun q => !(q.1 == 7) && !(q.1 + 1 == 7))) (by decide +kernel) rfl (Nat.le_of_ble_eq_true rfl) rfl rfl ?_
  refine w_aload_n (n := 762) (i := 2) (by decide +kernel) rfl rfl ?_
  obtain ⟨v199, M198, hLM198, hr203, h⟩ := h
  refine w_cV (n := 765) (idx := 186) (cal := 154) (na := 0) (nl := 1) (as := []) (rest := []) hLM196 (by decide +kernel) (by decide +kernel) (at_483) (by decide +kernel) rfl rfl rfl (Nat.le_of_ble_eq_true rfl) rfl hr203 ?_
  refine w_iload (n := 767) (i := 6) (by decide +kernel) rfl rfl ?_
  by_cases c202 : v199 = v194
  · rw [if_pos c202] at h
    refine w_icmp_eq_j (n := 772) (off := 5) (by decide +kernel) (by decide) c202 ?_
    refine w_iload (n := 774) (i := 6) (by decide +kernel) rfl rfl ?_
    by_cases c201 : v194 = 0
    · rw [if_pos c201] at h
      refine w_if_ne_n (n := 777) (off := 15) (by decide +kernel) rfl c201 ?_
      refine w_aload_n (n := 778) (i := 3) (by decide +kernel) rfl rfl ?_
      refine w_iconst (n := 779) (v := 0) (x := 0) (by decide +kernel) rfl (by decide) ?_
      refine w_lald (n := 780) (i := 0) hLM198 (by decide +kernel) (at_497) (an_497) ⟨by decide, by decide⟩ rfl ?_
      refine w_iload (n := 782) (i := 7) (by decide +kernel) rfl rfl ?_
      refine w_i2l (n := 783) (by decide +kernel) rfl ?_
      refine w_lcmp (n := 784) (by decide +kernel) rfl ?_
      by_cases c200 : lg_cmp (ak_L M198 497 0) (v197.toInt64) = 0
      · rw [if_pos c200] at h
        refine w_if_eq_j (n := 789) (off := 5) (by decide +kernel) (by decide) c200 ?_
        refine w_goto (n := 3274) (off := 2485) (by decide +kernel) (by decide) ?_
        exact h
      · rw [if_neg c200] at h
        refine w_if_eq_n (n := 787) (off := 5) (by decide +kernel) rfl c200 ?_
        refine w_iconst (n := 788) (v := 0) (x := 0) (by decide +kernel) rfl (by decide) ?_
        subst h
        exact w_ireturn (by decide +kernel) (by decide +kernel)
    · rw [if_neg c201] at h
      refine w_if_ne_j (n := 789) (off := 15) (by decide +kernel) (by decide) c201 ?_
      refine w_goto (n := 3274) (off := 2485) (by decide +kernel) (by decide) ?_
      exact h
  · rw [if_neg c202] at h
    refine w_icmp_eq_n (n := 770) (off := 5) (by decide +kernel) rfl c202 ?_
    refine w_iconst (n := 771) (v := 0) (x := 0) (by decide +kernel) rfl (by decide) ?_
    subst h
    exact w_ireturn (by decide +kernel) (by decide +kernel)
theorem t_364_792 {X : ak_X} {M : ak_M} {r : ak_O × ak_M} (hL : ab_lay M) (y5 : Int32) (o6 o7 o8 o9 : Option Value) (l2 : List (Nat × Value)) (h : (∃ i206 : Nat, ab_ix (y5 + 1) i206 X.1 ∧ (∃ i207 : Nat, ab_ix (y5 + 2) i207 X.1 ∧ (∃ (v209 : Int32) (M208 : ak_M), ab_lay M208 ∧ rn X 329 [.ref 0, .int (X.2.1 i206), .int (X.2.1 i207), .ref 497] M (.inl (some (.int v209)), M208) ∧ (∃ i210 : Nat, ab_ix (y5 + 1) i210 X.1 ∧ (∃ i211 : Nat, ab_ix (y5 + 2) i211 X.1 ∧ (∃ (v213 : Int32) (M212 : ak_M), ab_lay M212 ∧ rn X 223 [.ref 483, .int (X.2.1 i210), .int (X.2.1 i211)] M208 (.inl (some (.int v213)), M212) ∧ (∃ (v215 : Int32) (M214 : ak_M), ab_lay M214 ∧ rn X 154 [.ref 483] M212 (.inl (some (.int v215)), M214) ∧ (if v215 = v209 then (if v209 = 0 then (if v213 = 0 then (if lg_cmp (ak_L M214 497 0) 0 = 0 then sg X 364 (3274, [some (.ref 1000000), some (.ref 0), some (.ref 483), some (.ref 497), some (.ref 498), some (.int y5), some (.int v209), some (.int v213), o8, o9], ((l2).filter (fun q => !(q.1 == 6) && !(q.1 + 1 == 6))).filter (fun q => !(q.1 == 7) && !(q.1 + 1 == 7)), []) M214 r else r = (.inl (some (.int 0)), M214)) else (if lg_cmp (ak_L M214 497 0) 1 = 0 then sg X 364 (3274, [some (.ref 1000000), some (.ref 0), some (.ref 483), some (.ref 497), some (.ref 498), some (.int y5), some (.int v209), some (.int v213), o8, o9], ((l2).filter (fun q => !(q.1 == 6) && !(q.1 + 1 == 6))).filter (fun q => !(q.1 == 7) && !(q.1 + 1 == 7)), []) M214 r else r = (.inl (some (.int 0)), M214))) else sg X 364 (3274, [some (.ref 1000000), some (.ref 0), some (.ref 483), some (.ref 497), some (.ref 498), some (.int y5), some (.int v209), some (.int v213), o8, o9], ((l2).filter (fun q => !(q.1 == 6) && !(q.1 + 1 == 6))).filter (fun q => !(q.1 == 7) && !(q.1 + 1 == 7)), []) M214 r) else r = (.inl (some (.int 0)), M214)))))))))) : sg X 364 (792, [some (.ref 1000000), some (.ref 0), some (.ref 483), some (.ref 497), some (.ref 498), some (.int y5), o6, o7, o8, o9], l2, []) M r := by
  refine w_aload_n (n := 793) (i := 1) (by decide +kernel) rfl rfl ?_
  refine w_aload_n (n := 794) (i := 0) (by decide +kernel) rfl rfl ?_
  refine w_iload (n := 796) (i := 5) (by decide +kernel) rfl rfl ?_
  refine w_iconst (n := 797) (v := 1) (x := 1) (by decide +kernel) rfl (by decide) ?_
  refine w_iadd (n := 798) (by decide +kernel) rfl ?_
  obtain ⟨i206, gi206, h⟩ := h
  refine w_sld (n := 799) hL (by decide +kernel) gi206 rfl ?_
  refine w_aload_n (n := 800) (i := 0) (by decide +kernel) rfl rfl ?_
  refine w_iload (n := 802) (i := 5) (by decide +kernel) rfl rfl ?_
  refine w_iconst (n := 803) (v := 2) (x := 2) (by decide +kernel) rfl (by decide) ?_
  refine w_iadd (n := 804) (by decide +kernel) rfl ?_
  obtain ⟨i207, gi207, h⟩ := h
  refine w_sld (n := 805) hL (by decide +kernel) gi207 rfl ?_
  refine w_aload_n (n := 806) (i := 3) (by decide +kernel) rfl rfl ?_
  obtain ⟨v209, M208, hLM208, hr223, h⟩ := h
  refine w_cS (n := 809) (idx := 202) (cal := 329) (na := 4) (nl := 4) (as := [.ref 0, .int (X.2.1 i206), .int (X.2.1 i207), .ref 497]) (rest := []) (by decide +kernel) (by decide +kernel) rfl rfl rfl (Nat.le_of_ble_eq_true rfl) rfl hr223 ?_
  refine w_istore (n := 811) (i := 6) (l1' := [some (.ref 1000000), some (.ref 0), some (.ref 483), some (.ref 497), some (.ref 498), some (.int y5), some (.int v209), o7, o8, o9]) (l2' := (l2).filter (fun q => !(q.1 == 6) && !(q.1 + 1 == 6))) (by decide +kernel) rfl (Nat.le_of_ble_eq_true rfl) rfl rfl ?_
  refine w_aload_n (n := 812) (i := 2) (by decide +kernel) rfl rfl ?_
  refine w_aload_n (n := 813) (i := 0) (by decide +kernel) rfl rfl ?_
  refine w_iload (n := 815) (i := 5) (by decide +kernel) rfl rfl ?_
  refine w_iconst (n := 816) (v := 1) (x := 1) (by decide +kernel) rfl (by decide) ?_
  refine w_iadd (n := 817) (by decide +kernel) rfl ?_
  obtain ⟨i210, gi210, h⟩ := h
  refine w_sld (n := 818) hLM208 (by decide +kernel) gi210 rfl ?_
  refine w_aload_n (n := 819) (i := 0) (by decide +kernel) rfl rfl ?_
  refine w_iload (n := 821) (i := 5) (by decide +kernel) rfl rfl ?_
  refine w_iconst (n := 822) (v := 2) (x := 2) (by decide +kernel) rfl (by decide) ?_
  refine w_iadd (n := 823) (by decide +kernel) rfl ?_
  obtain ⟨i211, gi211, h⟩ := h
  refine w_sld (n := 824) hLM208 (by decide +kernel) gi211 rfl ?_
  obtain ⟨v213, M212, hLM212, hr222, h⟩ := h
  refine w_cV (n := 827) (idx := 204) (cal := 223) (na := 2) (nl := 3) (as := [.int (X.2.1 i210), .int (X.2.1 i211)]) (rest := []) hLM208 (by decide +kernel) (by decide +kernel) (at_483) (by decide +kernel) rfl rfl rfl (Nat.le_of_ble_eq_true rfl) rfl hr222 ?_
  refine w_istore (n := 829) (i := 7) (l1' := [some (.ref 1000000), some (.ref 0), some (.ref 483), some (.ref 497), some (.ref 498), some (.int y5), some (.int v209), some (.int v213), o8, o9]) (l2' := ((l2).filter (fun q => !(q.1 == 6) && !(q.1 + 1 == 6))).filter (fun q => !(q.1 == 7) && !(q.1 + 1 == 7))) (by decide +kernel) rfl (Nat.le_of_ble_eq_true rfl) rfl rfl ?_
  refine w_aload_n (n := 830) (i := 2) (by decide +kernel) rfl rfl ?_
  obtain ⟨v215, M214, hLM214, hr221, h⟩ := h
  refine w_cV (n := 833) (idx := 186) (cal := 154) (na := 0) (nl := 1) (as := []) (rest := []) hLM212 (by decide +kernel) (by decide +kernel) (at_483) (by decide +kernel) rfl rfl rfl (Nat.le_of_ble_eq_true rfl) rfl hr221 ?_
  refine w_iload (n := 835) (i := 6) (by decide +kernel) rfl rfl ?_
  by_cases c220 : v215 = v209
  · rw [if_pos c220] at h
    refine w_icmp_eq_j (n := 840) (off := 5) (by decide +kernel) (by decide) c220 ?_
    refine w_iload (n := 842) (i := 6) (by decide +kernel) rfl rfl ?_
    by_cases c219 : v209 = 0
    · rw [if_pos c219] at h
      refine w_if_ne_n (n := 845) (off := 22) (by decide +kernel) rfl c219 ?_
      refine w_aload_n (n := 846) (i := 3) (by decide +kernel) rfl rfl ?_
      refine w_iconst (n := 847) (v := 0) (x := 0) (by decide +kernel) rfl (by decide) ?_
      refine w_lald (n := 848) (i := 0) hLM214 (by decide +kernel) (at_497) (an_497) ⟨by decide, by decide⟩ rfl ?_
      refine w_iload (n := 850) (i := 7) (by decide +kernel) rfl rfl ?_
      by_cases c218 : v213 = 0
      · rw [if_pos c218] at h
        refine w_if_eq_j (n := 857) (off := 7) (by decide +kernel) (by decide) c218 ?_
        refine w_lconst (n := 858) (v := 0) (x := 0) (by decide +kernel) rfl (by decide) ?_
        refine w_lcmp (n := 859) (by decide +kernel) rfl ?_
        by_cases c216 : lg_cmp (ak_L M214 497 0) 0 = 0
        · rw [if_pos c216] at h
          refine w_if_eq_j (n := 864) (off := 5) (by decide +kernel) (by decide) c216 ?_
          refine w_goto (n := 3274) (off := 2410) (by decide +kernel) (by decide) ?_
          exact h
        · rw [if_neg c216] at h
          refine w_if_eq_n (n := 862) (off := 5) (by decide +kernel) rfl c216 ?_
          refine w_iconst (n := 863) (v := 0) (x := 0) (by decide +kernel) rfl (by decide) ?_
          subst h
          exact w_ireturn (by decide +kernel) (by decide +kernel)
      · rw [if_neg c218] at h
        refine w_if_eq_n (n := 853) (off := 7) (by decide +kernel) rfl c218 ?_
        refine w_lconst (n := 854) (v := 1) (x := 1) (by decide +kernel) rfl (by decide) ?_
        refine w_goto (n := 858) (off := 4) (by decide +kernel) (by decide) ?_
        refine w_lcmp (n := 859) (by decide +kernel) rfl ?_
        by_cases c217 : lg_cmp (ak_L M214 497 0) 1 = 0
        · rw [if_pos c217] at h
          refine w_if_eq_j (n := 864) (off := 5) (by decide +kernel) (by decide) c217 ?_
          refine w_goto (n := 3274) (off := 2410) (by decide +kernel) (by decide) ?_
          exact h
        · rw [if_neg c217] at h
          refine w_if_eq_n (n := 862) (off := 5) (by decide +kernel) rfl c217 ?_
          refine w_iconst (n := 863) (v := 0) (x := 0) (by decide +kernel) rfl (by decide) ?_
          subst h
          exact w_ireturn (by decide +kernel) (by decide +kernel)
    · rw [if_neg c219] at h
      refine w_if_ne_j (n := 864) (off := 22) (by decide +kernel) (by decide) c219 ?_
      refine w_goto (n := 3274) (off := 2410) (by decide +kernel) (by decide) ?_
      exact h
  · rw [if_neg c220] at h
    refine w_icmp_eq_n (n := 838) (off := 5) (by decide +kernel) rfl c220 ?_
    refine w_iconst (n := 839) (v := 0) (x := 0) (by decide +kernel) rfl (by decide) ?_
    subst h
    exact w_ireturn (by decide +kernel) (by decide +kernel)
theorem t_364_867 {X : ak_X} {M : ak_M} {r : ak_O × ak_M} (hL : ab_lay M) (y5 : Int32) (o6 o7 o8 o9 : Option Value) (l2 : List (Nat × Value)) (h : (∃ i224 : Nat, ab_ix (y5 + 1) i224 X.1 ∧ (∃ i225 : Nat, ab_ix (y5 + 2) i225 X.1 ∧ (∃ i226 : Nat, ab_ix (y5 + 3) i226 X.1 ∧ (∃ (v228 : Int32) (M227 : ak_M), ab_lay M227 ∧ rn X 330 [.ref 0, .int (X.2.1 i224), .int (X.2.1 i225), .int (X.2.1 i226), .ref 497] M (.inl (some (.int v228)), M227) ∧ (∃ i229 : Nat, ab_ix (y5 + 1) i229 X.1 ∧ (∃ i230 : Nat, ab_ix (y5 + 2) i230 X.1 ∧ (∃ i231 : Nat, ab_ix (y5 + 3) i231 X.1 ∧ (∃ (v233 : Int32) (M232 : ak_M), ab_lay M232 ∧ rn X 224 [.ref 483, .int (X.2.1 i229), .int (X.2.1 i230), .int (X.2.1 i231)] M227 (.inl (some (.int v233)), M232) ∧ (∃ (v235 : Int32) (M234 : ak_M), ab_lay M234 ∧ rn X 154 [.ref 483] M232 (.inl (some (.int v235)), M234) ∧ (if v235 = v228 then (if v228 = 0 then (if lg_cmp (ak_L M234 497 0) (v233.toInt64) = 0 then sg X 364 (3274, [some (.ref 1000000), some (.ref 0), some (.ref 483), some (.ref 497), some (.ref 498), some (.int y5), some (.int v228), some (.int v233), o8, o9], ((l2).filter (fun q => !(q.1 == 6) && !(q.1 + 1 == 6))).filter (fun q => !(q.1 == 7) && !(q.1 + 1 == 7)), []) M234 r else r = (.inl (some (.int 0)), M234)) else sg X 364 (3274, [some (.ref 1000000), some (.ref 0), some (.ref 483), some (.ref 497), some (.ref 498), some (.int y5), some (.int v228), some (.int v233), o8, o9], ((l2).filter (fun q => !(q.1 == 6) && !(q.1 + 1 == 6))).filter (fun q => !(q.1 == 7) && !(q.1 + 1 == 7)), []) M234 r) else r = (.inl (some (.int 0)), M234)))))))))))) : sg X 364 (867, [some (.ref 1000000), some (.ref 0), some (.ref 483), some (.ref 497), some (.ref 498), some (.int y5), o6, o7, o8, o9], l2, []) M r := by
  refine w_aload_n (n := 868) (i := 1) (by decide +kernel) rfl rfl ?_
  refine w_aload_n (n := 869) (i := 0) (by decide +kernel) rfl rfl ?_
  refine w_iload (n := 871) (i := 5) (by decide +kernel) rfl rfl ?_
  refine w_iconst (n := 872) (v := 1) (x := 1) (by decide +kernel) rfl (by decide) ?_
  refine w_iadd (n := 873) (by decide +kernel) rfl ?_
  obtain ⟨i224, gi224, h⟩ := h
  refine w_sld (n := 874) hL (by decide +kernel) gi224 rfl ?_
  refine w_aload_n (n := 875) (i := 0) (by decide +kernel) rfl rfl ?_
  refine w_iload (n := 877) (i := 5) (by decide +kernel) rfl rfl ?_
  refine w_iconst (n := 878) (v := 2) (x := 2) (by decide +kernel) rfl (by decide) ?_
  refine w_iadd (n := 879) (by decide +kernel) rfl ?_
  obtain ⟨i225, gi225, h⟩ := h
  refine w_sld (n := 880) hL (by decide +kernel) gi225 rfl ?_
  refine w_aload_n (n := 881) (i := 0) (by decide +kernel) rfl rfl ?_
  refine w_iload (n := 883) (i := 5) (by decide +kernel) rfl rfl ?_
  refine w_iconst (n := 884) (v := 3) (x := 3) (by decide +kernel) rfl (by decide) ?_
  refine w_iadd (n := 885) (by decide +kernel) rfl ?_
  obtain ⟨i226, gi226, h⟩ := h
  refine w_sld (n := 886) hL (by decide +kernel) gi226 rfl ?_
  refine w_aload_n (n := 887) (i := 3) (by decide +kernel) rfl rfl ?_
  obtain ⟨v228, M227, hLM227, hr241, h⟩ := h
  refine w_cS (n := 890) (idx := 205) (cal := 330) (na := 5) (nl := 5) (as := [.ref 0, .int (X.2.1 i224), .int (X.2.1 i225), .int (X.2.1 i226), .ref 497]) (rest := []) (by decide +kernel) (by decide +kernel) rfl rfl rfl (Nat.le_of_ble_eq_true rfl) rfl hr241 ?_
  refine w_istore (n := 892) (i := 6) (l1' := [some (.ref 1000000), some (.ref 0), some (.ref 483), some (.ref 497), some (.ref 498), some (.int y5), some (.int v228), o7, o8, o9]) (l2' := (l2).filter (fun q => !(q.1 == 6) && !(q.1 + 1 == 6))) (by decide +kernel) rfl (Nat.le_of_ble_eq_true rfl) rfl rfl ?_
  refine w_aload_n (n := 893) (i := 2) (by decide +kernel) rfl rfl ?_
  refine w_aload_n (n := 894) (i := 0) (by decide +kernel) rfl rfl ?_
  refine w_iload (n := 896) (i := 5) (by decide +kernel) rfl rfl ?_
  refine w_iconst (n := 897) (v := 1) (x := 1) (by decide +kernel) rfl (by decide) ?_
  refine w_iadd (n := 898) (by decide +kernel) rfl ?_
  obtain ⟨i229, gi229, h⟩ := h
  refine w_sld (n := 899) hLM227 (by decide +kernel) gi229 rfl ?_
  refine w_aload_n (n := 900) (i := 0) (by decide +kernel) rfl rfl ?_
  refine w_iload (n := 902) (i := 5) (by decide +kernel) rfl rfl ?_
  refine w_iconst (n := 903) (v := 2) (x := 2) (by decide +kernel) rfl (by decide) ?_
  refine w_iadd (n := 904) (by decide +kernel) rfl ?_
  obtain ⟨i230, gi230, h⟩ := h
  refine w_sld (n := 905) hLM227 (by decide +kernel) gi230 rfl ?_
  refine w_aload_n (n := 906) (i := 0) (by decide +kernel) rfl rfl ?_
  refine w_iload (n := 908) (i := 5) (by decide +kernel) rfl rfl ?_
  refine w_iconst (n := 909) (v := 3) (x := 3) (by decide +kernel) rfl (by decide) ?_
  refine w_iadd (n := 910) (by decide +kernel) rfl ?_
  obtain ⟨i231, gi231, h⟩ := h
  refine w_sld (n := 911) hLM227 (by decide +kernel) gi231 rfl ?_
  obtain ⟨v233, M232, hLM232, hr240, h⟩ := h
  refine w_cV (n := 914) (idx := 208) (cal := 224) (na := 3) (nl := 4) (as := [.int (X.2.1 i229), .int (X.2.1 i230), .int (X.2.1 i231)]) (rest := []) hLM227 (by decide +kernel) (by decide +kernel) (at_483) (by decide +kernel) rfl rfl rfl (Nat.le_of_ble_eq_true rfl) rfl hr240 ?_
  refine w_istore (n := 916) (i := 7) (l1' := [some (.ref 1000000), some (.ref 0), some (.ref 483), some (.ref 497), some (.ref 498), some (.int y5), some (.int v228), some (.int v233), o8, o9]) (l2' := ((l2).filter (fun q => !(q.1 == 6) && !(q.1 + 1 == 6))).filter (fun q => !(q.1 == 7) && !(q.1 + 1 == 7))) (by decide +kernel) rfl (Nat.le_of_ble_eq_true rfl) rfl rfl ?_
  refine w_aload_n (n := 917) (i := 2) (by decide +kernel) rfl rfl ?_
  obtain ⟨v235, M234, hLM234, hr239, h⟩ := h
  refine w_cV (n := 920) (idx := 186) (cal := 154) (na := 0) (nl := 1) (as := []) (rest := []) hLM232 (by decide +kernel) (by decide +kernel) (at_483) (by decide +kernel) rfl rfl rfl (Nat.le_of_ble_eq_true rfl) rfl hr239 ?_
  refine w_iload (n := 922) (i := 6) (by decide +kernel) rfl rfl ?_
  by_cases c238 : v235 = v228
  · rw [if_pos c238] at h
    refine w_icmp_eq_j (n := 927) (off := 5) (by decide +kernel) (by decide) c238 ?_
    refine w_iload (n := 929) (i := 6) (by decide +kernel) rfl rfl ?_
    by_cases c237 : v228 = 0
    · rw [if_pos c237] at h
      refine w_if_ne_n (n := 932) (off := 15) (by decide +kernel) rfl c237 ?_
      refine w_aload_n (n := 933) (i := 3) (by decide +kernel) rfl rfl ?_
      refine w_iconst (n := 934) (v := 0) (x := 0) (by decide +kernel) rfl (by decide) ?_
      refine w_lald (n := 935) (i := 0) hLM234 (by decide +kernel) (at_497) (an_497) ⟨by decide, by decide⟩ rfl ?_
      refine w_iload (n := 937) (i := 7) (by decide +kernel) rfl rfl ?_
      refine w_i2l (n := 938) (by decide +kernel) rfl ?_
      refine w_lcmp (n := 939) (by decide +kernel) rfl ?_
      by_cases c236 : lg_cmp (ak_L M234 497 0) (v233.toInt64) = 0
      · rw [if_pos c236] at h
        refine w_if_eq_j (n := 944) (off := 5) (by decide +kernel) (by decide) c236 ?_
        refine w_goto (n := 3274) (off := 2330) (by decide +kernel) (by decide) ?_
        exact h
      · rw [if_neg c236] at h
        refine w_if_eq_n (n := 942) (off := 5) (by decide +kernel) rfl c236 ?_
        refine w_iconst (n := 943) (v := 0) (x := 0) (by decide +kernel) rfl (by decide) ?_
        subst h
        exact w_ireturn (by decide +kernel) (by decide +kernel)
    · rw [if_neg c237] at h
      refine w_if_ne_j (n := 944) (off := 15) (by decide +kernel) (by decide) c237 ?_
      refine w_goto (n := 3274) (off := 2330) (by decide +kernel) (by decide) ?_
      exact h
  · rw [if_neg c238] at h
    refine w_icmp_eq_n (n := 925) (off := 5) (by decide +kernel) rfl c238 ?_
    refine w_iconst (n := 926) (v := 0) (x := 0) (by decide +kernel) rfl (by decide) ?_
    subst h
    exact w_ireturn (by decide +kernel) (by decide +kernel)
theorem t_364_947 {X : ak_X} {M : ak_M} {r : ak_O × ak_M} (hL : ab_lay M) (y5 : Int32) (o6 o7 o8 o9 : Option Value) (l2 : List (Nat × Value)) (h : (∃ i242 : Nat, ab_ix (y5 + 1) i242 X.1 ∧ (∃ (v244 : Int32) (M243 : ak_M), ab_lay M243 ∧ rn X 331 [.ref 0, .int (X.2.1 i242), .ref 497] M (.inl (some (.int v244)), M243) ∧ (∃ i245 : Nat, ab_ix (y5 + 1) i245 X.1 ∧ (∃ (v247 : Int32) (M246 : ak_M), ab_lay M246 ∧ rn X 225 [.ref 483, .int (X.2.1 i245)] M243 (.inl (some (.int v247)), M246) ∧ (∃ (v249 : Int32) (M248 : ak_M), ab_lay M248 ∧ rn X 154 [.ref 483] M246 (.inl (some (.int v249)), M248) ∧ (if v249 = v244 then (if v244 = 0 then (if lg_cmp (ak_L M248 497 0) (v247.toInt64) = 0 then sg X 364 (3274, [some (.ref 1000000), some (.ref 0), some (.ref 483), some (.ref 497), some (.ref 498), some (.int y5), some (.int v244), some (.int v247), o8, o9], ((l2).filter (fun q => !(q.1 == 6) && !(q.1 + 1 == 6))).filter (fun q => !(q.1 == 7) && !(q.1 + 1 == 7)), []) M248 r else r = (.inl (some (.int 0)), M248)) else sg X 364 (3274, [some (.ref 1000000), some (.ref 0), some (.ref 483), some (.ref 497), some (.ref 498), some (.int y5), some (.int v244), some (.int v247), o8, o9], ((l2).filter (fun q => !(q.1 == 6) && !(q.1 + 1 == 6))).filter (fun q => !(q.1 == 7) && !(q.1 + 1 == 7)), []) M248 r) else r = (.inl (some (.int 0)), M248)))))))) : sg X 364 (947, [some (.ref 1000000), some (.ref 0), some (.ref 483), some (.ref 497), some (.ref 498), some (.int y5), o6, o7, o8, o9], l2, []) M r := by
  refine w_aload_n (n := 948) (i := 1) (by decide +kernel) rfl rfl ?_
  refine w_aload_n (n := 949) (i := 0) (by decide +kernel) rfl rfl ?_
  refine w_iload (n := 951) (i := 5) (by decide +kernel) rfl rfl ?_
  refine w_iconst (n := 952) (v := 1) (x := 1) (by decide +kernel) rfl (by decide) ?_
  refine w_iadd (n := 953) (by decide +kernel) rfl ?_
  obtain ⟨i242, gi242, h⟩ := h
  refine w_sld (n := 954) hL (by decide +kernel) gi242 rfl ?_
  refine w_aload_n (n := 955) (i := 3) (by decide +kernel) rfl rfl ?_
  obtain ⟨v244, M243, hLM243, hr255, h⟩ := h
  refine w_cS (n := 958) (idx := 209) (cal := 331) (na := 3) (nl := 3) (as := [.ref 0, .int (X.2.1 i242), .ref 497]) (rest := []) (by decide +kernel) (by decide +kernel) rfl rfl rfl (Nat.le_of_ble_eq_true rfl) rfl hr255 ?_
  refine w_istore (n := 960) (i := 6) (l1' := [some (.ref 1000000), some (.ref 0), some (.ref 483), some (.ref 497), some (.ref 498), some (.int y5), some (.int v244), o7, o8, o9]) (l2' := (l2).filter (fun q => !(q.1 == 6) && !(q.1 + 1 == 6))) (by decide +kernel) rfl (Nat.le_of_ble_eq_true rfl) rfl rfl ?_
  refine w_aload_n (n := 961) (i := 2) (by decide +kernel) rfl rfl ?_
  refine w_aload_n (n := 962) (i := 0) (by decide +kernel) rfl rfl ?_
  refine w_iload (n := 964) (i := 5) (by decide +kernel) rfl rfl ?_
  refine w_iconst (n := 965) (v := 1) (x := 1) (by decide +kernel) rfl (by decide) ?_
  refine w_iadd (n := 966) (by decide +kernel) rfl ?_
  obtain ⟨i245, gi245, h⟩ := h
  refine w_sld (n := 967) hLM243 (by decide +kernel) gi245 rfl ?_
  obtain ⟨v247, M246, hLM246, hr254, h⟩ := h
  refine w_cV (n := 970) (idx := 211) (cal := 225) (na := 1) (nl := 2) (as := [.int (X.2.1 i245)]) (rest := []) hLM243 (by decide +kernel) (by decide +kernel) (at_483) (by decide +kernel) rfl rfl rfl (Nat.le_of_ble_eq_true rfl) rfl hr254 ?_
  refine w_istore (n := 972) (i := 7) (l1' := [some (.ref 1000000), some (.ref 0), some (.ref 483), some (.ref 497), some (.ref 498), some (.int y5), some (.int v244), some (.int v247), o8, o9]) (l2' := ((l2).filter (fun q => !(q.1 == 6) && !(q.1 + 1 == 6))).filter (fun q => !(q.1 == 7) && !(q.1 + 1 == 7))) (by decide +kernel) rfl (Nat.le_of_ble_eq_true rfl) rfl rfl ?_
  refine w_aload_n (n := 973) (i := 2) (by decide +kernel) rfl rfl ?_
  obtain ⟨v249, M248, hLM248, hr253, h⟩ := h
  refine w_cV (n := 976) (idx := 186) (cal := 154) (na := 0) (nl := 1) (as := []) (rest := []) hLM246 (by decide +kernel) (by decide +kernel) (at_483) (by decide +kernel) rfl rfl rfl (Nat.le_of_ble_eq_true rfl) rfl hr253 ?_
  refine w_iload (n := 978) (i := 6) (by decide +kernel) rfl rfl ?_
  by_cases c252 : v249 = v244
  · rw [if_pos c252] at h
    refine w_icmp_eq_j (n := 983) (off := 5) (by decide +kernel) (by decide) c252 ?_
    refine w_iload (n := 985) (i := 6) (by decide +kernel) rfl rfl ?_
    by_cases c251 : v244 = 0
    · rw [if_pos c251] at h
      refine w_if_ne_n (n := 988) (off := 15) (by decide +kernel) rfl c251 ?_
      refine w_aload_n (n := 989) (i := 3) (by decide +kernel) rfl rfl ?_
      refine w_iconst (n := 990) (v := 0) (x := 0) (by decide +kernel) rfl (by decide) ?_
      refine w_lald (n := 991) (i := 0) hLM248 (by decide +kernel) (at_497) (an_497) ⟨by decide, by decide⟩ rfl ?_
      refine w_iload (n := 993) (i := 7) (by decide +kernel) rfl rfl ?_
      refine w_i2l (n := 994) (by decide +kernel) rfl ?_
      refine w_lcmp (n := 995) (by decide +kernel) rfl ?_
      by_cases c250 : lg_cmp (ak_L M248 497 0) (v247.toInt64) = 0
      · rw [if_pos c250] at h
        refine w_if_eq_j (n := 1000) (off := 5) (by decide +kernel) (by decide) c250 ?_
        refine w_goto (n := 3274) (off := 2274) (by decide +kernel) (by decide) ?_
        exact h
      · rw [if_neg c250] at h
        refine w_if_eq_n (n := 998) (off := 5) (by decide +kernel) rfl c250 ?_
        refine w_iconst (n := 999) (v := 0) (x := 0) (by decide +kernel) rfl (by decide) ?_
        subst h
        exact w_ireturn (by decide +kernel) (by decide +kernel)
    · rw [if_neg c251] at h
      refine w_if_ne_j (n := 1000) (off := 15) (by decide +kernel) (by decide) c251 ?_
      refine w_goto (n := 3274) (off := 2274) (by decide +kernel) (by decide) ?_
      exact h
  · rw [if_neg c252] at h
    refine w_icmp_eq_n (n := 981) (off := 5) (by decide +kernel) rfl c252 ?_
    refine w_iconst (n := 982) (v := 0) (x := 0) (by decide +kernel) rfl (by decide) ?_
    subst h
    exact w_ireturn (by decide +kernel) (by decide +kernel)
theorem t_364_1003 {X : ak_X} {M : ak_M} {r : ak_O × ak_M} (hL : ab_lay M) (y5 : Int32) (o6 o7 o8 o9 : Option Value) (l2 : List (Nat × Value)) (h : (∃ i256 : Nat, ab_ix (y5 + 1) i256 X.1 ∧ (∃ (v258 : Int32) (M257 : ak_M), ab_lay M257 ∧ rn X 332 [.ref 0, .int (X.2.1 i256), .ref 497] M (.inl (some (.int v258)), M257) ∧ (∃ i259 : Nat, ab_ix (y5 + 1) i259 X.1 ∧ (∃ (v261 : Int32) (M260 : ak_M), ab_lay M260 ∧ rn X 226 [.ref 483, .int (X.2.1 i259)] M257 (.inl (some (.int v261)), M260) ∧ (∃ (v263 : Int32) (M262 : ak_M), ab_lay M262 ∧ rn X 154 [.ref 483] M260 (.inl (some (.int v263)), M262) ∧ (if v263 = v258 then (if v258 = 0 then (if lg_cmp (ak_L M262 497 0) (v261.toInt64) = 0 then sg X 364 (3274, [some (.ref 1000000), some (.ref 0), some (.ref 483), some (.ref 497), some (.ref 498), some (.int y5), some (.int v258), some (.int v261), o8, o9], ((l2).filter (fun q => !(q.1 == 6) && !(q.1 + 1 == 6))).filter (fun q => !(q.1 == 7) && !(q.1 + 1 == 7)), []) M262 r else r = (.inl (some (.int 0)), M262)) else sg X 364 (3274, [some (.ref 1000000), some (.ref 0), some (.ref 483), some (.ref 497), some (.ref 498), some (.int y5), some (.int v258), some (.int v261), o8, o9], ((l2).filter (fun q => !(q.1 == 6) && !(q.1 + 1 == 6))).filter (fun q => !(q.1 == 7) && !(q.1 + 1 == 7)), []) M262 r) else r = (.inl (some (.int 0)), M262)))))))) : sg X 364 (1003, [some (.ref 1000000), some (.ref 0), some (.ref 483), some (.ref 497), some (.ref 498), some (.int y5), o6, o7, o8, o9], l2, []) M r := by
  refine w_aload_n (n := 1004) (i := 1) (by decide +kernel) rfl rfl ?_
  refine w_aload_n (n := 1005) (i := 0) (by decide +kernel) rfl rfl ?_
  refine w_iload (n := 1007) (i := 5) (by decide +kernel) rfl rfl ?_
  refine w_iconst (n := 1008) (v := 1) (x := 1) (by decide +kernel) rfl (by decide) ?_
  refine w_iadd (n := 1009) (by decide +kernel) rfl ?_
  obtain ⟨i256, gi256, h⟩ := h
  refine w_sld (n := 1010) hL (by decide +kernel) gi256 rfl ?_
  refine w_aload_n (n := 1011) (i := 3) (by decide +kernel) rfl rfl ?_
  obtain ⟨v258, M257, hLM257, hr269, h⟩ := h
  refine w_cS (n := 1014) (idx := 212) (cal := 332) (na := 3) (nl := 3) (as := [.ref 0, .int (X.2.1 i256), .ref 497]) (rest := []) (by decide +kernel) (by decide +kernel) rfl rfl rfl (Nat.le_of_ble_eq_true rfl) rfl hr269 ?_
  refine w_istore (n := 1016) (i := 6) (l1' := [some (.ref 1000000), some (.ref 0), some (.ref 483), some (.ref 497), some (.ref 498), some (.int y5), some (.int v258), o7, o8, o9]) (l2' := (l2).filter (fun q => !(q.1 == 6) && !(q.1 + 1 == 6))) (by decide +kernel) rfl (Nat.le_of_ble_eq_true rfl) rfl rfl ?_
  refine w_aload_n (n := 1017) (i := 2) (by decide +kernel) rfl rfl ?_
  refine w_aload_n (n := 1018) (i := 0) (by decide +kernel) rfl rfl ?_
  refine w_iload (n := 1020) (i := 5) (by decide +kernel) rfl rfl ?_
  refine w_iconst (n := 1021) (v := 1) (x := 1) (by decide +kernel) rfl (by decide) ?_
  refine w_iadd (n := 1022) (by decide +kernel) rfl ?_
  obtain ⟨i259, gi259, h⟩ := h
  refine w_sld (n := 1023) hLM257 (by decide +kernel) gi259 rfl ?_
  obtain ⟨v261, M260, hLM260, hr268, h⟩ := h
  refine w_cV (n := 1026) (idx := 214) (cal := 226) (na := 1) (nl := 2) (as := [.int (X.2.1 i259)]) (rest := []) hLM257 (by decide +kernel) (by decide +kernel) (at_483) (by decide +kernel) rfl rfl rfl (Nat.le_of_ble_eq_true rfl) rfl hr268 ?_
  refine w_istore (n := 1028) (i := 7) (l1' := [some (.ref 1000000), some (.ref 0), some (.ref 483), some (.ref 497), some (.ref 498), some (.int y5), some (.int v258), some (.int v261), o8, o9]) (l2' := ((l2).filter (fun q => !(q.1 == 6) && !(q.1 + 1 == 6))).filter (fun q => !(q.1 == 7) && !(q.1 + 1 == 7))) (by decide +kernel) rfl (Nat.le_of_ble_eq_true rfl) rfl rfl ?_
  refine w_aload_n (n := 1029) (i := 2) (by decide +kernel) rfl rfl ?_
  obtain ⟨v263, M262, hLM262, hr267, h⟩ := h
  refine w_cV (n := 1032) (idx := 186) (cal := 154) (na := 0) (nl := 1) (as := []) (rest := []) hLM260 (by decide +kernel) (by decide +kernel) (at_483) (by decide +kernel) rfl rfl rfl (Nat.le_of_ble_eq_true rfl) rfl hr267 ?_
  refine w_iload (n := 1034) (i := 6) (by decide +kernel) rfl rfl ?_
  by_cases c266 : v263 = v258
  · rw [if_pos c266] at h
    refine w_icmp_eq_j (n := 1039) (off := 5) (by decide +kernel) (by decide) c266 ?_
    refine w_iload (n := 1041) (i := 6) (by decide +kernel) rfl rfl ?_
    by_cases c265 : v258 = 0
    · rw [if_pos c265] at h
      refine w_if_ne_n (n := 1044) (off := 15) (by decide +kernel) rfl c265 ?_
      refine w_aload_n (n := 1045) (i := 3) (by decide +kernel) rfl rfl ?_
      refine w_iconst (n := 1046) (v := 0) (x := 0) (by decide +kernel) rfl (by decide) ?_
      refine w_lald (n := 1047) (i := 0) hLM262 (by decide +kernel) (at_497) (an_497) ⟨by decide, by decide⟩ rfl ?_
      refine w_iload (n := 1049) (i := 7) (by decide +kernel) rfl rfl ?_
      refine w_i2l (n := 1050) (by decide +kernel) rfl ?_
      refine w_lcmp (n := 1051) (by decide +kernel) rfl ?_
      by_cases c264 : lg_cmp (ak_L M262 497 0) (v261.toInt64) = 0
      · rw [if_pos c264] at h
        refine w_if_eq_j (n := 1056) (off := 5) (by decide +kernel) (by decide) c264 ?_
        refine w_goto (n := 3274) (off := 2218) (by decide +kernel) (by decide) ?_
        exact h
      · rw [if_neg c264] at h
        refine w_if_eq_n (n := 1054) (off := 5) (by decide +kernel) rfl c264 ?_
        refine w_iconst (n := 1055) (v := 0) (x := 0) (by decide +kernel) rfl (by decide) ?_
        subst h
        exact w_ireturn (by decide +kernel) (by decide +kernel)
    · rw [if_neg c265] at h
      refine w_if_ne_j (n := 1056) (off := 15) (by decide +kernel) (by decide) c265 ?_
      refine w_goto (n := 3274) (off := 2218) (by decide +kernel) (by decide) ?_
      exact h
  · rw [if_neg c266] at h
    refine w_icmp_eq_n (n := 1037) (off := 5) (by decide +kernel) rfl c266 ?_
    refine w_iconst (n := 1038) (v := 0) (x := 0) (by decide +kernel) rfl (by decide) ?_
    subst h
    exact w_ireturn (by decide +kernel) (by decide +kernel)
theorem t_364_1059 {X : ak_X} {M : ak_M} {r : ak_O × ak_M} (hL : ab_lay M) (y5 : Int32) (o6 o7 o8 o9 : Option Value) (l2 : List (Nat × Value)) (h : (∃ i270 : Nat, ab_ix (y5 + 1) i270 X.1 ∧ (∃ i271 : Nat, ab_ix (y5 + 2) i271 X.1 ∧ (∃ (v273 : Int32) (M272 : ak_M), ab_lay M272 ∧ rn X 333 [.ref 0, .int (X.2.1 i270), .int (X.2.1 i271), .ref 497] M (.inl (some (.int v273)), M272) ∧ (∃ i274 : Nat, ab_ix (y5 + 1) i274 X.1 ∧ (∃ i275 : Nat, ab_ix (y5 + 2) i275 X.1 ∧ (∃ (v277 : Int32) (M276 : ak_M), ab_lay M276 ∧ rn X 227 [.ref 483, .int (X.2.1 i274), .int (X.2.1 i275)] M272 (.inl (some (.int v277)), M276) ∧ (∃ (v279 : Int32) (M278 : ak_M), ab_lay M278 ∧ rn X 154 [.ref 483] M276 (.inl (some (.int v279)), M278) ∧ (if v279 = v273 then (if v273 = 0 then (if lg_cmp (ak_L M278 497 0) (v277.toInt64) = 0 then sg X 364 (3274, [some (.ref 1000000), some (.ref 0), some (.ref 483), some (.ref 497), some (.ref 498), some (.int y5), some (.int v273), some (.int v277), o8, o9], ((l2).filter (fun q => !(q.1 == 6) && !(q.1 + 1 == 6))).filter (fun q => !(q.1 == 7) && !(q.1 + 1 == 7)), []) M278 r else r = (.inl (some (.int 0)), M278)) else sg X 364 (3274, [some (.ref 1000000), some (.ref 0), some (.ref 483), some (.ref 497), some (.ref 498), some (.int y5), some (.int v273), some (.int v277), o8, o9], ((l2).filter (fun q => !(q.1 == 6) && !(q.1 + 1 == 6))).filter (fun q => !(q.1 == 7) && !(q.1 + 1 == 7)), []) M278 r) else r = (.inl (some (.int 0)), M278)))))))))) : sg X 364 (1059, [some (.ref 1000000), some (.ref 0), some (.ref 483), some (.ref 497), some (.ref 498), some (.int y5), o6, o7, o8, o9], l2, []) M r := by
  refine w_aload_n (n := 1060) (i := 1) (by decide +kernel) rfl rfl ?_
  refine w_aload_n (n := 1061) (i := 0) (by decide +kernel) rfl rfl ?_
  refine w_iload (n := 1063) (i := 5) (by decide +kernel) rfl rfl ?_
  refine w_iconst (n := 1064) (v := 1) (x := 1) (by decide +kernel) rfl (by decide) ?_
  refine w_iadd (n := 1065) (by decide +kernel) rfl ?_
  obtain ⟨i270, gi270, h⟩ := h
  refine w_sld (n := 1066) hL (by decide +kernel) gi270 rfl ?_
  refine w_aload_n (n := 1067) (i := 0) (by decide +kernel) rfl rfl ?_
  refine w_iload (n := 1069) (i := 5) (by decide +kernel) rfl rfl ?_
  refine w_iconst (n := 1070) (v := 2) (x := 2) (by decide +kernel) rfl (by decide) ?_
  refine w_iadd (n := 1071) (by decide +kernel) rfl ?_
  obtain ⟨i271, gi271, h⟩ := h
  refine w_sld (n := 1072) hL (by decide +kernel) gi271 rfl ?_
  refine w_aload_n (n := 1073) (i := 3) (by decide +kernel) rfl rfl ?_
  obtain ⟨v273, M272, hLM272, hr285, h⟩ := h
  refine w_cS (n := 1076) (idx := 215) (cal := 333) (na := 4) (nl := 4) (as := [.ref 0, .int (X.2.1 i270), .int (X.2.1 i271), .ref 497]) (rest := []) (by decide +kernel) (by decide +kernel) rfl rfl rfl (Nat.le_of_ble_eq_true rfl) rfl hr285 ?_
  refine w_istore (n := 1078) (i := 6) (l1' := [some (.ref 1000000), some (.ref 0), some (.ref 483), some (.ref 497), some (.ref 498), some (.int y5), some (.int v273), o7, o8, o9]) (l2' := (l2).filter (fun q => !(q.1 == 6) && !(q.1 + 1 == 6))) (by decide +kernel) rfl (Nat.le_of_ble_eq_true rfl) rfl rfl ?_
  refine w_aload_n (n := 1079) (i := 2) (by decide +kernel) rfl rfl ?_
  refine w_aload_n (n := 1080) (i := 0) (by decide +kernel) rfl rfl ?_
  refine w_iload (n := 1082) (i := 5) (by decide +kernel) rfl rfl ?_
  refine w_iconst (n := 1083) (v := 1) (x := 1) (by decide +kernel) rfl (by decide) ?_
  refine w_iadd (n := 1084) (by decide +kernel) rfl ?_
  obtain ⟨i274, gi274, h⟩ := h
  refine w_sld (n := 1085) hLM272 (by decide +kernel) gi274 rfl ?_
  refine w_aload_n (n := 1086) (i := 0) (by decide +kernel) rfl rfl ?_
  refine w_iload (n := 1088) (i := 5) (by decide +kernel) rfl rfl ?_
  refine w_iconst (n := 1089) (v := 2) (x := 2) (by decide +kernel) rfl (by decide) ?_
  refine w_iadd (n := 1090) (by decide +kernel) rfl ?_
  obtain ⟨i275, gi275, h⟩ := h
  refine w_sld (n := 1091) hLM272 (by decide +kernel) gi275 rfl ?_
  obtain ⟨v277, M276, hLM276, hr284, h⟩ := h
  refine w_cV (n := 1094) (idx := 217) (cal := 227) (na := 2) (nl := 3) (as := [.int (X.2.1 i274), .int (X.2.1 i275)]) (rest := []) hLM272 (by decide +kernel) (by decide +kernel) (at_483) (by decide +kernel) rfl rfl rfl (Nat.le_of_ble_eq_true rfl) rfl hr284 ?_
  refine w_istore (n := 1096) (i := 7) (l1' := [some (.ref 1000000), some (.ref 0), some (.ref 483), some (.ref 497), some (.ref 498), some (.int y5), some (.int v273), some (.int v277), o8, o9]) (l2' := ((l2).filter (fun q => !(q.1 == 6) && !(q.1 + 1 == 6))).filter (fun q => !(q.1 == 7) && !(q.1 + 1 == 7))) (by decide +kernel) rfl (Nat.le_of_ble_eq_true rfl) rfl rfl ?_
  refine w_aload_n (n := 1097) (i := 2) (by decide +kernel) rfl rfl ?_
  obtain ⟨v279, M278, hLM278, hr283, h⟩ := h
  refine w_cV (n := 1100) (idx := 186) (cal := 154) (na := 0) (nl := 1) (as := []) (rest := []) hLM276 (by decide +kernel) (by decide +kernel) (at_483) (by decide +kernel) rfl rfl rfl (Nat.le_of_ble_eq_true rfl) rfl hr283 ?_
  refine w_iload (n := 1102) (i := 6) (by decide +kernel) rfl rfl ?_
  by_cases c282 : v279 = v273
  · rw [if_pos c282] at h
    refine w_icmp_eq_j (n := 1107) (off := 5) (by decide +kernel) (by decide) c282 ?_
    refine w_iload (n := 1109) (i := 6) (by decide +kernel) rfl rfl ?_
    by_cases c281 : v273 = 0
    · rw [if_pos c281] at h
      refine w_if_ne_n (n := 1112) (off := 15) (by decide +kernel) rfl c281 ?_
      refine w_aload_n (n := 1113) (i := 3) (by decide +kernel) rfl rfl ?_
      refine w_iconst (n := 1114) (v := 0) (x := 0) (by decide +kernel) rfl (by decide) ?_
      refine w_lald (n := 1115) (i := 0) hLM278 (by decide +kernel) (at_497) (an_497) ⟨by decide, by decide⟩ rfl ?_
      refine w_iload (n := 1117) (i := 7) (by decide +kernel) rfl rfl ?_
      refine w_i2l (n := 1118) (by decide +kernel) rfl ?_
      refine w_lcmp (n := 1119) (by decide +kernel) rfl ?_
      by_cases c280 : lg_cmp (ak_L M278 497 0) (v277.toInt64) = 0
      · rw [if_pos c280] at h
        refine w_if_eq_j (n := 1124) (off := 5) (by decide +kernel) (by decide) c280 ?_
        refine w_goto (n := 3274) (off := 2150) (by decide +kernel) (by decide) ?_
        exact h
      · rw [if_neg c280] at h
        refine w_if_eq_n (n := 1122) (off := 5) (by decide +kernel) rfl c280 ?_
        refine w_iconst (n := 1123) (v := 0) (x := 0) (by decide +kernel) rfl (by decide) ?_
        subst h
        exact w_ireturn (by decide +kernel) (by decide +kernel)
    · rw [if_neg c281] at h
      refine w_if_ne_j (n := 1124) (off := 15) (by decide +kernel) (by decide) c281 ?_
      refine w_goto (n := 3274) (off := 2150) (by decide +kernel) (by decide) ?_
      exact h
  · rw [if_neg c282] at h
    refine w_icmp_eq_n (n := 1105) (off := 5) (by decide +kernel) rfl c282 ?_
    refine w_iconst (n := 1106) (v := 0) (x := 0) (by decide +kernel) rfl (by decide) ?_
    subst h
    exact w_ireturn (by decide +kernel) (by decide +kernel)
theorem t_364_1127 {X : ak_X} {M : ak_M} {r : ak_O × ak_M} (hL : ab_lay M) (y5 : Int32) (o6 o7 o8 o9 : Option Value) (l2 : List (Nat × Value)) (h : (∃ (v287 : Int32) (M286 : ak_M), ab_lay M286 ∧ rn X 105 [.ref 0] M (.inl (some (.int v287)), M286) ∧ (∃ (v289 : Int32) (M288 : ak_M), ab_lay M288 ∧ rn X 228 [.ref 483] M286 (.inl (some (.int v289)), M288) ∧ (if v287 = v289 then sg X 364 (3274, [some (.ref 1000000), some (.ref 0), some (.ref 483), some (.ref 497), some (.ref 498), some (.int y5), o6, o7, o8, o9], l2, []) M288 r else r = (.inl (some (.int 0)), M288))))) : sg X 364 (1127, [some (.ref 1000000), some (.ref 0), some (.ref 483), some (.ref 497), some (.ref 498), some (.int y5), o6, o7, o8, o9], l2, []) M r := by
  refine w_aload_n (n := 1128) (i := 1) (by decide +kernel) rfl rfl ?_
  obtain ⟨v287, M286, hLM286, hr292, h⟩ := h
  refine w_cV (n := 1131) (idx := 218) (cal := 105) (na := 0) (nl := 1) (as := []) (rest := []) hL (by decide +kernel) (by decide +kernel) (at_0) (by decide +kernel) rfl rfl rfl (Nat.le_of_ble_eq_true rfl) rfl hr292 ?_
  refine w_aload_n (n := 1132) (i := 2) (by decide +kernel) rfl rfl ?_
  obtain ⟨v289, M288, hLM288, hr291, h⟩ := h
  refine w_cV (n := 1135) (idx := 221) (cal := 228) (na := 0) (nl := 1) (as := []) (rest := [.int v287]) hLM286 (by decide +kernel) (by decide +kernel) (at_483) (by decide +kernel) rfl rfl rfl (Nat.le_of_ble_eq_true rfl) rfl hr291 ?_
  by_cases c290 : v287 = v289
  · rw [if_pos c290] at h
    refine w_icmp_eq_j (n := 3274) (off := 2139) (by decide +kernel) (by decide) c290 ?_
    exact h
  · rw [if_neg c290] at h
    refine w_icmp_eq_n (n := 1138) (off := 2139) (by decide +kernel) rfl c290 ?_
    refine w_iconst (n := 1139) (v := 0) (x := 0) (by decide +kernel) rfl (by decide) ?_
    subst h
    exact w_ireturn (by decide +kernel) (by decide +kernel)
theorem t_364_1140 {X : ak_X} {M : ak_M} {r : ak_O × ak_M} (hL : ab_lay M) (y5 : Int32) (o6 o7 o8 o9 : Option Value) (l2 : List (Nat × Value)) (h : (∃ (v294 : Int32) (M293 : ak_M), ab_lay M293 ∧ rn X 106 [.ref 0] M (.inl (some (.int v294)), M293) ∧ (∃ (v296 : Int32) (M295 : ak_M), ab_lay M295 ∧ rn X 230 [.ref 483] M293 (.inl (some (.int v296)), M295) ∧ (if v294 = v296 then sg X 364 (3274, [some (.ref 1000000), some (.ref 0), some (.ref 483), some (.ref 497), some (.ref 498), some (.int y5), o6, o7, o8, o9], l2, []) M295 r else r = (.inl (some (.int 0)), M295))))) : sg X 364 (1140, [some (.ref 1000000), some (.ref 0), some (.ref 483), some (.ref 497), some (.ref 498), some (.int y5), o6, o7, o8, o9], l2, []) M r := by
  refine w_aload_n (n := 1141) (i := 1) (by decide +kernel) rfl rfl ?_
  obtain ⟨v294, M293, hLM293, hr299, h⟩ := h
  refine w_cV (n := 1144) (idx := 222) (cal := 106) (na := 0) (nl := 1) (as := []) (rest := []) hL (by decide +kernel) (by decide +kernel) (at_0) (by decide +kernel) rfl rfl rfl (Nat.le_of_ble_eq_true rfl) rfl hr299 ?_
  refine w_aload_n (n := 1145) (i := 2) (by decide +kernel) rfl rfl ?_
  obtain ⟨v296, M295, hLM295, hr298, h⟩ := h
  refine w_cV (n := 1148) (idx := 225) (cal := 230) (na := 0) (nl := 1) (as := []) (rest := [.int v294]) hLM293 (by decide +kernel) (by decide +kernel) (at_483) (by decide +kernel) rfl rfl rfl (Nat.le_of_ble_eq_true rfl) rfl hr298 ?_
  by_cases c297 : v294 = v296
  · rw [if_pos c297] at h
    refine w_icmp_eq_j (n := 3274) (off := 2126) (by decide +kernel) (by decide) c297 ?_
    exact h
  · rw [if_neg c297] at h
    refine w_icmp_eq_n (n := 1151) (off := 2126) (by decide +kernel) rfl c297 ?_
    refine w_iconst (n := 1152) (v := 0) (x := 0) (by decide +kernel) rfl (by decide) ?_
    subst h
    exact w_ireturn (by decide +kernel) (by decide +kernel)
theorem t_364_1153 {X : ak_X} {M : ak_M} {r : ak_O × ak_M} (hL : ab_lay M) (y5 : Int32) (o6 o7 o8 o9 : Option Value) (l2 : List (Nat × Value)) (h : (∃ (v301 : Int32) (M300 : ak_M), ab_lay M300 ∧ rn X 107 [.ref 0] M (.inl (some (.int v301)), M300) ∧ (∃ (v303 : Int32) (M302 : ak_M), ab_lay M302 ∧ rn X 231 [.ref 483] M300 (.inl (some (.int v303)), M302) ∧ (if v301 = v303 then sg X 364 (3274, [some (.ref 1000000), some (.ref 0), some (.ref 483), some (.ref 497), some (.ref 498), some (.int y5), o6, o7, o8, o9], l2, []) M302 r else r = (.inl (some (.int 0)), M302))))) : sg X 364 (1153, [some (.ref 1000000), some (.ref 0), some (.ref 483), some (.ref 497), some (.ref 498), some (.int y5), o6, o7, o8, o9], l2, []) M r := by
  refine w_aload_n (n := 1154) (i := 1) (by decide +kernel) rfl rfl ?_
  obtain ⟨v301, M300, hLM300, hr306, h⟩ := h
  refine w_cV (n := 1157) (idx := 226) (cal := 107) (na := 0) (nl := 1) (as := []) (rest := []) hL (by decide +kernel) (by decide +kernel) (at_0) (by decide +kernel) rfl rfl rfl (Nat.le_of_ble_eq_true rfl) rfl hr306 ?_
  refine w_aload_n (n := 1158) (i := 2) (by decide +kernel) rfl rfl ?_
  obtain ⟨v303, M302, hLM302, hr305, h⟩ := h
  refine w_cV (n := 1161) (idx := 229) (cal := 231) (na := 0) (nl := 1) (as := []) (rest := [.int v301]) hLM300 (by decide +kernel) (by decide +kernel) (at_483) (by decide +kernel) rfl rfl rfl (Nat.le_of_ble_eq_true rfl) rfl hr305 ?_
  by_cases c304 : v301 = v303
  · rw [if_pos c304] at h
    refine w_icmp_eq_j (n := 3274) (off := 2113) (by decide +kernel) (by decide) c304 ?_
    exact h
  · rw [if_neg c304] at h
    refine w_icmp_eq_n (n := 1164) (off := 2113) (by decide +kernel) rfl c304 ?_
    refine w_iconst (n := 1165) (v := 0) (x := 0) (by decide +kernel) rfl (by decide) ?_
    subst h
    exact w_ireturn (by decide +kernel) (by decide +kernel)
theorem t_364_1166 {X : ak_X} {M : ak_M} {r : ak_O × ak_M} (hL : ab_lay M) (y5 : Int32) (o6 o7 o8 o9 : Option Value) (l2 : List (Nat × Value)) (h : (∃ i307 : Nat, ab_ix (y5 + 1) i307 X.1 ∧ (∃ i308 : Nat, ab_ix (y5 + 2) i308 X.1 ∧ (∃ i309 : Nat, ab_ix (y5 + 3) i309 X.1 ∧ (∃ (v311 : Int32) (M310 : ak_M), ab_lay M310 ∧ rn X 334 [.ref 0, .int (X.2.1 i307), .int (X.2.1 i308), .int (X.2.1 i309), .ref 497] M (.inl (some (.int v311)), M310) ∧ (∃ i312 : Nat, ab_ix (y5 + 1) i312 X.1 ∧ (∃ i313 : Nat, ab_ix (y5 + 2) i313 X.1 ∧ (∃ i314 : Nat, ab_ix (y5 + 3) i314 X.1 ∧ (∃ (v316 : Int32) (M315 : ak_M), ab_lay M315 ∧ rn X 233 [.ref 483, .int (X.2.1 i312), .int (X.2.1 i313), .int (X.2.1 i314)] M310 (.inl (some (.int v316)), M315) ∧ (∃ (v318 : Int32) (M317 : ak_M), ab_lay M317 ∧ rn X 154 [.ref 483] M315 (.inl (some (.int v318)), M317) ∧ (if v318 = v311 then (if v311 = 0 then (if lg_cmp (ak_L M317 497 0) (v316.toInt64) = 0 then sg X 364 (3274, [some (.ref 1000000), some (.ref 0), some (.ref 483), some (.ref 497), some (.ref 498), some (.int y5), some (.int v311), some (.int v316), o8, o9], ((l2).filter (fun q => !(q.1 == 6) && !(q.1 + 1 == 6))).filter (fun q => !(q.1 == 7) && !(q.1 + 1 == 7)), []) M317 r else r = (.inl (some (.int 0)), M317)) else sg X 364 (3274, [some (.ref 1000000), some (.ref 0), some (.ref 483), some (.ref 497), some (.ref 498), some (.int y5), some (.int v311), some (.int v316), o8, o9], ((l2).filter (fun q => !(q.1 == 6) && !(q.1 + 1 == 6))).filter (fun q => !(q.1 == 7) && !(q.1 + 1 == 7)), []) M317 r) else r = (.inl (some (.int 0)), M317)))))))))))) : sg X 364 (1166, [some (.ref 1000000), some (.ref 0), some (.ref 483), some (.ref 497), some (.ref 498), some (.int y5), o6, o7, o8, o9], l2, []) M r := by
  refine w_aload_n (n := 1167) (i := 1) (by decide +kernel) rfl rfl ?_
  refine w_aload_n (n := 1168) (i := 0) (by decide +kernel) rfl rfl ?_
  refine w_iload (n := 1170) (i := 5) (by decide +kernel) rfl rfl ?_
  refine w_iconst (n := 1171) (v := 1) (x := 1) (by decide +kernel) rfl (by decide) ?_
  refine w_iadd (n := 1172) (by decide +kernel) rfl ?_
  obtain ⟨i307, gi307, h⟩ := h
  refine w_sld (n := 1173) hL (by decide +kernel) gi307 rfl ?_
  refine w_aload_n (n := 1174) (i := 0) (by decide +kernel) rfl rfl ?_
  refine w_iload (n := 1176) (i := 5) (by decide +kernel) rfl rfl ?_
  refine w_iconst (n := 1177) (v := 2) (x := 2) (by decide +kernel) rfl (by decide) ?_
  refine w_iadd (n := 1178) (by decide +kernel) rfl ?_
  obtain ⟨i308, gi308, h⟩ := h
  refine w_sld (n := 1179) hL (by decide +kernel) gi308 rfl ?_
  refine w_aload_n (n := 1180) (i := 0) (by decide +kernel) rfl rfl ?_
  refine w_iload (n := 1182) (i := 5) (by decide +kernel) rfl rfl ?_
  refine w_iconst (n := 1183) (v := 3) (x := 3) (by decide +kernel) rfl (by decide) ?_
  refine w_iadd (n := 1184) (by decide +kernel) rfl ?_
  obtain ⟨i309, gi309, h⟩ := h
  refine w_sld (n := 1185) hL (by decide +kernel) gi309 rfl ?_
  refine w_aload_n (n := 1186) (i := 3) (by decide +kernel) rfl rfl ?_
  obtain ⟨v311, M310, hLM310, hr324, h⟩ := h
  refine w_cS (n := 1189) (idx := 230) (cal := 334) (na := 5) (nl := 5) (as := [.ref 0, .int (X.2.1 i307), .int (X.2.1 i308), .int (X.2.1 i309), .ref 497]) (rest := []) (by decide +kernel) (by decide +kernel) rfl rfl rfl (Nat.le_of_ble_eq_true rfl) rfl hr324 ?_
  refine w_istore (n := 1191) (i := 6) (l1' := [some (.ref 1000000), some (.ref 0), some (.ref 483), some (.ref 497), some (.ref 498), some (.int y5), some (.int v311), o7, o8, o9]) (l2' := (l2).filter (fun q => !(q.1 == 6) && !(q.1 + 1 == 6))) (by decide +kernel) rfl (Nat.le_of_ble_eq_true rfl) rfl rfl ?_
  refine w_aload_n (n := 1192) (i := 2) (by decide +kernel) rfl rfl ?_
  refine w_aload_n (n := 1193) (i := 0) (by decide +kernel) rfl rfl ?_
  refine w_iload (n := 1195) (i := 5) (by decide +kernel) rfl rfl ?_
  refine w_iconst (n := 1196) (v := 1) (x := 1) (by decide +kernel) rfl (by decide) ?_
  refine w_iadd (n := 1197) (by decide +kernel) rfl ?_
  obtain ⟨i312, gi312, h⟩ := h
  refine w_sld (n := 1198) hLM310 (by decide +kernel) gi312 rfl ?_
  refine w_aload_n (n := 1199) (i := 0) (by decide +kernel) rfl rfl ?_
  refine w_iload (n := 1201) (i := 5) (by decide +kernel) rfl rfl ?_
  refine w_iconst (n := 1202) (v := 2) (x := 2) (by decide +kernel) rfl (by decide) ?_
  refine w_iadd (n := 1203) (by decide +kernel) rfl ?_
  obtain ⟨i313, gi313, h⟩ := h
  refine w_sld (n := 1204) hLM310 (by decide +kernel) gi313 rfl ?_
  refine w_aload_n (n := 1205) (i := 0) (by decide +kernel) rfl rfl ?_
  refine w_iload (n := 1207) (i := 5) (by decide +kernel) rfl rfl ?_
  refine w_iconst (n := 1208) (v := 3) (x := 3) (by decide +kernel) rfl (by decide) ?_
  refine w_iadd (n := 1209) (by decide +kernel) rfl ?_
  obtain ⟨i314, gi314, h⟩ := h
  refine w_sld (n := 1210) hLM310 (by decide +kernel) gi314 rfl ?_
  obtain ⟨v316, M315, hLM315, hr323, h⟩ := h
  refine w_cV (n := 1213) (idx := 232) (cal := 233) (na := 3) (nl := 4) (as := [.int (X.2.1 i312), .int (X.2.1 i313), .int (X.2.1 i314)]) (rest := []) hLM310 (by decide +kernel) (by decide +kernel) (at_483) (by decide +kernel) rfl rfl rfl (Nat.le_of_ble_eq_true rfl) rfl hr323 ?_
  refine w_istore (n := 1215) (i := 7) (l1' := [some (.ref 1000000), some (.ref 0), some (.ref 483), some (.ref 497), some (.ref 498), some (.int y5), some (.int v311), some (.int v316), o8, o9]) (l2' := ((l2).filter (fun q => !(q.1 == 6) && !(q.1 + 1 == 6))).filter (fun q => !(q.1 == 7) && !(q.1 + 1 == 7))) (by decide +kernel) rfl (Nat.le_of_ble_eq_true rfl) rfl rfl ?_
  refine w_aload_n (n := 1216) (i := 2) (by decide +kernel) rfl rfl ?_
  obtain ⟨v318, M317, hLM317, hr322, h⟩ := h
  refine w_cV (n := 1219) (idx := 186) (cal := 154) (na := 0) (nl := 1) (as := []) (rest := []) hLM315 (by decide +kernel) (by decide +kernel) (at_483) (by decide +kernel) rfl rfl rfl (Nat.le_of_ble_eq_true rfl) rfl hr322 ?_
  refine w_iload (n := 1221) (i := 6) (by decide +kernel) rfl rfl ?_
  by_cases c321 : v318 = v311
  · rw [if_pos c321] at h
    refine w_icmp_eq_j (n := 1226) (off := 5) (by decide +kernel) (by decide) c321 ?_
    refine w_iload (n := 1228) (i := 6) (by decide +kernel) rfl rfl ?_
    by_cases c320 : v311 = 0
    · rw [if_pos c320] at h
      refine w_if_ne_n (n := 1231) (off := 15) (by decide +kernel) rfl c320 ?_
      refine w_aload_n (n := 1232) (i := 3) (by decide +kernel) rfl rfl ?_
      refine w_iconst (n := 1233) (v := 0) (x := 0) (by decide +kernel) rfl (by decide) ?_
      refine w_lald (n := 1234) (i := 0) hLM317 (by decide +kernel) (at_497) (an_497) ⟨by decide, by decide⟩ rfl ?_
      refine w_iload (n := 1236) (i := 7) (by decide +kernel) rfl rfl ?_
      refine w_i2l (n := 1237) (by decide +kernel) rfl ?_
      refine w_lcmp (n := 1238) (by decide +kernel) rfl ?_
      by_cases c319 : lg_cmp (ak_L M317 497 0) (v316.toInt64) = 0
      · rw [if_pos c319] at h
        refine w_if_eq_j (n := 1243) (off := 5) (by decide +kernel) (by decide) c319 ?_
        refine w_goto (n := 3274) (off := 2031) (by decide +kernel) (by decide) ?_
        exact h
      · rw [if_neg c319] at h
        refine w_if_eq_n (n := 1241) (off := 5) (by decide +kernel) rfl c319 ?_
        refine w_iconst (n := 1242) (v := 0) (x := 0) (by decide +kernel) rfl (by decide) ?_
        subst h
        exact w_ireturn (by decide +kernel) (by decide +kernel)
    · rw [if_neg c320] at h
      refine w_if_ne_j (n := 1243) (off := 15) (by decide +kernel) (by decide) c320 ?_
      refine w_goto (n := 3274) (off := 2031) (by decide +kernel) (by decide) ?_
      exact h
  · rw [if_neg c321] at h
    refine w_icmp_eq_n (n := 1224) (off := 5) (by decide +kernel) rfl c321 ?_
    refine w_iconst (n := 1225) (v := 0) (x := 0) (by decide +kernel) rfl (by decide) ?_
    subst h
    exact w_ireturn (by decide +kernel) (by decide +kernel)
theorem t_364_1246 {X : ak_X} {M : ak_M} {r : ak_O × ak_M} (hL : ab_lay M) (y5 : Int32) (o6 o7 o8 o9 : Option Value) (l2 : List (Nat × Value)) (h : (∃ i325 : Nat, ab_ix (y5 + 1) i325 X.1 ∧ (∃ i326 : Nat, ab_ix (y5 + 2) i326 X.1 ∧ (∃ (v328 : Int32) (M327 : ak_M), ab_lay M327 ∧ rn X 335 [.ref 0, .int (X.2.1 i325), .int (X.2.1 i326), .ref 497] M (.inl (some (.int v328)), M327) ∧ (∃ i329 : Nat, ab_ix (y5 + 1) i329 X.1 ∧ (∃ i330 : Nat, ab_ix (y5 + 2) i330 X.1 ∧ (∃ (v332 : Int32) (M331 : ak_M), ab_lay M331 ∧ rn X 234 [.ref 483, .int (X.2.1 i329), .int (X.2.1 i330)] M327 (.inl (some (.int v332)), M331) ∧ (∃ (v334 : Int32) (M333 : ak_M), ab_lay M333 ∧ rn X 154 [.ref 483] M331 (.inl (some (.int v334)), M333) ∧ (if v334 = v328 then (if v328 = 0 then (if lg_cmp (ak_L M333 497 0) (v332.toInt64) = 0 then sg X 364 (3274, [some (.ref 1000000), some (.ref 0), some (.ref 483), some (.ref 497), some (.ref 498), some (.int y5), some (.int v328), some (.int v332), o8, o9], ((l2).filter (fun q => !(q.1 == 6) && !(q.1 + 1 == 6))).filter (fun q => !(q.1 == 7) && !(q.1 + 1 == 7)), []) M333 r else r = (.inl (some (.int 0)), M333)) else sg X 364 (3274, [some (.ref 1000000), some (.ref 0), some (.ref 483), some (.ref 497), some (.ref 498), some (.int y5), some (.int v328), some (.int v332), o8, o9], ((l2).filter (fun q => !(q.1 == 6) && !(q.1 + 1 == 6))).filter (fun q => !(q.1 == 7) && !(q.1 + 1 == 7)), []) M333 r) else r = (.inl (some (.int 0)), M333)))))))))) : sg X 364 (1246, [some (.ref 1000000), some (.ref 0), some (.ref 483), some (.ref 497), some (.ref 498), some (.int y5), o6, o7, o8, o9], l2, []) M r := by
  refine w_aload_n (n := 1247) (i := 1) (by decide +kernel) rfl rfl ?_
  refine w_aload_n (n := 1248) (i := 0) (by decide +kernel) rfl rfl ?_
  refine w_iload (n := 1250) (i := 5) (by decide +kernel) rfl rfl ?_
  refine w_iconst (n := 1251) (v := 1) (x := 1) (by decide +kernel) rfl (by decide) ?_
  refine w_iadd (n := 1252) (by decide +kernel) rfl ?_
  obtain ⟨i325, gi325, h⟩ := h
  refine w_sld (n := 1253) hL (by decide +kernel) gi325 rfl ?_
  refine w_aload_n (n := 1254) (i := 0) (by decide +kernel) rfl rfl ?_
  refine w_iload (n := 1256) (i := 5) (by decide +kernel) rfl rfl ?_
  refine w_iconst (n := 1257) (v := 2) (x := 2) (by decide +kernel) rfl (by decide) ?_
  refine w_iadd (n := 1258) (by decide +kernel) rfl ?_
  obtain ⟨i326, gi326, h⟩ := h
  refine w_sld (n := 1259) hL (by decide +kernel) gi326 rfl ?_
  refine w_aload_n (n := 1260) (i := 3) (by decide +kernel) rfl rfl ?_
  obtain ⟨v328, M327, hLM327, hr340, h⟩ := h
  refine w_cS (n := 1263) (idx := 233) (cal := 335) (na := 4) (nl := 4) (as := [.ref 0, .int (X.2.1 i325), .int (X.2.1 i326), .ref 497]) (rest := []) (by decide +kernel) (by decide +kernel) rfl rfl rfl (Nat.le_of_ble_eq_true rfl) rfl hr340 ?_
  refine w_istore (n := 1265) (i := 6) (l1' := [some (.ref 1000000), some (.ref 0), some (.ref 483), some (.ref 497), some (.ref 498), some (.int y5), some (.int v328), o7, o8, o9]) (l2' := (l2).filter (fun q => !(q.1 == 6) && !(q.1 + 1 == 6))) (by decide +kernel) rfl (Nat.le_of_ble_eq_true rfl) rfl rfl ?_
  refine w_aload_n (n := 1266) (i := 2) (by decide +kernel) rfl rfl ?_
  refine w_aload_n (n := 1267) (i := 0) (by decide +kernel) rfl rfl ?_
  refine w_iload (n := 1269) (i := 5) (by decide +kernel) rfl rfl ?_
  refine w_iconst (n := 1270) (v := 1) (x := 1) (by decide +kernel) rfl (by decide) ?_
  refine w_iadd (n := 1271) (by decide +kernel) rfl ?_
  obtain ⟨i329, gi329, h⟩ := h
  refine w_sld (n := 1272) hLM327 (by decide +kernel) gi329 rfl ?_
  refine w_aload_n (n := 1273) (i := 0) (by decide +kernel) rfl rfl ?_
  refine w_iload (n := 1275) (i := 5) (by decide +kernel) rfl rfl ?_
  refine w_iconst (n := 1276) (v := 2) (x := 2) (by decide +kernel) rfl (by decide) ?_
  refine w_iadd (n := 1277) (by decide +kernel) rfl ?_
  obtain ⟨i330, gi330, h⟩ := h
  refine w_sld (n := 1278) hLM327 (by decide +kernel) gi330 rfl ?_
  obtain ⟨v332, M331, hLM331, hr339, h⟩ := h
  refine w_cV (n := 1281) (idx := 235) (cal := 234) (na := 2) (nl := 3) (as := [.int (X.2.1 i329), .int (X.2.1 i330)]) (rest := []) hLM327 (by decide +kernel) (by decide +kernel) (at_483) (by decide +kernel) rfl rfl rfl (Nat.le_of_ble_eq_true rfl) rfl hr339 ?_
  refine w_istore (n := 1283) (i := 7) (l1' := [some (.ref 1000000), some (.ref 0), some (.ref 483), some (.ref 497), some (.ref 498), some (.int y5), some (.int v328), some (.int v332), o8, o9]) (l2' := ((l2).filter (fun q => !(q.1 == 6) && !(q.1 + 1 == 6))).filter (fun q => !(q.1 == 7) && !(q.1 + 1 == 7))) (by decide +kernel) rfl (Nat.le_of_ble_eq_true rfl) rfl rfl ?_
  refine w_aload_n (n := 1284) (i := 2) (by decide +kernel) rfl rfl ?_
  obtain ⟨v334, M333, hLM333, hr338, h⟩ := h
  refine w_cV (n := 1287) (idx := 186) (cal := 154) (na := 0) (nl := 1) (as := []) (rest := []) hLM331 (by decide +kernel) (by decide +kernel) (at_483) (by decide +kernel) rfl rfl rfl (Nat.le_of_ble_eq_true rfl) rfl hr338 ?_
  refine w_iload (n := 1289) (i := 6) (by decide +kernel) rfl rfl ?_
  by_cases c337 : v334 = v328
  · rw [if_pos c337] at h
    refine w_icmp_eq_j (n := 1294) (off := 5) (by decide +kernel) (by decide) c337 ?_
    refine w_iload (n := 1296) (i := 6) (by decide +kernel) rfl rfl ?_
    by_cases c336 : v328 = 0
    · rw [if_pos c336] at h
      refine w_if_ne_n (n := 1299) (off := 15) (by decide +kernel) rfl c336 ?_
      refine w_aload_n (n := 1300) (i := 3) (by decide +kernel) rfl rfl ?_
      refine w_iconst (n := 1301) (v := 0) (x := 0) (by decide +kernel) rfl (by decide) ?_
      refine w_lald (n := 1302) (i := 0) hLM333 (by decide +kernel) (at_497) (an_497) ⟨by decide, by decide⟩ rfl ?_
      refine w_iload (n := 1304) (i := 7) (by decide +kernel) rfl rfl ?_
      refine w_i2l (n := 1305) (by decide +kernel) rfl ?_
      refine w_lcmp (n := 1306) (by decide +kernel) rfl ?_
      by_cases c335 : lg_cmp (ak_L M333 497 0) (v332.toInt64) = 0
      · rw [if_pos c335] at h
        refine w_if_eq_j (n := 1311) (off := 5) (by decide +kernel) (by decide) c335 ?_
        refine w_goto (n := 3274) (off := 1963) (by decide +kernel) (by decide) ?_
        exact h
      · rw [if_neg c335] at h
        refine w_if_eq_n (n := 1309) (off := 5) (by decide +kernel) rfl c335 ?_
        refine w_iconst (n := 1310) (v := 0) (x := 0) (by decide +kernel) rfl (by decide) ?_
        subst h
        exact w_ireturn (by decide +kernel) (by decide +kernel)
    · rw [if_neg c336] at h
      refine w_if_ne_j (n := 1311) (off := 15) (by decide +kernel) (by decide) c336 ?_
      refine w_goto (n := 3274) (off := 1963) (by decide +kernel) (by decide) ?_
      exact h
  · rw [if_neg c337] at h
    refine w_icmp_eq_n (n := 1292) (off := 5) (by decide +kernel) rfl c337 ?_
    refine w_iconst (n := 1293) (v := 0) (x := 0) (by decide +kernel) rfl (by decide) ?_
    subst h
    exact w_ireturn (by decide +kernel) (by decide +kernel)
theorem t_364_1314 {X : ak_X} {M : ak_M} {r : ak_O × ak_M} (hL : ab_lay M) (y5 : Int32) (o6 o7 o8 o9 : Option Value) (l2 : List (Nat × Value)) (h : (∃ i341 : Nat, ab_ix (y5 + 1) i341 X.1 ∧ (∃ (v343 : Int32) (M342 : ak_M), ab_lay M342 ∧ rn X 336 [.ref 0, .int (X.2.1 i341), .ref 497] M (.inl (some (.int v343)), M342) ∧ (∃ i344 : Nat, ab_ix (y5 + 1) i344 X.1 ∧ (∃ (v346 : Int32) (M345 : ak_M), ab_lay M345 ∧ rn X 236 [.ref 483, .int (X.2.1 i344)] M342 (.inl (some (.int v346)), M345) ∧ (∃ (v348 : Int32) (M347 : ak_M), ab_lay M347 ∧ rn X 154 [.ref 483] M345 (.inl (some (.int v348)), M347) ∧ (if v348 = v343 then (if v343 = 0 then (if lg_cmp (ak_L M347 497 0) (v346.toInt64) = 0 then sg X 364 (3274, [some (.ref 1000000), some (.ref 0), some (.ref 483), some (.ref 497), some (.ref 498), some (.int y5), some (.int v343), some (.int v346), o8, o9], ((l2).filter (fun q => !(q.1 == 6) && !(q.1 + 1 == 6))).filter (fun q => !(q.1 == 7) && !(q.1 + 1 == 7)), []) M347 r else r = (.inl (some (.int 0)), M347)) else sg X 364 (3274, [some (.ref 1000000), some (.ref 0), some (.ref 483), some (.ref 497), some (.ref 498), some (.int y5), some (.int v343), some (.int v346), o8, o9], ((l2).filter (fun q => !(q.1 == 6) && !(q.1 + 1 == 6))).filter (fun q => !(q.1 == 7) && !(q.1 + 1 == 7)), []) M347 r) else r = (.inl (some (.int 0)), M347)))))))) : sg X 364 (1314, [some (.ref 1000000), some (.ref 0), some (.ref 483), some (.ref 497), some (.ref 498), some (.int y5), o6, o7, o8, o9], l2, []) M r := by
  refine w_aload_n (n := 1315) (i := 1) (by decide +kernel) rfl rfl ?_
  refine w_aload_n (n := 1316) (i := 0) (by decide +kernel) rfl rfl ?_
  refine w_iload (n := 1318) (i := 5) (by decide +kernel) rfl rfl ?_
  refine w_iconst (n := 1319) (v := 1) (x := 1) (by decide +kernel) rfl (by decide) ?_
  refine w_iadd (n := 1320) (by decide +kernel) rfl ?_
  obtain ⟨i341, gi341, h⟩ := h
  refine w_sld (n := 1321) hL (by decide +kernel) gi341 rfl ?_
  refine w_aload_n (n := 1322) (i := 3) (by decide +kernel) rfl rfl ?_
  obtain ⟨v343, M342, hLM342, hr354, h⟩ := h
  refine w_cS (n := 1325) (idx := 236) (cal := 336) (na := 3) (nl := 3) (as := [.ref 0, .int (X.2.1 i341), .ref 497]) (rest := []) (by decide +kernel) (by decide +kernel) rfl rfl rfl (Nat.le_of_ble_eq_true rfl) rfl hr354 ?_
  refine w_istore (n := 1327) (i := 6) (l1' := [some (.ref 1000000), some (.ref 0), some (.ref 483), some (.ref 497), some (.ref 498), some (.int y5), some (.int v343), o7, o8, o9]) (l2' := (l2).filter (fun q => !(q.1 == 6) && !(q.1 + 1 == 6))) (by decide +kernel) rfl (Nat.le_of_ble_eq_true rfl) rfl rfl ?_
  refine w_aload_n (n := 1328) (i := 2) (by decide +kernel) rfl rfl ?_
  refine w_aload_n (n := 1329) (i := 0) (by decide +kernel) rfl rfl ?_
  refine w_iload (n := 1331) (i := 5) (by decide +kernel) rfl rfl ?_
  refine w_iconst (n := 1332) (v := 1) (x := 1) (by decide +kernel) rfl (by decide) ?_
  refine w_iadd (n := 1333) (by decide +kernel) rfl ?_
  obtain ⟨i344, gi344, h⟩ := h
  refine w_sld (n := 1334) hLM342 (by decide +kernel) gi344 rfl ?_
  obtain ⟨v346, M345, hLM345, hr353, h⟩ := h
  refine w_cV (n := 1337) (idx := 238) (cal := 236) (na := 1) (nl := 2) (as := [.int (X.2.1 i344)]) (rest := []) hLM342 (by decide +kernel) (by decide +kernel) (at_483) (by decide +kernel) rfl rfl rfl (Nat.le_of_ble_eq_true rfl) rfl hr353 ?_
  refine w_istore (n := 1339) (i := 7) (l1' := [some (.ref 1000000), some (.ref 0), some (.ref 483), some (.ref 497), some (.ref 498), some (.int y5), some (.int v343), some (.int v346), o8, o9]) (l2' := ((l2).filter (fun q => !(q.1 == 6) && !(q.1 + 1 == 6))).filter (fun q => !(q.1 == 7) && !(q.1 + 1 == 7))) (by decide +kernel) rfl (Nat.le_of_ble_eq_true rfl) rfl rfl ?_
  refine w_aload_n (n := 1340) (i := 2) (by decide +kernel) rfl rfl ?_
  obtain ⟨v348, M347, hLM347, hr352, h⟩ := h
  refine w_cV (n := 1343) (idx := 186) (cal := 154) (na := 0) (nl := 1) (as := []) (rest := []) hLM345 (by decide +kernel) (by decide +kernel) (at_483) (by decide +kernel) rfl rfl rfl (Nat.le_of_ble_eq_true rfl) rfl hr352 ?_
  refine w_iload (n := 1345) (i := 6) (by decide +kernel) rfl rfl ?_
  by_cases c351 : v348 = v343
  · rw [if_pos c351] at h
    refine w_icmp_eq_j (n := 1350) (off := 5) (by decide +kernel) (by decide) c351 ?_
    refine w_iload (n := 1352) (i := 6) (by decide +kernel) rfl rfl ?_
    by_cases c350 : v343 = 0
    · rw [if_pos c350] at h
      refine w_if_ne_n (n := 1355) (off := 15) (by decide +kernel) rfl c350 ?_
      refine w_aload_n (n := 1356) (i := 3) (by decide +kernel) rfl rfl ?_
      refine w_iconst (n := 1357) (v := 0) (x := 0) (by decide +kernel) rfl (by decide) ?_
      refine w_lald (n := 1358) (i := 0) hLM347 (by decide +kernel) (at_497) (an_497) ⟨by decide, by decide⟩ rfl ?_
      refine w_iload (n := 1360) (i := 7) (by decide +kernel) rfl rfl ?_
      refine w_i2l (n := 1361) (by decide +kernel) rfl ?_
      refine w_lcmp (n := 1362) (by decide +kernel) rfl ?_
      by_cases c349 : lg_cmp (ak_L M347 497 0) (v346.toInt64) = 0
      · rw [if_pos c349] at h
        refine w_if_eq_j (n := 1367) (off := 5) (by decide +kernel) (by decide) c349 ?_
        refine w_goto (n := 3274) (off := 1907) (by decide +kernel) (by decide) ?_
        exact h
      · rw [if_neg c349] at h
        refine w_if_eq_n (n := 1365) (off := 5) (by decide +kernel) rfl c349 ?_
        refine w_iconst (n := 1366) (v := 0) (x := 0) (by decide +kernel) rfl (by decide) ?_
        subst h
        exact w_ireturn (by decide +kernel) (by decide +kernel)
    · rw [if_neg c350] at h
      refine w_if_ne_j (n := 1367) (off := 15) (by decide +kernel) (by decide) c350 ?_
      refine w_goto (n := 3274) (off := 1907) (by decide +kernel) (by decide) ?_
      exact h
  · rw [if_neg c351] at h
    refine w_icmp_eq_n (n := 1348) (off := 5) (by decide +kernel) rfl c351 ?_
    refine w_iconst (n := 1349) (v := 0) (x := 0) (by decide +kernel) rfl (by decide) ?_
    subst h
    exact w_ireturn (by decide +kernel) (by decide +kernel)
theorem t_364_1370 {X : ak_X} {M : ak_M} {r : ak_O × ak_M} (hL : ab_lay M) (y5 : Int32) (o6 o7 o8 o9 : Option Value) (l2 : List (Nat × Value)) (h : (∃ i355 : Nat, ab_ix (y5 + 1) i355 X.1 ∧ (∃ (v357 : Int32) (M356 : ak_M), ab_lay M356 ∧ rn X 337 [.ref 0, .int (X.2.1 i355), .ref 497] M (.inl (some (.int v357)), M356) ∧ (∃ i358 : Nat, ab_ix (y5 + 1) i358 X.1 ∧ (∃ (v360 : Int32) (M359 : ak_M), ab_lay M359 ∧ rn X 237 [.ref 483, .int (X.2.1 i358)] M356 (.inl (some (.int v360)), M359) ∧ (∃ (v362 : Int32) (M361 : ak_M), ab_lay M361 ∧ rn X 154 [.ref 483] M359 (.inl (some (.int v362)), M361) ∧ (if v362 = v357 then (if v357 = 0 then (if lg_cmp (ak_L M361 497 0) (v360.toInt64) = 0 then sg X 364 (3274, [some (.ref 1000000), some (.ref 0), some (.ref 483), some (.ref 497), some (.ref 498), some (.int y5), some (.int v357), some (.int v360), o8, o9], ((l2).filter (fun q => !(q.1 == 6) && !(q.1 + 1 == 6))).filter (fun q => !(q.1 == 7) && !(q.1 + 1 == 7)), []) M361 r else r = (.inl (some (.int 0)), M361)) else sg X 364 (3274, [some (.ref 1000000), some (.ref 0), some (.ref 483), some (.ref 497), some (.ref 498), some (.int y5), some (.int v357), some (.int v360), o8, o9], ((l2).filter (fun q => !(q.1 == 6) && !(q.1 + 1 == 6))).filter (fun q => !(q.1 == 7) && !(q.1 + 1 == 7)), []) M361 r) else r = (.inl (some (.int 0)), M361)))))))) : sg X 364 (1370, [some (.ref 1000000), some (.ref 0), some (.ref 483), some (.ref 497), some (.ref 498), some (.int y5), o6, o7, o8, o9], l2, []) M r := by
  refine w_aload_n (n := 1371) (i := 1) (by decide +kernel) rfl rfl ?_
  refine w_aload_n (n := 1372) (i := 0) (by decide +kernel) rfl rfl ?_
  refine w_iload (n := 1374) (i := 5) (by decide +kernel) rfl rfl ?_
  refine w_iconst (n := 1375) (v := 1) (x := 1) (by decide +kernel) rfl (by decide) ?_
  refine w_iadd (n := 1376) (by decide +kernel) rfl ?_
  obtain ⟨i355, gi355, h⟩ := h
  refine w_sld (n := 1377) hL (by decide +kernel) gi355 rfl ?_
  refine w_aload_n (n := 1378) (i := 3) (by decide +kernel) rfl rfl ?_
  obtain ⟨v357, M356, hLM356, hr368, h⟩ := h
  refine w_cS (n := 1381) (idx := 239) (cal := 337) (na := 3) (nl := 3) (as := [.ref 0, .int (X.2.1 i355), .ref 497]) (rest := []) (by decide +kernel) (by decide +kernel) rfl rfl rfl (Nat.le_of_ble_eq_true rfl) rfl hr368 ?_
  refine w_istore (n := 1383) (i := 6) (l1' := [some (.ref 1000000), some (.ref 0), some (.ref 483), some (.ref 497), some (.ref 498), some (.int y5), some (.int v357), o7, o8, o9]) (l2' := (l2).filter (fun q => !(q.1 == 6) && !(q.1 + 1 == 6))) (by decide +kernel) rfl (Nat.le_of_ble_eq_true rfl) rfl rfl ?_
  refine w_aload_n (n := 1384) (i := 2) (by decide +kernel) rfl rfl ?_
  refine w_aload_n (n := 1385) (i := 0) (by decide +kernel) rfl rfl ?_
  refine w_iload (n := 1387) (i := 5) (by decide +kernel) rfl rfl ?_
  refine w_iconst (n := 1388) (v := 1) (x := 1) (by decide +kernel) rfl (by decide) ?_
  refine w_iadd (n := 1389) (by decide +kernel) rfl ?_
  obtain ⟨i358, gi358, h⟩ := h
  refine w_sld (n := 1390) hLM356 (by decide +kernel) gi358 rfl ?_
  obtain ⟨v360, M359, hLM359, hr367, h⟩ := h
  refine w_cV (n := 1393) (idx := 241) (cal := 237) (na := 1) (nl := 2) (as := [.int (X.2.1 i358)]) (rest := []) hLM356 (by decide +kernel) (by decide +kernel) (at_483) (by decide +kernel) rfl rfl rfl (Nat.le_of_ble_eq_true rfl) rfl hr367 ?_
  refine w_istore (n := 1395) (i := 7) (l1' := [some (.ref 1000000), some (.ref 0), some (.ref 483), some (.ref 497), some (.ref 498), some (.int y5), some (.int v357), some (.int v360), o8, o9]) (l2' := ((l2).filter (fun q => !(q.1 == 6) && !(q.1 + 1 == 6))).filter (fun q => !(q.1 == 7) && !(q.1 + 1 == 7))) (by decide +kernel) rfl (Nat.le_of_ble_eq_true rfl) rfl rfl ?_
  refine w_aload_n (n := 1396) (i := 2) (by decide +kernel) rfl rfl ?_
  obtain ⟨v362, M361, hLM361, hr366, h⟩ := h
  refine w_cV (n := 1399) (idx := 186) (cal := 154) (na := 0) (nl := 1) (as := []) (rest := []) hLM359 (by decide +kernel) (by decide +kernel) (at_483) (by decide +kernel) rfl rfl rfl (Nat.le_of_ble_eq_true rfl) rfl hr366 ?_
  refine w_iload (n := 1401) (i := 6) (by decide +kernel) rfl rfl ?_
  by_cases c365 : v362 = v357
  · rw [if_pos c365] at h
    refine w_icmp_eq_j (n := 1406) (off := 5) (by decide +kernel) (by decide) c365 ?_
    refine w_iload (n := 1408) (i := 6) (by decide +kernel) rfl rfl ?_
    by_cases c364 : v357 = 0
    · rw [if_pos c364] at h
      refine w_if_ne_n (n := 1411) (off := 15) (by decide +kernel) rfl c364 ?_
      refine w_aload_n (n := 1412) (i := 3) (by decide +kernel) rfl rfl ?_
      refine w_iconst (n := 1413) (v := 0) (x := 0) (by decide +kernel) rfl (by decide) ?_
      refine w_lald (n := 1414) (i := 0) hLM361 (by decide +kernel) (at_497) (an_497) ⟨by decide, by decide⟩ rfl ?_
      refine w_iload (n := 1416) (i := 7) (by decide +kernel) rfl rfl ?_
      refine w_i2l (n := 1417) (by decide +kernel) rfl ?_
      refine w_lcmp (n := 1418) (by decide +kernel) rfl ?_
      by_cases c363 : lg_cmp (ak_L M361 497 0) (v360.toInt64) = 0
      · rw [if_pos c363] at h
        refine w_if_eq_j (n := 1423) (off := 5) (by decide +kernel) (by decide) c363 ?_
        refine w_goto (n := 3274) (off := 1851) (by decide +kernel) (by decide) ?_
        exact h
      · rw [if_neg c363] at h
        refine w_if_eq_n (n := 1421) (off := 5) (by decide +kernel) rfl c363 ?_
        refine w_iconst (n := 1422) (v := 0) (x := 0) (by decide +kernel) rfl (by decide) ?_
        subst h
        exact w_ireturn (by decide +kernel) (by decide +kernel)
    · rw [if_neg c364] at h
      refine w_if_ne_j (n := 1423) (off := 15) (by decide +kernel) (by decide) c364 ?_
      refine w_goto (n := 3274) (off := 1851) (by decide +kernel) (by decide) ?_
      exact h
  · rw [if_neg c365] at h
    refine w_icmp_eq_n (n := 1404) (off := 5) (by decide +kernel) rfl c365 ?_
    refine w_iconst (n := 1405) (v := 0) (x := 0) (by decide +kernel) rfl (by decide) ?_
    subst h
    exact w_ireturn (by decide +kernel) (by decide +kernel)
theorem t_364_1426 {X : ak_X} {M : ak_M} {r : ak_O × ak_M} (hL : ab_lay M) (y5 : Int32) (o6 o7 o8 o9 : Option Value) (l2 : List (Nat × Value)) (h : (∃ i369 : Nat, ab_ix (y5 + 1) i369 X.1 ∧ (∃ (v371 : Int32) (M370 : ak_M), ab_lay M370 ∧ rn X 338 [.ref 0, .int (X.2.1 i369), .ref 497] M (.inl (some (.int v371)), M370) ∧ (∃ i372 : Nat, ab_ix (y5 + 1) i372 X.1 ∧ (∃ (v374 : Int32) (M373 : ak_M), ab_lay M373 ∧ rn X 238 [.ref 483, .int (X.2.1 i372)] M370 (.inl (some (.int v374)), M373) ∧ (∃ (v376 : Int32) (M375 : ak_M), ab_lay M375 ∧ rn X 154 [.ref 483] M373 (.inl (some (.int v376)), M375) ∧ (if v376 = v371 then (if v371 = 0 then (if lg_cmp (ak_L M375 497 0) (v374.toInt64) = 0 then sg X 364 (3274, [some (.ref 1000000), some (.ref 0), some (.ref 483), some (.ref 497), some (.ref 498), some (.int y5), some (.int v371), some (.int v374), o8, o9], ((l2).filter (fun q => !(q.1 == 6) && !(q.1 + 1 == 6))).filter (fun q => !(q.1 == 7) && !(q.1 + 1 == 7)), []) M375 r else r = (.inl (some (.int 0)), M375)) else sg X 364 (3274, [some (.ref 1000000), some (.ref 0), some (.ref 483), some (.ref 497), some (.ref 498), some (.int y5), some (.int v371), some (.int v374), o8, o9], ((l2).filter (fun q => !(q.1 == 6) && !(q.1 + 1 == 6))).filter (fun q => !(q.1 == 7) && !(q.1 + 1 == 7)), []) M375 r) else r = (.inl (some (.int 0)), M375)))))))) : sg X 364 (1426, [some (.ref 1000000), some (.ref 0), some (.ref 483), some (.ref 497), some (.ref 498), some (.int y5), o6, o7, o8, o9], l2, []) M r := by
  refine w_aload_n (n := 1427) (i := 1) (by decide +kernel) rfl rfl ?_
  refine w_aload_n (n := 1428) (i := 0) (by decide +kernel) rfl rfl ?_
  refine w_iload (n := 1430) (i := 5) (by decide +kernel) rfl rfl ?_
  refine w_iconst (n := 1431) (v := 1) (x := 1) (by decide +kernel) rfl (by decide) ?_
  refine w_iadd (n := 1432) (by decide +kernel) rfl ?_
  obtain ⟨i369, gi369, h⟩ := h
  refine w_sld (n := 1433) hL (by decide +kernel) gi369 rfl ?_
  refine w_aload_n (n := 1434) (i := 3) (by decide +kernel) rfl rfl ?_
  obtain ⟨v371, M370, hLM370, hr382, h⟩ := h
  refine w_cS (n := 1437) (idx := 242) (cal := 338) (na := 3) (nl := 3) (as := [.ref 0, .int (X.2.1 i369), .ref 497]) (rest := []) (by decide +kernel) (by decide +kernel) rfl rfl rfl (Nat.le_of_ble_eq_true rfl) rfl hr382 ?_
  refine w_istore (n := 1439) (i := 6) (l1' := [some (.ref 1000000), some (.ref 0), some (.ref 483), some (.ref 497), some (.ref 498), some (.int y5), some (.int v371), o7, o8, o9]) (l2' := (l2).filter (fun q => !(q.1 == 6) && !(q.1 + 1 == 6))) (by decide +kernel) rfl (Nat.le_of_ble_eq_true rfl) rfl rfl ?_
  refine w_aload_n (n := 1440) (i := 2) (by decide +kernel) rfl rfl ?_
  refine w_aload_n (n := 1441) (i := 0) (by decide +kernel) rfl rfl ?_
  refine w_iload (n := 1443) (i := 5) (by decide +kernel) rfl rfl ?_
  refine w_iconst (n := 1444) (v := 1) (x := 1) (by decide +kernel) rfl (by decide) ?_
  refine w_iadd (n := 1445) (by decide +kernel) rfl ?_
  obtain ⟨i372, gi372, h⟩ := h
  refine w_sld (n := 1446) hLM370 (by decide +kernel) gi372 rfl ?_
  obtain ⟨v374, M373, hLM373, hr381, h⟩ := h
  refine w_cV (n := 1449) (idx := 244) (cal := 238) (na := 1) (nl := 2) (as := [.int (X.2.1 i372)]) (rest := []) hLM370 (by decide +kernel) (by decide +kernel) (at_483) (by decide +kernel) rfl rfl rfl (Nat.le_of_ble_eq_true rfl) rfl hr381 ?_
  refine w_istore (n := 1451) (i := 7) (l1' := [some (.ref 1000000), some (.ref 0), some (.ref 483), some (.ref 497), some (.ref 498), some (.int y5), some (.int v371), some (.int v374), o8, o9]) (l2' := ((l2).filter (fun q => !(q.1 == 6) && !(q.1 + 1 == 6))).filter (fun q => !(q.1 == 7) && !(q.1 + 1 == 7))) (by decide +kernel) rfl (Nat.le_of_ble_eq_true rfl) rfl rfl ?_
  refine w_aload_n (n := 1452) (i := 2) (by decide +kernel) rfl rfl ?_
  obtain ⟨v376, M375, hLM375, hr380, h⟩ := h
  refine w_cV (n := 1455) (idx := 186) (cal := 154) (na := 0) (nl := 1) (as := []) (rest := []) hLM373 (by decide +kernel) (by decide +kernel) (at_483) (by decide +kernel) rfl rfl rfl (Nat.le_of_ble_eq_true rfl) rfl hr380 ?_
  refine w_iload (n := 1457) (i := 6) (by decide +kernel) rfl rfl ?_
  by_cases c379 : v376 = v371
  · rw [if_pos c379] at h
    refine w_icmp_eq_j (n := 1462) (off := 5) (by decide +kernel) (by decide) c379 ?_
    refine w_iload (n := 1464) (i := 6) (by decide +kernel) rfl rfl ?_
    by_cases c378 : v371 = 0
    · rw [if_pos c378] at h
      refine w_if_ne_n (n := 1467) (off := 15) (by decide +kernel) rfl c378 ?_
      refine w_aload_n (n := 1468) (i := 3) (by decide +kernel) rfl rfl ?_
      refine w_iconst (n := 1469) (v := 0) (x := 0) (by decide +kernel) rfl (by decide) ?_
      refine w_lald (n := 1470) (i := 0) hLM375 (by decide +kernel) (at_497) (an_497) ⟨by decide, by decide⟩ rfl ?_
      refine w_iload (n := 1472) (i := 7) (by decide +kernel) rfl rfl ?_
      refine w_i2l (n := 1473) (by decide +kernel) rfl ?_
      refine w_lcmp (n := 1474) (by decide +kernel) rfl ?_
      by_cases c377 : lg_cmp (ak_L M375 497 0) (v374.toInt64) = 0
      · rw [if_pos c377] at h
        refine w_if_eq_j (n := 1479) (off := 5) (by decide +kernel) (by decide) c377 ?_
        refine w_goto (n := 3274) (off := 1795) (by decide +kernel) (by decide) ?_
        exact h
      · rw [if_neg c377] at h
        refine w_if_eq_n (n := 1477) (off := 5) (by decide +kernel) rfl c377 ?_
        refine w_iconst (n := 1478) (v := 0) (x := 0) (by decide +kernel) rfl (by decide) ?_
        subst h
        exact w_ireturn (by decide +kernel) (by decide +kernel)
    · rw [if_neg c378] at h
      refine w_if_ne_j (n := 1479) (off := 15) (by decide +kernel) (by decide) c378 ?_
      refine w_goto (n := 3274) (off := 1795) (by decide +kernel) (by decide) ?_
      exact h
  · rw [if_neg c379] at h
    refine w_icmp_eq_n (n := 1460) (off := 5) (by decide +kernel) rfl c379 ?_
    refine w_iconst (n := 1461) (v := 0) (x := 0) (by decide +kernel) rfl (by decide) ?_
    subst h
    exact w_ireturn (by decide +kernel) (by decide +kernel)
theorem t_364_1482 {X : ak_X} {M : ak_M} {r : ak_O × ak_M} (hL : ab_lay M) (y5 : Int32) (o6 o7 o8 o9 : Option Value) (l2 : List (Nat × Value)) (h : (∃ i383 : Nat, ab_ix (y5 + 1) i383 X.1 ∧ (∃ (v385 : Int32) (M384 : ak_M), ab_lay M384 ∧ rn X 339 [.ref 0, .int (X.2.1 i383), .ref 497] M (.inl (some (.int v385)), M384) ∧ (∃ i386 : Nat, ab_ix (y5 + 1) i386 X.1 ∧ (∃ (v388 : Int32) (M387 : ak_M), ab_lay M387 ∧ rn X 239 [.ref 483, .int (X.2.1 i386)] M384 (.inl (some (.int v388)), M387) ∧ (∃ (v390 : Int32) (M389 : ak_M), ab_lay M389 ∧ rn X 154 [.ref 483] M387 (.inl (some (.int v390)), M389) ∧ (if v390 = v385 then (if v385 = 0 then (if lg_cmp (ak_L M389 497 0) (v388.toInt64) = 0 then sg X 364 (3274, [some (.ref 1000000), some (.ref 0), some (.ref 483), some (.ref 497), some (.ref 498), some (.int y5), some (.int v385), some (.int v388), o8, o9], ((l2).filter (fun q => !(q.1 == 6) && !(q.1 + 1 == 6))).filter (fun q => !(q.1 == 7) && !(q.1 + 1 == 7)), []) M389 r else r = (.inl (some (.int 0)), M389)) else sg X 364 (3274, [some (.ref 1000000), some (.ref 0), some (.ref 483), some (.ref 497), some (.ref 498), some (.int y5), some (.int v385), some (.int v388), o8, o9], ((l2).filter (fun q => !(q.1 == 6) && !(q.1 + 1 == 6))).filter (fun q => !(q.1 == 7) && !(q.1 + 1 == 7)), []) M389 r) else r = (.inl (some (.int 0)), M389)))))))) : sg X 364 (1482, [some (.ref 1000000), some (.ref 0), some (.ref 483), some (.ref 497), some (.ref 498), some (.int y5), o6, o7, o8, o9], l2, []) M r := by
  refine w_aload_n (n := 1483) (i := 1) (by decide +kernel) rfl rfl ?_
  refine w_aload_n (n := 1484) (i := 0) (by decide +kernel) rfl rfl ?_
  refine w_iload (n := 1486) (i := 5) (by decide +kernel) rfl rfl ?_
  refine w_iconst (n := 1487) (v := 1) (x := 1) (by decide +kernel) rfl (by decide) ?_
  refine w_iadd (n := 1488) (by decide +kernel) rfl ?_
  obtain ⟨i383, gi383, h⟩ := h
  refine w_sld (n := 1489) hL (by decide +kernel) gi383 rfl ?_
  refine w_aload_n (n := 1490) (i := 3) (by decide +kernel) rfl rfl ?_
  obtain ⟨v385, M384, hLM384, hr396, h⟩ := h
  refine w_cS (n := 1493) (idx := 245) (cal := 339) (na := 3) (nl := 3) (as := [.ref 0, .int (X.2.1 i383), .ref 497]) (rest := []) (by decide +kernel) (by decide +kernel) rfl rfl rfl (Nat.le_of_ble_eq_true rfl) rfl hr396 ?_
  refine w_istore (n := 1495) (i := 6) (l1' := [some (.ref 1000000), some (.ref 0), some (.ref 483), some (.ref 497), some (.ref 498), some (.int y5), some (.int v385), o7, o8, o9]) (l2' := (l2).filter (fun q => !(q.1 == 6) && !(q.1 + 1 == 6))) (by decide +kernel) rfl (Nat.le_of_ble_eq_true rfl) rfl rfl ?_
  refine w_aload_n (n := 1496) (i := 2) (by decide +kernel) rfl rfl ?_
  refine w_aload_n (n := 1497) (i := 0) (by decide +kernel) rfl rfl ?_
  refine w_iload (n := 1499) (i := 5) (by decide +kernel) rfl rfl ?_
  refine w_iconst (n := 1500) (v := 1) (x := 1) (by decide +kernel) rfl (by decide) ?_
  refine w_iadd (n := 1501) (by decide +kernel) rfl ?_
  obtain ⟨i386, gi386, h⟩ := h
  refine w_sld (n := 1502) hLM384 (by decide +kernel) gi386 rfl ?_
  obtain ⟨v388, M387, hLM387, hr395, h⟩ := h
  refine w_cV (n := 1505) (idx := 247) (cal := 239) (na := 1) (nl := 2) (as := [.int (X.2.1 i386)]) (rest := []) hLM384 (by decide +kernel) (by decide +kernel) (at_483) (by decide +kernel) rfl rfl rfl (Nat.le_of_ble_eq_true rfl) rfl hr395 ?_
  refine w_istore (n := 1507) (i := 7) (l1' := [some (.ref 1000000), some (.ref 0), some (.ref 483), some (.ref 497), some (.ref 498), some (.int y5), some (.int v385), some (.int v388), o8, o9]) (l2' := ((l2).filter (fun q => !(q.1 == 6) && !(q.1 + 1 == 6))).filter (fun q => !(q.1 == 7) && !(q.1 + 1 == 7))) (by decide +kernel) rfl (Nat.le_of_ble_eq_true rfl) rfl rfl ?_
  refine w_aload_n (n := 1508) (i := 2) (by decide +kernel) rfl rfl ?_
  obtain ⟨v390, M389, hLM389, hr394, h⟩ := h
  refine w_cV (n := 1511) (idx := 186) (cal := 154) (na := 0) (nl := 1) (as := []) (rest := []) hLM387 (by decide +kernel) (by decide +kernel) (at_483) (by decide +kernel) rfl rfl rfl (Nat.le_of_ble_eq_true rfl) rfl hr394 ?_
  refine w_iload (n := 1513) (i := 6) (by decide +kernel) rfl rfl ?_
  by_cases c393 : v390 = v385
  · rw [if_pos c393] at h
    refine w_icmp_eq_j (n := 1518) (off := 5) (by decide +kernel) (by decide) c393 ?_
    refine w_iload (n := 1520) (i := 6) (by decide +kernel) rfl rfl ?_
    by_cases c392 : v385 = 0
    · rw [if_pos c392] at h
      refine w_if_ne_n (n := 1523) (off := 15) (by decide +kernel) rfl c392 ?_
      refine w_aload_n (n := 1524) (i := 3) (by decide +kernel) rfl rfl ?_
      refine w_iconst (n := 1525) (v := 0) (x := 0) (by decide +kernel) rfl (by decide) ?_
      refine w_lald (n := 1526) (i := 0) hLM389 (by decide +kernel) (at_497) (an_497) ⟨by decide, by decide⟩ rfl ?_
      refine w_iload (n := 1528) (i := 7) (by decide +kernel) rfl rfl ?_
      refine w_i2l (n := 1529) (by decide +kernel) rfl ?_
      refine w_lcmp (n := 1530) (by decide +kernel) rfl ?_
      by_cases c391 : lg_cmp (ak_L M389 497 0) (v388.toInt64) = 0
      · rw [if_pos c391] at h
        refine w_if_eq_j (n := 1535) (off := 5) (by decide +kernel) (by decide) c391 ?_
        refine w_goto (n := 3274) (off := 1739) (by decide +kernel) (by decide) ?_
        exact h
      · rw [if_neg c391] at h
        refine w_if_eq_n (n := 1533) (off := 5) (by decide +kernel) rfl c391 ?_
        refine w_iconst (n := 1534) (v := 0) (x := 0) (by decide +kernel) rfl (by decide) ?_
        subst h
        exact w_ireturn (by decide +kernel) (by decide +kernel)
    · rw [if_neg c392] at h
      refine w_if_ne_j (n := 1535) (off := 15) (by decide +kernel) (by decide) c392 ?_
      refine w_goto (n := 3274) (off := 1739) (by decide +kernel) (by decide) ?_
      exact h
  · rw [if_neg c393] at h
    refine w_icmp_eq_n (n := 1516) (off := 5) (by decide +kernel) rfl c393 ?_
    refine w_iconst (n := 1517) (v := 0) (x := 0) (by decide +kernel) rfl (by decide) ?_
    subst h
    exact w_ireturn (by decide +kernel) (by decide +kernel)
theorem t_364_1538 {X : ak_X} {M : ak_M} {r : ak_O × ak_M} (hL : ab_lay M) (y5 : Int32) (o6 o7 o8 o9 : Option Value) (l2 : List (Nat × Value)) (h : (∃ i397 : Nat, ab_ix (y5 + 1) i397 X.1 ∧ (∃ (v399 : Int32) (M398 : ak_M), ab_lay M398 ∧ rn X 340 [.ref 0, .int (X.2.1 i397), .ref 497] M (.inl (some (.int v399)), M398) ∧ (∃ i400 : Nat, ab_ix (y5 + 1) i400 X.1 ∧ (∃ (v402 : Int32) (M401 : ak_M), ab_lay M401 ∧ rn X 240 [.ref 483, .int (X.2.1 i400)] M398 (.inl (some (.int v402)), M401) ∧ (∃ (v404 : Int32) (M403 : ak_M), ab_lay M403 ∧ rn X 154 [.ref 483] M401 (.inl (some (.int v404)), M403) ∧ (if v404 = v399 then (if v399 = 0 then (if lg_cmp (ak_L M403 497 0) (v402.toInt64) = 0 then sg X 364 (3274, [some (.ref 1000000), some (.ref 0), some (.ref 483), some (.ref 497), some (.ref 498), some (.int y5), some (.int v399), some (.int v402), o8, o9], ((l2).filter (fun q => !(q.1 == 6) && !(q.1 + 1 == 6))).filter (fun q => !(q.1 == 7) && !(q.1 + 1 == 7)), []) M403 r else r = (.inl (some (.int 0)), M403)) else sg X 364 (3274, [some (.ref 1000000), some (.ref 0), some (.ref 483), some (.ref 497), some (.ref 498), some (.int y5), some (.int v399), some (.int v402), o8, o9], ((l2).filter (fun q => !(q.1 == 6) && !(q.1 + 1 == 6))).filter (fun q => !(q.1 == 7) && !(q.1 + 1 == 7)), []) M403 r) else r = (.inl (some (.int 0)), M403)))))))) : sg X 364 (1538, [some (.ref 1000000), some (.ref 0), some (.ref 483), some (.ref 497), some (.ref 498), some (.int y5), o6, o7, o8, o9], l2, []) M r := by
  refine w_aload_n (n := 1539) (i := 1) (by decide +kernel) rfl rfl ?_
  refine w_aload_n (n := 1540) (i := 0) (by decide +kernel) rfl rfl ?_
  refine w_iload (n := 1542) (i := 5) (by decide +kernel) rfl rfl ?_
  refine w_iconst (n := 1543) (v := 1) (x := 1) (by decide +kernel) rfl (by decide) ?_
  refine w_iadd (n := 1544) (by decide +kernel) rfl ?_
  obtain ⟨i397, gi397, h⟩ := h
  refine w_sld (n := 1545) hL (by decide +kernel) gi397 rfl ?_
  refine w_aload_n (n := 1546) (i := 3) (by decide +kernel) rfl rfl ?_
  obtain ⟨v399, M398, hLM398, hr410, h⟩ := h
  refine w_cS (n := 1549) (idx := 248) (cal := 340) (na := 3) (nl := 3) (as := [.ref 0, .int (X.2.1 i397), .ref 497]) (rest := []) (by decide +kernel) (by decide +kernel) rfl rfl rfl (Nat.le_of_ble_eq_true rfl) rfl hr410 ?_
  refine w_istore (n := 1551) (i := 6) (l1' := [some (.ref 1000000), some (.ref 0), some (.ref 483), some (.ref 497), some (.ref 498), some (.int y5), some (.int v399), o7, o8, o9]) (l2' := (l2).filter (fun q => !(q.1 == 6) && !(q.1 + 1 == 6))) (by decide +kernel) rfl (Nat.le_of_ble_eq_true rfl) rfl rfl ?_
  refine w_aload_n (n := 1552) (i := 2) (by decide +kernel) rfl rfl ?_
  refine w_aload_n (n := 1553) (i := 0) (by decide +kernel) rfl rfl ?_
  refine w_iload (n := 1555) (i := 5) (by decide +kernel) rfl rfl ?_
  refine w_iconst (n := 1556) (v := 1) (x := 1) (by decide +kernel) rfl (by decide) ?_
  refine w_iadd (n := 1557) (by decide +kernel) rfl ?_
  obtain ⟨i400, gi400, h⟩ := h
  refine w_sld (n := 1558) hLM398 (by decide +kernel) gi400 rfl ?_
  obtain ⟨v402, M401, hLM401, hr409, h⟩ := h
  refine w_cV (n := 1561) (idx := 250) (cal := 240) (na := 1) (nl := 2) (as := [.int (X.2.1 i400)]) (rest := []) hLM398 (by decide +kernel) (by decide +kernel) (at_483) (by decide +kernel) rfl rfl rfl (Nat.le_of_ble_eq_true rfl) rfl hr409 ?_
  refine w_istore (n := 1563) (i := 7) (l1' := [some (.ref 1000000), some (.ref 0), some (.ref 483), some (.ref 497), some (.ref 498), some (.int y5), some (.int v399), some (.int v402), o8, o9]) (l2' := ((l2).filter (fun q => !(q.1 == 6) && !(q.1 + 1 == 6))).filter (fun q => !(q.1 == 7) && !(q.1 + 1 == 7))) (by decide +kernel) rfl (Nat.le_of_ble_eq_true rfl) rfl rfl ?_
  refine w_aload_n (n := 1564) (i := 2) (by decide +kernel) rfl rfl ?_
  obtain ⟨v404, M403, hLM403, hr408, h⟩ := h
  refine w_cV (n := 1567) (idx := 186) (cal := 154) (na := 0) (nl := 1) (as := []) (rest := []) hLM401 (by decide +kernel) (by decide +kernel) (at_483) (by decide +kernel) rfl rfl rfl (Nat.le_of_ble_eq_true rfl) rfl hr408 ?_
  refine w_iload (n := 1569) (i := 6) (by decide +kernel) rfl rfl ?_
  by_cases c407 : v404 = v399
  · rw [if_pos c407] at h
    refine w_icmp_eq_j (n := 1574) (off := 5) (by decide +kernel) (by decide) c407 ?_
    refine w_iload (n := 1576) (i := 6) (by decide +kernel) rfl rfl ?_
    by_cases c406 : v399 = 0
    · rw [if_pos c406] at h
      refine w_if_ne_n (n := 1579) (off := 15) (by decide +kernel) rfl c406 ?_
      refine w_aload_n (n := 1580) (i := 3) (by decide +kernel) rfl rfl ?_
      refine w_iconst (n := 1581) (v := 0) (x := 0) (by decide +kernel) rfl (by decide) ?_
      refine w_lald (n := 1582) (i := 0) hLM403 (by decide +kernel) (at_497) (an_497) ⟨by decide, by decide⟩ rfl ?_
      refine w_iload (n := 1584) (i := 7) (by decide +kernel) rfl rfl ?_
      refine w_i2l (n := 1585) (by decide +kernel) rfl ?_
      refine w_lcmp (n := 1586) (by decide +kernel) rfl ?_
      by_cases c405 : lg_cmp (ak_L M403 497 0) (v402.toInt64) = 0
      · rw [if_pos c405] at h
        refine w_if_eq_j (n := 1591) (off := 5) (by decide +kernel) (by decide) c405 ?_
        refine w_goto (n := 3274) (off := 1683) (by decide +kernel) (by decide) ?_
        exact h
      · rw [if_neg c405] at h
        refine w_if_eq_n (n := 1589) (off := 5) (by decide +kernel) rfl c405 ?_
        refine w_iconst (n := 1590) (v := 0) (x := 0) (by decide +kernel) rfl (by decide) ?_
        subst h
        exact w_ireturn (by decide +kernel) (by decide +kernel)
    · rw [if_neg c406] at h
      refine w_if_ne_j (n := 1591) (off := 15) (by decide +kernel) (by decide) c406 ?_
      refine w_goto (n := 3274) (off := 1683) (by decide +kernel) (by decide) ?_
      exact h
  · rw [if_neg c407] at h
    refine w_icmp_eq_n (n := 1572) (off := 5) (by decide +kernel) rfl c407 ?_
    refine w_iconst (n := 1573) (v := 0) (x := 0) (by decide +kernel) rfl (by decide) ?_
    subst h
    exact w_ireturn (by decide +kernel) (by decide +kernel)
theorem t_364_1594 {X : ak_X} {M : ak_M} {r : ak_O × ak_M} (hL : ab_lay M) (y5 : Int32) (o6 o7 o8 o9 : Option Value) (l2 : List (Nat × Value)) (h : (∃ i411 : Nat, ab_ix (y5 + 1) i411 X.1 ∧ (∃ i412 : Nat, ab_ix (y5 + 2) i412 X.1 ∧ (∃ i413 : Nat, ab_ix (y5 + 3) i413 X.1 ∧ (∃ i414 : Nat, ab_ix (y5 + 4) i414 X.1 ∧ (∃ (v416 : Int32) (M415 : ak_M), ab_lay M415 ∧ rn X 341 [.ref 0, .int (X.2.1 i411), .int (X.2.1 i412), .int (X.2.1 i413), .int (X.2.1 i414), .ref 497] M (.inl (some (.int v416)), M415) ∧ (∃ i417 : Nat, ab_ix (y5 + 1) i417 X.1 ∧ (∃ i418 : Nat, ab_ix (y5 + 2) i418 X.1 ∧ (∃ i419 : Nat, ab_ix (y5 + 3) i419 X.1 ∧ (∃ i420 : Nat, ab_ix (y5 + 4) i420 X.1 ∧ (∃ (v422 : Int32) (M421 : ak_M), ab_lay M421 ∧ rn X 241 [.ref 483, .int (X.2.1 i417), .int (X.2.1 i418), .int (X.2.1 i419), .int (X.2.1 i420)] M415 (.inl (some (.int v422)), M421) ∧ (∃ (v424 : Int32) (M423 : ak_M), ab_lay M423 ∧ rn X 154 [.ref 483] M421 (.inl (some (.int v424)), M423) ∧ (if v424 = v416 then (if v416 = 0 then (if lg_cmp (ak_L M423 497 0) (v422.toInt64) = 0 then sg X 364 (3274, [some (.ref 1000000), some (.ref 0), some (.ref 483), some (.ref 497), some (.ref 498), some (.int y5), some (.int v416), some (.int v422), o8, o9], ((l2).filter (fun q => !(q.1 == 6) && !(q.1 + 1 == 6))).filter (fun q => !(q.1 == 7) && !(q.1 + 1 == 7)), []) M423 r else r = (.inl (some (.int 0)), M423)) else sg X 364 (3274, [some (.ref 1000000), some (.ref 0), some (.ref 483), some (.ref 497), some (.ref 498), some (.int y5), some (.int v416), some (.int v422), o8, o9], ((l2).filter (fun q => !(q.1 == 6) && !(q.1 + 1 == 6))).filter (fun q => !(q.1 == 7) && !(q.1 + 1 == 7)), []) M423 r) else r = (.inl (some (.int 0)), M423)))))))))))))) : sg X 364 (1594, [some (.ref 1000000), some (.ref 0), some (.ref 483), some (.ref 497), some (.ref 498), some (.int y5), o6, o7, o8, o9], l2, []) M r := by
  refine w_aload_n (n := 1595) (i := 1) (by decide +kernel) rfl rfl ?_
  refine w_aload_n (n := 1596) (i := 0) (by decide +kernel) rfl rfl ?_
  refine w_iload (n := 1598) (i := 5) (by decide +kernel) rfl rfl ?_
  refine w_iconst (n := 1599) (v := 1) (x := 1) (by decide +kernel) rfl (by decide) ?_
  refine w_iadd (n := 1600) (by decide +kernel) rfl ?_
  obtain ⟨i411, gi411, h⟩ := h
  refine w_sld (n := 1601) hL (by decide +kernel) gi411 rfl ?_
  refine w_aload_n (n := 1602) (i := 0) (by decide +kernel) rfl rfl ?_
  refine w_iload (n := 1604) (i := 5) (by decide +kernel) rfl rfl ?_
  refine w_iconst (n := 1605) (v := 2) (x := 2) (by decide +kernel) rfl (by decide) ?_
  refine w_iadd (n := 1606) (by decide +kernel) rfl ?_
  obtain ⟨i412, gi412, h⟩ := h
  refine w_sld (n := 1607) hL (by decide +kernel) gi412 rfl ?_
  refine w_aload_n (n := 1608) (i := 0) (by decide +kernel) rfl rfl ?_
  refine w_iload (n := 1610) (i := 5) (by decide +kernel) rfl rfl ?_
  refine w_iconst (n := 1611) (v := 3) (x := 3) (by decide +kernel) rfl (by decide) ?_
  refine w_iadd (n := 1612) (by decide +kernel) rfl ?_
  obtain ⟨i413, gi413, h⟩ := h
  refine w_sld (n := 1613) hL (by decide +kernel) gi413 rfl ?_
  refine w_aload_n (n := 1614) (i := 0) (by decide +kernel) rfl rfl ?_
  refine w_iload (n := 1616) (i := 5) (by decide +kernel) rfl rfl ?_
  refine w_iconst (n := 1617) (v := 4) (x := 4) (by decide +kernel) rfl (by decide) ?_
  refine w_iadd (n := 1618) (by decide +kernel) rfl ?_
  obtain ⟨i414, gi414, h⟩ := h
  refine w_sld (n := 1619) hL (by decide +kernel) gi414 rfl ?_
  refine w_aload_n (n := 1620) (i := 3) (by decide +kernel) rfl rfl ?_
  obtain ⟨v416, M415, hLM415, hr430, h⟩ := h
  refine w_cS (n := 1623) (idx := 251) (cal := 341) (na := 6) (nl := 6) (as := [.ref 0, .int (X.2.1 i411), .int (X.2.1 i412), .int (X.2.1 i413), .int (X.2.1 i414), .ref 497]) (rest := []) (by decide +kernel) (by decide +kernel) rfl rfl rfl (Nat.le_of_ble_eq_true rfl) rfl hr430 ?_
  refine w_istore (n := 1625) (i := 6) (l1' := [some (.ref 1000000), some (.ref 0), some (.ref 483), some (.ref 497), some (.ref 498), some (.int y5), some (.int v416), o7, o8, o9]) (l2' := (l2).filter (fun q => !(q.1 == 6) && !(q.1 + 1 == 6))) (by decide +kernel) rfl (Nat.le_of_ble_eq_true rfl) rfl rfl ?_
  refine w_aload_n (n := 1626) (i := 2) (by decide +kernel) rfl rfl ?_
  refine w_aload_n (n := 1627) (i := 0) (by decide +kernel) rfl rfl ?_
  refine w_iload (n := 1629) (i := 5) (by decide +kernel) rfl rfl ?_
  refine w_iconst (n := 1630) (v := 1) (x := 1) (by decide +kernel) rfl (by decide) ?_
  refine w_iadd (n := 1631) (by decide +kernel) rfl ?_
  obtain ⟨i417, gi417, h⟩ := h
  refine w_sld (n := 1632) hLM415 (by decide +kernel) gi417 rfl ?_
  refine w_aload_n (n := 1633) (i := 0) (by decide +kernel) rfl rfl ?_
  refine w_iload (n := 1635) (i := 5) (by decide +kernel) rfl rfl ?_
  refine w_iconst (n := 1636) (v := 2) (x := 2) (by decide +kernel) rfl (by decide) ?_
  refine w_iadd (n := 1637) (by decide +kernel) rfl ?_
  obtain ⟨i418, gi418, h⟩ := h
  refine w_sld (n := 1638) hLM415 (by decide +kernel) gi418 rfl ?_
  refine w_aload_n (n := 1639) (i := 0) (by decide +kernel) rfl rfl ?_
  refine w_iload (n := 1641) (i := 5) (by decide +kernel) rfl rfl ?_
  refine w_iconst (n := 1642) (v := 3) (x := 3) (by decide +kernel) rfl (by decide) ?_
  refine w_iadd (n := 1643) (by decide +kernel) rfl ?_
  obtain ⟨i419, gi419, h⟩ := h
  refine w_sld (n := 1644) hLM415 (by decide +kernel) gi419 rfl ?_
  refine w_aload_n (n := 1645) (i := 0) (by decide +kernel) rfl rfl ?_
  refine w_iload (n := 1647) (i := 5) (by decide +kernel) rfl rfl ?_
  refine w_iconst (n := 1648) (v := 4) (x := 4) (by decide +kernel) rfl (by decide) ?_
  refine w_iadd (n := 1649) (by decide +kernel) rfl ?_
  obtain ⟨i420, gi420, h⟩ := h
  refine w_sld (n := 1650) hLM415 (by decide +kernel) gi420 rfl ?_
  obtain ⟨v422, M421, hLM421, hr429, h⟩ := h
  refine w_cV (n := 1653) (idx := 254) (cal := 241) (na := 4) (nl := 5) (as := [.int (X.2.1 i417), .int (X.2.1 i418), .int (X.2.1 i419), .int (X.2.1 i420)]) (rest := []) hLM415 (by decide +kernel) (by decide +kernel) (at_483) (by decide +kernel) rfl rfl rfl (Nat.le_of_ble_eq_true rfl) rfl hr429 ?_
  refine w_istore (n := 1655) (i := 7) (l1' := [some (.ref 1000000), some (.ref 0), some (.ref 483), some (.ref 497), some (.ref 498), some (.int y5), some (.int v416), some (.int v422), o8, o9]) (l2' := ((l2).filter (fun q => !(q.1 == 6) && !(q.1 + 1 == 6))).filter (fun q => !(q.1 == 7) && !(q.1 + 1 == 7))) (by decide +kernel) rfl (Nat.le_of_ble_eq_true rfl) rfl rfl ?_
  refine w_aload_n (n := 1656) (i := 2) (by decide +kernel) rfl rfl ?_
  obtain ⟨v424, M423, hLM423, hr428, h⟩ := h
  refine w_cV (n := 1659) (idx := 186) (cal := 154) (na := 0) (nl := 1) (as := []) (rest := []) hLM421 (by decide +kernel) (by decide +kernel) (at_483) (by decide +kernel) rfl rfl rfl (Nat.le_of_ble_eq_true rfl) rfl hr428 ?_
  refine w_iload (n := 1661) (i := 6) (by decide +kernel) rfl rfl ?_
  by_cases c427 : v424 = v416
  · rw [if_pos c427] at h
    refine w_icmp_eq_j (n := 1666) (off := 5) (by decide +kernel) (by decide) c427 ?_
    refine w_iload (n := 1668) (i := 6) (by decide +kernel) rfl rfl ?_
    by_cases c426 : v416 = 0
    · rw [if_pos c426] at h
      refine w_if_ne_n (n := 1671) (off := 15) (by decide +kernel) rfl c426 ?_
      refine w_aload_n (n := 1672) (i := 3) (by decide +kernel) rfl rfl ?_
      refine w_iconst (n := 1673) (v := 0) (x := 0) (by decide +kernel) rfl (by decide) ?_
      refine w_lald (n := 1674) (i := 0) hLM423 (by decide +kernel) (at_497) (an_497) ⟨by decide, by decide⟩ rfl ?_
      refine w_iload (n := 1676) (i := 7) (by decide +kernel) rfl rfl ?_
      refine w_i2l (n := 1677) (by decide +kernel) rfl ?_
      refine w_lcmp (n := 1678) (by decide +kernel) rfl ?_
      by_cases c425 : lg_cmp (ak_L M423 497 0) (v422.toInt64) = 0
      · rw [if_pos c425] at h
        refine w_if_eq_j (n := 1683) (off := 5) (by decide +kernel) (by decide) c425 ?_
        refine w_goto (n := 3274) (off := 1591) (by decide +kernel) (by decide) ?_
        exact h
      · rw [if_neg c425] at h
        refine w_if_eq_n (n := 1681) (off := 5) (by decide +kernel) rfl c425 ?_
        refine w_iconst (n := 1682) (v := 0) (x := 0) (by decide +kernel) rfl (by decide) ?_
        subst h
        exact w_ireturn (by decide +kernel) (by decide +kernel)
    · rw [if_neg c426] at h
      refine w_if_ne_j (n := 1683) (off := 15) (by decide +kernel) (by decide) c426 ?_
      refine w_goto (n := 3274) (off := 1591) (by decide +kernel) (by decide) ?_
      exact h
  · rw [if_neg c427] at h
    refine w_icmp_eq_n (n := 1664) (off := 5) (by decide +kernel) rfl c427 ?_
    refine w_iconst (n := 1665) (v := 0) (x := 0) (by decide +kernel) rfl (by decide) ?_
    subst h
    exact w_ireturn (by decide +kernel) (by decide +kernel)
theorem t_364_1686 {X : ak_X} {M : ak_M} {r : ak_O × ak_M} (hL : ab_lay M) (y5 : Int32) (o6 o7 o8 o9 : Option Value) (l2 : List (Nat × Value)) (h : (∃ (v432 : Int32) (M431 : ak_M), ab_lay M431 ∧ rn X 116 [.ref 0] M (.inl (some (.int v432)), M431) ∧ (∃ (v434 : Int32) (M433 : ak_M), ab_lay M433 ∧ rn X 242 [.ref 483] M431 (.inl (some (.int v434)), M433) ∧ (if v432 = v434 then sg X 364 (3274, [some (.ref 1000000), some (.ref 0), some (.ref 483), some (.ref 497), some (.ref 498), some (.int y5), o6, o7, o8, o9], l2, []) M433 r else r = (.inl (some (.int 0)), M433))))) : sg X 364 (1686, [some (.ref 1000000), some (.ref 0), some (.ref 483), some (.ref 497), some (.ref 498), some (.int y5), o6, o7, o8, o9], l2, []) M r := by
  refine w_aload_n (n := 1687) (i := 1) (by decide +kernel) rfl rfl ?_
  obtain ⟨v432, M431, hLM431, hr437, h⟩ := h
  refine w_cV (n := 1690) (idx := 255) (cal := 116) (na := 0) (nl := 1) (as := []) (rest := []) hL (by decide +kernel) (by decide +kernel) (at_0) (by decide +kernel) rfl rfl rfl (Nat.le_of_ble_eq_true rfl) rfl hr437 ?_
  refine w_aload_n (n := 1691) (i := 2) (by decide +kernel) rfl rfl ?_
  obtain ⟨v434, M433, hLM433, hr436, h⟩ := h
  refine w_cV (n := 1694) (idx := 258) (cal := 242) (na := 0) (nl := 1) (as := []) (rest := [.int v432]) hLM431 (by decide +kernel) (by decide +kernel) (at_483) (by decide +kernel) rfl rfl rfl (Nat.le_of_ble_eq_true rfl) rfl hr436 ?_
  by_cases c435 : v432 = v434
  · rw [if_pos c435] at h
    refine w_icmp_eq_j (n := 3274) (off := 1580) (by decide +kernel) (by decide) c435 ?_
    exact h
  · rw [if_neg c435] at h
    refine w_icmp_eq_n (n := 1697) (off := 1580) (by decide +kernel) rfl c435 ?_
    refine w_iconst (n := 1698) (v := 0) (x := 0) (by decide +kernel) rfl (by decide) ?_
    subst h
    exact w_ireturn (by decide +kernel) (by decide +kernel)
theorem t_364_1699 {X : ak_X} {M : ak_M} {r : ak_O × ak_M} (hL : ab_lay M) (y5 : Int32) (o6 o7 o8 o9 : Option Value) (l2 : List (Nat × Value)) (h : (∃ (v439 : UInt64) (M438 : ak_M), ab_lay M438 ∧ rn X 117 [.ref 0] M (.inl (some (.double v439)), M438) ∧ (∃ (v441 : UInt64) (M440 : ak_M), ab_lay M440 ∧ rn X 243 [.ref 483] M438 (.inl (some (.double v441)), M440) ∧ (if Op.cmpValue (FP.dcmp v439 v441) .l = 0 then sg X 364 (3274, [some (.ref 1000000), some (.ref 0), some (.ref 483), some (.ref 497), some (.ref 498), some (.int y5), none, none, none, none], (8, .double v441) :: ((6, .double v439) :: (l2).filter (fun q => !(q.1 == 6) && (!(q.1 == 6 + 1) && !(q.1 + 1 == 6)))).filter (fun q => !(q.1 == 8) && (!(q.1 == 8 + 1) && !(q.1 + 1 == 8))), []) M440 r else (if Op.cmpValue (FP.dcmp v439 v439) .l = 0 then r = (.inl (some (.int 0)), M440) else (if Op.cmpValue (FP.dcmp v441 v441) .l = 0 then r = (.inl (some (.int 0)), M440) else sg X 364 (3274, [some (.ref 1000000), some (.ref 0), some (.ref 483), some (.ref 497), some (.ref 498), some (.int y5), none, none, none, none], (8, .double v441) :: ((6, .double v439) :: (l2).filter (fun q => !(q.1 == 6) && (!(q.1 == 6 + 1) && !(q.1 + 1 == 6)))).filter (fun q => !(q.1 == 8) && (!(q.1 == 8 + 1) && !(q.1 + 1 == 8))), []) M440 r)))))) : sg X 364 (1699, [some (.ref 1000000), some (.ref 0), some (.ref 483), some (.ref 497), some (.ref 498), some (.int y5), o6, o7, o8, o9], l2, []) M r := by
  refine w_aload_n (n := 1700) (i := 1) (by decide +kernel) rfl rfl ?_
  obtain ⟨v439, M438, hLM438, hr446, h⟩ := h
  refine w_cV (n := 1703) (idx := 259) (cal := 117) (na := 0) (nl := 1) (as := []) (rest := []) hL (by decide +kernel) (by decide +kernel) (at_0) (by decide +kernel) rfl rfl rfl (Nat.le_of_ble_eq_true rfl) rfl hr446 ?_
  refine w_dstore (n := 1705) (i := 6) (l1' := [some (.ref 1000000), some (.ref 0), some (.ref 483), some (.ref 497), some (.ref 498), some (.int y5), none, none, o8, o9]) (l2' := (6, .double v439) :: (l2).filter (fun q => !(q.1 == 6) && (!(q.1 == 6 + 1) && !(q.1 + 1 == 6)))) (by decide +kernel) rfl (Nat.le_of_ble_eq_true rfl) rfl rfl ?_
  refine w_aload_n (n := 1706) (i := 2) (by decide +kernel) rfl rfl ?_
  obtain ⟨v441, M440, hLM440, hr445, h⟩ := h
  refine w_cV (n := 1709) (idx := 263) (cal := 243) (na := 0) (nl := 1) (as := []) (rest := []) hLM438 (by decide +kernel) (by decide +kernel) (at_483) (by decide +kernel) rfl rfl rfl (Nat.le_of_ble_eq_true rfl) rfl hr445 ?_
  refine w_dstore (n := 1711) (i := 8) (l1' := [some (.ref 1000000), some (.ref 0), some (.ref 483), some (.ref 497), some (.ref 498), some (.int y5), none, none, none, none]) (l2' := (8, .double v441) :: ((6, .double v439) :: (l2).filter (fun q => !(q.1 == 6) && (!(q.1 == 6 + 1) && !(q.1 + 1 == 6)))).filter (fun q => !(q.1 == 8) && (!(q.1 == 8 + 1) && !(q.1 + 1 == 8)))) (by decide +kernel) rfl (Nat.le_of_ble_eq_true rfl) rfl rfl ?_
  refine w_dload (n := 1713) (i := 6) (by decide +kernel) rfl rfl ?_
  refine w_dload (n := 1715) (i := 8) (by decide +kernel) rfl rfl ?_
  refine w_dcmp (n := 1716) (by decide +kernel) rfl ?_
  by_cases c444 : Op.cmpValue (FP.dcmp v439 v441) .l = 0
  · rw [if_pos c444] at h
    refine w_if_eq_j (n := 1737) (off := 21) (by decide +kernel) (by decide) c444 ?_
    refine w_goto (n := 3274) (off := 1537) (by decide +kernel) (by decide) ?_
    exact h
  · rw [if_neg c444] at h
    refine w_if_eq_n (n := 1719) (off := 21) (by decide +kernel) rfl c444 ?_
    refine w_dload (n := 1721) (i := 6) (by decide +kernel) rfl rfl ?_
    refine w_dload (n := 1723) (i := 6) (by decide +kernel) rfl rfl ?_
    refine w_dcmp (n := 1724) (by decide +kernel) rfl ?_
    by_cases c443 : Op.cmpValue (FP.dcmp v439 v439) .l = 0
    · rw [if_pos c443] at h
      refine w_if_eq_j (n := 1735) (off := 11) (by decide +kernel) (by decide) c443 ?_
      refine w_iconst (n := 1736) (v := 0) (x := 0) (by decide +kernel) rfl (by decide) ?_
      subst h
      exact w_ireturn (by decide +kernel) (by decide +kernel)
    · rw [if_neg c443] at h
      refine w_if_eq_n (n := 1727) (off := 11) (by decide +kernel) rfl c443 ?_
      refine w_dload (n := 1729) (i := 8) (by decide +kernel) rfl rfl ?_
      refine w_dload (n := 1731) (i := 8) (by decide +kernel) rfl rfl ?_
      refine w_dcmp (n := 1732) (by decide +kernel) rfl ?_
      by_cases c442 : Op.cmpValue (FP.dcmp v441 v441) .l = 0
      · rw [if_pos c442] at h
        refine w_if_ne_n (n := 1735) (off := 5) (by decide +kernel) rfl c442 ?_
        refine w_iconst (n := 1736) (v := 0) (x := 0) (by decide +kernel) rfl (by decide) ?_
        subst h
        exact w_ireturn (by decide +kernel) (by decide +kernel)
      · rw [if_neg c442] at h
        refine w_if_ne_j (n := 1737) (off := 5) (by decide +kernel) (by decide) c442 ?_
        refine w_goto (n := 3274) (off := 1537) (by decide +kernel) (by decide) ?_
        exact h
theorem t_364_1740 {X : ak_X} {M : ak_M} {r : ak_O × ak_M} (hL : ab_lay M) (y5 : Int32) (o6 o7 o8 o9 : Option Value) (l2 : List (Nat × Value)) (h : (∃ i447 : Nat, ab_ix (y5 + 1) i447 X.1 ∧ (∃ (v449 : Int32) (M448 : ak_M), ab_lay M448 ∧ rn X 342 [.ref 0, .int (X.2.1 i447), .ref 498] M (.inl (some (.int v449)), M448) ∧ (∃ i450 : Nat, ab_ix (y5 + 1) i450 X.1 ∧ (∃ (v452 : UInt32) (M451 : ak_M), ab_lay M451 ∧ rn X 244 [.ref 483, .int (X.2.1 i450)] M448 (.inl (some (.float v452)), M451) ∧ (∃ (v454 : Int32) (M453 : ak_M), ab_lay M453 ∧ rn X 154 [.ref 483] M451 (.inl (some (.int v454)), M453) ∧ (if v454 = v449 then (if v449 = 0 then ((FP.f2d v452) &&& 0x7fffffffffffffff ≤ 0x7ff0000000000000 ∧ (if Op.cmpValue (FP.dcmp (ak_D M453 498 0) (FP.f2d v452)) .l = 0 then sg X 364 (3274, [some (.ref 1000000), some (.ref 0), some (.ref 483), some (.ref 497), some (.ref 498), some (.int y5), some (.int v449), some (.float v452), o8, o9], ((l2).filter (fun q => !(q.1 == 6) && !(q.1 + 1 == 6))).filter (fun q => !(q.1 == 7) && !(q.1 + 1 == 7)), []) M453 r else (if Op.cmpValue (FP.dcmp (ak_D M453 498 0) (ak_D M453 498 0)) .l = 0 then r = (.inl (some (.int 0)), M453) else (if Op.cmpValue (FP.fcmp v452 v452) .l = 0 then r = (.inl (some (.int 0)), M453) else sg X 364 (3274, [some (.ref 1000000), some (.ref 0), some (.ref 483), some (.ref 497), some (.ref 498), some (.int y5), some (.int v449), some (.float v452), o8, o9], ((l2).filter (fun q => !(q.1 == 6) && !(q.1 + 1 == 6))).filter (fun q => !(q.1 == 7) && !(q.1 + 1 == 7)), []) M453 r)))) else sg X 364 (3274, [some (.ref 1000000), some (.ref 0), some (.ref 483), some (.ref 497), some (.ref 498), some (.int y5), some (.int v449), some (.float v452), o8, o9], ((l2).filter (fun q => !(q.1 == 6) && !(q.1 + 1 == 6))).filter (fun q => !(q.1 == 7) && !(q.1 + 1 == 7)), []) M453 r) else r = (.inl (some (.int 0)), M453)))))))) : sg X 364 (1740, [some (.ref 1000000), some (.ref 0), some (.ref 483), some (.ref 497), some (.ref 498), some (.int y5), o6, o7, o8, o9], l2, []) M r := by
  refine w_aload_n (n := 1741) (i := 1) (by decide +kernel) rfl rfl ?_
  refine w_aload_n (n := 1742) (i := 0) (by decide +kernel) rfl rfl ?_
  refine w_iload (n := 1744) (i := 5) (by decide +kernel) rfl rfl ?_
  refine w_iconst (n := 1745) (v := 1) (x := 1) (by decide +kernel) rfl (by decide) ?_
  refine w_iadd (n := 1746) (by decide +kernel) rfl ?_
  obtain ⟨i447, gi447, h⟩ := h
  refine w_sld (n := 1747) hL (by decide +kernel) gi447 rfl ?_
  refine w_aload (n := 1749) (i := 4) (by decide +kernel) rfl rfl ?_
  obtain ⟨v449, M448, hLM448, hr463, h⟩ := h
  refine w_cS (n := 1752) (idx := 264) (cal := 342) (na := 3) (nl := 3) (as := [.ref 0, .int (X.2.1 i447), .ref 498]) (rest := []) (by decide +kernel) (by decide +kernel) rfl rfl rfl (Nat.le_of_ble_eq_true rfl) rfl hr463 ?_
  refine w_istore (n := 1754) (i := 6) (l1' := [some (.ref 1000000), some (.ref 0), some (.ref 483), some (.ref 497), some (.ref 498), some (.int y5), some (.int v449), o7, o8, o9]) (l2' := (l2).filter (fun q => !(q.1 == 6) && !(q.1 + 1 == 6))) (by decide +kernel) rfl (Nat.le_of_ble_eq_true rfl) rfl rfl ?_
  refine w_aload_n (n := 1755) (i := 2) (by decide +kernel) rfl rfl ?_
  refine w_aload_n (n := 1756) (i := 0) (by decide +kernel) rfl rfl ?_
  refine w_iload (n := 1758) (i := 5) (by decide +kernel) rfl rfl ?_
  refine w_iconst (n := 1759) (v := 1) (x := 1) (by decide +kernel) rfl (by decide) ?_
  refine w_iadd (n := 1760) (by decide +kernel) rfl ?_
  obtain ⟨i450, gi450, h⟩ := h
  refine w_sld (n := 1761) hLM448 (by decide +kernel) gi450 rfl ?_
  obtain ⟨v452, M451, hLM451, hr462, h⟩ := h
  refine w_cV (n := 1764) (idx := 267) (cal := 244) (na := 1) (nl := 2) (as := [.int (X.2.1 i450)]) (rest := []) hLM448 (by decide +kernel) (by decide +kernel) (at_483) (by decide +kernel) rfl rfl rfl (Nat.le_of_ble_eq_true rfl) rfl hr462 ?_
  refine w_fstore (n := 1766) (i := 7) (l1' := [some (.ref 1000000), some (.ref 0), some (.ref 483), some (.ref 497), some (.ref 498), some (.int y5), some (.int v449), some (.float v452), o8, o9]) (l2' := ((l2).filter (fun q => !(q.1 == 6) && !(q.1 + 1 == 6))).filter (fun q => !(q.1 == 7) && !(q.1 + 1 == 7))) (by decide +kernel) rfl (Nat.le_of_ble_eq_true rfl) rfl rfl ?_
  refine w_aload_n (n := 1767) (i := 2) (by decide +kernel) rfl rfl ?_
  obtain ⟨v454, M453, hLM453, hr461, h⟩ := h
  refine w_cV (n := 1770) (idx := 186) (cal := 154) (na := 0) (nl := 1) (as := []) (rest := []) hLM451 (by decide +kernel) (by decide +kernel) (at_483) (by decide +kernel) rfl rfl rfl (Nat.le_of_ble_eq_true rfl) rfl hr461 ?_
  refine w_iload (n := 1772) (i := 6) (by decide +kernel) rfl rfl ?_
  by_cases c460 : v454 = v449
  · rw [if_pos c460] at h
    refine w_icmp_eq_j (n := 1777) (off := 5) (by decide +kernel) (by decide) c460 ?_
    refine w_iload (n := 1779) (i := 6) (by decide +kernel) rfl rfl ?_
    by_cases c459 : v449 = 0
    · rw [if_pos c459] at h
      refine w_if_ne_n (n := 1782) (off := 36) (by decide +kernel) rfl c459 ?_
      refine w_aload (n := 1784) (i := 4) (by decide +kernel) rfl rfl ?_
      refine w_iconst (n := 1785) (v := 0) (x := 0) (by decide +kernel) rfl (by decide) ?_
      refine w_dald (n := 1786) (i := 0) hLM453 (by decide +kernel) (at_498) (an_498) ⟨by decide, by decide⟩ rfl ?_
      refine w_fload (n := 1788) (i := 7) (by decide +kernel) rfl rfl ?_
      obtain ⟨g458, h⟩ := h
      refine w_f2d (n := 1789) (by decide +kernel) rfl g458 ?_
      refine w_dcmp (n := 1790) (by decide +kernel) rfl ?_
      by_cases c457 : Op.cmpValue (FP.dcmp (ak_D M453 498 0) (FP.f2d v452)) .l = 0
      · rw [if_pos c457] at h
        refine w_if_eq_j (n := 1815) (off := 25) (by decide +kernel) (by decide) c457 ?_
        refine w_goto (n := 3274) (off := 1459) (by decide +kernel) (by decide) ?_
        exact h
      · rw [if_neg c457] at h
        refine w_if_eq_n (n := 1793) (off := 25) (by decide +kernel) rfl c457 ?_
        refine w_aload (n := 1795) (i := 4) (by decide +kernel) rfl rfl ?_
        refine w_iconst (n := 1796) (v := 0) (x := 0) (by decide +kernel) rfl (by decide) ?_
        refine w_dald (n := 1797) (i := 0) hLM453 (by decide +kernel) (at_498) (an_498) ⟨by decide, by decide⟩ rfl ?_
        refine w_aload (n := 1799) (i := 4) (by decide +kernel) rfl rfl ?_
        refine w_iconst (n := 1800) (v := 0) (x := 0) (by decide +kernel) rfl (by decide) ?_
        refine w_dald (n := 1801) (i := 0) hLM453 (by decide +kernel) (at_498) (an_498) ⟨by decide, by decide⟩ rfl ?_
        refine w_dcmp (n := 1802) (by decide +kernel) rfl ?_
        by_cases c456 : Op.cmpValue (FP.dcmp (ak_D M453 498 0) (ak_D M453 498 0)) .l = 0
        · rw [if_pos c456] at h
          refine w_if_eq_j (n := 1813) (off := 11) (by decide +kernel) (by decide) c456 ?_
          refine w_iconst (n := 1814) (v := 0) (x := 0) (by decide +kernel) rfl (by decide) ?_
          subst h
          exact w_ireturn (by decide +kernel) (by decide +kernel)
        · rw [if_neg c456] at h
          refine w_if_eq_n (n := 1805) (off := 11) (by decide +kernel) rfl c456 ?_
          refine w_fload (n := 1807) (i := 7) (by decide +kernel) rfl rfl ?_
          refine w_fload (n := 1809) (i := 7) (by decide +kernel) rfl rfl ?_
          refine w_fcmp (n := 1810) (by decide +kernel) rfl ?_
          by_cases c455 : Op.cmpValue (FP.fcmp v452 v452) .l = 0
          · rw [if_pos c455] at h
            refine w_if_ne_n (n := 1813) (off := 5) (by decide +kernel) rfl c455 ?_
            refine w_iconst (n := 1814) (v := 0) (x := 0) (by decide +kernel) rfl (by decide) ?_
            subst h
            exact w_ireturn (by decide +kernel) (by decide +kernel)
          · rw [if_neg c455] at h
            refine w_if_ne_j (n := 1815) (off := 5) (by decide +kernel) (by decide) c455 ?_
            refine w_goto (n := 3274) (off := 1459) (by decide +kernel) (by decide) ?_
            exact h
    · rw [if_neg c459] at h
      refine w_if_ne_j (n := 1815) (off := 36) (by decide +kernel) (by decide) c459 ?_
      refine w_goto (n := 3274) (off := 1459) (by decide +kernel) (by decide) ?_
      exact h
  · rw [if_neg c460] at h
    refine w_icmp_eq_n (n := 1775) (off := 5) (by decide +kernel) rfl c460 ?_
    refine w_iconst (n := 1776) (v := 0) (x := 0) (by decide +kernel) rfl (by decide) ?_
    subst h
    exact w_ireturn (by decide +kernel) (by decide +kernel)
theorem t_364_1818 {X : ak_X} {M : ak_M} {r : ak_O × ak_M} (hL : ab_lay M) (y5 : Int32) (o6 o7 o8 o9 : Option Value) (l2 : List (Nat × Value)) (h : (∃ i464 : Nat, ab_ix (y5 + 1) i464 X.1 ∧ (∃ i465 : Nat, ab_ix (y5 + 2) i465 X.1 ∧ (∃ i466 : Nat, ab_ix (y5 + 3) i466 X.1 ∧ (∃ (v468 : Int32) (M467 : ak_M), ab_lay M467 ∧ rn X 343 [.ref 0, .int (X.2.1 i464), .int (X.2.1 i465), .int (X.2.1 i466), .ref 497] M (.inl (some (.int v468)), M467) ∧ (∃ i469 : Nat, ab_ix (y5 + 1) i469 X.1 ∧ (∃ i470 : Nat, ab_ix (y5 + 2) i470 X.1 ∧ (∃ i471 : Nat, ab_ix (y5 + 3) i471 X.1 ∧ (∃ (v473 : Int32) (M472 : ak_M), ab_lay M472 ∧ rn X 246 [.ref 483, .int (X.2.1 i469), .int (X.2.1 i470), .int (X.2.1 i471)] M467 (.inl (some (.int v473)), M472) ∧ (∃ (v475 : Int32) (M474 : ak_M), ab_lay M474 ∧ rn X 154 [.ref 483] M472 (.inl (some (.int v475)), M474) ∧ (if v475 = v468 then (if v468 = 0 then (if lg_cmp (ak_L M474 497 0) (v473.toInt64) = 0 then sg X 364 (3274, [some (.ref 1000000), some (.ref 0), some (.ref 483), some (.ref 497), some (.ref 498), some (.int y5), some (.int v468), some (.int v473), o8, o9], ((l2).filter (fun q => !(q.1 == 6) && !(q.1 + 1 == 6))).filter (fun q => !(q.1 == 7) && !(q.1 + 1 == 7)), []) M474 r else r = (.inl (some (.int 0)), M474)) else sg X 364 (3274, [some (.ref 1000000), some (.ref 0), some (.ref 483), some (.ref 497), some (.ref 498), some (.int y5), some (.int v468), some (.int v473), o8, o9], ((l2).filter (fun q => !(q.1 == 6) && !(q.1 + 1 == 6))).filter (fun q => !(q.1 == 7) && !(q.1 + 1 == 7)), []) M474 r) else r = (.inl (some (.int 0)), M474)))))))))))) : sg X 364 (1818, [some (.ref 1000000), some (.ref 0), some (.ref 483), some (.ref 497), some (.ref 498), some (.int y5), o6, o7, o8, o9], l2, []) M r := by
  refine w_aload_n (n := 1819) (i := 1) (by decide +kernel) rfl rfl ?_
  refine w_aload_n (n := 1820) (i := 0) (by decide +kernel) rfl rfl ?_
  refine w_iload (n := 1822) (i := 5) (by decide +kernel) rfl rfl ?_
  refine w_iconst (n := 1823) (v := 1) (x := 1) (by decide +kernel) rfl (by decide) ?_
  refine w_iadd (n := 1824) (by decide +kernel) rfl ?_
  obtain ⟨i464, gi464, h⟩ := h
  refine w_sld (n := 1825) hL (by decide +kernel) gi464 rfl ?_
  refine w_aload_n (n := 1826) (i := 0) (by decide +kernel) rfl rfl ?_
  refine w_iload (n := 1828) (i := 5) (by decide +kernel) rfl rfl ?_
  refine w_iconst (n := 1829) (v := 2) (x := 2) (by decide +kernel) rfl (by decide) ?_
  refine w_iadd (n := 1830) (by decide +kernel) rfl ?_
  obtain ⟨i465, gi465, h⟩ := h
  refine w_sld (n := 1831) hL (by decide +kernel) gi465 rfl ?_
  refine w_aload_n (n := 1832) (i := 0) (by decide +kernel) rfl rfl ?_
  refine w_iload (n := 1834) (i := 5) (by decide +kernel) rfl rfl ?_
  refine w_iconst (n := 1835) (v := 3) (x := 3) (by decide +kernel) rfl (by decide) ?_
  refine w_iadd (n := 1836) (by decide +kernel) rfl ?_
  obtain ⟨i466, gi466, h⟩ := h
  refine w_sld (n := 1837) hL (by decide +kernel) gi466 rfl ?_
  refine w_aload_n (n := 1838) (i := 3) (by decide +kernel) rfl rfl ?_
  obtain ⟨v468, M467, hLM467, hr481, h⟩ := h
  refine w_cS (n := 1841) (idx := 268) (cal := 343) (na := 5) (nl := 5) (as := [.ref 0, .int (X.2.1 i464), .int (X.2.1 i465), .int (X.2.1 i466), .ref 497]) (rest := []) (by decide +kernel) (by decide +kernel) rfl rfl rfl (Nat.le_of_ble_eq_true rfl) rfl hr481 ?_
  refine w_istore (n := 1843) (i := 6) (l1' := [some (.ref 1000000), some (.ref 0), some (.ref 483), some (.ref 497), some (.ref 498), some (.int y5), some (.int v468), o7, o8, o9]) (l2' := (l2).filter (fun q => !(q.1 == 6) && !(q.1 + 1 == 6))) (by decide +kernel) rfl (Nat.le_of_ble_eq_true rfl) rfl rfl ?_
  refine w_aload_n (n := 1844) (i := 2) (by decide +kernel) rfl rfl ?_
  refine w_aload_n (n := 1845) (i := 0) (by decide +kernel) rfl rfl ?_
  refine w_iload (n := 1847) (i := 5) (by decide +kernel) rfl rfl ?_
  refine w_iconst (n := 1848) (v := 1) (x := 1) (by decide +kernel) rfl (by decide) ?_
  refine w_iadd (n := 1849) (by decide +kernel) rfl ?_
  obtain ⟨i469, gi469, h⟩ := h
  refine w_sld (n := 1850) hLM467 (by decide +kernel) gi469 rfl ?_
  refine w_aload_n (n := 1851) (i := 0) (by decide +kernel) rfl rfl ?_
  refine w_iload (n := 1853) (i := 5) (by decide +kernel) rfl rfl ?_
  refine w_iconst (n := 1854) (v := 2) (x := 2) (by decide +kernel) rfl (by decide) ?_
  refine w_iadd (n := 1855) (by decide +kernel) rfl ?_
  obtain ⟨i470, gi470, h⟩ := h
  refine w_sld (n := 1856) hLM467 (by decide +kernel) gi470 rfl ?_
  refine w_aload_n (n := 1857) (i := 0) (by decide +kernel) rfl rfl ?_
  refine w_iload (n := 1859) (i := 5) (by decide +kernel) rfl rfl ?_
  refine w_iconst (n := 1860) (v := 3) (x := 3) (by decide +kernel) rfl (by decide) ?_
  refine w_iadd (n := 1861) (by decide +kernel) rfl ?_
  obtain ⟨i471, gi471, h⟩ := h
  refine w_sld (n := 1862) hLM467 (by decide +kernel) gi471 rfl ?_
  obtain ⟨v473, M472, hLM472, hr480, h⟩ := h
  refine w_cV (n := 1865) (idx := 270) (cal := 246) (na := 3) (nl := 4) (as := [.int (X.2.1 i469), .int (X.2.1 i470), .int (X.2.1 i471)]) (rest := []) hLM467 (by decide +kernel) (by decide +kernel) (at_483) (by decide +kernel) rfl rfl rfl (Nat.le_of_ble_eq_true rfl) rfl hr480 ?_
  refine w_istore (n := 1867) (i := 7) (l1' := [some (.ref 1000000), some (.ref 0), some (.ref 483), some (.ref 497), some (.ref 498), some (.int y5), some (.int v468), some (.int v473), o8, o9]) (l2' := ((l2).filter (fun q => !(q.1 == 6) && !(q.1 + 1 == 6))).filter (fun q => !(q.1 == 7) && !(q.1 + 1 == 7))) (by decide +kernel) rfl (Nat.le_of_ble_eq_true rfl) rfl rfl ?_
  refine w_aload_n (n := 1868) (i := 2) (by decide +kernel) rfl rfl ?_
  obtain ⟨v475, M474, hLM474, hr479, h⟩ := h
  refine w_cV (n := 1871) (idx := 186) (cal := 154) (na := 0) (nl := 1) (as := []) (rest := []) hLM472 (by decide +kernel) (by decide +kernel) (at_483) (by decide +kernel) rfl rfl rfl (Nat.le_of_ble_eq_true rfl) rfl hr479 ?_
  refine w_iload (n := 1873) (i := 6) (by decide +kernel) rfl rfl ?_
  by_cases c478 : v475 = v468
  · rw [if_pos c478] at h
    refine w_icmp_eq_j (n := 1878) (off := 5) (by decide +kernel) (by decide) c478 ?_
    refine w_iload (n := 1880) (i := 6) (by decide +kernel) rfl rfl ?_
    by_cases c477 : v468 = 0
    · rw [if_pos c477] at h
      refine w_if_ne_n (n := 1883) (off := 15) (by decide +kernel) rfl c477 ?_
      refine w_aload_n (n := 1884) (i := 3) (by decide +kernel) rfl rfl ?_
      refine w_iconst (n := 1885) (v := 0) (x := 0) (by decide +kernel) rfl (by decide) ?_
      refine w_lald (n := 1886) (i := 0) hLM474 (by decide +kernel) (at_497) (an_497) ⟨by decide, by decide⟩ rfl ?_
      refine w_iload (n := 1888) (i := 7) (by decide +kernel) rfl rfl ?_
      refine w_i2l (n := 1889) (by decide +kernel) rfl ?_
      refine w_lcmp (n := 1890) (by decide +kernel) rfl ?_
      by_cases c476 : lg_cmp (ak_L M474 497 0) (v473.toInt64) = 0
      · rw [if_pos c476] at h
        refine w_if_eq_j (n := 1895) (off := 5) (by decide +kernel) (by decide) c476 ?_
        refine w_goto (n := 3274) (off := 1379) (by decide +kernel) (by decide) ?_
        exact h
      · rw [if_neg c476] at h
        refine w_if_eq_n (n := 1893) (off := 5) (by decide +kernel) rfl c476 ?_
        refine w_iconst (n := 1894) (v := 0) (x := 0) (by decide +kernel) rfl (by decide) ?_
        subst h
        exact w_ireturn (by decide +kernel) (by decide +kernel)
    · rw [if_neg c477] at h
      refine w_if_ne_j (n := 1895) (off := 15) (by decide +kernel) (by decide) c477 ?_
      refine w_goto (n := 3274) (off := 1379) (by decide +kernel) (by decide) ?_
      exact h
  · rw [if_neg c478] at h
    refine w_icmp_eq_n (n := 1876) (off := 5) (by decide +kernel) rfl c478 ?_
    refine w_iconst (n := 1877) (v := 0) (x := 0) (by decide +kernel) rfl (by decide) ?_
    subst h
    exact w_ireturn (by decide +kernel) (by decide +kernel)
theorem t_364_1898 {X : ak_X} {M : ak_M} {r : ak_O × ak_M} (hL : ab_lay M) (y5 : Int32) (o6 o7 o8 o9 : Option Value) (l2 : List (Nat × Value)) (h : (∃ i482 : Nat, ab_ix (y5 + 1) i482 X.1 ∧ (∃ i483 : Nat, ab_ix (y5 + 2) i483 X.1 ∧ (∃ (v485 : Int32) (M484 : ak_M), ab_lay M484 ∧ rn X 344 [.ref 0, .int (X.2.1 i482), .int (X.2.1 i483), .ref 497] M (.inl (some (.int v485)), M484) ∧ (∃ i486 : Nat, ab_ix (y5 + 1) i486 X.1 ∧ (∃ i487 : Nat, ab_ix (y5 + 2) i487 X.1 ∧ (∃ (v489 : Int32) (M488 : ak_M), ab_lay M488 ∧ rn X 249 [.ref 483, .int (X.2.1 i486), .int (X.2.1 i487)] M484 (.inl (some (.int v489)), M488) ∧ (∃ (v491 : Int32) (M490 : ak_M), ab_lay M490 ∧ rn X 154 [.ref 483] M488 (.inl (some (.int v491)), M490) ∧ (if v491 = v485 then (if v485 = 0 then (if lg_cmp (ak_L M490 497 0) (v489.toInt64) = 0 then sg X 364 (3274, [some (.ref 1000000), some (.ref 0), some (.ref 483), some (.ref 497), some (.ref 498), some (.int y5), some (.int v485), some (.int v489), o8, o9], ((l2).filter (fun q => !(q.1 == 6) && !(q.1 + 1 == 6))).filter (fun q => !(q.1 == 7) && !(q.1 + 1 == 7)), []) M490 r else r = (.inl (some (.int 0)), M490)) else sg X 364 (3274, [some (.ref 1000000), some (.ref 0), some (.ref 483), some (.ref 497), some (.ref 498), some (.int y5), some (.int v485), some (.int v489), o8, o9], ((l2).filter (fun q => !(q.1 == 6) && !(q.1 + 1 == 6))).filter (fun q => !(q.1 == 7) && !(q.1 + 1 == 7)), []) M490 r) else r = (.inl (some (.int 0)), M490)))))))))) : sg X 364 (1898, [some (.ref 1000000), some (.ref 0), some (.ref 483), some (.ref 497), some (.ref 498), some (.int y5), o6, o7, o8, o9], l2, []) M r := by
  refine w_aload_n (n := 1899) (i := 1) (by decide +kernel) rfl rfl ?_
  refine w_aload_n (n := 1900) (i := 0) (by decide +kernel) rfl rfl ?_
  refine w_iload (n := 1902) (i := 5) (by decide +kernel) rfl rfl ?_
  refine w_iconst (n := 1903) (v := 1) (x := 1) (by decide +kernel) rfl (by decide) ?_
  refine w_iadd (n := 1904) (by decide +kernel) rfl ?_
  obtain ⟨i482, gi482, h⟩ := h
  refine w_sld (n := 1905) hL (by decide +kernel) gi482 rfl ?_
  refine w_aload_n (n := 1906) (i := 0) (by decide +kernel) rfl rfl ?_
  refine w_iload (n := 1908) (i := 5) (by decide +kernel) rfl rfl ?_
  refine w_iconst (n := 1909) (v := 2) (x := 2) (by decide +kernel) rfl (by decide) ?_
  refine w_iadd (n := 1910) (by decide +kernel) rfl ?_
  obtain ⟨i483, gi483, h⟩ := h
  refine w_sld (n := 1911) hL (by decide +kernel) gi483 rfl ?_
  refine w_aload_n (n := 1912) (i := 3) (by decide +kernel) rfl rfl ?_
  obtain ⟨v485, M484, hLM484, hr497, h⟩ := h
  refine w_cS (n := 1915) (idx := 271) (cal := 344) (na := 4) (nl := 4) (as := [.ref 0, .int (X.2.1 i482), .int (X.2.1 i483), .ref 497]) (rest := []) (by decide +kernel) (by decide +kernel) rfl rfl rfl (Nat.le_of_ble_eq_true rfl) rfl hr497 ?_
  refine w_istore (n := 1917) (i := 6) (l1' := [some (.ref 1000000), some (.ref 0), some (.ref 483), some (.ref 497), some (.ref 498), some (.int y5), some (.int v485), o7, o8, o9]) (l2' := (l2).filter (fun q => !(q.1 == 6) && !(q.1 + 1 == 6))) (by decide +kernel) rfl (Nat.le_of_ble_eq_true rfl) rfl rfl ?_
  refine w_aload_n (n := 1918) (i := 2) (by decide +kernel) rfl rfl ?_
  refine w_aload_n (n := 1919) (i := 0) (by decide +kernel) rfl rfl ?_
  refine w_iload (n := 1921) (i := 5) (by decide +kernel) rfl rfl ?_
  refine w_iconst (n := 1922) (v := 1) (x := 1) (by decide +kernel) rfl (by decide) ?_
  refine w_iadd (n := 1923) (by decide +kernel) rfl ?_
  obtain ⟨i486, gi486, h⟩ := h
  refine w_sld (n := 1924) hLM484 (by decide +kernel) gi486 rfl ?_
  refine w_aload_n (n := 1925) (i := 0) (by decide +kernel) rfl rfl ?_
  refine w_iload (n := 1927) (i := 5) (by decide +kernel) rfl rfl ?_
  refine w_iconst (n := 1928) (v := 2) (x := 2) (by decide +kernel) rfl (by decide) ?_
  refine w_iadd (n := 1929) (by decide +kernel) rfl ?_
  obtain ⟨i487, gi487, h⟩ := h
  refine w_sld (n := 1930) hLM484 (by decide +kernel) gi487 rfl ?_
  obtain ⟨v489, M488, hLM488, hr496, h⟩ := h
  refine w_cV (n := 1933) (idx := 273) (cal := 249) (na := 2) (nl := 3) (as := [.int (X.2.1 i486), .int (X.2.1 i487)]) (rest := []) hLM484 (by decide +kernel) (by decide +kernel) (at_483) (by decide +kernel) rfl rfl rfl (Nat.le_of_ble_eq_true rfl) rfl hr496 ?_
  refine w_istore (n := 1935) (i := 7) (l1' := [some (.ref 1000000), some (.ref 0), some (.ref 483), some (.ref 497), some (.ref 498), some (.int y5), some (.int v485), some (.int v489), o8, o9]) (l2' := ((l2).filter (fun q => !(q.1 == 6) && !(q.1 + 1 == 6))).filter (fun q => !(q.1 == 7) && !(q.1 + 1 == 7))) (by decide +kernel) rfl (Nat.le_of_ble_eq_true rfl) rfl rfl ?_
  refine w_aload_n (n := 1936) (i := 2) (by decide +kernel) rfl rfl ?_
  obtain ⟨v491, M490, hLM490, hr495, h⟩ := h
  refine w_cV (n := 1939) (idx := 186) (cal := 154) (na := 0) (nl := 1) (as := []) (rest := []) hLM488 (by decide +kernel) (by decide +kernel) (at_483) (by decide +kernel) rfl rfl rfl (Nat.le_of_ble_eq_true rfl) rfl hr495 ?_
  refine w_iload (n := 1941) (i := 6) (by decide +kernel) rfl rfl ?_
  by_cases c494 : v491 = v485
  · rw [if_pos c494] at h
    refine w_icmp_eq_j (n := 1946) (off := 5) (by decide +kernel) (by decide) c494 ?_
    refine w_iload (n := 1948) (i := 6) (by decide +kernel) rfl rfl ?_
    by_cases c493 : v485 = 0
    · rw [if_pos c493] at h
      refine w_if_ne_n (n := 1951) (off := 15) (by decide +kernel) rfl c493 ?_
      refine w_aload_n (n := 1952) (i := 3) (by decide +kernel) rfl rfl ?_
      refine w_iconst (n := 1953) (v := 0) (x := 0) (by decide +kernel) rfl (by decide) ?_
      refine w_lald (n := 1954) (i := 0) hLM490 (by decide +kernel) (at_497) (an_497) ⟨by decide, by decide⟩ rfl ?_
      refine w_iload (n := 1956) (i := 7) (by decide +kernel) rfl rfl ?_
      refine w_i2l (n := 1957) (by decide +kernel) rfl ?_
      refine w_lcmp (n := 1958) (by decide +kernel) rfl ?_
      by_cases c492 : lg_cmp (ak_L M490 497 0) (v489.toInt64) = 0
      · rw [if_pos c492] at h
        refine w_if_eq_j (n := 1963) (off := 5) (by decide +kernel) (by decide) c492 ?_
        refine w_goto (n := 3274) (off := 1311) (by decide +kernel) (by decide) ?_
        exact h
      · rw [if_neg c492] at h
        refine w_if_eq_n (n := 1961) (off := 5) (by decide +kernel) rfl c492 ?_
        refine w_iconst (n := 1962) (v := 0) (x := 0) (by decide +kernel) rfl (by decide) ?_
        subst h
        exact w_ireturn (by decide +kernel) (by decide +kernel)
    · rw [if_neg c493] at h
      refine w_if_ne_j (n := 1963) (off := 15) (by decide +kernel) (by decide) c493 ?_
      refine w_goto (n := 3274) (off := 1311) (by decide +kernel) (by decide) ?_
      exact h
  · rw [if_neg c494] at h
    refine w_icmp_eq_n (n := 1944) (off := 5) (by decide +kernel) rfl c494 ?_
    refine w_iconst (n := 1945) (v := 0) (x := 0) (by decide +kernel) rfl (by decide) ?_
    subst h
    exact w_ireturn (by decide +kernel) (by decide +kernel)
theorem t_364_1966 {X : ak_X} {M : ak_M} {r : ak_O × ak_M} (hL : ab_lay M) (y5 : Int32) (o6 o7 o8 o9 : Option Value) (l2 : List (Nat × Value)) (h : (∃ i498 : Nat, ab_ix (y5 + 1) i498 X.1 ∧ (∃ i499 : Nat, ab_ix (y5 + 2) i499 X.1 ∧ (∃ i500 : Nat, ab_ix (y5 + 3) i500 X.1 ∧ (∃ (v502 : Int32) (M501 : ak_M), ab_lay M501 ∧ rn X 345 [.ref 0, .int (X.2.1 i498), .int (X.2.1 i499), .int (X.2.1 i500), .ref 497] M (.inl (some (.int v502)), M501) ∧ (∃ i503 : Nat, ab_ix (y5 + 1) i503 X.1 ∧ (∃ i504 : Nat, ab_ix (y5 + 2) i504 X.1 ∧ (∃ i505 : Nat, ab_ix (y5 + 3) i505 X.1 ∧ (∃ (v507 : Int32) (M506 : ak_M), ab_lay M506 ∧ rn X 250 [.ref 483, .int (X.2.1 i503), .int (X.2.1 i504), .int (X.2.1 i505)] M501 (.inl (some (.int v507)), M506) ∧ (∃ (v509 : Int32) (M508 : ak_M), ab_lay M508 ∧ rn X 154 [.ref 483] M506 (.inl (some (.int v509)), M508) ∧ (if v509 = v502 then (if v502 = 0 then (if lg_cmp (ak_L M508 497 0) (v507.toInt64) = 0 then sg X 364 (3274, [some (.ref 1000000), some (.ref 0), some (.ref 483), some (.ref 497), some (.ref 498), some (.int y5), some (.int v502), some (.int v507), o8, o9], ((l2).filter (fun q => !(q.1 == 6) && !(q.1 + 1 == 6))).filter (fun q => !(q.1 == 7) && !(q.1 + 1 == 7)), []) M508 r else r = (.inl (some (.int 0)), M508)) else sg X 364 (3274, [some (.ref 1000000), some (.ref 0), some (.ref 483), some (.ref 497), some (.ref 498), some (.int y5), some (.int v502), some (.int v507), o8, o9], ((l2).filter (fun q => !(q.1 == 6) && !(q.1 + 1 == 6))).filter (fun q => !(q.1 == 7) && !(q.1 + 1 == 7)), []) M508 r) else r = (.inl (some (.int 0)), M508)))))))))))) : sg X 364 (1966, [some (.ref 1000000), some (.ref 0), some (.ref 483), some (.ref 497), some (.ref 498), some (.int y5), o6, o7, o8, o9], l2, []) M r := by
  refine w_aload_n (n := 1967) (i := 1) (by decide +kernel) rfl rfl ?_
  refine w_aload_n (n := 1968) (i := 0) (by decide +kernel) rfl rfl ?_
  refine w_iload (n := 1970) (i := 5) (by decide +kernel) rfl rfl ?_
  refine w_iconst (n := 1971) (v := 1) (x := 1) (by decide +kernel) rfl (by decide) ?_
  refine w_iadd (n := 1972) (by decide +kernel) rfl ?_
  obtain ⟨i498, gi498, h⟩ := h
  refine w_sld (n := 1973) hL (by decide +kernel) gi498 rfl ?_
  refine w_aload_n (n := 1974) (i := 0) (by decide +kernel) rfl rfl ?_
  refine w_iload (n := 1976) (i := 5) (by decide +kernel) rfl rfl ?_
  refine w_iconst (n := 1977) (v := 2) (x := 2) (by decide +kernel) rfl (by decide) ?_
  refine w_iadd (n := 1978) (by decide +kernel) rfl ?_
  obtain ⟨i499, gi499, h⟩ := h
  refine w_sld (n := 1979) hL (by decide +kernel) gi499 rfl ?_
  refine w_aload_n (n := 1980) (i := 0) (by decide +kernel) rfl rfl ?_
  refine w_iload (n := 1982) (i := 5) (by decide +kernel) rfl rfl ?_
  refine w_iconst (n := 1983) (v := 3) (x := 3) (by decide +kernel) rfl (by decide) ?_
  refine w_iadd (n := 1984) (by decide +kernel) rfl ?_
  obtain ⟨i500, gi500, h⟩ := h
  refine w_sld (n := 1985) hL (by decide +kernel) gi500 rfl ?_
  refine w_aload_n (n := 1986) (i := 3) (by decide +kernel) rfl rfl ?_
  obtain ⟨v502, M501, hLM501, hr515, h⟩ := h
  refine w_cS (n := 1989) (idx := 274) (cal := 345) (na := 5) (nl := 5) (as := [.ref 0, .int (X.2.1 i498), .int (X.2.1 i499), .int (X.2.1 i500), .ref 497]) (rest := []) (by decide +kernel) (by decide +kernel) rfl rfl rfl (Nat.le_of_ble_eq_true rfl) rfl hr515 ?_
  refine w_istore (n := 1991) (i := 6) (l1' := [some (.ref 1000000), some (.ref 0), some (.ref 483), some (.ref 497), some (.ref 498), some (.int y5), some (.int v502), o7, o8, o9]) (l2' := (l2).filter (fun q => !(q.1 == 6) && !(q.1 + 1 == 6))) (by decide +kernel) rfl (Nat.le_of_ble_eq_true rfl) rfl rfl ?_
  refine w_aload_n (n := 1992) (i := 2) (by decide +kernel) rfl rfl ?_
  refine w_aload_n (n := 1993) (i := 0) (by decide +kernel) rfl rfl ?_
  refine w_iload (n := 1995) (i := 5) (by decide +kernel) rfl rfl ?_
  refine w_iconst (n := 1996) (v := 1) (x := 1) (by decide +kernel) rfl (by decide) ?_
  refine w_iadd (n := 1997) (by decide +kernel) rfl ?_
  obtain ⟨i503, gi503, h⟩ := h
  refine w_sld (n := 1998) hLM501 (by decide +kernel) gi503 rfl ?_
  refine w_aload_n (n := 1999) (i := 0) (by decide +kernel) rfl rfl ?_
  refine w_iload (n := 2001) (i := 5) (by decide +kernel) rfl rfl ?_
  refine w_iconst (n := 2002) (v := 2) (x := 2) (by decide +kernel) rfl (by decide) ?_
  refine w_iadd (n := 2003) (by decide +kernel) rfl ?_
  obtain ⟨i504, gi504, h⟩ := h
  refine w_sld (n := 2004) hLM501 (by decide +kernel) gi504 rfl ?_
  refine w_aload_n (n := 2005) (i := 0) (by decide +kernel) rfl rfl ?_
  refine w_iload (n := 2007) (i := 5) (by decide +kernel) rfl rfl ?_
  refine w_iconst (n := 2008) (v := 3) (x := 3) (by decide +kernel) rfl (by decide) ?_
  refine w_iadd (n := 2009) (by decide +kernel) rfl ?_
  obtain ⟨i505, gi505, h⟩ := h
  refine w_sld (n := 2010) hLM501 (by decide +kernel) gi505 rfl ?_
  obtain ⟨v507, M506, hLM506, hr514, h⟩ := h
  refine w_cV (n := 2013) (idx := 276) (cal := 250) (na := 3) (nl := 4) (as := [.int (X.2.1 i503), .int (X.2.1 i504), .int (X.2.1 i505)]) (rest := []) hLM501 (by decide +kernel) (by decide +kernel) (at_483) (by decide +kernel) rfl rfl rfl (Nat.le_of_ble_eq_true rfl) rfl hr514 ?_
  refine w_istore (n := 2015) (i := 7) (l1' := [some (.ref 1000000), some (.ref 0), some (.ref 483), some (.ref 497), some (.ref 498), some (.int y5), some (.int v502), some (.int v507), o8, o9]) (l2' := ((l2).filter (fun q => !(q.1 == 6) && !(q.1 + 1 == 6))).filter (fun q => !(q.1 == 7) && !(q.1 + 1 == 7))) (by decide +kernel) rfl (Nat.le_of_ble_eq_true rfl) rfl rfl ?_
  refine w_aload_n (n := 2016) (i := 2) (by decide +kernel) rfl rfl ?_
  obtain ⟨v509, M508, hLM508, hr513, h⟩ := h
  refine w_cV (n := 2019) (idx := 186) (cal := 154) (na := 0) (nl := 1) (as := []) (rest := []) hLM506 (by decide +kernel) (by decide +kernel) (at_483) (by decide +kernel) rfl rfl rfl (Nat.le_of_ble_eq_true rfl) rfl hr513 ?_
  refine w_iload (n := 2021) (i := 6) (by decide +kernel) rfl rfl ?_
  by_cases c512 : v509 = v502
  · rw [if_pos c512] at h
    refine w_icmp_eq_j (n := 2026) (off := 5) (by decide +kernel) (by decide) c512 ?_
    refine w_iload (n := 2028) (i := 6) (by decide +kernel) rfl rfl ?_
    by_cases c511 : v502 = 0
    · rw [if_pos c511] at h
      refine w_if_ne_n (n := 2031) (off := 15) (by decide +kernel) rfl c511 ?_
      refine w_aload_n (n := 2032) (i := 3) (by decide +kernel) rfl rfl ?_
      refine w_iconst (n := 2033) (v := 0) (x := 0) (by decide +kernel) rfl (by decide) ?_
      refine w_lald (n := 2034) (i := 0) hLM508 (by decide +kernel) (at_497) (an_497) ⟨by decide, by decide⟩ rfl ?_
      refine w_iload (n := 2036) (i := 7) (by decide +kernel) rfl rfl ?_
      refine w_i2l (n := 2037) (by decide +kernel) rfl ?_
      refine w_lcmp (n := 2038) (by decide +kernel) rfl ?_
      by_cases c510 : lg_cmp (ak_L M508 497 0) (v507.toInt64) = 0
      · rw [if_pos c510] at h
        refine w_if_eq_j (n := 2043) (off := 5) (by decide +kernel) (by decide) c510 ?_
        refine w_goto (n := 3274) (off := 1231) (by decide +kernel) (by decide) ?_
        exact h
      · rw [if_neg c510] at h
        refine w_if_eq_n (n := 2041) (off := 5) (by decide +kernel) rfl c510 ?_
        refine w_iconst (n := 2042) (v := 0) (x := 0) (by decide +kernel) rfl (by decide) ?_
        subst h
        exact w_ireturn (by decide +kernel) (by decide +kernel)
    · rw [if_neg c511] at h
      refine w_if_ne_j (n := 2043) (off := 15) (by decide +kernel) (by decide) c511 ?_
      refine w_goto (n := 3274) (off := 1231) (by decide +kernel) (by decide) ?_
      exact h
  · rw [if_neg c512] at h
    refine w_icmp_eq_n (n := 2024) (off := 5) (by decide +kernel) rfl c512 ?_
    refine w_iconst (n := 2025) (v := 0) (x := 0) (by decide +kernel) rfl (by decide) ?_
    subst h
    exact w_ireturn (by decide +kernel) (by decide +kernel)
theorem t_364_2046 {X : ak_X} {M : ak_M} {r : ak_O × ak_M} (hL : ab_lay M) (y5 : Int32) (o6 o7 o8 o9 : Option Value) (l2 : List (Nat × Value)) (h : (∃ i516 : Nat, ab_ix (y5 + 1) i516 X.1 ∧ (∃ (v518 : Int32) (M517 : ak_M), ab_lay M517 ∧ rn X 346 [.ref 0, .int (X.2.1 i516), .ref 497] M (.inl (some (.int v518)), M517) ∧ (∃ i519 : Nat, ab_ix (y5 + 1) i519 X.1 ∧ (∃ (v521 : Int32) (M520 : ak_M), ab_lay M520 ∧ rn X 251 [.ref 483, .int (X.2.1 i519)] M517 (.inl (some (.int v521)), M520) ∧ (∃ (v523 : Int32) (M522 : ak_M), ab_lay M522 ∧ rn X 154 [.ref 483] M520 (.inl (some (.int v523)), M522) ∧ (if v523 = v518 then (if v518 = 0 then (if lg_cmp (ak_L M522 497 0) (v521.toInt64) = 0 then sg X 364 (3274, [some (.ref 1000000), some (.ref 0), some (.ref 483), some (.ref 497), some (.ref 498), some (.int y5), some (.int v518), some (.int v521), o8, o9], ((l2).filter (fun q => !(q.1 == 6) && !(q.1 + 1 == 6))).filter (fun q => !(q.1 == 7) && !(q.1 + 1 == 7)), []) M522 r else r = (.inl (some (.int 0)), M522)) else sg X 364 (3274, [some (.ref 1000000), some (.ref 0), some (.ref 483), some (.ref 497), some (.ref 498), some (.int y5), some (.int v518), some (.int v521), o8, o9], ((l2).filter (fun q => !(q.1 == 6) && !(q.1 + 1 == 6))).filter (fun q => !(q.1 == 7) && !(q.1 + 1 == 7)), []) M522 r) else r = (.inl (some (.int 0)), M522)))))))) : sg X 364 (2046, [some (.ref 1000000), some (.ref 0), some (.ref 483), some (.ref 497), some (.ref 498), some (.int y5), o6, o7, o8, o9], l2, []) M r := by
  refine w_aload_n (n := 2047) (i := 1) (by decide +kernel) rfl rfl ?_
  refine w_aload_n (n := 2048) (i := 0) (by decide +kernel) rfl rfl ?_
  refine w_iload (n := 2050) (i := 5) (by decide +kernel) rfl rfl ?_
  refine w_iconst (n := 2051) (v := 1) (x := 1) (by decide +kernel) rfl (by decide) ?_
  refine w_iadd (n := 2052) (by decide +kernel) rfl ?_
  obtain ⟨i516, gi516, h⟩ := h
  refine w_sld (n := 2053) hL (by decide +kernel) gi516 rfl ?_
  refine w_aload_n (n := 2054) (i := 3) (by decide +kernel) rfl rfl ?_
  obtain ⟨v518, M517, hLM517, hr529, h⟩ := h
  refine w_cS (n := 2057) (idx := 277) (cal := 346) (na := 3) (nl := 3) (as := [.ref 0, .int (X.2.1 i516), .ref 497]) (rest := []) (by decide +kernel) (by decide +kernel) rfl rfl rfl (Nat.le_of_ble_eq_true rfl) rfl hr529 ?_
  refine w_istore (n := 2059) (i := 6) (l1' := [some (.ref 1000000), some (.ref 0), some (.ref 483), some (.ref 497), some (.ref 498), some (.int y5), some (.int v518), o7, o8, o9]) (l2' := (l2).filter (fun q => !(q.1 == 6) && !(q.1 + 1 == 6))) (by decide +kernel) rfl (Nat.le_of_ble_eq_true rfl) rfl rfl ?_
  refine w_aload_n (n := 2060) (i := 2) (by decide +kernel) rfl rfl ?_
  refine w_aload_n (n := 2061) (i := 0) (by decide +kernel) rfl rfl ?_
  refine w_iload (n := 2063) (i := 5) (by decide +kernel) rfl rfl ?_
  refine w_iconst (n := 2064) (v := 1) (x := 1) (by decide +kernel) rfl (by decide) ?_
  refine w_iadd (n := 2065) (by decide +kernel) rfl ?_
  obtain ⟨i519, gi519, h⟩ := h
  refine w_sld (n := 2066) hLM517 (by decide +kernel) gi519 rfl ?_
  obtain ⟨v521, M520, hLM520, hr528, h⟩ := h
  refine w_cV (n := 2069) (idx := 279) (cal := 251) (na := 1) (nl := 2) (as := [.int (X.2.1 i519)]) (rest := []) hLM517 (by decide +kernel) (by decide +kernel) (at_483) (by decide +kernel) rfl rfl rfl (Nat.le_of_ble_eq_true rfl) rfl hr528 ?_
  refine w_istore (n := 2071) (i := 7) (l1' := [some (.ref 1000000), some (.ref 0), some (.ref 483), some (.ref 497), some (.ref 498), some (.int y5), some (.int v518), some (.int v521), o8, o9]) (l2' := ((l2).filter (fun q => !(q.1 == 6) && !(q.1 + 1 == 6))).filter (fun q => !(q.1 == 7) && !(q.1 + 1 == 7))) (by decide +kernel) rfl (Nat.le_of_ble_eq_true rfl) rfl rfl ?_
  refine w_aload_n (n := 2072) (i := 2) (by decide +kernel) rfl rfl ?_
  obtain ⟨v523, M522, hLM522, hr527, h⟩ := h
  refine w_cV (n := 2075) (idx := 186) (cal := 154) (na := 0) (nl := 1) (as := []) (rest := []) hLM520 (by decide +kernel) (by decide +kernel) (at_483) (by decide +kernel) rfl rfl rfl (Nat.le_of_ble_eq_true rfl) rfl hr527 ?_
  refine w_iload (n := 2077) (i := 6) (by decide +kernel) rfl rfl ?_
  by_cases c526 : v523 = v518
  · rw [if_pos c526] at h
    refine w_icmp_eq_j (n := 2082) (off := 5) (by decide +kernel) (by decide) c526 ?_
    refine w_iload (n := 2084) (i := 6) (by decide +kernel) rfl rfl ?_
    by_cases c525 : v518 = 0
    · rw [if_pos c525] at h
      refine w_if_ne_n (n := 2087) (off := 15) (by decide +kernel) rfl c525 ?_
      refine w_aload_n (n := 2088) (i := 3) (by decide +kernel) rfl rfl ?_
      refine w_iconst (n := 2089) (v := 0) (x := 0) (by decide +kernel) rfl (by decide) ?_
      refine w_lald (n := 2090) (i := 0) hLM522 (by decide +kernel) (at_497) (an_497) ⟨by decide, by decide⟩ rfl ?_
      refine w_iload (n := 2092) (i := 7) (by decide +kernel) rfl rfl ?_
      refine w_i2l (n := 2093) (by decide +kernel) rfl ?_
      refine w_lcmp (n := 2094) (by decide +kernel) rfl ?_
      by_cases c524 : lg_cmp (ak_L M522 497 0) (v521.toInt64) = 0
      · rw [if_pos c524] at h
        refine w_if_eq_j (n := 2099) (off := 5) (by decide +kernel) (by decide) c524 ?_
        refine w_goto (n := 3274) (off := 1175) (by decide +kernel) (by decide) ?_
        exact h
      · rw [if_neg c524] at h
        refine w_if_eq_n (n := 2097) (off := 5) (by decide +kernel) rfl c524 ?_
        refine w_iconst (n := 2098) (v := 0) (x := 0) (by decide +kernel) rfl (by decide) ?_
        subst h
        exact w_ireturn (by decide +kernel) (by decide +kernel)
    · rw [if_neg c525] at h
      refine w_if_ne_j (n := 2099) (off := 15) (by decide +kernel) (by decide) c525 ?_
      refine w_goto (n := 3274) (off := 1175) (by decide +kernel) (by decide) ?_
      exact h
  · rw [if_neg c526] at h
    refine w_icmp_eq_n (n := 2080) (off := 5) (by decide +kernel) rfl c526 ?_
    refine w_iconst (n := 2081) (v := 0) (x := 0) (by decide +kernel) rfl (by decide) ?_
    subst h
    exact w_ireturn (by decide +kernel) (by decide +kernel)
theorem t_364_2102 {X : ak_X} {M : ak_M} {r : ak_O × ak_M} (hL : ab_lay M) (y5 : Int32) (o6 o7 o8 o9 : Option Value) (l2 : List (Nat × Value)) (h : (∃ i530 : Nat, ab_ix (y5 + 1) i530 X.1 ∧ (∃ i531 : Nat, ab_ix (y5 + 2) i531 X.1 ∧ (∃ (v533 : Int32) (M532 : ak_M), ab_lay M532 ∧ rn X 347 [.ref 0, .int (X.2.1 i530), .int (X.2.1 i531), .ref 497] M (.inl (some (.int v533)), M532) ∧ (∃ i534 : Nat, ab_ix (y5 + 1) i534 X.1 ∧ (∃ i535 : Nat, ab_ix (y5 + 2) i535 X.1 ∧ (∃ (v537 : Int32) (M536 : ak_M), ab_lay M536 ∧ rn X 252 [.ref 483, .int (X.2.1 i534), .int (X.2.1 i535)] M532 (.inl (some (.int v537)), M536) ∧ (∃ (v539 : Int32) (M538 : ak_M), ab_lay M538 ∧ rn X 154 [.ref 483] M536 (.inl (some (.int v539)), M538) ∧ (if v539 = v533 then (if v533 = 0 then (if lg_cmp (ak_L M538 497 0) (v537.toInt64) = 0 then sg X 364 (3274, [some (.ref 1000000), some (.ref 0), some (.ref 483), some (.ref 497), some (.ref 498), some (.int y5), some (.int v533), some (.int v537), o8, o9], ((l2).filter (fun q => !(q.1 == 6) && !(q.1 + 1 == 6))).filter (fun q => !(q.1 == 7) && !(q.1 + 1 == 7)), []) M538 r else r = (.inl (some (.int 0)), M538)) else sg X 364 (3274, [some (.ref 1000000), some (.ref 0), some (.ref 483), some (.ref 497), some (.ref 498), some (.int y5), some (.int v533), some (.int v537), o8, o9], ((l2).filter (fun q => !(q.1 == 6) && !(q.1 + 1 == 6))).filter (fun q => !(q.1 == 7) && !(q.1 + 1 == 7)), []) M538 r) else r = (.inl (some (.int 0)), M538)))))))))) : sg X 364 (2102, [some (.ref 1000000), some (.ref 0), some (.ref 483), some (.ref 497), some (.ref 498), some (.int y5), o6, o7, o8, o9], l2, []) M r := by
  refine w_aload_n (n := 2103) (i := 1) (by decide +kernel) rfl rfl ?_
  refine w_aload_n (n := 2104) (i := 0) (by decide +kernel) rfl rfl ?_
  refine w_iload (n := 2106) (i := 5) (by decide +kernel) rfl rfl ?_
  refine w_iconst (n := 2107) (v := 1) (x := 1) (by decide +kernel) rfl (by decide) ?_
  refine w_iadd (n := 2108) (by decide +kernel) rfl ?_
  obtain ⟨i530, gi530, h⟩ := h
  refine w_sld (n := 2109) hL (by decide +kernel) gi530 rfl ?_
  refine w_aload_n (n := 2110) (i := 0) (by decide +kernel) rfl rfl ?_
  refine w_iload (n := 2112) (i := 5) (by decide +kernel) rfl rfl ?_
  refine w_iconst (n := 2113) (v := 2) (x := 2) (by decide +kernel) rfl (by decide) ?_
  refine w_iadd (n := 2114) (by decide +kernel) rfl ?_
  obtain ⟨i531, gi531, h⟩ := h
  refine w_sld (n := 2115) hL (by decide +kernel) gi531 rfl ?_
  refine w_aload_n (n := 2116) (i := 3) (by decide +kernel) rfl rfl ?_
  obtain ⟨v533, M532, hLM532, hr545, h⟩ := h
  refine w_cS (n := 2119) (idx := 280) (cal := 347) (na := 4) (nl := 4) (as := [.ref 0, .int (X.2.1 i530), .int (X.2.1 i531), .ref 497]) (rest := []) (by decide +kernel) (by decide +kernel) rfl rfl rfl (Nat.le_of_ble_eq_true rfl) rfl hr545 ?_
  refine w_istore (n := 2121) (i := 6) (l1' := [some (.ref 1000000), some (.ref 0), some (.ref 483), some (.ref 497), some (.ref 498), some (.int y5), some (.int v533), o7, o8, o9]) (l2' := (l2).filter (fun q => !(q.1 == 6) && !(q.1 + 1 == 6))) (by decide +kernel) rfl (Nat.le_of_ble_eq_true rfl) rfl rfl ?_
  refine w_aload_n (n := 2122) (i := 2) (by decide +kernel) rfl rfl ?_
  refine w_aload_n (n := 2123) (i := 0) (by decide +kernel) rfl rfl ?_
  refine w_iload (n := 2125) (i := 5) (by decide +kernel) rfl rfl ?_
  refine w_iconst (n := 2126) (v := 1) (x := 1) (by decide +kernel) rfl (by decide) ?_
  refine w_iadd (n := 2127) (by decide +kernel) rfl ?_
  obtain ⟨i534, gi534, h⟩ := h
  refine w_sld (n := 2128) hLM532 (by decide +kernel) gi534 rfl ?_
  refine w_aload_n (n := 2129) (i := 0) (by decide +kernel) rfl rfl ?_
  refine w_iload (n := 2131) (i := 5) (by decide +kernel) rfl rfl ?_
  refine w_iconst (n := 2132) (v := 2) (x := 2) (by decide +kernel) rfl (by decide) ?_
  refine w_iadd (n := 2133) (by decide +kernel) rfl ?_
  obtain ⟨i535, gi535, h⟩ := h
  refine w_sld (n := 2134) hLM532 (by decide +kernel) gi535 rfl ?_
  obtain ⟨v537, M536, hLM536, hr544, h⟩ := h
  refine w_cV (n := 2137) (idx := 282) (cal := 252) (na := 2) (nl := 3) (as := [.int (X.2.1 i534), .int (X.2.1 i535)]) (rest := []) hLM532 (by decide +kernel) (by decide +kernel) (at_483) (by decide +kernel) rfl rfl rfl (Nat.le_of_ble_eq_true rfl) rfl hr544 ?_
  refine w_istore (n := 2139) (i := 7) (l1' := [some (.ref 1000000), some (.ref 0), some (.ref 483), some (.ref 497), some (.ref 498), some (.int y5), some (.int v533), some (.int v537), o8, o9]) (l2' := ((l2).filter (fun q => !(q.1 == 6) && !(q.1 + 1 == 6))).filter (fun q => !(q.1 == 7) && !(q.1 + 1 == 7))) (by decide +kernel) rfl (Nat.le_of_ble_eq_true rfl) rfl rfl ?_
  refine w_aload_n (n := 2140) (i := 2) (by decide +kernel) rfl rfl ?_
  obtain ⟨v539, M538, hLM538, hr543, h⟩ := h
  refine w_cV (n := 2143) (idx := 186) (cal := 154) (na := 0) (nl := 1) (as := []) (rest := []) hLM536 (by decide +kernel) (by decide +kernel) (at_483) (by decide +kernel) rfl rfl rfl (Nat.le_of_ble_eq_true rfl) rfl hr543 ?_
  refine w_iload (n := 2145) (i := 6) (by decide +kernel) rfl rfl ?_
  by_cases c542 : v539 = v533
  · rw [if_pos c542] at h
    refine w_icmp_eq_j (n := 2150) (off := 5) (by decide +kernel) (by decide) c542 ?_
    refine w_iload (n := 2152) (i := 6) (by decide +kernel) rfl rfl ?_
    by_cases c541 : v533 = 0
    · rw [if_pos c541] at h
      refine w_if_ne_n (n := 2155) (off := 15) (by decide +kernel) rfl c541 ?_
      refine w_aload_n (n := 2156) (i := 3) (by decide +kernel) rfl rfl ?_
      refine w_iconst (n := 2157) (v := 0) (x := 0) (by decide +kernel) rfl (by decide) ?_
      refine w_lald (n := 2158) (i := 0) hLM538 (by decide +kernel) (at_497) (an_497) ⟨by decide, by decide⟩ rfl ?_
      refine w_iload (n := 2160) (i := 7) (by decide +kernel) rfl rfl ?_
      refine w_i2l (n := 2161) (by decide +kernel) rfl ?_
      refine w_lcmp (n := 2162) (by decide +kernel) rfl ?_
      by_cases c540 : lg_cmp (ak_L M538 497 0) (v537.toInt64) = 0
      · rw [if_pos c540] at h
        refine w_if_eq_j (n := 2167) (off := 5) (by decide +kernel) (by decide) c540 ?_
        refine w_goto (n := 3274) (off := 1107) (by decide +kernel) (by decide) ?_
        exact h
      · rw [if_neg c540] at h
        refine w_if_eq_n (n := 2165) (off := 5) (by decide +kernel) rfl c540 ?_
        refine w_iconst (n := 2166) (v := 0) (x := 0) (by decide +kernel) rfl (by decide) ?_
        subst h
        exact w_ireturn (by decide +kernel) (by decide +kernel)
    · rw [if_neg c541] at h
      refine w_if_ne_j (n := 2167) (off := 15) (by decide +kernel) (by decide) c541 ?_
      refine w_goto (n := 3274) (off := 1107) (by decide +kernel) (by decide) ?_
      exact h
  · rw [if_neg c542] at h
    refine w_icmp_eq_n (n := 2148) (off := 5) (by decide +kernel) rfl c542 ?_
    refine w_iconst (n := 2149) (v := 0) (x := 0) (by decide +kernel) rfl (by decide) ?_
    subst h
    exact w_ireturn (by decide +kernel) (by decide +kernel)
theorem t_364_2170 {X : ak_X} {M : ak_M} {r : ak_O × ak_M} (hL : ab_lay M) (y5 : Int32) (o6 o7 o8 o9 : Option Value) (l2 : List (Nat × Value)) (h : (∃ i546 : Nat, ab_ix (y5 + 1) i546 X.1 ∧ (∃ i547 : Nat, ab_ix (y5 + 2) i547 X.1 ∧ (∃ i548 : Nat, ab_ix (y5 + 3) i548 X.1 ∧ (∃ (v550 : Int32) (M549 : ak_M), ab_lay M549 ∧ rn X 348 [.ref 0, .int (X.2.1 i546), .int (X.2.1 i547), .int (X.2.1 i548), .ref 497] M (.inl (some (.int v550)), M549) ∧ (∃ i551 : Nat, ab_ix (y5 + 1) i551 X.1 ∧ (∃ i552 : Nat, ab_ix (y5 + 2) i552 X.1 ∧ (∃ i553 : Nat, ab_ix (y5 + 3) i553 X.1 ∧ (∃ (v555 : Int32) (M554 : ak_M), ab_lay M554 ∧ rn X 253 [.ref 483, .int (X.2.1 i551), .int (X.2.1 i552), .int (X.2.1 i553)] M549 (.inl (some (.int v555)), M554) ∧ (∃ (v557 : Int32) (M556 : ak_M), ab_lay M556 ∧ rn X 154 [.ref 483] M554 (.inl (some (.int v557)), M556) ∧ (if v557 = v550 then (if v550 = 0 then (if lg_cmp (ak_L M556 497 0) (v555.toInt64) = 0 then sg X 364 (3274, [some (.ref 1000000), some (.ref 0), some (.ref 483), some (.ref 497), some (.ref 498), some (.int y5), some (.int v550), some (.int v555), o8, o9], ((l2).filter (fun q => !(q.1 == 6) && !(q.1 + 1 == 6))).filter (fun q => !(q.1 == 7) && !(q.1 + 1 == 7)), []) M556 r else r = (.inl (some (.int 0)), M556)) else sg X 364 (3274, [some (.ref 1000000), some (.ref 0), some (.ref 483), some (.ref 497), some (.ref 498), some (.int y5), some (.int v550), some (.int v555), o8, o9], ((l2).filter (fun q => !(q.1 == 6) && !(q.1 + 1 == 6))).filter (fun q => !(q.1 == 7) && !(q.1 + 1 == 7)), []) M556 r) else r = (.inl (some (.int 0)), M556)))))))))))) : sg X 364 (2170, [some (.ref 1000000), some (.ref 0), some (.ref 483), some (.ref 497), some (.ref 498), some (.int y5), o6, o7, o8, o9], l2, []) M r := by
  refine w_aload_n (n := 2171) (i := 1) (by decide +kernel) rfl rfl ?_
  refine w_aload_n (n := 2172) (i := 0) (by decide +kernel) rfl rfl ?_
  refine w_iload (n := 2174) (i := 5) (by decide +kernel) rfl rfl ?_
  refine w_iconst (n := 2175) (v := 1) (x := 1) (by decide +kernel) rfl (by decide) ?_
  refine w_iadd (n := 2176) (by decide +kernel) rfl ?_
  obtain ⟨i546, gi546, h⟩ := h
  refine w_sld (n := 2177) hL (by decide +kernel) gi546 rfl ?_
  refine w_aload_n (n := 2178) (i := 0) (by decide +kernel) rfl rfl ?_
  refine w_iload (n := 2180) (i := 5) (by decide +kernel) rfl rfl ?_
  refine w_iconst (n := 2181) (v := 2) (x := 2) (by decide +kernel) rfl (by decide) ?_
  refine w_iadd (n := 2182) (by decide +kernel) rfl ?_
  obtain ⟨i547, gi547, h⟩ := h
  refine w_sld (n := 2183) hL (by decide +kernel) gi547 rfl ?_
  refine w_aload_n (n := 2184) (i := 0) (by decide +kernel) rfl rfl ?_
  refine w_iload (n := 2186) (i := 5) (by decide +kernel) rfl rfl ?_
  refine w_iconst (n := 2187) (v := 3) (x := 3) (by decide +kernel) rfl (by decide) ?_
  refine w_iadd (n := 2188) (by decide +kernel) rfl ?_
  obtain ⟨i548, gi548, h⟩ := h
  refine w_sld (n := 2189) hL (by decide +kernel) gi548 rfl ?_
  refine w_aload_n (n := 2190) (i := 3) (by decide +kernel) rfl rfl ?_
  obtain ⟨v550, M549, hLM549, hr563, h⟩ := h
  refine w_cS (n := 2193) (idx := 283) (cal := 348) (na := 5) (nl := 5) (as := [.ref 0, .int (X.2.1 i546), .int (X.2.1 i547), .int (X.2.1 i548), .ref 497]) (rest := []) (by decide +kernel) (by decide +kernel) rfl rfl rfl (Nat.le_of_ble_eq_true rfl) rfl hr563 ?_
  refine w_istore (n := 2195) (i := 6) (l1' := [some (.ref 1000000), some (.ref 0), some (.ref 483), some (.ref 497), some (.ref 498), some (.int y5), some (.int v550), o7, o8, o9]) (l2' := (l2).filter (fun q => !(q.1 == 6) && !(q.1 + 1 == 6))) (by decide +kernel) rfl (Nat.le_of_ble_eq_true rfl) rfl rfl ?_
  refine w_aload_n (n := 2196) (i := 2) (by decide +kernel) rfl rfl ?_
  refine w_aload_n (n := 2197) (i := 0) (by decide +kernel) rfl rfl ?_
  refine w_iload (n := 2199) (i := 5) (by decide +kernel) rfl rfl ?_
  refine w_iconst (n := 2200) (v := 1) (x := 1) (by decide +kernel) rfl (by decide) ?_
  refine w_iadd (n := 2201) (by decide +kernel) rfl ?_
  obtain ⟨i551, gi551, h⟩ := h
  refine w_sld (n := 2202) hLM549 (by decide +kernel) gi551 rfl ?_
  refine w_aload_n (n := 2203) (i := 0) (by decide +kernel) rfl rfl ?_
  refine w_iload (n := 2205) (i := 5) (by decide +kernel) rfl rfl ?_
  refine w_iconst (n := 2206) (v := 2) (x := 2) (by decide +kernel) rfl (by decide) ?_
  refine w_iadd (n := 2207) (by decide +kernel) rfl ?_
  obtain ⟨i552, gi552, h⟩ := h
  refine w_sld (n := 2208) hLM549 (by decide +kernel) gi552 rfl ?_
  refine w_aload_n (n := 2209) (i := 0) (by decide +kernel) rfl rfl ?_
  refine w_iload (n := 2211) (i := 5) (by decide +kernel) rfl rfl ?_
  refine w_iconst (n := 2212) (v := 3) (x := 3) (by decide +kernel) rfl (by decide) ?_
  refine w_iadd (n := 2213) (by decide +kernel) rfl ?_
  obtain ⟨i553, gi553, h⟩ := h
  refine w_sld (n := 2214) hLM549 (by decide +kernel) gi553 rfl ?_
  obtain ⟨v555, M554, hLM554, hr562, h⟩ := h
  refine w_cV (n := 2217) (idx := 285) (cal := 253) (na := 3) (nl := 4) (as := [.int (X.2.1 i551), .int (X.2.1 i552), .int (X.2.1 i553)]) (rest := []) hLM549 (by decide +kernel) (by decide +kernel) (at_483) (by decide +kernel) rfl rfl rfl (Nat.le_of_ble_eq_true rfl) rfl hr562 ?_
  refine w_istore (n := 2219) (i := 7) (l1' := [some (.ref 1000000), some (.ref 0), some (.ref 483), some (.ref 497), some (.ref 498), some (.int y5), some (.int v550), some (.int v555), o8, o9]) (l2' := ((l2).filter (fun q => !(q.1 == 6) && !(q.1 + 1 == 6))).filter (fun q => !(q.1 == 7) && !(q.1 + 1 == 7))) (by decide +kernel) rfl (Nat.le_of_ble_eq_true rfl) rfl rfl ?_
  refine w_aload_n (n := 2220) (i := 2) (by decide +kernel) rfl rfl ?_
  obtain ⟨v557, M556, hLM556, hr561, h⟩ := h
  refine w_cV (n := 2223) (idx := 186) (cal := 154) (na := 0) (nl := 1) (as := []) (rest := []) hLM554 (by decide +kernel) (by decide +kernel) (at_483) (by decide +kernel) rfl rfl rfl (Nat.le_of_ble_eq_true rfl) rfl hr561 ?_
  refine w_iload (n := 2225) (i := 6) (by decide +kernel) rfl rfl ?_
  by_cases c560 : v557 = v550
  · rw [if_pos c560] at h
    refine w_icmp_eq_j (n := 2230) (off := 5) (by decide +kernel) (by decide) c560 ?_
    refine w_iload (n := 2232) (i := 6) (by decide +kernel) rfl rfl ?_
    by_cases c559 : v550 = 0
    · rw [if_pos c559] at h
      refine w_if_ne_n (n := 2235) (off := 15) (by decide +kernel) rfl c559 ?_
      refine w_aload_n (n := 2236) (i := 3) (by decide +kernel) rfl rfl ?_
      refine w_iconst (n := 2237) (v := 0) (x := 0) (by decide +kernel) rfl (by decide) ?_
      refine w_lald (n := 2238) (i := 0) hLM556 (by decide +kernel) (at_497) (an_497) ⟨by decide, by decide⟩ rfl ?_
      refine w_iload (n := 2240) (i := 7) (by decide +kernel) rfl rfl ?_
      refine w_i2l (n := 2241) (by decide +kernel) rfl ?_
      refine w_lcmp (n := 2242) (by decide +kernel) rfl ?_
      by_cases c558 : lg_cmp (ak_L M556 497 0) (v555.toInt64) = 0
      · rw [if_pos c558] at h
        refine w_if_eq_j (n := 2247) (off := 5) (by decide +kernel) (by decide) c558 ?_
        refine w_goto (n := 3274) (off := 1027) (by decide +kernel) (by decide) ?_
        exact h
      · rw [if_neg c558] at h
        refine w_if_eq_n (n := 2245) (off := 5) (by decide +kernel) rfl c558 ?_
        refine w_iconst (n := 2246) (v := 0) (x := 0) (by decide +kernel) rfl (by decide) ?_
        subst h
        exact w_ireturn (by decide +kernel) (by decide +kernel)
    · rw [if_neg c559] at h
      refine w_if_ne_j (n := 2247) (off := 15) (by decide +kernel) (by decide) c559 ?_
      refine w_goto (n := 3274) (off := 1027) (by decide +kernel) (by decide) ?_
      exact h
  · rw [if_neg c560] at h
    refine w_icmp_eq_n (n := 2228) (off := 5) (by decide +kernel) rfl c560 ?_
    refine w_iconst (n := 2229) (v := 0) (x := 0) (by decide +kernel) rfl (by decide) ?_
    subst h
    exact w_ireturn (by decide +kernel) (by decide +kernel)
theorem t_364_2250 {X : ak_X} {M : ak_M} {r : ak_O × ak_M} (hL : ab_lay M) (y5 : Int32) (o6 o7 o8 o9 : Option Value) (l2 : List (Nat × Value)) (h : (∃ i564 : Nat, ab_ix (y5 + 1) i564 X.1 ∧ (∃ i565 : Nat, ab_ix (y5 + 2) i565 X.1 ∧ (∃ (v567 : Int32) (M566 : ak_M), ab_lay M566 ∧ rn X 349 [.ref 0, .int (X.2.1 i564), .int (X.2.1 i565), .ref 497] M (.inl (some (.int v567)), M566) ∧ (∃ i568 : Nat, ab_ix (y5 + 1) i568 X.1 ∧ (∃ i569 : Nat, ab_ix (y5 + 2) i569 X.1 ∧ (∃ (v571 : Int32) (M570 : ak_M), ab_lay M570 ∧ rn X 255 [.ref 483, .int (X.2.1 i568), .int (X.2.1 i569)] M566 (.inl (some (.int v571)), M570) ∧ (∃ (v573 : Int32) (M572 : ak_M), ab_lay M572 ∧ rn X 154 [.ref 483] M570 (.inl (some (.int v573)), M572) ∧ (if v573 = v567 then (if v567 = 0 then (if lg_cmp (ak_L M572 497 0) (v571.toInt64) = 0 then sg X 364 (3274, [some (.ref 1000000), some (.ref 0), some (.ref 483), some (.ref 497), some (.ref 498), some (.int y5), some (.int v567), some (.int v571), o8, o9], ((l2).filter (fun q => !(q.1 == 6) && !(q.1 + 1 == 6))).filter (fun q => !(q.1 == 7) && !(q.1 + 1 == 7)), []) M572 r else r = (.inl (some (.int 0)), M572)) else sg X 364 (3274, [some (.ref 1000000), some (.ref 0), some (.ref 483), some (.ref 497), some (.ref 498), some (.int y5), some (.int v567), some (.int v571), o8, o9], ((l2).filter (fun q => !(q.1 == 6) && !(q.1 + 1 == 6))).filter (fun q => !(q.1 == 7) && !(q.1 + 1 == 7)), []) M572 r) else r = (.inl (some (.int 0)), M572)))))))))) : sg X 364 (2250, [some (.ref 1000000), some (.ref 0), some (.ref 483), some (.ref 497), some (.ref 498), some (.int y5), o6, o7, o8, o9], l2, []) M r := by
  refine w_aload_n (n := 2251) (i := 1) (by decide +kernel) rfl rfl ?_
  refine w_aload_n (n := 2252) (i := 0) (by decide +kernel) rfl rfl ?_
  refine w_iload (n := 2254) (i := 5) (by decide +kernel) rfl rfl ?_
  refine w_iconst (n := 2255) (v := 1) (x := 1) (by decide +kernel) rfl (by decide) ?_
  refine w_iadd (n := 2256) (by decide +kernel) rfl ?_
  obtain ⟨i564, gi564, h⟩ := h
  refine w_sld (n := 2257) hL (by decide +kernel) gi564 rfl ?_
  refine w_aload_n (n := 2258) (i := 0) (by decide +kernel) rfl rfl ?_
  refine w_iload (n := 2260) (i := 5) (by decide +kernel) rfl rfl ?_
  refine w_iconst (n := 2261) (v := 2) (x := 2) (by decide +kernel) rfl (by decide) ?_
  refine w_iadd (n := 2262) (by decide +kernel) rfl ?_
  obtain ⟨i565, gi565, h⟩ := h
  refine w_sld (n := 2263) hL (by decide +kernel) gi565 rfl ?_
  refine w_aload_n (n := 2264) (i := 3) (by decide +kernel) rfl rfl ?_
  obtain ⟨v567, M566, hLM566, hr579, h⟩ := h
  refine w_cS (n := 2267) (idx := 286) (cal := 349) (na := 4) (nl := 4) (as := [.ref 0, .int (X.2.1 i564), .int (X.2.1 i565), .ref 497]) (rest := []) (by decide +kernel) (by decide +kernel) rfl rfl rfl (Nat.le_of_ble_eq_true rfl) rfl hr579 ?_
  refine w_istore (n := 2269) (i := 6) (l1' := [some (.ref 1000000), some (.ref 0), some (.ref 483), some (.ref 497), some (.ref 498), some (.int y5), some (.int v567), o7, o8, o9]) (l2' := (l2).filter (fun q => !(q.1 == 6) && !(q.1 + 1 == 6))) (by decide +kernel) rfl (Nat.le_of_ble_eq_true rfl) rfl rfl ?_
  refine w_aload_n (n := 2270) (i := 2) (by decide +kernel) rfl rfl ?_
  refine w_aload_n (n := 2271) (i := 0) (by decide +kernel) rfl rfl ?_
  refine w_iload (n := 2273) (i := 5) (by decide +kernel) rfl rfl ?_
  refine w_iconst (n := 2274) (v := 1) (x := 1) (by decide +kernel) rfl (by decide) ?_
  refine w_iadd (n := 2275) (by decide +kernel) rfl ?_
  obtain ⟨i568, gi568, h⟩ := h
  refine w_sld (n := 2276) hLM566 (by decide +kernel) gi568 rfl ?_
  refine w_aload_n (n := 2277) (i := 0) (by decide +kernel) rfl rfl ?_
  refine w_iload (n := 2279) (i := 5) (by decide +kernel) rfl rfl ?_
  refine w_iconst (n := 2280) (v := 2) (x := 2) (by decide +kernel) rfl (by decide) ?_
  refine w_iadd (n := 2281) (by decide +kernel) rfl ?_
  obtain ⟨i569, gi569, h⟩ := h
  refine w_sld (n := 2282) hLM566 (by decide +kernel) gi569 rfl ?_
  obtain ⟨v571, M570, hLM570, hr578, h⟩ := h
  refine w_cV (n := 2285) (idx := 288) (cal := 255) (na := 2) (nl := 3) (as := [.int (X.2.1 i568), .int (X.2.1 i569)]) (rest := []) hLM566 (by decide +kernel) (by decide +kernel) (at_483) (by decide +kernel) rfl rfl rfl (Nat.le_of_ble_eq_true rfl) rfl hr578 ?_
  refine w_istore (n := 2287) (i := 7) (l1' := [some (.ref 1000000), some (.ref 0), some (.ref 483), some (.ref 497), some (.ref 498), some (.int y5), some (.int v567), some (.int v571), o8, o9]) (l2' := ((l2).filter (fun q => !(q.1 == 6) && !(q.1 + 1 == 6))).filter (fun q => !(q.1 == 7) && !(q.1 + 1 == 7))) (by decide +kernel) rfl (Nat.le_of_ble_eq_true rfl) rfl rfl ?_
  refine w_aload_n (n := 2288) (i := 2) (by decide +kernel) rfl rfl ?_
  obtain ⟨v573, M572, hLM572, hr577, h⟩ := h
  refine w_cV (n := 2291) (idx := 186) (cal := 154) (na := 0) (nl := 1) (as := []) (rest := []) hLM570 (by decide +kernel) (by decide +kernel) (at_483) (by decide +kernel) rfl rfl rfl (Nat.le_of_ble_eq_true rfl) rfl hr577 ?_
  refine w_iload (n := 2293) (i := 6) (by decide +kernel) rfl rfl ?_
  by_cases c576 : v573 = v567
  · rw [if_pos c576] at h
    refine w_icmp_eq_j (n := 2298) (off := 5) (by decide +kernel) (by decide) c576 ?_
    refine w_iload (n := 2300) (i := 6) (by decide +kernel) rfl rfl ?_
    by_cases c575 : v567 = 0
    · rw [if_pos c575] at h
      refine w_if_ne_n (n := 2303) (off := 15) (by decide +kernel) rfl c575 ?_
      refine w_aload_n (n := 2304) (i := 3) (by decide +kernel) rfl rfl ?_
      refine w_iconst (n := 2305) (v := 0) (x := 0) (by decide +kernel) rfl (by decide) ?_
      refine w_lald (n := 2306) (i := 0) hLM572 (by decide +kernel) (at_497) (an_497) ⟨by decide, by decide⟩ rfl ?_
      refine w_iload (n := 2308) (i := 7) (by decide +kernel) rfl rfl ?_
      refine w_i2l (n := 2309) (by decide +kernel) rfl ?_
      refine w_lcmp (n := 2310) (by decide +kernel) rfl ?_
      by_cases c574 : lg_cmp (ak_L M572 497 0) (v571.toInt64) = 0
      · rw [if_pos c574] at h
        refine w_if_eq_j (n := 2315) (off := 5) (by decide +kernel) (by decide) c574 ?_
        refine w_goto (n := 3274) (off := 959) (by decide +kernel) (by decide) ?_
        exact h
      · rw [if_neg c574] at h
        refine w_if_eq_n (n := 2313) (off := 5) (by decide +kernel) rfl c574 ?_
        refine w_iconst (n := 2314) (v := 0) (x := 0) (by decide +kernel) rfl (by decide) ?_
        subst h
        exact w_ireturn (by decide +kernel) (by decide +kernel)
    · rw [if_neg c575] at h
      refine w_if_ne_j (n := 2315) (off := 15) (by decide +kernel) (by decide) c575 ?_
      refine w_goto (n := 3274) (off := 959) (by decide +kernel) (by decide) ?_
      exact h
  · rw [if_neg c576] at h
    refine w_icmp_eq_n (n := 2296) (off := 5) (by decide +kernel) rfl c576 ?_
    refine w_iconst (n := 2297) (v := 0) (x := 0) (by decide +kernel) rfl (by decide) ?_
    subst h
    exact w_ireturn (by decide +kernel) (by decide +kernel)
theorem t_364_2318 {X : ak_X} {M : ak_M} {r : ak_O × ak_M} (hL : ab_lay M) (y5 : Int32) (o6 o7 o8 o9 : Option Value) (l2 : List (Nat × Value)) (h : (∃ i580 : Nat, ab_ix (y5 + 1) i580 X.1 ∧ (∃ i581 : Nat, ab_ix (y5 + 2) i581 X.1 ∧ (∃ (v583 : Int32) (M582 : ak_M), ab_lay M582 ∧ rn X 350 [.ref 0, .int (X.2.1 i580), .int (X.2.1 i581), .ref 497] M (.inl (some (.int v583)), M582) ∧ (∃ i584 : Nat, ab_ix (y5 + 1) i584 X.1 ∧ (∃ i585 : Nat, ab_ix (y5 + 2) i585 X.1 ∧ (∃ (v587 : Int32) (M586 : ak_M), ab_lay M586 ∧ rn X 256 [.ref 483, .int (X.2.1 i584), .int (X.2.1 i585)] M582 (.inl (some (.int v587)), M586) ∧ (∃ (v589 : Int32) (M588 : ak_M), ab_lay M588 ∧ rn X 154 [.ref 483] M586 (.inl (some (.int v589)), M588) ∧ (if v589 = v583 then (if v583 = 0 then (if lg_cmp (ak_L M588 497 0) (v587.toInt64) = 0 then sg X 364 (3274, [some (.ref 1000000), some (.ref 0), some (.ref 483), some (.ref 497), some (.ref 498), some (.int y5), some (.int v583), some (.int v587), o8, o9], ((l2).filter (fun q => !(q.1 == 6) && !(q.1 + 1 == 6))).filter (fun q => !(q.1 == 7) && !(q.1 + 1 == 7)), []) M588 r else r = (.inl (some (.int 0)), M588)) else sg X 364 (3274, [some (.ref 1000000), some (.ref 0), some (.ref 483), some (.ref 497), some (.ref 498), some (.int y5), some (.int v583), some (.int v587), o8, o9], ((l2).filter (fun q => !(q.1 == 6) && !(q.1 + 1 == 6))).filter (fun q => !(q.1 == 7) && !(q.1 + 1 == 7)), []) M588 r) else r = (.inl (some (.int 0)), M588)))))))))) : sg X 364 (2318, [some (.ref 1000000), some (.ref 0), some (.ref 483), some (.ref 497), some (.ref 498), some (.int y5), o6, o7, o8, o9], l2, []) M r := by
  refine w_aload_n (n := 2319) (i := 1) (by decide +kernel) rfl rfl ?_
  refine w_aload_n (n := 2320) (i := 0) (by decide +kernel) rfl rfl ?_
  refine w_iload (n := 2322) (i := 5) (by decide +kernel) rfl rfl ?_
  refine w_iconst (n := 2323) (v := 1) (x := 1) (by decide +kernel) rfl (by decide) ?_
  refine w_iadd (n := 2324) (by decide +kernel) rfl ?_
  obtain ⟨i580, gi580, h⟩ := h
  refine w_sld (n := 2325) hL (by decide +kernel) gi580 rfl ?_
  refine w_aload_n (n := 2326) (i := 0) (by decide +kernel) rfl rfl ?_
  refine w_iload (n := 2328) (i := 5) (by decide +kernel) rfl rfl ?_
  refine w_iconst (n := 2329) (v := 2) (x := 2) (by decide +kernel) rfl (by decide) ?_
  refine w_iadd (n := 2330) (by decide +kernel) rfl ?_
  obtain ⟨i581, gi581, h⟩ := h
  refine w_sld (n := 2331) hL (by decide +kernel) gi581 rfl ?_
  refine w_aload_n (n := 2332) (i := 3) (by decide +kernel) rfl rfl ?_
  obtain ⟨v583, M582, hLM582, hr595, h⟩ := h
  refine w_cS (n := 2335) (idx := 289) (cal := 350) (na := 4) (nl := 4) (as := [.ref 0, .int (X.2.1 i580), .int (X.2.1 i581), .ref 497]) (rest := []) (by decide +kernel) (by decide +kernel) rfl rfl rfl (Nat.le_of_ble_eq_true rfl) rfl hr595 ?_
  refine w_istore (n := 2337) (i := 6) (l1' := [some (.ref 1000000), some (.ref 0), some (.ref 483), some (.ref 497), some (.ref 498), some (.int y5), some (.int v583), o7, o8, o9]) (l2' := (l2).filter (fun q => !(q.1 == 6) && !(q.1 + 1 == 6))) (by decide +kernel) rfl (Nat.le_of_ble_eq_true rfl) rfl rfl ?_
  refine w_aload_n (n := 2338) (i := 2) (by decide +kernel) rfl rfl ?_
  refine w_aload_n (n := 2339) (i := 0) (by decide +kernel) rfl rfl ?_
  refine w_iload (n := 2341) (i := 5) (by decide +kernel) rfl rfl ?_
  refine w_iconst (n := 2342) (v := 1) (x := 1) (by decide +kernel) rfl (by decide) ?_
  refine w_iadd (n := 2343) (by decide +kernel) rfl ?_
  obtain ⟨i584, gi584, h⟩ := h
  refine w_sld (n := 2344) hLM582 (by decide +kernel) gi584 rfl ?_
  refine w_aload_n (n := 2345) (i := 0) (by decide +kernel) rfl rfl ?_
  refine w_iload (n := 2347) (i := 5) (by decide +kernel) rfl rfl ?_
  refine w_iconst (n := 2348) (v := 2) (x := 2) (by decide +kernel) rfl (by decide) ?_
  refine w_iadd (n := 2349) (by decide +kernel) rfl ?_
  obtain ⟨i585, gi585, h⟩ := h
  refine w_sld (n := 2350) hLM582 (by decide +kernel) gi585 rfl ?_
  obtain ⟨v587, M586, hLM586, hr594, h⟩ := h
  refine w_cV (n := 2353) (idx := 291) (cal := 256) (na := 2) (nl := 3) (as := [.int (X.2.1 i584), .int (X.2.1 i585)]) (rest := []) hLM582 (by decide +kernel) (by decide +kernel) (at_483) (by decide +kernel) rfl rfl rfl (Nat.le_of_ble_eq_true rfl) rfl hr594 ?_
  refine w_istore (n := 2355) (i := 7) (l1' := [some (.ref 1000000), some (.ref 0), some (.ref 483), some (.ref 497), some (.ref 498), some (.int y5), some (.int v583), some (.int v587), o8, o9]) (l2' := ((l2).filter (fun q => !(q.1 == 6) && !(q.1 + 1 == 6))).filter (fun q => !(q.1 == 7) && !(q.1 + 1 == 7))) (by decide +kernel) rfl (Nat.le_of_ble_eq_true rfl) rfl rfl ?_
  refine w_aload_n (n := 2356) (i := 2) (by decide +kernel) rfl rfl ?_
  obtain ⟨v589, M588, hLM588, hr593, h⟩ := h
  refine w_cV (n := 2359) (idx := 186) (cal := 154) (na := 0) (nl := 1) (as := []) (rest := []) hLM586 (by decide +kernel) (by decide +kernel) (at_483) (by decide +kernel) rfl rfl rfl (Nat.le_of_ble_eq_true rfl) rfl hr593 ?_
  refine w_iload (n := 2361) (i := 6) (by decide +kernel) rfl rfl ?_
  by_cases c592 : v589 = v583
  · rw [if_pos c592] at h
    refine w_icmp_eq_j (n := 2366) (off := 5) (by decide +kernel) (by decide) c592 ?_
    refine w_iload (n := 2368) (i := 6) (by decide +kernel) rfl rfl ?_
    by_cases c591 : v583 = 0
    · rw [if_pos c591] at h
      refine w_if_ne_n (n := 2371) (off := 15) (by decide +kernel) rfl c591 ?_
      refine w_aload_n (n := 2372) (i := 3) (by decide +kernel) rfl rfl ?_
      refine w_iconst (n := 2373) (v := 0) (x := 0) (by decide +kernel) rfl (by decide) ?_
      refine w_lald (n := 2374) (i := 0) hLM588 (by decide +kernel) (at_497) (an_497) ⟨by decide, by decide⟩ rfl ?_
      refine w_iload (n := 2376) (i := 7) (by decide +kernel) rfl rfl ?_
      refine w_i2l (n := 2377) (by decide +kernel) rfl ?_
      refine w_lcmp (n := 2378) (by decide +kernel) rfl ?_
      by_cases c590 : lg_cmp (ak_L M588 497 0) (v587.toInt64) = 0
      · rw [if_pos c590] at h
        refine w_if_eq_j (n := 2383) (off := 5) (by decide +kernel) (by decide) c590 ?_
        refine w_goto (n := 3274) (off := 891) (by decide +kernel) (by decide) ?_
        exact h
      · rw [if_neg c590] at h
        refine w_if_eq_n (n := 2381) (off := 5) (by decide +kernel) rfl c590 ?_
        refine w_iconst (n := 2382) (v := 0) (x := 0) (by decide +kernel) rfl (by decide) ?_
        subst h
        exact w_ireturn (by decide +kernel) (by decide +kernel)
    · rw [if_neg c591] at h
      refine w_if_ne_j (n := 2383) (off := 15) (by decide +kernel) (by decide) c591 ?_
      refine w_goto (n := 3274) (off := 891) (by decide +kernel) (by decide) ?_
      exact h
  · rw [if_neg c592] at h
    refine w_icmp_eq_n (n := 2364) (off := 5) (by decide +kernel) rfl c592 ?_
    refine w_iconst (n := 2365) (v := 0) (x := 0) (by decide +kernel) rfl (by decide) ?_
    subst h
    exact w_ireturn (by decide +kernel) (by decide +kernel)
theorem t_364_2386 {X : ak_X} {M : ak_M} {r : ak_O × ak_M} (hL : ab_lay M) (y5 : Int32) (o6 o7 o8 o9 : Option Value) (l2 : List (Nat × Value)) (h : (∃ i596 : Nat, ab_ix (y5 + 1) i596 X.1 ∧ (∃ i597 : Nat, ab_ix (y5 + 2) i597 X.1 ∧ (∃ (v599 : Int32) (M598 : ak_M), ab_lay M598 ∧ rn X 351 [.ref 0, .int (X.2.1 i596), .int (X.2.1 i597), .ref 497] M (.inl (some (.int v599)), M598) ∧ (∃ i600 : Nat, ab_ix (y5 + 1) i600 X.1 ∧ (∃ i601 : Nat, ab_ix (y5 + 2) i601 X.1 ∧ (∃ (v603 : Int32) (M602 : ak_M), ab_lay M602 ∧ rn X 257 [.ref 483, .int (X.2.1 i600), .int (X.2.1 i601)] M598 (.inl (some (.int v603)), M602) ∧ (∃ (v605 : Int32) (M604 : ak_M), ab_lay M604 ∧ rn X 154 [.ref 483] M602 (.inl (some (.int v605)), M604) ∧ (if v605 = v599 then (if v599 = 0 then (if lg_cmp (ak_L M604 497 0) (v603.toInt64) = 0 then sg X 364 (3274, [some (.ref 1000000), some (.ref 0), some (.ref 483), some (.ref 497), some (.ref 498), some (.int y5), some (.int v599), some (.int v603), o8, o9], ((l2).filter (fun q => !(q.1 == 6) && !(q.1 + 1 == 6))).filter (fun q => !(q.1 == 7) && !(q.1 + 1 == 7)), []) M604 r else r = (.inl (some (.int 0)), M604)) else sg X 364 (3274, [some (.ref 1000000), some (.ref 0), some (.ref 483), some (.ref 497), some (.ref 498), some (.int y5), some (.int v599), some (.int v603), o8, o9], ((l2).filter (fun q => !(q.1 == 6) && !(q.1 + 1 == 6))).filter (fun q => !(q.1 == 7) && !(q.1 + 1 == 7)), []) M604 r) else r = (.inl (some (.int 0)), M604)))))))))) : sg X 364 (2386, [some (.ref 1000000), some (.ref 0), some (.ref 483), some (.ref 497), some (.ref 498), some (.int y5), o6, o7, o8, o9], l2, []) M r := by
  refine w_aload_n (n := 2387) (i := 1) (by decide +kernel) rfl rfl ?_
  refine w_aload_n (n := 2388) (i := 0) (by decide +kernel) rfl rfl ?_
  refine w_iload (n := 2390) (i := 5) (by decide +kernel) rfl rfl ?_
  refine w_iconst (n := 2391) (v := 1) (x := 1) (by decide +kernel) rfl (by decide) ?_
  refine w_iadd (n := 2392) (by decide +kernel) rfl ?_
  obtain ⟨i596, gi596, h⟩ := h
  refine w_sld (n := 2393) hL (by decide +kernel) gi596 rfl ?_
  refine w_aload_n (n := 2394) (i := 0) (by decide +kernel) rfl rfl ?_
  refine w_iload (n := 2396) (i := 5) (by decide +kernel) rfl rfl ?_
  refine w_iconst (n := 2397) (v := 2) (x := 2) (by decide +kernel) rfl (by decide) ?_
  refine w_iadd (n := 2398) (by decide +kernel) rfl ?_
  obtain ⟨i597, gi597, h⟩ := h
  refine w_sld (n := 2399) hL (by decide +kernel) gi597 rfl ?_
  refine w_aload_n (n := 2400) (i := 3) (by decide +kernel) rfl rfl ?_
  obtain ⟨v599, M598, hLM598, hr611, h⟩ := h
  refine w_cS (n := 2403) (idx := 292) (cal := 351) (na := 4) (nl := 4) (as := [.ref 0, .int (X.2.1 i596), .int (X.2.1 i597), .ref 497]) (rest := []) (by decide +kernel) (by decide +kernel) rfl rfl rfl (Nat.le_of_ble_eq_true rfl) rfl hr611 ?_
  refine w_istore (n := 2405) (i := 6) (l1' := [some (.ref 1000000), some (.ref 0), some (.ref 483), some (.ref 497), some (.ref 498), some (.int y5), some (.int v599), o7, o8, o9]) (l2' := (l2).filter (fun q => !(q.1 == 6) && !(q.1 + 1 == 6))) (by decide +kernel) rfl (Nat.le_of_ble_eq_true rfl) rfl rfl ?_
  refine w_aload_n (n := 2406) (i := 2) (by decide +kernel) rfl rfl ?_
  refine w_aload_n (n := 2407) (i := 0) (by decide +kernel) rfl rfl ?_
  refine w_iload (n := 2409) (i := 5) (by decide +kernel) rfl rfl ?_
  refine w_iconst (n := 2410) (v := 1) (x := 1) (by decide +kernel) rfl (by decide) ?_
  refine w_iadd (n := 2411) (by decide +kernel) rfl ?_
  obtain ⟨i600, gi600, h⟩ := h
  refine w_sld (n := 2412) hLM598 (by decide +kernel) gi600 rfl ?_
  refine w_aload_n (n := 2413) (i := 0) (by decide +kernel) rfl rfl ?_
  refine w_iload (n := 2415) (i := 5) (by decide +kernel) rfl rfl ?_
  refine w_iconst (n := 2416) (v := 2) (x := 2) (by decide +kernel) rfl (by decide) ?_
  refine w_iadd (n := 2417) (by decide +kernel) rfl ?_
  obtain ⟨i601, gi601, h⟩ := h
  refine w_sld (n := 2418) hLM598 (by decide +kernel) gi601 rfl ?_
  obtain ⟨v603, M602, hLM602, hr610, h⟩ := h
  refine w_cV (n := 2421) (idx := 294) (cal := 257) (na := 2) (nl := 3) (as := [.int (X.2.1 i600), .int (X.2.1 i601)]) (rest := []) hLM598 (by decide +kernel) (by decide +kernel) (at_483) (by decide +kernel) rfl rfl rfl (Nat.le_of_ble_eq_true rfl) rfl hr610 ?_
  refine w_istore (n := 2423) (i := 7) (l1' := [some (.ref 1000000), some (.ref 0), some (.ref 483), some (.ref 497), some (.ref 498), some (.int y5), some (.int v599), some (.int v603), o8, o9]) (l2' := ((l2).filter (fun q => !(q.1 == 6) && !(q.1 + 1 == 6))).filter (fun q => !(q.1 == 7) && !(q.1 + 1 == 7))) (by decide +kernel) rfl (Nat.le_of_ble_eq_true rfl) rfl rfl ?_
  refine w_aload_n (n := 2424) (i := 2) (by decide +kernel) rfl rfl ?_
  obtain ⟨v605, M604, hLM604, hr609, h⟩ := h
  refine w_cV (n := 2427) (idx := 186) (cal := 154) (na := 0) (nl := 1) (as := []) (rest := []) hLM602 (by decide +kernel) (by decide +kernel) (at_483) (by decide +kernel) rfl rfl rfl (Nat.le_of_ble_eq_true rfl) rfl hr609 ?_
  refine w_iload (n := 2429) (i := 6) (by decide +kernel) rfl rfl ?_
  by_cases c608 : v605 = v599
  · rw [if_pos c608] at h
    refine w_icmp_eq_j (n := 2434) (off := 5) (by decide +kernel) (by decide) c608 ?_
    refine w_iload (n := 2436) (i := 6) (by decide +kernel) rfl rfl ?_
    by_cases c607 : v599 = 0
    · rw [if_pos c607] at h
      refine w_if_ne_n (n := 2439) (off := 15) (by decide +kernel) rfl c607 ?_
      refine w_aload_n (n := 2440) (i := 3) (by decide +kernel) rfl rfl ?_
      refine w_iconst (n := 2441) (v := 0) (x := 0) (by decide +kernel) rfl (by decide) ?_
      refine w_lald (n := 2442) (i := 0) hLM604 (by decide +kernel) (at_497) (an_497) ⟨by decide, by decide⟩ rfl ?_
      refine w_iload (n := 2444) (i := 7) (by decide +kernel) rfl rfl ?_
      refine w_i2l (n := 2445) (by decide +kernel) rfl ?_
      refine w_lcmp (n := 2446) (by decide +kernel) rfl ?_
      by_cases c606 : lg_cmp (ak_L M604 497 0) (v603.toInt64) = 0
      · rw [if_pos c606] at h
        refine w_if_eq_j (n := 2451) (off := 5) (by decide +kernel) (by decide) c606 ?_
        refine w_goto (n := 3274) (off := 823) (by decide +kernel) (by decide) ?_
        exact h
      · rw [if_neg c606] at h
        refine w_if_eq_n (n := 2449) (off := 5) (by decide +kernel) rfl c606 ?_
        refine w_iconst (n := 2450) (v := 0) (x := 0) (by decide +kernel) rfl (by decide) ?_
        subst h
        exact w_ireturn (by decide +kernel) (by decide +kernel)
    · rw [if_neg c607] at h
      refine w_if_ne_j (n := 2451) (off := 15) (by decide +kernel) (by decide) c607 ?_
      refine w_goto (n := 3274) (off := 823) (by decide +kernel) (by decide) ?_
      exact h
  · rw [if_neg c608] at h
    refine w_icmp_eq_n (n := 2432) (off := 5) (by decide +kernel) rfl c608 ?_
    refine w_iconst (n := 2433) (v := 0) (x := 0) (by decide +kernel) rfl (by decide) ?_
    subst h
    exact w_ireturn (by decide +kernel) (by decide +kernel)
theorem t_364_2454 {X : ak_X} {M : ak_M} {r : ak_O × ak_M} (hL : ab_lay M) (y5 : Int32) (o6 o7 o8 o9 : Option Value) (l2 : List (Nat × Value)) (h : (∃ i612 : Nat, ab_ix (y5 + 1) i612 X.1 ∧ (∃ (v614 : Int32) (M613 : ak_M), ab_lay M613 ∧ rn X 352 [.ref 0, .int (X.2.1 i612), .ref 497] M (.inl (some (.int v614)), M613) ∧ (∃ i615 : Nat, ab_ix (y5 + 1) i615 X.1 ∧ (∃ (v617 : Int32) (M616 : ak_M), ab_lay M616 ∧ rn X 258 [.ref 483, .int (X.2.1 i615)] M613 (.inl (some (.int v617)), M616) ∧ (∃ (v619 : Int32) (M618 : ak_M), ab_lay M618 ∧ rn X 154 [.ref 483] M616 (.inl (some (.int v619)), M618) ∧ (if v619 = v614 then (if v614 = 0 then (if lg_cmp (ak_L M618 497 0) (v617.toInt64) = 0 then sg X 364 (3274, [some (.ref 1000000), some (.ref 0), some (.ref 483), some (.ref 497), some (.ref 498), some (.int y5), some (.int v614), some (.int v617), o8, o9], ((l2).filter (fun q => !(q.1 == 6) && !(q.1 + 1 == 6))).filter (fun q => !(q.1 == 7) && !(q.1 + 1 == 7)), []) M618 r else r = (.inl (some (.int 0)), M618)) else sg X 364 (3274, [some (.ref 1000000), some (.ref 0), some (.ref 483), some (.ref 497), some (.ref 498), some (.int y5), some (.int v614), some (.int v617), o8, o9], ((l2).filter (fun q => !(q.1 == 6) && !(q.1 + 1 == 6))).filter (fun q => !(q.1 == 7) && !(q.1 + 1 == 7)), []) M618 r) else r = (.inl (some (.int 0)), M618)))))))) : sg X 364 (2454, [some (.ref 1000000), some (.ref 0), some (.ref 483), some (.ref 497), some (.ref 498), some (.int y5), o6, o7, o8, o9], l2, []) M r := by
  refine w_aload_n (n := 2455) (i := 1) (by decide +kernel) rfl rfl ?_
  refine w_aload_n (n := 2456) (i := 0) (by decide +kernel) rfl rfl ?_
  refine w_iload (n := 2458) (i := 5) (by decide +kernel) rfl rfl ?_
  refine w_iconst (n := 2459) (v := 1) (x := 1) (by decide +kernel) rfl (by decide) ?_
  refine w_iadd (n := 2460) (by decide +kernel) rfl ?_
  obtain ⟨i612, gi612, h⟩ := h
  refine w_sld (n := 2461) hL (by decide +kernel) gi612 rfl ?_
  refine w_aload_n (n := 2462) (i := 3) (by decide +kernel) rfl rfl ?_
  obtain ⟨v614, M613, hLM613, hr625, h⟩ := h
  refine w_cS (n := 2465) (idx := 295) (cal := 352) (na := 3) (nl := 3) (as := [.ref 0, .int (X.2.1 i612), .ref 497]) (rest := []) (by decide +kernel) (by decide +kernel) rfl rfl rfl (Nat.le_of_ble_eq_true rfl) rfl hr625 ?_
  refine w_istore (n := 2467) (i := 6) (l1' := [some (.ref 1000000), some (.ref 0), some (.ref 483), some (.ref 497), some (.ref 498), some (.int y5), some (.int v614), o7, o8, o9]) (l2' := (l2).filter (fun q => !(q.1 == 6) && !(q.1 + 1 == 6))) (by decide +kernel) rfl (Nat.le_of_ble_eq_true rfl) rfl rfl ?_
  refine w_aload_n (n := 2468) (i := 2) (by decide +kernel) rfl rfl ?_
  refine w_aload_n (n := 2469) (i := 0) (by decide +kernel) rfl rfl ?_
  refine w_iload (n := 2471) (i := 5) (by decide +kernel) rfl rfl ?_
  refine w_iconst (n := 2472) (v := 1) (x := 1) (by decide +kernel) rfl (by decide) ?_
  refine w_iadd (n := 2473) (by decide +kernel) rfl ?_
  obtain ⟨i615, gi615, h⟩ := h
  refine w_sld (n := 2474) hLM613 (by decide +kernel) gi615 rfl ?_
  obtain ⟨v617, M616, hLM616, hr624, h⟩ := h
  refine w_cV (n := 2477) (idx := 297) (cal := 258) (na := 1) (nl := 2) (as := [.int (X.2.1 i615)]) (rest := []) hLM613 (by decide +kernel) (by decide +kernel) (at_483) (by decide +kernel) rfl rfl rfl (Nat.le_of_ble_eq_true rfl) rfl hr624 ?_
  refine w_istore (n := 2479) (i := 7) (l1' := [some (.ref 1000000), some (.ref 0), some (.ref 483), some (.ref 497), some (.ref 498), some (.int y5), some (.int v614), some (.int v617), o8, o9]) (l2' := ((l2).filter (fun q => !(q.1 == 6) && !(q.1 + 1 == 6))).filter (fun q => !(q.1 == 7) && !(q.1 + 1 == 7))) (by decide +kernel) rfl (Nat.le_of_ble_eq_true rfl) rfl rfl ?_
  refine w_aload_n (n := 2480) (i := 2) (by decide +kernel) rfl rfl ?_
  obtain ⟨v619, M618, hLM618, hr623, h⟩ := h
  refine w_cV (n := 2483) (idx := 186) (cal := 154) (na := 0) (nl := 1) (as := []) (rest := []) hLM616 (by decide +kernel) (by decide +kernel) (at_483) (by decide +kernel) rfl rfl rfl (Nat.le_of_ble_eq_true rfl) rfl hr623 ?_
  refine w_iload (n := 2485) (i := 6) (by decide +kernel) rfl rfl ?_
  by_cases c622 : v619 = v614
  · rw [if_pos c622] at h
    refine w_icmp_eq_j (n := 2490) (off := 5) (by decide +kernel) (by decide) c622 ?_
    refine w_iload (n := 2492) (i := 6) (by decide +kernel) rfl rfl ?_
    by_cases c621 : v614 = 0
    · rw [if_pos c621] at h
      refine w_if_ne_n (n := 2495) (off := 15) (by decide +kernel) rfl c621 ?_
      refine w_aload_n (n := 2496) (i := 3) (by decide +kernel) rfl rfl ?_
      refine w_iconst (n := 2497) (v := 0) (x := 0) (by decide +kernel) rfl (by decide) ?_
      refine w_lald (n := 2498) (i := 0) hLM618 (by decide +kernel) (at_497) (an_497) ⟨by decide, by decide⟩ rfl ?_
      refine w_iload (n := 2500) (i := 7) (by decide +kernel) rfl rfl ?_
      refine w_i2l (n := 2501) (by decide +kernel) rfl ?_
      refine w_lcmp (n := 2502) (by decide +kernel) rfl ?_
      by_cases c620 : lg_cmp (ak_L M618 497 0) (v617.toInt64) = 0
      · rw [if_pos c620] at h
        refine w_if_eq_j (n := 2507) (off := 5) (by decide +kernel) (by decide) c620 ?_
        refine w_goto (n := 3274) (off := 767) (by decide +kernel) (by decide) ?_
        exact h
      · rw [if_neg c620] at h
        refine w_if_eq_n (n := 2505) (off := 5) (by decide +kernel) rfl c620 ?_
        refine w_iconst (n := 2506) (v := 0) (x := 0) (by decide +kernel) rfl (by decide) ?_
        subst h
        exact w_ireturn (by decide +kernel) (by decide +kernel)
    · rw [if_neg c621] at h
      refine w_if_ne_j (n := 2507) (off := 15) (by decide +kernel) (by decide) c621 ?_
      refine w_goto (n := 3274) (off := 767) (by decide +kernel) (by decide) ?_
      exact h
  · rw [if_neg c622] at h
    refine w_icmp_eq_n (n := 2488) (off := 5) (by decide +kernel) rfl c622 ?_
    refine w_iconst (n := 2489) (v := 0) (x := 0) (by decide +kernel) rfl (by decide) ?_
    subst h
    exact w_ireturn (by decide +kernel) (by decide +kernel)
theorem t_364_2510 {X : ak_X} {M : ak_M} {r : ak_O × ak_M} (hL : ab_lay M) (y5 : Int32) (o6 o7 o8 o9 : Option Value) (l2 : List (Nat × Value)) (h : (∃ i626 : Nat, ab_ix (y5 + 1) i626 X.1 ∧ (∃ (v628 : Int32) (M627 : ak_M), ab_lay M627 ∧ rn X 353 [.ref 0, .int (X.2.1 i626), .ref 497] M (.inl (some (.int v628)), M627) ∧ (∃ i629 : Nat, ab_ix (y5 + 1) i629 X.1 ∧ (∃ (v631 : Int32) (M630 : ak_M), ab_lay M630 ∧ rn X 260 [.ref 483, .int (X.2.1 i629)] M627 (.inl (some (.int v631)), M630) ∧ (∃ (v633 : Int32) (M632 : ak_M), ab_lay M632 ∧ rn X 154 [.ref 483] M630 (.inl (some (.int v633)), M632) ∧ (if v633 = v628 then (if v628 = 0 then (if lg_cmp (ak_L M632 497 0) (v631.toInt64) = 0 then sg X 364 (3274, [some (.ref 1000000), some (.ref 0), some (.ref 483), some (.ref 497), some (.ref 498), some (.int y5), some (.int v628), some (.int v631), o8, o9], ((l2).filter (fun q => !(q.1 == 6) && !(q.1 + 1 == 6))).filter (fun q => !(q.1 == 7) && !(q.1 + 1 == 7)), []) M632 r else r = (.inl (some (.int 0)), M632)) else sg X 364 (3274, [some (.ref 1000000), some (.ref 0), some (.ref 483), some (.ref 497), some (.ref 498), some (.int y5), some (.int v628), some (.int v631), o8, o9], ((l2).filter (fun q => !(q.1 == 6) && !(q.1 + 1 == 6))).filter (fun q => !(q.1 == 7) && !(q.1 + 1 == 7)), []) M632 r) else r = (.inl (some (.int 0)), M632)))))))) : sg X 364 (2510, [some (.ref 1000000), some (.ref 0), some (.ref 483), some (.ref 497), some (.ref 498), some (.int y5), o6, o7, o8, o9], l2, []) M r := by
  refine w_aload_n (n := 2511) (i := 1) (by decide +kernel) rfl rfl ?_
  refine w_aload_n (n := 2512) (i := 0) (by decide +kernel) rfl rfl ?_
  refine w_iload (n := 2514) (i := 5) (by decide +kernel) rfl rfl ?_
  refine w_iconst (n := 2515) (v := 1) (x := 1) (by decide +kernel) rfl (by decide) ?_
  refine w_iadd (n := 2516) (by decide +kernel) rfl ?_
  obtain ⟨i626, gi626, h⟩ := h
  refine w_sld (n := 2517) hL (by decide +kernel) gi626 rfl ?_
  refine w_aload_n (n := 2518) (i := 3) (by decide +kernel) rfl rfl ?_
  obtain ⟨v628, M627, hLM627, hr639, h⟩ := h
  refine w_cS (n := 2521) (idx := 298) (cal := 353) (na := 3) (nl := 3) (as := [.ref 0, .int (X.2.1 i626), .ref 497]) (rest := []) (by decide +kernel) (by decide +kernel) rfl rfl rfl (Nat.le_of_ble_eq_true rfl) rfl hr639 ?_
  refine w_istore (n := 2523) (i := 6) (l1' := [some (.ref 1000000), some (.ref 0), some (.ref 483), some (.ref 497), some (.ref 498), some (.int y5), some (.int v628), o7, o8, o9]) (l2' := (l2).filter (fun q => !(q.1 == 6) && !(q.1 + 1 == 6))) (by decide +kernel) rfl (Nat.le_of_ble_eq_true rfl) rfl rfl ?_
  refine w_aload_n (n := 2524) (i := 2) (by decide +kernel) rfl rfl ?_
  refine w_aload_n (n := 2525) (i := 0) (by decide +kernel) rfl rfl ?_
  refine w_iload (n := 2527) (i := 5) (by decide +kernel) rfl rfl ?_
  refine w_iconst (n := 2528) (v := 1) (x := 1) (by decide +kernel) rfl (by decide) ?_
  refine w_iadd (n := 2529) (by decide +kernel) rfl ?_
  obtain ⟨i629, gi629, h⟩ := h
  refine w_sld (n := 2530) hLM627 (by decide +kernel) gi629 rfl ?_
  obtain ⟨v631, M630, hLM630, hr638, h⟩ := h
  refine w_cV (n := 2533) (idx := 300) (cal := 260) (na := 1) (nl := 2) (as := [.int (X.2.1 i629)]) (rest := []) hLM627 (by decide +kernel) (by decide +kernel) (at_483) (by decide +kernel) rfl rfl rfl (Nat.le_of_ble_eq_true rfl) rfl hr638 ?_
  refine w_istore (n := 2535) (i := 7) (l1' := [some (.ref 1000000), some (.ref 0), some (.ref 483), some (.ref 497), some (.ref 498), some (.int y5), some (.int v628), some (.int v631), o8, o9]) (l2' := ((l2).filter (fun q => !(q.1 == 6) && !(q.1 + 1 == 6))).filter (fun q => !(q.1 == 7) && !(q.1 + 1 == 7))) (by decide +kernel) rfl (Nat.le_of_ble_eq_true rfl) rfl rfl ?_
  refine w_aload_n (n := 2536) (i := 2) (by decide +kernel) rfl rfl ?_
  obtain ⟨v633, M632, hLM632, hr637, h⟩ := h
  refine w_cV (n := 2539) (idx := 186) (cal := 154) (na := 0) (nl := 1) (as := []) (rest := []) hLM630 (by decide +kernel) (by decide +kernel) (at_483) (by decide +kernel) rfl rfl rfl (Nat.le_of_ble_eq_true rfl) rfl hr637 ?_
  refine w_iload (n := 2541) (i := 6) (by decide +kernel) rfl rfl ?_
  by_cases c636 : v633 = v628
  · rw [if_pos c636] at h
    refine w_icmp_eq_j (n := 2546) (off := 5) (by decide +kernel) (by decide) c636 ?_
    refine w_iload (n := 2548) (i := 6) (by decide +kernel) rfl rfl ?_
    by_cases c635 : v628 = 0
    · rw [if_pos c635] at h
      refine w_if_ne_n (n := 2551) (off := 15) (by decide +kernel) rfl c635 ?_
      refine w_aload_n (n := 2552) (i := 3) (by decide +kernel) rfl rfl ?_
      refine w_iconst (n := 2553) (v := 0) (x := 0) (by decide +kernel) rfl (by decide) ?_
      refine w_lald (n := 2554) (i := 0) hLM632 (by decide +kernel) (at_497) (an_497) ⟨by decide, by decide⟩ rfl ?_
      refine w_iload (n := 2556) (i := 7) (by decide +kernel) rfl rfl ?_
      refine w_i2l (n := 2557) (by decide +kernel) rfl ?_
      refine w_lcmp (n := 2558) (by decide +kernel) rfl ?_
      by_cases c634 : lg_cmp (ak_L M632 497 0) (v631.toInt64) = 0
      · rw [if_pos c634] at h
        refine w_if_eq_j (n := 2563) (off := 5) (by decide +kernel) (by decide) c634 ?_
        refine w_goto (n := 3274) (off := 711) (by decide +kernel) (by decide) ?_
        exact h
      · rw [if_neg c634] at h
        refine w_if_eq_n (n := 2561) (off := 5) (by decide +kernel) rfl c634 ?_
        refine w_iconst (n := 2562) (v := 0) (x := 0) (by decide +kernel) rfl (by decide) ?_
        subst h
        exact w_ireturn (by decide +kernel) (by decide +kernel)
    · rw [if_neg c635] at h
      refine w_if_ne_j (n := 2563) (off := 15) (by decide +kernel) (by decide) c635 ?_
      refine w_goto (n := 3274) (off := 711) (by decide +kernel) (by decide) ?_
      exact h
  · rw [if_neg c636] at h
    refine w_icmp_eq_n (n := 2544) (off := 5) (by decide +kernel) rfl c636 ?_
    refine w_iconst (n := 2545) (v := 0) (x := 0) (by decide +kernel) rfl (by decide) ?_
    subst h
    exact w_ireturn (by decide +kernel) (by decide +kernel)
theorem t_364_2566 {X : ak_X} {M : ak_M} {r : ak_O × ak_M} (hL : ab_lay M) (y5 : Int32) (o6 o7 o8 o9 : Option Value) (l2 : List (Nat × Value)) (h : (∃ i640 : Nat, ab_ix (y5 + 1) i640 X.1 ∧ (∃ i641 : Nat, ab_ix (y5 + 2) i641 X.1 ∧ (∃ (v643 : Int32) (M642 : ak_M), ab_lay M642 ∧ rn X 354 [.ref 0, .int (X.2.1 i640), .int (X.2.1 i641), .ref 497] M (.inl (some (.int v643)), M642) ∧ (∃ i644 : Nat, ab_ix (y5 + 1) i644 X.1 ∧ (∃ i645 : Nat, ab_ix (y5 + 2) i645 X.1 ∧ (∃ (v647 : Int32) (M646 : ak_M), ab_lay M646 ∧ rn X 261 [.ref 483, .int (X.2.1 i644), .int (X.2.1 i645)] M642 (.inl (some (.int v647)), M646) ∧ (∃ (v649 : Int32) (M648 : ak_M), ab_lay M648 ∧ rn X 154 [.ref 483] M646 (.inl (some (.int v649)), M648) ∧ (if v649 = v643 then (if v643 = 0 then (if lg_cmp (ak_L M648 497 0) (v647.toInt64) = 0 then sg X 364 (3274, [some (.ref 1000000), some (.ref 0), some (.ref 483), some (.ref 497), some (.ref 498), some (.int y5), some (.int v643), some (.int v647), o8, o9], ((l2).filter (fun q => !(q.1 == 6) && !(q.1 + 1 == 6))).filter (fun q => !(q.1 == 7) && !(q.1 + 1 == 7)), []) M648 r else r = (.inl (some (.int 0)), M648)) else sg X 364 (3274, [some (.ref 1000000), some (.ref 0), some (.ref 483), some (.ref 497), some (.ref 498), some (.int y5), some (.int v643), some (.int v647), o8, o9], ((l2).filter (fun q => !(q.1 == 6) && !(q.1 + 1 == 6))).filter (fun q => !(q.1 == 7) && !(q.1 + 1 == 7)), []) M648 r) else r = (.inl (some (.int 0)), M648)))))))))) : sg X 364 (2566, [some (.ref 1000000), some (.ref 0), some (.ref 483), some (.ref 497), some (.ref 498), some (.int y5), o6, o7, o8, o9], l2, []) M r := by
  refine w_aload_n (n := 2567) (i := 1) (by decide +kernel) rfl rfl ?_
  refine w_aload_n (n := 2568) (i := 0) (by decide +kernel) rfl rfl ?_
  refine w_iload (n := 2570) (i := 5) (by decide +kernel) rfl rfl ?_
  refine w_iconst (n := 2571) (v := 1) (x := 1) (by decide +kernel) rfl (by decide) ?_
  refine w_iadd (n := 2572) (by decide +kernel) rfl ?_
  obtain ⟨i640, gi640, h⟩ := h
  refine w_sld (n := 2573) hL (by decide +kernel) gi640 rfl ?_
  refine w_aload_n (n := 2574) (i := 0) (by decide +kernel) rfl rfl ?_
  refine w_iload (n := 2576) (i := 5) (by decide +kernel) rfl rfl ?_
  refine w_iconst (n := 2577) (v := 2) (x := 2) (by decide +kernel) rfl (by decide) ?_
  refine w_iadd (n := 2578) (by decide +kernel) rfl ?_
  obtain ⟨i641, gi641, h⟩ := h
  refine w_sld (n := 2579) hL (by decide +kernel) gi641 rfl ?_
  refine w_aload_n (n := 2580) (i := 3) (by decide +kernel) rfl rfl ?_
  obtain ⟨v643, M642, hLM642, hr655, h⟩ := h
  refine w_cS (n := 2583) (idx := 301) (cal := 354) (na := 4) (nl := 4) (as := [.ref 0, .int (X.2.1 i640), .int (X.2.1 i641), .ref 497]) (rest := []) (by decide +kernel) (by decide +kernel) rfl rfl rfl (Nat.le_of_ble_eq_true rfl) rfl hr655 ?_
  refine w_istore (n := 2585) (i := 6) (l1' := [some (.ref 1000000), some (.ref 0), some (.ref 483), some (.ref 497), some (.ref 498), some (.int y5), some (.int v643), o7, o8, o9]) (l2' := (l2).filter (fun q => !(q.1 == 6) && !(q.1 + 1 == 6))) (by decide +kernel) rfl (Nat.le_of_ble_eq_true rfl) rfl rfl ?_
  refine w_aload_n (n := 2586) (i := 2) (by decide +kernel) rfl rfl ?_
  refine w_aload_n (n := 2587) (i := 0) (by decide +kernel) rfl rfl ?_
  refine w_iload (n := 2589) (i := 5) (by decide +kernel) rfl rfl ?_
  refine w_iconst (n := 2590) (v := 1) (x := 1) (by decide +kernel) rfl (by decide) ?_
  refine w_iadd (n := 2591) (by decide +kernel) rfl ?_
  obtain ⟨i644, gi644, h⟩ := h
  refine w_sld (n := 2592) hLM642 (by decide +kernel) gi644 rfl ?_
  refine w_aload_n (n := 2593) (i := 0) (by decide +kernel) rfl rfl ?_
  refine w_iload (n := 2595) (i := 5) (by decide +kernel) rfl rfl ?_
  refine w_iconst (n := 2596) (v := 2) (x := 2) (by decide +kernel) rfl (by decide) ?_
  refine w_iadd (n := 2597) (by decide +kernel) rfl ?_
  obtain ⟨i645, gi645, h⟩ := h
  refine w_sld (n := 2598) hLM642 (by decide +kernel) gi645 rfl ?_
  obtain ⟨v647, M646, hLM646, hr654, h⟩ := h
  refine w_cV (n := 2601) (idx := 303) (cal := 261) (na := 2) (nl := 3) (as := [.int (X.2.1 i644), .int (X.2.1 i645)]) (rest := []) hLM642 (by decide +kernel) (by decide +kernel) (at_483) (by decide +kernel) rfl rfl rfl (Nat.le_of_ble_eq_true rfl) rfl hr654 ?_
  refine w_istore (n := 2603) (i := 7) (l1' := [some (.ref 1000000), some (.ref 0), some (.ref 483), some (.ref 497), some (.ref 498), some (.int y5), some (.int v643), some (.int v647), o8, o9]) (l2' := ((l2).filter (fun q => !(q.1 == 6) && !(q.1 + 1 == 6))).filter (fun q => !(q.1 == 7) && !(q.1 + 1 == 7))) (by decide +kernel) rfl (Nat.le_of_ble_eq_true rfl) rfl rfl ?_
  refine w_aload_n (n := 2604) (i := 2) (by decide +kernel) rfl rfl ?_
  obtain ⟨v649, M648, hLM648, hr653, h⟩ := h
  refine w_cV (n := 2607) (idx := 186) (cal := 154) (na := 0) (nl := 1) (as := []) (rest := []) hLM646 (by decide +kernel) (by decide +kernel) (at_483) (by decide +kernel) rfl rfl rfl (Nat.le_of_ble_eq_true rfl) rfl hr653 ?_
  refine w_iload (n := 2609) (i := 6) (by decide +kernel) rfl rfl ?_
  by_cases c652 : v649 = v643
  · rw [if_pos c652] at h
    refine w_icmp_eq_j (n := 2614) (off := 5) (by decide +kernel) (by decide) c652 ?_
    refine w_iload (n := 2616) (i := 6) (by decide +kernel) rfl rfl ?_
    by_cases c651 : v643 = 0
    · rw [if_pos c651] at h
      refine w_if_ne_n (n := 2619) (off := 15) (by decide +kernel) rfl c651 ?_
      refine w_aload_n (n := 2620) (i := 3) (by decide +kernel) rfl rfl ?_
      refine w_iconst (n := 2621) (v := 0) (x := 0) (by decide +kernel) rfl (by decide) ?_
      refine w_lald (n := 2622) (i := 0) hLM648 (by decide +kernel) (at_497) (an_497) ⟨by decide, by decide⟩ rfl ?_
      refine w_iload (n := 2624) (i := 7) (by decide +kernel) rfl rfl ?_
      refine w_i2l (n := 2625) (by decide +kernel) rfl ?_
      refine w_lcmp (n := 2626) (by decide +kernel) rfl ?_
      by_cases c650 : lg_cmp (ak_L M648 497 0) (v647.toInt64) = 0
      · rw [if_pos c650] at h
        refine w_if_eq_j (n := 2631) (off := 5) (by decide +kernel) (by decide) c650 ?_
        refine w_goto (n := 3274) (off := 643) (by decide +kernel) (by decide) ?_
        exact h
      · rw [if_neg c650] at h
        refine w_if_eq_n (n := 2629) (off := 5) (by decide +kernel) rfl c650 ?_
        refine w_iconst (n := 2630) (v := 0) (x := 0) (by decide +kernel) rfl (by decide) ?_
        subst h
        exact w_ireturn (by decide +kernel) (by decide +kernel)
    · rw [if_neg c651] at h
      refine w_if_ne_j (n := 2631) (off := 15) (by decide +kernel) (by decide) c651 ?_
      refine w_goto (n := 3274) (off := 643) (by decide +kernel) (by decide) ?_
      exact h
  · rw [if_neg c652] at h
    refine w_icmp_eq_n (n := 2612) (off := 5) (by decide +kernel) rfl c652 ?_
    refine w_iconst (n := 2613) (v := 0) (x := 0) (by decide +kernel) rfl (by decide) ?_
    subst h
    exact w_ireturn (by decide +kernel) (by decide +kernel)
theorem t_364_2634 {X : ak_X} {M : ak_M} {r : ak_O × ak_M} (hL : ab_lay M) (y5 : Int32) (o6 o7 o8 o9 : Option Value) (l2 : List (Nat × Value)) (h : (∃ i656 : Nat, ab_ix (y5 + 1) i656 X.1 ∧ (∃ (v658 : Int32) (M657 : ak_M), ab_lay M657 ∧ rn X 355 [.ref 0, .int (X.2.1 i656), .ref 497] M (.inl (some (.int v658)), M657) ∧ (∃ i659 : Nat, ab_ix (y5 + 1) i659 X.1 ∧ (∃ (v661 : Int32) (M660 : ak_M), ab_lay M660 ∧ rn X 262 [.ref 483, .int (X.2.1 i659)] M657 (.inl (some (.int v661)), M660) ∧ (∃ (v663 : Int32) (M662 : ak_M), ab_lay M662 ∧ rn X 154 [.ref 483] M660 (.inl (some (.int v663)), M662) ∧ (if v663 = v658 then (if v658 = 0 then (if lg_cmp (ak_L M662 497 0) (v661.toInt64) = 0 then sg X 364 (3274, [some (.ref 1000000), some (.ref 0), some (.ref 483), some (.ref 497), some (.ref 498), some (.int y5), some (.int v658), some (.int v661), o8, o9], ((l2).filter (fun q => !(q.1 == 6) && !(q.1 + 1 == 6))).filter (fun q => !(q.1 == 7) && !(q.1 + 1 == 7)), []) M662 r else r = (.inl (some (.int 0)), M662)) else sg X 364 (3274, [some (.ref 1000000), some (.ref 0), some (.ref 483), some (.ref 497), some (.ref 498), some (.int y5), some (.int v658), some (.int v661), o8, o9], ((l2).filter (fun q => !(q.1 == 6) && !(q.1 + 1 == 6))).filter (fun q => !(q.1 == 7) && !(q.1 + 1 == 7)), []) M662 r) else r = (.inl (some (.int 0)), M662)))))))) : sg X 364 (2634, [some (.ref 1000000), some (.ref 0), some (.ref 483), some (.ref 497), some (.ref 498), some (.int y5), o6, o7, o8, o9], l2, []) M r := by
  refine w_aload_n (n := 2635) (i := 1) (by decide +kernel) rfl rfl ?_
  refine w_aload_n (n := 2636) (i := 0) (by decide +kernel) rfl rfl ?_
  refine w_iload (n := 2638) (i := 5) (by decide +kernel) rfl rfl ?_
  refine w_iconst (n := 2639) (v := 1) (x := 1) (by decide +kernel) rfl (by decide) ?_
  refine w_iadd (n := 2640) (by decide +kernel) rfl ?_
  obtain ⟨i656, gi656, h⟩ := h
  refine w_sld (n := 2641) hL (by decide +kernel) gi656 rfl ?_
  refine w_aload_n (n := 2642) (i := 3) (by decide +kernel) rfl rfl ?_
  obtain ⟨v658, M657, hLM657, hr669, h⟩ := h
  refine w_cS (n := 2645) (idx := 304) (cal := 355) (na := 3) (nl := 3) (as := [.ref 0, .int (X.2.1 i656), .ref 497]) (rest := []) (by decide +kernel) (by decide +kernel) rfl rfl rfl (Nat.le_of_ble_eq_true rfl) rfl hr669 ?_
  refine w_istore (n := 2647) (i := 6) (l1' := [some (.ref 1000000), some (.ref 0), some (.ref 483), some (.ref 497), some (.ref 498), some (.int y5), some (.int v658), o7, o8, o9]) (l2' := (l2).filter (fun q => !(q.1 == 6) && !(q.1 + 1 == 6))) (by decide +kernel) rfl (Nat.le_of_ble_eq_true rfl) rfl rfl ?_
  refine w_aload_n (n := 2648) (i := 2) (by decide +kernel) rfl rfl ?_
  refine w_aload_n (n := 2649) (i := 0) (by decide +kernel) rfl rfl ?_
  refine w_iload (n := 2651) (i := 5) (by decide +kernel) rfl rfl ?_
  refine w_iconst (n := 2652) (v := 1) (x := 1) (by decide +kernel) rfl (by decide) ?_
  refine w_iadd (n := 2653) (by decide +kernel) rfl ?_
  obtain ⟨i659, gi659, h⟩ := h
  refine w_sld (n := 2654) hLM657 (by decide +kernel) gi659 rfl ?_
  obtain ⟨v661, M660, hLM660, hr668, h⟩ := h
  refine w_cV (n := 2657) (idx := 306) (cal := 262) (na := 1) (nl := 2) (as := [.int (X.2.1 i659)]) (rest := []) hLM657 (by decide +kernel) (by decide +kernel) (at_483) (by decide +kernel) rfl rfl rfl (Nat.le_of_ble_eq_true rfl) rfl hr668 ?_
  refine w_istore (n := 2659) (i := 7) (l1' := [some (.ref 1000000), some (.ref 0), some (.ref 483), some (.ref 497), some (.ref 498), some (.int y5), some (.int v658), some (.int v661), o8, o9]) (l2' := ((l2).filter (fun q => !(q.1 == 6) && !(q.1 + 1 == 6))).filter (fun q => !(q.1 == 7) && !(q.1 + 1 == 7))) (by decide +kernel) rfl (Nat.le_of_ble_eq_true rfl) rfl rfl ?_
  refine w_aload_n (n := 2660) (i := 2) (by decide +kernel) rfl rfl ?_
  obtain ⟨v663, M662, hLM662, hr667, h⟩ := h
  refine w_cV (n := 2663) (idx := 186) (cal := 154) (na := 0) (nl := 1) (as := []) (rest := []) hLM660 (by decide +kernel) (by decide +kernel) (at_483) (by decide +kernel) rfl rfl rfl (Nat.le_of_ble_eq_true rfl) rfl hr667 ?_
  refine w_iload (n := 2665) (i := 6) (by decide +kernel) rfl rfl ?_
  by_cases c666 : v663 = v658
  · rw [if_pos c666] at h
    refine w_icmp_eq_j (n := 2670) (off := 5) (by decide +kernel) (by decide) c666 ?_
    refine w_iload (n := 2672) (i := 6) (by decide +kernel) rfl rfl ?_
    by_cases c665 : v658 = 0
    · rw [if_pos c665] at h
      refine w_if_ne_n (n := 2675) (off := 15) (by decide +kernel) rfl c665 ?_
      refine w_aload_n (n := 2676) (i := 3) (by decide +kernel) rfl rfl ?_
      refine w_iconst (n := 2677) (v := 0) (x := 0) (by decide +kernel) rfl (by decide) ?_
      refine w_lald (n := 2678) (i := 0) hLM662 (by decide +kernel) (at_497) (an_497) ⟨by decide, by decide⟩ rfl ?_
      refine w_iload (n := 2680) (i := 7) (by decide +kernel) rfl rfl ?_
      refine w_i2l (n := 2681) (by decide +kernel) rfl ?_
      refine w_lcmp (n := 2682) (by decide +kernel) rfl ?_
      by_cases c664 : lg_cmp (ak_L M662 497 0) (v661.toInt64) = 0
      · rw [if_pos c664] at h
        refine w_if_eq_j (n := 2687) (off := 5) (by decide +kernel) (by decide) c664 ?_
        refine w_goto (n := 3274) (off := 587) (by decide +kernel) (by decide) ?_
        exact h
      · rw [if_neg c664] at h
        refine w_if_eq_n (n := 2685) (off := 5) (by decide +kernel) rfl c664 ?_
        refine w_iconst (n := 2686) (v := 0) (x := 0) (by decide +kernel) rfl (by decide) ?_
        subst h
        exact w_ireturn (by decide +kernel) (by decide +kernel)
    · rw [if_neg c665] at h
      refine w_if_ne_j (n := 2687) (off := 15) (by decide +kernel) (by decide) c665 ?_
      refine w_goto (n := 3274) (off := 587) (by decide +kernel) (by decide) ?_
      exact h
  · rw [if_neg c666] at h
    refine w_icmp_eq_n (n := 2668) (off := 5) (by decide +kernel) rfl c666 ?_
    refine w_iconst (n := 2669) (v := 0) (x := 0) (by decide +kernel) rfl (by decide) ?_
    subst h
    exact w_ireturn (by decide +kernel) (by decide +kernel)
theorem t_364_2690 {X : ak_X} {M : ak_M} {r : ak_O × ak_M} (hL : ab_lay M) (y5 : Int32) (o6 o7 o8 o9 : Option Value) (l2 : List (Nat × Value)) (h : (∃ i670 : Nat, ab_ix (y5 + 1) i670 X.1 ∧ (∃ i671 : Nat, ab_ix (y5 + 2) i671 X.1 ∧ (∃ (v673 : Int32) (M672 : ak_M), ab_lay M672 ∧ rn X 356 [.ref 0, .int (X.2.1 i670), .int (X.2.1 i671), .ref 497] M (.inl (some (.int v673)), M672) ∧ (∃ i674 : Nat, ab_ix (y5 + 1) i674 X.1 ∧ (∃ i675 : Nat, ab_ix (y5 + 2) i675 X.1 ∧ (∃ (v677 : Int32) (M676 : ak_M), ab_lay M676 ∧ rn X 263 [.ref 483, .int (X.2.1 i674), .int (X.2.1 i675)] M672 (.inl (some (.int v677)), M676) ∧ (∃ (v679 : Int32) (M678 : ak_M), ab_lay M678 ∧ rn X 154 [.ref 483] M676 (.inl (some (.int v679)), M678) ∧ (if v679 = v673 then (if v673 = 0 then (if lg_cmp (ak_L M678 497 0) (v677.toInt64) = 0 then sg X 364 (3274, [some (.ref 1000000), some (.ref 0), some (.ref 483), some (.ref 497), some (.ref 498), some (.int y5), some (.int v673), some (.int v677), o8, o9], ((l2).filter (fun q => !(q.1 == 6) && !(q.1 + 1 == 6))).filter (fun q => !(q.1 == 7) && !(q.1 + 1 == 7)), []) M678 r else r = (.inl (some (.int 0)), M678)) else sg X 364 (3274, [some (.ref 1000000), some (.ref 0), some (.ref 483), some (.ref 497), some (.ref 498), some (.int y5), some (.int v673), some (.int v677), o8, o9], ((l2).filter (fun q => !(q.1 == 6) && !(q.1 + 1 == 6))).filter (fun q => !(q.1 == 7) && !(q.1 + 1 == 7)), []) M678 r) else r = (.inl (some (.int 0)), M678)))))))))) : sg X 364 (2690, [some (.ref 1000000), some (.ref 0), some (.ref 483), some (.ref 497), some (.ref 498), some (.int y5), o6, o7, o8, o9], l2, []) M r := by
  refine w_aload_n (n := 2691) (i := 1) (by decide +kernel) rfl rfl ?_
  refine w_aload_n (n := 2692) (i := 0) (by decide +kernel) rfl rfl ?_
  refine w_iload (n := 2694) (i := 5) (by decide +kernel) rfl rfl ?_
  refine w_iconst (n := 2695) (v := 1) (x := 1) (by decide +kernel) rfl (by decide) ?_
  refine w_iadd (n := 2696) (by decide +kernel) rfl ?_
  obtain ⟨i670, gi670, h⟩ := h
  refine w_sld (n := 2697) hL (by decide +kernel) gi670 rfl ?_
  refine w_aload_n (n := 2698) (i := 0) (by decide +kernel) rfl rfl ?_
  refine w_iload (n := 2700) (i := 5) (by decide +kernel) rfl rfl ?_
  refine w_iconst (n := 2701) (v := 2) (x := 2) (by decide +kernel) rfl (by decide) ?_
  refine w_iadd (n := 2702) (by decide +kernel) rfl ?_
  obtain ⟨i671, gi671, h⟩ := h
  refine w_sld (n := 2703) hL (by decide +kernel) gi671 rfl ?_
  refine w_aload_n (n := 2704) (i := 3) (by decide +kernel) rfl rfl ?_
  obtain ⟨v673, M672, hLM672, hr685, h⟩ := h
  refine w_cS (n := 2707) (idx := 307) (cal := 356) (na := 4) (nl := 4) (as := [.ref 0, .int (X.2.1 i670), .int (X.2.1 i671), .ref 497]) (rest := []) (by decide +kernel) (by decide +kernel) rfl rfl rfl (Nat.le_of_ble_eq_true rfl) rfl hr685 ?_
  refine w_istore (n := 2709) (i := 6) (l1' := [some (.ref 1000000), some (.ref 0), some (.ref 483), some (.ref 497), some (.ref 498), some (.int y5), some (.int v673), o7, o8, o9]) (l2' := (l2).filter (fun q => !(q.1 == 6) && !(q.1 + 1 == 6))) (by decide +kernel) rfl (Nat.le_of_ble_eq_true rfl) rfl rfl ?_
  refine w_aload_n (n := 2710) (i := 2) (by decide +kernel) rfl rfl ?_
  refine w_aload_n (n := 2711) (i := 0) (by decide +kernel) rfl rfl ?_
  refine w_iload (n := 2713) (i := 5) (by decide +kernel) rfl rfl ?_
  refine w_iconst (n := 2714) (v := 1) (x := 1) (by decide +kernel) rfl (by decide) ?_
  refine w_iadd (n := 2715) (by decide +kernel) rfl ?_
  obtain ⟨i674, gi674, h⟩ := h
  refine w_sld (n := 2716) hLM672 (by decide +kernel) gi674 rfl ?_
  refine w_aload_n (n := 2717) (i := 0) (by decide +kernel) rfl rfl ?_
  refine w_iload (n := 2719) (i := 5) (by decide +kernel) rfl rfl ?_
  refine w_iconst (n := 2720) (v := 2) (x := 2) (by decide +kernel) rfl (by decide) ?_
  refine w_iadd (n := 2721) (by decide +kernel) rfl ?_
  obtain ⟨i675, gi675, h⟩ := h
  refine w_sld (n := 2722) hLM672 (by decide +kernel) gi675 rfl ?_
  obtain ⟨v677, M676, hLM676, hr684, h⟩ := h
  refine w_cV (n := 2725) (idx := 309) (cal := 263) (na := 2) (nl := 3) (as := [.int (X.2.1 i674), .int (X.2.1 i675)]) (rest := []) hLM672 (by decide +kernel) (by decide +kernel) (at_483) (by decide +kernel) rfl rfl rfl (Nat.le_of_ble_eq_true rfl) rfl hr684 ?_
  refine w_istore (n := 2727) (i := 7) (l1' := [some (.ref 1000000), some (.ref 0), some (.ref 483), some (.ref 497), some (.ref 498), some (.int y5), some (.int v673), some (.int v677), o8, o9]) (l2' := ((l2).filter (fun q => !(q.1 == 6) && !(q.1 + 1 == 6))).filter (fun q => !(q.1 == 7) && !(q.1 + 1 == 7))) (by decide +kernel) rfl (Nat.le_of_ble_eq_true rfl) rfl rfl ?_
  refine w_aload_n (n := 2728) (i := 2) (by decide +kernel) rfl rfl ?_
  obtain ⟨v679, M678, hLM678, hr683, h⟩ := h
  refine w_cV (n := 2731) (idx := 186) (cal := 154) (na := 0) (nl := 1) (as := []) (rest := []) hLM676 (by decide +kernel) (by decide +kernel) (at_483) (by decide +kernel) rfl rfl rfl (Nat.le_of_ble_eq_true rfl) rfl hr683 ?_
  refine w_iload (n := 2733) (i := 6) (by decide +kernel) rfl rfl ?_
  by_cases c682 : v679 = v673
  · rw [if_pos c682] at h
    refine w_icmp_eq_j (n := 2738) (off := 5) (by decide +kernel) (by decide) c682 ?_
    refine w_iload (n := 2740) (i := 6) (by decide +kernel) rfl rfl ?_
    by_cases c681 : v673 = 0
    · rw [if_pos c681] at h
      refine w_if_ne_n (n := 2743) (off := 15) (by decide +kernel) rfl c681 ?_
      refine w_aload_n (n := 2744) (i := 3) (by decide +kernel) rfl rfl ?_
      refine w_iconst (n := 2745) (v := 0) (x := 0) (by decide +kernel) rfl (by decide) ?_
      refine w_lald (n := 2746) (i := 0) hLM678 (by decide +kernel) (at_497) (an_497) ⟨by decide, by decide⟩ rfl ?_
      refine w_iload (n := 2748) (i := 7) (by decide +kernel) rfl rfl ?_
      refine w_i2l (n := 2749) (by decide +kernel) rfl ?_
      refine w_lcmp (n := 2750) (by decide +kernel) rfl ?_
      by_cases c680 : lg_cmp (ak_L M678 497 0) (v677.toInt64) = 0
      · rw [if_pos c680] at h
        refine w_if_eq_j (n := 2755) (off := 5) (by decide +kernel) (by decide) c680 ?_
        refine w_goto (n := 3274) (off := 519) (by decide +kernel) (by decide) ?_
        exact h
      · rw [if_neg c680] at h
        refine w_if_eq_n (n := 2753) (off := 5) (by decide +kernel) rfl c680 ?_
        refine w_iconst (n := 2754) (v := 0) (x := 0) (by decide +kernel) rfl (by decide) ?_
        subst h
        exact w_ireturn (by decide +kernel) (by decide +kernel)
    · rw [if_neg c681] at h
      refine w_if_ne_j (n := 2755) (off := 15) (by decide +kernel) (by decide) c681 ?_
      refine w_goto (n := 3274) (off := 519) (by decide +kernel) (by decide) ?_
      exact h
  · rw [if_neg c682] at h
    refine w_icmp_eq_n (n := 2736) (off := 5) (by decide +kernel) rfl c682 ?_
    refine w_iconst (n := 2737) (v := 0) (x := 0) (by decide +kernel) rfl (by decide) ?_
    subst h
    exact w_ireturn (by decide +kernel) (by decide +kernel)
theorem t_364_2758 {X : ak_X} {M : ak_M} {r : ak_O × ak_M} (hL : ab_lay M) (y5 : Int32) (o6 o7 o8 o9 : Option Value) (l2 : List (Nat × Value)) (h : (∃ i686 : Nat, ab_ix (y5 + 1) i686 X.1 ∧ (∃ i687 : Nat, ab_ix (y5 + 2) i687 X.1 ∧ (∃ i688 : Nat, ab_ix (y5 + 3) i688 X.1 ∧ (∃ (v690 : Int32) (M689 : ak_M), ab_lay M689 ∧ rn X 357 [.ref 0, .int (X.2.1 i686), .int (X.2.1 i687), .int (X.2.1 i688), .ref 497] M (.inl (some (.int v690)), M689) ∧ (∃ i691 : Nat, ab_ix (y5 + 1) i691 X.1 ∧ (∃ i692 : Nat, ab_ix (y5 + 2) i692 X.1 ∧ (∃ i693 : Nat, ab_ix (y5 + 3) i693 X.1 ∧ (∃ (v695 : Int32) (M694 : ak_M), ab_lay M694 ∧ rn X 264 [.ref 483, .int (X.2.1 i691), .int (X.2.1 i692), .int (X.2.1 i693)] M689 (.inl (some (.int v695)), M694) ∧ (∃ (v697 : Int32) (M696 : ak_M), ab_lay M696 ∧ rn X 154 [.ref 483] M694 (.inl (some (.int v697)), M696) ∧ (if v697 = v690 then (if v690 = 0 then (if lg_cmp (ak_L M696 497 0) (v695.toInt64) = 0 then sg X 364 (3274, [some (.ref 1000000), some (.ref 0), some (.ref 483), some (.ref 497), some (.ref 498), some (.int y5), some (.int v690), some (.int v695), o8, o9], ((l2).filter (fun q => !(q.1 == 6) && !(q.1 + 1 == 6))).filter (fun q => !(q.1 == 7) && !(q.1 + 1 == 7)), []) M696 r else r = (.inl (some (.int 0)), M696)) else sg X 364 (3274, [some (.ref 1000000), some (.ref 0), some (.ref 483), some (.ref 497), some (.ref 498), some (.int y5), some (.int v690), some (.int v695), o8, o9], ((l2).filter (fun q => !(q.1 == 6) && !(q.1 + 1 == 6))).filter (fun q => !(q.1 == 7) && !(q.1 + 1 == 7)), []) M696 r) else r = (.inl (some (.int 0)), M696)))))))))))) : sg X 364 (2758, [some (.ref 1000000), some (.ref 0), some (.ref 483), some (.ref 497), some (.ref 498), some (.int y5), o6, o7, o8, o9], l2, []) M r := by
  refine w_aload_n (n := 2759) (i := 1) (by decide +kernel) rfl rfl ?_
  refine w_aload_n (n := 2760) (i := 0) (by decide +kernel) rfl rfl ?_
  refine w_iload (n := 2762) (i := 5) (by decide +kernel) rfl rfl ?_
  refine w_iconst (n := 2763) (v := 1) (x := 1) (by decide +kernel) rfl (by decide) ?_
  refine w_iadd (n := 2764) (by decide +kernel) rfl ?_
  obtain ⟨i686, gi686, h⟩ := h
  refine w_sld (n := 2765) hL (by decide +kernel) gi686 rfl ?_
  refine w_aload_n (n := 2766) (i := 0) (by decide +kernel) rfl rfl ?_
  refine w_iload (n := 2768) (i := 5) (by decide +kernel) rfl rfl ?_
  refine w_iconst (n := 2769) (v := 2) (x := 2) (by decide +kernel) rfl (by decide) ?_
  refine w_iadd (n := 2770) (by decide +kernel) rfl ?_
  obtain ⟨i687, gi687, h⟩ := h
  refine w_sld (n := 2771) hL (by decide +kernel) gi687 rfl ?_
  refine w_aload_n (n := 2772) (i := 0) (by decide +kernel) rfl rfl ?_
  refine w_iload (n := 2774) (i := 5) (by decide +kernel) rfl rfl ?_
  refine w_iconst (n := 2775) (v := 3) (x := 3) (by decide +kernel) rfl (by decide) ?_
  refine w_iadd (n := 2776) (by decide +kernel) rfl ?_
  obtain ⟨i688, gi688, h⟩ := h
  refine w_sld (n := 2777) hL (by decide +kernel) gi688 rfl ?_
  refine w_aload_n (n := 2778) (i := 3) (by decide +kernel) rfl rfl ?_
  obtain ⟨v690, M689, hLM689, hr703, h⟩ := h
  refine w_cS (n := 2781) (idx := 310) (cal := 357) (na := 5) (nl := 5) (as := [.ref 0, .int (X.2.1 i686), .int (X.2.1 i687), .int (X.2.1 i688), .ref 497]) (rest := []) (by decide +kernel) (by decide +kernel) rfl rfl rfl (Nat.le_of_ble_eq_true rfl) rfl hr703 ?_
  refine w_istore (n := 2783) (i := 6) (l1' := [some (.ref 1000000), some (.ref 0), some (.ref 483), some (.ref 497), some (.ref 498), some (.int y5), some (.int v690), o7, o8, o9]) (l2' := (l2).filter (fun q => !(q.1 == 6) && !(q.1 + 1 == 6))) (by decide +kernel) rfl (Nat.le_of_ble_eq_true rfl) rfl rfl ?_
  refine w_aload_n (n := 2784) (i := 2) (by decide +kernel) rfl rfl ?_
  refine w_aload_n (n := 2785) (i := 0) (by decide +kernel) rfl rfl ?_
  refine w_iload (n := 2787) (i := 5) (by decide +kernel) rfl rfl ?_
  refine w_iconst (n := 2788) (v := 1) (x := 1) (by decide +kernel) rfl (by decide) ?_
  refine w_iadd (n := 2789) (by decide +kernel) rfl ?_
  obtain ⟨i691, gi691, h⟩ := h
  refine w_sld (n := 2790) hLM689 (by decide +kernel) gi691 rfl ?_
  refine w_aload_n (n := 2791) (i := 0) (by decide +kernel) rfl rfl ?_
  refine w_iload (n := 2793) (i := 5) (by decide +kernel) rfl rfl ?_
  refine w_iconst (n := 2794) (v := 2) (x := 2) (by decide +kernel) rfl (by decide) ?_
  refine w_iadd (n := 2795) (by decide +kernel) rfl ?_
  obtain ⟨i692, gi692, h⟩ := h
  refine w_sld (n := 2796) hLM689 (by decide +kernel) gi692 rfl ?_
  refine w_aload_n (n := 2797) (i := 0) (by decide +kernel) rfl rfl ?_
  refine w_iload (n := 2799) (i := 5) (by decide +kernel) rfl rfl ?_
  refine w_iconst (n := 2800) (v := 3) (x := 3) (by decide +kernel) rfl (by decide) ?_
  refine w_iadd (n := 2801) (by decide +kernel) rfl ?_
  obtain ⟨i693, gi693, h⟩ := h
  refine w_sld (n := 2802) hLM689 (by decide +kernel) gi693 rfl ?_
  obtain ⟨v695, M694, hLM694, hr702, h⟩ := h
  refine w_cV (n := 2805) (idx := 312) (cal := 264) (na := 3) (nl := 4) (as := [.int (X.2.1 i691), .int (X.2.1 i692), .int (X.2.1 i693)]) (rest := []) hLM689 (by decide +kernel) (by decide +kernel) (at_483) (by decide +kernel) rfl rfl rfl (Nat.le_of_ble_eq_true rfl) rfl hr702 ?_
  refine w_istore (n := 2807) (i := 7) (l1' := [some (.ref 1000000), some (.ref 0), some (.ref 483), some (.ref 497), some (.ref 498), some (.int y5), some (.int v690), some (.int v695), o8, o9]) (l2' := ((l2).filter (fun q => !(q.1 == 6) && !(q.1 + 1 == 6))).filter (fun q => !(q.1 == 7) && !(q.1 + 1 == 7))) (by decide +kernel) rfl (Nat.le_of_ble_eq_true rfl) rfl rfl ?_
  refine w_aload_n (n := 2808) (i := 2) (by decide +kernel) rfl rfl ?_
  obtain ⟨v697, M696, hLM696, hr701, h⟩ := h
  refine w_cV (n := 2811) (idx := 186) (cal := 154) (na := 0) (nl := 1) (as := []) (rest := []) hLM694 (by decide +kernel) (by decide +kernel) (at_483) (by decide +kernel) rfl rfl rfl (Nat.le_of_ble_eq_true rfl) rfl hr701 ?_
  refine w_iload (n := 2813) (i := 6) (by decide +kernel) rfl rfl ?_
  by_cases c700 : v697 = v690
  · rw [if_pos c700] at h
    refine w_icmp_eq_j (n := 2818) (off := 5) (by decide +kernel) (by decide) c700 ?_
    refine w_iload (n := 2820) (i := 6) (by decide +kernel) rfl rfl ?_
    by_cases c699 : v690 = 0
    · rw [if_pos c699] at h
      refine w_if_ne_n (n := 2823) (off := 15) (by decide +kernel) rfl c699 ?_
      refine w_aload_n (n := 2824) (i := 3) (by decide +kernel) rfl rfl ?_
      refine w_iconst (n := 2825) (v := 0) (x := 0) (by decide +kernel) rfl (by decide) ?_
      refine w_lald (n := 2826) (i := 0) hLM696 (by decide +kernel) (at_497) (an_497) ⟨by decide, by decide⟩ rfl ?_
      refine w_iload (n := 2828) (i := 7) (by decide +kernel) rfl rfl ?_
      refine w_i2l (n := 2829) (by decide +kernel) rfl ?_
      refine w_lcmp (n := 2830) (by decide +kernel) rfl ?_
      by_cases c698 : lg_cmp (ak_L M696 497 0) (v695.toInt64) = 0
      · rw [if_pos c698] at h
        refine w_if_eq_j (n := 2835) (off := 5) (by decide +kernel) (by decide) c698 ?_
        refine w_goto (n := 3274) (off := 439) (by decide +kernel) (by decide) ?_
        exact h
      · rw [if_neg c698] at h
        refine w_if_eq_n (n := 2833) (off := 5) (by decide +kernel) rfl c698 ?_
        refine w_iconst (n := 2834) (v := 0) (x := 0) (by decide +kernel) rfl (by decide) ?_
        subst h
        exact w_ireturn (by decide +kernel) (by decide +kernel)
    · rw [if_neg c699] at h
      refine w_if_ne_j (n := 2835) (off := 15) (by decide +kernel) (by decide) c699 ?_
      refine w_goto (n := 3274) (off := 439) (by decide +kernel) (by decide) ?_
      exact h
  · rw [if_neg c700] at h
    refine w_icmp_eq_n (n := 2816) (off := 5) (by decide +kernel) rfl c700 ?_
    refine w_iconst (n := 2817) (v := 0) (x := 0) (by decide +kernel) rfl (by decide) ?_
    subst h
    exact w_ireturn (by decide +kernel) (by decide +kernel)
theorem t_364_2838 {X : ak_X} {M : ak_M} {r : ak_O × ak_M} (hL : ab_lay M) (y5 : Int32) (o6 o7 o8 o9 : Option Value) (l2 : List (Nat × Value)) (h : (∃ i704 : Nat, ab_ix (y5 + 1) i704 X.1 ∧ (∃ i705 : Nat, ab_ix (y5 + 2) i705 X.1 ∧ (∃ i706 : Nat, ab_ix (y5 + 3) i706 X.1 ∧ (∃ (v708 : Int32) (M707 : ak_M), ab_lay M707 ∧ rn X 358 [.ref 0, .int (X.2.1 i704), .int (X.2.1 i705), .int (X.2.1 i706), .ref 497] M (.inl (some (.int v708)), M707) ∧ (∃ i709 : Nat, ab_ix (y5 + 1) i709 X.1 ∧ (∃ i710 : Nat, ab_ix (y5 + 2) i710 X.1 ∧ (∃ i711 : Nat, ab_ix (y5 + 3) i711 X.1 ∧ (∃ (v713 : Int32) (M712 : ak_M), ab_lay M712 ∧ rn X 265 [.ref 483, .int (X.2.1 i709), .int (X.2.1 i710), .int (X.2.1 i711)] M707 (.inl (some (.int v713)), M712) ∧ (∃ (v715 : Int32) (M714 : ak_M), ab_lay M714 ∧ rn X 154 [.ref 483] M712 (.inl (some (.int v715)), M714) ∧ (if v715 = v708 then (if v708 = 0 then (if lg_cmp (ak_L M714 497 0) (v713.toInt64) = 0 then sg X 364 (3274, [some (.ref 1000000), some (.ref 0), some (.ref 483), some (.ref 497), some (.ref 498), some (.int y5), some (.int v708), some (.int v713), o8, o9], ((l2).filter (fun q => !(q.1 == 6) && !(q.1 + 1 == 6))).filter (fun q => !(q.1 == 7) && !(q.1 + 1 == 7)), []) M714 r else r = (.inl (some (.int 0)), M714)) else sg X 364 (3274, [some (.ref 1000000), some (.ref 0), some (.ref 483), some (.ref 497), some (.ref 498), some (.int y5), some (.int v708), some (.int v713), o8, o9], ((l2).filter (fun q => !(q.1 == 6) && !(q.1 + 1 == 6))).filter (fun q => !(q.1 == 7) && !(q.1 + 1 == 7)), []) M714 r) else r = (.inl (some (.int 0)), M714)))))))))))) : sg X 364 (2838, [some (.ref 1000000), some (.ref 0), some (.ref 483), some (.ref 497), some (.ref 498), some (.int y5), o6, o7, o8, o9], l2, []) M r := by
  refine w_aload_n (n := 2839) (i := 1) (by decide +kernel) rfl rfl ?_
  refine w_aload_n (n := 2840) (i := 0) (by decide +kernel) rfl rfl ?_
  refine w_iload (n := 2842) (i := 5) (by decide +kernel) rfl rfl ?_
  refine w_iconst (n := 2843) (v := 1) (x := 1) (by decide +kernel) rfl (by decide) ?_
  refine w_iadd (n := 2844) (by decide +kernel) rfl ?_
  obtain ⟨i704, gi704, h⟩ := h
  refine w_sld (n := 2845) hL (by decide +kernel) gi704 rfl ?_
  refine w_aload_n (n := 2846) (i := 0) (by decide +kernel) rfl rfl ?_
  refine w_iload (n := 2848) (i := 5) (by decide +kernel) rfl rfl ?_
  refine w_iconst (n := 2849) (v := 2) (x := 2) (by decide +kernel) rfl (by decide) ?_
  refine w_iadd (n := 2850) (by decide +kernel) rfl ?_
  obtain ⟨i705, gi705, h⟩ := h
  refine w_sld (n := 2851) hL (by decide +kernel) gi705 rfl ?_
  refine w_aload_n (n := 2852) (i := 0) (by decide +kernel) rfl rfl ?_
  refine w_iload (n := 2854) (i := 5) (by decide +kernel) rfl rfl ?_
  refine w_iconst (n := 2855) (v := 3) (x := 3) (by decide +kernel) rfl (by decide) ?_
  refine w_iadd (n := 2856) (by decide +kernel) rfl ?_
  obtain ⟨i706, gi706, h⟩ := h
  refine w_sld (n := 2857) hL (by decide +kernel) gi706 rfl ?_
  refine w_aload_n (n := 2858) (i := 3) (by decide +kernel) rfl rfl ?_
  obtain ⟨v708, M707, hLM707, hr721, h⟩ := h
  refine w_cS (n := 2861) (idx := 313) (cal := 358) (na := 5) (nl := 5) (as := [.ref 0, .int (X.2.1 i704), .int (X.2.1 i705), .int (X.2.1 i706), .ref 497]) (rest := []) (by decide +kernel) (by decide +kernel) rfl rfl rfl (Nat.le_of_ble_eq_true rfl) rfl hr721 ?_
  refine w_istore (n := 2863) (i := 6) (l1' := [some (.ref 1000000), some (.ref 0), some (.ref 483), some (.ref 497), some (.ref 498), some (.int y5), some (.int v708), o7, o8, o9]) (l2' := (l2).filter (fun q => !(q.1 == 6) && !(q.1 + 1 == 6))) (by decide +kernel) rfl (Nat.le_of_ble_eq_true rfl) rfl rfl ?_
  refine w_aload_n (n := 2864) (i := 2) (by decide +kernel) rfl rfl ?_
  refine w_aload_n (n := 2865) (i := 0) (by decide +kernel) rfl rfl ?_
  refine w_iload (n := 2867) (i := 5) (by decide +kernel) rfl rfl ?_
  refine w_iconst (n := 2868) (v := 1) (x := 1) (by decide +kernel) rfl (by decide) ?_
  refine w_iadd (n := 2869) (by decide +kernel) rfl ?_
  obtain ⟨i709, gi709, h⟩ := h
  refine w_sld (n := 2870) hLM707 (by decide +kernel) gi709 rfl ?_
  refine w_aload_n (n := 2871) (i := 0) (by decide +kernel) rfl rfl ?_
  refine w_iload (n := 2873) (i := 5) (by decide +kernel) rfl rfl ?_
  refine w_iconst (n := 2874) (v := 2) (x := 2) (by decide +kernel) rfl (by decide) ?_
  refine w_iadd (n := 2875) (by decide +kernel) rfl ?_
  obtain ⟨i710, gi710, h⟩ := h
  refine w_sld (n := 2876) hLM707 (by decide +kernel) gi710 rfl ?_
  refine w_aload_n (n := 2877) (i := 0) (by decide +kernel) rfl rfl ?_
  refine w_iload (n := 2879) (i := 5) (by decide +kernel) rfl rfl ?_
  refine w_iconst (n := 2880) (v := 3) (x := 3) (by decide +kernel) rfl (by decide) ?_
  refine w_iadd (n := 2881) (by decide +kernel) rfl ?_
  obtain ⟨i711, gi711, h⟩ := h
  refine w_sld (n := 2882) hLM707 (by decide +kernel) gi711 rfl ?_
  obtain ⟨v713, M712, hLM712, hr720, h⟩ := h
  refine w_cV (n := 2885) (idx := 315) (cal := 265) (na := 3) (nl := 4) (as := [.int (X.2.1 i709), .int (X.2.1 i710), .int (X.2.1 i711)]) (rest := []) hLM707 (by decide +kernel) (by decide +kernel) (at_483) (by decide +kernel) rfl rfl rfl (Nat.le_of_ble_eq_true rfl) rfl hr720 ?_
  refine w_istore (n := 2887) (i := 7) (l1' := [some (.ref 1000000), some (.ref 0), some (.ref 483), some (.ref 497), some (.ref 498), some (.int y5), some (.int v708), some (.int v713), o8, o9]) (l2' := ((l2).filter (fun q => !(q.1 == 6) && !(q.1 + 1 == 6))).filter (fun q => !(q.1 == 7) && !(q.1 + 1 == 7))) (by decide +kernel) rfl (Nat.le_of_ble_eq_true rfl) rfl rfl ?_
  refine w_aload_n (n := 2888) (i := 2) (by decide +kernel) rfl rfl ?_
  obtain ⟨v715, M714, hLM714, hr719, h⟩ := h
  refine w_cV (n := 2891) (idx := 186) (cal := 154) (na := 0) (nl := 1) (as := []) (rest := []) hLM712 (by decide +kernel) (by decide +kernel) (at_483) (by decide +kernel) rfl rfl rfl (Nat.le_of_ble_eq_true rfl) rfl hr719 ?_
  refine w_iload (n := 2893) (i := 6) (by decide +kernel) rfl rfl ?_
  by_cases c718 : v715 = v708
  · rw [if_pos c718] at h
    refine w_icmp_eq_j (n := 2898) (off := 5) (by decide +kernel) (by decide) c718 ?_
    refine w_iload (n := 2900) (i := 6) (by decide +kernel) rfl rfl ?_
    by_cases c717 : v708 = 0
    · rw [if_pos c717] at h
      refine w_if_ne_n (n := 2903) (off := 15) (by decide +kernel) rfl c717 ?_
      refine w_aload_n (n := 2904) (i := 3) (by decide +kernel) rfl rfl ?_
      refine w_iconst (n := 2905) (v := 0) (x := 0) (by decide +kernel) rfl (by decide) ?_
      refine w_lald (n := 2906) (i := 0) hLM714 (by decide +kernel) (at_497) (an_497) ⟨by decide, by decide⟩ rfl ?_
      refine w_iload (n := 2908) (i := 7) (by decide +kernel) rfl rfl ?_
      refine w_i2l (n := 2909) (by decide +kernel) rfl ?_
      refine w_lcmp (n := 2910) (by decide +kernel) rfl ?_
      by_cases c716 : lg_cmp (ak_L M714 497 0) (v713.toInt64) = 0
      · rw [if_pos c716] at h
        refine w_if_eq_j (n := 2915) (off := 5) (by decide +kernel) (by decide) c716 ?_
        refine w_goto (n := 3274) (off := 359) (by decide +kernel) (by decide) ?_
        exact h
      · rw [if_neg c716] at h
        refine w_if_eq_n (n := 2913) (off := 5) (by decide +kernel) rfl c716 ?_
        refine w_iconst (n := 2914) (v := 0) (x := 0) (by decide +kernel) rfl (by decide) ?_
        subst h
        exact w_ireturn (by decide +kernel) (by decide +kernel)
    · rw [if_neg c717] at h
      refine w_if_ne_j (n := 2915) (off := 15) (by decide +kernel) (by decide) c717 ?_
      refine w_goto (n := 3274) (off := 359) (by decide +kernel) (by decide) ?_
      exact h
  · rw [if_neg c718] at h
    refine w_icmp_eq_n (n := 2896) (off := 5) (by decide +kernel) rfl c718 ?_
    refine w_iconst (n := 2897) (v := 0) (x := 0) (by decide +kernel) rfl (by decide) ?_
    subst h
    exact w_ireturn (by decide +kernel) (by decide +kernel)
theorem t_364_2918 {X : ak_X} {M : ak_M} {r : ak_O × ak_M} (hL : ab_lay M) (y5 : Int32) (o6 o7 o8 o9 : Option Value) (l2 : List (Nat × Value)) (h : (∃ i722 : Nat, ab_ix (y5 + 1) i722 X.1 ∧ (∃ i723 : Nat, ab_ix (y5 + 2) i723 X.1 ∧ (∃ i724 : Nat, ab_ix (y5 + 3) i724 X.1 ∧ (∃ (v726 : Int32) (M725 : ak_M), ab_lay M725 ∧ rn X 359 [.ref 0, .int (X.2.1 i722), .int (X.2.1 i723), .int (X.2.1 i724), .ref 497] M (.inl (some (.int v726)), M725) ∧ (∃ i727 : Nat, ab_ix (y5 + 1) i727 X.1 ∧ (∃ i728 : Nat, ab_ix (y5 + 2) i728 X.1 ∧ (∃ i729 : Nat, ab_ix (y5 + 3) i729 X.1 ∧ (∃ (v731 : Int32) (M730 : ak_M), ab_lay M730 ∧ rn X 267 [.ref 483, .int (X.2.1 i727), .int (X.2.1 i728), .int (X.2.1 i729)] M725 (.inl (some (.int v731)), M730) ∧ (∃ (v733 : Int32) (M732 : ak_M), ab_lay M732 ∧ rn X 154 [.ref 483] M730 (.inl (some (.int v733)), M732) ∧ (if v733 = v726 then (if v726 = 0 then (if lg_cmp (ak_L M732 497 0) (v731.toInt64) = 0 then sg X 364 (3274, [some (.ref 1000000), some (.ref 0), some (.ref 483), some (.ref 497), some (.ref 498), some (.int y5), some (.int v726), some (.int v731), o8, o9], ((l2).filter (fun q => !(q.1 == 6) && !(q.1 + 1 == 6))).filter (fun q => !(q.1 == 7) && !(q.1 + 1 == 7)), []) M732 r else r = (.inl (some (.int 0)), M732)) else sg X 364 (3274, [some (.ref 1000000), some (.ref 0), some (.ref 483), some (.ref 497), some (.ref 498), some (.int y5), some (.int v726), some (.int v731), o8, o9], ((l2).filter (fun q => !(q.1 == 6) && !(q.1 + 1 == 6))).filter (fun q => !(q.1 == 7) && !(q.1 + 1 == 7)), []) M732 r) else r = (.inl (some (.int 0)), M732)))))))))))) : sg X 364 (2918, [some (.ref 1000000), some (.ref 0), some (.ref 483), some (.ref 497), some (.ref 498), some (.int y5), o6, o7, o8, o9], l2, []) M r := by
  refine w_aload_n (n := 2919) (i := 1) (by decide +kernel) rfl rfl ?_
  refine w_aload_n (n := 2920) (i := 0) (by decide +kernel) rfl rfl ?_
  refine w_iload (n := 2922) (i := 5) (by decide +kernel) rfl rfl ?_
  refine w_iconst (n := 2923) (v := 1) (x := 1) (by decide +kernel) rfl (by decide) ?_
  refine w_iadd (n := 2924) (by decide +kernel) rfl ?_
  obtain ⟨i722, gi722, h⟩ := h
  refine w_sld (n := 2925) hL (by decide +kernel) gi722 rfl ?_
  refine w_aload_n (n := 2926) (i := 0) (by decide +kernel) rfl rfl ?_
  refine w_iload (n := 2928) (i := 5) (by decide +kernel) rfl rfl ?_
  refine w_iconst (n := 2929) (v := 2) (x := 2) (by decide +kernel) rfl (by decide) ?_
  refine w_iadd (n := 2930) (by decide +kernel) rfl ?_
  obtain ⟨i723, gi723, h⟩ := h
  refine w_sld (n := 2931) hL (by decide +kernel) gi723 rfl ?_
  refine w_aload_n (n := 2932) (i := 0) (by decide +kernel) rfl rfl ?_
  refine w_iload (n := 2934) (i := 5) (by decide +kernel) rfl rfl ?_
  refine w_iconst (n := 2935) (v := 3) (x := 3) (by decide +kernel) rfl (by decide) ?_
  refine w_iadd (n := 2936) (by decide +kernel) rfl ?_
  obtain ⟨i724, gi724, h⟩ := h
  refine w_sld (n := 2937) hL (by decide +kernel) gi724 rfl ?_
  refine w_aload_n (n := 2938) (i := 3) (by decide +kernel) rfl rfl ?_
  obtain ⟨v726, M725, hLM725, hr739, h⟩ := h
  refine w_cS (n := 2941) (idx := 316) (cal := 359) (na := 5) (nl := 5) (as := [.ref 0, .int (X.2.1 i722), .int (X.2.1 i723), .int (X.2.1 i724), .ref 497]) (rest := []) (by decide +kernel) (by decide +kernel) rfl rfl rfl (Nat.le_of_ble_eq_true rfl) rfl hr739 ?_
  refine w_istore (n := 2943) (i := 6) (l1' := [some (.ref 1000000), some (.ref 0), some (.ref 483), some (.ref 497), some (.ref 498), some (.int y5), some (.int v726), o7, o8, o9]) (l2' := (l2).filter (fun q => !(q.1 == 6) && !(q.1 + 1 == 6))) (by decide +kernel) rfl (Nat.le_of_ble_eq_true rfl) rfl rfl ?_
  refine w_aload_n (n := 2944) (i := 2) (by decide +kernel) rfl rfl ?_
  refine w_aload_n (n := 2945) (i := 0) (by decide +kernel) rfl rfl ?_
  refine w_iload (n := 2947) (i := 5) (by decide +kernel) rfl rfl ?_
  refine w_iconst (n := 2948) (v := 1) (x := 1) (by decide +kernel) rfl (by decide) ?_
  refine w_iadd (n := 2949) (by decide +kernel) rfl ?_
  obtain ⟨i727, gi727, h⟩ := h
  refine w_sld (n := 2950) hLM725 (by decide +kernel) gi727 rfl ?_
  refine w_aload_n (n := 2951) (i := 0) (by decide +kernel) rfl rfl ?_
  refine w_iload (n := 2953) (i := 5) (by decide +kernel) rfl rfl ?_
  refine w_iconst (n := 2954) (v := 2) (x := 2) (by decide +kernel) rfl (by decide) ?_
  refine w_iadd (n := 2955) (by decide +kernel) rfl ?_
  obtain ⟨i728, gi728, h⟩ := h
  refine w_sld (n := 2956) hLM725 (by decide +kernel) gi728 rfl ?_
  refine w_aload_n (n := 2957) (i := 0) (by decide +kernel) rfl rfl ?_
  refine w_iload (n := 2959) (i := 5) (by decide +kernel) rfl rfl ?_
  refine w_iconst (n := 2960) (v := 3) (x := 3) (by decide +kernel) rfl (by decide) ?_
  refine w_iadd (n := 2961) (by decide +kernel) rfl ?_
  obtain ⟨i729, gi729, h⟩ := h
  refine w_sld (n := 2962) hLM725 (by decide +kernel) gi729 rfl ?_
  obtain ⟨v731, M730, hLM730, hr738, h⟩ := h
  refine w_cV (n := 2965) (idx := 318) (cal := 267) (na := 3) (nl := 4) (as := [.int (X.2.1 i727), .int (X.2.1 i728), .int (X.2.1 i729)]) (rest := []) hLM725 (by decide +kernel) (by decide +kernel) (at_483) (by decide +kernel) rfl rfl rfl (Nat.le_of_ble_eq_true rfl) rfl hr738 ?_
  refine w_istore (n := 2967) (i := 7) (l1' := [some (.ref 1000000), some (.ref 0), some (.ref 483), some (.ref 497), some (.ref 498), some (.int y5), some (.int v726), some (.int v731), o8, o9]) (l2' := ((l2).filter (fun q => !(q.1 == 6) && !(q.1 + 1 == 6))).filter (fun q => !(q.1 == 7) && !(q.1 + 1 == 7))) (by decide +kernel) rfl (Nat.le_of_ble_eq_true rfl) rfl rfl ?_
  refine w_aload_n (n := 2968) (i := 2) (by decide +kernel) rfl rfl ?_
  obtain ⟨v733, M732, hLM732, hr737, h⟩ := h
  refine w_cV (n := 2971) (idx := 186) (cal := 154) (na := 0) (nl := 1) (as := []) (rest := []) hLM730 (by decide +kernel) (by decide +kernel) (at_483) (by decide +kernel) rfl rfl rfl (Nat.le_of_ble_eq_true rfl) rfl hr737 ?_
  refine w_iload (n := 2973) (i := 6) (by decide +kernel) rfl rfl ?_
  by_cases c736 : v733 = v726
  · rw [if_pos c736] at h
    refine w_icmp_eq_j (n := 2978) (off := 5) (by decide +kernel) (by decide) c736 ?_
    refine w_iload (n := 2980) (i := 6) (by decide +kernel) rfl rfl ?_
    by_cases c735 : v726 = 0
    · rw [if_pos c735] at h
      refine w_if_ne_n (n := 2983) (off := 15) (by decide +kernel) rfl c735 ?_
      refine w_aload_n (n := 2984) (i := 3) (by decide +kernel) rfl rfl ?_
      refine w_iconst (n := 2985) (v := 0) (x := 0) (by decide +kernel) rfl (by decide) ?_
      refine w_lald (n := 2986) (i := 0) hLM732 (by decide +kernel) (at_497) (an_497) ⟨by decide, by decide⟩ rfl ?_
      refine w_iload (n := 2988) (i := 7) (by decide +kernel) rfl rfl ?_
      refine w_i2l (n := 2989) (by decide +kernel) rfl ?_
      refine w_lcmp (n := 2990) (by decide +kernel) rfl ?_
      by_cases c734 : lg_cmp (ak_L M732 497 0) (v731.toInt64) = 0
      · rw [if_pos c734] at h
        refine w_if_eq_j (n := 2995) (off := 5) (by decide +kernel) (by decide) c734 ?_
        refine w_goto (n := 3274) (off := 279) (by decide +kernel) (by decide) ?_
        exact h
      · rw [if_neg c734] at h
        refine w_if_eq_n (n := 2993) (off := 5) (by decide +kernel) rfl c734 ?_
        refine w_iconst (n := 2994) (v := 0) (x := 0) (by decide +kernel) rfl (by decide) ?_
        subst h
        exact w_ireturn (by decide +kernel) (by decide +kernel)
    · rw [if_neg c735] at h
      refine w_if_ne_j (n := 2995) (off := 15) (by decide +kernel) (by decide) c735 ?_
      refine w_goto (n := 3274) (off := 279) (by decide +kernel) (by decide) ?_
      exact h
  · rw [if_neg c736] at h
    refine w_icmp_eq_n (n := 2976) (off := 5) (by decide +kernel) rfl c736 ?_
    refine w_iconst (n := 2977) (v := 0) (x := 0) (by decide +kernel) rfl (by decide) ?_
    subst h
    exact w_ireturn (by decide +kernel) (by decide +kernel)
theorem t_364_2998 {X : ak_X} {M : ak_M} {r : ak_O × ak_M} (hL : ab_lay M) (y5 : Int32) (o6 o7 o8 o9 : Option Value) (l2 : List (Nat × Value)) (h : (∃ i740 : Nat, ab_ix (y5 + 1) i740 X.1 ∧ (∃ i741 : Nat, ab_ix (y5 + 2) i741 X.1 ∧ (∃ (v743 : Int32) (M742 : ak_M), ab_lay M742 ∧ rn X 360 [.ref 0, .int (X.2.1 i740), .int (X.2.1 i741), .ref 497] M (.inl (some (.int v743)), M742) ∧ (∃ i744 : Nat, ab_ix (y5 + 1) i744 X.1 ∧ (∃ i745 : Nat, ab_ix (y5 + 2) i745 X.1 ∧ (∃ (v747 : Int32) (M746 : ak_M), ab_lay M746 ∧ rn X 270 [.ref 483, .int (X.2.1 i744), .int (X.2.1 i745)] M742 (.inl (some (.int v747)), M746) ∧ (∃ (v749 : Int32) (M748 : ak_M), ab_lay M748 ∧ rn X 154 [.ref 483] M746 (.inl (some (.int v749)), M748) ∧ (if v749 = v743 then (if v743 = 0 then (if lg_cmp (ak_L M748 497 0) (v747.toInt64) = 0 then sg X 364 (3274, [some (.ref 1000000), some (.ref 0), some (.ref 483), some (.ref 497), some (.ref 498), some (.int y5), some (.int v743), some (.int v747), o8, o9], ((l2).filter (fun q => !(q.1 == 6) && !(q.1 + 1 == 6))).filter (fun q => !(q.1 == 7) && !(q.1 + 1 == 7)), []) M748 r else r = (.inl (some (.int 0)), M748)) else sg X 364 (3274, [some (.ref 1000000), some (.ref 0), some (.ref 483), some (.ref 497), some (.ref 498), some (.int y5), some (.int v743), some (.int v747), o8, o9], ((l2).filter (fun q => !(q.1 == 6) && !(q.1 + 1 == 6))).filter (fun q => !(q.1 == 7) && !(q.1 + 1 == 7)), []) M748 r) else r = (.inl (some (.int 0)), M748)))))))))) : sg X 364 (2998, [some (.ref 1000000), some (.ref 0), some (.ref 483), some (.ref 497), some (.ref 498), some (.int y5), o6, o7, o8, o9], l2, []) M r := by
  refine w_aload_n (n := 2999) (i := 1) (by decide +kernel) rfl rfl ?_
  refine w_aload_n (n := 3000) (i := 0) (by decide +kernel) rfl rfl ?_
  refine w_iload (n := 3002) (i := 5) (by decide +kernel) rfl rfl ?_
  refine w_iconst (n := 3003) (v := 1) (x := 1) (by decide +kernel) rfl (by decide) ?_
  refine w_iadd (n := 3004) (by decide +kernel) rfl ?_
  obtain ⟨i740, gi740, h⟩ := h
  refine w_sld (n := 3005) hL (by decide +kernel) gi740 rfl ?_
  refine w_aload_n (n := 3006) (i := 0) (by decide +kernel) rfl rfl ?_
  refine w_iload (n := 3008) (i := 5) (by decide +kernel) rfl rfl ?_
  refine w_iconst (n := 3009) (v := 2) (x := 2) (by decide +kernel) rfl (by decide) ?_
  refine w_iadd (n := 3010) (by decide +kernel) rfl ?_
  obtain ⟨i741, gi741, h⟩ := h
  refine w_sld (n := 3011) hL (by decide +kernel) gi741 rfl ?_
  refine w_aload_n (n := 3012) (i := 3) (by decide +kernel) rfl rfl ?_
  obtain ⟨v743, M742, hLM742, hr755, h⟩ := h
  refine w_cS (n := 3015) (idx := 319) (cal := 360) (na := 4) (nl := 4) (as := [.ref 0, .int (X.2.1 i740), .int (X.2.1 i741), .ref 497]) (rest := []) (by decide +kernel) (by decide +kernel) rfl rfl rfl (Nat.le_of_ble_eq_true rfl) rfl hr755 ?_
  refine w_istore (n := 3017) (i := 6) (l1' := [some (.ref 1000000), some (.ref 0), some (.ref 483), some (.ref 497), some (.ref 498), some (.int y5), some (.int v743), o7, o8, o9]) (l2' := (l2).filter (fun q => !(q.1 == 6) && !(q.1 + 1 == 6))) (by decide +kernel) rfl (Nat.le_of_ble_eq_true rfl) rfl rfl ?_
  refine w_aload_n (n := 3018) (i := 2) (by decide +kernel) rfl rfl ?_
  refine w_aload_n (n := 3019) (i := 0) (by decide +kernel) rfl rfl ?_
  refine w_iload (n := 3021) (i := 5) (by decide +kernel) rfl rfl ?_
  refine w_iconst (n := 3022) (v := 1) (x := 1) (by decide +kernel) rfl (by decide) ?_
  refine w_iadd (n := 3023) (by decide +kernel) rfl ?_
  obtain ⟨i744, gi744, h⟩ := h
  refine w_sld (n := 3024) hLM742 (by decide +kernel) gi744 rfl ?_
  refine w_aload_n (n := 3025) (i := 0) (by decide +kernel) rfl rfl ?_
  refine w_iload (n := 3027) (i := 5) (by decide +kernel) rfl rfl ?_
  refine w_iconst (n := 3028) (v := 2) (x := 2) (by decide +kernel) rfl (by decide) ?_
  refine w_iadd (n := 3029) (by decide +kernel) rfl ?_
  obtain ⟨i745, gi745, h⟩ := h
  refine w_sld (n := 3030) hLM742 (by decide +kernel) gi745 rfl ?_
  obtain ⟨v747, M746, hLM746, hr754, h⟩ := h
  refine w_cV (n := 3033) (idx := 321) (cal := 270) (na := 2) (nl := 3) (as := [.int (X.2.1 i744), .int (X.2.1 i745)]) (rest := []) hLM742 (by decide +kernel) (by decide +kernel) (at_483) (by decide +kernel) rfl rfl rfl (Nat.le_of_ble_eq_true rfl) rfl hr754 ?_
  refine w_istore (n := 3035) (i := 7) (l1' := [some (.ref 1000000), some (.ref 0), some (.ref 483), some (.ref 497), some (.ref 498), some (.int y5), some (.int v743), some (.int v747), o8, o9]) (l2' := ((l2).filter (fun q => !(q.1 == 6) && !(q.1 + 1 == 6))).filter (fun q => !(q.1 == 7) && !(q.1 + 1 == 7))) (by decide +kernel) rfl (Nat.le_of_ble_eq_true rfl) rfl rfl ?_
  refine w_aload_n (n := 3036) (i := 2) (by decide +kernel) rfl rfl ?_
  obtain ⟨v749, M748, hLM748, hr753, h⟩ := h
  refine w_cV (n := 3039) (idx := 186) (cal := 154) (na := 0) (nl := 1) (as := []) (rest := []) hLM746 (by decide +kernel) (by decide +kernel) (at_483) (by decide +kernel) rfl rfl rfl (Nat.le_of_ble_eq_true rfl) rfl hr753 ?_
  refine w_iload (n := 3041) (i := 6) (by decide +kernel) rfl rfl ?_
  by_cases c752 : v749 = v743
  · rw [if_pos c752] at h
    refine w_icmp_eq_j (n := 3046) (off := 5) (by decide +kernel) (by decide) c752 ?_
    refine w_iload (n := 3048) (i := 6) (by decide +kernel) rfl rfl ?_
    by_cases c751 : v743 = 0
    · rw [if_pos c751] at h
      refine w_if_ne_n (n := 3051) (off := 15) (by decide +kernel) rfl c751 ?_
      refine w_aload_n (n := 3052) (i := 3) (by decide +kernel) rfl rfl ?_
      refine w_iconst (n := 3053) (v := 0) (x := 0) (by decide +kernel) rfl (by decide) ?_
      refine w_lald (n := 3054) (i := 0) hLM748 (by decide +kernel) (at_497) (an_497) ⟨by decide, by decide⟩ rfl ?_
      refine w_iload (n := 3056) (i := 7) (by decide +kernel) rfl rfl ?_
      refine w_i2l (n := 3057) (by decide +kernel) rfl ?_
      refine w_lcmp (n := 3058) (by decide +kernel) rfl ?_
      by_cases c750 : lg_cmp (ak_L M748 497 0) (v747.toInt64) = 0
      · rw [if_pos c750] at h
        refine w_if_eq_j (n := 3063) (off := 5) (by decide +kernel) (by decide) c750 ?_
        refine w_goto (n := 3274) (off := 211) (by decide +kernel) (by decide) ?_
        exact h
      · rw [if_neg c750] at h
        refine w_if_eq_n (n := 3061) (off := 5) (by decide +kernel) rfl c750 ?_
        refine w_iconst (n := 3062) (v := 0) (x := 0) (by decide +kernel) rfl (by decide) ?_
        subst h
        exact w_ireturn (by decide +kernel) (by decide +kernel)
    · rw [if_neg c751] at h
      refine w_if_ne_j (n := 3063) (off := 15) (by decide +kernel) (by decide) c751 ?_
      refine w_goto (n := 3274) (off := 211) (by decide +kernel) (by decide) ?_
      exact h
  · rw [if_neg c752] at h
    refine w_icmp_eq_n (n := 3044) (off := 5) (by decide +kernel) rfl c752 ?_
    refine w_iconst (n := 3045) (v := 0) (x := 0) (by decide +kernel) rfl (by decide) ?_
    subst h
    exact w_ireturn (by decide +kernel) (by decide +kernel)
theorem t_364_3066 {X : ak_X} {M : ak_M} {r : ak_O × ak_M} (hL : ab_lay M) (y5 : Int32) (o6 o7 o8 o9 : Option Value) (l2 : List (Nat × Value)) (h : (∃ (v757 : Int32) (M756 : ak_M), ab_lay M756 ∧ rn X 361 [.ref 0, .ref 497] M (.inl (some (.int v757)), M756) ∧ (∃ (v759 : Int32) (M758 : ak_M), ab_lay M758 ∧ rn X 163 [.ref 483] M756 (.inl (some (.int v759)), M758) ∧ (∃ (v761 : Int32) (M760 : ak_M), ab_lay M760 ∧ rn X 154 [.ref 483] M758 (.inl (some (.int v761)), M760) ∧ (if v761 = v757 then (if v757 = 0 then (if lg_cmp (ak_L M760 497 0) (v759.toInt64) = 0 then sg X 364 (3274, [some (.ref 1000000), some (.ref 0), some (.ref 483), some (.ref 497), some (.ref 498), some (.int y5), some (.int v757), some (.int v759), o8, o9], ((l2).filter (fun q => !(q.1 == 6) && !(q.1 + 1 == 6))).filter (fun q => !(q.1 == 7) && !(q.1 + 1 == 7)), []) M760 r else r = (.inl (some (.int 0)), M760)) else sg X 364 (3274, [some (.ref 1000000), some (.ref 0), some (.ref 483), some (.ref 497), some (.ref 498), some (.int y5), some (.int v757), some (.int v759), o8, o9], ((l2).filter (fun q => !(q.1 == 6) && !(q.1 + 1 == 6))).filter (fun q => !(q.1 == 7) && !(q.1 + 1 == 7)), []) M760 r) else r = (.inl (some (.int 0)), M760)))))) : sg X 364 (3066, [some (.ref 1000000), some (.ref 0), some (.ref 483), some (.ref 497), some (.ref 498), some (.int y5), o6, o7, o8, o9], l2, []) M r := by
  refine w_aload_n (n := 3067) (i := 1) (by decide +kernel) rfl rfl ?_
  refine w_aload_n (n := 3068) (i := 3) (by decide +kernel) rfl rfl ?_
  obtain ⟨v757, M756, hLM756, hr767, h⟩ := h
  refine w_cS (n := 3071) (idx := 322) (cal := 361) (na := 2) (nl := 2) (as := [.ref 0, .ref 497]) (rest := []) (by decide +kernel) (by decide +kernel) rfl rfl rfl (Nat.le_of_ble_eq_true rfl) rfl hr767 ?_
  refine w_istore (n := 3073) (i := 6) (l1' := [some (.ref 1000000), some (.ref 0), some (.ref 483), some (.ref 497), some (.ref 498), some (.int y5), some (.int v757), o7, o8, o9]) (l2' := (l2).filter (fun q => !(q.1 == 6) && !(q.1 + 1 == 6))) (by decide +kernel) rfl (Nat.le_of_ble_eq_true rfl) rfl rfl ?_
  refine w_aload_n (n := 3074) (i := 2) (by decide +kernel) rfl rfl ?_
  obtain ⟨v759, M758, hLM758, hr766, h⟩ := h
  refine w_cV (n := 3077) (idx := 325) (cal := 163) (na := 0) (nl := 1) (as := []) (rest := []) hLM756 (by decide +kernel) (by decide +kernel) (at_483) (by decide +kernel) rfl rfl rfl (Nat.le_of_ble_eq_true rfl) rfl hr766 ?_
  refine w_istore (n := 3079) (i := 7) (l1' := [some (.ref 1000000), some (.ref 0), some (.ref 483), some (.ref 497), some (.ref 498), some (.int y5), some (.int v757), some (.int v759), o8, o9]) (l2' := ((l2).filter (fun q => !(q.1 == 6) && !(q.1 + 1 == 6))).filter (fun q => !(q.1 == 7) && !(q.1 + 1 == 7))) (by decide +kernel) rfl (Nat.le_of_ble_eq_true rfl) rfl rfl ?_
  refine w_aload_n (n := 3080) (i := 2) (by decide +kernel) rfl rfl ?_
  obtain ⟨v761, M760, hLM760, hr765, h⟩ := h
  refine w_cV (n := 3083) (idx := 186) (cal := 154) (na := 0) (nl := 1) (as := []) (rest := []) hLM758 (by decide +kernel) (by decide +kernel) (at_483) (by decide +kernel) rfl rfl rfl (Nat.le_of_ble_eq_true rfl) rfl hr765 ?_
  refine w_iload (n := 3085) (i := 6) (by decide +kernel) rfl rfl ?_
  by_cases c764 : v761 = v757
  · rw [if_pos c764] at h
    refine w_icmp_eq_j (n := 3090) (off := 5) (by decide +kernel) (by decide) c764 ?_
    refine w_iload (n := 3092) (i := 6) (by decide +kernel) rfl rfl ?_
    by_cases c763 : v757 = 0
    · rw [if_pos c763] at h
      refine w_if_ne_n (n := 3095) (off := 15) (by decide +kernel) rfl c763 ?_
      refine w_aload_n (n := 3096) (i := 3) (by decide +kernel) rfl rfl ?_
      refine w_iconst (n := 3097) (v := 0) (x := 0) (by decide +kernel) rfl (by decide) ?_
      refine w_lald (n := 3098) (i := 0) hLM760 (by decide +kernel) (at_497) (an_497) ⟨by decide, by decide⟩ rfl ?_
      refine w_iload (n := 3100) (i := 7) (by decide +kernel) rfl rfl ?_
      refine w_i2l (n := 3101) (by decide +kernel) rfl ?_
      refine w_lcmp (n := 3102) (by decide +kernel) rfl ?_
      by_cases c762 : lg_cmp (ak_L M760 497 0) (v759.toInt64) = 0
      · rw [if_pos c762] at h
        refine w_if_eq_j (n := 3107) (off := 5) (by decide +kernel) (by decide) c762 ?_
        refine w_goto (n := 3274) (off := 167) (by decide +kernel) (by decide) ?_
        exact h
      · rw [if_neg c762] at h
        refine w_if_eq_n (n := 3105) (off := 5) (by decide +kernel) rfl c762 ?_
        refine w_iconst (n := 3106) (v := 0) (x := 0) (by decide +kernel) rfl (by decide) ?_
        subst h
        exact w_ireturn (by decide +kernel) (by decide +kernel)
    · rw [if_neg c763] at h
      refine w_if_ne_j (n := 3107) (off := 15) (by decide +kernel) (by decide) c763 ?_
      refine w_goto (n := 3274) (off := 167) (by decide +kernel) (by decide) ?_
      exact h
  · rw [if_neg c764] at h
    refine w_icmp_eq_n (n := 3088) (off := 5) (by decide +kernel) rfl c764 ?_
    refine w_iconst (n := 3089) (v := 0) (x := 0) (by decide +kernel) rfl (by decide) ?_
    subst h
    exact w_ireturn (by decide +kernel) (by decide +kernel)
theorem t_364_3110 {X : ak_X} {M : ak_M} {r : ak_O × ak_M} (hL : ab_lay M) (y5 : Int32) (o6 o7 o8 o9 : Option Value) (l2 : List (Nat × Value)) (h : (∃ i768 : Nat, ab_ix (y5 + 1) i768 X.1 ∧ (∃ (v770 : Int32) (M769 : ak_M), ab_lay M769 ∧ rn X 362 [.ref 0, .int (X.2.1 i768), .ref 497] M (.inl (some (.int v770)), M769) ∧ (∃ i771 : Nat, ab_ix (y5 + 1) i771 X.1 ∧ (∃ (v773 : Int32) (M772 : ak_M), ab_lay M772 ∧ rn X 309 [.ref 483, .int (X.2.1 i771)] M769 (.inl (some (.int v773)), M772) ∧ (∃ (v775 : Int32) (M774 : ak_M), ab_lay M774 ∧ rn X 154 [.ref 483] M772 (.inl (some (.int v775)), M774) ∧ (if v775 = v770 then (if v770 = 0 then (if lg_cmp (ak_L M774 497 0) (v773.toInt64) = 0 then sg X 364 (3274, [some (.ref 1000000), some (.ref 0), some (.ref 483), some (.ref 497), some (.ref 498), some (.int y5), some (.int v770), some (.int v773), o8, o9], ((l2).filter (fun q => !(q.1 == 6) && !(q.1 + 1 == 6))).filter (fun q => !(q.1 == 7) && !(q.1 + 1 == 7)), []) M774 r else r = (.inl (some (.int 0)), M774)) else sg X 364 (3274, [some (.ref 1000000), some (.ref 0), some (.ref 483), some (.ref 497), some (.ref 498), some (.int y5), some (.int v770), some (.int v773), o8, o9], ((l2).filter (fun q => !(q.1 == 6) && !(q.1 + 1 == 6))).filter (fun q => !(q.1 == 7) && !(q.1 + 1 == 7)), []) M774 r) else r = (.inl (some (.int 0)), M774)))))))) : sg X 364 (3110, [some (.ref 1000000), some (.ref 0), some (.ref 483), some (.ref 497), some (.ref 498), some (.int y5), o6, o7, o8, o9], l2, []) M r := by
  refine w_aload_n (n := 3111) (i := 1) (by decide +kernel) rfl rfl ?_
  refine w_aload_n (n := 3112) (i := 0) (by decide +kernel) rfl rfl ?_
  refine w_iload (n := 3114) (i := 5) (by decide +kernel) rfl rfl ?_
  refine w_iconst (n := 3115) (v := 1) (x := 1) (by decide +kernel) rfl (by decide) ?_
  refine w_iadd (n := 3116) (by decide +kernel) rfl ?_
  obtain ⟨i768, gi768, h⟩ := h
  refine w_sld (n := 3117) hL (by decide +kernel) gi768 rfl ?_
  refine w_aload_n (n := 3118) (i := 3) (by decide +kernel) rfl rfl ?_
  obtain ⟨v770, M769, hLM769, hr781, h⟩ := h
  refine w_cS (n := 3121) (idx := 326) (cal := 362) (na := 3) (nl := 3) (as := [.ref 0, .int (X.2.1 i768), .ref 497]) (rest := []) (by decide +kernel) (by decide +kernel) rfl rfl rfl (Nat.le_of_ble_eq_true rfl) rfl hr781 ?_
  refine w_istore (n := 3123) (i := 6) (l1' := [some (.ref 1000000), some (.ref 0), some (.ref 483), some (.ref 497), some (.ref 498), some (.int y5), some (.int v770), o7, o8, o9]) (l2' := (l2).filter (fun q => !(q.1 == 6) && !(q.1 + 1 == 6))) (by decide +kernel) rfl (Nat.le_of_ble_eq_true rfl) rfl rfl ?_
  refine w_aload_n (n := 3124) (i := 2) (by decide +kernel) rfl rfl ?_
  refine w_aload_n (n := 3125) (i := 0) (by decide +kernel) rfl rfl ?_
  refine w_iload (n := 3127) (i := 5) (by decide +kernel) rfl rfl ?_
  refine w_iconst (n := 3128) (v := 1) (x := 1) (by decide +kernel) rfl (by decide) ?_
  refine w_iadd (n := 3129) (by decide +kernel) rfl ?_
  obtain ⟨i771, gi771, h⟩ := h
  refine w_sld (n := 3130) hLM769 (by decide +kernel) gi771 rfl ?_
  obtain ⟨v773, M772, hLM772, hr780, h⟩ := h
  refine w_cV (n := 3133) (idx := 328) (cal := 309) (na := 1) (nl := 2) (as := [.int (X.2.1 i771)]) (rest := []) hLM769 (by decide +kernel) (by decide +kernel) (at_483) (by decide +kernel) rfl rfl rfl (Nat.le_of_ble_eq_true rfl) rfl hr780 ?_
  refine w_istore (n := 3135) (i := 7) (l1' := [some (.ref 1000000), some (.ref 0), some (.ref 483), some (.ref 497), some (.ref 498), some (.int y5), some (.int v770), some (.int v773), o8, o9]) (l2' := ((l2).filter (fun q => !(q.1 == 6) && !(q.1 + 1 == 6))).filter (fun q => !(q.1 == 7) && !(q.1 + 1 == 7))) (by decide +kernel) rfl (Nat.le_of_ble_eq_true rfl) rfl rfl ?_
  refine w_aload_n (n := 3136) (i := 2) (by decide +kernel) rfl rfl ?_
  obtain ⟨v775, M774, hLM774, hr779, h⟩ := h
  refine w_cV (n := 3139) (idx := 186) (cal := 154) (na := 0) (nl := 1) (as := []) (rest := []) hLM772 (by decide +kernel) (by decide +kernel) (at_483) (by decide +kernel) rfl rfl rfl (Nat.le_of_ble_eq_true rfl) rfl hr779 ?_
  refine w_iload (n := 3141) (i := 6) (by decide +kernel) rfl rfl ?_
  by_cases c778 : v775 = v770
  · rw [if_pos c778] at h
    refine w_icmp_eq_j (n := 3146) (off := 5) (by decide +kernel) (by decide) c778 ?_
    refine w_iload (n := 3148) (i := 6) (by decide +kernel) rfl rfl ?_
    by_cases c777 : v770 = 0
    · rw [if_pos c777] at h
      refine w_if_ne_n (n := 3151) (off := 15) (by decide +kernel) rfl c777 ?_
      refine w_aload_n (n := 3152) (i := 3) (by decide +kernel) rfl rfl ?_
      refine w_iconst (n := 3153) (v := 0) (x := 0) (by decide +kernel) rfl (by decide) ?_
      refine w_lald (n := 3154) (i := 0) hLM774 (by decide +kernel) (at_497) (an_497) ⟨by decide, by decide⟩ rfl ?_
      refine w_iload (n := 3156) (i := 7) (by decide +kernel) rfl rfl ?_
      refine w_i2l (n := 3157) (by decide +kernel) rfl ?_
      refine w_lcmp (n := 3158) (by decide +kernel) rfl ?_
      by_cases c776 : lg_cmp (ak_L M774 497 0) (v773.toInt64) = 0
      · rw [if_pos c776] at h
        refine w_if_eq_j (n := 3163) (off := 5) (by decide +kernel) (by decide) c776 ?_
        refine w_goto (n := 3274) (off := 111) (by decide +kernel) (by decide) ?_
        exact h
      · rw [if_neg c776] at h
        refine w_if_eq_n (n := 3161) (off := 5) (by decide +kernel) rfl c776 ?_
        refine w_iconst (n := 3162) (v := 0) (x := 0) (by decide +kernel) rfl (by decide) ?_
        subst h
        exact w_ireturn (by decide +kernel) (by decide +kernel)
    · rw [if_neg c777] at h
      refine w_if_ne_j (n := 3163) (off := 15) (by decide +kernel) (by decide) c777 ?_
      refine w_goto (n := 3274) (off := 111) (by decide +kernel) (by decide) ?_
      exact h
  · rw [if_neg c778] at h
    refine w_icmp_eq_n (n := 3144) (off := 5) (by decide +kernel) rfl c778 ?_
    refine w_iconst (n := 3145) (v := 0) (x := 0) (by decide +kernel) rfl (by decide) ?_
    subst h
    exact w_ireturn (by decide +kernel) (by decide +kernel)
theorem t_364_3166 {X : ak_X} {M : ak_M} {r : ak_O × ak_M} (hL : ab_lay M) (y5 : Int32) (o6 o7 o8 o9 : Option Value) (l2 : List (Nat × Value)) (h : (∃ (v783 : Int32) (M782 : ak_M), ab_lay M782 ∧ rn X 139 [.ref 0] M (.inl (some (.int v783)), M782) ∧ (∃ (v785 : Int32) (M784 : ak_M), ab_lay M784 ∧ rn X 310 [.ref 483] M782 (.inl (some (.int v785)), M784) ∧ (if v783 = v785 then sg X 364 (3274, [some (.ref 1000000), some (.ref 0), some (.ref 483), some (.ref 497), some (.ref 498), some (.int y5), o6, o7, o8, o9], l2, []) M784 r else r = (.inl (some (.int 0)), M784))))) : sg X 364 (3166, [some (.ref 1000000), some (.ref 0), some (.ref 483), some (.ref 497), some (.ref 498), some (.int y5), o6, o7, o8, o9], l2, []) M r := by
  refine w_aload_n (n := 3167) (i := 1) (by decide +kernel) rfl rfl ?_
  obtain ⟨v783, M782, hLM782, hr788, h⟩ := h
  refine w_cV (n := 3170) (idx := 329) (cal := 139) (na := 0) (nl := 1) (as := []) (rest := []) hL (by decide +kernel) (by decide +kernel) (at_0) (by decide +kernel) rfl rfl rfl (Nat.le_of_ble_eq_true rfl) rfl hr788 ?_
  refine w_aload_n (n := 3171) (i := 2) (by decide +kernel) rfl rfl ?_
  obtain ⟨v785, M784, hLM784, hr787, h⟩ := h
  refine w_cV (n := 3174) (idx := 332) (cal := 310) (na := 0) (nl := 1) (as := []) (rest := [.int v783]) hLM782 (by decide +kernel) (by decide +kernel) (at_483) (by decide +kernel) rfl rfl rfl (Nat.le_of_ble_eq_true rfl) rfl hr787 ?_
  by_cases c786 : v783 = v785
  · rw [if_pos c786] at h
    refine w_icmp_eq_j (n := 3274) (off := 100) (by decide +kernel) (by decide) c786 ?_
    exact h
  · rw [if_neg c786] at h
    refine w_icmp_eq_n (n := 3177) (off := 100) (by decide +kernel) rfl c786 ?_
    refine w_iconst (n := 3178) (v := 0) (x := 0) (by decide +kernel) rfl (by decide) ?_
    subst h
    exact w_ireturn (by decide +kernel) (by decide +kernel)
theorem t_364_3179 {X : ak_X} {M : ak_M} {r : ak_O × ak_M} (hL : ab_lay M) (y5 : Int32) (o6 o7 o8 o9 : Option Value) (l2 : List (Nat × Value)) (h : (∃ (v790 : Int32) (M789 : ak_M), ab_lay M789 ∧ rn X 140 [.ref 0] M (.inl (some (.int v790)), M789) ∧ (∃ (v792 : Int32) (M791 : ak_M), ab_lay M791 ∧ rn X 311 [.ref 483] M789 (.inl (some (.int v792)), M791) ∧ (if v790 = v792 then sg X 364 (3274, [some (.ref 1000000), some (.ref 0), some (.ref 483), some (.ref 497), some (.ref 498), some (.int y5), o6, o7, o8, o9], l2, []) M791 r else r = (.inl (some (.int 0)), M791))))) : sg X 364 (3179, [some (.ref 1000000), some (.ref 0), some (.ref 483), some (.ref 497), some (.ref 498), some (.int y5), o6, o7, o8, o9], l2, []) M r := by
  refine w_aload_n (n := 3180) (i := 1) (by decide +kernel) rfl rfl ?_
  obtain ⟨v790, M789, hLM789, hr795, h⟩ := h
  refine w_cV (n := 3183) (idx := 333) (cal := 140) (na := 0) (nl := 1) (as := []) (rest := []) hL (by decide +kernel) (by decide +kernel) (at_0) (by decide +kernel) rfl rfl rfl (Nat.le_of_ble_eq_true rfl) rfl hr795 ?_
  refine w_aload_n (n := 3184) (i := 2) (by decide +kernel) rfl rfl ?_
  obtain ⟨v792, M791, hLM791, hr794, h⟩ := h
  refine w_cV (n := 3187) (idx := 336) (cal := 311) (na := 0) (nl := 1) (as := []) (rest := [.int v790]) hLM789 (by decide +kernel) (by decide +kernel) (at_483) (by decide +kernel) rfl rfl rfl (Nat.le_of_ble_eq_true rfl) rfl hr794 ?_
  by_cases c793 : v790 = v792
  · rw [if_pos c793] at h
    refine w_icmp_eq_j (n := 3274) (off := 87) (by decide +kernel) (by decide) c793 ?_
    exact h
  · rw [if_neg c793] at h
    refine w_icmp_eq_n (n := 3190) (off := 87) (by decide +kernel) rfl c793 ?_
    refine w_iconst (n := 3191) (v := 0) (x := 0) (by decide +kernel) rfl (by decide) ?_
    subst h
    exact w_ireturn (by decide +kernel) (by decide +kernel)
theorem t_364_3192 {X : ak_X} {M : ak_M} {r : ak_O × ak_M} (hL : ab_lay M) (y5 : Int32) (o6 o7 o8 o9 : Option Value) (l2 : List (Nat × Value)) (h : (∃ i796 : Nat, ab_ix (y5 + 1) i796 X.1 ∧ (∃ (v798 : Int32) (M797 : ak_M), ab_lay M797 ∧ rn X 141 [.ref 0, .int (X.2.1 i796)] M (.inl (some (.int v798)), M797) ∧ (∃ i799 : Nat, ab_ix (y5 + 1) i799 X.1 ∧ (∃ (v801 : Int32) (M800 : ak_M), ab_lay M800 ∧ rn X 312 [.ref 483, .int (X.2.1 i799)] M797 (.inl (some (.int v801)), M800) ∧ (if v798 = v801 then sg X 364 (3274, [some (.ref 1000000), some (.ref 0), some (.ref 483), some (.ref 497), some (.ref 498), some (.int y5), o6, o7, o8, o9], l2, []) M800 r else r = (.inl (some (.int 0)), M800))))))) : sg X 364 (3192, [some (.ref 1000000), some (.ref 0), some (.ref 483), some (.ref 497), some (.ref 498), some (.int y5), o6, o7, o8, o9], l2, []) M r := by
  refine w_aload_n (n := 3193) (i := 1) (by decide +kernel) rfl rfl ?_
  refine w_aload_n (n := 3194) (i := 0) (by decide +kernel) rfl rfl ?_
  refine w_iload (n := 3196) (i := 5) (by decide +kernel) rfl rfl ?_
  refine w_iconst (n := 3197) (v := 1) (x := 1) (by decide +kernel) rfl (by decide) ?_
  refine w_iadd (n := 3198) (by decide +kernel) rfl ?_
  obtain ⟨i796, gi796, h⟩ := h
  refine w_sld (n := 3199) hL (by decide +kernel) gi796 rfl ?_
  obtain ⟨v798, M797, hLM797, hr804, h⟩ := h
  refine w_cV (n := 3202) (idx := 337) (cal := 141) (na := 1) (nl := 2) (as := [.int (X.2.1 i796)]) (rest := []) hL (by decide +kernel) (by decide +kernel) (at_0) (by decide +kernel) rfl rfl rfl (Nat.le_of_ble_eq_true rfl) rfl hr804 ?_
  refine w_aload_n (n := 3203) (i := 2) (by decide +kernel) rfl rfl ?_
  refine w_aload_n (n := 3204) (i := 0) (by decide +kernel) rfl rfl ?_
  refine w_iload (n := 3206) (i := 5) (by decide +kernel) rfl rfl ?_
  refine w_iconst (n := 3207) (v := 1) (x := 1) (by decide +kernel) rfl (by decide) ?_
  refine w_iadd (n := 3208) (by decide +kernel) rfl ?_
  obtain ⟨i799, gi799, h⟩ := h
  refine w_sld (n := 3209) hLM797 (by decide +kernel) gi799 rfl ?_
  obtain ⟨v801, M800, hLM800, hr803, h⟩ := h
  refine w_cV (n := 3212) (idx := 340) (cal := 312) (na := 1) (nl := 2) (as := [.int (X.2.1 i799)]) (rest := [.int v798]) hLM797 (by decide +kernel) (by decide +kernel) (at_483) (by decide +kernel) rfl rfl rfl (Nat.le_of_ble_eq_true rfl) rfl hr803 ?_
  by_cases c802 : v798 = v801
  · rw [if_pos c802] at h
    refine w_icmp_eq_j (n := 3274) (off := 62) (by decide +kernel) (by decide) c802 ?_
    exact h
  · rw [if_neg c802] at h
    refine w_icmp_eq_n (n := 3215) (off := 62) (by decide +kernel) rfl c802 ?_
    refine w_iconst (n := 3216) (v := 0) (x := 0) (by decide +kernel) rfl (by decide) ?_
    subst h
    exact w_ireturn (by decide +kernel) (by decide +kernel)
theorem t_364_3217 {X : ak_X} {M : ak_M} {r : ak_O × ak_M} (hL : ab_lay M) (y5 : Int32) (o6 o7 o8 o9 : Option Value) (l2 : List (Nat × Value)) (h : (∃ (v806 : Int32) (M805 : ak_M), ab_lay M805 ∧ rn X 142 [.ref 0] M (.inl (some (.int v806)), M805) ∧ (∃ (v808 : Int32) (M807 : ak_M), ab_lay M807 ∧ rn X 164 [.ref 483] M805 (.inl (some (.int v808)), M807) ∧ (if v806 = v808 then sg X 364 (3274, [some (.ref 1000000), some (.ref 0), some (.ref 483), some (.ref 497), some (.ref 498), some (.int y5), o6, o7, o8, o9], l2, []) M807 r else r = (.inl (some (.int 0)), M807))))) : sg X 364 (3217, [some (.ref 1000000), some (.ref 0), some (.ref 483), some (.ref 497), some (.ref 498), some (.int y5), o6, o7, o8, o9], l2, []) M r := by
  refine w_aload_n (n := 3218) (i := 1) (by decide +kernel) rfl rfl ?_
  obtain ⟨v806, M805, hLM805, hr811, h⟩ := h
  refine w_cV (n := 3221) (idx := 341) (cal := 142) (na := 0) (nl := 1) (as := []) (rest := []) hL (by decide +kernel) (by decide +kernel) (at_0) (by decide +kernel) rfl rfl rfl (Nat.le_of_ble_eq_true rfl) rfl hr811 ?_
  refine w_aload_n (n := 3222) (i := 2) (by decide +kernel) rfl rfl ?_
  obtain ⟨v808, M807, hLM807, hr810, h⟩ := h
  refine w_cV (n := 3225) (idx := 344) (cal := 164) (na := 0) (nl := 1) (as := []) (rest := [.int v806]) hLM805 (by decide +kernel) (by decide +kernel) (at_483) (by decide +kernel) rfl rfl rfl (Nat.le_of_ble_eq_true rfl) rfl hr810 ?_
  by_cases c809 : v806 = v808
  · rw [if_pos c809] at h
    refine w_icmp_eq_j (n := 3274) (off := 49) (by decide +kernel) (by decide) c809 ?_
    exact h
  · rw [if_neg c809] at h
    refine w_icmp_eq_n (n := 3228) (off := 49) (by decide +kernel) rfl c809 ?_
    refine w_iconst (n := 3229) (v := 0) (x := 0) (by decide +kernel) rfl (by decide) ?_
    subst h
    exact w_ireturn (by decide +kernel) (by decide +kernel)
theorem t_364_3230 {X : ak_X} {M : ak_M} {r : ak_O × ak_M} (hL : ab_lay M) (y5 : Int32) (o6 o7 o8 o9 : Option Value) (l2 : List (Nat × Value)) (h : (∃ (v813 : Int32) (M812 : ak_M), ab_lay M812 ∧ rn X 363 [.ref 0, .ref 497] M (.inl (some (.int v813)), M812) ∧ (∃ (v815 : Int32) (M814 : ak_M), ab_lay M814 ∧ rn X 165 [.ref 483] M812 (.inl (some (.int v815)), M814) ∧ (∃ (v817 : Int32) (M816 : ak_M), ab_lay M816 ∧ rn X 154 [.ref 483] M814 (.inl (some (.int v817)), M816) ∧ (if v817 = v813 then (if v813 = 0 then (if lg_cmp (ak_L M816 497 0) (v815.toInt64) = 0 then sg X 364 (3274, [some (.ref 1000000), some (.ref 0), some (.ref 483), some (.ref 497), some (.ref 498), some (.int y5), some (.int v813), some (.int v815), o8, o9], ((l2).filter (fun q => !(q.1 == 6) && !(q.1 + 1 == 6))).filter (fun q => !(q.1 == 7) && !(q.1 + 1 == 7)), []) M816 r else r = (.inl (some (.int 0)), M816)) else sg X 364 (3274, [some (.ref 1000000), some (.ref 0), some (.ref 483), some (.ref 497), some (.ref 498), some (.int y5), some (.int v813), some (.int v815), o8, o9], ((l2).filter (fun q => !(q.1 == 6) && !(q.1 + 1 == 6))).filter (fun q => !(q.1 == 7) && !(q.1 + 1 == 7)), []) M816 r) else r = (.inl (some (.int 0)), M816)))))) : sg X 364 (3230, [some (.ref 1000000), some (.ref 0), some (.ref 483), some (.ref 497), some (.ref 498), some (.int y5), o6, o7, o8, o9], l2, []) M r := by
  refine w_aload_n (n := 3231) (i := 1) (by decide +kernel) rfl rfl ?_
  refine w_aload_n (n := 3232) (i := 3) (by decide +kernel) rfl rfl ?_
  obtain ⟨v813, M812, hLM812, hr823, h⟩ := h
  refine w_cS (n := 3235) (idx := 345) (cal := 363) (na := 2) (nl := 2) (as := [.ref 0, .ref 497]) (rest := []) (by decide +kernel) (by decide +kernel) rfl rfl rfl (Nat.le_of_ble_eq_true rfl) rfl hr823 ?_
  refine w_istore (n := 3237) (i := 6) (l1' := [some (.ref 1000000), some (.ref 0), some (.ref 483), some (.ref 497), some (.ref 498), some (.int y5), some (.int v813), o7, o8, o9]) (l2' := (l2).filter (fun q => !(q.1 == 6) && !(q.1 + 1 == 6))) (by decide +kernel) rfl (Nat.le_of_ble_eq_true rfl) rfl rfl ?_
  refine w_aload_n (n := 3238) (i := 2) (by decide +kernel) rfl rfl ?_
  obtain ⟨v815, M814, hLM814, hr822, h⟩ := h
  refine w_cV (n := 3241) (idx := 347) (cal := 165) (na := 0) (nl := 1) (as := []) (rest := []) hLM812 (by decide +kernel) (by decide +kernel) (at_483) (by decide +kernel) rfl rfl rfl (Nat.le_of_ble_eq_true rfl) rfl hr822 ?_
  refine w_istore (n := 3243) (i := 7) (l1' := [some (.ref 1000000), some (.ref 0), some (.ref 483), some (.ref 497), some (.ref 498), some (.int y5), some (.int v813), some (.int v815), o8, o9]) (l2' := ((l2).filter (fun q => !(q.1 == 6) && !(q.1 + 1 == 6))).filter (fun q => !(q.1 == 7) && !(q.1 + 1 == 7))) (by decide +kernel) rfl (Nat.le_of_ble_eq_true rfl) rfl rfl ?_
  refine w_aload_n (n := 3244) (i := 2) (by decide +kernel) rfl rfl ?_
  obtain ⟨v817, M816, hLM816, hr821, h⟩ := h
  refine w_cV (n := 3247) (idx := 186) (cal := 154) (na := 0) (nl := 1) (as := []) (rest := []) hLM814 (by decide +kernel) (by decide +kernel) (at_483) (by decide +kernel) rfl rfl rfl (Nat.le_of_ble_eq_true rfl) rfl hr821 ?_
  refine w_iload (n := 3249) (i := 6) (by decide +kernel) rfl rfl ?_
  by_cases c820 : v817 = v813
  · rw [if_pos c820] at h
    refine w_icmp_eq_j (n := 3254) (off := 5) (by decide +kernel) (by decide) c820 ?_
    refine w_iload (n := 3256) (i := 6) (by decide +kernel) rfl rfl ?_
    by_cases c819 : v813 = 0
    · rw [if_pos c819] at h
      refine w_if_ne_n (n := 3259) (off := 15) (by decide +kernel) rfl c819 ?_
      refine w_aload_n (n := 3260) (i := 3) (by decide +kernel) rfl rfl ?_
      refine w_iconst (n := 3261) (v := 0) (x := 0) (by decide +kernel) rfl (by decide) ?_
      refine w_lald (n := 3262) (i := 0) hLM816 (by decide +kernel) (at_497) (an_497) ⟨by decide, by decide⟩ rfl ?_
      refine w_iload (n := 3264) (i := 7) (by decide +kernel) rfl rfl ?_
      refine w_i2l (n := 3265) (by decide +kernel) rfl ?_
      refine w_lcmp (n := 3266) (by decide +kernel) rfl ?_
      by_cases c818 : lg_cmp (ak_L M816 497 0) (v815.toInt64) = 0
      · rw [if_pos c818] at h
        refine w_if_eq_j (n := 3271) (off := 5) (by decide +kernel) (by decide) c818 ?_
        refine w_goto (n := 3274) (off := 3) (by decide +kernel) (by decide) ?_
        exact h
      · rw [if_neg c818] at h
        refine w_if_eq_n (n := 3269) (off := 5) (by decide +kernel) rfl c818 ?_
        refine w_iconst (n := 3270) (v := 0) (x := 0) (by decide +kernel) rfl (by decide) ?_
        subst h
        exact w_ireturn (by decide +kernel) (by decide +kernel)
    · rw [if_neg c819] at h
      refine w_if_ne_j (n := 3271) (off := 15) (by decide +kernel) (by decide) c819 ?_
      refine w_goto (n := 3274) (off := 3) (by decide +kernel) (by decide) ?_
      exact h
  · rw [if_neg c820] at h
    refine w_icmp_eq_n (n := 3252) (off := 5) (by decide +kernel) rfl c820 ?_
    refine w_iconst (n := 3253) (v := 0) (x := 0) (by decide +kernel) rfl (by decide) ?_
    subst h
    exact w_ireturn (by decide +kernel) (by decide +kernel)
theorem t_364_3274 {X : ak_X} {M : ak_M} {r : ak_O × ak_M} (hL : ab_lay M) (y5 : Int32) (o6 o7 o8 o9 : Option Value) (l2 : List (Nat × Value)) (h : sg X 364 (28, [some (.ref 1000000), some (.ref 0), some (.ref 483), some (.ref 497), some (.ref 498), some (.int (y5 + 6)), o6, o7, o8, o9], (l2).filter (fun q => !(q.1 == 5) && !(q.1 + 1 == 5)), []) M r) : sg X 364 (3274, [some (.ref 1000000), some (.ref 0), some (.ref 483), some (.ref 497), some (.ref 498), some (.int y5), o6, o7, o8, o9], l2, []) M r := by
  refine w_iinc (n := 3277) (i := 5) (v := 6) (y := y5 + 6) (l1' := [some (.ref 1000000), some (.ref 0), some (.ref 483), some (.ref 497), some (.ref 498), some (.int (y5 + 6)), o6, o7, o8, o9]) (l2' := (l2).filter (fun q => !(q.1 == 5) && !(q.1 + 1 == 5))) (by decide +kernel) rfl rfl rfl rfl rfl ?_
  refine w_goto (n := 28) (off := (-3249)) (by decide +kernel) (by decide) ?_
  exact h
