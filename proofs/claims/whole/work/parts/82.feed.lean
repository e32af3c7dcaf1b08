/-! what is fed: the class's input and the model's buffer; a byte of what was printed -/
def ext (β : Nat → Int32) (n : Nat) (v : Int32) : Nat → Int32 := fun j => if j = n then v else β j
/-- byte i of five numbers -/
def fby (xs : Nat → Int32) (i : Nat) : Int32 := vp_nar .byte ((xs (i / 4) >>> ((24 - 8 * nI (i % 4)) &&& 31)).toInt8.toInt32)
/-- so many bytes are appended -/
def fdn (β : Nat → Int32) (n : Nat) (xs : Nat → Int32) : Nat → (Nat → Int32)
  | 0 => β
  | i + 1 => ext (fdn β n xs i) (n + i) (fby xs i)
def x5 (a b c d e : Int32) (q : Nat) : Int32 := if q = 0 then a else if q = 1 then b else if q = 2 then c else if q = 3 then d else e
def Ic (β : Nat → Int32) (n : Nat) (M : ak_M) : Prop := n ≤ 700 ∧ ak_I M 1 1 = nI n ∧ ∀ j, j < n → ak_I M 2 j = β j
def Im (β : Nat → Int32) (n : Nat) (M : ak_M) : Prop := n ≤ 700 ∧ ak_I M 483 17 = nI n ∧ ∀ j, j < n → ak_I M 495 j = β j
def Oc (β : Nat → Int32) (n : Nat) (M : ak_M) : Prop := n ≤ 640 ∧ ak_I M 3 1 = nI n ∧ ∀ j, j < n → ak_I M 4 j = β j
def Om (β : Nat → Int32) (n : Nat) (M : ak_M) : Prop := n ≤ 640 ∧ ak_I M 483 28 = nI n ∧ ∀ j, j < n → ak_I M 496 j = β j
def cI (p k : Nat) : Prop := p = 2 ∨ (p = 1 ∧ k = 1)
def mo_in (p k : Nat) : Prop := p = 495 ∨ (p = 483 ∧ (k = 0 ∨ k = 17))
theorem sh_f : ∀ r, r < 4 → ¬ (24 - 8 * nI r < 0) ∧ (24 - 8 * nI r) + (-8) = 24 - 8 * nI (r + 1) := by decide +kernel
theorem sh_m : ∀ i, i < 20 → nI i - nI i / 4 * 4 = nI (i % 4) := by decide +kernel
theorem lg_1 : ∀ n, n < 641 → (nI n).toInt64 - 1 = (nI n - 1).toInt64 := by decide +kernel
section SFD
variable {X : ak_X} {M M' : ak_M} {n m : Nat} {β xs : Nat → Int32}
theorem Ic.st (h : Ic β n M) (hn : n < 700) (v : Int32) : Ic (ext β n v) (n + 1) (ak_sI (ak_sI M 2 n v) 1 1 (nI (n + 1))) := by
  refine ⟨by omega, mb_sIs, fun j hj => ?_⟩
  rw [mb_sIr (by decide), mb_sI]
  unfold ext
  by_cases c : j = n
  · rw [if_pos ⟨rfl, c⟩, if_pos c]
  · rw [if_neg (fun e => c e.2), if_neg c]; exact h.2.2 j (by omega)
theorem Im.st (h : Im β n M) (hn : n < 700) (v : Int32) : Im (ext β n v) (n + 1) (ak_sI (ak_sI M 495 n v) 483 17 (nI (n + 1))) := by
  refine ⟨by omega, mb_sIs, fun j hj => ?_⟩
  rw [mb_sIr (by decide), mb_sI]
  unfold ext
  by_cases c : j = n
  · rw [if_pos ⟨rfl, c⟩, if_pos c]
  · rw [if_neg (fun e => c e.2), if_neg c]; exact h.2.2 j (by omega)
theorem sk_33 (hL : ab_lay M) (q : Nat) {x : Int32} (hx : xs q = x) (h : Ic (fdn β n xs (4 * q)) (n + 4 * q) M) (hn : n + 4 * q + 4 ≤ 700) : ∃ M', rn X 33 [.ref 1, .int x] M (.inl none, M') ∧ fr cI M M' ∧ Ic (fdn β n xs (4 * (q + 1))) (n + 4 * (q + 1)) M' := by
  suffices H : ∀ r, r ≤ 4 → ∀ M1, fr cI M M1 → Ic (fdn β n xs (4 * q + r)) (n + (4 * q + r)) M1 → ∃ M', sg X 33 (3, [some (.ref 1), some (.int x), some (.int (24 - 8 * nI r))], [], []) M1 (.inl none, M') ∧ fr cI M M' ∧ Ic (fdn β n xs (4 * (q + 1))) (n + 4 * (q + 1)) M' by
    obtain ⟨M', r, f, i⟩ := H 0 (by decide) M (fr.rf hL) h
    exact ⟨M', t_33 hL _ r, f, i⟩
  refine mb_up ?_ ?_
  · intro M1 f1 i1
    exact ⟨M1, t_33_3 f1.1 _ _ (mb_y (by decide) rfl), f1, i1⟩
  · intro r hr ih M1 f1 i1
    have s := sh_f r hr
    have e11 := i1.2.1
    have hb : fby xs (4 * q + r) = vp_nar .byte ((x >>> ((24 - 8 * nI r) &&& 31)).toInt8.toInt32) := by
      unfold fby
      rw [show (4 * q + r) / 4 = q by omega, show (4 * q + r) % 4 = r by omega, hx]
    have i2 := i1.st (by omega) (fby xs (4 * q + r))
    obtain ⟨M', h', m'⟩ := ih _ ((f1.st (p := 2) (k := n + (4 * q + r)) (v := fby xs (4 * q + r)) (Or.inl rfl)).st (p := 1) (k := 1) (v := nI (n + (4 * q + r) + 1)) (Or.inr ⟨rfl, rfl⟩)) i2
    rw [← s.2] at h'
    refine ⟨M', t_33_3 f1.1 _ _ (mb_n s.1 (mb_n (by rw [e11, show (700 : Int32) = nI 700 from rfl, mi_le (by omega) (by omega)]; omega) ⟨n + (4 * q + r), by rw [e11]; exact mb_ix (by omega) (by decide), fun N1 a1 N2 a2 => ?_⟩)), m'⟩
    have e2 : ak_I N1 1 1 = nI (n + (4 * q + r)) := by rw [a1, mb_sIr (by decide)]; exact e11
    rw [e2, mi_s, a1, ← hb] at a2
    rw [a2]
    exact h'
/-- feeding -/
def sp_87 (n : Nat) : Int32 := if n + 20 ≤ 700 then nI (n + 20) else -1
def fd2 (β : Nat → Int32) (n : Nat) (xs : Nat → Int32) : Nat → Int32 := if n + 20 ≤ 700 then fdn β n xs 20 else β
def fn2 (n : Nat) : Nat := if n + 20 ≤ 700 then n + 20 else n
theorem sk_87 (hL : ab_lay M) (h : Ic β n M) (a b c d e : Int32) : ∃ M', rn X 87 [.ref 0, .int a, .int b, .int c, .int d, .int e] M (.inl (some (.int (sp_87 n))), M') ∧ fr cI M M' ∧ Ic (fd2 β n (x5 a b c d e)) (fn2 n) M' := by
  have h7 := h.1
  have e1 := h.2.1
  unfold sp_87 fd2 fn2
  by_cases hn : n + 20 ≤ 700
  · rw [if_pos hn, if_pos hn, if_pos hn]
    obtain ⟨M1, r1, f1, i1⟩ := sk_33 (X := X) (xs := x5 a b c d e) hL 0 (x := a) rfl h (by omega)
    obtain ⟨M2, r2, f2, i2⟩ := sk_33 (X := X) (xs := x5 a b c d e) f1.1 1 (x := b) rfl i1 (by omega)
    obtain ⟨M3, r3, f3, i3⟩ := sk_33 (X := X) (xs := x5 a b c d e) f2.1 2 (x := c) rfl i2 (by omega)
    obtain ⟨M4, r4, f4, i4⟩ := sk_33 (X := X) (xs := x5 a b c d e) f3.1 3 (x := d) rfl i3 (by omega)
    obtain ⟨M5, r5, f5, i5⟩ := sk_33 (X := X) (xs := x5 a b c d e) f4.1 4 (x := e) rfl i4 (by omega)
    refine ⟨M5, t_87 hL _ _ _ _ _ (mb_y (by rw [e1, show (20 : Int32) = nI 20 from rfl, mi_add, show (700 : Int32) = nI 700 from rfl, mi_le (by omega) (by omega)]; exact hn) ⟨M1, f1.1, r1, M2, f2.1, r2, M3, f3.1, r3, M4, f4.1, r4, M5, f5.1, r5, ?_⟩), (((f1.tr f2).tr f3).tr f4).tr f5, i5⟩
    rw [i5.2.1]
  · rw [if_neg hn, if_neg hn, if_neg hn]
    exact ⟨M, t_87 hL _ _ _ _ _ (mb_n (by rw [e1, show (20 : Int32) = nI 20 from rfl, mi_add, show (700 : Int32) = nI 700 from rfl, mi_le (by omega) (by omega)]; exact hn) rfl), fr.rf hL, h⟩
theorem sm_271 (hL : ab_lay M) (h : Im β n M) (a b c d e : Int32) : ∃ M', rn X 271 [.ref 483, .int a, .int b, .int c, .int d, .int e] M (.inl (some (.int (sp_87 n))), M') ∧ fr mo_in M M' ∧ ak_I M' 483 0 = 0 ∧ Im (fd2 β n (x5 a b c d e)) (fn2 n) M' := by
  have h7 := h.1
  have l1 := to_L hL 0
  have h' : Im β n (to M 0) := ⟨h.1, (mb_sIk (by decide)).trans h.2.1, fun j hj => by rw [show ak_I (to M 0) 495 = ak_I M 495 from mb_sIr (by decide)]; exact h.2.2 j hj⟩
  have f0 : fr mo_in M (to M 0) := (fr.rf hL).st (Or.inr ⟨rfl, Or.inl rfl⟩)
  have e1 : ak_I (ak_sI M 483 0 0) 483 17 = nI n := h'.2.1
  unfold sp_87 fd2 fn2
  by_cases hn : n + 20 ≤ 700
  · rw [if_pos hn, if_pos hn, if_pos hn]
    have H : ∀ i, i ≤ 20 → ∀ M1 o7, fr mo_in M M1 → ak_I M1 483 0 = 0 → Im (fdn β n (x5 a b c d e) i) (n + i) M1 → ∃ M', sg X 271 (23, [some (.ref 483), some (.int a), some (.int b), some (.int c), some (.int d), some (.int e), some (.int (nI i)), o7], [], []) M1 (.inl (some (.int (nI (n + 20)))), M') ∧ fr mo_in M M' ∧ ak_I M' 483 0 = 0 ∧ Im (fdn β n (x5 a b c d e) 20) (n + 20) M' := by
      refine mb_up ?_ ?_
      · intro M1 o7 f1 z1 i1
        exact ⟨M1, t_271_23 f1.1 _ _ _ _ _ _ _ (mb_y (by decide) (by rw [i1.2.1])), f1, z1, i1⟩
      · intro i hi ih M1 o7 f1 z1 i1
        have e17 := i1.2.1
        have i2 := i1.st (by omega) (fby (x5 a b c d e) i)
        have le : ∀ k, k < 100 → (nI k ≤ nI i ↔ k ≤ i) := fun k hk => mi_le (by omega) (by omega)
        have go : ∀ o, ∃ M', sg X 271 (23, [some (.ref 483), some (.int a), some (.int b), some (.int c), some (.int d), some (.int e), some (.int (nI (i + 1))), o], [], []) (ak_sI (ak_sI M1 495 (n + i) (fby (x5 a b c d e) i)) 483 17 (nI (n + i + 1))) (.inl (some (.int (nI (n + 20)))), M') ∧ fr mo_in M M' ∧ ak_I M' 483 0 = 0 ∧ Im (fdn β n (x5 a b c d e) 20) (n + 20) M' := fun o => ih _ o ((f1.st (p := 495) (k := n + i) (v := fby (x5 a b c d e) i) (Or.inl rfl)).st (p := 483) (k := 17) (v := nI (n + i + 1)) (Or.inr ⟨rfl, Or.inr rfl⟩)) (by rw [mb_sIk (by decide), mb_sIr (by decide)]; exact z1) i2
        have fin : ∀ (x : Int32), x5 a b c d e (i / 4) = x → ∀ r, sg X 271 (23, [some (.ref 483), some (.int a), some (.int b), some (.int c), some (.int d), some (.int e), some (.int (nI (i + 1))), some (.int x)], [], []) (ak_sI (ak_sI M1 495 (n + i) (fby (x5 a b c d e) i)) 483 17 (nI (n + i + 1))) r → (∃ i3 : Nat, ab_ix (ak_I M1 483 17) i3 700 ∧ (∀ M4 : ak_M, M4 = ak_sI M1 495 i3 (vp_nar .byte ((x >>> ((24 - (8 * (nI i - nI i / 4 * 4))) &&& 31)).toInt8.toInt32)) → (∀ M5 : ak_M, M5 = ak_sI M4 483 17 ((ak_I M4 483 17) + 1) → sg X 271 (23, [some (.ref 483), some (.int a), some (.int b), some (.int c), some (.int d), some (.int e), some (.int (nI i + 1)), some (.int x)], [], []) M5 r))) := by
          intro x hx r hs
          have hb : fby (x5 a b c d e) i = vp_nar .byte ((x >>> ((24 - 8 * nI (i % 4)) &&& 31)).toInt8.toInt32) := by unfold fby; rw [hx]
          refine ⟨n + i, by rw [e17]; exact mb_ix (by omega) (by decide), fun N1 a1 N2 a2 => ?_⟩
          have e2 : ak_I N1 483 17 = nI (n + i) := by rw [a1, mb_sIr (by decide)]; exact e17
          rw [e2, mi_s, a1, sh_m i hi, ← hb] at a2
          rw [a2, mi_s]
          exact hs
        have c20 : ¬ (20 : Int32) ≤ nI i := fun h => absurd ((le 20 (by decide)).mp h) (by omega)
        rcases (show i / 4 = 0 ∨ i / 4 = 1 ∨ i / 4 = 2 ∨ i / 4 = 3 ∨ i / 4 = 4 by omega) with q | q | q | q | q
        · obtain ⟨M', hs, m'⟩ := go (some (.int a))
          exact ⟨M', t_271_23 f1.1 _ _ _ _ _ _ _ (mb_n c20 (mb_n (fun h => absurd ((le 4 (by decide)).mp h) (by omega)) (fin a (by rw [q]; rfl) _ hs))), m'⟩
        · obtain ⟨M', hs, m'⟩ := go (some (.int b))
          exact ⟨M', t_271_23 f1.1 _ _ _ _ _ _ _ (mb_n c20 (mb_y ((le 4 (by decide)).mpr (by omega)) (mb_n (fun h => absurd ((le 8 (by decide)).mp h) (by omega)) (fin b (by rw [q]; rfl) _ hs)))), m'⟩
        · obtain ⟨M', hs, m'⟩ := go (some (.int c))
          exact ⟨M', t_271_23 f1.1 _ _ _ _ _ _ _ (mb_n c20 (mb_y ((le 4 (by decide)).mpr (by omega)) (mb_y ((le 8 (by decide)).mpr (by omega)) (mb_n (fun h => absurd ((le 12 (by decide)).mp h) (by omega)) (fin c (by rw [q]; rfl) _ hs))))), m'⟩
        · obtain ⟨M', hs, m'⟩ := go (some (.int d))
          exact ⟨M', t_271_23 f1.1 _ _ _ _ _ _ _ (mb_n c20 (mb_y ((le 4 (by decide)).mpr (by omega)) (mb_y ((le 8 (by decide)).mpr (by omega)) (mb_y ((le 12 (by decide)).mpr (by omega)) (mb_n (fun h => absurd ((le 16 (by decide)).mp h) (by omega)) (fin d (by rw [q]; rfl) _ hs)))))), m'⟩
        · obtain ⟨M', hs, m'⟩ := go (some (.int e))
          exact ⟨M', t_271_23 f1.1 _ _ _ _ _ _ _ (mb_n c20 (mb_y ((le 4 (by decide)).mpr (by omega)) (mb_y ((le 8 (by decide)).mpr (by omega)) (mb_y ((le 12 (by decide)).mpr (by omega)) (mb_y ((le 16 (by decide)).mpr (by omega)) (fin e (by rw [q]; rfl) _ hs)))))), m'⟩
    obtain ⟨M', hs, m'⟩ := H 0 (by decide) (to M 0) none f0 (to_0 _) h'
    exact ⟨M', t_271 hL _ _ _ _ _ fun N en => by
      subst en
      exact mb_y (by rw [e1, show (20 : Int32) = nI 20 from rfl, mi_add, show (700 : Int32) = nI 700 from rfl, mi_le (by omega) (by omega)]; exact hn) hs, m'⟩
  · rw [if_neg hn, if_neg hn, if_neg hn]
    exact ⟨to M 0, t_271 hL _ _ _ _ _ fun N en => by
      subst en
      exact mb_n (by rw [e1, show (20 : Int32) = nI 20 from rfl, mi_add, show (700 : Int32) = nI 700 from rfl, mi_le (by omega) (by omega)]; exact hn) rfl, f0, to_0 _, h'⟩
/-- cutting short -/
def sp_88 (n : Nat) (x : Int32) : Int32 := bI (in32 x 0 (nI n))
def fn3 (n : Nat) (x : Int32) : Nat := if in32 x 0 (nI n) = true then kN x else n
theorem sk_88 (hL : ab_lay M) (h : Ic β n M) (x : Int32) : ∃ M', rn X 88 [.ref 0, .int x] M (.inl (some (.int (sp_88 n x))), M') ∧ fr cI M M' ∧ Ic β (fn3 n x) M' := by
  have h7 := h.1
  unfold sp_88 fn3
  by_cases c : in32 x 0 (nI n) = true
  · obtain ⟨m, hm, rfl⟩ := (in_n (a := n) (by omega)).mp c
    rw [if_pos c, c, kN_n (by omega)]
    refine ⟨ak_sI M 1 1 (nI m), t_88 hL _ (mb_n (fun e => absurd ((mi_lt (a := m) (b := 0) (by omega) (by decide)).mp e) (by omega)) (mb_y (by rw [h.2.1, mi_le (by omega) (by omega)]; exact hm) fun N e => by rw [e]; rfl)), (fr.rf hL).st (Or.inr ⟨rfl, rfl⟩), by omega, mb_sIs, fun j hj => ?_⟩
    rw [mb_sIr (by decide)]
    exact h.2.2 j (by omega)
  · rw [if_neg c, bf c]
    refine ⟨M, t_88 hL _ ?_, fr.rf hL, h⟩
    rw [h.2.1]
    by_cases d : x < 0
    · exact mb_y d rfl
    · refine mb_n d (mb_n (fun e => c ?_) rfl)
      unfold in32
      rw [decide_eq_true (mb_lt.mp d), decide_eq_true e]; rfl
theorem sm_272 (hL : ab_lay M) (h : Im β n M) (x : Int32) : ∃ M', rn X 272 [.ref 483, .int x] M (.inl (some (.int (sp_88 n x))), M') ∧ fr mo_in M M' ∧ ak_I M' 483 0 = 0 ∧ Im β (fn3 n x) M' := by
  have h7 := h.1
  have l1 := to_L hL 0
  have e1 : ak_I (to M 0) 483 17 = nI n := (mb_sIk (by decide)).trans h.2.1
  have e2 : ak_I (to M 0) 495 = ak_I M 495 := mb_sIr (by decide)
  have f0 : fr mo_in M (to M 0) := (fr.rf hL).st (Or.inr ⟨rfl, Or.inl rfl⟩)
  have j : rn X 157 [.long x.toInt64, .long 0, .long ((ak_I (to M 0) 483 17).toInt64)] (to M 0) (.inl (some (.int (bI (in32 x 0 (nI n))))), to M 0) := by rw [e1]; exact jm_in32 (by rfl) rfl
  unfold sp_88 fn3
  by_cases c : in32 x 0 (nI n) = true
  · obtain ⟨m, hm, rfl⟩ := (in_n (a := n) (by omega)).mp c
    rw [c] at j
    rw [if_pos c, c, kN_n (by omega)]
    refine ⟨ak_sI (to M 0) 483 17 (nI m), t_272 hL _ fun N e => ?_, f0.st (Or.inr ⟨rfl, Or.inr rfl⟩), by rw [mb_sIk (by decide)]; exact to_0 _, by omega, mb_sIs, fun j hj => ?_⟩
    · subst e
      exact ⟨_, _, l1, j, mb_n (by decide) fun N e => by rw [e]; rfl⟩
    · rw [mb_sIr (by decide), e2]
      exact h.2.2 j (by omega)
  · rw [bf c] at j
    rw [if_neg c, bf c]
    refine ⟨to M 0, t_272 hL _ fun N e => ?_, f0, to_0 _, h.1, e1, fun j hj => by rw [e2]; exact h.2.2 j hj⟩
    subst e
    exact ⟨_, _, l1, j, mb_y rfl rfl⟩
/-- a byte of what was printed -/
def sp_141 (β : Nat → Int32) (n : Nat) (x : Int32) : Int32 := if in32 x 0 (nI n - 1) = true then β (kN x) else (-1)
theorem sk_141 (hL : ab_lay M) (h : Oc β n M) (x : Int32) : rn X 141 [.ref 0, .int x] M (.inl (some (.int (sp_141 β n x))), M) := by
  have h6 := h.1
  have j := sk_151 (X := X) hL (v := x) (lo := 0) (hi := ak_I M 3 1 - 1)
  refine t_141 hL _ ⟨_, M, hL, j, ?_⟩
  rw [h.2.1]
  unfold sp_141
  by_cases c : in32 x 0 (nI n - 1) = true
  · obtain ⟨m, hm, rfl⟩ := (in_nk (n := n) (by omega)).mp c
    rw [if_pos c, kN_n (by omega)]
    exact mb_n (by1 c) ⟨m, mb_ix (by omega) (by decide), by rw [h.2.2 m hm]⟩
  · rw [if_neg c]
    exact mb_y (bn1 c) rfl
theorem sm_312 (hL : ab_lay M) (h : Om β n M) (x : Int32) : rn X 312 [.ref 483, .int x] M (.inl (some (.int (sp_141 β n x))), to M 0) := by
  have h6 := h.1
  have l1 := to_L hL 0
  have e1 : ak_I (to M 0) 483 28 = nI n := (mb_sIk (by decide)).trans h.2.1
  have e2 : ak_I (to M 0) 496 = ak_I M 496 := mb_sIr (by decide)
  have j : rn X 157 [.long x.toInt64, .long 0, .long (((ak_I (to M 0) 483 28).toInt64) - 1)] (to M 0) (.inl (some (.int (bI (in32 x 0 (nI n - 1))))), to M 0) := by rw [e1]; exact jm_in32 (by rfl) (lg_1 n (by omega))
  refine t_312 hL _ fun N e => ?_
  subst e
  refine ⟨_, _, l1, j, ?_⟩
  unfold sp_141
  by_cases c : in32 x 0 (nI n - 1) = true
  · obtain ⟨m, hm, rfl⟩ := (in_nk (n := n) (by omega)).mp c
    rw [if_pos c, kN_n (by omega)]
    exact mb_n (by1 c) ⟨m, mb_ix (by omega) (by decide), by rw [e2, h.2.2 m hm]⟩
  · rw [if_neg c]
    exact mb_y (bn1 c) rfl
end SFD
