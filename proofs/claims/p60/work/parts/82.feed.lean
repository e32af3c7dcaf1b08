/-! what is fed: the class's input and the model's buffer; a byte of what was printed -/
def ext (β : Nat → Int32) (n : Nat) (v : Int32) : Nat → Int32 := fun j => if j = n then v else β j
/-- byte i of five numbers -/
def fby (xs : Nat → Int32) (i : Nat) : Int32 := vp_nar .byte ((xs (i / 4) >>> ((24 - 8 * nI (i % 4)) &&& 31)).toInt8.toInt32)
/-- so many bytes are appended -/
def fdn (β : Nat → Int32) (n : Nat) (xs : Nat → Int32) : Nat → (Nat → Int32)
  | 0 => β
  | i + 1 => ext (fdn β n xs i) (n + i) (fby xs i)
def x5 (a b c d e : Int32) (q : Nat) : Int32 := if q = 0 then a else if q = 1 then b else if q = 2 then c else if q = 3 then d else e
def Ic (β : Nat → Int32) (n : Nat) (M : ak_M) : Prop := n ≤ 700 ∧ ak_I M 1 1 = nI n ∧ ∀ j, j < n → ak_I M 2 j = β j
def Im (β : Nat → Int32) (n : Nat) (M : ak_M) : Prop := n ≤ 700 ∧ ak_I M 483 17 = nI n ∧ ∀ j, j < n → ak_I M 495 j = β j
def Oc (β : Nat → Int32) (n : Nat) (M : ak_M) : Prop := n ≤ 640 ∧ ak_I M 3 1 = nI n ∧ ∀ j, j < n → ak_I M 4 j = β j
def Om (β : Nat → Int32) (n : Nat) (M : ak_M) : Prop := n ≤ 640 ∧ ak_I M 483 28 = nI n ∧ ∀ j, j < n → ak_I M 496 j = β j
def cI (p k : Nat) : Prop := p = 2 ∨ (p = 1 ∧ k = 1)
def mo_in (p k : Nat) : Prop := p = 495 ∨ (p = 483 ∧ (k = 0 ∨ k = 17))
theorem sh_f : ∀ r, r < 4 → ¬ (24 - 8 * nI r < 0) ∧ (24 - 8 * nI r) + (-8) = 24 - 8 * nI (r + 1) := by decide +kernel
theorem sh_m : ∀ i, i < 20 → nI i - nI i / 4 * 4 = nI (i % 4) := by decide +kernel
theorem lg_1 : ∀ n, n < 641 → (nI n).toInt64 - 1 = (nI n - 1).toInt64 := by decide +kernel
section SFD
variable {X : ak_X} {M M' : ak_M} {n m : Nat} {β xs : Nat → Int32}
theorem Ic.st (h : Ic β n M) (hn : n < 700) (v : Int32) : Ic (ext β n v) (n + 1) (ak_sI (ak_sI M 2 n v) 1 1 (nI (n + 1))) := by
  refine ⟨by omega, mb_sIs, fun j hj => ?_⟩
  rw [mb_sIr (by decide), mb_sI]
  unfold ext
  by_cases c : j = n
  · rw [if_pos ⟨rfl, c⟩, if_pos c]
  · rw [if_neg (fun e => c e.2), if_neg c]; exact h.2.2 j (by omega)
theorem Im.st (h : Im β n M) (hn : n < 700) (v : Int32) : Im (ext β n v) (n + 1) (ak_sI (ak_sI M 495 n v) 483 17 (nI (n + 1))) := by
  refine ⟨by omega, mb_sIs, fun j hj => ?_⟩
  rw [mb_sIr (by decide), mb_sI]
  unfold ext
  by_cases c : j = n
  · rw [if_pos ⟨rfl, c⟩, if_pos c]
  · rw [if_neg (fun e => c e.2), if_neg c]; exact h.2.2 j (by omega)
theorem sk_33 (hL : ab_lay M) (q : Nat) {x : Int32} (hx : xs q = x) (h : Ic (fdn β n xs (4 * q)) (n + 4 * q) M) (hn : n + 4 * q + 4 ≤ 700) : ∃ M', rn X 33 [.ref 1, .int x] M (.inl none, M') ∧ fr cI M M' ∧ Ic (fdn β n xs (4 * (q + 1))) (n + 4 * (q + 1)) M' := by
  suffices H : ∀ r, r ≤ 4 → ∀ M1, fr cI M M1 → Ic (fdn β n xs (4 * q + r)) (n + (4 * q + r)) M1 → ∃ M', sg X 33 (3, [some (.ref 1), some (.int x), some (.int (24 - 8 * nI r))], [], []) M1 (.inl none, M') ∧ fr cI M M' ∧ Ic (fdn β n xs (4 * (q + 1))) (n + 4 * (q + 1)) M' by
    obtain ⟨M', r, f, i⟩ := H 0 (by decide) M (fr.rf hL) h
    exact ⟨M', t_33 hL _ r, f, i⟩
  refine mb_up ?_ ?_
  · intro M1 f1 i1
    exact ⟨M1, t_33_3 f1.1 _ _ (mb_y (by decide) rfl), f1, i1⟩
  · intro r hr ih M1 f1 i1
    have s := sh_f r hr
    have e11 := i1.2.1
    have hb : fby xs (4 * q + r) = vp_nar .byte ((x >>> ((24 - 8 * nI r) &&& 31)).toInt8.toInt32) := by
      unfold fby
      rw [show (4 * q + r) / 4 = q by omega, show (4 * q + r) % 4 = r by omega, hx]
    have i2 := i1.st (by omega) (fby xs (4 * q + r))
    obtain ⟨M', h', m'⟩ := ih _ ((f1.st (p := 2) (k := n + (4 * q + r)) (v := fby xs (4 * q + r)) (Or.inl rfl)).st (p := 1) (k := 1) (v := nI (n + (4 * q + r) + 1)) (Or.inr ⟨rfl, rfl⟩)) i2
    rw [← s.2] at h'
    refine ⟨M', t_33_3 f1.1 _ _ (mb_n s.1 (mb_n (by rw [e11, show (700 : Int32) = nI 700 from rfl, mi_le (by omega) (by omega)]; omega) ⟨n + (4 * q + r), by rw [e11]; exact mb_ix (by omega) (by decide), fun N1 a1 N2 a2 => ?_⟩)), m'⟩
    have e2 : ak_I N1 1 1 = nI (n + (4 * q + r)) := by rw [a1, mb_sIr (by decide)]; exact e11
    rw [e2, mi_s, a1, ← hb] at a2
    rw [a2]
    exact h'
/-- feeding -/
def sp_87 (n : Nat) : Int32 := if n + 20 ≤ 700 then nI (n + 20) else -1
def fd2 (β : Nat → Int32) (n : Nat) (xs : Nat → Int32) : Nat → Int32 := if n + 20 ≤ 700 then fdn β n xs 20 else β
def fn2 (n : Nat) : Nat := if n + 20 ≤ 700 then n + 20 else n
theorem sk_87 (hL : ab_lay M) (h : Ic β n M) (a b c d e : Int32) : ∃ M', rn X 87 [.ref 0, .int a, .int b, .int c, .int d, .int e] M (.inl (some (.int (sp_87 n))), M') ∧ fr cI M M' ∧ Ic (fd2 β n (x5 a b c d e)) (fn2 n) M' := by
  have h7 := h.1
  have e1 := h.2.1
  unfold sp_87 fd2 fn2
  by_cases hn : n + 20 ≤ 700
  · rw [if_pos hn, if_pos hn, if_pos hn]
    obtain ⟨M1, r1, f1, i1⟩ := sk_33 (X := X) (xs := x5 a b c d e) hL 0 (x := a) rfl h (by omega)
    obtain ⟨M2, r2, f2, i2⟩ := sk_33 (X := X) (xs := x5 a b c d e) f1.1 1 (x := b) rfl i1 (by omega)
    obtain ⟨M3, r3, f3, i3⟩ := sk_33 (X := X) (xs := x5 a b c d e) f2.1 2 (x := c) rfl i2 (by omega)
    obtain ⟨M4, r4, f4, i4⟩ := sk_33 (X := X) (xs := x5 a b c d e) f3.1 3 (x := d) rfl i3 (by omega)
    obtain ⟨M5, r5, f5, i5⟩ := sk_33 (X := X) (xs := x5 a b c d e) f4.1 4 (x := e) rfl i4 (by omega)
    refine ⟨M5, t_87 hL _ _ _ _ _ (mb_y (by rw [e1, show (20 : Int32) = nI 20 from rfl, mi_add, show (700 : Int32) = nI 700 from rfl, mi_le (by omega) (by omega)]; exact hn) ⟨M1, f1.1, r1, M2, f2.1, r2, M3, f3.1, r3, M4, f4.1, r4, M5, f5.1, r5, ?_⟩), (((f1.tr f2).tr f3).tr f4).tr f5, i5⟩
    rw [i5.2.1]
  · rw [if_neg hn, if_neg hn, if_neg hn]
    exact ⟨M, t_87 hL _ _ _ _ _ (mb_n (by rw [e1, show (20 : Int32) = nI 20 from rfl, mi_add, show (700 : Int32) = nI 700 from rfl, mi_le (by omega) (by omega)]; exact hn) rfl), fr.rf hL, h⟩
/-- cutting short -/
def sp_88 (n : Nat) (x : Int32) : Int32 := bI (in32 x 0 (nI n))
def fn3 (n : Nat) (x : Int32) : Nat := if in32 x 0 (nI n) = true then kN x else n
theorem sk_88 (hL : ab_lay M) (h : Ic β n M) (x : Int32) : ∃ M', rn X 88 [.ref 0, .int x] M (.inl (some (.int (sp_88 n x))), M') ∧ fr cI M M' ∧ Ic β (fn3 n x) M' := by
  have h7 := h.1
  unfold sp_88 fn3
  by_cases c : in32 x 0 (nI n) = true
  · obtain ⟨m, hm, rfl⟩ := (in_n (a := n) (by omega)).mp c
    rw [if_pos c, c, kN_n (by omega)]
    refine ⟨ak_sI M 1 1 (nI m), t_88 hL _ (mb_n (fun e => absurd ((mi_lt (a := m) (b := 0) (by omega) (by decide)).mp e) (by omega)) (mb_y (by rw [h.2.1, mi_le (by omega) (by omega)]; exact hm) fun N e => by rw [e]; rfl)), (fr.rf hL).st (Or.inr ⟨rfl, rfl⟩), by omega, mb_sIs, fun j hj => ?_⟩
    rw [mb_sIr (by decide)]
    exact h.2.2 j (by omega)
  · rw [if_neg c, bf c]
    refine ⟨M, t_88 hL _ ?_, fr.rf hL, h⟩
    rw [h.2.1]
    by_cases d : x < 0
    · exact mb_y d rfl
    · refine mb_n d (mb_n (fun e => c ?_) rfl)
      unfold in32
      rw [decide_eq_true (mb_lt.mp d), decide_eq_true e]; rfl
/-- a byte of what was printed -/
def sp_141 (β : Nat → Int32) (n : Nat) (x : Int32) : Int32 := if in32 x 0 (nI n - 1) = true then β (kN x) else (-1)
end SFD
