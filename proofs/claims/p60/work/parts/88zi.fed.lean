/-! the text is fed -/
def ex8 (r : Nat) (x : Int32) : Int8 := (x >>> ((24 - 8 * nI r) &&& 31)).toInt8
/-- n bytes of word q -/
def pk (f : Nat → Int32) (q : Nat) : Nat → Int32
  | 0 => 0
  | i + 1 => pk f q i ||| (f (4 * q + i) <<< ((24 - 8 * nI i) &&& 31))
/-- the text, and blanks behind it -/
def bL (L : List Int32) (j : Nat) : Int32 := if j < L.length then lg L j else 32
def gs (M M' : ak_M) : Prop := fr cI M M' ∧ ak_R M' = ak_R M ∧ ak_K M' = ak_K M ∧ ak_N M' = ak_N M ∧ ak_P M' = ak_P M
section SFE
variable {X : ak_X} {M M0 M1 M' M2 : ak_M} {p q i j m n b e k : Nat} {L : List Int32} {r : ak_O × ak_M} {f : Nat → Int32} {β xs : Nat → Int32} {g : Nat → Int32}
theorem or_sr (a b s : Int32) : (a ||| b) >>> s = (a >>> s) ||| (b >>> s) := by
  apply Int32.toBitVec_inj.mp
  rw [Int32.toBitVec_or, Int32.toBitVec_shiftRight, Int32.toBitVec_shiftRight, Int32.toBitVec_shiftRight, Int32.toBitVec_or]
  exact BitVec.sshiftRight_or_distrib _ _ _
theorem ex_or (r : Nat) (a b : Int32) : ex8 r (a ||| b) = ex8 r a ||| ex8 r b := by
  unfold ex8
  rw [or_sr, Int32.toInt8_or]
theorem ex_f : ∀ i, i < 4 → ∀ r, r < 4 → ∀ c, c < 128 → ex8 r (nI c <<< ((24 - 8 * nI i) &&& 31)) = if i = r then (nI c).toInt8 else 0 := by decide +kernel
theorem ex_0 : ∀ r, r < 4 → ex8 r 0 = 0 := by decide +kernel
theorem ex_pk (h : ∀ j, isC7 (f j) = true) {r : Nat} (hr : r < 4) : ∀ n, n ≤ 4 → ex8 r (pk f q n) = if r < n then (f (4 * q + r)).toInt8 else 0
  | 0, _ => by rw [if_neg (Nat.not_lt_zero r)]; exact ex_0 r hr
  | n + 1, hn => by
    obtain ⟨c, hc, e⟩ := c7_n (h (4 * q + n))
    show ex8 r (pk f q n ||| (f (4 * q + n) <<< ((24 - 8 * nI n) &&& 31))) = _
    rw [ex_or, ex_pk h hr n (by omega), e, ex_f n (by omega) r hr c hc]
    by_cases c1 : r < n
    · rw [if_pos c1, if_neg (show ¬ n = r by omega), if_pos (show r < n + 1 by omega), Int8.or_zero]
    · rw [if_neg c1, Int8.zero_or]
      by_cases c2 : n = r
      · rw [if_pos c2, if_pos (show r < n + 1 by omega), ← e, c2]
      · rw [if_neg c2, if_neg (by omega)]
theorem fby_pk (h : ∀ j, isC7 (f j) = true) (hx : ∀ q, q < 5 → xs q = pk f q 4) (hi : i < 20) : fby xs i = f i := by
  unfold fby
  obtain ⟨c, hc, e⟩ := c7_n (h i)
  have e1 : ((xs (i / 4) >>> ((24 - 8 * nI (i % 4)) &&& 31)).toInt8) = (f i).toInt8 := by
    have := ex_pk (q := i / 4) h (show i % 4 < 4 by omega) 4 (Nat.le_refl _)
    rw [if_pos (by omega), show 4 * (i / 4) + i % 4 = i by omega] at this
    rw [hx _ (by omega)]
    exact this
  rw [e1, e]
  exact (c7_b0 c hc).2.1
theorem gs.rf (hL : ab_lay M) : gs M M := ⟨fr.rf hL, rfl, rfl, rfl, rfl⟩
theorem gs.tr (a : gs M M1) (c : gs M1 M2) : gs M M2 := ⟨a.1.tr c.1, c.2.1.trans a.2.1, c.2.2.1.trans a.2.2.1, c.2.2.2.1.trans a.2.2.2.1, c.2.2.2.2.trans a.2.2.2.2⟩
theorem gs.st (a : gs M M1) {v : Int32} (h : cI p k) : gs M (ak_sI M1 p k v) := ⟨a.1.st h, a.2⟩
theorem sg_33 (hL : ab_lay M) (q : Nat) {x : Int32} (hx : xs q = x) (h : Ic (fdn β n xs (4 * q)) (n + 4 * q) M) (hn : n + 4 * q + 4 ≤ 700) : ∃ M', rn X 33 [.ref 1, .int x] M (.inl none, M') ∧ gs M M' ∧ Ic (fdn β n xs (4 * (q + 1))) (n + 4 * (q + 1)) M' := by
  suffices H : ∀ r, r ≤ 4 → ∀ M1, gs M M1 → Ic (fdn β n xs (4 * q + r)) (n + (4 * q + r)) M1 → ∃ M', sg X 33 (3, [some (.ref 1), some (.int x), some (.int (24 - 8 * nI r))], [], []) M1 (.inl none, M') ∧ gs M M' ∧ Ic (fdn β n xs (4 * (q + 1))) (n + 4 * (q + 1)) M' by
    obtain ⟨M', r, f, i⟩ := H 0 (by decide) M (gs.rf hL) h
    exact ⟨M', t_33 hL _ r, f, i⟩
  refine mb_up ?_ ?_
  · intro M1 f1 i1
    exact ⟨M1, t_33_3 f1.1.1 _ _ (mb_y (by decide) rfl), f1, i1⟩
  · intro r hr ih M1 f1 i1
    have s := sh_f r hr
    have e11 := i1.2.1
    have hb : fby xs (4 * q + r) = vp_nar .byte ((x >>> ((24 - 8 * nI r) &&& 31)).toInt8.toInt32) := by
      unfold fby
      rw [show (4 * q + r) / 4 = q by omega, show (4 * q + r) % 4 = r by omega, hx]
    have i2 := i1.st (by omega) (fby xs (4 * q + r))
    obtain ⟨M', h', m'⟩ := ih _ ((f1.st (p := 2) (k := n + (4 * q + r)) (v := fby xs (4 * q + r)) (Or.inl rfl)).st (p := 1) (k := 1) (v := nI (n + (4 * q + r) + 1)) (Or.inr ⟨rfl, rfl⟩)) i2
    rw [← s.2] at h'
    refine ⟨M', t_33_3 f1.1.1 _ _ (mb_n s.1 (mb_n (by rw [e11, show (700 : Int32) = nI 700 from rfl, mi_le (by omega) (by omega)]; omega) ⟨n + (4 * q + r), by rw [e11]; exact mb_ix (by omega) (by decide), fun N1 a1 N2 a2 => ?_⟩)), m'⟩
    have e2 : ak_I N1 1 1 = nI (n + (4 * q + r)) := by rw [a1, mb_sIr (by decide)]; exact e11
    rw [e2, mi_s, a1, ← hb] at a2
    rw [a2]
    exact h'
theorem sg_87 (hL : ab_lay M) (h : Ic β n M) (hn : n + 20 ≤ 700) (a b c d e : Int32) : ∃ M', rn X 87 [.ref 0, .int a, .int b, .int c, .int d, .int e] M (.inl (some (.int (nI (n + 20)))), M') ∧ gs M M' ∧ Ic (fdn β n (x5 a b c d e) 20) (n + 20) M' := by
  have e1 := h.2.1
  obtain ⟨M1, r1, f1, i1⟩ := sg_33 (X := X) (xs := x5 a b c d e) hL 0 (x := a) rfl h (by omega)
  obtain ⟨M2, r2, f2, i2⟩ := sg_33 (X := X) (xs := x5 a b c d e) f1.1.1 1 (x := b) rfl i1 (by omega)
  obtain ⟨M3, r3, f3, i3⟩ := sg_33 (X := X) (xs := x5 a b c d e) f2.1.1 2 (x := c) rfl i2 (by omega)
  obtain ⟨M4, r4, f4, i4⟩ := sg_33 (X := X) (xs := x5 a b c d e) f3.1.1 3 (x := d) rfl i3 (by omega)
  obtain ⟨M5, r5, f5, i5⟩ := sg_33 (X := X) (xs := x5 a b c d e) f4.1.1 4 (x := e) rfl i4 (by omega)
  refine ⟨M5, t_87 hL _ _ _ _ _ (mb_y (by rw [e1, show (20 : Int32) = nI 20 from rfl, mi_add, show (700 : Int32) = nI 700 from rfl, mi_le (by omega) (by omega)]; exact hn) ⟨M1, f1.1.1, r1, M2, f2.1.1, r2, M3, f3.1.1, r3, M4, f4.1.1, r4, M5, f5.1.1, r5, ?_⟩), (((f1.tr f2).tr f3).tr f4).tr f5, i5⟩
  rw [i5.2.1]
theorem fdn_e (xs : Nat → Int32) : ∀ i j, fdn β n xs i j = if n ≤ j ∧ j < n + i then fby xs (j - n) else β j
  | 0, j => by rw [if_neg (by omega)]; rfl
  | i + 1, j => by
    show ext (fdn β n xs i) (n + i) (fby xs i) j = _
    unfold ext
    rw [fdn_e xs i j]
    by_cases c : j = n + i
    · rw [if_pos c, if_pos (by omega), show j - n = i by omega]
    · rw [if_neg c]
      by_cases c2 : n ≤ j ∧ j < n + i
      · rw [if_pos c2, if_pos (by omega)]
      · rw [if_neg c2, if_neg (by omega)]
theorem bL_7 (h : c7 L) (j : Nat) : isC7 (bL L j) = true := by
  unfold bL
  split
  · rename_i c; exact h j c
  · decide
theorem bL_b {j : Nat} (h : j < L.length) : bL L j = lg L j := if_pos h
theorem q4 : ∀ i, i < 20 → nI i / 4 = nI (i / 4) := by decide +kernel
/-- what feeding leaves: the text, the counts -/
def fe (i : Nat) (M M' : ak_M) : Prop := ab_lay M' ∧ (∀ p k, p < 483 → ¬ cI p k → ak_I M' p k = ak_I M p k) ∧ (ak_P M ≤ ak_P M' ∧ ak_P M' ≤ ak_P M + i) ∧ ak_C M' ≤ ak_C M + i ∧ ak_Z M' ≤ ak_Z M + 1500 * i
theorem fe.rf (hL : ab_lay M) : fe 0 M M := ⟨hL, fun _ _ _ _ => rfl, by omega, by omega, by omega⟩
theorem fe.tr (h : fe i M M') (g : fe j M' M2) : fe (i + j) M M2 := ⟨g.1, fun p k hs hc => (g.2.1 p k hs hc).trans (h.2.1 p k hs hc), by have := h.2.2.1; have := g.2.2.1; omega, by have := h.2.2.2.1; have := g.2.2.2.1; omega, by have := h.2.2.2.2; have := g.2.2.2.2; omega⟩
theorem fe.mo (h : fe i M M') (hij : i ≤ j) : fe j M M' := ⟨h.1, h.2.1, by have := h.2.2.1; omega, by have := h.2.2.2.1; omega, by have := h.2.2.2.2; omega⟩
theorem gr.fe (h : gr i M M') : fe i M M' := ⟨h.1, fun p k hp _ => h.2.1 p k hp, h.2.2⟩
theorem gs.fe (h : gs M M') : fe 0 M M' := ⟨h.1.1, fun p k _ hc => h.1.2.1 p k hc, by rw [h.2.2.2.2]; omega, by rw [h.1.2.2.2.2.1]; omega, by rw [h.1.2.2.2.2.2]; omega⟩
/-- the text's places, below y -/
def Ty (M : ak_M) (p q y : Nat) (L : List Int32) : Prop := Tx M p q L.length (lg L) ∧ 483 ≤ p ∧ 483 ≤ q ∧ p < y ∧ q < y ∧ y ≤ ak_P M
theorem Ty.tr {y : Nat} (h : Ty M p q y L) (hP : ak_P M ≤ ak_P M') (hP8 : ak_P M' ≤ 800000) (hI : ∀ x, 483 ≤ x → x < y → ak_I M' x = ak_I M x ∧ ak_K M' x = ak_K M x ∧ ak_N M' x = ak_N M x ∧ ak_R M' x = ak_R M x) : Ty M' p q y L := by
  obtain ⟨⟨h0, h1⟩, hp, hq, py, qy, yP⟩ := h
  obtain ⟨a1, a2, a3, a4⟩ := hI p hp py
  obtain ⟨b1, b2, b3, b4⟩ := hI q hq qy
  refine ⟨⟨h0, ?_⟩, hp, hq, py, qy, by omega⟩
  rcases h1 with ⟨h1, h2, h3, h4, h5, h6, h7, h8⟩ | ⟨s, hs, rfl, -⟩
  · exact Or.inl ⟨by omega, by rw [a2]; exact h2, by rw [a4]; exact h3, by rw [a1]; exact h4, by omega, by rw [b2]; exact h6, by rw [b3]; exact h7, fun i hi => by rw [b1]; exact h8 i hi⟩
  · exfalso; omega
/-- the five words after k letters -/
def Wd (M : ak_M) (y k : Nat) (f : Nat → Int32) : Prop := y < ak_P M ∧ ak_K M y = 100 ∧ ak_N M y = 5 ∧ 483 ≤ y ∧ ∀ q, q < 5 → ak_I M y q = pk f q (min 4 (k - 4 * q))
theorem Wd.st {y : Nat} (h : Wd M y k f) (hk : k < 20) : Wd (ak_sI M y (k / 4) (ak_I M y (k / 4) ||| (f k <<< ((24 - 8 * nI (k % 4)) &&& 31)))) y (k + 1) f := by
  obtain ⟨h1, h2, h3, h4, h5⟩ := h
  refine ⟨h1, h2, h3, h4, fun q hq => ?_⟩
  rw [mb_sI]
  by_cases c : q = k / 4
  · rw [if_pos ⟨rfl, c⟩, h5 _ (by omega), ← c, show min 4 (k - 4 * q) = k % 4 by omega, show min 4 (k + 1 - 4 * q) = k % 4 + 1 by omega]
    show _ = pk f q (k % 4) ||| (f (4 * q + k % 4) <<< ((24 - 8 * nI (k % 4)) &&& 31))
    rw [show 4 * q + k % 4 = k by omega]
  · rw [if_neg (fun e => c e.2), h5 _ hq, show min 4 (k - 4 * q) = min 4 (k + 1 - 4 * q) by omega]
end SFE
