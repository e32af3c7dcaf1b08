/-! the setup text is drawn -/
def cl (X : ak_X) (k : Int32) : Int32 := if Int32.ofNat X.1 ≤ k then 8191 * k + 131071 else X.2.1 k.toNatClampNeg
def dr (X : ak_X) (k lo hi : Int32) : Int32 := lo + ((cl X k &&& 2147483647) - (cl X k &&& 2147483647) / ((hi - lo) + 1) * ((hi - lo) + 1))
/-- a draw between small numbers -/
def dn (X : ak_X) (k lo hi : Nat) : Nat := (dr X (nI k) (nI lo) (nI hi)).toNatClampNeg
/-- a draw between -9 and 9 -/
def dz (X : ak_X) (k : Nat) : Int32 := dr X (nI k) (-9) 9
def da (X : ak_X) (k : Nat) : Nat := (ab32 (dz X k)).toNatClampNeg
def hdT (X : ak_X) : List Int32 := ctx 15 ++ dgt (dn X 1 0 50) ++ ctx 16 ++ dgt (dn X 2 0 50) ++ ctx 17 ++ dgt (dn X 3 0 20) ++ [nI 59]
def kiT (X : ak_X) (k : Nat) : List Int32 := ctx 18 ++ [nI (97 + k)] ++ [nI 32] ++ dgt (dn X (10 + k) 60 110) ++ [nI 32] ++ dgt (dn X (20 + k) 60 110) ++ ctx 19 ++ dgt (dn X (30 + k) 0 9) ++ ctx 20 ++ dgt (dn X (40 + k) 1 40) ++ ctx 21 ++ dgt (dn X (50 + k) 1 60) ++ [nI 59]
def sgT (X : ak_X) (k : Nat) : List Int32 := (if 0 ≤ dz X k then ctx 24 else ctx 23) ++ dgt (da X k)
def lowT (X : ak_X) : Nat → Nat
  | 0 => 0
  | k + 1 => lowT X k + dn X (68 + k) 1 30
def wiT (X : ak_X) (k : Nat) : List Int32 := ctx 22 ++ dgt (lowT X k) ++ sgT X (60 + 2 * k) ++ sgT X (60 + 2 * k + 1) ++ [nI 59]
def cat (f : Nat → List Int32) : Nat → List Int32
  | 0 => []
  | k + 1 => cat f k ++ f k
def stT (X : ak_X) (nk : Nat) : List Int32 := hdT X ++ cat (kiT X) nk ++ cat (wiT X) (dn X 4 1 4)
def TS (M0 : ak_M) (i b p : Nat) (L : List Int32) (M : ak_M) : Prop := (∃ q cap, Sq p q cap L M) ∧ c7 L ∧ gr i M0 M ∧ ak_P M0 ≤ 500 ∧ i ≤ 1000 ∧ L.length ≤ b
section SSU
variable {X : ak_X} {M M0 M1 M' M2 : ak_M} {p q cap i j m n s b e k lo hi : Nat} {L L' : List Int32} {r : ak_O × ak_M} {Z : ak_O × ak_M → Prop}
theorem s_and (x : Int32) : 0 ≤ (x &&& 2147483647).toInt := by
  have h : (x &&& 2147483647).toBitVec.msb = false := by
    rw [Int32.toBitVec_and, BitVec.msb_and]
    exact Bool.and_false _
  show 0 ≤ (x &&& 2147483647).toBitVec.toInt
  rw [BitVec.toInt_eq_msb_cond, h]
  simp only [Bool.false_eq_true, if_false]
  omega
theorem dr_r (lo hi : Int) (hlo : -1000 ≤ lo) (hhi : hi ≤ 1000) (hlh : lo ≤ hi) {x y : Int32} (hx : x.toInt = lo) (hy : y.toInt = hi) (k : Int32) : lo ≤ (dr X k x y).toInt ∧ (dr X k x y).toInt ≤ hi ∧ (y - x) + 1 ≠ 0 := by
  have h1 : (1 : Int32).toInt = 1 := rfl
  have e1 : (y - x).toInt = hi - lo := by rw [j3_sub (by omega) (by omega)]; omega
  have e2 : ((y - x) + 1).toInt = hi - lo + 1 := by rw [j3_add (by omega) (by omega)]; omega
  have ne : (y - x) + 1 ≠ 0 := by
    intro e
    rw [e] at e2
    have : (0 : Int32).toInt = 0 := rfl
    omega
  have a0 := s_and (cl X k)
  unfold dr
  generalize (cl X k &&& 2147483647) = a at a0 ⊢
  generalize (y - x) + 1 = d at e2 ne ⊢
  have a1 := a.toInt_lt
  have ed : (a / d).toInt = a.toInt / d.toInt := by
    rw [Int32.toInt_div, Int.tdiv_eq_ediv_of_nonneg a0, j3_b]
    · have := Int.ediv_nonneg a0 (show 0 ≤ d.toInt by omega); omega
    · have := Int.ediv_le_self d.toInt a0; omega
  have m0 := Int.emod_nonneg a.toInt (show d.toInt ≠ 0 by omega)
  have m1 := Int.emod_lt_of_pos a.toInt (show 0 < d.toInt by omega)
  have m2 := Int.mul_ediv_add_emod a.toInt d.toInt
  have dn := Int.ediv_nonneg a0 (show 0 ≤ d.toInt by omega)
  have mm : 0 ≤ a.toInt / d.toInt * d.toInt := Int.mul_nonneg dn (by omega)
  have mc : d.toInt * (a.toInt / d.toInt) = a.toInt / d.toInt * d.toInt := Int.mul_comm _ _
  have em : (a / d * d).toInt = a.toInt / d.toInt * d.toInt := by
    rw [j3_mul (by rw [ed]; omega) (by rw [ed]; omega), ed]
  have es : (a - a / d * d).toInt = a.toInt % d.toInt := by
    rw [j3_sub (by omega) (by omega), em]; omega
  have ex : (x + (a - a / d * d)).toInt = x.toInt + a.toInt % d.toInt := by
    rw [j3_add (by omega) (by omega), es]
  exact ⟨by omega, by omega, ne⟩
theorem dn_r (h : lo ≤ hi) (h2 : hi ≤ 1000) : lo ≤ dn X k lo hi ∧ dn X k lo hi ≤ hi ∧ dr X (nI k) (nI lo) (nI hi) = nI (dn X k lo hi) := by
  obtain ⟨a, b, -⟩ := dr_r (X := X) lo hi (by omega) (by omega) (by omega) (x := nI lo) (y := nI hi) (mi_t (by omega)) (mi_t (by omega)) (nI k)
  have e : dr X (nI k) (nI lo) (nI hi) = nI (dr X (nI k) (nI lo) (nI hi)).toInt.toNat := by
    apply Int32.toInt_inj.mp
    rw [mi_t (by omega)]
    omega
  have e2 : dn X k lo hi = (dr X (nI k) (nI lo) (nI hi)).toInt.toNat := by
    unfold dn
    rw [e, mi_c (by omega), mi_t (by omega)]
    omega
  exact ⟨by omega, by omega, by rw [e2]; exact e⟩
theorem dz_r : -9 ≤ (dz X k).toInt ∧ (dz X k).toInt ≤ 9 := by
  obtain ⟨a, b, -⟩ := dr_r (X := X) (-9) 9 (by omega) (by omega) (by omega) (x := -9) (y := 9) m9_t rfl (nI k)
  exact ⟨a, b⟩
theorem da_r : da X k ≤ 9 ∧ ab32 (dz X k) = nI (da X k) := by
  have h := dz_r (X := X) (k := k)
  have e1 : (ab32 (dz X k)).toInt ≤ 9 ∧ 0 ≤ (ab32 (dz X k)).toInt := by
    rw [ab32_t (by omega)]; split <;> omega
  have e : ab32 (dz X k) = nI (ab32 (dz X k)).toInt.toNat := by
    apply Int32.toInt_inj.mp
    rw [mi_t (by omega)]
    omega
  have e2 : da X k = (ab32 (dz X k)).toInt.toNat := by
    unfold da
    rw [e, mi_c (by omega), mi_t (by omega)]
    omega
  exact ⟨by omega, by rw [e2]; exact e⟩
theorem d357 (hL : ab_lay M) (hX : X.1 ≤ 260) (hk : k ≤ 400) : rn X 357 [.ref 1000000, .int (nI k)] M (.inl (some (.int (cl X (nI k)))), M) := by
  refine t_357 hL _ ?_
  unfold cl
  by_cases c : Int32.ofNat X.1 ≤ nI k
  · rw [if_pos c, if_pos c]
  · rw [if_neg c, if_neg c, mi_c (by omega)]
    refine ⟨k, mb_ix ?_ (by omega), rfl⟩
    have : ¬ X.1 ≤ k := fun e => c ((mi_le (by omega) (by omega)).mpr e)
    omega
theorem d358 (hL : ab_lay M) (hX : X.1 ≤ 260) (hk : k ≤ 400) {x y : Int32} (lo hi : Int) (hx : x.toInt = lo) (hy : y.toInt = hi) (hlo : -1000 ≤ lo) (hhi : hi ≤ 1000) (hlh : lo ≤ hi) : rn X 358 [.ref 1000000, .int (nI k), .int x, .int y] M (.inl (some (.int (dr X (nI k) x y))), M) := t_358 hL _ _ _ ⟨_, M, hL, d357 hL hX hk, (dr_r (X := X) lo hi hlo hhi hlh hx hy (nI k)).2.2, rfl⟩
theorem l_dr {P : Int32 → ak_M → ak_O × ak_M → Prop} (hL : ab_lay M) (hX : X.1 ≤ 260) {kk x y : Int32} (ek : kk = nI k) (ex : x = nI lo) (ey : y = nI hi) (hk : k ≤ 400) (h : lo ≤ hi ∧ hi ≤ 1000) (g : Wz Z (P (nI (dn X k lo hi)) M)) : Wz Z fun r => ∃ (v : Int32) (M1 : ak_M), rn X 358 [.ref 1000000, .int kk, .int x, .int y] M (.inl (some (.int v)), M1) ∧ P v M1 r := by
  subst ek ex ey
  have e := d358 (M := M) (X := X) hL hX hk (x := nI lo) (y := nI hi) lo hi (mi_t (by omega)) (mi_t (by omega)) (by omega) (by omega) (by omega)
  rw [(dn_r h.1 h.2).2.2] at e
  exact w_t (fun r h => ⟨_, M, e, h⟩) g
theorem l_dz {P : Int32 → ak_M → ak_O × ak_M → Prop} (hL : ab_lay M) (hX : X.1 ≤ 260) {kk : Int32} (ek : kk = nI k) (hk : k ≤ 400) (g : Wz Z (P (dz X k) M)) : Wz Z fun r => ∃ (v : Int32) (M1 : ak_M), rn X 358 [.ref 1000000, .int kk, .int (-9), .int 9] M (.inl (some (.int v)), M1) ∧ P v M1 r := by
  subst ek
  exact w_t (fun r h => ⟨_, M, d358 hL hX hk (-9) 9 m9_t rfl (by omega) (by omega) (by omega), h⟩) g
theorem TS.P (T : TS M0 i b p L M) : ak_P M < 790000 := by have := T.2.2.1.2.2.1; have := T.2.2.2; omega
theorem c7_ap (h : c7 L) (h' : c7 L') : c7 (L ++ L') := fun j hj => by
  rw [List.length_append] at hj
  rw [lg_ap]
  split
  · rename_i c; exact h j c
  · exact h' _ (by omega)
theorem l_s {P : Nat → ak_M → ak_O × ak_M → Prop} (T : TS M0 i b p L M) (hs : s < 25) {c : Nat} (hc : (ctx s).length = c) (hl : b ≤ 600) (hi : i < 1000) (g : ∀ M', TS M0 (i + 1) (b + c) p (L ++ ctx s) M' → Wz Z (P p M')) : Wz Z fun r => ak_rc M p = 12 ∧ ∃ (v : Nat) (M1 : ak_M), rn X 343 [.ref p, .ref (1001000 + s)] M (.inl (some (.ref v)), M1) ∧ P v M1 r := by
  have hP := T.P
  obtain ⟨⟨q, cap, h⟩, h7, f, h5, h6, h8⟩ := T
  have hrc := rc_p h.1.2.1 h.1.2.2.1
  obtain ⟨M', q', c', r', s', g'⟩ := sb_s (X := X) f.1 (by omega) h hs (by have := ctx_l hs; omega)
  exact w_t (fun r h => ⟨hrc, p, M', t_343 _ _ ⟨hrc, p, M', r', rfl⟩, h⟩) (g M' ⟨⟨q', c', s'⟩, c7_ap h7 (ctx_7 hs), f.tr g', h5, by omega, by rw [List.length_append]; omega⟩)
theorem c7_1 {c : Nat} (hc : c < 128) : c7 [nI c] := fun j hj => by
  obtain rfl : j = 0 := by simp only [List.length_singleton] at hj; omega
  exact (c7_b0 c hc).2.2
theorem l_c {P : Nat → ak_M → ak_O × ak_M → Prop} (T : TS M0 i b p L M) {c : Nat} {x : Int32} (ex : x = nI c) (hc : c < 128) (hl : b ≤ 600) (hi : i < 1000) (g : ∀ M', TS M0 (i + 1) (b + 1) p (L ++ [nI c]) M' → Wz Z (P p M')) : Wz Z fun r => ak_rc M p = 12 ∧ ∃ (v : Nat) (M1 : ak_M), rn X 344 [.ref p, .int x] M (.inl (some (.ref v)), M1) ∧ P v M1 r := by
  have hP := T.P
  subst ex
  obtain ⟨⟨q, cap, h⟩, h7, f, h5, h6, h8⟩ := T
  have hrc := rc_p h.1.2.1 h.1.2.2.1
  obtain ⟨M', q', c', r', s', g'⟩ := sb_c (X := X) f.1 (by omega) h hc (by omega)
  exact w_t (fun r h => ⟨hrc, p, M', t_344 _ _ ⟨hrc, p, M', r', rfl⟩, h⟩) (g M' ⟨⟨q', c', s'⟩, c7_ap h7 (c7_1 hc), f.tr g', h5, by omega, by rw [List.length_append, List.length_singleton]; omega⟩)
theorem l_n {P : Nat → ak_M → ak_O × ak_M → Prop} (T : TS M0 i b p L M) (hn : n < 128) (hl : b ≤ 600) (hi : i < 1000) (g : ∀ M', TS M0 (i + 1) (b + 3) p (L ++ dgt n) M' → Wz Z (P p M')) : Wz Z fun r => ak_rc M p = 12 ∧ ∃ (v : Nat) (M1 : ak_M), rn X 345 [.ref p, .int (nI n)] M (.inl (some (.ref v)), M1) ∧ P v M1 r := by
  have hP := T.P
  obtain ⟨⟨q, cap, h⟩, h7, f, h5, h6, h8⟩ := T
  have hrc := rc_p h.1.2.1 h.1.2.2.1
  obtain ⟨M', q', c', r', s', g'⟩ := sb_n (X := X) f.1 (by omega) h hn (by omega)
  exact w_t (fun r h => ⟨hrc, p, M', t_345 _ _ ⟨hrc, p, M', r', rfl⟩, h⟩) (g M' ⟨⟨q', c', s'⟩, c7_ap h7 (dgt_7 hn), f.tr g', h5, by omega, by have := (dq8 n hn).1; rw [List.length_append]; omega⟩)
theorem TS.cg {i' b' : Nat} (T : TS M0 i b p L M) (e : L = L') (hi : i ≤ i') (hb : b ≤ b') (h1 : i' ≤ 1000) : TS M0 i' b' p L' M := by
  subst e
  exact ⟨T.1, T.2.1, T.2.2.1.mo hi, T.2.2.2.1, h1, by have := T.2.2.2.2.2; omega⟩
theorem l_abs {P : Int32 → ak_M → ak_O × ak_M → Prop} {x : Int32} (hL : ab_lay M) (g : Wz Z (P (ab32 x) M)) : Wz Z fun r => ∃ (v2 : Int32) (M1 : ak_M), rn X 314 [.int x] M (.inl (some (.int v2)), M1) ∧ P v2 M1 r := w_t (fun r h => ⟨_, M, jm_abs hL, h⟩) g
end SSU
