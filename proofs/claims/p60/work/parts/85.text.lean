/-! texts: how long, which letter; those that never change, and those that are made -/
/-- text s: its length, its bytes -/
def tl (s : Nat) : Nat := (am_sb.getD s []).length
def tb (s i : Nat) : Int32 := (am_sb.getD s []).getD i 0
def isC7 (x : Int32) : Bool := decide (0 ≤ x.toInt) && decide (x.toInt < 128)
theorem tb_f : ∀ s, s < 25 → tl s ≤ 60 ∧ ∀ i, i < tl s → isC7 (tb s i) = true := by decide +kernel
theorem c7_f : ∀ c, c < 128 → ((nI c &&& 255).toUInt32 % 65536).toInt32 = nI c := by decide +kernel
theorem c7_n {x : Int32} (h : isC7 x = true) : ∃ c, c < 128 ∧ x = nI c := by
  unfold isC7 at h
  rw [Bool.and_eq_true, decide_eq_true_eq, decide_eq_true_eq] at h
  refine ⟨x.toInt.toNat, by omega, ?_⟩
  apply Int32.toInt_inj.mp
  rw [nI_toInt (by omega)]
  omega
theorem c7_2 : ∀ c, c < 128 → ((nI c).toUInt32 % 65536).toInt32 = nI c := by decide +kernel
theorem c7_a {x : Int32} (h : isC7 x = true) : ((x &&& 255).toUInt32 % 65536).toInt32 = x := by
  obtain ⟨c, hc, rfl⟩ := c7_n h
  exact c7_f c hc
theorem c7_o {x : Int32} (h : isC7 x = true) {mi : Nat} (hm : am_R mi = some .char) : ak_iok (am_R mi) x = true := by
  obtain ⟨c, hc, rfl⟩ := c7_n h
  exact w_okC hm (c7_2 c hc)
/-- at p stands a text of n letters g, its bytes at q -/
def Tx (M : ak_M) (p q n : Nat) (g : Nat → Int32) : Prop :=
  (n ≤ 1000 ∧ ∀ i, i < n → isC7 (g i) = true) ∧
  ((p < ak_P M ∧ ak_K M p = 13 ∧ ak_R M p 0 = some q ∧ ak_I M p 1 = 0 ∧ q < ak_P M ∧ ak_K M q = 101 ∧ ak_N M q = n ∧ ∀ i, i < n → ak_I M q i = g i) ∨
    ∃ s, s < 25 ∧ p = 1001000 + s ∧ q = 1002000 + s ∧ n = tl s ∧ (∀ i, i < n → g i = tb s i) ∧ ak_P M ≤ 800000)
theorem Tx.c {M : ak_M} {s : Nat} (hL : ab_lay M) (hs : s < 25) : Tx M (1001000 + s) (1002000 + s) (tl s) (tb s) :=
  ⟨⟨by have := (tb_f s hs).1; omega, (tb_f s hs).2⟩, Or.inr ⟨s, hs, rfl, rfl, rfl, fun i _ => rfl, hL.1.2⟩⟩
theorem Tx.rc {M : ak_M} {p q n : Nat} {g : Nat → Int32} (h : Tx M p q n g) : ak_rc M p = 13 := by
  unfold ak_rc
  rcases h.2 with ⟨h1, h2, -⟩ | ⟨s, hs, rfl, -, -, -, h6⟩
  · rw [if_pos h1, h2]
  · rw [if_neg (by omega), if_pos (by omega)]
section STX
variable {X : ak_X} {M : ak_M} {r : ak_O × ak_M} {mi pc n s idx : Nat} {l1 : List (Option Value)} {l2 : List (Nat × Value)} {st : List Value}
variable {p q len : Nat} {g : Nat → Int32}
theorem w_txt {f : Nat} (hT : Tx M p q len g) (hf : f < 2) (h : am_A mi pc = some (.getfield idx)) (hF : (am_F (am_O mi) idx).map (fun q => (q.1, q.2.1)) = some (13, f)) (hn : pc + 3 = n) (k : sg X mi (n, l1, l2, (if f = 0 then .ref q else .int 0) :: st) M r) : sg X mi (pc, l1, l2, .ref p :: st) M r := by
  subst hn
  refine sg_nx ((ak_SA h).trans ?_) k
  simp only [ak_x]
  cases hz : am_F (am_O mi) idx with
  | none => rw [hz] at hF; cases hF
  | some z =>
    obtain ⟨c, f', z⟩ := z
    rw [hz] at hF
    simp only [Option.map_some, Option.some.injEq, Prod.mk.injEq] at hF
    obtain ⟨rfl, rfl⟩ := hF
    dsimp only
    rcases hT.2 with ⟨h1, h2, h3, h4, -⟩ | ⟨s, hs, rfl, rfl, -, -, h6⟩
    · rw [if_pos h1, if_pos ⟨by decide, h2⟩]
      by_cases h0 : f' = 0
      · subst h0
        rw [if_pos rfl, if_pos (by decide), h3]
        rfl
      · obtain rfl : f' = 1 := by omega
        rw [if_neg h0, if_neg (by decide), h4]
        rfl
    · have a1 : @LE.le Nat _ 1001000 (1001000 + s) := by omega
      have a2 : @LT.lt Nat _ (1001000 + s) 1001025 := by omega
      have a3 : ¬ @LT.lt Nat _ (1001000 + s) (ak_P M) := by omega
      rw [if_neg a3, if_pos ⟨rfl, hf, a1, a2⟩, show 1001000 + s + 1000 = 1002000 + s by omega]
      rfl
theorem w_tln (hT : Tx M p q len g) (h : am_A mi pc = some .arraylength) (hn : pc + 1 = n) (k : sg X mi (n, l1, l2, .int (nI len) :: st) M r) : sg X mi (pc, l1, l2, .ref q :: st) M r := by
  subst hn
  refine sg_nx ((ak_SA h).trans ?_) k
  simp only [ak_x]
  rcases hT.2 with ⟨h1, h2, h3, h4, h5, h6, h7, h8⟩ | ⟨s, hs, rfl, rfl, rfl, -, hP⟩
  · rw [if_pos h5, if_pos (by omega), h7]
    rfl
  · have h2 : ak_cN X (1002000 + s) = tl s := by unfold ak_cN; rw [if_neg (by omega), if_neg (by omega), if_neg (by omega), show 1002000 + s - 1002000 = s by omega]; rfl
    have h3 : ak_cK (1002000 + s) = 101 := by unfold ak_cK; rw [if_neg (by omega), if_neg (by omega), if_neg (by omega), if_pos (by omega)]
    have h4 : ¬ (@LT.lt Nat _ (1002000 + s) (ak_P M)) := by omega
    have h5 : @LE.le Nat _ 1000000 (1002000 + s) := by omega
    rw [if_neg h4, if_pos ⟨h5, Or.inr h3⟩, h2]
    rfl
theorem w_tbl {i : Nat} (hT : Tx M p q len g) (h : am_A mi pc = some .baload) (hi : i < len) (hn : pc + 1 = n) (k : sg X mi (n, l1, l2, .int (g i) :: st) M r) : sg X mi (pc, l1, l2, .int (nI i) :: .ref q :: st) M r := by
  subst hn
  refine sg_nx ((ak_SA h).trans ?_) k
  simp only [ak_x]
  have h0 := hT.1.1
  have hx : ab_ix (nI i) i len := mb_ix hi (by omega)
  rcases hT.2 with ⟨h1, h2, h3, h4, h5, h6, h7, h8⟩ | ⟨s, hs, rfl, rfl, rfl, hg, hP⟩
  · rw [if_pos h5, if_pos ⟨h6, by rw [h7]; exact hx.1⟩, hx.2, h8 i hi]
    rfl
  · have h2 : ak_cN X (1002000 + s) = tl s := by unfold ak_cN; rw [if_neg (by omega), if_neg (by omega), if_neg (by omega), show 1002000 + s - 1002000 = s by omega]; rfl
    have h3 : ak_cK (1002000 + s) = 101 := by unfold ak_cK; rw [if_neg (by omega), if_neg (by omega), if_neg (by omega), if_pos (by omega)]
    have h4 : ¬ (@LT.lt Nat _ (1002000 + s) (ak_P M)) := by omega
    have h5 : @LE.le Nat _ 1000000 (1002000 + s) := by omega
    have h6 : ak_cI X (1002000 + s) i = tb s i := by
      unfold ak_cI
      rw [if_neg (by omega), if_neg (by omega), if_neg (by omega), if_neg (by omega), if_neg (by omega), if_neg (by omega), show 1002000 + s - 1002000 = s by omega]
      rfl
    rw [if_neg h4, if_pos ⟨h5, h3, by rw [h2]; exact hx.1⟩, hx.2, h6, hg i hi]
    rfl
/-- a call on a receiver whose class is known -/
theorem w_cVr {idx cal na nl p : Nat} {as rest : List Value} {v : Option Value} {M2 : ak_M} (hr : ak_rc M p = am_C cal) (h : am_A mi pc = some (.invokevirtual idx)) (hc : w_cs mi idx 0 cal na nl = true) (hs : st = as.reverse ++ .ref p :: rest) (hl : as.length = na) (he : (ak_e1 (.ref p :: as)).length = nl) (ht : ak_cat rest ≤ 8) (hn : pc + 3 = n)
    (h1 : rn X cal (.ref p :: as) M (.inl v, M2)) (k : sg X mi (n, l1, l2, v.toList ++ rest) M2 r) : sg X mi (pc, l1, l2, st) M r := by
  subst hn
  exact sg_cl ((ak_SA h).trans (w_invV hc hr hs hl he ht)) h1 k
theorem w_sg1 (h : am_A mi pc = some (.getstatic idx)) (hS : (am_S (am_O mi) idx).map (fun q => q.1) = some 3) (hn : pc + 3 = n) (k : sg X mi (n, l1, l2, .int 1 :: st) M r) : sg X mi (pc, l1, l2, st) M r := by
  subst hn
  refine sg_nx ((ak_SA h).trans ?_) k
  simp only [ak_x]
  cases hz : am_S (am_O mi) idx with
  | none => rw [hz] at hS; cases hS
  | some z =>
    obtain ⟨c, z⟩ := z
    rw [hz] at hS
    simp only [Option.map_some, Option.some.injEq] at hS
    subst hS
    rfl
theorem w_sgn {w : Nat} (hw : w = 4) (h : am_A mi pc = some (.getstatic idx)) (hS : (am_S (am_O mi) idx).map (fun q => q.1) = some w) (hn : pc + 3 = n) (k : sg X mi (n, l1, l2, (if X.2.2 = true then .null else .ref 1003000) :: st) M r) : sg X mi (pc, l1, l2, st) M r := by
  subst hn
  refine sg_nx ((ak_SA h).trans ?_) k
  simp only [ak_x]
  cases hz : am_S (am_O mi) idx with
  | none => rw [hz] at hS; cases hS
  | some z =>
    obtain ⟨c, z⟩ := z
    rw [hz] at hS
    simp only [Option.map_some, Option.some.injEq] at hS
    subst hS
    subst hw
    rfl
theorem jt_319 (hT : Tx M p q len g) : rn X 319 [.ref p] M (.inl (some (.int 0)), M) := by
  refine w_rn (nL := 1) (l1 := [some (.ref p)]) (by decide +kernel) rfl rfl ?_
  refine w_sg1 (n := 3) (idx := 38) (by decide +kernel) (by decide +kernel) rfl ?_
  refine w_if_eq_n (n := 6) (off := 10) (by decide +kernel) rfl (by decide) ?_
  refine w_aload_n (n := 7) (i := 0) (by decide +kernel) rfl rfl ?_
  refine w_txt (n := 10) (idx := 15) (f := 1) hT (by decide) (by decide +kernel) (by decide +kernel) rfl ?_
  refine w_goto (n := 14) (off := 4) (by decide +kernel) (by decide) ?_
  exact w_ireturn (by decide +kernel) (by decide +kernel)
theorem jt_320 (hT : Tx M p q len g) : rn X 320 [.ref p] M (.inl (some (.int 1)), M) := by
  refine w_rn (nL := 1) (l1 := [some (.ref p)]) (by decide +kernel) rfl rfl ?_
  refine w_sg1 (n := 3) (idx := 38) (by decide +kernel) (by decide +kernel) rfl ?_
  refine w_if_eq_n (n := 6) (off := 14) (by decide +kernel) rfl (by decide) ?_
  refine w_aload_n (n := 7) (i := 0) (by decide +kernel) rfl rfl ?_
  refine w_txt (n := 10) (idx := 15) (f := 1) hT (by decide) (by decide +kernel) (by decide +kernel) rfl ?_
  refine w_if_ne_n (n := 13) (off := 7) (by decide +kernel) rfl rfl ?_
  refine w_iconst (n := 14) (v := 1) (x := 1) (by decide +kernel) rfl (by decide) ?_
  refine w_goto (n := 18) (off := 4) (by decide +kernel) (by decide) ?_
  exact w_ireturn (by decide +kernel) (by decide +kernel)
theorem jt_317 (hT : Tx M p q len g) : rn X 317 [.ref p] M (.inl (some (.int (nI len))), M) := by
  refine w_rn (nL := 1) (l1 := [some (.ref p)]) (by decide +kernel) rfl rfl ?_
  refine w_aload_n (n := 1) (i := 0) (by decide +kernel) rfl rfl ?_
  refine w_txt (n := 4) (idx := 9) (f := 0) hT (by decide) (by decide +kernel) (by decide +kernel) rfl ?_
  refine w_tln (n := 5) hT (by decide +kernel) rfl ?_
  refine w_aload_n (n := 6) (i := 0) (by decide +kernel) rfl rfl ?_
  refine w_cVr (n := 9) (idx := 335) (cal := 319) (na := 0) (nl := 1) (as := []) (rest := [.int (nI len)]) (hT.rc.trans (by decide +kernel)) (by decide +kernel) (by decide +kernel) rfl rfl rfl (Nat.le_of_ble_eq_true rfl) rfl (jt_319 hT) ?_
  refine w_ishr (n := 10) (by decide +kernel) rfl ?_
  rw [sb_shr0]
  exact w_ireturn (by decide +kernel) (w_okI (by decide +kernel))
theorem j_323 (v : Value) (hv : v = .null ∨ v = .ref 1003000) {i m : Nat} (hm : m ≤ 1000) (hi : i < m) : rn X 323 [.int (nI i), .int (nI m), v] M (.inl (some (.int (nI i))), M) := by
  have h0 : ¬ nI i < 0 := fun e => absurd ((mi_lt (a := i) (b := 0) (by omega) (by decide)).mp e) (by omega)
  have h1 : nI i < nI m := (mi_lt (by omega) (by omega)).mpr hi
  refine w_rn (nL := 3) (l1 := [some (.int (nI i)), some (.int (nI m)), some v]) (by decide +kernel) (by rcases hv with rfl | rfl <;> rfl) (by rcases hv with rfl | rfl <;> rfl) ?_
  refine w_iload_n (n := 1) (i := 0) (by decide +kernel) rfl rfl ?_
  refine w_if_lt_n (n := 4) (off := 8) (by decide +kernel) rfl h0 ?_
  refine w_iload_n (n := 5) (i := 0) (by decide +kernel) rfl rfl ?_
  refine w_iload_n (n := 6) (i := 1) (by decide +kernel) rfl rfl ?_
  refine w_icmp_lt_j (n := 16) (off := 10) (by decide +kernel) (by decide) h1 ?_
  refine w_iload_n (n := 17) (i := 0) (by decide +kernel) rfl rfl ?_
  exact w_ireturn (by decide +kernel) (w_okI (by decide +kernel))
theorem j_321 {i m : Nat} (hm : m ≤ 1000) (hi : i < m) : rn X 321 [.int (nI i), .int (nI m)] M (.inl none, M) := by
  refine w_rn (nL := 2) (l1 := [some (.int (nI i)), some (.int (nI m))]) (by decide +kernel) rfl rfl ?_
  refine w_iload_n (n := 1) (i := 0) (by decide +kernel) rfl rfl ?_
  refine w_iload_n (n := 2) (i := 1) (by decide +kernel) rfl rfl ?_
  refine w_sgn (n := 5) (idx := 1053) (w := 4) rfl (by decide +kernel) (by decide +kernel) rfl ?_
  have fin : ∀ v : Value, (v = .null ∨ v = .ref 1003000) → sg X 321 (5, [some (.int (nI i)), some (.int (nI m))], [], [v, .int (nI m), .int (nI i)]) M (.inl none, M) := by
    intro v hv
    refine w_cS (n := 8) (idx := 1059) (cal := 323) (na := 3) (nl := 3) (as := [.int (nI i), .int (nI m), v]) (rest := []) (by decide +kernel) (by decide +kernel) rfl rfl (by rcases hv with rfl | rfl <;> rfl) (Nat.le_of_ble_eq_true rfl) rfl (j_323 v hv hm hi) ?_
    refine w_pop_int (n := 9) (by decide +kernel) rfl ?_
    exact w_vreturn (by decide +kernel) (by decide +kernel)
  by_cases c : X.2.2 = true
  · rw [if_pos c]; exact fin _ (Or.inl rfl)
  · rw [if_neg c]; exact fin _ (Or.inr rfl)
theorem jt_322 (hT : Tx M p q len g) {i : Nat} (hi : i < len) : rn X 322 [.ref q, .int (nI i)] M (.inl (some (.int (g i))), M) := by
  have hm := hT.1.1
  refine w_rn (nL := 2) (l1 := [some (.ref q), some (.int (nI i))]) (by decide +kernel) rfl rfl ?_
  refine w_iload_n (n := 1) (i := 1) (by decide +kernel) rfl rfl ?_
  refine w_aload_n (n := 2) (i := 0) (by decide +kernel) rfl rfl ?_
  refine w_tln (n := 3) hT (by decide +kernel) rfl ?_
  refine w_cS (n := 6) (idx := 9) (cal := 321) (na := 2) (nl := 2) (as := [.int (nI i), .int (nI len)]) (rest := []) (by decide +kernel) (by decide +kernel) rfl rfl rfl (Nat.le_of_ble_eq_true rfl) rfl (j_321 (by omega) hi) ?_
  refine w_aload_n (n := 7) (i := 0) (by decide +kernel) rfl rfl ?_
  refine w_iload_n (n := 8) (i := 1) (by decide +kernel) rfl rfl ?_
  refine w_tbl (n := 9) hT (by decide +kernel) hi rfl ?_
  refine w_sipush (n := 12) (v := 255) (x := 255) (by decide +kernel) rfl (by decide) ?_
  refine w_iand (n := 13) (by decide +kernel) rfl ?_
  refine w_i2c (n := 14) (by decide +kernel) rfl ?_
  rw [c7_a (hT.1.2 i hi)]
  exact w_ireturn (by decide +kernel) (c7_o (hT.1.2 i hi) (by decide +kernel))
theorem jt_318 (hT : Tx M p q len g) {i : Nat} (hi : i < len) : rn X 318 [.ref p, .int (nI i)] M (.inl (some (.int (g i))), M) := by
  refine w_rn (nL := 2) (l1 := [some (.ref p), some (.int (nI i))]) (by decide +kernel) rfl rfl ?_
  refine w_aload_n (n := 1) (i := 0) (by decide +kernel) rfl rfl ?_
  refine w_cVr (n := 4) (idx := 492) (cal := 320) (na := 0) (nl := 1) (as := []) (rest := []) (hT.rc.trans (by decide +kernel)) (by decide +kernel) (by decide +kernel) rfl rfl rfl (Nat.le_of_ble_eq_true rfl) rfl (jt_320 hT) ?_
  refine w_if_eq_n (n := 7) (off := 12) (by decide +kernel) rfl (by decide) ?_
  refine w_aload_n (n := 8) (i := 0) (by decide +kernel) rfl rfl ?_
  refine w_txt (n := 11) (idx := 9) (f := 0) hT (by decide) (by decide +kernel) (by decide +kernel) rfl ?_
  refine w_iload_n (n := 12) (i := 1) (by decide +kernel) rfl rfl ?_
  refine w_cS (n := 15) (idx := 495) (cal := 322) (na := 2) (nl := 2) (as := [.ref q, .int (nI i)]) (rest := []) (by decide +kernel) (by decide +kernel) rfl rfl rfl (Nat.le_of_ble_eq_true rfl) rfl (jt_322 hT hi) ?_
  exact w_ireturn (by decide +kernel) (c7_o (hT.1.2 i hi) (by decide +kernel))
theorem j_319 (hL : ab_lay M) (hs : s < 25) : rn X 319 [.ref (1001000 + s)] M (.inl (some (.int 0)), M) := jt_319 (Tx.c hL hs)
theorem j_320 (hL : ab_lay M) (hs : s < 25) : rn X 320 [.ref (1001000 + s)] M (.inl (some (.int 1)), M) := jt_320 (Tx.c hL hs)
theorem j_317 (hL : ab_lay M) (hs : s < 25) : rn X 317 [.ref (1001000 + s)] M (.inl (some (.int (nI (tl s)))), M) := jt_317 (Tx.c hL hs)
theorem j_322 (hL : ab_lay M) (hs : s < 25) {i : Nat} (hi : i < tl s) : rn X 322 [.ref (1002000 + s), .int (nI i)] M (.inl (some (.int (tb s i))), M) := jt_322 (Tx.c hL hs) hi
theorem j_318 (hL : ab_lay M) (hs : s < 25) {i : Nat} (hi : i < tl s) : rn X 318 [.ref (1001000 + s), .int (nI i)] M (.inl (some (.int (tb s i))), M) := jt_318 (Tx.c hL hs) hi
end STX
