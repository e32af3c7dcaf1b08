/-! texts: how long, which letter -/
/-- text s: its length, its bytes -/
def tl (s : Nat) : Nat := (am_sb.getD s []).length
def tb (s i : Nat) : Int32 := (am_sb.getD s []).getD i 0
theorem tb_f : ∀ s, s < 28 → tl s ≤ 60 ∧ nI (tl s) >>> (0 &&& 31) = nI (tl s) ∧ ∀ i, i < tl s → ((tb s i &&& 255).toUInt32 % 65536).toInt32 = tb s i ∧ ak_iok (am_R 322) (tb s i) = true ∧ ak_iok (am_R 318) (tb s i) = true := by decide +kernel
section STX
variable {X : ak_X} {M : ak_M} {r : ak_O × ak_M} {mi pc n s idx : Nat} {l1 : List (Option Value)} {l2 : List (Nat × Value)} {st : List Value}
theorem w_txt {f : Nat} (hL : ab_lay M) (hs : s < 28) (h : am_A mi pc = some (.getfield idx)) (hF : (am_F (am_O mi) idx).map (fun q => (q.1, q.2.1)) = some (50, f)) (hn : pc + 3 = n) (k : sg X mi (n, l1, l2, (if f = 0 then .ref (1002000 + s) else .int 0) :: st) M r) : sg X mi (pc, l1, l2, .ref (1001000 + s) :: st) M r := by
  subst hn
  refine sg_nx ((ak_SA h).trans ?_) k
  simp only [ak_x]
  cases hz : am_F (am_O mi) idx with
  | none => rw [hz] at hF; cases hF
  | some z =>
    obtain ⟨c, f', z⟩ := z
    rw [hz] at hF
    simp only [Option.map_some, Option.some.injEq, Prod.mk.injEq] at hF
    obtain ⟨rfl, rfl⟩ := hF
    dsimp only
    have a1 : @LE.le Nat _ 1001000 (1001000 + s) := by omega
    have a2 : @LT.lt Nat _ (1001000 + s) 1001028 := by omega
    rw [if_neg (by decide), if_pos ⟨rfl, a1, a2⟩, show 1001000 + s + 1000 = 1002000 + s by omega]
    rfl
theorem w_tln (hL : ab_lay M) (hs : s < 28) (h : am_A mi pc = some .arraylength) (hn : pc + 1 = n) (k : sg X mi (n, l1, l2, .int (nI (tl s)) :: st) M r) : sg X mi (pc, l1, l2, .ref (1002000 + s) :: st) M r := by
  subst hn
  refine sg_nx ((ak_SA h).trans ?_) k
  simp only [ak_x]
  have h1 : ak_P M = 499 := hL.1
  have h2 : ak_cN X (1002000 + s) = tl s := by unfold ak_cN; rw [if_neg (by omega), if_neg (by omega), show 1002000 + s - 1002000 = s by omega]; rfl
  have h3 : ak_cK (1002000 + s) = 101 := by unfold ak_cK; rw [if_neg (by omega), if_neg (by omega), if_pos (by omega)]
  have h4 : ¬ (@LT.lt Nat _ (1002000 + s) (ak_P M)) := by rw [h1]; omega
  have h5 : @LE.le Nat _ 1000000 (1002000 + s) := by omega
  rw [if_neg h4, if_pos ⟨h5, Or.inr h3⟩, h2]
  rfl
theorem w_tbl {i : Nat} (hL : ab_lay M) (hs : s < 28) (h : am_A mi pc = some .baload) (hi : i < tl s) (hn : pc + 1 = n) (k : sg X mi (n, l1, l2, .int (tb s i) :: st) M r) : sg X mi (pc, l1, l2, .int (nI i) :: .ref (1002000 + s) :: st) M r := by
  subst hn
  refine sg_nx ((ak_SA h).trans ?_) k
  simp only [ak_x]
  have h0 := (tb_f s hs).1
  have h1 : ak_P M = 499 := hL.1
  have h2 : ak_cN X (1002000 + s) = tl s := by unfold ak_cN; rw [if_neg (by omega), if_neg (by omega), show 1002000 + s - 1002000 = s by omega]; rfl
  have h3 : ak_cK (1002000 + s) = 101 := by unfold ak_cK; rw [if_neg (by omega), if_neg (by omega), if_pos (by omega)]
  have h4 : ¬ (@LT.lt Nat _ (1002000 + s) (ak_P M)) := by rw [h1]; omega
  have h5 : @LE.le Nat _ 1000000 (1002000 + s) := by omega
  have hx : ab_ix (nI i) i (tl s) := mb_ix hi (by omega)
  have h6 : ak_cI X (1002000 + s) i = tb s i := by
    unfold ak_cI
    rw [if_neg (by omega), if_neg (by omega), if_neg (by omega), if_neg (by omega), show 1002000 + s - 1002000 = s by omega]
    rfl
  rw [if_neg h4, if_pos ⟨h5, h3, by rw [h2]; exact hx.1⟩, hx.2, h6]
  rfl
theorem w_sg1 (h : am_A mi pc = some (.getstatic idx)) (hS : (am_S (am_O mi) idx).map (fun q => q.1) = some 3) (hn : pc + 3 = n) (k : sg X mi (n, l1, l2, .int 1 :: st) M r) : sg X mi (pc, l1, l2, st) M r := by
  subst hn
  refine sg_nx ((ak_SA h).trans ?_) k
  simp only [ak_x]
  cases hz : am_S (am_O mi) idx with
  | none => rw [hz] at hS; cases hS
  | some z =>
    obtain ⟨c, z⟩ := z
    rw [hz] at hS
    simp only [Option.map_some, Option.some.injEq] at hS
    subst hS
    rfl
theorem w_sgn {w : Nat} (hw : 4 ≤ w) (h : am_A mi pc = some (.getstatic idx)) (hS : (am_S (am_O mi) idx).map (fun q => q.1) = some w) (hn : pc + 3 = n) (k : sg X mi (n, l1, l2, (if X.2.2 = true then .null else .ref 1003000) :: st) M r) : sg X mi (pc, l1, l2, st) M r := by
  subst hn
  refine sg_nx ((ak_SA h).trans ?_) k
  simp only [ak_x]
  cases hz : am_S (am_O mi) idx with
  | none => rw [hz] at hS; cases hS
  | some z =>
    obtain ⟨c, z⟩ := z
    rw [hz] at hS
    simp only [Option.map_some, Option.some.injEq] at hS
    subst hS
    dsimp only
    rw [if_neg (by omega), if_neg (by omega)]
    rfl
theorem j_319 (hL : ab_lay M) (hs : s < 28) : rn X 319 [.ref (1001000 + s)] M (.inl (some (.int 0)), M) := by
  refine w_rn (nL := 1) (l1 := [some (.ref (1001000 + s))]) (by decide +kernel) rfl rfl ?_
  refine w_sg1 (n := 3) (idx := 38) (by decide +kernel) (by decide +kernel) rfl ?_
  refine w_if_eq_n (n := 6) (off := 10) (by decide +kernel) rfl (by decide) ?_
  refine w_aload_n (n := 7) (i := 0) (by decide +kernel) rfl rfl ?_
  refine w_txt (n := 10) (idx := 15) (f := 1) hL hs (by decide +kernel) (by decide +kernel) rfl ?_
  refine w_goto (n := 14) (off := 4) (by decide +kernel) (by decide) ?_
  exact w_ireturn (by decide +kernel) (by decide +kernel)
theorem j_320 (hL : ab_lay M) (hs : s < 28) : rn X 320 [.ref (1001000 + s)] M (.inl (some (.int 1)), M) := by
  refine w_rn (nL := 1) (l1 := [some (.ref (1001000 + s))]) (by decide +kernel) rfl rfl ?_
  refine w_sg1 (n := 3) (idx := 38) (by decide +kernel) (by decide +kernel) rfl ?_
  refine w_if_eq_n (n := 6) (off := 14) (by decide +kernel) rfl (by decide) ?_
  refine w_aload_n (n := 7) (i := 0) (by decide +kernel) rfl rfl ?_
  refine w_txt (n := 10) (idx := 15) (f := 1) hL hs (by decide +kernel) (by decide +kernel) rfl ?_
  refine w_if_ne_n (n := 13) (off := 7) (by decide +kernel) rfl rfl ?_
  refine w_iconst (n := 14) (v := 1) (x := 1) (by decide +kernel) rfl (by decide) ?_
  refine w_goto (n := 18) (off := 4) (by decide +kernel) (by decide) ?_
  exact w_ireturn (by decide +kernel) (by decide +kernel)
theorem j_317 (hL : ab_lay M) (hs : s < 28) : rn X 317 [.ref (1001000 + s)] M (.inl (some (.int (nI (tl s)))), M) := by
  refine w_rn (nL := 1) (l1 := [some (.ref (1001000 + s))]) (by decide +kernel) rfl rfl ?_
  refine w_aload_n (n := 1) (i := 0) (by decide +kernel) rfl rfl ?_
  refine w_txt (n := 4) (idx := 9) (f := 0) hL hs (by decide +kernel) (by decide +kernel) rfl ?_
  refine w_tln (n := 5) hL hs (by decide +kernel) rfl ?_
  refine w_aload_n (n := 6) (i := 0) (by decide +kernel) rfl rfl ?_
  refine w_cVS (n := 9) (idx := 335) (cal := 319) (na := 0) (nl := 1) (as := []) (rest := [.int (nI (tl s))]) hL (by decide +kernel) (by decide +kernel) hs (by decide +kernel) rfl rfl rfl (Nat.le_of_ble_eq_true rfl) rfl (j_319 hL hs) ?_
  refine w_ishr (n := 10) (by decide +kernel) rfl ?_
  rw [(tb_f s hs).2.1]
  exact w_ireturn (by decide +kernel) (w_okI (by decide +kernel))
theorem j_323 (v : Value) (hv : v = .null ∨ v = .ref 1003000) {i m : Nat} (hm : m ≤ 1000) (hi : i < m) : rn X 323 [.int (nI i), .int (nI m), v] M (.inl (some (.int (nI i))), M) := by
  have h0 : ¬ nI i < 0 := fun e => absurd ((mi_lt (a := i) (b := 0) (by omega) (by decide)).mp e) (by omega)
  have h1 : nI i < nI m := (mi_lt (by omega) (by omega)).mpr hi
  refine w_rn (nL := 3) (l1 := [some (.int (nI i)), some (.int (nI m)), some v]) (by decide +kernel) (by rcases hv with rfl | rfl <;> rfl) (by rcases hv with rfl | rfl <;> rfl) ?_
  refine w_iload_n (n := 1) (i := 0) (by decide +kernel) rfl rfl ?_
  refine w_if_lt_n (n := 4) (off := 8) (by decide +kernel) rfl h0 ?_
  refine w_iload_n (n := 5) (i := 0) (by decide +kernel) rfl rfl ?_
  refine w_iload_n (n := 6) (i := 1) (by decide +kernel) rfl rfl ?_
  refine w_icmp_lt_j (n := 16) (off := 10) (by decide +kernel) (by decide) h1 ?_
  refine w_iload_n (n := 17) (i := 0) (by decide +kernel) rfl rfl ?_
  exact w_ireturn (by decide +kernel) (w_okI (by decide +kernel))
theorem j_321 {i m : Nat} (hm : m ≤ 1000) (hi : i < m) : rn X 321 [.int (nI i), .int (nI m)] M (.inl none, M) := by
  refine w_rn (nL := 2) (l1 := [some (.int (nI i)), some (.int (nI m))]) (by decide +kernel) rfl rfl ?_
  refine w_iload_n (n := 1) (i := 0) (by decide +kernel) rfl rfl ?_
  refine w_iload_n (n := 2) (i := 1) (by decide +kernel) rfl rfl ?_
  refine w_sgn (n := 5) (idx := 1053) (w := 4) (by decide) (by decide +kernel) (by decide +kernel) rfl ?_
  have fin : ∀ v : Value, (v = .null ∨ v = .ref 1003000) → sg X 321 (5, [some (.int (nI i)), some (.int (nI m))], [], [v, .int (nI m), .int (nI i)]) M (.inl none, M) := by
    intro v hv
    refine w_cS (n := 8) (idx := 1059) (cal := 323) (na := 3) (nl := 3) (as := [.int (nI i), .int (nI m), v]) (rest := []) (by decide +kernel) (by decide +kernel) rfl rfl (by rcases hv with rfl | rfl <;> rfl) (Nat.le_of_ble_eq_true rfl) rfl (j_323 v hv hm hi) ?_
    refine w_pop_int (n := 9) (by decide +kernel) rfl ?_
    exact w_vreturn (by decide +kernel) (by decide +kernel)
  by_cases c : X.2.2 = true
  · rw [if_pos c]; exact fin _ (Or.inl rfl)
  · rw [if_neg c]; exact fin _ (Or.inr rfl)
theorem j_322 (hL : ab_lay M) (hs : s < 28) {i : Nat} (hi : i < tl s) : rn X 322 [.ref (1002000 + s), .int (nI i)] M (.inl (some (.int (tb s i))), M) := by
  have hf := tb_f s hs
  refine w_rn (nL := 2) (l1 := [some (.ref (1002000 + s)), some (.int (nI i))]) (by decide +kernel) rfl rfl ?_
  refine w_iload_n (n := 1) (i := 1) (by decide +kernel) rfl rfl ?_
  refine w_aload_n (n := 2) (i := 0) (by decide +kernel) rfl rfl ?_
  refine w_tln (n := 3) hL hs (by decide +kernel) rfl ?_
  refine w_cS (n := 6) (idx := 9) (cal := 321) (na := 2) (nl := 2) (as := [.int (nI i), .int (nI (tl s))]) (rest := []) (by decide +kernel) (by decide +kernel) rfl rfl rfl (Nat.le_of_ble_eq_true rfl) rfl (j_321 (by omega) hi) ?_
  refine w_aload_n (n := 7) (i := 0) (by decide +kernel) rfl rfl ?_
  refine w_iload_n (n := 8) (i := 1) (by decide +kernel) rfl rfl ?_
  refine w_tbl (n := 9) hL hs (by decide +kernel) hi rfl ?_
  refine w_sipush (n := 12) (v := 255) (x := 255) (by decide +kernel) rfl (by decide) ?_
  refine w_iand (n := 13) (by decide +kernel) rfl ?_
  refine w_i2c (n := 14) (by decide +kernel) rfl ?_
  rw [(hf.2.2 i hi).1]
  exact w_ireturn (by decide +kernel) (hf.2.2 i hi).2.1
theorem j_318 (hL : ab_lay M) (hs : s < 28) {i : Nat} (hi : i < tl s) : rn X 318 [.ref (1001000 + s), .int (nI i)] M (.inl (some (.int (tb s i))), M) := by
  refine w_rn (nL := 2) (l1 := [some (.ref (1001000 + s)), some (.int (nI i))]) (by decide +kernel) rfl rfl ?_
  refine w_aload_n (n := 1) (i := 0) (by decide +kernel) rfl rfl ?_
  refine w_cVS (n := 4) (idx := 492) (cal := 320) (na := 0) (nl := 1) (as := []) (rest := []) hL (by decide +kernel) (by decide +kernel) hs (by decide +kernel) rfl rfl rfl (Nat.le_of_ble_eq_true rfl) rfl (j_320 hL hs) ?_
  refine w_if_eq_n (n := 7) (off := 12) (by decide +kernel) rfl (by decide) ?_
  refine w_aload_n (n := 8) (i := 0) (by decide +kernel) rfl rfl ?_
  refine w_txt (n := 11) (idx := 9) (f := 0) hL hs (by decide +kernel) (by decide +kernel) rfl ?_
  refine w_iload_n (n := 12) (i := 1) (by decide +kernel) rfl rfl ?_
  refine w_cS (n := 15) (idx := 495) (cal := 322) (na := 2) (nl := 2) (as := [.ref (1002000 + s), .int (nI i)]) (rest := []) (by decide +kernel) (by decide +kernel) rfl rfl rfl (Nat.le_of_ble_eq_true rfl) rfl (j_322 hL hs hi) ?_
  exact w_ireturn (by decide +kernel) ((tb_f s hs).2.2 i hi).2.2
end STX
