/-! the walk over places that are made on the way -/
section SGD
variable {X : ak_X} {mi pc n : Nat} {l1 : List (Option Value)} {l2 : List (Nat × Value)} {st : List Value} {M M1 : ak_M} {r : ak_O × ak_M}
theorem x_dupx1 {v w : Value} (hv : v.category = 1 ∧ w.category = 1) (h : am_A mi pc = some (.dup_x1)) (hn : pc + 1 = n) (k : sg X mi (n, l1, l2, v :: w :: v :: st) M r) : sg X mi (pc, l1, l2, v :: w :: st) M r := by
  subst hn
  exact sg_nx ((ak_SA h).trans (by simp only [ak_x]; rw [if_pos hv]; rfl)) k
theorem x_dup2 {v w : Value} (hv : v.category = 1 ∧ w.category = 1) (h : am_A mi pc = some (.dup2)) (hn : pc + 1 = n) (k : sg X mi (n, l1, l2, v :: w :: v :: w :: st) M r) : sg X mi (pc, l1, l2, v :: w :: st) M r := by
  subst hn
  exact sg_nx ((ak_SA h).trans (by simp only [ak_x]; rw [if_pos hv]; rfl)) k
theorem x_null (h : am_A mi pc = some (.aconst_null)) (hn : pc + 1 = n) (k : sg X mi (n, l1, l2, .null :: st) M r) : sg X mi (pc, l1, l2, st) M r := by
  subst hn
  exact sg_nx ((ak_SA h).trans rfl) k
theorem x_nn {p : Nat} {off : Int} (h : am_A mi pc = some (.ifnonnull off)) (hn : (pc : Int) + off = (n : Int)) (k : sg X mi (n, l1, l2, st) M r) : sg X mi (pc, l1, l2, .ref p :: st) M r := by
  refine sg_nx ((ak_SA h).trans ?_) k
  simp only [ak_x]
  unfold ak_j
  rw [hn, if_pos (Int.natCast_nonneg _)]
  rfl
theorem x_cast {p idx : Nat} (h : am_A mi pc = some (.checkcast idx)) (hp : p < ak_P M ∧ ak_K M p = 101) (ho : am_O mi = 58 ∧ idx = 311) (hn : pc + 3 = n) (k : sg X mi (n, l1, l2, .ref p :: st) M r) : sg X mi (pc, l1, l2, .ref p :: st) M r := by
  subst hn
  exact sg_nx ((ak_SA h).trans (by simp only [ak_x]; rw [if_pos ⟨hp.1, hp.2, ho.1, ho.2⟩]; rfl)) k
theorem x_obi {p idx cal : Nat} {z : Nat × Nat × Nat × Nat} (h : am_A mi pc = some (.invokespecial idx)) (hL : am_L mi idx = some (cal, 5, z)) (ht : ak_cat st ≤ 8) (hn : pc + 3 = n) (k : sg X mi (n, l1, l2, st) M r) : sg X mi (pc, l1, l2, .ref p :: st) M r := by
  subst hn
  refine sg_nx ((ak_SA h).trans ?_) k
  simp only [ak_x]
  unfold ak_inv
  rw [hL]
  dsimp only
  rw [if_neg (by omega), if_neg (by omega), if_neg (by omega), if_neg (by omega), if_pos ⟨rfl, rfl⟩, if_pos ht]
  rfl
theorem x_ldcI {own idx : Nat} {v : Int32} (h : am_A mi pc = some (.ldc idx)) (hO : am_O mi = own) (hG : am_G own idx = none) (hU : am_U own idx = some v) (hn : pc + 2 = n) (k : sg X mi (n, l1, l2, .int v :: st) M r) : sg X mi (pc, l1, l2, st) M r := by
  subst hn
  refine sg_nx ((ak_SA h).trans ?_) k
  simp only [ak_x]
  rw [hO, hG]
  dsimp only
  rw [hU]
  rfl
theorem x_sta1 {own idx : Nat} {z : Nat × Nat} (h : am_A mi pc = some (.getstatic idx)) (hO : am_O mi = own) (hS : am_S own idx = some (3, z)) (hn : pc + 3 = n) (k : sg X mi (n, l1, l2, .int 1 :: st) M r) : sg X mi (pc, l1, l2, st) M r := by
  subst hn
  refine sg_nx ((ak_SA h).trans ?_) k
  simp only [ak_x]
  rw [hO, hS]
  rfl
theorem x_staD {own idx w : Nat} {z : Nat × Nat} (h : am_A mi pc = some (.getstatic idx)) (hO : am_O mi = own) (hS : am_S own idx = some (w, z)) (hw : 5 ≤ w) (hn : pc + 3 = n) (k : sg X mi (n, l1, l2, .ref (999999 + w) :: st) M r) : sg X mi (pc, l1, l2, st) M r := by
  subst hn
  refine sg_nx ((ak_SA h).trans ?_) k
  simp only [ak_x]
  rw [hO, hS]
  dsimp only
  rw [if_neg (by omega), if_neg (by omega), if_neg (by omega)]
  rfl
theorem x_gI {own idx ci f p : Nat} {z : Nat × Nat} (h : am_A mi pc = some (.getfield idx)) (hO : am_O mi = own) (hF : am_F own idx = some (ci, f, z)) (hp : p < ak_P M ∧ ak_K M p = ci) (hc : ci < 14 ∧ am_f ci f ≠ 2) (hn : pc + 3 = n) (k : sg X mi (n, l1, l2, .int (ak_I M p f) :: st) M r) : sg X mi (pc, l1, l2, .ref p :: st) M r := by
  subst hn
  refine sg_nx ((ak_SA h).trans ?_) k
  simp only [ak_x]
  rw [hO, hF]
  dsimp only
  rw [if_pos hp.1, if_pos ⟨hc.1, hp.2⟩, if_neg hc.2]
  rfl
theorem x_gR {own idx ci f p q : Nat} {z : Nat × Nat} (h : am_A mi pc = some (.getfield idx)) (hO : am_O mi = own) (hF : am_F own idx = some (ci, f, z)) (hp : p < ak_P M ∧ ak_K M p = ci) (hc : ci < 14 ∧ am_f ci f = 2) (hq : ak_R M p f = some q) (hn : pc + 3 = n) (k : sg X mi (n, l1, l2, .ref q :: st) M r) : sg X mi (pc, l1, l2, .ref p :: st) M r := by
  subst hn
  refine sg_nx ((ak_SA h).trans ?_) k
  simp only [ak_x]
  rw [hO, hF]
  dsimp only
  rw [if_pos hp.1, if_pos ⟨hc.1, hp.2⟩, if_pos hc.2, hq]
  rfl
theorem x_pI {own idx ci f p : Nat} {x : Int32} {z : Nat × Nat} (h : am_A mi pc = some (.putfield idx)) (hO : am_O mi = own) (hF : am_F own idx = some (ci, f, z)) (hp : p < ak_P M ∧ ak_K M p = ci) (hc : ci < 14 ∧ (am_f ci f = 0 ∨ (am_f ci f = 1 ∧ (x = 0 ∨ x = 1)) ∨ (am_f ci f = 3 ∧ ak_isB x = true))) (hn : pc + 3 = n) (hm : ak_sI M p f x = M1) (k : sg X mi (n, l1, l2, st) M1 r) : sg X mi (pc, l1, l2, .int x :: .ref p :: st) M r := by
  subst hn
  subst hm
  refine sg_nx ((ak_SA h).trans ?_) k
  simp only [ak_x]
  rw [hO, hF]
  dsimp only
  rw [if_pos ⟨hp.1, hp.2, hc.1⟩, if_pos hc.2]
  rfl
theorem x_pR {own idx ci f p q : Nat} {z : Nat × Nat} (h : am_A mi pc = some (.putfield idx)) (hO : am_O mi = own) (hF : am_F own idx = some (ci, f, z)) (hp : p < ak_P M ∧ ak_K M p = ci) (hc : ci < 14 ∧ am_f ci f = 2) (hq : q < ak_P M) (hn : pc + 3 = n) (hm : ak_sR M p f (some q) = M1) (k : sg X mi (n, l1, l2, st) M1 r) : sg X mi (pc, l1, l2, .ref q :: .ref p :: st) M r := by
  subst hn
  subst hm
  refine sg_nx ((ak_SA h).trans ?_) k
  simp only [ak_x]
  rw [hO, hF]
  dsimp only
  rw [if_pos ⟨hp.1, hp.2, hc.1⟩, if_pos ⟨hc.2, hq⟩]
  rfl
theorem x_al {p : Nat} (h : am_A mi pc = some .arraylength) (hp : p < ak_P M ∧ 100 ≤ ak_K M p) (hn : pc + 1 = n) (k : sg X mi (n, l1, l2, .int (Int32.ofNat (ak_N M p)) :: st) M r) : sg X mi (pc, l1, l2, .ref p :: st) M r := by
  subst hn
  refine sg_nx ((ak_SA h).trans ?_) k
  simp only [ak_x]
  rw [if_pos hp.1, if_pos hp.2]
  rfl
theorem x_ia {p i : Nat} {x : Int32} (h : am_A mi pc = some .iaload) (hp : p < ak_P M ∧ ak_K M p = 100) (hi : ab_ix x i (ak_N M p)) (hn : pc + 1 = n) (k : sg X mi (n, l1, l2, .int (ak_I M p i) :: st) M r) : sg X mi (pc, l1, l2, .int x :: .ref p :: st) M r := by
  subst hn
  refine sg_nx ((ak_SA h).trans ?_) k
  simp only [ak_x]
  rw [if_pos hp.1, if_pos ⟨hp.2, hi.1⟩, hi.2]
  rfl
theorem x_ba {p i : Nat} {x : Int32} (h : am_A mi pc = some .baload) (hp : p < ak_P M ∧ ak_K M p = 101) (hi : ab_ix x i (ak_N M p)) (hn : pc + 1 = n) (k : sg X mi (n, l1, l2, .int (ak_I M p i) :: st) M r) : sg X mi (pc, l1, l2, .int x :: .ref p :: st) M r := by
  subst hn
  refine sg_nx ((ak_SA h).trans ?_) k
  simp only [ak_x]
  rw [if_pos hp.1, if_pos ⟨hp.2, hi.1⟩, hi.2]
  rfl
theorem x_bd {w i : Nat} {x : Int32} (h : am_A mi pc = some .baload) (hw : w = 5 ∨ w = 6) (hP : ak_P M ≤ 800000) (hi : ab_ix x i 100) (hn : pc + 1 = n) (k : sg X mi (n, l1, l2, .int (ak_cI X (999999 + w) i) :: st) M r) : sg X mi (pc, l1, l2, .int x :: .ref (999999 + w) :: st) M r := by
  subst hn
  refine sg_nx ((ak_SA h).trans ?_) k
  simp only [ak_x]
  have h2 : ak_cN X (999999 + w) = 100 := by unfold ak_cN; rw [if_neg (by omega), if_neg (by omega), if_pos (by omega)]
  have h3 : ak_cK (999999 + w) = 101 := by unfold ak_cK; rw [if_neg (by omega), if_pos (by omega)]
  have h4 : ¬ (@LT.lt Nat _ (999999 + w) (ak_P M)) := by omega
  have h5 : @LE.le Nat _ 1000000 (999999 + w) := by omega
  rw [if_neg h4, if_pos ⟨h5, h3, by rw [h2]; exact hi.1⟩, hi.2]
  rfl
theorem x_is {p i : Nat} {x v : Int32} (h : am_A mi pc = some .iastore) (hp : p < ak_P M ∧ ak_K M p = 100) (hi : ab_ix x i (ak_N M p)) (hn : pc + 1 = n) (hm : ak_sI M p i v = M1) (k : sg X mi (n, l1, l2, st) M1 r) : sg X mi (pc, l1, l2, .int v :: .int x :: .ref p :: st) M r := by
  subst hn
  subst hm
  refine sg_nx ((ak_SA h).trans ?_) k
  simp only [ak_x]
  rw [if_pos ⟨hp.1, hp.2, hi.1⟩, hi.2]
  rfl
theorem x_bs {p i : Nat} {x v : Int32} (h : am_A mi pc = some .bastore) (hp : p < ak_P M ∧ ak_K M p = 101) (hi : ab_ix x i (ak_N M p)) (hn : pc + 1 = n) (hm : ak_sI M p i (vp_nar .byte v) = M1) (k : sg X mi (n, l1, l2, st) M1 r) : sg X mi (pc, l1, l2, .int v :: .int x :: .ref p :: st) M r := by
  subst hn
  subst hm
  refine sg_nx ((ak_SA h).trans ?_) k
  simp only [ak_x]
  rw [if_pos ⟨hp.1, hi.1⟩, if_pos hp.2, hi.2]
  rfl
theorem x_nO {own idx ci : Nat} {z : Nat × Nat × Nat} (h : am_A mi pc = some (.new idx)) (hO : am_O mi = own) (hW : am_W own idx = some (ci, z)) (hp : ak_P M < 900000) (hn : pc + 3 = n) (hm : ak_new M ci 0 (am_nf ci) = M1) (k : sg X mi (n, l1, l2, .ref (ak_P M) :: st) M1 r) : sg X mi (pc, l1, l2, st) M r := by
  subst hn
  subst hm
  refine sg_nx ((ak_SA h).trans ?_) k
  simp only [ak_x]
  rw [hO, hW]
  dsimp only
  rw [if_pos hp]
  rfl
theorem x_nB {x : Int32} (h : am_A mi pc = some (.newarray .byte)) (hp : ak_P M < 900000 ∧ ¬ x < 0 ∧ x.toNatClampNeg ≤ 60000000) (hn : pc + 2 = n) (hm : ak_new M 101 x.toNatClampNeg x.toNatClampNeg = M1) (k : sg X mi (n, l1, l2, .ref (ak_P M) :: st) M1 r) : sg X mi (pc, l1, l2, .int x :: st) M r := by
  subst hn
  subst hm
  refine sg_nx ((ak_SA h).trans ?_) k
  simp only [ak_x]
  rw [if_pos hp]
  rfl
theorem x_nI {x : Int32} (h : am_A mi pc = some (.newarray .int)) (hp : ak_P M < 900000 ∧ ¬ x < 0 ∧ x.toNatClampNeg ≤ 60000000) (hn : pc + 2 = n) (hm : ak_new M 100 x.toNatClampNeg x.toNatClampNeg = M1) (k : sg X mi (n, l1, l2, .ref (ak_P M) :: st) M1 r) : sg X mi (pc, l1, l2, .int x :: st) M r := by
  subst hn
  subst hm
  refine sg_nx ((ak_SA h).trans ?_) k
  simp only [ak_x]
  rw [if_pos hp]
  rfl
/-- what a call site of StringBuilder's says -/
def x_cs (mi idx kd cal na nl : Nat) : Bool := match am_L mi idx with
  | some (c, kind, _) => c == cal && kind == kd && am_N cal == na && Nat.blt (am_K cal) (am_K mi) && Nat.ble (am_Q cal + am_X cal + 19) (am_Q mi) && Nat.ble nl (am_X cal)
  | none => false
theorem x_cs_of {idx kd cal na nl : Nat} (h : x_cs mi idx kd cal na nl = true) : ∃ (z : Nat × Nat × Nat × Nat), am_L mi idx = some (cal, kd, z) ∧ am_N cal = na ∧ (am_K cal < am_K mi ∧ am_Q cal + am_X cal + 19 ≤ am_Q mi) ∧ nl ≤ am_X cal := by
  unfold x_cs at h
  cases hL : am_L mi idx with
  | none => rw [hL] at h; cases h
  | some q =>
    obtain ⟨c, kind, z⟩ := q
    rw [hL] at h
    simp only [Bool.and_eq_true, beq_iff_eq] at h
    obtain ⟨⟨⟨⟨⟨rfl, rfl⟩, h3⟩, h4⟩, h6⟩, h5⟩ := h
    exact ⟨z, rfl, h3, ⟨Nat.le_of_ble_eq_true h4, Nat.le_of_ble_eq_true h6⟩, Nat.le_of_ble_eq_true h5⟩
theorem x_cU {idx kd cal na nl p : Nat} {as rest : List Value} {v : Option Value} {M2 : ak_M} (hr : ak_rc M p = 12) (hk : kd = 6 ∨ kd = 8) (h : am_A mi pc = some (.invokevirtual idx)) (hc : x_cs mi idx kd cal na nl = true) (hs : st = as.reverse ++ .ref p :: rest) (hl : as.length = na) (he : (ak_e1 (.ref p :: as)).length = nl) (ht : ak_cat rest ≤ 8) (hn : pc + 3 = n)
    (h1 : rn X cal (.ref p :: as) M (.inl v, M2)) (k : sg X mi (n, l1, l2, v.toList ++ rest) M2 r) : sg X mi (pc, l1, l2, st) M r := by
  subst hn
  refine sg_cl (g := (pc + 3, l1, l2, rest)) ((ak_SA h).trans ?_) h1 k
  obtain ⟨z, g1, g3, g4, g5⟩ := x_cs_of hc
  subst hs
  have e1 : (as.reverse ++ .ref p :: rest).take (am_N cal) = as.reverse := by rw [g3, ← hl, ← List.length_reverse, List.take_left]
  have e2 : (as.reverse ++ .ref p :: rest).drop (am_N cal) = .ref p :: rest := by rw [g3, ← hl, ← List.length_reverse, List.drop_left]
  simp only [ak_x]
  unfold ak_inv
  rw [g1]
  dsimp only
  rw [if_pos ⟨rfl, Or.inr hk⟩, e2]
  dsimp only
  rw [if_pos ⟨by rw [if_neg (by omega)]; exact hr, by rw [g3, ← hl, List.length_append, List.length_reverse]; omega⟩, e1, List.reverse_reverse]
  unfold ak_call
  rw [if_pos ⟨ht, g4.1, g4.2, by omega⟩]
theorem x_cS {idx cal na nl p : Nat} {as rest : List Value} {v : Option Value} {M2 : ak_M} (hr : ak_rc M p = 12) (h : am_A mi pc = some (.invokespecial idx)) (hc : x_cs mi idx 7 cal na nl = true) (hs : st = as.reverse ++ .ref p :: rest) (hl : as.length = na) (he : (ak_e1 (.ref p :: as)).length = nl) (ht : ak_cat rest ≤ 8) (hn : pc + 3 = n)
    (h1 : rn X cal (.ref p :: as) M (.inl v, M2)) (k : sg X mi (n, l1, l2, v.toList ++ rest) M2 r) : sg X mi (pc, l1, l2, st) M r := by
  subst hn
  refine sg_cl (g := (pc + 3, l1, l2, rest)) ((ak_SA h).trans ?_) h1 k
  obtain ⟨z, g1, g3, g4, g5⟩ := x_cs_of hc
  subst hs
  have e1 : (as.reverse ++ .ref p :: rest).take (am_N cal) = as.reverse := by rw [g3, ← hl, ← List.length_reverse, List.take_left]
  have e2 : (as.reverse ++ .ref p :: rest).drop (am_N cal) = .ref p :: rest := by rw [g3, ← hl, ← List.length_reverse, List.drop_left]
  simp only [ak_x]
  unfold ak_inv
  rw [g1]
  dsimp only
  rw [if_neg (by omega), if_neg (by omega), if_neg (by omega), if_pos ⟨rfl, rfl⟩, e2]
  dsimp only
  rw [if_pos ⟨hr, by rw [g3, ← hl, List.length_append, List.length_reverse]; omega⟩, e1, List.reverse_reverse]
  unfold ak_call
  rw [if_pos ⟨ht, g4.1, g4.2, by omega⟩]
theorem x_acp {idx cal a b : Nat} {z : Nat × Nat × Nat × Nat} {x dp sp : Int32} (h : am_A mi pc = some (.invokestatic idx)) (hL : am_L mi idx = some (cal, 9, z)) (ht : ak_cat st ≤ 8)
    (hc : a < ak_P M ∧ ak_K M a = 101 ∧ ak_isb M b = true ∧ ¬ sp < 0 ∧ ¬ dp < 0 ∧ ¬ x < 0 ∧ sp.toNatClampNeg + x.toNatClampNeg ≤ ak_bn X M b ∧ dp.toNatClampNeg + x.toNatClampNeg ≤ ak_N M a ∧ (List.range x.toNatClampNeg).all (fun i => ak_isB (ak_by X M b (sp.toNatClampNeg + i))) = true)
    (hn : pc + 3 = n) (hm : ak_cpy M (ak_by X M b) a sp.toNatClampNeg dp.toNatClampNeg x.toNatClampNeg = M1) (k : sg X mi (n, l1, l2, st) M1 r) : sg X mi (pc, l1, l2, .int x :: .int dp :: .ref a :: .int sp :: .ref b :: st) M r := by
  subst hn
  subst hm
  refine sg_nx ((ak_SA h).trans ?_) k
  simp only [ak_x]
  unfold ak_inv
  rw [hL]
  dsimp only
  rw [if_neg (by omega), if_neg (by omega), if_neg (by omega), if_neg (by omega), if_neg (by omega), if_pos ⟨rfl, rfl⟩, if_pos ⟨ht, hc⟩]
  rfl
theorem x_cl {idx cal a : Nat} {z : Nat × Nat × Nat × Nat} (h : am_A mi pc = some (.invokevirtual idx)) (hL : am_L mi idx = some (cal, 10, z)) (ht : ak_cat st ≤ 8)
    (hc : a < ak_P M ∧ ak_K M a = 101 ∧ ak_P M < 900000 ∧ (List.range (ak_N M a)).all (fun i => ak_isB (ak_I M a i)) = true)
    (hn : pc + 3 = n) (hm : ak_cln M (ak_I M a) (ak_N M a) = M1) (k : sg X mi (n, l1, l2, .ref (ak_P M) :: st) M1 r) : sg X mi (pc, l1, l2, .ref a :: st) M r := by
  subst hn
  subst hm
  refine sg_nx ((ak_SA h).trans ?_) k
  simp only [ak_x]
  unfold ak_inv
  rw [hL]
  dsimp only
  rw [if_neg (by omega), if_neg (by omega), if_neg (by omega), if_neg (by omega), if_neg (by omega), if_neg (by omega), if_pos ⟨rfl, rfl⟩, if_pos ⟨ht, hc⟩]
  rfl
theorem x_areturn {x : Nat} (h : am_A mi pc = some .areturn) (hx : ak_isR (am_R mi) = true) : sg X mi (pc, l1, l2, [.ref x]) M (.inl (some (.ref x)), M) := w_areturn h hx
end SGD
