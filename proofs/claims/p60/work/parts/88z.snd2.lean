/-! the class is sound, as the law asks -/
def Wz (Z A : ak_O × ak_M → Prop) : Prop := ∃ r, Z r ∧ A r
def LB (σ : Nat → Int32) (ρ : Nat → Nat → Int32) (hn nk nw : Nat) (M0 : ak_M) (i : Nat) (M : ak_M) : Prop := LQ σ ρ hn nk nw M ∧ fq i M0 M
def SoH (σ : Nat → Int32) (nk : Nat) (x1 : Int32) : Prop := (∀ a, a < nk → mo_fly σ a = true → kf σ a 3 ≠ 0) ∧ mo_sm σ 11 nk = σ 10 + 2 * mo_ins σ 4 nk ∧ (x1 ≠ 0 → ∀ a, a < nk → mo_fly σ a = true → 0 ≤ mo_slack σ a)
section SND2
variable {X : ak_X} {M M' M0 : ak_M} {σ : Nat → Int32} {ρ : Nat → Nat → Int32} {hn nk nw i j k a b : Nat} {v w : Int32} {as : List Value}
theorem w_t {Z A A' : ak_O × ak_M → Prop} (h : ∀ r, A r → A' r) : Wz Z A → Wz Z A' := fun ⟨r, z, g⟩ => ⟨r, z, h r g⟩
theorem w_y {Z A A' : ak_O × ak_M → Prop} {c : Prop} [Decidable c] (hc : c) (h : Wz Z A) : Wz Z fun r => if c then A r else A' r := w_t (fun _ g => mb_y hc g) h
theorem w_n {Z A A' : ak_O × ak_M → Prop} {c : Prop} [Decidable c] (hc : ¬ c) (h : Wz Z A') : Wz Z fun r => if c then A r else A' r := w_t (fun _ g => mb_n hc g) h
theorem LB.mo (B : LB σ ρ hn nk nw M0 i M) (h : i ≤ j) : LB σ ρ hn nk nw M0 j M := ⟨B.1, B.2.mo h⟩
theorem qv (h : ∃ M', rn X k as M (.inl (some (.int v)), M') ∧ LQ σ ρ hn nk nw M' ∧ fq 1 M M') (e : v = w) : ∃ M', rn X k as M (.inl (some (.int w)), M') ∧ LQ σ ρ hn nk nw M' ∧ fq 1 M M' := e ▸ h
theorem lq1 {Z : ak_O × ak_M → Prop} {P : Int32 → ak_M → ak_O × ak_M → Prop} (B : LB σ ρ hn nk nw M0 i M) (q : ∃ M', rn X k as M (.inl (some (.int v)), M') ∧ LQ σ ρ hn nk nw M' ∧ fq 1 M M') (g : ∀ M', LB σ ρ hn nk nw M0 (i + 1) M' → Wz Z (P v M')) : Wz Z fun r => ∃ (v2 : Int32) (M1 : ak_M), ab_lay M1 ∧ rn X k as M (.inl (some (.int v2)), M1) ∧ P v2 M1 r := by
  obtain ⟨M', r1, Q, f⟩ := q
  exact w_t (fun r h => ⟨v, M', Q.1, r1, h⟩) (g M' ⟨Q, B.2.tr f⟩)
theorem lq2 {Z : ak_O × ak_M → Prop} {P : Int32 → ak_M → ak_O × ak_M → Prop} {R : ak_O × ak_M → Prop} (B : LB σ ρ hn nk nw M0 i M) (q : ∃ M', rn X k as M (.inl (some (.int v)), M') ∧ LQ σ ρ hn nk nw M' ∧ fq 1 M M') (g : ∀ M', LB σ ρ hn nk nw M0 (i + 1) M' → Wz Z (P v M')) : Wz Z fun r => (∃ (v2 : Int32) (M1 : ak_M), ab_lay M1 ∧ rn X k as M (.inl (some (.int v2)), M1) ∧ P v2 M1 r) ∨ R r := w_t (fun _ h => Or.inl h) (lq1 B q g)
theorem labs {Z : ak_O × ak_M → Prop} {P : Int32 → ak_M → ak_O × ak_M → Prop} {x : Int32} (hL : ab_lay M) (g : Wz Z (P (ab32 x) M)) : Wz Z fun r => ∃ (v2 : Int32) (M1 : ak_M), ab_lay M1 ∧ rn X 314 [.int x] M (.inl (some (.int v2)), M1) ∧ P v2 M1 r := w_t (fun r h => ⟨_, M, hL, jm_abs hL, h⟩) g
theorem s92_0 (h : Int32) : sp_92 σ nk h 0 = σ 1 := by unfold sp_92; rw [if_neg (by decide), if_pos rfl]
theorem s92_2 (h : Int32) : sp_92 σ nk h 2 = σ 0 := by unfold sp_92; rw [if_neg (by decide), if_neg (by decide), if_neg (by decide), if_pos rfl]
theorem s92_8 (h : Int32) : sp_92 σ nk h 8 = σ 9 := by unfold sp_92; rw [if_neg (by decide), if_neg (by decide), if_neg (by decide), if_neg (by decide), if_pos rfl]
theorem s92_9 (h : Int32) : sp_92 σ nk h 9 = σ 10 := by unfold sp_92; rw [if_neg (by decide), if_neg (by decide), if_neg (by decide), if_neg (by decide), if_neg (by decide), if_pos rfl]
theorem s92_10 (h : Int32) : sp_92 σ nk h 10 = mo_prs σ false nk := by unfold sp_92; rw [if_neg (by decide), if_neg (by decide), if_neg (by decide), if_neg (by decide), if_neg (by decide), if_neg (by decide), if_pos rfl]
theorem s92_11 (h : Int32) : sp_92 σ nk h 11 = mo_prs σ true nk := by unfold sp_92; rw [if_neg (by decide), if_neg (by decide), if_neg (by decide), if_neg (by decide), if_neg (by decide), if_neg (by decide), if_neg (by decide), if_pos rfl]
theorem s92_12 (h : Int32) : sp_92 σ nk h 12 = h := by unfold sp_92; rw [if_neg (by decide), if_neg (by decide), if_neg (by decide), if_neg (by decide), if_neg (by decide), if_neg (by decide), if_neg (by decide), if_neg (by decide), if_pos rfl]
theorem s92_i {x s : Int32} (h : Int32) (hx : in32 x 3 7 = true) (e : x - 3 = s) : sp_92 σ nk h x = nI (nIn σ s nk) := by unfold sp_92; rw [if_pos hx, e, ins_N]
theorem s93_4 : sp_93 σ 4 = σ 7 := by unfold sp_93; rw [if_pos (by decide)]; rfl
theorem pr_step (σ : Nat → Int32) (r : Bool) (a b : Nat) : mo_pra σ r a (b + 1 - 1 - a) = if a < b then (if mo_pc σ r a b = true then mo_pra σ r a (b - 1 - a) + 1 else mo_pra σ r a (b - 1 - a)) else mo_pra σ r a (b - 1 - a) := by
  by_cases h : a < b
  · rw [if_pos h, show b + 1 - 1 - a = (b - 1 - a) + 1 by omega, mo_pra_s, show a + 1 + (b - 1 - a) = b by omega]
  · rw [if_neg h, show b + 1 - 1 - a = 0 by omega, show b - 1 - a = 0 by omega]
theorem oI_neg (σ : Nat → Int32) (hn : nk ≤ 10) (o : Option Nat) (h : ∀ b, o = some b → b < nk) : oI o < 0 ↔ o = none := by
  cases o with
  | none => exact ⟨fun _ => rfl, fun _ => by show (-1 : Int32) < 0; decide⟩
  | some b =>
    have := h b rfl
    refine ⟨fun e => ?_, fun e => by cases e⟩
    exact absurd e (Int32.not_lt.mpr (j3_nn.mpr (by show 0 ≤ (nI b).toInt; rw [mi_t (by omega)]; omega)))
theorem oI_m1 (hn : nk ≤ 10) (o : Option Nat) (h : ∀ b, o = some b → b < nk) : oI o = -1 ↔ o = none := by
  cases o with
  | none => exact ⟨fun _ => rfl, fun _ => rfl⟩
  | some b =>
    have := h b rfl
    refine ⟨fun e => ?_, fun e => by cases e⟩
    have e2 : (nI b).toInt = -1 := by
      show (oI (some b)).toInt = -1
      rw [e]; rfl
    rw [mi_t (by omega)] at e2
    omega
theorem nI_nn {n : Nat} (h : n < 2147483648) : ¬ nI n < 0 := Int32.not_lt.mpr (j3_nn.mpr (by rw [mi_t h]; omega))
theorem LQ.vs (Q : LQ σ ρ hn nk nw M) : ∃ ne, vs σ nk nw ne := by
  obtain ⟨-, ne, -, -, -, hv, -⟩ := Q
  exact ⟨ne, hv⟩
theorem d_327 {Z : ak_O × ak_M → Prop} (B : LB σ ρ hn nk nw M0 i M) (hnk : nk ≤ 9) (ha : a < nk) (hb : b < nk) (x1 y3 y4 y5 y7 : Int32) (g : ∀ M, LB σ ρ hn nk nw M0 (i + 2) M → Wz Z (sg X 362 (56, [some (.ref 0), some (.int x1), some (.int (nI nk)), some (.int (y3 + if mo_cross σ a b = true ∧ a < b then 1 else 0)), some (.int (y4 + if mo_rub σ a b = true ∧ a < b then 1 else 0)), some (.int y5), some (.int (nI a)), some (.int (y7 + if mo_rub σ a b = true then mo_brings σ b else 0)), some (.int (nI b + 1)), some (.int (bI (mo_cross σ a b))), some (.int (bI (mo_rub σ a b)))], [], []) M)) : Wz Z (sg X 362 (327, [some (.ref 0), some (.int x1), some (.int (nI nk)), some (.int y3), some (.int y4), some (.int y5), some (.int (nI a)), some (.int y7), some (.int (nI b)), some (.int (bI (mo_cross σ a b))), some (.int (bI (mo_rub σ a b)))], [], []) M) := by
  obtain ⟨ne, hv⟩ := B.1.vs
  have hab : nI b ≤ nI a ↔ b ≤ a := mi_le (by omega) (by omega)
  refine w_t (fun r h => t_362_327 B.1.1 _ _ _ _ _ _ _ _ _ _ h) ?_
  cases ec : mo_cross σ a b with
  | false =>
    have er : mo_rub σ a b = false := by
      cases e : mo_rub σ a b with
      | false => rfl
      | true => rw [s_rc e] at ec; cases ec
    rw [ec, er] at g
    rw [er]
    refine w_y (rfl) ?_
    refine w_y (rfl) ?_
    refine w_y (rfl) ?_
    have g' := g M (B.mo (by omega))
    simp only [Bool.false_eq_true, false_and, if_false] at g'
    exact g'
  | true =>
    rw [ec] at g
    cases er : mo_rub σ a b with
    | false =>
      rw [er] at g
      refine w_n (by decide) ?_
      have g' := g M (B.mo (by omega))
      by_cases h : b ≤ a
      · refine w_y (hab.mpr h) ?_
        refine w_y rfl ?_
        refine w_y rfl ?_
        rw [if_neg (show ¬ ((true = true) ∧ a < b) by omega), if_neg (show ¬ ((false = true) ∧ a < b) from fun e => by cases e.1), if_neg (show ¬ (false = true) by decide)] at g'
        exact g'
      · refine w_n (fun e => h (hab.mp e)) ?_
        refine w_y rfl ?_
        refine w_y rfl ?_
        rw [if_pos (show ((true = true) ∧ a < b) from ⟨rfl, by omega⟩), if_neg (show ¬ ((false = true) ∧ a < b) from fun e => by cases e.1), if_neg (show ¬ (false = true) by decide)] at g'
        exact g'
    | true =>
      rw [er] at g
      refine w_n (by decide) ?_
      by_cases h : b ≤ a
      · refine w_y (hab.mpr h) ?_
        refine w_n (by decide) ?_
        refine w_y (hab.mpr h) ?_
        refine w_n (by decide) ?_
        refine lq2 B (q_95 B.1 hb 8 (by decide)) fun M B => ?_
        refine lq2 B (q_95 B.1 hb 7 (by decide)) fun M B => ?_
        refine labs B.1.1 ?_
        have g' := g M B
        rw [if_neg (show ¬ ((true = true) ∧ a < b) by omega), if_pos (show true = true from rfl)] at g'
        exact g'
      · refine w_n (fun e => h (hab.mp e)) ?_
        refine w_n (by decide) ?_
        refine w_n (fun e => h (hab.mp e)) ?_
        refine w_n (by decide) ?_
        refine lq2 B (q_95 B.1 hb 8 (by decide)) fun M B => ?_
        refine lq2 B (q_95 B.1 hb 7 (by decide)) fun M B => ?_
        refine labs B.1.1 ?_
        have g' := g M B
        rw [if_pos (show ((true = true) ∧ a < b) from ⟨rfl, by omega⟩), if_pos (show true = true from rfl)] at g'
        exact g'
theorem v101 (h : mo_cross σ a b = true) : sp_101v σ a b 0 = mo_cX σ a b ∧ sp_101v σ a b 2 = mo_high σ a b ∧ sp_101v σ a b 3 = mo_high σ b a ∧ sp_101v σ a b 4 = mo_apart σ a b := by
  unfold sp_101v
  rw [if_pos h, if_pos h, if_pos h, if_pos h]
  exact ⟨rfl, rfl, rfl, rfl⟩
theorem v101n (h : mo_cross σ a b = false) (w : Int32) : sp_101v σ a b w = -1 := by
  unfold sp_101v
  rw [h]; rfl
theorem d_174 {Z : ak_O × ak_M → Prop} (B : LB σ ρ hn nk nw M0 i M) (hnk : nk ≤ 9) (ha : a < nk) (hb : b < nk) (x1 y3 y4 y5 y7 : Int32) (g : ∀ M, LB σ ρ hn nk nw M0 (i + 16) M → Wz Z (sg X 362 (56, [some (.ref 0), some (.int x1), some (.int (nI nk)), some (.int (y3 + if mo_cross σ a b = true ∧ a < b then 1 else 0)), some (.int (y4 + if mo_rub σ a b = true ∧ a < b then 1 else 0)), some (.int y5), some (.int (nI a)), some (.int (y7 + if mo_rub σ a b = true then mo_brings σ b else 0)), some (.int (nI b + 1)), some (.int (bI (mo_cross σ a b))), some (.int (bI (mo_rub σ a b)))], [], []) M)) : Wz Z (sg X 362 (174, [some (.ref 0), some (.int x1), some (.int (nI nk)), some (.int y3), some (.int y4), some (.int y5), some (.int (nI a)), some (.int y7), some (.int (nI b)), some (.int (bI (mo_cross σ a b))), some (.int (bI (mo_rub σ a b)))], [], []) M) := by
  obtain ⟨ne, hv⟩ := B.1.vs
  have G := fun M i' (B : LB σ ρ hn nk nw M0 i' M) (hi : i' + 2 ≤ i + 16) => d_327 (Z := Z) (X := X) B hnk ha hb x1 y3 y4 y5 y7 fun M B => g M (B.mo hi)
  refine w_t (fun r h => t_362_174 B.1.1 _ _ _ _ _ _ _ _ _ _ h) ?_
  cases ec : mo_cross σ a b with
  | false =>
    rw [ec] at G
    refine lq2 B (qv (q_101 B.1 ha hb 4 (by decide)) (v101n ec 4)) fun M B => ?_
    refine w_y (by decide) ?_
    refine w_y (rfl) ?_
    refine lq2 B (q_109 B.1 ha hb) fun M B => ?_
    refine lq2 B (qv (q_109 B.1 hb ha) (s_gap σ a b)) fun M B => ?_
    refine w_y (rfl) ?_
    refine w_y (rfl) ?_
    exact G M _ B (by omega)
  | true =>
    rw [ec] at G
    have ec' : mo_cross σ b a = true := (cross_s (hv.kp ha) (hv.kp hb)).trans ec
    have V := v101 ec
    have V' := v101 ec'

    refine lq2 B (qv (q_101 B.1 ha hb 4 (by decide)) V.2.2.2) fun M B => ?_
    refine w_n (Int32.not_lt.mpr (s_ap0 σ a b)) ?_
    refine w_y (rfl) ?_
    refine lq2 B (q_109 B.1 ha hb) fun M B => ?_
    refine lq2 B (qv (q_109 B.1 hb ha) (s_gap σ a b)) fun M B => ?_
    refine w_y (rfl) ?_
    refine w_n (by decide) ?_
    refine lq2 B (qv (q_101 B.1 ha hb 4 (by decide)) V.2.2.2) fun M B => ?_
    refine lq2 B (qv (q_101 B.1 ha hb 2 (by decide)) V.2.1) fun M B => ?_
    refine lq2 B (qv (q_101 B.1 ha hb 3 (by decide)) V.2.2.1) fun M B => ?_
    refine labs B.1.1 ?_
    refine w_y (rfl) ?_
    refine lq2 B (qv (q_101 B.1 ha hb 4 (by decide)) V.2.2.2) fun M B => ?_
    refine lq1 B (qv (q_93 B.1 4) s93_4) fun M B => ?_
    cases er : mo_rub σ a b with
    | false =>
      rw [er] at G
      have h7 : σ 7 < mo_apart σ a b := by
        unfold mo_rub at er
        rw [ec, Bool.true_and] at er
        exact Int32.not_le.mp (of_decide_eq_false er)
      refine w_y (h7) ?_
      refine w_y (rfl) ?_
      refine lq2 B (qv (q_101 B.1 ha hb 0 (by decide)) V.1) fun M B => ?_
      refine lq2 B (qv (q_101 B.1 hb ha 0 (by decide)) (V'.1.trans (s_cX σ a b))) fun M B => ?_
      refine w_y (rfl) ?_
      refine lq2 B (qv (q_101 B.1 ha hb 2 (by decide)) V.2.1) fun M B => ?_
      refine lq2 B (qv (q_101 B.1 hb ha 3 (by decide)) V'.2.2.1) fun M B => ?_
      refine w_y (rfl) ?_
      exact G M _ B (by omega)
    | true =>
      rw [er] at G
      have h7 : ¬ σ 7 < mo_apart σ a b := by
        unfold mo_rub at er
        rw [ec, Bool.true_and] at er
        exact Int32.not_lt.mpr (of_decide_eq_true er)
      refine w_n (h7) ?_
      refine w_y (rfl) ?_
      refine lq2 B (qv (q_101 B.1 ha hb 0 (by decide)) V.1) fun M B => ?_
      refine lq2 B (qv (q_101 B.1 hb ha 0 (by decide)) (V'.1.trans (s_cX σ a b))) fun M B => ?_
      refine w_y (rfl) ?_
      refine lq2 B (qv (q_101 B.1 ha hb 2 (by decide)) V.2.1) fun M B => ?_
      refine lq2 B (qv (q_101 B.1 hb ha 3 (by decide)) V'.2.2.1) fun M B => ?_
      refine w_y (rfl) ?_
      exact G M _ B (by omega)
theorem d_117 {Z : ak_O × ak_M → Prop} (B : LB σ ρ hn nk nw M0 i M) (hnk : nk ≤ 9) (ha : a < nk) (hb : b < nk) (x1 y3 y4 y5 y7 : Int32) (g : ∀ M, LB σ ρ hn nk nw M0 (i + 20) M → Wz Z (sg X 362 (56, [some (.ref 0), some (.int x1), some (.int (nI nk)), some (.int (y3 + if mo_cross σ a b = true ∧ a < b then 1 else 0)), some (.int (y4 + if mo_rub σ a b = true ∧ a < b then 1 else 0)), some (.int y5), some (.int (nI a)), some (.int (y7 + if mo_rub σ a b = true then mo_brings σ b else 0)), some (.int (nI b + 1)), some (.int (bI (mo_cross σ a b))), some (.int (bI (mo_rub σ a b)))], [], []) M)) : Wz Z (sg X 362 (117, [some (.ref 0), some (.int x1), some (.int (nI nk)), some (.int y3), some (.int y4), some (.int y5), some (.int (nI a)), some (.int y7), some (.int (nI b)), some (.int (bI (mo_cross σ a b))), some (.int (bI (mo_rub σ a b)))], [], []) M) := by
  obtain ⟨ne, hv⟩ := B.1.vs
  have G := fun M i' (B : LB σ ρ hn nk nw M0 i' M) (hi : i' + 16 ≤ i + 20) => d_174 (Z := Z) (X := X) B hnk ha hb x1 y3 y4 y5 y7 fun M B => g M (B.mo hi)
  have eg := rs_get (σ := σ) (a := b) (b := a) (by omega) ha
  rw [s_rub (hv.kp ha) (hv.kp hb)] at eg
  refine w_t (fun r h => t_362_117 B.1.1 _ _ _ _ _ _ _ _ _ _ h) ?_
  refine lq2 B (q_102 B.1 hb) fun M B => ?_
  cases er : mo_rub σ a b with
  | false =>
    rw [er] at G eg
    refine w_n (by rw [eg]; decide) ?_
    refine w_y rfl ?_
    cases ec : mo_cross σ a b with
    | false =>
      rw [ec] at G
      refine w_y rfl ?_
      exact G M _ B (by omega)
    | true =>
      rw [ec] at G
      refine w_n (by decide) ?_
      have F := s_fly ec
      refine w_n (fun e => ?_) ?_
      · have e' : a = b := (mi_eq (by omega) (by omega)).mp e
        subst e'
        rw [s_self (hv.kp ha)] at ec
        cases ec
      refine lq2 B (q_95 B.1 ha 0 (by decide)) fun M B => ?_
      refine w_y F.1 ?_
      refine lq2 B (q_95 B.1 hb 0 (by decide)) fun M B => ?_
      refine w_y F.2 ?_
      exact G M _ B (by omega)
  | true =>
    have ec := s_rc er
    have F := s_fly ec
    rw [er] at G eg
    rw [ec] at G ⊢
    refine w_y (by rw [eg]; rfl) ?_
    refine w_y rfl ?_
    refine w_n (by decide) ?_
    refine w_n (fun e => ?_) ?_
    · have e' : a = b := (mi_eq (by omega) (by omega)).mp e
      subst e'
      rw [s_self (hv.kp ha)] at ec
      cases ec
    refine lq2 B (q_95 B.1 ha 0 (by decide)) fun M B => ?_
    refine w_y F.1 ?_
    refine lq2 B (q_95 B.1 hb 0 (by decide)) fun M B => ?_
    refine w_y F.2 ?_
    exact G M _ B (by omega)
theorem d_56 {Z : ak_O × ak_M → Prop} (B : LB σ ρ hn nk nw M0 i M) (hnk : nk ≤ 9) (ha : a < nk) (hb : b < nk) (x1 y3 y4 y5 y7 : Int32) (o9 o10 : Option Value) (g : ∀ M, LB σ ρ hn nk nw M0 (i + 25) M → Wz Z (sg X 362 (56, [some (.ref 0), some (.int x1), some (.int (nI nk)), some (.int (y3 + if mo_cross σ a b = true ∧ a < b then 1 else 0)), some (.int (y4 + if mo_rub σ a b = true ∧ a < b then 1 else 0)), some (.int y5), some (.int (nI a)), some (.int (y7 + if mo_rub σ a b = true then mo_brings σ b else 0)), some (.int (nI b + 1)), some (.int (bI (mo_cross σ a b))), some (.int (bI (mo_rub σ a b)))], [], []) M)) : Wz Z (sg X 362 (56, [some (.ref 0), some (.int x1), some (.int (nI nk)), some (.int y3), some (.int y4), some (.int y5), some (.int (nI a)), some (.int y7), some (.int (nI b)), o9, o10], [], []) M) := by
  obtain ⟨ne, hv⟩ := B.1.vs
  have G := fun M i' (B : LB σ ρ hn nk nw M0 i' M) (hi : i' + 20 ≤ i + 25) => d_117 (Z := Z) (X := X) B hnk ha hb x1 y3 y4 y5 y7 fun M B => g M (B.mo hi)
  have eg := rs_get (σ := σ) (a := a) (b := b) (by omega) hb
  have ecs := cross_s (hv.kp ha) (hv.kp hb)
  refine w_t (fun r h => t_362_56 B.1.1 _ _ _ _ _ _ _ _ _ _ h) ?_
  refine w_n (fun e => by have := (mi_le (by omega) (by omega)).mp e; omega) ?_
  refine lq2 B (q_100 B.1 ha hb) fun M B => ?_
  refine lq2 B (q_102 B.1 ha) fun M B => ?_
  cases er : mo_rub σ a b with
  | true =>
    rw [er] at G eg
    have ec := s_rc er
    rw [ec] at G ecs ⊢
    refine w_y (by rw [eg]; rfl) ?_
    refine lq2 B (qv (q_100 B.1 hb ha) (congrArg bI ecs)) fun M B => ?_
    refine w_y rfl ?_
    refine w_n (by decide) ?_
    exact G M _ B (by omega)
  | false =>
    rw [er] at G eg
    refine w_n (by rw [eg]; decide) ?_
    refine lq2 B (qv (q_100 B.1 hb ha) (congrArg bI ecs)) fun M B => ?_
    refine w_y rfl ?_
    exact G M _ B (by omega)
theorem d_581 {Z : ak_O × ak_M → Prop} (B : LB σ ρ hn nk nw M0 i M) (x1 y3 y4 y5 y7 : Int32) (o8 o9 o10 : Option Value) (g : Wz Z (sg X 362 (44, [some (.ref 0), some (.int x1), some (.int (nI nk)), some (.int y3), some (.int y4), some (.int y5), some (.int (nI a + 1)), some (.int y7), o8, o9, o10], [], []) M)) : Wz Z (sg X 362 (581, [some (.ref 0), some (.int x1), some (.int (nI nk)), some (.int y3), some (.int y4), some (.int y5), some (.int (nI a)), some (.int y7), o8, o9, o10], [], []) M) := by
  refine w_t (fun r h => t_362_581 B.1.1 _ _ _ _ _ _ _ _ _ _ h) ?_
  exact g
theorem d_522 {Z : ak_O × ak_M → Prop} (B : LB σ ρ hn nk nw M0 i M) (hnk : nk ≤ 9) (ha : a < nk) (x1 : Int32) (hS : SoH σ nk x1) (y3 y4 y5 y7 : Int32) (o8 o9 o10 : Option Value) (g : ∀ M, LB σ ρ hn nk nw M0 (i + 5) M → Wz Z (sg X 362 (44, [some (.ref 0), some (.int x1), some (.int (nI nk)), some (.int y3), some (.int y4), some (.int y5), some (.int (nI a + 1)), some (.int y7), o8, o9, o10], [], []) M)) : Wz Z (sg X 362 (522, [some (.ref 0), some (.int x1), some (.int (nI nk)), some (.int y3), some (.int y4), some (.int y5), some (.int (nI a)), some (.int y7), o8, o9, o10], [], []) M) := by
  obtain ⟨ne, hv⟩ := B.1.vs
  have hk := hv.kp ha
  have e1 := mi_199 hk.1
  have e2 := mi_199 hk.2.1
  have i1 : in32 (kf σ a 1) (kf σ a 1) 199 = true := in32_t.mpr ⟨Int.le_refl _, e1.2⟩
  have i2 : in32 (kf σ a 2) (kf σ a 2) 199 = true := in32_t.mpr ⟨Int.le_refl _, e2.2⟩
  refine w_t (fun r h => t_362_522 B.1.1 _ _ _ _ _ _ _ _ _ _ h) ?_
  refine lq2 B (q_95 B.1 ha 1 (by decide)) fun M B => ?_
  refine lq2 B (q_95 B.1 ha 2 (by decide)) fun M B => ?_
  refine lq2 B (q_115 B.1 ⟨hk.1, hk.2.1, in32_t.mpr ⟨e1.2, by decide⟩, in32_t.mpr ⟨e2.2, by decide⟩⟩) fun M B => ?_
  refine w_n ?_ ?_
  · rw [bx_N σ _ _ _ _ nk (by omega), mN_get _ (by omega) ha]
    show ¬ bI (in32 (kf σ a 1) (kf σ a 1) 199 && in32 (kf σ a 2) (kf σ a 2) 199) = 0
    rw [i1, i2]; decide
  by_cases hx : x1 = 0
  · refine w_y hx ?_
    exact d_581 B _ _ _ _ _ _ _ _ (g M (B.mo (by omega)))
  · refine w_n hx ?_
    refine lq2 B (q_95 B.1 ha 0 (by decide)) fun M B => ?_
    by_cases hf : kf σ a 0 = 0
    · have hf' : mo_fly σ a = true := decide_eq_true hf
      refine w_y hf ?_
      refine lq2 B (q_99 B.1 ha hf') fun M B => ?_
      refine w_y (hS.2.2 hx a ha hf') ?_
      exact d_581 B _ _ _ _ _ _ _ _ (g M B)
    · refine w_n hf ?_
      exact d_581 B _ _ _ _ _ _ _ _ (g M (B.mo (by omega)))
theorem d_row {Z : ak_O × ak_M → Prop} (B : LB σ ρ hn nk nw M0 i M) (hnk : nk ≤ 9) (ha : a < nk) (x1 : Int32) (hS : SoH σ nk x1) (y3 y4 y5 : Int32) (o9 o10 : Option Value) (g : ∀ M, LB σ ρ hn nk nw M0 (i + 15) M → ∀ y7 o8, Wz Z (sg X 362 (44, [some (.ref 0), some (.int x1), some (.int (nI nk)), some (.int y3), some (.int y4), some (.int y5), some (.int (nI a + 1)), some (.int y7), o8, o9, o10], [], []) M)) : Wz Z (sg X 362 (56, [some (.ref 0), some (.int x1), some (.int (nI nk)), some (.int y3), some (.int y4), some (.int y5), some (.int (nI a)), some (.int (mo_wear σ a nk)), some (.int (nI nk)), o9, o10], [], []) M) := by
  obtain ⟨ne, hv⟩ := B.1.vs
  have hk := hv.kp ha
  have h3 := mi_300 hk.2.2.1
  have n0 : ¬ kf σ a 3 < 0 := Int32.not_lt.mpr (j3_nn.mpr h3.1)
  have n3 : ¬ 300 < kf σ a 3 := Int32.not_lt.mpr (Int32.le_iff_toInt_le.mpr h3.2)
  have G := fun M i' (B : LB σ ρ hn nk nw M0 i' M) (hi : i' + 5 ≤ i + 15) => d_522 (Z := Z) (X := X) B hnk ha x1 hS y3 y4 y5 (mo_wear σ a nk) (some (.int (kf σ a 3))) o9 o10 fun M B => g M (B.mo hi) _ _
  have et := oI_neg σ (nk := nk) (by omega) (mo_threat σ a nk) fun b hb => (mo_threat_lt σ a nk b hb).1
  have e0 := (rs_0 (σ := σ) (a := a) (nk := nk) (by omega)).trans (th_n σ a nk).symm
  refine w_t (fun r h => t_362_56 B.1.1 _ _ _ _ _ _ _ _ _ _ h) ?_
  refine w_y (Int32.le_refl _) ?_
  refine lq2 B (q_95 B.1 ha 3 (by decide)) fun M B => ?_
  refine lq2 B (q_103 B.1 ha) fun M B => ?_
  refine w_y (rfl) ?_
  refine lq2 B (q_112 B.1 ha) fun M B => ?_
  by_cases hth : mo_threat σ a nk = none
  · refine w_y (et.mpr hth) ?_
    refine lq2 B (q_102 B.1 ha) fun M B => ?_
    refine w_y (e0.mpr hth) ?_
    refine w_n (n0) ?_
    refine w_n (n3) ?_
    cases hf : mo_fly σ a with
    | false =>
      have hf0 : ¬ kf σ a 0 = 0 := of_decide_eq_false hf
      refine lq2 B (qv (q_98 B.1 ha) (by rw [hf]; rfl : _ = (-1 : Int32))) fun M B => ?_
      refine w_y (by decide) ?_
      refine lq2 B (q_95 B.1 ha 0 (by decide)) fun M B => ?_
      refine w_n (hf0) ?_
      refine lq2 B (q_95 B.1 ha 0 (by decide)) fun M B => ?_
      refine w_n (hf0) ?_
      exact G M _ B (by omega)
    | true =>
      have hf0 : kf σ a 0 = 0 := of_decide_eq_true hf
      have hh := hS.1 a ha hf
      refine lq2 B (qv (q_98 B.1 ha) (by rw [hf, if_pos rfl] : _ = mo_span σ a)) fun M B => ?_
      refine w_n (nI_nn (by have := iq_le (mo_sq (mo_wx σ a) (mo_wy σ a) (kf σ a 3)).toNatClampNeg 1000; omega)) ?_
      refine lq2 B (q_95 B.1 ha 0 (by decide)) fun M B => ?_
      refine w_y (hf0) ?_
      refine lq2 B (q_95 B.1 ha 0 (by decide)) fun M B => ?_
      refine w_y (hf0) ?_
      refine w_n (hh) ?_
      exact G M _ B (by omega)
  · refine w_n (fun e => hth (et.mp e)) ?_
    refine lq2 B (q_102 B.1 ha) fun M B => ?_
    refine w_n (fun e => hth (e0.mp e)) ?_
    refine w_n (n0) ?_
    refine w_n (n3) ?_
    cases hf : mo_fly σ a with
    | false =>
      have hf0 : ¬ kf σ a 0 = 0 := of_decide_eq_false hf
      refine lq2 B (qv (q_98 B.1 ha) (by rw [hf]; rfl : _ = (-1 : Int32))) fun M B => ?_
      refine w_y (by decide) ?_
      refine lq2 B (q_95 B.1 ha 0 (by decide)) fun M B => ?_
      refine w_n (hf0) ?_
      refine lq2 B (q_95 B.1 ha 0 (by decide)) fun M B => ?_
      refine w_n (hf0) ?_
      exact G M _ B (by omega)
    | true =>
      have hf0 : kf σ a 0 = 0 := of_decide_eq_true hf
      have hh := hS.1 a ha hf
      refine lq2 B (qv (q_98 B.1 ha) (by rw [hf, if_pos rfl] : _ = mo_span σ a)) fun M B => ?_
      refine w_n (nI_nn (by have := iq_le (mo_sq (mo_wx σ a) (mo_wy σ a) (kf σ a 3)).toNatClampNeg 1000; omega)) ?_
      refine lq2 B (q_95 B.1 ha 0 (by decide)) fun M B => ?_
      refine w_y (hf0) ?_
      refine lq2 B (q_95 B.1 ha 0 (by decide)) fun M B => ?_
      refine w_y (hf0) ?_
      refine w_n (hh) ?_
      exact G M _ B (by omega)
end SND2
