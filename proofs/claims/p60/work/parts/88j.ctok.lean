/-! the class reads words and numbers -/
/-- the value of the first digits from s on -/
def vl (β : Nat → Int32) (s : Nat) : Nat → Nat
  | 0 => 0
  | i + 1 => 10 * vl β s i + (kN (β (s + i)) - 48)
theorem vl_s {β : Nat → Int32} {s i : Nat} : vl β s (i + 1) = 10 * vl β s i + (kN (β (s + i)) - 48) := rfl
def isn (β : Nat → Int32) (n s : Nat) : Bool := decide (tkd β n s = 2) && decide (te β n s - s ≤ 4)
/-- from i on so many letters are those of text c -/
def mtf (β : Nat → Int32) (s c : Nat) : Nat → Nat → Bool
  | 0, _ => true
  | d + 1, i => decide (β (s + i) = tb c i) && mtf β s c d (i + 1)
/-- the word at s is text c -/
def wq (β : Nat → Int32) (n s c : Nat) : Bool := decide (tkd β n s = 1) && (decide (te β n s - s = tl c) && mtf β s c (te β n s - s) 0)
def wof (q : Nat → Bool) : Nat → Nat → Option Nat
  | 0, _ => none
  | d + 1, i => if q i = true then some i else wof q d (i + 1)
/-- which of the eleven words -/
def wo (β : Nat → Int32) (n s : Nat) : Option Nat := wof (wq β n s) 11 0
theorem kof_d {b : Int32} (h : kof b = 2) : ∃ d, d < 10 ∧ b = nI (48 + d) := by
  have h2 : in32 b 48 57 = true := by
    unfold kof at h
    by_cases h1 : in32 b 97 122 = true
    · rw [if_pos h1] at h; exact absurd h (by decide)
    · rw [if_neg h1] at h
      by_cases h2 : in32 b 48 57 = true
      · exact h2
      · rw [if_neg h2] at h
        revert h
        repeat' split
        all_goals exact fun h => absurd h (by decide)
  have t := in32_t.mp h2
  have a48 : (48 : Int32).toInt = 48 := by decide
  have a57 : (57 : Int32).toInt = 57 := by decide
  rw [a48, a57] at t
  exact ⟨(b.toInt - 48).toNat, by omega, mi_of (by omega)⟩
theorem kof_l {b : Int32} : kof b = 1 ↔ in32 b 97 122 = true := by
  unfold kof
  by_cases h1 : in32 b 97 122 = true
  · rw [if_pos h1]; exact ⟨fun _ => h1, fun _ => rfl⟩
  · rw [if_neg h1]
    refine ⟨fun h => ?_, fun h => absurd h h1⟩
    revert h
    repeat' split
    all_goals exact fun h => absurd h (by decide)
theorem mtf_t {β : Nat → Int32} {s c : Nat} : ∀ d i, mtf β s c d i = true ↔ ∀ j, i ≤ j → j < i + d → β (s + j) = tb c j
  | 0, i => ⟨fun _ j h1 h2 => by omega, fun _ => rfl⟩
  | d + 1, i => by
    unfold mtf
    rw [Bool.and_eq_true, decide_eq_true_eq, mtf_t d (i + 1)]
    refine ⟨fun h j h1 h2 => ?_, fun h => ⟨h i (Nat.le_refl _) (by omega), fun j h1 h2 => h j (by omega) (by omega)⟩⟩
    by_cases e : j = i
    · rw [e]; exact h.1
    · exact h.2 j (by omega) (by omega)
theorem vl_lt {β : Nat → Int32} {s : Nat} : ∀ i, (∀ j, j < i → kof (β (s + j)) = 2) → vl β s i < 10 ^ i
  | 0, _ => Nat.zero_lt_one
  | i + 1, h => by
    have a := vl_lt i fun j hj => h j (by omega)
    obtain ⟨d, hd, e⟩ := kof_d (h i (by omega))
    rw [vl_s, e, kN_n (by omega), Nat.pow_succ]
    omega
theorem wof_s {q : Nat → Bool} : ∀ d i c, wof q d i = some c → i ≤ c ∧ c < i + d ∧ q c = true
  | 0, i, c, h => by cases h
  | d + 1, i, c, h => by
    unfold wof at h
    by_cases e : q i = true
    · rw [if_pos e] at h
      cases h
      exact ⟨Nat.le_refl _, by omega, e⟩
    · rw [if_neg e] at h
      have := wof_s d (i + 1) c h
      exact ⟨by omega, by omega, this.2.2⟩
theorem wof_n {q : Nat → Bool} : ∀ d i, wof q d i = none → ∀ c, i ≤ c → c < i + d → ¬ q c = true
  | 0, i, _, c, h1, h2 => by omega
  | d + 1, i, h, c, h1, h2 => by
    unfold wof at h
    by_cases e : q i = true
    · rw [if_pos e] at h; cases h
    · rw [if_neg e] at h
      by_cases ec : c = i
      · rw [ec]; exact e
      · exact wof_n d (i + 1) h c (by omega) (by omega)
section SCW
variable {X : ak_X} {M : ak_M} {β : Nat → Int32} {n s : Nat}
theorem Tc.k (h : Tc β n s M) {m : Nat} (hm : m < 100) : ak_I M 51 1 = nI m ↔ tkd β n s = m := by
  rw [h.2.2.2, mi_eq ?_ (by omega)]
  unfold tkd
  split
  · have := kof_b (β s); omega
  · decide
theorem sk_78 (hL : ab_lay M) (h : Ic β n M) (hT : Tc β n s M) : rn X 78 [.ref 51] M (.inl (some (.int (bI (isn β n s)))), M) := by
  have h7 := h.1
  have t1 := te_le (β := β) hT.1.1
  refine t_78 hL ?_
  unfold isn
  rw [hT.2.2.1]
  by_cases c : tkd β n s = 2
  · rw [decide_eq_true c]
    refine mb_y ((hT.k (m := 2) (by decide)).mpr c) ?_
    by_cases c4 : te β n s - s ≤ 4
    · rw [decide_eq_true c4]
      exact mb_n (by rw [show (4 : Int32) = nI 4 from rfl, mi_lt (by decide) (by omega)]; omega) rfl
    · rw [decide_eq_false c4]
      exact mb_y (by rw [show (4 : Int32) = nI 4 from rfl, mi_lt (by decide) (by omega)]; omega) rfl
  · rw [decide_eq_false c]
    exact mb_n (fun e => c ((hT.k (m := 2) (by decide)).mp e)) rfl
theorem sk_79 (hL : ab_lay M) (h : Ic β n M) (hT : Tc β n s M) (hk : tkd β n s = 2) : rn X 79 [.ref 51] M (.inl (some (.int (nI (vl β s (te β n s - s))))), M) := by
  have h7 := h.1
  have hsn := hT.1.1
  have t1 := te_le (β := β) hsn
  have t0 := te_ge (β := β) (n := n) (s := s)
  refine t_79 hL ?_
  rw [hT.2.1]
  refine mb_up (P := fun i => sg X 79 (7, [some (.ref 51), some (.int (nI (vl β s i))), some (.int (nI (s + i)))], [], []) M (.inl (some (.int (nI (vl β s (te β n s - s))))), M)) (n := te β n s - s) ?_ ?_ 0 (Nat.zero_le _)
  · refine t_79_7 hL _ _ (mb_y ?_ rfl)
    rw [hT.2.1, hT.2.2.1, mi_add]
    exact Int32.le_refl _
  · intro i hi ih
    refine t_79_7 hL _ _ (mb_n ?_ ⟨s + i, mb_ix (by omega) (by decide), fun z ez => ?_⟩)
    · rw [hT.2.1, hT.2.2.1, mi_add, mi_le (by omega) (by omega)]; omega
    · have kd : kof (β (s + i)) = 2 := (tkd_in (Or.inr hk) (Nat.le_add_right s i) (by omega)).trans hk
      obtain ⟨d, hd, ed⟩ := kof_d kd
      have ez : z = nI (vl β s (i + 1)) := by
        rw [ez, h.2.2 (s + i) (by omega)]
        rw [vl_s, ed, kN_n (by omega), show (48 : Int32) = nI 48 from rfl, mi_sbn (by omega), show (10 : Int32) = nI 10 from rfl, mi_mul, mi_add]
        congr 1
        omega
      rw [ez, mi_s]
      exact ih
theorem sk_80 (hL : ab_lay M) (h : Ic β n M) (hT : Tc β n s M) {c : Nat} (hc : c < 25) : rn X 80 [.ref 51, .ref (1001000 + c)] M (.inl (some (.int (bI (wq β n s c)))), M) := by
  have h7 := h.1
  have hsn := hT.1.1
  have t1 := te_le (β := β) hsn
  have t0 := te_ge (β := β) (n := n) (s := s)
  have tc60 := (tb_f c hc).1
  refine t_80 hL hc ?_
  unfold wq
  by_cases k1 : tkd β n s = 1
  · rw [decide_eq_true k1]
    refine mb_y ((hT.k (m := 1) (by decide)).mpr k1) ⟨_, M, hL, j_317 hL hc, ?_⟩
    rw [hT.2.2.1]
    by_cases el : te β n s - s = tl c
    · rw [decide_eq_true el]
      refine mb_y (by rw [el]) ?_
      have H : ∀ d i, i + d = te β n s - s → sg X 80 (23, [some (.ref 51), some (.ref (1001000 + c)), some (.int (nI i))], [], []) M (.inl (some (.int (bI (mtf β s c d i)))), M) := by
        intro d
        induction d with
        | zero =>
          intro i hi
          exact t_80_23 hL hc _ (mb_y (by rw [hT.2.2.1, ← hi]; exact Int32.le_refl _) rfl)
        | succ d ih =>
          intro i hi
          refine t_80_23 hL hc _ (mb_n (by rw [hT.2.2.1, mi_le (by omega) (by omega)]; omega) ⟨s + i, by rw [hT.2.1, mi_add]; exact mb_ix (by omega) (by decide), _, M, hL, j_318 hL hc (by omega), ?_⟩)
          rw [h.2.2 (s + i) (by omega), mi_s]
          unfold mtf
          by_cases e : β (s + i) = tb c i
          · rw [decide_eq_true e]; exact mb_y e (ih (i + 1) (by omega))
          · rw [decide_eq_false e]; exact mb_n e rfl
      exact H _ 0 (by omega)
    · rw [decide_eq_false el]
      exact mb_n (fun e => el ((mi_eq (by omega) (by omega)).mp e)) rfl
  · rw [decide_eq_false k1]
    exact mb_n (fun e => k1 ((hT.k (m := 1) (by decide)).mp e)) rfl
theorem sk_73 (hL : ab_lay M) {i : Nat} (hi : i < 11) : rn X 73 [.int (nI i)] M (.inl (some (.ref (1001000 + i))), M) := by
  refine t_73 hL _ ?_
  rcases (show i = 0 ∨ i = 1 ∨ i = 2 ∨ i = 3 ∨ i = 4 ∨ i = 5 ∨ i = 6 ∨ i = 7 ∨ i = 8 ∨ i = 9 ∨ i = 10 by omega) with e | e | e | e | e | e | e | e | e | e | e <;> subst e
  · exact mb_y rfl rfl
  · exact mb_n (by decide) (mb_y rfl rfl)
  · exact mb_n (by decide) (mb_n (by decide) (mb_y rfl rfl))
  · exact mb_n (by decide) (mb_n (by decide) (mb_n (by decide) (mb_y rfl rfl)))
  · exact mb_n (by decide) (mb_n (by decide) (mb_n (by decide) (mb_n (by decide) (mb_y rfl rfl))))
  · exact mb_n (by decide) (mb_n (by decide) (mb_n (by decide) (mb_n (by decide) (mb_n (by decide) (mb_y rfl rfl)))))
  · exact mb_n (by decide) (mb_n (by decide) (mb_n (by decide) (mb_n (by decide) (mb_n (by decide) (mb_n (by decide) (mb_y rfl rfl))))))
  · exact mb_n (by decide) (mb_n (by decide) (mb_n (by decide) (mb_n (by decide) (mb_n (by decide) (mb_n (by decide) (mb_n (by decide) (mb_y rfl rfl)))))))
  · exact mb_n (by decide) (mb_n (by decide) (mb_n (by decide) (mb_n (by decide) (mb_n (by decide) (mb_n (by decide) (mb_n (by decide) (mb_n (by decide) (mb_y rfl rfl))))))))
  · exact mb_n (by decide) (mb_n (by decide) (mb_n (by decide) (mb_n (by decide) (mb_n (by decide) (mb_n (by decide) (mb_n (by decide) (mb_n (by decide) (mb_n (by decide) (mb_y rfl rfl)))))))))
  · exact mb_n (by decide) (mb_n (by decide) (mb_n (by decide) (mb_n (by decide) (mb_n (by decide) (mb_n (by decide) (mb_n (by decide) (mb_n (by decide) (mb_n (by decide) (mb_n (by decide) rfl)))))))))
theorem sk_72 (hL : ab_lay M) (h : Ic β n M) (hT : Tc β n s M) : rn X 72 [.ref 5] M (.inl (some (.int (oI (wo β n s)))), M) := by
  refine t_72 hL ?_
  have H : ∀ d i, i + d = 11 → sg X 72 (2, [some (.ref 5), some (.int (nI i))], [], []) M (.inl (some (.int (oI (wof (wq β n s) d i)))), M) := by
    intro d
    induction d with
    | zero =>
      intro i hi
      exact t_72_2 hL _ (mb_y (by rw [show i = 11 by omega]; decide) rfl)
    | succ d ih =>
      intro i hi
      refine t_72_2 hL _ (mb_n (by rw [show (11 : Int32) = nI 11 from rfl, mi_le (by decide) (by omega)]; omega) ⟨i, M, by omega, hL, sk_73 hL (by omega), _, M, hL, sk_80 hL h hT (by omega), ?_⟩)
      rw [mi_s]
      unfold wof
      cases e : wq β n s i
      · exact mb_y rfl (ih (i + 1) (by omega))
      · exact mb_n (by decide) rfl
  exact H 11 0 rfl
/-! the class's Setup: errors, numbers -/
def cA (p _k : Nat) : Prop := 5 ≤ p ∧ p ≤ 51
def cN (p k : Nat) : Prop := p = 51 ∨ (p = 5 ∧ k = 4)
theorem cN_A {p k : Nat} (h : cN p k) : cA p k := by unfold cN at h; unfold cA; omega
theorem cT_N {p k : Nat} (h : cT p k) : cN p k := Or.inl h
theorem cN_I {N : ak_M} (h : Ic β n M) (f : fr cN M N) : Ic β n N := h.ff f fun p k e => by unfold cN at e; omega
/-- an error with its code and its place -/
def bad (X : ak_X) (k : Nat) (as : List Value) (M : ak_M) (e : Nat × Nat) : Prop := ∃ M', rn X k as M (.inl (some (.int 0)), M') ∧ fr cA M M' ∧ ak_I M' 5 5 = nI e.1 ∧ ak_I M' 5 6 = nI e.2
def okn (X : ak_X) (β : Nat → Int32) (n k : Nat) (as : List Value) (M : ak_M) (q : Int32 × Nat) : Prop := ∃ M', rn X k as M (.inl (some (.int 1)), M') ∧ fr cN M M' ∧ Tc β n q.2 M' ∧ ak_I M' 5 4 = q.1
def cnr (X : ak_X) (β : Nat → Int32) (n k : Nat) (as : List Value) (M : ak_M) (o : (Nat × Nat) ⊕ (Int32 × Nat)) : Prop := match o with
  | .inl e => bad X k as M e
  | .inr q => okn X β n k as M q
def nb (β : Nat → Int32) (n s : Nat) (lo hi : Int32) : (Nat × Nat) ⊕ (Int32 × Nat) := if isn β n s = true then (if in32 (nI (vl β s (te β n s - s))) lo hi = true then .inr (nI (vl β s (te β n s - s)), nx β n s) else .inl (2, s)) else .inl (1, s)
def spd (β : Nat → Int32) (n s : Nat) : (Nat × Nat) ⊕ (Int32 × Nat) := if tkd β n s = 3 then (match nb β n (nx β n s) 0 9 with | .inl e => .inl e | .inr q => .inr (-q.1, q.2)) else nb β n s 0 9
def opt (β : Nat → Int32) (n s c : Nat) (lo hi d : Int32) : (Nat × Nat) ⊕ (Int32 × Nat) := if wq β n s c = true then nb β n (nx β n s) lo hi else .inr (d, s)
theorem sk_71 (hL : ab_lay M) (hT : Tc β n s M) (c : Nat) : ∃ M', rn X 71 [.ref 5, .int (nI c)] M (.inl (some (.int 0)), M') ∧ fr cA M M' ∧ ak_I M' 5 5 = nI c ∧ ak_I M' 5 6 = nI s := by
  refine ⟨ak_sI (ak_sI M 5 5 (nI c)) 5 6 (nI s), t_71 hL _ fun N e N2 e2 => ?_, ((fr.rf hL).st ⟨by decide, by decide⟩).st ⟨by decide, by decide⟩, (mb_sIk (by decide)).trans mb_sIs, mb_sIs⟩
  rw [e, mb_sIr (by decide), hT.2.1] at e2
  rw [e2]
theorem sk_71a (hL : ab_lay M) (hT : Tc β n s M) (c : Nat) : bad X 71 [.ref 5, .int (nI c)] M (c, s) := sk_71 hL hT c
/-- a fail inside -/
theorem bad_in {k : Nat} {as : List Value} {M1 : ak_M} {e : Nat × Nat} {c : Nat} (f : fr cA M M1) (h : bad X 71 [.ref 5, .int (nI c)] M1 e) (go : ∀ r : ak_O × ak_M, (∃ (v2 : Int32) (M2 : ak_M), ab_lay M2 ∧ rn X 71 [.ref 5, .int (nI c)] M1 (.inl (some (.int v2)), M2) ∧ ((v2 = 0 ∨ v2 = 1) ∧ r = (.inl (some (.int v2)), M2))) → rn X k as M r) : bad X k as M e := by
  obtain ⟨M2, r2, f2, a, b⟩ := h
  exact ⟨M2, go _ ⟨0, M2, f2.1, r2, Or.inl rfl, rfl⟩, f.tr f2, a, b⟩
theorem sk_69 (hL : ab_lay M) (h : Ic β n M) (hT : Tc β n s M) (lo hi : Int32) : cnr X β n 69 [.ref 5, .int lo, .int hi] M (nb β n s lo hi) := by
  have s78 := sk_78 (X := X) hL h hT
  unfold nb
  by_cases c : isn β n s = true
  · rw [if_pos c]
    rw [c] at s78
    have hk : tkd β n s = 2 := by unfold isn at c; rw [Bool.and_eq_true, decide_eq_true_eq] at c; exact c.1
    have s79 := sk_79 (X := X) hL h hT hk
    generalize nI (vl β s (te β n s - s)) = v at *
    have f1 : fr cN M (ak_sI M 5 4 v) := (fr.rf hL).st (Or.inr ⟨rfl, rfl⟩)
    have e4 : ak_I (ak_sI M 5 4 v) 5 4 = v := mb_sIs
    have s151 := sk_151 (X := X) f1.1 (v := v) (lo := lo) (hi := hi)
    have T1 : Tc β n s (ak_sI M 5 4 v) := by
      unfold Tc
      rw [show ak_I (ak_sI M 5 4 v) 51 = ak_I M 51 from mb_sIr (by decide)]
      exact hT
    by_cases ci : in32 v lo hi = true
    · rw [if_pos ci]
      rw [ci] at s151
      obtain ⟨M2, r2, f2, t2⟩ := sk_76t (X := X) f1.1 (cN_I h f1) T1
      refine ⟨M2, t_69 hL _ _ ⟨_, M, hL, s78, mb_n (by decide) ⟨_, M, hL, s79, fun N e => ?_⟩⟩, f1.tr (f2.mo fun _ _ h => cT_N h), t2, ?_⟩
      · subst e
        exact ⟨_, _, f1.1, by rw [e4]; exact s151, mb_n (by decide) ⟨M2, f2.1, r2, rfl⟩⟩
      · rw [f2.2.1 5 4 fun e => by unfold cT at e; omega]
        exact e4
    · rw [if_neg ci]
      rw [bf ci] at s151
      refine bad_in (c := 2) (f1.mo fun _ _ h => cN_A h) (sk_71a f1.1 T1 2) fun r hr => t_69 hL _ _ ⟨_, M, hL, s78, mb_n (by decide) ⟨_, M, hL, s79, fun N e => ?_⟩⟩
      subst e
      exact ⟨_, _, f1.1, by rw [e4]; exact s151, mb_y rfl hr⟩
  · rw [if_neg c]
    rw [bf c] at s78
    exact bad_in (c := 1) (fr.rf hL) (sk_71a hL hT 1) fun r hr => t_69 hL _ _ ⟨_, M, hL, s78, mb_y rfl hr⟩
theorem sk_67 (hL : ab_lay M) (h : Ic β n M) (hT : Tc β n s M) : cnr X β n 67 [.ref 5] M (spd β n s) := by
  unfold spd
  by_cases c : tkd β n s = 3
  · rw [if_pos c]
    obtain ⟨M1, r1, f1, t1⟩ := sk_76t (X := X) hL h hT
    have s69 := sk_69 (X := X) f1.1 (cT_I h f1) t1 0 9
    have c3 : ak_I M 51 1 = 3 := (hT.k (m := 3) (by decide)).mpr c
    cases hq : nb β n (nx β n s) 0 9 with
    | inl e =>
      rw [hq] at s69
      obtain ⟨M2, r2, f2, a, b⟩ := s69
      exact ⟨M2, t_67 hL (mb_y c3 ⟨M1, f1.1, r1, t_67_28 f1.1 _ ⟨_, M2, f2.1, r2, mb_y rfl rfl⟩⟩), (f1.mo fun _ _ h => cN_A (cT_N h)).tr f2, a, b⟩
    | inr q =>
      rw [hq] at s69
      obtain ⟨M2, r2, f2, a, b⟩ := s69
      have g2 : fr cN M M2 := (f1.mo fun _ _ h => cT_N h).tr f2
      refine ⟨ak_sI M2 5 4 (-q.1), t_67 hL (mb_y c3 ⟨M1, f1.1, r1, t_67_28 f1.1 _ ⟨_, M2, f2.1, r2, mb_n (by decide) (mb_n (by decide) fun N e => ?_)⟩⟩), g2.st (Or.inr ⟨rfl, rfl⟩), ?_, mb_sIs⟩
      · rw [b] at e; rw [e]
      · unfold Tc
        rw [show ak_I (ak_sI M2 5 4 (-q.1)) 51 = ak_I M2 51 from mb_sIr (by decide)]
        exact a
  · rw [if_neg c]
    have s69 := sk_69 (X := X) hL h hT 0 9
    have c3 : ¬ ak_I M 51 1 = 3 := fun e => c ((hT.k (m := 3) (by decide)).mp e)
    cases hq : nb β n s 0 9 with
    | inl e =>
      rw [hq] at s69
      obtain ⟨M2, r2, f2, a, b⟩ := s69
      exact ⟨M2, t_67 hL (mb_n c3 (t_67_28 hL _ ⟨_, M2, f2.1, r2, mb_y rfl rfl⟩)), f2, a, b⟩
    | inr q =>
      rw [hq] at s69
      obtain ⟨M2, r2, f2, a, b⟩ := s69
      refine ⟨ak_sI M2 5 4 q.1, t_67 hL (mb_n c3 (t_67_28 hL _ ⟨_, M2, f2.1, r2, mb_n (by decide) (mb_y rfl fun N e => ?_)⟩)), f2.st (Or.inr ⟨rfl, rfl⟩), ?_, mb_sIs⟩
      · rw [b] at e; rw [e]
      · unfold Tc
        rw [show ak_I (ak_sI M2 5 4 q.1) 51 = ak_I M2 51 from mb_sIr (by decide)]
        exact a
theorem sk_65 (hL : ab_lay M) (h : Ic β n M) (hT : Tc β n s M) {c : Nat} (hc : c < 11) (lo hi d : Int32) : cnr X β n 65 [.ref 5, .int (nI c), .int lo, .int hi, .int d] M (opt β n s c lo hi d) := by
  have s73 := sk_73 (X := X) hL hc
  have s80 := sk_80 (X := X) hL h hT (c := c) (by omega)
  unfold opt
  by_cases w : wq β n s c = true
  · rw [if_pos w]
    rw [w] at s80
    obtain ⟨M1, r1, f1, t1⟩ := sk_76t (X := X) hL h hT
    have s69 := sk_69 (X := X) f1.1 (cT_I h f1) t1 lo hi
    cases hq : nb β n (nx β n s) lo hi with
    | inl e =>
      rw [hq] at s69
      obtain ⟨M2, r2, f2, a, b⟩ := s69
      exact ⟨M2, t_65 hL _ _ _ _ ⟨c, M, by omega, hL, s73, _, M, hL, s80, mb_n (by decide) ⟨M1, f1.1, r1, _, M2, f2.1, r2, Or.inl rfl, rfl⟩⟩, (f1.mo fun _ _ h => cN_A (cT_N h)).tr f2, a, b⟩
    | inr q =>
      rw [hq] at s69
      obtain ⟨M2, r2, f2, a, b⟩ := s69
      exact ⟨M2, t_65 hL _ _ _ _ ⟨c, M, by omega, hL, s73, _, M, hL, s80, mb_n (by decide) ⟨M1, f1.1, r1, _, M2, f2.1, r2, Or.inr rfl, rfl⟩⟩, (f1.mo fun _ _ h => cT_N h).tr f2, a, b⟩
  · rw [if_neg w]
    rw [bf w] at s80
    refine ⟨ak_sI M 5 4 d, t_65 hL _ _ _ _ ⟨c, M, by omega, hL, s73, _, M, hL, s80, mb_y rfl fun N e => by rw [e]⟩, (fr.rf hL).st (Or.inr ⟨rfl, rfl⟩), ?_, mb_sIs⟩
    unfold Tc
    rw [show ak_I (ak_sI M 5 4 d) 51 = ak_I M 51 from mb_sIr (by decide)]
    exact hT
/-- the semicolon -/
theorem sk_70 (hL : ab_lay M) (h : Ic β n M) (hT : Tc β n s M) : (tkd β n s = 4 → ∃ M', rn X 70 [.ref 5] M (.inl (some (.int 1)), M') ∧ fr cT M M' ∧ Tc β n (nx β n s) M') ∧ (¬ tkd β n s = 4 → bad X 70 [.ref 5] M (1, s)) := by
  refine ⟨fun c => ?_, fun c => ?_⟩
  · obtain ⟨M1, r1, f1, t1⟩ := sk_76t (X := X) hL h hT
    exact ⟨M1, t_70 hL (mb_y ((hT.k (m := 4) (by decide)).mpr c) ⟨M1, f1.1, r1, rfl⟩), f1, t1⟩
  · exact bad_in (c := 1) (fr.rf hL) (sk_71a hL hT 1) fun r hr => t_70 hL (mb_n (fun e => c ((hT.k (m := 4) (by decide)).mp e)) hr)
end SCW
