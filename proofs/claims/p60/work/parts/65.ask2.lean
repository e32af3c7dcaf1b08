/-! the class's questions that go over the kites -/
def mo_rs (σ : Nat → Int32) (k : Nat) : Nat → Int32
  | 0 => 0
  | n + 1 => if mo_rub σ k n = true then mo_rs σ k n ||| (1 <<< (nI n &&& 31)) else mo_rs σ k n
theorem mo_rs_s (σ : Nat → Int32) (k n : Nat) : mo_rs σ k (n + 1) = if mo_rub σ k n = true then mo_rs σ k n ||| (1 <<< (nI n &&& 31)) else mo_rs σ k n := rfl
def mo_hi (σ : Nat → Int32) : Nat → Option Nat
  | 0 => none
  | n + 1 => if mo_fly σ n = true then (match mo_hi σ n with | none => some n | some c => if kf σ c 3 < kf σ n 3 then some n else some c) else mo_hi σ n
theorem mo_hi_s (σ : Nat → Int32) (n : Nat) : mo_hi σ (n + 1) = if mo_fly σ n = true then (match mo_hi σ n with | none => some n | some c => if kf σ c 3 < kf σ n 3 then some n else some c) else mo_hi σ n := rfl
def mo_lo (σ : Nat → Int32) : Nat → Option Nat
  | 0 => none
  | n + 1 => if mo_fly σ n = true then (match mo_lo σ n with | none => some n | some c => if kf σ n 3 < kf σ c 3 then some n else some c) else mo_lo σ n
theorem mo_lo_s (σ : Nat → Int32) (n : Nat) : mo_lo σ (n + 1) = if mo_fly σ n = true then (match mo_lo σ n with | none => some n | some c => if kf σ n 3 < kf σ c 3 then some n else some c) else mo_lo σ n := rfl
def mo_ta (σ : Nat → Int32) : Nat → Option Nat
  | 0 => none
  | n + 1 => if mo_fly σ n = true then (match mo_ta σ n with | none => some n | some c => if mo_slack σ n < mo_slack σ c then some n else some c) else mo_ta σ n
theorem mo_ta_s (σ : Nat → Int32) (n : Nat) : mo_ta σ (n + 1) = if mo_fly σ n = true then (match mo_ta σ n with | none => some n | some c => if mo_slack σ n < mo_slack σ c then some n else some c) else mo_ta σ n := rfl
def mo_ld (σ : Nat → Int32) : Nat → Option Nat × Int32
  | 0 => (none, 0)
  | n + 1 => if kf σ n 11 ≤ (mo_ld σ n).2 then mo_ld σ n else (some n, kf σ n 11)
theorem mo_ld_s (σ : Nat → Int32) (n : Nat) : mo_ld σ (n + 1) = if kf σ n 11 ≤ (mo_ld σ n).2 then mo_ld σ n else (some n, kf σ n 11) := rfl
def mo_far (σ : Nat → Int32) (k o : Nat) : Int32 := mo_sq (kf σ k 1 - kf σ o 1) (kf σ k 2 - kf σ o 2) 0
def mo_nr (σ : Nat → Int32) (k : Nat) : Nat → Option Nat
  | 0 => none
  | n + 1 => if n ≠ k ∧ mo_fly σ n = true then (match mo_nr σ k n with | none => some n | some c => if mo_far σ k n < mo_far σ k c then some n else some c) else mo_nr σ k n
theorem mo_nr_s (σ : Nat → Int32) (k n : Nat) : mo_nr σ k (n + 1) = if n ≠ k ∧ mo_fly σ n = true then (match mo_nr σ k n with | none => some n | some c => if mo_far σ k n < mo_far σ k c then some n else some c) else mo_nr σ k n := rfl
def mo_sm (σ : Nat → Int32) (w : Nat) : Nat → Int32
  | 0 => 0
  | n + 1 => mo_sm σ w n + kf σ n w
def mo_rk (σ : Nat → Int32) (k : Nat) : Nat → Int32
  | 0 => 0
  | n + 1 => if kf σ k 11 < kf σ n 11 ∨ (kf σ n 11 = kf σ k 11 ∧ n < k) then mo_rk σ k n + 1 else mo_rk σ k n
theorem mo_rk_s (σ : Nat → Int32) (k n : Nat) : mo_rk σ k (n + 1) = if kf σ k 11 < kf σ n 11 ∨ (kf σ n 11 = kf σ k 11 ∧ n < k) then mo_rk σ k n + 1 else mo_rk σ k n := rfl
def mo_bx (σ : Nat → Int32) (x y tx ty : Int32) : Nat → Int32
  | 0 => 0
  | n + 1 => if in32 (kf σ n 1) x tx = true ∧ in32 (kf σ n 2) y ty = true then mo_bx σ x y tx ty n ||| (1 <<< (nI n &&& 31)) else mo_bx σ x y tx ty n
theorem mo_bx_s (σ : Nat → Int32) (x y tx ty : Int32) (n : Nat) : mo_bx σ x y tx ty (n + 1) = if in32 (kf σ n 1) x tx = true ∧ in32 (kf σ n 2) y ty = true then mo_bx σ x y tx ty n ||| (1 <<< (nI n &&& 31)) else mo_bx σ x y tx ty n := rfl
theorem mo_hi_lt (σ : Nat → Int32) : ∀ n b, mo_hi σ n = some b → b < n
  | 0, b, h => by cases h
  | n + 1, b, h => by
    rw [mo_hi_s] at h
    cases hf : mo_fly σ n
    · rw [hf, if_neg (by decide)] at h
      have := mo_hi_lt σ n b h; omega
    · rw [hf, if_pos rfl] at h
      cases ht : mo_hi σ n with
      | none => rw [ht] at h; cases h; omega
      | some c =>
        rw [ht] at h
        have := mo_hi_lt σ n c ht
        dsimp only at h
        split at h <;> cases h <;> omega
theorem mo_lo_lt (σ : Nat → Int32) : ∀ n b, mo_lo σ n = some b → b < n
  | 0, b, h => by cases h
  | n + 1, b, h => by
    rw [mo_lo_s] at h
    cases hf : mo_fly σ n
    · rw [hf, if_neg (by decide)] at h
      have := mo_lo_lt σ n b h; omega
    · rw [hf, if_pos rfl] at h
      cases ht : mo_lo σ n with
      | none => rw [ht] at h; cases h; omega
      | some c =>
        rw [ht] at h
        have := mo_lo_lt σ n c ht
        dsimp only at h
        split at h <;> cases h <;> omega
theorem mo_ta_lt (σ : Nat → Int32) : ∀ n b, mo_ta σ n = some b → b < n
  | 0, b, h => by cases h
  | n + 1, b, h => by
    rw [mo_ta_s] at h
    cases hf : mo_fly σ n
    · rw [hf, if_neg (by decide)] at h
      have := mo_ta_lt σ n b h; omega
    · rw [hf, if_pos rfl] at h
      cases ht : mo_ta σ n with
      | none => rw [ht] at h; cases h; omega
      | some c =>
        rw [ht] at h
        have := mo_ta_lt σ n c ht
        dsimp only at h
        split at h <;> cases h <;> omega
theorem mo_nr_lt (σ : Nat → Int32) (k : Nat) : ∀ n b, mo_nr σ k n = some b → b < n
  | 0, b, h => by cases h
  | n + 1, b, h => by
    rw [mo_nr_s] at h
    by_cases hf : n ≠ k ∧ mo_fly σ n = true
    · rw [if_pos hf] at h
      cases ht : mo_nr σ k n with
      | none => rw [ht] at h; cases h; omega
      | some c =>
        rw [ht] at h
        have := mo_nr_lt σ k n c ht
        dsimp only at h
        split at h <;> cases h <;> omega
    · rw [if_neg hf] at h
      have := mo_nr_lt σ k n b h; omega
/-- the height, or what there is without one -/
def oH (σ : Nat → Int32) (d : Int32) (o : Option Nat) : Int32 := match o with | none => d | some c => kf σ c 3
def mo_spread (σ : Nat → Int32) (n : Nat) : Int32 := match mo_hi σ n with | none => (-1) | some c => kf σ c 3 - oH σ 300 (mo_lo σ n)
theorem iq_min {n m m' : Nat} (hm : m ≤ m') : iq n m = min m (iq n m') := by
  by_cases h : iq n m' ≤ m
  · rw [Nat.min_eq_right h]
    refine Nat.le_antisymm (iq_gt n m' _ (Nat.le_trans (iq_le n m) hm) (iq_sq n m)) (iq_gt n m _ h (iq_sq n m'))
  · rw [Nat.min_eq_left (by omega)]
    refine Nat.le_antisymm (iq_le n m) (iq_gt n m m (Nat.le_refl _) ?_)
    exact Nat.le_trans (Nat.mul_le_mul (by omega) (by omega)) (iq_sq n m')
def mo_gap (σ : Nat → Int32) (k o : Nat) : Int32 := nI (iq (mo_sq (kf σ k 1 - kf σ o 1) (kf σ k 2 - kf σ o 2) (kf σ k 3 - kf σ o 3)).toNatClampNeg 400)
section SCL
variable {X : ak_X} {M : ak_M} {b k nk nw ne fe : Nat} {σ : Nat → Int32}
theorem gap_sq {o : Nat} (h : kp σ k) (h' : kp σ o) : 0 ≤ (mo_sq (kf σ k 1 - kf σ o 1) (kf σ k 2 - kf σ o 2) (kf σ k 3 - kf σ o 3)).toInt ∧ (mo_sq (kf σ k 1 - kf σ o 1) (kf σ k 2 - kf σ o 2) (kf σ k 3 - kf σ o 3)).toInt ≤ 199 * 199 + 199 * 199 + 300 * 300 := by
  have a := mi_sub (mi_199 h.1) (mi_199 h'.1) (by decide) (by decide)
  have b := mi_sub (mi_199 h.2.1) (mi_199 h'.2.1) (by decide) (by decide)
  have c := mi_sub (mi_300 h.2.2.1) (mi_300 h'.2.2.1) (by decide) (by decide)
  exact (mi_sq3 (a := 199) (b := 199) (c := 300) a.2 b.2 c.2 (by decide) (by decide) (by decide)).2
/-- rubs -/
def sp_102 (σ : Nat → Int32) (n : Nat) (x : Int32) : Int32 ⊕ Nat := if mo_isK σ x = true then .inl (mo_rs σ (kN x) n) else .inr 0
theorem ca_102 (hL : ab_lay M) (hR : Rb 65 σ nk nw ne fe M) (hv : vs σ nk nw ne) (x : Int32) : ca (cX 65) X 102 [.int x] M (sp_102 σ nk x) := by
  have hc := hv.1
  have h10 := hc.1
  have c0 := ck_144 (X := X) hL hR.2.1.1 (x := x)
  unfold sp_102
  by_cases h0 : mo_isK σ x = true
  · rw [if_pos h0]
    obtain ⟨k, hk, rfl⟩ := (isK_of hc).mp h0
    rw [kN_n (by omega)]
    have H : ∀ i, i ≤ nk → ∀ M1, fr (cX 65) M M1 → ∃ M', sg X 102 (9, [some (.ref 0), some (.int (nI k)), some (.int (mo_rs σ k i)), some (.int (nI i))], [], []) M1 (oc (.inl (mo_rs σ k nk)), M') ∧ fr (cX 65) M M' := by
      refine mb_up ?_ ?_
      · intro M1 f1
        have R1 := hR.fr hc f1 cX_out
        exact ⟨M1, t_102_9 f1.1 _ _ _ (mb_y (by rw [R1.2.1.1]; exact ct_ge hc) rfl), f1⟩
      · intro i hi ih M1 f1
        have R1 := hR.fr hc f1 cX_out
        obtain ⟨M2, r2, f2⟩ := sk_14 (X := X) f1.1 h65 R1 hc hk hi (hv.kp hk) (hv.kp hi)
        obtain ⟨M', h', f'⟩ := ih M2 (f1.tr f2)
        refine ⟨M', t_102_9 f1.1 _ _ _ (mb_n (by rw [R1.2.1.1]; exact ct_lt hc hi) ⟨_, M2, f2.1, r2, ?_⟩), f'⟩
        rw [mo_rs_s] at h'
        rw [mi_s]
        cases hr : mo_rub σ k i
        · rw [hr, if_neg (by decide)] at h'; exact mb_y rfl h'
        · rw [hr, if_pos rfl] at h'; exact mb_n (by decide) fun z e => by rw [e]; exact h'
    obtain ⟨M', h', f'⟩ := H 0 (Nat.zero_le _) M (fr.rf hL)
    exact ⟨M', t_102 hL _ (Or.inl ⟨M, hL, c0.1 h0, h'⟩), f'.qx⟩
  · rw [if_neg h0]
    exact ⟨_, t_102 hL _ (Or.inr ⟨0, _, c0.2 (bf h0), rfl⟩), (fr.rf hL).ux⟩
/-- wearNow -/
def sp_103 (σ : Nat → Int32) (n : Nat) (x : Int32) : Int32 ⊕ Nat := if mo_isK σ x = true then .inl (mo_wear σ (kN x) n) else .inr 0
theorem ca_103 (hL : ab_lay M) (hR : Rb 65 σ nk nw ne fe M) (hv : vs σ nk nw ne) (x : Int32) : ca (cX 65) X 103 [.int x] M (sp_103 σ nk x) := by
  have hc := hv.1
  have h10 := hc.1
  have c0 := ck_144 (X := X) hL hR.2.1.1 (x := x)
  unfold sp_103
  by_cases h0 : mo_isK σ x = true
  · rw [if_pos h0]
    obtain ⟨k, hk, rfl⟩ := (isK_of hc).mp h0
    rw [kN_n (by omega)]
    have H : ∀ i, i ≤ nk → ∀ M1, fr (cX 65) M M1 → ∃ M', sg X 103 (9, [some (.ref 0), some (.int (nI k)), some (.int (mo_wear σ k i)), some (.int (nI i))], [], []) M1 (oc (.inl (mo_wear σ k nk)), M') ∧ fr (cX 65) M M' := by
      refine mb_up ?_ ?_
      · intro M1 f1
        have R1 := hR.fr hc f1 cX_out
        exact ⟨M1, t_103_9 f1.1 _ _ _ (mb_y (by rw [R1.2.1.1]; exact ct_ge hc) rfl), f1⟩
      · intro i hi ih M1 f1
        have R1 := hR.fr hc f1 cX_out
        obtain ⟨M2, r2, f2⟩ := sk_14 (X := X) f1.1 h65 R1 hc hk hi (hv.kp hk) (hv.kp hi)
        have R2 := hR.fr hc (f1.tr f2) cX_out
        obtain ⟨M', h', f'⟩ := ih M2 (f1.tr f2)
        refine ⟨M', t_103_9 f1.1 _ _ _ (mb_n (by rw [R1.2.1.1]; exact ct_lt hc hi) ⟨_, M2, f2.1, r2, ?_⟩), f'⟩
        rw [mo_wear_s] at h'
        rw [mi_s]
        cases hr : mo_rub σ k i
        · rw [hr, if_neg (by decide)] at h'; exact mb_y rfl h'
        · rw [hr, if_pos rfl] at h'
          exact mb_n (by decide) ⟨i, by omega, mb_ix (by omega) (by decide), _, M2, f2.1, sk_44 f2.1 h65 R2 hc hi, h'⟩
    obtain ⟨M', h', f'⟩ := H 0 (Nat.zero_le _) M (fr.rf hL)
    exact ⟨M', t_103 hL _ (Or.inl ⟨M, hL, c0.1 h0, h'⟩), f'.qx⟩
  · rw [if_neg h0]
    exact ⟨_, t_103 hL _ (Or.inr ⟨0, _, c0.2 (bf h0), rfl⟩), (fr.rf hL).ux⟩
/-- threat -/
def sp_112 (σ : Nat → Int32) (n : Nat) (x : Int32) : Int32 ⊕ Nat := if mo_isK σ x = true then .inl (oI (mo_threat σ (kN x) n)) else .inr 0
theorem ca_112 (hL : ab_lay M) (hR : Rb 65 σ nk nw ne fe M) (hv : vs σ nk nw ne) (x : Int32) : ca (cX 65) X 112 [.int x] M (sp_112 σ nk x) := by
  have hc := hv.1
  have h10 := hc.1
  have c0 := ck_144 (X := X) hL hR.2.1.1 (x := x)
  unfold sp_112
  by_cases h0 : mo_isK σ x = true
  · rw [if_pos h0]
    obtain ⟨k, hk, rfl⟩ := (isK_of hc).mp h0
    rw [kN_n (by omega)]
    have H : ∀ i, i ≤ nk → ∀ M1 y3 o5, fr (cX 65) M M1 → (∀ c, mo_threat σ k i = some c → y3 = mo_brings σ c) → ∃ M', sg X 112 (12, [some (.ref 0), some (.int (nI k)), some (.int (oI (mo_threat σ k i))), some (.int y3), some (.int (nI i)), o5], [], []) M1 (oc (.inl (oI (mo_threat σ k nk))), M') ∧ fr (cX 65) M M' := by
      refine mb_up ?_ ?_
      · intro M1 y3 o5 f1 _
        have R1 := hR.fr hc f1 cX_out
        exact ⟨M1, t_112_12 f1.1 _ _ _ _ _ (mb_y (by rw [R1.2.1.1]; exact ct_ge hc) rfl), f1⟩
      · intro i hi ih M1 y3 o5 f1 hy
        have R1 := hR.fr hc f1 cX_out
        obtain ⟨M2, r2, f2⟩ := sk_14 (X := X) f1.1 h65 R1 hc hk hi (hv.kp hk) (hv.kp hi)
        have R2 := hR.fr hc (f1.tr f2) cX_out
        rw [mo_threat_s] at ih
        cases hr : mo_rub σ k i
        · rw [hr, if_neg (by decide)] at ih
          obtain ⟨M', h', f'⟩ := ih M2 y3 o5 (f1.tr f2) hy
          refine ⟨M', t_112_12 f1.1 _ _ _ _ _ (mb_n (by rw [R1.2.1.1]; exact ct_lt hc hi) ⟨_, M2, f2.1, r2, ?_⟩), f'⟩
          rw [hr, mi_s]
          exact mb_y rfl h'
        · rw [hr, if_pos rfl] at ih
          have head : ∀ {r}, (if oI (mo_threat σ k i) = (-1) then sg X 112 (12, [some (.ref 0), some (.int (nI k)), some (.int (nI i)), some (.int (mo_brings σ i)), some (.int (nI i + 1)), some (.int (mo_brings σ i))], [], []) M2 r else (if mo_brings σ i ≤ y3 then sg X 112 (12, [some (.ref 0), some (.int (nI k)), some (.int (oI (mo_threat σ k i))), some (.int y3), some (.int (nI i + 1)), some (.int (mo_brings σ i))], [], []) M2 r else sg X 112 (12, [some (.ref 0), some (.int (nI k)), some (.int (nI i)), some (.int (mo_brings σ i)), some (.int (nI i + 1)), some (.int (mo_brings σ i))], [], []) M2 r)) → sg X 112 (12, [some (.ref 0), some (.int (nI k)), some (.int (oI (mo_threat σ k i))), some (.int y3), some (.int (nI i)), o5], [], []) M1 r := by
            intro r hh
            refine t_112_12 f1.1 _ _ _ _ _ (mb_n (by rw [R1.2.1.1]; exact ct_lt hc hi) ⟨_, M2, f2.1, r2, ?_⟩)
            rw [hr]
            exact mb_n (by decide) ⟨i, by omega, mb_ix (by omega) (by decide), _, M2, f2.1, sk_44 f2.1 h65 R2 hc hi, hh⟩
          cases ht : mo_threat σ k i with
          | none =>
            rw [ht] at ih
            obtain ⟨M', h', f'⟩ := ih M2 (mo_brings σ i) (some (.int (mo_brings σ i))) (f1.tr f2) (fun c hc => by cases hc; rfl)
            rw [ht] at head
            exact ⟨M', head (mb_y rfl (by rw [mi_s]; exact h')), f'⟩
          | some c =>
            have hcl := (mo_threat_lt _ _ _ _ ht).1
            have ey := hy c ht
            rw [ht] at ih head
            dsimp only at ih
            by_cases hb : mo_brings σ c < mo_brings σ i
            · rw [if_pos hb] at ih
              obtain ⟨M', h', f'⟩ := ih M2 (mo_brings σ i) (some (.int (mo_brings σ i))) (f1.tr f2) (fun d hd => by cases hd; rfl)
              exact ⟨M', head (mb_n (mi_n1 (by omega)) (mb_n (by rw [ey]; exact mb_le.mpr hb) (by rw [mi_s]; exact h'))), f'⟩
            · rw [if_neg hb] at ih
              obtain ⟨M', h', f'⟩ := ih M2 y3 (some (.int (mo_brings σ i))) (f1.tr f2) (fun d hd => by cases hd; exact ey)
              exact ⟨M', head (mb_n (mi_n1 (by omega)) (mb_y (by rw [ey]; exact mb_lt.mp hb) (by rw [mi_s]; exact h'))), f'⟩
    obtain ⟨M', h', f'⟩ := H 0 (Nat.zero_le _) M 0 none (fr.rf hL) (fun c hc => by cases hc)
    exact ⟨M', t_112 hL _ (Or.inl ⟨M, hL, c0.1 h0, h'⟩), f'.qx⟩
  · rw [if_neg h0]
    exact ⟨_, t_112 hL _ (Or.inr ⟨0, _, c0.2 (bf h0), rfl⟩), (fr.rf hL).ux⟩
theorem fly_0 {i : Nat} : mo_fly σ i = true ↔ kf σ i 0 = 0 := by unfold mo_fly; exact decide_eq_true_iff
/-- highest -/
theorem ca_105 (hL : ab_lay M) (hR : Rb 65 σ nk nw ne fe M) (hv : vs σ nk nw ne) : ca (cX 65) X 105 [] M (.inl (oI (mo_hi σ nk))) := by
  have hc := hv.1
  have h10 := hc.1
  have H : ∀ i, i ≤ nk → ∀ o3, sg X 105 (4, [some (.ref 0), some (.int (oI (mo_hi σ i))), some (.int (nI i)), o3], [], []) M (oc (.inl (oI (mo_hi σ nk))), M) := by
    refine mb_up ?_ ?_
    · intro o3
      exact t_105_4 hL _ _ _ (mb_y (by rw [hR.2.1.1]; exact ct_ge hc) rfl)
    · intro i hi ih o3
      have ih := ih (some (.ref (65 + 6 + i)))
      have ix : ab_ix (nI i) i 10 := mb_ix (by omega) (by decide)
      refine t_105_4 hL _ _ _ (mb_n (by rw [hR.2.1.1]; exact ct_lt hc hi) ⟨i, by omega, ix, ?_⟩)
      rw [hR.kk hi (by decide), hR.kk hi (by decide), mi_s]
      rw [mo_hi_s] at ih
      by_cases h0 : kf σ i 0 = 0
      · rw [if_pos (fly_0.mpr h0)] at ih
        refine mb_y h0 ?_
        cases ht : mo_hi σ i with
        | none => rw [ht] at ih; exact mb_y rfl ih
        | some c =>
          have hcl := mo_hi_lt _ _ _ ht
          rw [ht] at ih
          refine mb_n (mi_n1 (by omega)) ⟨c, by omega, mb_ix (by omega) (by decide), ?_⟩
          rw [hR.kk (by omega) (by decide)]
          dsimp only at ih
          by_cases hh : kf σ c 3 < kf σ i 3
          · rw [if_pos hh] at ih; exact mb_n (mb_le.mpr hh) ih
          · rw [if_neg hh] at ih; exact mb_y (mb_lt.mp hh) ih
      · rw [if_neg (fun e => h0 (fly_0.mp e))] at ih
        exact mb_n h0 ih
  exact ⟨M, t_105 hL (H 0 (Nat.zero_le _) none), (fr.rf hL).qx⟩
/-- picker -/
def sp_108 (σ : Nat → Int32) (n : Nat) (x y bt : Int32) : Int32 ⊕ Nat := if in32 x 0 199 = true ∧ in32 y 0 199 = true ∧ in32 bt (-1) (σ 1 - 1) = true then .inl (oI (mo_pkr σ x y bt n).1) else .inr 1
/-- gap -/
def sp_109 (σ : Nat → Int32) (x y : Int32) : Int32 ⊕ Nat := if mo_isK σ x = true then (if mo_isK σ y = true then .inl (mo_gap σ (kN x) (kN y)) else .inr 0) else .inr 0
theorem ca_109 (hL : ab_lay M) (hR : Rb 65 σ nk nw ne fe M) (hv : vs σ nk nw ne) (x y : Int32) : ca (cX 65) X 109 [.int x, .int y] M (sp_109 σ x y) := by
  have hc := hv.1
  have h10 := hc.1
  have c0 := ck_144 (X := X) hL hR.2.1.1 (x := x)
  have c1 := ck_144 (X := X) hL hR.2.1.1 (x := y)
  unfold sp_109
  by_cases h0 : mo_isK σ x = true
  · rw [if_pos h0]
    by_cases h1 : mo_isK σ y = true
    · rw [if_pos h1]
      obtain ⟨k, hk, rfl⟩ := (isK_of hc).mp h0
      obtain ⟨j, hj, rfl⟩ := (isK_of hc).mp h1
      rw [kN_n (by omega), kN_n (by omega)]
      have q := gap_sq (hv.kp hk) (hv.kp hj)
      have e : mo_sq (ak_I M (65 + 6 + j) 1 - ak_I M (65 + 6 + k) 1) (ak_I M (65 + 6 + j) 2 - ak_I M (65 + 6 + k) 2) (ak_I M (65 + 6 + j) 3 - ak_I M (65 + 6 + k) 3) = mo_sq (kf σ k 1 - kf σ j 1) (kf σ k 2 - kf σ j 2) (kf σ k 3 - kf σ j 3) := by
        rw [sq_neg3, hR.kk hk (by decide), hR.kk hk (by decide), hR.kk hk (by decide), hR.kk hj (by decide), hR.kk hj (by decide), hR.kk hj (by decide)]
      have s := sk_41 (X := X) hL h65 (k := k) (by omega) (x := ak_I M (65 + 6 + j) 1) (y := ak_I M (65 + 6 + j) 2) (z := ak_I M (65 + 6 + j) 3) (by rw [e]; omega)
      rw [e] at s
      have hq := iq_le (mo_sq (kf σ k 1 - kf σ j 1) (kf σ k 2 - kf σ j 2) (kf σ k 3 - kf σ j 3)).toNatClampNeg 511
      refine ⟨M, t_109 hL _ _ (Or.inl ⟨M, hL, c0.1 h0, Or.inl ⟨M, hL, c1.1 h1, j, by omega, mb_ix (by omega) (by decide), k, by omega, mb_ix (by omega) (by decide), _, M, hL, s, _, M, hL, jm_min hL, ?_⟩⟩), (fr.rf hL).qx⟩
      rw [show (400 : Int32) = nI 400 from rfl, mn_nat (by decide) (by omega), ← iq_min (by decide)]
      rfl
    · rw [if_neg h1]
      exact ⟨_, t_109 hL _ _ (Or.inl ⟨M, hL, c0.1 h0, Or.inr ⟨0, _, c1.2 (bf h1), rfl⟩⟩), (fr.rf hL).ux⟩
  · rw [if_neg h0]
    exact ⟨_, t_109 hL _ _ (Or.inr ⟨0, _, c0.2 (bf h0), rfl⟩), (fr.rf hL).ux⟩
end SCL
