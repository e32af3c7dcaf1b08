/-! what is sound, purely -/
section PSN
variable {σ : Nat → Int32} {nk nw ne a b n : Nat}
theorem s_sub (x y : Int32) : y - x = -(x - y) := by grind
theorem s_abn (z : Int32) : ab32 (-z) = ab32 z := by
  by_cases hm : z.toInt = -2147483648
  · have e : z = -2147483648 := by apply Int32.toInt_inj.mp; rw [hm]; rfl
    subst e
    decide
  · have h1 := j3_neg hm
    unfold ab32
    by_cases h0 : 0 ≤ z
    · rw [if_pos h0]
      have h0' := j3_nn.mp h0
      by_cases h2 : 0 ≤ -z
      · rw [if_pos h2]
        have h2' := j3_nn.mp h2
        apply Int32.toInt_inj.mp
        omega
      · rw [if_neg h2, Int32.neg_neg]
    · rw [if_neg h0]
      have h0' : ¬ 0 ≤ z.toInt := fun e => h0 (j3_nn.mpr e)
      rw [if_pos (j3_nn.mpr (by omega))]
theorem s_apart (σ : Nat → Int32) (a b : Nat) : mo_apart σ b a = mo_apart σ a b := by
  unfold mo_apart
  rw [s_sub (mo_high σ a b), s_abn]
theorem s_rub (h : kp σ a) (h' : kp σ b) : mo_rub σ b a = mo_rub σ a b := by
  unfold mo_rub
  rw [cross_s h h', s_apart]
theorem s_self (h : kp σ a) : mo_cross σ a a = false := by
  cases e : mo_cross σ a a with
  | false => rfl
  | true =>
    have := (cross_t h h).mp e
    have e0 : zS σ a a = 0 := by unfold zS zdx zdy; grind
    rw [e0] at this
    omega
theorem s_fly (h : mo_cross σ a b = true) : kf σ a 0 = 0 ∧ kf σ b 0 = 0 := by
  unfold mo_cross at h
  simp only [Bool.and_eq_true] at h
  unfold mo_fly at h
  exact ⟨of_decide_eq_true h.1, of_decide_eq_true h.2.1⟩
theorem s_rc (h : mo_rub σ a b = true) : mo_cross σ a b = true := by
  unfold mo_rub at h
  rw [Bool.and_eq_true] at h
  exact h.1
theorem s_h0 (σ : Nat → Int32) (a b : Nat) : 0 ≤ (mo_high σ a b).toInt := by
  unfold mo_high
  rw [mx32_t, show (0 : Int32).toInt = 0 from rfl]
  split <;> omega
theorem s_ap0 (σ : Nat → Int32) (a b : Nat) : 0 ≤ mo_apart σ a b := by
  have h1 := s_h0 σ a b
  have h2 := s_h0 σ b a
  have h3 := Int32.toInt_lt (mo_high σ a b)
  have h4 := Int32.toInt_lt (mo_high σ b a)
  have h5 := j3_sub (x := mo_high σ a b) (y := mo_high σ b a) (by omega) (by omega)
  apply j3_nn.mpr
  unfold mo_apart
  rw [ab32_t (by omega)]
  split <;> omega
theorem s_gap (σ : Nat → Int32) (a b : Nat) : mo_gap σ b a = mo_gap σ a b := by
  unfold mo_gap mo_sq
  have e : ∀ x y : Int32, (y - x) * (y - x) = (x - y) * (x - y) := by intro x y; grind
  rw [e (kf σ a 1), e (kf σ a 2), e (kf σ a 3)]
theorem s_cX (σ : Nat → Int32) (a b : Nat) : mo_cX σ b a = mo_cX σ a b := by
  unfold mo_cX
  rw [Nat.min_comm, Nat.max_comm]
/-! masks -/
def mN (f : Nat → Bool) : Nat → Nat
  | 0 => 0
  | n + 1 => if f n = true then mN f n + 2 ^ n else mN f n
theorem mN_lt (f : Nat → Bool) : ∀ n, mN f n < 2 ^ n
  | 0 => by show 0 < 1; omega
  | n + 1 => by
    have := mN_lt f n
    show (if f n = true then mN f n + 2 ^ n else mN f n) < 2 ^ n * 2
    split <;> omega
theorem mk_or : ∀ n, n < 10 → ∀ v, v < 2 ^ n → nI v ||| ((1 : Int32) <<< (nI n &&& 31)) = nI (v + 2 ^ n) := by decide +kernel
theorem mk_bit : ∀ n, n < 10 → ∀ v, v < 2 ^ n → ∀ b, b < n + 1 → (v + 2 ^ n) / 2 ^ b % 2 = if b = n then 1 else v / 2 ^ b % 2 := by decide +kernel
theorem mk_get : ∀ b, b < 10 → ∀ v, v < 1024 → (nI v >>> (nI b &&& 31)) &&& 1 = nI (v / 2 ^ b % 2) := by decide +kernel
theorem mN_b (f : Nat → Bool) : ∀ n, n ≤ 10 → ∀ b, b < n → mN f n / 2 ^ b % 2 = if f b = true then 1 else 0
  | 0, _, b, h => absurd h (Nat.not_lt_zero b)
  | n + 1, hn, b, h => by
    have h1 := mN_lt f n
    show (if f n = true then mN f n + 2 ^ n else mN f n) / 2 ^ b % 2 = _
    by_cases e : b = n
    · subst e
      by_cases hf : f b = true
      · rw [if_pos hf, if_pos hf, mk_bit b (by omega) _ h1 b (by omega), if_pos rfl]
      · rw [if_neg hf, if_neg hf, Nat.div_eq_of_lt h1]
    · have ih := mN_b f n (by omega) b (by omega)
      by_cases hf : f n = true
      · rw [if_pos hf, mk_bit n (by omega) _ h1 b (by omega), if_neg e, ih]
      · rw [if_neg hf, ih]
theorem mN_0 (f : Nat → Bool) : ∀ n, mN f n = 0 ↔ ∀ b, b < n → f b = false
  | 0 => ⟨fun _ b h => absurd h (Nat.not_lt_zero b), fun _ => rfl⟩
  | n + 1 => by
    have ih := mN_0 f n
    have h2 : 0 < 2 ^ n := Nat.two_pow_pos n
    show (if f n = true then mN f n + 2 ^ n else mN f n) = 0 ↔ _
    by_cases hf : f n = true
    · rw [if_pos hf]
      exact ⟨fun h => by omega, fun h => by rw [h n (by omega)] at hf; cases hf⟩
    · rw [if_neg hf, ih]
      refine ⟨fun h b hb => ?_, fun h b hb => h b (by omega)⟩
      by_cases e : b = n
      · subst e; exact bf hf
      · exact h b (by omega)
theorem rs_N (σ : Nat → Int32) (a : Nat) : ∀ n, n ≤ 10 → mo_rs σ a n = nI (mN (mo_rub σ a) n)
  | 0, _ => rfl
  | n + 1, h => by
    rw [mo_rs_s, rs_N σ a n (by omega), mk_or n (by omega) _ (mN_lt _ n)]
    show _ = nI (if mo_rub σ a n = true then _ else _)
    split <;> rfl
theorem bx_N (σ : Nat → Int32) (x y tx ty : Int32) : ∀ n, n ≤ 10 → mo_bx σ x y tx ty n = nI (mN (fun k => in32 (kf σ k 1) x tx && in32 (kf σ k 2) y ty) n)
  | 0, _ => rfl
  | n + 1, h => by
    rw [mo_bx_s, bx_N σ x y tx ty n (by omega), mk_or n (by omega) _ (mN_lt _ n)]
    show _ = nI (if (in32 (kf σ n 1) x tx && in32 (kf σ n 2) y ty) = true then _ else _)
    by_cases h : in32 (kf σ n 1) x tx = true ∧ in32 (kf σ n 2) y ty = true
    · rw [if_pos h, if_pos (and_2.mpr h)]
    · rw [if_neg h, if_neg fun e => h (and_2.mp e)]
theorem mN_get (f : Nat → Bool) (hn : n ≤ 10) (hb : b < n) : (nI (mN f n) >>> (nI b &&& 31)) &&& 1 = bI (f b) := by
  have h1 := mN_lt f n
  have h2 : 2 ^ n ≤ 2 ^ 10 := Nat.pow_le_pow_right (by omega) hn
  rw [mk_get b (by omega) _ (by omega), mN_b f n hn b hb]
  cases f b <;> rfl
theorem rs_get (hn : nk ≤ 10) (hb : b < nk) : (mo_rs σ a nk >>> (nI b &&& 31)) &&& 1 = bI (mo_rub σ a b) := by
  rw [rs_N σ a nk hn]
  exact mN_get _ hn hb
theorem rs_0 (hn : nk ≤ 10) : mo_rs σ a nk = 0 ↔ ∀ b, b < nk → mo_rub σ a b = false := by
  have h1 := mN_lt (mo_rub σ a) nk
  have h2 : 2 ^ nk ≤ 2 ^ 10 := Nat.pow_le_pow_right (by omega) hn
  rw [rs_N σ a nk hn, ← mN_0]
  exact mi_eq (b := 0) (by omega) (by omega)
theorem th_n (σ : Nat → Int32) (a : Nat) : ∀ n, mo_threat σ a n = none ↔ ∀ b, b < n → mo_rub σ a b = false
  | 0 => ⟨fun _ b h => absurd h (Nat.not_lt_zero b), fun _ => rfl⟩
  | n + 1 => by
    have ih := th_n σ a n
    rw [mo_threat_s]
    by_cases hr : mo_rub σ a n = true
    · rw [if_pos hr]
      refine ⟨fun h => ?_, fun h => by rw [h n (by omega)] at hr; cases hr⟩
      exfalso
      revert h
      cases mo_threat σ a n with
      | none => intro h; cases h
      | some c => dsimp only; split <;> (intro h; cases h)
    · rw [if_neg hr, ih]
      refine ⟨fun h b hb => ?_, fun h b hb => h b (by omega)⟩
      by_cases e : b = n
      · subst e; exact bf hr
      · exact h b (by omega)
theorem hi_n (σ : Nat → Int32) : ∀ n, mo_hi σ n = none ↔ ∀ b, b < n → mo_fly σ b = false
  | 0 => ⟨fun _ b h => absurd h (Nat.not_lt_zero b), fun _ => rfl⟩
  | n + 1 => by
    have ih := hi_n σ n
    rw [mo_hi_s]
    by_cases hr : mo_fly σ n = true
    · rw [if_pos hr]
      refine ⟨fun h => ?_, fun h => by rw [h n (by omega)] at hr; cases hr⟩
      exfalso
      revert h
      cases mo_hi σ n with
      | none => intro h; cases h
      | some c => dsimp only; split <;> (intro h; cases h)
    · rw [if_neg hr, ih]
      refine ⟨fun h b hb => ?_, fun h b hb => h b (by omega)⟩
      by_cases e : b = n
      · subst e; exact bf hr
      · exact h b (by omega)
/-- how many kites are in a state -/
def nIn (σ : Nat → Int32) (s : Int32) : Nat → Nat
  | 0 => 0
  | n + 1 => if kf σ n 0 = s then nIn σ s n + 1 else nIn σ s n
theorem nIn_le (σ : Nat → Int32) (s : Int32) : ∀ n, nIn σ s n ≤ n
  | 0 => Nat.le_refl 0
  | n + 1 => by
    have := nIn_le σ s n
    show (if kf σ n 0 = s then nIn σ s n + 1 else nIn σ s n) ≤ n + 1
    split <;> omega
theorem ins_N (σ : Nat → Int32) (s : Int32) : ∀ n, mo_ins σ s n = nI (nIn σ s n)
  | 0 => rfl
  | n + 1 => by
    rw [mo_ins_s, ins_N σ s n, mi_s]
    show _ = nI (if kf σ n 0 = s then _ else _)
    split <;> rfl
theorem nIn_0 (σ : Nat → Int32) (s : Int32) : ∀ n, nIn σ s n = 0 ↔ ∀ b, b < n → ¬ kf σ b 0 = s
  | 0 => ⟨fun _ b h => absurd h (Nat.not_lt_zero b), fun _ => rfl⟩
  | n + 1 => by
    have ih := nIn_0 σ s n
    show (if kf σ n 0 = s then nIn σ s n + 1 else nIn σ s n) = 0 ↔ _
    by_cases hf : kf σ n 0 = s
    · rw [if_pos hf]
      exact ⟨fun h => by omega, fun h => absurd hf (h n (by omega))⟩
    · rw [if_neg hf, ih]
      refine ⟨fun h b hb => ?_, fun h b hb => h b (by omega)⟩
      by_cases e : b = n
      · subst e; exact hf
      · exact h b (by omega)
theorem in_04 {x : Int32} (h : in32 x 0 4 = true) : x = 0 ∨ x = 1 ∨ x = 2 ∨ x = 3 ∨ x = 4 := by
  have h1 := in32_t.mp h
  have h0 : (0 : Int32).toInt = 0 := rfl
  have h4 : (4 : Int32).toInt = 4 := rfl
  rw [h0, h4] at h1
  have : x.toInt = 0 ∨ x.toInt = 1 ∨ x.toInt = 2 ∨ x.toInt = 3 ∨ x.toInt = 4 := by omega
  rcases this with h | h | h | h | h
  · exact Or.inl (Int32.toInt_inj.mp h)
  · exact Or.inr (Or.inl (Int32.toInt_inj.mp h))
  · exact Or.inr (Or.inr (Or.inl (Int32.toInt_inj.mp h)))
  · exact Or.inr (Or.inr (Or.inr (Or.inl (Int32.toInt_inj.mp h))))
  · exact Or.inr (Or.inr (Or.inr (Or.inr (Int32.toInt_inj.mp h))))
theorem nIn_all (σ : Nat → Int32) : ∀ n, (∀ k, k < n → in32 (kf σ k 0) 0 4 = true) → nIn σ 0 n + nIn σ 1 n + nIn σ 2 n + nIn σ 3 n + nIn σ 4 n = n
  | 0, _ => rfl
  | n + 1, h => by
    have ih := nIn_all σ n fun k hk => h k (by omega)
    have e : ∀ s, nIn σ s (n + 1) = if kf σ n 0 = s then nIn σ s n + 1 else nIn σ s n := fun _ => rfl
    rw [e, e, e, e, e]
    rcases in_04 (h n (by omega)) with g | g | g | g | g
    all_goals
      rw [g]
      simp only [show ((0 : Int32) = 0) = True from eq_self _, show ((0 : Int32) = 1) = False from by decide, show ((0 : Int32) = 2) = False from by decide, show ((0 : Int32) = 3) = False from by decide, show ((0 : Int32) = 4) = False from by decide,
        show ((1 : Int32) = 0) = False from by decide, show ((1 : Int32) = 1) = True from eq_self _, show ((1 : Int32) = 2) = False from by decide, show ((1 : Int32) = 3) = False from by decide, show ((1 : Int32) = 4) = False from by decide,
        show ((2 : Int32) = 0) = False from by decide, show ((2 : Int32) = 1) = False from by decide, show ((2 : Int32) = 2) = True from eq_self _, show ((2 : Int32) = 3) = False from by decide, show ((2 : Int32) = 4) = False from by decide,
        show ((3 : Int32) = 0) = False from by decide, show ((3 : Int32) = 1) = False from by decide, show ((3 : Int32) = 2) = False from by decide, show ((3 : Int32) = 3) = True from eq_self _, show ((3 : Int32) = 4) = False from by decide,
        show ((4 : Int32) = 0) = False from by decide, show ((4 : Int32) = 1) = False from by decide, show ((4 : Int32) = 2) = False from by decide, show ((4 : Int32) = 3) = False from by decide, show ((4 : Int32) = 4) = True from eq_self _, if_true, if_false]
      omega
/-- the sums of states as the law adds them up -/
def stS (σ : Nat → Int32) (n : Nat) : Nat → Nat
  | 0 => 0
  | j + 1 => stS σ n j + nIn σ (nI j) n
theorem stS_5 (h : ∀ k, k < n → in32 (kf σ k 0) 0 4 = true) : stS σ n 5 = n := by
  have h1 := nIn_all σ n h
  show 0 + nIn σ (nI 0) n + nIn σ (nI 1) n + nIn σ (nI 2) n + nIn σ (nI 3) n + nIn σ (nI 4) n = n
  have e0 : nI 0 = (0 : Int32) := rfl
  have e1 : nI 1 = (1 : Int32) := rfl
  have e2 : nI 2 = (2 : Int32) := rfl
  have e3 : nI 3 = (3 : Int32) := rfl
  have e4 : nI 4 = (4 : Int32) := rfl
  rw [e0, e1, e2, e3, e4]
  omega
theorem vs_s04 (hv : vs σ nk nw ne) {k : Nat} (hk : k < nk) : in32 (kf σ k 0) 0 4 = true := hv.2.2.1 k hk 0 (by decide)
end PSN
