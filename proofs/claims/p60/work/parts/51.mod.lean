/-! what the model's methods answer, over the row of what is now -/
/-- a number of a kite -/
def kf (σ : Nat → Int32) (k w : Nat) : Int32 := σ (23 + 15 * k + w)
def wf (σ : Nat → Int32) (i w : Nat) : Int32 := σ (11 + 3 * i + w)
def ef (σ : Nat → Int32) (j w : Nat) : Int32 := σ (173 + 6 * j + w)
abbrev ro (M : ak_M) : Nat → Int32 := ak_I M 484
/-- the counts of kites, winds and events -/
def ct (σ : Nat → Int32) (nk nw ne : Nat) : Prop := nk ≤ 10 ∧ (1 ≤ nw ∧ nw ≤ 4) ∧ ne ≤ 12 ∧ σ 1 = nI nk ∧ σ 2 = nI nw ∧ σ 9 = nI ne
def mo_isK (σ : Nat → Int32) (x : Int32) : Bool := in32 x 0 (σ 1 - 1)
def mo_fly (σ : Nat → Int32) (k : Nat) : Bool := decide (kf σ k 0 = 0)
def mo_held (σ : Nat → Int32) (k : Nat) : Bool := decide (kf σ k 0 = 0) || decide (kf σ k 0 = 1)
/-- the wind at a height, of the first n -/
def mo_wind (σ : Nat → Int32) (h : Int32) : Nat → Nat
  | 0 => 0
  | n + 1 => if wf σ n 0 ≤ h ∧ n ≠ 0 then n else mo_wind σ h n
theorem mo_wind_s (σ : Nat → Int32) (h : Int32) (n : Nat) : mo_wind σ h (n + 1) = if wf σ n 0 ≤ h ∧ n ≠ 0 then n else mo_wind σ h n := rfl
def mo_force (σ : Nat → Int32) (i : Nat) : Int32 := mx32 (ab32 (wf σ i 1)) (ab32 (wf σ i 2))
def mo_sq (x y z : Int32) : Int32 := x * x + y * y + z * z
/-- the greatest number up to m whose square is at most n -/
def iq (n : Nat) : Nat → Nat
  | 0 => 0
  | m + 1 => if (m + 1) * (m + 1) ≤ n then m + 1 else iq n m
def mo_wx (σ : Nat → Int32) (k : Nat) : Int32 := kf σ k 1 - kf σ k 4
def mo_wy (σ : Nat → Int32) (k : Nat) : Int32 := kf σ k 2 - kf σ k 5
def mo_span (σ : Nat → Int32) (k : Nat) : Int32 := nI (iq (mo_sq (mo_wx σ k) (mo_wy σ k) (kf σ k 3)).toNatClampNeg 1000)
def mo_slack (σ : Nat → Int32) (k : Nat) : Int32 := kf σ k 6 - mo_span σ k
def mo_area (x y a b : Int32) : Int32 := x * b - y * a
def mo_sgn (v : Int32) : Int32 := if v ≤ 0 then (if 0 ≤ v then 0 else (-1)) else 1
def mo_side (σ : Nat → Int32) (k : Nat) (x y : Int32) : Int32 := mo_sgn (mo_area (mo_wx σ k) (mo_wy σ k) (x - kf σ k 4) (y - kf σ k 5))
def mo_part (σ : Nat → Int32) (k o : Nat) : Bool := decide (mo_side σ k (kf σ o 4) (kf σ o 5) * mo_side σ k (kf σ o 1) (kf σ o 2) < 0)
def mo_cross (σ : Nat → Int32) (k o : Nat) : Bool := mo_fly σ k && (mo_fly σ o && (mo_part σ k o && mo_part σ o k))
def mo_q0 (σ : Nat → Int32) (k o : Nat) : Int32 := mo_area (mo_wx σ k) (mo_wy σ k) (mo_wx σ o) (mo_wy σ o)
def mo_p0 (σ : Nat → Int32) (k o : Nat) : Int32 := mo_area (kf σ o 4 - kf σ k 4) (kf σ o 5 - kf σ k 5) (mo_wx σ o) (mo_wy σ o)
def mo_q (σ : Nat → Int32) (k o : Nat) : Int32 := if mo_q0 σ k o ≤ 0 then - mo_q0 σ k o else mo_q0 σ k o
def mo_p (σ : Nat → Int32) (k o : Nat) : Int32 := if mo_q0 σ k o ≤ 0 then - mo_p0 σ k o else mo_p0 σ k o
def mo_high (σ : Nat → Int32) (k o : Nat) : Int32 := mx32 0 (fd32 (kf σ k 3 * mo_p σ k o) (mo_q σ k o) - mx32 0 (mo_slack σ k) / 2)
def mo_apart (σ : Nat → Int32) (k o : Nat) : Int32 := ab32 (mo_high σ k o - mo_high σ o k)
def mo_rub (σ : Nat → Int32) (k o : Nat) : Bool := mo_cross σ k o && decide (mo_apart σ k o ≤ σ 7)
def mo_crX (σ : Nat → Int32) (a b : Nat) : Int32 := kf σ a 4 + fd32 (mo_wx σ a * mo_p σ a b) (mo_q σ a b)
def mo_crY (σ : Nat → Int32) (a b : Nat) : Int32 := kf σ a 5 + fd32 (mo_wy σ a * mo_p σ a b) (mo_q σ a b)
def mo_brings (σ : Nat → Int32) (k : Nat) : Int32 := kf σ k 8 * (1 + ab32 (kf σ k 7))
/-- the wear of the first n -/
def mo_wear (σ : Nat → Int32) (k : Nat) : Nat → Int32
  | 0 => 0
  | n + 1 => if mo_rub σ k n = true then mo_wear σ k n + mo_brings σ n else mo_wear σ k n
theorem mo_wear_s (σ : Nat → Int32) (k n : Nat) : mo_wear σ k (n + 1) = if mo_rub σ k n = true then mo_wear σ k n + mo_brings σ n else mo_wear σ k n := rfl
/-- by whom of the first n -/
def mo_threat (σ : Nat → Int32) (k : Nat) : Nat → Option Nat
  | 0 => none
  | n + 1 => if mo_rub σ k n = true then (match mo_threat σ k n with | none => some n | some b => if mo_brings σ b < mo_brings σ n then some n else some b) else mo_threat σ k n
theorem mo_threat_s (σ : Nat → Int32) (k n : Nat) : mo_threat σ k (n + 1) = if mo_rub σ k n = true then (match mo_threat σ k n with | none => some n | some b => if mo_brings σ b < mo_brings σ n then some n else some b) else mo_threat σ k n := rfl
def oI (o : Option Nat) : Int32 := match o with | none => (-1) | some k => nI k
def mo_field (v : Int32) : Int32 := mx32 0 (mn32 199 v)
section SGM
variable {X : ak_X} {M : ak_M} {nk nw ne : Nat}
theorem mb_kf {k w : Nat} (hk : k < 10) (hw : w < 15) : ab_ix (23 + 15 * nI k + nI w) (23 + 15 * k + w) 245 := by
  refine mb_ixe ?_ (by omega) (by omega)
  rw [show (23 : Int32) = nI 23 from rfl, show (15 : Int32) = nI 15 from rfl, mi_mul, mi_add, mi_add]
theorem mb_wf {k w : Nat} (hk : k < 4) (hw : w < 3) : ab_ix (11 + 3 * nI k + nI w) (11 + 3 * k + w) 245 := by
  refine mb_ixe ?_ (by omega) (by omega)
  rw [show (11 : Int32) = nI 11 from rfl, show (3 : Int32) = nI 3 from rfl, mi_mul, mi_add, mi_add]
theorem mo_wind_lt (σ : Nat → Int32) (h : Int32) : ∀ n, 1 ≤ n → mo_wind σ h n < n
  | 0, h1 => absurd h1 (by decide)
  | 1, _ => by unfold mo_wind; rw [if_neg (fun e => e.2 rfl)]; show 0 < 1; decide
  | n + 2, _ => by
    unfold mo_wind
    split
    · omega
    · have := mo_wind_lt σ h (n + 1) (by omega); omega
theorem mo_wind_1 (σ : Nat → Int32) (h : Int32) : mo_wind σ h 1 = 0 := by
  unfold mo_wind
  rw [if_neg (fun e => e.2 rfl)]
  rfl
theorem iq_le (n m : Nat) : iq n m ≤ m := by
  induction m with
  | zero => exact Nat.le_refl _
  | succ m ih => unfold iq; split <;> omega
theorem iq_sq (n m : Nat) : iq n m * iq n m ≤ n := by
  induction m with
  | zero => exact Nat.zero_le _
  | succ m ih => unfold iq; split <;> assumption
theorem iq_gt (n m : Nat) : ∀ v, v ≤ m → v * v ≤ n → v ≤ iq n m := by
  induction m with
  | zero => intro v hv _; omega
  | succ m ih =>
    intro v hv hq
    unfold iq
    split
    · exact hv
    · rename_i hn
      refine ih v ?_ hq
      by_cases e : v = m + 1
      · subst e; exact absurd hq hn
      · omega
theorem iq_un {n m v : Nat} (hv : v ≤ m) (h1 : v * v ≤ n) (h2 : n < (v + 1) * (v + 1)) : iq n m = v := by
  refine Nat.le_antisymm ?_ (iq_gt n m v hv h1)
  refine Nat.le_of_not_lt fun h => ?_
  have h3 := iq_sq n m
  have h4 : (v + 1) * (v + 1) ≤ iq n m * iq n m := Nat.mul_le_mul h h
  omega
theorem mb_le {a b : Int32} : ¬ a ≤ b ↔ b < a := Int32.not_le
theorem mb_lt {a b : Int32} : ¬ a < b ↔ b ≤ a := Int32.not_lt
/-- a kite's places are those of the field -/
def kp (σ : Nat → Int32) (k : Nat) : Prop := in32 (kf σ k 1) 0 199 = true ∧ in32 (kf σ k 2) 0 199 = true ∧ in32 (kf σ k 3) 0 300 = true ∧ in32 (kf σ k 4) 0 199 = true ∧ in32 (kf σ k 5) 0 199 = true
theorem mb_i0 : (0 : Int32).toInt = 0 := rfl
theorem mb_i199 : (199 : Int32).toInt = 199 := rfl
theorem mb_i300 : (300 : Int32).toInt = 300 := rfl
theorem mi_in {x : Int32} {a b : Nat} (ha : a < 2147483648) (hb : b < 2147483648) (h : in32 x (nI a) (nI b) = true) : (a : Int) ≤ x.toInt ∧ x.toInt ≤ b := by
  rw [in32_t, mi_t ha, mi_t hb] at h; exact h
theorem mi_199 {x : Int32} (h : in32 x 0 199 = true) : 0 ≤ x.toInt ∧ x.toInt ≤ 199 := in32_t.mp h
theorem mi_300 {x : Int32} (h : in32 x 0 300 = true) : 0 ≤ x.toInt ∧ x.toInt ≤ 300 := in32_t.mp h
theorem mi_sq {a : Int} {n : Int} (h1 : -n ≤ a) (h2 : a ≤ n) : 0 ≤ a * a ∧ a * a ≤ n * n := by
  have hn : 0 ≤ n := by omega
  by_cases h : 0 ≤ a
  · exact ⟨Int.mul_nonneg h h, Int.mul_le_mul h2 h2 h hn⟩
  · have h3 : a * a = (-a) * (-a) := by rw [Int.neg_mul_neg]
    rw [h3]
    exact ⟨Int.mul_nonneg (by omega) (by omega), Int.mul_le_mul (by omega) (by omega) (by omega) hn⟩
/-- the sum of three squares as a number -/
theorem mi_sq3 {x y z : Int32} {a b c : Int} (hx : -a ≤ x.toInt ∧ x.toInt ≤ a) (hy : -b ≤ y.toInt ∧ y.toInt ≤ b) (hz : -c ≤ z.toInt ∧ z.toInt ≤ c) (ha : a ≤ 20000) (hb : b ≤ 20000) (hc : c ≤ 20000) :
    (mo_sq x y z).toInt = x.toInt * x.toInt + y.toInt * y.toInt + z.toInt * z.toInt ∧ 0 ≤ (mo_sq x y z).toInt ∧ (mo_sq x y z).toInt ≤ a * a + b * b + c * c := by
  have h1 := mi_sq hx.1 hx.2
  have h2 := mi_sq hy.1 hy.2
  have h3 := mi_sq hz.1 hz.2
  have ha2 : a * a ≤ 20000 * 20000 := Int.mul_le_mul ha ha (by omega) (by omega)
  have hb2 : b * b ≤ 20000 * 20000 := Int.mul_le_mul hb hb (by omega) (by omega)
  have hc2 : c * c ≤ 20000 * 20000 := Int.mul_le_mul hc hc (by omega) (by omega)
  have e : (mo_sq x y z).toInt = x.toInt * x.toInt + y.toInt * y.toInt + z.toInt * z.toInt := by
    unfold mo_sq
    have ex : (x * x).toInt = x.toInt * x.toInt := j3_mul (by omega) (by omega)
    have ey : (y * y).toInt = y.toInt * y.toInt := j3_mul (by omega) (by omega)
    have ez : (z * z).toInt = z.toInt * z.toInt := j3_mul (by omega) (by omega)
    have e1 : (x * x + y * y).toInt = x.toInt * x.toInt + y.toInt * y.toInt := by rw [j3_add (by omega) (by omega), ex, ey]
    rw [j3_add (by omega) (by omega), e1, ez]
  exact ⟨e, by omega, by omega⟩
theorem mi_sub {x y : Int32} {a b c d : Int} (hx : a ≤ x.toInt ∧ x.toInt ≤ b) (hy : c ≤ y.toInt ∧ y.toInt ≤ d) (h1 : -2147483648 ≤ a - d) (h2 : b - c < 2147483648) : (x - y).toInt = x.toInt - y.toInt ∧ a - d ≤ (x - y).toInt ∧ (x - y).toInt ≤ b - c := by
  have e : (x - y).toInt = x.toInt - y.toInt := j3_sub (by omega) (by omega)
  omega
theorem mi_addb {x y : Int32} {a b c d : Int} (hx : a ≤ x.toInt ∧ x.toInt ≤ b) (hy : c ≤ y.toInt ∧ y.toInt ≤ d) (h1 : -2147483648 ≤ a + c) (h2 : b + d < 2147483648) : (x + y).toInt = x.toInt + y.toInt ∧ a + c ≤ (x + y).toInt ∧ (x + y).toInt ≤ b + d := by
  have e : (x + y).toInt = x.toInt + y.toInt := j3_add (by omega) (by omega)
  omega
theorem kp_wx {σ : Nat → Int32} {k : Nat} (h : kp σ k) : (mo_wx σ k).toInt = (kf σ k 1).toInt - (kf σ k 4).toInt ∧ -199 ≤ (mo_wx σ k).toInt ∧ (mo_wx σ k).toInt ≤ 199 :=
  mi_sub (mi_199 h.1) (mi_199 h.2.2.2.1) (by decide) (by decide)
theorem kp_wy {σ : Nat → Int32} {k : Nat} (h : kp σ k) : (mo_wy σ k).toInt = (kf σ k 2).toInt - (kf σ k 5).toInt ∧ -199 ≤ (mo_wy σ k).toInt ∧ (mo_wy σ k).toInt ≤ 199 :=
  mi_sub (mi_199 h.2.1) (mi_199 h.2.2.2.2) (by decide) (by decide)
theorem kp_sq {σ : Nat → Int32} {k : Nat} (h : kp σ k) : (mo_sq (mo_wx σ k) (mo_wy σ k) (kf σ k 3)).toInt = (mo_wx σ k).toInt * (mo_wx σ k).toInt + (mo_wy σ k).toInt * (mo_wy σ k).toInt + (kf σ k 3).toInt * (kf σ k 3).toInt ∧ 0 ≤ (mo_sq (mo_wx σ k) (mo_wy σ k) (kf σ k 3)).toInt ∧ (mo_sq (mo_wx σ k) (mo_wy σ k) (kf σ k 3)).toInt ≤ 199 * 199 + 199 * 199 + 300 * 300 := by
  have h3 := mi_300 h.2.2.1
  exact mi_sq3 (kp_wx h).2 (kp_wy h).2 ⟨by omega, h3.2⟩ (by decide) (by decide) (by decide)
end SGM
