/-! two lines that cross, in whole numbers; the model's methods that leave p and q behind -/
theorem mi_pr {a b A B : Int} (h1 : -A ≤ a ∧ a ≤ A) (h2 : -B ≤ b ∧ b ≤ B) : -(A * B) ≤ a * b ∧ a * b ≤ A * B := by
  have h := Int.natAbs_mul a b
  have h3 : a.natAbs * b.natAbs ≤ A.natAbs * B.natAbs := Nat.mul_le_mul (by omega) (by omega)
  have h4 : ((A.natAbs * B.natAbs : Nat) : Int) = A * B := by
    rw [Int.natCast_mul, Int.natAbs_of_nonneg (by omega), Int.natAbs_of_nonneg (by omega)]
  rw [← h] at h3
  rw [← h4]
  generalize A.natAbs * B.natAbs = n at h3
  omega
theorem area_t {x y a b : Int32} (hx : -199 ≤ x.toInt ∧ x.toInt ≤ 199) (hy : -199 ≤ y.toInt ∧ y.toInt ≤ 199) (ha : -199 ≤ a.toInt ∧ a.toInt ≤ 199) (hb : -199 ≤ b.toInt ∧ b.toInt ≤ 199) :
    (mo_area x y a b).toInt = x.toInt * b.toInt - y.toInt * a.toInt ∧ -79202 ≤ (mo_area x y a b).toInt ∧ (mo_area x y a b).toInt ≤ 79202 := by
  have h1 := mi_pr hx hb
  have h2 := mi_pr hy ha
  unfold mo_area
  have e1 : (x * b).toInt = x.toInt * b.toInt := j3_mul (by omega) (by omega)
  have e2 : (y * a).toInt = y.toInt * a.toInt := j3_mul (by omega) (by omega)
  have e3 : (x * b - y * a).toInt = (x * b).toInt - (y * a).toInt := j3_sub (by omega) (by omega)
  rw [e3, e1, e2]
  omega
theorem sgn_neg {a b : Int32} : mo_sgn a * mo_sgn b < 0 ↔ (0 < a.toInt ∧ b.toInt < 0) ∨ (a.toInt < 0 ∧ 0 < b.toInt) := by
  unfold mo_sgn
  simp only [Int32.le_iff_toInt_le, Int32.toInt_zero]
  repeat' split
  all_goals (constructor <;> intro h <;> first | omega | exact absurd h (by decide) | decide)
/-- the ways and what lies between, in whole numbers -/
def zx (σ : Nat → Int32) (k : Nat) : Int := (kf σ k 1).toInt - (kf σ k 4).toInt
def zy (σ : Nat → Int32) (k : Nat) : Int := (kf σ k 2).toInt - (kf σ k 5).toInt
def zdx (σ : Nat → Int32) (k o : Nat) : Int := (kf σ o 4).toInt - (kf σ k 4).toInt
def zdy (σ : Nat → Int32) (k o : Nat) : Int := (kf σ o 5).toInt - (kf σ k 5).toInt
def zW (σ : Nat → Int32) (k o : Nat) : Int := zx σ k * zy σ o - zy σ k * zx σ o
def zP (σ : Nat → Int32) (k o : Nat) : Int := zdx σ k o * zy σ o - zdy σ k o * zx σ o
def zS (σ : Nat → Int32) (k o : Nat) : Int := zdx σ k o * zy σ k - zdy σ k o * zx σ k
theorem zring (ux uy vx vy dx dy : Int) : ux * (dy + vy) - uy * (dx + vx) = (ux * vy - uy * vx) - (dx * uy - dy * ux) := by grind
theorem zW_s (σ : Nat → Int32) (k o : Nat) : zW σ o k = - zW σ k o := by unfold zW; grind
theorem zP_s (σ : Nat → Int32) (k o : Nat) : zP σ o k = - zS σ k o := by unfold zP zS zdx zdy; grind
theorem zS_s (σ : Nat → Int32) (k o : Nat) : zS σ o k = - zP σ k o := by unfold zP zS zdx zdy; grind
section SGX
variable {σ : Nat → Int32} {k o : Nat}
theorem zx_b (h : kp σ k) : -199 ≤ zx σ k ∧ zx σ k ≤ 199 := by
  have := mi_199 h.1; have := mi_199 h.2.2.2.1; unfold zx; omega
theorem zy_b (h : kp σ k) : -199 ≤ zy σ k ∧ zy σ k ≤ 199 := by
  have := mi_199 h.2.1; have := mi_199 h.2.2.2.2; unfold zy; omega
theorem q0_t (h : kp σ k) (h' : kp σ o) : (mo_q0 σ k o).toInt = zW σ k o ∧ -79202 ≤ zW σ k o ∧ zW σ k o ≤ 79202 := by
  have a := area_t (kp_wx h).2 (kp_wy h).2 (kp_wx h').2 (kp_wy h').2
  rw [(kp_wx h).1, (kp_wy h).1, (kp_wx h').1, (kp_wy h').1] at a
  unfold mo_q0
  have e : zW σ k o = (mo_area (mo_wx σ k) (mo_wy σ k) (mo_wx σ o) (mo_wy σ o)).toInt := a.1.symm
  omega
theorem dx_t (h : kp σ k) (h' : kp σ o) : (kf σ o 4 - kf σ k 4).toInt = zdx σ k o ∧ -199 ≤ (kf σ o 4 - kf σ k 4).toInt ∧ (kf σ o 4 - kf σ k 4).toInt ≤ 199 :=
  mi_sub (mi_199 h'.2.2.2.1) (mi_199 h.2.2.2.1) (by decide) (by decide)
theorem dy_t (h : kp σ k) (h' : kp σ o) : (kf σ o 5 - kf σ k 5).toInt = zdy σ k o ∧ -199 ≤ (kf σ o 5 - kf σ k 5).toInt ∧ (kf σ o 5 - kf σ k 5).toInt ≤ 199 :=
  mi_sub (mi_199 h'.2.2.2.2) (mi_199 h.2.2.2.2) (by decide) (by decide)
theorem p0_t (h : kp σ k) (h' : kp σ o) : (mo_p0 σ k o).toInt = zP σ k o ∧ -79202 ≤ zP σ k o ∧ zP σ k o ≤ 79202 := by
  have a := area_t (dx_t h h').2 (dy_t h h').2 (kp_wx h').2 (kp_wy h').2
  rw [(dx_t h h').1, (dy_t h h').1, (kp_wx h').1, (kp_wy h').1] at a
  unfold mo_p0
  have e : zP σ k o = (mo_area (kf σ o 4 - kf σ k 4) (kf σ o 5 - kf σ k 5) (mo_wx σ o) (mo_wy σ o)).toInt := a.1.symm
  omega
theorem part_t (h : kp σ k) (h' : kp σ o) : mo_part σ k o = true ↔ (zS σ k o < 0 ∧ zW σ k o < zS σ k o) ∨ (0 < zS σ k o ∧ zS σ k o < zW σ k o) := by
  have ex : (kf σ o 1 - kf σ k 4).toInt = zdx σ k o + zx σ o ∧ -199 ≤ (kf σ o 1 - kf σ k 4).toInt ∧ (kf σ o 1 - kf σ k 4).toInt ≤ 199 := by
    have a := mi_sub (mi_199 h'.1) (mi_199 h.2.2.2.1) (by decide) (by decide)
    unfold zdx zx; omega
  have ey : (kf σ o 2 - kf σ k 5).toInt = zdy σ k o + zy σ o ∧ -199 ≤ (kf σ o 2 - kf σ k 5).toInt ∧ (kf σ o 2 - kf σ k 5).toInt ≤ 199 := by
    have a := mi_sub (mi_199 h'.2.1) (mi_199 h.2.2.2.2) (by decide) (by decide)
    unfold zdy zy; omega
  have a1 := (area_t (kp_wx h).2 (kp_wy h).2 (dx_t h h').2 (dy_t h h').2).1
  have a2 := (area_t (kp_wx h).2 (kp_wy h).2 ex.2 ey.2).1
  rw [(kp_wx h).1, (kp_wy h).1, (dx_t h h').1, (dy_t h h').1] at a1
  rw [(kp_wx h).1, (kp_wy h).1, ex.1, ey.1] at a2
  have b2 := zring (zx σ k) (zy σ k) (zx σ o) (zy σ o) (zdx σ k o) (zdy σ k o)
  have b1 : zx σ k * zdy σ k o - zy σ k * zdx σ k o = - zS σ k o := by unfold zS; grind
  have c1 := a1.trans b1
  have c2 : (mo_area (mo_wx σ k) (mo_wy σ k) (kf σ o 1 - kf σ k 4) (kf σ o 2 - kf σ k 5)).toInt = zW σ k o - zS σ k o := a2.trans b2
  unfold mo_part mo_side
  rw [decide_eq_true_eq, sgn_neg, c1, c2]
  omega
theorem cross_t (h : kp σ k) (h' : kp σ o) : mo_cross σ k o = true ↔ mo_fly σ k = true ∧ mo_fly σ o = true ∧ ((0 < zW σ k o ∧ 0 < zP σ k o ∧ zP σ k o < zW σ k o ∧ 0 < zS σ k o ∧ zS σ k o < zW σ k o) ∨ (zW σ k o < 0 ∧ zP σ k o < 0 ∧ zW σ k o < zP σ k o ∧ zS σ k o < 0 ∧ zW σ k o < zS σ k o)) := by
  unfold mo_cross
  rw [Bool.and_eq_true, Bool.and_eq_true, Bool.and_eq_true, part_t h h', part_t h' h, zS_s σ k o, zW_s σ k o]
  constructor
  · rintro ⟨a, b, c, d⟩; exact ⟨a, b, by omega⟩
  · rintro ⟨a, b, c⟩; exact ⟨a, b, by omega, by omega⟩
theorem cross_s (h : kp σ k) (h' : kp σ o) : mo_cross σ o k = mo_cross σ k o := by
  rw [Bool.eq_iff_iff, cross_t h h', cross_t h' h, zP_s σ k o, zS_s σ k o, zW_s σ k o]
  constructor
  · rintro ⟨a, b, c⟩; exact ⟨b, a, by omega⟩
  · rintro ⟨a, b, c⟩; exact ⟨b, a, by omega⟩
theorem q_t (h : kp σ k) (h' : kp σ o) : (mo_q σ k o).toInt = if zW σ k o ≤ 0 then - zW σ k o else zW σ k o := by
  have a := q0_t h h'
  unfold mo_q
  by_cases hc : mo_q0 σ k o ≤ 0
  · have hc' : zW σ k o ≤ 0 := by rw [Int32.le_iff_toInt_le, a.1] at hc; exact hc
    rw [if_pos hc, if_pos hc', j3_neg (by omega), a.1]
  · have hc' : ¬ zW σ k o ≤ 0 := by rw [Int32.le_iff_toInt_le, a.1] at hc; exact hc
    rw [if_neg hc, if_neg hc', a.1]
theorem p_t (h : kp σ k) (h' : kp σ o) : (mo_p σ k o).toInt = if zW σ k o ≤ 0 then - zP σ k o else zP σ k o := by
  have a := q0_t h h'
  have b := p0_t h h'
  unfold mo_p
  by_cases hc : mo_q0 σ k o ≤ 0
  · have hc' : zW σ k o ≤ 0 := by rw [Int32.le_iff_toInt_le, a.1] at hc; exact hc
    rw [if_pos hc, if_pos hc', j3_neg (by omega), b.1]
  · have hc' : ¬ zW σ k o ≤ 0 := by rw [Int32.le_iff_toInt_le, a.1] at hc; exact hc
    rw [if_neg hc, if_neg hc', b.1]
/-- where lines cross, the part is one of the whole -/
theorem pq_t (h : kp σ k) (h' : kp σ o) (hc : mo_cross σ k o = true) : 0 < (mo_p σ k o).toInt ∧ (mo_p σ k o).toInt < (mo_q σ k o).toInt ∧ (mo_q σ k o).toInt ≤ 79202 := by
  have a := (cross_t h h').mp hc
  have b := q0_t h h'
  rw [p_t h h', q_t h h']
  rcases a.2.2 with a | a
  · rw [if_neg (by omega), if_neg (by omega)]; omega
  · rw [if_pos (by omega), if_pos (by omega)]; omega
theorem q_nz (h : kp σ k) (h' : kp σ o) (hc : mo_cross σ k o = true) : mo_q σ k o ≠ 0 := by
  intro e
  have a := pq_t h h' hc
  rw [e, Int32.toInt_zero] at a
  omega
end SGX
/-! the model's p and q -/
def mo_pq (p k : Nat) : Prop := p = 483 ∧ (k = 9 ∨ k = 10)
theorem pq_ro : ∀ k, ¬ mo_pq 484 k := fun _ h => absurd h.1 (by decide)
section SGN
variable {X : ak_X} {M : ak_M} {nk nw ne : Nat}
theorem mn_le {a b : Nat} (h : a ≤ b) (hb : b < 2147483648) : mn32 (nI a) (nI b) = nI a := by
  unfold mn32; rw [if_neg (by rw [mi_lt hb (by omega)]; omega)]
theorem mn_gt {a b : Nat} (h : b ≤ a) (hb : a < 2147483648) : mn32 (nI a) (nI b) = nI b := by
  unfold mn32
  by_cases e : b = a
  · subst e; split <;> rfl
  · rw [if_pos (by rw [mi_lt (by omega) hb]; omega)]
theorem mx_le {a b : Nat} (h : a ≤ b) (hb : b < 2147483648) : mx32 (nI a) (nI b) = nI b := by
  unfold mx32
  by_cases e : a = b
  · subst e; split <;> rfl
  · rw [if_pos (by rw [mi_lt (by omega) hb]; omega)]
theorem mx_gt {a b : Nat} (h : b ≤ a) (hb : a < 2147483648) : mx32 (nI a) (nI b) = nI a := by
  unfold mx32; rw [if_neg (by rw [mi_lt hb (by omega)]; omega)]
theorem mn_nat {a b : Nat} (ha : a < 2147483648) (hb : b < 2147483648) : mn32 (nI a) (nI b) = nI (min a b) := by
  by_cases h : a ≤ b
  · rw [mn_le h hb, Nat.min_eq_left h]
  · rw [mn_gt (by omega) ha, Nat.min_eq_right (by omega)]
theorem mx_nat {a b : Nat} (ha : a < 2147483648) (hb : b < 2147483648) : mx32 (nI a) (nI b) = nI (max a b) := by
  by_cases h : a ≤ b
  · rw [mx_le h hb, Nat.max_eq_right h]
  · rw [mx_gt (by omega) ha, Nat.max_eq_left (by omega)]
/-- the crossing's place, for the smaller number first -/
def mo_cX (σ : Nat → Int32) (k o : Nat) : Int32 := mo_crX σ (min k o) (max k o)
def mo_cY (σ : Nat → Int32) (k o : Nat) : Int32 := mo_crY σ (min k o) (max k o)
theorem kp_mm {σ : Nat → Int32} {k o : Nat} (h : kp σ k) (h' : kp σ o) (hc : mo_cross σ k o = true) : kp σ (min k o) ∧ kp σ (max k o) ∧ mo_cross σ (min k o) (max k o) = true := by
  by_cases e : k ≤ o
  · rw [Nat.min_eq_left e, Nat.max_eq_right e]; exact ⟨h, h', hc⟩
  · rw [Nat.min_eq_right (by omega), Nat.max_eq_left (by omega), cross_s h h']; exact ⟨h', h, hc⟩
theorem ct_lt {σ : Nat → Int32} (hc : ct σ nk nw ne) {i : Nat} (hi : i < nk) : ¬ σ 1 ≤ nI i := by
  rw [hc.2.2.2.1, mi_le (by have := hc.1; omega) (by have := hc.1; omega)]; omega
theorem ct_ge {σ : Nat → Int32} (hc : ct σ nk nw ne) : σ 1 ≤ nI nk := by rw [hc.2.2.2.1]; exact Int32.le_refl _
theorem mo_threat_lt (σ : Nat → Int32) (k : Nat) : ∀ n b, mo_threat σ k n = some b → b < n ∧ mo_rub σ k b = true
  | 0, b, h => by cases h
  | n + 1, b, h => by
    unfold mo_threat at h
    cases hr : mo_rub σ k n
    · rw [hr, if_neg (by decide)] at h
      have := mo_threat_lt σ k n b h
      exact ⟨by omega, this.2⟩
    · rw [hr, if_pos rfl] at h
      cases ht : mo_threat σ k n with
      | none => rw [ht] at h; cases h; exact ⟨by omega, hr⟩
      | some c =>
        rw [ht] at h
        dsimp only at h
        split at h
        · cases h; exact ⟨by omega, hr⟩
        · cases h
          have := mo_threat_lt σ k n b ht
          exact ⟨by omega, this.2⟩
theorem oI_n {o : Option Nat} {n : Nat} (h : ∀ b, o = some b → b < n) (hn : n ≤ 1000) : oI o = (-1) ↔ o = none := by
  cases o with
  | none => exact ⟨fun _ => rfl, fun _ => rfl⟩
  | some b => exact ⟨fun e => absurd e (mi_n1 (by have := h b rfl; omega)), fun e => by cases e⟩
end SGN
