/-! numbers, choices, Math, what a run leaves as it was -/
theorem mb_y {c : Prop} [Decidable c] {A B : Prop} (hc : c) (h : A) : if c then A else B := (if_pos hc).mpr h
theorem mb_n {c : Prop} [Decidable c] {A B : Prop} (hc : ¬ c) (h : B) : if c then A else B := (if_neg hc).mpr h
def bI (b : Bool) : Int32 := if b = true then 1 else 0
theorem j3_b {n : Int} (h1 : -2147483648 ≤ n) (h2 : n < 2147483648) : n.bmod (2 ^ 32) = n := by
  rw [Int.bmod_def]; omega
theorem j3_nn {x : Int32} : 0 ≤ x ↔ 0 ≤ x.toInt := by rw [Int32.le_iff_toInt_le, Int32.toInt_zero]
theorem j3_add {x y : Int32} (h1 : -2147483648 ≤ x.toInt + y.toInt) (h2 : x.toInt + y.toInt < 2147483648) : (x + y).toInt = x.toInt + y.toInt := by rw [Int32.toInt_add, j3_b h1 h2]
theorem j3_sub {x y : Int32} (h1 : -2147483648 ≤ x.toInt - y.toInt) (h2 : x.toInt - y.toInt < 2147483648) : (x - y).toInt = x.toInt - y.toInt := by rw [Int32.toInt_sub, j3_b h1 h2]
theorem j3_mul {x y : Int32} (h1 : -2147483648 ≤ x.toInt * y.toInt) (h2 : x.toInt * y.toInt < 2147483648) : (x * y).toInt = x.toInt * y.toInt := by rw [Int32.toInt_mul, j3_b h1 h2]
theorem j3_neg {x : Int32} (h : x.toInt ≠ -2147483648) : (-x).toInt = -x.toInt := by
  have a := x.toInt_lt; have b := x.le_toInt
  rw [Int32.toInt_neg, j3_b (by omega) (by omega)]
theorem j3_div {x y : Int32} (h : ¬ (x.toInt = -2147483648 ∧ y.toInt = -1)) : (x / y).toInt = x.toInt.tdiv y.toInt := by
  by_cases hx : x = Int32.minValue
  · refine Int32.toInt_div_of_ne_right x y fun hy => h ⟨by rw [hx]; decide, by rw [hy]; decide⟩
  · exact Int32.toInt_div_of_ne_left x y hx
theorem bI_t : bI true = 1 := rfl
theorem bI_f : bI false = 0 := rfl
theorem bI_0 {b : Bool} : bI b = 0 ↔ b = false := by cases b <;> decide
theorem bI_01 (b : Bool) : bI b = 0 ∨ bI b = 1 := by cases b <;> decide
theorem mi_t {n : Nat} (h : n < 2147483648) : (nI n).toInt = n := Int32.toInt_ofNat_of_lt h
theorem mi_c {n : Nat} (h : n < 2147483648) : (nI n).toNatClampNeg = n := Int32.toNatClampNeg_ofNat_of_lt h
theorem mi_add (a b : Nat) : nI a + nI b = nI (a + b) := (Int32.ofNat_add a b).symm
theorem mi_mul (a b : Nat) : nI a * nI b = nI (a * b) := (Int32.ofNat_mul a b).symm
theorem mi_s (i : Nat) : nI i + 1 = nI (i + 1) := mi_add i 1
theorem mi_le {a b : Nat} (ha : a < 2147483648) (hb : b < 2147483648) : nI a ≤ nI b ↔ a ≤ b := by
  rw [Int32.le_iff_toInt_le, mi_t ha, mi_t hb]; omega
theorem mi_lt {a b : Nat} (ha : a < 2147483648) (hb : b < 2147483648) : nI a < nI b ↔ a < b := by
  rw [Int32.lt_iff_toInt_lt, mi_t ha, mi_t hb]; omega
theorem mi_eq {a b : Nat} (ha : a < 2147483648) (hb : b < 2147483648) : nI a = nI b ↔ a = b := by
  rw [← Int32.toInt_inj, mi_t ha, mi_t hb]; omega
theorem mi_n1 {a : Nat} (ha : a < 2147483648) : ¬ nI a = (-1) := by
  intro h
  have h1 := congrArg Int32.toInt h
  rw [mi_t ha] at h1
  have h2 : (-1 : Int32).toInt = -1 := by decide
  omega
theorem mi_of {x : Int32} {n : Nat} (h : x.toInt = n) : x = nI n := by
  have h1 := x.toInt_lt
  rw [← Int32.toInt_inj, mi_t (by omega), h]
theorem mb_ix {k m : Nat} (h : k < m) (hm : m ≤ 3072) : ab_ix (nI k) k m := by
  refine ⟨?_, mi_c (by omega)⟩
  unfold ak_ix
  rw [mi_c (by omega)]
  refine decide_eq_true ?_
  rw [Int32.lt_iff_toInt_lt, mi_t (by omega), Int32.toInt_zero]
  omega
theorem mb_ixe {x : Int32} {k m : Nat} (e : x = nI k) (h : k < m) (hm : m ≤ 3072) : ab_ix x k m := by
  rw [e]; exact mb_ix h hm
/-- loops upward -/
theorem mb_up {P : Nat → Prop} {n : Nat} (he : P n) (hs : ∀ i, i < n → P (i + 1) → P i) : ∀ i, i ≤ n → P i := by
  intro i hi
  obtain ⟨d, rfl⟩ := Nat.exists_eq_add_of_le hi
  clear hi
  induction d generalizing i with
  | zero => exact he
  | succ d ih =>
    refine hs i (by omega) (ih (i + 1) (by rw [Nat.add_assoc, Nat.add_comm 1 d]; exact he) (by rw [Nat.add_assoc, Nat.add_comm 1 d]; exact hs))
/-! Math -/
def ab32 (x : Int32) : Int32 := if 0 ≤ x then x else -x
def mx32 (a b : Int32) : Int32 := if a < b then b else a
def mn32 (a b : Int32) : Int32 := if b < a then b else a
def fd32 (a b : Int32) : Int32 := if 0 ≤ a ^^^ b then a / b else if a / b * b = a then a / b else a / b - 1
section SGJ
variable {X : ak_X} {M : ak_M}
theorem jm_abs (hL : ab_lay M) {x : Int32} : rn X 314 [.int x] M (.inl (some (.int (ab32 x))), M) := t_314 hL x (by unfold ab32; split <;> rfl)
theorem jm_max (hL : ab_lay M) {x y : Int32} : rn X 315 [.int x, .int y] M (.inl (some (.int (mx32 x y))), M) := t_315 hL x y (by unfold mx32; split <;> rfl)
theorem jm_min (hL : ab_lay M) {x y : Int32} : rn X 316 [.int x, .int y] M (.inl (some (.int (mn32 x y))), M) := t_316 hL x y (by unfold mn32; split <;> rfl)
theorem jm_fd (hL : ab_lay M) {x y : Int32} (h : y ≠ 0) : rn X 313 [.int x, .int y] M (.inl (some (.int (fd32 x y))), M) := by
  refine t_313 hL x y ⟨h, ?_⟩
  unfold fd32
  repeat' split
  all_goals rfl
/-- a value between two ints -/
def in32 (x a b : Int32) : Bool := decide (a ≤ x) && decide (x ≤ b)
theorem jm_l {a b : Int32} : a.toInt64 ≤ b.toInt64 ↔ a ≤ b := by
  rw [Int64.le_iff_toInt_le, Int32.toInt_toInt64, Int32.toInt_toInt64, Int32.le_iff_toInt_le]
theorem in32_t {x a b : Int32} : in32 x a b = true ↔ a.toInt ≤ x.toInt ∧ x.toInt ≤ b.toInt := by
  unfold in32
  rw [Bool.and_eq_true, decide_eq_true_eq, decide_eq_true_eq, Int32.le_iff_toInt_le, Int32.le_iff_toInt_le]
end SGJ
theorem ab32_t {x : Int32} (h : -2147483648 < x.toInt) : (ab32 x).toInt = if 0 ≤ x.toInt then x.toInt else - x.toInt := by
  unfold ab32
  by_cases c : 0 ≤ x
  · rw [if_pos c, if_pos (j3_nn.mp c)]
  · rw [if_neg c, if_neg (fun e => c (j3_nn.mpr e))]
    exact j3_neg (by omega)
theorem mx32_t {a b : Int32} : (mx32 a b).toInt = if a.toInt < b.toInt then b.toInt else a.toInt := by
  unfold mx32
  by_cases c : a < b
  · rw [if_pos c, if_pos (Int32.lt_iff_toInt_lt.mp c)]
  · rw [if_neg c, if_neg (fun e => c (Int32.lt_iff_toInt_lt.mpr e))]
theorem mn32_t {a b : Int32} : (mn32 a b).toInt = if b.toInt < a.toInt then b.toInt else a.toInt := by
  unfold mn32
  by_cases c : b < a
  · rw [if_pos c, if_pos (Int32.lt_iff_toInt_lt.mp c)]
  · rw [if_neg c, if_neg (fun e => c (Int32.lt_iff_toInt_lt.mpr e))]
/-! what a run leaves as it was -/
def fr (S : Nat → Nat → Prop) (M M' : ak_M) : Prop := ab_lay M' ∧ (∀ p k, ¬ S p k → ak_I M' p k = ak_I M p k) ∧ ak_L M' = ak_L M ∧ ak_D M' = ak_D M ∧ ak_C M' = ak_C M ∧ ak_Z M' = ak_Z M
theorem fr.rf {S : Nat → Nat → Prop} {M : ak_M} (hL : ab_lay M) : fr S M M := ⟨hL, fun _ _ _ => rfl, rfl, rfl, rfl, rfl⟩
theorem fr.tr {S : Nat → Nat → Prop} {M M1 M2 : ak_M} (a : fr S M M1) (b : fr S M1 M2) : fr S M M2 :=
  ⟨b.1, fun p k h => (b.2.1 p k h).trans (a.2.1 p k h), b.2.2.1.trans a.2.2.1, b.2.2.2.1.trans a.2.2.2.1, b.2.2.2.2.1.trans a.2.2.2.2.1, b.2.2.2.2.2.trans a.2.2.2.2.2⟩
theorem fr.mo {S T : Nat → Nat → Prop} {M M1 : ak_M} (a : fr S M M1) (h : ∀ p k, S p k → T p k) : fr T M M1 :=
  ⟨a.1, fun p k hn => a.2.1 p k fun hs => hn (h p k hs), a.2.2⟩
theorem fr.st {S : Nat → Nat → Prop} {M M1 : ak_M} {p k : Nat} {v : Int32} (a : fr S M M1) (h : S p k) : fr S M (ak_sI M1 p k v) := by
  refine ⟨a.1.sI, fun q j hn => ?_, a.2.2⟩
  show ak_u (ak_I M1) p k v q j = _
  unfold ak_u
  rw [if_neg (fun e => hn (by rw [e.1, e.2]; exact h))]
  exact a.2.1 q j hn
theorem fr.row {S : Nat → Nat → Prop} {M M1 : ak_M} (a : fr S M M1) {p : Nat} (h : ∀ k, ¬ S p k) : ak_I M1 p = ak_I M p := funext fun k => a.2.1 p k (h k)
theorem mb_sI {M : ak_M} {p k q j : Nat} {v : Int32} : ak_I (ak_sI M p k v) q j = if q = p ∧ j = k then v else ak_I M q j := rfl
theorem mb_sIs {M : ak_M} {p k : Nat} {v : Int32} : ak_I (ak_sI M p k v) p k = v := if_pos ⟨rfl, rfl⟩
theorem mb_sIr {M : ak_M} {p k q : Nat} {v : Int32} (h : q ≠ p) : ak_I (ak_sI M p k v) q = ak_I M q := funext fun _ => if_neg fun e => h e.1
theorem mb_sIk {M : ak_M} {p k q j : Nat} {v : Int32} (h : j ≠ k) : ak_I (ak_sI M p k v) q j = ak_I M q j := if_neg fun e => h e.2
theorem mb_sIn {M : ak_M} {p k q j : Nat} {v : Int32} (h : ¬ (q = p ∧ j = k)) : ak_I (ak_sI M p k v) q j = ak_I M q j := if_neg h
