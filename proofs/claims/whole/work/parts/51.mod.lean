/-! what the model's methods answer, over the row of what is now -/
/-- a number of a kite -/
def kf (σ : Nat → Int32) (k w : Nat) : Int32 := σ (23 + 15 * k + w)
def wf (σ : Nat → Int32) (i w : Nat) : Int32 := σ (11 + 3 * i + w)
def ef (σ : Nat → Int32) (j w : Nat) : Int32 := σ (173 + 6 * j + w)
abbrev ro (M : ak_M) : Nat → Int32 := ak_I M 484
/-- the counts of kites, winds and events -/
def ct (σ : Nat → Int32) (nk nw ne : Nat) : Prop := nk ≤ 10 ∧ (1 ≤ nw ∧ nw ≤ 4) ∧ ne ≤ 12 ∧ σ 1 = nI nk ∧ σ 2 = nI nw ∧ σ 9 = nI ne
def mo_isK (σ : Nat → Int32) (x : Int32) : Bool := in32 x 0 (σ 1 - 1)
def mo_fly (σ : Nat → Int32) (k : Nat) : Bool := decide (kf σ k 0 = 0)
def mo_held (σ : Nat → Int32) (k : Nat) : Bool := decide (kf σ k 0 = 0) || decide (kf σ k 0 = 1)
/-- the wind at a height, of the first n -/
def mo_wind (σ : Nat → Int32) (h : Int32) : Nat → Nat
  | 0 => 0
  | n + 1 => if wf σ n 0 ≤ h ∧ n ≠ 0 then n else mo_wind σ h n
theorem mo_wind_s (σ : Nat → Int32) (h : Int32) (n : Nat) : mo_wind σ h (n + 1) = if wf σ n 0 ≤ h ∧ n ≠ 0 then n else mo_wind σ h n := rfl
def mo_force (σ : Nat → Int32) (i : Nat) : Int32 := mx32 (ab32 (wf σ i 1)) (ab32 (wf σ i 2))
def mo_sq (x y z : Int32) : Int32 := x * x + y * y + z * z
/-- the greatest number up to m whose square is at most n -/
def iq (n : Nat) : Nat → Nat
  | 0 => 0
  | m + 1 => if (m + 1) * (m + 1) ≤ n then m + 1 else iq n m
def mo_wx (σ : Nat → Int32) (k : Nat) : Int32 := kf σ k 1 - kf σ k 4
def mo_wy (σ : Nat → Int32) (k : Nat) : Int32 := kf σ k 2 - kf σ k 5
def mo_span (σ : Nat → Int32) (k : Nat) : Int32 := nI (iq (mo_sq (mo_wx σ k) (mo_wy σ k) (kf σ k 3)).toNatClampNeg 1000)
def mo_slack (σ : Nat → Int32) (k : Nat) : Int32 := kf σ k 6 - mo_span σ k
def mo_area (x y a b : Int32) : Int32 := x * b - y * a
def mo_sgn (v : Int32) : Int32 := if v ≤ 0 then (if 0 ≤ v then 0 else (-1)) else 1
def mo_side (σ : Nat → Int32) (k : Nat) (x y : Int32) : Int32 := mo_sgn (mo_area (mo_wx σ k) (mo_wy σ k) (x - kf σ k 4) (y - kf σ k 5))
def mo_part (σ : Nat → Int32) (k o : Nat) : Bool := decide (mo_side σ k (kf σ o 4) (kf σ o 5) * mo_side σ k (kf σ o 1) (kf σ o 2) < 0)
def mo_cross (σ : Nat → Int32) (k o : Nat) : Bool := mo_fly σ k && (mo_fly σ o && (mo_part σ k o && mo_part σ o k))
def mo_q0 (σ : Nat → Int32) (k o : Nat) : Int32 := mo_area (mo_wx σ k) (mo_wy σ k) (mo_wx σ o) (mo_wy σ o)
def mo_p0 (σ : Nat → Int32) (k o : Nat) : Int32 := mo_area (kf σ o 4 - kf σ k 4) (kf σ o 5 - kf σ k 5) (mo_wx σ o) (mo_wy σ o)
def mo_q (σ : Nat → Int32) (k o : Nat) : Int32 := if mo_q0 σ k o ≤ 0 then - mo_q0 σ k o else mo_q0 σ k o
def mo_p (σ : Nat → Int32) (k o : Nat) : Int32 := if mo_q0 σ k o ≤ 0 then - mo_p0 σ k o else mo_p0 σ k o
def mo_high (σ : Nat → Int32) (k o : Nat) : Int32 := mx32 0 (fd32 (kf σ k 3 * mo_p σ k o) (mo_q σ k o) - mx32 0 (mo_slack σ k) / 2)
def mo_apart (σ : Nat → Int32) (k o : Nat) : Int32 := ab32 (mo_high σ k o - mo_high σ o k)
def mo_rub (σ : Nat → Int32) (k o : Nat) : Bool := mo_cross σ k o && decide (mo_apart σ k o ≤ σ 7)
def mo_crX (σ : Nat → Int32) (a b : Nat) : Int32 := kf σ a 4 + fd32 (mo_wx σ a * mo_p σ a b) (mo_q σ a b)
def mo_crY (σ : Nat → Int32) (a b : Nat) : Int32 := kf σ a 5 + fd32 (mo_wy σ a * mo_p σ a b) (mo_q σ a b)
def mo_brings (σ : Nat → Int32) (k : Nat) : Int32 := kf σ k 8 * (1 + ab32 (kf σ k 7))
/-- the wear of the first n -/
def mo_wear (σ : Nat → Int32) (k : Nat) : Nat → Int32
  | 0 => 0
  | n + 1 => if mo_rub σ k n = true then mo_wear σ k n + mo_brings σ n else mo_wear σ k n
theorem mo_wear_s (σ : Nat → Int32) (k n : Nat) : mo_wear σ k (n + 1) = if mo_rub σ k n = true then mo_wear σ k n + mo_brings σ n else mo_wear σ k n := rfl
/-- by whom of the first n -/
def mo_threat (σ : Nat → Int32) (k : Nat) : Nat → Option Nat
  | 0 => none
  | n + 1 => if mo_rub σ k n = true then (match mo_threat σ k n with | none => some n | some b => if mo_brings σ b < mo_brings σ n then some n else some b) else mo_threat σ k n
theorem mo_threat_s (σ : Nat → Int32) (k n : Nat) : mo_threat σ k (n + 1) = if mo_rub σ k n = true then (match mo_threat σ k n with | none => some n | some b => if mo_brings σ b < mo_brings σ n then some n else some b) else mo_threat σ k n := rfl
def oI (o : Option Nat) : Int32 := match o with | none => (-1) | some k => nI k
def mo_field (v : Int32) : Int32 := mx32 0 (mn32 199 v)
section SGM
variable {X : ak_X} {M : ak_M} {nk nw ne : Nat}
theorem sm_168 (hL : ab_lay M) : rn X 168 [.ref 483] M (.inl (some (.int (ro M 1))), M) := t_168 hL ⟨1, ⟨rfl, rfl⟩, rfl⟩
theorem sm_169 (hL : ab_lay M) {x : Int32} : rn X 169 [.ref 483, .int x] M (.inl (some (.int (bI (mo_isK (ro M) x)))), M) :=
  t_169 hL x ⟨_, M, hL, sm_168 hL, _, M, hL, jm_in32 (by rfl) rfl, bI_01 _, rfl⟩
theorem sm_170 (hL : ab_lay M) {x y : Int32} : rn X 170 [.ref 483, .int x, .int y] M (.inl (some (.int (bI (mo_isK (ro M) x && mo_isK (ro M) y)))), M) := by
  refine t_170 hL x y ⟨_, M, hL, sm_169 hL, ?_⟩
  cases hx : mo_isK (ro M) x
  · exact mb_y rfl rfl
  · refine mb_n (by decide) ⟨_, M, hL, sm_169 hL, ?_⟩
    cases hy : mo_isK (ro M) y
    · exact mb_y rfl rfl
    · exact mb_n (by decide) rfl
theorem mb_kf {k w : Nat} (hk : k < 10) (hw : w < 15) : ab_ix (23 + 15 * nI k + nI w) (23 + 15 * k + w) 245 := by
  refine mb_ixe ?_ (by omega) (by omega)
  rw [show (23 : Int32) = nI 23 from rfl, show (15 : Int32) = nI 15 from rfl, mi_mul, mi_add, mi_add]
theorem mb_wf {k w : Nat} (hk : k < 4) (hw : w < 3) : ab_ix (11 + 3 * nI k + nI w) (11 + 3 * k + w) 245 := by
  refine mb_ixe ?_ (by omega) (by omega)
  rw [show (11 : Int32) = nI 11 from rfl, show (3 : Int32) = nI 3 from rfl, mi_mul, mi_add, mi_add]
theorem sm_171 (hL : ab_lay M) {k w : Nat} (hk : k < 10) (hw : w < 15) : rn X 171 [.ref 483, .int (nI k), .int (nI w)] M (.inl (some (.int (kf (ro M) k w))), M) :=
  t_171 hL _ _ ⟨_, mb_kf hk hw, rfl⟩
theorem sm_172 (hL : ab_lay M) {k w : Nat} {v : Int32} (hk : k < 10) (hw : w < 15) : rn X 172 [.ref 483, .int (nI k), .int (nI w), .int v] M (.inl none, ak_sI M 484 (23 + 15 * k + w) v) :=
  t_172 hL _ _ _ ⟨_, mb_kf hk hw, fun _ e => by rw [e]⟩
theorem sm_173 (hL : ab_lay M) {k w : Nat} {v : Int32} (hk : k < 10) (hw : w < 15) : rn X 173 [.ref 483, .int (nI k), .int (nI w), .int v] M (.inl none, ak_sI M 484 (23 + 15 * k + w) (kf (ro M) k w + v)) :=
  t_173 hL _ _ _ ⟨_, M, hL, sm_171 hL hk hw, _, hL.sI, sm_172 hL hk hw, rfl⟩
theorem sm_174 (hL : ab_lay M) {w : Nat} (hw : w < 6) : rn X 174 [.ref 483, .int (nI w)] M (.inl (some (.int (ro M (3 + w)))), M) :=
  t_174 hL _ ⟨_, mb_ixe (mi_add 3 w) (by omega) (by omega), rfl⟩
theorem sm_175 (hL : ab_lay M) {k : Nat} (hk : k < 10) : rn X 175 [.ref 483, .int (nI k)] M (.inl (some (.int (bI (mo_fly (ro M) k)))), M) := by
  refine t_175 hL _ ⟨_, M, hL, sm_171 (w := 0) hL hk (by decide), ?_⟩
  unfold mo_fly
  by_cases h : kf (ro M) k 0 = 0
  · rw [decide_eq_true h]; exact mb_y h rfl
  · rw [decide_eq_false h]; exact mb_n h rfl
theorem sm_176 (hL : ab_lay M) {k : Nat} (hk : k < 10) : rn X 176 [.ref 483, .int (nI k)] M (.inl (some (.int (bI (mo_held (ro M) k)))), M) := by
  refine t_176 hL _ ⟨_, M, hL, sm_175 hL hk, ?_⟩
  unfold mo_held mo_fly
  by_cases h : kf (ro M) k 0 = 0
  · rw [decide_eq_true h]; exact mb_n (by decide) rfl
  · rw [decide_eq_false h]
    refine mb_y rfl ⟨_, M, hL, sm_171 (w := 0) hL hk (by decide), ?_⟩
    by_cases h1 : kf (ro M) k 0 = 1
    · rw [decide_eq_true h1]; exact mb_y h1 rfl
    · rw [decide_eq_false h1]; exact mb_n h1 rfl
theorem sm_177 (hL : ab_lay M) {k w : Nat} (hk : k < 4) (hw : w < 3) : rn X 177 [.ref 483, .int (nI k), .int (nI w)] M (.inl (some (.int (wf (ro M) k w))), M) :=
  t_177 hL _ _ ⟨_, mb_wf hk hw, rfl⟩
theorem mo_wind_lt (σ : Nat → Int32) (h : Int32) : ∀ n, 1 ≤ n → mo_wind σ h n < n
  | 0, h1 => absurd h1 (by decide)
  | 1, _ => by unfold mo_wind; rw [if_neg (fun e => e.2 rfl)]; show 0 < 1; decide
  | n + 2, _ => by
    unfold mo_wind
    split
    · omega
    · have := mo_wind_lt σ h (n + 1) (by omega); omega
theorem mo_wind_1 (σ : Nat → Int32) (h : Int32) : mo_wind σ h 1 = 0 := by
  unfold mo_wind
  rw [if_neg (fun e => e.2 rfl)]
  rfl
theorem sm_178 (hL : ab_lay M) (hc : ct (ro M) nk nw ne) {h : Int32} : rn X 178 [.ref 483, .int h] M (.inl (some (.int (nI (mo_wind (ro M) h nw)))), M) := by
  obtain ⟨h1, ⟨h2, h2'⟩, h3, e1, e2, e3⟩ := hc
  refine t_178 hL _ ?_
  have H := mb_up (P := fun i => 1 ≤ i → sg X 178 (4, [some (.ref 483), some (.int h), some (.int (nI (mo_wind (ro M) h i))), some (.int (nI i))], [], []) M (.inl (some (.int (nI (mo_wind (ro M) h nw)))), M)) (n := nw) ?_ ?_ 1 h2 (by decide)
  · rw [mo_wind_1] at H
    exact H
  · intro _
    exact t_178_4 hL _ _ _ ⟨2, ⟨rfl, rfl⟩, mb_y (by show ro M 2 ≤ _; rw [e2]; exact Int32.le_refl _) rfl⟩
  · intro i hi ih h0
    have ih := ih (by omega)
    refine t_178_4 hL _ _ _ ⟨2, ⟨rfl, rfl⟩, mb_n (by show ¬ ro M 2 ≤ _; rw [e2, mi_le (by omega) (by omega)]; omega) ⟨_, M, hL, sm_177 (w := 0) hL (by omega) (by decide), ?_⟩⟩
    rw [mi_s]
    rw [mo_wind_s] at ih
    by_cases hh : wf (ro M) i 0 ≤ h
    · rw [if_pos ⟨hh, by omega⟩] at ih
      exact mb_n (by rw [← Int32.not_le]; exact not_not_intro hh) ih
    · rw [if_neg (fun e => hh e.1)] at ih
      exact mb_y (by rw [← Int32.not_le]; exact hh) ih
theorem sm_179 (hL : ab_lay M) {k : Nat} (hk : k < 4) : rn X 179 [.ref 483, .int (nI k)] M (.inl (some (.int (mo_force (ro M) k))), M) :=
  t_179 hL _ ⟨_, M, hL, sm_177 (w := 1) hL hk (by decide), _, M, hL, jm_abs hL, _, M, hL, sm_177 (w := 2) hL hk (by decide), _, M, hL, jm_abs hL, _, M, hL, jm_max hL, rfl⟩
theorem iq_le (n m : Nat) : iq n m ≤ m := by
  induction m with
  | zero => exact Nat.le_refl _
  | succ m ih => unfold iq; split <;> omega
theorem iq_sq (n m : Nat) : iq n m * iq n m ≤ n := by
  induction m with
  | zero => exact Nat.zero_le _
  | succ m ih => unfold iq; split <;> assumption
theorem iq_gt (n m : Nat) : ∀ v, v ≤ m → v * v ≤ n → v ≤ iq n m := by
  induction m with
  | zero => intro v hv _; omega
  | succ m ih =>
    intro v hv hq
    unfold iq
    split
    · exact hv
    · rename_i hn
      refine ih v ?_ hq
      by_cases e : v = m + 1
      · subst e; exact absurd hq hn
      · omega
theorem iq_un {n m v : Nat} (hv : v ≤ m) (h1 : v * v ≤ n) (h2 : n < (v + 1) * (v + 1)) : iq n m = v := by
  refine Nat.le_antisymm ?_ (iq_gt n m v hv h1)
  refine Nat.le_of_not_lt fun h => ?_
  have h3 := iq_sq n m
  have h4 : (v + 1) * (v + 1) ≤ iq n m * iq n m := Nat.mul_le_mul h h
  omega
theorem mb_le {a b : Int32} : ¬ a ≤ b ↔ b < a := Int32.not_le
theorem mb_lt {a b : Int32} : ¬ a < b ↔ b ≤ a := Int32.not_lt
theorem sm_180 (hL : ab_lay M) {s : Int32} {m : Nat} (hm : m ≤ 30000) (hs : 0 ≤ s) : rn X 180 [.int s, .int (nI m)] M (.inl (some (.int (nI (iq s.toNatClampNeg m)))), M) := by
  have hs' : s = nI s.toNatClampNeg := (Int32.ofNat_toNatClampNeg s hs).symm
  have hb := s.toNatClampNeg_lt
  generalize s.toNatClampNeg = n at hs' hb
  subst hs'
  refine t_180 hL _ _ ?_
  refine mb_up (P := fun i => i ≤ m → i * i ≤ n → sg X 180 (2, [some (.int (nI n)), some (.int (nI m)), some (.int (nI i))], [], []) M (.inl (some (.int (nI (iq n m)))), M)) (n := m) ?_ ?_ 0 (Nat.zero_le _) (Nat.zero_le _) (Nat.zero_le _)
  · intro _ hq
    have e : iq n m = m := Nat.le_antisymm (iq_le n m) (iq_gt n m m (Nat.le_refl _) hq)
    rw [e]
    exact t_180_2 hL _ _ _ (mb_y (Int32.le_refl _) rfl)
  · intro i hi ih _ hq
    have e0 : (nI i + 1) * (nI i + 1) = nI ((i + 1) * (i + 1)) := by rw [mi_s, mi_mul]
    have hsq : (i + 1) * (i + 1) ≤ 30000 * 30000 := Nat.mul_le_mul (by omega) (by omega)
    refine t_180_2 hL _ _ _ (mb_n (by rw [mi_le (by omega) (by omega)]; omega) ?_)
    rw [e0]
    by_cases h2 : n < (i + 1) * (i + 1)
    · have e : iq n m = i := iq_un (by omega) hq h2
      rw [e]
      exact mb_y ((mi_lt hb (by omega)).mpr h2) rfl
    · rw [mi_s]
      exact mb_n (by rw [mi_lt hb (by omega)]; exact h2) (ih (by omega) (by omega))
theorem sm_181 (hL : ab_lay M) {x y z : Int32} : rn X 181 [.int x, .int y, .int z] M (.inl (some (.int (mo_sq x y z))), M) := t_181 hL x y z rfl
theorem sm_182 (hL : ab_lay M) {k : Nat} (hk : k < 10) : rn X 182 [.ref 483, .int (nI k)] M (.inl (some (.int (mo_wx (ro M) k))), M) :=
  t_182 hL _ ⟨_, M, hL, sm_171 (w := 1) hL hk (by decide), _, M, hL, sm_171 (w := 4) hL hk (by decide), rfl⟩
theorem sm_183 (hL : ab_lay M) {k : Nat} (hk : k < 10) : rn X 183 [.ref 483, .int (nI k)] M (.inl (some (.int (mo_wy (ro M) k))), M) :=
  t_183 hL _ ⟨_, M, hL, sm_171 (w := 2) hL hk (by decide), _, M, hL, sm_171 (w := 5) hL hk (by decide), rfl⟩
/-- a kite's places are those of the field -/
def kp (σ : Nat → Int32) (k : Nat) : Prop := in32 (kf σ k 1) 0 199 = true ∧ in32 (kf σ k 2) 0 199 = true ∧ in32 (kf σ k 3) 0 300 = true ∧ in32 (kf σ k 4) 0 199 = true ∧ in32 (kf σ k 5) 0 199 = true
theorem mb_i0 : (0 : Int32).toInt = 0 := rfl
theorem mb_i199 : (199 : Int32).toInt = 199 := rfl
theorem mb_i300 : (300 : Int32).toInt = 300 := rfl
theorem mi_in {x : Int32} {a b : Nat} (ha : a < 2147483648) (hb : b < 2147483648) (h : in32 x (nI a) (nI b) = true) : (a : Int) ≤ x.toInt ∧ x.toInt ≤ b := by
  rw [in32_t, mi_t ha, mi_t hb] at h; exact h
theorem mi_199 {x : Int32} (h : in32 x 0 199 = true) : 0 ≤ x.toInt ∧ x.toInt ≤ 199 := in32_t.mp h
theorem mi_300 {x : Int32} (h : in32 x 0 300 = true) : 0 ≤ x.toInt ∧ x.toInt ≤ 300 := in32_t.mp h
theorem mi_sq {a : Int} {n : Int} (h1 : -n ≤ a) (h2 : a ≤ n) : 0 ≤ a * a ∧ a * a ≤ n * n := by
  have hn : 0 ≤ n := by omega
  by_cases h : 0 ≤ a
  · exact ⟨Int.mul_nonneg h h, Int.mul_le_mul h2 h2 h hn⟩
  · have h3 : a * a = (-a) * (-a) := by rw [Int.neg_mul_neg]
    rw [h3]
    exact ⟨Int.mul_nonneg (by omega) (by omega), Int.mul_le_mul (by omega) (by omega) (by omega) hn⟩
/-- the sum of three squares as a number -/
theorem mi_sq3 {x y z : Int32} {a b c : Int} (hx : -a ≤ x.toInt ∧ x.toInt ≤ a) (hy : -b ≤ y.toInt ∧ y.toInt ≤ b) (hz : -c ≤ z.toInt ∧ z.toInt ≤ c) (ha : a ≤ 20000) (hb : b ≤ 20000) (hc : c ≤ 20000) :
    (mo_sq x y z).toInt = x.toInt * x.toInt + y.toInt * y.toInt + z.toInt * z.toInt ∧ 0 ≤ (mo_sq x y z).toInt ∧ (mo_sq x y z).toInt ≤ a * a + b * b + c * c := by
  have h1 := mi_sq hx.1 hx.2
  have h2 := mi_sq hy.1 hy.2
  have h3 := mi_sq hz.1 hz.2
  have ha2 : a * a ≤ 20000 * 20000 := Int.mul_le_mul ha ha (by omega) (by omega)
  have hb2 : b * b ≤ 20000 * 20000 := Int.mul_le_mul hb hb (by omega) (by omega)
  have hc2 : c * c ≤ 20000 * 20000 := Int.mul_le_mul hc hc (by omega) (by omega)
  have e : (mo_sq x y z).toInt = x.toInt * x.toInt + y.toInt * y.toInt + z.toInt * z.toInt := by
    unfold mo_sq
    have ex : (x * x).toInt = x.toInt * x.toInt := j3_mul (by omega) (by omega)
    have ey : (y * y).toInt = y.toInt * y.toInt := j3_mul (by omega) (by omega)
    have ez : (z * z).toInt = z.toInt * z.toInt := j3_mul (by omega) (by omega)
    have e1 : (x * x + y * y).toInt = x.toInt * x.toInt + y.toInt * y.toInt := by rw [j3_add (by omega) (by omega), ex, ey]
    rw [j3_add (by omega) (by omega), e1, ez]
  exact ⟨e, by omega, by omega⟩
theorem mi_sub {x y : Int32} {a b c d : Int} (hx : a ≤ x.toInt ∧ x.toInt ≤ b) (hy : c ≤ y.toInt ∧ y.toInt ≤ d) (h1 : -2147483648 ≤ a - d) (h2 : b - c < 2147483648) : (x - y).toInt = x.toInt - y.toInt ∧ a - d ≤ (x - y).toInt ∧ (x - y).toInt ≤ b - c := by
  have e : (x - y).toInt = x.toInt - y.toInt := j3_sub (by omega) (by omega)
  omega
theorem mi_addb {x y : Int32} {a b c d : Int} (hx : a ≤ x.toInt ∧ x.toInt ≤ b) (hy : c ≤ y.toInt ∧ y.toInt ≤ d) (h1 : -2147483648 ≤ a + c) (h2 : b + d < 2147483648) : (x + y).toInt = x.toInt + y.toInt ∧ a + c ≤ (x + y).toInt ∧ (x + y).toInt ≤ b + d := by
  have e : (x + y).toInt = x.toInt + y.toInt := j3_add (by omega) (by omega)
  omega
theorem kp_wx {σ : Nat → Int32} {k : Nat} (h : kp σ k) : (mo_wx σ k).toInt = (kf σ k 1).toInt - (kf σ k 4).toInt ∧ -199 ≤ (mo_wx σ k).toInt ∧ (mo_wx σ k).toInt ≤ 199 :=
  mi_sub (mi_199 h.1) (mi_199 h.2.2.2.1) (by decide) (by decide)
theorem kp_wy {σ : Nat → Int32} {k : Nat} (h : kp σ k) : (mo_wy σ k).toInt = (kf σ k 2).toInt - (kf σ k 5).toInt ∧ -199 ≤ (mo_wy σ k).toInt ∧ (mo_wy σ k).toInt ≤ 199 :=
  mi_sub (mi_199 h.2.1) (mi_199 h.2.2.2.2) (by decide) (by decide)
theorem kp_sq {σ : Nat → Int32} {k : Nat} (h : kp σ k) : (mo_sq (mo_wx σ k) (mo_wy σ k) (kf σ k 3)).toInt = (mo_wx σ k).toInt * (mo_wx σ k).toInt + (mo_wy σ k).toInt * (mo_wy σ k).toInt + (kf σ k 3).toInt * (kf σ k 3).toInt ∧ 0 ≤ (mo_sq (mo_wx σ k) (mo_wy σ k) (kf σ k 3)).toInt ∧ (mo_sq (mo_wx σ k) (mo_wy σ k) (kf σ k 3)).toInt ≤ 199 * 199 + 199 * 199 + 300 * 300 := by
  have h3 := mi_300 h.2.2.1
  exact mi_sq3 (kp_wx h).2 (kp_wy h).2 ⟨by omega, h3.2⟩ (by decide) (by decide) (by decide)
theorem sm_184 (hL : ab_lay M) {k : Nat} (hk : k < 10) (h : kp (ro M) k) : rn X 184 [.ref 483, .int (nI k)] M (.inl (some (.int (mo_span (ro M) k))), M) :=
  t_184 hL _ ⟨_, M, hL, sm_182 hL hk, _, M, hL, sm_183 hL hk, _, M, hL, sm_171 (w := 3) hL hk (by decide), _, M, hL, sm_181 hL, _, M, hL, sm_180 (m := 1000) hL (by decide) (j3_nn.mpr (kp_sq h).2.1), rfl⟩
theorem sm_185 (hL : ab_lay M) {k : Nat} (hk : k < 10) (h : kp (ro M) k) : rn X 185 [.ref 483, .int (nI k)] M (.inl (some (.int (mo_slack (ro M) k))), M) :=
  t_185 hL _ ⟨_, M, hL, sm_171 (w := 6) hL hk (by decide), _, M, hL, sm_184 hL hk h, rfl⟩
theorem sm_188 (hL : ab_lay M) {x y a b : Int32} : rn X 188 [.int x, .int y, .int a, .int b] M (.inl (some (.int (mo_area x y a b))), M) := t_188 hL _ _ _ _ rfl
theorem sm_189 (hL : ab_lay M) {x : Int32} : rn X 189 [.int x] M (.inl (some (.int (mo_sgn x))), M) := by
  refine t_189 hL _ ?_
  unfold mo_sgn
  repeat' split
  all_goals rfl
theorem sm_190 (hL : ab_lay M) {k : Nat} {x y : Int32} (hk : k < 10) : rn X 190 [.ref 483, .int (nI k), .int x, .int y] M (.inl (some (.int (mo_side (ro M) k x y))), M) :=
  t_190 hL _ _ _ ⟨_, M, hL, sm_182 hL hk, _, M, hL, sm_183 hL hk, _, M, hL, sm_171 (w := 4) hL hk (by decide), _, M, hL, sm_171 (w := 5) hL hk (by decide), _, M, hL, sm_188 hL, _, M, hL, sm_189 hL, rfl⟩
theorem sm_191 (hL : ab_lay M) {k o : Nat} (hk : k < 10) (ho : o < 10) : rn X 191 [.ref 483, .int (nI k), .int (nI o)] M (.inl (some (.int (bI (mo_part (ro M) k o)))), M) := by
  refine t_191 hL _ _ ⟨_, M, hL, sm_171 (w := 4) hL ho (by decide), _, M, hL, sm_171 (w := 5) hL ho (by decide), _, M, hL, sm_190 hL hk, _, M, hL, sm_171 (w := 1) hL ho (by decide), _, M, hL, sm_171 (w := 2) hL ho (by decide), _, M, hL, sm_190 hL hk, ?_⟩
  unfold mo_part
  generalize mo_side (ro M) k (kf (ro M) o 4) (kf (ro M) o 5) * mo_side (ro M) k (kf (ro M) o 1) (kf (ro M) o 2) = z
  by_cases h : z < 0
  · rw [decide_eq_true h]; exact mb_n (mb_le.mpr h) rfl
  · rw [decide_eq_false h]; exact mb_y (mb_lt.mp h) rfl
theorem sm_192 (hL : ab_lay M) {k o : Nat} (hk : k < 10) (ho : o < 10) : rn X 192 [.ref 483, .int (nI k), .int (nI o)] M (.inl (some (.int (bI (mo_cross (ro M) k o)))), M) := by
  refine t_192 hL _ _ ⟨_, M, hL, sm_175 hL hk, ?_⟩
  unfold mo_cross
  cases mo_fly (ro M) k
  · exact mb_y rfl rfl
  · refine mb_n (by decide) ⟨_, M, hL, sm_175 hL ho, ?_⟩
    cases mo_fly (ro M) o
    · exact mb_y rfl rfl
    · refine mb_n (by decide) ⟨_, M, hL, sm_191 hL hk ho, ?_⟩
      cases mo_part (ro M) k o
      · exact mb_y rfl rfl
      · refine mb_n (by decide) ⟨_, M, hL, sm_191 hL ho hk, ?_⟩
        cases mo_part (ro M) o k
        · exact mb_y rfl rfl
        · exact mb_n (by decide) rfl
theorem sm_199 (hL : ab_lay M) {k : Nat} (hk : k < 10) : rn X 199 [.ref 483, .int (nI k)] M (.inl (some (.int (mo_brings (ro M) k))), M) :=
  t_199 hL _ ⟨_, M, hL, sm_171 (w := 8) hL hk (by decide), _, M, hL, sm_171 (w := 7) hL hk (by decide), _, M, hL, jm_abs hL, rfl⟩
theorem sm_204 (hL : ab_lay M) {x : Int32} : rn X 204 [.int x] M (.inl (some (.int (mo_field x))), M) :=
  t_204 hL _ ⟨_, M, hL, jm_min hL, _, M, hL, jm_max hL, rfl⟩
end SGM
