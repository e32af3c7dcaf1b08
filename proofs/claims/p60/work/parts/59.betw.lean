/-! the class: where two lines cross -/
theorem ab32_neg (x : Int32) : ab32 (-x) = ab32 x := by
  have h1 := x.toInt_lt
  have h2 := x.le_toInt
  by_cases hm : x.toInt = -2147483648
  · have e : -x = x := by
      rw [← Int32.toInt_inj, Int32.toInt_neg, hm]; decide
    rw [e]
  · have e : (-x).toInt = - x.toInt := j3_neg hm
    have n1 : 0 ≤ -x ↔ 0 ≤ -x.toInt := by rw [j3_nn, e]
    have n2 : 0 ≤ x ↔ 0 ≤ x.toInt := j3_nn
    unfold ab32
    by_cases h0 : x.toInt = 0
    · have : x = 0 := by rw [← Int32.toInt_inj, h0]; rfl
      subst this
      rfl
    · by_cases hp : 0 ≤ x.toInt
      · rw [if_neg (by rw [n1]; omega), if_pos (n2.mpr hp), Int32.neg_neg]
      · rw [if_pos (n1.mpr (by omega)), if_neg (fun q => hp (n2.mp q))]
theorem ab32_sub (a b : Int32) : ab32 (a - b) = ab32 (b - a) := by
  rw [← ab32_neg, Int32.neg_sub]
theorem xor_nn {a b : Int32} (ha : 0 ≤ a.toInt) (hb : 0 ≤ b.toInt) : 0 ≤ a ^^^ b := by
  rw [j3_nn]
  show 0 ≤ (a ^^^ b).toBitVec.toInt
  have e : (a ^^^ b).toBitVec = a.toBitVec ^^^ b.toBitVec := rfl
  have f : ∀ x : Int32, 0 ≤ x.toInt → x.toBitVec.msb = false := by
    intro x hx
    cases hm : x.toBitVec.msb
    · rfl
    · have := BitVec.toInt_neg_of_msb_true hm
      have hx : 0 ≤ x.toBitVec.toInt := hx
      omega
  refine BitVec.toInt_nonneg_of_msb_false ?_
  rw [e, BitVec.msb_xor, f a ha, f b hb]
  rfl
theorem fd_nn {a b : Int32} (ha : 0 ≤ a.toInt) (hb : 0 ≤ b.toInt) : fd32 a b = a / b := if_pos (xor_nn ha hb)
def mo_s0 (σ : Nat → Int32) (k o : Nat) : Int32 := mo_area (kf σ o 4 - kf σ k 4) (kf σ o 5 - kf σ k 5) (mo_wx σ k) (mo_wy σ k)
/-- the lines cross, whatever the states are -/
def mo_cz (σ : Nat → Int32) (k o : Nat) : Bool := mo_part σ k o && mo_part σ o k
section SGB
variable {X : ak_X} {M : ak_M} {b k o nk nw ne fe : Nat} {σ : Nat → Int32}
theorem s0_t (h : kp σ k) (h' : kp σ o) : (mo_s0 σ k o).toInt = zS σ k o ∧ -79202 ≤ zS σ k o ∧ zS σ k o ≤ 79202 := by
  have a := area_t (dx_t h h').2 (dy_t h h').2 (kp_wx h).2 (kp_wy h).2
  rw [(dx_t h h').1, (dy_t h h').1, (kp_wx h).1, (kp_wy h).1] at a
  unfold mo_s0
  have e : zS σ k o = (mo_area (kf σ o 4 - kf σ k 4) (kf σ o 5 - kf σ k 5) (mo_wx σ k) (mo_wy σ k)).toInt := a.1.symm
  omega
theorem cz_t (h : kp σ k) (h' : kp σ o) : mo_cz σ k o = true ↔ ((0 < zW σ k o ∧ 0 < zP σ k o ∧ zP σ k o < zW σ k o ∧ 0 < zS σ k o ∧ zS σ k o < zW σ k o) ∨ (zW σ k o < 0 ∧ zP σ k o < 0 ∧ zW σ k o < zP σ k o ∧ zS σ k o < 0 ∧ zW σ k o < zS σ k o)) := by
  unfold mo_cz
  rw [Bool.and_eq_true, part_t h h', part_t h' h, zS_s σ k o, zW_s σ k o]
  constructor
  · rintro ⟨c, d⟩; omega
  · intro c; exact ⟨by omega, by omega⟩
theorem cz_s (h : kp σ k) (h' : kp σ o) : mo_cz σ o k = mo_cz σ k o := by
  unfold mo_cz; exact Bool.and_comm _ _
theorem cross_cz : mo_cross σ k o = (mo_fly σ k && (mo_fly σ o && mo_cz σ k o)) := rfl
theorem qs (h : kp σ k) (h' : kp σ o) : mo_q σ o k = mo_q σ k o := by
  rw [← Int32.toInt_inj, q_t h' h, q_t h h', zW_s σ k o]
  split <;> split <;> omega
theorem cz_pq (h : kp σ k) (h' : kp σ o) (hc : mo_cz σ k o = true) : 0 < (mo_p σ k o).toInt ∧ (mo_p σ k o).toInt < (mo_q σ k o).toInt ∧ (mo_q σ k o).toInt ≤ 79202 := by
  have a := (cz_t h h').mp hc
  have b := q0_t h h'
  rw [p_t h h', q_t h h']
  rcases a with a | a
  · rw [if_neg (by omega), if_neg (by omega)]; omega
  · rw [if_pos (by omega), if_pos (by omega)]; omega
/-- the height of a line there, as the class tells it -/
theorem high_c (h : kp σ k) (h' : kp σ o) (hc : mo_cz σ k o = true) : (if mo_slack σ k ≤ 0 then kf σ k 3 * mo_p σ k o / mo_q σ k o else mx32 0 (kf σ k 3 * mo_p σ k o / mo_q σ k o - mo_slack σ k / 2)) = mo_high σ k o := by
  have hpq := cz_pq h h' hc
  have h3 := mi_300 h.2.2.1
  have pr := mi_pr (a := (kf σ k 3).toInt) (b := (mo_p σ k o).toInt) (A := 300) (B := 79202) ⟨by omega, by omega⟩ ⟨by omega, by omega⟩
  have pn : 0 ≤ (kf σ k 3).toInt * (mo_p σ k o).toInt := Int.mul_nonneg (by omega) (by omega)
  have e1 : (kf σ k 3 * mo_p σ k o).toInt = (kf σ k 3).toInt * (mo_p σ k o).toInt := j3_mul (by omega) (by omega)
  have e2 : fd32 (kf σ k 3 * mo_p σ k o) (mo_q σ k o) = kf σ k 3 * mo_p σ k o / mo_q σ k o := fd_nn (by omega) (by omega)
  unfold mo_high
  rw [e2]
  have e3 : (kf σ k 3 * mo_p σ k o / mo_q σ k o).toInt = (kf σ k 3 * mo_p σ k o).toInt.tdiv (mo_q σ k o).toInt := j3_div (by omega)
  have e4 : 0 ≤ (kf σ k 3 * mo_p σ k o / mo_q σ k o).toInt := by
    rw [e3]; exact Int.tdiv_nonneg (by omega) (by omega)
  generalize kf σ k 3 * mo_p σ k o / mo_q σ k o = t at *
  by_cases hs : mo_slack σ k ≤ 0
  · rw [if_pos hs]
    have e5 : mx32 0 (mo_slack σ k) = 0 := by
      unfold mx32
      rw [if_neg (mb_lt.mpr hs)]
    have e6 : (0 : Int32) / 2 = 0 := by decide
    rw [e5, e6, sub0]
    unfold mx32
    by_cases h0 : 0 < t
    · rw [if_pos h0]
    · rw [if_neg h0, ← Int32.toInt_inj]
      rw [Int32.lt_iff_toInt_lt] at h0
      rw [mb_i0] at h0 ⊢
      omega
  · rw [if_neg hs]
    have e5 : mx32 0 (mo_slack σ k) = mo_slack σ k := by
      unfold mx32
      rw [if_pos (mb_le.mp hs)]
    rw [e5]
theorem sk_2 (hL : ab_lay M) {t s : Int32} : rn X 2 [.int t, .int s] M (.inl (some (.int (if s ≤ 0 then t else mx32 0 (t - s / 2)))), M) := by
  refine t_2 hL _ _ ?_
  by_cases h : s ≤ 0
  · exact mb_y h (by rw [if_pos h])
  · exact mb_n h ⟨_, M, hL, jm_max hL, by rw [if_neg h]⟩
/-- what the crossing holds -/
def cH (b : Nat) (σ : Nat → Int32) (k o : Nat) (M : ak_M) : Prop := ak_I M (b + 5) 0 = mo_crX σ k o ∧ ak_I M (b + 5) 1 = mo_crY σ k o ∧ ak_I M (b + 5) 2 = mo_high σ k o ∧ ak_I M (b + 5) 3 = mo_high σ o k
theorem cX_out {b : Nat} : ∀ p k, cX b p k → p < b ∨ b + 32 ≤ p ∨ p = b + 5 := fun _ _ h => Or.inr (Or.inr h)
theorem sk_1 (hL : ab_lay M) (hb : b ∈ ab_fb) (hR : Rb b σ nk nw ne fe M) (hc : ct σ nk nw ne) (hk : k < nk) (ho : o < nk) (h : kp σ k) (h' : kp σ o) :
    ∃ M', rn X 1 [.ref (b + 5), .ref (b + 6 + k), .ref (b + 6 + o)] M (.inl (some (.int (bI (mo_cz σ k o)))), M') ∧ fr (cX b) M M' ∧ (mo_cz σ k o = true → cH b σ k o M') := by
  have hk10 : k < 10 := Nat.lt_of_lt_of_le hk hc.1
  have ho10 : o < 10 := Nat.lt_of_lt_of_le ho hc.1
  have q0 := q0_t h h'
  have p0 := p0_t h h'
  have s0 := s0_t h h'
  -- the rest behind the signs
  have tail : ∀ y9 y10 y11 (z3 z4 : Int32) (o5 o6 o7 o8 : Option Value), z3 = mo_wx σ k → z4 = mo_wy σ k → y9.toInt = (if zW σ k o < 0 then - zW σ k o else zW σ k o) → y10.toInt = (if zW σ k o < 0 then - zP σ k o else zP σ k o) → y11.toInt = (if zW σ k o < 0 then - zS σ k o else zS σ k o) →
      ∃ M', sg X 1 (122, [some (.ref (b + 5)), some (.ref (b + 6 + k)), some (.ref (b + 6 + o)), some (.int z3), some (.int z4), o5, o6, o7, o8, some (.int y9), some (.int y10), some (.int y11)], [], []) M (.inl (some (.int (bI (mo_cz σ k o)))), M') ∧ fr (cX b) M M' ∧ (mo_cz σ k o = true → cH b σ k o M') := by
    intro y9 y10 y11 z3 z4 o5 o6 o7 o8 e3 e4 e9 e10 e11
    by_cases hz : mo_cz σ k o = true
    · have c := (cz_t h h').mp hz
      have q9 : y9 = mo_q σ k o := by
        rw [← Int32.toInt_inj, e9, q_t h h']; split <;> split <;> omega
      have q10 : y10 = mo_p σ k o := by
        rw [← Int32.toInt_inj, e10, p_t h h']; split <;> split <;> omega
      have q11 : y11 = mo_p σ o k := by
        rw [← Int32.toInt_inj, e11, p_t h' h, zW_s σ k o, zP_s σ k o]; split <;> split <;> omega
      have qz := qs h h'
      have hpq := cz_pq h h' hz
      have hpq' := cz_pq h' h (by rw [cz_s h h']; exact hz)
      have n0 : y9 ≠ 0 := by
        intro e; rw [← q9, e, mb_i0] at hpq; omega
      generalize g10 : ak_sI M (b + 5) 0 (mo_crX σ k o) = M10
      have f10 : fr (cX b) M M10 := by rw [← g10]; exact (fr.rf hL).st rfl
      have R10 := hR.fr hc f10 cX_out
      generalize g13 : ak_sI M10 (b + 5) 1 (mo_crY σ k o) = M13
      have f13 : fr (cX b) M M13 := by rw [← g13]; exact f10.st rfl
      have R13 := hR.fr hc f13 cX_out
      generalize g18 : ak_sI M13 (b + 5) 2 (mo_high σ k o) = M18
      have f18 : fr (cX b) M M18 := by rw [← g18]; exact f13.st rfl
      have R18 := hR.fr hc f18 cX_out
      generalize g23 : ak_sI M18 (b + 5) 3 (mo_high σ o k) = M23
      have f23 : fr (cX b) M M23 := by rw [← g23]; exact f18.st rfl
      refine ⟨M23, ?_, f23, fun _ => ?_⟩
      · refine t_1_122 hL hb hb hk10 hb ho10 _ _ _ _ _ _ _ _ _ (mb_n n0 (mb_n ?_ (mb_n ?_ (mb_n ?_ (mb_y ?_ ⟨_, M, hL, jm_fd hL n0, fun N e => ?_⟩)))))
        · rw [q10, Int32.le_iff_toInt_le, mb_i0]; omega
        · rw [q9, q10, Int32.le_iff_toInt_le]; omega
        · rw [q11, Int32.le_iff_toInt_le, mb_i0]; omega
        · rw [q9, q11, Int32.lt_iff_toInt_lt, ← qz]; omega
        · rw [e3, q9, q10, hR.kk hk (by decide)] at e
          obtain rfl := e.trans g10
          refine ⟨_, N, f10.1, jm_fd f10.1 n0, fun N' e => ?_⟩
          rw [e4, q9, q10, R10.kk hk (by decide)] at e
          obtain rfl := e.trans g13
          refine ⟨n0, _, N', f13.1, (sk_43 f13.1 hb R13 hc hk h).1, _, N', f13.1, sk_2 f13.1, fun N e => ?_⟩
          rw [q9, q10, R13.kk hk (by decide), high_c h h' hz] at e
          obtain rfl := e.trans g18
          refine ⟨n0, _, N, f18.1, (sk_43 f18.1 hb R18 hc ho h').1, _, N, f18.1, sk_2 f18.1, fun N e => ?_⟩
          rw [q9, q11, R18.kk ho (by decide), ← qz, high_c h' h (by rw [cz_s h h']; exact hz)] at e
          obtain rfl := e.trans g23
          rw [hz]
          rfl
      · refine ⟨?_, ?_, ?_, ?_⟩
        · rw [← g23, mb_sIk (by decide), ← g18, mb_sIk (by decide), ← g13, mb_sIk (by decide), ← g10, mb_sIs]
        · rw [← g23, mb_sIk (by decide), ← g18, mb_sIk (by decide), ← g13, mb_sIs]
        · rw [← g23, mb_sIk (by decide), ← g18, mb_sIs]
        · rw [← g23, mb_sIs]
    · have c := fun e => hz ((cz_t h h').mpr e)
      refine ⟨M, ?_, fr.rf hL, fun e => absurd e hz⟩
      have ez : mo_cz σ k o = false := by cases hh : mo_cz σ k o with
        | false => rfl
        | true => exact absurd hh hz
      rw [ez]
      have no : ∀ (l0 l1 l2 l3 l4 l5 l6 l7 l8 l9 l10 l11 : Option Value), sg X 1 (151, [l0, l1, l2, l3, l4, l5, l6, l7, l8, l9, l10, l11], [], []) M (.inl (some (.int (bI false))), M) := fun _ _ _ _ _ _ _ _ _ _ _ _ => t_1_151 hL hb hb hk10 hb ho10 _ _ _ _ _ _ _ _ _ _ _ _ rfl
      refine t_1_122 hL hb hb hk10 hb ho10 _ _ _ _ _ _ _ _ _ ?_
      by_cases c1 : y9 = 0
      · exact mb_y c1 (no _ _ _ _ _ _ _ _ _ _ _ _)
      · refine mb_n c1 ?_
        by_cases c2 : y10 ≤ 0
        · exact mb_y c2 (no _ _ _ _ _ _ _ _ _ _ _ _)
        · refine mb_n c2 ?_
          by_cases c3 : y9 ≤ y10
          · exact mb_y c3 (no _ _ _ _ _ _ _ _ _ _ _ _)
          · refine mb_n c3 ?_
            by_cases c4 : y11 ≤ 0
            · exact mb_y c4 (no _ _ _ _ _ _ _ _ _ _ _ _)
            · refine mb_n c4 ?_
              by_cases c5 : y11 < y9
              · exfalso
                rw [Int32.le_iff_toInt_le] at c2 c3 c4
                rw [Int32.lt_iff_toInt_lt] at c5
                have c1 : y9.toInt ≠ 0 := fun e => c1 (by rw [← Int32.toInt_inj, e]; rfl)
                rw [mb_i0] at c2 c4
                rw [e9] at c1 c3 c5
                rw [e10] at c2 c3
                rw [e11] at c4 c5
                refine c ?_
                by_cases hw : zW σ k o < 0
                · simp only [if_pos hw] at c1 c2 c3 c4 c5; omega
                · simp only [if_neg hw] at c1 c2 c3 c4 c5; omega
              · exact mb_n c5 (no _ _ _ _ _ _ _ _ _ _ _ _)
  -- the head
  have e1 : ak_I M (b + 6 + k) 1 - ak_I M (b + 6 + k) 4 = mo_wx σ k := by rw [hR.kk hk (by decide), hR.kk hk (by decide)]; rfl
  have e2 : ak_I M (b + 6 + k) 2 - ak_I M (b + 6 + k) 5 = mo_wy σ k := by rw [hR.kk hk (by decide), hR.kk hk (by decide)]; rfl
  have e3 : ak_I M (b + 6 + o) 1 - ak_I M (b + 6 + o) 4 = mo_wx σ o := by rw [hR.kk ho (by decide), hR.kk ho (by decide)]; rfl
  have e4 : ak_I M (b + 6 + o) 2 - ak_I M (b + 6 + o) 5 = mo_wy σ o := by rw [hR.kk ho (by decide), hR.kk ho (by decide)]; rfl
  have e5 : ak_I M (b + 6 + o) 4 - ak_I M (b + 6 + k) 4 = kf σ o 4 - kf σ k 4 := by rw [hR.kk hk (by decide), hR.kk ho (by decide)]
  have e6 : ak_I M (b + 6 + o) 5 - ak_I M (b + 6 + k) 5 = kf σ o 5 - kf σ k 5 := by rw [hR.kk hk (by decide), hR.kk ho (by decide)]
  have ew : mo_wx σ k * mo_wy σ o - mo_wy σ k * mo_wx σ o = mo_q0 σ k o := rfl
  have ep : (kf σ o 4 - kf σ k 4) * mo_wy σ o - (kf σ o 5 - kf σ k 5) * mo_wx σ o = mo_p0 σ k o := rfl
  have es : (kf σ o 4 - kf σ k 4) * mo_wy σ k - (kf σ o 5 - kf σ k 5) * mo_wx σ k = mo_s0 σ k o := rfl
  by_cases hw : 0 ≤ mo_q0 σ k o
  · have hw' : ¬ zW σ k o < 0 := by rw [j3_nn, q0.1] at hw; omega
    obtain ⟨M', h1, h2⟩ := tail (mo_q0 σ k o) (mo_p0 σ k o) (mo_s0 σ k o) (mo_wx σ k) (mo_wy σ k) (some (.int (mo_wx σ o))) (some (.int (mo_wy σ o))) (some (.int (kf σ o 4 - kf σ k 4))) (some (.int (kf σ o 5 - kf σ k 5))) rfl rfl (by rw [if_neg hw', q0.1]) (by rw [if_neg hw', p0.1]) (by rw [if_neg hw', s0.1])
    refine ⟨M', t_1 hL hb hb hk10 hb ho10 fun z1 g1 z2 g2 z3 g3 z4 g4 z5 g5 z6 g6 => ?_, h2⟩
    rw [e1] at g1; rw [e2] at g2; rw [e3] at g3; rw [e4] at g4; rw [e5] at g5; rw [e6] at g6
    subst g1 g2 g3 g4 g5 g6
    rw [ew, ep, es]
    exact mb_y hw h1
  · have hw' : zW σ k o < 0 := by rw [j3_nn, q0.1] at hw; omega
    obtain ⟨M', h1, h2⟩ := tail (- mo_q0 σ k o) (- mo_p0 σ k o) (- mo_s0 σ k o) (mo_wx σ k) (mo_wy σ k) (some (.int (mo_wx σ o))) (some (.int (mo_wy σ o))) (some (.int (kf σ o 4 - kf σ k 4))) (some (.int (kf σ o 5 - kf σ k 5))) rfl rfl (by rw [if_pos hw', j3_neg (by omega), q0.1]) (by rw [if_pos hw', j3_neg (by omega), p0.1]) (by rw [if_pos hw', j3_neg (by omega), s0.1])
    refine ⟨M', t_1 hL hb hb hk10 hb ho10 fun z1 g1 z2 g2 z3 g3 z4 g4 z5 g5 z6 g6 => ?_, h2⟩
    rw [e1] at g1; rw [e2] at g2; rw [e3] at g3; rw [e4] at g4; rw [e5] at g5; rw [e6] at g6
    subst g1 g2 g3 g4 g5 g6
    rw [ew, ep, es]
    exact mb_n hw h1
theorem sk_3 (hL : ab_lay M) (hb : b ∈ ab_fb) (hH : cH b σ k o M) : rn X 3 [.ref (b + 5)] M (.inl (some (.int (mo_apart σ k o))), M) :=
  t_3 hL hb ⟨_, M, hL, jm_abs hL, by rw [hH.2.2.1, hH.2.2.2]; rfl⟩
theorem apart_s : mo_apart σ o k = mo_apart σ k o := ab32_sub _ _
theorem rub_s (h : kp σ k) (h' : kp σ o) : mo_rub σ o k = mo_rub σ k o := by
  unfold mo_rub
  rw [cross_s h h', apart_s]
theorem cross_mm (h : kp σ k) (h' : kp σ o) : mo_cross σ (min k o) (max k o) = mo_cross σ k o := by
  by_cases e : k ≤ o
  · rw [Nat.min_eq_left e, Nat.max_eq_right e]
  · rw [Nat.min_eq_right (by omega), Nat.max_eq_left (by omega), cross_s h h']
theorem sk_13 (hL : ab_lay M) (hb : b ∈ ab_fb) (hR : Rb b σ nk nw ne fe M) (hc : ct σ nk nw ne) (hk : k < nk) (ho : o < nk) (h : kp σ k) (h' : kp σ o) :
    ∃ M', rn X 13 [.ref b, .int (nI k), .int (nI o)] M (.inl (some (.int (bI (mo_cross σ k o)))), M') ∧ fr (cX b) M M' ∧ (mo_cross σ k o = true → cH b σ (min k o) (max k o) M') := by
  have hk10 : k < 10 := Nat.lt_of_lt_of_le hk hc.1
  have ho10 : o < 10 := Nat.lt_of_lt_of_le ho hc.1
  have l1 : min k o < nk := by omega
  have l2 : max k o < nk := by omega
  have g1 : kp σ (min k o) := by
    rcases Nat.le_total k o with e | e
    · rw [Nat.min_eq_left e]; exact h
    · rw [Nat.min_eq_right e]; exact h'
  have g2 : kp σ (max k o) := by
    rcases Nat.le_total k o with e | e
    · rw [Nat.max_eq_right e]; exact h'
    · rw [Nat.max_eq_left e]; exact h
  have j1 := jm_min (X := X) hL (x := nI k) (y := nI o)
  have j2 := jm_max (X := X) hL (x := nI k) (y := nI o)
  rw [mn_nat (by omega) (by omega)] at j1
  rw [mx_nat (by omega) (by omega)] at j2
  have head : ∀ {r}, (if kf σ (min k o) 0 = 0 then (if kf σ (max k o) 0 = 0 then (∃ (v8 : Int32) (M7 : ak_M), ab_lay M7 ∧ rn X 1 [.ref (b + 5), .ref (b + 6 + min k o), .ref (b + 6 + max k o)] M (.inl (some (.int v8)), M7) ∧ (if v8 = 0 then r = (.inl (some (.int 0)), M7) else r = (.inl (some (.int 1)), M7))) else r = (.inl (some (.int 0)), M)) else r = (.inl (some (.int 0)), M)) → rn X 13 [.ref b, .int (nI k), .int (nI o)] M r := by
    intro r hr
    refine t_13 hL hb _ _ ⟨_, M, hL, j1, min k o, by omega, mb_ix (by omega) (by decide), _, M, hL, j2, max k o, by omega, mb_ix (by omega) (by decide), ?_⟩
    rw [hR.kk l1 (by decide), hR.kk l2 (by decide)]
    exact hr
  rw [← cross_mm h h', cross_cz]
  unfold mo_fly
  by_cases c1 : kf σ (min k o) 0 = 0
  · rw [decide_eq_true c1]
    by_cases c2 : kf σ (max k o) 0 = 0
    · rw [decide_eq_true c2, Bool.true_and, Bool.true_and]
      obtain ⟨M', h1, f1, H1⟩ := sk_1 (X := X) hL hb hR hc l1 l2 g1 g2
      refine ⟨M', head (mb_y c1 (mb_y c2 ⟨_, M', f1.1, h1, ?_⟩)), f1, H1⟩
      cases mo_cz σ (min k o) (max k o)
      · exact mb_y rfl rfl
      · exact mb_n (by decide) rfl
    · rw [decide_eq_false c2]
      exact ⟨M, head (mb_y c1 (mb_n c2 rfl)), fr.rf hL, fun e => by cases e⟩
  · rw [decide_eq_false c1]
    exact ⟨M, head (mb_n c1 rfl), fr.rf hL, fun e => by cases e⟩
theorem sk_14 (hL : ab_lay M) (hb : b ∈ ab_fb) (hR : Rb b σ nk nw ne fe M) (hc : ct σ nk nw ne) (hk : k < nk) (ho : o < nk) (h : kp σ k) (h' : kp σ o) :
    ∃ M', rn X 14 [.ref b, .int (nI k), .int (nI o)] M (.inl (some (.int (bI (mo_rub σ k o)))), M') ∧ fr (cX b) M M' := by
  obtain ⟨M1, h1, f1, H1⟩ := sk_13 (X := X) hL hb hR hc hk ho h h'
  have R1 := hR.fr hc f1 cX_out
  refine ⟨M1, t_14 hL hb _ _ ⟨_, M1, f1.1, h1, ?_⟩, f1⟩
  unfold mo_rub
  cases hcr : mo_cross σ k o
  · exact mb_y rfl rfl
  · have s3 := sk_3 (X := X) f1.1 hb (H1 hcr)
    have ea : mo_apart σ (min k o) (max k o) = mo_apart σ k o := by
      rcases Nat.le_total k o with e | e
      · rw [Nat.min_eq_left e, Nat.max_eq_right e]
      · rw [Nat.min_eq_right e, Nat.max_eq_left e, apart_s]
    rw [ea] at s3
    refine mb_n (by decide) ⟨_, M1, f1.1, s3, 4, ⟨rfl, rfl⟩, ?_⟩
    rw [R1.s (by decide)]
    by_cases hr : mo_apart σ k o ≤ σ 7
    · rw [decide_eq_true hr]; exact mb_n (mb_lt.mpr hr) rfl
    · rw [decide_eq_false hr]; exact mb_y (mb_le.mp hr) rfl
end SGB
