/-! the class: lines are worn and cut, a tick, ticks -/
/-- the row with more wear -/
def mo_wr (σ : Nat → Int32) (f : Nat → Int32) : Nat → Int32 := fun j => if 23 ≤ j ∧ j < 173 ∧ (j - 23) % 15 = 10 then σ j + f ((j - 23) / 15) else σ j
/-- how many others a line has met -/
def pre (n i j k : Nat) : Nat := if k < i then n else if k = i then j else if k < j then i + 1 else i
/-- what the class keeps of the most wear -/
def tw (σ : Nat → Int32) (k n : Nat) (m y : Int32) : Prop := y = oI (mo_threat σ k n) ∧ ∀ c, mo_threat σ k n = some c → m = mo_brings σ c
section SRU
variable {X : ak_X} {M M' : ak_M} {b k o nk nw ne fe : Nat} {σ τ : Nat → Int32} {f g : Nat → Int32}
theorem kf_wr {w : Nat} (hk : k < 10) (hw : w < 15) : kf (mo_wr σ f) k w = if w = 10 then kf σ k 10 + f k else kf σ k w := by
  unfold kf mo_wr
  by_cases h : w = 10
  · subst h
    rw [if_pos rfl, if_pos (by omega)]
    congr 2
    omega
  · rw [if_neg h, if_neg (by omega)]
theorem wr_lo {i : Nat} (h : i < 23 ∨ 173 ≤ i) : mo_wr σ f i = σ i := if_neg (by omega)
theorem ct_wr (h : ct σ nk nw ne) : ct (mo_wr σ f) nk nw ne := by
  obtain ⟨a, b, c, d, e, g⟩ := h
  exact ⟨a, b, c, by rw [wr_lo (by decide)]; exact d, by rw [wr_lo (by decide)]; exact e, by rw [wr_lo (by decide)]; exact g⟩
theorem kp_wr (hk : k < 10) (h : kp σ k) : kp (mo_wr σ f) k := by
  unfold kp
  rw [kf_wr hk (by decide), kf_wr hk (by decide), kf_wr hk (by decide), kf_wr hk (by decide), kf_wr hk (by decide)]
  exact h
/-- the geometry is told by places, length and flyer alone -/
theorem geo (h : ∀ w, 1 ≤ w → w < 10 → kf τ k w = kf σ k w) (h' : ∀ w, 1 ≤ w → w < 10 → kf τ o w = kf σ o w) : mo_cz τ k o = mo_cz σ k o ∧ mo_apart τ k o = mo_apart σ k o ∧ mo_brings τ k = mo_brings σ k ∧ mo_crX τ k o = mo_crX σ k o ∧ mo_crY τ k o = mo_crY σ k o := by
  have a1 := h 1 (by decide) (by decide)
  have a2 := h 2 (by decide) (by decide)
  have a3 := h 3 (by decide) (by decide)
  have a4 := h 4 (by decide) (by decide)
  have a5 := h 5 (by decide) (by decide)
  have a6 := h 6 (by decide) (by decide)
  have a7 := h 7 (by decide) (by decide)
  have a8 := h 8 (by decide) (by decide)
  have b1 := h' 1 (by decide) (by decide)
  have b2 := h' 2 (by decide) (by decide)
  have b3 := h' 3 (by decide) (by decide)
  have b4 := h' 4 (by decide) (by decide)
  have b5 := h' 5 (by decide) (by decide)
  have b6 := h' 6 (by decide) (by decide)
  have wx : mo_wx τ k = mo_wx σ k := by unfold mo_wx; rw [a1, a4]
  have wy : mo_wy τ k = mo_wy σ k := by unfold mo_wy; rw [a2, a5]
  have wx' : mo_wx τ o = mo_wx σ o := by unfold mo_wx; rw [b1, b4]
  have wy' : mo_wy τ o = mo_wy σ o := by unfold mo_wy; rw [b2, b5]
  have q0 : mo_q0 τ k o = mo_q0 σ k o := by unfold mo_q0; rw [wx, wy, wx', wy']
  have q0' : mo_q0 τ o k = mo_q0 σ o k := by unfold mo_q0; rw [wx, wy, wx', wy']
  have p0 : mo_p0 τ k o = mo_p0 σ k o := by unfold mo_p0; rw [wx', wy', a4, a5, b4, b5]
  have p0' : mo_p0 τ o k = mo_p0 σ o k := by unfold mo_p0; rw [wx, wy, a4, a5, b4, b5]
  have q : mo_q τ k o = mo_q σ k o := by unfold mo_q; rw [q0]
  have q' : mo_q τ o k = mo_q σ o k := by unfold mo_q; rw [q0']
  have p : mo_p τ k o = mo_p σ k o := by unfold mo_p; rw [q0, p0]
  have p' : mo_p τ o k = mo_p σ o k := by unfold mo_p; rw [q0', p0']
  have sl : mo_slack τ k = mo_slack σ k := by unfold mo_slack mo_span; rw [wx, wy, a3, a6]
  have sl' : mo_slack τ o = mo_slack σ o := by unfold mo_slack mo_span; rw [wx', wy', b3, b6]
  have sd : ∀ x y, mo_side τ k x y = mo_side σ k x y := fun x y => by unfold mo_side; rw [wx, wy, a4, a5]
  have sd' : ∀ x y, mo_side τ o x y = mo_side σ o x y := fun x y => by unfold mo_side; rw [wx', wy', b4, b5]
  have pt : mo_part τ k o = mo_part σ k o := by unfold mo_part; rw [b1, b2, b4, b5, sd, sd]
  have pt' : mo_part τ o k = mo_part σ o k := by unfold mo_part; rw [a1, a2, a4, a5, sd', sd']
  have hi : mo_high τ k o = mo_high σ k o := by unfold mo_high; rw [a3, p, q, sl]
  have hi' : mo_high τ o k = mo_high σ o k := by unfold mo_high; rw [b3, p', q', sl']
  refine ⟨by unfold mo_cz; rw [pt, pt'], by unfold mo_apart; rw [hi, hi'], by unfold mo_brings; rw [a7, a8], by unfold mo_crX; rw [a4, wx, p, q], by unfold mo_crY; rw [a5, wy, p, q]⟩
theorem rub_eq (h : ∀ w, w < 10 → kf τ k w = kf σ k w) (h' : ∀ w, w < 10 → kf τ o w = kf σ o w) (h7 : τ 7 = σ 7) : mo_rub τ k o = mo_rub σ k o := by
  have g := geo (τ := τ) (σ := σ) (k := k) (o := o) (fun w _ hw => h w hw) (fun w _ hw => h' w hw)
  unfold mo_rub
  rw [cross_cz, cross_cz, g.1, g.2.1, h7]
  unfold mo_fly
  rw [h 0 (by decide), h' 0 (by decide)]
theorem rub_irr (h : kp σ k) : mo_rub σ k k = false := by
  cases hr : mo_rub σ k k with
  | false => rfl
  | true =>
    exfalso
    have a := ((cross_t h h).mp (rub_cross hr)).2.2
    have e : zS σ k k = 0 := by unfold zS zdx zdy; rw [Int.sub_self, Int.sub_self]; omega
    omega
theorem tw_n {n : Nat} {m y : Int32} (h : tw σ k n m y) (hr : mo_rub σ k n = false) : tw σ k (n + 1) m y := by
  unfold tw mo_threat
  rw [hr, if_neg (by decide)]
  exact h
theorem tw_y {n : Nat} {m y m' y' : Int32} (h : tw σ k n m y) (hn : n < 10) (hr : mo_rub σ k n = true) (hq : if y = (-1) ∨ m < mo_brings σ n then m' = mo_brings σ n ∧ y' = nI n else m' = m ∧ y' = y) : tw σ k (n + 1) m' y' := by
  unfold tw mo_threat
  rw [hr, if_pos rfl]
  obtain ⟨h1, h2⟩ := h
  have hlt := mo_threat_lt σ k n
  cases ht : mo_threat σ k n with
  | none =>
    rw [ht] at h1
    have h1 : y = (-1) := h1
    rw [if_pos (Or.inl h1)] at hq
    exact ⟨hq.2, fun c hc => by cases hc; exact hq.1⟩
  | some c =>
    rw [ht] at h1
    have hc := (hlt c ht).1
    have e := h2 c ht
    dsimp only
    by_cases hb : mo_brings σ c < mo_brings σ n
    · rw [if_pos (Or.inr (by rw [e]; exact hb))] at hq
      rw [if_pos hb]
      exact ⟨hq.2, fun d hd => by cases hd; exact hq.1⟩
    · rw [if_neg (fun q => q.elim (fun q => mi_n1 (a := c) (by omega) (h1.symm.trans q)) (fun q => hb (by rw [e] at q; exact q)))] at hq
      rw [if_neg hb]
      exact ⟨by rw [hq.2]; exact h1, fun d hd => by cases hd; rw [hq.1]; exact e⟩
/-- scratch of a kite -/
theorem Rb.sc (h : Rb b σ nk nw ne fe M) (hc : ct σ nk nw ne) (hk : k < 10) {w : Nat} {v : Int32} (hw : 14 ≤ w) : Rb b σ nk nw ne fe (ak_sI M (b + 6 + k) w v) := by
  obtain ⟨h1, ⟨a1, a2, a3, a4, a5, a6⟩, h3, h4, h5, h6⟩ := h
  have c1 := hc.1
  have c2 := hc.2.1.2
  have e0 : ak_I (ak_sI M (b + 6 + k) w v) b = ak_I M b := mb_sIr (by omega)
  refine ⟨h1, by rw [e0]; exact ⟨a1, a2, a3, a4, a5, a6⟩, fun k' hk' w' hw' => ?_, fun i hi w' hw' => ?_, fun j hj => ?_, fun j hj w' hw' => ?_⟩
  · rw [mb_sIk (by omega)]; exact h3 k' hk' w' hw'
  · rw [mb_sIr (by omega)]; exact h4 i hi w' hw'
  · rw [mb_sIr (by omega)]; exact h5 j hj
  · rw [mb_sIr (by omega)]; exact h6 j hj w' hw'
theorem sk_24 (hL : ab_lay M) (hb : b ∈ ab_fb) (hR : Rb b τ nk nw ne fe M) (hc : ct τ nk nw ne) (hk : k < nk) (ho : o < nk) : ∃ M', rn X 24 [.ref b, .int (nI k), .int (nI o)] M (.inl none, M') ∧ cr b (lay τ k 10 (kf τ k 10 + mo_brings τ o)) nk nw ne fe M M' ∧ (∀ q, q < 10 → q ≠ k → ∀ w, 14 ≤ w → ak_I M' (b + 6 + q) w = ak_I M (b + 6 + q) w) ∧
    (if ak_I M (b + 6 + k) 15 = (-1) ∨ ak_I M (b + 6 + k) 14 < mo_brings τ o then ak_I M' (b + 6 + k) 14 = mo_brings τ o ∧ ak_I M' (b + 6 + k) 15 = nI o else ak_I M' (b + 6 + k) 14 = ak_I M (b + 6 + k) 14 ∧ ak_I M' (b + 6 + k) 15 = ak_I M (b + 6 + k) 15) := by
  have hk10 : k < 10 := Nat.lt_of_lt_of_le hk hc.1
  have ho10 : o < 10 := Nat.lt_of_lt_of_le ho hc.1
  have k0 : cr b τ nk nw ne fe M M := ⟨fr.rf hL, hR⟩
  generalize g5 : ak_sI M (b + 6 + k) 10 (kf τ k 10 + mo_brings τ o) = M5
  have k5 := k0.lay hc hk (w := 10) (by decide) g5.symm
  have c5 := ct_lay (k := k) (w := 10) (v := kf τ k 10 + mo_brings τ o) hc
  have o5 : ∀ q w, 14 ≤ w → ak_I M5 (b + 6 + q) w = ak_I M (b + 6 + q) w := fun q w hw => by rw [← g5]; exact mb_sIk (by omega)
  have head : ∀ {r}, (if ak_I M5 (b + 6 + k) 15 = (-1) then (∀ M6 : ak_M, M6 = ak_sI M5 (b + 6 + k) 14 (mo_brings τ o) → (∀ M7 : ak_M, M7 = ak_sI M6 (b + 6 + k) 15 (nI o) → r = (.inl none, M7))) else (if mo_brings τ o ≤ ak_I M5 (b + 6 + k) 14 then r = (.inl none, M5) else (∀ M8 : ak_M, M8 = ak_sI M5 (b + 6 + k) 14 (mo_brings τ o) → (∀ M9 : ak_M, M9 = ak_sI M8 (b + 6 + k) 15 (nI o) → r = (.inl none, M9))))) → rn X 24 [.ref b, .int (nI k), .int (nI o)] M r := by
    intro r hr
    refine t_24 hL hb _ _ ⟨k, hk10, mb_ix hk10 (by decide), o, ho10, mb_ix ho10 (by decide), _, M, hL, sk_44 hL hb hR hc ho, fun N e => ?_⟩
    rw [hR.kk hk (by decide)] at e
    obtain rfl := e.trans g5
    exact hr
  generalize g6 : ak_sI M5 (b + 6 + k) 14 (mo_brings τ o) = M6
  generalize g7 : ak_sI M6 (b + 6 + k) 15 (nI o) = M7
  have hin : ∀ w, cS b (b + 6 + k) w := fun _ => ⟨by omega, by omega⟩
  have k7 : cr b (lay τ k 10 (kf τ k 10 + mo_brings τ o)) nk nw ne fe M M7 := by
    rw [← g7, ← g6]
    exact ⟨(k5.1.st (hin _)).st (hin _), (k5.2.sc c5 hk10 (by decide)).sc c5 hk10 (by decide)⟩
  have o7 : ∀ q, q < 10 → q ≠ k → ∀ w, 14 ≤ w → ak_I M7 (b + 6 + q) w = ak_I M (b + 6 + q) w := by
    intro q hq hqk w hw
    rw [← g7, mb_sIr (by omega), ← g6, mb_sIr (by omega)]
    exact o5 q w hw
  have e14 : ak_I M7 (b + 6 + k) 14 = mo_brings τ o := by rw [← g7, mb_sIk (by decide), ← g6, mb_sIs]
  have e15 : ak_I M7 (b + 6 + k) 15 = nI o := by rw [← g7, mb_sIs]
  by_cases d1 : ak_I M (b + 6 + k) 15 = (-1)
  · refine ⟨M7, head (mb_y (by rw [o5 k 15 (by decide)]; exact d1) fun N e => ?_), k7, o7, ?_⟩
    · obtain rfl := e.trans g6
      intro N e
      obtain rfl := e.trans g7
      rfl
    · rw [if_pos (Or.inl d1)]; exact ⟨e14, e15⟩
  · by_cases d2 : ak_I M (b + 6 + k) 14 < mo_brings τ o
    · refine ⟨M7, head (mb_n (by rw [o5 k 15 (by decide)]; exact d1) (mb_n (by rw [o5 k 14 (by decide)]; exact mb_le.mpr d2) fun N e => ?_)), k7, o7, ?_⟩
      · obtain rfl := e.trans g6
        intro N e
        obtain rfl := e.trans g7
        rfl
      · rw [if_pos (Or.inr d2)]; exact ⟨e14, e15⟩
    · refine ⟨M5, head (mb_n (by rw [o5 k 15 (by decide)]; exact d1) (mb_y (by rw [o5 k 14 (by decide)]; exact mb_lt.mp d2) rfl)), k5, fun q _ _ w hw => o5 q w hw, ?_⟩
      rw [if_neg (fun q => q.elim d1 d2)]
      exact ⟨o5 k 14 (by decide), o5 k 15 (by decide)⟩
/-- where the rubbing of all lines stands -/
def rq (b : Nat) (σ : Nat → Int32) (nk nw ne fe i j : Nat) (M M1 : ak_M) : Prop := cr b (mo_wr σ (fun k => mo_wear σ k (pre nk i j k))) nk nw ne fe M M1 ∧ ∀ k, k < nk → tw σ k (pre nk i j k) (ak_I M1 (b + 6 + k) 14) (ak_I M1 (b + 6 + k) 15)
theorem wr_cg (hc : ct σ nk nw ne) (h : Rb b (mo_wr σ f) nk nw ne fe M) (hf : ∀ k, k < nk → f k = g k) : Rb b (mo_wr σ g) nk nw ne fe M := by
  have h10 := hc.1
  refine h.cg ?_ (fun j hj => ?_) (fun k hk w hw => ?_) (fun i hi w hw => ?_) (fun j hj w hw => ?_)
  · rw [wr_lo (by decide), wr_lo (by decide), wr_lo (by decide), wr_lo (by decide), wr_lo (by decide), wr_lo (by decide), wr_lo (by decide), wr_lo (by decide), wr_lo (by decide), wr_lo (by decide)]
    exact ⟨rfl, rfl, rfl, rfl, rfl⟩
  · rw [wr_lo (by omega), wr_lo (by omega)]
  · rw [kf_wr (by omega) (by omega), kf_wr (by omega) (by omega), hf k hk]
  · have := hc.2.1.2
    show mo_wr σ f _ = mo_wr σ g _
    rw [wr_lo (by omega), wr_lo (by omega)]
  · show mo_wr σ f _ = mo_wr σ g _
    rw [wr_lo (by omega), wr_lo (by omega)]
theorem rq_same {i j i' j' : Nat} {M1 : ak_M} (hc : ct σ nk nw ne) (h : rq b σ nk nw ne fe i j M M1) (he : ∀ k, k < nk → mo_wear σ k (pre nk i j k) = mo_wear σ k (pre nk i' j' k) ∧ mo_threat σ k (pre nk i j k) = mo_threat σ k (pre nk i' j' k)) : rq b σ nk nw ne fe i' j' M M1 := by
  refine ⟨⟨h.1.1, wr_cg hc h.1.2 fun k hk => (he k hk).1⟩, fun k hk => ?_⟩
  have := h.2 k hk
  unfold tw at this ⊢
  rw [(he k hk).2] at this
  exact this
theorem rq_row {i : Nat} {M1 : ak_M} (hc : ct σ nk nw ne) (hp : ∀ k, k < nk → kp σ k) (h : rq b σ nk nw ne fe i nk M M1) : rq b σ nk nw ne fe (i + 1) (i + 2) M M1 := by
  refine rq_same hc h fun k hk => ?_
  unfold pre
  by_cases h1 : k < i
  · rw [if_pos h1, if_pos (by omega)]; exact ⟨rfl, rfl⟩
  · rw [if_neg h1]
    by_cases h2 : k = i
    · rw [if_pos h2, if_pos (by omega)]; exact ⟨rfl, rfl⟩
    · rw [if_neg h2, if_pos hk, if_neg (by omega)]
      by_cases h3 : k = i + 1
      · rw [if_pos h3, h3]
        have hr := rub_irr (hp (i + 1) (by omega))
        have e1 : mo_wear σ (i + 1) (i + 2) = mo_wear σ (i + 1) (i + 1) := by
          show (if mo_rub σ (i + 1) (i + 1) = true then _ else _) = _
          rw [hr, if_neg (by decide)]
        have e2 : mo_threat σ (i + 1) (i + 2) = mo_threat σ (i + 1) (i + 1) := by
          show (if mo_rub σ (i + 1) (i + 1) = true then _ else _) = _
          rw [hr, if_neg (by decide)]
        exact ⟨e1.symm, e2.symm⟩
      · rw [if_neg h3, if_neg (by omega)]; exact ⟨rfl, rfl⟩
theorem pre_i {i j : Nat} : pre nk i j i = j := by unfold pre; rw [if_neg (by omega), if_pos rfl]
theorem pre_j {i j : Nat} (h : i < j) : pre nk i j j = i := by unfold pre; rw [if_neg (by omega), if_neg (by omega), if_neg (by omega)]
theorem pre_j' {i j : Nat} (h : i < j) : pre nk i (j + 1) j = i + 1 := by unfold pre; rw [if_neg (by omega), if_neg (by omega), if_pos (by omega)]
theorem pre_o {i j k : Nat} (h1 : k ≠ i) (h2 : k ≠ j) : pre nk i (j + 1) k = pre nk i j k := by
  unfold pre
  by_cases h : k < i
  · rw [if_pos h, if_pos h]
  · rw [if_neg h, if_neg h, if_neg h1, if_neg h1]
    by_cases h3 : k < j
    · rw [if_pos h3, if_pos (by omega)]
    · rw [if_neg h3, if_neg (by omega)]
theorem wear_n {n : Nat} (hr : mo_rub σ k n = false) : mo_wear σ k (n + 1) = mo_wear σ k n ∧ mo_threat σ k (n + 1) = mo_threat σ k n := by
  constructor
  · show (if mo_rub σ k n = true then _ else _) = _
    rw [hr, if_neg (by decide)]
  · show (if mo_rub σ k n = true then _ else _) = _
    rw [hr, if_neg (by decide)]
theorem wear_y {n : Nat} (hr : mo_rub σ k n = true) : mo_wear σ k (n + 1) = mo_wear σ k n + mo_brings σ n := by
  show (if mo_rub σ k n = true then _ else _) = _
  rw [hr, if_pos rfl]
theorem rq_no {i j : Nat} {M1 : ak_M} (hc : ct σ nk nw ne) (hp : ∀ k, k < nk → kp σ k) (hi : i < j) (hj : j < nk) (hr : mo_rub σ i j = false) (h : rq b σ nk nw ne fe i j M M1) : rq b σ nk nw ne fe i (j + 1) M M1 := by
  refine rq_same hc h fun k hk => ?_
  by_cases h1 : k = i
  · subst h1
    rw [pre_i, pre_i]
    have := wear_n hr
    exact ⟨this.1.symm, this.2.symm⟩
  · by_cases h2 : k = j
    · subst h2
      rw [pre_j hi, pre_j' hi]
      have := wear_n (σ := σ) (k := k) (n := i) (by rw [rub_s (hp i (by omega)) (hp k hk)]; exact hr)
      exact ⟨this.1.symm, this.2.symm⟩
    · rw [pre_o h1 h2]; exact ⟨rfl, rfl⟩
theorem rq_yes {i j : Nat} {M1 : ak_M} (hb : b ∈ ab_fb) (hc : ct σ nk nw ne) (hp : ∀ k, k < nk → kp σ k) (hi : i < j) (hj : j < nk) (hr : mo_rub σ i j = true) (h : rq b σ nk nw ne fe i j M M1) :
    ∃ M2 M3, rn X 24 [.ref b, .int (nI i), .int (nI j)] M1 (.inl none, M2) ∧ ab_lay M2 ∧ rn X 24 [.ref b, .int (nI j), .int (nI i)] M2 (.inl none, M3) ∧ rq b σ nk nw ne fe i (j + 1) M M3 := by
  have h10 := hc.1
  have hin : i < nk := by omega
  have hji : mo_rub σ j i = true := by rw [rub_s (hp i hin) (hp j hj)]; exact hr
  obtain ⟨M2, r2, c2, o2, q2⟩ := sk_24 (X := X) h.1.1.1 hb h.1.2 (ct_wr hc) hin hj
  obtain ⟨M3, r3, c3, o3, q3⟩ := sk_24 (X := X) c2.1.1 hb c2.2 (ct_lay (ct_wr hc)) hj hin
  have br : ∀ q, q < nk → mo_brings (mo_wr σ (fun k => mo_wear σ k (pre nk i j k))) q = mo_brings σ q := fun q hq => (geo (o := q) (fun w _ hw => by rw [kf_wr (by omega) (by omega), if_neg (by omega)]) (fun w _ hw => by rw [kf_wr (by omega) (by omega), if_neg (by omega)])).2.2.1
  have br2 : mo_brings (lay (mo_wr σ (fun k => mo_wear σ k (pre nk i j k))) i 10 (kf (mo_wr σ (fun k => mo_wear σ k (pre nk i j k))) i 10 + mo_brings (mo_wr σ (fun k => mo_wear σ k (pre nk i j k))) j)) i = mo_brings σ i := by
    rw [← br i hin]
    exact (geo (o := i) (fun w _ hw => kf_n (by decide) (by omega) (by omega)) (fun w _ hw => kf_n (by decide) (by omega) (by omega))).2.2.1
  rw [br j hj] at q2
  rw [br2] at q3
  refine ⟨M2, M3, r2, c2.1.1, r3, ⟨(h.1.1.tr c2.1).tr c3.1, ?_⟩, fun k hk => ?_⟩
  · refine c3.2.cg ?_ (fun q hq => ?_) (fun k hk w hw => ?_) (fun q hq w hw => ?_) (fun q hq w hw => ?_)
    · rw [lay_lo (by decide), lay_lo (by decide), lay_lo (by decide), lay_lo (by decide), lay_lo (by decide), lay_lo (by decide), lay_lo (by decide), lay_lo (by decide), lay_lo (by decide), lay_lo (by decide), wr_lo (by decide), wr_lo (by decide), wr_lo (by decide), wr_lo (by decide), wr_lo (by decide), wr_lo (by decide), wr_lo (by decide), wr_lo (by decide), wr_lo (by decide), wr_lo (by decide)]
      exact ⟨rfl, rfl, rfl, rfl, rfl⟩
    · rw [lay_lo (by omega), lay_lo (by omega), wr_lo (by omega), wr_lo (by omega)]
    · rw [br2, br j hj]
      have hk10 : k < 10 := by omega
      rw [kf_lay (by decide) (by omega), kf_lay (by decide) (by omega), kf_lay (by decide) (by omega), kf_wr hk10 (by omega), kf_wr hk10 (by omega), kf_wr (by omega) (by decide), kf_wr (by omega) (by decide)]
      by_cases h10 : w = 10
      · subst h10
        by_cases e2 : k = j
        · subst e2
          rw [if_pos ⟨rfl, rfl⟩, if_pos rfl, if_pos rfl, if_neg (by omega), pre_j hi, pre_j' hi, wear_y hji, Int32.add_assoc, if_pos rfl]
        · rw [if_neg (by omega)]
          by_cases e1 : k = i
          · subst e1
            rw [if_pos ⟨rfl, rfl⟩, if_pos rfl, if_pos rfl, pre_i, pre_i, wear_y hr, Int32.add_assoc]
          · rw [if_neg (by omega), if_pos rfl, if_pos rfl, pre_o e1 e2]
      · rw [if_neg (by omega), if_neg (by omega), if_neg h10, if_neg h10]
    · have := hc.2.1.2
      rw [wf_lay (by omega) hw, wf_lay (by omega) hw]
      show mo_wr σ _ _ = mo_wr σ _ _
      rw [wr_lo (by omega), wr_lo (by omega)]
    · rw [ef_lay (by omega) (by decide), ef_lay (by omega) (by decide)]
      show mo_wr σ _ _ = mo_wr σ _ _
      rw [wr_lo (by omega), wr_lo (by omega)]
  · have hk10 : k < 10 := by omega
    have t0 := h.2 k hk
    by_cases e1 : k = i
    · subst e1
      rw [pre_i] at t0 ⊢
      rw [o3 k hk10 (by omega) 14 (by decide), o3 k hk10 (by omega) 15 (by decide)]
      exact tw_y t0 (by omega) hr q2
    · by_cases e2 : k = j
      · subst e2
        rw [pre_j hi] at t0
        rw [pre_j' hi]
        rw [o2 k hk10 e1 14 (by decide), o2 k hk10 e1 15 (by decide)] at q3
        exact tw_y t0 (by omega) hji q3
      · rw [pre_o e1 e2, o3 k hk10 e2 14 (by decide), o3 k hk10 e2 15 (by decide), o2 k hk10 e1 14 (by decide), o2 k hk10 e1 15 (by decide)]
        exact t0
end SRU
