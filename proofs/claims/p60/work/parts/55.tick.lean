/-! the model: a tick -/
/-- who would pick up, of the first n, and how near -/
def mo_pkr (σ : Nat → Int32) (x y bt : Int32) : Nat → Option Nat × Int32
  | 0 => (none, 0)
  | n + 1 => if nI n = bt ∨ mo_held σ n = false ∨ σ 8 < ab32 (kf σ n 4 - x) ∨ σ 8 < ab32 (kf σ n 5 - y) ∨ ((mo_pkr σ x y bt n).1 ≠ none ∧ (mo_pkr σ x y bt n).2 ≤ ab32 (kf σ n 4 - x) + ab32 (kf σ n 5 - y)) then mo_pkr σ x y bt n else (some n, ab32 (kf σ n 4 - x) + ab32 (kf σ n 5 - y))
theorem mo_pkr_s (σ : Nat → Int32) (x y bt : Int32) (n : Nat) : mo_pkr σ x y bt (n + 1) = if nI n = bt ∨ mo_held σ n = false ∨ σ 8 < ab32 (kf σ n 4 - x) ∨ σ 8 < ab32 (kf σ n 5 - y) ∨ ((mo_pkr σ x y bt n).1 ≠ none ∧ (mo_pkr σ x y bt n).2 ≤ ab32 (kf σ n 4 - x) + ab32 (kf σ n 5 - y)) then mo_pkr σ x y bt n else (some n, ab32 (kf σ n 4 - x) + ab32 (kf σ n 5 - y)) := rfl
def mo_ins (σ : Nat → Int32) (s : Int32) : Nat → Int32
  | 0 => 0
  | n + 1 => if kf σ n 0 = s then mo_ins σ s n + 1 else mo_ins σ s n
theorem mo_ins_s (σ : Nat → Int32) (s : Int32) (n : Nat) : mo_ins σ s (n + 1) = if kf σ n 0 = s then mo_ins σ s n + 1 else mo_ins σ s n := rfl
theorem mo_pkr_lt (σ : Nat → Int32) (x y bt : Int32) : ∀ n b, (mo_pkr σ x y bt n).1 = some b → b < n ∧ mo_held σ b = true ∧ nI b ≠ bt
  | 0, b, h => by cases h
  | n + 1, b, h => by
    unfold mo_pkr at h
    split at h
    · have := mo_pkr_lt σ x y bt n b h
      exact ⟨by omega, this.2⟩
    · rename_i hn
      cases h
      refine ⟨by omega, ?_, fun e => hn (Or.inl e)⟩
      cases hh : mo_held σ n
      · exact absurd (Or.inr (Or.inl hh)) hn
      · rfl
section SGT
variable {X : ak_X} {M : ak_M} {nk nw ne : Nat} {σ : Nat → Int32} {k : Nat}
theorem vs_up10 {v : Int32} (h : vs σ nk nw ne) : vs (up σ 10 v) nk nw ne := by
  obtain ⟨⟨a1, a2, a3, a4, a5, a6⟩, b, c, d, e, f⟩ := h
  refine ⟨⟨a1, a2, a3, by rw [up_n (by decide)]; exact a4, by rw [up_n (by decide)]; exact a5, by rw [up_n (by decide)]; exact a6⟩, by rw [up_n (by decide)]; exact b, fun q hq w hw => ?_, fun i hi => ?_, ?_, fun j hj => ?_⟩
  · rw [show kf (up σ 10 v) q w = kf σ q w from up_n (by omega)]; exact c q hq w hw
  · unfold wv
    rw [show wf (up σ 10 v) i 1 = wf σ i 1 from up_n (by omega), show wf (up σ 10 v) i 2 = wf σ i 2 from up_n (by omega)]
    exact d i hi
  · unfold sv
    rw [up_n (by decide), up_n (by decide), up_n (by decide), up_n (by decide), up_n (by decide), up_n (by decide)]
    exact e
  · unfold ev
    rw [show ef (up σ 10 v) j 0 = ef σ j 0 from up_n (by omega), show ef (up σ 10 v) j 1 = ef σ j 1 from up_n (by omega), show ef (up σ 10 v) j 2 = ef σ j 2 from up_n (by omega), show ef (up σ 10 v) j 3 = ef σ j 3 from up_n (by omega)]
    exact f j hj
theorem vs_up0 {v : Int32} (h : vs σ nk nw ne) (hv : in32 v 0 5000 = true) : vs (up σ 0 v) nk nw ne := by
  obtain ⟨⟨a1, a2, a3, a4, a5, a6⟩, b, c, d, e, f⟩ := h
  refine ⟨⟨a1, a2, a3, by rw [up_n (by decide)]; exact a4, by rw [up_n (by decide)]; exact a5, by rw [up_n (by decide)]; exact a6⟩, by rw [up_s]; exact hv, fun q hq w hw => ?_, fun i hi => ?_, ?_, fun j hj => ?_⟩
  · rw [show kf (up σ 0 v) q w = kf σ q w from up_n (by omega)]; exact c q hq w hw
  · unfold wv
    rw [show wf (up σ 0 v) i 1 = wf σ i 1 from up_n (by omega), show wf (up σ 0 v) i 2 = wf σ i 2 from up_n (by omega)]
    exact d i hi
  · unfold sv
    rw [up_n (by decide), up_n (by decide), up_n (by decide), up_n (by decide), up_n (by decide), up_n (by decide)]
    exact e
  · unfold ev
    rw [show ef (up σ 0 v) j 0 = ef σ j 0 from up_n (by omega), show ef (up σ 0 v) j 1 = ef σ j 1 from up_n (by omega), show ef (up σ 0 v) j 2 = ef σ j 2 from up_n (by omega), show ef (up σ 0 v) j 3 = ef σ j 3 from up_n (by omega)]
    exact f j hj
end SGT
/-! lines are worn and cut -/
def mo_cutb (τ : Nat → Int32) (k b : Nat) (x y : Int32) : Nat → Int32 :=
  mo_hap (up (lay (lay (lay τ k 0 2) k 13 (nI b)) b 11 (kf (lay (lay τ k 0 2) k 13 (nI b)) b 11 + 1)) 10 (lay (lay (lay τ k 0 2) k 13 (nI b)) b 11 (kf (lay (lay τ k 0 2) k 13 (nI b)) b 11 + 1) 10 + 1)) 1 (nI k) (nI b) x y
def mo_cut1 (σ τ : Nat → Int32) (n k : Nat) : Nat → Int32 :=
  match mo_threat σ k n with
  | none => lay τ k 10 (kf τ k 10 + mo_wear σ k n)
  | some b => if mo_fly (lay τ k 10 (kf τ k 10 + mo_wear σ k n)) k = true ∧ kf (lay τ k 10 (kf τ k 10 + mo_wear σ k n)) k 9 ≤ kf (lay τ k 10 (kf τ k 10 + mo_wear σ k n)) k 10
    then mo_cutb (lay τ k 10 (kf τ k 10 + mo_wear σ k n)) k b (mo_cX σ k b) (mo_cY σ k b) else lay τ k 10 (kf τ k 10 + mo_wear σ k n)
def mo_cuts (σ : Nat → Int32) (n : Nat) : Nat → (Nat → Int32)
  | 0 => σ
  | i + 1 => mo_cut1 σ (mo_cuts σ n i) n i
/-! drifting, picking up, a tick -/
def mo_dr1 (d : Nat → Bool) (σ : Nat → Int32) (k : Nat) : Nat → Int32 :=
  if d k = true then (if kf (mo_sink (mo_blow σ k) k) k 3 ≤ 0 then mo_hapAt (lay (mo_sink (mo_blow σ k) k) k 0 3) 2 k (-1) else mo_sink (mo_blow σ k) k) else σ
def mo_drs (d : Nat → Bool) (σ : Nat → Int32) : Nat → (Nat → Int32)
  | 0 => σ
  | i + 1 => mo_dr1 d (mo_drs d σ i) i
def mo_pkb (σ : Nat → Int32) (k b : Nat) : Nat → Int32 :=
  mo_hapAt (lay (lay (lay σ k 0 4) k 12 (nI b)) b 11 (kf (lay (lay σ k 0 4) k 12 (nI b)) b 11 + 2)) 3 k (nI b)
def mo_pk1 (σ : Nat → Int32) (n k : Nat) : Nat → Int32 :=
  if kf σ k 0 = 3 then (match (mo_pkr σ (kf σ k 1) (kf σ k 2) (nI k) n).1 with | none => σ | some b => mo_pkb σ k b) else σ
def mo_pks (σ : Nat → Int32) (n : Nat) : Nat → (Nat → Int32)
  | 0 => σ
  | i + 1 => mo_pk1 (mo_pks σ n i) n i
def mo_fls (σ : Nat → Int32) : Nat → (Nat → Int32)
  | 0 => σ
  | i + 1 => if mo_fly (mo_fls σ i) i = true then mo_goes (mo_fls σ i) i else mo_fls σ i
theorem mo_fls_s (σ : Nat → Int32) (i : Nat) : mo_fls σ (i + 1) = if mo_fly (mo_fls σ i) i = true then mo_goes (mo_fls σ i) i else mo_fls σ i := rfl
def mo_tick (σ : Nat → Int32) (n : Nat) : Nat → Int32 :=
  up (mo_pks (mo_drs (fun j => decide (kf σ j 0 = 2)) (mo_cuts (mo_fls σ n) n n) n) n n) 0 (mo_pks (mo_drs (fun j => decide (kf σ j 0 = 2)) (mo_cuts (mo_fls σ n) n n) n) n n 0 + 1)
/-- ticks, up to the last time -/
def mo_ts (σ : Nat → Int32) (n : Nat) : Nat → (Nat → Int32)
  | 0 => σ
  | t + 1 => if σ 0 < 5000 then mo_ts (mo_tick σ n) n t else σ
section SGU
variable {nk nw ne : Nat} {σ τ : Nat → Int32} {k b : Nat}
theorem cutb_vs {x y : Int32} (h : vs τ nk nw ne) (hk : k < 10) (hb : b < 10) : ∃ n', vs (mo_cutb τ k b x y) nk nw n' := by
  unfold mo_cutb
  refine ⟨_, hap_vs (vs_up10 (vs_lay (vs_lay (vs_lay h hk (by decide) fun _ => by decide) hk (by decide) fun _ => ?_) hb (by decide) fun _ => ?_)) (by decide) (in_k hk) ?_⟩
  · unfold rg; simp
  · unfold rg; simp
  · rw [in32_t, mi_t (by omega), mb_im1, mb_i9]; omega
theorem rg_hi {w : Nat} {v : Int32} (h : 10 ≤ w) : rg w v = true := by
  unfold rg
  rw [if_neg (by omega), if_neg (by omega), if_neg (by omega), if_neg (by omega), if_neg (by omega), if_neg (by omega), if_neg (by omega)]
theorem cut1_vs (h : vs τ nk nw ne) (hk : k < nk) : ∃ n', vs (mo_cut1 σ τ nk k) nk nw n' := by
  have hk10 : k < 10 := Nat.lt_of_lt_of_le hk h.1.1
  have v1 : vs (lay τ k 10 (kf τ k 10 + mo_wear σ k nk)) nk nw ne := vs_lay h hk10 (by decide) fun _ => rg_hi (by decide)
  unfold mo_cut1
  cases ht : mo_threat σ k nk with
  | none => exact ⟨_, v1⟩
  | some b =>
    dsimp only
    have hb := (mo_threat_lt _ _ _ _ ht).1
    split
    · exact cutb_vs v1 hk10 (Nat.lt_of_lt_of_le hb h.1.1)
    · exact ⟨_, v1⟩
theorem cuts_vs (h : vs σ nk nw ne) : ∀ i, i ≤ nk → ∃ n', vs (mo_cuts σ nk i) nk nw n'
  | 0, _ => ⟨_, h⟩
  | i + 1, hi => by
    obtain ⟨n', h'⟩ := cuts_vs h i (by omega)
    exact cut1_vs h' (by omega)
theorem dr1_vs {d : Nat → Bool} (h : vs σ nk nw ne) (hk : k < nk) : ∃ n', vs (mo_dr1 d σ k) nk nw n' := by
  have hk10 : k < 10 := Nat.lt_of_lt_of_le hk h.1.1
  have v1 := sink_vs (blow_vs h hk10) hk
  unfold mo_dr1
  split
  · split
    · exact ⟨_, hap_vs (vs_lay v1 hk10 (by decide) fun _ => by decide) (by decide) (in_k hk10) (by decide)⟩
    · exact ⟨_, v1⟩
  · exact ⟨_, h⟩
theorem drs_vs {d : Nat → Bool} (h : vs σ nk nw ne) : ∀ i, i ≤ nk → ∃ n', vs (mo_drs d σ i) nk nw n'
  | 0, _ => ⟨_, h⟩
  | i + 1, hi => by
    obtain ⟨n', h'⟩ := drs_vs h i (by omega)
    exact dr1_vs h' (by omega)
theorem pkb_vs (h : vs σ nk nw ne) (hk : k < 10) (hb : b < 10) : ∃ n', vs (mo_pkb σ k b) nk nw n' := by
  refine ⟨_, hap_vs (vs_lay (vs_lay (vs_lay h hk (by decide) fun _ => by decide) hk (by decide) fun _ => rg_hi (by decide)) hb (by decide) fun _ => rg_hi (by decide)) (by decide) (in_k hk) ?_⟩
  rw [in32_t, mi_t (by omega), mb_im1, mb_i9]; omega
theorem pk1_vs (h : vs σ nk nw ne) (hk : k < nk) : ∃ n', vs (mo_pk1 σ nk k) nk nw n' := by
  unfold mo_pk1
  split
  · cases hp : (mo_pkr σ (kf σ k 1) (kf σ k 2) (nI k) nk).1 with
    | none => exact ⟨_, h⟩
    | some b => exact pkb_vs h (Nat.lt_of_lt_of_le hk h.1.1) (Nat.lt_of_lt_of_le (mo_pkr_lt _ _ _ _ _ _ hp).1 h.1.1)
  · exact ⟨_, h⟩
theorem pks_vs (h : vs σ nk nw ne) : ∀ i, i ≤ nk → ∃ n', vs (mo_pks σ nk i) nk nw n'
  | 0, _ => ⟨_, h⟩
  | i + 1, hi => by
    obtain ⟨n', h'⟩ := pks_vs h i (by omega)
    exact pk1_vs h' (by omega)
theorem fls_vs (h : vs σ nk nw ne) : ∀ i, i ≤ nk → ∃ n', vs (mo_fls σ i) nk nw n'
  | 0, _ => ⟨_, h⟩
  | i + 1, hi => by
    obtain ⟨n', h'⟩ := fls_vs h i (by omega)
    unfold mo_fls
    split
    · exact goes_vs h' (by omega)
    · exact ⟨_, h'⟩
/-- what comes below the kites, but the counts of events and cuts, is as it was -/
theorem goes_0 (hk : k < 10) : mo_goes σ k 0 = σ 0 := by
  have e1 : ∀ n (τ : Nat → Int32), mo_pl τ k n 0 = τ 0 := by
    intro n
    induction n with
    | zero => intro τ; rfl
    | succ n ih =>
      intro τ
      unfold mo_pl
      split
      · rfl
      · rw [ih]
        unfold mo_p1
        repeat' split
        all_goals exact lay_lo (by decide)
  have e2 : ∀ τ : Nat → Int32, mo_g3 τ k 0 = τ 0 := by
    intro τ
    unfold mo_g3
    split
    · exact (hap_lo (by decide) (by decide)).trans (lay_lo (by decide))
    · rfl
  unfold mo_goes
  rw [e2, e1]
  have e3 : ∀ τ : Nat → Int32, mo_g2 τ k 0 = τ 0 := by
    intro τ
    unfold mo_g2 mo_climb mo_sink
    split
    all_goals exact lay_lo (by decide)
  rw [e3]
  unfold mo_blow mo_g1
  rw [lay_lo (by decide), lay_lo (by decide), lay_lo (by decide)]
theorem pkb_lo {i : Nat} (h : i < 23) (h9 : i ≠ 9) : mo_pkb σ k b i = σ i := by
  unfold mo_pkb mo_hapAt
  rw [hap_lo (by omega) h9, lay_lo h, lay_lo h, lay_lo h]
theorem cutb_lo {i : Nat} {x y : Int32} (h : i < 23) (h9 : i ≠ 9) (h10 : i ≠ 10) : mo_cutb σ k b x y i = σ i := by
  unfold mo_cutb
  rw [hap_lo (by omega) h9, up_n h10, lay_lo h, lay_lo h, lay_lo h]
theorem pk1_lo {n i : Nat} (h : i < 23) (h9 : i ≠ 9) : mo_pk1 σ n k i = σ i := by
  unfold mo_pk1
  by_cases c : kf σ k 0 = 3
  · rw [if_pos c]
    cases (mo_pkr σ (kf σ k 1) (kf σ k 2) (nI k) n).1 with
    | none => rfl
    | some b => exact pkb_lo h h9
  · rw [if_neg c]
theorem cut1_lo {n i : Nat} (h : i < 23) (h9 : i ≠ 9) (h10 : i ≠ 10) : mo_cut1 σ τ n k i = τ i := by
  unfold mo_cut1
  cases mo_threat σ k n with
  | none => exact lay_lo h
  | some b =>
    dsimp only
    by_cases c : mo_fly (lay τ k 10 (kf τ k 10 + mo_wear σ k n)) k = true ∧ kf (lay τ k 10 (kf τ k 10 + mo_wear σ k n)) k 9 ≤ kf (lay τ k 10 (kf τ k 10 + mo_wear σ k n)) k 10
    · rw [if_pos c, cutb_lo h h9 h10, lay_lo h]
    · rw [if_neg c, lay_lo h]
theorem dr1_lo {d : Nat → Bool} {i : Nat} (h : i < 23) (h9 : i ≠ 9) : mo_dr1 d σ k i = σ i := by
  have e : mo_sink (mo_blow σ k) k i = σ i := by
    unfold mo_sink mo_blow
    rw [lay_lo h, lay_lo h, lay_lo h]
  unfold mo_dr1
  by_cases c : d k = true
  · rw [if_pos c]
    by_cases c2 : kf (mo_sink (mo_blow σ k) k) k 3 ≤ 0
    · rw [if_pos c2]
      unfold mo_hapAt
      rw [hap_lo (by omega) h9, lay_lo h, e]
    · rw [if_neg c2, e]
  · rw [if_neg c]
theorem tick_0 : ∀ n, n ≤ 10 → mo_tick σ n 0 = σ 0 + 1 := by
  intro n hn
  unfold mo_tick
  rw [up_s]
  have e1 : ∀ (i : Nat) (τ : Nat → Int32), mo_pks τ n i 0 = τ 0 := by
    intro i
    induction i with
    | zero => intro τ; rfl
    | succ i ih => intro τ; exact (pk1_lo (by decide) (by decide)).trans (ih τ)
  have e2 : ∀ d (i : Nat) (τ : Nat → Int32), mo_drs d τ i 0 = τ 0 := by
    intro d i
    induction i with
    | zero => intro τ; rfl
    | succ i ih => intro τ; exact (dr1_lo (by decide) (by decide)).trans (ih τ)
  have e3 : ∀ (i : Nat) (τ : Nat → Int32), mo_cuts τ n i 0 = τ 0 := by
    intro i
    induction i with
    | zero => intro τ; rfl
    | succ i ih => intro τ; exact (cut1_lo (by decide) (by decide) (by decide)).trans (ih τ)
  have e4 : ∀ i, i ≤ 10 → mo_fls σ i 0 = σ 0 := by
    intro i
    induction i with
    | zero => intro _; rfl
    | succ i ih =>
      intro hi
      rw [← ih (by omega), mo_fls_s]
      by_cases c : mo_fly (mo_fls σ i) i = true
      · rw [if_pos c]; exact goes_0 (by omega)
      · rw [if_neg c]
  rw [e1, e2, e3, e4 n hn]
theorem tick_vs (h : vs σ nk nw ne) (ht : σ 0 < 5000) : ∃ n', vs (mo_tick σ nk) nk nw n' := by
  obtain ⟨n1, h1⟩ := fls_vs h nk (Nat.le_refl _)
  obtain ⟨n2, h2⟩ := cuts_vs h1 nk (Nat.le_refl _)
  obtain ⟨n3, h3⟩ := drs_vs (d := fun j => decide (kf σ j 0 = 2)) h2 nk (Nat.le_refl _)
  obtain ⟨n4, h4⟩ := pks_vs h3 nk (Nat.le_refl _)
  refine ⟨n4, vs_up0 h4 ?_⟩
  have e : mo_tick σ nk 0 = σ 0 + 1 := tick_0 nk h.1.1
  rw [show (mo_pks (mo_drs (fun j => decide (kf σ j 0 = 2)) (mo_cuts (mo_fls σ nk) nk nk) nk) nk nk 0 + 1) = σ 0 + 1 from up_s.symm.trans e]
  have h0 := in32_t.mp h.2.1
  rw [Int32.lt_iff_toInt_lt] at ht
  rw [mb_i0] at h0
  rw [show (5000 : Int32).toInt = 5000 from by decide] at ht h0
  rw [in32_t, j3_add (by rw [show (1 : Int32).toInt = 1 from rfl]; omega) (by rw [show (1 : Int32).toInt = 1 from rfl]; omega), mb_i0, show (5000 : Int32).toInt = 5000 from by decide, show (1 : Int32).toInt = 1 from rfl]
  omega
theorem ts_vs : ∀ t {σ : Nat → Int32} {ne : Nat}, vs σ nk nw ne → ∃ n', vs (mo_ts σ nk t) nk nw n'
  | 0, σ, ne, h => ⟨_, h⟩
  | t + 1, σ, ne, h => by
    unfold mo_ts
    split
    · rename_i ht
      obtain ⟨n', h'⟩ := tick_vs h ht
      exact ts_vs t h'
    · exact ⟨_, h⟩
end SGU
