/-! the model reads words and numbers -/
/-- a byte is one of a byte's values -/
def BR (β : Nat → Int32) (n : Nat) : Prop := ∀ j, j < n → in32 (β j) (-128) 127 = true
theorem brx_f : ∀ m, m < 256 → (((nI m - 128) &&& 255 = 32 ∨ (nI m - 128) &&& 255 = 10) ↔ kof (nI m - 128) = 5) ∧ ¬ ((nI m - 128) &&& 255 = (-1)) ∧ (in32 ((nI m - 128) &&& 255) 97 122 = true ↔ kof (nI m - 128) = 1) ∧ (in32 ((nI m - 128) &&& 255) 48 57 = true ↔ kof (nI m - 128) = 2) ∧ ((nI m - 128) &&& 255 = 59 ↔ kof (nI m - 128) = 4) ∧ ((nI m - 128) &&& 255 = 45 ↔ kof (nI m - 128) = 3) ∧ (kof (nI m - 128) = 2 → (nI m - 128) &&& 255 = nI m - 128) := by decide +kernel
theorem br_e {b : Int32} (h : in32 b (-128) 127 = true) : ∃ m, m < 256 ∧ b = nI m - 128 := by
  have t := in32_t.mp h
  have a1 : (-128 : Int32).toInt = -128 := by decide
  have a2 : (127 : Int32).toInt = 127 := by decide
  have a3 : (128 : Int32).toInt = 128 := by decide
  rw [a1, a2] at t
  refine ⟨(b.toInt + 128).toNat, by omega, ?_⟩
  have e : (nI (b.toInt + 128).toNat).toInt = b.toInt + 128 := by rw [mi_t (by omega)]; omega
  rw [← Int32.toInt_inj, j3_sub (by omega) (by omega), e, a3]
  omega
theorem br {b : Int32} (h : in32 b (-128) 127 = true) : ((b &&& 255 = 32 ∨ b &&& 255 = 10) ↔ kof b = 5) ∧ ¬ (b &&& 255 = (-1)) ∧ (in32 (b &&& 255) 97 122 = true ↔ kof b = 1) ∧ (in32 (b &&& 255) 48 57 = true ↔ kof b = 2) ∧ (b &&& 255 = 59 ↔ kof b = 4) ∧ (b &&& 255 = 45 ↔ kof b = 3) ∧ (kof b = 2 → b &&& 255 = b) := by
  obtain ⟨m, hm, e⟩ := br_e h
  rw [e]
  exact brx_f m hm
/-- what the model reads at a place -/
def hr (β : Nat → Int32) (n k : Nat) : Int32 := if k < n then β k &&& 255 else (-1)
/-- the model's text is β -/
def Jm (β : Nat → Int32) (n : Nat) (M : ak_M) : Prop := n ≤ 700 ∧ ak_I M 483 18 = nI n ∧ ∀ j, j < n → ak_I M 495 j = β j
/-- the words in the model's order, and where each begins in the text of all -/
def cmw (m : Nat) : Nat := if m < 6 then m + 2 else if m < 8 then m - 6 else m
def mwc (c : Nat) : Nat := if c < 2 then c + 6 else if c < 8 then c - 2 else c
def ofs (m : Nat) : Nat := [0, 6, 11, 17, 22, 28, 33, 38, 43, 49, 55, 59].getD m 0
theorem wd_f : ∀ m, m < 11 → cmw m < 11 ∧ ofs m + tl (cmw m) + 1 = ofs (m + 1) ∧ ofs (m + 1) ≤ 59 ∧ tb 21 (ofs m + tl (cmw m)) = 32 ∧ mwc (cmw m) = m ∧ ∀ i, i < tl (cmw m) → tb 21 (ofs m + i) = tb (cmw m) i ∧ ¬ tb (cmw m) i = 32 := by decide +kernel
theorem wd_c : ∀ c, c < 11 → cmw (mwc c) = c ∧ mwc c < 11 := by decide
theorem wd_u : ∀ c, c < 11 → ∀ c', c' < 11 → c ≠ c' → tl c ≠ tl c' ∨ (List.range (tl c)).any (fun i => decide (tb c i ≠ tb c' i)) = true := by decide +kernel
theorem wd_21 : tl 21 = 59 := by decide
/-- the model's way to the next token, from one place on -/
def tr275 (X : ak_X) (M : ak_M) (o1 : Option Value) (r : ak_O × ak_M) : Prop := (∃ (v32 : Int32) (M31 : ak_M), ab_lay M31 ∧ rn X 273 [.ref 483, .int (ak_I M 483 19)] M (.inl (some (.int v32)), M31) ∧ (if v32 = 32 then sg X 275 (26, [some (.ref 483), o1], [], []) M31 r else (∃ (v34 : Int32) (M33 : ak_M), ab_lay M33 ∧ rn X 273 [.ref 483, .int (ak_I M31 483 19)] M31 (.inl (some (.int v34)), M33) ∧ (if v34 = 10 then sg X 275 (26, [some (.ref 483), o1], [], []) M33 r else (∀ M35 : ak_M, M35 = ak_sI M33 483 20 (ak_I M33 483 19) → (∃ (v37 : Int32) (M36 : ak_M), ab_lay M36 ∧ rn X 273 [.ref 483, .int (ak_I M35 483 19)] M35 (.inl (some (.int v37)), M36) ∧ (if v37 = (-1) then (∀ M53 : ak_M, M53 = ak_sI M36 483 21 0 → sg X 275 (269, [some (.ref 483), some (.int v37)], [], []) M53 r) else (∃ (v39 : Int32) (M38 : ak_M), ab_lay M38 ∧ rn X 274 [.ref 483, .int (ak_I M36 483 19)] M36 (.inl (some (.int v39)), M38) ∧ (if v39 = 0 then (∃ (v41 : Int32) (M40 : ak_M), ab_lay M40 ∧ rn X 157 [.long (v37.toInt64), .long 48, .long 57] M38 (.inl (some (.int v41)), M40) ∧ (if v41 = 0 then (∀ M42 : ak_M, M42 = ak_sI M40 483 19 ((ak_I M40 483 19) + 1) → (if v37 = 59 then (∀ M46 : ak_M, M46 = ak_sI M42 483 21 3 → sg X 275 (269, [some (.ref 483), some (.int v37)], [], []) M46 r) else (if v37 = 45 then (∀ M44 : ak_M, M44 = ak_sI M42 483 21 4 → sg X 275 (269, [some (.ref 483), some (.int v37)], [], []) M44 r) else (∀ M43 : ak_M, M43 = ak_sI M42 483 21 5 → sg X 275 (269, [some (.ref 483), some (.int v37)], [], []) M43 r)))) else (∀ M48 : ak_M, M48 = ak_sI M40 483 23 0 → sg X 275 (139, [some (.ref 483), some (.int v37)], [], []) M48 r))) else sg X 275 (80, [some (.ref 483), some (.int v37)], [], []) M38 r)))))))))
section SMT
variable {X : ak_X} {M : ak_M} {β : Nat → Int32} {n p s c c' : Nat}
theorem wq_u (h : wq β n s c = true) (h' : wq β n s c' = true) (hc : c < 11) (hc' : c' < 11) : c = c' := by
  unfold wq at h h'
  rw [Bool.and_eq_true, Bool.and_eq_true, decide_eq_true_eq, decide_eq_true_eq, mtf_t] at h h'
  by_cases e : c = c'
  · exact e
  · rcases wd_u c hc c' hc' e with u | u
    · exact absurd (h.2.1.symm.trans h'.2.1) u
    · obtain ⟨i, hi, u⟩ := List.any_eq_true.mp u
      rw [List.mem_range] at hi
      rw [decide_eq_true_eq] at u
      have h1 := h.2.1
      exact absurd ((h.2.2 i (Nat.zero_le _) (by omega)).symm.trans (h'.2.2 i (Nat.zero_le _) (by omega))) u
theorem wo_t : wo β n s = some c ↔ c < 11 ∧ wq β n s c = true := by
  refine ⟨fun h => ?_, fun h => ?_⟩
  · have := wof_s 11 0 c h
    exact ⟨by omega, this.2.2⟩
  · cases e : wo β n s with
    | none => exact absurd h.2 (wof_n 11 0 e c (Nat.zero_le _) (by omega))
    | some d =>
      have := wof_s 11 0 d e
      rw [wq_u this.2.2 h.2 (by omega) h.1]
theorem wo_0 (h : ¬ tkd β n s = 1) : wo β n s = none := by
  cases e : wo β n s with
  | none => rfl
  | some c =>
    have := (wo_t.mp e).2
    unfold wq at this
    rw [decide_eq_false h] at this
    cases this
theorem sm_273 (hL : ab_lay M) (h : Jm β n M) {k : Nat} (hk : k ≤ n) : rn X 273 [.ref 483, .int (nI k)] M (.inl (some (.int (hr β n k))), M) := by
  have h7 := h.1
  refine t_273 hL _ ?_
  rw [h.2.1]
  unfold hr
  by_cases c : k < n
  · rw [if_pos c]
    exact mb_n (by rw [mi_le (by omega) (by omega)]; omega) ⟨k, mb_ix (by omega) (by decide), by rw [h.2.2 k c]⟩
  · rw [if_neg c]
    exact mb_y (by rw [mi_le (by omega) (by omega)]; omega) rfl
theorem sm_274 (hL : ab_lay M) (h : Jm β n M) {k : Nat} (hk : k ≤ n) : rn X 274 [.ref 483, .int (nI k)] M (.inl (some (.int (bI (in32 (hr β n k) 97 122)))), M) :=
  t_274 hL _ ⟨_, M, hL, sm_273 hL h hk, _, M, hL, jm_in32 (by rfl) (by rfl), bI_01 _, rfl⟩
theorem sm_276 (hL : ab_lay M) (hn : n ≤ 700) (hB : ∀ j, j < n → ak_I M 495 j = β j) (k1 : tkd β n s = 1) (e19 : ak_I M 483 19 = nI (te β n s)) (e20 : ak_I M 483 20 = nI s) : rn X 276 [.ref 483] M (.inl (some (.int (oI ((wo β n s).map mwc)))), M) := by
  have hs : s < n := tkd_i (β := β) (by omega)
  have t1 := te_le (β := β) (n := n) (s := s) (by omega)
  have t0 := te_lt (β := β) hs
  have j7 := j_317 (X := X) (s := 21) hL (by decide)
  rw [wd_21] at j7
  have j8 : ∀ {a b : Nat}, a + b < 59 → rn X 318 [.ref (1001000 + 21), .int (nI a + nI b)] M (.inl (some (.int (tb 21 (a + b)))), M) := fun h => by
    rw [mi_add]
    exact j_318 hL (by decide) (by rw [wd_21]; exact h)
  have H : ∀ d m o3, m + d = 11 → (∀ m', m' < m → ¬ wq β n s (cmw m') = true) → sg X 276 (4, [some (.ref 483), some (.int (nI m)), some (.int (nI (ofs m))), o3], [], []) M (.inl (some (.int (oI ((wo β n s).map mwc)))), M) := by
    intro d
    induction d with
    | zero =>
      intro m o3 hm hno
      have em : m = 11 := by omega
      subst em
      have ew : wo β n s = none := by
        cases e : wo β n s with
        | none => rfl
        | some c =>
          obtain ⟨h1, h2⟩ := wo_t.mp e
          obtain ⟨h3, h4⟩ := wd_c c h1
          exact absurd h2 (by rw [← h3]; exact hno _ h4)
      rw [ew]
      exact t_276_4 hL _ _ _ ⟨_, M, hL, j7, mb_y (by decide) rfl⟩
    | succ d ih =>
      intro m o3 hm hno
      obtain ⟨w1, w2, w3, w4, w5, w6⟩ := wd_f m (by omega)
      refine t_276_4 hL _ _ _ ⟨_, M, hL, j7, mb_n (by rw [mi_le (by omega) (by omega)]; omega) ?_⟩
      obtain ⟨c, hcm⟩ : ∃ c, c = cmw m := ⟨_, rfl⟩
      rw [← hcm] at w1 w2 w4 w5 w6
      by_cases hw : wq β n s c = true
      · have ew : (wo β n s).map mwc = some m := by rw [wo_t.mpr ⟨w1, hw⟩, Option.map_some, w5]
        rw [ew]
        unfold wq at hw
        rw [Bool.and_eq_true, Bool.and_eq_true, decide_eq_true_eq, decide_eq_true_eq, mtf_t] at hw
        obtain ⟨-, hl, hb⟩ := hw
        refine mb_up (P := fun i => sg X 276 (16, [some (.ref 483), some (.int (nI m)), some (.int (nI (ofs m))), some (.int (nI i))], [], []) M (.inl (some (.int (oI (some m)))), M)) (n := tl c) ?_ ?_ 0 (Nat.zero_le _)
        · have j := j8 (a := ofs m) (b := tl c) (by omega)
          rw [w4] at j
          exact t_276_16 hL _ _ _ ⟨_, M, hL, j, mb_y rfl (t_276_73 hL _ _ _ ⟨_, M, hL, j, mb_y rfl (mb_y (by rw [e19, e20, mi_add]; congr 1; omega) rfl)⟩)⟩
        · intro i hi ihi
          obtain ⟨q1, q2⟩ := w6 i hi
          have j := j8 (a := ofs m) (b := i) (by omega)
          rw [q1] at j
          refine t_276_16 hL _ _ _ ⟨_, M, hL, j, mb_n q2 (mb_n (by rw [e19, e20, mi_add, mi_le (by omega) (by omega)]; omega) ⟨s + i, by rw [e20, mi_add]; exact mb_ix (by omega) (by decide), _, M, hL, j, mb_y (by rw [hB _ (by omega)]; exact hb i (Nat.zero_le _) (by omega)) ?_⟩)⟩
          rw [mi_s]
          exact ihi
      · have skip : ∀ i, i ≤ tl c → ∀ o, sg X 276 (102, [some (.ref 483), some (.int (nI m)), some (.int (nI (ofs m + i))), o], [], []) M (.inl (some (.int (oI ((wo β n s).map mwc)))), M) := by
          refine mb_up ?_ ?_
          · intro o
            have j := j_318 (X := X) (s := 21) (i := ofs m + tl c) hL (by decide) (by rw [wd_21]; omega)
            rw [w4] at j
            refine t_276_102 hL _ _ _ ⟨_, M, hL, j, mb_y rfl ?_⟩
            rw [mi_s, mi_s, w2]
            refine ih (m + 1) o (by omega) fun m' hm' => ?_
            by_cases e : m' = m
            · rw [e, ← hcm]; exact hw
            · exact hno m' (by omega)
          · intro i hi ihi o
            obtain ⟨q1, q2⟩ := w6 i hi
            have j := j_318 (X := X) (s := 21) (i := ofs m + i) hL (by decide) (by rw [wd_21]; omega)
            rw [q1] at j
            refine t_276_102 hL _ _ _ ⟨_, M, hL, j, mb_n q2 ?_⟩
            rw [mi_s]
            exact ihi o
        have N : ∀ i, i ≤ tl c → i ≤ te β n s - s → (i = tl c → ¬ i = te β n s - s) → sg X 276 (73, [some (.ref 483), some (.int (nI m)), some (.int (nI (ofs m))), some (.int (nI i))], [], []) M (.inl (some (.int (oI ((wo β n s).map mwc)))), M) := by
          intro i h1 h2 h3
          have j := j8 (a := ofs m) (b := i) (by omega)
          by_cases e : i = tl c
          · rw [e, w4] at j
            refine t_276_73 hL _ _ _ ⟨_, M, hL, by rw [e]; exact j, mb_y rfl (mb_n ?_ (skip 0 (Nat.zero_le _) _))⟩
            rw [e19, e20, mi_add, mi_eq (by omega) (by omega)]
            have := h3 e
            omega
          · obtain ⟨q1, q2⟩ := w6 i (by omega)
            rw [q1] at j
            exact t_276_73 hL _ _ _ ⟨_, M, hL, j, mb_n q2 (skip 0 (Nat.zero_le _) _)⟩
        have I : ∀ d' i, i + d' = tl c → i ≤ te β n s - s → (∀ j, j < i → β (s + j) = tb c j) → sg X 276 (16, [some (.ref 483), some (.int (nI m)), some (.int (nI (ofs m))), some (.int (nI i))], [], []) M (.inl (some (.int (oI ((wo β n s).map mwc)))), M) := by
          intro d'
          induction d' with
          | zero =>
            intro i hi h2 hm
            have e : i = tl c := by omega
            have j := j8 (a := ofs m) (b := i) (by omega)
            rw [e, w4] at j
            refine t_276_16 hL _ _ _ ⟨_, M, hL, by rw [e]; exact j, mb_y rfl (N i (by omega) h2 fun _ e2 => hw ?_)⟩
            unfold wq
            rw [Bool.and_eq_true, Bool.and_eq_true, decide_eq_true_eq, decide_eq_true_eq, mtf_t]
            exact ⟨k1, by omega, fun j _ hj => hm j (by omega)⟩
          | succ d' ihd =>
            intro i hi h2 hm
            obtain ⟨q1, q2⟩ := w6 i (by omega)
            have j := j8 (a := ofs m) (b := i) (by omega)
            rw [q1] at j
            refine t_276_16 hL _ _ _ ⟨_, M, hL, j, mb_n q2 ?_⟩
            by_cases hl : i = te β n s - s
            · exact mb_y (by rw [e19, e20, mi_add, mi_le (by omega) (by omega)]; omega) (N i (by omega) h2 fun e => by omega)
            · refine mb_n (by rw [e19, e20, mi_add, mi_le (by omega) (by omega)]; omega) ⟨s + i, by rw [e20, mi_add]; exact mb_ix (by omega) (by decide), _, M, hL, j, ?_⟩
              rw [hB _ (by omega)]
              by_cases e : β (s + i) = tb c i
              · refine mb_y e ?_
                rw [mi_s]
                refine ihd (i + 1) (by omega) (by omega) fun j hj => ?_
                by_cases ej : j = i
                · rw [ej]; exact e
                · exact hm j (by omega)
              · exact mb_n e (N i (by omega) h2 fun e => by omega)
        exact I (tl c) 0 (by omega) (Nat.zero_le _) fun j hj => absurd hj (Nat.not_lt_zero _)
  exact t_276 hL (H 11 0 none rfl fun m' h => absurd h (Nat.not_lt_zero _))
/-- the model's token -/
def tmk (β : Nat → Int32) (n s : Nat) : Int32 := if tkd β n s = 0 then 0 else if tkd β n s = 1 then 1 else if tkd β n s = 2 then (if te β n s - s ≤ 4 then 2 else 5) else if tkd β n s = 4 then 3 else if tkd β n s = 3 then 4 else 5
def Tm (β : Nat → Int32) (n s : Nat) (M : ak_M) : Prop := bg β n s ∧ ak_I M 483 19 = nI (te β n s) ∧ ak_I M 483 20 = nI s ∧ ak_I M 483 21 = tmk β n s ∧ (tkd β n s = 1 → ak_I M 483 22 = oI ((wo β n s).map mwc)) ∧ (isn β n s = true → ak_I M 483 23 = nI (vl β s (te β n s - s)))
def mT (p k : Nat) : Prop := p = 483 ∧ 19 ≤ k ∧ k ≤ 23
theorem mT_J {N : ak_M} (h : Jm β n M) (f : fr mT M N) : Jm β n N :=
  ⟨h.1, by rw [f.2.1 483 18 fun e => by unfold mT at e; omega]; exact h.2.1, fun j hj => by rw [f.row (p := 495) fun k e => by unfold mT at e; omega]; exact h.2.2 j hj⟩
theorem hr_y {k : Nat} (h : k < n) : hr β n k = β k &&& 255 := if_pos h
theorem hr_n {k : Nat} (h : ¬ k < n) : hr β n k = (-1) := if_neg h
theorem hr_k (hR : BR β n) (k : Nat) : (in32 (hr β n k) 97 122 = true ↔ (k < n ∧ kof (β k) = 1)) ∧ (in32 (hr β n k) 48 57 = true ↔ (k < n ∧ kof (β k) = 2)) := by
  by_cases c : k < n
  · rw [hr_y c]
    have b := br (hR k c)
    exact ⟨b.2.2.1.trans ⟨fun h => ⟨c, h⟩, fun h => h.2⟩, b.2.2.2.1.trans ⟨fun h => ⟨c, h⟩, fun h => h.2⟩⟩
  · rw [hr_n c]
    exact ⟨⟨fun h => absurd h (by decide), fun h => absurd h.1 c⟩, ⟨fun h => absurd h (by decide), fun h => absurd h.1 c⟩⟩
/-- letters to their end -/
theorem sm_275l {M0 : ak_M} (hJ : Jm β n M0) (hR : BR β n) (hb : bg β n s) (k1 : tkd β n s = 1) (o : Option Value) : ∀ q, q ≤ te β n s → ∀ M1, s ≤ q → fr mT M0 M1 → ak_I M1 483 20 = nI s → ak_I M1 483 19 = nI q → ∃ M', sg X 275 (80, [some (.ref 483), o], [], []) M1 (.inl none, M') ∧ fr mT M0 M' ∧ Tm β n s M' := by
  have h7 := hJ.1
  have hs : s < n := tkd_i (β := β) (by omega)
  have t1 := te_le (β := β) hb.1
  have hk : kof (β s) = 1 := by rw [← tkd_y hs]; exact k1
  refine mb_up ?_ ?_
  · intro M1 hq f1 e20 e19
    have s74 := sm_274 (X := X) f1.1 (mT_J hJ f1) t1
    have c0 : ¬ in32 (hr β n (te β n s)) 97 122 = true := fun h => by
      obtain ⟨c, h⟩ := (hr_k hR (te β n s)).1.mp h
      have e0 := te_r hs (Or.inl hk)
      rw [e0] at c h
      exact rnd_end hb.1 c (h.trans hk.symm)
    rw [bf c0] at s74
    have f2 : fr mT M0 (ak_sI M1 483 21 1) := f1.st ⟨rfl, by decide, by decide⟩
    have a19 : ak_I (ak_sI M1 483 21 1) 483 19 = nI (te β n s) := (mb_sIk (by decide)).trans e19
    have a20 : ak_I (ak_sI M1 483 21 1) 483 20 = nI s := (mb_sIk (by decide)).trans e20
    have s76 := sm_276 (X := X) f2.1 hJ.1 (mT_J hJ f2).2.2 k1 a19 a20
    refine ⟨ak_sI (ak_sI M1 483 21 1) 483 22 (oI ((wo β n s).map mwc)), t_275_80 f1.1 _ ⟨_, M1, f1.1, by rw [e19]; exact s74, mb_y rfl fun N e => ?_⟩, f2.st ⟨rfl, by decide, by decide⟩, hb, (mb_sIk (by decide)).trans a19, (mb_sIk (by decide)).trans a20, ?_, fun _ => mb_sIs, fun h => ?_⟩
    · subst e
      exact ⟨_, _, f2.1, s76, fun N e => t_275_269 (by rw [e]; exact f2.1.sI) _ _ (by rw [e])⟩
    · rw [mb_sIk (by decide), mb_sIs]
      unfold tmk
      rw [k1]
      rfl
    · unfold isn at h
      rw [k1] at h
      exact absurd (show false = true from h) Bool.false_ne_true
  · intro q hq ih M1 hsq f1 e20 e19
    have s74 := sm_274 (X := X) (k := q) f1.1 (mT_J hJ f1) (by omega)
    have kq : kof (β q) = 1 := (tkd_in (Or.inl k1) hsq hq).trans k1
    rw [(hr_k hR q).1.mpr ⟨by omega, kq⟩] at s74
    obtain ⟨M', hs', m'⟩ := ih (ak_sI M1 483 19 (nI (q + 1))) (by omega) (f1.st ⟨rfl, by decide, by decide⟩) ((mb_sIk (by decide)).trans e20) mb_sIs
    refine ⟨M', t_275_80 f1.1 _ ⟨_, M1, f1.1, by rw [e19]; exact s74, mb_n (by decide) fun N e => ?_⟩, m'⟩
    rw [e19, mi_s] at e
    rw [e]
    exact hs'
/-- digits to their end -/
theorem sm_275d {M0 : ak_M} (hJ : Jm β n M0) (hR : BR β n) (hb : bg β n s) (k2 : tkd β n s = 2) (o : Option Value) : ∀ q, q ≤ te β n s → ∀ M1, s ≤ q → fr mT M0 M1 → ak_I M1 483 20 = nI s → ak_I M1 483 19 = nI q → ak_I M1 483 23 = nI (vl β s (min (q - s) 4)) → ∃ M', sg X 275 (139, [some (.ref 483), o], [], []) M1 (.inl none, M') ∧ fr mT M0 M' ∧ Tm β n s M' := by
  have h7 := hJ.1
  have hs : s < n := tkd_i (β := β) (by omega)
  have t1 := te_le (β := β) hb.1
  have hk : kof (β s) = 2 := by rw [← tkd_y hs]; exact k2
  refine mb_up ?_ ?_
  · intro M1 hq f1 e20 e19 e23
    have s73 := sm_273 (X := X) f1.1 (mT_J hJ f1) t1
    have c0 : ¬ in32 (hr β n (te β n s)) 48 57 = true := fun h => by
      obtain ⟨c, h⟩ := (hr_k hR (te β n s)).2.mp h
      have e0 := te_r hs (Or.inr hk)
      rw [e0] at c h
      exact rnd_end hb.1 c (h.trans hk.symm)
    have s57 : rn X 157 [.long (hr β n (te β n s)).toInt64, .long 48, .long 57] M1 (.inl (some (.int (bI (in32 (hr β n (te β n s)) 48 57)))), M1) := jm_in32 (by rfl) (by rfl)
    rw [bf c0] at s57
    have es : ak_I M1 483 19 - ak_I M1 483 20 = nI (te β n s - s) := by rw [e19, e20, mi_sbn (by omega)]
    have fin : ∀ v : Int32, v = tmk β n s → ∃ M', (∀ N : ak_M, N = ak_sI M1 483 21 v → sg X 275 (269, [some (.ref 483), o], [], []) N (.inl none, M')) ∧ fr mT M0 M' ∧ Tm β n s M' := by
      intro v hv
      refine ⟨ak_sI M1 483 21 v, fun N e => t_275_269 (by rw [e]; exact f1.1.sI) _ _ (by rw [e]), f1.st ⟨rfl, by decide, by decide⟩, hb, (mb_sIk (by decide)).trans e19, (mb_sIk (by decide)).trans e20, mb_sIs.trans hv, fun h => by omega, fun h => ?_⟩
      unfold isn at h
      rw [Bool.and_eq_true, decide_eq_true_eq, decide_eq_true_eq] at h
      rw [mb_sIk (by decide), e23, show min (te β n s - s) 4 = te β n s - s by omega]
    by_cases c4 : te β n s - s ≤ 4
    · obtain ⟨M', g, m'⟩ := fin 2 (by unfold tmk; rw [k2, if_pos c4]; rfl)
      exact ⟨M', t_275_139 f1.1 _ ⟨_, M1, f1.1, by rw [e19]; exact s73, _, M1, f1.1, s57, mb_y rfl (mb_y (by rw [es, show (4 : Int32) = nI 4 from rfl, mi_le (by omega) (by decide)]; exact c4) g)⟩, m'⟩
    · obtain ⟨M', g, m'⟩ := fin 5 (by unfold tmk; rw [k2, if_neg c4]; rfl)
      exact ⟨M', t_275_139 f1.1 _ ⟨_, M1, f1.1, by rw [e19]; exact s73, _, M1, f1.1, s57, mb_y rfl (mb_n (by rw [es, show (4 : Int32) = nI 4 from rfl, mi_le (by omega) (by decide)]; exact c4) g)⟩, m'⟩
  · intro q hq ih M1 hsq f1 e20 e19 e23
    have s73 := sm_273 (X := X) (k := q) f1.1 (mT_J hJ f1) (by omega)
    have kq : kof (β q) = 2 := (tkd_in (Or.inr k2) hsq hq).trans k2
    have s57 : rn X 157 [.long (hr β n q).toInt64, .long 48, .long 57] M1 (.inl (some (.int (bI (in32 (hr β n q) 48 57)))), M1) := jm_in32 (by rfl) (by rfl)
    rw [(hr_k hR q).2.mpr ⟨by omega, kq⟩] at s57
    have es : ak_I M1 483 19 - ak_I M1 483 20 = nI (q - s) := by rw [e19, e20, mi_sbn (by omega)]
    have up1 : ∀ {N : ak_M}, fr mT M0 N → ak_I N 483 20 = nI s → ak_I N 483 19 = nI q → ak_I N 483 23 = nI (vl β s (min (q + 1 - s) 4)) → ∃ M', sg X 275 (196, [some (.ref 483), o], [], []) N (.inl none, M') ∧ fr mT M0 M' ∧ Tm β n s M' := by
      intro N g a b c
      obtain ⟨M', hs', m'⟩ := ih (ak_sI N 483 19 (nI (q + 1))) (by omega) (g.st ⟨rfl, by decide, by decide⟩) ((mb_sIk (by decide)).trans a) mb_sIs ((mb_sIk (by decide)).trans c)
      refine ⟨M', t_275_196 g.1 _ fun N2 e => ?_, m'⟩
      rw [b, mi_s] at e
      rw [e]
      exact hs'
    by_cases c4 : 4 ≤ q - s
    · obtain ⟨M', hs', m'⟩ := up1 f1 e20 e19 (by rw [e23, show min (q - s) 4 = min (q + 1 - s) 4 by omega])
      exact ⟨M', t_275_139 f1.1 _ ⟨_, M1, f1.1, by rw [e19]; exact s73, _, M1, f1.1, s57, mb_n (by decide) (mb_y (by rw [es, show (4 : Int32) = nI 4 from rfl, mi_le (by decide) (by omega)]; exact c4) hs')⟩, m'⟩
    · have ev : ((10 * nI (vl β s (min (q - s) 4))) + hr β n q) - 48 = nI (vl β s (min (q + 1 - s) 4)) := by
        obtain ⟨d, hd, ed⟩ := kof_d kq
        have eh : hr β n q = nI (48 + d) := by rw [hr_y (by omega), (br (hR q (by omega))).2.2.2.2.2.2 kq, ed]
        rw [eh, show min (q + 1 - s) 4 = min (q - s) 4 + 1 by omega]
        rw [vl_s, show s + min (q - s) 4 = q by omega, ed, kN_n (by omega), show (10 : Int32) = nI 10 from rfl, mi_mul, mi_add, show (48 : Int32) = nI 48 from rfl, mi_sbn (by omega)]
        congr 1
        omega
      obtain ⟨M', hs', m'⟩ := up1 (N := ak_sI M1 483 23 (nI (vl β s (min (q + 1 - s) 4)))) (f1.st ⟨rfl, by decide, by decide⟩) ((mb_sIk (by decide)).trans e20) ((mb_sIk (by decide)).trans e19) mb_sIs
      refine ⟨M', t_275_139 f1.1 _ ⟨_, M1, f1.1, by rw [e19]; exact s73, _, M1, f1.1, s57, mb_n (by decide) (mb_n (by rw [es, show (4 : Int32) = nI 4 from rfl, mi_le (by decide) (by omega)]; exact c4) ⟨_, M1, f1.1, by rw [e19]; exact s73, fun N e => ?_⟩)⟩, m'⟩
      rw [e23, ev] at e
      rw [e]
      exact hs'
theorem sm_275c (hJ : Jm β n M) (hR : BR β n) (hp : p ≤ n) : ∀ q, q ≤ rnd β n 5 p → ∀ M1 o1, p ≤ q → fr mT M M1 → ak_I M1 483 19 = nI q → ∃ M', tr275 X M1 o1 (.inl none, M') ∧ fr mT M M' ∧ Tm β n (rnd β n 5 p) M' := by
  have h7 := hJ.1
  have hbg := bg_rnd (β := β) hp
  have hin := fun j => rnd_in (β := β) (n := n) (k := 5) (p := p) (j := j)
  obtain ⟨s, hs⟩ : ∃ s, s = rnd β n 5 p := ⟨_, rfl⟩
  rw [← hs] at hbg hin ⊢
  have hsn := hbg.1
  refine mb_up ?_ ?_
  · intro M1 o1 hq f1 e1
    have s73 : rn X 273 [.ref 483, .int (ak_I M1 483 19)] M1 (.inl (some (.int (hr β n s))), M1) := by rw [e1]; exact sm_273 f1.1 (mT_J hJ f1) hsn
    have f2 : fr mT M (ak_sI M1 483 20 (nI s)) := f1.st ⟨rfl, by decide, by decide⟩
    have a19 : ak_I (ak_sI M1 483 20 (nI s)) 483 19 = nI s := (mb_sIk (by decide)).trans e1
    have a20 : ak_I (ak_sI M1 483 20 (nI s)) 483 20 = nI s := mb_sIs
    generalize g2 : ak_sI M1 483 20 (nI s) = M2 at f2 a19 a20
    have t73 : rn X 273 [.ref 483, .int (ak_I M2 483 19)] M2 (.inl (some (.int (hr β n s))), M2) := by rw [a19]; exact sm_273 f2.1 (mT_J hJ f2) hsn
    have t74 : rn X 274 [.ref 483, .int (ak_I M2 483 19)] M2 (.inl (some (.int (bI (in32 (hr β n s) 97 122)))), M2) := by rw [a19]; exact sm_274 f2.1 (mT_J hJ f2) hsn
    have t57 : rn X 157 [.long (hr β n s).toInt64, .long 48, .long 57] M2 (.inl (some (.int (bI (in32 (hr β n s) 48 57)))), M2) := jm_in32 (by rfl) (by rfl)
    have nb : ¬ hr β n s = 32 ∧ ¬ hr β n s = 10 := by
      by_cases c : s < n
      · have b := br (hR s c)
        rw [hr_y c]
        exact ⟨fun e => hbg.2 c (b.1.mp (Or.inl e)), fun e => hbg.2 c (b.1.mp (Or.inr e))⟩
      · rw [hr_n c]
        exact ⟨by decide, by decide⟩
    by_cases c : s < n
    · have b := br (hR s c)
      have kb := kof_b (β s)
      have ek := tkd_y (β := β) c
      have hne : ¬ hr β n s = (-1) := by rw [hr_y c]; exact b.2.1
      by_cases k1 : kof (β s) = 1
      · rw [(hr_k hR s).1.mpr ⟨c, k1⟩] at t74
        obtain ⟨M', g, m'⟩ := sm_275l (X := X) hJ hR hbg (ek.trans k1) (some (.int (hr β n s))) s te_ge M2 (Nat.le_refl _) f2 a20 a19
        refine ⟨M', ⟨_, M1, f1.1, s73, mb_n nb.1 ⟨_, M1, f1.1, s73, mb_n nb.2 fun N e => ?_⟩⟩, m'⟩
        rw [e1, g2] at e
        subst e
        exact ⟨_, _, f2.1, t73, mb_n hne ⟨_, _, f2.1, t74, mb_n (by decide) g⟩⟩
      · rw [bf fun h => k1 ((hr_k hR s).1.mp h).2] at t74
        by_cases k2 : kof (β s) = 2
        · rw [(hr_k hR s).2.mpr ⟨c, k2⟩] at t57
          obtain ⟨M', g, m'⟩ := sm_275d (X := X) hJ hR hbg (ek.trans k2) (some (.int (hr β n s))) s te_ge (ak_sI M2 483 23 0) (Nat.le_refl _) (f2.st ⟨rfl, by decide, by decide⟩) ((mb_sIk (by decide)).trans a20) ((mb_sIk (by decide)).trans a19) (by rw [mb_sIs, Nat.sub_self]; rfl)
          refine ⟨M', ⟨_, M1, f1.1, s73, mb_n nb.1 ⟨_, M1, f1.1, s73, mb_n nb.2 fun N e => ?_⟩⟩, m'⟩
          rw [e1, g2] at e
          subst e
          exact ⟨_, _, f2.1, t73, mb_n hne ⟨_, _, f2.1, t74, mb_y rfl ⟨_, _, f2.1, t57, mb_n (by decide) fun N e => by rw [e]; exact g⟩⟩⟩
        · rw [bf fun h => k2 ((hr_k hR s).2.mp h).2] at t57
          have e1n := te_1 (β := β) c (fun h => h.elim k1 k2)
          have fin : ∀ v : Int32, v = tmk β n s → ∃ M', (∀ N : ak_M, N = ak_sI (ak_sI M2 483 19 (nI (s + 1))) 483 21 v → sg X 275 (269, [some (.ref 483), some (.int (hr β n s))], [], []) N (.inl none, M')) ∧ fr mT M M' ∧ Tm β n s M' := by
            intro v hv
            have f3 : fr mT M (ak_sI (ak_sI M2 483 19 (nI (s + 1))) 483 21 v) := (f2.st ⟨rfl, by decide, by decide⟩).st ⟨rfl, by decide, by decide⟩
            refine ⟨_, fun N e => t_275_269 (by rw [e]; exact f3.1) _ _ (by rw [e]), f3, hbg, by rw [mb_sIk (by decide), mb_sIs, e1n], ((mb_sIk (by decide)).trans (mb_sIk (by decide))).trans a20, mb_sIs.trans hv, fun h => by omega, fun h => ?_⟩
            unfold isn at h
            rw [Bool.and_eq_true, decide_eq_true_eq] at h
            omega
          have hd : ∀ {r : ak_O × ak_M}, (∀ M12 : ak_M, M12 = ak_sI M2 483 19 (nI (s + 1)) → (if hr β n s = 59 then (∀ M16 : ak_M, M16 = ak_sI M12 483 21 3 → sg X 275 (269, [some (.ref 483), some (.int (hr β n s))], [], []) M16 r) else (if hr β n s = 45 then (∀ M14 : ak_M, M14 = ak_sI M12 483 21 4 → sg X 275 (269, [some (.ref 483), some (.int (hr β n s))], [], []) M14 r) else (∀ M13 : ak_M, M13 = ak_sI M12 483 21 5 → sg X 275 (269, [some (.ref 483), some (.int (hr β n s))], [], []) M13 r)))) → tr275 X M1 o1 r := by
            intro r h
            refine ⟨_, M1, f1.1, s73, mb_n nb.1 ⟨_, M1, f1.1, s73, mb_n nb.2 fun N e => ?_⟩⟩
            rw [e1, g2] at e
            subst e
            refine ⟨_, _, f2.1, t73, mb_n hne ⟨_, _, f2.1, t74, mb_y rfl ⟨_, _, f2.1, t57, mb_y rfl fun N e => ?_⟩⟩⟩
            rw [a19, mi_s] at e
            exact h N e
          by_cases k4 : kof (β s) = 4
          · obtain ⟨M', g, m'⟩ := fin 3 (by unfold tmk; rw [ek, k4]; rfl)
            exact ⟨M', hd fun N e => by rw [e]; exact mb_y (by rw [hr_y c]; exact b.2.2.2.2.1.mpr k4) g, m'⟩
          · by_cases k3 : kof (β s) = 3
            · obtain ⟨M', g, m'⟩ := fin 4 (by unfold tmk; rw [ek, k3]; rfl)
              exact ⟨M', hd fun N e => by rw [e]; exact mb_n (by rw [hr_y c]; exact fun h => k4 (b.2.2.2.2.1.mp h)) (mb_y (by rw [hr_y c]; exact b.2.2.2.2.2.1.mpr k3) g), m'⟩
            · obtain ⟨M', g, m'⟩ := fin 5 (by unfold tmk; rw [ek, if_neg (by omega), if_neg k1, if_neg k2, if_neg k4, if_neg k3])
              exact ⟨M', hd fun N e => by rw [e]; exact mb_n (by rw [hr_y c]; exact fun h => k4 (b.2.2.2.2.1.mp h)) (mb_n (by rw [hr_y c]; exact fun h => k3 (b.2.2.2.2.2.1.mp h)) g), m'⟩
    · have f3 : fr mT M (ak_sI M2 483 21 0) := f2.st ⟨rfl, by decide, by decide⟩
      refine ⟨ak_sI M2 483 21 0, ⟨_, M1, f1.1, s73, mb_n nb.1 ⟨_, M1, f1.1, s73, mb_n nb.2 fun N e => ?_⟩⟩, f3, hbg, by rw [mb_sIk (by decide), te_n c]; exact a19, (mb_sIk (by decide)).trans a20, by rw [mb_sIs]; unfold tmk; rw [tkd_n c]; rfl, fun h => by rw [tkd_n c] at h; omega, fun h => ?_⟩
      · rw [e1, g2] at e
        subst e
        exact ⟨_, _, f2.1, t73, mb_y (hr_n c) fun N e => t_275_269 (by rw [e]; exact f3.1) _ _ (by rw [e])⟩
      · unfold isn at h
        rw [tkd_n c] at h
        exact absurd (show false = true from h) Bool.false_ne_true
  · intro q hq ih M1 o1 hpq f1 e1
    have s73 : rn X 273 [.ref 483, .int (ak_I M1 483 19)] M1 (.inl (some (.int (hr β n q))), M1) := by rw [e1]; exact sm_273 f1.1 (mT_J hJ f1) (by omega)
    have f2 : fr mT M (ak_sI M1 483 19 (nI (q + 1))) := f1.st ⟨rfl, by decide, by decide⟩
    obtain ⟨M', tr, m'⟩ := ih _ o1 (by omega) f2 mb_sIs
    have next : sg X 275 (26, [some (.ref 483), o1], [], []) M1 (.inl none, M') := t_275_26 f1.1 _ fun N e => by
      rw [e1, mi_s] at e
      rw [e]
      exact t_275_0 f2.1 _ tr
    have b := (br (hR q (by omega))).1.mpr (hin q hpq hq)
    rw [← hr_y (β := β) (n := n) (k := q) (by omega)] at b
    by_cases c : hr β n q = 32
    · exact ⟨M', ⟨_, M1, f1.1, s73, mb_y c next⟩, m'⟩
    · exact ⟨M', ⟨_, M1, f1.1, s73, mb_n c ⟨_, M1, f1.1, s73, mb_y (b.resolve_left c) next⟩⟩, m'⟩
theorem sm_275 (hL : ab_lay M) (hJ : Jm β n M) (hR : BR β n) (hp : p ≤ n) (e : ak_I M 483 19 = nI p) : ∃ M', rn X 275 [.ref 483] M (.inl none, M') ∧ fr mT M M' ∧ Tm β n (rnd β n 5 p) M' := by
  obtain ⟨M', tr, m'⟩ := sm_275c (X := X) hJ hR hp p rnd_ge M none (Nat.le_refl _) (fr.rf hL) e
  exact ⟨M', t_275 hL tr, m'⟩
end SMT
