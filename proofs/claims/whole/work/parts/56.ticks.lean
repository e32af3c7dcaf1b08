/-! the model's runs of a tick -/
def mo_tr (p k : Nat) : Prop := mo_tk p k ∨ (490 ≤ p ∧ p ≤ 493)
def mo_tt (p k : Nat) : Prop := mo_tk p k ∨ (490 ≤ p ∧ p ≤ 494)
theorem tk_tr {p k : Nat} (h : mo_tk p k) : mo_tr p k := Or.inl h
theorem tr_tt {p k : Nat} (h : mo_tr p k) : mo_tt p k := by
  rcases h with h | h
  · exact Or.inl h
  · exact Or.inr ⟨h.1, by omega⟩
theorem tk_r {p : Nat} (h : 490 ≤ p) : ∀ k, ¬ mo_tk p k := by
  intro k h2
  rcases h2 with h2 | h2
  · omega
  · have := h2.1; omega
theorem tr_r : ∀ k, ¬ mo_tr 494 k := by
  intro k h2
  rcases h2 with h2 | h2
  · exact tk_r (by decide) k h2
  · omega
/-- what the first pass over the lines found -/
def ar (σ : Nat → Int32) (n : Nat) (M : ak_M) (i : Nat) : Prop := ∀ j, j < i → ak_I M 490 j = mo_wear σ j n ∧ ak_I M 491 j = oI (mo_threat σ j n) ∧ ∀ b, mo_threat σ j n = some b → ak_I M 492 j = mo_cX σ j b ∧ ak_I M 493 j = mo_cY σ j b
theorem ar_fr {σ : Nat → Int32} {n i : Nat} {M M' : ak_M} (h : ar σ n M i) (f : fr mo_tk M M') : ar σ n M' i := by
  intro j hj
  rw [f.row (tk_r (by decide)), f.row (tk_r (by decide)), f.row (tk_r (by decide)), f.row (tk_r (by decide))]
  exact h j hj
section SGV
variable {X : ak_X} {M : ak_M} {nk nw ne : Nat}
theorem sm_210b (hv : vs (ro M) nk nw ne) {M0 : ak_M} (f0 : fr mo_tr M M0) (h0 : ro M0 = ro M) (ha : ar (ro M) nk M0 nk) : ∃ M', sg X 210 (87, [some (.ref 483), some (.int 0)], [], []) M0 (.inl none, M') ∧ fr mo_tr M M' ∧ ro M' = mo_cuts (ro M) nk nk := by
  suffices H : ∀ i, i ≤ nk → ∀ M1, fr mo_tr M M1 → ro M1 = mo_cuts (ro M) nk i → ar (ro M) nk M1 nk → ∃ M', sg X 210 (87, [some (.ref 483), some (.int (nI i))], [], []) M1 (.inl none, M') ∧ fr mo_tr M M' ∧ ro M' = mo_cuts (ro M) nk nk from H 0 (Nat.zero_le _) M0 f0 h0 ha
  refine mb_up ?_ ?_
  · intro M1 f1 r1 a1
    obtain ⟨n', v'⟩ := cuts_vs hv nk (Nat.le_refl _)
    exact ⟨M1, t_210_87 f1.1 _ ⟨_, M1, f1.1, sm_168 f1.1, mb_y (by rw [r1]; exact ct_ge v'.1) rfl⟩, f1, r1⟩
  · intro i hi ih M1 f1 r1 a1
    obtain ⟨n', v'⟩ := cuts_vs hv i (by omega)
    have hi10 : i < 10 := Nat.lt_of_lt_of_le hi v'.1.1
    have ih := fun M2 (f : fr mo_tk M1 M2) (r : ro M2 = mo_cut1 (ro M) (mo_cuts (ro M) nk i) nk i) => ih M2 (f1.tr (f.mo fun _ _ => tk_tr)) r (ar_fr a1 f)
    obtain ⟨w1, w2, w3⟩ := a1 i hi
    have c1 : ct (ro M1) nk nw n' := by rw [r1]; exact v'.1
    generalize g32 : ak_sI M1 484 (23 + 15 * i + 10) (kf (ro M1) i 10 + mo_wear (ro M) i nk) = M32
    have f32 : fr mo_tk M1 M32 := by rw [← g32]; exact (fr.rf f1.1).st (Or.inl rfl)
    have q32 : ro M32 = lay (mo_cuts (ro M) nk i) i 10 (kf (mo_cuts (ro M) nk i) i 10 + mo_wear (ro M) i nk) := by rw [← r1, ← g32]; rfl
    have r32 : rn X 173 [.ref 483, .int (nI i), .int (nI 10), .int (ak_I M1 490 i)] M1 (.inl none, M32) := by
      rw [w1, ← g32]; exact sm_173 f1.1 hi10 (by decide)
    have v32 : vs (lay (mo_cuts (ro M) nk i) i 10 (kf (mo_cuts (ro M) nk i) i 10 + mo_wear (ro M) i nk)) nk nw n' := vs_lay v' hi10 (by decide) fun _ => rg_hi (by decide)
    have s175 := sm_175 (X := X) f32.1 hi10
    have s10 := sm_171 (X := X) (w := 10) f32.1 hi10 (by decide)
    have s9 := sm_171 (X := X) (w := 9) f32.1 hi10 (by decide)
    have b32 : ak_I M32 491 i = oI (mo_threat (ro M) i nk) := by rw [f32.row (tk_r (by decide))]; exact w2
    rw [q32] at s175 s10 s9
    unfold mo_cut1 at ih
    generalize lay (mo_cuts (ro M) nk i) i 10 (kf (mo_cuts (ro M) nk i) i 10 + mo_wear (ro M) i nk) = τ at *
    have head : ∀ {r}, (if bI (mo_fly τ i) = 0 then sg X 210 (87, [some (.ref 483), some (.int (nI i + 1))], [], []) M32 r else (∃ i35 : Nat, ab_ix (nI i) i35 10 ∧ (if ak_I M32 491 i35 = (-1) then sg X 210 (87, [some (.ref 483), some (.int (nI i + 1))], [], []) M32 r else (∃ (v37 : Int32) (M36 : ak_M), ab_lay M36 ∧ rn X 171 [.ref 483, .int (nI i), .int 10] M32 (.inl (some (.int v37)), M36) ∧ (∃ (v39 : Int32) (M38 : ak_M), ab_lay M38 ∧ rn X 171 [.ref 483, .int (nI i), .int 9] M36 (.inl (some (.int v39)), M38) ∧ (if v39 ≤ v37 then (∃ (M40 : ak_M), ab_lay M40 ∧ rn X 172 [.ref 483, .int (nI i), .int 0, .int 2] M38 (.inl (none), M40) ∧ (∃ i41 : Nat, ab_ix (nI i) i41 10 ∧ (∃ (M42 : ak_M), ab_lay M42 ∧ rn X 172 [.ref 483, .int (nI i), .int 13, .int (ak_I M40 491 i41)] M40 (.inl (none), M42) ∧ (∃ i43 : Nat, ab_ix (nI i) i43 10 ∧ (∃ (M44 : ak_M), ab_lay M44 ∧ rn X 173 [.ref 483, .int (ak_I M42 491 i43), .int 11, .int 1] M42 (.inl (none), M44) ∧ (∃ i45 : Nat, ab_ix 10 i45 245 ∧ (∃ i46 : Nat, ab_ix 10 i46 245 ∧ (∀ M47 : ak_M, M47 = ak_sI M44 484 i46 ((ak_I M44 484 i45) + 1) → (∃ i48 : Nat, ab_ix (nI i) i48 10 ∧ (∃ i49 : Nat, ab_ix (nI i) i49 10 ∧ (∃ i50 : Nat, ab_ix (nI i) i50 10 ∧ (∃ (M51 : ak_M), ab_lay M51 ∧ rn X 186 [.ref 483, .int 1, .int (nI i), .int (ak_I M47 491 i48), .int (ak_I M47 492 i49), .int (ak_I M47 493 i50)] M47 (.inl (none), M51) ∧ sg X 210 (87, [some (.ref 483), some (.int (nI i + 1))], [], []) M51 r)))))))))))) else sg X 210 (87, [some (.ref 483), some (.int (nI i + 1))], [], []) M38 r)))))) → sg X 210 (87, [some (.ref 483), some (.int (nI i))], [], []) M1 r := by
      intro r h
      exact t_210_87 f1.1 _ ⟨_, M1, f1.1, sm_168 f1.1, mb_n (ct_lt c1 hi) ⟨i, mb_ix hi10 (by decide), M32, f32.1, r32, _, M32, f32.1, s175, h⟩⟩
    cases ht : mo_threat (ro M) i nk with
    | none =>
      rw [ht] at ih b32
      obtain ⟨M', h', f'⟩ := ih M32 f32 q32
      refine ⟨M', head ?_, f'⟩
      rw [mi_s]
      cases hf : mo_fly τ i
      · exact mb_y rfl h'
      · exact mb_n (by decide) ⟨i, mb_ix hi10 (by decide), mb_y b32 h'⟩
    | some b =>
      rw [ht] at ih b32
      dsimp only at ih
      have hb := (mo_threat_lt _ _ _ _ ht).1
      have hb10 : b < 10 := Nat.lt_of_lt_of_le hb v'.1.1
      by_cases hc : mo_fly τ i = true ∧ kf τ i 9 ≤ kf τ i 10
      · rw [if_pos hc] at ih
        generalize g40 : ak_sI M32 484 (23 + 15 * i + 0) 2 = M40
        have f40 : fr mo_tk M1 M40 := by rw [← g40]; exact f32.st (Or.inl rfl)
        have q40 : ro M40 = lay τ i 0 2 := by rw [← q32, ← g40]; rfl
        have b40 : ak_I M40 491 i = nI b := by rw [f40.row (tk_r (by decide)), w2, ht]; rfl
        generalize g42 : ak_sI M40 484 (23 + 15 * i + 13) (nI b) = M42
        have f42 : fr mo_tk M1 M42 := by rw [← g42]; exact f40.st (Or.inl rfl)
        have q42 : ro M42 = lay (lay τ i 0 2) i 13 (nI b) := by rw [← q40, ← g42]; rfl
        have b42 : ak_I M42 491 i = nI b := by rw [f42.row (tk_r (by decide)), w2, ht]; rfl
        generalize g44 : ak_sI M42 484 (23 + 15 * b + 11) (kf (ro M42) b 11 + 1) = M44
        have f44 : fr mo_tk M1 M44 := by rw [← g44]; exact f42.st (Or.inl rfl)
        have q44 : ro M44 = lay (lay (lay τ i 0 2) i 13 (nI b)) b 11 (kf (lay (lay τ i 0 2) i 13 (nI b)) b 11 + 1) := by rw [← q42, ← g44]; rfl
        generalize g47 : ak_sI M44 484 10 (ak_I M44 484 10 + 1) = M47
        have f47 : fr mo_tk M1 M47 := by rw [← g47]; exact f44.st (Or.inl rfl)
        have q47 : ro M47 = up (lay (lay (lay τ i 0 2) i 13 (nI b)) b 11 (kf (lay (lay τ i 0 2) i 13 (nI b)) b 11 + 1)) 10 (lay (lay (lay τ i 0 2) i 13 (nI b)) b 11 (kf (lay (lay τ i 0 2) i 13 (nI b)) b 11 + 1) 10 + 1) := by rw [← q44, ← g47]; rfl
        have c47 : ct (ro M47) nk nw n' := by
          rw [q47]
          exact (vs_up10 (vs_lay (vs_lay (vs_lay v32 hi10 (by decide) fun _ => by decide) hi10 (by decide) fun _ => rg_hi (by decide)) hb10 (by decide) fun _ => rg_hi (by decide))).1
        obtain ⟨M51, r51, m51⟩ := sm_186 (X := X) f47.1 c47 (x1 := 1) (x2 := nI i) (x3 := nI b) (x4 := mo_cX (ro M) i b) (x5 := mo_cY (ro M) i b)
        rw [q47] at m51
        have f51 : fr mo_tk M1 M51 := f47.tr m51.1
        obtain ⟨M', h', f'⟩ := ih M51 f51 m51.2
        refine ⟨M', head ?_, f'⟩
        rw [mi_s, hc.1]
        have e47 : ak_I M47 491 i = nI b := by rw [f47.row (tk_r (by decide)), w2, ht]; rfl
        have e47x : ak_I M47 492 i = mo_cX (ro M) i b := by rw [f47.row (tk_r (by decide))]; exact (w3 b ht).1
        have e47y : ak_I M47 493 i = mo_cY (ro M) i b := by rw [f47.row (tk_r (by decide))]; exact (w3 b ht).2
        refine mb_n (by decide) ⟨i, mb_ix hi10 (by decide), mb_n (by rw [b32]; exact mi_n1 (by omega)) ⟨_, M32, f32.1, s10, _, M32, f32.1, s9, mb_y hc.2 ⟨M40, f40.1, by rw [← g40]; exact sm_172 f32.1 hi10 (by decide), i, mb_ix hi10 (by decide), M42, f42.1, by rw [b40, ← g42]; exact sm_172 (w := 13) f40.1 hi10 (by decide), i, mb_ix hi10 (by decide), M44, f44.1, by rw [b42, ← g44]; exact sm_173 (w := 11) f42.1 hb10 (by decide), 10, ⟨rfl, rfl⟩, 10, ⟨rfl, rfl⟩, fun N e => ?_⟩⟩⟩
        obtain rfl := e.trans g47
        refine ⟨i, mb_ix hi10 (by decide), i, mb_ix hi10 (by decide), i, mb_ix hi10 (by decide), M51, f51.1, ?_, h'⟩
        rw [e47, e47x, e47y]
        exact r51
      · rw [if_neg hc] at ih
        obtain ⟨M', h', f'⟩ := ih M32 f32 q32
        refine ⟨M', head ?_, f'⟩
        rw [mi_s]
        cases hf : mo_fly τ i
        · exact mb_y rfl h'
        · exact mb_n (by decide) ⟨i, mb_ix hi10 (by decide), mb_n (by rw [b32]; exact mi_n1 (by omega)) ⟨_, M32, f32.1, s10, _, M32, f32.1, s9, mb_n (fun e => hc ⟨hf, e⟩) h'⟩⟩
theorem rub_cross {σ : Nat → Int32} {k o : Nat} (h : mo_rub σ k o = true) : mo_cross σ k o = true := by
  unfold mo_rub at h
  rw [Bool.and_eq_true] at h
  exact h.1
theorem sm_210 (hL : ab_lay M) (hv : vs (ro M) nk nw ne) : ∃ M', rn X 210 [.ref 483] M (.inl none, M') ∧ fr mo_tr M M' ∧ ro M' = mo_cuts (ro M) nk nk := by
  have hp : ∀ j, j < nk → kp (ro M) j := fun j hj => hv.kp hj
  suffices H : ∀ i, i ≤ nk → ∀ M1, fr mo_tr M M1 → ro M1 = ro M → ar (ro M) nk M1 i → ∃ M', sg X 210 (2, [some (.ref 483), some (.int (nI i))], [], []) M1 (.inl none, M') ∧ fr mo_tr M M' ∧ ro M' = mo_cuts (ro M) nk nk by
    obtain ⟨M', h, f⟩ := H 0 (Nat.zero_le _) M (fr.rf hL) rfl (fun j hj => absurd hj (Nat.not_lt_zero _))
    exact ⟨M', t_210 hL h, f⟩
  refine mb_up ?_ ?_
  · intro M1 f1 r1 a1
    obtain ⟨M', h, f⟩ := sm_210b (X := X) hv f1 r1 a1
    exact ⟨M', t_210_2 f1.1 _ ⟨_, M1, f1.1, sm_168 f1.1, mb_y (by rw [r1]; exact ct_ge hv.1) h⟩, f⟩
  · intro i hi ih M1 f1 r1 a1
    have hi10 : i < 10 := Nat.lt_of_lt_of_le hi hv.1.1
    have c1 : ct (ro M1) nk nw ne := by rw [r1]; exact hv.1
    obtain ⟨M3, h3, f3⟩ := sm_200 (X := X) f1.1 c1 (fun j hj => by rw [r1]; exact hp j hj) hi
    rw [r1] at h3
    have r3 : ro M3 = ro M := (f3.row pq_ro).trans r1
    generalize g6 : ak_sI M3 490 i (mo_wear (ro M) i nk) = M6
    have r6 : ro M6 = ro M := by rw [← g6, ← r3]; exact mb_sIr (by decide)
    have l6 : ab_lay M6 := by rw [← g6]; exact f3.1.sI
    obtain ⟨M7, h7, f7⟩ := sm_201 (X := X) (M := M6) l6 (by rw [r6]; exact hv.1) (fun j hj => by rw [r6]; exact hp j hj) hi
    rw [r6] at h7
    have r7 : ro M7 = ro M := (f7.row pq_ro).trans r6
    generalize g10 : ak_sI M7 491 i (oI (mo_threat (ro M) i nk)) = M10
    have r10 : ro M10 = ro M := by rw [← g10, ← r7]; exact mb_sIr (by decide)
    have l10 : ab_lay M10 := by rw [← g10]; exact f7.1.sI
    have F3 : fr mo_tr M M3 := f1.tr (f3.mo fun _ _ h => Or.inl (pq_tk h))
    have F6 : fr mo_tr M M6 := by rw [← g6]; exact F3.st (Or.inr ⟨by decide, by decide⟩)
    have F7 : fr mo_tr M M7 := F6.tr (f7.mo fun _ _ h => Or.inl (pq_tk h))
    have F10 : fr mo_tr M M10 := by rw [← g10]; exact F7.st (Or.inr ⟨by decide, by decide⟩)
    have pr : ∀ {p}, 490 ≤ p → ∀ k, ¬ mo_pq p k := fun h k e => by have := e.1; omega
    have e490 : ∀ j, ak_I M10 490 j = if j = i then mo_wear (ro M) i nk else ak_I M1 490 j := by
      intro j
      rw [← g10, mb_sIr (by decide), f7.row (pr (by decide)), ← g6, mb_sI]
      by_cases hj : j = i
      · rw [if_pos ⟨rfl, hj⟩, if_pos hj]
      · rw [if_neg (fun e => hj e.2), if_neg hj, f3.row (pr (by decide))]
    have e491 : ∀ j, ak_I M10 491 j = if j = i then oI (mo_threat (ro M) i nk) else ak_I M1 491 j := by
      intro j
      rw [← g10, mb_sI]
      by_cases hj : j = i
      · rw [if_pos ⟨rfl, hj⟩, if_pos hj]
      · rw [if_neg (fun e => hj e.2), if_neg hj, f7.row (pr (by decide)), ← g6, mb_sIr (by decide), f3.row (pr (by decide))]
    have e492 : ak_I M10 492 = ak_I M1 492 := by
      rw [← g10, mb_sIr (by decide), f7.row (pr (by decide)), ← g6, mb_sIr (by decide), f3.row (pr (by decide))]
    have e493 : ak_I M10 493 = ak_I M1 493 := by
      rw [← g10, mb_sIr (by decide), f7.row (pr (by decide)), ← g6, mb_sIr (by decide), f3.row (pr (by decide))]
    have ix : ab_ix (nI i) i 10 := mb_ix hi10 (by decide)
    have e10 : ak_I M10 491 i = oI (mo_threat (ro M) i nk) := by rw [e491, if_pos rfl]
    have old : ∀ j, j < i → ak_I M10 490 j = mo_wear (ro M) j nk ∧ ak_I M10 491 j = oI (mo_threat (ro M) j nk) ∧ ∀ b, mo_threat (ro M) j nk = some b → ak_I M10 492 j = mo_cX (ro M) j b ∧ ak_I M10 493 j = mo_cY (ro M) j b := by
      intro j hj
      rw [e490, e491, e492, e493, if_neg (by omega), if_neg (by omega)]
      exact a1 j hj
    have head : ∀ {r}, (if ak_I M10 491 i = (-1) then sg X 210 (2, [some (.ref 483), some (.int (nI i + 1))], [], []) M10 r else (∃ i12 : Nat, ab_ix (nI i) i12 10 ∧ (∃ (v14 : Int32) (M13 : ak_M), ab_lay M13 ∧ rn X 197 [.ref 483, .int (nI i), .int (ak_I M10 491 i12)] M10 (.inl (some (.int v14)), M13) ∧ (∃ i15 : Nat, ab_ix (nI i) i15 10 ∧ (∀ M16 : ak_M, M16 = ak_sI M13 492 i15 v14 → (∃ i17 : Nat, ab_ix (nI i) i17 10 ∧ (∃ (v19 : Int32) (M18 : ak_M), ab_lay M18 ∧ rn X 198 [.ref 483, .int (nI i), .int (ak_I M16 491 i17)] M16 (.inl (some (.int v19)), M18) ∧ (∃ i20 : Nat, ab_ix (nI i) i20 10 ∧ (∀ M21 : ak_M, M21 = ak_sI M18 493 i20 v19 → sg X 210 (2, [some (.ref 483), some (.int (nI i + 1))], [], []) M21 r))))))))) → sg X 210 (2, [some (.ref 483), some (.int (nI i))], [], []) M1 r := by
      intro r h
      refine t_210_2 f1.1 _ ⟨_, M1, f1.1, sm_168 f1.1, mb_n (ct_lt c1 hi) ⟨_, M3, f3.1, h3, i, ix, fun N e => ?_⟩⟩
      obtain rfl := e.trans g6
      refine ⟨_, M7, f7.1, h7, i, ix, fun N e => ?_⟩
      obtain rfl := e.trans g10
      exact ⟨i, ix, h⟩
    cases ht : mo_threat (ro M) i nk with
    | none =>
      obtain ⟨M', h', f'⟩ := ih M10 F10 r10 (by
        intro j hj
        by_cases e : j = i
        · subst e
          rw [e490, if_pos rfl, e10]
          exact ⟨rfl, rfl, fun b hb => by rw [ht] at hb; cases hb⟩
        · exact old j (by omega))
      rw [ht] at e10
      exact ⟨M', head (mb_y e10 (by rw [mi_s]; exact h')), f'⟩
    | some b =>
      obtain ⟨hb, hrub⟩ := mo_threat_lt _ _ _ _ ht
      have hb10 : b < 10 := Nat.lt_of_lt_of_le hb hv.1.1
      have hcr := rub_cross hrub
      rw [ht] at e10
      have e10 : ak_I M10 491 i = nI b := e10
      obtain ⟨M13, h13, f13⟩ := sm_197 (X := X) l10 hi10 hb10 (by rw [r10]; exact hp i hi) (by rw [r10]; exact hp b hb) (by rw [r10]; exact hcr)
      rw [r10] at h13
      have r13 : ro M13 = ro M := (f13.row pq_ro).trans r10
      generalize g16 : ak_sI M13 492 i (mo_cX (ro M) i b) = M16
      have r16 : ro M16 = ro M := by rw [← g16, ← r13]; exact mb_sIr (by decide)
      have l16 : ab_lay M16 := by rw [← g16]; exact f13.1.sI
      obtain ⟨M18, h18, f18⟩ := sm_198 (X := X) l16 hi10 hb10 (by rw [r16]; exact hp i hi) (by rw [r16]; exact hp b hb) (by rw [r16]; exact hcr)
      rw [r16] at h18
      have r18 : ro M18 = ro M := (f18.row pq_ro).trans r16
      generalize g21 : ak_sI M18 493 i (mo_cY (ro M) i b) = M21
      have r21 : ro M21 = ro M := by rw [← g21, ← r18]; exact mb_sIr (by decide)
      have F13 : fr mo_tr M M13 := F10.tr (f13.mo fun _ _ h => Or.inl (pq_tk h))
      have F16 : fr mo_tr M M16 := by rw [← g16]; exact F13.st (Or.inr ⟨by decide, by decide⟩)
      have F18 : fr mo_tr M M18 := F16.tr (f18.mo fun _ _ h => Or.inl (pq_tk h))
      have F21 : fr mo_tr M M21 := by rw [← g21]; exact F18.st (Or.inr ⟨by decide, by decide⟩)
      have z490 : ak_I M21 490 = ak_I M10 490 := by rw [← g21, mb_sIr (by decide), f18.row (pr (by decide)), ← g16, mb_sIr (by decide), f13.row (pr (by decide))]
      have z491 : ak_I M21 491 = ak_I M10 491 := by rw [← g21, mb_sIr (by decide), f18.row (pr (by decide)), ← g16, mb_sIr (by decide), f13.row (pr (by decide))]
      have z492 : ∀ j, ak_I M21 492 j = if j = i then mo_cX (ro M) i b else ak_I M10 492 j := by
        intro j
        rw [← g21, mb_sIr (by decide), f18.row (pr (by decide)), ← g16, mb_sI, f13.row (pr (by decide))]
        by_cases hj : j = i
        · rw [if_pos ⟨rfl, hj⟩, if_pos hj]
        · rw [if_neg (fun e => hj e.2), if_neg hj]
      have z493 : ∀ j, ak_I M21 493 j = if j = i then mo_cY (ro M) i b else ak_I M10 493 j := by
        intro j
        rw [← g21, mb_sI]
        by_cases hj : j = i
        · rw [if_pos ⟨rfl, hj⟩, if_pos hj]
        · rw [if_neg (fun e => hj e.2), if_neg hj, f18.row (pr (by decide)), ← g16, mb_sIr (by decide), f13.row (pr (by decide))]
      obtain ⟨M', h', f'⟩ := ih M21 F21 r21 (by
        intro j hj
        by_cases e : j = i
        · subst e
          rw [z490, z491, z492, z493, e490, if_pos rfl, if_pos rfl, if_pos rfl, e10]
          refine ⟨rfl, by rw [ht]; rfl, fun c hc => ?_⟩
          rw [ht] at hc
          cases hc
          exact ⟨rfl, rfl⟩
        · rw [z490, z491, z492, z493, if_neg e, if_neg e]
          exact old j (by omega))
      have e16 : ak_I M16 491 i = nI b := by rw [← g16, mb_sIr (by decide), f13.row (pr (by decide))]; exact e10
      refine ⟨M', head (mb_n (by rw [e10]; exact mi_n1 (by omega)) ⟨i, ix, _, M13, f13.1, by rw [e10]; exact h13, i, ix, fun N e => ?_⟩), f'⟩
      obtain rfl := e.trans g16
      refine ⟨i, ix, _, M18, f18.1, by rw [e16]; exact h18, i, ix, fun N e => ?_⟩
      obtain rfl := e.trans g21
      rw [mi_s]
      exact h'
end SGV
