/-! how many lines are cut; the best reel -/
section SCN
variable {σ τ u : Nat → Int32} {nk nw ne k b e n a i : Nat} {v c : Int32}
theorem pl_10 : ∀ (m : Nat) {σ : Nat → Int32}, mo_pl σ k m 10 = σ 10
  | 0, _ => rfl
  | m + 1, σ => by
    unfold mo_pl
    split
    · rfl
    · refine (pl_10 m).trans ?_
      unfold mo_p1 lay
      split
      · exact up_n (by omega)
      · split
        · exact up_n (by omega)
        · exact up_n (by omega)
theorem goes_10 : mo_goes σ k 10 = σ 10 := by
  have h2 : mo_g2 (mo_blow (mo_g1 σ k) k) k 10 = σ 10 := by
    have z2 : mo_blow (mo_g1 σ k) k 10 = σ 10 := ((up_n (by omega)).trans (up_n (by omega))).trans (up_n (by omega))
    unfold mo_g2
    split
    · exact (up_n (by omega)).trans z2
    · exact (up_n (by omega)).trans z2
  have h4 := (pl_10 (k := k) 1000 (σ := mo_g2 (mo_blow (mo_g1 σ k) k) k)).trans h2
  unfold mo_goes mo_g3
  split
  · exact ((hap_lo (by decide) (by decide)).trans (up_n (by omega))).trans h4
  · exact h4
theorem fls_10 : ∀ i, mo_fls σ i 10 = σ 10
  | 0 => rfl
  | i + 1 => by
    rw [mo_fls_s]
    split
    · exact goes_10.trans (fls_10 i)
    · exact fls_10 i
theorem cuts_10 (n : Nat) : ∀ i, ∃ j, j ≤ i ∧ mo_cuts σ n i 10 = σ 10 + nI j
  | 0 => ⟨0, Nat.le_refl _, (Int32.add_zero _).symm⟩
  | i + 1 => by
    obtain ⟨j, hj, e⟩ := cuts_10 n i
    show ∃ j, j ≤ i + 1 ∧ mo_cut1 σ (mo_cuts σ n i) n i 10 = _
    generalize mo_cuts σ n i = τ at *
    unfold mo_cut1
    have k1 : lay τ i 10 (kf τ i 10 + mo_wear σ i n) 10 = σ 10 + nI j := (up_n (by omega)).trans e
    cases ht : mo_threat σ i n with
    | none => exact ⟨j, by omega, k1⟩
    | some b =>
      dsimp only
      generalize lay τ i 10 (kf τ i 10 + mo_wear σ i n) = ψ at *
      split
      · refine ⟨j + 1, by omega, ?_⟩
        unfold mo_cutb
        rw [hap_lo (by decide) (by decide), up_s]
        have z : lay (lay (lay ψ i 0 2) i 13 (nI b)) b 11 (kf (lay (lay ψ i 0 2) i 13 (nI b)) b 11 + 1) 10 = ψ 10 := ((up_n (by omega)).trans (up_n (by omega))).trans (up_n (by omega))
        rw [z, k1, Int32.add_assoc, mi_s]
      · exact ⟨j, by omega, k1⟩
theorem drs_10 {d : Nat → Bool} : ∀ i, mo_drs d σ i 10 = σ 10
  | 0 => rfl
  | i + 1 => (dr1_lo (by decide) (by decide)).trans (drs_10 i)
theorem pks_10 (n : Nat) : ∀ i, mo_pks σ n i 10 = σ 10
  | 0 => rfl
  | i + 1 => (pk1_lo (by decide) (by decide)).trans (pks_10 n i)
theorem tick_10 (n : Nat) : ∃ j, j ≤ n ∧ mo_tick σ n 10 = σ 10 + nI j := by
  obtain ⟨j, hj, e⟩ := cuts_10 (σ := mo_fls σ n) n n
  rw [fls_10] at e
  refine ⟨j, hj, ?_⟩
  refine Eq.trans ?_ e
  exact (up_n (by decide)).trans ((pks_10 n n).trans (drs_10 n))
theorem ts_10 (n : Nat) : ∀ (t : Nat) {σ : Nat → Int32}, ∃ j, j ≤ n * t ∧ mo_ts σ n t 10 = σ 10 + nI j
  | 0, σ => ⟨0, Nat.le_refl _, (Int32.add_zero _).symm⟩
  | t + 1, σ => by
    rw [ts_1]
    split
    · obtain ⟨j, hj, e⟩ := tick_10 (σ := σ) n
      obtain ⟨j', hj', e'⟩ := ts_10 n t (σ := mo_tick σ n)
      refine ⟨j + j', by rw [Nat.mul_succ]; omega, ?_⟩
      rw [e', e, Int32.add_assoc, mi_add]
    · exact ⟨0, Nat.zero_le _, (Int32.add_zero _).symm⟩
theorem cut_nn (h : n ≤ 9) (t : Nat) (ht : t ≤ 100) : ¬ (mo_ts σ n t 10 - σ 10 < 0) := by
  obtain ⟨j, hj, e⟩ := ts_10 (σ := σ) n t
  have h2 : n * t ≤ 9 * 100 := Nat.mul_le_mul h ht
  rw [e, show σ 10 + nI j - σ 10 = nI j by grind]
  exact nI_nn (by omega)
/-! the best -/
theorem rf_m (z : Int32) (v : Nat → Int32) : ∀ n, (∀ j, j < n → v j ≤ (mo_rf z v n).2) ∧ (n ≠ 0 → ∃ j, j < n ∧ mo_rf z v n = (yJ j, v j))
  | 0 => ⟨fun j hj => absurd hj (Nat.not_lt_zero j), fun h => absurd rfl h⟩
  | n + 1 => by
    obtain ⟨h1, h2⟩ := rf_m z v n
    rw [mo_rf_s]
    by_cases c : n = 0 ∨ (mo_rf z v n).2 < v n
    · rw [if_pos c]
      refine ⟨fun j hj => ?_, fun _ => ⟨n, by omega, rfl⟩⟩
      show v j ≤ v n
      by_cases e : j = n
      · subst e; exact Int32.le_refl _
      · rcases c with c | c
        · omega
        · exact Int32.le_trans (h1 j (by omega)) (Int32.le_of_lt c)
    · rw [if_neg c]
      have hn : n ≠ 0 := fun e => c (Or.inl e)
      refine ⟨fun j hj => ?_, fun _ => ?_⟩
      · by_cases e : j = n
        · subst e; exact Int32.not_lt.mp fun e => c (Or.inr e)
        · exact h1 j (by omega)
      · obtain ⟨j, hj, e⟩ := h2 hn
        exact ⟨j, by omega, e⟩
theorem yJ_in : ∀ j, j < 19 → in32 (yJ j) (-9) 9 = true := by decide +kernel
theorem yJ_3 : ∀ m, m < 7 → yJ (3 * m) + 3 = yJ (3 * (m + 1)) ∧ ¬ 9 < yJ (3 * m) := by decide +kernel
theorem lay_lay {w x : Int32} (h : k < 10) : lay (lay σ k 7 w) k 7 x = lay σ k 7 x := by
  funext j
  unfold lay
  by_cases c : j = 23 + 15 * k + 7
  · subst c; rw [up_s, up_s]
  · rw [up_n c, up_n c, up_n c]
end SCN
