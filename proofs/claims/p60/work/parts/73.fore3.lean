/-! the class's duel, and the reel that is best -/
section SFQ
variable {X : ak_X} {M : ak_M} {k o nk nw ne fe : Nat} {σ : Nat → Int32}
theorem s04 {v : Int32} (h : in32 v 0 4 = true) : v = 0 ∨ v = 1 ∨ v = 2 ∨ v = 3 ∨ v = 4 := by
  have := in32_t.mp h
  rw [show (0 : Int32).toInt = 0 from rfl, show (4 : Int32).toInt = 4 from rfl] at this
  rcases (show v.toInt = 0 ∨ v.toInt = 1 ∨ v.toInt = 2 ∨ v.toInt = 3 ∨ v.toInt = 4 by omega) with e | e | e | e | e
  · exact Or.inl (Int32.toInt_inj.mp e)
  · exact Or.inr (Or.inl (Int32.toInt_inj.mp e))
  · exact Or.inr (Or.inr (Or.inl (Int32.toInt_inj.mp e)))
  · exact Or.inr (Or.inr (Or.inr (Or.inl (Int32.toInt_inj.mp e))))
  · exact Or.inr (Or.inr (Or.inr (Or.inr (Int32.toInt_inj.mp e))))
theorem ts_1 (σ : Nat → Int32) (n d : Nat) : mo_ts σ n (d + 1) = if σ 0 < 5000 then mo_ts (mo_tick σ n) n d else σ := rfl
theorem sk_148b (hk : k < nk) (h10 : nk ≤ 10) {t w j : Nat} (ht : t ≤ 100) (hw : w < 14) (hj : j < 19) (s y5 y6 : Int32) {N : ak_O × ak_M → Prop} :
    ∀ d i M1 τ, i + d = t → ch 97 τ nk nw M M1 →
    (∀ M2 o8, ch 97 (mo_ts τ nk d) nk nw M M2 → ∃ r, N r ∧ sg X 148 (11, [some (.ref 0), some (.int (nI k)), some (.int (nI t)), some (.int (nI w)), some (.int s), some (.int (if j = 0 ∨ y6 < s * kf (mo_ts τ nk d) k w then (yJ j, s * kf (mo_ts τ nk d) k w) else (y5, y6)).1), some (.int (if j = 0 ∨ y6 < s * kf (mo_ts τ nk d) k w then (yJ j, s * kf (mo_ts τ nk d) k w) else (y5, y6)).2), some (.int (yJ (j + 1))), o8], [], []) M2 r) →
    ∃ r, N r ∧ sg X 148 (46, [some (.ref 0), some (.int (nI k)), some (.int (nI t)), some (.int (nI w)), some (.int s), some (.int y5), some (.int y6), some (.int (yJ j)), some (.int (nI i))], [], []) M1 r := by
  have yj := yJ_f j hj
  have fin : ∀ {M1 τ} {r : ak_O × ak_M}, ch 97 τ nk nw M M1 → sg X 148 (11, [some (.ref 0), some (.int (nI k)), some (.int (nI t)), some (.int (nI w)), some (.int s), some (.int (if j = 0 ∨ y6 < s * kf τ k w then (yJ j, s * kf τ k w) else (y5, y6)).1), some (.int (if j = 0 ∨ y6 < s * kf τ k w then (yJ j, s * kf τ k w) else (y5, y6)).2), some (.int (yJ (j + 1))), some (.int (s * kf τ k w))], [], []) M1 r →
      (if yJ j = (-9) then sg X 148 (11, [some (.ref 0), some (.int (nI k)), some (.int (nI t)), some (.int (nI w)), some (.int s), some (.int (yJ j)), some (.int (s * kf τ k w)), some (.int (yJ j + 1)), some (.int (s * kf τ k w))], [], []) M1 r else (if s * kf τ k w ≤ y6 then sg X 148 (11, [some (.ref 0), some (.int (nI k)), some (.int (nI t)), some (.int (nI w)), some (.int s), some (.int y5), some (.int y6), some (.int (yJ j + 1)), some (.int (s * kf τ k w))], [], []) M1 r else sg X 148 (11, [some (.ref 0), some (.int (nI k)), some (.int (nI t)), some (.int (nI w)), some (.int s), some (.int (yJ j)), some (.int (s * kf τ k w)), some (.int (yJ j + 1)), some (.int (s * kf τ k w))], [], []) M1 r)) := by
    intro M1 τ r m1 h
    rw [← yj.2.2.2.2] at h
    by_cases c : j = 0
    · rw [if_pos (Or.inl c)] at h
      exact mb_y (yj.2.1.mpr c) h
    · refine mb_n (fun e => c (yj.2.1.mp e)) ?_
      by_cases d : s * kf τ k w ≤ y6
      · rw [if_neg (fun e => e.elim c fun e => mb_le.mpr e d)] at h
        exact mb_y d h
      · rw [if_pos (Or.inr (mb_le.mp d))] at h
        exact mb_n d h
  intro d
  induction d with
  | zero =>
    intro i M1 τ hi m1 go
    obtain ⟨r, hN, h⟩ := go M1 (some (.int (s * kf τ k w))) m1
    exact ⟨r, hN, t_148_46 m1.lay0 _ _ _ _ _ _ _ _ (mb_y ((mi_le (by omega) (by omega)).mpr (by omega)) ⟨k, by omega, mb_ix (by omega) (by decide), _, M1, m1.lay0, m1.s39 hk hw, fin m1 h⟩)⟩
  | succ d ih =>
    intro i M1 τ hi m1 go
    have c0 : ¬ nI t ≤ nI i := by rw [mi_le (by omega) (by omega)]; omega
    have e9 := m1.i9
    rw [ts_1] at go
    by_cases h5 : τ 0 < 5000
    · rw [if_pos h5] at go
      obtain ⟨M2, r2, m2⟩ := m1.t21 (X := X) h5
      obtain ⟨r, hN, h⟩ := ih (i + 1) M2 _ (by omega) m2 go
      rw [← mi_s] at h
      exact ⟨r, hN, t_148_46 m1.lay0 _ _ _ _ _ _ _ _ (mb_n c0 (mb_n (by rw [e9]; exact mb_le.mpr h5) ⟨M2, m2.lay0, r2, h⟩))⟩
    · rw [if_neg h5] at go
      obtain ⟨r, hN, h⟩ := go M1 (some (.int (s * kf τ k w))) m1
      exact ⟨r, hN, t_148_46 m1.lay0 _ _ _ _ _ _ _ _ (mb_n c0 (mb_y (by rw [e9]; exact mb_lt.mp h5) ⟨k, by omega, mb_ix (by omega) (by decide), _, M1, m1.lay0, m1.s39 hk hw, fin m1 h⟩))⟩
theorem sk_148 (hL : ab_lay M) (hR : Rb 65 σ nk nw ne fe M) (hv : vs σ nk nw ne) (hk : k < nk) {t w : Nat} (ht : t ≤ 100) (hw : w < 14) (s : Int32) :
    ∃ M', rn X 148 [.ref 0, .int (nI k), .int (nI t), .int (nI w), .int s] M (.inl (some (.int (mo_rf (-9) (mo_rv σ nk k t w s) 19).1)), M') ∧ fr (cS 97) M M' := by
  have h10 := hv.1.1
  suffices H : ∀ j, j ≤ 19 → ∀ M1 o8, fr (cS 97) M M1 → ∃ r : ak_O × ak_M, (∃ M', r = (.inl (some (.int (mo_rf (-9) (mo_rv σ nk k t w s) 19).1)), M') ∧ fr (cS 97) M M') ∧ sg X 148 (11, [some (.ref 0), some (.int (nI k)), some (.int (nI t)), some (.int (nI w)), some (.int s), some (.int (mo_rf (-9) (mo_rv σ nk k t w s) j).1), some (.int (mo_rf (-9) (mo_rv σ nk k t w s) j).2), some (.int (yJ j)), o8], [], []) M1 r by
    obtain ⟨r, ⟨M', e, f⟩, h⟩ := H 0 (by decide) M none (fr.rf hL)
    subst e
    exact ⟨M', t_148 hL _ _ _ _ h, f⟩
  refine mb_up ?_ ?_
  · intro M1 o8 f1
    exact ⟨_, ⟨M1, rfl, f1⟩, t_148_11 f1.1 _ _ _ _ _ _ _ _ (mb_y (by decide) rfl)⟩
  · intro j hj ih M1 o8 f1
    have yj := yJ_f j hj
    have r1 := c97 f1 hR hv.1
    obtain ⟨M2, r2, m2⟩ := sk_10 (X := X) f1.1 h65 h97 (by decide) r1 hv.1
    generalize g3 : ak_sI M2 (97 + 6 + k) 7 (yJ j) = M3
    have m3 := m2.lay hv.1 hk (w := 7) (by decide) g3.symm
    have v3 : vs (lay σ k 7 (yJ j)) nk nw ne := vs_lay hv (by omega) (by decide) fun _ => yj.2.2.2.1
    have m3' : ch 97 (lay σ k 7 (yJ j)) nk nw M M3 := ⟨_, _, v3, f1.tr m3.1, m3.2⟩
    obtain ⟨r, hN, h⟩ := sk_148b (X := X) hk h10 (t := t) (w := w) (j := j) ht hw hj s (mo_rf (-9) (mo_rv σ nk k t w s) j).1 (mo_rf (-9) (mo_rv σ nk k t w s) j).2 (N := fun r => ∃ M', r = (.inl (some (.int (mo_rf (-9) (mo_rv σ nk k t w s) 19).1)), M') ∧ fr (cS 97) M M') t 0 M3 _ (by omega) m3' (fun M4 o8 m4 => by
      have := ih M4 o8 m4.f
      rw [mo_rf_s] at this
      exact this)
    refine ⟨r, hN, t_148_11 f1.1 _ _ _ _ _ _ _ _ (mb_n yj.1 ⟨M2, m2.1.1, r2, k, by omega, mb_ix (by omega) (by decide), fun N e => ?_⟩)⟩
    obtain rfl := e.trans g3
    exact h
end SFQ
