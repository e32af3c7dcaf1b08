/-! the model's forecasts: a number later, lines cut, the reel that is best -/
section SMH
variable {X : ak_X} {M M1 M2 : ak_M} {k o nk nw ne : Nat} {σ τ : Nat → Int32}
theorem cm_246 (hL : ab_lay M) (hv : vs (ro M) nk nw ne) (x w t : Int32) : cm mo_fc X 246 [.int x, .int w, .int t] M (cdI 0) (sp_119 (ro M) nk x w t) := by
  have h10 := hv.1.1
  have l1 := to_L hL 0
  have l2 := to_L l1 0
  unfold sp_119
  by_cases h0 : mo_isK (ro M) x = true
  · rw [if_pos h0]
    by_cases h1 : in32 w 0 13 = true
    · rw [if_pos h1]
      by_cases h2 : in32 t 1 100 = true
      · rw [if_pos h2]
        obtain ⟨k, hk, rfl⟩ := (isK_of hv.1).mp h0
        obtain ⟨j, hj, rfl⟩ := in_13 h1
        obtain ⟨m, hm1, hm, rfl⟩ := in_100 h2
        rw [kN_n (by omega), kN_n (by omega), kN_n (by omega)]
        have F := (to_f hL 0).tr (to_f l1 0)
        obtain ⟨M1, r1, f1⟩ := sm_166 (X := X) l2
        rw [to_r, to_r] at f1
        obtain ⟨M2, r2, f2⟩ := f1.ts (X := X) hv (t := m) (by omega)
        have s := sm_171 (X := X) (w := j) f2.1.1 (k := k) (by omega) (by omega)
        rw [f2.2.2.1] at s
        obtain ⟨M3, r3, f3⟩ := f2.back (X := X) (kf (mo_ts (ro M) nk m) k j)
        have q := fc_fin F (to_0 _) f3.fb
        have h2' : bI (in32 (nI m) 1 100) = 1 := by rw [h2]; rfl
        refine cm_v (t_246 hL _ _ _ ⟨_, M, hL, sm_169 hL, _, _, l1, sm_155y hL h0, mb_n (by1 h0) ⟨_, _, l1, sm_217 l1, mb_n (by1 h1) ⟨_, _, l1, sm_245 l1, mb_n (by1 h2) ⟨_, _, l2, ?_, mb_n (by1 h2) ⟨M1, f1.1.1, r1, M2, f2.1.1, r2, _, M2, f2.1.1, s, _, M3, f3.1.1, r3, rfl⟩⟩⟩⟩⟩) q.1 q.2
        have := sm_156y (X := X) l1 (b := in32 (nI m) 1 100) (c := 2) h2
        rw [h2'] at this
        rw [h2']
        exact this
      · rw [if_neg h2]
        have F := ((to_f hL 0).tr (to_f l1 2)).mo fun _ _ => q1_fc
        exact cm_e (t_246 hL _ _ _ ⟨_, M, hL, sm_169 hL, _, _, l1, sm_155y hL h0, mb_n (by1 h0) ⟨_, _, l1, sm_217 l1, mb_n (by1 h1) ⟨_, _, l1, sm_245 l1, mb_y (bn1 h2) ⟨_, _, to_L l1 2, sm_156n l1 (b := false) (by decide), mb_y rfl rfl⟩⟩⟩⟩) F (to_0 _)
    · rw [if_neg h1]
      have F := ((to_f hL 0).tr (to_f l1 2)).mo fun _ _ => q1_fc
      exact cm_e (t_246 hL _ _ _ ⟨_, M, hL, sm_169 hL, _, _, l1, sm_155y hL h0, mb_n (by1 h0) ⟨_, _, l1, sm_217 l1, mb_y (bn1 h1) ⟨_, _, to_L l1 2, sm_156n l1 (b := false) (by decide), mb_y rfl rfl⟩⟩⟩) F (to_0 _)
  · rw [if_neg h0]
    have F := (to_f hL 1).mo fun _ _ => q1_fc
    exact cm_e (t_246 hL _ _ _ ⟨_, M, hL, sm_169 hL, _, _, to_L hL 1, sm_155n hL h0, mb_y (bn1 h0) rfl⟩) F (to_0 _)
theorem cm_251 (hL : ab_lay M) (hv : vs (ro M) nk nw ne) (t : Int32) : cm mo_fc X 251 [.int t] M (cdI 1) (sp_122 (ro M) nk t) := by
  have l1 := to_L hL 0
  unfold sp_122
  by_cases h2 : in32 t 1 100 = true
  · rw [if_pos h2]
    obtain ⟨m, hm1, hm, rfl⟩ := in_100 h2
    rw [kN_n (by omega)]
    obtain ⟨M1, r1, f1⟩ := sm_166 (X := X) l1
    rw [to_r] at f1
    obtain ⟨M2, r2, f2⟩ := f1.ts (X := X) hv (t := m) (by omega)
    obtain ⟨M3, r3, f3⟩ := f2.back (X := X) (mo_ts (ro M) nk m 10 - ro M 10)
    have q := fc_fin (to_f hL 0) (to_0 _) f3.fb
    refine cm_v (t_251 hL _ ⟨_, M, hL, sm_245 hL, _, _, l1, sm_155y hL h2, mb_n (by1 h2) ⟨10, ⟨rfl, rfl⟩, M1, f1.1.1, r1, M2, f2.1.1, r2, 10, ⟨rfl, rfl⟩, _, M3, f3.1.1, ?_, rfl⟩⟩) q.1 q.2
    rw [show ak_I M2 484 10 = mo_ts (ro M) nk m 10 from congrFun f2.2.2.1 10, show ak_I (to M 0) 484 10 = ro M 10 from congrFun (to_r 0) 10]
    exact r3
  · rw [if_neg h2]
    exact cm_e (t_251 hL _ ⟨_, M, hL, sm_245 hL, _, _, to_L hL 1, sm_155n hL h2, mb_y (bn1 h2) rfl⟩) ((to_f hL 1).mo fun _ _ => q1_fc) (to_0 _)
theorem sm_254l (hv : vs (ro M) nk nw ne) (hk : k < nk) {t w : Nat} (ht : t ≤ 100) (hw : w < 14) (s : Int32) : ∀ j, j ≤ 19 → ∀ M1 o8, fo M (ro M) M1 →
    ∃ M', sg X 254 (45, [some (.ref 483), some (.int (nI k)), some (.int (nI t)), some (.int (nI w)), some (.int s), some (.int (mo_rf 0 (mo_rv (ro M) nk k t w s) j).1), some (.int (mo_rf 0 (mo_rv (ro M) nk k t w s) j).2), some (.int (yJ j)), o8], [], []) M1 (.inl (some (.int (mo_rf (-9) (mo_rv (ro M) nk k t w s) 19).1)), M') ∧ fo M (ro M) M' := by
  have h10 := hv.1.1
  refine mb_up ?_ ?_
  · intro M1 o8 f1
    refine ⟨M1, t_254_45 f1.1.1 _ _ _ _ _ _ _ _ (mb_y (by decide) ?_), f1⟩
    rw [rf_z (-9) 0 _ 18]
  · intro j hj ih M1 o8 f1
    have yj := yJ_f j hj
    obtain ⟨r2, f2⟩ := f1.lay (X := X) (k := k) (by omega) (w := 7) (by decide) (v := yJ j)
    generalize ak_sI M1 484 (23 + 15 * k + 7) (yJ j) = M2 at r2 f2
    have v2 : vs (lay (ro M) k 7 (yJ j)) nk nw ne := vs_lay hv (by omega) (by decide) fun _ => yj.2.2.2.1
    obtain ⟨M3, r3, f3⟩ := f2.ts (X := X) v2 (t := t) (by omega)
    have s3 := sm_171 (X := X) (w := w) f3.1.1 (k := k) (by omega) (by omega)
    rw [f3.2.2.1] at s3
    obtain ⟨M4, r4, f4⟩ := f3.back (X := X) (mo_rv (ro M) nk k t w s j)
    obtain ⟨M', h', f'⟩ := ih M4 (some (.int (mo_rv (ro M) nk k t w s j))) f4
    refine ⟨M', t_254_45 f1.1.1 _ _ _ _ _ _ _ _ (mb_n yj.1 ⟨M2, f2.1.1, r2, M3, f3.1.1, r3, _, M3, f3.1.1, s3, _, M4, f4.1.1, r4, ?_⟩), f'⟩
    rw [yj.2.2.2.2]
    rw [mo_rf_s] at h'
    generalize mo_rv (ro M) nk k t w s j = v at h' ⊢
    by_cases c : j = 0
    · rw [if_pos (Or.inl c)] at h'
      exact mb_y (yj.2.2.1.mpr c) h'
    · refine mb_n (fun e => c (yj.2.2.1.mp e)) ?_
      by_cases d : (mo_rf 0 (mo_rv (ro M) nk k t w s) j).2 < v
      · rw [if_pos (Or.inr d)] at h'
        exact mb_y d h'
      · rw [if_neg (fun e => e.elim c d)] at h'
        exact mb_n d h'
theorem cm_254 (hL : ab_lay M) (hv : vs (ro M) nk nw ne) {w : Nat} (hw : w < 14) (s : Int32) (x t : Int32) : cm mo_fc X 254 [.int x, .int t, .int (nI w), .int s] M (cdI 0) (sp_148 (ro M) nk w s x t) := by
  have h10 := hv.1.1
  have l1 := to_L hL 0
  have l2 := to_L l1 0
  unfold sp_148
  by_cases h0 : mo_isK (ro M) x = true
  · rw [if_pos h0]
    by_cases h2 : in32 t 1 50 = true
    · rw [if_pos h2]
      obtain ⟨k, hk, rfl⟩ := (isK_of hv.1).mp h0
      obtain ⟨m, hm1, hm, rfl⟩ := in_50 h2
      rw [kN_n (by omega), kN_n (by omega)]
      have F := (to_f hL 0).tr (to_f l1 0)
      have v2 : vs (ro (to (to M 0) 0)) nk nw ne := by rw [to_r, to_r]; exact hv
      obtain ⟨M1, r1, f1⟩ := sm_166 (X := X) l2
      obtain ⟨M2, r2, f2⟩ := sm_254l (X := X) v2 hk (t := m) (w := w) (by omega) hw s 0 (by decide) M1 none f1
      have q := fc_fin F (to_0 _) f2.fb
      rw [to_r, to_r] at r2
      exact cm_v (t_254 hL _ _ _ _ ⟨_, M, hL, sm_169 hL, _, _, l1, sm_155y hL h0, mb_n (by1 h0) ⟨_, _, l1, jm_in32 (by rfl) (by rfl), _, _, l2, sm_156y l1 h2, mb_n (by1 h2) ⟨M1, f1.1.1, r1, r2⟩⟩⟩) q.1 q.2
    · rw [if_neg h2]
      have F := ((to_f hL 0).tr (to_f l1 2)).mo fun _ _ => q1_fc
      exact cm_e (t_254 hL _ _ _ _ ⟨_, M, hL, sm_169 hL, _, _, l1, sm_155y hL h0, mb_n (by1 h0) ⟨_, _, l1, jm_in32 (by rfl) (by rfl), _, _, to_L l1 2, sm_156n l1 h2, mb_y (bn1 h2) rfl⟩⟩) F (to_0 _)
  · rw [if_neg h0]
    have F := (to_f hL 1).mo fun _ _ => q1_fc
    exact cm_e (t_254 hL _ _ _ _ ⟨_, M, hL, sm_169 hL, _, _, to_L hL 1, sm_155n hL h0, mb_y (bn1 h0) rfl⟩) F (to_0 _)
theorem cm_255 (hL : ab_lay M) (hv : vs (ro M) nk nw ne) (x t : Int32) : cm mo_fc X 255 [.int x, .int t] M (cdI 0) (sp_148 (ro M) nk 10 (-1) x t) ∧ cm mo_fc X 256 [.int x, .int t] M (cdI 0) (sp_148 (ro M) nk 3 1 x t) ∧ cm mo_fc X 257 [.int x, .int t] M (cdI 0) (sp_148 (ro M) nk 11 1 x t) := by
  obtain ⟨M1, v1, r1, f1, e1, g1⟩ := cm_254 (X := X) hL hv (w := 10) (by decide) (-1) x t
  obtain ⟨M2, v2, r2, f2, e2, g2⟩ := cm_254 (X := X) hL hv (w := 3) (by decide) 1 x t
  obtain ⟨M3, v3, r3, f3, e3, g3⟩ := cm_254 (X := X) hL hv (w := 11) (by decide) 1 x t
  exact ⟨⟨M1, v1, t_255 hL _ _ ⟨_, M1, f1.1, r1, rfl⟩, f1, e1, g1⟩, ⟨M2, v2, t_256 hL _ _ ⟨_, M2, f2.1, r2, rfl⟩, f2, e2, g2⟩, ⟨M3, v3, t_257 hL _ _ ⟨_, M3, f3.1, r3, rfl⟩, f3, e3, g3⟩⟩
end SMH
