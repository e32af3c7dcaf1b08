/-! the model's forecasts -/
def mo_f4 (p k : Nat) : Prop := mo_tt p k ∨ p = 486
def mo_fb (p k : Nat) : Prop := mo_pq p k ∨ p = 486 ∨ (490 ≤ p ∧ p ≤ 494)
def mo_fc (p k : Nat) : Prop := mo_q1 p k ∨ p = 486 ∨ (490 ≤ p ∧ p ≤ 494)
/-- a forecast under way: the row is τ, and the row before lies aside -/
def fo (M : ak_M) (τ : Nat → Int32) (M' : ak_M) : Prop := fr mo_f4 M M' ∧ (∀ k, k < 245 → ak_I M' 486 k = ro M k) ∧ ro M' = τ ∧ hi (ro M) τ
section SMF
variable {X : ak_X} {M M1 M2 : ak_M} {k o nk nw ne : Nat} {σ τ : Nat → Int32}
theorem r484 : ab_ar 484 := ⟨at_484, an_484⟩
theorem r485 : ab_ar 485 := ⟨at_485, an_485⟩
theorem r486 : ab_ar 486 := ⟨at_486, an_486⟩
theorem r488 : ab_ar 488 := ⟨at_488, an_488⟩
theorem f4_486 {M1 : ak_M} (f : fr mo_tt M M1) : ak_I M1 486 = ak_I M 486 := f.row fun k h => by
  unfold mo_tt mo_tk mo_pq at h
  omega
theorem sm_166 (hL : ab_lay M) : ∃ M', rn X 166 [.ref 483] M (.inl none, M') ∧ fo M (ro M) M' := by
  obtain ⟨M', r, f, e⟩ := sm_158 (X := X) hL r484 r486 (by decide)
  exact ⟨M', t_166 hL ⟨M', f.1, r, rfl⟩, f.mo fun _ _ h => Or.inr h.1, e, f.row fun k h => absurd h.1 (by decide), hi.rf⟩
theorem fo.mt {M1 M2 : ak_M} (h : fo M τ M1) (g : mt M1 σ M2) (hh : hi τ σ) : fo M σ M2 :=
  ⟨h.1.tr (g.1.mo fun _ _ e => Or.inl e), fun k hk => by rw [f4_486 g.1]; exact h.2.1 k hk, g.2, h.2.2.2.tr hh⟩
theorem fo.tick (h : fo M τ M1) (hv : vs τ nk nw ne) : ∃ M2, rn X 212 [.ref 483] M1 (.inl none, M2) ∧ fo M (mo_tick τ nk) M2 := by
  obtain ⟨M2, r, m⟩ := sm_212 (X := X) h.1.1 (nk := nk) (nw := nw) (ne := ne) (by rw [h.2.2.1]; exact hv)
  rw [h.2.2.1] at m
  exact ⟨M2, r, h.mt m (hi_tick hv)⟩
theorem fo.ts (h : fo M τ M1) (hv : vs τ nk nw ne) {t : Nat} (ht : t ≤ 1000) : ∃ M2, rn X 213 [.ref 483, .int (nI t)] M1 (.inl none, M2) ∧ fo M (mo_ts τ nk t) M2 := by
  obtain ⟨M2, r, m⟩ := sm_213 (X := X) h.1.1 (nk := nk) (nw := nw) (ne := ne) (by rw [h.2.2.1]; exact hv) ht
  rw [h.2.2.1] at m
  exact ⟨M2, r, h.mt m (hi_ts t hv)⟩
theorem fo.lay (h : fo M τ M1) (hk : k < 10) {w : Nat} (hw : w < 15) {v : Int32} : rn X 172 [.ref 483, .int (nI k), .int (nI w), .int v] M1 (.inl none, ak_sI M1 484 (23 + 15 * k + w) v) ∧ fo M (lay τ k w v) (ak_sI M1 484 (23 + 15 * k + w) v) := by
  refine ⟨sm_172 h.1.1 hk hw, h.1.st (Or.inl (Or.inl (Or.inl rfl))), fun j hj => ?_, ?_, hi_lay h.2.2.2 hk hw⟩
  · rw [mb_sIr (by decide)]; exact h.2.1 j hj
  · rw [ro_up, h.2.2.1]; rfl
theorem fo.fb (h : fo M (ro M) M1) : fr mo_fb M M1 := by
  refine ⟨h.1.1, fun p k hn => ?_, h.1.2.2⟩
  by_cases e : p = 484
  · rw [e]; exact congrFun h.2.2.1 k
  · refine h.1.2.1 p k fun c => hn ?_
    unfold mo_f4 mo_tt mo_tk at c
    unfold mo_fb
    rcases c with ((c | c) | c) | c
    · exact absurd c e
    · exact Or.inl c
    · exact Or.inr (Or.inr c)
    · exact Or.inr (Or.inl c)
theorem fo.back (h : fo M τ M1) (v : Int32) : ∃ M2, rn X 167 [.ref 483, .int v] M1 (.inl (some (.int v)), M2) ∧ fo M (ro M) M2 := by
  obtain ⟨M2, r, f, e⟩ := sm_158 (X := X) h.1.1 r486 r484 (by decide)
  have e6 : ak_I M2 486 = ak_I M1 486 := f.row fun k h => absurd h.1 (by decide)
  refine ⟨M2, t_167 h.1.1 _ ⟨M2, f.1, r, rfl⟩, h.1.tr (f.mo fun _ _ h => Or.inl (Or.inl (Or.inl h.1))), fun k hk => by rw [e6]; exact h.2.1 k hk, ?_, hi.rf⟩
  funext k
  by_cases c : k < 245
  · exact (e k c).trans (h.2.1 k c)
  · show ak_I M2 484 k = ak_I M 484 k
    rw [f.2.1 484 k (fun h => c h.2)]
    exact (congrFun h.2.2.1 k).trans (h.2.2.2 k (by omega))
theorem sm_245 (hL : ab_lay M) {x : Int32} : rn X 245 [.int x] M (.inl (some (.int (bI (in32 x 1 100)))), M) := t_245 hL _ ⟨_, M, hL, jm_in32 (by rfl) (by rfl), bI_01 _, rfl⟩
theorem sm_247 (hL : ab_lay M) (hk : k < 10) (ho : o < 10) {p : Nat} (hp : p < 3) : rn X 247 [.ref 483, .int (nI p), .int (nI k), .int (nI o)] M (.inl (some (.int (bI (mo_is p k o (ro M))))), M) := by
  rcases (show p = 0 ∨ p = 1 ∨ p = 2 by omega) with rfl | rfl | rfl
  · have s := sm_176 (X := X) hL hk
    refine t_247 hL _ _ _ (mb_y rfl ⟨_, M, hL, s, ?_⟩)
    have e : mo_is 0 k o (ro M) = !(mo_held (ro M) k) := rfl
    rw [e]
    cases mo_held (ro M) k
    · exact mb_y rfl rfl
    · exact mb_n (by decide) rfl
  · have s := sm_175 (X := X) hL hk
    have s0 := sm_171 (X := X) (w := 0) hL hk (by decide)
    refine t_247 hL _ _ _ (mb_n (by decide) (mb_y rfl ⟨_, M, hL, s, ?_⟩))
    have e : mo_is 1 k o (ro M) = (!(mo_fly (ro M) k) && !(decide (kf (ro M) k 0 = 2))) := rfl
    rw [e]
    cases mo_fly (ro M) k
    · refine mb_y rfl ⟨_, M, hL, s0, ?_⟩
      by_cases h2 : kf (ro M) k 0 = 2
      · rw [decide_eq_true h2]; exact mb_y h2 rfl
      · rw [decide_eq_false h2]; exact mb_n h2 rfl
    · exact mb_n (by decide) rfl
  · exact t_247 hL _ _ _ (mb_n (by decide) (mb_n (by decide) ⟨_, M, hL, sm_192 hL hk ho, bI_01 _, rfl⟩))
theorem sm_248 (hL : ab_lay M) (hv : vs (ro M) nk nw ne) (hk : k < 10) (ho : o < 10) {p t : Nat} (hp : p < 3) (ht : t ≤ 1000) : ∃ M', rn X 248 [.ref 483, .int (nI p), .int (nI k), .int (nI o), .int (nI t)] M (.inl (some (.int (mo_fst (mo_is p k o) nk (t + 1) 0 (ro M)))), M') ∧ fo M (ro M) M' := by
  suffices H : ∀ d i M1 τ ne, i + d = t → fo M τ M1 → vs τ nk nw ne → ∃ M', sg X 248 (7, [some (.ref 483), some (.int (nI p)), some (.int (nI k)), some (.int (nI o)), some (.int (nI t)), some (.int (nI i))], [], []) M1 (.inl (some (.int (mo_fst (mo_is p k o) nk (d + 1) i τ))), M') ∧ fo M (ro M) M' by
    obtain ⟨M1, r1, f1⟩ := sm_166 (X := X) hL
    obtain ⟨M', h, f⟩ := H t 0 M1 _ _ (by omega) f1 hv
    exact ⟨M', t_248 hL _ _ _ _ ⟨M1, f1.1.1, r1, h⟩, f⟩
  intro d
  induction d with
  | zero =>
    intro i M1 τ ne hi f1 v1
    have s := sm_247 (X := X) f1.1.1 hk ho hp
    rw [f1.2.2.1] at s
    cases h : mo_is p k o τ
    · have e : mo_fst (mo_is p k o) nk (0 + 1) i τ = (-1) := by rw [fst_t h]; rfl
      rw [e]
      rw [h] at s
      obtain ⟨M2, r2, f2⟩ := f1.back (X := X) (-1)
      exact ⟨M2, t_248_7 f1.1.1 _ _ _ _ _ (mb_y ((mi_le (by omega) (by omega)).mpr (by omega)) ⟨_, M1, f1.1.1, s, mb_y rfl ⟨_, M2, f2.1.1, r2, rfl⟩⟩), f2⟩
    · rw [fst_y h]
      rw [h] at s
      obtain ⟨M2, r2, f2⟩ := f1.back (X := X) (nI i)
      exact ⟨M2, t_248_7 f1.1.1 _ _ _ _ _ (mb_y ((mi_le (by omega) (by omega)).mpr (by omega)) ⟨_, M1, f1.1.1, s, mb_n (by decide) ⟨_, M2, f2.1.1, r2, rfl⟩⟩), f2⟩
  | succ d ih =>
    intro i M1 τ ne hi f1 v1
    have c0 : ¬ nI t ≤ nI i := by rw [mi_le (by omega) (by omega)]; omega
    have s := sm_247 (X := X) f1.1.1 hk ho hp
    rw [f1.2.2.1] at s
    have e0 : ak_I M1 484 0 = τ 0 := congrFun f1.2.2.1 0
    cases h : mo_is p k o τ
    · rw [h] at s
      by_cases h5 : τ 0 < 5000
      · have e : mo_fst (mo_is p k o) nk (d + 1 + 1) i τ = mo_fst (mo_is p k o) nk (d + 1) (i + 1) (mo_tick τ nk) := by
          show (if mo_is p k o τ = true then _ else _) = _
          rw [h, if_neg (by decide), if_pos h5]
        rw [e]
        obtain ⟨M2, r2, f2⟩ := f1.tick (X := X) v1
        obtain ⟨n', v2⟩ := tick_vs v1 h5
        obtain ⟨M', h', f'⟩ := ih (i + 1) M2 _ _ (by omega) f2 v2
        rw [← mi_s] at h'
        exact ⟨M', t_248_7 f1.1.1 _ _ _ _ _ (mb_n c0 ⟨0, ⟨rfl, rfl⟩, mb_n (by rw [e0]; exact mb_le.mpr h5) ⟨_, M1, f1.1.1, s, mb_y rfl ⟨M2, f2.1.1, r2, h'⟩⟩⟩), f'⟩
      · have e : mo_fst (mo_is p k o) nk (d + 1 + 1) i τ = (-1) := by
          show (if mo_is p k o τ = true then _ else _) = _
          rw [h, if_neg (by decide), if_neg h5]
        rw [e]
        obtain ⟨M2, r2, f2⟩ := f1.back (X := X) (-1)
        exact ⟨M2, t_248_7 f1.1.1 _ _ _ _ _ (mb_n c0 ⟨0, ⟨rfl, rfl⟩, mb_y (by rw [e0]; exact mb_lt.mp h5) ⟨_, M1, f1.1.1, s, mb_y rfl ⟨_, M2, f2.1.1, r2, rfl⟩⟩⟩), f2⟩
    · rw [fst_y h]
      rw [h] at s
      obtain ⟨M2, r2, f2⟩ := f1.back (X := X) (nI i)
      by_cases h5 : τ 0 < 5000
      · exact ⟨M2, t_248_7 f1.1.1 _ _ _ _ _ (mb_n c0 ⟨0, ⟨rfl, rfl⟩, mb_n (by rw [e0]; exact mb_le.mpr h5) ⟨_, M1, f1.1.1, s, mb_n (by decide) ⟨_, M1, f1.1.1, s, mb_n (by decide) ⟨_, M2, f2.1.1, r2, rfl⟩⟩⟩⟩), f2⟩
      · exact ⟨M2, t_248_7 f1.1.1 _ _ _ _ _ (mb_n c0 ⟨0, ⟨rfl, rfl⟩, mb_y (by rw [e0]; exact mb_lt.mp h5) ⟨_, M1, f1.1.1, s, mb_n (by decide) ⟨_, M2, f2.1.1, r2, rfl⟩⟩⟩), f2⟩
/-- a forecast after what was told: what it leaves -/
theorem fc_fin {N : ak_M} (F : fr mo_q1 M N) (h0 : ak_I N 483 0 = 0) (f : fr mo_fb N M1) : fr mo_fc M M1 ∧ ak_I M1 483 0 = 0 := by
  refine ⟨(F.mo fun _ _ h => Or.inl h).tr (f.mo fun p k h => ?_), ?_⟩
  · rcases h with h | h
    · exact Or.inl (pq_q1 h)
    · exact Or.inr h
  · rw [f.2.1 483 0 (fun e => by unfold mo_fb mo_pq at e; omega)]
    exact h0
theorem q1_fc {p k : Nat} (h : mo_q1 p k) : mo_fc p k := Or.inl h
theorem cm_249 (hL : ab_lay M) (hv : vs (ro M) nk nw ne) (x t : Int32) : cm mo_fc X 249 [.int x, .int t] M (cdI 0) (sp_120 (ro M) nk x t) ∧ cm mo_fc X 252 [.int x, .int t] M (cdI 0) (sp_123 (ro M) nk x t) := by
  have h10 := hv.1.1
  have l1 := to_L hL 0
  have l2 := to_L l1 0
  unfold sp_120 sp_123
  by_cases h0 : mo_isK (ro M) x = true
  · rw [if_pos h0, if_pos h0]
    by_cases h2 : in32 t 1 100 = true
    · rw [if_pos h2, if_pos h2]
      obtain ⟨k, hk, rfl⟩ := (isK_of hv.1).mp h0
      obtain ⟨m, hm1, hm, rfl⟩ := in_100 h2
      rw [kN_n (by omega), kN_n (by omega)]
      have F := (to_f hL 0).tr (to_f l1 0)
      have v2 : vs (ro (to (to M 0) 0)) nk nw ne := by rw [to_r, to_r]; exact hv
      obtain ⟨M1, r1, f1⟩ := sm_248 (X := X) l2 v2 (k := k) (o := k) (p := 0) (t := m) (by omega) (by omega) (by decide) (by omega)
      obtain ⟨M2, r2, f2⟩ := sm_248 (X := X) l2 v2 (k := k) (o := k) (p := 1) (t := m) (by omega) (by omega) (by decide) (by omega)
      have q1 := fc_fin F (to_0 _) f1.fb
      have q2 := fc_fin F (to_0 _) f2.fb
      rw [to_r, to_r] at r1 r2
      exact ⟨cm_v (t_249 hL _ _ ⟨_, M, hL, sm_169 hL, _, _, l1, sm_155y hL h0, mb_n (by1 h0) ⟨_, _, l1, sm_245 l1, _, _, l2, sm_156y l1 h2, mb_n (by1 h2) ⟨_, M1, f1.1.1, r1, rfl⟩⟩⟩) q1.1 q1.2, cm_v (t_252 hL _ _ ⟨_, M, hL, sm_169 hL, _, _, l1, sm_155y hL h0, mb_n (by1 h0) ⟨_, _, l1, sm_245 l1, _, _, l2, sm_156y l1 h2, mb_n (by1 h2) ⟨_, M2, f2.1.1, r2, rfl⟩⟩⟩) q2.1 q2.2⟩
    · rw [if_neg h2, if_neg h2]
      have F := ((to_f hL 0).tr (to_f l1 2)).mo fun _ _ => q1_fc
      exact ⟨cm_e (t_249 hL _ _ ⟨_, M, hL, sm_169 hL, _, _, l1, sm_155y hL h0, mb_n (by1 h0) ⟨_, _, l1, sm_245 l1, _, _, to_L l1 2, sm_156n l1 h2, mb_y (bn1 h2) rfl⟩⟩) F (to_0 _), cm_e (t_252 hL _ _ ⟨_, M, hL, sm_169 hL, _, _, l1, sm_155y hL h0, mb_n (by1 h0) ⟨_, _, l1, sm_245 l1, _, _, to_L l1 2, sm_156n l1 h2, mb_y (bn1 h2) rfl⟩⟩) F (to_0 _)⟩
  · rw [if_neg h0, if_neg h0]
    have F := (to_f hL 1).mo fun _ _ => q1_fc
    exact ⟨cm_e (t_249 hL _ _ ⟨_, M, hL, sm_169 hL, _, _, to_L hL 1, sm_155n hL h0, mb_y (bn1 h0) rfl⟩) F (to_0 _), cm_e (t_252 hL _ _ ⟨_, M, hL, sm_169 hL, _, _, to_L hL 1, sm_155n hL h0, mb_y (bn1 h0) rfl⟩) F (to_0 _)⟩
theorem cm_250 (hL : ab_lay M) (hv : vs (ro M) nk nw ne) (x y t : Int32) : cm mo_fc X 250 [.int x, .int y, .int t] M (cdI 0) (sp_121 (ro M) nk x y t) ∧ cm mo_fc X 253 [.int x, .int y, .int t] M (cdI 0) (sp_124 (ro M) nk x y t) := by
  have h10 := hv.1.1
  have l1 := to_L hL 0
  have l2 := to_L l1 0
  have no : ¬ (mo_isK (ro M) x && mo_isK (ro M) y) = true → cm mo_fc X 250 [.int x, .int y, .int t] M (cdI 0) (.inr 0) ∧ cm mo_fc X 253 [.int x, .int y, .int t] M (cdI 0) (.inr 0) := fun h => ⟨cm_e (t_250 hL _ _ _ ⟨_, M, hL, sm_170 hL, _, _, to_L hL 1, sm_155n hL h, mb_y (bn1 h) rfl⟩) ((to_f hL 1).mo fun _ _ => q1_fc) (to_0 _), cm_e (t_253 hL _ _ _ ⟨_, M, hL, sm_170 hL, _, _, to_L hL 1, sm_155n hL h, mb_y (bn1 h) rfl⟩) ((to_f hL 1).mo fun _ _ => q1_fc) (to_0 _)⟩
  unfold sp_121 sp_124
  by_cases h0 : mo_isK (ro M) x = true
  · rw [if_pos h0, if_pos h0]
    by_cases h1 : mo_isK (ro M) y = true
    · rw [if_pos h1, if_pos h1]
      have hh : (mo_isK (ro M) x && mo_isK (ro M) y) = true := and_2.mpr ⟨h0, h1⟩
      by_cases h2 : in32 t 1 100 = true
      · rw [if_pos h2, if_pos h2]
        obtain ⟨k, hk, rfl⟩ := (isK_of hv.1).mp h0
        obtain ⟨j, hj, rfl⟩ := (isK_of hv.1).mp h1
        obtain ⟨m, hm1, hm, rfl⟩ := in_100 h2
        rw [kN_n (by omega), kN_n (by omega), kN_n (by omega)]
        have F := (to_f hL 0).tr (to_f l1 0)
        have v2 : vs (ro (to (to M 0) 0)) nk nw ne := by rw [to_r, to_r]; exact hv
        obtain ⟨M1, r1, f1⟩ := sm_248 (X := X) l2 v2 (k := k) (o := j) (p := 2) (t := m) (by omega) (by omega) (by decide) (by omega)
        obtain ⟨M2, r2, f2⟩ := sm_248 (X := X) l2 v2 (k := k) (o := k) (p := 0) (t := m) (by omega) (by omega) (by decide) (by omega)
        have v3 : vs (ro M2) nk nw ne := by rw [f2.2.2.1]; exact v2
        obtain ⟨M3, r3, f3⟩ := sm_248 (X := X) f2.1.1 v3 (k := j) (o := j) (p := 0) (t := m) (by omega) (by omega) (by decide) (by omega)
        have q1 := fc_fin F (to_0 _) f1.fb
        have q3 := fc_fin F (to_0 _) (f2.fb.tr f3.fb)
        rw [f2.2.2.1] at r3
        rw [to_r, to_r] at r1 r2 r3
        refine ⟨cm_v (t_250 hL _ _ _ ⟨_, M, hL, sm_170 hL, _, _, l1, sm_155y hL hh, mb_n (by1 hh) ⟨_, _, l1, sm_245 l1, _, _, l2, sm_156y l1 h2, mb_n (by1 h2) ⟨_, M1, f1.1.1, r1, rfl⟩⟩⟩) q1.1 q1.2, cm_v (t_253 hL _ _ _ ⟨_, M, hL, sm_170 hL, _, _, l1, sm_155y hL hh, mb_n (by1 hh) ⟨_, _, l1, sm_245 l1, _, _, l2, sm_156y l1 h2, mb_n (by1 h2) ⟨_, M2, f2.1.1, r2, _, M3, f3.1.1, r3, ?_⟩⟩⟩) q3.1 q3.2⟩
        generalize mo_fst (mo_is 0 k k) nk (m + 1) 0 (ro M) = a
        generalize mo_fst (mo_is 0 j j) nk (m + 1) 0 (ro M) = b
        by_cases d1 : a = b
        · have e : mo_dv (nI k) (nI j) a b = (-1) := by unfold mo_dv; rw [if_pos d1]
          rw [e]; exact mb_y d1 rfl
        · refine mb_n d1 ?_
          by_cases d2 : b = (-1)
          · have e : mo_dv (nI k) (nI j) a b = nI k := by unfold mo_dv; rw [if_neg d1, if_pos d2]
            rw [e]; exact mb_y d2 rfl
          · refine mb_n d2 ?_
            by_cases d3 : a = (-1)
            · have e : mo_dv (nI k) (nI j) a b = nI j := by unfold mo_dv; rw [if_neg d1, if_neg d2, if_pos d3]
              rw [e]; exact mb_y d3 rfl
            · refine mb_n d3 ?_
              by_cases d4 : b ≤ a
              · have e : mo_dv (nI k) (nI j) a b = nI j := by unfold mo_dv; rw [if_neg d1, if_neg d2, if_neg d3, if_pos d4]
                rw [e]; exact mb_y d4 rfl
              · have e : mo_dv (nI k) (nI j) a b = nI k := by unfold mo_dv; rw [if_neg d1, if_neg d2, if_neg d3, if_neg d4]
                rw [e]; exact mb_n d4 rfl
      · rw [if_neg h2, if_neg h2]
        have F := ((to_f hL 0).tr (to_f l1 2)).mo fun _ _ => q1_fc
        exact ⟨cm_e (t_250 hL _ _ _ ⟨_, M, hL, sm_170 hL, _, _, l1, sm_155y hL hh, mb_n (by1 hh) ⟨_, _, l1, sm_245 l1, _, _, to_L l1 2, sm_156n l1 h2, mb_y (bn1 h2) rfl⟩⟩) F (to_0 _), cm_e (t_253 hL _ _ _ ⟨_, M, hL, sm_170 hL, _, _, l1, sm_155y hL hh, mb_n (by1 hh) ⟨_, _, l1, sm_245 l1, _, _, to_L l1 2, sm_156n l1 h2, mb_y (bn1 h2) rfl⟩⟩) F (to_0 _)⟩
    · rw [if_neg h1, if_neg h1]
      exact no (fun e => h1 (and_2.mp e).2)
  · rw [if_neg h0, if_neg h0]
    exact no (fun e => h0 (and_2.mp e).1)
end SMF
