/-! the model's questions -/
def to (M : ak_M) (c : Int32) : ak_M := ak_sI M 483 0 c
def mo_q1 (p k : Nat) : Prop := p = 483 ∧ (k = 0 ∨ k = 9 ∨ k = 10)
theorem pq_q1 {p k : Nat} (h : mo_pq p k) : mo_q1 p k := ⟨h.1, Or.inr h.2⟩
theorem q1_ro : ∀ k, ¬ mo_q1 484 k := fun _ h => absurd h.1 (by decide)
theorem q1_r {p : Nat} (h : p ≠ 483) : ∀ k, ¬ mo_q1 p k := fun _ e => h e.1
/-- what the model tells of what was thrown -/
def tc (cd : Nat → Int32) (o : Int32 ⊕ Nat) : Int32 := match o with | .inl _ => 0 | .inr E => cd E
/-- the first of the exceptions told has the code 1, another one 2 -/
def cdI (a : Nat) (E : Nat) : Int32 := if E = a then 1 else 2
/-- a call of the model: what it comes to -/
def cm (S : Nat → Nat → Prop) (X : ak_X) (k : Nat) (as : List Value) (M : ak_M) (cd : Nat → Int32) (o : Int32 ⊕ Nat) : Prop := ∃ M' v, rn X k (.ref 483 :: as) M (.inl (some (.int v)), M') ∧ fr S M M' ∧ ak_I M' 483 0 = tc cd o ∧ ∀ w, o = .inl w → v = w
section SMQ
variable {X : ak_X} {M : ak_M} {nk nw ne : Nat} {σ : Nat → Int32}
theorem to_f (hL : ab_lay M) (c : Int32) : fr mo_q1 M (to M c) := (fr.rf hL).st ⟨rfl, Or.inl rfl⟩
theorem to_r (c : Int32) : ro (to M c) = ro M := mb_sIr (by decide)
theorem to_0 (c : Int32) : ak_I (to M c) 483 0 = c := mb_sIs
theorem to_L (hL : ab_lay M) (c : Int32) : ab_lay (to M c) := hL.sI
/-- with the answer and what was told last -/
theorem cm_v {S : Nat → Nat → Prop} {k : Nat} {as : List Value} {cd : Nat → Int32} {M' : ak_M} {w : Int32} (h : rn X k (.ref 483 :: as) M (.inl (some (.int w)), M')) (f : fr S M M') (t : ak_I M' 483 0 = 0) : cm S X k as M cd (.inl w) := ⟨M', w, h, f, t, fun _ e => by cases e; rfl⟩
theorem cm_e {S : Nat → Nat → Prop} {k : Nat} {as : List Value} {cd : Nat → Int32} {M' : ak_M} {E : Nat} {w : Int32} (h : rn X k (.ref 483 :: as) M (.inl (some (.int w)), M')) (f : fr S M M') (t : ak_I M' 483 0 = cd E) : cm S X k as M cd (.inr E) := ⟨M', w, h, f, t, fun _ e => by cases e⟩
theorem sm_155y (hL : ab_lay M) {b : Bool} (h : b = true) : rn X 155 [.ref 483, .int (bI b)] M (.inl (some (.int (bI b))), to M 0) := by
  subst h
  exact t_155 hL _ (mb_n (by decide) fun N e => ⟨Or.inr rfl, by rw [e]; rfl⟩)
theorem sm_155n (hL : ab_lay M) {b : Bool} (h : ¬ b = true) : rn X 155 [.ref 483, .int (bI b)] M (.inl (some (.int (bI b))), to M 1) := by
  rw [bf h]
  exact t_155 hL _ (mb_y rfl fun N e => ⟨Or.inl rfl, by rw [e]; rfl⟩)
theorem sm_156y (hL : ab_lay M) {b : Bool} {c : Int32} (h : b = true) : rn X 156 [.ref 483, .int (bI b), .int c] M (.inl (some (.int (bI b))), to M 0) := by
  subst h
  exact t_156 hL _ _ (mb_n (by decide) fun N e => ⟨Or.inr rfl, by rw [e]; rfl⟩)
theorem sm_156n (hL : ab_lay M) {b : Bool} {c : Int32} (h : ¬ b = true) : rn X 156 [.ref 483, .int (bI b), .int c] M (.inl (some (.int (bI b))), to M c) := by
  rw [bf h]
  exact t_156 hL _ _ (mb_y rfl fun N e => ⟨Or.inl rfl, by rw [e]; rfl⟩)
theorem sm_217 (hL : ab_lay M) {x : Int32} : rn X 217 [.int x] M (.inl (some (.int (bI (in32 x 0 13)))), M) := t_217 hL _ ⟨_, M, hL, jm_in32 (by rfl) (by rfl), bI_01 _, rfl⟩
theorem by1 {b : Bool} (h : b = true) : ¬ bI b = 0 := by rw [h]; decide
theorem bn1 {b : Bool} (h : ¬ b = true) : bI b = 0 := by rw [bf h]; rfl
/-- kite -/
theorem cm_218 (hL : ab_lay M) (hσ : ro M = σ) (hv : vs σ nk nw ne) (x w : Int32) : cm mo_q1 X 218 [.int x, .int w] M (cdI 0) (sp_95 σ x w) := by
  subst hσ
  have hc := hv.1
  have h10 := hc.1
  have l1 := to_L hL 0
  unfold sp_95
  by_cases h0 : mo_isK (ro M) x = true
  · rw [if_pos h0]
    by_cases h1 : in32 w 0 13 = true
    · rw [if_pos h1]
      obtain ⟨k, hk, rfl⟩ := (isK_of hc).mp h0
      obtain ⟨j, hj, rfl⟩ := (in_n (a := 13) (by decide)).mp h1
      rw [kN_n (by omega), kN_n (by omega)]
      have s := sm_171 (X := X) (M := to (to M 0) 0) (to_L l1 0) (k := k) (w := j) (by omega) (by omega)
      rw [to_r, to_r] at s
      exact cm_v (t_218 hL _ _ ⟨_, M, hL, sm_169 hL, _, _, l1, sm_155y hL h0, mb_n (by1 h0) ⟨_, _, l1, sm_217 l1, _, _, to_L l1 0, sm_156y l1 h1, mb_n (by1 h1) ⟨_, _, to_L l1 0, s, rfl⟩⟩⟩) ((to_f hL 0).tr (to_f l1 0)) (to_0 _)
    · rw [if_neg h1]
      exact cm_e (t_218 hL _ _ ⟨_, M, hL, sm_169 hL, _, _, l1, sm_155y hL h0, mb_n (by1 h0) ⟨_, _, l1, sm_217 l1, _, _, to_L l1 2, sm_156n l1 h1, mb_y (bn1 h1) rfl⟩⟩) ((to_f hL 0).tr (to_f l1 2)) (to_0 _)
  · rw [if_neg h0]
    exact cm_e (t_218 hL _ _ ⟨_, M, hL, sm_169 hL, _, _, to_L hL 1, sm_155n hL h0, mb_y (bn1 h0) rfl⟩) (to_f hL 1) (to_0 _)
/-- wind -/
theorem cm_219 (hL : ab_lay M) (hσ : ro M = σ) (hv : vs σ nk nw ne) (x w : Int32) : cm mo_q1 X 219 [.int x, .int w] M (cdI 0) (sp_96 σ x w) := by
  subst hσ
  have hc := hv.1
  have h4 := hc.2.1.2
  have l1 := to_L hL 0
  have s0 := jm_in32 (X := X) (M := M) (x := x) (a := 0) (b := ro M 2 - 1) (p := 0) (q := (ro M 2 - 1).toInt64) rfl rfl
  unfold sp_96
  by_cases h0 : in32 x 0 (ro M 2 - 1) = true
  · rw [if_pos h0]
    by_cases h1 : in32 w 0 3 = true
    · rw [if_pos h1]
      obtain ⟨k, hk, rfl⟩ := (isW_of hc).mp h0
      obtain ⟨j, hj, rfl⟩ := (in_n (a := 3) (by decide)).mp h1
      rw [kN_n (by omega), kN_n (by omega)]
      refine cm_v (M' := to (to M 0) 0) (t_219 hL _ _ ⟨2, ⟨rfl, rfl⟩, _, M, hL, s0, _, _, l1, sm_155y hL h0, mb_n (by1 h0) ⟨_, _, l1, jm_in32 (by rfl) (by rfl), _, _, to_L l1 0, sm_156y l1 h1, mb_n (by1 h1) ?_⟩⟩) ((to_f hL 0).tr (to_f l1 0)) (to_0 _)
      by_cases hj3 : j = 3
      · rw [if_pos hj3]
        have s := sm_179 (X := X) (M := to (to M 0) 0) (to_L l1 0) (k := k) (by omega)
        rw [to_r, to_r] at s
        exact mb_y (by rw [hj3]; rfl) ⟨_, _, to_L l1 0, s, rfl⟩
      · rw [if_neg hj3]
        have s := sm_177 (X := X) (M := to (to M 0) 0) (to_L l1 0) (k := k) (w := j) (by omega) (by omega)
        rw [to_r, to_r] at s
        exact mb_n (by rw [show (3 : Int32) = nI 3 from rfl, mi_eq (by omega) (by decide)]; exact hj3) ⟨_, _, to_L l1 0, s, rfl⟩
    · rw [if_neg h1]
      exact cm_e (t_219 hL _ _ ⟨2, ⟨rfl, rfl⟩, _, M, hL, s0, _, _, l1, sm_155y hL h0, mb_n (by1 h0) ⟨_, _, l1, jm_in32 (by rfl) (by rfl), _, _, to_L l1 2, sm_156n l1 h1, mb_y (bn1 h1) rfl⟩⟩) ((to_f hL 0).tr (to_f l1 2)) (to_0 _)
  · rw [if_neg h0]
    exact cm_e (t_219 hL _ _ ⟨2, ⟨rfl, rfl⟩, _, M, hL, s0, _, _, to_L hL 1, sm_155n hL h0, mb_y (bn1 h0) rfl⟩) (to_f hL 1) (to_0 _)
/-- windAt -/
theorem cm_220 (hL : ab_lay M) (hσ : ro M = σ) (hv : vs σ nk nw ne) (x : Int32) : cm mo_q1 X 220 [.int x] M (cdI 1) (sp_97 σ nw x) := by
  subst hσ
  have l1 := to_L hL 0
  unfold sp_97
  by_cases h1 : in32 x 0 300 = true
  · rw [if_pos h1]
    have s := sm_178 (X := X) (M := to M 0) l1 (nk := nk) (nw := nw) (ne := ne) (by rw [to_r]; exact hv.1) (h := x)
    rw [to_r] at s
    exact cm_v (t_220 hL _ ⟨_, M, hL, jm_in32 (by rfl) (by rfl), _, _, l1, sm_155y hL h1, mb_n (by1 h1) ⟨_, _, l1, s, rfl⟩⟩) (to_f hL 0) (to_0 _)
  · rw [if_neg h1]
    exact cm_e (t_220 hL _ ⟨_, M, hL, jm_in32 (by rfl) (by rfl), _, _, to_L hL 1, sm_155n hL h1, mb_y (bn1 h1) rfl⟩) (to_f hL 1) (to_0 _)
/-- span -/
theorem cm_221 (hL : ab_lay M) (hσ : ro M = σ) (hv : vs σ nk nw ne) (x : Int32) : cm mo_q1 X 221 [.int x] M (cdI 0) (sp_98 σ x) := by
  subst hσ
  have hc := hv.1
  have h10 := hc.1
  have l1 := to_L hL 0
  unfold sp_98
  by_cases h0 : mo_isK (ro M) x = true
  · rw [if_pos h0]
    obtain ⟨k, hk, rfl⟩ := (isK_of hc).mp h0
    rw [kN_n (by omega)]
    have s := sm_175 (X := X) (M := to M 0) l1 (k := k) (by omega)
    rw [to_r] at s
    by_cases hf : mo_fly (ro M) k = true
    · rw [if_pos hf]
      have s2 := sm_184 (X := X) (M := to M 0) l1 (k := k) (by omega) (by rw [to_r]; exact hv.kp hk)
      rw [to_r] at s2
      exact cm_v (t_221 hL _ ⟨_, M, hL, sm_169 hL, _, _, l1, sm_155y hL h0, mb_n (by1 h0) ⟨_, _, l1, s, mb_n (by1 hf) ⟨_, _, l1, s2, rfl⟩⟩⟩) (to_f hL 0) (to_0 _)
    · rw [if_neg hf]
      exact cm_v (t_221 hL _ ⟨_, M, hL, sm_169 hL, _, _, l1, sm_155y hL h0, mb_n (by1 h0) ⟨_, _, l1, s, mb_y (bn1 hf) rfl⟩⟩) (to_f hL 0) (to_0 _)
  · rw [if_neg h0]
    exact cm_e (t_221 hL _ ⟨_, M, hL, sm_169 hL, _, _, to_L hL 1, sm_155n hL h0, mb_y (bn1 h0) rfl⟩) (to_f hL 1) (to_0 _)
/-- slack -/
theorem cm_222 (hL : ab_lay M) (hσ : ro M = σ) (hv : vs σ nk nw ne) (x : Int32) : cm mo_q1 X 222 [.int x] M (cdI 0) (sp_99 σ x) := by
  subst hσ
  have hc := hv.1
  have h10 := hc.1
  have l1 := to_L hL 0
  unfold sp_99
  by_cases h0 : mo_isK (ro M) x = true
  · rw [if_pos h0]
    obtain ⟨k, hk, rfl⟩ := (isK_of hc).mp h0
    rw [kN_n (by omega)]
    have s := sm_175 (X := X) (M := to M 0) l1 (k := k) (by omega)
    rw [to_r] at s
    by_cases hf : mo_fly (ro M) k = true
    · rw [if_pos hf]
      have s2 := sm_185 (X := X) (M := to (to M 0) 0) (to_L l1 0) (k := k) (by omega) (by rw [to_r, to_r]; exact hv.kp hk)
      rw [to_r, to_r] at s2
      exact cm_v (t_222 hL _ ⟨_, M, hL, sm_169 hL, _, _, l1, sm_155y hL h0, mb_n (by1 h0) ⟨_, _, l1, s, _, _, to_L l1 0, sm_156y l1 hf, mb_n (by1 hf) ⟨_, _, to_L l1 0, s2, rfl⟩⟩⟩) ((to_f hL 0).tr (to_f l1 0)) (to_0 _)
    · rw [if_neg hf]
      exact cm_e (t_222 hL _ ⟨_, M, hL, sm_169 hL, _, _, l1, sm_155y hL h0, mb_n (by1 h0) ⟨_, _, l1, s, _, _, to_L l1 2, sm_156n l1 hf, mb_y (bn1 hf) rfl⟩⟩) ((to_f hL 0).tr (to_f l1 2)) (to_0 _)
  · rw [if_neg h0]
    exact cm_e (t_222 hL _ ⟨_, M, hL, sm_169 hL, _, _, to_L hL 1, sm_155n hL h0, mb_y (bn1 h0) rfl⟩) (to_f hL 1) (to_0 _)
theorem and_2 {a b : Bool} : (a && b) = true ↔ a = true ∧ b = true := by rw [Bool.and_eq_true]
/-- crosses -/
theorem cm_223 (hL : ab_lay M) (hσ : ro M = σ) (hv : vs σ nk nw ne) (x y : Int32) : cm mo_q1 X 223 [.int x, .int y] M (cdI 0) (sp_100 σ x y) := by
  subst hσ
  have hc := hv.1
  have h10 := hc.1
  have l1 := to_L hL 0
  have no : ¬ (mo_isK (ro M) x && mo_isK (ro M) y) = true → cm mo_q1 X 223 [.int x, .int y] M (cdI 0) (.inr 0) := fun h => cm_e (t_223 hL _ _ ⟨_, M, hL, sm_170 hL, _, _, to_L hL 1, sm_155n hL h, mb_y (bn1 h) rfl⟩) (to_f hL 1) (to_0 _)
  unfold sp_100
  by_cases h0 : mo_isK (ro M) x = true
  · rw [if_pos h0]
    by_cases h1 : mo_isK (ro M) y = true
    · rw [if_pos h1]
      have hh : (mo_isK (ro M) x && mo_isK (ro M) y) = true := and_2.mpr ⟨h0, h1⟩
      obtain ⟨k, hk, rfl⟩ := (isK_of hc).mp h0
      obtain ⟨j, hj, rfl⟩ := (isK_of hc).mp h1
      rw [kN_n (by omega), kN_n (by omega)]
      have s := sm_192 (X := X) (M := to M 0) l1 (k := k) (o := j) (by omega) (by omega)
      rw [to_r] at s
      refine cm_v (t_223 hL _ _ ⟨_, M, hL, sm_170 hL, _, _, l1, sm_155y hL hh, mb_n (by1 hh) ⟨_, _, l1, s, ?_⟩⟩) (to_f hL 0) (to_0 _)
      cases mo_cross (ro M) k j
      · exact mb_y rfl rfl
      · exact mb_n (by decide) rfl
    · rw [if_neg h1]
      exact no (fun e => h1 (and_2.mp e).2)
  · rw [if_neg h0]
    exact no (fun e => h0 (and_2.mp e).1)
/-- crossing -/
theorem cm_224 (hL : ab_lay M) (hσ : ro M = σ) (hv : vs σ nk nw ne) (x y w : Int32) : cm mo_q1 X 224 [.int x, .int y, .int w] M (cdI 0) (sp_101 σ x y w) := by
  subst hσ
  have hc := hv.1
  have h10 := hc.1
  have l1 := to_L hL 0
  have l2 := to_L l1 0
  have no : ¬ (mo_isK (ro M) x && mo_isK (ro M) y) = true → cm mo_q1 X 224 [.int x, .int y, .int w] M (cdI 0) (.inr 0) := fun h => cm_e (t_224 hL _ _ _ ⟨_, M, hL, sm_170 hL, _, _, to_L hL 1, sm_155n hL h, mb_y (bn1 h) rfl⟩) (to_f hL 1) (to_0 _)
  unfold sp_101
  by_cases h0 : mo_isK (ro M) x = true
  · rw [if_pos h0]
    by_cases h1 : mo_isK (ro M) y = true
    · rw [if_pos h1]
      have hh : (mo_isK (ro M) x && mo_isK (ro M) y) = true := and_2.mpr ⟨h0, h1⟩
      by_cases h2 : in32 w 0 4 = true
      · rw [if_pos h2]
        obtain ⟨k, hk, rfl⟩ := (isK_of hc).mp h0
        obtain ⟨j, hj, rfl⟩ := (isK_of hc).mp h1
        have hk10 : k < 10 := by omega
        have hj10 : j < 10 := by omega
        rw [kN_n (by omega), kN_n (by omega)]
        have F := (to_f hL 0).tr (to_f l1 0)
        have s := sm_192 (X := X) (M := to (to M 0) 0) l2 (k := k) (o := j) hk10 hj10
        rw [to_r, to_r] at s
        have kk : kp (ro (to (to M 0) 0)) k := by rw [to_r, to_r]; exact hv.kp hk
        have kj : kp (ro (to (to M 0) 0)) j := by rw [to_r, to_r]; exact hv.kp hj
        have head : ∀ {r}, (if bI (mo_cross (ro M) k j) = 0 then r = (.inl (some (.int ((-1)))), to (to M 0) 0) else (if w = 0 then (∃ (v12 : Int32) (M11 : ak_M), ab_lay M11 ∧ rn X 197 [.ref 483, .int (nI k), .int (nI j)] (to (to M 0) 0) (.inl (some (.int v12)), M11) ∧ r = (.inl (some (.int v12)), M11)) else (if w = 1 then (∃ (v15 : Int32) (M14 : ak_M), ab_lay M14 ∧ rn X 198 [.ref 483, .int (nI k), .int (nI j)] (to (to M 0) 0) (.inl (some (.int v15)), M14) ∧ r = (.inl (some (.int v15)), M14)) else (if w = 2 then (∃ (v18 : Int32) (M17 : ak_M), ab_lay M17 ∧ rn X 194 [.ref 483, .int (nI k), .int (nI j)] (to (to M 0) 0) (.inl (some (.int v18)), M17) ∧ r = (.inl (some (.int v18)), M17)) else (if w = 3 then (∃ (v21 : Int32) (M20 : ak_M), ab_lay M20 ∧ rn X 194 [.ref 483, .int (nI j), .int (nI k)] (to (to M 0) 0) (.inl (some (.int v21)), M20) ∧ r = (.inl (some (.int v21)), M20)) else (∃ (v24 : Int32) (M23 : ak_M), ab_lay M23 ∧ rn X 195 [.ref 483, .int (nI k), .int (nI j)] (to (to M 0) 0) (.inl (some (.int v24)), M23) ∧ r = (.inl (some (.int v24)), M23))))))) → rn X 224 [.ref 483, .int (nI k), .int (nI j), .int w] M r :=
          fun h => t_224 hL _ _ _ ⟨_, M, hL, sm_170 hL, _, _, l1, sm_155y hL hh, mb_n (by1 hh) ⟨_, _, l1, jm_in32 (by rfl) (by rfl), _, _, l2, sm_156y l1 h2, mb_n (by1 h2) ⟨_, _, l2, s, h⟩⟩⟩
        by_cases hcr : mo_cross (ro M) k j = true
        · have hcr' : mo_cross (ro (to (to M 0) 0)) k j = true := by rw [to_r, to_r]; exact hcr
          have fin : ∀ {M'}, fr mo_pq (to (to M 0) 0) M' → fr mo_q1 M M' ∧ ak_I M' 483 0 = 0 := fun f => ⟨F.tr (f.mo fun _ _ => pq_q1), by rw [f.2.1 483 0 (fun e => by rcases e.2 with e | e <;> cases e)]; exact to_0 _⟩
          by_cases d0 : w = 0
          · have e : sp_101v (ro M) k j w = mo_cX (ro M) k j := by unfold sp_101v; rw [if_pos hcr, if_pos d0]
            obtain ⟨M', r', f'⟩ := sm_197 (X := X) l2 hk10 hj10 kk kj hcr'
            rw [to_r, to_r] at r'
            rw [e]
            exact cm_v (head (mb_n (by1 hcr) (mb_y d0 ⟨_, M', f'.1, r', rfl⟩))) (fin f').1 (fin f').2
          by_cases d1 : w = 1
          · have e : sp_101v (ro M) k j w = mo_cY (ro M) k j := by unfold sp_101v; rw [if_pos hcr, if_neg d0, if_pos d1]
            obtain ⟨M', r', f'⟩ := sm_198 (X := X) l2 hk10 hj10 kk kj hcr'
            rw [to_r, to_r] at r'
            rw [e]
            exact cm_v (head (mb_n (by1 hcr) (mb_n d0 (mb_y d1 ⟨_, M', f'.1, r', rfl⟩)))) (fin f').1 (fin f').2
          by_cases d2 : w = 2
          · have e : sp_101v (ro M) k j w = mo_high (ro M) k j := by unfold sp_101v; rw [if_pos hcr, if_neg d0, if_neg d1, if_pos d2]
            obtain ⟨M', r', f'⟩ := sm_194 (X := X) l2 hk10 hj10 kk kj hcr'
            rw [to_r, to_r] at r'
            rw [e]
            exact cm_v (head (mb_n (by1 hcr) (mb_n d0 (mb_n d1 (mb_y d2 ⟨_, M', f'.1, r', rfl⟩))))) (fin f').1 (fin f').2
          by_cases d3 : w = 3
          · have e : sp_101v (ro M) k j w = mo_high (ro M) j k := by unfold sp_101v; rw [if_pos hcr, if_neg d0, if_neg d1, if_neg d2, if_pos d3]
            obtain ⟨M', r', f'⟩ := sm_194 (X := X) l2 hj10 hk10 kj kk (by rw [cross_s kk kj]; exact hcr')
            rw [to_r, to_r] at r'
            rw [e]
            exact cm_v (head (mb_n (by1 hcr) (mb_n d0 (mb_n d1 (mb_n d2 (mb_y d3 ⟨_, M', f'.1, r', rfl⟩)))))) (fin f').1 (fin f').2
          · have e : sp_101v (ro M) k j w = mo_apart (ro M) k j := by unfold sp_101v; rw [if_pos hcr, if_neg d0, if_neg d1, if_neg d2, if_neg d3]
            obtain ⟨M', r', f'⟩ := sm_195 (X := X) l2 hk10 hj10 kk kj hcr'
            rw [to_r, to_r] at r'
            rw [e]
            exact cm_v (head (mb_n (by1 hcr) (mb_n d0 (mb_n d1 (mb_n d2 (mb_n d3 ⟨_, M', f'.1, r', rfl⟩)))))) (fin f').1 (fin f').2
        · have e : sp_101v (ro M) k j w = (-1) := by unfold sp_101v; rw [if_neg hcr]
          rw [e]
          exact cm_v (head (mb_y (bn1 hcr) rfl)) F (to_0 _)
      · rw [if_neg h2]
        exact cm_e (t_224 hL _ _ _ ⟨_, M, hL, sm_170 hL, _, _, l1, sm_155y hL hh, mb_n (by1 hh) ⟨_, _, l1, jm_in32 (by rfl) (by rfl), _, _, to_L l1 2, sm_156n l1 h2, mb_y (bn1 h2) rfl⟩⟩) ((to_f hL 0).tr (to_f l1 2)) (to_0 _)
    · rw [if_neg h1]
      exact no (fun e => h1 (and_2.mp e).2)
  · rw [if_neg h0]
    exact no (fun e => h0 (and_2.mp e).1)
/-- rubs -/
theorem cm_225 (hL : ab_lay M) (hσ : ro M = σ) (hv : vs σ nk nw ne) (x : Int32) : cm mo_q1 X 225 [.int x] M (cdI 0) (sp_102 σ nk x) := by
  subst hσ
  have hc := hv.1
  have h10 := hc.1
  have l1 := to_L hL 0
  unfold sp_102
  by_cases h0 : mo_isK (ro M) x = true
  · rw [if_pos h0]
    obtain ⟨k, hk, rfl⟩ := (isK_of hc).mp h0
    have hk10 : k < 10 := by omega
    rw [kN_n (by omega)]
    have H : ∀ i, i ≤ nk → ∀ M1, fr mo_pq (to M 0) M1 → ∃ M', sg X 225 (18, [some (.ref 483), some (.int (nI k)), some (.int (mo_rs (ro M) k i)), some (.int (nI i))], [], []) M1 (.inl (some (.int (mo_rs (ro M) k nk))), M') ∧ fr mo_pq (to M 0) M' := by
      refine mb_up ?_ ?_
      · intro M1 f1
        have r1 : ro M1 = ro M := (f1.row pq_ro).trans (to_r 0)
        exact ⟨M1, t_225_18 f1.1 _ _ _ ⟨_, M1, f1.1, sm_168 f1.1, mb_y (by rw [r1]; exact ct_ge hc) rfl⟩, f1⟩
      · intro i hi ih M1 f1
        have r1 : ro M1 = ro M := (f1.row pq_ro).trans (to_r 0)
        obtain ⟨M2, h2, f2⟩ := sm_196 (X := X) f1.1 hk10 (o := i) (by omega) (by rw [r1]; exact hv.kp hk) (by rw [r1]; exact hv.kp hi)
        rw [r1] at h2
        obtain ⟨M', h', f'⟩ := ih M2 (f1.tr f2)
        refine ⟨M', t_225_18 f1.1 _ _ _ ⟨_, M1, f1.1, sm_168 f1.1, mb_n (by rw [r1]; exact ct_lt hc hi) ⟨_, M2, f2.1, h2, ?_⟩⟩, f'⟩
        rw [mo_rs_s] at h'
        rw [mi_s]
        cases hr : mo_rub (ro M) k i
        · rw [hr, if_neg (by decide)] at h'; exact mb_y rfl h'
        · rw [hr, if_pos rfl] at h'; exact mb_n (by decide) fun z e => by rw [e]; exact h'
    obtain ⟨M', h', f'⟩ := H 0 (Nat.zero_le _) _ (fr.rf l1)
    exact cm_v (t_225 hL _ ⟨_, M, hL, sm_169 hL, _, _, l1, sm_155y hL h0, mb_n (by1 h0) h'⟩) ((to_f hL 0).tr (f'.mo fun _ _ => pq_q1)) (by rw [f'.2.1 483 0 (fun e => by rcases e.2 with e | e <;> cases e)]; exact to_0 _)
  · rw [if_neg h0]
    exact cm_e (t_225 hL _ ⟨_, M, hL, sm_169 hL, _, _, to_L hL 1, sm_155n hL h0, mb_y (bn1 h0) rfl⟩) (to_f hL 1) (to_0 _)
/-- wearNow, threat -/
theorem cm_226 (hL : ab_lay M) (hσ : ro M = σ) (hv : vs σ nk nw ne) (x : Int32) : cm mo_q1 X 226 [.int x] M (cdI 0) (sp_103 σ nk x) ∧ cm mo_q1 X 238 [.int x] M (cdI 0) (sp_112 σ nk x) := by
  subst hσ
  have hc := hv.1
  have h10 := hc.1
  have l1 := to_L hL 0
  unfold sp_103 sp_112
  by_cases h0 : mo_isK (ro M) x = true
  · rw [if_pos h0, if_pos h0]
    obtain ⟨k, hk, rfl⟩ := (isK_of hc).mp h0
    rw [kN_n (by omega)]
    have tz : ∀ {M'}, fr mo_pq (to M 0) M' → ak_I M' 483 0 = 0 := fun f => by rw [f.2.1 483 0 (fun e => by rcases e.2 with e | e <;> cases e)]; exact to_0 _
    constructor
    · obtain ⟨M', r', f'⟩ := sm_200 (X := X) (M := to M 0) l1 (nk := nk) (nw := nw) (ne := ne) (by rw [to_r]; exact hc) (fun j hj => by rw [to_r]; exact hv.kp hj) hk
      rw [to_r] at r'
      exact cm_v (t_226 hL _ ⟨_, M, hL, sm_169 hL, _, _, l1, sm_155y hL h0, mb_n (by1 h0) ⟨_, M', f'.1, r', rfl⟩⟩) ((to_f hL 0).tr (f'.mo fun _ _ => pq_q1)) (tz f')
    · obtain ⟨M', r', f'⟩ := sm_201 (X := X) (M := to M 0) l1 (nk := nk) (nw := nw) (ne := ne) (by rw [to_r]; exact hc) (fun j hj => by rw [to_r]; exact hv.kp hj) hk
      rw [to_r] at r'
      exact cm_v (t_238 hL _ ⟨_, M, hL, sm_169 hL, _, _, l1, sm_155y hL h0, mb_n (by1 h0) ⟨_, M', f'.1, r', rfl⟩⟩) ((to_f hL 0).tr (f'.mo fun _ _ => pq_q1)) (tz f')
  · rw [if_neg h0, if_neg h0]
    exact ⟨cm_e (t_226 hL _ ⟨_, M, hL, sm_169 hL, _, _, to_L hL 1, sm_155n hL h0, mb_y (bn1 h0) rfl⟩) (to_f hL 1) (to_0 _), cm_e (t_238 hL _ ⟨_, M, hL, sm_169 hL, _, _, to_L hL 1, sm_155n hL h0, mb_y (bn1 h0) rfl⟩) (to_f hL 1) (to_0 _)⟩
/-- event -/
theorem cm_227 (hL : ab_lay M) (hσ : ro M = σ) (hv : vs σ nk nw ne) (x w : Int32) : cm mo_q1 X 227 [.int x, .int w] M (cdI 0) (sp_104 σ x w) := by
  subst hσ
  have hc := hv.1
  have h12 := hc.2.2.1
  have l1 := to_L hL 0
  have s0 := jm_in32 (X := X) (M := M) (x := x) (a := 0) (b := ro M 9 - 1) (p := 0) (q := (ro M 9 - 1).toInt64) rfl rfl
  unfold sp_104
  by_cases h0 : in32 x 0 (ro M 9 - 1) = true
  · rw [if_pos h0]
    by_cases h1 : in32 w 0 5 = true
    · rw [if_pos h1]
      obtain ⟨k, hk, rfl⟩ := (isE_of hc).mp h0
      obtain ⟨j, hj, rfl⟩ := (in_n (a := 5) (by decide)).mp h1
      rw [kN_n (by omega), kN_n (by omega)]
      refine cm_v (M' := to (to M 0) 0) (t_227 hL _ _ ⟨9, ⟨rfl, rfl⟩, _, M, hL, s0, _, _, l1, sm_155y hL h0, mb_n (by1 h0) ⟨_, _, l1, jm_in32 (by rfl) (by rfl), _, _, to_L l1 0, sm_156y l1 h1, mb_n (by1 h1) ⟨173 + 6 * k + j, mb_ixe ?_ (by omega) (by decide), ?_⟩⟩⟩) ((to_f hL 0).tr (to_f l1 0)) (to_0 _)
      · rw [show (173 : Int32) = nI 173 from rfl, show (6 : Int32) = nI 6 from rfl, mi_mul, mi_add, mi_add]
      · show _ = ((.inl (some (.int (ro (to (to M 0) 0) (173 + 6 * k + j)))), to (to M 0) 0) : ak_O × ak_M)
        rw [to_r, to_r]
        rfl
    · rw [if_neg h1]
      exact cm_e (t_227 hL _ _ ⟨9, ⟨rfl, rfl⟩, _, M, hL, s0, _, _, l1, sm_155y hL h0, mb_n (by1 h0) ⟨_, _, l1, jm_in32 (by rfl) (by rfl), _, _, to_L l1 2, sm_156n l1 h1, mb_y (bn1 h1) rfl⟩⟩) ((to_f hL 0).tr (to_f l1 2)) (to_0 _)
  · rw [if_neg h0]
    exact cm_e (t_227 hL _ _ ⟨9, ⟨rfl, rfl⟩, _, M, hL, s0, _, _, to_L hL 1, sm_155n hL h0, mb_y (bn1 h0) rfl⟩) (to_f hL 1) (to_0 _)
end SMQ
