/-! rows copied: a field of the class, a row of the model -/
/-- row p becomes row q, its first n numbers -/
def cpr (p q : Nat) (M : ak_M) : Nat → ak_M
  | 0 => M
  | n + 1 => ak_sI (cpr p q M n) p n (ak_I (cpr p q M n) q n)
theorem cpr_r {p q : Nat} {M : ak_M} {u : Nat} (h : u ≠ p) : ∀ n, ak_I (cpr p q M n) u = ak_I M u
  | 0 => rfl
  | n + 1 => (mb_sIr h).trans (cpr_r h n)
theorem cpr_s {p q : Nat} {M : ak_M} {w : Nat} (hq : q ≠ p) : ∀ n, w < n → ak_I (cpr p q M n) p w = ak_I M q w
  | 0, h => absurd h (Nat.not_lt_zero _)
  | n + 1, h => by
    by_cases e : w = n
    · rw [e]; exact mb_sIs.trans (congrFun (cpr_r hq n) n)
    · exact (mb_sIk e).trans (cpr_s hq n (by omega))
theorem cpr_f {S : Nat → Nat → Prop} {p q : Nat} {M N : ak_M} (f : fr S M N) : ∀ n, (∀ k, k < n → S p k) → fr S M (cpr p q N n)
  | 0, _ => f
  | n + 1, hS => (cpr_f f n fun k hk => hS k (by omega)).st (hS n (by omega))
section SCP
variable {X : ak_X} {M : ak_M} {b d nk nw ne fe : Nat} {σ τ : Nat → Int32}
theorem sk_35 (hL : ab_lay M) (hb : b ∈ ab_fb) (hd : d ∈ ab_fb) {k : Nat} (hk : k < 10) : rn X 35 [.ref (d + 6 + k), .ref (b + 6 + k)] M (.inl none, cpr (d + 6 + k) (b + 6 + k) M 14) := by
  refine t_35 hL hd hk hb hk fun M1 e1 M2 e2 M3 e3 M4 e4 M5 e5 M6 e6 M7 e7 M8 e8 M9 e9 M10 e10 M11 e11 M12 e12 M13 e13 M14 e14 => ?_
  have g1 : M1 = cpr (d + 6 + k) (b + 6 + k) M 1 := e1
  have g2 : M2 = cpr (d + 6 + k) (b + 6 + k) M 2 := by rw [e2, g1]; rfl
  have g3 : M3 = cpr (d + 6 + k) (b + 6 + k) M 3 := by rw [e3, g2]; rfl
  have g4 : M4 = cpr (d + 6 + k) (b + 6 + k) M 4 := by rw [e4, g3]; rfl
  have g5 : M5 = cpr (d + 6 + k) (b + 6 + k) M 5 := by rw [e5, g4]; rfl
  have g6 : M6 = cpr (d + 6 + k) (b + 6 + k) M 6 := by rw [e6, g5]; rfl
  have g7 : M7 = cpr (d + 6 + k) (b + 6 + k) M 7 := by rw [e7, g6]; rfl
  have g8 : M8 = cpr (d + 6 + k) (b + 6 + k) M 8 := by rw [e8, g7]; rfl
  have g9 : M9 = cpr (d + 6 + k) (b + 6 + k) M 9 := by rw [e9, g8]; rfl
  have g10 : M10 = cpr (d + 6 + k) (b + 6 + k) M 10 := by rw [e10, g9]; rfl
  have g11 : M11 = cpr (d + 6 + k) (b + 6 + k) M 11 := by rw [e11, g10]; rfl
  have g12 : M12 = cpr (d + 6 + k) (b + 6 + k) M 12 := by rw [e12, g11]; rfl
  have g13 : M13 = cpr (d + 6 + k) (b + 6 + k) M 13 := by rw [e13, g12]; rfl
  have g14 : M14 = cpr (d + 6 + k) (b + 6 + k) M 14 := by rw [e14, g13]; rfl
  rw [g14]
theorem fb_ne (hb : b ∈ ab_fb) (hd : d ∈ ab_fb) (h : b ≠ d) : b + 32 ≤ d ∨ d + 32 ≤ b := by
  revert h hb hd
  unfold ab_fb
  simp only [List.mem_cons, List.not_mem_nil, or_false]
  omega
theorem sk_82 (hL : ab_lay M) (hb : b ∈ ab_fb) (hd : d ∈ ab_fb) (hne : b + 32 ≤ d ∨ d + 32 ≤ b) {k : Nat} (hk : k < 4) : rn X 82 [.ref (d + 16 + k), .ref (b + 16 + k)] M (.inl none, cpr (d + 16 + k) (b + 16 + k) M 3) := by
  have f := cpr_f (p := d + 16 + k) (q := b + 16 + k) (S := cS d) (M := M) (fr.rf hL) 3 fun w _ => ⟨by omega, by omega⟩
  have e : ∀ n w, ak_I (cpr (d + 16 + k) (b + 16 + k) M n) (b + 16 + k) w = ak_I M (b + 16 + k) w := fun n w => congrFun (cpr_r (by omega) n) w
  refine t_82 hL hd hk hb hk ⟨_, f.1, t_83 hL hd hk _ _ _ fun M1 e1 M2 e2 M3 e3 => ?_, rfl⟩
  have g1 : M1 = cpr (d + 16 + k) (b + 16 + k) M 1 := e1
  have g2 : M2 = cpr (d + 16 + k) (b + 16 + k) M 2 := by rw [e2, g1, ← e 1 1]; rfl
  have g3 : M3 = cpr (d + 16 + k) (b + 16 + k) M 3 := by rw [e3, g2, ← e 2 2]; rfl
  rw [g3]
theorem sk_5 (hL : ab_lay M) (hb : b ∈ ab_fb) (hd : d ∈ ab_fb) {k : Nat} (hk : k < 12) : rn X 5 [.ref (d + 20 + k), .ref (b + 20 + k)] M (.inl none, cpr (d + 20 + k) (b + 20 + k) M 6) := by
  refine t_5 hL hd hk hb hk fun M1 e1 M2 e2 M3 e3 M4 e4 M5 e5 M6 e6 => ?_
  have g1 : M1 = cpr (d + 20 + k) (b + 20 + k) M 1 := e1
  have g2 : M2 = cpr (d + 20 + k) (b + 20 + k) M 2 := by rw [e2, g1]; rfl
  have g3 : M3 = cpr (d + 20 + k) (b + 20 + k) M 3 := by rw [e3, g2]; rfl
  have g4 : M4 = cpr (d + 20 + k) (b + 20 + k) M 4 := by rw [e4, g3]; rfl
  have g5 : M5 = cpr (d + 20 + k) (b + 20 + k) M 5 := by rw [e5, g4]; rfl
  have g6 : M6 = cpr (d + 20 + k) (b + 20 + k) M 6 := by rw [e6, g5]; rfl
  rw [g6]
/-- a copy under way: so many kites, winds, happenings, settings are done -/
def cw (b d na nc ne' ns : Nat) (M M1 : ak_M) : Prop := fr (cS d) M M1 ∧ (∀ w, 5 ≤ w → w < 11 → ak_I M1 d w = ak_I M b w) ∧ (∀ k, k < na → ∀ w, w < 14 → ak_I M1 (d + 6 + k) w = ak_I M (b + 6 + k) w) ∧ (∀ k, k < nc → ∀ w, w < 3 → ak_I M1 (d + 16 + k) w = ak_I M (b + 16 + k) w) ∧ (∀ k, k < ne' → ∀ w, w < 6 → ak_I M1 (d + 20 + k) w = ak_I M (b + 20 + k) w) ∧ ∀ w, w < ns → ak_I M1 (d + 4) w = ak_I M (b + 4) w
/-- what lies outside of the field that is written is as before -/
theorem cw_src {M1 : ak_M} {na nc ne' ns : Nat} (h : cw b d na nc ne' ns M M1) {p : Nat} (hp : p < d ∨ d + 32 ≤ p) : ak_I M1 p = ak_I M p := h.1.row fun _ hs => by unfold cS at hs; omega
theorem cw_K (hne : b + 32 ≤ d ∨ d + 32 ≤ b) {M1 : ak_M} {i : Nat} (hi : i < 10) (h : cw b d i 0 0 0 M M1) : cw b d (i + 1) 0 0 0 M (cpr (d + 6 + i) (b + 6 + i) M1 14) := by
  have es := cw_src h (p := b + 6 + i) (by omega)
  obtain ⟨a1, a2, a3, a4, a5, a6⟩ := h
  refine ⟨cpr_f a1 14 fun k _ => ⟨by omega, by omega⟩, fun w h1 h2 => ?_, fun k hk w hw => ?_, fun k hk => absurd hk (Nat.not_lt_zero _), fun k hk => absurd hk (Nat.not_lt_zero _), fun k hk => absurd hk (Nat.not_lt_zero _)⟩
  · rw [cpr_r (by omega)]; exact a2 w h1 h2
  · by_cases e : k = i
    · rw [e, cpr_s (by omega) 14 hw, es]
    · rw [cpr_r (by omega)]; exact a3 k (by omega) w hw
theorem cw_W (hne : b + 32 ≤ d ∨ d + 32 ≤ b) {M1 : ak_M} {i na : Nat} (hna : na ≤ 10) (hi : i < 4) (h : cw b d na i 0 0 M M1) : cw b d na (i + 1) 0 0 M (cpr (d + 16 + i) (b + 16 + i) M1 3) := by
  have es := cw_src h (p := b + 16 + i) (by omega)
  obtain ⟨a1, a2, a3, a4, a5, a6⟩ := h
  refine ⟨cpr_f a1 3 fun k _ => ⟨by omega, by omega⟩, fun w h1 h2 => ?_, fun k hk w hw => ?_, fun k hk w hw => ?_, fun k hk => absurd hk (Nat.not_lt_zero _), fun k hk => absurd hk (Nat.not_lt_zero _)⟩
  · rw [cpr_r (by omega)]; exact a2 w h1 h2
  · rw [cpr_r (by omega)]; exact a3 k hk w hw
  · by_cases e : k = i
    · rw [e, cpr_s (by omega) 3 hw, es]
    · rw [cpr_r (by omega)]; exact a4 k (by omega) w hw
theorem cw_E (hne : b + 32 ≤ d ∨ d + 32 ≤ b) {M1 : ak_M} {i na nc : Nat} (hna : na ≤ 10) (hnc : nc ≤ 4) (hi : i < 12) (h : cw b d na nc i 0 M M1) : cw b d na nc (i + 1) 0 M (cpr (d + 20 + i) (b + 20 + i) M1 6) := by
  have es := cw_src h (p := b + 20 + i) (by omega)
  obtain ⟨a1, a2, a3, a4, a5, a6⟩ := h
  refine ⟨cpr_f a1 6 fun k _ => ⟨by omega, by omega⟩, fun w h1 h2 => ?_, fun k hk w hw => ?_, fun k hk w hw => ?_, fun k hk w hw => ?_, fun k hk => absurd hk (Nat.not_lt_zero _)⟩
  · rw [cpr_r (by omega)]; exact a2 w h1 h2
  · rw [cpr_r (by omega)]; exact a3 k hk w hw
  · rw [cpr_r (by omega)]; exact a4 k hk w hw
  · by_cases e : k = i
    · rw [e, cpr_s (by omega) 6 hw, es]
    · rw [cpr_r (by omega)]; exact a5 k (by omega) w hw
theorem cw_S (hne : b + 32 ≤ d ∨ d + 32 ≤ b) {M1 : ak_M} {i na nc : Nat} (hna : na ≤ 10) (hnc : nc ≤ 4) (h : cw b d na nc 12 i M M1) : cw b d na nc 12 (i + 1) M (ak_sI M1 (d + 4) i (ak_I M1 (b + 4) i)) := by
  have es := cw_src h (p := b + 4) (by omega)
  obtain ⟨a1, a2, a3, a4, a5, a6⟩ := h
  refine ⟨a1.st ⟨by omega, by omega⟩, fun w h1 h2 => ?_, fun k hk w hw => ?_, fun k hk w hw => ?_, fun k hk w hw => ?_, fun w hw => ?_⟩
  · rw [mb_sIr (by omega)]; exact a2 w h1 h2
  · rw [mb_sIr (by omega)]; exact a3 k hk w hw
  · rw [mb_sIr (by omega)]; exact a4 k hk w hw
  · rw [mb_sIr (by omega)]; exact a5 k hk w hw
  · rw [mb_sI, es]
    by_cases e : w = i
    · rw [if_pos ⟨rfl, e⟩, e]
    · rw [if_neg fun x => e x.2]; exact a6 w (by omega)
theorem sk_10 (hL : ab_lay M) (hb : b ∈ ab_fb) (hd : d ∈ ab_fb) (hbd : b ≠ d) (hR : Rb b σ nk nw ne fe M) (hc : ct σ nk nw ne) : ∃ M', rn X 10 [.ref d, .ref b] M (.inl none, M') ∧ cr d σ nk nw ne fe M M' := by
  have hne := fb_ne hb hd hbd
  have h10 := hc.1
  have hw4 := hc.2.1.2
  have fin : ∀ M1, cw b d nk nw 12 6 M M1 → cr d σ nk nw ne fe M M1 := by
    rintro M1 ⟨a1, a2, a3, a4, a5, a6⟩
    obtain ⟨r1, ⟨r2, r3, r4, r5, r6, r7⟩, r8, r9, r10, r11⟩ := hR
    refine ⟨a1, r1, ⟨?_, ?_, ?_, ?_, ?_, ?_⟩, fun k hk w hw => (a3 k hk w hw).trans (r8 k hk w hw), fun k hk w hw => (a4 k hk w hw).trans (r9 k hk w hw), fun j hj => (a6 j hj).trans (r10 j hj), fun j hj w hw => (a5 _ (Nat.mod_lt _ (by decide)) w hw).trans (r11 j hj w hw)⟩
    · rw [a2 5 (by decide) (by decide)]; exact r2
    · rw [a2 6 (by decide) (by decide)]; exact r3
    · rw [a2 7 (by decide) (by decide)]; exact r4
    · rw [a2 8 (by decide) (by decide)]; exact r5
    · rw [a2 9 (by decide) (by decide)]; exact r6
    · rw [a2 10 (by decide) (by decide)]; exact r7
  have L4 : ∀ i, i ≤ 6 → ∀ M1, cw b d nk nw 12 i M M1 → ∃ M', sg X 10 (141, [some (.ref d), some (.ref b), some (.int (nI i))], [], []) M1 (.inl none, M') ∧ cr d σ nk nw ne fe M M' := by
    refine mb_up ?_ ?_
    · intro M1 c1
      exact ⟨M1, t_10_141 c1.1.1 hd hb _ (mb_y (Int32.le_refl _) rfl), fin M1 c1⟩
    · intro i hi ih M1 c1
      obtain ⟨M', h, m⟩ := ih _ (cw_S hne h10 hw4 c1)
      refine ⟨M', t_10_141 c1.1.1 hd hb _ (mb_n (by rw [show (6 : Int32) = nI 6 from rfl, mi_le (by omega) (by omega)]; omega) ⟨i, mb_ix hi (by decide), i, mb_ix hi (by decide), fun N e => ?_⟩), m⟩
      rw [e, mi_s]
      exact h
  have L3 : ∀ i, i ≤ 12 → ∀ M1, cw b d nk nw i 0 M M1 → ∃ M', sg X 10 (112, [some (.ref d), some (.ref b), some (.int (nI i))], [], []) M1 (.inl none, M') ∧ cr d σ nk nw ne fe M M' := by
    refine mb_up ?_ ?_
    · intro M1 c1
      obtain ⟨M', h, m⟩ := L4 0 (by decide) M1 c1
      exact ⟨M', t_10_112 c1.1.1 hd hb _ (mb_y (Int32.le_refl _) h), m⟩
    · intro i hi ih M1 c1
      have c2 := cw_E hne h10 hw4 hi c1
      obtain ⟨M', h, m⟩ := ih _ c2
      refine ⟨M', t_10_112 c1.1.1 hd hb _ (mb_n (by rw [show (12 : Int32) = nI 12 from rfl, mi_le (by omega) (by omega)]; omega) ⟨i, hi, mb_ix hi (by decide), i, hi, mb_ix hi (by decide), _, c2.1.1, sk_5 c1.1.1 hb hd hi, ?_⟩), m⟩
      rw [mi_s]
      exact h
  have L2 : ∀ i, i ≤ nw → ∀ M1, cw b d nk i 0 0 M M1 → ∃ M', sg X 10 (81, [some (.ref d), some (.ref b), some (.int (nI i))], [], []) M1 (.inl none, M') ∧ cr d σ nk nw ne fe M M' := by
    have e6 : ∀ M1 i, cw b d nk i 0 0 M M1 → ak_I M1 d 6 = nI nw := fun M1 i c => by rw [c.2.1 6 (by decide) (by decide), hR.2.1.2.1]; exact hc.2.2.2.2.1
    refine mb_up ?_ ?_
    · intro M1 c1
      obtain ⟨M', h, m⟩ := L3 0 (by decide) M1 c1
      exact ⟨M', t_10_81 c1.1.1 hd hb _ (mb_y (by rw [e6 _ _ c1]; exact Int32.le_refl _) h), m⟩
    · intro i hi ih M1 c1
      have hi4 : i < 4 := by omega
      have c2 := cw_W hne h10 hi4 c1
      obtain ⟨M', h, m⟩ := ih _ c2
      refine ⟨M', t_10_81 c1.1.1 hd hb _ (mb_n (by rw [e6 _ _ c1, mi_le (by omega) (by omega)]; omega) ⟨i, hi4, mb_ix hi4 (by decide), i, hi4, mb_ix hi4 (by decide), _, c2.1.1, sk_82 c1.1.1 hb hd hne hi4, ?_⟩), m⟩
      rw [mi_s]
      exact h
  have L1 : ∀ i, i ≤ nk → ∀ M1, cw b d i 0 0 0 M M1 → ∃ M', sg X 10 (50, [some (.ref d), some (.ref b), some (.int (nI i))], [], []) M1 (.inl none, M') ∧ cr d σ nk nw ne fe M M' := by
    have e5 : ∀ M1 i, cw b d i 0 0 0 M M1 → ak_I M1 d 5 = nI nk := fun M1 i c => by rw [c.2.1 5 (by decide) (by decide), hR.2.1.1]; exact hc.2.2.2.1
    refine mb_up ?_ ?_
    · intro M1 c1
      obtain ⟨M', h, m⟩ := L2 0 (Nat.zero_le _) M1 c1
      exact ⟨M', t_10_50 c1.1.1 hd hb _ (mb_y (by rw [e5 _ _ c1]; exact Int32.le_refl _) h), m⟩
    · intro i hi ih M1 c1
      have hi10 : i < 10 := by omega
      have c2 := cw_K hne hi10 c1
      obtain ⟨M', h, m⟩ := ih _ c2
      refine ⟨M', t_10_50 c1.1.1 hd hb _ (mb_n (by rw [e5 _ _ c1, mi_le (by omega) (by omega)]; omega) ⟨i, hi10, mb_ix hi10 (by decide), i, hi10, mb_ix hi10 (by decide), _, c2.1.1, sk_35 c1.1.1 hb hd hi10, ?_⟩), m⟩
      rw [mi_s]
      exact h
  -- the head
  let P : Nat → ak_M → Prop := fun n N => fr (cS d) M N ∧ ∀ w, 5 ≤ w → w < n → ak_I N d w = ak_I M b w
  have st : ∀ n N, 5 ≤ n → P n N → P (n + 1) (ak_sI N d n (ak_I N b n)) := by
    rintro n N h5 ⟨p1, p2⟩
    refine ⟨p1.st ⟨by omega, by omega⟩, fun w h1 h2 => ?_⟩
    rw [mb_sI]
    by_cases e : w = n
    · rw [if_pos ⟨rfl, e⟩, e]; exact congrFun (p1.row fun k hs => by unfold cS at hs; omega) n
    · rw [if_neg fun x => e x.2]; exact p2 w h1 (by omega)
  have p0 : P 5 M := ⟨fr.rf hL, fun w h1 h2 => absurd h2 (by omega)⟩
  generalize g1 : ak_sI M d 5 (ak_I M b 5) = M1
  have p1 : P 6 M1 := g1 ▸ st 5 _ (by decide) p0
  generalize g2 : ak_sI M1 d 6 (ak_I M1 b 6) = M2
  have p2 : P 7 M2 := g2 ▸ st 6 _ (by decide) p1
  generalize g3 : ak_sI M2 d 7 (ak_I M2 b 7) = M3
  have p3 : P 8 M3 := g3 ▸ st 7 _ (by decide) p2
  generalize g4 : ak_sI M3 d 8 (ak_I M3 b 8) = M4
  have p4 : P 9 M4 := g4 ▸ st 8 _ (by decide) p3
  generalize g5 : ak_sI M4 d 9 (ak_I M4 b 9) = M5
  have p5 : P 10 M5 := g5 ▸ st 9 _ (by decide) p4
  generalize g6 : ak_sI M5 d 10 (ak_I M5 b 10) = M6
  have p6 : P 11 M6 := g6 ▸ st 10 _ (by decide) p5
  obtain ⟨M', h, m⟩ := L1 0 (Nat.zero_le _) M6 ⟨p6.1, p6.2, fun k hk => absurd hk (Nat.not_lt_zero _), fun k hk => absurd hk (Nat.not_lt_zero _), fun k hk => absurd hk (Nat.not_lt_zero _), fun k hk => absurd hk (Nat.not_lt_zero _)⟩
  refine ⟨M', t_10 hL hd hb fun N1 e1 N2 e2 N3 e3 N4 e4 N5 e5 N6 e6 => ?_, m⟩
  obtain rfl := e1.trans g1
  obtain rfl := e2.trans g2
  obtain rfl := e3.trans g3
  obtain rfl := e4.trans g4
  obtain rfl := e5.trans g5
  obtain rfl := e6.trans g6
  exact h
/-- row q of the model is copied to row p: its 245 numbers -/
def cQ (p u k : Nat) : Prop := u = p ∧ k < 245
/-- two rows of the same 245 numbers -/
def q245 (σ τ : Nat → Int32) : Prop := ∀ k, k < 245 → σ k = τ k
theorem q_kf (h : q245 σ τ) {k w : Nat} (hk : k < 10) (hw : w < 15) : kf σ k w = kf τ k w := h _ (by omega)
theorem q_wf (h : q245 σ τ) {k w : Nat} (hk : k < 4) (hw : w < 3) : wf σ k w = wf τ k w := h _ (by omega)
theorem q_ef (h : q245 σ τ) {k w : Nat} (hk : k < 12) (hw : w < 6) : ef σ k w = ef τ k w := h _ (by omega)
theorem q_ct (h : q245 σ τ) (hc : ct σ nk nw ne) : ct τ nk nw ne := by
  obtain ⟨a, b, c, d, e, f⟩ := hc
  exact ⟨a, b, c, (h 1 (by decide)).symm.trans d, (h 2 (by decide)).symm.trans e, (h 9 (by decide)).symm.trans f⟩
theorem q_vs (h : q245 σ τ) (hv : vs σ nk nw ne) : vs τ nk nw ne := by
  obtain ⟨a, b, c, d, e, f⟩ := hv
  have h10 := a.1
  have h4 := a.2.1.2
  have h12 := a.2.2.1
  refine ⟨q_ct h a, by rw [← h 0 (by decide)]; exact b, fun k hk w hw => ?_, fun i hi => ?_, ?_, fun j hj => ?_⟩
  · rw [← q_kf h (by omega) (by omega)]; exact c k hk w hw
  · unfold wv
    rw [← q_wf h (by omega) (by decide), ← q_wf h (by omega) (by decide)]
    exact d i hi
  · unfold sv
    rw [← h 3 (by decide), ← h 4 (by decide), ← h 5 (by decide), ← h 6 (by decide), ← h 7 (by decide), ← h 8 (by decide)]
    exact e
  · unfold ev
    rw [← q_ef h (by omega) (by decide), ← q_ef h (by omega) (by decide), ← q_ef h (by omega) (by decide), ← q_ef h (by omega) (by decide)]
    exact f j hj
theorem q_Rb (h : q245 σ τ) (hc : ct σ nk nw ne) {M : ak_M} (hR : Rb b σ nk nw ne fe M) : Rb b τ nk nw ne fe M := by
  have h10 := hc.1
  have h4 := hc.2.1.2
  have h12 := hc.2.2.1
  exact hR.cg ⟨h 0 (by decide), h 1 (by decide), h 2 (by decide), h 9 (by decide), h 10 (by decide)⟩ (fun j hj => h _ (by omega)) (fun k hk w hw => q_kf h (by omega) (by omega)) (fun i hi w hw => q_wf h (by omega) hw) (fun j hj w hw => q_ef h (by omega) hw)
end SCP
