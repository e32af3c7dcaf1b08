/-! the class's questions: the rest -/
def mo_pc (σ : Nat → Int32) (r : Bool) (i j : Nat) : Bool := if r = true then mo_rub σ i j else mo_cross σ i j
theorem mo_pc_f (σ : Nat → Int32) (i j : Nat) : mo_pc σ false i j = mo_cross σ i j := rfl
theorem mo_pc_t (σ : Nat → Int32) (i j : Nat) : mo_pc σ true i j = mo_rub σ i j := rfl
/-- pairs of lines, by the greater number -/
def mo_prb (σ : Nat → Int32) (r : Bool) (j : Nat) : Nat → Int32
  | 0 => 0
  | i + 1 => if mo_pc σ r i j = true then mo_prb σ r j i + 1 else mo_prb σ r j i
theorem mo_prb_s (σ : Nat → Int32) (r : Bool) (j i : Nat) : mo_prb σ r j (i + 1) = if mo_pc σ r i j = true then mo_prb σ r j i + 1 else mo_prb σ r j i := rfl
def mo_prs (σ : Nat → Int32) (r : Bool) : Nat → Int32
  | 0 => 0
  | j + 1 => mo_prs σ r j + mo_prb σ r j j
/-- pairs of lines, by the smaller number: of line i with those from i + 1 to below n, d of them -/
def mo_pra (σ : Nat → Int32) (r : Bool) (i : Nat) : Nat → Int32
  | 0 => 0
  | d + 1 => if mo_pc σ r i (i + 1 + d) = true then mo_pra σ r i d + 1 else mo_pra σ r i d
theorem mo_pra_s (σ : Nat → Int32) (r : Bool) (i d : Nat) : mo_pra σ r i (d + 1) = if mo_pc σ r i (i + 1 + d) = true then mo_pra σ r i d + 1 else mo_pra σ r i d := rfl
def mo_pas (σ : Nat → Int32) (r : Bool) (n : Nat) : Nat → Int32
  | 0 => 0
  | i + 1 => mo_pas σ r n i + mo_pra σ r i (n - 1 - i)
theorem pas_step (σ : Nat → Int32) (r : Bool) (n : Nat) : ∀ i, i ≤ n → mo_pas σ r (n + 1) i = mo_pas σ r n i + mo_prb σ r n i
  | 0, _ => by show (0 : Int32) = 0 + 0; rfl
  | i + 1, hi => by
    have e : n + 1 - 1 - i = (n - 1 - i) + 1 := by omega
    have e2 : i + 1 + (n - 1 - i) = n := by omega
    show mo_pas σ r (n + 1) i + mo_pra σ r i (n + 1 - 1 - i) = (mo_pas σ r n i + mo_pra σ r i (n - 1 - i)) + mo_prb σ r n (i + 1)
    rw [pas_step σ r n i (by omega), e, mo_pra_s, mo_prb_s, e2]
    by_cases h : mo_pc σ r i n = true
    · rw [if_pos h, if_pos h]; grind
    · rw [if_neg h, if_neg h]; grind
theorem pas_eq (σ : Nat → Int32) (r : Bool) : ∀ n, mo_pas σ r n n = mo_prs σ r n
  | 0 => rfl
  | n + 1 => by
    have e : n + 1 - 1 - n = 0 := by omega
    show mo_pas σ r (n + 1) n + mo_pra σ r n (n + 1 - 1 - n) = mo_prs σ r n + mo_prb σ r n n
    rw [e, pas_step σ r n n (Nat.le_refl _), pas_eq σ r n]
    show _ + 0 = _
    rw [Int32.add_zero]
section SCR
variable {X : ak_X} {M : ak_M} {b k nk nw ne fe : Nat} {σ : Nat → Int32}
theorem sk_15 (hL : ab_lay M) (hb : b ∈ ab_fb) (hR : Rb b σ nk nw ne fe M) (hv : vs σ nk nw ne) (r : Bool) : ∃ M', rn X 15 [.ref b, .int (bI r)] M (.inl (some (.int (mo_prs σ r nk))), M') ∧ fr (cX b) M M' := by
  have hc := hv.1
  have h10 := hc.1
  have H1 : ∀ d i, i + d = nk → ∀ M1 o4, fr (cX b) M M1 → ∃ M', sg X 15 (4, [some (.ref b), some (.int (bI r)), some (.int (mo_pas σ r nk i)), some (.int (nI i)), o4], [], []) M1 (.inl (some (.int (mo_pas σ r nk nk))), M') ∧ fr (cX b) M M' := by
    intro d
    induction d with
    | zero =>
      intro i hi M1 o4 f1
      have e : i = nk := by omega
      subst e
      have R1 := hR.fr hc f1 cX_out
      exact ⟨M1, t_15_4 f1.1 hb _ _ _ _ (mb_y (by rw [R1.2.1.1]; exact ct_ge hc) rfl), f1⟩
    | succ d ih =>
      intro i hi M1 o4 f1
      have H2 : ∀ c, c ≤ nk - 1 - i → ∀ M2, fr (cX b) M M2 → ∃ M', sg X 15 (17, [some (.ref b), some (.int (bI r)), some (.int (mo_pas σ r nk i + mo_pra σ r i c)), some (.int (nI i)), some (.int (nI (i + 1 + c)))], [], []) M2 (.inl (some (.int (mo_pas σ r nk nk))), M') ∧ fr (cX b) M M' := by
        refine mb_up ?_ ?_
        · intro M2 f2
          have R2 := hR.fr hc f2 cX_out
          obtain ⟨M', h', f'⟩ := ih (i + 1) (by omega) M2 (some (.int (nI (i + 1 + (nk - 1 - i))))) f2
          refine ⟨M', t_15_17 f2.1 hb _ _ _ _ (mb_y ?_ ?_), f'⟩
          · rw [R2.2.1.1, hc.2.2.2.1, mi_le (by omega) (by omega)]; omega
          · rw [mi_s]; exact h'
        · intro c hcc ih2 M2 f2
          have R2 := hR.fr hc f2 cX_out
          have hj : i + 1 + c < nk := by omega
          have hin : i < nk := by omega
          have n1 : ¬ ak_I M2 b 5 ≤ nI (i + 1 + c) := by rw [R2.2.1.1]; exact ct_lt hc hj
          have es : nI (i + 1 + c) + 1 = nI (i + 1 + (c + 1)) := by rw [mi_s]; congr 1
          rw [mo_pra_s] at ih2
          cases r
          · rw [mo_pc_f] at ih2
            obtain ⟨M3, r3, f3, -⟩ := sk_13 (X := X) f2.1 hb R2 hc hin hj (hv.kp hin) (hv.kp hj)
            obtain ⟨M', h', f'⟩ := ih2 M3 (f2.tr f3)
            refine ⟨M', t_15_17 f2.1 hb _ _ _ _ (mb_n n1 (mb_y rfl ⟨_, M3, f3.1, r3, ?_⟩)), f'⟩
            rw [es]
            cases hx : mo_cross σ i (i + 1 + c)
            · rw [hx, if_neg (by decide)] at h'; exact mb_y rfl h'
            · rw [hx, if_pos rfl, ← Int32.add_assoc] at h'; exact mb_n (by decide) h'
          · rw [mo_pc_t] at ih2
            obtain ⟨M3, r3, f3⟩ := sk_14 (X := X) f2.1 hb R2 hc hin hj (hv.kp hin) (hv.kp hj)
            obtain ⟨M', h', f'⟩ := ih2 M3 (f2.tr f3)
            refine ⟨M', t_15_17 f2.1 hb _ _ _ _ (mb_n n1 (mb_n (by decide) ⟨_, M3, f3.1, r3, ?_⟩)), f'⟩
            rw [es]
            cases hx : mo_rub σ i (i + 1 + c)
            · rw [hx, if_neg (by decide)] at h'; exact mb_y rfl h'
            · rw [hx, if_pos rfl, ← Int32.add_assoc] at h'; exact mb_n (by decide) h'
      have R1 := hR.fr hc f1 cX_out
      obtain ⟨M', h', f'⟩ := H2 0 (Nat.zero_le _) M1 f1
      refine ⟨M', t_15_4 f1.1 hb _ _ _ _ (mb_n (by rw [R1.2.1.1]; exact ct_lt hc (by omega)) ?_), f'⟩
      rw [mi_s]
      have e0 : mo_pas σ r nk i + mo_pra σ r i 0 = mo_pas σ r nk i := Int32.add_zero _
      rw [e0] at h'
      exact h'
  obtain ⟨M', h', f'⟩ := H1 nk 0 (by omega) M none (fr.rf hL)
  rw [pas_eq] at h'
  exact ⟨M', t_15 hL hb _ h', f'⟩
/-- count -/
def sp_92 (σ : Nat → Int32) (n : Nat) (h x : Int32) : Int32 :=
  if in32 x 3 7 = true then mo_ins σ (x - 3) n else if x = 0 then σ 1 else if x = 1 then σ 2 else if x = 2 then σ 0 else if x = 8 then σ 9 else if x = 9 then σ 10 else if x = 10 then mo_prs σ false n else if x = 11 then mo_prs σ true n else if x = 12 then h else (-1)
theorem ca_92 (hL : ab_lay M) (hR : Rb 65 σ nk nw ne fe M) (hv : vs σ nk nw ne) (x : Int32) : ca (cX 65) X 92 [.int x] M (.inl (sp_92 σ nk (ak_I M 161 2) x)) := by
  obtain ⟨e5, e6, e7, e8, e9, e10⟩ := hR.2.1
  have chain : ¬ in32 x 3 7 = true → ∃ M', fx (cX 65) M M' ∧ ∀ r, r = (oc (.inl (sp_92 σ nk (ak_I M 161 2) x)), M') → (if x = 0 then r = (.inl (some (.int (ak_I M 65 5))), M) else (if x = 1 then r = (.inl (some (.int (ak_I M 65 6))), M) else (if x = 2 then r = (.inl (some (.int (ak_I M 65 9))), M) else (if x = 3 then r = (.inl (some (.int ((-1)))), M) else (if x = 4 then r = (.inl (some (.int ((-1)))), M) else (if x = 5 then r = (.inl (some (.int ((-1)))), M) else (if x = 6 then r = (.inl (some (.int ((-1)))), M) else (if x = 7 then r = (.inl (some (.int ((-1)))), M) else (if x = 8 then r = (.inl (some (.int (ak_I M 65 7))), M) else (if x = 9 then r = (.inl (some (.int (ak_I M 65 10))), M) else (if x = 10 then (∃ (v2 : Int32) (M1 : ak_M), ab_lay M1 ∧ rn X 15 [.ref 65, .int 0] M (.inl (some (.int v2)), M1) ∧ r = (.inl (some (.int v2)), M1)) else (if x = 11 then (∃ (v5 : Int32) (M4 : ak_M), ab_lay M4 ∧ rn X 15 [.ref 65, .int 1] M (.inl (some (.int v5)), M4) ∧ r = (.inl (some (.int v5)), M4)) else (if x = 12 then r = (.inl (some (.int (ak_I M 161 2))), M) else r = (.inl (some (.int ((-1)))), M)))))))))))))) := by
    intro hn
    have nx : ∀ j : Nat, 3 ≤ j → j ≤ 7 → x ≠ nI j := by
      intro j h1 h2 e
      refine hn ?_
      rw [e, in32_t, mi_t (by omega), show (3 : Int32).toInt = 3 from rfl, show (7 : Int32).toInt = 7 from rfl]
      omega
    by_cases d0 : x = 0
    · have e : sp_92 σ nk (ak_I M 161 2) x = σ 1 := by unfold sp_92; rw [if_neg hn, if_pos d0]
      exact ⟨M, (fr.rf hL).qx, fun r hr => mb_y d0 (by rw [hr, e, e5]; rfl)⟩
    by_cases d1 : x = 1
    · have e : sp_92 σ nk (ak_I M 161 2) x = σ 2 := by unfold sp_92; rw [if_neg hn, if_neg d0, if_pos d1]
      exact ⟨M, (fr.rf hL).qx, fun r hr => mb_n d0 (mb_y d1 (by rw [hr, e, e6]; rfl))⟩
    by_cases d2 : x = 2
    · have e : sp_92 σ nk (ak_I M 161 2) x = σ 0 := by unfold sp_92; rw [if_neg hn, if_neg d0, if_neg d1, if_pos d2]
      exact ⟨M, (fr.rf hL).qx, fun r hr => mb_n d0 (mb_n d1 (mb_y d2 (by rw [hr, e, e9]; rfl)))⟩
    by_cases d8 : x = 8
    · have e : sp_92 σ nk (ak_I M 161 2) x = σ 9 := by unfold sp_92; rw [if_neg hn, if_neg d0, if_neg d1, if_neg d2, if_pos d8]
      exact ⟨M, (fr.rf hL).qx, fun r hr => mb_n d0 (mb_n d1 (mb_n d2 (mb_n (nx 3 (by decide) (by decide)) (mb_n (nx 4 (by decide) (by decide)) (mb_n (nx 5 (by decide) (by decide)) (mb_n (nx 6 (by decide) (by decide)) (mb_n (nx 7 (by decide) (by decide)) (mb_y d8 (by rw [hr, e, e7]; rfl)))))))))⟩
    have skip : ∀ {A : Prop} {r : ak_O × ak_M}, A → (if x = 0 then r = (.inl (some (.int (ak_I M 65 5))), M) else (if x = 1 then r = (.inl (some (.int (ak_I M 65 6))), M) else (if x = 2 then r = (.inl (some (.int (ak_I M 65 9))), M) else (if x = 3 then r = (.inl (some (.int ((-1)))), M) else (if x = 4 then r = (.inl (some (.int ((-1)))), M) else (if x = 5 then r = (.inl (some (.int ((-1)))), M) else (if x = 6 then r = (.inl (some (.int ((-1)))), M) else (if x = 7 then r = (.inl (some (.int ((-1)))), M) else (if x = 8 then r = (.inl (some (.int (ak_I M 65 7))), M) else A))))))))) := fun a => mb_n d0 (mb_n d1 (mb_n d2 (mb_n (nx 3 (by decide) (by decide)) (mb_n (nx 4 (by decide) (by decide)) (mb_n (nx 5 (by decide) (by decide)) (mb_n (nx 6 (by decide) (by decide)) (mb_n (nx 7 (by decide) (by decide)) (mb_n d8 a))))))))
    by_cases d9 : x = 9
    · have e : sp_92 σ nk (ak_I M 161 2) x = σ 10 := by unfold sp_92; rw [if_neg hn, if_neg d0, if_neg d1, if_neg d2, if_neg d8, if_pos d9]
      exact ⟨M, (fr.rf hL).qx, fun r hr => skip (mb_y d9 (by rw [hr, e, e10]; rfl))⟩
    by_cases d10 : x = 10
    · have e : sp_92 σ nk (ak_I M 161 2) x = mo_prs σ false nk := by unfold sp_92; rw [if_neg hn, if_neg d0, if_neg d1, if_neg d2, if_neg d8, if_neg d9, if_pos d10]
      obtain ⟨M', r', f'⟩ := sk_15 (X := X) hL h65 hR hv false
      exact ⟨M', f'.qx, fun r hr => skip (mb_n d9 (mb_y d10 ⟨_, M', f'.1, r', by rw [hr, e]; rfl⟩))⟩
    by_cases d11 : x = 11
    · have e : sp_92 σ nk (ak_I M 161 2) x = mo_prs σ true nk := by unfold sp_92; rw [if_neg hn, if_neg d0, if_neg d1, if_neg d2, if_neg d8, if_neg d9, if_neg d10, if_pos d11]
      obtain ⟨M', r', f'⟩ := sk_15 (X := X) hL h65 hR hv true
      exact ⟨M', f'.qx, fun r hr => skip (mb_n d9 (mb_n d10 (mb_y d11 ⟨_, M', f'.1, r', by rw [hr, e]; rfl⟩)))⟩
    by_cases d12 : x = 12
    · have e : sp_92 σ nk (ak_I M 161 2) x = ak_I M 161 2 := by unfold sp_92; rw [if_neg hn, if_neg d0, if_neg d1, if_neg d2, if_neg d8, if_neg d9, if_neg d10, if_neg d11, if_pos d12]
      exact ⟨M, (fr.rf hL).qx, fun r hr => skip (mb_n d9 (mb_n d10 (mb_n d11 (mb_y d12 (by rw [hr, e]; rfl)))))⟩
    · have e : sp_92 σ nk (ak_I M 161 2) x = (-1) := by unfold sp_92; rw [if_neg hn, if_neg d0, if_neg d1, if_neg d2, if_neg d8, if_neg d9, if_neg d10, if_neg d11, if_neg d12]
      exact ⟨M, (fr.rf hL).qx, fun r hr => skip (mb_n d9 (mb_n d10 (mb_n d11 (mb_n d12 (by rw [hr, e]; rfl)))))⟩
  by_cases c3 : x < 3
  · have hn : ¬ in32 x 3 7 = true := by
      unfold in32
      rw [decide_eq_false (mb_le.mpr c3)]; exact Bool.false_ne_true
    obtain ⟨M', f', h'⟩ := chain hn
    exact ⟨M', t_92 hL _ (mb_y c3 (h' _ rfl)), f'⟩
  · by_cases c7 : 7 < x
    · have hn : ¬ in32 x 3 7 = true := by
        unfold in32
        rw [decide_eq_false (mb_le.mpr c7), Bool.and_false]; exact Bool.false_ne_true
      obtain ⟨M', f', h'⟩ := chain hn
      exact ⟨M', t_92 hL _ (mb_n c3 (mb_y c7 (h' _ rfl))), f'⟩
    · have hn : in32 x 3 7 = true := by
        unfold in32
        rw [decide_eq_true (mb_lt.mp c3), decide_eq_true (mb_lt.mp c7)]; rfl
      have e : sp_92 σ nk (ak_I M 161 2) x = mo_ins σ (x - 3) nk := by unfold sp_92; rw [if_pos hn]
      exact ⟨M, t_92 hL _ (mb_n c3 (mb_n c7 ⟨_, M, hL, sk_11 hL h65 hR hv.1, by rw [e]; rfl⟩)), (fr.rf hL).qx⟩
/-- setting -/
def sp_93 (σ : Nat → Int32) (x : Int32) : Int32 := if in32 x 0 5 = true then σ (3 + kN x) else (-1)
theorem ca_93 (hL : ab_lay M) (hR : Rb 65 σ nk nw ne fe M) (x : Int32) : ca (cX 65) X 93 [.int x] M (.inl (sp_93 σ x)) := by
  by_cases h : in32 x 0 5 = true
  · obtain ⟨j, hj, rfl⟩ := (in_n (a := 5) (by decide)).mp h
    have e : sp_93 σ (nI j) = σ (3 + j) := by unfold sp_93; rw [if_pos h, kN_n (by omega)]
    refine ⟨M, t_93 hL _ ⟨_, M, hL, sk_151 hL, mb_n (by rw [h]; decide) ⟨j, mb_ix (by omega) (by decide), ?_⟩⟩, (fr.rf hL).qx⟩
    rw [e, hR.s (by omega)]; rfl
  · have e : sp_93 σ x = (-1) := by unfold sp_93; rw [if_neg h]
    exact ⟨M, t_93 hL _ ⟨_, M, hL, sk_151 hL, mb_y (by rw [bf h]; rfl) (by rw [e]; rfl)⟩, (fr.rf hL).qx⟩
/-- nearest -/
def sp_110 (σ : Nat → Int32) (n : Nat) (x : Int32) : Int32 ⊕ Nat := if mo_isK σ x = true then .inl (oI (mo_nr σ (kN x) n)) else .inr 0
theorem far_c (x y u v : Int32) : (x - y) * (x - y) + (u - v) * (u - v) = mo_sq (y - x) (v - u) 0 := by unfold mo_sq; grind
/-- upwind -/
def mo_upw (σ : Nat → Int32) (k n : Nat) : Int32 := - mo_sgn (mo_wx σ k * wf σ (mo_wind σ (kf σ k 3) n) 1 + mo_wy σ k * wf σ (mo_wind σ (kf σ k 3) n) 2)
def sp_111 (σ : Nat → Int32) (n : Nat) (x : Int32) : Int32 ⊕ Nat := if mo_isK σ x = true then (if mo_fly σ (kN x) = true then .inl (mo_upw σ (kN x) n) else .inr 2) else .inr 0
/-- sum -/
def sp_113 (σ : Nat → Int32) (n : Nat) (w : Int32) : Int32 ⊕ Nat := if in32 w 0 13 = true then .inl (mo_sm σ (kN w) n) else .inr 1
theorem ca_113 (hL : ab_lay M) (hR : Rb 65 σ nk nw ne fe M) (hv : vs σ nk nw ne) (w : Int32) : ca (cX 65) X 113 [.int w] M (sp_113 σ nk w) := by
  have hc := hv.1
  have h10 := hc.1
  have c1 := ck_146 (X := X) hL (x := w) (lo := 0) (hi := 13)
  unfold sp_113
  by_cases h1 : in32 w 0 13 = true
  · rw [if_pos h1]
    obtain ⟨j, hj, rfl⟩ := (in_n (a := 13) (by decide)).mp h1
    rw [kN_n (by omega)]
    have H : ∀ i, i ≤ nk → sg X 113 (11, [some (.ref 0), some (.int (nI j)), some (.int (mo_sm σ j i)), some (.int (nI i))], [], []) M (oc (.inl (mo_sm σ j nk)), M) := by
      refine mb_up ?_ ?_
      · exact t_113_11 hL _ _ _ (mb_y (by rw [hR.2.1.1]; exact ct_ge hc) rfl)
      · intro i hi ih
        refine t_113_11 hL _ _ _ (mb_n (by rw [hR.2.1.1]; exact ct_lt hc hi) ⟨i, by omega, mb_ix (by omega) (by decide), _, M, hL, sk_39 hL h65 hR hc hi (by omega), ?_⟩)
        rw [mi_s]
        exact ih
    exact ⟨M, t_113 hL _ (Or.inl ⟨M, hL, c1.1 h1, H 0 (Nat.zero_le _)⟩), (fr.rf hL).qx⟩
  · rw [if_neg h1]
    exact ⟨_, t_113 hL _ (Or.inr ⟨1, _, c1.2 (bf h1), rfl⟩), (fr.rf hL).ux⟩
/-- rank -/
def sp_114 (σ : Nat → Int32) (n : Nat) (x : Int32) : Int32 ⊕ Nat := if mo_isK σ x = true then .inl (mo_rk σ (kN x) n) else .inr 0
/-- inBox -/
def sp_115 (σ : Nat → Int32) (n : Nat) (x y tx ty : Int32) : Int32 ⊕ Nat := if in32 x 0 199 = true ∧ in32 y 0 199 = true ∧ in32 tx x 199 = true ∧ in32 ty y 199 = true then .inl (mo_bx σ x y tx ty n) else .inr 1
theorem ca_115 (hL : ab_lay M) (hR : Rb 65 σ nk nw ne fe M) (hv : vs σ nk nw ne) (x y tx ty : Int32) : ca (cX 65) X 115 [.int x, .int y, .int tx, .int ty] M (sp_115 σ nk x y tx ty) := by
  have hc := hv.1
  have h10 := hc.1
  have c1 := ck_146 (X := X) hL (x := x) (lo := 0) (hi := 199)
  have c2 := ck_146 (X := X) hL (x := y) (lo := 0) (hi := 199)
  have c3 := ck_146 (X := X) hL (x := tx) (lo := x) (hi := 199)
  have c4 := ck_146 (X := X) hL (x := ty) (lo := y) (hi := 199)
  unfold sp_115
  by_cases h1 : in32 x 0 199 = true
  · by_cases h2 : in32 y 0 199 = true
    · by_cases h3 : in32 tx x 199 = true
      · by_cases h4 : in32 ty y 199 = true
        · rw [if_pos ⟨h1, h2, h3, h4⟩]
          have H : ∀ i, i ≤ nk → sg X 115 (39, [some (.ref 0), some (.int x), some (.int y), some (.int tx), some (.int ty), some (.int (mo_bx σ x y tx ty i)), some (.int (nI i))], [], []) M (oc (.inl (mo_bx σ x y tx ty nk)), M) := by
            refine mb_up ?_ ?_
            · exact t_115_39 hL _ _ _ _ _ _ (mb_y (by rw [hR.2.1.1]; exact ct_ge hc) rfl)
            · intro i hi ih
              have ix : ab_ix (nI i) i 10 := mb_ix (by omega) (by decide)
              rw [mo_bx_s] at ih
              refine t_115_39 hL _ _ _ _ _ _ (mb_n (by rw [hR.2.1.1]; exact ct_lt hc hi) ⟨i, by omega, ix, _, M, hL, sk_151 hL, ?_⟩)
              rw [hR.kk hi (by decide), mi_s]
              by_cases q1 : in32 (kf σ i 1) x tx = true
              · refine mb_n (by rw [q1]; decide) ⟨i, by omega, ix, _, M, hL, sk_151 hL, ?_⟩
                rw [hR.kk hi (by decide)]
                by_cases q2 : in32 (kf σ i 2) y ty = true
                · rw [if_pos ⟨q1, q2⟩] at ih
                  exact mb_n (by rw [q2]; decide) fun z e => by rw [e]; exact ih
                · rw [if_neg (fun e => q2 e.2)] at ih
                  exact mb_y (by rw [bf q2]; rfl) ih
              · rw [if_neg (fun e => q1 e.1)] at ih
                exact mb_y (by rw [bf q1]; rfl) ih
          exact ⟨M, t_115 hL _ _ _ _ (Or.inl ⟨M, hL, c1.1 h1, Or.inl ⟨M, hL, c2.1 h2, Or.inl ⟨M, hL, c3.1 h3, Or.inl ⟨M, hL, c4.1 h4, H 0 (Nat.zero_le _)⟩⟩⟩⟩), (fr.rf hL).qx⟩
        · rw [if_neg (fun e => h4 e.2.2.2)]
          exact ⟨_, t_115 hL _ _ _ _ (Or.inl ⟨M, hL, c1.1 h1, Or.inl ⟨M, hL, c2.1 h2, Or.inl ⟨M, hL, c3.1 h3, Or.inr ⟨1, _, c4.2 (bf h4), rfl⟩⟩⟩⟩), (fr.rf hL).ux⟩
      · rw [if_neg (fun e => h3 e.2.2.1)]
        exact ⟨_, t_115 hL _ _ _ _ (Or.inl ⟨M, hL, c1.1 h1, Or.inl ⟨M, hL, c2.1 h2, Or.inr ⟨1, _, c3.2 (bf h3), rfl⟩⟩⟩), (fr.rf hL).ux⟩
    · rw [if_neg (fun e => h2 e.2.1)]
      exact ⟨_, t_115 hL _ _ _ _ (Or.inl ⟨M, hL, c1.1 h1, Or.inr ⟨1, _, c2.2 (bf h2), rfl⟩⟩), (fr.rf hL).ux⟩
  · rw [if_neg (fun e => h1 e.1)]
    exact ⟨_, t_115 hL _ _ _ _ (Or.inr ⟨1, _, c1.2 (bf h1), rfl⟩), (fr.rf hL).ux⟩
end SCR
