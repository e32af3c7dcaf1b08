/-! a setup text cut into tokens -/
/-- the kind of a byte: 1 letter, 2 digit, 3 minus, 4 semicolon, 5 blank, 6 other -/
def kof (b : Int32) : Nat := if in32 b 97 122 = true then 1 else if in32 b 48 57 = true then 2 else if b = 45 then 3 else if b = 59 then 4 else if b = 10 ∨ b = 32 then 5 else 6
/-- where a run of bytes of a kind ends -/
def rne (β : Nat → Int32) (k : Nat) : Nat → Nat → Nat
  | 0, p => p
  | d + 1, p => if kof (β p) = k then rne β k d (p + 1) else p
def rnd (β : Nat → Int32) (n k p : Nat) : Nat := rne β k (n - p) p
/-- where the token at s ends, its kind, where the next one begins -/
def te (β : Nat → Int32) (n s : Nat) : Nat := if s < n then (if kof (β s) = 1 ∨ kof (β s) = 2 then rnd β n (kof (β s)) s else s + 1) else s
def tkd (β : Nat → Int32) (n s : Nat) : Nat := if s < n then kof (β s) else 0
def nx (β : Nat → Int32) (n s : Nat) : Nat := rnd β n 5 (te β n s)
section STK
variable {β : Nat → Int32} {n k p s d : Nat}
theorem rne_ge : ∀ d p, p ≤ rne β k d p
  | 0, p => Nat.le_refl _
  | d + 1, p => by
    unfold rne
    split
    · have := rne_ge d (p + 1); omega
    · exact Nat.le_refl _
theorem rne_le : ∀ d p, rne β k d p ≤ p + d
  | 0, p => Nat.le_refl _
  | d + 1, p => by
    unfold rne
    split
    · have := rne_le d (p + 1); omega
    · omega
theorem rne_in : ∀ d p j, p ≤ j → j < rne β k d p → kof (β j) = k
  | 0, p, j, h1, h2 => by unfold rne at h2; omega
  | d + 1, p, j, h1, h2 => by
    unfold rne at h2
    split at h2
    · rename_i c
      by_cases e : j = p
      · rw [e]; exact c
      · exact rne_in d (p + 1) j (by omega) h2
    · omega
theorem rne_end : ∀ d p, rne β k d p < p + d → kof (β (rne β k d p)) ≠ k
  | 0, p, h => by unfold rne at h; omega
  | d + 1, p, h => by
    unfold rne at h ⊢
    by_cases c : kof (β p) = k
    · rw [if_pos c] at h ⊢
      exact rne_end d (p + 1) (by omega)
    · rw [if_neg c]
      exact c
theorem rnd_ge : p ≤ rnd β n k p := rne_ge _ _
theorem rnd_le (h : p ≤ n) : rnd β n k p ≤ n := by
  have := rne_le (β := β) (k := k) (n - p) p
  unfold rnd
  omega
theorem rnd_in {j : Nat} (h1 : p ≤ j) (h2 : j < rnd β n k p) : kof (β j) = k := rne_in _ _ j h1 h2
theorem rnd_end (h : p ≤ n) (h1 : rnd β n k p < n) : kof (β (rnd β n k p)) ≠ k := rne_end _ _ (by unfold rnd at h1; omega)
theorem rnd_lt (h : p < n) (h1 : kof (β p) = k) : p < rnd β n k p := by
  unfold rnd
  obtain ⟨d, hd⟩ : ∃ d, n - p = d + 1 := ⟨n - p - 1, by omega⟩
  rw [hd]
  unfold rne
  rw [if_pos h1]
  have := rne_ge (β := β) (k := k) d (p + 1)
  omega
theorem rnd_0 (h : p < n → kof (β p) ≠ k) : rnd β n k p = p := by
  unfold rnd
  by_cases c : p < n
  · obtain ⟨d, hd⟩ : ∃ d, n - p = d + 1 := ⟨n - p - 1, by omega⟩
    rw [hd]
    unfold rne
    rw [if_neg (h c)]
  · rw [show n - p = 0 by omega]
    rfl
theorem te_ge : s ≤ te β n s := by
  unfold te
  split
  · split
    · exact rnd_ge
    · omega
  · omega
theorem te_le (h : s ≤ n) : te β n s ≤ n := by
  unfold te
  split
  · split
    · exact rnd_le h
    · omega
  · omega
theorem te_lt (h : s < n) : s < te β n s := by
  unfold te
  rw [if_pos h]
  split
  · exact rnd_lt h rfl
  · omega
theorem te_n (h : ¬ s < n) : te β n s = s := if_neg h
theorem te_r (h : s < n) (hk : kof (β s) = 1 ∨ kof (β s) = 2) : te β n s = rnd β n (kof (β s)) s := by unfold te; rw [if_pos h, if_pos hk]
theorem te_1 (h : s < n) (hk : ¬ (kof (β s) = 1 ∨ kof (β s) = 2)) : te β n s = s + 1 := by unfold te; rw [if_pos h, if_neg hk]
theorem tkd_y (h : s < n) : tkd β n s = kof (β s) := if_pos h
theorem tkd_n (h : ¬ s < n) : tkd β n s = 0 := if_neg h
theorem nx_le (h : s ≤ n) : nx β n s ≤ n := rnd_le (te_le h)
theorem nx_gt (h : s < n) : s < nx β n s := Nat.lt_of_lt_of_le (te_lt h) rnd_ge
/-- a token begins here -/
def bg (β : Nat → Int32) (n s : Nat) : Prop := s ≤ n ∧ (s < n → kof (β s) ≠ 5)
theorem bg_rnd (h : p ≤ n) : bg β n (rnd β n 5 p) := ⟨rnd_le h, rnd_end h⟩
theorem bg_nx (h : s ≤ n) : bg β n (nx β n s) := bg_rnd (te_le h)
theorem kof_b (b : Int32) : 1 ≤ kof b ∧ kof b ≤ 6 := by
  unfold kof
  repeat' split
  all_goals decide
theorem tkd_i (h : tkd β n s ≠ 0) : s < n := by
  by_cases c : s < n
  · exact c
  · exact absurd (tkd_n c) h
theorem tkd_in {j : Nat} (hk : tkd β n s = 1 ∨ tkd β n s = 2) (h1 : s ≤ j) (h2 : j < te β n s) : kof (β j) = tkd β n s := by
  have hs : s < n := tkd_i (β := β) (by omega)
  rw [tkd_y hs] at hk ⊢
  rw [te_r hs hk] at h2
  exact rnd_in h1 h2
end STK
section STC
variable {X : ak_X} {M : ak_M} {β : Nat → Int32} {n p s : Nat}
theorem sk_77 (hL : ab_lay M) (b : Int32) : rn X 77 [.int b] M (.inl (some (.int (nI (kof b)))), M) := by
  have a97 : (97 : Int32).toInt = 97 := by decide
  have a122 : (122 : Int32).toInt = 122 := by decide
  have a48 : (48 : Int32).toInt = 48 := by decide
  have a57 : (57 : Int32).toInt = 57 := by decide
  have l : ∀ {x y : Int32}, x < y ↔ x.toInt < y.toInt := Int32.lt_iff_toInt_lt
  have W : ¬ in32 b 97 122 = true → ¬ in32 b 48 57 = true → (if b = 10 then (.inl (some (.int (nI (kof b)))), M) = ((.inl (some (.int 5)), M) : ak_O × ak_M) else (if b = 32 then (.inl (some (.int (nI (kof b)))), M) = ((.inl (some (.int 5)), M) : ak_O × ak_M) else (if b = 45 then (.inl (some (.int (nI (kof b)))), M) = ((.inl (some (.int 3)), M) : ak_O × ak_M) else (if b = 59 then (.inl (some (.int (nI (kof b)))), M) = ((.inl (some (.int 4)), M) : ak_O × ak_M) else (.inl (some (.int (nI (kof b)))), M) = ((.inl (some (.int 6)), M) : ak_O × ak_M))))) := by
    intro h1 h2
    by_cases c10 : b = 10
    · have e : kof b = 5 := by rw [c10]; decide
      rw [e]; exact mb_y c10 rfl
    · by_cases c32 : b = 32
      · have e : kof b = 5 := by rw [c32]; decide
        rw [e]; exact mb_n c10 (mb_y c32 rfl)
      · by_cases c45 : b = 45
        · have e : kof b = 3 := by rw [c45]; decide
          rw [e]; exact mb_n c10 (mb_n c32 (mb_y c45 rfl))
        · by_cases c59 : b = 59
          · have e : kof b = 4 := by rw [c59]; decide
            rw [e]; exact mb_n c10 (mb_n c32 (mb_n c45 (mb_y c59 rfl)))
          · have e : kof b = 6 := by unfold kof; rw [if_neg h1, if_neg h2, if_neg c45, if_neg c59, if_neg (fun e => e.elim c10 c32)]
            rw [e]; exact mb_n c10 (mb_n c32 (mb_n c45 (mb_n c59 rfl)))
  refine t_77 hL _ ?_
  by_cases h1 : in32 b 97 122 = true
  · have e : kof b = 1 := if_pos h1
    have t := in32_t.mp h1
    rw [e]
    exact mb_n (by rw [l]; omega) (mb_n (by rw [l]; omega) rfl)
  · by_cases h2 : in32 b 48 57 = true
    · have e : kof b = 2 := by unfold kof; rw [if_neg h1, if_pos h2]
      have t := in32_t.mp h2
      rw [e]
      exact mb_y (by rw [l]; omega) (mb_n (by rw [l]; omega) (mb_n (by rw [l]; omega) rfl))
    · have W := W h1 h2
      have n1 : ¬ (97 ≤ b.toInt ∧ b.toInt ≤ 122) := fun e => h1 (in32_t.mpr (by rw [a97, a122]; exact e))
      have n2 : ¬ (48 ≤ b.toInt ∧ b.toInt ≤ 57) := fun e => h2 (in32_t.mpr (by rw [a48, a57]; exact e))
      by_cases c1 : b < 97
      · refine mb_y c1 ?_
        by_cases c2 : b < 48
        · exact mb_y c2 W
        · refine mb_n c2 (mb_y ?_ W)
          rw [l] at c1 c2 ⊢
          omega
      · refine mb_n c1 (mb_y ?_ (mb_n ?_ (mb_y ?_ W)))
        · rw [l] at c1 ⊢; omega
        · rw [l] at c1 ⊢; omega
        · rw [l] at c1 ⊢; omega
/-- the class's token is the one at s -/
def Tc (β : Nat → Int32) (n s : Nat) (M : ak_M) : Prop := bg β n s ∧ ak_I M 51 2 = nI s ∧ ak_I M 51 3 = nI (te β n s - s) ∧ ak_I M 51 1 = nI (tkd β n s)
def cT (p _k : Nat) : Prop := p = 51
theorem Ic.ff {S : Nat → Nat → Prop} {N : ak_M} (h : Ic β n M) (f : fr S M N) (hS : ∀ p k, S p k → p ≠ 1 ∧ p ≠ 2) : Ic β n N :=
  ⟨h.1, by rw [f.row (p := 1) fun k e => (hS 1 k e).1 rfl]; exact h.2.1, fun j hj => by rw [f.row (p := 2) fun k e => (hS 2 k e).2 rfl]; exact h.2.2 j hj⟩
theorem cT_I (h : Ic β n M) {N : ak_M} (f : fr cT M N) : Ic β n N := h.ff f fun p k e => by unfold cT at e; omega
theorem Tc.ff {S : Nat → Nat → Prop} {N : ak_M} (h : Tc β n s M) (f : fr S M N) (hS : ∀ p k, S p k → p ≠ 51) : Tc β n s N := by
  have e : ak_I N 51 = ak_I M 51 := f.row (p := 51) fun k e => hS 51 k e rfl
  unfold Tc at h ⊢
  rw [e]
  exact h
theorem sk_76 (hL : ab_lay M) (hI : Ic β n M) (hp : p ≤ n) (hpe : ak_I M 51 2 + ak_I M 51 3 = nI p) : ∃ M', rn X 76 [.ref 51] M (.inl none, M') ∧ fr cT M M' ∧ Tc β n (rnd β n 5 p) M' := by
  obtain ⟨h7, i1, i2⟩ := hI
  have r1 : ∀ {N : ak_M}, fr cT M N → ak_I N 1 1 = nI n := fun f => by rw [f.row (p := 1) fun q e => by unfold cT at e; omega]; exact i1
  have r2 : ∀ {N : ak_M} {j : Nat}, fr cT M N → j < n → ak_I N 2 j = β j := fun f hj => by rw [f.row (p := 2) fun q e => by unfold cT at e; omega]; exact i2 _ hj
  have hbg := bg_rnd (β := β) hp
  have hge := rnd_ge (β := β) (n := n) (k := 5) (p := p)
  have hin := fun j => rnd_in (β := β) (n := n) (k := 5) (p := p) (j := j)
  obtain ⟨s, hs⟩ : ∃ s, s = rnd β n 5 p := ⟨_, rfl⟩
  rw [← hs] at hbg hge hin ⊢
  have hsn := hbg.1
  have fin59 : ∀ M1 o1, fr cT M M1 → ak_I M1 51 2 = nI s → ∃ M', sg X 76 (59, [some (.ref 51), o1], [], []) M1 (.inl none, M') ∧ fr cT M M' ∧ Tc β n s M' := by
    intro M1 o1 f1 e1
    by_cases c : s < n
    · have kb := kof_b (β s)
      have H : kof (β s) = 1 ∨ kof (β s) = 2 → ∀ l, l ≤ te β n s - s → ∀ M2, 1 ≤ l → fr cT M M2 → ak_I M2 51 2 = nI s → ak_I M2 51 1 = nI (kof (β s)) → ak_I M2 51 3 = nI l → ∃ M', sg X 76 (130, [some (.ref 51), some (.int 1)], [], []) M2 (.inl none, M') ∧ fr cT M M' ∧ Tc β n s M' := by
        intro hk
        have e0 := te_r c hk
        have t1 := te_le (β := β) hsn
        have t2 := te_lt (β := β) c
        refine mb_up ?_ ?_
        · intro M2 h1 f2 a b d
          have fin : sg X 76 (193, [some (.ref 51), some (.int 1)], [], []) M2 (.inl none, M2) := t_76_193 f2.1 _ _ rfl
          refine ⟨M2, t_76_130 f2.1 _ (mb_n (by decide) ?_), f2, hbg, a, d, by rw [b, tkd_y c]⟩
          rw [a, d, mi_add, r1 f2, show s + (te β n s - s) = te β n s by omega]
          by_cases c2 : te β n s < n
          · refine mb_n (by rw [mi_le (by omega) (by omega)]; omega) ⟨te β n s, mb_ix (by omega) (by decide), _, M2, f2.1, sk_77 f2.1 _, mb_n ?_ fin⟩
            rw [b, r2 f2 c2, mi_eq (by have := kof_b (β (te β n s)); omega) (by omega)]
            have := rnd_end (β := β) (n := n) (k := kof (β s)) (p := s) hsn (by rw [← e0]; exact c2)
            rw [← e0] at this
            exact this
          · exact mb_y (by rw [mi_le (by omega) (by omega)]; omega) fin
        · intro l hl ih M2 h1 f2 a b d
          obtain ⟨M', hs', m'⟩ := ih (ak_sI M2 51 3 (nI (l + 1))) (by omega) (f2.st rfl) ((mb_sIk (by decide)).trans a) ((mb_sIk (by decide)).trans b) mb_sIs
          refine ⟨M', t_76_130 f2.1 _ (mb_n (by decide) ?_), m'⟩
          rw [a, d, mi_add, r1 f2]
          refine mb_n (by rw [mi_le (by omega) (by omega)]; omega) ⟨s + l, mb_ix (by omega) (by decide), _, M2, f2.1, sk_77 f2.1 _, mb_y ?_ fun N e => ?_⟩
          · rw [b, r2 f2 (by omega), rnd_in (β := β) (n := n) (k := kof (β s)) (p := s) (j := s + l) (by omega) (by rw [← e0]; omega)]
          · rw [d, mi_s] at e
            rw [e]
            exact hs'
      have g1 : fr cT M (ak_sI (ak_sI M1 51 1 (nI (kof (β s)))) 51 3 1) := (f1.st rfl).st rfl
      have b1 : ak_I (ak_sI (ak_sI M1 51 1 (nI (kof (β s)))) 51 3 1) 51 1 = nI (kof (β s)) := (mb_sIk (by decide)).trans mb_sIs
      have b2 : ak_I (ak_sI (ak_sI M1 51 1 (nI (kof (β s)))) 51 3 1) 51 2 = nI s := ((mb_sIk (by decide)).trans (mb_sIk (by decide))).trans e1
      have b3 : ak_I (ak_sI (ak_sI M1 51 1 (nI (kof (β s)))) 51 3 1) 51 3 = nI 1 := mb_sIs
      have eq1 : ∀ m : Nat, m < 7 → (nI (kof (β s)) = nI m ↔ kof (β s) = m) := fun m hm => mi_eq (by omega) (by omega)
      have go : ∀ r : ak_O × ak_M, (∀ N, N = ak_sI (ak_sI M1 51 1 (nI (kof (β s)))) 51 3 1 → (if ak_I N 51 1 = 1 then sg X 76 (124, [some (.ref 51), o1], [], []) N r else (if ak_I N 51 1 = 2 then sg X 76 (124, [some (.ref 51), o1], [], []) N r else sg X 76 (130, [some (.ref 51), some (.int 0)], [], []) N r))) → sg X 76 (59, [some (.ref 51), o1], [], []) M1 r := by
        intro r h
        refine t_76_59 f1.1 _ (mb_y (by rw [e1, r1 f1, mi_lt (by omega) (by omega)]; exact c) ⟨s, by rw [e1]; exact mb_ix (by omega) (by decide), _, M1, f1.1, sk_77 f1.1 _, fun N a N2 a2 => ?_⟩)
        rw [r2 f1 c] at a
        rw [a] at a2
        exact h N2 a2
      by_cases hk : kof (β s) = 1 ∨ kof (β s) = 2
      · obtain ⟨M', hs', m'⟩ := H hk 1 (by have := te_lt (β := β) c; omega) _ (Nat.le_refl _) g1 b2 b1 b3
        refine ⟨M', go _ fun N e => ?_, m'⟩
        subst e
        by_cases k1 : kof (β s) = 1
        · exact mb_y (by rw [b1]; exact (eq1 1 (by decide)).mpr k1) (t_76_124 g1.1 _ hs')
        · exact mb_n (by rw [b1]; exact fun e => k1 ((eq1 1 (by decide)).mp e)) (mb_y (by rw [b1]; exact (eq1 2 (by decide)).mpr (hk.resolve_left k1)) (t_76_124 g1.1 _ hs'))
      · refine ⟨_, go _ fun N e => ?_, g1, hbg, b2, by rw [te_1 c hk, b3, show s + 1 - s = 1 by omega], by rw [b1, tkd_y c]⟩
        subst e
        exact mb_n (by rw [b1]; exact fun e => hk (Or.inl ((eq1 1 (by decide)).mp e))) (mb_n (by rw [b1]; exact fun e => hk (Or.inr ((eq1 2 (by decide)).mp e))) (t_76_130 g1.1 _ (mb_y rfl (t_76_193 g1.1 _ _ rfl))))
    · refine ⟨ak_sI (ak_sI M1 51 1 0) 51 3 0, t_76_59 f1.1 _ (mb_n (by rw [e1, r1 f1, mi_lt (by omega) (by omega)]; exact c) fun N a N2 a2 => by rw [a2, a]), (f1.st rfl).st rfl, hbg, ((mb_sIk (by decide)).trans (mb_sIk (by decide))).trans e1, by rw [te_n c, Nat.sub_self]; exact mb_sIs, by rw [tkd_n c]; exact (mb_sIk (by decide)).trans mb_sIs⟩
  have H : ∀ q, q ≤ s → ∀ M1 o1, p ≤ q → fr cT M M1 → ak_I M1 51 2 = nI q → ∃ M', sg X 76 (13, [some (.ref 51), o1], [], []) M1 (.inl none, M') ∧ fr cT M M' ∧ Tc β n s M' := by
    refine mb_up ?_ ?_
    · intro M1 o1 hq f1 e1
      obtain ⟨M', hs', m'⟩ := fin59 M1 o1 f1 e1
      refine ⟨M', t_76_13 f1.1 _ ?_, m'⟩
      rw [e1, r1 f1]
      by_cases c : s < n
      · refine mb_n (by rw [mi_le (by omega) (by omega)]; omega) ⟨s, mb_ix (by omega) (by decide), _, M1, f1.1, sk_77 f1.1 _, mb_n ?_ hs'⟩
        rw [r2 f1 c]
        have kb := kof_b (β s)
        exact fun e => hbg.2 c ((mi_eq (a := kof (β s)) (b := 5) (by omega) (by decide)).mp e)
      · exact mb_y (by rw [mi_le (by omega) (by omega)]; omega) hs'
    · intro q hq ih M1 o1 hpq f1 e1
      obtain ⟨M', hs', m'⟩ := ih (ak_sI M1 51 2 (nI (q + 1))) o1 (by omega) (f1.st rfl) mb_sIs
      refine ⟨M', t_76_13 f1.1 _ ?_, m'⟩
      rw [e1, r1 f1]
      refine mb_n (by rw [mi_le (by omega) (by omega)]; omega) ⟨q, mb_ix (by omega) (by decide), _, M1, f1.1, sk_77 f1.1 _, mb_y ?_ fun N e => ?_⟩
      · rw [r2 f1 (by omega), hin q hpq hq]; rfl
      · rw [e1, mi_s] at e
        rw [e]
        exact hs'
  obtain ⟨M', hs', m'⟩ := H p hge (ak_sI M 51 2 (nI p)) none (Nat.le_refl _) (fr.st (S := cT) (fr.rf hL) rfl) mb_sIs
  refine ⟨M', t_76 hL fun N e => ?_, m'⟩
  rw [hpe] at e
  rw [e]
  exact hs'
/-- on to the next token -/
theorem sk_76t (hL : ab_lay M) (hI : Ic β n M) (hT : Tc β n s M) : ∃ M', rn X 76 [.ref 51] M (.inl none, M') ∧ fr cT M M' ∧ Tc β n (nx β n s) M' := by
  refine sk_76 hL hI (te_le hT.1.1) ?_
  rw [hT.2.1, hT.2.2.1, mi_add]
  have := te_ge (β := β) (n := n) (s := s)
  congr 1
  omega
theorem sk_75 (hL : ab_lay M) (hI : Ic β n M) : ∃ M', rn X 75 [.ref 51] M (.inl none, M') ∧ fr cT M M' ∧ Tc β n (rnd β n 5 0) M' := by
  have f : fr cT M (ak_sI (ak_sI M 51 2 0) 51 3 0) := fr.st (S := cT) (fr.st (S := cT) (fr.rf hL) rfl) rfl
  obtain ⟨M', r, g, t⟩ := sk_76 (X := X) (β := β) (n := n) (p := 0) f.1 (cT_I hI f) (Nat.zero_le _) (by rw [mb_sIk (by decide), mb_sIs, mb_sIs]; rfl)
  exact ⟨M', t_75 hL fun N e N2 e2 => by rw [e2, e]; exact ⟨M', g.1, r, rfl⟩, f.tr g, t⟩
end STC
