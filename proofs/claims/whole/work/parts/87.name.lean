/-! names: in the model a number to base 27, in the class letters; printed -/
def lts : Nat → Nat → List Int32
  | 0, n => [nI (96 + n % 27)]
  | f + 1, n => if n ≤ 26 then [nI (96 + n % 27)] else lts f (n / 27) ++ [nI (96 + n % 27)]
theorem lts_s (f n : Nat) : lts (f + 1) n = if n ≤ 26 then [nI (96 + n % 27)] else lts f (n / 27) ++ [nI (96 + n % 27)] := rfl
theorem lts_l : ∀ f n, (lts f n).length ≤ f + 1
  | 0, _ => Nat.le_refl _
  | f + 1, n => by
    rw [lts_s]
    split
    · exact Nat.le_add_left _ _
    · rw [List.length_append, List.length_singleton]; have := lts_l f (n / 27); omega
theorem lts_f : ∀ f n, n < 27 ^ (f + 1) → lts (f + 1) n = lts f n
  | 0, n, h => by rw [lts_s, if_pos (by omega)]; rfl
  | f + 1, n, h => by
    by_cases c : n ≤ 26
    · rw [lts_s (f + 1) n, if_pos c, lts_s f n, if_pos c]
    · rw [lts_s (f + 1) n, if_neg c, lts_f f (n / 27) (by rw [Nat.pow_succ] at h; exact Nat.div_lt_of_lt_mul (by rw [Nat.mul_comm]; exact h)), lts_s f n, if_neg c]
theorem lt_f : ∀ d, d < 27 → (97 + nI d) - 1 = nI (96 + d) := by decide +kernel
theorem mi_m27 {a : Nat} (ha : a < 2147483648) : nI a - nI a / 27 * 27 = nI (a % 27) := by
  rw [show (27 : Int32) = nI 27 from rfl, mi_div ha (by decide), mi_mul, mi_sbn (by omega)]
  congr 1
  omega
/-- method k prints the names below b -/
def LL (X : ak_X) (k f b : Nat) : Prop := ∀ (M : ak_M) (l : List Int32) (n : Nat), ab_lay M → Om1 l M → l.length + f + 1 ≤ 640 → n < b → ∃ M', rn X k [.ref 483, .int (nI n)] M (.inl none, M') ∧ fr mo_ou M M' ∧ Om1 (l ++ (lts f n).map by8) M'
section SNM
variable {X : ak_X} {M M' : ak_M} {l : List Int32} {n k : Nat}
theorem sm_ltr (hL : ab_lay M) (h : Om1 l M) (hl : l.length < 640) (hn : n < 2147483648) : ∃ M', rn X 294 [.ref 483, .int ((97 + (nI n - nI n / 27 * 27)) - 1)] M (.inl none, M') ∧ fr mo_ou M M' ∧ Om1 (l ++ [by8 (nI (96 + n % 27))]) M' := by
  rw [mi_m27 hn, lt_f _ (Nat.mod_lt _ (by decide))]
  exact sm_294 hL h hl _
theorem le26 (hn : n < 2147483648) : nI n ≤ 26 ↔ n ≤ 26 := mi_le (a := n) (b := 26) hn (by decide)
theorem sm_lv {k k' f b : Nat} (ht : ∀ {M : ak_M} {r : ak_O × ak_M} (_ : ab_lay M) (x1 : Int32) (_ : (if x1 ≤ 26 then (∃ (M1 : ak_M), ab_lay M1 ∧ rn X 294 [.ref 483, .int ((97 + (x1 - x1 / 27 * 27)) - 1)] M (.inl (none), M1) ∧ r = (.inl none, M1)) else (∃ (M3 : ak_M), ab_lay M3 ∧ rn X k' [.ref 483, .int (x1 / 27)] M (.inl (none), M3) ∧ (∃ (M4 : ak_M), ab_lay M4 ∧ rn X 294 [.ref 483, .int ((97 + (x1 - x1 / 27 * 27)) - 1)] M3 (.inl (none), M4) ∧ r = (.inl none, M4))))), rn X k [.ref 483, .int x1] M r)
    (hb : 27 * b < 2147483648) (ih : LL X k' f b) : LL X k (f + 1) (27 * b) := by
  intro M l n hL h hl hn
  have h31 : n < 2147483648 := by omega
  rw [lts_s]
  by_cases c : n ≤ 26
  · rw [if_pos c]
    obtain ⟨M1, r1, f1, o1⟩ := sm_ltr (X := X) hL h (by omega) h31
    exact ⟨M1, ht hL _ (mb_y ((le26 h31).mpr c) ⟨M1, f1.1, r1, rfl⟩), f1, o1⟩
  · rw [if_neg c]
    obtain ⟨M1, r1, f1, o1⟩ := ih M l (n / 27) hL h (by omega) (Nat.div_lt_of_lt_mul hn)
    have hl1 : (l ++ (lts f (n / 27)).map by8).length < 640 := by rw [List.length_append, List.length_map]; have := lts_l f (n / 27); omega
    obtain ⟨M2, r2, f2, o2⟩ := sm_ltr (X := X) f1.1 o1 hl1 h31
    refine ⟨M2, ht hL _ (mb_n (fun e => c ((le26 h31).mp e)) ⟨M1, f1.1, ?_, M2, f2.1, r2, rfl⟩), f1.tr f2, ?_⟩
    · rw [show (27 : Int32) = nI 27 from rfl, mi_div h31 (by decide)]
      exact r1
    · rw [List.map_append, ← List.append_assoc]
      exact o2
theorem sm_306 (hL : ab_lay M) (h : Om1 l M) (hl : l.length + 8 ≤ 640) (hn : n < 387420489) : ∃ M', rn X 306 [.ref 483, .int (nI n)] M (.inl none, M') ∧ fr mo_ou M M' ∧ Om1 (l ++ (lts 5 n).map by8) M' := by
  have a0 : LL X 300 0 27 := fun M l n hL h hl hn => by
    obtain ⟨M1, r1, f1, o1⟩ := sm_ltr (X := X) hL h (by omega) (n := n) (by omega)
    exact ⟨M1, t_300 hL _ (mb_y ((le26 (by omega)).mpr (by omega)) ⟨M1, f1.1, r1, rfl⟩), f1, o1⟩
  have a1 : LL X 301 1 729 := sm_lv t_301 (b := 27) (by decide) a0
  have a2 : LL X 302 2 19683 := sm_lv t_302 (b := 729) (by decide) a1
  have a3 : LL X 303 3 531441 := sm_lv t_303 (b := 19683) (by decide) a2
  have a4 : LL X 304 4 14348907 := sm_lv t_304 (b := 531441) (by decide) a3
  have a5 : LL X 305 5 387420489 := sm_lv t_305 (b := 14348907) (by decide) a4
  have a5' : LL X 305 5 79536431 := fun M l n hL h hl hn => a5 M l n hL h hl (by omega)
  have e : lts 6 n = lts 5 n := lts_f 5 n (by rw [show 27 ^ (5 + 1) = 387420489 from by decide]; exact hn)
  rw [← e]
  by_cases c : n < 27 * 79536431
  · exact sm_lv t_306 (b := 79536431) (by decide) a5' M l n hL h (by omega) c
  · omega
/-- the class's names are these numbers -/
def Nc (ν : Nat → Nat) (nk : Nat) (M : ak_M) : Prop := nk ≤ 10 ∧ ak_I M 52 2 = nI nk ∧ ∀ k, k < nk → ν k < 387420489 ∧ ak_I M 64 k = nI (lts 5 (ν k)).length ∧ ∀ j, j < (lts 5 (ν k)).length → ak_I M (54 + k) j = (lts 5 (ν k)).getD j 0
theorem nb52 : 52 ∈ ab_nb := by decide
theorem tk_ap (l : List Int32) (i : Nat) (h : i < l.length) : (l.take i).map by8 ++ [by8 (l.getD i 0)] = (l.take (i + 1)).map by8 := by
  rw [List.take_succ, List.map_append]
  congr 1
  rw [List.getD_eq_getElem?_getD, List.getElem?_eq_getElem h]
  rfl
theorem sk_58 (hL : ab_lay M) (h : Oc1 l M) {ν : Nat → Nat} {nk : Nat} (hN : Nc ν nk M) (hk : k < nk) (hl : l.length + 8 ≤ 640) : ∃ M', rn X 58 [.ref 3, .ref 52, .int (nI k)] M (.inl none, M') ∧ fr cO M M' ∧ Oc1 (l ++ (lts 5 (ν k)).map by8) M' := by
  obtain ⟨h10, h2, hN⟩ := hN
  obtain ⟨n1, n2, n3⟩ := hN k hk
  have n6 := lts_l 5 (ν k)
  have hk10 : k < 10 := by omega
  have s := sk_151 (X := X) hL (v := nI k) (lo := 0) (hi := ak_I M 52 2 - 1)
  have hin : in32 (nI k) 0 (ak_I M 52 2 - 1) = true := by rw [h2]; exact (in_nk (n := nk) (by omega)).mpr ⟨k, hk, rfl⟩
  generalize lts 5 (ν k) = w at *
  have H : ∀ i, i ≤ w.length → ∀ M1, fr cO M M1 → Oc1 (l ++ (w.take i).map by8) M1 → ∃ M', sg X 58 (16, [some (.ref 3), some (.ref 52), some (.int (nI k)), some (.int (nI i))], [], []) M1 (.inl none, M') ∧ fr cO M M' ∧ Oc1 (l ++ w.map by8) M' := by
    have rw64 : ∀ M1, fr cO M M1 → ak_I M1 (52 + 12) = ak_I M 64 := fun M1 f => f.row fun k e => by unfold cO at e; omega
    refine mb_up ?_ ?_
    · intro M1 f1 o1
      rw [List.take_length] at o1
      exact ⟨M1, t_58_16 f1.1 nb52 _ _ ⟨k, mb_ix hk10 (by decide), mb_y (by rw [rw64 M1 f1, n2]; exact Int32.le_refl _) rfl⟩, f1, o1⟩
    · intro i hi ih M1 f1 o1
      have hl1 : (l ++ (w.take i).map by8).length < 640 := by rw [List.length_append, List.length_map, List.length_take]; omega
      obtain ⟨M2, r2, f2, o2⟩ := sk_54 (X := X) f1.1 o1 hl1 (w.getD i 0)
      rw [List.append_assoc, tk_ap w i hi] at o2
      obtain ⟨M', h', m'⟩ := ih M2 (f1.tr f2) o2
      rw [← mi_s] at h'
      refine ⟨M', t_58_16 f1.1 nb52 _ _ ⟨k, mb_ix hk10 (by decide), mb_n (by rw [rw64 M1 f1, n2, mi_le (by omega) (by omega)]; omega) ⟨k, hk10, mb_ix hk10 (by decide), i, mb_ix (by omega) (by decide), M2, f2.1, ?_, h'⟩⟩, m'⟩
      rw [show 52 + 2 + k = 54 + k from rfl, f1.row (p := 54 + k) fun q e => by unfold cO at e; omega, n3 i hi]
      exact r2
  obtain ⟨M', h', m'⟩ := H 0 (Nat.zero_le _) M (fr.rf hL) (by rw [List.take_zero, List.map_nil, List.append_nil]; exact h)
  exact ⟨M', t_58 hL nb52 _ ⟨_, M, hL, s, mb_n (by1 hin) h'⟩, m'⟩
end SNM
