/-! names told and looked for, both sides -/
/-- the bytes of a text as a list -/
def inp (β : Nat → Int32) (s L : Nat) : List Int32 := (List.range L).map (fun i => β (s + i))
/-- the number of a name -/
def nv (β : Nat → Int32) (s : Nat) : Nat → Nat
  | 0 => 0
  | i + 1 => 27 * nv β s i + (kN (β (s + i)) - 96)
theorem nv_s {β : Nat → Int32} {s i : Nat} : nv β s (i + 1) = 27 * nv β s i + (kN (β (s + i)) - 96) := rfl
def vls (l : List Int32) : Nat := l.foldl (fun a b => 27 * a + (kN b - 96)) 0
theorem vls_ap (l : List Int32) (b : Int32) : vls (l ++ [b]) = 27 * vls l + (kN b - 96) := by
  unfold vls
  rw [List.foldl_append]
  rfl
theorem vls_lts : ∀ f n, n < 27 ^ (f + 1) → vls (lts f n) = n
  | 0, n, h => by
    show 27 * 0 + (kN (nI (96 + n % 27)) - 96) = n
    rw [kN_n (by omega)]
    omega
  | f + 1, n, h => by
    rw [lts_s]
    by_cases c : n ≤ 26
    · rw [if_pos c]
      show 27 * 0 + (kN (nI (96 + n % 27)) - 96) = n
      rw [kN_n (by omega)]
      omega
    · rw [if_neg c, vls_ap, vls_lts f (n / 27) (by rw [Nat.pow_succ] at h; exact Nat.div_lt_of_lt_mul (by rw [Nat.mul_comm]; exact h)), kN_n (by omega)]
      omega
theorem lts_inj {a b : Nat} (ha : a < 387420489) (hb : b < 387420489) : lts 5 a = lts 5 b ↔ a = b := by
  refine ⟨fun h => ?_, fun h => by rw [h]⟩
  have e : 27 ^ (5 + 1) = 387420489 := by decide
  rw [← vls_lts 5 a (by omega), ← vls_lts 5 b (by omega), h]
theorem inp_s (β : Nat → Int32) (s L : Nat) : inp β s (L + 1) = inp β s L ++ [β (s + L)] := by
  unfold inp
  rw [List.range_succ, List.map_append]
  rfl
theorem inp_l (β : Nat → Int32) (s L : Nat) : (inp β s L).length = L := by
  unfold inp
  rw [List.length_map, List.length_range]
theorem inp_g {β : Nat → Int32} {s L i : Nat} (h : i < L) : (inp β s L).getD i 0 = β (s + i) := by
  unfold inp
  rw [List.getD_eq_getElem?_getD, List.getElem?_map, List.getElem?_range h]
  rfl
theorem inp_e {β : Nat → Int32} {s L : Nat} {w : List Int32} : w = inp β s L ↔ w.length = L ∧ ∀ i, i < L → β (s + i) = w.getD i 0 := by
  refine ⟨fun h => ⟨by rw [h, inp_l], fun i hi => by rw [h, inp_g hi]⟩, fun h => ?_⟩
  refine List.ext_getElem (by rw [inp_l]; exact h.1) fun i h1 h2 => ?_
  have hi : i < L := by rw [inp_l] at h2; exact h2
  have a := h.2 i hi
  rw [List.getD_eq_getElem?_getD, List.getElem?_eq_getElem h1] at a
  have b := inp_g (β := β) (s := s) hi
  rw [List.getD_eq_getElem?_getD, List.getElem?_eq_getElem h2] at b
  exact a.symm.trans b.symm
theorem kof_1 {b : Int32} (h : kof b = 1) : ∃ d, 1 ≤ d ∧ d ≤ 26 ∧ b = nI (96 + d) := by
  have t := in32_t.mp (kof_l.mp h)
  have a1 : (97 : Int32).toInt = 97 := by decide
  have a2 : (122 : Int32).toInt = 122 := by decide
  rw [a1, a2] at t
  exact ⟨(b.toInt - 96).toNat, by omega, by omega, mi_of (by omega)⟩
theorem lts_nv {β : Nat → Int32} {s : Nat} : ∀ L f, L ≤ f → (∀ i, i < L + 1 → kof (β (s + i)) = 1) → lts f (nv β s (L + 1)) = inp β s (L + 1) ∧ nv β s (L + 1) < 27 ^ (L + 1) ∧ 1 ≤ nv β s (L + 1)
  | 0, f, _, h => by
    obtain ⟨d, h1, h2, e⟩ := kof_1 (h 0 (by decide))
    have ev : nv β s (0 + 1) = d := by
      show 27 * 0 + (kN (β (s + 0)) - 96) = d
      rw [e, kN_n (by omega)]
      omega
    rw [ev, inp_s]
    refine ⟨?_, by show d < 27; omega, h1⟩
    have e27 : d % 27 = d := by omega
    have g : [nI (96 + d % 27)] = inp β s 0 ++ [β (s + 0)] := by rw [e27, e]; rfl
    cases f with
    | zero => exact g
    | succ f => rw [lts_s, if_pos h2]; exact g
  | L + 1, f, hf, h => by
    obtain ⟨d, h1, h2, e⟩ := kof_1 (h (L + 1) (by omega))
    cases f with
    | zero => omega
    | succ f =>
      obtain ⟨a1, a2, a3⟩ := lts_nv L f (by omega) fun i hi => h i (by omega)
      have ev : nv β s (L + 1 + 1) = 27 * nv β s (L + 1) + d := by
        show 27 * nv β s (L + 1) + (kN (β (s + (L + 1))) - 96) = _
        rw [e, kN_n (by omega)]
        omega
      rw [ev, inp_s]
      refine ⟨?_, by rw [Nat.pow_succ]; omega, by omega⟩
      rw [lts_s, if_neg (by omega), show (27 * nv β s (L + 1) + d) / 27 = nv β s (L + 1) by omega, show (27 * nv β s (L + 1) + d) % 27 = d by omega, a1, e]
theorem wof_c {q q' : Nat → Bool} : ∀ d i, (∀ c, i ≤ c → c < i + d → q c = q' c) → wof q d i = wof q' d i
  | 0, _, _ => rfl
  | d + 1, i, h => by
    unfold wof
    rw [h i (Nat.le_refl _) (by omega), wof_c d (i + 1) fun c h1 h2 => h c (by omega) (by omega)]
/-- the class's names at u -/
def Nn (u : Nat) (ν : Nat → Nat) (nk : Nat) (M : ak_M) : Prop := nk ≤ 10 ∧ ak_I M u 2 = nI nk ∧ ∀ k, k < nk → ν k < 387420489 ∧ ak_I M (u + 12) k = nI (lts 5 (ν k)).length ∧ ∀ j, j < (lts 5 (ν k)).length → ak_I M (u + 2 + k) j = (lts 5 (ν k)).getD j 0
theorem Nn_52 {ν : Nat → Nat} {nk : Nat} {M : ak_M} : Nn 52 ν nk M ↔ Nc ν nk M := Iff.rfl
/-- which name a text is -/
def nof (ν : Nat → Nat) (nk : Nat) (w : List Int32) : Option Nat := wof (fun k => decide (lts 5 (ν k) = w)) nk 0
section SNS
variable {X : ak_X} {M : ak_M} {β : Nat → Int32} {n s L u nk k : Nat} {ν : Nat → Nat}
theorem sk_52 (hL : ab_lay M) (hu : u ∈ ab_nb) (hB : ∀ j, j < n → ak_I M 2 j = β j) (hn : n ≤ 700) (hN : Nn u ν nk M) (hk : k < nk) (hs : s + (lts 5 (ν k)).length ≤ n) : rn X 52 [.ref u, .int (nI k), .ref 2, .int (nI s)] M (.inl (some (.int (bI (decide (lts 5 (ν k) = inp β s (lts 5 (ν k)).length))))), M) := by
  have h10 := hN.1
  obtain ⟨n1, n2, n3⟩ := hN.2.2 k hk
  have n6 := lts_l 5 (ν k)
  generalize lts 5 (ν k) = w at *
  refine t_52 hL hu _ _ ?_
  by_cases c : w = inp β s w.length
  · rw [decide_eq_true c]
    have c := (inp_e.mp c).2
    refine mb_up (P := fun i => sg X 52 (3, [some (.ref u), some (.int (nI k)), some (.ref 2), some (.int (nI s)), some (.int (nI i))], [], []) M (.inl (some (.int 1)), M)) (n := w.length) ?_ ?_ 0 (Nat.zero_le _)
    · exact t_52_3 hL hu _ _ _ ⟨k, mb_ix (by omega) (by decide), mb_y (by rw [n2]; exact Int32.le_refl _) rfl⟩
    · intro i hi ih
      refine t_52_3 hL hu _ _ _ ⟨k, mb_ix (by omega) (by decide), mb_n (by rw [n2, mi_le (by omega) (by omega)]; omega) (mb_n (by rw [mi_add, show Int32.ofNat 700 = nI 700 from rfl, mi_le (by omega) (by omega)]; omega) ⟨s + i, by rw [mi_add]; exact mb_ix (by omega) (by decide), k, by omega, mb_ix (by omega) (by decide), i, mb_ix (by omega) (by decide), mb_y (by rw [hB _ (by omega), n3 i hi]; exact c i hi) ?_⟩)⟩
      rw [mi_s]
      exact ih
  · rw [decide_eq_false c]
    have H : ∀ d i, i + d = w.length → (∀ j, j < i → β (s + j) = w.getD j 0) → sg X 52 (3, [some (.ref u), some (.int (nI k)), some (.ref 2), some (.int (nI s)), some (.int (nI i))], [], []) M (.inl (some (.int 0)), M) := by
      intro d
      induction d with
      | zero =>
        intro i hi hm
        exact absurd (inp_e.mpr ⟨rfl, fun j hj => hm j (by omega)⟩) c
      | succ d ih =>
        intro i hi hm
        refine t_52_3 hL hu _ _ _ ⟨k, mb_ix (by omega) (by decide), mb_n (by rw [n2, mi_le (by omega) (by omega)]; omega) (mb_n (by rw [mi_add, show Int32.ofNat 700 = nI 700 from rfl, mi_le (by omega) (by omega)]; omega) ⟨s + i, by rw [mi_add]; exact mb_ix (by omega) (by decide), k, by omega, mb_ix (by omega) (by decide), i, mb_ix (by omega) (by decide), ?_⟩)⟩
        rw [hB _ (by omega), n3 i (by omega)]
        by_cases e : β (s + i) = w.getD i 0
        · refine mb_y e ?_
          rw [mi_s]
          refine ih (i + 1) (by omega) fun j hj => ?_
          by_cases ej : j = i
          · rw [ej]; exact e
          · exact hm j (by omega)
        · exact mb_n e rfl
    exact H w.length 0 (by omega) fun j hj => absurd hj (Nat.not_lt_zero _)
theorem sk_51 (hL : ab_lay M) (hu : u ∈ ab_nb) (hB : ∀ j, j < n → ak_I M 2 j = β j) (hn : n ≤ 700) (hN : Nn u ν nk M) (hs : s + L ≤ n) : rn X 51 [.ref u, .ref 2, .int (nI s), .int (nI L)] M (.inl (some (.int (oI (nof ν nk (inp β s L))))), M) := by
  have h10 := hN.1
  refine t_51 hL hu _ _ ?_
  have H : ∀ d i, i + d = nk → sg X 51 (3, [some (.ref u), some (.ref 2), some (.int (nI s)), some (.int (nI L)), some (.int (nI i))], [], []) M (.inl (some (.int (oI (wof (fun k => decide (lts 5 (ν k) = inp β s L)) d i)))), M) := by
    intro d
    induction d with
    | zero =>
      intro i hi
      exact t_51_3 hL hu _ _ _ (mb_y (by rw [hN.2.1, ← hi]; exact Int32.le_refl _) rfl)
    | succ d ih =>
      intro i hi
      obtain ⟨n1, n2, n3⟩ := hN.2.2 i (by omega)
      have n6 := lts_l 5 (ν i)
      refine t_51_3 hL hu _ _ _ (mb_n (by rw [hN.2.1, mi_le (by omega) (by omega)]; omega) ⟨i, mb_ix (by omega) (by decide), ?_⟩)
      rw [n2, mi_s]
      unfold wof
      by_cases el : (lts 5 (ν i)).length = L
      · have s52 := sk_52 (X := X) (s := s) hL hu hB hn hN (k := i) (by omega) (by omega)
        rw [el] at s52
        refine mb_y (by rw [el]) ⟨_, M, hL, s52, ?_⟩
        by_cases c : lts 5 (ν i) = inp β s L
        · rw [decide_eq_true c]; exact mb_n (by decide) rfl
        · rw [decide_eq_false c]; exact mb_y rfl (ih (i + 1) (by omega))
      · rw [decide_eq_false (fun e => el (by rw [e, inp_l]))]
        exact mb_n (fun e => el ((mi_eq (by omega) (by omega)).mp e)) (ih (i + 1) (by omega))
  exact H nk 0 (by omega)
theorem byl : ∀ d, d ≤ 26 → vp_nar .byte (nI (96 + d)) = nI (96 + d) := by
  intro d hd
  rw [vp_nar_byte]
  revert d
  decide +kernel
def nu1 (ν : Nat → Nat) (nk v : Nat) : Nat → Nat := fun k => if k = nk then v else ν k
def cNm (u p k : Nat) : Prop := u ≤ p ∧ p ≤ u + 12
theorem sk_50 (hL : ab_lay M) (hu : u ∈ ab_nb) (hB : ∀ j, j < n → ak_I M 2 j = β j) (hn : n ≤ 700) (hN : Nn u ν nk M) (hk : nk < 10) (hs : s + (L + 1) ≤ n) (h6 : L < 6) (hl : ∀ i, i < L + 1 → kof (β (s + i)) = 1) : ∃ M', rn X 50 [.ref u, .ref 2, .int (nI s), .int (nI (L + 1))] M (.inl none, M') ∧ fr (cNm u) M M' ∧ Nn u (nu1 ν nk (nv β s (L + 1))) (nk + 1) M' := by
  have h2 : 12 < u := by unfold ab_nb at hu; simp only [List.mem_cons, List.not_mem_nil, or_false] at hu; omega
  obtain ⟨a1, a2, a3⟩ := lts_nv (β := β) (s := s) L 5 (by omega) hl
  have a4 : nv β s (L + 1) < 387420489 := by
    have : 27 ^ (L + 1) ≤ 27 ^ 6 := Nat.pow_le_pow_right (by decide) (by omega)
    have e : 27 ^ 6 = 387420489 := by decide
    omega
  have e2 := hN.2.1
  have H : ∀ i, i ≤ L + 1 → ∀ M1, fr (fun p k => p = u + 2 + nk) M M1 → (∀ j, j < i → ak_I M1 (u + 2 + nk) j = β (s + j)) → ∃ M', sg X 50 (26, [some (.ref u), some (.ref 2), some (.int (nI s)), some (.int (nI (L + 1))), some (.int (nI i))], [], []) M1 (.inl none, M') ∧ fr (cNm u) M M' ∧ Nn u (nu1 ν nk (nv β s (L + 1))) (nk + 1) M' := by
    refine mb_up ?_ ?_
    · intro M1 f1 hj
      have e2' : ak_I M1 u 2 = nI nk := by rw [f1.row (p := u) fun k e => by omega]; exact e2
      refine ⟨ak_sI (ak_sI M1 (u + 12) nk (nI (L + 1))) u 2 (nI (nk + 1)), t_50_26 f1.1 hu _ _ _ (mb_y (Int32.le_refl _) ⟨nk, by rw [e2']; exact mb_ix hk (by decide), fun N e N2 e3 => ?_⟩), ((f1.mo fun p k e => ⟨by omega, by omega⟩).st ⟨by omega, by omega⟩).st ⟨Nat.le_refl _, by omega⟩, by omega, mb_sIs, fun k hk' => ?_⟩
      · have e4 : ak_I N u 2 = nI nk := by rw [e, mb_sIr (by omega)]; exact e2'
        rw [e4, mi_s, e] at e3
        rw [e3]
      · unfold nu1
        by_cases ek : k = nk
        · subst ek
          rw [if_pos rfl, a1]
          refine ⟨a4, ?_, fun j hj' => ?_⟩
          · rw [inp_l, mb_sIr (by omega)]; exact mb_sIs
          · rw [inp_l] at hj'
            rw [inp_g hj', mb_sIr (by omega), mb_sIr (by omega)]
            exact hj j hj'
        · rw [if_neg ek]
          obtain ⟨n1, n2, n3⟩ := hN.2.2 k (by omega)
          refine ⟨n1, ?_, fun j hj' => ?_⟩
          · rw [mb_sIr (by omega), mb_sIk ek, f1.row (p := u + 12) fun q e => by omega]
            exact n2
          · rw [mb_sIr (by omega), mb_sIr (by omega), f1.row (p := u + 2 + k) fun q e => by omega]
            exact n3 j hj'
    · intro i hi ih M1 f1 hj
      have e2' : ak_I M1 u 2 = nI nk := by rw [f1.row (p := u) fun k e => by omega]; exact e2
      obtain ⟨d, d1, d2, ed⟩ := kof_1 (hl i hi)
      obtain ⟨M', hs', m'⟩ := ih (ak_sI M1 (u + 2 + nk) i (β (s + i))) (f1.st rfl) fun j hj' => by
        by_cases ej : j = i
        · rw [ej]; exact mb_sIs
        · rw [mb_sIk ej]; exact hj j (by omega)
      refine ⟨M', t_50_26 f1.1 hu _ _ _ (mb_n (by rw [mi_le (by omega) (by omega)]; omega) ⟨nk, hk, by rw [e2']; exact mb_ix hk (by decide), s + i, by rw [mi_add]; exact mb_ix (by omega) (by decide), i, mb_ix (by omega) (by decide), fun N e => ?_⟩), m'⟩
      rw [f1.row (p := 2) fun k e => by omega, hB _ (by omega), ed, byl d d2, ← ed] at e
      rw [e, mi_s]
      exact hs'
  obtain ⟨M', hs', m'⟩ := H 0 (Nat.zero_le _) M (fr.rf hL) fun j hj => absurd hj (Nat.not_lt_zero _)
  refine ⟨M', t_50 hL hu _ _ (mb_n (by rw [e2, show (10 : Int32) = nI 10 from rfl, mi_le (by decide) (by omega)]; omega) (mb_n (by rw [show (6 : Int32) = nI 6 from rfl, mi_lt (by decide) (by omega)]; omega) (mb_n (by rw [mi_add, show Int32.ofNat 700 = nI 700 from rfl, mi_lt (by decide) (by omega)]; omega) hs'))), m'⟩
/-! the model's names -/
/-- so many letters from s on, one to six -/
def nal (β : Nat → Int32) (s L : Nat) : Prop := 1 ≤ L ∧ L ≤ 6 ∧ ∀ i, i < L → kof (β (s + i)) = 1
/-- the names of a row: their numbers, letters alone -/
def NV (σ : Nat → Int32) (ν : Nat → Nat) (nk : Nat) : Prop := ∀ k, k < nk → ν k < 387420489 ∧ kf σ k 14 = nI (ν k) ∧ ∀ b ∈ lts 5 (ν k), kof b = 1
theorem inp_m (i : Nat) (hi : i < L) : β (s + i) ∈ inp β s L := List.mem_map.mpr ⟨i, List.mem_range.mpr hi, rfl⟩
theorem nal_nv (h : nal β s L) : lts 5 (nv β s L) = inp β s L ∧ nv β s L < 387420489 ∧ ∀ b ∈ lts 5 (nv β s L), kof b = 1 := by
  obtain ⟨h1, h2, h3⟩ := h
  obtain ⟨L, rfl⟩ : ∃ L', L = L' + 1 := ⟨L - 1, by omega⟩
  obtain ⟨a1, a2, a3⟩ := lts_nv (β := β) (s := s) L 5 (by omega) h3
  have : 27 ^ (L + 1) ≤ 27 ^ 6 := Nat.pow_le_pow_right (by decide) (by omega)
  have e : 27 ^ 6 = 387420489 := by decide
  refine ⟨a1, by omega, fun b hb => ?_⟩
  rw [a1] at hb
  unfold inp at hb
  obtain ⟨i, hi, rfl⟩ := List.mem_map.mp hb
  exact h3 i (List.mem_range.mp hi)
/-- the model's search is the class's -/
theorem nof_y {σ : Nat → Int32} (hV : NV σ ν nk) (h : nal β s L) : wof (fun k => decide (kf σ k 14 = nI (nv β s L))) nk 0 = nof ν nk (inp β s L) := by
  obtain ⟨a1, a2, a3⟩ := nal_nv h
  refine wof_c nk 0 fun k _ hk => ?_
  obtain ⟨n1, n2, n3⟩ := hV k (by omega)
  rw [n2]
  refine decide_eq_decide.mpr ?_
  rw [mi_eq (by omega) (by omega), ← a1, lts_inj n1 a2]
theorem nof_n {σ : Nat → Int32} (hV : NV σ ν nk) (h : ¬ nal β s L) : nof ν nk (inp β s L) = none := by
  cases e : nof ν nk (inp β s L) with
  | none => rfl
  | some k =>
    have w := wof_s nk 0 k e
    have e := of_decide_eq_true w.2.2
    obtain ⟨n1, n2, n3⟩ := hV k (by omega)
    have n6 := lts_l 5 (ν k)
    rw [e] at n3 n6
    rw [inp_l] at n6
    refine absurd ⟨?_, n6, fun i hi => n3 _ (inp_m i hi)⟩ h
    have : (lts 5 (ν k)).length = L := by rw [e, inp_l]
    have nz : lts 5 (ν k) ≠ [] := by
      rw [lts_s]
      split
      · exact List.cons_ne_nil _ _
      · exact fun e => absurd (List.append_eq_nil_iff.mp e).2 (List.cons_ne_nil _ _)
    have := List.length_pos_iff.mpr nz
    omega
end SNS
