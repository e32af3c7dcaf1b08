/-! new byte[n][k] -/
theorem ak_mna_ok {M : ak_M} {n k : Nat} (hO : ak_okM M) (hp : ak_P M < 900000) (hn : n ≤ 1000) : ak_okM (ak_mna M n k) := by
  refine ⟨by show ak_P M + 1 + n ≤ 950000; omega, fun p j q h => ?_, fun p h => ?_⟩
  · have h : (if p = ak_P M then (if j < n then some (ak_P M + 1 + j) else none) else if ak_P M ≤ p ∧ p ≤ ak_P M + n then none else ak_R M p j) = some q := h
    show q < ak_P M + 1 + n
    split at h
    · split at h
      · cases h; omega
      · cases h
    · split at h
      · cases h
      · have := hO.2.1 p j q h
        omega
  · have h : p < ak_P M + 1 + n := h
    show (if p = ak_P M then 109 else if ak_P M ≤ p ∧ p ≤ ak_P M + n then 101 else ak_K M p) < 14 ∨ _ ≤ (if p = ak_P M then 109 else if ak_P M ≤ p ∧ p ≤ ak_P M + n then 101 else ak_K M p) ∧ (if p = ak_P M then 109 else if ak_P M ≤ p ∧ p ≤ ak_P M + n then 101 else ak_K M p) ≤ _
    split
    · exact Or.inr (by omega)
    · split
      · exact Or.inr (by omega)
      · exact hO.2.2 p (by omega)
theorem ak_okV_mna {M : ak_M} {n k : Nat} {v : Value} (h : ak_okV M v) : ak_okV (ak_mna M n k) v := by
  cases v with
  | ref p =>
    rcases h with h | h
    · exact Or.inl (Nat.lt_of_lt_of_le h (by show ak_P M ≤ ak_P M + 1 + n; omega))
    · exact Or.inr ⟨h.1, Nat.lt_of_lt_of_le h.2 (by show 3000000 + ak_C M ≤ 3000000 + (ak_C M + 1 + n); omega)⟩
  | _ => trivial
def ak_adm (ad : Nat → Nat) (p n q : Nat) (r : Nat → Nat) : Nat → Nat := fun x => if x = p then q else if p < x ∧ x ≤ p + n then r (x - p - 1) else ad x
theorem ak_mna_ce {ad ad' : Nat → Nat} {dA : Nat → ClassId} {M : ak_M} {n k q : Nat} (hO : ak_okM M) (he : ∀ p, ak_okP M p → ad' p = ad p) (hq : q < ak_P M) : ak_ce ad' dA (ak_mna M n k) q = ak_ce ad dA M q := by
  have h1 : ¬ q = ak_P M := by omega
  have h2 : ¬ (ak_P M ≤ q ∧ q ≤ ak_P M + n) := by omega
  have e1 : ak_K (ak_mna M n k) q = ak_K M q := (if_neg h1).trans (if_neg h2)
  have e2 : ak_N (ak_mna M n k) q = ak_N M q := (if_neg h1).trans (if_neg h2)
  have e3 : ak_I (ak_mna M n k) q = ak_I M q := funext fun j => if_neg h2
  have e4 : ak_R (ak_mna M n k) q = ak_R M q := funext fun j => (if_neg h1).trans (if_neg h2)
  have e5 : ak_L (ak_mna M n k) q = ak_L M q := funext fun j => if_neg h2
  have e6 : ak_D (ak_mna M n k) q = ak_D M q := funext fun j => if_neg h2
  have e7 : ∀ k, (ak_R M q k).map ad' = (ak_R M q k).map ad := by
    intro k
    cases hr : ak_R M q k with
    | none => rfl
    | some y => show some (ad' y) = some (ad y); rw [he y (Or.inl (hO.2.1 q k y hr))]
  unfold ak_ce ak_ar
  rw [e1, e2, e3, e5, e6, e4, show ak_fd ad' (ak_mna M n k) q = ak_fd ad M q from funext fun ci => funext fun k => by unfold ak_fd; rw [e3, e4, e7], funext e7]
theorem ak_mna_w {ad : Nat → Nat} {dA : Nat → ClassId} {M : ak_M} {n k q : Nat} {r : Nat → Nat} (hO : ak_okM M) : ak_w (ak_adm ad (ak_P M) n q r) dA (ak_mna M n k) =
    (ak_w ad dA M ++ [(q, .inl (dA 9, n, .inr (.inr (.inr (.inr (fun i => if i < n then some (r i) else none))))))]) ++ (List.range n).map (fun i => (r i, .inl (dA 1, k, .inl (fun _ => 0)))) := by
  have hP9 := hO.1
  have he : ∀ x, ak_okP M x → ak_adm ad (ak_P M) n q r x = ad x ∨ n > 40000 := by
    intro x hx
    by_cases hn : n > 40000
    · exact Or.inr hn
    · refine Or.inl ?_
      unfold ak_adm
      rcases hx with hx | hx
      · rw [if_neg (by omega), if_neg (by omega)]
      · rw [if_neg (by omega), if_neg (by omega)]
  show (List.range (ak_P M + 1 + n)).map _ = _
  rw [List.range_add, List.map_append, List.range_succ, List.map_append, List.map_map]
  refine congr (congrArg _ (congr (congrArg _ (List.map_congr_left fun x hx => ?_)) ?_)) (List.map_congr_left fun x hx => ?_)
  · have hx := List.mem_range.mp hx
    have e0 : ak_adm ad (ak_P M) n q r x = ad x := by unfold ak_adm; rw [if_neg (by omega), if_neg (by omega)]
    have h1 : ¬ x = ak_P M := by omega
    have h2 : ¬ (ak_P M ≤ x ∧ x ≤ ak_P M + n) := by omega
    have e7 : ∀ k, (ak_R M x k).map (ak_adm ad (ak_P M) n q r) = (ak_R M x k).map ad := by
      intro k
      cases hr : ak_R M x k with
      | none => rfl
      | some y =>
        have hy := hO.2.1 x k y hr
        show some (ak_adm ad (ak_P M) n q r y) = some (ad y)
        unfold ak_adm; rw [if_neg (by omega), if_neg (by omega)]
    have e1 : ak_K (ak_mna M n k) x = ak_K M x := (if_neg h1).trans (if_neg h2)
    have e2 : ak_N (ak_mna M n k) x = ak_N M x := (if_neg h1).trans (if_neg h2)
    have e3 : ak_I (ak_mna M n k) x = ak_I M x := funext fun j => if_neg h2
    have e4 : ak_R (ak_mna M n k) x = ak_R M x := funext fun j => (if_neg h1).trans (if_neg h2)
    have e5 : ak_L (ak_mna M n k) x = ak_L M x := funext fun j => if_neg h2
    have e6 : ak_D (ak_mna M n k) x = ak_D M x := funext fun j => if_neg h2
    rw [e0]
    refine congrArg (fun z => (ad x, z)) ?_
    unfold ak_ce ak_ar
    rw [e1, e2, e3, e5, e6, e4, show ak_fd (ak_adm ad (ak_P M) n q r) (ak_mna M n k) x = ak_fd ad M x from funext fun ci => funext fun k => by unfold ak_fd; rw [e3, e4, e7], funext e7]
  · have e0 : ak_adm ad (ak_P M) n q r (ak_P M) = q := if_pos rfl
    have e1 : ak_K (ak_mna M n k) (ak_P M) = 109 := if_pos rfl
    have e2 : ak_N (ak_mna M n k) (ak_P M) = n := if_pos rfl
    have e4 : ∀ j, ak_R (ak_mna M n k) (ak_P M) j = if j < n then some (ak_P M + 1 + j) else none := fun j => if_pos rfl
    have e5 : ∀ j, (ak_R (ak_mna M n k) (ak_P M) j).map (ak_adm ad (ak_P M) n q r) = if j < n then some (r j) else none := by
      intro j
      rw [e4]
      by_cases hj : j < n
      · rw [if_pos hj, if_pos hj]
        show some (ak_adm ad (ak_P M) n q r (ak_P M + 1 + j)) = _
        unfold ak_adm
        rw [if_neg (by omega), if_pos (by omega), show ak_P M + 1 + j - ak_P M - 1 = j by omega]
      · rw [if_neg hj, if_neg hj]; rfl
    show [(ak_adm ad (ak_P M) n q r (ak_P M), ak_ce (ak_adm ad (ak_P M) n q r) dA (ak_mna M n k) (ak_P M))] = _
    rw [e0]
    unfold ak_ce ak_ar
    rw [e1, e2, funext e5]
    rfl
  · have hx := List.mem_range.mp hx
    have e0 : ak_adm ad (ak_P M) n q r (ak_P M + 1 + x) = r x := by unfold ak_adm; rw [if_neg (by omega), if_pos (by omega), show ak_P M + 1 + x - ak_P M - 1 = x by omega]
    have h1 : ¬ ak_P M + 1 + x = ak_P M := by omega
    have h2 : ak_P M ≤ ak_P M + 1 + x ∧ ak_P M + 1 + x ≤ ak_P M + n := by omega
    have e1 : ak_K (ak_mna M n k) (ak_P M + 1 + x) = 101 := (if_neg h1).trans (if_pos h2)
    have e2 : ak_N (ak_mna M n k) (ak_P M + 1 + x) = k := (if_neg h1).trans (if_pos h2)
    have e3 : ak_I (ak_mna M n k) (ak_P M + 1 + x) = fun _ => 0 := funext fun j => if_pos h2
    show (ak_adm ad (ak_P M) n q r (ak_P M + 1 + x), ak_ce (ak_adm ad (ak_P M) n q r) dA (ak_mna M n k) (ak_P M + 1 + x)) = _
    rw [e0]
    unfold ak_ce ak_ar
    rw [e1, e2, e3]
    rfl
section AKM
variable {p : Program} {l : Launch} {e : Env} {R : Room} {s : State} {m : MethodId} {args : Array Value} {below : List Frame} {meth : Method} {c : Code} {Q : State → Prop}
variable {X : ak_X} {D : va_G} {dA : Nat → ClassId} {ac : Nat → Nat} {base : Nat}
variable {mi pc : Nat} {f' : ak_F} {M M' : ak_M} {l1 : List (Option Value)} {l2 : List (Nat × Value)} {st : List Value} {H : Heap} {locs : List Loc} {cells slots : Nat} {ls : Array Slot} {ad : Nat → Nat}
set_option maxRecDepth 100000 in
theorem am_mw : Jvm.Cond.classLink "KiteQuarrel$Names" 9 "[[B" ∈ am_w := List.mem_filter.mpr ⟨by decide +kernel, rfl⟩
set_option maxHeartbeats 1000000 in
theorem ak_xmna {idx dim : Nat} (C : ak_cx p l R s m args meth c mi) (hA : ak_amb X D dA ac (ak_A base) s s.heap) (hd : decode (am_B mi) pc = .ok (.multianewarray idx dim, 4)) (hM : ak_mi D dA ac base s H locs ad M)
    (hS : ak_x X mi (.multianewarray idx dim) pc l1 l2 st M = some (.inl (f', M'))) (hF1 : ∀ v ∈ st, ak_okV M v) (hb1 : cells + ak_C M' ≤ R.cells + ak_C M) (hb2 : slots + ak_Z M' ≤ R.slots + ak_Z M)
    (kk : ∀ pc' ad' st' H' locs' y z, ak_n pc' l1 l2 st' M' = some (.inl (f', M')) → (∀ v ∈ st', ak_okV M' v) → ak_mi D dA ac base s H' locs' ad' M' → (∀ x, ak_okP M x → ad' x = ad x) → ak_C M' = ak_C M + y ∧ ak_Z M' = ak_Z M + z ∧ (∀ v, ak_okV M v → ak_okV M' v) → W p l e R s m args below meth c H' locs' (cells + y) (slots + z) Q (F0 m pc' ls (st'.map (ak_v ad')))) :
    W p l e R s m args below meth c H locs cells slots Q (F0 m pc ls (st.map (ak_v ad))) := by
  obtain ⟨hx, hb, hown, hts, -⟩ := C
  obtain ⟨hbs, hSv, hP, hD, hO, hac⟩ := hM
  have hK := hA.1
  have hAf : ∀ q, s.heap.size ≤ q → ak_A base q := fun q h => Nat.le_trans hbs h
  simp only [ak_x] at hS
  split at hS
  · rename_i k n r
    split at hS
    · rename_i h0
      obtain ⟨ho, rfl, rfl, hp, hn0, hk0, hn9, hk9⟩ := h0
      obtain ⟨-, hM'⟩ := ak_inj hS
      generalize hN : n.toNatClampNeg = n' at *
      generalize hKk : k.toNatClampNeg = k' at *
      have hc9 : cells + (1 + n') ≤ R.cells := by
        have : ak_C M' = ak_C M + 1 + n' := by rw [hM']; rfl
        omega
      have hz9 : slots + (n' + n' * k') ≤ R.slots := by
        have : ak_Z M' = ak_Z M + n' + n' * k' := by rw [hM']; rfl
        omega
      rw [ho] at hown
      have hcy : s.vm.findClass (FieldType.array .byte).toString = some (dA 1) := (hK.2 1 _ (ak_tget (by omega))).2
      have hP0 : va_P D vwCl (ak_w ad dA M ++ va_pl [] (fun _ => .inl (0, 0, .inl (fun _ => 0)))) H := by show va_P D vwCl (ak_w ad dA M ++ []) H; rw [List.append_nil]; exact hP
      have hD0 : va_D (ak_A base) (ak_w ad dA M ++ va_pl [] (fun _ => .inl (0, 0, .inl (fun _ => 0)))) := by show va_D _ (ak_w ad dA M ++ []); rw [List.append_nil]; exact hD
      refine va_mna (X := ak_w ad dA M) (L := []) (f := fun _ => .inl (0, 0, .inl (fun _ => 0))) (ty := .byte) (cy := dA 1) (z := (k', .inl (fun _ => 0))) (own := "KiteQuarrel$Names") hx hb hown (hts _ am_mw) hA.2.2.2.2.2.2.2.2.2.2.2.1 (hts _ am_a1) hcy hK hP0 hD0 hSv hAf hn0 hk0 hN hKk (by omega) (by show k' * 1 ≤ _; omega) (by omega) rfl rfl hc9 hz9 (fun cc => ?_) hd (fun q r9 cA H1 hinj _ hK2 a1 a2 a3 => ?_)
      · unfold Jvm.Free.Multi.innerC
        show _ = arrV cc k' (fun _ => Value.int 0)
        rw [← arrV_new]
        rfl
      · have hcA := ak_tcls hK (show 9 < 10 by omega) hK2
        subst hcA
        have hl : va_pl ([] ++ (List.range n').map r9) (vr_up (fun _ => (.inl (0, 0, .inl (fun _ => 0)) : va_E)) ((List.range n').map r9) (.inl (dA 1, k', .inl (fun _ => 0)))) = (List.range n').map (fun i => (r9 i, (.inl (dA 1, k', .inl (fun _ => 0)) : va_E))) := by
          unfold va_pl
          rw [List.nil_append, List.map_map]
          refine List.map_congr_left fun i hi => ?_
          show (r9 i, vr_up _ _ _ (r9 i)) = _
          rw [vr_up_in (List.mem_map.mpr ⟨i, hi, rfl⟩)]
        rw [hl, ← ak_mna_w hO] at a1 a2
        have he : ∀ x, ak_okP M x → ak_adm ad (ak_P M) n' q r9 x = ad x := by
          intro x hx9
          have hP9 := hO.1
          unfold ak_adm
          rcases hx9 with h | h
          · rw [if_neg (by omega), if_neg (by omega)]
          · rw [if_neg (by omega), if_neg (by omega)]
        subst hM'
        have := kk (pc + 4) (ak_adm ad (ak_P M) n' q r9) _ H1 locs (1 + n') (n' + n' * k') hS (ak_oc (Or.inl (by show ak_P M < ak_P M + 1 + n'; omega)) (fun v hv => ak_okV_mna (ak_o2 hF1 v hv))) ⟨hbs, a3, a1, a2, ak_mna_ok hO hp hn9, fun x h5 h6 => by
          unfold ak_adm
          rw [if_neg (by omega), if_neg (by omega)]
          exact hac x h5 h6⟩ he ⟨by show ak_C M + 1 + n' = _; omega, by show ak_Z M + n' + n' * k' = _; omega, fun v => ak_okV_mna⟩
        rw [List.map_cons, show ak_v (ak_adm ad (ak_P M) n' q r9) (.ref (ak_P M)) = .ref q by show Value.ref (ak_adm ad (ak_P M) n' q r9 (ak_P M)) = _; unfold ak_adm; rw [if_pos rfl], ak_map_ext he (ak_o2 hF1)] at this
        rw [show cells + 1 + n' = cells + (1 + n') by omega, show slots + n' + n' * k' = slots + (n' + n' * k') by omega]
        exact this
    · cases hS
  · cases hS
end AKM
