/-! the law out of the small machine's run -/
/-- what the small machine's side owes: from every script of at most 260 ints its run of the law answers 1, within the room -/
def ak_Top : Prop := ∀ X : ak_X, X.1 ≤ 260 → ∃ (n : Nat) (M' : ak_M), ak_go X n 364 (ak_en 364 [.ref 1000000]) ak_M0 = some (.inl (some (.int 1)), M') ∧ ak_C M' ≤ 600086 ∧ ak_Z M' ≤ 7301442
theorem am_B364 : code = am_B 364 := rfl
theorem am_X364 : am_X 364 = 12 := rfl
theorem am_R364 : am_R 364 = ret := rfl
theorem am_O364 : am_cn (am_O 364) = R_law := rfl
theorem am_H364 : am_H 364 = [] := rfl
theorem am_K364 : am_K 364 ≤ 16 ∧ am_Q 364 ≤ 630 := ⟨Nat.le_of_ble_eq_true rfl, Nat.le_of_ble_eq_true rfl⟩
theorem ak_startT (hTop : ak_Top) {p : Program} {e : Env} {s : State} {m : MethodId} {below : List Frame} {meth : Method} {c : Code} (l : Launch) (hflags : l.flags = flags0) {b L : Nat} {xs : Nat → Int32} (hL : L ≤ 260) (C0 : lw_At p s m meth c b L xs) : W p l e room_1 s m #[Value.ref b] below meth c s.heap [] 0 0 (lw_Z below #[Value.ref b] s) (entryFrame m ([Value.ref b] : List Value).toArray 12) := by
  obtain ⟨X, D, dA, ac, hX1, hX2, hac, hA⟩ := ak_amb0 hL C0
  obtain ⟨hx, hb, hr, hml, hown, hts, hXs, hbl, hlocks, hgv⟩ := C0
  obtain ⟨n, M', hgo, h1, h2⟩ := hTop X (by omega)
  have hl : l.stackTraces = false := by unfold Launch.stackTraces; rw [hflags]; rfl
  have C : ak_cx p l room_1 s m #[Value.ref b] meth c 364 :=
    ⟨hx, by rw [hb]; exact am_B364, by rw [am_O364]; exact hown, fun w hw => ax_hts hts w (List.mem_filter.mp hw).1, by rw [hml, am_X364], by rw [hr, am_R364], hlocks, fun h => absurd rfl h, fun h => absurd rfl h, hl, am_K364.1, am_K364.2, by decide⟩
  have hM : ak_mi D dA ac s.heap.size s s.heap [] ac ak_M0 := by
    refine ⟨Nat.le_refl _, va_S.rf, fun k q h => ?_, ⟨fun i j p q h => ?_, fun k q h => ?_⟩, ⟨by decide, fun p k q h => ?_, fun p h => ?_⟩, fun x _ _ => rfl⟩
    · cases h
    · cases h
    · cases h
    · cases h
    · exact absurd h (Nat.not_lt_zero _)
  have hv : ∀ v ∈ [Value.ref 1000000], ak_okV ak_M0 v := by
    intro v hv
    rw [List.mem_singleton.mp hv]
    exact Or.inr ⟨by decide, by decide⟩
  have hen := ak_entry ac 364 [Value.ref 1000000] (by decide)
  have hent : entryFrame m ([Value.ref b] : List Value).toArray 12 = F0 m 0 ((lg_sl ([Value.ref 1000000].map (ak_v ac)) ++ List.replicate (am_X 364 - (lg_sl ([Value.ref 1000000].map (ak_v ac))).length) Slot.unset).toArray) [] := by
    have e1 : [Value.ref 1000000].map (ak_v ac) = [Value.ref b] := by show [Value.ref (ac 1000000)] = _; rw [hac]
    rw [e1, lg_entry_eq, am_X364]
  rw [hent]
  refine ak_sound (D := D) (dA := dA) (ac := ac) (base := s.heap.size) n 364 (ak_en 364 [.ref 1000000]) ak_M0 _ hgo p l e room_1 s m _ below meth c _ s.heap [] 0 0 600086 7301442 _ ac ac ak_M0 C hA hM ⟨fun v hv => absurd hv List.not_mem_nil, ak_en_ok hv, hen⟩ (fun x hx => ⟨hx, rfl⟩) (Nat.le_refl _) (Nat.le_refl _) (by show 0 + ak_C M' ≤ 600086 + 0; omega) (by show 0 + ak_Z M' ≤ 7301442 + 0; omega) ?_ ?_
  · intro pc' l1' l2' st' M1 H' locs' cells' slots' ls' ad' hS hM1 hF1 hext hb1 hb2
    obtain ⟨ins, hi, hS2⟩ := ak_Sx hS
    have h3 := ak_endle hS
    obtain ⟨nn, hd, hn⟩ := ak_code (by decide) hi
    have hend : ins = .ireturn ∧ st' = [.int 1] := by
      rcases ak_kinds hS2 with hk | ⟨hk, -⟩
      · exfalso
        cases ins <;> first | (cases hk; done) | exact absurd hS2 ak_incl
      · cases ins with
        | ireturn =>
          refine ⟨rfl, ?_⟩
          simp only [ak_x, ak_e] at hS2
          split at hS2
          · split at hS2
            · cases hS2; rfl
            · cases hS2
          · cases hS2
        | areturn =>
          simp only [ak_x, ak_e] at hS2
          repeat' (split at hS2)
          all_goals cases hS2
        | freturn =>
          simp only [ak_x, ak_e] at hS2
          repeat' (split at hS2)
          all_goals cases hS2
        | dreturn =>
          simp only [ak_x, ak_e] at hS2
          repeat' (split at hS2)
          all_goals cases hS2
        | return_ =>
          simp only [ak_x, ak_e] at hS2
          repeat' (split at hS2)
          all_goals cases hS2
        | new _ =>
          simp only [ak_x, ak_e] at hS2
          repeat' (split at hS2)
          all_goals first | (cases hS2; done) | exact absurd hS2 ak_nne
        | _ => cases hk
    obtain ⟨rfl, rfl⟩ := hend
    have h4 : ak_C M1 ≤ ak_C M' := h3.1
    have h5 : ak_Z M1 ≤ ak_Z M' := h3.2.1
    have hb1 : cells' + ak_C M' ≤ 600086 + ak_C M1 := hb1
    have hb2 : slots' + ak_Z M' ≤ 7301442 + ak_Z M1 := hb2
    refine va_forget (fun q hq => hM1.2.1.2.2 q hq) ?_
    refine W.widen (k := 600086) (n := 7301442) (by omega) (by omega) ?_
    exact lw_ret hx hb hr hlocks (by rw [am_B364]; exact ak_d1 hd hn (k := 0) rfl)
  · intro pc' rest E H' locs' cells' slots' ls' ad' q ce hr9
    cases hr9
