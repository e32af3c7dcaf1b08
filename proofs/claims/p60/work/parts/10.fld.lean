/-! fields, statics, texts: the facts of the tables, and the rows -/
set_option maxRecDepth 100000 in
theorem am_in0 : (u_ws RX0 TX0 4).all (fun w => goodWord w && decide (w ∈ ax_tbl)) = true := by decide +kernel
set_option maxRecDepth 100000 in
theorem am_in1 : (u_ws RX1 TX1 6).all (fun w => goodWord w && decide (w ∈ ax_tbl)) = true := by decide +kernel
set_option maxRecDepth 100000 in
theorem am_in2 : (u_ws RX2 TX2 11).all (fun w => goodWord w && decide (w ∈ ax_tbl)) = true := by decide +kernel
set_option maxRecDepth 100000 in
theorem am_in3 : (u_ws RX3 TX3 3).all (fun w => goodWord w && decide (w ∈ ax_tbl)) = true := by decide +kernel
set_option maxRecDepth 100000 in
theorem am_in4 : (u_ws RX4 TX4 2).all (fun w => goodWord w && decide (w ∈ ax_tbl)) = true := by decide +kernel
set_option maxRecDepth 100000 in
theorem am_in5 : (u_ws RX5 TX5 16).all (fun w => goodWord w && decide (w ∈ ax_tbl)) = true := by decide +kernel
set_option maxRecDepth 100000 in
theorem am_in6 : (u_ws RX6 TX6 3).all (fun w => goodWord w && decide (w ∈ ax_tbl)) = true := by decide +kernel
set_option maxRecDepth 100000 in
theorem am_in7 : (u_ws RX7 TX7 2).all (fun w => goodWord w && decide (w ∈ ax_tbl)) = true := by decide +kernel
set_option maxRecDepth 100000 in
theorem am_in8 : (u_ws RX8 TX8 7).all (fun w => goodWord w && decide (w ∈ ax_tbl)) = true := by decide +kernel
set_option maxRecDepth 100000 in
theorem am_in9 : (u_ws RX9 TX9 4).all (fun w => goodWord w && decide (w ∈ ax_tbl)) = true := by decide +kernel
set_option maxRecDepth 100000 in
theorem am_in10 : (u_ws RX10 TX10 3).all (fun w => goodWord w && decide (w ∈ ax_tbl)) = true := by decide +kernel
set_option maxRecDepth 100000 in
theorem am_in11 : (u_ws RX11 TX11 11).all (fun w => goodWord w && decide (w ∈ ax_tbl)) = true := by decide +kernel
set_option maxRecDepth 100000 in
theorem am_in12 : (u_ws RJ4 TJ4 4).all (fun w => goodWord w && decide (w ∈ ax_tbl)) = true := by decide +kernel
set_option maxRecDepth 100000 in
theorem am_in13 : (u_ws RJ0 TJ0 4).all (fun w => goodWord w && decide (w ∈ ax_tbl)) = true := by decide +kernel
set_option maxRecDepth 100000 in
theorem am_Fn : am_fs.all (fun q => q.2.2.1 != 13 || q.2.2.2.2.1 == 0) = true := by decide +kernel
theorem am_inw {ws : List Jvm.Cond} (h : ws.all (fun w => goodWord w && decide (w ∈ ax_tbl)) = true) : ∀ w ∈ ws, w ∈ am_w := by
  intro w hw
  have h1 := List.all_eq_true.mp h w hw
  rw [Bool.and_eq_true] at h1
  exact List.mem_filter.mpr ⟨of_decide_eq_true h1.2, h1.1⟩
theorem am_cls (ci : Nat) (h : ci < 14) : ∃ (C : String) (N : Nat) (ty : Nat → FieldType), vwCl[ci]? = some (C, am_tk ci, N) ∧ N = am_nf ci ∧ (∀ w ∈ u_ws C (am_tk ci) N, w ∈ am_w) ∧ (∀ k, k < N → parseFieldDescriptor (am_tk ci k).2.2.1 = some (ty k)) ∧ (∀ a, a < N → ∀ b, b < N → a ≠ b → (am_tk ci a).2.1 ≠ (am_tk ci b).2.1) := by
  match ci, h with
  | 0, _ => exact ⟨RX0, 4, tyX0, rfl, by decide +kernel, am_inw am_in0, tyX0_ok, nmX0⟩
  | 1, _ => exact ⟨RX1, 6, tyX1, rfl, by decide +kernel, am_inw am_in1, tyX1_ok, nmX1⟩
  | 2, _ => exact ⟨RX2, 11, tyX2, rfl, by decide +kernel, am_inw am_in2, tyX2_ok, nmX2⟩
  | 3, _ => exact ⟨RX3, 3, tyX3, rfl, by decide +kernel, am_inw am_in3, tyX3_ok, nmX3⟩
  | 4, _ => exact ⟨RX4, 2, tyX4, rfl, by decide +kernel, am_inw am_in4, tyX4_ok, nmX4⟩
  | 5, _ => exact ⟨RX5, 16, tyX5, rfl, by decide +kernel, am_inw am_in5, tyX5_ok, nmX5⟩
  | 6, _ => exact ⟨RX6, 3, tyX6, rfl, by decide +kernel, am_inw am_in6, tyX6_ok, nmX6⟩
  | 7, _ => exact ⟨RX7, 2, tyX7, rfl, by decide +kernel, am_inw am_in7, tyX7_ok, nmX7⟩
  | 8, _ => exact ⟨RX8, 7, tyX8, rfl, by decide +kernel, am_inw am_in8, tyX8_ok, nmX8⟩
  | 9, _ => exact ⟨RX9, 4, tyX9, rfl, by decide +kernel, am_inw am_in9, tyX9_ok, nmX9⟩
  | 10, _ => exact ⟨RX10, 3, tyX10, rfl, by decide +kernel, am_inw am_in10, tyX10_ok, nmX10⟩
  | 11, _ => exact ⟨RX11, 11, tyX11, rfl, by decide +kernel, am_inw am_in11, tyX11_ok, nmX11⟩
  | 12, _ => exact ⟨RJ4, 4, tyJ4, rfl, by decide +kernel, am_inw am_in12, tyJ4_ok, nmJ4⟩
  | 13, _ => exact ⟨RJ0, 4, tyJ0, rfl, by decide +kernel, am_inw am_in13, tyJ0_ok, nmJ0⟩
theorem am_Fs {own idx : Nat} {z : Nat × Nat × Nat × Nat} (h : am_F own idx = some z) : am_kF1 (own, idx, z) = true := by
  unfold am_F at h
  cases hf : am_fs.find? (fun q => q.1 == own && q.2.1 == idx) with
  | none => rw [hf] at h; cases h
  | some q =>
    rw [hf] at h
    cases h
    have h1 := List.all_eq_true.mp am_Fk q (List.mem_of_find?_eq_some hf)
    have h2 := List.find?_some hf
    simp only [Bool.and_eq_true, beq_iff_eq] at h2
    obtain ⟨a, b, c⟩ := q
    obtain ⟨rfl, rfl⟩ := h2
    exact h1
theorem am_Fo {own idx k nest i : Nat} (h : am_F own idx = some (13, k, nest, i)) : nest = 0 := by
  unfold am_F at h
  cases hf : am_fs.find? (fun q => q.1 == own && q.2.1 == idx) with
  | none => rw [hf] at h; cases h
  | some q =>
    rw [hf] at h
    have h1 := List.all_eq_true.mp am_Fn q (List.mem_of_find?_eq_some hf)
    have h2 : q.2.2 = (13, k, nest, i) := Option.some.inj h
    rw [h2] at h1
    simpa using h1
theorem am_Ss {own idx : Nat} {z : Nat × Nat × Nat} (h : am_S own idx = some z) : am_kS1 (own, idx, z) = true := by
  unfold am_S at h
  cases hf : am_ss.find? (fun q => q.1 == own && q.2.1 == idx) with
  | none => rw [hf] at h; cases h
  | some q =>
    rw [hf] at h
    cases h
    have h1 := List.all_eq_true.mp am_Sk q (List.mem_of_find?_eq_some hf)
    have h2 := List.find?_some hf
    simp only [Bool.and_eq_true, beq_iff_eq] at h2
    obtain ⟨a, b, c⟩ := q
    obtain ⟨rfl, rfl⟩ := h2
    exact h1
theorem am_Ws {own idx : Nat} {z : Nat × Nat × Nat × Nat} (h : am_W own idx = some z) : am_kN1 (own, idx, z) = true := by
  unfold am_W at h
  cases hf : am_ns.find? (fun q => q.1 == own && q.2.1 == idx) with
  | none => rw [hf] at h; cases h
  | some q =>
    rw [hf] at h
    cases h
    have h1 := List.all_eq_true.mp am_Nk q (List.mem_of_find?_eq_some hf)
    have h2 := List.find?_some hf
    simp only [Bool.and_eq_true, beq_iff_eq] at h2
    obtain ⟨a, b, c⟩ := q
    obtain ⟨rfl, rfl⟩ := h2
    exact h1
theorem am_Vs {own idx : Nat} {z : Nat × Nat} (h : am_V own idx = some z) : am_kV1 (own, idx, z) = true := by
  unfold am_V at h
  cases hf : am_as.find? (fun q => q.1 == own && q.2.1 == idx) with
  | none => rw [hf] at h; cases h
  | some q =>
    rw [hf] at h
    cases h
    have h1 := List.all_eq_true.mp am_Vk q (List.mem_of_find?_eq_some hf)
    have h2 := List.find?_some hf
    simp only [Bool.and_eq_true, beq_iff_eq] at h2
    obtain ⟨a, b, c⟩ := q
    obtain ⟨rfl, rfl⟩ := h2
    exact h1
theorem am_Ts {own idx : Nat} {z : Nat × Nat × Nat × Nat × Nat} (h : am_T own idx = some z) : am_kX1 (own, idx, z) = true := by
  unfold am_T at h
  cases hf : am_xs.find? (fun q => q.1 == own && q.2.1 == idx) with
  | none => rw [hf] at h; cases h
  | some q =>
    rw [hf] at h
    cases h
    have h1 := List.all_eq_true.mp am_Xk q (List.mem_of_find?_eq_some hf)
    have h2 := List.find?_some hf
    simp only [Bool.and_eq_true, beq_iff_eq] at h2
    obtain ⟨a, b, c⟩ := q
    obtain ⟨rfl, rfl⟩ := h2
    exact h1
theorem am_Us {own idx : Nat} {v : Int32} (h : am_U own idx = some v) : ∃ i, am_kU1 (own, idx, v, i) = true := by
  unfold am_U at h
  cases hf : am_us.find? (fun q => q.1 == own && q.2.1 == idx) with
  | none => rw [hf] at h; cases h
  | some q =>
    rw [hf] at h
    cases h
    have h1 := List.all_eq_true.mp am_Uk q (List.mem_of_find?_eq_some hf)
    have h2 := List.find?_some hf
    simp only [Bool.and_eq_true, beq_iff_eq] at h2
    obtain ⟨a, b, c, d⟩ := q
    obtain ⟨rfl, rfl⟩ := h2
    exact ⟨d, h1⟩
theorem am_Js {own idx : Nat} {v : Int64} (h : am_J own idx = some v) : ∃ i, am_kG1 (own, idx, v, i) = true := by
  unfold am_J at h
  cases hf : am_gs.find? (fun q => q.1 == own && q.2.1 == idx) with
  | none => rw [hf] at h; cases h
  | some q =>
    rw [hf] at h
    cases h
    have h1 := List.all_eq_true.mp am_Gk q (List.mem_of_find?_eq_some hf)
    have h2 := List.find?_some hf
    simp only [Bool.and_eq_true, beq_iff_eq] at h2
    obtain ⟨a, b, c, d⟩ := q
    obtain ⟨rfl, rfl⟩ := h2
    exact ⟨d, h1⟩
theorem am_Ls {k idx : Nat} {z : Nat × Nat × Nat × Nat × Nat × Nat} (hk : k < 365) (h : am_L k idx = some z) : am_kK1 k (idx, z) = true := by
  have hc := am_Kc_all k hk
  unfold am_kK at hc
  unfold am_L at h
  cases hf : (am_ks.getD k []).find? (fun q => q.1 == idx) with
  | none => rw [hf] at h; cases h
  | some q =>
    rw [hf] at h
    cases h
    have h1 := List.all_eq_true.mp hc q (List.mem_of_find?_eq_some hf)
    have h2 := List.find?_some hf
    have h3 : q.1 = idx := by simpa using h2
    obtain ⟨a, b⟩ := q
    subst h3
    exact h1
theorem am_Gs {own idx j : Nat} (h : am_G own idx = some j) : j < 25 ∧ (ak_sw j).1 = own ∧ (ak_sw j).2.1 = idx := by
  unfold am_G at h
  obtain ⟨h1, h2, -⟩ := List.findIdx?_eq_some_iff_getElem.mp h
  simp only [Bool.and_eq_true, beq_iff_eq] at h2
  have hl : am_sr.length = 25 := by decide
  refine ⟨by omega, ?_, ?_⟩
  · unfold ak_sw; rw [List.getD_eq_getElem?_getD, List.getElem?_eq_getElem h1]; exact h2.1
  · unfold ak_sw; rw [List.getD_eq_getElem?_getD, List.getElem?_eq_getElem h1]; exact h2.2
theorem am_okb {s : State} {args : Array Value} (hts : ∀ w ∈ am_w, w.before args s = true) {i : Nat} {w : Jvm.Cond} (h : am_ok i w = true) : w.before args s = true := hts w (am_w_of h)
theorem am_isb {i : Nat} {w : Jvm.Cond} (h : am_is i w = true) : w ∈ ax_tbl := List.mem_of_getElem? (of_decide_eq_true h)
theorem ak_fd_v (ad : Nat → Nat) (M : ak_M) (p ci k : Nat) : ak_fd ad M p ci k = ak_v ad (if am_f ci k = 2 then ak_rv (ak_R M p k) else .int (ak_I M p k)) := by
  unfold ak_fd
  split
  · cases ak_R M p k <;> rfl
  · rfl
theorem ak_rv_ok {M : ak_M} (h : ak_okM M) (p k : Nat) : ak_okV M (ak_rv (ak_R M p k)) := by
  cases hr : ak_R M p k with
  | none => trivial
  | some q => exact Or.inl (h.2.1 p k q hr)
theorem ak_okc {M : ak_M} {p : Nat} (h1 : 1000000 ≤ p) (h2 : p < 3000000) : ak_okV M (.ref p) := Or.inr ⟨h1, by omega⟩
section AKG
variable {p : Program} {l : Launch} {e : Env} {R : Room} {s : State} {m : MethodId} {args : Array Value} {below : List Frame} {meth : Method} {c : Code} {Q : State → Prop}
variable {X : ak_X} {D : va_G} {dA : Nat → ClassId} {ac : Nat → Nat} {base : Nat}
variable {mi pc : Nat} {f' : ak_F} {M M' : ak_M} {l1 : List (Option Value)} {l2 : List (Nat × Value)} {st : List Value} {H : Heap} {locs : List Loc} {cells slots : Nat} {ls : Array Slot} {ad : Nat → Nat}
set_option maxHeartbeats 1000000 in
theorem ak_xget {idx : Nat} (C : ak_cx p l R s m args meth c mi) (hA : ak_amb X D dA ac (ak_A base) s s.heap) (hd : decode (am_B mi) pc = .ok (.getfield idx, 3)) (hM : ak_mi D dA ac base s H locs ad M)
    (hS : ak_x X mi (.getfield idx) pc l1 l2 st M = some (.inl (f', M'))) (hF1 : ∀ v ∈ st, ak_okV M v)
    (kk : ∀ pc' st', ak_n pc' l1 l2 st' M = some (.inl (f', M')) → (∀ v ∈ st', ak_okV M v) → W p l e R s m args below meth c H locs cells slots Q (F0 m pc' ls (st'.map (ak_v ad)))) :
    W p l e R s m args below meth c H locs cells slots Q (F0 m pc ls (st.map (ak_v ad))) := by
  obtain ⟨hx, hb, hown, hts, -⟩ := C
  obtain ⟨-, hSv, hP, hD, hO, hac⟩ := hM
  have hK := hA.1
  simp only [ak_x] at hS
  split at hS
  · rename_i q r
    split at hS
    · rename_i ci k x hf
      obtain ⟨nest, i⟩ := x
      have hs := am_Fs hf
      unfold am_kF1 at hs
      simp only [Bool.and_eq_true] at hs
      obtain ⟨⟨-, hk⟩, hlink⟩ := hs
      split at hS
      · rename_i hq1
        split at hS
        · rename_i hq
          obtain ⟨hci, hq2⟩ := hq
          have hk : k < am_nf ci := Nat.le_of_ble_eq_true hk
          obtain ⟨Cn, N, ty, hcl, hN, hin, -, -⟩ := am_cls ci hci
          have hv : ((List.range (am_nf ci)).map (ak_fd ad M q ci))[k]? = some (ak_fd ad M q ci k) := by simp [hk]
          have hgo : W p l e R s m args below meth c H locs cells slots Q (F0 m (pc + 3) ls (ak_fd ad M q ci k :: r.map (ak_v ad))) := by
            rw [ak_fd_v]
            exact kk _ _ hS (ak_oc (by split; exact ak_rv_ok hO q k; trivial) (ak_o1 hF1))
          by_cases hn : nest = 0
          · rw [if_pos hn] at hlink
            exact va_get (D := D) (Ts := am_w) (N := N) (ref := (am_tk ci k).1) hx hb hts hin hown hK hP q (ak_wobj hq1 hq2 hci) hcl k (by rw [hN]; exact hk) (am_okb hts hlink) (fun _ h => h) hv hd hgo
          · rw [if_neg hn] at hlink
            exact va_getN (D := D) (Ts := am_w) (N := N) (ref := (am_tk ci k).1) (host := "KiteQuarrel") hx hb hts hin hown hK hP q (ak_wobj hq1 hq2 hci) hcl k (by rw [hN]; exact hk) (va_Nw.use rfl (hA.2.2.2.2.2.2.2.2.1 _ (am_isb hlink) rfl)) (fun _ h => h) hv hd hgo
        · cases hS
      · split at hS
        · rename_i hq
          obtain ⟨rfl, hk2, hq1, hq2⟩ := hq
          have hn := am_Fo hf
          rw [if_pos hn] at hlink
          obtain ⟨q, rfl⟩ : ∃ q9 : Nat, q9 = q := ⟨q, rfl⟩
          have hq1 : @LE.le Nat _ 1001000 q := hq1
          have hq2 : @LT.lt Nat _ q 1001025 := hq2
          obtain ⟨j, rfl⟩ : ∃ j : Nat, q = 1001000 + j := ⟨q - 1001000, by omega⟩
          have hj : j < 25 := by omega
          obtain ⟨-, -, hco, hva, -⟩ := hA.2.2.2.2.2.1 j hj
          show W p l e R s m args below meth c H locs cells slots Q (F0 m pc ls (.ref (ad (1001000 + j)) :: r.map (ak_v ad)))
          rw [hac (1001000 + j) (by omega) (by omega)]
          by_cases hk : k = 0
          · subst hk
            refine vk_getf (ref := (am_tk 13 0).1) hx hb hva hSv hown (am_okb hts hlink) (fun _ h => h) hd ?_
            rw [if_pos rfl] at hS
            have := kk _ _ hS (ak_oc (ak_okc (by omega) (by omega)) (ak_o1 hF1))
            have e9 : (Value.ref (1001000 + j + 1000) :: r).map (ak_v ad) = .ref (ac (1002000 + j)) :: r.map (ak_v ad) := by
              show Value.ref (ad (1001000 + j + 1000)) :: _ = _
              rw [hac _ (by omega) (by omega), show 1001000 + j + 1000 = 1002000 + j by omega]
            rw [e9] at this
            exact this
          · obtain rfl : k = 1 := by omega
            refine vk_getf (ref := (am_tk 13 1).1) hx hb hco hSv hown (am_okb hts hlink) (fun _ h => h) hd ?_
            rw [if_neg hk] at hS
            exact kk _ _ hS (ak_oc trivial (ak_o1 hF1))
        · cases hS
    · cases hS
  · cases hS
set_option maxHeartbeats 1000000 in
theorem ak_xput {idx : Nat} (C : ak_cx p l R s m args meth c mi) (hA : ak_amb X D dA ac (ak_A base) s s.heap) (hA0 : am_A mi pc = some (.putfield idx)) (hd : decode (am_B mi) pc = .ok (.putfield idx, 3)) (hM : ak_mi D dA ac base s H locs ad M)
    (hS : ak_x X mi (.putfield idx) pc l1 l2 st M = some (.inl (f', M'))) (hF1 : ∀ v ∈ st, ak_okV M v)
    (kk : ∀ pc' st' H' locs', ak_n pc' l1 l2 st' M' = some (.inl (f', M')) → (∀ v ∈ st', ak_okV M v) → ak_mi D dA ac base s H' locs' ad M' → ak_P M' = ak_P M ∧ ak_C M' = ak_C M ∧ ak_Z M' = ak_Z M → W p l e R s m args below meth c H' locs' cells slots Q (F0 m pc' ls (st'.map (ak_v ad)))) :
    W p l e R s m args below meth c H locs cells slots Q (F0 m pc ls (st.map (ak_v ad))) := by
  obtain ⟨hx, hb, hown, hts, -, -, -, hnm, -, -, -, -, hmi⟩ := C
  obtain ⟨hbs, hSv, hP, hD, hO, hac⟩ := hM
  have hK := hA.1
  simp only [ak_x] at hS
  split at hS
  · rename_i v q r
    split at hS
    · rename_i ci k x hf
      obtain ⟨nest, i⟩ := x
      have hs := am_Fs hf
      unfold am_kF1 at hs
      split at hS
      · rename_i hq
        obtain ⟨hq1, hq2, hci⟩ := hq
        simp only [Bool.and_eq_true] at hs
        obtain ⟨⟨-, hk⟩, hlink⟩ := hs
        have hk : k < am_nf ci := Nat.le_of_ble_eq_true hk
        obtain ⟨Cn, N, ty, hcl, hN, hin, hty, hnd⟩ := am_cls ci hci
        have hpf : am_pf ci k = true := by
          have h1 := List.all_eq_true.mp am_Tk ci (List.mem_range.mpr hci)
          unfold am_kT1 at h1
          rw [Bool.and_eq_true] at h1
          exact List.all_eq_true.mp h1.2 k (List.mem_range.mpr hk)
        have key : ∀ (v : Value) (M1 : ak_M) (ft : FieldType), ak_at M M1 q → ak_okM M1 → v = ak_fd ad M1 q ci k → (∀ j, j ≠ k → ak_fd ad M1 q ci j = ak_fd ad M q ci j) → ak_P M1 = ak_P M ∧ ak_C M1 = ak_C M ∧ ak_Z M1 = ak_Z M → ak_n (pc + 3) l1 l2 r M1 = some (.inl (f', M')) →
            parseFieldDescriptor (am_tk ci k).2.2.1 = some ft → narrow ft v = v → fits ft v = true → W p l e R s m args below meth c H locs cells slots Q (F0 m pc ls (v :: .ref (ad q) :: r.map (ak_v ad))) := by
          intro v M1 ft hat hO1 hv ho hsz hS1 hft hnar hfit
          obtain ⟨-, rfl⟩ := ak_inj hS1
          have hset : (ak_w ad dA M).set q (ad q, .inr (ci, ((List.range (am_nf ci)).map (ak_fd ad M q ci)).set k v)) = ak_w ad dA M' := by
            refine ak_at_w hat (fun _ => ?_)
            rw [ak_set_fld hv ho]
            unfold ak_ce
            rw [hat.2.1, hq2, if_pos hci]
          have hfin : ∀ (H1 : Heap) (locs1 : List Loc), va_P D vwCl ((ak_w ad dA M).set q (ad q, .inr (ci, ((List.range (am_nf ci)).map (ak_fd ad M q ci)).set k v))) H1 → va_D (ak_A base) ((ak_w ad dA M).set q (ad q, .inr (ci, ((List.range (am_nf ci)).map (ak_fd ad M q ci)).set k v))) → va_S (ak_A base) s.heap H1 locs1 → W p l e R s m args below meth c H1 locs1 cells slots Q (F0 m (pc + 3) ls (r.map (ak_v ad))) := by
            intro H1 locs1 h1 h2 h3
            rw [hset] at h1 h2
            exact kk _ _ H1 locs1 hS1 (ak_o2 hF1) ⟨hbs, h3, h1, h2, hO1, hac⟩ hsz
          by_cases hfn : (am_tk ci k).2.2.2 = true
          · have hc9 := am_Pc_all mi hmi
            have hp9 : ∃ q0 ∈ am_cs mi, q0.2 = .putfield idx := by
              unfold am_A at hA0
              cases hf9 : (am_cs mi).find? (fun q => q.1 == pc) with
              | none => rw [hf9] at hA0; cases hA0
              | some q0 => rw [hf9] at hA0; exact ⟨q0, List.mem_of_find?_eq_some hf9, Option.some.inj hA0⟩
            obtain ⟨q0, hq0, hq9⟩ := hp9
            have h9 := List.all_eq_true.mp hc9 q0 hq0
            unfold am_kP1 at h9
            rw [hq9] at h9
            simp only [hf, hfn, if_true, Bool.and_eq_true, decide_eq_true_eq, beq_iff_eq, bne_iff_ne, ne_eq] at h9
            obtain ⟨⟨⟨g1, g2⟩, g3⟩, g4⟩ := h9
            rw [if_pos g3] at hlink
            exact va_putF (D := D) (Ts := am_w) (N := N) (ref := (am_tk ci k).1) hx hb hts hin ty hty hnd hown hK hP hD hSv q (ak_wobj hq1 hq2 hci) hcl k (by rw [hN]; exact hk) (am_okb hts hlink) (fun _ h => h) hfn (by rw [hnm g4]; exact g1) g2 hft hnar hfit (by simp [hk]) hd hfin
          · have hfn : (am_tk ci k).2.2.2 = false := by cases h : (am_tk ci k).2.2.2 with | true => exact absurd h hfn | false => rfl
            by_cases hn : nest = 0
            · rw [if_pos hn] at hlink
              exact va_put (D := D) (Ts := am_w) (N := N) (ref := (am_tk ci k).1) hx hb hts hin ty hty hnd hown hK hP hD hSv q (ak_wobj hq1 hq2 hci) hcl k (by rw [hN]; exact hk) (am_okb hts hlink) (fun _ h => h) hfn hft hnar hfit (by simp [hk]) hd hfin
            · rw [if_neg hn] at hlink
              exact va_putN (D := D) (Ts := am_w) (N := N) (ref := (am_tk ci k).1) (host := "KiteQuarrel") hx hb hts hin ty hty hnd hown hK hP hD hSv q (ak_wobj hq1 hq2 hci) hcl k (by rw [hN]; exact hk) (va_Nw.use rfl (hA.2.2.2.2.2.2.2.2.1 _ (am_isb hlink) rfl)) (fun _ h => h) hfn hft hnar hfit (by simp [hk]) hd hfin
        unfold am_pf at hpf
        cases v with
        | int z =>
          simp only at hS
          split at hS
          · rename_i h0
            have hn2 : ¬ am_f ci k = 2 := by rcases h0 with h | ⟨h, -⟩ | ⟨h, -⟩ <;> omega
            have hO1 : ak_okM (ak_sI M q k z) := hO
            have hv : Value.int z = ak_fd ad (ak_sI M q k z) q ci k := by
              unfold ak_fd; rw [if_neg hn2]; show _ = Value.int (ak_u M.1 q k z q k); rw [ak_u_s]
            have ho : ∀ j, j ≠ k → ak_fd ad (ak_sI M q k z) q ci j = ak_fd ad M q ci j := by
              intro j hj; unfold ak_fd; show (if _ then _ else Value.int (ak_u M.1 q k z q j)) = _; rw [ak_u_o hj]; rfl
            rcases h0 with h0 | ⟨h0, h01⟩ | ⟨h0, h01⟩
            · have hft : parseFieldDescriptor (am_tk ci k).2.2.1 = some .int := by
                revert hpf; cases hp : parseFieldDescriptor (am_tk ci k).2.2.1 with
                | none => intro h; cases h
                | some t => cases t <;> simp [h0]
              exact key _ _ .int ak_atI hO1 hv ho ⟨rfl, rfl, rfl⟩ hS hft rfl rfl
            · have hft : parseFieldDescriptor (am_tk ci k).2.2.1 = some .boolean := by
                revert hpf; cases hp : parseFieldDescriptor (am_tk ci k).2.2.1 with
                | none => intro h; cases h
                | some t => cases t <;> simp [h0]
              refine key _ _ .boolean ak_atI hO1 hv ho ⟨rfl, rfl, rfl⟩ hS hft ?_ ?_
              · rcases h01 with rfl | rfl <;> rfl
              · rcases h01 with rfl | rfl <;> rfl
            · have hft : parseFieldDescriptor (am_tk ci k).2.2.1 = some .byte := by
                revert hpf; cases hp : parseFieldDescriptor (am_tk ci k).2.2.1 with
                | none => intro h; cases h
                | some t => cases t <;> simp [h0]
              have hz : z.toInt8.toInt32 = z := of_decide_eq_true h01
              refine key _ _ .byte ak_atI hO1 hv ho ⟨rfl, rfl, rfl⟩ hS hft ?_ ?_
              · exact congrArg Value.int hz
              · rw [← hz]; exact pk_fb z
          · cases hS
        | ref z =>
          simp only at hS
          split at hS
          · rename_i h0
            obtain ⟨h0, hz⟩ := h0
            have hO1 : ak_okM (ak_sR M q k (some z)) := by
              refine ⟨hO.1, fun p1 k1 q1 h => ?_, hO.2.2⟩
              by_cases h9 : p1 = q ∧ k1 = k
              · have : ak_u M.2.1 q k (some z) p1 k1 = some q1 := h
                unfold ak_u at this
                rw [if_pos h9] at this
                cases this; exact hz
              · have : ak_u M.2.1 q k (some z) p1 k1 = some q1 := h
                unfold ak_u at this
                rw [if_neg h9] at this
                exact hO.2.1 p1 k1 q1 this
            have hv : Value.ref (ad z) = ak_fd ad (ak_sR M q k (some z)) q ci k := by
              unfold ak_fd; rw [if_pos h0]; show _ = va_rf (Option.map ad (ak_u M.2.1 q k (some z) q k)); rw [ak_u_s]; rfl
            have ho : ∀ j, j ≠ k → ak_fd ad (ak_sR M q k (some z)) q ci j = ak_fd ad M q ci j := by
              intro j hj; unfold ak_fd; show (if _ then va_rf (Option.map ad (ak_u M.2.1 q k (some z) q j)) else _) = _; rw [ak_u_o hj]; rfl
            cases hp : parseFieldDescriptor (am_tk ci k).2.2.1 with
            | none => rw [hp] at hpf; cases hpf
            | some t =>
              have hnar : narrow t (.ref (ad z)) = .ref (ad z) := by
                rw [hp] at hpf
                cases t <;> first | rfl | (simp [h0] at hpf; done)
              have hfit : fits t (.ref (ad z)) = true := by
                rw [hp] at hpf
                cases t <;> first | rfl | (simp [h0] at hpf; done)
              exact key _ _ t ak_atR hO1 hv ho ⟨rfl, rfl, rfl⟩ hS hp hnar hfit
          · cases hS
        | _ => cases hS
      · cases hS
    · cases hS
  · cases hS
end AKG
