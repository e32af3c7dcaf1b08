/-! statics, texts, rows of numbers and of objects -/
section AKE
variable {p : Program} {l : Launch} {e : Env} {R : Room} {s : State} {m : MethodId} {args : Array Value} {below : List Frame} {meth : Method} {c : Code} {Q : State → Prop}
variable {X : ak_X} {D : va_G} {dA : Nat → ClassId} {ac : Nat → Nat} {base : Nat}
variable {mi pc : Nat} {f' : ak_F} {M M' : ak_M} {l1 : List (Option Value)} {l2 : List (Nat × Value)} {st : List Value} {H : Heap} {locs : List Loc} {cells slots : Nat} {ls : Array Slot} {ad : Nat → Nat}
theorem ak_ldcW {own tx : String} {index q : Nat} {cc : ByteArray} {rest : List Value} (hexec : p.tables.exec = Jvm.exec) (hb : c.code = cc) (hown : s.vm.findClass own = some m.cls) (hZ : vk_R own index tx q s) (hdg : decode cc pc = .ok (.ldc_w index, 3))
    (k : W p l e R s m args below meth c H locs cells slots Q (F0 m (pc + 3) ls (.ref q :: rest))) : W p l e R s m args below meth c H locs cells slots Q (F0 m pc ls rest) := by
  intro T hT X
  obtain ⟨t, a1, b1⟩ := k T hT X
  exact ⟨t, X.ldcStringW hexec hown (text := tx) (a := q) hZ.1 hZ.2 (g := F0 m pc ls rest) rfl (by rw [hb]; exact hdg) t a1, b1⟩
theorem ak_cT100 (hA : ak_amb X D dA ac (ak_A base) s s.heap) {q : Nat} (h1 : 1000000 ≤ q) (h2 : ak_cK q = 100) : q < 1000004 ∧ va_T .int (ac q) (ak_cN X q) (fun k => .int (ak_cI X q k)) (ak_A base) s s.heap := by
  have hq : q < 1000004 := by
    unfold ak_cK at h2
    split at h2
    · assumption
    · split at h2
      · cases h2
      · split at h2
        · cases h2
        · split at h2 <;> cases h2
  refine ⟨hq, ?_⟩
  by_cases h0 : q = 1000000
  · subst h0
    exact hA.2.1.2
  · obtain ⟨j, rfl⟩ : ∃ j, q = 1000001 + j := ⟨q - 1000001, by omega⟩
    have := (hA.2.2.1 j (by omega)).2
    have e1 : ak_cN X (1000001 + j) = 6 := by unfold ak_cN; rw [if_neg h0, if_pos hq]
    rw [e1]
    exact this
theorem ak_cT101 (hA : ak_amb X D dA ac (ak_A base) s s.heap) {q : Nat} (h1 : 1000000 ≤ q) (h2 : ak_cK q = 101) : q < 1002025 ∧ va_T .byte (ac q) (ak_cN X q) (fun k => .int (ak_cI X q k)) (ak_A base) s s.heap := by
  have hq : (1000004 ≤ q ∧ q < 1000006) ∨ (1002000 ≤ q ∧ q < 1002025) := by
    unfold ak_cK at h2
    split at h2
    · cases h2
    · split at h2
      · left; omega
      · split at h2
        · cases h2
        · split at h2
          · right; assumption
          · cases h2
  rcases hq with hq | hq
  · obtain ⟨j, rfl⟩ : ∃ j, q = 1000004 + j := ⟨q - 1000004, by omega⟩
    refine ⟨by omega, ?_⟩
    have := (hA.2.2.2.2.2.2.2.2.2.2.2.2 j (by omega)).2
    have e1 : ak_cN X (1000004 + j) = 100 := by
      unfold ak_cN; rw [if_neg (by omega), if_neg (by omega), if_pos (by omega)]
    rw [e1]
    exact this
  · obtain ⟨j, rfl⟩ : ∃ j, q = 1002000 + j := ⟨q - 1002000, by omega⟩
    refine ⟨hq.2, ?_⟩
    have := (hA.2.2.2.2.2.1 j (by omega)).2.2.2.2
    have e1 : ak_cN X (1002000 + j) = (am_sb.getD j []).length := by
      unfold ak_cN; rw [if_neg (by omega), if_neg (by omega), if_neg (by omega), show 1002000 + j - 1002000 = j by omega]
    have e2 : (fun k => Value.int (ak_cI X (1002000 + j) k)) = fun k => Value.int ((am_sb.getD j []).getD k 0) := by
      funext k
      unfold ak_cI
      rw [if_neg (by omega), if_neg (by omega), if_neg (by omega), if_neg (by omega), if_neg (by omega), if_neg (by omega), show 1002000 + j - 1002000 = j by omega]
    rw [e1, e2]
    exact this
theorem ak_xsta {idx : Nat} (C : ak_cx p l R s m args meth c mi) (hA : ak_amb X D dA ac (ak_A base) s s.heap) (hd : decode (am_B mi) pc = .ok (.getstatic idx, 3)) (hM : ak_mi D dA ac base s H locs ad M)
    (hS : ak_x X mi (.getstatic idx) pc l1 l2 st M = some (.inl (f', M'))) (hF1 : ∀ v ∈ st, ak_okV M v)
    (kk : ∀ pc' st', ak_n pc' l1 l2 st' M = some (.inl (f', M')) → (∀ v ∈ st', ak_okV M v) → W p l e R s m args below meth c H locs cells slots Q (F0 m pc' ls (st'.map (ak_v ad)))) :
    W p l e R s m args below meth c H locs cells slots Q (F0 m pc ls (st.map (ak_v ad))) := by
  obtain ⟨hx, hb, hown, hts, -⟩ := C
  obtain ⟨-, hSv, -, -, -, hac⟩ := hM
  simp only [ak_x] at hS
  split at hS
  · rename_i w x hf
    obtain ⟨nest, i⟩ := x
    have hs := am_Ss hf
    unfold am_kS1 at hs
    rw [Bool.and_eq_true] at hs
    obtain ⟨h5, hlink⟩ := hs
    have h5 : w < 7 := Nat.le_of_ble_eq_true h5
    have go : ∀ v : Value, va_Z (am_sn w).1 (am_sn w).2.1 (am_sn w).2.2 v (ak_A base) s s.heap → W p l e R s m args below meth c H locs cells slots Q (F0 m (pc + 3) ls (v :: st.map (ak_v ad))) → W p l e R s m args below meth c H locs cells slots Q (F0 m pc ls (st.map (ak_v ad))) := by
      intro v hZ k
      by_cases hn : nest = 0
      · rw [if_pos hn] at hlink
        exact va_gets (ref := (am_sn w).1) hx hb hZ hSv hown (am_okb hts hlink) (fun _ h => h) hd k
      · rw [if_neg hn] at hlink
        exact va_getsN (ref := (am_sn w).1) (host := "KiteQuarrel") hx hb hZ hSv hown (va_Nw.use rfl (hA.2.2.2.2.2.2.2.2.1 _ (am_isb hlink) rfl)) (fun _ h => h) hd k
    split at hS
    · rename_i h3
      refine go _ (hA.2.2.1 w h3).1 ?_
      have := kk _ _ hS (ak_oc (ak_okc (by omega) (by omega)) hF1)
      rw [List.map_cons, show ak_v ad (.ref (1000001 + w)) = .ref (ac (1000001 + w)) by show Value.ref (ad _) = _; rw [hac _ (by omega) (by omega)]] at this
      exact this
    · split at hS
      · rename_i h3
        subst h3
        exact go _ hA.2.2.2.1 (kk _ _ hS (ak_oc trivial hF1))
      · split at hS
        · rename_i h4
          subst h4
          refine go _ hA.2.2.2.2.1 ?_
          have hok : ak_okV M (if X.2.2 = true then Value.null else .ref 1003000) := by
            split
            · trivial
            · exact ak_okc (by omega) (by omega)
          have := kk _ _ hS (ak_oc hok hF1)
          rw [List.map_cons, show ak_v ad (if X.2.2 = true then Value.null else .ref 1003000) = ak_fm X ac by
            unfold ak_fm
            split
            · rfl
            · show Value.ref (ad _) = _; rw [hac _ (by omega) (by omega)]] at this
          exact this
        · rename_i h3 h4 h6
          obtain ⟨j, rfl⟩ : ∃ j, w = 5 + j := ⟨w - 5, by omega⟩
          refine go _ (hA.2.2.2.2.2.2.2.2.2.2.2.2 j (by omega)).1 ?_
          have := kk _ _ hS (ak_oc (ak_okc (by omega) (by omega)) hF1)
          rw [List.map_cons, show ak_v ad (.ref (999999 + (5 + j))) = .ref (ac (1000004 + j)) by show Value.ref (ad _) = _; rw [hac _ (by omega) (by omega), show 999999 + (5 + j) = 1000004 + j by omega]] at this
          exact this
  · cases hS
theorem ak_xldc {ins : Instr} (C : ak_cx p l R s m args meth c mi) (hA : ak_amb X D dA ac (ak_A base) s s.heap) (hi : (∃ idx, ins = .ldc idx ∧ decode (am_B mi) pc = .ok (.ldc idx, 2)) ∨ (∃ idx, ins = .ldc_w idx ∧ decode (am_B mi) pc = .ok (.ldc_w idx, 3)) ∨ ∃ idx, ins = .ldc2_w idx ∧ decode (am_B mi) pc = .ok (.ldc2_w idx, 3)) (hM : ak_mi D dA ac base s H locs ad M)
    (hS : ak_x X mi ins pc l1 l2 st M = some (.inl (f', M'))) (hF1 : ∀ v ∈ st, ak_okV M v)
    (kk : ∀ pc' st', ak_n pc' l1 l2 st' M = some (.inl (f', M')) → (∀ v ∈ st', ak_okV M v) → W p l e R s m args below meth c H locs cells slots Q (F0 m pc' ls (st'.map (ak_v ad)))) :
    W p l e R s m args below meth c H locs cells slots Q (F0 m pc ls (st.map (ak_v ad))) := by
  obtain ⟨hx, hb, hown, hts, -⟩ := C
  obtain ⟨-, hSv, -, -, -, hac⟩ := hM
  rcases hi with ⟨idx, rfl, hd⟩ | ⟨idx, rfl, hd⟩ | ⟨idx, rfl, hd⟩
  · simp only [ak_x] at hS
    split at hS
    · rename_i j hf
      obtain ⟨hj, h1, h2⟩ := am_Gs hf
      have hr := (hA.2.2.2.2.2.1 j hj).1
      rw [h1, h2] at hr
      refine va_ldcS hx hb hown hr hd ?_
      have := kk _ _ hS (ak_oc (ak_okc (by omega) (by omega)) hF1)
      rw [List.map_cons, show ak_v ad (.ref (1001000 + j)) = .ref (ac (1001000 + j)) by show Value.ref (ad _) = _; rw [hac _ (by omega) (by omega)]] at this
      exact this
    · split at hS
      · rename_i v hf
        obtain ⟨i, hk⟩ := am_Us hf
        exact lv_ldc hx hb hown (am_okb hts hk) hd (kk _ _ hS (ak_oc trivial hF1))
      · cases hS
  · simp only [ak_x] at hS
    split at hS
    · rename_i j hf
      obtain ⟨hj, h1, h2⟩ := am_Gs hf
      have hr := (hA.2.2.2.2.2.1 j hj).1
      rw [h1, h2] at hr
      refine ak_ldcW hx hb hown hr hd ?_
      have := kk _ _ hS (ak_oc (ak_okc (by omega) (by omega)) hF1)
      rw [List.map_cons, show ak_v ad (.ref (1001000 + j)) = .ref (ac (1001000 + j)) by show Value.ref (ad _) = _; rw [hac _ (by omega) (by omega)]] at this
      exact this
    · cases hS
  · simp only [ak_x] at hS
    split at hS
    · rename_i v hf
      obtain ⟨i, hk⟩ := am_Js hf
      exact lv_ldc2 hx hb hown (am_okb hts hk) hd (kk _ _ hS (ak_oc trivial hF1))
    · cases hS
theorem ak_t9 (hO : ak_okM M) {q : Nat} (hq : q < ak_P M) (hk : 100 ≤ ak_K M q) : ak_K M q - 100 < 10 := by
  rcases hO.2.2 q hq with h | h <;> omega
set_option maxHeartbeats 1000000 in
theorem ak_xald {ins : Instr} (C : ak_cx p l R s m args meth c mi) (hA : ak_amb X D dA ac (ak_A base) s s.heap) (hi : ins = .arraylength ∨ ins = .iaload ∨ ins = .baload ∨ ins = .aaload) (hd : decode (am_B mi) pc = .ok (ins, 1)) (hM : ak_mi D dA ac base s H locs ad M)
    (hS : ak_x X mi ins pc l1 l2 st M = some (.inl (f', M'))) (hF1 : ∀ v ∈ st, ak_okV M v)
    (kk : ∀ pc' st', ak_n pc' l1 l2 st' M = some (.inl (f', M')) → (∀ v ∈ st', ak_okV M v) → W p l e R s m args below meth c H locs cells slots Q (F0 m pc' ls (st'.map (ak_v ad)))) :
    W p l e R s m args below meth c H locs cells slots Q (F0 m pc ls (st.map (ak_v ad))) := by
  obtain ⟨hx, hb, hown, hts, -⟩ := C
  obtain ⟨-, hSv, hP, hD, hO, hac⟩ := hM
  have hK := hA.1
  rcases hi with rfl | rfl | rfl | rfl
  · simp only [ak_x] at hS
    split at hS
    · rename_i q r
      split at hS
      · rename_i hq
        split at hS
        · rename_i h1
          exact va_alen hx hb hK hP q (ak_K M q - 100) (ak_warr hq rfl h1) (ak_tget (ak_t9 hO hq h1)) rfl hd (kk _ _ hS (ak_oc trivial (ak_o1 hF1)))
        · cases hS
      · split at hS
        · rename_i h1
          obtain ⟨h1, h2⟩ := h1
          show W p l e R s m args below meth c H locs cells slots Q (F0 m pc ls (.ref (ad q) :: r.map (ak_v ad)))
          rcases h2 with h2 | h2
          · obtain ⟨h3, h4⟩ := ak_cT100 hA h1 h2
            rw [hac q h1 (by omega)]
            exact va_tlen hx hb h4 hSv rfl hd (kk _ _ hS (ak_oc trivial (ak_o1 hF1)))
          · obtain ⟨h3, h4⟩ := ak_cT101 hA h1 h2
            rw [hac q h1 (by omega)]
            exact va_tlen hx hb h4 hSv rfl hd (kk _ _ hS (ak_oc trivial (ak_o1 hF1)))
        · cases hS
    · cases hS
  · simp only [ak_x] at hS
    split at hS
    · rename_i i q r
      split at hS
      · rename_i hq
        split at hS
        · rename_i h1
          obtain ⟨h1, h2⟩ := h1
          exact va_iald hx hb hK hP q 0 (ak_warr hq h1 (by omega)) (ak_tget (by omega)) (ak_ixv h2) hd (kk _ _ hS (ak_oc trivial (ak_o2 hF1)))
        · cases hS
      · split at hS
        · rename_i h1
          obtain ⟨h1, h2, h5⟩ := h1
          show W p l e R s m args below meth c H locs cells slots Q (F0 m pc ls (.int i :: .ref (ad q) :: r.map (ak_v ad)))
          obtain ⟨h3, h4⟩ := ak_cT100 hA h1 h2
          rw [hac q h1 (by omega)]
          exact va_ti hx hb h4 hSv (ak_ixv h5) rfl hd (kk _ _ hS (ak_oc trivial (ak_o2 hF1)))
        · cases hS
    · cases hS
  · simp only [ak_x] at hS
    split at hS
    · rename_i i q r
      split at hS
      · rename_i hq
        split at hS
        · rename_i h1
          obtain ⟨h1, h2⟩ := h1
          exact va_bald hx hb hK hP q 1 (ak_warr hq h1 (by omega)) (ak_tget (by omega)) (ak_ixv h2) hd (kk _ _ hS (ak_oc trivial (ak_o2 hF1)))
        · cases hS
      · split at hS
        · rename_i h1
          obtain ⟨h1, h2, h5⟩ := h1
          show W p l e R s m args below meth c H locs cells slots Q (F0 m pc ls (.int i :: .ref (ad q) :: r.map (ak_v ad)))
          obtain ⟨h3, h4⟩ := ak_cT101 hA h1 h2
          rw [hac q h1 (by omega)]
          exact va_tb hx hb h4 hSv (ak_ixv h5) rfl hd (kk _ _ hS (ak_oc trivial (ak_o2 hF1)))
        · cases hS
    · cases hS
  · simp only [ak_x] at hS
    split at hS
    · rename_i i q r
      split at hS
      · rename_i h1
        obtain ⟨hq, h1, h2, h3⟩ := h1
        have hv : va_rf ((ak_R M q i.toNatClampNeg).map ad) = ak_v ad (ak_rv (ak_R M q i.toNatClampNeg)) := by cases ak_R M q i.toNatClampNeg <;> rfl
        have hk : W p l e R s m args below meth c H locs cells slots Q (F0 m (pc + 1) ls (va_rf ((ak_R M q i.toNatClampNeg).map ad) :: r.map (ak_v ad))) := by
          rw [hv]
          exact kk _ _ hS (ak_oc (ak_rv_ok hO _ _) (ak_o2 hF1))
        have hw := ak_warr (ad := ad) (dA := dA) hq rfl (show 100 ≤ ak_K M q by omega)
        have har : ak_ar ad M q (ak_K M q) = .inr (.inr (.inr (.inr (fun k => (ak_R M q k).map ad)))) := by
          unfold ak_ar
          rw [if_neg (by omega), if_neg (by omega), if_neg (by omega)]
        rw [har] at hw
        have ht := ak_tget (dA := dA) (t := ak_K M q - 100) (by omega)
        rcases (show ak_K M q = 105 ∨ ak_K M q = 106 ∨ ak_K M q = 107 ∨ ak_K M q = 108 ∨ ak_K M q = 109 by omega) with h | h | h | h | h
        · rw [h] at hw ht
          exact va_aldq hx hb hK hP q 5 hw ht (ak_ixv h3) hd hk
        · rw [h] at hw ht
          exact va_aldq hx hb hK hP q 6 hw ht (ak_ixv h3) hd hk
        · rw [h] at hw ht
          exact va_aldq hx hb hK hP q 7 hw ht (ak_ixv h3) hd hk
        · rw [h] at hw ht
          exact va_aldq hx hb hK hP q 8 hw ht (ak_ixv h3) hd hk
        · rw [h] at hw ht
          have hin := ak_ixv h3
          have hlt : i.toNatClampNeg < ak_N M q := Nat.not_le.mp fun z => hin (Or.inr z)
          exact W.aald (v := va_rf ((ak_R M q i.toNatClampNeg).map ad)) (ty := .array .byte) hx hb (hP q _ hw) ((hK.2 9 _ ht).1 (ak_N M q) (fun j => va_rf ((ak_R M q j).map ad))) rfl (fun z => by cases z) (by show ¬ (i < 0 ∨ (arrV _ _ _).slots.size ≤ _); rw [arrV_size]; exact hin) (by show (arrV _ _ _).slots[_]? = _; rw [arrV_read _ _ hlt]) rfl rfl hd hk
      · cases hS
    · cases hS
set_option maxHeartbeats 1000000 in
theorem ak_xast {ins : Instr} (C : ak_cx p l R s m args meth c mi) (hA : ak_amb X D dA ac (ak_A base) s s.heap) (hi : ins = .iastore ∨ ins = .bastore ∨ ins = .aastore) (hd : decode (am_B mi) pc = .ok (ins, 1)) (hM : ak_mi D dA ac base s H locs ad M)
    (hS : ak_x X mi ins pc l1 l2 st M = some (.inl (f', M'))) (hF1 : ∀ v ∈ st, ak_okV M v)
    (kk : ∀ pc' st' H' locs', ak_n pc' l1 l2 st' M' = some (.inl (f', M')) → (∀ v ∈ st', ak_okV M v) → ak_mi D dA ac base s H' locs' ad M' → ak_P M' = ak_P M ∧ ak_C M' = ak_C M ∧ ak_Z M' = ak_Z M → W p l e R s m args below meth c H' locs' cells slots Q (F0 m pc' ls (st'.map (ak_v ad)))) :
    W p l e R s m args below meth c H locs cells slots Q (F0 m pc ls (st.map (ak_v ad))) := by
  obtain ⟨hx, hb, hown, hts, -⟩ := C
  obtain ⟨hbs, hSv, hP, hD, hO, hac⟩ := hM
  have hK := hA.1
  have key : ∀ {q : Nat} {x : va_E} {r : List Value} {M1 : ak_M} (H1 : Heap) (locs1 : List Loc), ak_at M M1 q → ak_okM M1 → ak_P M1 = ak_P M ∧ ak_C M1 = ak_C M ∧ ak_Z M1 = ak_Z M → (q < ak_P M → x = ak_ce ad dA M1 q) → ak_n (pc + 1) l1 l2 r M1 = some (.inl (f', M')) → (∀ v ∈ r, ak_okV M v) →
      va_P D vwCl ((ak_w ad dA M).set q (ad q, x)) H1 → va_D (ak_A base) ((ak_w ad dA M).set q (ad q, x)) → va_S (ak_A base) s.heap H1 locs1 → W p l e R s m args below meth c H1 locs1 cells slots Q (F0 m (pc + 1) ls (r.map (ak_v ad))) := by
    intro q x r M1 H1 locs1 hat hO1 hsz hxe hS1 hr h1 h2 h3
    obtain ⟨-, rfl⟩ := ak_inj hS1
    rw [ak_at_w hat hxe] at h1 h2
    exact kk _ _ H1 locs1 hS1 hr ⟨hbs, h3, h1, h2, hO1, hac⟩ hsz
  have arr : ∀ {M1 : ak_M} {q kd : Nat}, ak_at M M1 q → ak_K M q = kd → 100 ≤ kd → ak_ce ad dA M1 q = .inl (dA (kd - 100), ak_N M q, ak_ar ad M1 q kd) := by
    intro M1 q kd hat hk h9
    unfold ak_ce
    rw [hat.2.1, hat.2.2.1, hk, if_neg (by omega)]
  rcases hi with rfl | rfl | rfl
  · simp only [ak_x] at hS
    split at hS
    · rename_i z i q r
      split at hS
      · rename_i h1
        obtain ⟨hq, h1, h2⟩ := h1
        refine va_iast hx hb hK hP hD hSv q 0 (ak_warr hq h1 (by omega)) (ak_tget (by omega)) (ak_ixv h2) hd (fun H1 locs1 a b c => key H1 locs1 ak_atI hO ⟨rfl, rfl, rfl⟩ (fun _ => ?_) hS (ak_o3 hF1) a b c)
        rw [arr ak_atI h1 (by omega)]
        show _ = Sum.inl (dA 0, ak_N M q, Sum.inl (ak_u M.1 q i.toNatClampNeg z q))
        rw [ak_u_at]
        rfl
      · cases hS
    · cases hS
  · simp only [ak_x] at hS
    split at hS
    · rename_i z i q r
      split at hS
      · rename_i h1
        obtain ⟨hq, h2⟩ := h1
        split at hS
        · rename_i h1
          refine va_bast hx hb hK hP hD hSv q 1 (ak_warr hq h1 (by omega)) (ak_tget (by omega)) (ak_ixv h2) hd (fun H1 locs1 a b c => key H1 locs1 ak_atI hO ⟨rfl, rfl, rfl⟩ (fun _ => ?_) hS (ak_o3 hF1) a b c)
          rw [arr ak_atI h1 (by omega)]
          show _ = Sum.inl (dA 1, ak_N M q, Sum.inl (ak_u M.1 q i.toNatClampNeg (vp_nar .byte z) q))
          rw [ak_u_at]
          rfl
        · cases hS
      · cases hS
    · cases hS
  · simp only [ak_x] at hS
    split at hS
    · rename_i z i q r
      split at hS
      · rename_i h1
        obtain ⟨hq, h1, h2, h3, hz, hkz⟩ := h1
        have hO1 : ak_okM (ak_sR M q i.toNatClampNeg (some z)) := by
          refine ⟨hO.1, fun p1 k1 q1 h => ?_, hO.2.2⟩
          by_cases h9 : p1 = q ∧ k1 = i.toNatClampNeg
          · have : ak_u M.2.1 q i.toNatClampNeg (some z) p1 k1 = some q1 := h
            unfold ak_u at this
            rw [if_pos h9] at this
            cases this; exact hz
          · have : ak_u M.2.1 q i.toNatClampNeg (some z) p1 k1 = some q1 := h
            unfold ak_u at this
            rw [if_neg h9] at this
            exact hO.2.1 p1 k1 q1 this
        have hw := ak_warr (ad := ad) (dA := dA) hq rfl (show 100 ≤ ak_K M q by omega)
        have har : ∀ M1 : ak_M, ak_ar ad M1 q (ak_K M q) = .inr (.inr (.inr (.inr (fun k => (ak_R M1 q k).map ad)))) := by
          intro M1
          unfold ak_ar
          rw [if_neg (by omega), if_neg (by omega), if_neg (by omega)]
        rw [har] at hw
        have ht := ak_tget (dA := dA) (t := ak_K M q - 100) (by omega)
        have hfin : (Sum.inl (dA (ak_K M q - 100), ak_N M q, .inr (.inr (.inr (.inr (va_up (fun k => (ak_R M q k).map ad) i.toNatClampNeg (some (ad z))))))) : va_E) = ak_ce ad dA (ak_sR M q i.toNatClampNeg (some z)) q := by
          rw [arr ak_atR rfl (by omega), har]
          refine congrArg (fun f => (Sum.inl (dA (ak_K M q - 100), ak_N M q, .inr (.inr (.inr (.inr f)))) : va_E)) (funext fun k => ?_)
          show _ = Option.map ad (ak_u M.2.1 q i.toNatClampNeg (some z) q k)
          rw [ak_u_at]
          unfold va_up
          by_cases hk : k = i.toNatClampNeg
          · rw [if_pos hk]; simp only [if_pos hk]; rfl
          · rw [if_neg hk]; simp only [if_neg hk]; rfl
        have hgo : ∀ (ci : Nat) (Cn : String) (N : Nat), ci < 14 → vwCl[ci]? = some (Cn, am_tk ci, N) → ak_K M z = ci → ak_ty (ak_K M q - 100) = .object Cn → W p l e R s m args below meth c H locs cells slots Q (F0 m pc ls (.ref (ad z) :: .int i :: .ref (ad q) :: r.map (ak_v ad))) := by
          intro ci Cn N hci hcl hkz hty
          rw [hty] at ht
          exact va_astq (r := (Cn, am_tk ci, N)) hx hb hK hP hD hSv q (ak_K M q - 100) z ci hw ht (ak_wobj hz hkz hci) hcl (ak_ixv h3) hd (fun H1 locs1 a b c => key H1 locs1 ak_atR hO1 ⟨rfl, rfl, rfl⟩ (fun _ => hfin) hS (ak_o3 hF1) a b c)
        rcases (show ak_K M q = 105 ∨ ak_K M q = 106 ∨ ak_K M q = 107 ∨ ak_K M q = 108 by omega) with h | h | h | h
        · rw [h] at hkz
          exact hgo 5 RX5 16 (by omega) rfl hkz (by rw [h]; rfl)
        · rw [h] at hkz
          exact hgo 10 RX10 3 (by omega) rfl hkz (by rw [h]; rfl)
        · rw [h] at hkz
          exact hgo 1 RX1 6 (by omega) rfl hkz (by rw [h]; rfl)
        · rw [h] at hkz
          exact hgo 2 RX2 11 (by omega) rfl hkz (by rw [h]; rfl)
      · cases hS
    · cases hS
end AKE
