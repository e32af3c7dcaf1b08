/-! System.arraycopy and clone of rows of bytes -/
set_option maxRecDepth 100000 in
theorem am_Kn : (List.range 365).all (fun k => Nat.ble 1 (am_K k) && Nat.ble 60 (am_Q k)) = true := by decide +kernel
theorem am_Kn1 {k : Nat} (h : k < 365) : 1 ≤ am_K k ∧ 60 ≤ am_Q k := by
  have := List.all_eq_true.mp am_Kn k (List.mem_range.mpr h)
  rw [Bool.and_eq_true] at this
  exact ⟨Nat.le_of_ble_eq_true this.1, Nat.le_of_ble_eq_true this.2⟩
theorem am_inb {s : State} {args : Array Value} (hts : ∀ w ∈ am_w, w.before args s = true) {w : Jvm.Cond} (h : am_in w = true) : w.before args s = true := by
  unfold am_in at h
  rw [Bool.and_eq_true] at h
  exact hts _ (List.mem_filter.mpr ⟨of_decide_eq_true h.1, h.2⟩)
theorem ak_isB_fit {x : Int32} (h : ak_isB x = true) : fits .byte (.int x) = true := by
  have hz : x.toInt8.toInt32 = x := of_decide_eq_true h
  rw [← hz]; exact pk_fb x
theorem ak_cpy_at {M : ak_M} {f : Nat → Int32} {a sp dp n : Nat} : ak_at M (ak_cpy M f a sp dp n) a :=
  ⟨rfl, rfl, rfl, fun q hq => ⟨funext fun j => if_neg (fun e => hq e.1), rfl, rfl, rfl⟩⟩
theorem ak_cln_at {M : ak_M} {f : Nat → Int32} {n : Nat} : ak_at (ak_new M 101 n n) (ak_cln M f n) (ak_P M) :=
  ⟨rfl, rfl, rfl, fun q hq => ⟨funext fun j => if_neg hq, rfl, rfl, rfl⟩⟩
section AKV
variable {p : Program} {l : Launch} {e : Env} {R : Room} {s : State} {m : MethodId} {args : Array Value} {below : List Frame} {meth : Method} {c : Code} {Q : State → Prop}
variable {X : ak_X} {D : va_G} {dA : Nat → ClassId} {ac : Nat → Nat} {base : Nat}
variable {mi pc : Nat} {f' : ak_F} {M M' : ak_M} {l1 : List (Option Value)} {l2 : List (Nat × Value)} {st : List Value} {H : Heap} {locs : List Loc} {cells slots : Nat} {ls : Array Slot} {ad : Nat → Nat}
theorem ak_catm2 {l : List Value} : ((l.map (ak_v ad)).map fun v => v.category).sum = ak_cat l := by
  unfold ak_cat
  rw [List.map_map]
  exact congrArg List.sum (List.map_congr_left fun v _ => ak_v_cat ad v)
set_option maxHeartbeats 1000000 in
theorem ak_xcpy {idx cal : Nat} {w : Nat × Nat × Nat × Nat} (C : ak_cx p l R s m args meth c mi) (hA : ak_amb X D dA ac (ak_A base) s s.heap) (hL : am_L mi idx = some (cal, 9, w)) (hd : decode (am_B mi) pc = .ok (.invokestatic idx, 3)) (hM : ak_mi D dA ac base s H locs ad M) (hlz : ls.size = am_X mi)
    {n dp sp : Int32} {a b : Nat} {rest : List Value} (hcat : ak_cat rest ≤ 8) (ha : a < ak_P M) (hka : ak_K M a = 101) (hkb : ak_isb M b = true) (h1 : ¬ sp < 0) (h2 : ¬ dp < 0) (h3 : ¬ n < 0) (h4 : sp.toNatClampNeg + n.toNatClampNeg ≤ ak_bn X M b) (h5 : dp.toNatClampNeg + n.toNatClampNeg ≤ ak_N M a)
    (hfit : (List.range n.toNatClampNeg).all (fun i => ak_isB (ak_by X M b (sp.toNatClampNeg + i))) = true)
    (kk : ∀ H' locs', ak_mi D dA ac base s H' locs' ad (ak_cpy M (ak_by X M b) a sp.toNatClampNeg dp.toNatClampNeg n.toNatClampNeg) → W p l e R s m args below meth c H' locs' cells slots Q (F0 m (pc + 3) ls (rest.map (ak_v ad)))) :
    W p l e R s m args below meth c H locs cells slots Q (F0 m pc ls ((Value.int n :: .int dp :: .ref a :: .int sp :: .ref b :: rest).map (ak_v ad))) := by
  obtain ⟨hx, hb, hown, hts, hml, -, -, -, -, -, hfr, hlo, hmi⟩ := C
  obtain ⟨hbs, hSv, hP, hD, hO, hac⟩ := hM
  have hK := hA.1
  have hKn := am_Kn1 hmi
  obtain ⟨iL, iA, iB, iC⟩ := w
  have hs := am_Ls hmi hL
  unfold am_kK1 at hs
  simp only [Bool.and_eq_true] at hs
  obtain ⟨-, ⟨⟨g1, g2⟩, g3⟩, g4⟩ := hs
  have hfit' : ∀ i : Nat, i < n.toNatClampNeg → fits .byte (.int (ak_by X M b (sp.toNatClampNeg + i))) = true := fun i hi => ak_isB_fit (List.all_eq_true.mp hfit i (List.mem_range.mpr hi))
  have hwa := ak_warr (ad := ad) (dA := dA) ha hka (by omega)
  have hlw : (((rest.map (ak_v ad)).map fun v => v.category).sum) + (nativeFrameWords "java/lang/System" "arraycopy" 5 + 11) ≤ R.locals := by
    rw [ak_catm2]
    have : nativeFrameWords "java/lang/System" "arraycopy" 5 + 11 ≤ 40 := by decide +kernel
    omega
  have key : ∀ (H1 : Heap) (locs1 : List Loc), va_P D vwCl ((ak_w ad dA M).set a (ad a, .inl (dA 1, ak_N M a, .inl (va_cpy (ak_by X M b) (ak_I M a) sp.toNatClampNeg dp.toNatClampNeg n.toNatClampNeg)))) H1 → va_D (ak_A base) ((ak_w ad dA M).set a (ad a, .inl (dA 1, ak_N M a, .inl (va_cpy (ak_by X M b) (ak_I M a) sp.toNatClampNeg dp.toNatClampNeg n.toNatClampNeg)))) → va_S (ak_A base) s.heap H1 locs1 →
      W p l e R s m args below meth c H1 locs1 cells slots Q (F0 m (pc + 3) ls (rest.map (ak_v ad))) := by
    intro H1 locs1 a1 a2 a3
    have hx9 : a < ak_P M → (Sum.inl (dA 1, ak_N M a, .inl (va_cpy (ak_by X M b) (ak_I M a) sp.toNatClampNeg dp.toNatClampNeg n.toNatClampNeg)) : va_E) = ak_ce ad dA (ak_cpy M (ak_by X M b) a sp.toNatClampNeg dp.toNatClampNeg n.toNatClampNeg) a := by
      intro _
      unfold ak_ce ak_ar
      have e1 : ak_K (ak_cpy M (ak_by X M b) a sp.toNatClampNeg dp.toNatClampNeg n.toNatClampNeg) a = 101 := hka
      rw [e1, if_neg (by omega), if_pos (by omega)]
      have e3 : ak_I (ak_cpy M (ak_by X M b) a sp.toNatClampNeg dp.toNatClampNeg n.toNatClampNeg) a = va_cpy (ak_by X M b) (ak_I M a) sp.toNatClampNeg dp.toNatClampNeg n.toNatClampNeg := by
        funext j
        show (if a = a ∧ dp.toNatClampNeg ≤ j ∧ j < dp.toNatClampNeg + n.toNatClampNeg then _ else ak_I M a j) = _
        unfold va_cpy
        by_cases hj : dp.toNatClampNeg ≤ j ∧ j < dp.toNatClampNeg + n.toNatClampNeg
        · rw [if_pos ⟨rfl, hj⟩, if_pos hj]
        · rw [if_neg (fun h => hj h.2), if_neg hj]
      rw [e3]
      rfl
    rw [ak_at_w ak_cpy_at hx9] at a1 a2
    exact kk H1 locs1 ⟨hbs, a3, a1, a2, hO, hac⟩
  show W p l e R s m args below meth c H locs cells slots Q (F0 m pc ls (.int n :: .int dp :: .ref (ad a) :: .int sp :: .ref (ad b) :: rest.map (ak_v ad)))
  by_cases hbP : b < ak_P M
  · have hkb' : ak_K M b = 101 := by
      unfold ak_isb at hkb
      rw [if_pos hbP] at hkb
      exact of_decide_eq_true hkb
    have eby : ak_by X M b = ak_I M b := funext fun k => if_pos hbP
    have ebn : ak_bn X M b = ak_N M b := if_pos hbP
    rw [eby] at key hfit'
    rw [ebn] at h4
    exact va_copyi (own := am_cn (am_O mi)) (ty := .byte) hx hb (by rw [hml, hlz]) hown (am_okb hts g1) (am_okb hts g2) (am_okb hts g3) (am_okb hts g4) hK hP hD hSv b a 1 1 (ak_warr hbP hkb' (by omega)) hwa (ak_tget (by omega)) (ak_tget (by omega)) rfl h1 h2 h3 h4 h5 hfit' (by omega) hlw hd key
  · have hkb' : 1002000 ≤ b ∧ b < 1002025 := by
      unfold ak_isb at hkb
      rw [if_neg hbP] at hkb
      exact of_decide_eq_true hkb
    have eby : ak_by X M b = ak_cI X b := funext fun k => if_neg hbP
    have ebn : ak_bn X M b = ak_cN X b := if_neg hbP
    rw [eby] at key hfit'
    rw [ebn] at h4
    have hc : ak_cK b = 101 := by
      unfold ak_cK
      rw [if_neg (by omega), if_neg (by omega), if_neg (by omega), if_pos hkb']
    obtain ⟨-, h9⟩ := ak_cT101 hA (by omega) hc
    rw [hac b (by omega) (by omega)]
    exact vk_copyt (own := am_cn (am_O mi)) hx hb (by rw [hml, hlz]) hown (am_okb hts g1) (am_okb hts g2) (am_okb hts g3) (am_okb hts g4) hK hP hD hSv h9 a 1 hwa (ak_tget (by omega)) h1 h2 h3 h4 h5 hfit' (by omega) hlw hd key
set_option maxRecDepth 100000 in
theorem am_clc : Jvm.Cond.castable "[B" "java/lang/Cloneable" ∈ ax_tbl := by decide +kernel
set_option maxHeartbeats 1000000 in
theorem ak_xcln {idx cal : Nat} {w : Nat × Nat × Nat × Nat} (C : ak_cx p l R s m args meth c mi) (hA : ak_amb X D dA ac (ak_A base) s s.heap) (hL : am_L mi idx = some (cal, 10, w)) (hd : decode (am_B mi) pc = .ok (.invokevirtual idx, 3)) (hM : ak_mi D dA ac base s H locs ad M) (hlz : ls.size = am_X mi)
    {a : Nat} {rest : List Value} (hcat : ak_cat rest ≤ 8) (ha : a < ak_P M) (hka : ak_K M a = 101) (hp : ak_P M < 900000)
    (hfit : (List.range (ak_N M a)).all (fun i => ak_isB (ak_I M a i)) = true) (hF1 : ∀ v ∈ rest, ak_okV M v)
    (hb1 : cells + 1 ≤ R.cells) (hb2 : slots + ak_N M a ≤ R.slots)
    (kk : ∀ ad' H' locs', (∀ v ∈ Value.ref (ak_P M) :: rest, ak_okV (ak_cln M (ak_I M a) (ak_N M a)) v) → ak_mi D dA ac base s H' locs' ad' (ak_cln M (ak_I M a) (ak_N M a)) → (∀ x, ak_okP M x → ad' x = ad x) → (∀ v, ak_okV M v → ak_okV (ak_cln M (ak_I M a) (ak_N M a)) v) →
      W p l e R s m args below meth c H' locs' (cells + 1) (slots + ak_N M a) Q (F0 m (pc + 3) ls ((Value.ref (ak_P M) :: rest).map (ak_v ad')))) :
    W p l e R s m args below meth c H locs cells slots Q (F0 m pc ls ((Value.ref a :: rest).map (ak_v ad))) := by
  obtain ⟨hx, hb, hown, hts, hml, -, -, -, -, -, hfr, hlo, hmi⟩ := C
  obtain ⟨hbs, hSv, hP, hD, hO, hac⟩ := hM
  have hK := hA.1
  have hAf : ∀ q, s.heap.size ≤ q → ak_A base q := fun q h => Nat.le_trans hbs h
  have hKn := am_Kn1 hmi
  obtain ⟨iL, iA, iB, iC⟩ := w
  have hs := am_Ls hmi hL
  unfold am_kK1 at hs
  simp only [Bool.and_eq_true] at hs
  obtain ⟨-, ⟨⟨⟨⟨g1, g2⟩, g3⟩, g4⟩, g5⟩, -⟩ := hs
  have hwa : (ak_w ad dA M)[a]? = some (ad a, .inl (dA 1, (ak_N M a, .inl (ak_I M a)))) := ak_warr ha hka (by omega)
  refine va_clone (own := am_cn (am_O mi)) (ad := "[B") (x := (ak_N M a, .inl (ak_I M a))) (ty := .byte) (cA := dA 1) hx hb (by rw [hml, hlz]) hown (am_okb hts g1) (am_okb hts g3) (am_okb hts g4) (am_okb hts g2) (am_inb hts g5) (hA.2.2.2.2.2.2.2.2.1 _ am_clc rfl) hK hP hD hSv hAf a 1 hwa (ak_tget (by omega)) ((hK.2 1 _ (ak_tget (by omega))).2) ?_ (by omega) ?_ hb1 hb2 hd (fun q H1 _ a1 a2 a3 => ?_)
  · intro i v hi
    have hi : (arrV (dA 1) (ak_N M a) (fun k => .int (ak_I M a k))).slots[i]? = some v := hi
    have hlt : i < ak_N M a := by
      have := (Array.getElem?_eq_some_iff.mp hi).1
      rwa [arrV_size] at this
    rw [arrV_read _ _ hlt] at hi
    cases hi
    exact ak_isB_fit (List.all_eq_true.mp hfit i (List.mem_range.mpr hlt))
  · rw [ak_catm2]; omega
  · have he : ∀ x, ak_okP M x → ak_ad ad (ak_P M) q x = ad x := fun x hx => ak_ad_ne (fun h => ak_P_ok hO (h ▸ hx))
    have hw := ak_new_w (dA := dA) (kd := 101) (ln := ak_N M a) (z := ak_N M a) hO he
    have hx9 : ak_P M < ak_P (ak_new M 101 (ak_N M a) (ak_N M a)) → (Sum.inl (dA 1, (ak_N M a, .inl (ak_I M a))) : va_E) = ak_ce (ak_ad ad (ak_P M) q) dA (ak_cln M (ak_I M a) (ak_N M a)) (ak_P M) := by
      intro _
      unfold ak_ce ak_ar
      have e1 : ak_K (ak_cln M (ak_I M a) (ak_N M a)) (ak_P M) = 101 := if_pos rfl
      have e2 : ak_N (ak_cln M (ak_I M a) (ak_N M a)) (ak_P M) = ak_N M a := if_pos rfl
      have e3 : ak_I (ak_cln M (ak_I M a) (ak_N M a)) (ak_P M) = ak_I M a := funext fun j => if_pos rfl
      rw [e1, e2, e3, if_neg (by omega), if_pos (by omega)]
    have hw2 : ak_w (ak_ad ad (ak_P M) q) dA (ak_cln M (ak_I M a) (ak_N M a)) = ak_w ad dA M ++ [(q, .inl (dA 1, (ak_N M a, .inl (ak_I M a))))] := by
      rw [← ak_at_w ak_cln_at hx9, hw]
      have hlen : (ak_w ad dA M).length = ak_P M := by simp [ak_w]
      rw [List.set_append, if_neg (by omega), hlen, Nat.sub_self, ak_ad_at]
      rfl
    rw [← hw2] at a1 a2
    have hO2 : ak_okM (ak_cln M (ak_I M a) (ak_N M a)) := ak_new_ok (kd := 101) (ln := ak_N M a) (z := ak_N M a) hO hp (Or.inr (by omega))
    have hok : ∀ v, ak_okV M v → ak_okV (ak_cln M (ak_I M a) (ak_N M a)) v := fun v hv => ak_okV_new (kd := 101) (ln := ak_N M a) (z := ak_N M a) hv
    have := kk (ak_ad ad (ak_P M) q) H1 locs (ak_oc (Or.inl (Nat.lt_succ_self _)) (fun v hv => hok v (hF1 v hv))) ⟨hbs, a3, a1, a2, hO2, fun x h5 h6 => by rw [ak_ad_ne (by have := hO.1; omega)]; exact hac x h5 h6⟩ he hok
    rw [List.map_cons, show ak_v (ak_ad ad (ak_P M) q) (.ref (ak_P M)) = .ref q by show Value.ref (ak_ad ad (ak_P M) q (ak_P M)) = _; rw [ak_ad_at], ak_map_ext he hF1] at this
    exact this
theorem ak_xcast {idx : Nat} (C : ak_cx p l R s m args meth c mi) (hA : ak_amb X D dA ac (ak_A base) s s.heap) (hd : decode (am_B mi) pc = .ok (.checkcast idx, 3)) (hM : ak_mi D dA ac base s H locs ad M)
    (hS : ak_x X mi (.checkcast idx) pc l1 l2 st M = some (.inl (f', M'))) (hF1 : ∀ v ∈ st, ak_okV M v)
    (kk : ∀ pc' st', ak_n pc' l1 l2 st' M = some (.inl (f', M')) → (∀ v ∈ st', ak_okV M v) → W p l e R s m args below meth c H locs cells slots Q (F0 m pc' ls (st'.map (ak_v ad)))) :
    W p l e R s m args below meth c H locs cells slots Q (F0 m pc ls (st.map (ak_v ad))) := by
  obtain ⟨hx, hb, hown, hts, -⟩ := C
  obtain ⟨-, hSv, hP, hD, hO, hac⟩ := hM
  have hK := hA.1
  simp only [ak_x] at hS
  split at hS
  · rename_i q r
    split at hS
    · rename_i h0
      obtain ⟨hq, hk, ho, rfl⟩ := h0
      rw [ho] at hown
      exact va_castA (own := RJ7) (nm := "[B") (cA := dA 1) hx hb hown (am_inb hts am_CCk) hP q (ak_warr hq hk (by omega)) ((hK.2 1 _ (ak_tget (by omega))).2) hd (kk _ _ hS hF1)
    · cases hS
  · cases hS
end AKV
