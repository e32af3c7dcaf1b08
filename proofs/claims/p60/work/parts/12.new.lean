set_option maxRecDepth 100000 in
theorem am_a0 : (Jvm.Cond.arrayClass (newarray.typeOf .int)) ∈ am_w := List.mem_filter.mpr ⟨by decide +kernel, rfl⟩
set_option maxRecDepth 100000 in
theorem am_a1 : (Jvm.Cond.arrayClass (newarray.typeOf .byte)) ∈ am_w := List.mem_filter.mpr ⟨by decide +kernel, rfl⟩
/-! new objects and rows -/
theorem ak_new_ce {ad ad' : Nat → Nat} {dA : Nat → ClassId} {M : ak_M} {kd ln z q : Nat} (hO : ak_okM M) (he : ∀ p, ak_okP M p → ad' p = ad p) (hq : q < ak_P M) : ak_ce ad' dA (ak_new M kd ln z) q = ak_ce ad dA M q := by
  have hne : ¬ q = ak_P M := by omega
  have e1 : ak_K (ak_new M kd ln z) q = ak_K M q := if_neg hne
  have e2 : ak_N (ak_new M kd ln z) q = ak_N M q := if_neg hne
  have e3 : ak_I (ak_new M kd ln z) q = ak_I M q := funext fun j => if_neg hne
  have e4 : ak_R (ak_new M kd ln z) q = ak_R M q := funext fun j => if_neg hne
  have e5 : ak_L (ak_new M kd ln z) q = ak_L M q := funext fun j => if_neg hne
  have e6 : ak_D (ak_new M kd ln z) q = ak_D M q := funext fun j => if_neg hne
  have e7 : ∀ k, (ak_R M q k).map ad' = (ak_R M q k).map ad := by
    intro k
    cases hr : ak_R M q k with
    | none => rfl
    | some y => show some (ad' y) = some (ad y); rw [he y (Or.inl (hO.2.1 q k y hr))]
  unfold ak_ce ak_ar
  rw [e1, e2, e3, e5, e6, e4, show ak_fd ad' (ak_new M kd ln z) q = ak_fd ad M q from funext fun ci => funext fun k => by unfold ak_fd; rw [e3, e4, e7], funext e7]
theorem ak_new_w {ad ad' : Nat → Nat} {dA : Nat → ClassId} {M : ak_M} {kd ln z : Nat} (hO : ak_okM M) (he : ∀ p, ak_okP M p → ad' p = ad p) : ak_w ad' dA (ak_new M kd ln z) = ak_w ad dA M ++ [(ad' (ak_P M), ak_ce ad' dA (ak_new M kd ln z) (ak_P M))] := by
  show (List.range (ak_P M + 1)).map _ = _
  rw [List.range_succ, List.map_append]
  refine congr (congrArg _ (List.map_congr_left fun q hq => ?_)) rfl
  have hq := List.mem_range.mp hq
  rw [ak_new_ce hO he hq, he q (Or.inl hq)]
theorem ak_new_ok {M : ak_M} {kd ln z : Nat} (hO : ak_okM M) (hp : ak_P M < 900000) (hk : kd < 14 ∨ (100 ≤ kd ∧ kd ≤ 109)) : ak_okM (ak_new M kd ln z) := by
  refine ⟨by show ak_P M + 1 ≤ 950000; omega, fun p k q h => ?_, fun p h => ?_⟩
  · by_cases hpp : p = ak_P M
    · have : (if p = ak_P M then none else ak_R M p k) = some q := h
      rw [if_pos hpp] at this; cases this
    · have : (if p = ak_P M then none else ak_R M p k) = some q := h
      rw [if_neg hpp] at this
      have := hO.2.1 p k q this
      show q < ak_P M + 1
      omega
  · show (if p = ak_P M then kd else ak_K M p) < 14 ∨ (100 ≤ (if p = ak_P M then kd else ak_K M p) ∧ (if p = ak_P M then kd else ak_K M p) ≤ 109)
    by_cases hpp : p = ak_P M
    · rw [if_pos hpp]; exact hk
    · rw [if_neg hpp]
      have h : p < ak_P M + 1 := h
      exact hO.2.2 p (by omega)
theorem ak_okV_new {M : ak_M} {kd ln z : Nat} {v : Value} (h : ak_okV M v) : ak_okV (ak_new M kd ln z) v := by
  cases v with
  | ref p =>
    rcases h with h | h
    · exact Or.inl (Nat.lt_succ_of_lt h)
    · exact Or.inr ⟨h.1, Nat.lt_of_lt_of_le h.2 (Nat.add_le_add_left (Nat.le_succ _) _)⟩
  | _ => trivial
/-- the addresses with one more -/
def ak_ad (ad : Nat → Nat) (p q : Nat) : Nat → Nat := fun x => if x = p then q else ad x
theorem ak_ad_at (ad : Nat → Nat) (p q : Nat) : ak_ad ad p q p = q := if_pos rfl
theorem ak_ad_ne {ad : Nat → Nat} {p q x : Nat} (h : x ≠ p) : ak_ad ad p q x = ad x := if_neg h
theorem ak_P_ok {M : ak_M} (hO : ak_okM M) : ¬ ak_okP M (ak_P M) := by
  have := hO.1
  rintro (h | h) <;> omega
section AKN
variable {p : Program} {l : Launch} {e : Env} {R : Room} {s : State} {m : MethodId} {args : Array Value} {below : List Frame} {meth : Method} {c : Code} {Q : State → Prop}
variable {X : ak_X} {D : va_G} {dA : Nat → ClassId} {ac : Nat → Nat} {base : Nat}
variable {mi pc : Nat} {f' : ak_F} {M M' : ak_M} {l1 : List (Option Value)} {l2 : List (Nat × Value)} {st : List Value} {H : Heap} {locs : List Loc} {cells slots : Nat} {ls : Array Slot} {ad : Nat → Nat}
theorem ak_tcls (hK : va_K D vwCl (ak_tys dA) s) {cA : ClassId} {t : Nat} (ht : t < 10) (hK2 : va_K D vwCl (ak_tys dA ++ [(cA, ak_ty t)]) s) : cA = dA t := by
  have h1 := (hK.2 t _ (ak_tget ht)).2
  have h2 := (hK2.2 10 (cA, ak_ty t) (by rw [List.getElem?_append_right (by simp [ak_tys])]; simp [ak_tys])).2
  have key : ∀ ty : FieldType, va_RA s (dA t) ty → va_RA s cA ty → cA = dA t := by
    intro ty a b
    cases ty with
    | object C =>
      obtain ⟨_, _, _, _, _, a4⟩ := a
      obtain ⟨_, _, _, _, _, b4⟩ := b
      exact Option.some.inj (b4.symm.trans a4)
    | _ => exact Option.some.inj (Eq.trans (Eq.symm b) a)
  exact key _ h1 h2
/-- behind the making of a place -/
theorem ak_made {kd ln z : Nat} {r : List Value} {q : Nat} {H1 : Heap} {pc' : Nat} (hbs : base ≤ s.heap.size) (hac : ∀ p, 1000000 ≤ p → p < 3000000 → ad p = ac p) (hO : ak_okM M) (hp : ak_P M < 900000) (hk : kd < 14 ∨ (100 ≤ kd ∧ kd ≤ 109)) (hr : ∀ v ∈ r, ak_okV M v)
    (h1 : va_P D vwCl (ak_w ad dA M ++ [(q, ak_ce (ak_ad ad (ak_P M) q) dA (ak_new M kd ln z) (ak_P M))]) H1) (h2 : va_D (ak_A base) (ak_w ad dA M ++ [(q, ak_ce (ak_ad ad (ak_P M) q) dA (ak_new M kd ln z) (ak_P M))])) (h3 : va_S (ak_A base) s.heap H1 locs)
    (hS : ak_n pc' l1 l2 (.ref (ak_P M) :: r) (ak_new M kd ln z) = some (.inl (f', M')))
    (kk : ∀ ad' st' H' locs', ak_n pc' l1 l2 st' M' = some (.inl (f', M')) → (∀ v ∈ st', ak_okV M' v) → ak_mi D dA ac base s H' locs' ad' M' → (∀ x, ak_okP M x → ad' x = ad x) → ak_C M' = ak_C M + 1 ∧ ak_Z M' = ak_Z M + z ∧ (∀ v, ak_okV M v → ak_okV M' v) → W p l e R s m args below meth c H' locs' (cells + 1) (slots + z) Q (F0 m pc' ls (st'.map (ak_v ad')))) :
    W p l e R s m args below meth c H1 locs (cells + 1) (slots + z) Q (F0 m pc' ls (.ref q :: r.map (ak_v ad))) := by
  obtain ⟨-, rfl⟩ := ak_inj hS
  have he : ∀ x, ak_okP M x → ak_ad ad (ak_P M) q x = ad x := fun x hx => ak_ad_ne (fun h => ak_P_ok hO (h ▸ hx))
  have hw := ak_new_w (dA := dA) (kd := kd) (ln := ln) (z := z) hO he
  rw [ak_ad_at] at hw
  rw [← hw] at h1 h2
  have := kk (ak_ad ad (ak_P M) q) _ H1 locs hS (ak_oc (Or.inl (Nat.lt_succ_self _)) (fun v hv => ak_okV_new (hr v hv))) ⟨hbs, h3, h1, h2, ak_new_ok hO hp hk, fun x h5 h6 => by rw [ak_ad_ne (by omega)]; exact hac x h5 h6⟩ he ⟨rfl, rfl, fun v => ak_okV_new⟩
  rw [List.map_cons, show ak_v (ak_ad ad (ak_P M) q) (.ref (ak_P M)) = .ref q by show Value.ref (ak_ad ad (ak_P M) q (ak_P M)) = _; rw [ak_ad_at], ak_map_ext he hr] at this
  exact this
set_option maxHeartbeats 1000000 in
theorem ak_xnew {idx : Nat} (C : ak_cx p l R s m args meth c mi) (hA : ak_amb X D dA ac (ak_A base) s s.heap) (hd : decode (am_B mi) pc = .ok (.new idx, 3)) (hM : ak_mi D dA ac base s H locs ad M)
    (hS : ak_x X mi (.new idx) pc l1 l2 st M = some (.inl (f', M'))) (hF1 : ∀ v ∈ st, ak_okV M v) (hb1 : cells + ak_C M' ≤ R.cells + ak_C M) (hb2 : slots + ak_Z M' ≤ R.slots + ak_Z M)
    (kk : ∀ pc' ad' st' H' locs' z, ak_n pc' l1 l2 st' M' = some (.inl (f', M')) → (∀ v ∈ st', ak_okV M' v) → ak_mi D dA ac base s H' locs' ad' M' → (∀ x, ak_okP M x → ad' x = ad x) → ak_C M' = ak_C M + 1 ∧ ak_Z M' = ak_Z M + z ∧ (∀ v, ak_okV M v → ak_okV M' v) → W p l e R s m args below meth c H' locs' (cells + 1) (slots + z) Q (F0 m pc' ls (st'.map (ak_v ad')))) :
    W p l e R s m args below meth c H locs cells slots Q (F0 m pc ls (st.map (ak_v ad))) := by
  obtain ⟨hx, hb, hown, hts, -⟩ := C
  obtain ⟨hbs, hSv, hP, hD, hO, hac⟩ := hM
  have hK := hA.1
  have hAf : ∀ q, s.heap.size ≤ q → ak_A base q := fun q h => Nat.le_trans hbs h
  simp only [ak_x] at hS
  split at hS
  · rename_i ci x hf
    obtain ⟨a, b, c9⟩ := x
    have hs := am_Ws hf
    unfold am_kN1 at hs
    split at hS
    · rename_i hp
      dsimp only at hs
      split at hs
      · rename_i r9 hr9
        have hci : ci < 14 := by
          have h9 := (List.getElem?_eq_some_iff.mp hr9).1
          exact h9
        obtain ⟨Cn, N, ty, hcl, hN, hin, hty, hnd⟩ := am_cls ci hci
        cases hr9.symm.trans hcl
        rw [Bool.and_eq_true, Bool.and_eq_true] at hs
        obtain ⟨⟨g1, g2⟩, g3⟩ := hs
        obtain ⟨-, hM'⟩ := ak_inj hS
        have hc9 : cells + 1 ≤ R.cells := by
          have : ak_C M' = ak_C M + 1 := by rw [hM']; rfl
          omega
        have hz9 : slots + N ≤ R.slots := by
          have : ak_Z M' = ak_Z M + am_nf ci := by rw [hM']; rfl
          omega
        have hpf : ∀ k, k < am_nf ci → am_pf ci k = true := by
          intro k hk
          have h1 := List.all_eq_true.mp am_Tk ci (List.mem_range.mpr hci)
          unfold am_kT1 at h1
          rw [Bool.and_eq_true] at h1
          exact List.all_eq_true.mp h1.2 k (List.mem_range.mpr hk)
        refine va_new (D := D) (Ts := am_w) (N := N) (ci := ci) (fs := (List.range (am_nf ci)).map (fun k => if am_f ci k = 2 then Value.null else .int 0)) hx hb hts hin ty hty hown (am_okb hts g1) (am_okb hts g2) (am_okb hts g3) hK hP hD hSv hAf hcl (fun j hj => ?_) hc9 hz9 hd (fun q H1 a1 a2 a3 => ?_)
        · have hj' : j < am_nf ci := by rw [← hN]; exact hj
          have h7 := hpf j hj'
          unfold am_pf at h7
          rw [hty j hj] at h7
          have h8 : vp_V ((List.range (am_nf ci)).map (fun k => if am_f ci k = 2 then Value.null else .int 0)) j = if am_f ci j = 2 then Value.null else .int 0 := by
            unfold vp_V
            rw [List.getD_eq_getElem?_getD, List.getElem?_map, List.getElem?_range hj']
            rfl
          rw [h8]
          revert h7
          cases ty j <;> intro h7 <;> simp at h7 <;> simp [h7, defaultValue]
        · rw [hN]
          have hce : (Sum.inr (ci, (List.range (am_nf ci)).map (fun k => if am_f ci k = 2 then Value.null else .int 0)) : va_E) = ak_ce (ak_ad ad (ak_P M) q) dA (ak_new M ci 0 (am_nf ci)) (ak_P M) := by
            unfold ak_ce
            have e1 : ak_K (ak_new M ci 0 (am_nf ci)) (ak_P M) = ci := if_pos rfl
            rw [e1, if_pos hci]
            refine congrArg (fun f => (Sum.inr (ci, (List.range (am_nf ci)).map f) : va_E)) (funext fun k => ?_)
            unfold ak_fd
            have e2 : ak_R (ak_new M ci 0 (am_nf ci)) (ak_P M) k = none := if_pos rfl
            have e3 : ak_I (ak_new M ci 0 (am_nf ci)) (ak_P M) k = 0 := if_pos rfl
            rw [e2, e3]; rfl
          rw [hce] at a1 a2
          exact ak_made hbs hac hO hp (Or.inl hci) hF1 a1 a2 a3 hS (fun ad' st' H' locs' b1 b2 b3 b4 b5 => kk _ ad' st' H' locs' _ b1 b2 b3 b4 b5)
      · cases hs
    · cases hS
  · split at hS
    · split at hS
      · unfold ak_e at hS; cases hS
      · cases hS
    · cases hS
theorem ak_new_ar {ad' : Nat → Nat} {kd ln z : Nat} (h : 100 ≤ kd) : ak_ce ad' dA (ak_new M kd ln z) (ak_P M) = .inl (dA (kd - 100), ln, ak_ar ad' (ak_new M kd ln z) (ak_P M) kd) := by
  unfold ak_ce
  have e1 : ak_K (ak_new M kd ln z) (ak_P M) = kd := if_pos rfl
  have e2 : ak_N (ak_new M kd ln z) (ak_P M) = ln := if_pos rfl
  rw [e1, e2, if_neg (by omega)]
set_option maxHeartbeats 1000000 in
theorem ak_xnwa {t : ArrayType} (C : ak_cx p l R s m args meth c mi) (hA : ak_amb X D dA ac (ak_A base) s s.heap) (hd : decode (am_B mi) pc = .ok (.newarray t, 2)) (hM : ak_mi D dA ac base s H locs ad M)
    (hS : ak_x X mi (.newarray t) pc l1 l2 st M = some (.inl (f', M'))) (hF1 : ∀ v ∈ st, ak_okV M v) (hb1 : cells + ak_C M' ≤ R.cells + ak_C M) (hb2 : slots + ak_Z M' ≤ R.slots + ak_Z M)
    (kk : ∀ pc' ad' st' H' locs' z, ak_n pc' l1 l2 st' M' = some (.inl (f', M')) → (∀ v ∈ st', ak_okV M' v) → ak_mi D dA ac base s H' locs' ad' M' → (∀ x, ak_okP M x → ad' x = ad x) → ak_C M' = ak_C M + 1 ∧ ak_Z M' = ak_Z M + z ∧ (∀ v, ak_okV M v → ak_okV M' v) → W p l e R s m args below meth c H' locs' (cells + 1) (slots + z) Q (F0 m pc' ls (st'.map (ak_v ad')))) :
    W p l e R s m args below meth c H locs cells slots Q (F0 m pc ls (st.map (ak_v ad))) := by
  obtain ⟨hx, hb, hown, hts, -⟩ := C
  obtain ⟨hbs, hSv, hP, hD, hO, hac⟩ := hM
  have hK := hA.1
  have hAf : ∀ q, s.heap.size ≤ q → ak_A base q := fun q h => Nat.le_trans hbs h
  simp only [ak_x] at hS
  split at hS
  · rename_i n r
    split at hS
    · rename_i h0
      obtain ⟨hp, hn0, hnm⟩ := h0
      have gen : ∀ (kd tt : Nat) (at9 : ArrayType) (a0 : vp_A), kd = 100 + tt → tt < 5 → decode (am_B mi) pc = .ok (.newarray at9, 2) → (Jvm.Cond.arrayClass (newarray.typeOf at9)) ∈ am_w → newarray.typeOf at9 = ak_ty tt → componentBytes (ak_ty tt) ≤ 8 →
          (∀ cA : ClassId, vp_cell cA a0 = arrV cA n.toNatClampNeg (fun _ => defaultValue (ak_ty tt))) → (∀ q, (Sum.inl (dA tt, a0) : va_E) = ak_ce (ak_ad ad (ak_P M) q) dA (ak_new M kd n.toNatClampNeg n.toNatClampNeg) (ak_P M)) →
          ak_n (pc + 2) l1 l2 (.ref (ak_P M) :: r) (ak_new M kd n.toNatClampNeg n.toNatClampNeg) = some (.inl (f', M')) → W p l e R s m args below meth c H locs cells slots Q (F0 m pc ls (.int n :: r.map (ak_v ad))) := by
        intro kd tt at9 a0 hkd htt hd9 hw9 hty hcb ha0 hce hS9
        obtain ⟨-, hM'⟩ := ak_inj hS9
        have hc9 : cells + 1 ≤ R.cells := by
          have : ak_C M' = ak_C M + 1 := by rw [hM']; rfl
          omega
        have hz9 : slots + n.toNatClampNeg ≤ R.slots := by
          have : ak_Z M' = ak_Z M + n.toNatClampNeg := by rw [hM']; rfl
          omega
        have hbytes : n.toNatClampNeg * componentBytes (ak_ty tt) ≤ 536870912 := by
          have := Nat.mul_le_mul hnm hcb
          omega
        refine va_newa (D := D) (a0 := a0) hx hb (hts _ hw9) hty hK hP hD hSv hAf ha0 hn0 rfl hbytes hc9 hz9 hd9 (fun q cA H1 hK2 a1 a2 a3 => ?_)
        have hcA := ak_tcls hK (show tt < 10 by omega) hK2
        subst hcA
        rw [hce q] at a1 a2
        exact ak_made hbs hac hO hp (Or.inr (by omega)) (ak_o1 hF1) a1 a2 a3 hS9 (fun ad' st' H' locs' b1 b2 b3 b4 b5 => kk _ ad' st' H' locs' _ b1 b2 b3 b4 b5)
      cases t with
      | int =>
        refine gen 100 0 .int (n.toNatClampNeg, .inl (fun _ => 0)) rfl (by omega) hd am_a0 rfl (by decide) (fun cA => rfl) (fun q => ?_) hS
        rw [ak_new_ar (by omega)]
        have e3 : ak_I (ak_new M 100 n.toNatClampNeg n.toNatClampNeg) (ak_P M) = fun _ => 0 := funext fun j => if_pos rfl
        show _ = Sum.inl (dA 0, n.toNatClampNeg, Sum.inl (ak_I _ _))
        rw [e3]
      | byte =>
        refine gen 101 1 .byte (n.toNatClampNeg, .inl (fun _ => 0)) rfl (by omega) hd am_a1 rfl (by decide) (fun cA => rfl) (fun q => ?_) hS
        rw [ak_new_ar (by omega)]
        have e3 : ak_I (ak_new M 101 n.toNatClampNeg n.toNatClampNeg) (ak_P M) = fun _ => 0 := funext fun j => if_pos rfl
        show _ = Sum.inl (dA 1, n.toNatClampNeg, Sum.inl (ak_I _ _))
        rw [e3]
      | _ => cases hS
    · cases hS
  · cases hS
set_option maxHeartbeats 1000000 in
theorem ak_xana {idx : Nat} (C : ak_cx p l R s m args meth c mi) (hA : ak_amb X D dA ac (ak_A base) s s.heap) (hd : decode (am_B mi) pc = .ok (.anewarray idx, 3)) (hM : ak_mi D dA ac base s H locs ad M)
    (hS : ak_x X mi (.anewarray idx) pc l1 l2 st M = some (.inl (f', M'))) (hF1 : ∀ v ∈ st, ak_okV M v) (hb1 : cells + ak_C M' ≤ R.cells + ak_C M) (hb2 : slots + ak_Z M' ≤ R.slots + ak_Z M)
    (kk : ∀ pc' ad' st' H' locs' z, ak_n pc' l1 l2 st' M' = some (.inl (f', M')) → (∀ v ∈ st', ak_okV M' v) → ak_mi D dA ac base s H' locs' ad' M' → (∀ x, ak_okP M x → ad' x = ad x) → ak_C M' = ak_C M + 1 ∧ ak_Z M' = ak_Z M + z ∧ (∀ v, ak_okV M v → ak_okV M' v) → W p l e R s m args below meth c H' locs' (cells + 1) (slots + z) Q (F0 m pc' ls (st'.map (ak_v ad')))) :
    W p l e R s m args below meth c H locs cells slots Q (F0 m pc ls (st.map (ak_v ad))) := by
  obtain ⟨hx, hb, hown, hts, -⟩ := C
  obtain ⟨hbs, hSv, hP, hD, hO, hac⟩ := hM
  have hK := hA.1
  have hAf : ∀ q, s.heap.size ≤ q → ak_A base q := fun q h => Nat.le_trans hbs h
  simp only [ak_x] at hS
  split at hS
  · rename_i n r
    split at hS
    · rename_i t x hf
      have hs := am_Vs hf
      unfold am_kV1 at hs
      split at hS
      · rename_i h0
        obtain ⟨hp, hn0, hnm⟩ := h0
        rw [Bool.and_eq_true, Bool.and_eq_true] at hs
        obtain ⟨⟨g1, g2⟩, g3⟩ := hs
        have g1 : 5 ≤ t := Nat.le_of_ble_eq_true g1
        have g2 : t ≤ 8 := Nat.le_of_ble_eq_true g2
        obtain ⟨-, hM'⟩ := ak_inj hS
        have hc9 : cells + 1 ≤ R.cells := by
          have : ak_C M' = ak_C M + 1 := by rw [hM']; rfl
          omega
        have hz9 : slots + n.toNatClampNeg ≤ R.slots := by
          have : ak_Z M' = ak_Z M + n.toNatClampNeg := by rw [hM']; rfl
          omega
        refine va_newq (D := D) (C := am_ac t) hx hb hown (am_okb hts g3) (hA.2.2.2.2.2.2.2.2.2.2.1 t g1 g2) hK hP hD hSv hAf hn0 rfl (by omega) hc9 hz9 hd (fun q cA H1 hK2 a1 a2 a3 => ?_)
        have hty : ak_ty t = .object (am_ac t) := by
          rcases (show t = 5 ∨ t = 6 ∨ t = 7 ∨ t = 8 by omega) with rfl | rfl | rfl | rfl <;> rfl
        have hcA := ak_tcls hK (show t < 10 by omega) (by rw [hty]; exact hK2)
        subst hcA
        have hce : (Sum.inl (dA t, n.toNatClampNeg, .inr (.inr (.inr (.inr (fun _ => none))))) : va_E) = ak_ce (ak_ad ad (ak_P M) q) dA (ak_new M (100 + t) n.toNatClampNeg n.toNatClampNeg) (ak_P M) := by
          rw [ak_new_ar (by omega), show 100 + t - 100 = t by omega]
          unfold ak_ar
          rw [if_neg (by omega), if_neg (by omega), if_neg (by omega)]
          have e2 : ∀ k, ak_R (ak_new M (100 + t) n.toNatClampNeg n.toNatClampNeg) (ak_P M) k = none := fun k => if_pos rfl
          simp only [e2]
          rfl
        rw [hce] at a1 a2
        exact ak_made hbs hac hO hp (Or.inr (by omega)) (ak_o1 hF1) a1 a2 a3 hS (fun ad' st' H' locs' b1 b2 b3 b4 b5 => kk _ ad' st' H' locs' _ b1 b2 b3 b4 b5)
      · cases hS
    · cases hS
  · cases hS
end AKN
