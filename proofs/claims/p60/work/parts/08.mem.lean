/-! the small machine's memory in the heap -/
def ak_v (ad : Nat → Nat) : Value → Value
  | .ref p => .ref (ad p)
  | v => v
theorem ak_v_cat (ad : Nat → Nat) (v : Value) : (ak_v ad v).category = v.category := by cases v <;> rfl
def ak_okP (M : ak_M) (p : Nat) : Prop := p < ak_P M ∨ (1000000 ≤ p ∧ p < 3000000 + ak_C M)
def ak_okV (M : ak_M) : Value → Prop
  | .ref p => ak_okP M p
  | _ => True
theorem ak_v_ext {ad ad' : Nat → Nat} {M : ak_M} (h : ∀ p, ak_okP M p → ad' p = ad p) {v : Value} (hv : ak_okV M v) : ak_v ad' v = ak_v ad v := by
  cases v with
  | ref p => show Value.ref (ad' p) = Value.ref (ad p); rw [h p hv]
  | _ => rfl
theorem ak_map_ext {ad ad' : Nat → Nat} {M : ak_M} (h : ∀ p, ak_okP M p → ad' p = ad p) {st : List Value} (hv : ∀ v ∈ st, ak_okV M v) : st.map (ak_v ad') = st.map (ak_v ad) :=
  List.map_congr_left fun v hm => ak_v_ext h (hv v hm)
def ak_okM (M : ak_M) : Prop := ak_P M ≤ 950000 ∧ (∀ p k q, ak_R M p k = some q → q < ak_P M) ∧ ∀ p, p < ak_P M → ak_K M p < 14 ∨ (100 ≤ ak_K M p ∧ ak_K M p ≤ 109)
def ak_ar (ad : Nat → Nat) (M : ak_M) (p kd : Nat) : (Nat → Int32) ⊕ (Nat → Int64) ⊕ (Nat → UInt32) ⊕ (Nat → UInt64) ⊕ (Nat → Option Nat) :=
  if kd ≤ 102 then .inl (ak_I M p) else if kd = 103 then .inr (.inl (ak_L M p)) else if kd = 104 then .inr (.inr (.inr (.inl (ak_D M p)))) else .inr (.inr (.inr (.inr (fun k => (ak_R M p k).map ad))))
def ak_fd (ad : Nat → Nat) (M : ak_M) (p ci k : Nat) : Value := if am_f ci k = 2 then va_rf ((ak_R M p k).map ad) else .int (ak_I M p k)
def ak_ce (ad : Nat → Nat) (dA : Nat → ClassId) (M : ak_M) (p : Nat) : va_E :=
  if ak_K M p < 14 then .inr (ak_K M p, (List.range (am_nf (ak_K M p))).map (ak_fd ad M p (ak_K M p))) else .inl (dA (ak_K M p - 100), ak_N M p, ak_ar ad M p (ak_K M p))
def ak_w (ad : Nat → Nat) (dA : Nat → ClassId) (M : ak_M) : va_W := (List.range (ak_P M)).map (fun p => (ad p, ak_ce ad dA M p))
theorem ak_wget {ad : Nat → Nat} {dA : Nat → ClassId} {M : ak_M} {p : Nat} (h : p < ak_P M) : (ak_w ad dA M)[p]? = some (ad p, ak_ce ad dA M p) := by
  simp [ak_w, h]
theorem ak_wobj {ad : Nat → Nat} {dA : Nat → ClassId} {M : ak_M} {p ci : Nat} (h : p < ak_P M) (hk : ak_K M p = ci) (hc : ci < 14) : (ak_w ad dA M)[p]? = some (ad p, .inr (ci, (List.range (am_nf ci)).map (ak_fd ad M p ci))) := by
  subst hk
  rw [ak_wget h]
  unfold ak_ce
  rw [if_pos hc]
theorem ak_warr {ad : Nat → Nat} {dA : Nat → ClassId} {M : ak_M} {p kd : Nat} (h : p < ak_P M) (hk : ak_K M p = kd) (hc : 100 ≤ kd) : (ak_w ad dA M)[p]? = some (ad p, .inl (dA (kd - 100), ak_N M p, ak_ar ad M p kd)) := by
  subst hk
  rw [ak_wget h]
  unfold ak_ce
  rw [if_neg (by omega)]
/-- M' is M but at the place p -/
def ak_at (M M' : ak_M) (p : Nat) : Prop := ak_P M' = ak_P M ∧ ak_K M' = ak_K M ∧ ak_N M' = ak_N M ∧ ∀ q, q ≠ p → ak_I M' q = ak_I M q ∧ ak_R M' q = ak_R M q ∧ ak_L M' q = ak_L M q ∧ ak_D M' q = ak_D M q
theorem ak_at_ce {ad : Nat → Nat} {dA : Nat → ClassId} {M M' : ak_M} {p q : Nat} (h : ak_at M M' p) (hq : q ≠ p) : ak_ce ad dA M' q = ak_ce ad dA M q := by
  obtain ⟨h1, h2, h3, h4⟩ := h
  obtain ⟨e1, e2, e3, e4⟩ := h4 q hq
  unfold ak_ce ak_ar
  rw [h2, h3, e1, e3, e4, show ak_fd ad M' q = ak_fd ad M q from funext fun ci => funext fun k => by unfold ak_fd; rw [e1, e2], e2]
theorem ak_at_w {ad : Nat → Nat} {dA : Nat → ClassId} {M M' : ak_M} {p : Nat} (h : ak_at M M' p) {x : va_E} (hx : p < ak_P M → x = ak_ce ad dA M' p) : (ak_w ad dA M).set p (ad p, x) = ak_w ad dA M' := by
  apply List.ext_getElem?
  intro i
  rw [List.getElem?_set]
  by_cases hip : p = i
  · subst hip
    by_cases hl : p < ak_P M
    · rw [if_pos rfl, ak_wget (M := M') (by rw [h.1]; exact hl), hx hl]
      simp [ak_w, hl]
    · simp [ak_w, hl, h.1]
  · rw [if_neg hip]
    unfold ak_w
    rw [List.getElem?_map, List.getElem?_map, h.1]
    by_cases hl : i < ak_P M
    · simp only [List.getElem?_range hl, Option.map_some]
      rw [ak_at_ce h (fun e => hip e.symm)]
    · simp [hl]
theorem ak_u_ne {α : Type} {f : Nat → Nat → α} {p k q : Nat} {v : α} (h : q ≠ p) : ak_u f p k v q = f q := by
  funext j; unfold ak_u; rw [if_neg (fun e => h e.1)]
theorem ak_u_at {α : Type} {f : Nat → Nat → α} {p k : Nat} {v : α} : ak_u f p k v p = fun j => if j = k then v else f p j := by
  funext j; unfold ak_u; simp
theorem ak_u_s {α : Type} {f : Nat → Nat → α} {p k : Nat} {v : α} : ak_u f p k v p k = v := if_pos ⟨rfl, rfl⟩
theorem ak_u_o {α : Type} {f : Nat → Nat → α} {p k j : Nat} {v : α} (h : j ≠ k) : ak_u f p k v p j = f p j := if_neg (fun e => h e.2)
theorem ak_atI {M : ak_M} {p k : Nat} {v : Int32} : ak_at M (ak_sI M p k v) p := ⟨rfl, rfl, rfl, fun q hq => ⟨ak_u_ne hq, rfl, rfl, rfl⟩⟩
theorem ak_atR {M : ak_M} {p k : Nat} {v : Option Nat} : ak_at M (ak_sR M p k v) p := ⟨rfl, rfl, rfl, fun q hq => ⟨rfl, ak_u_ne hq, rfl, rfl⟩⟩
theorem ak_atL {M : ak_M} {p k : Nat} {v : Int64} : ak_at M (ak_sL M p k v) p := ⟨rfl, rfl, rfl, fun q hq => ⟨rfl, rfl, ak_u_ne hq, rfl⟩⟩
theorem ak_atD {M : ak_M} {p k : Nat} {v : UInt64} : ak_at M (ak_sD M p k v) p := ⟨rfl, rfl, rfl, fun q hq => ⟨rfl, rfl, rfl, ak_u_ne hq⟩⟩
theorem ak_set_fld {ad : Nat → Nat} {M M' : ak_M} {p ci k : Nat} {v : Value} (hv : v = ak_fd ad M' p ci k) (ho : ∀ j, j ≠ k → ak_fd ad M' p ci j = ak_fd ad M p ci j) : ((List.range (am_nf ci)).map (ak_fd ad M p ci)).set k v = (List.range (am_nf ci)).map (ak_fd ad M' p ci) := by
  apply List.ext_getElem?
  intro i
  rw [List.getElem?_set]
  by_cases hik : k = i
  · subst hik
    by_cases hl : k < am_nf ci
    · simp [hl, hv]
    · simp [hl]
  · rw [if_neg hik]
    by_cases hl : i < am_nf ci
    · simp [hl, ho i (fun e => hik e.symm)]
    · simp [hl]
def ak_ty (t : Nat) : FieldType := match t with
  | 0 => .int | 1 => .byte | 2 => .int | 3 => .int | 4 => .int | 5 => .object RX5 | 6 => .object RX10 | 7 => .object RX1 | 8 => .object RX2 | _ => .array .byte
def ak_tys (dA : Nat → ClassId) : List (ClassId × FieldType) := (List.range 10).map (fun t => (dA t, ak_ty t))
theorem ak_tget {dA : Nat → ClassId} {t : Nat} (h : t < 10) : (ak_tys dA)[t]? = some (dA t, ak_ty t) := by simp [ak_tys, h]
/-- the words of the tables that a warmed machine keeps -/
def am_w : List Jvm.Cond := ax_tbl.filter goodWord
theorem am_w_of {i : Nat} {w : Jvm.Cond} (h : am_ok i w = true) : w ∈ am_w := by
  unfold am_ok at h
  rw [Bool.and_eq_true] at h
  exact List.mem_filter.mpr ⟨List.mem_of_getElem? (of_decide_eq_true h.1), h.2⟩
/-! the locals -/
def ak_l (ad : Nat → Nat) (ls : Array Slot) (nL : Nat) (l1 : List (Option Value)) (l2 : List (Nat × Value)) : Prop :=
  ls.size = nL ∧ lv_wf ls ∧ l1.length = nL ∧ (∀ (i : Nat) (v : Value), l1[i]? = some (some v) → v.category = 1 ∧ ls[i]? = some (.val (ak_v ad v))) ∧ ∀ q ∈ l2, q.2.category = 2 ∧ ls[q.1]? = some (.val q.2)
def ak_ll (ad : Nat → Nat) (l1 : List (Option Value)) (l2 : List (Nat × Value)) : List (Nat × Value) :=
  (List.range l1.length).filterMap (fun i => match l1[i]? with | some (some v) => some (i, ak_v ad v) | _ => none) ++ l2
theorem ak_ll_in {ad : Nat → Nat} {l1 : List (Option Value)} {l2 : List (Nat × Value)} {i : Nat} {v : Value} (h : l1[i]? = some (some v)) : (i, ak_v ad v) ∈ ak_ll ad l1 l2 := by
  unfold ak_ll
  refine List.mem_append_left _ (List.mem_filterMap.mpr ⟨i, List.mem_range.mpr (List.getElem?_eq_some_iff.mp h).1, ?_⟩)
  rw [h]
theorem ak_ll_of {ad : Nat → Nat} {l1 : List (Option Value)} {l2 : List (Nat × Value)} {q : Nat × Value} (h : q ∈ ak_ll ad l1 l2) : (∃ v, l1[q.1]? = some (some v) ∧ q.2 = ak_v ad v) ∨ q ∈ l2 := by
  unfold ak_ll at h
  rcases List.mem_append.mp h with h | h
  · obtain ⟨i, -, hi⟩ := List.mem_filterMap.mp h
    split at hi
    · rename_i v hv
      cases hi
      exact Or.inl ⟨v, hv, rfl⟩
    · cases hi
  · exact Or.inr h
theorem ak_lh {ad : Nat → Nat} {ls : Array Slot} {nL : Nat} {l1 : List (Option Value)} {l2 : List (Nat × Value)} (h : ak_l ad ls nL l1 l2) : lv_has ls nL (ak_ll ad l1 l2) := by
  refine ⟨h.1, h.2.1, fun q hq => ?_⟩
  rcases ak_ll_of hq with ⟨v, h1, h2⟩ | h1
  · rw [h2]; exact (h.2.2.2.1 q.1 v h1).2
  · exact (h.2.2.2.2 q h1).2
theorem ak_lp {ad : Nat → Nat} {l1 : List (Option Value)} {l2 : List (Nat × Value)} {i : Nat} {v : Value} (h : l1[i]? = some (some v)) : ∃ k : Nat, (ak_ll ad l1 l2)[k]? = some (i, ak_v ad v) := List.getElem?_of_mem (ak_ll_in h)
theorem ak_ls1 {ad : Nat → Nat} {ls ls' : Array Slot} {nL i : Nat} {l1 : List (Option Value)} {l2 : List (Nat × Value)} {v : Value} (h : ak_l ad ls nL l1 l2) (hc : v.category = 1)
    (h' : lv_has ls' nL ((i, ak_v ad v) :: (ak_ll ad l1 l2).filter (fun q => !(q.1 == i) && !(q.1 + 1 == i && q.2.category == 2)))) : ak_l ad ls' nL (l1.set i (some v)) (l2.filter (fun q => !(q.1 == i) && !(q.1 + 1 == i))) := by
  refine ⟨h'.1, h'.2.1, by rw [List.length_set]; exact h.2.2.1, fun j w hj => ?_, fun q hq => ?_⟩
  · rw [List.getElem?_set] at hj
    by_cases e : i = j
    · subst e
      rw [if_pos rfl] at hj
      split at hj
      · cases hj
        exact ⟨hc, h'.2.2 _ List.mem_cons_self⟩
      · cases hj
    · rw [if_neg e] at hj
      have hw := (h.2.2.2.1 j w hj).1
      refine ⟨hw, h'.2.2 (j, ak_v ad w) (List.mem_cons_of_mem _ (List.mem_filter.mpr ⟨ak_ll_in hj, ?_⟩))⟩
      have e' : ¬ j = i := fun q => e q.symm
      simp [e', ak_v_cat, hw]
  · obtain ⟨h1, h2⟩ := List.mem_filter.mp hq
    refine ⟨(h.2.2.2.2 q h1).1, h'.2.2 q (List.mem_cons_of_mem _ (List.mem_filter.mpr ⟨List.mem_append_right _ h1, ?_⟩))⟩
    simp only [Bool.and_eq_true, Bool.not_eq_true', beq_eq_false_iff_ne, ne_eq] at h2
    simp [h2.1, h2.2]
theorem ak_ls2 {ad : Nat → Nat} {ls ls' : Array Slot} {nL i : Nat} {l1 : List (Option Value)} {l2 : List (Nat × Value)} {v : Value} (h : ak_l ad ls nL l1 l2) (hc : v.category = 2)
    (h' : lv_has ls' nL ((i, v) :: (ak_ll ad l1 l2).filter (fun q => !(q.1 == i) && (!(q.1 == i + 1) && !(q.1 + 1 == i && q.2.category == 2))))) :
    ak_l ad ls' nL ((l1.set i none).set (i + 1) none) ((i, v) :: l2.filter (fun q => !(q.1 == i) && (!(q.1 == i + 1) && !(q.1 + 1 == i)))) := by
  refine ⟨h'.1, h'.2.1, by rw [List.length_set, List.length_set]; exact h.2.2.1, fun j w hj => ?_, fun q hq => ?_⟩
  · rw [List.getElem?_set, List.getElem?_set] at hj
    by_cases e : i + 1 = j
    · rw [if_pos e] at hj
      split at hj <;> cases hj
    · rw [if_neg e] at hj
      by_cases e2 : i = j
      · rw [if_pos e2] at hj
        split at hj <;> cases hj
      · rw [if_neg e2] at hj
        have hw := (h.2.2.2.1 j w hj).1
        refine ⟨hw, h'.2.2 (j, ak_v ad w) (List.mem_cons_of_mem _ (List.mem_filter.mpr ⟨ak_ll_in hj, ?_⟩))⟩
        have e' : ¬ j = i := fun q => e2 q.symm
        have e'' : ¬ j = i + 1 := fun q => e q.symm
        simp [e', e'', ak_v_cat, hw]
  · rcases List.mem_cons.mp hq with rfl | hq
    · exact ⟨hc, h'.2.2 _ List.mem_cons_self⟩
    · obtain ⟨h1, h2⟩ := List.mem_filter.mp hq
      refine ⟨(h.2.2.2.2 q h1).1, h'.2.2 q (List.mem_cons_of_mem _ (List.mem_filter.mpr ⟨List.mem_append_right _ h1, ?_⟩))⟩
      simp only [Bool.and_eq_true, Bool.not_eq_true', beq_eq_false_iff_ne, ne_eq] at h2
      simp [h2.1, h2.2.1, h2.2.2]
theorem ak_l_ext {ad ad' : Nat → Nat} {M : ak_M} (he : ∀ p, ak_okP M p → ad' p = ad p) {ls : Array Slot} {nL : Nat} {l1 : List (Option Value)} {l2 : List (Nat × Value)} (hv : ∀ (i : Nat) (v : Value), l1[i]? = some (some v) → ak_okV M v) (h : ak_l ad ls nL l1 l2) : ak_l ad' ls nL l1 l2 :=
  ⟨h.1, h.2.1, h.2.2.1, fun i v hi => ⟨(h.2.2.2.1 i v hi).1, by rw [ak_v_ext he (hv i v hi)]; exact (h.2.2.2.1 i v hi).2⟩, h.2.2.2.2⟩
theorem ak_e1_of : ∀ (vs : List Value) (k i : Nat) (v : Value), (ak_e1 vs)[i]? = some (some v) → v ∈ vs ∧ v.category = 1 ∧ (k + i, v) ∈ lv_args k vs
  | [], k, i, v, h => by simp [ak_e1] at h
  | w :: vs, k, i, v, h => by
    unfold ak_e1 at h
    unfold lv_args
    by_cases hc : w.category = 2
    · rw [if_pos hc] at h
      rw [if_pos hc]
      match i, h with
      | 0, h => simp at h
      | 1, h => simp at h
      | i + 2, h =>
        simp only [List.getElem?_cons_succ] at h
        obtain ⟨h1, h2, h3⟩ := ak_e1_of vs (k + 2) i v h
        exact ⟨List.mem_cons_of_mem _ h1, h2, List.mem_cons_of_mem _ (by rw [show k + (i + 2) = k + 2 + i by omega]; exact h3)⟩
    · rw [if_neg hc] at h
      rw [if_neg hc]
      match i, h with
      | 0, h =>
        simp only [List.getElem?_cons_zero, Option.some.injEq] at h
        subst h
        exact ⟨List.mem_cons_self, by rcases lv_cat w with q | q; exact q; exact absurd q hc, List.mem_cons_self⟩
      | i + 1, h =>
        simp only [List.getElem?_cons_succ] at h
        obtain ⟨h1, h2, h3⟩ := ak_e1_of vs (k + 1) i v h
        exact ⟨List.mem_cons_of_mem _ h1, h2, List.mem_cons_of_mem _ (by rw [show k + (i + 1) = k + 1 + i by omega]; exact h3)⟩
theorem ak_e2_of : ∀ (vs : List Value) (k : Nat) (q : Nat × Value), q ∈ ak_e2 k vs → q.2.category = 2 ∧ q ∈ lv_args k vs
  | [], k, q, h => by simp [ak_e2] at h
  | w :: vs, k, q, h => by
    unfold ak_e2 at h
    unfold lv_args
    by_cases hc : w.category = 2
    · rw [if_pos hc] at h
      rw [if_pos hc]
      rcases List.mem_cons.mp h with rfl | h
      · exact ⟨hc, List.mem_cons_self⟩
      · obtain ⟨h1, h2⟩ := ak_e2_of vs (k + 2) q h
        exact ⟨h1, List.mem_cons_of_mem _ h2⟩
    · rw [if_neg hc] at h
      rw [if_neg hc]
      obtain ⟨h1, h2⟩ := ak_e2_of vs (k + 1) q h
      exact ⟨h1, List.mem_cons_of_mem _ h2⟩
theorem ak_args_map (ad : Nat → Nat) : ∀ (vs : List Value) (k : Nat), lv_args k (vs.map (ak_v ad)) = (lv_args k vs).map (fun q => (q.1, ak_v ad q.2))
  | [], _ => rfl
  | v :: vs, k => by
    show (k, ak_v ad v) :: lv_args (if (ak_v ad v).category = 2 then k + 2 else k + 1) (vs.map (ak_v ad)) = _
    rw [ak_v_cat, ak_args_map ad vs]
    rfl
theorem ak_v_2 (ad : Nat → Nat) {v : Value} (h : v.category = 2) : ak_v ad v = v := by
  cases v with
  | ref p => exact absurd h (by simp [Value.category])
  | _ => rfl
theorem ak_e1_len (ad : Nat → Nat) : ∀ vs : List Value, (lg_sl (vs.map (ak_v ad))).length = (ak_e1 vs).length
  | [] => rfl
  | v :: vs => by
    have ih := ak_e1_len ad vs
    have e1 : lg_sl ((v :: vs).map (ak_v ad)) = (if (ak_v ad v).category = 2 then [Slot.val (ak_v ad v), .second] else [.val (ak_v ad v)]) ++ lg_sl (vs.map (ak_v ad)) := rfl
    have e2 : ak_e1 (v :: vs) = if v.category = 2 then none :: none :: ak_e1 vs else some v :: ak_e1 vs := rfl
    rw [e1, e2, List.length_append, ih, ak_v_cat]
    by_cases hc : v.category = 2
    · rw [if_pos hc, if_pos hc]; simp only [List.length_cons, List.length_nil]; omega
    · rw [if_neg hc, if_neg hc]; simp only [List.length_cons, List.length_nil]; omega
/-- the locals at a method's entry -/
theorem ak_entry (ad : Nat → Nat) (k : Nat) (vs : List Value) (h : (ak_e1 vs).length ≤ am_X k) :
    ak_l ad ((lg_sl (vs.map (ak_v ad)) ++ List.replicate (am_X k - (lg_sl (vs.map (ak_v ad))).length) Slot.unset).toArray) (am_X k) (ak_en k vs).2.1 (ak_en k vs).2.2.1 := by
  obtain ⟨h1, h2, h3⟩ := lv_entry (vs.map (ak_v ad)) (n := am_X k) (by rw [ak_e1_len]; exact h)
  refine ⟨h1, h2, by show (ak_e1 vs ++ List.replicate _ none).length = _; rw [List.length_append, List.length_replicate]; omega, fun i v hi => ?_, fun q hq => ?_⟩
  · have hi : (ak_e1 vs ++ List.replicate (am_X k - (ak_e1 vs).length) none)[i]? = some (some v) := hi
    by_cases hl : i < (ak_e1 vs).length
    · rw [List.getElem?_append_left hl] at hi
      obtain ⟨-, g2, g3⟩ := ak_e1_of vs 0 i v hi
      rw [Nat.zero_add] at g3
      refine ⟨g2, h3 (i, ak_v ad v) ?_⟩
      rw [ak_args_map]
      exact List.mem_map.mpr ⟨(i, v), g3, rfl⟩
    · rw [List.getElem?_append_right (by omega)] at hi
      have := (List.mem_replicate.mp (List.mem_of_getElem? hi)).2
      cases this
  · obtain ⟨g1, g2⟩ := ak_e2_of vs 0 q hq
    refine ⟨g1, ?_⟩
    have := h3 (q.1, ak_v ad q.2) (by rw [ak_args_map]; exact List.mem_map.mpr ⟨q, g2, rfl⟩)
    rw [ak_v_2 ad g1] at this
    exact this
theorem ak_en_ok {M : ak_M} {k : Nat} {vs : List Value} (h : ∀ v ∈ vs, ak_okV M v) : ∀ (i : Nat) (v : Value), (ak_en k vs).2.1[i]? = some (some v) → ak_okV M v := by
  intro i v hi
  have hi : (ak_e1 vs ++ List.replicate (am_X k - (ak_e1 vs).length) none)[i]? = some (some v) := hi
  by_cases hl : i < (ak_e1 vs).length
  · rw [List.getElem?_append_left hl] at hi
    exact h v (ak_e1_of vs 0 i v hi).1
  · rw [List.getElem?_append_right (by omega)] at hi
    have := (List.mem_replicate.mp (List.mem_of_getElem? hi)).2
    cases this
/-! what holds of the machine around a run -/
theorem ak_isN_warm {s U : State} (hW : s.WarmedH U.vm) : ∀ {w : Jvm.Cond}, ak_isN w = true → va_Nw w s → va_Nw w U
  | .methodLinkNest _ _ _ _, _, hz => va_Nw.warmM hW hz
  | .fieldLinkNest _ _ _ _ _ _, _, hz => va_Nw.warmF hW hz
  | .castable _ _, _, hz => va_Nw.warmC hW hz
  | .declares _, _, hz => va_Nw.warmD hW hz
def ak_str (ac : Nat → Nat) (A : Nat → Prop) (U : State) (H : Heap) (j : Nat) : Prop :=
  va_O "java/lang/String" (ac (1001000 + j)) A U H ∧ va_OF "java/lang/String" "coder" "B" (.int 0) (ac (1001000 + j)) A U H ∧ va_OF "java/lang/String" "value" "[B" (.ref (ac (1002000 + j))) (ac (1001000 + j)) A U H ∧ va_T .byte (ac (1002000 + j)) (am_sb.getD j []).length (fun k => .int ((am_sb.getD j []).getD k 0)) A U H
def ak_fm (X : ak_X) (ac : Nat → Nat) : Value := if X.2.2 = true then .null else .ref (ac 1003000)
def ak_sw (j : Nat) : Nat × Nat × String := am_sr.getD j (54, 0, "")
def ak_amb (X : ak_X) (D : va_G) (dA : Nat → ClassId) (ac : Nat → Nat) (A : Nat → Prop) (U : State) (H : Heap) : Prop :=
  va_K D vwCl (ak_tys dA) U ∧ (X.1 < 2 ^ 31 ∧ va_T .int (ac 1000000) X.1 (fun j => .int (X.2.1 j)) A U H) ∧
  (∀ j, j < 3 → va_Z (am_sn j).1 (am_sn j).2.1 (am_sn j).2.2 (.ref (ac (1000001 + j))) A U H ∧ va_T .int (ac (1000001 + j)) 6 (fun k => .int (ak_cI X (1000001 + j) k)) A U H) ∧
  va_Z (am_sn 3).1 (am_sn 3).2.1 (am_sn 3).2.2 (.int 1) A U H ∧ va_Z (am_sn 4).1 (am_sn 4).2.1 (am_sn 4).2.2 (ak_fm X ac) A U H ∧
  (∀ j, j < 25 → vk_R (am_cn (ak_sw j).1) (ak_sw j).2.1 (ak_sw j).2.2 (ac (1001000 + j)) U ∧ ak_str ac A U H j) ∧
  vx_Zq Bundle.tN "UNASSIGNED_STACK" Bundle.steD A U H ∧ vx_Zq Bundle.tN "SUPPRESSED_SENTINEL" Bundle.listD A U H ∧
  (∀ w ∈ ax_tbl, ak_isN w = true → va_Nw w U) ∧ (∀ i j : Nat, i < 3 → j < 3 → i ≠ j → True) ∧ (∀ t, 5 ≤ t → t ≤ 8 → va_AO (am_ac t) U) ∧ va_AOA .byte U ∧
  ∀ j, j < 2 → va_Z (am_sn (5 + j)).1 (am_sn (5 + j)).2.1 (am_sn (5 + j)).2.2 (.ref (ac (1000004 + j))) A U H ∧ va_T .byte (ac (1000004 + j)) 100 (fun k => .int (ak_cI X (1000004 + j) k)) A U H
theorem va_AOA.moved {ty : FieldType} {u U : State} (hvm : u.vm.Alike U.vm) (h : va_AOA ty u) : va_AOA ty U := by
  have e := (Cond.arrayOver_setVmC (args := #[]) hvm (.array ty)).trans h
  exact e
theorem ak_amb.warm {X : ak_X} {D : va_G} {dA : Nat → ClassId} {ac : Nat → Nat} {A : Nat → Prop} {s U : State} {H : Heap} (hW : s.WarmedH U.vm) (h : ak_amb X D dA ac A s H) : ak_amb X D dA ac A U H := by
  obtain ⟨h1, ⟨h2, h3⟩, h4, h5, h6, h7, h8, h9, h10, h11, h12, h13, h14⟩ := h
  have ha := hW.alike
  exact ⟨h1.moved ha, ⟨h2, h3.moved ha⟩, fun j hj => ⟨(h4 j hj).1.moved ha, (h4 j hj).2.moved ha⟩, h5.moved ha, h6.moved ha,
    fun j hj => ⟨(h7 j hj).1.warm hW, (h7 j hj).2.1.moved ha, (h7 j hj).2.2.1.moved ha, (h7 j hj).2.2.2.1.moved ha, (h7 j hj).2.2.2.2.moved ha⟩, h8.moved ha, h9.moved ha,
    fun w hw hn => ak_isN_warm hW hn (h10 w hw hn), h11, fun t h5 h8 => (h12 t h5 h8).moved ha, h13.moved ha, fun j hj => ⟨(h14 j hj).1.moved ha, (h14 j hj).2.moved ha⟩⟩
theorem ak_amb.kept {X : ak_X} {D : va_G} {dA : Nat → ClassId} {ac : Nat → Nat} {A : Nat → Prop} {s : State} {H H1 : Heap} (h : ak_amb X D dA ac A s H) (hq : ∀ a : Nat, a < H.size → ¬ A a → H1[a]? = H[a]?) : ak_amb X D dA ac A s H1 := by
  obtain ⟨h1, ⟨h2, h3⟩, h4, h5, h6, h7, h8, h9, h10, h11, h12, h13, h14⟩ := h
  exact ⟨h1, ⟨h2, h3.kept hq⟩, fun j hj => ⟨(h4 j hj).1.kept hq, (h4 j hj).2.kept hq⟩, h5.kept hq, h6.kept hq,
    fun j hj => ⟨(h7 j hj).1, (h7 j hj).2.1.kept hq, (h7 j hj).2.2.1.kept hq, (h7 j hj).2.2.2.1.kept hq, (h7 j hj).2.2.2.2.kept hq⟩, h8.kept hq, h9.kept hq, h10, h11, h12, h13, fun j hj => ⟨(h14 j hj).1.kept hq, (h14 j hj).2.kept hq⟩⟩
def ak_A (base : Nat) : Nat → Prop := fun q => base ≤ q
/-- a method's body at work -/
def ak_cx (p : Program) (l : Launch) (R : Room) (s : State) (m : MethodId) (args : Array Value) (meth : Method) (c : Code) (mi : Nat) : Prop :=
  p.tables.exec = Jvm.exec ∧ c.code = am_B mi ∧ s.vm.findClass (am_cn (am_O mi)) = some m.cls ∧ (∀ w ∈ am_w, w.before args s = true) ∧ c.maxLocals = am_X mi ∧ meth.sig.returnType = am_R mi ∧ meth.locks = false ∧
  (mi ≠ 364 → meth.name = (am_Y mi).name) ∧ (mi ≠ 364 → c.exceptionTable.toList = tableOf (am_H mi)) ∧ l.stackTraces = false ∧ am_K mi ≤ R.frames ∧ am_Q mi ≤ R.locals ∧ mi < 365
/-- the memory stands in the heap -/
def ak_mi (D : va_G) (dA : Nat → ClassId) (ac : Nat → Nat) (base : Nat) (s : State) (H : Heap) (locs : List Loc) (ad : Nat → Nat) (M : ak_M) : Prop :=
  base ≤ s.heap.size ∧ va_S (ak_A base) s.heap H locs ∧ va_P D vwCl (ak_w ad dA M) H ∧ va_D (ak_A base) (ak_w ad dA M) ∧ ak_okM M ∧ ∀ p, 1000000 ≤ p → p < 3000000 → ad p = ac p
/-- the frame stands in the locals -/
def ak_fi (ad : Nat → Nat) (M : ak_M) (ls : Array Slot) (nL : Nat) (l1 : List (Option Value)) (l2 : List (Nat × Value)) (st : List Value) : Prop :=
  (∀ v ∈ st, ak_okV M v) ∧ (∀ (i : Nat) (v : Value), l1[i]? = some (some v) → ak_okV M v) ∧ ak_l ad ls nL l1 l2
theorem ak_inj {pc : Nat} {l1 : List (Option Value)} {l2 : List (Nat × Value)} {st : List Value} {M M' : ak_M} {f' : ak_F} (h : ak_n pc l1 l2 st M = some (.inl (f', M'))) : f' = (pc, l1, l2, st) ∧ M' = M := by
  unfold ak_n at h
  have := Sum.inl.inj (Option.some.inj h)
  exact ⟨(congrArg Prod.fst this).symm, (congrArg Prod.snd this).symm⟩
theorem ak_code {mi pc : Nat} {ins : Instr} (hm : mi < 365) (h : am_A mi pc = some ins) : ∃ n, decode (am_B mi) pc = .ok (ins, n) ∧ (am_len ins = 0 ∨ n = am_len ins) := by
  have hc := am_CallX mi hm
  unfold am_A at h
  unfold am_kL at hc
  cases hf : (am_cs mi).find? (fun q => q.1 == pc) with
  | none => rw [hf] at h; cases h
  | some q =>
    rw [hf] at h
    cases h
    have h1 := List.all_eq_true.mp hc q (List.mem_of_find?_eq_some hf)
    have h2 := List.find?_some hf
    have h3 : q.1 = pc := by simpa using h2
    subst h3
    unfold am_k1 at h1
    split at h1
    · rename_i i n hd
      simp only [Bool.and_eq_true, decide_eq_true_eq, Bool.or_eq_true, beq_iff_eq] at h1
      obtain ⟨rfl, h1⟩ := h1
      exact ⟨n, hd, h1⟩
    · cases h1
