/-! a method's end, and a call -/
def am_ws (k : Nat) : List Jvm.Cond := (match am_H k with | [] => Jvm.Cond.code (am_Y k) (am_B k) (am_X k) (am_R k) | h :: hh => Jvm.Cond.codeWith (am_Y k) (am_B k) (am_X k) (am_R k) (h :: hh)) :: am_w
def ak_rm (k mc ms : Nat) : Room := { frames := am_K k, cells := mc, slots := ms, locals := am_Q k }
def ak_Pc (X : ak_X) (D : va_G) (dA : Nat → ClassId) (ac : Nat → Nat) (base : Nat) (ad : Nat → Nat) (M : ak_M) (as : List Value) : Array Value → State → Prop := fun v U =>
  v = (as.map (ak_v ad)).toArray ∧ base ≤ U.heap.size ∧ ak_amb X D dA ac (ak_A base) U U.heap ∧ va_P D vwCl (ak_w ad dA M) U.heap ∧ va_D (ak_A base) (ak_w ad dA M)
def ak_po (D : va_G) (dA : Nat → ClassId) (ac : Nat → Nat) (base : Nat) (ad : Nat → Nat) (M M' : ak_M) (ad' : Nat → Nat) (t : State) : Prop :=
  (∀ x, ak_okP M x → ad' x = ad x) ∧ va_P D vwCl (ak_w ad' dA M') t.heap ∧ va_D (ak_A base) (ak_w ad' dA M') ∧ ak_okM M' ∧ ∀ x, 1000000 ≤ x → x < 3000000 → ad' x = ac x
def ak_Q (D : va_G) (dA : Nat → ClassId) (ac : Nat → Nat) (base : Nat) (ad : Nat → Nat) (M : ak_M) (r : ak_O × ak_M) : Array Value → State → Outcome → State → Prop := fun _ st oc t =>
  (∃ (v : Option Value) (ad' : Nat → Nat), r.1 = .inl v ∧ oc = .returned (v.map (ak_v ad')) ∧ (∀ w, v = some w → ak_okV r.2 w) ∧ ak_po D dA ac base ad M r.2 ad' t) ∧ va_F (ak_A base) st t
def ak_XC (D : va_G) (dA : Nat → ClassId) (ac : Nat → Nat) (base : Nat) (ad : Nat → Nat) (M : ak_M) (r : ak_O × ak_M) : String → State → State → Prop := fun E st t =>
  (∃ (k : Nat) (ad' : Nat → Nat), r.1 = .inr k ∧ k < 3 ∧ E = am_E k ∧ ak_po D dA ac base ad M r.2 ad' t) ∧ va_F (ak_A base) st t
theorem ak_Sx {X : ak_X} {mi pc : Nat} {l1 : List (Option Value)} {l2 : List (Nat × Value)} {st : List Value} {M : ak_M} {a : ak_Act} (h : ak_S X mi (pc, l1, l2, st) M = some a) : ∃ ins, am_A mi pc = some ins ∧ ak_x X mi ins pc l1 l2 st M = some a := by
  unfold ak_S at h
  split at h
  · rename_i ins hi
    exact ⟨ins, hi, h⟩
  · cases h
theorem ak_nne {pc : Nat} {l1 : List (Option Value)} {l2 : List (Nat × Value)} {st : List Value} {M : ak_M} {z : (ak_O × ak_M) ⊕ (Nat × List Value × ak_F × ak_M)} : ak_n pc l1 l2 st M ≠ some (.inr z) := by
  unfold ak_n; intro h; cases h
theorem ak_jne {pc : Nat} {off : Int} {l1 : List (Option Value)} {l2 : List (Nat × Value)} {st : List Value} {M : ak_M} {z : (ak_O × ak_M) ⊕ (Nat × List Value × ak_F × ak_M)} : ak_j pc off l1 l2 st M ≠ some (.inr z) := by
  unfold ak_j; split
  · exact ak_nne
  · intro h; cases h
theorem ak_s1ne {i pc : Nat} {v : Value} {l1 : List (Option Value)} {l2 : List (Nat × Value)} {st : List Value} {M : ak_M} {z : (ak_O × ak_M) ⊕ (Nat × List Value × ak_F × ak_M)} : ak_s1 i v pc l1 l2 st M ≠ some (.inr z) := by
  unfold ak_s1; split
  · exact ak_nne
  · intro h; cases h
theorem ak_s2ne {i pc : Nat} {v : Value} {l1 : List (Option Value)} {l2 : List (Nat × Value)} {st : List Value} {M : ak_M} {z : (ak_O × ak_M) ⊕ (Nat × List Value × ak_F × ak_M)} : ak_s2 i v pc l1 l2 st M ≠ some (.inr z) := by
  unfold ak_s2; split
  · exact ak_nne
  · intro h; cases h
theorem ak_ldne {i n pc : Nat} {ok : Value → Bool} {l1 : List (Option Value)} {l2 : List (Nat × Value)} {st : List Value} {M : ak_M} {z : (ak_O × ak_M) ⊕ (Nat × List Value × ak_F × ak_M)} : ak_ld i n pc ok l1 l2 st M ≠ some (.inr z) := by
  unfold ak_ld; split
  · split
    · exact ak_nne
    · intro h; cases h
  · intro h; cases h
theorem ak_ld2ne {i n pc : Nat} {ok : Value → Bool} {l1 : List (Option Value)} {l2 : List (Nat × Value)} {st : List Value} {M : ak_M} {z : (ak_O × ak_M) ⊕ (Nat × List Value × ak_F × ak_M)} : ak_ld2 i n pc ok l1 l2 st M ≠ some (.inr z) := by
  unfold ak_ld2; split
  · split
    · exact ak_nne
    · intro h; cases h
  · intro h; cases h
def ak_isI : Instr → Bool
  | .invokevirtual _ => true | .invokestatic _ => true | .invokespecial _ => true | _ => false
def ak_isE : Instr → Bool
  | .ireturn => true | .areturn => true | .freturn => true | .dreturn => true | .return_ => true | .new _ => true | _ => false
theorem ak_incl {X : ak_X} {mi idx vt pc : Nat} {l1 : List (Option Value)} {l2 : List (Nat × Value)} {st : List Value} {M : ak_M} {z : ak_O × ak_M} : ak_inv X mi idx vt pc l1 l2 st M ≠ some (.inr (.inl z)) := by
  unfold ak_inv ak_call ak_n
  intro h
  repeat' (split at h)
  all_goals (first | (cases h; done) | simp at h)
/-- which instructions end a method, which call -/
theorem ak_kinds {X : ak_X} {mi pc : Nat} {ins : Instr} {l1 : List (Option Value)} {l2 : List (Nat × Value)} {st : List Value} {M : ak_M} {z : (ak_O × ak_M) ⊕ (Nat × List Value × ak_F × ak_M)} (h : ak_x X mi ins pc l1 l2 st M = some (.inr z)) : ak_isI ins = true ∨ (ak_isE ins = true ∧ ∃ r, z = .inl r) := by
  cases ins with
  | invokevirtual _ => exact Or.inl rfl
  | invokestatic _ => exact Or.inl rfl
  | invokespecial _ => exact Or.inl rfl
  | ireturn =>
    refine Or.inr ⟨rfl, ?_⟩
    simp only [ak_x, ak_e] at h
    repeat' (split at h)
    all_goals (first | (cases h; done) | (cases h; exact ⟨_, rfl⟩))
  | areturn =>
    refine Or.inr ⟨rfl, ?_⟩
    simp only [ak_x, ak_e] at h
    repeat' (split at h)
    all_goals (first | (cases h; done) | (cases h; exact ⟨_, rfl⟩))
  | freturn =>
    refine Or.inr ⟨rfl, ?_⟩
    simp only [ak_x, ak_e] at h
    repeat' (split at h)
    all_goals (first | (cases h; done) | (cases h; exact ⟨_, rfl⟩))
  | dreturn =>
    refine Or.inr ⟨rfl, ?_⟩
    simp only [ak_x, ak_e] at h
    repeat' (split at h)
    all_goals (first | (cases h; done) | (cases h; exact ⟨_, rfl⟩))
  | return_ =>
    refine Or.inr ⟨rfl, ?_⟩
    simp only [ak_x, ak_e] at h
    repeat' (split at h)
    all_goals (first | (cases h; done) | (cases h; exact ⟨_, rfl⟩))
  | new _ =>
    refine Or.inr ⟨rfl, ?_⟩
    simp only [ak_x, ak_e] at h
    repeat' (split at h)
    all_goals (first | (cases h; done) | (exact absurd h ak_nne) | (cases h; exact ⟨_, rfl⟩))
  | ifCond c _ =>
    exfalso
    cases c <;> (simp only [ak_x] at h; repeat' (split at h)) <;> first | (cases h; done) | exact absurd h ak_nne | exact absurd h ak_jne
  | if_icmp c _ =>
    exfalso
    cases c <;> (simp only [ak_x] at h; repeat' (split at h)) <;> first | (cases h; done) | exact absurd h ak_nne | exact absurd h ak_jne
  | _ =>
    exfalso
    simp only [ak_x] at h
    repeat' (split at h)
    all_goals (first | (cases h; done) | exact absurd h ak_nne | exact absurd h ak_jne | exact absurd h ak_s1ne | exact absurd h ak_s2ne | exact absurd h ak_ldne | exact absurd h ak_ld2ne)
set_option maxRecDepth 100000 in
theorem am_Xn : am_xs.all (fun q => Nat.ble 8 (am_K q.1) && Nat.ble 300 (am_Q q.1)) = true := by decide +kernel
theorem am_Xm {own idx : Nat} {z : Nat × Nat × Nat × Nat × Nat} (h : am_T own idx = some z) : 8 ≤ am_K own ∧ 300 ≤ am_Q own := by
  unfold am_T at h
  cases hf : am_xs.find? (fun q => q.1 == own && q.2.1 == idx) with
  | none => rw [hf] at h; cases h
  | some q =>
    have h1 := List.all_eq_true.mp am_Xn q (List.mem_of_find?_eq_some hf)
    have h2 := List.find?_some hf
    simp only [Bool.and_eq_true, beq_iff_eq] at h2
    rw [Bool.and_eq_true, h2.1] at h1
    exact ⟨Nat.le_of_ble_eq_true h1.1, Nat.le_of_ble_eq_true h1.2⟩
section AKH
variable {p : Program} {l : Launch} {e : Env} {R : Room} {s : State} {m : MethodId} {args : Array Value} {below : List Frame} {meth : Method} {c : Code} {Q : State → Prop}
variable {X : ak_X} {D : va_G} {dA : Nat → ClassId} {ac : Nat → Nat} {base : Nat}
theorem ak_catm (ad : Nat → Nat) (st : List Value) : ((st.map (ak_v ad)).map fun v => v.category).sum = ak_cat st := by
  unfold ak_cat
  rw [List.map_map]
  exact congrArg List.sum (List.map_congr_left fun v _ => ak_v_cat ad v)
theorem ak_use_w {ad : Nat → Nat} {M : ak_M} {a b : Nat} : ak_w ad dA (ak_use M a b) = ak_w ad dA M := rfl
theorem ak_use_ok {M : ak_M} {a b : Nat} (h : ak_okM M) : ak_okM (ak_use M a b) := h
theorem ak_isN_ot : ∀ {w : Jvm.Cond}, ak_isN w = true → w.onTables = true
  | .methodLinkNest _ _ _ _, _ => rfl
  | .fieldLinkNest _ _ _ _ _ _, _ => rfl
  | .castable _ _, _ => rfl
  | .declares _, _ => rfl
set_option maxHeartbeats 2000000 in
theorem ak_end {mi pc : Nat} {l1 : List (Option Value)} {l2 : List (Nat × Value)} {st : List Value} {M M0 : ak_M} {r : ak_O × ak_M} {ad ad0 : Nat → Nat} {H : Heap} {locs : List Loc} {cells slots mc ms : Nat} {ls : Array Slot}
    (C : ak_cx p l R s m args meth c mi) (hA : ak_amb X D dA ac (ak_A base) s s.heap) (hS : ak_S X mi (pc, l1, l2, st) M = some (.inr (.inl r))) (hM : ak_mi D dA ac base s H locs ad M) (hF : ak_fi ad M ls (am_X mi) l1 l2 st)
    (hext : ∀ x, ak_okP M0 x → ad x = ad0 x) (hb1 : cells + ak_C r.2 ≤ mc + ak_C M) (hb2 : slots + ak_Z r.2 ≤ ms + ak_Z M) (hmc : mc ≤ R.cells) (hms : ms ≤ R.slots) :
    W p l e R s m args below meth c H locs cells slots (vx_MQ below (ak_Q D dA ac base ad0 M0 r) (ak_XC D dA ac base ad0 M0 r) args s mc ms (ak_A base)) (F0 m pc ls (st.map (ak_v ad))) := by
  obtain ⟨hx, hb, hown, hts, hml, hrt, hlocks, hnm, htab, htr, hfr, hlo, hmi⟩ := C
  obtain ⟨hbs, hSv, hP, hD, hO, hac⟩ := hM
  obtain ⟨ins, hi, hS2⟩ := ak_Sx hS
  clear hS
  have hS := hS2
  clear hS2
  obtain ⟨n, hd, hn⟩ := ak_code hmi hi
  have fin : ∀ {v : Option Value} {t : State}, (∀ w, v = some w → ak_okV M w) → r = (.inl v, M) → t.heap = H → ak_Q D dA ac base ad0 M0 r args s (.returned (v.map (ak_v ad))) t := by
    intro v t hv hr ht
    subst hr
    exact ⟨⟨v, ad, rfl, rfl, hv, hext, by rw [ht]; exact hP, hD, hO, hac⟩, hSv.F ht⟩
  have hk := (ak_kinds hS)
  rcases hk with hk | ⟨hk, -⟩
  · exfalso
    cases ins <;> first | (cases hk; done) | exact absurd hS ak_incl
  · cases ins with
    | ireturn =>
      simp only [ak_x, ak_e] at hS
      split at hS
      · rename_i x
        split at hS
        · rename_i h0
          have hr := (Sum.inl.inj (Sum.inr.inj (Option.some.inj hS))).symm
          have hty : ∃ ty, am_R mi = some ty ∧ narrow ty (.int x) = .int x := by
            unfold ak_iok at h0
            split at h0
            · rename_i h; exact ⟨_, h, rfl⟩
            · rename_i h
              refine ⟨_, h, ?_⟩
              rcases of_decide_eq_true h0 with rfl | rfl <;> rfl
            · rename_i h
              refine ⟨_, h, ?_⟩
              have := of_decide_eq_true h0
              show Value.int (x.toUInt32 % 65536).toInt32 = _
              rw [this]
            · rename_i h
              refine ⟨_, h, ?_⟩
              have := of_decide_eq_true h0
              show Value.int x.toInt8.toInt32 = _
              rw [this]
            · cases h0
          obtain ⟨ty, h1, h2⟩ := hty
          rw [hr] at hb1 hb2
          dsimp only at hb1 hb2
          exact W.widen (k := mc) (n := ms) (by omega) (by omega) (vx_ret (W.zret (v := x) hx hb (hrt.trans h1) h2 (fun t ht _ => fin (v := some (.int x)) (fun w hw => by cases hw; trivial) hr ht) hSv.2.2 (ak_d1 hd hn (k := 0) rfl) hlocks))
        · cases hS
      · cases hS
    | areturn =>
      simp only [ak_x, ak_e] at hS
      split at hS
      · rename_i x
        split at hS
        · rename_i h0
          have hr := (Sum.inl.inj (Sum.inr.inj (Option.some.inj hS))).symm
          have hty : ∃ rt, am_R mi = some rt ∧ ((∃ n, rt = .object n) ∨ ∃ t, rt = .array t) := by
            unfold ak_isR at h0
            split at h0
            · rename_i n h; exact ⟨_, h, Or.inl ⟨n, rfl⟩⟩
            · rename_i n h; exact ⟨_, h, Or.inr ⟨n, rfl⟩⟩
            · cases h0
          obtain ⟨n9, h1, h1b⟩ := hty
          rw [hr] at hb1 hb2
          dsimp only at hb1 hb2
          exact W.widen (k := mc) (n := ms) (by omega) (by omega) (vx_ret (W.aret (v := .ref (ad x)) hx hb (hrt.trans h1) h1b (Or.inr ⟨_, rfl⟩) (fun t ht _ => fin (v := some (.ref x)) (fun w hw => by cases hw; exact ak_oh hF.1) hr ht) hSv.2.2 (ak_d1 hd hn (k := 0) rfl) hlocks))
        · cases hS
      · cases hS
    | freturn =>
      simp only [ak_x, ak_e] at hS
      split at hS
      · rename_i x
        split at hS
        · rename_i h1
          have hr := (Sum.inl.inj (Sum.inr.inj (Option.some.inj hS))).symm
          rw [hr] at hb1 hb2
          dsimp only at hb1 hb2
          exact W.widen (k := mc) (n := ms) (by omega) (by omega) (vx_ret (W.fret (v := x) hx hb (hrt.trans h1) (fun t ht _ => fin (v := some (.float x)) (fun w hw => by cases hw; trivial) hr ht) hSv.2.2 (ak_d1 hd hn (k := 0) rfl) hlocks))
        · cases hS
      · cases hS
    | dreturn =>
      simp only [ak_x, ak_e] at hS
      split at hS
      · rename_i x
        split at hS
        · rename_i h1
          have hr := (Sum.inl.inj (Sum.inr.inj (Option.some.inj hS))).symm
          rw [hr] at hb1 hb2
          dsimp only at hb1 hb2
          exact W.widen (k := mc) (n := ms) (by omega) (by omega) (vx_ret (W.dret (v := x) hx hb (hrt.trans h1) (fun t ht _ => fin (v := some (.double x)) (fun w hw => by cases hw; trivial) hr ht) hSv.2.2 (ak_d1 hd hn (k := 0) rfl) hlocks))
        · cases hS
      · cases hS
    | return_ =>
      simp only [ak_x, ak_e] at hS
      split at hS
      · split at hS
        · rename_i h1
          have hr := (Sum.inl.inj (Sum.inr.inj (Option.some.inj hS))).symm
          rw [hr] at hb1 hb2
          dsimp only at hb1 hb2
          exact W.widen (k := mc) (n := ms) (by omega) (by omega) (vx_ret (W.vret hx hb (hrt.trans h1) (fun t ht _ => fin (v := none) (fun w hw => by cases hw) hr ht) hSv.2.2 (ak_d1 hd hn (k := 0) rfl) hlocks))
        · cases hS
      · cases hS
    | new idx =>
      simp only [ak_x] at hS
      split at hS
      · split at hS
        · exact absurd hS ak_nne
        · cases hS
      · split at hS
        · rename_i E x hT
          obtain ⟨ik, is, wd, ic⟩ := x
          split at hS
          · rename_i hcat
            unfold ak_e at hS
            have hr := (Sum.inl.inj (Sum.inr.inj (Option.some.inj hS))).symm
            have hs := am_Ts hT
            unfold am_kX1 at hs
            simp only [Bool.and_eq_true, decide_eq_true_eq, bne_iff_ne, ne_eq] at hs
            obtain ⟨⟨⟨⟨⟨⟨⟨⟨⟨q1, q2⟩, q3⟩, q4⟩, q5⟩, q6⟩, q7⟩, q8⟩, q9⟩, q10⟩ := hs
            have hE : E < 3 := Nat.le_of_ble_eq_true q1
            have hH : am_H mi = [] := List.isEmpty_iff.mp q3
            have hall : ∀ w ∈ (Jvm.Cond.classLink (am_cn (am_O mi)) ik (am_E E) :: .initialized (am_E E) :: vx_atS (am_cn (am_O mi)) ic (am_E E) am_nm), vx_ot w = true ∧ w.before args s = true := by
              intro w hw
              have h1 := List.all_eq_true.mp q6 w hw
              rw [Bool.and_eq_true, Bool.and_eq_true, Bool.or_eq_true] at h1
              obtain ⟨⟨g1, g2⟩, g3⟩ := h1
              refine ⟨g1, ?_⟩
              rcases g2 with g2 | g2
              · exact hts w (List.mem_filter.mpr ⟨of_decide_eq_true g3, g2⟩)
              · exact va_Nw.use (ak_isN_ot g2) (hA.2.2.2.2.2.2.2.2.1 w (of_decide_eq_true g3) g2)
            obtain ⟨j, hj, hj28⟩ : ∃ j, am_G (am_O mi) is = some j ∧ j < 25 := by
              revert q10
              cases hg : am_G (am_O mi) is with
              | none => intro h; cases h
              | some j => intro h; exact ⟨j, rfl, Nat.le_of_ble_eq_true h⟩
            obtain ⟨-, e1, e2⟩ := am_Gs hj
            have hstr := (hA.2.2.2.2.2.1 j hj28).1
            rw [e1, e2] at hstr
            have hnames : ∀ n ∈ am_nm, Bundle.fit n = true := fun n hn => List.all_eq_true.mp q5 n hn
            have hout : ∀ (k : Nat), ∀ x ∈ c.exceptionTable.toList, covers x k = false := by
              intro k x hx9
              rw [htab q2, hH] at hx9
              cases hx9
            have hc9 : cells + 1 ≤ mc := by
              have : ak_C r.2 = ak_C M + 1 := by rw [hr]; rfl
              omega
            have hz9 : slots + 6 ≤ ms := by
              have : ak_Z r.2 = ak_Z M + 6 := by rw [hr]; rfl
              omega
            have hXm := am_Xm hT
            have hcs : ((st.map (ak_v ad)).map fun v => v.category).sum + (13 * (am_nm.length + 1) + 43) ≤ R.locals := by
              rw [ak_catm]
              show ak_cat st + (13 * (2 + 1) + 43) ≤ R.locals
              omega
            have hxc : ∀ t : State, s.vm.Alike t.vm → H.size ≤ t.heap.size → (∀ q : Nat, q < H.size → t.heap[q]? = H[q]?) → ak_XC D dA ac base ad0 M0 r (am_E E) s t := by
              intro t _ h1 h2
              subst hr
              refine ⟨⟨E, ad, rfl, hE, rfl, hext, hP.kept (fun k q hk => h2 q.1 ((hP k q hk).lt)), hD, hO, hac⟩, Nat.le_trans hSv.1 h1, fun q g1 g2 => ?_⟩
              rw [h2 q (Nat.lt_of_lt_of_le g1 hSv.1)]
              exact hSv.2.1 q g1 g2
            have hlsz : ls.size = c.maxLocals := by rw [hml]; exact hF.2.2.1
            by_cases hw : wd = 0
            · rw [if_pos hw, Bool.and_eq_true, Bool.and_eq_true] at q9
              obtain ⟨⟨p1, p2⟩, p3⟩ := q9
              exact vx_throwS (A := ak_A base) hx hb htr hown q4 hnames (hall _ List.mem_cons_self).2 (hall _ (List.mem_cons_of_mem _ List.mem_cons_self)).2 hstr (fun w hw => (hall w (List.mem_cons_of_mem _ (List.mem_cons_of_mem _ hw))).2) (fun w hw => (hall w hw).1) hA.2.2.2.2.2.2.1 hA.2.2.2.2.2.2.2.1 hSv hlsz q7 q8 (of_decide_eq_true p1) (of_decide_eq_true p2) (of_decide_eq_true p3) (hout _) (by show 2 + 3 < R.frames; omega) hcs (by omega) (by omega) hlocks hxc hSv.2.2 hc9 hz9
            · rw [if_neg hw, Bool.and_eq_true, Bool.and_eq_true] at q9
              obtain ⟨⟨p1, p2⟩, p3⟩ := q9
              exact vx_throwSW (A := ak_A base) hx hb htr hown q4 hnames (hall _ List.mem_cons_self).2 (hall _ (List.mem_cons_of_mem _ List.mem_cons_self)).2 hstr (fun w hw => (hall w (List.mem_cons_of_mem _ (List.mem_cons_of_mem _ hw))).2) (fun w hw => (hall w hw).1) hA.2.2.2.2.2.2.1 hA.2.2.2.2.2.2.2.1 hSv hlsz q7 q8 (of_decide_eq_true p1) (of_decide_eq_true p2) (of_decide_eq_true p3) (hout _) (by show 2 + 3 < R.frames; omega) hcs (by omega) (by omega) hlocks hxc hSv.2.2 hc9 hz9
          · cases hS
        · cases hS
    | _ => cases hk
end AKH
