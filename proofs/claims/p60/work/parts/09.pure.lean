/-! one step of the small machine is a step of the machine -/
theorem ak_d1 {cc : ByteArray} {pc n k : Nat} {ins : Instr} (hd : decode cc pc = .ok (ins, n)) (hn : am_len ins = 0 ∨ n = am_len ins) (h : am_len ins = k + 1) : decode cc pc = .ok (ins, k + 1) := by
  rcases hn with hn | hn
  · omega
  · rw [hd, hn, h]
theorem ak_jn {pc : Nat} {off : Int} {l1 : List (Option Value)} {l2 : List (Nat × Value)} {st : List Value} {M M' : ak_M} {f' : ak_F} (h : ak_j pc off l1 l2 st M = some (.inl (f', M'))) : ∃ t : Nat, (pc : Int) + off = (t : Int) ∧ ak_n t l1 l2 st M = some (.inl (f', M')) := by
  unfold ak_j at h
  split at h
  · rename_i h0
    exact ⟨_, (Int.toNat_of_nonneg h0).symm, h⟩
  · cases h
theorem ak_oc {M : ak_M} {v : Value} {st : List Value} (h : ak_okV M v) (h2 : ∀ w ∈ st, ak_okV M w) : ∀ w ∈ v :: st, ak_okV M w := List.forall_mem_cons.mpr ⟨h, h2⟩
theorem ak_o1 {M : ak_M} {a : Value} {st : List Value} (h : ∀ w ∈ a :: st, ak_okV M w) : ∀ w ∈ st, ak_okV M w := (List.forall_mem_cons.mp h).2
theorem ak_o2 {M : ak_M} {a b : Value} {st : List Value} (h : ∀ w ∈ a :: b :: st, ak_okV M w) : ∀ w ∈ st, ak_okV M w := ak_o1 (ak_o1 h)
theorem ak_o3 {M : ak_M} {a b c : Value} {st : List Value} (h : ∀ w ∈ a :: b :: c :: st, ak_okV M w) : ∀ w ∈ st, ak_okV M w := ak_o1 (ak_o2 h)
theorem ak_oh {M : ak_M} {a : Value} {st : List Value} (h : ∀ w ∈ a :: st, ak_okV M w) : ak_okV M a := (List.forall_mem_cons.mp h).1
theorem ak_ldn {i n pc : Nat} {ok : Value → Bool} {l1 : List (Option Value)} {l2 : List (Nat × Value)} {st : List Value} {M : ak_M} {a : ak_Act} (h : ak_ld i n pc ok l1 l2 st M = some a) : ∃ v, l1[i]? = some (some v) ∧ ok v = true ∧ ak_n (pc + n) l1 l2 (v :: st) M = some a := by
  unfold ak_ld at h
  split at h
  · rename_i v hv
    split at h
    · rename_i ho
      exact ⟨v, hv, ho, h⟩
    · cases h
  · cases h
theorem ak_ldn2 {i n pc : Nat} {ok : Value → Bool} {l1 : List (Option Value)} {l2 : List (Nat × Value)} {st : List Value} {M : ak_M} {a : ak_Act} (h : ak_ld2 i n pc ok l1 l2 st M = some a) : ∃ v, (i, v) ∈ l2 ∧ ok v = true ∧ ak_n (pc + n) l1 l2 (v :: st) M = some a := by
  unfold ak_ld2 ak_g2 at h
  split at h
  · rename_i v hv
    split at h
    · rename_i ho
      cases hf : l2.find? (fun q => q.1 == i) with
      | none => rw [hf] at hv; cases hv
      | some q =>
        rw [hf] at hv
        cases hv
        have h2 := List.find?_some hf
        have h3 : q.1 = i := by simpa using h2
        subst h3
        exact ⟨q.2, List.mem_of_find?_eq_some hf, ho, h⟩
    · cases h
  · cases h
theorem ak_sn1 {i pc : Nat} {v : Value} {l1 : List (Option Value)} {l2 : List (Nat × Value)} {st : List Value} {M : ak_M} {a : ak_Act} (h : ak_s1 i v pc l1 l2 st M = some a) : i < l1.length ∧ ak_n pc (l1.set i (some v)) (l2.filter (fun q => !(q.1 == i) && !(q.1 + 1 == i))) st M = some a := by
  unfold ak_s1 at h
  split at h
  · rename_i h0; exact ⟨h0, h⟩
  · cases h
theorem ak_sn2 {i pc : Nat} {v : Value} {l1 : List (Option Value)} {l2 : List (Nat × Value)} {st : List Value} {M : ak_M} {a : ak_Act} (h : ak_s2 i v pc l1 l2 st M = some a) : i + 1 < l1.length ∧ ak_n pc ((l1.set i none).set (i + 1) none) ((i, v) :: l2.filter (fun q => !(q.1 == i) && (!(q.1 == i + 1) && !(q.1 + 1 == i)))) st M = some a := by
  unfold ak_s2 at h
  split at h
  · rename_i h0; exact ⟨h0, h⟩
  · cases h
theorem ak_okset {M : ak_M} {l1 : List (Option Value)} {i : Nat} {v : Value} (h : ∀ (i : Nat) (v : Value), l1[i]? = some (some v) → ak_okV M v) (hv : ak_okV M v) : ∀ (j : Nat) (w : Value), (l1.set i (some v))[j]? = some (some w) → ak_okV M w := by
  intro j w hj
  rw [List.getElem?_set] at hj
  split at hj
  · split at hj
    · cases hj; exact hv
    · cases hj
  · exact h j w hj
theorem ak_oknone {M : ak_M} {l1 : List (Option Value)} {i : Nat} (h : ∀ (i : Nat) (v : Value), l1[i]? = some (some v) → ak_okV M v) : ∀ (j : Nat) (w : Value), (l1.set i none)[j]? = some (some w) → ak_okV M w := by
  intro j w hj
  rw [List.getElem?_set] at hj
  split at hj
  · split at hj <;> cases hj
  · exact h j w hj
theorem ak_ixv {i : Int32} {n : Nat} (h : ak_ix i n = true) : vp_in i n := by
  have h1 : ¬ (i < 0 ∨ n ≤ i.toNatClampNeg) := of_decide_eq_true h
  exact h1
section AKS
variable {p : Program} {l : Launch} {e : Env} {R : Room} {s : State} {m : MethodId} {args : Array Value} {below : List Frame} {meth : Method} {c : Code} {Q : State → Prop}
variable {X : ak_X} {D : va_G} {dA : Nat → ClassId} {ac : Nat → Nat} {base : Nat}

/-- a branch not taken: the row asks for the target, whatever it is -/
theorem ak_nt_if_eq {H : Heap} {locs : List Loc} {cells slots : Nat} {cc : ByteArray} {pc : Nat} {ls : Array Slot} {rest : List Value} {x : Int32} {off : Int} (hexec : p.tables.exec = Jvm.exec) (hb : c.code = cc) (hdg : decode cc pc = .ok (.ifCond .eq off, 3)) (hP : ¬ (x = 0))
    (k : W p l e R s m args below meth c H locs cells slots Q (F0 m (pc + 3) ls rest)) : W p l e R s m args below meth c H locs cells slots Q (F0 m pc ls (.int x :: rest)) := by
  intro T hT X
  obtain ⟨t, a, b⟩ := k T hT X
  refine ⟨t, ?_, b⟩
  jvm_step X.here [X.here.top, hexec, hb, hdg, Op.ifCond.holds, hP]
  exact a
theorem ak_nt_if_ne {H : Heap} {locs : List Loc} {cells slots : Nat} {cc : ByteArray} {pc : Nat} {ls : Array Slot} {rest : List Value} {x : Int32} {off : Int} (hexec : p.tables.exec = Jvm.exec) (hb : c.code = cc) (hdg : decode cc pc = .ok (.ifCond .ne off, 3)) (hP : x = 0)
    (k : W p l e R s m args below meth c H locs cells slots Q (F0 m (pc + 3) ls rest)) : W p l e R s m args below meth c H locs cells slots Q (F0 m pc ls (.int x :: rest)) := by
  intro T hT X
  obtain ⟨t, a, b⟩ := k T hT X
  refine ⟨t, ?_, b⟩
  jvm_step X.here [X.here.top, hexec, hb, hdg, Op.ifCond.holds, hP]
  exact a
theorem ak_nt_if_lt {H : Heap} {locs : List Loc} {cells slots : Nat} {cc : ByteArray} {pc : Nat} {ls : Array Slot} {rest : List Value} {x : Int32} {off : Int} (hexec : p.tables.exec = Jvm.exec) (hb : c.code = cc) (hdg : decode cc pc = .ok (.ifCond .lt off, 3)) (hP : ¬ (x < 0))
    (k : W p l e R s m args below meth c H locs cells slots Q (F0 m (pc + 3) ls rest)) : W p l e R s m args below meth c H locs cells slots Q (F0 m pc ls (.int x :: rest)) := by
  intro T hT X
  obtain ⟨t, a, b⟩ := k T hT X
  refine ⟨t, ?_, b⟩
  jvm_step X.here [X.here.top, hexec, hb, hdg, Op.ifCond.holds, hP]
  exact a
theorem ak_nt_if_ge {H : Heap} {locs : List Loc} {cells slots : Nat} {cc : ByteArray} {pc : Nat} {ls : Array Slot} {rest : List Value} {x : Int32} {off : Int} (hexec : p.tables.exec = Jvm.exec) (hb : c.code = cc) (hdg : decode cc pc = .ok (.ifCond .ge off, 3)) (hP : ¬ (0 ≤ x))
    (k : W p l e R s m args below meth c H locs cells slots Q (F0 m (pc + 3) ls rest)) : W p l e R s m args below meth c H locs cells slots Q (F0 m pc ls (.int x :: rest)) := by
  intro T hT X
  obtain ⟨t, a, b⟩ := k T hT X
  refine ⟨t, ?_, b⟩
  jvm_step X.here [X.here.top, hexec, hb, hdg, Op.ifCond.holds, hP]
  exact a
theorem ak_nt_if_gt {H : Heap} {locs : List Loc} {cells slots : Nat} {cc : ByteArray} {pc : Nat} {ls : Array Slot} {rest : List Value} {x : Int32} {off : Int} (hexec : p.tables.exec = Jvm.exec) (hb : c.code = cc) (hdg : decode cc pc = .ok (.ifCond .gt off, 3)) (hP : ¬ (0 < x))
    (k : W p l e R s m args below meth c H locs cells slots Q (F0 m (pc + 3) ls rest)) : W p l e R s m args below meth c H locs cells slots Q (F0 m pc ls (.int x :: rest)) := by
  intro T hT X
  obtain ⟨t, a, b⟩ := k T hT X
  refine ⟨t, ?_, b⟩
  jvm_step X.here [X.here.top, hexec, hb, hdg, Op.ifCond.holds, hP]
  exact a
theorem ak_nt_if_le {H : Heap} {locs : List Loc} {cells slots : Nat} {cc : ByteArray} {pc : Nat} {ls : Array Slot} {rest : List Value} {x : Int32} {off : Int} (hexec : p.tables.exec = Jvm.exec) (hb : c.code = cc) (hdg : decode cc pc = .ok (.ifCond .le off, 3)) (hP : ¬ (x ≤ 0))
    (k : W p l e R s m args below meth c H locs cells slots Q (F0 m (pc + 3) ls rest)) : W p l e R s m args below meth c H locs cells slots Q (F0 m pc ls (.int x :: rest)) := by
  intro T hT X
  obtain ⟨t, a, b⟩ := k T hT X
  refine ⟨t, ?_, b⟩
  jvm_step X.here [X.here.top, hexec, hb, hdg, Op.ifCond.holds, hP]
  exact a
theorem ak_nt_icmp_eq {H : Heap} {locs : List Loc} {cells slots : Nat} {cc : ByteArray} {pc : Nat} {ls : Array Slot} {rest : List Value} {x y : Int32} {off : Int} (hexec : p.tables.exec = Jvm.exec) (hb : c.code = cc) (hdg : decode cc pc = .ok (.if_icmp .eq off, 3)) (hP : ¬ (x = y))
    (k : W p l e R s m args below meth c H locs cells slots Q (F0 m (pc + 3) ls rest)) : W p l e R s m args below meth c H locs cells slots Q (F0 m pc ls (.int y :: .int x :: rest)) := by
  intro T hT X
  obtain ⟨t, a, b⟩ := k T hT X
  refine ⟨t, ?_, b⟩
  jvm_step X.here [X.here.top, hexec, hb, hdg, Op.if_icmp.holds, hP]
  exact a
theorem ak_nt_icmp_ne {H : Heap} {locs : List Loc} {cells slots : Nat} {cc : ByteArray} {pc : Nat} {ls : Array Slot} {rest : List Value} {x y : Int32} {off : Int} (hexec : p.tables.exec = Jvm.exec) (hb : c.code = cc) (hdg : decode cc pc = .ok (.if_icmp .ne off, 3)) (hP : x = y)
    (k : W p l e R s m args below meth c H locs cells slots Q (F0 m (pc + 3) ls rest)) : W p l e R s m args below meth c H locs cells slots Q (F0 m pc ls (.int y :: .int x :: rest)) := by
  intro T hT X
  obtain ⟨t, a, b⟩ := k T hT X
  refine ⟨t, ?_, b⟩
  jvm_step X.here [X.here.top, hexec, hb, hdg, Op.if_icmp.holds, hP]
  exact a
theorem ak_nt_icmp_lt {H : Heap} {locs : List Loc} {cells slots : Nat} {cc : ByteArray} {pc : Nat} {ls : Array Slot} {rest : List Value} {x y : Int32} {off : Int} (hexec : p.tables.exec = Jvm.exec) (hb : c.code = cc) (hdg : decode cc pc = .ok (.if_icmp .lt off, 3)) (hP : ¬ (x < y))
    (k : W p l e R s m args below meth c H locs cells slots Q (F0 m (pc + 3) ls rest)) : W p l e R s m args below meth c H locs cells slots Q (F0 m pc ls (.int y :: .int x :: rest)) := by
  intro T hT X
  obtain ⟨t, a, b⟩ := k T hT X
  refine ⟨t, ?_, b⟩
  jvm_step X.here [X.here.top, hexec, hb, hdg, Op.if_icmp.holds, hP]
  exact a
theorem ak_nt_icmp_ge {H : Heap} {locs : List Loc} {cells slots : Nat} {cc : ByteArray} {pc : Nat} {ls : Array Slot} {rest : List Value} {x y : Int32} {off : Int} (hexec : p.tables.exec = Jvm.exec) (hb : c.code = cc) (hdg : decode cc pc = .ok (.if_icmp .ge off, 3)) (hP : ¬ (y ≤ x))
    (k : W p l e R s m args below meth c H locs cells slots Q (F0 m (pc + 3) ls rest)) : W p l e R s m args below meth c H locs cells slots Q (F0 m pc ls (.int y :: .int x :: rest)) := by
  intro T hT X
  obtain ⟨t, a, b⟩ := k T hT X
  refine ⟨t, ?_, b⟩
  jvm_step X.here [X.here.top, hexec, hb, hdg, Op.if_icmp.holds, hP]
  exact a
theorem ak_nt_icmp_gt {H : Heap} {locs : List Loc} {cells slots : Nat} {cc : ByteArray} {pc : Nat} {ls : Array Slot} {rest : List Value} {x y : Int32} {off : Int} (hexec : p.tables.exec = Jvm.exec) (hb : c.code = cc) (hdg : decode cc pc = .ok (.if_icmp .gt off, 3)) (hP : ¬ (y < x))
    (k : W p l e R s m args below meth c H locs cells slots Q (F0 m (pc + 3) ls rest)) : W p l e R s m args below meth c H locs cells slots Q (F0 m pc ls (.int y :: .int x :: rest)) := by
  intro T hT X
  obtain ⟨t, a, b⟩ := k T hT X
  refine ⟨t, ?_, b⟩
  jvm_step X.here [X.here.top, hexec, hb, hdg, Op.if_icmp.holds, hP]
  exact a
theorem ak_nt_icmp_le {H : Heap} {locs : List Loc} {cells slots : Nat} {cc : ByteArray} {pc : Nat} {ls : Array Slot} {rest : List Value} {x y : Int32} {off : Int} (hexec : p.tables.exec = Jvm.exec) (hb : c.code = cc) (hdg : decode cc pc = .ok (.if_icmp .le off, 3)) (hP : ¬ (x ≤ y))
    (k : W p l e R s m args below meth c H locs cells slots Q (F0 m (pc + 3) ls rest)) : W p l e R s m args below meth c H locs cells slots Q (F0 m pc ls (.int y :: .int x :: rest)) := by
  intro T hT X
  obtain ⟨t, a, b⟩ := k T hT X
  refine ⟨t, ?_, b⟩
  jvm_step X.here [X.here.top, hexec, hb, hdg, Op.if_icmp.holds, hP]
  exact a
def ak_isP : Instr → Bool
  | .getfield _ => false | .putfield _ => false | .getstatic _ => false | .new _ => false | .newarray _ => false | .anewarray _ => false | .multianewarray _ _ => false
  | .arraylength => false | .iaload => false | .baload => false | .aaload => false | .iastore => false | .bastore => false | .aastore => false
  | .ldc _ => false | .ldc_w _ => false | .ldc2_w _ => false | .invokevirtual _ => false | .invokestatic _ => false | .invokespecial _ => false | .checkcast _ => false
  | _ => true
set_option maxHeartbeats 4000000 in
theorem ak_pure {mi pc : Nat} {ins : Instr} {f' : ak_F} {M : ak_M} {l1 : List (Option Value)} {l2 : List (Nat × Value)} {st : List Value} {H : Heap} {locs : List Loc} {cells slots : Nat} {ls : Array Slot} {ad : Nat → Nat}
    (C : ak_cx p l R s m args meth c mi) (hi : ak_isP ins = true) (hA : am_A mi pc = some ins) (hS : ak_x X mi ins pc l1 l2 st M = some (.inl (f', M))) (hF : ak_fi ad M ls (am_X mi) l1 l2 st)
    (kk : ∀ ls', ak_fi ad M ls' (am_X mi) f'.2.1 f'.2.2.1 f'.2.2.2 → W p l e R s m args below meth c H locs cells slots Q (F0 m f'.1 ls' (f'.2.2.2.map (ak_v ad)))) :
    W p l e R s m args below meth c H locs cells slots Q (F0 m pc ls (st.map (ak_v ad))) := by
  obtain ⟨hx, hb, hown, hts, hml, -, -, -, -, -, -, -, hmi⟩ := C
  obtain ⟨n, hd, hn⟩ := ak_code hmi hA
  obtain ⟨hF1, hF2, hF3⟩ := hF
  have k1 : ∀ {pc' : Nat} {l1' : List (Option Value)} {l2' : List (Nat × Value)} {st' : List Value} {M' : ak_M}, ak_n pc' l1' l2' st' M' = some (.inl (f', M)) → ∀ ls', (∀ v ∈ st', ak_okV M v) → (∀ (i : Nat) (v : Value), l1'[i]? = some (some v) → ak_okV M v) → ak_l ad ls' (am_X mi) l1' l2' →
      W p l e R s m args below meth c H locs cells slots Q (F0 m pc' ls' (st'.map (ak_v ad))) := by
    intro pc' l1' l2' st' M' h ls' a1 a2 a3
    obtain ⟨rfl, -⟩ := ak_inj h
    exact kk ls' ⟨a1, a2, a3⟩
  have k0 : ∀ {pc' : Nat} {st' : List Value} {M' : ak_M}, ak_n pc' l1 l2 st' M' = some (.inl (f', M)) → (∀ v ∈ st', ak_okV M v) → W p l e R s m args below meth c H locs cells slots Q (F0 m pc' ls (st'.map (ak_v ad))) :=
    fun h a1 => k1 h ls a1 hF2 hF3
  have hlen : l1.length = am_X mi := hF3.2.2.1
  have hz : ls.size = c.maxLocals := by rw [hml]; exact hF3.1
  cases ins with
  | iconst n =>
    simp only [ak_x] at hS
    exact lv_iconst hx hb (ak_d1 hd hn (k := 0) rfl) rfl (k0 hS (ak_oc trivial hF1))
  | bipush n =>
    simp only [ak_x] at hS
    exact lv_bipush hx hb (ak_d1 hd hn (k := 1) rfl) rfl (k0 hS (ak_oc trivial hF1))
  | sipush n =>
    simp only [ak_x] at hS
    exact lv_sipush hx hb (ak_d1 hd hn (k := 2) rfl) rfl (k0 hS (ak_oc trivial hF1))
  | lconst n =>
    simp only [ak_x] at hS
    exact lv_lconst hx hb (ak_d1 hd hn (k := 0) rfl) rfl (k0 hS (ak_oc trivial hF1))
  | fconst n =>
    simp only [ak_x] at hS
    split at hS
    · rename_i h0
      subst h0
      exact lv_fconst0 hx hb (ak_d1 hd hn (k := 0) rfl) (k0 hS (ak_oc trivial hF1))
    · cases hS
  | dconst n =>
    simp only [ak_x] at hS
    split at hS
    · rename_i h0
      subst h0
      exact lv_dconst0 hx hb (ak_d1 hd hn (k := 0) rfl) (k0 hS (ak_oc trivial hF1))
    · cases hS
  | iload_n k =>
    simp only [ak_x] at hS
    obtain ⟨v, h1, h2, h3⟩ := ak_ldn hS
    cases v with
    | int z => exact lv_iload_n hx hb (ak_d1 hd hn (k := 0) rfl) rfl (hF3.2.2.2.1 _ _ h1).2 (k0 h3 (ak_oc (hF2 _ _ h1) hF1))
    | _ => cases h2
  | iload i =>
    simp only [ak_x] at hS
    obtain ⟨v, h1, h2, h3⟩ := ak_ldn hS
    cases v with
    | int z => exact lv_iload hx hb (ak_d1 hd hn (k := 1) rfl) (hF3.2.2.2.1 _ _ h1).2 (k0 h3 (ak_oc (hF2 _ _ h1) hF1))
    | _ => cases h2
  | fload i =>
    simp only [ak_x] at hS
    obtain ⟨v, h1, h2, h3⟩ := ak_ldn hS
    cases v with
    | float z => exact lv_fload hx hb (ak_d1 hd hn (k := 1) rfl) (hF3.2.2.2.1 _ _ h1).2 (k0 h3 (ak_oc (hF2 _ _ h1) hF1))
    | _ => cases h2
  | aload_n k =>
    simp only [ak_x] at hS
    obtain ⟨v, h1, h2, h3⟩ := ak_ldn hS
    cases v with
    | ref z => exact lv_aload_n hx hb (ak_d1 hd hn (k := 0) rfl) rfl (hF3.2.2.2.1 _ _ h1).2 (k0 h3 (ak_oc (hF2 _ _ h1) hF1))
    | _ => cases h2
  | aload i =>
    simp only [ak_x] at hS
    obtain ⟨v, h1, h2, h3⟩ := ak_ldn hS
    cases v with
    | ref z => exact lv_aload hx hb (ak_d1 hd hn (k := 1) rfl) (hF3.2.2.2.1 _ _ h1).2 (k0 h3 (ak_oc (hF2 _ _ h1) hF1))
    | _ => cases h2
  | lload_n k =>
    simp only [ak_x] at hS
    obtain ⟨v, h1, h2, h3⟩ := ak_ldn2 hS
    cases v with
    | long z => exact lv_lload_n hx hb (ak_d1 hd hn (k := 0) rfl) rfl (hF3.2.2.2.2 _ h1).2 (k0 h3 (ak_oc trivial hF1))
    | _ => cases h2
  | lload i =>
    simp only [ak_x] at hS
    obtain ⟨v, h1, h2, h3⟩ := ak_ldn2 hS
    cases v with
    | long z => exact lv_lload hx hb (ak_d1 hd hn (k := 1) rfl) (hF3.2.2.2.2 _ h1).2 (k0 h3 (ak_oc trivial hF1))
    | _ => cases h2
  | dload_n k =>
    simp only [ak_x] at hS
    obtain ⟨v, h1, h2, h3⟩ := ak_ldn2 hS
    cases v with
    | double z => exact lv_dload_n hx hb (ak_d1 hd hn (k := 0) rfl) rfl (hF3.2.2.2.2 _ h1).2 (k0 h3 (ak_oc trivial hF1))
    | _ => cases h2
  | dload i =>
    simp only [ak_x] at hS
    obtain ⟨v, h1, h2, h3⟩ := ak_ldn2 hS
    cases v with
    | double z => exact lv_dload hx hb (ak_d1 hd hn (k := 1) rfl) (hF3.2.2.2.2 _ h1).2 (k0 h3 (ak_oc trivial hF1))
    | _ => cases h2
  | istore_n k =>
    simp only [ak_x] at hS
    split at hS
    · rename_i z r
      obtain ⟨h1, h2⟩ := ak_sn1 hS
      exact lv_istore_n (lv := ak_ll ad l1 l2) hx hb (ak_d1 hd hn (k := 0) rfl) rfl (ak_lh hF3) (by rw [← hlen]; exact h1) rfl (fun ls' hl => k1 h2 ls' (ak_o1 hF1) (ak_okset hF2 (ak_oh hF1)) (ak_ls1 (v := .int z) hF3 rfl hl))
    · cases hS
  | istore i =>
    simp only [ak_x] at hS
    split at hS
    · rename_i z r
      obtain ⟨h1, h2⟩ := ak_sn1 hS
      exact lv_istore (lv := ak_ll ad l1 l2) hx hb (ak_d1 hd hn (k := 1) rfl) (ak_lh hF3) (by rw [← hlen]; exact h1) rfl (fun ls' hl => k1 h2 ls' (ak_o1 hF1) (ak_okset hF2 (ak_oh hF1)) (ak_ls1 (v := .int z) hF3 rfl hl))
    · cases hS
  | fstore i =>
    simp only [ak_x] at hS
    split at hS
    · rename_i z r
      obtain ⟨h1, h2⟩ := ak_sn1 hS
      exact lv_fstore (lv := ak_ll ad l1 l2) hx hb (ak_d1 hd hn (k := 1) rfl) (ak_lh hF3) (by rw [← hlen]; exact h1) rfl (fun ls' hl => k1 h2 ls' (ak_o1 hF1) (ak_okset hF2 (ak_oh hF1)) (ak_ls1 (v := .float z) hF3 rfl hl))
    · cases hS
  | astore_n k =>
    simp only [ak_x] at hS
    split at hS
    · rename_i z r
      obtain ⟨h1, h2⟩ := ak_sn1 hS
      exact lv_astore_n (lv := ak_ll ad l1 l2) hx hb (ak_d1 hd hn (k := 0) rfl) rfl (ak_lh hF3) (by rw [← hlen]; exact h1) rfl (fun ls' hl => k1 h2 ls' (ak_o1 hF1) (ak_okset hF2 (ak_oh hF1)) (ak_ls1 (v := .ref z) hF3 rfl hl))
    · cases hS
  | astore i =>
    simp only [ak_x] at hS
    split at hS
    · rename_i z r
      obtain ⟨h1, h2⟩ := ak_sn1 hS
      exact lv_astore (lv := ak_ll ad l1 l2) hx hb (ak_d1 hd hn (k := 1) rfl) (ak_lh hF3) (by rw [← hlen]; exact h1) rfl (fun ls' hl => k1 h2 ls' (ak_o1 hF1) (ak_okset hF2 (ak_oh hF1)) (ak_ls1 (v := .ref z) hF3 rfl hl))
    · cases hS
  | dstore i =>
    simp only [ak_x] at hS
    split at hS
    · rename_i z r
      obtain ⟨h1, h2⟩ := ak_sn2 hS
      exact lv_dstore (lv := ak_ll ad l1 l2) hx hb (ak_d1 hd hn (k := 1) rfl) (ak_lh hF3) (by rw [← hlen]; exact h1) rfl (fun ls' hl => k1 h2 ls' (ak_o1 hF1) (ak_oknone (ak_oknone hF2)) (ak_ls2 (v := .double z) hF3 rfl hl))
    · cases hS
  | iinc i n =>
    simp only [ak_x] at hS
    split at hS
    · rename_i z hz1
      obtain ⟨h1, h2⟩ := ak_sn1 hS
      obtain ⟨k9, hk9⟩ := ak_lp (ad := ad) (l2 := l2) hz1
      exact lv_iinc (lv := ak_ll ad l1 l2) hx hb (ak_d1 hd hn (k := 2) rfl) (ak_lh hF3) hk9 rfl (by rw [← hlen]; exact h1) rfl (fun ls' hl => k1 h2 ls' hF1 (ak_okset hF2 trivial) (ak_ls1 (v := .int _) hF3 rfl hl))
    · cases hS
  | iadd =>
    simp only [ak_x] at hS
    split at hS
    · exact lv_iadd hx hb (ak_d1 hd hn (k := 0) rfl) (k0 hS (ak_oc trivial (ak_o2 hF1)))
    · cases hS
  | isub =>
    simp only [ak_x] at hS
    split at hS
    · exact lv_isub hx hb (ak_d1 hd hn (k := 0) rfl) (k0 hS (ak_oc trivial (ak_o2 hF1)))
    · cases hS
  | imul =>
    simp only [ak_x] at hS
    split at hS
    · exact lv_imul hx hb (ak_d1 hd hn (k := 0) rfl) (k0 hS (ak_oc trivial (ak_o2 hF1)))
    · cases hS
  | iand =>
    simp only [ak_x] at hS
    split at hS
    · exact lv_iand hx hb (ak_d1 hd hn (k := 0) rfl) (k0 hS (ak_oc trivial (ak_o2 hF1)))
    · cases hS
  | ior =>
    simp only [ak_x] at hS
    split at hS
    · exact lv_ior hx hb (ak_d1 hd hn (k := 0) rfl) (k0 hS (ak_oc trivial (ak_o2 hF1)))
    · cases hS
  | ixor =>
    simp only [ak_x] at hS
    split at hS
    · exact lv_ixor hx hb (ak_d1 hd hn (k := 0) rfl) (k0 hS (ak_oc trivial (ak_o2 hF1)))
    · cases hS
  | ishl =>
    simp only [ak_x] at hS
    split at hS
    · exact lv_ishl hx hb (ak_d1 hd hn (k := 0) rfl) (k0 hS (ak_oc trivial (ak_o2 hF1)))
    · cases hS
  | ishr =>
    simp only [ak_x] at hS
    split at hS
    · exact lv_ishr hx hb (ak_d1 hd hn (k := 0) rfl) (k0 hS (ak_oc trivial (ak_o2 hF1)))
    · cases hS
  | idiv =>
    simp only [ak_x] at hS
    split at hS
    · split at hS
      · cases hS
      · rename_i h0
        exact lv_idiv hx hb (ak_d1 hd hn (k := 0) rfl) h0 (k0 hS (ak_oc trivial (ak_o2 hF1)))
    · cases hS
  | irem =>
    simp only [ak_x] at hS
    split at hS
    · split at hS
      · cases hS
      · rename_i h0
        exact lv_irem hx hb (ak_d1 hd hn (k := 0) rfl) h0 (k0 hS (ak_oc trivial (ak_o2 hF1)))
    · cases hS
  | ineg =>
    simp only [ak_x] at hS
    split at hS
    · exact lv_ineg hx hb (ak_d1 hd hn (k := 0) rfl) (k0 hS (ak_oc trivial (ak_o1 hF1)))
    · cases hS
  | lsub =>
    simp only [ak_x] at hS
    split at hS
    · exact lv_lsub hx hb (ak_d1 hd hn (k := 0) rfl) (k0 hS (ak_oc trivial (ak_o2 hF1)))
    · cases hS
  | lcmp =>
    simp only [ak_x] at hS
    split at hS
    · exact W.lcmp hx hb (ak_d1 hd hn (k := 0) rfl) (k0 hS (ak_oc trivial (ak_o2 hF1)))
    · cases hS
  | i2l =>
    simp only [ak_x] at hS
    split at hS
    · exact lv_i2l hx hb (ak_d1 hd hn (k := 0) rfl) rfl (k0 hS (ak_oc trivial (ak_o1 hF1)))
    · cases hS
  | i2b =>
    simp only [ak_x] at hS
    split at hS
    · exact lv_i2b hx hb (ak_d1 hd hn (k := 0) rfl) rfl (k0 hS (ak_oc trivial (ak_o1 hF1)))
    · cases hS
  | i2c =>
    simp only [ak_x] at hS
    split at hS
    · exact lv_i2c hx hb (ak_d1 hd hn (k := 0) rfl) rfl (k0 hS (ak_oc trivial (ak_o1 hF1)))
    · cases hS
  | i2f =>
    simp only [ak_x] at hS
    split at hS
    · exact lv_i2f hx hb (ak_d1 hd hn (k := 0) rfl) (k0 hS (ak_oc trivial (ak_o1 hF1)))
    · cases hS
  | i2d =>
    simp only [ak_x] at hS
    split at hS
    · exact lv_i2d hx hb (ak_d1 hd hn (k := 0) rfl) (k0 hS (ak_oc trivial (ak_o1 hF1)))
    · cases hS
  | f2d =>
    simp only [ak_x] at hS
    split at hS
    · split at hS
      · rename_i h0
        exact lv_f2d hx hb (ak_d1 hd hn (k := 0) rfl) h0 (k0 hS (ak_oc trivial (ak_o1 hF1)))
      · cases hS
    · cases hS
  | fdiv =>
    simp only [ak_x] at hS
    split at hS
    · split at hS
      · rename_i h0
        exact lv_fdiv hx hb (ak_d1 hd hn (k := 0) rfl) h0 (k0 hS (ak_oc trivial (ak_o2 hF1)))
      · cases hS
    · cases hS
  | ddiv =>
    simp only [ak_x] at hS
    split at hS
    · split at hS
      · rename_i h0
        exact lv_ddiv hx hb (ak_d1 hd hn (k := 0) rfl) h0 (k0 hS (ak_oc trivial (ak_o2 hF1)))
      · cases hS
    · cases hS
  | fcmp op =>
    simp only [ak_x] at hS
    split at hS
    · exact lv_fcmp hx hb (ak_d1 hd hn (k := 0) rfl) (k0 hS (ak_oc trivial (ak_o2 hF1)))
    · cases hS
  | dcmp op =>
    simp only [ak_x] at hS
    split at hS
    · exact lv_dcmp hx hb (ak_d1 hd hn (k := 0) rfl) (k0 hS (ak_oc trivial (ak_o2 hF1)))
    · cases hS
  | dup =>
    simp only [ak_x] at hS
    split at hS
    · split at hS
      · rename_i h0
        exact lv_dup hx hb (ak_d1 hd hn (k := 0) rfl) (by rw [ak_v_cat]; exact h0) (k0 hS (ak_oc (ak_oh hF1) hF1))
      · cases hS
    · cases hS
  | dup_x1 =>
    simp only [ak_x] at hS
    split at hS
    · split at hS
      · rename_i h0
        exact lv_dup_x1 hx hb (ak_d1 hd hn (k := 0) rfl) (by rw [ak_v_cat]; exact h0.1) (by rw [ak_v_cat]; exact h0.2) (k0 hS (ak_oc (ak_oh hF1) (ak_oc (ak_oh (ak_o1 hF1)) (ak_oc (ak_oh hF1) (ak_o2 hF1)))))
      · cases hS
    · cases hS
  | dup2 =>
    simp only [ak_x] at hS
    split at hS
    · split at hS
      · rename_i h0
        exact lv_dup2_11 hx hb (ak_d1 hd hn (k := 0) rfl) (by rw [ak_v_cat]; exact h0.1) (by rw [ak_v_cat]; exact h0.2) (k0 hS (ak_oc (ak_oh hF1) (ak_oc (ak_oh (ak_o1 hF1)) hF1)))
      · cases hS
    · cases hS
  | aconst_null =>
    simp only [ak_x] at hS
    exact lv_null hx hb (ak_d1 hd hn (k := 0) rfl) (k0 hS (ak_oc trivial hF1))
  | ifnonnull off =>
    simp only [ak_x] at hS
    split at hS
    · obtain ⟨t, ht, h2⟩ := ak_jn hS
      exact lv_ifnonnull hx hb (ak_d1 hd hn (k := 2) rfl) ht (k0 h2 (ak_o1 hF1))
    · cases hS
  | pop =>
    simp only [ak_x] at hS
    split at hS
    · split at hS
      · rename_i h0
        exact lv_pop hx hb (ak_d1 hd hn (k := 0) rfl) (by rw [ak_v_cat]; exact h0) (k0 hS (ak_o1 hF1))
      · cases hS
    · cases hS
  | goto off =>
    simp only [ak_x] at hS
    obtain ⟨t, ht, h2⟩ := ak_jn hS
    exact lv_goto hx hb (ak_d1 hd hn (k := 2) rfl) ht (k0 h2 hF1)
  | ifCond cd off =>
    cases cd with
    | eq =>
      simp only [ak_x] at hS
      split at hS
      · split at hS
        · rename_i h0
          obtain ⟨t, ht, h2⟩ := ak_jn hS
          exact lv_if_eq hx hb (ak_d1 hd hn (k := 2) rfl) ht (fun _ => k0 h2 (ak_o1 hF1)) (fun h1 => absurd h0 h1)
        · rename_i h0
          exact ak_nt_if_eq hx hb (ak_d1 hd hn (k := 2) rfl) h0 (k0 hS (ak_o1 hF1))
      · cases hS
    | ne =>
      simp only [ak_x] at hS
      split at hS
      · split at hS
        · rename_i h0
          exact ak_nt_if_ne hx hb (ak_d1 hd hn (k := 2) rfl) h0 (k0 hS (ak_o1 hF1))
        · rename_i h0
          obtain ⟨t, ht, h2⟩ := ak_jn hS
          exact lv_if_ne hx hb (ak_d1 hd hn (k := 2) rfl) ht (fun _ => k0 h2 (ak_o1 hF1)) (fun h1 => absurd h1 h0)
      · cases hS
    | lt =>
      simp only [ak_x] at hS
      split at hS
      · split at hS
        · rename_i h0
          obtain ⟨t, ht, h2⟩ := ak_jn hS
          exact lv_if_lt hx hb (ak_d1 hd hn (k := 2) rfl) ht (fun _ => k0 h2 (ak_o1 hF1)) (fun h1 => absurd h0 h1)
        · rename_i h0
          exact ak_nt_if_lt hx hb (ak_d1 hd hn (k := 2) rfl) h0 (k0 hS (ak_o1 hF1))
      · cases hS
    | ge =>
      simp only [ak_x] at hS
      split at hS
      · split at hS
        · rename_i h0
          obtain ⟨t, ht, h2⟩ := ak_jn hS
          exact lv_if_ge hx hb (ak_d1 hd hn (k := 2) rfl) ht (fun _ => k0 h2 (ak_o1 hF1)) (fun h1 => absurd h0 h1)
        · rename_i h0
          exact ak_nt_if_ge hx hb (ak_d1 hd hn (k := 2) rfl) h0 (k0 hS (ak_o1 hF1))
      · cases hS
    | gt =>
      simp only [ak_x] at hS
      split at hS
      · split at hS
        · rename_i h0
          obtain ⟨t, ht, h2⟩ := ak_jn hS
          exact lv_if_gt hx hb (ak_d1 hd hn (k := 2) rfl) ht (fun _ => k0 h2 (ak_o1 hF1)) (fun h1 => absurd h0 h1)
        · rename_i h0
          exact ak_nt_if_gt hx hb (ak_d1 hd hn (k := 2) rfl) h0 (k0 hS (ak_o1 hF1))
      · cases hS
    | le =>
      simp only [ak_x] at hS
      split at hS
      · split at hS
        · rename_i h0
          obtain ⟨t, ht, h2⟩ := ak_jn hS
          exact lv_if_le hx hb (ak_d1 hd hn (k := 2) rfl) ht (fun _ => k0 h2 (ak_o1 hF1)) (fun h1 => absurd h0 h1)
        · rename_i h0
          exact ak_nt_if_le hx hb (ak_d1 hd hn (k := 2) rfl) h0 (k0 hS (ak_o1 hF1))
      · cases hS
  | if_icmp cd off =>
    cases cd with
    | eq =>
      simp only [ak_x] at hS
      split at hS
      · split at hS
        · rename_i h0
          obtain ⟨t, ht, h2⟩ := ak_jn hS
          exact lv_icmp_eq hx hb (ak_d1 hd hn (k := 2) rfl) ht (fun _ => k0 h2 (ak_o2 hF1)) (fun h1 => absurd h0 h1)
        · rename_i h0
          exact ak_nt_icmp_eq hx hb (ak_d1 hd hn (k := 2) rfl) h0 (k0 hS (ak_o2 hF1))
      · cases hS
    | ne =>
      simp only [ak_x] at hS
      split at hS
      · split at hS
        · rename_i h0
          exact ak_nt_icmp_ne hx hb (ak_d1 hd hn (k := 2) rfl) h0 (k0 hS (ak_o2 hF1))
        · rename_i h0
          obtain ⟨t, ht, h2⟩ := ak_jn hS
          exact lv_icmp_ne hx hb (ak_d1 hd hn (k := 2) rfl) ht (fun _ => k0 h2 (ak_o2 hF1)) (fun h1 => absurd h1 h0)
      · cases hS
    | lt =>
      simp only [ak_x] at hS
      split at hS
      · split at hS
        · rename_i h0
          obtain ⟨t, ht, h2⟩ := ak_jn hS
          exact lv_icmp_lt hx hb (ak_d1 hd hn (k := 2) rfl) ht (fun _ => k0 h2 (ak_o2 hF1)) (fun h1 => absurd h0 h1)
        · rename_i h0
          exact ak_nt_icmp_lt hx hb (ak_d1 hd hn (k := 2) rfl) h0 (k0 hS (ak_o2 hF1))
      · cases hS
    | ge =>
      simp only [ak_x] at hS
      split at hS
      · split at hS
        · rename_i h0
          obtain ⟨t, ht, h2⟩ := ak_jn hS
          exact lv_icmp_ge hx hb (ak_d1 hd hn (k := 2) rfl) ht (fun _ => k0 h2 (ak_o2 hF1)) (fun h1 => absurd h0 h1)
        · rename_i h0
          exact ak_nt_icmp_ge hx hb (ak_d1 hd hn (k := 2) rfl) h0 (k0 hS (ak_o2 hF1))
      · cases hS
    | gt =>
      simp only [ak_x] at hS
      split at hS
      · split at hS
        · rename_i h0
          obtain ⟨t, ht, h2⟩ := ak_jn hS
          exact lv_icmp_gt hx hb (ak_d1 hd hn (k := 2) rfl) ht (fun _ => k0 h2 (ak_o2 hF1)) (fun h1 => absurd h0 h1)
        · rename_i h0
          exact ak_nt_icmp_gt hx hb (ak_d1 hd hn (k := 2) rfl) h0 (k0 hS (ak_o2 hF1))
      · cases hS
    | le =>
      simp only [ak_x] at hS
      split at hS
      · split at hS
        · rename_i h0
          obtain ⟨t, ht, h2⟩ := ak_jn hS
          exact lv_icmp_le hx hb (ak_d1 hd hn (k := 2) rfl) ht (fun _ => k0 h2 (ak_o2 hF1)) (fun h1 => absurd h0 h1)
        · rename_i h0
          exact ak_nt_icmp_le hx hb (ak_d1 hd hn (k := 2) rfl) h0 (k0 hS (ak_o2 hF1))
      · cases hS
  | tableswitch d lo hi offs =>
    simp only [ak_x] at hS
    split at hS
    · split at hS
      · rename_i h0
        obtain ⟨t, ht, h2⟩ := ak_jn hS
        exact lv_tableOut hx hb hd h0 ht (k0 h2 (ak_o1 hF1))
      · rename_i h0
        split at hS
        · rename_i oo hoo
          obtain ⟨t, ht, h2⟩ := ak_jn hS
          exact lv_tableIn hx hb hd (fun h => h0 (Or.inl h)) (fun h => h0 (Or.inr h)) hoo ht (k0 h2 (ak_o1 hF1))
        · cases hS
    · cases hS
  | lookupswitch d ps =>
    simp only [ak_x] at hS
    split at hS
    · split at hS
      · rename_i h0
        obtain ⟨t, ht, h2⟩ := ak_jn hS
        exact lv_lookup hx hb hd h0 rfl ht (k0 h2 (ak_o1 hF1))
      · cases hS
    · cases hS
  | getfield _ => cases hi
  | putfield _ => cases hi
  | getstatic _ => cases hi
  | new _ => cases hi
  | newarray _ => cases hi
  | anewarray _ => cases hi
  | multianewarray _ _ => cases hi
  | arraylength => cases hi
  | iaload => cases hi
  | baload => cases hi
  | aaload => cases hi
  | iastore => cases hi
  | bastore => cases hi
  | aastore => cases hi
  | ldc _ => cases hi
  | ldc_w _ => cases hi
  | ldc2_w _ => cases hi
  | invokevirtual _ => cases hi
  | invokestatic _ => cases hi
  | invokespecial _ => cases hi
  | checkcast _ => cases hi
  | ireturn =>
    simp only [ak_x, ak_e] at hS
    repeat (split at hS)
    all_goals (first | (cases hS; done) | simp at hS)
  | areturn =>
    simp only [ak_x, ak_e] at hS
    repeat (split at hS)
    all_goals (first | (cases hS; done) | simp at hS)
  | freturn =>
    simp only [ak_x, ak_e] at hS
    repeat (split at hS)
    all_goals (first | (cases hS; done) | simp at hS)
  | dreturn =>
    simp only [ak_x, ak_e] at hS
    repeat (split at hS)
    all_goals (first | (cases hS; done) | simp at hS)
  | return_ =>
    simp only [ak_x, ak_e] at hS
    repeat (split at hS)
    all_goals (first | (cases hS; done) | simp at hS)
  | _ => exact absurd hS (by simp [ak_x])
end AKS
