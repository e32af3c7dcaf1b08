/-! THE CLAIM OUT OF ONE WALK OF THE LAW'S BODY. Your part is whole_start (and what it stands on); all else here is the same for every law, but numbers. -/
def R_law : String := "KiteQuarrelLaw"
def lw_P (b : Addr) (xs : List Int32) (args : Array Value) (s : State) : Prop := args = #[.ref b] ∧ s.IntsAt b xs ∧ xs.length ≤ 260 ∧ (Jvm.Cond.and given_1 narrow_1).before args s = true
def lw_Q (_ : Array Value) (s : State) (o : Outcome) (t : State) : Prop := o = .returned (some (.int 1)) ∧ Framed s o t [] 600086 7301442
def lw_Z (below : List Frame) (a : Array Value) (s : State) : State → Prop := fun t => ∃ o, t.status = .running ∧ Ended t below o ∧ lw_Q a s o t
/-- the law's own end, with 1 on the stack, nothing written that was there before, its room as the claim has it -/
theorem lw_ret {p : Program} {l : Launch} {e : Env} {s : State} {m : MethodId} {below : List Frame} {meth : Method} {c : Code} {b : Nat} (hx : p.tables.exec = Jvm.exec) (hb : c.code = code) (hr : meth.sig.returnType = ret) (hlocks : meth.locks = false) {pc : Nat} {H : Heap} {ls : Array Slot} (hdg : decode code pc = .ok (.ireturn, 1)) : W p l e room_1 s m #[Value.ref b] below meth c H [] 600086 7301442 (lw_Z below #[Value.ref b] s) (F0 m pc ls [.int 1]) := by
  intro T hT X
  obtain ⟨fs, hret, hrun, hended, hW, hframe⟩ := X.leave (v := some (.int 1)) (hlocks := hlocks) (fun h => by rw [hr] at h; cases h)
  have hmeth' : T.vm.method? m = some meth := X.method'
  refine ⟨T.setFrames fs, ?_, .returned (some (.int 1)), hrun, hended, rfl, ⟨_, rfl⟩, hW, hframe⟩
  jvm_step X.here [X.here.top, hx, hb, hdg, hmeth', hr, ret, narrow_b1]
  (try refine ⟨rfl, ?_⟩); (try refine ⟨rfl, ?_⟩)
  first | (intro acts; rw [hret _ acts rfl rfl rfl]) | rw [hret _ _ rfl rfl rfl]
  exact Steps.refl _
/-- what holds at the law's entry: the machine, the code, the tables' words (any of lw_tbl by 'hts w (by decide +kernel)'), the script of L ints xs at the cell b, what the Statement gives of the start (any of its parts by flat_of_before) -/
def lw_At (p : Program) (s : State) (m : MethodId) (meth : Method) (c : Code) (b L : Nat) (xs : Nat → Int32) : Prop :=
  p.tables.exec = Jvm.exec ∧ c.code = code ∧ meth.sig.returnType = ret ∧ c.maxLocals = 12 ∧ s.vm.findClass R_law = some m.cls ∧ (∀ w ∈ lw_tbl, w.before #[Value.ref b] s = true) ∧ va_X b L xs s s.heap ∧ b < s.heap.size ∧ meth.locks = false ∧ (Jvm.Cond.and given_1 narrow_1).before #[Value.ref b] s = true
/-! the law's entry: what the Statement gives there -/
def ak_M0 : ak_M := (fun _ _ => 0, fun _ _ => none, fun _ _ => 0, fun _ _ => 0, fun _ => 0, fun _ => 0, 0, 0, 0)
def am_qt (j : Nat) : Term := .string (am_cn (ak_sw j).1) (ak_sw j).2.1
def am_qv (j : Nat) : Term := .field (am_qt j) "java/lang/String" "value" "[B"
def am_qb (j : Nat) : List Int32 := am_sb.getD j []
def am_qs (j : Nat) : List Jvm.Cond := .exactly (am_qt j) "java/lang/String" :: .eq (.field (am_qt j) "java/lang/String" "coder" "B") (.int 0) :: .arrayOf (am_qv j) .byte :: .eq (.length (am_qv j)) (.int (Int32.ofNat (am_qb j).length)) :: (List.range (am_qb j).length).map (fun k => .eq (.elem (am_qv j) (.int (Int32.ofNat k))) (.int ((am_qb j).getD k 0)))
def am_gv : List Jvm.Cond := flatC (Jvm.Cond.and given_1 narrow_1)
def am_qp : List Nat := [368, 379, 391, 405, 419, 435, 451, 469, 487, 507, 528, 312, 328, 824, 345, 548, 572, 597, 624, 650, 679, 709, 738, 768, 796]
theorem am_qd : (List.range 25).all (fun j => decide ((am_gv.drop (am_qp.getD j 0)).take (am_qs j).length = am_qs j)) = true := by decide +kernel
theorem am_qin {j : Nat} (h : j < 25) : ∀ w ∈ am_qs j, w ∈ am_gv := by
  intro w hw
  have h1 : (am_gv.drop (am_qp.getD j 0)).take (am_qs j).length = am_qs j := of_decide_eq_true (List.all_eq_true.mp am_qd j (List.mem_range.mpr h))
  rw [← h1] at hw
  exact List.mem_of_mem_drop (List.mem_of_mem_take hw)
theorem am_qr : (List.range 25).all (fun j => decide (Jvm.Cond.stringRef (am_cn (ak_sw j).1) (ak_sw j).2.1 (ak_sw j).2.2 ∈ ax_tbl)) = true := by decide +kernel
def am_tt (j : Nat) : List Int32 := if j = 0 then ak_t0 else if j = 1 then ak_t1 else ak_t2
def am_tm (j : Nat) : Term := .static (am_sn j).1 (am_sn j).2.1 (am_sn j).2.2
def am_tq (j : Nat) : List Jvm.Cond := .arrayOf (am_tm j) .int :: .eq (.length (am_tm j)) (.int (Int32.ofNat 6)) :: (List.range 6).map (fun k => .eq (.elem (am_tm j) (.int (Int32.ofNat k))) (.int ((am_tt j).getD k 0)))
theorem am_td : (List.range 3).all (fun j => (am_tq j).all (fun w => decide (w ∈ am_gv))) = true := by decide +kernel
def am_dt (j : Nat) : List Int32 := if j = 0 then ak_t5 else ak_t6
def am_dq (j : Nat) : List Jvm.Cond := .arrayOf (am_tm (5 + j)) .byte :: .eq (.length (am_tm (5 + j))) (.int (Int32.ofNat 100)) :: (List.range 100).map (fun k => .eq (.elem (am_tm (5 + j)) (.int (Int32.ofNat k))) (.int ((am_dt j).getD k 0)))
theorem am_dd0 : (am_gv.drop 142).take 102 = am_dq 0 := by decide +kernel
theorem am_dd1 : (am_gv.drop 39).take 102 = am_dq 1 := by decide +kernel
theorem am_dn {j : Nat} (h : j < 2) : ∀ w ∈ am_dq j, w ∈ am_gv := by
  intro w hw
  match j, h with
  | 0, _ => rw [← am_dd0] at hw; exact List.mem_of_mem_drop (List.mem_of_mem_take hw)
  | 1, _ => rw [← am_dd1] at hw; exact List.mem_of_mem_drop (List.mem_of_mem_take hw)
  | j + 2, h => exact absurd h (by omega)
theorem am_tl : (List.range 7).all (fun j => decide (Jvm.Cond.laysStatic (am_sn j).1 (am_sn j).2.1 (am_sn j).2.2 ∈ ax_tbl) && decide (Jvm.Cond.initialized (am_sn j).1 ∈ ax_tbl)) = true := by decide +kernel
theorem am_t3 : Jvm.Cond.eq (am_tm 3) (.int 1) ∈ am_gv := by decide +kernel
theorem am_t4 : Jvm.Cond.isRef (am_tm 4) ∈ am_gv := by decide +kernel
theorem am_u1 : Jvm.Cond.laysStatic Bundle.tN "UNASSIGNED_STACK" Bundle.steD ∈ ax_tbl := by decide +kernel
theorem am_u2 : Jvm.Cond.laysStatic Bundle.tN "SUPPRESSED_SENTINEL" Bundle.listD ∈ ax_tbl := by decide +kernel
theorem am_u3 : Jvm.Cond.initialized Bundle.tN ∈ ax_tbl := by decide +kernel
theorem am_u4 : Jvm.Cond.isRef (.static Bundle.tN "UNASSIGNED_STACK" Bundle.steD) ∈ am_gv := by decide +kernel
theorem am_u5 : Jvm.Cond.isRef (.static Bundle.tN "SUPPRESSED_SENTINEL" Bundle.listD) ∈ am_gv := by decide +kernel
theorem am_io : (List.range 14).all (fun ci => match vwCl[ci]? with | some r => decide (Jvm.Cond.instantiable r.1 r.2.2 ∈ ax_tbl) | none => false) = true := by decide +kernel
theorem am_ao : (List.range 4).all (fun t => decide (Jvm.Cond.arrayOver (.object (am_ac (5 + t))) ∈ ax_tbl)) = true := by decide +kernel
theorem am_aa : Jvm.Cond.arrayOver (.array .byte) ∈ ax_tbl := by decide +kernel
theorem ak_p1 {args : Array Value} {s : State} {ty : FieldType} (h : (Cond.arrayClass ty).before args s = true) (hk : ∀ C, ty ≠ .object C) : ∃ cA : ClassId, ArrOfT s cA ty ∧ va_RA s cA ty := by
  obtain ⟨cA, kA, comp, h1, h2, h3⟩ := Cond.arrayClass_spec h
  refine ⟨cA, fun n z => ⟨fun k h => (by cases h), kA, h2, comp, h3⟩, ?_⟩
  cases ty with
  | object C => exact absurd rfl (hk C)
  | _ => exact h1
theorem ak_p2 {args : Array Value} {s : State} {C : String} (h : (Cond.arrayOver (.object C)).before args s = true) : ∃ cA : ClassId, ArrOfT s cA (.object C) ∧ va_RA s cA (.object C) := by
  obtain ⟨comp, cA, kA, h1, -, h2, h3, h4⟩ := Cond.arrayOver_spec h
  exact ⟨cA, fun n z => ⟨fun k h => (by cases h), kA, h2, comp, h3⟩, kA, comp, h2, h3, h1, h4⟩
theorem ak_p3 {args : Array Value} {s : State} {t : FieldType} (h : (Cond.arrayOver (.array t)).before args s = true) : ∃ cA : ClassId, ArrOfT s cA (.array t) ∧ va_RA s cA (.array t) := by
  obtain ⟨comp, cA, kA, h1, h2, h3, h4⟩ := Cond.arrayOver_specA h
  exact ⟨cA, fun n z => ⟨fun k h => (by cases h), kA, h2, comp, h3⟩, h4⟩
section AKE
variable {s : State} {args : Array Value}
theorem ak_k1 (hts : ∀ w ∈ ax_tbl, w.before args s = true) : ∃ (dC : Nat → ClassId) (dI : Nat → Nat → Nat), ∀ (c : Nat) (q : vw_C), vwCl[c]? = some q → u_Kn s q.1 q.2.1 q.2.2 (dC c) (dI c) := by
  have h0 : ∀ c : Nat, ∃ z : ClassId × (Nat → Nat), ∀ q : vw_C, vwCl[c]? = some q → u_Kn s q.1 q.2.1 q.2.2 z.1 z.2 := by
    intro c
    by_cases hc : c < 14
    · obtain ⟨C, N, ty, h1, h2, h3, -⟩ := am_cls c hc
      have h4 := List.all_eq_true.mp am_io c (List.mem_range.mpr hc)
      rw [h1] at h4
      obtain ⟨cC, iS, hK⟩ := u_known (ws := am_w) (n := N) (fun w hw => hts w (List.mem_filter.mp hw).1) h3 (hts _ (of_decide_eq_true h4))
      exact ⟨(cC, iS), fun q hq => by rw [h1] at hq; cases hq; exact hK⟩
    · exact ⟨(default, fun _ => 0), fun q hq => absurd (List.getElem?_eq_some_iff.mp hq).1 hc⟩
  obtain ⟨z, hz⟩ := Classical.axiomOfChoice h0
  exact ⟨fun c => (z c).1, fun c => (z c).2, fun c q hq => hz c q hq⟩
theorem ak_k2 (hts : ∀ w ∈ ax_tbl, w.before args s = true) : ∃ dA : Nat → ClassId, ∀ t : Nat, t < 10 → ArrOfT s (dA t) (ak_ty t) ∧ va_RA s (dA t) (ak_ty t) := by
  have hw : ∀ w ∈ am_w, w.before args s = true := fun w hw => hts w (List.mem_filter.mp hw).1
  have hao : ∀ t, t < 4 → (Jvm.Cond.arrayOver (.object (am_ac (5 + t)))).before args s = true := fun t ht => hts _ (of_decide_eq_true (List.all_eq_true.mp am_ao t (List.mem_range.mpr ht)))
  have h0 : ∀ t : Nat, ∃ cA : ClassId, t < 10 → ArrOfT s cA (ak_ty t) ∧ va_RA s cA (ak_ty t) := by
    intro t
    match t with
    | 0 => obtain ⟨c, h⟩ := ak_p1 (hw _ am_a0) (fun C h => by cases h); exact ⟨c, fun _ => h⟩
    | 1 => obtain ⟨c, h⟩ := ak_p1 (hw _ am_a1) (fun C h => by cases h); exact ⟨c, fun _ => h⟩
    | 2 => obtain ⟨c, h⟩ := ak_p1 (hw _ am_a0) (fun C h => by cases h); exact ⟨c, fun _ => h⟩
    | 3 => obtain ⟨c, h⟩ := ak_p1 (hw _ am_a0) (fun C h => by cases h); exact ⟨c, fun _ => h⟩
    | 4 => obtain ⟨c, h⟩ := ak_p1 (hw _ am_a0) (fun C h => by cases h); exact ⟨c, fun _ => h⟩
    | 5 => obtain ⟨c, h⟩ := ak_p2 (hao 0 (by decide)); exact ⟨c, fun _ => h⟩
    | 6 => obtain ⟨c, h⟩ := ak_p2 (hao 1 (by decide)); exact ⟨c, fun _ => h⟩
    | 7 => obtain ⟨c, h⟩ := ak_p2 (hao 2 (by decide)); exact ⟨c, fun _ => h⟩
    | 8 => obtain ⟨c, h⟩ := ak_p2 (hao 3 (by decide)); exact ⟨c, fun _ => h⟩
    | 9 => obtain ⟨c, h⟩ := ak_p3 (hts _ am_aa); exact ⟨c, fun _ => h⟩
    | t + 10 => exact ⟨default, fun h => absurd h (by omega)⟩
  exact Classical.axiomOfChoice h0
theorem ak_k3 (hgv : ∀ w ∈ am_gv, w.before args s = true) (hts : ∀ w ∈ ax_tbl, w.before args s = true) : ∃ aS : Nat → Nat × Nat, ∀ j : Nat, j < 25 → vk_R (am_cn (ak_sw j).1) (ak_sw j).2.1 (ak_sw j).2.2 (aS j).1 s ∧ va_O "java/lang/String" (aS j).1 (ak_A s.heap.size) s s.heap ∧ va_OF "java/lang/String" "coder" "B" (.int 0) (aS j).1 (ak_A s.heap.size) s s.heap ∧ va_OF "java/lang/String" "value" "[B" (.ref (aS j).2) (aS j).1 (ak_A s.heap.size) s s.heap ∧ va_T .byte (aS j).2 (am_sb.getD j []).length (fun k => .int ((am_sb.getD j []).getD k 0)) (ak_A s.heap.size) s s.heap := by
  have hA : ∀ a : Nat, a < s.heap.size → ¬ ak_A s.heap.size a := fun a h => Nat.not_le.mpr h
  have hlen : ∀ j, (am_sb.getD j []).length < 2 ^ 31 := by
    intro j
    have h9 : am_sb.all (fun l => Nat.ble l.length 100) = true := by decide +kernel
    by_cases hj : j < am_sb.length
    · have h8 := List.all_eq_true.mp h9 _ (List.getElem_mem hj)
      have e : am_sb.getD j [] = am_sb[j] := by simp [hj]
      rw [e]
      exact Nat.lt_of_le_of_lt (Nat.le_of_ble_eq_true h8) (by decide)
    · have e : am_sb.getD j [] = [] := by simp [hj]
      rw [e]
      decide
  have h0 : ∀ j : Nat, ∃ q : Nat × Nat, j < 25 → vk_R (am_cn (ak_sw j).1) (ak_sw j).2.1 (ak_sw j).2.2 q.1 s ∧ va_O "java/lang/String" q.1 (ak_A s.heap.size) s s.heap ∧ va_OF "java/lang/String" "coder" "B" (.int 0) q.1 (ak_A s.heap.size) s s.heap ∧ va_OF "java/lang/String" "value" "[B" (.ref q.2) q.1 (ak_A s.heap.size) s s.heap ∧ va_T .byte q.2 (am_sb.getD j []).length (fun k => .int ((am_sb.getD j []).getD k 0)) (ak_A s.heap.size) s s.heap := by
    intro j
    by_cases hj : j < 25
    · have hq : ∀ w ∈ am_qs j, w.before args s = true := fun w hw => hgv w (am_qin hj w hw)
      unfold am_qs at hq
      obtain ⟨g1, hq⟩ := List.forall_mem_cons.mp hq
      obtain ⟨g2, hq⟩ := List.forall_mem_cons.mp hq
      obtain ⟨g3, hq⟩ := List.forall_mem_cons.mp hq
      obtain ⟨g4, g5⟩ := List.forall_mem_cons.mp hq
      obtain ⟨a, c, cA, kA, q1, -⟩ := Cond.exactly_spec (args := args) (first := s) (o := none) (s := s) (idx := []) (t := am_qt j) (cls := "java/lang/String") g1
      obtain ⟨t, ht, hT⟩ := va_Tof (f := fun k => .int ((am_sb.getD j []).getD k 0)) (A := ak_A s.heap.size) (hlen j) g3 (va_eqt g4) (fun k hk => va_eqt (g5 _ (List.mem_map.mpr ⟨k, List.mem_range.mpr hk, rfl⟩))) hA
      exact ⟨(a, t), fun _ => ⟨vk_R.of (hts _ (of_decide_eq_true (List.all_eq_true.mp am_qr j (List.mem_range.mpr hj)))) q1, va_Oof g1 q1 hA, vk_OFof q1 (va_eqt g2) hA, vk_OFof q1 ht hA, hT⟩⟩
    · exact ⟨(0, 0), fun h => absurd h hj⟩
  exact Classical.axiomOfChoice h0
theorem ak_k4 (hgv : ∀ w ∈ am_gv, w.before args s = true) (hts : ∀ w ∈ ax_tbl, w.before args s = true) : ∃ aT : Nat → Nat, ∀ j : Nat, j < 3 → va_Z (am_sn j).1 (am_sn j).2.1 (am_sn j).2.2 (.ref (aT j)) (ak_A s.heap.size) s s.heap ∧ va_T .int (aT j) 6 (fun k => .int ((am_tt j).getD k 0)) (ak_A s.heap.size) s s.heap := by
  have hA : ∀ a : Nat, a < s.heap.size → ¬ ak_A s.heap.size a := fun a h => Nat.not_le.mpr h
  have h0 : ∀ j : Nat, ∃ q : Nat, j < 3 → va_Z (am_sn j).1 (am_sn j).2.1 (am_sn j).2.2 (.ref q) (ak_A s.heap.size) s s.heap ∧ va_T .int q 6 (fun k => .int ((am_tt j).getD k 0)) (ak_A s.heap.size) s s.heap := by
    intro j
    by_cases hj : j < 3
    · have h1 := List.all_eq_true.mp am_td j (List.mem_range.mpr hj)
      have hq : ∀ w ∈ am_tq j, w.before args s = true := fun w hw => hgv w (of_decide_eq_true (List.all_eq_true.mp h1 w hw))
      unfold am_tq at hq
      obtain ⟨g3, hq⟩ := List.forall_mem_cons.mp hq
      obtain ⟨g4, g5⟩ := List.forall_mem_cons.mp hq
      obtain ⟨t, ht, hT⟩ := va_Tof (f := fun k => .int ((am_tt j).getD k 0)) (A := ak_A s.heap.size) (N := 6) (by decide) g3 (va_eqt g4) (fun k hk => va_eqt (g5 _ (List.mem_map.mpr ⟨k, List.mem_range.mpr hk, rfl⟩))) hA
      have h2 := List.all_eq_true.mp am_tl j (List.mem_range.mpr (by omega))
      rw [Bool.and_eq_true] at h2
      exact ⟨t, fun _ => ⟨va_Zof (hts _ (of_decide_eq_true h2.1)) (hts _ (of_decide_eq_true h2.2)) ht hA, hT⟩⟩
    · exact ⟨0, fun h => absurd h hj⟩
  exact Classical.axiomOfChoice h0
theorem ak_k5 (hgv : ∀ w ∈ am_gv, w.before args s = true) (hts : ∀ w ∈ ax_tbl, w.before args s = true) : ∃ aD : Nat → Nat, ∀ j : Nat, j < 2 → va_Z (am_sn (5 + j)).1 (am_sn (5 + j)).2.1 (am_sn (5 + j)).2.2 (.ref (aD j)) (ak_A s.heap.size) s s.heap ∧ va_T .byte (aD j) 100 (fun k => .int ((am_dt j).getD k 0)) (ak_A s.heap.size) s s.heap := by
  have hA : ∀ a : Nat, a < s.heap.size → ¬ ak_A s.heap.size a := fun a h => Nat.not_le.mpr h
  have h0 : ∀ j : Nat, ∃ q : Nat, j < 2 → va_Z (am_sn (5 + j)).1 (am_sn (5 + j)).2.1 (am_sn (5 + j)).2.2 (.ref q) (ak_A s.heap.size) s s.heap ∧ va_T .byte q 100 (fun k => .int ((am_dt j).getD k 0)) (ak_A s.heap.size) s s.heap := by
    intro j
    by_cases hj : j < 2
    · have hq : ∀ w ∈ am_dq j, w.before args s = true := fun w hw => hgv w (am_dn hj w hw)
      unfold am_dq at hq
      obtain ⟨g3, hq⟩ := List.forall_mem_cons.mp hq
      obtain ⟨g4, g5⟩ := List.forall_mem_cons.mp hq
      obtain ⟨t, ht, hT⟩ := va_Tof (f := fun k => .int ((am_dt j).getD k 0)) (A := ak_A s.heap.size) (N := 100) (by decide) g3 (va_eqt g4) (fun k hk => va_eqt (g5 _ (List.mem_map.mpr ⟨k, List.mem_range.mpr hk, rfl⟩))) hA
      have h2 := List.all_eq_true.mp am_tl (5 + j) (List.mem_range.mpr (by omega))
      rw [Bool.and_eq_true] at h2
      exact ⟨t, fun _ => ⟨va_Zof (hts _ (of_decide_eq_true h2.1)) (hts _ (of_decide_eq_true h2.2)) ht hA, hT⟩⟩
    · exact ⟨0, fun h => absurd h hj⟩
  exact Classical.axiomOfChoice h0
end AKE
theorem ak_amb0 {p : Program} {s : State} {m : MethodId} {meth : Method} {c : Code} {b L : Nat} {xs : Nat → Int32} (hL : L ≤ 260) (C0 : lw_At p s m meth c b L xs) :
    ∃ (X : ak_X) (D : va_G) (dA : Nat → ClassId) (ac : Nat → Nat), X.1 = L ∧ X.2.1 = xs ∧ ac 1000000 = b ∧ ak_amb X D dA ac (ak_A s.heap.size) s s.heap := by
  obtain ⟨hx, hb, hr, hml, hown, hts0, hX, hbl, hlocks, hgv⟩ := id C0
  have hts := ax_hts hts0
  have hA : ∀ a : Nat, a < s.heap.size → ¬ ak_A s.heap.size a := fun a h => Nat.not_le.mpr h
  have hg : ∀ w ∈ am_gv, w.before #[Value.ref b] s = true := flat_of_before _ hgv
  obtain ⟨dC, dI, hK⟩ := ak_k1 hts
  obtain ⟨dA, hAr⟩ := ak_k2 hts
  obtain ⟨aS, hS⟩ := ak_k3 hg hts
  obtain ⟨aT, hT⟩ := ak_k4 hg hts
  obtain ⟨aD, hD⟩ := ak_k5 hg hts
  have htl : ∀ j, j < 5 → (Jvm.Cond.laysStatic (am_sn j).1 (am_sn j).2.1 (am_sn j).2.2).before #[Value.ref b] s = true ∧ (Jvm.Cond.initialized (am_sn j).1).before #[Value.ref b] s = true := by
    intro j hj
    have h2 := List.all_eq_true.mp am_tl j (List.mem_range.mpr (by omega))
    rw [Bool.and_eq_true] at h2
    exact ⟨hts _ (of_decide_eq_true h2.1), hts _ (of_decide_eq_true h2.2)⟩
  have hF := va_Zqof (htl 4 (by decide)).1 (htl 4 (by decide)).2 (hg _ am_t4) hA
  obtain ⟨nf, af, hF⟩ : ∃ (nf : Bool) (af : Nat), va_Z (am_sn 4).1 (am_sn 4).2.1 (am_sn 4).2.2 (if nf = true then .null else .ref af) (ak_A s.heap.size) s s.heap := by
    rcases hF with hF | ⟨t, hF⟩
    · exact ⟨true, 0, hF⟩
    · exact ⟨false, t, hF⟩
  let ac : Nat → Nat := fun x => if x = 1000000 then b else if x < 1000004 then aT (x - 1000001) else if x < 1001000 then aD (x - 1000004) else if x < 1002000 then (aS (x - 1001000)).1 else if x < 1003000 then (aS (x - 1002000)).2 else af
  have ac0 : ac 1000000 = b := rfl
  have acT : ∀ j, j < 3 → ac (1000001 + j) = aT j := by
    intro j hj
    show (if _ then _ else if _ then _ else _) = _
    rw [if_neg (by omega), if_pos (by omega), show 1000001 + j - 1000001 = j by omega]
  have acD : ∀ j, j < 2 → ac (1000004 + j) = aD j := by
    intro j hj
    show (if _ then _ else if _ then _ else if _ then _ else _) = _
    rw [if_neg (by omega), if_neg (by omega), if_pos (by omega), show 1000004 + j - 1000004 = j by omega]
  have acS : ∀ j, j < 25 → ac (1001000 + j) = (aS j).1 := by
    intro j hj
    show (if _ then _ else if _ then _ else if _ then _ else if _ then _ else _) = _
    rw [if_neg (by omega), if_neg (by omega), if_neg (by omega), if_pos (by omega), show 1001000 + j - 1001000 = j by omega]
  have acV : ∀ j, j < 25 → ac (1002000 + j) = (aS j).2 := by
    intro j hj
    show (if _ then _ else if _ then _ else if _ then _ else if _ then _ else if _ then _ else _) = _
    rw [if_neg (by omega), if_neg (by omega), if_neg (by omega), if_neg (by omega), if_pos (by omega), show 1002000 + j - 1002000 = j by omega]
  have acF : ac 1003000 = af := rfl
  refine ⟨(L, xs, nf), (dC, dI), dA, ac, rfl, rfl, ac0, ⟨hK, fun k q hq => ?_⟩, ⟨by show L < _; omega, ?_⟩, fun j hj => ⟨?_, ?_⟩, ?_, ?_, fun j hj => ⟨?_, ?_, ?_, ?_, ?_⟩, ?_, ?_, ?_, fun _ _ _ _ _ => trivial, ?_, ?_, fun j hj => ⟨?_, ?_⟩⟩
  · have hk : k < 10 := by
      have := (List.getElem?_eq_some_iff.mp hq).1
      simpa [ak_tys] using this
    rw [ak_tget hk] at hq
    cases hq
    exact hAr k hk
  · obtain ⟨scr, h1, h2, h3, h4, h5⟩ := hX
    exact ⟨scr, h1, h2, h3, Nat.le_of_eq h4.symm, by rw [h4], h5, hA b hbl⟩
  · rw [acT j hj]; exact (hT j hj).1
  · rw [acT j hj]
    have e : (fun k => Value.int (ak_cI (L, xs, nf) (1000001 + j) k)) = (fun k => Value.int ((am_tt j).getD k 0)) := by
      funext k
      match j, hj with
      | 0, _ => rfl
      | 1, _ => rfl
      | 2, _ => rfl
      | j + 3, h => exact absurd h (by omega)
    rw [e]
    exact (hT j hj).2
  · exact va_Zof (htl 3 (by decide)).1 (htl 3 (by decide)).2 (va_eqt (hg _ am_t3)) hA
  · exact hF
  · rw [acS j hj]; exact (hS j hj).1
  · rw [acS j hj]; exact (hS j hj).2.1
  · rw [acS j hj]; exact (hS j hj).2.2.1
  · rw [acS j hj, acV j hj]; exact (hS j hj).2.2.2.1
  · rw [acV j hj]; exact (hS j hj).2.2.2.2
  · exact vx_Zqof (hts _ am_u1) (hts _ am_u3) (hg _ am_u4) hA
  · exact vx_Zqof (hts _ am_u2) (hts _ am_u3) (hg _ am_u5) hA
  · exact fun w hw hn => va_Nw.of (ak_isN_ot hn) (hts w hw)
  · intro t h5 h8
    have h1 := of_decide_eq_true (List.all_eq_true.mp am_ao (t - 5) (List.mem_range.mpr (by omega)))
    rw [show 5 + (t - 5) = t by omega] at h1
    exact hts _ h1
  · exact hts _ am_aa
  · rw [acD j hj]; exact (hD j hj).1
  · rw [acD j hj]
    have e : (fun k => Value.int (ak_cI (L, xs, nf) (1000004 + j) k)) = (fun k => Value.int ((am_dt j).getD k 0)) := by
      funext k
      match j, hj with
      | 0, _ => rfl
      | 1, _ => rfl
      | j + 2, h => exact absurd h (by omega)
    rw [e]
    exact (hD j hj).2
