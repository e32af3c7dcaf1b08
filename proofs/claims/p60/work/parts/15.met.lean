/-! a method whose class has rows of its own in the table of natives, but none for her -/
theorem vx_ofWF {l : Launch} {y : MethodName} {ws ws' : List Jvm.Cond} {rm : Room} {Pc : Array Value → State → Prop} {Qc : Array Value → State → Outcome → State → Prop} {XC : String → State → State → Prop} {mc ms : Nat} {free : Addr → Prop} {cc : ByteArray} {maxL : Nat} {ret : Option FieldType}
    (hy : plainFor y = true) (hw : ws = Jvm.Cond.code y cc maxL ret :: ws')
    (body : ∀ p e s m args below meth c s₁, BodyLoose p l y (headSpec ws rm) cc maxL ret e s m args below meth c s₁ → c.maxLocals = maxL → (∀ x ∈ c.exceptionTable.toList, False) → Pc args s →
      W p l e (headSpec ws rm).room s m args below meth c s.heap [] 0 0 (vx_MQ below Qc XC args s mc ms free) (entryFrame m args maxL)) : vx_Met l y ws rm Pc Qc XC mc ms free := by
  refine MetFree.of_bodySF (code := cc) (maxLocals := maxL) (ret := ret) hy ?_ ?_
  · intro args s m h hn
    obtain ⟨meth, c, h1, h2, h3, h4, h5, h6, -, -⟩ := Cond.code_spec hn (atoms_spec (ws := ws) h _ (by rw [hw]; exact List.mem_cons_self))
    exact ⟨meth, c, h1, h2, h3, h4, h5, h6⟩
  · intro p e s m args below meth c s₁ B hml hP _
    have hh0 : s₁.heap = s.heap := by rw [B.state]; rfl
    have ht : ∀ x ∈ c.exceptionTable.toList, False := by
      obtain ⟨meth9, c9, h1, h2, -, -, -, -, h7, -⟩ := Cond.code_spec B.named (atoms_spec (ws := ws) B.pre _ (by rw [hw]; exact List.mem_cons_self))
      cases Option.some.inj (h1.symm.trans B.method)
      cases Option.some.inj (h2.symm.trans (Stand.of_body B).code)
      intro x hx
      rw [Array.isEmpty_iff.mp h7] at hx
      cases hx
    obtain ⟨t, a1, o, b1, b2, b3⟩ := body p e s m args below meth c s₁ B hml ht hP s₁ hh0 (Stand.of_body B)
    exact ⟨t, o, a1, b1, b2, b3⟩
/-! a run of the small machine is a run of the machine -/
section AKR
variable {X : ak_X} {D : va_G} {dA : Nat → ClassId} {ac : Nat → Nat} {base : Nat}
theorem ak_goodw {w : Jvm.Cond} (h : w ∈ am_w) : (w.onTables && w.keeps) = true ∨ ∃ ty, w = .arrayClass ty := good_of_word (List.mem_filter.mp h).2
theorem am_hd {k : Nat} (hk : k < 364) : am_kH k = true ∧ (am_ws k).head? = some ((match am_H k with | [] => Jvm.Cond.code (am_Y k) (am_B k) (am_X k) (am_R k) | h :: hh => Jvm.Cond.codeWith (am_Y k) (am_B k) (am_X k) (am_R k) (h :: hh))) := ⟨am_Hc_all k (by omega), rfl⟩
/-- what the head's check says of a method -/
theorem am_hs {k : Nat} (hk : k < 364) : (plainFor (am_Y k) = true ∧ ((am_H k).isEmpty = true ∨ plainName (am_Y k).cls = true)) ∧ ((am_Y k).cls ≠ "java/lang/invoke/MethodHandle" ∧ (am_Y k).cls ≠ "java/lang/invoke/VarHandle") ∧ (parseMethodDescriptor (am_Y k).desc).map (fun d => d.parameters.length) = some (am_N k) ∧ am_cn (am_O k) = (am_Y k).cls ∧ am_X k ≤ 40 ∧ GoodIn am_w (am_ws k) ∧
    ((∃ r, vwCl[am_C k]? = some r ∧ r.1 = (am_Y k).cls) ∨ am_C k = 60) := by
  have h := am_Hc_all k (by omega)
  unfold am_kH at h
  rw [Bool.or_eq_true] at h
  rcases h with h | h
  · have := beq_iff_eq.mp h
    omega
  · simp only [Bool.and_eq_true, decide_eq_true_eq, Bool.or_eq_true, beq_iff_eq] at h
    obtain ⟨⟨⟨⟨⟨⟨⟨⟨h1, h1b⟩, h2⟩, h3⟩, h4⟩, h5⟩, h6⟩, h7⟩, h8⟩ := h
    refine ⟨⟨h1, h1b⟩, ⟨h2, h3⟩, h4, h5, Nat.le_of_ble_eq_true h6, fun w hw => ?_, ?_⟩
    · have hm : w ∈ am_w := by
        unfold am_ws at hw
        rcases List.mem_cons.mp hw with rfl | hw
        · split at h7
          · rename_i hH; rw [hH]; exact am_w_of h7
          · rename_i h9 hh9 hH; rw [hH]; exact am_w_of h7
        · exact hw
      exact ⟨hm, ak_goodw hm⟩
    · rcases h8 with h8 | h8
      · refine Or.inl ?_
        cases hv : vwCl[am_C k]? with
        | none => rw [hv] at h8; cases h8
        | some r => rw [hv] at h8; exact ⟨r, rfl, Option.some.inj h8⟩
      · exact Or.inr h8
theorem ak_blind {ad : Nat → Nat} {M : ak_M} {as : List Value} : FrameBlind (ak_Pc X D dA ac base ad M as) := by
  intro a U g mk h
  exact ⟨h.1, h.2.1, ak_amb.warm (U := U.calling g mk a) (State.WarmedH.refl U) h.2.2.1, h.2.2.2.1, h.2.2.2.2⟩
/-- the claim of the run: from every frame of fuel n -/
def ak_snd (X : ak_X) (D : va_G) (dA : Nat → ClassId) (ac : Nat → Nat) (base : Nat) (n : Nat) : Prop :=
  ∀ (mi : Nat) (f : ak_F) (M : ak_M) (r : ak_O × ak_M), ak_go X n mi f M = some r →
  ∀ (p : Program) (l : Launch) (e : Env) (R : Room) (s : State) (m : MethodId) (args : Array Value) (below : List Frame) (meth : Method) (c : Code) (Q : State → Prop) (H : Heap) (locs : List Loc) (cells slots mc ms : Nat) (ls : Array Slot) (ad ad0 : Nat → Nat) (M0 : ak_M),
    ak_cx p l R s m args meth c mi → ak_amb X D dA ac (ak_A base) s s.heap → ak_mi D dA ac base s H locs ad M → ak_fi ad M ls (am_X mi) f.2.1 f.2.2.1 f.2.2.2 →
    (∀ x, ak_okP M0 x → ak_okP M x ∧ ad x = ad0 x) → mc ≤ R.cells → ms ≤ R.slots → cells + ak_C r.2 ≤ mc + ak_C M → slots + ak_Z r.2 ≤ ms + ak_Z M →
    (∀ (pc' : Nat) (l1' : List (Option Value)) (l2' : List (Nat × Value)) (st' : List Value) (M' : ak_M) (H' : Heap) (locs' : List Loc) (cells' slots' : Nat) (ls' : Array Slot) (ad' : Nat → Nat), ak_S X mi (pc', l1', l2', st') M' = some (.inr (.inl r)) → ak_mi D dA ac base s H' locs' ad' M' → ak_fi ad' M' ls' (am_X mi) l1' l2' st' →
      (∀ x, ak_okP M0 x → ad' x = ad0 x) → cells' + ak_C r.2 ≤ mc + ak_C M' → slots' + ak_Z r.2 ≤ ms + ak_Z M' → W p l e R s m args below meth c H' locs' cells' slots' Q (F0 m pc' ls' (st'.map (ak_v ad')))) →
    (∀ (pc' : Nat) (rest : List Value) (E : Nat) (H' : Heap) (locs' : List Loc) (cells' slots' : Nat) (ls' : Array Slot) (ad' : Nat → Nat) (q : Addr) (ce : Cell), r.1 = .inr E → E < 3 → am_H mi = [] → ak_mi D dA ac base s H' locs' ad' r.2 → (∀ x, ak_okP M0 x → ad' x = ad0 x) → cells' ≤ mc → slots' ≤ ms → H'[q]? = some ce → ce.vm = .none → s.vm.findClass (am_E E) = some ce.cls →
      vx_W p l e R s m args below meth c H' locs' cells' slots' Q (F0 m pc' ls' rest) q) →
    W p l e R s m args below meth c H locs cells slots Q (F0 m f.1 ls (f.2.2.2.map (ak_v ad)))
/-- a callee's contract out of its run -/
theorem ak_met {n : Nat} (IH : ak_snd X D dA ac base n) {l : Launch} (hl : l.stackTraces = false) {k : Nat} (hk : k < 364) {as : List Value} {M : ak_M} {r : ak_O × ak_M} (hgo : ak_go X n k (ak_en k as) M = some r) (hO : ak_okM M) (hv : ∀ v ∈ as, ak_okV M v) (hlen : (ak_e1 as).length ≤ am_X k)
    {ad : Nat → Nat} (hac : ∀ p, 1000000 ≤ p → p < 3000000 → ad p = ac p) {mc ms : Nat} (h1 : ak_C r.2 ≤ mc + ak_C M) (h2 : ak_Z r.2 ≤ ms + ak_Z M) :
    vx_Met l (am_Y k) (am_ws k) (ak_rm k mc ms) (ak_Pc X D dA ac base ad M as) (ak_Q D dA ac base ad M r) (ak_XC D dA ac base ad M r) mc ms (ak_A base) := by
  obtain ⟨hpl, -, -, hcn, -, hG, -⟩ := am_hs hk
  have body : ∀ (p : Program) (e : Env) (s : State) (m : MethodId) (args : Array Value) (below : List Frame) (meth : Method) (c : Code) (s₁ : State), BodyLoose p l (am_Y k) (headSpec (am_ws k) (ak_rm k mc ms)) (am_B k) (am_X k) (am_R k) e s m args below meth c s₁ → c.maxLocals = am_X k → c.exceptionTable.toList = tableOf (am_H k) → ak_Pc X D dA ac base ad M as args s →
      W p l e (headSpec (am_ws k) (ak_rm k mc ms)).room s m args below meth c s.heap [] 0 0 (vx_MQ below (ak_Q D dA ac base ad M r) (ak_XC D dA ac base ad M r) args s mc ms (ak_A base)) (entryFrame m args (am_X k)) := by
    intro p e s m args below meth c s₁ B hml htab hp
    obtain ⟨rfl, hbs, hA, hP, hD⟩ := hp
    have hts0 := atoms_spec (ws := am_ws k) B.pre
    have hts : ∀ w ∈ am_w, w.before (as.map (ak_v ad)).toArray s = true := fun w hw => hts0 w (List.mem_cons_of_mem _ hw)
    have C : ak_cx p l (ak_rm k mc ms) s m (as.map (ak_v ad)).toArray meth c k :=
      ⟨B.exec, B.bytes, by rw [hcn]; exact findClass_of_methodNamed B.named, hts, hml, B.returns, B.notSynchronized, fun _ => (name_of_methodNamed B.named B.method).1, fun _ => htab, hl, Nat.le_refl _, Nat.le_refl _, by omega⟩
    have hM : ak_mi D dA ac base s s.heap [] ad M := ⟨hbs, va_S.rf, hP, hD, hO, hac⟩
    rw [lg_entry_eq]
    refine IH k (ak_en k as) M r hgo p l e (ak_rm k mc ms) s m _ below meth c _ s.heap [] 0 0 mc ms _ ad ad M C hA hM ⟨fun v hv => absurd hv List.not_mem_nil, ak_en_ok hv, ak_entry ad k as hlen⟩ (fun x hx => ⟨hx, rfl⟩) (Nat.le_refl _) (Nat.le_refl _) (by omega) (by omega) ?_ ?_
    · intro pc' l1' l2' st' M' H' locs' cells' slots' ls' ad' hS hM' hF' hext hb1 hb2
      exact ak_end C hA hS hM' hF' hext hb1 hb2 (Nat.le_refl _) (Nat.le_refl _)
    · intro pc' rest E H' locs' cells' slots' ls' ad' q ce hr hE hH hM' hext hb1 hb2 hq hcv hcl
      obtain ⟨-, hSv, hP', hD', hO', hac'⟩ := hM'
      refine vx_out (E := am_E E) (fun x hx => ?_) B.notSynchronized hq hcv hcl (fun t ht _ => ?_) hSv.2.2 hb1 hb2
      · rw [htab, hH] at hx; cases hx
      · exact ⟨⟨E, ad', hr, hE, rfl, hext, by rw [ht]; exact hP', hD', hO', hac'⟩, hSv.F ht⟩
  cases hH : am_H k with
  | nil =>
    have hw : am_ws k = Jvm.Cond.code (am_Y k) (am_B k) (am_X k) (am_R k) :: am_w := by unfold am_ws; rw [hH]
    refine vx_ofWF (cc := am_B k) (maxL := am_X k) (ret := am_R k) hpl.1 hw ?_
    intro p e s m args below meth c s₁ B hml ht hp
    refine body p e s m args below meth c s₁ B hml ?_ hp
    rw [hH]
    exact List.eq_nil_iff_forall_not_mem.mpr fun x hx => ht x hx
  | cons h hh =>
    have hw : am_ws k = Jvm.Cond.codeWith (am_Y k) (am_B k) (am_X k) (am_R k) (h :: hh) :: am_w := by unfold am_ws; rw [hH]
    refine vx_ofWH (cc := am_B k) (maxL := am_X k) (ret := am_R k) (hh := h :: hh) (hpl.2.resolve_left (by rw [hH]; exact Bool.false_ne_true)) hw ?_
    intro p e s m args below meth c s₁ B hml hp
    refine body p e s m args below meth c s₁ B hml ?_ hp
    rw [hH]
    exact vx_table (x := am_Y k) B (atoms_spec (ws := am_ws k) B.pre _ (by rw [hw]; exact List.mem_cons_self))
end AKR
