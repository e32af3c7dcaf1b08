section AKJ
variable {X : ak_X} {D : va_G} {dA : Nat → ClassId} {ac : Nat → Nat} {base : Nat}
theorem ak_invc {mi idx vt pc cal : Nat} {l1 : List (Option Value)} {l2 : List (Nat × Value)} {st as : List Value} {M M1 : ak_M} {g : ak_F} (h : ak_inv X mi idx vt pc l1 l2 st M = some (.inr (.inr (cal, as, g, M1)))) :
    ∃ (kind : Nat) (w : Nat × Nat × Nat × Nat) (rest : List Value), am_L mi idx = some (cal, kind, w) ∧ M1 = M ∧ g = (pc + 3, l1, l2, rest) ∧ ak_cat rest ≤ 8 ∧ (am_K cal < am_K mi ∧ am_Q cal + am_X cal + 19 ≤ am_Q mi) ∧ (ak_e1 as).length ≤ am_X cal ∧ am_N cal ≤ st.length ∧
      ((vt = 0 ∧ (kind = 0 ∨ kind = 6 ∨ kind = 8) ∧ ∃ q, st.drop (am_N cal) = .ref q :: rest ∧ ak_rc M q = (if kind = 0 then am_C cal else 12) ∧ as = .ref q :: (st.take (am_N cal)).reverse) ∨ (vt = 1 ∧ (kind = 1 ∨ kind = 4) ∧ rest = st.drop (am_N cal) ∧ as = (st.take (am_N cal)).reverse) ∨
        (vt = 2 ∧ (kind = 2 ∨ kind = 3 ∨ kind = 7) ∧ ∃ q, st.drop (am_N cal) = .ref q :: rest ∧ (kind = 7 → ak_rc M q = 12) ∧ as = .ref q :: (st.take (am_N cal)).reverse)) := by
  unfold ak_inv at h
  split at h
  · cases h
  · rename_i cal' kind w hL
    have cl : ∀ {as' rest : List Value}, ak_call mi cal' as' pc l1 l2 rest M = some (.inr (.inr (cal, as, g, M1))) → cal' = cal ∧ as' = as ∧ M1 = M ∧ g = (pc + 3, l1, l2, rest) ∧ ak_cat rest ≤ 8 ∧ (am_K cal < am_K mi ∧ am_Q cal + am_X cal + 19 ≤ am_Q mi) ∧ (ak_e1 as).length ≤ am_X cal := by
      intro as' rest h
      unfold ak_call at h
      split at h
      · rename_i h0
        have h1 := Sum.inr.inj (Sum.inr.inj (Option.some.inj h))
        cases h1
        exact ⟨rfl, rfl, rfl, rfl, h0.1, ⟨h0.2.1, h0.2.2.1⟩, h0.2.2.2⟩
      · cases h
    split at h
    · rename_i h0
      split at h
      · rename_i q rest hd
        generalize hcc : (if kind = 0 then am_C cal' else 12) = cc at h
        split at h
        · rename_i h1
          obtain ⟨rfl, rfl, rfl, rfl, a, b, d⟩ := cl h
          exact ⟨kind, w, rest, hL, rfl, rfl, a, b, d, h1.2, Or.inl ⟨h0.1, h0.2, q, hd, h1.1.trans hcc.symm, rfl⟩⟩
        · cases h
      · cases h
    · split at h
      · rename_i h0
        split at h
        · rename_i h1
          obtain ⟨rfl, rfl, rfl, rfl, a, b, d⟩ := cl h
          exact ⟨kind, w, _, hL, rfl, rfl, a, b, d, h1, Or.inr (Or.inl ⟨h0.1, h0.2, rfl, rfl⟩)⟩
        · cases h
      · split at h
        · rename_i h0
          split at h
          · rename_i q rest hd
            split at h
            · rename_i h1
              obtain ⟨rfl, rfl, rfl, rfl, a, b, d⟩ := cl h
              refine ⟨kind, w, rest, hL, rfl, rfl, a, b, d, h1, Or.inr (Or.inr ⟨h0.1, ?_, q, hd, fun h7 => ?_, rfl⟩)⟩
              · rcases h0.2 with h2 | h2
                · exact Or.inl h2
                · exact Or.inr (Or.inl h2)
              · rcases h0.2 with h2 | h2 <;> omega
            · cases h
          · cases h
        · split at h
          · rename_i h0
            split at h
            · rename_i q rest hd
              split at h
              · rename_i h1
                obtain ⟨rfl, rfl, rfl, rfl, a, b, d⟩ := cl h
                exact ⟨kind, w, rest, hL, rfl, rfl, a, b, d, h1.2, Or.inr (Or.inr ⟨h0.1, Or.inr (Or.inr h0.2), q, hd, fun _ => h1.1, rfl⟩)⟩
              · cases h
            · cases h
          · split at h
            · split at h
              · split at h
                · exact absurd h ak_nne
                · cases h
              · cases h
            · split at h
              · split at h
                · split at h
                  · exact absurd h ak_nne
                  · cases h
                · cases h
              · split at h
                · split at h
                  · split at h
                    · exact absurd h ak_nne
                    · cases h
                  · cases h
                · cases h
set_option maxRecDepth 100000 in
theorem am_Tn : (List.range 365).all (fun k => (am_ks.getD k []).all (fun e => !(Nat.ble 6 e.2.2.1) || !am_th.contains e.2.1)) = true := by decide +kernel
theorem am_Tm {mi idx cal kind : Nat} {w : Nat × Nat × Nat × Nat} (hm : mi < 365) (h : am_L mi idx = some (cal, kind, w)) (h6 : 6 ≤ kind) : am_th.contains cal = false := by
  have hc := List.all_eq_true.mp am_Tn mi (List.mem_range.mpr hm)
  unfold am_L at h
  cases hf : (am_ks.getD mi []).find? (fun q => q.1 == idx) with
  | none => rw [hf] at h; cases h
  | some q =>
    rw [hf] at h
    have h1 := List.all_eq_true.mp hc q (List.mem_of_find?_eq_some hf)
    have h2 : q.2 = (cal, kind, w) := Option.some.inj h
    rw [h2] at h1
    rw [Bool.or_eq_true] at h1
    rcases h1 with h1 | h1
    · have : Nat.ble 6 kind = true := Nat.ble_eq_true_of_le h6
      dsimp only at h1
      rw [this] at h1
      cases h1
    · simpa using h1
variable {p : Program} {l : Launch} {e : Env} {R : Room} {s : State} {m : MethodId} {args : Array Value} {below : List Frame} {meth : Method} {c : Code} {Q : State → Prop}
/-- behind a call -/
theorem ak_ran {pc mc ms cells slots : Nat} {ls : Array Slot} {st0 rest : List Value} {a : Array Value} {M : ak_M} {r : ak_O × ak_M} {ad : Nat → Nat} {H : Heap} {locs : List Loc}
    (hr : vx_Run p l e R s m args below meth c H locs cells slots mc ms (F0 m pc ls st0) rest (ak_Q D dA ac base ad M r a) (ak_XC D dA ac base ad M r) (ak_A base)) (hbs : base ≤ s.heap.size) (hS : va_S (ak_A base) s.heap H locs)
    (kx : ∀ (E : Nat) (ad' : Nat → Nat) (q : Addr) (ce : Cell) (H1 : Heap) (locs1 : List Loc), r.1 = .inr E → E < 3 → ak_mi D dA ac base s H1 locs1 ad' r.2 → (∀ x, ak_okP M x → ad' x = ad x) → H1[q]? = some ce → ce.vm = .none → s.vm.findClass (am_E E) = some ce.cls → vx_W p l e R s m args below meth c H1 locs1 (cells + mc) (slots + ms) Q (F0 m pc ls rest) q)
    (kk : ∀ (v : Option Value) (ad' : Nat → Nat) (H1 : Heap) (locs1 : List Loc), r.1 = .inl v → ak_mi D dA ac base s H1 locs1 ad' r.2 → (∀ x, ak_okP M x → ad' x = ad x) → (∀ w, v = some w → ak_okV r.2 w) → W p l e R s m args below meth c H1 locs1 (cells + mc) (slots + ms) Q (F0 m (pc + 3) ls ((v.map (ak_v ad')).toList ++ rest))) :
    W p l e R s m args below meth c H locs cells slots Q (F0 m pc ls st0) := by
  intro T hT X
  rcases hr T hT X with ⟨v, st₀, t, T', L, h0, X', hL, e1, e2, ⟨⟨v', ad', hr1, hoc, hok, hx1, hx2, hx3, hx4, hx5⟩, hF⟩, st⟩ | ⟨q, st₀, t, T', L, E, ce, h0, X', hL, e1, e2, ⟨⟨E', ad', hr1, hE, rfl, hx1, hx2, hx3, hx4, hx5⟩, hF⟩, hce, hcv, hcl, st⟩
  · cases hoc
    obtain ⟨k1, k2, k3⟩ := vx_keep h0 e1 hS (fun q _ h => h) (fun q h => h) hL hF
    obtain ⟨t2, a1, b1⟩ := kk v' ad' T'.heap (locs ++ L) hr1 ⟨hbs, k3, by rw [e1]; exact hx2, hx3, hx4, hx5⟩ hx1 hok T' rfl X'
    exact ⟨t2, st t2 a1, b1⟩
  · obtain ⟨k1, k2, k3⟩ := vx_keep h0 e1 hS (fun q _ h => h) (fun q h => h) hL hF
    obtain ⟨t2, a1, b1⟩ := kx E' ad' q ce T'.heap (locs ++ L) hr1 hE ⟨hbs, k3, by rw [e1]; exact hx2, hx3, hx4, hx5⟩ hx1 (by rw [e1]; exact hce) hcv hcl T' rfl X'
    exact ⟨t2, st.trans a1, b1⟩
theorem ak_plain {k mc ms : Nat} {as : List Value} {M : ak_M} {r : ak_O × ak_M} {ad : Nat → Nat} {v : Option Value} (hr : r.1 = .inl v) (h : vx_Met l (am_Y k) (am_ws k) (ak_rm k mc ms) (ak_Pc X D dA ac base ad M as) (ak_Q D dA ac base ad M r) (ak_XC D dA ac base ad M r) mc ms (ak_A base)) :
    Met l (am_Y k) (am_ws k) (ak_rm k mc ms) (ak_Pc X D dA ac base ad M as) (ak_Q D dA ac base ad M r) mc ms (ak_A base) := by
  refine MetFree.mono h (fun _ _ h => h) (fun _ _ _ _ _ h => h) (fun a st o t _ hq => ?_)
  rcases hq with hq | ⟨q, -, E, ce, L, ⟨⟨k9, -, h9, -⟩, -⟩, -⟩
  · exact hq
  · rw [hr] at h9; cases h9
theorem ak_rx {mc ms cells slots : Nat} {g : JFrame} {rest : List Value} {H : Heap} {locs : List Loc} {Qa : State → Outcome → State → Prop} {XC : String → State → State → Prop} {free : Addr → Prop} (h : va_Run p l e R s m args below meth c H locs cells slots mc ms g rest Qa free) : vx_Run p l e R s m args below meth c H locs cells slots mc ms g rest Qa XC free := fun T hT X => Or.inl (h T hT X)
set_option maxHeartbeats 2000000 in
theorem ak_calls {n mi pc cal : Nat} (IH : ak_snd X D dA ac base n) {l1 : List (Option Value)} {l2 : List (Nat × Value)} {st as : List Value} {M M1 : ak_M} {g : ak_F} {r1 : ak_O × ak_M} {ad : Nat → Nat} {H : Heap} {locs : List Loc} {cells slots mc ms : Nat} {ls : Array Slot}
    (C : ak_cx p l R s m args meth c mi) (hA : ak_amb X D dA ac (ak_A base) s s.heap) (hS : ak_S X mi (pc, l1, l2, st) M = some (.inr (.inr (cal, as, g, M1)))) (hgo : ak_go X n cal (ak_en cal as) M1 = some r1) (hM : ak_mi D dA ac base s H locs ad M) (hF : ak_fi ad M ls (am_X mi) l1 l2 st)
    (hm1 : ak_C M + mc = ak_C r1.2) (hm2 : ak_Z M + ms = ak_Z r1.2) (hb1 : cells + mc ≤ R.cells) (hb2 : slots + ms ≤ R.slots) (hplain : ∀ E, r1.1 = .inr E → am_th.contains cal = true)
    (kx : ∀ (E : Nat) (ad' : Nat → Nat) (q : Addr) (ce : Cell) (H1 : Heap) (locs1 : List Loc), r1.1 = .inr E → E < 3 → ak_mi D dA ac base s H1 locs1 ad' r1.2 → (∀ x, ak_okP M x → ad' x = ad x) → H1[q]? = some ce → ce.vm = .none → s.vm.findClass (am_E E) = some ce.cls → vx_W p l e R s m args below meth c H1 locs1 (cells + mc) (slots + ms) Q (F0 m pc ls (g.2.2.2.map (ak_v ad))) q)
    (kk : ∀ (v : Option Value) (ad' : Nat → Nat) (H1 : Heap) (locs1 : List Loc), r1.1 = .inl v → ak_mi D dA ac base s H1 locs1 ad' r1.2 → (∀ x, ak_okP M x → ad' x = ad x) → (∀ w, v = some w → ak_okV r1.2 w) → W p l e R s m args below meth c H1 locs1 (cells + mc) (slots + ms) Q (F0 m (pc + 3) ls ((v.map (ak_v ad')).toList ++ g.2.2.2.map (ak_v ad)))) :
    W p l e R s m args below meth c H locs cells slots Q (F0 m pc ls (st.map (ak_v ad))) := by
  have CX := C
  obtain ⟨hx, hb, hown, hts, hml, hrt, hlocks, hnm, htab, htr, hfr, hlo, hmi⟩ := C
  obtain ⟨hbs, hSv, hP, hD, hO, hac⟩ := hM
  obtain ⟨ins, hi, hS2⟩ := ak_Sx hS
  clear hS
  obtain ⟨nn, hd, hn⟩ := ak_code hmi hi
  have hins : ∃ idx vt, ak_inv X mi idx vt pc l1 l2 st M = some (.inr (.inr (cal, as, g, M1))) ∧ ((vt = 0 ∧ decode (am_B mi) pc = .ok (.invokevirtual idx, 3)) ∨ (vt = 1 ∧ decode (am_B mi) pc = .ok (.invokestatic idx, 3)) ∨ (vt = 2 ∧ decode (am_B mi) pc = .ok (.invokespecial idx, 3))) := by
    rcases ak_kinds hS2 with hk | ⟨-, r, hr⟩
    · cases ins with
      | invokevirtual idx => exact ⟨idx, 0, hS2, Or.inl ⟨rfl, ak_d1 hd hn (k := 2) rfl⟩⟩
      | invokestatic idx => exact ⟨idx, 1, hS2, Or.inr (Or.inl ⟨rfl, ak_d1 hd hn (k := 2) rfl⟩)⟩
      | invokespecial idx => exact ⟨idx, 2, hS2, Or.inr (Or.inr ⟨rfl, ak_d1 hd hn (k := 2) rfl⟩)⟩
      | _ => cases hk
    · cases hr
  obtain ⟨idx, vt, hinv, hdec⟩ := hins
  obtain ⟨kind, w, rest, hL, rfl, rfl, hcat, hrk, hlen, hN, hcase⟩ := ak_invc hinv
  obtain ⟨iL, iA, iB, iC⟩ := w
  have hs := am_Ls hmi hL
  unfold am_kK1 at hs
  dsimp only at hs
  rw [Bool.and_eq_true] at hs
  obtain ⟨hcal, hs⟩ := hs
  have hcal : cal < 364 := Nat.le_of_ble_eq_true hcal
  obtain ⟨hpl, hMH, hpar, hcn, hX40, hG, hcls⟩ := am_hs hcal
  have hvs : ∀ v ∈ as, ak_okV M1 v := by
    intro v hv
    refine hF.1 v ?_
    rcases hcase with ⟨-, -, q, hd9, -, rfl⟩ | ⟨-, -, -, rfl⟩ | ⟨-, -, q, hd9, -, rfl⟩
    · rcases List.mem_cons.mp hv with rfl | hv
      · exact List.mem_of_mem_drop (by rw [hd9]; exact List.mem_cons_self)
      · exact List.mem_of_mem_take (List.mem_reverse.mp hv)
    · exact List.mem_of_mem_take (List.mem_reverse.mp hv)
    · rcases List.mem_cons.mp hv with rfl | hv
      · exact List.mem_of_mem_drop (by rw [hd9]; exact List.mem_cons_self)
      · exact List.mem_of_mem_take (List.mem_reverse.mp hv)
  have hmet := ak_met IH htr hcal hgo hO hvs hlen hac (mc := mc) (ms := ms) (by omega) (by omega)
  have hPre : ∀ U : State, U.heap = H → s.WarmedH U.vm → ak_Pc X D dA ac base ad M1 as (as.map (ak_v ad)).toArray U := by
    intro U hU hW
    refine ⟨rfl, ?_, ?_, by rw [hU]; exact hP, hD⟩
    · rw [hU]; exact Nat.le_trans hbs hSv.1
    · rw [hU]; exact (hA.kept (fun a h1 h2 => hSv.2.1 a h1 h2)).warm hW
  have hroom : (ak_rm cal mc ms).frames + 1 ≤ R.frames ∧ 8 + (am_X cal + 11) + (ak_rm cal mc ms).locals ≤ R.locals := by
    show am_K cal + 1 ≤ R.frames ∧ 8 + (am_X cal + 11) + am_Q cal ≤ R.locals
    omega
  have hsz : (F0 m pc ls (st.map (ak_v ad))).locals.size = am_X mi := hF.2.2.1
  have hcw : 2 * (F0 m pc ls (st.map (ak_v ad))).monitorRoom + ((rest.map (ak_v ad)).map fun v => v.category).sum ≤ 8 := by
    rw [ak_catm]
    show 2 * 0 + _ ≤ 8
    omega
  have fix : CallFix p m c (am_B mi) (am_X mi) s args am_w (am_cn (am_O mi)) := ⟨hx, hb, hml, hown, hts⟩
  have hpn : ((parseMethodDescriptor (am_Y cal).desc).map (fun d => d.parameters.length)) = some (am_N cal) := hpar
  have hAn : ((st.take (am_N cal)).reverse.map (ak_v ad)).length = am_N cal := by rw [List.length_map, List.length_reverse, List.length_take]; omega
  have hgood : ∀ {i : Nat} {w : Jvm.Cond}, am_ok i w = true → w ∈ am_w ∧ ((w.onTables && w.keeps) = true ∨ ∃ ty, w = .arrayClass ty) := fun h => ⟨am_w_of h, ak_goodw (am_w_of h)⟩
  have hgoodin : ∀ {w : Jvm.Cond}, am_in w = true → w ∈ am_w ∧ ((w.onTables && w.keeps) = true ∨ ∃ ty, w = .arrayClass ty) := by
    intro w h
    unfold am_in at h
    rw [Bool.and_eq_true] at h
    have hm : w ∈ am_w := List.mem_filter.mpr ⟨of_decide_eq_true h.1, h.2⟩
    exact ⟨hm, ak_goodw hm⟩
  have hrev : ((st.take (am_N cal)).reverse.map (ak_v ad)).reverse = (st.take (am_N cal)).map (ak_v ad) := by rw [← List.map_reverse, List.reverse_reverse]
  have hwc : am_H cal = [] → am_ws cal = Jvm.Cond.code (am_Y cal) (am_B cal) (am_X cal) (am_R cal) :: am_w := by intro h; unfold am_ws; rw [h]
  have recvSB : ∀ q : Nat, ak_rc M1 q = 12 → ∃ cellB : Cell, H[ad q]? = some cellB ∧ cellB.vm.isStatics = false ∧ s.vm.findClass ax_SB = some cellB.cls := by
    intro q hrc
    unfold ak_rc at hrc
    split at hrc
    · rename_i hq
      exact va_recv hA.1 hP (show vwCl[12]? = some (RJ4, TJ4, 4) from rfl) (ak_wobj hq hrc (by omega))
    · split at hrc <;> omega
  rcases hcase with ⟨rfl, hk, q, hd9, hrc, rfl⟩ | ⟨rfl, hk, rfl, rfl⟩ | ⟨rfl, hk, q, hd9, hsu, rfl⟩
  · -- virtual
    have hd0 : decode (am_B mi) pc = .ok (.invokevirtual idx, 3) := by
      rcases hdec with h | h | h
      · exact h.2
      · cases h.1
      · cases h.1
    have hst : (F0 m pc ls (st.map (ak_v ad))).stack = ((st.take (am_N cal)).reverse.map (ak_v ad)).reverse ++ .ref (ad q) :: rest.map (ak_v ad) := by
      show st.map (ak_v ad) = _
      rw [hrev]
      conv => lhs; rw [← List.take_append_drop (am_N cal) st, List.map_append, hd9]
      rfl
    rcases hk with rfl | rfl | rfl
    · rw [if_pos rfl] at hrc
      simp only [Bool.and_eq_true] at hs
      obtain ⟨⟨⟨⟨⟨g1, g2⟩, g3⟩, g4⟩, g5⟩, g6⟩ := hs
      have hH := List.isEmpty_iff.mp g5
      have g6 : am_C cal < 14 := Nat.le_of_ble_eq_true g6
      have hGV : GoodIn am_w (wsV (am_cn (am_O mi)) idx (am_Y cal).cls (am_Y cal) (am_ws cal)) := by
        intro w hw
        unfold wsV at hw
        rcases List.mem_append.mp hw with hw | hw
        · simp only [List.mem_cons, List.not_mem_nil, or_false] at hw
          rcases hw with rfl | rfl | rfl | rfl
          · exact hgood g1
          · exact hgood g2
          · exact hgood g3
          · exact hgood g4
        · exact hG w hw
      have hrecv : ∃ cellB : Cell, H[ad q]? = some cellB ∧ cellB.vm.isStatics = false ∧ s.vm.findClass (am_Y cal).cls = some cellB.cls := by
        rcases hcls with ⟨r9, hr9, hr8⟩ | h60
        · unfold ak_rc at hrc
          split at hrc
          · rename_i hq
            rw [← hr8]
            exact va_recv hA.1 hP hr9 (ak_wobj hq hrc g6)
          · split at hrc
            · rename_i hq
              obtain ⟨q, rfl⟩ : ∃ q9 : Nat, q9 = q := ⟨q, rfl⟩
              have hq1 : @LE.le Nat _ 1001000 q := hq.1
              have hq2 : @LT.lt Nat _ q 1001025 := hq.2
              obtain ⟨j, rfl⟩ : ∃ j : Nat, q = 1001000 + j := ⟨q - 1001000, by omega⟩
              obtain ⟨cell, c1, c2, c3, -⟩ := ((hA.2.2.2.2.2.1 j (by omega)).2.1).kept hSv.2.1
              rw [← hrc] at hr9
              have h51 : r9 = (RJ0, TJ0, 4) := (Option.some.inj hr9).symm
              rw [hac _ (by omega) (by omega), ← hr8, h51]
              exact ⟨cell, c1, c2, c3⟩
            · omega
        · omega
      exact ak_ran (vx_runV (As := (st.take (am_N cal)).reverse.map (ak_v ad)) (rest := rest.map (ak_v ad)) (b := ad q) fix hmet (cwV (am_N cal) hts hGV (hwc hH) rfl rfl ⟨rfl, hMH.1, hMH.2, hpn⟩ hroom) ⟨ak_blind, hrecv, hPre⟩ rfl hAn hsz hst hcw hd0 ⟨hb1, hb2⟩) hbs hSv kx kk
    · rw [if_neg (by decide)] at hrc
      simp only [Bool.and_eq_true] at hs
      obtain ⟨⟨⟨⟨⟨g1, g2⟩, g3⟩, g4⟩, g5⟩, g6⟩ := hs
      have hH := List.isEmpty_iff.mp g5
      have hth := am_Tm hmi hL (by decide)
      obtain ⟨v, hv⟩ : ∃ v, r1.1 = .inl v := by
        cases h : r1.1 with
        | inl v => exact ⟨v, rfl⟩
        | inr E => rw [hplain E h] at hth; cases hth
      have hGV : GoodIn am_w (va_wsU (am_cn (am_O mi)) idx ax_SB (am_Y cal).cls (am_Y cal) (am_Y cal) (am_ws cal)) := by
        intro w hw
        unfold va_wsU at hw
        rcases List.mem_append.mp hw with hw | hw
        · simp only [List.mem_cons, List.not_mem_nil, or_false] at hw
          rcases hw with rfl | rfl | rfl | rfl | rfl
          · exact hgood g1
          · exact hgoodin g6
          · exact hgood g3
          · exact hgood g2
          · exact hgood g4
        · exact hG w hw
      exact ak_ran (ak_rx (va_runU (As := (st.take (am_N cal)).reverse.map (ak_v ad)) (rest := rest.map (ak_v ad)) (b := ad q) fix (ak_plain hv hmet) (va_cwU (am_N cal) hts hGV (hwc hH) rfl rfl rfl ⟨hMH.1, hMH.2, hpn⟩ hroom) ⟨ak_blind, recvSB q hrc, hPre⟩ rfl hAn hsz hst hcw hd0 ⟨hb1, hb2⟩)) hbs hSv kx kk
    · rw [if_neg (by decide)] at hrc
      simp only [Bool.and_eq_true, decide_eq_true_eq] at hs
      obtain ⟨⟨⟨⟨⟨⟨⟨⟨g1, g2⟩, g3⟩, g4⟩, g5⟩, g6⟩, g7⟩, g8⟩, g9⟩ := hs
      have hH := List.isEmpty_iff.mp g5
      have hth := am_Tm hmi hL (by decide)
      obtain ⟨v, hv⟩ : ∃ v, r1.1 = .inl v := by
        cases h : r1.1 with
        | inl v => exact ⟨v, rfl⟩
        | inr E => rw [hplain E h] at hth; cases hth
      have hGV : GoodIn am_w (va_wsO (am_cn (am_O mi)) idx ax_SB ax_ASB ⟨ax_ASB, (am_Y cal).name, (am_Y cal).desc⟩ (am_Y cal) (am_ws cal)) := by
        intro w hw
        unfold va_wsO at hw
        rcases List.mem_append.mp hw with hw | hw
        · simp only [List.mem_cons, List.not_mem_nil, or_false] at hw
          rcases hw with rfl | rfl | rfl | rfl | rfl | rfl
          · exact hgood g1
          · exact hgoodin g6
          · exact hgoodin g7
          · exact hgood g3
          · exact hgood g2
          · exact hgoodin g4
        · exact hG w hw
      exact ak_ran (ak_rx (va_runU (As := (st.take (am_N cal)).reverse.map (ak_v ad)) (rest := rest.map (ak_v ad)) (b := ad q) fix (ak_plain hv hmet) (va_cwO (am_N cal) hts hGV (hwc hH) rfl rfl (am_w_of g9) ⟨by decide, by decide, hpn⟩ hroom) ⟨ak_blind, recvSB q hrc, hPre⟩ rfl hAn hsz hst hcw hd0 ⟨hb1, hb2⟩)) hbs hSv kx kk
  · -- static
    have hd0 : decode (am_B mi) pc = .ok (.invokestatic idx, 3) := by
      rcases hdec with h | h | h
      · cases h.1
      · exact h.2
      · cases h.1
    have hst : (F0 m pc ls (st.map (ak_v ad))).stack = ((st.take (am_N cal)).reverse.map (ak_v ad)).reverse ++ (st.drop (am_N cal)).map (ak_v ad) := by
      show st.map (ak_v ad) = _
      rw [hrev, ← List.map_append, List.take_append_drop]
    rcases hk with rfl | rfl
    · simp only [Bool.and_eq_true] at hs
      obtain ⟨⟨g1, g2⟩, g3⟩ := hs
      have hGS : GoodIn am_w (va_wsS (am_cn (am_O mi)) idx (am_Y cal) (am_ws cal)) := by
        intro w hw
        unfold va_wsS at hw
        rcases List.mem_append.mp hw with hw | hw
        · simp only [List.mem_cons, List.not_mem_nil, or_false] at hw
          rcases hw with rfl | rfl | rfl
          · exact hgood g1
          · exact hgood g2
          · exact hgood g3
        · exact hG w hw
      cases hH : am_H cal with
      | nil => exact ak_ran (vx_runS (As := (st.take (am_N cal)).reverse.map (ak_v ad)) (rest := (st.drop (am_N cal)).map (ak_v ad)) fix hmet (va_cwS (am_N cal) hts hGS (hwc hH) rfl rfl ⟨hMH.1, hMH.2, hpn⟩ hroom) ⟨ak_blind, hPre⟩ rfl hAn hsz hst hcw hd0 ⟨hb1, hb2⟩) hbs hSv kx kk
      | cons h9 hh9 =>
        have hwh : am_ws cal = Jvm.Cond.codeWith (am_Y cal) (am_B cal) (am_X cal) (am_R cal) (h9 :: hh9) :: am_w := by unfold am_ws; rw [hH]
        exact ak_ran (vx_runSX (As := (st.take (am_N cal)).reverse.map (ak_v ad)) (rest := (st.drop (am_N cal)).map (ak_v ad)) fix hmet (vx_cwSW (am_N cal) hts hGS hwh rfl rfl ⟨hMH.1, hMH.2, hpn⟩ hroom) ⟨ak_blind, hPre⟩ rfl hAn hsz hst hcw hd0 ⟨hb1, hb2⟩) hbs hSv kx kk
    · simp only [Bool.and_eq_true] at hs
      obtain ⟨⟨⟨⟨g1, g2⟩, g3⟩, g4⟩, g5⟩ := hs
      have hH := List.isEmpty_iff.mp g4
      have hv : ∃ v, r1.1 = .inl v := by
        cases h : r1.1 with
        | inl v => exact ⟨v, rfl⟩
        | inr E => rw [hplain E h] at g5; cases g5
      obtain ⟨v, hv⟩ := hv
      exact ak_ran (ak_rx (va_runSN (As := (st.take (am_N cal)).reverse.map (ak_v ad)) (rest := (st.drop (am_N cal)).map (ak_v ad)) fix (ak_plain hv hmet) ⟨va_cnB (am_N cal) hts hG (hwc hH) rfl rfl (hA.2.2.2.2.2.2.2.2.1 _ (am_isb g1) rfl) (am_okb hts g3) ⟨hMH.1, hMH.2, hpn⟩ hroom, am_okb hts g2, trivial⟩ ⟨ak_blind, hPre⟩ rfl hAn hsz hst hcw hd0 ⟨hb1, hb2⟩)) hbs hSv kx kk
  · -- constructors
    have hd0 : decode (am_B mi) pc = .ok (.invokespecial idx, 3) := by
      rcases hdec with h | h | h
      · cases h.1
      · cases h.1
      · exact h.2
    have hst : (F0 m pc ls (st.map (ak_v ad))).stack = ((st.take (am_N cal)).reverse.map (ak_v ad)).reverse ++ .ref (ad q) :: rest.map (ak_v ad) := by
      show st.map (ak_v ad) = _
      rw [hrev]
      conv => lhs; rw [← List.take_append_drop (am_N cal) st, List.map_append, hd9]
      rfl
    have hv : am_th.contains cal = false → ∃ v, r1.1 = .inl v := by
      intro h9
      cases h : r1.1 with
      | inl v => exact ⟨v, rfl⟩
      | inr E => rw [hplain E h] at h9; cases h9
    rcases hk with rfl | rfl | rfl
    · simp only [Bool.and_eq_true, decide_eq_true_eq] at hs
      obtain ⟨⟨⟨⟨⟨⟨g1, g2⟩, g3⟩, g4⟩, g5⟩, g6⟩, g7⟩ := hs
      have hH := List.isEmpty_iff.mp g4
      have hw9 := hwc hH
      obtain ⟨v, hv⟩ := hv (by simpa using g7)
      rw [g6] at hw9
      exact ak_ran (ak_rx (va_runI (As := (st.take (am_N cal)).reverse.map (ak_v ad)) (rest := rest.map (ak_v ad)) (b := ad q) fix (ak_plain hv hmet) (cwI (am_N cal) hts hG hw9 rfl rfl (am_okb hts g3) (am_okb hts g1) (am_okb hts g2) g5 ⟨hMH.1, hMH.2, hpn⟩ hroom) ⟨ak_blind, hPre⟩ rfl hAn hsz hst hcw hd0 ⟨hb1, hb2⟩)) hbs hSv kx kk
    · simp only [Bool.and_eq_true, decide_eq_true_eq] at hs
      obtain ⟨⟨⟨⟨⟨⟨g1, g2⟩, g3⟩, g4⟩, g5⟩, g6⟩, g7⟩ := hs
      have hH := List.isEmpty_iff.mp g4
      have hw9 := hwc hH
      obtain ⟨v, hv⟩ := hv (by simpa using g7)
      rw [g6] at hw9
      exact ak_ran (ak_rx (va_runIN (As := (st.take (am_N cal)).reverse.map (ak_v ad)) (rest := rest.map (ak_v ad)) (b := ad q) fix (ak_plain hv hmet) ⟨va_cnB (am_N cal) hts hG hw9 rfl rfl (hA.2.2.2.2.2.2.2.2.1 _ (am_isb g1) rfl) (am_okb hts g3) ⟨hMH.1, hMH.2, hpn⟩ hroom, g5, am_okb hts g2⟩ ⟨ak_blind, hPre⟩ rfl hAn hsz hst hcw hd0 ⟨hb1, hb2⟩)) hbs hSv kx kk
    · simp only [Bool.and_eq_true, decide_eq_true_eq] at hs
      obtain ⟨⟨⟨⟨⟨⟨g1, g2⟩, g3⟩, g4⟩, g5⟩, g6⟩, g7⟩ := hs
      have hH := List.isEmpty_iff.mp g5
      obtain ⟨v, hv⟩ := hv (am_Tm hmi hL (by decide))
      have hGV : GoodIn am_w (va_wsSU (am_cn (am_O mi)) idx (am_Y cal) (am_ws cal)) := by
        intro w hw
        unfold va_wsSU at hw
        rcases List.mem_append.mp hw with hw | hw
        · simp only [List.mem_cons, List.not_mem_nil, or_false] at hw
          rcases hw with rfl | rfl | rfl | rfl | rfl
          · exact hgood g1
          · exact hgoodin g6
          · exact hgood g3
          · exact hgood g2
          · exact hgood g4
        · exact hG w hw
      have hat : ClassAt s ax_SB (D.1 12) := (hA.1.1 12 (RJ4, TJ4, 4) rfl).2
      exact ak_ran (ak_rx (va_runSU (As := (st.take (am_N cal)).reverse.map (ak_v ad)) (rest := rest.map (ak_v ad)) (b := ad q) hat fix (ak_plain hv hmet) (va_cwSU (am_N cal) hts hGV (hwc hH) rfl rfl ⟨g7, hpn⟩ hroom) ⟨ak_blind, recvSB q (hsu rfl), hPre⟩ rfl hAn hsz hst hcw hd0 ⟨hb1, hb2⟩)) hbs hSv kx kk
end AKJ
