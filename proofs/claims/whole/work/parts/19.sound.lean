/-! a whole run is one of the machine -/
theorem am_h13 : Jvm.Cond.classLink (am_cn 54) 13 (am_E 0) ∈ am_w := List.mem_filter.mpr ⟨by decide +kernel, rfl⟩
theorem am_h15 : Jvm.Cond.classLink (am_cn 54) 15 (am_E 1) ∈ am_w := List.mem_filter.mpr ⟨by decide +kernel, rfl⟩
theorem am_h30 : Jvm.Cond.classLink (am_cn 54) 30 (am_E 2) ∈ am_w := List.mem_filter.mpr ⟨by decide +kernel, rfl⟩
theorem am_e0 : Jvm.Cond.castable (am_E 0) (am_E 0) ∈ lw_tbl := by decide +kernel
theorem am_e1 : Jvm.Cond.castable (am_E 1) (am_E 1) ∈ lw_tbl := by decide +kernel
theorem am_e2 : Jvm.Cond.castable (am_E 2) (am_E 2) ∈ lw_tbl := by decide +kernel
theorem am_ee {E : Nat} (h : E < 3) : Jvm.Cond.castable (am_E E) (am_E E) ∈ lw_tbl := match E, h with
  | 0, _ => am_e0 | 1, _ => am_e1 | 2, _ => am_e2 | n + 3, h => absurd h (by omega)
theorem ak_cl {t : Nat} (h : t = 13 ∨ t = 15 ∨ t = 30) : Jvm.Cond.classLink (am_cn 54) t (am_E (ak_ct t)) ∈ am_w := by
  rcases h with rfl | rfl | rfl
  · exact am_h13
  · exact am_h15
  · exact am_h30
theorem ak_hd {k : Nat} (hk : k < 365) (hne : am_H k ≠ []) : am_O k = 54 ∧ ∀ q ∈ am_H k, q.2.2.2 = 13 ∨ q.2.2.2 = 15 ∨ q.2.2.2 = 30 := by
  have h := List.all_eq_true.mp am_Jk k (List.mem_range.mpr hk)
  unfold am_kJ at h
  rw [Bool.or_eq_true] at h
  rcases h with h | h
  · exact absurd (List.isEmpty_iff.mp h) hne
  · rw [Bool.and_eq_true, beq_iff_eq] at h
    refine ⟨h.1, fun q hq => ?_⟩
    have := List.all_eq_true.mp h.2 q hq
    simp only [Bool.or_eq_true, beq_iff_eq] at this
    rcases this with (h | h) | h
    · exact Or.inl h
    · exact Or.inr (Or.inl h)
    · exact Or.inr (Or.inr h)
section AKS
variable {p : Program} {l : Launch} {e : Env} {R : Room} {s : State} {m : MethodId} {args : Array Value} {below : List Frame} {meth : Method} {c : Code} {Q : State → Prop}
variable {X : ak_X} {D : va_G} {dA : Nat → ClassId} {ac : Nat → Nat} {base : Nat}
theorem ak_ctE {t : Nat} (h : t = 13 ∨ t = 15 ∨ t = 30) : ak_ct t < 3 := by
  rcases h with rfl | rfl | rfl <;> decide
theorem ak_caught {mi pc E t : Nat} {q : Addr} {ce : Cell} {H : Heap} {locs : List Loc} {cells slots : Nat} {ls : Array Slot} {rest : List Value} (C : ak_cx p l R s m args meth c mi) (hA : ak_amb X D dA ac (ak_A base) s s.heap) (hE : E < 3) (hne : am_H mi ≠ [])
    (hh : ak_h (am_H mi) pc E = some t) (hcell : H[q]? = some ce) (hv : ce.vm = .none) (hcl : s.vm.findClass (am_E E) = some ce.cls)
    (kk : W p l e R s m args below meth c H locs cells slots Q (F0 m t ls [.ref q])) : vx_W p l e R s m args below meth c H locs cells slots Q (F0 m pc ls rest) q := by
  obtain ⟨hx, hb, hown, hts, hml, hrt, hlocks, hnm, htab, htr, hfr, hlo, hmi⟩ := C
  obtain ⟨hO, hT⟩ := ak_hd hmi hne
  unfold ak_h at hh
  cases hf : (am_H mi).find? (fun q => decide (q.1 ≤ pc) && decide (pc < q.2.1) && decide (ak_ct q.2.2.2 = E)) with
  | none => rw [hf] at hh; cases hh
  | some x =>
    rw [hf] at hh
    cases hh
    obtain ⟨hpx, pre, suf, hsp, hpre⟩ := List.find?_eq_some_iff_append.mp hf
    have hx9 := hT x (by rw [hsp]; exact List.mem_append_right _ List.mem_cons_self)
    rw [Bool.and_eq_true] at hpx
    have hct : ak_ct x.2.2.2 = E := of_decide_eq_true hpx.2
    subst hct
    have key : ∀ y ∈ am_H mi, (Jvm.Cond.classLink (am_cn (am_O mi)) y.2.2.2 (am_E (ak_ct y.2.2.2))).before args s = true := by
      intro y hy
      rw [hO]
      exact hts _ (ak_cl (hT y hy))
    refine vx_catch (own := am_cn (am_O mi)) (name := am_E (ak_ct x.2.2.2)) hown (tableOf pre) ⟨x.1, x.2.1, x.2.2.1, x.2.2.2⟩ (tableOf suf) ?_ ?_ ?_ ?_ ?_ ?_ hcell hv hcl kk
    · rw [htab (fun h => hne (by rw [h]; rfl)), hsp]; unfold tableOf; rw [List.map_append, List.map_cons]
    · intro z hz
      unfold tableOf at hz
      obtain ⟨y, hy, rfl⟩ := List.mem_map.mp hz
      have hyH : y ∈ am_H mi := by rw [hsp]; exact List.mem_append_left _ hy
      have hpy := hpre y hy
      by_cases hc : covers ⟨y.1, y.2.1, y.2.2.1, y.2.2.2⟩ pc = true
      · have hne9 : ak_ct y.2.2.2 ≠ ak_ct x.2.2.2 := by
          intro e9
          have hc : (decide (y.1 ≤ pc) && decide (pc < y.2.1)) = true := hc
          rw [hc, e9] at hpy
          simp at hpy
        have hty := hT y hyH
        refine Or.inr ⟨?_, am_E (ak_ct y.2.2.2), key y hyH, hA.2.2.2.2.2.2.2.2.2.1 _ _ hE (ak_ctE hty) (fun e9 => hne9 e9.symm)⟩
        show y.2.2.2 ≠ 0
        omega
      · exact Or.inl (by simpa using hc)
    · exact hpx.1
    · show x.2.2.2 ≠ 0
      omega
    · exact key x (by rw [hsp]; exact List.mem_append_right _ List.mem_cons_self)
    · exact va_tabs rfl rfl (hA.2.2.2.2.2.2.2.2.1 _ (am_ee hE) rfl)
theorem ak_callinv {mi pc cal : Nat} {l1 : List (Option Value)} {l2 : List (Nat × Value)} {st as : List Value} {M M1 : ak_M} {g : ak_F} (hS : ak_S X mi (pc, l1, l2, st) M = some (.inr (.inr (cal, as, g, M1)))) :
    ∃ rest, M1 = M ∧ g = (pc + 3, l1, l2, rest) ∧ ∀ v ∈ rest, v ∈ st := by
  obtain ⟨ins, -, hS2⟩ := ak_Sx hS
  have : ∃ idx vt, ak_inv mi idx vt pc l1 l2 st M = some (.inr (.inr (cal, as, g, M1))) := by
    rcases ak_kinds hS2 with hk | ⟨-, r, hr⟩
    · cases ins with
      | invokevirtual idx => exact ⟨idx, 0, hS2⟩
      | invokestatic idx => exact ⟨idx, 1, hS2⟩
      | invokespecial idx => exact ⟨idx, 2, hS2⟩
      | _ => cases hk
    · cases hr
  obtain ⟨idx, vt, h9⟩ := this
  obtain ⟨kind, w, rest, hL, h1, h2, -, -, -, -, hc⟩ := ak_invc h9
  refine ⟨rest, h1, h2, fun v hv => ?_⟩
  rcases hc with ⟨-, -, q, hd, -⟩ | ⟨-, -, rfl, -⟩ | ⟨-, -, q, hd, -⟩
  · exact List.mem_of_mem_drop (by rw [hd]; exact List.mem_cons_of_mem _ hv)
  · exact List.mem_of_mem_drop hv
  · exact List.mem_of_mem_drop (by rw [hd]; exact List.mem_cons_of_mem _ hv)
theorem ak_le.okP {M M' : ak_M} (h : ak_le M M') {x : Nat} (hx : ak_okP M x) : ak_okP M' x := by
  obtain ⟨h1, h2, h3⟩ := h
  unfold ak_okP at *
  rcases hx with hx | hx
  · exact Or.inl (Nat.lt_of_lt_of_le hx h3)
  · exact Or.inr ⟨hx.1, by omega⟩
theorem ak_le.okV {M M' : ak_M} (h : ak_le M M') {v : Value} (hv : ak_okV M v) : ak_okV M' v := by
  cases v with
  | ref q => exact h.okP hv
  | _ => trivial
theorem ak_w_ext {ad ad' : Nat → Nat} {M : ak_M} (hO : ak_okM M) (he : ∀ p, ak_okP M p → ad' p = ad p) : ak_w ad' dA M = ak_w ad dA M := by
  refine List.map_congr_left fun q hq => ?_
  have hq := List.mem_range.mp hq
  have e7 : ∀ k, (ak_R M q k).map ad' = (ak_R M q k).map ad := by
    intro k
    cases hr : ak_R M q k with
    | none => rfl
    | some y => show some (ad' y) = some (ad y); rw [he y (Or.inl (hO.2.1 q k y hr))]
  rw [he q (Or.inl hq)]
  unfold ak_ce ak_ar
  rw [show ak_fd ad' M q = ak_fd ad M q from funext fun ci => funext fun k => by unfold ak_fd; rw [e7], funext e7]
set_option maxHeartbeats 2000000 in
theorem ak_sound : ∀ n : Nat, ak_snd X D dA ac base n
  | 0 => by intro mi f M r h; cases h
  | n + 1 => by
    have IH := ak_sound n
    intro mi f M r hgo p l e R s m args below meth c Q H locs cells slots mc ms ls ad ad0 M0 C hA hM hF hext hmc hms hb1 hb2 hKe hKx
    obtain ⟨pc, l1, l2, st⟩ := f
    unfold ak_go at hgo
    split at hgo
    · cases hgo
    · rename_i f' M' hS
      have h2 := ak_mono n mi f' M' r hgo
      have h1 : ak_le M M' := by
        obtain ⟨ins, -, hS2⟩ := ak_Sx hS
        exact ak_grow f' M' hS2
      have h3 := h1.1
      have h4 := h2.1
      have h5 := h1.2.1
      have h6 := h2.2.1
      refine ak_next C hA hS hM hF (by omega) (by omega) ?_
      intro ls' ad' H' locs' y z hM' hF' hx hy hz
      exact IH mi f' M' r hgo p l e R s m args below meth c Q H' locs' (cells + y) (slots + z) mc ms ls' ad' ad0 M0 C hA hM' hF' (fun x h => ⟨(hx x (hext x h).1).1, (hx x (hext x h).1).2.trans (hext x h).2⟩) hmc hms (by omega) (by omega) hKe hKx
    · rename_i r' hS
      cases hgo
      exact hKe pc l1 l2 st M H locs cells slots ls ad hS hM hF (fun x h => (hext x h).2) hb1 hb2
    · rename_i cal as g M1 hS
      obtain ⟨rest, rfl, rfl, hrest⟩ := ak_callinv hS
      split at hgo
      · cases hgo
      · rename_i v M2 hg1
        have h1 := ak_mono n cal _ _ _ hg1
        have h2 := ak_mono n mi _ _ r hgo
        have h3 : ak_C M1 ≤ ak_C M2 := h1.1
        have h4 := h2.1
        have h5 : ak_Z M1 ≤ ak_Z M2 := h1.2.1
        have h6 := h2.2.1
        refine ak_calls IH C hA hS hg1 hM hF (mc := ak_C M2 - ak_C M1) (ms := ak_Z M2 - ak_Z M1) (by show ak_C M1 + (ak_C M2 - ak_C M1) = ak_C M2; omega) (by show ak_Z M1 + (ak_Z M2 - ak_Z M1) = ak_Z M2; omega) (by omega) (by omega) (fun E h => by cases h) (fun E ad' q ce H1 locs1 h => by cases h) ?_
        intro v' ad' H1 locs1 hv hM2 hx hok
        cases hv
        have hF2 : ak_fi ad' M2 ls (am_X mi) l1 l2 (v.toList ++ rest) := by
          refine ⟨fun w hw => ?_, fun i w hw => h1.okV (hF.2.1 i w hw), ak_l_ext hx hF.2.1 hF.2.2⟩
          rcases List.mem_append.mp hw with hw | hw
          · exact hok w (by simpa using hw)
          · exact h1.okV (hF.1 w (hrest w hw))
        have key := IH mi (pc + 3, l1, l2, v.toList ++ rest) M2 r hgo p l e R s m args below meth c Q H1 locs1 (cells + (ak_C M2 - ak_C M1)) (slots + (ak_Z M2 - ak_Z M1)) mc ms ls ad' ad0 M0 C hA hM2 hF2 (fun x h => ⟨h1.okP (hext x h).1, (hx x (hext x h).1).trans (hext x h).2⟩) hmc hms (by omega) (by omega) hKe hKx
        have e1 : (v.toList ++ rest).map (ak_v ad') = (v.map (ak_v ad')).toList ++ rest.map (ak_v ad) := by
          rw [List.map_append, ak_map_ext hx (fun w hw => hF.1 w (hrest w hw))]
          cases v <;> rfl
        rw [← e1]
        exact key
      · rename_i E M2 hg1
        have h1 := ak_mono n cal _ _ _ hg1
        split at hgo
        · rename_i hth
          have h3 : ak_C M1 ≤ ak_C M2 := h1.1
          have h5 : ak_Z M1 ≤ ak_Z M2 := h1.2.1
          have h99 : ak_C M2 ≤ ak_C r.2 ∧ ak_Z M2 ≤ ak_Z r.2 := by
            split at hgo
            · cases hgo; exact ⟨Nat.le_refl _, Nat.le_refl _⟩
            · split at hgo
              · have h2 := ak_mono n mi _ _ r hgo
                exact ⟨Nat.le_trans (Nat.le_succ _) h2.1, h2.2.1⟩
              · cases hgo
          obtain ⟨h4, h6⟩ := h99
          refine ak_calls IH C hA hS hg1 hM hF (mc := ak_C M2 - ak_C M1) (ms := ak_Z M2 - ak_Z M1) (by show ak_C M1 + (ak_C M2 - ak_C M1) = ak_C M2; omega) (by show ak_Z M1 + (ak_Z M2 - ak_Z M1) = ak_Z M2; omega) (by omega) (by omega) (fun E h => hth) ?_ (fun v ad' H1 locs1 h => by cases h)
          intro E' ad' q ce H1 locs1 hE' hE3 hM2 hx hq hcv hcl
          cases hE'
          split at hgo
          · rename_i hem
            cases hgo
            exact hKx pc _ E H1 locs1 _ _ ls ad' q ce rfl hE3 (List.isEmpty_iff.mp hem) hM2 (fun x h => (hx x (hext x h).1).trans (hext x h).2) (by show cells + (ak_C M2 - ak_C M1) ≤ mc; have h9 : cells + ak_C M2 ≤ mc + ak_C M1 := hb1; omega) (by show slots + (ak_Z M2 - ak_Z M1) ≤ ms; have h9 : slots + ak_Z M2 ≤ ms + ak_Z M1 := hb2; omega) hq hcv hcl
          · rename_i hem
            split at hgo
            · rename_i t ht
              have ht : ak_h (am_H mi) pc E = some t := ht
              refine ak_caught C hA hE3 (fun h => hem (by rw [h]; rfl)) ht hq hcv hcl ?_
              obtain ⟨hbs, hSv, hP, hD, hO, hac⟩ := hM2
              obtain ⟨qq, hqq⟩ : ∃ qq : Nat, qq = q := ⟨q, rfl⟩
              have hne : ∀ x, ak_okP M2 x → ak_ad ad' (3000000 + ak_C M2) qq x = ad' x := by
                intro x hx9
                refine ak_ad_ne (fun e9 => ?_)
                have h0 : ak_P M2 ≤ 950000 := hO.1
                unfold ak_okP at hx9
                omega
              have hM3 : ak_mi D dA ac base s H1 locs1 (ak_ad ad' (3000000 + ak_C M2) qq) (ak_use M2 1 0) := by
                refine ⟨hbs, hSv, ?_, ?_, hO, fun x h8 h9 => (ak_ad_ne (by omega)).trans (hac x h8 h9)⟩
                · rw [ak_use_w, ak_w_ext hO hne]; exact hP
                · rw [ak_use_w, ak_w_ext hO hne]; exact hD
              have hu : ak_le M2 (ak_use M2 1 0) := ⟨Nat.le_succ _, Nat.le_refl _, Nat.le_refl _⟩
              have h13 := h1.tr hu
              have hx3 : ∀ x, ak_okP M1 x → ak_ad ad' (3000000 + ak_C M2) qq x = ad x := fun x h => (hne x (h1.okP h)).trans (hx x h)
              have hF3 : ak_fi (ak_ad ad' (3000000 + ak_C M2) qq) (ak_use M2 1 0) ls (am_X mi) l1 l2 [.ref (3000000 + ak_C M2)] := by
                refine ⟨fun w hw => ?_, fun i w hw => h13.okV (hF.2.1 i w hw), ak_l_ext hx3 hF.2.1 hF.2.2⟩
                rw [List.mem_singleton.mp hw]
                exact Or.inr ⟨by omega, by show 3000000 + ak_C M2 < 3000000 + (ak_C M2 + 1); omega⟩
              have h2 := ak_mono n mi _ _ r hgo
              have h7 : ak_C M2 + 1 ≤ ak_C r.2 := h2.1
              have key := IH mi (t, l1, l2, [.ref (3000000 + ak_C M2)]) (ak_use M2 1 0) r hgo p l e R s m args below meth c Q H1 locs1 (cells + (ak_C M2 - ak_C M1)) (slots + (ak_Z M2 - ak_Z M1)) mc ms ls (ak_ad ad' (3000000 + ak_C M2) qq) ad0 M0 C hA hM3 hF3 (fun x h => ⟨h13.okP (hext x h).1, (hx3 x (hext x h).1).trans (hext x h).2⟩) hmc hms (by show _ ≤ mc + (ak_C M2 + 1); omega) (by show _ ≤ ms + (ak_Z M2 + 0); omega) hKe hKx
              have e1 : [Value.ref (3000000 + ak_C M2)].map (ak_v (ak_ad ad' (3000000 + ak_C M2) qq)) = [Value.ref q] := by
                show [Value.ref (ak_ad ad' (3000000 + ak_C M2) qq (3000000 + ak_C M2))] = _
                rw [ak_ad_at, hqq]
              rw [← e1]
              exact key
            · cases hgo
        · cases hgo
end AKS
