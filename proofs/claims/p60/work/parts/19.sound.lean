/-! a whole run is one of the machine -/
set_option maxRecDepth 100000 in
theorem am_Hn : (List.range 365).all (fun k => (am_H k).isEmpty) = true := by decide +kernel
theorem am_Hm {k : Nat} (hk : k < 365) : (am_H k).isEmpty = true := List.all_eq_true.mp am_Hn k (List.mem_range.mpr hk)
section AKS
variable {p : Program} {l : Launch} {e : Env} {R : Room} {s : State} {m : MethodId} {args : Array Value} {below : List Frame} {meth : Method} {c : Code} {Q : State → Prop}
variable {X : ak_X} {D : va_G} {dA : Nat → ClassId} {ac : Nat → Nat} {base : Nat}
theorem ak_callinv {mi pc cal : Nat} {l1 : List (Option Value)} {l2 : List (Nat × Value)} {st as : List Value} {M M1 : ak_M} {g : ak_F} (hS : ak_S X mi (pc, l1, l2, st) M = some (.inr (.inr (cal, as, g, M1)))) :
    ∃ rest, M1 = M ∧ g = (pc + 3, l1, l2, rest) ∧ ∀ v ∈ rest, v ∈ st := by
  obtain ⟨ins, -, hS2⟩ := ak_Sx hS
  have : ∃ idx vt, ak_inv X mi idx vt pc l1 l2 st M = some (.inr (.inr (cal, as, g, M1))) := by
    rcases ak_kinds hS2 with hk | ⟨-, r, hr⟩
    · cases ins with
      | invokevirtual idx => exact ⟨idx, 0, hS2⟩
      | invokestatic idx => exact ⟨idx, 1, hS2⟩
      | invokespecial idx => exact ⟨idx, 2, hS2⟩
      | _ => cases hk
    · cases hr
  obtain ⟨idx, vt, h9⟩ := this
  obtain ⟨kind, w, rest, hL, h1, h2, -, -, -, -, hc⟩ := ak_invc h9
  refine ⟨rest, h1, h2, fun v hv => ?_⟩
  rcases hc with ⟨-, -, q, hd, -⟩ | ⟨-, -, rfl, -⟩ | ⟨-, -, q, hd, -⟩
  · exact List.mem_of_mem_drop (by rw [hd]; exact List.mem_cons_of_mem _ hv)
  · exact List.mem_of_mem_drop hv
  · exact List.mem_of_mem_drop (by rw [hd]; exact List.mem_cons_of_mem _ hv)
theorem ak_le.okP {M M' : ak_M} (h : ak_le M M') {x : Nat} (hx : ak_okP M x) : ak_okP M' x := by
  obtain ⟨h1, h2, h3⟩ := h
  unfold ak_okP at *
  rcases hx with hx | hx
  · exact Or.inl (Nat.lt_of_lt_of_le hx h3)
  · exact Or.inr ⟨hx.1, by omega⟩
theorem ak_le.okV {M M' : ak_M} (h : ak_le M M') {v : Value} (hv : ak_okV M v) : ak_okV M' v := by
  cases v with
  | ref q => exact h.okP hv
  | _ => trivial
theorem ak_w_ext {ad ad' : Nat → Nat} {M : ak_M} (hO : ak_okM M) (he : ∀ p, ak_okP M p → ad' p = ad p) : ak_w ad' dA M = ak_w ad dA M := by
  refine List.map_congr_left fun q hq => ?_
  have hq := List.mem_range.mp hq
  have e7 : ∀ k, (ak_R M q k).map ad' = (ak_R M q k).map ad := by
    intro k
    cases hr : ak_R M q k with
    | none => rfl
    | some y => show some (ad' y) = some (ad y); rw [he y (Or.inl (hO.2.1 q k y hr))]
  rw [he q (Or.inl hq)]
  unfold ak_ce ak_ar
  rw [show ak_fd ad' M q = ak_fd ad M q from funext fun ci => funext fun k => by unfold ak_fd; rw [e7], funext e7]
set_option maxHeartbeats 2000000 in
theorem ak_sound : ∀ n : Nat, ak_snd X D dA ac base n
  | 0 => by intro mi f M r h; cases h
  | n + 1 => by
    have IH := ak_sound n
    intro mi f M r hgo p l e R s m args below meth c Q H locs cells slots mc ms ls ad ad0 M0 C hA hM hF hext hmc hms hb1 hb2 hKe hKx
    obtain ⟨pc, l1, l2, st⟩ := f
    unfold ak_go at hgo
    split at hgo
    · cases hgo
    · rename_i f' M' hS
      have h2 := ak_mono n mi f' M' r hgo
      have h1 : ak_le M M' := by
        obtain ⟨ins, -, hS2⟩ := ak_Sx hS
        exact ak_grow f' M' hS2
      have h3 := h1.1
      have h4 := h2.1
      have h5 := h1.2.1
      have h6 := h2.2.1
      refine ak_next C hA hS hM hF (by omega) (by omega) ?_
      intro ls' ad' H' locs' y z hM' hF' hx hy hz
      exact IH mi f' M' r hgo p l e R s m args below meth c Q H' locs' (cells + y) (slots + z) mc ms ls' ad' ad0 M0 C hA hM' hF' (fun x h => ⟨(hx x (hext x h).1).1, (hx x (hext x h).1).2.trans (hext x h).2⟩) hmc hms (by omega) (by omega) hKe hKx
    · rename_i r' hS
      cases hgo
      exact hKe pc l1 l2 st M H locs cells slots ls ad hS hM hF (fun x h => (hext x h).2) hb1 hb2
    · rename_i cal as g M1 hS
      obtain ⟨rest, rfl, rfl, hrest⟩ := ak_callinv hS
      split at hgo
      · cases hgo
      · rename_i v M2 hg1
        have h1 := ak_mono n cal _ _ _ hg1
        have h2 := ak_mono n mi _ _ r hgo
        have h3 : ak_C M1 ≤ ak_C M2 := h1.1
        have h4 := h2.1
        have h5 : ak_Z M1 ≤ ak_Z M2 := h1.2.1
        have h6 := h2.2.1
        refine ak_calls IH C hA hS hg1 hM hF (mc := ak_C M2 - ak_C M1) (ms := ak_Z M2 - ak_Z M1) (by show ak_C M1 + (ak_C M2 - ak_C M1) = ak_C M2; omega) (by show ak_Z M1 + (ak_Z M2 - ak_Z M1) = ak_Z M2; omega) (by omega) (by omega) (fun E h => by cases h) (fun E ad' q ce H1 locs1 h => by cases h) ?_
        intro v' ad' H1 locs1 hv hM2 hx hok
        cases hv
        have hF2 : ak_fi ad' M2 ls (am_X mi) l1 l2 (v.toList ++ rest) := by
          refine ⟨fun w hw => ?_, fun i w hw => h1.okV (hF.2.1 i w hw), ak_l_ext hx hF.2.1 hF.2.2⟩
          rcases List.mem_append.mp hw with hw | hw
          · exact hok w (by simpa using hw)
          · exact h1.okV (hF.1 w (hrest w hw))
        have key := IH mi (pc + 3, l1, l2, v.toList ++ rest) M2 r hgo p l e R s m args below meth c Q H1 locs1 (cells + (ak_C M2 - ak_C M1)) (slots + (ak_Z M2 - ak_Z M1)) mc ms ls ad' ad0 M0 C hA hM2 hF2 (fun x h => ⟨h1.okP (hext x h).1, (hx x (hext x h).1).trans (hext x h).2⟩) hmc hms (by omega) (by omega) hKe hKx
        have e1 : (v.toList ++ rest).map (ak_v ad') = (v.map (ak_v ad')).toList ++ rest.map (ak_v ad) := by
          rw [List.map_append, ak_map_ext hx (fun w hw => hF.1 w (hrest w hw))]
          cases v <;> rfl
        rw [← e1]
        exact key
      · rename_i E M2 hg1
        have h1 := ak_mono n cal _ _ _ hg1
        split at hgo
        · rename_i hth
          have h3 : ak_C M1 ≤ ak_C M2 := h1.1
          have h5 : ak_Z M1 ≤ ak_Z M2 := h1.2.1
          rw [if_pos (am_Hm C.2.2.2.2.2.2.2.2.2.2.2.2)] at hgo
          have h99 : ak_C M2 ≤ ak_C r.2 ∧ ak_Z M2 ≤ ak_Z r.2 := by cases hgo; exact ⟨Nat.le_refl _, Nat.le_refl _⟩
          obtain ⟨h4, h6⟩ := h99
          refine ak_calls IH C hA hS hg1 hM hF (mc := ak_C M2 - ak_C M1) (ms := ak_Z M2 - ak_Z M1) (by show ak_C M1 + (ak_C M2 - ak_C M1) = ak_C M2; omega) (by show ak_Z M1 + (ak_Z M2 - ak_Z M1) = ak_Z M2; omega) (by omega) (by omega) (fun E h => hth) ?_ (fun v ad' H1 locs1 h => by cases h)
          intro E' ad' q ce H1 locs1 hE' hE3 hM2 hx hq hcv hcl
          cases hE'
          have hem := am_Hm C.2.2.2.2.2.2.2.2.2.2.2.2
          cases hgo
          exact hKx pc _ E H1 locs1 _ _ ls ad' q ce rfl hE3 (List.isEmpty_iff.mp hem) hM2 (fun x h => (hx x (hext x h).1).trans (hext x h).2) (by show cells + (ak_C M2 - ak_C M1) ≤ mc; have h9 : cells + ak_C M2 ≤ mc + ak_C M1 := hb1; omega) (by show slots + (ak_Z M2 - ak_Z M1) ≤ ms; have h9 : slots + ak_Z M2 ≤ ms + ak_Z M1 := hb2; omega) hq hcv hcl
        · cases hgo
end AKS
