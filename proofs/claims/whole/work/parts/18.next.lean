/-! from one frame to the next, and a whole run -/
section AKN
variable {p : Program} {l : Launch} {e : Env} {R : Room} {s : State} {m : MethodId} {args : Array Value} {below : List Frame} {meth : Method} {c : Code} {Q : State → Prop}
variable {X : ak_X} {D : va_G} {dA : Nat → ClassId} {ac : Nat → Nat} {base : Nat}
theorem ak_okV_eq {M M' : ak_M} (h : ak_P M' = ak_P M ∧ ak_C M' = ak_C M ∧ ak_Z M' = ak_Z M) {v : Value} (hv : ak_okV M v) : ak_okV M' v := by
  cases v with
  | ref q =>
    have hv : ak_okP M q := hv
    show ak_okP M' q
    unfold ak_okP at *
    rw [h.1, h.2.1]; exact hv
  | _ => trivial
theorem ak_objinit {mi idx pc : Nat} {l1 : List (Option Value)} {l2 : List (Nat × Value)} {st : List Value} {M M' : ak_M} {f' : ak_F} (h : ak_inv mi idx 2 pc l1 l2 st M = some (.inl (f', M'))) :
    ∃ (cal : Nat) (w : Nat × Nat × Nat × Nat) (q : Nat) (rest : List Value), am_L mi idx = some (cal, 5, w) ∧ st = .ref q :: rest ∧ ak_cat rest ≤ 8 ∧ ak_n (pc + 3) l1 l2 rest M = some (.inl (f', M')) := by
  unfold ak_inv ak_call at h
  split at h
  · cases h
  · rename_i cal kind w hL
    split at h
    · rename_i h0; exact absurd h0.1 (by decide)
    · split at h
      · rename_i h0; exact absurd h0.1 (by decide)
      · split at h
        · repeat' (split at h)
          all_goals cases h
        · split at h
          · rename_i h0
            split at h
            · rename_i q rest
              split at h
              · rename_i hc
                obtain ⟨-, rfl⟩ := h0
                exact ⟨cal, w, q, rest, hL, rfl, hc, h⟩
              · cases h
            · cases h
          · cases h
theorem ak_noinv {mi idx vt pc : Nat} (hv : vt ≠ 2) {l1 : List (Option Value)} {l2 : List (Nat × Value)} {st : List Value} {M : ak_M} {z : ak_F × ak_M} : ak_inv mi idx vt pc l1 l2 st M ≠ some (.inl z) := by
  intro h
  unfold ak_inv ak_call at h
  split at h
  · cases h
  · rename_i cal kind w hL
    split at h
    · repeat' (split at h)
      all_goals cases h
    · split at h
      · repeat' (split at h)
        all_goals cases h
      · split at h
        · repeat' (split at h)
          all_goals cases h
        · split at h
          · rename_i h0
            exact hv h0.1
          · cases h
set_option maxHeartbeats 2000000 in
theorem ak_next {mi pc : Nat} {f' : ak_F} {M M' : ak_M} {l1 : List (Option Value)} {l2 : List (Nat × Value)} {st : List Value} {H : Heap} {locs : List Loc} {cells slots : Nat} {ls : Array Slot} {ad : Nat → Nat}
    (C : ak_cx p l R s m args meth c mi) (hA : ak_amb X D dA ac (ak_A base) s s.heap) (hS : ak_S X mi (pc, l1, l2, st) M = some (.inl (f', M'))) (hM : ak_mi D dA ac base s H locs ad M) (hF : ak_fi ad M ls (am_X mi) l1 l2 st)
    (hb1 : cells + ak_C M' ≤ R.cells + ak_C M) (hb2 : slots + ak_Z M' ≤ R.slots + ak_Z M)
    (kk : ∀ (ls' : Array Slot) (ad' : Nat → Nat) (H' : Heap) (locs' : List Loc) (y z : Nat), ak_mi D dA ac base s H' locs' ad' M' → ak_fi ad' M' ls' (am_X mi) f'.2.1 f'.2.2.1 f'.2.2.2 → (∀ x, ak_okP M x → ak_okP M' x ∧ ad' x = ad x) → ak_C M' = ak_C M + y → ak_Z M' = ak_Z M + z →
      W p l e R s m args below meth c H' locs' (cells + y) (slots + z) Q (F0 m f'.1 ls' (f'.2.2.2.map (ak_v ad')))) :
    W p l e R s m args below meth c H locs cells slots Q (F0 m pc ls (st.map (ak_v ad))) := by
  obtain ⟨ins, hi, hS2⟩ := ak_Sx hS
  clear hS
  obtain ⟨nn, hd, hn⟩ := ak_code C.2.2.2.2.2.2.2.2.2.2.2.2 hi
  obtain ⟨hF1, hF2, hF3⟩ := hF
  by_cases hP : ak_isP ins = true
  · have hm : ak_isM ins = false := by cases ins <;> first | rfl | cases hP
    have e := ak_same hm f' M' hS2
    subst e
    exact ak_pure C hP hi hS2 ⟨hF1, hF2, hF3⟩ fun ls' hF' => kk ls' ad H locs 0 0 hM hF' (fun x hx => ⟨hx, rfl⟩) rfl rfl
  · have k2 : ∀ pc' st', ak_n pc' l1 l2 st' M = some (.inl (f', M')) → (∀ v ∈ st', ak_okV M v) → W p l e R s m args below meth c H locs cells slots Q (F0 m pc' ls (st'.map (ak_v ad))) := by
      intro pc' st' h h1
      obtain ⟨rfl, rfl⟩ := ak_inj h
      exact kk ls ad H locs 0 0 hM ⟨h1, hF2, hF3⟩ (fun x hx => ⟨hx, rfl⟩) rfl rfl
    have k3 : ∀ pc' st' H' locs', ak_n pc' l1 l2 st' M' = some (.inl (f', M')) → (∀ v ∈ st', ak_okV M v) → ak_mi D dA ac base s H' locs' ad M' → ak_P M' = ak_P M ∧ ak_C M' = ak_C M ∧ ak_Z M' = ak_Z M → W p l e R s m args below meth c H' locs' cells slots Q (F0 m pc' ls (st'.map (ak_v ad))) := by
      intro pc' st' H' locs' h h1 h2 h3
      obtain ⟨rfl, -⟩ := ak_inj h
      exact kk ls ad H' locs' 0 0 h2 ⟨fun v hv => ak_okV_eq h3 (h1 v hv), fun i v hv => ak_okV_eq h3 (hF2 i v hv), hF3⟩ (fun x hx => ⟨ak_okV_eq (v := .ref x) h3 hx, rfl⟩) h3.2.1 h3.2.2
    have k4 : ∀ pc' ad' st' H' locs' y z, ak_n pc' l1 l2 st' M' = some (.inl (f', M')) → (∀ v ∈ st', ak_okV M' v) → ak_mi D dA ac base s H' locs' ad' M' → (∀ x, ak_okP M x → ad' x = ad x) → ak_C M' = ak_C M + y ∧ ak_Z M' = ak_Z M + z ∧ (∀ v, ak_okV M v → ak_okV M' v) → W p l e R s m args below meth c H' locs' (cells + y) (slots + z) Q (F0 m pc' ls (st'.map (ak_v ad'))) := by
      intro pc' ad' st' H' locs' y z h h1 h2 h3 h4
      obtain ⟨rfl, -⟩ := ak_inj h
      exact kk ls ad' H' locs' y z h2 ⟨h1, fun i v hv => h4.2.2 v (hF2 i v hv), ak_l_ext h3 hF2 hF3⟩ (fun x hx => ⟨h4.2.2 (.ref x) hx, h3 x hx⟩) h4.1 h4.2.1
    cases ins with
    | getfield idx => exact ak_xget C hA (ak_d1 hd hn (k := 2) rfl) hM hS2 hF1 k2
    | putfield idx => exact ak_xput C hA hi (ak_d1 hd hn (k := 2) rfl) hM hS2 hF1 k3
    | getstatic idx => exact ak_xsta C hA (ak_d1 hd hn (k := 2) rfl) hM hS2 hF1 k2
    | ldc idx => exact ak_xldc C hA (Or.inl ⟨idx, rfl, ak_d1 hd hn (k := 1) rfl⟩) hM hS2 hF1 k2
    | ldc_w idx => exact ak_xldc C hA (Or.inr (Or.inl ⟨idx, rfl, ak_d1 hd hn (k := 2) rfl⟩)) hM hS2 hF1 k2
    | ldc2_w idx => exact ak_xldc C hA (Or.inr (Or.inr ⟨idx, rfl, ak_d1 hd hn (k := 2) rfl⟩)) hM hS2 hF1 k2
    | arraylength => exact ak_xald C hA (Or.inl rfl) (ak_d1 hd hn (k := 0) rfl) hM hS2 hF1 k2
    | iaload => exact ak_xald C hA (Or.inr (Or.inl rfl)) (ak_d1 hd hn (k := 0) rfl) hM hS2 hF1 k2
    | baload => exact ak_xald C hA (Or.inr (Or.inr (Or.inl rfl))) (ak_d1 hd hn (k := 0) rfl) hM hS2 hF1 k2
    | aaload => exact ak_xald C hA (Or.inr (Or.inr (Or.inr (Or.inl rfl)))) (ak_d1 hd hn (k := 0) rfl) hM hS2 hF1 k2
    | laload => exact ak_xald C hA (Or.inr (Or.inr (Or.inr (Or.inr (Or.inl rfl))))) (ak_d1 hd hn (k := 0) rfl) hM hS2 hF1 k2
    | daload => exact ak_xald C hA (Or.inr (Or.inr (Or.inr (Or.inr (Or.inr rfl))))) (ak_d1 hd hn (k := 0) rfl) hM hS2 hF1 k2
    | iastore => exact ak_xast C hA (Or.inl rfl) (ak_d1 hd hn (k := 0) rfl) hM hS2 hF1 k3
    | bastore => exact ak_xast C hA (Or.inr (Or.inl rfl)) (ak_d1 hd hn (k := 0) rfl) hM hS2 hF1 k3
    | aastore => exact ak_xast C hA (Or.inr (Or.inr (Or.inl rfl))) (ak_d1 hd hn (k := 0) rfl) hM hS2 hF1 k3
    | lastore => exact ak_xast C hA (Or.inr (Or.inr (Or.inr (Or.inl rfl)))) (ak_d1 hd hn (k := 0) rfl) hM hS2 hF1 k3
    | dastore => exact ak_xast C hA (Or.inr (Or.inr (Or.inr (Or.inr rfl)))) (ak_d1 hd hn (k := 0) rfl) hM hS2 hF1 k3
    | new idx => exact ak_xnew C hA (ak_d1 hd hn (k := 2) rfl) hM hS2 hF1 hb1 hb2 fun pc' ad' st' H' locs' z => k4 pc' ad' st' H' locs' 1 z
    | newarray t => exact ak_xnwa C hA (ak_d1 hd hn (k := 1) rfl) hM hS2 hF1 hb1 hb2 fun pc' ad' st' H' locs' z => k4 pc' ad' st' H' locs' 1 z
    | anewarray idx => exact ak_xana C hA (ak_d1 hd hn (k := 2) rfl) hM hS2 hF1 hb1 hb2 fun pc' ad' st' H' locs' z => k4 pc' ad' st' H' locs' 1 z
    | multianewarray idx dim => exact ak_xmna C hA (ak_d1 hd hn (k := 3) rfl) hM hS2 hF1 hb1 hb2 k4
    | invokevirtual idx => exact absurd hS2 (ak_noinv (by decide))
    | invokestatic idx => exact absurd hS2 (ak_noinv (by decide))
    | invokespecial idx =>
      obtain ⟨cal, w, q, rest, hL, rfl, hc, h⟩ := ak_objinit hS2
      obtain ⟨iL, iA, iB, iC⟩ := w
      obtain ⟨hx, hb, hown, hts, hml, -, -, -, -, -, hfr, hlo, hmi⟩ := C
      have hs := am_Ls hmi hL
      unfold am_kK1 at hs
      simp only [Bool.and_eq_true] at hs
      obtain ⟨-, ⟨g1, g2⟩, g3⟩ := hs
      refine W.objInit hx hb hown (am_okb hts g1) (am_okb hts g2) (am_okb hts g3) rfl (by rw [hml]; exact hF3.1) rfl (ak_d1 hd hn (k := 2) rfl) (by omega) ?_ (k2 _ _ h (ak_o1 hF1))
      show 2 * 0 + (((rest.map (ak_v ad)).map fun v => v.category).sum) + 12 ≤ R.locals
      rw [ak_catm]
      omega
    | _ => exact absurd rfl hP
end AKN
