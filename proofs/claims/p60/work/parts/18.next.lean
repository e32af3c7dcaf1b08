/-! from one frame to the next, and a whole run -/
section AKN
variable {p : Program} {l : Launch} {e : Env} {R : Room} {s : State} {m : MethodId} {args : Array Value} {below : List Frame} {meth : Method} {c : Code} {Q : State → Prop}
variable {X : ak_X} {D : va_G} {dA : Nat → ClassId} {ac : Nat → Nat} {base : Nat}
theorem ak_okV_eq {M M' : ak_M} (h : ak_P M' = ak_P M ∧ ak_C M' = ak_C M ∧ ak_Z M' = ak_Z M) {v : Value} (hv : ak_okV M v) : ak_okV M' v := by
  cases v with
  | ref q =>
    have hv : ak_okP M q := hv
    show ak_okP M' q
    unfold ak_okP at *
    rw [h.1, h.2.1]; exact hv
  | _ => trivial
theorem ak_invn {X : ak_X} {mi idx vt pc : Nat} {l1 : List (Option Value)} {l2 : List (Nat × Value)} {st : List Value} {M M' : ak_M} {f' : ak_F} (h : ak_inv X mi idx vt pc l1 l2 st M = some (.inl (f', M'))) :
    ∃ (cal : Nat) (w : Nat × Nat × Nat × Nat), (vt = 2 ∧ am_L mi idx = some (cal, 5, w) ∧ ∃ (q : Nat) (rest : List Value), st = .ref q :: rest ∧ ak_cat rest ≤ 8 ∧ ak_n (pc + 3) l1 l2 rest M = some (.inl (f', M'))) ∨
      (vt = 1 ∧ am_L mi idx = some (cal, 9, w) ∧ ∃ (n dp : Int32) (a : Nat) (sp : Int32) (b : Nat) (rest : List Value), st = .int n :: .int dp :: .ref a :: .int sp :: .ref b :: rest ∧
        (ak_cat rest ≤ 8 ∧ a < ak_P M ∧ ak_K M a = 101 ∧ ak_isb M b = true ∧ ¬ sp < 0 ∧ ¬ dp < 0 ∧ ¬ n < 0 ∧ sp.toNatClampNeg + n.toNatClampNeg ≤ ak_bn X M b ∧ dp.toNatClampNeg + n.toNatClampNeg ≤ ak_N M a ∧
            (List.range n.toNatClampNeg).all (fun i => ak_isB (ak_by X M b (sp.toNatClampNeg + i))) = true) ∧
        ak_n (pc + 3) l1 l2 rest (ak_cpy M (ak_by X M b) a sp.toNatClampNeg dp.toNatClampNeg n.toNatClampNeg) = some (.inl (f', M'))) ∨
      (vt = 0 ∧ am_L mi idx = some (cal, 10, w) ∧ ∃ (a : Nat) (rest : List Value), st = .ref a :: rest ∧
        (ak_cat rest ≤ 8 ∧ a < ak_P M ∧ ak_K M a = 101 ∧ ak_P M < 900000 ∧ (List.range (ak_N M a)).all (fun i => ak_isB (ak_I M a i)) = true) ∧
        ak_n (pc + 3) l1 l2 (.ref (ak_P M) :: rest) (ak_cln M (ak_I M a) (ak_N M a)) = some (.inl (f', M'))) := by
  unfold ak_inv ak_call at h
  split at h
  · cases h
  · rename_i cal kind w hL
    split at h
    · repeat' (split at h)
      all_goals cases h
    · split at h
      · repeat' (split at h)
        all_goals cases h
      · split at h
        · repeat' (split at h)
          all_goals cases h
        · split at h
          · repeat' (split at h)
            all_goals cases h
          · split at h
            · rename_i h0
              split at h
              · rename_i q rest
                split at h
                · rename_i hc
                  obtain ⟨h1, rfl⟩ := h0
                  exact ⟨cal, w, Or.inl ⟨h1, hL, q, rest, rfl, hc, h⟩⟩
                · cases h
              · cases h
            · split at h
              · rename_i h0
                split at h
                · rename_i n dp a sp b rest
                  split at h
                  · rename_i hc
                    obtain ⟨h1, rfl⟩ := h0
                    exact ⟨cal, w, Or.inr (Or.inl ⟨h1, hL, n, dp, a, sp, b, rest, rfl, hc, h⟩)⟩
                  · cases h
                · cases h
              · split at h
                · rename_i h0
                  split at h
                  · rename_i a rest
                    split at h
                    · rename_i hc
                      obtain ⟨h1, rfl⟩ := h0
                      exact ⟨cal, w, Or.inr (Or.inr ⟨h1, hL, a, rest, rfl, hc, h⟩)⟩
                    · cases h
                  · cases h
                · cases h
set_option maxHeartbeats 2000000 in
theorem ak_next {mi pc : Nat} {f' : ak_F} {M M' : ak_M} {l1 : List (Option Value)} {l2 : List (Nat × Value)} {st : List Value} {H : Heap} {locs : List Loc} {cells slots : Nat} {ls : Array Slot} {ad : Nat → Nat}
    (C : ak_cx p l R s m args meth c mi) (hA : ak_amb X D dA ac (ak_A base) s s.heap) (hS : ak_S X mi (pc, l1, l2, st) M = some (.inl (f', M'))) (hM : ak_mi D dA ac base s H locs ad M) (hF : ak_fi ad M ls (am_X mi) l1 l2 st)
    (hb1 : cells + ak_C M' ≤ R.cells + ak_C M) (hb2 : slots + ak_Z M' ≤ R.slots + ak_Z M)
    (kk : ∀ (ls' : Array Slot) (ad' : Nat → Nat) (H' : Heap) (locs' : List Loc) (y z : Nat), ak_mi D dA ac base s H' locs' ad' M' → ak_fi ad' M' ls' (am_X mi) f'.2.1 f'.2.2.1 f'.2.2.2 → (∀ x, ak_okP M x → ak_okP M' x ∧ ad' x = ad x) → ak_C M' = ak_C M + y → ak_Z M' = ak_Z M + z →
      W p l e R s m args below meth c H' locs' (cells + y) (slots + z) Q (F0 m f'.1 ls' (f'.2.2.2.map (ak_v ad')))) :
    W p l e R s m args below meth c H locs cells slots Q (F0 m pc ls (st.map (ak_v ad))) := by
  obtain ⟨ins, hi, hS2⟩ := ak_Sx hS
  clear hS
  have CX := C
  obtain ⟨nn, hd, hn⟩ := ak_code C.2.2.2.2.2.2.2.2.2.2.2.2 hi
  obtain ⟨hF1, hF2, hF3⟩ := hF
  by_cases hP : ak_isP ins = true
  · have hm : ak_isM ins = false := by cases ins <;> first | rfl | cases hP
    have e := ak_same hm f' M' hS2
    subst e
    exact ak_pure C hP hi hS2 ⟨hF1, hF2, hF3⟩ fun ls' hF' => kk ls' ad H locs 0 0 hM hF' (fun x hx => ⟨hx, rfl⟩) rfl rfl
  · have k2 : ∀ pc' st', ak_n pc' l1 l2 st' M = some (.inl (f', M')) → (∀ v ∈ st', ak_okV M v) → W p l e R s m args below meth c H locs cells slots Q (F0 m pc' ls (st'.map (ak_v ad))) := by
      intro pc' st' h h1
      obtain ⟨rfl, rfl⟩ := ak_inj h
      exact kk ls ad H locs 0 0 hM ⟨h1, hF2, hF3⟩ (fun x hx => ⟨hx, rfl⟩) rfl rfl
    have k3 : ∀ pc' st' H' locs', ak_n pc' l1 l2 st' M' = some (.inl (f', M')) → (∀ v ∈ st', ak_okV M v) → ak_mi D dA ac base s H' locs' ad M' → ak_P M' = ak_P M ∧ ak_C M' = ak_C M ∧ ak_Z M' = ak_Z M → W p l e R s m args below meth c H' locs' cells slots Q (F0 m pc' ls (st'.map (ak_v ad))) := by
      intro pc' st' H' locs' h h1 h2 h3
      obtain ⟨rfl, -⟩ := ak_inj h
      exact kk ls ad H' locs' 0 0 h2 ⟨fun v hv => ak_okV_eq h3 (h1 v hv), fun i v hv => ak_okV_eq h3 (hF2 i v hv), hF3⟩ (fun x hx => ⟨ak_okV_eq (v := .ref x) h3 hx, rfl⟩) h3.2.1 h3.2.2
    have k4 : ∀ pc' ad' st' H' locs' y z, ak_n pc' l1 l2 st' M' = some (.inl (f', M')) → (∀ v ∈ st', ak_okV M' v) → ak_mi D dA ac base s H' locs' ad' M' → (∀ x, ak_okP M x → ad' x = ad x) → ak_C M' = ak_C M + y ∧ ak_Z M' = ak_Z M + z ∧ (∀ v, ak_okV M v → ak_okV M' v) → W p l e R s m args below meth c H' locs' (cells + y) (slots + z) Q (F0 m pc' ls (st'.map (ak_v ad'))) := by
      intro pc' ad' st' H' locs' y z h h1 h2 h3 h4
      obtain ⟨rfl, -⟩ := ak_inj h
      exact kk ls ad' H' locs' y z h2 ⟨h1, fun i v hv => h4.2.2 v (hF2 i v hv), ak_l_ext h3 hF2 hF3⟩ (fun x hx => ⟨h4.2.2 (.ref x) hx, h3 x hx⟩) h4.1 h4.2.1
    cases ins with
    | getfield idx => exact ak_xget C hA (ak_d1 hd hn (k := 2) rfl) hM hS2 hF1 k2
    | putfield idx => exact ak_xput C hA hi (ak_d1 hd hn (k := 2) rfl) hM hS2 hF1 k3
    | getstatic idx => exact ak_xsta C hA (ak_d1 hd hn (k := 2) rfl) hM hS2 hF1 k2
    | ldc idx => exact ak_xldc C hA (Or.inl ⟨idx, rfl, ak_d1 hd hn (k := 1) rfl⟩) hM hS2 hF1 k2
    | ldc_w idx => exact ak_xldc C hA (Or.inr (Or.inl ⟨idx, rfl, ak_d1 hd hn (k := 2) rfl⟩)) hM hS2 hF1 k2
    | ldc2_w idx => exact ak_xldc C hA (Or.inr (Or.inr ⟨idx, rfl, ak_d1 hd hn (k := 2) rfl⟩)) hM hS2 hF1 k2
    | arraylength => exact ak_xald C hA (Or.inl rfl) (ak_d1 hd hn (k := 0) rfl) hM hS2 hF1 k2
    | iaload => exact ak_xald C hA (Or.inr (Or.inl rfl)) (ak_d1 hd hn (k := 0) rfl) hM hS2 hF1 k2
    | baload => exact ak_xald C hA (Or.inr (Or.inr (Or.inl rfl))) (ak_d1 hd hn (k := 0) rfl) hM hS2 hF1 k2
    | aaload => exact ak_xald C hA (Or.inr (Or.inr (Or.inr rfl))) (ak_d1 hd hn (k := 0) rfl) hM hS2 hF1 k2
    | iastore => exact ak_xast C hA (Or.inl rfl) (ak_d1 hd hn (k := 0) rfl) hM hS2 hF1 k3
    | bastore => exact ak_xast C hA (Or.inr (Or.inl rfl)) (ak_d1 hd hn (k := 0) rfl) hM hS2 hF1 k3
    | aastore => exact ak_xast C hA (Or.inr (Or.inr rfl)) (ak_d1 hd hn (k := 0) rfl) hM hS2 hF1 k3
    | new idx => exact ak_xnew C hA (ak_d1 hd hn (k := 2) rfl) hM hS2 hF1 hb1 hb2 fun pc' ad' st' H' locs' z => k4 pc' ad' st' H' locs' 1 z
    | newarray t => exact ak_xnwa C hA (ak_d1 hd hn (k := 1) rfl) hM hS2 hF1 hb1 hb2 fun pc' ad' st' H' locs' z => k4 pc' ad' st' H' locs' 1 z
    | anewarray idx => exact ak_xana C hA (ak_d1 hd hn (k := 2) rfl) hM hS2 hF1 hb1 hb2 fun pc' ad' st' H' locs' z => k4 pc' ad' st' H' locs' 1 z
    | multianewarray idx dim => exact ak_xmna C hA (ak_d1 hd hn (k := 3) rfl) hM hS2 hF1 hb1 hb2 k4
    | checkcast idx => exact ak_xcast C hA (ak_d1 hd hn (k := 2) rfl) hM hS2 hF1 k2
    | invokevirtual idx =>
      obtain ⟨cal, w, ⟨h0, -⟩ | ⟨h0, -⟩ | ⟨-, hL, a, rest, rfl, ⟨q1, q2, q3, q4, q5⟩, h⟩⟩ := ak_invn hS2
      · cases h0
      · cases h0
      · have hM' := (ak_inj h).2
        have hc9 : cells + 1 ≤ R.cells := by
          have : ak_C M' = ak_C M + 1 := by rw [hM']; rfl
          omega
        have hz9 : slots + ak_N M a ≤ R.slots := by
          have : ak_Z M' = ak_Z M + ak_N M a := by rw [hM']; rfl
          omega
        refine ak_xcln CX hA hL (ak_d1 hd hn (k := 2) rfl) hM hF3.1 q1 q2 q3 q4 q5 (ak_o1 hF1) hc9 hz9 (fun ad' H' locs' b1 b2 b3 b4 => ?_)
        rw [← hM'] at b1 b2 b4
        exact k4 _ ad' _ H' locs' 1 (ak_N M a) (by rw [hM'] at h ⊢; exact h) b1 b2 b3 ⟨by rw [hM']; rfl, by rw [hM']; rfl, b4⟩
    | invokestatic idx =>
      obtain ⟨cal, w, ⟨h0, -⟩ | ⟨-, hL, n, dp, a, sp, b, rest, rfl, ⟨q1, q2, q3, q4, q5, q6, q7, q8, q9, q10⟩, h⟩ | ⟨h0, -⟩⟩ := ak_invn hS2
      · cases h0
      · have hM' := (ak_inj h).2
        refine ak_xcpy CX hA hL (ak_d1 hd hn (k := 2) rfl) hM hF3.1 q1 q2 q3 q4 q5 q6 q7 q8 q9 q10 (fun H' locs' b1 => ?_)
        rw [← hM'] at b1
        exact k3 _ _ H' locs' (by rw [hM'] at h ⊢; exact h) (ak_o2 (ak_o3 hF1)) b1 ⟨by rw [hM']; rfl, by rw [hM']; rfl, by rw [hM']; rfl⟩
      · cases h0
    | invokespecial idx =>
      obtain ⟨cal, w, ⟨-, hL, q, rest, rfl, hc, h⟩ | ⟨h0, -⟩ | ⟨h0, -⟩⟩ := ak_invn hS2
      · have hM' := (ak_inj h).2
        subst hM'
        obtain ⟨iL, iA, iB, iC⟩ := w
        obtain ⟨hx, hb, hown, hts, hml, -, -, -, -, -, hfr, hlo, hmi⟩ := CX
        have hs := am_Ls hmi hL
        have hKn := am_Kn1 hmi
        unfold am_kK1 at hs
        simp only [Bool.and_eq_true] at hs
        obtain ⟨-, ⟨g1, g2⟩, g3⟩ := hs
        refine W.objInit hx hb hown (am_okb hts g1) (am_okb hts g2) (am_okb hts g3) rfl (by rw [hml]; exact hF3.1) rfl (ak_d1 hd hn (k := 2) rfl) (by omega) ?_ (k2 _ _ h (ak_o1 hF1))
        show 2 * 0 + (((rest.map (ak_v ad)).map fun v => v.category).sum) + 12 ≤ R.locals
        rw [ak_catm]
        omega
      · cases h0
      · cases h0
    | _ => exact absurd rfl hP
end AKN
