/-! a kite printed: the model -/
def mo_pk (p k : Nat) : Prop := mo_q1 p k ∨ mo_ou p k
section SPL
variable {X : ak_X} {M : ak_M} {k nk nw ne : Nat}
theorem mp_309 (hL : ab_lay M) (hv : vs (ro M) nk nw ne) {ν : Nat → Nat} (hn : ν k < 387420489 ∧ kf (ro M) k 14 = nI (ν k)) (hk : k < nk) : ∃ M', rn X 309 [.ref 483, .int (nI k)] M (.inl (some (.int (nI (pkt (ro M) (ν k) k).length))), M') ∧ fr mo_pk M M' ∧ ak_I M' 483 0 = 0 ∧ Om1 (pkt (ro M) (ν k) k) M' := by
  have h10 := hv.1.1
  have hk10 : k < 10 := by omega
  have l1 := to_L hL 0
  have hK : mo_isK (ro M) (nI k) = true := (isK_of hv.1).mpr ⟨k, hk, rfl⟩
  obtain ⟨v1, v2, v3⟩ := kp_n (hv.kp hk)
  obtain ⟨f3, o3⟩ := Om1_0 l1
  generalize g3 : ak_sI (to M 0) 483 28 0 = M3 at f3 o3
  have rd : ∀ {N : ak_M} {w : Nat}, fr mo_ou (to M 0) N → w < 15 → rn X 171 [.ref 483, .int (nI k), .int (nI w)] N (.inl (some (.int (kf (ro M) k w))), N) := fun {N w} f hw => by
    have s := sm_171 (X := X) f.1 hk10 hw
    rw [show ro N = ro (to M 0) from f.row fun q e => by unfold mo_ou at e; omega, to_r] at s
    exact s
  have s14 := rd f3 (w := 14) (by decide)
  rw [hn.2] at s14
  obtain ⟨M4, r4, g4, o4⟩ := sm_306 (X := X) f3.1 o3 (by decide) hn.1
  have f4 := f3.tr g4
  have L4 : ([] ++ (lts 5 (ν k)).map by8 : List Int32).length ≤ 6 := by rw [List.nil_append, List.length_map]; exact lts_l 5 (ν k)
  unfold pkt
  generalize ([] ++ (lts 5 (ν k)).map by8 : List Int32) = w4 at *
  obtain ⟨M5, l5, r5, f5, o5⟩ := om_b (X := X) f4 o4 (by omega) 32
  have L5 := pk1_l w4 32
  generalize pk1 w4 32 = w5 at *
  obtain ⟨M6, l6, r6, f6, o6⟩ := om_n (X := X) f5 o5 (by omega) v1
  have L6 := pk2_l w5 (kf (ro M) k 1)
  generalize pk2 w5 (kf (ro M) k 1) = w6 at *
  obtain ⟨M7, l7, r7, f7, o7⟩ := om_b (X := X) f6 o6 (by omega) 44
  have L7 := pk1_l w6 44
  generalize pk1 w6 44 = w7 at *
  obtain ⟨M8, l8, r8, f8, o8⟩ := om_n (X := X) f7 o7 (by omega) v2
  have L8 := pk2_l w7 (kf (ro M) k 2)
  generalize pk2 w7 (kf (ro M) k 2) = w8 at *
  obtain ⟨M9, l9, r9, f9, o9⟩ := om_b (X := X) f8 o8 (by omega) 44
  have L9 := pk1_l w8 44
  generalize pk1 w8 44 = w9 at *
  obtain ⟨M10, l10, r10, f10, o10⟩ := om_n (X := X) f9 o9 (by omega) v3
  have L10 := pk2_l w9 (kf (ro M) k 3)
  generalize pk2 w9 (kf (ro M) k 3) = w10 at *
  obtain ⟨M11, l11, r11, f11, o11⟩ := om_b (X := X) f10 o10 (by omega) 32
  have L11 := pk1_l w10 32
  generalize pk1 w10 32 = w11 at *
  obtain ⟨M14, r14, g14, o14⟩ := sm_308 (X := X) f11.1 o11 (by omega) (kf (ro M) k 0)
  have f14 := f11.tr g14
  refine ⟨M14, t_309 hL _ ⟨_, M, hL, sm_169 hL, _, _, l1, sm_155y hL hK, mb_n (by1 hK) fun N e => ?_⟩, ((to_f hL 0).mo fun _ _ h => Or.inl h).tr (f14.mo fun _ _ h => Or.inr h), ?_, o14⟩
  · obtain rfl := e.trans g3
    refine ⟨_, N, f3.1, s14, M4, f4.1, r4, M5, l5, r5, _, M5, l5, rd f5 (w := 1) (by decide), M6, l6, r6, M7, l7, r7, _, M7, l7, rd f7 (w := 2) (by decide), M8, l8, r8, M9, l9, r9, _, M9, l9, rd f9 (w := 3) (by decide), M10, l10, r10, M11, l11, r11, _, M11, l11, rd f11 (w := 0) (by decide), M14, f14.1, r14, ?_⟩
    rw [o14.2.1]
  · rw [f14.2.1 483 0 fun e => by unfold mo_ou at e; omega]
    exact to_0 _
end SPL
