/-! a kite printed -/
def pk1 (l : List Int32) (a : Int32) : List Int32 := l ++ [by8 a]
def pk2 (l : List Int32) (v : Int32) : List Int32 := l ++ dgs (kN v)
def pkt (σ : Nat → Int32) (w : Nat) (k : Nat) : List Int32 :=
  pk1 (pk2 (pk1 (pk2 (pk1 (pk2 (pk1 ([] ++ (lts 5 w).map by8) 32) (kf σ k 1)) 44) (kf σ k 2)) 44) (kf σ k 3)) 32 ++ stt (kf σ k 0)
theorem pk1_l (l : List Int32) (a : Int32) : (pk1 l a).length = l.length + 1 := by unfold pk1; rw [List.length_append, List.length_singleton]
theorem pk2_l (l : List Int32) (v : Int32) : (pk2 l v).length ≤ l.length + 4 := by unfold pk2; rw [List.length_append]; have := dgs_le (kN v); omega
section SPK
variable {X : ak_X} {M M' M1 : ak_M} {l : List Int32} {k nk nw ne fe : Nat} {σ : Nat → Int32}
theorem p300 {v : Int32} (h : in32 v 0 300 = true) : ∃ m, m ≤ 300 ∧ v = nI m := (in_n (a := 300) (by decide)).mp h
theorem p199 {v : Int32} (h : in32 v 0 199 = true) : ∃ m, m ≤ 199 ∧ v = nI m := (in_n (a := 199) (by decide)).mp h
theorem kp_n (hp : kp σ k) : (∃ m, m ≤ 300 ∧ kf σ k 1 = nI m) ∧ (∃ m, m ≤ 300 ∧ kf σ k 2 = nI m) ∧ ∃ m, m ≤ 300 ∧ kf σ k 3 = nI m := by
  obtain ⟨a, ha, ea⟩ := p199 hp.1
  obtain ⟨b, hb, eb⟩ := p199 hp.2.1
  exact ⟨⟨a, by omega, ea⟩, ⟨b, by omega, eb⟩, p300 hp.2.2.1⟩
/-- the class: a byte, a number -/
theorem oc_b (f : fr cO M M1) (h : Oc1 l M1) (hl : l.length < 600) (a : Int32) : ∃ M2, ab_lay M2 ∧ rn X 54 [.ref 3, .int a] M1 (.inl none, M2) ∧ fr cO M M2 ∧ Oc1 (pk1 l a) M2 := by
  obtain ⟨M2, r, g, o⟩ := sk_54 (X := X) f.1 h (by omega) a
  exact ⟨M2, g.1, r, f.tr g, o⟩
theorem oc_n (f : fr cO M M1) (h : Oc1 l M1) (hl : l.length < 600) {v : Int32} (hv : ∃ m, m ≤ 300 ∧ v = nI m) : ∃ M2, ab_lay M2 ∧ rn X 59 [.ref 3, .int v] M1 (.inl none, M2) ∧ fr cO M M2 ∧ Oc1 (pk2 l v) M2 := by
  obtain ⟨m, hm, rfl⟩ := hv
  obtain ⟨M2, r, g, o⟩ := sk_59 (X := X) f.1 h (by omega) (n := m) (by omega)
  refine ⟨M2, g.1, r, f.tr g, ?_⟩
  unfold pk2
  rw [kN_n (by omega)]
  exact o
theorem om_b (f : fr mo_ou M M1) (h : Om1 l M1) (hl : l.length < 600) (a : Int32) : ∃ M2, ab_lay M2 ∧ rn X 294 [.ref 483, .int a] M1 (.inl none, M2) ∧ fr mo_ou M M2 ∧ Om1 (pk1 l a) M2 := by
  obtain ⟨M2, r, g, o⟩ := sm_294 (X := X) f.1 h (by omega) a
  exact ⟨M2, g.1, r, f.tr g, o⟩
theorem om_n (f : fr mo_ou M M1) (h : Om1 l M1) (hl : l.length < 600) {v : Int32} (hv : ∃ m, m ≤ 300 ∧ v = nI m) : ∃ M2, ab_lay M2 ∧ rn X 299 [.ref 483, .int v] M1 (.inl none, M2) ∧ fr mo_ou M M2 ∧ Om1 (pk2 l v) M2 := by
  obtain ⟨m, hm, rfl⟩ := hv
  obtain ⟨M2, r, g, o⟩ := sm_299 (X := X) M1 l m f.1 h (by omega) (by omega)
  refine ⟨M2, g.1, r, f.tr g, ?_⟩
  unfold pk2
  rw [kN_n (by omega)]
  exact o
theorem cp_138 (hL : ab_lay M) (hR : Rb 65 σ nk nw ne fe M) (hv : vs σ nk nw ne) {ν : Nat → Nat} (hN : Nc ν nk M) (hk : k < nk) : ∃ M', rn X 138 [.ref 0, .int (nI k)] M (.inl (some (.int (nI (pkt σ (ν k) k).length))), M') ∧ fr cO M M' ∧ Oc1 (pkt σ (ν k) k) M' := by
  have h10 := hv.1.1
  have c0 := ck_144 (X := X) hL hR.2.1.1 (x := nI k)
  have hK : mo_isK σ (nI k) = true := (isK_of hv.1).mpr ⟨k, hk, rfl⟩
  obtain ⟨v1, v2, v3⟩ := kp_n (hv.kp hk)
  have rd : ∀ {N : ak_M} {w : Nat}, fr cO M N → w < 14 → ak_I N (65 + 6 + k) w = kf σ k w := fun f hw => by
    rw [f.row (p := 65 + 6 + k) fun q e => by unfold cO at e; omega]
    exact hR.kk hk hw
  obtain ⟨f3, o3⟩ := Oc1_0 hL
  generalize g3 : ak_sI M 3 1 0 = M3 at f3 o3
  have hN3 : Nc ν nk M3 := ⟨hN.1, by rw [f3.row (p := 52) fun q e => by unfold cO at e; omega]; exact hN.2.1, fun q hq => by
    rw [f3.row (p := 64) fun q e => by unfold cO at e; omega]
    exact ⟨(hN.2.2 q hq).1, (hN.2.2 q hq).2.1, fun j hj => by rw [f3.row (p := 54 + q) fun u e => by unfold cO at e; omega]; exact (hN.2.2 q hq).2.2 j hj⟩⟩
  obtain ⟨M4, r4, g4, o4⟩ := sk_58 (X := X) f3.1 o3 hN3 hk (by decide)
  have f4 := f3.tr g4
  have L4 : ([] ++ (lts 5 (ν k)).map by8 : List Int32).length ≤ 6 := by rw [List.nil_append, List.length_map]; exact lts_l 5 (ν k)
  unfold pkt
  generalize ([] ++ (lts 5 (ν k)).map by8 : List Int32) = w4 at *
  obtain ⟨M5, l5, r5, f5, o5⟩ := oc_b (X := X) f4 o4 (by omega) 32
  have L5 := pk1_l w4 32
  generalize pk1 w4 32 = w5 at *
  obtain ⟨M6, l6, r6, f6, o6⟩ := oc_n (X := X) f5 o5 (by omega) v1
  have L6 := pk2_l w5 (kf σ k 1)
  generalize pk2 w5 (kf σ k 1) = w6 at *
  obtain ⟨M7, l7, r7, f7, o7⟩ := oc_b (X := X) f6 o6 (by omega) 44
  have L7 := pk1_l w6 44
  generalize pk1 w6 44 = w7 at *
  obtain ⟨M8, l8, r8, f8, o8⟩ := oc_n (X := X) f7 o7 (by omega) v2
  have L8 := pk2_l w7 (kf σ k 2)
  generalize pk2 w7 (kf σ k 2) = w8 at *
  obtain ⟨M9, l9, r9, f9, o9⟩ := oc_b (X := X) f8 o8 (by omega) 44
  have L9 := pk1_l w8 44
  generalize pk1 w8 44 = w9 at *
  obtain ⟨M10, l10, r10, f10, o10⟩ := oc_n (X := X) f9 o9 (by omega) v3
  have L10 := pk2_l w9 (kf σ k 3)
  generalize pk2 w9 (kf σ k 3) = w10 at *
  obtain ⟨M11, l11, r11, f11, o11⟩ := oc_b (X := X) f10 o10 (by omega) 32
  have L11 := pk1_l w10 32
  generalize pk1 w10 32 = w11 at *
  have hst := stt_l (kf σ k 0)
  obtain ⟨M14, r14, g14, o14⟩ := sk_57 (X := X) f11.1 o11 (stw_l (kf σ k 0)) (by unfold stt at hst; rw [txt_l] at hst; omega)
  have f14 := f11.tr g14
  refine ⟨M14, t_138 hL _ (Or.inl ⟨M, hL, c0.1 hK, k, by omega, mb_ix (by omega) (by decide), fun N e => ?_⟩), f14, o14⟩
  obtain rfl := e.trans g3
  refine ⟨M4, f4.1, r4, M5, l5, r5, M6, l6, by rw [rd f5 (by decide)]; exact r6, M7, l7, r7, M8, l8, by rw [rd f7 (by decide)]; exact r8, M9, l9, r9, M10, l10, by rw [rd f9 (by decide)]; exact r10, M11, l11, r11, stw (kf σ k 0), M11, stw_l _, l11, by rw [rd f11 (by decide)]; exact sk_149 l11 _, M14, f14.1, r14, ?_⟩
  rw [o14.2.1]
  rfl
end SPK
