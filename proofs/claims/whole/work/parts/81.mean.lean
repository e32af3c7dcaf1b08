/-! the mean height, and what is left of a line -/
theorem fl_ok (v : Int32) {t : Int32} (h : t ≠ 0) : (FP.fdiv (FP.i2f v) (FP.i2f t)) &&& 0x7fffffff ≤ 0x7f800000 := by
  have e : Jvm.FP.Core.fIsNaN (FP.fdiv (FP.i2f v) (FP.i2f t)) = false := Jvm.FP.Core.fdiv_out (Jvm.FP.Core.i2f_fin v).notNaN (Jvm.FP.Core.i2f_fin t) (by
    have := Jvm.FP.Core.i2f_ne_zero h
    rw [Jvm.FP.Core.zero_bits232]
    exact this)
  generalize FP.fdiv (FP.i2f v) (FP.i2f t) = a at *
  have h1 := Jvm.FP.Core.isNaN_bits32 a
  rw [e] at h1
  rw [UInt32.le_iff_toNat_le, Jvm.FP.Core.mask_toNat32]
  refine Nat.le_of_not_lt fun c => ?_
  have := h1.mpr c
  cases this
theorem db_ok (v : Int32) {t : Int32} (h : t ≠ 0) : (FP.ddiv (FP.i2d v) (FP.i2d t)) &&& 0x7fffffffffffffff ≤ 0x7ff0000000000000 := by
  have e : Jvm.FP.Core.dIsNaN (FP.ddiv (FP.i2d v) (FP.i2d t)) = false := Jvm.FP.Core.ddiv_out (Jvm.FP.Core.i2d_fin v).notNaN (Jvm.FP.Core.i2d_fin t) (by
    have := Jvm.FP.Core.i2d_ne_zero h
    rw [Jvm.FP.Core.zero_bits2]
    exact this)
  generalize FP.ddiv (FP.i2d v) (FP.i2d t) = a at *
  have h1 := Jvm.FP.Core.isNaN_bits a
  rw [e] at h1
  rw [UInt64.le_iff_toNat_le, Jvm.FP.Core.mask_toNat]
  refine Nat.le_of_not_lt fun c => ?_
  have := h1.mpr c
  cases this
def mo_hsm (σ : Nat → Int32) : Nat → Int32
  | 0 => 0
  | n + 1 => if kf σ n 0 = 0 then mo_hsm σ n + kf σ n 3 else mo_hsm σ n
theorem mo_hsm_s (σ : Nat → Int32) (n : Nat) : mo_hsm σ (n + 1) = if kf σ n 0 = 0 then mo_hsm σ n + kf σ n 3 else mo_hsm σ n := rfl
def sp_117 (σ : Nat → Int32) (n : Nat) : UInt64 := if mo_ins σ 0 n = 0 then FP.dconst0 else FP.ddiv (FP.i2d (mo_hsm σ n)) (FP.i2d (mo_ins σ 0 n))
def mo_lft (σ : Nat → Int32) (k : Nat) : UInt32 := FP.fdiv (FP.i2f (mx32 0 (kf σ k 9 - kf σ k 10))) (FP.i2f (kf σ k 9))
section SMN
variable {X : ak_X} {M : ak_M} {k nk nw ne fe : Nat} {σ : Nat → Int32}
theorem cd_117 (hL : ab_lay M) (hR : Rb 65 σ nk nw ne fe M) (hv : vs σ nk nw ne) : rn X 117 [.ref 0] M (.inl (some (.double (sp_117 σ nk))), M) := by
  have hc := hv.1
  have h10 := hc.1
  have e5 : ak_I M 65 5 = σ 1 := hR.2.1.1
  refine t_117 hL ?_
  refine mb_up (P := fun i => sg X 117 (6, [some (.ref 0), some (.int (mo_ins σ 0 i)), some (.int (mo_hsm σ i)), some (.int (nI i))], [], []) M (.inl (some (.double (sp_117 σ nk))), M)) (n := nk) ?_ ?_ 0 (Nat.zero_le _)
  · refine t_117_6 hL _ _ _ (mb_y (by rw [e5]; exact ct_ge hc) ?_)
    by_cases h : mo_ins σ 0 nk = 0
    · have e : sp_117 σ nk = FP.dconst0 := if_pos h
      rw [e]
      exact mb_y h rfl
    · have e : sp_117 σ nk = FP.ddiv (FP.i2d (mo_hsm σ nk)) (FP.i2d (mo_ins σ 0 nk)) := if_neg h
      rw [e]
      exact mb_n h ⟨db_ok _ h, rfl⟩
  · intro i hi ih
    have hi10 : i < 10 := by omega
    have ix : ab_ix (nI i) i 10 := mb_ix hi10 (by decide)
    refine t_117_6 hL _ _ _ (mb_n (by rw [e5]; exact ct_lt hc hi) ⟨i, hi10, ix, ?_⟩)
    rw [hR.kk hi (by decide), mi_s]
    rw [mo_ins_s, mo_hsm_s] at ih
    by_cases h : kf σ i 0 = 0
    · rw [if_pos h, if_pos h] at ih
      refine mb_y h ⟨i, hi10, ix, fun z e => ?_⟩
      rw [hR.kk hi (by decide)] at e
      rw [e]
      exact ih
    · rw [if_neg h, if_neg h] at ih
      exact mb_n h ih
theorem cm_243 (hL : ab_lay M) (hv : vs (ro M) nk nw ne) : rn X 243 [.ref 483] M (.inl (some (.double (sp_117 (ro M) nk))), to M 0) := by
  have hc := hv.1
  have h10 := hc.1
  have l1 := to_L hL 0
  have er : ro (to M 0) = ro M := to_r 0
  refine t_243 hL fun N e => ?_
  subst e
  have s8 := sm_168 (X := X) l1
  have s14 := sm_214 (X := X) l1 (nk := nk) (nw := nw) (ne := ne) (by rw [er]; exact hc) (s := 0)
  rw [er] at s8 s14
  refine mb_up (P := fun i => sg X 243 (9, [some (.ref 483), some (.int (mo_hsm (ro M) i)), some (.int (nI i))], [], []) (to M 0) (.inl (some (.double (sp_117 (ro M) nk))), to M 0)) (n := nk) ?_ ?_ 0 (Nat.zero_le _)
  · refine t_243_9 l1 _ _ ⟨_, _, l1, s8, mb_y (ct_ge hc) ⟨_, _, l1, s14, ?_⟩⟩
    by_cases h : mo_ins (ro M) 0 nk = 0
    · have e : sp_117 (ro M) nk = FP.dconst0 := if_pos h
      rw [e]
      exact mb_y h rfl
    · have e : sp_117 (ro M) nk = FP.ddiv (FP.i2d (mo_hsm (ro M) nk)) (FP.i2d (mo_ins (ro M) 0 nk)) := if_neg h
      rw [e]
      exact mb_n h ⟨_, _, l1, s14, db_ok _ h, rfl⟩
  · intro i hi ih
    have hi10 : i < 10 := by omega
    have sf := sm_175 (X := X) l1 hi10
    have s3 := sm_171 (X := X) (w := 3) l1 hi10 (by decide)
    rw [er] at sf s3
    refine t_243_9 l1 _ _ ⟨_, _, l1, s8, mb_n (ct_lt hc hi) ⟨_, _, l1, sf, ?_⟩⟩
    rw [mi_s]
    rw [mo_hsm_s] at ih
    cases h : mo_fly (ro M) i
    · rw [if_neg (fun e => by rw [fly_0.mpr e] at h; cases h)] at ih
      exact mb_y rfl ih
    · rw [if_pos (fly_0.mp h)] at ih
      exact mb_n (by decide) ⟨_, _, l1, s3, ih⟩
theorem tg_0 (hv : vs σ nk nw ne) (hk : k < nk) : kf σ k 9 ≠ 0 := by
  have := in32_t.mp (show in32 (kf σ k 9) 1 99 = true from hv.2.2.1 k hk 9 (by decide))
  rw [show (1 : Int32).toInt = 1 from rfl] at this
  intro e
  rw [e, show (0 : Int32).toInt = 0 from rfl] at this
  omega
theorem cd_118 (hL : ab_lay M) (hR : Rb 65 σ nk nw ne fe M) (hv : vs σ nk nw ne) (x : Int32) : if mo_isK σ x = true then rn X 118 [.ref 0, .int x] M (.inl (some (.float (mo_lft σ (kN x)))), M) else rn X 118 [.ref 0, .int x] M (.inr 0, ak_use M 1 6) := by
  have h10 := hv.1.1
  have c0 := ck_144 (X := X) hL hR.2.1.1 (x := x)
  by_cases h0 : mo_isK σ x = true
  · rw [if_pos h0]
    obtain ⟨k, hk, rfl⟩ := (isK_of hv.1).mp h0
    rw [kN_n (by omega)]
    have e9 : ak_I M (65 + 6 + k) 9 = kf σ k 9 := hR.kk hk (by decide)
    refine t_118 hL _ (Or.inl ⟨M, hL, c0.1 h0, k, by omega, mb_ix (by omega) (by decide), mb_n (by rw [e9]; exact tg_0 hv hk) ⟨_, M, hL, jm_max hL, ?_⟩⟩)
    rw [e9, hR.kk hk (by decide)]
    exact ⟨fl_ok _ (tg_0 hv hk), rfl⟩
  · rw [if_neg h0]
    exact t_118 hL _ (Or.inr ⟨0, _, c0.2 (bf h0), rfl⟩)
theorem cm_244 (hL : ab_lay M) (hv : vs (ro M) nk nw ne) (x : Int32) : if mo_isK (ro M) x = true then rn X 244 [.ref 483, .int x] M (.inl (some (.float (mo_lft (ro M) (kN x)))), to M 0) else rn X 244 [.ref 483, .int x] M (.inl (some (.float FP.fconst0)), to M 1) := by
  have h10 := hv.1.1
  have l1 := to_L hL 0
  have er : ro (to M 0) = ro M := to_r 0
  by_cases h0 : mo_isK (ro M) x = true
  · rw [if_pos h0]
    obtain ⟨k, hk, rfl⟩ := (isK_of hv.1).mp h0
    have hk10 : k < 10 := by omega
    rw [kN_n (by omega)]
    have s9 := sm_171 (X := X) (w := 9) l1 hk10 (by decide)
    have s10 := sm_171 (X := X) (w := 10) l1 hk10 (by decide)
    rw [er] at s9 s10
    exact t_244 hL _ ⟨_, M, hL, sm_169 hL, _, _, l1, sm_155y hL h0, mb_n (by1 h0) ⟨_, _, l1, s9, _, _, l1, s10, _, _, l1, jm_max l1, _, _, l1, s9, fl_ok _ (tg_0 hv hk), rfl⟩⟩
  · rw [if_neg h0]
    exact t_244 hL _ ⟨_, M, hL, sm_169 hL, _, _, to_L hL 1, sm_155n hL h0, mb_y (bn1 h0) rfl⟩
end SMN
