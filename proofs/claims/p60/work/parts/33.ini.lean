/-! both constructors, run by the kernel -/
def ab_kI (M : ak_M) (l : List (Nat × Nat)) : Bool := l.all (fun q => (List.range q.2).all (fun k => decide (ak_I M q.1 k = ab_I q.1 k)))
def ab_kR (M : ak_M) : Bool := (List.range 483).all (fun p => (List.range (ab_Rl.getD p []).length).all (fun k => decide (ak_R M p k = ab_R p k)))
def ab_kK (M : ak_M) : Bool := (List.range 483).all (fun p => decide (ak_K M p = ab_K p) && decide (ak_N M p = ab_N p))
def ab_isv (o : Option (ak_O × ak_M)) : Bool := match o with | some (.inl none, _) => true | _ => false
def ab_mem (o : Option (ak_O × ak_M)) : ak_M := match o with | some (_, M) => M | none => ak_M0
theorem ab_isv_of {o : Option (ak_O × ak_M)} (h : ab_isv o = true) : o = some (.inl none, ab_mem o) := by
  unfold ab_isv at h
  split at h
  · rfl
  · cases h
def ab_M1 : ak_M := ak_new ak_M0 11 0 (am_nf 11)
def ab_r1 : Option (ak_O × ak_M) := ak_go ab_X0 20000 ab_kq (ak_en ab_kq [.ref 0]) ab_M1
def ab_M2 : ak_M := ab_mem ab_r1
def ab_ck1 : Bool := ab_isv ab_r1 && decide (ak_P ab_M2 = 483 ∧ ak_C ab_M2 = 483 ∧ ak_Z ab_M2 ≤ 6500)
set_option maxRecDepth 1000000 in
theorem ab_ck1t : ab_ck1 = true := by decide +kernel
def ab_kKs (M : ak_M) (a n : Nat) : Bool := (List.range' a n).all (fun p => decide (ak_K M p = ab_K p) && decide (ak_N M p = ab_N p))
def ab_kRs (M : ak_M) (a n : Nat) : Bool := (List.range' a n).all (fun p => (List.range (ab_Rl.getD p []).length).all (fun k => decide (ak_R M p k = ab_R p k)))
