/-- the ints that are told of the start: place, slots -/
def ab_kI (M : ak_M) (l : List (Nat × Nat)) : Bool := l.all (fun q => (List.range q.2).all (fun k => decide (ak_I M q.1 k = ab_I q.1 k)))
def ab_kR (M : ak_M) (a b : Nat) : Bool := (List.range' a (b - a)).all (fun p => (List.range (ab_Rl.getD p []).length).all (fun k => decide (ak_R M p k = ab_R p k)))
def ab_kK (M : ak_M) (a b : Nat) : Bool := (List.range' a (b - a)).all (fun p => decide (ak_K M p = ab_K p) && decide (ak_N M p = ab_N p))
def ab_M1 : ak_M := ak_new ak_M0 11 0 (am_nf 11)
set_option maxRecDepth 1000000 in
theorem ab_t1 : (match ak_go ab_X0 20000 ab_kq (ak_en ab_kq [.ref 0]) ab_M1 with | some (.inl none, M) => decide (ak_P M = 483) && decide (ak_C M = 483) && decide (ak_Z M = 5619) | _ => false) = true := by decide +kernel
