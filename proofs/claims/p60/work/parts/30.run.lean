/-! runs without fuel -/
theorem ak_gom {X : ak_X} : ∀ (n mi : Nat) (f : ak_F) (M : ak_M) (r : ak_O × ak_M), ak_go X n mi f M = some r → ak_go X (n + 1) mi f M = some r
  | 0, mi, f, M, r, h => by cases h
  | n + 1, mi, f, M, r, h => by
    unfold ak_go at h ⊢
    cases hS : ak_S X mi f M with
    | none => rw [hS] at h; cases h
    | some a =>
      rw [hS] at h
      rcases a with ⟨f', M'⟩ | r' | ⟨cal, as, g, M1⟩
      · exact ak_gom n mi f' M' r h
      · exact h
      · dsimp only at h ⊢
        cases h1 : ak_go X n cal (ak_en cal as) M1 with
        | none => rw [h1] at h; cases h
        | some q =>
          rw [h1] at h
          rw [ak_gom n cal _ _ _ h1]
          obtain ⟨o, M2⟩ := q
          cases o with
          | inl v => exact ak_gom n mi _ _ r h
          | inr E =>
            dsimp only at h ⊢
            split at h
            · rename_i hth
              rw [if_pos hth]
              split at h
              · rename_i hem
                rw [if_pos hem]
                exact h
              · rename_i hem
                rw [if_neg hem]
                cases ht : ak_h (am_H mi) (g.1 - 3) E with
                | none => rw [ht] at h; cases h
                | some t => rw [ht] at h; exact ak_gom n mi _ _ r h
            · cases h
theorem ak_gol {X : ak_X} {n m mi : Nat} {f : ak_F} {M : ak_M} {r : ak_O × ak_M} (h : ak_go X n mi f M = some r) (hl : n ≤ m) : ak_go X m mi f M = some r := by
  obtain ⟨k, rfl⟩ := Nat.exists_eq_add_of_le hl
  clear hl
  induction k with
  | zero => exact h
  | succ k ih => exact ak_gom _ _ _ _ _ ih
/-- from a frame on the method comes to r -/
def sg (X : ak_X) (mi : Nat) (f : ak_F) (M : ak_M) (r : ak_O × ak_M) : Prop := ∃ n, ak_go X n mi f M = some r
/-- a method comes to r -/
def rn (X : ak_X) (mi : Nat) (as : List Value) (M : ak_M) (r : ak_O × ak_M) : Prop := sg X mi (ak_en mi as) M r
theorem sg_nx {X : ak_X} {mi : Nat} {f f' : ak_F} {M M' : ak_M} {r : ak_O × ak_M} (h : ak_S X mi f M = some (.inl (f', M'))) (k : sg X mi f' M' r) : sg X mi f M r := by
  obtain ⟨n, hn⟩ := k
  refine ⟨n + 1, ?_⟩
  unfold ak_go
  rw [h]
  exact hn
theorem sg_rt {X : ak_X} {mi : Nat} {f : ak_F} {M : ak_M} {r : ak_O × ak_M} (h : ak_S X mi f M = some (.inr (.inl r))) : sg X mi f M r := by
  refine ⟨1, ?_⟩
  unfold ak_go
  rw [h]
theorem sg_cl {X : ak_X} {mi cal : Nat} {f : ak_F} {as : List Value} {g : ak_F} {M M1 M2 : ak_M} {v : Option Value} {r : ak_O × ak_M} (h : ak_S X mi f M = some (.inr (.inr (cal, as, g, M1)))) (h1 : rn X cal as M1 (.inl v, M2)) (k : sg X mi (g.1, g.2.1, g.2.2.1, v.toList ++ g.2.2.2) M2 r) : sg X mi f M r := by
  obtain ⟨n, hn⟩ := h1
  obtain ⟨m, hm⟩ := k
  refine ⟨max n m + 1, ?_⟩
  unfold ak_go
  rw [h]
  dsimp only
  rw [ak_gol hn (Nat.le_max_left n m)]
  exact ak_gol hm (Nat.le_max_right n m)
theorem sg_th {X : ak_X} {mi cal E : Nat} {f : ak_F} {as : List Value} {g : ak_F} {M M1 M2 : ak_M} (h : ak_S X mi f M = some (.inr (.inr (cal, as, g, M1)))) (ht : am_th.contains cal = true) (hH : (am_H mi).isEmpty = true) (h1 : rn X cal as M1 (.inr E, M2)) : sg X mi f M (.inr E, M2) := by
  obtain ⟨n, hn⟩ := h1
  refine ⟨n + 1, ?_⟩
  unfold ak_go
  rw [h]
  dsimp only
  rw [hn]
  dsimp only
  rw [if_pos ht, if_pos hH]
theorem sg_ct {X : ak_X} {mi cal E t : Nat} {f : ak_F} {as : List Value} {g : ak_F} {M M1 M2 : ak_M} {r : ak_O × ak_M} (h : ak_S X mi f M = some (.inr (.inr (cal, as, g, M1)))) (ht : am_th.contains cal = true) (hH : (am_H mi).isEmpty = false) (hh : ak_h (am_H mi) (g.1 - 3) E = some t) (h1 : rn X cal as M1 (.inr E, M2))
    (k : sg X mi (t, g.2.1, g.2.2.1, [.ref (3000000 + ak_C M2)]) (ak_use M2 1 0) r) : sg X mi f M r := by
  obtain ⟨n, hn⟩ := h1
  obtain ⟨m, hm⟩ := k
  refine ⟨max n m + 1, ?_⟩
  unfold ak_go
  rw [h]
  dsimp only
  rw [ak_gol hn (Nat.le_max_left n m)]
  dsimp only
  rw [if_pos ht, if_neg (by rw [hH]; decide), hh]
  exact ak_gol hm (Nat.le_max_right n m)
/-- one step where the code is known -/
theorem ak_SA {X : ak_X} {mi pc : Nat} {ins : Instr} {l1 : List (Option Value)} {l2 : List (Nat × Value)} {st : List Value} {M : ak_M} (h : am_A mi pc = some ins) : ak_S X mi (pc, l1, l2, st) M = ak_x X mi ins pc l1 l2 st M := by
  unfold ak_S
  dsimp only
  rw [h]
