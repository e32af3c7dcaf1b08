/-- a run with its log, the latest first -/
def al_go (X : ak_X) : Nat → Nat → ak_F → ak_M → List al_o → Option (Option Value × ak_M × List al_o)
  | 0, _, _, _, _ => none
  | n + 1, mi, f, M, L => match am_A mi f.1 with
    | none => none
    | some ins => match al_op mi ins f.2.2.2 with
      | none => none
      | some o => match ak_S X mi f M with
        | none => none
        | some (.inl (f', M')) => al_go X n mi f' M' (al_cons o L)
        | some (.inr (.inl (.inl v, M'))) => some (v, M', L)
        | some (.inr (.inl (.inr _, _))) => none
        | some (.inr (.inr (cal, as, g, M1))) => match al_go X n cal (ak_en cal as) M1 L with
          | none => none
          | some (v, M2, L2) => al_go X n mi (g.1, g.2.1, g.2.2.1, v.toList ++ g.2.2.2) M2 L2
theorem al_ret {X : ak_X} {mi : Nat} {f : ak_F} {M M' : ak_M} {v : Option Value} (h : ak_S X mi f M = some (.inr (.inl (.inl v, M')))) : M' = M := by
  obtain ⟨pc, l1, l2, st⟩ := f
  obtain ⟨ins, -, hS⟩ := ak_Sx h
  rcases ak_kinds hS with hk | ⟨hk, -⟩
  · exfalso
    cases ins <;> first | (cases hk; done) | exact absurd hS ak_incl
  · cases ins with
    | ireturn =>
      simp only [ak_x, ak_e] at hS
      repeat' (split at hS)
      all_goals first | (cases hS; done) | (cases hS; rfl)
    | areturn =>
      simp only [ak_x, ak_e] at hS
      repeat' (split at hS)
      all_goals first | (cases hS; done) | (cases hS; rfl)
    | freturn =>
      simp only [ak_x, ak_e] at hS
      repeat' (split at hS)
      all_goals first | (cases hS; done) | (cases hS; rfl)
    | dreturn =>
      simp only [ak_x, ak_e] at hS
      repeat' (split at hS)
      all_goals first | (cases hS; done) | (cases hS; rfl)
    | return_ =>
      simp only [ak_x, ak_e] at hS
      repeat' (split at hS)
      all_goals first | (cases hS; done) | (cases hS; rfl)
    | new _ =>
      simp only [ak_x, ak_e] at hS
      repeat' (split at hS)
      all_goals first | (cases hS; done) | exact absurd hS ak_nne
    | _ => cases hk
theorem al_cal {X : ak_X} {mi cal : Nat} {f g : ak_F} {as : List Value} {M M1 : ak_M} (h : ak_S X mi f M = some (.inr (.inr (cal, as, g, M1)))) : M1 = M := by
  obtain ⟨pc, l1, l2, st⟩ := f
  obtain ⟨rest, h1, -, -⟩ := ak_callinv h
  exact h1
theorem al_is {X : ak_X} {Mi : ak_M} : ∀ (n mi : Nat) (f : ak_F) (M : ak_M) (L : List al_o) (v : Option Value) (M' : ak_M) (L' : List al_o), al_go X n mi f M L = some (v, M', L') → M = al_all L Mi → M' = al_all L' Mi ∧ ak_go X n mi f M = some (.inl v, M')
  | 0, mi, f, M, L, v, M', L', h, _ => by cases h
  | n + 1, mi, f, M, L, v, M', L', h, hM => by
    unfold al_go at h
    cases hA : am_A mi f.1 with
    | none => rw [hA] at h; cases h
    | some ins =>
      rw [hA] at h
      dsimp only at h
      cases ho : al_op mi ins f.2.2.2 with
      | none => rw [ho] at h; cases h
      | some o =>
        rw [ho] at h
        dsimp only at h
        unfold ak_go
        cases hS : ak_S X mi f M with
        | none => rw [hS] at h; cases h
        | some a =>
          rw [hS] at h
          rcases a with ⟨f1, M1⟩ | ⟨r, M1⟩ | ⟨cal, as, g, M1⟩
          · have e : M1 = al_put o M := by
              obtain ⟨pc, l1, l2, st⟩ := f
              rw [ak_SA hA] at hS
              exact al_st ho hS
            exact al_is n mi f1 M1 _ v M' L' h (by rw [al_all_cons, ← hM]; exact e)
          · cases r with
            | inl w =>
              have e := al_ret hS
              cases h
              exact ⟨e.trans hM, rfl⟩
            | inr E => cases h
          · have e := al_cal hS
            dsimp only at h ⊢
            cases h1 : al_go X n cal (ak_en cal as) M1 L with
            | none => rw [h1] at h; cases h
            | some q =>
              obtain ⟨v1, M2, L2⟩ := q
              rw [h1] at h
              obtain ⟨g1, g2⟩ := al_is n cal _ M1 L v1 M2 L2 h1 (e.trans hM)
              rw [g2]
              exact al_is n mi _ M2 L2 v M' L' h g1
