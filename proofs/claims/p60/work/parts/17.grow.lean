/-! one step: what grows, what stays -/
def ak_le (M M' : ak_M) : Prop := ak_C M ≤ ak_C M' ∧ ak_Z M ≤ ak_Z M' ∧ ak_P M ≤ ak_P M'
theorem ak_le.rf {M : ak_M} : ak_le M M := ⟨Nat.le_refl _, Nat.le_refl _, Nat.le_refl _⟩
theorem ak_le.tr {A B C : ak_M} (h : ak_le A B) (g : ak_le B C) : ak_le A C := ⟨Nat.le_trans h.1 g.1, Nat.le_trans h.2.1 g.2.1, Nat.le_trans h.2.2 g.2.2⟩
def ak_le2 (M : ak_M) (a : Option ak_Act) : Prop := ∀ f' M', a = some (.inl (f', M')) → ak_le M M'
theorem ak_le2.n {pc : Nat} {l1 : List (Option Value)} {l2 : List (Nat × Value)} {st : List Value} {M M1 : ak_M} (h : ak_le M M1) : ak_le2 M (ak_n pc l1 l2 st M1) := by
  intro f' M' h1
  obtain ⟨-, rfl⟩ := ak_inj h1
  exact h
theorem ak_le2.no {M : ak_M} : ak_le2 M none := fun f' M' h => by cases h
theorem ak_le2.j {pc : Nat} {off : Int} {l1 : List (Option Value)} {l2 : List (Nat × Value)} {st : List Value} {M : ak_M} : ak_le2 M (ak_j pc off l1 l2 st M) := by
  unfold ak_j; split
  · exact ak_le2.n ak_le.rf
  · exact ak_le2.no
theorem ak_le2.s1 {i pc : Nat} {v : Value} {l1 : List (Option Value)} {l2 : List (Nat × Value)} {st : List Value} {M : ak_M} : ak_le2 M (ak_s1 i v pc l1 l2 st M) := by
  unfold ak_s1; split
  · exact ak_le2.n ak_le.rf
  · exact ak_le2.no
theorem ak_le2.s2 {i pc : Nat} {v : Value} {l1 : List (Option Value)} {l2 : List (Nat × Value)} {st : List Value} {M : ak_M} : ak_le2 M (ak_s2 i v pc l1 l2 st M) := by
  unfold ak_s2; split
  · exact ak_le2.n ak_le.rf
  · exact ak_le2.no
theorem ak_le2.ld {i n pc : Nat} {ok : Value → Bool} {l1 : List (Option Value)} {l2 : List (Nat × Value)} {st : List Value} {M : ak_M} : ak_le2 M (ak_ld i n pc ok l1 l2 st M) := by
  unfold ak_ld; split
  · split
    · exact ak_le2.n ak_le.rf
    · exact ak_le2.no
  · exact ak_le2.no
theorem ak_le2.ld2 {i n pc : Nat} {ok : Value → Bool} {l1 : List (Option Value)} {l2 : List (Nat × Value)} {st : List Value} {M : ak_M} : ak_le2 M (ak_ld2 i n pc ok l1 l2 st M) := by
  unfold ak_ld2; split
  · split
    · exact ak_le2.n ak_le.rf
    · exact ak_le2.no
  · exact ak_le2.no
theorem ak_le2.inv {X : ak_X} {mi idx vt pc : Nat} {l1 : List (Option Value)} {l2 : List (Nat × Value)} {st : List Value} {M : ak_M} : ak_le2 M (ak_inv X mi idx vt pc l1 l2 st M) := by
  unfold ak_inv ak_call
  repeat' split
  all_goals first | exact ak_le2.no | exact ak_le2.n ak_le.rf | exact ak_le2.n ⟨Nat.le_refl _, Nat.le_refl _, Nat.le_refl _⟩ | exact ak_le2.n ⟨Nat.le_succ _, Nat.le_add_right _ _, Nat.le_succ _⟩ | exact (fun f' M' h => by cases h)
set_option maxHeartbeats 2000000 in
theorem ak_grow {X : ak_X} {mi : Nat} {ins : Instr} {pc : Nat} {l1 : List (Option Value)} {l2 : List (Nat × Value)} {st : List Value} {M : ak_M} : ak_le2 M (ak_x X mi ins pc l1 l2 st M) := by
  cases ins with
  | ifCond c _ =>
    cases c <;> simp only [ak_x] <;> (repeat' split) <;> first | exact ak_le2.no | exact ak_le2.n ak_le.rf | exact ak_le2.j
  | if_icmp c _ =>
    cases c <;> simp only [ak_x] <;> (repeat' split) <;> first | exact ak_le2.no | exact ak_le2.n ak_le.rf | exact ak_le2.j
  | _ =>
    simp only [ak_x]
    repeat' split
    all_goals first
      | exact ak_le2.no
      | exact ak_le2.n ak_le.rf
      | exact ak_le2.j
      | exact ak_le2.s1
      | exact ak_le2.s2
      | exact ak_le2.ld
      | exact ak_le2.ld2
      | exact ak_le2.inv
      | exact ak_le2.n ⟨Nat.le_succ _, Nat.le_add_right _ _, Nat.le_succ _⟩
      | exact ak_le2.n ⟨Nat.le_trans (Nat.le_succ _) (Nat.le_add_right _ _), Nat.le_trans (Nat.le_add_right _ _) (Nat.le_add_right _ _), Nat.le_trans (Nat.le_succ _) (Nat.le_add_right _ _)⟩
      | exact (fun f' M' h => by unfold ak_e at h; cases h)
/-- a pure step leaves the memory -/
def ak_eq2 (M : ak_M) (a : Option ak_Act) : Prop := ∀ f' M', a = some (.inl (f', M')) → M' = M
theorem ak_eq2.n {pc : Nat} {l1 : List (Option Value)} {l2 : List (Nat × Value)} {st : List Value} {M : ak_M} : ak_eq2 M (ak_n pc l1 l2 st M) := by
  intro f' M' h1
  exact (ak_inj h1).2
theorem ak_eq2.no {M : ak_M} : ak_eq2 M none := fun f' M' h => by cases h
theorem ak_eq2.j {pc : Nat} {off : Int} {l1 : List (Option Value)} {l2 : List (Nat × Value)} {st : List Value} {M : ak_M} : ak_eq2 M (ak_j pc off l1 l2 st M) := by
  unfold ak_j; split
  · exact ak_eq2.n
  · exact ak_eq2.no
theorem ak_eq2.s1 {i pc : Nat} {v : Value} {l1 : List (Option Value)} {l2 : List (Nat × Value)} {st : List Value} {M : ak_M} : ak_eq2 M (ak_s1 i v pc l1 l2 st M) := by
  unfold ak_s1; split
  · exact ak_eq2.n
  · exact ak_eq2.no
theorem ak_eq2.s2 {i pc : Nat} {v : Value} {l1 : List (Option Value)} {l2 : List (Nat × Value)} {st : List Value} {M : ak_M} : ak_eq2 M (ak_s2 i v pc l1 l2 st M) := by
  unfold ak_s2; split
  · exact ak_eq2.n
  · exact ak_eq2.no
theorem ak_eq2.ld {i n pc : Nat} {ok : Value → Bool} {l1 : List (Option Value)} {l2 : List (Nat × Value)} {st : List Value} {M : ak_M} : ak_eq2 M (ak_ld i n pc ok l1 l2 st M) := by
  unfold ak_ld; split
  · split
    · exact ak_eq2.n
    · exact ak_eq2.no
  · exact ak_eq2.no
theorem ak_eq2.ld2 {i n pc : Nat} {ok : Value → Bool} {l1 : List (Option Value)} {l2 : List (Nat × Value)} {st : List Value} {M : ak_M} : ak_eq2 M (ak_ld2 i n pc ok l1 l2 st M) := by
  unfold ak_ld2; split
  · split
    · exact ak_eq2.n
    · exact ak_eq2.no
  · exact ak_eq2.no
def ak_isM : Instr → Bool
  | .putfield _ => true | .new _ => true | .newarray _ => true | .anewarray _ => true | .multianewarray _ _ => true
  | .iastore => true | .bastore => true | .aastore => true | .invokevirtual _ => true | .invokestatic _ => true | .invokespecial _ => true
  | _ => false
set_option maxHeartbeats 2000000 in
theorem ak_same {X : ak_X} {mi : Nat} {ins : Instr} (hi : ak_isM ins = false) {pc : Nat} {l1 : List (Option Value)} {l2 : List (Nat × Value)} {st : List Value} {M : ak_M} : ak_eq2 M (ak_x X mi ins pc l1 l2 st M) := by
  cases ins with
  | ifCond c _ =>
    cases c <;> simp only [ak_x] <;> (repeat' split) <;> first | exact ak_eq2.no | exact ak_eq2.n | exact ak_eq2.j
  | if_icmp c _ =>
    cases c <;> simp only [ak_x] <;> (repeat' split) <;> first | exact ak_eq2.no | exact ak_eq2.n | exact ak_eq2.j
  | putfield _ => cases hi
  | new _ => cases hi
  | newarray _ => cases hi
  | anewarray _ => cases hi
  | multianewarray _ _ => cases hi
  | iastore => cases hi
  | bastore => cases hi
  | aastore => cases hi
  | invokevirtual _ => cases hi
  | invokestatic _ => cases hi
  | invokespecial _ => cases hi
  | _ =>
    simp only [ak_x]
    repeat' split
    all_goals first
      | exact ak_eq2.no
      | exact ak_eq2.n
      | exact ak_eq2.j
      | exact ak_eq2.s1
      | exact ak_eq2.s2
      | exact ak_eq2.ld
      | exact ak_eq2.ld2
      | exact (fun f' M' h => by unfold ak_e at h; cases h)
theorem ak_endle {X : ak_X} {mi : Nat} {f : ak_F} {M : ak_M} {r : ak_O × ak_M} (h : ak_S X mi f M = some (.inr (.inl r))) : ak_le M r.2 := by
  obtain ⟨pc, l1, l2, st⟩ := f
  obtain ⟨ins, -, hS⟩ := ak_Sx h
  rcases ak_kinds hS with hk | ⟨hk, -⟩
  · exfalso
    cases ins <;> first | (cases hk; done) | exact absurd hS ak_incl
  · cases ins with
    | ireturn =>
      simp only [ak_x, ak_e] at hS
      repeat' (split at hS)
      all_goals first | (cases hS; done) | (cases hS; exact ak_le.rf)
    | areturn =>
      simp only [ak_x, ak_e] at hS
      repeat' (split at hS)
      all_goals first | (cases hS; done) | (cases hS; exact ak_le.rf)
    | freturn =>
      simp only [ak_x, ak_e] at hS
      repeat' (split at hS)
      all_goals first | (cases hS; done) | (cases hS; exact ak_le.rf)
    | dreturn =>
      simp only [ak_x, ak_e] at hS
      repeat' (split at hS)
      all_goals first | (cases hS; done) | (cases hS; exact ak_le.rf)
    | return_ =>
      simp only [ak_x, ak_e] at hS
      repeat' (split at hS)
      all_goals first | (cases hS; done) | (cases hS; exact ak_le.rf)
    | new _ =>
      simp only [ak_x, ak_e] at hS
      repeat' (split at hS)
      all_goals first | (cases hS; done) | (exact absurd hS ak_nne) | (cases hS; exact ⟨Nat.le_succ _, Nat.le_add_right _ _, Nat.le_refl _⟩)
    | _ => cases hk
theorem ak_mono {X : ak_X} : ∀ (n mi : Nat) (f : ak_F) (M : ak_M) (r : ak_O × ak_M), ak_go X n mi f M = some r → ak_le M r.2
  | 0, mi, f, M, r, h => by cases h
  | n + 1, mi, f, M, r, h => by
    unfold ak_go at h
    split at h
    · cases h
    · rename_i f' M' hS
      obtain ⟨pc, l1, l2, st⟩ := f
      obtain ⟨ins, -, hS2⟩ := ak_Sx hS
      exact (ak_grow f' M' hS2).tr (ak_mono n mi f' M' r h)
    · rename_i r' hS
      cases h
      exact ak_endle hS
    · rename_i cal as g M1 hS
      have hM1 : M1 = M := by
        obtain ⟨pc, l1, l2, st⟩ := f
        obtain ⟨ins, -, hS2⟩ := ak_Sx hS
        have : ∃ idx vt, ak_inv X mi idx vt pc l1 l2 st M = some (.inr (.inr (cal, as, g, M1))) := by
          rcases ak_kinds hS2 with hk | ⟨-, r, hr⟩
          · cases ins with
            | invokevirtual idx => exact ⟨idx, 0, hS2⟩
            | invokestatic idx => exact ⟨idx, 1, hS2⟩
            | invokespecial idx => exact ⟨idx, 2, hS2⟩
            | _ => cases hk
          · cases hr
        obtain ⟨idx, vt, h9⟩ := this
        obtain ⟨_, _, _, _, h8, -⟩ := ak_invc h9
        exact h8
      subst hM1
      split at h
      · cases h
      · rename_i v M2 h1
        exact (ak_mono n cal _ _ _ h1).tr (ak_mono n mi _ _ r h)
      · rename_i E M2 h1
        have h2 := ak_mono n cal _ _ _ h1
        split at h
        · split at h
          · cases h; exact h2
          · split at h
            · exact (h2.tr (show ak_le M2 (ak_use M2 1 0) from ⟨Nat.le_succ _, Nat.le_refl _, Nat.le_refl _⟩)).tr (ak_mono n mi _ (ak_use M2 1 0) r h)
            · cases h
        · cases h
