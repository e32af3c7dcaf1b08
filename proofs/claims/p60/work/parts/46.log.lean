/-! the log of what a run writes -/
abbrev al_o : Type := Nat × Nat × Nat × Nat × Int32
def al_ap (o : al_o) (M : ak_M) : ak_M := match o.1 with
  | 0 => ak_new M o.2.1 o.2.2.1 o.2.2.2.1
  | 1 => ak_sI M o.2.1 o.2.2.1 o.2.2.2.2
  | 2 => ak_sR M o.2.1 o.2.2.1 (some o.2.2.2.1)
  | _ => ak_mna M o.2.1 o.2.2.1
def al_op (mi : Nat) (ins : Instr) (st : List Value) : Option (Option al_o) := match ins with
  | .putfield idx => match st with
    | .int x :: .ref p :: _ => (match am_F (am_O mi) idx with | some (_, k, _) => some (some (1, p, k, 0, x)) | none => none)
    | .ref q :: .ref p :: _ => (match am_F (am_O mi) idx with | some (_, k, _) => some (some (2, p, k, q, 0)) | none => none)
    | _ => none
  | .new idx => match am_W (am_O mi) idx with | some (ci, _) => some (some (0, ci, 0, am_nf ci, 0)) | none => none
  | .newarray t => match st with
    | .int n :: _ => (match t with
      | .int => some (some (0, 100, n.toNatClampNeg, n.toNatClampNeg, 0))
      | .byte => some (some (0, 101, n.toNatClampNeg, n.toNatClampNeg, 0))
      | _ => none)
    | _ => none
  | .anewarray idx => match st with
    | .int n :: _ => (match am_V (am_O mi) idx with | some (t, _) => some (some (0, 100 + t, n.toNatClampNeg, n.toNatClampNeg, 0)) | none => none)
    | _ => none
  | .multianewarray _ _ => match st with
    | .int k :: .int n :: _ => some (some (3, n.toNatClampNeg, k.toNatClampNeg, 0, 0))
    | _ => none
  | .iastore => match st with
    | .int x :: .int i :: .ref p :: _ => some (some (1, p, i.toNatClampNeg, 0, x))
    | _ => none
  | .aastore => match st with
    | .ref q :: .int i :: .ref p :: _ => some (some (2, p, i.toNatClampNeg, q, 0))
    | _ => none
  | .bastore => none
  | .invokevirtual idx => match am_L mi idx with | some (_, 9, _) => none | some (_, 10, _) => none | _ => some none
  | .invokestatic idx => match am_L mi idx with | some (_, 9, _) => none | some (_, 10, _) => none | _ => some none
  | .invokespecial idx => match am_L mi idx with | some (_, 9, _) => none | some (_, 10, _) => none | _ => some none
  | _ => some none
def al_put (o : Option al_o) (M : ak_M) : ak_M := match o with | some z => al_ap z M | none => M
def al_cons (o : Option al_o) (L : List al_o) : List al_o := match o with | some z => z :: L | none => L
def al_all (L : List al_o) (M : ak_M) : ak_M := L.foldr al_ap M
theorem al_all_cons {o : Option al_o} {L : List al_o} {M : ak_M} : al_all (al_cons o L) M = al_put o (al_all L M) := by
  cases o <;> rfl
set_option maxHeartbeats 2000000 in
theorem al_st {X : ak_X} {mi pc : Nat} {ins : Instr} {l1 : List (Option Value)} {l2 : List (Nat × Value)} {st : List Value} {M M' : ak_M} {f' : ak_F} {o : Option al_o} (ho : al_op mi ins st = some o) (h : ak_x X mi ins pc l1 l2 st M = some (.inl (f', M'))) : M' = al_put o M := by
  by_cases hm : ak_isM ins = false
  · have h1 := ak_same hm f' M' h
    have h2 : o = none := by
      cases ins <;> first | (cases hm; done) | exact (Option.some.inj ho).symm
    rw [h1, h2]
    rfl
  · cases ins with
    | putfield idx =>
      simp only [ak_x] at h
      unfold al_op at ho
      dsimp only at ho
      split at h
      · rename_i v p r
        split at h
        · rename_i ci k z hF
          rw [hF] at ho
          split at h
          · split at h
            · split at h
              · cases ho; exact (ak_inj h).2
              · cases h
            · split at h
              · cases ho; exact (ak_inj h).2
              · cases h
            · cases h
          · cases h
        · cases h
      · cases h
    | new idx =>
      simp only [ak_x] at h
      unfold al_op at ho
      dsimp only at ho
      split at h
      · rename_i ci z hW
        rw [hW] at ho
        split at h
        · cases ho; exact (ak_inj h).2
        · cases h
      · rename_i hW
        rw [hW] at ho
        cases ho
    | newarray t =>
      simp only [ak_x] at h
      unfold al_op at ho
      dsimp only at ho
      split at h
      · split at h
        · split at h
          · cases ho; exact (ak_inj h).2
          · cases ho; exact (ak_inj h).2
          · cases h
        · cases h
      · cases h
    | anewarray idx =>
      simp only [ak_x] at h
      unfold al_op at ho
      dsimp only at ho
      split at h
      · split at h
        · rename_i t z hV
          rw [hV] at ho
          split at h
          · cases ho; exact (ak_inj h).2
          · cases h
        · cases h
      · cases h
    | multianewarray idx dim =>
      simp only [ak_x] at h
      unfold al_op at ho
      dsimp only at ho
      split at h
      · split at h
        · cases ho; exact (ak_inj h).2
        · cases h
      · cases h
    | iastore =>
      simp only [ak_x] at h
      unfold al_op at ho
      dsimp only at ho
      split at h
      · split at h
        · cases ho; exact (ak_inj h).2
        · cases h
      · cases h
    | aastore =>
      simp only [ak_x] at h
      unfold al_op at ho
      dsimp only at ho
      split at h
      · split at h
        · cases ho; exact (ak_inj h).2
        · cases h
      · cases h
    | bastore => cases ho
    | invokevirtual idx =>
      simp only [ak_x] at h
      unfold al_op at ho
      dsimp only at ho
      obtain ⟨cal, w, ⟨-, hL, q, rest, -, -, h⟩ | ⟨-, hL, -⟩ | ⟨-, hL, -⟩⟩ := ak_invn h
      · rw [hL] at ho
        cases ho
        exact (ak_inj h).2
      · rw [hL] at ho; cases ho
      · rw [hL] at ho; cases ho
    | invokestatic idx =>
      simp only [ak_x] at h
      unfold al_op at ho
      dsimp only at ho
      obtain ⟨cal, w, ⟨-, hL, q, rest, -, -, h⟩ | ⟨-, hL, -⟩ | ⟨-, hL, -⟩⟩ := ak_invn h
      · rw [hL] at ho
        cases ho
        exact (ak_inj h).2
      · rw [hL] at ho; cases ho
      · rw [hL] at ho; cases ho
    | invokespecial idx =>
      simp only [ak_x] at h
      unfold al_op at ho
      dsimp only at ho
      obtain ⟨cal, w, ⟨-, hL, q, rest, -, -, h⟩ | ⟨-, hL, -⟩ | ⟨-, hL, -⟩⟩ := ak_invn h
      · rw [hL] at ho
        cases ho
        exact (ak_inj h).2
      · rw [hL] at ho; cases ho
      · rw [hL] at ho; cases ho
    | _ => exact absurd rfl hm
