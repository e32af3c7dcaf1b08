/-! small: printing no kite, the last error, the hyphen -/
section SSM
variable {X : ak_X} {M : ak_M} {l : List Int32} {nk nw ne fe : Nat} {σ : Nat → Int32}
theorem cp_138n (hL : ab_lay M) (hR : Rb 65 σ nk nw ne fe M) {x : Int32} (h : ¬ mo_isK σ x = true) : ∃ M', rn X 138 [.ref 0, .int x] M (.inr 0, M') ∧ fx (cX 65) M M' :=
  ⟨_, t_138 hL _ (Or.inr ⟨0, _, (ck_144 (X := X) hL hR.2.1.1 (x := x)).2 (bf h), rfl⟩), (fr.rf hL).ux⟩
theorem mp_309n (hL : ab_lay M) {x : Int32} (h : ¬ mo_isK (ro M) x = true) : rn X 309 [.ref 483, .int x] M (.inl (some (.int 0)), to M 1) :=
  t_309 hL _ ⟨_, M, hL, sm_169 hL, _, _, to_L hL 1, sm_155n hL h, mb_y (bn1 h) rfl⟩
theorem sk_90 (hL : ab_lay M) : rn X 90 [.ref 0] M (.inl (some (.int (ak_I M 0 9))), M) ∧ rn X 91 [.ref 0] M (.inl (some (.int (ak_I M 0 10))), M) := ⟨t_90 hL rfl, t_91 hL rfl⟩
theorem sk_56 (hL : ab_lay M) (h : Oc1 l M) : ∃ M', rn X 56 [.ref 3] M (.inl none, M') ∧ fr cO M M' ∧ Oc1 (hyp l) M' := by
  have e1 := h.2.1
  have h6 := h.1
  have c0 : nI l.length = 0 ↔ l = [] := by
    rw [show (0 : Int32) = nI 0 from rfl, mi_eq (by omega) (by decide)]
    exact List.length_eq_zero_iff
  unfold hyp
  by_cases c : l = []
  · rw [if_pos c]
    subst c
    obtain ⟨M1, r, f, o⟩ := sk_54 (X := X) hL h (by decide) 45
    exact ⟨M1, t_56 hL (mb_y (by rw [e1]; rfl) ⟨M1, f.1, r, rfl⟩), f, o⟩
  · rw [if_neg c]
    exact ⟨M, t_56 hL (mb_n (by rw [e1]; exact fun e => c (c0.mp e)) rfl), fr.rf hL, h⟩
end SSM
