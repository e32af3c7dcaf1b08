/-! the law's helpers: what a query's helper answers and leaves -/
/-- cells, and the room used -/
def fy (S : Nat → Nat → Prop) (M M' : ak_M) : Prop := wf2 S M M' ∧ ak_C M' ≤ ak_C M + 3 ∧ ak_Z M' ≤ ak_Z M + 12
def hq (S : Nat → Nat → Prop) (X : ak_X) (k : Nat) (as : List Value) (M : ak_M) (cd : Nat → Int32) (o : Int32 ⊕ Nat) : Prop := ∃ M1, rn X k as M (.inl (some (.int (tc cd o))), M1) ∧ fy S M M1 ∧ ∀ v, o = .inl v → ak_L M1 497 0 = v.toInt64
section SHQ
variable {X : ak_X} {M M' : ak_M} {S : Nat → Nat → Prop} {o : Int32 ⊕ Nat} {x1 x2 x3 x4 : Int32}
theorem fy_L (f : fx S M M') (v : Int64) : fy S M (ak_sL M' 497 0 v) := ⟨⟨f.1, f.2.1⟩, by have := f.2.2.1; show ak_C M' ≤ _; omega, f.2.2.2⟩
theorem fy_u (f : fx S M M') : fy S M (ak_use M' 1 0) := ⟨⟨f.1, f.2.1⟩, by have := f.2.2.1; show ak_C M' + 1 ≤ _; omega, by have := f.2.2.2; show ak_Z M' + 0 ≤ _; omega⟩
theorem sL_0 (M : ak_M) (v : Int64) : ak_L (ak_sL M 497 0 v) 497 0 = v := by
  show (if 497 = 497 ∧ 0 = 0 then v else ak_L M 497 0) = v
  exact if_pos ⟨rfl, rfl⟩
theorem hq_324 (hL : ab_lay M) (h : ca S X 95 [.int x1, .int x2] M o) (hE : ∀ E, o = .inr E → E = 0 ∨ E = 1) : hq S X 324 [.ref 0, .int x1, .int x2, .ref 497] M (cdI 0) o := by
  obtain ⟨M0, r0, f0⟩ := h
  cases o with
  | inl v => exact ⟨_, t_324 hL _ _ (Or.inl ⟨v, M0, f0.1, r0, rfl⟩), fy_L f0 _, fun u e => by cases e; exact sL_0 _ _⟩
  | inr E =>
    rcases hE E rfl with e | e <;> subst e
    · exact ⟨_, t_324 hL _ _ (Or.inr (Or.inl ⟨M0, f0.1, r0, rfl⟩)), fy_u f0, fun u e => by cases e⟩
    · exact ⟨_, t_324 hL _ _ (Or.inr (Or.inr ⟨M0, f0.1, r0, rfl⟩)), fy_u f0, fun u e => by cases e⟩
theorem hq_325 (hL : ab_lay M) (h : ca S X 96 [.int x1, .int x2] M o) (hE : ∀ E, o = .inr E → E = 0 ∨ E = 1) : hq S X 325 [.ref 0, .int x1, .int x2, .ref 497] M (cdI 0) o := by
  obtain ⟨M0, r0, f0⟩ := h
  cases o with
  | inl v => exact ⟨_, t_325 hL _ _ (Or.inl ⟨v, M0, f0.1, r0, rfl⟩), fy_L f0 _, fun u e => by cases e; exact sL_0 _ _⟩
  | inr E =>
    rcases hE E rfl with e | e <;> subst e
    · exact ⟨_, t_325 hL _ _ (Or.inr (Or.inl ⟨M0, f0.1, r0, rfl⟩)), fy_u f0, fun u e => by cases e⟩
    · exact ⟨_, t_325 hL _ _ (Or.inr (Or.inr ⟨M0, f0.1, r0, rfl⟩)), fy_u f0, fun u e => by cases e⟩
theorem hq_326 (hL : ab_lay M) (h : ca S X 97 [.int x1] M o) (hE : ∀ E, o = .inr E → E = 1) : hq S X 326 [.ref 0, .int x1, .ref 497] M (cdI 1) o := by
  obtain ⟨M0, r0, f0⟩ := h
  cases o with
  | inl v => exact ⟨_, t_326 hL _ (Or.inl ⟨v, M0, f0.1, r0, rfl⟩), fy_L f0 _, fun u e => by cases e; exact sL_0 _ _⟩
  | inr E =>
    have e := hE E rfl
    subst e
    exact ⟨_, t_326 hL _ (Or.inr ⟨M0, f0.1, r0, rfl⟩), fy_u f0, fun u e => by cases e⟩
theorem hq_327 (hL : ab_lay M) (h : ca S X 98 [.int x1] M o) (hE : ∀ E, o = .inr E → E = 0) : hq S X 327 [.ref 0, .int x1, .ref 497] M (cdI 0) o := by
  obtain ⟨M0, r0, f0⟩ := h
  cases o with
  | inl v => exact ⟨_, t_327 hL _ (Or.inl ⟨v, M0, f0.1, r0, rfl⟩), fy_L f0 _, fun u e => by cases e; exact sL_0 _ _⟩
  | inr E =>
    have e := hE E rfl
    subst e
    exact ⟨_, t_327 hL _ (Or.inr ⟨M0, f0.1, r0, rfl⟩), fy_u f0, fun u e => by cases e⟩
theorem hq_328 (hL : ab_lay M) (h : ca S X 99 [.int x1] M o) (hE : ∀ E, o = .inr E → E = 0 ∨ E = 2) : hq S X 328 [.ref 0, .int x1, .ref 497] M (cdI 0) o := by
  obtain ⟨M0, r0, f0⟩ := h
  cases o with
  | inl v => exact ⟨_, t_328 hL _ (Or.inl ⟨v, M0, f0.1, r0, rfl⟩), fy_L f0 _, fun u e => by cases e; exact sL_0 _ _⟩
  | inr E =>
    rcases hE E rfl with e | e <;> subst e
    · exact ⟨_, t_328 hL _ (Or.inr (Or.inl ⟨M0, f0.1, r0, rfl⟩)), fy_u f0, fun u e => by cases e⟩
    · exact ⟨_, t_328 hL _ (Or.inr (Or.inr ⟨M0, f0.1, r0, rfl⟩)), fy_u f0, fun u e => by cases e⟩
theorem hq_329 (hL : ab_lay M) (h : ca S X 100 [.int x1, .int x2] M o) (hE : ∀ E, o = .inr E → E = 0) (hb : ∀ v, o = .inl v → v = 0 ∨ v = 1) : hq S X 329 [.ref 0, .int x1, .int x2, .ref 497] M (cdI 0) o := by
  obtain ⟨M0, r0, f0⟩ := h
  cases o with
  | inl v =>
    rcases hb v rfl with z | z <;> subst z
    · exact ⟨_, t_329 hL _ _ (Or.inl ⟨_, M0, f0.1, r0, mb_y rfl rfl⟩), fy_L f0 0, fun u e => by cases e; exact (sL_0 _ _).trans (by decide)⟩
    · exact ⟨_, t_329 hL _ _ (Or.inl ⟨_, M0, f0.1, r0, mb_n (by decide) rfl⟩), fy_L f0 1, fun u e => by cases e; exact (sL_0 _ _).trans (by decide)⟩
  | inr E =>
    have e := hE E rfl
    subst e
    exact ⟨_, t_329 hL _ _ (Or.inr ⟨M0, f0.1, r0, rfl⟩), fy_u f0, fun u e => by cases e⟩
theorem hq_330 (hL : ab_lay M) (h : ca S X 101 [.int x1, .int x2, .int x3] M o) (hE : ∀ E, o = .inr E → E = 0 ∨ E = 1) : hq S X 330 [.ref 0, .int x1, .int x2, .int x3, .ref 497] M (cdI 0) o := by
  obtain ⟨M0, r0, f0⟩ := h
  cases o with
  | inl v => exact ⟨_, t_330 hL _ _ _ (Or.inl ⟨v, M0, f0.1, r0, rfl⟩), fy_L f0 _, fun u e => by cases e; exact sL_0 _ _⟩
  | inr E =>
    rcases hE E rfl with e | e <;> subst e
    · exact ⟨_, t_330 hL _ _ _ (Or.inr (Or.inl ⟨M0, f0.1, r0, rfl⟩)), fy_u f0, fun u e => by cases e⟩
    · exact ⟨_, t_330 hL _ _ _ (Or.inr (Or.inr ⟨M0, f0.1, r0, rfl⟩)), fy_u f0, fun u e => by cases e⟩
theorem hq_331 (hL : ab_lay M) (h : ca S X 102 [.int x1] M o) (hE : ∀ E, o = .inr E → E = 0) : hq S X 331 [.ref 0, .int x1, .ref 497] M (cdI 0) o := by
  obtain ⟨M0, r0, f0⟩ := h
  cases o with
  | inl v => exact ⟨_, t_331 hL _ (Or.inl ⟨v, M0, f0.1, r0, rfl⟩), fy_L f0 _, fun u e => by cases e; exact sL_0 _ _⟩
  | inr E =>
    have e := hE E rfl
    subst e
    exact ⟨_, t_331 hL _ (Or.inr ⟨M0, f0.1, r0, rfl⟩), fy_u f0, fun u e => by cases e⟩
theorem hq_332 (hL : ab_lay M) (h : ca S X 103 [.int x1] M o) (hE : ∀ E, o = .inr E → E = 0) : hq S X 332 [.ref 0, .int x1, .ref 497] M (cdI 0) o := by
  obtain ⟨M0, r0, f0⟩ := h
  cases o with
  | inl v => exact ⟨_, t_332 hL _ (Or.inl ⟨v, M0, f0.1, r0, rfl⟩), fy_L f0 _, fun u e => by cases e; exact sL_0 _ _⟩
  | inr E =>
    have e := hE E rfl
    subst e
    exact ⟨_, t_332 hL _ (Or.inr ⟨M0, f0.1, r0, rfl⟩), fy_u f0, fun u e => by cases e⟩
theorem hq_333 (hL : ab_lay M) (h : ca S X 104 [.int x1, .int x2] M o) (hE : ∀ E, o = .inr E → E = 0 ∨ E = 1) : hq S X 333 [.ref 0, .int x1, .int x2, .ref 497] M (cdI 0) o := by
  obtain ⟨M0, r0, f0⟩ := h
  cases o with
  | inl v => exact ⟨_, t_333 hL _ _ (Or.inl ⟨v, M0, f0.1, r0, rfl⟩), fy_L f0 _, fun u e => by cases e; exact sL_0 _ _⟩
  | inr E =>
    rcases hE E rfl with e | e <;> subst e
    · exact ⟨_, t_333 hL _ _ (Or.inr (Or.inl ⟨M0, f0.1, r0, rfl⟩)), fy_u f0, fun u e => by cases e⟩
    · exact ⟨_, t_333 hL _ _ (Or.inr (Or.inr ⟨M0, f0.1, r0, rfl⟩)), fy_u f0, fun u e => by cases e⟩
theorem hq_334 (hL : ab_lay M) (h : ca S X 108 [.int x1, .int x2, .int x3] M o) (hE : ∀ E, o = .inr E → E = 1) : hq S X 334 [.ref 0, .int x1, .int x2, .int x3, .ref 497] M (cdI 1) o := by
  obtain ⟨M0, r0, f0⟩ := h
  cases o with
  | inl v => exact ⟨_, t_334 hL _ _ _ (Or.inl ⟨v, M0, f0.1, r0, rfl⟩), fy_L f0 _, fun u e => by cases e; exact sL_0 _ _⟩
  | inr E =>
    have e := hE E rfl
    subst e
    exact ⟨_, t_334 hL _ _ _ (Or.inr ⟨M0, f0.1, r0, rfl⟩), fy_u f0, fun u e => by cases e⟩
theorem hq_335 (hL : ab_lay M) (h : ca S X 109 [.int x1, .int x2] M o) (hE : ∀ E, o = .inr E → E = 0) : hq S X 335 [.ref 0, .int x1, .int x2, .ref 497] M (cdI 0) o := by
  obtain ⟨M0, r0, f0⟩ := h
  cases o with
  | inl v => exact ⟨_, t_335 hL _ _ (Or.inl ⟨v, M0, f0.1, r0, rfl⟩), fy_L f0 _, fun u e => by cases e; exact sL_0 _ _⟩
  | inr E =>
    have e := hE E rfl
    subst e
    exact ⟨_, t_335 hL _ _ (Or.inr ⟨M0, f0.1, r0, rfl⟩), fy_u f0, fun u e => by cases e⟩
theorem hq_336 (hL : ab_lay M) (h : ca S X 110 [.int x1] M o) (hE : ∀ E, o = .inr E → E = 0) : hq S X 336 [.ref 0, .int x1, .ref 497] M (cdI 0) o := by
  obtain ⟨M0, r0, f0⟩ := h
  cases o with
  | inl v => exact ⟨_, t_336 hL _ (Or.inl ⟨v, M0, f0.1, r0, rfl⟩), fy_L f0 _, fun u e => by cases e; exact sL_0 _ _⟩
  | inr E =>
    have e := hE E rfl
    subst e
    exact ⟨_, t_336 hL _ (Or.inr ⟨M0, f0.1, r0, rfl⟩), fy_u f0, fun u e => by cases e⟩
theorem hq_337 (hL : ab_lay M) (h : ca S X 111 [.int x1] M o) (hE : ∀ E, o = .inr E → E = 0 ∨ E = 2) : hq S X 337 [.ref 0, .int x1, .ref 497] M (cdI 0) o := by
  obtain ⟨M0, r0, f0⟩ := h
  cases o with
  | inl v => exact ⟨_, t_337 hL _ (Or.inl ⟨v, M0, f0.1, r0, rfl⟩), fy_L f0 _, fun u e => by cases e; exact sL_0 _ _⟩
  | inr E =>
    rcases hE E rfl with e | e <;> subst e
    · exact ⟨_, t_337 hL _ (Or.inr (Or.inl ⟨M0, f0.1, r0, rfl⟩)), fy_u f0, fun u e => by cases e⟩
    · exact ⟨_, t_337 hL _ (Or.inr (Or.inr ⟨M0, f0.1, r0, rfl⟩)), fy_u f0, fun u e => by cases e⟩
theorem hq_338 (hL : ab_lay M) (h : ca S X 112 [.int x1] M o) (hE : ∀ E, o = .inr E → E = 0) : hq S X 338 [.ref 0, .int x1, .ref 497] M (cdI 0) o := by
  obtain ⟨M0, r0, f0⟩ := h
  cases o with
  | inl v => exact ⟨_, t_338 hL _ (Or.inl ⟨v, M0, f0.1, r0, rfl⟩), fy_L f0 _, fun u e => by cases e; exact sL_0 _ _⟩
  | inr E =>
    have e := hE E rfl
    subst e
    exact ⟨_, t_338 hL _ (Or.inr ⟨M0, f0.1, r0, rfl⟩), fy_u f0, fun u e => by cases e⟩
theorem hq_339 (hL : ab_lay M) (h : ca S X 113 [.int x1] M o) (hE : ∀ E, o = .inr E → E = 1) : hq S X 339 [.ref 0, .int x1, .ref 497] M (cdI 1) o := by
  obtain ⟨M0, r0, f0⟩ := h
  cases o with
  | inl v => exact ⟨_, t_339 hL _ (Or.inl ⟨v, M0, f0.1, r0, rfl⟩), fy_L f0 _, fun u e => by cases e; exact sL_0 _ _⟩
  | inr E =>
    have e := hE E rfl
    subst e
    exact ⟨_, t_339 hL _ (Or.inr ⟨M0, f0.1, r0, rfl⟩), fy_u f0, fun u e => by cases e⟩
theorem hq_340 (hL : ab_lay M) (h : ca S X 114 [.int x1] M o) (hE : ∀ E, o = .inr E → E = 0) : hq S X 340 [.ref 0, .int x1, .ref 497] M (cdI 0) o := by
  obtain ⟨M0, r0, f0⟩ := h
  cases o with
  | inl v => exact ⟨_, t_340 hL _ (Or.inl ⟨v, M0, f0.1, r0, rfl⟩), fy_L f0 _, fun u e => by cases e; exact sL_0 _ _⟩
  | inr E =>
    have e := hE E rfl
    subst e
    exact ⟨_, t_340 hL _ (Or.inr ⟨M0, f0.1, r0, rfl⟩), fy_u f0, fun u e => by cases e⟩
theorem hq_341 (hL : ab_lay M) (h : ca S X 115 [.int x1, .int x2, .int x3, .int x4] M o) (hE : ∀ E, o = .inr E → E = 1) : hq S X 341 [.ref 0, .int x1, .int x2, .int x3, .int x4, .ref 497] M (cdI 1) o := by
  obtain ⟨M0, r0, f0⟩ := h
  cases o with
  | inl v => exact ⟨_, t_341 hL _ _ _ _ (Or.inl ⟨v, M0, f0.1, r0, rfl⟩), fy_L f0 _, fun u e => by cases e; exact sL_0 _ _⟩
  | inr E =>
    have e := hE E rfl
    subst e
    exact ⟨_, t_341 hL _ _ _ _ (Or.inr ⟨M0, f0.1, r0, rfl⟩), fy_u f0, fun u e => by cases e⟩
theorem hq_343 (hL : ab_lay M) (h : ca S X 119 [.int x1, .int x2, .int x3] M o) (hE : ∀ E, o = .inr E → E = 0 ∨ E = 1) : hq S X 343 [.ref 0, .int x1, .int x2, .int x3, .ref 497] M (cdI 0) o := by
  obtain ⟨M0, r0, f0⟩ := h
  cases o with
  | inl v => exact ⟨_, t_343 hL _ _ _ (Or.inl ⟨v, M0, f0.1, r0, rfl⟩), fy_L f0 _, fun u e => by cases e; exact sL_0 _ _⟩
  | inr E =>
    rcases hE E rfl with e | e <;> subst e
    · exact ⟨_, t_343 hL _ _ _ (Or.inr (Or.inl ⟨M0, f0.1, r0, rfl⟩)), fy_u f0, fun u e => by cases e⟩
    · exact ⟨_, t_343 hL _ _ _ (Or.inr (Or.inr ⟨M0, f0.1, r0, rfl⟩)), fy_u f0, fun u e => by cases e⟩
theorem hq_344 (hL : ab_lay M) (h : ca S X 120 [.int x1, .int x2] M o) (hE : ∀ E, o = .inr E → E = 0 ∨ E = 1) : hq S X 344 [.ref 0, .int x1, .int x2, .ref 497] M (cdI 0) o := by
  obtain ⟨M0, r0, f0⟩ := h
  cases o with
  | inl v => exact ⟨_, t_344 hL _ _ (Or.inl ⟨v, M0, f0.1, r0, rfl⟩), fy_L f0 _, fun u e => by cases e; exact sL_0 _ _⟩
  | inr E =>
    rcases hE E rfl with e | e <;> subst e
    · exact ⟨_, t_344 hL _ _ (Or.inr (Or.inl ⟨M0, f0.1, r0, rfl⟩)), fy_u f0, fun u e => by cases e⟩
    · exact ⟨_, t_344 hL _ _ (Or.inr (Or.inr ⟨M0, f0.1, r0, rfl⟩)), fy_u f0, fun u e => by cases e⟩
theorem hq_345 (hL : ab_lay M) (h : ca S X 121 [.int x1, .int x2, .int x3] M o) (hE : ∀ E, o = .inr E → E = 0 ∨ E = 1) : hq S X 345 [.ref 0, .int x1, .int x2, .int x3, .ref 497] M (cdI 0) o := by
  obtain ⟨M0, r0, f0⟩ := h
  cases o with
  | inl v => exact ⟨_, t_345 hL _ _ _ (Or.inl ⟨v, M0, f0.1, r0, rfl⟩), fy_L f0 _, fun u e => by cases e; exact sL_0 _ _⟩
  | inr E =>
    rcases hE E rfl with e | e <;> subst e
    · exact ⟨_, t_345 hL _ _ _ (Or.inr (Or.inl ⟨M0, f0.1, r0, rfl⟩)), fy_u f0, fun u e => by cases e⟩
    · exact ⟨_, t_345 hL _ _ _ (Or.inr (Or.inr ⟨M0, f0.1, r0, rfl⟩)), fy_u f0, fun u e => by cases e⟩
theorem hq_346 (hL : ab_lay M) (h : ca S X 122 [.int x1] M o) (hE : ∀ E, o = .inr E → E = 1) : hq S X 346 [.ref 0, .int x1, .ref 497] M (cdI 1) o := by
  obtain ⟨M0, r0, f0⟩ := h
  cases o with
  | inl v => exact ⟨_, t_346 hL _ (Or.inl ⟨v, M0, f0.1, r0, rfl⟩), fy_L f0 _, fun u e => by cases e; exact sL_0 _ _⟩
  | inr E =>
    have e := hE E rfl
    subst e
    exact ⟨_, t_346 hL _ (Or.inr ⟨M0, f0.1, r0, rfl⟩), fy_u f0, fun u e => by cases e⟩
theorem hq_347 (hL : ab_lay M) (h : ca S X 123 [.int x1, .int x2] M o) (hE : ∀ E, o = .inr E → E = 0 ∨ E = 1) : hq S X 347 [.ref 0, .int x1, .int x2, .ref 497] M (cdI 0) o := by
  obtain ⟨M0, r0, f0⟩ := h
  cases o with
  | inl v => exact ⟨_, t_347 hL _ _ (Or.inl ⟨v, M0, f0.1, r0, rfl⟩), fy_L f0 _, fun u e => by cases e; exact sL_0 _ _⟩
  | inr E =>
    rcases hE E rfl with e | e <;> subst e
    · exact ⟨_, t_347 hL _ _ (Or.inr (Or.inl ⟨M0, f0.1, r0, rfl⟩)), fy_u f0, fun u e => by cases e⟩
    · exact ⟨_, t_347 hL _ _ (Or.inr (Or.inr ⟨M0, f0.1, r0, rfl⟩)), fy_u f0, fun u e => by cases e⟩
theorem hq_348 (hL : ab_lay M) (h : ca S X 124 [.int x1, .int x2, .int x3] M o) (hE : ∀ E, o = .inr E → E = 0 ∨ E = 1) : hq S X 348 [.ref 0, .int x1, .int x2, .int x3, .ref 497] M (cdI 0) o := by
  obtain ⟨M0, r0, f0⟩ := h
  cases o with
  | inl v => exact ⟨_, t_348 hL _ _ _ (Or.inl ⟨v, M0, f0.1, r0, rfl⟩), fy_L f0 _, fun u e => by cases e; exact sL_0 _ _⟩
  | inr E =>
    rcases hE E rfl with e | e <;> subst e
    · exact ⟨_, t_348 hL _ _ _ (Or.inr (Or.inl ⟨M0, f0.1, r0, rfl⟩)), fy_u f0, fun u e => by cases e⟩
    · exact ⟨_, t_348 hL _ _ _ (Or.inr (Or.inr ⟨M0, f0.1, r0, rfl⟩)), fy_u f0, fun u e => by cases e⟩
theorem hq_349 (hL : ab_lay M) (h : ca S X 125 [.int x1, .int x2] M o) (hE : ∀ E, o = .inr E → E = 0 ∨ E = 1) : hq S X 349 [.ref 0, .int x1, .int x2, .ref 497] M (cdI 0) o := by
  obtain ⟨M0, r0, f0⟩ := h
  cases o with
  | inl v => exact ⟨_, t_349 hL _ _ (Or.inl ⟨v, M0, f0.1, r0, rfl⟩), fy_L f0 _, fun u e => by cases e; exact sL_0 _ _⟩
  | inr E =>
    rcases hE E rfl with e | e <;> subst e
    · exact ⟨_, t_349 hL _ _ (Or.inr (Or.inl ⟨M0, f0.1, r0, rfl⟩)), fy_u f0, fun u e => by cases e⟩
    · exact ⟨_, t_349 hL _ _ (Or.inr (Or.inr ⟨M0, f0.1, r0, rfl⟩)), fy_u f0, fun u e => by cases e⟩
theorem hq_350 (hL : ab_lay M) (h : ca S X 126 [.int x1, .int x2] M o) (hE : ∀ E, o = .inr E → E = 0 ∨ E = 1) : hq S X 350 [.ref 0, .int x1, .int x2, .ref 497] M (cdI 0) o := by
  obtain ⟨M0, r0, f0⟩ := h
  cases o with
  | inl v => exact ⟨_, t_350 hL _ _ (Or.inl ⟨v, M0, f0.1, r0, rfl⟩), fy_L f0 _, fun u e => by cases e; exact sL_0 _ _⟩
  | inr E =>
    rcases hE E rfl with e | e <;> subst e
    · exact ⟨_, t_350 hL _ _ (Or.inr (Or.inl ⟨M0, f0.1, r0, rfl⟩)), fy_u f0, fun u e => by cases e⟩
    · exact ⟨_, t_350 hL _ _ (Or.inr (Or.inr ⟨M0, f0.1, r0, rfl⟩)), fy_u f0, fun u e => by cases e⟩
theorem hq_351 (hL : ab_lay M) (h : ca S X 127 [.int x1, .int x2] M o) (hE : ∀ E, o = .inr E → E = 0 ∨ E = 1) : hq S X 351 [.ref 0, .int x1, .int x2, .ref 497] M (cdI 0) o := by
  obtain ⟨M0, r0, f0⟩ := h
  cases o with
  | inl v => exact ⟨_, t_351 hL _ _ (Or.inl ⟨v, M0, f0.1, r0, rfl⟩), fy_L f0 _, fun u e => by cases e; exact sL_0 _ _⟩
  | inr E =>
    rcases hE E rfl with e | e <;> subst e
    · exact ⟨_, t_351 hL _ _ (Or.inr (Or.inl ⟨M0, f0.1, r0, rfl⟩)), fy_u f0, fun u e => by cases e⟩
    · exact ⟨_, t_351 hL _ _ (Or.inr (Or.inr ⟨M0, f0.1, r0, rfl⟩)), fy_u f0, fun u e => by cases e⟩
end SHQ
section SHE
variable {σ : Nat → Int32} {n E : Nat} {x w t y bt tx ty s : Int32}
theorem e_sp_95 : sp_95 σ x w = .inr E → E = 0 ∨ E = 1 := by
  unfold sp_95
  repeat' split
  all_goals (intro h; cases h <;> decide)
theorem e_sp_96 : sp_96 σ x w = .inr E → E = 0 ∨ E = 1 := by
  unfold sp_96
  repeat' split
  all_goals (intro h; cases h <;> decide)
theorem e_sp_97 : sp_97 σ n x = .inr E → E = 1 := by
  unfold sp_97
  repeat' split
  all_goals (intro h; cases h <;> decide)
theorem e_sp_98 : sp_98 σ x = .inr E → E = 0 := by
  unfold sp_98
  repeat' split
  all_goals (intro h; cases h <;> decide)
theorem e_sp_99 : sp_99 σ x = .inr E → E = 0 ∨ E = 2 := by
  unfold sp_99
  repeat' split
  all_goals (intro h; cases h <;> decide)
theorem e_sp_100 : sp_100 σ x y = .inr E → E = 0 := by
  unfold sp_100
  repeat' split
  all_goals (intro h; cases h <;> decide)
theorem e_sp_101 : sp_101 σ x y w = .inr E → E = 0 ∨ E = 1 := by
  unfold sp_101
  repeat' split
  all_goals (intro h; cases h <;> decide)
theorem e_sp_102 : sp_102 σ n x = .inr E → E = 0 := by
  unfold sp_102
  repeat' split
  all_goals (intro h; cases h <;> decide)
theorem e_sp_103 : sp_103 σ n x = .inr E → E = 0 := by
  unfold sp_103
  repeat' split
  all_goals (intro h; cases h <;> decide)
theorem e_sp_104 : sp_104 σ x w = .inr E → E = 0 ∨ E = 1 := by
  unfold sp_104
  repeat' split
  all_goals (intro h; cases h <;> decide)
theorem e_sp_108 : sp_108 σ n x y bt = .inr E → E = 1 := by
  unfold sp_108
  repeat' split
  all_goals (intro h; cases h <;> decide)
theorem e_sp_109 : sp_109 σ x y = .inr E → E = 0 := by
  unfold sp_109
  repeat' split
  all_goals (intro h; cases h <;> decide)
theorem e_sp_110 : sp_110 σ n x = .inr E → E = 0 := by
  unfold sp_110
  repeat' split
  all_goals (intro h; cases h <;> decide)
theorem e_sp_111 : sp_111 σ n x = .inr E → E = 0 ∨ E = 2 := by
  unfold sp_111
  repeat' split
  all_goals (intro h; cases h <;> decide)
theorem e_sp_112 : sp_112 σ n x = .inr E → E = 0 := by
  unfold sp_112
  repeat' split
  all_goals (intro h; cases h <;> decide)
theorem e_sp_113 : sp_113 σ n w = .inr E → E = 1 := by
  unfold sp_113
  repeat' split
  all_goals (intro h; cases h <;> decide)
theorem e_sp_114 : sp_114 σ n x = .inr E → E = 0 := by
  unfold sp_114
  repeat' split
  all_goals (intro h; cases h <;> decide)
theorem e_sp_115 : sp_115 σ n x y tx ty = .inr E → E = 1 := by
  unfold sp_115
  repeat' split
  all_goals (intro h; cases h <;> decide)
theorem e_sp_119 : sp_119 σ n x w t = .inr E → E = 0 ∨ E = 1 := by
  unfold sp_119
  repeat' split
  all_goals (intro h; cases h <;> decide)
theorem e_sp_120 : sp_120 σ n x t = .inr E → E = 0 ∨ E = 1 := by
  unfold sp_120
  repeat' split
  all_goals (intro h; cases h <;> decide)
theorem e_sp_121 : sp_121 σ n x y t = .inr E → E = 0 ∨ E = 1 := by
  unfold sp_121
  repeat' split
  all_goals (intro h; cases h <;> decide)
theorem e_sp_122 : sp_122 σ n t = .inr E → E = 1 := by
  unfold sp_122
  repeat' split
  all_goals (intro h; cases h <;> decide)
theorem e_sp_123 : sp_123 σ n x t = .inr E → E = 0 ∨ E = 1 := by
  unfold sp_123
  repeat' split
  all_goals (intro h; cases h <;> decide)
theorem e_sp_124 : sp_124 σ n x y t = .inr E → E = 0 ∨ E = 1 := by
  unfold sp_124
  repeat' split
  all_goals (intro h; cases h <;> decide)
theorem e_sp_148 {u : Nat} : sp_148 σ n u s x t = .inr E → E = 0 ∨ E = 1 := by
  unfold sp_148
  repeat' split
  all_goals (intro h; cases h <;> decide)
end SHE
