section
-- ===== PART A: goes FIRST, ahead of the names: the tables' words, and 'selects' of the private methods out of them =====
/-- a private method of a class that the tables say can be made, by its rows of tables_1 -/
def lw_okq (q : MethodName × Nat) : Prop := (q.1.cls ≠ "java/lang/invoke/MethodHandle" ∧ q.1.cls ≠ "java/lang/invoke/VarHandle") ∧ Cond.instantiable q.1.cls q.2 ∈ tables_1 ∧ Cond.privateMethod q.1 ∈ tables_1 ∧ Cond.instanceMethod q.1 ∈ tables_1
theorem lw_p0 : lw_okq (⟨"KiteQuarrel", "checkKite", "(I)V"⟩, 11) := ⟨⟨by decide +kernel, by decide +kernel⟩, List.mem_of_getElem? (i := 31) (by decide +kernel), List.mem_of_getElem? (i := 490) (by decide +kernel), List.mem_of_getElem? (i := 491) (by decide +kernel)⟩
theorem lw_p1 : lw_okq (⟨"java/lang/Throwable", "fillInStackTrace", "(I)Ljava/lang/Throwable;"⟩, 6) := ⟨⟨by decide +kernel, by decide +kernel⟩, List.mem_of_getElem? (i := 535) (by decide +kernel), List.mem_of_getElem? (i := 533) (by decide +kernel), List.mem_of_getElem? (i := 534) (by decide +kernel)⟩
theorem lw_p2 : lw_okq (⟨"KiteQuarrel$Field", "fly", "(I)V"⟩, 11) := ⟨⟨by decide +kernel, by decide +kernel⟩, List.mem_of_getElem? (i := 75) (by decide +kernel), List.mem_of_getElem? (i := 620) (by decide +kernel), List.mem_of_getElem? (i := 621) (by decide +kernel)⟩
theorem lw_p3 : lw_okq (⟨"KiteQuarrel$Field", "tell", "(IIIII)V"⟩, 11) := ⟨⟨by decide +kernel, by decide +kernel⟩, List.mem_of_getElem? (i := 75) (by decide +kernel), List.mem_of_getElem? (i := 654) (by decide +kernel), List.mem_of_getElem? (i := 655) (by decide +kernel)⟩
theorem lw_p4 : lw_okq (⟨"KiteQuarrel$Field", "rubAllLines", "()V"⟩, 11) := ⟨⟨by decide +kernel, by decide +kernel⟩, List.mem_of_getElem? (i := 75) (by decide +kernel), List.mem_of_getElem? (i := 662) (by decide +kernel), List.mem_of_getElem? (i := 663) (by decide +kernel)⟩
theorem lw_p5 : lw_okq (⟨"KiteQuarrel$Field", "wearLine", "(II)V"⟩, 11) := ⟨⟨by decide +kernel, by decide +kernel⟩, List.mem_of_getElem? (i := 75) (by decide +kernel), List.mem_of_getElem? (i := 666) (by decide +kernel), List.mem_of_getElem? (i := 667) (by decide +kernel)⟩
theorem lw_p6 : lw_okq (⟨"KiteQuarrel$Field", "cutWornLines", "()V"⟩, 11) := ⟨⟨by decide +kernel, by decide +kernel⟩, List.mem_of_getElem? (i := 75) (by decide +kernel), List.mem_of_getElem? (i := 674) (by decide +kernel), List.mem_of_getElem? (i := 675) (by decide +kernel)⟩
theorem lw_p7 : lw_okq (⟨"KiteQuarrel$Field", "drift", "(I)V"⟩, 11) := ⟨⟨by decide +kernel, by decide +kernel⟩, List.mem_of_getElem? (i := 75) (by decide +kernel), List.mem_of_getElem? (i := 678) (by decide +kernel), List.mem_of_getElem? (i := 679) (by decide +kernel)⟩
theorem lw_p8 : lw_okq (⟨"KiteQuarrel$Field", "pickUpFallenKites", "()V"⟩, 11) := ⟨⟨by decide +kernel, by decide +kernel⟩, List.mem_of_getElem? (i := 75) (by decide +kernel), List.mem_of_getElem? (i := 682) (by decide +kernel), List.mem_of_getElem? (i := 683) (by decide +kernel)⟩
theorem lw_p9 : lw_okq (⟨"KiteQuarrel", "reelFor", "(IIII)I"⟩, 11) := ⟨⟨by decide +kernel, by decide +kernel⟩, List.mem_of_getElem? (i := 31) (by decide +kernel), List.mem_of_getElem? (i := 703) (by decide +kernel), List.mem_of_getElem? (i := 704) (by decide +kernel)⟩
theorem lw_p10 : lw_okq (⟨"KiteQuarrel$Setup", "quotedWord", "()I"⟩, 7) := ⟨⟨by decide +kernel, by decide +kernel⟩, List.mem_of_getElem? (i := 69) (by decide +kernel), List.mem_of_getElem? (i := 863) (by decide +kernel), List.mem_of_getElem? (i := 864) (by decide +kernel)⟩
theorem lw_p11 : lw_okq (⟨"KiteQuarrel$Setup", "readStatement", "(I)Z"⟩, 7) := ⟨⟨by decide +kernel, by decide +kernel⟩, List.mem_of_getElem? (i := 69) (by decide +kernel), List.mem_of_getElem? (i := 887) (by decide +kernel), List.mem_of_getElem? (i := 888) (by decide +kernel)⟩
theorem lw_p12 : lw_okq (⟨"KiteQuarrel$Setup", "readKite", "()Z"⟩, 7) := ⟨⟨by decide +kernel, by decide +kernel⟩, List.mem_of_getElem? (i := 69) (by decide +kernel), List.mem_of_getElem? (i := 891) (by decide +kernel), List.mem_of_getElem? (i := 892) (by decide +kernel)⟩
theorem lw_p13 : lw_okq (⟨"KiteQuarrel$Setup", "fail", "(I)Z"⟩, 7) := ⟨⟨by decide +kernel, by decide +kernel⟩, List.mem_of_getElem? (i := 69) (by decide +kernel), List.mem_of_getElem? (i := 895) (by decide +kernel), List.mem_of_getElem? (i := 896) (by decide +kernel)⟩
theorem lw_p14 : lw_okq (⟨"KiteQuarrel$Setup", "readName", "()Z"⟩, 7) := ⟨⟨by decide +kernel, by decide +kernel⟩, List.mem_of_getElem? (i := 69) (by decide +kernel), List.mem_of_getElem? (i := 900) (by decide +kernel), List.mem_of_getElem? (i := 901) (by decide +kernel)⟩
theorem lw_p15 : lw_okq (⟨"KiteQuarrel$Names", "isSame", "(I[BI)Z"⟩, 3) := ⟨⟨by decide +kernel, by decide +kernel⟩, List.mem_of_getElem? (i := 309) (by decide +kernel), List.mem_of_getElem? (i := 908) (by decide +kernel), List.mem_of_getElem? (i := 909) (by decide +kernel)⟩
def lw_privs_1 : List (MethodName × Nat) := [(⟨"KiteQuarrel", "checkKite", "(I)V"⟩, 11), (⟨"java/lang/Throwable", "fillInStackTrace", "(I)Ljava/lang/Throwable;"⟩, 6), (⟨"KiteQuarrel$Field", "fly", "(I)V"⟩, 11), (⟨"KiteQuarrel$Field", "tell", "(IIIII)V"⟩, 11), (⟨"KiteQuarrel$Field", "rubAllLines", "()V"⟩, 11), (⟨"KiteQuarrel$Field", "wearLine", "(II)V"⟩, 11), (⟨"KiteQuarrel$Field", "cutWornLines", "()V"⟩, 11), (⟨"KiteQuarrel$Field", "drift", "(I)V"⟩, 11), (⟨"KiteQuarrel$Field", "pickUpFallenKites", "()V"⟩, 11), (⟨"KiteQuarrel", "reelFor", "(IIII)I"⟩, 11), (⟨"KiteQuarrel$Setup", "quotedWord", "()I"⟩, 7), (⟨"KiteQuarrel$Setup", "readStatement", "(I)Z"⟩, 7), (⟨"KiteQuarrel$Setup", "readKite", "()Z"⟩, 7), (⟨"KiteQuarrel$Setup", "fail", "(I)Z"⟩, 7), (⟨"KiteQuarrel$Setup", "readName", "()Z"⟩, 7), (⟨"KiteQuarrel$Names", "isSame", "(I[BI)Z"⟩, 3)]
theorem lw_r1 : ∀ q ∈ lw_privs_1, lw_okq q := List.forall_mem_cons.mpr ⟨lw_p0, List.forall_mem_cons.mpr ⟨lw_p1, List.forall_mem_cons.mpr ⟨lw_p2, List.forall_mem_cons.mpr ⟨lw_p3, List.forall_mem_cons.mpr ⟨lw_p4, List.forall_mem_cons.mpr ⟨lw_p5, List.forall_mem_cons.mpr ⟨lw_p6, List.forall_mem_cons.mpr ⟨lw_p7, List.forall_mem_cons.mpr ⟨lw_p8, List.forall_mem_cons.mpr ⟨lw_p9, List.forall_mem_cons.mpr ⟨lw_p10, List.forall_mem_cons.mpr ⟨lw_p11, List.forall_mem_cons.mpr ⟨lw_p12, List.forall_mem_cons.mpr ⟨lw_p13, List.forall_mem_cons.mpr ⟨lw_p14, List.forall_mem_cons.mpr ⟨lw_p15, fun _ h => absurd h List.not_mem_nil⟩⟩⟩⟩⟩⟩⟩⟩⟩⟩⟩⟩⟩⟩⟩⟩
theorem lw_p16 : lw_okq (⟨"KiteQuarrel$Setup", "readNumber", "(II)Z"⟩, 7) := ⟨⟨by decide +kernel, by decide +kernel⟩, List.mem_of_getElem? (i := 69) (by decide +kernel), List.mem_of_getElem? (i := 916) (by decide +kernel), List.mem_of_getElem? (i := 917) (by decide +kernel)⟩
theorem lw_p17 : lw_okq (⟨"KiteQuarrel$Kite", "goDownAtFlyer", "()V"⟩, 16) := ⟨⟨by decide +kernel, by decide +kernel⟩, List.mem_of_getElem? (i := 112) (by decide +kernel), List.mem_of_getElem? (i := 933) (by decide +kernel), List.mem_of_getElem? (i := 934) (by decide +kernel)⟩
theorem lw_p18 : lw_okq (⟨"KiteQuarrel$Setup", "readOption", "(IIII)Z"⟩, 7) := ⟨⟨by decide +kernel, by decide +kernel⟩, List.mem_of_getElem? (i := 69) (by decide +kernel), List.mem_of_getElem? (i := 937) (by decide +kernel), List.mem_of_getElem? (i := 938) (by decide +kernel)⟩
theorem lw_p19 : lw_okq (⟨"KiteQuarrel$Setup", "readWind", "()Z"⟩, 7) := ⟨⟨by decide +kernel, by decide +kernel⟩, List.mem_of_getElem? (i := 69) (by decide +kernel), List.mem_of_getElem? (i := 941) (by decide +kernel), List.mem_of_getElem? (i := 942) (by decide +kernel)⟩
theorem lw_p20 : lw_okq (⟨"KiteQuarrel$Setup", "readSpeed", "()Z"⟩, 7) := ⟨⟨by decide +kernel, by decide +kernel⟩, List.mem_of_getElem? (i := 69) (by decide +kernel), List.mem_of_getElem? (i := 945) (by decide +kernel), List.mem_of_getElem? (i := 946) (by decide +kernel)⟩
theorem lw_p21 : lw_okq (⟨"KiteQuarrel$Setup", "readSetting", "(I)Z"⟩, 7) := ⟨⟨by decide +kernel, by decide +kernel⟩, List.mem_of_getElem? (i := 69) (by decide +kernel), List.mem_of_getElem? (i := 950) (by decide +kernel), List.mem_of_getElem? (i := 951) (by decide +kernel)⟩
theorem lw_p22 : lw_okq (⟨"KiteQuarrel$Setup", "readSemicolon", "()Z"⟩, 7) := ⟨⟨by decide +kernel, by decide +kernel⟩, List.mem_of_getElem? (i := 69) (by decide +kernel), List.mem_of_getElem? (i := 958) (by decide +kernel), List.mem_of_getElem? (i := 959) (by decide +kernel)⟩
theorem lw_p23 : lw_okq (⟨"KiteQuarrel", "checkWind", "(I)V"⟩, 11) := ⟨⟨by decide +kernel, by decide +kernel⟩, List.mem_of_getElem? (i := 31) (by decide +kernel), List.mem_of_getElem? (i := 1283) (by decide +kernel), List.mem_of_getElem? (i := 1284) (by decide +kernel)⟩
def lw_privs_2 : List (MethodName × Nat) := [(⟨"KiteQuarrel$Setup", "readNumber", "(II)Z"⟩, 7), (⟨"KiteQuarrel$Kite", "goDownAtFlyer", "()V"⟩, 16), (⟨"KiteQuarrel$Setup", "readOption", "(IIII)Z"⟩, 7), (⟨"KiteQuarrel$Setup", "readWind", "()Z"⟩, 7), (⟨"KiteQuarrel$Setup", "readSpeed", "()Z"⟩, 7), (⟨"KiteQuarrel$Setup", "readSetting", "(I)Z"⟩, 7), (⟨"KiteQuarrel$Setup", "readSemicolon", "()Z"⟩, 7), (⟨"KiteQuarrel", "checkWind", "(I)V"⟩, 11)]
theorem lw_r2 : ∀ q ∈ lw_privs_2, lw_okq q := List.forall_mem_cons.mpr ⟨lw_p16, List.forall_mem_cons.mpr ⟨lw_p17, List.forall_mem_cons.mpr ⟨lw_p18, List.forall_mem_cons.mpr ⟨lw_p19, List.forall_mem_cons.mpr ⟨lw_p20, List.forall_mem_cons.mpr ⟨lw_p21, List.forall_mem_cons.mpr ⟨lw_p22, List.forall_mem_cons.mpr ⟨lw_p23, fun _ h => absurd h List.not_mem_nil⟩⟩⟩⟩⟩⟩⟩⟩
def lw_privs : List (MethodName × Nat) := lw_privs_1 ++ (lw_privs_2)
def lw_tbl : List Cond := k2_sels lw_privs ++ tables_1
theorem lw_privs_ok : ∀ q ∈ lw_privs, lw_okq q := by
  show ∀ q ∈ lw_privs_1 ++ (lw_privs_2), lw_okq q
  exact List.forall_mem_append.mpr ⟨lw_r1, lw_r2⟩
/-! the private methods of StringBuilder's superclass, selected on a StringBuilder -/
theorem ax_sel {y : MethodName} {C : String} {s : State} {args : Array Value} {n : Nat} (hins : (Cond.instantiable C n).before args s = true) (hpriv : (Cond.privateMethod y).before args s = true)
    (hinst : (Cond.instanceMethod y).before args s = true) (hsame : (Cond.sameMethod y.cls y.cls y.name y.desc).before args s = true) : (Cond.selects C y y).before args s = true := by
  obtain ⟨c, k, hc, hk, -, -, -, -⟩ := Cond.instantiable_spec hins
  obtain ⟨cn, ck, r1, hcn, hck, hni, hf, hn1⟩ := Cond.sameMethod_found hsame
  obtain ⟨mk, methM, hnamed, hmethM, -, -⟩ := Cond.instanceMethod_spec hinst
  have hn2 : s.methodNamed? y = some r1 := hn1
  cases hn2.symm.trans hnamed
  have hcls : r1.cls = cn := Option.some.inj ((findClass_of_methodNamed hnamed).symm.trans hcn)
  have hsel : selectMethod {} s.vm c r1 = .method r1 := selectMethod_private hmethM (Cond.privateMethod_at hpriv r1 methM hnamed hmethM)
  simp only [Cond.before, Cond.holds, Cond.value, hc, hf, hnamed, hsel, hcls, hck]
  simp; exact hni
def ax_SB : String := "java/lang/StringBuilder"
def ax_ASB : String := "java/lang/AbstractStringBuilder"
def ax_privs : List MethodName := [⟨ax_ASB, "ensureCapacityInternal", "(I)V"⟩, ⟨ax_ASB, "newCapacity", "(I)I"⟩, ⟨ax_ASB, "putStringAt", "(ILjava/lang/String;)V"⟩, ⟨ax_ASB, "inflateIfNeededFor", "(Ljava/lang/String;)V"⟩]
def ax_sels : List Cond := ax_privs.map fun y => Cond.selects ax_SB y y
def ax_tbl : List Cond := ax_sels ++ lw_tbl
def ax_okq (y : MethodName) : Bool := decide (Cond.privateMethod y ∈ tables_1) && decide (Cond.instanceMethod y ∈ tables_1) && decide (Cond.sameMethod y.cls y.cls y.name y.desc ∈ tables_1)
set_option maxRecDepth 100000 in
theorem ax_privs_ok : ax_privs.all ax_okq = true := by decide +kernel
set_option maxRecDepth 100000 in
theorem ax_SB_ok : Cond.instantiable ax_SB 4 ∈ tables_1 := by decide +kernel
theorem ax_hts {args : Array Value} {s : State} (hts : ∀ w ∈ lw_tbl, w.before args s = true) : ∀ w ∈ ax_tbl, w.before args s = true := by
  intro w hw
  rcases List.mem_append.mp hw with hw | hw
  · obtain ⟨q, hq, rfl⟩ := List.mem_map.mp hw
    have h1 := List.all_eq_true.mp ax_privs_ok q hq
    unfold ax_okq at h1
    simp only [Bool.and_eq_true, decide_eq_true_eq] at h1
    have h2 : ∀ w ∈ tables_1, w.before args s = true := fun w h => hts w (List.mem_append_right _ h)
    exact ax_sel (h2 _ ax_SB_ok) (h2 _ h1.1.1) (h2 _ h1.1.2) (h2 _ h1.2)
  · exact hts w hw
end
section
/-! ===== BEGIN words of one list among another's, by their places ===== -/
theorem goodIn_r {big : List Cond} (ws : List Cond) (ps : List Nat) (hp : ws = ps.filterMap (fun i => big[i]?)) (h : ws.all goodWord = true) : GoodIn big ws := by
  intro w hw
  have h1 := List.all_eq_true.mp h w hw
  rw [hp] at hw
  obtain ⟨i, -, hi⟩ := List.mem_filterMap.mp hw
  have hm : w ∈ big := by first | exact List.mem_of_getElem? hi | exact List.getElem?_mem hi
  exact ⟨hm, good_of_word h1⟩
theorem goodIn_app {big a b : List Cond} (ha : GoodIn big a) (hb : GoodIn big b) : GoodIn big (a ++ b) := fun w h => (List.mem_append.mp h).elim (ha w) (hb w)
theorem goodIn_ca {big a b : List Cond} {c : Cond} (ha : GoodIn big (c :: a)) (hb : GoodIn big b) : GoodIn big (c :: (a ++ b)) := fun w h => (List.mem_cons.mp h).elim (fun e => ha w (List.mem_cons.mpr (Or.inl e))) (fun h => (List.mem_append.mp h).elim (fun h => ha w (List.mem_cons.mpr (Or.inr h))) (hb w))
theorem goodIn_sub {big ws : List Cond} (hm : ∀ w ∈ ws, w ∈ big) (h : ws.all goodWord = true) : GoodIn big ws := fun w hw => ⟨hm w hw, good_of_word (List.all_eq_true.mp h w hw)⟩
/-! ===== END ===== -/

/-! ===== BEGIN new T[n][m]: the outer array a place, the inner ones among the pooled ===== -/
/-- f, but v at every address of l -/
def vr_up {α : Type} (f : Nat → α) (l : List Nat) (v : α) : Nat → α := fun a => if a ∈ l then v else f a
theorem vr_up_in {α : Type} {f : Nat → α} {l : List Nat} {v : α} {a : Nat} (h : a ∈ l) : vr_up f l v a = v := if_pos h
theorem vr_up_ne {α : Type} {f : Nat → α} {l : List Nat} {v : α} {a : Nat} (h : a ∉ l) : vr_up f l v a = f a := if_neg h
theorem vr_rows {L l : List Nat} {f : Nat → va_E} {e : va_E} (h : ∀ a, a ∈ l → a ∉ L) : va_pl L f ++ l.map (fun a => (a, e)) = va_pl (L ++ l) (vr_up f l e) := by
  unfold va_pl
  rw [List.map_append]
  congr 1
  · apply List.map_congr_left
    intro a ha
    rw [vr_up_ne (fun q => h a q ha)]
  · apply List.map_congr_left
    intro a ha
    rw [vr_up_in ha]
theorem vr_lay {X rows : va_W} {x : Nat × va_E} {pl : va_W} {D : va_G} {cl : List vw_C} {H : Heap} (hP : va_P D cl (((X ++ pl) ++ [x]) ++ rows) H) : va_P D cl ((X ++ [x]) ++ (pl ++ rows)) H := by
  rw [List.append_assoc (X ++ pl)] at hP
  have h := va_P.swap hP
  rw [← List.append_assoc X] at h
  have h2 := va_P.swap h
  rw [List.append_assoc (X ++ [x])] at h2
  exact h2
theorem vr_layD {X rows : va_W} {x : Nat × va_E} {pl : va_W} {A : Nat → Prop} (hD : va_D A (((X ++ pl) ++ [x]) ++ rows)) : va_D A ((X ++ [x]) ++ (pl ++ rows)) := by
  rw [List.append_assoc (X ++ pl)] at hD
  have h := va_D.swap hD
  rw [← List.append_assoc X] at h
  have h2 := va_D.swap h
  rw [List.append_assoc (X ++ [x])] at h2
  exact h2
theorem vr_outer (c : ClassId) (N h0 : Nat) : ∀ i : Nat, Jvm.Free.Multi.outerC c N h0 i = arrV c N (fun j => va_rf (if j < i then some (h0 + 1 + j) else none))
  | 0 => by
    show ({ cls := c, slots := Array.replicate N .null, vm := .none } : Cell) = _
    rw [arrV_new]
    refine congrArg (arrV c N) (funext fun j => ?_)
    simp [va_rf]
  | i + 1 => by
    show (Jvm.Free.Multi.outerC c N h0 i).setSlot i (.ref (h0 + 1 + i)) = _
    rw [vr_outer c N h0 i, arrV_store]
    refine congrArg (arrV c N) (funext fun j => ?_)
    by_cases e : j = i
    · subst e
      simp [updV, va_rf]
    · by_cases h : j < i
      · simp [updV, e, h, Nat.lt_succ_of_lt h]
      · simp [updV, e, h, show ¬ j < i + 1 by omega]
def va_AOA (ty : FieldType) (U : State) : Prop := (Cond.arrayOver (.array ty)).before #[] U = true
theorem va_AOA.use {ty : FieldType} {A : Array Value} {U : State} (h : va_AOA ty U) : (Cond.arrayOver (.array ty)).before A U = true := h
section VGM
variable {p : Program} {l : Launch} {e : Env} {R : Room} {s : State} {m : MethodId} {args : Array Value} {below : List Frame} {meth : Method} {c : Code} {H : Heap} {locs : List Loc} {cells slots : Nat} {Q : State → Prop}
variable {cc : ByteArray} {pc : Nat} {ls : Array Slot} {rest : List Value} {D : va_G} {cl : List vw_C} {A : Nat → Prop} {a : Nat} {tys : List (ClassId × FieldType)} {ws : va_W} {H0 : Heap}
theorem va_mna {X : va_W} {L : List Nat} {f : Nat → va_E} {cc : ByteArray} (hexec : p.tables.exec = Jvm.exec) (hb : c.code = cc) {own : String} {index : Nat} {ty : FieldType} {cy : ClassId} (hown : s.vm.findClass own = some m.cls) (hclink : (Cond.classLink own index ("[" ++ (FieldType.array ty).toString)).before args s = true) (hover : va_AOA ty s) (harr : (Cond.arrayClass ty).before args s = true) (hcy : s.vm.findClass (FieldType.array ty).toString = some cy)
    (hK : va_K D cl tys s) (hP : va_P D cl (X ++ va_pl L f) H) (hD : va_D A (X ++ va_pl L f)) (hS : va_S A H0 H locs) (hA : ∀ q, H0.size ≤ q → A q) {n k : Int32} {N' K' : Nat} {z : vp_A} (hn : ¬ n < 0) (hk : ¬ k < 0) (hN : n.toNatClampNeg = N') (hM : k.toNatClampNeg = K')
    (hb1 : N' * 4 ≤ 536870912) (hb2 : K' * componentBytes ty ≤ 536870912) (hb3 : K' ≤ 536870912) (hdf : fits ty (defaultValue ty) = true) (hdd : (defaultValue ty).isDefault = true) (hcells : cells + (1 + N') ≤ R.cells) (hslots : slots + (N' + N' * K') ≤ R.slots) (hz : ∀ c : ClassId, Jvm.Free.Multi.innerC c K' (defaultValue ty) = vp_cell c z) (hdg : decode cc pc = .ok (.multianewarray index 2, 4))
    (kk : ∀ (q : Nat) (r : Nat → Nat) (cA : ClassId) (H1 : Heap), (∀ i j : Nat, i < N' → j < N' → r i = r j → i = j) → (∀ i : Nat, i < N' → r i ∉ L) → va_K D cl (tys ++ [(cA, .array ty)]) s →
      va_P D cl ((X ++ [(q, .inl (cA, N', .inr (.inr (.inr (.inr (fun i => if i < N' then some (r i) else none))))))]) ++ va_pl (L ++ (List.range N').map r) (vr_up f ((List.range N').map r) (.inl (cy, z)))) H1 → va_D A ((X ++ [(q, .inl (cA, N', .inr (.inr (.inr (.inr (fun i => if i < N' then some (r i) else none))))))]) ++ va_pl (L ++ (List.range N').map r) (vr_up f ((List.range N').map r) (.inl (cy, z)))) → va_S A H0 H1 locs →
      W p l e R s m args below meth c H1 locs (cells + 1 + N') (slots + N' + N' * K') Q (F0 m (pc + 4) ls (.ref q :: rest))) : W p l e R s m args below meth c H locs cells slots Q (F0 m pc ls (.int k :: .int n :: rest)) := by
  subst hN
  subst hM
  intro T hT Xs
  obtain ⟨vm₁, cA, comp, -, fA, fC, hO, -, X', step⟩ := Xs.multianewarray2F hexec hown hclink (va_AOA.use hover) harr (g := F0 m pc ls (.int k :: .int n :: rest)) rfl (by rw [hb]; exact hdg) rfl hn hk hb1 hb2 hb3 hdf hdd hcells hslots
  have ec : some cy = some comp := hcy.symm.trans fC
  cases ec
  generalize hF : Jvm.Free.Multi.fill (T.setVm vm₁) cA cy n.toNatClampNeg k.toNatClampNeg (defaultValue ty) n.toNatClampNeg = F at X' step
  have hTh : (T.setVm vm₁).heap = H := hT
  obtain ⟨f1, f2, -, -⟩ := Jvm.Free.Multi.fill_facts (T.setVm vm₁) cA cy n.toNatClampNeg k.toNatClampNeg (defaultValue ty) n.toNatClampNeg
  rw [hF, hTh] at f1 f2
  have hold : ∀ x : Nat, x < H.size → F.heap[x]? = H[x]? := fun x hx => by
    have := Jvm.Free.Multi.fill_old (T.setVm vm₁) cA cy n.toNatClampNeg k.toNatClampNeg (defaultValue ty) (a := x) (by rw [hTh]; exact hx) n.toNatClampNeg
    rw [hF, hTh] at this
    exact this
  have hrow : ∀ j : Nat, j < n.toNatClampNeg → F.heap[H.size + 1 + j]? = some (vp_cell cy z) := fun j hj => by
    have := Jvm.Free.Multi.fill_inner (T.setVm vm₁) cA cy n.toNatClampNeg k.toNatClampNeg (defaultValue ty) n.toNatClampNeg j hj
    rw [hF, hTh, hz] at this
    exact this
  have hout : Jvm.Free.Multi.outerC cA n.toNatClampNeg H.size n.toNatClampNeg = vp_cell cA (n.toNatClampNeg, .inr (.inr (.inr (.inr (fun i => if i < n.toNatClampNeg then some (H.size + 1 + i) else none))))) := by
    rw [vp_cell_q]
    exact vr_outer cA n.toNatClampNeg H.size n.toNatClampNeg
  rw [hout] at f2
  have hlt : ∀ a, a ∈ L → a < H.size := fun a ha => by
    obtain ⟨k9, hk9⟩ := va_pl_get (X := X) (f := f) ha
    exact (hP k9 _ hk9).lt
  have hnl : ∀ i : Nat, i < n.toNatClampNeg → H.size + 1 + i ∉ L := fun i _ h => by
    have := hlt _ h
    omega
  have hnm : ∀ a, a ∈ (List.range n.toNatClampNeg).map (fun i => H.size + 1 + i) → a ∉ L := fun a ha h => by
    obtain ⟨i, -, rfl⟩ := List.mem_map.mp ha
    have := hlt _ h
    omega
  have hP0 : va_P D cl (X ++ va_pl L f) F.heap := hP.kept (fun k9 x hx => hold x.1 ((hP k9 x hx).lt))
  have hP1 : va_P D cl ((X ++ va_pl L f) ++ [(H.size, .inl (cA, n.toNatClampNeg, .inr (.inr (.inr (.inr (fun i => if i < n.toNatClampNeg then some (H.size + 1 + i) else none))))))]) F.heap := hP0.app (fun k9 x hx => by
    have h0 : k9 < 1 := (List.getElem?_eq_some_iff.mp hx).1
    rw [show k9 = 0 by omega] at hx
    cases hx
    exact f2)
  have hP2 : va_P D cl (((X ++ va_pl L f) ++ [(H.size, .inl (cA, n.toNatClampNeg, .inr (.inr (.inr (.inr (fun i => if i < n.toNatClampNeg then some (H.size + 1 + i) else none))))))]) ++ ((List.range n.toNatClampNeg).map (fun i => H.size + 1 + i)).map (fun a => (a, .inl (cy, z)))) F.heap := hP1.app (fun k9 x hx => by
    obtain ⟨a, ha, rfl⟩ := List.mem_map.mp (List.mem_of_getElem? hx)
    obtain ⟨i, hi, rfl⟩ := List.mem_map.mp ha
    exact hrow i (List.mem_range.mp hi))
  have hD2 : va_D A (((X ++ va_pl L f) ++ [(H.size, .inl (cA, n.toNatClampNeg, .inr (.inr (.inr (.inr (fun i => if i < n.toNatClampNeg then some (H.size + 1 + i) else none))))))]) ++ ((List.range n.toNatClampNeg).map (fun i => H.size + 1 + i)).map (fun a => (a, .inl (cy, z)))) := by
    have hD1 := hD.push (e := .inl (cA, n.toNatClampNeg, .inr (.inr (.inr (.inr (fun i => if i < n.toNatClampNeg then some (H.size + 1 + i) else none)))))) hP rfl (hA _ hS.1)
    generalize hW1 : (X ++ va_pl L f) ++ [(H.size, .inl (cA, n.toNatClampNeg, .inr (.inr (.inr (.inr (fun i => if i < n.toNatClampNeg then some (H.size + 1 + i) else none))))))] = W1 at hD1 hP1 ⊢
    have hle : ∀ (k9 : Nat) (x : Nat × va_E), W1[k9]? = some x → x.1 ≤ H.size := fun k9 x hx => by
      rw [← hW1] at hx
      by_cases hl : k9 < (X ++ va_pl L f).length
      · rw [List.getElem?_append_left hl] at hx
        exact Nat.le_of_lt ((hP k9 x hx).lt)
      · rw [List.getElem?_append_right (by omega)] at hx
        have h0 : k9 - (X ++ va_pl L f).length < 1 := (List.getElem?_eq_some_iff.mp hx).1
        rw [show k9 - (X ++ va_pl L f).length = 0 by omega] at hx
        cases hx
        exact Nat.le_refl _
    have hr : ∀ (k9 : Nat) (x : Nat × va_E), (((List.range n.toNatClampNeg).map (fun i => H.size + 1 + i)).map (fun a => ((a, .inl (cy, z)) : Nat × va_E)))[k9]? = some x → x.1 = H.size + 1 + k9 := fun k9 x hx => by
      rw [List.getElem?_map, List.getElem?_map] at hx
      by_cases h9 : k9 < n.toNatClampNeg
      · rw [List.getElem?_range h9] at hx
        cases hx
        rfl
      · have hn0 : (List.range n.toNatClampNeg)[k9]? = none := List.getElem?_eq_none (by rw [List.length_range]; omega)
        rw [hn0] at hx
        cases hx
    refine ⟨fun i j x y hi hj hxy => ?_, fun k9 x hx => ?_⟩
    · by_cases h1 : i < W1.length <;> by_cases h2 : j < W1.length
      · rw [List.getElem?_append_left h1] at hi
        rw [List.getElem?_append_left h2] at hj
        exact hD1.1 i j x y hi hj hxy
      · rw [List.getElem?_append_left h1] at hi
        rw [List.getElem?_append_right (by omega)] at hj
        have := hle _ _ hi
        have := hr _ _ hj
        omega
      · rw [List.getElem?_append_right (by omega)] at hi
        rw [List.getElem?_append_left h2] at hj
        have := hle _ _ hj
        have := hr _ _ hi
        omega
      · rw [List.getElem?_append_right (by omega)] at hi hj
        have := hr _ _ hi
        have := hr _ _ hj
        omega
    · by_cases h1 : k9 < W1.length
      · rw [List.getElem?_append_left h1] at hx
        exact hD1.2 k9 x hx
      · rw [List.getElem?_append_right (by omega)] at hx
        have := hr _ _ hx
        exact hA _ (by have := hS.1; omega)
  have hAr : ArrOfT s cA (.array ty) := fun N9 z9 => by
    obtain ⟨-, k9, hk9, cm9, hkk9⟩ := (hO 0 0 0).1
    exact ⟨(fun q hq => by cases hq), k9, hk9, cm9, hkk9⟩
  have hK2 : va_K D cl (tys ++ [(cA, .array ty)]) s := ⟨hK.1, fun k9 x hx => by
    by_cases hl : k9 < tys.length
    · rw [List.getElem?_append_left hl] at hx
      exact hK.2 k9 x hx
    · rw [List.getElem?_append_right (by omega)] at hx
      have h0 : k9 - tys.length < 1 := (List.getElem?_eq_some_iff.mp hx).1
      rw [show k9 - tys.length = 0 by omega] at hx
      cases hx
      exact ⟨hAr, fA⟩⟩
  obtain ⟨t, a1, b1⟩ := kk H.size (fun i => H.size + 1 + i) cA F.heap (fun i j _ _ h => by have h9 : H.size + 1 + i = H.size + 1 + j := h; omega) hnl hK2 (by rw [← vr_rows hnm]; exact vr_lay hP2) (by rw [← vr_rows hnm]; exact vr_layD hD2) ⟨by rw [f1]; have := hS.1; omega, fun x h1 h2 => (hold x (Nat.lt_of_lt_of_le h1 hS.1)).trans (hS.2.1 x h1 h2), hS.2.2⟩ F rfl X'
  refine ⟨t, step t ?_, b1⟩
  have e : T.heap.size = H.size := by rw [hT]
  rw [e]
  exact a1
end VGM
/-! ===== END ===== -/

/-! ===== BEGIN exceptions that leave a method, and their catching by the caller (launches without stack traces) ===== -/
section VXA
/-! The laws vx_back, vx_callV, vx_callS, vx_callSW, vx_throw0, vx_throwS follow proofs of the library, with one case more: JvmDerived/Free/Laws.lean (Back.of_free), Shelf42/LK1.lean (callV, callS), Shelf/KitTraced.lean (throwNew0V, throwNewS). -/
/-- where a method has thrown q: the class by its name, the cell, what was written, the world -/
def vx_T (XC : String → State → State → Prop) (st : State) (q : Addr) (t : State) (mc ms : Nat) (free : Addr → Prop) : Prop :=
  ∃ (E : String) (ce : Cell) (L : List Loc), XC E st t ∧ t.heap[q]? = some ce ∧ ce.vm = .none ∧ st.vm.findClass E = some ce.cls ∧ st.WarmedH t.vm ∧ st.sameButNew ({ t with vm := st.vm } : State) L mc ms ∧ ∀ z ∈ L, free z.base
def vx_Q (Qc : Array Value → State → Outcome → State → Prop) (XC : String → State → State → Prop) (mc ms : Nat) (free : Addr → Prop) : Array Value → State → Outcome → State → Prop := fun a st o t =>
  (Qc a st o t ∧ ∃ L, FrameEnd st o t L mc ms ∧ ∀ q ∈ L, free q.base) ∨ ∃ q, o = .threw q ∧ vx_T XC st q t mc ms free
/-- a callee that returns or throws -/
def vx_Met (l : Launch) (y : MethodName) (ws : List Cond) (rm : Room) (Pc : Array Value → State → Prop) (Qc : Array Value → State → Outcome → State → Prop) (XC : String → State → State → Prop) (mc ms : Nat) (free : Addr → Prop) : Prop :=
  MetFree l y (headSpec ws rm) Pc (fun _ _ _ _ _ => True) (vx_Q Qc XC mc ms free)
def vx_Post (XC : String → State → State → Prop) (mc ms : Nat) (free : Addr → Prop) : Pt → Array Value → Addr → Pt → Prop := fun A a q B =>
  ∃ (g : JFrame) (mk : MethodId) (t : State) (L : List Loc) (E : String) (ce : Cell), B.U.heap = t.heap ∧ B.U.vm = t.vm ∧ XC E (A.U.calling g mk a) t ∧ t.heap[q]? = some ce ∧ ce.vm = .none ∧ A.U.vm.findClass E = some ce.cls ∧ B.locs = A.locs ++ L ∧ (∀ z ∈ L, free z.base) ∧ B.cells = A.cells + mc ∧ B.slots = A.slots + ms
def vx_Back (l : Launch) (R : Room) (p : Program) (e : Env) (below : List Frame) (s : State) (sargs : Array Value) (y : MethodName) (len W9 : Nat)
    (Pre : Pt → Array Value → Prop) (Post : Pt → Array Value → Option Value → Pt → Prop) (PostX : Pt → Array Value → Addr → Pt → Prop) : Prop :=
  ∀ (m : MethodId) (meth : Method) (c : Code) (A : Pt) (g : JFrame) (ig : Instr) (mk : MethodId) (a : Array Value),
    Stand p l e R s m sargs below meth c A.U A.locs A.cells A.slots → g.method = m → g.locals.size = c.maxLocals → decode c.code g.pc = .ok (ig, len) →
    2 * g.monitorRoom + (g.stack.map fun v => v.category).sum ≤ W9 → A.U.methodNamed? y = some mk → Pre A a →
    (∃ (v : Option Value) (B : Pt), Stand p l e R s m sargs below meth c B.U B.locs B.cells B.slots ∧ Post A a v B ∧
      Steps p.tables e below (doInvoke e (A.U.setTop g) [] mk a).1 (B.U.setTop { g with pc := g.pc + len, stack := v.toList ++ g.stack })) ∨
    (∃ (q : Addr) (B : Pt), Stand p l e R s m sargs below meth c B.U B.locs B.cells B.slots ∧ PostX A a q B ∧
      Steps p.tables e below (doInvoke e (A.U.setTop g) [] mk a).1 ((B.U.setTop g).pushFrame (.throwing q)))
section Payer
variable {l : Launch} {R : Room} {p : Program} {e : Env} {below : List Frame} {s : State} {sargs : Array Value} {y : MethodName} {len W9 : Nat}
theorem vx_back {ws : List Cond} {rm : Room} {Pc : Array Value → State → Prop} {Qc : Array Value → State → Outcome → State → Prop} {XC : String → State → State → Prop} {mc ms : Nat} {free : Addr → Prop} {bytes : ByteArray} {maxL : Nat} {ret : Option FieldType}
    (hM : vx_Met l y ws rm Pc Qc XC mc ms free) (hblind : FrameBlind Pc) (hrc : rm.cells = mc) (hrs : rm.slots = ms)
    (hframes : rm.frames + 1 ≤ R.frames) (hlocals : W9 + (maxL + 11) + rm.locals ≤ R.locals)
    (hws : ∀ w ∈ ws, ∀ a' U, s.WarmedH U.vm → w.before a' U = true) (hcode : Cond.code y bytes maxL ret ∈ ws) (hinit : ∀ a' U, s.WarmedH U.vm → (Cond.initialized y.cls).before a' U = true) :
    vx_Back l R p e below s sargs y len W9 (PreOf R mc ms Pc) (PostOf Qc mc ms free) (vx_Post XC mc ms free) := by
  intro m meth c A g ig mk a X hg hsize hdg hW hn hp
  have h1 : (headSpec ws rm).pre.before a A.U = true := atoms_intro fun w hw => hws w hw _ _ X.warmed
  have h2 : (Cond.code y bytes maxL ret).before a A.U = true := hws _ hcode _ _ X.warmed
  have h3 : (Cond.initialized y.cls).before a A.U = true := hinit _ _ X.warmed
  have h4 : A.cells + (headSpec ws rm).room.cells ≤ R.cells := by rw [show (headSpec ws rm).room.cells = mc from hrc]; exact hp.1
  have h5 : A.slots + (headSpec ws rm).room.slots ≤ R.slots := by rw [show (headSpec ws rm).room.slots = ms from hrs]; exact hp.2.1
  have hPc : Pc a (A.U.calling g mk a) := hblind _ _ _ _ hp.2.2
  obtain ⟨U, Ls, c0, s0⟩ := A
  dsimp only [Pt.U, Pt.locs, Pt.cells, Pt.slots] at h1 h2 h3 h4 h5 X hn hPc ⊢
  obtain ⟨methY, cY, hmY, hcY, -, hlY, -, -, -, -⟩ := Cond.code_spec hn h2
  obtain ⟨kY, hkY, -⟩ := className_of_methodNamed hn
  have hinitY : kY.init = .initialized := Cond.initialized_spec (findClass_of_methodNamed hn) hkY h3
  have h : At U g.method c below := by rw [hg]; exact X.here
  have hlocals9 : W9 + (maxL + 11) + (headSpec ws rm).room.locals ≤ R.locals := hlocals
  have happ : (headSpec ws rm).appliesLoose y e.platform (U.calling g mk a) = true :=
    Spec.appliesLoose_calling (g := g) h hdg hn hkY hinitY
      (X.room_calling (g := g) (R' := (headSpec ws rm).room) hsize hmY hcY hframes (by rw [hlY]; omega) h4 h5) h1
  obtain ⟨mid, hmid⟩ := h.above
  have hfr : (U.setTop g).frames = (.java g :: mid) ++ below := by rw [State.frames_setTop' g h.top, hmid]; rfl
  obtain ⟨o, s₂, hsteps, -, hend, hq⟩ := Steps.callFree hM p X.admits X.cas X.clock (acts := []) hfr happ hPc trivial
  have hq' : vx_Q Qc XC mc ms free a (U.calling g mk a) o s₂ := hq
  rw [State.frames_setTop' g h.top] at hend
  obtain ⟨g₀, hg0⟩ := Option.isSome_iff_exists.mp h.top
  obtain ⟨r, hr⟩ := State.topJava?_eq_some.mp hg0
  have hr' : (({ U with heap := s₂.heap, slotsUsed := s₂.slotsUsed } : State).setVm s₂.vm).frames = .java g₀ :: r := hr
  rcases hq' with ⟨hqc, L, hfe, hL⟩ | ⟨q, rfl, E, ce, L, hx, hce, hcv, hcl, hW₂, hsm, hL⟩
  · obtain ⟨⟨v, rfl⟩, hW₂, e2, q2, q3, q4, q5, q6⟩ := id hfe
    have e3 : s₂ = ({ (U.calling g mk a).setFrames s₂.frames with heap := s₂.heap, slotsUsed := s₂.slotsUsed } : State).setVm s₂.vm := by
      have : s₂ = ({ s₂ with vm := (U.calling g mk a).vm } : State).setVm s₂.vm := rfl
      rw [e2] at this
      exact this
    obtain ⟨c₂, i₂, len₂, hc₂, hd₂, hf₂⟩ := hend
    have hW' : U.WarmedH s₂.vm := hW₂
    have hcc : c₂ = c := by
      have h1 : s₂.code? g.method = U.code? g.method := by
        rw [State.code?_eq, State.code?_eq, hW'.alike.method?]
      exact Option.some.inj (hc₂.symm.trans (h1.trans h.code))
    subst hcc
    have hlen : len₂ = len := by rw [hdg] at hd₂; cases hd₂; rfl
    subst hlen
    have hs₂ : s₂ = (({ U with heap := s₂.heap, slotsUsed := s₂.slotsUsed } : State).setVm s₂.vm).setTop { g with pc := g.pc + len₂, stack := v.toList ++ g.stack } := by
      refine e3.trans ?_
      rw [hf₂, State.calling_eq h.top, State.setFrames_setFrames, State.setTop_of_frames _ hr', hr]
      rfl
    have hsame : U.sameButNew ({ U with heap := s₂.heap, slotsUsed := s₂.slotsUsed } : State) L mc ms := by
      refine ⟨?_, q2, q3, q4, q5, q6⟩
      obtain ⟨t, ht, -⟩ := State.frames_cons hr
      show ({ U with heap := s₂.heap, slotsUsed := s₂.slotsUsed } : State) = { U.setFrames U.frames with heap := s₂.heap, slotsUsed := s₂.slotsUsed }
      rw [State.setFrames_self ht]
    subst hg
    refine Or.inl ⟨v, ⟨(({ U with heap := s₂.heap, slotsUsed := s₂.slotsUsed } : State).setVm s₂.vm), Ls ++ L, c0 + mc, s0 + ms⟩,
      ⟨X.admits, X.cas, X.clock, X.frames, X.room, X.hears, X.method, X.code, (X.here.setHeapUsed s₂.heap s₂.slotsUsed).setVm hW'.alike, X.tail, State.WarmedH.trans X.warmed hW', X.limits, X.bytes, X.same.trans (hsame.setVm s.vm)⟩,
      ⟨g, mk, s₂, L, rfl, rfl, hqc, rfl, hL, rfl, rfl⟩, ?_⟩
    show Steps p.tables e below _ ((({ U with heap := s₂.heap, slotsUsed := s₂.slotsUsed } : State).setVm s₂.vm).setTop { g with pc := g.pc + len₂, stack := v.toList ++ g.stack })
    rw [← hs₂]
    exact hsteps
  · obtain ⟨e2, q2, q3, q4, q5, q6⟩ := id hsm
    have e3 : s₂ = ({ (U.calling g mk a).setFrames s₂.frames with heap := s₂.heap, slotsUsed := s₂.slotsUsed } : State).setVm s₂.vm := by
      have : s₂ = ({ s₂ with vm := (U.calling g mk a).vm } : State).setVm s₂.vm := rfl
      rw [e2] at this
      exact this
    have hf₂ : s₂.frames = .throwing q :: .java g :: U.frames.tail := hend
    have hW' : U.WarmedH s₂.vm := hW₂
    have hs₂ : s₂ = ((({ U with heap := s₂.heap, slotsUsed := s₂.slotsUsed } : State).setVm s₂.vm).setTop g).pushFrame (.throwing q) := by
      refine e3.trans ?_
      rw [hf₂, State.calling_eq h.top, State.setFrames_setFrames, State.pushFrame, State.frames_setTop _ hr', State.setTop_of_frames _ hr', State.setFrames_setFrames, hr]
      rfl
    have hsame : U.sameButNew ({ U with heap := s₂.heap, slotsUsed := s₂.slotsUsed } : State) L mc ms := by
      refine ⟨?_, q2, q3, q4, q5, q6⟩
      obtain ⟨t, ht, -⟩ := State.frames_cons hr
      show ({ U with heap := s₂.heap, slotsUsed := s₂.slotsUsed } : State) = { U.setFrames U.frames with heap := s₂.heap, slotsUsed := s₂.slotsUsed }
      rw [State.setFrames_self ht]
    subst hg
    refine Or.inr ⟨q, ⟨(({ U with heap := s₂.heap, slotsUsed := s₂.slotsUsed } : State).setVm s₂.vm), Ls ++ L, c0 + mc, s0 + ms⟩,
      ⟨X.admits, X.cas, X.clock, X.frames, X.room, X.hears, X.method, X.code, (X.here.setHeapUsed s₂.heap s₂.slotsUsed).setVm hW'.alike, X.tail, State.WarmedH.trans X.warmed hW', X.limits, X.bytes, X.same.trans (hsame.setVm s.vm)⟩,
      ⟨g, mk, s₂, L, E, ce, rfl, rfl, hx, hce, hcv, hcl, rfl, hL, rfl, rfl⟩, ?_⟩
    show Steps p.tables e below _ (((({ U with heap := s₂.heap, slotsUsed := s₂.slotsUsed } : State).setVm s₂.vm).setTop g).pushFrame (.throwing q))
    rw [← hs₂]
    exact hsteps
end Payer
section Calls
variable {p : Program} {l : Launch} {e : Env} {R : Room} {s : State} {m : MethodId} {args : Array Value} {below : List Frame} {meth : Method} {c : Code} {T : State} {locs : List Loc} {cells slots : Nat}
theorem vx_callV (X : Stand p l e R s m args below meth c T locs cells slots) (hexec : p.tables.exec = Jvm.exec) {own C : String} {index : Nat} {y : MethodName} {bytes : ByteArray} {maxL : Nat} {ret : Option FieldType}
    (hown : s.vm.findClass own = some m.cls) (hlink : (Cond.methodLink own index y).before args s = true) (hinst : (Cond.instanceMethod y).before args s = true) (hsel : (Cond.selects C y y).before args s = true)
    (hcode : (Cond.code y bytes maxL ret).before args s = true) (hy : y.cls ≠ "java/lang/invoke/MethodHandle" ∧ y.cls ≠ "java/lang/invoke/VarHandle")
    {W9 : Nat} {Pre : Pt → Array Value → Prop} {Post : Pt → Array Value → Option Value → Pt → Prop} {PostX : Pt → Array Value → Addr → Pt → Prop} (hK : vx_Back l R p e below s args y 3 W9 Pre Post PostX)
    {b : Addr} {cellB : Cell} (hcell : T.heap[b]? = some cellB) (hobj : cellB.vm.isStatics = false) (hcls : s.vm.findClass C = some cellB.cls)
    {g : JFrame} (hg : g.method = m) (hsize : g.locals.size = c.maxLocals) {argsL rest : List Value} (hlen : ∀ sig, parseMethodDescriptor y.desc = some sig → argsL.length = sig.parameters.length)
    (hstack : g.stack = argsL.reverse ++ .ref b :: rest) (hW : 2 * g.monitorRoom + (rest.map fun v => v.category).sum ≤ W9) (hdg : decode c.code g.pc = .ok (.invokevirtual index, 3))
    (hpre : ∀ vm₁, s.WarmedH vm₁ → Pre ⟨T.setVm vm₁, locs, cells, slots⟩ (Value.ref b :: argsL).toArray) :
    (∃ (v : Option Value) (vm₁ : Vm) (B : Pt), s.WarmedH vm₁ ∧ Stand p l e R s m args below meth c B.U B.locs B.cells B.slots ∧ Post ⟨T.setVm vm₁, locs, cells, slots⟩ (Value.ref b :: argsL).toArray v B ∧
      ∀ target, Steps p.tables e below (B.U.setTop { g with pc := g.pc + 3, stack := v.toList ++ rest }) target → Steps p.tables e below (T.setTop g) target) ∨
    (∃ (q : Addr) (vm₁ : Vm) (B : Pt), s.WarmedH vm₁ ∧ Stand p l e R s m args below meth c B.U B.locs B.cells B.slots ∧ PostX ⟨T.setVm vm₁, locs, cells, slots⟩ (Value.ref b :: argsL).toArray q B ∧
      Steps p.tables e below (T.setTop g) ((B.U.setTop { g with stack := rest }).pushFrame (.throwing q))) := by
  obtain ⟨mk, methM, hnamed, hmethM, hstM, habM⟩ := Cond.instanceMethod_spec hinst
  obtain ⟨methM', cM, hmethM', -, -, -, -, -, -, hsigM⟩ := Cond.code_spec hnamed hcode
  cases hmethM.symm.trans hmethM'
  obtain ⟨c2, r2, m2, q1, q2, q3, q4, kP, hkP, hkPi⟩ := Cond.selects_spec hsel
  cases hcls.symm.trans q1
  cases (State.methodFound?_of_named hnamed hy).symm.trans q2
  cases hnamed.symm.trans q3
  have hselP : selectMethod e.platform s.vm cellB.cls mk = .method mk := by rw [Launch.admits_selectMethod X.admits]; exact q4
  obtain ⟨vm₁, X₁, hstep₁⟩ := X.invokevirtual hexec hown hlink hnamed hmethM hstM hkP hkPi hy (a := b) (cell := cellB) hcell
    (fun z h => by rw [h] at hobj; cases hobj) hselP hmethM habM hkP hkPi (g := g) hg (argsL := argsL) (rest := rest) (hlen _ hsigM) hstack hdg
  rcases hK m meth c ⟨T.setVm vm₁, locs, cells, slots⟩ { g with stack := rest } (.invokevirtual index) mk (Value.ref b :: argsL).toArray X₁ hg hsize hdg hW (X₁.named hnamed) (hpre vm₁ X₁.warmed) with ⟨v, B, X', hpost, hsteps⟩ | ⟨q, B, X', hpost, hsteps⟩
  · exact Or.inl ⟨v, vm₁, B, X₁.warmed, X', hpost, fun target h => hstep₁ _ fun acts => by rw [doInvoke_state]; exact hsteps.trans h⟩
  · exact Or.inr ⟨q, vm₁, B, X₁.warmed, X', hpost, hstep₁ _ fun acts => by rw [doInvoke_state]; exact hsteps⟩
theorem vx_callS (X : Stand p l e R s m args below meth c T locs cells slots) (hexec : p.tables.exec = Jvm.exec) {own : String} {index : Nat} {y : MethodName} {bytes : ByteArray} {maxL : Nat} {ret : Option FieldType}
    (hown : s.vm.findClass own = some m.cls) (hlink : (Cond.methodLink own index y).before args s = true) (hstat : (Cond.static y).before args s = true) (hinit : (Cond.initialized y.cls).before args s = true)
    (hcode : (Cond.code y bytes maxL ret).before args s = true) (hy : y.cls ≠ "java/lang/invoke/MethodHandle" ∧ y.cls ≠ "java/lang/invoke/VarHandle")
    {W9 : Nat} {Pre : Pt → Array Value → Prop} {Post : Pt → Array Value → Option Value → Pt → Prop} {PostX : Pt → Array Value → Addr → Pt → Prop} (hK : vx_Back l R p e below s args y 3 W9 Pre Post PostX)
    {g : JFrame} (hg : g.method = m) (hsize : g.locals.size = c.maxLocals) {argsL rest : List Value} (hlen : ∀ sig, parseMethodDescriptor y.desc = some sig → argsL.length = sig.parameters.length)
    (hstack : g.stack = argsL.reverse ++ rest) (hW : 2 * g.monitorRoom + (rest.map fun v => v.category).sum ≤ W9) (hdg : decode c.code g.pc = .ok (.invokestatic index, 3))
    (hpre : ∀ vm₁, s.WarmedH vm₁ → Pre ⟨T.setVm vm₁, locs, cells, slots⟩ argsL.toArray) :
    (∃ (v : Option Value) (vm₁ : Vm) (B : Pt), s.WarmedH vm₁ ∧ Stand p l e R s m args below meth c B.U B.locs B.cells B.slots ∧ Post ⟨T.setVm vm₁, locs, cells, slots⟩ argsL.toArray v B ∧
      ∀ target, Steps p.tables e below (B.U.setTop { g with pc := g.pc + 3, stack := v.toList ++ rest }) target → Steps p.tables e below (T.setTop g) target) ∨
    (∃ (q : Addr) (vm₁ : Vm) (B : Pt), s.WarmedH vm₁ ∧ Stand p l e R s m args below meth c B.U B.locs B.cells B.slots ∧ PostX ⟨T.setVm vm₁, locs, cells, slots⟩ argsL.toArray q B ∧
      Steps p.tables e below (T.setTop g) ((B.U.setTop { g with stack := rest }).pushFrame (.throwing q))) := by
  obtain ⟨mk, hnamed⟩ := Cond.code_named hcode
  obtain ⟨methM, cM, hmethM, -, -, -, -, -, -, hsigM⟩ := Cond.code_spec hnamed hcode
  have hstatic : methM.isStatic = true := Cond.static_spec hnamed hmethM hstat
  obtain ⟨kP, hkP, -⟩ := className_of_methodNamed hnamed
  have hinitP : kP.init = .initialized := Cond.initialized_spec (findClass_of_methodNamed hnamed) hkP hinit
  obtain ⟨vm₁, X₁, hstep₁⟩ := X.invokestatic hexec hown hlink hnamed hmethM hstatic hkP hinitP hy (g := g) hg (argsL := argsL) (rest := rest) (hlen _ hsigM) hstack hdg
  rcases hK m meth c ⟨T.setVm vm₁, locs, cells, slots⟩ { g with stack := rest } (.invokestatic index) mk argsL.toArray X₁ hg hsize hdg hW (X₁.named hnamed) (hpre vm₁ X₁.warmed) with ⟨v, B, X', hpost, hsteps⟩ | ⟨q, B, X', hpost, hsteps⟩
  · exact Or.inl ⟨v, vm₁, B, X₁.warmed, X', hpost, fun target h => hstep₁ _ fun acts => by rw [doInvoke_state]; exact hsteps.trans h⟩
  · exact Or.inr ⟨q, vm₁, B, X₁.warmed, X', hpost, hstep₁ _ fun acts => by rw [doInvoke_state]; exact hsteps⟩
end Calls
theorem vx_cls {s : State} {T : State} {vm₁ : Vm} {E : String} {k : ClassId} (hW : s.WarmedH vm₁) (h : (T.setVm vm₁).vm.findClass E = some k) : s.vm.findClass E = some k := by
  have h1 : vm₁.findClass E = some k := h
  rw [hW.alike.findClass] at h1
  exact h1
/-- the method's frame g, with q thrown over it -/
def vx_W (p : Program) (l : Launch) (e : Env) (R : Room) (s : State) (m : MethodId) (args : Array Value) (below : List Frame) (meth : Method) (c : Code) (H : Heap) (locs : List Loc) (cells slots : Nat) (Q : State → Prop) (g : JFrame) (q : Addr) : Prop :=
  ∀ T : State, T.heap = H → Stand p l e R s m args below meth c T locs cells slots → ∃ t, Steps p.tables e below ((T.setTop g).pushFrame (.throwing q)) t ∧ Q t
def vx_Run (p : Program) (l : Launch) (e : Env) (R : Room) (s : State) (m : MethodId) (args : Array Value) (below : List Frame) (meth : Method) (c : Code) (H : Heap) (locs : List Loc) (cells slots mc ms : Nat) (g : JFrame) (rest : List Value) (Qa : State → Outcome → State → Prop) (XC : String → State → State → Prop) (free : Addr → Prop) : Prop :=
  ∀ T : State, T.heap = H → Stand p l e R s m args below meth c T locs cells slots →
    (∃ (v : Option Value) (st₀ t T' : State) (L : List Loc), st₀.heap = H ∧ Stand p l e R s m args below meth c T' (locs ++ L) (cells + mc) (slots + ms) ∧ (∀ q ∈ L, free q.base) ∧ T'.heap = t.heap ∧ T'.vm = t.vm ∧ Qa st₀ (.returned v) t ∧
      Goes p e below T g T' { g with pc := g.pc + 3, stack := v.toList ++ rest }) ∨
    (∃ (q : Addr) (st₀ t T' : State) (L : List Loc) (E : String) (ce : Cell), st₀.heap = H ∧ Stand p l e R s m args below meth c T' (locs ++ L) (cells + mc) (slots + ms) ∧ (∀ z ∈ L, free z.base) ∧ T'.heap = t.heap ∧ T'.vm = t.vm ∧ XC E st₀ t ∧ t.heap[q]? = some ce ∧ ce.vm = .none ∧ s.vm.findClass E = some ce.cls ∧
      Steps p.tables e below (T.setTop g) ((T'.setTop { g with stack := rest }).pushFrame (.throwing q)))
def vx_X {S : Type} (px : S → Prop) (B : String → S → State → Prop) (A : Nat → Prop) : String → State → State → Prop := fun E st t => ∃ u : S, px u ∧ B E u t ∧ va_F A st t
section Runs
variable {p : Program} {l : Launch} {e : Env} {R : Room} {s : State} {m : MethodId} {args : Array Value} {below : List Frame} {meth : Method} {c : Code} {H : Heap} {locs : List Loc} {cells slots : Nat}
variable {y : MethodName} {bytes cc : ByteArray} {maxL nL mc ms n index : Nat} {ret : Option FieldType} {ws : List Cond} {rm : Room} {Pc : Array Value → State → Prop} {Qc : Array Value → State → Outcome → State → Prop} {XC : String → State → State → Prop} {free : Addr → Prop} {Ts : List Cond} {own C : String} {b : Addr} {As rest : List Value} {g : JFrame}
theorem vx_callBack (cb : CallB R s args own index y bytes maxL ret ws rm mc ms n) (hM : vx_Met l y ws rm Pc Qc XC mc ms free) (hbl : FrameBlind Pc) : vx_Back l R p e below s args y 3 8 (PreOf R mc ms Pc) (PostOf Qc mc ms free) (vx_Post XC mc ms free) := by
  obtain ⟨hrc, hrs, hfr, hlo, hws, hcw, -, hini, -⟩ := cb
  exact vx_back (bytes := bytes) (maxL := maxL) (ret := ret) hM hbl hrc hrs hfr hlo hws hcw (fun a' U hW => word_at hW (Or.inl (by first | rfl | simp [Cond.onTables, Cond.keeps, Cond.steady])) hini)
theorem vx_runV (S : CallFix p m c cc nL s args Ts own) (hM : vx_Met l y ws rm Pc Qc XC mc ms free) (cw : CallW R s args own C index y bytes maxL ret ws rm mc ms n) (hp : PreV s H C b Pc As)
    (hg : g.method = m) (hn : As.length = n) (hsize : g.locals.size = nL) (hstack : g.stack = As.reverse ++ .ref b :: rest) (hW : 2 * g.monitorRoom + (rest.map fun v => v.category).sum ≤ 8) (hdg : decode cc g.pc = .ok (.invokevirtual index, 3)) (hf : cells + mc ≤ R.cells ∧ slots + ms ≤ R.slots) :
    vx_Run p l e R s m args below meth c H locs cells slots mc ms g rest (Qc (Value.ref b :: As).toArray) XC free := by
  have hK : vx_Back l R p e below s args y 3 8 (PreOf R mc ms Pc) (PostOf Qc mc ms free) (vx_Post XC mc ms free) := vx_callBack cw.1 hM hp.1
  obtain ⟨⟨-, -, -, -, -, -, hcode, -, hy, hlen, hl⟩, hin, hse⟩ := cw
  obtain ⟨hx, hb, hml, ho, -⟩ := S
  obtain ⟨-, ⟨cellB, hcB, hoB, hclB⟩, hPc⟩ := hp
  intro T hT X
  rcases vx_callV X hx (C := C) (bytes := bytes) (maxL := maxL) (ret := ret) ho hl hin hse hcode hy hK (by rw [hT]; exact hcB) hoB hclB hg (hsize.trans hml.symm) (argsL := As) (rest := rest) (fun sig h => hn.trans (hlen sig h)) hstack hW (by rw [hb]; exact hdg)
    (fun vm₁ hW₁ => ⟨hf.1, hf.2, hPc (T.setVm vm₁) hT hW₁⟩) with ⟨v, vm₁, ⟨U', l2, c2, s2⟩, hW₁, X', ⟨g', mk, t, L, e1, e2, hq, h1, hL, h2, h3⟩, st⟩ | ⟨q, vm₁, ⟨U', l2, c2, s2⟩, hW₁, X', ⟨g', mk, t, L, E, ce, e1, e2, hq, hce, hcv, hcl, h1, hL, h2, h3⟩, st⟩
  · dsimp only [Pt.U, Pt.locs, Pt.cells, Pt.slots] at X' e1 e2 h1 h2 h3 st
    subst h1; subst h2; subst h3
    exact Or.inl ⟨v, (T.setVm vm₁).calling g' mk (Value.ref b :: As).toArray, t, U', L, hT, X', hL, e1, e2, hq, st⟩
  · dsimp only [Pt.U, Pt.locs, Pt.cells, Pt.slots] at X' e1 e2 h1 h2 h3 st hcl
    subst h1; subst h2; subst h3
    exact Or.inr ⟨q, (T.setVm vm₁).calling g' mk (Value.ref b :: As).toArray, t, U', L, E, ce, hT, X', hL, e1, e2, hq, hce, hcv, vx_cls hW₁ hcl, st⟩
theorem vx_runS (S : CallFix p m c cc nL s args Ts own) (hM : vx_Met l y ws rm Pc Qc XC mc ms free) (cw : CallB R s args own index y bytes maxL ret ws rm mc ms n ∧ (Cond.static y).before args s = true) (hp : PreS s H Pc As)
    (hg : g.method = m) (hn : As.length = n) (hsize : g.locals.size = nL) (hstack : g.stack = As.reverse ++ rest) (hW : 2 * g.monitorRoom + (rest.map fun v => v.category).sum ≤ 8) (hdg : decode cc g.pc = .ok (.invokestatic index, 3)) (hf : cells + mc ≤ R.cells ∧ slots + ms ≤ R.slots) :
    vx_Run p l e R s m args below meth c H locs cells slots mc ms g rest (Qc As.toArray) XC free := by
  have hK : vx_Back l R p e below s args y 3 8 (PreOf R mc ms Pc) (PostOf Qc mc ms free) (vx_Post XC mc ms free) := vx_callBack cw.1 hM hp.1
  obtain ⟨⟨-, -, -, -, -, -, hcode, hini, hy, hlen, hl⟩, hstt⟩ := cw
  obtain ⟨hx, hb, hml, ho, -⟩ := S
  intro T hT X
  rcases vx_callS X hx (bytes := bytes) (maxL := maxL) (ret := ret) ho hl hstt hini hcode hy hK hg (hsize.trans hml.symm) (argsL := As) (rest := rest) (fun sig h => hn.trans (hlen sig h)) hstack hW (by rw [hb]; exact hdg)
    (fun vm₁ hW₁ => ⟨hf.1, hf.2, hp.2 (T.setVm vm₁) hT hW₁⟩) with ⟨v, vm₁, ⟨U', l2, c2, s2⟩, hW₁, X', ⟨g', mk, t, L, e1, e2, hq, h1, hL, h2, h3⟩, st⟩ | ⟨q, vm₁, ⟨U', l2, c2, s2⟩, hW₁, X', ⟨g', mk, t, L, E, ce, e1, e2, hq, hce, hcv, hcl, h1, hL, h2, h3⟩, st⟩
  · dsimp only [Pt.U, Pt.locs, Pt.cells, Pt.slots] at X' e1 e2 h1 h2 h3 st
    subst h1; subst h2; subst h3
    exact Or.inl ⟨v, (T.setVm vm₁).calling g' mk As.toArray, t, U', L, hT, X', hL, e1, e2, hq, st⟩
  · dsimp only [Pt.U, Pt.locs, Pt.cells, Pt.slots] at X' e1 e2 h1 h2 h3 st hcl
    subst h1; subst h2; subst h3
    exact Or.inr ⟨q, (T.setVm vm₁).calling g' mk As.toArray, t, U', L, E, ce, hT, X', hL, e1, e2, hq, hce, hcv, vx_cls hW₁ hcl, st⟩
end Runs
section Rows
variable {p : Program} {l : Launch} {e : Env} {R : Room} {s : State} {m : MethodId} {args : Array Value} {below : List Frame} {meth : Method} {c : Code} {H : Heap} {locs : List Loc} {cells slots : Nat} {Q : State → Prop}
variable {mc ms : Nat} {free : Addr → Prop} {A0 A1 : Nat → Prop} {H0 : Heap} {a : Array Value} {pc : Nat} {ls : Array Slot} {st0 rest : List Value}
theorem vx_keep {st₀ t T' : State} {L : List Loc} (h0 : st₀.heap = H) (e1 : T'.heap = t.heap) (hS : va_S A0 H0 H locs) (hA : ∀ q, q < H.size → A1 q → A0 q) (hf : ∀ q, free q → A0 q) (hL : ∀ q ∈ L, free q.base) (hF : va_F A1 st₀ t) :
    H.size ≤ T'.heap.size ∧ (∀ q : Nat, q < H.size → ¬ A1 q → T'.heap[q]? = H[q]?) ∧ va_S A0 H0 T'.heap (locs ++ L) := by
  obtain ⟨hz, hk⟩ := hF
  rw [h0] at hz hk
  exact ⟨by rw [e1]; exact hz, fun q h1 h2 => by rw [e1]; exact hk q h1 h2,
    ⟨Nat.le_trans hS.1 (by rw [e1]; exact hz), fun q h1 h2 => by rw [e1, hk q (Nat.lt_of_lt_of_le h1 hS.1) (fun z => h2 (hA q (Nat.lt_of_lt_of_le h1 hS.1) z))]; exact hS.2.1 q h1 h2, fun q hq => by
      rcases List.mem_append.mp hq with h | h
      · exact hS.2.2 q h
      · exact hf _ (hL q h)⟩⟩
theorem vx_calli {S SX : Type} {post : Int32 → S → Prop} {px : SX → Prop} {B : S → State → Prop} {BX : String → SX → State → Prop} {AX : Nat → Prop} (hr : vx_Run p l e R s m args below meth c H locs cells slots mc ms (F0 m pc ls st0) rest (va_Qi post B A1 a) (vx_X px BX AX) free) (hS : va_S A0 H0 H locs) (hA : ∀ q, q < H.size → A1 q → A0 q) (hf : ∀ q, free q → A0 q) (hAX : ∀ q, q < H.size → AX q → A0 q)
    (kx : ∀ (E : String) (ce : Cell) (q9 : Addr) (u : SX) (t : State) (H1 : Heap) (locs1 : List Loc), t.heap = H1 → s.vm.Alike t.vm → px u → BX E u t → H.size ≤ H1.size → (∀ q : Nat, q < H.size → ¬ AX q → H1[q]? = H[q]?) → va_S A0 H0 H1 locs1 → H1[q9]? = some ce → ce.vm = .none → s.vm.findClass E = some ce.cls → vx_W p l e R s m args below meth c H1 locs1 (cells + mc) (slots + ms) Q (F0 m pc ls rest) q9)
    (kk : ∀ (r : Int32) (u : S) (t : State) (H1 : Heap) (locs1 : List Loc), t.heap = H1 → s.vm.Alike t.vm → post r u → B u t → H.size ≤ H1.size → (∀ q : Nat, q < H.size → ¬ A1 q → H1[q]? = H[q]?) → va_S A0 H0 H1 locs1 → W p l e R s m args below meth c H1 locs1 (cells + mc) (slots + ms) Q (F0 m (pc + 3) ls (.int r :: rest))) : W p l e R s m args below meth c H locs cells slots Q (F0 m pc ls st0) := by
  intro T hT X
  rcases hr T hT X with ⟨v, st₀, t, T', L, h0, X', hL, e1, e2, ⟨⟨r, u, hv, hp, hb⟩, hF⟩, st⟩ | ⟨q, st₀, t, T', L, E, ce, h0, X', hL, e1, e2, ⟨u, hp, hb, hF⟩, hce, hcv, hcl, st⟩
  · cases hv
    obtain ⟨k1, k2, k3⟩ := vx_keep h0 e1 hS hA hf hL hF
    obtain ⟨t2, a1, b1⟩ := kk r u t T'.heap (locs ++ L) e1.symm (by rw [← e2]; exact X'.warmed.alike) hp hb k1 k2 k3 T' rfl X'
    exact ⟨t2, st t2 a1, b1⟩
  · obtain ⟨k1, k2, k3⟩ := vx_keep h0 e1 hS hAX hf hL hF
    obtain ⟨t2, a1, b1⟩ := kx E ce q u t T'.heap (locs ++ L) e1.symm (by rw [← e2]; exact X'.warmed.alike) hp hb k1 k2 k3 (by rw [e1]; exact hce) hcv hcl T' rfl X'
    exact ⟨t2, st.trans a1, b1⟩
theorem vx_calll {S SX : Type} {post : Int64 → S → Prop} {px : SX → Prop} {B : S → State → Prop} {BX : String → SX → State → Prop} {AX : Nat → Prop} (hr : vx_Run p l e R s m args below meth c H locs cells slots mc ms (F0 m pc ls st0) rest (va_Ql post B A1 a) (vx_X px BX AX) free) (hS : va_S A0 H0 H locs) (hA : ∀ q, q < H.size → A1 q → A0 q) (hf : ∀ q, free q → A0 q) (hAX : ∀ q, q < H.size → AX q → A0 q)
    (kx : ∀ (E : String) (ce : Cell) (q9 : Addr) (u : SX) (t : State) (H1 : Heap) (locs1 : List Loc), t.heap = H1 → s.vm.Alike t.vm → px u → BX E u t → H.size ≤ H1.size → (∀ q : Nat, q < H.size → ¬ AX q → H1[q]? = H[q]?) → va_S A0 H0 H1 locs1 → H1[q9]? = some ce → ce.vm = .none → s.vm.findClass E = some ce.cls → vx_W p l e R s m args below meth c H1 locs1 (cells + mc) (slots + ms) Q (F0 m pc ls rest) q9)
    (kk : ∀ (r : Int64) (u : S) (t : State) (H1 : Heap) (locs1 : List Loc), t.heap = H1 → s.vm.Alike t.vm → post r u → B u t → H.size ≤ H1.size → (∀ q : Nat, q < H.size → ¬ A1 q → H1[q]? = H[q]?) → va_S A0 H0 H1 locs1 → W p l e R s m args below meth c H1 locs1 (cells + mc) (slots + ms) Q (F0 m (pc + 3) ls (.long r :: rest))) : W p l e R s m args below meth c H locs cells slots Q (F0 m pc ls st0) := by
  intro T hT X
  rcases hr T hT X with ⟨v, st₀, t, T', L, h0, X', hL, e1, e2, ⟨⟨r, u, hv, hp, hb⟩, hF⟩, st⟩ | ⟨q, st₀, t, T', L, E, ce, h0, X', hL, e1, e2, ⟨u, hp, hb, hF⟩, hce, hcv, hcl, st⟩
  · cases hv
    obtain ⟨k1, k2, k3⟩ := vx_keep h0 e1 hS hA hf hL hF
    obtain ⟨t2, a1, b1⟩ := kk r u t T'.heap (locs ++ L) e1.symm (by rw [← e2]; exact X'.warmed.alike) hp hb k1 k2 k3 T' rfl X'
    exact ⟨t2, st t2 a1, b1⟩
  · obtain ⟨k1, k2, k3⟩ := vx_keep h0 e1 hS hAX hf hL hF
    obtain ⟨t2, a1, b1⟩ := kx E ce q u t T'.heap (locs ++ L) e1.symm (by rw [← e2]; exact X'.warmed.alike) hp hb k1 k2 k3 (by rw [e1]; exact hce) hcv hcl T' rfl X'
    exact ⟨t2, st.trans a1, b1⟩
theorem vx_callf {S SX : Type} {post : UInt32 → S → Prop} {px : SX → Prop} {B : S → State → Prop} {BX : String → SX → State → Prop} {AX : Nat → Prop} (hr : vx_Run p l e R s m args below meth c H locs cells slots mc ms (F0 m pc ls st0) rest (va_Qf post B A1 a) (vx_X px BX AX) free) (hS : va_S A0 H0 H locs) (hA : ∀ q, q < H.size → A1 q → A0 q) (hf : ∀ q, free q → A0 q) (hAX : ∀ q, q < H.size → AX q → A0 q)
    (kx : ∀ (E : String) (ce : Cell) (q9 : Addr) (u : SX) (t : State) (H1 : Heap) (locs1 : List Loc), t.heap = H1 → s.vm.Alike t.vm → px u → BX E u t → H.size ≤ H1.size → (∀ q : Nat, q < H.size → ¬ AX q → H1[q]? = H[q]?) → va_S A0 H0 H1 locs1 → H1[q9]? = some ce → ce.vm = .none → s.vm.findClass E = some ce.cls → vx_W p l e R s m args below meth c H1 locs1 (cells + mc) (slots + ms) Q (F0 m pc ls rest) q9)
    (kk : ∀ (r : UInt32) (u : S) (t : State) (H1 : Heap) (locs1 : List Loc), t.heap = H1 → s.vm.Alike t.vm → post r u → B u t → H.size ≤ H1.size → (∀ q : Nat, q < H.size → ¬ A1 q → H1[q]? = H[q]?) → va_S A0 H0 H1 locs1 → W p l e R s m args below meth c H1 locs1 (cells + mc) (slots + ms) Q (F0 m (pc + 3) ls (.float r :: rest))) : W p l e R s m args below meth c H locs cells slots Q (F0 m pc ls st0) := by
  intro T hT X
  rcases hr T hT X with ⟨v, st₀, t, T', L, h0, X', hL, e1, e2, ⟨⟨r, u, hv, hp, hb⟩, hF⟩, st⟩ | ⟨q, st₀, t, T', L, E, ce, h0, X', hL, e1, e2, ⟨u, hp, hb, hF⟩, hce, hcv, hcl, st⟩
  · cases hv
    obtain ⟨k1, k2, k3⟩ := vx_keep h0 e1 hS hA hf hL hF
    obtain ⟨t2, a1, b1⟩ := kk r u t T'.heap (locs ++ L) e1.symm (by rw [← e2]; exact X'.warmed.alike) hp hb k1 k2 k3 T' rfl X'
    exact ⟨t2, st t2 a1, b1⟩
  · obtain ⟨k1, k2, k3⟩ := vx_keep h0 e1 hS hAX hf hL hF
    obtain ⟨t2, a1, b1⟩ := kx E ce q u t T'.heap (locs ++ L) e1.symm (by rw [← e2]; exact X'.warmed.alike) hp hb k1 k2 k3 (by rw [e1]; exact hce) hcv hcl T' rfl X'
    exact ⟨t2, st.trans a1, b1⟩
theorem vx_calld {S SX : Type} {post : UInt64 → S → Prop} {px : SX → Prop} {B : S → State → Prop} {BX : String → SX → State → Prop} {AX : Nat → Prop} (hr : vx_Run p l e R s m args below meth c H locs cells slots mc ms (F0 m pc ls st0) rest (va_Qd post B A1 a) (vx_X px BX AX) free) (hS : va_S A0 H0 H locs) (hA : ∀ q, q < H.size → A1 q → A0 q) (hf : ∀ q, free q → A0 q) (hAX : ∀ q, q < H.size → AX q → A0 q)
    (kx : ∀ (E : String) (ce : Cell) (q9 : Addr) (u : SX) (t : State) (H1 : Heap) (locs1 : List Loc), t.heap = H1 → s.vm.Alike t.vm → px u → BX E u t → H.size ≤ H1.size → (∀ q : Nat, q < H.size → ¬ AX q → H1[q]? = H[q]?) → va_S A0 H0 H1 locs1 → H1[q9]? = some ce → ce.vm = .none → s.vm.findClass E = some ce.cls → vx_W p l e R s m args below meth c H1 locs1 (cells + mc) (slots + ms) Q (F0 m pc ls rest) q9)
    (kk : ∀ (r : UInt64) (u : S) (t : State) (H1 : Heap) (locs1 : List Loc), t.heap = H1 → s.vm.Alike t.vm → post r u → B u t → H.size ≤ H1.size → (∀ q : Nat, q < H.size → ¬ A1 q → H1[q]? = H[q]?) → va_S A0 H0 H1 locs1 → W p l e R s m args below meth c H1 locs1 (cells + mc) (slots + ms) Q (F0 m (pc + 3) ls (.double r :: rest))) : W p l e R s m args below meth c H locs cells slots Q (F0 m pc ls st0) := by
  intro T hT X
  rcases hr T hT X with ⟨v, st₀, t, T', L, h0, X', hL, e1, e2, ⟨⟨r, u, hv, hp, hb⟩, hF⟩, st⟩ | ⟨q, st₀, t, T', L, E, ce, h0, X', hL, e1, e2, ⟨u, hp, hb, hF⟩, hce, hcv, hcl, st⟩
  · cases hv
    obtain ⟨k1, k2, k3⟩ := vx_keep h0 e1 hS hA hf hL hF
    obtain ⟨t2, a1, b1⟩ := kk r u t T'.heap (locs ++ L) e1.symm (by rw [← e2]; exact X'.warmed.alike) hp hb k1 k2 k3 T' rfl X'
    exact ⟨t2, st t2 a1, b1⟩
  · obtain ⟨k1, k2, k3⟩ := vx_keep h0 e1 hS hAX hf hL hF
    obtain ⟨t2, a1, b1⟩ := kx E ce q u t T'.heap (locs ++ L) e1.symm (by rw [← e2]; exact X'.warmed.alike) hp hb k1 k2 k3 (by rw [e1]; exact hce) hcv hcl T' rfl X'
    exact ⟨t2, st.trans a1, b1⟩
theorem vx_callv {S SX : Type} {post : S → Prop} {px : SX → Prop} {B : S → State → Prop} {BX : String → SX → State → Prop} {AX : Nat → Prop} (hr : vx_Run p l e R s m args below meth c H locs cells slots mc ms (F0 m pc ls st0) rest (va_Qv post B A1 a) (vx_X px BX AX) free) (hS : va_S A0 H0 H locs) (hA : ∀ q, q < H.size → A1 q → A0 q) (hf : ∀ q, free q → A0 q) (hAX : ∀ q, q < H.size → AX q → A0 q)
    (kx : ∀ (E : String) (ce : Cell) (q9 : Addr) (u : SX) (t : State) (H1 : Heap) (locs1 : List Loc), t.heap = H1 → s.vm.Alike t.vm → px u → BX E u t → H.size ≤ H1.size → (∀ q : Nat, q < H.size → ¬ AX q → H1[q]? = H[q]?) → va_S A0 H0 H1 locs1 → H1[q9]? = some ce → ce.vm = .none → s.vm.findClass E = some ce.cls → vx_W p l e R s m args below meth c H1 locs1 (cells + mc) (slots + ms) Q (F0 m pc ls rest) q9)
    (kk : ∀ (u : S) (t : State) (H1 : Heap) (locs1 : List Loc), t.heap = H1 → s.vm.Alike t.vm → post u → B u t → H.size ≤ H1.size → (∀ q : Nat, q < H.size → ¬ A1 q → H1[q]? = H[q]?) → va_S A0 H0 H1 locs1 → W p l e R s m args below meth c H1 locs1 (cells + mc) (slots + ms) Q (F0 m (pc + 3) ls (rest))) : W p l e R s m args below meth c H locs cells slots Q (F0 m pc ls st0) := by
  intro T hT X
  rcases hr T hT X with ⟨v, st₀, t, T', L, h0, X', hL, e1, e2, ⟨⟨u, hv, hp, hb⟩, hF⟩, st⟩ | ⟨q, st₀, t, T', L, E, ce, h0, X', hL, e1, e2, ⟨u, hp, hb, hF⟩, hce, hcv, hcl, st⟩
  · cases hv
    obtain ⟨k1, k2, k3⟩ := vx_keep h0 e1 hS hA hf hL hF
    obtain ⟨t2, a1, b1⟩ := kk u t T'.heap (locs ++ L) e1.symm (by rw [← e2]; exact X'.warmed.alike) hp hb k1 k2 k3 T' rfl X'
    exact ⟨t2, st t2 a1, b1⟩
  · obtain ⟨k1, k2, k3⟩ := vx_keep h0 e1 hS hAX hf hL hF
    obtain ⟨t2, a1, b1⟩ := kx E ce q u t T'.heap (locs ++ L) e1.symm (by rw [← e2]; exact X'.warmed.alike) hp hb k1 k2 k3 (by rw [e1]; exact hce) hcv hcl T' rfl X'
    exact ⟨t2, st.trans a1, b1⟩
/-- caught by the row x of this method's table; the rows ahead don't take it -/
theorem vx_catch {own name : String} {E : String} {ce : Cell} {q : Addr} (hown : s.vm.findClass own = some m.cls) (pre : List ExceptionTableEntry) (x : ExceptionTableEntry) (suf : List ExceptionTableEntry) (hsplit : c.exceptionTable.toList = pre ++ x :: suf)
    (hpass : ∀ z ∈ pre, covers z pc = false ∨ (z.catchType ≠ 0 ∧ ∃ nm : String, (Cond.classLink own z.catchType nm).before args s = true ∧ va_Nc E nm s)) (hx : covers x pc = true) (h0 : x.catchType ≠ 0)
    (hlink : (Cond.classLink own x.catchType name).before args s = true) (hcast : (Cond.castable E name).before args s = true) (hcell : H[q]? = some ce) (hv : ce.vm = .none) (hcl : s.vm.findClass E = some ce.cls)
    (kk : W p l e R s m args below meth c H locs cells slots Q (F0 m x.handlerPc ls [.ref q])) : vx_W p l e R s m args below meth c H locs cells slots Q (F0 m pc ls rest) q := by
  intro T hT X
  have hpl : e.platform.magicAccessors = ({} : Platform).magicAccessors := by rw [X.admits.platform]
  obtain ⟨c3, c4, hc3, hc4, hasg⟩ := Cond.castable_spec hcast
  cases Option.some.inj (hc3.symm.trans hcl)
  obtain ⟨c5, hc5, hcl5⟩ := Cond.classLink_spec hown hlink e.platform hpl
  cases Option.some.inj (hc4.symm.trans hc5)
  obtain ⟨vm', X', st⟩ := X.thenCaughtThrough q (g := F0 m pc ls rest) rfl (Steps.refl _) (by rw [hT]; exact hcell) (by rw [hv]; rfl) (by obtain ⟨k9, h9, -⟩ := Vm.findClass_spec hcl; exact ⟨k9, h9⟩) pre x suf hsplit
    (fun z hz => by
      rcases hpass z hz with h | ⟨hz0, nm, hl1, hn1⟩
      · exact Or.inl h
      · obtain ⟨c6, hc6, hcl6⟩ := Cond.classLink_spec hown hl1 e.platform hpl
        obtain ⟨a8, b8, h1, h2, h3⟩ := hn1
        cases Option.some.inj (h1.symm.trans hcl)
        cases Option.some.inj (h2.symm.trans hc6)
        exact Or.inr ⟨hz0, _, hcl6, h3⟩) hx (Or.inr ⟨h0, c4, hcl5, hasg⟩)
  obtain ⟨t, a1, b1⟩ := kk (T.setVm vm') hT X'
  exact ⟨t, st.trans a1, b1⟩
end Rows
section Ends
variable {p : Program} {l : Launch} {e : Env} {R : Room} {s : State} {m : MethodId} {args : Array Value} {below : List Frame} {meth : Method} {c : Code} {H : Heap} {locs : List Loc} {cells slots : Nat} {Q : State → Prop}
variable {mc ms : Nat} {free : Addr → Prop} {A0 A1 : Nat → Prop} {H0 : Heap} {a : Array Value} {ls : Array Slot} {st0 rest : List Value}
variable {Qc : Array Value → State → Outcome → State → Prop} {XC : String → State → State → Prop}
/-- what a body that may throw owes at its end -/
def vx_MQ (below : List Frame) (Qc : Array Value → State → Outcome → State → Prop) (XC : String → State → State → Prop) (a : Array Value) (s : State) (mc ms : Nat) (free : Addr → Prop) : State → Prop := fun t =>
  ∃ o, t.status = .running ∧ Ended t below o ∧ vx_Q Qc XC mc ms free a s o t
theorem vx_ret {g : JFrame} {mc ms : Nat} (k : W p l e R s m args below meth c H locs cells slots (MQ below Qc args s mc ms free) g) : W p l e R s m args below meth c H locs cells slots (vx_MQ below Qc XC args s mc ms free) g := by
  intro T hT X
  obtain ⟨t, a1, o, b1, b2, b3, b4⟩ := k T hT X
  exact ⟨t, a1, o, b1, b2, Or.inl ⟨b3, b4⟩⟩
/-- not caught here: it goes on to the caller -/
theorem vx_widen {g : JFrame} {q : Addr} {k n : Nat} (h1 : cells ≤ k) (h2 : slots ≤ n) (kk : vx_W p l e R s m args below meth c H locs k n Q g q) : vx_W p l e R s m args below meth c H locs cells slots Q g q := fun T hT X => kk T hT (stand_widen X h1 h2)
theorem vx_out {pc : Nat} {E : String} {ce : Cell} {q : Addr} {mc ms : Nat} (hout : ∀ x ∈ c.exceptionTable.toList, covers x pc = false) (hlocks : meth.locks = false) (hcell : H[q]? = some ce) (hv : ce.vm = .none) (hcl : s.vm.findClass E = some ce.cls)
    (hx : ∀ t : State, t.heap = H → s.vm.Alike t.vm → XC E s t) (hf : ∀ z ∈ locs, free z.base) (hc : cells ≤ mc) (hs : slots ≤ ms) :
    vx_W p l e R s m args below meth c H locs cells slots (vx_MQ below Qc XC args s mc ms free) (F0 m pc ls rest) q := by
  intro T hT X
  obtain ⟨st1, hrun, hend, hW, hsm⟩ := X.leaveThrown q (g := F0 m pc ls rest) rfl rfl rfl hout hlocks
  have hcell9 : (T.setFrames (.throwing q :: below)).heap[q]? = some ce := by
    show T.heap[q]? = some ce
    rw [hT]; exact hcell
  exact ⟨_, st1, .threw q, hrun, hend, Or.inr ⟨q, rfl, E, ce, locs, hx _ hT hW.alike, hcell9, hv, hcl, hW, hsm.mono hc hs, hf⟩⟩
theorem vx_frame {U : State} {k n : Nat} (h : s.sameButNew ({ U with vm := s.vm } : State) locs k n) : s.heap.size ≤ U.heap.size ∧ ∀ q : Nat, q < s.heap.size → (∀ z ∈ locs, z.base ≠ q) → U.heap[q]? = s.heap[q]? := by
  obtain ⟨-, h2, -, -, -, h6⟩ := h
  refine ⟨h2, fun q hq hz => ?_⟩
  obtain ⟨c9, e1, e2, e3, e4⟩ := h6 q _ (Array.getElem?_eq_getElem hq)
  have hs : c9.slots = (s.heap[q]).slots := Array.ext_getElem? fun i => e4 i fun hm => hz _ hm rfl
  have h9 : c9 = s.heap[q] := by
    rw [hs] at e2
    exact e2
  have e5 : U.heap[q]? = some c9 := e1
  rw [e5, h9, Array.getElem?_eq_getElem hq]
/-- the words of a throw but the four that speak of the heap -/
def vx_no (w : Cond) : Bool := decide (w ≠ .isRef (.static Bundle.tN "UNASSIGNED_STACK" Bundle.steD)) && decide (w ≠ .isRef (.static Bundle.tN "SUPPRESSED_SENTINEL" Bundle.listD)) && decide (w ≠ .laysStatic Bundle.tN "UNASSIGNED_STACK" Bundle.steD) && decide (w ≠ .laysStatic Bundle.tN "SUPPRESSED_SENTINEL" Bundle.listD)
def vx_at0 (own : String) (ic : Nat) (X : String) (names : List String) : List Cond := (Bundle.ownAtoms0 own ic X names).filter vx_no
def vx_atS (own : String) (ic : Nat) (X : String) (names : List String) : List Cond := (Bundle.ownAtoms own ic X names).filter vx_no
/-- a word that the tables alone decide, or a good one -/
def vx_ot (w : Cond) : Bool := w.onTables || goodWord w
theorem vx_ot_at {args a' : Array Value} {s U : State} {w : Cond} (hW : s.WarmedH U.vm) (hvm : s.vm = U.vm) (hg : vx_ot w = true) (h : w.before args s = true) : w.before a' U = true := by
  simp only [vx_ot, Bool.or_eq_true] at hg
  rcases hg with hg | hg
  · exact va_tabs hg hvm h
  · exact word_at hW (good_of_word hg) h
/-- a list's words: the good ones out of the method's own list, the others by premises of their own -/
theorem vx_hat {args : Array Value} {s : State} {L B : List Cond} (h1 : ∀ w ∈ L.filter goodWord, w.before args s = true) (h2 : ∀ w ∈ L.filter (fun w => !goodWord w), w ∈ B) (h3 : ∀ w ∈ B, w.before args s = true) : ∀ w ∈ L, w.before args s = true := by
  intro w hw
  by_cases g : goodWord w = true
  · exact h1 w (List.mem_filter.mpr ⟨hw, g⟩)
  · refine h3 w (h2 w (List.mem_filter.mpr ⟨hw, ?_⟩))
    show (!goodWord w) = true
    cases hgw : goodWord w
    · rfl
    · exact absurd hgw g
theorem vx_c {args : Array Value} {s : State} {w : Cond} {B : List Cond} (h : w.before args s = true) (t : ∀ w ∈ B, w.before args s = true) : ∀ w' ∈ w :: B, w'.before args s = true := fun w' h' => (List.mem_cons.mp h').elim (fun e => by rw [e]; exact h) (t w')
theorem vx_n {args : Array Value} {s : State} : ∀ w ∈ ([] : List Cond), w.before args s = true := fun _ h => nomatch h
theorem vx_own {args : Array Value} {s : State} {L : List Cond} (h1 : ∀ w ∈ L.filter vx_no, w.before args s = true)
    (hU : (Cond.isRef (.static Bundle.tN "UNASSIGNED_STACK" Bundle.steD)).before args s = true) (hN : (Cond.isRef (.static Bundle.tN "SUPPRESSED_SENTINEL" Bundle.listD)).before args s = true)
    (lU : (Cond.laysStatic Bundle.tN "UNASSIGNED_STACK" Bundle.steD).before args s = true) (lN : (Cond.laysStatic Bundle.tN "SUPPRESSED_SENTINEL" Bundle.listD).before args s = true) : ∀ w ∈ L, w.before args s = true := by
  intro w hw
  by_cases e1 : w = .isRef (.static Bundle.tN "UNASSIGNED_STACK" Bundle.steD)
  · rw [e1]; exact hU
  · by_cases e2 : w = .isRef (.static Bundle.tN "SUPPRESSED_SENTINEL" Bundle.listD)
    · rw [e2]; exact hN
    · by_cases e3 : w = .laysStatic Bundle.tN "UNASSIGNED_STACK" Bundle.steD
      · rw [e3]; exact lU
      · by_cases e4 : w = .laysStatic Bundle.tN "SUPPRESSED_SENTINEL" Bundle.listD
        · rw [e4]; exact lN
        · exact h1 w (List.mem_filter.mpr ⟨hw, by unfold vx_no; rw [decide_eq_true e1, decide_eq_true e2, decide_eq_true e3, decide_eq_true e4]; rfl⟩)
/-- where a static field lies, its class's statics cell in H -/
def vx_L (C n d : String) (A : Nat → Prop) (U : State) (H : Heap) : Prop := ∃ (c : ClassId) (k : Class) (i : Nat) (f : Field) (a : Nat) (cell : Cell), U.vm.findClass C = some c ∧ U.fieldFound? C n d = some (c, k, i, f) ∧ f.isStatic = true ∧ k.statics = some a ∧ H[a]? = some cell ∧ cell.vm.isStatics = true ∧ cell.cls = c ∧ f.slot < cell.slots.size ∧ k.staticTypes[f.slot]? = some f.type ∧ ¬ A a
theorem vx_L.moved {C n d : String} {A : Nat → Prop} {u U : State} {H : Heap} (hvm : u.vm.Alike U.vm) (h : vx_L C n d A u H) : vx_L C n d A U H := by
  obtain ⟨c, k, i, f, a, cell, h1, h2, h3, h4, h5, h6, h7, h8, h9, h10⟩ := h
  obtain ⟨k', hi', he⟩ := State.fieldFound?_setVm hvm h2
  exact ⟨c, k', i, f, a, cell, by rw [hvm.findClass]; exact h1, hi', h3, by rw [he]; exact h4, h5, h6, h7, h8, by rw [he]; exact h9, h10⟩
theorem vx_L.kept {C n d : String} {A : Nat → Prop} {U : State} {H H1 : Heap} (h : vx_L C n d A U H) (hq : ∀ a : Nat, a < H.size → ¬ A a → H1[a]? = H[a]?) : vx_L C n d A U H1 := by
  obtain ⟨c, k, i, f, a, cell, h1, h2, h3, h4, h5, h6, h7, h8, h9, h10⟩ := h
  exact ⟨c, k, i, f, a, cell, h1, h2, h3, h4, by rw [hq a (Array.getElem?_eq_some_iff.mp h5).1 h10]; exact h5, h6, h7, h8, h9, h10⟩
theorem vx_L.narrow {C n d : String} {A B : Nat → Prop} {U : State} {H : Heap} (h : vx_L C n d A U H) (hAB : ∀ q, B q → A q) : vx_L C n d B U H := by
  obtain ⟨c, k, i, f, a, cell, h1, h2, h3, h4, h5, h6, h7, h8, h9, h10⟩ := h
  exact ⟨c, k, i, f, a, cell, h1, h2, h3, h4, h5, h6, h7, h8, h9, fun z => h10 (hAB _ z)⟩
theorem vx_L.word {C n d : String} {A : Nat → Prop} {s : State} {args : Array Value} (h : vx_L C n d A s s.heap) : (Cond.laysStatic C n d).before args s = true := by
  obtain ⟨c, k, i, f, a, cell, h1, h2, h3, h4, h5, h6, h7, h8, h9, -⟩ := h
  show (Cond.laysStatic C n d).holds args s none s [] = true
  exact Cond.laysStatic_of h1 h2 h3 h4 h5 h6 h7 h8 h9
/-- .. and what it holds: null or some reference -/
def vx_Zq (C n d : String) (A : Nat → Prop) (U : State) (H : Heap) : Prop := va_Zq C n d A U H ∧ vx_L C n d A U H
theorem vx_Zq.moved {C n d : String} {A : Nat → Prop} {u U : State} {H : Heap} (hvm : u.vm.Alike U.vm) (h : vx_Zq C n d A u H) : vx_Zq C n d A U H := ⟨va_Zq.moved hvm h.1, vx_L.moved hvm h.2⟩
theorem vx_Zq.kept {C n d : String} {A : Nat → Prop} {U : State} {H H1 : Heap} (h : vx_Zq C n d A U H) (hq : ∀ a : Nat, a < H.size → ¬ A a → H1[a]? = H[a]?) : vx_Zq C n d A U H1 := ⟨va_Zq.kept h.1 hq, vx_L.kept h.2 hq⟩
theorem vx_Zq.narrow {C n d : String} {A B : Nat → Prop} {U : State} {H : Heap} (h : vx_Zq C n d A U H) (hAB : ∀ q, B q → A q) : vx_Zq C n d B U H := ⟨va_Zq.narrow h.1 hAB, vx_L.narrow h.2 hAB⟩
theorem vx_Zqof {args : Array Value} {s : State} {C n d : String} {A : Nat → Prop} (hl : (Cond.laysStatic C n d).before args s = true) (hini : (Cond.initialized C).before args s = true) (h : (Cond.isRef (.static C n d)).before args s = true) (hA : ∀ a : Nat, a < s.heap.size → ¬ A a) : vx_Zq C n d A s s.heap := by
  refine ⟨va_Zqof hl hini h hA, ?_⟩
  obtain ⟨c, k, i, f, a, cell, h1, h2, h3, h4, h5, h6, h7, h8, h9⟩ := Cond.laysStatic_spec hl
  exact ⟨c, k, i, f, a, cell, h1, h2, h3, h4, h5, h6, h7, h8, h9, hA a (Array.getElem?_eq_some_iff.mp h5).1⟩
theorem vx_isRef {C n d : String} {v : Value} {A : Nat → Prop} {s : State} {args : Array Value} (h : va_Z C n d v A s s.heap) (hv : v.isRef = true) : (Cond.isRef (.static C n d)).before args s = true := by
  obtain ⟨cf, kf, fi, f, a, cell, h1, h2, h3, h4, h5, h6, h7, -⟩ := h
  have he : (Term.static C n d).eval args s none [] s = some v := by
    simp [Term.eval, State.fieldNamed?, h1, h2, h4, h5, h6, h7]
  simp only [Cond.before, Cond.holds, Cond.value, he]
  cases v <;> simp_all [Value.isRef]
theorem vx_isRefq {C n d : String} {A : Nat → Prop} {s : State} {args : Array Value} (h : va_Zq C n d A s s.heap) : (Cond.isRef (.static C n d)).before args s = true := by
  rcases h with h | ⟨t, h⟩
  · exact vx_isRef h rfl
  · exact vx_isRef h rfl
/-- the same frame, seen from here: as if the method were called anew in this heap -/
theorem vx_rebase {T : State} (X : Stand p l e R s m args below meth c T locs cells slots) {R' : Room} (hf : R'.frames ≤ R.frames) (hl : R'.locals ≤ R.locals) (hc : cells + R'.cells ≤ R.cells) (hs : slots + R'.slots ≤ R.slots) :
    Stand p l e R' ((T.setVm s.vm).setFrames (.invoking m args :: below)) m args below meth c T [] 0 0 := by
  have htop : (T.setVm s.vm).topJava?.isSome := X.here.top
  have hF : ((T.setVm s.vm).setFrames (.invoking m args :: below)).frames = .invoking m args :: below := State.frames_setFrames _ (State.cur_lt_of_top htop)
  obtain ⟨g₀, hg0⟩ := Option.isSome_iff_exists.mp htop
  obtain ⟨r, hr⟩ := State.topJava?_eq_some.mp hg0
  have hl9 : e.platform.stackLimits (T.setVm s.vm).me = e.platform.stackLimits s.me := X.limits
  have hb9 : (T.setVm s.vm).me.stackBytes = s.me.stackBytes := X.bytes
  refine ⟨X.admits, X.cas, X.clock, hF, ?_, X.hears, X.method, X.code, X.here, X.tail, X.warmed, ?_, ?_, ?_⟩
  · have h := X.room
    have hU : ((T.setVm s.vm).setFrames (.invoking m args :: below)).localsInUse = s.localsInUse := by
      rw [State.localsInUse_invoking hF (meth := meth) (c := c) X.method X.code, State.localsInUse_invoking X.frames X.method X.code]
    simp only [State.hasRoom, Bool.and_eq_true, decide_eq_true_eq] at h ⊢
    obtain ⟨⟨⟨⟨h1, h2, h3, h4, h5, h6⟩, h7⟩, h8⟩, h9⟩ := h
    rw [X.frames, List.length_cons] at h2 h3
    have q1 := X.heapSize
    have q2 := X.used
    simp only [hF, hU, List.length_cons, State.stackLimits_setFrames, State.stackBytes_setFrames, hl9, hb9]
    refine ⟨⟨⟨⟨by omega, by omega, by omega, by omega, by omega, h6⟩, ?_⟩, ?_⟩, X.book⟩
    · show T.heap.size + R'.cells ≤ e.platform.maxCells
      omega
    · show T.slotsUsed + R'.slots ≤ e.platform.maxSlots
      omega
  · rw [State.stackLimits_setFrames]; rfl
  · rw [State.stackBytes_setFrames]; rfl
  · refine ⟨?_, Nat.le_refl _, Nat.le_refl _, ?_, ?_, fun a c9 h9 => ⟨c9, h9, rfl, rfl, fun _ _ => rfl⟩⟩
    · obtain ⟨t, ht, -⟩ := State.frames_cons hr
      show T.setVm s.vm = { ((T.setVm s.vm).setFrames (.invoking m args :: below)).setFrames (T.setVm s.vm).frames with heap := T.heap, slotsUsed := T.slotsUsed }
      rw [State.setFrames_setFrames, State.setFrames_self ht]
      rfl
    · show T.slotsUsed = T.slotsUsed + ((T.heap.toList.drop T.heap.size).map (·.slots.size)).sum
      rw [List.drop_eq_nil_of_le (Nat.le_of_eq Array.length_toList)]
      rfl
    · show ((T.heap.toList.drop T.heap.size).map (·.slots.size)).sum ≤ 0
      rw [List.drop_eq_nil_of_le (Nat.le_of_eq Array.length_toList)]
      exact Nat.le_refl _
/-- 'throw new E()': new; dup; invokespecial; athrow -/
theorem vx_throw0 {cc : ByteArray} {pc : Nat} (hexec : p.tables.exec = Jvm.exec) (hb : c.code = cc) (hl : l.stackTraces = false) {own cls : String} {names : List String} {ik ic mc ms : Nat} {A : Nat → Prop}
    (hown : s.vm.findClass own = some m.cls) (hcls : Bundle.fit cls = true) (hnames : ∀ n ∈ names, Bundle.fit n = true)
    (hk : (Cond.classLink own ik cls).before args s = true) (hini : (Cond.initialized cls).before args s = true) (hat : ∀ w ∈ vx_at0 own ic cls names, w.before args s = true)
    (hgood : ∀ w ∈ Cond.classLink own ik cls :: Cond.initialized cls :: vx_at0 own ic cls names, vx_ot w = true)
    (hU : vx_Zq Bundle.tN "UNASSIGNED_STACK" Bundle.steD A s s.heap) (hN : vx_Zq Bundle.tN "SUPPRESSED_SENTINEL" Bundle.listD A s s.heap) (hS : va_S A s.heap H locs) (hsize : ls.size = c.maxLocals)
    (d0 : decode cc pc = .ok (.new ik, 3)) (d3 : decode cc (pc + 3) = .ok (.dup, 1)) (d4 : decode cc (pc + 4) = .ok (.invokespecial ic, 3)) (d7 : decode cc (pc + 7) = .ok (.athrow, 1))
    (hout : ∀ x ∈ c.exceptionTable.toList, covers x (pc + 7) = false)
    (hRframes : names.length + 3 < R.frames) (hRlocals : (rest.map fun v => v.category).sum + (13 * (names.length + 1) + 42) ≤ R.locals) (hRcells : cells + 1 ≤ R.cells) (hRslots : slots + 6 ≤ R.slots) (hlocks : meth.locks = false)
    (hx : ∀ t : State, s.vm.Alike t.vm → H.size ≤ t.heap.size → (∀ q : Nat, q < H.size → t.heap[q]? = H[q]?) → XC cls s t)
    (hf : ∀ z ∈ locs, free z.base) (hc : cells + 1 ≤ mc) (hs : slots + 6 ≤ ms) :
    W p l e R s m args below meth c H locs cells slots (vx_MQ below Qc XC args s mc ms free) (F0 m pc ls rest) := by
  intro T hT X
  have htr : e.platform.stackTraces = false := (show e.platform.stackTraces = l.stackTraces by rw [X.admits.platform]).trans hl
  have Y := vx_rebase X (R' := { frames := R.frames, locals := R.locals, cells := 1, slots := 6 }) (Nat.le_refl _) (Nat.le_refl _) hRcells hRslots
  obtain ⟨s', hA⟩ : ∃ z, z = (T.setVm s.vm).setFrames (.invoking m args :: below) := ⟨_, rfl⟩
  rw [← hA] at Y
  have hvm : s'.vm = s.vm := by rw [hA]; rfl
  have hhp : s'.heap = H := by rw [hA]; exact hT
  have hW0 : s.WarmedH s'.vm := by rw [hvm]; exact State.WarmedH.refl s
  have hat' : ∀ w ∈ vx_at0 own ic cls names, w.before args s' = true := fun w hw => vx_ot_at hW0 hvm.symm (hgood w (List.mem_cons_of_mem _ (List.mem_cons_of_mem _ hw))) (hat w hw)
  have hk' : (Cond.classLink own ik cls).before args s' = true := vx_ot_at hW0 hvm.symm (hgood _ List.mem_cons_self) hk
  have hini' : (Cond.initialized cls).before args s' = true := vx_ot_at hW0 hvm.symm (hgood _ (List.mem_cons_of_mem _ List.mem_cons_self)) hini
  have hU' : vx_Zq Bundle.tN "UNASSIGNED_STACK" Bundle.steD A s' s'.heap := by rw [hhp]; exact vx_Zq.moved hW0.alike (hU.kept hS.2.1)
  have hN' : vx_Zq Bundle.tN "SUPPRESSED_SENTINEL" Bundle.listD A s' s'.heap := by rw [hhp]; exact vx_Zq.moved hW0.alike (hN.kept hS.2.1)
  have h : ∀ w ∈ Bundle.ownAtoms0 own ic cls names, w.before args s' = true := vx_own hat' (vx_isRefq hU'.1) (vx_isRefq hN'.1) hU'.2.word hN'.2.word
  have hown' : s'.vm.findClass own = some m.cls := by rw [hvm]; exact hown
  have hins : (Cond.instantiable cls 6).before args s' = true := h _ (by simp [Bundle.ownAtoms0])
  obtain ⟨vm₁, cX, kX, hfX, hkX, -, -, X₁, st1⟩ := Y.newCold hexec (own := own) (C := cls) (index := ik) (n := 6) hown' hk' hins hini'
    (g := F0 m pc ls rest) rfl (by rw [hb]; exact d0) (Nat.le_refl _) (Nat.le_refl _)
  generalize hT1 : (T.setVm vm₁).pushCell { cls := cX, slots := kX.instanceTypes.map defaultValue, vm := .none } = T1 at X₁ st1
  have hcat : (Value.ref T.heap.size).category = 1 := rfl
  have hcellA : T1.heap[T.heap.size]? = some (freshCell cX kX) := by rw [← hT1]; exact State.heap_pushCell_size _ _
  have d3' : decode c.code (pc + 3) = .ok (.dup, 1) := by rw [hb]; exact d3
  obtain ⟨U, hsteps, hrun, hend, hW, hsame, ce, hce, hO⟩ := X₁.ctorThrow0 hexec htr (own := own) (cls := cls) (names := names) (ic := ic) hown' hcls hnames h (fun x hx => nomatch hx) hfX hkX hcellA (by rw [hhp, hT]; exact Nat.le_refl _)
    (g := { method := m, pc := pc + 4, locals := ls, stack := .ref T.heap.size :: .ref T.heap.size :: rest, locked := none }) rfl hsize rfl rfl (rest := rest) rfl
    (by rw [hb]; exact d4) (by rw [hb]; exact d7) hout hRframes (by simp only [List.map_cons, List.sum_cons, hcat]; omega) hlocks
  obtain ⟨f1, f2⟩ := vx_frame hsame
  rw [hhp] at f1 f2
  have hWs : s.WarmedH U.vm := State.WarmedH.trans hW0 hW
  have hcl : s.vm.findClass cls = some ce.cls := by
    have h9 := hO.cls
    rw [hvm] at h9
    exact h9
  have hall : s.sameButNew ({ U with vm := s.vm } : State) locs mc ms := by
    subst hA
    obtain ⟨e1, e2⟩ := hsame
    rw [State.setFrames_setFrames] at e1
    have h2 : (T.setVm s.vm).sameButNew ({ U with vm := s.vm } : State) [] (0 + 1) (0 + 6) := ⟨e1, e2⟩
    have h3 := X.same.trans h2
    rw [List.append_nil] at h3
    exact h3.mono hc hs
  refine ⟨U, ?_, .threw T.heap.size, hrun, hend, Or.inr ⟨T.heap.size, rfl, cls, ce, locs, hx U hWs.alike f1 (fun q hq => f2 q hq (fun z hz => nomatch hz)), hce, hO.vm, hcl, hWs, hall, hf⟩⟩
  refine st1 _ ?_
  show Steps p.tables e below (T1.setTop { method := m, pc := pc + 3, locals := ls, stack := .ref T.heap.size :: rest, locked := none }) _
  jvm_step X₁.here [X₁.here.top, hexec, d3', Value.category]
  exact hsteps
/-- 'throw new E("text")': new; dup; ldc; invokespecial; athrow -/
theorem vx_throwS {cc : ByteArray} {pc : Nat} (hexec : p.tables.exec = Jvm.exec) (hb : c.code = cc) (hl : l.stackTraces = false) {own cls text : String} {names : List String} {ik is ic mc ms sa : Nat} {A : Nat → Prop}
    (hown : s.vm.findClass own = some m.cls) (hcls : Bundle.fit cls = true) (hnames : ∀ n ∈ names, Bundle.fit n = true)
    (hk : (Cond.classLink own ik cls).before args s = true) (hini : (Cond.initialized cls).before args s = true) (hstr : vk_R own is text sa s) (hat : ∀ w ∈ vx_atS own ic cls names, w.before args s = true)
    (hgood : ∀ w ∈ Cond.classLink own ik cls :: Cond.initialized cls :: vx_atS own ic cls names, vx_ot w = true)
    (hU : vx_Zq Bundle.tN "UNASSIGNED_STACK" Bundle.steD A s s.heap) (hN : vx_Zq Bundle.tN "SUPPRESSED_SENTINEL" Bundle.listD A s s.heap) (hS : va_S A s.heap H locs) (hsize : ls.size = c.maxLocals)
    (d0 : decode cc pc = .ok (.new ik, 3)) (d3 : decode cc (pc + 3) = .ok (.dup, 1)) (d4 : decode cc (pc + 4) = .ok (.ldc is, 2)) (d6 : decode cc (pc + 6) = .ok (.invokespecial ic, 3)) (d9 : decode cc (pc + 9) = .ok (.athrow, 1))
    (hout : ∀ x ∈ c.exceptionTable.toList, covers x (pc + 9) = false)
    (hRframes : names.length + 3 < R.frames) (hRlocals : (rest.map fun v => v.category).sum + (13 * (names.length + 1) + 43) ≤ R.locals) (hRcells : cells + 1 ≤ R.cells) (hRslots : slots + 6 ≤ R.slots) (hlocks : meth.locks = false)
    (hx : ∀ t : State, s.vm.Alike t.vm → H.size ≤ t.heap.size → (∀ q : Nat, q < H.size → t.heap[q]? = H[q]?) → XC cls s t)
    (hf : ∀ z ∈ locs, free z.base) (hc : cells + 1 ≤ mc) (hs : slots + 6 ≤ ms) :
    W p l e R s m args below meth c H locs cells slots (vx_MQ below Qc XC args s mc ms free) (F0 m pc ls rest) := by
  intro T hT X
  have htr : e.platform.stackTraces = false := (show e.platform.stackTraces = l.stackTraces by rw [X.admits.platform]).trans hl
  have Y := vx_rebase X (R' := { frames := R.frames, locals := R.locals, cells := 1, slots := 6 }) (Nat.le_refl _) (Nat.le_refl _) hRcells hRslots
  obtain ⟨s', hA⟩ : ∃ z, z = (T.setVm s.vm).setFrames (.invoking m args :: below) := ⟨_, rfl⟩
  rw [← hA] at Y
  have hvm : s'.vm = s.vm := by rw [hA]; rfl
  have hhp : s'.heap = H := by rw [hA]; exact hT
  have hW0 : s.WarmedH s'.vm := by rw [hvm]; exact State.WarmedH.refl s
  have hat' : ∀ w ∈ vx_atS own ic cls names, w.before args s' = true := fun w hw => vx_ot_at hW0 hvm.symm (hgood w (List.mem_cons_of_mem _ (List.mem_cons_of_mem _ hw))) (hat w hw)
  have hk' : (Cond.classLink own ik cls).before args s' = true := vx_ot_at hW0 hvm.symm (hgood _ List.mem_cons_self) hk
  have hini' : (Cond.initialized cls).before args s' = true := vx_ot_at hW0 hvm.symm (hgood _ (List.mem_cons_of_mem _ List.mem_cons_self)) hini
  have hU' : vx_Zq Bundle.tN "UNASSIGNED_STACK" Bundle.steD A s' s'.heap := by rw [hhp]; exact vx_Zq.moved hW0.alike (hU.kept hS.2.1)
  have hN' : vx_Zq Bundle.tN "SUPPRESSED_SENTINEL" Bundle.listD A s' s'.heap := by rw [hhp]; exact vx_Zq.moved hW0.alike (hN.kept hS.2.1)
  have h : ∀ w ∈ Bundle.ownAtoms own ic cls names, w.before args s' = true := vx_own hat' (vx_isRefq hU'.1) (vx_isRefq hN'.1) hU'.2.word hN'.2.word
  have hown' : s'.vm.findClass own = some m.cls := by rw [hvm]; exact hown
  have hins : (Cond.instantiable cls 6).before args s' = true := h _ (by simp [Bundle.ownAtoms])
  obtain ⟨vm₁, cX, kX, hfX, hkX, -, -, X₁, st1⟩ := Y.newCold hexec (own := own) (C := cls) (index := ik) (n := 6) hown' hk' hins hini'
    (g := F0 m pc ls rest) rfl (by rw [hb]; exact d0) (Nat.le_refl _) (Nat.le_refl _)
  generalize hT1 : (T.setVm vm₁).pushCell { cls := cX, slots := kX.instanceTypes.map defaultValue, vm := .none } = T1 at X₁ st1
  have hcat : (Value.ref T.heap.size).category = 1 := rfl
  have hcellA : T1.heap[T.heap.size]? = some (freshCell cX kX) := by rw [← hT1]; exact State.heap_pushCell_size _ _
  have d3' : decode c.code (pc + 3) = .ok (.dup, 1) := by rw [hb]; exact d3
  have d4' : decode c.code (pc + 4) = .ok (.ldc is, 2) := by rw [hb]; exact d4
  have hstr' : vk_R own is text sa s' := vk_R.warm hW0 hstr
  obtain ⟨U, hsteps, hrun, hend, hW, hsame, ce, hce, hO⟩ := X₁.ctorThrowS hexec htr (own := own) (cls := cls) (names := names) (ic := ic) hown' hcls hnames h (fun x hx => nomatch hx) hfX hkX hcellA (by rw [hhp, hT]; exact Nat.le_refl _) (msg := .ref sa) rfl
    (g := { method := m, pc := pc + 6, locals := ls, stack := .ref sa :: .ref T.heap.size :: .ref T.heap.size :: rest, locked := none }) rfl hsize rfl rfl (rest := rest) rfl
    (by rw [hb]; exact d6) (by rw [hb]; exact d9) hout hRframes (by simp only [List.map_cons, List.sum_cons, hcat]; omega) hlocks
  obtain ⟨f1, f2⟩ := vx_frame hsame
  rw [hhp] at f1 f2
  have hWs : s.WarmedH U.vm := State.WarmedH.trans hW0 hW
  have hcl : s.vm.findClass cls = some ce.cls := by
    have h9 := hO.cls
    rw [hvm] at h9
    exact h9
  have hall : s.sameButNew ({ U with vm := s.vm } : State) locs mc ms := by
    subst hA
    obtain ⟨e1, e2⟩ := hsame
    rw [State.setFrames_setFrames] at e1
    have h2 : (T.setVm s.vm).sameButNew ({ U with vm := s.vm } : State) [] (0 + 1) (0 + 6) := ⟨e1, e2⟩
    have h3 := X.same.trans h2
    rw [List.append_nil] at h3
    exact h3.mono hc hs
  refine ⟨U, ?_, .threw T.heap.size, hrun, hend, Or.inr ⟨T.heap.size, rfl, cls, ce, locs, hx U hWs.alike f1 (fun q hq => f2 q hq (fun z hz => nomatch hz)), hce, hO.vm, hcl, hWs, hall, hf⟩⟩
  refine st1 _ ?_
  show Steps p.tables e below (T1.setTop { method := m, pc := pc + 3, locals := ls, stack := .ref T.heap.size :: rest, locked := none }) _
  jvm_step X₁.here [X₁.here.top, hexec, d3', Value.category]
  exact X₁.ldcString hexec (own := own) (text := text) (index := is) (a := sa) hown' hstr'.1 hstr'.2
    (g := { method := m, pc := pc + 4, locals := ls, stack := .ref T.heap.size :: .ref T.heap.size :: rest, locked := none }) rfl d4' _ hsteps
/-- 'throw new E("text")', the text by a wide index -/
theorem vx_throwSW {cc : ByteArray} {pc : Nat} (hexec : p.tables.exec = Jvm.exec) (hb : c.code = cc) (hl : l.stackTraces = false) {own cls text : String} {names : List String} {ik is ic mc ms sa : Nat} {A : Nat → Prop}
    (hown : s.vm.findClass own = some m.cls) (hcls : Bundle.fit cls = true) (hnames : ∀ n ∈ names, Bundle.fit n = true)
    (hk : (Cond.classLink own ik cls).before args s = true) (hini : (Cond.initialized cls).before args s = true) (hstr : vk_R own is text sa s) (hat : ∀ w ∈ vx_atS own ic cls names, w.before args s = true)
    (hgood : ∀ w ∈ Cond.classLink own ik cls :: Cond.initialized cls :: vx_atS own ic cls names, vx_ot w = true)
    (hU : vx_Zq Bundle.tN "UNASSIGNED_STACK" Bundle.steD A s s.heap) (hN : vx_Zq Bundle.tN "SUPPRESSED_SENTINEL" Bundle.listD A s s.heap) (hS : va_S A s.heap H locs) (hsize : ls.size = c.maxLocals)
    (d0 : decode cc pc = .ok (.new ik, 3)) (d3 : decode cc (pc + 3) = .ok (.dup, 1)) (d4 : decode cc (pc + 4) = .ok (.ldc_w is, 3)) (d7 : decode cc (pc + 7) = .ok (.invokespecial ic, 3)) (d10 : decode cc (pc + 10) = .ok (.athrow, 1))
    (hout : ∀ x ∈ c.exceptionTable.toList, covers x (pc + 10) = false)
    (hRframes : names.length + 3 < R.frames) (hRlocals : (rest.map fun v => v.category).sum + (13 * (names.length + 1) + 43) ≤ R.locals) (hRcells : cells + 1 ≤ R.cells) (hRslots : slots + 6 ≤ R.slots) (hlocks : meth.locks = false)
    (hx : ∀ t : State, s.vm.Alike t.vm → H.size ≤ t.heap.size → (∀ q : Nat, q < H.size → t.heap[q]? = H[q]?) → XC cls s t)
    (hf : ∀ z ∈ locs, free z.base) (hc : cells + 1 ≤ mc) (hs : slots + 6 ≤ ms) :
    W p l e R s m args below meth c H locs cells slots (vx_MQ below Qc XC args s mc ms free) (F0 m pc ls rest) := by
  intro T hT X
  have htr : e.platform.stackTraces = false := (show e.platform.stackTraces = l.stackTraces by rw [X.admits.platform]).trans hl
  have Y := vx_rebase X (R' := { frames := R.frames, locals := R.locals, cells := 1, slots := 6 }) (Nat.le_refl _) (Nat.le_refl _) hRcells hRslots
  obtain ⟨s', hA⟩ : ∃ z, z = (T.setVm s.vm).setFrames (.invoking m args :: below) := ⟨_, rfl⟩
  rw [← hA] at Y
  have hvm : s'.vm = s.vm := by rw [hA]; rfl
  have hhp : s'.heap = H := by rw [hA]; exact hT
  have hW0 : s.WarmedH s'.vm := by rw [hvm]; exact State.WarmedH.refl s
  have hat' : ∀ w ∈ vx_atS own ic cls names, w.before args s' = true := fun w hw => vx_ot_at hW0 hvm.symm (hgood w (List.mem_cons_of_mem _ (List.mem_cons_of_mem _ hw))) (hat w hw)
  have hk' : (Cond.classLink own ik cls).before args s' = true := vx_ot_at hW0 hvm.symm (hgood _ List.mem_cons_self) hk
  have hini' : (Cond.initialized cls).before args s' = true := vx_ot_at hW0 hvm.symm (hgood _ (List.mem_cons_of_mem _ List.mem_cons_self)) hini
  have hU' : vx_Zq Bundle.tN "UNASSIGNED_STACK" Bundle.steD A s' s'.heap := by rw [hhp]; exact vx_Zq.moved hW0.alike (hU.kept hS.2.1)
  have hN' : vx_Zq Bundle.tN "SUPPRESSED_SENTINEL" Bundle.listD A s' s'.heap := by rw [hhp]; exact vx_Zq.moved hW0.alike (hN.kept hS.2.1)
  have h : ∀ w ∈ Bundle.ownAtoms own ic cls names, w.before args s' = true := vx_own hat' (vx_isRefq hU'.1) (vx_isRefq hN'.1) hU'.2.word hN'.2.word
  have hown' : s'.vm.findClass own = some m.cls := by rw [hvm]; exact hown
  have hins : (Cond.instantiable cls 6).before args s' = true := h _ (by simp [Bundle.ownAtoms])
  obtain ⟨vm₁, cX, kX, hfX, hkX, -, -, X₁, st1⟩ := Y.newCold hexec (own := own) (C := cls) (index := ik) (n := 6) hown' hk' hins hini'
    (g := F0 m pc ls rest) rfl (by rw [hb]; exact d0) (Nat.le_refl _) (Nat.le_refl _)
  generalize hT1 : (T.setVm vm₁).pushCell { cls := cX, slots := kX.instanceTypes.map defaultValue, vm := .none } = T1 at X₁ st1
  have hcat : (Value.ref T.heap.size).category = 1 := rfl
  have hcellA : T1.heap[T.heap.size]? = some (freshCell cX kX) := by rw [← hT1]; exact State.heap_pushCell_size _ _
  have d3' : decode c.code (pc + 3) = .ok (.dup, 1) := by rw [hb]; exact d3
  have d4' : decode c.code (pc + 4) = .ok (.ldc_w is, 3) := by rw [hb]; exact d4
  have hstr' : vk_R own is text sa s' := vk_R.warm hW0 hstr
  obtain ⟨U, hsteps, hrun, hend, hW, hsame, ce, hce, hO⟩ := X₁.ctorThrowS hexec htr (own := own) (cls := cls) (names := names) (ic := ic) hown' hcls hnames h (fun x hx => nomatch hx) hfX hkX hcellA (by rw [hhp, hT]; exact Nat.le_refl _) (msg := .ref sa) rfl
    (g := { method := m, pc := pc + 7, locals := ls, stack := .ref sa :: .ref T.heap.size :: .ref T.heap.size :: rest, locked := none }) rfl hsize rfl rfl (rest := rest) rfl
    (by rw [hb]; exact d7) (by rw [hb]; exact d10) hout hRframes (by simp only [List.map_cons, List.sum_cons, hcat]; omega) hlocks
  obtain ⟨f1, f2⟩ := vx_frame hsame
  rw [hhp] at f1 f2
  have hWs : s.WarmedH U.vm := State.WarmedH.trans hW0 hW
  have hcl : s.vm.findClass cls = some ce.cls := by
    have h9 := hO.cls
    rw [hvm] at h9
    exact h9
  have hall : s.sameButNew ({ U with vm := s.vm } : State) locs mc ms := by
    subst hA
    obtain ⟨e1, e2⟩ := hsame
    rw [State.setFrames_setFrames] at e1
    have h2 : (T.setVm s.vm).sameButNew ({ U with vm := s.vm } : State) [] (0 + 1) (0 + 6) := ⟨e1, e2⟩
    have h3 := X.same.trans h2
    rw [List.append_nil] at h3
    exact h3.mono hc hs
  refine ⟨U, ?_, .threw T.heap.size, hrun, hend, Or.inr ⟨T.heap.size, rfl, cls, ce, locs, hx U hWs.alike f1 (fun q hq => f2 q hq (fun z hz => nomatch hz)), hce, hO.vm, hcl, hWs, hall, hf⟩⟩
  refine st1 _ ?_
  show Steps p.tables e below (T1.setTop { method := m, pc := pc + 3, locals := ls, stack := .ref T.heap.size :: rest, locked := none }) _
  jvm_step X₁.here [X₁.here.top, hexec, d3', Value.category]
  exact X₁.ldcStringW hexec (own := own) (text := text) (index := is) (a := sa) hown' hstr'.1 hstr'.2
    (g := { method := m, pc := pc + 4, locals := ls, stack := .ref T.heap.size :: .ref T.heap.size :: rest, locked := none }) rfl d4' _ hsteps
end Ends
section Bodies
variable {l : Launch}
theorem vx_ofW {y : MethodName} {ws ws' : List Cond} {rm : Room} {Pc : Array Value → State → Prop} {Qc : Array Value → State → Outcome → State → Prop} {XC : String → State → State → Prop} {mc ms : Nat} {free : Addr → Prop} {cc : ByteArray} {maxL : Nat} {ret : Option FieldType}
    (hy : plainName y.cls = true) (hw : ws = Cond.code y cc maxL ret :: ws')
    (body : ∀ p e s m args below meth c s₁, BodyLoose p l y (headSpec ws rm) cc maxL ret e s m args below meth c s₁ → c.maxLocals = maxL → (∀ x ∈ c.exceptionTable.toList, False) → Pc args s →
      W p l e (headSpec ws rm).room s m args below meth c s.heap [] 0 0 (vx_MQ below Qc XC args s mc ms free) (entryFrame m args maxL)) : vx_Met l y ws rm Pc Qc XC mc ms free := by
  refine MetFree.of_bodyS (code := cc) (maxLocals := maxL) (ret := ret) hy ?_ ?_
  · intro args s m h hn
    obtain ⟨meth, c, h1, h2, h3, h4, h5, h6, -, -⟩ := Cond.code_spec hn (atoms_spec (ws := ws) h _ (by rw [hw]; exact List.mem_cons_self))
    exact ⟨meth, c, h1, h2, h3, h4, h5, h6⟩
  · intro p e s m args below meth c s₁ B hml hP _
    have hh0 : s₁.heap = s.heap := by rw [B.state]; rfl
    have ht : ∀ x ∈ c.exceptionTable.toList, False := by
      obtain ⟨meth9, c9, h1, h2, -, -, -, -, h7, -⟩ := Cond.code_spec B.named (atoms_spec (ws := ws) B.pre _ (by rw [hw]; exact List.mem_cons_self))
      cases Option.some.inj (h1.symm.trans B.method)
      cases Option.some.inj (h2.symm.trans (Stand.of_body B).code)
      intro x hx
      rw [Array.isEmpty_iff.mp h7] at hx
      cases hx
    obtain ⟨t, a1, o, b1, b2, b3⟩ := body p e s m args below meth c s₁ B hml ht hP s₁ hh0 (Stand.of_body B)
    exact ⟨t, o, a1, b1, b2, b3⟩
/-- the table of a body with handlers -/
theorem vx_table {p : Program} {x y : MethodName} {S : Spec} {cc bytes : ByteArray} {maxL maxL' : Nat} {ret ret' : Option FieldType} {e : Env} {s s₁ : State} {m : MethodId} {args : Array Value} {below : List Frame} {meth : Method} {c : Code} {hh : List (Nat × Nat × Nat × Nat)}
    (B : BodyLoose p l y S cc maxL ret e s m args below meth c s₁) (h : (Cond.codeWith y bytes maxL' ret' hh).before args s = true) : c.exceptionTable.toList = tableOf hh := by
  obtain ⟨m9, meth9, c9, hn9, h1, h2, -, -, h6, -⟩ := Cond.codeWith_spec h
  cases Option.some.inj (hn9.symm.trans B.named)
  cases Option.some.inj (h1.symm.trans B.method)
  cases Option.some.inj (h2.symm.trans (Stand.of_body B).code)
  rw [← h6, table_eq]
end Bodies
end VXA
/-! ===== END ===== -/
/-! ===== BEGIN a static call of a method with an exception table ===== -/
section VXS
variable {p : Program} {l : Launch} {e : Env} {R : Room} {s : State} {m : MethodId} {args : Array Value} {below : List Frame} {meth : Method} {c : Code} {T : State} {H : Heap} {locs : List Loc} {cells slots : Nat}
abbrev vx_CSW (R : Room) (s : State) (args : Array Value) (own : String) (index : Nat) (y : MethodName) (bytes : ByteArray) (maxL : Nat) (ret : Option FieldType) (hh : List (Nat × Nat × Nat × Nat)) (ws : List Cond) (rm : Room) (mc ms n : Nat) : Prop :=
  (rm.cells = mc ∧ rm.slots = ms ∧ rm.frames + 1 ≤ R.frames ∧ 8 + (maxL + 11) + rm.locals ≤ R.locals ∧ (∀ w ∈ ws, ∀ (a' : Array Value) (U : State), s.WarmedH U.vm → w.before a' U = true) ∧ Cond.codeWith y bytes maxL ret hh ∈ ws) ∧
  (Cond.codeWith y bytes maxL ret hh).before args s = true ∧ (Cond.initialized y.cls).before args s = true ∧ (y.cls ≠ "java/lang/invoke/MethodHandle" ∧ y.cls ≠ "java/lang/invoke/VarHandle") ∧
  (∀ sig, parseMethodDescriptor y.desc = some sig → n = sig.parameters.length) ∧ (Cond.methodLink own index y).before args s = true ∧ (Cond.static y).before args s = true
theorem vx_cwSW {own : String} {index maxL mc ms : Nat} {y : MethodName} {bytes : ByteArray} {ret : Option FieldType} {hh : List (Nat × Nat × Nat × Nat)} {Ts ws ws' : List Cond} {rm : Room} (n : Nat) (ht : ∀ w ∈ Ts, w.before args s = true) (hT : GoodIn Ts (va_wsS own index y ws)) (hw : ws = Cond.codeWith y bytes maxL ret hh :: ws') (hrc : rm.cells = mc) (hrs : rm.slots = ms)
    (hd : y.cls ≠ "java/lang/invoke/MethodHandle" ∧ y.cls ≠ "java/lang/invoke/VarHandle" ∧ (parseMethodDescriptor y.desc).map (fun d => d.parameters.length) = some n) (hR : rm.frames + 1 ≤ R.frames ∧ 8 + (maxL + 11) + rm.locals ≤ R.locals) :
    vx_CSW R s args own index y bytes maxL ret hh ws rm mc ms n := by
  have ok : ∀ w ∈ va_wsS own index y ws, w.before args s = true := fun w h => ht w (hT w h).1
  have hG : GoodIn Ts ws := fun w h => hT w (by unfold va_wsS; exact List.mem_append_right _ h)
  have hc : Cond.codeWith y bytes maxL ret hh ∈ ws := by rw [hw]; exact List.mem_cons_self
  refine ⟨⟨hrc, hrs, hR.1, hR.2, pay_in ht hG, hc⟩, ht _ (hG _ hc).1, ok _ (by simp [va_wsS]), ⟨hd.1, hd.2.1⟩, fun sig h => ?_, ok _ (by simp [va_wsS]), ok _ (by simp [va_wsS])⟩
  have h2 := hd.2.2
  rw [h] at h2
  exact (Option.some.inj h2).symm
theorem vx_callSW (X : Stand p l e R s m args below meth c T locs cells slots) (hexec : p.tables.exec = Jvm.exec) {own : String} {index : Nat} {y : MethodName} {bytes : ByteArray} {maxL : Nat} {ret : Option FieldType} {hh : List (Nat × Nat × Nat × Nat)}
    (hown : s.vm.findClass own = some m.cls) (hlink : (Cond.methodLink own index y).before args s = true) (hstat : (Cond.static y).before args s = true) (hinit : (Cond.initialized y.cls).before args s = true)
    (hcode : (Cond.codeWith y bytes maxL ret hh).before args s = true) (hy : y.cls ≠ "java/lang/invoke/MethodHandle" ∧ y.cls ≠ "java/lang/invoke/VarHandle")
    {W9 : Nat} {Pre : Pt → Array Value → Prop} {Post : Pt → Array Value → Option Value → Pt → Prop} (hK : Back l R p e below s args y 3 W9 Pre Post)
    {g : JFrame} (hg : g.method = m) (hsize : g.locals.size = c.maxLocals) {argsL rest : List Value} (hlen : ∀ sig, parseMethodDescriptor y.desc = some sig → argsL.length = sig.parameters.length)
    (hstack : g.stack = argsL.reverse ++ rest) (hW : 2 * g.monitorRoom + (rest.map fun v => v.category).sum ≤ W9) (hdg : decode c.code g.pc = .ok (.invokestatic index, 3))
    (hpre : ∀ vm₁, s.WarmedH vm₁ → Pre ⟨T.setVm vm₁, locs, cells, slots⟩ argsL.toArray) :
    ∃ (v : Option Value) (vm₁ : Vm) (B : Pt), s.WarmedH vm₁ ∧ Stand p l e R s m args below meth c B.U B.locs B.cells B.slots ∧ Post ⟨T.setVm vm₁, locs, cells, slots⟩ argsL.toArray v B ∧
      ∀ target, Steps p.tables e below (B.U.setTop { g with pc := g.pc + 3, stack := v.toList ++ rest }) target → Steps p.tables e below (T.setTop g) target := by
  obtain ⟨mk, methM, cM, hnamed, hmethM, -, -, -, -, -, -, hsigM⟩ := Cond.codeWith_spec hcode
  have hstatic : methM.isStatic = true := Cond.static_spec hnamed hmethM hstat
  obtain ⟨kP, hkP, -⟩ := className_of_methodNamed hnamed
  have hinitP : kP.init = .initialized := Cond.initialized_spec (findClass_of_methodNamed hnamed) hkP hinit
  obtain ⟨vm₁, X₁, hstep₁⟩ := X.invokestatic hexec hown hlink hnamed hmethM hstatic hkP hinitP hy (g := g) hg (argsL := argsL) (rest := rest) (hlen _ hsigM) hstack hdg
  obtain ⟨v, B, X', hpost, hsteps⟩ := hK m meth c ⟨T.setVm vm₁, locs, cells, slots⟩ { g with stack := rest } (.invokestatic index) mk argsL.toArray X₁ hg hsize hdg hW (X₁.named hnamed) (hpre vm₁ X₁.warmed)
  exact ⟨v, vm₁, B, X₁.warmed, X', hpost, fun target h => hstep₁ _ fun acts => by rw [doInvoke_state]; exact hsteps.trans h⟩
theorem vx_runSW {y : MethodName} {bytes cc : ByteArray} {maxL nL mc ms n index : Nat} {ret : Option FieldType} {hh : List (Nat × Nat × Nat × Nat)} {ws : List Cond} {rm : Room} {Pc : Array Value → State → Prop} {Qc : Array Value → State → Outcome → State → Prop} {free : Addr → Prop} {Ts : List Cond} {own : String} {As rest : List Value} {g : JFrame}
    (S : CallFix p m c cc nL s args Ts own) (hM : Met l y ws rm Pc Qc mc ms free) (cw : vx_CSW R s args own index y bytes maxL ret hh ws rm mc ms n) (hp : PreS s H Pc As)
    (hg : g.method = m) (hn : As.length = n) (hsize : g.locals.size = nL) (hstack : g.stack = As.reverse ++ rest) (hW : 2 * g.monitorRoom + (rest.map fun v => v.category).sum ≤ 8) (hdg : decode cc g.pc = .ok (.invokestatic index, 3)) (hf : cells + mc ≤ R.cells ∧ slots + ms ≤ R.slots) :
    va_Run p l e R s m args below meth c H locs cells slots mc ms g rest (Qc As.toArray) (free) := by
  obtain ⟨⟨hrc, hrs, hfr, hlo, hws, hcw⟩, hcode, hini, hy, hlen, hl, hstt⟩ := cw
  have hK : Back l R p e below s args y 3 8 (PreOf R mc ms Pc) (PostOf Qc mc ms free) := va_backW (hh := hh) (bytes := bytes) (maxL := maxL) (ret := ret) hM hp.1 hrc hrs hfr hlo hws hcw (fun a' U hW => word_at hW (Or.inl (by first | rfl | simp [Cond.onTables, Cond.keeps, Cond.steady])) hini)
  obtain ⟨hx, hb, hml, ho, -⟩ := S
  intro T hT X
  obtain ⟨v, vm₁, ⟨U', l2, c2, s2⟩, hW₁, X', ⟨g', mk, t, L, e1, e2, hq, h1, hL, h2, h3⟩, st⟩ := vx_callSW X hx (hh := hh) (bytes := bytes) (maxL := maxL) (ret := ret) ho hl hstt hini hcode hy hK hg (hsize.trans hml.symm) (argsL := As) (rest := rest) (fun sig h => hn.trans (hlen sig h)) hstack hW (by rw [hb]; exact hdg)
    (fun vm₁ hW₁ => ⟨hf.1, hf.2, hp.2 (T.setVm vm₁) hT hW₁⟩)
  dsimp only [Pt.U, Pt.locs, Pt.cells, Pt.slots] at X' e1 e2 h1 h2 h3 st
  subst h1; subst h2; subst h3
  exact ⟨v, (T.setVm vm₁).calling g' mk As.toArray, t, U', L, hT, X', hL, e1, e2, hq, st⟩
/-- not caught here, past rows that name other classes: it goes on to the caller -/
theorem vx_outP {p : Program} {l : Launch} {e : Env} {R : Room} {s : State} {m : MethodId} {args : Array Value} {below : List Frame} {meth : Method} {c : Code} {H : Heap} {locs : List Loc} {cells slots : Nat} {free : Addr → Prop} {ls : Array Slot} {rest : List Value} {Qc : Array Value → State → Outcome → State → Prop} {XC : String → State → State → Prop}
    {pc : Nat} {own E : String} {ce : Cell} {q : Addr} {mc ms : Nat} (hown : s.vm.findClass own = some m.cls) (hlocks : meth.locks = false)
    (hpass : ∀ z ∈ c.exceptionTable.toList, covers z pc = false ∨ (z.catchType ≠ 0 ∧ ∃ nm : String, (Cond.classLink own z.catchType nm).before args s = true ∧ va_Nc E nm s)) (hcell : H[q]? = some ce) (hv : ce.vm = .none) (hcl : s.vm.findClass E = some ce.cls)
    (hx : ∀ t : State, t.heap = H → s.vm.Alike t.vm → XC E s t) (hf : ∀ z ∈ locs, free z.base) (hc : cells ≤ mc) (hs : slots ≤ ms) :
    vx_W p l e R s m args below meth c H locs cells slots (vx_MQ below Qc XC args s mc ms free) (F0 m pc ls rest) q := by
  intro T hT X
  have hpl : e.platform.magicAccessors = ({} : Platform).magicAccessors := by rw [X.admits.platform]
  obtain ⟨vm', hW', X', st⟩ := X.outThrough hlocks q (g := F0 m pc ls rest) rfl rfl rfl (cell := ce) (by rw [hT]; exact hcell) (by rw [hv]; rfl)
    (by obtain ⟨k9, h9, -⟩ := Vm.findClass_spec hcl; exact ⟨k9, h9⟩) (fun z hz => by
      rcases hpass z hz with h | ⟨hz0, nm, hl1, hn1⟩
      · exact Or.inl h
      · obtain ⟨c6, hc6, hcl6⟩ := Cond.classLink_spec hown hl1 e.platform hpl
        obtain ⟨a8, b8, h1, h2, h3⟩ := hn1
        cases Option.some.inj (h1.symm.trans hcl)
        cases Option.some.inj (h2.symm.trans hc6)
        exact Or.inr ⟨hz0, _, hcl6, h3⟩)
  obtain ⟨g₀, hfr⟩ := X'.frames_eq
  have hcell9 : ((T.setVm vm').setFrames (.throwing q :: below)).heap[q]? = some ce := by
    show T.heap[q]? = some ce
    rw [hT]; exact hcell
  have hend : Ended ((T.setVm vm').setFrames (.throwing q :: below)) below (.threw q) := State.frames_setFrames _ (State.cur_lt_of_frames hfr)
  refine ⟨(T.setVm vm').setFrames (.throwing q :: below), ?_, .threw q, X'.here.running, hend, Or.inr ⟨q, rfl, E, ce, locs, hx _ hT (X'.ends _).1.alike, hcell9, hv, hcl, (X'.ends _).1, (X'.ends _).2.mono hc hs, hf⟩⟩
  rw [X.pushThrowing_eq]
  exact st
/-- a thing of a world lies in the heap -/
theorem vx_lt {D : va_G} {cl : List vw_C} {ws : va_W} {H1 : Heap} (h : va_P D cl ws H1) {k : Nat} {q : Nat × va_E} (hk : ws[k]? = some q) : q.1 < H1.size := (h k q hk).lt
end VXS
/-! ===== END ===== -/
/-! ===== BEGIN methods with a table of their own: called by a name, returning or throwing ===== -/
section VXH
/-! vx_backW, vx_callVX, vx_callSX, vx_callVW, vx_runVW, vx_runVX, vx_runSX, vx_ofWH follow the same proofs as their sisters above (Free/Laws.lean, Shelf42/LK1.lean); vx_outP calls Shelf42/NT130.lean (outThrough). -/
section
variable {l : Launch} {R : Room} {p : Program} {e : Env} {below : List Frame} {s : State} {sargs : Array Value} {y : MethodName} {len W9 : Nat}
theorem vx_backW {ws : List Cond} {rm : Room} {Pc : Array Value → State → Prop} {Qc : Array Value → State → Outcome → State → Prop} {XC : String → State → State → Prop} {mc ms : Nat} {free : Addr → Prop} {bytes : ByteArray} {maxL : Nat} {ret : Option FieldType} {hh : List (Nat × Nat × Nat × Nat)}
    (hM : vx_Met l y ws rm Pc Qc XC mc ms free) (hblind : FrameBlind Pc) (hrc : rm.cells = mc) (hrs : rm.slots = ms)
    (hframes : rm.frames + 1 ≤ R.frames) (hlocals : W9 + (maxL + 11) + rm.locals ≤ R.locals)
    (hws : ∀ w ∈ ws, ∀ a' U, s.WarmedH U.vm → w.before a' U = true) (hcode : Cond.codeWith y bytes maxL ret hh ∈ ws) (hinit : ∀ a' U, s.WarmedH U.vm → (Cond.initialized y.cls).before a' U = true) :
    vx_Back l R p e below s sargs y len W9 (PreOf R mc ms Pc) (PostOf Qc mc ms free) (vx_Post XC mc ms free) := by
  intro m meth c A g ig mk a X hg hsize hdg hW hn hp
  have h1 : (headSpec ws rm).pre.before a A.U = true := atoms_intro fun w hw => hws w hw _ _ X.warmed
  have h2 : (Cond.codeWith y bytes maxL ret hh).before a A.U = true := hws _ hcode _ _ X.warmed
  have h3 : (Cond.initialized y.cls).before a A.U = true := hinit _ _ X.warmed
  have h4 : A.cells + (headSpec ws rm).room.cells ≤ R.cells := by rw [show (headSpec ws rm).room.cells = mc from hrc]; exact hp.1
  have h5 : A.slots + (headSpec ws rm).room.slots ≤ R.slots := by rw [show (headSpec ws rm).room.slots = ms from hrs]; exact hp.2.1
  have hPc : Pc a (A.U.calling g mk a) := hblind _ _ _ _ hp.2.2
  obtain ⟨U, Ls, c0, s0⟩ := A
  dsimp only [Pt.U, Pt.locs, Pt.cells, Pt.slots] at h1 h2 h3 h4 h5 X hn hPc ⊢
  obtain ⟨m9, methY, cY, hn9, hmY, hcY, -, hlY, -⟩ := Cond.codeWith_spec h2
  cases Option.some.inj (hn9.symm.trans hn)
  obtain ⟨kY, hkY, -⟩ := className_of_methodNamed hn
  have hinitY : kY.init = .initialized := Cond.initialized_spec (findClass_of_methodNamed hn) hkY h3
  have h : At U g.method c below := by rw [hg]; exact X.here
  have hlocals9 : W9 + (maxL + 11) + (headSpec ws rm).room.locals ≤ R.locals := hlocals
  have happ : (headSpec ws rm).appliesLoose y e.platform (U.calling g mk a) = true :=
    Spec.appliesLoose_calling (g := g) h hdg hn hkY hinitY
      (X.room_calling (g := g) (R' := (headSpec ws rm).room) hsize hmY hcY hframes (by rw [hlY]; omega) h4 h5) h1
  obtain ⟨mid, hmid⟩ := h.above
  have hfr : (U.setTop g).frames = (.java g :: mid) ++ below := by rw [State.frames_setTop' g h.top, hmid]; rfl
  obtain ⟨o, s₂, hsteps, -, hend, hq⟩ := Steps.callFree hM p X.admits X.cas X.clock (acts := []) hfr happ hPc trivial
  have hq' : vx_Q Qc XC mc ms free a (U.calling g mk a) o s₂ := hq
  rw [State.frames_setTop' g h.top] at hend
  obtain ⟨g₀, hg0⟩ := Option.isSome_iff_exists.mp h.top
  obtain ⟨r, hr⟩ := State.topJava?_eq_some.mp hg0
  have hr' : (({ U with heap := s₂.heap, slotsUsed := s₂.slotsUsed } : State).setVm s₂.vm).frames = .java g₀ :: r := hr
  rcases hq' with ⟨hqc, L, hfe, hL⟩ | ⟨q, rfl, E, ce, L, hx, hce, hcv, hcl, hW₂, hsm, hL⟩
  · obtain ⟨⟨v, rfl⟩, hW₂, e2, q2, q3, q4, q5, q6⟩ := id hfe
    have e3 : s₂ = ({ (U.calling g mk a).setFrames s₂.frames with heap := s₂.heap, slotsUsed := s₂.slotsUsed } : State).setVm s₂.vm := by
      have : s₂ = ({ s₂ with vm := (U.calling g mk a).vm } : State).setVm s₂.vm := rfl
      rw [e2] at this
      exact this
    obtain ⟨c₂, i₂, len₂, hc₂, hd₂, hf₂⟩ := hend
    have hW' : U.WarmedH s₂.vm := hW₂
    have hcc : c₂ = c := by
      have h1 : s₂.code? g.method = U.code? g.method := by
        rw [State.code?_eq, State.code?_eq, hW'.alike.method?]
      exact Option.some.inj (hc₂.symm.trans (h1.trans h.code))
    subst hcc
    have hlen : len₂ = len := by rw [hdg] at hd₂; cases hd₂; rfl
    subst hlen
    have hs₂ : s₂ = (({ U with heap := s₂.heap, slotsUsed := s₂.slotsUsed } : State).setVm s₂.vm).setTop { g with pc := g.pc + len₂, stack := v.toList ++ g.stack } := by
      refine e3.trans ?_
      rw [hf₂, State.calling_eq h.top, State.setFrames_setFrames, State.setTop_of_frames _ hr', hr]
      rfl
    have hsame : U.sameButNew ({ U with heap := s₂.heap, slotsUsed := s₂.slotsUsed } : State) L mc ms := by
      refine ⟨?_, q2, q3, q4, q5, q6⟩
      obtain ⟨t, ht, -⟩ := State.frames_cons hr
      show ({ U with heap := s₂.heap, slotsUsed := s₂.slotsUsed } : State) = { U.setFrames U.frames with heap := s₂.heap, slotsUsed := s₂.slotsUsed }
      rw [State.setFrames_self ht]
    subst hg
    refine Or.inl ⟨v, ⟨(({ U with heap := s₂.heap, slotsUsed := s₂.slotsUsed } : State).setVm s₂.vm), Ls ++ L, c0 + mc, s0 + ms⟩,
      ⟨X.admits, X.cas, X.clock, X.frames, X.room, X.hears, X.method, X.code, (X.here.setHeapUsed s₂.heap s₂.slotsUsed).setVm hW'.alike, X.tail, State.WarmedH.trans X.warmed hW', X.limits, X.bytes, X.same.trans (hsame.setVm s.vm)⟩,
      ⟨g, mk, s₂, L, rfl, rfl, hqc, rfl, hL, rfl, rfl⟩, ?_⟩
    show Steps p.tables e below _ ((({ U with heap := s₂.heap, slotsUsed := s₂.slotsUsed } : State).setVm s₂.vm).setTop { g with pc := g.pc + len₂, stack := v.toList ++ g.stack })
    rw [← hs₂]
    exact hsteps
  · obtain ⟨e2, q2, q3, q4, q5, q6⟩ := id hsm
    have e3 : s₂ = ({ (U.calling g mk a).setFrames s₂.frames with heap := s₂.heap, slotsUsed := s₂.slotsUsed } : State).setVm s₂.vm := by
      have : s₂ = ({ s₂ with vm := (U.calling g mk a).vm } : State).setVm s₂.vm := rfl
      rw [e2] at this
      exact this
    have hf₂ : s₂.frames = .throwing q :: .java g :: U.frames.tail := hend
    have hW' : U.WarmedH s₂.vm := hW₂
    have hs₂ : s₂ = ((({ U with heap := s₂.heap, slotsUsed := s₂.slotsUsed } : State).setVm s₂.vm).setTop g).pushFrame (.throwing q) := by
      refine e3.trans ?_
      rw [hf₂, State.calling_eq h.top, State.setFrames_setFrames, State.pushFrame, State.frames_setTop _ hr', State.setTop_of_frames _ hr', State.setFrames_setFrames, hr]
      rfl
    have hsame : U.sameButNew ({ U with heap := s₂.heap, slotsUsed := s₂.slotsUsed } : State) L mc ms := by
      refine ⟨?_, q2, q3, q4, q5, q6⟩
      obtain ⟨t, ht, -⟩ := State.frames_cons hr
      show ({ U with heap := s₂.heap, slotsUsed := s₂.slotsUsed } : State) = { U.setFrames U.frames with heap := s₂.heap, slotsUsed := s₂.slotsUsed }
      rw [State.setFrames_self ht]
    subst hg
    refine Or.inr ⟨q, ⟨(({ U with heap := s₂.heap, slotsUsed := s₂.slotsUsed } : State).setVm s₂.vm), Ls ++ L, c0 + mc, s0 + ms⟩,
      ⟨X.admits, X.cas, X.clock, X.frames, X.room, X.hears, X.method, X.code, (X.here.setHeapUsed s₂.heap s₂.slotsUsed).setVm hW'.alike, X.tail, State.WarmedH.trans X.warmed hW', X.limits, X.bytes, X.same.trans (hsame.setVm s.vm)⟩,
      ⟨g, mk, s₂, L, E, ce, rfl, rfl, hx, hce, hcv, hcl, rfl, hL, rfl, rfl⟩, ?_⟩
    show Steps p.tables e below _ (((({ U with heap := s₂.heap, slotsUsed := s₂.slotsUsed } : State).setVm s₂.vm).setTop g).pushFrame (.throwing q))
    rw [← hs₂]
    exact hsteps
end
variable {p : Program} {l : Launch} {e : Env} {R : Room} {s : State} {m : MethodId} {args : Array Value} {below : List Frame} {meth : Method} {c : Code} {T : State} {H : Heap} {locs : List Loc} {cells slots : Nat}
theorem vx_callVX (X : Stand p l e R s m args below meth c T locs cells slots) (hexec : p.tables.exec = Jvm.exec) {own C : String} {index : Nat} {y : MethodName} {bytes : ByteArray} {maxL : Nat} {ret : Option FieldType} {hh : List (Nat × Nat × Nat × Nat)}
    (hown : s.vm.findClass own = some m.cls) (hlink : (Cond.methodLink own index y).before args s = true) (hinst : (Cond.instanceMethod y).before args s = true) (hsel : (Cond.selects C y y).before args s = true)
    (hcode : (Cond.codeWith y bytes maxL ret hh).before args s = true) (hy : y.cls ≠ "java/lang/invoke/MethodHandle" ∧ y.cls ≠ "java/lang/invoke/VarHandle")
    {W9 : Nat} {Pre : Pt → Array Value → Prop} {Post : Pt → Array Value → Option Value → Pt → Prop} {PostX : Pt → Array Value → Addr → Pt → Prop} (hK : vx_Back l R p e below s args y 3 W9 Pre Post PostX)
    {b : Addr} {cellB : Cell} (hcell : T.heap[b]? = some cellB) (hobj : cellB.vm.isStatics = false) (hcls : s.vm.findClass C = some cellB.cls)
    {g : JFrame} (hg : g.method = m) (hsize : g.locals.size = c.maxLocals) {argsL rest : List Value} (hlen : ∀ sig, parseMethodDescriptor y.desc = some sig → argsL.length = sig.parameters.length)
    (hstack : g.stack = argsL.reverse ++ .ref b :: rest) (hW : 2 * g.monitorRoom + (rest.map fun v => v.category).sum ≤ W9) (hdg : decode c.code g.pc = .ok (.invokevirtual index, 3))
    (hpre : ∀ vm₁, s.WarmedH vm₁ → Pre ⟨T.setVm vm₁, locs, cells, slots⟩ (Value.ref b :: argsL).toArray) :
    (∃ (v : Option Value) (vm₁ : Vm) (B : Pt), s.WarmedH vm₁ ∧ Stand p l e R s m args below meth c B.U B.locs B.cells B.slots ∧ Post ⟨T.setVm vm₁, locs, cells, slots⟩ (Value.ref b :: argsL).toArray v B ∧
      ∀ target, Steps p.tables e below (B.U.setTop { g with pc := g.pc + 3, stack := v.toList ++ rest }) target → Steps p.tables e below (T.setTop g) target) ∨
    (∃ (q : Addr) (vm₁ : Vm) (B : Pt), s.WarmedH vm₁ ∧ Stand p l e R s m args below meth c B.U B.locs B.cells B.slots ∧ PostX ⟨T.setVm vm₁, locs, cells, slots⟩ (Value.ref b :: argsL).toArray q B ∧
      Steps p.tables e below (T.setTop g) ((B.U.setTop { g with stack := rest }).pushFrame (.throwing q))) := by
  obtain ⟨mk, methM, hnamed, hmethM, hstM, habM⟩ := Cond.instanceMethod_spec hinst
  obtain ⟨m8, methM', cM, hn8, hmethM', -, -, -, -, -, -, hsigM⟩ := Cond.codeWith_spec hcode
  cases Option.some.inj (hn8.symm.trans hnamed)
  cases hmethM.symm.trans hmethM'
  obtain ⟨c2, r2, m2, q1, q2, q3, q4, kP, hkP, hkPi⟩ := Cond.selects_spec hsel
  cases hcls.symm.trans q1
  cases (State.methodFound?_of_named hnamed hy).symm.trans q2
  cases hnamed.symm.trans q3
  have hselP : selectMethod e.platform s.vm cellB.cls mk = .method mk := by rw [Launch.admits_selectMethod X.admits]; exact q4
  obtain ⟨vm₁, X₁, hstep₁⟩ := X.invokevirtual hexec hown hlink hnamed hmethM hstM hkP hkPi hy (a := b) (cell := cellB) hcell
    (fun z h => by rw [h] at hobj; cases hobj) hselP hmethM habM hkP hkPi (g := g) hg (argsL := argsL) (rest := rest) (hlen _ hsigM) hstack hdg
  rcases hK m meth c ⟨T.setVm vm₁, locs, cells, slots⟩ { g with stack := rest } (.invokevirtual index) mk (Value.ref b :: argsL).toArray X₁ hg hsize hdg hW (X₁.named hnamed) (hpre vm₁ X₁.warmed) with ⟨v, B, X', hpost, hsteps⟩ | ⟨q, B, X', hpost, hsteps⟩
  · exact Or.inl ⟨v, vm₁, B, X₁.warmed, X', hpost, fun target h => hstep₁ _ fun acts => by rw [doInvoke_state]; exact hsteps.trans h⟩
  · exact Or.inr ⟨q, vm₁, B, X₁.warmed, X', hpost, hstep₁ _ fun acts => by rw [doInvoke_state]; exact hsteps⟩
theorem vx_callSX (X : Stand p l e R s m args below meth c T locs cells slots) (hexec : p.tables.exec = Jvm.exec) {own : String} {index : Nat} {y : MethodName} {bytes : ByteArray} {maxL : Nat} {ret : Option FieldType} {hh : List (Nat × Nat × Nat × Nat)}
    (hown : s.vm.findClass own = some m.cls) (hlink : (Cond.methodLink own index y).before args s = true) (hstat : (Cond.static y).before args s = true) (hinit : (Cond.initialized y.cls).before args s = true)
    (hcode : (Cond.codeWith y bytes maxL ret hh).before args s = true) (hy : y.cls ≠ "java/lang/invoke/MethodHandle" ∧ y.cls ≠ "java/lang/invoke/VarHandle")
    {W9 : Nat} {Pre : Pt → Array Value → Prop} {Post : Pt → Array Value → Option Value → Pt → Prop} {PostX : Pt → Array Value → Addr → Pt → Prop} (hK : vx_Back l R p e below s args y 3 W9 Pre Post PostX)
    {g : JFrame} (hg : g.method = m) (hsize : g.locals.size = c.maxLocals) {argsL rest : List Value} (hlen : ∀ sig, parseMethodDescriptor y.desc = some sig → argsL.length = sig.parameters.length)
    (hstack : g.stack = argsL.reverse ++ rest) (hW : 2 * g.monitorRoom + (rest.map fun v => v.category).sum ≤ W9) (hdg : decode c.code g.pc = .ok (.invokestatic index, 3))
    (hpre : ∀ vm₁, s.WarmedH vm₁ → Pre ⟨T.setVm vm₁, locs, cells, slots⟩ argsL.toArray) :
    (∃ (v : Option Value) (vm₁ : Vm) (B : Pt), s.WarmedH vm₁ ∧ Stand p l e R s m args below meth c B.U B.locs B.cells B.slots ∧ Post ⟨T.setVm vm₁, locs, cells, slots⟩ argsL.toArray v B ∧
      ∀ target, Steps p.tables e below (B.U.setTop { g with pc := g.pc + 3, stack := v.toList ++ rest }) target → Steps p.tables e below (T.setTop g) target) ∨
    (∃ (q : Addr) (vm₁ : Vm) (B : Pt), s.WarmedH vm₁ ∧ Stand p l e R s m args below meth c B.U B.locs B.cells B.slots ∧ PostX ⟨T.setVm vm₁, locs, cells, slots⟩ argsL.toArray q B ∧
      Steps p.tables e below (T.setTop g) ((B.U.setTop { g with stack := rest }).pushFrame (.throwing q))) := by
  obtain ⟨mk, methM, cM, hnamed, hmethM, -, -, -, -, -, -, hsigM⟩ := Cond.codeWith_spec hcode
  have hstatic : methM.isStatic = true := Cond.static_spec hnamed hmethM hstat
  obtain ⟨kP, hkP, -⟩ := className_of_methodNamed hnamed
  have hinitP : kP.init = .initialized := Cond.initialized_spec (findClass_of_methodNamed hnamed) hkP hinit
  obtain ⟨vm₁, X₁, hstep₁⟩ := X.invokestatic hexec hown hlink hnamed hmethM hstatic hkP hinitP hy (g := g) hg (argsL := argsL) (rest := rest) (hlen _ hsigM) hstack hdg
  rcases hK m meth c ⟨T.setVm vm₁, locs, cells, slots⟩ { g with stack := rest } (.invokestatic index) mk argsL.toArray X₁ hg hsize hdg hW (X₁.named hnamed) (hpre vm₁ X₁.warmed) with ⟨v, B, X', hpost, hsteps⟩ | ⟨q, B, X', hpost, hsteps⟩
  · exact Or.inl ⟨v, vm₁, B, X₁.warmed, X', hpost, fun target h => hstep₁ _ fun acts => by rw [doInvoke_state]; exact hsteps.trans h⟩
  · exact Or.inr ⟨q, vm₁, B, X₁.warmed, X', hpost, hstep₁ _ fun acts => by rw [doInvoke_state]; exact hsteps⟩
theorem vx_callVW (X : Stand p l e R s m args below meth c T locs cells slots) (hexec : p.tables.exec = Jvm.exec) {own C : String} {index : Nat} {y : MethodName} {bytes : ByteArray} {maxL : Nat} {ret : Option FieldType} {hh : List (Nat × Nat × Nat × Nat)}
    (hown : s.vm.findClass own = some m.cls) (hlink : (Cond.methodLink own index y).before args s = true) (hinst : (Cond.instanceMethod y).before args s = true) (hsel : (Cond.selects C y y).before args s = true)
    (hcode : (Cond.codeWith y bytes maxL ret hh).before args s = true) (hy : y.cls ≠ "java/lang/invoke/MethodHandle" ∧ y.cls ≠ "java/lang/invoke/VarHandle")
    {W9 : Nat} {Pre : Pt → Array Value → Prop} {Post : Pt → Array Value → Option Value → Pt → Prop} (hK : Back l R p e below s args y 3 W9 Pre Post)
    {b : Addr} {cellB : Cell} (hcell : T.heap[b]? = some cellB) (hobj : cellB.vm.isStatics = false) (hcls : s.vm.findClass C = some cellB.cls)
    {g : JFrame} (hg : g.method = m) (hsize : g.locals.size = c.maxLocals) {argsL rest : List Value} (hlen : ∀ sig, parseMethodDescriptor y.desc = some sig → argsL.length = sig.parameters.length)
    (hstack : g.stack = argsL.reverse ++ .ref b :: rest) (hW : 2 * g.monitorRoom + (rest.map fun v => v.category).sum ≤ W9) (hdg : decode c.code g.pc = .ok (.invokevirtual index, 3))
    (hpre : ∀ vm₁, s.WarmedH vm₁ → Pre ⟨T.setVm vm₁, locs, cells, slots⟩ (Value.ref b :: argsL).toArray) :
    ∃ (v : Option Value) (vm₁ : Vm) (B : Pt), s.WarmedH vm₁ ∧ Stand p l e R s m args below meth c B.U B.locs B.cells B.slots ∧ Post ⟨T.setVm vm₁, locs, cells, slots⟩ (Value.ref b :: argsL).toArray v B ∧
      ∀ target, Steps p.tables e below (B.U.setTop { g with pc := g.pc + 3, stack := v.toList ++ rest }) target → Steps p.tables e below (T.setTop g) target := by
  obtain ⟨mk, methM, hnamed, hmethM, hstM, habM⟩ := Cond.instanceMethod_spec hinst
  obtain ⟨m8, methM', cM, hn8, hmethM', -, -, -, -, -, -, hsigM⟩ := Cond.codeWith_spec hcode
  cases Option.some.inj (hn8.symm.trans hnamed)
  cases hmethM.symm.trans hmethM'
  obtain ⟨c2, r2, m2, q1, q2, q3, q4, kP, hkP, hkPi⟩ := Cond.selects_spec hsel
  cases hcls.symm.trans q1
  cases (State.methodFound?_of_named hnamed hy).symm.trans q2
  cases hnamed.symm.trans q3
  have hselP : selectMethod e.platform s.vm cellB.cls mk = .method mk := by rw [Launch.admits_selectMethod X.admits]; exact q4
  obtain ⟨vm₁, X₁, hstep₁⟩ := X.invokevirtual hexec hown hlink hnamed hmethM hstM hkP hkPi hy (a := b) (cell := cellB) hcell
    (fun z h => by rw [h] at hobj; cases hobj) hselP hmethM habM hkP hkPi (g := g) hg (argsL := argsL) (rest := rest) (hlen _ hsigM) hstack hdg
  obtain ⟨v, B, X', hpost, hsteps⟩ := hK m meth c ⟨T.setVm vm₁, locs, cells, slots⟩ { g with stack := rest } (.invokevirtual index) mk (Value.ref b :: argsL).toArray X₁ hg hsize hdg hW (X₁.named hnamed) (hpre vm₁ X₁.warmed)
  exact ⟨v, vm₁, B, X₁.warmed, X', hpost, fun target h => hstep₁ _ fun acts => by rw [doInvoke_state]; exact hsteps.trans h⟩
abbrev vx_CVW (R : Room) (s : State) (args : Array Value) (own C : String) (index : Nat) (y : MethodName) (bytes : ByteArray) (maxL : Nat) (ret : Option FieldType) (hh : List (Nat × Nat × Nat × Nat)) (ws : List Cond) (rm : Room) (mc ms n : Nat) : Prop :=
  (rm.cells = mc ∧ rm.slots = ms ∧ rm.frames + 1 ≤ R.frames ∧ 8 + (maxL + 11) + rm.locals ≤ R.locals ∧ (∀ w ∈ ws, ∀ (a' : Array Value) (U : State), s.WarmedH U.vm → w.before a' U = true) ∧ Cond.codeWith y bytes maxL ret hh ∈ ws) ∧
  (Cond.codeWith y bytes maxL ret hh).before args s = true ∧ (Cond.initialized y.cls).before args s = true ∧ (y.cls ≠ "java/lang/invoke/MethodHandle" ∧ y.cls ≠ "java/lang/invoke/VarHandle") ∧
  (∀ sig, parseMethodDescriptor y.desc = some sig → n = sig.parameters.length) ∧ (Cond.methodLink own index y).before args s = true ∧ (Cond.instanceMethod y).before args s = true ∧ (Cond.selects C y y).before args s = true
theorem vx_cwVW {own C : String} {index maxL mc ms : Nat} {y : MethodName} {bytes : ByteArray} {ret : Option FieldType} {hh : List (Nat × Nat × Nat × Nat)} {Ts ws ws' : List Cond} {rm : Room} (n : Nat) (ht : ∀ w ∈ Ts, w.before args s = true) (hT : GoodIn Ts (wsV own index C y ws)) (hw : ws = Cond.codeWith y bytes maxL ret hh :: ws') (hrc : rm.cells = mc) (hrs : rm.slots = ms)
    (hd : y.cls = C ∧ y.cls ≠ "java/lang/invoke/MethodHandle" ∧ y.cls ≠ "java/lang/invoke/VarHandle" ∧ (parseMethodDescriptor y.desc).map (fun d => d.parameters.length) = some n) (hR : rm.frames + 1 ≤ R.frames ∧ 8 + (maxL + 11) + rm.locals ≤ R.locals) :
    vx_CVW R s args own C index y bytes maxL ret hh ws rm mc ms n := by
  obtain ⟨hC, hd⟩ := hd
  subst hC
  have ok : ∀ w ∈ wsV own index y.cls y ws, w.before args s = true := fun w h => ht w (hT w h).1
  have hG : GoodIn Ts ws := fun w h => hT w (by unfold wsV; exact List.mem_append_right _ h)
  have hc : Cond.codeWith y bytes maxL ret hh ∈ ws := by rw [hw]; exact List.mem_cons_self
  refine ⟨⟨hrc, hrs, hR.1, hR.2, pay_in ht hG, hc⟩, ht _ (hG _ hc).1, ok _ (by simp [wsV]), ⟨hd.1, hd.2.1⟩, fun sig h => ?_, ok _ (by simp [wsV]), ok _ (by simp [wsV]), ok _ (by simp [wsV])⟩
  have h2 := hd.2.2
  rw [h] at h2
  exact (Option.some.inj h2).symm
theorem vx_runVW {y : MethodName} {bytes cc : ByteArray} {maxL nL mc ms n index : Nat} {ret : Option FieldType} {hh : List (Nat × Nat × Nat × Nat)} {ws : List Cond} {rm : Room} {Pc : Array Value → State → Prop} {Qc : Array Value → State → Outcome → State → Prop} {free : Addr → Prop} {Ts : List Cond} {own C : String} {b : Addr} {As rest : List Value} {g : JFrame}
    (S : CallFix p m c cc nL s args Ts own) (hM : Met l y ws rm Pc Qc mc ms free) (cw : vx_CVW R s args own C index y bytes maxL ret hh ws rm mc ms n) (hp : PreV s H C b Pc As)
    (hg : g.method = m) (hn : As.length = n) (hsize : g.locals.size = nL) (hstack : g.stack = As.reverse ++ .ref b :: rest) (hW : 2 * g.monitorRoom + (rest.map fun v => v.category).sum ≤ 8) (hdg : decode cc g.pc = .ok (.invokevirtual index, 3)) (hf : cells + mc ≤ R.cells ∧ slots + ms ≤ R.slots) :
    va_Run p l e R s m args below meth c H locs cells slots mc ms g rest (Qc (Value.ref b :: As).toArray) free := by
  obtain ⟨⟨hrc, hrs, hfr, hlo, hws, hcw⟩, hcode, hini, hy, hlen, hl, hin, hse⟩ := cw
  have hK : Back l R p e below s args y 3 8 (PreOf R mc ms Pc) (PostOf Qc mc ms free) := va_backW (hh := hh) (bytes := bytes) (maxL := maxL) (ret := ret) hM hp.1 hrc hrs hfr hlo hws hcw (fun a' U hW => word_at hW (Or.inl (by first | rfl | simp [Cond.onTables, Cond.keeps, Cond.steady])) hini)
  obtain ⟨hx, hb, hml, ho, -⟩ := S
  obtain ⟨-, ⟨cellB, hcB, hoB, hclB⟩, hPc⟩ := hp
  intro T hT X
  obtain ⟨v, vm₁, ⟨U', l2, c2, s2⟩, hW₁, X', ⟨g', mk, t, L, e1, e2, hq, h1, hL, h2, h3⟩, st⟩ := vx_callVW X hx (C := C) (hh := hh) (bytes := bytes) (maxL := maxL) (ret := ret) ho hl hin hse hcode hy hK (by rw [hT]; exact hcB) hoB hclB hg (hsize.trans hml.symm) (argsL := As) (rest := rest) (fun sig h => hn.trans (hlen sig h)) hstack hW (by rw [hb]; exact hdg)
    (fun vm₁ hW₁ => ⟨hf.1, hf.2, hPc (T.setVm vm₁) hT hW₁⟩)
  dsimp only [Pt.U, Pt.locs, Pt.cells, Pt.slots] at X' e1 e2 h1 h2 h3 st
  subst h1; subst h2; subst h3
  exact ⟨v, (T.setVm vm₁).calling g' mk (Value.ref b :: As).toArray, t, U', L, hT, X', hL, e1, e2, hq, st⟩
section
variable {y : MethodName} {bytes cc : ByteArray} {maxL nL mc ms n index : Nat} {ret : Option FieldType} {ws : List Cond} {rm : Room} {Pc : Array Value → State → Prop} {Qc : Array Value → State → Outcome → State → Prop} {XC : String → State → State → Prop} {free : Addr → Prop} {Ts : List Cond} {own C : String} {b : Addr} {As rest : List Value} {g : JFrame}
theorem vx_runVX {hh : List (Nat × Nat × Nat × Nat)} (S : CallFix p m c cc nL s args Ts own) (hM : vx_Met l y ws rm Pc Qc XC mc ms free) (cw : vx_CVW R s args own C index y bytes maxL ret hh ws rm mc ms n) (hp : PreV s H C b Pc As)
    (hg : g.method = m) (hn : As.length = n) (hsize : g.locals.size = nL) (hstack : g.stack = As.reverse ++ .ref b :: rest) (hW : 2 * g.monitorRoom + (rest.map fun v => v.category).sum ≤ 8) (hdg : decode cc g.pc = .ok (.invokevirtual index, 3)) (hf : cells + mc ≤ R.cells ∧ slots + ms ≤ R.slots) :
    vx_Run p l e R s m args below meth c H locs cells slots mc ms g rest (Qc (Value.ref b :: As).toArray) XC free := by
  obtain ⟨⟨hrc, hrs, hfr, hlo, hws, hcw⟩, hcode, hini, hy, hlen, hl, hin, hse⟩ := cw
  have hK : vx_Back l R p e below s args y 3 8 (PreOf R mc ms Pc) (PostOf Qc mc ms free) (vx_Post XC mc ms free) := vx_backW (hh := hh) (bytes := bytes) (maxL := maxL) (ret := ret) hM hp.1 hrc hrs hfr hlo hws hcw (fun a' U hW => word_at hW (Or.inl (by first | rfl | simp [Cond.onTables, Cond.keeps, Cond.steady])) hini)
  obtain ⟨hx, hb, hml, ho, -⟩ := S
  obtain ⟨-, ⟨cellB, hcB, hoB, hclB⟩, hPc⟩ := hp
  intro T hT X
  rcases vx_callVX X hx (C := C) (hh := hh) (bytes := bytes) (maxL := maxL) (ret := ret) ho hl hin hse hcode hy hK (by rw [hT]; exact hcB) hoB hclB hg (hsize.trans hml.symm) (argsL := As) (rest := rest) (fun sig h => hn.trans (hlen sig h)) hstack hW (by rw [hb]; exact hdg)
    (fun vm₁ hW₁ => ⟨hf.1, hf.2, hPc (T.setVm vm₁) hT hW₁⟩) with ⟨v, vm₁, ⟨U', l2, c2, s2⟩, hW₁, X', ⟨g', mk, t, L, e1, e2, hq, h1, hL, h2, h3⟩, st⟩ | ⟨q, vm₁, ⟨U', l2, c2, s2⟩, hW₁, X', ⟨g', mk, t, L, E, ce, e1, e2, hq, hce, hcv, hcl, h1, hL, h2, h3⟩, st⟩
  · dsimp only [Pt.U, Pt.locs, Pt.cells, Pt.slots] at X' e1 e2 h1 h2 h3 st
    subst h1; subst h2; subst h3
    exact Or.inl ⟨v, (T.setVm vm₁).calling g' mk (Value.ref b :: As).toArray, t, U', L, hT, X', hL, e1, e2, hq, st⟩
  · dsimp only [Pt.U, Pt.locs, Pt.cells, Pt.slots] at X' e1 e2 h1 h2 h3 st hcl
    subst h1; subst h2; subst h3
    exact Or.inr ⟨q, (T.setVm vm₁).calling g' mk (Value.ref b :: As).toArray, t, U', L, E, ce, hT, X', hL, e1, e2, hq, hce, hcv, vx_cls hW₁ hcl, st⟩
theorem vx_runSX {hh : List (Nat × Nat × Nat × Nat)} (S : CallFix p m c cc nL s args Ts own) (hM : vx_Met l y ws rm Pc Qc XC mc ms free) (cw : vx_CSW R s args own index y bytes maxL ret hh ws rm mc ms n) (hp : PreS s H Pc As)
    (hg : g.method = m) (hn : As.length = n) (hsize : g.locals.size = nL) (hstack : g.stack = As.reverse ++ rest) (hW : 2 * g.monitorRoom + (rest.map fun v => v.category).sum ≤ 8) (hdg : decode cc g.pc = .ok (.invokestatic index, 3)) (hf : cells + mc ≤ R.cells ∧ slots + ms ≤ R.slots) :
    vx_Run p l e R s m args below meth c H locs cells slots mc ms g rest (Qc As.toArray) XC free := by
  obtain ⟨⟨hrc, hrs, hfr, hlo, hws, hcw⟩, hcode, hini, hy, hlen, hl, hstt⟩ := cw
  have hK : vx_Back l R p e below s args y 3 8 (PreOf R mc ms Pc) (PostOf Qc mc ms free) (vx_Post XC mc ms free) := vx_backW (hh := hh) (bytes := bytes) (maxL := maxL) (ret := ret) hM hp.1 hrc hrs hfr hlo hws hcw (fun a' U hW => word_at hW (Or.inl (by first | rfl | simp [Cond.onTables, Cond.keeps, Cond.steady])) hini)
  obtain ⟨hx, hb, hml, ho, -⟩ := S
  intro T hT X
  rcases vx_callSX X hx (hh := hh) (bytes := bytes) (maxL := maxL) (ret := ret) ho hl hstt hini hcode hy hK hg (hsize.trans hml.symm) (argsL := As) (rest := rest) (fun sig h => hn.trans (hlen sig h)) hstack hW (by rw [hb]; exact hdg)
    (fun vm₁ hW₁ => ⟨hf.1, hf.2, hp.2 (T.setVm vm₁) hT hW₁⟩) with ⟨v, vm₁, ⟨U', l2, c2, s2⟩, hW₁, X', ⟨g', mk, t, L, e1, e2, hq, h1, hL, h2, h3⟩, st⟩ | ⟨q, vm₁, ⟨U', l2, c2, s2⟩, hW₁, X', ⟨g', mk, t, L, E, ce, e1, e2, hq, hce, hcv, hcl, h1, hL, h2, h3⟩, st⟩
  · dsimp only [Pt.U, Pt.locs, Pt.cells, Pt.slots] at X' e1 e2 h1 h2 h3 st
    subst h1; subst h2; subst h3
    exact Or.inl ⟨v, (T.setVm vm₁).calling g' mk As.toArray, t, U', L, hT, X', hL, e1, e2, hq, st⟩
  · dsimp only [Pt.U, Pt.locs, Pt.cells, Pt.slots] at X' e1 e2 h1 h2 h3 st hcl
    subst h1; subst h2; subst h3
    exact Or.inr ⟨q, (T.setVm vm₁).calling g' mk As.toArray, t, U', L, E, ce, hT, X', hL, e1, e2, hq, hce, hcv, vx_cls hW₁ hcl, st⟩
end
end VXH
theorem vx_ofWH {l : Launch} {y : MethodName} {ws ws' : List Cond} {rm : Room} {Pc : Array Value → State → Prop} {Qc : Array Value → State → Outcome → State → Prop} {XC : String → State → State → Prop} {mc ms : Nat} {free : Addr → Prop} {cc : ByteArray} {maxL : Nat} {ret : Option FieldType} {hh : List (Nat × Nat × Nat × Nat)}
    (hy : plainName y.cls = true) (hw : ws = Cond.codeWith y cc maxL ret hh :: ws')
    (body : ∀ p e s m args below meth c s₁, BodyLoose p l y (headSpec ws rm) cc maxL ret e s m args below meth c s₁ → c.maxLocals = maxL → Pc args s →
      W p l e (headSpec ws rm).room s m args below meth c s.heap [] 0 0 (vx_MQ below Qc XC args s mc ms free) (entryFrame m args maxL)) : vx_Met l y ws rm Pc Qc XC mc ms free := by
  refine MetFree.of_bodyS (code := cc) (maxLocals := maxL) (ret := ret) hy ?_ ?_
  · intro args s m h hn
    obtain ⟨m9, meth, c, hn9, h1, h2, h3, h4, -, h5, h6, -⟩ := Cond.codeWith_spec (atoms_spec (ws := ws) h _ (by rw [hw]; exact List.mem_cons_self))
    cases hn.symm.trans hn9
    exact ⟨meth, c, h1, h2, h3, h4, h5, h6⟩
  · intro p e s m args below meth c s₁ B hml hP _
    have hh0 : s₁.heap = s.heap := by rw [B.state]; rfl
    obtain ⟨t, a1, o, b1, b2, b3⟩ := body p e s m args below meth c s₁ B hml hP s₁ hh0 (Stand.of_body B)
    exact ⟨t, o, a1, b1, b2, b3⟩
/-! ===== END ===== -/
end
section
/-! names, fields, methods: printed by the kit's program (claim/NAMES.whole.lean.txt), the decode rows left out -/
def RX0 : String := "KiteQuarrel$Crossing"
def TX0 : u_T := fun k => match k with
  | 0 => ("KiteQuarrel$Crossing", "x", "I", false)
  | 1 => ("KiteQuarrel$Crossing", "y", "I", false)
  | 2 => ("KiteQuarrel$Crossing", "firstHeight", "I", false)
  | _ => ("KiteQuarrel$Crossing", "secondHeight", "I", false)
def tyX0 : Nat → FieldType := fun k => match k with
  | 0 => .int
  | 1 => .int
  | 2 => .int
  | _ => .int
abbrev wsX00 : List Cond := u_ws RX0 TX0 4
theorem nmX0 : ∀ a, a < 4 → ∀ b, b < 4 → a ≠ b → (TX0 a).2.1 ≠ (TX0 b).2.1 := by decide +kernel
theorem tyX0_ok : ∀ k, k < 4 → parseFieldDescriptor (TX0 k).2.2.1 = some (tyX0 k) := by decide +kernel
abbrev cX0_init : ByteArray := prog_2_method_1_code
def yX0_init : MethodName := ⟨RX0, "<init>", "()V"⟩
abbrev cX0_isBetween : ByteArray := prog_2_method_2_code
def yX0_isBetween : MethodName := ⟨RX0, "isBetween", "(LKiteQuarrel$Kite;LKiteQuarrel$Kite;)Z"⟩
abbrev cX0_heightOfLine : ByteArray := prog_2_method_3_code
def yX0_heightOfLine : MethodName := ⟨RX0, "heightOfLine", "(II)I"⟩
abbrev cX0_heightsApart : ByteArray := prog_2_method_4_code
def yX0_heightsApart : MethodName := ⟨RX0, "heightsApart", "()I"⟩
def RX1 : String := "KiteQuarrel$Event"
def TX1 : u_T := fun k => match k with
  | 0 => ("KiteQuarrel$Event", "time", "I", false)
  | 1 => ("KiteQuarrel$Event", "kind", "I", false)
  | 2 => ("KiteQuarrel$Event", "kite", "I", false)
  | 3 => ("KiteQuarrel$Event", "other", "I", false)
  | 4 => ("KiteQuarrel$Event", "x", "I", false)
  | _ => ("KiteQuarrel$Event", "y", "I", false)
def tyX1 : Nat → FieldType := fun k => match k with
  | 0 => .int
  | 1 => .int
  | 2 => .int
  | 3 => .int
  | 4 => .int
  | _ => .int
abbrev wsX10 : List Cond := u_ws RX1 TX1 6
theorem nmX1 : ∀ a, a < 6 → ∀ b, b < 6 → a ≠ b → (TX1 a).2.1 ≠ (TX1 b).2.1 := by decide +kernel
theorem tyX1_ok : ∀ k, k < 6 → parseFieldDescriptor (TX1 k).2.2.1 = some (tyX1 k) := by decide +kernel
abbrev cX1_init : ByteArray := prog_3_method_1_code
def yX1_init : MethodName := ⟨RX1, "<init>", "()V"⟩
abbrev cX1_copyFrom : ByteArray := prog_3_method_2_code
def yX1_copyFrom : MethodName := ⟨RX1, "copyFrom", "(LKiteQuarrel$Event;)V"⟩
def RX2 : String := "KiteQuarrel$Field"
def TX2 : u_T := fun k => match k with
  | 0 => ("KiteQuarrel$Field", "kites", "[LKiteQuarrel$Kite;", true)
  | 1 => ("KiteQuarrel$Field", "winds", "[LKiteQuarrel$Wind;", true)
  | 2 => ("KiteQuarrel$Field", "events", "[LKiteQuarrel$Event;", true)
  | 3 => ("KiteQuarrel$Field", "settings", "[I", true)
  | 4 => ("KiteQuarrel$Field", "crossing", "LKiteQuarrel$Crossing;", true)
  | 5 => ("KiteQuarrel$Field", "kiteCount", "I", false)
  | 6 => ("KiteQuarrel$Field", "windCount", "I", false)
  | 7 => ("KiteQuarrel$Field", "eventCount", "I", false)
  | 8 => ("KiteQuarrel$Field", "firstEvent", "I", false)
  | 9 => ("KiteQuarrel$Field", "time", "I", false)
  | _ => ("KiteQuarrel$Field", "cuts", "I", false)
def tyX2 : Nat → FieldType := fun k => match k with
  | 0 => .array (.object "KiteQuarrel$Kite")
  | 1 => .array (.object "KiteQuarrel$Wind")
  | 2 => .array (.object "KiteQuarrel$Event")
  | 3 => .array .int
  | 4 => .object "KiteQuarrel$Crossing"
  | 5 => .int
  | 6 => .int
  | 7 => .int
  | 8 => .int
  | 9 => .int
  | _ => .int
abbrev wsX20 : List Cond := u_ws RX2 TX2 11
theorem nmX2 : ∀ a, a < 11 → ∀ b, b < 11 → a ≠ b → (TX2 a).2.1 ≠ (TX2 b).2.1 := by decide +kernel
theorem tyX2_ok : ∀ k, k < 11 → parseFieldDescriptor (TX2 k).2.2.1 = some (tyX2 k) := by decide +kernel
abbrev cX2_init : ByteArray := prog_4_method_1_code
def yX2_init : MethodName := ⟨RX2, "<init>", "()V"⟩
abbrev cX2_clear : ByteArray := prog_4_method_2_code
def yX2_clear : MethodName := ⟨RX2, "clear", "()V"⟩
abbrev cX2_addDefaultWind : ByteArray := prog_4_method_3_code
def yX2_addDefaultWind : MethodName := ⟨RX2, "addDefaultWind", "()V"⟩
abbrev cX2_copyFrom : ByteArray := prog_4_method_4_code
def yX2_copyFrom : MethodName := ⟨RX2, "copyFrom", "(LKiteQuarrel$Field;)V"⟩
abbrev cX2_kitesInState : ByteArray := prog_4_method_5_code
def yX2_kitesInState : MethodName := ⟨RX2, "kitesInState", "(I)I"⟩
abbrev cX2_windNumberAt : ByteArray := prog_4_method_6_code
def yX2_windNumberAt : MethodName := ⟨RX2, "windNumberAt", "(I)I"⟩
abbrev cX2_linesCross : ByteArray := prog_4_method_7_code
def yX2_linesCross : MethodName := ⟨RX2, "linesCross", "(II)Z"⟩
abbrev cX2_linesRub : ByteArray := prog_4_method_8_code
def yX2_linesRub : MethodName := ⟨RX2, "linesRub", "(II)Z"⟩
abbrev cX2_pairs : ByteArray := prog_4_method_9_code
def yX2_pairs : MethodName := ⟨RX2, "pairs", "(Z)I"⟩
abbrev cX2_pickerAt : ByteArray := prog_4_method_10_code
def yX2_pickerAt : MethodName := ⟨RX2, "pickerAt", "(III)I"⟩
abbrev cX2_eventAt : ByteArray := prog_4_method_11_code
def yX2_eventAt : MethodName := ⟨RX2, "eventAt", "(I)LKiteQuarrel$Event;"⟩
abbrev cX2_tellOfKite : ByteArray := prog_4_method_12_code
def yX2_tellOfKite : MethodName := ⟨RX2, "tellOfKite", "(III)V"⟩
abbrev cX2_tell : ByteArray := prog_4_method_13_code
def yX2_tell : MethodName := ⟨RX2, "tell", "(IIIII)V"⟩
abbrev cX2_passTicks : ByteArray := prog_4_method_14_code
def yX2_passTicks : MethodName := ⟨RX2, "passTicks", "(I)V"⟩
abbrev cX2_tick : ByteArray := prog_4_method_15_code
def yX2_tick : MethodName := ⟨RX2, "tick", "()V"⟩
abbrev cX2_fly : ByteArray := prog_4_method_16_code
def yX2_fly : MethodName := ⟨RX2, "fly", "(I)V"⟩
abbrev cX2_rubAllLines : ByteArray := prog_4_method_17_code
def yX2_rubAllLines : MethodName := ⟨RX2, "rubAllLines", "()V"⟩
abbrev cX2_wearLine : ByteArray := prog_4_method_18_code
def yX2_wearLine : MethodName := ⟨RX2, "wearLine", "(II)V"⟩
abbrev cX2_cutWornLines : ByteArray := prog_4_method_19_code
def yX2_cutWornLines : MethodName := ⟨RX2, "cutWornLines", "()V"⟩
abbrev cX2_drift : ByteArray := prog_4_method_20_code
def yX2_drift : MethodName := ⟨RX2, "drift", "(I)V"⟩
abbrev cX2_pickUpFallenKites : ByteArray := prog_4_method_21_code
def yX2_pickUpFallenKites : MethodName := ⟨RX2, "pickUpFallenKites", "()V"⟩
def RX3 : String := "KiteQuarrel$History"
def TX3 : u_T := fun k => match k with
  | 0 => ("KiteQuarrel$History", "kept", "[LKiteQuarrel$Field;", true)
  | 1 => ("KiteQuarrel$History", "first", "I", false)
  | _ => ("KiteQuarrel$History", "size", "I", false)
def tyX3 : Nat → FieldType := fun k => match k with
  | 0 => .array (.object "KiteQuarrel$Field")
  | 1 => .int
  | _ => .int
abbrev wsX30 : List Cond := u_ws RX3 TX3 3
theorem nmX3 : ∀ a, a < 3 → ∀ b, b < 3 → a ≠ b → (TX3 a).2.1 ≠ (TX3 b).2.1 := by decide +kernel
theorem tyX3_ok : ∀ k, k < 3 → parseFieldDescriptor (TX3 k).2.2.1 = some (tyX3 k) := by decide +kernel
abbrev cX3_init : ByteArray := prog_5_method_1_code
def yX3_init : MethodName := ⟨RX3, "<init>", "()V"⟩
abbrev cX3_clear : ByteArray := prog_5_method_2_code
def yX3_clear : MethodName := ⟨RX3, "clear", "()V"⟩
abbrev cX3_remember : ByteArray := prog_5_method_3_code
def yX3_remember : MethodName := ⟨RX3, "remember", "(LKiteQuarrel$Field;)V"⟩
abbrev cX3_takeBack : ByteArray := prog_5_method_4_code
def yX3_takeBack : MethodName := ⟨RX3, "takeBack", "(LKiteQuarrel$Field;)V"⟩
def RX4 : String := "KiteQuarrel$Input"
def TX4 : u_T := fun k => match k with
  | 0 => ("KiteQuarrel$Input", "bytes", "[B", true)
  | _ => ("KiteQuarrel$Input", "length", "I", false)
def tyX4 : Nat → FieldType := fun k => match k with
  | 0 => .array .byte
  | _ => .int
abbrev wsX40 : List Cond := u_ws RX4 TX4 2
theorem nmX4 : ∀ a, a < 2 → ∀ b, b < 2 → a ≠ b → (TX4 a).2.1 ≠ (TX4 b).2.1 := by decide +kernel
theorem tyX4_ok : ∀ k, k < 2 → parseFieldDescriptor (TX4 k).2.2.1 = some (tyX4 k) := by decide +kernel
abbrev cX4_init : ByteArray := prog_6_method_1_code
def yX4_init : MethodName := ⟨RX4, "<init>", "()V"⟩
abbrev cX4_addFour : ByteArray := prog_6_method_2_code
def yX4_addFour : MethodName := ⟨RX4, "addFour", "(I)V"⟩
def RX5 : String := "KiteQuarrel$Kite"
def TX5 : u_T := fun k => match k with
  | 0 => ("KiteQuarrel$Kite", "state", "I", false)
  | 1 => ("KiteQuarrel$Kite", "x", "I", false)
  | 2 => ("KiteQuarrel$Kite", "y", "I", false)
  | 3 => ("KiteQuarrel$Kite", "height", "I", false)
  | 4 => ("KiteQuarrel$Kite", "flyerX", "I", false)
  | 5 => ("KiteQuarrel$Kite", "flyerY", "I", false)
  | 6 => ("KiteQuarrel$Kite", "out", "I", false)
  | 7 => ("KiteQuarrel$Kite", "reel", "I", false)
  | 8 => ("KiteQuarrel$Kite", "sharp", "I", false)
  | 9 => ("KiteQuarrel$Kite", "tough", "I", false)
  | 10 => ("KiteQuarrel$Kite", "wear", "I", false)
  | 11 => ("KiteQuarrel$Kite", "points", "I", false)
  | 12 => ("KiteQuarrel$Kite", "pickedBy", "I", false)
  | 13 => ("KiteQuarrel$Kite", "cutBy", "I", false)
  | 14 => ("KiteQuarrel$Kite", "mostWear", "I", false)
  | _ => ("KiteQuarrel$Kite", "mostWearBy", "I", false)
def tyX5 : Nat → FieldType := fun k => match k with
  | 0 => .int
  | 1 => .int
  | 2 => .int
  | 3 => .int
  | 4 => .int
  | 5 => .int
  | 6 => .int
  | 7 => .int
  | 8 => .int
  | 9 => .int
  | 10 => .int
  | 11 => .int
  | 12 => .int
  | 13 => .int
  | 14 => .int
  | _ => .int
abbrev wsX50 : List Cond := u_ws RX5 TX5 16
theorem nmX5 : ∀ a, a < 16 → ∀ b, b < 16 → a ≠ b → (TX5 a).2.1 ≠ (TX5 b).2.1 := by decide +kernel
theorem tyX5_ok : ∀ k, k < 16 → parseFieldDescriptor (TX5 k).2.2.1 = some (tyX5 k) := by decide +kernel
abbrev cX5_init : ByteArray := prog_7_method_1_code
def yX5_init : MethodName := ⟨RX5, "<init>", "()V"⟩
abbrev cX5_copyFrom : ByteArray := prog_7_method_2_code
def yX5_copyFrom : MethodName := ⟨RX5, "copyFrom", "(LKiteQuarrel$Kite;)V"⟩
abbrev cX5_startAt : ByteArray := prog_7_method_3_code
def yX5_startAt : MethodName := ⟨RX5, "startAt", "(II)V"⟩
abbrev cX5_goDownAtFlyer : ByteArray := prog_7_method_5_code
def yX5_goDownAtFlyer : MethodName := ⟨RX5, "goDownAtFlyer", "()V"⟩
abbrev cX5_number : ByteArray := prog_7_method_6_code
def yX5_number : MethodName := ⟨RX5, "number", "(I)I"⟩
abbrev cX5_distanceTo : ByteArray := prog_7_method_8_code
def yX5_distanceTo : MethodName := ⟨RX5, "distanceTo", "(III)I"⟩
abbrev cX5_spanNow : ByteArray := prog_7_method_9_code
def yX5_spanNow : MethodName := ⟨RX5, "spanNow", "()I"⟩
abbrev cX5_slackNow : ByteArray := prog_7_method_10_code
def yX5_slackNow : MethodName := ⟨RX5, "slackNow", "()I"⟩
abbrev cX5_wearBrought : ByteArray := prog_7_method_11_code
def yX5_wearBrought : MethodName := ⟨RX5, "wearBrought", "()I"⟩
abbrev cX5_blow : ByteArray := prog_7_method_12_code
def yX5_blow : MethodName := ⟨RX5, "blow", "(LKiteQuarrel$Wind;)V"⟩
abbrev cX5_pullIn : ByteArray := prog_7_method_13_code
def yX5_pullIn : MethodName := ⟨RX5, "pullIn", "()V"⟩
def RX6 : String := "KiteQuarrel$Names"
def TX6 : u_T := fun k => match k with
  | 0 => ("KiteQuarrel$Names", "letters", "[[B", true)
  | 1 => ("KiteQuarrel$Names", "lengths", "[I", true)
  | _ => ("KiteQuarrel$Names", "size", "I", false)
def tyX6 : Nat → FieldType := fun k => match k with
  | 0 => .array (.array .byte)
  | 1 => .array .int
  | _ => .int
abbrev wsX60 : List Cond := u_ws RX6 TX6 3
theorem nmX6 : ∀ a, a < 3 → ∀ b, b < 3 → a ≠ b → (TX6 a).2.1 ≠ (TX6 b).2.1 := by decide +kernel
theorem tyX6_ok : ∀ k, k < 3 → parseFieldDescriptor (TX6 k).2.2.1 = some (tyX6 k) := by decide +kernel
abbrev cX6_init : ByteArray := prog_8_method_1_code
def yX6_init : MethodName := ⟨RX6, "<init>", "()V"⟩
abbrev cX6_clear : ByteArray := prog_8_method_2_code
def yX6_clear : MethodName := ⟨RX6, "clear", "()V"⟩
abbrev cX6_copyFrom : ByteArray := prog_8_method_3_code
def yX6_copyFrom : MethodName := ⟨RX6, "copyFrom", "(LKiteQuarrel$Names;)V"⟩
abbrev cX6_addWord : ByteArray := prog_8_method_4_code
def yX6_addWord : MethodName := ⟨RX6, "addWord", "([BII)V"⟩
abbrev cX6_numberOf : ByteArray := prog_8_method_5_code
def yX6_numberOf : MethodName := ⟨RX6, "numberOf", "([BII)I"⟩
abbrev cX6_isSame : ByteArray := prog_8_method_6_code
def yX6_isSame : MethodName := ⟨RX6, "isSame", "(I[BI)Z"⟩
def RX7 : String := "KiteQuarrel$Output"
def TX7 : u_T := fun k => match k with
  | 0 => ("KiteQuarrel$Output", "bytes", "[B", true)
  | _ => ("KiteQuarrel$Output", "length", "I", false)
def tyX7 : Nat → FieldType := fun k => match k with
  | 0 => .array .byte
  | _ => .int
abbrev wsX70 : List Cond := u_ws RX7 TX7 2
theorem nmX7 : ∀ a, a < 2 → ∀ b, b < 2 → a ≠ b → (TX7 a).2.1 ≠ (TX7 b).2.1 := by decide +kernel
theorem tyX7_ok : ∀ k, k < 2 → parseFieldDescriptor (TX7 k).2.2.1 = some (tyX7 k) := by decide +kernel
abbrev cX7_init : ByteArray := prog_9_method_1_code
def yX7_init : MethodName := ⟨RX7, "<init>", "()V"⟩
def RX8 : String := "KiteQuarrel$Setup"
def TX8 : u_T := fun k => match k with
  | 0 => ("KiteQuarrel$Setup", "field", "LKiteQuarrel$Field;", true)
  | 1 => ("KiteQuarrel$Setup", "names", "LKiteQuarrel$Names;", true)
  | 2 => ("KiteQuarrel$Setup", "tokens", "LKiteQuarrel$Tokens;", true)
  | 3 => ("KiteQuarrel$Setup", "settingsTold", "I", false)
  | 4 => ("KiteQuarrel$Setup", "number", "I", false)
  | 5 => ("KiteQuarrel$Setup", "code", "I", false)
  | _ => ("KiteQuarrel$Setup", "offset", "I", false)
def tyX8 : Nat → FieldType := fun k => match k with
  | 0 => .object "KiteQuarrel$Field"
  | 1 => .object "KiteQuarrel$Names"
  | 2 => .object "KiteQuarrel$Tokens"
  | 3 => .int
  | 4 => .int
  | 5 => .int
  | _ => .int
abbrev wsX80 : List Cond := u_ws RX8 TX8 7
theorem nmX8 : ∀ a, a < 7 → ∀ b, b < 7 → a ≠ b → (TX8 a).2.1 ≠ (TX8 b).2.1 := by decide +kernel
theorem tyX8_ok : ∀ k, k < 7 → parseFieldDescriptor (TX8 k).2.2.1 = some (tyX8 k) := by decide +kernel
abbrev cX8_init : ByteArray := prog_10_method_1_code
def yX8_init : MethodName := ⟨RX8, "<init>", "(LKiteQuarrel$Input;)V"⟩
abbrev cX8_readText : ByteArray := prog_10_method_2_code
def yX8_readText : MethodName := ⟨RX8, "readText", "()Z"⟩
abbrev cX8_readStatement : ByteArray := prog_10_method_3_code
def yX8_readStatement : MethodName := ⟨RX8, "readStatement", "(I)Z"⟩
abbrev cX8_readKite : ByteArray := prog_10_method_4_code
def yX8_readKite : MethodName := ⟨RX8, "readKite", "()Z"⟩
abbrev cX8_readName : ByteArray := prog_10_method_5_code
def yX8_readName : MethodName := ⟨RX8, "readName", "()Z"⟩
abbrev cX8_readOption : ByteArray := prog_10_method_6_code
def yX8_readOption : MethodName := ⟨RX8, "readOption", "(IIII)Z"⟩
abbrev cX8_readWind : ByteArray := prog_10_method_7_code
def yX8_readWind : MethodName := ⟨RX8, "readWind", "()Z"⟩
abbrev cX8_readSpeed : ByteArray := prog_10_method_8_code
def yX8_readSpeed : MethodName := ⟨RX8, "readSpeed", "()Z"⟩
abbrev cX8_readSetting : ByteArray := prog_10_method_9_code
def yX8_readSetting : MethodName := ⟨RX8, "readSetting", "(I)Z"⟩
abbrev cX8_readNumber : ByteArray := prog_10_method_10_code
def yX8_readNumber : MethodName := ⟨RX8, "readNumber", "(II)Z"⟩
abbrev cX8_readSemicolon : ByteArray := prog_10_method_11_code
def yX8_readSemicolon : MethodName := ⟨RX8, "readSemicolon", "()Z"⟩
abbrev cX8_fail : ByteArray := prog_10_method_12_code
def yX8_fail : MethodName := ⟨RX8, "fail", "(I)Z"⟩
abbrev cX8_quotedWord : ByteArray := prog_10_method_13_code
def yX8_quotedWord : MethodName := ⟨RX8, "quotedWord", "()I"⟩
abbrev cX8_quoted : ByteArray := prog_10_method_14_code
def yX8_quoted : MethodName := ⟨RX8, "quoted", "(I)Ljava/lang/String;"⟩
def RX9 : String := "KiteQuarrel$Tokens"
def TX9 : u_T := fun k => match k with
  | 0 => ("KiteQuarrel$Tokens", "text", "LKiteQuarrel$Input;", true)
  | 1 => ("KiteQuarrel$Tokens", "kind", "I", false)
  | 2 => ("KiteQuarrel$Tokens", "start", "I", false)
  | _ => ("KiteQuarrel$Tokens", "length", "I", false)
def tyX9 : Nat → FieldType := fun k => match k with
  | 0 => .object "KiteQuarrel$Input"
  | 1 => .int
  | 2 => .int
  | _ => .int
abbrev wsX90 : List Cond := u_ws RX9 TX9 4
theorem nmX9 : ∀ a, a < 4 → ∀ b, b < 4 → a ≠ b → (TX9 a).2.1 ≠ (TX9 b).2.1 := by decide +kernel
theorem tyX9_ok : ∀ k, k < 4 → parseFieldDescriptor (TX9 k).2.2.1 = some (tyX9 k) := by decide +kernel
abbrev cX9_init : ByteArray := prog_11_method_1_code
def yX9_init : MethodName := ⟨RX9, "<init>", "(LKiteQuarrel$Input;)V"⟩
abbrev cX9_readFirst : ByteArray := prog_11_method_2_code
def yX9_readFirst : MethodName := ⟨RX9, "readFirst", "()V"⟩
abbrev cX9_readNext : ByteArray := prog_11_method_3_code
def yX9_readNext : MethodName := ⟨RX9, "readNext", "()V"⟩
abbrev cX9_kindOf : ByteArray := prog_11_method_4_code
def yX9_kindOf : MethodName := ⟨RX9, "kindOf", "(B)I"⟩
abbrev cX9_isNumber : ByteArray := prog_11_method_5_code
def yX9_isNumber : MethodName := ⟨RX9, "isNumber", "()Z"⟩
abbrev cX9_value : ByteArray := prog_11_method_6_code
def yX9_value : MethodName := ⟨RX9, "value", "()I"⟩
abbrev cX9_isWord : ByteArray := prog_11_method_7_code
def yX9_isWord : MethodName := ⟨RX9, "isWord", "(Ljava/lang/String;)Z"⟩
def RX10 : String := "KiteQuarrel$Wind"
def TX10 : u_T := fun k => match k with
  | 0 => ("KiteQuarrel$Wind", "lowest", "I", false)
  | 1 => ("KiteQuarrel$Wind", "x", "I", false)
  | _ => ("KiteQuarrel$Wind", "y", "I", false)
def tyX10 : Nat → FieldType := fun k => match k with
  | 0 => .int
  | 1 => .int
  | _ => .int
abbrev wsX100 : List Cond := u_ws RX10 TX10 3
theorem nmX10 : ∀ a, a < 3 → ∀ b, b < 3 → a ≠ b → (TX10 a).2.1 ≠ (TX10 b).2.1 := by decide +kernel
theorem tyX10_ok : ∀ k, k < 3 → parseFieldDescriptor (TX10 k).2.2.1 = some (tyX10 k) := by decide +kernel
abbrev cX10_init : ByteArray := prog_12_method_1_code
def yX10_init : MethodName := ⟨RX10, "<init>", "()V"⟩
abbrev cX10_copyFrom : ByteArray := prog_12_method_2_code
def yX10_copyFrom : MethodName := ⟨RX10, "copyFrom", "(LKiteQuarrel$Wind;)V"⟩
abbrev cX10_become : ByteArray := prog_12_method_3_code
def yX10_become : MethodName := ⟨RX10, "become", "(III)V"⟩
abbrev cX10_force : ByteArray := prog_12_method_4_code
def yX10_force : MethodName := ⟨RX10, "force", "()I"⟩
def RX11 : String := "KiteQuarrel"
def TX11 : u_T := fun k => match k with
  | 0 => ("KiteQuarrel", "input", "LKiteQuarrel$Input;", true)
  | 1 => ("KiteQuarrel", "output", "LKiteQuarrel$Output;", true)
  | 2 => ("KiteQuarrel", "setup", "LKiteQuarrel$Setup;", true)
  | 3 => ("KiteQuarrel", "names", "LKiteQuarrel$Names;", true)
  | 4 => ("KiteQuarrel", "field", "LKiteQuarrel$Field;", true)
  | 5 => ("KiteQuarrel", "forecast", "LKiteQuarrel$Field;", true)
  | 6 => ("KiteQuarrel", "saved", "LKiteQuarrel$Field;", true)
  | 7 => ("KiteQuarrel", "history", "LKiteQuarrel$History;", true)
  | 8 => ("KiteQuarrel", "isSaved", "Z", false)
  | 9 => ("KiteQuarrel", "latestCode", "I", false)
  | _ => ("KiteQuarrel", "latestOffset", "I", false)
def tyX11 : Nat → FieldType := fun k => match k with
  | 0 => .object "KiteQuarrel$Input"
  | 1 => .object "KiteQuarrel$Output"
  | 2 => .object "KiteQuarrel$Setup"
  | 3 => .object "KiteQuarrel$Names"
  | 4 => .object "KiteQuarrel$Field"
  | 5 => .object "KiteQuarrel$Field"
  | 6 => .object "KiteQuarrel$Field"
  | 7 => .object "KiteQuarrel$History"
  | 8 => .boolean
  | 9 => .int
  | _ => .int
abbrev wsX110 : List Cond := u_ws RX11 TX11 11
theorem nmX11 : ∀ a, a < 11 → ∀ b, b < 11 → a ≠ b → (TX11 a).2.1 ≠ (TX11 b).2.1 := by decide +kernel
theorem tyX11_ok : ∀ k, k < 11 → parseFieldDescriptor (TX11 k).2.2.1 = some (tyX11 k) := by decide +kernel
abbrev cX11_init : ByteArray := prog_1_method_1_code
def yX11_init : MethodName := ⟨RX11, "<init>", "()V"⟩
abbrev cX11_feed : ByteArray := prog_1_method_2_code
def yX11_feed : MethodName := ⟨RX11, "feed", "(IIIII)I"⟩
abbrev cX11_truncate : ByteArray := prog_1_method_3_code
def yX11_truncate : MethodName := ⟨RX11, "truncate", "(I)Z"⟩
abbrev cX11_parse : ByteArray := prog_1_method_4_code
def yX11_parse : MethodName := ⟨RX11, "parse", "()I"⟩
abbrev cX11_count : ByteArray := prog_1_method_7_code
def yX11_count : MethodName := ⟨RX11, "count", "(I)I"⟩
abbrev cX11_setting : ByteArray := prog_1_method_8_code
def yX11_setting : MethodName := ⟨RX11, "setting", "(I)I"⟩
abbrev cX11_kite : ByteArray := prog_1_method_10_code
def yX11_kite : MethodName := ⟨RX11, "kite", "(II)I"⟩
abbrev cX11_span : ByteArray := prog_1_method_13_code
def yX11_span : MethodName := ⟨RX11, "span", "(I)I"⟩
abbrev cX11_slack : ByteArray := prog_1_method_14_code
def yX11_slack : MethodName := ⟨RX11, "slack", "(I)I"⟩
abbrev cX11_crosses : ByteArray := prog_1_method_15_code
def yX11_crosses : MethodName := ⟨RX11, "crosses", "(II)Z"⟩
abbrev cX11_crossing : ByteArray := prog_1_method_16_code
def yX11_crossing : MethodName := ⟨RX11, "crossing", "(III)I"⟩
abbrev cX11_rubs : ByteArray := prog_1_method_17_code
def yX11_rubs : MethodName := ⟨RX11, "rubs", "(I)I"⟩
abbrev cX11_wearNow : ByteArray := prog_1_method_18_code
def yX11_wearNow : MethodName := ⟨RX11, "wearNow", "(I)I"⟩
abbrev cX11_highest : ByteArray := prog_1_method_20_code
def yX11_highest : MethodName := ⟨RX11, "highest", "()I"⟩
abbrev cX11_gap : ByteArray := prog_1_method_24_code
def yX11_gap : MethodName := ⟨RX11, "gap", "(II)I"⟩
abbrev cX11_threat : ByteArray := prog_1_method_27_code
def yX11_threat : MethodName := ⟨RX11, "threat", "(I)I"⟩
abbrev cX11_sum : ByteArray := prog_1_method_28_code
def yX11_sum : MethodName := ⟨RX11, "sum", "(I)I"⟩
abbrev cX11_inBox : ByteArray := prog_1_method_30_code
def yX11_inBox : MethodName := ⟨RX11, "inBox", "(IIII)I"⟩
abbrev cX11_kiteIn : ByteArray := prog_1_method_34_code
def yX11_kiteIn : MethodName := ⟨RX11, "kiteIn", "(III)I"⟩
abbrev cX11_cutsIn : ByteArray := prog_1_method_37_code
def yX11_cutsIn : MethodName := ⟨RX11, "cutsIn", "(I)I"⟩
abbrev cX11_landsIn : ByteArray := prog_1_method_38_code
def yX11_landsIn : MethodName := ⟨RX11, "landsIn", "(II)I"⟩
abbrev cX11_bestReel : ByteArray := prog_1_method_41_code
def yX11_bestReel : MethodName := ⟨RX11, "bestReel", "(II)I"⟩
abbrev cX11_run : ByteArray := prog_1_method_43_code
def yX11_run : MethodName := ⟨RX11, "run", "(I)I"⟩
abbrev cX11_launch : ByteArray := prog_1_method_44_code
def yX11_launch : MethodName := ⟨RX11, "launch", "(I)I"⟩
abbrev cX11_reel : ByteArray := prog_1_method_45_code
def yX11_reel : MethodName := ⟨RX11, "reel", "(II)I"⟩
abbrev cX11_letGo : ByteArray := prog_1_method_46_code
def yX11_letGo : MethodName := ⟨RX11, "letGo", "(I)I"⟩
abbrev cX11_pull : ByteArray := prog_1_method_47_code
def yX11_pull : MethodName := ⟨RX11, "pull", "(II)I"⟩
abbrev cX11_walk : ByteArray := prog_1_method_48_code
def yX11_walk : MethodName := ⟨RX11, "walk", "(III)I"⟩
abbrev cX11_setWind : ByteArray := prog_1_method_50_code
def yX11_setWind : MethodName := ⟨RX11, "setWind", "(III)I"⟩
abbrev cX11_undo : ByteArray := prog_1_method_52_code
def yX11_undo : MethodName := ⟨RX11, "undo", "()I"⟩
abbrev cX11_saveState : ByteArray := prog_1_method_57_code
def yX11_saveState : MethodName := ⟨RX11, "saveState", "()I"⟩
abbrev cX11_restoreState : ByteArray := prog_1_method_58_code
def yX11_restoreState : MethodName := ⟨RX11, "restoreState", "()I"⟩
abbrev cX11_checkKite : ByteArray := prog_1_method_59_code
def yX11_checkKite : MethodName := ⟨RX11, "checkKite", "(I)V"⟩
abbrev cX11_checkWind : ByteArray := prog_1_method_60_code
def yX11_checkWind : MethodName := ⟨RX11, "checkWind", "(I)V"⟩
abbrev cX11_checkRange : ByteArray := prog_1_method_61_code
def yX11_checkRange : MethodName := ⟨RX11, "checkRange", "(III)V"⟩
abbrev cX11_checkState : ByteArray := prog_1_method_62_code
def yX11_checkState : MethodName := ⟨RX11, "checkState", "(Z)V"⟩
abbrev cX11_reelFor : ByteArray := prog_1_method_63_code
def yX11_reelFor : MethodName := ⟨RX11, "reelFor", "(IIII)I"⟩
abbrev cX11_isIn : ByteArray := prog_1_method_66_code
def yX11_isIn : MethodName := ⟨RX11, "isIn", "(III)Z"⟩
abbrev cX11_bounded : ByteArray := prog_1_method_67_code
def yX11_bounded : MethodName := ⟨RX11, "bounded", "(III)I"⟩
def RX12 : String := "KiteQuarrelModel"
def TX12 : u_T := fun k => match k with
  | _ => ("", "", "", false)
def tyX12 : Nat → FieldType := fun k => match k with
  | _ => .int
abbrev wsX120 : List Cond := u_ws RX12 TX12 0
theorem nmX12 : ∀ a, a < 0 → ∀ b, b < 0 → a ≠ b → (TX12 a).2.1 ≠ (TX12 b).2.1 := by decide +kernel
theorem tyX12_ok : ∀ k, k < 0 → parseFieldDescriptor (TX12 k).2.2.1 = some (tyX12 k) := by decide +kernel
def RJ5 : String := "java/lang/AbstractStringBuilder"
def TJ5 : u_T := fun k => match k with
  | _ => ("", "", "", false)
def tyJ5 : Nat → FieldType := fun k => match k with
  | _ => .int
abbrev wsJ50 : List Cond := u_ws RJ5 TJ5 0
theorem nmJ5 : ∀ a, a < 0 → ∀ b, b < 0 → a ≠ b → (TJ5 a).2.1 ≠ (TJ5 b).2.1 := by decide +kernel
theorem tyJ5_ok : ∀ k, k < 0 → parseFieldDescriptor (TJ5 k).2.2.1 = some (tyJ5 k) := by decide +kernel
abbrev cJ5_init_a7421 : ByteArray := prog_15_method_3_code
def yJ5_init_a7421 : MethodName := ⟨RJ5, "<init>", "(Ljava/lang/String;)V"⟩
abbrev cJ5_length_8abf5 : ByteArray := prog_15_method_6_code
def yJ5_length_8abf5 : MethodName := ⟨RJ5, "length", "()I"⟩
abbrev cJ5_ensureCapacityInternal_d00df : ByteArray := prog_15_method_9_code
def yJ5_ensureCapacityInternal_d00df : MethodName := ⟨RJ5, "ensureCapacityInternal", "(I)V"⟩
abbrev cJ5_newCapacity_0f7a4 : ByteArray := prog_15_method_10_code
def yJ5_newCapacity_0f7a4 : MethodName := ⟨RJ5, "newCapacity", "(I)I"⟩
abbrev cJ5_inflate_da8c8 : ByteArray := prog_15_method_11_code
def yJ5_inflate_da8c8 : MethodName := ⟨RJ5, "inflate", "()V"⟩
abbrev cJ5_append_cf1ce : ByteArray := prog_15_method_22_code
def yJ5_append_cf1ce : MethodName := ⟨RJ5, "append", "(Ljava/lang/String;)Ljava/lang/AbstractStringBuilder;"⟩
abbrev cJ5_appendNull_278bc : ByteArray := prog_15_method_26_code
def yJ5_appendNull_278bc : MethodName := ⟨RJ5, "appendNull", "()Ljava/lang/AbstractStringBuilder;"⟩
abbrev cJ5_append_3fe6f : ByteArray := prog_15_method_31_code
def yJ5_append_3fe6f : MethodName := ⟨RJ5, "append", "(C)Ljava/lang/AbstractStringBuilder;"⟩
abbrev cJ5_append_c97b9 : ByteArray := prog_15_method_32_code
def yJ5_append_c97b9 : MethodName := ⟨RJ5, "append", "(I)Ljava/lang/AbstractStringBuilder;"⟩
abbrev cJ5_getValue_6d5f1 : ByteArray := prog_15_method_64_code
def yJ5_getValue_6d5f1 : MethodName := ⟨RJ5, "getValue", "()[B"⟩
abbrev cJ5_isLatin1_aae02 : ByteArray := prog_15_method_68_code
def yJ5_isLatin1_aae02 : MethodName := ⟨RJ5, "isLatin1", "()Z"⟩
abbrev cJ5_inflateIfNeededFor_a7421 : ByteArray := prog_15_method_71_code
def yJ5_inflateIfNeededFor_a7421 : MethodName := ⟨RJ5, "inflateIfNeededFor", "(Ljava/lang/String;)V"⟩
abbrev cJ5_putStringAt_47b60 : ByteArray := prog_15_method_73_code
def yJ5_putStringAt_47b60 : MethodName := ⟨RJ5, "putStringAt", "(ILjava/lang/String;)V"⟩
def RJx8e188 : String := "java/lang/Cloneable"
def TJx8e188 : u_T := fun k => match k with
  | _ => ("", "", "", false)
def tyJx8e188 : Nat → FieldType := fun k => match k with
  | _ => .int
abbrev wsJx8e1880 : List Cond := u_ws RJx8e188 TJx8e188 0
theorem nmJx8e188 : ∀ a, a < 0 → ∀ b, b < 0 → a ≠ b → (TJx8e188 a).2.1 ≠ (TJx8e188 b).2.1 := by decide +kernel
theorem tyJx8e188_ok : ∀ k, k < 0 → parseFieldDescriptor (TJx8e188 k).2.2.1 = some (tyJx8e188 k) := by decide +kernel
def RJ6 : String := "java/lang/Integer"
def TJ6 : u_T := fun k => match k with
  | _ => ("", "", "", false)
def tyJ6 : Nat → FieldType := fun k => match k with
  | _ => .int
abbrev wsJ60 : List Cond := u_ws RJ6 TJ6 0
theorem nmJ6 : ∀ a, a < 0 → ∀ b, b < 0 → a ≠ b → (TJ6 a).2.1 ≠ (TJ6 b).2.1 := by decide +kernel
theorem tyJ6_ok : ∀ k, k < 0 → parseFieldDescriptor (TJ6 k).2.2.1 = some (tyJ6 k) := by decide +kernel
abbrev cJ6_getChars_ba4f3 : ByteArray := prog_21_method_12_code
def yJ6_getChars_ba4f3 : MethodName := ⟨RJ6, "getChars", "(II[B)I"⟩
abbrev cJ6_stringSize_0f7a4 : ByteArray := prog_21_method_13_code
def yJ6_stringSize_0f7a4 : MethodName := ⟨RJ6, "stringSize", "(I)I"⟩
def RJ9 : String := "java/lang/Math"
def TJ9 : u_T := fun k => match k with
  | _ => ("", "", "", false)
def tyJ9 : Nat → FieldType := fun k => match k with
  | _ => .int
abbrev wsJ90 : List Cond := u_ws RJ9 TJ9 0
theorem nmJ9 : ∀ a, a < 0 → ∀ b, b < 0 → a ≠ b → (TJ9 a).2.1 ≠ (TJ9 b).2.1 := by decide +kernel
theorem tyJ9_ok : ∀ k, k < 0 → parseFieldDescriptor (TJ9 k).2.2.1 = some (tyJ9 k) := by decide +kernel
abbrev cJ9_floorDiv_7cf53 : ByteArray := prog_22_method_47_code
def yJ9_floorDiv_7cf53 : MethodName := ⟨RJ9, "floorDiv", "(II)I"⟩
abbrev cJ9_abs_0f7a4 : ByteArray := prog_22_method_59_code
def yJ9_abs_0f7a4 : MethodName := ⟨RJ9, "abs", "(I)I"⟩
abbrev cJ9_max_7cf53 : ByteArray := prog_22_method_65_code
def yJ9_max_7cf53 : MethodName := ⟨RJ9, "max", "(II)I"⟩
abbrev cJ9_min_7cf53 : ByteArray := prog_22_method_69_code
def yJ9_min_7cf53 : MethodName := ⟨RJ9, "min", "(II)I"⟩
def RJ0 : String := "java/lang/String"
def TJ0 : u_T := fun k => match k with
  | 0 => ("java/lang/String", "value", "[B", true)
  | 1 => ("java/lang/String", "coder", "B", true)
  | 2 => ("java/lang/String", "hash", "I", false)
  | _ => ("java/lang/String", "hashIsZero", "Z", false)
def tyJ0 : Nat → FieldType := fun k => match k with
  | 0 => .array .byte
  | 1 => .byte
  | 2 => .int
  | _ => .boolean
abbrev wsJ00 : List Cond := u_ws RJ0 TJ0 4
theorem nmJ0 : ∀ a, a < 4 → ∀ b, b < 4 → a ≠ b → (TJ0 a).2.1 ≠ (TJ0 b).2.1 := by decide +kernel
theorem tyJ0_ok : ∀ k, k < 4 → parseFieldDescriptor (TJ0 k).2.2.1 = some (tyJ0 k) := by decide +kernel
abbrev cJ0_init_81219 : ByteArray := prog_24_method_53_code
def yJ0_init_81219 : MethodName := ⟨RJ0, "<init>", "(Ljava/lang/StringBuilder;)V"⟩
abbrev cJ0_length_8abf5 : ByteArray := prog_24_method_54_code
def yJ0_length_8abf5 : MethodName := ⟨RJ0, "length", "()I"⟩
abbrev cJ0_charAt_5068e : ByteArray := prog_24_method_56_code
def yJ0_charAt_5068e : MethodName := ⟨RJ0, "charAt", "(I)C"⟩
abbrev cJ0_getBytes_840e7 : ByteArray := prog_24_method_147_code
def yJ0_getBytes_840e7 : MethodName := ⟨RJ0, "getBytes", "([BIB)V"⟩
abbrev cJ0_init_db425 : ByteArray := prog_24_method_150_code
def yJ0_init_db425 : MethodName := ⟨RJ0, "<init>", "(Ljava/lang/AbstractStringBuilder;Ljava/lang/Void;)V"⟩
abbrev cJ0_coder_7d493 : ByteArray := prog_24_method_152_code
def yJ0_coder_7d493 : MethodName := ⟨RJ0, "coder", "()B"⟩
abbrev cJ0_isLatin1_aae02 : ByteArray := prog_24_method_154_code
def yJ0_isLatin1_aae02 : MethodName := ⟨RJ0, "isLatin1", "()Z"⟩
abbrev cJ0_checkIndex_df160 : ByteArray := prog_24_method_155_code
def yJ0_checkIndex_df160 : MethodName := ⟨RJ0, "checkIndex", "(II)V"⟩
abbrev cJ0_checkBoundsOffCount_cabcc : ByteArray := prog_24_method_157_code
def yJ0_checkBoundsOffCount_cabcc : MethodName := ⟨RJ0, "checkBoundsOffCount", "(III)I"⟩
abbrev cJ0_checkBoundsBeginEnd_23922 : ByteArray := prog_24_method_158_code
def yJ0_checkBoundsBeginEnd_23922 : MethodName := ⟨RJ0, "checkBoundsBeginEnd", "(III)V"⟩
def RJ4 : String := "java/lang/StringBuilder"
def TJ4 : u_T := fun k => match k with
  | 0 => ("java/lang/AbstractStringBuilder", "value", "[B", false)
  | 1 => ("java/lang/AbstractStringBuilder", "coder", "B", false)
  | 2 => ("java/lang/AbstractStringBuilder", "maybeLatin1", "Z", false)
  | _ => ("java/lang/AbstractStringBuilder", "count", "I", false)
def tyJ4 : Nat → FieldType := fun k => match k with
  | 0 => .array .byte
  | 1 => .byte
  | 2 => .boolean
  | _ => .int
abbrev wsJ40 : List Cond := u_ws RJ4 TJ4 4
theorem nmJ4 : ∀ a, a < 4 → ∀ b, b < 4 → a ≠ b → (TJ4 a).2.1 ≠ (TJ4 b).2.1 := by decide +kernel
theorem tyJ4_ok : ∀ k, k < 4 → parseFieldDescriptor (TJ4 k).2.2.1 = some (tyJ4 k) := by decide +kernel
abbrev cJ4_init_a7421 : ByteArray := prog_25_method_3_code
def yJ4_init_a7421 : MethodName := ⟨RJ4, "<init>", "(Ljava/lang/String;)V"⟩
abbrev cJ4_append_15ec4 : ByteArray := prog_25_method_7_code
def yJ4_append_15ec4 : MethodName := ⟨RJ4, "append", "(Ljava/lang/String;)Ljava/lang/StringBuilder;"⟩
abbrev cJ4_append_cf468 : ByteArray := prog_25_method_14_code
def yJ4_append_cf468 : MethodName := ⟨RJ4, "append", "(C)Ljava/lang/StringBuilder;"⟩
abbrev cJ4_append_bf812 : ByteArray := prog_25_method_15_code
def yJ4_append_bf812 : MethodName := ⟨RJ4, "append", "(I)Ljava/lang/StringBuilder;"⟩
abbrev cJ4_toString_0e30d : ByteArray := prog_25_method_42_code
def yJ4_toString_0e30d : MethodName := ⟨RJ4, "toString", "()Ljava/lang/String;"⟩
abbrev cJ4_append_cf1ce : ByteArray := prog_25_method_80_code
def yJ4_append_cf1ce : MethodName := ⟨RJ4, "append", "(Ljava/lang/String;)Ljava/lang/AbstractStringBuilder;"⟩
abbrev cJ4_length_8abf5 : ByteArray := prog_25_method_93_code
def yJ4_length_8abf5 : MethodName := ⟨RJ4, "length", "()I"⟩
def RJ1 : String := "java/lang/StringLatin1"
def TJ1 : u_T := fun k => match k with
  | _ => ("", "", "", false)
def tyJ1 : Nat → FieldType := fun k => match k with
  | _ => .int
abbrev wsJ10 : List Cond := u_ws RJ1 TJ1 0
theorem nmJ1 : ∀ a, a < 0 → ∀ b, b < 0 → a ≠ b → (TJ1 a).2.1 ≠ (TJ1 b).2.1 := by decide +kernel
theorem tyJ1_ok : ∀ k, k < 0 → parseFieldDescriptor (TJ1 k).2.2.1 = some (tyJ1 k) := by decide +kernel
abbrev cJ1_charAt_3b067 : ByteArray := prog_26_method_2_code
def yJ1_charAt_3b067 : MethodName := ⟨RJ1, "charAt", "([BI)C"⟩
abbrev cJ1_canEncode_fc78d : ByteArray := prog_26_method_3_code
def yJ1_canEncode_fc78d : MethodName := ⟨RJ1, "canEncode", "(C)Z"⟩
abbrev cJ1_inflate_0e8fd : ByteArray := prog_26_method_50_code
def yJ1_inflate_0e8fd : MethodName := ⟨RJ1, "inflate", "([BI[BII)V"⟩
def RJ2 : String := "java/lang/StringUTF16"
def TJ2 : u_T := fun k => match k with
  | _ => ("", "", "", false)
def tyJ2 : Nat → FieldType := fun k => match k with
  | _ => .int
abbrev wsJ20 : List Cond := u_ws RJ2 TJ2 0
theorem nmJ2 : ∀ a, a < 0 → ∀ b, b < 0 → a ≠ b → (TJ2 a).2.1 ≠ (TJ2 b).2.1 := by decide +kernel
theorem tyJ2_ok : ∀ k, k < 0 → parseFieldDescriptor (TJ2 k).2.2.1 = some (tyJ2 k) := by decide +kernel
abbrev cJ2_newBytesFor_77867 : ByteArray := prog_27_method_2_code
def yJ2_newBytesFor_77867 : MethodName := ⟨RJ2, "newBytesFor", "(I)[B"⟩
abbrev cJ2_newBytesLength_0f7a4 : ByteArray := prog_27_method_3_code
def yJ2_newBytesLength_0f7a4 : MethodName := ⟨RJ2, "newBytesLength", "(I)I"⟩
abbrev cJ2_putChar_b72d1 : ByteArray := prog_27_method_4_code
def yJ2_putChar_b72d1 : MethodName := ⟨RJ2, "putChar", "([BII)V"⟩
abbrev cJ2_getChar_3b067 : ByteArray := prog_27_method_5_code
def yJ2_getChar_3b067 : MethodName := ⟨RJ2, "getChar", "([BI)C"⟩
abbrev cJ2_length_9d52b : ByteArray := prog_27_method_6_code
def yJ2_length_9d52b : MethodName := ⟨RJ2, "length", "([B)I"⟩
abbrev cJ2_coderFromArrayLen_85cad : ByteArray := prog_27_method_15_code
def yJ2_coderFromArrayLen_85cad : MethodName := ⟨RJ2, "coderFromArrayLen", "([BI)B"⟩
abbrev cJ2_compress_39247 : ByteArray := prog_27_method_17_code
def yJ2_compress_39247 : MethodName := ⟨RJ2, "compress", "([BII)[B"⟩
abbrev cJ2_compress_5af95 : ByteArray := prog_27_method_22_code
def yJ2_compress_5af95 : MethodName := ⟨RJ2, "compress", "([BI[BII)I"⟩
abbrev cJ2_putCharSB_b72d1 : ByteArray := prog_27_method_71_code
def yJ2_putCharSB_b72d1 : MethodName := ⟨RJ2, "putCharSB", "([BII)V"⟩
abbrev cJ2_getChars_46870 : ByteArray := prog_27_method_77_code
def yJ2_getChars_46870 : MethodName := ⟨RJ2, "getChars", "(III[B)I"⟩
abbrev cJ2_putCharsAt_cd4e5 : ByteArray := prog_27_method_81_code
def yJ2_putCharsAt_cd4e5 : MethodName := ⟨RJ2, "putCharsAt", "([BICCCC)I"⟩
abbrev cJ2_charAt_3b067 : ByteArray := prog_27_method_83_code
def yJ2_charAt_3b067 : MethodName := ⟨RJ2, "charAt", "([BI)C"⟩
abbrev cJ2_inflate_0e8fd : ByteArray := prog_27_method_86_code
def yJ2_inflate_0e8fd : MethodName := ⟨RJ2, "inflate", "([BI[BII)V"⟩
abbrev cJ2_getChars_ba4f3 : ByteArray := prog_27_method_89_code
def yJ2_getChars_ba4f3 : MethodName := ⟨RJ2, "getChars", "(II[B)I"⟩
abbrev cJ2_checkIndex_2214a : ByteArray := prog_27_method_91_code
def yJ2_checkIndex_2214a : MethodName := ⟨RJ2, "checkIndex", "(I[B)V"⟩
abbrev cJ2_checkBoundsBeginEnd_d044e : ByteArray := prog_27_method_93_code
def yJ2_checkBoundsBeginEnd_d044e : MethodName := ⟨RJ2, "checkBoundsBeginEnd", "(II[B)V"⟩
abbrev cJ2_checkBoundsOffCount_d044e : ByteArray := prog_27_method_94_code
def yJ2_checkBoundsOffCount_d044e : MethodName := ⟨RJ2, "checkBoundsOffCount", "(II[B)V"⟩
def RJ10 : String := "java/lang/System"
def TJ10 : u_T := fun k => match k with
  | _ => ("", "", "", false)
def tyJ10 : Nat → FieldType := fun k => match k with
  | _ => .int
abbrev wsJ100 : List Cond := u_ws RJ10 TJ10 0
theorem nmJ10 : ∀ a, a < 0 → ∀ b, b < 0 → a ≠ b → (TJ10 a).2.1 ≠ (TJ10 b).2.1 := by decide +kernel
theorem tyJ10_ok : ∀ k, k < 0 → parseFieldDescriptor (TJ10 k).2.2.1 = some (tyJ10 k) := by decide +kernel
def RJ7 : String := "java/util/Arrays"
def TJ7 : u_T := fun k => match k with
  | _ => ("", "", "", false)
def tyJ7 : Nat → FieldType := fun k => match k with
  | _ => .int
abbrev wsJ70 : List Cond := u_ws RJ7 TJ7 0
theorem nmJ7 : ∀ a, a < 0 → ∀ b, b < 0 → a ≠ b → (TJ7 a).2.1 ≠ (TJ7 b).2.1 := by decide +kernel
theorem tyJ7_ok : ∀ k, k < 0 → parseFieldDescriptor (TJ7 k).2.2.1 = some (tyJ7 k) := by decide +kernel
abbrev cJ7_copyOf_9075b : ByteArray := prog_30_method_121_code
def yJ7_copyOf_9075b : MethodName := ⟨RJ7, "copyOf", "([BI)[B"⟩
abbrev cJ7_checkLength_df160 : ByteArray := prog_30_method_131_code
def yJ7_checkLength_df160 : MethodName := ⟨RJ7, "checkLength", "(II)V"⟩
abbrev cJ7_copyOfRange_39247 : ByteArray := prog_30_method_132_code
def yJ7_copyOfRange_39247 : MethodName := ⟨RJ7, "copyOfRange", "([BII)[B"⟩
abbrev cJ7_copyOfRangeByte_39247 : ByteArray := prog_30_method_133_code
def yJ7_copyOfRangeByte_39247 : MethodName := ⟨RJ7, "copyOfRangeByte", "([BII)[B"⟩
def RJ8 : String := "jdk/internal/util/ArraysSupport"
def TJ8 : u_T := fun k => match k with
  | _ => ("", "", "", false)
def tyJ8 : Nat → FieldType := fun k => match k with
  | _ => .int
abbrev wsJ80 : List Cond := u_ws RJ8 TJ8 0
theorem nmJ8 : ∀ a, a < 0 → ∀ b, b < 0 → a ≠ b → (TJ8 a).2.1 ≠ (TJ8 b).2.1 := by decide +kernel
theorem tyJ8_ok : ∀ k, k < 0 → parseFieldDescriptor (TJ8 k).2.2.1 = some (tyJ8 k) := by decide +kernel
abbrev cJ8_newLength_cabcc : ByteArray := prog_31_method_27_code
def yJ8_newLength_cabcc : MethodName := ⟨RJ8, "newLength", "(III)I"⟩
abbrev cJ8_hugeLength_7cf53 : ByteArray := prog_31_method_28_code
def yJ8_hugeLength_7cf53 : MethodName := ⟨RJ8, "hugeLength", "(II)I"⟩
def RJ3 : String := "jdk/internal/util/Preconditions"
def TJ3 : u_T := fun k => match k with
  | _ => ("", "", "", false)
def tyJ3 : Nat → FieldType := fun k => match k with
  | _ => .int
abbrev wsJ30 : List Cond := u_ws RJ3 TJ3 0
theorem nmJ3 : ∀ a, a < 0 → ∀ b, b < 0 → a ≠ b → (TJ3 a).2.1 ≠ (TJ3 b).2.1 := by decide +kernel
theorem tyJ3_ok : ∀ k, k < 0 → parseFieldDescriptor (TJ3 k).2.2.1 = some (tyJ3 k) := by decide +kernel
abbrev cJ3_checkIndex_8e157 : ByteArray := prog_32_method_11_code
def yJ3_checkIndex_8e157 : MethodName := ⟨RJ3, "checkIndex", "(IILjava/util/function/BiFunction;)I"⟩
abbrev cJ3_checkFromToIndex_8c36e : ByteArray := prog_32_method_12_code
def yJ3_checkFromToIndex_8c36e : MethodName := ⟨RJ3, "checkFromToIndex", "(IIILjava/util/function/BiFunction;)I"⟩
abbrev cJ3_checkFromIndexSize_8c36e : ByteArray := prog_32_method_13_code
def yJ3_checkFromIndexSize_8c36e : MethodName := ⟨RJ3, "checkFromIndexSize", "(IIILjava/util/function/BiFunction;)I"⟩
def RL : String := "KiteQuarrelLaw"
abbrev cL_cell : ByteArray := method_2_code
def yL_cell : MethodName := ⟨RL, "cell", "([II)I"⟩
abbrev cL_draw : ByteArray := method_3_code
def yL_draw : MethodName := ⟨RL, "draw", "([IIII)I"⟩
abbrev cL_fed : ByteArray := method_4_code
def yL_fed : MethodName := ⟨RL, "fed", "(LKiteQuarrel;Ljava/lang/String;)V"⟩
abbrev cL_parsed : ByteArray := method_5_code
def yL_parsed : MethodName := ⟨RL, "parsed", "(LKiteQuarrel;Ljava/lang/String;)I"⟩
abbrev cL_setup : ByteArray := method_6_code
def yL_setup : MethodName := ⟨RL, "setup", "([II)Ljava/lang/String;"⟩
abbrev cL_isSound : ByteArray := method_7_code
def yL_isSound : MethodName := ⟨RL, "isSound", "(LKiteQuarrel;Z)Z"⟩
abbrev cL_acts : ByteArray := method_8_code
def yL_acts : MethodName := ⟨RL, "acts", "(LKiteQuarrel;[III)V"⟩
abbrev cL_law : ByteArray := code
def yL_law : MethodName := ⟨RL, "law", "([I)Z"⟩
abbrev vwCl : List vw_C := [(RX0, TX0, 4), (RX1, TX1, 6), (RX2, TX2, 11), (RX3, TX3, 3), (RX4, TX4, 2), (RX5, TX5, 16), (RX6, TX6, 3), (RX7, TX7, 2), (RX8, TX8, 7), (RX9, TX9, 4), (RX10, TX10, 3), (RX11, TX11, 11), (RJ4, TJ4, 4), (RJ0, TJ0, 4)]
end
section
/-! the tables of the small machine, laid by wip/p60/lay04.py -/
abbrev am_Mr : Type := MethodName × ByteArray × Nat × Option FieldType × Nat × List (Nat × Nat × Nat × Nat) × Nat × Nat × Nat × Nat × Nat
/-- name, code, locals, answer, class code, handlers, parameters, frames, place of the code word, class index, words -/
def am_ms : List am_Mr := [
  (yX0_init, cX0_init, 1, none, 0, [], 0, 1, 118, 0, 60),
  (yX0_isBetween, cX0_isBetween, 12, (some .boolean), 0, [], 2, 3, 490, 0, 109),
  (yX0_heightOfLine, cX0_heightOfLine, 2, (some .int), 0, [], 2, 2, 504, 0, 81),
  (yX0_heightsApart, cX0_heightsApart, 1, (some .int), 0, [], 0, 2, 509, 0, 80),
  (yX1_init, cX1_init, 1, none, 1, [], 0, 1, 247, 1, 60),
  (yX1_copyFrom, cX1_copyFrom, 2, none, 1, [], 1, 1, 638, 1, 60),
  (yX0_init, cX0_init, 1, none, 0, [], 0, 1, 118, 0, 60),
  (yX2_init, cX2_init, 2, none, 2, [], 0, 3, 106, 2, 103),
  (yX2_clear, cX2_clear, 2, none, 2, [], 0, 1, 277, 2, 60),
  (yX2_addDefaultWind, cX2_addDefaultWind, 1, none, 2, [], 0, 2, 283, 2, 83),
  (yX2_copyFrom, cX2_copyFrom, 3, none, 2, [], 1, 3, 625, 2, 104),
  (yX2_kitesInState, cX2_kitesInState, 4, (some .int), 2, [], 1, 1, 468, 2, 60),
  (yX2_windNumberAt, cX2_windNumberAt, 4, (some .int), 2, [], 1, 1, 654, 2, 60),
  (yX2_linesCross, cX2_linesCross, 5, (some .boolean), 2, [], 2, 4, 480, 2, 140),
  (yX2_linesRub, cX2_linesRub, 3, (some .boolean), 2, [], 2, 5, 476, 2, 164),
  (yX2_pairs, cX2_pairs, 5, (some .int), 2, [], 1, 6, 472, 2, 186),
  (yX2_pickerAt, cX2_pickerAt, 11, (some .int), 2, [], 3, 2, 716, 2, 80),
  (yX2_eventAt, cX2_eventAt, 2, (some (.object "KiteQuarrel$Event")), 2, [], 1, 1, 688, 2, 60),
  (yX2_tellOfKite, cX2_tellOfKite, 4, none, 2, [], 3, 3, 680, 2, 107),
  (yX2_tell, cX2_tell, 7, none, 2, [], 5, 2, 684, 2, 81),
  (yX2_passTicks, cX2_passTicks, 3, none, 2, [], 1, 6, 642, 2, 185),
  (yX2_tick, cX2_tick, 3, none, 2, [], 0, 5, 646, 2, 163),
  (yX2_fly, cX2_fly, 5, none, 2, [], 1, 4, 650, 2, 130),
  (yX2_rubAllLines, cX2_rubAllLines, 4, none, 2, [], 0, 4, 692, 2, 140),
  (yX2_wearLine, cX2_wearLine, 5, none, 2, [], 2, 3, 696, 2, 100),
  (yX2_cutWornLines, cX2_cutWornLines, 4, none, 2, [], 0, 4, 704, 2, 140),
  (yX2_drift, cX2_drift, 3, none, 2, [], 1, 4, 708, 2, 130),
  (yX2_pickUpFallenKites, cX2_pickUpFallenKites, 4, none, 2, [], 0, 4, 712, 2, 130),
  (yX3_init, cX3_init, 2, none, 3, [], 0, 4, 411, 3, 124),
  (yX3_clear, cX3_clear, 1, none, 3, [], 0, 1, 791, 3, 60),
  (yX3_remember, cX3_remember, 2, none, 3, [], 1, 4, 761, 3, 126),
  (yX3_takeBack, cX3_takeBack, 2, none, 3, [], 1, 4, 779, 3, 126),
  (yX4_init, cX4_init, 1, none, 4, [], 0, 1, 70, 4, 60),
  (yX4_addFour, cX4_addFour, 3, none, 4, [], 1, 1, 861, 4, 60),
  (yX5_init, cX5_init, 1, none, 5, [], 0, 1, 143, 5, 60),
  (yX5_copyFrom, cX5_copyFrom, 2, none, 5, [], 1, 1, 629, 5, 60),
  (yX5_startAt, cX5_startAt, 3, none, 5, [], 2, 2, 959, 5, 80),
  (yX0_init, cX0_init, 1, none, 0, [], 0, 1, 118, 0, 60),
  (yX5_goDownAtFlyer, cX5_goDownAtFlyer, 1, none, 5, [], 0, 1, 963, 5, 60),
  (yX5_number, cX5_number, 2, (some .int), 5, [], 1, 1, 613, 5, 60),
  (yX0_init, cX0_init, 1, none, 0, [], 0, 1, 118, 0, 60),
  (yX5_distanceTo, cX5_distanceTo, 10, (some .int), 5, [], 3, 1, 501, 5, 60),
  (yX5_spanNow, cX5_spanNow, 1, (some .int), 5, [], 0, 2, 1280, 5, 89),
  (yX5_slackNow, cX5_slackNow, 1, (some .int), 5, [], 0, 2, 497, 5, 89),
  (yX5_wearBrought, cX5_wearBrought, 1, (some .int), 5, [], 0, 2, 700, 5, 80),
  (yX5_blow, cX5_blow, 2, none, 5, [], 1, 3, 663, 5, 103),
  (yX5_pullIn, cX5_pullIn, 4, none, 5, [], 0, 2, 675, 5, 80),
  (yX6_init, cX6_init, 1, none, 6, [], 0, 1, 340, 6, 60),
  (yX6_clear, cX6_clear, 1, none, 6, [], 0, 1, 878, 6, 60),
  (yX6_copyFrom, cX6_copyFrom, 4, none, 6, [], 1, 1, 993, 6, 60),
  (yX6_addWord, cX6_addWord, 5, none, 6, [], 3, 1, 942, 6, 60),
  (yX6_numberOf, cX6_numberOf, 5, (some .int), 6, [], 3, 2, 934, 6, 84),
  (yX6_isSame, cX6_isSame, 5, (some .boolean), 6, [], 3, 1, 938, 6, 60),
  (yX7_init, cX7_init, 1, none, 7, [], 0, 1, 88, 7, 60),
  (yX0_init, cX0_init, 1, none, 0, [], 0, 1, 118, 0, 60),
  (yX0_init, cX0_init, 1, none, 0, [], 0, 1, 118, 0, 60),
  (yX0_init, cX0_init, 1, none, 0, [], 0, 1, 118, 0, 60),
  (yX0_init, cX0_init, 1, none, 0, [], 0, 1, 118, 0, 60),
  (yX0_init, cX0_init, 1, none, 0, [], 0, 1, 118, 0, 60),
  (yX0_init, cX0_init, 1, none, 0, [], 0, 1, 118, 0, 60),
  (yX8_init, cX8_init, 2, none, 8, [], 1, 4, 100, 8, 124),
  (yX8_readText, cX8_readText, 3, (some .boolean), 8, [], 0, 10, 873, 8, 251),
  (yX8_readStatement, cX8_readStatement, 2, (some .boolean), 8, [], 1, 9, 917, 8, 230),
  (yX8_readKite, cX8_readKite, 3, (some .boolean), 8, [], 0, 8, 921, 8, 208),
  (yX8_readName, cX8_readName, 1, (some .boolean), 8, [], 0, 7, 930, 8, 188),
  (yX8_readOption, cX8_readOption, 5, (some .boolean), 8, [], 4, 6, 967, 8, 167),
  (yX8_readWind, cX8_readWind, 5, (some .boolean), 8, [], 0, 5, 971, 8, 144),
  (yX8_readSpeed, cX8_readSpeed, 2, (some .boolean), 8, [], 0, 4, 975, 8, 123),
  (yX8_readSetting, cX8_readSetting, 2, (some .boolean), 8, [], 1, 4, 980, 8, 123),
  (yX8_readNumber, cX8_readNumber, 3, (some .boolean), 8, [], 2, 3, 946, 8, 101),
  (yX8_readSemicolon, cX8_readSemicolon, 1, (some .boolean), 8, [], 0, 3, 988, 8, 101),
  (yX8_fail, cX8_fail, 2, (some .boolean), 8, [], 1, 1, 925, 8, 60),
  (yX8_quotedWord, cX8_quotedWord, 2, (some .int), 8, [], 0, 6, 893, 8, 167),
  (yX8_quoted, cX8_quoted, 1, (some (.object "java/lang/String")), 8, [], 1, 1, 896, 8, 60),
  (yX9_init, cX9_init, 2, none, 9, [], 1, 1, 358, 9, 60),
  (yX9_readFirst, cX9_readFirst, 1, none, 9, [], 0, 3, 882, 9, 101),
  (yX9_readNext, cX9_readNext, 2, none, 9, [], 0, 2, 886, 9, 80),
  (yX9_kindOf, cX9_kindOf, 1, (some .int), 9, [], 1, 1, 889, 9, 60),
  (yX9_isNumber, cX9_isNumber, 1, (some .boolean), 9, [], 0, 1, 950, 9, 60),
  (yX9_value, cX9_value, 3, (some .int), 9, [], 0, 1, 954, 9, 60),
  (yX9_isWord, cX9_isWord, 3, (some .boolean), 9, [], 1, 5, 911, 9, 145),
  (yX10_init, cX10_init, 1, none, 10, [], 0, 1, 226, 10, 60),
  (yX10_copyFrom, cX10_copyFrom, 2, none, 10, [], 1, 2, 633, 10, 83),
  (yX10_become, cX10_become, 4, none, 10, [], 3, 1, 287, 10, 60),
  (yX10_force, cX10_force, 1, (some .int), 10, [], 0, 2, 669, 10, 81),
  (yX0_init, cX0_init, 1, none, 0, [], 0, 1, 118, 0, 60),
  (yX11_init, cX11_init, 1, none, 11, [], 0, 5, 62, 11, 145),
  (yX11_feed, cX11_feed, 6, (some .int), 11, [], 5, 2, 857, 11, 82),
  (yX11_truncate, cX11_truncate, 2, (some .boolean), 11, [], 1, 1, 865, 11, 60),
  (yX11_parse, cX11_parse, 2, (some .int), 11, [], 0, 11, 869, 11, 273),
  (yX0_init, cX0_init, 1, none, 0, [], 0, 1, 118, 0, 60),
  (yX0_init, cX0_init, 1, none, 0, [], 0, 1, 118, 0, 60),
  (yX11_count, cX11_count, 2, (some .int), 11, [], 1, 7, 464, 11, 210),
  (yX11_setting, cX11_setting, 2, (some .int), 11, [], 1, 2, 1263, 11, 82),
  (yX0_init, cX0_init, 1, none, 0, [], 0, 1, 118, 0, 60),
  (yX11_kite, cX11_kite, 3, (some .int), 11, [], 2, 9, 516, 11, 322),
  (yX0_init, cX0_init, 1, none, 0, [], 0, 1, 118, 0, 60),
  (yX0_init, cX0_init, 1, none, 0, [], 0, 1, 118, 0, 60),
  (yX11_span, cX11_span, 3, (some .int), 11, [], 1, 9, 1276, 11, 321),
  (yX11_slack, cX11_slack, 3, (some .int), 11, [], 1, 9, 1288, 11, 321),
  (yX11_crosses, cX11_crosses, 3, (some .boolean), 11, [], 2, 9, 1243, 11, 321),
  (yX11_crossing, cX11_crossing, 5, (some .int), 11, [], 3, 9, 1253, 11, 322),
  (yX11_rubs, cX11_rubs, 4, (some .int), 11, [], 1, 9, 1248, 11, 321),
  (yX11_wearNow, cX11_wearNow, 4, (some .int), 11, [], 1, 9, 1267, 11, 321),
  (yX0_init, cX0_init, 1, none, 0, [], 0, 1, 118, 0, 60),
  (yX11_highest, cX11_highest, 4, (some .int), 11, [], 0, 1, 1293, 11, 60),
  (yX0_init, cX0_init, 1, none, 0, [], 0, 1, 118, 0, 60),
  (yX0_init, cX0_init, 1, none, 0, [], 0, 1, 118, 0, 60),
  (yX0_init, cX0_init, 1, none, 0, [], 0, 1, 118, 0, 60),
  (yX11_gap, cX11_gap, 4, (some .int), 11, [], 2, 9, 1258, 11, 321),
  (yX0_init, cX0_init, 1, none, 0, [], 0, 1, 118, 0, 60),
  (yX0_init, cX0_init, 1, none, 0, [], 0, 1, 118, 0, 60),
  (yX11_threat, cX11_threat, 6, (some .int), 11, [], 1, 9, 1272, 11, 321),
  (yX11_sum, cX11_sum, 4, (some .int), 11, [], 1, 9, 617, 11, 322),
  (yX0_init, cX0_init, 1, none, 0, [], 0, 1, 118, 0, 60),
  (yX11_inBox, cX11_inBox, 7, (some .int), 11, [], 4, 9, 1284, 11, 322),
  (yX0_init, cX0_init, 1, none, 0, [], 0, 1, 118, 0, 60),
  (yX0_init, cX0_init, 1, none, 0, [], 0, 1, 118, 0, 60),
  (yX0_init, cX0_init, 1, none, 0, [], 0, 1, 118, 0, 60),
  (yX11_kiteIn, cX11_kiteIn, 4, (some .int), 11, [], 3, 9, 621, 11, 322),
  (yX0_init, cX0_init, 1, none, 0, [], 0, 1, 118, 0, 60),
  (yX0_init, cX0_init, 1, none, 0, [], 0, 1, 118, 0, 60),
  (yX11_cutsIn, cX11_cutsIn, 2, (some .int), 11, [], 1, 9, 721, 11, 322),
  (yX11_landsIn, cX11_landsIn, 5, (some .int), 11, [], 2, 9, 725, 11, 322),
  (yX0_init, cX0_init, 1, none, 0, [], 0, 1, 118, 0, 60),
  (yX0_init, cX0_init, 1, none, 0, [], 0, 1, 118, 0, 60),
  (yX11_bestReel, cX11_bestReel, 3, (some .int), 11, [], 2, 9, 729, 11, 322),
  (yX0_init, cX0_init, 1, none, 0, [], 0, 1, 118, 0, 60),
  (yX11_run, cX11_run, 3, (some .int), 11, [], 1, 9, 738, 11, 322),
  (yX11_launch, cX11_launch, 3, (some .int), 11, [], 1, 9, 766, 11, 321),
  (yX11_reel, cX11_reel, 4, (some .int), 11, [], 2, 9, 771, 11, 322),
  (yX11_letGo, cX11_letGo, 3, (some .int), 11, [], 1, 9, 1319, 11, 321),
  (yX11_pull, cX11_pull, 5, (some .int), 11, [], 2, 9, 1305, 11, 322),
  (yX11_walk, cX11_walk, 6, (some .int), 11, [], 3, 9, 1300, 11, 322),
  (yX0_init, cX0_init, 1, none, 0, [], 0, 1, 118, 0, 60),
  (yX11_setWind, cX11_setWind, 5, (some .int), 11, [], 3, 9, 1309, 11, 322),
  (yX0_init, cX0_init, 1, none, 0, [], 0, 1, 118, 0, 60),
  (yX11_undo, cX11_undo, 1, (some .int), 11, [], 0, 9, 775, 11, 320),
  (yX0_init, cX0_init, 1, none, 0, [], 0, 1, 118, 0, 60),
  (yX0_init, cX0_init, 1, none, 0, [], 0, 1, 118, 0, 60),
  (yX0_init, cX0_init, 1, none, 0, [], 0, 1, 118, 0, 60),
  (yX0_init, cX0_init, 1, none, 0, [], 0, 1, 118, 0, 60),
  (yX11_saveState, cX11_saveState, 1, (some .int), 11, [], 0, 4, 783, 11, 126),
  (yX11_restoreState, cX11_restoreState, 1, (some .int), 11, [], 0, 9, 787, 11, 320),
  (yX11_checkKite, cX11_checkKite, 2, none, 11, [], 1, 8, 520, 11, 300),
  (yX11_checkWind, cX11_checkWind, 2, none, 11, [], 1, 8, 1313, 11, 300),
  (yX11_checkRange, cX11_checkRange, 3, none, 11, [], 3, 8, 593, 11, 300),
  (yX11_checkState, cX11_checkState, 1, none, 11, [], 1, 8, 741, 11, 300),
  (yX11_reelFor, cX11_reelFor, 9, (some .int), 11, [], 4, 6, 733, 11, 185),
  (yX0_init, cX0_init, 1, none, 0, [], 0, 1, 118, 0, 60),
  (yX0_init, cX0_init, 1, none, 0, [], 0, 1, 118, 0, 60),
  (yX11_isIn, cX11_isIn, 3, (some .boolean), 11, [], 3, 1, 523, 11, 60),
  (yX11_bounded, cX11_bounded, 3, (some .int), 11, [], 3, 2, 657, 11, 81),
  (yX0_init, cX0_init, 1, none, 0, [], 0, 1, 118, 0, 60),
  (yX0_init, cX0_init, 1, none, 0, [], 0, 1, 118, 0, 60),
  (yX0_init, cX0_init, 1, none, 0, [], 0, 1, 118, 0, 60),
  (yX0_init, cX0_init, 1, none, 0, [], 0, 1, 118, 0, 60),
  (yX0_init, cX0_init, 1, none, 0, [], 0, 1, 118, 0, 60),
  (yX0_init, cX0_init, 1, none, 0, [], 0, 1, 118, 0, 60),
  (yX0_init, cX0_init, 1, none, 0, [], 0, 1, 118, 0, 60),
  (yX0_init, cX0_init, 1, none, 0, [], 0, 1, 118, 0, 60),
  (yX0_init, cX0_init, 1, none, 0, [], 0, 1, 118, 0, 60),
  (yX0_init, cX0_init, 1, none, 0, [], 0, 1, 118, 0, 60),
  (yX0_init, cX0_init, 1, none, 0, [], 0, 1, 118, 0, 60),
  (yX0_init, cX0_init, 1, none, 0, [], 0, 1, 118, 0, 60),
  (yX0_init, cX0_init, 1, none, 0, [], 0, 1, 118, 0, 60),
  (yX0_init, cX0_init, 1, none, 0, [], 0, 1, 118, 0, 60),
  (yX0_init, cX0_init, 1, none, 0, [], 0, 1, 118, 0, 60),
  (yX0_init, cX0_init, 1, none, 0, [], 0, 1, 118, 0, 60),
  (yX0_init, cX0_init, 1, none, 0, [], 0, 1, 118, 0, 60),
  (yX0_init, cX0_init, 1, none, 0, [], 0, 1, 118, 0, 60),
  (yX0_init, cX0_init, 1, none, 0, [], 0, 1, 118, 0, 60),
  (yX0_init, cX0_init, 1, none, 0, [], 0, 1, 118, 0, 60),
  (yX0_init, cX0_init, 1, none, 0, [], 0, 1, 118, 0, 60),
  (yX0_init, cX0_init, 1, none, 0, [], 0, 1, 118, 0, 60),
  (yX0_init, cX0_init, 1, none, 0, [], 0, 1, 118, 0, 60),
  (yX0_init, cX0_init, 1, none, 0, [], 0, 1, 118, 0, 60),
  (yX0_init, cX0_init, 1, none, 0, [], 0, 1, 118, 0, 60),
  (yX0_init, cX0_init, 1, none, 0, [], 0, 1, 118, 0, 60),
  (yX0_init, cX0_init, 1, none, 0, [], 0, 1, 118, 0, 60),
  (yX0_init, cX0_init, 1, none, 0, [], 0, 1, 118, 0, 60),
  (yX0_init, cX0_init, 1, none, 0, [], 0, 1, 118, 0, 60),
  (yX0_init, cX0_init, 1, none, 0, [], 0, 1, 118, 0, 60),
  (yX0_init, cX0_init, 1, none, 0, [], 0, 1, 118, 0, 60),
  (yX0_init, cX0_init, 1, none, 0, [], 0, 1, 118, 0, 60),
  (yX0_init, cX0_init, 1, none, 0, [], 0, 1, 118, 0, 60),
  (yX0_init, cX0_init, 1, none, 0, [], 0, 1, 118, 0, 60),
  (yX0_init, cX0_init, 1, none, 0, [], 0, 1, 118, 0, 60),
  (yX0_init, cX0_init, 1, none, 0, [], 0, 1, 118, 0, 60),
  (yX0_init, cX0_init, 1, none, 0, [], 0, 1, 118, 0, 60),
  (yX0_init, cX0_init, 1, none, 0, [], 0, 1, 118, 0, 60),
  (yX0_init, cX0_init, 1, none, 0, [], 0, 1, 118, 0, 60),
  (yX0_init, cX0_init, 1, none, 0, [], 0, 1, 118, 0, 60),
  (yX0_init, cX0_init, 1, none, 0, [], 0, 1, 118, 0, 60),
  (yX0_init, cX0_init, 1, none, 0, [], 0, 1, 118, 0, 60),
  (yX0_init, cX0_init, 1, none, 0, [], 0, 1, 118, 0, 60),
  (yX0_init, cX0_init, 1, none, 0, [], 0, 1, 118, 0, 60),
  (yX0_init, cX0_init, 1, none, 0, [], 0, 1, 118, 0, 60),
  (yX0_init, cX0_init, 1, none, 0, [], 0, 1, 118, 0, 60),
  (yX0_init, cX0_init, 1, none, 0, [], 0, 1, 118, 0, 60),
  (yX0_init, cX0_init, 1, none, 0, [], 0, 1, 118, 0, 60),
  (yX0_init, cX0_init, 1, none, 0, [], 0, 1, 118, 0, 60),
  (yX0_init, cX0_init, 1, none, 0, [], 0, 1, 118, 0, 60),
  (yX0_init, cX0_init, 1, none, 0, [], 0, 1, 118, 0, 60),
  (yX0_init, cX0_init, 1, none, 0, [], 0, 1, 118, 0, 60),
  (yX0_init, cX0_init, 1, none, 0, [], 0, 1, 118, 0, 60),
  (yX0_init, cX0_init, 1, none, 0, [], 0, 1, 118, 0, 60),
  (yX0_init, cX0_init, 1, none, 0, [], 0, 1, 118, 0, 60),
  (yX0_init, cX0_init, 1, none, 0, [], 0, 1, 118, 0, 60),
  (yX0_init, cX0_init, 1, none, 0, [], 0, 1, 118, 0, 60),
  (yX0_init, cX0_init, 1, none, 0, [], 0, 1, 118, 0, 60),
  (yX0_init, cX0_init, 1, none, 0, [], 0, 1, 118, 0, 60),
  (yX0_init, cX0_init, 1, none, 0, [], 0, 1, 118, 0, 60),
  (yX0_init, cX0_init, 1, none, 0, [], 0, 1, 118, 0, 60),
  (yX0_init, cX0_init, 1, none, 0, [], 0, 1, 118, 0, 60),
  (yX0_init, cX0_init, 1, none, 0, [], 0, 1, 118, 0, 60),
  (yX0_init, cX0_init, 1, none, 0, [], 0, 1, 118, 0, 60),
  (yX0_init, cX0_init, 1, none, 0, [], 0, 1, 118, 0, 60),
  (yX0_init, cX0_init, 1, none, 0, [], 0, 1, 118, 0, 60),
  (yX0_init, cX0_init, 1, none, 0, [], 0, 1, 118, 0, 60),
  (yX0_init, cX0_init, 1, none, 0, [], 0, 1, 118, 0, 60),
  (yX0_init, cX0_init, 1, none, 0, [], 0, 1, 118, 0, 60),
  (yX0_init, cX0_init, 1, none, 0, [], 0, 1, 118, 0, 60),
  (yX0_init, cX0_init, 1, none, 0, [], 0, 1, 118, 0, 60),
  (yX0_init, cX0_init, 1, none, 0, [], 0, 1, 118, 0, 60),
  (yX0_init, cX0_init, 1, none, 0, [], 0, 1, 118, 0, 60),
  (yX0_init, cX0_init, 1, none, 0, [], 0, 1, 118, 0, 60),
  (yX0_init, cX0_init, 1, none, 0, [], 0, 1, 118, 0, 60),
  (yX0_init, cX0_init, 1, none, 0, [], 0, 1, 118, 0, 60),
  (yX0_init, cX0_init, 1, none, 0, [], 0, 1, 118, 0, 60),
  (yX0_init, cX0_init, 1, none, 0, [], 0, 1, 118, 0, 60),
  (yX0_init, cX0_init, 1, none, 0, [], 0, 1, 118, 0, 60),
  (yX0_init, cX0_init, 1, none, 0, [], 0, 1, 118, 0, 60),
  (yX0_init, cX0_init, 1, none, 0, [], 0, 1, 118, 0, 60),
  (yX0_init, cX0_init, 1, none, 0, [], 0, 1, 118, 0, 60),
  (yX0_init, cX0_init, 1, none, 0, [], 0, 1, 118, 0, 60),
  (yX0_init, cX0_init, 1, none, 0, [], 0, 1, 118, 0, 60),
  (yX0_init, cX0_init, 1, none, 0, [], 0, 1, 118, 0, 60),
  (yX0_init, cX0_init, 1, none, 0, [], 0, 1, 118, 0, 60),
  (yX0_init, cX0_init, 1, none, 0, [], 0, 1, 118, 0, 60),
  (yX0_init, cX0_init, 1, none, 0, [], 0, 1, 118, 0, 60),
  (yX0_init, cX0_init, 1, none, 0, [], 0, 1, 118, 0, 60),
  (yX0_init, cX0_init, 1, none, 0, [], 0, 1, 118, 0, 60),
  (yX0_init, cX0_init, 1, none, 0, [], 0, 1, 118, 0, 60),
  (yX0_init, cX0_init, 1, none, 0, [], 0, 1, 118, 0, 60),
  (yX0_init, cX0_init, 1, none, 0, [], 0, 1, 118, 0, 60),
  (yX0_init, cX0_init, 1, none, 0, [], 0, 1, 118, 0, 60),
  (yX0_init, cX0_init, 1, none, 0, [], 0, 1, 118, 0, 60),
  (yX0_init, cX0_init, 1, none, 0, [], 0, 1, 118, 0, 60),
  (yX0_init, cX0_init, 1, none, 0, [], 0, 1, 118, 0, 60),
  (yX0_init, cX0_init, 1, none, 0, [], 0, 1, 118, 0, 60),
  (yX0_init, cX0_init, 1, none, 0, [], 0, 1, 118, 0, 60),
  (yX0_init, cX0_init, 1, none, 0, [], 0, 1, 118, 0, 60),
  (yX0_init, cX0_init, 1, none, 0, [], 0, 1, 118, 0, 60),
  (yX0_init, cX0_init, 1, none, 0, [], 0, 1, 118, 0, 60),
  (yX0_init, cX0_init, 1, none, 0, [], 0, 1, 118, 0, 60),
  (yX0_init, cX0_init, 1, none, 0, [], 0, 1, 118, 0, 60),
  (yX0_init, cX0_init, 1, none, 0, [], 0, 1, 118, 0, 60),
  (yX0_init, cX0_init, 1, none, 0, [], 0, 1, 118, 0, 60),
  (yX0_init, cX0_init, 1, none, 0, [], 0, 1, 118, 0, 60),
  (yX0_init, cX0_init, 1, none, 0, [], 0, 1, 118, 0, 60),
  (yX0_init, cX0_init, 1, none, 0, [], 0, 1, 118, 0, 60),
  (yX0_init, cX0_init, 1, none, 0, [], 0, 1, 118, 0, 60),
  (yX0_init, cX0_init, 1, none, 0, [], 0, 1, 118, 0, 60),
  (yX0_init, cX0_init, 1, none, 0, [], 0, 1, 118, 0, 60),
  (yX0_init, cX0_init, 1, none, 0, [], 0, 1, 118, 0, 60),
  (yX0_init, cX0_init, 1, none, 0, [], 0, 1, 118, 0, 60),
  (yX0_init, cX0_init, 1, none, 0, [], 0, 1, 118, 0, 60),
  (yX0_init, cX0_init, 1, none, 0, [], 0, 1, 118, 0, 60),
  (yX0_init, cX0_init, 1, none, 0, [], 0, 1, 118, 0, 60),
  (yX0_init, cX0_init, 1, none, 0, [], 0, 1, 118, 0, 60),
  (yX0_init, cX0_init, 1, none, 0, [], 0, 1, 118, 0, 60),
  (yX0_init, cX0_init, 1, none, 0, [], 0, 1, 118, 0, 60),
  (yX0_init, cX0_init, 1, none, 0, [], 0, 1, 118, 0, 60),
  (yX0_init, cX0_init, 1, none, 0, [], 0, 1, 118, 0, 60),
  (yX0_init, cX0_init, 1, none, 0, [], 0, 1, 118, 0, 60),
  (yX0_init, cX0_init, 1, none, 0, [], 0, 1, 118, 0, 60),
  (yX0_init, cX0_init, 1, none, 0, [], 0, 1, 118, 0, 60),
  (yX0_init, cX0_init, 1, none, 0, [], 0, 1, 118, 0, 60),
  (yX0_init, cX0_init, 1, none, 0, [], 0, 1, 118, 0, 60),
  (yX0_init, cX0_init, 1, none, 0, [], 0, 1, 118, 0, 60),
  (yX0_init, cX0_init, 1, none, 0, [], 0, 1, 118, 0, 60),
  (yX0_init, cX0_init, 1, none, 0, [], 0, 1, 118, 0, 60),
  (yX0_init, cX0_init, 1, none, 0, [], 0, 1, 118, 0, 60),
  (yX0_init, cX0_init, 1, none, 0, [], 0, 1, 118, 0, 60),
  (yX0_init, cX0_init, 1, none, 0, [], 0, 1, 118, 0, 60),
  (yX0_init, cX0_init, 1, none, 0, [], 0, 1, 118, 0, 60),
  (yX0_init, cX0_init, 1, none, 0, [], 0, 1, 118, 0, 60),
  (yX0_init, cX0_init, 1, none, 0, [], 0, 1, 118, 0, 60),
  (yX0_init, cX0_init, 1, none, 0, [], 0, 1, 118, 0, 60),
  (yX0_init, cX0_init, 1, none, 0, [], 0, 1, 118, 0, 60),
  (yX0_init, cX0_init, 1, none, 0, [], 0, 1, 118, 0, 60),
  (yX0_init, cX0_init, 1, none, 0, [], 0, 1, 118, 0, 60),
  (yX0_init, cX0_init, 1, none, 0, [], 0, 1, 118, 0, 60),
  (yX0_init, cX0_init, 1, none, 0, [], 0, 1, 118, 0, 60),
  (yX0_init, cX0_init, 1, none, 0, [], 0, 1, 118, 0, 60),
  (yX0_init, cX0_init, 1, none, 0, [], 0, 1, 118, 0, 60),
  (yX0_init, cX0_init, 1, none, 0, [], 0, 1, 118, 0, 60),
  (yX0_init, cX0_init, 1, none, 0, [], 0, 1, 118, 0, 60),
  (yX0_init, cX0_init, 1, none, 0, [], 0, 1, 118, 0, 60),
  (yX0_init, cX0_init, 1, none, 0, [], 0, 1, 118, 0, 60),
  (yX0_init, cX0_init, 1, none, 0, [], 0, 1, 118, 0, 60),
  (yX0_init, cX0_init, 1, none, 0, [], 0, 1, 118, 0, 60),
  (yX0_init, cX0_init, 1, none, 0, [], 0, 1, 118, 0, 60),
  (yX0_init, cX0_init, 1, none, 0, [], 0, 1, 118, 0, 60),
  (yX0_init, cX0_init, 1, none, 0, [], 0, 1, 118, 0, 60),
  (yX0_init, cX0_init, 1, none, 0, [], 0, 1, 118, 0, 60),
  (yX0_init, cX0_init, 1, none, 0, [], 0, 1, 118, 0, 60),
  (yX0_init, cX0_init, 1, none, 0, [], 0, 1, 118, 0, 60),
  (yX0_init, cX0_init, 1, none, 0, [], 0, 1, 118, 0, 60),
  (yX0_init, cX0_init, 1, none, 0, [], 0, 1, 118, 0, 60),
  (yX0_init, cX0_init, 1, none, 0, [], 0, 1, 118, 0, 60),
  (yX0_init, cX0_init, 1, none, 0, [], 0, 1, 118, 0, 60),
  (yJ9_floorDiv_7cf53, cJ9_floorDiv_7cf53, 3, (some .int), 53, [], 2, 1, 493, 60, 60),
  (yJ9_abs_0f7a4, cJ9_abs_0f7a4, 1, (some .int), 53, [], 1, 1, 512, 60, 60),
  (yJ9_max_7cf53, cJ9_max_7cf53, 2, (some .int), 53, [], 2, 1, 486, 60, 60),
  (yJ9_min_7cf53, cJ9_min_7cf53, 2, (some .int), 53, [], 2, 1, 483, 60, 60),
  (yJ0_length_8abf5, cJ0_length_8abf5, 1, (some .int), 50, [], 0, 2, 809, 13, 80),
  (yJ0_charAt_5068e, cJ0_charAt_5068e, 2, (some .char), 50, [], 1, 4, 819, 13, 124),
  (yJ0_coder_7d493, cJ0_coder_7d493, 1, (some .byte), 50, [], 0, 1, 813, 13, 60),
  (yJ0_isLatin1_aae02, cJ0_isLatin1_aae02, 1, (some .boolean), 50, [], 0, 1, 823, 13, 60),
  (yJ0_checkIndex_df160, cJ0_checkIndex_df160, 2, none, 50, [], 2, 2, 829, 13, 82),
  (yJ1_charAt_3b067, cJ1_charAt_3b067, 2, (some .char), 51, [], 2, 3, 826, 60, 103),
  (yJ3_checkIndex_8e157, cJ3_checkIndex_8e157, 3, (some .int), 52, [], 3, 1, 834, 60, 60),
  (yJ1_canEncode_fc78d, cJ1_canEncode_fc78d, 1, (some .boolean), 51, [], 1, 1, 1168, 60, 60),
  (yJ8_newLength_cabcc, cJ8_newLength_cabcc, 4, (some .int), 59, [], 3, 2, 1045, 60, 81),
  (yJ7_copyOf_9075b, cJ7_copyOf_9075b, 3, (some (.array .byte)), 58, [], 2, 2, 1053, 60, 81),
  (yJ7_checkLength_df160, cJ7_checkLength_df160, 2, none, 58, [], 2, 1, 1215, 60, 60),
  (yJ7_copyOfRangeByte_39247, cJ7_copyOfRangeByte_39247, 5, (some (.array .byte)), 58, [], 3, 2, 1212, 60, 81),
  (yJ7_copyOfRange_39247, cJ7_copyOfRange_39247, 3, (some (.array .byte)), 58, [], 3, 3, 1209, 60, 105),
  (yJ6_stringSize_0f7a4, cJ6_stringSize_0f7a4, 4, (some .int), 57, [], 1, 1, 1140, 60, 60),
  (yJ6_getChars_ba4f3, cJ6_getChars_ba4f3, 7, (some .int), 57, [], 3, 1, 1143, 60, 60),
  (yJ5_isLatin1_aae02, cJ5_isLatin1_aae02, 1, (some .boolean), 56, [], 0, 1, 1069, 60, 60),
  (yJ5_getValue_6d5f1, cJ5_getValue_6d5f1, 1, (some (.array .byte)), 56, [], 0, 1, 1197, 60, 60),
  (yJ5_length_8abf5, cJ5_length_8abf5, 1, (some .int), 56, [], 0, 1, 1205, 60, 60),
  (yJ5_newCapacity_0f7a4, cJ5_newCapacity_0f7a4, 6, (some .int), 56, [], 1, 3, 1042, 60, 104),
  (yJ5_ensureCapacityInternal_d00df, cJ5_ensureCapacityInternal_d00df, 3, none, 56, [], 1, 4, 1038, 60, 129),
  (yJ0_getBytes_840e7, cJ0_getBytes_840e7, 4, none, 50, [], 3, 2, 1116, 13, 80),
  (yJ5_inflateIfNeededFor_a7421, cJ5_inflateIfNeededFor_a7421, 2, none, 56, [], 1, 2, 1093, 60, 80),
  (yJ5_putStringAt_47b60, cJ5_putStringAt_47b60, 3, none, 56, [], 2, 3, 1089, 60, 103),
  (yJ5_append_cf1ce, cJ5_append_cf1ce, 3, (some (.object "java/lang/AbstractStringBuilder")), 56, [], 1, 5, 1030, 60, 151),
  (yJ5_append_3fe6f, cJ5_append_3fe6f, 2, (some (.object "java/lang/AbstractStringBuilder")), 56, [], 1, 5, 1165, 60, 151),
  (yJ5_append_c97b9, cJ5_append_c97b9, 4, (some (.object "java/lang/AbstractStringBuilder")), 56, [], 1, 5, 1137, 60, 151),
  (yJ4_append_15ec4, cJ4_append_15ec4, 2, (some (.object "java/lang/StringBuilder")), 55, [], 1, 6, 1027, 12, 173),
  (yJ4_append_cf468, cJ4_append_cf468, 2, (some (.object "java/lang/StringBuilder")), 55, [], 1, 6, 1162, 12, 172),
  (yJ4_append_bf812, cJ4_append_bf812, 2, (some (.object "java/lang/StringBuilder")), 55, [], 1, 6, 1134, 12, 174),
  (yJ4_append_cf1ce, cJ4_append_cf1ce, 2, (some (.object "java/lang/AbstractStringBuilder")), 55, [], 1, 7, 1023, 12, 194),
  (yJ4_length_8abf5, cJ4_length_8abf5, 1, (some .int), 55, [], 0, 2, 1203, 12, 80),
  (yJ5_init_a7421, cJ5_init_a7421, 5, none, 56, [], 1, 8, 1005, 60, 215),
  (yJ4_init_a7421, cJ4_init_a7421, 2, none, 55, [], 1, 9, 1002, 12, 239),
  (yJ0_init_db425, cJ0_init_db425, 5, none, 50, [], 2, 4, 1191, 13, 127),
  (yJ0_init_81219, cJ0_init_81219, 2, none, 50, [], 1, 5, 1188, 13, 151),
  (yJ4_toString_0e30d, cJ4_toString_0e30d, 1, (some (.object "java/lang/String")), 55, [], 0, 6, 1183, 12, 172),
  (yX0_init, cX0_init, 1, none, 0, [], 0, 1, 118, 0, 60),
  (yX0_init, cX0_init, 1, none, 0, [], 0, 1, 118, 0, 60),
  (yX0_init, cX0_init, 1, none, 0, [], 0, 1, 118, 0, 60),
  (yX0_init, cX0_init, 1, none, 0, [], 0, 1, 118, 0, 60),
  (yL_cell, cL_cell, 2, (some .int), 54, [], 2, 1, 797, 60, 60),
  (yL_draw, cL_draw, 4, (some .int), 54, [], 4, 2, 794, 60, 81),
  (yL_fed, cL_fed, 5, none, 54, [], 2, 5, 805, 60, 145),
  (yL_parsed, cL_parsed, 2, (some .int), 54, [], 2, 12, 802, 60, 294),
  (yL_setup, cL_setup, 7, (some (.object "java/lang/String")), 54, [], 2, 10, 996, 60, 260),
  (yL_isSound, cL_isSound, 11, (some .boolean), 54, [], 2, 10, 1239, 60, 348),
  (yL_acts, cL_acts, 5, none, 54, [], 4, 10, 1296, 60, 347),
  (yL_law, cL_law, 12, (some .boolean), 54, [], 1, 13, 0, 60, 378)]
def am_cn (k : Nat) : String := match k with
  | 0 => RX0
  | 1 => RX1
  | 2 => RX2
  | 3 => RX3
  | 4 => RX4
  | 5 => RX5
  | 6 => RX6
  | 7 => RX7
  | 8 => RX8
  | 9 => RX9
  | 10 => RX10
  | 11 => RX11
  | 50 => RJ0
  | 51 => RJ1
  | 52 => RJ3
  | 53 => RJ9
  | 55 => RJ4
  | 56 => RJ5
  | 57 => RJ6
  | 58 => RJ7
  | 59 => RJ8
  | _ => RL
def am_d : am_Mr := (yL_law, cL_law, 0, none, 54, [], 0, 0, 0, 0, 0)
def am_M (k : Nat) : am_Mr := am_ms.getD k am_d
def am_Y (k : Nat) : MethodName := (am_M k).1
def am_X (k : Nat) : Nat := (am_M k).2.2.1
def am_R (k : Nat) : Option FieldType := (am_M k).2.2.2.1
def am_O (k : Nat) : Nat := (am_M k).2.2.2.2.1
def am_H (k : Nat) : List (Nat × Nat × Nat × Nat) := (am_M k).2.2.2.2.2.1
def am_N (k : Nat) : Nat := (am_M k).2.2.2.2.2.2.1
def am_K (k : Nat) : Nat := (am_M k).2.2.2.2.2.2.2.1
def am_I (k : Nat) : Nat := (am_M k).2.2.2.2.2.2.2.2.1
def am_C (k : Nat) : Nat := (am_M k).2.2.2.2.2.2.2.2.2.1
def am_Q (k : Nat) : Nat := (am_M k).2.2.2.2.2.2.2.2.2.2
def am_c0 : List (Nat × Instr) := [(0, .aload_n 0), (1, .invokespecial 1), (4, .return_)]
def am_c1_0 : List (Nat × Instr) := [(0, .aload_n 1), (1, .getfield 7), (4, .aload_n 1), (5, .getfield 13), (8, .isub), (9, .istore_n 3), (10, .aload_n 1), (11, .getfield 16), (14, .aload_n 1), (15, .getfield 19), (18, .isub), (19, .istore 4), (21, .aload_n 2), (22, .getfield 7), (25, .aload_n 2), (26, .getfield 13), (29, .isub), (30, .istore 5), (32, .aload_n 2), (33, .getfield 16), (36, .aload_n 2), (37, .getfield 19), (40, .isub), (41, .istore 6), (43, .aload_n 2), (44, .getfield 13), (47, .aload_n 1), (48, .getfield 13), (51, .isub), (52, .istore 7), (54, .aload_n 2), (55, .getfield 19), (58, .aload_n 1), (59, .getfield 19), (62, .isub), (63, .istore 8), (65, .iload_n 3), (66, .iload 6), (68, .imul), (69, .iload 4)]
def am_c1_1 : List (Nat × Instr) := [(71, .iload 5), (73, .imul), (74, .isub), (75, .istore 9), (77, .iload 7), (79, .iload 6), (81, .imul), (82, .iload 8), (84, .iload 5), (86, .imul), (87, .isub), (88, .istore 10), (90, .iload 7), (92, .iload 4), (94, .imul), (95, .iload 8), (97, .iload_n 3), (98, .imul), (99, .isub), (100, .istore 11), (102, .iload 9), (104, .ifCond .ge 18), (107, .iload 9), (109, .ineg), (110, .istore 9), (112, .iload 10), (114, .ineg), (115, .istore 10), (117, .iload 11), (119, .ineg), (120, .istore 11), (122, .iload 9), (124, .ifCond .eq 27), (127, .iload 10), (129, .ifCond .le 22), (132, .iload 10), (134, .iload 9), (136, .if_icmp .ge 15), (139, .iload 11), (141, .ifCond .le 10)]
def am_c1_2 : List (Nat × Instr) := [(144, .iload 11), (146, .iload 9), (148, .if_icmp .lt 5), (151, .iconst 0), (152, .ireturn), (153, .aload_n 0), (154, .aload_n 1), (155, .getfield 13), (158, .iload_n 3), (159, .iload 10), (161, .imul), (162, .iload 9), (164, .invokestatic 22), (167, .iadd), (168, .putfield 28), (171, .aload_n 0), (172, .aload_n 1), (173, .getfield 19), (176, .iload 4), (178, .iload 10), (180, .imul), (181, .iload 9), (183, .invokestatic 22), (186, .iadd), (187, .putfield 31), (190, .aload_n 0), (191, .aload_n 1), (192, .getfield 32), (195, .iload 10), (197, .imul), (198, .iload 9), (200, .idiv), (201, .aload_n 1), (202, .invokevirtual 35), (205, .invokestatic 39), (208, .putfield 42), (211, .aload_n 0), (212, .aload_n 2), (213, .getfield 32), (216, .iload 11)]
def am_c1_3 : List (Nat × Instr) := [(218, .imul), (219, .iload 9), (221, .idiv), (222, .aload_n 2), (223, .invokevirtual 35), (226, .invokestatic 39), (229, .putfield 45), (232, .iconst 1), (233, .ireturn)]
def am_c1 : List (Nat × Instr) := (am_c1_0 ++ (am_c1_1 ++ (am_c1_2 ++ am_c1_3)))
def am_c2 : List (Nat × Instr) := [(0, .iload_n 1), (1, .ifCond .le 15), (4, .iconst 0), (5, .iload_n 0), (6, .iload_n 1), (7, .iconst 2), (8, .idiv), (9, .isub), (10, .invokestatic 48), (13, .goto 4), (16, .iload_n 0), (17, .ireturn)]
def am_c3 : List (Nat × Instr) := [(0, .aload_n 0), (1, .getfield 42), (4, .aload_n 0), (5, .getfield 45), (8, .isub), (9, .invokestatic 51), (12, .ireturn)]
def am_c4 : List (Nat × Instr) := [(0, .aload_n 0), (1, .invokespecial 1), (4, .return_)]
def am_c5 : List (Nat × Instr) := [(0, .aload_n 0), (1, .aload_n 1), (2, .getfield 7), (5, .putfield 7), (8, .aload_n 0), (9, .aload_n 1), (10, .getfield 13), (13, .putfield 13), (16, .aload_n 0), (17, .aload_n 1), (18, .getfield 16), (21, .putfield 16), (24, .aload_n 0), (25, .aload_n 1), (26, .getfield 19), (29, .putfield 19), (32, .aload_n 0), (33, .aload_n 1), (34, .getfield 22), (37, .putfield 22), (40, .aload_n 0), (41, .aload_n 1), (42, .getfield 25), (45, .putfield 25), (48, .return_)]
def am_c7_0 : List (Nat × Instr) := [(0, .aload_n 0), (1, .invokespecial 3), (4, .aload_n 0), (5, .bipush 10), (7, .anewarray 9), (10, .putfield 11), (13, .aload_n 0), (14, .iconst 4), (15, .anewarray 17), (18, .putfield 19), (21, .aload_n 0), (22, .bipush 12), (24, .anewarray 23), (27, .putfield 25), (30, .aload_n 0), (31, .bipush 6), (33, .newarray .int), (35, .putfield 29), (38, .aload_n 0), (39, .new 33), (42, .dup), (43, .invokespecial 35), (46, .putfield 36), (49, .iconst 0), (50, .istore_n 1), (51, .iload_n 1), (52, .bipush 10), (54, .if_icmp .ge 22), (57, .aload_n 0), (58, .getfield 11), (61, .iload_n 1), (62, .new 9), (65, .dup), (66, .invokespecial 40), (69, .aastore), (70, .iinc 1 1), (73, .goto (-22)), (76, .iconst 0), (77, .istore_n 1), (78, .iload_n 1)]
def am_c7_1 : List (Nat × Instr) := [(79, .iconst 4), (80, .if_icmp .ge 22), (83, .aload_n 0), (84, .getfield 19), (87, .iload_n 1), (88, .new 17), (91, .dup), (92, .invokespecial 41), (95, .aastore), (96, .iinc 1 1), (99, .goto (-21)), (102, .iconst 0), (103, .istore_n 1), (104, .iload_n 1), (105, .bipush 12), (107, .if_icmp .ge 22), (110, .aload_n 0), (111, .getfield 25), (114, .iload_n 1), (115, .new 23), (118, .dup), (119, .invokespecial 42), (122, .aastore), (123, .iinc 1 1), (126, .goto (-22)), (129, .aload_n 0), (130, .invokevirtual 43), (133, .aload_n 0), (134, .invokevirtual 46), (137, .return_)]
def am_c7 : List (Nat × Instr) := (am_c7_0 ++ am_c7_1)
def am_c8 : List (Nat × Instr) := [(0, .aload_n 0), (1, .iconst 0), (2, .putfield 49), (5, .aload_n 0), (6, .iconst 0), (7, .putfield 53), (10, .aload_n 0), (11, .iconst 0), (12, .putfield 56), (15, .aload_n 0), (16, .iconst 0), (17, .putfield 59), (20, .aload_n 0), (21, .iconst 0), (22, .putfield 62), (25, .aload_n 0), (26, .iconst 0), (27, .putfield 65), (30, .iconst 0), (31, .istore_n 1), (32, .iload_n 1), (33, .bipush 6), (35, .if_icmp .ge 20), (38, .aload_n 0), (39, .getfield 29), (42, .iload_n 1), (43, .getstatic 68), (46, .iload_n 1), (47, .iaload), (48, .iastore), (49, .iinc 1 1), (52, .goto (-20)), (55, .return_)]
def am_c9 : List (Nat × Instr) := [(0, .aload_n 0), (1, .getfield 19), (4, .iconst 0), (5, .aaload), (6, .iconst 0), (7, .iconst 3), (8, .iconst 0), (9, .invokevirtual 71), (12, .aload_n 0), (13, .iconst 1), (14, .putfield 53), (17, .return_)]
def am_c10_0 : List (Nat × Instr) := [(0, .aload_n 0), (1, .aload_n 1), (2, .getfield 49), (5, .putfield 49), (8, .aload_n 0), (9, .aload_n 1), (10, .getfield 53), (13, .putfield 53), (16, .aload_n 0), (17, .aload_n 1), (18, .getfield 56), (21, .putfield 56), (24, .aload_n 0), (25, .aload_n 1), (26, .getfield 59), (29, .putfield 59), (32, .aload_n 0), (33, .aload_n 1), (34, .getfield 62), (37, .putfield 62), (40, .aload_n 0), (41, .aload_n 1), (42, .getfield 65), (45, .putfield 65), (48, .iconst 0), (49, .istore_n 2), (50, .iload_n 2), (51, .aload_n 0), (52, .getfield 49), (55, .if_icmp .ge 24), (58, .aload_n 0), (59, .getfield 11), (62, .iload_n 2), (63, .aaload), (64, .aload_n 1), (65, .getfield 11), (68, .iload_n 2), (69, .aaload), (70, .invokevirtual 75), (73, .iinc 2 1)]
def am_c10_1 : List (Nat × Instr) := [(76, .goto (-26)), (79, .iconst 0), (80, .istore_n 2), (81, .iload_n 2), (82, .aload_n 0), (83, .getfield 53), (86, .if_icmp .ge 24), (89, .aload_n 0), (90, .getfield 19), (93, .iload_n 2), (94, .aaload), (95, .aload_n 1), (96, .getfield 19), (99, .iload_n 2), (100, .aaload), (101, .invokevirtual 79), (104, .iinc 2 1), (107, .goto (-26)), (110, .iconst 0), (111, .istore_n 2), (112, .iload_n 2), (113, .bipush 12), (115, .if_icmp .ge 24), (118, .aload_n 0), (119, .getfield 25), (122, .iload_n 2), (123, .aaload), (124, .aload_n 1), (125, .getfield 25), (128, .iload_n 2), (129, .aaload), (130, .invokevirtual 82), (133, .iinc 2 1), (136, .goto (-24)), (139, .iconst 0), (140, .istore_n 2), (141, .iload_n 2), (142, .bipush 6), (144, .if_icmp .ge 21), (147, .aload_n 0)]
def am_c10_2 : List (Nat × Instr) := [(148, .getfield 29), (151, .iload_n 2), (152, .aload_n 1), (153, .getfield 29), (156, .iload_n 2), (157, .iaload), (158, .iastore), (159, .iinc 2 1), (162, .goto (-21)), (165, .return_)]
def am_c10 : List (Nat × Instr) := (am_c10_0 ++ (am_c10_1 ++ am_c10_2))
def am_c11 : List (Nat × Instr) := [(0, .iconst 0), (1, .istore_n 2), (2, .iconst 0), (3, .istore_n 3), (4, .iload_n 3), (5, .aload_n 0), (6, .getfield 49), (9, .if_icmp .ge 25), (12, .aload_n 0), (13, .getfield 11), (16, .iload_n 3), (17, .aaload), (18, .getfield 85), (21, .iload_n 1), (22, .if_icmp .ne 6), (25, .iinc 2 1), (28, .iinc 3 1), (31, .goto (-27)), (34, .iload_n 2), (35, .ireturn)]
def am_c12 : List (Nat × Instr) := [(0, .iconst 0), (1, .istore_n 2), (2, .iconst 1), (3, .istore_n 3), (4, .iload_n 3), (5, .aload_n 0), (6, .getfield 53), (9, .if_icmp .ge 24), (12, .aload_n 0), (13, .getfield 19), (16, .iload_n 3), (17, .aaload), (18, .getfield 88), (21, .iload_n 1), (22, .if_icmp .gt 5), (25, .iload_n 3), (26, .istore_n 2), (27, .iinc 3 1), (30, .goto (-26)), (33, .iload_n 2), (34, .ireturn)]
def am_c13 : List (Nat × Instr) := [(0, .aload_n 0), (1, .getfield 11), (4, .iload_n 1), (5, .iload_n 2), (6, .invokestatic 91), (9, .aaload), (10, .astore_n 3), (11, .aload_n 0), (12, .getfield 11), (15, .iload_n 1), (16, .iload_n 2), (17, .invokestatic 97), (20, .aaload), (21, .astore 4), (23, .aload_n 3), (24, .getfield 85), (27, .ifCond .ne 28), (30, .aload 4), (32, .getfield 85), (35, .ifCond .ne 20), (38, .aload_n 0), (39, .getfield 36), (42, .aload_n 3), (43, .aload 4), (45, .invokevirtual 100), (48, .ifCond .eq 7), (51, .iconst 1), (52, .goto 4), (55, .iconst 0), (56, .ireturn)]
def am_c14 : List (Nat × Instr) := [(0, .aload_n 0), (1, .iload_n 1), (2, .iload_n 2), (3, .invokevirtual 104), (6, .ifCond .eq 23), (9, .aload_n 0), (10, .getfield 36), (13, .invokevirtual 108), (16, .aload_n 0), (17, .getfield 29), (20, .iconst 4), (21, .iaload), (22, .if_icmp .gt 7), (25, .iconst 1), (26, .goto 4), (29, .iconst 0), (30, .ireturn)]
def am_c15 : List (Nat × Instr) := [(0, .iconst 0), (1, .istore_n 2), (2, .iconst 0), (3, .istore_n 3), (4, .iload_n 3), (5, .aload_n 0), (6, .getfield 49), (9, .if_icmp .ge 59), (12, .iload_n 3), (13, .iconst 1), (14, .iadd), (15, .istore 4), (17, .iload 4), (19, .aload_n 0), (20, .getfield 49), (23, .if_icmp .ge 39), (26, .iload_n 1), (27, .ifCond .eq 16), (30, .aload_n 0), (31, .iload_n 3), (32, .iload 4), (34, .invokevirtual 112), (37, .ifCond .eq 19), (40, .goto 13), (43, .aload_n 0), (44, .iload_n 3), (45, .iload 4), (47, .invokevirtual 104), (50, .ifCond .eq 6), (53, .iinc 2 1), (56, .iinc 4 1), (59, .goto (-42)), (62, .iinc 3 1), (65, .goto (-61)), (68, .iload_n 2), (69, .ireturn)]
def am_c16_0 : List (Nat × Instr) := [(0, .iconst (-1)), (1, .istore 4), (3, .iconst 0), (4, .istore 5), (6, .iconst 0), (7, .istore 6), (9, .iload 6), (11, .aload_n 0), (12, .getfield 49), (15, .if_icmp .ge 126), (18, .aload_n 0), (19, .getfield 11), (22, .iload 6), (24, .aaload), (25, .astore 7), (27, .iload_n 1), (28, .aload 7), (30, .getfield 115), (33, .isub), (34, .invokestatic 118), (37, .istore 8), (39, .iload_n 2), (40, .aload 7), (42, .getfield 122), (45, .isub), (46, .invokestatic 118), (49, .istore 9), (51, .iload 6), (53, .iload_n 3), (54, .if_icmp .eq 24), (57, .aload 7), (59, .getfield 85), (62, .ifCond .eq 12), (65, .aload 7), (67, .getfield 85), (70, .iconst 1), (71, .if_icmp .ne 7), (74, .iconst 1), (75, .goto 4), (78, .iconst 0)]
def am_c16_1 : List (Nat × Instr) := [(79, .istore 10), (81, .iload 10), (83, .ifCond .eq 52), (86, .iload 8), (88, .aload_n 0), (89, .getfield 29), (92, .iconst 5), (93, .iaload), (94, .if_icmp .gt 41), (97, .iload 9), (99, .aload_n 0), (100, .getfield 29), (103, .iconst 5), (104, .iaload), (105, .if_icmp .gt 30), (108, .iload 4), (110, .iconst (-1)), (111, .if_icmp .eq 13), (114, .iload 8), (116, .iload 9), (118, .iadd), (119, .iload 5), (121, .if_icmp .ge 14), (124, .iload 6), (126, .istore 4), (128, .iload 8), (130, .iload 9), (132, .iadd), (133, .istore 5), (135, .iinc 6 1), (138, .goto (-129)), (141, .iload 4), (143, .ireturn)]
def am_c16 : List (Nat × Instr) := (am_c16_0 ++ am_c16_1)
def am_c17 : List (Nat × Instr) := [(0, .aload_n 0), (1, .getfield 25), (4, .aload_n 0), (5, .getfield 59), (8, .iload_n 1), (9, .iadd), (10, .bipush 12), (12, .irem), (13, .aaload), (14, .areturn)]
def am_c18 : List (Nat × Instr) := [(0, .aload_n 0), (1, .iload_n 1), (2, .iload_n 2), (3, .iload_n 3), (4, .aload_n 0), (5, .getfield 11), (8, .iload_n 2), (9, .aaload), (10, .getfield 125), (13, .aload_n 0), (14, .getfield 11), (17, .iload_n 2), (18, .aaload), (19, .getfield 128), (22, .invokevirtual 131), (25, .return_)]
def am_c19 : List (Nat × Instr) := [(0, .aload_n 0), (1, .getfield 56), (4, .bipush 12), (6, .if_icmp .ne 19), (9, .aload_n 0), (10, .aload_n 0), (11, .getfield 59), (14, .iconst 1), (15, .iadd), (16, .bipush 12), (18, .irem), (19, .putfield 59), (22, .goto 13), (25, .aload_n 0), (26, .dup), (27, .getfield 56), (30, .iconst 1), (31, .iadd), (32, .putfield 56), (35, .aload_n 0), (36, .aload_n 0), (37, .getfield 56), (40, .iconst 1), (41, .isub), (42, .invokevirtual 135), (45, .astore 6), (47, .aload 6), (49, .aload_n 0), (50, .getfield 62), (53, .putfield 139), (56, .aload 6), (58, .iload_n 1), (59, .putfield 140), (62, .aload 6), (64, .iload_n 2), (65, .putfield 143), (68, .aload 6), (70, .iload_n 3), (71, .putfield 146), (74, .aload 6), (76, .iload 4), (78, .putfield 149), (81, .aload 6), (83, .iload 5), (85, .putfield 150), (88, .return_)]
def am_c20 : List (Nat × Instr) := [(0, .iconst 0), (1, .istore_n 2), (2, .iload_n 2), (3, .iload_n 1), (4, .if_icmp .ge 23), (7, .aload_n 0), (8, .getfield 62), (11, .sipush 5000), (14, .if_icmp .ge 13), (17, .aload_n 0), (18, .invokevirtual 151), (21, .iinc 2 1), (24, .goto (-22)), (27, .return_)]
def am_c21_0 : List (Nat × Instr) := [(0, .iconst 0), (1, .istore_n 1), (2, .iconst 0), (3, .istore_n 2), (4, .iload_n 2), (5, .aload_n 0), (6, .getfield 49), (9, .if_icmp .ge 28), (12, .aload_n 0), (13, .getfield 11), (16, .iload_n 2), (17, .aaload), (18, .getfield 85), (21, .iconst 2), (22, .if_icmp .ne 9), (25, .iload_n 1), (26, .iconst 1), (27, .iload_n 2), (28, .ishl), (29, .ior), (30, .istore_n 1), (31, .iinc 2 1), (34, .goto (-30)), (37, .iconst 0), (38, .istore_n 2), (39, .iload_n 2), (40, .aload_n 0), (41, .getfield 49), (44, .if_icmp .ge 26), (47, .aload_n 0), (48, .getfield 11), (51, .iload_n 2), (52, .aaload), (53, .getfield 85), (56, .ifCond .ne 8), (59, .aload_n 0), (60, .iload_n 2), (61, .invokevirtual 154), (64, .iinc 2 1), (67, .goto (-28))]
def am_c21_1 : List (Nat × Instr) := [(70, .aload_n 0), (71, .invokevirtual 158), (74, .aload_n 0), (75, .invokevirtual 161), (78, .iconst 0), (79, .istore_n 2), (80, .iload_n 2), (81, .aload_n 0), (82, .getfield 49), (85, .if_icmp .ge 22), (88, .iload_n 1), (89, .iconst 1), (90, .iload_n 2), (91, .ishl), (92, .iand), (93, .ifCond .eq 8), (96, .aload_n 0), (97, .iload_n 2), (98, .invokevirtual 164), (101, .iinc 2 1), (104, .goto (-24)), (107, .aload_n 0), (108, .invokevirtual 167), (111, .aload_n 0), (112, .dup), (113, .getfield 62), (116, .iconst 1), (117, .iadd), (118, .putfield 62), (121, .return_)]
def am_c21 : List (Nat × Instr) := (am_c21_0 ++ am_c21_1)
def am_c22_0 : List (Nat × Instr) := [(0, .aload_n 0), (1, .getfield 11), (4, .iload_n 1), (5, .aaload), (6, .astore_n 2), (7, .aload_n 0), (8, .getfield 19), (11, .aload_n 0), (12, .aload_n 2), (13, .getfield 170), (16, .invokevirtual 173), (19, .aaload), (20, .astore_n 3), (21, .aload_n 2), (22, .aload_n 2), (23, .getfield 176), (26, .aload_n 2), (27, .getfield 179), (30, .iadd), (31, .iconst 1), (32, .sipush 400), (35, .invokestatic 182), (38, .putfield 176), (41, .aload_n 2), (42, .aload_n 3), (43, .invokevirtual 186), (46, .aload_n 2), (47, .invokevirtual 189), (50, .aload_n 0), (51, .getfield 29), (54, .iconst 0), (55, .iaload), (56, .if_icmp .gt 54), (59, .aload_n 2), (60, .getfield 179), (63, .ifCond .ge 12), (66, .aload_n 0), (67, .getfield 29), (70, .iconst 2), (71, .iaload)]
def am_c22_1 : List (Nat × Instr) := [(72, .goto 4), (75, .iconst 0), (76, .istore 4), (78, .aload_n 2), (79, .sipush 300), (82, .aload_n 2), (83, .getfield 170), (86, .aload_n 0), (87, .getfield 29), (90, .iconst 1), (91, .iaload), (92, .aload_n 3), (93, .invokevirtual 192), (96, .imul), (97, .iadd), (98, .iload 4), (100, .iadd), (101, .invokestatic 91), (104, .putfield 170), (107, .goto 22), (110, .aload_n 2), (111, .iconst 0), (112, .aload_n 2), (113, .getfield 170), (116, .aload_n 0), (117, .getfield 29), (120, .iconst 3), (121, .iaload), (122, .isub), (123, .invokestatic 97), (126, .putfield 170), (129, .aload_n 2), (130, .invokevirtual 195), (133, .aload_n 2), (134, .getfield 170), (137, .ifCond .ne 15), (140, .aload_n 2), (141, .iconst 1), (142, .putfield 85), (145, .aload_n 0)]
def am_c22_2 : List (Nat × Instr) := [(146, .iconst 0), (147, .iload_n 1), (148, .iconst (-1)), (149, .invokevirtual 198), (152, .return_)]
def am_c22 : List (Nat × Instr) := (am_c22_0 ++ (am_c22_1 ++ am_c22_2))
def am_c23_0 : List (Nat × Instr) := [(0, .iconst 0), (1, .istore_n 1), (2, .iload_n 1), (3, .aload_n 0), (4, .getfield 49), (7, .if_icmp .ge 29), (10, .aload_n 0), (11, .getfield 11), (14, .iload_n 1), (15, .aaload), (16, .iconst 0), (17, .putfield 201), (20, .aload_n 0), (21, .getfield 11), (24, .iload_n 1), (25, .aaload), (26, .iconst (-1)), (27, .putfield 204), (30, .iinc 1 1), (33, .goto (-31)), (36, .iconst 0), (37, .istore_n 1), (38, .iload_n 1), (39, .aload_n 0), (40, .getfield 49), (43, .if_icmp .ge 111), (46, .iload_n 1), (47, .iconst 1), (48, .iadd), (49, .istore_n 2), (50, .iload_n 2), (51, .aload_n 0), (52, .getfield 49), (55, .if_icmp .ge 93), (58, .aload_n 0), (59, .getfield 11), (62, .iload_n 1), (63, .aaload), (64, .getfield 85), (67, .ifCond .ne 19)]
def am_c23_1 : List (Nat × Instr) := [(70, .aload_n 0), (71, .getfield 11), (74, .iload_n 2), (75, .aaload), (76, .getfield 85), (79, .ifCond .ne 7), (82, .iconst 1), (83, .goto 4), (86, .iconst 0), (87, .istore_n 3), (88, .iload_n 3), (89, .ifCond .eq 53), (92, .aload_n 0), (93, .getfield 36), (96, .aload_n 0), (97, .getfield 11), (100, .iload_n 1), (101, .aaload), (102, .aload_n 0), (103, .getfield 11), (106, .iload_n 2), (107, .aaload), (108, .invokevirtual 100), (111, .ifCond .eq 31), (114, .aload_n 0), (115, .getfield 36), (118, .invokevirtual 108), (121, .aload_n 0), (122, .getfield 29), (125, .iconst 4), (126, .iaload), (127, .if_icmp .gt 15), (130, .aload_n 0), (131, .iload_n 1), (132, .iload_n 2), (133, .invokevirtual 207), (136, .aload_n 0), (137, .iload_n 2), (138, .iload_n 1), (139, .invokevirtual 207)]
def am_c23_2 : List (Nat × Instr) := [(142, .iinc 2 1), (145, .goto (-95)), (148, .iinc 1 1), (151, .goto (-113)), (154, .return_)]
def am_c23 : List (Nat × Instr) := (am_c23_0 ++ (am_c23_1 ++ am_c23_2))
def am_c24 : List (Nat × Instr) := [(0, .aload_n 0), (1, .getfield 11), (4, .iload_n 1), (5, .aaload), (6, .astore_n 3), (7, .aload_n 0), (8, .getfield 11), (11, .iload_n 2), (12, .aaload), (13, .invokevirtual 211), (16, .istore 4), (18, .aload_n 3), (19, .dup), (20, .getfield 214), (23, .iload 4), (25, .iadd), (26, .putfield 214), (29, .aload_n 3), (30, .getfield 204), (33, .iconst (-1)), (34, .if_icmp .eq 12), (37, .iload 4), (39, .aload_n 3), (40, .getfield 201), (43, .if_icmp .le 14), (46, .aload_n 3), (47, .iload 4), (49, .putfield 201), (52, .aload_n 3), (53, .iload_n 2), (54, .putfield 204), (57, .return_)]
def am_c25_0 : List (Nat × Instr) := [(0, .iconst 0), (1, .istore_n 1), (2, .iload_n 1), (3, .aload_n 0), (4, .getfield 49), (7, .if_icmp .ge 131), (10, .aload_n 0), (11, .getfield 11), (14, .iload_n 1), (15, .aaload), (16, .astore_n 2), (17, .aload_n 2), (18, .getfield 85), (21, .ifCond .ne 111), (24, .aload_n 2), (25, .getfield 214), (28, .aload_n 2), (29, .getfield 217), (32, .if_icmp .lt 100), (35, .aload_n 2), (36, .getfield 204), (39, .iconst (-1)), (40, .if_icmp .eq 92), (43, .aload_n 2), (44, .getfield 204), (47, .istore_n 3), (48, .aload_n 2), (49, .iconst 2), (50, .putfield 85), (53, .aload_n 2), (54, .iload_n 3), (55, .putfield 220), (58, .aload_n 0), (59, .getfield 11), (62, .iload_n 3), (63, .aaload), (64, .dup), (65, .getfield 223), (68, .iconst 1), (69, .iadd)]
def am_c25_1 : List (Nat × Instr) := [(70, .putfield 223), (73, .aload_n 0), (74, .dup), (75, .getfield 65), (78, .iconst 1), (79, .iadd), (80, .putfield 65), (83, .aload_n 0), (84, .getfield 36), (87, .aload_n 0), (88, .getfield 11), (91, .iload_n 1), (92, .iload_n 3), (93, .invokestatic 91), (96, .aaload), (97, .aload_n 0), (98, .getfield 11), (101, .iload_n 1), (102, .iload_n 3), (103, .invokestatic 97), (106, .aaload), (107, .invokevirtual 100), (110, .pop), (111, .aload_n 0), (112, .iconst 1), (113, .iload_n 1), (114, .iload_n 3), (115, .aload_n 0), (116, .getfield 36), (119, .getfield 226), (122, .aload_n 0), (123, .getfield 36), (126, .getfield 227), (129, .invokevirtual 131), (132, .iinc 1 1), (135, .goto (-133)), (138, .return_)]
def am_c25 : List (Nat × Instr) := (am_c25_0 ++ am_c25_1)
def am_c26 : List (Nat × Instr) := [(0, .aload_n 0), (1, .getfield 11), (4, .iload_n 1), (5, .aaload), (6, .astore_n 2), (7, .aload_n 2), (8, .aload_n 0), (9, .getfield 19), (12, .aload_n 0), (13, .aload_n 2), (14, .getfield 170), (17, .invokevirtual 173), (20, .aaload), (21, .invokevirtual 186), (24, .aload_n 2), (25, .iconst 0), (26, .aload_n 2), (27, .getfield 170), (30, .aload_n 0), (31, .getfield 29), (34, .iconst 3), (35, .iaload), (36, .isub), (37, .invokestatic 97), (40, .putfield 170), (43, .aload_n 2), (44, .getfield 170), (47, .ifCond .ne 15), (50, .aload_n 2), (51, .iconst 3), (52, .putfield 85), (55, .aload_n 0), (56, .iconst 2), (57, .iload_n 1), (58, .iconst (-1)), (59, .invokevirtual 198), (62, .return_)]
def am_c27_0 : List (Nat × Instr) := [(0, .iconst 0), (1, .istore_n 1), (2, .iload_n 1), (3, .aload_n 0), (4, .getfield 49), (7, .if_icmp .ge 79), (10, .aload_n 0), (11, .getfield 11), (14, .iload_n 1), (15, .aaload), (16, .astore_n 2), (17, .aload_n 2), (18, .getfield 85), (21, .iconst 3), (22, .if_icmp .ne 19), (25, .aload_n 0), (26, .aload_n 2), (27, .getfield 125), (30, .aload_n 2), (31, .getfield 128), (34, .iload_n 1), (35, .invokevirtual 228), (38, .goto 4), (41, .iconst (-1)), (42, .istore_n 3), (43, .iload_n 3), (44, .iconst (-1)), (45, .if_icmp .eq 35), (48, .aload_n 2), (49, .iconst 4), (50, .putfield 85), (53, .aload_n 2), (54, .iload_n 3), (55, .putfield 231), (58, .aload_n 0), (59, .getfield 11), (62, .iload_n 3), (63, .aaload), (64, .dup), (65, .getfield 223)]
def am_c27_1 : List (Nat × Instr) := [(68, .iconst 2), (69, .iadd), (70, .putfield 223), (73, .aload_n 0), (74, .iconst 3), (75, .iload_n 1), (76, .iload_n 3), (77, .invokevirtual 198), (80, .iinc 1 1), (83, .goto (-81)), (86, .return_)]
def am_c27 : List (Nat × Instr) := (am_c27_0 ++ am_c27_1)
def am_c28 : List (Nat × Instr) := [(0, .aload_n 0), (1, .invokespecial 3), (4, .aload_n 0), (5, .bipush 10), (7, .anewarray 9), (10, .putfield 11), (13, .iconst 0), (14, .istore_n 1), (15, .iload_n 1), (16, .bipush 10), (18, .if_icmp .ge 22), (21, .aload_n 0), (22, .getfield 11), (25, .iload_n 1), (26, .new 9), (29, .dup), (30, .invokespecial 17), (33, .aastore), (34, .iinc 1 1), (37, .goto (-22)), (40, .return_)]
def am_c29 : List (Nat × Instr) := [(0, .aload_n 0), (1, .iconst 0), (2, .putfield 18), (5, .return_)]
def am_c30 : List (Nat × Instr) := [(0, .aload_n 0), (1, .getfield 18), (4, .bipush 10), (6, .if_icmp .ne 19), (9, .aload_n 0), (10, .aload_n 0), (11, .getfield 22), (14, .iconst 1), (15, .iadd), (16, .bipush 10), (18, .irem), (19, .putfield 22), (22, .goto 13), (25, .aload_n 0), (26, .dup), (27, .getfield 18), (30, .iconst 1), (31, .iadd), (32, .putfield 18), (35, .aload_n 0), (36, .getfield 11), (39, .aload_n 0), (40, .getfield 22), (43, .aload_n 0), (44, .getfield 18), (47, .iadd), (48, .iconst 1), (49, .isub), (50, .bipush 10), (52, .irem), (53, .aaload), (54, .aload_n 1), (55, .invokevirtual 25), (58, .return_)]
def am_c31 : List (Nat × Instr) := [(0, .aload_n 0), (1, .getfield 18), (4, .ifCond .le 34), (7, .aload_n 0), (8, .dup), (9, .getfield 18), (12, .iconst 1), (13, .isub), (14, .putfield 18), (17, .aload_n 1), (18, .aload_n 0), (19, .getfield 11), (22, .aload_n 0), (23, .getfield 22), (26, .aload_n 0), (27, .getfield 18), (30, .iadd), (31, .bipush 10), (33, .irem), (34, .aaload), (35, .invokevirtual 25), (38, .return_)]
def am_c32 : List (Nat × Instr) := [(0, .aload_n 0), (1, .invokespecial 3), (4, .aload_n 0), (5, .sipush 700), (8, .newarray .byte), (10, .putfield 9), (13, .return_)]
def am_c33 : List (Nat × Instr) := [(0, .bipush 24), (2, .istore_n 2), (3, .iload_n 2), (4, .ifCond .lt 42), (7, .aload_n 0), (8, .getfield 15), (11, .sipush 700), (14, .if_icmp .ge 26), (17, .aload_n 0), (18, .getfield 9), (21, .aload_n 0), (22, .getfield 15), (25, .iload_n 1), (26, .iload_n 2), (27, .ishr), (28, .i2b), (29, .bastore), (30, .aload_n 0), (31, .dup), (32, .getfield 15), (35, .iconst 1), (36, .iadd), (37, .putfield 15), (40, .iinc 2 (-8)), (43, .goto (-40)), (46, .return_)]
def am_c34 : List (Nat × Instr) := [(0, .aload_n 0), (1, .invokespecial 3), (4, .return_)]
def am_c35_0 : List (Nat × Instr) := [(0, .aload_n 0), (1, .aload_n 1), (2, .getfield 9), (5, .putfield 9), (8, .aload_n 0), (9, .aload_n 1), (10, .getfield 15), (13, .putfield 15), (16, .aload_n 0), (17, .aload_n 1), (18, .getfield 18), (21, .putfield 18), (24, .aload_n 0), (25, .aload_n 1), (26, .getfield 21), (29, .putfield 21), (32, .aload_n 0), (33, .aload_n 1), (34, .getfield 24), (37, .putfield 24), (40, .aload_n 0), (41, .aload_n 1), (42, .getfield 27), (45, .putfield 27), (48, .aload_n 0), (49, .aload_n 1), (50, .getfield 30), (53, .putfield 30), (56, .aload_n 0), (57, .aload_n 1), (58, .getfield 33), (61, .putfield 33), (64, .aload_n 0), (65, .aload_n 1), (66, .getfield 36), (69, .putfield 36), (72, .aload_n 0), (73, .aload_n 1), (74, .getfield 39), (77, .putfield 39)]
def am_c35_1 : List (Nat × Instr) := [(80, .aload_n 0), (81, .aload_n 1), (82, .getfield 42), (85, .putfield 42), (88, .aload_n 0), (89, .aload_n 1), (90, .getfield 45), (93, .putfield 45), (96, .aload_n 0), (97, .aload_n 1), (98, .getfield 48), (101, .putfield 48), (104, .aload_n 0), (105, .aload_n 1), (106, .getfield 51), (109, .putfield 51), (112, .return_)]
def am_c35 : List (Nat × Instr) := (am_c35_0 ++ am_c35_1)
def am_c36 : List (Nat × Instr) := [(0, .aload_n 0), (1, .iload_n 1), (2, .putfield 24), (5, .aload_n 0), (6, .iload_n 2), (7, .putfield 27), (10, .aload_n 0), (11, .invokevirtual 54), (14, .aload_n 0), (15, .iconst 0), (16, .putfield 33), (19, .aload_n 0), (20, .iconst 1), (21, .putfield 36), (24, .aload_n 0), (25, .bipush 20), (27, .putfield 39), (30, .aload_n 0), (31, .bipush 10), (33, .putfield 30), (36, .aload_n 0), (37, .iconst 0), (38, .putfield 42), (41, .aload_n 0), (42, .iconst 0), (43, .putfield 45), (46, .aload_n 0), (47, .iconst (-1)), (48, .putfield 48), (51, .aload_n 0), (52, .iconst (-1)), (53, .putfield 51), (56, .return_)]
def am_c38 : List (Nat × Instr) := [(0, .aload_n 0), (1, .iconst 1), (2, .putfield 9), (5, .aload_n 0), (6, .aload_n 0), (7, .getfield 24), (10, .putfield 15), (13, .aload_n 0), (14, .aload_n 0), (15, .getfield 27), (18, .putfield 18), (21, .aload_n 0), (22, .iconst 0), (23, .putfield 21), (26, .return_)]
def am_c39 : List (Nat × Instr) := [(0, .iload_n 1), (1, .tableswitch 132 0 12 #[67, 72, 77, 82, 87, 92, 97, 102, 107, 112, 117, 122, 127]), (68, .aload_n 0), (69, .getfield 9), (72, .ireturn), (73, .aload_n 0), (74, .getfield 15), (77, .ireturn), (78, .aload_n 0), (79, .getfield 18), (82, .ireturn), (83, .aload_n 0), (84, .getfield 21), (87, .ireturn), (88, .aload_n 0), (89, .getfield 24), (92, .ireturn), (93, .aload_n 0), (94, .getfield 27), (97, .ireturn), (98, .aload_n 0), (99, .getfield 30), (102, .ireturn), (103, .aload_n 0), (104, .getfield 33), (107, .ireturn), (108, .aload_n 0), (109, .getfield 36), (112, .ireturn), (113, .aload_n 0), (114, .getfield 39), (117, .ireturn), (118, .aload_n 0), (119, .getfield 42), (122, .ireturn), (123, .aload_n 0), (124, .getfield 45), (127, .ireturn), (128, .aload_n 0), (129, .getfield 48), (132, .ireturn), (133, .aload_n 0), (134, .getfield 51), (137, .ireturn)]
def am_c41_0 : List (Nat × Instr) := [(0, .iload_n 1), (1, .aload_n 0), (2, .getfield 15), (5, .isub), (6, .istore 4), (8, .iload_n 2), (9, .aload_n 0), (10, .getfield 18), (13, .isub), (14, .istore 5), (16, .iload_n 3), (17, .aload_n 0), (18, .getfield 21), (21, .isub), (22, .istore 6), (24, .iload 4), (26, .iload 4), (28, .imul), (29, .iload 5), (31, .iload 5), (33, .imul), (34, .iadd), (35, .iload 6), (37, .iload 6), (39, .imul), (40, .iadd), (41, .istore 7), (43, .iconst 0), (44, .istore 8), (46, .sipush 256), (49, .istore 9), (51, .iload 9), (53, .ifCond .le 35), (56, .iload 8), (58, .iload 9), (60, .iadd), (61, .iload 8), (63, .iload 9), (65, .iadd), (66, .imul)]
def am_c41_1 : List (Nat × Instr) := [(67, .iload 7), (69, .if_icmp .gt 10), (72, .iload 8), (74, .iload 9), (76, .iadd), (77, .istore 8), (79, .iload 9), (81, .iconst 1), (82, .ishr), (83, .istore 9), (85, .goto (-34)), (88, .iload 8), (90, .ireturn)]
def am_c41 : List (Nat × Instr) := (am_c41_0 ++ am_c41_1)
def am_c42 : List (Nat × Instr) := [(0, .aload_n 0), (1, .aload_n 0), (2, .getfield 24), (5, .aload_n 0), (6, .getfield 27), (9, .iconst 0), (10, .invokevirtual 57), (13, .ireturn)]
def am_c43 : List (Nat × Instr) := [(0, .aload_n 0), (1, .getfield 30), (4, .aload_n 0), (5, .aload_n 0), (6, .getfield 24), (9, .aload_n 0), (10, .getfield 27), (13, .iconst 0), (14, .invokevirtual 57), (17, .isub), (18, .ireturn)]
def am_c44 : List (Nat × Instr) := [(0, .aload_n 0), (1, .getfield 36), (4, .iconst 1), (5, .aload_n 0), (6, .getfield 33), (9, .invokestatic 61), (12, .iadd), (13, .imul), (14, .ireturn)]
def am_c45 : List (Nat × Instr) := [(0, .aload_n 0), (1, .aload_n 0), (2, .getfield 15), (5, .aload_n 1), (6, .getfield 67), (9, .iadd), (10, .iconst 0), (11, .sipush 199), (14, .invokestatic 70), (17, .putfield 15), (20, .aload_n 0), (21, .aload_n 0), (22, .getfield 18), (25, .aload_n 1), (26, .getfield 73), (29, .iadd), (30, .iconst 0), (31, .sipush 199), (34, .invokestatic 70), (37, .putfield 18), (40, .return_)]
def am_c46_0 : List (Nat × Instr) := [(0, .iconst 0), (1, .istore_n 1), (2, .iload_n 1), (3, .sipush 1000), (6, .if_icmp .ge 156), (9, .aload_n 0), (10, .getfield 15), (13, .aload_n 0), (14, .getfield 24), (17, .isub), (18, .invokestatic 61), (21, .istore_n 2), (22, .aload_n 0), (23, .getfield 18), (26, .aload_n 0), (27, .getfield 27), (30, .isub), (31, .invokestatic 61), (34, .istore_n 3), (35, .iload_n 2), (36, .iload_n 2), (37, .imul), (38, .iload_n 3), (39, .iload_n 3), (40, .imul), (41, .iadd), (42, .aload_n 0), (43, .getfield 21), (46, .aload_n 0), (47, .getfield 21), (50, .imul), (51, .iadd), (52, .aload_n 0), (53, .getfield 30), (56, .iconst 1), (57, .iadd), (58, .aload_n 0), (59, .getfield 30), (62, .iconst 1), (63, .iadd)]
def am_c46_1 : List (Nat × Instr) := [(64, .imul), (65, .if_icmp .ge 4), (68, .return_), (69, .aload_n 0), (70, .getfield 21), (73, .iload_n 2), (74, .if_icmp .lt 24), (77, .aload_n 0), (78, .getfield 21), (81, .iload_n 3), (82, .if_icmp .lt 16), (85, .aload_n 0), (86, .dup), (87, .getfield 21), (90, .iconst 1), (91, .isub), (92, .putfield 21), (95, .goto 61), (98, .iload_n 2), (99, .iload_n 3), (100, .if_icmp .lt 31), (103, .aload_n 0), (104, .dup), (105, .getfield 15), (108, .aload_n 0), (109, .getfield 15), (112, .aload_n 0), (113, .getfield 24), (116, .if_icmp .le 7), (119, .iconst (-1)), (120, .goto 4), (123, .iconst 1), (124, .iadd), (125, .putfield 15), (128, .goto 28), (131, .aload_n 0), (132, .dup), (133, .getfield 18), (136, .aload_n 0), (137, .getfield 18)]
def am_c46_2 : List (Nat × Instr) := [(140, .aload_n 0), (141, .getfield 27), (144, .if_icmp .le 7), (147, .iconst (-1)), (148, .goto 4), (151, .iconst 1), (152, .iadd), (153, .putfield 18), (156, .iinc 1 1), (159, .goto (-157)), (162, .return_)]
def am_c46 : List (Nat × Instr) := (am_c46_0 ++ (am_c46_1 ++ am_c46_2))
def am_c47 : List (Nat × Instr) := [(0, .aload_n 0), (1, .invokespecial 3), (4, .aload_n 0), (5, .bipush 10), (7, .bipush 6), (9, .multianewarray 9 2), (13, .putfield 11), (16, .aload_n 0), (17, .bipush 10), (19, .newarray .int), (21, .putfield 16), (24, .return_)]
def am_c48 : List (Nat × Instr) := [(0, .aload_n 0), (1, .iconst 0), (2, .putfield 20), (5, .return_)]
def am_c49 : List (Nat × Instr) := [(0, .aload_n 0), (1, .aload_n 1), (2, .getfield 20), (5, .putfield 20), (8, .iconst 0), (9, .istore_n 2), (10, .iload_n 2), (11, .aload_n 0), (12, .getfield 20), (15, .if_icmp .ge 55), (18, .aload_n 0), (19, .getfield 16), (22, .iload_n 2), (23, .aload_n 1), (24, .getfield 16), (27, .iload_n 2), (28, .iaload), (29, .iastore), (30, .iconst 0), (31, .istore_n 3), (32, .iload_n 3), (33, .aload_n 0), (34, .getfield 16), (37, .iload_n 2), (38, .iaload), (39, .if_icmp .ge 25), (42, .aload_n 0), (43, .getfield 11), (46, .iload_n 2), (47, .aaload), (48, .iload_n 3), (49, .aload_n 1), (50, .getfield 11), (53, .iload_n 2), (54, .aaload), (55, .iload_n 3), (56, .baload), (57, .bastore), (58, .iinc 3 1), (61, .goto (-29)), (64, .iinc 2 1), (67, .goto (-57)), (70, .return_)]
def am_c50 : List (Nat × Instr) := [(0, .aload_n 0), (1, .getfield 20), (4, .bipush 10), (6, .if_icmp .ge 70), (9, .iload_n 3), (10, .bipush 6), (12, .if_icmp .gt 64), (15, .iload_n 2), (16, .iload_n 3), (17, .iadd), (18, .aload_n 1), (19, .arraylength), (20, .if_icmp .gt 56), (23, .iconst 0), (24, .istore 4), (26, .iload 4), (28, .iload_n 3), (29, .if_icmp .ge 27), (32, .aload_n 0), (33, .getfield 11), (36, .aload_n 0), (37, .getfield 20), (40, .aaload), (41, .iload 4), (43, .aload_n 1), (44, .iload_n 2), (45, .iload 4), (47, .iadd), (48, .baload), (49, .bastore), (50, .iinc 4 1), (53, .goto (-27)), (56, .aload_n 0), (57, .getfield 16), (60, .aload_n 0), (61, .getfield 20), (64, .iload_n 3), (65, .iastore), (66, .aload_n 0), (67, .dup), (68, .getfield 20), (71, .iconst 1), (72, .iadd), (73, .putfield 20), (76, .return_)]
def am_c51 : List (Nat × Instr) := [(0, .iconst 0), (1, .istore 4), (3, .iload 4), (5, .aload_n 0), (6, .getfield 20), (9, .if_icmp .ge 34), (12, .aload_n 0), (13, .getfield 16), (16, .iload 4), (18, .iaload), (19, .iload_n 3), (20, .if_icmp .ne 17), (23, .aload_n 0), (24, .iload 4), (26, .aload_n 1), (27, .iload_n 2), (28, .invokevirtual 24), (31, .ifCond .eq 6), (34, .iload 4), (36, .ireturn), (37, .iinc 4 1), (40, .goto (-37)), (43, .iconst (-1)), (44, .ireturn)]
def am_c52 : List (Nat × Instr) := [(0, .iconst 0), (1, .istore 4), (3, .iload 4), (5, .aload_n 0), (6, .getfield 16), (9, .iload_n 1), (10, .iaload), (11, .if_icmp .ge 38), (14, .iload_n 3), (15, .iload 4), (17, .iadd), (18, .aload_n 2), (19, .arraylength), (20, .if_icmp .ge 21), (23, .aload_n 2), (24, .iload_n 3), (25, .iload 4), (27, .iadd), (28, .baload), (29, .aload_n 0), (30, .getfield 11), (33, .iload_n 1), (34, .aaload), (35, .iload 4), (37, .baload), (38, .if_icmp .eq 5), (41, .iconst 0), (42, .ireturn), (43, .iinc 4 1), (46, .goto (-43)), (49, .iconst 1), (50, .ireturn)]
def am_c53 : List (Nat × Instr) := [(0, .aload_n 0), (1, .invokespecial 1), (4, .aload_n 0), (5, .sipush 640), (8, .newarray .byte), (10, .putfield 9), (13, .return_)]
def am_c60 : List (Nat × Instr) := [(0, .aload_n 0), (1, .invokespecial 3), (4, .aload_n 0), (5, .new 9), (8, .dup), (9, .invokespecial 11), (12, .putfield 12), (15, .aload_n 0), (16, .new 18), (19, .dup), (20, .invokespecial 20), (23, .putfield 21), (26, .aload_n 0), (27, .iconst (-1)), (28, .putfield 25), (31, .aload_n 0), (32, .new 29), (35, .dup), (36, .aload_n 1), (37, .invokespecial 31), (40, .putfield 34), (43, .return_)]
def am_c61 : List (Nat × Instr) := [(0, .aload_n 0), (1, .iconst 0), (2, .putfield 38), (5, .aload_n 0), (6, .iconst (-1)), (7, .putfield 25), (10, .aload_n 0), (11, .getfield 12), (14, .invokevirtual 41), (17, .aload_n 0), (18, .getfield 21), (21, .invokevirtual 44), (24, .aload_n 0), (25, .iconst 0), (26, .putfield 45), (29, .aload_n 0), (30, .getfield 34), (33, .invokevirtual 48), (36, .iconst 0), (37, .istore_n 1), (38, .iload_n 1), (39, .sipush 700), (42, .if_icmp .gt 41), (45, .aload_n 0), (46, .getfield 34), (49, .getfield 51), (52, .ifCond .eq 31), (55, .aload_n 0), (56, .invokevirtual 54), (59, .istore_n 2), (60, .aload_n 0), (61, .iload_n 2), (62, .invokevirtual 58), (65, .ifCond .eq 10), (68, .aload_n 0), (69, .invokevirtual 62), (72, .ifCond .ne 5), (75, .iconst 0), (76, .ireturn), (77, .iinc 1 1), (80, .goto (-42)), (83, .aload_n 0), (84, .getfield 12), (87, .getfield 66), (90, .ifCond .ne 10), (93, .aload_n 0), (94, .getfield 12), (97, .invokevirtual 69), (100, .iconst 1), (101, .ireturn)]
def am_c62 : List (Nat × Instr) := [(0, .iload_n 1), (1, .lookupswitch 37 #[(0, 27), (1, 32)]), (28, .aload_n 0), (29, .invokevirtual 72), (32, .ireturn), (33, .aload_n 0), (34, .invokevirtual 75), (37, .ireturn), (38, .iload_n 1), (39, .iconst 2), (40, .bipush 7), (42, .invokestatic 78), (45, .ifCond .eq 13), (48, .aload_n 0), (49, .iload_n 1), (50, .iconst 2), (51, .isub), (52, .invokevirtual 82), (55, .goto 8), (58, .aload_n 0), (59, .iconst 1), (60, .invokevirtual 85), (63, .ireturn)]
def am_c63_0 : List (Nat × Instr) := [(0, .aload_n 0), (1, .getfield 12), (4, .getfield 88), (7, .bipush 10), (9, .if_icmp .ne 9), (12, .aload_n 0), (13, .iconst 4), (14, .invokevirtual 85), (17, .ireturn), (18, .aload_n 0), (19, .getfield 34), (22, .invokevirtual 91), (25, .aload_n 0), (26, .invokevirtual 94), (29, .ifCond .eq 14), (32, .aload_n 0), (33, .iconst 0), (34, .sipush 199), (37, .invokevirtual 97), (40, .ifCond .ne 5), (43, .iconst 0), (44, .ireturn), (45, .aload_n 0), (46, .getfield 101), (49, .istore_n 1), (50, .aload_n 0), (51, .iconst 0), (52, .sipush 199), (55, .invokevirtual 97), (58, .ifCond .ne 5), (61, .iconst 0), (62, .ireturn), (63, .aload_n 0), (64, .getfield 12), (67, .getfield 104), (70, .aload_n 0), (71, .getfield 12), (74, .getfield 88), (77, .aaload), (78, .astore_n 2)]
def am_c63_1 : List (Nat × Instr) := [(79, .aload_n 2), (80, .iload_n 1), (81, .aload_n 0), (82, .getfield 101), (85, .invokevirtual 108), (88, .aload_n 0), (89, .getfield 12), (92, .dup), (93, .getfield 88), (96, .iconst 1), (97, .iadd), (98, .putfield 88), (101, .aload_n 0), (102, .bipush 8), (104, .iconst 0), (105, .bipush 9), (107, .aload_n 2), (108, .getfield 114), (111, .invokevirtual 117), (114, .ifCond .ne 5), (117, .iconst 0), (118, .ireturn), (119, .aload_n 2), (120, .aload_n 0), (121, .getfield 101), (124, .putfield 114), (127, .aload_n 0), (128, .bipush 9), (130, .iconst 1), (131, .bipush 99), (133, .aload_n 2), (134, .getfield 121), (137, .invokevirtual 117), (140, .ifCond .ne 5), (143, .iconst 0), (144, .ireturn), (145, .aload_n 2), (146, .aload_n 0), (147, .getfield 101), (150, .putfield 121)]
def am_c63_2 : List (Nat × Instr) := [(153, .aload_n 0), (154, .bipush 10), (156, .iconst 1), (157, .sipush 400), (160, .aload_n 2), (161, .getfield 124), (164, .invokevirtual 117), (167, .ifCond .ne 5), (170, .iconst 0), (171, .ireturn), (172, .aload_n 2), (173, .aload_n 0), (174, .getfield 101), (177, .putfield 124), (180, .iconst 1), (181, .ireturn)]
def am_c63 : List (Nat × Instr) := (am_c63_0 ++ (am_c63_1 ++ am_c63_2))
def am_c64_0 : List (Nat × Instr) := [(0, .aload_n 0), (1, .getfield 34), (4, .getfield 51), (7, .iconst 1), (8, .if_icmp .ne 23), (11, .aload_n 0), (12, .getfield 34), (15, .getfield 127), (18, .bipush 6), (20, .if_icmp .gt 11), (23, .aload_n 0), (24, .invokevirtual 54), (27, .iconst (-1)), (28, .if_icmp .eq 9), (31, .aload_n 0), (32, .iconst 1), (33, .invokevirtual 85), (36, .ireturn), (37, .aload_n 0), (38, .getfield 21), (41, .aload_n 0), (42, .getfield 34), (45, .getfield 130), (48, .getfield 134), (51, .aload_n 0), (52, .getfield 34), (55, .getfield 140), (58, .aload_n 0), (59, .getfield 34), (62, .getfield 127), (65, .invokevirtual 143), (68, .iconst (-1)), (69, .if_icmp .eq 9), (72, .aload_n 0), (73, .iconst 3), (74, .invokevirtual 85), (77, .ireturn), (78, .aload_n 0), (79, .getfield 21), (82, .aload_n 0)]
def am_c64_1 : List (Nat × Instr) := [(83, .getfield 34), (86, .getfield 130), (89, .getfield 134), (92, .aload_n 0), (93, .getfield 34), (96, .getfield 140), (99, .aload_n 0), (100, .getfield 34), (103, .getfield 127), (106, .invokevirtual 147), (109, .aload_n 0), (110, .getfield 34), (113, .invokevirtual 91), (116, .iconst 1), (117, .ireturn)]
def am_c64 : List (Nat × Instr) := (am_c64_0 ++ am_c64_1)
def am_c65 : List (Nat × Instr) := [(0, .aload_n 0), (1, .getfield 34), (4, .iload_n 1), (5, .invokestatic 151), (8, .invokevirtual 155), (11, .ifCond .ne 11), (14, .aload_n 0), (15, .iload 4), (17, .putfield 101), (20, .iconst 1), (21, .ireturn), (22, .aload_n 0), (23, .getfield 34), (26, .invokevirtual 91), (29, .aload_n 0), (30, .iload_n 2), (31, .iload_n 3), (32, .invokevirtual 97), (35, .ireturn)]
def am_c66_0 : List (Nat × Instr) := [(0, .aload_n 0), (1, .getfield 12), (4, .getfield 66), (7, .istore_n 1), (8, .iload_n 1), (9, .iconst 4), (10, .if_icmp .ne 9), (13, .aload_n 0), (14, .iconst 4), (15, .invokevirtual 85), (18, .ireturn), (19, .aload_n 0), (20, .getfield 34), (23, .invokevirtual 91), (26, .iload_n 1), (27, .ifCond .ne 7), (30, .iconst 0), (31, .goto 19), (34, .aload_n 0), (35, .getfield 12), (38, .getfield 159), (41, .iload_n 1), (42, .iconst 1), (43, .isub), (44, .aaload), (45, .getfield 163), (48, .iconst 1), (49, .iadd), (50, .istore_n 2), (51, .aload_n 0), (52, .iload_n 2), (53, .iload_n 1), (54, .ifCond .ne 7), (57, .iconst 0), (58, .goto 6), (61, .sipush 300), (64, .invokevirtual 97), (67, .ifCond .ne 5), (70, .iconst 0), (71, .ireturn)]
def am_c66_1 : List (Nat × Instr) := [(72, .aload_n 0), (73, .getfield 101), (76, .istore_n 3), (77, .aload_n 0), (78, .invokevirtual 168), (81, .ifCond .ne 5), (84, .iconst 0), (85, .ireturn), (86, .aload_n 0), (87, .getfield 101), (90, .istore 4), (92, .aload_n 0), (93, .invokevirtual 168), (96, .ifCond .ne 5), (99, .iconst 0), (100, .ireturn), (101, .aload_n 0), (102, .getfield 12), (105, .getfield 159), (108, .iload_n 1), (109, .aaload), (110, .iload_n 3), (111, .iload 4), (113, .aload_n 0), (114, .getfield 101), (117, .invokevirtual 171), (120, .aload_n 0), (121, .getfield 12), (124, .dup), (125, .getfield 66), (128, .iconst 1), (129, .iadd), (130, .putfield 66), (133, .iconst 1), (134, .ireturn)]
def am_c66 : List (Nat × Instr) := (am_c66_0 ++ am_c66_1)
def am_c67 : List (Nat × Instr) := [(0, .aload_n 0), (1, .getfield 34), (4, .getfield 51), (7, .iconst 3), (8, .if_icmp .ne 7), (11, .iconst 1), (12, .goto 4), (15, .iconst 0), (16, .istore_n 1), (17, .iload_n 1), (18, .ifCond .eq 10), (21, .aload_n 0), (22, .getfield 34), (25, .invokevirtual 91), (28, .aload_n 0), (29, .iconst 0), (30, .bipush 9), (32, .invokevirtual 97), (35, .ifCond .ne 5), (38, .iconst 0), (39, .ireturn), (40, .aload_n 0), (41, .iload_n 1), (42, .ifCond .eq 11), (45, .aload_n 0), (46, .getfield 101), (49, .ineg), (50, .goto 7), (53, .aload_n 0), (54, .getfield 101), (57, .putfield 101), (60, .iconst 1), (61, .ireturn)]
def am_c68 : List (Nat × Instr) := [(0, .aload_n 0), (1, .getfield 45), (4, .iconst 1), (5, .iload_n 1), (6, .ishl), (7, .iand), (8, .ifCond .eq 9), (11, .aload_n 0), (12, .iconst 3), (13, .invokevirtual 85), (16, .ireturn), (17, .aload_n 0), (18, .dup), (19, .getfield 45), (22, .iconst 1), (23, .iload_n 1), (24, .ishl), (25, .ior), (26, .putfield 45), (29, .aload_n 0), (30, .getfield 34), (33, .invokevirtual 91), (36, .aload_n 0), (37, .getstatic 175), (40, .iload_n 1), (41, .iaload), (42, .getstatic 179), (45, .iload_n 1), (46, .iaload), (47, .invokevirtual 97), (50, .ifCond .ne 5), (53, .iconst 0), (54, .ireturn), (55, .aload_n 0), (56, .getfield 12), (59, .getfield 182), (62, .iload_n 1), (63, .aload_n 0), (64, .getfield 101), (67, .iastore), (68, .iconst 1), (69, .ireturn)]
def am_c69 : List (Nat × Instr) := [(0, .aload_n 0), (1, .getfield 34), (4, .invokevirtual 185), (7, .ifCond .ne 9), (10, .aload_n 0), (11, .iconst 1), (12, .invokevirtual 85), (15, .ireturn), (16, .aload_n 0), (17, .aload_n 0), (18, .getfield 34), (21, .invokevirtual 188), (24, .putfield 101), (27, .aload_n 0), (28, .getfield 101), (31, .iload_n 1), (32, .iload_n 2), (33, .invokestatic 78), (36, .ifCond .ne 9), (39, .aload_n 0), (40, .iconst 2), (41, .invokevirtual 85), (44, .ireturn), (45, .aload_n 0), (46, .getfield 34), (49, .invokevirtual 91), (52, .iconst 1), (53, .ireturn)]
def am_c70 : List (Nat × Instr) := [(0, .aload_n 0), (1, .getfield 34), (4, .getfield 51), (7, .iconst 4), (8, .if_icmp .eq 9), (11, .aload_n 0), (12, .iconst 1), (13, .invokevirtual 85), (16, .ireturn), (17, .aload_n 0), (18, .getfield 34), (21, .invokevirtual 91), (24, .iconst 1), (25, .ireturn)]
def am_c71 : List (Nat × Instr) := [(0, .aload_n 0), (1, .iload_n 1), (2, .putfield 38), (5, .aload_n 0), (6, .aload_n 0), (7, .getfield 34), (10, .getfield 140), (13, .putfield 25), (16, .iconst 0), (17, .ireturn)]
def am_c72 : List (Nat × Instr) := [(0, .iconst 0), (1, .istore_n 1), (2, .iload_n 1), (3, .bipush 11), (5, .if_icmp .ge 25), (8, .aload_n 0), (9, .getfield 34), (12, .iload_n 1), (13, .invokestatic 151), (16, .invokevirtual 155), (19, .ifCond .eq 5), (22, .iload_n 1), (23, .ireturn), (24, .iinc 1 1), (27, .goto (-25)), (30, .iconst (-1)), (31, .ireturn)]
def am_c73 : List (Nat × Instr) := [(0, .iload_n 0), (1, .tableswitch 85 0 9 #[55, 58, 61, 64, 67, 70, 73, 76, 79, 82]), (56, .ldc 191), (58, .areturn), (59, .ldc 193), (61, .areturn), (62, .ldc 195), (64, .areturn), (65, .ldc 197), (67, .areturn), (68, .ldc 199), (70, .areturn), (71, .ldc 201), (73, .areturn), (74, .ldc 203), (76, .areturn), (77, .ldc 205), (79, .areturn), (80, .ldc 207), (82, .areturn), (83, .ldc 208), (85, .areturn), (86, .ldc 209), (88, .areturn)]
def am_c74 : List (Nat × Instr) := [(0, .aload_n 0), (1, .invokespecial 1), (4, .aload_n 0), (5, .aload_n 1), (6, .putfield 7), (9, .return_)]
def am_c75 : List (Nat × Instr) := [(0, .aload_n 0), (1, .iconst 0), (2, .putfield 13), (5, .aload_n 0), (6, .iconst 0), (7, .putfield 17), (10, .aload_n 0), (11, .invokevirtual 20), (14, .return_)]
def am_c76_0 : List (Nat × Instr) := [(0, .aload_n 0), (1, .dup), (2, .getfield 13), (5, .aload_n 0), (6, .getfield 17), (9, .iadd), (10, .putfield 13), (13, .aload_n 0), (14, .getfield 13), (17, .aload_n 0), (18, .getfield 7), (21, .getfield 23), (24, .if_icmp .ge 35), (27, .aload_n 0), (28, .getfield 7), (31, .getfield 26), (34, .aload_n 0), (35, .getfield 13), (38, .baload), (39, .invokestatic 30), (42, .iconst 5), (43, .if_icmp .ne 16), (46, .aload_n 0), (47, .dup), (48, .getfield 13), (51, .iconst 1), (52, .iadd), (53, .putfield 13), (56, .goto (-43)), (59, .aload_n 0), (60, .getfield 13), (63, .aload_n 0), (64, .getfield 7), (67, .getfield 23), (70, .if_icmp .lt 14), (73, .aload_n 0), (74, .iconst 0), (75, .putfield 34), (78, .aload_n 0), (79, .iconst 0)]
def am_c76_1 : List (Nat × Instr) := [(80, .putfield 17), (83, .return_), (84, .aload_n 0), (85, .aload_n 0), (86, .getfield 7), (89, .getfield 26), (92, .aload_n 0), (93, .getfield 13), (96, .baload), (97, .invokestatic 30), (100, .putfield 34), (103, .aload_n 0), (104, .iconst 1), (105, .putfield 17), (108, .aload_n 0), (109, .getfield 34), (112, .iconst 1), (113, .if_icmp .eq 11), (116, .aload_n 0), (117, .getfield 34), (120, .iconst 2), (121, .if_icmp .ne 7), (124, .iconst 1), (125, .goto 4), (128, .iconst 0), (129, .istore_n 1), (130, .iload_n 1), (131, .ifCond .eq 62), (134, .aload_n 0), (135, .getfield 13), (138, .aload_n 0), (139, .getfield 17), (142, .iadd), (143, .aload_n 0), (144, .getfield 7), (147, .getfield 23), (150, .if_icmp .ge 43), (153, .aload_n 0), (154, .getfield 7), (157, .getfield 26)]
def am_c76_2 : List (Nat × Instr) := [(160, .aload_n 0), (161, .getfield 13), (164, .aload_n 0), (165, .getfield 17), (168, .iadd), (169, .baload), (170, .invokestatic 30), (173, .aload_n 0), (174, .getfield 34), (177, .if_icmp .ne 16), (180, .aload_n 0), (181, .dup), (182, .getfield 17), (185, .iconst 1), (186, .iadd), (187, .putfield 17), (190, .goto (-60)), (193, .return_)]
def am_c76 : List (Nat × Instr) := (am_c76_0 ++ (am_c76_1 ++ am_c76_2))
def am_c77 : List (Nat × Instr) := [(0, .iload_n 0), (1, .bipush 97), (3, .if_icmp .lt 11), (6, .iload_n 0), (7, .bipush 122), (9, .if_icmp .gt 5), (12, .iconst 1), (13, .ireturn), (14, .iload_n 0), (15, .bipush 48), (17, .if_icmp .lt 11), (20, .iload_n 0), (21, .bipush 57), (23, .if_icmp .gt 5), (26, .iconst 2), (27, .ireturn), (28, .iload_n 0), (29, .lookupswitch 51 #[(10, 49), (32, 47), (45, 43), (59, 45)]), (72, .iconst 3), (73, .ireturn), (74, .iconst 4), (75, .ireturn), (76, .iconst 5), (77, .ireturn), (78, .iconst 5), (79, .ireturn), (80, .bipush 6), (82, .ireturn)]
def am_c78 : List (Nat × Instr) := [(0, .aload_n 0), (1, .getfield 34), (4, .iconst 2), (5, .if_icmp .ne 15), (8, .aload_n 0), (9, .getfield 17), (12, .iconst 4), (13, .if_icmp .gt 7), (16, .iconst 1), (17, .goto 4), (20, .iconst 0), (21, .ireturn)]
def am_c79 : List (Nat × Instr) := [(0, .iconst 0), (1, .istore_n 1), (2, .aload_n 0), (3, .getfield 13), (6, .istore_n 2), (7, .iload_n 2), (8, .aload_n 0), (9, .getfield 13), (12, .aload_n 0), (13, .getfield 17), (16, .iadd), (17, .if_icmp .ge 27), (20, .iload_n 1), (21, .bipush 10), (23, .imul), (24, .aload_n 0), (25, .getfield 7), (28, .getfield 26), (31, .iload_n 2), (32, .baload), (33, .bipush 48), (35, .isub), (36, .iadd), (37, .istore_n 1), (38, .iinc 2 1), (41, .goto (-34)), (44, .iload_n 1), (45, .ireturn)]
def am_c80 : List (Nat × Instr) := [(0, .aload_n 0), (1, .getfield 34), (4, .iconst 1), (5, .if_icmp .ne 14), (8, .aload_n 0), (9, .getfield 17), (12, .aload_n 1), (13, .invokevirtual 37), (16, .if_icmp .eq 5), (19, .iconst 0), (20, .ireturn), (21, .iconst 0), (22, .istore_n 2), (23, .iload_n 2), (24, .aload_n 0), (25, .getfield 17), (28, .if_icmp .ge 33), (31, .aload_n 0), (32, .getfield 7), (35, .getfield 26), (38, .aload_n 0), (39, .getfield 13), (42, .iload_n 2), (43, .iadd), (44, .baload), (45, .aload_n 1), (46, .iload_n 2), (47, .invokevirtual 42), (50, .if_icmp .eq 5), (53, .iconst 0), (54, .ireturn), (55, .iinc 2 1), (58, .goto (-35)), (61, .iconst 1), (62, .ireturn)]
def am_c81 : List (Nat × Instr) := [(0, .aload_n 0), (1, .invokespecial 1), (4, .return_)]
def am_c82 : List (Nat × Instr) := [(0, .aload_n 0), (1, .aload_n 1), (2, .getfield 7), (5, .aload_n 1), (6, .getfield 13), (9, .aload_n 1), (10, .getfield 16), (13, .invokevirtual 19), (16, .return_)]
def am_c83 : List (Nat × Instr) := [(0, .aload_n 0), (1, .iload_n 1), (2, .putfield 7), (5, .aload_n 0), (6, .iload_n 2), (7, .putfield 13), (10, .aload_n 0), (11, .iload_n 3), (12, .putfield 16), (15, .return_)]
def am_c84 : List (Nat × Instr) := [(0, .aload_n 0), (1, .getfield 13), (4, .invokestatic 23), (7, .aload_n 0), (8, .getfield 16), (11, .invokestatic 23), (14, .invokestatic 29), (17, .ireturn)]
def am_c86 : List (Nat × Instr) := [(0, .aload_n 0), (1, .invokespecial 1), (4, .aload_n 0), (5, .new 7), (8, .dup), (9, .invokespecial 9), (12, .putfield 10), (15, .aload_n 0), (16, .new 16), (19, .dup), (20, .invokespecial 18), (23, .putfield 19), (26, .aload_n 0), (27, .new 23), (30, .dup), (31, .aload_n 0), (32, .getfield 10), (35, .invokespecial 25), (38, .putfield 28), (41, .aload_n 0), (42, .new 32), (45, .dup), (46, .invokespecial 34), (49, .putfield 35), (52, .aload_n 0), (53, .new 39), (56, .dup), (57, .invokespecial 41), (60, .putfield 42), (63, .aload_n 0), (64, .new 39), (67, .dup), (68, .invokespecial 41), (71, .putfield 46), (74, .aload_n 0), (75, .new 39), (78, .dup), (79, .invokespecial 41), (82, .putfield 49), (85, .aload_n 0), (86, .new 52), (89, .dup), (90, .invokespecial 54), (93, .putfield 55), (96, .aload_n 0), (97, .iconst (-1)), (98, .putfield 59), (101, .return_)]
def am_c87 : List (Nat × Instr) := [(0, .aload_n 0), (1, .getfield 10), (4, .getfield 63), (7, .bipush 20), (9, .iadd), (10, .sipush 700), (13, .if_icmp .le 5), (16, .iconst (-1)), (17, .ireturn), (18, .aload_n 0), (19, .getfield 10), (22, .iload_n 1), (23, .invokevirtual 66), (26, .aload_n 0), (27, .getfield 10), (30, .iload_n 2), (31, .invokevirtual 66), (34, .aload_n 0), (35, .getfield 10), (38, .iload_n 3), (39, .invokevirtual 66), (42, .aload_n 0), (43, .getfield 10), (46, .iload 4), (48, .invokevirtual 66), (51, .aload_n 0), (52, .getfield 10), (55, .iload 5), (57, .invokevirtual 66), (60, .aload_n 0), (61, .getfield 10), (64, .getfield 63), (67, .ireturn)]
def am_c88 : List (Nat × Instr) := [(0, .iload_n 1), (1, .ifCond .lt 14), (4, .iload_n 1), (5, .aload_n 0), (6, .getfield 10), (9, .getfield 63), (12, .if_icmp .le 5), (15, .iconst 0), (16, .ireturn), (17, .aload_n 0), (18, .getfield 10), (21, .iload_n 1), (22, .putfield 63), (25, .iconst 1), (26, .ireturn)]
def am_c89 : List (Nat × Instr) := [(0, .aload_n 0), (1, .getfield 28), (4, .invokevirtual 70), (7, .istore_n 1), (8, .aload_n 0), (9, .getfield 10), (12, .iconst 0), (13, .putfield 63), (16, .aload_n 0), (17, .aload_n 0), (18, .getfield 28), (21, .getfield 74), (24, .putfield 77), (27, .aload_n 0), (28, .aload_n 0), (29, .getfield 28), (32, .getfield 80), (35, .putfield 59), (38, .iload_n 1), (39, .ifCond .ne 5), (42, .iconst (-1)), (43, .ireturn), (44, .aload_n 0), (45, .getfield 42), (48, .aload_n 0), (49, .getfield 28), (52, .getfield 83), (55, .invokevirtual 84), (58, .aload_n 0), (59, .getfield 35), (62, .aload_n 0), (63, .getfield 28), (66, .getfield 88), (69, .invokevirtual 89), (72, .aload_n 0), (73, .getfield 55), (76, .invokevirtual 92), (79, .aload_n 0), (80, .iconst 0), (81, .putfield 95), (84, .aload_n 0), (85, .getfield 42), (88, .getfield 99), (91, .ireturn)]
def am_c92_0 : List (Nat × Instr) := [(0, .iload_n 1), (1, .iconst 3), (2, .if_icmp .lt 20), (5, .iload_n 1), (6, .bipush 7), (8, .if_icmp .gt 14), (11, .aload_n 0), (12, .getfield 42), (15, .iload_n 1), (16, .iconst 3), (17, .isub), (18, .invokevirtual 102), (21, .ireturn), (22, .iload_n 1), (23, .tableswitch 131 0 12 #[65, 73, 81, 131, 131, 131, 131, 131, 89, 97, 105, 114, 123]), (88, .aload_n 0), (89, .getfield 42), (92, .getfield 99), (95, .ireturn), (96, .aload_n 0), (97, .getfield 42), (100, .getfield 106), (103, .ireturn), (104, .aload_n 0), (105, .getfield 42), (108, .getfield 109), (111, .ireturn), (112, .aload_n 0), (113, .getfield 42), (116, .getfield 112), (119, .ireturn), (120, .aload_n 0), (121, .getfield 42), (124, .getfield 115), (127, .ireturn), (128, .aload_n 0), (129, .getfield 42), (132, .iconst 0), (133, .invokevirtual 118), (136, .ireturn)]
def am_c92_1 : List (Nat × Instr) := [(137, .aload_n 0), (138, .getfield 42), (141, .iconst 1), (142, .invokevirtual 118), (145, .ireturn), (146, .aload_n 0), (147, .getfield 55), (150, .getfield 122), (153, .ireturn), (154, .iconst (-1)), (155, .ireturn)]
def am_c92 : List (Nat × Instr) := (am_c92_0 ++ am_c92_1)
def am_c93 : List (Nat × Instr) := [(0, .iload_n 1), (1, .iconst 0), (2, .iconst 5), (3, .invokestatic 125), (6, .ifCond .eq 15), (9, .aload_n 0), (10, .getfield 42), (13, .getfield 129), (16, .iload_n 1), (17, .iaload), (18, .goto 4), (21, .iconst (-1)), (22, .ireturn)]
def am_c95 : List (Nat × Instr) := [(0, .aload_n 0), (1, .iload_n 1), (2, .invokevirtual 141), (5, .iload_n 2), (6, .iconst 0), (7, .bipush 13), (9, .invokestatic 144), (12, .aload_n 0), (13, .getfield 42), (16, .getfield 148), (19, .iload_n 1), (20, .aaload), (21, .iload_n 2), (22, .invokevirtual 152), (25, .ireturn)]
def am_c98 : List (Nat × Instr) := [(0, .aload_n 0), (1, .iload_n 1), (2, .invokevirtual 141), (5, .aload_n 0), (6, .getfield 42), (9, .getfield 148), (12, .iload_n 1), (13, .aaload), (14, .astore_n 2), (15, .aload_n 2), (16, .getfield 170), (19, .ifCond .ne 10), (22, .aload_n 2), (23, .invokevirtual 173), (26, .goto 4), (29, .iconst (-1)), (30, .ireturn)]
def am_c99 : List (Nat × Instr) := [(0, .aload_n 0), (1, .iload_n 1), (2, .invokevirtual 141), (5, .aload_n 0), (6, .getfield 42), (9, .getfield 148), (12, .iload_n 1), (13, .aaload), (14, .astore_n 2), (15, .aload_n 2), (16, .getfield 170), (19, .ifCond .ne 7), (22, .iconst 1), (23, .goto 4), (26, .iconst 0), (27, .invokestatic 177), (30, .aload_n 2), (31, .invokevirtual 181), (34, .ireturn)]
def am_c100 : List (Nat × Instr) := [(0, .aload_n 0), (1, .iload_n 1), (2, .invokevirtual 141), (5, .aload_n 0), (6, .iload_n 2), (7, .invokevirtual 141), (10, .aload_n 0), (11, .getfield 42), (14, .iload_n 1), (15, .iload_n 2), (16, .invokevirtual 184), (19, .ireturn)]
def am_c101_0 : List (Nat × Instr) := [(0, .aload_n 0), (1, .iload_n 1), (2, .invokevirtual 141), (5, .aload_n 0), (6, .iload_n 2), (7, .invokevirtual 141), (10, .iload_n 3), (11, .iconst 0), (12, .iconst 4), (13, .invokestatic 144), (16, .aload_n 0), (17, .getfield 42), (20, .iload_n 1), (21, .iload_n 2), (22, .invokevirtual 184), (25, .ifCond .ne 5), (28, .iconst (-1)), (29, .ireturn), (30, .aload_n 0), (31, .getfield 42), (34, .getfield 188), (37, .astore 4), (39, .iload_n 3), (40, .tableswitch 82 0 3 #[32, 38, 44, 63]), (72, .aload 4), (74, .getfield 192), (77, .ireturn), (78, .aload 4), (80, .getfield 197), (83, .ireturn), (84, .iload_n 1), (85, .iload_n 2), (86, .if_icmp .ge 11), (89, .aload 4), (91, .getfield 200), (94, .goto 8), (97, .aload 4), (99, .getfield 203), (102, .ireturn), (103, .iload_n 1)]
def am_c101_1 : List (Nat × Instr) := [(104, .iload_n 2), (105, .if_icmp .ge 11), (108, .aload 4), (110, .getfield 203), (113, .goto 8), (116, .aload 4), (118, .getfield 200), (121, .ireturn), (122, .aload 4), (124, .invokevirtual 206), (127, .ireturn)]
def am_c101 : List (Nat × Instr) := (am_c101_0 ++ am_c101_1)
def am_c102 : List (Nat × Instr) := [(0, .aload_n 0), (1, .iload_n 1), (2, .invokevirtual 141), (5, .iconst 0), (6, .istore_n 2), (7, .iconst 0), (8, .istore_n 3), (9, .iload_n 3), (10, .aload_n 0), (11, .getfield 42), (14, .getfield 99), (17, .if_icmp .ge 27), (20, .aload_n 0), (21, .getfield 42), (24, .iload_n 1), (25, .iload_n 3), (26, .invokevirtual 209), (29, .ifCond .eq 9), (32, .iload_n 2), (33, .iconst 1), (34, .iload_n 3), (35, .ishl), (36, .ior), (37, .istore_n 2), (38, .iinc 3 1), (41, .goto (-32)), (44, .iload_n 2), (45, .ireturn)]
def am_c103 : List (Nat × Instr) := [(0, .aload_n 0), (1, .iload_n 1), (2, .invokevirtual 141), (5, .iconst 0), (6, .istore_n 2), (7, .iconst 0), (8, .istore_n 3), (9, .iload_n 3), (10, .aload_n 0), (11, .getfield 42), (14, .getfield 99), (17, .if_icmp .ge 36), (20, .aload_n 0), (21, .getfield 42), (24, .iload_n 1), (25, .iload_n 3), (26, .invokevirtual 209), (29, .ifCond .eq 18), (32, .iload_n 2), (33, .aload_n 0), (34, .getfield 42), (37, .getfield 148), (40, .iload_n 3), (41, .aaload), (42, .invokevirtual 212), (45, .iadd), (46, .istore_n 2), (47, .iinc 3 1), (50, .goto (-41)), (53, .iload_n 2), (54, .ireturn)]
def am_c105 : List (Nat × Instr) := [(0, .iconst (-1)), (1, .istore_n 1), (2, .iconst 0), (3, .istore_n 2), (4, .iload_n 2), (5, .aload_n 0), (6, .getfield 42), (9, .getfield 99), (12, .if_icmp .ge 52), (15, .aload_n 0), (16, .getfield 42), (19, .getfield 148), (22, .iload_n 2), (23, .aaload), (24, .astore_n 3), (25, .aload_n 3), (26, .getfield 170), (29, .ifCond .ne 29), (32, .iload_n 1), (33, .iconst (-1)), (34, .if_icmp .eq 22), (37, .aload_n 3), (38, .getfield 229), (41, .aload_n 0), (42, .getfield 42), (45, .getfield 148), (48, .iload_n 1), (49, .aaload), (50, .getfield 229), (53, .if_icmp .le 5), (56, .iload_n 2), (57, .istore_n 1), (58, .iinc 2 1), (61, .goto (-57)), (64, .iload_n 1), (65, .ireturn)]
def am_c109 : List (Nat × Instr) := [(0, .aload_n 0), (1, .iload_n 1), (2, .invokevirtual 141), (5, .aload_n 0), (6, .iload_n 2), (7, .invokevirtual 141), (10, .aload_n 0), (11, .getfield 42), (14, .getfield 148), (17, .iload_n 2), (18, .aaload), (19, .astore_n 3), (20, .sipush 400), (23, .aload_n 0), (24, .getfield 42), (27, .getfield 148), (30, .iload_n 1), (31, .aaload), (32, .aload_n 3), (33, .getfield 239), (36, .aload_n 3), (37, .getfield 240), (40, .aload_n 3), (41, .getfield 229), (44, .invokevirtual 241), (47, .invokestatic 244), (50, .ireturn)]
def am_c112 : List (Nat × Instr) := [(0, .aload_n 0), (1, .iload_n 1), (2, .invokevirtual 141), (5, .iconst (-1)), (6, .istore_n 2), (7, .iconst 0), (8, .istore_n 3), (9, .iconst 0), (10, .istore 4), (12, .iload 4), (14, .aload_n 0), (15, .getfield 42), (18, .getfield 99), (21, .if_icmp .ge 54), (24, .aload_n 0), (25, .getfield 42), (28, .iload_n 1), (29, .iload 4), (31, .invokevirtual 209), (34, .ifCond .eq 35), (37, .aload_n 0), (38, .getfield 42), (41, .getfield 148), (44, .iload 4), (46, .aaload), (47, .invokevirtual 212), (50, .istore 5), (52, .iload_n 2), (53, .iconst (-1)), (54, .if_icmp .eq 9), (57, .iload 5), (59, .iload_n 3), (60, .if_icmp .le 9), (63, .iload 4), (65, .istore_n 2), (66, .iload 5), (68, .istore_n 3), (69, .iinc 4 1), (72, .goto (-60)), (75, .iload_n 2), (76, .ireturn)]
def am_c113 : List (Nat × Instr) := [(0, .iload_n 1), (1, .iconst 0), (2, .bipush 13), (4, .invokestatic 144), (7, .iconst 0), (8, .istore_n 2), (9, .iconst 0), (10, .istore_n 3), (11, .iload_n 3), (12, .aload_n 0), (13, .getfield 42), (16, .getfield 99), (19, .if_icmp .ge 25), (22, .iload_n 2), (23, .aload_n 0), (24, .getfield 42), (27, .getfield 148), (30, .iload_n 3), (31, .aaload), (32, .iload_n 1), (33, .invokevirtual 152), (36, .iadd), (37, .istore_n 2), (38, .iinc 3 1), (41, .goto (-30)), (44, .iload_n 2), (45, .ireturn)]
def am_c115_0 : List (Nat × Instr) := [(0, .iload_n 1), (1, .iconst 0), (2, .sipush 199), (5, .invokestatic 144), (8, .iload_n 2), (9, .iconst 0), (10, .sipush 199), (13, .invokestatic 144), (16, .iload_n 3), (17, .iload_n 1), (18, .sipush 199), (21, .invokestatic 144), (24, .iload 4), (26, .iload_n 2), (27, .sipush 199), (30, .invokestatic 144), (33, .iconst 0), (34, .istore 5), (36, .iconst 0), (37, .istore 6), (39, .iload 6), (41, .aload_n 0), (42, .getfield 42), (45, .getfield 99), (48, .if_icmp .ge 61), (51, .aload_n 0), (52, .getfield 42), (55, .getfield 148), (58, .iload 6), (60, .aaload), (61, .getfield 239), (64, .iload_n 1), (65, .iload_n 3), (66, .invokestatic 125), (69, .ifCond .eq 34), (72, .aload_n 0), (73, .getfield 42), (76, .getfield 148), (79, .iload 6), (81, .aaload)]
def am_c115_1 : List (Nat × Instr) := [(82, .getfield 240), (85, .iload_n 2), (86, .iload 4), (88, .invokestatic 125), (91, .ifCond .eq 12), (94, .iload 5), (96, .iconst 1), (97, .iload 6), (99, .ishl), (100, .ior), (101, .istore 5), (103, .iinc 6 1), (106, .goto (-67)), (109, .iload 5), (111, .ireturn)]
def am_c115 : List (Nat × Instr) := (am_c115_0 ++ am_c115_1)
def am_c119 : List (Nat × Instr) := [(0, .aload_n 0), (1, .iload_n 1), (2, .invokevirtual 141), (5, .iload_n 2), (6, .iconst 0), (7, .bipush 13), (9, .invokestatic 144), (12, .iload_n 3), (13, .iconst 1), (14, .bipush 100), (16, .invokestatic 144), (19, .aload_n 0), (20, .getfield 46), (23, .aload_n 0), (24, .getfield 42), (27, .invokevirtual 84), (30, .aload_n 0), (31, .getfield 46), (34, .iload_n 3), (35, .invokevirtual 267), (38, .aload_n 0), (39, .getfield 46), (42, .getfield 148), (45, .iload_n 1), (46, .aaload), (47, .iload_n 2), (48, .invokevirtual 152), (51, .ireturn)]
def am_c122 : List (Nat × Instr) := [(0, .iload_n 1), (1, .iconst 1), (2, .bipush 100), (4, .invokestatic 144), (7, .aload_n 0), (8, .getfield 46), (11, .aload_n 0), (12, .getfield 42), (15, .invokevirtual 84), (18, .aload_n 0), (19, .getfield 46), (22, .iload_n 1), (23, .invokevirtual 267), (26, .aload_n 0), (27, .getfield 46), (30, .getfield 115), (33, .aload_n 0), (34, .getfield 42), (37, .getfield 115), (40, .isub), (41, .ireturn)]
def am_c123 : List (Nat × Instr) := [(0, .aload_n 0), (1, .iload_n 1), (2, .invokevirtual 141), (5, .iload_n 2), (6, .iconst 1), (7, .bipush 100), (9, .invokestatic 144), (12, .aload_n 0), (13, .getfield 46), (16, .aload_n 0), (17, .getfield 42), (20, .invokevirtual 84), (23, .iconst 0), (24, .istore_n 3), (25, .iload_n 3), (26, .iload_n 2), (27, .if_icmp .gt 44), (30, .aload_n 0), (31, .getfield 46), (34, .getfield 148), (37, .iload_n 1), (38, .aaload), (39, .getfield 170), (42, .istore 4), (44, .iload 4), (46, .ifCond .eq 11), (49, .iload 4), (51, .iconst 2), (52, .if_icmp .eq 5), (55, .iload_n 3), (56, .ireturn), (57, .aload_n 0), (58, .getfield 46), (61, .iconst 1), (62, .invokevirtual 267), (65, .iinc 3 1), (68, .goto (-43)), (71, .iconst (-1)), (72, .ireturn)]
def am_c126 : List (Nat × Instr) := [(0, .aload_n 0), (1, .iload_n 1), (2, .invokevirtual 141), (5, .iload_n 2), (6, .iconst 1), (7, .bipush 50), (9, .invokestatic 144), (12, .aload_n 0), (13, .iload_n 1), (14, .iload_n 2), (15, .iconst 3), (16, .iconst 1), (17, .invokevirtual 276), (20, .ireturn)]
def am_c128 : List (Nat × Instr) := [(0, .iload_n 1), (1, .iconst 1), (2, .sipush 200), (5, .invokestatic 144), (8, .aload_n 0), (9, .getfield 42), (12, .getfield 109), (15, .iload_n 1), (16, .iadd), (17, .sipush 5000), (20, .if_icmp .gt 7), (23, .iconst 1), (24, .goto 4), (27, .iconst 0), (28, .invokestatic 177), (31, .aload_n 0), (32, .getfield 55), (35, .aload_n 0), (36, .getfield 42), (39, .invokevirtual 280), (42, .aload_n 0), (43, .getfield 42), (46, .getfield 115), (49, .istore_n 2), (50, .aload_n 0), (51, .getfield 42), (54, .iload_n 1), (55, .invokevirtual 267), (58, .aload_n 0), (59, .getfield 42), (62, .getfield 115), (65, .iload_n 2), (66, .isub), (67, .ireturn)]
def am_c129 : List (Nat × Instr) := [(0, .aload_n 0), (1, .iload_n 1), (2, .invokevirtual 141), (5, .aload_n 0), (6, .getfield 42), (9, .getfield 148), (12, .iload_n 1), (13, .aaload), (14, .astore_n 2), (15, .aload_n 2), (16, .getfield 170), (19, .iconst 1), (20, .if_icmp .ne 7), (23, .iconst 1), (24, .goto 4), (27, .iconst 0), (28, .invokestatic 177), (31, .aload_n 0), (32, .getfield 55), (35, .aload_n 0), (36, .getfield 42), (39, .invokevirtual 280), (42, .aload_n 2), (43, .iconst 0), (44, .putfield 170), (47, .aload_n 2), (48, .aload_n 2), (49, .getfield 250), (52, .putfield 239), (55, .aload_n 2), (56, .aload_n 2), (57, .getfield 254), (60, .putfield 240), (63, .aload_n 2), (64, .bipush 20), (66, .aload_n 2), (67, .getfield 283), (70, .invokestatic 244), (73, .putfield 229), (76, .aload_n 0), (77, .getfield 42), (80, .iconst 4), (81, .iload_n 1), (82, .iconst (-1)), (83, .invokevirtual 286), (86, .aload_n 2), (87, .getfield 229), (90, .ireturn)]
def am_c130 : List (Nat × Instr) := [(0, .aload_n 0), (1, .iload_n 1), (2, .invokevirtual 141), (5, .iload_n 2), (6, .bipush (-9)), (8, .bipush 9), (10, .invokestatic 144), (13, .aload_n 0), (14, .getfield 55), (17, .aload_n 0), (18, .getfield 42), (21, .invokevirtual 280), (24, .aload_n 0), (25, .getfield 42), (28, .getfield 148), (31, .iload_n 1), (32, .aaload), (33, .getfield 289), (36, .istore_n 3), (37, .aload_n 0), (38, .getfield 42), (41, .getfield 148), (44, .iload_n 1), (45, .aaload), (46, .iload_n 2), (47, .putfield 289), (50, .iload_n 3), (51, .ireturn)]
def am_c131 : List (Nat × Instr) := [(0, .aload_n 0), (1, .iload_n 1), (2, .invokevirtual 141), (5, .aload_n 0), (6, .getfield 42), (9, .getfield 148), (12, .iload_n 1), (13, .aaload), (14, .astore_n 2), (15, .aload_n 2), (16, .getfield 170), (19, .ifCond .ne 7), (22, .iconst 1), (23, .goto 4), (26, .iconst 0), (27, .invokestatic 177), (30, .aload_n 0), (31, .getfield 55), (34, .aload_n 0), (35, .getfield 42), (38, .invokevirtual 280), (41, .aload_n 2), (42, .iconst 2), (43, .putfield 170), (46, .aload_n 2), (47, .getfield 229), (50, .ireturn)]
def am_c132 : List (Nat × Instr) := [(0, .aload_n 0), (1, .iload_n 1), (2, .invokevirtual 141), (5, .iload_n 2), (6, .iconst 1), (7, .sipush 400), (10, .invokestatic 144), (13, .aload_n 0), (14, .getfield 42), (17, .getfield 148), (20, .iload_n 1), (21, .aaload), (22, .astore_n 3), (23, .aload_n 3), (24, .getfield 170), (27, .ifCond .eq 11), (30, .aload_n 3), (31, .getfield 170), (34, .iconst 1), (35, .if_icmp .ne 7), (38, .iconst 1), (39, .goto 4), (42, .iconst 0), (43, .invokestatic 177), (46, .aload_n 0), (47, .getfield 55), (50, .aload_n 0), (51, .getfield 42), (54, .invokevirtual 280), (57, .aload_n 3), (58, .getfield 283), (61, .istore 4), (63, .aload_n 3), (64, .iload_n 2), (65, .putfield 283), (68, .iload 4), (70, .ireturn)]
def am_c133_0 : List (Nat × Instr) := [(0, .aload_n 0), (1, .iload_n 1), (2, .invokevirtual 141), (5, .iload_n 2), (6, .iconst 0), (7, .sipush 199), (10, .invokestatic 144), (13, .iload_n 3), (14, .iconst 0), (15, .sipush 199), (18, .invokestatic 144), (21, .aload_n 0), (22, .getfield 55), (25, .aload_n 0), (26, .getfield 42), (29, .invokevirtual 280), (32, .aload_n 0), (33, .getfield 42), (36, .getfield 148), (39, .iload_n 1), (40, .aaload), (41, .astore 4), (43, .iload_n 2), (44, .aload 4), (46, .getfield 250), (49, .isub), (50, .invokestatic 292), (53, .iload_n 3), (54, .aload 4), (56, .getfield 254), (59, .isub), (60, .invokestatic 292), (63, .iadd), (64, .istore 5), (66, .aload 4), (68, .iload_n 2), (69, .putfield 250), (72, .aload 4), (74, .iload_n 3), (75, .putfield 254)]
def am_c133_1 : List (Nat × Instr) := [(78, .aload 4), (80, .getfield 170), (83, .iconst 1), (84, .if_icmp .ne 15), (87, .aload 4), (89, .iload_n 2), (90, .putfield 239), (93, .aload 4), (95, .iload_n 3), (96, .putfield 240), (99, .iload 5), (101, .ireturn)]
def am_c133 : List (Nat × Instr) := (am_c133_0 ++ am_c133_1)
def am_c135 : List (Nat × Instr) := [(0, .aload_n 0), (1, .iload_n 1), (2, .invokevirtual 157), (5, .iload_n 2), (6, .bipush (-9)), (8, .bipush 9), (10, .invokestatic 144), (13, .iload_n 3), (14, .bipush (-9)), (16, .bipush 9), (18, .invokestatic 144), (21, .aload_n 0), (22, .getfield 55), (25, .aload_n 0), (26, .getfield 42), (29, .invokevirtual 280), (32, .aload_n 0), (33, .getfield 42), (36, .getfield 160), (39, .iload_n 1), (40, .aaload), (41, .invokevirtual 299), (44, .istore 4), (46, .aload_n 0), (47, .getfield 42), (50, .getfield 160), (53, .iload_n 1), (54, .aaload), (55, .iload_n 2), (56, .putfield 253), (59, .aload_n 0), (60, .getfield 42), (63, .getfield 160), (66, .iload_n 1), (67, .aaload), (68, .iload_n 3), (69, .putfield 257), (72, .iload 4), (74, .ireturn)]
def am_c137 : List (Nat × Instr) := [(0, .aload_n 0), (1, .getfield 55), (4, .getfield 122), (7, .ifCond .le 7), (10, .iconst 1), (11, .goto 4), (14, .iconst 0), (15, .invokestatic 177), (18, .aload_n 0), (19, .getfield 55), (22, .aload_n 0), (23, .getfield 42), (26, .invokevirtual 308), (29, .aload_n 0), (30, .getfield 55), (33, .getfield 122), (36, .ireturn)]
def am_c142 : List (Nat × Instr) := [(0, .aload_n 0), (1, .getfield 49), (4, .aload_n 0), (5, .getfield 42), (8, .invokevirtual 84), (11, .aload_n 0), (12, .iconst 1), (13, .putfield 95), (16, .aload_n 0), (17, .getfield 42), (20, .getfield 109), (23, .ireturn)]
def am_c143 : List (Nat × Instr) := [(0, .aload_n 0), (1, .getfield 95), (4, .invokestatic 177), (7, .aload_n 0), (8, .getfield 42), (11, .aload_n 0), (12, .getfield 49), (15, .invokevirtual 84), (18, .aload_n 0), (19, .getfield 55), (22, .invokevirtual 92), (25, .aload_n 0), (26, .getfield 42), (29, .getfield 109), (32, .ireturn)]
def am_c144 : List (Nat × Instr) := [(0, .iload_n 1), (1, .iconst 0), (2, .aload_n 0), (3, .getfield 42), (6, .getfield 99), (9, .iconst 1), (10, .isub), (11, .invokestatic 125), (14, .ifCond .ne 14), (17, .new 215), (20, .dup), (21, .ldc_w 350), (24, .invokespecial 219), (27, .athrow), (28, .return_)]
def am_c145 : List (Nat × Instr) := [(0, .iload_n 1), (1, .iconst 0), (2, .aload_n 0), (3, .getfield 42), (6, .getfield 106), (9, .iconst 1), (10, .isub), (11, .invokestatic 125), (14, .ifCond .ne 14), (17, .new 215), (20, .dup), (21, .ldc_w 352), (24, .invokespecial 219), (27, .athrow), (28, .return_)]
def am_c146 : List (Nat × Instr) := [(0, .iload_n 0), (1, .iload_n 1), (2, .iload_n 2), (3, .invokestatic 125), (6, .ifCond .ne 14), (9, .new 354), (12, .dup), (13, .ldc_w 356), (16, .invokespecial 358), (19, .athrow), (20, .return_)]
def am_c147 : List (Nat × Instr) := [(0, .iload_n 0), (1, .ifCond .ne 14), (4, .new 359), (7, .dup), (8, .ldc_w 361), (11, .invokespecial 363), (14, .athrow), (15, .return_)]
def am_c148_0 : List (Nat × Instr) := [(0, .bipush (-9)), (2, .istore 5), (4, .iconst 0), (5, .istore 6), (7, .bipush (-9)), (9, .istore 7), (11, .iload 7), (13, .bipush 9), (15, .if_icmp .gt 109), (18, .aload_n 0), (19, .getfield 46), (22, .aload_n 0), (23, .getfield 42), (26, .invokevirtual 84), (29, .aload_n 0), (30, .getfield 46), (33, .getfield 148), (36, .iload_n 1), (37, .aaload), (38, .iload 7), (40, .putfield 289), (43, .iconst 0), (44, .istore 8), (46, .iload 8), (48, .iload_n 2), (49, .if_icmp .ge 29), (52, .aload_n 0), (53, .getfield 46), (56, .getfield 109), (59, .sipush 5000), (62, .if_icmp .ge 16), (65, .aload_n 0), (66, .getfield 46), (69, .invokevirtual 270), (72, .iinc 8 1), (75, .goto (-29)), (78, .iload 4), (80, .aload_n 0), (81, .getfield 46), (84, .getfield 148)]
def am_c148_1 : List (Nat × Instr) := [(87, .iload_n 1), (88, .aaload), (89, .iload_n 3), (90, .invokevirtual 152), (93, .imul), (94, .istore 8), (96, .iload 7), (98, .bipush (-9)), (100, .if_icmp .eq 10), (103, .iload 8), (105, .iload 6), (107, .if_icmp .le 11), (110, .iload 7), (112, .istore 5), (114, .iload 8), (116, .istore 6), (118, .iinc 7 1), (121, .goto (-110)), (124, .iload 5), (126, .ireturn)]
def am_c148 : List (Nat × Instr) := (am_c148_0 ++ am_c148_1)
def am_c151 : List (Nat × Instr) := [(0, .iload_n 0), (1, .iload_n 1), (2, .if_icmp .lt 12), (5, .iload_n 0), (6, .iload_n 2), (7, .if_icmp .gt 7), (10, .iconst 1), (11, .goto 4), (14, .iconst 0), (15, .ireturn)]
def am_c152 : List (Nat × Instr) := [(0, .iload_n 1), (1, .iload_n 2), (2, .iload_n 0), (3, .invokestatic 244), (6, .invokestatic 258), (9, .ireturn)]
def am_c313 : List (Nat × Instr) := [(0, .iload_n 0), (1, .iload_n 1), (2, .idiv), (3, .istore_n 2), (4, .iload_n 0), (5, .iload_n 1), (6, .ixor), (7, .ifCond .ge 14), (10, .iload_n 2), (11, .iload_n 1), (12, .imul), (13, .iload_n 0), (14, .if_icmp .eq 7), (17, .iload_n 2), (18, .iconst 1), (19, .isub), (20, .ireturn), (21, .iload_n 2), (22, .ireturn)]
def am_c314 : List (Nat × Instr) := [(0, .iload_n 0), (1, .ifCond .ge 8), (4, .iload_n 0), (5, .ineg), (6, .goto 4), (9, .iload_n 0), (10, .ireturn)]
def am_c315 : List (Nat × Instr) := [(0, .iload_n 0), (1, .iload_n 1), (2, .if_icmp .lt 7), (5, .iload_n 0), (6, .goto 4), (9, .iload_n 1), (10, .ireturn)]
def am_c316 : List (Nat × Instr) := [(0, .iload_n 0), (1, .iload_n 1), (2, .if_icmp .gt 7), (5, .iload_n 0), (6, .goto 4), (9, .iload_n 1), (10, .ireturn)]
def am_c317 : List (Nat × Instr) := [(0, .aload_n 0), (1, .getfield 9), (4, .arraylength), (5, .aload_n 0), (6, .invokevirtual 335), (9, .ishr), (10, .ireturn)]
def am_c318 : List (Nat × Instr) := [(0, .aload_n 0), (1, .invokevirtual 492), (4, .ifCond .eq 12), (7, .aload_n 0), (8, .getfield 9), (11, .iload_n 1), (12, .invokestatic 495), (15, .ireturn), (16, .aload_n 0), (17, .getfield 9), (20, .iload_n 1), (21, .invokestatic 498), (24, .ireturn)]
def am_c319 : List (Nat × Instr) := [(0, .getstatic 38), (3, .ifCond .eq 10), (6, .aload_n 0), (7, .getfield 15), (10, .goto 4), (13, .iconst 1), (14, .ireturn)]
def am_c320 : List (Nat × Instr) := [(0, .getstatic 38), (3, .ifCond .eq 14), (6, .aload_n 0), (7, .getfield 15), (10, .ifCond .ne 7), (13, .iconst 1), (14, .goto 4), (17, .iconst 0), (18, .ireturn)]
def am_c321 : List (Nat × Instr) := [(0, .iload_n 0), (1, .iload_n 1), (2, .getstatic 1053), (5, .invokestatic 1059), (8, .pop), (9, .return_)]
def am_c322 : List (Nat × Instr) := [(0, .iload_n 1), (1, .aload_n 0), (2, .arraylength), (3, .invokestatic 9), (6, .aload_n 0), (7, .iload_n 1), (8, .baload), (9, .sipush 255), (12, .iand), (13, .i2c), (14, .ireturn)]
def am_c323 : List (Nat × Instr) := [(0, .iload_n 0), (1, .ifCond .lt 8), (4, .iload_n 0), (5, .iload_n 1), (6, .if_icmp .lt 10), (9, .aload_n 2), (10, .iload_n 0), (11, .iload_n 1), (12, .invokestatic 95), (15, .athrow), (16, .iload_n 0), (17, .ireturn)]
def am_c324 : List (Nat × Instr) := [(0, .iload_n 0), (1, .sipush 255), (4, .if_icmp .gt 7), (7, .iconst 1), (8, .goto 4), (11, .iconst 0), (12, .ireturn)]
def am_c325 : List (Nat × Instr) := [(0, .iload_n 0), (1, .iload_n 1), (2, .iload_n 2), (3, .invokestatic 194), (6, .iadd), (7, .istore_n 3), (8, .iconst 0), (9, .iload_n 3), (10, .if_icmp .ge 11), (13, .iload_n 3), (14, .ldc 200), (16, .if_icmp .gt 5), (19, .iload_n 3), (20, .ireturn), (21, .iload_n 0), (22, .iload_n 1), (23, .invokestatic 201), (26, .ireturn)]
def am_c326 : List (Nat × Instr) := [(0, .iload_n 1), (1, .aload_n 0), (2, .arraylength), (3, .if_icmp .ne 11), (6, .aload_n 0), (7, .invokevirtual 310), (10, .checkcast 311), (13, .areturn), (14, .iload_n 1), (15, .newarray .byte), (17, .astore_n 2), (18, .aload_n 0), (19, .iconst 0), (20, .aload_n 2), (21, .iconst 0), (22, .aload_n 0), (23, .arraylength), (24, .iload_n 1), (25, .invokestatic 304), (28, .invokestatic 150), (31, .aload_n 2), (32, .areturn)]
def am_c327 : List (Nat × Instr) := [(0, .iload_n 1), (1, .iload_n 0), (2, .if_icmp .ge 35), (5, .new 43), (8, .dup), (9, .new 45), (12, .dup), (13, .invokespecial 47), (16, .iload_n 0), (17, .invokevirtual 54), (20, .ldc_w 337), (23, .invokevirtual 50), (26, .iload_n 1), (27, .invokevirtual 54), (30, .invokevirtual 61), (33, .invokespecial 65), (36, .athrow), (37, .return_)]
def am_c328 : List (Nat × Instr) := [(0, .iload_n 1), (1, .iload_n 2), (2, .invokestatic 343), (5, .iload_n 2), (6, .iload_n 1), (7, .isub), (8, .istore_n 3), (9, .iload_n 3), (10, .newarray .byte), (12, .astore 4), (14, .aload_n 0), (15, .iload_n 1), (16, .aload 4), (18, .iconst 0), (19, .aload_n 0), (20, .arraylength), (21, .iload_n 1), (22, .isub), (23, .iload_n 3), (24, .invokestatic 304), (27, .invokestatic 150), (30, .aload 4), (32, .areturn)]
def am_c329 : List (Nat × Instr) := [(0, .iload_n 1), (1, .ifCond .ne 9), (4, .iload_n 2), (5, .aload_n 0), (6, .arraylength), (7, .if_icmp .eq 10), (10, .aload_n 0), (11, .iload_n 1), (12, .iload_n 2), (13, .invokestatic 339), (16, .areturn), (17, .aload_n 0), (18, .invokevirtual 310), (21, .checkcast 311), (24, .areturn)]
def am_c330 : List (Nat × Instr) := [(0, .iconst 1), (1, .istore_n 1), (2, .iload_n 0), (3, .ifCond .lt 8), (6, .iconst 0), (7, .istore_n 1), (8, .iload_n 0), (9, .ineg), (10, .istore_n 0), (11, .bipush (-10)), (13, .istore_n 2), (14, .iconst 1), (15, .istore_n 3), (16, .iload_n 3), (17, .bipush 10), (19, .if_icmp .ge 23), (22, .iload_n 0), (23, .iload_n 2), (24, .if_icmp .le 7), (27, .iload_n 3), (28, .iload_n 1), (29, .iadd), (30, .ireturn), (31, .bipush 10), (33, .iload_n 2), (34, .imul), (35, .istore_n 2), (36, .iinc 3 1), (39, .goto (-23)), (42, .bipush 10), (44, .iload_n 1), (45, .iadd), (46, .ireturn)]
def am_c331_0 : List (Nat × Instr) := [(0, .iload_n 1), (1, .istore 5), (3, .iload_n 0), (4, .ifCond .ge 7), (7, .iconst 1), (8, .goto 4), (11, .iconst 0), (12, .istore 6), (14, .iload 6), (16, .ifCond .ne 6), (19, .iload_n 0), (20, .ineg), (21, .istore_n 0), (22, .iload_n 0), (23, .bipush (-100)), (25, .if_icmp .gt 47), (28, .iload_n 0), (29, .bipush 100), (31, .idiv), (32, .istore_n 3), (33, .iload_n 3), (34, .bipush 100), (36, .imul), (37, .iload_n 0), (38, .isub), (39, .istore 4), (41, .iload_n 3), (42, .istore_n 0), (43, .aload_n 2), (44, .iinc 5 (-1)), (47, .iload 5), (49, .getstatic 83), (52, .iload 4), (54, .baload), (55, .bastore), (56, .aload_n 2), (57, .iinc 5 (-1)), (60, .iload 5), (62, .getstatic 87), (65, .iload 4)]
def am_c331_1 : List (Nat × Instr) := [(67, .baload), (68, .bastore), (69, .goto (-47)), (72, .aload_n 2), (73, .iinc 5 (-1)), (76, .iload 5), (78, .getstatic 83), (81, .iload_n 0), (82, .ineg), (83, .baload), (84, .bastore), (85, .iload_n 0), (86, .bipush (-9)), (88, .if_icmp .ge 16), (91, .aload_n 2), (92, .iinc 5 (-1)), (95, .iload 5), (97, .getstatic 87), (100, .iload_n 0), (101, .ineg), (102, .baload), (103, .bastore), (104, .iload 6), (106, .ifCond .eq 12), (109, .aload_n 2), (110, .iinc 5 (-1)), (113, .iload 5), (115, .bipush 45), (117, .bastore), (118, .iload 5), (120, .ireturn)]
def am_c331 : List (Nat × Instr) := (am_c331_0 ++ am_c331_1)
def am_c332 : List (Nat × Instr) := [(0, .getstatic 18), (3, .ifCond .eq 14), (6, .aload_n 0), (7, .getfield 22), (10, .ifCond .ne 7), (13, .iconst 1), (14, .goto 4), (17, .iconst 0), (18, .ireturn)]
def am_c333 : List (Nat × Instr) := [(0, .aload_n 0), (1, .getfield 15), (4, .areturn)]
def am_c334 : List (Nat × Instr) := [(0, .aload_n 0), (1, .getfield 79), (4, .ireturn)]
def am_c335 : List (Nat × Instr) := [(0, .aload_n 0), (1, .getfield 15), (4, .arraylength), (5, .istore_n 2), (6, .iload_n 1), (7, .aload_n 0), (8, .getfield 22), (11, .ishl), (12, .istore_n 3), (13, .iload_n 3), (14, .iload_n 2), (15, .isub), (16, .istore 4), (18, .iload_n 2), (19, .iload 4), (21, .iload_n 2), (22, .iconst 2), (23, .aload_n 0), (24, .getfield 22), (27, .ishl), (28, .iadd), (29, .invokestatic 114), (32, .istore 5), (34, .iload 5), (36, .ldc 39), (38, .if_icmp .ne 13), (41, .new 120), (44, .dup), (45, .ldc 122), (47, .invokespecial 124), (50, .athrow), (51, .iload 5), (53, .aload_n 0), (54, .getfield 22), (57, .ishr), (58, .ireturn)]
def am_c336 : List (Nat × Instr) := [(0, .aload_n 0), (1, .getfield 15), (4, .arraylength), (5, .aload_n 0), (6, .getfield 22), (9, .ishr), (10, .istore_n 2), (11, .iload_n 1), (12, .iload_n 2), (13, .isub), (14, .ifCond .le 24), (17, .aload_n 0), (18, .aload_n 0), (19, .getfield 15), (22, .aload_n 0), (23, .iload_n 1), (24, .invokevirtual 104), (27, .aload_n 0), (28, .getfield 22), (31, .ishl), (32, .invokestatic 108), (35, .putfield 15), (38, .return_)]
def am_c337 : List (Nat × Instr) := [(0, .aload_n 0), (1, .invokevirtual 335), (4, .iload_n 3), (5, .if_icmp .ne 23), (8, .aload_n 0), (9, .getfield 9), (12, .iconst 0), (13, .aload_n 1), (14, .iload_n 2), (15, .iload_n 3), (16, .ishl), (17, .aload_n 0), (18, .getfield 9), (21, .arraylength), (22, .invokestatic 212), (25, .goto 18), (28, .aload_n 0), (29, .getfield 9), (32, .iconst 0), (33, .aload_n 1), (34, .iload_n 2), (35, .aload_n 0), (36, .getfield 9), (39, .arraylength), (40, .invokestatic 106), (43, .return_)]
def am_c338 : List (Nat × Instr) := [(0, .getstatic 18), (3, .ifCond .eq 18), (6, .aload_n 0), (7, .getfield 22), (10, .aload_n 1), (11, .invokevirtual 40), (14, .if_icmp .eq 7), (17, .aload_n 0), (18, .invokevirtual 195), (21, .return_)]
def am_c339 : List (Nat × Instr) := [(0, .aload_n 0), (1, .aload_n 2), (2, .invokevirtual 397), (5, .aload_n 2), (6, .aload_n 0), (7, .getfield 15), (10, .iload_n 1), (11, .aload_n 0), (12, .getfield 22), (15, .invokevirtual 399), (18, .return_)]
def am_c340 : List (Nat × Instr) := [(0, .aload_n 1), (1, .ifnonnull 8), (4, .aload_n 0), (5, .invokevirtual 204), (8, .areturn), (9, .aload_n 1), (10, .invokevirtual 32), (13, .istore_n 2), (14, .aload_n 0), (15, .aload_n 0), (16, .getfield 79), (19, .iload_n 2), (20, .iadd), (21, .invokevirtual 100), (24, .aload_n 0), (25, .aload_n 0), (26, .getfield 79), (29, .aload_n 1), (30, .invokevirtual 208), (33, .aload_n 0), (34, .dup), (35, .getfield 79), (38, .iload_n 2), (39, .iadd), (40, .putfield 79), (43, .aload_n 0), (44, .areturn)]
def am_c341 : List (Nat × Instr) := [(0, .aload_n 0), (1, .aload_n 0), (2, .getfield 79), (5, .iconst 1), (6, .iadd), (7, .invokevirtual 100), (10, .aload_n 0), (11, .invokevirtual 83), (14, .ifCond .eq 31), (17, .iload_n 1), (18, .invokestatic 191), (21, .ifCond .eq 24), (24, .aload_n 0), (25, .getfield 15), (28, .aload_n 0), (29, .dup), (30, .getfield 79), (33, .dup_x1), (34, .iconst 1), (35, .iadd), (36, .putfield 79), (39, .iload_n 1), (40, .i2b), (41, .bastore), (42, .goto 33), (45, .aload_n 0), (46, .invokevirtual 83), (49, .ifCond .eq 7), (52, .aload_n 0), (53, .invokevirtual 195), (56, .aload_n 0), (57, .getfield 15), (60, .aload_n 0), (61, .dup), (62, .getfield 79), (65, .dup_x1), (66, .iconst 1), (67, .iadd), (68, .putfield 79), (71, .iload_n 1), (72, .invokestatic 197), (75, .aload_n 0), (76, .areturn)]
def am_c342 : List (Nat × Instr) := [(0, .aload_n 0), (1, .getfield 79), (4, .istore_n 2), (5, .iload_n 2), (6, .iload_n 1), (7, .invokestatic 245), (10, .iadd), (11, .istore_n 3), (12, .aload_n 0), (13, .iload_n 3), (14, .invokevirtual 100), (17, .aload_n 0), (18, .invokevirtual 83), (21, .ifCond .eq 16), (24, .iload_n 1), (25, .iload_n 3), (26, .aload_n 0), (27, .getfield 15), (30, .invokestatic 248), (33, .pop), (34, .goto 14), (37, .iload_n 1), (38, .iload_n 2), (39, .iload_n 3), (40, .aload_n 0), (41, .getfield 15), (44, .invokestatic 251), (47, .pop), (48, .aload_n 0), (49, .iload_n 3), (50, .putfield 79), (53, .aload_n 0), (54, .areturn)]
def am_c343 : List (Nat × Instr) := [(0, .aload_n 0), (1, .aload_n 1), (2, .invokespecial 29), (5, .pop), (6, .aload_n 0), (7, .areturn)]
def am_c344 : List (Nat × Instr) := [(0, .aload_n 0), (1, .iload_n 1), (2, .invokespecial 50), (5, .pop), (6, .aload_n 0), (7, .areturn)]
def am_c345 : List (Nat × Instr) := [(0, .aload_n 0), (1, .iload_n 1), (2, .invokespecial 53), (5, .pop), (6, .aload_n 0), (7, .areturn)]
def am_c346 : List (Nat × Instr) := [(0, .aload_n 0), (1, .aload_n 1), (2, .invokevirtual 23), (5, .areturn)]
def am_c347 : List (Nat × Instr) := [(0, .aload_n 0), (1, .invokespecial 343), (4, .ireturn)]
def am_c348 : List (Nat × Instr) := [(0, .aload_n 0), (1, .invokespecial 3), (4, .aload_n 1), (5, .invokevirtual 32), (8, .istore_n 2), (9, .iload_n 2), (10, .ldc 38), (12, .if_icmp .ge 10), (15, .iload_n 2), (16, .bipush 16), (18, .iadd), (19, .goto 5), (22, .ldc 39), (24, .istore_n 3), (25, .aload_n 1), (26, .invokevirtual 40), (29, .istore 4), (31, .aload_n 0), (32, .iload 4), (34, .putfield 22), (37, .aload_n 0), (38, .iload 4), (40, .ifCond .ne 9), (43, .iload_n 3), (44, .newarray .byte), (46, .goto 7), (49, .iload_n 3), (50, .invokestatic 26), (53, .putfield 15), (56, .aload_n 0), (57, .aload_n 1), (58, .invokevirtual 43), (61, .pop), (62, .return_)]
def am_c349 : List (Nat × Instr) := [(0, .aload_n 0), (1, .aload_n 1), (2, .invokespecial 7), (5, .return_)]
def am_c350_0 : List (Nat × Instr) := [(0, .aload_n 0), (1, .invokespecial 1), (4, .aload_n 1), (5, .invokevirtual 552), (8, .astore_n 3), (9, .aload_n 1), (10, .invokevirtual 549), (13, .istore 4), (15, .aload_n 1), (16, .invokevirtual 1047), (19, .ifCond .eq 22), (22, .aload_n 0), (23, .iconst 0), (24, .putfield 15), (27, .aload_n 0), (28, .aload_n 3), (29, .iconst 0), (30, .iload 4), (32, .invokestatic 54), (35, .putfield 9), (38, .goto 59), (41, .getstatic 38), (44, .ifCond .eq 35), (47, .aload_n 1), (48, .getfield 1048), (51, .ifCond .eq 28), (54, .aload_n 0), (55, .aload_n 3), (56, .iconst 0), (57, .iload 4), (59, .invokestatic 1051), (62, .putfield 9), (65, .aload_n 0), (66, .aload_n 0), (67, .getfield 9), (70, .iload 4), (72, .invokestatic 47), (75, .putfield 15), (78, .return_), (79, .aload_n 0)]
def am_c350_1 : List (Nat × Instr) := [(80, .iconst 1), (81, .putfield 15), (84, .aload_n 0), (85, .aload_n 3), (86, .iconst 0), (87, .iload 4), (89, .iconst 1), (90, .ishl), (91, .invokestatic 54), (94, .putfield 9), (97, .return_)]
def am_c350 : List (Nat × Instr) := (am_c350_0 ++ am_c350_1)
def am_c351 : List (Nat × Instr) := [(0, .aload_n 0), (1, .aload_n 1), (2, .aconst_null), (3, .invokespecial 489), (6, .return_)]
def am_c352 : List (Nat × Instr) := [(0, .new 18), (3, .dup), (4, .aload_n 0), (5, .invokespecial 137), (8, .areturn)]
def am_c357 : List (Nat × Instr) := [(0, .iload_n 1), (1, .aload_n 0), (2, .arraylength), (3, .if_icmp .ge 9), (6, .aload_n 0), (7, .iload_n 1), (8, .iaload), (9, .goto 11), (12, .sipush 8191), (15, .iload_n 1), (16, .imul), (17, .ldc 7), (19, .iadd), (20, .ireturn)]
def am_c358 : List (Nat × Instr) := [(0, .iload_n 2), (1, .aload_n 0), (2, .iload_n 1), (3, .invokestatic 8), (6, .ldc 14), (8, .iand), (9, .iload_n 3), (10, .iload_n 2), (11, .isub), (12, .iconst 1), (13, .iadd), (14, .irem), (15, .iadd), (16, .ireturn)]
def am_c359_0 : List (Nat × Instr) := [(0, .iconst 0), (1, .istore_n 2), (2, .iload_n 2), (3, .aload_n 1), (4, .invokevirtual 15), (7, .if_icmp .ge 93), (10, .iconst 5), (11, .newarray .int), (13, .astore_n 3), (14, .iconst 0), (15, .istore 4), (17, .iload 4), (19, .bipush 20), (21, .if_icmp .ge 53), (24, .aload_n 3), (25, .iload 4), (27, .iconst 4), (28, .idiv), (29, .dup2), (30, .iaload), (31, .iload_n 2), (32, .iload 4), (34, .iadd), (35, .aload_n 1), (36, .invokevirtual 15), (39, .if_icmp .ge 14), (42, .aload_n 1), (43, .iload_n 2), (44, .iload 4), (46, .iadd), (47, .invokevirtual 21), (50, .goto 5), (53, .bipush 32), (55, .bipush 24), (57, .bipush 8), (59, .iload 4), (61, .iconst 4), (62, .irem), (63, .imul), (64, .isub)]
def am_c359_1 : List (Nat × Instr) := [(65, .ishl), (66, .ior), (67, .iastore), (68, .iinc 4 1), (71, .goto (-54)), (74, .aload_n 0), (75, .aload_n 3), (76, .iconst 0), (77, .iaload), (78, .aload_n 3), (79, .iconst 1), (80, .iaload), (81, .aload_n 3), (82, .iconst 2), (83, .iaload), (84, .aload_n 3), (85, .iconst 3), (86, .iaload), (87, .aload_n 3), (88, .iconst 4), (89, .iaload), (90, .invokevirtual 25), (93, .pop), (94, .iinc 2 20), (97, .goto (-95)), (100, .aload_n 0), (101, .aload_n 1), (102, .invokevirtual 15), (105, .invokevirtual 31), (108, .pop), (109, .return_)]
def am_c359 : List (Nat × Instr) := (am_c359_0 ++ am_c359_1)
def am_c360 : List (Nat × Instr) := [(0, .aload_n 0), (1, .aload_n 1), (2, .invokestatic 35), (5, .aload_n 0), (6, .invokevirtual 39), (9, .ireturn)]
def am_c361_0 : List (Nat × Instr) := [(0, .new 42), (3, .dup), (4, .ldc 44), (6, .invokespecial 46), (9, .astore_n 2), (10, .aload_n 2), (11, .aload_n 0), (12, .iconst 1), (13, .iconst 0), (14, .bipush 50), (16, .invokestatic 49), (19, .invokevirtual 53), (22, .ldc 57), (24, .invokevirtual 59), (27, .aload_n 0), (28, .iconst 2), (29, .iconst 0), (30, .bipush 50), (32, .invokestatic 49), (35, .invokevirtual 53), (38, .ldc 62), (40, .invokevirtual 59), (43, .aload_n 0), (44, .iconst 3), (45, .iconst 0), (46, .bipush 20), (48, .invokestatic 49), (51, .invokevirtual 53), (54, .bipush 59), (56, .invokevirtual 64), (59, .pop), (60, .iconst 0), (61, .istore_n 3), (62, .iload_n 3), (63, .iload_n 1), (64, .if_icmp .ge 126), (67, .aload_n 2), (68, .ldc 67), (70, .invokevirtual 59), (73, .bipush 97)]
def am_c361_1 : List (Nat × Instr) := [(75, .iload_n 3), (76, .iadd), (77, .i2c), (78, .invokevirtual 64), (81, .bipush 32), (83, .invokevirtual 64), (86, .aload_n 0), (87, .bipush 10), (89, .iload_n 3), (90, .iadd), (91, .bipush 60), (93, .bipush 110), (95, .invokestatic 49), (98, .invokevirtual 53), (101, .bipush 32), (103, .invokevirtual 64), (106, .aload_n 0), (107, .bipush 20), (109, .iload_n 3), (110, .iadd), (111, .bipush 60), (113, .bipush 110), (115, .invokestatic 49), (118, .invokevirtual 53), (121, .ldc 69), (123, .invokevirtual 59), (126, .aload_n 0), (127, .bipush 30), (129, .iload_n 3), (130, .iadd), (131, .iconst 0), (132, .bipush 9), (134, .invokestatic 49), (137, .invokevirtual 53), (140, .ldc 71), (142, .invokevirtual 59), (145, .aload_n 0), (146, .bipush 40), (148, .iload_n 3), (149, .iadd)]
def am_c361_2 : List (Nat × Instr) := [(150, .iconst 1), (151, .bipush 40), (153, .invokestatic 49), (156, .invokevirtual 53), (159, .ldc 73), (161, .invokevirtual 59), (164, .aload_n 0), (165, .bipush 50), (167, .iload_n 3), (168, .iadd), (169, .iconst 1), (170, .bipush 60), (172, .invokestatic 49), (175, .invokevirtual 53), (178, .bipush 59), (180, .invokevirtual 64), (183, .pop), (184, .iinc 3 1), (187, .goto (-125)), (190, .iconst 0), (191, .istore_n 3), (192, .iconst 0), (193, .istore 4), (195, .iload 4), (197, .aload_n 0), (198, .iconst 4), (199, .iconst 1), (200, .iconst 4), (201, .invokestatic 49), (204, .if_icmp .ge 102), (207, .aload_n 2), (208, .ldc 75), (210, .invokevirtual 59), (213, .iload_n 3), (214, .invokevirtual 53), (217, .pop), (218, .iconst 0), (219, .istore 5), (221, .iload 5), (223, .iconst 2)]
def am_c361_3 : List (Nat × Instr) := [(224, .if_icmp .ge 54), (227, .aload_n 0), (228, .bipush 60), (230, .iconst 2), (231, .iload 4), (233, .imul), (234, .iadd), (235, .iload 5), (237, .iadd), (238, .bipush (-9)), (240, .bipush 9), (242, .invokestatic 49), (245, .istore 6), (247, .aload_n 2), (248, .iload 6), (250, .ifCond .ge 8), (253, .ldc 77), (255, .goto 5), (258, .ldc 79), (260, .invokevirtual 59), (263, .iload 6), (265, .invokestatic 81), (268, .invokevirtual 53), (271, .pop), (272, .iinc 5 1), (275, .goto (-54)), (278, .aload_n 2), (279, .bipush 59), (281, .invokevirtual 64), (284, .pop), (285, .iload_n 3), (286, .aload_n 0), (287, .bipush 68), (289, .iload 4), (291, .iadd), (292, .iconst 1), (293, .bipush 30), (295, .invokestatic 49), (298, .iadd), (299, .istore_n 3)]
def am_c361_4 : List (Nat × Instr) := [(300, .iinc 4 1), (303, .goto (-108)), (306, .aload_n 2), (307, .invokevirtual 87), (310, .areturn)]
def am_c361 : List (Nat × Instr) := (am_c361_0 ++ (am_c361_1 ++ (am_c361_2 ++ (am_c361_3 ++ am_c361_4))))
def am_c362_0 : List (Nat × Instr) := [(0, .aload_n 0), (1, .iconst 0), (2, .invokevirtual 91), (5, .istore_n 2), (6, .iconst 0), (7, .istore_n 3), (8, .iconst 0), (9, .istore 4), (11, .iconst 0), (12, .istore 5), (14, .iconst 3), (15, .istore 6), (17, .iload 6), (19, .bipush 8), (21, .if_icmp .ge 20), (24, .iload 5), (26, .aload_n 0), (27, .iload 6), (29, .invokevirtual 91), (32, .iadd), (33, .istore 5), (35, .iinc 6 1), (38, .goto (-21)), (41, .iconst 0), (42, .istore 6), (44, .iload 6), (46, .iload_n 2), (47, .if_icmp .ge 540), (50, .iconst 0), (51, .istore 7), (53, .iconst 0), (54, .istore 8), (56, .iload 8), (58, .iload_n 2), (59, .if_icmp .ge 352), (62, .aload_n 0), (63, .iload 6), (65, .iload 8), (67, .invokevirtual 94), (70, .istore 9)]
def am_c362_1 : List (Nat × Instr) := [(72, .aload_n 0), (73, .iload 6), (75, .invokevirtual 98), (78, .iload 8), (80, .ishr), (81, .iconst 1), (82, .iand), (83, .iconst 1), (84, .if_icmp .ne 7), (87, .iconst 1), (88, .goto 4), (91, .iconst 0), (92, .istore 10), (94, .iload 9), (96, .aload_n 0), (97, .iload 8), (99, .iload 6), (101, .invokevirtual 94), (104, .if_icmp .ne 111), (107, .iload 10), (109, .ifCond .eq 8), (112, .iload 9), (114, .ifCond .eq 101), (117, .iload 10), (119, .aload_n 0), (120, .iload 8), (122, .invokevirtual 98), (125, .iload 6), (127, .ishr), (128, .iconst 1), (129, .iand), (130, .iconst 1), (131, .if_icmp .ne 7), (134, .iconst 1), (135, .goto 4), (138, .iconst 0), (139, .if_icmp .ne 76), (142, .iload 9), (144, .ifCond .eq 30), (147, .iload 6)]
def am_c362_2 : List (Nat × Instr) := [(149, .iload 8), (151, .if_icmp .eq 64), (154, .aload_n 0), (155, .iload 6), (157, .iconst 0), (158, .invokevirtual 101), (161, .ifCond .ne 54), (164, .aload_n 0), (165, .iload 8), (167, .iconst 0), (168, .invokevirtual 101), (171, .ifCond .ne 44), (174, .iload 9), (176, .aload_n 0), (177, .iload 6), (179, .iload 8), (181, .iconst 4), (182, .invokevirtual 105), (185, .ifCond .lt 7), (188, .iconst 1), (189, .goto 4), (192, .iconst 0), (193, .if_icmp .ne 22), (196, .aload_n 0), (197, .iload 6), (199, .iload 8), (201, .invokevirtual 109), (204, .aload_n 0), (205, .iload 8), (207, .iload 6), (209, .invokevirtual 109), (212, .if_icmp .eq 5), (215, .iconst 0), (216, .ireturn), (217, .iload 9), (219, .ifCond .eq 108), (222, .aload_n 0), (223, .iload 6), (225, .iload 8), (227, .iconst 4)]
def am_c362_3 : List (Nat × Instr) := [(228, .invokevirtual 105), (231, .aload_n 0), (232, .iload 6), (234, .iload 8), (236, .iconst 2), (237, .invokevirtual 105), (240, .aload_n 0), (241, .iload 6), (243, .iload 8), (245, .iconst 3), (246, .invokevirtual 105), (249, .isub), (250, .invokestatic 81), (253, .if_icmp .ne 72), (256, .iload 10), (258, .aload_n 0), (259, .iload 6), (261, .iload 8), (263, .iconst 4), (264, .invokevirtual 105), (267, .aload_n 0), (268, .iconst 4), (269, .invokevirtual 112), (272, .if_icmp .gt 7), (275, .iconst 1), (276, .goto 4), (279, .iconst 0), (280, .if_icmp .ne 45), (283, .aload_n 0), (284, .iload 6), (286, .iload 8), (288, .iconst 0), (289, .invokevirtual 105), (292, .aload_n 0), (293, .iload 8), (295, .iload 6), (297, .iconst 0), (298, .invokevirtual 105), (301, .if_icmp .ne 24), (304, .aload_n 0)]
def am_c362_4 : List (Nat × Instr) := [(305, .iload 6), (307, .iload 8), (309, .iconst 2), (310, .invokevirtual 105), (313, .aload_n 0), (314, .iload 8), (316, .iload 6), (318, .iconst 3), (319, .invokevirtual 105), (322, .if_icmp .eq 5), (325, .iconst 0), (326, .ireturn), (327, .iload_n 3), (328, .iload 9), (330, .ifCond .eq 14), (333, .iload 6), (335, .iload 8), (337, .if_icmp .ge 7), (340, .iconst 1), (341, .goto 4), (344, .iconst 0), (345, .iadd), (346, .istore_n 3), (347, .iload 4), (349, .iload 10), (351, .ifCond .eq 14), (354, .iload 6), (356, .iload 8), (358, .if_icmp .ge 7), (361, .iconst 1), (362, .goto 4), (365, .iconst 0), (366, .iadd), (367, .istore 4), (369, .iload 7), (371, .iload 10), (373, .ifCond .eq 28), (376, .aload_n 0), (377, .iload 8), (379, .bipush 8)]
def am_c362_5 : List (Nat × Instr) := [(381, .invokevirtual 101), (384, .iconst 1), (385, .aload_n 0), (386, .iload 8), (388, .bipush 7), (390, .invokevirtual 101), (393, .invokestatic 81), (396, .iadd), (397, .imul), (398, .goto 4), (401, .iconst 0), (402, .iadd), (403, .istore 7), (405, .iinc 8 1), (408, .goto (-352)), (411, .aload_n 0), (412, .iload 6), (414, .iconst 3), (415, .invokevirtual 101), (418, .istore 8), (420, .iload 7), (422, .aload_n 0), (423, .iload 6), (425, .invokevirtual 115), (428, .if_icmp .ne 126), (431, .aload_n 0), (432, .iload 6), (434, .invokevirtual 118), (437, .ifCond .lt 7), (440, .iconst 1), (441, .goto 4), (444, .iconst 0), (445, .aload_n 0), (446, .iload 6), (448, .invokevirtual 98), (451, .ifCond .eq 7), (454, .iconst 1), (455, .goto 4), (458, .iconst 0), (459, .if_icmp .ne 95)]
def am_c362_6 : List (Nat × Instr) := [(462, .iload 8), (464, .ifCond .lt 90), (467, .iload 8), (469, .sipush 300), (472, .if_icmp .gt 82), (475, .aload_n 0), (476, .iload 6), (478, .invokevirtual 121), (481, .ifCond .lt 7), (484, .iconst 1), (485, .goto 4), (488, .iconst 0), (489, .aload_n 0), (490, .iload 6), (492, .iconst 0), (493, .invokevirtual 101), (496, .ifCond .ne 7), (499, .iconst 1), (500, .goto 4), (503, .iconst 0), (504, .if_icmp .ne 50), (507, .aload_n 0), (508, .iload 6), (510, .iconst 0), (511, .invokevirtual 101), (514, .ifCond .ne 8), (517, .iload 8), (519, .ifCond .eq 35), (522, .aload_n 0), (523, .aload_n 0), (524, .iload 6), (526, .iconst 1), (527, .invokevirtual 101), (530, .aload_n 0), (531, .iload 6), (533, .iconst 2), (534, .invokevirtual 101), (537, .sipush 199), (540, .sipush 199), (543, .invokevirtual 124)]
def am_c362_7 : List (Nat × Instr) := [(546, .iload 6), (548, .ishr), (549, .iconst 1), (550, .iand), (551, .ifCond .ne 5), (554, .iconst 0), (555, .ireturn), (556, .iload_n 1), (557, .ifCond .eq 24), (560, .aload_n 0), (561, .iload 6), (563, .iconst 0), (564, .invokevirtual 101), (567, .ifCond .ne 14), (570, .aload_n 0), (571, .iload 6), (573, .invokevirtual 128), (576, .ifCond .ge 5), (579, .iconst 0), (580, .ireturn), (581, .iinc 6 1), (584, .goto (-540)), (587, .iload_n 3), (588, .aload_n 0), (589, .bipush 10), (591, .invokevirtual 91), (594, .if_icmp .ne 88), (597, .iload 4), (599, .aload_n 0), (600, .bipush 11), (602, .invokevirtual 91), (605, .if_icmp .ne 77), (608, .iload 5), (610, .iload_n 2), (611, .if_icmp .ne 71), (614, .aload_n 0), (615, .bipush 11), (617, .invokevirtual 131), (620, .aload_n 0), (621, .bipush 9)]
def am_c362_8 : List (Nat × Instr) := [(623, .invokevirtual 91), (626, .iconst 2), (627, .aload_n 0), (628, .bipush 7), (630, .invokevirtual 91), (633, .imul), (634, .iadd), (635, .if_icmp .ne 47), (638, .aload_n 0), (639, .bipush 8), (641, .invokevirtual 91), (644, .bipush 12), (646, .if_icmp .gt 36), (649, .aload_n 0), (650, .invokevirtual 134), (653, .iconst (-1)), (654, .if_icmp .ne 7), (657, .iconst 1), (658, .goto 4), (661, .iconst 0), (662, .aload_n 0), (663, .iconst 3), (664, .invokevirtual 91), (667, .ifCond .ne 7), (670, .iconst 1), (671, .goto 4), (674, .iconst 0), (675, .if_icmp .ne 7), (678, .iconst 1), (679, .goto 4), (682, .iconst 0), (683, .ireturn)]
def am_c362 : List (Nat × Instr) := (am_c362_0 ++ (am_c362_1 ++ (am_c362_2 ++ (am_c362_3 ++ (am_c362_4 ++ (am_c362_5 ++ (am_c362_6 ++ (am_c362_7 ++ am_c362_8))))))))
def am_c363_0 : List (Nat × Instr) := [(0, .aload_n 1), (1, .iload_n 2), (2, .iconst 0), (3, .iload_n 3), (4, .iconst 1), (5, .isub), (6, .invokestatic 49), (9, .istore 4), (11, .aload_n 1), (12, .iload_n 2), (13, .iconst 1), (14, .iadd), (15, .iconst 0), (16, .bipush 6), (18, .invokestatic 49), (21, .tableswitch 218 0 5 #[39, 39, 103, 124, 155, 187]), (60, .aload_n 0), (61, .iload 4), (63, .iconst 0), (64, .invokevirtual 101), (67, .iconst 1), (68, .if_icmp .ne 200), (71, .aload_n 0), (72, .iload 4), (74, .invokevirtual 137), (77, .ifCond .le 191), (80, .aload_n 1), (81, .iload_n 2), (82, .iconst 2), (83, .iadd), (84, .iconst 0), (85, .iconst 1), (86, .invokestatic 49), (89, .ifCond .ne 179), (92, .aload_n 0), (93, .iload 4), (95, .aload_n 1), (96, .iload_n 2), (97, .iconst 2), (98, .iadd)]
def am_c363_1 : List (Nat × Instr) := [(99, .bipush 60), (101, .bipush 110), (103, .invokestatic 49), (106, .aload_n 1), (107, .iload_n 2), (108, .iconst 3), (109, .iadd), (110, .bipush 60), (112, .bipush 110), (114, .invokestatic 49), (117, .invokevirtual 140), (120, .pop), (121, .goto 147), (124, .aload_n 0), (125, .iload 4), (127, .aload_n 1), (128, .iload_n 2), (129, .iconst 2), (130, .iadd), (131, .bipush (-9)), (133, .bipush 9), (135, .invokestatic 49), (138, .invokevirtual 143), (141, .pop), (142, .goto 126), (145, .aload_n 0), (146, .iload 4), (148, .iconst 0), (149, .invokevirtual 101), (152, .iconst 2), (153, .if_icmp .ge 115), (156, .aload_n 0), (157, .iload 4), (159, .aload_n 1), (160, .iload_n 2), (161, .iconst 2), (162, .iadd), (163, .iconst 1), (164, .bipush 90), (166, .invokestatic 49)]
def am_c363_2 : List (Nat × Instr) := [(169, .invokevirtual 146), (172, .pop), (173, .goto 95), (176, .aload_n 0), (177, .iload 4), (179, .aload_n 1), (180, .iload_n 2), (181, .iconst 2), (182, .iadd), (183, .bipush 60), (185, .bipush 110), (187, .invokestatic 49), (190, .aload_n 1), (191, .iload_n 2), (192, .iconst 3), (193, .iadd), (194, .bipush 60), (196, .bipush 110), (198, .invokestatic 49), (201, .invokevirtual 140), (204, .pop), (205, .goto 63), (208, .aload_n 0), (209, .iconst 0), (210, .aload_n 1), (211, .iload_n 2), (212, .iconst 2), (213, .iadd), (214, .bipush (-9)), (216, .bipush 9), (218, .invokestatic 49), (221, .aload_n 1), (222, .iload_n 2), (223, .iconst 3), (224, .iadd), (225, .bipush (-9)), (227, .bipush 9), (229, .invokestatic 49), (232, .invokevirtual 149), (235, .pop)]
def am_c363_3 : List (Nat × Instr) := [(236, .goto 32), (239, .aload_n 0), (240, .iload 4), (242, .iconst 0), (243, .invokevirtual 101), (246, .ifCond .ne 22), (249, .aload_n 1), (250, .iload_n 2), (251, .iconst 2), (252, .iadd), (253, .iconst 0), (254, .iconst 3), (255, .invokestatic 49), (258, .ifCond .ne 10), (261, .aload_n 0), (262, .iload 4), (264, .invokevirtual 152), (267, .pop), (268, .return_)]
def am_c363 : List (Nat × Instr) := (am_c363_0 ++ (am_c363_1 ++ (am_c363_2 ++ am_c363_3)))
def am_c364_0 : List (Nat × Instr) := [(0, .new 26), (3, .dup), (4, .invokespecial 155), (7, .astore_n 1), (8, .aload_n 0), (9, .iconst 0), (10, .iconst 2), (11, .bipush 9), (13, .invokestatic 49), (16, .istore_n 2), (17, .aload_n 1), (18, .aload_n 0), (19, .iload_n 2), (20, .invokestatic 156), (23, .invokestatic 160), (26, .iload_n 2), (27, .if_icmp .ne 20), (30, .aload_n 1), (31, .iconst 4), (32, .invokevirtual 91), (35, .iload_n 2), (36, .if_icmp .ne 11), (39, .aload_n 1), (40, .iconst 1), (41, .invokestatic 164), (44, .ifCond .ne 5), (47, .iconst 0), (48, .ireturn), (49, .iconst 0), (50, .istore_n 3), (51, .iload_n 3), (52, .iload_n 2), (53, .if_icmp .ge 44), (56, .aload_n 0), (57, .bipush 75), (59, .iload_n 3), (60, .iadd), (61, .iconst 0), (62, .iconst 3), (63, .invokestatic 49)]
def am_c364_1 : List (Nat × Instr) := [(66, .ifCond .le 25), (69, .aload_n 1), (70, .iload_n 3), (71, .invokevirtual 137), (74, .bipush 20), (76, .aload_n 1), (77, .iload_n 3), (78, .bipush 6), (80, .invokevirtual 101), (83, .invokestatic 168), (86, .if_icmp .eq 5), (89, .iconst 0), (90, .ireturn), (91, .iinc 3 1), (94, .goto (-43)), (97, .aload_n 0), (98, .bipush 85), (100, .iconst 2), (101, .bipush 14), (103, .invokestatic 49), (106, .istore_n 3), (107, .iconst 0), (108, .istore 4), (110, .iload 4), (112, .iload_n 3), (113, .if_icmp .ge 189), (116, .aload_n 1), (117, .aload_n 0), (118, .bipush 90), (120, .iconst 5), (121, .iload 4), (123, .imul), (124, .iadd), (125, .iload_n 2), (126, .invokestatic 171), (129, .aload_n 1), (130, .iconst 0), (131, .invokestatic 164), (134, .ifCond .ne 5), (137, .iconst 0)]
def am_c364_2 : List (Nat × Instr) := [(138, .ireturn), (139, .aload_n 0), (140, .bipush 94), (142, .iconst 5), (143, .iload 4), (145, .imul), (146, .iadd), (147, .iconst 1), (148, .bipush 6), (150, .invokestatic 49), (153, .istore 5), (155, .aload_n 0), (156, .bipush 92), (158, .iconst 5), (159, .iload 4), (161, .imul), (162, .iadd), (163, .iconst 0), (164, .iload_n 2), (165, .iconst 1), (166, .isub), (167, .invokestatic 49), (170, .istore 6), (172, .aload_n 1), (173, .iload 6), (175, .iconst 3), (176, .iload 5), (178, .invokevirtual 175), (181, .istore 7), (183, .aload_n 1), (184, .iload 5), (186, .invokevirtual 178), (189, .istore 8), (191, .aload_n 1), (192, .iload 6), (194, .iload 5), (196, .invokevirtual 181), (199, .istore 9), (201, .aload_n 1), (202, .bipush 9)]
def am_c364_3 : List (Nat × Instr) := [(204, .invokevirtual 91), (207, .istore 10), (209, .aload_n 1), (210, .iload 5), (212, .invokevirtual 184), (215, .iload 8), (217, .if_icmp .ne 77), (220, .aload_n 1), (221, .bipush 9), (223, .invokevirtual 91), (226, .iload 10), (228, .iload 8), (230, .iadd), (231, .if_icmp .ne 63), (234, .aload_n 1), (235, .iload 6), (237, .iconst 3), (238, .invokevirtual 101), (241, .iload 7), (243, .if_icmp .ne 51), (246, .iload 9), (248, .iconst (-1)), (249, .if_icmp .ne 7), (252, .iconst 1), (253, .goto 4), (256, .iconst 0), (257, .aload_n 1), (258, .iload 6), (260, .iconst 0), (261, .invokevirtual 101), (264, .ifCond .eq 14), (267, .aload_n 1), (268, .iload 6), (270, .iconst 0), (271, .invokevirtual 101), (274, .iconst 2), (275, .if_icmp .ne 7), (278, .iconst 1), (279, .goto 4), (282, .iconst 0)]
def am_c364_4 : List (Nat × Instr) := [(283, .if_icmp .ne 11), (286, .aload_n 1), (287, .iconst 1), (288, .invokestatic 164), (291, .ifCond .ne 5), (294, .iconst 0), (295, .ireturn), (296, .iinc 4 1), (299, .goto (-189)), (302, .aload_n 1), (303, .iconst 2), (304, .invokevirtual 91), (307, .istore 4), (309, .aload_n 1), (310, .bipush 12), (312, .invokevirtual 91), (315, .istore 5), (317, .aload_n 1), (318, .bipush 11), (320, .invokevirtual 131), (323, .istore 6), (325, .aload_n 1), (326, .invokevirtual 187), (329, .istore 7), (331, .aload_n 1), (332, .iconst 0), (333, .bipush 10), (335, .bipush 20), (337, .invokevirtual 175), (340, .istore 8), (342, .aload_n 1), (343, .iconst 0), (344, .bipush 10), (346, .invokevirtual 190), (349, .istore 9), (351, .aload_n 1), (352, .bipush 20), (354, .invokevirtual 184), (357, .ifCond .lt 43), (360, .aload_n 1)]
def am_c364_5 : List (Nat × Instr) := [(361, .iconst 0), (362, .bipush 10), (364, .invokevirtual 101), (367, .iload 8), (369, .if_icmp .ne 31), (372, .aload_n 1), (373, .invokevirtual 193), (376, .ifCond .lt 24), (379, .aload_n 1), (380, .iconst 2), (381, .invokevirtual 91), (384, .iload 4), (386, .if_icmp .ne 14), (389, .aload_n 1), (390, .bipush 11), (392, .invokevirtual 131), (395, .iload 6), (397, .if_icmp .eq 5), (400, .iconst 0), (401, .ireturn), (402, .aload_n 1), (403, .iconst 0), (404, .iload 9), (406, .invokevirtual 143), (409, .bipush (-9)), (411, .if_icmp .ge 5), (414, .iconst 0), (415, .ireturn), (416, .aload_n 1), (417, .iconst 0), (418, .iconst 3), (419, .bipush 10), (421, .invokevirtual 175), (424, .istore 10), (426, .bipush (-9)), (428, .istore 11), (430, .iload 11), (432, .bipush 9), (434, .if_icmp .gt 36), (437, .aload_n 1)]
def am_c364_6 : List (Nat × Instr) := [(438, .iconst 0), (439, .iload 11), (441, .invokevirtual 143), (444, .bipush (-9)), (446, .if_icmp .lt 16), (449, .aload_n 1), (450, .iconst 0), (451, .iconst 3), (452, .bipush 10), (454, .invokevirtual 175), (457, .iload 10), (459, .if_icmp .le 5), (462, .iconst 0), (463, .ireturn), (464, .iinc 11 3), (467, .goto (-37)), (470, .iload 5), (472, .bipush 10), (474, .if_icmp .gt 54), (477, .iload 7), (479, .iload 4), (481, .if_icmp .ne 47), (484, .aload_n 1), (485, .invokevirtual 196), (488, .iload 4), (490, .if_icmp .ne 38), (493, .aload_n 1), (494, .bipush 12), (496, .invokevirtual 91), (499, .ifCond .ne 29), (502, .aload_n 1), (503, .iconst 1), (504, .invokestatic 164), (507, .ifCond .eq 21), (510, .aload_n 1), (511, .iconst 0), (512, .bipush 10), (514, .bipush 20), (516, .invokevirtual 175), (519, .iload 8)]
def am_c364_7 : List (Nat × Instr) := [(521, .if_icmp .ne 7), (524, .iconst 1), (525, .goto 4), (528, .iconst 0), (529, .ireturn)]
def am_c364 : List (Nat × Instr) := (am_c364_0 ++ (am_c364_1 ++ (am_c364_2 ++ (am_c364_3 ++ (am_c364_4 ++ (am_c364_5 ++ (am_c364_6 ++ am_c364_7)))))))
def am_pg : List (ByteArray × List (Nat × Instr)) := [(cX0_init, am_c0), (cX0_isBetween, am_c1), (cX0_heightOfLine, am_c2), (cX0_heightsApart, am_c3), (cX1_init, am_c4), (cX1_copyFrom, am_c5), (cX0_init, am_c0), (cX2_init, am_c7), (cX2_clear, am_c8), (cX2_addDefaultWind, am_c9), (cX2_copyFrom, am_c10), (cX2_kitesInState, am_c11), (cX2_windNumberAt, am_c12), (cX2_linesCross, am_c13), (cX2_linesRub, am_c14), (cX2_pairs, am_c15), (cX2_pickerAt, am_c16), (cX2_eventAt, am_c17), (cX2_tellOfKite, am_c18), (cX2_tell, am_c19), (cX2_passTicks, am_c20), (cX2_tick, am_c21), (cX2_fly, am_c22), (cX2_rubAllLines, am_c23), (cX2_wearLine, am_c24), (cX2_cutWornLines, am_c25), (cX2_drift, am_c26), (cX2_pickUpFallenKites, am_c27), (cX3_init, am_c28), (cX3_clear, am_c29), (cX3_remember, am_c30), (cX3_takeBack, am_c31), (cX4_init, am_c32), (cX4_addFour, am_c33), (cX5_init, am_c34), (cX5_copyFrom, am_c35), (cX5_startAt, am_c36), (cX0_init, am_c0), (cX5_goDownAtFlyer, am_c38), (cX5_number, am_c39), (cX0_init, am_c0), (cX5_distanceTo, am_c41), (cX5_spanNow, am_c42), (cX5_slackNow, am_c43), (cX5_wearBrought, am_c44), (cX5_blow, am_c45), (cX5_pullIn, am_c46), (cX6_init, am_c47), (cX6_clear, am_c48), (cX6_copyFrom, am_c49), (cX6_addWord, am_c50), (cX6_numberOf, am_c51), (cX6_isSame, am_c52), (cX7_init, am_c53), (cX0_init, am_c0), (cX0_init, am_c0), (cX0_init, am_c0), (cX0_init, am_c0), (cX0_init, am_c0), (cX0_init, am_c0), (cX8_init, am_c60), (cX8_readText, am_c61), (cX8_readStatement, am_c62), (cX8_readKite, am_c63), (cX8_readName, am_c64), (cX8_readOption, am_c65), (cX8_readWind, am_c66), (cX8_readSpeed, am_c67), (cX8_readSetting, am_c68), (cX8_readNumber, am_c69), (cX8_readSemicolon, am_c70), (cX8_fail, am_c71), (cX8_quotedWord, am_c72), (cX8_quoted, am_c73), (cX9_init, am_c74), (cX9_readFirst, am_c75), (cX9_readNext, am_c76), (cX9_kindOf, am_c77), (cX9_isNumber, am_c78), (cX9_value, am_c79), (cX9_isWord, am_c80), (cX10_init, am_c81), (cX10_copyFrom, am_c82), (cX10_become, am_c83), (cX10_force, am_c84), (cX0_init, am_c0), (cX11_init, am_c86), (cX11_feed, am_c87), (cX11_truncate, am_c88), (cX11_parse, am_c89), (cX0_init, am_c0), (cX0_init, am_c0), (cX11_count, am_c92), (cX11_setting, am_c93), (cX0_init, am_c0), (cX11_kite, am_c95), (cX0_init, am_c0), (cX0_init, am_c0), (cX11_span, am_c98), (cX11_slack, am_c99), (cX11_crosses, am_c100), (cX11_crossing, am_c101), (cX11_rubs, am_c102), (cX11_wearNow, am_c103), (cX0_init, am_c0), (cX11_highest, am_c105), (cX0_init, am_c0), (cX0_init, am_c0), (cX0_init, am_c0), (cX11_gap, am_c109), (cX0_init, am_c0), (cX0_init, am_c0), (cX11_threat, am_c112), (cX11_sum, am_c113), (cX0_init, am_c0), (cX11_inBox, am_c115), (cX0_init, am_c0), (cX0_init, am_c0), (cX0_init, am_c0), (cX11_kiteIn, am_c119), (cX0_init, am_c0), (cX0_init, am_c0), (cX11_cutsIn, am_c122), (cX11_landsIn, am_c123), (cX0_init, am_c0), (cX0_init, am_c0), (cX11_bestReel, am_c126), (cX0_init, am_c0), (cX11_run, am_c128), (cX11_launch, am_c129), (cX11_reel, am_c130), (cX11_letGo, am_c131), (cX11_pull, am_c132), (cX11_walk, am_c133), (cX0_init, am_c0), (cX11_setWind, am_c135), (cX0_init, am_c0), (cX11_undo, am_c137), (cX0_init, am_c0), (cX0_init, am_c0), (cX0_init, am_c0), (cX0_init, am_c0), (cX11_saveState, am_c142), (cX11_restoreState, am_c143), (cX11_checkKite, am_c144), (cX11_checkWind, am_c145), (cX11_checkRange, am_c146), (cX11_checkState, am_c147), (cX11_reelFor, am_c148), (cX0_init, am_c0), (cX0_init, am_c0), (cX11_isIn, am_c151), (cX11_bounded, am_c152), (cX0_init, am_c0), (cX0_init, am_c0), (cX0_init, am_c0), (cX0_init, am_c0), (cX0_init, am_c0), (cX0_init, am_c0), (cX0_init, am_c0), (cX0_init, am_c0), (cX0_init, am_c0), (cX0_init, am_c0), (cX0_init, am_c0), (cX0_init, am_c0), (cX0_init, am_c0), (cX0_init, am_c0), (cX0_init, am_c0), (cX0_init, am_c0), (cX0_init, am_c0), (cX0_init, am_c0), (cX0_init, am_c0), (cX0_init, am_c0), (cX0_init, am_c0), (cX0_init, am_c0), (cX0_init, am_c0), (cX0_init, am_c0), (cX0_init, am_c0), (cX0_init, am_c0), (cX0_init, am_c0), (cX0_init, am_c0), (cX0_init, am_c0), (cX0_init, am_c0), (cX0_init, am_c0), (cX0_init, am_c0), (cX0_init, am_c0), (cX0_init, am_c0), (cX0_init, am_c0), (cX0_init, am_c0), (cX0_init, am_c0), (cX0_init, am_c0), (cX0_init, am_c0), (cX0_init, am_c0), (cX0_init, am_c0), (cX0_init, am_c0), (cX0_init, am_c0), (cX0_init, am_c0), (cX0_init, am_c0), (cX0_init, am_c0), (cX0_init, am_c0), (cX0_init, am_c0), (cX0_init, am_c0), (cX0_init, am_c0), (cX0_init, am_c0), (cX0_init, am_c0), (cX0_init, am_c0), (cX0_init, am_c0), (cX0_init, am_c0), (cX0_init, am_c0), (cX0_init, am_c0), (cX0_init, am_c0), (cX0_init, am_c0), (cX0_init, am_c0), (cX0_init, am_c0), (cX0_init, am_c0), (cX0_init, am_c0), (cX0_init, am_c0), (cX0_init, am_c0), (cX0_init, am_c0), (cX0_init, am_c0), (cX0_init, am_c0), (cX0_init, am_c0), (cX0_init, am_c0), (cX0_init, am_c0), (cX0_init, am_c0), (cX0_init, am_c0), (cX0_init, am_c0), (cX0_init, am_c0), (cX0_init, am_c0), (cX0_init, am_c0), (cX0_init, am_c0), (cX0_init, am_c0), (cX0_init, am_c0), (cX0_init, am_c0), (cX0_init, am_c0), (cX0_init, am_c0), (cX0_init, am_c0), (cX0_init, am_c0), (cX0_init, am_c0), (cX0_init, am_c0), (cX0_init, am_c0), (cX0_init, am_c0), (cX0_init, am_c0), (cX0_init, am_c0), (cX0_init, am_c0), (cX0_init, am_c0), (cX0_init, am_c0), (cX0_init, am_c0), (cX0_init, am_c0), (cX0_init, am_c0), (cX0_init, am_c0), (cX0_init, am_c0), (cX0_init, am_c0), (cX0_init, am_c0), (cX0_init, am_c0), (cX0_init, am_c0), (cX0_init, am_c0), (cX0_init, am_c0), (cX0_init, am_c0), (cX0_init, am_c0), (cX0_init, am_c0), (cX0_init, am_c0), (cX0_init, am_c0), (cX0_init, am_c0), (cX0_init, am_c0), (cX0_init, am_c0), (cX0_init, am_c0), (cX0_init, am_c0), (cX0_init, am_c0), (cX0_init, am_c0), (cX0_init, am_c0), (cX0_init, am_c0), (cX0_init, am_c0), (cX0_init, am_c0), (cX0_init, am_c0), (cX0_init, am_c0), (cX0_init, am_c0), (cX0_init, am_c0), (cX0_init, am_c0), (cX0_init, am_c0), (cX0_init, am_c0), (cX0_init, am_c0), (cX0_init, am_c0), (cX0_init, am_c0), (cX0_init, am_c0), (cX0_init, am_c0), (cX0_init, am_c0), (cX0_init, am_c0), (cX0_init, am_c0), (cX0_init, am_c0), (cX0_init, am_c0), (cX0_init, am_c0), (cX0_init, am_c0), (cX0_init, am_c0), (cX0_init, am_c0), (cX0_init, am_c0), (cX0_init, am_c0), (cX0_init, am_c0), (cX0_init, am_c0), (cX0_init, am_c0), (cX0_init, am_c0), (cX0_init, am_c0), (cX0_init, am_c0), (cX0_init, am_c0), (cX0_init, am_c0), (cX0_init, am_c0), (cX0_init, am_c0), (cX0_init, am_c0), (cX0_init, am_c0), (cX0_init, am_c0), (cX0_init, am_c0), (cX0_init, am_c0), (cX0_init, am_c0), (cJ9_floorDiv_7cf53, am_c313), (cJ9_abs_0f7a4, am_c314), (cJ9_max_7cf53, am_c315), (cJ9_min_7cf53, am_c316), (cJ0_length_8abf5, am_c317), (cJ0_charAt_5068e, am_c318), (cJ0_coder_7d493, am_c319), (cJ0_isLatin1_aae02, am_c320), (cJ0_checkIndex_df160, am_c321), (cJ1_charAt_3b067, am_c322), (cJ3_checkIndex_8e157, am_c323), (cJ1_canEncode_fc78d, am_c324), (cJ8_newLength_cabcc, am_c325), (cJ7_copyOf_9075b, am_c326), (cJ7_checkLength_df160, am_c327), (cJ7_copyOfRangeByte_39247, am_c328), (cJ7_copyOfRange_39247, am_c329), (cJ6_stringSize_0f7a4, am_c330), (cJ6_getChars_ba4f3, am_c331), (cJ5_isLatin1_aae02, am_c332), (cJ5_getValue_6d5f1, am_c333), (cJ5_length_8abf5, am_c334), (cJ5_newCapacity_0f7a4, am_c335), (cJ5_ensureCapacityInternal_d00df, am_c336), (cJ0_getBytes_840e7, am_c337), (cJ5_inflateIfNeededFor_a7421, am_c338), (cJ5_putStringAt_47b60, am_c339), (cJ5_append_cf1ce, am_c340), (cJ5_append_3fe6f, am_c341), (cJ5_append_c97b9, am_c342), (cJ4_append_15ec4, am_c343), (cJ4_append_cf468, am_c344), (cJ4_append_bf812, am_c345), (cJ4_append_cf1ce, am_c346), (cJ4_length_8abf5, am_c347), (cJ5_init_a7421, am_c348), (cJ4_init_a7421, am_c349), (cJ0_init_db425, am_c350), (cJ0_init_81219, am_c351), (cJ4_toString_0e30d, am_c352), (cX0_init, am_c0), (cX0_init, am_c0), (cX0_init, am_c0), (cX0_init, am_c0), (cL_cell, am_c357), (cL_draw, am_c358), (cL_fed, am_c359), (cL_parsed, am_c360), (cL_setup, am_c361), (cL_isSound, am_c362), (cL_acts, am_c363), (cL_law, am_c364)]
def am_B (k : Nat) : ByteArray := (am_pg.getD k (cL_law, [])).1
def am_cs (k : Nat) : List (Nat × Instr) := (am_pg.getD k (cL_law, [])).2
def am_A (k pc : Nat) : Option Instr := ((am_cs k).find? (fun q => q.1 == pc)).map (·.2)
/-- pool index, callee, kind (0 virtual, 1 static, 2 constructor, 3 the same by a nest mate, 4 static by a nest mate, 5 that of Object, 6 inherited, 7 that of the superclass, 8 overriding, 9 arraycopy, 10 clone), places of the words -/
def am_ks : List (List (Nat × Nat × Nat × Nat × Nat × Nat × Nat)) := [
  [(1, 0, 5, 119, 64, 65, 0)],
  [(22, 313, 1, 491, 492, 46, 0), (35, 43, 0, 494, 495, 496, 35), (39, 2, 1, 502, 503, 34, 0)],
  [(48, 315, 1, 505, 485, 46, 0)],
  [(51, 314, 1, 510, 511, 46, 0)],
  [(1, 0, 5, 248, 64, 65, 0)],
  [],
  [(1, 0, 5, 119, 64, 65, 0)],
  [(3, 0, 5, 107, 64, 65, 0), (35, 0, 3, 116, 117, 34, 0), (40, 34, 3, 141, 142, 35, 0), (41, 81, 3, 224, 225, 36, 0), (42, 4, 3, 245, 246, 37, 0), (43, 8, 0, 274, 275, 276, 33), (46, 9, 0, 280, 281, 282, 33)],
  [],
  [(71, 83, 0, 284, 285, 286, 36)],
  [(75, 35, 0, 626, 627, 628, 35), (79, 82, 0, 630, 631, 632, 36), (82, 5, 0, 635, 636, 637, 37)],
  [],
  [],
  [(91, 316, 1, 481, 482, 46, 0), (97, 315, 1, 484, 485, 46, 0), (100, 1, 0, 487, 488, 489, 34)],
  [(104, 13, 0, 477, 478, 479, 33), (108, 3, 0, 506, 507, 508, 34)],
  [(112, 14, 0, 473, 474, 475, 33), (104, 13, 0, 477, 478, 479, 33)],
  [(118, 314, 1, 717, 511, 46, 0)],
  [],
  [(131, 19, 0, 681, 683, 7, 33)],
  [(135, 17, 0, 685, 686, 687, 33)],
  [(151, 21, 0, 643, 644, 645, 33)],
  [(154, 22, 0, 647, 649, 6, 33), (158, 23, 0, 689, 691, 8, 33), (161, 25, 0, 701, 703, 10, 33), (164, 26, 0, 705, 707, 11, 33), (167, 27, 0, 709, 711, 12, 33)],
  [(173, 12, 0, 651, 652, 653, 33), (182, 152, 4, 655, 656, 29, 0), (186, 45, 0, 660, 661, 662, 35), (189, 43, 0, 665, 495, 496, 35), (192, 84, 0, 666, 667, 668, 36), (91, 316, 1, 481, 482, 46, 0), (97, 315, 1, 484, 485, 46, 0), (195, 46, 0, 672, 673, 674, 35), (198, 18, 0, 677, 678, 679, 33)],
  [(100, 1, 0, 487, 488, 489, 34), (108, 3, 0, 506, 507, 508, 34), (207, 24, 0, 693, 695, 9, 33)],
  [(211, 44, 0, 697, 698, 699, 35)],
  [(91, 316, 1, 481, 482, 46, 0), (97, 315, 1, 484, 485, 46, 0), (100, 1, 0, 487, 488, 489, 34), (131, 19, 0, 681, 683, 7, 33)],
  [(173, 12, 0, 651, 652, 653, 33), (186, 45, 0, 660, 661, 662, 35), (97, 315, 1, 484, 485, 46, 0), (198, 18, 0, 677, 678, 679, 33)],
  [(228, 16, 0, 713, 714, 715, 33), (198, 18, 0, 677, 678, 679, 33)],
  [(3, 0, 5, 412, 64, 65, 0), (17, 7, 2, 415, 105, 33, 0)],
  [],
  [(25, 10, 0, 762, 623, 624, 33)],
  [(25, 10, 0, 762, 623, 624, 33)],
  [(3, 0, 5, 71, 64, 65, 0)],
  [],
  [(3, 0, 5, 144, 64, 65, 0)],
  [],
  [(54, 38, 0, 960, 962, 21, 35)],
  [(1, 0, 5, 119, 64, 65, 0)],
  [],
  [],
  [(1, 0, 5, 119, 64, 65, 0)],
  [],
  [(57, 41, 0, 498, 499, 500, 35)],
  [(57, 41, 0, 498, 499, 500, 35)],
  [(61, 314, 1, 676, 511, 46, 0)],
  [(70, 152, 4, 664, 656, 29, 0)],
  [(61, 314, 1, 676, 511, 46, 0)],
  [(3, 0, 5, 341, 64, 65, 0)],
  [],
  [],
  [],
  [(24, 52, 0, 935, 937, 19, 38)],
  [],
  [(1, 0, 5, 89, 64, 65, 0)],
  [(1, 0, 5, 119, 64, 65, 0)],
  [(1, 0, 5, 119, 64, 65, 0)],
  [(1, 0, 5, 119, 64, 65, 0)],
  [(1, 0, 5, 119, 64, 65, 0)],
  [(1, 0, 5, 119, 64, 65, 0)],
  [(1, 0, 5, 119, 64, 65, 0)],
  [(3, 0, 5, 101, 64, 65, 0), (11, 7, 2, 104, 105, 33, 0), (20, 47, 3, 338, 339, 38, 0), (31, 74, 2, 356, 357, 39, 0)],
  [(41, 8, 0, 874, 275, 276, 33), (44, 48, 0, 875, 876, 877, 38), (48, 75, 0, 879, 880, 881, 39), (54, 72, 0, 890, 892, 14, 32), (58, 62, 0, 914, 916, 15, 32), (62, 70, 0, 985, 987, 26, 32), (69, 9, 0, 989, 281, 282, 33)],
  [(72, 63, 0, 918, 920, 16, 32), (75, 66, 0, 968, 970, 23, 32), (78, 151, 4, 955, 522, 29, 0), (82, 68, 0, 977, 979, 25, 32), (85, 71, 0, 922, 924, 17, 32)],
  [(85, 71, 0, 922, 924, 17, 32), (91, 76, 0, 926, 884, 885, 39), (94, 64, 0, 927, 929, 18, 32), (97, 69, 0, 943, 945, 20, 32), (108, 36, 0, 956, 957, 958, 35), (117, 65, 0, 964, 966, 22, 32)],
  [(54, 72, 0, 890, 892, 14, 32), (85, 71, 0, 922, 924, 17, 32), (143, 51, 0, 931, 932, 933, 38), (147, 50, 0, 939, 940, 941, 38), (91, 76, 0, 926, 884, 885, 39)],
  [(151, 73, 1, 894, 895, 32, 0), (155, 80, 0, 908, 909, 910, 39), (91, 76, 0, 926, 884, 885, 39), (97, 69, 0, 943, 945, 20, 32)],
  [(85, 71, 0, 922, 924, 17, 32), (91, 76, 0, 926, 884, 885, 39), (97, 69, 0, 943, 945, 20, 32), (168, 67, 0, 972, 974, 24, 32), (171, 83, 0, 976, 285, 286, 36)],
  [(91, 76, 0, 926, 884, 885, 39), (97, 69, 0, 943, 945, 20, 32)],
  [(85, 71, 0, 922, 924, 17, 32), (91, 76, 0, 926, 884, 885, 39), (97, 69, 0, 943, 945, 20, 32)],
  [(185, 78, 0, 947, 948, 949, 39), (85, 71, 0, 922, 924, 17, 32), (188, 79, 0, 951, 952, 953, 39), (78, 151, 4, 955, 522, 29, 0), (91, 76, 0, 926, 884, 885, 39)],
  [(85, 71, 0, 922, 924, 17, 32), (91, 76, 0, 926, 884, 885, 39)],
  [],
  [(151, 73, 1, 894, 895, 32, 0), (155, 80, 0, 908, 909, 910, 39)],
  [],
  [(1, 0, 5, 359, 64, 65, 0)],
  [(20, 76, 0, 883, 884, 885, 39)],
  [(30, 77, 1, 887, 888, 39, 0)],
  [],
  [],
  [],
  [(37, 317, 0, 912, 807, 808, 43), (42, 318, 0, 913, 817, 818, 43)],
  [(1, 0, 5, 227, 64, 65, 0)],
  [(19, 83, 0, 634, 285, 286, 36)],
  [],
  [(23, 314, 1, 670, 511, 46, 0), (29, 315, 1, 671, 485, 46, 0)],
  [(1, 0, 5, 119, 64, 65, 0)],
  [(1, 0, 5, 63, 64, 65, 0), (9, 32, 3, 68, 69, 30, 0), (18, 53, 3, 86, 87, 31, 0), (25, 60, 2, 98, 99, 32, 0), (34, 47, 3, 404, 339, 38, 0), (41, 7, 2, 406, 105, 33, 0), (54, 28, 2, 409, 410, 40, 0)],
  [(66, 33, 0, 858, 859, 860, 30)],
  [],
  [(70, 61, 0, 870, 871, 872, 32), (84, 10, 0, 622, 623, 624, 33), (89, 49, 0, 990, 991, 992, 38), (92, 29, 0, 788, 789, 790, 40)],
  [(1, 0, 5, 119, 64, 65, 0)],
  [(1, 0, 5, 119, 64, 65, 0)],
  [(102, 11, 0, 465, 466, 467, 33), (118, 15, 0, 469, 470, 471, 33)],
  [(125, 151, 1, 521, 522, 29, 0)],
  [(1, 0, 5, 119, 64, 65, 0)],
  [(141, 144, 0, 517, 519, 4, 29), (144, 146, 1, 591, 592, 29, 0), (152, 39, 0, 610, 611, 612, 35)],
  [(1, 0, 5, 119, 64, 65, 0)],
  [(1, 0, 5, 119, 64, 65, 0)],
  [(141, 144, 0, 517, 519, 4, 29), (173, 42, 0, 1277, 1278, 1279, 35)],
  [(141, 144, 0, 517, 519, 4, 29), (177, 147, 1, 739, 740, 29, 0), (181, 43, 0, 1289, 495, 496, 35)],
  [(141, 144, 0, 517, 519, 4, 29), (184, 13, 0, 1244, 478, 479, 33)],
  [(141, 144, 0, 517, 519, 4, 29), (144, 146, 1, 591, 592, 29, 0), (184, 13, 0, 1244, 478, 479, 33), (206, 3, 0, 1254, 507, 508, 34)],
  [(141, 144, 0, 517, 519, 4, 29), (209, 14, 0, 1249, 474, 475, 33)],
  [(141, 144, 0, 517, 519, 4, 29), (209, 14, 0, 1249, 474, 475, 33), (212, 44, 0, 1268, 698, 699, 35)],
  [(1, 0, 5, 119, 64, 65, 0)],
  [],
  [(1, 0, 5, 119, 64, 65, 0)],
  [(1, 0, 5, 119, 64, 65, 0)],
  [(1, 0, 5, 119, 64, 65, 0)],
  [(141, 144, 0, 517, 519, 4, 29), (241, 41, 0, 1259, 499, 500, 35), (244, 316, 1, 658, 482, 46, 0)],
  [(1, 0, 5, 119, 64, 65, 0)],
  [(1, 0, 5, 119, 64, 65, 0)],
  [(141, 144, 0, 517, 519, 4, 29), (209, 14, 0, 1249, 474, 475, 33), (212, 44, 0, 1268, 698, 699, 35)],
  [(144, 146, 1, 591, 592, 29, 0), (152, 39, 0, 610, 611, 612, 35)],
  [(1, 0, 5, 119, 64, 65, 0)],
  [(144, 146, 1, 591, 592, 29, 0), (125, 151, 1, 521, 522, 29, 0)],
  [(1, 0, 5, 119, 64, 65, 0)],
  [(1, 0, 5, 119, 64, 65, 0)],
  [(1, 0, 5, 119, 64, 65, 0)],
  [(141, 144, 0, 517, 519, 4, 29), (144, 146, 1, 591, 592, 29, 0), (84, 10, 0, 622, 623, 624, 33), (267, 20, 0, 639, 640, 641, 33), (152, 39, 0, 610, 611, 612, 35)],
  [(1, 0, 5, 119, 64, 65, 0)],
  [(1, 0, 5, 119, 64, 65, 0)],
  [(144, 146, 1, 591, 592, 29, 0), (84, 10, 0, 622, 623, 624, 33), (267, 20, 0, 639, 640, 641, 33)],
  [(141, 144, 0, 517, 519, 4, 29), (144, 146, 1, 591, 592, 29, 0), (84, 10, 0, 622, 623, 624, 33), (267, 20, 0, 639, 640, 641, 33)],
  [(1, 0, 5, 119, 64, 65, 0)],
  [(1, 0, 5, 119, 64, 65, 0)],
  [(141, 144, 0, 517, 519, 4, 29), (144, 146, 1, 591, 592, 29, 0), (276, 148, 0, 730, 732, 13, 29)],
  [(1, 0, 5, 119, 64, 65, 0)],
  [(144, 146, 1, 591, 592, 29, 0), (177, 147, 1, 739, 740, 29, 0), (280, 30, 0, 758, 759, 760, 40), (267, 20, 0, 639, 640, 641, 33)],
  [(141, 144, 0, 517, 519, 4, 29), (177, 147, 1, 739, 740, 29, 0), (280, 30, 0, 758, 759, 760, 40), (244, 316, 1, 658, 482, 46, 0), (286, 18, 0, 767, 678, 679, 33)],
  [(141, 144, 0, 517, 519, 4, 29), (144, 146, 1, 591, 592, 29, 0), (280, 30, 0, 758, 759, 760, 40)],
  [(141, 144, 0, 517, 519, 4, 29), (177, 147, 1, 739, 740, 29, 0), (280, 30, 0, 758, 759, 760, 40)],
  [(141, 144, 0, 517, 519, 4, 29), (144, 146, 1, 591, 592, 29, 0), (177, 147, 1, 739, 740, 29, 0), (280, 30, 0, 758, 759, 760, 40)],
  [(141, 144, 0, 517, 519, 4, 29), (144, 146, 1, 591, 592, 29, 0), (280, 30, 0, 758, 759, 760, 40), (292, 314, 1, 1301, 511, 46, 0)],
  [(1, 0, 5, 119, 64, 65, 0)],
  [(157, 145, 0, 1310, 1312, 27, 29), (144, 146, 1, 591, 592, 29, 0), (280, 30, 0, 758, 759, 760, 40), (299, 84, 0, 1315, 667, 668, 36)],
  [(1, 0, 5, 119, 64, 65, 0)],
  [(177, 147, 1, 739, 740, 29, 0), (308, 31, 0, 776, 777, 778, 40)],
  [(1, 0, 5, 119, 64, 65, 0)],
  [(1, 0, 5, 119, 64, 65, 0)],
  [(1, 0, 5, 119, 64, 65, 0)],
  [(1, 0, 5, 119, 64, 65, 0)],
  [(84, 10, 0, 622, 623, 624, 33)],
  [(177, 147, 1, 739, 740, 29, 0), (84, 10, 0, 622, 623, 624, 33), (92, 29, 0, 788, 789, 790, 40)],
  [(125, 151, 1, 521, 522, 29, 0)],
  [(125, 151, 1, 521, 522, 29, 0)],
  [(125, 151, 1, 521, 522, 29, 0)],
  [],
  [(84, 10, 0, 622, 623, 624, 33), (270, 21, 0, 734, 644, 645, 33), (152, 39, 0, 610, 611, 612, 35)],
  [(1, 0, 5, 119, 64, 65, 0)],
  [(1, 0, 5, 119, 64, 65, 0)],
  [],
  [(244, 316, 1, 658, 482, 46, 0), (258, 315, 1, 659, 485, 46, 0)],
  [(1, 0, 5, 119, 64, 65, 0)],
  [(1, 0, 5, 119, 64, 65, 0)],
  [(1, 0, 5, 119, 64, 65, 0)],
  [(1, 0, 5, 119, 64, 65, 0)],
  [(1, 0, 5, 119, 64, 65, 0)],
  [(1, 0, 5, 119, 64, 65, 0)],
  [(1, 0, 5, 119, 64, 65, 0)],
  [(1, 0, 5, 119, 64, 65, 0)],
  [(1, 0, 5, 119, 64, 65, 0)],
  [(1, 0, 5, 119, 64, 65, 0)],
  [(1, 0, 5, 119, 64, 65, 0)],
  [(1, 0, 5, 119, 64, 65, 0)],
  [(1, 0, 5, 119, 64, 65, 0)],
  [(1, 0, 5, 119, 64, 65, 0)],
  [(1, 0, 5, 119, 64, 65, 0)],
  [(1, 0, 5, 119, 64, 65, 0)],
  [(1, 0, 5, 119, 64, 65, 0)],
  [(1, 0, 5, 119, 64, 65, 0)],
  [(1, 0, 5, 119, 64, 65, 0)],
  [(1, 0, 5, 119, 64, 65, 0)],
  [(1, 0, 5, 119, 64, 65, 0)],
  [(1, 0, 5, 119, 64, 65, 0)],
  [(1, 0, 5, 119, 64, 65, 0)],
  [(1, 0, 5, 119, 64, 65, 0)],
  [(1, 0, 5, 119, 64, 65, 0)],
  [(1, 0, 5, 119, 64, 65, 0)],
  [(1, 0, 5, 119, 64, 65, 0)],
  [(1, 0, 5, 119, 64, 65, 0)],
  [(1, 0, 5, 119, 64, 65, 0)],
  [(1, 0, 5, 119, 64, 65, 0)],
  [(1, 0, 5, 119, 64, 65, 0)],
  [(1, 0, 5, 119, 64, 65, 0)],
  [(1, 0, 5, 119, 64, 65, 0)],
  [(1, 0, 5, 119, 64, 65, 0)],
  [(1, 0, 5, 119, 64, 65, 0)],
  [(1, 0, 5, 119, 64, 65, 0)],
  [(1, 0, 5, 119, 64, 65, 0)],
  [(1, 0, 5, 119, 64, 65, 0)],
  [(1, 0, 5, 119, 64, 65, 0)],
  [(1, 0, 5, 119, 64, 65, 0)],
  [(1, 0, 5, 119, 64, 65, 0)],
  [(1, 0, 5, 119, 64, 65, 0)],
  [(1, 0, 5, 119, 64, 65, 0)],
  [(1, 0, 5, 119, 64, 65, 0)],
  [(1, 0, 5, 119, 64, 65, 0)],
  [(1, 0, 5, 119, 64, 65, 0)],
  [(1, 0, 5, 119, 64, 65, 0)],
  [(1, 0, 5, 119, 64, 65, 0)],
  [(1, 0, 5, 119, 64, 65, 0)],
  [(1, 0, 5, 119, 64, 65, 0)],
  [(1, 0, 5, 119, 64, 65, 0)],
  [(1, 0, 5, 119, 64, 65, 0)],
  [(1, 0, 5, 119, 64, 65, 0)],
  [(1, 0, 5, 119, 64, 65, 0)],
  [(1, 0, 5, 119, 64, 65, 0)],
  [(1, 0, 5, 119, 64, 65, 0)],
  [(1, 0, 5, 119, 64, 65, 0)],
  [(1, 0, 5, 119, 64, 65, 0)],
  [(1, 0, 5, 119, 64, 65, 0)],
  [(1, 0, 5, 119, 64, 65, 0)],
  [(1, 0, 5, 119, 64, 65, 0)],
  [(1, 0, 5, 119, 64, 65, 0)],
  [(1, 0, 5, 119, 64, 65, 0)],
  [(1, 0, 5, 119, 64, 65, 0)],
  [(1, 0, 5, 119, 64, 65, 0)],
  [(1, 0, 5, 119, 64, 65, 0)],
  [(1, 0, 5, 119, 64, 65, 0)],
  [(1, 0, 5, 119, 64, 65, 0)],
  [(1, 0, 5, 119, 64, 65, 0)],
  [(1, 0, 5, 119, 64, 65, 0)],
  [(1, 0, 5, 119, 64, 65, 0)],
  [(1, 0, 5, 119, 64, 65, 0)],
  [(1, 0, 5, 119, 64, 65, 0)],
  [(1, 0, 5, 119, 64, 65, 0)],
  [(1, 0, 5, 119, 64, 65, 0)],
  [(1, 0, 5, 119, 64, 65, 0)],
  [(1, 0, 5, 119, 64, 65, 0)],
  [(1, 0, 5, 119, 64, 65, 0)],
  [(1, 0, 5, 119, 64, 65, 0)],
  [(1, 0, 5, 119, 64, 65, 0)],
  [(1, 0, 5, 119, 64, 65, 0)],
  [(1, 0, 5, 119, 64, 65, 0)],
  [(1, 0, 5, 119, 64, 65, 0)],
  [(1, 0, 5, 119, 64, 65, 0)],
  [(1, 0, 5, 119, 64, 65, 0)],
  [(1, 0, 5, 119, 64, 65, 0)],
  [(1, 0, 5, 119, 64, 65, 0)],
  [(1, 0, 5, 119, 64, 65, 0)],
  [(1, 0, 5, 119, 64, 65, 0)],
  [(1, 0, 5, 119, 64, 65, 0)],
  [(1, 0, 5, 119, 64, 65, 0)],
  [(1, 0, 5, 119, 64, 65, 0)],
  [(1, 0, 5, 119, 64, 65, 0)],
  [(1, 0, 5, 119, 64, 65, 0)],
  [(1, 0, 5, 119, 64, 65, 0)],
  [(1, 0, 5, 119, 64, 65, 0)],
  [(1, 0, 5, 119, 64, 65, 0)],
  [(1, 0, 5, 119, 64, 65, 0)],
  [(1, 0, 5, 119, 64, 65, 0)],
  [(1, 0, 5, 119, 64, 65, 0)],
  [(1, 0, 5, 119, 64, 65, 0)],
  [(1, 0, 5, 119, 64, 65, 0)],
  [(1, 0, 5, 119, 64, 65, 0)],
  [(1, 0, 5, 119, 64, 65, 0)],
  [(1, 0, 5, 119, 64, 65, 0)],
  [(1, 0, 5, 119, 64, 65, 0)],
  [(1, 0, 5, 119, 64, 65, 0)],
  [(1, 0, 5, 119, 64, 65, 0)],
  [(1, 0, 5, 119, 64, 65, 0)],
  [(1, 0, 5, 119, 64, 65, 0)],
  [(1, 0, 5, 119, 64, 65, 0)],
  [(1, 0, 5, 119, 64, 65, 0)],
  [(1, 0, 5, 119, 64, 65, 0)],
  [(1, 0, 5, 119, 64, 65, 0)],
  [(1, 0, 5, 119, 64, 65, 0)],
  [(1, 0, 5, 119, 64, 65, 0)],
  [(1, 0, 5, 119, 64, 65, 0)],
  [(1, 0, 5, 119, 64, 65, 0)],
  [(1, 0, 5, 119, 64, 65, 0)],
  [(1, 0, 5, 119, 64, 65, 0)],
  [(1, 0, 5, 119, 64, 65, 0)],
  [(1, 0, 5, 119, 64, 65, 0)],
  [(1, 0, 5, 119, 64, 65, 0)],
  [(1, 0, 5, 119, 64, 65, 0)],
  [(1, 0, 5, 119, 64, 65, 0)],
  [(1, 0, 5, 119, 64, 65, 0)],
  [(1, 0, 5, 119, 64, 65, 0)],
  [(1, 0, 5, 119, 64, 65, 0)],
  [(1, 0, 5, 119, 64, 65, 0)],
  [(1, 0, 5, 119, 64, 65, 0)],
  [(1, 0, 5, 119, 64, 65, 0)],
  [(1, 0, 5, 119, 64, 65, 0)],
  [(1, 0, 5, 119, 64, 65, 0)],
  [(1, 0, 5, 119, 64, 65, 0)],
  [(1, 0, 5, 119, 64, 65, 0)],
  [(1, 0, 5, 119, 64, 65, 0)],
  [(1, 0, 5, 119, 64, 65, 0)],
  [(1, 0, 5, 119, 64, 65, 0)],
  [(1, 0, 5, 119, 64, 65, 0)],
  [(1, 0, 5, 119, 64, 65, 0)],
  [(1, 0, 5, 119, 64, 65, 0)],
  [(1, 0, 5, 119, 64, 65, 0)],
  [(1, 0, 5, 119, 64, 65, 0)],
  [(1, 0, 5, 119, 64, 65, 0)],
  [(1, 0, 5, 119, 64, 65, 0)],
  [(1, 0, 5, 119, 64, 65, 0)],
  [(1, 0, 5, 119, 64, 65, 0)],
  [(1, 0, 5, 119, 64, 65, 0)],
  [(1, 0, 5, 119, 64, 65, 0)],
  [(1, 0, 5, 119, 64, 65, 0)],
  [(1, 0, 5, 119, 64, 65, 0)],
  [(1, 0, 5, 119, 64, 65, 0)],
  [(1, 0, 5, 119, 64, 65, 0)],
  [(1, 0, 5, 119, 64, 65, 0)],
  [(1, 0, 5, 119, 64, 65, 0)],
  [(1, 0, 5, 119, 64, 65, 0)],
  [(1, 0, 5, 119, 64, 65, 0)],
  [(1, 0, 5, 119, 64, 65, 0)],
  [(1, 0, 5, 119, 64, 65, 0)],
  [(1, 0, 5, 119, 64, 65, 0)],
  [],
  [],
  [],
  [],
  [(335, 319, 0, 810, 811, 812, 43)],
  [(492, 320, 0, 820, 821, 822, 43), (495, 322, 1, 824, 825, 50, 0)],
  [],
  [],
  [(1059, 323, 1, 832, 833, 49, 0)],
  [(9, 321, 1, 827, 828, 43, 0)],
  [],
  [],
  [(194, 315, 1, 1046, 485, 46, 0)],
  [(310, 0, 10, 1054, 1057, 1055, 1056), (304, 316, 1, 1061, 482, 46, 0), (150, 0, 9, 1062, 1064, 1063, 48)],
  [],
  [(343, 327, 1, 1213, 1214, 47, 0), (304, 316, 1, 1061, 482, 46, 0), (150, 0, 9, 1062, 1064, 1063, 48)],
  [(339, 328, 1, 1210, 1211, 47, 0), (310, 0, 10, 1054, 1057, 1055, 1056)],
  [],
  [],
  [],
  [],
  [],
  [(114, 325, 1, 1043, 1044, 45, 0)],
  [(104, 335, 6, 1039, 1041, 1, 41), (108, 326, 1, 1051, 1052, 47, 0)],
  [(335, 319, 0, 810, 811, 812, 43), (212, 0, 9, 1117, 1064, 1063, 48)],
  [(40, 319, 0, 1010, 811, 812, 43)],
  [(397, 338, 6, 1090, 1092, 3, 41), (399, 337, 0, 1113, 1114, 1115, 43)],
  [(32, 317, 0, 1007, 807, 808, 43), (100, 336, 6, 1035, 1037, 0, 41), (208, 339, 6, 1086, 1088, 2, 41)],
  [(100, 336, 6, 1035, 1037, 0, 41), (83, 332, 6, 1065, 1066, 1068, 41), (191, 324, 1, 1166, 1167, 50, 0)],
  [(245, 330, 1, 1138, 1139, 51, 0), (100, 336, 6, 1035, 1037, 0, 41), (83, 332, 6, 1065, 1066, 1068, 41), (248, 331, 1, 1141, 1142, 51, 0)],
  [(29, 340, 7, 1028, 1019, 1029, 41)],
  [(50, 341, 7, 1163, 1164, 1029, 41)],
  [(53, 342, 7, 1135, 1136, 1029, 41)],
  [(23, 343, 0, 1024, 1025, 1026, 42)],
  [(343, 334, 7, 1204, 1199, 1029, 41)],
  [(3, 0, 5, 1006, 64, 65, 0), (32, 317, 0, 1007, 807, 808, 43), (40, 319, 0, 1010, 811, 812, 43), (43, 346, 8, 1018, 1022, 1021, 340)],
  [(7, 348, 2, 1003, 1004, 41, 0)],
  [(1, 0, 5, 1192, 64, 65, 0), (552, 333, 6, 1193, 1194, 1196, 41), (549, 347, 8, 1198, 1202, 1201, 334), (1047, 332, 6, 1206, 1066, 1068, 41), (54, 329, 1, 1207, 1208, 47, 0)],
  [(489, 350, 2, 1189, 1190, 43, 0)],
  [(137, 351, 2, 1186, 1187, 43, 0)],
  [(1, 0, 5, 119, 64, 65, 0)],
  [(1, 0, 5, 119, 64, 65, 0)],
  [(1, 0, 5, 119, 64, 65, 0)],
  [(1, 0, 5, 119, 64, 65, 0)],
  [],
  [(8, 357, 1, 795, 796, 28, 0)],
  [(15, 317, 0, 806, 807, 808, 43), (21, 318, 0, 816, 817, 818, 43), (25, 87, 0, 854, 855, 856, 29), (31, 88, 0, 862, 863, 864, 29)],
  [(35, 359, 1, 803, 804, 28, 0), (39, 89, 0, 866, 867, 868, 29)],
  [(46, 349, 2, 1000, 1001, 42, 0), (49, 358, 1, 792, 793, 28, 0), (53, 345, 0, 1131, 1132, 1133, 42), (59, 343, 0, 1157, 1025, 1026, 42), (64, 344, 0, 1159, 1160, 1161, 42), (81, 314, 1, 1179, 511, 46, 0), (87, 352, 0, 1180, 1181, 1182, 42)],
  [(91, 92, 0, 461, 462, 463, 29), (94, 100, 0, 1240, 1241, 1242, 29), (98, 102, 0, 1245, 1246, 1247, 29), (101, 95, 0, 513, 514, 515, 29), (105, 101, 0, 1250, 1251, 1252, 29), (109, 109, 0, 1255, 1256, 1257, 29), (81, 314, 1, 1179, 511, 46, 0), (112, 93, 0, 1260, 1261, 1262, 29), (115, 103, 0, 1264, 1265, 1266, 29), (118, 112, 0, 1269, 1270, 1271, 29), (121, 98, 0, 1273, 1274, 1275, 29), (124, 115, 0, 1281, 1282, 1283, 29), (128, 99, 0, 1285, 1286, 1287, 29), (131, 113, 0, 614, 615, 616, 29), (134, 105, 0, 1290, 1291, 1292, 29)],
  [(49, 358, 1, 792, 793, 28, 0), (101, 95, 0, 513, 514, 515, 29), (137, 129, 0, 763, 764, 765, 29), (140, 133, 0, 1297, 1298, 1299, 29), (143, 130, 0, 768, 769, 770, 29), (146, 132, 0, 1302, 1303, 1304, 29), (149, 135, 0, 1306, 1307, 1308, 29), (152, 131, 0, 1316, 1317, 1318, 29)],
  [(155, 86, 2, 60, 61, 29, 0), (49, 358, 1, 792, 793, 28, 0), (156, 361, 1, 994, 995, 28, 0), (160, 360, 1, 800, 801, 28, 0), (91, 92, 0, 461, 462, 463, 29), (164, 362, 1, 1237, 1238, 28, 0), (137, 129, 0, 763, 764, 765, 29), (101, 95, 0, 513, 514, 515, 29), (168, 316, 1, 1320, 482, 46, 0), (171, 363, 1, 1294, 1295, 28, 0), (175, 119, 0, 618, 619, 620, 29), (178, 122, 0, 718, 719, 720, 29), (181, 123, 0, 722, 723, 724, 29), (184, 128, 0, 735, 736, 737, 29), (131, 113, 0, 614, 615, 616, 29), (187, 142, 0, 780, 781, 782, 29), (190, 126, 0, 726, 727, 728, 29), (193, 137, 0, 772, 773, 774, 29), (143, 130, 0, 768, 769, 770, 29), (196, 143, 0, 784, 785, 786, 29)]]
def am_L (k idx : Nat) : Option (Nat × Nat × Nat × Nat × Nat × Nat) := ((am_ks.getD k []).find? (fun q => q.1 == idx)).map (·.2)
/-- class code, pool index, class index (50: String), field, by a nest mate, place of the word -/
def am_fs : List (Nat × Nat × Nat × Nat × Nat × Nat) := [(0, 7, 5, 1, 0, 148), (0, 13, 5, 4, 0, 160), (0, 16, 5, 2, 0, 152), (0, 19, 5, 5, 0, 164), (0, 28, 0, 0, 0, 120), (0, 31, 0, 1, 0, 123), (0, 32, 5, 3, 0, 157), (0, 42, 0, 2, 0, 126), (0, 45, 0, 3, 0, 128), (1, 7, 1, 0, 0, 249), (1, 13, 1, 1, 0, 251), (1, 16, 1, 2, 0, 253), (1, 19, 1, 3, 0, 255), (1, 22, 1, 4, 0, 257), (1, 25, 1, 5, 0, 259), (2, 11, 2, 0, 0, 288), (2, 19, 2, 1, 0, 291), (2, 25, 2, 2, 0, 294), (2, 29, 2, 3, 0, 295), (2, 36, 2, 4, 0, 298), (2, 49, 2, 5, 0, 300), (2, 53, 2, 6, 0, 303), (2, 56, 2, 7, 0, 306), (2, 59, 2, 8, 0, 308), (2, 62, 2, 9, 0, 309), (2, 65, 2, 10, 0, 311), (2, 85, 5, 0, 0, 146), (2, 88, 10, 0, 0, 229), (2, 115, 5, 4, 0, 162), (2, 122, 5, 5, 0, 166), (2, 125, 5, 1, 0, 150), (2, 128, 5, 2, 0, 154), (2, 139, 1, 0, 0, 250), (2, 140, 1, 1, 0, 252), (2, 143, 1, 2, 0, 254), (2, 146, 1, 3, 0, 256), (2, 149, 1, 4, 0, 258), (2, 150, 1, 5, 0, 260), (2, 170, 5, 3, 0, 158), (2, 176, 5, 6, 0, 170), (2, 179, 5, 7, 0, 173), (2, 201, 5, 14, 0, 188), (2, 204, 5, 15, 0, 189), (2, 214, 5, 10, 0, 181), (2, 217, 5, 9, 0, 179), (2, 220, 5, 13, 0, 187), (2, 223, 5, 11, 0, 183), (2, 226, 0, 0, 0, 122), (2, 227, 0, 1, 0, 125), (2, 231, 5, 12, 0, 185), (3, 11, 3, 0, 0, 416), (3, 18, 3, 2, 0, 418), (3, 22, 3, 1, 0, 417), (4, 9, 4, 0, 0, 72), (4, 15, 4, 1, 0, 76), (5, 9, 5, 0, 0, 145), (5, 15, 5, 1, 0, 149), (5, 18, 5, 2, 0, 153), (5, 21, 5, 3, 0, 156), (5, 24, 5, 4, 0, 161), (5, 27, 5, 5, 0, 165), (5, 30, 5, 6, 0, 168), (5, 33, 5, 7, 0, 172), (5, 36, 5, 8, 0, 175), (5, 39, 5, 9, 0, 177), (5, 42, 5, 10, 0, 180), (5, 45, 5, 11, 0, 182), (5, 48, 5, 12, 0, 184), (5, 51, 5, 13, 0, 186), (5, 67, 10, 1, 0, 232), (5, 73, 10, 2, 0, 235), (6, 11, 6, 0, 0, 344), (6, 16, 6, 1, 0, 345), (6, 20, 6, 2, 0, 346), (7, 9, 7, 0, 0, 90), (8, 12, 8, 0, 0, 377), (8, 21, 8, 1, 0, 379), (8, 25, 8, 6, 0, 386), (8, 34, 8, 2, 0, 381), (8, 38, 8, 5, 0, 384), (8, 45, 8, 3, 0, 382), (8, 51, 9, 1, 0, 362), (8, 66, 2, 6, 0, 304), (8, 88, 2, 5, 0, 301), (8, 101, 8, 4, 0, 383), (8, 104, 2, 0, 0, 289), (8, 114, 5, 8, 0, 176), (8, 121, 5, 9, 0, 178), (8, 124, 5, 6, 0, 169), (8, 127, 9, 3, 0, 367), (8, 130, 9, 0, 0, 361), (8, 134, 4, 0, 0, 74), (8, 140, 9, 2, 0, 365), (8, 159, 2, 1, 0, 292), (8, 163, 10, 0, 0, 230), (8, 182, 2, 3, 0, 297), (9, 7, 9, 0, 0, 360), (9, 13, 9, 2, 0, 364), (9, 17, 9, 3, 0, 366), (9, 23, 4, 1, 0, 77), (9, 26, 4, 0, 0, 73), (9, 34, 9, 1, 0, 363), (10, 7, 10, 0, 0, 228), (10, 13, 10, 1, 0, 231), (10, 16, 10, 2, 0, 234), (11, 10, 11, 0, 0, 427), (11, 19, 11, 1, 0, 428), (11, 28, 11, 2, 0, 429), (11, 35, 11, 3, 0, 430), (11, 42, 11, 4, 0, 431), (11, 46, 11, 5, 0, 432), (11, 49, 11, 6, 0, 433), (11, 55, 11, 7, 0, 434), (11, 59, 11, 10, 0, 437), (11, 63, 4, 1, 0, 75), (11, 74, 8, 5, 0, 385), (11, 77, 11, 9, 0, 436), (11, 80, 8, 6, 0, 387), (11, 83, 8, 0, 0, 378), (11, 88, 8, 1, 0, 380), (11, 95, 11, 8, 0, 435), (11, 99, 2, 5, 0, 302), (11, 106, 2, 6, 0, 305), (11, 109, 2, 9, 0, 310), (11, 112, 2, 7, 0, 307), (11, 115, 2, 10, 0, 312), (11, 122, 3, 2, 0, 419), (11, 129, 2, 3, 0, 296), (11, 148, 2, 0, 0, 290), (11, 160, 2, 1, 0, 293), (11, 170, 5, 0, 0, 147), (11, 188, 2, 4, 0, 299), (11, 192, 0, 0, 0, 121), (11, 197, 0, 1, 0, 124), (11, 200, 0, 2, 0, 127), (11, 203, 0, 3, 0, 129), (11, 229, 5, 3, 0, 159), (11, 239, 5, 1, 0, 151), (11, 240, 5, 2, 0, 155), (11, 250, 5, 4, 0, 163), (11, 253, 10, 1, 0, 233), (11, 254, 5, 5, 0, 167), (11, 257, 10, 2, 0, 236), (11, 283, 5, 6, 0, 171), (11, 289, 5, 7, 0, 174), (50, 9, 13, 0, 0, 1226), (50, 15, 13, 1, 0, 1227), (50, 1048, 12, 2, 0, 1121), (56, 15, 12, 0, 0, 1119), (56, 22, 12, 1, 0, 1120), (56, 79, 12, 3, 0, 1122)]
def am_F (own idx : Nat) : Option (Nat × Nat × Nat × Nat) := (am_fs.find? (fun q => q.1 == own && q.2.1 == idx)).map (·.2.2)
/-- class code, pool index, which static, by a nest mate, place -/
def am_ss : List (Nat × Nat × Nat × Nat × Nat) := [(2, 68, 2, 1, 278), (8, 175, 0, 1, 981), (8, 179, 1, 1, 983), (56, 18, 3, 0, 1070), (57, 83, 6, 0, 1144), (57, 87, 5, 0, 1146), (50, 38, 3, 0, 814), (50, 1053, 4, 0, 830)]
def am_S (own idx : Nat) : Option (Nat × Nat × Nat) := (am_ss.find? (fun q => q.1 == own && q.2.1 == idx)).map (·.2.2)
/-- new: class code, pool index, class index, places of classLink, instantiable, initialized -/
def am_ns : List (Nat × Nat × Nat × Nat × Nat × Nat) := [(2, 33, 0, 114, 115, 34), (2, 9, 5, 108, 140, 35), (2, 17, 10, 110, 223, 36), (2, 23, 1, 112, 244, 37), (3, 9, 2, 413, 103, 33), (8, 9, 2, 102, 103, 33), (8, 18, 6, 336, 337, 38), (8, 29, 9, 354, 355, 39), (11, 7, 4, 66, 67, 30), (11, 16, 7, 84, 85, 31), (11, 23, 8, 96, 97, 32), (11, 32, 6, 403, 337, 38), (11, 39, 2, 405, 103, 33), (11, 52, 3, 407, 408, 40), (55, 18, 13, 1184, 1185, 43), (54, 42, 12, 997, 998, 42), (54, 26, 11, 58, 59, 29)]
def am_W (own idx : Nat) : Option (Nat × Nat × Nat × Nat) := (am_ns.find? (fun q => q.1 == own && q.2.1 == idx)).map (·.2.2)
/-- anewarray: class code, pool index, kind of the array less 100, place of classLink -/
def am_as : List (Nat × Nat × Nat × Nat) := [(2, 9, 5, 108), (2, 17, 6, 110), (2, 23, 7, 112), (3, 9, 8, 413)]
def am_V (own idx : Nat) : Option (Nat × Nat) := (am_as.find? (fun q => q.1 == own && q.2.1 == idx)).map (·.2.2)
/-- throw new E(text): method, pc, which E, pool indices of the class, of the text, wide text, of the constructor -/
def am_xs : List (Nat × Nat × Nat × Nat × Nat × Nat × Nat) := [(144, 17, 0, 215, 350, 1, 219), (145, 17, 0, 215, 352, 1, 219), (146, 9, 1, 354, 356, 1, 358), (147, 4, 2, 359, 361, 1, 363)]
def am_T (k pc : Nat) : Option (Nat × Nat × Nat × Nat × Nat) := (am_xs.find? (fun q => q.1 == k && q.2.1 == pc)).map (·.2.2)
/-- the methods out of which an exception may come -/
def am_th : List Nat := [95, 98, 99, 100, 101, 102, 103, 109, 112, 113, 115, 119, 122, 123, 126, 128, 129, 130, 131, 132, 133, 135, 137, 143, 144, 145, 146, 147, 362, 363, 364]
def am_sr : List (Nat × Nat × String) := [(8, 191, "kite"), (8, 193, "wind"), (8, 195, "slack"), (8, 197, "rise"), (8, 199, "climb"), (8, 201, "sink"), (8, 203, "reach"), (8, 205, "pick"), (8, 207, "sharp"), (8, 208, "tough"), (8, 209, "out"), (11, 350, "no such kite"), (11, 356, "out of range"), (11, 352, "no such wind"), (11, 361, "not in this state"), (54, 44, "reach "), (54, 57, ";pick "), (54, 62, ";slack "), (54, 67, "kite "), (54, 69, " sharp "), (54, 71, " tough "), (54, 73, " out "), (54, 75, "wind "), (54, 77, " -"), (54, 79, " ")]
def am_sb : List (List Int32) := [[107, 105, 116, 101], [119, 105, 110, 100], [115, 108, 97, 99, 107], [114, 105, 115, 101], [99, 108, 105, 109, 98], [115, 105, 110, 107], [114, 101, 97, 99, 104], [112, 105, 99, 107], [115, 104, 97, 114, 112], [116, 111, 117, 103, 104], [111, 117, 116], [110, 111, 32, 115, 117, 99, 104, 32, 107, 105, 116, 101], [111, 117, 116, 32, 111, 102, 32, 114, 97, 110, 103, 101], [110, 111, 32, 115, 117, 99, 104, 32, 119, 105, 110, 100], [110, 111, 116, 32, 105, 110, 32, 116, 104, 105, 115, 32, 115, 116, 97, 116, 101], [114, 101, 97, 99, 104, 32], [59, 112, 105, 99, 107, 32], [59, 115, 108, 97, 99, 107, 32], [107, 105, 116, 101, 32], [32, 115, 104, 97, 114, 112, 32], [32, 116, 111, 117, 103, 104, 32], [32, 111, 117, 116, 32], [119, 105, 110, 100, 32], [32, 45], [32]]
def am_G (own idx : Nat) : Option Nat := am_sr.findIdx? (fun q => q.1 == own && q.2.1 == idx)
def am_gs : List (Nat × Nat × Int64 × Nat) := []
def am_J (own idx : Nat) : Option Int64 := (am_gs.find? (fun q => q.1 == own && q.2.1 == idx)).map (·.2.2.1)
def am_us : List (Nat × Nat × Int32 × Nat) := [(54, 7, (131071 : Int32), 798), (54, 14, (2147483647 : Int32), 799), (56, 38, (2147483631 : Int32), 1008), (56, 39, (2147483647 : Int32), 1009), (59, 200, (2147483639 : Int32), 1047)]
def am_U (own idx : Nat) : Option Int32 := (am_us.find? (fun q => q.1 == own && q.2.1 == idx)).map (·.2.2.1)
def am_ft : List (List Nat) := [[0, 0, 0, 0], [0, 0, 0, 0, 0, 0], [2, 2, 2, 2, 2, 0, 0, 0, 0, 0, 0], [2, 0, 0], [2, 0], [0, 0, 0, 0, 0, 0, 0, 0, 0, 0, 0, 0, 0, 0, 0, 0], [2, 2, 0], [2, 0], [2, 2, 2, 0, 0, 0, 0], [2, 0, 0, 0], [0, 0, 0], [2, 2, 2, 2, 2, 2, 2, 2, 1, 0, 0], [2, 3, 1, 0], [2, 3, 0, 1]]
def am_f (ci k : Nat) : Nat := (am_ft.getD ci []).getD k 0
def am_nf (ci : Nat) : Nat := (am_ft.getD ci []).length
def am_E (k : Nat) : String := match k with
  | 0 => "java/lang/IndexOutOfBoundsException"
  | 1 => "java/lang/IllegalArgumentException"
  | _ => "java/lang/IllegalStateException"
end
section
/-! the code of each method is that of the printed bytes, laid by wip/p60/lay06.py -/
def am_len : Instr → Nat
  | .iconst _ => 1 | .bipush _ => 2 | .sipush _ => 3 | .lconst _ => 1 | .fconst _ => 1 | .dconst _ => 1
  | .iload_n _ => 1 | .iload _ => 2 | .fload _ => 2 | .aload_n _ => 1 | .aload _ => 2 | .lload_n _ => 1 | .lload _ => 2 | .dload_n _ => 1 | .dload _ => 2
  | .istore_n _ => 1 | .istore _ => 2 | .fstore _ => 2 | .astore_n _ => 1 | .astore _ => 2 | .dstore _ => 2 | .iinc _ _ => 3
  | .ifCond _ _ => 3 | .if_icmp _ _ => 3 | .goto _ => 3 | .tableswitch _ _ _ _ => 0 | .lookupswitch _ _ => 0
  | .getfield _ => 3 | .putfield _ => 3 | .getstatic _ => 3 | .new _ => 3 | .newarray _ => 2 | .anewarray _ => 3 | .multianewarray _ _ => 4
  | .ldc _ => 2 | .ldc_w _ => 3 | .ldc2_w _ => 3 | .invokevirtual _ => 3 | .invokestatic _ => 3 | .invokespecial _ => 3 | .ifnonnull _ => 3 | .checkcast _ => 3
  | _ => 1
def am_k1 (cc : ByteArray) (q : Nat × Instr) : Bool := match decode cc q.1 with | .ok (i, n) => decide (i = q.2) && (am_len i == 0 || n == am_len i) | .error _ => false
def am_kL (cc : ByteArray) (l : List (Nat × Instr)) : Bool := l.all (am_k1 cc)
theorem am_kL2 {cc : ByteArray} {a b : List (Nat × Instr)} (h1 : am_kL cc a = true) (h2 : am_kL cc b = true) : am_kL cc (a ++ b) = true := by
  unfold am_kL at *
  rw [List.all_append, h1, h2]; rfl
end
section
/-! the code of each method is that of the printed bytes, 0 -/
set_option maxRecDepth 100000 in
theorem am_Q0 : am_kL cX0_init am_c0 = true := by decide +kernel
set_option maxRecDepth 100000 in
theorem am_Q1_0 : am_kL cX0_isBetween am_c1_0 = true := by decide +kernel
set_option maxRecDepth 100000 in
theorem am_Q1_1 : am_kL cX0_isBetween am_c1_1 = true := by decide +kernel
set_option maxRecDepth 100000 in
theorem am_Q1_2 : am_kL cX0_isBetween am_c1_2 = true := by decide +kernel
set_option maxRecDepth 100000 in
theorem am_Q1_3 : am_kL cX0_isBetween am_c1_3 = true := by decide +kernel
theorem am_Q1 : am_kL cX0_isBetween am_c1 = true := (am_kL2 am_Q1_0 (am_kL2 am_Q1_1 (am_kL2 am_Q1_2 am_Q1_3)))
set_option maxRecDepth 100000 in
theorem am_Q2 : am_kL cX0_heightOfLine am_c2 = true := by decide +kernel
set_option maxRecDepth 100000 in
theorem am_Q3 : am_kL cX0_heightsApart am_c3 = true := by decide +kernel
set_option maxRecDepth 100000 in
theorem am_Q4 : am_kL cX1_init am_c4 = true := by decide +kernel
set_option maxRecDepth 100000 in
theorem am_Q5 : am_kL cX1_copyFrom am_c5 = true := by decide +kernel
set_option maxRecDepth 100000 in
theorem am_Q7_0 : am_kL cX2_init am_c7_0 = true := by decide +kernel
set_option maxRecDepth 100000 in
theorem am_Q7_1 : am_kL cX2_init am_c7_1 = true := by decide +kernel
theorem am_Q7 : am_kL cX2_init am_c7 = true := (am_kL2 am_Q7_0 am_Q7_1)
set_option maxRecDepth 100000 in
theorem am_Q8 : am_kL cX2_clear am_c8 = true := by decide +kernel
set_option maxRecDepth 100000 in
theorem am_Q9 : am_kL cX2_addDefaultWind am_c9 = true := by decide +kernel
set_option maxRecDepth 100000 in
theorem am_Q10_0 : am_kL cX2_copyFrom am_c10_0 = true := by decide +kernel
set_option maxRecDepth 100000 in
theorem am_Q10_1 : am_kL cX2_copyFrom am_c10_1 = true := by decide +kernel
set_option maxRecDepth 100000 in
theorem am_Q10_2 : am_kL cX2_copyFrom am_c10_2 = true := by decide +kernel
theorem am_Q10 : am_kL cX2_copyFrom am_c10 = true := (am_kL2 am_Q10_0 (am_kL2 am_Q10_1 am_Q10_2))
set_option maxRecDepth 100000 in
theorem am_Q11 : am_kL cX2_kitesInState am_c11 = true := by decide +kernel
set_option maxRecDepth 100000 in
theorem am_Q12 : am_kL cX2_windNumberAt am_c12 = true := by decide +kernel
set_option maxRecDepth 100000 in
theorem am_Q13 : am_kL cX2_linesCross am_c13 = true := by decide +kernel
set_option maxRecDepth 100000 in
theorem am_Q14 : am_kL cX2_linesRub am_c14 = true := by decide +kernel
set_option maxRecDepth 100000 in
theorem am_Q15 : am_kL cX2_pairs am_c15 = true := by decide +kernel
set_option maxRecDepth 100000 in
theorem am_Q16_0 : am_kL cX2_pickerAt am_c16_0 = true := by decide +kernel
set_option maxRecDepth 100000 in
theorem am_Q16_1 : am_kL cX2_pickerAt am_c16_1 = true := by decide +kernel
theorem am_Q16 : am_kL cX2_pickerAt am_c16 = true := (am_kL2 am_Q16_0 am_Q16_1)
set_option maxRecDepth 100000 in
theorem am_Q17 : am_kL cX2_eventAt am_c17 = true := by decide +kernel
set_option maxRecDepth 100000 in
theorem am_Q18 : am_kL cX2_tellOfKite am_c18 = true := by decide +kernel
set_option maxRecDepth 100000 in
theorem am_Q19 : am_kL cX2_tell am_c19 = true := by decide +kernel
set_option maxRecDepth 100000 in
theorem am_Q20 : am_kL cX2_passTicks am_c20 = true := by decide +kernel
set_option maxRecDepth 100000 in
theorem am_Q21_0 : am_kL cX2_tick am_c21_0 = true := by decide +kernel
set_option maxRecDepth 100000 in
theorem am_Q21_1 : am_kL cX2_tick am_c21_1 = true := by decide +kernel
theorem am_Q21 : am_kL cX2_tick am_c21 = true := (am_kL2 am_Q21_0 am_Q21_1)
set_option maxRecDepth 100000 in
theorem am_Q22_0 : am_kL cX2_fly am_c22_0 = true := by decide +kernel
set_option maxRecDepth 100000 in
theorem am_Q22_1 : am_kL cX2_fly am_c22_1 = true := by decide +kernel
set_option maxRecDepth 100000 in
theorem am_Q22_2 : am_kL cX2_fly am_c22_2 = true := by decide +kernel
theorem am_Q22 : am_kL cX2_fly am_c22 = true := (am_kL2 am_Q22_0 (am_kL2 am_Q22_1 am_Q22_2))
set_option maxRecDepth 100000 in
theorem am_Q23_0 : am_kL cX2_rubAllLines am_c23_0 = true := by decide +kernel
set_option maxRecDepth 100000 in
theorem am_Q23_1 : am_kL cX2_rubAllLines am_c23_1 = true := by decide +kernel
set_option maxRecDepth 100000 in
theorem am_Q23_2 : am_kL cX2_rubAllLines am_c23_2 = true := by decide +kernel
theorem am_Q23 : am_kL cX2_rubAllLines am_c23 = true := (am_kL2 am_Q23_0 (am_kL2 am_Q23_1 am_Q23_2))
end
section
/-! the code of each method is that of the printed bytes, 1 -/
set_option maxRecDepth 100000 in
theorem am_Q24 : am_kL cX2_wearLine am_c24 = true := by decide +kernel
set_option maxRecDepth 100000 in
theorem am_Q25_0 : am_kL cX2_cutWornLines am_c25_0 = true := by decide +kernel
set_option maxRecDepth 100000 in
theorem am_Q25_1 : am_kL cX2_cutWornLines am_c25_1 = true := by decide +kernel
theorem am_Q25 : am_kL cX2_cutWornLines am_c25 = true := (am_kL2 am_Q25_0 am_Q25_1)
set_option maxRecDepth 100000 in
theorem am_Q26 : am_kL cX2_drift am_c26 = true := by decide +kernel
set_option maxRecDepth 100000 in
theorem am_Q27_0 : am_kL cX2_pickUpFallenKites am_c27_0 = true := by decide +kernel
set_option maxRecDepth 100000 in
theorem am_Q27_1 : am_kL cX2_pickUpFallenKites am_c27_1 = true := by decide +kernel
theorem am_Q27 : am_kL cX2_pickUpFallenKites am_c27 = true := (am_kL2 am_Q27_0 am_Q27_1)
set_option maxRecDepth 100000 in
theorem am_Q28 : am_kL cX3_init am_c28 = true := by decide +kernel
set_option maxRecDepth 100000 in
theorem am_Q29 : am_kL cX3_clear am_c29 = true := by decide +kernel
set_option maxRecDepth 100000 in
theorem am_Q30 : am_kL cX3_remember am_c30 = true := by decide +kernel
set_option maxRecDepth 100000 in
theorem am_Q31 : am_kL cX3_takeBack am_c31 = true := by decide +kernel
set_option maxRecDepth 100000 in
theorem am_Q32 : am_kL cX4_init am_c32 = true := by decide +kernel
set_option maxRecDepth 100000 in
theorem am_Q33 : am_kL cX4_addFour am_c33 = true := by decide +kernel
set_option maxRecDepth 100000 in
theorem am_Q34 : am_kL cX5_init am_c34 = true := by decide +kernel
set_option maxRecDepth 100000 in
theorem am_Q35_0 : am_kL cX5_copyFrom am_c35_0 = true := by decide +kernel
set_option maxRecDepth 100000 in
theorem am_Q35_1 : am_kL cX5_copyFrom am_c35_1 = true := by decide +kernel
theorem am_Q35 : am_kL cX5_copyFrom am_c35 = true := (am_kL2 am_Q35_0 am_Q35_1)
set_option maxRecDepth 100000 in
theorem am_Q36 : am_kL cX5_startAt am_c36 = true := by decide +kernel
set_option maxRecDepth 100000 in
theorem am_Q38 : am_kL cX5_goDownAtFlyer am_c38 = true := by decide +kernel
set_option maxRecDepth 100000 in
theorem am_Q39 : am_kL cX5_number am_c39 = true := by decide +kernel
set_option maxRecDepth 100000 in
theorem am_Q41_0 : am_kL cX5_distanceTo am_c41_0 = true := by decide +kernel
set_option maxRecDepth 100000 in
theorem am_Q41_1 : am_kL cX5_distanceTo am_c41_1 = true := by decide +kernel
theorem am_Q41 : am_kL cX5_distanceTo am_c41 = true := (am_kL2 am_Q41_0 am_Q41_1)
set_option maxRecDepth 100000 in
theorem am_Q42 : am_kL cX5_spanNow am_c42 = true := by decide +kernel
set_option maxRecDepth 100000 in
theorem am_Q43 : am_kL cX5_slackNow am_c43 = true := by decide +kernel
set_option maxRecDepth 100000 in
theorem am_Q44 : am_kL cX5_wearBrought am_c44 = true := by decide +kernel
set_option maxRecDepth 100000 in
theorem am_Q45 : am_kL cX5_blow am_c45 = true := by decide +kernel
set_option maxRecDepth 100000 in
theorem am_Q46_0 : am_kL cX5_pullIn am_c46_0 = true := by decide +kernel
set_option maxRecDepth 100000 in
theorem am_Q46_1 : am_kL cX5_pullIn am_c46_1 = true := by decide +kernel
set_option maxRecDepth 100000 in
theorem am_Q46_2 : am_kL cX5_pullIn am_c46_2 = true := by decide +kernel
theorem am_Q46 : am_kL cX5_pullIn am_c46 = true := (am_kL2 am_Q46_0 (am_kL2 am_Q46_1 am_Q46_2))
set_option maxRecDepth 100000 in
theorem am_Q47 : am_kL cX6_init am_c47 = true := by decide +kernel
set_option maxRecDepth 100000 in
theorem am_Q48 : am_kL cX6_clear am_c48 = true := by decide +kernel
set_option maxRecDepth 100000 in
theorem am_Q49 : am_kL cX6_copyFrom am_c49 = true := by decide +kernel
set_option maxRecDepth 100000 in
theorem am_Q50 : am_kL cX6_addWord am_c50 = true := by decide +kernel
set_option maxRecDepth 100000 in
theorem am_Q51 : am_kL cX6_numberOf am_c51 = true := by decide +kernel
set_option maxRecDepth 100000 in
theorem am_Q52 : am_kL cX6_isSame am_c52 = true := by decide +kernel
set_option maxRecDepth 100000 in
theorem am_Q53 : am_kL cX7_init am_c53 = true := by decide +kernel
set_option maxRecDepth 100000 in
theorem am_Q60 : am_kL cX8_init am_c60 = true := by decide +kernel
set_option maxRecDepth 100000 in
theorem am_Q61 : am_kL cX8_readText am_c61 = true := by decide +kernel
set_option maxRecDepth 100000 in
theorem am_Q62 : am_kL cX8_readStatement am_c62 = true := by decide +kernel
end
section
/-! the code of each method is that of the printed bytes, 2 -/
set_option maxRecDepth 100000 in
theorem am_Q63_0 : am_kL cX8_readKite am_c63_0 = true := by decide +kernel
set_option maxRecDepth 100000 in
theorem am_Q63_1 : am_kL cX8_readKite am_c63_1 = true := by decide +kernel
set_option maxRecDepth 100000 in
theorem am_Q63_2 : am_kL cX8_readKite am_c63_2 = true := by decide +kernel
theorem am_Q63 : am_kL cX8_readKite am_c63 = true := (am_kL2 am_Q63_0 (am_kL2 am_Q63_1 am_Q63_2))
set_option maxRecDepth 100000 in
theorem am_Q64_0 : am_kL cX8_readName am_c64_0 = true := by decide +kernel
set_option maxRecDepth 100000 in
theorem am_Q64_1 : am_kL cX8_readName am_c64_1 = true := by decide +kernel
theorem am_Q64 : am_kL cX8_readName am_c64 = true := (am_kL2 am_Q64_0 am_Q64_1)
set_option maxRecDepth 100000 in
theorem am_Q65 : am_kL cX8_readOption am_c65 = true := by decide +kernel
set_option maxRecDepth 100000 in
theorem am_Q66_0 : am_kL cX8_readWind am_c66_0 = true := by decide +kernel
set_option maxRecDepth 100000 in
theorem am_Q66_1 : am_kL cX8_readWind am_c66_1 = true := by decide +kernel
theorem am_Q66 : am_kL cX8_readWind am_c66 = true := (am_kL2 am_Q66_0 am_Q66_1)
set_option maxRecDepth 100000 in
theorem am_Q67 : am_kL cX8_readSpeed am_c67 = true := by decide +kernel
set_option maxRecDepth 100000 in
theorem am_Q68 : am_kL cX8_readSetting am_c68 = true := by decide +kernel
set_option maxRecDepth 100000 in
theorem am_Q69 : am_kL cX8_readNumber am_c69 = true := by decide +kernel
set_option maxRecDepth 100000 in
theorem am_Q70 : am_kL cX8_readSemicolon am_c70 = true := by decide +kernel
set_option maxRecDepth 100000 in
theorem am_Q71 : am_kL cX8_fail am_c71 = true := by decide +kernel
set_option maxRecDepth 100000 in
theorem am_Q72 : am_kL cX8_quotedWord am_c72 = true := by decide +kernel
set_option maxRecDepth 100000 in
theorem am_Q73 : am_kL cX8_quoted am_c73 = true := by decide +kernel
set_option maxRecDepth 100000 in
theorem am_Q74 : am_kL cX9_init am_c74 = true := by decide +kernel
set_option maxRecDepth 100000 in
theorem am_Q75 : am_kL cX9_readFirst am_c75 = true := by decide +kernel
set_option maxRecDepth 100000 in
theorem am_Q76_0 : am_kL cX9_readNext am_c76_0 = true := by decide +kernel
set_option maxRecDepth 100000 in
theorem am_Q76_1 : am_kL cX9_readNext am_c76_1 = true := by decide +kernel
set_option maxRecDepth 100000 in
theorem am_Q76_2 : am_kL cX9_readNext am_c76_2 = true := by decide +kernel
theorem am_Q76 : am_kL cX9_readNext am_c76 = true := (am_kL2 am_Q76_0 (am_kL2 am_Q76_1 am_Q76_2))
set_option maxRecDepth 100000 in
theorem am_Q77 : am_kL cX9_kindOf am_c77 = true := by decide +kernel
set_option maxRecDepth 100000 in
theorem am_Q78 : am_kL cX9_isNumber am_c78 = true := by decide +kernel
set_option maxRecDepth 100000 in
theorem am_Q79 : am_kL cX9_value am_c79 = true := by decide +kernel
set_option maxRecDepth 100000 in
theorem am_Q80 : am_kL cX9_isWord am_c80 = true := by decide +kernel
set_option maxRecDepth 100000 in
theorem am_Q81 : am_kL cX10_init am_c81 = true := by decide +kernel
set_option maxRecDepth 100000 in
theorem am_Q82 : am_kL cX10_copyFrom am_c82 = true := by decide +kernel
set_option maxRecDepth 100000 in
theorem am_Q83 : am_kL cX10_become am_c83 = true := by decide +kernel
set_option maxRecDepth 100000 in
theorem am_Q84 : am_kL cX10_force am_c84 = true := by decide +kernel
set_option maxRecDepth 100000 in
theorem am_Q86 : am_kL cX11_init am_c86 = true := by decide +kernel
set_option maxRecDepth 100000 in
theorem am_Q87 : am_kL cX11_feed am_c87 = true := by decide +kernel
set_option maxRecDepth 100000 in
theorem am_Q88 : am_kL cX11_truncate am_c88 = true := by decide +kernel
set_option maxRecDepth 100000 in
theorem am_Q89 : am_kL cX11_parse am_c89 = true := by decide +kernel
set_option maxRecDepth 100000 in
theorem am_Q92_0 : am_kL cX11_count am_c92_0 = true := by decide +kernel
set_option maxRecDepth 100000 in
theorem am_Q92_1 : am_kL cX11_count am_c92_1 = true := by decide +kernel
theorem am_Q92 : am_kL cX11_count am_c92 = true := (am_kL2 am_Q92_0 am_Q92_1)
set_option maxRecDepth 100000 in
theorem am_Q93 : am_kL cX11_setting am_c93 = true := by decide +kernel
set_option maxRecDepth 100000 in
theorem am_Q95 : am_kL cX11_kite am_c95 = true := by decide +kernel
set_option maxRecDepth 100000 in
theorem am_Q98 : am_kL cX11_span am_c98 = true := by decide +kernel
set_option maxRecDepth 100000 in
theorem am_Q99 : am_kL cX11_slack am_c99 = true := by decide +kernel
end
section
/-! the code of each method is that of the printed bytes, 3 -/
set_option maxRecDepth 100000 in
theorem am_Q100 : am_kL cX11_crosses am_c100 = true := by decide +kernel
set_option maxRecDepth 100000 in
theorem am_Q101_0 : am_kL cX11_crossing am_c101_0 = true := by decide +kernel
set_option maxRecDepth 100000 in
theorem am_Q101_1 : am_kL cX11_crossing am_c101_1 = true := by decide +kernel
theorem am_Q101 : am_kL cX11_crossing am_c101 = true := (am_kL2 am_Q101_0 am_Q101_1)
set_option maxRecDepth 100000 in
theorem am_Q102 : am_kL cX11_rubs am_c102 = true := by decide +kernel
set_option maxRecDepth 100000 in
theorem am_Q103 : am_kL cX11_wearNow am_c103 = true := by decide +kernel
set_option maxRecDepth 100000 in
theorem am_Q105 : am_kL cX11_highest am_c105 = true := by decide +kernel
set_option maxRecDepth 100000 in
theorem am_Q109 : am_kL cX11_gap am_c109 = true := by decide +kernel
set_option maxRecDepth 100000 in
theorem am_Q112 : am_kL cX11_threat am_c112 = true := by decide +kernel
set_option maxRecDepth 100000 in
theorem am_Q113 : am_kL cX11_sum am_c113 = true := by decide +kernel
set_option maxRecDepth 100000 in
theorem am_Q115_0 : am_kL cX11_inBox am_c115_0 = true := by decide +kernel
set_option maxRecDepth 100000 in
theorem am_Q115_1 : am_kL cX11_inBox am_c115_1 = true := by decide +kernel
theorem am_Q115 : am_kL cX11_inBox am_c115 = true := (am_kL2 am_Q115_0 am_Q115_1)
set_option maxRecDepth 100000 in
theorem am_Q119 : am_kL cX11_kiteIn am_c119 = true := by decide +kernel
set_option maxRecDepth 100000 in
theorem am_Q122 : am_kL cX11_cutsIn am_c122 = true := by decide +kernel
set_option maxRecDepth 100000 in
theorem am_Q123 : am_kL cX11_landsIn am_c123 = true := by decide +kernel
set_option maxRecDepth 100000 in
theorem am_Q126 : am_kL cX11_bestReel am_c126 = true := by decide +kernel
set_option maxRecDepth 100000 in
theorem am_Q128 : am_kL cX11_run am_c128 = true := by decide +kernel
set_option maxRecDepth 100000 in
theorem am_Q129 : am_kL cX11_launch am_c129 = true := by decide +kernel
set_option maxRecDepth 100000 in
theorem am_Q130 : am_kL cX11_reel am_c130 = true := by decide +kernel
set_option maxRecDepth 100000 in
theorem am_Q131 : am_kL cX11_letGo am_c131 = true := by decide +kernel
set_option maxRecDepth 100000 in
theorem am_Q132 : am_kL cX11_pull am_c132 = true := by decide +kernel
set_option maxRecDepth 100000 in
theorem am_Q133_0 : am_kL cX11_walk am_c133_0 = true := by decide +kernel
set_option maxRecDepth 100000 in
theorem am_Q133_1 : am_kL cX11_walk am_c133_1 = true := by decide +kernel
theorem am_Q133 : am_kL cX11_walk am_c133 = true := (am_kL2 am_Q133_0 am_Q133_1)
set_option maxRecDepth 100000 in
theorem am_Q135 : am_kL cX11_setWind am_c135 = true := by decide +kernel
set_option maxRecDepth 100000 in
theorem am_Q137 : am_kL cX11_undo am_c137 = true := by decide +kernel
set_option maxRecDepth 100000 in
theorem am_Q142 : am_kL cX11_saveState am_c142 = true := by decide +kernel
set_option maxRecDepth 100000 in
theorem am_Q143 : am_kL cX11_restoreState am_c143 = true := by decide +kernel
set_option maxRecDepth 100000 in
theorem am_Q144 : am_kL cX11_checkKite am_c144 = true := by decide +kernel
set_option maxRecDepth 100000 in
theorem am_Q145 : am_kL cX11_checkWind am_c145 = true := by decide +kernel
set_option maxRecDepth 100000 in
theorem am_Q146 : am_kL cX11_checkRange am_c146 = true := by decide +kernel
set_option maxRecDepth 100000 in
theorem am_Q147 : am_kL cX11_checkState am_c147 = true := by decide +kernel
set_option maxRecDepth 100000 in
theorem am_Q148_0 : am_kL cX11_reelFor am_c148_0 = true := by decide +kernel
set_option maxRecDepth 100000 in
theorem am_Q148_1 : am_kL cX11_reelFor am_c148_1 = true := by decide +kernel
theorem am_Q148 : am_kL cX11_reelFor am_c148 = true := (am_kL2 am_Q148_0 am_Q148_1)
set_option maxRecDepth 100000 in
theorem am_Q151 : am_kL cX11_isIn am_c151 = true := by decide +kernel
set_option maxRecDepth 100000 in
theorem am_Q152 : am_kL cX11_bounded am_c152 = true := by decide +kernel
set_option maxRecDepth 100000 in
theorem am_Q313 : am_kL cJ9_floorDiv_7cf53 am_c313 = true := by decide +kernel
set_option maxRecDepth 100000 in
theorem am_Q314 : am_kL cJ9_abs_0f7a4 am_c314 = true := by decide +kernel
set_option maxRecDepth 100000 in
theorem am_Q315 : am_kL cJ9_max_7cf53 am_c315 = true := by decide +kernel
set_option maxRecDepth 100000 in
theorem am_Q316 : am_kL cJ9_min_7cf53 am_c316 = true := by decide +kernel
set_option maxRecDepth 100000 in
theorem am_Q317 : am_kL cJ0_length_8abf5 am_c317 = true := by decide +kernel
set_option maxRecDepth 100000 in
theorem am_Q318 : am_kL cJ0_charAt_5068e am_c318 = true := by decide +kernel
end
section
/-! the code of each method is that of the printed bytes, 4 -/
set_option maxRecDepth 100000 in
theorem am_Q319 : am_kL cJ0_coder_7d493 am_c319 = true := by decide +kernel
set_option maxRecDepth 100000 in
theorem am_Q320 : am_kL cJ0_isLatin1_aae02 am_c320 = true := by decide +kernel
set_option maxRecDepth 100000 in
theorem am_Q321 : am_kL cJ0_checkIndex_df160 am_c321 = true := by decide +kernel
set_option maxRecDepth 100000 in
theorem am_Q322 : am_kL cJ1_charAt_3b067 am_c322 = true := by decide +kernel
set_option maxRecDepth 100000 in
theorem am_Q323 : am_kL cJ3_checkIndex_8e157 am_c323 = true := by decide +kernel
set_option maxRecDepth 100000 in
theorem am_Q324 : am_kL cJ1_canEncode_fc78d am_c324 = true := by decide +kernel
set_option maxRecDepth 100000 in
theorem am_Q325 : am_kL cJ8_newLength_cabcc am_c325 = true := by decide +kernel
set_option maxRecDepth 100000 in
theorem am_Q326 : am_kL cJ7_copyOf_9075b am_c326 = true := by decide +kernel
set_option maxRecDepth 100000 in
theorem am_Q327 : am_kL cJ7_checkLength_df160 am_c327 = true := by decide +kernel
set_option maxRecDepth 100000 in
theorem am_Q328 : am_kL cJ7_copyOfRangeByte_39247 am_c328 = true := by decide +kernel
set_option maxRecDepth 100000 in
theorem am_Q329 : am_kL cJ7_copyOfRange_39247 am_c329 = true := by decide +kernel
set_option maxRecDepth 100000 in
theorem am_Q330 : am_kL cJ6_stringSize_0f7a4 am_c330 = true := by decide +kernel
set_option maxRecDepth 100000 in
theorem am_Q331_0 : am_kL cJ6_getChars_ba4f3 am_c331_0 = true := by decide +kernel
set_option maxRecDepth 100000 in
theorem am_Q331_1 : am_kL cJ6_getChars_ba4f3 am_c331_1 = true := by decide +kernel
theorem am_Q331 : am_kL cJ6_getChars_ba4f3 am_c331 = true := (am_kL2 am_Q331_0 am_Q331_1)
set_option maxRecDepth 100000 in
theorem am_Q332 : am_kL cJ5_isLatin1_aae02 am_c332 = true := by decide +kernel
set_option maxRecDepth 100000 in
theorem am_Q333 : am_kL cJ5_getValue_6d5f1 am_c333 = true := by decide +kernel
set_option maxRecDepth 100000 in
theorem am_Q334 : am_kL cJ5_length_8abf5 am_c334 = true := by decide +kernel
set_option maxRecDepth 100000 in
theorem am_Q335 : am_kL cJ5_newCapacity_0f7a4 am_c335 = true := by decide +kernel
set_option maxRecDepth 100000 in
theorem am_Q336 : am_kL cJ5_ensureCapacityInternal_d00df am_c336 = true := by decide +kernel
set_option maxRecDepth 100000 in
theorem am_Q337 : am_kL cJ0_getBytes_840e7 am_c337 = true := by decide +kernel
set_option maxRecDepth 100000 in
theorem am_Q338 : am_kL cJ5_inflateIfNeededFor_a7421 am_c338 = true := by decide +kernel
set_option maxRecDepth 100000 in
theorem am_Q339 : am_kL cJ5_putStringAt_47b60 am_c339 = true := by decide +kernel
set_option maxRecDepth 100000 in
theorem am_Q340 : am_kL cJ5_append_cf1ce am_c340 = true := by decide +kernel
set_option maxRecDepth 100000 in
theorem am_Q341 : am_kL cJ5_append_3fe6f am_c341 = true := by decide +kernel
set_option maxRecDepth 100000 in
theorem am_Q342 : am_kL cJ5_append_c97b9 am_c342 = true := by decide +kernel
set_option maxRecDepth 100000 in
theorem am_Q343 : am_kL cJ4_append_15ec4 am_c343 = true := by decide +kernel
set_option maxRecDepth 100000 in
theorem am_Q344 : am_kL cJ4_append_cf468 am_c344 = true := by decide +kernel
set_option maxRecDepth 100000 in
theorem am_Q345 : am_kL cJ4_append_bf812 am_c345 = true := by decide +kernel
set_option maxRecDepth 100000 in
theorem am_Q346 : am_kL cJ4_append_cf1ce am_c346 = true := by decide +kernel
set_option maxRecDepth 100000 in
theorem am_Q347 : am_kL cJ4_length_8abf5 am_c347 = true := by decide +kernel
set_option maxRecDepth 100000 in
theorem am_Q348 : am_kL cJ5_init_a7421 am_c348 = true := by decide +kernel
set_option maxRecDepth 100000 in
theorem am_Q349 : am_kL cJ4_init_a7421 am_c349 = true := by decide +kernel
set_option maxRecDepth 100000 in
theorem am_Q350_0 : am_kL cJ0_init_db425 am_c350_0 = true := by decide +kernel
set_option maxRecDepth 100000 in
theorem am_Q350_1 : am_kL cJ0_init_db425 am_c350_1 = true := by decide +kernel
theorem am_Q350 : am_kL cJ0_init_db425 am_c350 = true := (am_kL2 am_Q350_0 am_Q350_1)
set_option maxRecDepth 100000 in
theorem am_Q351 : am_kL cJ0_init_81219 am_c351 = true := by decide +kernel
set_option maxRecDepth 100000 in
theorem am_Q352 : am_kL cJ4_toString_0e30d am_c352 = true := by decide +kernel
set_option maxRecDepth 100000 in
theorem am_Q357 : am_kL cL_cell am_c357 = true := by decide +kernel
set_option maxRecDepth 100000 in
theorem am_Q358 : am_kL cL_draw am_c358 = true := by decide +kernel
set_option maxRecDepth 100000 in
theorem am_Q359_0 : am_kL cL_fed am_c359_0 = true := by decide +kernel
set_option maxRecDepth 100000 in
theorem am_Q359_1 : am_kL cL_fed am_c359_1 = true := by decide +kernel
theorem am_Q359 : am_kL cL_fed am_c359 = true := (am_kL2 am_Q359_0 am_Q359_1)
set_option maxRecDepth 100000 in
theorem am_Q360 : am_kL cL_parsed am_c360 = true := by decide +kernel
set_option maxRecDepth 100000 in
theorem am_Q361_0 : am_kL cL_setup am_c361_0 = true := by decide +kernel
set_option maxRecDepth 100000 in
theorem am_Q361_1 : am_kL cL_setup am_c361_1 = true := by decide +kernel
set_option maxRecDepth 100000 in
theorem am_Q361_2 : am_kL cL_setup am_c361_2 = true := by decide +kernel
set_option maxRecDepth 100000 in
theorem am_Q361_3 : am_kL cL_setup am_c361_3 = true := by decide +kernel
set_option maxRecDepth 100000 in
theorem am_Q361_4 : am_kL cL_setup am_c361_4 = true := by decide +kernel
theorem am_Q361 : am_kL cL_setup am_c361 = true := (am_kL2 am_Q361_0 (am_kL2 am_Q361_1 (am_kL2 am_Q361_2 (am_kL2 am_Q361_3 am_Q361_4))))
set_option maxRecDepth 100000 in
theorem am_Q362_0 : am_kL cL_isSound am_c362_0 = true := by decide +kernel
set_option maxRecDepth 100000 in
theorem am_Q362_1 : am_kL cL_isSound am_c362_1 = true := by decide +kernel
set_option maxRecDepth 100000 in
theorem am_Q362_2 : am_kL cL_isSound am_c362_2 = true := by decide +kernel
set_option maxRecDepth 100000 in
theorem am_Q362_3 : am_kL cL_isSound am_c362_3 = true := by decide +kernel
set_option maxRecDepth 100000 in
theorem am_Q362_4 : am_kL cL_isSound am_c362_4 = true := by decide +kernel
set_option maxRecDepth 100000 in
theorem am_Q362_5 : am_kL cL_isSound am_c362_5 = true := by decide +kernel
set_option maxRecDepth 100000 in
theorem am_Q362_6 : am_kL cL_isSound am_c362_6 = true := by decide +kernel
set_option maxRecDepth 100000 in
theorem am_Q362_7 : am_kL cL_isSound am_c362_7 = true := by decide +kernel
set_option maxRecDepth 100000 in
theorem am_Q362_8 : am_kL cL_isSound am_c362_8 = true := by decide +kernel
theorem am_Q362 : am_kL cL_isSound am_c362 = true := (am_kL2 am_Q362_0 (am_kL2 am_Q362_1 (am_kL2 am_Q362_2 (am_kL2 am_Q362_3 (am_kL2 am_Q362_4 (am_kL2 am_Q362_5 (am_kL2 am_Q362_6 (am_kL2 am_Q362_7 am_Q362_8))))))))
end
section
/-! the code of each method is that of the printed bytes, 5 -/
set_option maxRecDepth 100000 in
theorem am_Q363_0 : am_kL cL_acts am_c363_0 = true := by decide +kernel
set_option maxRecDepth 100000 in
theorem am_Q363_1 : am_kL cL_acts am_c363_1 = true := by decide +kernel
set_option maxRecDepth 100000 in
theorem am_Q363_2 : am_kL cL_acts am_c363_2 = true := by decide +kernel
set_option maxRecDepth 100000 in
theorem am_Q363_3 : am_kL cL_acts am_c363_3 = true := by decide +kernel
theorem am_Q363 : am_kL cL_acts am_c363 = true := (am_kL2 am_Q363_0 (am_kL2 am_Q363_1 (am_kL2 am_Q363_2 am_Q363_3)))
set_option maxRecDepth 100000 in
theorem am_Q364_0 : am_kL cL_law am_c364_0 = true := by decide +kernel
set_option maxRecDepth 100000 in
theorem am_Q364_1 : am_kL cL_law am_c364_1 = true := by decide +kernel
set_option maxRecDepth 100000 in
theorem am_Q364_2 : am_kL cL_law am_c364_2 = true := by decide +kernel
set_option maxRecDepth 100000 in
theorem am_Q364_3 : am_kL cL_law am_c364_3 = true := by decide +kernel
set_option maxRecDepth 100000 in
theorem am_Q364_4 : am_kL cL_law am_c364_4 = true := by decide +kernel
set_option maxRecDepth 100000 in
theorem am_Q364_5 : am_kL cL_law am_c364_5 = true := by decide +kernel
set_option maxRecDepth 100000 in
theorem am_Q364_6 : am_kL cL_law am_c364_6 = true := by decide +kernel
set_option maxRecDepth 100000 in
theorem am_Q364_7 : am_kL cL_law am_c364_7 = true := by decide +kernel
theorem am_Q364 : am_kL cL_law am_c364 = true := (am_kL2 am_Q364_0 (am_kL2 am_Q364_1 (am_kL2 am_Q364_2 (am_kL2 am_Q364_3 (am_kL2 am_Q364_4 (am_kL2 am_Q364_5 (am_kL2 am_Q364_6 am_Q364_7)))))))
end
section
/-! the code of all methods -/
def am_pg0 : List (ByteArray × List (Nat × Instr)) := [(cX0_init, am_c0), (cX0_isBetween, am_c1), (cX0_heightOfLine, am_c2), (cX0_heightsApart, am_c3), (cX1_init, am_c4), (cX1_copyFrom, am_c5), (cX0_init, am_c0), (cX2_init, am_c7), (cX2_clear, am_c8), (cX2_addDefaultWind, am_c9), (cX2_copyFrom, am_c10), (cX2_kitesInState, am_c11), (cX2_windNumberAt, am_c12), (cX2_linesCross, am_c13), (cX2_linesRub, am_c14), (cX2_pairs, am_c15), (cX2_pickerAt, am_c16), (cX2_eventAt, am_c17), (cX2_tellOfKite, am_c18), (cX2_tell, am_c19), (cX2_passTicks, am_c20), (cX2_tick, am_c21), (cX2_fly, am_c22), (cX2_rubAllLines, am_c23), (cX2_wearLine, am_c24), (cX2_cutWornLines, am_c25), (cX2_drift, am_c26), (cX2_pickUpFallenKites, am_c27), (cX3_init, am_c28), (cX3_clear, am_c29), (cX3_remember, am_c30), (cX3_takeBack, am_c31), (cX4_init, am_c32), (cX4_addFour, am_c33), (cX5_init, am_c34), (cX5_copyFrom, am_c35), (cX5_startAt, am_c36), (cX0_init, am_c0), (cX5_goDownAtFlyer, am_c38), (cX5_number, am_c39)]
theorem am_QQ0 : ∀ q ∈ am_pg0, am_kL q.1 q.2 = true := List.forall_mem_cons.mpr ⟨am_Q0, List.forall_mem_cons.mpr ⟨am_Q1, List.forall_mem_cons.mpr ⟨am_Q2, List.forall_mem_cons.mpr ⟨am_Q3, List.forall_mem_cons.mpr ⟨am_Q4, List.forall_mem_cons.mpr ⟨am_Q5, List.forall_mem_cons.mpr ⟨am_Q0, List.forall_mem_cons.mpr ⟨am_Q7, List.forall_mem_cons.mpr ⟨am_Q8, List.forall_mem_cons.mpr ⟨am_Q9, List.forall_mem_cons.mpr ⟨am_Q10, List.forall_mem_cons.mpr ⟨am_Q11, List.forall_mem_cons.mpr ⟨am_Q12, List.forall_mem_cons.mpr ⟨am_Q13, List.forall_mem_cons.mpr ⟨am_Q14, List.forall_mem_cons.mpr ⟨am_Q15, List.forall_mem_cons.mpr ⟨am_Q16, List.forall_mem_cons.mpr ⟨am_Q17, List.forall_mem_cons.mpr ⟨am_Q18, List.forall_mem_cons.mpr ⟨am_Q19, List.forall_mem_cons.mpr ⟨am_Q20, List.forall_mem_cons.mpr ⟨am_Q21, List.forall_mem_cons.mpr ⟨am_Q22, List.forall_mem_cons.mpr ⟨am_Q23, List.forall_mem_cons.mpr ⟨am_Q24, List.forall_mem_cons.mpr ⟨am_Q25, List.forall_mem_cons.mpr ⟨am_Q26, List.forall_mem_cons.mpr ⟨am_Q27, List.forall_mem_cons.mpr ⟨am_Q28, List.forall_mem_cons.mpr ⟨am_Q29, List.forall_mem_cons.mpr ⟨am_Q30, List.forall_mem_cons.mpr ⟨am_Q31, List.forall_mem_cons.mpr ⟨am_Q32, List.forall_mem_cons.mpr ⟨am_Q33, List.forall_mem_cons.mpr ⟨am_Q34, List.forall_mem_cons.mpr ⟨am_Q35, List.forall_mem_cons.mpr ⟨am_Q36, List.forall_mem_cons.mpr ⟨am_Q0, List.forall_mem_cons.mpr ⟨am_Q38, List.forall_mem_cons.mpr ⟨am_Q39, fun _ h => absurd h List.not_mem_nil⟩⟩⟩⟩⟩⟩⟩⟩⟩⟩⟩⟩⟩⟩⟩⟩⟩⟩⟩⟩⟩⟩⟩⟩⟩⟩⟩⟩⟩⟩⟩⟩⟩⟩⟩⟩⟩⟩⟩⟩
def am_pg1 : List (ByteArray × List (Nat × Instr)) := [(cX0_init, am_c0), (cX5_distanceTo, am_c41), (cX5_spanNow, am_c42), (cX5_slackNow, am_c43), (cX5_wearBrought, am_c44), (cX5_blow, am_c45), (cX5_pullIn, am_c46), (cX6_init, am_c47), (cX6_clear, am_c48), (cX6_copyFrom, am_c49), (cX6_addWord, am_c50), (cX6_numberOf, am_c51), (cX6_isSame, am_c52), (cX7_init, am_c53), (cX0_init, am_c0), (cX0_init, am_c0), (cX0_init, am_c0), (cX0_init, am_c0), (cX0_init, am_c0), (cX0_init, am_c0), (cX8_init, am_c60), (cX8_readText, am_c61), (cX8_readStatement, am_c62), (cX8_readKite, am_c63), (cX8_readName, am_c64), (cX8_readOption, am_c65), (cX8_readWind, am_c66), (cX8_readSpeed, am_c67), (cX8_readSetting, am_c68), (cX8_readNumber, am_c69), (cX8_readSemicolon, am_c70), (cX8_fail, am_c71), (cX8_quotedWord, am_c72), (cX8_quoted, am_c73), (cX9_init, am_c74), (cX9_readFirst, am_c75), (cX9_readNext, am_c76), (cX9_kindOf, am_c77), (cX9_isNumber, am_c78), (cX9_value, am_c79)]
theorem am_QQ1 : ∀ q ∈ am_pg1, am_kL q.1 q.2 = true := List.forall_mem_cons.mpr ⟨am_Q0, List.forall_mem_cons.mpr ⟨am_Q41, List.forall_mem_cons.mpr ⟨am_Q42, List.forall_mem_cons.mpr ⟨am_Q43, List.forall_mem_cons.mpr ⟨am_Q44, List.forall_mem_cons.mpr ⟨am_Q45, List.forall_mem_cons.mpr ⟨am_Q46, List.forall_mem_cons.mpr ⟨am_Q47, List.forall_mem_cons.mpr ⟨am_Q48, List.forall_mem_cons.mpr ⟨am_Q49, List.forall_mem_cons.mpr ⟨am_Q50, List.forall_mem_cons.mpr ⟨am_Q51, List.forall_mem_cons.mpr ⟨am_Q52, List.forall_mem_cons.mpr ⟨am_Q53, List.forall_mem_cons.mpr ⟨am_Q0, List.forall_mem_cons.mpr ⟨am_Q0, List.forall_mem_cons.mpr ⟨am_Q0, List.forall_mem_cons.mpr ⟨am_Q0, List.forall_mem_cons.mpr ⟨am_Q0, List.forall_mem_cons.mpr ⟨am_Q0, List.forall_mem_cons.mpr ⟨am_Q60, List.forall_mem_cons.mpr ⟨am_Q61, List.forall_mem_cons.mpr ⟨am_Q62, List.forall_mem_cons.mpr ⟨am_Q63, List.forall_mem_cons.mpr ⟨am_Q64, List.forall_mem_cons.mpr ⟨am_Q65, List.forall_mem_cons.mpr ⟨am_Q66, List.forall_mem_cons.mpr ⟨am_Q67, List.forall_mem_cons.mpr ⟨am_Q68, List.forall_mem_cons.mpr ⟨am_Q69, List.forall_mem_cons.mpr ⟨am_Q70, List.forall_mem_cons.mpr ⟨am_Q71, List.forall_mem_cons.mpr ⟨am_Q72, List.forall_mem_cons.mpr ⟨am_Q73, List.forall_mem_cons.mpr ⟨am_Q74, List.forall_mem_cons.mpr ⟨am_Q75, List.forall_mem_cons.mpr ⟨am_Q76, List.forall_mem_cons.mpr ⟨am_Q77, List.forall_mem_cons.mpr ⟨am_Q78, List.forall_mem_cons.mpr ⟨am_Q79, fun _ h => absurd h List.not_mem_nil⟩⟩⟩⟩⟩⟩⟩⟩⟩⟩⟩⟩⟩⟩⟩⟩⟩⟩⟩⟩⟩⟩⟩⟩⟩⟩⟩⟩⟩⟩⟩⟩⟩⟩⟩⟩⟩⟩⟩⟩
def am_pg2 : List (ByteArray × List (Nat × Instr)) := [(cX9_isWord, am_c80), (cX10_init, am_c81), (cX10_copyFrom, am_c82), (cX10_become, am_c83), (cX10_force, am_c84), (cX0_init, am_c0), (cX11_init, am_c86), (cX11_feed, am_c87), (cX11_truncate, am_c88), (cX11_parse, am_c89), (cX0_init, am_c0), (cX0_init, am_c0), (cX11_count, am_c92), (cX11_setting, am_c93), (cX0_init, am_c0), (cX11_kite, am_c95), (cX0_init, am_c0), (cX0_init, am_c0), (cX11_span, am_c98), (cX11_slack, am_c99), (cX11_crosses, am_c100), (cX11_crossing, am_c101), (cX11_rubs, am_c102), (cX11_wearNow, am_c103), (cX0_init, am_c0), (cX11_highest, am_c105), (cX0_init, am_c0), (cX0_init, am_c0), (cX0_init, am_c0), (cX11_gap, am_c109), (cX0_init, am_c0), (cX0_init, am_c0), (cX11_threat, am_c112), (cX11_sum, am_c113), (cX0_init, am_c0), (cX11_inBox, am_c115), (cX0_init, am_c0), (cX0_init, am_c0), (cX0_init, am_c0), (cX11_kiteIn, am_c119)]
theorem am_QQ2 : ∀ q ∈ am_pg2, am_kL q.1 q.2 = true := List.forall_mem_cons.mpr ⟨am_Q80, List.forall_mem_cons.mpr ⟨am_Q81, List.forall_mem_cons.mpr ⟨am_Q82, List.forall_mem_cons.mpr ⟨am_Q83, List.forall_mem_cons.mpr ⟨am_Q84, List.forall_mem_cons.mpr ⟨am_Q0, List.forall_mem_cons.mpr ⟨am_Q86, List.forall_mem_cons.mpr ⟨am_Q87, List.forall_mem_cons.mpr ⟨am_Q88, List.forall_mem_cons.mpr ⟨am_Q89, List.forall_mem_cons.mpr ⟨am_Q0, List.forall_mem_cons.mpr ⟨am_Q0, List.forall_mem_cons.mpr ⟨am_Q92, List.forall_mem_cons.mpr ⟨am_Q93, List.forall_mem_cons.mpr ⟨am_Q0, List.forall_mem_cons.mpr ⟨am_Q95, List.forall_mem_cons.mpr ⟨am_Q0, List.forall_mem_cons.mpr ⟨am_Q0, List.forall_mem_cons.mpr ⟨am_Q98, List.forall_mem_cons.mpr ⟨am_Q99, List.forall_mem_cons.mpr ⟨am_Q100, List.forall_mem_cons.mpr ⟨am_Q101, List.forall_mem_cons.mpr ⟨am_Q102, List.forall_mem_cons.mpr ⟨am_Q103, List.forall_mem_cons.mpr ⟨am_Q0, List.forall_mem_cons.mpr ⟨am_Q105, List.forall_mem_cons.mpr ⟨am_Q0, List.forall_mem_cons.mpr ⟨am_Q0, List.forall_mem_cons.mpr ⟨am_Q0, List.forall_mem_cons.mpr ⟨am_Q109, List.forall_mem_cons.mpr ⟨am_Q0, List.forall_mem_cons.mpr ⟨am_Q0, List.forall_mem_cons.mpr ⟨am_Q112, List.forall_mem_cons.mpr ⟨am_Q113, List.forall_mem_cons.mpr ⟨am_Q0, List.forall_mem_cons.mpr ⟨am_Q115, List.forall_mem_cons.mpr ⟨am_Q0, List.forall_mem_cons.mpr ⟨am_Q0, List.forall_mem_cons.mpr ⟨am_Q0, List.forall_mem_cons.mpr ⟨am_Q119, fun _ h => absurd h List.not_mem_nil⟩⟩⟩⟩⟩⟩⟩⟩⟩⟩⟩⟩⟩⟩⟩⟩⟩⟩⟩⟩⟩⟩⟩⟩⟩⟩⟩⟩⟩⟩⟩⟩⟩⟩⟩⟩⟩⟩⟩⟩
def am_pg3 : List (ByteArray × List (Nat × Instr)) := [(cX0_init, am_c0), (cX0_init, am_c0), (cX11_cutsIn, am_c122), (cX11_landsIn, am_c123), (cX0_init, am_c0), (cX0_init, am_c0), (cX11_bestReel, am_c126), (cX0_init, am_c0), (cX11_run, am_c128), (cX11_launch, am_c129), (cX11_reel, am_c130), (cX11_letGo, am_c131), (cX11_pull, am_c132), (cX11_walk, am_c133), (cX0_init, am_c0), (cX11_setWind, am_c135), (cX0_init, am_c0), (cX11_undo, am_c137), (cX0_init, am_c0), (cX0_init, am_c0), (cX0_init, am_c0), (cX0_init, am_c0), (cX11_saveState, am_c142), (cX11_restoreState, am_c143), (cX11_checkKite, am_c144), (cX11_checkWind, am_c145), (cX11_checkRange, am_c146), (cX11_checkState, am_c147), (cX11_reelFor, am_c148), (cX0_init, am_c0), (cX0_init, am_c0), (cX11_isIn, am_c151), (cX11_bounded, am_c152), (cX0_init, am_c0), (cX0_init, am_c0), (cX0_init, am_c0), (cX0_init, am_c0), (cX0_init, am_c0), (cX0_init, am_c0), (cX0_init, am_c0)]
theorem am_QQ3 : ∀ q ∈ am_pg3, am_kL q.1 q.2 = true := List.forall_mem_cons.mpr ⟨am_Q0, List.forall_mem_cons.mpr ⟨am_Q0, List.forall_mem_cons.mpr ⟨am_Q122, List.forall_mem_cons.mpr ⟨am_Q123, List.forall_mem_cons.mpr ⟨am_Q0, List.forall_mem_cons.mpr ⟨am_Q0, List.forall_mem_cons.mpr ⟨am_Q126, List.forall_mem_cons.mpr ⟨am_Q0, List.forall_mem_cons.mpr ⟨am_Q128, List.forall_mem_cons.mpr ⟨am_Q129, List.forall_mem_cons.mpr ⟨am_Q130, List.forall_mem_cons.mpr ⟨am_Q131, List.forall_mem_cons.mpr ⟨am_Q132, List.forall_mem_cons.mpr ⟨am_Q133, List.forall_mem_cons.mpr ⟨am_Q0, List.forall_mem_cons.mpr ⟨am_Q135, List.forall_mem_cons.mpr ⟨am_Q0, List.forall_mem_cons.mpr ⟨am_Q137, List.forall_mem_cons.mpr ⟨am_Q0, List.forall_mem_cons.mpr ⟨am_Q0, List.forall_mem_cons.mpr ⟨am_Q0, List.forall_mem_cons.mpr ⟨am_Q0, List.forall_mem_cons.mpr ⟨am_Q142, List.forall_mem_cons.mpr ⟨am_Q143, List.forall_mem_cons.mpr ⟨am_Q144, List.forall_mem_cons.mpr ⟨am_Q145, List.forall_mem_cons.mpr ⟨am_Q146, List.forall_mem_cons.mpr ⟨am_Q147, List.forall_mem_cons.mpr ⟨am_Q148, List.forall_mem_cons.mpr ⟨am_Q0, List.forall_mem_cons.mpr ⟨am_Q0, List.forall_mem_cons.mpr ⟨am_Q151, List.forall_mem_cons.mpr ⟨am_Q152, List.forall_mem_cons.mpr ⟨am_Q0, List.forall_mem_cons.mpr ⟨am_Q0, List.forall_mem_cons.mpr ⟨am_Q0, List.forall_mem_cons.mpr ⟨am_Q0, List.forall_mem_cons.mpr ⟨am_Q0, List.forall_mem_cons.mpr ⟨am_Q0, List.forall_mem_cons.mpr ⟨am_Q0, fun _ h => absurd h List.not_mem_nil⟩⟩⟩⟩⟩⟩⟩⟩⟩⟩⟩⟩⟩⟩⟩⟩⟩⟩⟩⟩⟩⟩⟩⟩⟩⟩⟩⟩⟩⟩⟩⟩⟩⟩⟩⟩⟩⟩⟩⟩
def am_pg4 : List (ByteArray × List (Nat × Instr)) := [(cX0_init, am_c0), (cX0_init, am_c0), (cX0_init, am_c0), (cX0_init, am_c0), (cX0_init, am_c0), (cX0_init, am_c0), (cX0_init, am_c0), (cX0_init, am_c0), (cX0_init, am_c0), (cX0_init, am_c0), (cX0_init, am_c0), (cX0_init, am_c0), (cX0_init, am_c0), (cX0_init, am_c0), (cX0_init, am_c0), (cX0_init, am_c0), (cX0_init, am_c0), (cX0_init, am_c0), (cX0_init, am_c0), (cX0_init, am_c0), (cX0_init, am_c0), (cX0_init, am_c0), (cX0_init, am_c0), (cX0_init, am_c0), (cX0_init, am_c0), (cX0_init, am_c0), (cX0_init, am_c0), (cX0_init, am_c0), (cX0_init, am_c0), (cX0_init, am_c0), (cX0_init, am_c0), (cX0_init, am_c0), (cX0_init, am_c0), (cX0_init, am_c0), (cX0_init, am_c0), (cX0_init, am_c0), (cX0_init, am_c0), (cX0_init, am_c0), (cX0_init, am_c0), (cX0_init, am_c0)]
theorem am_QQ4 : ∀ q ∈ am_pg4, am_kL q.1 q.2 = true := List.forall_mem_cons.mpr ⟨am_Q0, List.forall_mem_cons.mpr ⟨am_Q0, List.forall_mem_cons.mpr ⟨am_Q0, List.forall_mem_cons.mpr ⟨am_Q0, List.forall_mem_cons.mpr ⟨am_Q0, List.forall_mem_cons.mpr ⟨am_Q0, List.forall_mem_cons.mpr ⟨am_Q0, List.forall_mem_cons.mpr ⟨am_Q0, List.forall_mem_cons.mpr ⟨am_Q0, List.forall_mem_cons.mpr ⟨am_Q0, List.forall_mem_cons.mpr ⟨am_Q0, List.forall_mem_cons.mpr ⟨am_Q0, List.forall_mem_cons.mpr ⟨am_Q0, List.forall_mem_cons.mpr ⟨am_Q0, List.forall_mem_cons.mpr ⟨am_Q0, List.forall_mem_cons.mpr ⟨am_Q0, List.forall_mem_cons.mpr ⟨am_Q0, List.forall_mem_cons.mpr ⟨am_Q0, List.forall_mem_cons.mpr ⟨am_Q0, List.forall_mem_cons.mpr ⟨am_Q0, List.forall_mem_cons.mpr ⟨am_Q0, List.forall_mem_cons.mpr ⟨am_Q0, List.forall_mem_cons.mpr ⟨am_Q0, List.forall_mem_cons.mpr ⟨am_Q0, List.forall_mem_cons.mpr ⟨am_Q0, List.forall_mem_cons.mpr ⟨am_Q0, List.forall_mem_cons.mpr ⟨am_Q0, List.forall_mem_cons.mpr ⟨am_Q0, List.forall_mem_cons.mpr ⟨am_Q0, List.forall_mem_cons.mpr ⟨am_Q0, List.forall_mem_cons.mpr ⟨am_Q0, List.forall_mem_cons.mpr ⟨am_Q0, List.forall_mem_cons.mpr ⟨am_Q0, List.forall_mem_cons.mpr ⟨am_Q0, List.forall_mem_cons.mpr ⟨am_Q0, List.forall_mem_cons.mpr ⟨am_Q0, List.forall_mem_cons.mpr ⟨am_Q0, List.forall_mem_cons.mpr ⟨am_Q0, List.forall_mem_cons.mpr ⟨am_Q0, List.forall_mem_cons.mpr ⟨am_Q0, fun _ h => absurd h List.not_mem_nil⟩⟩⟩⟩⟩⟩⟩⟩⟩⟩⟩⟩⟩⟩⟩⟩⟩⟩⟩⟩⟩⟩⟩⟩⟩⟩⟩⟩⟩⟩⟩⟩⟩⟩⟩⟩⟩⟩⟩⟩
def am_pg5 : List (ByteArray × List (Nat × Instr)) := [(cX0_init, am_c0), (cX0_init, am_c0), (cX0_init, am_c0), (cX0_init, am_c0), (cX0_init, am_c0), (cX0_init, am_c0), (cX0_init, am_c0), (cX0_init, am_c0), (cX0_init, am_c0), (cX0_init, am_c0), (cX0_init, am_c0), (cX0_init, am_c0), (cX0_init, am_c0), (cX0_init, am_c0), (cX0_init, am_c0), (cX0_init, am_c0), (cX0_init, am_c0), (cX0_init, am_c0), (cX0_init, am_c0), (cX0_init, am_c0), (cX0_init, am_c0), (cX0_init, am_c0), (cX0_init, am_c0), (cX0_init, am_c0), (cX0_init, am_c0), (cX0_init, am_c0), (cX0_init, am_c0), (cX0_init, am_c0), (cX0_init, am_c0), (cX0_init, am_c0), (cX0_init, am_c0), (cX0_init, am_c0), (cX0_init, am_c0), (cX0_init, am_c0), (cX0_init, am_c0), (cX0_init, am_c0), (cX0_init, am_c0), (cX0_init, am_c0), (cX0_init, am_c0), (cX0_init, am_c0)]
theorem am_QQ5 : ∀ q ∈ am_pg5, am_kL q.1 q.2 = true := List.forall_mem_cons.mpr ⟨am_Q0, List.forall_mem_cons.mpr ⟨am_Q0, List.forall_mem_cons.mpr ⟨am_Q0, List.forall_mem_cons.mpr ⟨am_Q0, List.forall_mem_cons.mpr ⟨am_Q0, List.forall_mem_cons.mpr ⟨am_Q0, List.forall_mem_cons.mpr ⟨am_Q0, List.forall_mem_cons.mpr ⟨am_Q0, List.forall_mem_cons.mpr ⟨am_Q0, List.forall_mem_cons.mpr ⟨am_Q0, List.forall_mem_cons.mpr ⟨am_Q0, List.forall_mem_cons.mpr ⟨am_Q0, List.forall_mem_cons.mpr ⟨am_Q0, List.forall_mem_cons.mpr ⟨am_Q0, List.forall_mem_cons.mpr ⟨am_Q0, List.forall_mem_cons.mpr ⟨am_Q0, List.forall_mem_cons.mpr ⟨am_Q0, List.forall_mem_cons.mpr ⟨am_Q0, List.forall_mem_cons.mpr ⟨am_Q0, List.forall_mem_cons.mpr ⟨am_Q0, List.forall_mem_cons.mpr ⟨am_Q0, List.forall_mem_cons.mpr ⟨am_Q0, List.forall_mem_cons.mpr ⟨am_Q0, List.forall_mem_cons.mpr ⟨am_Q0, List.forall_mem_cons.mpr ⟨am_Q0, List.forall_mem_cons.mpr ⟨am_Q0, List.forall_mem_cons.mpr ⟨am_Q0, List.forall_mem_cons.mpr ⟨am_Q0, List.forall_mem_cons.mpr ⟨am_Q0, List.forall_mem_cons.mpr ⟨am_Q0, List.forall_mem_cons.mpr ⟨am_Q0, List.forall_mem_cons.mpr ⟨am_Q0, List.forall_mem_cons.mpr ⟨am_Q0, List.forall_mem_cons.mpr ⟨am_Q0, List.forall_mem_cons.mpr ⟨am_Q0, List.forall_mem_cons.mpr ⟨am_Q0, List.forall_mem_cons.mpr ⟨am_Q0, List.forall_mem_cons.mpr ⟨am_Q0, List.forall_mem_cons.mpr ⟨am_Q0, List.forall_mem_cons.mpr ⟨am_Q0, fun _ h => absurd h List.not_mem_nil⟩⟩⟩⟩⟩⟩⟩⟩⟩⟩⟩⟩⟩⟩⟩⟩⟩⟩⟩⟩⟩⟩⟩⟩⟩⟩⟩⟩⟩⟩⟩⟩⟩⟩⟩⟩⟩⟩⟩⟩
def am_pg6 : List (ByteArray × List (Nat × Instr)) := [(cX0_init, am_c0), (cX0_init, am_c0), (cX0_init, am_c0), (cX0_init, am_c0), (cX0_init, am_c0), (cX0_init, am_c0), (cX0_init, am_c0), (cX0_init, am_c0), (cX0_init, am_c0), (cX0_init, am_c0), (cX0_init, am_c0), (cX0_init, am_c0), (cX0_init, am_c0), (cX0_init, am_c0), (cX0_init, am_c0), (cX0_init, am_c0), (cX0_init, am_c0), (cX0_init, am_c0), (cX0_init, am_c0), (cX0_init, am_c0), (cX0_init, am_c0), (cX0_init, am_c0), (cX0_init, am_c0), (cX0_init, am_c0), (cX0_init, am_c0), (cX0_init, am_c0), (cX0_init, am_c0), (cX0_init, am_c0), (cX0_init, am_c0), (cX0_init, am_c0), (cX0_init, am_c0), (cX0_init, am_c0), (cX0_init, am_c0), (cX0_init, am_c0), (cX0_init, am_c0), (cX0_init, am_c0), (cX0_init, am_c0), (cX0_init, am_c0), (cX0_init, am_c0), (cX0_init, am_c0)]
theorem am_QQ6 : ∀ q ∈ am_pg6, am_kL q.1 q.2 = true := List.forall_mem_cons.mpr ⟨am_Q0, List.forall_mem_cons.mpr ⟨am_Q0, List.forall_mem_cons.mpr ⟨am_Q0, List.forall_mem_cons.mpr ⟨am_Q0, List.forall_mem_cons.mpr ⟨am_Q0, List.forall_mem_cons.mpr ⟨am_Q0, List.forall_mem_cons.mpr ⟨am_Q0, List.forall_mem_cons.mpr ⟨am_Q0, List.forall_mem_cons.mpr ⟨am_Q0, List.forall_mem_cons.mpr ⟨am_Q0, List.forall_mem_cons.mpr ⟨am_Q0, List.forall_mem_cons.mpr ⟨am_Q0, List.forall_mem_cons.mpr ⟨am_Q0, List.forall_mem_cons.mpr ⟨am_Q0, List.forall_mem_cons.mpr ⟨am_Q0, List.forall_mem_cons.mpr ⟨am_Q0, List.forall_mem_cons.mpr ⟨am_Q0, List.forall_mem_cons.mpr ⟨am_Q0, List.forall_mem_cons.mpr ⟨am_Q0, List.forall_mem_cons.mpr ⟨am_Q0, List.forall_mem_cons.mpr ⟨am_Q0, List.forall_mem_cons.mpr ⟨am_Q0, List.forall_mem_cons.mpr ⟨am_Q0, List.forall_mem_cons.mpr ⟨am_Q0, List.forall_mem_cons.mpr ⟨am_Q0, List.forall_mem_cons.mpr ⟨am_Q0, List.forall_mem_cons.mpr ⟨am_Q0, List.forall_mem_cons.mpr ⟨am_Q0, List.forall_mem_cons.mpr ⟨am_Q0, List.forall_mem_cons.mpr ⟨am_Q0, List.forall_mem_cons.mpr ⟨am_Q0, List.forall_mem_cons.mpr ⟨am_Q0, List.forall_mem_cons.mpr ⟨am_Q0, List.forall_mem_cons.mpr ⟨am_Q0, List.forall_mem_cons.mpr ⟨am_Q0, List.forall_mem_cons.mpr ⟨am_Q0, List.forall_mem_cons.mpr ⟨am_Q0, List.forall_mem_cons.mpr ⟨am_Q0, List.forall_mem_cons.mpr ⟨am_Q0, List.forall_mem_cons.mpr ⟨am_Q0, fun _ h => absurd h List.not_mem_nil⟩⟩⟩⟩⟩⟩⟩⟩⟩⟩⟩⟩⟩⟩⟩⟩⟩⟩⟩⟩⟩⟩⟩⟩⟩⟩⟩⟩⟩⟩⟩⟩⟩⟩⟩⟩⟩⟩⟩⟩
def am_pg7 : List (ByteArray × List (Nat × Instr)) := [(cX0_init, am_c0), (cX0_init, am_c0), (cX0_init, am_c0), (cX0_init, am_c0), (cX0_init, am_c0), (cX0_init, am_c0), (cX0_init, am_c0), (cX0_init, am_c0), (cX0_init, am_c0), (cX0_init, am_c0), (cX0_init, am_c0), (cX0_init, am_c0), (cX0_init, am_c0), (cX0_init, am_c0), (cX0_init, am_c0), (cX0_init, am_c0), (cX0_init, am_c0), (cX0_init, am_c0), (cX0_init, am_c0), (cX0_init, am_c0), (cX0_init, am_c0), (cX0_init, am_c0), (cX0_init, am_c0), (cX0_init, am_c0), (cX0_init, am_c0), (cX0_init, am_c0), (cX0_init, am_c0), (cX0_init, am_c0), (cX0_init, am_c0), (cX0_init, am_c0), (cX0_init, am_c0), (cX0_init, am_c0), (cX0_init, am_c0), (cJ9_floorDiv_7cf53, am_c313), (cJ9_abs_0f7a4, am_c314), (cJ9_max_7cf53, am_c315), (cJ9_min_7cf53, am_c316), (cJ0_length_8abf5, am_c317), (cJ0_charAt_5068e, am_c318), (cJ0_coder_7d493, am_c319)]
theorem am_QQ7 : ∀ q ∈ am_pg7, am_kL q.1 q.2 = true := List.forall_mem_cons.mpr ⟨am_Q0, List.forall_mem_cons.mpr ⟨am_Q0, List.forall_mem_cons.mpr ⟨am_Q0, List.forall_mem_cons.mpr ⟨am_Q0, List.forall_mem_cons.mpr ⟨am_Q0, List.forall_mem_cons.mpr ⟨am_Q0, List.forall_mem_cons.mpr ⟨am_Q0, List.forall_mem_cons.mpr ⟨am_Q0, List.forall_mem_cons.mpr ⟨am_Q0, List.forall_mem_cons.mpr ⟨am_Q0, List.forall_mem_cons.mpr ⟨am_Q0, List.forall_mem_cons.mpr ⟨am_Q0, List.forall_mem_cons.mpr ⟨am_Q0, List.forall_mem_cons.mpr ⟨am_Q0, List.forall_mem_cons.mpr ⟨am_Q0, List.forall_mem_cons.mpr ⟨am_Q0, List.forall_mem_cons.mpr ⟨am_Q0, List.forall_mem_cons.mpr ⟨am_Q0, List.forall_mem_cons.mpr ⟨am_Q0, List.forall_mem_cons.mpr ⟨am_Q0, List.forall_mem_cons.mpr ⟨am_Q0, List.forall_mem_cons.mpr ⟨am_Q0, List.forall_mem_cons.mpr ⟨am_Q0, List.forall_mem_cons.mpr ⟨am_Q0, List.forall_mem_cons.mpr ⟨am_Q0, List.forall_mem_cons.mpr ⟨am_Q0, List.forall_mem_cons.mpr ⟨am_Q0, List.forall_mem_cons.mpr ⟨am_Q0, List.forall_mem_cons.mpr ⟨am_Q0, List.forall_mem_cons.mpr ⟨am_Q0, List.forall_mem_cons.mpr ⟨am_Q0, List.forall_mem_cons.mpr ⟨am_Q0, List.forall_mem_cons.mpr ⟨am_Q0, List.forall_mem_cons.mpr ⟨am_Q313, List.forall_mem_cons.mpr ⟨am_Q314, List.forall_mem_cons.mpr ⟨am_Q315, List.forall_mem_cons.mpr ⟨am_Q316, List.forall_mem_cons.mpr ⟨am_Q317, List.forall_mem_cons.mpr ⟨am_Q318, List.forall_mem_cons.mpr ⟨am_Q319, fun _ h => absurd h List.not_mem_nil⟩⟩⟩⟩⟩⟩⟩⟩⟩⟩⟩⟩⟩⟩⟩⟩⟩⟩⟩⟩⟩⟩⟩⟩⟩⟩⟩⟩⟩⟩⟩⟩⟩⟩⟩⟩⟩⟩⟩⟩
def am_pg8 : List (ByteArray × List (Nat × Instr)) := [(cJ0_isLatin1_aae02, am_c320), (cJ0_checkIndex_df160, am_c321), (cJ1_charAt_3b067, am_c322), (cJ3_checkIndex_8e157, am_c323), (cJ1_canEncode_fc78d, am_c324), (cJ8_newLength_cabcc, am_c325), (cJ7_copyOf_9075b, am_c326), (cJ7_checkLength_df160, am_c327), (cJ7_copyOfRangeByte_39247, am_c328), (cJ7_copyOfRange_39247, am_c329), (cJ6_stringSize_0f7a4, am_c330), (cJ6_getChars_ba4f3, am_c331), (cJ5_isLatin1_aae02, am_c332), (cJ5_getValue_6d5f1, am_c333), (cJ5_length_8abf5, am_c334), (cJ5_newCapacity_0f7a4, am_c335), (cJ5_ensureCapacityInternal_d00df, am_c336), (cJ0_getBytes_840e7, am_c337), (cJ5_inflateIfNeededFor_a7421, am_c338), (cJ5_putStringAt_47b60, am_c339), (cJ5_append_cf1ce, am_c340), (cJ5_append_3fe6f, am_c341), (cJ5_append_c97b9, am_c342), (cJ4_append_15ec4, am_c343), (cJ4_append_cf468, am_c344), (cJ4_append_bf812, am_c345), (cJ4_append_cf1ce, am_c346), (cJ4_length_8abf5, am_c347), (cJ5_init_a7421, am_c348), (cJ4_init_a7421, am_c349), (cJ0_init_db425, am_c350), (cJ0_init_81219, am_c351), (cJ4_toString_0e30d, am_c352), (cX0_init, am_c0), (cX0_init, am_c0), (cX0_init, am_c0), (cX0_init, am_c0), (cL_cell, am_c357), (cL_draw, am_c358), (cL_fed, am_c359)]
theorem am_QQ8 : ∀ q ∈ am_pg8, am_kL q.1 q.2 = true := List.forall_mem_cons.mpr ⟨am_Q320, List.forall_mem_cons.mpr ⟨am_Q321, List.forall_mem_cons.mpr ⟨am_Q322, List.forall_mem_cons.mpr ⟨am_Q323, List.forall_mem_cons.mpr ⟨am_Q324, List.forall_mem_cons.mpr ⟨am_Q325, List.forall_mem_cons.mpr ⟨am_Q326, List.forall_mem_cons.mpr ⟨am_Q327, List.forall_mem_cons.mpr ⟨am_Q328, List.forall_mem_cons.mpr ⟨am_Q329, List.forall_mem_cons.mpr ⟨am_Q330, List.forall_mem_cons.mpr ⟨am_Q331, List.forall_mem_cons.mpr ⟨am_Q332, List.forall_mem_cons.mpr ⟨am_Q333, List.forall_mem_cons.mpr ⟨am_Q334, List.forall_mem_cons.mpr ⟨am_Q335, List.forall_mem_cons.mpr ⟨am_Q336, List.forall_mem_cons.mpr ⟨am_Q337, List.forall_mem_cons.mpr ⟨am_Q338, List.forall_mem_cons.mpr ⟨am_Q339, List.forall_mem_cons.mpr ⟨am_Q340, List.forall_mem_cons.mpr ⟨am_Q341, List.forall_mem_cons.mpr ⟨am_Q342, List.forall_mem_cons.mpr ⟨am_Q343, List.forall_mem_cons.mpr ⟨am_Q344, List.forall_mem_cons.mpr ⟨am_Q345, List.forall_mem_cons.mpr ⟨am_Q346, List.forall_mem_cons.mpr ⟨am_Q347, List.forall_mem_cons.mpr ⟨am_Q348, List.forall_mem_cons.mpr ⟨am_Q349, List.forall_mem_cons.mpr ⟨am_Q350, List.forall_mem_cons.mpr ⟨am_Q351, List.forall_mem_cons.mpr ⟨am_Q352, List.forall_mem_cons.mpr ⟨am_Q0, List.forall_mem_cons.mpr ⟨am_Q0, List.forall_mem_cons.mpr ⟨am_Q0, List.forall_mem_cons.mpr ⟨am_Q0, List.forall_mem_cons.mpr ⟨am_Q357, List.forall_mem_cons.mpr ⟨am_Q358, List.forall_mem_cons.mpr ⟨am_Q359, fun _ h => absurd h List.not_mem_nil⟩⟩⟩⟩⟩⟩⟩⟩⟩⟩⟩⟩⟩⟩⟩⟩⟩⟩⟩⟩⟩⟩⟩⟩⟩⟩⟩⟩⟩⟩⟩⟩⟩⟩⟩⟩⟩⟩⟩⟩
def am_pg9 : List (ByteArray × List (Nat × Instr)) := [(cL_parsed, am_c360), (cL_setup, am_c361), (cL_isSound, am_c362), (cL_acts, am_c363), (cL_law, am_c364)]
theorem am_QQ9 : ∀ q ∈ am_pg9, am_kL q.1 q.2 = true := List.forall_mem_cons.mpr ⟨am_Q360, List.forall_mem_cons.mpr ⟨am_Q361, List.forall_mem_cons.mpr ⟨am_Q362, List.forall_mem_cons.mpr ⟨am_Q363, List.forall_mem_cons.mpr ⟨am_Q364, fun _ h => absurd h List.not_mem_nil⟩⟩⟩⟩⟩
set_option maxRecDepth 1000000 in
theorem am_pgs : am_pg = (am_pg0 ++ (am_pg1 ++ (am_pg2 ++ (am_pg3 ++ (am_pg4 ++ (am_pg5 ++ (am_pg6 ++ (am_pg7 ++ (am_pg8 ++ am_pg9))))))))) := rfl
theorem am_Qall : ∀ q ∈ am_pg, am_kL q.1 q.2 = true := by
  rw [am_pgs]
  exact (List.forall_mem_append.mpr ⟨am_QQ0, (List.forall_mem_append.mpr ⟨am_QQ1, (List.forall_mem_append.mpr ⟨am_QQ2, (List.forall_mem_append.mpr ⟨am_QQ3, (List.forall_mem_append.mpr ⟨am_QQ4, (List.forall_mem_append.mpr ⟨am_QQ5, (List.forall_mem_append.mpr ⟨am_QQ6, (List.forall_mem_append.mpr ⟨am_QQ7, (List.forall_mem_append.mpr ⟨am_QQ8, am_QQ9⟩)⟩)⟩)⟩)⟩)⟩)⟩)⟩)⟩)
theorem am_gd {α : Type} {l : List α} {n k : Nat} {P : α → Prop} {d : α} (hl : l.length = n) (h : k < n) (hq : ∀ q ∈ l, P q) : P (l.getD k d) := by
  rw [List.getD_eq_getElem?_getD, List.getElem?_eq_getElem (by omega)]
  exact hq _ (List.getElem_mem _)
set_option maxRecDepth 1000000 in
theorem am_pgl : am_pg.length = 365 := by decide +kernel
theorem am_CallX (k : Nat) (h : k < 365) : am_kL (am_B k) (am_cs k) = true := am_gd (P := fun q => am_kL q.1 q.2 = true) (l := am_pg) (d := (cL_law, [])) am_pgl h am_Qall
end
section
/-! what the other tables say, decided by the kernel -/
def am_ok (i : Nat) (w : Jvm.Cond) : Bool := decide (ax_tbl[i]? = some w) && goodWord w
def am_is (i : Nat) (w : Jvm.Cond) : Bool := decide (ax_tbl[i]? = some w)
def am_in (w : Jvm.Cond) : Bool := decide (w ∈ ax_tbl) && goodWord w
def am_kH (k : Nat) : Bool := k == 364 || (plainFor (am_Y k) && ((am_H k).isEmpty || plainName (am_Y k).cls) && decide ((am_Y k).cls ≠ "java/lang/invoke/MethodHandle") && decide ((am_Y k).cls ≠ "java/lang/invoke/VarHandle")
  && decide ((parseMethodDescriptor (am_Y k).desc).map (fun d => d.parameters.length) = some (am_N k)) && decide (am_cn (am_O k) = (am_Y k).cls) && Nat.ble (am_X k) 40
  && (match am_H k with | [] => am_ok (am_I k) (.code (am_Y k) (am_B k) (am_X k) (am_R k)) | h :: hh => am_ok (am_I k) (.codeWith (am_Y k) (am_B k) (am_X k) (am_R k) (h :: hh)))
  && ((vwCl[am_C k]?).map (·.1) == some (am_Y k).cls || am_C k == 60))
def am_kK1 (k : Nat) (e : Nat × Nat × Nat × Nat × Nat × Nat × Nat) : Bool := match e with
  | (idx, cal, kind, iL, iA, iB, iC) =>
    let own := am_cn (am_O k); let y := am_Y cal
    Nat.blt cal 364 && (match kind with
    | 0 => am_ok iL (.methodLink own idx y) && am_ok iA (.instanceMethod y) && am_ok iB (.selects y.cls y y) && am_ok iC (.initialized y.cls) && (am_H cal).isEmpty && Nat.blt (am_C cal) 14
    | 1 => am_ok iL (.methodLink own idx y) && am_ok iA (.static y) && am_ok iB (.initialized y.cls)
    | 2 => am_ok iL (.methodLink own idx y) && am_ok iA (.instanceMethod y) && am_ok iB (.initialized y.cls) && (am_H cal).isEmpty && decide (y.name = "<init>") && decide (am_R cal = none) && !(am_th.contains cal)
    | 3 => am_is iL (.methodLinkNest own idx y "KiteQuarrel") && am_ok iA (.instanceMethod y) && am_ok iB (.initialized y.cls) && (am_H cal).isEmpty && decide (y.name = "<init>") && decide (am_R cal = none) && !(am_th.contains cal)
    | 4 => am_is iL (.methodLinkNest own idx y "KiteQuarrel") && am_ok iA (.static y) && am_ok iB (.initialized y.cls) && (am_H cal).isEmpty && !(am_th.contains cal)
    | 5 => am_ok iL (.methodLink own idx objectInit) && am_ok iA (.instanceMethod objectInit) && am_ok iB (.code objectInit ⟨#[0xb1]⟩ 1 none)
    | 6 => am_ok iL (.methodLink own idx y) && am_ok iA (.instanceMethod y) && am_ok iB (.selects ax_SB y y) && am_ok iC (.initialized y.cls) && (am_H cal).isEmpty && am_in (.sameMethod y.cls y.cls y.name y.desc)
    | 7 => am_ok iL (.methodLink own idx y) && am_ok iA (.instanceMethod y) && am_ok iB (.superclass own y.cls) && am_ok iC (.initialized y.cls) && (am_H cal).isEmpty && am_in (.sameMethod y.cls y.cls y.name y.desc) && decide (y.name ≠ "<init>")
    | 8 => let x : MethodName := ⟨ax_ASB, y.name, y.desc⟩
      am_ok iL (.methodLink own idx x) && am_ok iA (.instanceMethod y) && am_ok iB (.selects ax_SB x y) && am_in (.initialized y.cls) && (am_H cal).isEmpty && am_in (.sameMethod ax_ASB ax_ASB y.name y.desc) && am_in (.instanceMethod x) && decide (am_Y iC = x) && am_ok (am_I iC) (.code x (am_B iC) (am_X iC) (am_R iC))
    | 9 => am_ok iL (.methodLink own idx arraycopyName) && am_ok iA (.native arraycopyName) && am_ok iB (.static arraycopyName) && am_ok iC (.initialized "java/lang/System")
    | 10 => am_ok iL (.methodLink own idx ⟨"[B", "clone", "()Ljava/lang/Object;"⟩) && am_ok iA (.instanceMethod ⟨"java/lang/Object", "clone", "()Ljava/lang/Object;"⟩) && am_ok iB (.sameMethod "[B" "java/lang/Object" "clone" "()Ljava/lang/Object;") && am_ok iC (.native ⟨"java/lang/Object", "clone", "()Ljava/lang/Object;"⟩)
      && am_in (.selects "[B" ⟨"[B", "clone", "()Ljava/lang/Object;"⟩ ⟨"java/lang/Object", "clone", "()Ljava/lang/Object;"⟩) && decide (Jvm.Cond.castable "[B" "java/lang/Cloneable" ∈ ax_tbl)
    | _ => false)
def am_kK (k : Nat) : Bool := (am_ks.getD k []).all (am_kK1 k)
def am_tk (ci : Nat) : u_T := match vwCl[ci]? with | some r => r.2.1 | none => fun _ => ("", "", "", false)
def am_kP1 (k : Nat) (q : Nat × Instr) : Bool := match q.2 with
  | .putfield idx => (match am_F (am_O k) idx with
    | some (ci, f, nest, _) => if (am_tk ci f).2.2.2 = true then decide ((am_Y k).name = "<init>") && decide ((am_tk ci f).1 = am_cn (am_O k)) && nest == 0 && k != 364 else true
    | none => true)
  | _ => true
def am_kP (k : Nat) : Bool := (am_cs k).all (am_kP1 k)
def am_pf (ci f : Nat) : Bool := match parseFieldDescriptor (am_tk ci f).2.2.1 with
  | some .int => am_f ci f == 0
  | some .byte => am_f ci f == 3
  | some .boolean => am_f ci f == 1
  | some (.object _) => am_f ci f == 2
  | some (.array _) => am_f ci f == 2
  | _ => false
def am_kF1 (e : Nat × Nat × Nat × Nat × Nat × Nat) : Bool := match e with
  | (own, idx, ci, f, nest, i) => Nat.blt ci 14 && Nat.blt f (am_nf ci) && (if nest = 0 then am_ok i (.fieldLink (am_cn own) idx (am_tk ci f).1 (am_tk ci f).2.1 (am_tk ci f).2.2.1) else am_is i (.fieldLinkNest (am_cn own) idx (am_tk ci f).1 (am_tk ci f).2.1 (am_tk ci f).2.2.1 "KiteQuarrel"))
def am_kF : Bool := am_fs.all am_kF1
def am_kT1 (ci : Nat) : Bool := (vwCl[ci]?).map (·.2.2) == some (am_nf ci) && (List.range (am_nf ci)).all (fun f => am_pf ci f)
def am_kT : Bool := (List.range 14).all am_kT1
def am_sn (w : Nat) : String × String × String := match w with
  | 0 => ("KiteQuarrel", "SETTING_LEAST", "[I") | 1 => ("KiteQuarrel", "SETTING_MOST", "[I") | 2 => ("KiteQuarrel", "SETTING_FIRST", "[I")
  | 3 => ("java/lang/String", "COMPACT_STRINGS", "Z") | 4 => ("jdk/internal/util/Preconditions", "SIOOBE_FORMATTER", "Ljava/util/function/BiFunction;")
  | 5 => ("java/lang/Integer", "DigitTens", "[B") | _ => ("java/lang/Integer", "DigitOnes", "[B")
def am_kS1 (e : Nat × Nat × Nat × Nat × Nat) : Bool := match e with
  | (own, idx, v, nest, i) => Nat.blt v 7 && (if nest = 0 then am_ok i (.fieldLink (am_cn own) idx (am_sn v).1 (am_sn v).2.1 (am_sn v).2.2) else am_is i (.fieldLinkNest (am_cn own) idx (am_sn v).1 (am_sn v).2.1 (am_sn v).2.2 "KiteQuarrel"))
def am_kS : Bool := am_ss.all am_kS1
def am_kN1 (e : Nat × Nat × Nat × Nat × Nat × Nat) : Bool := match e with
  | (own, idx, ci, a, b, c) => (match vwCl[ci]? with | some r => am_ok a (.classLink (am_cn own) idx r.1) && am_ok b (.instantiable r.1 r.2.2) && am_ok c (.initialized r.1) | none => false)
def am_kN : Bool := am_ns.all am_kN1
def am_ac (t : Nat) : String := match t with | 5 => RX5 | 6 => RX10 | 7 => RX1 | _ => RX2
def am_kV1 (e : Nat × Nat × Nat × Nat) : Bool := match e with | (own, idx, t, a) => Nat.ble 5 t && Nat.ble t 8 && am_ok a (.classLink (am_cn own) idx (am_ac t))
def am_kV : Bool := am_as.all am_kV1
def ak_isN : Jvm.Cond → Bool
  | .methodLinkNest .. => true
  | .fieldLinkNest .. => true
  | .castable .. => true
  | .declares .. => true
  | _ => false
def am_nm : List String := ["java/lang/RuntimeException", "java/lang/Exception"]
def am_kX1 (e : Nat × Nat × Nat × Nat × Nat × Nat × Nat) : Bool := match e with
  | (k, pc, E, ik, is, wd, ic) => let own := am_cn (am_O k)
    Nat.blt E 3 && k != 364 && (am_H k).isEmpty && Bundle.fit (am_E E) && am_nm.all Bundle.fit && (.classLink own ik (am_E E) :: .initialized (am_E E) :: vx_atS own ic (am_E E) am_nm).all (fun w => vx_ot w && (goodWord w || ak_isN w) && decide (w ∈ ax_tbl))
    && decide (decode (am_B k) pc = .ok (.new ik, 3)) && decide (decode (am_B k) (pc + 3) = .ok (.dup, 1))
    && (if wd = 0 then decide (decode (am_B k) (pc + 4) = .ok (.ldc is, 2)) && decide (decode (am_B k) (pc + 6) = .ok (.invokespecial ic, 3)) && decide (decode (am_B k) (pc + 9) = .ok (.athrow, 1))
      else decide (decode (am_B k) (pc + 4) = .ok (.ldc_w is, 3)) && decide (decode (am_B k) (pc + 7) = .ok (.invokespecial ic, 3)) && decide (decode (am_B k) (pc + 10) = .ok (.athrow, 1)))
    && (match am_G (am_O k) is with | some j => Nat.blt j 25 | none => false)
def am_kX : Bool := am_xs.all am_kX1
def am_kJ (k : Nat) : Bool := (am_H k).isEmpty || (am_O k == 54 && (am_H k).all (fun q => q.2.2.2 == 13 || q.2.2.2 == 15 || q.2.2.2 == 30))
def am_kG1 (e : Nat × Nat × Int64 × Nat) : Bool := match e with | (own, idx, v, i) => am_ok i (.constantLong (am_cn own) idx v)
def am_kG : Bool := am_gs.all am_kG1
def am_kU1 (e : Nat × Nat × Int32 × Nat) : Bool := match e with | (own, idx, v, i) => am_ok i (.constant (am_cn own) idx v)
def am_kU : Bool := am_us.all am_kU1
end
section
/-! the tables, decided by the kernel -/
set_option maxRecDepth 100000 in
theorem am_Hc0 : (List.range 10).all (fun j => am_kH (0 + j)) = true := by decide +kernel
set_option maxRecDepth 100000 in
theorem am_Hc1 : (List.range 10).all (fun j => am_kH (10 + j)) = true := by decide +kernel
set_option maxRecDepth 100000 in
theorem am_Hc2 : (List.range 10).all (fun j => am_kH (20 + j)) = true := by decide +kernel
end
section
/-! the tables, decided by the kernel -/
set_option maxRecDepth 100000 in
theorem am_Hc3 : (List.range 10).all (fun j => am_kH (30 + j)) = true := by decide +kernel
set_option maxRecDepth 100000 in
theorem am_Hc4 : (List.range 10).all (fun j => am_kH (40 + j)) = true := by decide +kernel
set_option maxRecDepth 100000 in
theorem am_Hc5 : (List.range 10).all (fun j => am_kH (50 + j)) = true := by decide +kernel
end
section
/-! the tables, decided by the kernel -/
set_option maxRecDepth 100000 in
theorem am_Hc6 : (List.range 10).all (fun j => am_kH (60 + j)) = true := by decide +kernel
set_option maxRecDepth 100000 in
theorem am_Hc7 : (List.range 10).all (fun j => am_kH (70 + j)) = true := by decide +kernel
set_option maxRecDepth 100000 in
theorem am_Hc8 : (List.range 10).all (fun j => am_kH (80 + j)) = true := by decide +kernel
end
section
/-! the tables, decided by the kernel -/
set_option maxRecDepth 100000 in
theorem am_Hc9 : (List.range 10).all (fun j => am_kH (90 + j)) = true := by decide +kernel
set_option maxRecDepth 100000 in
theorem am_Hc10 : (List.range 10).all (fun j => am_kH (100 + j)) = true := by decide +kernel
set_option maxRecDepth 100000 in
theorem am_Hc11 : (List.range 10).all (fun j => am_kH (110 + j)) = true := by decide +kernel
end
section
/-! the tables, decided by the kernel -/
set_option maxRecDepth 100000 in
theorem am_Hc12 : (List.range 10).all (fun j => am_kH (120 + j)) = true := by decide +kernel
set_option maxRecDepth 100000 in
theorem am_Hc13 : (List.range 10).all (fun j => am_kH (130 + j)) = true := by decide +kernel
set_option maxRecDepth 100000 in
theorem am_Hc14 : (List.range 10).all (fun j => am_kH (140 + j)) = true := by decide +kernel
end
section
/-! the tables, decided by the kernel -/
set_option maxRecDepth 100000 in
theorem am_Hc15 : (List.range 10).all (fun j => am_kH (150 + j)) = true := by decide +kernel
set_option maxRecDepth 100000 in
theorem am_Hc16 : (List.range 10).all (fun j => am_kH (160 + j)) = true := by decide +kernel
set_option maxRecDepth 100000 in
theorem am_Hc17 : (List.range 10).all (fun j => am_kH (170 + j)) = true := by decide +kernel
end
section
/-! the tables, decided by the kernel -/
set_option maxRecDepth 100000 in
theorem am_Hc18 : (List.range 10).all (fun j => am_kH (180 + j)) = true := by decide +kernel
set_option maxRecDepth 100000 in
theorem am_Hc19 : (List.range 10).all (fun j => am_kH (190 + j)) = true := by decide +kernel
set_option maxRecDepth 100000 in
theorem am_Hc20 : (List.range 10).all (fun j => am_kH (200 + j)) = true := by decide +kernel
end
section
/-! the tables, decided by the kernel -/
set_option maxRecDepth 100000 in
theorem am_Hc21 : (List.range 10).all (fun j => am_kH (210 + j)) = true := by decide +kernel
set_option maxRecDepth 100000 in
theorem am_Hc22 : (List.range 10).all (fun j => am_kH (220 + j)) = true := by decide +kernel
set_option maxRecDepth 100000 in
theorem am_Hc23 : (List.range 10).all (fun j => am_kH (230 + j)) = true := by decide +kernel
end
section
/-! the tables, decided by the kernel -/
set_option maxRecDepth 100000 in
theorem am_Hc24 : (List.range 10).all (fun j => am_kH (240 + j)) = true := by decide +kernel
set_option maxRecDepth 100000 in
theorem am_Hc25 : (List.range 10).all (fun j => am_kH (250 + j)) = true := by decide +kernel
set_option maxRecDepth 100000 in
theorem am_Hc26 : (List.range 10).all (fun j => am_kH (260 + j)) = true := by decide +kernel
end
section
/-! the tables, decided by the kernel -/
set_option maxRecDepth 100000 in
theorem am_Hc27 : (List.range 10).all (fun j => am_kH (270 + j)) = true := by decide +kernel
set_option maxRecDepth 100000 in
theorem am_Hc28 : (List.range 10).all (fun j => am_kH (280 + j)) = true := by decide +kernel
set_option maxRecDepth 100000 in
theorem am_Hc29 : (List.range 10).all (fun j => am_kH (290 + j)) = true := by decide +kernel
end
section
/-! the tables, decided by the kernel -/
set_option maxRecDepth 100000 in
theorem am_Hc30 : (List.range 10).all (fun j => am_kH (300 + j)) = true := by decide +kernel
set_option maxRecDepth 100000 in
theorem am_Hc31 : (List.range 10).all (fun j => am_kH (310 + j)) = true := by decide +kernel
set_option maxRecDepth 100000 in
theorem am_Hc32 : (List.range 10).all (fun j => am_kH (320 + j)) = true := by decide +kernel
end
section
/-! the tables, decided by the kernel -/
set_option maxRecDepth 100000 in
theorem am_Hc33 : (List.range 10).all (fun j => am_kH (330 + j)) = true := by decide +kernel
set_option maxRecDepth 100000 in
theorem am_Hc34 : (List.range 10).all (fun j => am_kH (340 + j)) = true := by decide +kernel
set_option maxRecDepth 100000 in
theorem am_Hc35 : (List.range 10).all (fun j => am_kH (350 + j)) = true := by decide +kernel
end
section
/-! the tables, decided by the kernel -/
set_option maxRecDepth 100000 in
theorem am_ok362 : am_ok (am_I 362) (.code (am_Y 362) (am_B 362) (am_X 362) (am_R 362)) = true := by
  unfold am_ok
  rw [Bool.and_eq_true]
  exact ⟨decide_eq_true rfl, rfl⟩
set_option maxRecDepth 100000 in
theorem am_H362 : am_kH 362 = true := by
  have h1 : am_H 362 = [] := rfl
  unfold am_kH
  rw [h1]
  dsimp only
  rw [am_ok362]
  decide +kernel
set_option maxRecDepth 100000 in
theorem am_H360 : [360, 361, 363, 364].all am_kH = true := by decide +kernel
theorem am_Hc36 : (List.range 5).all (fun j => am_kH (360 + j)) = true := by
  have h := List.all_eq_true.mp am_H360
  refine List.all_eq_true.mpr fun j hj => ?_
  have hj := List.mem_range.mp hj
  match j, hj with
  | 0, _ => exact h 360 (by simp)
  | 1, _ => exact h 361 (by simp)
  | 2, _ => exact am_H362
  | 3, _ => exact h 363 (by simp)
  | 4, _ => exact h 364 (by simp)
  | j + 5, h => exact absurd h (by omega)
theorem am_Hc_all (k : Nat) (h : k < 365) : am_kH k = true := by
  by_cases h0 : k < 10
  · have := List.all_eq_true.mp am_Hc0 (k - 0) (List.mem_range.mpr (by omega))
    rwa [show 0 + (k - 0) = k by omega] at this
  by_cases h1 : k < 20
  · have := List.all_eq_true.mp am_Hc1 (k - 10) (List.mem_range.mpr (by omega))
    rwa [show 10 + (k - 10) = k by omega] at this
  by_cases h2 : k < 30
  · have := List.all_eq_true.mp am_Hc2 (k - 20) (List.mem_range.mpr (by omega))
    rwa [show 20 + (k - 20) = k by omega] at this
  by_cases h3 : k < 40
  · have := List.all_eq_true.mp am_Hc3 (k - 30) (List.mem_range.mpr (by omega))
    rwa [show 30 + (k - 30) = k by omega] at this
  by_cases h4 : k < 50
  · have := List.all_eq_true.mp am_Hc4 (k - 40) (List.mem_range.mpr (by omega))
    rwa [show 40 + (k - 40) = k by omega] at this
  by_cases h5 : k < 60
  · have := List.all_eq_true.mp am_Hc5 (k - 50) (List.mem_range.mpr (by omega))
    rwa [show 50 + (k - 50) = k by omega] at this
  by_cases h6 : k < 70
  · have := List.all_eq_true.mp am_Hc6 (k - 60) (List.mem_range.mpr (by omega))
    rwa [show 60 + (k - 60) = k by omega] at this
  by_cases h7 : k < 80
  · have := List.all_eq_true.mp am_Hc7 (k - 70) (List.mem_range.mpr (by omega))
    rwa [show 70 + (k - 70) = k by omega] at this
  by_cases h8 : k < 90
  · have := List.all_eq_true.mp am_Hc8 (k - 80) (List.mem_range.mpr (by omega))
    rwa [show 80 + (k - 80) = k by omega] at this
  by_cases h9 : k < 100
  · have := List.all_eq_true.mp am_Hc9 (k - 90) (List.mem_range.mpr (by omega))
    rwa [show 90 + (k - 90) = k by omega] at this
  by_cases h10 : k < 110
  · have := List.all_eq_true.mp am_Hc10 (k - 100) (List.mem_range.mpr (by omega))
    rwa [show 100 + (k - 100) = k by omega] at this
  by_cases h11 : k < 120
  · have := List.all_eq_true.mp am_Hc11 (k - 110) (List.mem_range.mpr (by omega))
    rwa [show 110 + (k - 110) = k by omega] at this
  by_cases h12 : k < 130
  · have := List.all_eq_true.mp am_Hc12 (k - 120) (List.mem_range.mpr (by omega))
    rwa [show 120 + (k - 120) = k by omega] at this
  by_cases h13 : k < 140
  · have := List.all_eq_true.mp am_Hc13 (k - 130) (List.mem_range.mpr (by omega))
    rwa [show 130 + (k - 130) = k by omega] at this
  by_cases h14 : k < 150
  · have := List.all_eq_true.mp am_Hc14 (k - 140) (List.mem_range.mpr (by omega))
    rwa [show 140 + (k - 140) = k by omega] at this
  by_cases h15 : k < 160
  · have := List.all_eq_true.mp am_Hc15 (k - 150) (List.mem_range.mpr (by omega))
    rwa [show 150 + (k - 150) = k by omega] at this
  by_cases h16 : k < 170
  · have := List.all_eq_true.mp am_Hc16 (k - 160) (List.mem_range.mpr (by omega))
    rwa [show 160 + (k - 160) = k by omega] at this
  by_cases h17 : k < 180
  · have := List.all_eq_true.mp am_Hc17 (k - 170) (List.mem_range.mpr (by omega))
    rwa [show 170 + (k - 170) = k by omega] at this
  by_cases h18 : k < 190
  · have := List.all_eq_true.mp am_Hc18 (k - 180) (List.mem_range.mpr (by omega))
    rwa [show 180 + (k - 180) = k by omega] at this
  by_cases h19 : k < 200
  · have := List.all_eq_true.mp am_Hc19 (k - 190) (List.mem_range.mpr (by omega))
    rwa [show 190 + (k - 190) = k by omega] at this
  by_cases h20 : k < 210
  · have := List.all_eq_true.mp am_Hc20 (k - 200) (List.mem_range.mpr (by omega))
    rwa [show 200 + (k - 200) = k by omega] at this
  by_cases h21 : k < 220
  · have := List.all_eq_true.mp am_Hc21 (k - 210) (List.mem_range.mpr (by omega))
    rwa [show 210 + (k - 210) = k by omega] at this
  by_cases h22 : k < 230
  · have := List.all_eq_true.mp am_Hc22 (k - 220) (List.mem_range.mpr (by omega))
    rwa [show 220 + (k - 220) = k by omega] at this
  by_cases h23 : k < 240
  · have := List.all_eq_true.mp am_Hc23 (k - 230) (List.mem_range.mpr (by omega))
    rwa [show 230 + (k - 230) = k by omega] at this
  by_cases h24 : k < 250
  · have := List.all_eq_true.mp am_Hc24 (k - 240) (List.mem_range.mpr (by omega))
    rwa [show 240 + (k - 240) = k by omega] at this
  by_cases h25 : k < 260
  · have := List.all_eq_true.mp am_Hc25 (k - 250) (List.mem_range.mpr (by omega))
    rwa [show 250 + (k - 250) = k by omega] at this
  by_cases h26 : k < 270
  · have := List.all_eq_true.mp am_Hc26 (k - 260) (List.mem_range.mpr (by omega))
    rwa [show 260 + (k - 260) = k by omega] at this
  by_cases h27 : k < 280
  · have := List.all_eq_true.mp am_Hc27 (k - 270) (List.mem_range.mpr (by omega))
    rwa [show 270 + (k - 270) = k by omega] at this
  by_cases h28 : k < 290
  · have := List.all_eq_true.mp am_Hc28 (k - 280) (List.mem_range.mpr (by omega))
    rwa [show 280 + (k - 280) = k by omega] at this
  by_cases h29 : k < 300
  · have := List.all_eq_true.mp am_Hc29 (k - 290) (List.mem_range.mpr (by omega))
    rwa [show 290 + (k - 290) = k by omega] at this
  by_cases h30 : k < 310
  · have := List.all_eq_true.mp am_Hc30 (k - 300) (List.mem_range.mpr (by omega))
    rwa [show 300 + (k - 300) = k by omega] at this
  by_cases h31 : k < 320
  · have := List.all_eq_true.mp am_Hc31 (k - 310) (List.mem_range.mpr (by omega))
    rwa [show 310 + (k - 310) = k by omega] at this
  by_cases h32 : k < 330
  · have := List.all_eq_true.mp am_Hc32 (k - 320) (List.mem_range.mpr (by omega))
    rwa [show 320 + (k - 320) = k by omega] at this
  by_cases h33 : k < 340
  · have := List.all_eq_true.mp am_Hc33 (k - 330) (List.mem_range.mpr (by omega))
    rwa [show 330 + (k - 330) = k by omega] at this
  by_cases h34 : k < 350
  · have := List.all_eq_true.mp am_Hc34 (k - 340) (List.mem_range.mpr (by omega))
    rwa [show 340 + (k - 340) = k by omega] at this
  by_cases h35 : k < 360
  · have := List.all_eq_true.mp am_Hc35 (k - 350) (List.mem_range.mpr (by omega))
    rwa [show 350 + (k - 350) = k by omega] at this
  by_cases h36 : k < 365
  · have := List.all_eq_true.mp am_Hc36 (k - 360) (List.mem_range.mpr (by omega))
    rwa [show 360 + (k - 360) = k by omega] at this
  · omega
end
section
/-! the tables, decided by the kernel -/
set_option maxRecDepth 100000 in
theorem am_Kc0 : (List.range 20).all (fun j => am_kK (0 + j)) = true := by decide +kernel
set_option maxRecDepth 100000 in
theorem am_Kc1 : (List.range 20).all (fun j => am_kK (20 + j)) = true := by decide +kernel
set_option maxRecDepth 100000 in
theorem am_Kc2 : (List.range 20).all (fun j => am_kK (40 + j)) = true := by decide +kernel
end
section
/-! the tables, decided by the kernel -/
set_option maxRecDepth 100000 in
theorem am_Kc3 : (List.range 20).all (fun j => am_kK (60 + j)) = true := by decide +kernel
set_option maxRecDepth 100000 in
theorem am_Kc4 : (List.range 20).all (fun j => am_kK (80 + j)) = true := by decide +kernel
set_option maxRecDepth 100000 in
theorem am_Kc5 : (List.range 20).all (fun j => am_kK (100 + j)) = true := by decide +kernel
end
section
/-! the tables, decided by the kernel -/
set_option maxRecDepth 100000 in
theorem am_Kc6 : (List.range 20).all (fun j => am_kK (120 + j)) = true := by decide +kernel
set_option maxRecDepth 100000 in
theorem am_Kc7 : (List.range 20).all (fun j => am_kK (140 + j)) = true := by decide +kernel
set_option maxRecDepth 100000 in
theorem am_Kc8 : (List.range 20).all (fun j => am_kK (160 + j)) = true := by decide +kernel
end
section
/-! the tables, decided by the kernel -/
set_option maxRecDepth 100000 in
theorem am_Kc9 : (List.range 20).all (fun j => am_kK (180 + j)) = true := by decide +kernel
set_option maxRecDepth 100000 in
theorem am_Kc10 : (List.range 20).all (fun j => am_kK (200 + j)) = true := by decide +kernel
set_option maxRecDepth 100000 in
theorem am_Kc11 : (List.range 20).all (fun j => am_kK (220 + j)) = true := by decide +kernel
end
section
/-! the tables, decided by the kernel -/
set_option maxRecDepth 100000 in
theorem am_Kc12 : (List.range 20).all (fun j => am_kK (240 + j)) = true := by decide +kernel
set_option maxRecDepth 100000 in
theorem am_Kc13 : (List.range 20).all (fun j => am_kK (260 + j)) = true := by decide +kernel
set_option maxRecDepth 100000 in
theorem am_Kc14 : (List.range 20).all (fun j => am_kK (280 + j)) = true := by decide +kernel
end
section
/-! the tables, decided by the kernel -/
set_option maxRecDepth 100000 in
theorem am_Kc15 : (List.range 20).all (fun j => am_kK (300 + j)) = true := by decide +kernel
set_option maxRecDepth 100000 in
theorem am_Kc16 : (List.range 20).all (fun j => am_kK (320 + j)) = true := by decide +kernel
set_option maxRecDepth 100000 in
theorem am_Kc17 : (List.range 20).all (fun j => am_kK (340 + j)) = true := by decide +kernel
end
section
/-! the tables, decided by the kernel -/
set_option maxRecDepth 100000 in
theorem am_Kc18 : (List.range 5).all (fun j => am_kK (360 + j)) = true := by decide +kernel
theorem am_Kc_all (k : Nat) (h : k < 365) : am_kK k = true := by
  by_cases h0 : k < 20
  · have := List.all_eq_true.mp am_Kc0 (k - 0) (List.mem_range.mpr (by omega))
    rwa [show 0 + (k - 0) = k by omega] at this
  by_cases h1 : k < 40
  · have := List.all_eq_true.mp am_Kc1 (k - 20) (List.mem_range.mpr (by omega))
    rwa [show 20 + (k - 20) = k by omega] at this
  by_cases h2 : k < 60
  · have := List.all_eq_true.mp am_Kc2 (k - 40) (List.mem_range.mpr (by omega))
    rwa [show 40 + (k - 40) = k by omega] at this
  by_cases h3 : k < 80
  · have := List.all_eq_true.mp am_Kc3 (k - 60) (List.mem_range.mpr (by omega))
    rwa [show 60 + (k - 60) = k by omega] at this
  by_cases h4 : k < 100
  · have := List.all_eq_true.mp am_Kc4 (k - 80) (List.mem_range.mpr (by omega))
    rwa [show 80 + (k - 80) = k by omega] at this
  by_cases h5 : k < 120
  · have := List.all_eq_true.mp am_Kc5 (k - 100) (List.mem_range.mpr (by omega))
    rwa [show 100 + (k - 100) = k by omega] at this
  by_cases h6 : k < 140
  · have := List.all_eq_true.mp am_Kc6 (k - 120) (List.mem_range.mpr (by omega))
    rwa [show 120 + (k - 120) = k by omega] at this
  by_cases h7 : k < 160
  · have := List.all_eq_true.mp am_Kc7 (k - 140) (List.mem_range.mpr (by omega))
    rwa [show 140 + (k - 140) = k by omega] at this
  by_cases h8 : k < 180
  · have := List.all_eq_true.mp am_Kc8 (k - 160) (List.mem_range.mpr (by omega))
    rwa [show 160 + (k - 160) = k by omega] at this
  by_cases h9 : k < 200
  · have := List.all_eq_true.mp am_Kc9 (k - 180) (List.mem_range.mpr (by omega))
    rwa [show 180 + (k - 180) = k by omega] at this
  by_cases h10 : k < 220
  · have := List.all_eq_true.mp am_Kc10 (k - 200) (List.mem_range.mpr (by omega))
    rwa [show 200 + (k - 200) = k by omega] at this
  by_cases h11 : k < 240
  · have := List.all_eq_true.mp am_Kc11 (k - 220) (List.mem_range.mpr (by omega))
    rwa [show 220 + (k - 220) = k by omega] at this
  by_cases h12 : k < 260
  · have := List.all_eq_true.mp am_Kc12 (k - 240) (List.mem_range.mpr (by omega))
    rwa [show 240 + (k - 240) = k by omega] at this
  by_cases h13 : k < 280
  · have := List.all_eq_true.mp am_Kc13 (k - 260) (List.mem_range.mpr (by omega))
    rwa [show 260 + (k - 260) = k by omega] at this
  by_cases h14 : k < 300
  · have := List.all_eq_true.mp am_Kc14 (k - 280) (List.mem_range.mpr (by omega))
    rwa [show 280 + (k - 280) = k by omega] at this
  by_cases h15 : k < 320
  · have := List.all_eq_true.mp am_Kc15 (k - 300) (List.mem_range.mpr (by omega))
    rwa [show 300 + (k - 300) = k by omega] at this
  by_cases h16 : k < 340
  · have := List.all_eq_true.mp am_Kc16 (k - 320) (List.mem_range.mpr (by omega))
    rwa [show 320 + (k - 320) = k by omega] at this
  by_cases h17 : k < 360
  · have := List.all_eq_true.mp am_Kc17 (k - 340) (List.mem_range.mpr (by omega))
    rwa [show 340 + (k - 340) = k by omega] at this
  by_cases h18 : k < 365
  · have := List.all_eq_true.mp am_Kc18 (k - 360) (List.mem_range.mpr (by omega))
    rwa [show 360 + (k - 360) = k by omega] at this
  · omega
end
section
/-! the tables, decided by the kernel -/
set_option maxRecDepth 100000 in
theorem am_Pc0 : (List.range 40).all (fun j => am_kP (0 + j)) = true := by decide +kernel
set_option maxRecDepth 100000 in
theorem am_Pc1 : (List.range 40).all (fun j => am_kP (40 + j)) = true := by decide +kernel
end
section
/-! the tables, decided by the kernel -/
set_option maxRecDepth 100000 in
theorem am_Pc2 : (List.range 40).all (fun j => am_kP (80 + j)) = true := by decide +kernel
set_option maxRecDepth 100000 in
theorem am_Pc3 : (List.range 40).all (fun j => am_kP (120 + j)) = true := by decide +kernel
end
section
/-! the tables, decided by the kernel -/
set_option maxRecDepth 100000 in
theorem am_Pc4 : (List.range 40).all (fun j => am_kP (160 + j)) = true := by decide +kernel
set_option maxRecDepth 100000 in
theorem am_Pc5 : (List.range 40).all (fun j => am_kP (200 + j)) = true := by decide +kernel
end
section
/-! the tables, decided by the kernel -/
set_option maxRecDepth 100000 in
theorem am_Pc6 : (List.range 40).all (fun j => am_kP (240 + j)) = true := by decide +kernel
set_option maxRecDepth 100000 in
theorem am_Pc7 : (List.range 40).all (fun j => am_kP (280 + j)) = true := by decide +kernel
end
section
/-! the tables, decided by the kernel -/
set_option maxRecDepth 100000 in
theorem am_Pc8 : (List.range 40).all (fun j => am_kP (320 + j)) = true := by decide +kernel
set_option maxRecDepth 100000 in
theorem am_Pc9 : (List.range 5).all (fun j => am_kP (360 + j)) = true := by decide +kernel
theorem am_Pc_all (k : Nat) (h : k < 365) : am_kP k = true := by
  by_cases h0 : k < 40
  · have := List.all_eq_true.mp am_Pc0 (k - 0) (List.mem_range.mpr (by omega))
    rwa [show 0 + (k - 0) = k by omega] at this
  by_cases h1 : k < 80
  · have := List.all_eq_true.mp am_Pc1 (k - 40) (List.mem_range.mpr (by omega))
    rwa [show 40 + (k - 40) = k by omega] at this
  by_cases h2 : k < 120
  · have := List.all_eq_true.mp am_Pc2 (k - 80) (List.mem_range.mpr (by omega))
    rwa [show 80 + (k - 80) = k by omega] at this
  by_cases h3 : k < 160
  · have := List.all_eq_true.mp am_Pc3 (k - 120) (List.mem_range.mpr (by omega))
    rwa [show 120 + (k - 120) = k by omega] at this
  by_cases h4 : k < 200
  · have := List.all_eq_true.mp am_Pc4 (k - 160) (List.mem_range.mpr (by omega))
    rwa [show 160 + (k - 160) = k by omega] at this
  by_cases h5 : k < 240
  · have := List.all_eq_true.mp am_Pc5 (k - 200) (List.mem_range.mpr (by omega))
    rwa [show 200 + (k - 200) = k by omega] at this
  by_cases h6 : k < 280
  · have := List.all_eq_true.mp am_Pc6 (k - 240) (List.mem_range.mpr (by omega))
    rwa [show 240 + (k - 240) = k by omega] at this
  by_cases h7 : k < 320
  · have := List.all_eq_true.mp am_Pc7 (k - 280) (List.mem_range.mpr (by omega))
    rwa [show 280 + (k - 280) = k by omega] at this
  by_cases h8 : k < 360
  · have := List.all_eq_true.mp am_Pc8 (k - 320) (List.mem_range.mpr (by omega))
    rwa [show 320 + (k - 320) = k by omega] at this
  by_cases h9 : k < 365
  · have := List.all_eq_true.mp am_Pc9 (k - 360) (List.mem_range.mpr (by omega))
    rwa [show 360 + (k - 360) = k by omega] at this
  · omega
end
section
/-! the tables, decided by the kernel -/
set_option maxRecDepth 100000 in
theorem am_Fk : am_kF = true := by decide +kernel
set_option maxRecDepth 100000 in
theorem am_Tk : am_kT = true := by decide +kernel
set_option maxRecDepth 100000 in
theorem am_Sk : am_kS = true := by decide +kernel
set_option maxRecDepth 100000 in
theorem am_Nk : am_kN = true := by decide +kernel
set_option maxRecDepth 100000 in
theorem am_Vk : am_kV = true := by decide +kernel
set_option maxRecDepth 100000 in
theorem am_Xk : am_kX = true := by decide +kernel
set_option maxRecDepth 100000 in
theorem am_Jk : (List.range 365).all am_kJ = true := by decide +kernel
set_option maxRecDepth 100000 in
theorem am_Gk : am_kG = true := by decide +kernel
set_option maxRecDepth 100000 in
theorem am_Uk : am_kU = true := by decide +kernel
set_option maxRecDepth 100000 in
theorem am_CCk : am_in (.classLink RJ7 311 "[B") = true := by decide +kernel
end
section
/-! the small machine: its memory, one step, a run -/
abbrev ak_M : Type := (Nat → Nat → Int32) × (Nat → Nat → Option Nat) × (Nat → Nat → Int64) × (Nat → Nat → UInt64) × (Nat → Nat) × (Nat → Nat) × Nat × Nat × Nat
abbrev ak_F : Type := Nat × List (Option Value) × List (Nat × Value) × List Value
abbrev ak_O : Type := Option Value ⊕ Nat
abbrev ak_Act : Type := (ak_F × ak_M) ⊕ (ak_O × ak_M) ⊕ (Nat × List Value × ak_F × ak_M)
/-- the script's length, the script, whether the formatter is null -/
abbrev ak_X : Type := Nat × (Nat → Int32) × Bool
def ak_u {α : Type} (f : Nat → Nat → α) (p k : Nat) (v : α) : Nat → Nat → α := fun q j => if q = p ∧ j = k then v else f q j
def ak_I (M : ak_M) : Nat → Nat → Int32 := M.1
def ak_R (M : ak_M) : Nat → Nat → Option Nat := M.2.1
def ak_L (M : ak_M) : Nat → Nat → Int64 := M.2.2.1
def ak_D (M : ak_M) : Nat → Nat → UInt64 := M.2.2.2.1
def ak_K (M : ak_M) : Nat → Nat := M.2.2.2.2.1
def ak_N (M : ak_M) : Nat → Nat := M.2.2.2.2.2.1
def ak_P (M : ak_M) : Nat := M.2.2.2.2.2.2.1
def ak_C (M : ak_M) : Nat := M.2.2.2.2.2.2.2.1
def ak_Z (M : ak_M) : Nat := M.2.2.2.2.2.2.2.2
def ak_sI (M : ak_M) (p k : Nat) (v : Int32) : ak_M := (ak_u M.1 p k v, M.2)
def ak_sR (M : ak_M) (p k : Nat) (v : Option Nat) : ak_M := (M.1, ak_u M.2.1 p k v, M.2.2)
def ak_sL (M : ak_M) (p k : Nat) (v : Int64) : ak_M := (M.1, M.2.1, ak_u M.2.2.1 p k v, M.2.2.2)
def ak_sD (M : ak_M) (p k : Nat) (v : UInt64) : ak_M := (M.1, M.2.1, M.2.2.1, ak_u M.2.2.2.1 p k v, M.2.2.2.2)
/-- cells and slots used -/
def ak_use (M : ak_M) (c z : Nat) : ak_M := (ak_I M, ak_R M, ak_L M, ak_D M, ak_K M, ak_N M, ak_P M, ak_C M + c, ak_Z M + z)
/-- a new place of a kind and a length -/
def ak_new (M : ak_M) (kd ln z : Nat) : ak_M :=
  (fun q j => if q = ak_P M then 0 else ak_I M q j, fun q j => if q = ak_P M then none else ak_R M q j, fun q j => if q = ak_P M then 0 else ak_L M q j, fun q j => if q = ak_P M then 0 else ak_D M q j,
   fun q => if q = ak_P M then kd else ak_K M q, fun q => if q = ak_P M then ln else ak_N M q, ak_P M + 1, ak_C M + 1, ak_Z M + z)
/-- new byte[n][k]: the outer row, then the inner ones -/
def ak_mna (M : ak_M) (n k : Nat) : ak_M :=
  (fun q j => if ak_P M ≤ q ∧ q ≤ ak_P M + n then 0 else ak_I M q j,
   fun q j => if q = ak_P M then (if j < n then some (ak_P M + 1 + j) else none) else if ak_P M ≤ q ∧ q ≤ ak_P M + n then none else ak_R M q j,
   fun q j => if ak_P M ≤ q ∧ q ≤ ak_P M + n then 0 else ak_L M q j, fun q j => if ak_P M ≤ q ∧ q ≤ ak_P M + n then 0 else ak_D M q j,
   fun q => if q = ak_P M then 109 else if ak_P M ≤ q ∧ q ≤ ak_P M + n then 101 else ak_K M q,
   fun q => if q = ak_P M then n else if ak_P M ≤ q ∧ q ≤ ak_P M + n then k else ak_N M q,
   ak_P M + 1 + n, ak_C M + 1 + n, ak_Z M + n + n * k)
/-! what never changes: 1000000 the script, 1000001 to 3 the tables of the settings, 1000004 and 5 those of the digits, from 1001000 on the texts, from 1002000 on their bytes -/
def ak_t0 : List Int32 := [0, 0, 0, 1, 0, 0]
def ak_t1 : List Int32 := [99, 9, 9, 20, 50, 50]
def ak_t2 : List Int32 := [5, 2, 3, 4, 3, 10]
def ak_t5 : List Int32 := (List.range 100).map fun k => Int32.ofNat (48 + k / 10)
def ak_t6 : List Int32 := (List.range 100).map fun k => Int32.ofNat (48 + k % 10)
def ak_cK (p : Nat) : Nat := if p < 1000004 then 100 else if p < 1000006 then 101 else if 1001000 ≤ p ∧ p < 1001025 then 50 else if 1002000 ≤ p ∧ p < 1002025 then 101 else 999
def ak_cI (X : ak_X) (p k : Nat) : Int32 :=
  if p = 1000000 then X.2.1 k else if p = 1000001 then ak_t0.getD k 0 else if p = 1000002 then ak_t1.getD k 0 else if p = 1000003 then ak_t2.getD k 0 else if p = 1000004 then ak_t5.getD k 0 else if p = 1000005 then ak_t6.getD k 0 else (am_sb.getD (p - 1002000) []).getD k 0
def ak_cN (X : ak_X) (p : Nat) : Nat := if p = 1000000 then X.1 else if p < 1000004 then 6 else if p < 1000006 then 100 else (am_sb.getD (p - 1002000) []).length
/-- bytes of a row, or of one that never changes -/
def ak_by (X : ak_X) (M : ak_M) (p k : Nat) : Int32 := if p < ak_P M then ak_I M p k else ak_cI X p k
def ak_bn (X : ak_X) (M : ak_M) (p : Nat) : Nat := if p < ak_P M then ak_N M p else ak_cN X p
def ak_isb (M : ak_M) (p : Nat) : Bool := if p < ak_P M then decide (ak_K M p = 101) else decide (1002000 ≤ p ∧ p < 1002025)
/-- n bytes f from sp on, into the row a from dp on -/
def ak_cpy (M : ak_M) (f : Nat → Int32) (a sp dp n : Nat) : ak_M := (fun q j => if q = a ∧ dp ≤ j ∧ j < dp + n then f (sp + (j - dp)) else ak_I M q j, M.2)
def ak_isB (x : Int32) : Bool := decide (x.toInt8.toInt32 = x)
/-- a new byte row with the bytes f -/
def ak_cln (M : ak_M) (f : Nat → Int32) (n : Nat) : ak_M := (fun q j => if q = ak_P M then f j else ak_I (ak_new M 101 n n) q j, (ak_new M 101 n n).2)
def ak_n (pc : Nat) (l1 : List (Option Value)) (l2 : List (Nat × Value)) (st : List Value) (M : ak_M) : Option ak_Act := some (.inl ((pc, l1, l2, st), M))
def ak_e (r : ak_O) (M : ak_M) : Option ak_Act := some (.inr (.inl (r, M)))
def ak_j (pc : Nat) (off : Int) (l1 : List (Option Value)) (l2 : List (Nat × Value)) (st : List Value) (M : ak_M) : Option ak_Act :=
  if 0 ≤ (pc : Int) + off then ak_n ((pc : Int) + off).toNat l1 l2 st M else none
/-- a value of one slot is stored -/
def ak_s1 (i : Nat) (v : Value) (pc : Nat) (l1 : List (Option Value)) (l2 : List (Nat × Value)) (st : List Value) (M : ak_M) : Option ak_Act :=
  if i < l1.length then ak_n pc (l1.set i (some v)) (l2.filter (fun q => !(q.1 == i) && !(q.1 + 1 == i))) st M else none
/-- a value of two slots is stored -/
def ak_s2 (i : Nat) (v : Value) (pc : Nat) (l1 : List (Option Value)) (l2 : List (Nat × Value)) (st : List Value) (M : ak_M) : Option ak_Act :=
  if i + 1 < l1.length then ak_n pc ((l1.set i none).set (i + 1) none) ((i, v) :: l2.filter (fun q => !(q.1 == i) && (!(q.1 == i + 1) && !(q.1 + 1 == i)))) st M else none
def ak_g2 (l2 : List (Nat × Value)) (i : Nat) : Option Value := (l2.find? (fun q => q.1 == i)).map (·.2)
def ak_cat (st : List Value) : Nat := (st.map fun v => v.category).sum
def ak_ld (i n pc : Nat) (ok : Value → Bool) (l1 : List (Option Value)) (l2 : List (Nat × Value)) (st : List Value) (M : ak_M) : Option ak_Act :=
  match l1[i]? with
  | some (some v) => if ok v = true then ak_n (pc + n) l1 l2 (v :: st) M else none
  | _ => none
def ak_ld2 (i n pc : Nat) (ok : Value → Bool) (l1 : List (Option Value)) (l2 : List (Nat × Value)) (st : List Value) (M : ak_M) : Option ak_Act :=
  match ak_g2 l2 i with
  | some v => if ok v = true then ak_n (pc + n) l1 l2 (v :: st) M else none
  | _ => none
def ak_iI : Value → Bool | .int _ => true | _ => false
def ak_iA : Value → Bool | .ref _ => true | _ => false
def ak_iF : Value → Bool | .float _ => true | _ => false
def ak_iL : Value → Bool | .long _ => true | _ => false
def ak_iD : Value → Bool | .double _ => true | _ => false
/-- an index into a row of n places, as a place -/
def ak_ix (i : Int32) (n : Nat) : Bool := decide (¬ (i < 0 ∨ n ≤ i.toNatClampNeg))
def ak_rv (r : Option Nat) : Value := match r with | none => .null | some q => .ref q
/-- the class index of what stands at a place, for a call -/
def ak_rc (M : ak_M) (p : Nat) : Nat := if p < ak_P M then ak_K M p else if 1001000 ≤ p ∧ p < 1001025 then 13 else 999
def ak_e1 : List Value → List (Option Value)
  | [] => []
  | v :: vs => if v.category = 2 then none :: none :: ak_e1 vs else some v :: ak_e1 vs
def ak_e2 : Nat → List Value → List (Nat × Value)
  | _, [] => []
  | i, v :: vs => if v.category = 2 then (i, v) :: ak_e2 (i + 2) vs else ak_e2 (i + 1) vs
/-- the frame at a method's entry -/
def ak_en (k : Nat) (args : List Value) : ak_F := (0, ak_e1 args ++ List.replicate (am_X k - (ak_e1 args).length) none, ak_e2 0 args, [])
/-- a call: the arguments off the stack, what they are given to, what stays -/
def ak_call (mi cal : Nat) (args : List Value) (pc : Nat) (l1 : List (Option Value)) (l2 : List (Nat × Value)) (rest : List Value) (M : ak_M) : Option ak_Act :=
  if ak_cat rest ≤ 8 ∧ am_K cal < am_K mi ∧ am_Q cal + am_X cal + 19 ≤ am_Q mi ∧ (ak_e1 args).length ≤ am_X cal then some (.inr (.inr (cal, args, (pc + 3, l1, l2, rest), M))) else none
def ak_inv (X : ak_X) (mi idx : Nat) (vt : Nat) (pc : Nat) (l1 : List (Option Value)) (l2 : List (Nat × Value)) (st : List Value) (M : ak_M) : Option ak_Act :=
  match am_L mi idx with
  | none => none
  | some (cal, kind, _) =>
    if vt = 0 ∧ (kind = 0 ∨ kind = 6 ∨ kind = 8) then
      match st.drop (am_N cal) with
      | .ref p :: rest => if ak_rc M p = (if kind = 0 then am_C cal else 12) ∧ am_N cal ≤ st.length then ak_call mi cal (.ref p :: (st.take (am_N cal)).reverse) pc l1 l2 rest M else none
      | _ => none
    else if vt = 1 ∧ (kind = 1 ∨ kind = 4) then
      if am_N cal ≤ st.length then ak_call mi cal (st.take (am_N cal)).reverse pc l1 l2 (st.drop (am_N cal)) M else none
    else if vt = 2 ∧ (kind = 2 ∨ kind = 3) then
      match st.drop (am_N cal) with
      | .ref p :: rest => if am_N cal ≤ st.length then ak_call mi cal (.ref p :: (st.take (am_N cal)).reverse) pc l1 l2 rest M else none
      | _ => none
    else if vt = 2 ∧ kind = 7 then
      match st.drop (am_N cal) with
      | .ref p :: rest => if ak_rc M p = 12 ∧ am_N cal ≤ st.length then ak_call mi cal (.ref p :: (st.take (am_N cal)).reverse) pc l1 l2 rest M else none
      | _ => none
    else if vt = 2 ∧ kind = 5 then
      match st with
      | .ref _ :: rest => if ak_cat rest ≤ 8 then ak_n (pc + 3) l1 l2 rest M else none
      | _ => none
    else if vt = 1 ∧ kind = 9 then
      match st with
      | .int n :: .int dp :: .ref a :: .int sp :: .ref b :: rest =>
        if ak_cat rest ≤ 8 ∧ a < ak_P M ∧ ak_K M a = 101 ∧ ak_isb M b = true ∧ ¬ sp < 0 ∧ ¬ dp < 0 ∧ ¬ n < 0 ∧ sp.toNatClampNeg + n.toNatClampNeg ≤ ak_bn X M b ∧ dp.toNatClampNeg + n.toNatClampNeg ≤ ak_N M a ∧
            (List.range n.toNatClampNeg).all (fun i => ak_isB (ak_by X M b (sp.toNatClampNeg + i))) = true then
          ak_n (pc + 3) l1 l2 rest (ak_cpy M (ak_by X M b) a sp.toNatClampNeg dp.toNatClampNeg n.toNatClampNeg)
        else none
      | _ => none
    else if vt = 0 ∧ kind = 10 then
      match st with
      | .ref a :: rest =>
        if ak_cat rest ≤ 8 ∧ a < ak_P M ∧ ak_K M a = 101 ∧ ak_P M < 900000 ∧ (List.range (ak_N M a)).all (fun i => ak_isB (ak_I M a i)) = true then
          ak_n (pc + 3) l1 l2 (.ref (ak_P M) :: rest) (ak_cln M (ak_I M a) (ak_N M a))
        else none
      | _ => none
    else none
/-- what a method answers: an int by the type told -/
def ak_iok (ty : Option FieldType) (x : Int32) : Bool := match ty with
  | some .int => true
  | some .boolean => decide (x = 0 ∨ x = 1)
  | some .char => decide ((x.toUInt32 % 65536).toInt32 = x)
  | some .byte => decide (x.toInt8.toInt32 = x)
  | _ => false
def ak_isR (ty : Option FieldType) : Bool := match ty with
  | some (.object _) => true
  | some (.array _) => true
  | _ => false
/-- the class index that a row of a kind holds -/
def ak_ek (kd : Nat) : Nat := if kd = 105 then 5 else if kd = 106 then 10 else if kd = 107 then 1 else 2
def ak_x (X : ak_X) (mi : Nat) (ins : Instr) (pc : Nat) (l1 : List (Option Value)) (l2 : List (Nat × Value)) (st : List Value) (M : ak_M) : Option ak_Act :=
  match ins with
  | .iconst n => ak_n (pc + 1) l1 l2 (.int (Int32.ofInt n) :: st) M
  | .bipush n => ak_n (pc + 2) l1 l2 (.int (Int8.ofInt n).toInt32 :: st) M
  | .sipush n => ak_n (pc + 3) l1 l2 (.int (Int16.ofInt n).toInt32 :: st) M
  | .lconst n => ak_n (pc + 1) l1 l2 (.long (Int64.ofNat (n : Nat)) :: st) M
  | .fconst n => if n = 0 then ak_n (pc + 1) l1 l2 (.float FP.fconst0 :: st) M else none
  | .dconst n => if n = 0 then ak_n (pc + 1) l1 l2 (.double FP.dconst0 :: st) M else none
  | .iload_n k => ak_ld k 1 pc ak_iI l1 l2 st M
  | .iload i => ak_ld i 2 pc ak_iI l1 l2 st M
  | .fload i => ak_ld i 2 pc ak_iF l1 l2 st M
  | .aload_n k => ak_ld k 1 pc ak_iA l1 l2 st M
  | .aload i => ak_ld i 2 pc ak_iA l1 l2 st M
  | .lload_n k => ak_ld2 k 1 pc ak_iL l1 l2 st M
  | .lload i => ak_ld2 i 2 pc ak_iL l1 l2 st M
  | .dload_n k => ak_ld2 k 1 pc ak_iD l1 l2 st M
  | .dload i => ak_ld2 i 2 pc ak_iD l1 l2 st M
  | .istore_n k => match st with | .int x :: r => ak_s1 k (.int x) (pc + 1) l1 l2 r M | _ => none
  | .istore i => match st with | .int x :: r => ak_s1 i (.int x) (pc + 2) l1 l2 r M | _ => none
  | .fstore i => match st with | .float x :: r => ak_s1 i (.float x) (pc + 2) l1 l2 r M | _ => none
  | .astore_n k => match st with | .ref x :: r => ak_s1 k (.ref x) (pc + 1) l1 l2 r M | _ => none
  | .astore i => match st with | .ref x :: r => ak_s1 i (.ref x) (pc + 2) l1 l2 r M | _ => none
  | .dstore i => match st with | .double x :: r => ak_s2 i (.double x) (pc + 2) l1 l2 r M | _ => none
  | .iinc i n => match l1[i]? with | some (some (.int x)) => ak_s1 i (.int (x + Int32.ofInt n)) (pc + 3) l1 l2 st M | _ => none
  | .iadd => match st with | .int y :: .int x :: r => ak_n (pc + 1) l1 l2 (.int (x + y) :: r) M | _ => none
  | .isub => match st with | .int y :: .int x :: r => ak_n (pc + 1) l1 l2 (.int (x - y) :: r) M | _ => none
  | .imul => match st with | .int y :: .int x :: r => ak_n (pc + 1) l1 l2 (.int (x * y) :: r) M | _ => none
  | .iand => match st with | .int y :: .int x :: r => ak_n (pc + 1) l1 l2 (.int (x &&& y) :: r) M | _ => none
  | .ior => match st with | .int y :: .int x :: r => ak_n (pc + 1) l1 l2 (.int (x ||| y) :: r) M | _ => none
  | .ixor => match st with | .int y :: .int x :: r => ak_n (pc + 1) l1 l2 (.int (x ^^^ y) :: r) M | _ => none
  | .idiv => match st with | .int y :: .int x :: r => if y = 0 then none else ak_n (pc + 1) l1 l2 (.int (x / y) :: r) M | _ => none
  | .irem => match st with | .int y :: .int x :: r => if y = 0 then none else ak_n (pc + 1) l1 l2 (.int (x - x / y * y) :: r) M | _ => none
  | .ineg => match st with | .int x :: r => ak_n (pc + 1) l1 l2 (.int (-x) :: r) M | _ => none
  | .ishl => match st with | .int y :: .int x :: r => ak_n (pc + 1) l1 l2 (.int (x <<< (y &&& 31)) :: r) M | _ => none
  | .ishr => match st with | .int y :: .int x :: r => ak_n (pc + 1) l1 l2 (.int (x >>> (y &&& 31)) :: r) M | _ => none
  | .lsub => match st with | .long y :: .long x :: r => ak_n (pc + 1) l1 l2 (.long (x - y) :: r) M | _ => none
  | .lcmp => match st with | .long y :: .long x :: r => ak_n (pc + 1) l1 l2 (.int (lg_cmp x y) :: r) M | _ => none
  | .i2l => match st with | .int x :: r => ak_n (pc + 1) l1 l2 (.long x.toInt64 :: r) M | _ => none
  | .i2b => match st with | .int x :: r => ak_n (pc + 1) l1 l2 (.int x.toInt8.toInt32 :: r) M | _ => none
  | .i2c => match st with | .int x :: r => ak_n (pc + 1) l1 l2 (.int (x.toUInt32 % 65536).toInt32 :: r) M | _ => none
  | .i2f => match st with | .int x :: r => ak_n (pc + 1) l1 l2 (.float (FP.i2f x) :: r) M | _ => none
  | .i2d => match st with | .int x :: r => ak_n (pc + 1) l1 l2 (.double (FP.i2d x) :: r) M | _ => none
  | .f2d => match st with | .float x :: r => if (FP.f2d x) &&& 0x7fffffffffffffff ≤ 0x7ff0000000000000 then ak_n (pc + 1) l1 l2 (.double (FP.f2d x) :: r) M else none | _ => none
  | .fdiv => match st with | .float y :: .float x :: r => if (FP.fdiv x y) &&& 0x7fffffff ≤ 0x7f800000 then ak_n (pc + 1) l1 l2 (.float (FP.fdiv x y) :: r) M else none | _ => none
  | .ddiv => match st with | .double y :: .double x :: r => if (FP.ddiv x y) &&& 0x7fffffffffffffff ≤ 0x7ff0000000000000 then ak_n (pc + 1) l1 l2 (.double (FP.ddiv x y) :: r) M else none | _ => none
  | .fcmp op => match st with | .float y :: .float x :: r => ak_n (pc + 1) l1 l2 (.int (Op.cmpValue (FP.fcmp x y) op) :: r) M | _ => none
  | .dcmp op => match st with | .double y :: .double x :: r => ak_n (pc + 1) l1 l2 (.int (Op.cmpValue (FP.dcmp x y) op) :: r) M | _ => none
  | .dup => match st with | v :: r => if v.category = 1 then ak_n (pc + 1) l1 l2 (v :: v :: r) M else none | _ => none
  | .dup_x1 => match st with | v :: w :: r => if v.category = 1 ∧ w.category = 1 then ak_n (pc + 1) l1 l2 (v :: w :: v :: r) M else none | _ => none
  | .dup2 => match st with | v :: w :: r => if v.category = 1 ∧ w.category = 1 then ak_n (pc + 1) l1 l2 (v :: w :: v :: w :: r) M else none | _ => none
  | .aconst_null => ak_n (pc + 1) l1 l2 (.null :: st) M
  | .ifnonnull off => match st with | .ref _ :: r => ak_j pc off l1 l2 r M | _ => none
  | .checkcast idx => match st with | .ref p :: r => if p < ak_P M ∧ ak_K M p = 101 ∧ am_O mi = 58 ∧ idx = 311 then ak_n (pc + 3) l1 l2 (.ref p :: r) M else none | _ => none
  | .pop => match st with | v :: r => if v.category = 1 then ak_n (pc + 1) l1 l2 r M else none | _ => none
  | .goto off => ak_j pc off l1 l2 st M
  | .ifCond .eq off => match st with | .int x :: r => if x = 0 then ak_j pc off l1 l2 r M else ak_n (pc + 3) l1 l2 r M | _ => none
  | .ifCond .ne off => match st with | .int x :: r => if x = 0 then ak_n (pc + 3) l1 l2 r M else ak_j pc off l1 l2 r M | _ => none
  | .ifCond .lt off => match st with | .int x :: r => if x < 0 then ak_j pc off l1 l2 r M else ak_n (pc + 3) l1 l2 r M | _ => none
  | .ifCond .ge off => match st with | .int x :: r => if 0 ≤ x then ak_j pc off l1 l2 r M else ak_n (pc + 3) l1 l2 r M | _ => none
  | .ifCond .gt off => match st with | .int x :: r => if 0 < x then ak_j pc off l1 l2 r M else ak_n (pc + 3) l1 l2 r M | _ => none
  | .ifCond .le off => match st with | .int x :: r => if x ≤ 0 then ak_j pc off l1 l2 r M else ak_n (pc + 3) l1 l2 r M | _ => none
  | .if_icmp .eq off => match st with | .int y :: .int x :: r => if x = y then ak_j pc off l1 l2 r M else ak_n (pc + 3) l1 l2 r M | _ => none
  | .if_icmp .ne off => match st with | .int y :: .int x :: r => if x = y then ak_n (pc + 3) l1 l2 r M else ak_j pc off l1 l2 r M | _ => none
  | .if_icmp .lt off => match st with | .int y :: .int x :: r => if x < y then ak_j pc off l1 l2 r M else ak_n (pc + 3) l1 l2 r M | _ => none
  | .if_icmp .ge off => match st with | .int y :: .int x :: r => if y ≤ x then ak_j pc off l1 l2 r M else ak_n (pc + 3) l1 l2 r M | _ => none
  | .if_icmp .gt off => match st with | .int y :: .int x :: r => if y < x then ak_j pc off l1 l2 r M else ak_n (pc + 3) l1 l2 r M | _ => none
  | .if_icmp .le off => match st with | .int y :: .int x :: r => if x ≤ y then ak_j pc off l1 l2 r M else ak_n (pc + 3) l1 l2 r M | _ => none
  | .tableswitch d lo hi offs => match st with
    | .int x :: r => if x.toInt < lo ∨ hi < x.toInt then ak_j pc d l1 l2 r M else (match offs[(x.toInt - lo).toNat]? with | some o => ak_j pc o l1 l2 r M | none => none)
    | _ => none
  | .lookupswitch d ps => match st with
    | .int x :: r => if (ps.toList.zip (ps.toList.drop 1)).all (fun (a, next) => a.1 < next.1) = true then ak_j pc (Op.lookupswitch.offset ps.toList d x.toInt) l1 l2 r M else none
    | _ => none
  | .getfield idx => match st with
    | .ref p :: r => (match am_F (am_O mi) idx with
      | some (ci, k, _) =>
        if p < ak_P M then (if ci < 14 ∧ ak_K M p = ci then ak_n (pc + 3) l1 l2 ((if am_f ci k = 2 then ak_rv (ak_R M p k) else .int (ak_I M p k)) :: r) M else none)
        else if ci = 13 ∧ k < 2 ∧ 1001000 ≤ p ∧ p < 1001025 then ak_n (pc + 3) l1 l2 ((if k = 0 then .ref (p + 1000) else .int 0) :: r) M else none
      | none => none)
    | _ => none
  | .putfield idx => match st with
    | v :: .ref p :: r => (match am_F (am_O mi) idx with
      | some (ci, k, _) =>
        if p < ak_P M ∧ ak_K M p = ci ∧ ci < 14 then
          (match v with
          | .int x => if am_f ci k = 0 ∨ (am_f ci k = 1 ∧ (x = 0 ∨ x = 1)) ∨ (am_f ci k = 3 ∧ ak_isB x = true) then ak_n (pc + 3) l1 l2 r (ak_sI M p k x) else none
          | .ref q => if am_f ci k = 2 ∧ q < ak_P M then ak_n (pc + 3) l1 l2 r (ak_sR M p k (some q)) else none
          | _ => none)
        else none
      | none => none)
    | _ => none
  | .getstatic idx => match am_S (am_O mi) idx with
    | some (w, _) => if w < 3 then ak_n (pc + 3) l1 l2 (.ref (1000001 + w) :: st) M else if w = 3 then ak_n (pc + 3) l1 l2 (.int 1 :: st) M else if w = 4 then ak_n (pc + 3) l1 l2 ((if X.2.2 = true then .null else .ref 1003000) :: st) M else ak_n (pc + 3) l1 l2 (.ref (999999 + w) :: st) M
    | none => none
  | .new idx => match am_W (am_O mi) idx with
    | some (ci, _) => if ak_P M < 900000 then ak_n (pc + 3) l1 l2 (.ref (ak_P M) :: st) (ak_new M ci 0 (am_nf ci)) else none
    | none => match am_T mi pc with
      | some (E, _) => if ak_cat st ≤ 8 then ak_e (.inr E) (ak_use M 1 6) else none
      | none => none
  | .newarray t => match st with
    | .int n :: r => if ak_P M < 900000 ∧ ¬ n < 0 ∧ n.toNatClampNeg ≤ 60000000 then
        (match t with
        | .int => ak_n (pc + 2) l1 l2 (.ref (ak_P M) :: r) (ak_new M 100 n.toNatClampNeg n.toNatClampNeg)
        | .byte => ak_n (pc + 2) l1 l2 (.ref (ak_P M) :: r) (ak_new M 101 n.toNatClampNeg n.toNatClampNeg)
        | _ => none) else none
    | _ => none
  | .anewarray idx => match st with
    | .int n :: r => (match am_V (am_O mi) idx with
      | some (t, _) => if ak_P M < 900000 ∧ ¬ n < 0 ∧ n.toNatClampNeg ≤ 60000000 then ak_n (pc + 3) l1 l2 (.ref (ak_P M) :: r) (ak_new M (100 + t) n.toNatClampNeg n.toNatClampNeg) else none
      | none => none)
    | _ => none
  | .multianewarray idx dim => match st with
    | .int k :: .int n :: r => if am_O mi = 6 ∧ idx = 9 ∧ dim = 2 ∧ ak_P M < 900000 ∧ ¬ n < 0 ∧ ¬ k < 0 ∧ n.toNatClampNeg ≤ 1000 ∧ k.toNatClampNeg ≤ 1000 then ak_n (pc + 4) l1 l2 (.ref (ak_P M) :: r) (ak_mna M n.toNatClampNeg k.toNatClampNeg) else none
    | _ => none
  | .arraylength => match st with
    | .ref p :: r => if p < ak_P M then (if 100 ≤ ak_K M p then ak_n (pc + 1) l1 l2 (.int (Int32.ofNat (ak_N M p)) :: r) M else none)
        else if 1000000 ≤ p ∧ (ak_cK p = 100 ∨ ak_cK p = 101) then ak_n (pc + 1) l1 l2 (.int (Int32.ofNat (ak_cN X p)) :: r) M else none
    | _ => none
  | .iaload => match st with
    | .int i :: .ref p :: r => if p < ak_P M then (if ak_K M p = 100 ∧ ak_ix i (ak_N M p) = true then ak_n (pc + 1) l1 l2 (.int (ak_I M p i.toNatClampNeg) :: r) M else none)
        else if 1000000 ≤ p ∧ ak_cK p = 100 ∧ ak_ix i (ak_cN X p) = true then ak_n (pc + 1) l1 l2 (.int (ak_cI X p i.toNatClampNeg) :: r) M else none
    | _ => none
  | .baload => match st with
    | .int i :: .ref p :: r => if p < ak_P M then (if ak_K M p = 101 ∧ ak_ix i (ak_N M p) = true then ak_n (pc + 1) l1 l2 (.int (ak_I M p i.toNatClampNeg) :: r) M else none)
        else if 1000000 ≤ p ∧ ak_cK p = 101 ∧ ak_ix i (ak_cN X p) = true then ak_n (pc + 1) l1 l2 (.int (ak_cI X p i.toNatClampNeg) :: r) M else none
    | _ => none
  | .aaload => match st with
    | .int i :: .ref p :: r => if p < ak_P M ∧ 105 ≤ ak_K M p ∧ ak_K M p ≤ 109 ∧ ak_ix i (ak_N M p) = true then ak_n (pc + 1) l1 l2 (ak_rv (ak_R M p i.toNatClampNeg) :: r) M else none
    | _ => none
  | .iastore => match st with
    | .int x :: .int i :: .ref p :: r => if p < ak_P M ∧ ak_K M p = 100 ∧ ak_ix i (ak_N M p) = true then ak_n (pc + 1) l1 l2 r (ak_sI M p i.toNatClampNeg x) else none
    | _ => none
  | .bastore => match st with
    | .int x :: .int i :: .ref p :: r => if p < ak_P M ∧ ak_ix i (ak_N M p) = true then
        (if ak_K M p = 101 then ak_n (pc + 1) l1 l2 r (ak_sI M p i.toNatClampNeg (vp_nar .byte x)) else none) else none
    | _ => none
  | .aastore => match st with
    | .ref q :: .int i :: .ref p :: r => if p < ak_P M ∧ 105 ≤ ak_K M p ∧ ak_K M p ≤ 108 ∧ ak_ix i (ak_N M p) = true ∧ q < ak_P M ∧ ak_K M q = ak_ek (ak_K M p) then ak_n (pc + 1) l1 l2 r (ak_sR M p i.toNatClampNeg (some q)) else none
    | _ => none
  | .ldc idx => match am_G (am_O mi) idx with
    | some s => ak_n (pc + 2) l1 l2 (.ref (1001000 + s) :: st) M
    | none => match am_U (am_O mi) idx with
      | some v => ak_n (pc + 2) l1 l2 (.int v :: st) M
      | none => none
  | .ldc_w idx => match am_G (am_O mi) idx with
    | some s => ak_n (pc + 3) l1 l2 (.ref (1001000 + s) :: st) M
    | none => none
  | .ldc2_w idx => match am_J (am_O mi) idx with
    | some v => ak_n (pc + 3) l1 l2 (.long v :: st) M
    | none => none
  | .invokevirtual idx => ak_inv X mi idx 0 pc l1 l2 st M
  | .invokestatic idx => ak_inv X mi idx 1 pc l1 l2 st M
  | .invokespecial idx => ak_inv X mi idx 2 pc l1 l2 st M
  | .ireturn => match st with
    | [.int x] => if ak_iok (am_R mi) x = true then ak_e (.inl (some (.int x))) M else none
    | _ => none
  | .areturn => match st with
    | [.ref p] => if ak_isR (am_R mi) = true then ak_e (.inl (some (.ref p))) M else none
    | _ => none
  | .freturn => match st with
    | [.float x] => if am_R mi = some .float then ak_e (.inl (some (.float x))) M else none
    | _ => none
  | .dreturn => match st with
    | [.double x] => if am_R mi = some .double then ak_e (.inl (some (.double x))) M else none
    | _ => none
  | .return_ => match st with
    | [] => if am_R mi = none then ak_e (.inl none) M else none
    | _ => none
  | _ => none
def ak_S (X : ak_X) (mi : Nat) (f : ak_F) (M : ak_M) : Option ak_Act := match am_A mi f.1 with
  | some ins => ak_x X mi ins f.1 f.2.1 f.2.2.1 f.2.2.2 M
  | none => none
def ak_ct (c : Nat) : Nat := if c = 13 then 0 else if c = 15 then 1 else if c = 30 then 2 else 9
/-- where an exception is caught -/
def ak_h (hh : List (Nat × Nat × Nat × Nat)) (pc E : Nat) : Option Nat := (hh.find? (fun q => decide (q.1 ≤ pc) && decide (pc < q.2.1) && decide (ak_ct q.2.2.2 = E))).map (·.2.2.1)
/-- a run of a method from a frame on, with fuel -/
def ak_go (X : ak_X) : Nat → Nat → ak_F → ak_M → Option (ak_O × ak_M)
  | 0, _, _, _ => none
  | n + 1, mi, f, M => match ak_S X mi f M with
    | none => none
    | some (.inl (f', M')) => ak_go X n mi f' M'
    | some (.inr (.inl r)) => some r
    | some (.inr (.inr (cal, args, g, M1))) => match ak_go X n cal (ak_en cal args) M1 with
      | none => none
      | some (.inl v, M2) => ak_go X n mi (g.1, g.2.1, g.2.2.1, v.toList ++ g.2.2.2) M2
      | some (.inr E, M2) => if am_th.contains cal = true then (if (am_H mi).isEmpty = true then some (.inr E, M2) else match ak_h (am_H mi) (g.1 - 3) E with
          | some t => ak_go X n mi (t, g.2.1, g.2.2.1, [.ref (3000000 + ak_C M2)]) (ak_use M2 1 0)
          | none => none) else none
end
section
/-! the small machine's memory in the heap -/
def ak_v (ad : Nat → Nat) : Value → Value
  | .ref p => .ref (ad p)
  | v => v
theorem ak_v_cat (ad : Nat → Nat) (v : Value) : (ak_v ad v).category = v.category := by cases v <;> rfl
def ak_okP (M : ak_M) (p : Nat) : Prop := p < ak_P M ∨ (1000000 ≤ p ∧ p < 3000000 + ak_C M)
def ak_okV (M : ak_M) : Value → Prop
  | .ref p => ak_okP M p
  | _ => True
theorem ak_v_ext {ad ad' : Nat → Nat} {M : ak_M} (h : ∀ p, ak_okP M p → ad' p = ad p) {v : Value} (hv : ak_okV M v) : ak_v ad' v = ak_v ad v := by
  cases v with
  | ref p => show Value.ref (ad' p) = Value.ref (ad p); rw [h p hv]
  | _ => rfl
theorem ak_map_ext {ad ad' : Nat → Nat} {M : ak_M} (h : ∀ p, ak_okP M p → ad' p = ad p) {st : List Value} (hv : ∀ v ∈ st, ak_okV M v) : st.map (ak_v ad') = st.map (ak_v ad) :=
  List.map_congr_left fun v hm => ak_v_ext h (hv v hm)
def ak_okM (M : ak_M) : Prop := ak_P M ≤ 950000 ∧ (∀ p k q, ak_R M p k = some q → q < ak_P M) ∧ ∀ p, p < ak_P M → ak_K M p < 14 ∨ (100 ≤ ak_K M p ∧ ak_K M p ≤ 109)
def ak_ar (ad : Nat → Nat) (M : ak_M) (p kd : Nat) : (Nat → Int32) ⊕ (Nat → Int64) ⊕ (Nat → UInt32) ⊕ (Nat → UInt64) ⊕ (Nat → Option Nat) :=
  if kd ≤ 102 then .inl (ak_I M p) else if kd = 103 then .inr (.inl (ak_L M p)) else if kd = 104 then .inr (.inr (.inr (.inl (ak_D M p)))) else .inr (.inr (.inr (.inr (fun k => (ak_R M p k).map ad))))
def ak_fd (ad : Nat → Nat) (M : ak_M) (p ci k : Nat) : Value := if am_f ci k = 2 then va_rf ((ak_R M p k).map ad) else .int (ak_I M p k)
def ak_ce (ad : Nat → Nat) (dA : Nat → ClassId) (M : ak_M) (p : Nat) : va_E :=
  if ak_K M p < 14 then .inr (ak_K M p, (List.range (am_nf (ak_K M p))).map (ak_fd ad M p (ak_K M p))) else .inl (dA (ak_K M p - 100), ak_N M p, ak_ar ad M p (ak_K M p))
def ak_w (ad : Nat → Nat) (dA : Nat → ClassId) (M : ak_M) : va_W := (List.range (ak_P M)).map (fun p => (ad p, ak_ce ad dA M p))
theorem ak_wget {ad : Nat → Nat} {dA : Nat → ClassId} {M : ak_M} {p : Nat} (h : p < ak_P M) : (ak_w ad dA M)[p]? = some (ad p, ak_ce ad dA M p) := by
  simp [ak_w, h]
theorem ak_wobj {ad : Nat → Nat} {dA : Nat → ClassId} {M : ak_M} {p ci : Nat} (h : p < ak_P M) (hk : ak_K M p = ci) (hc : ci < 14) : (ak_w ad dA M)[p]? = some (ad p, .inr (ci, (List.range (am_nf ci)).map (ak_fd ad M p ci))) := by
  subst hk
  rw [ak_wget h]
  unfold ak_ce
  rw [if_pos hc]
theorem ak_warr {ad : Nat → Nat} {dA : Nat → ClassId} {M : ak_M} {p kd : Nat} (h : p < ak_P M) (hk : ak_K M p = kd) (hc : 100 ≤ kd) : (ak_w ad dA M)[p]? = some (ad p, .inl (dA (kd - 100), ak_N M p, ak_ar ad M p kd)) := by
  subst hk
  rw [ak_wget h]
  unfold ak_ce
  rw [if_neg (by omega)]
/-- M' is M but at the place p -/
def ak_at (M M' : ak_M) (p : Nat) : Prop := ak_P M' = ak_P M ∧ ak_K M' = ak_K M ∧ ak_N M' = ak_N M ∧ ∀ q, q ≠ p → ak_I M' q = ak_I M q ∧ ak_R M' q = ak_R M q ∧ ak_L M' q = ak_L M q ∧ ak_D M' q = ak_D M q
theorem ak_at_ce {ad : Nat → Nat} {dA : Nat → ClassId} {M M' : ak_M} {p q : Nat} (h : ak_at M M' p) (hq : q ≠ p) : ak_ce ad dA M' q = ak_ce ad dA M q := by
  obtain ⟨h1, h2, h3, h4⟩ := h
  obtain ⟨e1, e2, e3, e4⟩ := h4 q hq
  unfold ak_ce ak_ar
  rw [h2, h3, e1, e3, e4, show ak_fd ad M' q = ak_fd ad M q from funext fun ci => funext fun k => by unfold ak_fd; rw [e1, e2], e2]
theorem ak_at_w {ad : Nat → Nat} {dA : Nat → ClassId} {M M' : ak_M} {p : Nat} (h : ak_at M M' p) {x : va_E} (hx : p < ak_P M → x = ak_ce ad dA M' p) : (ak_w ad dA M).set p (ad p, x) = ak_w ad dA M' := by
  apply List.ext_getElem?
  intro i
  rw [List.getElem?_set]
  by_cases hip : p = i
  · subst hip
    by_cases hl : p < ak_P M
    · rw [if_pos rfl, ak_wget (M := M') (by rw [h.1]; exact hl), hx hl]
      simp [ak_w, hl]
    · simp [ak_w, hl, h.1]
  · rw [if_neg hip]
    unfold ak_w
    rw [List.getElem?_map, List.getElem?_map, h.1]
    by_cases hl : i < ak_P M
    · simp only [List.getElem?_range hl, Option.map_some]
      rw [ak_at_ce h (fun e => hip e.symm)]
    · simp [hl]
theorem ak_u_ne {α : Type} {f : Nat → Nat → α} {p k q : Nat} {v : α} (h : q ≠ p) : ak_u f p k v q = f q := by
  funext j; unfold ak_u; rw [if_neg (fun e => h e.1)]
theorem ak_u_at {α : Type} {f : Nat → Nat → α} {p k : Nat} {v : α} : ak_u f p k v p = fun j => if j = k then v else f p j := by
  funext j; unfold ak_u; simp
theorem ak_u_s {α : Type} {f : Nat → Nat → α} {p k : Nat} {v : α} : ak_u f p k v p k = v := if_pos ⟨rfl, rfl⟩
theorem ak_u_o {α : Type} {f : Nat → Nat → α} {p k j : Nat} {v : α} (h : j ≠ k) : ak_u f p k v p j = f p j := if_neg (fun e => h e.2)
theorem ak_atI {M : ak_M} {p k : Nat} {v : Int32} : ak_at M (ak_sI M p k v) p := ⟨rfl, rfl, rfl, fun q hq => ⟨ak_u_ne hq, rfl, rfl, rfl⟩⟩
theorem ak_atR {M : ak_M} {p k : Nat} {v : Option Nat} : ak_at M (ak_sR M p k v) p := ⟨rfl, rfl, rfl, fun q hq => ⟨rfl, ak_u_ne hq, rfl, rfl⟩⟩
theorem ak_atL {M : ak_M} {p k : Nat} {v : Int64} : ak_at M (ak_sL M p k v) p := ⟨rfl, rfl, rfl, fun q hq => ⟨rfl, rfl, ak_u_ne hq, rfl⟩⟩
theorem ak_atD {M : ak_M} {p k : Nat} {v : UInt64} : ak_at M (ak_sD M p k v) p := ⟨rfl, rfl, rfl, fun q hq => ⟨rfl, rfl, rfl, ak_u_ne hq⟩⟩
theorem ak_set_fld {ad : Nat → Nat} {M M' : ak_M} {p ci k : Nat} {v : Value} (hv : v = ak_fd ad M' p ci k) (ho : ∀ j, j ≠ k → ak_fd ad M' p ci j = ak_fd ad M p ci j) : ((List.range (am_nf ci)).map (ak_fd ad M p ci)).set k v = (List.range (am_nf ci)).map (ak_fd ad M' p ci) := by
  apply List.ext_getElem?
  intro i
  rw [List.getElem?_set]
  by_cases hik : k = i
  · subst hik
    by_cases hl : k < am_nf ci
    · simp [hl, hv]
    · simp [hl]
  · rw [if_neg hik]
    by_cases hl : i < am_nf ci
    · simp [hl, ho i (fun e => hik e.symm)]
    · simp [hl]
def ak_ty (t : Nat) : FieldType := match t with
  | 0 => .int | 1 => .byte | 2 => .int | 3 => .int | 4 => .int | 5 => .object RX5 | 6 => .object RX10 | 7 => .object RX1 | 8 => .object RX2 | _ => .array .byte
def ak_tys (dA : Nat → ClassId) : List (ClassId × FieldType) := (List.range 10).map (fun t => (dA t, ak_ty t))
theorem ak_tget {dA : Nat → ClassId} {t : Nat} (h : t < 10) : (ak_tys dA)[t]? = some (dA t, ak_ty t) := by simp [ak_tys, h]
/-- the words of the tables that a warmed machine keeps -/
def am_w : List Jvm.Cond := ax_tbl.filter goodWord
theorem am_w_of {i : Nat} {w : Jvm.Cond} (h : am_ok i w = true) : w ∈ am_w := by
  unfold am_ok at h
  rw [Bool.and_eq_true] at h
  exact List.mem_filter.mpr ⟨List.mem_of_getElem? (of_decide_eq_true h.1), h.2⟩
/-! the locals -/
def ak_l (ad : Nat → Nat) (ls : Array Slot) (nL : Nat) (l1 : List (Option Value)) (l2 : List (Nat × Value)) : Prop :=
  ls.size = nL ∧ lv_wf ls ∧ l1.length = nL ∧ (∀ (i : Nat) (v : Value), l1[i]? = some (some v) → v.category = 1 ∧ ls[i]? = some (.val (ak_v ad v))) ∧ ∀ q ∈ l2, q.2.category = 2 ∧ ls[q.1]? = some (.val q.2)
def ak_ll (ad : Nat → Nat) (l1 : List (Option Value)) (l2 : List (Nat × Value)) : List (Nat × Value) :=
  (List.range l1.length).filterMap (fun i => match l1[i]? with | some (some v) => some (i, ak_v ad v) | _ => none) ++ l2
theorem ak_ll_in {ad : Nat → Nat} {l1 : List (Option Value)} {l2 : List (Nat × Value)} {i : Nat} {v : Value} (h : l1[i]? = some (some v)) : (i, ak_v ad v) ∈ ak_ll ad l1 l2 := by
  unfold ak_ll
  refine List.mem_append_left _ (List.mem_filterMap.mpr ⟨i, List.mem_range.mpr (List.getElem?_eq_some_iff.mp h).1, ?_⟩)
  rw [h]
theorem ak_ll_of {ad : Nat → Nat} {l1 : List (Option Value)} {l2 : List (Nat × Value)} {q : Nat × Value} (h : q ∈ ak_ll ad l1 l2) : (∃ v, l1[q.1]? = some (some v) ∧ q.2 = ak_v ad v) ∨ q ∈ l2 := by
  unfold ak_ll at h
  rcases List.mem_append.mp h with h | h
  · obtain ⟨i, -, hi⟩ := List.mem_filterMap.mp h
    split at hi
    · rename_i v hv
      cases hi
      exact Or.inl ⟨v, hv, rfl⟩
    · cases hi
  · exact Or.inr h
theorem ak_lh {ad : Nat → Nat} {ls : Array Slot} {nL : Nat} {l1 : List (Option Value)} {l2 : List (Nat × Value)} (h : ak_l ad ls nL l1 l2) : lv_has ls nL (ak_ll ad l1 l2) := by
  refine ⟨h.1, h.2.1, fun q hq => ?_⟩
  rcases ak_ll_of hq with ⟨v, h1, h2⟩ | h1
  · rw [h2]; exact (h.2.2.2.1 q.1 v h1).2
  · exact (h.2.2.2.2 q h1).2
theorem ak_lp {ad : Nat → Nat} {l1 : List (Option Value)} {l2 : List (Nat × Value)} {i : Nat} {v : Value} (h : l1[i]? = some (some v)) : ∃ k : Nat, (ak_ll ad l1 l2)[k]? = some (i, ak_v ad v) := List.getElem?_of_mem (ak_ll_in h)
theorem ak_ls1 {ad : Nat → Nat} {ls ls' : Array Slot} {nL i : Nat} {l1 : List (Option Value)} {l2 : List (Nat × Value)} {v : Value} (h : ak_l ad ls nL l1 l2) (hc : v.category = 1)
    (h' : lv_has ls' nL ((i, ak_v ad v) :: (ak_ll ad l1 l2).filter (fun q => !(q.1 == i) && !(q.1 + 1 == i && q.2.category == 2)))) : ak_l ad ls' nL (l1.set i (some v)) (l2.filter (fun q => !(q.1 == i) && !(q.1 + 1 == i))) := by
  refine ⟨h'.1, h'.2.1, by rw [List.length_set]; exact h.2.2.1, fun j w hj => ?_, fun q hq => ?_⟩
  · rw [List.getElem?_set] at hj
    by_cases e : i = j
    · subst e
      rw [if_pos rfl] at hj
      split at hj
      · cases hj
        exact ⟨hc, h'.2.2 _ List.mem_cons_self⟩
      · cases hj
    · rw [if_neg e] at hj
      have hw := (h.2.2.2.1 j w hj).1
      refine ⟨hw, h'.2.2 (j, ak_v ad w) (List.mem_cons_of_mem _ (List.mem_filter.mpr ⟨ak_ll_in hj, ?_⟩))⟩
      have e' : ¬ j = i := fun q => e q.symm
      simp [e', ak_v_cat, hw]
  · obtain ⟨h1, h2⟩ := List.mem_filter.mp hq
    refine ⟨(h.2.2.2.2 q h1).1, h'.2.2 q (List.mem_cons_of_mem _ (List.mem_filter.mpr ⟨List.mem_append_right _ h1, ?_⟩))⟩
    simp only [Bool.and_eq_true, Bool.not_eq_true', beq_eq_false_iff_ne, ne_eq] at h2
    simp [h2.1, h2.2]
theorem ak_ls2 {ad : Nat → Nat} {ls ls' : Array Slot} {nL i : Nat} {l1 : List (Option Value)} {l2 : List (Nat × Value)} {v : Value} (h : ak_l ad ls nL l1 l2) (hc : v.category = 2)
    (h' : lv_has ls' nL ((i, v) :: (ak_ll ad l1 l2).filter (fun q => !(q.1 == i) && (!(q.1 == i + 1) && !(q.1 + 1 == i && q.2.category == 2))))) :
    ak_l ad ls' nL ((l1.set i none).set (i + 1) none) ((i, v) :: l2.filter (fun q => !(q.1 == i) && (!(q.1 == i + 1) && !(q.1 + 1 == i)))) := by
  refine ⟨h'.1, h'.2.1, by rw [List.length_set, List.length_set]; exact h.2.2.1, fun j w hj => ?_, fun q hq => ?_⟩
  · rw [List.getElem?_set, List.getElem?_set] at hj
    by_cases e : i + 1 = j
    · rw [if_pos e] at hj
      split at hj <;> cases hj
    · rw [if_neg e] at hj
      by_cases e2 : i = j
      · rw [if_pos e2] at hj
        split at hj <;> cases hj
      · rw [if_neg e2] at hj
        have hw := (h.2.2.2.1 j w hj).1
        refine ⟨hw, h'.2.2 (j, ak_v ad w) (List.mem_cons_of_mem _ (List.mem_filter.mpr ⟨ak_ll_in hj, ?_⟩))⟩
        have e' : ¬ j = i := fun q => e2 q.symm
        have e'' : ¬ j = i + 1 := fun q => e q.symm
        simp [e', e'', ak_v_cat, hw]
  · rcases List.mem_cons.mp hq with rfl | hq
    · exact ⟨hc, h'.2.2 _ List.mem_cons_self⟩
    · obtain ⟨h1, h2⟩ := List.mem_filter.mp hq
      refine ⟨(h.2.2.2.2 q h1).1, h'.2.2 q (List.mem_cons_of_mem _ (List.mem_filter.mpr ⟨List.mem_append_right _ h1, ?_⟩))⟩
      simp only [Bool.and_eq_true, Bool.not_eq_true', beq_eq_false_iff_ne, ne_eq] at h2
      simp [h2.1, h2.2.1, h2.2.2]
theorem ak_l_ext {ad ad' : Nat → Nat} {M : ak_M} (he : ∀ p, ak_okP M p → ad' p = ad p) {ls : Array Slot} {nL : Nat} {l1 : List (Option Value)} {l2 : List (Nat × Value)} (hv : ∀ (i : Nat) (v : Value), l1[i]? = some (some v) → ak_okV M v) (h : ak_l ad ls nL l1 l2) : ak_l ad' ls nL l1 l2 :=
  ⟨h.1, h.2.1, h.2.2.1, fun i v hi => ⟨(h.2.2.2.1 i v hi).1, by rw [ak_v_ext he (hv i v hi)]; exact (h.2.2.2.1 i v hi).2⟩, h.2.2.2.2⟩
theorem ak_e1_of : ∀ (vs : List Value) (k i : Nat) (v : Value), (ak_e1 vs)[i]? = some (some v) → v ∈ vs ∧ v.category = 1 ∧ (k + i, v) ∈ lv_args k vs
  | [], k, i, v, h => by simp [ak_e1] at h
  | w :: vs, k, i, v, h => by
    unfold ak_e1 at h
    unfold lv_args
    by_cases hc : w.category = 2
    · rw [if_pos hc] at h
      rw [if_pos hc]
      match i, h with
      | 0, h => simp at h
      | 1, h => simp at h
      | i + 2, h =>
        simp only [List.getElem?_cons_succ] at h
        obtain ⟨h1, h2, h3⟩ := ak_e1_of vs (k + 2) i v h
        exact ⟨List.mem_cons_of_mem _ h1, h2, List.mem_cons_of_mem _ (by rw [show k + (i + 2) = k + 2 + i by omega]; exact h3)⟩
    · rw [if_neg hc] at h
      rw [if_neg hc]
      match i, h with
      | 0, h =>
        simp only [List.getElem?_cons_zero, Option.some.injEq] at h
        subst h
        exact ⟨List.mem_cons_self, by rcases lv_cat w with q | q; exact q; exact absurd q hc, List.mem_cons_self⟩
      | i + 1, h =>
        simp only [List.getElem?_cons_succ] at h
        obtain ⟨h1, h2, h3⟩ := ak_e1_of vs (k + 1) i v h
        exact ⟨List.mem_cons_of_mem _ h1, h2, List.mem_cons_of_mem _ (by rw [show k + (i + 1) = k + 1 + i by omega]; exact h3)⟩
theorem ak_e2_of : ∀ (vs : List Value) (k : Nat) (q : Nat × Value), q ∈ ak_e2 k vs → q.2.category = 2 ∧ q ∈ lv_args k vs
  | [], k, q, h => by simp [ak_e2] at h
  | w :: vs, k, q, h => by
    unfold ak_e2 at h
    unfold lv_args
    by_cases hc : w.category = 2
    · rw [if_pos hc] at h
      rw [if_pos hc]
      rcases List.mem_cons.mp h with rfl | h
      · exact ⟨hc, List.mem_cons_self⟩
      · obtain ⟨h1, h2⟩ := ak_e2_of vs (k + 2) q h
        exact ⟨h1, List.mem_cons_of_mem _ h2⟩
    · rw [if_neg hc] at h
      rw [if_neg hc]
      obtain ⟨h1, h2⟩ := ak_e2_of vs (k + 1) q h
      exact ⟨h1, List.mem_cons_of_mem _ h2⟩
theorem ak_args_map (ad : Nat → Nat) : ∀ (vs : List Value) (k : Nat), lv_args k (vs.map (ak_v ad)) = (lv_args k vs).map (fun q => (q.1, ak_v ad q.2))
  | [], _ => rfl
  | v :: vs, k => by
    show (k, ak_v ad v) :: lv_args (if (ak_v ad v).category = 2 then k + 2 else k + 1) (vs.map (ak_v ad)) = _
    rw [ak_v_cat, ak_args_map ad vs]
    rfl
theorem ak_v_2 (ad : Nat → Nat) {v : Value} (h : v.category = 2) : ak_v ad v = v := by
  cases v with
  | ref p => exact absurd h (by simp [Value.category])
  | _ => rfl
theorem ak_e1_len (ad : Nat → Nat) : ∀ vs : List Value, (lg_sl (vs.map (ak_v ad))).length = (ak_e1 vs).length
  | [] => rfl
  | v :: vs => by
    have ih := ak_e1_len ad vs
    have e1 : lg_sl ((v :: vs).map (ak_v ad)) = (if (ak_v ad v).category = 2 then [Slot.val (ak_v ad v), .second] else [.val (ak_v ad v)]) ++ lg_sl (vs.map (ak_v ad)) := rfl
    have e2 : ak_e1 (v :: vs) = if v.category = 2 then none :: none :: ak_e1 vs else some v :: ak_e1 vs := rfl
    rw [e1, e2, List.length_append, ih, ak_v_cat]
    by_cases hc : v.category = 2
    · rw [if_pos hc, if_pos hc]; simp only [List.length_cons, List.length_nil]; omega
    · rw [if_neg hc, if_neg hc]; simp only [List.length_cons, List.length_nil]; omega
/-- the locals at a method's entry -/
theorem ak_entry (ad : Nat → Nat) (k : Nat) (vs : List Value) (h : (ak_e1 vs).length ≤ am_X k) :
    ak_l ad ((lg_sl (vs.map (ak_v ad)) ++ List.replicate (am_X k - (lg_sl (vs.map (ak_v ad))).length) Slot.unset).toArray) (am_X k) (ak_en k vs).2.1 (ak_en k vs).2.2.1 := by
  obtain ⟨h1, h2, h3⟩ := lv_entry (vs.map (ak_v ad)) (n := am_X k) (by rw [ak_e1_len]; exact h)
  refine ⟨h1, h2, by show (ak_e1 vs ++ List.replicate _ none).length = _; rw [List.length_append, List.length_replicate]; omega, fun i v hi => ?_, fun q hq => ?_⟩
  · have hi : (ak_e1 vs ++ List.replicate (am_X k - (ak_e1 vs).length) none)[i]? = some (some v) := hi
    by_cases hl : i < (ak_e1 vs).length
    · rw [List.getElem?_append_left hl] at hi
      obtain ⟨-, g2, g3⟩ := ak_e1_of vs 0 i v hi
      rw [Nat.zero_add] at g3
      refine ⟨g2, h3 (i, ak_v ad v) ?_⟩
      rw [ak_args_map]
      exact List.mem_map.mpr ⟨(i, v), g3, rfl⟩
    · rw [List.getElem?_append_right (by omega)] at hi
      have := (List.mem_replicate.mp (List.mem_of_getElem? hi)).2
      cases this
  · obtain ⟨g1, g2⟩ := ak_e2_of vs 0 q hq
    refine ⟨g1, ?_⟩
    have := h3 (q.1, ak_v ad q.2) (by rw [ak_args_map]; exact List.mem_map.mpr ⟨q, g2, rfl⟩)
    rw [ak_v_2 ad g1] at this
    exact this
theorem ak_en_ok {M : ak_M} {k : Nat} {vs : List Value} (h : ∀ v ∈ vs, ak_okV M v) : ∀ (i : Nat) (v : Value), (ak_en k vs).2.1[i]? = some (some v) → ak_okV M v := by
  intro i v hi
  have hi : (ak_e1 vs ++ List.replicate (am_X k - (ak_e1 vs).length) none)[i]? = some (some v) := hi
  by_cases hl : i < (ak_e1 vs).length
  · rw [List.getElem?_append_left hl] at hi
    exact h v (ak_e1_of vs 0 i v hi).1
  · rw [List.getElem?_append_right (by omega)] at hi
    have := (List.mem_replicate.mp (List.mem_of_getElem? hi)).2
    cases this
/-! what holds of the machine around a run -/
theorem ak_isN_warm {s U : State} (hW : s.WarmedH U.vm) : ∀ {w : Jvm.Cond}, ak_isN w = true → va_Nw w s → va_Nw w U
  | .methodLinkNest _ _ _ _, _, hz => va_Nw.warmM hW hz
  | .fieldLinkNest _ _ _ _ _ _, _, hz => va_Nw.warmF hW hz
  | .castable _ _, _, hz => va_Nw.warmC hW hz
  | .declares _, _, hz => va_Nw.warmD hW hz
def ak_str (ac : Nat → Nat) (A : Nat → Prop) (U : State) (H : Heap) (j : Nat) : Prop :=
  va_O "java/lang/String" (ac (1001000 + j)) A U H ∧ va_OF "java/lang/String" "coder" "B" (.int 0) (ac (1001000 + j)) A U H ∧ va_OF "java/lang/String" "value" "[B" (.ref (ac (1002000 + j))) (ac (1001000 + j)) A U H ∧ va_T .byte (ac (1002000 + j)) (am_sb.getD j []).length (fun k => .int ((am_sb.getD j []).getD k 0)) A U H
def ak_fm (X : ak_X) (ac : Nat → Nat) : Value := if X.2.2 = true then .null else .ref (ac 1003000)
def ak_sw (j : Nat) : Nat × Nat × String := am_sr.getD j (54, 0, "")
def ak_amb (X : ak_X) (D : va_G) (dA : Nat → ClassId) (ac : Nat → Nat) (A : Nat → Prop) (U : State) (H : Heap) : Prop :=
  va_K D vwCl (ak_tys dA) U ∧ (X.1 < 2 ^ 31 ∧ va_T .int (ac 1000000) X.1 (fun j => .int (X.2.1 j)) A U H) ∧
  (∀ j, j < 3 → va_Z (am_sn j).1 (am_sn j).2.1 (am_sn j).2.2 (.ref (ac (1000001 + j))) A U H ∧ va_T .int (ac (1000001 + j)) 6 (fun k => .int (ak_cI X (1000001 + j) k)) A U H) ∧
  va_Z (am_sn 3).1 (am_sn 3).2.1 (am_sn 3).2.2 (.int 1) A U H ∧ va_Z (am_sn 4).1 (am_sn 4).2.1 (am_sn 4).2.2 (ak_fm X ac) A U H ∧
  (∀ j, j < 25 → vk_R (am_cn (ak_sw j).1) (ak_sw j).2.1 (ak_sw j).2.2 (ac (1001000 + j)) U ∧ ak_str ac A U H j) ∧
  vx_Zq Bundle.tN "UNASSIGNED_STACK" Bundle.steD A U H ∧ vx_Zq Bundle.tN "SUPPRESSED_SENTINEL" Bundle.listD A U H ∧
  (∀ w ∈ ax_tbl, ak_isN w = true → va_Nw w U) ∧ (∀ i j : Nat, i < 3 → j < 3 → i ≠ j → True) ∧ (∀ t, 5 ≤ t → t ≤ 8 → va_AO (am_ac t) U) ∧ va_AOA .byte U ∧
  ∀ j, j < 2 → va_Z (am_sn (5 + j)).1 (am_sn (5 + j)).2.1 (am_sn (5 + j)).2.2 (.ref (ac (1000004 + j))) A U H ∧ va_T .byte (ac (1000004 + j)) 100 (fun k => .int (ak_cI X (1000004 + j) k)) A U H
theorem va_AOA.moved {ty : FieldType} {u U : State} (hvm : u.vm.Alike U.vm) (h : va_AOA ty u) : va_AOA ty U := by
  have e := (Cond.arrayOver_setVmC (args := #[]) hvm (.array ty)).trans h
  exact e
theorem ak_amb.warm {X : ak_X} {D : va_G} {dA : Nat → ClassId} {ac : Nat → Nat} {A : Nat → Prop} {s U : State} {H : Heap} (hW : s.WarmedH U.vm) (h : ak_amb X D dA ac A s H) : ak_amb X D dA ac A U H := by
  obtain ⟨h1, ⟨h2, h3⟩, h4, h5, h6, h7, h8, h9, h10, h11, h12, h13, h14⟩ := h
  have ha := hW.alike
  exact ⟨h1.moved ha, ⟨h2, h3.moved ha⟩, fun j hj => ⟨(h4 j hj).1.moved ha, (h4 j hj).2.moved ha⟩, h5.moved ha, h6.moved ha,
    fun j hj => ⟨(h7 j hj).1.warm hW, (h7 j hj).2.1.moved ha, (h7 j hj).2.2.1.moved ha, (h7 j hj).2.2.2.1.moved ha, (h7 j hj).2.2.2.2.moved ha⟩, h8.moved ha, h9.moved ha,
    fun w hw hn => ak_isN_warm hW hn (h10 w hw hn), h11, fun t h5 h8 => (h12 t h5 h8).moved ha, h13.moved ha, fun j hj => ⟨(h14 j hj).1.moved ha, (h14 j hj).2.moved ha⟩⟩
theorem ak_amb.kept {X : ak_X} {D : va_G} {dA : Nat → ClassId} {ac : Nat → Nat} {A : Nat → Prop} {s : State} {H H1 : Heap} (h : ak_amb X D dA ac A s H) (hq : ∀ a : Nat, a < H.size → ¬ A a → H1[a]? = H[a]?) : ak_amb X D dA ac A s H1 := by
  obtain ⟨h1, ⟨h2, h3⟩, h4, h5, h6, h7, h8, h9, h10, h11, h12, h13, h14⟩ := h
  exact ⟨h1, ⟨h2, h3.kept hq⟩, fun j hj => ⟨(h4 j hj).1.kept hq, (h4 j hj).2.kept hq⟩, h5.kept hq, h6.kept hq,
    fun j hj => ⟨(h7 j hj).1, (h7 j hj).2.1.kept hq, (h7 j hj).2.2.1.kept hq, (h7 j hj).2.2.2.1.kept hq, (h7 j hj).2.2.2.2.kept hq⟩, h8.kept hq, h9.kept hq, h10, h11, h12, h13, fun j hj => ⟨(h14 j hj).1.kept hq, (h14 j hj).2.kept hq⟩⟩
def ak_A (base : Nat) : Nat → Prop := fun q => base ≤ q
/-- a method's body at work -/
def ak_cx (p : Program) (l : Launch) (R : Room) (s : State) (m : MethodId) (args : Array Value) (meth : Method) (c : Code) (mi : Nat) : Prop :=
  p.tables.exec = Jvm.exec ∧ c.code = am_B mi ∧ s.vm.findClass (am_cn (am_O mi)) = some m.cls ∧ (∀ w ∈ am_w, w.before args s = true) ∧ c.maxLocals = am_X mi ∧ meth.sig.returnType = am_R mi ∧ meth.locks = false ∧
  (mi ≠ 364 → meth.name = (am_Y mi).name) ∧ (mi ≠ 364 → c.exceptionTable.toList = tableOf (am_H mi)) ∧ l.stackTraces = false ∧ am_K mi ≤ R.frames ∧ am_Q mi ≤ R.locals ∧ mi < 365
/-- the memory stands in the heap -/
def ak_mi (D : va_G) (dA : Nat → ClassId) (ac : Nat → Nat) (base : Nat) (s : State) (H : Heap) (locs : List Loc) (ad : Nat → Nat) (M : ak_M) : Prop :=
  base ≤ s.heap.size ∧ va_S (ak_A base) s.heap H locs ∧ va_P D vwCl (ak_w ad dA M) H ∧ va_D (ak_A base) (ak_w ad dA M) ∧ ak_okM M ∧ ∀ p, 1000000 ≤ p → p < 3000000 → ad p = ac p
/-- the frame stands in the locals -/
def ak_fi (ad : Nat → Nat) (M : ak_M) (ls : Array Slot) (nL : Nat) (l1 : List (Option Value)) (l2 : List (Nat × Value)) (st : List Value) : Prop :=
  (∀ v ∈ st, ak_okV M v) ∧ (∀ (i : Nat) (v : Value), l1[i]? = some (some v) → ak_okV M v) ∧ ak_l ad ls nL l1 l2
theorem ak_inj {pc : Nat} {l1 : List (Option Value)} {l2 : List (Nat × Value)} {st : List Value} {M M' : ak_M} {f' : ak_F} (h : ak_n pc l1 l2 st M = some (.inl (f', M'))) : f' = (pc, l1, l2, st) ∧ M' = M := by
  unfold ak_n at h
  have := Sum.inl.inj (Option.some.inj h)
  exact ⟨(congrArg Prod.fst this).symm, (congrArg Prod.snd this).symm⟩
theorem ak_code {mi pc : Nat} {ins : Instr} (hm : mi < 365) (h : am_A mi pc = some ins) : ∃ n, decode (am_B mi) pc = .ok (ins, n) ∧ (am_len ins = 0 ∨ n = am_len ins) := by
  have hc := am_CallX mi hm
  unfold am_A at h
  unfold am_kL at hc
  cases hf : (am_cs mi).find? (fun q => q.1 == pc) with
  | none => rw [hf] at h; cases h
  | some q =>
    rw [hf] at h
    cases h
    have h1 := List.all_eq_true.mp hc q (List.mem_of_find?_eq_some hf)
    have h2 := List.find?_some hf
    have h3 : q.1 = pc := by simpa using h2
    subst h3
    unfold am_k1 at h1
    split at h1
    · rename_i i n hd
      simp only [Bool.and_eq_true, decide_eq_true_eq, Bool.or_eq_true, beq_iff_eq] at h1
      obtain ⟨rfl, h1⟩ := h1
      exact ⟨n, hd, h1⟩
    · cases h1
end
section
/-! one step of the small machine is a step of the machine -/
theorem ak_d1 {cc : ByteArray} {pc n k : Nat} {ins : Instr} (hd : decode cc pc = .ok (ins, n)) (hn : am_len ins = 0 ∨ n = am_len ins) (h : am_len ins = k + 1) : decode cc pc = .ok (ins, k + 1) := by
  rcases hn with hn | hn
  · omega
  · rw [hd, hn, h]
theorem ak_jn {pc : Nat} {off : Int} {l1 : List (Option Value)} {l2 : List (Nat × Value)} {st : List Value} {M M' : ak_M} {f' : ak_F} (h : ak_j pc off l1 l2 st M = some (.inl (f', M'))) : ∃ t : Nat, (pc : Int) + off = (t : Int) ∧ ak_n t l1 l2 st M = some (.inl (f', M')) := by
  unfold ak_j at h
  split at h
  · rename_i h0
    exact ⟨_, (Int.toNat_of_nonneg h0).symm, h⟩
  · cases h
theorem ak_oc {M : ak_M} {v : Value} {st : List Value} (h : ak_okV M v) (h2 : ∀ w ∈ st, ak_okV M w) : ∀ w ∈ v :: st, ak_okV M w := List.forall_mem_cons.mpr ⟨h, h2⟩
theorem ak_o1 {M : ak_M} {a : Value} {st : List Value} (h : ∀ w ∈ a :: st, ak_okV M w) : ∀ w ∈ st, ak_okV M w := (List.forall_mem_cons.mp h).2
theorem ak_o2 {M : ak_M} {a b : Value} {st : List Value} (h : ∀ w ∈ a :: b :: st, ak_okV M w) : ∀ w ∈ st, ak_okV M w := ak_o1 (ak_o1 h)
theorem ak_o3 {M : ak_M} {a b c : Value} {st : List Value} (h : ∀ w ∈ a :: b :: c :: st, ak_okV M w) : ∀ w ∈ st, ak_okV M w := ak_o1 (ak_o2 h)
theorem ak_oh {M : ak_M} {a : Value} {st : List Value} (h : ∀ w ∈ a :: st, ak_okV M w) : ak_okV M a := (List.forall_mem_cons.mp h).1
theorem ak_ldn {i n pc : Nat} {ok : Value → Bool} {l1 : List (Option Value)} {l2 : List (Nat × Value)} {st : List Value} {M : ak_M} {a : ak_Act} (h : ak_ld i n pc ok l1 l2 st M = some a) : ∃ v, l1[i]? = some (some v) ∧ ok v = true ∧ ak_n (pc + n) l1 l2 (v :: st) M = some a := by
  unfold ak_ld at h
  split at h
  · rename_i v hv
    split at h
    · rename_i ho
      exact ⟨v, hv, ho, h⟩
    · cases h
  · cases h
theorem ak_ldn2 {i n pc : Nat} {ok : Value → Bool} {l1 : List (Option Value)} {l2 : List (Nat × Value)} {st : List Value} {M : ak_M} {a : ak_Act} (h : ak_ld2 i n pc ok l1 l2 st M = some a) : ∃ v, (i, v) ∈ l2 ∧ ok v = true ∧ ak_n (pc + n) l1 l2 (v :: st) M = some a := by
  unfold ak_ld2 ak_g2 at h
  split at h
  · rename_i v hv
    split at h
    · rename_i ho
      cases hf : l2.find? (fun q => q.1 == i) with
      | none => rw [hf] at hv; cases hv
      | some q =>
        rw [hf] at hv
        cases hv
        have h2 := List.find?_some hf
        have h3 : q.1 = i := by simpa using h2
        subst h3
        exact ⟨q.2, List.mem_of_find?_eq_some hf, ho, h⟩
    · cases h
  · cases h
theorem ak_sn1 {i pc : Nat} {v : Value} {l1 : List (Option Value)} {l2 : List (Nat × Value)} {st : List Value} {M : ak_M} {a : ak_Act} (h : ak_s1 i v pc l1 l2 st M = some a) : i < l1.length ∧ ak_n pc (l1.set i (some v)) (l2.filter (fun q => !(q.1 == i) && !(q.1 + 1 == i))) st M = some a := by
  unfold ak_s1 at h
  split at h
  · rename_i h0; exact ⟨h0, h⟩
  · cases h
theorem ak_sn2 {i pc : Nat} {v : Value} {l1 : List (Option Value)} {l2 : List (Nat × Value)} {st : List Value} {M : ak_M} {a : ak_Act} (h : ak_s2 i v pc l1 l2 st M = some a) : i + 1 < l1.length ∧ ak_n pc ((l1.set i none).set (i + 1) none) ((i, v) :: l2.filter (fun q => !(q.1 == i) && (!(q.1 == i + 1) && !(q.1 + 1 == i)))) st M = some a := by
  unfold ak_s2 at h
  split at h
  · rename_i h0; exact ⟨h0, h⟩
  · cases h
theorem ak_okset {M : ak_M} {l1 : List (Option Value)} {i : Nat} {v : Value} (h : ∀ (i : Nat) (v : Value), l1[i]? = some (some v) → ak_okV M v) (hv : ak_okV M v) : ∀ (j : Nat) (w : Value), (l1.set i (some v))[j]? = some (some w) → ak_okV M w := by
  intro j w hj
  rw [List.getElem?_set] at hj
  split at hj
  · split at hj
    · cases hj; exact hv
    · cases hj
  · exact h j w hj
theorem ak_oknone {M : ak_M} {l1 : List (Option Value)} {i : Nat} (h : ∀ (i : Nat) (v : Value), l1[i]? = some (some v) → ak_okV M v) : ∀ (j : Nat) (w : Value), (l1.set i none)[j]? = some (some w) → ak_okV M w := by
  intro j w hj
  rw [List.getElem?_set] at hj
  split at hj
  · split at hj <;> cases hj
  · exact h j w hj
theorem ak_ixv {i : Int32} {n : Nat} (h : ak_ix i n = true) : vp_in i n := by
  have h1 : ¬ (i < 0 ∨ n ≤ i.toNatClampNeg) := of_decide_eq_true h
  exact h1
section AKS
variable {p : Program} {l : Launch} {e : Env} {R : Room} {s : State} {m : MethodId} {args : Array Value} {below : List Frame} {meth : Method} {c : Code} {Q : State → Prop}
variable {X : ak_X} {D : va_G} {dA : Nat → ClassId} {ac : Nat → Nat} {base : Nat}

/-- a branch not taken: the row asks for the target, whatever it is -/
theorem ak_nt_if_eq {H : Heap} {locs : List Loc} {cells slots : Nat} {cc : ByteArray} {pc : Nat} {ls : Array Slot} {rest : List Value} {x : Int32} {off : Int} (hexec : p.tables.exec = Jvm.exec) (hb : c.code = cc) (hdg : decode cc pc = .ok (.ifCond .eq off, 3)) (hP : ¬ (x = 0))
    (k : W p l e R s m args below meth c H locs cells slots Q (F0 m (pc + 3) ls rest)) : W p l e R s m args below meth c H locs cells slots Q (F0 m pc ls (.int x :: rest)) := by
  intro T hT X
  obtain ⟨t, a, b⟩ := k T hT X
  refine ⟨t, ?_, b⟩
  jvm_step X.here [X.here.top, hexec, hb, hdg, Op.ifCond.holds, hP]
  exact a
theorem ak_nt_if_ne {H : Heap} {locs : List Loc} {cells slots : Nat} {cc : ByteArray} {pc : Nat} {ls : Array Slot} {rest : List Value} {x : Int32} {off : Int} (hexec : p.tables.exec = Jvm.exec) (hb : c.code = cc) (hdg : decode cc pc = .ok (.ifCond .ne off, 3)) (hP : x = 0)
    (k : W p l e R s m args below meth c H locs cells slots Q (F0 m (pc + 3) ls rest)) : W p l e R s m args below meth c H locs cells slots Q (F0 m pc ls (.int x :: rest)) := by
  intro T hT X
  obtain ⟨t, a, b⟩ := k T hT X
  refine ⟨t, ?_, b⟩
  jvm_step X.here [X.here.top, hexec, hb, hdg, Op.ifCond.holds, hP]
  exact a
theorem ak_nt_if_lt {H : Heap} {locs : List Loc} {cells slots : Nat} {cc : ByteArray} {pc : Nat} {ls : Array Slot} {rest : List Value} {x : Int32} {off : Int} (hexec : p.tables.exec = Jvm.exec) (hb : c.code = cc) (hdg : decode cc pc = .ok (.ifCond .lt off, 3)) (hP : ¬ (x < 0))
    (k : W p l e R s m args below meth c H locs cells slots Q (F0 m (pc + 3) ls rest)) : W p l e R s m args below meth c H locs cells slots Q (F0 m pc ls (.int x :: rest)) := by
  intro T hT X
  obtain ⟨t, a, b⟩ := k T hT X
  refine ⟨t, ?_, b⟩
  jvm_step X.here [X.here.top, hexec, hb, hdg, Op.ifCond.holds, hP]
  exact a
theorem ak_nt_if_ge {H : Heap} {locs : List Loc} {cells slots : Nat} {cc : ByteArray} {pc : Nat} {ls : Array Slot} {rest : List Value} {x : Int32} {off : Int} (hexec : p.tables.exec = Jvm.exec) (hb : c.code = cc) (hdg : decode cc pc = .ok (.ifCond .ge off, 3)) (hP : ¬ (0 ≤ x))
    (k : W p l e R s m args below meth c H locs cells slots Q (F0 m (pc + 3) ls rest)) : W p l e R s m args below meth c H locs cells slots Q (F0 m pc ls (.int x :: rest)) := by
  intro T hT X
  obtain ⟨t, a, b⟩ := k T hT X
  refine ⟨t, ?_, b⟩
  jvm_step X.here [X.here.top, hexec, hb, hdg, Op.ifCond.holds, hP]
  exact a
theorem ak_nt_if_gt {H : Heap} {locs : List Loc} {cells slots : Nat} {cc : ByteArray} {pc : Nat} {ls : Array Slot} {rest : List Value} {x : Int32} {off : Int} (hexec : p.tables.exec = Jvm.exec) (hb : c.code = cc) (hdg : decode cc pc = .ok (.ifCond .gt off, 3)) (hP : ¬ (0 < x))
    (k : W p l e R s m args below meth c H locs cells slots Q (F0 m (pc + 3) ls rest)) : W p l e R s m args below meth c H locs cells slots Q (F0 m pc ls (.int x :: rest)) := by
  intro T hT X
  obtain ⟨t, a, b⟩ := k T hT X
  refine ⟨t, ?_, b⟩
  jvm_step X.here [X.here.top, hexec, hb, hdg, Op.ifCond.holds, hP]
  exact a
theorem ak_nt_if_le {H : Heap} {locs : List Loc} {cells slots : Nat} {cc : ByteArray} {pc : Nat} {ls : Array Slot} {rest : List Value} {x : Int32} {off : Int} (hexec : p.tables.exec = Jvm.exec) (hb : c.code = cc) (hdg : decode cc pc = .ok (.ifCond .le off, 3)) (hP : ¬ (x ≤ 0))
    (k : W p l e R s m args below meth c H locs cells slots Q (F0 m (pc + 3) ls rest)) : W p l e R s m args below meth c H locs cells slots Q (F0 m pc ls (.int x :: rest)) := by
  intro T hT X
  obtain ⟨t, a, b⟩ := k T hT X
  refine ⟨t, ?_, b⟩
  jvm_step X.here [X.here.top, hexec, hb, hdg, Op.ifCond.holds, hP]
  exact a
theorem ak_nt_icmp_eq {H : Heap} {locs : List Loc} {cells slots : Nat} {cc : ByteArray} {pc : Nat} {ls : Array Slot} {rest : List Value} {x y : Int32} {off : Int} (hexec : p.tables.exec = Jvm.exec) (hb : c.code = cc) (hdg : decode cc pc = .ok (.if_icmp .eq off, 3)) (hP : ¬ (x = y))
    (k : W p l e R s m args below meth c H locs cells slots Q (F0 m (pc + 3) ls rest)) : W p l e R s m args below meth c H locs cells slots Q (F0 m pc ls (.int y :: .int x :: rest)) := by
  intro T hT X
  obtain ⟨t, a, b⟩ := k T hT X
  refine ⟨t, ?_, b⟩
  jvm_step X.here [X.here.top, hexec, hb, hdg, Op.if_icmp.holds, hP]
  exact a
theorem ak_nt_icmp_ne {H : Heap} {locs : List Loc} {cells slots : Nat} {cc : ByteArray} {pc : Nat} {ls : Array Slot} {rest : List Value} {x y : Int32} {off : Int} (hexec : p.tables.exec = Jvm.exec) (hb : c.code = cc) (hdg : decode cc pc = .ok (.if_icmp .ne off, 3)) (hP : x = y)
    (k : W p l e R s m args below meth c H locs cells slots Q (F0 m (pc + 3) ls rest)) : W p l e R s m args below meth c H locs cells slots Q (F0 m pc ls (.int y :: .int x :: rest)) := by
  intro T hT X
  obtain ⟨t, a, b⟩ := k T hT X
  refine ⟨t, ?_, b⟩
  jvm_step X.here [X.here.top, hexec, hb, hdg, Op.if_icmp.holds, hP]
  exact a
theorem ak_nt_icmp_lt {H : Heap} {locs : List Loc} {cells slots : Nat} {cc : ByteArray} {pc : Nat} {ls : Array Slot} {rest : List Value} {x y : Int32} {off : Int} (hexec : p.tables.exec = Jvm.exec) (hb : c.code = cc) (hdg : decode cc pc = .ok (.if_icmp .lt off, 3)) (hP : ¬ (x < y))
    (k : W p l e R s m args below meth c H locs cells slots Q (F0 m (pc + 3) ls rest)) : W p l e R s m args below meth c H locs cells slots Q (F0 m pc ls (.int y :: .int x :: rest)) := by
  intro T hT X
  obtain ⟨t, a, b⟩ := k T hT X
  refine ⟨t, ?_, b⟩
  jvm_step X.here [X.here.top, hexec, hb, hdg, Op.if_icmp.holds, hP]
  exact a
theorem ak_nt_icmp_ge {H : Heap} {locs : List Loc} {cells slots : Nat} {cc : ByteArray} {pc : Nat} {ls : Array Slot} {rest : List Value} {x y : Int32} {off : Int} (hexec : p.tables.exec = Jvm.exec) (hb : c.code = cc) (hdg : decode cc pc = .ok (.if_icmp .ge off, 3)) (hP : ¬ (y ≤ x))
    (k : W p l e R s m args below meth c H locs cells slots Q (F0 m (pc + 3) ls rest)) : W p l e R s m args below meth c H locs cells slots Q (F0 m pc ls (.int y :: .int x :: rest)) := by
  intro T hT X
  obtain ⟨t, a, b⟩ := k T hT X
  refine ⟨t, ?_, b⟩
  jvm_step X.here [X.here.top, hexec, hb, hdg, Op.if_icmp.holds, hP]
  exact a
theorem ak_nt_icmp_gt {H : Heap} {locs : List Loc} {cells slots : Nat} {cc : ByteArray} {pc : Nat} {ls : Array Slot} {rest : List Value} {x y : Int32} {off : Int} (hexec : p.tables.exec = Jvm.exec) (hb : c.code = cc) (hdg : decode cc pc = .ok (.if_icmp .gt off, 3)) (hP : ¬ (y < x))
    (k : W p l e R s m args below meth c H locs cells slots Q (F0 m (pc + 3) ls rest)) : W p l e R s m args below meth c H locs cells slots Q (F0 m pc ls (.int y :: .int x :: rest)) := by
  intro T hT X
  obtain ⟨t, a, b⟩ := k T hT X
  refine ⟨t, ?_, b⟩
  jvm_step X.here [X.here.top, hexec, hb, hdg, Op.if_icmp.holds, hP]
  exact a
theorem ak_nt_icmp_le {H : Heap} {locs : List Loc} {cells slots : Nat} {cc : ByteArray} {pc : Nat} {ls : Array Slot} {rest : List Value} {x y : Int32} {off : Int} (hexec : p.tables.exec = Jvm.exec) (hb : c.code = cc) (hdg : decode cc pc = .ok (.if_icmp .le off, 3)) (hP : ¬ (x ≤ y))
    (k : W p l e R s m args below meth c H locs cells slots Q (F0 m (pc + 3) ls rest)) : W p l e R s m args below meth c H locs cells slots Q (F0 m pc ls (.int y :: .int x :: rest)) := by
  intro T hT X
  obtain ⟨t, a, b⟩ := k T hT X
  refine ⟨t, ?_, b⟩
  jvm_step X.here [X.here.top, hexec, hb, hdg, Op.if_icmp.holds, hP]
  exact a
def ak_isP : Instr → Bool
  | .getfield _ => false | .putfield _ => false | .getstatic _ => false | .new _ => false | .newarray _ => false | .anewarray _ => false | .multianewarray _ _ => false
  | .arraylength => false | .iaload => false | .baload => false | .aaload => false | .iastore => false | .bastore => false | .aastore => false
  | .ldc _ => false | .ldc_w _ => false | .ldc2_w _ => false | .invokevirtual _ => false | .invokestatic _ => false | .invokespecial _ => false | .checkcast _ => false
  | _ => true
set_option maxHeartbeats 4000000 in
theorem ak_pure {mi pc : Nat} {ins : Instr} {f' : ak_F} {M : ak_M} {l1 : List (Option Value)} {l2 : List (Nat × Value)} {st : List Value} {H : Heap} {locs : List Loc} {cells slots : Nat} {ls : Array Slot} {ad : Nat → Nat}
    (C : ak_cx p l R s m args meth c mi) (hi : ak_isP ins = true) (hA : am_A mi pc = some ins) (hS : ak_x X mi ins pc l1 l2 st M = some (.inl (f', M))) (hF : ak_fi ad M ls (am_X mi) l1 l2 st)
    (kk : ∀ ls', ak_fi ad M ls' (am_X mi) f'.2.1 f'.2.2.1 f'.2.2.2 → W p l e R s m args below meth c H locs cells slots Q (F0 m f'.1 ls' (f'.2.2.2.map (ak_v ad)))) :
    W p l e R s m args below meth c H locs cells slots Q (F0 m pc ls (st.map (ak_v ad))) := by
  obtain ⟨hx, hb, hown, hts, hml, -, -, -, -, -, -, -, hmi⟩ := C
  obtain ⟨n, hd, hn⟩ := ak_code hmi hA
  obtain ⟨hF1, hF2, hF3⟩ := hF
  have k1 : ∀ {pc' : Nat} {l1' : List (Option Value)} {l2' : List (Nat × Value)} {st' : List Value} {M' : ak_M}, ak_n pc' l1' l2' st' M' = some (.inl (f', M)) → ∀ ls', (∀ v ∈ st', ak_okV M v) → (∀ (i : Nat) (v : Value), l1'[i]? = some (some v) → ak_okV M v) → ak_l ad ls' (am_X mi) l1' l2' →
      W p l e R s m args below meth c H locs cells slots Q (F0 m pc' ls' (st'.map (ak_v ad))) := by
    intro pc' l1' l2' st' M' h ls' a1 a2 a3
    obtain ⟨rfl, -⟩ := ak_inj h
    exact kk ls' ⟨a1, a2, a3⟩
  have k0 : ∀ {pc' : Nat} {st' : List Value} {M' : ak_M}, ak_n pc' l1 l2 st' M' = some (.inl (f', M)) → (∀ v ∈ st', ak_okV M v) → W p l e R s m args below meth c H locs cells slots Q (F0 m pc' ls (st'.map (ak_v ad))) :=
    fun h a1 => k1 h ls a1 hF2 hF3
  have hlen : l1.length = am_X mi := hF3.2.2.1
  have hz : ls.size = c.maxLocals := by rw [hml]; exact hF3.1
  cases ins with
  | iconst n =>
    simp only [ak_x] at hS
    exact lv_iconst hx hb (ak_d1 hd hn (k := 0) rfl) rfl (k0 hS (ak_oc trivial hF1))
  | bipush n =>
    simp only [ak_x] at hS
    exact lv_bipush hx hb (ak_d1 hd hn (k := 1) rfl) rfl (k0 hS (ak_oc trivial hF1))
  | sipush n =>
    simp only [ak_x] at hS
    exact lv_sipush hx hb (ak_d1 hd hn (k := 2) rfl) rfl (k0 hS (ak_oc trivial hF1))
  | lconst n =>
    simp only [ak_x] at hS
    exact lv_lconst hx hb (ak_d1 hd hn (k := 0) rfl) rfl (k0 hS (ak_oc trivial hF1))
  | fconst n =>
    simp only [ak_x] at hS
    split at hS
    · rename_i h0
      subst h0
      exact lv_fconst0 hx hb (ak_d1 hd hn (k := 0) rfl) (k0 hS (ak_oc trivial hF1))
    · cases hS
  | dconst n =>
    simp only [ak_x] at hS
    split at hS
    · rename_i h0
      subst h0
      exact lv_dconst0 hx hb (ak_d1 hd hn (k := 0) rfl) (k0 hS (ak_oc trivial hF1))
    · cases hS
  | iload_n k =>
    simp only [ak_x] at hS
    obtain ⟨v, h1, h2, h3⟩ := ak_ldn hS
    cases v with
    | int z => exact lv_iload_n hx hb (ak_d1 hd hn (k := 0) rfl) rfl (hF3.2.2.2.1 _ _ h1).2 (k0 h3 (ak_oc (hF2 _ _ h1) hF1))
    | _ => cases h2
  | iload i =>
    simp only [ak_x] at hS
    obtain ⟨v, h1, h2, h3⟩ := ak_ldn hS
    cases v with
    | int z => exact lv_iload hx hb (ak_d1 hd hn (k := 1) rfl) (hF3.2.2.2.1 _ _ h1).2 (k0 h3 (ak_oc (hF2 _ _ h1) hF1))
    | _ => cases h2
  | fload i =>
    simp only [ak_x] at hS
    obtain ⟨v, h1, h2, h3⟩ := ak_ldn hS
    cases v with
    | float z => exact lv_fload hx hb (ak_d1 hd hn (k := 1) rfl) (hF3.2.2.2.1 _ _ h1).2 (k0 h3 (ak_oc (hF2 _ _ h1) hF1))
    | _ => cases h2
  | aload_n k =>
    simp only [ak_x] at hS
    obtain ⟨v, h1, h2, h3⟩ := ak_ldn hS
    cases v with
    | ref z => exact lv_aload_n hx hb (ak_d1 hd hn (k := 0) rfl) rfl (hF3.2.2.2.1 _ _ h1).2 (k0 h3 (ak_oc (hF2 _ _ h1) hF1))
    | _ => cases h2
  | aload i =>
    simp only [ak_x] at hS
    obtain ⟨v, h1, h2, h3⟩ := ak_ldn hS
    cases v with
    | ref z => exact lv_aload hx hb (ak_d1 hd hn (k := 1) rfl) (hF3.2.2.2.1 _ _ h1).2 (k0 h3 (ak_oc (hF2 _ _ h1) hF1))
    | _ => cases h2
  | lload_n k =>
    simp only [ak_x] at hS
    obtain ⟨v, h1, h2, h3⟩ := ak_ldn2 hS
    cases v with
    | long z => exact lv_lload_n hx hb (ak_d1 hd hn (k := 0) rfl) rfl (hF3.2.2.2.2 _ h1).2 (k0 h3 (ak_oc trivial hF1))
    | _ => cases h2
  | lload i =>
    simp only [ak_x] at hS
    obtain ⟨v, h1, h2, h3⟩ := ak_ldn2 hS
    cases v with
    | long z => exact lv_lload hx hb (ak_d1 hd hn (k := 1) rfl) (hF3.2.2.2.2 _ h1).2 (k0 h3 (ak_oc trivial hF1))
    | _ => cases h2
  | dload_n k =>
    simp only [ak_x] at hS
    obtain ⟨v, h1, h2, h3⟩ := ak_ldn2 hS
    cases v with
    | double z => exact lv_dload_n hx hb (ak_d1 hd hn (k := 0) rfl) rfl (hF3.2.2.2.2 _ h1).2 (k0 h3 (ak_oc trivial hF1))
    | _ => cases h2
  | dload i =>
    simp only [ak_x] at hS
    obtain ⟨v, h1, h2, h3⟩ := ak_ldn2 hS
    cases v with
    | double z => exact lv_dload hx hb (ak_d1 hd hn (k := 1) rfl) (hF3.2.2.2.2 _ h1).2 (k0 h3 (ak_oc trivial hF1))
    | _ => cases h2
  | istore_n k =>
    simp only [ak_x] at hS
    split at hS
    · rename_i z r
      obtain ⟨h1, h2⟩ := ak_sn1 hS
      exact lv_istore_n (lv := ak_ll ad l1 l2) hx hb (ak_d1 hd hn (k := 0) rfl) rfl (ak_lh hF3) (by rw [← hlen]; exact h1) rfl (fun ls' hl => k1 h2 ls' (ak_o1 hF1) (ak_okset hF2 (ak_oh hF1)) (ak_ls1 (v := .int z) hF3 rfl hl))
    · cases hS
  | istore i =>
    simp only [ak_x] at hS
    split at hS
    · rename_i z r
      obtain ⟨h1, h2⟩ := ak_sn1 hS
      exact lv_istore (lv := ak_ll ad l1 l2) hx hb (ak_d1 hd hn (k := 1) rfl) (ak_lh hF3) (by rw [← hlen]; exact h1) rfl (fun ls' hl => k1 h2 ls' (ak_o1 hF1) (ak_okset hF2 (ak_oh hF1)) (ak_ls1 (v := .int z) hF3 rfl hl))
    · cases hS
  | fstore i =>
    simp only [ak_x] at hS
    split at hS
    · rename_i z r
      obtain ⟨h1, h2⟩ := ak_sn1 hS
      exact lv_fstore (lv := ak_ll ad l1 l2) hx hb (ak_d1 hd hn (k := 1) rfl) (ak_lh hF3) (by rw [← hlen]; exact h1) rfl (fun ls' hl => k1 h2 ls' (ak_o1 hF1) (ak_okset hF2 (ak_oh hF1)) (ak_ls1 (v := .float z) hF3 rfl hl))
    · cases hS
  | astore_n k =>
    simp only [ak_x] at hS
    split at hS
    · rename_i z r
      obtain ⟨h1, h2⟩ := ak_sn1 hS
      exact lv_astore_n (lv := ak_ll ad l1 l2) hx hb (ak_d1 hd hn (k := 0) rfl) rfl (ak_lh hF3) (by rw [← hlen]; exact h1) rfl (fun ls' hl => k1 h2 ls' (ak_o1 hF1) (ak_okset hF2 (ak_oh hF1)) (ak_ls1 (v := .ref z) hF3 rfl hl))
    · cases hS
  | astore i =>
    simp only [ak_x] at hS
    split at hS
    · rename_i z r
      obtain ⟨h1, h2⟩ := ak_sn1 hS
      exact lv_astore (lv := ak_ll ad l1 l2) hx hb (ak_d1 hd hn (k := 1) rfl) (ak_lh hF3) (by rw [← hlen]; exact h1) rfl (fun ls' hl => k1 h2 ls' (ak_o1 hF1) (ak_okset hF2 (ak_oh hF1)) (ak_ls1 (v := .ref z) hF3 rfl hl))
    · cases hS
  | dstore i =>
    simp only [ak_x] at hS
    split at hS
    · rename_i z r
      obtain ⟨h1, h2⟩ := ak_sn2 hS
      exact lv_dstore (lv := ak_ll ad l1 l2) hx hb (ak_d1 hd hn (k := 1) rfl) (ak_lh hF3) (by rw [← hlen]; exact h1) rfl (fun ls' hl => k1 h2 ls' (ak_o1 hF1) (ak_oknone (ak_oknone hF2)) (ak_ls2 (v := .double z) hF3 rfl hl))
    · cases hS
  | iinc i n =>
    simp only [ak_x] at hS
    split at hS
    · rename_i z hz1
      obtain ⟨h1, h2⟩ := ak_sn1 hS
      obtain ⟨k9, hk9⟩ := ak_lp (ad := ad) (l2 := l2) hz1
      exact lv_iinc (lv := ak_ll ad l1 l2) hx hb (ak_d1 hd hn (k := 2) rfl) (ak_lh hF3) hk9 rfl (by rw [← hlen]; exact h1) rfl (fun ls' hl => k1 h2 ls' hF1 (ak_okset hF2 trivial) (ak_ls1 (v := .int _) hF3 rfl hl))
    · cases hS
  | iadd =>
    simp only [ak_x] at hS
    split at hS
    · exact lv_iadd hx hb (ak_d1 hd hn (k := 0) rfl) (k0 hS (ak_oc trivial (ak_o2 hF1)))
    · cases hS
  | isub =>
    simp only [ak_x] at hS
    split at hS
    · exact lv_isub hx hb (ak_d1 hd hn (k := 0) rfl) (k0 hS (ak_oc trivial (ak_o2 hF1)))
    · cases hS
  | imul =>
    simp only [ak_x] at hS
    split at hS
    · exact lv_imul hx hb (ak_d1 hd hn (k := 0) rfl) (k0 hS (ak_oc trivial (ak_o2 hF1)))
    · cases hS
  | iand =>
    simp only [ak_x] at hS
    split at hS
    · exact lv_iand hx hb (ak_d1 hd hn (k := 0) rfl) (k0 hS (ak_oc trivial (ak_o2 hF1)))
    · cases hS
  | ior =>
    simp only [ak_x] at hS
    split at hS
    · exact lv_ior hx hb (ak_d1 hd hn (k := 0) rfl) (k0 hS (ak_oc trivial (ak_o2 hF1)))
    · cases hS
  | ixor =>
    simp only [ak_x] at hS
    split at hS
    · exact lv_ixor hx hb (ak_d1 hd hn (k := 0) rfl) (k0 hS (ak_oc trivial (ak_o2 hF1)))
    · cases hS
  | ishl =>
    simp only [ak_x] at hS
    split at hS
    · exact lv_ishl hx hb (ak_d1 hd hn (k := 0) rfl) (k0 hS (ak_oc trivial (ak_o2 hF1)))
    · cases hS
  | ishr =>
    simp only [ak_x] at hS
    split at hS
    · exact lv_ishr hx hb (ak_d1 hd hn (k := 0) rfl) (k0 hS (ak_oc trivial (ak_o2 hF1)))
    · cases hS
  | idiv =>
    simp only [ak_x] at hS
    split at hS
    · split at hS
      · cases hS
      · rename_i h0
        exact lv_idiv hx hb (ak_d1 hd hn (k := 0) rfl) h0 (k0 hS (ak_oc trivial (ak_o2 hF1)))
    · cases hS
  | irem =>
    simp only [ak_x] at hS
    split at hS
    · split at hS
      · cases hS
      · rename_i h0
        exact lv_irem hx hb (ak_d1 hd hn (k := 0) rfl) h0 (k0 hS (ak_oc trivial (ak_o2 hF1)))
    · cases hS
  | ineg =>
    simp only [ak_x] at hS
    split at hS
    · exact lv_ineg hx hb (ak_d1 hd hn (k := 0) rfl) (k0 hS (ak_oc trivial (ak_o1 hF1)))
    · cases hS
  | lsub =>
    simp only [ak_x] at hS
    split at hS
    · exact lv_lsub hx hb (ak_d1 hd hn (k := 0) rfl) (k0 hS (ak_oc trivial (ak_o2 hF1)))
    · cases hS
  | lcmp =>
    simp only [ak_x] at hS
    split at hS
    · exact W.lcmp hx hb (ak_d1 hd hn (k := 0) rfl) (k0 hS (ak_oc trivial (ak_o2 hF1)))
    · cases hS
  | i2l =>
    simp only [ak_x] at hS
    split at hS
    · exact lv_i2l hx hb (ak_d1 hd hn (k := 0) rfl) rfl (k0 hS (ak_oc trivial (ak_o1 hF1)))
    · cases hS
  | i2b =>
    simp only [ak_x] at hS
    split at hS
    · exact lv_i2b hx hb (ak_d1 hd hn (k := 0) rfl) rfl (k0 hS (ak_oc trivial (ak_o1 hF1)))
    · cases hS
  | i2c =>
    simp only [ak_x] at hS
    split at hS
    · exact lv_i2c hx hb (ak_d1 hd hn (k := 0) rfl) rfl (k0 hS (ak_oc trivial (ak_o1 hF1)))
    · cases hS
  | i2f =>
    simp only [ak_x] at hS
    split at hS
    · exact lv_i2f hx hb (ak_d1 hd hn (k := 0) rfl) (k0 hS (ak_oc trivial (ak_o1 hF1)))
    · cases hS
  | i2d =>
    simp only [ak_x] at hS
    split at hS
    · exact lv_i2d hx hb (ak_d1 hd hn (k := 0) rfl) (k0 hS (ak_oc trivial (ak_o1 hF1)))
    · cases hS
  | f2d =>
    simp only [ak_x] at hS
    split at hS
    · split at hS
      · rename_i h0
        exact lv_f2d hx hb (ak_d1 hd hn (k := 0) rfl) h0 (k0 hS (ak_oc trivial (ak_o1 hF1)))
      · cases hS
    · cases hS
  | fdiv =>
    simp only [ak_x] at hS
    split at hS
    · split at hS
      · rename_i h0
        exact lv_fdiv hx hb (ak_d1 hd hn (k := 0) rfl) h0 (k0 hS (ak_oc trivial (ak_o2 hF1)))
      · cases hS
    · cases hS
  | ddiv =>
    simp only [ak_x] at hS
    split at hS
    · split at hS
      · rename_i h0
        exact lv_ddiv hx hb (ak_d1 hd hn (k := 0) rfl) h0 (k0 hS (ak_oc trivial (ak_o2 hF1)))
      · cases hS
    · cases hS
  | fcmp op =>
    simp only [ak_x] at hS
    split at hS
    · exact lv_fcmp hx hb (ak_d1 hd hn (k := 0) rfl) (k0 hS (ak_oc trivial (ak_o2 hF1)))
    · cases hS
  | dcmp op =>
    simp only [ak_x] at hS
    split at hS
    · exact lv_dcmp hx hb (ak_d1 hd hn (k := 0) rfl) (k0 hS (ak_oc trivial (ak_o2 hF1)))
    · cases hS
  | dup =>
    simp only [ak_x] at hS
    split at hS
    · split at hS
      · rename_i h0
        exact lv_dup hx hb (ak_d1 hd hn (k := 0) rfl) (by rw [ak_v_cat]; exact h0) (k0 hS (ak_oc (ak_oh hF1) hF1))
      · cases hS
    · cases hS
  | dup_x1 =>
    simp only [ak_x] at hS
    split at hS
    · split at hS
      · rename_i h0
        exact lv_dup_x1 hx hb (ak_d1 hd hn (k := 0) rfl) (by rw [ak_v_cat]; exact h0.1) (by rw [ak_v_cat]; exact h0.2) (k0 hS (ak_oc (ak_oh hF1) (ak_oc (ak_oh (ak_o1 hF1)) (ak_oc (ak_oh hF1) (ak_o2 hF1)))))
      · cases hS
    · cases hS
  | dup2 =>
    simp only [ak_x] at hS
    split at hS
    · split at hS
      · rename_i h0
        exact lv_dup2_11 hx hb (ak_d1 hd hn (k := 0) rfl) (by rw [ak_v_cat]; exact h0.1) (by rw [ak_v_cat]; exact h0.2) (k0 hS (ak_oc (ak_oh hF1) (ak_oc (ak_oh (ak_o1 hF1)) hF1)))
      · cases hS
    · cases hS
  | aconst_null =>
    simp only [ak_x] at hS
    exact lv_null hx hb (ak_d1 hd hn (k := 0) rfl) (k0 hS (ak_oc trivial hF1))
  | ifnonnull off =>
    simp only [ak_x] at hS
    split at hS
    · obtain ⟨t, ht, h2⟩ := ak_jn hS
      exact lv_ifnonnull hx hb (ak_d1 hd hn (k := 2) rfl) ht (k0 h2 (ak_o1 hF1))
    · cases hS
  | pop =>
    simp only [ak_x] at hS
    split at hS
    · split at hS
      · rename_i h0
        exact lv_pop hx hb (ak_d1 hd hn (k := 0) rfl) (by rw [ak_v_cat]; exact h0) (k0 hS (ak_o1 hF1))
      · cases hS
    · cases hS
  | goto off =>
    simp only [ak_x] at hS
    obtain ⟨t, ht, h2⟩ := ak_jn hS
    exact lv_goto hx hb (ak_d1 hd hn (k := 2) rfl) ht (k0 h2 hF1)
  | ifCond cd off =>
    cases cd with
    | eq =>
      simp only [ak_x] at hS
      split at hS
      · split at hS
        · rename_i h0
          obtain ⟨t, ht, h2⟩ := ak_jn hS
          exact lv_if_eq hx hb (ak_d1 hd hn (k := 2) rfl) ht (fun _ => k0 h2 (ak_o1 hF1)) (fun h1 => absurd h0 h1)
        · rename_i h0
          exact ak_nt_if_eq hx hb (ak_d1 hd hn (k := 2) rfl) h0 (k0 hS (ak_o1 hF1))
      · cases hS
    | ne =>
      simp only [ak_x] at hS
      split at hS
      · split at hS
        · rename_i h0
          exact ak_nt_if_ne hx hb (ak_d1 hd hn (k := 2) rfl) h0 (k0 hS (ak_o1 hF1))
        · rename_i h0
          obtain ⟨t, ht, h2⟩ := ak_jn hS
          exact lv_if_ne hx hb (ak_d1 hd hn (k := 2) rfl) ht (fun _ => k0 h2 (ak_o1 hF1)) (fun h1 => absurd h1 h0)
      · cases hS
    | lt =>
      simp only [ak_x] at hS
      split at hS
      · split at hS
        · rename_i h0
          obtain ⟨t, ht, h2⟩ := ak_jn hS
          exact lv_if_lt hx hb (ak_d1 hd hn (k := 2) rfl) ht (fun _ => k0 h2 (ak_o1 hF1)) (fun h1 => absurd h0 h1)
        · rename_i h0
          exact ak_nt_if_lt hx hb (ak_d1 hd hn (k := 2) rfl) h0 (k0 hS (ak_o1 hF1))
      · cases hS
    | ge =>
      simp only [ak_x] at hS
      split at hS
      · split at hS
        · rename_i h0
          obtain ⟨t, ht, h2⟩ := ak_jn hS
          exact lv_if_ge hx hb (ak_d1 hd hn (k := 2) rfl) ht (fun _ => k0 h2 (ak_o1 hF1)) (fun h1 => absurd h0 h1)
        · rename_i h0
          exact ak_nt_if_ge hx hb (ak_d1 hd hn (k := 2) rfl) h0 (k0 hS (ak_o1 hF1))
      · cases hS
    | gt =>
      simp only [ak_x] at hS
      split at hS
      · split at hS
        · rename_i h0
          obtain ⟨t, ht, h2⟩ := ak_jn hS
          exact lv_if_gt hx hb (ak_d1 hd hn (k := 2) rfl) ht (fun _ => k0 h2 (ak_o1 hF1)) (fun h1 => absurd h0 h1)
        · rename_i h0
          exact ak_nt_if_gt hx hb (ak_d1 hd hn (k := 2) rfl) h0 (k0 hS (ak_o1 hF1))
      · cases hS
    | le =>
      simp only [ak_x] at hS
      split at hS
      · split at hS
        · rename_i h0
          obtain ⟨t, ht, h2⟩ := ak_jn hS
          exact lv_if_le hx hb (ak_d1 hd hn (k := 2) rfl) ht (fun _ => k0 h2 (ak_o1 hF1)) (fun h1 => absurd h0 h1)
        · rename_i h0
          exact ak_nt_if_le hx hb (ak_d1 hd hn (k := 2) rfl) h0 (k0 hS (ak_o1 hF1))
      · cases hS
  | if_icmp cd off =>
    cases cd with
    | eq =>
      simp only [ak_x] at hS
      split at hS
      · split at hS
        · rename_i h0
          obtain ⟨t, ht, h2⟩ := ak_jn hS
          exact lv_icmp_eq hx hb (ak_d1 hd hn (k := 2) rfl) ht (fun _ => k0 h2 (ak_o2 hF1)) (fun h1 => absurd h0 h1)
        · rename_i h0
          exact ak_nt_icmp_eq hx hb (ak_d1 hd hn (k := 2) rfl) h0 (k0 hS (ak_o2 hF1))
      · cases hS
    | ne =>
      simp only [ak_x] at hS
      split at hS
      · split at hS
        · rename_i h0
          exact ak_nt_icmp_ne hx hb (ak_d1 hd hn (k := 2) rfl) h0 (k0 hS (ak_o2 hF1))
        · rename_i h0
          obtain ⟨t, ht, h2⟩ := ak_jn hS
          exact lv_icmp_ne hx hb (ak_d1 hd hn (k := 2) rfl) ht (fun _ => k0 h2 (ak_o2 hF1)) (fun h1 => absurd h1 h0)
      · cases hS
    | lt =>
      simp only [ak_x] at hS
      split at hS
      · split at hS
        · rename_i h0
          obtain ⟨t, ht, h2⟩ := ak_jn hS
          exact lv_icmp_lt hx hb (ak_d1 hd hn (k := 2) rfl) ht (fun _ => k0 h2 (ak_o2 hF1)) (fun h1 => absurd h0 h1)
        · rename_i h0
          exact ak_nt_icmp_lt hx hb (ak_d1 hd hn (k := 2) rfl) h0 (k0 hS (ak_o2 hF1))
      · cases hS
    | ge =>
      simp only [ak_x] at hS
      split at hS
      · split at hS
        · rename_i h0
          obtain ⟨t, ht, h2⟩ := ak_jn hS
          exact lv_icmp_ge hx hb (ak_d1 hd hn (k := 2) rfl) ht (fun _ => k0 h2 (ak_o2 hF1)) (fun h1 => absurd h0 h1)
        · rename_i h0
          exact ak_nt_icmp_ge hx hb (ak_d1 hd hn (k := 2) rfl) h0 (k0 hS (ak_o2 hF1))
      · cases hS
    | gt =>
      simp only [ak_x] at hS
      split at hS
      · split at hS
        · rename_i h0
          obtain ⟨t, ht, h2⟩ := ak_jn hS
          exact lv_icmp_gt hx hb (ak_d1 hd hn (k := 2) rfl) ht (fun _ => k0 h2 (ak_o2 hF1)) (fun h1 => absurd h0 h1)
        · rename_i h0
          exact ak_nt_icmp_gt hx hb (ak_d1 hd hn (k := 2) rfl) h0 (k0 hS (ak_o2 hF1))
      · cases hS
    | le =>
      simp only [ak_x] at hS
      split at hS
      · split at hS
        · rename_i h0
          obtain ⟨t, ht, h2⟩ := ak_jn hS
          exact lv_icmp_le hx hb (ak_d1 hd hn (k := 2) rfl) ht (fun _ => k0 h2 (ak_o2 hF1)) (fun h1 => absurd h0 h1)
        · rename_i h0
          exact ak_nt_icmp_le hx hb (ak_d1 hd hn (k := 2) rfl) h0 (k0 hS (ak_o2 hF1))
      · cases hS
  | tableswitch d lo hi offs =>
    simp only [ak_x] at hS
    split at hS
    · split at hS
      · rename_i h0
        obtain ⟨t, ht, h2⟩ := ak_jn hS
        exact lv_tableOut hx hb hd h0 ht (k0 h2 (ak_o1 hF1))
      · rename_i h0
        split at hS
        · rename_i oo hoo
          obtain ⟨t, ht, h2⟩ := ak_jn hS
          exact lv_tableIn hx hb hd (fun h => h0 (Or.inl h)) (fun h => h0 (Or.inr h)) hoo ht (k0 h2 (ak_o1 hF1))
        · cases hS
    · cases hS
  | lookupswitch d ps =>
    simp only [ak_x] at hS
    split at hS
    · split at hS
      · rename_i h0
        obtain ⟨t, ht, h2⟩ := ak_jn hS
        exact lv_lookup hx hb hd h0 rfl ht (k0 h2 (ak_o1 hF1))
      · cases hS
    · cases hS
  | getfield _ => cases hi
  | putfield _ => cases hi
  | getstatic _ => cases hi
  | new _ => cases hi
  | newarray _ => cases hi
  | anewarray _ => cases hi
  | multianewarray _ _ => cases hi
  | arraylength => cases hi
  | iaload => cases hi
  | baload => cases hi
  | aaload => cases hi
  | iastore => cases hi
  | bastore => cases hi
  | aastore => cases hi
  | ldc _ => cases hi
  | ldc_w _ => cases hi
  | ldc2_w _ => cases hi
  | invokevirtual _ => cases hi
  | invokestatic _ => cases hi
  | invokespecial _ => cases hi
  | checkcast _ => cases hi
  | ireturn =>
    simp only [ak_x, ak_e] at hS
    repeat (split at hS)
    all_goals (first | (cases hS; done) | simp at hS)
  | areturn =>
    simp only [ak_x, ak_e] at hS
    repeat (split at hS)
    all_goals (first | (cases hS; done) | simp at hS)
  | freturn =>
    simp only [ak_x, ak_e] at hS
    repeat (split at hS)
    all_goals (first | (cases hS; done) | simp at hS)
  | dreturn =>
    simp only [ak_x, ak_e] at hS
    repeat (split at hS)
    all_goals (first | (cases hS; done) | simp at hS)
  | return_ =>
    simp only [ak_x, ak_e] at hS
    repeat (split at hS)
    all_goals (first | (cases hS; done) | simp at hS)
  | _ => exact absurd hS (by simp [ak_x])
end AKS
end
section
/-! fields, statics, texts: the facts of the tables, and the rows -/
set_option maxRecDepth 100000 in
theorem am_in0 : (u_ws RX0 TX0 4).all (fun w => goodWord w && decide (w ∈ ax_tbl)) = true := by decide +kernel
set_option maxRecDepth 100000 in
theorem am_in1 : (u_ws RX1 TX1 6).all (fun w => goodWord w && decide (w ∈ ax_tbl)) = true := by decide +kernel
set_option maxRecDepth 100000 in
theorem am_in2 : (u_ws RX2 TX2 11).all (fun w => goodWord w && decide (w ∈ ax_tbl)) = true := by decide +kernel
set_option maxRecDepth 100000 in
theorem am_in3 : (u_ws RX3 TX3 3).all (fun w => goodWord w && decide (w ∈ ax_tbl)) = true := by decide +kernel
set_option maxRecDepth 100000 in
theorem am_in4 : (u_ws RX4 TX4 2).all (fun w => goodWord w && decide (w ∈ ax_tbl)) = true := by decide +kernel
set_option maxRecDepth 100000 in
theorem am_in5 : (u_ws RX5 TX5 16).all (fun w => goodWord w && decide (w ∈ ax_tbl)) = true := by decide +kernel
set_option maxRecDepth 100000 in
theorem am_in6 : (u_ws RX6 TX6 3).all (fun w => goodWord w && decide (w ∈ ax_tbl)) = true := by decide +kernel
set_option maxRecDepth 100000 in
theorem am_in7 : (u_ws RX7 TX7 2).all (fun w => goodWord w && decide (w ∈ ax_tbl)) = true := by decide +kernel
set_option maxRecDepth 100000 in
theorem am_in8 : (u_ws RX8 TX8 7).all (fun w => goodWord w && decide (w ∈ ax_tbl)) = true := by decide +kernel
set_option maxRecDepth 100000 in
theorem am_in9 : (u_ws RX9 TX9 4).all (fun w => goodWord w && decide (w ∈ ax_tbl)) = true := by decide +kernel
set_option maxRecDepth 100000 in
theorem am_in10 : (u_ws RX10 TX10 3).all (fun w => goodWord w && decide (w ∈ ax_tbl)) = true := by decide +kernel
set_option maxRecDepth 100000 in
theorem am_in11 : (u_ws RX11 TX11 11).all (fun w => goodWord w && decide (w ∈ ax_tbl)) = true := by decide +kernel
set_option maxRecDepth 100000 in
theorem am_in12 : (u_ws RJ4 TJ4 4).all (fun w => goodWord w && decide (w ∈ ax_tbl)) = true := by decide +kernel
set_option maxRecDepth 100000 in
theorem am_in13 : (u_ws RJ0 TJ0 4).all (fun w => goodWord w && decide (w ∈ ax_tbl)) = true := by decide +kernel
set_option maxRecDepth 100000 in
theorem am_Fn : am_fs.all (fun q => q.2.2.1 != 13 || q.2.2.2.2.1 == 0) = true := by decide +kernel
theorem am_inw {ws : List Jvm.Cond} (h : ws.all (fun w => goodWord w && decide (w ∈ ax_tbl)) = true) : ∀ w ∈ ws, w ∈ am_w := by
  intro w hw
  have h1 := List.all_eq_true.mp h w hw
  rw [Bool.and_eq_true] at h1
  exact List.mem_filter.mpr ⟨of_decide_eq_true h1.2, h1.1⟩
theorem am_cls (ci : Nat) (h : ci < 14) : ∃ (C : String) (N : Nat) (ty : Nat → FieldType), vwCl[ci]? = some (C, am_tk ci, N) ∧ N = am_nf ci ∧ (∀ w ∈ u_ws C (am_tk ci) N, w ∈ am_w) ∧ (∀ k, k < N → parseFieldDescriptor (am_tk ci k).2.2.1 = some (ty k)) ∧ (∀ a, a < N → ∀ b, b < N → a ≠ b → (am_tk ci a).2.1 ≠ (am_tk ci b).2.1) := by
  match ci, h with
  | 0, _ => exact ⟨RX0, 4, tyX0, rfl, by decide +kernel, am_inw am_in0, tyX0_ok, nmX0⟩
  | 1, _ => exact ⟨RX1, 6, tyX1, rfl, by decide +kernel, am_inw am_in1, tyX1_ok, nmX1⟩
  | 2, _ => exact ⟨RX2, 11, tyX2, rfl, by decide +kernel, am_inw am_in2, tyX2_ok, nmX2⟩
  | 3, _ => exact ⟨RX3, 3, tyX3, rfl, by decide +kernel, am_inw am_in3, tyX3_ok, nmX3⟩
  | 4, _ => exact ⟨RX4, 2, tyX4, rfl, by decide +kernel, am_inw am_in4, tyX4_ok, nmX4⟩
  | 5, _ => exact ⟨RX5, 16, tyX5, rfl, by decide +kernel, am_inw am_in5, tyX5_ok, nmX5⟩
  | 6, _ => exact ⟨RX6, 3, tyX6, rfl, by decide +kernel, am_inw am_in6, tyX6_ok, nmX6⟩
  | 7, _ => exact ⟨RX7, 2, tyX7, rfl, by decide +kernel, am_inw am_in7, tyX7_ok, nmX7⟩
  | 8, _ => exact ⟨RX8, 7, tyX8, rfl, by decide +kernel, am_inw am_in8, tyX8_ok, nmX8⟩
  | 9, _ => exact ⟨RX9, 4, tyX9, rfl, by decide +kernel, am_inw am_in9, tyX9_ok, nmX9⟩
  | 10, _ => exact ⟨RX10, 3, tyX10, rfl, by decide +kernel, am_inw am_in10, tyX10_ok, nmX10⟩
  | 11, _ => exact ⟨RX11, 11, tyX11, rfl, by decide +kernel, am_inw am_in11, tyX11_ok, nmX11⟩
  | 12, _ => exact ⟨RJ4, 4, tyJ4, rfl, by decide +kernel, am_inw am_in12, tyJ4_ok, nmJ4⟩
  | 13, _ => exact ⟨RJ0, 4, tyJ0, rfl, by decide +kernel, am_inw am_in13, tyJ0_ok, nmJ0⟩
theorem am_Fs {own idx : Nat} {z : Nat × Nat × Nat × Nat} (h : am_F own idx = some z) : am_kF1 (own, idx, z) = true := by
  unfold am_F at h
  cases hf : am_fs.find? (fun q => q.1 == own && q.2.1 == idx) with
  | none => rw [hf] at h; cases h
  | some q =>
    rw [hf] at h
    cases h
    have h1 := List.all_eq_true.mp am_Fk q (List.mem_of_find?_eq_some hf)
    have h2 := List.find?_some hf
    simp only [Bool.and_eq_true, beq_iff_eq] at h2
    obtain ⟨a, b, c⟩ := q
    obtain ⟨rfl, rfl⟩ := h2
    exact h1
theorem am_Fo {own idx k nest i : Nat} (h : am_F own idx = some (13, k, nest, i)) : nest = 0 := by
  unfold am_F at h
  cases hf : am_fs.find? (fun q => q.1 == own && q.2.1 == idx) with
  | none => rw [hf] at h; cases h
  | some q =>
    rw [hf] at h
    have h1 := List.all_eq_true.mp am_Fn q (List.mem_of_find?_eq_some hf)
    have h2 : q.2.2 = (13, k, nest, i) := Option.some.inj h
    rw [h2] at h1
    simpa using h1
theorem am_Ss {own idx : Nat} {z : Nat × Nat × Nat} (h : am_S own idx = some z) : am_kS1 (own, idx, z) = true := by
  unfold am_S at h
  cases hf : am_ss.find? (fun q => q.1 == own && q.2.1 == idx) with
  | none => rw [hf] at h; cases h
  | some q =>
    rw [hf] at h
    cases h
    have h1 := List.all_eq_true.mp am_Sk q (List.mem_of_find?_eq_some hf)
    have h2 := List.find?_some hf
    simp only [Bool.and_eq_true, beq_iff_eq] at h2
    obtain ⟨a, b, c⟩ := q
    obtain ⟨rfl, rfl⟩ := h2
    exact h1
theorem am_Ws {own idx : Nat} {z : Nat × Nat × Nat × Nat} (h : am_W own idx = some z) : am_kN1 (own, idx, z) = true := by
  unfold am_W at h
  cases hf : am_ns.find? (fun q => q.1 == own && q.2.1 == idx) with
  | none => rw [hf] at h; cases h
  | some q =>
    rw [hf] at h
    cases h
    have h1 := List.all_eq_true.mp am_Nk q (List.mem_of_find?_eq_some hf)
    have h2 := List.find?_some hf
    simp only [Bool.and_eq_true, beq_iff_eq] at h2
    obtain ⟨a, b, c⟩ := q
    obtain ⟨rfl, rfl⟩ := h2
    exact h1
theorem am_Vs {own idx : Nat} {z : Nat × Nat} (h : am_V own idx = some z) : am_kV1 (own, idx, z) = true := by
  unfold am_V at h
  cases hf : am_as.find? (fun q => q.1 == own && q.2.1 == idx) with
  | none => rw [hf] at h; cases h
  | some q =>
    rw [hf] at h
    cases h
    have h1 := List.all_eq_true.mp am_Vk q (List.mem_of_find?_eq_some hf)
    have h2 := List.find?_some hf
    simp only [Bool.and_eq_true, beq_iff_eq] at h2
    obtain ⟨a, b, c⟩ := q
    obtain ⟨rfl, rfl⟩ := h2
    exact h1
theorem am_Ts {own idx : Nat} {z : Nat × Nat × Nat × Nat × Nat} (h : am_T own idx = some z) : am_kX1 (own, idx, z) = true := by
  unfold am_T at h
  cases hf : am_xs.find? (fun q => q.1 == own && q.2.1 == idx) with
  | none => rw [hf] at h; cases h
  | some q =>
    rw [hf] at h
    cases h
    have h1 := List.all_eq_true.mp am_Xk q (List.mem_of_find?_eq_some hf)
    have h2 := List.find?_some hf
    simp only [Bool.and_eq_true, beq_iff_eq] at h2
    obtain ⟨a, b, c⟩ := q
    obtain ⟨rfl, rfl⟩ := h2
    exact h1
theorem am_Us {own idx : Nat} {v : Int32} (h : am_U own idx = some v) : ∃ i, am_kU1 (own, idx, v, i) = true := by
  unfold am_U at h
  cases hf : am_us.find? (fun q => q.1 == own && q.2.1 == idx) with
  | none => rw [hf] at h; cases h
  | some q =>
    rw [hf] at h
    cases h
    have h1 := List.all_eq_true.mp am_Uk q (List.mem_of_find?_eq_some hf)
    have h2 := List.find?_some hf
    simp only [Bool.and_eq_true, beq_iff_eq] at h2
    obtain ⟨a, b, c, d⟩ := q
    obtain ⟨rfl, rfl⟩ := h2
    exact ⟨d, h1⟩
theorem am_Js {own idx : Nat} {v : Int64} (h : am_J own idx = some v) : ∃ i, am_kG1 (own, idx, v, i) = true := by
  unfold am_J at h
  cases hf : am_gs.find? (fun q => q.1 == own && q.2.1 == idx) with
  | none => rw [hf] at h; cases h
  | some q =>
    rw [hf] at h
    cases h
    have h1 := List.all_eq_true.mp am_Gk q (List.mem_of_find?_eq_some hf)
    have h2 := List.find?_some hf
    simp only [Bool.and_eq_true, beq_iff_eq] at h2
    obtain ⟨a, b, c, d⟩ := q
    obtain ⟨rfl, rfl⟩ := h2
    exact ⟨d, h1⟩
theorem am_Ls {k idx : Nat} {z : Nat × Nat × Nat × Nat × Nat × Nat} (hk : k < 365) (h : am_L k idx = some z) : am_kK1 k (idx, z) = true := by
  have hc := am_Kc_all k hk
  unfold am_kK at hc
  unfold am_L at h
  cases hf : (am_ks.getD k []).find? (fun q => q.1 == idx) with
  | none => rw [hf] at h; cases h
  | some q =>
    rw [hf] at h
    cases h
    have h1 := List.all_eq_true.mp hc q (List.mem_of_find?_eq_some hf)
    have h2 := List.find?_some hf
    have h3 : q.1 = idx := by simpa using h2
    obtain ⟨a, b⟩ := q
    subst h3
    exact h1
theorem am_Gs {own idx j : Nat} (h : am_G own idx = some j) : j < 25 ∧ (ak_sw j).1 = own ∧ (ak_sw j).2.1 = idx := by
  unfold am_G at h
  obtain ⟨h1, h2, -⟩ := List.findIdx?_eq_some_iff_getElem.mp h
  simp only [Bool.and_eq_true, beq_iff_eq] at h2
  have hl : am_sr.length = 25 := by decide
  refine ⟨by omega, ?_, ?_⟩
  · unfold ak_sw; rw [List.getD_eq_getElem?_getD, List.getElem?_eq_getElem h1]; exact h2.1
  · unfold ak_sw; rw [List.getD_eq_getElem?_getD, List.getElem?_eq_getElem h1]; exact h2.2
theorem am_okb {s : State} {args : Array Value} (hts : ∀ w ∈ am_w, w.before args s = true) {i : Nat} {w : Jvm.Cond} (h : am_ok i w = true) : w.before args s = true := hts w (am_w_of h)
theorem am_isb {i : Nat} {w : Jvm.Cond} (h : am_is i w = true) : w ∈ ax_tbl := List.mem_of_getElem? (of_decide_eq_true h)
theorem ak_fd_v (ad : Nat → Nat) (M : ak_M) (p ci k : Nat) : ak_fd ad M p ci k = ak_v ad (if am_f ci k = 2 then ak_rv (ak_R M p k) else .int (ak_I M p k)) := by
  unfold ak_fd
  split
  · cases ak_R M p k <;> rfl
  · rfl
theorem ak_rv_ok {M : ak_M} (h : ak_okM M) (p k : Nat) : ak_okV M (ak_rv (ak_R M p k)) := by
  cases hr : ak_R M p k with
  | none => trivial
  | some q => exact Or.inl (h.2.1 p k q hr)
theorem ak_okc {M : ak_M} {p : Nat} (h1 : 1000000 ≤ p) (h2 : p < 3000000) : ak_okV M (.ref p) := Or.inr ⟨h1, by omega⟩
section AKG
variable {p : Program} {l : Launch} {e : Env} {R : Room} {s : State} {m : MethodId} {args : Array Value} {below : List Frame} {meth : Method} {c : Code} {Q : State → Prop}
variable {X : ak_X} {D : va_G} {dA : Nat → ClassId} {ac : Nat → Nat} {base : Nat}
variable {mi pc : Nat} {f' : ak_F} {M M' : ak_M} {l1 : List (Option Value)} {l2 : List (Nat × Value)} {st : List Value} {H : Heap} {locs : List Loc} {cells slots : Nat} {ls : Array Slot} {ad : Nat → Nat}
set_option maxHeartbeats 1000000 in
theorem ak_xget {idx : Nat} (C : ak_cx p l R s m args meth c mi) (hA : ak_amb X D dA ac (ak_A base) s s.heap) (hd : decode (am_B mi) pc = .ok (.getfield idx, 3)) (hM : ak_mi D dA ac base s H locs ad M)
    (hS : ak_x X mi (.getfield idx) pc l1 l2 st M = some (.inl (f', M'))) (hF1 : ∀ v ∈ st, ak_okV M v)
    (kk : ∀ pc' st', ak_n pc' l1 l2 st' M = some (.inl (f', M')) → (∀ v ∈ st', ak_okV M v) → W p l e R s m args below meth c H locs cells slots Q (F0 m pc' ls (st'.map (ak_v ad)))) :
    W p l e R s m args below meth c H locs cells slots Q (F0 m pc ls (st.map (ak_v ad))) := by
  obtain ⟨hx, hb, hown, hts, -⟩ := C
  obtain ⟨-, hSv, hP, hD, hO, hac⟩ := hM
  have hK := hA.1
  simp only [ak_x] at hS
  split at hS
  · rename_i q r
    split at hS
    · rename_i ci k x hf
      obtain ⟨nest, i⟩ := x
      have hs := am_Fs hf
      unfold am_kF1 at hs
      simp only [Bool.and_eq_true] at hs
      obtain ⟨⟨-, hk⟩, hlink⟩ := hs
      split at hS
      · rename_i hq1
        split at hS
        · rename_i hq
          obtain ⟨hci, hq2⟩ := hq
          have hk : k < am_nf ci := Nat.le_of_ble_eq_true hk
          obtain ⟨Cn, N, ty, hcl, hN, hin, -, -⟩ := am_cls ci hci
          have hv : ((List.range (am_nf ci)).map (ak_fd ad M q ci))[k]? = some (ak_fd ad M q ci k) := by simp [hk]
          have hgo : W p l e R s m args below meth c H locs cells slots Q (F0 m (pc + 3) ls (ak_fd ad M q ci k :: r.map (ak_v ad))) := by
            rw [ak_fd_v]
            exact kk _ _ hS (ak_oc (by split; exact ak_rv_ok hO q k; trivial) (ak_o1 hF1))
          by_cases hn : nest = 0
          · rw [if_pos hn] at hlink
            exact va_get (D := D) (Ts := am_w) (N := N) (ref := (am_tk ci k).1) hx hb hts hin hown hK hP q (ak_wobj hq1 hq2 hci) hcl k (by rw [hN]; exact hk) (am_okb hts hlink) (fun _ h => h) hv hd hgo
          · rw [if_neg hn] at hlink
            exact va_getN (D := D) (Ts := am_w) (N := N) (ref := (am_tk ci k).1) (host := "KiteQuarrel") hx hb hts hin hown hK hP q (ak_wobj hq1 hq2 hci) hcl k (by rw [hN]; exact hk) (va_Nw.use rfl (hA.2.2.2.2.2.2.2.2.1 _ (am_isb hlink) rfl)) (fun _ h => h) hv hd hgo
        · cases hS
      · split at hS
        · rename_i hq
          obtain ⟨rfl, hk2, hq1, hq2⟩ := hq
          have hn := am_Fo hf
          rw [if_pos hn] at hlink
          obtain ⟨q, rfl⟩ : ∃ q9 : Nat, q9 = q := ⟨q, rfl⟩
          have hq1 : @LE.le Nat _ 1001000 q := hq1
          have hq2 : @LT.lt Nat _ q 1001025 := hq2
          obtain ⟨j, rfl⟩ : ∃ j : Nat, q = 1001000 + j := ⟨q - 1001000, by omega⟩
          have hj : j < 25 := by omega
          obtain ⟨-, -, hco, hva, -⟩ := hA.2.2.2.2.2.1 j hj
          show W p l e R s m args below meth c H locs cells slots Q (F0 m pc ls (.ref (ad (1001000 + j)) :: r.map (ak_v ad)))
          rw [hac (1001000 + j) (by omega) (by omega)]
          by_cases hk : k = 0
          · subst hk
            refine vk_getf (ref := (am_tk 13 0).1) hx hb hva hSv hown (am_okb hts hlink) (fun _ h => h) hd ?_
            rw [if_pos rfl] at hS
            have := kk _ _ hS (ak_oc (ak_okc (by omega) (by omega)) (ak_o1 hF1))
            have e9 : (Value.ref (1001000 + j + 1000) :: r).map (ak_v ad) = .ref (ac (1002000 + j)) :: r.map (ak_v ad) := by
              show Value.ref (ad (1001000 + j + 1000)) :: _ = _
              rw [hac _ (by omega) (by omega), show 1001000 + j + 1000 = 1002000 + j by omega]
            rw [e9] at this
            exact this
          · obtain rfl : k = 1 := by omega
            refine vk_getf (ref := (am_tk 13 1).1) hx hb hco hSv hown (am_okb hts hlink) (fun _ h => h) hd ?_
            rw [if_neg hk] at hS
            exact kk _ _ hS (ak_oc trivial (ak_o1 hF1))
        · cases hS
    · cases hS
  · cases hS
set_option maxHeartbeats 1000000 in
theorem ak_xput {idx : Nat} (C : ak_cx p l R s m args meth c mi) (hA : ak_amb X D dA ac (ak_A base) s s.heap) (hA0 : am_A mi pc = some (.putfield idx)) (hd : decode (am_B mi) pc = .ok (.putfield idx, 3)) (hM : ak_mi D dA ac base s H locs ad M)
    (hS : ak_x X mi (.putfield idx) pc l1 l2 st M = some (.inl (f', M'))) (hF1 : ∀ v ∈ st, ak_okV M v)
    (kk : ∀ pc' st' H' locs', ak_n pc' l1 l2 st' M' = some (.inl (f', M')) → (∀ v ∈ st', ak_okV M v) → ak_mi D dA ac base s H' locs' ad M' → ak_P M' = ak_P M ∧ ak_C M' = ak_C M ∧ ak_Z M' = ak_Z M → W p l e R s m args below meth c H' locs' cells slots Q (F0 m pc' ls (st'.map (ak_v ad)))) :
    W p l e R s m args below meth c H locs cells slots Q (F0 m pc ls (st.map (ak_v ad))) := by
  obtain ⟨hx, hb, hown, hts, -, -, -, hnm, -, -, -, -, hmi⟩ := C
  obtain ⟨hbs, hSv, hP, hD, hO, hac⟩ := hM
  have hK := hA.1
  simp only [ak_x] at hS
  split at hS
  · rename_i v q r
    split at hS
    · rename_i ci k x hf
      obtain ⟨nest, i⟩ := x
      have hs := am_Fs hf
      unfold am_kF1 at hs
      split at hS
      · rename_i hq
        obtain ⟨hq1, hq2, hci⟩ := hq
        simp only [Bool.and_eq_true] at hs
        obtain ⟨⟨-, hk⟩, hlink⟩ := hs
        have hk : k < am_nf ci := Nat.le_of_ble_eq_true hk
        obtain ⟨Cn, N, ty, hcl, hN, hin, hty, hnd⟩ := am_cls ci hci
        have hpf : am_pf ci k = true := by
          have h1 := List.all_eq_true.mp am_Tk ci (List.mem_range.mpr hci)
          unfold am_kT1 at h1
          rw [Bool.and_eq_true] at h1
          exact List.all_eq_true.mp h1.2 k (List.mem_range.mpr hk)
        have key : ∀ (v : Value) (M1 : ak_M) (ft : FieldType), ak_at M M1 q → ak_okM M1 → v = ak_fd ad M1 q ci k → (∀ j, j ≠ k → ak_fd ad M1 q ci j = ak_fd ad M q ci j) → ak_P M1 = ak_P M ∧ ak_C M1 = ak_C M ∧ ak_Z M1 = ak_Z M → ak_n (pc + 3) l1 l2 r M1 = some (.inl (f', M')) →
            parseFieldDescriptor (am_tk ci k).2.2.1 = some ft → narrow ft v = v → fits ft v = true → W p l e R s m args below meth c H locs cells slots Q (F0 m pc ls (v :: .ref (ad q) :: r.map (ak_v ad))) := by
          intro v M1 ft hat hO1 hv ho hsz hS1 hft hnar hfit
          obtain ⟨-, rfl⟩ := ak_inj hS1
          have hset : (ak_w ad dA M).set q (ad q, .inr (ci, ((List.range (am_nf ci)).map (ak_fd ad M q ci)).set k v)) = ak_w ad dA M' := by
            refine ak_at_w hat (fun _ => ?_)
            rw [ak_set_fld hv ho]
            unfold ak_ce
            rw [hat.2.1, hq2, if_pos hci]
          have hfin : ∀ (H1 : Heap) (locs1 : List Loc), va_P D vwCl ((ak_w ad dA M).set q (ad q, .inr (ci, ((List.range (am_nf ci)).map (ak_fd ad M q ci)).set k v))) H1 → va_D (ak_A base) ((ak_w ad dA M).set q (ad q, .inr (ci, ((List.range (am_nf ci)).map (ak_fd ad M q ci)).set k v))) → va_S (ak_A base) s.heap H1 locs1 → W p l e R s m args below meth c H1 locs1 cells slots Q (F0 m (pc + 3) ls (r.map (ak_v ad))) := by
            intro H1 locs1 h1 h2 h3
            rw [hset] at h1 h2
            exact kk _ _ H1 locs1 hS1 (ak_o2 hF1) ⟨hbs, h3, h1, h2, hO1, hac⟩ hsz
          by_cases hfn : (am_tk ci k).2.2.2 = true
          · have hc9 := am_Pc_all mi hmi
            have hp9 : ∃ q0 ∈ am_cs mi, q0.2 = .putfield idx := by
              unfold am_A at hA0
              cases hf9 : (am_cs mi).find? (fun q => q.1 == pc) with
              | none => rw [hf9] at hA0; cases hA0
              | some q0 => rw [hf9] at hA0; exact ⟨q0, List.mem_of_find?_eq_some hf9, Option.some.inj hA0⟩
            obtain ⟨q0, hq0, hq9⟩ := hp9
            have h9 := List.all_eq_true.mp hc9 q0 hq0
            unfold am_kP1 at h9
            rw [hq9] at h9
            simp only [hf, hfn, if_true, Bool.and_eq_true, decide_eq_true_eq, beq_iff_eq, bne_iff_ne, ne_eq] at h9
            obtain ⟨⟨⟨g1, g2⟩, g3⟩, g4⟩ := h9
            rw [if_pos g3] at hlink
            exact va_putF (D := D) (Ts := am_w) (N := N) (ref := (am_tk ci k).1) hx hb hts hin ty hty hnd hown hK hP hD hSv q (ak_wobj hq1 hq2 hci) hcl k (by rw [hN]; exact hk) (am_okb hts hlink) (fun _ h => h) hfn (by rw [hnm g4]; exact g1) g2 hft hnar hfit (by simp [hk]) hd hfin
          · have hfn : (am_tk ci k).2.2.2 = false := by cases h : (am_tk ci k).2.2.2 with | true => exact absurd h hfn | false => rfl
            by_cases hn : nest = 0
            · rw [if_pos hn] at hlink
              exact va_put (D := D) (Ts := am_w) (N := N) (ref := (am_tk ci k).1) hx hb hts hin ty hty hnd hown hK hP hD hSv q (ak_wobj hq1 hq2 hci) hcl k (by rw [hN]; exact hk) (am_okb hts hlink) (fun _ h => h) hfn hft hnar hfit (by simp [hk]) hd hfin
            · rw [if_neg hn] at hlink
              exact va_putN (D := D) (Ts := am_w) (N := N) (ref := (am_tk ci k).1) (host := "KiteQuarrel") hx hb hts hin ty hty hnd hown hK hP hD hSv q (ak_wobj hq1 hq2 hci) hcl k (by rw [hN]; exact hk) (va_Nw.use rfl (hA.2.2.2.2.2.2.2.2.1 _ (am_isb hlink) rfl)) (fun _ h => h) hfn hft hnar hfit (by simp [hk]) hd hfin
        unfold am_pf at hpf
        cases v with
        | int z =>
          simp only at hS
          split at hS
          · rename_i h0
            have hn2 : ¬ am_f ci k = 2 := by rcases h0 with h | ⟨h, -⟩ | ⟨h, -⟩ <;> omega
            have hO1 : ak_okM (ak_sI M q k z) := hO
            have hv : Value.int z = ak_fd ad (ak_sI M q k z) q ci k := by
              unfold ak_fd; rw [if_neg hn2]; show _ = Value.int (ak_u M.1 q k z q k); rw [ak_u_s]
            have ho : ∀ j, j ≠ k → ak_fd ad (ak_sI M q k z) q ci j = ak_fd ad M q ci j := by
              intro j hj; unfold ak_fd; show (if _ then _ else Value.int (ak_u M.1 q k z q j)) = _; rw [ak_u_o hj]; rfl
            rcases h0 with h0 | ⟨h0, h01⟩ | ⟨h0, h01⟩
            · have hft : parseFieldDescriptor (am_tk ci k).2.2.1 = some .int := by
                revert hpf; cases hp : parseFieldDescriptor (am_tk ci k).2.2.1 with
                | none => intro h; cases h
                | some t => cases t <;> simp [h0]
              exact key _ _ .int ak_atI hO1 hv ho ⟨rfl, rfl, rfl⟩ hS hft rfl rfl
            · have hft : parseFieldDescriptor (am_tk ci k).2.2.1 = some .boolean := by
                revert hpf; cases hp : parseFieldDescriptor (am_tk ci k).2.2.1 with
                | none => intro h; cases h
                | some t => cases t <;> simp [h0]
              refine key _ _ .boolean ak_atI hO1 hv ho ⟨rfl, rfl, rfl⟩ hS hft ?_ ?_
              · rcases h01 with rfl | rfl <;> rfl
              · rcases h01 with rfl | rfl <;> rfl
            · have hft : parseFieldDescriptor (am_tk ci k).2.2.1 = some .byte := by
                revert hpf; cases hp : parseFieldDescriptor (am_tk ci k).2.2.1 with
                | none => intro h; cases h
                | some t => cases t <;> simp [h0]
              have hz : z.toInt8.toInt32 = z := of_decide_eq_true h01
              refine key _ _ .byte ak_atI hO1 hv ho ⟨rfl, rfl, rfl⟩ hS hft ?_ ?_
              · exact congrArg Value.int hz
              · rw [← hz]; exact pk_fb z
          · cases hS
        | ref z =>
          simp only at hS
          split at hS
          · rename_i h0
            obtain ⟨h0, hz⟩ := h0
            have hO1 : ak_okM (ak_sR M q k (some z)) := by
              refine ⟨hO.1, fun p1 k1 q1 h => ?_, hO.2.2⟩
              by_cases h9 : p1 = q ∧ k1 = k
              · have : ak_u M.2.1 q k (some z) p1 k1 = some q1 := h
                unfold ak_u at this
                rw [if_pos h9] at this
                cases this; exact hz
              · have : ak_u M.2.1 q k (some z) p1 k1 = some q1 := h
                unfold ak_u at this
                rw [if_neg h9] at this
                exact hO.2.1 p1 k1 q1 this
            have hv : Value.ref (ad z) = ak_fd ad (ak_sR M q k (some z)) q ci k := by
              unfold ak_fd; rw [if_pos h0]; show _ = va_rf (Option.map ad (ak_u M.2.1 q k (some z) q k)); rw [ak_u_s]; rfl
            have ho : ∀ j, j ≠ k → ak_fd ad (ak_sR M q k (some z)) q ci j = ak_fd ad M q ci j := by
              intro j hj; unfold ak_fd; show (if _ then va_rf (Option.map ad (ak_u M.2.1 q k (some z) q j)) else _) = _; rw [ak_u_o hj]; rfl
            cases hp : parseFieldDescriptor (am_tk ci k).2.2.1 with
            | none => rw [hp] at hpf; cases hpf
            | some t =>
              have hnar : narrow t (.ref (ad z)) = .ref (ad z) := by
                rw [hp] at hpf
                cases t <;> first | rfl | (simp [h0] at hpf; done)
              have hfit : fits t (.ref (ad z)) = true := by
                rw [hp] at hpf
                cases t <;> first | rfl | (simp [h0] at hpf; done)
              exact key _ _ t ak_atR hO1 hv ho ⟨rfl, rfl, rfl⟩ hS hp hnar hfit
          · cases hS
        | _ => cases hS
      · cases hS
    · cases hS
  · cases hS
end AKG
end
section
/-! statics, texts, rows of numbers and of objects -/
section AKE
variable {p : Program} {l : Launch} {e : Env} {R : Room} {s : State} {m : MethodId} {args : Array Value} {below : List Frame} {meth : Method} {c : Code} {Q : State → Prop}
variable {X : ak_X} {D : va_G} {dA : Nat → ClassId} {ac : Nat → Nat} {base : Nat}
variable {mi pc : Nat} {f' : ak_F} {M M' : ak_M} {l1 : List (Option Value)} {l2 : List (Nat × Value)} {st : List Value} {H : Heap} {locs : List Loc} {cells slots : Nat} {ls : Array Slot} {ad : Nat → Nat}
theorem ak_ldcW {own tx : String} {index q : Nat} {cc : ByteArray} {rest : List Value} (hexec : p.tables.exec = Jvm.exec) (hb : c.code = cc) (hown : s.vm.findClass own = some m.cls) (hZ : vk_R own index tx q s) (hdg : decode cc pc = .ok (.ldc_w index, 3))
    (k : W p l e R s m args below meth c H locs cells slots Q (F0 m (pc + 3) ls (.ref q :: rest))) : W p l e R s m args below meth c H locs cells slots Q (F0 m pc ls rest) := by
  intro T hT X
  obtain ⟨t, a1, b1⟩ := k T hT X
  exact ⟨t, X.ldcStringW hexec hown (text := tx) (a := q) hZ.1 hZ.2 (g := F0 m pc ls rest) rfl (by rw [hb]; exact hdg) t a1, b1⟩
theorem ak_cT100 (hA : ak_amb X D dA ac (ak_A base) s s.heap) {q : Nat} (h1 : 1000000 ≤ q) (h2 : ak_cK q = 100) : q < 1000004 ∧ va_T .int (ac q) (ak_cN X q) (fun k => .int (ak_cI X q k)) (ak_A base) s s.heap := by
  have hq : q < 1000004 := by
    unfold ak_cK at h2
    split at h2
    · assumption
    · split at h2
      · cases h2
      · split at h2
        · cases h2
        · split at h2 <;> cases h2
  refine ⟨hq, ?_⟩
  by_cases h0 : q = 1000000
  · subst h0
    exact hA.2.1.2
  · obtain ⟨j, rfl⟩ : ∃ j, q = 1000001 + j := ⟨q - 1000001, by omega⟩
    have := (hA.2.2.1 j (by omega)).2
    have e1 : ak_cN X (1000001 + j) = 6 := by unfold ak_cN; rw [if_neg h0, if_pos hq]
    rw [e1]
    exact this
theorem ak_cT101 (hA : ak_amb X D dA ac (ak_A base) s s.heap) {q : Nat} (h1 : 1000000 ≤ q) (h2 : ak_cK q = 101) : q < 1002025 ∧ va_T .byte (ac q) (ak_cN X q) (fun k => .int (ak_cI X q k)) (ak_A base) s s.heap := by
  have hq : (1000004 ≤ q ∧ q < 1000006) ∨ (1002000 ≤ q ∧ q < 1002025) := by
    unfold ak_cK at h2
    split at h2
    · cases h2
    · split at h2
      · left; omega
      · split at h2
        · cases h2
        · split at h2
          · right; assumption
          · cases h2
  rcases hq with hq | hq
  · obtain ⟨j, rfl⟩ : ∃ j, q = 1000004 + j := ⟨q - 1000004, by omega⟩
    refine ⟨by omega, ?_⟩
    have := (hA.2.2.2.2.2.2.2.2.2.2.2.2 j (by omega)).2
    have e1 : ak_cN X (1000004 + j) = 100 := by
      unfold ak_cN; rw [if_neg (by omega), if_neg (by omega), if_pos (by omega)]
    rw [e1]
    exact this
  · obtain ⟨j, rfl⟩ : ∃ j, q = 1002000 + j := ⟨q - 1002000, by omega⟩
    refine ⟨hq.2, ?_⟩
    have := (hA.2.2.2.2.2.1 j (by omega)).2.2.2.2
    have e1 : ak_cN X (1002000 + j) = (am_sb.getD j []).length := by
      unfold ak_cN; rw [if_neg (by omega), if_neg (by omega), if_neg (by omega), show 1002000 + j - 1002000 = j by omega]
    have e2 : (fun k => Value.int (ak_cI X (1002000 + j) k)) = fun k => Value.int ((am_sb.getD j []).getD k 0) := by
      funext k
      unfold ak_cI
      rw [if_neg (by omega), if_neg (by omega), if_neg (by omega), if_neg (by omega), if_neg (by omega), if_neg (by omega), show 1002000 + j - 1002000 = j by omega]
    rw [e1, e2]
    exact this
theorem ak_xsta {idx : Nat} (C : ak_cx p l R s m args meth c mi) (hA : ak_amb X D dA ac (ak_A base) s s.heap) (hd : decode (am_B mi) pc = .ok (.getstatic idx, 3)) (hM : ak_mi D dA ac base s H locs ad M)
    (hS : ak_x X mi (.getstatic idx) pc l1 l2 st M = some (.inl (f', M'))) (hF1 : ∀ v ∈ st, ak_okV M v)
    (kk : ∀ pc' st', ak_n pc' l1 l2 st' M = some (.inl (f', M')) → (∀ v ∈ st', ak_okV M v) → W p l e R s m args below meth c H locs cells slots Q (F0 m pc' ls (st'.map (ak_v ad)))) :
    W p l e R s m args below meth c H locs cells slots Q (F0 m pc ls (st.map (ak_v ad))) := by
  obtain ⟨hx, hb, hown, hts, -⟩ := C
  obtain ⟨-, hSv, -, -, -, hac⟩ := hM
  simp only [ak_x] at hS
  split at hS
  · rename_i w x hf
    obtain ⟨nest, i⟩ := x
    have hs := am_Ss hf
    unfold am_kS1 at hs
    rw [Bool.and_eq_true] at hs
    obtain ⟨h5, hlink⟩ := hs
    have h5 : w < 7 := Nat.le_of_ble_eq_true h5
    have go : ∀ v : Value, va_Z (am_sn w).1 (am_sn w).2.1 (am_sn w).2.2 v (ak_A base) s s.heap → W p l e R s m args below meth c H locs cells slots Q (F0 m (pc + 3) ls (v :: st.map (ak_v ad))) → W p l e R s m args below meth c H locs cells slots Q (F0 m pc ls (st.map (ak_v ad))) := by
      intro v hZ k
      by_cases hn : nest = 0
      · rw [if_pos hn] at hlink
        exact va_gets (ref := (am_sn w).1) hx hb hZ hSv hown (am_okb hts hlink) (fun _ h => h) hd k
      · rw [if_neg hn] at hlink
        exact va_getsN (ref := (am_sn w).1) (host := "KiteQuarrel") hx hb hZ hSv hown (va_Nw.use rfl (hA.2.2.2.2.2.2.2.2.1 _ (am_isb hlink) rfl)) (fun _ h => h) hd k
    split at hS
    · rename_i h3
      refine go _ (hA.2.2.1 w h3).1 ?_
      have := kk _ _ hS (ak_oc (ak_okc (by omega) (by omega)) hF1)
      rw [List.map_cons, show ak_v ad (.ref (1000001 + w)) = .ref (ac (1000001 + w)) by show Value.ref (ad _) = _; rw [hac _ (by omega) (by omega)]] at this
      exact this
    · split at hS
      · rename_i h3
        subst h3
        exact go _ hA.2.2.2.1 (kk _ _ hS (ak_oc trivial hF1))
      · split at hS
        · rename_i h4
          subst h4
          refine go _ hA.2.2.2.2.1 ?_
          have hok : ak_okV M (if X.2.2 = true then Value.null else .ref 1003000) := by
            split
            · trivial
            · exact ak_okc (by omega) (by omega)
          have := kk _ _ hS (ak_oc hok hF1)
          rw [List.map_cons, show ak_v ad (if X.2.2 = true then Value.null else .ref 1003000) = ak_fm X ac by
            unfold ak_fm
            split
            · rfl
            · show Value.ref (ad _) = _; rw [hac _ (by omega) (by omega)]] at this
          exact this
        · rename_i h3 h4 h6
          obtain ⟨j, rfl⟩ : ∃ j, w = 5 + j := ⟨w - 5, by omega⟩
          refine go _ (hA.2.2.2.2.2.2.2.2.2.2.2.2 j (by omega)).1 ?_
          have := kk _ _ hS (ak_oc (ak_okc (by omega) (by omega)) hF1)
          rw [List.map_cons, show ak_v ad (.ref (999999 + (5 + j))) = .ref (ac (1000004 + j)) by show Value.ref (ad _) = _; rw [hac _ (by omega) (by omega), show 999999 + (5 + j) = 1000004 + j by omega]] at this
          exact this
  · cases hS
theorem ak_xldc {ins : Instr} (C : ak_cx p l R s m args meth c mi) (hA : ak_amb X D dA ac (ak_A base) s s.heap) (hi : (∃ idx, ins = .ldc idx ∧ decode (am_B mi) pc = .ok (.ldc idx, 2)) ∨ (∃ idx, ins = .ldc_w idx ∧ decode (am_B mi) pc = .ok (.ldc_w idx, 3)) ∨ ∃ idx, ins = .ldc2_w idx ∧ decode (am_B mi) pc = .ok (.ldc2_w idx, 3)) (hM : ak_mi D dA ac base s H locs ad M)
    (hS : ak_x X mi ins pc l1 l2 st M = some (.inl (f', M'))) (hF1 : ∀ v ∈ st, ak_okV M v)
    (kk : ∀ pc' st', ak_n pc' l1 l2 st' M = some (.inl (f', M')) → (∀ v ∈ st', ak_okV M v) → W p l e R s m args below meth c H locs cells slots Q (F0 m pc' ls (st'.map (ak_v ad)))) :
    W p l e R s m args below meth c H locs cells slots Q (F0 m pc ls (st.map (ak_v ad))) := by
  obtain ⟨hx, hb, hown, hts, -⟩ := C
  obtain ⟨-, hSv, -, -, -, hac⟩ := hM
  rcases hi with ⟨idx, rfl, hd⟩ | ⟨idx, rfl, hd⟩ | ⟨idx, rfl, hd⟩
  · simp only [ak_x] at hS
    split at hS
    · rename_i j hf
      obtain ⟨hj, h1, h2⟩ := am_Gs hf
      have hr := (hA.2.2.2.2.2.1 j hj).1
      rw [h1, h2] at hr
      refine va_ldcS hx hb hown hr hd ?_
      have := kk _ _ hS (ak_oc (ak_okc (by omega) (by omega)) hF1)
      rw [List.map_cons, show ak_v ad (.ref (1001000 + j)) = .ref (ac (1001000 + j)) by show Value.ref (ad _) = _; rw [hac _ (by omega) (by omega)]] at this
      exact this
    · split at hS
      · rename_i v hf
        obtain ⟨i, hk⟩ := am_Us hf
        exact lv_ldc hx hb hown (am_okb hts hk) hd (kk _ _ hS (ak_oc trivial hF1))
      · cases hS
  · simp only [ak_x] at hS
    split at hS
    · rename_i j hf
      obtain ⟨hj, h1, h2⟩ := am_Gs hf
      have hr := (hA.2.2.2.2.2.1 j hj).1
      rw [h1, h2] at hr
      refine ak_ldcW hx hb hown hr hd ?_
      have := kk _ _ hS (ak_oc (ak_okc (by omega) (by omega)) hF1)
      rw [List.map_cons, show ak_v ad (.ref (1001000 + j)) = .ref (ac (1001000 + j)) by show Value.ref (ad _) = _; rw [hac _ (by omega) (by omega)]] at this
      exact this
    · cases hS
  · simp only [ak_x] at hS
    split at hS
    · rename_i v hf
      obtain ⟨i, hk⟩ := am_Js hf
      exact lv_ldc2 hx hb hown (am_okb hts hk) hd (kk _ _ hS (ak_oc trivial hF1))
    · cases hS
theorem ak_t9 (hO : ak_okM M) {q : Nat} (hq : q < ak_P M) (hk : 100 ≤ ak_K M q) : ak_K M q - 100 < 10 := by
  rcases hO.2.2 q hq with h | h <;> omega
set_option maxHeartbeats 1000000 in
theorem ak_xald {ins : Instr} (C : ak_cx p l R s m args meth c mi) (hA : ak_amb X D dA ac (ak_A base) s s.heap) (hi : ins = .arraylength ∨ ins = .iaload ∨ ins = .baload ∨ ins = .aaload) (hd : decode (am_B mi) pc = .ok (ins, 1)) (hM : ak_mi D dA ac base s H locs ad M)
    (hS : ak_x X mi ins pc l1 l2 st M = some (.inl (f', M'))) (hF1 : ∀ v ∈ st, ak_okV M v)
    (kk : ∀ pc' st', ak_n pc' l1 l2 st' M = some (.inl (f', M')) → (∀ v ∈ st', ak_okV M v) → W p l e R s m args below meth c H locs cells slots Q (F0 m pc' ls (st'.map (ak_v ad)))) :
    W p l e R s m args below meth c H locs cells slots Q (F0 m pc ls (st.map (ak_v ad))) := by
  obtain ⟨hx, hb, hown, hts, -⟩ := C
  obtain ⟨-, hSv, hP, hD, hO, hac⟩ := hM
  have hK := hA.1
  rcases hi with rfl | rfl | rfl | rfl
  · simp only [ak_x] at hS
    split at hS
    · rename_i q r
      split at hS
      · rename_i hq
        split at hS
        · rename_i h1
          exact va_alen hx hb hK hP q (ak_K M q - 100) (ak_warr hq rfl h1) (ak_tget (ak_t9 hO hq h1)) rfl hd (kk _ _ hS (ak_oc trivial (ak_o1 hF1)))
        · cases hS
      · split at hS
        · rename_i h1
          obtain ⟨h1, h2⟩ := h1
          show W p l e R s m args below meth c H locs cells slots Q (F0 m pc ls (.ref (ad q) :: r.map (ak_v ad)))
          rcases h2 with h2 | h2
          · obtain ⟨h3, h4⟩ := ak_cT100 hA h1 h2
            rw [hac q h1 (by omega)]
            exact va_tlen hx hb h4 hSv rfl hd (kk _ _ hS (ak_oc trivial (ak_o1 hF1)))
          · obtain ⟨h3, h4⟩ := ak_cT101 hA h1 h2
            rw [hac q h1 (by omega)]
            exact va_tlen hx hb h4 hSv rfl hd (kk _ _ hS (ak_oc trivial (ak_o1 hF1)))
        · cases hS
    · cases hS
  · simp only [ak_x] at hS
    split at hS
    · rename_i i q r
      split at hS
      · rename_i hq
        split at hS
        · rename_i h1
          obtain ⟨h1, h2⟩ := h1
          exact va_iald hx hb hK hP q 0 (ak_warr hq h1 (by omega)) (ak_tget (by omega)) (ak_ixv h2) hd (kk _ _ hS (ak_oc trivial (ak_o2 hF1)))
        · cases hS
      · split at hS
        · rename_i h1
          obtain ⟨h1, h2, h5⟩ := h1
          show W p l e R s m args below meth c H locs cells slots Q (F0 m pc ls (.int i :: .ref (ad q) :: r.map (ak_v ad)))
          obtain ⟨h3, h4⟩ := ak_cT100 hA h1 h2
          rw [hac q h1 (by omega)]
          exact va_ti hx hb h4 hSv (ak_ixv h5) rfl hd (kk _ _ hS (ak_oc trivial (ak_o2 hF1)))
        · cases hS
    · cases hS
  · simp only [ak_x] at hS
    split at hS
    · rename_i i q r
      split at hS
      · rename_i hq
        split at hS
        · rename_i h1
          obtain ⟨h1, h2⟩ := h1
          exact va_bald hx hb hK hP q 1 (ak_warr hq h1 (by omega)) (ak_tget (by omega)) (ak_ixv h2) hd (kk _ _ hS (ak_oc trivial (ak_o2 hF1)))
        · cases hS
      · split at hS
        · rename_i h1
          obtain ⟨h1, h2, h5⟩ := h1
          show W p l e R s m args below meth c H locs cells slots Q (F0 m pc ls (.int i :: .ref (ad q) :: r.map (ak_v ad)))
          obtain ⟨h3, h4⟩ := ak_cT101 hA h1 h2
          rw [hac q h1 (by omega)]
          exact va_tb hx hb h4 hSv (ak_ixv h5) rfl hd (kk _ _ hS (ak_oc trivial (ak_o2 hF1)))
        · cases hS
    · cases hS
  · simp only [ak_x] at hS
    split at hS
    · rename_i i q r
      split at hS
      · rename_i h1
        obtain ⟨hq, h1, h2, h3⟩ := h1
        have hv : va_rf ((ak_R M q i.toNatClampNeg).map ad) = ak_v ad (ak_rv (ak_R M q i.toNatClampNeg)) := by cases ak_R M q i.toNatClampNeg <;> rfl
        have hk : W p l e R s m args below meth c H locs cells slots Q (F0 m (pc + 1) ls (va_rf ((ak_R M q i.toNatClampNeg).map ad) :: r.map (ak_v ad))) := by
          rw [hv]
          exact kk _ _ hS (ak_oc (ak_rv_ok hO _ _) (ak_o2 hF1))
        have hw := ak_warr (ad := ad) (dA := dA) hq rfl (show 100 ≤ ak_K M q by omega)
        have har : ak_ar ad M q (ak_K M q) = .inr (.inr (.inr (.inr (fun k => (ak_R M q k).map ad)))) := by
          unfold ak_ar
          rw [if_neg (by omega), if_neg (by omega), if_neg (by omega)]
        rw [har] at hw
        have ht := ak_tget (dA := dA) (t := ak_K M q - 100) (by omega)
        rcases (show ak_K M q = 105 ∨ ak_K M q = 106 ∨ ak_K M q = 107 ∨ ak_K M q = 108 ∨ ak_K M q = 109 by omega) with h | h | h | h | h
        · rw [h] at hw ht
          exact va_aldq hx hb hK hP q 5 hw ht (ak_ixv h3) hd hk
        · rw [h] at hw ht
          exact va_aldq hx hb hK hP q 6 hw ht (ak_ixv h3) hd hk
        · rw [h] at hw ht
          exact va_aldq hx hb hK hP q 7 hw ht (ak_ixv h3) hd hk
        · rw [h] at hw ht
          exact va_aldq hx hb hK hP q 8 hw ht (ak_ixv h3) hd hk
        · rw [h] at hw ht
          have hin := ak_ixv h3
          have hlt : i.toNatClampNeg < ak_N M q := Nat.not_le.mp fun z => hin (Or.inr z)
          exact W.aald (v := va_rf ((ak_R M q i.toNatClampNeg).map ad)) (ty := .array .byte) hx hb (hP q _ hw) ((hK.2 9 _ ht).1 (ak_N M q) (fun j => va_rf ((ak_R M q j).map ad))) rfl (fun z => by cases z) (by show ¬ (i < 0 ∨ (arrV _ _ _).slots.size ≤ _); rw [arrV_size]; exact hin) (by show (arrV _ _ _).slots[_]? = _; rw [arrV_read _ _ hlt]) rfl rfl hd hk
      · cases hS
    · cases hS
set_option maxHeartbeats 1000000 in
theorem ak_xast {ins : Instr} (C : ak_cx p l R s m args meth c mi) (hA : ak_amb X D dA ac (ak_A base) s s.heap) (hi : ins = .iastore ∨ ins = .bastore ∨ ins = .aastore) (hd : decode (am_B mi) pc = .ok (ins, 1)) (hM : ak_mi D dA ac base s H locs ad M)
    (hS : ak_x X mi ins pc l1 l2 st M = some (.inl (f', M'))) (hF1 : ∀ v ∈ st, ak_okV M v)
    (kk : ∀ pc' st' H' locs', ak_n pc' l1 l2 st' M' = some (.inl (f', M')) → (∀ v ∈ st', ak_okV M v) → ak_mi D dA ac base s H' locs' ad M' → ak_P M' = ak_P M ∧ ak_C M' = ak_C M ∧ ak_Z M' = ak_Z M → W p l e R s m args below meth c H' locs' cells slots Q (F0 m pc' ls (st'.map (ak_v ad)))) :
    W p l e R s m args below meth c H locs cells slots Q (F0 m pc ls (st.map (ak_v ad))) := by
  obtain ⟨hx, hb, hown, hts, -⟩ := C
  obtain ⟨hbs, hSv, hP, hD, hO, hac⟩ := hM
  have hK := hA.1
  have key : ∀ {q : Nat} {x : va_E} {r : List Value} {M1 : ak_M} (H1 : Heap) (locs1 : List Loc), ak_at M M1 q → ak_okM M1 → ak_P M1 = ak_P M ∧ ak_C M1 = ak_C M ∧ ak_Z M1 = ak_Z M → (q < ak_P M → x = ak_ce ad dA M1 q) → ak_n (pc + 1) l1 l2 r M1 = some (.inl (f', M')) → (∀ v ∈ r, ak_okV M v) →
      va_P D vwCl ((ak_w ad dA M).set q (ad q, x)) H1 → va_D (ak_A base) ((ak_w ad dA M).set q (ad q, x)) → va_S (ak_A base) s.heap H1 locs1 → W p l e R s m args below meth c H1 locs1 cells slots Q (F0 m (pc + 1) ls (r.map (ak_v ad))) := by
    intro q x r M1 H1 locs1 hat hO1 hsz hxe hS1 hr h1 h2 h3
    obtain ⟨-, rfl⟩ := ak_inj hS1
    rw [ak_at_w hat hxe] at h1 h2
    exact kk _ _ H1 locs1 hS1 hr ⟨hbs, h3, h1, h2, hO1, hac⟩ hsz
  have arr : ∀ {M1 : ak_M} {q kd : Nat}, ak_at M M1 q → ak_K M q = kd → 100 ≤ kd → ak_ce ad dA M1 q = .inl (dA (kd - 100), ak_N M q, ak_ar ad M1 q kd) := by
    intro M1 q kd hat hk h9
    unfold ak_ce
    rw [hat.2.1, hat.2.2.1, hk, if_neg (by omega)]
  rcases hi with rfl | rfl | rfl
  · simp only [ak_x] at hS
    split at hS
    · rename_i z i q r
      split at hS
      · rename_i h1
        obtain ⟨hq, h1, h2⟩ := h1
        refine va_iast hx hb hK hP hD hSv q 0 (ak_warr hq h1 (by omega)) (ak_tget (by omega)) (ak_ixv h2) hd (fun H1 locs1 a b c => key H1 locs1 ak_atI hO ⟨rfl, rfl, rfl⟩ (fun _ => ?_) hS (ak_o3 hF1) a b c)
        rw [arr ak_atI h1 (by omega)]
        show _ = Sum.inl (dA 0, ak_N M q, Sum.inl (ak_u M.1 q i.toNatClampNeg z q))
        rw [ak_u_at]
        rfl
      · cases hS
    · cases hS
  · simp only [ak_x] at hS
    split at hS
    · rename_i z i q r
      split at hS
      · rename_i h1
        obtain ⟨hq, h2⟩ := h1
        split at hS
        · rename_i h1
          refine va_bast hx hb hK hP hD hSv q 1 (ak_warr hq h1 (by omega)) (ak_tget (by omega)) (ak_ixv h2) hd (fun H1 locs1 a b c => key H1 locs1 ak_atI hO ⟨rfl, rfl, rfl⟩ (fun _ => ?_) hS (ak_o3 hF1) a b c)
          rw [arr ak_atI h1 (by omega)]
          show _ = Sum.inl (dA 1, ak_N M q, Sum.inl (ak_u M.1 q i.toNatClampNeg (vp_nar .byte z) q))
          rw [ak_u_at]
          rfl
        · cases hS
      · cases hS
    · cases hS
  · simp only [ak_x] at hS
    split at hS
    · rename_i z i q r
      split at hS
      · rename_i h1
        obtain ⟨hq, h1, h2, h3, hz, hkz⟩ := h1
        have hO1 : ak_okM (ak_sR M q i.toNatClampNeg (some z)) := by
          refine ⟨hO.1, fun p1 k1 q1 h => ?_, hO.2.2⟩
          by_cases h9 : p1 = q ∧ k1 = i.toNatClampNeg
          · have : ak_u M.2.1 q i.toNatClampNeg (some z) p1 k1 = some q1 := h
            unfold ak_u at this
            rw [if_pos h9] at this
            cases this; exact hz
          · have : ak_u M.2.1 q i.toNatClampNeg (some z) p1 k1 = some q1 := h
            unfold ak_u at this
            rw [if_neg h9] at this
            exact hO.2.1 p1 k1 q1 this
        have hw := ak_warr (ad := ad) (dA := dA) hq rfl (show 100 ≤ ak_K M q by omega)
        have har : ∀ M1 : ak_M, ak_ar ad M1 q (ak_K M q) = .inr (.inr (.inr (.inr (fun k => (ak_R M1 q k).map ad)))) := by
          intro M1
          unfold ak_ar
          rw [if_neg (by omega), if_neg (by omega), if_neg (by omega)]
        rw [har] at hw
        have ht := ak_tget (dA := dA) (t := ak_K M q - 100) (by omega)
        have hfin : (Sum.inl (dA (ak_K M q - 100), ak_N M q, .inr (.inr (.inr (.inr (va_up (fun k => (ak_R M q k).map ad) i.toNatClampNeg (some (ad z))))))) : va_E) = ak_ce ad dA (ak_sR M q i.toNatClampNeg (some z)) q := by
          rw [arr ak_atR rfl (by omega), har]
          refine congrArg (fun f => (Sum.inl (dA (ak_K M q - 100), ak_N M q, .inr (.inr (.inr (.inr f)))) : va_E)) (funext fun k => ?_)
          show _ = Option.map ad (ak_u M.2.1 q i.toNatClampNeg (some z) q k)
          rw [ak_u_at]
          unfold va_up
          by_cases hk : k = i.toNatClampNeg
          · rw [if_pos hk]; simp only [if_pos hk]; rfl
          · rw [if_neg hk]; simp only [if_neg hk]; rfl
        have hgo : ∀ (ci : Nat) (Cn : String) (N : Nat), ci < 14 → vwCl[ci]? = some (Cn, am_tk ci, N) → ak_K M z = ci → ak_ty (ak_K M q - 100) = .object Cn → W p l e R s m args below meth c H locs cells slots Q (F0 m pc ls (.ref (ad z) :: .int i :: .ref (ad q) :: r.map (ak_v ad))) := by
          intro ci Cn N hci hcl hkz hty
          rw [hty] at ht
          exact va_astq (r := (Cn, am_tk ci, N)) hx hb hK hP hD hSv q (ak_K M q - 100) z ci hw ht (ak_wobj hz hkz hci) hcl (ak_ixv h3) hd (fun H1 locs1 a b c => key H1 locs1 ak_atR hO1 ⟨rfl, rfl, rfl⟩ (fun _ => hfin) hS (ak_o3 hF1) a b c)
        rcases (show ak_K M q = 105 ∨ ak_K M q = 106 ∨ ak_K M q = 107 ∨ ak_K M q = 108 by omega) with h | h | h | h
        · rw [h] at hkz
          exact hgo 5 RX5 16 (by omega) rfl hkz (by rw [h]; rfl)
        · rw [h] at hkz
          exact hgo 10 RX10 3 (by omega) rfl hkz (by rw [h]; rfl)
        · rw [h] at hkz
          exact hgo 1 RX1 6 (by omega) rfl hkz (by rw [h]; rfl)
        · rw [h] at hkz
          exact hgo 2 RX2 11 (by omega) rfl hkz (by rw [h]; rfl)
      · cases hS
    · cases hS
end AKE
end
section
set_option maxRecDepth 100000 in
theorem am_a0 : (Jvm.Cond.arrayClass (newarray.typeOf .int)) ∈ am_w := List.mem_filter.mpr ⟨by decide +kernel, rfl⟩
set_option maxRecDepth 100000 in
theorem am_a1 : (Jvm.Cond.arrayClass (newarray.typeOf .byte)) ∈ am_w := List.mem_filter.mpr ⟨by decide +kernel, rfl⟩
/-! new objects and rows -/
theorem ak_new_ce {ad ad' : Nat → Nat} {dA : Nat → ClassId} {M : ak_M} {kd ln z q : Nat} (hO : ak_okM M) (he : ∀ p, ak_okP M p → ad' p = ad p) (hq : q < ak_P M) : ak_ce ad' dA (ak_new M kd ln z) q = ak_ce ad dA M q := by
  have hne : ¬ q = ak_P M := by omega
  have e1 : ak_K (ak_new M kd ln z) q = ak_K M q := if_neg hne
  have e2 : ak_N (ak_new M kd ln z) q = ak_N M q := if_neg hne
  have e3 : ak_I (ak_new M kd ln z) q = ak_I M q := funext fun j => if_neg hne
  have e4 : ak_R (ak_new M kd ln z) q = ak_R M q := funext fun j => if_neg hne
  have e5 : ak_L (ak_new M kd ln z) q = ak_L M q := funext fun j => if_neg hne
  have e6 : ak_D (ak_new M kd ln z) q = ak_D M q := funext fun j => if_neg hne
  have e7 : ∀ k, (ak_R M q k).map ad' = (ak_R M q k).map ad := by
    intro k
    cases hr : ak_R M q k with
    | none => rfl
    | some y => show some (ad' y) = some (ad y); rw [he y (Or.inl (hO.2.1 q k y hr))]
  unfold ak_ce ak_ar
  rw [e1, e2, e3, e5, e6, e4, show ak_fd ad' (ak_new M kd ln z) q = ak_fd ad M q from funext fun ci => funext fun k => by unfold ak_fd; rw [e3, e4, e7], funext e7]
theorem ak_new_w {ad ad' : Nat → Nat} {dA : Nat → ClassId} {M : ak_M} {kd ln z : Nat} (hO : ak_okM M) (he : ∀ p, ak_okP M p → ad' p = ad p) : ak_w ad' dA (ak_new M kd ln z) = ak_w ad dA M ++ [(ad' (ak_P M), ak_ce ad' dA (ak_new M kd ln z) (ak_P M))] := by
  show (List.range (ak_P M + 1)).map _ = _
  rw [List.range_succ, List.map_append]
  refine congr (congrArg _ (List.map_congr_left fun q hq => ?_)) rfl
  have hq := List.mem_range.mp hq
  rw [ak_new_ce hO he hq, he q (Or.inl hq)]
theorem ak_new_ok {M : ak_M} {kd ln z : Nat} (hO : ak_okM M) (hp : ak_P M < 900000) (hk : kd < 14 ∨ (100 ≤ kd ∧ kd ≤ 109)) : ak_okM (ak_new M kd ln z) := by
  refine ⟨by show ak_P M + 1 ≤ 950000; omega, fun p k q h => ?_, fun p h => ?_⟩
  · by_cases hpp : p = ak_P M
    · have : (if p = ak_P M then none else ak_R M p k) = some q := h
      rw [if_pos hpp] at this; cases this
    · have : (if p = ak_P M then none else ak_R M p k) = some q := h
      rw [if_neg hpp] at this
      have := hO.2.1 p k q this
      show q < ak_P M + 1
      omega
  · show (if p = ak_P M then kd else ak_K M p) < 14 ∨ (100 ≤ (if p = ak_P M then kd else ak_K M p) ∧ (if p = ak_P M then kd else ak_K M p) ≤ 109)
    by_cases hpp : p = ak_P M
    · rw [if_pos hpp]; exact hk
    · rw [if_neg hpp]
      have h : p < ak_P M + 1 := h
      exact hO.2.2 p (by omega)
theorem ak_okV_new {M : ak_M} {kd ln z : Nat} {v : Value} (h : ak_okV M v) : ak_okV (ak_new M kd ln z) v := by
  cases v with
  | ref p =>
    rcases h with h | h
    · exact Or.inl (Nat.lt_succ_of_lt h)
    · exact Or.inr ⟨h.1, Nat.lt_of_lt_of_le h.2 (Nat.add_le_add_left (Nat.le_succ _) _)⟩
  | _ => trivial
/-- the addresses with one more -/
def ak_ad (ad : Nat → Nat) (p q : Nat) : Nat → Nat := fun x => if x = p then q else ad x
theorem ak_ad_at (ad : Nat → Nat) (p q : Nat) : ak_ad ad p q p = q := if_pos rfl
theorem ak_ad_ne {ad : Nat → Nat} {p q x : Nat} (h : x ≠ p) : ak_ad ad p q x = ad x := if_neg h
theorem ak_P_ok {M : ak_M} (hO : ak_okM M) : ¬ ak_okP M (ak_P M) := by
  have := hO.1
  rintro (h | h) <;> omega
section AKN
variable {p : Program} {l : Launch} {e : Env} {R : Room} {s : State} {m : MethodId} {args : Array Value} {below : List Frame} {meth : Method} {c : Code} {Q : State → Prop}
variable {X : ak_X} {D : va_G} {dA : Nat → ClassId} {ac : Nat → Nat} {base : Nat}
variable {mi pc : Nat} {f' : ak_F} {M M' : ak_M} {l1 : List (Option Value)} {l2 : List (Nat × Value)} {st : List Value} {H : Heap} {locs : List Loc} {cells slots : Nat} {ls : Array Slot} {ad : Nat → Nat}
theorem ak_tcls (hK : va_K D vwCl (ak_tys dA) s) {cA : ClassId} {t : Nat} (ht : t < 10) (hK2 : va_K D vwCl (ak_tys dA ++ [(cA, ak_ty t)]) s) : cA = dA t := by
  have h1 := (hK.2 t _ (ak_tget ht)).2
  have h2 := (hK2.2 10 (cA, ak_ty t) (by rw [List.getElem?_append_right (by simp [ak_tys])]; simp [ak_tys])).2
  have key : ∀ ty : FieldType, va_RA s (dA t) ty → va_RA s cA ty → cA = dA t := by
    intro ty a b
    cases ty with
    | object C =>
      obtain ⟨_, _, _, _, _, a4⟩ := a
      obtain ⟨_, _, _, _, _, b4⟩ := b
      exact Option.some.inj (b4.symm.trans a4)
    | _ => exact Option.some.inj (Eq.trans (Eq.symm b) a)
  exact key _ h1 h2
/-- behind the making of a place -/
theorem ak_made {kd ln z : Nat} {r : List Value} {q : Nat} {H1 : Heap} {pc' : Nat} (hbs : base ≤ s.heap.size) (hac : ∀ p, 1000000 ≤ p → p < 3000000 → ad p = ac p) (hO : ak_okM M) (hp : ak_P M < 900000) (hk : kd < 14 ∨ (100 ≤ kd ∧ kd ≤ 109)) (hr : ∀ v ∈ r, ak_okV M v)
    (h1 : va_P D vwCl (ak_w ad dA M ++ [(q, ak_ce (ak_ad ad (ak_P M) q) dA (ak_new M kd ln z) (ak_P M))]) H1) (h2 : va_D (ak_A base) (ak_w ad dA M ++ [(q, ak_ce (ak_ad ad (ak_P M) q) dA (ak_new M kd ln z) (ak_P M))])) (h3 : va_S (ak_A base) s.heap H1 locs)
    (hS : ak_n pc' l1 l2 (.ref (ak_P M) :: r) (ak_new M kd ln z) = some (.inl (f', M')))
    (kk : ∀ ad' st' H' locs', ak_n pc' l1 l2 st' M' = some (.inl (f', M')) → (∀ v ∈ st', ak_okV M' v) → ak_mi D dA ac base s H' locs' ad' M' → (∀ x, ak_okP M x → ad' x = ad x) → ak_C M' = ak_C M + 1 ∧ ak_Z M' = ak_Z M + z ∧ (∀ v, ak_okV M v → ak_okV M' v) → W p l e R s m args below meth c H' locs' (cells + 1) (slots + z) Q (F0 m pc' ls (st'.map (ak_v ad')))) :
    W p l e R s m args below meth c H1 locs (cells + 1) (slots + z) Q (F0 m pc' ls (.ref q :: r.map (ak_v ad))) := by
  obtain ⟨-, rfl⟩ := ak_inj hS
  have he : ∀ x, ak_okP M x → ak_ad ad (ak_P M) q x = ad x := fun x hx => ak_ad_ne (fun h => ak_P_ok hO (h ▸ hx))
  have hw := ak_new_w (dA := dA) (kd := kd) (ln := ln) (z := z) hO he
  rw [ak_ad_at] at hw
  rw [← hw] at h1 h2
  have := kk (ak_ad ad (ak_P M) q) _ H1 locs hS (ak_oc (Or.inl (Nat.lt_succ_self _)) (fun v hv => ak_okV_new (hr v hv))) ⟨hbs, h3, h1, h2, ak_new_ok hO hp hk, fun x h5 h6 => by rw [ak_ad_ne (by omega)]; exact hac x h5 h6⟩ he ⟨rfl, rfl, fun v => ak_okV_new⟩
  rw [List.map_cons, show ak_v (ak_ad ad (ak_P M) q) (.ref (ak_P M)) = .ref q by show Value.ref (ak_ad ad (ak_P M) q (ak_P M)) = _; rw [ak_ad_at], ak_map_ext he hr] at this
  exact this
set_option maxHeartbeats 1000000 in
theorem ak_xnew {idx : Nat} (C : ak_cx p l R s m args meth c mi) (hA : ak_amb X D dA ac (ak_A base) s s.heap) (hd : decode (am_B mi) pc = .ok (.new idx, 3)) (hM : ak_mi D dA ac base s H locs ad M)
    (hS : ak_x X mi (.new idx) pc l1 l2 st M = some (.inl (f', M'))) (hF1 : ∀ v ∈ st, ak_okV M v) (hb1 : cells + ak_C M' ≤ R.cells + ak_C M) (hb2 : slots + ak_Z M' ≤ R.slots + ak_Z M)
    (kk : ∀ pc' ad' st' H' locs' z, ak_n pc' l1 l2 st' M' = some (.inl (f', M')) → (∀ v ∈ st', ak_okV M' v) → ak_mi D dA ac base s H' locs' ad' M' → (∀ x, ak_okP M x → ad' x = ad x) → ak_C M' = ak_C M + 1 ∧ ak_Z M' = ak_Z M + z ∧ (∀ v, ak_okV M v → ak_okV M' v) → W p l e R s m args below meth c H' locs' (cells + 1) (slots + z) Q (F0 m pc' ls (st'.map (ak_v ad')))) :
    W p l e R s m args below meth c H locs cells slots Q (F0 m pc ls (st.map (ak_v ad))) := by
  obtain ⟨hx, hb, hown, hts, -⟩ := C
  obtain ⟨hbs, hSv, hP, hD, hO, hac⟩ := hM
  have hK := hA.1
  have hAf : ∀ q, s.heap.size ≤ q → ak_A base q := fun q h => Nat.le_trans hbs h
  simp only [ak_x] at hS
  split at hS
  · rename_i ci x hf
    obtain ⟨a, b, c9⟩ := x
    have hs := am_Ws hf
    unfold am_kN1 at hs
    split at hS
    · rename_i hp
      dsimp only at hs
      split at hs
      · rename_i r9 hr9
        have hci : ci < 14 := by
          have h9 := (List.getElem?_eq_some_iff.mp hr9).1
          exact h9
        obtain ⟨Cn, N, ty, hcl, hN, hin, hty, hnd⟩ := am_cls ci hci
        cases hr9.symm.trans hcl
        rw [Bool.and_eq_true, Bool.and_eq_true] at hs
        obtain ⟨⟨g1, g2⟩, g3⟩ := hs
        obtain ⟨-, hM'⟩ := ak_inj hS
        have hc9 : cells + 1 ≤ R.cells := by
          have : ak_C M' = ak_C M + 1 := by rw [hM']; rfl
          omega
        have hz9 : slots + N ≤ R.slots := by
          have : ak_Z M' = ak_Z M + am_nf ci := by rw [hM']; rfl
          omega
        have hpf : ∀ k, k < am_nf ci → am_pf ci k = true := by
          intro k hk
          have h1 := List.all_eq_true.mp am_Tk ci (List.mem_range.mpr hci)
          unfold am_kT1 at h1
          rw [Bool.and_eq_true] at h1
          exact List.all_eq_true.mp h1.2 k (List.mem_range.mpr hk)
        refine va_new (D := D) (Ts := am_w) (N := N) (ci := ci) (fs := (List.range (am_nf ci)).map (fun k => if am_f ci k = 2 then Value.null else .int 0)) hx hb hts hin ty hty hown (am_okb hts g1) (am_okb hts g2) (am_okb hts g3) hK hP hD hSv hAf hcl (fun j hj => ?_) hc9 hz9 hd (fun q H1 a1 a2 a3 => ?_)
        · have hj' : j < am_nf ci := by rw [← hN]; exact hj
          have h7 := hpf j hj'
          unfold am_pf at h7
          rw [hty j hj] at h7
          have h8 : vp_V ((List.range (am_nf ci)).map (fun k => if am_f ci k = 2 then Value.null else .int 0)) j = if am_f ci j = 2 then Value.null else .int 0 := by
            unfold vp_V
            rw [List.getD_eq_getElem?_getD, List.getElem?_map, List.getElem?_range hj']
            rfl
          rw [h8]
          revert h7
          cases ty j <;> intro h7 <;> simp at h7 <;> simp [h7, defaultValue]
        · rw [hN]
          have hce : (Sum.inr (ci, (List.range (am_nf ci)).map (fun k => if am_f ci k = 2 then Value.null else .int 0)) : va_E) = ak_ce (ak_ad ad (ak_P M) q) dA (ak_new M ci 0 (am_nf ci)) (ak_P M) := by
            unfold ak_ce
            have e1 : ak_K (ak_new M ci 0 (am_nf ci)) (ak_P M) = ci := if_pos rfl
            rw [e1, if_pos hci]
            refine congrArg (fun f => (Sum.inr (ci, (List.range (am_nf ci)).map f) : va_E)) (funext fun k => ?_)
            unfold ak_fd
            have e2 : ak_R (ak_new M ci 0 (am_nf ci)) (ak_P M) k = none := if_pos rfl
            have e3 : ak_I (ak_new M ci 0 (am_nf ci)) (ak_P M) k = 0 := if_pos rfl
            rw [e2, e3]; rfl
          rw [hce] at a1 a2
          exact ak_made hbs hac hO hp (Or.inl hci) hF1 a1 a2 a3 hS (fun ad' st' H' locs' b1 b2 b3 b4 b5 => kk _ ad' st' H' locs' _ b1 b2 b3 b4 b5)
      · cases hs
    · cases hS
  · split at hS
    · split at hS
      · unfold ak_e at hS; cases hS
      · cases hS
    · cases hS
theorem ak_new_ar {ad' : Nat → Nat} {kd ln z : Nat} (h : 100 ≤ kd) : ak_ce ad' dA (ak_new M kd ln z) (ak_P M) = .inl (dA (kd - 100), ln, ak_ar ad' (ak_new M kd ln z) (ak_P M) kd) := by
  unfold ak_ce
  have e1 : ak_K (ak_new M kd ln z) (ak_P M) = kd := if_pos rfl
  have e2 : ak_N (ak_new M kd ln z) (ak_P M) = ln := if_pos rfl
  rw [e1, e2, if_neg (by omega)]
set_option maxHeartbeats 1000000 in
theorem ak_xnwa {t : ArrayType} (C : ak_cx p l R s m args meth c mi) (hA : ak_amb X D dA ac (ak_A base) s s.heap) (hd : decode (am_B mi) pc = .ok (.newarray t, 2)) (hM : ak_mi D dA ac base s H locs ad M)
    (hS : ak_x X mi (.newarray t) pc l1 l2 st M = some (.inl (f', M'))) (hF1 : ∀ v ∈ st, ak_okV M v) (hb1 : cells + ak_C M' ≤ R.cells + ak_C M) (hb2 : slots + ak_Z M' ≤ R.slots + ak_Z M)
    (kk : ∀ pc' ad' st' H' locs' z, ak_n pc' l1 l2 st' M' = some (.inl (f', M')) → (∀ v ∈ st', ak_okV M' v) → ak_mi D dA ac base s H' locs' ad' M' → (∀ x, ak_okP M x → ad' x = ad x) → ak_C M' = ak_C M + 1 ∧ ak_Z M' = ak_Z M + z ∧ (∀ v, ak_okV M v → ak_okV M' v) → W p l e R s m args below meth c H' locs' (cells + 1) (slots + z) Q (F0 m pc' ls (st'.map (ak_v ad')))) :
    W p l e R s m args below meth c H locs cells slots Q (F0 m pc ls (st.map (ak_v ad))) := by
  obtain ⟨hx, hb, hown, hts, -⟩ := C
  obtain ⟨hbs, hSv, hP, hD, hO, hac⟩ := hM
  have hK := hA.1
  have hAf : ∀ q, s.heap.size ≤ q → ak_A base q := fun q h => Nat.le_trans hbs h
  simp only [ak_x] at hS
  split at hS
  · rename_i n r
    split at hS
    · rename_i h0
      obtain ⟨hp, hn0, hnm⟩ := h0
      have gen : ∀ (kd tt : Nat) (at9 : ArrayType) (a0 : vp_A), kd = 100 + tt → tt < 5 → decode (am_B mi) pc = .ok (.newarray at9, 2) → (Jvm.Cond.arrayClass (newarray.typeOf at9)) ∈ am_w → newarray.typeOf at9 = ak_ty tt → componentBytes (ak_ty tt) ≤ 8 →
          (∀ cA : ClassId, vp_cell cA a0 = arrV cA n.toNatClampNeg (fun _ => defaultValue (ak_ty tt))) → (∀ q, (Sum.inl (dA tt, a0) : va_E) = ak_ce (ak_ad ad (ak_P M) q) dA (ak_new M kd n.toNatClampNeg n.toNatClampNeg) (ak_P M)) →
          ak_n (pc + 2) l1 l2 (.ref (ak_P M) :: r) (ak_new M kd n.toNatClampNeg n.toNatClampNeg) = some (.inl (f', M')) → W p l e R s m args below meth c H locs cells slots Q (F0 m pc ls (.int n :: r.map (ak_v ad))) := by
        intro kd tt at9 a0 hkd htt hd9 hw9 hty hcb ha0 hce hS9
        obtain ⟨-, hM'⟩ := ak_inj hS9
        have hc9 : cells + 1 ≤ R.cells := by
          have : ak_C M' = ak_C M + 1 := by rw [hM']; rfl
          omega
        have hz9 : slots + n.toNatClampNeg ≤ R.slots := by
          have : ak_Z M' = ak_Z M + n.toNatClampNeg := by rw [hM']; rfl
          omega
        have hbytes : n.toNatClampNeg * componentBytes (ak_ty tt) ≤ 536870912 := by
          have := Nat.mul_le_mul hnm hcb
          omega
        refine va_newa (D := D) (a0 := a0) hx hb (hts _ hw9) hty hK hP hD hSv hAf ha0 hn0 rfl hbytes hc9 hz9 hd9 (fun q cA H1 hK2 a1 a2 a3 => ?_)
        have hcA := ak_tcls hK (show tt < 10 by omega) hK2
        subst hcA
        rw [hce q] at a1 a2
        exact ak_made hbs hac hO hp (Or.inr (by omega)) (ak_o1 hF1) a1 a2 a3 hS9 (fun ad' st' H' locs' b1 b2 b3 b4 b5 => kk _ ad' st' H' locs' _ b1 b2 b3 b4 b5)
      cases t with
      | int =>
        refine gen 100 0 .int (n.toNatClampNeg, .inl (fun _ => 0)) rfl (by omega) hd am_a0 rfl (by decide) (fun cA => rfl) (fun q => ?_) hS
        rw [ak_new_ar (by omega)]
        have e3 : ak_I (ak_new M 100 n.toNatClampNeg n.toNatClampNeg) (ak_P M) = fun _ => 0 := funext fun j => if_pos rfl
        show _ = Sum.inl (dA 0, n.toNatClampNeg, Sum.inl (ak_I _ _))
        rw [e3]
      | byte =>
        refine gen 101 1 .byte (n.toNatClampNeg, .inl (fun _ => 0)) rfl (by omega) hd am_a1 rfl (by decide) (fun cA => rfl) (fun q => ?_) hS
        rw [ak_new_ar (by omega)]
        have e3 : ak_I (ak_new M 101 n.toNatClampNeg n.toNatClampNeg) (ak_P M) = fun _ => 0 := funext fun j => if_pos rfl
        show _ = Sum.inl (dA 1, n.toNatClampNeg, Sum.inl (ak_I _ _))
        rw [e3]
      | _ => cases hS
    · cases hS
  · cases hS
set_option maxHeartbeats 1000000 in
theorem ak_xana {idx : Nat} (C : ak_cx p l R s m args meth c mi) (hA : ak_amb X D dA ac (ak_A base) s s.heap) (hd : decode (am_B mi) pc = .ok (.anewarray idx, 3)) (hM : ak_mi D dA ac base s H locs ad M)
    (hS : ak_x X mi (.anewarray idx) pc l1 l2 st M = some (.inl (f', M'))) (hF1 : ∀ v ∈ st, ak_okV M v) (hb1 : cells + ak_C M' ≤ R.cells + ak_C M) (hb2 : slots + ak_Z M' ≤ R.slots + ak_Z M)
    (kk : ∀ pc' ad' st' H' locs' z, ak_n pc' l1 l2 st' M' = some (.inl (f', M')) → (∀ v ∈ st', ak_okV M' v) → ak_mi D dA ac base s H' locs' ad' M' → (∀ x, ak_okP M x → ad' x = ad x) → ak_C M' = ak_C M + 1 ∧ ak_Z M' = ak_Z M + z ∧ (∀ v, ak_okV M v → ak_okV M' v) → W p l e R s m args below meth c H' locs' (cells + 1) (slots + z) Q (F0 m pc' ls (st'.map (ak_v ad')))) :
    W p l e R s m args below meth c H locs cells slots Q (F0 m pc ls (st.map (ak_v ad))) := by
  obtain ⟨hx, hb, hown, hts, -⟩ := C
  obtain ⟨hbs, hSv, hP, hD, hO, hac⟩ := hM
  have hK := hA.1
  have hAf : ∀ q, s.heap.size ≤ q → ak_A base q := fun q h => Nat.le_trans hbs h
  simp only [ak_x] at hS
  split at hS
  · rename_i n r
    split at hS
    · rename_i t x hf
      have hs := am_Vs hf
      unfold am_kV1 at hs
      split at hS
      · rename_i h0
        obtain ⟨hp, hn0, hnm⟩ := h0
        rw [Bool.and_eq_true, Bool.and_eq_true] at hs
        obtain ⟨⟨g1, g2⟩, g3⟩ := hs
        have g1 : 5 ≤ t := Nat.le_of_ble_eq_true g1
        have g2 : t ≤ 8 := Nat.le_of_ble_eq_true g2
        obtain ⟨-, hM'⟩ := ak_inj hS
        have hc9 : cells + 1 ≤ R.cells := by
          have : ak_C M' = ak_C M + 1 := by rw [hM']; rfl
          omega
        have hz9 : slots + n.toNatClampNeg ≤ R.slots := by
          have : ak_Z M' = ak_Z M + n.toNatClampNeg := by rw [hM']; rfl
          omega
        refine va_newq (D := D) (C := am_ac t) hx hb hown (am_okb hts g3) (hA.2.2.2.2.2.2.2.2.2.2.1 t g1 g2) hK hP hD hSv hAf hn0 rfl (by omega) hc9 hz9 hd (fun q cA H1 hK2 a1 a2 a3 => ?_)
        have hty : ak_ty t = .object (am_ac t) := by
          rcases (show t = 5 ∨ t = 6 ∨ t = 7 ∨ t = 8 by omega) with rfl | rfl | rfl | rfl <;> rfl
        have hcA := ak_tcls hK (show t < 10 by omega) (by rw [hty]; exact hK2)
        subst hcA
        have hce : (Sum.inl (dA t, n.toNatClampNeg, .inr (.inr (.inr (.inr (fun _ => none))))) : va_E) = ak_ce (ak_ad ad (ak_P M) q) dA (ak_new M (100 + t) n.toNatClampNeg n.toNatClampNeg) (ak_P M) := by
          rw [ak_new_ar (by omega), show 100 + t - 100 = t by omega]
          unfold ak_ar
          rw [if_neg (by omega), if_neg (by omega), if_neg (by omega)]
          have e2 : ∀ k, ak_R (ak_new M (100 + t) n.toNatClampNeg n.toNatClampNeg) (ak_P M) k = none := fun k => if_pos rfl
          simp only [e2]
          rfl
        rw [hce] at a1 a2
        exact ak_made hbs hac hO hp (Or.inr (by omega)) (ak_o1 hF1) a1 a2 a3 hS (fun ad' st' H' locs' b1 b2 b3 b4 b5 => kk _ ad' st' H' locs' _ b1 b2 b3 b4 b5)
      · cases hS
    · cases hS
  · cases hS
end AKN
end
section
/-! new byte[n][k] -/
theorem ak_mna_ok {M : ak_M} {n k : Nat} (hO : ak_okM M) (hp : ak_P M < 900000) (hn : n ≤ 1000) : ak_okM (ak_mna M n k) := by
  refine ⟨by show ak_P M + 1 + n ≤ 950000; omega, fun p j q h => ?_, fun p h => ?_⟩
  · have h : (if p = ak_P M then (if j < n then some (ak_P M + 1 + j) else none) else if ak_P M ≤ p ∧ p ≤ ak_P M + n then none else ak_R M p j) = some q := h
    show q < ak_P M + 1 + n
    split at h
    · split at h
      · cases h; omega
      · cases h
    · split at h
      · cases h
      · have := hO.2.1 p j q h
        omega
  · have h : p < ak_P M + 1 + n := h
    show (if p = ak_P M then 109 else if ak_P M ≤ p ∧ p ≤ ak_P M + n then 101 else ak_K M p) < 14 ∨ _ ≤ (if p = ak_P M then 109 else if ak_P M ≤ p ∧ p ≤ ak_P M + n then 101 else ak_K M p) ∧ (if p = ak_P M then 109 else if ak_P M ≤ p ∧ p ≤ ak_P M + n then 101 else ak_K M p) ≤ _
    split
    · exact Or.inr (by omega)
    · split
      · exact Or.inr (by omega)
      · exact hO.2.2 p (by omega)
theorem ak_okV_mna {M : ak_M} {n k : Nat} {v : Value} (h : ak_okV M v) : ak_okV (ak_mna M n k) v := by
  cases v with
  | ref p =>
    rcases h with h | h
    · exact Or.inl (Nat.lt_of_lt_of_le h (by show ak_P M ≤ ak_P M + 1 + n; omega))
    · exact Or.inr ⟨h.1, Nat.lt_of_lt_of_le h.2 (by show 3000000 + ak_C M ≤ 3000000 + (ak_C M + 1 + n); omega)⟩
  | _ => trivial
def ak_adm (ad : Nat → Nat) (p n q : Nat) (r : Nat → Nat) : Nat → Nat := fun x => if x = p then q else if p < x ∧ x ≤ p + n then r (x - p - 1) else ad x
theorem ak_mna_ce {ad ad' : Nat → Nat} {dA : Nat → ClassId} {M : ak_M} {n k q : Nat} (hO : ak_okM M) (he : ∀ p, ak_okP M p → ad' p = ad p) (hq : q < ak_P M) : ak_ce ad' dA (ak_mna M n k) q = ak_ce ad dA M q := by
  have h1 : ¬ q = ak_P M := by omega
  have h2 : ¬ (ak_P M ≤ q ∧ q ≤ ak_P M + n) := by omega
  have e1 : ak_K (ak_mna M n k) q = ak_K M q := (if_neg h1).trans (if_neg h2)
  have e2 : ak_N (ak_mna M n k) q = ak_N M q := (if_neg h1).trans (if_neg h2)
  have e3 : ak_I (ak_mna M n k) q = ak_I M q := funext fun j => if_neg h2
  have e4 : ak_R (ak_mna M n k) q = ak_R M q := funext fun j => (if_neg h1).trans (if_neg h2)
  have e5 : ak_L (ak_mna M n k) q = ak_L M q := funext fun j => if_neg h2
  have e6 : ak_D (ak_mna M n k) q = ak_D M q := funext fun j => if_neg h2
  have e7 : ∀ k, (ak_R M q k).map ad' = (ak_R M q k).map ad := by
    intro k
    cases hr : ak_R M q k with
    | none => rfl
    | some y => show some (ad' y) = some (ad y); rw [he y (Or.inl (hO.2.1 q k y hr))]
  unfold ak_ce ak_ar
  rw [e1, e2, e3, e5, e6, e4, show ak_fd ad' (ak_mna M n k) q = ak_fd ad M q from funext fun ci => funext fun k => by unfold ak_fd; rw [e3, e4, e7], funext e7]
theorem ak_mna_w {ad : Nat → Nat} {dA : Nat → ClassId} {M : ak_M} {n k q : Nat} {r : Nat → Nat} (hO : ak_okM M) : ak_w (ak_adm ad (ak_P M) n q r) dA (ak_mna M n k) =
    (ak_w ad dA M ++ [(q, .inl (dA 9, n, .inr (.inr (.inr (.inr (fun i => if i < n then some (r i) else none))))))]) ++ (List.range n).map (fun i => (r i, .inl (dA 1, k, .inl (fun _ => 0)))) := by
  have hP9 := hO.1
  have he : ∀ x, ak_okP M x → ak_adm ad (ak_P M) n q r x = ad x ∨ n > 40000 := by
    intro x hx
    by_cases hn : n > 40000
    · exact Or.inr hn
    · refine Or.inl ?_
      unfold ak_adm
      rcases hx with hx | hx
      · rw [if_neg (by omega), if_neg (by omega)]
      · rw [if_neg (by omega), if_neg (by omega)]
  show (List.range (ak_P M + 1 + n)).map _ = _
  rw [List.range_add, List.map_append, List.range_succ, List.map_append, List.map_map]
  refine congr (congrArg _ (congr (congrArg _ (List.map_congr_left fun x hx => ?_)) ?_)) (List.map_congr_left fun x hx => ?_)
  · have hx := List.mem_range.mp hx
    have e0 : ak_adm ad (ak_P M) n q r x = ad x := by unfold ak_adm; rw [if_neg (by omega), if_neg (by omega)]
    have h1 : ¬ x = ak_P M := by omega
    have h2 : ¬ (ak_P M ≤ x ∧ x ≤ ak_P M + n) := by omega
    have e7 : ∀ k, (ak_R M x k).map (ak_adm ad (ak_P M) n q r) = (ak_R M x k).map ad := by
      intro k
      cases hr : ak_R M x k with
      | none => rfl
      | some y =>
        have hy := hO.2.1 x k y hr
        show some (ak_adm ad (ak_P M) n q r y) = some (ad y)
        unfold ak_adm; rw [if_neg (by omega), if_neg (by omega)]
    have e1 : ak_K (ak_mna M n k) x = ak_K M x := (if_neg h1).trans (if_neg h2)
    have e2 : ak_N (ak_mna M n k) x = ak_N M x := (if_neg h1).trans (if_neg h2)
    have e3 : ak_I (ak_mna M n k) x = ak_I M x := funext fun j => if_neg h2
    have e4 : ak_R (ak_mna M n k) x = ak_R M x := funext fun j => (if_neg h1).trans (if_neg h2)
    have e5 : ak_L (ak_mna M n k) x = ak_L M x := funext fun j => if_neg h2
    have e6 : ak_D (ak_mna M n k) x = ak_D M x := funext fun j => if_neg h2
    rw [e0]
    refine congrArg (fun z => (ad x, z)) ?_
    unfold ak_ce ak_ar
    rw [e1, e2, e3, e5, e6, e4, show ak_fd (ak_adm ad (ak_P M) n q r) (ak_mna M n k) x = ak_fd ad M x from funext fun ci => funext fun k => by unfold ak_fd; rw [e3, e4, e7], funext e7]
  · have e0 : ak_adm ad (ak_P M) n q r (ak_P M) = q := if_pos rfl
    have e1 : ak_K (ak_mna M n k) (ak_P M) = 109 := if_pos rfl
    have e2 : ak_N (ak_mna M n k) (ak_P M) = n := if_pos rfl
    have e4 : ∀ j, ak_R (ak_mna M n k) (ak_P M) j = if j < n then some (ak_P M + 1 + j) else none := fun j => if_pos rfl
    have e5 : ∀ j, (ak_R (ak_mna M n k) (ak_P M) j).map (ak_adm ad (ak_P M) n q r) = if j < n then some (r j) else none := by
      intro j
      rw [e4]
      by_cases hj : j < n
      · rw [if_pos hj, if_pos hj]
        show some (ak_adm ad (ak_P M) n q r (ak_P M + 1 + j)) = _
        unfold ak_adm
        rw [if_neg (by omega), if_pos (by omega), show ak_P M + 1 + j - ak_P M - 1 = j by omega]
      · rw [if_neg hj, if_neg hj]; rfl
    show [(ak_adm ad (ak_P M) n q r (ak_P M), ak_ce (ak_adm ad (ak_P M) n q r) dA (ak_mna M n k) (ak_P M))] = _
    rw [e0]
    unfold ak_ce ak_ar
    rw [e1, e2, funext e5]
    rfl
  · have hx := List.mem_range.mp hx
    have e0 : ak_adm ad (ak_P M) n q r (ak_P M + 1 + x) = r x := by unfold ak_adm; rw [if_neg (by omega), if_pos (by omega), show ak_P M + 1 + x - ak_P M - 1 = x by omega]
    have h1 : ¬ ak_P M + 1 + x = ak_P M := by omega
    have h2 : ak_P M ≤ ak_P M + 1 + x ∧ ak_P M + 1 + x ≤ ak_P M + n := by omega
    have e1 : ak_K (ak_mna M n k) (ak_P M + 1 + x) = 101 := (if_neg h1).trans (if_pos h2)
    have e2 : ak_N (ak_mna M n k) (ak_P M + 1 + x) = k := (if_neg h1).trans (if_pos h2)
    have e3 : ak_I (ak_mna M n k) (ak_P M + 1 + x) = fun _ => 0 := funext fun j => if_pos h2
    show (ak_adm ad (ak_P M) n q r (ak_P M + 1 + x), ak_ce (ak_adm ad (ak_P M) n q r) dA (ak_mna M n k) (ak_P M + 1 + x)) = _
    rw [e0]
    unfold ak_ce ak_ar
    rw [e1, e2, e3]
    rfl
section AKM
variable {p : Program} {l : Launch} {e : Env} {R : Room} {s : State} {m : MethodId} {args : Array Value} {below : List Frame} {meth : Method} {c : Code} {Q : State → Prop}
variable {X : ak_X} {D : va_G} {dA : Nat → ClassId} {ac : Nat → Nat} {base : Nat}
variable {mi pc : Nat} {f' : ak_F} {M M' : ak_M} {l1 : List (Option Value)} {l2 : List (Nat × Value)} {st : List Value} {H : Heap} {locs : List Loc} {cells slots : Nat} {ls : Array Slot} {ad : Nat → Nat}
set_option maxRecDepth 100000 in
theorem am_mw : Jvm.Cond.classLink "KiteQuarrel$Names" 9 "[[B" ∈ am_w := List.mem_filter.mpr ⟨by decide +kernel, rfl⟩
set_option maxHeartbeats 1000000 in
theorem ak_xmna {idx dim : Nat} (C : ak_cx p l R s m args meth c mi) (hA : ak_amb X D dA ac (ak_A base) s s.heap) (hd : decode (am_B mi) pc = .ok (.multianewarray idx dim, 4)) (hM : ak_mi D dA ac base s H locs ad M)
    (hS : ak_x X mi (.multianewarray idx dim) pc l1 l2 st M = some (.inl (f', M'))) (hF1 : ∀ v ∈ st, ak_okV M v) (hb1 : cells + ak_C M' ≤ R.cells + ak_C M) (hb2 : slots + ak_Z M' ≤ R.slots + ak_Z M)
    (kk : ∀ pc' ad' st' H' locs' y z, ak_n pc' l1 l2 st' M' = some (.inl (f', M')) → (∀ v ∈ st', ak_okV M' v) → ak_mi D dA ac base s H' locs' ad' M' → (∀ x, ak_okP M x → ad' x = ad x) → ak_C M' = ak_C M + y ∧ ak_Z M' = ak_Z M + z ∧ (∀ v, ak_okV M v → ak_okV M' v) → W p l e R s m args below meth c H' locs' (cells + y) (slots + z) Q (F0 m pc' ls (st'.map (ak_v ad')))) :
    W p l e R s m args below meth c H locs cells slots Q (F0 m pc ls (st.map (ak_v ad))) := by
  obtain ⟨hx, hb, hown, hts, -⟩ := C
  obtain ⟨hbs, hSv, hP, hD, hO, hac⟩ := hM
  have hK := hA.1
  have hAf : ∀ q, s.heap.size ≤ q → ak_A base q := fun q h => Nat.le_trans hbs h
  simp only [ak_x] at hS
  split at hS
  · rename_i k n r
    split at hS
    · rename_i h0
      obtain ⟨ho, rfl, rfl, hp, hn0, hk0, hn9, hk9⟩ := h0
      obtain ⟨-, hM'⟩ := ak_inj hS
      generalize hN : n.toNatClampNeg = n' at *
      generalize hKk : k.toNatClampNeg = k' at *
      have hc9 : cells + (1 + n') ≤ R.cells := by
        have : ak_C M' = ak_C M + 1 + n' := by rw [hM']; rfl
        omega
      have hz9 : slots + (n' + n' * k') ≤ R.slots := by
        have : ak_Z M' = ak_Z M + n' + n' * k' := by rw [hM']; rfl
        omega
      rw [ho] at hown
      have hcy : s.vm.findClass (FieldType.array .byte).toString = some (dA 1) := (hK.2 1 _ (ak_tget (by omega))).2
      have hP0 : va_P D vwCl (ak_w ad dA M ++ va_pl [] (fun _ => .inl (0, 0, .inl (fun _ => 0)))) H := by show va_P D vwCl (ak_w ad dA M ++ []) H; rw [List.append_nil]; exact hP
      have hD0 : va_D (ak_A base) (ak_w ad dA M ++ va_pl [] (fun _ => .inl (0, 0, .inl (fun _ => 0)))) := by show va_D _ (ak_w ad dA M ++ []); rw [List.append_nil]; exact hD
      refine va_mna (X := ak_w ad dA M) (L := []) (f := fun _ => .inl (0, 0, .inl (fun _ => 0))) (ty := .byte) (cy := dA 1) (z := (k', .inl (fun _ => 0))) (own := "KiteQuarrel$Names") hx hb hown (hts _ am_mw) hA.2.2.2.2.2.2.2.2.2.2.2.1 (hts _ am_a1) hcy hK hP0 hD0 hSv hAf hn0 hk0 hN hKk (by omega) (by show k' * 1 ≤ _; omega) (by omega) rfl rfl hc9 hz9 (fun cc => ?_) hd (fun q r9 cA H1 hinj _ hK2 a1 a2 a3 => ?_)
      · unfold Jvm.Free.Multi.innerC
        show _ = arrV cc k' (fun _ => Value.int 0)
        rw [← arrV_new]
        rfl
      · have hcA := ak_tcls hK (show 9 < 10 by omega) hK2
        subst hcA
        have hl : va_pl ([] ++ (List.range n').map r9) (vr_up (fun _ => (.inl (0, 0, .inl (fun _ => 0)) : va_E)) ((List.range n').map r9) (.inl (dA 1, k', .inl (fun _ => 0)))) = (List.range n').map (fun i => (r9 i, (.inl (dA 1, k', .inl (fun _ => 0)) : va_E))) := by
          unfold va_pl
          rw [List.nil_append, List.map_map]
          refine List.map_congr_left fun i hi => ?_
          show (r9 i, vr_up _ _ _ (r9 i)) = _
          rw [vr_up_in (List.mem_map.mpr ⟨i, hi, rfl⟩)]
        rw [hl, ← ak_mna_w hO] at a1 a2
        have he : ∀ x, ak_okP M x → ak_adm ad (ak_P M) n' q r9 x = ad x := by
          intro x hx9
          have hP9 := hO.1
          unfold ak_adm
          rcases hx9 with h | h
          · rw [if_neg (by omega), if_neg (by omega)]
          · rw [if_neg (by omega), if_neg (by omega)]
        subst hM'
        have := kk (pc + 4) (ak_adm ad (ak_P M) n' q r9) _ H1 locs (1 + n') (n' + n' * k') hS (ak_oc (Or.inl (by show ak_P M < ak_P M + 1 + n'; omega)) (fun v hv => ak_okV_mna (ak_o2 hF1 v hv))) ⟨hbs, a3, a1, a2, ak_mna_ok hO hp hn9, fun x h5 h6 => by
          unfold ak_adm
          rw [if_neg (by omega), if_neg (by omega)]
          exact hac x h5 h6⟩ he ⟨by show ak_C M + 1 + n' = _; omega, by show ak_Z M + n' + n' * k' = _; omega, fun v => ak_okV_mna⟩
        rw [List.map_cons, show ak_v (ak_adm ad (ak_P M) n' q r9) (.ref (ak_P M)) = .ref q by show Value.ref (ak_adm ad (ak_P M) n' q r9 (ak_P M)) = _; unfold ak_adm; rw [if_pos rfl], ak_map_ext he (ak_o2 hF1)] at this
        rw [show cells + 1 + n' = cells + (1 + n') by omega, show slots + n' + n' * k' = slots + (n' + n' * k') by omega]
        exact this
    · cases hS
  · cases hS
end AKM
end
section
/-! System.arraycopy and clone of rows of bytes -/
set_option maxRecDepth 100000 in
theorem am_Kn : (List.range 365).all (fun k => Nat.ble 1 (am_K k) && Nat.ble 60 (am_Q k)) = true := by decide +kernel
theorem am_Kn1 {k : Nat} (h : k < 365) : 1 ≤ am_K k ∧ 60 ≤ am_Q k := by
  have := List.all_eq_true.mp am_Kn k (List.mem_range.mpr h)
  rw [Bool.and_eq_true] at this
  exact ⟨Nat.le_of_ble_eq_true this.1, Nat.le_of_ble_eq_true this.2⟩
theorem am_inb {s : State} {args : Array Value} (hts : ∀ w ∈ am_w, w.before args s = true) {w : Jvm.Cond} (h : am_in w = true) : w.before args s = true := by
  unfold am_in at h
  rw [Bool.and_eq_true] at h
  exact hts _ (List.mem_filter.mpr ⟨of_decide_eq_true h.1, h.2⟩)
theorem ak_isB_fit {x : Int32} (h : ak_isB x = true) : fits .byte (.int x) = true := by
  have hz : x.toInt8.toInt32 = x := of_decide_eq_true h
  rw [← hz]; exact pk_fb x
theorem ak_cpy_at {M : ak_M} {f : Nat → Int32} {a sp dp n : Nat} : ak_at M (ak_cpy M f a sp dp n) a :=
  ⟨rfl, rfl, rfl, fun q hq => ⟨funext fun j => if_neg (fun e => hq e.1), rfl, rfl, rfl⟩⟩
theorem ak_cln_at {M : ak_M} {f : Nat → Int32} {n : Nat} : ak_at (ak_new M 101 n n) (ak_cln M f n) (ak_P M) :=
  ⟨rfl, rfl, rfl, fun q hq => ⟨funext fun j => if_neg hq, rfl, rfl, rfl⟩⟩
section AKV
variable {p : Program} {l : Launch} {e : Env} {R : Room} {s : State} {m : MethodId} {args : Array Value} {below : List Frame} {meth : Method} {c : Code} {Q : State → Prop}
variable {X : ak_X} {D : va_G} {dA : Nat → ClassId} {ac : Nat → Nat} {base : Nat}
variable {mi pc : Nat} {f' : ak_F} {M M' : ak_M} {l1 : List (Option Value)} {l2 : List (Nat × Value)} {st : List Value} {H : Heap} {locs : List Loc} {cells slots : Nat} {ls : Array Slot} {ad : Nat → Nat}
theorem ak_catm2 {l : List Value} : ((l.map (ak_v ad)).map fun v => v.category).sum = ak_cat l := by
  unfold ak_cat
  rw [List.map_map]
  exact congrArg List.sum (List.map_congr_left fun v _ => ak_v_cat ad v)
set_option maxHeartbeats 1000000 in
theorem ak_xcpy {idx cal : Nat} {w : Nat × Nat × Nat × Nat} (C : ak_cx p l R s m args meth c mi) (hA : ak_amb X D dA ac (ak_A base) s s.heap) (hL : am_L mi idx = some (cal, 9, w)) (hd : decode (am_B mi) pc = .ok (.invokestatic idx, 3)) (hM : ak_mi D dA ac base s H locs ad M) (hlz : ls.size = am_X mi)
    {n dp sp : Int32} {a b : Nat} {rest : List Value} (hcat : ak_cat rest ≤ 8) (ha : a < ak_P M) (hka : ak_K M a = 101) (hkb : ak_isb M b = true) (h1 : ¬ sp < 0) (h2 : ¬ dp < 0) (h3 : ¬ n < 0) (h4 : sp.toNatClampNeg + n.toNatClampNeg ≤ ak_bn X M b) (h5 : dp.toNatClampNeg + n.toNatClampNeg ≤ ak_N M a)
    (hfit : (List.range n.toNatClampNeg).all (fun i => ak_isB (ak_by X M b (sp.toNatClampNeg + i))) = true)
    (kk : ∀ H' locs', ak_mi D dA ac base s H' locs' ad (ak_cpy M (ak_by X M b) a sp.toNatClampNeg dp.toNatClampNeg n.toNatClampNeg) → W p l e R s m args below meth c H' locs' cells slots Q (F0 m (pc + 3) ls (rest.map (ak_v ad)))) :
    W p l e R s m args below meth c H locs cells slots Q (F0 m pc ls ((Value.int n :: .int dp :: .ref a :: .int sp :: .ref b :: rest).map (ak_v ad))) := by
  obtain ⟨hx, hb, hown, hts, hml, -, -, -, -, -, hfr, hlo, hmi⟩ := C
  obtain ⟨hbs, hSv, hP, hD, hO, hac⟩ := hM
  have hK := hA.1
  have hKn := am_Kn1 hmi
  obtain ⟨iL, iA, iB, iC⟩ := w
  have hs := am_Ls hmi hL
  unfold am_kK1 at hs
  simp only [Bool.and_eq_true] at hs
  obtain ⟨-, ⟨⟨g1, g2⟩, g3⟩, g4⟩ := hs
  have hfit' : ∀ i : Nat, i < n.toNatClampNeg → fits .byte (.int (ak_by X M b (sp.toNatClampNeg + i))) = true := fun i hi => ak_isB_fit (List.all_eq_true.mp hfit i (List.mem_range.mpr hi))
  have hwa := ak_warr (ad := ad) (dA := dA) ha hka (by omega)
  have hlw : (((rest.map (ak_v ad)).map fun v => v.category).sum) + (nativeFrameWords "java/lang/System" "arraycopy" 5 + 11) ≤ R.locals := by
    rw [ak_catm2]
    have : nativeFrameWords "java/lang/System" "arraycopy" 5 + 11 ≤ 40 := by decide +kernel
    omega
  have key : ∀ (H1 : Heap) (locs1 : List Loc), va_P D vwCl ((ak_w ad dA M).set a (ad a, .inl (dA 1, ak_N M a, .inl (va_cpy (ak_by X M b) (ak_I M a) sp.toNatClampNeg dp.toNatClampNeg n.toNatClampNeg)))) H1 → va_D (ak_A base) ((ak_w ad dA M).set a (ad a, .inl (dA 1, ak_N M a, .inl (va_cpy (ak_by X M b) (ak_I M a) sp.toNatClampNeg dp.toNatClampNeg n.toNatClampNeg)))) → va_S (ak_A base) s.heap H1 locs1 →
      W p l e R s m args below meth c H1 locs1 cells slots Q (F0 m (pc + 3) ls (rest.map (ak_v ad))) := by
    intro H1 locs1 a1 a2 a3
    have hx9 : a < ak_P M → (Sum.inl (dA 1, ak_N M a, .inl (va_cpy (ak_by X M b) (ak_I M a) sp.toNatClampNeg dp.toNatClampNeg n.toNatClampNeg)) : va_E) = ak_ce ad dA (ak_cpy M (ak_by X M b) a sp.toNatClampNeg dp.toNatClampNeg n.toNatClampNeg) a := by
      intro _
      unfold ak_ce ak_ar
      have e1 : ak_K (ak_cpy M (ak_by X M b) a sp.toNatClampNeg dp.toNatClampNeg n.toNatClampNeg) a = 101 := hka
      rw [e1, if_neg (by omega), if_pos (by omega)]
      have e3 : ak_I (ak_cpy M (ak_by X M b) a sp.toNatClampNeg dp.toNatClampNeg n.toNatClampNeg) a = va_cpy (ak_by X M b) (ak_I M a) sp.toNatClampNeg dp.toNatClampNeg n.toNatClampNeg := by
        funext j
        show (if a = a ∧ dp.toNatClampNeg ≤ j ∧ j < dp.toNatClampNeg + n.toNatClampNeg then _ else ak_I M a j) = _
        unfold va_cpy
        by_cases hj : dp.toNatClampNeg ≤ j ∧ j < dp.toNatClampNeg + n.toNatClampNeg
        · rw [if_pos ⟨rfl, hj⟩, if_pos hj]
        · rw [if_neg (fun h => hj h.2), if_neg hj]
      rw [e3]
      rfl
    rw [ak_at_w ak_cpy_at hx9] at a1 a2
    exact kk H1 locs1 ⟨hbs, a3, a1, a2, hO, hac⟩
  show W p l e R s m args below meth c H locs cells slots Q (F0 m pc ls (.int n :: .int dp :: .ref (ad a) :: .int sp :: .ref (ad b) :: rest.map (ak_v ad)))
  by_cases hbP : b < ak_P M
  · have hkb' : ak_K M b = 101 := by
      unfold ak_isb at hkb
      rw [if_pos hbP] at hkb
      exact of_decide_eq_true hkb
    have eby : ak_by X M b = ak_I M b := funext fun k => if_pos hbP
    have ebn : ak_bn X M b = ak_N M b := if_pos hbP
    rw [eby] at key hfit'
    rw [ebn] at h4
    exact va_copyi (own := am_cn (am_O mi)) (ty := .byte) hx hb (by rw [hml, hlz]) hown (am_okb hts g1) (am_okb hts g2) (am_okb hts g3) (am_okb hts g4) hK hP hD hSv b a 1 1 (ak_warr hbP hkb' (by omega)) hwa (ak_tget (by omega)) (ak_tget (by omega)) rfl h1 h2 h3 h4 h5 hfit' (by omega) hlw hd key
  · have hkb' : 1002000 ≤ b ∧ b < 1002025 := by
      unfold ak_isb at hkb
      rw [if_neg hbP] at hkb
      exact of_decide_eq_true hkb
    have eby : ak_by X M b = ak_cI X b := funext fun k => if_neg hbP
    have ebn : ak_bn X M b = ak_cN X b := if_neg hbP
    rw [eby] at key hfit'
    rw [ebn] at h4
    have hc : ak_cK b = 101 := by
      unfold ak_cK
      rw [if_neg (by omega), if_neg (by omega), if_neg (by omega), if_pos hkb']
    obtain ⟨-, h9⟩ := ak_cT101 hA (by omega) hc
    rw [hac b (by omega) (by omega)]
    exact vk_copyt (own := am_cn (am_O mi)) hx hb (by rw [hml, hlz]) hown (am_okb hts g1) (am_okb hts g2) (am_okb hts g3) (am_okb hts g4) hK hP hD hSv h9 a 1 hwa (ak_tget (by omega)) h1 h2 h3 h4 h5 hfit' (by omega) hlw hd key
set_option maxRecDepth 100000 in
theorem am_clc : Jvm.Cond.castable "[B" "java/lang/Cloneable" ∈ ax_tbl := by decide +kernel
set_option maxHeartbeats 1000000 in
theorem ak_xcln {idx cal : Nat} {w : Nat × Nat × Nat × Nat} (C : ak_cx p l R s m args meth c mi) (hA : ak_amb X D dA ac (ak_A base) s s.heap) (hL : am_L mi idx = some (cal, 10, w)) (hd : decode (am_B mi) pc = .ok (.invokevirtual idx, 3)) (hM : ak_mi D dA ac base s H locs ad M) (hlz : ls.size = am_X mi)
    {a : Nat} {rest : List Value} (hcat : ak_cat rest ≤ 8) (ha : a < ak_P M) (hka : ak_K M a = 101) (hp : ak_P M < 900000)
    (hfit : (List.range (ak_N M a)).all (fun i => ak_isB (ak_I M a i)) = true) (hF1 : ∀ v ∈ rest, ak_okV M v)
    (hb1 : cells + 1 ≤ R.cells) (hb2 : slots + ak_N M a ≤ R.slots)
    (kk : ∀ ad' H' locs', (∀ v ∈ Value.ref (ak_P M) :: rest, ak_okV (ak_cln M (ak_I M a) (ak_N M a)) v) → ak_mi D dA ac base s H' locs' ad' (ak_cln M (ak_I M a) (ak_N M a)) → (∀ x, ak_okP M x → ad' x = ad x) → (∀ v, ak_okV M v → ak_okV (ak_cln M (ak_I M a) (ak_N M a)) v) →
      W p l e R s m args below meth c H' locs' (cells + 1) (slots + ak_N M a) Q (F0 m (pc + 3) ls ((Value.ref (ak_P M) :: rest).map (ak_v ad')))) :
    W p l e R s m args below meth c H locs cells slots Q (F0 m pc ls ((Value.ref a :: rest).map (ak_v ad))) := by
  obtain ⟨hx, hb, hown, hts, hml, -, -, -, -, -, hfr, hlo, hmi⟩ := C
  obtain ⟨hbs, hSv, hP, hD, hO, hac⟩ := hM
  have hK := hA.1
  have hAf : ∀ q, s.heap.size ≤ q → ak_A base q := fun q h => Nat.le_trans hbs h
  have hKn := am_Kn1 hmi
  obtain ⟨iL, iA, iB, iC⟩ := w
  have hs := am_Ls hmi hL
  unfold am_kK1 at hs
  simp only [Bool.and_eq_true] at hs
  obtain ⟨-, ⟨⟨⟨⟨g1, g2⟩, g3⟩, g4⟩, g5⟩, -⟩ := hs
  have hwa : (ak_w ad dA M)[a]? = some (ad a, .inl (dA 1, (ak_N M a, .inl (ak_I M a)))) := ak_warr ha hka (by omega)
  refine va_clone (own := am_cn (am_O mi)) (ad := "[B") (x := (ak_N M a, .inl (ak_I M a))) (ty := .byte) (cA := dA 1) hx hb (by rw [hml, hlz]) hown (am_okb hts g1) (am_okb hts g3) (am_okb hts g4) (am_okb hts g2) (am_inb hts g5) (hA.2.2.2.2.2.2.2.2.1 _ am_clc rfl) hK hP hD hSv hAf a 1 hwa (ak_tget (by omega)) ((hK.2 1 _ (ak_tget (by omega))).2) ?_ (by omega) ?_ hb1 hb2 hd (fun q H1 _ a1 a2 a3 => ?_)
  · intro i v hi
    have hi : (arrV (dA 1) (ak_N M a) (fun k => .int (ak_I M a k))).slots[i]? = some v := hi
    have hlt : i < ak_N M a := by
      have := (Array.getElem?_eq_some_iff.mp hi).1
      rwa [arrV_size] at this
    rw [arrV_read _ _ hlt] at hi
    cases hi
    exact ak_isB_fit (List.all_eq_true.mp hfit i (List.mem_range.mpr hlt))
  · rw [ak_catm2]; omega
  · have he : ∀ x, ak_okP M x → ak_ad ad (ak_P M) q x = ad x := fun x hx => ak_ad_ne (fun h => ak_P_ok hO (h ▸ hx))
    have hw := ak_new_w (dA := dA) (kd := 101) (ln := ak_N M a) (z := ak_N M a) hO he
    have hx9 : ak_P M < ak_P (ak_new M 101 (ak_N M a) (ak_N M a)) → (Sum.inl (dA 1, (ak_N M a, .inl (ak_I M a))) : va_E) = ak_ce (ak_ad ad (ak_P M) q) dA (ak_cln M (ak_I M a) (ak_N M a)) (ak_P M) := by
      intro _
      unfold ak_ce ak_ar
      have e1 : ak_K (ak_cln M (ak_I M a) (ak_N M a)) (ak_P M) = 101 := if_pos rfl
      have e2 : ak_N (ak_cln M (ak_I M a) (ak_N M a)) (ak_P M) = ak_N M a := if_pos rfl
      have e3 : ak_I (ak_cln M (ak_I M a) (ak_N M a)) (ak_P M) = ak_I M a := funext fun j => if_pos rfl
      rw [e1, e2, e3, if_neg (by omega), if_pos (by omega)]
    have hw2 : ak_w (ak_ad ad (ak_P M) q) dA (ak_cln M (ak_I M a) (ak_N M a)) = ak_w ad dA M ++ [(q, .inl (dA 1, (ak_N M a, .inl (ak_I M a))))] := by
      rw [← ak_at_w ak_cln_at hx9, hw]
      have hlen : (ak_w ad dA M).length = ak_P M := by simp [ak_w]
      rw [List.set_append, if_neg (by omega), hlen, Nat.sub_self, ak_ad_at]
      rfl
    rw [← hw2] at a1 a2
    have hO2 : ak_okM (ak_cln M (ak_I M a) (ak_N M a)) := ak_new_ok (kd := 101) (ln := ak_N M a) (z := ak_N M a) hO hp (Or.inr (by omega))
    have hok : ∀ v, ak_okV M v → ak_okV (ak_cln M (ak_I M a) (ak_N M a)) v := fun v hv => ak_okV_new (kd := 101) (ln := ak_N M a) (z := ak_N M a) hv
    have := kk (ak_ad ad (ak_P M) q) H1 locs (ak_oc (Or.inl (Nat.lt_succ_self _)) (fun v hv => hok v (hF1 v hv))) ⟨hbs, a3, a1, a2, hO2, fun x h5 h6 => by rw [ak_ad_ne (by have := hO.1; omega)]; exact hac x h5 h6⟩ he hok
    rw [List.map_cons, show ak_v (ak_ad ad (ak_P M) q) (.ref (ak_P M)) = .ref q by show Value.ref (ak_ad ad (ak_P M) q (ak_P M)) = _; rw [ak_ad_at], ak_map_ext he hF1] at this
    exact this
theorem ak_xcast {idx : Nat} (C : ak_cx p l R s m args meth c mi) (hA : ak_amb X D dA ac (ak_A base) s s.heap) (hd : decode (am_B mi) pc = .ok (.checkcast idx, 3)) (hM : ak_mi D dA ac base s H locs ad M)
    (hS : ak_x X mi (.checkcast idx) pc l1 l2 st M = some (.inl (f', M'))) (hF1 : ∀ v ∈ st, ak_okV M v)
    (kk : ∀ pc' st', ak_n pc' l1 l2 st' M = some (.inl (f', M')) → (∀ v ∈ st', ak_okV M v) → W p l e R s m args below meth c H locs cells slots Q (F0 m pc' ls (st'.map (ak_v ad)))) :
    W p l e R s m args below meth c H locs cells slots Q (F0 m pc ls (st.map (ak_v ad))) := by
  obtain ⟨hx, hb, hown, hts, -⟩ := C
  obtain ⟨-, hSv, hP, hD, hO, hac⟩ := hM
  have hK := hA.1
  simp only [ak_x] at hS
  split at hS
  · rename_i q r
    split at hS
    · rename_i h0
      obtain ⟨hq, hk, ho, rfl⟩ := h0
      rw [ho] at hown
      exact va_castA (own := RJ7) (nm := "[B") (cA := dA 1) hx hb hown (am_inb hts am_CCk) hP q (ak_warr hq hk (by omega)) ((hK.2 1 _ (ak_tget (by omega))).2) hd (kk _ _ hS hF1)
    · cases hS
  · cases hS
end AKV
end
section
/-! a method's end, and a call -/
def am_ws (k : Nat) : List Jvm.Cond := (match am_H k with | [] => Jvm.Cond.code (am_Y k) (am_B k) (am_X k) (am_R k) | h :: hh => Jvm.Cond.codeWith (am_Y k) (am_B k) (am_X k) (am_R k) (h :: hh)) :: am_w
def ak_rm (k mc ms : Nat) : Room := { frames := am_K k, cells := mc, slots := ms, locals := am_Q k }
def ak_Pc (X : ak_X) (D : va_G) (dA : Nat → ClassId) (ac : Nat → Nat) (base : Nat) (ad : Nat → Nat) (M : ak_M) (as : List Value) : Array Value → State → Prop := fun v U =>
  v = (as.map (ak_v ad)).toArray ∧ base ≤ U.heap.size ∧ ak_amb X D dA ac (ak_A base) U U.heap ∧ va_P D vwCl (ak_w ad dA M) U.heap ∧ va_D (ak_A base) (ak_w ad dA M)
def ak_po (D : va_G) (dA : Nat → ClassId) (ac : Nat → Nat) (base : Nat) (ad : Nat → Nat) (M M' : ak_M) (ad' : Nat → Nat) (t : State) : Prop :=
  (∀ x, ak_okP M x → ad' x = ad x) ∧ va_P D vwCl (ak_w ad' dA M') t.heap ∧ va_D (ak_A base) (ak_w ad' dA M') ∧ ak_okM M' ∧ ∀ x, 1000000 ≤ x → x < 3000000 → ad' x = ac x
def ak_Q (D : va_G) (dA : Nat → ClassId) (ac : Nat → Nat) (base : Nat) (ad : Nat → Nat) (M : ak_M) (r : ak_O × ak_M) : Array Value → State → Outcome → State → Prop := fun _ st oc t =>
  (∃ (v : Option Value) (ad' : Nat → Nat), r.1 = .inl v ∧ oc = .returned (v.map (ak_v ad')) ∧ (∀ w, v = some w → ak_okV r.2 w) ∧ ak_po D dA ac base ad M r.2 ad' t) ∧ va_F (ak_A base) st t
def ak_XC (D : va_G) (dA : Nat → ClassId) (ac : Nat → Nat) (base : Nat) (ad : Nat → Nat) (M : ak_M) (r : ak_O × ak_M) : String → State → State → Prop := fun E st t =>
  (∃ (k : Nat) (ad' : Nat → Nat), r.1 = .inr k ∧ k < 3 ∧ E = am_E k ∧ ak_po D dA ac base ad M r.2 ad' t) ∧ va_F (ak_A base) st t
theorem ak_Sx {X : ak_X} {mi pc : Nat} {l1 : List (Option Value)} {l2 : List (Nat × Value)} {st : List Value} {M : ak_M} {a : ak_Act} (h : ak_S X mi (pc, l1, l2, st) M = some a) : ∃ ins, am_A mi pc = some ins ∧ ak_x X mi ins pc l1 l2 st M = some a := by
  unfold ak_S at h
  split at h
  · rename_i ins hi
    exact ⟨ins, hi, h⟩
  · cases h
theorem ak_nne {pc : Nat} {l1 : List (Option Value)} {l2 : List (Nat × Value)} {st : List Value} {M : ak_M} {z : (ak_O × ak_M) ⊕ (Nat × List Value × ak_F × ak_M)} : ak_n pc l1 l2 st M ≠ some (.inr z) := by
  unfold ak_n; intro h; cases h
theorem ak_jne {pc : Nat} {off : Int} {l1 : List (Option Value)} {l2 : List (Nat × Value)} {st : List Value} {M : ak_M} {z : (ak_O × ak_M) ⊕ (Nat × List Value × ak_F × ak_M)} : ak_j pc off l1 l2 st M ≠ some (.inr z) := by
  unfold ak_j; split
  · exact ak_nne
  · intro h; cases h
theorem ak_s1ne {i pc : Nat} {v : Value} {l1 : List (Option Value)} {l2 : List (Nat × Value)} {st : List Value} {M : ak_M} {z : (ak_O × ak_M) ⊕ (Nat × List Value × ak_F × ak_M)} : ak_s1 i v pc l1 l2 st M ≠ some (.inr z) := by
  unfold ak_s1; split
  · exact ak_nne
  · intro h; cases h
theorem ak_s2ne {i pc : Nat} {v : Value} {l1 : List (Option Value)} {l2 : List (Nat × Value)} {st : List Value} {M : ak_M} {z : (ak_O × ak_M) ⊕ (Nat × List Value × ak_F × ak_M)} : ak_s2 i v pc l1 l2 st M ≠ some (.inr z) := by
  unfold ak_s2; split
  · exact ak_nne
  · intro h; cases h
theorem ak_ldne {i n pc : Nat} {ok : Value → Bool} {l1 : List (Option Value)} {l2 : List (Nat × Value)} {st : List Value} {M : ak_M} {z : (ak_O × ak_M) ⊕ (Nat × List Value × ak_F × ak_M)} : ak_ld i n pc ok l1 l2 st M ≠ some (.inr z) := by
  unfold ak_ld; split
  · split
    · exact ak_nne
    · intro h; cases h
  · intro h; cases h
theorem ak_ld2ne {i n pc : Nat} {ok : Value → Bool} {l1 : List (Option Value)} {l2 : List (Nat × Value)} {st : List Value} {M : ak_M} {z : (ak_O × ak_M) ⊕ (Nat × List Value × ak_F × ak_M)} : ak_ld2 i n pc ok l1 l2 st M ≠ some (.inr z) := by
  unfold ak_ld2; split
  · split
    · exact ak_nne
    · intro h; cases h
  · intro h; cases h
def ak_isI : Instr → Bool
  | .invokevirtual _ => true | .invokestatic _ => true | .invokespecial _ => true | _ => false
def ak_isE : Instr → Bool
  | .ireturn => true | .areturn => true | .freturn => true | .dreturn => true | .return_ => true | .new _ => true | _ => false
theorem ak_incl {X : ak_X} {mi idx vt pc : Nat} {l1 : List (Option Value)} {l2 : List (Nat × Value)} {st : List Value} {M : ak_M} {z : ak_O × ak_M} : ak_inv X mi idx vt pc l1 l2 st M ≠ some (.inr (.inl z)) := by
  unfold ak_inv ak_call ak_n
  intro h
  repeat' (split at h)
  all_goals (first | (cases h; done) | simp at h)
/-- which instructions end a method, which call -/
theorem ak_kinds {X : ak_X} {mi pc : Nat} {ins : Instr} {l1 : List (Option Value)} {l2 : List (Nat × Value)} {st : List Value} {M : ak_M} {z : (ak_O × ak_M) ⊕ (Nat × List Value × ak_F × ak_M)} (h : ak_x X mi ins pc l1 l2 st M = some (.inr z)) : ak_isI ins = true ∨ (ak_isE ins = true ∧ ∃ r, z = .inl r) := by
  cases ins with
  | invokevirtual _ => exact Or.inl rfl
  | invokestatic _ => exact Or.inl rfl
  | invokespecial _ => exact Or.inl rfl
  | ireturn =>
    refine Or.inr ⟨rfl, ?_⟩
    simp only [ak_x, ak_e] at h
    repeat' (split at h)
    all_goals (first | (cases h; done) | (cases h; exact ⟨_, rfl⟩))
  | areturn =>
    refine Or.inr ⟨rfl, ?_⟩
    simp only [ak_x, ak_e] at h
    repeat' (split at h)
    all_goals (first | (cases h; done) | (cases h; exact ⟨_, rfl⟩))
  | freturn =>
    refine Or.inr ⟨rfl, ?_⟩
    simp only [ak_x, ak_e] at h
    repeat' (split at h)
    all_goals (first | (cases h; done) | (cases h; exact ⟨_, rfl⟩))
  | dreturn =>
    refine Or.inr ⟨rfl, ?_⟩
    simp only [ak_x, ak_e] at h
    repeat' (split at h)
    all_goals (first | (cases h; done) | (cases h; exact ⟨_, rfl⟩))
  | return_ =>
    refine Or.inr ⟨rfl, ?_⟩
    simp only [ak_x, ak_e] at h
    repeat' (split at h)
    all_goals (first | (cases h; done) | (cases h; exact ⟨_, rfl⟩))
  | new _ =>
    refine Or.inr ⟨rfl, ?_⟩
    simp only [ak_x, ak_e] at h
    repeat' (split at h)
    all_goals (first | (cases h; done) | (exact absurd h ak_nne) | (cases h; exact ⟨_, rfl⟩))
  | ifCond c _ =>
    exfalso
    cases c <;> (simp only [ak_x] at h; repeat' (split at h)) <;> first | (cases h; done) | exact absurd h ak_nne | exact absurd h ak_jne
  | if_icmp c _ =>
    exfalso
    cases c <;> (simp only [ak_x] at h; repeat' (split at h)) <;> first | (cases h; done) | exact absurd h ak_nne | exact absurd h ak_jne
  | _ =>
    exfalso
    simp only [ak_x] at h
    repeat' (split at h)
    all_goals (first | (cases h; done) | exact absurd h ak_nne | exact absurd h ak_jne | exact absurd h ak_s1ne | exact absurd h ak_s2ne | exact absurd h ak_ldne | exact absurd h ak_ld2ne)
set_option maxRecDepth 100000 in
theorem am_Xn : am_xs.all (fun q => Nat.ble 8 (am_K q.1) && Nat.ble 300 (am_Q q.1)) = true := by decide +kernel
theorem am_Xm {own idx : Nat} {z : Nat × Nat × Nat × Nat × Nat} (h : am_T own idx = some z) : 8 ≤ am_K own ∧ 300 ≤ am_Q own := by
  unfold am_T at h
  cases hf : am_xs.find? (fun q => q.1 == own && q.2.1 == idx) with
  | none => rw [hf] at h; cases h
  | some q =>
    have h1 := List.all_eq_true.mp am_Xn q (List.mem_of_find?_eq_some hf)
    have h2 := List.find?_some hf
    simp only [Bool.and_eq_true, beq_iff_eq] at h2
    rw [Bool.and_eq_true, h2.1] at h1
    exact ⟨Nat.le_of_ble_eq_true h1.1, Nat.le_of_ble_eq_true h1.2⟩
section AKH
variable {p : Program} {l : Launch} {e : Env} {R : Room} {s : State} {m : MethodId} {args : Array Value} {below : List Frame} {meth : Method} {c : Code} {Q : State → Prop}
variable {X : ak_X} {D : va_G} {dA : Nat → ClassId} {ac : Nat → Nat} {base : Nat}
theorem ak_catm (ad : Nat → Nat) (st : List Value) : ((st.map (ak_v ad)).map fun v => v.category).sum = ak_cat st := by
  unfold ak_cat
  rw [List.map_map]
  exact congrArg List.sum (List.map_congr_left fun v _ => ak_v_cat ad v)
theorem ak_use_w {ad : Nat → Nat} {M : ak_M} {a b : Nat} : ak_w ad dA (ak_use M a b) = ak_w ad dA M := rfl
theorem ak_use_ok {M : ak_M} {a b : Nat} (h : ak_okM M) : ak_okM (ak_use M a b) := h
theorem ak_isN_ot : ∀ {w : Jvm.Cond}, ak_isN w = true → w.onTables = true
  | .methodLinkNest _ _ _ _, _ => rfl
  | .fieldLinkNest _ _ _ _ _ _, _ => rfl
  | .castable _ _, _ => rfl
  | .declares _, _ => rfl
set_option maxHeartbeats 2000000 in
theorem ak_end {mi pc : Nat} {l1 : List (Option Value)} {l2 : List (Nat × Value)} {st : List Value} {M M0 : ak_M} {r : ak_O × ak_M} {ad ad0 : Nat → Nat} {H : Heap} {locs : List Loc} {cells slots mc ms : Nat} {ls : Array Slot}
    (C : ak_cx p l R s m args meth c mi) (hA : ak_amb X D dA ac (ak_A base) s s.heap) (hS : ak_S X mi (pc, l1, l2, st) M = some (.inr (.inl r))) (hM : ak_mi D dA ac base s H locs ad M) (hF : ak_fi ad M ls (am_X mi) l1 l2 st)
    (hext : ∀ x, ak_okP M0 x → ad x = ad0 x) (hb1 : cells + ak_C r.2 ≤ mc + ak_C M) (hb2 : slots + ak_Z r.2 ≤ ms + ak_Z M) (hmc : mc ≤ R.cells) (hms : ms ≤ R.slots) :
    W p l e R s m args below meth c H locs cells slots (vx_MQ below (ak_Q D dA ac base ad0 M0 r) (ak_XC D dA ac base ad0 M0 r) args s mc ms (ak_A base)) (F0 m pc ls (st.map (ak_v ad))) := by
  obtain ⟨hx, hb, hown, hts, hml, hrt, hlocks, hnm, htab, htr, hfr, hlo, hmi⟩ := C
  obtain ⟨hbs, hSv, hP, hD, hO, hac⟩ := hM
  obtain ⟨ins, hi, hS2⟩ := ak_Sx hS
  clear hS
  have hS := hS2
  clear hS2
  obtain ⟨n, hd, hn⟩ := ak_code hmi hi
  have fin : ∀ {v : Option Value} {t : State}, (∀ w, v = some w → ak_okV M w) → r = (.inl v, M) → t.heap = H → ak_Q D dA ac base ad0 M0 r args s (.returned (v.map (ak_v ad))) t := by
    intro v t hv hr ht
    subst hr
    exact ⟨⟨v, ad, rfl, rfl, hv, hext, by rw [ht]; exact hP, hD, hO, hac⟩, hSv.F ht⟩
  have hk := (ak_kinds hS)
  rcases hk with hk | ⟨hk, -⟩
  · exfalso
    cases ins <;> first | (cases hk; done) | exact absurd hS ak_incl
  · cases ins with
    | ireturn =>
      simp only [ak_x, ak_e] at hS
      split at hS
      · rename_i x
        split at hS
        · rename_i h0
          have hr := (Sum.inl.inj (Sum.inr.inj (Option.some.inj hS))).symm
          have hty : ∃ ty, am_R mi = some ty ∧ narrow ty (.int x) = .int x := by
            unfold ak_iok at h0
            split at h0
            · rename_i h; exact ⟨_, h, rfl⟩
            · rename_i h
              refine ⟨_, h, ?_⟩
              rcases of_decide_eq_true h0 with rfl | rfl <;> rfl
            · rename_i h
              refine ⟨_, h, ?_⟩
              have := of_decide_eq_true h0
              show Value.int (x.toUInt32 % 65536).toInt32 = _
              rw [this]
            · rename_i h
              refine ⟨_, h, ?_⟩
              have := of_decide_eq_true h0
              show Value.int x.toInt8.toInt32 = _
              rw [this]
            · cases h0
          obtain ⟨ty, h1, h2⟩ := hty
          rw [hr] at hb1 hb2
          dsimp only at hb1 hb2
          exact W.widen (k := mc) (n := ms) (by omega) (by omega) (vx_ret (W.zret (v := x) hx hb (hrt.trans h1) h2 (fun t ht _ => fin (v := some (.int x)) (fun w hw => by cases hw; trivial) hr ht) hSv.2.2 (ak_d1 hd hn (k := 0) rfl) hlocks))
        · cases hS
      · cases hS
    | areturn =>
      simp only [ak_x, ak_e] at hS
      split at hS
      · rename_i x
        split at hS
        · rename_i h0
          have hr := (Sum.inl.inj (Sum.inr.inj (Option.some.inj hS))).symm
          have hty : ∃ rt, am_R mi = some rt ∧ ((∃ n, rt = .object n) ∨ ∃ t, rt = .array t) := by
            unfold ak_isR at h0
            split at h0
            · rename_i n h; exact ⟨_, h, Or.inl ⟨n, rfl⟩⟩
            · rename_i n h; exact ⟨_, h, Or.inr ⟨n, rfl⟩⟩
            · cases h0
          obtain ⟨n9, h1, h1b⟩ := hty
          rw [hr] at hb1 hb2
          dsimp only at hb1 hb2
          exact W.widen (k := mc) (n := ms) (by omega) (by omega) (vx_ret (W.aret (v := .ref (ad x)) hx hb (hrt.trans h1) h1b (Or.inr ⟨_, rfl⟩) (fun t ht _ => fin (v := some (.ref x)) (fun w hw => by cases hw; exact ak_oh hF.1) hr ht) hSv.2.2 (ak_d1 hd hn (k := 0) rfl) hlocks))
        · cases hS
      · cases hS
    | freturn =>
      simp only [ak_x, ak_e] at hS
      split at hS
      · rename_i x
        split at hS
        · rename_i h1
          have hr := (Sum.inl.inj (Sum.inr.inj (Option.some.inj hS))).symm
          rw [hr] at hb1 hb2
          dsimp only at hb1 hb2
          exact W.widen (k := mc) (n := ms) (by omega) (by omega) (vx_ret (W.fret (v := x) hx hb (hrt.trans h1) (fun t ht _ => fin (v := some (.float x)) (fun w hw => by cases hw; trivial) hr ht) hSv.2.2 (ak_d1 hd hn (k := 0) rfl) hlocks))
        · cases hS
      · cases hS
    | dreturn =>
      simp only [ak_x, ak_e] at hS
      split at hS
      · rename_i x
        split at hS
        · rename_i h1
          have hr := (Sum.inl.inj (Sum.inr.inj (Option.some.inj hS))).symm
          rw [hr] at hb1 hb2
          dsimp only at hb1 hb2
          exact W.widen (k := mc) (n := ms) (by omega) (by omega) (vx_ret (W.dret (v := x) hx hb (hrt.trans h1) (fun t ht _ => fin (v := some (.double x)) (fun w hw => by cases hw; trivial) hr ht) hSv.2.2 (ak_d1 hd hn (k := 0) rfl) hlocks))
        · cases hS
      · cases hS
    | return_ =>
      simp only [ak_x, ak_e] at hS
      split at hS
      · split at hS
        · rename_i h1
          have hr := (Sum.inl.inj (Sum.inr.inj (Option.some.inj hS))).symm
          rw [hr] at hb1 hb2
          dsimp only at hb1 hb2
          exact W.widen (k := mc) (n := ms) (by omega) (by omega) (vx_ret (W.vret hx hb (hrt.trans h1) (fun t ht _ => fin (v := none) (fun w hw => by cases hw) hr ht) hSv.2.2 (ak_d1 hd hn (k := 0) rfl) hlocks))
        · cases hS
      · cases hS
    | new idx =>
      simp only [ak_x] at hS
      split at hS
      · split at hS
        · exact absurd hS ak_nne
        · cases hS
      · split at hS
        · rename_i E x hT
          obtain ⟨ik, is, wd, ic⟩ := x
          split at hS
          · rename_i hcat
            unfold ak_e at hS
            have hr := (Sum.inl.inj (Sum.inr.inj (Option.some.inj hS))).symm
            have hs := am_Ts hT
            unfold am_kX1 at hs
            simp only [Bool.and_eq_true, decide_eq_true_eq, bne_iff_ne, ne_eq] at hs
            obtain ⟨⟨⟨⟨⟨⟨⟨⟨⟨q1, q2⟩, q3⟩, q4⟩, q5⟩, q6⟩, q7⟩, q8⟩, q9⟩, q10⟩ := hs
            have hE : E < 3 := Nat.le_of_ble_eq_true q1
            have hH : am_H mi = [] := List.isEmpty_iff.mp q3
            have hall : ∀ w ∈ (Jvm.Cond.classLink (am_cn (am_O mi)) ik (am_E E) :: .initialized (am_E E) :: vx_atS (am_cn (am_O mi)) ic (am_E E) am_nm), vx_ot w = true ∧ w.before args s = true := by
              intro w hw
              have h1 := List.all_eq_true.mp q6 w hw
              rw [Bool.and_eq_true, Bool.and_eq_true, Bool.or_eq_true] at h1
              obtain ⟨⟨g1, g2⟩, g3⟩ := h1
              refine ⟨g1, ?_⟩
              rcases g2 with g2 | g2
              · exact hts w (List.mem_filter.mpr ⟨of_decide_eq_true g3, g2⟩)
              · exact va_Nw.use (ak_isN_ot g2) (hA.2.2.2.2.2.2.2.2.1 w (of_decide_eq_true g3) g2)
            obtain ⟨j, hj, hj28⟩ : ∃ j, am_G (am_O mi) is = some j ∧ j < 25 := by
              revert q10
              cases hg : am_G (am_O mi) is with
              | none => intro h; cases h
              | some j => intro h; exact ⟨j, rfl, Nat.le_of_ble_eq_true h⟩
            obtain ⟨-, e1, e2⟩ := am_Gs hj
            have hstr := (hA.2.2.2.2.2.1 j hj28).1
            rw [e1, e2] at hstr
            have hnames : ∀ n ∈ am_nm, Bundle.fit n = true := fun n hn => List.all_eq_true.mp q5 n hn
            have hout : ∀ (k : Nat), ∀ x ∈ c.exceptionTable.toList, covers x k = false := by
              intro k x hx9
              rw [htab q2, hH] at hx9
              cases hx9
            have hc9 : cells + 1 ≤ mc := by
              have : ak_C r.2 = ak_C M + 1 := by rw [hr]; rfl
              omega
            have hz9 : slots + 6 ≤ ms := by
              have : ak_Z r.2 = ak_Z M + 6 := by rw [hr]; rfl
              omega
            have hXm := am_Xm hT
            have hcs : ((st.map (ak_v ad)).map fun v => v.category).sum + (13 * (am_nm.length + 1) + 43) ≤ R.locals := by
              rw [ak_catm]
              show ak_cat st + (13 * (2 + 1) + 43) ≤ R.locals
              omega
            have hxc : ∀ t : State, s.vm.Alike t.vm → H.size ≤ t.heap.size → (∀ q : Nat, q < H.size → t.heap[q]? = H[q]?) → ak_XC D dA ac base ad0 M0 r (am_E E) s t := by
              intro t _ h1 h2
              subst hr
              refine ⟨⟨E, ad, rfl, hE, rfl, hext, hP.kept (fun k q hk => h2 q.1 ((hP k q hk).lt)), hD, hO, hac⟩, Nat.le_trans hSv.1 h1, fun q g1 g2 => ?_⟩
              rw [h2 q (Nat.lt_of_lt_of_le g1 hSv.1)]
              exact hSv.2.1 q g1 g2
            have hlsz : ls.size = c.maxLocals := by rw [hml]; exact hF.2.2.1
            by_cases hw : wd = 0
            · rw [if_pos hw, Bool.and_eq_true, Bool.and_eq_true] at q9
              obtain ⟨⟨p1, p2⟩, p3⟩ := q9
              exact vx_throwS (A := ak_A base) hx hb htr hown q4 hnames (hall _ List.mem_cons_self).2 (hall _ (List.mem_cons_of_mem _ List.mem_cons_self)).2 hstr (fun w hw => (hall w (List.mem_cons_of_mem _ (List.mem_cons_of_mem _ hw))).2) (fun w hw => (hall w hw).1) hA.2.2.2.2.2.2.1 hA.2.2.2.2.2.2.2.1 hSv hlsz q7 q8 (of_decide_eq_true p1) (of_decide_eq_true p2) (of_decide_eq_true p3) (hout _) (by show 2 + 3 < R.frames; omega) hcs (by omega) (by omega) hlocks hxc hSv.2.2 hc9 hz9
            · rw [if_neg hw, Bool.and_eq_true, Bool.and_eq_true] at q9
              obtain ⟨⟨p1, p2⟩, p3⟩ := q9
              exact vx_throwSW (A := ak_A base) hx hb htr hown q4 hnames (hall _ List.mem_cons_self).2 (hall _ (List.mem_cons_of_mem _ List.mem_cons_self)).2 hstr (fun w hw => (hall w (List.mem_cons_of_mem _ (List.mem_cons_of_mem _ hw))).2) (fun w hw => (hall w hw).1) hA.2.2.2.2.2.2.1 hA.2.2.2.2.2.2.2.1 hSv hlsz q7 q8 (of_decide_eq_true p1) (of_decide_eq_true p2) (of_decide_eq_true p3) (hout _) (by show 2 + 3 < R.frames; omega) hcs (by omega) (by omega) hlocks hxc hSv.2.2 hc9 hz9
          · cases hS
        · cases hS
    | _ => cases hk
end AKH
end
section
/-! a method whose class has rows of its own in the table of natives, but none for her -/
theorem vx_ofWF {l : Launch} {y : MethodName} {ws ws' : List Jvm.Cond} {rm : Room} {Pc : Array Value → State → Prop} {Qc : Array Value → State → Outcome → State → Prop} {XC : String → State → State → Prop} {mc ms : Nat} {free : Addr → Prop} {cc : ByteArray} {maxL : Nat} {ret : Option FieldType}
    (hy : plainFor y = true) (hw : ws = Jvm.Cond.code y cc maxL ret :: ws')
    (body : ∀ p e s m args below meth c s₁, BodyLoose p l y (headSpec ws rm) cc maxL ret e s m args below meth c s₁ → c.maxLocals = maxL → (∀ x ∈ c.exceptionTable.toList, False) → Pc args s →
      W p l e (headSpec ws rm).room s m args below meth c s.heap [] 0 0 (vx_MQ below Qc XC args s mc ms free) (entryFrame m args maxL)) : vx_Met l y ws rm Pc Qc XC mc ms free := by
  refine MetFree.of_bodySF (code := cc) (maxLocals := maxL) (ret := ret) hy ?_ ?_
  · intro args s m h hn
    obtain ⟨meth, c, h1, h2, h3, h4, h5, h6, -, -⟩ := Cond.code_spec hn (atoms_spec (ws := ws) h _ (by rw [hw]; exact List.mem_cons_self))
    exact ⟨meth, c, h1, h2, h3, h4, h5, h6⟩
  · intro p e s m args below meth c s₁ B hml hP _
    have hh0 : s₁.heap = s.heap := by rw [B.state]; rfl
    have ht : ∀ x ∈ c.exceptionTable.toList, False := by
      obtain ⟨meth9, c9, h1, h2, -, -, -, -, h7, -⟩ := Cond.code_spec B.named (atoms_spec (ws := ws) B.pre _ (by rw [hw]; exact List.mem_cons_self))
      cases Option.some.inj (h1.symm.trans B.method)
      cases Option.some.inj (h2.symm.trans (Stand.of_body B).code)
      intro x hx
      rw [Array.isEmpty_iff.mp h7] at hx
      cases hx
    obtain ⟨t, a1, o, b1, b2, b3⟩ := body p e s m args below meth c s₁ B hml ht hP s₁ hh0 (Stand.of_body B)
    exact ⟨t, o, a1, b1, b2, b3⟩
/-! a run of the small machine is a run of the machine -/
section AKR
variable {X : ak_X} {D : va_G} {dA : Nat → ClassId} {ac : Nat → Nat} {base : Nat}
theorem ak_goodw {w : Jvm.Cond} (h : w ∈ am_w) : (w.onTables && w.keeps) = true ∨ ∃ ty, w = .arrayClass ty := good_of_word (List.mem_filter.mp h).2
theorem am_hd {k : Nat} (hk : k < 364) : am_kH k = true ∧ (am_ws k).head? = some ((match am_H k with | [] => Jvm.Cond.code (am_Y k) (am_B k) (am_X k) (am_R k) | h :: hh => Jvm.Cond.codeWith (am_Y k) (am_B k) (am_X k) (am_R k) (h :: hh))) := ⟨am_Hc_all k (by omega), rfl⟩
/-- what the head's check says of a method -/
theorem am_hs {k : Nat} (hk : k < 364) : (plainFor (am_Y k) = true ∧ ((am_H k).isEmpty = true ∨ plainName (am_Y k).cls = true)) ∧ ((am_Y k).cls ≠ "java/lang/invoke/MethodHandle" ∧ (am_Y k).cls ≠ "java/lang/invoke/VarHandle") ∧ (parseMethodDescriptor (am_Y k).desc).map (fun d => d.parameters.length) = some (am_N k) ∧ am_cn (am_O k) = (am_Y k).cls ∧ am_X k ≤ 40 ∧ GoodIn am_w (am_ws k) ∧
    ((∃ r, vwCl[am_C k]? = some r ∧ r.1 = (am_Y k).cls) ∨ am_C k = 60) := by
  have h := am_Hc_all k (by omega)
  unfold am_kH at h
  rw [Bool.or_eq_true] at h
  rcases h with h | h
  · have := beq_iff_eq.mp h
    omega
  · simp only [Bool.and_eq_true, decide_eq_true_eq, Bool.or_eq_true, beq_iff_eq] at h
    obtain ⟨⟨⟨⟨⟨⟨⟨⟨h1, h1b⟩, h2⟩, h3⟩, h4⟩, h5⟩, h6⟩, h7⟩, h8⟩ := h
    refine ⟨⟨h1, h1b⟩, ⟨h2, h3⟩, h4, h5, Nat.le_of_ble_eq_true h6, fun w hw => ?_, ?_⟩
    · have hm : w ∈ am_w := by
        unfold am_ws at hw
        rcases List.mem_cons.mp hw with rfl | hw
        · split at h7
          · rename_i hH; rw [hH]; exact am_w_of h7
          · rename_i h9 hh9 hH; rw [hH]; exact am_w_of h7
        · exact hw
      exact ⟨hm, ak_goodw hm⟩
    · rcases h8 with h8 | h8
      · refine Or.inl ?_
        cases hv : vwCl[am_C k]? with
        | none => rw [hv] at h8; cases h8
        | some r => rw [hv] at h8; exact ⟨r, rfl, Option.some.inj h8⟩
      · exact Or.inr h8
theorem ak_blind {ad : Nat → Nat} {M : ak_M} {as : List Value} : FrameBlind (ak_Pc X D dA ac base ad M as) := by
  intro a U g mk h
  exact ⟨h.1, h.2.1, ak_amb.warm (U := U.calling g mk a) (State.WarmedH.refl U) h.2.2.1, h.2.2.2.1, h.2.2.2.2⟩
/-- the claim of the run: from every frame of fuel n -/
def ak_snd (X : ak_X) (D : va_G) (dA : Nat → ClassId) (ac : Nat → Nat) (base : Nat) (n : Nat) : Prop :=
  ∀ (mi : Nat) (f : ak_F) (M : ak_M) (r : ak_O × ak_M), ak_go X n mi f M = some r →
  ∀ (p : Program) (l : Launch) (e : Env) (R : Room) (s : State) (m : MethodId) (args : Array Value) (below : List Frame) (meth : Method) (c : Code) (Q : State → Prop) (H : Heap) (locs : List Loc) (cells slots mc ms : Nat) (ls : Array Slot) (ad ad0 : Nat → Nat) (M0 : ak_M),
    ak_cx p l R s m args meth c mi → ak_amb X D dA ac (ak_A base) s s.heap → ak_mi D dA ac base s H locs ad M → ak_fi ad M ls (am_X mi) f.2.1 f.2.2.1 f.2.2.2 →
    (∀ x, ak_okP M0 x → ak_okP M x ∧ ad x = ad0 x) → mc ≤ R.cells → ms ≤ R.slots → cells + ak_C r.2 ≤ mc + ak_C M → slots + ak_Z r.2 ≤ ms + ak_Z M →
    (∀ (pc' : Nat) (l1' : List (Option Value)) (l2' : List (Nat × Value)) (st' : List Value) (M' : ak_M) (H' : Heap) (locs' : List Loc) (cells' slots' : Nat) (ls' : Array Slot) (ad' : Nat → Nat), ak_S X mi (pc', l1', l2', st') M' = some (.inr (.inl r)) → ak_mi D dA ac base s H' locs' ad' M' → ak_fi ad' M' ls' (am_X mi) l1' l2' st' →
      (∀ x, ak_okP M0 x → ad' x = ad0 x) → cells' + ak_C r.2 ≤ mc + ak_C M' → slots' + ak_Z r.2 ≤ ms + ak_Z M' → W p l e R s m args below meth c H' locs' cells' slots' Q (F0 m pc' ls' (st'.map (ak_v ad')))) →
    (∀ (pc' : Nat) (rest : List Value) (E : Nat) (H' : Heap) (locs' : List Loc) (cells' slots' : Nat) (ls' : Array Slot) (ad' : Nat → Nat) (q : Addr) (ce : Cell), r.1 = .inr E → E < 3 → am_H mi = [] → ak_mi D dA ac base s H' locs' ad' r.2 → (∀ x, ak_okP M0 x → ad' x = ad0 x) → cells' ≤ mc → slots' ≤ ms → H'[q]? = some ce → ce.vm = .none → s.vm.findClass (am_E E) = some ce.cls →
      vx_W p l e R s m args below meth c H' locs' cells' slots' Q (F0 m pc' ls' rest) q) →
    W p l e R s m args below meth c H locs cells slots Q (F0 m f.1 ls (f.2.2.2.map (ak_v ad)))
/-- a callee's contract out of its run -/
theorem ak_met {n : Nat} (IH : ak_snd X D dA ac base n) {l : Launch} (hl : l.stackTraces = false) {k : Nat} (hk : k < 364) {as : List Value} {M : ak_M} {r : ak_O × ak_M} (hgo : ak_go X n k (ak_en k as) M = some r) (hO : ak_okM M) (hv : ∀ v ∈ as, ak_okV M v) (hlen : (ak_e1 as).length ≤ am_X k)
    {ad : Nat → Nat} (hac : ∀ p, 1000000 ≤ p → p < 3000000 → ad p = ac p) {mc ms : Nat} (h1 : ak_C r.2 ≤ mc + ak_C M) (h2 : ak_Z r.2 ≤ ms + ak_Z M) :
    vx_Met l (am_Y k) (am_ws k) (ak_rm k mc ms) (ak_Pc X D dA ac base ad M as) (ak_Q D dA ac base ad M r) (ak_XC D dA ac base ad M r) mc ms (ak_A base) := by
  obtain ⟨hpl, -, -, hcn, -, hG, -⟩ := am_hs hk
  have body : ∀ (p : Program) (e : Env) (s : State) (m : MethodId) (args : Array Value) (below : List Frame) (meth : Method) (c : Code) (s₁ : State), BodyLoose p l (am_Y k) (headSpec (am_ws k) (ak_rm k mc ms)) (am_B k) (am_X k) (am_R k) e s m args below meth c s₁ → c.maxLocals = am_X k → c.exceptionTable.toList = tableOf (am_H k) → ak_Pc X D dA ac base ad M as args s →
      W p l e (headSpec (am_ws k) (ak_rm k mc ms)).room s m args below meth c s.heap [] 0 0 (vx_MQ below (ak_Q D dA ac base ad M r) (ak_XC D dA ac base ad M r) args s mc ms (ak_A base)) (entryFrame m args (am_X k)) := by
    intro p e s m args below meth c s₁ B hml htab hp
    obtain ⟨rfl, hbs, hA, hP, hD⟩ := hp
    have hts0 := atoms_spec (ws := am_ws k) B.pre
    have hts : ∀ w ∈ am_w, w.before (as.map (ak_v ad)).toArray s = true := fun w hw => hts0 w (List.mem_cons_of_mem _ hw)
    have C : ak_cx p l (ak_rm k mc ms) s m (as.map (ak_v ad)).toArray meth c k :=
      ⟨B.exec, B.bytes, by rw [hcn]; exact findClass_of_methodNamed B.named, hts, hml, B.returns, B.notSynchronized, fun _ => (name_of_methodNamed B.named B.method).1, fun _ => htab, hl, Nat.le_refl _, Nat.le_refl _, by omega⟩
    have hM : ak_mi D dA ac base s s.heap [] ad M := ⟨hbs, va_S.rf, hP, hD, hO, hac⟩
    rw [lg_entry_eq]
    refine IH k (ak_en k as) M r hgo p l e (ak_rm k mc ms) s m _ below meth c _ s.heap [] 0 0 mc ms _ ad ad M C hA hM ⟨fun v hv => absurd hv List.not_mem_nil, ak_en_ok hv, ak_entry ad k as hlen⟩ (fun x hx => ⟨hx, rfl⟩) (Nat.le_refl _) (Nat.le_refl _) (by omega) (by omega) ?_ ?_
    · intro pc' l1' l2' st' M' H' locs' cells' slots' ls' ad' hS hM' hF' hext hb1 hb2
      exact ak_end C hA hS hM' hF' hext hb1 hb2 (Nat.le_refl _) (Nat.le_refl _)
    · intro pc' rest E H' locs' cells' slots' ls' ad' q ce hr hE hH hM' hext hb1 hb2 hq hcv hcl
      obtain ⟨-, hSv, hP', hD', hO', hac'⟩ := hM'
      refine vx_out (E := am_E E) (fun x hx => ?_) B.notSynchronized hq hcv hcl (fun t ht _ => ?_) hSv.2.2 hb1 hb2
      · rw [htab, hH] at hx; cases hx
      · exact ⟨⟨E, ad', hr, hE, rfl, hext, by rw [ht]; exact hP', hD', hO', hac'⟩, hSv.F ht⟩
  cases hH : am_H k with
  | nil =>
    have hw : am_ws k = Jvm.Cond.code (am_Y k) (am_B k) (am_X k) (am_R k) :: am_w := by unfold am_ws; rw [hH]
    refine vx_ofWF (cc := am_B k) (maxL := am_X k) (ret := am_R k) hpl.1 hw ?_
    intro p e s m args below meth c s₁ B hml ht hp
    refine body p e s m args below meth c s₁ B hml ?_ hp
    rw [hH]
    exact List.eq_nil_iff_forall_not_mem.mpr fun x hx => ht x hx
  | cons h hh =>
    have hw : am_ws k = Jvm.Cond.codeWith (am_Y k) (am_B k) (am_X k) (am_R k) (h :: hh) :: am_w := by unfold am_ws; rw [hH]
    refine vx_ofWH (cc := am_B k) (maxL := am_X k) (ret := am_R k) (hh := h :: hh) (hpl.2.resolve_left (by rw [hH]; exact Bool.false_ne_true)) hw ?_
    intro p e s m args below meth c s₁ B hml hp
    refine body p e s m args below meth c s₁ B hml ?_ hp
    rw [hH]
    exact vx_table (x := am_Y k) B (atoms_spec (ws := am_ws k) B.pre _ (by rw [hw]; exact List.mem_cons_self))
end AKR
end
section
section AKJ
variable {X : ak_X} {D : va_G} {dA : Nat → ClassId} {ac : Nat → Nat} {base : Nat}
theorem ak_invc {mi idx vt pc cal : Nat} {l1 : List (Option Value)} {l2 : List (Nat × Value)} {st as : List Value} {M M1 : ak_M} {g : ak_F} (h : ak_inv X mi idx vt pc l1 l2 st M = some (.inr (.inr (cal, as, g, M1)))) :
    ∃ (kind : Nat) (w : Nat × Nat × Nat × Nat) (rest : List Value), am_L mi idx = some (cal, kind, w) ∧ M1 = M ∧ g = (pc + 3, l1, l2, rest) ∧ ak_cat rest ≤ 8 ∧ (am_K cal < am_K mi ∧ am_Q cal + am_X cal + 19 ≤ am_Q mi) ∧ (ak_e1 as).length ≤ am_X cal ∧ am_N cal ≤ st.length ∧
      ((vt = 0 ∧ (kind = 0 ∨ kind = 6 ∨ kind = 8) ∧ ∃ q, st.drop (am_N cal) = .ref q :: rest ∧ ak_rc M q = (if kind = 0 then am_C cal else 12) ∧ as = .ref q :: (st.take (am_N cal)).reverse) ∨ (vt = 1 ∧ (kind = 1 ∨ kind = 4) ∧ rest = st.drop (am_N cal) ∧ as = (st.take (am_N cal)).reverse) ∨
        (vt = 2 ∧ (kind = 2 ∨ kind = 3 ∨ kind = 7) ∧ ∃ q, st.drop (am_N cal) = .ref q :: rest ∧ (kind = 7 → ak_rc M q = 12) ∧ as = .ref q :: (st.take (am_N cal)).reverse)) := by
  unfold ak_inv at h
  split at h
  · cases h
  · rename_i cal' kind w hL
    have cl : ∀ {as' rest : List Value}, ak_call mi cal' as' pc l1 l2 rest M = some (.inr (.inr (cal, as, g, M1))) → cal' = cal ∧ as' = as ∧ M1 = M ∧ g = (pc + 3, l1, l2, rest) ∧ ak_cat rest ≤ 8 ∧ (am_K cal < am_K mi ∧ am_Q cal + am_X cal + 19 ≤ am_Q mi) ∧ (ak_e1 as).length ≤ am_X cal := by
      intro as' rest h
      unfold ak_call at h
      split at h
      · rename_i h0
        have h1 := Sum.inr.inj (Sum.inr.inj (Option.some.inj h))
        cases h1
        exact ⟨rfl, rfl, rfl, rfl, h0.1, ⟨h0.2.1, h0.2.2.1⟩, h0.2.2.2⟩
      · cases h
    split at h
    · rename_i h0
      split at h
      · rename_i q rest hd
        generalize hcc : (if kind = 0 then am_C cal' else 12) = cc at h
        split at h
        · rename_i h1
          obtain ⟨rfl, rfl, rfl, rfl, a, b, d⟩ := cl h
          exact ⟨kind, w, rest, hL, rfl, rfl, a, b, d, h1.2, Or.inl ⟨h0.1, h0.2, q, hd, h1.1.trans hcc.symm, rfl⟩⟩
        · cases h
      · cases h
    · split at h
      · rename_i h0
        split at h
        · rename_i h1
          obtain ⟨rfl, rfl, rfl, rfl, a, b, d⟩ := cl h
          exact ⟨kind, w, _, hL, rfl, rfl, a, b, d, h1, Or.inr (Or.inl ⟨h0.1, h0.2, rfl, rfl⟩)⟩
        · cases h
      · split at h
        · rename_i h0
          split at h
          · rename_i q rest hd
            split at h
            · rename_i h1
              obtain ⟨rfl, rfl, rfl, rfl, a, b, d⟩ := cl h
              refine ⟨kind, w, rest, hL, rfl, rfl, a, b, d, h1, Or.inr (Or.inr ⟨h0.1, ?_, q, hd, fun h7 => ?_, rfl⟩)⟩
              · rcases h0.2 with h2 | h2
                · exact Or.inl h2
                · exact Or.inr (Or.inl h2)
              · rcases h0.2 with h2 | h2 <;> omega
            · cases h
          · cases h
        · split at h
          · rename_i h0
            split at h
            · rename_i q rest hd
              split at h
              · rename_i h1
                obtain ⟨rfl, rfl, rfl, rfl, a, b, d⟩ := cl h
                exact ⟨kind, w, rest, hL, rfl, rfl, a, b, d, h1.2, Or.inr (Or.inr ⟨h0.1, Or.inr (Or.inr h0.2), q, hd, fun _ => h1.1, rfl⟩)⟩
              · cases h
            · cases h
          · split at h
            · split at h
              · split at h
                · exact absurd h ak_nne
                · cases h
              · cases h
            · split at h
              · split at h
                · split at h
                  · exact absurd h ak_nne
                  · cases h
                · cases h
              · split at h
                · split at h
                  · split at h
                    · exact absurd h ak_nne
                    · cases h
                  · cases h
                · cases h
set_option maxRecDepth 100000 in
theorem am_Tn : (List.range 365).all (fun k => (am_ks.getD k []).all (fun e => !(Nat.ble 6 e.2.2.1) || !am_th.contains e.2.1)) = true := by decide +kernel
theorem am_Tm {mi idx cal kind : Nat} {w : Nat × Nat × Nat × Nat} (hm : mi < 365) (h : am_L mi idx = some (cal, kind, w)) (h6 : 6 ≤ kind) : am_th.contains cal = false := by
  have hc := List.all_eq_true.mp am_Tn mi (List.mem_range.mpr hm)
  unfold am_L at h
  cases hf : (am_ks.getD mi []).find? (fun q => q.1 == idx) with
  | none => rw [hf] at h; cases h
  | some q =>
    rw [hf] at h
    have h1 := List.all_eq_true.mp hc q (List.mem_of_find?_eq_some hf)
    have h2 : q.2 = (cal, kind, w) := Option.some.inj h
    rw [h2] at h1
    rw [Bool.or_eq_true] at h1
    rcases h1 with h1 | h1
    · have : Nat.ble 6 kind = true := Nat.ble_eq_true_of_le h6
      dsimp only at h1
      rw [this] at h1
      cases h1
    · simpa using h1
variable {p : Program} {l : Launch} {e : Env} {R : Room} {s : State} {m : MethodId} {args : Array Value} {below : List Frame} {meth : Method} {c : Code} {Q : State → Prop}
/-- behind a call -/
theorem ak_ran {pc mc ms cells slots : Nat} {ls : Array Slot} {st0 rest : List Value} {a : Array Value} {M : ak_M} {r : ak_O × ak_M} {ad : Nat → Nat} {H : Heap} {locs : List Loc}
    (hr : vx_Run p l e R s m args below meth c H locs cells slots mc ms (F0 m pc ls st0) rest (ak_Q D dA ac base ad M r a) (ak_XC D dA ac base ad M r) (ak_A base)) (hbs : base ≤ s.heap.size) (hS : va_S (ak_A base) s.heap H locs)
    (kx : ∀ (E : Nat) (ad' : Nat → Nat) (q : Addr) (ce : Cell) (H1 : Heap) (locs1 : List Loc), r.1 = .inr E → E < 3 → ak_mi D dA ac base s H1 locs1 ad' r.2 → (∀ x, ak_okP M x → ad' x = ad x) → H1[q]? = some ce → ce.vm = .none → s.vm.findClass (am_E E) = some ce.cls → vx_W p l e R s m args below meth c H1 locs1 (cells + mc) (slots + ms) Q (F0 m pc ls rest) q)
    (kk : ∀ (v : Option Value) (ad' : Nat → Nat) (H1 : Heap) (locs1 : List Loc), r.1 = .inl v → ak_mi D dA ac base s H1 locs1 ad' r.2 → (∀ x, ak_okP M x → ad' x = ad x) → (∀ w, v = some w → ak_okV r.2 w) → W p l e R s m args below meth c H1 locs1 (cells + mc) (slots + ms) Q (F0 m (pc + 3) ls ((v.map (ak_v ad')).toList ++ rest))) :
    W p l e R s m args below meth c H locs cells slots Q (F0 m pc ls st0) := by
  intro T hT X
  rcases hr T hT X with ⟨v, st₀, t, T', L, h0, X', hL, e1, e2, ⟨⟨v', ad', hr1, hoc, hok, hx1, hx2, hx3, hx4, hx5⟩, hF⟩, st⟩ | ⟨q, st₀, t, T', L, E, ce, h0, X', hL, e1, e2, ⟨⟨E', ad', hr1, hE, rfl, hx1, hx2, hx3, hx4, hx5⟩, hF⟩, hce, hcv, hcl, st⟩
  · cases hoc
    obtain ⟨k1, k2, k3⟩ := vx_keep h0 e1 hS (fun q _ h => h) (fun q h => h) hL hF
    obtain ⟨t2, a1, b1⟩ := kk v' ad' T'.heap (locs ++ L) hr1 ⟨hbs, k3, by rw [e1]; exact hx2, hx3, hx4, hx5⟩ hx1 hok T' rfl X'
    exact ⟨t2, st t2 a1, b1⟩
  · obtain ⟨k1, k2, k3⟩ := vx_keep h0 e1 hS (fun q _ h => h) (fun q h => h) hL hF
    obtain ⟨t2, a1, b1⟩ := kx E' ad' q ce T'.heap (locs ++ L) hr1 hE ⟨hbs, k3, by rw [e1]; exact hx2, hx3, hx4, hx5⟩ hx1 (by rw [e1]; exact hce) hcv hcl T' rfl X'
    exact ⟨t2, st.trans a1, b1⟩
theorem ak_plain {k mc ms : Nat} {as : List Value} {M : ak_M} {r : ak_O × ak_M} {ad : Nat → Nat} {v : Option Value} (hr : r.1 = .inl v) (h : vx_Met l (am_Y k) (am_ws k) (ak_rm k mc ms) (ak_Pc X D dA ac base ad M as) (ak_Q D dA ac base ad M r) (ak_XC D dA ac base ad M r) mc ms (ak_A base)) :
    Met l (am_Y k) (am_ws k) (ak_rm k mc ms) (ak_Pc X D dA ac base ad M as) (ak_Q D dA ac base ad M r) mc ms (ak_A base) := by
  refine MetFree.mono h (fun _ _ h => h) (fun _ _ _ _ _ h => h) (fun a st o t _ hq => ?_)
  rcases hq with hq | ⟨q, -, E, ce, L, ⟨⟨k9, -, h9, -⟩, -⟩, -⟩
  · exact hq
  · rw [hr] at h9; cases h9
theorem ak_rx {mc ms cells slots : Nat} {g : JFrame} {rest : List Value} {H : Heap} {locs : List Loc} {Qa : State → Outcome → State → Prop} {XC : String → State → State → Prop} {free : Addr → Prop} (h : va_Run p l e R s m args below meth c H locs cells slots mc ms g rest Qa free) : vx_Run p l e R s m args below meth c H locs cells slots mc ms g rest Qa XC free := fun T hT X => Or.inl (h T hT X)
set_option maxHeartbeats 2000000 in
theorem ak_calls {n mi pc cal : Nat} (IH : ak_snd X D dA ac base n) {l1 : List (Option Value)} {l2 : List (Nat × Value)} {st as : List Value} {M M1 : ak_M} {g : ak_F} {r1 : ak_O × ak_M} {ad : Nat → Nat} {H : Heap} {locs : List Loc} {cells slots mc ms : Nat} {ls : Array Slot}
    (C : ak_cx p l R s m args meth c mi) (hA : ak_amb X D dA ac (ak_A base) s s.heap) (hS : ak_S X mi (pc, l1, l2, st) M = some (.inr (.inr (cal, as, g, M1)))) (hgo : ak_go X n cal (ak_en cal as) M1 = some r1) (hM : ak_mi D dA ac base s H locs ad M) (hF : ak_fi ad M ls (am_X mi) l1 l2 st)
    (hm1 : ak_C M + mc = ak_C r1.2) (hm2 : ak_Z M + ms = ak_Z r1.2) (hb1 : cells + mc ≤ R.cells) (hb2 : slots + ms ≤ R.slots) (hplain : ∀ E, r1.1 = .inr E → am_th.contains cal = true)
    (kx : ∀ (E : Nat) (ad' : Nat → Nat) (q : Addr) (ce : Cell) (H1 : Heap) (locs1 : List Loc), r1.1 = .inr E → E < 3 → ak_mi D dA ac base s H1 locs1 ad' r1.2 → (∀ x, ak_okP M x → ad' x = ad x) → H1[q]? = some ce → ce.vm = .none → s.vm.findClass (am_E E) = some ce.cls → vx_W p l e R s m args below meth c H1 locs1 (cells + mc) (slots + ms) Q (F0 m pc ls (g.2.2.2.map (ak_v ad))) q)
    (kk : ∀ (v : Option Value) (ad' : Nat → Nat) (H1 : Heap) (locs1 : List Loc), r1.1 = .inl v → ak_mi D dA ac base s H1 locs1 ad' r1.2 → (∀ x, ak_okP M x → ad' x = ad x) → (∀ w, v = some w → ak_okV r1.2 w) → W p l e R s m args below meth c H1 locs1 (cells + mc) (slots + ms) Q (F0 m (pc + 3) ls ((v.map (ak_v ad')).toList ++ g.2.2.2.map (ak_v ad)))) :
    W p l e R s m args below meth c H locs cells slots Q (F0 m pc ls (st.map (ak_v ad))) := by
  have CX := C
  obtain ⟨hx, hb, hown, hts, hml, hrt, hlocks, hnm, htab, htr, hfr, hlo, hmi⟩ := C
  obtain ⟨hbs, hSv, hP, hD, hO, hac⟩ := hM
  obtain ⟨ins, hi, hS2⟩ := ak_Sx hS
  clear hS
  obtain ⟨nn, hd, hn⟩ := ak_code hmi hi
  have hins : ∃ idx vt, ak_inv X mi idx vt pc l1 l2 st M = some (.inr (.inr (cal, as, g, M1))) ∧ ((vt = 0 ∧ decode (am_B mi) pc = .ok (.invokevirtual idx, 3)) ∨ (vt = 1 ∧ decode (am_B mi) pc = .ok (.invokestatic idx, 3)) ∨ (vt = 2 ∧ decode (am_B mi) pc = .ok (.invokespecial idx, 3))) := by
    rcases ak_kinds hS2 with hk | ⟨-, r, hr⟩
    · cases ins with
      | invokevirtual idx => exact ⟨idx, 0, hS2, Or.inl ⟨rfl, ak_d1 hd hn (k := 2) rfl⟩⟩
      | invokestatic idx => exact ⟨idx, 1, hS2, Or.inr (Or.inl ⟨rfl, ak_d1 hd hn (k := 2) rfl⟩)⟩
      | invokespecial idx => exact ⟨idx, 2, hS2, Or.inr (Or.inr ⟨rfl, ak_d1 hd hn (k := 2) rfl⟩)⟩
      | _ => cases hk
    · cases hr
  obtain ⟨idx, vt, hinv, hdec⟩ := hins
  obtain ⟨kind, w, rest, hL, rfl, rfl, hcat, hrk, hlen, hN, hcase⟩ := ak_invc hinv
  obtain ⟨iL, iA, iB, iC⟩ := w
  have hs := am_Ls hmi hL
  unfold am_kK1 at hs
  dsimp only at hs
  rw [Bool.and_eq_true] at hs
  obtain ⟨hcal, hs⟩ := hs
  have hcal : cal < 364 := Nat.le_of_ble_eq_true hcal
  obtain ⟨hpl, hMH, hpar, hcn, hX40, hG, hcls⟩ := am_hs hcal
  have hvs : ∀ v ∈ as, ak_okV M1 v := by
    intro v hv
    refine hF.1 v ?_
    rcases hcase with ⟨-, -, q, hd9, -, rfl⟩ | ⟨-, -, -, rfl⟩ | ⟨-, -, q, hd9, -, rfl⟩
    · rcases List.mem_cons.mp hv with rfl | hv
      · exact List.mem_of_mem_drop (by rw [hd9]; exact List.mem_cons_self)
      · exact List.mem_of_mem_take (List.mem_reverse.mp hv)
    · exact List.mem_of_mem_take (List.mem_reverse.mp hv)
    · rcases List.mem_cons.mp hv with rfl | hv
      · exact List.mem_of_mem_drop (by rw [hd9]; exact List.mem_cons_self)
      · exact List.mem_of_mem_take (List.mem_reverse.mp hv)
  have hmet := ak_met IH htr hcal hgo hO hvs hlen hac (mc := mc) (ms := ms) (by omega) (by omega)
  have hPre : ∀ U : State, U.heap = H → s.WarmedH U.vm → ak_Pc X D dA ac base ad M1 as (as.map (ak_v ad)).toArray U := by
    intro U hU hW
    refine ⟨rfl, ?_, ?_, by rw [hU]; exact hP, hD⟩
    · rw [hU]; exact Nat.le_trans hbs hSv.1
    · rw [hU]; exact (hA.kept (fun a h1 h2 => hSv.2.1 a h1 h2)).warm hW
  have hroom : (ak_rm cal mc ms).frames + 1 ≤ R.frames ∧ 8 + (am_X cal + 11) + (ak_rm cal mc ms).locals ≤ R.locals := by
    show am_K cal + 1 ≤ R.frames ∧ 8 + (am_X cal + 11) + am_Q cal ≤ R.locals
    omega
  have hsz : (F0 m pc ls (st.map (ak_v ad))).locals.size = am_X mi := hF.2.2.1
  have hcw : 2 * (F0 m pc ls (st.map (ak_v ad))).monitorRoom + ((rest.map (ak_v ad)).map fun v => v.category).sum ≤ 8 := by
    rw [ak_catm]
    show 2 * 0 + _ ≤ 8
    omega
  have fix : CallFix p m c (am_B mi) (am_X mi) s args am_w (am_cn (am_O mi)) := ⟨hx, hb, hml, hown, hts⟩
  have hpn : ((parseMethodDescriptor (am_Y cal).desc).map (fun d => d.parameters.length)) = some (am_N cal) := hpar
  have hAn : ((st.take (am_N cal)).reverse.map (ak_v ad)).length = am_N cal := by rw [List.length_map, List.length_reverse, List.length_take]; omega
  have hgood : ∀ {i : Nat} {w : Jvm.Cond}, am_ok i w = true → w ∈ am_w ∧ ((w.onTables && w.keeps) = true ∨ ∃ ty, w = .arrayClass ty) := fun h => ⟨am_w_of h, ak_goodw (am_w_of h)⟩
  have hgoodin : ∀ {w : Jvm.Cond}, am_in w = true → w ∈ am_w ∧ ((w.onTables && w.keeps) = true ∨ ∃ ty, w = .arrayClass ty) := by
    intro w h
    unfold am_in at h
    rw [Bool.and_eq_true] at h
    have hm : w ∈ am_w := List.mem_filter.mpr ⟨of_decide_eq_true h.1, h.2⟩
    exact ⟨hm, ak_goodw hm⟩
  have hrev : ((st.take (am_N cal)).reverse.map (ak_v ad)).reverse = (st.take (am_N cal)).map (ak_v ad) := by rw [← List.map_reverse, List.reverse_reverse]
  have hwc : am_H cal = [] → am_ws cal = Jvm.Cond.code (am_Y cal) (am_B cal) (am_X cal) (am_R cal) :: am_w := by intro h; unfold am_ws; rw [h]
  have recvSB : ∀ q : Nat, ak_rc M1 q = 12 → ∃ cellB : Cell, H[ad q]? = some cellB ∧ cellB.vm.isStatics = false ∧ s.vm.findClass ax_SB = some cellB.cls := by
    intro q hrc
    unfold ak_rc at hrc
    split at hrc
    · rename_i hq
      exact va_recv hA.1 hP (show vwCl[12]? = some (RJ4, TJ4, 4) from rfl) (ak_wobj hq hrc (by omega))
    · split at hrc <;> omega
  rcases hcase with ⟨rfl, hk, q, hd9, hrc, rfl⟩ | ⟨rfl, hk, rfl, rfl⟩ | ⟨rfl, hk, q, hd9, hsu, rfl⟩
  · -- virtual
    have hd0 : decode (am_B mi) pc = .ok (.invokevirtual idx, 3) := by
      rcases hdec with h | h | h
      · exact h.2
      · cases h.1
      · cases h.1
    have hst : (F0 m pc ls (st.map (ak_v ad))).stack = ((st.take (am_N cal)).reverse.map (ak_v ad)).reverse ++ .ref (ad q) :: rest.map (ak_v ad) := by
      show st.map (ak_v ad) = _
      rw [hrev]
      conv => lhs; rw [← List.take_append_drop (am_N cal) st, List.map_append, hd9]
      rfl
    rcases hk with rfl | rfl | rfl
    · rw [if_pos rfl] at hrc
      simp only [Bool.and_eq_true] at hs
      obtain ⟨⟨⟨⟨⟨g1, g2⟩, g3⟩, g4⟩, g5⟩, g6⟩ := hs
      have hH := List.isEmpty_iff.mp g5
      have g6 : am_C cal < 14 := Nat.le_of_ble_eq_true g6
      have hGV : GoodIn am_w (wsV (am_cn (am_O mi)) idx (am_Y cal).cls (am_Y cal) (am_ws cal)) := by
        intro w hw
        unfold wsV at hw
        rcases List.mem_append.mp hw with hw | hw
        · simp only [List.mem_cons, List.not_mem_nil, or_false] at hw
          rcases hw with rfl | rfl | rfl | rfl
          · exact hgood g1
          · exact hgood g2
          · exact hgood g3
          · exact hgood g4
        · exact hG w hw
      have hrecv : ∃ cellB : Cell, H[ad q]? = some cellB ∧ cellB.vm.isStatics = false ∧ s.vm.findClass (am_Y cal).cls = some cellB.cls := by
        rcases hcls with ⟨r9, hr9, hr8⟩ | h60
        · unfold ak_rc at hrc
          split at hrc
          · rename_i hq
            rw [← hr8]
            exact va_recv hA.1 hP hr9 (ak_wobj hq hrc g6)
          · split at hrc
            · rename_i hq
              obtain ⟨q, rfl⟩ : ∃ q9 : Nat, q9 = q := ⟨q, rfl⟩
              have hq1 : @LE.le Nat _ 1001000 q := hq.1
              have hq2 : @LT.lt Nat _ q 1001025 := hq.2
              obtain ⟨j, rfl⟩ : ∃ j : Nat, q = 1001000 + j := ⟨q - 1001000, by omega⟩
              obtain ⟨cell, c1, c2, c3, -⟩ := ((hA.2.2.2.2.2.1 j (by omega)).2.1).kept hSv.2.1
              rw [← hrc] at hr9
              have h51 : r9 = (RJ0, TJ0, 4) := (Option.some.inj hr9).symm
              rw [hac _ (by omega) (by omega), ← hr8, h51]
              exact ⟨cell, c1, c2, c3⟩
            · omega
        · omega
      exact ak_ran (vx_runV (As := (st.take (am_N cal)).reverse.map (ak_v ad)) (rest := rest.map (ak_v ad)) (b := ad q) fix hmet (cwV (am_N cal) hts hGV (hwc hH) rfl rfl ⟨rfl, hMH.1, hMH.2, hpn⟩ hroom) ⟨ak_blind, hrecv, hPre⟩ rfl hAn hsz hst hcw hd0 ⟨hb1, hb2⟩) hbs hSv kx kk
    · rw [if_neg (by decide)] at hrc
      simp only [Bool.and_eq_true] at hs
      obtain ⟨⟨⟨⟨⟨g1, g2⟩, g3⟩, g4⟩, g5⟩, g6⟩ := hs
      have hH := List.isEmpty_iff.mp g5
      have hth := am_Tm hmi hL (by decide)
      obtain ⟨v, hv⟩ : ∃ v, r1.1 = .inl v := by
        cases h : r1.1 with
        | inl v => exact ⟨v, rfl⟩
        | inr E => rw [hplain E h] at hth; cases hth
      have hGV : GoodIn am_w (va_wsU (am_cn (am_O mi)) idx ax_SB (am_Y cal).cls (am_Y cal) (am_Y cal) (am_ws cal)) := by
        intro w hw
        unfold va_wsU at hw
        rcases List.mem_append.mp hw with hw | hw
        · simp only [List.mem_cons, List.not_mem_nil, or_false] at hw
          rcases hw with rfl | rfl | rfl | rfl | rfl
          · exact hgood g1
          · exact hgoodin g6
          · exact hgood g3
          · exact hgood g2
          · exact hgood g4
        · exact hG w hw
      exact ak_ran (ak_rx (va_runU (As := (st.take (am_N cal)).reverse.map (ak_v ad)) (rest := rest.map (ak_v ad)) (b := ad q) fix (ak_plain hv hmet) (va_cwU (am_N cal) hts hGV (hwc hH) rfl rfl rfl ⟨hMH.1, hMH.2, hpn⟩ hroom) ⟨ak_blind, recvSB q hrc, hPre⟩ rfl hAn hsz hst hcw hd0 ⟨hb1, hb2⟩)) hbs hSv kx kk
    · rw [if_neg (by decide)] at hrc
      simp only [Bool.and_eq_true, decide_eq_true_eq] at hs
      obtain ⟨⟨⟨⟨⟨⟨⟨⟨g1, g2⟩, g3⟩, g4⟩, g5⟩, g6⟩, g7⟩, g8⟩, g9⟩ := hs
      have hH := List.isEmpty_iff.mp g5
      have hth := am_Tm hmi hL (by decide)
      obtain ⟨v, hv⟩ : ∃ v, r1.1 = .inl v := by
        cases h : r1.1 with
        | inl v => exact ⟨v, rfl⟩
        | inr E => rw [hplain E h] at hth; cases hth
      have hGV : GoodIn am_w (va_wsO (am_cn (am_O mi)) idx ax_SB ax_ASB ⟨ax_ASB, (am_Y cal).name, (am_Y cal).desc⟩ (am_Y cal) (am_ws cal)) := by
        intro w hw
        unfold va_wsO at hw
        rcases List.mem_append.mp hw with hw | hw
        · simp only [List.mem_cons, List.not_mem_nil, or_false] at hw
          rcases hw with rfl | rfl | rfl | rfl | rfl | rfl
          · exact hgood g1
          · exact hgoodin g6
          · exact hgoodin g7
          · exact hgood g3
          · exact hgood g2
          · exact hgoodin g4
        · exact hG w hw
      exact ak_ran (ak_rx (va_runU (As := (st.take (am_N cal)).reverse.map (ak_v ad)) (rest := rest.map (ak_v ad)) (b := ad q) fix (ak_plain hv hmet) (va_cwO (am_N cal) hts hGV (hwc hH) rfl rfl (am_w_of g9) ⟨by decide, by decide, hpn⟩ hroom) ⟨ak_blind, recvSB q hrc, hPre⟩ rfl hAn hsz hst hcw hd0 ⟨hb1, hb2⟩)) hbs hSv kx kk
  · -- static
    have hd0 : decode (am_B mi) pc = .ok (.invokestatic idx, 3) := by
      rcases hdec with h | h | h
      · cases h.1
      · exact h.2
      · cases h.1
    have hst : (F0 m pc ls (st.map (ak_v ad))).stack = ((st.take (am_N cal)).reverse.map (ak_v ad)).reverse ++ (st.drop (am_N cal)).map (ak_v ad) := by
      show st.map (ak_v ad) = _
      rw [hrev, ← List.map_append, List.take_append_drop]
    rcases hk with rfl | rfl
    · simp only [Bool.and_eq_true] at hs
      obtain ⟨⟨g1, g2⟩, g3⟩ := hs
      have hGS : GoodIn am_w (va_wsS (am_cn (am_O mi)) idx (am_Y cal) (am_ws cal)) := by
        intro w hw
        unfold va_wsS at hw
        rcases List.mem_append.mp hw with hw | hw
        · simp only [List.mem_cons, List.not_mem_nil, or_false] at hw
          rcases hw with rfl | rfl | rfl
          · exact hgood g1
          · exact hgood g2
          · exact hgood g3
        · exact hG w hw
      cases hH : am_H cal with
      | nil => exact ak_ran (vx_runS (As := (st.take (am_N cal)).reverse.map (ak_v ad)) (rest := (st.drop (am_N cal)).map (ak_v ad)) fix hmet (va_cwS (am_N cal) hts hGS (hwc hH) rfl rfl ⟨hMH.1, hMH.2, hpn⟩ hroom) ⟨ak_blind, hPre⟩ rfl hAn hsz hst hcw hd0 ⟨hb1, hb2⟩) hbs hSv kx kk
      | cons h9 hh9 =>
        have hwh : am_ws cal = Jvm.Cond.codeWith (am_Y cal) (am_B cal) (am_X cal) (am_R cal) (h9 :: hh9) :: am_w := by unfold am_ws; rw [hH]
        exact ak_ran (vx_runSX (As := (st.take (am_N cal)).reverse.map (ak_v ad)) (rest := (st.drop (am_N cal)).map (ak_v ad)) fix hmet (vx_cwSW (am_N cal) hts hGS hwh rfl rfl ⟨hMH.1, hMH.2, hpn⟩ hroom) ⟨ak_blind, hPre⟩ rfl hAn hsz hst hcw hd0 ⟨hb1, hb2⟩) hbs hSv kx kk
    · simp only [Bool.and_eq_true] at hs
      obtain ⟨⟨⟨⟨g1, g2⟩, g3⟩, g4⟩, g5⟩ := hs
      have hH := List.isEmpty_iff.mp g4
      have hv : ∃ v, r1.1 = .inl v := by
        cases h : r1.1 with
        | inl v => exact ⟨v, rfl⟩
        | inr E => rw [hplain E h] at g5; cases g5
      obtain ⟨v, hv⟩ := hv
      exact ak_ran (ak_rx (va_runSN (As := (st.take (am_N cal)).reverse.map (ak_v ad)) (rest := (st.drop (am_N cal)).map (ak_v ad)) fix (ak_plain hv hmet) ⟨va_cnB (am_N cal) hts hG (hwc hH) rfl rfl (hA.2.2.2.2.2.2.2.2.1 _ (am_isb g1) rfl) (am_okb hts g3) ⟨hMH.1, hMH.2, hpn⟩ hroom, am_okb hts g2, trivial⟩ ⟨ak_blind, hPre⟩ rfl hAn hsz hst hcw hd0 ⟨hb1, hb2⟩)) hbs hSv kx kk
  · -- constructors
    have hd0 : decode (am_B mi) pc = .ok (.invokespecial idx, 3) := by
      rcases hdec with h | h | h
      · cases h.1
      · cases h.1
      · exact h.2
    have hst : (F0 m pc ls (st.map (ak_v ad))).stack = ((st.take (am_N cal)).reverse.map (ak_v ad)).reverse ++ .ref (ad q) :: rest.map (ak_v ad) := by
      show st.map (ak_v ad) = _
      rw [hrev]
      conv => lhs; rw [← List.take_append_drop (am_N cal) st, List.map_append, hd9]
      rfl
    have hv : am_th.contains cal = false → ∃ v, r1.1 = .inl v := by
      intro h9
      cases h : r1.1 with
      | inl v => exact ⟨v, rfl⟩
      | inr E => rw [hplain E h] at h9; cases h9
    rcases hk with rfl | rfl | rfl
    · simp only [Bool.and_eq_true, decide_eq_true_eq] at hs
      obtain ⟨⟨⟨⟨⟨⟨g1, g2⟩, g3⟩, g4⟩, g5⟩, g6⟩, g7⟩ := hs
      have hH := List.isEmpty_iff.mp g4
      have hw9 := hwc hH
      obtain ⟨v, hv⟩ := hv (by simpa using g7)
      rw [g6] at hw9
      exact ak_ran (ak_rx (va_runI (As := (st.take (am_N cal)).reverse.map (ak_v ad)) (rest := rest.map (ak_v ad)) (b := ad q) fix (ak_plain hv hmet) (cwI (am_N cal) hts hG hw9 rfl rfl (am_okb hts g3) (am_okb hts g1) (am_okb hts g2) g5 ⟨hMH.1, hMH.2, hpn⟩ hroom) ⟨ak_blind, hPre⟩ rfl hAn hsz hst hcw hd0 ⟨hb1, hb2⟩)) hbs hSv kx kk
    · simp only [Bool.and_eq_true, decide_eq_true_eq] at hs
      obtain ⟨⟨⟨⟨⟨⟨g1, g2⟩, g3⟩, g4⟩, g5⟩, g6⟩, g7⟩ := hs
      have hH := List.isEmpty_iff.mp g4
      have hw9 := hwc hH
      obtain ⟨v, hv⟩ := hv (by simpa using g7)
      rw [g6] at hw9
      exact ak_ran (ak_rx (va_runIN (As := (st.take (am_N cal)).reverse.map (ak_v ad)) (rest := rest.map (ak_v ad)) (b := ad q) fix (ak_plain hv hmet) ⟨va_cnB (am_N cal) hts hG hw9 rfl rfl (hA.2.2.2.2.2.2.2.2.1 _ (am_isb g1) rfl) (am_okb hts g3) ⟨hMH.1, hMH.2, hpn⟩ hroom, g5, am_okb hts g2⟩ ⟨ak_blind, hPre⟩ rfl hAn hsz hst hcw hd0 ⟨hb1, hb2⟩)) hbs hSv kx kk
    · simp only [Bool.and_eq_true, decide_eq_true_eq] at hs
      obtain ⟨⟨⟨⟨⟨⟨g1, g2⟩, g3⟩, g4⟩, g5⟩, g6⟩, g7⟩ := hs
      have hH := List.isEmpty_iff.mp g5
      obtain ⟨v, hv⟩ := hv (am_Tm hmi hL (by decide))
      have hGV : GoodIn am_w (va_wsSU (am_cn (am_O mi)) idx (am_Y cal) (am_ws cal)) := by
        intro w hw
        unfold va_wsSU at hw
        rcases List.mem_append.mp hw with hw | hw
        · simp only [List.mem_cons, List.not_mem_nil, or_false] at hw
          rcases hw with rfl | rfl | rfl | rfl | rfl
          · exact hgood g1
          · exact hgoodin g6
          · exact hgood g3
          · exact hgood g2
          · exact hgood g4
        · exact hG w hw
      have hat : ClassAt s ax_SB (D.1 12) := (hA.1.1 12 (RJ4, TJ4, 4) rfl).2
      exact ak_ran (ak_rx (va_runSU (As := (st.take (am_N cal)).reverse.map (ak_v ad)) (rest := rest.map (ak_v ad)) (b := ad q) hat fix (ak_plain hv hmet) (va_cwSU (am_N cal) hts hGV (hwc hH) rfl rfl ⟨g7, hpn⟩ hroom) ⟨ak_blind, recvSB q (hsu rfl), hPre⟩ rfl hAn hsz hst hcw hd0 ⟨hb1, hb2⟩)) hbs hSv kx kk
end AKJ
end
section
/-! one step: what grows, what stays -/
def ak_le (M M' : ak_M) : Prop := ak_C M ≤ ak_C M' ∧ ak_Z M ≤ ak_Z M' ∧ ak_P M ≤ ak_P M'
theorem ak_le.rf {M : ak_M} : ak_le M M := ⟨Nat.le_refl _, Nat.le_refl _, Nat.le_refl _⟩
theorem ak_le.tr {A B C : ak_M} (h : ak_le A B) (g : ak_le B C) : ak_le A C := ⟨Nat.le_trans h.1 g.1, Nat.le_trans h.2.1 g.2.1, Nat.le_trans h.2.2 g.2.2⟩
def ak_le2 (M : ak_M) (a : Option ak_Act) : Prop := ∀ f' M', a = some (.inl (f', M')) → ak_le M M'
theorem ak_le2.n {pc : Nat} {l1 : List (Option Value)} {l2 : List (Nat × Value)} {st : List Value} {M M1 : ak_M} (h : ak_le M M1) : ak_le2 M (ak_n pc l1 l2 st M1) := by
  intro f' M' h1
  obtain ⟨-, rfl⟩ := ak_inj h1
  exact h
theorem ak_le2.no {M : ak_M} : ak_le2 M none := fun f' M' h => by cases h
theorem ak_le2.j {pc : Nat} {off : Int} {l1 : List (Option Value)} {l2 : List (Nat × Value)} {st : List Value} {M : ak_M} : ak_le2 M (ak_j pc off l1 l2 st M) := by
  unfold ak_j; split
  · exact ak_le2.n ak_le.rf
  · exact ak_le2.no
theorem ak_le2.s1 {i pc : Nat} {v : Value} {l1 : List (Option Value)} {l2 : List (Nat × Value)} {st : List Value} {M : ak_M} : ak_le2 M (ak_s1 i v pc l1 l2 st M) := by
  unfold ak_s1; split
  · exact ak_le2.n ak_le.rf
  · exact ak_le2.no
theorem ak_le2.s2 {i pc : Nat} {v : Value} {l1 : List (Option Value)} {l2 : List (Nat × Value)} {st : List Value} {M : ak_M} : ak_le2 M (ak_s2 i v pc l1 l2 st M) := by
  unfold ak_s2; split
  · exact ak_le2.n ak_le.rf
  · exact ak_le2.no
theorem ak_le2.ld {i n pc : Nat} {ok : Value → Bool} {l1 : List (Option Value)} {l2 : List (Nat × Value)} {st : List Value} {M : ak_M} : ak_le2 M (ak_ld i n pc ok l1 l2 st M) := by
  unfold ak_ld; split
  · split
    · exact ak_le2.n ak_le.rf
    · exact ak_le2.no
  · exact ak_le2.no
theorem ak_le2.ld2 {i n pc : Nat} {ok : Value → Bool} {l1 : List (Option Value)} {l2 : List (Nat × Value)} {st : List Value} {M : ak_M} : ak_le2 M (ak_ld2 i n pc ok l1 l2 st M) := by
  unfold ak_ld2; split
  · split
    · exact ak_le2.n ak_le.rf
    · exact ak_le2.no
  · exact ak_le2.no
theorem ak_le2.inv {X : ak_X} {mi idx vt pc : Nat} {l1 : List (Option Value)} {l2 : List (Nat × Value)} {st : List Value} {M : ak_M} : ak_le2 M (ak_inv X mi idx vt pc l1 l2 st M) := by
  unfold ak_inv ak_call
  repeat' split
  all_goals first | exact ak_le2.no | exact ak_le2.n ak_le.rf | exact ak_le2.n ⟨Nat.le_refl _, Nat.le_refl _, Nat.le_refl _⟩ | exact ak_le2.n ⟨Nat.le_succ _, Nat.le_add_right _ _, Nat.le_succ _⟩ | exact (fun f' M' h => by cases h)
set_option maxHeartbeats 2000000 in
theorem ak_grow {X : ak_X} {mi : Nat} {ins : Instr} {pc : Nat} {l1 : List (Option Value)} {l2 : List (Nat × Value)} {st : List Value} {M : ak_M} : ak_le2 M (ak_x X mi ins pc l1 l2 st M) := by
  cases ins with
  | ifCond c _ =>
    cases c <;> simp only [ak_x] <;> (repeat' split) <;> first | exact ak_le2.no | exact ak_le2.n ak_le.rf | exact ak_le2.j
  | if_icmp c _ =>
    cases c <;> simp only [ak_x] <;> (repeat' split) <;> first | exact ak_le2.no | exact ak_le2.n ak_le.rf | exact ak_le2.j
  | _ =>
    simp only [ak_x]
    repeat' split
    all_goals first
      | exact ak_le2.no
      | exact ak_le2.n ak_le.rf
      | exact ak_le2.j
      | exact ak_le2.s1
      | exact ak_le2.s2
      | exact ak_le2.ld
      | exact ak_le2.ld2
      | exact ak_le2.inv
      | exact ak_le2.n ⟨Nat.le_succ _, Nat.le_add_right _ _, Nat.le_succ _⟩
      | exact ak_le2.n ⟨Nat.le_trans (Nat.le_succ _) (Nat.le_add_right _ _), Nat.le_trans (Nat.le_add_right _ _) (Nat.le_add_right _ _), Nat.le_trans (Nat.le_succ _) (Nat.le_add_right _ _)⟩
      | exact (fun f' M' h => by unfold ak_e at h; cases h)
/-- a pure step leaves the memory -/
def ak_eq2 (M : ak_M) (a : Option ak_Act) : Prop := ∀ f' M', a = some (.inl (f', M')) → M' = M
theorem ak_eq2.n {pc : Nat} {l1 : List (Option Value)} {l2 : List (Nat × Value)} {st : List Value} {M : ak_M} : ak_eq2 M (ak_n pc l1 l2 st M) := by
  intro f' M' h1
  exact (ak_inj h1).2
theorem ak_eq2.no {M : ak_M} : ak_eq2 M none := fun f' M' h => by cases h
theorem ak_eq2.j {pc : Nat} {off : Int} {l1 : List (Option Value)} {l2 : List (Nat × Value)} {st : List Value} {M : ak_M} : ak_eq2 M (ak_j pc off l1 l2 st M) := by
  unfold ak_j; split
  · exact ak_eq2.n
  · exact ak_eq2.no
theorem ak_eq2.s1 {i pc : Nat} {v : Value} {l1 : List (Option Value)} {l2 : List (Nat × Value)} {st : List Value} {M : ak_M} : ak_eq2 M (ak_s1 i v pc l1 l2 st M) := by
  unfold ak_s1; split
  · exact ak_eq2.n
  · exact ak_eq2.no
theorem ak_eq2.s2 {i pc : Nat} {v : Value} {l1 : List (Option Value)} {l2 : List (Nat × Value)} {st : List Value} {M : ak_M} : ak_eq2 M (ak_s2 i v pc l1 l2 st M) := by
  unfold ak_s2; split
  · exact ak_eq2.n
  · exact ak_eq2.no
theorem ak_eq2.ld {i n pc : Nat} {ok : Value → Bool} {l1 : List (Option Value)} {l2 : List (Nat × Value)} {st : List Value} {M : ak_M} : ak_eq2 M (ak_ld i n pc ok l1 l2 st M) := by
  unfold ak_ld; split
  · split
    · exact ak_eq2.n
    · exact ak_eq2.no
  · exact ak_eq2.no
theorem ak_eq2.ld2 {i n pc : Nat} {ok : Value → Bool} {l1 : List (Option Value)} {l2 : List (Nat × Value)} {st : List Value} {M : ak_M} : ak_eq2 M (ak_ld2 i n pc ok l1 l2 st M) := by
  unfold ak_ld2; split
  · split
    · exact ak_eq2.n
    · exact ak_eq2.no
  · exact ak_eq2.no
def ak_isM : Instr → Bool
  | .putfield _ => true | .new _ => true | .newarray _ => true | .anewarray _ => true | .multianewarray _ _ => true
  | .iastore => true | .bastore => true | .aastore => true | .invokevirtual _ => true | .invokestatic _ => true | .invokespecial _ => true
  | _ => false
set_option maxHeartbeats 2000000 in
theorem ak_same {X : ak_X} {mi : Nat} {ins : Instr} (hi : ak_isM ins = false) {pc : Nat} {l1 : List (Option Value)} {l2 : List (Nat × Value)} {st : List Value} {M : ak_M} : ak_eq2 M (ak_x X mi ins pc l1 l2 st M) := by
  cases ins with
  | ifCond c _ =>
    cases c <;> simp only [ak_x] <;> (repeat' split) <;> first | exact ak_eq2.no | exact ak_eq2.n | exact ak_eq2.j
  | if_icmp c _ =>
    cases c <;> simp only [ak_x] <;> (repeat' split) <;> first | exact ak_eq2.no | exact ak_eq2.n | exact ak_eq2.j
  | putfield _ => cases hi
  | new _ => cases hi
  | newarray _ => cases hi
  | anewarray _ => cases hi
  | multianewarray _ _ => cases hi
  | iastore => cases hi
  | bastore => cases hi
  | aastore => cases hi
  | invokevirtual _ => cases hi
  | invokestatic _ => cases hi
  | invokespecial _ => cases hi
  | _ =>
    simp only [ak_x]
    repeat' split
    all_goals first
      | exact ak_eq2.no
      | exact ak_eq2.n
      | exact ak_eq2.j
      | exact ak_eq2.s1
      | exact ak_eq2.s2
      | exact ak_eq2.ld
      | exact ak_eq2.ld2
      | exact (fun f' M' h => by unfold ak_e at h; cases h)
theorem ak_endle {X : ak_X} {mi : Nat} {f : ak_F} {M : ak_M} {r : ak_O × ak_M} (h : ak_S X mi f M = some (.inr (.inl r))) : ak_le M r.2 := by
  obtain ⟨pc, l1, l2, st⟩ := f
  obtain ⟨ins, -, hS⟩ := ak_Sx h
  rcases ak_kinds hS with hk | ⟨hk, -⟩
  · exfalso
    cases ins <;> first | (cases hk; done) | exact absurd hS ak_incl
  · cases ins with
    | ireturn =>
      simp only [ak_x, ak_e] at hS
      repeat' (split at hS)
      all_goals first | (cases hS; done) | (cases hS; exact ak_le.rf)
    | areturn =>
      simp only [ak_x, ak_e] at hS
      repeat' (split at hS)
      all_goals first | (cases hS; done) | (cases hS; exact ak_le.rf)
    | freturn =>
      simp only [ak_x, ak_e] at hS
      repeat' (split at hS)
      all_goals first | (cases hS; done) | (cases hS; exact ak_le.rf)
    | dreturn =>
      simp only [ak_x, ak_e] at hS
      repeat' (split at hS)
      all_goals first | (cases hS; done) | (cases hS; exact ak_le.rf)
    | return_ =>
      simp only [ak_x, ak_e] at hS
      repeat' (split at hS)
      all_goals first | (cases hS; done) | (cases hS; exact ak_le.rf)
    | new _ =>
      simp only [ak_x, ak_e] at hS
      repeat' (split at hS)
      all_goals first | (cases hS; done) | (exact absurd hS ak_nne) | (cases hS; exact ⟨Nat.le_succ _, Nat.le_add_right _ _, Nat.le_refl _⟩)
    | _ => cases hk
theorem ak_mono {X : ak_X} : ∀ (n mi : Nat) (f : ak_F) (M : ak_M) (r : ak_O × ak_M), ak_go X n mi f M = some r → ak_le M r.2
  | 0, mi, f, M, r, h => by cases h
  | n + 1, mi, f, M, r, h => by
    unfold ak_go at h
    split at h
    · cases h
    · rename_i f' M' hS
      obtain ⟨pc, l1, l2, st⟩ := f
      obtain ⟨ins, -, hS2⟩ := ak_Sx hS
      exact (ak_grow f' M' hS2).tr (ak_mono n mi f' M' r h)
    · rename_i r' hS
      cases h
      exact ak_endle hS
    · rename_i cal as g M1 hS
      have hM1 : M1 = M := by
        obtain ⟨pc, l1, l2, st⟩ := f
        obtain ⟨ins, -, hS2⟩ := ak_Sx hS
        have : ∃ idx vt, ak_inv X mi idx vt pc l1 l2 st M = some (.inr (.inr (cal, as, g, M1))) := by
          rcases ak_kinds hS2 with hk | ⟨-, r, hr⟩
          · cases ins with
            | invokevirtual idx => exact ⟨idx, 0, hS2⟩
            | invokestatic idx => exact ⟨idx, 1, hS2⟩
            | invokespecial idx => exact ⟨idx, 2, hS2⟩
            | _ => cases hk
          · cases hr
        obtain ⟨idx, vt, h9⟩ := this
        obtain ⟨_, _, _, _, h8, -⟩ := ak_invc h9
        exact h8
      subst hM1
      split at h
      · cases h
      · rename_i v M2 h1
        exact (ak_mono n cal _ _ _ h1).tr (ak_mono n mi _ _ r h)
      · rename_i E M2 h1
        have h2 := ak_mono n cal _ _ _ h1
        split at h
        · split at h
          · cases h; exact h2
          · split at h
            · exact (h2.tr (show ak_le M2 (ak_use M2 1 0) from ⟨Nat.le_succ _, Nat.le_refl _, Nat.le_refl _⟩)).tr (ak_mono n mi _ (ak_use M2 1 0) r h)
            · cases h
        · cases h
end
section
/-! from one frame to the next, and a whole run -/
section AKN
variable {p : Program} {l : Launch} {e : Env} {R : Room} {s : State} {m : MethodId} {args : Array Value} {below : List Frame} {meth : Method} {c : Code} {Q : State → Prop}
variable {X : ak_X} {D : va_G} {dA : Nat → ClassId} {ac : Nat → Nat} {base : Nat}
theorem ak_okV_eq {M M' : ak_M} (h : ak_P M' = ak_P M ∧ ak_C M' = ak_C M ∧ ak_Z M' = ak_Z M) {v : Value} (hv : ak_okV M v) : ak_okV M' v := by
  cases v with
  | ref q =>
    have hv : ak_okP M q := hv
    show ak_okP M' q
    unfold ak_okP at *
    rw [h.1, h.2.1]; exact hv
  | _ => trivial
theorem ak_invn {X : ak_X} {mi idx vt pc : Nat} {l1 : List (Option Value)} {l2 : List (Nat × Value)} {st : List Value} {M M' : ak_M} {f' : ak_F} (h : ak_inv X mi idx vt pc l1 l2 st M = some (.inl (f', M'))) :
    ∃ (cal : Nat) (w : Nat × Nat × Nat × Nat), (vt = 2 ∧ am_L mi idx = some (cal, 5, w) ∧ ∃ (q : Nat) (rest : List Value), st = .ref q :: rest ∧ ak_cat rest ≤ 8 ∧ ak_n (pc + 3) l1 l2 rest M = some (.inl (f', M'))) ∨
      (vt = 1 ∧ am_L mi idx = some (cal, 9, w) ∧ ∃ (n dp : Int32) (a : Nat) (sp : Int32) (b : Nat) (rest : List Value), st = .int n :: .int dp :: .ref a :: .int sp :: .ref b :: rest ∧
        (ak_cat rest ≤ 8 ∧ a < ak_P M ∧ ak_K M a = 101 ∧ ak_isb M b = true ∧ ¬ sp < 0 ∧ ¬ dp < 0 ∧ ¬ n < 0 ∧ sp.toNatClampNeg + n.toNatClampNeg ≤ ak_bn X M b ∧ dp.toNatClampNeg + n.toNatClampNeg ≤ ak_N M a ∧
            (List.range n.toNatClampNeg).all (fun i => ak_isB (ak_by X M b (sp.toNatClampNeg + i))) = true) ∧
        ak_n (pc + 3) l1 l2 rest (ak_cpy M (ak_by X M b) a sp.toNatClampNeg dp.toNatClampNeg n.toNatClampNeg) = some (.inl (f', M'))) ∨
      (vt = 0 ∧ am_L mi idx = some (cal, 10, w) ∧ ∃ (a : Nat) (rest : List Value), st = .ref a :: rest ∧
        (ak_cat rest ≤ 8 ∧ a < ak_P M ∧ ak_K M a = 101 ∧ ak_P M < 900000 ∧ (List.range (ak_N M a)).all (fun i => ak_isB (ak_I M a i)) = true) ∧
        ak_n (pc + 3) l1 l2 (.ref (ak_P M) :: rest) (ak_cln M (ak_I M a) (ak_N M a)) = some (.inl (f', M'))) := by
  unfold ak_inv ak_call at h
  split at h
  · cases h
  · rename_i cal kind w hL
    split at h
    · repeat' (split at h)
      all_goals cases h
    · split at h
      · repeat' (split at h)
        all_goals cases h
      · split at h
        · repeat' (split at h)
          all_goals cases h
        · split at h
          · repeat' (split at h)
            all_goals cases h
          · split at h
            · rename_i h0
              split at h
              · rename_i q rest
                split at h
                · rename_i hc
                  obtain ⟨h1, rfl⟩ := h0
                  exact ⟨cal, w, Or.inl ⟨h1, hL, q, rest, rfl, hc, h⟩⟩
                · cases h
              · cases h
            · split at h
              · rename_i h0
                split at h
                · rename_i n dp a sp b rest
                  split at h
                  · rename_i hc
                    obtain ⟨h1, rfl⟩ := h0
                    exact ⟨cal, w, Or.inr (Or.inl ⟨h1, hL, n, dp, a, sp, b, rest, rfl, hc, h⟩)⟩
                  · cases h
                · cases h
              · split at h
                · rename_i h0
                  split at h
                  · rename_i a rest
                    split at h
                    · rename_i hc
                      obtain ⟨h1, rfl⟩ := h0
                      exact ⟨cal, w, Or.inr (Or.inr ⟨h1, hL, a, rest, rfl, hc, h⟩)⟩
                    · cases h
                  · cases h
                · cases h
set_option maxHeartbeats 2000000 in
theorem ak_next {mi pc : Nat} {f' : ak_F} {M M' : ak_M} {l1 : List (Option Value)} {l2 : List (Nat × Value)} {st : List Value} {H : Heap} {locs : List Loc} {cells slots : Nat} {ls : Array Slot} {ad : Nat → Nat}
    (C : ak_cx p l R s m args meth c mi) (hA : ak_amb X D dA ac (ak_A base) s s.heap) (hS : ak_S X mi (pc, l1, l2, st) M = some (.inl (f', M'))) (hM : ak_mi D dA ac base s H locs ad M) (hF : ak_fi ad M ls (am_X mi) l1 l2 st)
    (hb1 : cells + ak_C M' ≤ R.cells + ak_C M) (hb2 : slots + ak_Z M' ≤ R.slots + ak_Z M)
    (kk : ∀ (ls' : Array Slot) (ad' : Nat → Nat) (H' : Heap) (locs' : List Loc) (y z : Nat), ak_mi D dA ac base s H' locs' ad' M' → ak_fi ad' M' ls' (am_X mi) f'.2.1 f'.2.2.1 f'.2.2.2 → (∀ x, ak_okP M x → ak_okP M' x ∧ ad' x = ad x) → ak_C M' = ak_C M + y → ak_Z M' = ak_Z M + z →
      W p l e R s m args below meth c H' locs' (cells + y) (slots + z) Q (F0 m f'.1 ls' (f'.2.2.2.map (ak_v ad')))) :
    W p l e R s m args below meth c H locs cells slots Q (F0 m pc ls (st.map (ak_v ad))) := by
  obtain ⟨ins, hi, hS2⟩ := ak_Sx hS
  clear hS
  have CX := C
  obtain ⟨nn, hd, hn⟩ := ak_code C.2.2.2.2.2.2.2.2.2.2.2.2 hi
  obtain ⟨hF1, hF2, hF3⟩ := hF
  by_cases hP : ak_isP ins = true
  · have hm : ak_isM ins = false := by cases ins <;> first | rfl | cases hP
    have e := ak_same hm f' M' hS2
    subst e
    exact ak_pure C hP hi hS2 ⟨hF1, hF2, hF3⟩ fun ls' hF' => kk ls' ad H locs 0 0 hM hF' (fun x hx => ⟨hx, rfl⟩) rfl rfl
  · have k2 : ∀ pc' st', ak_n pc' l1 l2 st' M = some (.inl (f', M')) → (∀ v ∈ st', ak_okV M v) → W p l e R s m args below meth c H locs cells slots Q (F0 m pc' ls (st'.map (ak_v ad))) := by
      intro pc' st' h h1
      obtain ⟨rfl, rfl⟩ := ak_inj h
      exact kk ls ad H locs 0 0 hM ⟨h1, hF2, hF3⟩ (fun x hx => ⟨hx, rfl⟩) rfl rfl
    have k3 : ∀ pc' st' H' locs', ak_n pc' l1 l2 st' M' = some (.inl (f', M')) → (∀ v ∈ st', ak_okV M v) → ak_mi D dA ac base s H' locs' ad M' → ak_P M' = ak_P M ∧ ak_C M' = ak_C M ∧ ak_Z M' = ak_Z M → W p l e R s m args below meth c H' locs' cells slots Q (F0 m pc' ls (st'.map (ak_v ad))) := by
      intro pc' st' H' locs' h h1 h2 h3
      obtain ⟨rfl, -⟩ := ak_inj h
      exact kk ls ad H' locs' 0 0 h2 ⟨fun v hv => ak_okV_eq h3 (h1 v hv), fun i v hv => ak_okV_eq h3 (hF2 i v hv), hF3⟩ (fun x hx => ⟨ak_okV_eq (v := .ref x) h3 hx, rfl⟩) h3.2.1 h3.2.2
    have k4 : ∀ pc' ad' st' H' locs' y z, ak_n pc' l1 l2 st' M' = some (.inl (f', M')) → (∀ v ∈ st', ak_okV M' v) → ak_mi D dA ac base s H' locs' ad' M' → (∀ x, ak_okP M x → ad' x = ad x) → ak_C M' = ak_C M + y ∧ ak_Z M' = ak_Z M + z ∧ (∀ v, ak_okV M v → ak_okV M' v) → W p l e R s m args below meth c H' locs' (cells + y) (slots + z) Q (F0 m pc' ls (st'.map (ak_v ad'))) := by
      intro pc' ad' st' H' locs' y z h h1 h2 h3 h4
      obtain ⟨rfl, -⟩ := ak_inj h
      exact kk ls ad' H' locs' y z h2 ⟨h1, fun i v hv => h4.2.2 v (hF2 i v hv), ak_l_ext h3 hF2 hF3⟩ (fun x hx => ⟨h4.2.2 (.ref x) hx, h3 x hx⟩) h4.1 h4.2.1
    cases ins with
    | getfield idx => exact ak_xget C hA (ak_d1 hd hn (k := 2) rfl) hM hS2 hF1 k2
    | putfield idx => exact ak_xput C hA hi (ak_d1 hd hn (k := 2) rfl) hM hS2 hF1 k3
    | getstatic idx => exact ak_xsta C hA (ak_d1 hd hn (k := 2) rfl) hM hS2 hF1 k2
    | ldc idx => exact ak_xldc C hA (Or.inl ⟨idx, rfl, ak_d1 hd hn (k := 1) rfl⟩) hM hS2 hF1 k2
    | ldc_w idx => exact ak_xldc C hA (Or.inr (Or.inl ⟨idx, rfl, ak_d1 hd hn (k := 2) rfl⟩)) hM hS2 hF1 k2
    | ldc2_w idx => exact ak_xldc C hA (Or.inr (Or.inr ⟨idx, rfl, ak_d1 hd hn (k := 2) rfl⟩)) hM hS2 hF1 k2
    | arraylength => exact ak_xald C hA (Or.inl rfl) (ak_d1 hd hn (k := 0) rfl) hM hS2 hF1 k2
    | iaload => exact ak_xald C hA (Or.inr (Or.inl rfl)) (ak_d1 hd hn (k := 0) rfl) hM hS2 hF1 k2
    | baload => exact ak_xald C hA (Or.inr (Or.inr (Or.inl rfl))) (ak_d1 hd hn (k := 0) rfl) hM hS2 hF1 k2
    | aaload => exact ak_xald C hA (Or.inr (Or.inr (Or.inr rfl))) (ak_d1 hd hn (k := 0) rfl) hM hS2 hF1 k2
    | iastore => exact ak_xast C hA (Or.inl rfl) (ak_d1 hd hn (k := 0) rfl) hM hS2 hF1 k3
    | bastore => exact ak_xast C hA (Or.inr (Or.inl rfl)) (ak_d1 hd hn (k := 0) rfl) hM hS2 hF1 k3
    | aastore => exact ak_xast C hA (Or.inr (Or.inr rfl)) (ak_d1 hd hn (k := 0) rfl) hM hS2 hF1 k3
    | new idx => exact ak_xnew C hA (ak_d1 hd hn (k := 2) rfl) hM hS2 hF1 hb1 hb2 fun pc' ad' st' H' locs' z => k4 pc' ad' st' H' locs' 1 z
    | newarray t => exact ak_xnwa C hA (ak_d1 hd hn (k := 1) rfl) hM hS2 hF1 hb1 hb2 fun pc' ad' st' H' locs' z => k4 pc' ad' st' H' locs' 1 z
    | anewarray idx => exact ak_xana C hA (ak_d1 hd hn (k := 2) rfl) hM hS2 hF1 hb1 hb2 fun pc' ad' st' H' locs' z => k4 pc' ad' st' H' locs' 1 z
    | multianewarray idx dim => exact ak_xmna C hA (ak_d1 hd hn (k := 3) rfl) hM hS2 hF1 hb1 hb2 k4
    | checkcast idx => exact ak_xcast C hA (ak_d1 hd hn (k := 2) rfl) hM hS2 hF1 k2
    | invokevirtual idx =>
      obtain ⟨cal, w, ⟨h0, -⟩ | ⟨h0, -⟩ | ⟨-, hL, a, rest, rfl, ⟨q1, q2, q3, q4, q5⟩, h⟩⟩ := ak_invn hS2
      · cases h0
      · cases h0
      · have hM' := (ak_inj h).2
        have hc9 : cells + 1 ≤ R.cells := by
          have : ak_C M' = ak_C M + 1 := by rw [hM']; rfl
          omega
        have hz9 : slots + ak_N M a ≤ R.slots := by
          have : ak_Z M' = ak_Z M + ak_N M a := by rw [hM']; rfl
          omega
        refine ak_xcln CX hA hL (ak_d1 hd hn (k := 2) rfl) hM hF3.1 q1 q2 q3 q4 q5 (ak_o1 hF1) hc9 hz9 (fun ad' H' locs' b1 b2 b3 b4 => ?_)
        rw [← hM'] at b1 b2 b4
        exact k4 _ ad' _ H' locs' 1 (ak_N M a) (by rw [hM'] at h ⊢; exact h) b1 b2 b3 ⟨by rw [hM']; rfl, by rw [hM']; rfl, b4⟩
    | invokestatic idx =>
      obtain ⟨cal, w, ⟨h0, -⟩ | ⟨-, hL, n, dp, a, sp, b, rest, rfl, ⟨q1, q2, q3, q4, q5, q6, q7, q8, q9, q10⟩, h⟩ | ⟨h0, -⟩⟩ := ak_invn hS2
      · cases h0
      · have hM' := (ak_inj h).2
        refine ak_xcpy CX hA hL (ak_d1 hd hn (k := 2) rfl) hM hF3.1 q1 q2 q3 q4 q5 q6 q7 q8 q9 q10 (fun H' locs' b1 => ?_)
        rw [← hM'] at b1
        exact k3 _ _ H' locs' (by rw [hM'] at h ⊢; exact h) (ak_o2 (ak_o3 hF1)) b1 ⟨by rw [hM']; rfl, by rw [hM']; rfl, by rw [hM']; rfl⟩
      · cases h0
    | invokespecial idx =>
      obtain ⟨cal, w, ⟨-, hL, q, rest, rfl, hc, h⟩ | ⟨h0, -⟩ | ⟨h0, -⟩⟩ := ak_invn hS2
      · have hM' := (ak_inj h).2
        subst hM'
        obtain ⟨iL, iA, iB, iC⟩ := w
        obtain ⟨hx, hb, hown, hts, hml, -, -, -, -, -, hfr, hlo, hmi⟩ := CX
        have hs := am_Ls hmi hL
        have hKn := am_Kn1 hmi
        unfold am_kK1 at hs
        simp only [Bool.and_eq_true] at hs
        obtain ⟨-, ⟨g1, g2⟩, g3⟩ := hs
        refine W.objInit hx hb hown (am_okb hts g1) (am_okb hts g2) (am_okb hts g3) rfl (by rw [hml]; exact hF3.1) rfl (ak_d1 hd hn (k := 2) rfl) (by omega) ?_ (k2 _ _ h (ak_o1 hF1))
        show 2 * 0 + (((rest.map (ak_v ad)).map fun v => v.category).sum) + 12 ≤ R.locals
        rw [ak_catm]
        omega
      · cases h0
      · cases h0
    | _ => exact absurd rfl hP
end AKN
end
section
/-! a whole run is one of the machine -/
set_option maxRecDepth 100000 in
theorem am_Hn : (List.range 365).all (fun k => (am_H k).isEmpty) = true := by decide +kernel
theorem am_Hm {k : Nat} (hk : k < 365) : (am_H k).isEmpty = true := List.all_eq_true.mp am_Hn k (List.mem_range.mpr hk)
section AKS
variable {p : Program} {l : Launch} {e : Env} {R : Room} {s : State} {m : MethodId} {args : Array Value} {below : List Frame} {meth : Method} {c : Code} {Q : State → Prop}
variable {X : ak_X} {D : va_G} {dA : Nat → ClassId} {ac : Nat → Nat} {base : Nat}
theorem ak_callinv {mi pc cal : Nat} {l1 : List (Option Value)} {l2 : List (Nat × Value)} {st as : List Value} {M M1 : ak_M} {g : ak_F} (hS : ak_S X mi (pc, l1, l2, st) M = some (.inr (.inr (cal, as, g, M1)))) :
    ∃ rest, M1 = M ∧ g = (pc + 3, l1, l2, rest) ∧ ∀ v ∈ rest, v ∈ st := by
  obtain ⟨ins, -, hS2⟩ := ak_Sx hS
  have : ∃ idx vt, ak_inv X mi idx vt pc l1 l2 st M = some (.inr (.inr (cal, as, g, M1))) := by
    rcases ak_kinds hS2 with hk | ⟨-, r, hr⟩
    · cases ins with
      | invokevirtual idx => exact ⟨idx, 0, hS2⟩
      | invokestatic idx => exact ⟨idx, 1, hS2⟩
      | invokespecial idx => exact ⟨idx, 2, hS2⟩
      | _ => cases hk
    · cases hr
  obtain ⟨idx, vt, h9⟩ := this
  obtain ⟨kind, w, rest, hL, h1, h2, -, -, -, -, hc⟩ := ak_invc h9
  refine ⟨rest, h1, h2, fun v hv => ?_⟩
  rcases hc with ⟨-, -, q, hd, -⟩ | ⟨-, -, rfl, -⟩ | ⟨-, -, q, hd, -⟩
  · exact List.mem_of_mem_drop (by rw [hd]; exact List.mem_cons_of_mem _ hv)
  · exact List.mem_of_mem_drop hv
  · exact List.mem_of_mem_drop (by rw [hd]; exact List.mem_cons_of_mem _ hv)
theorem ak_le.okP {M M' : ak_M} (h : ak_le M M') {x : Nat} (hx : ak_okP M x) : ak_okP M' x := by
  obtain ⟨h1, h2, h3⟩ := h
  unfold ak_okP at *
  rcases hx with hx | hx
  · exact Or.inl (Nat.lt_of_lt_of_le hx h3)
  · exact Or.inr ⟨hx.1, by omega⟩
theorem ak_le.okV {M M' : ak_M} (h : ak_le M M') {v : Value} (hv : ak_okV M v) : ak_okV M' v := by
  cases v with
  | ref q => exact h.okP hv
  | _ => trivial
theorem ak_w_ext {ad ad' : Nat → Nat} {M : ak_M} (hO : ak_okM M) (he : ∀ p, ak_okP M p → ad' p = ad p) : ak_w ad' dA M = ak_w ad dA M := by
  refine List.map_congr_left fun q hq => ?_
  have hq := List.mem_range.mp hq
  have e7 : ∀ k, (ak_R M q k).map ad' = (ak_R M q k).map ad := by
    intro k
    cases hr : ak_R M q k with
    | none => rfl
    | some y => show some (ad' y) = some (ad y); rw [he y (Or.inl (hO.2.1 q k y hr))]
  rw [he q (Or.inl hq)]
  unfold ak_ce ak_ar
  rw [show ak_fd ad' M q = ak_fd ad M q from funext fun ci => funext fun k => by unfold ak_fd; rw [e7], funext e7]
set_option maxHeartbeats 2000000 in
theorem ak_sound : ∀ n : Nat, ak_snd X D dA ac base n
  | 0 => by intro mi f M r h; cases h
  | n + 1 => by
    have IH := ak_sound n
    intro mi f M r hgo p l e R s m args below meth c Q H locs cells slots mc ms ls ad ad0 M0 C hA hM hF hext hmc hms hb1 hb2 hKe hKx
    obtain ⟨pc, l1, l2, st⟩ := f
    unfold ak_go at hgo
    split at hgo
    · cases hgo
    · rename_i f' M' hS
      have h2 := ak_mono n mi f' M' r hgo
      have h1 : ak_le M M' := by
        obtain ⟨ins, -, hS2⟩ := ak_Sx hS
        exact ak_grow f' M' hS2
      have h3 := h1.1
      have h4 := h2.1
      have h5 := h1.2.1
      have h6 := h2.2.1
      refine ak_next C hA hS hM hF (by omega) (by omega) ?_
      intro ls' ad' H' locs' y z hM' hF' hx hy hz
      exact IH mi f' M' r hgo p l e R s m args below meth c Q H' locs' (cells + y) (slots + z) mc ms ls' ad' ad0 M0 C hA hM' hF' (fun x h => ⟨(hx x (hext x h).1).1, (hx x (hext x h).1).2.trans (hext x h).2⟩) hmc hms (by omega) (by omega) hKe hKx
    · rename_i r' hS
      cases hgo
      exact hKe pc l1 l2 st M H locs cells slots ls ad hS hM hF (fun x h => (hext x h).2) hb1 hb2
    · rename_i cal as g M1 hS
      obtain ⟨rest, rfl, rfl, hrest⟩ := ak_callinv hS
      split at hgo
      · cases hgo
      · rename_i v M2 hg1
        have h1 := ak_mono n cal _ _ _ hg1
        have h2 := ak_mono n mi _ _ r hgo
        have h3 : ak_C M1 ≤ ak_C M2 := h1.1
        have h4 := h2.1
        have h5 : ak_Z M1 ≤ ak_Z M2 := h1.2.1
        have h6 := h2.2.1
        refine ak_calls IH C hA hS hg1 hM hF (mc := ak_C M2 - ak_C M1) (ms := ak_Z M2 - ak_Z M1) (by show ak_C M1 + (ak_C M2 - ak_C M1) = ak_C M2; omega) (by show ak_Z M1 + (ak_Z M2 - ak_Z M1) = ak_Z M2; omega) (by omega) (by omega) (fun E h => by cases h) (fun E ad' q ce H1 locs1 h => by cases h) ?_
        intro v' ad' H1 locs1 hv hM2 hx hok
        cases hv
        have hF2 : ak_fi ad' M2 ls (am_X mi) l1 l2 (v.toList ++ rest) := by
          refine ⟨fun w hw => ?_, fun i w hw => h1.okV (hF.2.1 i w hw), ak_l_ext hx hF.2.1 hF.2.2⟩
          rcases List.mem_append.mp hw with hw | hw
          · exact hok w (by simpa using hw)
          · exact h1.okV (hF.1 w (hrest w hw))
        have key := IH mi (pc + 3, l1, l2, v.toList ++ rest) M2 r hgo p l e R s m args below meth c Q H1 locs1 (cells + (ak_C M2 - ak_C M1)) (slots + (ak_Z M2 - ak_Z M1)) mc ms ls ad' ad0 M0 C hA hM2 hF2 (fun x h => ⟨h1.okP (hext x h).1, (hx x (hext x h).1).trans (hext x h).2⟩) hmc hms (by omega) (by omega) hKe hKx
        have e1 : (v.toList ++ rest).map (ak_v ad') = (v.map (ak_v ad')).toList ++ rest.map (ak_v ad) := by
          rw [List.map_append, ak_map_ext hx (fun w hw => hF.1 w (hrest w hw))]
          cases v <;> rfl
        rw [← e1]
        exact key
      · rename_i E M2 hg1
        have h1 := ak_mono n cal _ _ _ hg1
        split at hgo
        · rename_i hth
          have h3 : ak_C M1 ≤ ak_C M2 := h1.1
          have h5 : ak_Z M1 ≤ ak_Z M2 := h1.2.1
          rw [if_pos (am_Hm C.2.2.2.2.2.2.2.2.2.2.2.2)] at hgo
          have h99 : ak_C M2 ≤ ak_C r.2 ∧ ak_Z M2 ≤ ak_Z r.2 := by cases hgo; exact ⟨Nat.le_refl _, Nat.le_refl _⟩
          obtain ⟨h4, h6⟩ := h99
          refine ak_calls IH C hA hS hg1 hM hF (mc := ak_C M2 - ak_C M1) (ms := ak_Z M2 - ak_Z M1) (by show ak_C M1 + (ak_C M2 - ak_C M1) = ak_C M2; omega) (by show ak_Z M1 + (ak_Z M2 - ak_Z M1) = ak_Z M2; omega) (by omega) (by omega) (fun E h => hth) ?_ (fun v ad' H1 locs1 h => by cases h)
          intro E' ad' q ce H1 locs1 hE' hE3 hM2 hx hq hcv hcl
          cases hE'
          have hem := am_Hm C.2.2.2.2.2.2.2.2.2.2.2.2
          cases hgo
          exact hKx pc _ E H1 locs1 _ _ ls ad' q ce rfl hE3 (List.isEmpty_iff.mp hem) hM2 (fun x h => (hx x (hext x h).1).trans (hext x h).2) (by show cells + (ak_C M2 - ak_C M1) ≤ mc; have h9 : cells + ak_C M2 ≤ mc + ak_C M1 := hb1; omega) (by show slots + (ak_Z M2 - ak_Z M1) ≤ ms; have h9 : slots + ak_Z M2 ≤ ms + ak_Z M1 := hb2; omega) hq hcv hcl
        · cases hgo
end AKS
end
section
/-! THE CLAIM OUT OF ONE WALK OF THE LAW'S BODY. Your part is whole_start (and what it stands on); all else here is the same for every law, but numbers. -/
def R_law : String := "KiteQuarrelLaw"
def lw_P (b : Addr) (xs : List Int32) (args : Array Value) (s : State) : Prop := args = #[.ref b] ∧ s.IntsAt b xs ∧ xs.length ≤ 260 ∧ (Jvm.Cond.and given_1 narrow_1).before args s = true
def lw_Q (_ : Array Value) (s : State) (o : Outcome) (t : State) : Prop := o = .returned (some (.int 1)) ∧ Framed s o t [] 600086 7301442
def lw_Z (below : List Frame) (a : Array Value) (s : State) : State → Prop := fun t => ∃ o, t.status = .running ∧ Ended t below o ∧ lw_Q a s o t
/-- the law's own end, with 1 on the stack, nothing written that was there before, its room as the claim has it -/
theorem lw_ret {p : Program} {l : Launch} {e : Env} {s : State} {m : MethodId} {below : List Frame} {meth : Method} {c : Code} {b : Nat} (hx : p.tables.exec = Jvm.exec) (hb : c.code = code) (hr : meth.sig.returnType = ret) (hlocks : meth.locks = false) {pc : Nat} {H : Heap} {ls : Array Slot} (hdg : decode code pc = .ok (.ireturn, 1)) : W p l e room_1 s m #[Value.ref b] below meth c H [] 600086 7301442 (lw_Z below #[Value.ref b] s) (F0 m pc ls [.int 1]) := by
  intro T hT X
  obtain ⟨fs, hret, hrun, hended, hW, hframe⟩ := X.leave (v := some (.int 1)) (hlocks := hlocks) (fun h => by rw [hr] at h; cases h)
  have hmeth' : T.vm.method? m = some meth := X.method'
  refine ⟨T.setFrames fs, ?_, .returned (some (.int 1)), hrun, hended, rfl, ⟨_, rfl⟩, hW, hframe⟩
  jvm_step X.here [X.here.top, hx, hb, hdg, hmeth', hr, ret, narrow_b1]
  (try refine ⟨rfl, ?_⟩); (try refine ⟨rfl, ?_⟩)
  first | (intro acts; rw [hret _ acts rfl rfl rfl]) | rw [hret _ _ rfl rfl rfl]
  exact Steps.refl _
/-- what holds at the law's entry: the machine, the code, the tables' words (any of lw_tbl by 'hts w (by decide +kernel)'), the script of L ints xs at the cell b, what the Statement gives of the start (any of its parts by flat_of_before) -/
def lw_At (p : Program) (s : State) (m : MethodId) (meth : Method) (c : Code) (b L : Nat) (xs : Nat → Int32) : Prop :=
  p.tables.exec = Jvm.exec ∧ c.code = code ∧ meth.sig.returnType = ret ∧ c.maxLocals = 12 ∧ s.vm.findClass R_law = some m.cls ∧ (∀ w ∈ lw_tbl, w.before #[Value.ref b] s = true) ∧ va_X b L xs s s.heap ∧ b < s.heap.size ∧ meth.locks = false ∧ (Jvm.Cond.and given_1 narrow_1).before #[Value.ref b] s = true
/-! the law's entry: what the Statement gives there -/
def ak_M0 : ak_M := (fun _ _ => 0, fun _ _ => none, fun _ _ => 0, fun _ _ => 0, fun _ => 0, fun _ => 0, 0, 0, 0)
def am_qt (j : Nat) : Term := .string (am_cn (ak_sw j).1) (ak_sw j).2.1
def am_qv (j : Nat) : Term := .field (am_qt j) "java/lang/String" "value" "[B"
def am_qb (j : Nat) : List Int32 := am_sb.getD j []
def am_qs (j : Nat) : List Jvm.Cond := .exactly (am_qt j) "java/lang/String" :: .eq (.field (am_qt j) "java/lang/String" "coder" "B") (.int 0) :: .arrayOf (am_qv j) .byte :: .eq (.length (am_qv j)) (.int (Int32.ofNat (am_qb j).length)) :: (List.range (am_qb j).length).map (fun k => .eq (.elem (am_qv j) (.int (Int32.ofNat k))) (.int ((am_qb j).getD k 0)))
def am_gv : List Jvm.Cond := flatC (Jvm.Cond.and given_1 narrow_1)
def am_qp : List Nat := [368, 379, 391, 405, 419, 435, 451, 469, 487, 507, 528, 312, 328, 824, 345, 548, 572, 597, 624, 650, 679, 709, 738, 768, 796]
theorem am_qd : (List.range 25).all (fun j => decide ((am_gv.drop (am_qp.getD j 0)).take (am_qs j).length = am_qs j)) = true := by decide +kernel
theorem am_qin {j : Nat} (h : j < 25) : ∀ w ∈ am_qs j, w ∈ am_gv := by
  intro w hw
  have h1 : (am_gv.drop (am_qp.getD j 0)).take (am_qs j).length = am_qs j := of_decide_eq_true (List.all_eq_true.mp am_qd j (List.mem_range.mpr h))
  rw [← h1] at hw
  exact List.mem_of_mem_drop (List.mem_of_mem_take hw)
theorem am_qr : (List.range 25).all (fun j => decide (Jvm.Cond.stringRef (am_cn (ak_sw j).1) (ak_sw j).2.1 (ak_sw j).2.2 ∈ ax_tbl)) = true := by decide +kernel
def am_tt (j : Nat) : List Int32 := if j = 0 then ak_t0 else if j = 1 then ak_t1 else ak_t2
def am_tm (j : Nat) : Term := .static (am_sn j).1 (am_sn j).2.1 (am_sn j).2.2
def am_tq (j : Nat) : List Jvm.Cond := .arrayOf (am_tm j) .int :: .eq (.length (am_tm j)) (.int (Int32.ofNat 6)) :: (List.range 6).map (fun k => .eq (.elem (am_tm j) (.int (Int32.ofNat k))) (.int ((am_tt j).getD k 0)))
theorem am_td : (List.range 3).all (fun j => (am_tq j).all (fun w => decide (w ∈ am_gv))) = true := by decide +kernel
def am_dt (j : Nat) : List Int32 := if j = 0 then ak_t5 else ak_t6
def am_dq (j : Nat) : List Jvm.Cond := .arrayOf (am_tm (5 + j)) .byte :: .eq (.length (am_tm (5 + j))) (.int (Int32.ofNat 100)) :: (List.range 100).map (fun k => .eq (.elem (am_tm (5 + j)) (.int (Int32.ofNat k))) (.int ((am_dt j).getD k 0)))
theorem am_dd0 : (am_gv.drop 142).take 102 = am_dq 0 := by decide +kernel
theorem am_dd1 : (am_gv.drop 39).take 102 = am_dq 1 := by decide +kernel
theorem am_dn {j : Nat} (h : j < 2) : ∀ w ∈ am_dq j, w ∈ am_gv := by
  intro w hw
  match j, h with
  | 0, _ => rw [← am_dd0] at hw; exact List.mem_of_mem_drop (List.mem_of_mem_take hw)
  | 1, _ => rw [← am_dd1] at hw; exact List.mem_of_mem_drop (List.mem_of_mem_take hw)
  | j + 2, h => exact absurd h (by omega)
theorem am_tl : (List.range 7).all (fun j => decide (Jvm.Cond.laysStatic (am_sn j).1 (am_sn j).2.1 (am_sn j).2.2 ∈ ax_tbl) && decide (Jvm.Cond.initialized (am_sn j).1 ∈ ax_tbl)) = true := by decide +kernel
theorem am_t3 : Jvm.Cond.eq (am_tm 3) (.int 1) ∈ am_gv := by decide +kernel
theorem am_t4 : Jvm.Cond.isRef (am_tm 4) ∈ am_gv := by decide +kernel
theorem am_u1 : Jvm.Cond.laysStatic Bundle.tN "UNASSIGNED_STACK" Bundle.steD ∈ ax_tbl := by decide +kernel
theorem am_u2 : Jvm.Cond.laysStatic Bundle.tN "SUPPRESSED_SENTINEL" Bundle.listD ∈ ax_tbl := by decide +kernel
theorem am_u3 : Jvm.Cond.initialized Bundle.tN ∈ ax_tbl := by decide +kernel
theorem am_u4 : Jvm.Cond.isRef (.static Bundle.tN "UNASSIGNED_STACK" Bundle.steD) ∈ am_gv := by decide +kernel
theorem am_u5 : Jvm.Cond.isRef (.static Bundle.tN "SUPPRESSED_SENTINEL" Bundle.listD) ∈ am_gv := by decide +kernel
theorem am_io : (List.range 14).all (fun ci => match vwCl[ci]? with | some r => decide (Jvm.Cond.instantiable r.1 r.2.2 ∈ ax_tbl) | none => false) = true := by decide +kernel
theorem am_ao : (List.range 4).all (fun t => decide (Jvm.Cond.arrayOver (.object (am_ac (5 + t))) ∈ ax_tbl)) = true := by decide +kernel
theorem am_aa : Jvm.Cond.arrayOver (.array .byte) ∈ ax_tbl := by decide +kernel
theorem ak_p1 {args : Array Value} {s : State} {ty : FieldType} (h : (Cond.arrayClass ty).before args s = true) (hk : ∀ C, ty ≠ .object C) : ∃ cA : ClassId, ArrOfT s cA ty ∧ va_RA s cA ty := by
  obtain ⟨cA, kA, comp, h1, h2, h3⟩ := Cond.arrayClass_spec h
  refine ⟨cA, fun n z => ⟨fun k h => (by cases h), kA, h2, comp, h3⟩, ?_⟩
  cases ty with
  | object C => exact absurd rfl (hk C)
  | _ => exact h1
theorem ak_p2 {args : Array Value} {s : State} {C : String} (h : (Cond.arrayOver (.object C)).before args s = true) : ∃ cA : ClassId, ArrOfT s cA (.object C) ∧ va_RA s cA (.object C) := by
  obtain ⟨comp, cA, kA, h1, -, h2, h3, h4⟩ := Cond.arrayOver_spec h
  exact ⟨cA, fun n z => ⟨fun k h => (by cases h), kA, h2, comp, h3⟩, kA, comp, h2, h3, h1, h4⟩
theorem ak_p3 {args : Array Value} {s : State} {t : FieldType} (h : (Cond.arrayOver (.array t)).before args s = true) : ∃ cA : ClassId, ArrOfT s cA (.array t) ∧ va_RA s cA (.array t) := by
  obtain ⟨comp, cA, kA, h1, h2, h3, h4⟩ := Cond.arrayOver_specA h
  exact ⟨cA, fun n z => ⟨fun k h => (by cases h), kA, h2, comp, h3⟩, h4⟩
section AKE
variable {s : State} {args : Array Value}
theorem ak_k1 (hts : ∀ w ∈ ax_tbl, w.before args s = true) : ∃ (dC : Nat → ClassId) (dI : Nat → Nat → Nat), ∀ (c : Nat) (q : vw_C), vwCl[c]? = some q → u_Kn s q.1 q.2.1 q.2.2 (dC c) (dI c) := by
  have h0 : ∀ c : Nat, ∃ z : ClassId × (Nat → Nat), ∀ q : vw_C, vwCl[c]? = some q → u_Kn s q.1 q.2.1 q.2.2 z.1 z.2 := by
    intro c
    by_cases hc : c < 14
    · obtain ⟨C, N, ty, h1, h2, h3, -⟩ := am_cls c hc
      have h4 := List.all_eq_true.mp am_io c (List.mem_range.mpr hc)
      rw [h1] at h4
      obtain ⟨cC, iS, hK⟩ := u_known (ws := am_w) (n := N) (fun w hw => hts w (List.mem_filter.mp hw).1) h3 (hts _ (of_decide_eq_true h4))
      exact ⟨(cC, iS), fun q hq => by rw [h1] at hq; cases hq; exact hK⟩
    · exact ⟨(default, fun _ => 0), fun q hq => absurd (List.getElem?_eq_some_iff.mp hq).1 hc⟩
  obtain ⟨z, hz⟩ := Classical.axiomOfChoice h0
  exact ⟨fun c => (z c).1, fun c => (z c).2, fun c q hq => hz c q hq⟩
theorem ak_k2 (hts : ∀ w ∈ ax_tbl, w.before args s = true) : ∃ dA : Nat → ClassId, ∀ t : Nat, t < 10 → ArrOfT s (dA t) (ak_ty t) ∧ va_RA s (dA t) (ak_ty t) := by
  have hw : ∀ w ∈ am_w, w.before args s = true := fun w hw => hts w (List.mem_filter.mp hw).1
  have hao : ∀ t, t < 4 → (Jvm.Cond.arrayOver (.object (am_ac (5 + t)))).before args s = true := fun t ht => hts _ (of_decide_eq_true (List.all_eq_true.mp am_ao t (List.mem_range.mpr ht)))
  have h0 : ∀ t : Nat, ∃ cA : ClassId, t < 10 → ArrOfT s cA (ak_ty t) ∧ va_RA s cA (ak_ty t) := by
    intro t
    match t with
    | 0 => obtain ⟨c, h⟩ := ak_p1 (hw _ am_a0) (fun C h => by cases h); exact ⟨c, fun _ => h⟩
    | 1 => obtain ⟨c, h⟩ := ak_p1 (hw _ am_a1) (fun C h => by cases h); exact ⟨c, fun _ => h⟩
    | 2 => obtain ⟨c, h⟩ := ak_p1 (hw _ am_a0) (fun C h => by cases h); exact ⟨c, fun _ => h⟩
    | 3 => obtain ⟨c, h⟩ := ak_p1 (hw _ am_a0) (fun C h => by cases h); exact ⟨c, fun _ => h⟩
    | 4 => obtain ⟨c, h⟩ := ak_p1 (hw _ am_a0) (fun C h => by cases h); exact ⟨c, fun _ => h⟩
    | 5 => obtain ⟨c, h⟩ := ak_p2 (hao 0 (by decide)); exact ⟨c, fun _ => h⟩
    | 6 => obtain ⟨c, h⟩ := ak_p2 (hao 1 (by decide)); exact ⟨c, fun _ => h⟩
    | 7 => obtain ⟨c, h⟩ := ak_p2 (hao 2 (by decide)); exact ⟨c, fun _ => h⟩
    | 8 => obtain ⟨c, h⟩ := ak_p2 (hao 3 (by decide)); exact ⟨c, fun _ => h⟩
    | 9 => obtain ⟨c, h⟩ := ak_p3 (hts _ am_aa); exact ⟨c, fun _ => h⟩
    | t + 10 => exact ⟨default, fun h => absurd h (by omega)⟩
  exact Classical.axiomOfChoice h0
theorem ak_k3 (hgv : ∀ w ∈ am_gv, w.before args s = true) (hts : ∀ w ∈ ax_tbl, w.before args s = true) : ∃ aS : Nat → Nat × Nat, ∀ j : Nat, j < 25 → vk_R (am_cn (ak_sw j).1) (ak_sw j).2.1 (ak_sw j).2.2 (aS j).1 s ∧ va_O "java/lang/String" (aS j).1 (ak_A s.heap.size) s s.heap ∧ va_OF "java/lang/String" "coder" "B" (.int 0) (aS j).1 (ak_A s.heap.size) s s.heap ∧ va_OF "java/lang/String" "value" "[B" (.ref (aS j).2) (aS j).1 (ak_A s.heap.size) s s.heap ∧ va_T .byte (aS j).2 (am_sb.getD j []).length (fun k => .int ((am_sb.getD j []).getD k 0)) (ak_A s.heap.size) s s.heap := by
  have hA : ∀ a : Nat, a < s.heap.size → ¬ ak_A s.heap.size a := fun a h => Nat.not_le.mpr h
  have hlen : ∀ j, (am_sb.getD j []).length < 2 ^ 31 := by
    intro j
    have h9 : am_sb.all (fun l => Nat.ble l.length 100) = true := by decide +kernel
    by_cases hj : j < am_sb.length
    · have h8 := List.all_eq_true.mp h9 _ (List.getElem_mem hj)
      have e : am_sb.getD j [] = am_sb[j] := by simp [hj]
      rw [e]
      exact Nat.lt_of_le_of_lt (Nat.le_of_ble_eq_true h8) (by decide)
    · have e : am_sb.getD j [] = [] := by simp [hj]
      rw [e]
      decide
  have h0 : ∀ j : Nat, ∃ q : Nat × Nat, j < 25 → vk_R (am_cn (ak_sw j).1) (ak_sw j).2.1 (ak_sw j).2.2 q.1 s ∧ va_O "java/lang/String" q.1 (ak_A s.heap.size) s s.heap ∧ va_OF "java/lang/String" "coder" "B" (.int 0) q.1 (ak_A s.heap.size) s s.heap ∧ va_OF "java/lang/String" "value" "[B" (.ref q.2) q.1 (ak_A s.heap.size) s s.heap ∧ va_T .byte q.2 (am_sb.getD j []).length (fun k => .int ((am_sb.getD j []).getD k 0)) (ak_A s.heap.size) s s.heap := by
    intro j
    by_cases hj : j < 25
    · have hq : ∀ w ∈ am_qs j, w.before args s = true := fun w hw => hgv w (am_qin hj w hw)
      unfold am_qs at hq
      obtain ⟨g1, hq⟩ := List.forall_mem_cons.mp hq
      obtain ⟨g2, hq⟩ := List.forall_mem_cons.mp hq
      obtain ⟨g3, hq⟩ := List.forall_mem_cons.mp hq
      obtain ⟨g4, g5⟩ := List.forall_mem_cons.mp hq
      obtain ⟨a, c, cA, kA, q1, -⟩ := Cond.exactly_spec (args := args) (first := s) (o := none) (s := s) (idx := []) (t := am_qt j) (cls := "java/lang/String") g1
      obtain ⟨t, ht, hT⟩ := va_Tof (f := fun k => .int ((am_sb.getD j []).getD k 0)) (A := ak_A s.heap.size) (hlen j) g3 (va_eqt g4) (fun k hk => va_eqt (g5 _ (List.mem_map.mpr ⟨k, List.mem_range.mpr hk, rfl⟩))) hA
      exact ⟨(a, t), fun _ => ⟨vk_R.of (hts _ (of_decide_eq_true (List.all_eq_true.mp am_qr j (List.mem_range.mpr hj)))) q1, va_Oof g1 q1 hA, vk_OFof q1 (va_eqt g2) hA, vk_OFof q1 ht hA, hT⟩⟩
    · exact ⟨(0, 0), fun h => absurd h hj⟩
  exact Classical.axiomOfChoice h0
theorem ak_k4 (hgv : ∀ w ∈ am_gv, w.before args s = true) (hts : ∀ w ∈ ax_tbl, w.before args s = true) : ∃ aT : Nat → Nat, ∀ j : Nat, j < 3 → va_Z (am_sn j).1 (am_sn j).2.1 (am_sn j).2.2 (.ref (aT j)) (ak_A s.heap.size) s s.heap ∧ va_T .int (aT j) 6 (fun k => .int ((am_tt j).getD k 0)) (ak_A s.heap.size) s s.heap := by
  have hA : ∀ a : Nat, a < s.heap.size → ¬ ak_A s.heap.size a := fun a h => Nat.not_le.mpr h
  have h0 : ∀ j : Nat, ∃ q : Nat, j < 3 → va_Z (am_sn j).1 (am_sn j).2.1 (am_sn j).2.2 (.ref q) (ak_A s.heap.size) s s.heap ∧ va_T .int q 6 (fun k => .int ((am_tt j).getD k 0)) (ak_A s.heap.size) s s.heap := by
    intro j
    by_cases hj : j < 3
    · have h1 := List.all_eq_true.mp am_td j (List.mem_range.mpr hj)
      have hq : ∀ w ∈ am_tq j, w.before args s = true := fun w hw => hgv w (of_decide_eq_true (List.all_eq_true.mp h1 w hw))
      unfold am_tq at hq
      obtain ⟨g3, hq⟩ := List.forall_mem_cons.mp hq
      obtain ⟨g4, g5⟩ := List.forall_mem_cons.mp hq
      obtain ⟨t, ht, hT⟩ := va_Tof (f := fun k => .int ((am_tt j).getD k 0)) (A := ak_A s.heap.size) (N := 6) (by decide) g3 (va_eqt g4) (fun k hk => va_eqt (g5 _ (List.mem_map.mpr ⟨k, List.mem_range.mpr hk, rfl⟩))) hA
      have h2 := List.all_eq_true.mp am_tl j (List.mem_range.mpr (by omega))
      rw [Bool.and_eq_true] at h2
      exact ⟨t, fun _ => ⟨va_Zof (hts _ (of_decide_eq_true h2.1)) (hts _ (of_decide_eq_true h2.2)) ht hA, hT⟩⟩
    · exact ⟨0, fun h => absurd h hj⟩
  exact Classical.axiomOfChoice h0
theorem ak_k5 (hgv : ∀ w ∈ am_gv, w.before args s = true) (hts : ∀ w ∈ ax_tbl, w.before args s = true) : ∃ aD : Nat → Nat, ∀ j : Nat, j < 2 → va_Z (am_sn (5 + j)).1 (am_sn (5 + j)).2.1 (am_sn (5 + j)).2.2 (.ref (aD j)) (ak_A s.heap.size) s s.heap ∧ va_T .byte (aD j) 100 (fun k => .int ((am_dt j).getD k 0)) (ak_A s.heap.size) s s.heap := by
  have hA : ∀ a : Nat, a < s.heap.size → ¬ ak_A s.heap.size a := fun a h => Nat.not_le.mpr h
  have h0 : ∀ j : Nat, ∃ q : Nat, j < 2 → va_Z (am_sn (5 + j)).1 (am_sn (5 + j)).2.1 (am_sn (5 + j)).2.2 (.ref q) (ak_A s.heap.size) s s.heap ∧ va_T .byte q 100 (fun k => .int ((am_dt j).getD k 0)) (ak_A s.heap.size) s s.heap := by
    intro j
    by_cases hj : j < 2
    · have hq : ∀ w ∈ am_dq j, w.before args s = true := fun w hw => hgv w (am_dn hj w hw)
      unfold am_dq at hq
      obtain ⟨g3, hq⟩ := List.forall_mem_cons.mp hq
      obtain ⟨g4, g5⟩ := List.forall_mem_cons.mp hq
      obtain ⟨t, ht, hT⟩ := va_Tof (f := fun k => .int ((am_dt j).getD k 0)) (A := ak_A s.heap.size) (N := 100) (by decide) g3 (va_eqt g4) (fun k hk => va_eqt (g5 _ (List.mem_map.mpr ⟨k, List.mem_range.mpr hk, rfl⟩))) hA
      have h2 := List.all_eq_true.mp am_tl (5 + j) (List.mem_range.mpr (by omega))
      rw [Bool.and_eq_true] at h2
      exact ⟨t, fun _ => ⟨va_Zof (hts _ (of_decide_eq_true h2.1)) (hts _ (of_decide_eq_true h2.2)) ht hA, hT⟩⟩
    · exact ⟨0, fun h => absurd h hj⟩
  exact Classical.axiomOfChoice h0
end AKE
theorem ak_amb0 {p : Program} {s : State} {m : MethodId} {meth : Method} {c : Code} {b L : Nat} {xs : Nat → Int32} (hL : L ≤ 260) (C0 : lw_At p s m meth c b L xs) :
    ∃ (X : ak_X) (D : va_G) (dA : Nat → ClassId) (ac : Nat → Nat), X.1 = L ∧ X.2.1 = xs ∧ ac 1000000 = b ∧ ak_amb X D dA ac (ak_A s.heap.size) s s.heap := by
  obtain ⟨hx, hb, hr, hml, hown, hts0, hX, hbl, hlocks, hgv⟩ := id C0
  have hts := ax_hts hts0
  have hA : ∀ a : Nat, a < s.heap.size → ¬ ak_A s.heap.size a := fun a h => Nat.not_le.mpr h
  have hg : ∀ w ∈ am_gv, w.before #[Value.ref b] s = true := flat_of_before _ hgv
  obtain ⟨dC, dI, hK⟩ := ak_k1 hts
  obtain ⟨dA, hAr⟩ := ak_k2 hts
  obtain ⟨aS, hS⟩ := ak_k3 hg hts
  obtain ⟨aT, hT⟩ := ak_k4 hg hts
  obtain ⟨aD, hD⟩ := ak_k5 hg hts
  have htl : ∀ j, j < 5 → (Jvm.Cond.laysStatic (am_sn j).1 (am_sn j).2.1 (am_sn j).2.2).before #[Value.ref b] s = true ∧ (Jvm.Cond.initialized (am_sn j).1).before #[Value.ref b] s = true := by
    intro j hj
    have h2 := List.all_eq_true.mp am_tl j (List.mem_range.mpr (by omega))
    rw [Bool.and_eq_true] at h2
    exact ⟨hts _ (of_decide_eq_true h2.1), hts _ (of_decide_eq_true h2.2)⟩
  have hF := va_Zqof (htl 4 (by decide)).1 (htl 4 (by decide)).2 (hg _ am_t4) hA
  obtain ⟨nf, af, hF⟩ : ∃ (nf : Bool) (af : Nat), va_Z (am_sn 4).1 (am_sn 4).2.1 (am_sn 4).2.2 (if nf = true then .null else .ref af) (ak_A s.heap.size) s s.heap := by
    rcases hF with hF | ⟨t, hF⟩
    · exact ⟨true, 0, hF⟩
    · exact ⟨false, t, hF⟩
  let ac : Nat → Nat := fun x => if x = 1000000 then b else if x < 1000004 then aT (x - 1000001) else if x < 1001000 then aD (x - 1000004) else if x < 1002000 then (aS (x - 1001000)).1 else if x < 1003000 then (aS (x - 1002000)).2 else af
  have ac0 : ac 1000000 = b := rfl
  have acT : ∀ j, j < 3 → ac (1000001 + j) = aT j := by
    intro j hj
    show (if _ then _ else if _ then _ else _) = _
    rw [if_neg (by omega), if_pos (by omega), show 1000001 + j - 1000001 = j by omega]
  have acD : ∀ j, j < 2 → ac (1000004 + j) = aD j := by
    intro j hj
    show (if _ then _ else if _ then _ else if _ then _ else _) = _
    rw [if_neg (by omega), if_neg (by omega), if_pos (by omega), show 1000004 + j - 1000004 = j by omega]
  have acS : ∀ j, j < 25 → ac (1001000 + j) = (aS j).1 := by
    intro j hj
    show (if _ then _ else if _ then _ else if _ then _ else if _ then _ else _) = _
    rw [if_neg (by omega), if_neg (by omega), if_neg (by omega), if_pos (by omega), show 1001000 + j - 1001000 = j by omega]
  have acV : ∀ j, j < 25 → ac (1002000 + j) = (aS j).2 := by
    intro j hj
    show (if _ then _ else if _ then _ else if _ then _ else if _ then _ else if _ then _ else _) = _
    rw [if_neg (by omega), if_neg (by omega), if_neg (by omega), if_neg (by omega), if_pos (by omega), show 1002000 + j - 1002000 = j by omega]
  have acF : ac 1003000 = af := rfl
  refine ⟨(L, xs, nf), (dC, dI), dA, ac, rfl, rfl, ac0, ⟨hK, fun k q hq => ?_⟩, ⟨by show L < _; omega, ?_⟩, fun j hj => ⟨?_, ?_⟩, ?_, ?_, fun j hj => ⟨?_, ?_, ?_, ?_, ?_⟩, ?_, ?_, ?_, fun _ _ _ _ _ => trivial, ?_, ?_, fun j hj => ⟨?_, ?_⟩⟩
  · have hk : k < 10 := by
      have := (List.getElem?_eq_some_iff.mp hq).1
      simpa [ak_tys] using this
    rw [ak_tget hk] at hq
    cases hq
    exact hAr k hk
  · obtain ⟨scr, h1, h2, h3, h4, h5⟩ := hX
    exact ⟨scr, h1, h2, h3, Nat.le_of_eq h4.symm, by rw [h4], h5, hA b hbl⟩
  · rw [acT j hj]; exact (hT j hj).1
  · rw [acT j hj]
    have e : (fun k => Value.int (ak_cI (L, xs, nf) (1000001 + j) k)) = (fun k => Value.int ((am_tt j).getD k 0)) := by
      funext k
      match j, hj with
      | 0, _ => rfl
      | 1, _ => rfl
      | 2, _ => rfl
      | j + 3, h => exact absurd h (by omega)
    rw [e]
    exact (hT j hj).2
  · exact va_Zof (htl 3 (by decide)).1 (htl 3 (by decide)).2 (va_eqt (hg _ am_t3)) hA
  · exact hF
  · rw [acS j hj]; exact (hS j hj).1
  · rw [acS j hj]; exact (hS j hj).2.1
  · rw [acS j hj]; exact (hS j hj).2.2.1
  · rw [acS j hj, acV j hj]; exact (hS j hj).2.2.2.1
  · rw [acV j hj]; exact (hS j hj).2.2.2.2
  · exact vx_Zqof (hts _ am_u1) (hts _ am_u3) (hg _ am_u4) hA
  · exact vx_Zqof (hts _ am_u2) (hts _ am_u3) (hg _ am_u5) hA
  · exact fun w hw hn => va_Nw.of (ak_isN_ot hn) (hts w hw)
  · intro t h5 h8
    have h1 := of_decide_eq_true (List.all_eq_true.mp am_ao (t - 5) (List.mem_range.mpr (by omega)))
    rw [show 5 + (t - 5) = t by omega] at h1
    exact hts _ h1
  · exact hts _ am_aa
  · rw [acD j hj]; exact (hD j hj).1
  · rw [acD j hj]
    have e : (fun k => Value.int (ak_cI (L, xs, nf) (1000004 + j) k)) = (fun k => Value.int ((am_dt j).getD k 0)) := by
      funext k
      match j, hj with
      | 0, _ => rfl
      | 1, _ => rfl
      | j + 2, h => exact absurd h (by omega)
    rw [e]
    exact (hD j hj).2
end
section
/-! the law out of the small machine's run -/
/-- what the small machine's side owes: from every script of at most 260 ints its run of the law answers 1, within the room -/
def ak_Top : Prop := ∀ X : ak_X, X.1 ≤ 260 → ∃ (n : Nat) (M' : ak_M), ak_go X n 364 (ak_en 364 [.ref 1000000]) ak_M0 = some (.inl (some (.int 1)), M') ∧ ak_C M' ≤ 600086 ∧ ak_Z M' ≤ 7301442
theorem am_B364 : code = am_B 364 := rfl
theorem am_X364 : am_X 364 = 12 := rfl
theorem am_R364 : am_R 364 = ret := rfl
theorem am_O364 : am_cn (am_O 364) = R_law := rfl
theorem am_H364 : am_H 364 = [] := rfl
theorem am_K364 : am_K 364 ≤ 16 ∧ am_Q 364 ≤ 630 := ⟨Nat.le_of_ble_eq_true rfl, Nat.le_of_ble_eq_true rfl⟩
theorem ak_startT (hTop : ak_Top) {p : Program} {e : Env} {s : State} {m : MethodId} {below : List Frame} {meth : Method} {c : Code} (l : Launch) (hflags : l.flags = flags0) {b L : Nat} {xs : Nat → Int32} (hL : L ≤ 260) (C0 : lw_At p s m meth c b L xs) : W p l e room_1 s m #[Value.ref b] below meth c s.heap [] 0 0 (lw_Z below #[Value.ref b] s) (entryFrame m ([Value.ref b] : List Value).toArray 12) := by
  obtain ⟨X, D, dA, ac, hX1, hX2, hac, hA⟩ := ak_amb0 hL C0
  obtain ⟨hx, hb, hr, hml, hown, hts, hXs, hbl, hlocks, hgv⟩ := C0
  obtain ⟨n, M', hgo, h1, h2⟩ := hTop X (by omega)
  have hl : l.stackTraces = false := by unfold Launch.stackTraces; rw [hflags]; rfl
  have C : ak_cx p l room_1 s m #[Value.ref b] meth c 364 :=
    ⟨hx, by rw [hb]; exact am_B364, by rw [am_O364]; exact hown, fun w hw => ax_hts hts w (List.mem_filter.mp hw).1, by rw [hml, am_X364], by rw [hr, am_R364], hlocks, fun h => absurd rfl h, fun h => absurd rfl h, hl, am_K364.1, am_K364.2, by decide⟩
  have hM : ak_mi D dA ac s.heap.size s s.heap [] ac ak_M0 := by
    refine ⟨Nat.le_refl _, va_S.rf, fun k q h => ?_, ⟨fun i j p q h => ?_, fun k q h => ?_⟩, ⟨by decide, fun p k q h => ?_, fun p h => ?_⟩, fun x _ _ => rfl⟩
    · cases h
    · cases h
    · cases h
    · cases h
    · exact absurd h (Nat.not_lt_zero _)
  have hv : ∀ v ∈ [Value.ref 1000000], ak_okV ak_M0 v := by
    intro v hv
    rw [List.mem_singleton.mp hv]
    exact Or.inr ⟨by decide, by decide⟩
  have hen := ak_entry ac 364 [Value.ref 1000000] (by decide)
  have hent : entryFrame m ([Value.ref b] : List Value).toArray 12 = F0 m 0 ((lg_sl ([Value.ref 1000000].map (ak_v ac)) ++ List.replicate (am_X 364 - (lg_sl ([Value.ref 1000000].map (ak_v ac))).length) Slot.unset).toArray) [] := by
    have e1 : [Value.ref 1000000].map (ak_v ac) = [Value.ref b] := by show [Value.ref (ac 1000000)] = _; rw [hac]
    rw [e1, lg_entry_eq, am_X364]
  rw [hent]
  refine ak_sound (D := D) (dA := dA) (ac := ac) (base := s.heap.size) n 364 (ak_en 364 [.ref 1000000]) ak_M0 _ hgo p l e room_1 s m _ below meth c _ s.heap [] 0 0 600086 7301442 _ ac ac ak_M0 C hA hM ⟨fun v hv => absurd hv List.not_mem_nil, ak_en_ok hv, hen⟩ (fun x hx => ⟨hx, rfl⟩) (Nat.le_refl _) (Nat.le_refl _) (by show 0 + ak_C M' ≤ 600086 + 0; omega) (by show 0 + ak_Z M' ≤ 7301442 + 0; omega) ?_ ?_
  · intro pc' l1' l2' st' M1 H' locs' cells' slots' ls' ad' hS hM1 hF1 hext hb1 hb2
    obtain ⟨ins, hi, hS2⟩ := ak_Sx hS
    have h3 := ak_endle hS
    obtain ⟨nn, hd, hn⟩ := ak_code (by decide) hi
    have hend : ins = .ireturn ∧ st' = [.int 1] := by
      rcases ak_kinds hS2 with hk | ⟨hk, -⟩
      · exfalso
        cases ins <;> first | (cases hk; done) | exact absurd hS2 ak_incl
      · cases ins with
        | ireturn =>
          refine ⟨rfl, ?_⟩
          simp only [ak_x, ak_e] at hS2
          split at hS2
          · split at hS2
            · cases hS2; rfl
            · cases hS2
          · cases hS2
        | areturn =>
          simp only [ak_x, ak_e] at hS2
          repeat' (split at hS2)
          all_goals cases hS2
        | freturn =>
          simp only [ak_x, ak_e] at hS2
          repeat' (split at hS2)
          all_goals cases hS2
        | dreturn =>
          simp only [ak_x, ak_e] at hS2
          repeat' (split at hS2)
          all_goals cases hS2
        | return_ =>
          simp only [ak_x, ak_e] at hS2
          repeat' (split at hS2)
          all_goals cases hS2
        | new _ =>
          simp only [ak_x, ak_e] at hS2
          repeat' (split at hS2)
          all_goals first | (cases hS2; done) | exact absurd hS2 ak_nne
        | _ => cases hk
    obtain ⟨rfl, rfl⟩ := hend
    have h4 : ak_C M1 ≤ ak_C M' := h3.1
    have h5 : ak_Z M1 ≤ ak_Z M' := h3.2.1
    have hb1 : cells' + ak_C M' ≤ 600086 + ak_C M1 := hb1
    have hb2 : slots' + ak_Z M' ≤ 7301442 + ak_Z M1 := hb2
    refine va_forget (fun q hq => hM1.2.1.2.2 q hq) ?_
    refine W.widen (k := 600086) (n := 7301442) (by omega) (by omega) ?_
    exact lw_ret hx hb hr hlocks (by rw [am_B364]; exact ak_d1 hd hn (k := 0) rfl)
  · intro pc' rest E H' locs' cells' slots' ls' ad' q ce hr9
    cases hr9
end
section
/-! runs without fuel -/
theorem ak_gom {X : ak_X} : ∀ (n mi : Nat) (f : ak_F) (M : ak_M) (r : ak_O × ak_M), ak_go X n mi f M = some r → ak_go X (n + 1) mi f M = some r
  | 0, mi, f, M, r, h => by cases h
  | n + 1, mi, f, M, r, h => by
    unfold ak_go at h ⊢
    cases hS : ak_S X mi f M with
    | none => rw [hS] at h; cases h
    | some a =>
      rw [hS] at h
      rcases a with ⟨f', M'⟩ | r' | ⟨cal, as, g, M1⟩
      · exact ak_gom n mi f' M' r h
      · exact h
      · dsimp only at h ⊢
        cases h1 : ak_go X n cal (ak_en cal as) M1 with
        | none => rw [h1] at h; cases h
        | some q =>
          rw [h1] at h
          rw [ak_gom n cal _ _ _ h1]
          obtain ⟨o, M2⟩ := q
          cases o with
          | inl v => exact ak_gom n mi _ _ r h
          | inr E =>
            dsimp only at h ⊢
            split at h
            · rename_i hth
              rw [if_pos hth]
              split at h
              · rename_i hem
                rw [if_pos hem]
                exact h
              · rename_i hem
                rw [if_neg hem]
                cases ht : ak_h (am_H mi) (g.1 - 3) E with
                | none => rw [ht] at h; cases h
                | some t => rw [ht] at h; exact ak_gom n mi _ _ r h
            · cases h
theorem ak_gol {X : ak_X} {n m mi : Nat} {f : ak_F} {M : ak_M} {r : ak_O × ak_M} (h : ak_go X n mi f M = some r) (hl : n ≤ m) : ak_go X m mi f M = some r := by
  obtain ⟨k, rfl⟩ := Nat.exists_eq_add_of_le hl
  clear hl
  induction k with
  | zero => exact h
  | succ k ih => exact ak_gom _ _ _ _ _ ih
/-- from a frame on the method comes to r -/
def sg (X : ak_X) (mi : Nat) (f : ak_F) (M : ak_M) (r : ak_O × ak_M) : Prop := ∃ n, ak_go X n mi f M = some r
/-- a method comes to r -/
def rn (X : ak_X) (mi : Nat) (as : List Value) (M : ak_M) (r : ak_O × ak_M) : Prop := sg X mi (ak_en mi as) M r
theorem sg_nx {X : ak_X} {mi : Nat} {f f' : ak_F} {M M' : ak_M} {r : ak_O × ak_M} (h : ak_S X mi f M = some (.inl (f', M'))) (k : sg X mi f' M' r) : sg X mi f M r := by
  obtain ⟨n, hn⟩ := k
  refine ⟨n + 1, ?_⟩
  unfold ak_go
  rw [h]
  exact hn
theorem sg_rt {X : ak_X} {mi : Nat} {f : ak_F} {M : ak_M} {r : ak_O × ak_M} (h : ak_S X mi f M = some (.inr (.inl r))) : sg X mi f M r := by
  refine ⟨1, ?_⟩
  unfold ak_go
  rw [h]
theorem sg_cl {X : ak_X} {mi cal : Nat} {f : ak_F} {as : List Value} {g : ak_F} {M M1 M2 : ak_M} {v : Option Value} {r : ak_O × ak_M} (h : ak_S X mi f M = some (.inr (.inr (cal, as, g, M1)))) (h1 : rn X cal as M1 (.inl v, M2)) (k : sg X mi (g.1, g.2.1, g.2.2.1, v.toList ++ g.2.2.2) M2 r) : sg X mi f M r := by
  obtain ⟨n, hn⟩ := h1
  obtain ⟨m, hm⟩ := k
  refine ⟨max n m + 1, ?_⟩
  unfold ak_go
  rw [h]
  dsimp only
  rw [ak_gol hn (Nat.le_max_left n m)]
  exact ak_gol hm (Nat.le_max_right n m)
theorem sg_th {X : ak_X} {mi cal E : Nat} {f : ak_F} {as : List Value} {g : ak_F} {M M1 M2 : ak_M} (h : ak_S X mi f M = some (.inr (.inr (cal, as, g, M1)))) (ht : am_th.contains cal = true) (hH : (am_H mi).isEmpty = true) (h1 : rn X cal as M1 (.inr E, M2)) : sg X mi f M (.inr E, M2) := by
  obtain ⟨n, hn⟩ := h1
  refine ⟨n + 1, ?_⟩
  unfold ak_go
  rw [h]
  dsimp only
  rw [hn]
  dsimp only
  rw [if_pos ht, if_pos hH]
theorem sg_ct {X : ak_X} {mi cal E t : Nat} {f : ak_F} {as : List Value} {g : ak_F} {M M1 M2 : ak_M} {r : ak_O × ak_M} (h : ak_S X mi f M = some (.inr (.inr (cal, as, g, M1)))) (ht : am_th.contains cal = true) (hH : (am_H mi).isEmpty = false) (hh : ak_h (am_H mi) (g.1 - 3) E = some t) (h1 : rn X cal as M1 (.inr E, M2))
    (k : sg X mi (t, g.2.1, g.2.2.1, [.ref (3000000 + ak_C M2)]) (ak_use M2 1 0) r) : sg X mi f M r := by
  obtain ⟨n, hn⟩ := h1
  obtain ⟨m, hm⟩ := k
  refine ⟨max n m + 1, ?_⟩
  unfold ak_go
  rw [h]
  dsimp only
  rw [ak_gol hn (Nat.le_max_left n m)]
  dsimp only
  rw [if_pos ht, if_neg (by rw [hH]; decide), hh]
  exact ak_gol hm (Nat.le_max_right n m)
/-- one step where the code is known -/
theorem ak_SA {X : ak_X} {mi pc : Nat} {ins : Instr} {l1 : List (Option Value)} {l2 : List (Nat × Value)} {st : List Value} {M : ak_M} (h : am_A mi pc = some ins) : ak_S X mi (pc, l1, l2, st) M = ak_x X mi ins pc l1 l2 st M := by
  unfold ak_S
  dsimp only
  rw [h]
end
section
/-! the places after the constructors, laid by lay31.py -/
def ab_Kl : List Nat := [11, 4, 101, 7, 101, 8, 2, 105, 106, 107, 100, 0, 5, 5, 5, 5, 5, 5, 5, 5, 5, 5, 10, 10, 10, 10, 1, 1, 1, 1, 1, 1, 1, 1, 1, 1, 1, 1, 6, 109, 101, 101, 101, 101, 101, 101, 101, 101, 101, 101, 100, 9, 6, 109, 101, 101, 101, 101, 101, 101, 101, 101, 101, 101, 100, 2, 105, 106, 107, 100, 0, 5, 5, 5, 5, 5, 5, 5, 5, 5, 5, 10, 10, 10, 10, 1, 1, 1, 1, 1, 1, 1, 1, 1, 1, 1, 1, 2, 105, 106, 107, 100, 0, 5, 5, 5, 5, 5, 5, 5, 5, 5, 5, 10, 10, 10, 10, 1, 1, 1, 1, 1, 1, 1, 1, 1, 1, 1, 1, 2, 105, 106, 107, 100, 0, 5, 5, 5, 5, 5, 5, 5, 5, 5, 5, 10, 10, 10, 10, 1, 1, 1, 1, 1, 1, 1, 1, 1, 1, 1, 1, 3, 108, 2, 105, 106, 107, 100, 0, 5, 5, 5, 5, 5, 5, 5, 5, 5, 5, 10, 10, 10, 10, 1, 1, 1, 1, 1, 1, 1, 1, 1, 1, 1, 1, 2, 105, 106, 107, 100, 0, 5, 5, 5, 5, 5, 5, 5, 5, 5, 5, 10, 10, 10, 10, 1, 1, 1, 1, 1, 1, 1, 1, 1, 1, 1, 1, 2, 105, 106, 107, 100, 0, 5, 5, 5, 5, 5, 5, 5, 5, 5, 5, 10, 10, 10, 10, 1, 1, 1, 1, 1, 1, 1, 1, 1, 1, 1, 1, 2, 105, 106, 107, 100, 0, 5, 5, 5, 5, 5, 5, 5, 5, 5, 5, 10, 10, 10, 10, 1, 1, 1, 1, 1, 1, 1, 1, 1, 1, 1, 1, 2, 105, 106, 107, 100, 0, 5, 5, 5, 5, 5, 5, 5, 5, 5, 5, 10, 10, 10, 10, 1, 1, 1, 1, 1, 1, 1, 1, 1, 1, 1, 1, 2, 105, 106, 107, 100, 0, 5, 5, 5, 5, 5, 5, 5, 5, 5, 5, 10, 10, 10, 10, 1, 1, 1, 1, 1, 1, 1, 1, 1, 1, 1, 1, 2, 105, 106, 107, 100, 0, 5, 5, 5, 5, 5, 5, 5, 5, 5, 5, 10, 10, 10, 10, 1, 1, 1, 1, 1, 1, 1, 1, 1, 1, 1, 1, 2, 105, 106, 107, 100, 0, 5, 5, 5, 5, 5, 5, 5, 5, 5, 5, 10, 10, 10, 10, 1, 1, 1, 1, 1, 1, 1, 1, 1, 1, 1, 1, 2, 105, 106, 107, 100, 0, 5, 5, 5, 5, 5, 5, 5, 5, 5, 5, 10, 10, 10, 10, 1, 1, 1, 1, 1, 1, 1, 1, 1, 1, 1, 1, 2, 105, 106, 107, 100, 0, 5, 5, 5, 5, 5, 5, 5, 5, 5, 5, 10, 10, 10, 10, 1, 1, 1, 1, 1, 1, 1, 1, 1, 1, 1, 1, 12, 100, 100, 100, 100, 100, 100, 100, 100, 100, 100, 102, 101, 101, 103, 104]
def ab_Nl : List Nat := [0, 0, 700, 0, 640, 0, 0, 10, 4, 12, 6, 0, 0, 0, 0, 0, 0, 0, 0, 0, 0, 0, 0, 0, 0, 0, 0, 0, 0, 0, 0, 0, 0, 0, 0, 0, 0, 0, 0, 10, 6, 6, 6, 6, 6, 6, 6, 6, 6, 6, 10, 0, 0, 10, 6, 6, 6, 6, 6, 6, 6, 6, 6, 6, 10, 0, 10, 4, 12, 6, 0, 0, 0, 0, 0, 0, 0, 0, 0, 0, 0, 0, 0, 0, 0, 0, 0, 0, 0, 0, 0, 0, 0, 0, 0, 0, 0, 0, 10, 4, 12, 6, 0, 0, 0, 0, 0, 0, 0, 0, 0, 0, 0, 0, 0, 0, 0, 0, 0, 0, 0, 0, 0, 0, 0, 0, 0, 0, 0, 0, 10, 4, 12, 6, 0, 0, 0, 0, 0, 0, 0, 0, 0, 0, 0, 0, 0, 0, 0, 0, 0, 0, 0, 0, 0, 0, 0, 0, 0, 0, 0, 0, 10, 0, 10, 4, 12, 6, 0, 0, 0, 0, 0, 0, 0, 0, 0, 0, 0, 0, 0, 0, 0, 0, 0, 0, 0, 0, 0, 0, 0, 0, 0, 0, 0, 0, 10, 4, 12, 6, 0, 0, 0, 0, 0, 0, 0, 0, 0, 0, 0, 0, 0, 0, 0, 0, 0, 0, 0, 0, 0, 0, 0, 0, 0, 0, 0, 0, 10, 4, 12, 6, 0, 0, 0, 0, 0, 0, 0, 0, 0, 0, 0, 0, 0, 0, 0, 0, 0, 0, 0, 0, 0, 0, 0, 0, 0, 0, 0, 0, 10, 4, 12, 6, 0, 0, 0, 0, 0, 0, 0, 0, 0, 0, 0, 0, 0, 0, 0, 0, 0, 0, 0, 0, 0, 0, 0, 0, 0, 0, 0, 0, 10, 4, 12, 6, 0, 0, 0, 0, 0, 0, 0, 0, 0, 0, 0, 0, 0, 0, 0, 0, 0, 0, 0, 0, 0, 0, 0, 0, 0, 0, 0, 0, 10, 4, 12, 6, 0, 0, 0, 0, 0, 0, 0, 0, 0, 0, 0, 0, 0, 0, 0, 0, 0, 0, 0, 0, 0, 0, 0, 0, 0, 0, 0, 0, 10, 4, 12, 6, 0, 0, 0, 0, 0, 0, 0, 0, 0, 0, 0, 0, 0, 0, 0, 0, 0, 0, 0, 0, 0, 0, 0, 0, 0, 0, 0, 0, 10, 4, 12, 6, 0, 0, 0, 0, 0, 0, 0, 0, 0, 0, 0, 0, 0, 0, 0, 0, 0, 0, 0, 0, 0, 0, 0, 0, 0, 0, 0, 0, 10, 4, 12, 6, 0, 0, 0, 0, 0, 0, 0, 0, 0, 0, 0, 0, 0, 0, 0, 0, 0, 0, 0, 0, 0, 0, 0, 0, 0, 0, 0, 0, 10, 4, 12, 6, 0, 0, 0, 0, 0, 0, 0, 0, 0, 0, 0, 0, 0, 0, 0, 0, 0, 0, 0, 0, 0, 0, 0, 0, 0, 0, 0, 0, 245, 245, 245, 245, 245, 2450, 10, 10, 10, 10, 10, 700, 800, 1, 1]
def ab_Rl : List (List (Option Nat)) := [[some 1, some 3, some 5, some 52, some 65, some 97, some 129, some 161], [some 2], [], [some 4], [], [some 6, some 38, some 51], [some 7, some 8, some 9, some 10, some 11], [some 12, some 13, some 14, some 15, some 16, some 17, some 18, some 19, some 20, some 21], [some 22, some 23, some 24, some 25], [some 26, some 27, some 28, some 29, some 30, some 31, some 32, some 33, some 34, some 35, some 36, some 37], [], [], [], [], [], [], [], [], [], [], [], [], [], [], [], [], [], [], [], [], [], [], [], [], [], [], [], [], [some 39, some 50], [some 40, some 41, some 42, some 43, some 44, some 45, some 46, some 47, some 48, some 49], [], [], [], [], [], [], [], [], [], [], [], [some 1], [some 53, some 64], [some 54, some 55, some 56, some 57, some 58, some 59, some 60, some 61, some 62, some 63], [], [], [], [], [], [], [], [], [], [], [], [some 66, some 67, some 68, some 69, some 70], [some 71, some 72, some 73, some 74, some 75, some 76, some 77, some 78, some 79, some 80], [some 81, some 82, some 83, some 84], [some 85, some 86, some 87, some 88, some 89, some 90, some 91, some 92, some 93, some 94, some 95, some 96], [], [], [], [], [], [], [], [], [], [], [], [], [], [], [], [], [], [], [], [], [], [], [], [], [], [], [], [], [some 98, some 99, some 100, some 101, some 102], [some 103, some 104, some 105, some 106, some 107, some 108, some 109, some 110, some 111, some 112], [some 113, some 114, some 115, some 116], [some 117, some 118, some 119, some 120, some 121, some 122, some 123, some 124, some 125, some 126, some 127, some 128], [], [], [], [], [], [], [], [], [], [], [], [], [], [], [], [], [], [], [], [], [], [], [], [], [], [], [], [], [some 130, some 131, some 132, some 133, some 134], [some 135, some 136, some 137, some 138, some 139, some 140, some 141, some 142, some 143, some 144], [some 145, some 146, some 147, some 148], [some 149, some 150, some 151, some 152, some 153, some 154, some 155, some 156, some 157, some 158, some 159, some 160], [], [], [], [], [], [], [], [], [], [], [], [], [], [], [], [], [], [], [], [], [], [], [], [], [], [], [], [], [some 162], [some 163, some 195, some 227, some 259, some 291, some 323, some 355, some 387, some 419, some 451], [some 164, some 165, some 166, some 167, some 168], [some 169, some 170, some 171, some 172, some 173, some 174, some 175, some 176, some 177, some 178], [some 179, some 180, some 181, some 182], [some 183, some 184, some 185, some 186, some 187, some 188, some 189, some 190, some 191, some 192, some 193, some 194], [], [], [], [], [], [], [], [], [], [], [], [], [], [], [], [], [], [], [], [], [], [], [], [], [], [], [], [], [some 196, some 197, some 198, some 199, some 200], [some 201, some 202, some 203, some 204, some 205, some 206, some 207, some 208, some 209, some 210], [some 211, some 212, some 213, some 214], [some 215, some 216, some 217, some 218, some 219, some 220, some 221, some 222, some 223, some 224, some 225, some 226], [], [], [], [], [], [], [], [], [], [], [], [], [], [], [], [], [], [], [], [], [], [], [], [], [], [], [], [], [some 228, some 229, some 230, some 231, some 232], [some 233, some 234, some 235, some 236, some 237, some 238, some 239, some 240, some 241, some 242], [some 243, some 244, some 245, some 246], [some 247, some 248, some 249, some 250, some 251, some 252, some 253, some 254, some 255, some 256, some 257, some 258], [], [], [], [], [], [], [], [], [], [], [], [], [], [], [], [], [], [], [], [], [], [], [], [], [], [], [], [], [some 260, some 261, some 262, some 263, some 264], [some 265, some 266, some 267, some 268, some 269, some 270, some 271, some 272, some 273, some 274], [some 275, some 276, some 277, some 278], [some 279, some 280, some 281, some 282, some 283, some 284, some 285, some 286, some 287, some 288, some 289, some 290], [], [], [], [], [], [], [], [], [], [], [], [], [], [], [], [], [], [], [], [], [], [], [], [], [], [], [], [], [some 292, some 293, some 294, some 295, some 296], [some 297, some 298, some 299, some 300, some 301, some 302, some 303, some 304, some 305, some 306], [some 307, some 308, some 309, some 310], [some 311, some 312, some 313, some 314, some 315, some 316, some 317, some 318, some 319, some 320, some 321, some 322], [], [], [], [], [], [], [], [], [], [], [], [], [], [], [], [], [], [], [], [], [], [], [], [], [], [], [], [], [some 324, some 325, some 326, some 327, some 328], [some 329, some 330, some 331, some 332, some 333, some 334, some 335, some 336, some 337, some 338], [some 339, some 340, some 341, some 342], [some 343, some 344, some 345, some 346, some 347, some 348, some 349, some 350, some 351, some 352, some 353, some 354], [], [], [], [], [], [], [], [], [], [], [], [], [], [], [], [], [], [], [], [], [], [], [], [], [], [], [], [], [some 356, some 357, some 358, some 359, some 360], [some 361, some 362, some 363, some 364, some 365, some 366, some 367, some 368, some 369, some 370], [some 371, some 372, some 373, some 374], [some 375, some 376, some 377, some 378, some 379, some 380, some 381, some 382, some 383, some 384, some 385, some 386], [], [], [], [], [], [], [], [], [], [], [], [], [], [], [], [], [], [], [], [], [], [], [], [], [], [], [], [], [some 388, some 389, some 390, some 391, some 392], [some 393, some 394, some 395, some 396, some 397, some 398, some 399, some 400, some 401, some 402], [some 403, some 404, some 405, some 406], [some 407, some 408, some 409, some 410, some 411, some 412, some 413, some 414, some 415, some 416, some 417, some 418], [], [], [], [], [], [], [], [], [], [], [], [], [], [], [], [], [], [], [], [], [], [], [], [], [], [], [], [], [some 420, some 421, some 422, some 423, some 424], [some 425, some 426, some 427, some 428, some 429, some 430, some 431, some 432, some 433, some 434], [some 435, some 436, some 437, some 438], [some 439, some 440, some 441, some 442, some 443, some 444, some 445, some 446, some 447, some 448, some 449, some 450], [], [], [], [], [], [], [], [], [], [], [], [], [], [], [], [], [], [], [], [], [], [], [], [], [], [], [], [], [some 452, some 453, some 454, some 455, some 456], [some 457, some 458, some 459, some 460, some 461, some 462, some 463, some 464, some 465, some 466], [some 467, some 468, some 469, some 470], [some 471, some 472, some 473, some 474, some 475, some 476, some 477, some 478, some 479, some 480, some 481, some 482], [], [], [], [], [], [], [], [], [], [], [], [], [], [], [], [], [], [], [], [], [], [], [], [], [], [], [], [], [none, some 484, some 485, some 486, some 487, some 488, some 489, none, none, none, none, some 490, some 491, some 492, some 493, some 494, some 495, none, none, none, none, none, none, none, none, none, none, some 496], [], [], [], [], [], [], [], [], [], [], [], [], [], [], []]
def ab_Il : List (List Int32) := [[0, 0, 0, 0, 0, 0, 0, 0, 0, 0, -1], [], [], [], [], [0, 0, 0, 0, 0, 0, -1], [0, 0, 0, 0, 0, 0, 1], [], [], [], [5, 2, 3, 4, 3, 10], [], [], [], [], [], [], [], [], [], [], [], [0, 3], [], [], [], [], [], [], [], [], [], [], [], [], [], [], [], [], [], [], [], [], [], [], [], [], [], [], [], [], [], [], [], [], [], [], [], [], [], [], [], [], [], [], [0, 0, 0, 0, 0, 0, 1], [], [], [], [5, 2, 3, 4, 3, 10], [], [], [], [], [], [], [], [], [], [], [], [0, 3], [], [], [], [], [], [], [], [], [], [], [], [], [], [], [], [0, 0, 0, 0, 0, 0, 1], [], [], [], [5, 2, 3, 4, 3, 10], [], [], [], [], [], [], [], [], [], [], [], [0, 3], [], [], [], [], [], [], [], [], [], [], [], [], [], [], [], [0, 0, 0, 0, 0, 0, 1], [], [], [], [5, 2, 3, 4, 3, 10], [], [], [], [], [], [], [], [], [], [], [], [0, 3], [], [], [], [], [], [], [], [], [], [], [], [], [], [], [], [], [], [0, 0, 0, 0, 0, 0, 1], [], [], [], [5, 2, 3, 4, 3, 10], [], [], [], [], [], [], [], [], [], [], [], [0, 3], [], [], [], [], [], [], [], [], [], [], [], [], [], [], [], [0, 0, 0, 0, 0, 0, 1], [], [], [], [5, 2, 3, 4, 3, 10], [], [], [], [], [], [], [], [], [], [], [], [0, 3], [], [], [], [], [], [], [], [], [], [], [], [], [], [], [], [0, 0, 0, 0, 0, 0, 1], [], [], [], [5, 2, 3, 4, 3, 10], [], [], [], [], [], [], [], [], [], [], [], [0, 3], [], [], [], [], [], [], [], [], [], [], [], [], [], [], [], [0, 0, 0, 0, 0, 0, 1], [], [], [], [5, 2, 3, 4, 3, 10], [], [], [], [], [], [], [], [], [], [], [], [0, 3], [], [], [], [], [], [], [], [], [], [], [], [], [], [], [], [0, 0, 0, 0, 0, 0, 1], [], [], [], [5, 2, 3, 4, 3, 10], [], [], [], [], [], [], [], [], [], [], [], [0, 3], [], [], [], [], [], [], [], [], [], [], [], [], [], [], [], [0, 0, 0, 0, 0, 0, 1], [], [], [], [5, 2, 3, 4, 3, 10], [], [], [], [], [], [], [], [], [], [], [], [0, 3], [], [], [], [], [], [], [], [], [], [], [], [], [], [], [], [0, 0, 0, 0, 0, 0, 1], [], [], [], [5, 2, 3, 4, 3, 10], [], [], [], [], [], [], [], [], [], [], [], [0, 3], [], [], [], [], [], [], [], [], [], [], [], [], [], [], [], [0, 0, 0, 0, 0, 0, 1], [], [], [], [5, 2, 3, 4, 3, 10], [], [], [], [], [], [], [], [], [], [], [], [0, 3], [], [], [], [], [], [], [], [], [], [], [], [], [], [], [], [0, 0, 0, 0, 0, 0, 1], [], [], [], [5, 2, 3, 4, 3, 10], [], [], [], [], [], [], [], [], [], [], [], [0, 3], [], [], [], [], [], [], [], [], [], [], [], [], [], [], [], [0, 0, 0, 0, 0, 0, 1], [], [], [], [5, 2, 3, 4, 3, 10], [], [], [], [], [], [], [], [], [], [], [], [0, 3], [], [], [], [], [], [], [], [], [], [], [], [], [], [], [], [0, 0, 0, 0, 0, 0, 0, 0, 0, 0, 0, 0, 0, 0, 0, 0, 0, 0, 0, 0, 0, 0, 0, 0, 0, -1], [0, 0, 1, 5, 2, 3, 4, 3, 10, 0, 0, 0, 3], [], [], [], [], [], [], [], [], [], [], [], [], [], []]
def ab_K (p : Nat) : Nat := ab_Kl.getD p 0
def ab_N (p : Nat) : Nat := ab_Nl.getD p 0
def ab_R (p k : Nat) : Option Nat := (ab_Rl.getD p []).getD k none
def ab_I (p k : Nat) : Int32 := (ab_Il.getD p []).getD k 0
def ab_xs : List Nat := [0, 4, 7, 8, 9, 28, 32, 34, 47, 53, 60, 74, 81, 83, 86, 153, 159, 160]
def ab_P1 : Nat := 483
def ab_kq : Nat := 86
def ab_md : Nat := 153
/-- a script of no ints: what the constructors need of it is nothing -/
def ab_X0 : ak_X := (0, fun _ => 0, false)
def ab_ok (mi : Nat) (ins : Instr) : Bool := match ins with
  | .arraylength => false
  | .getstatic idx => match am_S (am_O mi) idx with | some (w, _) => decide (w < 4) | none => true
  | .invokevirtual idx => match am_L mi idx with | some (cal, kind, _) => kind != 9 && (kind == 5 || ab_xs.contains cal) | none => true
  | .invokestatic idx => match am_L mi idx with | some (cal, kind, _) => kind != 9 && (kind == 5 || ab_xs.contains cal) | none => true
  | .invokespecial idx => match am_L mi idx with | some (cal, kind, _) => kind != 9 && (kind == 5 || ab_xs.contains cal) | none => true
  | _ => true
theorem ab_xok : ab_xs.all (fun mi => (am_cs mi).all (fun q => ab_ok mi q.2)) = true := by decide +kernel
theorem ab_cI {X : ak_X} {p k : Nat} (h : p ≠ 1000000) : ak_cI X p k = ak_cI ab_X0 p k ∧ ak_cN X p = ak_cN ab_X0 p := by
  unfold ak_cI ak_cN
  rw [if_neg h, if_neg h, if_neg h, if_neg h]
  exact ⟨rfl, rfl⟩
theorem ab_ix0 {i : Int32} : ak_ix i 0 = false := by
  unfold ak_ix
  simp
theorem ab_xinv {X : ak_X} {mi idx vt pc : Nat} {l1 : List (Option Value)} {l2 : List (Nat × Value)} {st : List Value} {M : ak_M} (hk : ∀ cal kind w, am_L mi idx = some (cal, kind, w) → kind ≠ 9) : ak_inv X mi idx vt pc l1 l2 st M = ak_inv ab_X0 mi idx vt pc l1 l2 st M := by
  unfold ak_inv
  cases hL : am_L mi idx with
  | none => rfl
  | some q =>
    obtain ⟨cal, kind, w⟩ := q
    have h9 : ¬ (vt = 1 ∧ kind = 9) := fun h => hk cal kind w hL h.2
    dsimp only
    rw [if_neg h9, if_neg h9]
theorem ab_xn9 {mi idx : Nat} {ins : Instr} (hi : ins = .invokevirtual idx ∨ ins = .invokestatic idx ∨ ins = .invokespecial idx) (hx : ab_ok mi ins = true) : ∀ cal kind w, am_L mi idx = some (cal, kind, w) → kind ≠ 9 := by
  intro cal kind w hL
  have hx : (kind != 9 && (kind == 5 || ab_xs.contains cal)) = true := by
    rcases hi with rfl | rfl | rfl <;> (unfold ab_ok at hx; simp only [hL] at hx; exact hx)
  rw [Bool.and_eq_true] at hx
  simpa using hx.1
theorem ab_xi {X : ak_X} {mi pc : Nat} {ins : Instr} {l1 : List (Option Value)} {l2 : List (Nat × Value)} {st : List Value} {M : ak_M} {a : ak_Act} (hx : ab_ok mi ins = true) (h : ak_x ab_X0 mi ins pc l1 l2 st M = some a) : ak_x X mi ins pc l1 l2 st M = some a := by
  cases ins with
  | arraylength => cases hx
  | getstatic idx =>
    simp only [ak_x] at h ⊢
    unfold ab_ok at hx
    cases hs : am_S (am_O mi) idx with
    | none => rw [hs] at h; cases h
    | some z =>
      obtain ⟨w, z⟩ := z
      rw [hs] at h
      simp only [hs, decide_eq_true_eq] at hx
      dsimp only at h ⊢
      split at h
      · rename_i h1; rw [if_pos h1]; exact h
      · rename_i h1
        rw [if_neg h1]
        split at h
        · rename_i h2; rw [if_pos h2]; exact h
        · exfalso; omega
  | iaload =>
    simp only [ak_x] at h ⊢
    split at h
    · rename_i i p r
      split at h
      · rename_i h1; rw [if_pos h1]; exact h
      · rename_i h1
        rw [if_neg h1]
        split at h
        · rename_i h2
          have hp : p ≠ 1000000 := by
            intro e
            obtain ⟨-, -, h3⟩ := h2
            rw [e] at h3
            have h4 : ak_ix i 0 = true := h3
            rw [ab_ix0] at h4
            cases h4
          rw [(ab_cI (X := X) (k := 0) hp).2, (ab_cI (X := X) (k := i.toNatClampNeg) hp).1, if_pos h2]
          exact h
        · cases h
    · cases h
  | baload =>
    simp only [ak_x] at h ⊢
    split at h
    · rename_i i p r
      split at h
      · rename_i h1; rw [if_pos h1]; exact h
      · rename_i h1
        rw [if_neg h1]
        split at h
        · rename_i h2
          have hp : p ≠ 1000000 := by
            intro e
            obtain ⟨-, h3, -⟩ := h2
            rw [e] at h3
            exact absurd h3 (by decide)
          rw [(ab_cI (X := X) (k := 0) hp).2, (ab_cI (X := X) (k := i.toNatClampNeg) hp).1, if_pos h2]
          exact h
        · cases h
    · cases h
  | ifCond c _ => cases c <;> exact h
  | invokevirtual idx => simp only [ak_x] at h ⊢; rw [ab_xinv (ab_xn9 (Or.inl rfl) hx)]; exact h
  | invokestatic idx => simp only [ak_x] at h ⊢; rw [ab_xinv (ab_xn9 (Or.inr (Or.inl rfl)) hx)]; exact h
  | invokespecial idx => simp only [ak_x] at h ⊢; rw [ab_xinv (ab_xn9 (Or.inr (Or.inr rfl)) hx)]; exact h
  | if_icmp c _ => cases c <;> exact h
  | _ => exact h
theorem ab_xcal {mi idx vt pc cal : Nat} {ins : Instr} {l1 : List (Option Value)} {l2 : List (Nat × Value)} {st as : List Value} {M M1 : ak_M} {g : ak_F} (hi : ins = .invokevirtual idx ∨ ins = .invokestatic idx ∨ ins = .invokespecial idx) (hx : ab_ok mi ins = true) (h : ak_inv ab_X0 mi idx vt pc l1 l2 st M = some (.inr (.inr (cal, as, g, M1)))) : cal ∈ ab_xs := by
  obtain ⟨kind, w, rest, hL, -, -, -, -, -, -, hc⟩ := ak_invc h
  have hk : ¬ kind = 5 := by
    rcases hc with ⟨-, h, -⟩ | ⟨-, h, -⟩ | ⟨-, h, -⟩
    · omega
    · omega
    · omega
  have hx : (kind != 9 && (kind == 5 || ab_xs.contains cal)) = true := by
    rcases hi with rfl | rfl | rfl <;> (unfold ab_ok at hx; simp only [hL] at hx; exact hx)
  rw [Bool.and_eq_true] at hx
  have hx := hx.2
  rw [Bool.or_eq_true] at hx
  rcases hx with hx | hx
  · exact absurd (beq_iff_eq.mp hx) hk
  · exact List.contains_iff_mem.mp hx
theorem ab_xgo {X : ak_X} : ∀ (n mi : Nat) (f : ak_F) (M : ak_M) (r : ak_O × ak_M), mi ∈ ab_xs → ak_go ab_X0 n mi f M = some r → ak_go X n mi f M = some r
  | 0, mi, f, M, r, _, h => by cases h
  | n + 1, mi, f, M, r, hm, h => by
    have hok : ∀ ins, am_A mi f.1 = some ins → ab_ok mi ins = true := by
      intro ins hi
      have h1 := List.all_eq_true.mp ab_xok mi hm
      unfold am_A at hi
      cases hf : (am_cs mi).find? (fun q => q.1 == f.1) with
      | none => rw [hf] at hi; cases hi
      | some q =>
        rw [hf] at hi
        cases hi
        exact List.all_eq_true.mp h1 q (List.mem_of_find?_eq_some hf)
    have hst : ∀ a, ak_S ab_X0 mi f M = some a → ak_S X mi f M = some a := by
      intro a ha
      obtain ⟨pc, l1, l2, st⟩ := f
      obtain ⟨ins, hi, hS⟩ := ak_Sx ha
      unfold ak_S
      dsimp only
      rw [hi]
      exact ab_xi (hok ins hi) hS
    unfold ak_go at h ⊢
    cases hS : ak_S ab_X0 mi f M with
    | none => rw [hS] at h; cases h
    | some a =>
      rw [hS] at h
      rw [hst a hS]
      rcases a with ⟨f', M'⟩ | r' | ⟨cal, as, g, M1⟩
      · exact ab_xgo n mi f' M' r hm h
      · exact h
      · have hc : cal ∈ ab_xs := by
          obtain ⟨pc, l1, l2, st⟩ := f
          obtain ⟨ins, hi, hS2⟩ := ak_Sx hS
          have hx := hok ins hi
          rcases ak_kinds hS2 with hk | ⟨-, r, hr⟩
          · cases ins with
            | invokevirtual idx => exact ab_xcal (vt := 0) (Or.inl rfl) hx hS2
            | invokestatic idx => exact ab_xcal (vt := 1) (Or.inr (Or.inl rfl)) hx hS2
            | invokespecial idx => exact ab_xcal (vt := 2) (Or.inr (Or.inr rfl)) hx hS2
            | _ => cases hk
          · cases hr
        dsimp only at h ⊢
        cases h1 : ak_go ab_X0 n cal (ak_en cal as) M1 with
        | none => rw [h1] at h; cases h
        | some q =>
          rw [h1] at h
          rw [ab_xgo n cal _ _ _ hc h1]
          obtain ⟨o, M2⟩ := q
          cases o with
          | inl v => exact ab_xgo n mi _ _ r hm h
          | inr E =>
            dsimp only at h ⊢
            split at h
            · rename_i hth
              rw [if_pos hth]
              split at h
              · rename_i hem
                rw [if_pos hem]
                exact h
              · rename_i hem
                rw [if_neg hem]
                cases ht : ak_h (am_H mi) (g.1 - 3) E with
                | none => rw [ht] at h; cases h
                | some t => rw [ht] at h; exact ab_xgo n mi _ _ r hm h
            · cases h
end
section
/-! the walk of the small machine, an instruction at a time -/
section SGW
variable {X : ak_X} {mi pc n : Nat} {l1 : List (Option Value)} {l2 : List (Nat × Value)} {st : List Value} {M : ak_M} {r : ak_O × ak_M}
theorem w_iconst {v : Int} {x : Int32} (h : am_A mi pc = some (.iconst v)) (hn : pc + 1 = n) (hx : Int32.ofInt v = x) (k : sg X mi (n, l1, l2, .int x :: st) M r) : sg X mi (pc, l1, l2, st) M r := by
  subst hn
  exact sg_nx ((ak_SA h).trans (by rw [← hx]; rfl)) k
theorem w_bipush {v : Int} {x : Int32} (h : am_A mi pc = some (.bipush v)) (hn : pc + 2 = n) (hx : (Int8.ofInt v).toInt32 = x) (k : sg X mi (n, l1, l2, .int x :: st) M r) : sg X mi (pc, l1, l2, st) M r := by
  subst hn
  exact sg_nx ((ak_SA h).trans (by rw [← hx]; rfl)) k
theorem w_sipush {v : Int} {x : Int32} (h : am_A mi pc = some (.sipush v)) (hn : pc + 3 = n) (hx : (Int16.ofInt v).toInt32 = x) (k : sg X mi (n, l1, l2, .int x :: st) M r) : sg X mi (pc, l1, l2, st) M r := by
  subst hn
  exact sg_nx ((ak_SA h).trans (by rw [← hx]; rfl)) k
theorem w_lconst {v : Fin 2} {x : Int64} (h : am_A mi pc = some (.lconst v)) (hn : pc + 1 = n) (hx : Int64.ofNat (v : Nat) = x) (k : sg X mi (n, l1, l2, .long x :: st) M r) : sg X mi (pc, l1, l2, st) M r := by
  subst hn
  exact sg_nx ((ak_SA h).trans (by rw [← hx]; rfl)) k
theorem w_fconst  (h : am_A mi pc = some (.fconst 0)) (hn : pc + 1 = n) (k : sg X mi (n, l1, l2, .float FP.fconst0 :: st) M r) : sg X mi (pc, l1, l2, st) M r := by
  subst hn
  exact sg_nx ((ak_SA h).trans (rfl)) k
theorem w_dconst  (h : am_A mi pc = some (.dconst 0)) (hn : pc + 1 = n) (k : sg X mi (n, l1, l2, .double FP.dconst0 :: st) M r) : sg X mi (pc, l1, l2, st) M r := by
  subst hn
  exact sg_nx ((ak_SA h).trans (rfl)) k
theorem w_iload_n {i : Fin 4} {x : Int32} (h : am_A mi pc = some (.iload_n i)) (hn : pc + 1 = n) (hl : l1[(i : Nat)]? = some (some (.int x))) (k : sg X mi (n, l1, l2, .int x :: st) M r) : sg X mi (pc, l1, l2, st) M r := by
  subst hn
  exact sg_nx ((ak_SA h).trans (by simp only [ak_x]; unfold ak_ld; rw [hl]; rfl)) k
theorem w_iload {i : Nat} {x : Int32} (h : am_A mi pc = some (.iload i)) (hn : pc + 2 = n) (hl : l1[i]? = some (some (.int x))) (k : sg X mi (n, l1, l2, .int x :: st) M r) : sg X mi (pc, l1, l2, st) M r := by
  subst hn
  exact sg_nx ((ak_SA h).trans (by simp only [ak_x]; unfold ak_ld; rw [hl]; rfl)) k
theorem w_aload_n {i : Fin 4} {x : Nat} (h : am_A mi pc = some (.aload_n i)) (hn : pc + 1 = n) (hl : l1[(i : Nat)]? = some (some (.ref x))) (k : sg X mi (n, l1, l2, .ref x :: st) M r) : sg X mi (pc, l1, l2, st) M r := by
  subst hn
  exact sg_nx ((ak_SA h).trans (by simp only [ak_x]; unfold ak_ld; rw [hl]; rfl)) k
theorem w_aload {i : Nat} {x : Nat} (h : am_A mi pc = some (.aload i)) (hn : pc + 2 = n) (hl : l1[i]? = some (some (.ref x))) (k : sg X mi (n, l1, l2, .ref x :: st) M r) : sg X mi (pc, l1, l2, st) M r := by
  subst hn
  exact sg_nx ((ak_SA h).trans (by simp only [ak_x]; unfold ak_ld; rw [hl]; rfl)) k
theorem w_fload {i : Nat} {x : UInt32} (h : am_A mi pc = some (.fload i)) (hn : pc + 2 = n) (hl : l1[i]? = some (some (.float x))) (k : sg X mi (n, l1, l2, .float x :: st) M r) : sg X mi (pc, l1, l2, st) M r := by
  subst hn
  exact sg_nx ((ak_SA h).trans (by simp only [ak_x]; unfold ak_ld; rw [hl]; rfl)) k
theorem w_lload_n {i : Fin 4} {x : Int64} (h : am_A mi pc = some (.lload_n i)) (hn : pc + 1 = n) (hl : ak_g2 l2 (i : Nat) = some (.long x)) (k : sg X mi (n, l1, l2, .long x :: st) M r) : sg X mi (pc, l1, l2, st) M r := by
  subst hn
  exact sg_nx ((ak_SA h).trans (by simp only [ak_x]; unfold ak_ld2; rw [hl]; rfl)) k
theorem w_lload {i : Nat} {x : Int64} (h : am_A mi pc = some (.lload i)) (hn : pc + 2 = n) (hl : ak_g2 l2 i = some (.long x)) (k : sg X mi (n, l1, l2, .long x :: st) M r) : sg X mi (pc, l1, l2, st) M r := by
  subst hn
  exact sg_nx ((ak_SA h).trans (by simp only [ak_x]; unfold ak_ld2; rw [hl]; rfl)) k
theorem w_dload_n {i : Fin 4} {x : UInt64} (h : am_A mi pc = some (.dload_n i)) (hn : pc + 1 = n) (hl : ak_g2 l2 (i : Nat) = some (.double x)) (k : sg X mi (n, l1, l2, .double x :: st) M r) : sg X mi (pc, l1, l2, st) M r := by
  subst hn
  exact sg_nx ((ak_SA h).trans (by simp only [ak_x]; unfold ak_ld2; rw [hl]; rfl)) k
theorem w_dload {i : Nat} {x : UInt64} (h : am_A mi pc = some (.dload i)) (hn : pc + 2 = n) (hl : ak_g2 l2 i = some (.double x)) (k : sg X mi (n, l1, l2, .double x :: st) M r) : sg X mi (pc, l1, l2, st) M r := by
  subst hn
  exact sg_nx ((ak_SA h).trans (by simp only [ak_x]; unfold ak_ld2; rw [hl]; rfl)) k
theorem w_istore_n {i : Fin 4} {x : Int32} {l1' : List (Option Value)} {l2' : List (Nat × Value)} (h : am_A mi pc = some (.istore_n i)) (hn : pc + 1 = n) (hi : (i : Nat) < l1.length) (h1 : l1.set (i : Nat) (some (.int x)) = l1') (h2 : l2.filter (fun q => !(q.1 == (i : Nat)) && !(q.1 + 1 == (i : Nat))) = l2') (k : sg X mi (n, l1', l2', st) M r) : sg X mi (pc, l1, l2, .int x :: st) M r := by
  subst hn
  exact sg_nx ((ak_SA h).trans (by subst h1; subst h2; simp only [ak_x]; unfold ak_s1; rw [if_pos hi]; rfl)) k
theorem w_istore {i : Nat} {x : Int32} {l1' : List (Option Value)} {l2' : List (Nat × Value)} (h : am_A mi pc = some (.istore i)) (hn : pc + 2 = n) (hi : i < l1.length) (h1 : l1.set i (some (.int x)) = l1') (h2 : l2.filter (fun q => !(q.1 == i) && !(q.1 + 1 == i)) = l2') (k : sg X mi (n, l1', l2', st) M r) : sg X mi (pc, l1, l2, .int x :: st) M r := by
  subst hn
  exact sg_nx ((ak_SA h).trans (by subst h1; subst h2; simp only [ak_x]; unfold ak_s1; rw [if_pos hi]; rfl)) k
theorem w_astore_n {i : Fin 4} {x : Nat} {l1' : List (Option Value)} {l2' : List (Nat × Value)} (h : am_A mi pc = some (.astore_n i)) (hn : pc + 1 = n) (hi : (i : Nat) < l1.length) (h1 : l1.set (i : Nat) (some (.ref x)) = l1') (h2 : l2.filter (fun q => !(q.1 == (i : Nat)) && !(q.1 + 1 == (i : Nat))) = l2') (k : sg X mi (n, l1', l2', st) M r) : sg X mi (pc, l1, l2, .ref x :: st) M r := by
  subst hn
  exact sg_nx ((ak_SA h).trans (by subst h1; subst h2; simp only [ak_x]; unfold ak_s1; rw [if_pos hi]; rfl)) k
theorem w_astore {i : Nat} {x : Nat} {l1' : List (Option Value)} {l2' : List (Nat × Value)} (h : am_A mi pc = some (.astore i)) (hn : pc + 2 = n) (hi : i < l1.length) (h1 : l1.set i (some (.ref x)) = l1') (h2 : l2.filter (fun q => !(q.1 == i) && !(q.1 + 1 == i)) = l2') (k : sg X mi (n, l1', l2', st) M r) : sg X mi (pc, l1, l2, .ref x :: st) M r := by
  subst hn
  exact sg_nx ((ak_SA h).trans (by subst h1; subst h2; simp only [ak_x]; unfold ak_s1; rw [if_pos hi]; rfl)) k
theorem w_fstore {i : Nat} {x : UInt32} {l1' : List (Option Value)} {l2' : List (Nat × Value)} (h : am_A mi pc = some (.fstore i)) (hn : pc + 2 = n) (hi : i < l1.length) (h1 : l1.set i (some (.float x)) = l1') (h2 : l2.filter (fun q => !(q.1 == i) && !(q.1 + 1 == i)) = l2') (k : sg X mi (n, l1', l2', st) M r) : sg X mi (pc, l1, l2, .float x :: st) M r := by
  subst hn
  exact sg_nx ((ak_SA h).trans (by subst h1; subst h2; simp only [ak_x]; unfold ak_s1; rw [if_pos hi]; rfl)) k
theorem w_dstore {i : Nat} {x : UInt64} {l1' : List (Option Value)} {l2' : List (Nat × Value)} (h : am_A mi pc = some (.dstore i)) (hn : pc + 2 = n) (hi : i + 1 < l1.length) (h1 : (l1.set i none).set (i + 1) none = l1') (h2 : (i, .double x) :: l2.filter (fun q => !(q.1 == i) && (!(q.1 == i + 1) && !(q.1 + 1 == i))) = l2') (k : sg X mi (n, l1', l2', st) M r) : sg X mi (pc, l1, l2, .double x :: st) M r := by
  subst hn
  exact sg_nx ((ak_SA h).trans (by subst h1; subst h2; simp only [ak_x]; unfold ak_s2; rw [if_pos hi]; rfl)) k
theorem w_iinc {i : Nat} {v : Int} {x y : Int32} {l1' : List (Option Value)} {l2' : List (Nat × Value)} (h : am_A mi pc = some (.iinc i v)) (hn : pc + 3 = n) (hl : l1[i]? = some (some (.int x))) (hy : x + Int32.ofInt v = y) (h1 : l1.set i (some (.int y)) = l1') (h2 : l2.filter (fun q => !(q.1 == i) && !(q.1 + 1 == i)) = l2') (k : sg X mi (n, l1', l2', st) M r) : sg X mi (pc, l1, l2, st) M r := by
  subst hn
  exact sg_nx ((ak_SA h).trans (by subst hy; subst h1; subst h2; simp only [ak_x]; rw [hl]; dsimp only; unfold ak_s1; rw [if_pos (List.getElem?_eq_some_iff.mp hl).1]; rfl)) k
theorem w_iadd {x y : Int32} (h : am_A mi pc = some (.iadd)) (hn : pc + 1 = n) (k : sg X mi (n, l1, l2, .int (x + y) :: st) M r) : sg X mi (pc, l1, l2, .int y :: .int x :: st) M r := by
  subst hn
  exact sg_nx ((ak_SA h).trans (rfl)) k
theorem w_isub {x y : Int32} (h : am_A mi pc = some (.isub)) (hn : pc + 1 = n) (k : sg X mi (n, l1, l2, .int (x - y) :: st) M r) : sg X mi (pc, l1, l2, .int y :: .int x :: st) M r := by
  subst hn
  exact sg_nx ((ak_SA h).trans (rfl)) k
theorem w_imul {x y : Int32} (h : am_A mi pc = some (.imul)) (hn : pc + 1 = n) (k : sg X mi (n, l1, l2, .int (x * y) :: st) M r) : sg X mi (pc, l1, l2, .int y :: .int x :: st) M r := by
  subst hn
  exact sg_nx ((ak_SA h).trans (rfl)) k
theorem w_iand {x y : Int32} (h : am_A mi pc = some (.iand)) (hn : pc + 1 = n) (k : sg X mi (n, l1, l2, .int (x &&& y) :: st) M r) : sg X mi (pc, l1, l2, .int y :: .int x :: st) M r := by
  subst hn
  exact sg_nx ((ak_SA h).trans (rfl)) k
theorem w_ior {x y : Int32} (h : am_A mi pc = some (.ior)) (hn : pc + 1 = n) (k : sg X mi (n, l1, l2, .int (x ||| y) :: st) M r) : sg X mi (pc, l1, l2, .int y :: .int x :: st) M r := by
  subst hn
  exact sg_nx ((ak_SA h).trans (rfl)) k
theorem w_ixor {x y : Int32} (h : am_A mi pc = some (.ixor)) (hn : pc + 1 = n) (k : sg X mi (n, l1, l2, .int (x ^^^ y) :: st) M r) : sg X mi (pc, l1, l2, .int y :: .int x :: st) M r := by
  subst hn
  exact sg_nx ((ak_SA h).trans (rfl)) k
theorem w_ishl {x y : Int32} (h : am_A mi pc = some (.ishl)) (hn : pc + 1 = n) (k : sg X mi (n, l1, l2, .int (x <<< (y &&& 31)) :: st) M r) : sg X mi (pc, l1, l2, .int y :: .int x :: st) M r := by
  subst hn
  exact sg_nx ((ak_SA h).trans (rfl)) k
theorem w_ishr {x y : Int32} (h : am_A mi pc = some (.ishr)) (hn : pc + 1 = n) (k : sg X mi (n, l1, l2, .int (x >>> (y &&& 31)) :: st) M r) : sg X mi (pc, l1, l2, .int y :: .int x :: st) M r := by
  subst hn
  exact sg_nx ((ak_SA h).trans (rfl)) k
theorem w_idiv {x y : Int32} (h : am_A mi pc = some (.idiv)) (hn : pc + 1 = n) (hy : y ≠ 0) (k : sg X mi (n, l1, l2, .int (x / y) :: st) M r) : sg X mi (pc, l1, l2, .int y :: .int x :: st) M r := by
  subst hn
  exact sg_nx ((ak_SA h).trans (by simp only [ak_x]; rw [if_neg hy]; rfl)) k
theorem w_irem {x y : Int32} (h : am_A mi pc = some (.irem)) (hn : pc + 1 = n) (hy : y ≠ 0) (k : sg X mi (n, l1, l2, .int (x - x / y * y) :: st) M r) : sg X mi (pc, l1, l2, .int y :: .int x :: st) M r := by
  subst hn
  exact sg_nx ((ak_SA h).trans (by simp only [ak_x]; rw [if_neg hy]; rfl)) k
theorem w_ineg {x : Int32} (h : am_A mi pc = some (.ineg)) (hn : pc + 1 = n) (k : sg X mi (n, l1, l2, .int (-x) :: st) M r) : sg X mi (pc, l1, l2, .int x :: st) M r := by
  subst hn
  exact sg_nx ((ak_SA h).trans (rfl)) k
theorem w_lsub {x y : Int64} (h : am_A mi pc = some (.lsub)) (hn : pc + 1 = n) (k : sg X mi (n, l1, l2, .long (x - y) :: st) M r) : sg X mi (pc, l1, l2, .long y :: .long x :: st) M r := by
  subst hn
  exact sg_nx ((ak_SA h).trans (rfl)) k
theorem w_lcmp {x y : Int64} (h : am_A mi pc = some (.lcmp)) (hn : pc + 1 = n) (k : sg X mi (n, l1, l2, .int (lg_cmp x y) :: st) M r) : sg X mi (pc, l1, l2, .long y :: .long x :: st) M r := by
  subst hn
  exact sg_nx ((ak_SA h).trans (rfl)) k
theorem w_i2l {x : Int32} (h : am_A mi pc = some (.i2l)) (hn : pc + 1 = n) (k : sg X mi (n, l1, l2, .long x.toInt64 :: st) M r) : sg X mi (pc, l1, l2, .int x :: st) M r := by
  subst hn
  exact sg_nx ((ak_SA h).trans (rfl)) k
theorem w_i2b {x : Int32} (h : am_A mi pc = some (.i2b)) (hn : pc + 1 = n) (k : sg X mi (n, l1, l2, .int x.toInt8.toInt32 :: st) M r) : sg X mi (pc, l1, l2, .int x :: st) M r := by
  subst hn
  exact sg_nx ((ak_SA h).trans (rfl)) k
theorem w_i2c {x : Int32} (h : am_A mi pc = some (.i2c)) (hn : pc + 1 = n) (k : sg X mi (n, l1, l2, .int (x.toUInt32 % 65536).toInt32 :: st) M r) : sg X mi (pc, l1, l2, .int x :: st) M r := by
  subst hn
  exact sg_nx ((ak_SA h).trans (rfl)) k
theorem w_i2f {x : Int32} (h : am_A mi pc = some (.i2f)) (hn : pc + 1 = n) (k : sg X mi (n, l1, l2, .float (FP.i2f x) :: st) M r) : sg X mi (pc, l1, l2, .int x :: st) M r := by
  subst hn
  exact sg_nx ((ak_SA h).trans (rfl)) k
theorem w_i2d {x : Int32} (h : am_A mi pc = some (.i2d)) (hn : pc + 1 = n) (k : sg X mi (n, l1, l2, .double (FP.i2d x) :: st) M r) : sg X mi (pc, l1, l2, .int x :: st) M r := by
  subst hn
  exact sg_nx ((ak_SA h).trans (rfl)) k
theorem w_f2d {x : UInt32} (h : am_A mi pc = some (.f2d)) (hn : pc + 1 = n) (hy : (FP.f2d x) &&& 0x7fffffffffffffff ≤ 0x7ff0000000000000) (k : sg X mi (n, l1, l2, .double (FP.f2d x) :: st) M r) : sg X mi (pc, l1, l2, .float x :: st) M r := by
  subst hn
  exact sg_nx ((ak_SA h).trans (by simp only [ak_x]; rw [if_pos hy]; rfl)) k
theorem w_fdiv {x y : UInt32} (h : am_A mi pc = some (.fdiv)) (hn : pc + 1 = n) (hy : (FP.fdiv x y) &&& 0x7fffffff ≤ 0x7f800000) (k : sg X mi (n, l1, l2, .float (FP.fdiv x y) :: st) M r) : sg X mi (pc, l1, l2, .float y :: .float x :: st) M r := by
  subst hn
  exact sg_nx ((ak_SA h).trans (by simp only [ak_x]; rw [if_pos hy]; rfl)) k
theorem w_ddiv {x y : UInt64} (h : am_A mi pc = some (.ddiv)) (hn : pc + 1 = n) (hy : (FP.ddiv x y) &&& 0x7fffffffffffffff ≤ 0x7ff0000000000000) (k : sg X mi (n, l1, l2, .double (FP.ddiv x y) :: st) M r) : sg X mi (pc, l1, l2, .double y :: .double x :: st) M r := by
  subst hn
  exact sg_nx ((ak_SA h).trans (by simp only [ak_x]; rw [if_pos hy]; rfl)) k
theorem w_fcmp {x y : UInt32} (h : am_A mi pc = some (.fcmp .l)) (hn : pc + 1 = n) (k : sg X mi (n, l1, l2, .int (Op.cmpValue (FP.fcmp x y) .l) :: st) M r) : sg X mi (pc, l1, l2, .float y :: .float x :: st) M r := by
  subst hn
  exact sg_nx ((ak_SA h).trans (rfl)) k
theorem w_dcmp {x y : UInt64} (h : am_A mi pc = some (.dcmp .l)) (hn : pc + 1 = n) (k : sg X mi (n, l1, l2, .int (Op.cmpValue (FP.dcmp x y) .l) :: st) M r) : sg X mi (pc, l1, l2, .double y :: .double x :: st) M r := by
  subst hn
  exact sg_nx ((ak_SA h).trans (rfl)) k
theorem w_dup_int {x : Int32} (h : am_A mi pc = some (.dup)) (hn : pc + 1 = n) (k : sg X mi (n, l1, l2, .int x :: .int x :: st) M r) : sg X mi (pc, l1, l2, .int x :: st) M r := by
  subst hn
  exact sg_nx ((ak_SA h).trans (by simp only [ak_x]; rw [if_pos (show (Value.int x).category = 1 from rfl)]; rfl)) k
theorem w_pop_int {x : Int32} (h : am_A mi pc = some (.pop)) (hn : pc + 1 = n) (k : sg X mi (n, l1, l2, st) M r) : sg X mi (pc, l1, l2, .int x :: st) M r := by
  subst hn
  exact sg_nx ((ak_SA h).trans (by simp only [ak_x]; rw [if_pos (show (Value.int x).category = 1 from rfl)]; rfl)) k
theorem w_dup_ref {x : Nat} (h : am_A mi pc = some (.dup)) (hn : pc + 1 = n) (k : sg X mi (n, l1, l2, .ref x :: .ref x :: st) M r) : sg X mi (pc, l1, l2, .ref x :: st) M r := by
  subst hn
  exact sg_nx ((ak_SA h).trans (by simp only [ak_x]; rw [if_pos (show (Value.ref x).category = 1 from rfl)]; rfl)) k
theorem w_pop_ref {x : Nat} (h : am_A mi pc = some (.pop)) (hn : pc + 1 = n) (k : sg X mi (n, l1, l2, st) M r) : sg X mi (pc, l1, l2, .ref x :: st) M r := by
  subst hn
  exact sg_nx ((ak_SA h).trans (by simp only [ak_x]; rw [if_pos (show (Value.ref x).category = 1 from rfl)]; rfl)) k
theorem w_dup_float {x : UInt32} (h : am_A mi pc = some (.dup)) (hn : pc + 1 = n) (k : sg X mi (n, l1, l2, .float x :: .float x :: st) M r) : sg X mi (pc, l1, l2, .float x :: st) M r := by
  subst hn
  exact sg_nx ((ak_SA h).trans (by simp only [ak_x]; rw [if_pos (show (Value.float x).category = 1 from rfl)]; rfl)) k
theorem w_pop_float {x : UInt32} (h : am_A mi pc = some (.pop)) (hn : pc + 1 = n) (k : sg X mi (n, l1, l2, st) M r) : sg X mi (pc, l1, l2, .float x :: st) M r := by
  subst hn
  exact sg_nx ((ak_SA h).trans (by simp only [ak_x]; rw [if_pos (show (Value.float x).category = 1 from rfl)]; rfl)) k
theorem w_goto {off : Int} (h : am_A mi pc = some (.goto off)) (hn : (pc : Int) + off = (n : Int)) (k : sg X mi (n, l1, l2, st) M r) : sg X mi (pc, l1, l2, st) M r := by
  refine sg_nx ((ak_SA h).trans ?_) k
  simp only [ak_x]
  unfold ak_j
  rw [hn, if_pos (Int.natCast_nonneg _)]
  rfl
theorem w_if_eq_j {x : Int32} {off : Int} (h : am_A mi pc = some (.ifCond .eq off)) (hn : (pc : Int) + off = (n : Int)) (hc : x = 0) (k : sg X mi (n, l1, l2, st) M r) : sg X mi (pc, l1, l2, .int x :: st) M r := by
  refine sg_nx ((ak_SA h).trans ?_) k
  simp only [ak_x]
  rw [if_pos hc]
  unfold ak_j
  rw [hn, if_pos (Int.natCast_nonneg _)]
  rfl
theorem w_if_eq_n {x : Int32} {off : Int} (h : am_A mi pc = some (.ifCond .eq off)) (hn : pc + 3 = n) (hc : ¬ (x = 0)) (k : sg X mi (n, l1, l2, st) M r) : sg X mi (pc, l1, l2, .int x :: st) M r := by
  subst hn
  refine sg_nx ((ak_SA h).trans ?_) k
  simp only [ak_x]
  rw [if_neg hc]
  rfl
theorem w_icmp_eq_j {x y : Int32} {off : Int} (h : am_A mi pc = some (.if_icmp .eq off)) (hn : (pc : Int) + off = (n : Int)) (hc : x = y) (k : sg X mi (n, l1, l2, st) M r) : sg X mi (pc, l1, l2, .int y :: .int x :: st) M r := by
  refine sg_nx ((ak_SA h).trans ?_) k
  simp only [ak_x]
  rw [if_pos hc]
  unfold ak_j
  rw [hn, if_pos (Int.natCast_nonneg _)]
  rfl
theorem w_icmp_eq_n {x y : Int32} {off : Int} (h : am_A mi pc = some (.if_icmp .eq off)) (hn : pc + 3 = n) (hc : ¬ (x = y)) (k : sg X mi (n, l1, l2, st) M r) : sg X mi (pc, l1, l2, .int y :: .int x :: st) M r := by
  subst hn
  refine sg_nx ((ak_SA h).trans ?_) k
  simp only [ak_x]
  rw [if_neg hc]
  rfl
theorem w_if_ne_j {x : Int32} {off : Int} (h : am_A mi pc = some (.ifCond .ne off)) (hn : (pc : Int) + off = (n : Int)) (hc : ¬ (x = 0)) (k : sg X mi (n, l1, l2, st) M r) : sg X mi (pc, l1, l2, .int x :: st) M r := by
  refine sg_nx ((ak_SA h).trans ?_) k
  simp only [ak_x]
  rw [if_neg hc]
  unfold ak_j
  rw [hn, if_pos (Int.natCast_nonneg _)]
  rfl
theorem w_if_ne_n {x : Int32} {off : Int} (h : am_A mi pc = some (.ifCond .ne off)) (hn : pc + 3 = n) (hc : x = 0) (k : sg X mi (n, l1, l2, st) M r) : sg X mi (pc, l1, l2, .int x :: st) M r := by
  subst hn
  refine sg_nx ((ak_SA h).trans ?_) k
  simp only [ak_x]
  rw [if_pos hc]
  rfl
theorem w_icmp_ne_j {x y : Int32} {off : Int} (h : am_A mi pc = some (.if_icmp .ne off)) (hn : (pc : Int) + off = (n : Int)) (hc : ¬ (x = y)) (k : sg X mi (n, l1, l2, st) M r) : sg X mi (pc, l1, l2, .int y :: .int x :: st) M r := by
  refine sg_nx ((ak_SA h).trans ?_) k
  simp only [ak_x]
  rw [if_neg hc]
  unfold ak_j
  rw [hn, if_pos (Int.natCast_nonneg _)]
  rfl
theorem w_icmp_ne_n {x y : Int32} {off : Int} (h : am_A mi pc = some (.if_icmp .ne off)) (hn : pc + 3 = n) (hc : x = y) (k : sg X mi (n, l1, l2, st) M r) : sg X mi (pc, l1, l2, .int y :: .int x :: st) M r := by
  subst hn
  refine sg_nx ((ak_SA h).trans ?_) k
  simp only [ak_x]
  rw [if_pos hc]
  rfl
theorem w_if_lt_j {x : Int32} {off : Int} (h : am_A mi pc = some (.ifCond .lt off)) (hn : (pc : Int) + off = (n : Int)) (hc : x < 0) (k : sg X mi (n, l1, l2, st) M r) : sg X mi (pc, l1, l2, .int x :: st) M r := by
  refine sg_nx ((ak_SA h).trans ?_) k
  simp only [ak_x]
  rw [if_pos hc]
  unfold ak_j
  rw [hn, if_pos (Int.natCast_nonneg _)]
  rfl
theorem w_if_lt_n {x : Int32} {off : Int} (h : am_A mi pc = some (.ifCond .lt off)) (hn : pc + 3 = n) (hc : ¬ (x < 0)) (k : sg X mi (n, l1, l2, st) M r) : sg X mi (pc, l1, l2, .int x :: st) M r := by
  subst hn
  refine sg_nx ((ak_SA h).trans ?_) k
  simp only [ak_x]
  rw [if_neg hc]
  rfl
theorem w_icmp_lt_j {x y : Int32} {off : Int} (h : am_A mi pc = some (.if_icmp .lt off)) (hn : (pc : Int) + off = (n : Int)) (hc : x < y) (k : sg X mi (n, l1, l2, st) M r) : sg X mi (pc, l1, l2, .int y :: .int x :: st) M r := by
  refine sg_nx ((ak_SA h).trans ?_) k
  simp only [ak_x]
  rw [if_pos hc]
  unfold ak_j
  rw [hn, if_pos (Int.natCast_nonneg _)]
  rfl
theorem w_icmp_lt_n {x y : Int32} {off : Int} (h : am_A mi pc = some (.if_icmp .lt off)) (hn : pc + 3 = n) (hc : ¬ (x < y)) (k : sg X mi (n, l1, l2, st) M r) : sg X mi (pc, l1, l2, .int y :: .int x :: st) M r := by
  subst hn
  refine sg_nx ((ak_SA h).trans ?_) k
  simp only [ak_x]
  rw [if_neg hc]
  rfl
theorem w_if_ge_j {x : Int32} {off : Int} (h : am_A mi pc = some (.ifCond .ge off)) (hn : (pc : Int) + off = (n : Int)) (hc : 0 ≤ x) (k : sg X mi (n, l1, l2, st) M r) : sg X mi (pc, l1, l2, .int x :: st) M r := by
  refine sg_nx ((ak_SA h).trans ?_) k
  simp only [ak_x]
  rw [if_pos hc]
  unfold ak_j
  rw [hn, if_pos (Int.natCast_nonneg _)]
  rfl
theorem w_if_ge_n {x : Int32} {off : Int} (h : am_A mi pc = some (.ifCond .ge off)) (hn : pc + 3 = n) (hc : ¬ (0 ≤ x)) (k : sg X mi (n, l1, l2, st) M r) : sg X mi (pc, l1, l2, .int x :: st) M r := by
  subst hn
  refine sg_nx ((ak_SA h).trans ?_) k
  simp only [ak_x]
  rw [if_neg hc]
  rfl
theorem w_icmp_ge_j {x y : Int32} {off : Int} (h : am_A mi pc = some (.if_icmp .ge off)) (hn : (pc : Int) + off = (n : Int)) (hc : y ≤ x) (k : sg X mi (n, l1, l2, st) M r) : sg X mi (pc, l1, l2, .int y :: .int x :: st) M r := by
  refine sg_nx ((ak_SA h).trans ?_) k
  simp only [ak_x]
  rw [if_pos hc]
  unfold ak_j
  rw [hn, if_pos (Int.natCast_nonneg _)]
  rfl
theorem w_icmp_ge_n {x y : Int32} {off : Int} (h : am_A mi pc = some (.if_icmp .ge off)) (hn : pc + 3 = n) (hc : ¬ (y ≤ x)) (k : sg X mi (n, l1, l2, st) M r) : sg X mi (pc, l1, l2, .int y :: .int x :: st) M r := by
  subst hn
  refine sg_nx ((ak_SA h).trans ?_) k
  simp only [ak_x]
  rw [if_neg hc]
  rfl
theorem w_if_gt_j {x : Int32} {off : Int} (h : am_A mi pc = some (.ifCond .gt off)) (hn : (pc : Int) + off = (n : Int)) (hc : 0 < x) (k : sg X mi (n, l1, l2, st) M r) : sg X mi (pc, l1, l2, .int x :: st) M r := by
  refine sg_nx ((ak_SA h).trans ?_) k
  simp only [ak_x]
  rw [if_pos hc]
  unfold ak_j
  rw [hn, if_pos (Int.natCast_nonneg _)]
  rfl
theorem w_if_gt_n {x : Int32} {off : Int} (h : am_A mi pc = some (.ifCond .gt off)) (hn : pc + 3 = n) (hc : ¬ (0 < x)) (k : sg X mi (n, l1, l2, st) M r) : sg X mi (pc, l1, l2, .int x :: st) M r := by
  subst hn
  refine sg_nx ((ak_SA h).trans ?_) k
  simp only [ak_x]
  rw [if_neg hc]
  rfl
theorem w_icmp_gt_j {x y : Int32} {off : Int} (h : am_A mi pc = some (.if_icmp .gt off)) (hn : (pc : Int) + off = (n : Int)) (hc : y < x) (k : sg X mi (n, l1, l2, st) M r) : sg X mi (pc, l1, l2, .int y :: .int x :: st) M r := by
  refine sg_nx ((ak_SA h).trans ?_) k
  simp only [ak_x]
  rw [if_pos hc]
  unfold ak_j
  rw [hn, if_pos (Int.natCast_nonneg _)]
  rfl
theorem w_icmp_gt_n {x y : Int32} {off : Int} (h : am_A mi pc = some (.if_icmp .gt off)) (hn : pc + 3 = n) (hc : ¬ (y < x)) (k : sg X mi (n, l1, l2, st) M r) : sg X mi (pc, l1, l2, .int y :: .int x :: st) M r := by
  subst hn
  refine sg_nx ((ak_SA h).trans ?_) k
  simp only [ak_x]
  rw [if_neg hc]
  rfl
theorem w_if_le_j {x : Int32} {off : Int} (h : am_A mi pc = some (.ifCond .le off)) (hn : (pc : Int) + off = (n : Int)) (hc : x ≤ 0) (k : sg X mi (n, l1, l2, st) M r) : sg X mi (pc, l1, l2, .int x :: st) M r := by
  refine sg_nx ((ak_SA h).trans ?_) k
  simp only [ak_x]
  rw [if_pos hc]
  unfold ak_j
  rw [hn, if_pos (Int.natCast_nonneg _)]
  rfl
theorem w_if_le_n {x : Int32} {off : Int} (h : am_A mi pc = some (.ifCond .le off)) (hn : pc + 3 = n) (hc : ¬ (x ≤ 0)) (k : sg X mi (n, l1, l2, st) M r) : sg X mi (pc, l1, l2, .int x :: st) M r := by
  subst hn
  refine sg_nx ((ak_SA h).trans ?_) k
  simp only [ak_x]
  rw [if_neg hc]
  rfl
theorem w_icmp_le_j {x y : Int32} {off : Int} (h : am_A mi pc = some (.if_icmp .le off)) (hn : (pc : Int) + off = (n : Int)) (hc : x ≤ y) (k : sg X mi (n, l1, l2, st) M r) : sg X mi (pc, l1, l2, .int y :: .int x :: st) M r := by
  refine sg_nx ((ak_SA h).trans ?_) k
  simp only [ak_x]
  rw [if_pos hc]
  unfold ak_j
  rw [hn, if_pos (Int.natCast_nonneg _)]
  rfl
theorem w_icmp_le_n {x y : Int32} {off : Int} (h : am_A mi pc = some (.if_icmp .le off)) (hn : pc + 3 = n) (hc : ¬ (x ≤ y)) (k : sg X mi (n, l1, l2, st) M r) : sg X mi (pc, l1, l2, .int y :: .int x :: st) M r := by
  subst hn
  refine sg_nx ((ak_SA h).trans ?_) k
  simp only [ak_x]
  rw [if_neg hc]
  rfl
theorem w_tsw {d lo hi : Int} {offs : Array Int} {x : Int32} {o : Int} (h : am_A mi pc = some (.tableswitch d lo hi offs)) (ho : (if x.toInt < lo ∨ hi < x.toInt then some d else offs[(x.toInt - lo).toNat]?) = some o) (hn : (pc : Int) + o = (n : Int)) (k : sg X mi (n, l1, l2, st) M r) : sg X mi (pc, l1, l2, .int x :: st) M r := by
  refine sg_nx ((ak_SA h).trans ?_) k
  simp only [ak_x]
  split at ho
  · rename_i hc
    rw [if_pos hc]
    cases ho
    unfold ak_j
    rw [hn, if_pos (Int.natCast_nonneg _)]
    rfl
  · rename_i hc
    rw [if_neg hc, ho]
    dsimp only
    unfold ak_j
    rw [hn, if_pos (Int.natCast_nonneg _)]
    rfl
theorem w_lsw {d : Int} {ps : Array (Int × Int)} {x : Int32} {o : Int} (h : am_A mi pc = some (.lookupswitch d ps)) (hs : (ps.toList.zip (ps.toList.drop 1)).all (fun (a, next) => a.1 < next.1) = true) (ho : Op.lookupswitch.offset ps.toList d x.toInt = o) (hn : (pc : Int) + o = (n : Int)) (k : sg X mi (n, l1, l2, st) M r) : sg X mi (pc, l1, l2, .int x :: st) M r := by
  refine sg_nx ((ak_SA h).trans ?_) k
  simp only [ak_x]
  rw [if_pos hs, ho]
  unfold ak_j
  rw [hn, if_pos (Int.natCast_nonneg _)]
  rfl
/-- the places stand as the constructors laid them -/
def ab_lay (M : ak_M) : Prop := (483 ≤ ak_P M ∧ ak_P M ≤ 800000) ∧ (∀ p, p < 483 → ak_K M p = ab_K p ∧ ak_N M p = ab_N p) ∧ ∀ p, p < 483 → ∀ k, k < (ab_Rl.getD p []).length → ak_R M p k = ab_R p k
def ab_at (p kd : Nat) : Prop := p < 483 ∧ ab_K p = kd
def ab_rf (p k q : Nat) : Prop := k < (ab_Rl.getD p []).length ∧ ab_R p k = some q
theorem ab_rf_of {M : ak_M} (hL : ab_lay M) {p k q kd : Nat} (hp : ab_at p kd) (h : ab_rf p k q) : ak_R M p k = some q := (hL.2.2 p hp.1 k h.1).trans h.2
theorem ab_lay.sI {M : ak_M} (h : ab_lay M) {p k : Nat} {v : Int32} : ab_lay (ak_sI M p k v) := h
theorem ab_lay.use {M : ak_M} (h : ab_lay M) {a b : Nat} : ab_lay (ak_use M a b) := h
/-- an index as a number -/
def ab_ix (x : Int32) (i m : Nat) : Prop := ak_ix x m = true ∧ x.toNatClampNeg = i
theorem w_getI {own idx ci f p : Nat} {z : Nat × Nat} (hL : ab_lay M) (h : am_A mi pc = some (.getfield idx)) (hO : am_O mi = own) (hF : am_F own idx = some (ci, f, z)) (hp : ab_at p ci) (hc : ci < 13 ∧ am_f ci f ≠ 2) (hn : pc + 3 = n) (k : sg X mi (n, l1, l2, .int (ak_I M p f) :: st) M r) : sg X mi (pc, l1, l2, .ref p :: st) M r := by
  subst hn
  refine sg_nx ((ak_SA h).trans ?_) k
  simp only [ak_x]
  rw [hO, hF]
  dsimp only
  rw [if_pos (Nat.lt_of_lt_of_le hp.1 hL.1.1), if_pos ⟨Nat.lt_succ_of_lt hc.1, ((hL.2.1 p hp.1).1).trans hp.2⟩, if_neg hc.2]
  rfl
theorem w_getR {own idx ci f p q : Nat} {z : Nat × Nat} (hL : ab_lay M) (h : am_A mi pc = some (.getfield idx)) (hO : am_O mi = own) (hF : am_F own idx = some (ci, f, z)) (hp : ab_at p ci) (hc : ci < 13 ∧ am_f ci f = 2) (hq : ab_rf p f q) (hn : pc + 3 = n) (k : sg X mi (n, l1, l2, .ref q :: st) M r) : sg X mi (pc, l1, l2, .ref p :: st) M r := by
  subst hn
  refine sg_nx ((ak_SA h).trans ?_) k
  simp only [ak_x]
  rw [hO, hF]
  dsimp only
  rw [if_pos (Nat.lt_of_lt_of_le hp.1 hL.1.1), if_pos ⟨Nat.lt_succ_of_lt hc.1, ((hL.2.1 p hp.1).1).trans hp.2⟩, if_pos hc.2, ab_rf_of hL hp hq]
  rfl
theorem w_putI {own idx ci f p : Nat} {x : Int32} {z : Nat × Nat} (hL : ab_lay M) (h : am_A mi pc = some (.putfield idx)) (hO : am_O mi = own) (hF : am_F own idx = some (ci, f, z)) (hp : ab_at p ci) (hc : ci < 13 ∧ (am_f ci f = 0 ∨ (am_f ci f = 1 ∧ (x = 0 ∨ x = 1)))) (hn : pc + 3 = n) (k : sg X mi (n, l1, l2, st) (ak_sI M p f x) r) : sg X mi (pc, l1, l2, .int x :: .ref p :: st) M r := by
  subst hn
  refine sg_nx ((ak_SA h).trans ?_) k
  simp only [ak_x]
  rw [hO, hF]
  dsimp only
  rw [if_pos ⟨Nat.lt_of_lt_of_le hp.1 hL.1.1, ((hL.2.1 p hp.1).1).trans hp.2, Nat.lt_succ_of_lt hc.1⟩, if_pos (hc.2.elim Or.inl (fun h => Or.inr (Or.inl h)))]
  rfl
theorem w_sta {own idx v : Nat} {z : Nat × Nat} (h : am_A mi pc = some (.getstatic idx)) (hO : am_O mi = own) (hS : am_S own idx = some (v, z)) (hv : v < 3) (hn : pc + 3 = n) (k : sg X mi (n, l1, l2, .ref (1000001 + v) :: st) M r) : sg X mi (pc, l1, l2, st) M r := by
  subst hn
  refine sg_nx ((ak_SA h).trans ?_) k
  simp only [ak_x]
  rw [hO, hS]
  dsimp only
  rw [if_pos hv]
  rfl
theorem w_alen {p kd m : Nat} (hL : ab_lay M) (h : am_A mi pc = some .arraylength) (hp : ab_at p kd) (hk : 100 ≤ kd) (hm : ab_N p = m) (hn : pc + 1 = n) (k : sg X mi (n, l1, l2, .int (Int32.ofNat m) :: st) M r) : sg X mi (pc, l1, l2, .ref p :: st) M r := by
  subst hn
  refine sg_nx ((ak_SA h).trans ?_) k
  simp only [ak_x]
  rw [if_pos (Nat.lt_of_lt_of_le hp.1 hL.1.1), if_pos (by rw [(hL.2.1 p hp.1).1, hp.2]; exact hk), (hL.2.1 p hp.1).2, hm]
  rfl
theorem w_iald {p m i : Nat} {x : Int32} (hL : ab_lay M) (h : am_A mi pc = some .iaload) (hp : ab_at p 100) (hm : ab_N p = m) (hi : ab_ix x i m) (hn : pc + 1 = n) (k : sg X mi (n, l1, l2, .int (ak_I M p i) :: st) M r) : sg X mi (pc, l1, l2, .int x :: .ref p :: st) M r := by
  subst hn
  refine sg_nx ((ak_SA h).trans ?_) k
  simp only [ak_x]
  rw [if_pos (Nat.lt_of_lt_of_le hp.1 hL.1.1), if_pos ⟨by rw [(hL.2.1 p hp.1).1, hp.2], by rw [(hL.2.1 p hp.1).2, hm]; exact hi.1⟩, hi.2]
  rfl
theorem w_bald {p m i kd : Nat} {x : Int32} (hL : ab_lay M) (h : am_A mi pc = some .baload) (hp : ab_at p kd) (hk : kd = 101) (hm : ab_N p = m) (hi : ab_ix x i m) (hn : pc + 1 = n) (k : sg X mi (n, l1, l2, .int (ak_I M p i) :: st) M r) : sg X mi (pc, l1, l2, .int x :: .ref p :: st) M r := by
  subst hn
  refine sg_nx ((ak_SA h).trans ?_) k
  simp only [ak_x]
  rw [if_pos (Nat.lt_of_lt_of_le hp.1 hL.1.1), if_pos ⟨by rw [(hL.2.1 p hp.1).1, hp.2]; exact hk, by rw [(hL.2.1 p hp.1).2, hm]; exact hi.1⟩, hi.2]
  rfl
theorem w_aald {p m i q kd : Nat} {x : Int32} (hL : ab_lay M) (h : am_A mi pc = some .aaload) (hp : ab_at p kd) (hk : 105 ≤ kd ∧ kd ≤ 109) (hm : ab_N p = m) (hi : ab_ix x i m) (hq : ab_rf p i q) (hn : pc + 1 = n) (k : sg X mi (n, l1, l2, .ref q :: st) M r) : sg X mi (pc, l1, l2, .int x :: .ref p :: st) M r := by
  subst hn
  refine sg_nx ((ak_SA h).trans ?_) k
  simp only [ak_x]
  have h2 := (hL.2.1 p hp.1).1.trans hp.2
  rw [if_pos ⟨Nat.lt_of_lt_of_le hp.1 hL.1.1, by rw [h2]; exact hk.1, by rw [h2]; exact hk.2, by rw [(hL.2.1 p hp.1).2, hm]; exact hi.1⟩, hi.2, ab_rf_of hL hp hq]
  rfl
theorem w_iast {p m i : Nat} {x v : Int32} (hL : ab_lay M) (h : am_A mi pc = some .iastore) (hp : ab_at p 100) (hm : ab_N p = m) (hi : ab_ix x i m) (hn : pc + 1 = n) (k : sg X mi (n, l1, l2, st) (ak_sI M p i v) r) : sg X mi (pc, l1, l2, .int v :: .int x :: .ref p :: st) M r := by
  subst hn
  refine sg_nx ((ak_SA h).trans ?_) k
  simp only [ak_x]
  rw [if_pos ⟨Nat.lt_of_lt_of_le hp.1 hL.1.1, (hL.2.1 p hp.1).1.trans hp.2, by rw [(hL.2.1 p hp.1).2, hm]; exact hi.1⟩, hi.2]
  rfl
theorem w_bast {p m i : Nat} {x v : Int32} (hL : ab_lay M) (h : am_A mi pc = some .bastore) (hp : ab_at p 101) (hm : ab_N p = m) (hi : ab_ix x i m) (hn : pc + 1 = n) (k : sg X mi (n, l1, l2, st) (ak_sI M p i (vp_nar .byte v)) r) : sg X mi (pc, l1, l2, .int v :: .int x :: .ref p :: st) M r := by
  subst hn
  refine sg_nx ((ak_SA h).trans ?_) k
  simp only [ak_x]
  rw [if_pos ⟨Nat.lt_of_lt_of_le hp.1 hL.1.1, by rw [(hL.2.1 p hp.1).2, hm]; exact hi.1⟩, if_pos ((hL.2.1 p hp.1).1.trans hp.2), hi.2]
  rfl
theorem w_ldc {own idx s : Nat} (h : am_A mi pc = some (.ldc idx)) (hO : am_O mi = own) (hG : am_G own idx = some s) (hn : pc + 2 = n) (k : sg X mi (n, l1, l2, .ref (1001000 + s) :: st) M r) : sg X mi (pc, l1, l2, st) M r := by
  subst hn
  refine sg_nx ((ak_SA h).trans ?_) k
  simp only [ak_x]
  rw [hO, hG]
  rfl
theorem w_ldcw {own idx s : Nat} (h : am_A mi pc = some (.ldc_w idx)) (hO : am_O mi = own) (hG : am_G own idx = some s) (hn : pc + 3 = n) (k : sg X mi (n, l1, l2, .ref (1001000 + s) :: st) M r) : sg X mi (pc, l1, l2, st) M r := by
  subst hn
  refine sg_nx ((ak_SA h).trans ?_) k
  simp only [ak_x]
  rw [hO, hG]
  rfl
theorem w_ldc2 {own idx : Nat} {v : Int64} (h : am_A mi pc = some (.ldc2_w idx)) (hO : am_O mi = own) (hG : am_J own idx = some v) (hn : pc + 3 = n) (k : sg X mi (n, l1, l2, .long v :: st) M r) : sg X mi (pc, l1, l2, st) M r := by
  subst hn
  refine sg_nx ((ak_SA h).trans ?_) k
  simp only [ak_x]
  rw [hO, hG]
  rfl
/-- what a call site says: callee, its parameters, slots -/
def w_cs (mi idx vt cal na nl : Nat) : Bool := match am_L mi idx with
  | some (c, kind, _) => c == cal && ((vt == 0 && kind == 0) || (vt == 1 && (kind == 1 || kind == 4)) || (vt == 2 && (kind == 2 || kind == 3))) && am_N cal == na && Nat.blt (am_K cal) (am_K mi) && Nat.ble (am_Q cal + am_X cal + 19) (am_Q mi) && Nat.ble nl (am_X cal)
  | none => false
theorem w_cs_of {idx vt cal na nl : Nat} (h : w_cs mi idx vt cal na nl = true) : ∃ (kind : Nat) (z : Nat × Nat × Nat × Nat), am_L mi idx = some (cal, kind, z) ∧ ((vt = 0 ∧ kind = 0) ∨ (vt = 1 ∧ (kind = 1 ∨ kind = 4)) ∨ (vt = 2 ∧ (kind = 2 ∨ kind = 3))) ∧ am_N cal = na ∧ (am_K cal < am_K mi ∧ am_Q cal + am_X cal + 19 ≤ am_Q mi) ∧ nl ≤ am_X cal := by
  unfold w_cs at h
  cases hL : am_L mi idx with
  | none => rw [hL] at h; cases h
  | some q =>
    obtain ⟨c, kind, z⟩ := q
    rw [hL] at h
    simp only [Bool.and_eq_true, Bool.or_eq_true, beq_iff_eq] at h
    obtain ⟨⟨⟨⟨⟨rfl, h2⟩, h3⟩, h4⟩, h6⟩, h5⟩ := h
    refine ⟨kind, z, rfl, ?_, h3, ⟨Nat.le_of_ble_eq_true h4, Nat.le_of_ble_eq_true h6⟩, Nat.le_of_ble_eq_true h5⟩
    rcases h2 with (h2 | h2) | h2
    · exact Or.inl h2
    · exact Or.inr (Or.inl h2)
    · exact Or.inr (Or.inr h2)
theorem w_invS {idx cal na nl : Nat} {as rest : List Value} (hc : w_cs mi idx 1 cal na nl = true) (hs : st = as.reverse ++ rest) (hl : as.length = na) (he : (ak_e1 as).length = nl) (ht : ak_cat rest ≤ 8) : ak_inv X mi idx 1 pc l1 l2 st M = some (.inr (.inr (cal, as, (pc + 3, l1, l2, rest), M))) := by
  obtain ⟨kind, z, h1, h2, h3, h4, h5⟩ := w_cs_of hc
  subst hs
  have h2 : kind = 1 ∨ kind = 4 := by
    rcases h2 with h | h | h
    · exact absurd h.1 (by decide)
    · exact h.2
    · exact absurd h.1 (by decide)
  have e1 : (as.reverse ++ rest).take (am_N cal) = as.reverse := by rw [h3, ← hl, ← List.length_reverse, List.take_left]
  have e2 : (as.reverse ++ rest).drop (am_N cal) = rest := by rw [h3, ← hl, ← List.length_reverse, List.drop_left]
  unfold ak_inv
  rw [h1]
  dsimp only
  rw [if_neg (fun h => absurd h.1 (by decide)), if_pos ⟨rfl, h2⟩, if_pos (by rw [h3, ← hl, List.length_append, List.length_reverse]; omega), e1, e2, List.reverse_reverse]
  unfold ak_call
  rw [if_pos ⟨ht, h4.1, h4.2, by omega⟩]
theorem w_invV {idx cal na nl p : Nat} {as rest : List Value} (hc : w_cs mi idx 0 cal na nl = true) (hr : ak_rc M p = am_C cal) (hs : st = as.reverse ++ .ref p :: rest) (hl : as.length = na) (he : (ak_e1 (.ref p :: as)).length = nl) (ht : ak_cat rest ≤ 8) : ak_inv X mi idx 0 pc l1 l2 st M = some (.inr (.inr (cal, .ref p :: as, (pc + 3, l1, l2, rest), M))) := by
  obtain ⟨kind, z, h1, h2, h3, h4, h5⟩ := w_cs_of hc
  subst hs
  have h2 : kind = 0 := by
    rcases h2 with h | h | h
    · exact h.2
    · exact absurd h.1 (by decide)
    · exact absurd h.1 (by decide)
  have e1 : (as.reverse ++ .ref p :: rest).take (am_N cal) = as.reverse := by rw [h3, ← hl, ← List.length_reverse, List.take_left]
  have e2 : (as.reverse ++ .ref p :: rest).drop (am_N cal) = .ref p :: rest := by rw [h3, ← hl, ← List.length_reverse, List.drop_left]
  unfold ak_inv
  rw [h1]
  dsimp only
  subst h2
  rw [if_pos ⟨rfl, Or.inl rfl⟩, e2]
  dsimp only
  rw [if_pos ⟨by rw [if_pos rfl]; exact hr, by rw [h3, ← hl, List.length_append, List.length_reverse]; omega⟩, e1, List.reverse_reverse]
  unfold ak_call
  rw [if_pos ⟨ht, h4.1, h4.2, by omega⟩]
theorem w_invI {idx cal na nl p : Nat} {as rest : List Value} (hc : w_cs mi idx 2 cal na nl = true) (hs : st = as.reverse ++ .ref p :: rest) (hl : as.length = na) (he : (ak_e1 (.ref p :: as)).length = nl) (ht : ak_cat rest ≤ 8) : ak_inv X mi idx 2 pc l1 l2 st M = some (.inr (.inr (cal, .ref p :: as, (pc + 3, l1, l2, rest), M))) := by
  obtain ⟨kind, z, h1, h2, h3, h4, h5⟩ := w_cs_of hc
  subst hs
  have h2 : kind = 2 ∨ kind = 3 := by
    rcases h2 with h | h | h
    · exact absurd h.1 (by decide)
    · exact absurd h.1 (by decide)
    · exact h.2
  have e1 : (as.reverse ++ .ref p :: rest).take (am_N cal) = as.reverse := by rw [h3, ← hl, ← List.length_reverse, List.take_left]
  have e2 : (as.reverse ++ .ref p :: rest).drop (am_N cal) = .ref p :: rest := by rw [h3, ← hl, ← List.length_reverse, List.drop_left]
  unfold ak_inv
  rw [h1]
  dsimp only
  rw [if_neg (fun h => absurd h.1 (by decide)), if_neg (fun h => absurd h.1 (by decide)), if_pos ⟨rfl, h2⟩, e2]
  dsimp only
  rw [if_pos (by rw [h3, ← hl, List.length_append, List.length_reverse]; omega), e1, List.reverse_reverse]
  unfold ak_call
  rw [if_pos ⟨ht, h4.1, h4.2, by omega⟩]
theorem ab_rc {p kd : Nat} (hL : ab_lay M) (hp : ab_at p kd) : ak_rc M p = kd := by
  unfold ak_rc
  rw [if_pos (Nat.lt_of_lt_of_le hp.1 hL.1.1), (hL.2.1 p hp.1).1]
  exact hp.2
theorem w_cS {idx cal na nl : Nat} {as rest : List Value} {v : Option Value} {M2 : ak_M} (h : am_A mi pc = some (.invokestatic idx)) (hc : w_cs mi idx 1 cal na nl = true) (hs : st = as.reverse ++ rest) (hl : as.length = na) (he : (ak_e1 as).length = nl) (ht : ak_cat rest ≤ 8) (hn : pc + 3 = n)
    (h1 : rn X cal as M (.inl v, M2)) (k : sg X mi (n, l1, l2, v.toList ++ rest) M2 r) : sg X mi (pc, l1, l2, st) M r := by
  subst hn
  exact sg_cl ((ak_SA h).trans (w_invS hc hs hl he ht)) h1 k
theorem w_cV {idx cal na nl p kd : Nat} {as rest : List Value} {v : Option Value} {M2 : ak_M} (hL : ab_lay M) (h : am_A mi pc = some (.invokevirtual idx)) (hc : w_cs mi idx 0 cal na nl = true) (hp : ab_at p kd) (hr : am_C cal = kd) (hs : st = as.reverse ++ .ref p :: rest) (hl : as.length = na) (he : (ak_e1 (.ref p :: as)).length = nl) (ht : ak_cat rest ≤ 8) (hn : pc + 3 = n)
    (h1 : rn X cal (.ref p :: as) M (.inl v, M2)) (k : sg X mi (n, l1, l2, v.toList ++ rest) M2 r) : sg X mi (pc, l1, l2, st) M r := by
  subst hn
  exact sg_cl ((ak_SA h).trans (w_invV hc ((ab_rc hL hp).trans hr.symm) hs hl he ht)) h1 k
theorem w_ireturn {x : Int32} (h : am_A mi pc = some .ireturn) (hx : ak_iok (am_R mi) x = true) : sg X mi (pc, l1, l2, [.int x]) M (.inl (some (.int x)), M) := by
  refine sg_rt ((ak_SA h).trans ?_)
  simp only [ak_x]
  rw [if_pos hx]
  rfl
theorem w_areturn {x : Nat} (h : am_A mi pc = some .areturn) (hx : ak_isR (am_R mi) = true) : sg X mi (pc, l1, l2, [.ref x]) M (.inl (some (.ref x)), M) := by
  refine sg_rt ((ak_SA h).trans ?_)
  simp only [ak_x]
  rw [if_pos hx]
  rfl
theorem w_freturn {x : UInt32} (h : am_A mi pc = some .freturn) (hx : am_R mi = some .float) : sg X mi (pc, l1, l2, [.float x]) M (.inl (some (.float x)), M) := by
  refine sg_rt ((ak_SA h).trans ?_)
  simp only [ak_x]
  rw [if_pos hx]
  rfl
theorem w_dreturn {x : UInt64} (h : am_A mi pc = some .dreturn) (hx : am_R mi = some .double) : sg X mi (pc, l1, l2, [.double x]) M (.inl (some (.double x)), M) := by
  refine sg_rt ((ak_SA h).trans ?_)
  simp only [ak_x]
  rw [if_pos hx]
  rfl
theorem w_vreturn (h : am_A mi pc = some .return_) (hx : am_R mi = none) : sg X mi (pc, l1, l2, []) M (.inl none, M) := by
  refine sg_rt ((ak_SA h).trans ?_)
  simp only [ak_x]
  rw [if_pos hx]
  rfl
theorem w_cI {idx cal na nl p : Nat} {as rest : List Value} {v : Option Value} {M2 : ak_M} (h : am_A mi pc = some (.invokespecial idx)) (hc : w_cs mi idx 2 cal na nl = true) (hs : st = as.reverse ++ .ref p :: rest) (hl : as.length = na) (he : (ak_e1 (.ref p :: as)).length = nl) (ht : ak_cat rest ≤ 8) (hn : pc + 3 = n)
    (h1 : rn X cal (.ref p :: as) M (.inl v, M2)) (k : sg X mi (n, l1, l2, v.toList ++ rest) M2 r) : sg X mi (pc, l1, l2, st) M r := by
  subst hn
  exact sg_cl ((ak_SA h).trans (w_invI hc hs hl he ht)) h1 k
theorem w_tS {idx cal na nl E : Nat} {as rest : List Value} {M2 : ak_M} (h : am_A mi pc = some (.invokestatic idx)) (hc : w_cs mi idx 1 cal na nl = true) (hs : st = as.reverse ++ rest) (hl : as.length = na) (he : (ak_e1 as).length = nl) (ht : ak_cat rest ≤ 8)
    (hth : am_th.contains cal = true) (hH : (am_H mi).isEmpty = true) (h1 : rn X cal as M (.inr E, M2)) : sg X mi (pc, l1, l2, st) M (.inr E, M2) :=
  sg_th ((ak_SA h).trans (w_invS hc hs hl he ht)) hth hH h1
theorem w_tV {idx cal na nl p kd E : Nat} {as rest : List Value} {M2 : ak_M} (hL : ab_lay M) (h : am_A mi pc = some (.invokevirtual idx)) (hc : w_cs mi idx 0 cal na nl = true) (hp : ab_at p kd) (hr : am_C cal = kd) (hs : st = as.reverse ++ .ref p :: rest) (hl : as.length = na) (he : (ak_e1 (.ref p :: as)).length = nl) (ht : ak_cat rest ≤ 8)
    (hth : am_th.contains cal = true) (hH : (am_H mi).isEmpty = true) (h1 : rn X cal (.ref p :: as) M (.inr E, M2)) : sg X mi (pc, l1, l2, st) M (.inr E, M2) :=
  sg_th ((ak_SA h).trans (w_invV hc ((ab_rc hL hp).trans hr.symm) hs hl he ht)) hth hH h1
theorem w_cVS {idx cal na nl j : Nat} {as rest : List Value} {v : Option Value} {M2 : ak_M} (hL : ab_lay M) (h : am_A mi pc = some (.invokevirtual idx)) (hc : w_cs mi idx 0 cal na nl = true) (hp : j < 25) (hr : am_C cal = 13) (hs : st = as.reverse ++ .ref (1001000 + j) :: rest) (hl : as.length = na) (he : (ak_e1 (.ref (1001000 + j) :: as)).length = nl) (ht : ak_cat rest ≤ 8) (hn : pc + 3 = n)
    (h1 : rn X cal (.ref (1001000 + j) :: as) M (.inl v, M2)) (k : sg X mi (n, l1, l2, v.toList ++ rest) M2 r) : sg X mi (pc, l1, l2, st) M r := by
  subst hn
  have e : ak_rc M (1001000 + j) = 13 := by
    unfold ak_rc
    rw [if_neg (by have := hL.1.2; omega), if_pos (by omega)]
  exact sg_cl ((ak_SA h).trans (w_invV hc (e.trans hr.symm) hs hl he ht)) h1 k
theorem w_throw {idx E : Nat} {z : Nat × Nat × Nat × Nat} (h : am_A mi pc = some (.new idx)) (hW : am_W (am_O mi) idx = none) (hT : am_T mi pc = some (E, z)) (ht : ak_cat st ≤ 8) : sg X mi (pc, l1, l2, st) M (.inr E, ak_use M 1 6) := by
  refine sg_rt ((ak_SA h).trans ?_)
  simp only [ak_x]
  rw [hW, hT]
  dsimp only
  rw [if_pos ht]
  rfl
theorem w_cald {w i : Nat} {x : Int32} (hL : ab_lay M) (hw : w < 3) (h : am_A mi pc = some .iaload) (hi : ab_ix x i 6) (hn : pc + 1 = n) (k : sg X mi (n, l1, l2, .int (ak_cI X (1000001 + w) i) :: st) M r) : sg X mi (pc, l1, l2, .int x :: .ref (1000001 + w) :: st) M r := by
  subst hn
  refine sg_nx ((ak_SA h).trans ?_) k
  simp only [ak_x]
  have h2 : ak_cN X (1000001 + w) = 6 := by unfold ak_cN; rw [if_neg (by omega), if_pos (by omega)]
  have h3 : ak_cK (1000001 + w) = 100 := by unfold ak_cK; rw [if_pos (by omega)]
  have h4 : ¬ (@LT.lt Nat _ (1000001 + w) (ak_P M)) := by have := hL.1.2; omega
  have h5 : @LE.le Nat _ 1000000 (1000001 + w) := by omega
  rw [if_neg h4, if_pos ⟨h5, h3, by rw [h2]; exact hi.1⟩, hi.2]
  rfl
end SGW
theorem w_swd {x : Int32} {d lo hi : Int} {e : Option Int} (h : ∀ j : Int, lo ≤ j → j ≤ hi → x ≠ Int32.ofInt j) : (if x.toInt < lo ∨ hi < x.toInt then some d else e) = some d := by
  rw [if_pos]
  by_cases h1 : x.toInt < lo
  · exact Or.inl h1
  · by_cases h2 : hi < x.toInt
    · exact Or.inr h2
    · exact absurd (Int32.ofInt_toInt x).symm (h x.toInt (by omega) (by omega))
theorem w_okI {mi : Nat} {x : Int32} (h : am_R mi = some .int) : ak_iok (am_R mi) x = true := by rw [h]; rfl
theorem w_okZ {mi : Nat} {x : Int32} (h : am_R mi = some .boolean) (hx : x = 0 ∨ x = 1) : ak_iok (am_R mi) x = true := by rw [h]; exact decide_eq_true hx
theorem w_okC {mi : Nat} {x : Int32} (h : am_R mi = some .char) (hx : (x.toUInt32 % 65536).toInt32 = x) : ak_iok (am_R mi) x = true := by rw [h]; exact decide_eq_true hx
theorem w_okB {mi : Nat} {x : Int32} (h : am_R mi = some .byte) (hx : x.toInt8.toInt32 = x) : ak_iok (am_R mi) x = true := by rw [h]; exact decide_eq_true hx
theorem w_rn {X : ak_X} {mi nL : Nat} {as : List Value} {l1 : List (Option Value)} {M : ak_M} {r : ak_O × ak_M} (hX : am_X mi = nL) (h1 : ak_e1 as ++ List.replicate (nL - (ak_e1 as).length) none = l1) (h2 : ak_e2 0 as = []) (k : sg X mi (0, l1, [], []) M r) : rn X mi as M r := by
  unfold rn ak_en
  rw [hX, h1, h2]
  exact k
end
section
/-! both constructors, run by the kernel -/
def ab_kI (M : ak_M) (l : List (Nat × Nat)) : Bool := l.all (fun q => (List.range q.2).all (fun k => decide (ak_I M q.1 k = ab_I q.1 k)))
def ab_kR (M : ak_M) : Bool := (List.range 483).all (fun p => (List.range (ab_Rl.getD p []).length).all (fun k => decide (ak_R M p k = ab_R p k)))
def ab_kK (M : ak_M) : Bool := (List.range 483).all (fun p => decide (ak_K M p = ab_K p) && decide (ak_N M p = ab_N p))
def ab_isv (o : Option (ak_O × ak_M)) : Bool := match o with | some (.inl none, _) => true | _ => false
def ab_mem (o : Option (ak_O × ak_M)) : ak_M := match o with | some (_, M) => M | none => ak_M0
theorem ab_isv_of {o : Option (ak_O × ak_M)} (h : ab_isv o = true) : o = some (.inl none, ab_mem o) := by
  unfold ab_isv at h
  split at h
  · rfl
  · cases h
def ab_M1 : ak_M := ak_new ak_M0 11 0 (am_nf 11)
def ab_r1 : Option (ak_O × ak_M) := ak_go ab_X0 20000 ab_kq (ak_en ab_kq [.ref 0]) ab_M1
def ab_M2 : ak_M := ab_mem ab_r1
def ab_ck1 : Bool := ab_isv ab_r1 && decide (ak_P ab_M2 = 483 ∧ ak_C ab_M2 = 483 ∧ ak_Z ab_M2 ≤ 6500)
set_option maxRecDepth 1000000 in
theorem ab_ck1t : ab_ck1 = true := by decide +kernel
def ab_kKs (M : ak_M) (a n : Nat) : Bool := (List.range' a n).all (fun p => decide (ak_K M p = ab_K p) && decide (ak_N M p = ab_N p))
def ab_kRs (M : ak_M) (a n : Nat) : Bool := (List.range' a n).all (fun p => (List.range (ab_Rl.getD p []).length).all (fun k => decide (ak_R M p k = ab_R p k)))
end
section
/-! facts of the layout, laid by wip/p60/lay34.py -/
def ab_fb : List Nat := [6, 65, 97, 129, 163, 195, 227, 259, 291, 323, 355, 387, 419, 451]
def ab_nb : List Nat := [38, 52]
def ab_ar (p : Nat) : Prop := ab_at p 100 ∧ ab_N p = 245
theorem af_F {b : Nat} (hb : b ∈ ab_fb) : ab_at (b) 2 := (by decide +kernel : ∀ b ∈ ab_fb, (b < 483 ∧ ab_K (b) = 2)) b hb
theorem af_KA {b : Nat} (hb : b ∈ ab_fb) : ab_at (b + 1) 105 := (by decide +kernel : ∀ b ∈ ab_fb, (b + 1 < 483 ∧ ab_K (b + 1) = 105)) b hb
theorem ag_KA {b : Nat} (hb : b ∈ ab_fb) : ab_rf (b) 0 (b + 1) := (by decide +kernel : ∀ b ∈ ab_fb, (0 < (ab_Rl.getD (b) []).length ∧ ab_R (b) 0 = some (b + 1))) b hb
theorem af_WA {b : Nat} (hb : b ∈ ab_fb) : ab_at (b + 2) 106 := (by decide +kernel : ∀ b ∈ ab_fb, (b + 2 < 483 ∧ ab_K (b + 2) = 106)) b hb
theorem ag_WA {b : Nat} (hb : b ∈ ab_fb) : ab_rf (b) 1 (b + 2) := (by decide +kernel : ∀ b ∈ ab_fb, (1 < (ab_Rl.getD (b) []).length ∧ ab_R (b) 1 = some (b + 2))) b hb
theorem af_EA {b : Nat} (hb : b ∈ ab_fb) : ab_at (b + 3) 107 := (by decide +kernel : ∀ b ∈ ab_fb, (b + 3 < 483 ∧ ab_K (b + 3) = 107)) b hb
theorem ag_EA {b : Nat} (hb : b ∈ ab_fb) : ab_rf (b) 2 (b + 3) := (by decide +kernel : ∀ b ∈ ab_fb, (2 < (ab_Rl.getD (b) []).length ∧ ab_R (b) 2 = some (b + 3))) b hb
theorem af_SA {b : Nat} (hb : b ∈ ab_fb) : ab_at (b + 4) 100 := (by decide +kernel : ∀ b ∈ ab_fb, (b + 4 < 483 ∧ ab_K (b + 4) = 100)) b hb
theorem ag_SA {b : Nat} (hb : b ∈ ab_fb) : ab_rf (b) 3 (b + 4) := (by decide +kernel : ∀ b ∈ ab_fb, (3 < (ab_Rl.getD (b) []).length ∧ ab_R (b) 3 = some (b + 4))) b hb
theorem af_X {b : Nat} (hb : b ∈ ab_fb) : ab_at (b + 5) 0 := (by decide +kernel : ∀ b ∈ ab_fb, (b + 5 < 483 ∧ ab_K (b + 5) = 0)) b hb
theorem ag_X {b : Nat} (hb : b ∈ ab_fb) : ab_rf (b) 4 (b + 5) := (by decide +kernel : ∀ b ∈ ab_fb, (4 < (ab_Rl.getD (b) []).length ∧ ab_R (b) 4 = some (b + 5))) b hb
theorem ax_KA {b : Nat} (hb : b ∈ ab_fb) : ab_N (b + 1) = 10 := (by decide +kernel : ∀ b ∈ ab_fb, ab_N (b + 1) = 10) b hb
theorem ax_WA {b : Nat} (hb : b ∈ ab_fb) : ab_N (b + 2) = 4 := (by decide +kernel : ∀ b ∈ ab_fb, ab_N (b + 2) = 4) b hb
theorem ax_EA {b : Nat} (hb : b ∈ ab_fb) : ab_N (b + 3) = 12 := (by decide +kernel : ∀ b ∈ ab_fb, ab_N (b + 3) = 12) b hb
theorem ax_SA {b : Nat} (hb : b ∈ ab_fb) : ab_N (b + 4) = 6 := (by decide +kernel : ∀ b ∈ ab_fb, ab_N (b + 4) = 6) b hb
theorem af_K {b : Nat} (hb : b ∈ ab_fb) {i : Nat} (hi : i < 10) : ab_at (b + 6 + i) 5 := (by decide +kernel : ∀ b ∈ ab_fb, ∀ i, i < 10 → (b + 6 + i < 483 ∧ ab_K (b + 6 + i) = 5)) b hb i hi
theorem ai_KA {b : Nat} (hb : b ∈ ab_fb) {i : Nat} (hi : i < 10) : ab_rf (b + 1) i (b + 6 + i) := (by decide +kernel : ∀ b ∈ ab_fb, ∀ i, i < 10 → (i < (ab_Rl.getD (b + 1) []).length ∧ ab_R (b + 1) i = some (b + 6 + i))) b hb i hi
theorem af_W {b : Nat} (hb : b ∈ ab_fb) {i : Nat} (hi : i < 4) : ab_at (b + 16 + i) 10 := (by decide +kernel : ∀ b ∈ ab_fb, ∀ i, i < 4 → (b + 16 + i < 483 ∧ ab_K (b + 16 + i) = 10)) b hb i hi
theorem ai_WA {b : Nat} (hb : b ∈ ab_fb) {i : Nat} (hi : i < 4) : ab_rf (b + 2) i (b + 16 + i) := (by decide +kernel : ∀ b ∈ ab_fb, ∀ i, i < 4 → (i < (ab_Rl.getD (b + 2) []).length ∧ ab_R (b + 2) i = some (b + 16 + i))) b hb i hi
theorem af_E {b : Nat} (hb : b ∈ ab_fb) {i : Nat} (hi : i < 12) : ab_at (b + 20 + i) 1 := (by decide +kernel : ∀ b ∈ ab_fb, ∀ i, i < 12 → (b + 20 + i < 483 ∧ ab_K (b + 20 + i) = 1)) b hb i hi
theorem ai_EA {b : Nat} (hb : b ∈ ab_fb) {i : Nat} (hi : i < 12) : ab_rf (b + 3) i (b + 20 + i) := (by decide +kernel : ∀ b ∈ ab_fb, ∀ i, i < 12 → (i < (ab_Rl.getD (b + 3) []).length ∧ ab_R (b + 3) i = some (b + 20 + i))) b hb i hi
theorem af_H {i : Nat} (hi : i < 10) : 163 + 32 * i ∈ ab_fb := (by decide +kernel : ∀ i, i < 10 → 163 + 32 * i ∈ ab_fb) i hi
theorem ai_H {i : Nat} (hi : i < 10) : ab_rf 162 i (163 + 32 * i) := (by decide +kernel : ∀ i, i < 10 → (i < (ab_Rl.getD (162) []).length ∧ ab_R (162) i = some (163 + 32 * i))) i hi
theorem an_N {b : Nat} (hb : b ∈ ab_nb) : ab_at (b) 6 := (by decide +kernel : ∀ b ∈ ab_nb, (b < 483 ∧ ab_K (b) = 6)) b hb
theorem an_R {b : Nat} (hb : b ∈ ab_nb) : ab_at (b + 1) 109 := (by decide +kernel : ∀ b ∈ ab_nb, (b + 1 < 483 ∧ ab_K (b + 1) = 109)) b hb
theorem an_L {b : Nat} (hb : b ∈ ab_nb) : ab_at (b + 12) 100 := (by decide +kernel : ∀ b ∈ ab_nb, (b + 12 < 483 ∧ ab_K (b + 12) = 100)) b hb
theorem an_B {b : Nat} (hb : b ∈ ab_nb) {i : Nat} (hi : i < 10) : ab_at (b + 2 + i) 101 := (by decide +kernel : ∀ b ∈ ab_nb, ∀ i, i < 10 → (b + 2 + i < 483 ∧ ab_K (b + 2 + i) = 101)) b hb i hi
theorem ay_R {b : Nat} (hb : b ∈ ab_nb) : ab_N (b + 1) = 10 := (by decide +kernel : ∀ b ∈ ab_nb, ab_N (b + 1) = 10) b hb
theorem ay_L {b : Nat} (hb : b ∈ ab_nb) : ab_N (b + 12) = 10 := (by decide +kernel : ∀ b ∈ ab_nb, ab_N (b + 12) = 10) b hb
theorem ay_B {b : Nat} (hb : b ∈ ab_nb) {i : Nat} (hi : i < 10) : ab_N (b + 2 + i) = 6 := (by decide +kernel : ∀ b ∈ ab_nb, ∀ i, i < 10 → ab_N (b + 2 + i) = 6) b hb i hi
theorem ah_R {b : Nat} (hb : b ∈ ab_nb) : ab_rf (b) 0 (b + 1) := (by decide +kernel : ∀ b ∈ ab_nb, (0 < (ab_Rl.getD (b) []).length ∧ ab_R (b) 0 = some (b + 1))) b hb
theorem ah_L {b : Nat} (hb : b ∈ ab_nb) : ab_rf (b) 1 (b + 12) := (by decide +kernel : ∀ b ∈ ab_nb, (1 < (ab_Rl.getD (b) []).length ∧ ab_R (b) 1 = some (b + 12))) b hb
theorem ai_NR {b : Nat} (hb : b ∈ ab_nb) {i : Nat} (hi : i < 10) : ab_rf (b + 1) i (b + 2 + i) := (by decide +kernel : ∀ b ∈ ab_nb, ∀ i, i < 10 → (i < (ab_Rl.getD (b + 1) []).length ∧ ab_R (b + 1) i = some (b + 2 + i))) b hb i hi
theorem at_0 : ab_at 0 11 := (by decide +kernel : (0 < 483 ∧ ab_K (0) = 11))
theorem at_1 : ab_at 1 4 := (by decide +kernel : (1 < 483 ∧ ab_K (1) = 4))
theorem at_2 : ab_at 2 101 := (by decide +kernel : (2 < 483 ∧ ab_K (2) = 101))
theorem an_2 : ab_N 2 = 700 := by decide +kernel
theorem at_3 : ab_at 3 7 := (by decide +kernel : (3 < 483 ∧ ab_K (3) = 7))
theorem at_4 : ab_at 4 101 := (by decide +kernel : (4 < 483 ∧ ab_K (4) = 101))
theorem an_4 : ab_N 4 = 640 := by decide +kernel
theorem at_5 : ab_at 5 8 := (by decide +kernel : (5 < 483 ∧ ab_K (5) = 8))
theorem at_51 : ab_at 51 9 := (by decide +kernel : (51 < 483 ∧ ab_K (51) = 9))
theorem at_161 : ab_at 161 3 := (by decide +kernel : (161 < 483 ∧ ab_K (161) = 3))
theorem at_162 : ab_at 162 108 := (by decide +kernel : (162 < 483 ∧ ab_K (162) = 108))
theorem an_162 : ab_N 162 = 10 := by decide +kernel
theorem ar_0_0 : ab_rf 0 0 1 := (by decide +kernel : (0 < (ab_Rl.getD (0) []).length ∧ ab_R (0) 0 = some (1)))
theorem ar_0_1 : ab_rf 0 1 3 := (by decide +kernel : (1 < (ab_Rl.getD (0) []).length ∧ ab_R (0) 1 = some (3)))
theorem ar_0_2 : ab_rf 0 2 5 := (by decide +kernel : (2 < (ab_Rl.getD (0) []).length ∧ ab_R (0) 2 = some (5)))
theorem ar_0_3 : ab_rf 0 3 52 := (by decide +kernel : (3 < (ab_Rl.getD (0) []).length ∧ ab_R (0) 3 = some (52)))
theorem ar_0_4 : ab_rf 0 4 65 := (by decide +kernel : (4 < (ab_Rl.getD (0) []).length ∧ ab_R (0) 4 = some (65)))
theorem ar_0_5 : ab_rf 0 5 97 := (by decide +kernel : (5 < (ab_Rl.getD (0) []).length ∧ ab_R (0) 5 = some (97)))
theorem ar_0_6 : ab_rf 0 6 129 := (by decide +kernel : (6 < (ab_Rl.getD (0) []).length ∧ ab_R (0) 6 = some (129)))
theorem ar_0_7 : ab_rf 0 7 161 := (by decide +kernel : (7 < (ab_Rl.getD (0) []).length ∧ ab_R (0) 7 = some (161)))
theorem ar_1_0 : ab_rf 1 0 2 := (by decide +kernel : (0 < (ab_Rl.getD (1) []).length ∧ ab_R (1) 0 = some (2)))
theorem ar_3_0 : ab_rf 3 0 4 := (by decide +kernel : (0 < (ab_Rl.getD (3) []).length ∧ ab_R (3) 0 = some (4)))
theorem ar_5_0 : ab_rf 5 0 6 := (by decide +kernel : (0 < (ab_Rl.getD (5) []).length ∧ ab_R (5) 0 = some (6)))
theorem ar_5_1 : ab_rf 5 1 38 := (by decide +kernel : (1 < (ab_Rl.getD (5) []).length ∧ ab_R (5) 1 = some (38)))
theorem ar_5_2 : ab_rf 5 2 51 := (by decide +kernel : (2 < (ab_Rl.getD (5) []).length ∧ ab_R (5) 2 = some (51)))
theorem ar_51_0 : ab_rf 51 0 1 := (by decide +kernel : (0 < (ab_Rl.getD (51) []).length ∧ ab_R (51) 0 = some (1)))
theorem ar_161_0 : ab_rf 161 0 162 := (by decide +kernel : (0 < (ab_Rl.getD (161) []).length ∧ ab_R (161) 0 = some (162)))
theorem fF_0_7 : am_F 0 7 = some (5, 1, 0, 148) := by decide +kernel
theorem fF_0_13 : am_F 0 13 = some (5, 4, 0, 160) := by decide +kernel
theorem fF_0_16 : am_F 0 16 = some (5, 2, 0, 152) := by decide +kernel
theorem fF_0_19 : am_F 0 19 = some (5, 5, 0, 164) := by decide +kernel
theorem fF_0_28 : am_F 0 28 = some (0, 0, 0, 120) := by decide +kernel
theorem fF_0_31 : am_F 0 31 = some (0, 1, 0, 123) := by decide +kernel
theorem fF_0_32 : am_F 0 32 = some (5, 3, 0, 157) := by decide +kernel
theorem fF_0_42 : am_F 0 42 = some (0, 2, 0, 126) := by decide +kernel
theorem fF_0_45 : am_F 0 45 = some (0, 3, 0, 128) := by decide +kernel
theorem fF_1_7 : am_F 1 7 = some (1, 0, 0, 249) := by decide +kernel
theorem fF_1_13 : am_F 1 13 = some (1, 1, 0, 251) := by decide +kernel
theorem fF_1_16 : am_F 1 16 = some (1, 2, 0, 253) := by decide +kernel
theorem fF_1_19 : am_F 1 19 = some (1, 3, 0, 255) := by decide +kernel
theorem fF_1_22 : am_F 1 22 = some (1, 4, 0, 257) := by decide +kernel
theorem fF_1_25 : am_F 1 25 = some (1, 5, 0, 259) := by decide +kernel
theorem fF_2_11 : am_F 2 11 = some (2, 0, 0, 288) := by decide +kernel
theorem fF_2_19 : am_F 2 19 = some (2, 1, 0, 291) := by decide +kernel
theorem fF_2_25 : am_F 2 25 = some (2, 2, 0, 294) := by decide +kernel
theorem fF_2_29 : am_F 2 29 = some (2, 3, 0, 295) := by decide +kernel
theorem fF_2_36 : am_F 2 36 = some (2, 4, 0, 298) := by decide +kernel
theorem fF_2_49 : am_F 2 49 = some (2, 5, 0, 300) := by decide +kernel
theorem fF_2_53 : am_F 2 53 = some (2, 6, 0, 303) := by decide +kernel
theorem fF_2_56 : am_F 2 56 = some (2, 7, 0, 306) := by decide +kernel
theorem fF_2_59 : am_F 2 59 = some (2, 8, 0, 308) := by decide +kernel
theorem fF_2_62 : am_F 2 62 = some (2, 9, 0, 309) := by decide +kernel
theorem fF_2_65 : am_F 2 65 = some (2, 10, 0, 311) := by decide +kernel
theorem fF_2_85 : am_F 2 85 = some (5, 0, 0, 146) := by decide +kernel
theorem fF_2_88 : am_F 2 88 = some (10, 0, 0, 229) := by decide +kernel
theorem fF_2_115 : am_F 2 115 = some (5, 4, 0, 162) := by decide +kernel
theorem fF_2_122 : am_F 2 122 = some (5, 5, 0, 166) := by decide +kernel
theorem fF_2_125 : am_F 2 125 = some (5, 1, 0, 150) := by decide +kernel
theorem fF_2_128 : am_F 2 128 = some (5, 2, 0, 154) := by decide +kernel
theorem fF_2_139 : am_F 2 139 = some (1, 0, 0, 250) := by decide +kernel
theorem fF_2_140 : am_F 2 140 = some (1, 1, 0, 252) := by decide +kernel
theorem fF_2_143 : am_F 2 143 = some (1, 2, 0, 254) := by decide +kernel
theorem fF_2_146 : am_F 2 146 = some (1, 3, 0, 256) := by decide +kernel
theorem fF_2_149 : am_F 2 149 = some (1, 4, 0, 258) := by decide +kernel
theorem fF_2_150 : am_F 2 150 = some (1, 5, 0, 260) := by decide +kernel
theorem fF_2_170 : am_F 2 170 = some (5, 3, 0, 158) := by decide +kernel
theorem fF_2_176 : am_F 2 176 = some (5, 6, 0, 170) := by decide +kernel
theorem fF_2_179 : am_F 2 179 = some (5, 7, 0, 173) := by decide +kernel
theorem fF_2_201 : am_F 2 201 = some (5, 14, 0, 188) := by decide +kernel
theorem fF_2_204 : am_F 2 204 = some (5, 15, 0, 189) := by decide +kernel
theorem fF_2_214 : am_F 2 214 = some (5, 10, 0, 181) := by decide +kernel
theorem fF_2_217 : am_F 2 217 = some (5, 9, 0, 179) := by decide +kernel
theorem fF_2_220 : am_F 2 220 = some (5, 13, 0, 187) := by decide +kernel
theorem fF_2_223 : am_F 2 223 = some (5, 11, 0, 183) := by decide +kernel
theorem fF_2_226 : am_F 2 226 = some (0, 0, 0, 122) := by decide +kernel
theorem fF_2_227 : am_F 2 227 = some (0, 1, 0, 125) := by decide +kernel
theorem fF_2_231 : am_F 2 231 = some (5, 12, 0, 185) := by decide +kernel
theorem fF_3_11 : am_F 3 11 = some (3, 0, 0, 416) := by decide +kernel
theorem fF_3_18 : am_F 3 18 = some (3, 2, 0, 418) := by decide +kernel
theorem fF_3_22 : am_F 3 22 = some (3, 1, 0, 417) := by decide +kernel
theorem fF_4_9 : am_F 4 9 = some (4, 0, 0, 72) := by decide +kernel
theorem fF_4_15 : am_F 4 15 = some (4, 1, 0, 76) := by decide +kernel
theorem fF_5_9 : am_F 5 9 = some (5, 0, 0, 145) := by decide +kernel
theorem fF_5_15 : am_F 5 15 = some (5, 1, 0, 149) := by decide +kernel
theorem fF_5_18 : am_F 5 18 = some (5, 2, 0, 153) := by decide +kernel
theorem fF_5_21 : am_F 5 21 = some (5, 3, 0, 156) := by decide +kernel
theorem fF_5_24 : am_F 5 24 = some (5, 4, 0, 161) := by decide +kernel
theorem fF_5_27 : am_F 5 27 = some (5, 5, 0, 165) := by decide +kernel
theorem fF_5_30 : am_F 5 30 = some (5, 6, 0, 168) := by decide +kernel
theorem fF_5_33 : am_F 5 33 = some (5, 7, 0, 172) := by decide +kernel
theorem fF_5_36 : am_F 5 36 = some (5, 8, 0, 175) := by decide +kernel
theorem fF_5_39 : am_F 5 39 = some (5, 9, 0, 177) := by decide +kernel
theorem fF_5_42 : am_F 5 42 = some (5, 10, 0, 180) := by decide +kernel
theorem fF_5_45 : am_F 5 45 = some (5, 11, 0, 182) := by decide +kernel
theorem fF_5_48 : am_F 5 48 = some (5, 12, 0, 184) := by decide +kernel
theorem fF_5_51 : am_F 5 51 = some (5, 13, 0, 186) := by decide +kernel
theorem fF_5_67 : am_F 5 67 = some (10, 1, 0, 232) := by decide +kernel
theorem fF_5_73 : am_F 5 73 = some (10, 2, 0, 235) := by decide +kernel
theorem fF_6_11 : am_F 6 11 = some (6, 0, 0, 344) := by decide +kernel
theorem fF_6_16 : am_F 6 16 = some (6, 1, 0, 345) := by decide +kernel
theorem fF_6_20 : am_F 6 20 = some (6, 2, 0, 346) := by decide +kernel
theorem fF_7_9 : am_F 7 9 = some (7, 0, 0, 90) := by decide +kernel
theorem fF_8_12 : am_F 8 12 = some (8, 0, 0, 377) := by decide +kernel
theorem fF_8_21 : am_F 8 21 = some (8, 1, 0, 379) := by decide +kernel
theorem fF_8_25 : am_F 8 25 = some (8, 6, 0, 386) := by decide +kernel
theorem fF_8_34 : am_F 8 34 = some (8, 2, 0, 381) := by decide +kernel
theorem fF_8_38 : am_F 8 38 = some (8, 5, 0, 384) := by decide +kernel
theorem fF_8_45 : am_F 8 45 = some (8, 3, 0, 382) := by decide +kernel
theorem fF_8_51 : am_F 8 51 = some (9, 1, 0, 362) := by decide +kernel
theorem fF_8_66 : am_F 8 66 = some (2, 6, 0, 304) := by decide +kernel
theorem fF_8_88 : am_F 8 88 = some (2, 5, 0, 301) := by decide +kernel
theorem fF_8_101 : am_F 8 101 = some (8, 4, 0, 383) := by decide +kernel
theorem fF_8_104 : am_F 8 104 = some (2, 0, 0, 289) := by decide +kernel
theorem fF_8_114 : am_F 8 114 = some (5, 8, 0, 176) := by decide +kernel
theorem fF_8_121 : am_F 8 121 = some (5, 9, 0, 178) := by decide +kernel
theorem fF_8_124 : am_F 8 124 = some (5, 6, 0, 169) := by decide +kernel
theorem fF_8_127 : am_F 8 127 = some (9, 3, 0, 367) := by decide +kernel
theorem fF_8_130 : am_F 8 130 = some (9, 0, 0, 361) := by decide +kernel
theorem fF_8_134 : am_F 8 134 = some (4, 0, 0, 74) := by decide +kernel
theorem fF_8_140 : am_F 8 140 = some (9, 2, 0, 365) := by decide +kernel
theorem fF_8_159 : am_F 8 159 = some (2, 1, 0, 292) := by decide +kernel
theorem fF_8_163 : am_F 8 163 = some (10, 0, 0, 230) := by decide +kernel
theorem fF_8_182 : am_F 8 182 = some (2, 3, 0, 297) := by decide +kernel
theorem fF_9_7 : am_F 9 7 = some (9, 0, 0, 360) := by decide +kernel
theorem fF_9_13 : am_F 9 13 = some (9, 2, 0, 364) := by decide +kernel
theorem fF_9_17 : am_F 9 17 = some (9, 3, 0, 366) := by decide +kernel
theorem fF_9_23 : am_F 9 23 = some (4, 1, 0, 77) := by decide +kernel
theorem fF_9_26 : am_F 9 26 = some (4, 0, 0, 73) := by decide +kernel
theorem fF_9_34 : am_F 9 34 = some (9, 1, 0, 363) := by decide +kernel
theorem fF_10_7 : am_F 10 7 = some (10, 0, 0, 228) := by decide +kernel
theorem fF_10_13 : am_F 10 13 = some (10, 1, 0, 231) := by decide +kernel
theorem fF_10_16 : am_F 10 16 = some (10, 2, 0, 234) := by decide +kernel
theorem fF_11_10 : am_F 11 10 = some (11, 0, 0, 427) := by decide +kernel
theorem fF_11_19 : am_F 11 19 = some (11, 1, 0, 428) := by decide +kernel
theorem fF_11_28 : am_F 11 28 = some (11, 2, 0, 429) := by decide +kernel
theorem fF_11_35 : am_F 11 35 = some (11, 3, 0, 430) := by decide +kernel
theorem fF_11_42 : am_F 11 42 = some (11, 4, 0, 431) := by decide +kernel
theorem fF_11_46 : am_F 11 46 = some (11, 5, 0, 432) := by decide +kernel
theorem fF_11_49 : am_F 11 49 = some (11, 6, 0, 433) := by decide +kernel
theorem fF_11_55 : am_F 11 55 = some (11, 7, 0, 434) := by decide +kernel
theorem fF_11_59 : am_F 11 59 = some (11, 10, 0, 437) := by decide +kernel
theorem fF_11_63 : am_F 11 63 = some (4, 1, 0, 75) := by decide +kernel
theorem fF_11_74 : am_F 11 74 = some (8, 5, 0, 385) := by decide +kernel
theorem fF_11_77 : am_F 11 77 = some (11, 9, 0, 436) := by decide +kernel
theorem fF_11_80 : am_F 11 80 = some (8, 6, 0, 387) := by decide +kernel
theorem fF_11_83 : am_F 11 83 = some (8, 0, 0, 378) := by decide +kernel
theorem fF_11_88 : am_F 11 88 = some (8, 1, 0, 380) := by decide +kernel
theorem fF_11_95 : am_F 11 95 = some (11, 8, 0, 435) := by decide +kernel
theorem fF_11_99 : am_F 11 99 = some (2, 5, 0, 302) := by decide +kernel
theorem fF_11_106 : am_F 11 106 = some (2, 6, 0, 305) := by decide +kernel
theorem fF_11_109 : am_F 11 109 = some (2, 9, 0, 310) := by decide +kernel
theorem fF_11_112 : am_F 11 112 = some (2, 7, 0, 307) := by decide +kernel
theorem fF_11_115 : am_F 11 115 = some (2, 10, 0, 312) := by decide +kernel
theorem fF_11_122 : am_F 11 122 = some (3, 2, 0, 419) := by decide +kernel
theorem fF_11_129 : am_F 11 129 = some (2, 3, 0, 296) := by decide +kernel
theorem fF_11_148 : am_F 11 148 = some (2, 0, 0, 290) := by decide +kernel
theorem fF_11_160 : am_F 11 160 = some (2, 1, 0, 293) := by decide +kernel
theorem fF_11_170 : am_F 11 170 = some (5, 0, 0, 147) := by decide +kernel
theorem fF_11_188 : am_F 11 188 = some (2, 4, 0, 299) := by decide +kernel
theorem fF_11_192 : am_F 11 192 = some (0, 0, 0, 121) := by decide +kernel
theorem fF_11_197 : am_F 11 197 = some (0, 1, 0, 124) := by decide +kernel
theorem fF_11_200 : am_F 11 200 = some (0, 2, 0, 127) := by decide +kernel
theorem fF_11_203 : am_F 11 203 = some (0, 3, 0, 129) := by decide +kernel
theorem fF_11_229 : am_F 11 229 = some (5, 3, 0, 159) := by decide +kernel
theorem fF_11_239 : am_F 11 239 = some (5, 1, 0, 151) := by decide +kernel
theorem fF_11_240 : am_F 11 240 = some (5, 2, 0, 155) := by decide +kernel
theorem fF_11_250 : am_F 11 250 = some (5, 4, 0, 163) := by decide +kernel
theorem fF_11_253 : am_F 11 253 = some (10, 1, 0, 233) := by decide +kernel
theorem fF_11_254 : am_F 11 254 = some (5, 5, 0, 167) := by decide +kernel
theorem fF_11_257 : am_F 11 257 = some (10, 2, 0, 236) := by decide +kernel
theorem fF_11_283 : am_F 11 283 = some (5, 6, 0, 171) := by decide +kernel
theorem fF_11_289 : am_F 11 289 = some (5, 7, 0, 174) := by decide +kernel
theorem fF_50_9 : am_F 50 9 = some (13, 0, 0, 1226) := by decide +kernel
theorem fF_50_15 : am_F 50 15 = some (13, 1, 0, 1227) := by decide +kernel
theorem fF_50_1048 : am_F 50 1048 = some (12, 2, 0, 1121) := by decide +kernel
theorem fF_56_15 : am_F 56 15 = some (12, 0, 0, 1119) := by decide +kernel
theorem fF_56_22 : am_F 56 22 = some (12, 1, 0, 1120) := by decide +kernel
theorem fF_56_79 : am_F 56 79 = some (12, 3, 0, 1122) := by decide +kernel
theorem fS_2_68 : am_S 2 68 = some (2, 1, 278) := by decide +kernel
theorem fS_8_175 : am_S 8 175 = some (0, 1, 981) := by decide +kernel
theorem fS_8_179 : am_S 8 179 = some (1, 1, 983) := by decide +kernel
theorem fS_56_18 : am_S 56 18 = some (3, 0, 1070) := by decide +kernel
theorem fS_57_83 : am_S 57 83 = some (6, 0, 1144) := by decide +kernel
theorem fS_57_87 : am_S 57 87 = some (5, 0, 1146) := by decide +kernel
theorem fS_50_38 : am_S 50 38 = some (3, 0, 814) := by decide +kernel
theorem fS_50_1053 : am_S 50 1053 = some (4, 0, 830) := by decide +kernel
theorem oO_0 : am_O 0 = 0 := by decide +kernel
theorem oO_1 : am_O 1 = 0 := by decide +kernel
theorem oO_2 : am_O 2 = 0 := by decide +kernel
theorem oO_3 : am_O 3 = 0 := by decide +kernel
theorem oO_4 : am_O 4 = 1 := by decide +kernel
theorem oO_5 : am_O 5 = 1 := by decide +kernel
theorem oO_7 : am_O 7 = 2 := by decide +kernel
theorem oO_8 : am_O 8 = 2 := by decide +kernel
theorem oO_9 : am_O 9 = 2 := by decide +kernel
theorem oO_10 : am_O 10 = 2 := by decide +kernel
theorem oO_11 : am_O 11 = 2 := by decide +kernel
theorem oO_12 : am_O 12 = 2 := by decide +kernel
theorem oO_13 : am_O 13 = 2 := by decide +kernel
theorem oO_14 : am_O 14 = 2 := by decide +kernel
theorem oO_15 : am_O 15 = 2 := by decide +kernel
theorem oO_16 : am_O 16 = 2 := by decide +kernel
theorem oO_17 : am_O 17 = 2 := by decide +kernel
theorem oO_18 : am_O 18 = 2 := by decide +kernel
theorem oO_19 : am_O 19 = 2 := by decide +kernel
theorem oO_20 : am_O 20 = 2 := by decide +kernel
theorem oO_21 : am_O 21 = 2 := by decide +kernel
theorem oO_22 : am_O 22 = 2 := by decide +kernel
theorem oO_23 : am_O 23 = 2 := by decide +kernel
theorem oO_24 : am_O 24 = 2 := by decide +kernel
theorem oO_25 : am_O 25 = 2 := by decide +kernel
theorem oO_26 : am_O 26 = 2 := by decide +kernel
theorem oO_27 : am_O 27 = 2 := by decide +kernel
theorem oO_28 : am_O 28 = 3 := by decide +kernel
theorem oO_29 : am_O 29 = 3 := by decide +kernel
theorem oO_30 : am_O 30 = 3 := by decide +kernel
theorem oO_31 : am_O 31 = 3 := by decide +kernel
theorem oO_32 : am_O 32 = 4 := by decide +kernel
theorem oO_33 : am_O 33 = 4 := by decide +kernel
theorem oO_34 : am_O 34 = 5 := by decide +kernel
theorem oO_35 : am_O 35 = 5 := by decide +kernel
theorem oO_36 : am_O 36 = 5 := by decide +kernel
theorem oO_38 : am_O 38 = 5 := by decide +kernel
theorem oO_39 : am_O 39 = 5 := by decide +kernel
theorem oO_41 : am_O 41 = 5 := by decide +kernel
theorem oO_42 : am_O 42 = 5 := by decide +kernel
theorem oO_43 : am_O 43 = 5 := by decide +kernel
theorem oO_44 : am_O 44 = 5 := by decide +kernel
theorem oO_45 : am_O 45 = 5 := by decide +kernel
theorem oO_46 : am_O 46 = 5 := by decide +kernel
theorem oO_47 : am_O 47 = 6 := by decide +kernel
theorem oO_48 : am_O 48 = 6 := by decide +kernel
theorem oO_49 : am_O 49 = 6 := by decide +kernel
theorem oO_50 : am_O 50 = 6 := by decide +kernel
theorem oO_51 : am_O 51 = 6 := by decide +kernel
theorem oO_52 : am_O 52 = 6 := by decide +kernel
theorem oO_53 : am_O 53 = 7 := by decide +kernel
theorem oO_60 : am_O 60 = 8 := by decide +kernel
theorem oO_61 : am_O 61 = 8 := by decide +kernel
theorem oO_62 : am_O 62 = 8 := by decide +kernel
theorem oO_63 : am_O 63 = 8 := by decide +kernel
theorem oO_64 : am_O 64 = 8 := by decide +kernel
theorem oO_65 : am_O 65 = 8 := by decide +kernel
theorem oO_66 : am_O 66 = 8 := by decide +kernel
theorem oO_67 : am_O 67 = 8 := by decide +kernel
theorem oO_68 : am_O 68 = 8 := by decide +kernel
theorem oO_69 : am_O 69 = 8 := by decide +kernel
theorem oO_70 : am_O 70 = 8 := by decide +kernel
theorem oO_71 : am_O 71 = 8 := by decide +kernel
theorem oO_72 : am_O 72 = 8 := by decide +kernel
theorem oO_73 : am_O 73 = 8 := by decide +kernel
theorem oO_74 : am_O 74 = 9 := by decide +kernel
theorem oO_75 : am_O 75 = 9 := by decide +kernel
theorem oO_76 : am_O 76 = 9 := by decide +kernel
theorem oO_77 : am_O 77 = 9 := by decide +kernel
theorem oO_78 : am_O 78 = 9 := by decide +kernel
theorem oO_79 : am_O 79 = 9 := by decide +kernel
theorem oO_80 : am_O 80 = 9 := by decide +kernel
theorem oO_81 : am_O 81 = 10 := by decide +kernel
theorem oO_82 : am_O 82 = 10 := by decide +kernel
theorem oO_83 : am_O 83 = 10 := by decide +kernel
theorem oO_84 : am_O 84 = 10 := by decide +kernel
theorem oO_86 : am_O 86 = 11 := by decide +kernel
theorem oO_87 : am_O 87 = 11 := by decide +kernel
theorem oO_88 : am_O 88 = 11 := by decide +kernel
theorem oO_89 : am_O 89 = 11 := by decide +kernel
theorem oO_92 : am_O 92 = 11 := by decide +kernel
theorem oO_93 : am_O 93 = 11 := by decide +kernel
theorem oO_95 : am_O 95 = 11 := by decide +kernel
theorem oO_98 : am_O 98 = 11 := by decide +kernel
theorem oO_99 : am_O 99 = 11 := by decide +kernel
theorem oO_100 : am_O 100 = 11 := by decide +kernel
theorem oO_101 : am_O 101 = 11 := by decide +kernel
theorem oO_102 : am_O 102 = 11 := by decide +kernel
theorem oO_103 : am_O 103 = 11 := by decide +kernel
theorem oO_105 : am_O 105 = 11 := by decide +kernel
theorem oO_109 : am_O 109 = 11 := by decide +kernel
theorem oO_112 : am_O 112 = 11 := by decide +kernel
theorem oO_113 : am_O 113 = 11 := by decide +kernel
theorem oO_115 : am_O 115 = 11 := by decide +kernel
theorem oO_119 : am_O 119 = 11 := by decide +kernel
theorem oO_122 : am_O 122 = 11 := by decide +kernel
theorem oO_123 : am_O 123 = 11 := by decide +kernel
theorem oO_126 : am_O 126 = 11 := by decide +kernel
theorem oO_128 : am_O 128 = 11 := by decide +kernel
theorem oO_129 : am_O 129 = 11 := by decide +kernel
theorem oO_130 : am_O 130 = 11 := by decide +kernel
theorem oO_131 : am_O 131 = 11 := by decide +kernel
theorem oO_132 : am_O 132 = 11 := by decide +kernel
theorem oO_133 : am_O 133 = 11 := by decide +kernel
theorem oO_135 : am_O 135 = 11 := by decide +kernel
theorem oO_137 : am_O 137 = 11 := by decide +kernel
theorem oO_142 : am_O 142 = 11 := by decide +kernel
theorem oO_143 : am_O 143 = 11 := by decide +kernel
theorem oO_144 : am_O 144 = 11 := by decide +kernel
theorem oO_145 : am_O 145 = 11 := by decide +kernel
theorem oO_146 : am_O 146 = 11 := by decide +kernel
theorem oO_147 : am_O 147 = 11 := by decide +kernel
theorem oO_148 : am_O 148 = 11 := by decide +kernel
theorem oO_151 : am_O 151 = 11 := by decide +kernel
theorem oO_152 : am_O 152 = 11 := by decide +kernel
theorem oO_313 : am_O 313 = 53 := by decide +kernel
theorem oO_314 : am_O 314 = 53 := by decide +kernel
theorem oO_315 : am_O 315 = 53 := by decide +kernel
theorem oO_316 : am_O 316 = 53 := by decide +kernel
theorem oO_317 : am_O 317 = 50 := by decide +kernel
theorem oO_318 : am_O 318 = 50 := by decide +kernel
theorem oO_319 : am_O 319 = 50 := by decide +kernel
theorem oO_320 : am_O 320 = 50 := by decide +kernel
theorem oO_321 : am_O 321 = 50 := by decide +kernel
theorem oO_322 : am_O 322 = 51 := by decide +kernel
theorem oO_323 : am_O 323 = 52 := by decide +kernel
theorem oO_324 : am_O 324 = 51 := by decide +kernel
theorem oO_325 : am_O 325 = 59 := by decide +kernel
theorem oO_326 : am_O 326 = 58 := by decide +kernel
theorem oO_327 : am_O 327 = 58 := by decide +kernel
theorem oO_328 : am_O 328 = 58 := by decide +kernel
theorem oO_329 : am_O 329 = 58 := by decide +kernel
theorem oO_330 : am_O 330 = 57 := by decide +kernel
theorem oO_331 : am_O 331 = 57 := by decide +kernel
theorem oO_332 : am_O 332 = 56 := by decide +kernel
theorem oO_333 : am_O 333 = 56 := by decide +kernel
theorem oO_334 : am_O 334 = 56 := by decide +kernel
theorem oO_335 : am_O 335 = 56 := by decide +kernel
theorem oO_336 : am_O 336 = 56 := by decide +kernel
theorem oO_337 : am_O 337 = 50 := by decide +kernel
theorem oO_338 : am_O 338 = 56 := by decide +kernel
theorem oO_339 : am_O 339 = 56 := by decide +kernel
theorem oO_340 : am_O 340 = 56 := by decide +kernel
theorem oO_341 : am_O 341 = 56 := by decide +kernel
theorem oO_342 : am_O 342 = 56 := by decide +kernel
theorem oO_343 : am_O 343 = 55 := by decide +kernel
theorem oO_344 : am_O 344 = 55 := by decide +kernel
theorem oO_345 : am_O 345 = 55 := by decide +kernel
theorem oO_346 : am_O 346 = 55 := by decide +kernel
theorem oO_347 : am_O 347 = 55 := by decide +kernel
theorem oO_348 : am_O 348 = 56 := by decide +kernel
theorem oO_349 : am_O 349 = 55 := by decide +kernel
theorem oO_350 : am_O 350 = 50 := by decide +kernel
theorem oO_351 : am_O 351 = 50 := by decide +kernel
theorem oO_352 : am_O 352 = 55 := by decide +kernel
theorem oO_357 : am_O 357 = 54 := by decide +kernel
theorem oO_358 : am_O 358 = 54 := by decide +kernel
theorem oO_359 : am_O 359 = 54 := by decide +kernel
theorem oO_360 : am_O 360 = 54 := by decide +kernel
theorem oO_361 : am_O 361 = 54 := by decide +kernel
theorem oO_362 : am_O 362 = 54 := by decide +kernel
theorem oO_363 : am_O 363 = 54 := by decide +kernel
theorem oO_364 : am_O 364 = 54 := by decide +kernel
end
section
/-! the walk of Kite and Wind, laid by wip/p60/walk.py -/
theorem t_35 {X : ak_X} {M : ak_M} {r : ak_O × ak_M} (hL : ab_lay M) {b0 : Nat} (hb0 : b0 ∈ ab_fb) {k0 : Nat} (hk0 : k0 < 10) {b1 : Nat} (hb1 : b1 ∈ ab_fb) {k1 : Nat} (hk1 : k1 < 10) (h : (∀ M1 : ak_M, M1 = ak_sI M (b0 + 6 + k0) 0 (ak_I M (b1 + 6 + k1) 0) → (∀ M2 : ak_M, M2 = ak_sI M1 (b0 + 6 + k0) 1 (ak_I M1 (b1 + 6 + k1) 1) → (∀ M3 : ak_M, M3 = ak_sI M2 (b0 + 6 + k0) 2 (ak_I M2 (b1 + 6 + k1) 2) → (∀ M4 : ak_M, M4 = ak_sI M3 (b0 + 6 + k0) 3 (ak_I M3 (b1 + 6 + k1) 3) → (∀ M5 : ak_M, M5 = ak_sI M4 (b0 + 6 + k0) 4 (ak_I M4 (b1 + 6 + k1) 4) → (∀ M6 : ak_M, M6 = ak_sI M5 (b0 + 6 + k0) 5 (ak_I M5 (b1 + 6 + k1) 5) → (∀ M7 : ak_M, M7 = ak_sI M6 (b0 + 6 + k0) 6 (ak_I M6 (b1 + 6 + k1) 6) → (∀ M8 : ak_M, M8 = ak_sI M7 (b0 + 6 + k0) 7 (ak_I M7 (b1 + 6 + k1) 7) → (∀ M9 : ak_M, M9 = ak_sI M8 (b0 + 6 + k0) 8 (ak_I M8 (b1 + 6 + k1) 8) → (∀ M10 : ak_M, M10 = ak_sI M9 (b0 + 6 + k0) 9 (ak_I M9 (b1 + 6 + k1) 9) → (∀ M11 : ak_M, M11 = ak_sI M10 (b0 + 6 + k0) 10 (ak_I M10 (b1 + 6 + k1) 10) → (∀ M12 : ak_M, M12 = ak_sI M11 (b0 + 6 + k0) 11 (ak_I M11 (b1 + 6 + k1) 11) → (∀ M13 : ak_M, M13 = ak_sI M12 (b0 + 6 + k0) 12 (ak_I M12 (b1 + 6 + k1) 12) → (∀ M14 : ak_M, M14 = ak_sI M13 (b0 + 6 + k0) 13 (ak_I M13 (b1 + 6 + k1) 13) → r = (.inl none, M14)))))))))))))))) : rn X 35 [.ref (b0 + 6 + k0), .ref (b1 + 6 + k1)] M r := by
  refine w_rn (nL := 2) (l1 := [some (.ref (b0 + 6 + k0)), some (.ref (b1 + 6 + k1))]) (by decide +kernel) rfl rfl ?_
  refine w_aload_n (n := 1) (i := 0) (by decide +kernel) rfl rfl ?_
  refine w_aload_n (n := 2) (i := 1) (by decide +kernel) rfl rfl ?_
  refine w_getI (n := 5) hL (by decide +kernel) oO_35 fF_5_9 (af_K hb1 hk1) (by decide) rfl ?_
  refine w_putI (n := 8) hL (by decide +kernel) oO_35 fF_5_9 (af_K hb0 hk0) ⟨by decide, Or.inl (by decide)⟩ rfl ?_
  generalize eM1 : ak_sI M (b0 + 6 + k0) 0 (ak_I M (b1 + 6 + k1) 0) = M1
  have hLM1 : ab_lay M1 := by rw [← eM1]; exact ab_lay.sI hL
  replace h := h M1 eM1.symm
  refine w_aload_n (n := 9) (i := 0) (by decide +kernel) rfl rfl ?_
  refine w_aload_n (n := 10) (i := 1) (by decide +kernel) rfl rfl ?_
  refine w_getI (n := 13) hLM1 (by decide +kernel) oO_35 fF_5_15 (af_K hb1 hk1) (by decide) rfl ?_
  refine w_putI (n := 16) hLM1 (by decide +kernel) oO_35 fF_5_15 (af_K hb0 hk0) ⟨by decide, Or.inl (by decide)⟩ rfl ?_
  generalize eM2 : ak_sI M1 (b0 + 6 + k0) 1 (ak_I M1 (b1 + 6 + k1) 1) = M2
  have hLM2 : ab_lay M2 := by rw [← eM2]; exact ab_lay.sI hLM1
  replace h := h M2 eM2.symm
  refine w_aload_n (n := 17) (i := 0) (by decide +kernel) rfl rfl ?_
  refine w_aload_n (n := 18) (i := 1) (by decide +kernel) rfl rfl ?_
  refine w_getI (n := 21) hLM2 (by decide +kernel) oO_35 fF_5_18 (af_K hb1 hk1) (by decide) rfl ?_
  refine w_putI (n := 24) hLM2 (by decide +kernel) oO_35 fF_5_18 (af_K hb0 hk0) ⟨by decide, Or.inl (by decide)⟩ rfl ?_
  generalize eM3 : ak_sI M2 (b0 + 6 + k0) 2 (ak_I M2 (b1 + 6 + k1) 2) = M3
  have hLM3 : ab_lay M3 := by rw [← eM3]; exact ab_lay.sI hLM2
  replace h := h M3 eM3.symm
  refine w_aload_n (n := 25) (i := 0) (by decide +kernel) rfl rfl ?_
  refine w_aload_n (n := 26) (i := 1) (by decide +kernel) rfl rfl ?_
  refine w_getI (n := 29) hLM3 (by decide +kernel) oO_35 fF_5_21 (af_K hb1 hk1) (by decide) rfl ?_
  refine w_putI (n := 32) hLM3 (by decide +kernel) oO_35 fF_5_21 (af_K hb0 hk0) ⟨by decide, Or.inl (by decide)⟩ rfl ?_
  generalize eM4 : ak_sI M3 (b0 + 6 + k0) 3 (ak_I M3 (b1 + 6 + k1) 3) = M4
  have hLM4 : ab_lay M4 := by rw [← eM4]; exact ab_lay.sI hLM3
  replace h := h M4 eM4.symm
  refine w_aload_n (n := 33) (i := 0) (by decide +kernel) rfl rfl ?_
  refine w_aload_n (n := 34) (i := 1) (by decide +kernel) rfl rfl ?_
  refine w_getI (n := 37) hLM4 (by decide +kernel) oO_35 fF_5_24 (af_K hb1 hk1) (by decide) rfl ?_
  refine w_putI (n := 40) hLM4 (by decide +kernel) oO_35 fF_5_24 (af_K hb0 hk0) ⟨by decide, Or.inl (by decide)⟩ rfl ?_
  generalize eM5 : ak_sI M4 (b0 + 6 + k0) 4 (ak_I M4 (b1 + 6 + k1) 4) = M5
  have hLM5 : ab_lay M5 := by rw [← eM5]; exact ab_lay.sI hLM4
  replace h := h M5 eM5.symm
  refine w_aload_n (n := 41) (i := 0) (by decide +kernel) rfl rfl ?_
  refine w_aload_n (n := 42) (i := 1) (by decide +kernel) rfl rfl ?_
  refine w_getI (n := 45) hLM5 (by decide +kernel) oO_35 fF_5_27 (af_K hb1 hk1) (by decide) rfl ?_
  refine w_putI (n := 48) hLM5 (by decide +kernel) oO_35 fF_5_27 (af_K hb0 hk0) ⟨by decide, Or.inl (by decide)⟩ rfl ?_
  generalize eM6 : ak_sI M5 (b0 + 6 + k0) 5 (ak_I M5 (b1 + 6 + k1) 5) = M6
  have hLM6 : ab_lay M6 := by rw [← eM6]; exact ab_lay.sI hLM5
  replace h := h M6 eM6.symm
  refine w_aload_n (n := 49) (i := 0) (by decide +kernel) rfl rfl ?_
  refine w_aload_n (n := 50) (i := 1) (by decide +kernel) rfl rfl ?_
  refine w_getI (n := 53) hLM6 (by decide +kernel) oO_35 fF_5_30 (af_K hb1 hk1) (by decide) rfl ?_
  refine w_putI (n := 56) hLM6 (by decide +kernel) oO_35 fF_5_30 (af_K hb0 hk0) ⟨by decide, Or.inl (by decide)⟩ rfl ?_
  generalize eM7 : ak_sI M6 (b0 + 6 + k0) 6 (ak_I M6 (b1 + 6 + k1) 6) = M7
  have hLM7 : ab_lay M7 := by rw [← eM7]; exact ab_lay.sI hLM6
  replace h := h M7 eM7.symm
  refine w_aload_n (n := 57) (i := 0) (by decide +kernel) rfl rfl ?_
  refine w_aload_n (n := 58) (i := 1) (by decide +kernel) rfl rfl ?_
  refine w_getI (n := 61) hLM7 (by decide +kernel) oO_35 fF_5_33 (af_K hb1 hk1) (by decide) rfl ?_
  refine w_putI (n := 64) hLM7 (by decide +kernel) oO_35 fF_5_33 (af_K hb0 hk0) ⟨by decide, Or.inl (by decide)⟩ rfl ?_
  generalize eM8 : ak_sI M7 (b0 + 6 + k0) 7 (ak_I M7 (b1 + 6 + k1) 7) = M8
  have hLM8 : ab_lay M8 := by rw [← eM8]; exact ab_lay.sI hLM7
  replace h := h M8 eM8.symm
  refine w_aload_n (n := 65) (i := 0) (by decide +kernel) rfl rfl ?_
  refine w_aload_n (n := 66) (i := 1) (by decide +kernel) rfl rfl ?_
  refine w_getI (n := 69) hLM8 (by decide +kernel) oO_35 fF_5_36 (af_K hb1 hk1) (by decide) rfl ?_
  refine w_putI (n := 72) hLM8 (by decide +kernel) oO_35 fF_5_36 (af_K hb0 hk0) ⟨by decide, Or.inl (by decide)⟩ rfl ?_
  generalize eM9 : ak_sI M8 (b0 + 6 + k0) 8 (ak_I M8 (b1 + 6 + k1) 8) = M9
  have hLM9 : ab_lay M9 := by rw [← eM9]; exact ab_lay.sI hLM8
  replace h := h M9 eM9.symm
  refine w_aload_n (n := 73) (i := 0) (by decide +kernel) rfl rfl ?_
  refine w_aload_n (n := 74) (i := 1) (by decide +kernel) rfl rfl ?_
  refine w_getI (n := 77) hLM9 (by decide +kernel) oO_35 fF_5_39 (af_K hb1 hk1) (by decide) rfl ?_
  refine w_putI (n := 80) hLM9 (by decide +kernel) oO_35 fF_5_39 (af_K hb0 hk0) ⟨by decide, Or.inl (by decide)⟩ rfl ?_
  generalize eM10 : ak_sI M9 (b0 + 6 + k0) 9 (ak_I M9 (b1 + 6 + k1) 9) = M10
  have hLM10 : ab_lay M10 := by rw [← eM10]; exact ab_lay.sI hLM9
  replace h := h M10 eM10.symm
  refine w_aload_n (n := 81) (i := 0) (by decide +kernel) rfl rfl ?_
  refine w_aload_n (n := 82) (i := 1) (by decide +kernel) rfl rfl ?_
  refine w_getI (n := 85) hLM10 (by decide +kernel) oO_35 fF_5_42 (af_K hb1 hk1) (by decide) rfl ?_
  refine w_putI (n := 88) hLM10 (by decide +kernel) oO_35 fF_5_42 (af_K hb0 hk0) ⟨by decide, Or.inl (by decide)⟩ rfl ?_
  generalize eM11 : ak_sI M10 (b0 + 6 + k0) 10 (ak_I M10 (b1 + 6 + k1) 10) = M11
  have hLM11 : ab_lay M11 := by rw [← eM11]; exact ab_lay.sI hLM10
  replace h := h M11 eM11.symm
  refine w_aload_n (n := 89) (i := 0) (by decide +kernel) rfl rfl ?_
  refine w_aload_n (n := 90) (i := 1) (by decide +kernel) rfl rfl ?_
  refine w_getI (n := 93) hLM11 (by decide +kernel) oO_35 fF_5_45 (af_K hb1 hk1) (by decide) rfl ?_
  refine w_putI (n := 96) hLM11 (by decide +kernel) oO_35 fF_5_45 (af_K hb0 hk0) ⟨by decide, Or.inl (by decide)⟩ rfl ?_
  generalize eM12 : ak_sI M11 (b0 + 6 + k0) 11 (ak_I M11 (b1 + 6 + k1) 11) = M12
  have hLM12 : ab_lay M12 := by rw [← eM12]; exact ab_lay.sI hLM11
  replace h := h M12 eM12.symm
  refine w_aload_n (n := 97) (i := 0) (by decide +kernel) rfl rfl ?_
  refine w_aload_n (n := 98) (i := 1) (by decide +kernel) rfl rfl ?_
  refine w_getI (n := 101) hLM12 (by decide +kernel) oO_35 fF_5_48 (af_K hb1 hk1) (by decide) rfl ?_
  refine w_putI (n := 104) hLM12 (by decide +kernel) oO_35 fF_5_48 (af_K hb0 hk0) ⟨by decide, Or.inl (by decide)⟩ rfl ?_
  generalize eM13 : ak_sI M12 (b0 + 6 + k0) 12 (ak_I M12 (b1 + 6 + k1) 12) = M13
  have hLM13 : ab_lay M13 := by rw [← eM13]; exact ab_lay.sI hLM12
  replace h := h M13 eM13.symm
  refine w_aload_n (n := 105) (i := 0) (by decide +kernel) rfl rfl ?_
  refine w_aload_n (n := 106) (i := 1) (by decide +kernel) rfl rfl ?_
  refine w_getI (n := 109) hLM13 (by decide +kernel) oO_35 fF_5_51 (af_K hb1 hk1) (by decide) rfl ?_
  refine w_putI (n := 112) hLM13 (by decide +kernel) oO_35 fF_5_51 (af_K hb0 hk0) ⟨by decide, Or.inl (by decide)⟩ rfl ?_
  generalize eM14 : ak_sI M13 (b0 + 6 + k0) 13 (ak_I M13 (b1 + 6 + k1) 13) = M14
  have hLM14 : ab_lay M14 := by rw [← eM14]; exact ab_lay.sI hLM13
  replace h := h M14 eM14.symm
  subst h
  exact w_vreturn (by decide +kernel) (by decide +kernel)
theorem t_36 {X : ak_X} {M : ak_M} {r : ak_O × ak_M} (hL : ab_lay M) {b0 : Nat} (hb0 : b0 ∈ ab_fb) {k0 : Nat} (hk0 : k0 < 10) (x1 : Int32) (x2 : Int32) (h : (∀ M1 : ak_M, M1 = ak_sI M (b0 + 6 + k0) 4 x1 → (∀ M2 : ak_M, M2 = ak_sI M1 (b0 + 6 + k0) 5 x2 → (∃ (M3 : ak_M), ab_lay M3 ∧ rn X 38 [.ref (b0 + 6 + k0)] M2 (.inl (none), M3) ∧ (∀ M4 : ak_M, M4 = ak_sI M3 (b0 + 6 + k0) 7 0 → (∀ M5 : ak_M, M5 = ak_sI M4 (b0 + 6 + k0) 8 1 → (∀ M6 : ak_M, M6 = ak_sI M5 (b0 + 6 + k0) 9 20 → (∀ M7 : ak_M, M7 = ak_sI M6 (b0 + 6 + k0) 6 10 → (∀ M8 : ak_M, M8 = ak_sI M7 (b0 + 6 + k0) 10 0 → (∀ M9 : ak_M, M9 = ak_sI M8 (b0 + 6 + k0) 11 0 → (∀ M10 : ak_M, M10 = ak_sI M9 (b0 + 6 + k0) 12 ((-1)) → (∀ M11 : ak_M, M11 = ak_sI M10 (b0 + 6 + k0) 13 ((-1)) → r = (.inl none, M11))))))))))))) : rn X 36 [.ref (b0 + 6 + k0), .int x1, .int x2] M r := by
  refine w_rn (nL := 3) (l1 := [some (.ref (b0 + 6 + k0)), some (.int x1), some (.int x2)]) (by decide +kernel) rfl rfl ?_
  refine w_aload_n (n := 1) (i := 0) (by decide +kernel) rfl rfl ?_
  refine w_iload_n (n := 2) (i := 1) (by decide +kernel) rfl rfl ?_
  refine w_putI (n := 5) hL (by decide +kernel) oO_36 fF_5_24 (af_K hb0 hk0) ⟨by decide, Or.inl (by decide)⟩ rfl ?_
  generalize eM1 : ak_sI M (b0 + 6 + k0) 4 x1 = M1
  have hLM1 : ab_lay M1 := by rw [← eM1]; exact ab_lay.sI hL
  replace h := h M1 eM1.symm
  refine w_aload_n (n := 6) (i := 0) (by decide +kernel) rfl rfl ?_
  refine w_iload_n (n := 7) (i := 2) (by decide +kernel) rfl rfl ?_
  refine w_putI (n := 10) hLM1 (by decide +kernel) oO_36 fF_5_27 (af_K hb0 hk0) ⟨by decide, Or.inl (by decide)⟩ rfl ?_
  generalize eM2 : ak_sI M1 (b0 + 6 + k0) 5 x2 = M2
  have hLM2 : ab_lay M2 := by rw [← eM2]; exact ab_lay.sI hLM1
  replace h := h M2 eM2.symm
  refine w_aload_n (n := 11) (i := 0) (by decide +kernel) rfl rfl ?_
  obtain ⟨M3, hLM3, hr12, h⟩ := h
  refine w_cV (n := 14) (idx := 54) (cal := 38) (na := 0) (nl := 1) (as := []) (rest := []) hLM2 (by decide +kernel) (by decide +kernel) (af_K hb0 hk0) (by decide +kernel) rfl rfl rfl (Nat.le_of_ble_eq_true rfl) rfl hr12 ?_
  refine w_aload_n (n := 15) (i := 0) (by decide +kernel) rfl rfl ?_
  refine w_iconst (n := 16) (v := 0) (x := 0) (by decide +kernel) rfl (by decide) ?_
  refine w_putI (n := 19) hLM3 (by decide +kernel) oO_36 fF_5_33 (af_K hb0 hk0) ⟨by decide, Or.inl (by decide)⟩ rfl ?_
  generalize eM4 : ak_sI M3 (b0 + 6 + k0) 7 0 = M4
  have hLM4 : ab_lay M4 := by rw [← eM4]; exact ab_lay.sI hLM3
  replace h := h M4 eM4.symm
  refine w_aload_n (n := 20) (i := 0) (by decide +kernel) rfl rfl ?_
  refine w_iconst (n := 21) (v := 1) (x := 1) (by decide +kernel) rfl (by decide) ?_
  refine w_putI (n := 24) hLM4 (by decide +kernel) oO_36 fF_5_36 (af_K hb0 hk0) ⟨by decide, Or.inl (by decide)⟩ rfl ?_
  generalize eM5 : ak_sI M4 (b0 + 6 + k0) 8 1 = M5
  have hLM5 : ab_lay M5 := by rw [← eM5]; exact ab_lay.sI hLM4
  replace h := h M5 eM5.symm
  refine w_aload_n (n := 25) (i := 0) (by decide +kernel) rfl rfl ?_
  refine w_bipush (n := 27) (v := 20) (x := 20) (by decide +kernel) rfl (by decide) ?_
  refine w_putI (n := 30) hLM5 (by decide +kernel) oO_36 fF_5_39 (af_K hb0 hk0) ⟨by decide, Or.inl (by decide)⟩ rfl ?_
  generalize eM6 : ak_sI M5 (b0 + 6 + k0) 9 20 = M6
  have hLM6 : ab_lay M6 := by rw [← eM6]; exact ab_lay.sI hLM5
  replace h := h M6 eM6.symm
  refine w_aload_n (n := 31) (i := 0) (by decide +kernel) rfl rfl ?_
  refine w_bipush (n := 33) (v := 10) (x := 10) (by decide +kernel) rfl (by decide) ?_
  refine w_putI (n := 36) hLM6 (by decide +kernel) oO_36 fF_5_30 (af_K hb0 hk0) ⟨by decide, Or.inl (by decide)⟩ rfl ?_
  generalize eM7 : ak_sI M6 (b0 + 6 + k0) 6 10 = M7
  have hLM7 : ab_lay M7 := by rw [← eM7]; exact ab_lay.sI hLM6
  replace h := h M7 eM7.symm
  refine w_aload_n (n := 37) (i := 0) (by decide +kernel) rfl rfl ?_
  refine w_iconst (n := 38) (v := 0) (x := 0) (by decide +kernel) rfl (by decide) ?_
  refine w_putI (n := 41) hLM7 (by decide +kernel) oO_36 fF_5_42 (af_K hb0 hk0) ⟨by decide, Or.inl (by decide)⟩ rfl ?_
  generalize eM8 : ak_sI M7 (b0 + 6 + k0) 10 0 = M8
  have hLM8 : ab_lay M8 := by rw [← eM8]; exact ab_lay.sI hLM7
  replace h := h M8 eM8.symm
  refine w_aload_n (n := 42) (i := 0) (by decide +kernel) rfl rfl ?_
  refine w_iconst (n := 43) (v := 0) (x := 0) (by decide +kernel) rfl (by decide) ?_
  refine w_putI (n := 46) hLM8 (by decide +kernel) oO_36 fF_5_45 (af_K hb0 hk0) ⟨by decide, Or.inl (by decide)⟩ rfl ?_
  generalize eM9 : ak_sI M8 (b0 + 6 + k0) 11 0 = M9
  have hLM9 : ab_lay M9 := by rw [← eM9]; exact ab_lay.sI hLM8
  replace h := h M9 eM9.symm
  refine w_aload_n (n := 47) (i := 0) (by decide +kernel) rfl rfl ?_
  refine w_iconst (n := 48) (v := -1) (x := (-1)) (by decide +kernel) rfl (by decide) ?_
  refine w_putI (n := 51) hLM9 (by decide +kernel) oO_36 fF_5_48 (af_K hb0 hk0) ⟨by decide, Or.inl (by decide)⟩ rfl ?_
  generalize eM10 : ak_sI M9 (b0 + 6 + k0) 12 ((-1)) = M10
  have hLM10 : ab_lay M10 := by rw [← eM10]; exact ab_lay.sI hLM9
  replace h := h M10 eM10.symm
  refine w_aload_n (n := 52) (i := 0) (by decide +kernel) rfl rfl ?_
  refine w_iconst (n := 53) (v := -1) (x := (-1)) (by decide +kernel) rfl (by decide) ?_
  refine w_putI (n := 56) hLM10 (by decide +kernel) oO_36 fF_5_51 (af_K hb0 hk0) ⟨by decide, Or.inl (by decide)⟩ rfl ?_
  generalize eM11 : ak_sI M10 (b0 + 6 + k0) 13 ((-1)) = M11
  have hLM11 : ab_lay M11 := by rw [← eM11]; exact ab_lay.sI hLM10
  replace h := h M11 eM11.symm
  subst h
  exact w_vreturn (by decide +kernel) (by decide +kernel)
theorem t_38 {X : ak_X} {M : ak_M} {r : ak_O × ak_M} (hL : ab_lay M) {b0 : Nat} (hb0 : b0 ∈ ab_fb) {k0 : Nat} (hk0 : k0 < 10) (h : (∀ M1 : ak_M, M1 = ak_sI M (b0 + 6 + k0) 0 1 → (∀ M2 : ak_M, M2 = ak_sI M1 (b0 + 6 + k0) 1 (ak_I M1 (b0 + 6 + k0) 4) → (∀ M3 : ak_M, M3 = ak_sI M2 (b0 + 6 + k0) 2 (ak_I M2 (b0 + 6 + k0) 5) → (∀ M4 : ak_M, M4 = ak_sI M3 (b0 + 6 + k0) 3 0 → r = (.inl none, M4)))))) : rn X 38 [.ref (b0 + 6 + k0)] M r := by
  refine w_rn (nL := 1) (l1 := [some (.ref (b0 + 6 + k0))]) (by decide +kernel) rfl rfl ?_
  refine w_aload_n (n := 1) (i := 0) (by decide +kernel) rfl rfl ?_
  refine w_iconst (n := 2) (v := 1) (x := 1) (by decide +kernel) rfl (by decide) ?_
  refine w_putI (n := 5) hL (by decide +kernel) oO_38 fF_5_9 (af_K hb0 hk0) ⟨by decide, Or.inl (by decide)⟩ rfl ?_
  generalize eM1 : ak_sI M (b0 + 6 + k0) 0 1 = M1
  have hLM1 : ab_lay M1 := by rw [← eM1]; exact ab_lay.sI hL
  replace h := h M1 eM1.symm
  refine w_aload_n (n := 6) (i := 0) (by decide +kernel) rfl rfl ?_
  refine w_aload_n (n := 7) (i := 0) (by decide +kernel) rfl rfl ?_
  refine w_getI (n := 10) hLM1 (by decide +kernel) oO_38 fF_5_24 (af_K hb0 hk0) (by decide) rfl ?_
  refine w_putI (n := 13) hLM1 (by decide +kernel) oO_38 fF_5_15 (af_K hb0 hk0) ⟨by decide, Or.inl (by decide)⟩ rfl ?_
  generalize eM2 : ak_sI M1 (b0 + 6 + k0) 1 (ak_I M1 (b0 + 6 + k0) 4) = M2
  have hLM2 : ab_lay M2 := by rw [← eM2]; exact ab_lay.sI hLM1
  replace h := h M2 eM2.symm
  refine w_aload_n (n := 14) (i := 0) (by decide +kernel) rfl rfl ?_
  refine w_aload_n (n := 15) (i := 0) (by decide +kernel) rfl rfl ?_
  refine w_getI (n := 18) hLM2 (by decide +kernel) oO_38 fF_5_27 (af_K hb0 hk0) (by decide) rfl ?_
  refine w_putI (n := 21) hLM2 (by decide +kernel) oO_38 fF_5_18 (af_K hb0 hk0) ⟨by decide, Or.inl (by decide)⟩ rfl ?_
  generalize eM3 : ak_sI M2 (b0 + 6 + k0) 2 (ak_I M2 (b0 + 6 + k0) 5) = M3
  have hLM3 : ab_lay M3 := by rw [← eM3]; exact ab_lay.sI hLM2
  replace h := h M3 eM3.symm
  refine w_aload_n (n := 22) (i := 0) (by decide +kernel) rfl rfl ?_
  refine w_iconst (n := 23) (v := 0) (x := 0) (by decide +kernel) rfl (by decide) ?_
  refine w_putI (n := 26) hLM3 (by decide +kernel) oO_38 fF_5_21 (af_K hb0 hk0) ⟨by decide, Or.inl (by decide)⟩ rfl ?_
  generalize eM4 : ak_sI M3 (b0 + 6 + k0) 3 0 = M4
  have hLM4 : ab_lay M4 := by rw [← eM4]; exact ab_lay.sI hLM3
  replace h := h M4 eM4.symm
  subst h
  exact w_vreturn (by decide +kernel) (by decide +kernel)
theorem t_39 {X : ak_X} {M : ak_M} {r : ak_O × ak_M} (hL : ab_lay M) {b0 : Nat} (hb0 : b0 ∈ ab_fb) {k0 : Nat} (hk0 : k0 < 10) (x1 : Int32) (h : (if x1 = 0 then r = (.inl (some (.int (ak_I M (b0 + 6 + k0) 0))), M) else (if x1 = 1 then r = (.inl (some (.int (ak_I M (b0 + 6 + k0) 1))), M) else (if x1 = 2 then r = (.inl (some (.int (ak_I M (b0 + 6 + k0) 2))), M) else (if x1 = 3 then r = (.inl (some (.int (ak_I M (b0 + 6 + k0) 3))), M) else (if x1 = 4 then r = (.inl (some (.int (ak_I M (b0 + 6 + k0) 4))), M) else (if x1 = 5 then r = (.inl (some (.int (ak_I M (b0 + 6 + k0) 5))), M) else (if x1 = 6 then r = (.inl (some (.int (ak_I M (b0 + 6 + k0) 6))), M) else (if x1 = 7 then r = (.inl (some (.int (ak_I M (b0 + 6 + k0) 7))), M) else (if x1 = 8 then r = (.inl (some (.int (ak_I M (b0 + 6 + k0) 8))), M) else (if x1 = 9 then r = (.inl (some (.int (ak_I M (b0 + 6 + k0) 9))), M) else (if x1 = 10 then r = (.inl (some (.int (ak_I M (b0 + 6 + k0) 10))), M) else (if x1 = 11 then r = (.inl (some (.int (ak_I M (b0 + 6 + k0) 11))), M) else (if x1 = 12 then r = (.inl (some (.int (ak_I M (b0 + 6 + k0) 12))), M) else r = (.inl (some (.int (ak_I M (b0 + 6 + k0) 13))), M))))))))))))))) : rn X 39 [.ref (b0 + 6 + k0), .int x1] M r := by
  refine w_rn (nL := 2) (l1 := [some (.ref (b0 + 6 + k0)), some (.int x1)]) (by decide +kernel) rfl rfl ?_
  refine w_iload_n (n := 1) (i := 1) (by decide +kernel) rfl rfl ?_
  by_cases c1 : x1 = 0
  · rw [if_pos c1] at h
    refine w_tsw (n := 68) (d := 132) (lo := 0) (hi := 12) (offs := #[67, 72, 77, 82, 87, 92, 97, 102, 107, 112, 117, 122, 127]) (o := 67) (by decide +kernel) (by rw [c1]; decide) (by decide) ?_
    refine w_aload_n (n := 69) (i := 0) (by decide +kernel) rfl rfl ?_
    refine w_getI (n := 72) hL (by decide +kernel) oO_39 fF_5_9 (af_K hb0 hk0) (by decide) rfl ?_
    subst h
    exact w_ireturn (by decide +kernel) (w_okI (by decide +kernel))
  · rw [if_neg c1] at h
    by_cases c2 : x1 = 1
    · rw [if_pos c2] at h
      refine w_tsw (n := 73) (d := 132) (lo := 0) (hi := 12) (offs := #[67, 72, 77, 82, 87, 92, 97, 102, 107, 112, 117, 122, 127]) (o := 72) (by decide +kernel) (by rw [c2]; decide) (by decide) ?_
      refine w_aload_n (n := 74) (i := 0) (by decide +kernel) rfl rfl ?_
      refine w_getI (n := 77) hL (by decide +kernel) oO_39 fF_5_15 (af_K hb0 hk0) (by decide) rfl ?_
      subst h
      exact w_ireturn (by decide +kernel) (w_okI (by decide +kernel))
    · rw [if_neg c2] at h
      by_cases c3 : x1 = 2
      · rw [if_pos c3] at h
        refine w_tsw (n := 78) (d := 132) (lo := 0) (hi := 12) (offs := #[67, 72, 77, 82, 87, 92, 97, 102, 107, 112, 117, 122, 127]) (o := 77) (by decide +kernel) (by rw [c3]; decide) (by decide) ?_
        refine w_aload_n (n := 79) (i := 0) (by decide +kernel) rfl rfl ?_
        refine w_getI (n := 82) hL (by decide +kernel) oO_39 fF_5_18 (af_K hb0 hk0) (by decide) rfl ?_
        subst h
        exact w_ireturn (by decide +kernel) (w_okI (by decide +kernel))
      · rw [if_neg c3] at h
        by_cases c4 : x1 = 3
        · rw [if_pos c4] at h
          refine w_tsw (n := 83) (d := 132) (lo := 0) (hi := 12) (offs := #[67, 72, 77, 82, 87, 92, 97, 102, 107, 112, 117, 122, 127]) (o := 82) (by decide +kernel) (by rw [c4]; decide) (by decide) ?_
          refine w_aload_n (n := 84) (i := 0) (by decide +kernel) rfl rfl ?_
          refine w_getI (n := 87) hL (by decide +kernel) oO_39 fF_5_21 (af_K hb0 hk0) (by decide) rfl ?_
          subst h
          exact w_ireturn (by decide +kernel) (w_okI (by decide +kernel))
        · rw [if_neg c4] at h
          by_cases c5 : x1 = 4
          · rw [if_pos c5] at h
            refine w_tsw (n := 88) (d := 132) (lo := 0) (hi := 12) (offs := #[67, 72, 77, 82, 87, 92, 97, 102, 107, 112, 117, 122, 127]) (o := 87) (by decide +kernel) (by rw [c5]; decide) (by decide) ?_
            refine w_aload_n (n := 89) (i := 0) (by decide +kernel) rfl rfl ?_
            refine w_getI (n := 92) hL (by decide +kernel) oO_39 fF_5_24 (af_K hb0 hk0) (by decide) rfl ?_
            subst h
            exact w_ireturn (by decide +kernel) (w_okI (by decide +kernel))
          · rw [if_neg c5] at h
            by_cases c6 : x1 = 5
            · rw [if_pos c6] at h
              refine w_tsw (n := 93) (d := 132) (lo := 0) (hi := 12) (offs := #[67, 72, 77, 82, 87, 92, 97, 102, 107, 112, 117, 122, 127]) (o := 92) (by decide +kernel) (by rw [c6]; decide) (by decide) ?_
              refine w_aload_n (n := 94) (i := 0) (by decide +kernel) rfl rfl ?_
              refine w_getI (n := 97) hL (by decide +kernel) oO_39 fF_5_27 (af_K hb0 hk0) (by decide) rfl ?_
              subst h
              exact w_ireturn (by decide +kernel) (w_okI (by decide +kernel))
            · rw [if_neg c6] at h
              by_cases c7 : x1 = 6
              · rw [if_pos c7] at h
                refine w_tsw (n := 98) (d := 132) (lo := 0) (hi := 12) (offs := #[67, 72, 77, 82, 87, 92, 97, 102, 107, 112, 117, 122, 127]) (o := 97) (by decide +kernel) (by rw [c7]; decide) (by decide) ?_
                refine w_aload_n (n := 99) (i := 0) (by decide +kernel) rfl rfl ?_
                refine w_getI (n := 102) hL (by decide +kernel) oO_39 fF_5_30 (af_K hb0 hk0) (by decide) rfl ?_
                subst h
                exact w_ireturn (by decide +kernel) (w_okI (by decide +kernel))
              · rw [if_neg c7] at h
                by_cases c8 : x1 = 7
                · rw [if_pos c8] at h
                  refine w_tsw (n := 103) (d := 132) (lo := 0) (hi := 12) (offs := #[67, 72, 77, 82, 87, 92, 97, 102, 107, 112, 117, 122, 127]) (o := 102) (by decide +kernel) (by rw [c8]; decide) (by decide) ?_
                  refine w_aload_n (n := 104) (i := 0) (by decide +kernel) rfl rfl ?_
                  refine w_getI (n := 107) hL (by decide +kernel) oO_39 fF_5_33 (af_K hb0 hk0) (by decide) rfl ?_
                  subst h
                  exact w_ireturn (by decide +kernel) (w_okI (by decide +kernel))
                · rw [if_neg c8] at h
                  by_cases c9 : x1 = 8
                  · rw [if_pos c9] at h
                    refine w_tsw (n := 108) (d := 132) (lo := 0) (hi := 12) (offs := #[67, 72, 77, 82, 87, 92, 97, 102, 107, 112, 117, 122, 127]) (o := 107) (by decide +kernel) (by rw [c9]; decide) (by decide) ?_
                    refine w_aload_n (n := 109) (i := 0) (by decide +kernel) rfl rfl ?_
                    refine w_getI (n := 112) hL (by decide +kernel) oO_39 fF_5_36 (af_K hb0 hk0) (by decide) rfl ?_
                    subst h
                    exact w_ireturn (by decide +kernel) (w_okI (by decide +kernel))
                  · rw [if_neg c9] at h
                    by_cases c10 : x1 = 9
                    · rw [if_pos c10] at h
                      refine w_tsw (n := 113) (d := 132) (lo := 0) (hi := 12) (offs := #[67, 72, 77, 82, 87, 92, 97, 102, 107, 112, 117, 122, 127]) (o := 112) (by decide +kernel) (by rw [c10]; decide) (by decide) ?_
                      refine w_aload_n (n := 114) (i := 0) (by decide +kernel) rfl rfl ?_
                      refine w_getI (n := 117) hL (by decide +kernel) oO_39 fF_5_39 (af_K hb0 hk0) (by decide) rfl ?_
                      subst h
                      exact w_ireturn (by decide +kernel) (w_okI (by decide +kernel))
                    · rw [if_neg c10] at h
                      by_cases c11 : x1 = 10
                      · rw [if_pos c11] at h
                        refine w_tsw (n := 118) (d := 132) (lo := 0) (hi := 12) (offs := #[67, 72, 77, 82, 87, 92, 97, 102, 107, 112, 117, 122, 127]) (o := 117) (by decide +kernel) (by rw [c11]; decide) (by decide) ?_
                        refine w_aload_n (n := 119) (i := 0) (by decide +kernel) rfl rfl ?_
                        refine w_getI (n := 122) hL (by decide +kernel) oO_39 fF_5_42 (af_K hb0 hk0) (by decide) rfl ?_
                        subst h
                        exact w_ireturn (by decide +kernel) (w_okI (by decide +kernel))
                      · rw [if_neg c11] at h
                        by_cases c12 : x1 = 11
                        · rw [if_pos c12] at h
                          refine w_tsw (n := 123) (d := 132) (lo := 0) (hi := 12) (offs := #[67, 72, 77, 82, 87, 92, 97, 102, 107, 112, 117, 122, 127]) (o := 122) (by decide +kernel) (by rw [c12]; decide) (by decide) ?_
                          refine w_aload_n (n := 124) (i := 0) (by decide +kernel) rfl rfl ?_
                          refine w_getI (n := 127) hL (by decide +kernel) oO_39 fF_5_45 (af_K hb0 hk0) (by decide) rfl ?_
                          subst h
                          exact w_ireturn (by decide +kernel) (w_okI (by decide +kernel))
                        · rw [if_neg c12] at h
                          by_cases c13 : x1 = 12
                          · rw [if_pos c13] at h
                            refine w_tsw (n := 128) (d := 132) (lo := 0) (hi := 12) (offs := #[67, 72, 77, 82, 87, 92, 97, 102, 107, 112, 117, 122, 127]) (o := 127) (by decide +kernel) (by rw [c13]; decide) (by decide) ?_
                            refine w_aload_n (n := 129) (i := 0) (by decide +kernel) rfl rfl ?_
                            refine w_getI (n := 132) hL (by decide +kernel) oO_39 fF_5_48 (af_K hb0 hk0) (by decide) rfl ?_
                            subst h
                            exact w_ireturn (by decide +kernel) (w_okI (by decide +kernel))
                          · rw [if_neg c13] at h
                            refine w_tsw (n := 133) (d := 132) (lo := 0) (hi := 12) (offs := #[67, 72, 77, 82, 87, 92, 97, 102, 107, 112, 117, 122, 127]) (o := 132) (by decide +kernel) (w_swd (by intro j h1 h2; rcases (show j = 0 ∨ j = 1 ∨ j = 2 ∨ j = 3 ∨ j = 4 ∨ j = 5 ∨ j = 6 ∨ j = 7 ∨ j = 8 ∨ j = 9 ∨ j = 10 ∨ j = 11 ∨ j = 12 by omega) with rfl | rfl | rfl | rfl | rfl | rfl | rfl | rfl | rfl | rfl | rfl | rfl | rfl; all_goals first | exact fun e => c1 (e.trans (by decide)) | exact fun e => c2 (e.trans (by decide)) | exact fun e => c3 (e.trans (by decide)) | exact fun e => c4 (e.trans (by decide)) | exact fun e => c5 (e.trans (by decide)) | exact fun e => c6 (e.trans (by decide)) | exact fun e => c7 (e.trans (by decide)) | exact fun e => c8 (e.trans (by decide)) | exact fun e => c9 (e.trans (by decide)) | exact fun e => c10 (e.trans (by decide)) | exact fun e => c11 (e.trans (by decide)) | exact fun e => c12 (e.trans (by decide)) | exact fun e => c13 (e.trans (by decide)))) (by decide) ?_
                            refine w_aload_n (n := 134) (i := 0) (by decide +kernel) rfl rfl ?_
                            refine w_getI (n := 137) hL (by decide +kernel) oO_39 fF_5_51 (af_K hb0 hk0) (by decide) rfl ?_
                            subst h
                            exact w_ireturn (by decide +kernel) (w_okI (by decide +kernel))
theorem t_41 {X : ak_X} {M : ak_M} {r : ak_O × ak_M} (hL : ab_lay M) {b0 : Nat} (hb0 : b0 ∈ ab_fb) {k0 : Nat} (hk0 : k0 < 10) (x1 : Int32) (x2 : Int32) (x3 : Int32) (h : (∀ z1 : Int32, z1 = x1 - (ak_I M (b0 + 6 + k0) 1) → (∀ z2 : Int32, z2 = x2 - (ak_I M (b0 + 6 + k0) 2) → (∀ z3 : Int32, z3 = x3 - (ak_I M (b0 + 6 + k0) 3) → (∀ z4 : Int32, z4 = ((z1 * z1) + (z2 * z2)) + (z3 * z3) → sg X 41 (51, [some (.ref (b0 + 6 + k0)), some (.int x1), some (.int x2), some (.int x3), some (.int z1), some (.int z2), some (.int z3), some (.int z4), some (.int 0), some (.int 256)], [], []) M r))))) : rn X 41 [.ref (b0 + 6 + k0), .int x1, .int x2, .int x3] M r := by
  refine w_rn (nL := 10) (l1 := [some (.ref (b0 + 6 + k0)), some (.int x1), some (.int x2), some (.int x3), none, none, none, none, none, none]) (by decide +kernel) rfl rfl ?_
  refine w_iload_n (n := 1) (i := 1) (by decide +kernel) rfl rfl ?_
  refine w_aload_n (n := 2) (i := 0) (by decide +kernel) rfl rfl ?_
  refine w_getI (n := 5) hL (by decide +kernel) oO_41 fF_5_15 (af_K hb0 hk0) (by decide) rfl ?_
  refine w_isub (n := 6) (by decide +kernel) rfl ?_
  refine w_istore (n := 8) (i := 4) (l1' := [some (.ref (b0 + 6 + k0)), some (.int x1), some (.int x2), some (.int x3), some (.int (x1 - (ak_I M (b0 + 6 + k0) 1))), none, none, none, none, none]) (l2' := []) (by decide +kernel) rfl (Nat.le_of_ble_eq_true rfl) rfl rfl ?_
  generalize ez1 : x1 - (ak_I M (b0 + 6 + k0) 1) = z1
  replace h := h z1 ez1.symm
  refine w_iload_n (n := 9) (i := 2) (by decide +kernel) rfl rfl ?_
  refine w_aload_n (n := 10) (i := 0) (by decide +kernel) rfl rfl ?_
  refine w_getI (n := 13) hL (by decide +kernel) oO_41 fF_5_18 (af_K hb0 hk0) (by decide) rfl ?_
  refine w_isub (n := 14) (by decide +kernel) rfl ?_
  refine w_istore (n := 16) (i := 5) (l1' := [some (.ref (b0 + 6 + k0)), some (.int x1), some (.int x2), some (.int x3), some (.int z1), some (.int (x2 - (ak_I M (b0 + 6 + k0) 2))), none, none, none, none]) (l2' := []) (by decide +kernel) rfl (Nat.le_of_ble_eq_true rfl) rfl rfl ?_
  generalize ez2 : x2 - (ak_I M (b0 + 6 + k0) 2) = z2
  replace h := h z2 ez2.symm
  refine w_iload_n (n := 17) (i := 3) (by decide +kernel) rfl rfl ?_
  refine w_aload_n (n := 18) (i := 0) (by decide +kernel) rfl rfl ?_
  refine w_getI (n := 21) hL (by decide +kernel) oO_41 fF_5_21 (af_K hb0 hk0) (by decide) rfl ?_
  refine w_isub (n := 22) (by decide +kernel) rfl ?_
  refine w_istore (n := 24) (i := 6) (l1' := [some (.ref (b0 + 6 + k0)), some (.int x1), some (.int x2), some (.int x3), some (.int z1), some (.int z2), some (.int (x3 - (ak_I M (b0 + 6 + k0) 3))), none, none, none]) (l2' := []) (by decide +kernel) rfl (Nat.le_of_ble_eq_true rfl) rfl rfl ?_
  generalize ez3 : x3 - (ak_I M (b0 + 6 + k0) 3) = z3
  replace h := h z3 ez3.symm
  refine w_iload (n := 26) (i := 4) (by decide +kernel) rfl rfl ?_
  refine w_iload (n := 28) (i := 4) (by decide +kernel) rfl rfl ?_
  refine w_imul (n := 29) (by decide +kernel) rfl ?_
  refine w_iload (n := 31) (i := 5) (by decide +kernel) rfl rfl ?_
  refine w_iload (n := 33) (i := 5) (by decide +kernel) rfl rfl ?_
  refine w_imul (n := 34) (by decide +kernel) rfl ?_
  refine w_iadd (n := 35) (by decide +kernel) rfl ?_
  refine w_iload (n := 37) (i := 6) (by decide +kernel) rfl rfl ?_
  refine w_iload (n := 39) (i := 6) (by decide +kernel) rfl rfl ?_
  refine w_imul (n := 40) (by decide +kernel) rfl ?_
  refine w_iadd (n := 41) (by decide +kernel) rfl ?_
  refine w_istore (n := 43) (i := 7) (l1' := [some (.ref (b0 + 6 + k0)), some (.int x1), some (.int x2), some (.int x3), some (.int z1), some (.int z2), some (.int z3), some (.int (((z1 * z1) + (z2 * z2)) + (z3 * z3))), none, none]) (l2' := []) (by decide +kernel) rfl (Nat.le_of_ble_eq_true rfl) rfl rfl ?_
  generalize ez4 : ((z1 * z1) + (z2 * z2)) + (z3 * z3) = z4
  replace h := h z4 ez4.symm
  refine w_iconst (n := 44) (v := 0) (x := 0) (by decide +kernel) rfl (by decide) ?_
  refine w_istore (n := 46) (i := 8) (l1' := [some (.ref (b0 + 6 + k0)), some (.int x1), some (.int x2), some (.int x3), some (.int z1), some (.int z2), some (.int z3), some (.int z4), some (.int 0), none]) (l2' := []) (by decide +kernel) rfl (Nat.le_of_ble_eq_true rfl) rfl rfl ?_
  refine w_sipush (n := 49) (v := 256) (x := 256) (by decide +kernel) rfl (by decide) ?_
  refine w_istore (n := 51) (i := 9) (l1' := [some (.ref (b0 + 6 + k0)), some (.int x1), some (.int x2), some (.int x3), some (.int z1), some (.int z2), some (.int z3), some (.int z4), some (.int 0), some (.int 256)]) (l2' := []) (by decide +kernel) rfl (Nat.le_of_ble_eq_true rfl) rfl rfl ?_
  exact h
theorem t_41_51 {X : ak_X} {M : ak_M} {r : ak_O × ak_M} (hL : ab_lay M) {b0 : Nat} (hb0 : b0 ∈ ab_fb) {k0 : Nat} (hk0 : k0 < 10) (x1 : Int32) (x2 : Int32) (x3 : Int32) (o0 : Option Value) (o1 : Option Value) (o2 : Option Value) (o3 : Option Value) (o4 : Option Value) (o5 : Option Value) (o6 : Option Value) (y7 : Int32) (y8 : Int32) (y9 : Int32) (h : (if y9 ≤ 0 then r = (.inl (some (.int y8)), M) else (if y7 < (y8 + y9) * (y8 + y9) then sg X 41 (51, [o0, o1, o2, o3, o4, o5, o6, some (.int y7), some (.int y8), some (.int (y9 >>> (1 &&& 31)))], [], []) M r else sg X 41 (51, [o0, o1, o2, o3, o4, o5, o6, some (.int y7), some (.int (y8 + y9)), some (.int (y9 >>> (1 &&& 31)))], [], []) M r))) : sg X 41 (51, [o0, o1, o2, o3, o4, o5, o6, some (.int y7), some (.int y8), some (.int y9)], [], []) M r := by
  refine w_iload (n := 53) (i := 9) (by decide +kernel) rfl rfl ?_
  by_cases c6 : y9 ≤ 0
  · rw [if_pos c6] at h
    refine w_if_le_j (n := 88) (off := 35) (by decide +kernel) (by decide) c6 ?_
    refine w_iload (n := 90) (i := 8) (by decide +kernel) rfl rfl ?_
    subst h
    exact w_ireturn (by decide +kernel) (w_okI (by decide +kernel))
  · rw [if_neg c6] at h
    refine w_if_le_n (n := 56) (off := 35) (by decide +kernel) rfl c6 ?_
    refine w_iload (n := 58) (i := 8) (by decide +kernel) rfl rfl ?_
    refine w_iload (n := 60) (i := 9) (by decide +kernel) rfl rfl ?_
    refine w_iadd (n := 61) (by decide +kernel) rfl ?_
    refine w_iload (n := 63) (i := 8) (by decide +kernel) rfl rfl ?_
    refine w_iload (n := 65) (i := 9) (by decide +kernel) rfl rfl ?_
    refine w_iadd (n := 66) (by decide +kernel) rfl ?_
    refine w_imul (n := 67) (by decide +kernel) rfl ?_
    refine w_iload (n := 69) (i := 7) (by decide +kernel) rfl rfl ?_
    by_cases c5 : y7 < (y8 + y9) * (y8 + y9)
    · rw [if_pos c5] at h
      refine w_icmp_gt_j (n := 79) (off := 10) (by decide +kernel) (by decide) c5 ?_
      refine w_iload (n := 81) (i := 9) (by decide +kernel) rfl rfl ?_
      refine w_iconst (n := 82) (v := 1) (x := 1) (by decide +kernel) rfl (by decide) ?_
      refine w_ishr (n := 83) (by decide +kernel) rfl ?_
      refine w_istore (n := 85) (i := 9) (l1' := [o0, o1, o2, o3, o4, o5, o6, some (.int y7), some (.int y8), some (.int (y9 >>> (1 &&& 31)))]) (l2' := []) (by decide +kernel) rfl (Nat.le_of_ble_eq_true rfl) rfl rfl ?_
      refine w_goto (n := 51) (off := (-34)) (by decide +kernel) (by decide) ?_
      exact h
    · rw [if_neg c5] at h
      refine w_icmp_gt_n (n := 72) (off := 10) (by decide +kernel) rfl c5 ?_
      refine w_iload (n := 74) (i := 8) (by decide +kernel) rfl rfl ?_
      refine w_iload (n := 76) (i := 9) (by decide +kernel) rfl rfl ?_
      refine w_iadd (n := 77) (by decide +kernel) rfl ?_
      refine w_istore (n := 79) (i := 8) (l1' := [o0, o1, o2, o3, o4, o5, o6, some (.int y7), some (.int (y8 + y9)), some (.int y9)]) (l2' := []) (by decide +kernel) rfl (Nat.le_of_ble_eq_true rfl) rfl rfl ?_
      refine w_iload (n := 81) (i := 9) (by decide +kernel) rfl rfl ?_
      refine w_iconst (n := 82) (v := 1) (x := 1) (by decide +kernel) rfl (by decide) ?_
      refine w_ishr (n := 83) (by decide +kernel) rfl ?_
      refine w_istore (n := 85) (i := 9) (l1' := [o0, o1, o2, o3, o4, o5, o6, some (.int y7), some (.int (y8 + y9)), some (.int (y9 >>> (1 &&& 31)))]) (l2' := []) (by decide +kernel) rfl (Nat.le_of_ble_eq_true rfl) rfl rfl ?_
      refine w_goto (n := 51) (off := (-34)) (by decide +kernel) (by decide) ?_
      exact h
theorem t_42 {X : ak_X} {M : ak_M} {r : ak_O × ak_M} (hL : ab_lay M) {b0 : Nat} (hb0 : b0 ∈ ab_fb) {k0 : Nat} (hk0 : k0 < 10) (h : (∃ (v2 : Int32) (M1 : ak_M), ab_lay M1 ∧ rn X 41 [.ref (b0 + 6 + k0), .int (ak_I M (b0 + 6 + k0) 4), .int (ak_I M (b0 + 6 + k0) 5), .int 0] M (.inl (some (.int v2)), M1) ∧ r = (.inl (some (.int v2)), M1))) : rn X 42 [.ref (b0 + 6 + k0)] M r := by
  refine w_rn (nL := 1) (l1 := [some (.ref (b0 + 6 + k0))]) (by decide +kernel) rfl rfl ?_
  refine w_aload_n (n := 1) (i := 0) (by decide +kernel) rfl rfl ?_
  refine w_aload_n (n := 2) (i := 0) (by decide +kernel) rfl rfl ?_
  refine w_getI (n := 5) hL (by decide +kernel) oO_42 fF_5_24 (af_K hb0 hk0) (by decide) rfl ?_
  refine w_aload_n (n := 6) (i := 0) (by decide +kernel) rfl rfl ?_
  refine w_getI (n := 9) hL (by decide +kernel) oO_42 fF_5_27 (af_K hb0 hk0) (by decide) rfl ?_
  refine w_iconst (n := 10) (v := 0) (x := 0) (by decide +kernel) rfl (by decide) ?_
  obtain ⟨v2, M1, hLM1, hr3, h⟩ := h
  refine w_cV (n := 13) (idx := 57) (cal := 41) (na := 3) (nl := 4) (as := [.int (ak_I M (b0 + 6 + k0) 4), .int (ak_I M (b0 + 6 + k0) 5), .int 0]) (rest := []) hL (by decide +kernel) (by decide +kernel) (af_K hb0 hk0) (by decide +kernel) rfl rfl rfl (Nat.le_of_ble_eq_true rfl) rfl hr3 ?_
  subst h
  exact w_ireturn (by decide +kernel) (w_okI (by decide +kernel))
theorem t_43 {X : ak_X} {M : ak_M} {r : ak_O × ak_M} (hL : ab_lay M) {b0 : Nat} (hb0 : b0 ∈ ab_fb) {k0 : Nat} (hk0 : k0 < 10) (h : (∃ (v2 : Int32) (M1 : ak_M), ab_lay M1 ∧ rn X 41 [.ref (b0 + 6 + k0), .int (ak_I M (b0 + 6 + k0) 4), .int (ak_I M (b0 + 6 + k0) 5), .int 0] M (.inl (some (.int v2)), M1) ∧ r = (.inl (some (.int ((ak_I M (b0 + 6 + k0) 6) - v2))), M1))) : rn X 43 [.ref (b0 + 6 + k0)] M r := by
  refine w_rn (nL := 1) (l1 := [some (.ref (b0 + 6 + k0))]) (by decide +kernel) rfl rfl ?_
  refine w_aload_n (n := 1) (i := 0) (by decide +kernel) rfl rfl ?_
  refine w_getI (n := 4) hL (by decide +kernel) oO_43 fF_5_30 (af_K hb0 hk0) (by decide) rfl ?_
  refine w_aload_n (n := 5) (i := 0) (by decide +kernel) rfl rfl ?_
  refine w_aload_n (n := 6) (i := 0) (by decide +kernel) rfl rfl ?_
  refine w_getI (n := 9) hL (by decide +kernel) oO_43 fF_5_24 (af_K hb0 hk0) (by decide) rfl ?_
  refine w_aload_n (n := 10) (i := 0) (by decide +kernel) rfl rfl ?_
  refine w_getI (n := 13) hL (by decide +kernel) oO_43 fF_5_27 (af_K hb0 hk0) (by decide) rfl ?_
  refine w_iconst (n := 14) (v := 0) (x := 0) (by decide +kernel) rfl (by decide) ?_
  obtain ⟨v2, M1, hLM1, hr3, h⟩ := h
  refine w_cV (n := 17) (idx := 57) (cal := 41) (na := 3) (nl := 4) (as := [.int (ak_I M (b0 + 6 + k0) 4), .int (ak_I M (b0 + 6 + k0) 5), .int 0]) (rest := [.int (ak_I M (b0 + 6 + k0) 6)]) hL (by decide +kernel) (by decide +kernel) (af_K hb0 hk0) (by decide +kernel) rfl rfl rfl (Nat.le_of_ble_eq_true rfl) rfl hr3 ?_
  refine w_isub (n := 18) (by decide +kernel) rfl ?_
  subst h
  exact w_ireturn (by decide +kernel) (w_okI (by decide +kernel))
theorem t_44 {X : ak_X} {M : ak_M} {r : ak_O × ak_M} (hL : ab_lay M) {b0 : Nat} (hb0 : b0 ∈ ab_fb) {k0 : Nat} (hk0 : k0 < 10) (h : (∃ (v2 : Int32) (M1 : ak_M), ab_lay M1 ∧ rn X 314 [.int (ak_I M (b0 + 6 + k0) 7)] M (.inl (some (.int v2)), M1) ∧ r = (.inl (some (.int ((ak_I M (b0 + 6 + k0) 8) * (1 + v2)))), M1))) : rn X 44 [.ref (b0 + 6 + k0)] M r := by
  refine w_rn (nL := 1) (l1 := [some (.ref (b0 + 6 + k0))]) (by decide +kernel) rfl rfl ?_
  refine w_aload_n (n := 1) (i := 0) (by decide +kernel) rfl rfl ?_
  refine w_getI (n := 4) hL (by decide +kernel) oO_44 fF_5_36 (af_K hb0 hk0) (by decide) rfl ?_
  refine w_iconst (n := 5) (v := 1) (x := 1) (by decide +kernel) rfl (by decide) ?_
  refine w_aload_n (n := 6) (i := 0) (by decide +kernel) rfl rfl ?_
  refine w_getI (n := 9) hL (by decide +kernel) oO_44 fF_5_33 (af_K hb0 hk0) (by decide) rfl ?_
  obtain ⟨v2, M1, hLM1, hr3, h⟩ := h
  refine w_cS (n := 12) (idx := 61) (cal := 314) (na := 1) (nl := 1) (as := [.int (ak_I M (b0 + 6 + k0) 7)]) (rest := [.int 1, .int (ak_I M (b0 + 6 + k0) 8)]) (by decide +kernel) (by decide +kernel) rfl rfl rfl (Nat.le_of_ble_eq_true rfl) rfl hr3 ?_
  refine w_iadd (n := 13) (by decide +kernel) rfl ?_
  refine w_imul (n := 14) (by decide +kernel) rfl ?_
  subst h
  exact w_ireturn (by decide +kernel) (w_okI (by decide +kernel))
theorem t_45 {X : ak_X} {M : ak_M} {r : ak_O × ak_M} (hL : ab_lay M) {b0 : Nat} (hb0 : b0 ∈ ab_fb) {k0 : Nat} (hk0 : k0 < 10) {b1 : Nat} (hb1 : b1 ∈ ab_fb) {k1 : Nat} (hk1 : k1 < 4) (h : (∃ (v2 : Int32) (M1 : ak_M), ab_lay M1 ∧ rn X 152 [.int ((ak_I M (b0 + 6 + k0) 1) + (ak_I M (b1 + 16 + k1) 1)), .int 0, .int 199] M (.inl (some (.int v2)), M1) ∧ (∀ M3 : ak_M, M3 = ak_sI M1 (b0 + 6 + k0) 1 v2 → (∃ (v5 : Int32) (M4 : ak_M), ab_lay M4 ∧ rn X 152 [.int ((ak_I M3 (b0 + 6 + k0) 2) + (ak_I M3 (b1 + 16 + k1) 2)), .int 0, .int 199] M3 (.inl (some (.int v5)), M4) ∧ (∀ M6 : ak_M, M6 = ak_sI M4 (b0 + 6 + k0) 2 v5 → r = (.inl none, M6)))))) : rn X 45 [.ref (b0 + 6 + k0), .ref (b1 + 16 + k1)] M r := by
  refine w_rn (nL := 2) (l1 := [some (.ref (b0 + 6 + k0)), some (.ref (b1 + 16 + k1))]) (by decide +kernel) rfl rfl ?_
  refine w_aload_n (n := 1) (i := 0) (by decide +kernel) rfl rfl ?_
  refine w_aload_n (n := 2) (i := 0) (by decide +kernel) rfl rfl ?_
  refine w_getI (n := 5) hL (by decide +kernel) oO_45 fF_5_15 (af_K hb0 hk0) (by decide) rfl ?_
  refine w_aload_n (n := 6) (i := 1) (by decide +kernel) rfl rfl ?_
  refine w_getI (n := 9) hL (by decide +kernel) oO_45 fF_5_67 (af_W hb1 hk1) (by decide) rfl ?_
  refine w_iadd (n := 10) (by decide +kernel) rfl ?_
  refine w_iconst (n := 11) (v := 0) (x := 0) (by decide +kernel) rfl (by decide) ?_
  refine w_sipush (n := 14) (v := 199) (x := 199) (by decide +kernel) rfl (by decide) ?_
  obtain ⟨v2, M1, hLM1, hr8, h⟩ := h
  refine w_cS (n := 17) (idx := 70) (cal := 152) (na := 3) (nl := 3) (as := [.int ((ak_I M (b0 + 6 + k0) 1) + (ak_I M (b1 + 16 + k1) 1)), .int 0, .int 199]) (rest := [.ref (b0 + 6 + k0)]) (by decide +kernel) (by decide +kernel) rfl rfl rfl (Nat.le_of_ble_eq_true rfl) rfl hr8 ?_
  refine w_putI (n := 20) hLM1 (by decide +kernel) oO_45 fF_5_15 (af_K hb0 hk0) ⟨by decide, Or.inl (by decide)⟩ rfl ?_
  generalize eM3 : ak_sI M1 (b0 + 6 + k0) 1 v2 = M3
  have hLM3 : ab_lay M3 := by rw [← eM3]; exact ab_lay.sI hLM1
  replace h := h M3 eM3.symm
  refine w_aload_n (n := 21) (i := 0) (by decide +kernel) rfl rfl ?_
  refine w_aload_n (n := 22) (i := 0) (by decide +kernel) rfl rfl ?_
  refine w_getI (n := 25) hLM3 (by decide +kernel) oO_45 fF_5_18 (af_K hb0 hk0) (by decide) rfl ?_
  refine w_aload_n (n := 26) (i := 1) (by decide +kernel) rfl rfl ?_
  refine w_getI (n := 29) hLM3 (by decide +kernel) oO_45 fF_5_73 (af_W hb1 hk1) (by decide) rfl ?_
  refine w_iadd (n := 30) (by decide +kernel) rfl ?_
  refine w_iconst (n := 31) (v := 0) (x := 0) (by decide +kernel) rfl (by decide) ?_
  refine w_sipush (n := 34) (v := 199) (x := 199) (by decide +kernel) rfl (by decide) ?_
  obtain ⟨v5, M4, hLM4, hr7, h⟩ := h
  refine w_cS (n := 37) (idx := 70) (cal := 152) (na := 3) (nl := 3) (as := [.int ((ak_I M3 (b0 + 6 + k0) 2) + (ak_I M3 (b1 + 16 + k1) 2)), .int 0, .int 199]) (rest := [.ref (b0 + 6 + k0)]) (by decide +kernel) (by decide +kernel) rfl rfl rfl (Nat.le_of_ble_eq_true rfl) rfl hr7 ?_
  refine w_putI (n := 40) hLM4 (by decide +kernel) oO_45 fF_5_18 (af_K hb0 hk0) ⟨by decide, Or.inl (by decide)⟩ rfl ?_
  generalize eM6 : ak_sI M4 (b0 + 6 + k0) 2 v5 = M6
  have hLM6 : ab_lay M6 := by rw [← eM6]; exact ab_lay.sI hLM4
  replace h := h M6 eM6.symm
  subst h
  exact w_vreturn (by decide +kernel) (by decide +kernel)
theorem t_46 {X : ak_X} {M : ak_M} {r : ak_O × ak_M} (hL : ab_lay M) {b0 : Nat} (hb0 : b0 ∈ ab_fb) {k0 : Nat} (hk0 : k0 < 10) (h : sg X 46 (2, [some (.ref (b0 + 6 + k0)), some (.int 0), none, none], [], []) M r) : rn X 46 [.ref (b0 + 6 + k0)] M r := by
  refine w_rn (nL := 4) (l1 := [some (.ref (b0 + 6 + k0)), none, none, none]) (by decide +kernel) rfl rfl ?_
  refine w_iconst (n := 1) (v := 0) (x := 0) (by decide +kernel) rfl (by decide) ?_
  refine w_istore_n (n := 2) (i := 1) (l1' := [some (.ref (b0 + 6 + k0)), some (.int 0), none, none]) (l2' := []) (by decide +kernel) rfl (Nat.le_of_ble_eq_true rfl) rfl rfl ?_
  exact h
theorem t_46_2 {X : ak_X} {M : ak_M} {r : ak_O × ak_M} (hL : ab_lay M) {b0 : Nat} (hb0 : b0 ∈ ab_fb) {k0 : Nat} (hk0 : k0 < 10) (y1 : Int32) (o2 : Option Value) (o3 : Option Value) (h : (if 1000 ≤ y1 then r = (.inl none, M) else (∃ (v2 : Int32) (M1 : ak_M), ab_lay M1 ∧ rn X 314 [.int ((ak_I M (b0 + 6 + k0) 1) - (ak_I M (b0 + 6 + k0) 4))] M (.inl (some (.int v2)), M1) ∧ (∃ (v4 : Int32) (M3 : ak_M), ab_lay M3 ∧ rn X 314 [.int ((ak_I M1 (b0 + 6 + k0) 2) - (ak_I M1 (b0 + 6 + k0) 5))] M1 (.inl (some (.int v4)), M3) ∧ (if ((ak_I M3 (b0 + 6 + k0) 6) + 1) * ((ak_I M3 (b0 + 6 + k0) 6) + 1) ≤ ((v2 * v2) + (v4 * v4)) + ((ak_I M3 (b0 + 6 + k0) 3) * (ak_I M3 (b0 + 6 + k0) 3)) then (if ak_I M3 (b0 + 6 + k0) 3 < v2 then (if v2 < v4 then (if ak_I M3 (b0 + 6 + k0) 2 ≤ ak_I M3 (b0 + 6 + k0) 5 then (∀ M5 : ak_M, M5 = ak_sI M3 (b0 + 6 + k0) 2 ((ak_I M3 (b0 + 6 + k0) 2) + 1) → sg X 46 (2, [some (.ref (b0 + 6 + k0)), some (.int (y1 + 1)), some (.int v2), some (.int v4)], [], []) M5 r) else (∀ M6 : ak_M, M6 = ak_sI M3 (b0 + 6 + k0) 2 ((ak_I M3 (b0 + 6 + k0) 2) + ((-1))) → sg X 46 (2, [some (.ref (b0 + 6 + k0)), some (.int (y1 + 1)), some (.int v2), some (.int v4)], [], []) M6 r)) else (if ak_I M3 (b0 + 6 + k0) 1 ≤ ak_I M3 (b0 + 6 + k0) 4 then (∀ M8 : ak_M, M8 = ak_sI M3 (b0 + 6 + k0) 1 ((ak_I M3 (b0 + 6 + k0) 1) + 1) → sg X 46 (2, [some (.ref (b0 + 6 + k0)), some (.int (y1 + 1)), some (.int v2), some (.int v4)], [], []) M8 r) else (∀ M9 : ak_M, M9 = ak_sI M3 (b0 + 6 + k0) 1 ((ak_I M3 (b0 + 6 + k0) 1) + ((-1))) → sg X 46 (2, [some (.ref (b0 + 6 + k0)), some (.int (y1 + 1)), some (.int v2), some (.int v4)], [], []) M9 r))) else (if ak_I M3 (b0 + 6 + k0) 3 < v4 then (if v2 < v4 then (if ak_I M3 (b0 + 6 + k0) 2 ≤ ak_I M3 (b0 + 6 + k0) 5 then (∀ M12 : ak_M, M12 = ak_sI M3 (b0 + 6 + k0) 2 ((ak_I M3 (b0 + 6 + k0) 2) + 1) → sg X 46 (2, [some (.ref (b0 + 6 + k0)), some (.int (y1 + 1)), some (.int v2), some (.int v4)], [], []) M12 r) else (∀ M13 : ak_M, M13 = ak_sI M3 (b0 + 6 + k0) 2 ((ak_I M3 (b0 + 6 + k0) 2) + ((-1))) → sg X 46 (2, [some (.ref (b0 + 6 + k0)), some (.int (y1 + 1)), some (.int v2), some (.int v4)], [], []) M13 r)) else (if ak_I M3 (b0 + 6 + k0) 1 ≤ ak_I M3 (b0 + 6 + k0) 4 then (∀ M15 : ak_M, M15 = ak_sI M3 (b0 + 6 + k0) 1 ((ak_I M3 (b0 + 6 + k0) 1) + 1) → sg X 46 (2, [some (.ref (b0 + 6 + k0)), some (.int (y1 + 1)), some (.int v2), some (.int v4)], [], []) M15 r) else (∀ M16 : ak_M, M16 = ak_sI M3 (b0 + 6 + k0) 1 ((ak_I M3 (b0 + 6 + k0) 1) + ((-1))) → sg X 46 (2, [some (.ref (b0 + 6 + k0)), some (.int (y1 + 1)), some (.int v2), some (.int v4)], [], []) M16 r))) else (∀ M19 : ak_M, M19 = ak_sI M3 (b0 + 6 + k0) 3 ((ak_I M3 (b0 + 6 + k0) 3) - 1) → sg X 46 (2, [some (.ref (b0 + 6 + k0)), some (.int (y1 + 1)), some (.int v2), some (.int v4)], [], []) M19 r))) else r = (.inl none, M3)))))) : sg X 46 (2, [some (.ref (b0 + 6 + k0)), some (.int y1), o2, o3], [], []) M r := by
  refine w_iload_n (n := 3) (i := 1) (by decide +kernel) rfl rfl ?_
  refine w_sipush (n := 6) (v := 1000) (x := 1000) (by decide +kernel) rfl (by decide) ?_
  by_cases c25 : 1000 ≤ y1
  · rw [if_pos c25] at h
    refine w_icmp_ge_j (n := 162) (off := 156) (by decide +kernel) (by decide) c25 ?_
    subst h
    exact w_vreturn (by decide +kernel) (by decide +kernel)
  · rw [if_neg c25] at h
    refine w_icmp_ge_n (n := 9) (off := 156) (by decide +kernel) rfl c25 ?_
    refine w_aload_n (n := 10) (i := 0) (by decide +kernel) rfl rfl ?_
    refine w_getI (n := 13) hL (by decide +kernel) oO_46 fF_5_15 (af_K hb0 hk0) (by decide) rfl ?_
    refine w_aload_n (n := 14) (i := 0) (by decide +kernel) rfl rfl ?_
    refine w_getI (n := 17) hL (by decide +kernel) oO_46 fF_5_24 (af_K hb0 hk0) (by decide) rfl ?_
    refine w_isub (n := 18) (by decide +kernel) rfl ?_
    obtain ⟨v2, M1, hLM1, hr24, h⟩ := h
    refine w_cS (n := 21) (idx := 61) (cal := 314) (na := 1) (nl := 1) (as := [.int ((ak_I M (b0 + 6 + k0) 1) - (ak_I M (b0 + 6 + k0) 4))]) (rest := []) (by decide +kernel) (by decide +kernel) rfl rfl rfl (Nat.le_of_ble_eq_true rfl) rfl hr24 ?_
    refine w_istore_n (n := 22) (i := 2) (l1' := [some (.ref (b0 + 6 + k0)), some (.int y1), some (.int v2), o3]) (l2' := []) (by decide +kernel) rfl (Nat.le_of_ble_eq_true rfl) rfl rfl ?_
    refine w_aload_n (n := 23) (i := 0) (by decide +kernel) rfl rfl ?_
    refine w_getI (n := 26) hLM1 (by decide +kernel) oO_46 fF_5_18 (af_K hb0 hk0) (by decide) rfl ?_
    refine w_aload_n (n := 27) (i := 0) (by decide +kernel) rfl rfl ?_
    refine w_getI (n := 30) hLM1 (by decide +kernel) oO_46 fF_5_27 (af_K hb0 hk0) (by decide) rfl ?_
    refine w_isub (n := 31) (by decide +kernel) rfl ?_
    obtain ⟨v4, M3, hLM3, hr23, h⟩ := h
    refine w_cS (n := 34) (idx := 61) (cal := 314) (na := 1) (nl := 1) (as := [.int ((ak_I M1 (b0 + 6 + k0) 2) - (ak_I M1 (b0 + 6 + k0) 5))]) (rest := []) (by decide +kernel) (by decide +kernel) rfl rfl rfl (Nat.le_of_ble_eq_true rfl) rfl hr23 ?_
    refine w_istore_n (n := 35) (i := 3) (l1' := [some (.ref (b0 + 6 + k0)), some (.int y1), some (.int v2), some (.int v4)]) (l2' := []) (by decide +kernel) rfl (Nat.le_of_ble_eq_true rfl) rfl rfl ?_
    refine w_iload_n (n := 36) (i := 2) (by decide +kernel) rfl rfl ?_
    refine w_iload_n (n := 37) (i := 2) (by decide +kernel) rfl rfl ?_
    refine w_imul (n := 38) (by decide +kernel) rfl ?_
    refine w_iload_n (n := 39) (i := 3) (by decide +kernel) rfl rfl ?_
    refine w_iload_n (n := 40) (i := 3) (by decide +kernel) rfl rfl ?_
    refine w_imul (n := 41) (by decide +kernel) rfl ?_
    refine w_iadd (n := 42) (by decide +kernel) rfl ?_
    refine w_aload_n (n := 43) (i := 0) (by decide +kernel) rfl rfl ?_
    refine w_getI (n := 46) hLM3 (by decide +kernel) oO_46 fF_5_21 (af_K hb0 hk0) (by decide) rfl ?_
    refine w_aload_n (n := 47) (i := 0) (by decide +kernel) rfl rfl ?_
    refine w_getI (n := 50) hLM3 (by decide +kernel) oO_46 fF_5_21 (af_K hb0 hk0) (by decide) rfl ?_
    refine w_imul (n := 51) (by decide +kernel) rfl ?_
    refine w_iadd (n := 52) (by decide +kernel) rfl ?_
    refine w_aload_n (n := 53) (i := 0) (by decide +kernel) rfl rfl ?_
    refine w_getI (n := 56) hLM3 (by decide +kernel) oO_46 fF_5_30 (af_K hb0 hk0) (by decide) rfl ?_
    refine w_iconst (n := 57) (v := 1) (x := 1) (by decide +kernel) rfl (by decide) ?_
    refine w_iadd (n := 58) (by decide +kernel) rfl ?_
    refine w_aload_n (n := 59) (i := 0) (by decide +kernel) rfl rfl ?_
    refine w_getI (n := 62) hLM3 (by decide +kernel) oO_46 fF_5_30 (af_K hb0 hk0) (by decide) rfl ?_
    refine w_iconst (n := 63) (v := 1) (x := 1) (by decide +kernel) rfl (by decide) ?_
    refine w_iadd (n := 64) (by decide +kernel) rfl ?_
    refine w_imul (n := 65) (by decide +kernel) rfl ?_
    by_cases c22 : ((ak_I M3 (b0 + 6 + k0) 6) + 1) * ((ak_I M3 (b0 + 6 + k0) 6) + 1) ≤ ((v2 * v2) + (v4 * v4)) + ((ak_I M3 (b0 + 6 + k0) 3) * (ak_I M3 (b0 + 6 + k0) 3))
    · rw [if_pos c22] at h
      refine w_icmp_ge_j (n := 69) (off := 4) (by decide +kernel) (by decide) c22 ?_
      refine w_aload_n (n := 70) (i := 0) (by decide +kernel) rfl rfl ?_
      refine w_getI (n := 73) hLM3 (by decide +kernel) oO_46 fF_5_21 (af_K hb0 hk0) (by decide) rfl ?_
      refine w_iload_n (n := 74) (i := 2) (by decide +kernel) rfl rfl ?_
      by_cases c21 : ak_I M3 (b0 + 6 + k0) 3 < v2
      · rw [if_pos c21] at h
        refine w_icmp_lt_j (n := 98) (off := 24) (by decide +kernel) (by decide) c21 ?_
        refine w_iload_n (n := 99) (i := 2) (by decide +kernel) rfl rfl ?_
        refine w_iload_n (n := 100) (i := 3) (by decide +kernel) rfl rfl ?_
        by_cases c11 : v2 < v4
        · rw [if_pos c11] at h
          refine w_icmp_lt_j (n := 131) (off := 31) (by decide +kernel) (by decide) c11 ?_
          refine w_aload_n (n := 132) (i := 0) (by decide +kernel) rfl rfl ?_
          refine w_dup_ref (n := 133) (by decide +kernel) rfl ?_
          refine w_getI (n := 136) hLM3 (by decide +kernel) oO_46 fF_5_18 (af_K hb0 hk0) (by decide) rfl ?_
          refine w_aload_n (n := 137) (i := 0) (by decide +kernel) rfl rfl ?_
          refine w_getI (n := 140) hLM3 (by decide +kernel) oO_46 fF_5_18 (af_K hb0 hk0) (by decide) rfl ?_
          refine w_aload_n (n := 141) (i := 0) (by decide +kernel) rfl rfl ?_
          refine w_getI (n := 144) hLM3 (by decide +kernel) oO_46 fF_5_27 (af_K hb0 hk0) (by decide) rfl ?_
          by_cases c7 : ak_I M3 (b0 + 6 + k0) 2 ≤ ak_I M3 (b0 + 6 + k0) 5
          · rw [if_pos c7] at h
            refine w_icmp_le_j (n := 151) (off := 7) (by decide +kernel) (by decide) c7 ?_
            refine w_iconst (n := 152) (v := 1) (x := 1) (by decide +kernel) rfl (by decide) ?_
            refine w_iadd (n := 153) (by decide +kernel) rfl ?_
            refine w_putI (n := 156) hLM3 (by decide +kernel) oO_46 fF_5_18 (af_K hb0 hk0) ⟨by decide, Or.inl (by decide)⟩ rfl ?_
            generalize eM5 : ak_sI M3 (b0 + 6 + k0) 2 ((ak_I M3 (b0 + 6 + k0) 2) + 1) = M5
            have hLM5 : ab_lay M5 := by rw [← eM5]; exact ab_lay.sI hLM3
            replace h := h M5 eM5.symm
            refine w_iinc (n := 159) (i := 1) (v := 1) (y := y1 + 1) (l1' := [some (.ref (b0 + 6 + k0)), some (.int (y1 + 1)), some (.int v2), some (.int v4)]) (l2' := []) (by decide +kernel) rfl rfl rfl rfl rfl ?_
            refine w_goto (n := 2) (off := (-157)) (by decide +kernel) (by decide) ?_
            exact h
          · rw [if_neg c7] at h
            refine w_icmp_le_n (n := 147) (off := 7) (by decide +kernel) rfl c7 ?_
            refine w_iconst (n := 148) (v := -1) (x := (-1)) (by decide +kernel) rfl (by decide) ?_
            refine w_goto (n := 152) (off := 4) (by decide +kernel) (by decide) ?_
            refine w_iadd (n := 153) (by decide +kernel) rfl ?_
            refine w_putI (n := 156) hLM3 (by decide +kernel) oO_46 fF_5_18 (af_K hb0 hk0) ⟨by decide, Or.inl (by decide)⟩ rfl ?_
            generalize eM6 : ak_sI M3 (b0 + 6 + k0) 2 ((ak_I M3 (b0 + 6 + k0) 2) + ((-1))) = M6
            have hLM6 : ab_lay M6 := by rw [← eM6]; exact ab_lay.sI hLM3
            replace h := h M6 eM6.symm
            refine w_iinc (n := 159) (i := 1) (v := 1) (y := y1 + 1) (l1' := [some (.ref (b0 + 6 + k0)), some (.int (y1 + 1)), some (.int v2), some (.int v4)]) (l2' := []) (by decide +kernel) rfl rfl rfl rfl rfl ?_
            refine w_goto (n := 2) (off := (-157)) (by decide +kernel) (by decide) ?_
            exact h
        · rw [if_neg c11] at h
          refine w_icmp_lt_n (n := 103) (off := 31) (by decide +kernel) rfl c11 ?_
          refine w_aload_n (n := 104) (i := 0) (by decide +kernel) rfl rfl ?_
          refine w_dup_ref (n := 105) (by decide +kernel) rfl ?_
          refine w_getI (n := 108) hLM3 (by decide +kernel) oO_46 fF_5_15 (af_K hb0 hk0) (by decide) rfl ?_
          refine w_aload_n (n := 109) (i := 0) (by decide +kernel) rfl rfl ?_
          refine w_getI (n := 112) hLM3 (by decide +kernel) oO_46 fF_5_15 (af_K hb0 hk0) (by decide) rfl ?_
          refine w_aload_n (n := 113) (i := 0) (by decide +kernel) rfl rfl ?_
          refine w_getI (n := 116) hLM3 (by decide +kernel) oO_46 fF_5_24 (af_K hb0 hk0) (by decide) rfl ?_
          by_cases c10 : ak_I M3 (b0 + 6 + k0) 1 ≤ ak_I M3 (b0 + 6 + k0) 4
          · rw [if_pos c10] at h
            refine w_icmp_le_j (n := 123) (off := 7) (by decide +kernel) (by decide) c10 ?_
            refine w_iconst (n := 124) (v := 1) (x := 1) (by decide +kernel) rfl (by decide) ?_
            refine w_iadd (n := 125) (by decide +kernel) rfl ?_
            refine w_putI (n := 128) hLM3 (by decide +kernel) oO_46 fF_5_15 (af_K hb0 hk0) ⟨by decide, Or.inl (by decide)⟩ rfl ?_
            generalize eM8 : ak_sI M3 (b0 + 6 + k0) 1 ((ak_I M3 (b0 + 6 + k0) 1) + 1) = M8
            have hLM8 : ab_lay M8 := by rw [← eM8]; exact ab_lay.sI hLM3
            replace h := h M8 eM8.symm
            refine w_goto (n := 156) (off := 28) (by decide +kernel) (by decide) ?_
            refine w_iinc (n := 159) (i := 1) (v := 1) (y := y1 + 1) (l1' := [some (.ref (b0 + 6 + k0)), some (.int (y1 + 1)), some (.int v2), some (.int v4)]) (l2' := []) (by decide +kernel) rfl rfl rfl rfl rfl ?_
            refine w_goto (n := 2) (off := (-157)) (by decide +kernel) (by decide) ?_
            exact h
          · rw [if_neg c10] at h
            refine w_icmp_le_n (n := 119) (off := 7) (by decide +kernel) rfl c10 ?_
            refine w_iconst (n := 120) (v := -1) (x := (-1)) (by decide +kernel) rfl (by decide) ?_
            refine w_goto (n := 124) (off := 4) (by decide +kernel) (by decide) ?_
            refine w_iadd (n := 125) (by decide +kernel) rfl ?_
            refine w_putI (n := 128) hLM3 (by decide +kernel) oO_46 fF_5_15 (af_K hb0 hk0) ⟨by decide, Or.inl (by decide)⟩ rfl ?_
            generalize eM9 : ak_sI M3 (b0 + 6 + k0) 1 ((ak_I M3 (b0 + 6 + k0) 1) + ((-1))) = M9
            have hLM9 : ab_lay M9 := by rw [← eM9]; exact ab_lay.sI hLM3
            replace h := h M9 eM9.symm
            refine w_goto (n := 156) (off := 28) (by decide +kernel) (by decide) ?_
            refine w_iinc (n := 159) (i := 1) (v := 1) (y := y1 + 1) (l1' := [some (.ref (b0 + 6 + k0)), some (.int (y1 + 1)), some (.int v2), some (.int v4)]) (l2' := []) (by decide +kernel) rfl rfl rfl rfl rfl ?_
            refine w_goto (n := 2) (off := (-157)) (by decide +kernel) (by decide) ?_
            exact h
      · rw [if_neg c21] at h
        refine w_icmp_lt_n (n := 77) (off := 24) (by decide +kernel) rfl c21 ?_
        refine w_aload_n (n := 78) (i := 0) (by decide +kernel) rfl rfl ?_
        refine w_getI (n := 81) hLM3 (by decide +kernel) oO_46 fF_5_21 (af_K hb0 hk0) (by decide) rfl ?_
        refine w_iload_n (n := 82) (i := 3) (by decide +kernel) rfl rfl ?_
        by_cases c20 : ak_I M3 (b0 + 6 + k0) 3 < v4
        · rw [if_pos c20] at h
          refine w_icmp_lt_j (n := 98) (off := 16) (by decide +kernel) (by decide) c20 ?_
          refine w_iload_n (n := 99) (i := 2) (by decide +kernel) rfl rfl ?_
          refine w_iload_n (n := 100) (i := 3) (by decide +kernel) rfl rfl ?_
          by_cases c18 : v2 < v4
          · rw [if_pos c18] at h
            refine w_icmp_lt_j (n := 131) (off := 31) (by decide +kernel) (by decide) c18 ?_
            refine w_aload_n (n := 132) (i := 0) (by decide +kernel) rfl rfl ?_
            refine w_dup_ref (n := 133) (by decide +kernel) rfl ?_
            refine w_getI (n := 136) hLM3 (by decide +kernel) oO_46 fF_5_18 (af_K hb0 hk0) (by decide) rfl ?_
            refine w_aload_n (n := 137) (i := 0) (by decide +kernel) rfl rfl ?_
            refine w_getI (n := 140) hLM3 (by decide +kernel) oO_46 fF_5_18 (af_K hb0 hk0) (by decide) rfl ?_
            refine w_aload_n (n := 141) (i := 0) (by decide +kernel) rfl rfl ?_
            refine w_getI (n := 144) hLM3 (by decide +kernel) oO_46 fF_5_27 (af_K hb0 hk0) (by decide) rfl ?_
            by_cases c14 : ak_I M3 (b0 + 6 + k0) 2 ≤ ak_I M3 (b0 + 6 + k0) 5
            · rw [if_pos c14] at h
              refine w_icmp_le_j (n := 151) (off := 7) (by decide +kernel) (by decide) c14 ?_
              refine w_iconst (n := 152) (v := 1) (x := 1) (by decide +kernel) rfl (by decide) ?_
              refine w_iadd (n := 153) (by decide +kernel) rfl ?_
              refine w_putI (n := 156) hLM3 (by decide +kernel) oO_46 fF_5_18 (af_K hb0 hk0) ⟨by decide, Or.inl (by decide)⟩ rfl ?_
              generalize eM12 : ak_sI M3 (b0 + 6 + k0) 2 ((ak_I M3 (b0 + 6 + k0) 2) + 1) = M12
              have hLM12 : ab_lay M12 := by rw [← eM12]; exact ab_lay.sI hLM3
              replace h := h M12 eM12.symm
              refine w_iinc (n := 159) (i := 1) (v := 1) (y := y1 + 1) (l1' := [some (.ref (b0 + 6 + k0)), some (.int (y1 + 1)), some (.int v2), some (.int v4)]) (l2' := []) (by decide +kernel) rfl rfl rfl rfl rfl ?_
              refine w_goto (n := 2) (off := (-157)) (by decide +kernel) (by decide) ?_
              exact h
            · rw [if_neg c14] at h
              refine w_icmp_le_n (n := 147) (off := 7) (by decide +kernel) rfl c14 ?_
              refine w_iconst (n := 148) (v := -1) (x := (-1)) (by decide +kernel) rfl (by decide) ?_
              refine w_goto (n := 152) (off := 4) (by decide +kernel) (by decide) ?_
              refine w_iadd (n := 153) (by decide +kernel) rfl ?_
              refine w_putI (n := 156) hLM3 (by decide +kernel) oO_46 fF_5_18 (af_K hb0 hk0) ⟨by decide, Or.inl (by decide)⟩ rfl ?_
              generalize eM13 : ak_sI M3 (b0 + 6 + k0) 2 ((ak_I M3 (b0 + 6 + k0) 2) + ((-1))) = M13
              have hLM13 : ab_lay M13 := by rw [← eM13]; exact ab_lay.sI hLM3
              replace h := h M13 eM13.symm
              refine w_iinc (n := 159) (i := 1) (v := 1) (y := y1 + 1) (l1' := [some (.ref (b0 + 6 + k0)), some (.int (y1 + 1)), some (.int v2), some (.int v4)]) (l2' := []) (by decide +kernel) rfl rfl rfl rfl rfl ?_
              refine w_goto (n := 2) (off := (-157)) (by decide +kernel) (by decide) ?_
              exact h
          · rw [if_neg c18] at h
            refine w_icmp_lt_n (n := 103) (off := 31) (by decide +kernel) rfl c18 ?_
            refine w_aload_n (n := 104) (i := 0) (by decide +kernel) rfl rfl ?_
            refine w_dup_ref (n := 105) (by decide +kernel) rfl ?_
            refine w_getI (n := 108) hLM3 (by decide +kernel) oO_46 fF_5_15 (af_K hb0 hk0) (by decide) rfl ?_
            refine w_aload_n (n := 109) (i := 0) (by decide +kernel) rfl rfl ?_
            refine w_getI (n := 112) hLM3 (by decide +kernel) oO_46 fF_5_15 (af_K hb0 hk0) (by decide) rfl ?_
            refine w_aload_n (n := 113) (i := 0) (by decide +kernel) rfl rfl ?_
            refine w_getI (n := 116) hLM3 (by decide +kernel) oO_46 fF_5_24 (af_K hb0 hk0) (by decide) rfl ?_
            by_cases c17 : ak_I M3 (b0 + 6 + k0) 1 ≤ ak_I M3 (b0 + 6 + k0) 4
            · rw [if_pos c17] at h
              refine w_icmp_le_j (n := 123) (off := 7) (by decide +kernel) (by decide) c17 ?_
              refine w_iconst (n := 124) (v := 1) (x := 1) (by decide +kernel) rfl (by decide) ?_
              refine w_iadd (n := 125) (by decide +kernel) rfl ?_
              refine w_putI (n := 128) hLM3 (by decide +kernel) oO_46 fF_5_15 (af_K hb0 hk0) ⟨by decide, Or.inl (by decide)⟩ rfl ?_
              generalize eM15 : ak_sI M3 (b0 + 6 + k0) 1 ((ak_I M3 (b0 + 6 + k0) 1) + 1) = M15
              have hLM15 : ab_lay M15 := by rw [← eM15]; exact ab_lay.sI hLM3
              replace h := h M15 eM15.symm
              refine w_goto (n := 156) (off := 28) (by decide +kernel) (by decide) ?_
              refine w_iinc (n := 159) (i := 1) (v := 1) (y := y1 + 1) (l1' := [some (.ref (b0 + 6 + k0)), some (.int (y1 + 1)), some (.int v2), some (.int v4)]) (l2' := []) (by decide +kernel) rfl rfl rfl rfl rfl ?_
              refine w_goto (n := 2) (off := (-157)) (by decide +kernel) (by decide) ?_
              exact h
            · rw [if_neg c17] at h
              refine w_icmp_le_n (n := 119) (off := 7) (by decide +kernel) rfl c17 ?_
              refine w_iconst (n := 120) (v := -1) (x := (-1)) (by decide +kernel) rfl (by decide) ?_
              refine w_goto (n := 124) (off := 4) (by decide +kernel) (by decide) ?_
              refine w_iadd (n := 125) (by decide +kernel) rfl ?_
              refine w_putI (n := 128) hLM3 (by decide +kernel) oO_46 fF_5_15 (af_K hb0 hk0) ⟨by decide, Or.inl (by decide)⟩ rfl ?_
              generalize eM16 : ak_sI M3 (b0 + 6 + k0) 1 ((ak_I M3 (b0 + 6 + k0) 1) + ((-1))) = M16
              have hLM16 : ab_lay M16 := by rw [← eM16]; exact ab_lay.sI hLM3
              replace h := h M16 eM16.symm
              refine w_goto (n := 156) (off := 28) (by decide +kernel) (by decide) ?_
              refine w_iinc (n := 159) (i := 1) (v := 1) (y := y1 + 1) (l1' := [some (.ref (b0 + 6 + k0)), some (.int (y1 + 1)), some (.int v2), some (.int v4)]) (l2' := []) (by decide +kernel) rfl rfl rfl rfl rfl ?_
              refine w_goto (n := 2) (off := (-157)) (by decide +kernel) (by decide) ?_
              exact h
        · rw [if_neg c20] at h
          refine w_icmp_lt_n (n := 85) (off := 16) (by decide +kernel) rfl c20 ?_
          refine w_aload_n (n := 86) (i := 0) (by decide +kernel) rfl rfl ?_
          refine w_dup_ref (n := 87) (by decide +kernel) rfl ?_
          refine w_getI (n := 90) hLM3 (by decide +kernel) oO_46 fF_5_21 (af_K hb0 hk0) (by decide) rfl ?_
          refine w_iconst (n := 91) (v := 1) (x := 1) (by decide +kernel) rfl (by decide) ?_
          refine w_isub (n := 92) (by decide +kernel) rfl ?_
          refine w_putI (n := 95) hLM3 (by decide +kernel) oO_46 fF_5_21 (af_K hb0 hk0) ⟨by decide, Or.inl (by decide)⟩ rfl ?_
          generalize eM19 : ak_sI M3 (b0 + 6 + k0) 3 ((ak_I M3 (b0 + 6 + k0) 3) - 1) = M19
          have hLM19 : ab_lay M19 := by rw [← eM19]; exact ab_lay.sI hLM3
          replace h := h M19 eM19.symm
          refine w_goto (n := 156) (off := 61) (by decide +kernel) (by decide) ?_
          refine w_iinc (n := 159) (i := 1) (v := 1) (y := y1 + 1) (l1' := [some (.ref (b0 + 6 + k0)), some (.int (y1 + 1)), some (.int v2), some (.int v4)]) (l2' := []) (by decide +kernel) rfl rfl rfl rfl rfl ?_
          refine w_goto (n := 2) (off := (-157)) (by decide +kernel) (by decide) ?_
          exact h
    · rw [if_neg c22] at h
      refine w_icmp_ge_n (n := 68) (off := 4) (by decide +kernel) rfl c22 ?_
      subst h
      exact w_vreturn (by decide +kernel) (by decide +kernel)
theorem t_82 {X : ak_X} {M : ak_M} {r : ak_O × ak_M} (hL : ab_lay M) {b0 : Nat} (hb0 : b0 ∈ ab_fb) {k0 : Nat} (hk0 : k0 < 4) {b1 : Nat} (hb1 : b1 ∈ ab_fb) {k1 : Nat} (hk1 : k1 < 4) (h : (∃ (M1 : ak_M), ab_lay M1 ∧ rn X 83 [.ref (b0 + 16 + k0), .int (ak_I M (b1 + 16 + k1) 0), .int (ak_I M (b1 + 16 + k1) 1), .int (ak_I M (b1 + 16 + k1) 2)] M (.inl (none), M1) ∧ r = (.inl none, M1))) : rn X 82 [.ref (b0 + 16 + k0), .ref (b1 + 16 + k1)] M r := by
  refine w_rn (nL := 2) (l1 := [some (.ref (b0 + 16 + k0)), some (.ref (b1 + 16 + k1))]) (by decide +kernel) rfl rfl ?_
  refine w_aload_n (n := 1) (i := 0) (by decide +kernel) rfl rfl ?_
  refine w_aload_n (n := 2) (i := 1) (by decide +kernel) rfl rfl ?_
  refine w_getI (n := 5) hL (by decide +kernel) oO_82 fF_10_7 (af_W hb1 hk1) (by decide) rfl ?_
  refine w_aload_n (n := 6) (i := 1) (by decide +kernel) rfl rfl ?_
  refine w_getI (n := 9) hL (by decide +kernel) oO_82 fF_10_13 (af_W hb1 hk1) (by decide) rfl ?_
  refine w_aload_n (n := 10) (i := 1) (by decide +kernel) rfl rfl ?_
  refine w_getI (n := 13) hL (by decide +kernel) oO_82 fF_10_16 (af_W hb1 hk1) (by decide) rfl ?_
  obtain ⟨M1, hLM1, hr2, h⟩ := h
  refine w_cV (n := 16) (idx := 19) (cal := 83) (na := 3) (nl := 4) (as := [.int (ak_I M (b1 + 16 + k1) 0), .int (ak_I M (b1 + 16 + k1) 1), .int (ak_I M (b1 + 16 + k1) 2)]) (rest := []) hL (by decide +kernel) (by decide +kernel) (af_W hb0 hk0) (by decide +kernel) rfl rfl rfl (Nat.le_of_ble_eq_true rfl) rfl hr2 ?_
  subst h
  exact w_vreturn (by decide +kernel) (by decide +kernel)
theorem t_83 {X : ak_X} {M : ak_M} {r : ak_O × ak_M} (hL : ab_lay M) {b0 : Nat} (hb0 : b0 ∈ ab_fb) {k0 : Nat} (hk0 : k0 < 4) (x1 : Int32) (x2 : Int32) (x3 : Int32) (h : (∀ M1 : ak_M, M1 = ak_sI M (b0 + 16 + k0) 0 x1 → (∀ M2 : ak_M, M2 = ak_sI M1 (b0 + 16 + k0) 1 x2 → (∀ M3 : ak_M, M3 = ak_sI M2 (b0 + 16 + k0) 2 x3 → r = (.inl none, M3))))) : rn X 83 [.ref (b0 + 16 + k0), .int x1, .int x2, .int x3] M r := by
  refine w_rn (nL := 4) (l1 := [some (.ref (b0 + 16 + k0)), some (.int x1), some (.int x2), some (.int x3)]) (by decide +kernel) rfl rfl ?_
  refine w_aload_n (n := 1) (i := 0) (by decide +kernel) rfl rfl ?_
  refine w_iload_n (n := 2) (i := 1) (by decide +kernel) rfl rfl ?_
  refine w_putI (n := 5) hL (by decide +kernel) oO_83 fF_10_7 (af_W hb0 hk0) ⟨by decide, Or.inl (by decide)⟩ rfl ?_
  generalize eM1 : ak_sI M (b0 + 16 + k0) 0 x1 = M1
  have hLM1 : ab_lay M1 := by rw [← eM1]; exact ab_lay.sI hL
  replace h := h M1 eM1.symm
  refine w_aload_n (n := 6) (i := 0) (by decide +kernel) rfl rfl ?_
  refine w_iload_n (n := 7) (i := 2) (by decide +kernel) rfl rfl ?_
  refine w_putI (n := 10) hLM1 (by decide +kernel) oO_83 fF_10_13 (af_W hb0 hk0) ⟨by decide, Or.inl (by decide)⟩ rfl ?_
  generalize eM2 : ak_sI M1 (b0 + 16 + k0) 1 x2 = M2
  have hLM2 : ab_lay M2 := by rw [← eM2]; exact ab_lay.sI hLM1
  replace h := h M2 eM2.symm
  refine w_aload_n (n := 11) (i := 0) (by decide +kernel) rfl rfl ?_
  refine w_iload_n (n := 12) (i := 3) (by decide +kernel) rfl rfl ?_
  refine w_putI (n := 15) hLM2 (by decide +kernel) oO_83 fF_10_16 (af_W hb0 hk0) ⟨by decide, Or.inl (by decide)⟩ rfl ?_
  generalize eM3 : ak_sI M2 (b0 + 16 + k0) 2 x3 = M3
  have hLM3 : ab_lay M3 := by rw [← eM3]; exact ab_lay.sI hLM2
  replace h := h M3 eM3.symm
  subst h
  exact w_vreturn (by decide +kernel) (by decide +kernel)
theorem t_84 {X : ak_X} {M : ak_M} {r : ak_O × ak_M} (hL : ab_lay M) {b0 : Nat} (hb0 : b0 ∈ ab_fb) {k0 : Nat} (hk0 : k0 < 4) (h : (∃ (v2 : Int32) (M1 : ak_M), ab_lay M1 ∧ rn X 314 [.int (ak_I M (b0 + 16 + k0) 1)] M (.inl (some (.int v2)), M1) ∧ (∃ (v4 : Int32) (M3 : ak_M), ab_lay M3 ∧ rn X 314 [.int (ak_I M1 (b0 + 16 + k0) 2)] M1 (.inl (some (.int v4)), M3) ∧ (∃ (v6 : Int32) (M5 : ak_M), ab_lay M5 ∧ rn X 315 [.int v2, .int v4] M3 (.inl (some (.int v6)), M5) ∧ r = (.inl (some (.int v6)), M5))))) : rn X 84 [.ref (b0 + 16 + k0)] M r := by
  refine w_rn (nL := 1) (l1 := [some (.ref (b0 + 16 + k0))]) (by decide +kernel) rfl rfl ?_
  refine w_aload_n (n := 1) (i := 0) (by decide +kernel) rfl rfl ?_
  refine w_getI (n := 4) hL (by decide +kernel) oO_84 fF_10_13 (af_W hb0 hk0) (by decide) rfl ?_
  obtain ⟨v2, M1, hLM1, hr9, h⟩ := h
  refine w_cS (n := 7) (idx := 23) (cal := 314) (na := 1) (nl := 1) (as := [.int (ak_I M (b0 + 16 + k0) 1)]) (rest := []) (by decide +kernel) (by decide +kernel) rfl rfl rfl (Nat.le_of_ble_eq_true rfl) rfl hr9 ?_
  refine w_aload_n (n := 8) (i := 0) (by decide +kernel) rfl rfl ?_
  refine w_getI (n := 11) hLM1 (by decide +kernel) oO_84 fF_10_16 (af_W hb0 hk0) (by decide) rfl ?_
  obtain ⟨v4, M3, hLM3, hr8, h⟩ := h
  refine w_cS (n := 14) (idx := 23) (cal := 314) (na := 1) (nl := 1) (as := [.int (ak_I M1 (b0 + 16 + k0) 2)]) (rest := [.int v2]) (by decide +kernel) (by decide +kernel) rfl rfl rfl (Nat.le_of_ble_eq_true rfl) rfl hr8 ?_
  obtain ⟨v6, M5, hLM5, hr7, h⟩ := h
  refine w_cS (n := 17) (idx := 29) (cal := 315) (na := 2) (nl := 2) (as := [.int v2, .int v4]) (rest := []) (by decide +kernel) (by decide +kernel) rfl rfl rfl (Nat.le_of_ble_eq_true rfl) rfl hr7 ?_
  subst h
  exact w_ireturn (by decide +kernel) (w_okI (by decide +kernel))
end
