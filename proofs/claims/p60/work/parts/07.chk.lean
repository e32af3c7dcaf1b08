/-! what the other tables say, decided by the kernel -/
def am_ok (i : Nat) (w : Jvm.Cond) : Bool := decide (ax_tbl[i]? = some w) && goodWord w
def am_is (i : Nat) (w : Jvm.Cond) : Bool := decide (ax_tbl[i]? = some w)
def am_in (w : Jvm.Cond) : Bool := decide (w ∈ ax_tbl) && goodWord w
def am_kH (k : Nat) : Bool := k == 364 || (plainFor (am_Y k) && ((am_H k).isEmpty || plainName (am_Y k).cls) && decide ((am_Y k).cls ≠ "java/lang/invoke/MethodHandle") && decide ((am_Y k).cls ≠ "java/lang/invoke/VarHandle")
  && decide ((parseMethodDescriptor (am_Y k).desc).map (fun d => d.parameters.length) = some (am_N k)) && decide (am_cn (am_O k) = (am_Y k).cls) && Nat.ble (am_X k) 40
  && (match am_H k with | [] => am_ok (am_I k) (.code (am_Y k) (am_B k) (am_X k) (am_R k)) | h :: hh => am_ok (am_I k) (.codeWith (am_Y k) (am_B k) (am_X k) (am_R k) (h :: hh)))
  && ((vwCl[am_C k]?).map (·.1) == some (am_Y k).cls || am_C k == 60))
def am_kK1 (k : Nat) (e : Nat × Nat × Nat × Nat × Nat × Nat × Nat) : Bool := match e with
  | (idx, cal, kind, iL, iA, iB, iC) =>
    let own := am_cn (am_O k); let y := am_Y cal
    Nat.blt cal 364 && (match kind with
    | 0 => am_ok iL (.methodLink own idx y) && am_ok iA (.instanceMethod y) && am_ok iB (.selects y.cls y y) && am_ok iC (.initialized y.cls) && (am_H cal).isEmpty && Nat.blt (am_C cal) 14
    | 1 => am_ok iL (.methodLink own idx y) && am_ok iA (.static y) && am_ok iB (.initialized y.cls)
    | 2 => am_ok iL (.methodLink own idx y) && am_ok iA (.instanceMethod y) && am_ok iB (.initialized y.cls) && (am_H cal).isEmpty && decide (y.name = "<init>") && decide (am_R cal = none) && !(am_th.contains cal)
    | 3 => am_is iL (.methodLinkNest own idx y "KiteQuarrel") && am_ok iA (.instanceMethod y) && am_ok iB (.initialized y.cls) && (am_H cal).isEmpty && decide (y.name = "<init>") && decide (am_R cal = none) && !(am_th.contains cal)
    | 4 => am_is iL (.methodLinkNest own idx y "KiteQuarrel") && am_ok iA (.static y) && am_ok iB (.initialized y.cls) && (am_H cal).isEmpty && !(am_th.contains cal)
    | 5 => am_ok iL (.methodLink own idx objectInit) && am_ok iA (.instanceMethod objectInit) && am_ok iB (.code objectInit ⟨#[0xb1]⟩ 1 none)
    | 6 => am_ok iL (.methodLink own idx y) && am_ok iA (.instanceMethod y) && am_ok iB (.selects ax_SB y y) && am_ok iC (.initialized y.cls) && (am_H cal).isEmpty && am_in (.sameMethod y.cls y.cls y.name y.desc)
    | 7 => am_ok iL (.methodLink own idx y) && am_ok iA (.instanceMethod y) && am_ok iB (.superclass own y.cls) && am_ok iC (.initialized y.cls) && (am_H cal).isEmpty && am_in (.sameMethod y.cls y.cls y.name y.desc) && decide (y.name ≠ "<init>")
    | 8 => let x : MethodName := ⟨ax_ASB, y.name, y.desc⟩
      am_ok iL (.methodLink own idx x) && am_ok iA (.instanceMethod y) && am_ok iB (.selects ax_SB x y) && am_in (.initialized y.cls) && (am_H cal).isEmpty && am_in (.sameMethod ax_ASB ax_ASB y.name y.desc) && am_in (.instanceMethod x) && decide (am_Y iC = x) && am_ok (am_I iC) (.code x (am_B iC) (am_X iC) (am_R iC))
    | 9 => am_ok iL (.methodLink own idx arraycopyName) && am_ok iA (.native arraycopyName) && am_ok iB (.static arraycopyName) && am_ok iC (.initialized "java/lang/System")
    | 10 => am_ok iL (.methodLink own idx ⟨"[B", "clone", "()Ljava/lang/Object;"⟩) && am_ok iA (.instanceMethod ⟨"java/lang/Object", "clone", "()Ljava/lang/Object;"⟩) && am_ok iB (.sameMethod "[B" "java/lang/Object" "clone" "()Ljava/lang/Object;") && am_ok iC (.native ⟨"java/lang/Object", "clone", "()Ljava/lang/Object;"⟩)
      && am_in (.selects "[B" ⟨"[B", "clone", "()Ljava/lang/Object;"⟩ ⟨"java/lang/Object", "clone", "()Ljava/lang/Object;"⟩) && decide (Jvm.Cond.castable "[B" "java/lang/Cloneable" ∈ ax_tbl)
    | _ => false)
def am_kK (k : Nat) : Bool := (am_ks.getD k []).all (am_kK1 k)
def am_tk (ci : Nat) : u_T := match vwCl[ci]? with | some r => r.2.1 | none => fun _ => ("", "", "", false)
def am_kP1 (k : Nat) (q : Nat × Instr) : Bool := match q.2 with
  | .putfield idx => (match am_F (am_O k) idx with
    | some (ci, f, nest, _) => if (am_tk ci f).2.2.2 = true then decide ((am_Y k).name = "<init>") && decide ((am_tk ci f).1 = am_cn (am_O k)) && nest == 0 && k != 364 else true
    | none => true)
  | _ => true
def am_kP (k : Nat) : Bool := (am_cs k).all (am_kP1 k)
def am_pf (ci f : Nat) : Bool := match parseFieldDescriptor (am_tk ci f).2.2.1 with
  | some .int => am_f ci f == 0
  | some .byte => am_f ci f == 3
  | some .boolean => am_f ci f == 1
  | some (.object _) => am_f ci f == 2
  | some (.array _) => am_f ci f == 2
  | _ => false
def am_kF1 (e : Nat × Nat × Nat × Nat × Nat × Nat) : Bool := match e with
  | (own, idx, ci, f, nest, i) => Nat.blt ci 14 && Nat.blt f (am_nf ci) && (if nest = 0 then am_ok i (.fieldLink (am_cn own) idx (am_tk ci f).1 (am_tk ci f).2.1 (am_tk ci f).2.2.1) else am_is i (.fieldLinkNest (am_cn own) idx (am_tk ci f).1 (am_tk ci f).2.1 (am_tk ci f).2.2.1 "KiteQuarrel"))
def am_kF : Bool := am_fs.all am_kF1
def am_kT1 (ci : Nat) : Bool := (vwCl[ci]?).map (·.2.2) == some (am_nf ci) && (List.range (am_nf ci)).all (fun f => am_pf ci f)
def am_kT : Bool := (List.range 14).all am_kT1
def am_sn (w : Nat) : String × String × String := match w with
  | 0 => ("KiteQuarrel", "SETTING_LEAST", "[I") | 1 => ("KiteQuarrel", "SETTING_MOST", "[I") | 2 => ("KiteQuarrel", "SETTING_FIRST", "[I")
  | 3 => ("java/lang/String", "COMPACT_STRINGS", "Z") | 4 => ("jdk/internal/util/Preconditions", "SIOOBE_FORMATTER", "Ljava/util/function/BiFunction;")
  | 5 => ("java/lang/Integer", "DigitTens", "[B") | _ => ("java/lang/Integer", "DigitOnes", "[B")
def am_kS1 (e : Nat × Nat × Nat × Nat × Nat) : Bool := match e with
  | (own, idx, v, nest, i) => Nat.blt v 7 && (if nest = 0 then am_ok i (.fieldLink (am_cn own) idx (am_sn v).1 (am_sn v).2.1 (am_sn v).2.2) else am_is i (.fieldLinkNest (am_cn own) idx (am_sn v).1 (am_sn v).2.1 (am_sn v).2.2 "KiteQuarrel"))
def am_kS : Bool := am_ss.all am_kS1
def am_kN1 (e : Nat × Nat × Nat × Nat × Nat × Nat) : Bool := match e with
  | (own, idx, ci, a, b, c) => (match vwCl[ci]? with | some r => am_ok a (.classLink (am_cn own) idx r.1) && am_ok b (.instantiable r.1 r.2.2) && am_ok c (.initialized r.1) | none => false)
def am_kN : Bool := am_ns.all am_kN1
def am_ac (t : Nat) : String := match t with | 5 => RX5 | 6 => RX10 | 7 => RX1 | _ => RX2
def am_kV1 (e : Nat × Nat × Nat × Nat) : Bool := match e with | (own, idx, t, a) => Nat.ble 5 t && Nat.ble t 8 && am_ok a (.classLink (am_cn own) idx (am_ac t))
def am_kV : Bool := am_as.all am_kV1
def ak_isN : Jvm.Cond → Bool
  | .methodLinkNest .. => true
  | .fieldLinkNest .. => true
  | .castable .. => true
  | .declares .. => true
  | _ => false
def am_nm : List String := ["java/lang/RuntimeException", "java/lang/Exception"]
def am_kX1 (e : Nat × Nat × Nat × Nat × Nat × Nat × Nat) : Bool := match e with
  | (k, pc, E, ik, is, wd, ic) => let own := am_cn (am_O k)
    Nat.blt E 3 && k != 364 && (am_H k).isEmpty && Bundle.fit (am_E E) && am_nm.all Bundle.fit && (.classLink own ik (am_E E) :: .initialized (am_E E) :: vx_atS own ic (am_E E) am_nm).all (fun w => vx_ot w && (goodWord w || ak_isN w) && decide (w ∈ ax_tbl))
    && decide (decode (am_B k) pc = .ok (.new ik, 3)) && decide (decode (am_B k) (pc + 3) = .ok (.dup, 1))
    && (if wd = 0 then decide (decode (am_B k) (pc + 4) = .ok (.ldc is, 2)) && decide (decode (am_B k) (pc + 6) = .ok (.invokespecial ic, 3)) && decide (decode (am_B k) (pc + 9) = .ok (.athrow, 1))
      else decide (decode (am_B k) (pc + 4) = .ok (.ldc_w is, 3)) && decide (decode (am_B k) (pc + 7) = .ok (.invokespecial ic, 3)) && decide (decode (am_B k) (pc + 10) = .ok (.athrow, 1)))
    && (match am_G (am_O k) is with | some j => Nat.blt j 25 | none => false)
def am_kX : Bool := am_xs.all am_kX1
def am_kJ (k : Nat) : Bool := (am_H k).isEmpty || (am_O k == 54 && (am_H k).all (fun q => q.2.2.2 == 13 || q.2.2.2 == 15 || q.2.2.2 == 30))
def am_kG1 (e : Nat × Nat × Int64 × Nat) : Bool := match e with | (own, idx, v, i) => am_ok i (.constantLong (am_cn own) idx v)
def am_kG : Bool := am_gs.all am_kG1
def am_kU1 (e : Nat × Nat × Int32 × Nat) : Bool := match e with | (own, idx, v, i) => am_ok i (.constant (am_cn own) idx v)
def am_kU : Bool := am_us.all am_kU1
