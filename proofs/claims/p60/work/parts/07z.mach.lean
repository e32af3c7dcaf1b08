/-! the small machine: its memory, one step, a run -/
abbrev ak_M : Type := (Nat → Nat → Int32) × (Nat → Nat → Option Nat) × (Nat → Nat → Int64) × (Nat → Nat → UInt64) × (Nat → Nat) × (Nat → Nat) × Nat × Nat × Nat
abbrev ak_F : Type := Nat × List (Option Value) × List (Nat × Value) × List Value
abbrev ak_O : Type := Option Value ⊕ Nat
abbrev ak_Act : Type := (ak_F × ak_M) ⊕ (ak_O × ak_M) ⊕ (Nat × List Value × ak_F × ak_M)
/-- the script's length, the script, whether the formatter is null -/
abbrev ak_X : Type := Nat × (Nat → Int32) × Bool
def ak_u {α : Type} (f : Nat → Nat → α) (p k : Nat) (v : α) : Nat → Nat → α := fun q j => if q = p ∧ j = k then v else f q j
def ak_I (M : ak_M) : Nat → Nat → Int32 := M.1
def ak_R (M : ak_M) : Nat → Nat → Option Nat := M.2.1
def ak_L (M : ak_M) : Nat → Nat → Int64 := M.2.2.1
def ak_D (M : ak_M) : Nat → Nat → UInt64 := M.2.2.2.1
def ak_K (M : ak_M) : Nat → Nat := M.2.2.2.2.1
def ak_N (M : ak_M) : Nat → Nat := M.2.2.2.2.2.1
def ak_P (M : ak_M) : Nat := M.2.2.2.2.2.2.1
def ak_C (M : ak_M) : Nat := M.2.2.2.2.2.2.2.1
def ak_Z (M : ak_M) : Nat := M.2.2.2.2.2.2.2.2
def ak_sI (M : ak_M) (p k : Nat) (v : Int32) : ak_M := (ak_u M.1 p k v, M.2)
def ak_sR (M : ak_M) (p k : Nat) (v : Option Nat) : ak_M := (M.1, ak_u M.2.1 p k v, M.2.2)
def ak_sL (M : ak_M) (p k : Nat) (v : Int64) : ak_M := (M.1, M.2.1, ak_u M.2.2.1 p k v, M.2.2.2)
def ak_sD (M : ak_M) (p k : Nat) (v : UInt64) : ak_M := (M.1, M.2.1, M.2.2.1, ak_u M.2.2.2.1 p k v, M.2.2.2.2)
/-- cells and slots used -/
def ak_use (M : ak_M) (c z : Nat) : ak_M := (ak_I M, ak_R M, ak_L M, ak_D M, ak_K M, ak_N M, ak_P M, ak_C M + c, ak_Z M + z)
/-- a new place of a kind and a length -/
def ak_new (M : ak_M) (kd ln z : Nat) : ak_M :=
  (fun q j => if q = ak_P M then 0 else ak_I M q j, fun q j => if q = ak_P M then none else ak_R M q j, fun q j => if q = ak_P M then 0 else ak_L M q j, fun q j => if q = ak_P M then 0 else ak_D M q j,
   fun q => if q = ak_P M then kd else ak_K M q, fun q => if q = ak_P M then ln else ak_N M q, ak_P M + 1, ak_C M + 1, ak_Z M + z)
/-- new byte[n][k]: the outer row, then the inner ones -/
def ak_mna (M : ak_M) (n k : Nat) : ak_M :=
  (fun q j => if ak_P M ≤ q ∧ q ≤ ak_P M + n then 0 else ak_I M q j,
   fun q j => if q = ak_P M then (if j < n then some (ak_P M + 1 + j) else none) else if ak_P M ≤ q ∧ q ≤ ak_P M + n then none else ak_R M q j,
   fun q j => if ak_P M ≤ q ∧ q ≤ ak_P M + n then 0 else ak_L M q j, fun q j => if ak_P M ≤ q ∧ q ≤ ak_P M + n then 0 else ak_D M q j,
   fun q => if q = ak_P M then 109 else if ak_P M ≤ q ∧ q ≤ ak_P M + n then 101 else ak_K M q,
   fun q => if q = ak_P M then n else if ak_P M ≤ q ∧ q ≤ ak_P M + n then k else ak_N M q,
   ak_P M + 1 + n, ak_C M + 1 + n, ak_Z M + n + n * k)
/-! what never changes: 1000000 the script, 1000001 to 3 the tables of the settings, 1000004 and 5 those of the digits, from 1001000 on the texts, from 1002000 on their bytes -/
def ak_t0 : List Int32 := [0, 0, 0, 1, 0, 0]
def ak_t1 : List Int32 := [99, 9, 9, 20, 50, 50]
def ak_t2 : List Int32 := [5, 2, 3, 4, 3, 10]
def ak_t5 : List Int32 := (List.range 100).map fun k => Int32.ofNat (48 + k / 10)
def ak_t6 : List Int32 := (List.range 100).map fun k => Int32.ofNat (48 + k % 10)
def ak_cK (p : Nat) : Nat := if p < 1000004 then 100 else if p < 1000006 then 101 else if 1001000 ≤ p ∧ p < 1001025 then 50 else if 1002000 ≤ p ∧ p < 1002025 then 101 else 999
def ak_cI (X : ak_X) (p k : Nat) : Int32 :=
  if p = 1000000 then X.2.1 k else if p = 1000001 then ak_t0.getD k 0 else if p = 1000002 then ak_t1.getD k 0 else if p = 1000003 then ak_t2.getD k 0 else if p = 1000004 then ak_t5.getD k 0 else if p = 1000005 then ak_t6.getD k 0 else (am_sb.getD (p - 1002000) []).getD k 0
def ak_cN (X : ak_X) (p : Nat) : Nat := if p = 1000000 then X.1 else if p < 1000004 then 6 else if p < 1000006 then 100 else (am_sb.getD (p - 1002000) []).length
/-- bytes of a row, or of one that never changes -/
def ak_by (X : ak_X) (M : ak_M) (p k : Nat) : Int32 := if p < ak_P M then ak_I M p k else ak_cI X p k
def ak_bn (X : ak_X) (M : ak_M) (p : Nat) : Nat := if p < ak_P M then ak_N M p else ak_cN X p
def ak_isb (M : ak_M) (p : Nat) : Bool := if p < ak_P M then decide (ak_K M p = 101) else decide (1002000 ≤ p ∧ p < 1002025)
/-- n bytes f from sp on, into the row a from dp on -/
def ak_cpy (M : ak_M) (f : Nat → Int32) (a sp dp n : Nat) : ak_M := (fun q j => if q = a ∧ dp ≤ j ∧ j < dp + n then f (sp + (j - dp)) else ak_I M q j, M.2)
def ak_isB (x : Int32) : Bool := decide (x.toInt8.toInt32 = x)
/-- a new byte row with the bytes f -/
def ak_cln (M : ak_M) (f : Nat → Int32) (n : Nat) : ak_M := (fun q j => if q = ak_P M then f j else ak_I (ak_new M 101 n n) q j, (ak_new M 101 n n).2)
def ak_n (pc : Nat) (l1 : List (Option Value)) (l2 : List (Nat × Value)) (st : List Value) (M : ak_M) : Option ak_Act := some (.inl ((pc, l1, l2, st), M))
def ak_e (r : ak_O) (M : ak_M) : Option ak_Act := some (.inr (.inl (r, M)))
def ak_j (pc : Nat) (off : Int) (l1 : List (Option Value)) (l2 : List (Nat × Value)) (st : List Value) (M : ak_M) : Option ak_Act :=
  if 0 ≤ (pc : Int) + off then ak_n ((pc : Int) + off).toNat l1 l2 st M else none
/-- a value of one slot is stored -/
def ak_s1 (i : Nat) (v : Value) (pc : Nat) (l1 : List (Option Value)) (l2 : List (Nat × Value)) (st : List Value) (M : ak_M) : Option ak_Act :=
  if i < l1.length then ak_n pc (l1.set i (some v)) (l2.filter (fun q => !(q.1 == i) && !(q.1 + 1 == i))) st M else none
/-- a value of two slots is stored -/
def ak_s2 (i : Nat) (v : Value) (pc : Nat) (l1 : List (Option Value)) (l2 : List (Nat × Value)) (st : List Value) (M : ak_M) : Option ak_Act :=
  if i + 1 < l1.length then ak_n pc ((l1.set i none).set (i + 1) none) ((i, v) :: l2.filter (fun q => !(q.1 == i) && (!(q.1 == i + 1) && !(q.1 + 1 == i)))) st M else none
def ak_g2 (l2 : List (Nat × Value)) (i : Nat) : Option Value := (l2.find? (fun q => q.1 == i)).map (·.2)
def ak_cat (st : List Value) : Nat := (st.map fun v => v.category).sum
def ak_ld (i n pc : Nat) (ok : Value → Bool) (l1 : List (Option Value)) (l2 : List (Nat × Value)) (st : List Value) (M : ak_M) : Option ak_Act :=
  match l1[i]? with
  | some (some v) => if ok v = true then ak_n (pc + n) l1 l2 (v :: st) M else none
  | _ => none
def ak_ld2 (i n pc : Nat) (ok : Value → Bool) (l1 : List (Option Value)) (l2 : List (Nat × Value)) (st : List Value) (M : ak_M) : Option ak_Act :=
  match ak_g2 l2 i with
  | some v => if ok v = true then ak_n (pc + n) l1 l2 (v :: st) M else none
  | _ => none
def ak_iI : Value → Bool | .int _ => true | _ => false
def ak_iA : Value → Bool | .ref _ => true | _ => false
def ak_iF : Value → Bool | .float _ => true | _ => false
def ak_iL : Value → Bool | .long _ => true | _ => false
def ak_iD : Value → Bool | .double _ => true | _ => false
/-- an index into a row of n places, as a place -/
def ak_ix (i : Int32) (n : Nat) : Bool := decide (¬ (i < 0 ∨ n ≤ i.toNatClampNeg))
def ak_rv (r : Option Nat) : Value := match r with | none => .null | some q => .ref q
/-- the class index of what stands at a place, for a call -/
def ak_rc (M : ak_M) (p : Nat) : Nat := if p < ak_P M then ak_K M p else if 1001000 ≤ p ∧ p < 1001025 then 13 else 999
def ak_e1 : List Value → List (Option Value)
  | [] => []
  | v :: vs => if v.category = 2 then none :: none :: ak_e1 vs else some v :: ak_e1 vs
def ak_e2 : Nat → List Value → List (Nat × Value)
  | _, [] => []
  | i, v :: vs => if v.category = 2 then (i, v) :: ak_e2 (i + 2) vs else ak_e2 (i + 1) vs
/-- the frame at a method's entry -/
def ak_en (k : Nat) (args : List Value) : ak_F := (0, ak_e1 args ++ List.replicate (am_X k - (ak_e1 args).length) none, ak_e2 0 args, [])
/-- a call: the arguments off the stack, what they are given to, what stays -/
def ak_call (mi cal : Nat) (args : List Value) (pc : Nat) (l1 : List (Option Value)) (l2 : List (Nat × Value)) (rest : List Value) (M : ak_M) : Option ak_Act :=
  if ak_cat rest ≤ 8 ∧ am_K cal < am_K mi ∧ am_Q cal + am_X cal + 19 ≤ am_Q mi ∧ (ak_e1 args).length ≤ am_X cal then some (.inr (.inr (cal, args, (pc + 3, l1, l2, rest), M))) else none
def ak_inv (X : ak_X) (mi idx : Nat) (vt : Nat) (pc : Nat) (l1 : List (Option Value)) (l2 : List (Nat × Value)) (st : List Value) (M : ak_M) : Option ak_Act :=
  match am_L mi idx with
  | none => none
  | some (cal, kind, _) =>
    if vt = 0 ∧ (kind = 0 ∨ kind = 6 ∨ kind = 8) then
      match st.drop (am_N cal) with
      | .ref p :: rest => if ak_rc M p = (if kind = 0 then am_C cal else 12) ∧ am_N cal ≤ st.length then ak_call mi cal (.ref p :: (st.take (am_N cal)).reverse) pc l1 l2 rest M else none
      | _ => none
    else if vt = 1 ∧ (kind = 1 ∨ kind = 4) then
      if am_N cal ≤ st.length then ak_call mi cal (st.take (am_N cal)).reverse pc l1 l2 (st.drop (am_N cal)) M else none
    else if vt = 2 ∧ (kind = 2 ∨ kind = 3) then
      match st.drop (am_N cal) with
      | .ref p :: rest => if am_N cal ≤ st.length then ak_call mi cal (.ref p :: (st.take (am_N cal)).reverse) pc l1 l2 rest M else none
      | _ => none
    else if vt = 2 ∧ kind = 7 then
      match st.drop (am_N cal) with
      | .ref p :: rest => if ak_rc M p = 12 ∧ am_N cal ≤ st.length then ak_call mi cal (.ref p :: (st.take (am_N cal)).reverse) pc l1 l2 rest M else none
      | _ => none
    else if vt = 2 ∧ kind = 5 then
      match st with
      | .ref _ :: rest => if ak_cat rest ≤ 8 then ak_n (pc + 3) l1 l2 rest M else none
      | _ => none
    else if vt = 1 ∧ kind = 9 then
      match st with
      | .int n :: .int dp :: .ref a :: .int sp :: .ref b :: rest =>
        if ak_cat rest ≤ 8 ∧ a < ak_P M ∧ ak_K M a = 101 ∧ ak_isb M b = true ∧ ¬ sp < 0 ∧ ¬ dp < 0 ∧ ¬ n < 0 ∧ sp.toNatClampNeg + n.toNatClampNeg ≤ ak_bn X M b ∧ dp.toNatClampNeg + n.toNatClampNeg ≤ ak_N M a ∧
            (List.range n.toNatClampNeg).all (fun i => ak_isB (ak_by X M b (sp.toNatClampNeg + i))) = true then
          ak_n (pc + 3) l1 l2 rest (ak_cpy M (ak_by X M b) a sp.toNatClampNeg dp.toNatClampNeg n.toNatClampNeg)
        else none
      | _ => none
    else if vt = 0 ∧ kind = 10 then
      match st with
      | .ref a :: rest =>
        if ak_cat rest ≤ 8 ∧ a < ak_P M ∧ ak_K M a = 101 ∧ ak_P M < 900000 ∧ (List.range (ak_N M a)).all (fun i => ak_isB (ak_I M a i)) = true then
          ak_n (pc + 3) l1 l2 (.ref (ak_P M) :: rest) (ak_cln M (ak_I M a) (ak_N M a))
        else none
      | _ => none
    else none
/-- what a method answers: an int by the type told -/
def ak_iok (ty : Option FieldType) (x : Int32) : Bool := match ty with
  | some .int => true
  | some .boolean => decide (x = 0 ∨ x = 1)
  | some .char => decide ((x.toUInt32 % 65536).toInt32 = x)
  | some .byte => decide (x.toInt8.toInt32 = x)
  | _ => false
def ak_isR (ty : Option FieldType) : Bool := match ty with
  | some (.object _) => true
  | some (.array _) => true
  | _ => false
/-- the class index that a row of a kind holds -/
def ak_ek (kd : Nat) : Nat := if kd = 105 then 5 else if kd = 106 then 10 else if kd = 107 then 1 else 2
def ak_x (X : ak_X) (mi : Nat) (ins : Instr) (pc : Nat) (l1 : List (Option Value)) (l2 : List (Nat × Value)) (st : List Value) (M : ak_M) : Option ak_Act :=
  match ins with
  | .iconst n => ak_n (pc + 1) l1 l2 (.int (Int32.ofInt n) :: st) M
  | .bipush n => ak_n (pc + 2) l1 l2 (.int (Int8.ofInt n).toInt32 :: st) M
  | .sipush n => ak_n (pc + 3) l1 l2 (.int (Int16.ofInt n).toInt32 :: st) M
  | .lconst n => ak_n (pc + 1) l1 l2 (.long (Int64.ofNat (n : Nat)) :: st) M
  | .fconst n => if n = 0 then ak_n (pc + 1) l1 l2 (.float FP.fconst0 :: st) M else none
  | .dconst n => if n = 0 then ak_n (pc + 1) l1 l2 (.double FP.dconst0 :: st) M else none
  | .iload_n k => ak_ld k 1 pc ak_iI l1 l2 st M
  | .iload i => ak_ld i 2 pc ak_iI l1 l2 st M
  | .fload i => ak_ld i 2 pc ak_iF l1 l2 st M
  | .aload_n k => ak_ld k 1 pc ak_iA l1 l2 st M
  | .aload i => ak_ld i 2 pc ak_iA l1 l2 st M
  | .lload_n k => ak_ld2 k 1 pc ak_iL l1 l2 st M
  | .lload i => ak_ld2 i 2 pc ak_iL l1 l2 st M
  | .dload_n k => ak_ld2 k 1 pc ak_iD l1 l2 st M
  | .dload i => ak_ld2 i 2 pc ak_iD l1 l2 st M
  | .istore_n k => match st with | .int x :: r => ak_s1 k (.int x) (pc + 1) l1 l2 r M | _ => none
  | .istore i => match st with | .int x :: r => ak_s1 i (.int x) (pc + 2) l1 l2 r M | _ => none
  | .fstore i => match st with | .float x :: r => ak_s1 i (.float x) (pc + 2) l1 l2 r M | _ => none
  | .astore_n k => match st with | .ref x :: r => ak_s1 k (.ref x) (pc + 1) l1 l2 r M | _ => none
  | .astore i => match st with | .ref x :: r => ak_s1 i (.ref x) (pc + 2) l1 l2 r M | _ => none
  | .dstore i => match st with | .double x :: r => ak_s2 i (.double x) (pc + 2) l1 l2 r M | _ => none
  | .iinc i n => match l1[i]? with | some (some (.int x)) => ak_s1 i (.int (x + Int32.ofInt n)) (pc + 3) l1 l2 st M | _ => none
  | .iadd => match st with | .int y :: .int x :: r => ak_n (pc + 1) l1 l2 (.int (x + y) :: r) M | _ => none
  | .isub => match st with | .int y :: .int x :: r => ak_n (pc + 1) l1 l2 (.int (x - y) :: r) M | _ => none
  | .imul => match st with | .int y :: .int x :: r => ak_n (pc + 1) l1 l2 (.int (x * y) :: r) M | _ => none
  | .iand => match st with | .int y :: .int x :: r => ak_n (pc + 1) l1 l2 (.int (x &&& y) :: r) M | _ => none
  | .ior => match st with | .int y :: .int x :: r => ak_n (pc + 1) l1 l2 (.int (x ||| y) :: r) M | _ => none
  | .ixor => match st with | .int y :: .int x :: r => ak_n (pc + 1) l1 l2 (.int (x ^^^ y) :: r) M | _ => none
  | .idiv => match st with | .int y :: .int x :: r => if y = 0 then none else ak_n (pc + 1) l1 l2 (.int (x / y) :: r) M | _ => none
  | .irem => match st with | .int y :: .int x :: r => if y = 0 then none else ak_n (pc + 1) l1 l2 (.int (x - x / y * y) :: r) M | _ => none
  | .ineg => match st with | .int x :: r => ak_n (pc + 1) l1 l2 (.int (-x) :: r) M | _ => none
  | .ishl => match st with | .int y :: .int x :: r => ak_n (pc + 1) l1 l2 (.int (x <<< (y &&& 31)) :: r) M | _ => none
  | .ishr => match st with | .int y :: .int x :: r => ak_n (pc + 1) l1 l2 (.int (x >>> (y &&& 31)) :: r) M | _ => none
  | .lsub => match st with | .long y :: .long x :: r => ak_n (pc + 1) l1 l2 (.long (x - y) :: r) M | _ => none
  | .lcmp => match st with | .long y :: .long x :: r => ak_n (pc + 1) l1 l2 (.int (lg_cmp x y) :: r) M | _ => none
  | .i2l => match st with | .int x :: r => ak_n (pc + 1) l1 l2 (.long x.toInt64 :: r) M | _ => none
  | .i2b => match st with | .int x :: r => ak_n (pc + 1) l1 l2 (.int x.toInt8.toInt32 :: r) M | _ => none
  | .i2c => match st with | .int x :: r => ak_n (pc + 1) l1 l2 (.int (x.toUInt32 % 65536).toInt32 :: r) M | _ => none
  | .i2f => match st with | .int x :: r => ak_n (pc + 1) l1 l2 (.float (FP.i2f x) :: r) M | _ => none
  | .i2d => match st with | .int x :: r => ak_n (pc + 1) l1 l2 (.double (FP.i2d x) :: r) M | _ => none
  | .f2d => match st with | .float x :: r => if (FP.f2d x) &&& 0x7fffffffffffffff ≤ 0x7ff0000000000000 then ak_n (pc + 1) l1 l2 (.double (FP.f2d x) :: r) M else none | _ => none
  | .fdiv => match st with | .float y :: .float x :: r => if (FP.fdiv x y) &&& 0x7fffffff ≤ 0x7f800000 then ak_n (pc + 1) l1 l2 (.float (FP.fdiv x y) :: r) M else none | _ => none
  | .ddiv => match st with | .double y :: .double x :: r => if (FP.ddiv x y) &&& 0x7fffffffffffffff ≤ 0x7ff0000000000000 then ak_n (pc + 1) l1 l2 (.double (FP.ddiv x y) :: r) M else none | _ => none
  | .fcmp op => match st with | .float y :: .float x :: r => ak_n (pc + 1) l1 l2 (.int (Op.cmpValue (FP.fcmp x y) op) :: r) M | _ => none
  | .dcmp op => match st with | .double y :: .double x :: r => ak_n (pc + 1) l1 l2 (.int (Op.cmpValue (FP.dcmp x y) op) :: r) M | _ => none
  | .dup => match st with | v :: r => if v.category = 1 then ak_n (pc + 1) l1 l2 (v :: v :: r) M else none | _ => none
  | .dup_x1 => match st with | v :: w :: r => if v.category = 1 ∧ w.category = 1 then ak_n (pc + 1) l1 l2 (v :: w :: v :: r) M else none | _ => none
  | .dup2 => match st with | v :: w :: r => if v.category = 1 ∧ w.category = 1 then ak_n (pc + 1) l1 l2 (v :: w :: v :: w :: r) M else none | _ => none
  | .aconst_null => ak_n (pc + 1) l1 l2 (.null :: st) M
  | .ifnonnull off => match st with | .ref _ :: r => ak_j pc off l1 l2 r M | _ => none
  | .checkcast idx => match st with | .ref p :: r => if p < ak_P M ∧ ak_K M p = 101 ∧ am_O mi = 58 ∧ idx = 311 then ak_n (pc + 3) l1 l2 (.ref p :: r) M else none | _ => none
  | .pop => match st with | v :: r => if v.category = 1 then ak_n (pc + 1) l1 l2 r M else none | _ => none
  | .goto off => ak_j pc off l1 l2 st M
  | .ifCond .eq off => match st with | .int x :: r => if x = 0 then ak_j pc off l1 l2 r M else ak_n (pc + 3) l1 l2 r M | _ => none
  | .ifCond .ne off => match st with | .int x :: r => if x = 0 then ak_n (pc + 3) l1 l2 r M else ak_j pc off l1 l2 r M | _ => none
  | .ifCond .lt off => match st with | .int x :: r => if x < 0 then ak_j pc off l1 l2 r M else ak_n (pc + 3) l1 l2 r M | _ => none
  | .ifCond .ge off => match st with | .int x :: r => if 0 ≤ x then ak_j pc off l1 l2 r M else ak_n (pc + 3) l1 l2 r M | _ => none
  | .ifCond .gt off => match st with | .int x :: r => if 0 < x then ak_j pc off l1 l2 r M else ak_n (pc + 3) l1 l2 r M | _ => none
  | .ifCond .le off => match st with | .int x :: r => if x ≤ 0 then ak_j pc off l1 l2 r M else ak_n (pc + 3) l1 l2 r M | _ => none
  | .if_icmp .eq off => match st with | .int y :: .int x :: r => if x = y then ak_j pc off l1 l2 r M else ak_n (pc + 3) l1 l2 r M | _ => none
  | .if_icmp .ne off => match st with | .int y :: .int x :: r => if x = y then ak_n (pc + 3) l1 l2 r M else ak_j pc off l1 l2 r M | _ => none
  | .if_icmp .lt off => match st with | .int y :: .int x :: r => if x < y then ak_j pc off l1 l2 r M else ak_n (pc + 3) l1 l2 r M | _ => none
  | .if_icmp .ge off => match st with | .int y :: .int x :: r => if y ≤ x then ak_j pc off l1 l2 r M else ak_n (pc + 3) l1 l2 r M | _ => none
  | .if_icmp .gt off => match st with | .int y :: .int x :: r => if y < x then ak_j pc off l1 l2 r M else ak_n (pc + 3) l1 l2 r M | _ => none
  | .if_icmp .le off => match st with | .int y :: .int x :: r => if x ≤ y then ak_j pc off l1 l2 r M else ak_n (pc + 3) l1 l2 r M | _ => none
  | .tableswitch d lo hi offs => match st with
    | .int x :: r => if x.toInt < lo ∨ hi < x.toInt then ak_j pc d l1 l2 r M else (match offs[(x.toInt - lo).toNat]? with | some o => ak_j pc o l1 l2 r M | none => none)
    | _ => none
  | .lookupswitch d ps => match st with
    | .int x :: r => if (ps.toList.zip (ps.toList.drop 1)).all (fun (a, next) => a.1 < next.1) = true then ak_j pc (Op.lookupswitch.offset ps.toList d x.toInt) l1 l2 r M else none
    | _ => none
  | .getfield idx => match st with
    | .ref p :: r => (match am_F (am_O mi) idx with
      | some (ci, k, _) =>
        if p < ak_P M then (if ci < 14 ∧ ak_K M p = ci then ak_n (pc + 3) l1 l2 ((if am_f ci k = 2 then ak_rv (ak_R M p k) else .int (ak_I M p k)) :: r) M else none)
        else if ci = 13 ∧ k < 2 ∧ 1001000 ≤ p ∧ p < 1001025 then ak_n (pc + 3) l1 l2 ((if k = 0 then .ref (p + 1000) else .int 0) :: r) M else none
      | none => none)
    | _ => none
  | .putfield idx => match st with
    | v :: .ref p :: r => (match am_F (am_O mi) idx with
      | some (ci, k, _) =>
        if p < ak_P M ∧ ak_K M p = ci ∧ ci < 14 then
          (match v with
          | .int x => if am_f ci k = 0 ∨ (am_f ci k = 1 ∧ (x = 0 ∨ x = 1)) ∨ (am_f ci k = 3 ∧ ak_isB x = true) then ak_n (pc + 3) l1 l2 r (ak_sI M p k x) else none
          | .ref q => if am_f ci k = 2 ∧ q < ak_P M then ak_n (pc + 3) l1 l2 r (ak_sR M p k (some q)) else none
          | _ => none)
        else none
      | none => none)
    | _ => none
  | .getstatic idx => match am_S (am_O mi) idx with
    | some (w, _) => if w < 3 then ak_n (pc + 3) l1 l2 (.ref (1000001 + w) :: st) M else if w = 3 then ak_n (pc + 3) l1 l2 (.int 1 :: st) M else if w = 4 then ak_n (pc + 3) l1 l2 ((if X.2.2 = true then .null else .ref 1003000) :: st) M else ak_n (pc + 3) l1 l2 (.ref (999999 + w) :: st) M
    | none => none
  | .new idx => match am_W (am_O mi) idx with
    | some (ci, _) => if ak_P M < 900000 then ak_n (pc + 3) l1 l2 (.ref (ak_P M) :: st) (ak_new M ci 0 (am_nf ci)) else none
    | none => match am_T mi pc with
      | some (E, _) => if ak_cat st ≤ 8 then ak_e (.inr E) (ak_use M 1 6) else none
      | none => none
  | .newarray t => match st with
    | .int n :: r => if ak_P M < 900000 ∧ ¬ n < 0 ∧ n.toNatClampNeg ≤ 60000000 then
        (match t with
        | .int => ak_n (pc + 2) l1 l2 (.ref (ak_P M) :: r) (ak_new M 100 n.toNatClampNeg n.toNatClampNeg)
        | .byte => ak_n (pc + 2) l1 l2 (.ref (ak_P M) :: r) (ak_new M 101 n.toNatClampNeg n.toNatClampNeg)
        | _ => none) else none
    | _ => none
  | .anewarray idx => match st with
    | .int n :: r => (match am_V (am_O mi) idx with
      | some (t, _) => if ak_P M < 900000 ∧ ¬ n < 0 ∧ n.toNatClampNeg ≤ 60000000 then ak_n (pc + 3) l1 l2 (.ref (ak_P M) :: r) (ak_new M (100 + t) n.toNatClampNeg n.toNatClampNeg) else none
      | none => none)
    | _ => none
  | .multianewarray idx dim => match st with
    | .int k :: .int n :: r => if am_O mi = 6 ∧ idx = 9 ∧ dim = 2 ∧ ak_P M < 900000 ∧ ¬ n < 0 ∧ ¬ k < 0 ∧ n.toNatClampNeg ≤ 1000 ∧ k.toNatClampNeg ≤ 1000 then ak_n (pc + 4) l1 l2 (.ref (ak_P M) :: r) (ak_mna M n.toNatClampNeg k.toNatClampNeg) else none
    | _ => none
  | .arraylength => match st with
    | .ref p :: r => if p < ak_P M then (if 100 ≤ ak_K M p then ak_n (pc + 1) l1 l2 (.int (Int32.ofNat (ak_N M p)) :: r) M else none)
        else if 1000000 ≤ p ∧ (ak_cK p = 100 ∨ ak_cK p = 101) then ak_n (pc + 1) l1 l2 (.int (Int32.ofNat (ak_cN X p)) :: r) M else none
    | _ => none
  | .iaload => match st with
    | .int i :: .ref p :: r => if p < ak_P M then (if ak_K M p = 100 ∧ ak_ix i (ak_N M p) = true then ak_n (pc + 1) l1 l2 (.int (ak_I M p i.toNatClampNeg) :: r) M else none)
        else if 1000000 ≤ p ∧ ak_cK p = 100 ∧ ak_ix i (ak_cN X p) = true then ak_n (pc + 1) l1 l2 (.int (ak_cI X p i.toNatClampNeg) :: r) M else none
    | _ => none
  | .baload => match st with
    | .int i :: .ref p :: r => if p < ak_P M then (if ak_K M p = 101 ∧ ak_ix i (ak_N M p) = true then ak_n (pc + 1) l1 l2 (.int (ak_I M p i.toNatClampNeg) :: r) M else none)
        else if 1000000 ≤ p ∧ ak_cK p = 101 ∧ ak_ix i (ak_cN X p) = true then ak_n (pc + 1) l1 l2 (.int (ak_cI X p i.toNatClampNeg) :: r) M else none
    | _ => none
  | .aaload => match st with
    | .int i :: .ref p :: r => if p < ak_P M ∧ 105 ≤ ak_K M p ∧ ak_K M p ≤ 109 ∧ ak_ix i (ak_N M p) = true then ak_n (pc + 1) l1 l2 (ak_rv (ak_R M p i.toNatClampNeg) :: r) M else none
    | _ => none
  | .iastore => match st with
    | .int x :: .int i :: .ref p :: r => if p < ak_P M ∧ ak_K M p = 100 ∧ ak_ix i (ak_N M p) = true then ak_n (pc + 1) l1 l2 r (ak_sI M p i.toNatClampNeg x) else none
    | _ => none
  | .bastore => match st with
    | .int x :: .int i :: .ref p :: r => if p < ak_P M ∧ ak_ix i (ak_N M p) = true then
        (if ak_K M p = 101 then ak_n (pc + 1) l1 l2 r (ak_sI M p i.toNatClampNeg (vp_nar .byte x)) else none) else none
    | _ => none
  | .aastore => match st with
    | .ref q :: .int i :: .ref p :: r => if p < ak_P M ∧ 105 ≤ ak_K M p ∧ ak_K M p ≤ 108 ∧ ak_ix i (ak_N M p) = true ∧ q < ak_P M ∧ ak_K M q = ak_ek (ak_K M p) then ak_n (pc + 1) l1 l2 r (ak_sR M p i.toNatClampNeg (some q)) else none
    | _ => none
  | .ldc idx => match am_G (am_O mi) idx with
    | some s => ak_n (pc + 2) l1 l2 (.ref (1001000 + s) :: st) M
    | none => match am_U (am_O mi) idx with
      | some v => ak_n (pc + 2) l1 l2 (.int v :: st) M
      | none => none
  | .ldc_w idx => match am_G (am_O mi) idx with
    | some s => ak_n (pc + 3) l1 l2 (.ref (1001000 + s) :: st) M
    | none => none
  | .ldc2_w idx => match am_J (am_O mi) idx with
    | some v => ak_n (pc + 3) l1 l2 (.long v :: st) M
    | none => none
  | .invokevirtual idx => ak_inv X mi idx 0 pc l1 l2 st M
  | .invokestatic idx => ak_inv X mi idx 1 pc l1 l2 st M
  | .invokespecial idx => ak_inv X mi idx 2 pc l1 l2 st M
  | .ireturn => match st with
    | [.int x] => if ak_iok (am_R mi) x = true then ak_e (.inl (some (.int x))) M else none
    | _ => none
  | .areturn => match st with
    | [.ref p] => if ak_isR (am_R mi) = true then ak_e (.inl (some (.ref p))) M else none
    | _ => none
  | .freturn => match st with
    | [.float x] => if am_R mi = some .float then ak_e (.inl (some (.float x))) M else none
    | _ => none
  | .dreturn => match st with
    | [.double x] => if am_R mi = some .double then ak_e (.inl (some (.double x))) M else none
    | _ => none
  | .return_ => match st with
    | [] => if am_R mi = none then ak_e (.inl none) M else none
    | _ => none
  | _ => none
def ak_S (X : ak_X) (mi : Nat) (f : ak_F) (M : ak_M) : Option ak_Act := match am_A mi f.1 with
  | some ins => ak_x X mi ins f.1 f.2.1 f.2.2.1 f.2.2.2 M
  | none => none
def ak_ct (c : Nat) : Nat := if c = 13 then 0 else if c = 15 then 1 else if c = 30 then 2 else 9
/-- where an exception is caught -/
def ak_h (hh : List (Nat × Nat × Nat × Nat)) (pc E : Nat) : Option Nat := (hh.find? (fun q => decide (q.1 ≤ pc) && decide (pc < q.2.1) && decide (ak_ct q.2.2.2 = E))).map (·.2.2.1)
/-- a run of a method from a frame on, with fuel -/
def ak_go (X : ak_X) : Nat → Nat → ak_F → ak_M → Option (ak_O × ak_M)
  | 0, _, _, _ => none
  | n + 1, mi, f, M => match ak_S X mi f M with
    | none => none
    | some (.inl (f', M')) => ak_go X n mi f' M'
    | some (.inr (.inl r)) => some r
    | some (.inr (.inr (cal, args, g, M1))) => match ak_go X n cal (ak_en cal args) M1 with
      | none => none
      | some (.inl v, M2) => ak_go X n mi (g.1, g.2.1, g.2.2.1, v.toList ++ g.2.2.2) M2
      | some (.inr E, M2) => if am_th.contains cal = true then (if (am_H mi).isEmpty = true then some (.inr E, M2) else match ak_h (am_H mi) (g.1 - 3) E with
          | some t => ak_go X n mi (t, g.2.1, g.2.2.1, [.ref (3000000 + ak_C M2)]) (ak_use M2 1 0)
          | none => none) else none
