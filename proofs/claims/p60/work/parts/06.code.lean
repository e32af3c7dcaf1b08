/-! the code of each method is that of the printed bytes, laid by wip/p60/lay06.py -/
def am_len : Instr → Nat
  | .iconst _ => 1 | .bipush _ => 2 | .sipush _ => 3 | .lconst _ => 1 | .fconst _ => 1 | .dconst _ => 1
  | .iload_n _ => 1 | .iload _ => 2 | .fload _ => 2 | .aload_n _ => 1 | .aload _ => 2 | .lload_n _ => 1 | .lload _ => 2 | .dload_n _ => 1 | .dload _ => 2
  | .istore_n _ => 1 | .istore _ => 2 | .fstore _ => 2 | .astore_n _ => 1 | .astore _ => 2 | .dstore _ => 2 | .iinc _ _ => 3
  | .ifCond _ _ => 3 | .if_icmp _ _ => 3 | .goto _ => 3 | .tableswitch _ _ _ _ => 0 | .lookupswitch _ _ => 0
  | .getfield _ => 3 | .putfield _ => 3 | .getstatic _ => 3 | .new _ => 3 | .newarray _ => 2 | .anewarray _ => 3 | .multianewarray _ _ => 4
  | .ldc _ => 2 | .ldc_w _ => 3 | .ldc2_w _ => 3 | .invokevirtual _ => 3 | .invokestatic _ => 3 | .invokespecial _ => 3 | .ifnonnull _ => 3 | .checkcast _ => 3
  | _ => 1
def am_k1 (cc : ByteArray) (q : Nat × Instr) : Bool := match decode cc q.1 with | .ok (i, n) => decide (i = q.2) && (am_len i == 0 || n == am_len i) | .error _ => false
def am_kL (cc : ByteArray) (l : List (Nat × Instr)) : Bool := l.all (am_k1 cc)
theorem am_kL2 {cc : ByteArray} {a b : List (Nat × Instr)} (h1 : am_kL cc a = true) (h2 : am_kL cc b = true) : am_kL cc (a ++ b) = true := by
  unfold am_kL at *
  rw [List.all_append, h1, h2]; rfl
