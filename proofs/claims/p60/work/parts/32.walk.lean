/-! the walk of the small machine, an instruction at a time -/
section SGW
variable {X : ak_X} {mi pc n : Nat} {l1 : List (Option Value)} {l2 : List (Nat × Value)} {st : List Value} {M : ak_M} {r : ak_O × ak_M}
theorem w_iconst {v : Int} {x : Int32} (h : am_A mi pc = some (.iconst v)) (hn : pc + 1 = n) (hx : Int32.ofInt v = x) (k : sg X mi (n, l1, l2, .int x :: st) M r) : sg X mi (pc, l1, l2, st) M r := by
  subst hn
  exact sg_nx ((ak_SA h).trans (by rw [← hx]; rfl)) k
theorem w_bipush {v : Int} {x : Int32} (h : am_A mi pc = some (.bipush v)) (hn : pc + 2 = n) (hx : (Int8.ofInt v).toInt32 = x) (k : sg X mi (n, l1, l2, .int x :: st) M r) : sg X mi (pc, l1, l2, st) M r := by
  subst hn
  exact sg_nx ((ak_SA h).trans (by rw [← hx]; rfl)) k
theorem w_sipush {v : Int} {x : Int32} (h : am_A mi pc = some (.sipush v)) (hn : pc + 3 = n) (hx : (Int16.ofInt v).toInt32 = x) (k : sg X mi (n, l1, l2, .int x :: st) M r) : sg X mi (pc, l1, l2, st) M r := by
  subst hn
  exact sg_nx ((ak_SA h).trans (by rw [← hx]; rfl)) k
theorem w_lconst {v : Fin 2} {x : Int64} (h : am_A mi pc = some (.lconst v)) (hn : pc + 1 = n) (hx : Int64.ofNat (v : Nat) = x) (k : sg X mi (n, l1, l2, .long x :: st) M r) : sg X mi (pc, l1, l2, st) M r := by
  subst hn
  exact sg_nx ((ak_SA h).trans (by rw [← hx]; rfl)) k
theorem w_fconst  (h : am_A mi pc = some (.fconst 0)) (hn : pc + 1 = n) (k : sg X mi (n, l1, l2, .float FP.fconst0 :: st) M r) : sg X mi (pc, l1, l2, st) M r := by
  subst hn
  exact sg_nx ((ak_SA h).trans (rfl)) k
theorem w_dconst  (h : am_A mi pc = some (.dconst 0)) (hn : pc + 1 = n) (k : sg X mi (n, l1, l2, .double FP.dconst0 :: st) M r) : sg X mi (pc, l1, l2, st) M r := by
  subst hn
  exact sg_nx ((ak_SA h).trans (rfl)) k
theorem w_iload_n {i : Fin 4} {x : Int32} (h : am_A mi pc = some (.iload_n i)) (hn : pc + 1 = n) (hl : l1[(i : Nat)]? = some (some (.int x))) (k : sg X mi (n, l1, l2, .int x :: st) M r) : sg X mi (pc, l1, l2, st) M r := by
  subst hn
  exact sg_nx ((ak_SA h).trans (by simp only [ak_x]; unfold ak_ld; rw [hl]; rfl)) k
theorem w_iload {i : Nat} {x : Int32} (h : am_A mi pc = some (.iload i)) (hn : pc + 2 = n) (hl : l1[i]? = some (some (.int x))) (k : sg X mi (n, l1, l2, .int x :: st) M r) : sg X mi (pc, l1, l2, st) M r := by
  subst hn
  exact sg_nx ((ak_SA h).trans (by simp only [ak_x]; unfold ak_ld; rw [hl]; rfl)) k
theorem w_aload_n {i : Fin 4} {x : Nat} (h : am_A mi pc = some (.aload_n i)) (hn : pc + 1 = n) (hl : l1[(i : Nat)]? = some (some (.ref x))) (k : sg X mi (n, l1, l2, .ref x :: st) M r) : sg X mi (pc, l1, l2, st) M r := by
  subst hn
  exact sg_nx ((ak_SA h).trans (by simp only [ak_x]; unfold ak_ld; rw [hl]; rfl)) k
theorem w_aload {i : Nat} {x : Nat} (h : am_A mi pc = some (.aload i)) (hn : pc + 2 = n) (hl : l1[i]? = some (some (.ref x))) (k : sg X mi (n, l1, l2, .ref x :: st) M r) : sg X mi (pc, l1, l2, st) M r := by
  subst hn
  exact sg_nx ((ak_SA h).trans (by simp only [ak_x]; unfold ak_ld; rw [hl]; rfl)) k
theorem w_fload {i : Nat} {x : UInt32} (h : am_A mi pc = some (.fload i)) (hn : pc + 2 = n) (hl : l1[i]? = some (some (.float x))) (k : sg X mi (n, l1, l2, .float x :: st) M r) : sg X mi (pc, l1, l2, st) M r := by
  subst hn
  exact sg_nx ((ak_SA h).trans (by simp only [ak_x]; unfold ak_ld; rw [hl]; rfl)) k
theorem w_lload_n {i : Fin 4} {x : Int64} (h : am_A mi pc = some (.lload_n i)) (hn : pc + 1 = n) (hl : ak_g2 l2 (i : Nat) = some (.long x)) (k : sg X mi (n, l1, l2, .long x :: st) M r) : sg X mi (pc, l1, l2, st) M r := by
  subst hn
  exact sg_nx ((ak_SA h).trans (by simp only [ak_x]; unfold ak_ld2; rw [hl]; rfl)) k
theorem w_lload {i : Nat} {x : Int64} (h : am_A mi pc = some (.lload i)) (hn : pc + 2 = n) (hl : ak_g2 l2 i = some (.long x)) (k : sg X mi (n, l1, l2, .long x :: st) M r) : sg X mi (pc, l1, l2, st) M r := by
  subst hn
  exact sg_nx ((ak_SA h).trans (by simp only [ak_x]; unfold ak_ld2; rw [hl]; rfl)) k
theorem w_dload_n {i : Fin 4} {x : UInt64} (h : am_A mi pc = some (.dload_n i)) (hn : pc + 1 = n) (hl : ak_g2 l2 (i : Nat) = some (.double x)) (k : sg X mi (n, l1, l2, .double x :: st) M r) : sg X mi (pc, l1, l2, st) M r := by
  subst hn
  exact sg_nx ((ak_SA h).trans (by simp only [ak_x]; unfold ak_ld2; rw [hl]; rfl)) k
theorem w_dload {i : Nat} {x : UInt64} (h : am_A mi pc = some (.dload i)) (hn : pc + 2 = n) (hl : ak_g2 l2 i = some (.double x)) (k : sg X mi (n, l1, l2, .double x :: st) M r) : sg X mi (pc, l1, l2, st) M r := by
  subst hn
  exact sg_nx ((ak_SA h).trans (by simp only [ak_x]; unfold ak_ld2; rw [hl]; rfl)) k
theorem w_istore_n {i : Fin 4} {x : Int32} {l1' : List (Option Value)} {l2' : List (Nat × Value)} (h : am_A mi pc = some (.istore_n i)) (hn : pc + 1 = n) (hi : (i : Nat) < l1.length) (h1 : l1.set (i : Nat) (some (.int x)) = l1') (h2 : l2.filter (fun q => !(q.1 == (i : Nat)) && !(q.1 + 1 == (i : Nat))) = l2') (k : sg X mi (n, l1', l2', st) M r) : sg X mi (pc, l1, l2, .int x :: st) M r := by
  subst hn
  exact sg_nx ((ak_SA h).trans (by subst h1; subst h2; simp only [ak_x]; unfold ak_s1; rw [if_pos hi]; rfl)) k
theorem w_istore {i : Nat} {x : Int32} {l1' : List (Option Value)} {l2' : List (Nat × Value)} (h : am_A mi pc = some (.istore i)) (hn : pc + 2 = n) (hi : i < l1.length) (h1 : l1.set i (some (.int x)) = l1') (h2 : l2.filter (fun q => !(q.1 == i) && !(q.1 + 1 == i)) = l2') (k : sg X mi (n, l1', l2', st) M r) : sg X mi (pc, l1, l2, .int x :: st) M r := by
  subst hn
  exact sg_nx ((ak_SA h).trans (by subst h1; subst h2; simp only [ak_x]; unfold ak_s1; rw [if_pos hi]; rfl)) k
theorem w_astore_n {i : Fin 4} {x : Nat} {l1' : List (Option Value)} {l2' : List (Nat × Value)} (h : am_A mi pc = some (.astore_n i)) (hn : pc + 1 = n) (hi : (i : Nat) < l1.length) (h1 : l1.set (i : Nat) (some (.ref x)) = l1') (h2 : l2.filter (fun q => !(q.1 == (i : Nat)) && !(q.1 + 1 == (i : Nat))) = l2') (k : sg X mi (n, l1', l2', st) M r) : sg X mi (pc, l1, l2, .ref x :: st) M r := by
  subst hn
  exact sg_nx ((ak_SA h).trans (by subst h1; subst h2; simp only [ak_x]; unfold ak_s1; rw [if_pos hi]; rfl)) k
theorem w_astore {i : Nat} {x : Nat} {l1' : List (Option Value)} {l2' : List (Nat × Value)} (h : am_A mi pc = some (.astore i)) (hn : pc + 2 = n) (hi : i < l1.length) (h1 : l1.set i (some (.ref x)) = l1') (h2 : l2.filter (fun q => !(q.1 == i) && !(q.1 + 1 == i)) = l2') (k : sg X mi (n, l1', l2', st) M r) : sg X mi (pc, l1, l2, .ref x :: st) M r := by
  subst hn
  exact sg_nx ((ak_SA h).trans (by subst h1; subst h2; simp only [ak_x]; unfold ak_s1; rw [if_pos hi]; rfl)) k
theorem w_fstore {i : Nat} {x : UInt32} {l1' : List (Option Value)} {l2' : List (Nat × Value)} (h : am_A mi pc = some (.fstore i)) (hn : pc + 2 = n) (hi : i < l1.length) (h1 : l1.set i (some (.float x)) = l1') (h2 : l2.filter (fun q => !(q.1 == i) && !(q.1 + 1 == i)) = l2') (k : sg X mi (n, l1', l2', st) M r) : sg X mi (pc, l1, l2, .float x :: st) M r := by
  subst hn
  exact sg_nx ((ak_SA h).trans (by subst h1; subst h2; simp only [ak_x]; unfold ak_s1; rw [if_pos hi]; rfl)) k
theorem w_dstore {i : Nat} {x : UInt64} {l1' : List (Option Value)} {l2' : List (Nat × Value)} (h : am_A mi pc = some (.dstore i)) (hn : pc + 2 = n) (hi : i + 1 < l1.length) (h1 : (l1.set i none).set (i + 1) none = l1') (h2 : (i, .double x) :: l2.filter (fun q => !(q.1 == i) && (!(q.1 == i + 1) && !(q.1 + 1 == i))) = l2') (k : sg X mi (n, l1', l2', st) M r) : sg X mi (pc, l1, l2, .double x :: st) M r := by
  subst hn
  exact sg_nx ((ak_SA h).trans (by subst h1; subst h2; simp only [ak_x]; unfold ak_s2; rw [if_pos hi]; rfl)) k
theorem w_iinc {i : Nat} {v : Int} {x y : Int32} {l1' : List (Option Value)} {l2' : List (Nat × Value)} (h : am_A mi pc = some (.iinc i v)) (hn : pc + 3 = n) (hl : l1[i]? = some (some (.int x))) (hy : x + Int32.ofInt v = y) (h1 : l1.set i (some (.int y)) = l1') (h2 : l2.filter (fun q => !(q.1 == i) && !(q.1 + 1 == i)) = l2') (k : sg X mi (n, l1', l2', st) M r) : sg X mi (pc, l1, l2, st) M r := by
  subst hn
  exact sg_nx ((ak_SA h).trans (by subst hy; subst h1; subst h2; simp only [ak_x]; rw [hl]; dsimp only; unfold ak_s1; rw [if_pos (List.getElem?_eq_some_iff.mp hl).1]; rfl)) k
theorem w_iadd {x y : Int32} (h : am_A mi pc = some (.iadd)) (hn : pc + 1 = n) (k : sg X mi (n, l1, l2, .int (x + y) :: st) M r) : sg X mi (pc, l1, l2, .int y :: .int x :: st) M r := by
  subst hn
  exact sg_nx ((ak_SA h).trans (rfl)) k
theorem w_isub {x y : Int32} (h : am_A mi pc = some (.isub)) (hn : pc + 1 = n) (k : sg X mi (n, l1, l2, .int (x - y) :: st) M r) : sg X mi (pc, l1, l2, .int y :: .int x :: st) M r := by
  subst hn
  exact sg_nx ((ak_SA h).trans (rfl)) k
theorem w_imul {x y : Int32} (h : am_A mi pc = some (.imul)) (hn : pc + 1 = n) (k : sg X mi (n, l1, l2, .int (x * y) :: st) M r) : sg X mi (pc, l1, l2, .int y :: .int x :: st) M r := by
  subst hn
  exact sg_nx ((ak_SA h).trans (rfl)) k
theorem w_iand {x y : Int32} (h : am_A mi pc = some (.iand)) (hn : pc + 1 = n) (k : sg X mi (n, l1, l2, .int (x &&& y) :: st) M r) : sg X mi (pc, l1, l2, .int y :: .int x :: st) M r := by
  subst hn
  exact sg_nx ((ak_SA h).trans (rfl)) k
theorem w_ior {x y : Int32} (h : am_A mi pc = some (.ior)) (hn : pc + 1 = n) (k : sg X mi (n, l1, l2, .int (x ||| y) :: st) M r) : sg X mi (pc, l1, l2, .int y :: .int x :: st) M r := by
  subst hn
  exact sg_nx ((ak_SA h).trans (rfl)) k
theorem w_ixor {x y : Int32} (h : am_A mi pc = some (.ixor)) (hn : pc + 1 = n) (k : sg X mi (n, l1, l2, .int (x ^^^ y) :: st) M r) : sg X mi (pc, l1, l2, .int y :: .int x :: st) M r := by
  subst hn
  exact sg_nx ((ak_SA h).trans (rfl)) k
theorem w_ishl {x y : Int32} (h : am_A mi pc = some (.ishl)) (hn : pc + 1 = n) (k : sg X mi (n, l1, l2, .int (x <<< (y &&& 31)) :: st) M r) : sg X mi (pc, l1, l2, .int y :: .int x :: st) M r := by
  subst hn
  exact sg_nx ((ak_SA h).trans (rfl)) k
theorem w_ishr {x y : Int32} (h : am_A mi pc = some (.ishr)) (hn : pc + 1 = n) (k : sg X mi (n, l1, l2, .int (x >>> (y &&& 31)) :: st) M r) : sg X mi (pc, l1, l2, .int y :: .int x :: st) M r := by
  subst hn
  exact sg_nx ((ak_SA h).trans (rfl)) k
theorem w_idiv {x y : Int32} (h : am_A mi pc = some (.idiv)) (hn : pc + 1 = n) (hy : y ≠ 0) (k : sg X mi (n, l1, l2, .int (x / y) :: st) M r) : sg X mi (pc, l1, l2, .int y :: .int x :: st) M r := by
  subst hn
  exact sg_nx ((ak_SA h).trans (by simp only [ak_x]; rw [if_neg hy]; rfl)) k
theorem w_irem {x y : Int32} (h : am_A mi pc = some (.irem)) (hn : pc + 1 = n) (hy : y ≠ 0) (k : sg X mi (n, l1, l2, .int (x - x / y * y) :: st) M r) : sg X mi (pc, l1, l2, .int y :: .int x :: st) M r := by
  subst hn
  exact sg_nx ((ak_SA h).trans (by simp only [ak_x]; rw [if_neg hy]; rfl)) k
theorem w_ineg {x : Int32} (h : am_A mi pc = some (.ineg)) (hn : pc + 1 = n) (k : sg X mi (n, l1, l2, .int (-x) :: st) M r) : sg X mi (pc, l1, l2, .int x :: st) M r := by
  subst hn
  exact sg_nx ((ak_SA h).trans (rfl)) k
theorem w_lsub {x y : Int64} (h : am_A mi pc = some (.lsub)) (hn : pc + 1 = n) (k : sg X mi (n, l1, l2, .long (x - y) :: st) M r) : sg X mi (pc, l1, l2, .long y :: .long x :: st) M r := by
  subst hn
  exact sg_nx ((ak_SA h).trans (rfl)) k
theorem w_lcmp {x y : Int64} (h : am_A mi pc = some (.lcmp)) (hn : pc + 1 = n) (k : sg X mi (n, l1, l2, .int (lg_cmp x y) :: st) M r) : sg X mi (pc, l1, l2, .long y :: .long x :: st) M r := by
  subst hn
  exact sg_nx ((ak_SA h).trans (rfl)) k
theorem w_i2l {x : Int32} (h : am_A mi pc = some (.i2l)) (hn : pc + 1 = n) (k : sg X mi (n, l1, l2, .long x.toInt64 :: st) M r) : sg X mi (pc, l1, l2, .int x :: st) M r := by
  subst hn
  exact sg_nx ((ak_SA h).trans (rfl)) k
theorem w_i2b {x : Int32} (h : am_A mi pc = some (.i2b)) (hn : pc + 1 = n) (k : sg X mi (n, l1, l2, .int x.toInt8.toInt32 :: st) M r) : sg X mi (pc, l1, l2, .int x :: st) M r := by
  subst hn
  exact sg_nx ((ak_SA h).trans (rfl)) k
theorem w_i2c {x : Int32} (h : am_A mi pc = some (.i2c)) (hn : pc + 1 = n) (k : sg X mi (n, l1, l2, .int (x.toUInt32 % 65536).toInt32 :: st) M r) : sg X mi (pc, l1, l2, .int x :: st) M r := by
  subst hn
  exact sg_nx ((ak_SA h).trans (rfl)) k
theorem w_i2f {x : Int32} (h : am_A mi pc = some (.i2f)) (hn : pc + 1 = n) (k : sg X mi (n, l1, l2, .float (FP.i2f x) :: st) M r) : sg X mi (pc, l1, l2, .int x :: st) M r := by
  subst hn
  exact sg_nx ((ak_SA h).trans (rfl)) k
theorem w_i2d {x : Int32} (h : am_A mi pc = some (.i2d)) (hn : pc + 1 = n) (k : sg X mi (n, l1, l2, .double (FP.i2d x) :: st) M r) : sg X mi (pc, l1, l2, .int x :: st) M r := by
  subst hn
  exact sg_nx ((ak_SA h).trans (rfl)) k
theorem w_f2d {x : UInt32} (h : am_A mi pc = some (.f2d)) (hn : pc + 1 = n) (hy : (FP.f2d x) &&& 0x7fffffffffffffff ≤ 0x7ff0000000000000) (k : sg X mi (n, l1, l2, .double (FP.f2d x) :: st) M r) : sg X mi (pc, l1, l2, .float x :: st) M r := by
  subst hn
  exact sg_nx ((ak_SA h).trans (by simp only [ak_x]; rw [if_pos hy]; rfl)) k
theorem w_fdiv {x y : UInt32} (h : am_A mi pc = some (.fdiv)) (hn : pc + 1 = n) (hy : (FP.fdiv x y) &&& 0x7fffffff ≤ 0x7f800000) (k : sg X mi (n, l1, l2, .float (FP.fdiv x y) :: st) M r) : sg X mi (pc, l1, l2, .float y :: .float x :: st) M r := by
  subst hn
  exact sg_nx ((ak_SA h).trans (by simp only [ak_x]; rw [if_pos hy]; rfl)) k
theorem w_ddiv {x y : UInt64} (h : am_A mi pc = some (.ddiv)) (hn : pc + 1 = n) (hy : (FP.ddiv x y) &&& 0x7fffffffffffffff ≤ 0x7ff0000000000000) (k : sg X mi (n, l1, l2, .double (FP.ddiv x y) :: st) M r) : sg X mi (pc, l1, l2, .double y :: .double x :: st) M r := by
  subst hn
  exact sg_nx ((ak_SA h).trans (by simp only [ak_x]; rw [if_pos hy]; rfl)) k
theorem w_fcmp {x y : UInt32} (h : am_A mi pc = some (.fcmp .l)) (hn : pc + 1 = n) (k : sg X mi (n, l1, l2, .int (Op.cmpValue (FP.fcmp x y) .l) :: st) M r) : sg X mi (pc, l1, l2, .float y :: .float x :: st) M r := by
  subst hn
  exact sg_nx ((ak_SA h).trans (rfl)) k
theorem w_dcmp {x y : UInt64} (h : am_A mi pc = some (.dcmp .l)) (hn : pc + 1 = n) (k : sg X mi (n, l1, l2, .int (Op.cmpValue (FP.dcmp x y) .l) :: st) M r) : sg X mi (pc, l1, l2, .double y :: .double x :: st) M r := by
  subst hn
  exact sg_nx ((ak_SA h).trans (rfl)) k
theorem w_dup_int {x : Int32} (h : am_A mi pc = some (.dup)) (hn : pc + 1 = n) (k : sg X mi (n, l1, l2, .int x :: .int x :: st) M r) : sg X mi (pc, l1, l2, .int x :: st) M r := by
  subst hn
  exact sg_nx ((ak_SA h).trans (by simp only [ak_x]; rw [if_pos (show (Value.int x).category = 1 from rfl)]; rfl)) k
theorem w_pop_int {x : Int32} (h : am_A mi pc = some (.pop)) (hn : pc + 1 = n) (k : sg X mi (n, l1, l2, st) M r) : sg X mi (pc, l1, l2, .int x :: st) M r := by
  subst hn
  exact sg_nx ((ak_SA h).trans (by simp only [ak_x]; rw [if_pos (show (Value.int x).category = 1 from rfl)]; rfl)) k
theorem w_dup_ref {x : Nat} (h : am_A mi pc = some (.dup)) (hn : pc + 1 = n) (k : sg X mi (n, l1, l2, .ref x :: .ref x :: st) M r) : sg X mi (pc, l1, l2, .ref x :: st) M r := by
  subst hn
  exact sg_nx ((ak_SA h).trans (by simp only [ak_x]; rw [if_pos (show (Value.ref x).category = 1 from rfl)]; rfl)) k
theorem w_pop_ref {x : Nat} (h : am_A mi pc = some (.pop)) (hn : pc + 1 = n) (k : sg X mi (n, l1, l2, st) M r) : sg X mi (pc, l1, l2, .ref x :: st) M r := by
  subst hn
  exact sg_nx ((ak_SA h).trans (by simp only [ak_x]; rw [if_pos (show (Value.ref x).category = 1 from rfl)]; rfl)) k
theorem w_dup_float {x : UInt32} (h : am_A mi pc = some (.dup)) (hn : pc + 1 = n) (k : sg X mi (n, l1, l2, .float x :: .float x :: st) M r) : sg X mi (pc, l1, l2, .float x :: st) M r := by
  subst hn
  exact sg_nx ((ak_SA h).trans (by simp only [ak_x]; rw [if_pos (show (Value.float x).category = 1 from rfl)]; rfl)) k
theorem w_pop_float {x : UInt32} (h : am_A mi pc = some (.pop)) (hn : pc + 1 = n) (k : sg X mi (n, l1, l2, st) M r) : sg X mi (pc, l1, l2, .float x :: st) M r := by
  subst hn
  exact sg_nx ((ak_SA h).trans (by simp only [ak_x]; rw [if_pos (show (Value.float x).category = 1 from rfl)]; rfl)) k
theorem w_goto {off : Int} (h : am_A mi pc = some (.goto off)) (hn : (pc : Int) + off = (n : Int)) (k : sg X mi (n, l1, l2, st) M r) : sg X mi (pc, l1, l2, st) M r := by
  refine sg_nx ((ak_SA h).trans ?_) k
  simp only [ak_x]
  unfold ak_j
  rw [hn, if_pos (Int.natCast_nonneg _)]
  rfl
theorem w_if_eq_j {x : Int32} {off : Int} (h : am_A mi pc = some (.ifCond .eq off)) (hn : (pc : Int) + off = (n : Int)) (hc : x = 0) (k : sg X mi (n, l1, l2, st) M r) : sg X mi (pc, l1, l2, .int x :: st) M r := by
  refine sg_nx ((ak_SA h).trans ?_) k
  simp only [ak_x]
  rw [if_pos hc]
  unfold ak_j
  rw [hn, if_pos (Int.natCast_nonneg _)]
  rfl
theorem w_if_eq_n {x : Int32} {off : Int} (h : am_A mi pc = some (.ifCond .eq off)) (hn : pc + 3 = n) (hc : ¬ (x = 0)) (k : sg X mi (n, l1, l2, st) M r) : sg X mi (pc, l1, l2, .int x :: st) M r := by
  subst hn
  refine sg_nx ((ak_SA h).trans ?_) k
  simp only [ak_x]
  rw [if_neg hc]
  rfl
theorem w_icmp_eq_j {x y : Int32} {off : Int} (h : am_A mi pc = some (.if_icmp .eq off)) (hn : (pc : Int) + off = (n : Int)) (hc : x = y) (k : sg X mi (n, l1, l2, st) M r) : sg X mi (pc, l1, l2, .int y :: .int x :: st) M r := by
  refine sg_nx ((ak_SA h).trans ?_) k
  simp only [ak_x]
  rw [if_pos hc]
  unfold ak_j
  rw [hn, if_pos (Int.natCast_nonneg _)]
  rfl
theorem w_icmp_eq_n {x y : Int32} {off : Int} (h : am_A mi pc = some (.if_icmp .eq off)) (hn : pc + 3 = n) (hc : ¬ (x = y)) (k : sg X mi (n, l1, l2, st) M r) : sg X mi (pc, l1, l2, .int y :: .int x :: st) M r := by
  subst hn
  refine sg_nx ((ak_SA h).trans ?_) k
  simp only [ak_x]
  rw [if_neg hc]
  rfl
theorem w_if_ne_j {x : Int32} {off : Int} (h : am_A mi pc = some (.ifCond .ne off)) (hn : (pc : Int) + off = (n : Int)) (hc : ¬ (x = 0)) (k : sg X mi (n, l1, l2, st) M r) : sg X mi (pc, l1, l2, .int x :: st) M r := by
  refine sg_nx ((ak_SA h).trans ?_) k
  simp only [ak_x]
  rw [if_neg hc]
  unfold ak_j
  rw [hn, if_pos (Int.natCast_nonneg _)]
  rfl
theorem w_if_ne_n {x : Int32} {off : Int} (h : am_A mi pc = some (.ifCond .ne off)) (hn : pc + 3 = n) (hc : x = 0) (k : sg X mi (n, l1, l2, st) M r) : sg X mi (pc, l1, l2, .int x :: st) M r := by
  subst hn
  refine sg_nx ((ak_SA h).trans ?_) k
  simp only [ak_x]
  rw [if_pos hc]
  rfl
theorem w_icmp_ne_j {x y : Int32} {off : Int} (h : am_A mi pc = some (.if_icmp .ne off)) (hn : (pc : Int) + off = (n : Int)) (hc : ¬ (x = y)) (k : sg X mi (n, l1, l2, st) M r) : sg X mi (pc, l1, l2, .int y :: .int x :: st) M r := by
  refine sg_nx ((ak_SA h).trans ?_) k
  simp only [ak_x]
  rw [if_neg hc]
  unfold ak_j
  rw [hn, if_pos (Int.natCast_nonneg _)]
  rfl
theorem w_icmp_ne_n {x y : Int32} {off : Int} (h : am_A mi pc = some (.if_icmp .ne off)) (hn : pc + 3 = n) (hc : x = y) (k : sg X mi (n, l1, l2, st) M r) : sg X mi (pc, l1, l2, .int y :: .int x :: st) M r := by
  subst hn
  refine sg_nx ((ak_SA h).trans ?_) k
  simp only [ak_x]
  rw [if_pos hc]
  rfl
theorem w_if_lt_j {x : Int32} {off : Int} (h : am_A mi pc = some (.ifCond .lt off)) (hn : (pc : Int) + off = (n : Int)) (hc : x < 0) (k : sg X mi (n, l1, l2, st) M r) : sg X mi (pc, l1, l2, .int x :: st) M r := by
  refine sg_nx ((ak_SA h).trans ?_) k
  simp only [ak_x]
  rw [if_pos hc]
  unfold ak_j
  rw [hn, if_pos (Int.natCast_nonneg _)]
  rfl
theorem w_if_lt_n {x : Int32} {off : Int} (h : am_A mi pc = some (.ifCond .lt off)) (hn : pc + 3 = n) (hc : ¬ (x < 0)) (k : sg X mi (n, l1, l2, st) M r) : sg X mi (pc, l1, l2, .int x :: st) M r := by
  subst hn
  refine sg_nx ((ak_SA h).trans ?_) k
  simp only [ak_x]
  rw [if_neg hc]
  rfl
theorem w_icmp_lt_j {x y : Int32} {off : Int} (h : am_A mi pc = some (.if_icmp .lt off)) (hn : (pc : Int) + off = (n : Int)) (hc : x < y) (k : sg X mi (n, l1, l2, st) M r) : sg X mi (pc, l1, l2, .int y :: .int x :: st) M r := by
  refine sg_nx ((ak_SA h).trans ?_) k
  simp only [ak_x]
  rw [if_pos hc]
  unfold ak_j
  rw [hn, if_pos (Int.natCast_nonneg _)]
  rfl
theorem w_icmp_lt_n {x y : Int32} {off : Int} (h : am_A mi pc = some (.if_icmp .lt off)) (hn : pc + 3 = n) (hc : ¬ (x < y)) (k : sg X mi (n, l1, l2, st) M r) : sg X mi (pc, l1, l2, .int y :: .int x :: st) M r := by
  subst hn
  refine sg_nx ((ak_SA h).trans ?_) k
  simp only [ak_x]
  rw [if_neg hc]
  rfl
theorem w_if_ge_j {x : Int32} {off : Int} (h : am_A mi pc = some (.ifCond .ge off)) (hn : (pc : Int) + off = (n : Int)) (hc : 0 ≤ x) (k : sg X mi (n, l1, l2, st) M r) : sg X mi (pc, l1, l2, .int x :: st) M r := by
  refine sg_nx ((ak_SA h).trans ?_) k
  simp only [ak_x]
  rw [if_pos hc]
  unfold ak_j
  rw [hn, if_pos (Int.natCast_nonneg _)]
  rfl
theorem w_if_ge_n {x : Int32} {off : Int} (h : am_A mi pc = some (.ifCond .ge off)) (hn : pc + 3 = n) (hc : ¬ (0 ≤ x)) (k : sg X mi (n, l1, l2, st) M r) : sg X mi (pc, l1, l2, .int x :: st) M r := by
  subst hn
  refine sg_nx ((ak_SA h).trans ?_) k
  simp only [ak_x]
  rw [if_neg hc]
  rfl
theorem w_icmp_ge_j {x y : Int32} {off : Int} (h : am_A mi pc = some (.if_icmp .ge off)) (hn : (pc : Int) + off = (n : Int)) (hc : y ≤ x) (k : sg X mi (n, l1, l2, st) M r) : sg X mi (pc, l1, l2, .int y :: .int x :: st) M r := by
  refine sg_nx ((ak_SA h).trans ?_) k
  simp only [ak_x]
  rw [if_pos hc]
  unfold ak_j
  rw [hn, if_pos (Int.natCast_nonneg _)]
  rfl
theorem w_icmp_ge_n {x y : Int32} {off : Int} (h : am_A mi pc = some (.if_icmp .ge off)) (hn : pc + 3 = n) (hc : ¬ (y ≤ x)) (k : sg X mi (n, l1, l2, st) M r) : sg X mi (pc, l1, l2, .int y :: .int x :: st) M r := by
  subst hn
  refine sg_nx ((ak_SA h).trans ?_) k
  simp only [ak_x]
  rw [if_neg hc]
  rfl
theorem w_if_gt_j {x : Int32} {off : Int} (h : am_A mi pc = some (.ifCond .gt off)) (hn : (pc : Int) + off = (n : Int)) (hc : 0 < x) (k : sg X mi (n, l1, l2, st) M r) : sg X mi (pc, l1, l2, .int x :: st) M r := by
  refine sg_nx ((ak_SA h).trans ?_) k
  simp only [ak_x]
  rw [if_pos hc]
  unfold ak_j
  rw [hn, if_pos (Int.natCast_nonneg _)]
  rfl
theorem w_if_gt_n {x : Int32} {off : Int} (h : am_A mi pc = some (.ifCond .gt off)) (hn : pc + 3 = n) (hc : ¬ (0 < x)) (k : sg X mi (n, l1, l2, st) M r) : sg X mi (pc, l1, l2, .int x :: st) M r := by
  subst hn
  refine sg_nx ((ak_SA h).trans ?_) k
  simp only [ak_x]
  rw [if_neg hc]
  rfl
theorem w_icmp_gt_j {x y : Int32} {off : Int} (h : am_A mi pc = some (.if_icmp .gt off)) (hn : (pc : Int) + off = (n : Int)) (hc : y < x) (k : sg X mi (n, l1, l2, st) M r) : sg X mi (pc, l1, l2, .int y :: .int x :: st) M r := by
  refine sg_nx ((ak_SA h).trans ?_) k
  simp only [ak_x]
  rw [if_pos hc]
  unfold ak_j
  rw [hn, if_pos (Int.natCast_nonneg _)]
  rfl
theorem w_icmp_gt_n {x y : Int32} {off : Int} (h : am_A mi pc = some (.if_icmp .gt off)) (hn : pc + 3 = n) (hc : ¬ (y < x)) (k : sg X mi (n, l1, l2, st) M r) : sg X mi (pc, l1, l2, .int y :: .int x :: st) M r := by
  subst hn
  refine sg_nx ((ak_SA h).trans ?_) k
  simp only [ak_x]
  rw [if_neg hc]
  rfl
theorem w_if_le_j {x : Int32} {off : Int} (h : am_A mi pc = some (.ifCond .le off)) (hn : (pc : Int) + off = (n : Int)) (hc : x ≤ 0) (k : sg X mi (n, l1, l2, st) M r) : sg X mi (pc, l1, l2, .int x :: st) M r := by
  refine sg_nx ((ak_SA h).trans ?_) k
  simp only [ak_x]
  rw [if_pos hc]
  unfold ak_j
  rw [hn, if_pos (Int.natCast_nonneg _)]
  rfl
theorem w_if_le_n {x : Int32} {off : Int} (h : am_A mi pc = some (.ifCond .le off)) (hn : pc + 3 = n) (hc : ¬ (x ≤ 0)) (k : sg X mi (n, l1, l2, st) M r) : sg X mi (pc, l1, l2, .int x :: st) M r := by
  subst hn
  refine sg_nx ((ak_SA h).trans ?_) k
  simp only [ak_x]
  rw [if_neg hc]
  rfl
theorem w_icmp_le_j {x y : Int32} {off : Int} (h : am_A mi pc = some (.if_icmp .le off)) (hn : (pc : Int) + off = (n : Int)) (hc : x ≤ y) (k : sg X mi (n, l1, l2, st) M r) : sg X mi (pc, l1, l2, .int y :: .int x :: st) M r := by
  refine sg_nx ((ak_SA h).trans ?_) k
  simp only [ak_x]
  rw [if_pos hc]
  unfold ak_j
  rw [hn, if_pos (Int.natCast_nonneg _)]
  rfl
theorem w_icmp_le_n {x y : Int32} {off : Int} (h : am_A mi pc = some (.if_icmp .le off)) (hn : pc + 3 = n) (hc : ¬ (x ≤ y)) (k : sg X mi (n, l1, l2, st) M r) : sg X mi (pc, l1, l2, .int y :: .int x :: st) M r := by
  subst hn
  refine sg_nx ((ak_SA h).trans ?_) k
  simp only [ak_x]
  rw [if_neg hc]
  rfl
theorem w_tsw {d lo hi : Int} {offs : Array Int} {x : Int32} {o : Int} (h : am_A mi pc = some (.tableswitch d lo hi offs)) (ho : (if x.toInt < lo ∨ hi < x.toInt then some d else offs[(x.toInt - lo).toNat]?) = some o) (hn : (pc : Int) + o = (n : Int)) (k : sg X mi (n, l1, l2, st) M r) : sg X mi (pc, l1, l2, .int x :: st) M r := by
  refine sg_nx ((ak_SA h).trans ?_) k
  simp only [ak_x]
  split at ho
  · rename_i hc
    rw [if_pos hc]
    cases ho
    unfold ak_j
    rw [hn, if_pos (Int.natCast_nonneg _)]
    rfl
  · rename_i hc
    rw [if_neg hc, ho]
    dsimp only
    unfold ak_j
    rw [hn, if_pos (Int.natCast_nonneg _)]
    rfl
theorem w_lsw {d : Int} {ps : Array (Int × Int)} {x : Int32} {o : Int} (h : am_A mi pc = some (.lookupswitch d ps)) (hs : (ps.toList.zip (ps.toList.drop 1)).all (fun (a, next) => a.1 < next.1) = true) (ho : Op.lookupswitch.offset ps.toList d x.toInt = o) (hn : (pc : Int) + o = (n : Int)) (k : sg X mi (n, l1, l2, st) M r) : sg X mi (pc, l1, l2, .int x :: st) M r := by
  refine sg_nx ((ak_SA h).trans ?_) k
  simp only [ak_x]
  rw [if_pos hs, ho]
  unfold ak_j
  rw [hn, if_pos (Int.natCast_nonneg _)]
  rfl
/-- the places stand as the constructors laid them -/
def ab_lay (M : ak_M) : Prop := (483 ≤ ak_P M ∧ ak_P M ≤ 800000) ∧ (∀ p, p < 483 → ak_K M p = ab_K p ∧ ak_N M p = ab_N p) ∧ ∀ p, p < 483 → ∀ k, k < (ab_Rl.getD p []).length → ak_R M p k = ab_R p k
def ab_at (p kd : Nat) : Prop := p < 483 ∧ ab_K p = kd
def ab_rf (p k q : Nat) : Prop := k < (ab_Rl.getD p []).length ∧ ab_R p k = some q
theorem ab_rf_of {M : ak_M} (hL : ab_lay M) {p k q kd : Nat} (hp : ab_at p kd) (h : ab_rf p k q) : ak_R M p k = some q := (hL.2.2 p hp.1 k h.1).trans h.2
theorem ab_lay.sI {M : ak_M} (h : ab_lay M) {p k : Nat} {v : Int32} : ab_lay (ak_sI M p k v) := h
theorem ab_lay.use {M : ak_M} (h : ab_lay M) {a b : Nat} : ab_lay (ak_use M a b) := h
/-- an index as a number -/
def ab_ix (x : Int32) (i m : Nat) : Prop := ak_ix x m = true ∧ x.toNatClampNeg = i
theorem w_getI {own idx ci f p : Nat} {z : Nat × Nat} (hL : ab_lay M) (h : am_A mi pc = some (.getfield idx)) (hO : am_O mi = own) (hF : am_F own idx = some (ci, f, z)) (hp : ab_at p ci) (hc : ci < 13 ∧ am_f ci f ≠ 2) (hn : pc + 3 = n) (k : sg X mi (n, l1, l2, .int (ak_I M p f) :: st) M r) : sg X mi (pc, l1, l2, .ref p :: st) M r := by
  subst hn
  refine sg_nx ((ak_SA h).trans ?_) k
  simp only [ak_x]
  rw [hO, hF]
  dsimp only
  rw [if_pos (Nat.lt_of_lt_of_le hp.1 hL.1.1), if_pos ⟨Nat.lt_succ_of_lt hc.1, ((hL.2.1 p hp.1).1).trans hp.2⟩, if_neg hc.2]
  rfl
theorem w_getR {own idx ci f p q : Nat} {z : Nat × Nat} (hL : ab_lay M) (h : am_A mi pc = some (.getfield idx)) (hO : am_O mi = own) (hF : am_F own idx = some (ci, f, z)) (hp : ab_at p ci) (hc : ci < 13 ∧ am_f ci f = 2) (hq : ab_rf p f q) (hn : pc + 3 = n) (k : sg X mi (n, l1, l2, .ref q :: st) M r) : sg X mi (pc, l1, l2, .ref p :: st) M r := by
  subst hn
  refine sg_nx ((ak_SA h).trans ?_) k
  simp only [ak_x]
  rw [hO, hF]
  dsimp only
  rw [if_pos (Nat.lt_of_lt_of_le hp.1 hL.1.1), if_pos ⟨Nat.lt_succ_of_lt hc.1, ((hL.2.1 p hp.1).1).trans hp.2⟩, if_pos hc.2, ab_rf_of hL hp hq]
  rfl
theorem w_putI {own idx ci f p : Nat} {x : Int32} {z : Nat × Nat} (hL : ab_lay M) (h : am_A mi pc = some (.putfield idx)) (hO : am_O mi = own) (hF : am_F own idx = some (ci, f, z)) (hp : ab_at p ci) (hc : ci < 13 ∧ (am_f ci f = 0 ∨ (am_f ci f = 1 ∧ (x = 0 ∨ x = 1)))) (hn : pc + 3 = n) (k : sg X mi (n, l1, l2, st) (ak_sI M p f x) r) : sg X mi (pc, l1, l2, .int x :: .ref p :: st) M r := by
  subst hn
  refine sg_nx ((ak_SA h).trans ?_) k
  simp only [ak_x]
  rw [hO, hF]
  dsimp only
  rw [if_pos ⟨Nat.lt_of_lt_of_le hp.1 hL.1.1, ((hL.2.1 p hp.1).1).trans hp.2, Nat.lt_succ_of_lt hc.1⟩, if_pos (hc.2.elim Or.inl (fun h => Or.inr (Or.inl h)))]
  rfl
theorem w_sta {own idx v : Nat} {z : Nat × Nat} (h : am_A mi pc = some (.getstatic idx)) (hO : am_O mi = own) (hS : am_S own idx = some (v, z)) (hv : v < 3) (hn : pc + 3 = n) (k : sg X mi (n, l1, l2, .ref (1000001 + v) :: st) M r) : sg X mi (pc, l1, l2, st) M r := by
  subst hn
  refine sg_nx ((ak_SA h).trans ?_) k
  simp only [ak_x]
  rw [hO, hS]
  dsimp only
  rw [if_pos hv]
  rfl
theorem w_alen {p kd m : Nat} (hL : ab_lay M) (h : am_A mi pc = some .arraylength) (hp : ab_at p kd) (hk : 100 ≤ kd) (hm : ab_N p = m) (hn : pc + 1 = n) (k : sg X mi (n, l1, l2, .int (Int32.ofNat m) :: st) M r) : sg X mi (pc, l1, l2, .ref p :: st) M r := by
  subst hn
  refine sg_nx ((ak_SA h).trans ?_) k
  simp only [ak_x]
  rw [if_pos (Nat.lt_of_lt_of_le hp.1 hL.1.1), if_pos (by rw [(hL.2.1 p hp.1).1, hp.2]; exact hk), (hL.2.1 p hp.1).2, hm]
  rfl
theorem w_iald {p m i : Nat} {x : Int32} (hL : ab_lay M) (h : am_A mi pc = some .iaload) (hp : ab_at p 100) (hm : ab_N p = m) (hi : ab_ix x i m) (hn : pc + 1 = n) (k : sg X mi (n, l1, l2, .int (ak_I M p i) :: st) M r) : sg X mi (pc, l1, l2, .int x :: .ref p :: st) M r := by
  subst hn
  refine sg_nx ((ak_SA h).trans ?_) k
  simp only [ak_x]
  rw [if_pos (Nat.lt_of_lt_of_le hp.1 hL.1.1), if_pos ⟨by rw [(hL.2.1 p hp.1).1, hp.2], by rw [(hL.2.1 p hp.1).2, hm]; exact hi.1⟩, hi.2]
  rfl
theorem w_bald {p m i kd : Nat} {x : Int32} (hL : ab_lay M) (h : am_A mi pc = some .baload) (hp : ab_at p kd) (hk : kd = 101) (hm : ab_N p = m) (hi : ab_ix x i m) (hn : pc + 1 = n) (k : sg X mi (n, l1, l2, .int (ak_I M p i) :: st) M r) : sg X mi (pc, l1, l2, .int x :: .ref p :: st) M r := by
  subst hn
  refine sg_nx ((ak_SA h).trans ?_) k
  simp only [ak_x]
  rw [if_pos (Nat.lt_of_lt_of_le hp.1 hL.1.1), if_pos ⟨by rw [(hL.2.1 p hp.1).1, hp.2]; exact hk, by rw [(hL.2.1 p hp.1).2, hm]; exact hi.1⟩, hi.2]
  rfl
theorem w_aald {p m i q kd : Nat} {x : Int32} (hL : ab_lay M) (h : am_A mi pc = some .aaload) (hp : ab_at p kd) (hk : 105 ≤ kd ∧ kd ≤ 109) (hm : ab_N p = m) (hi : ab_ix x i m) (hq : ab_rf p i q) (hn : pc + 1 = n) (k : sg X mi (n, l1, l2, .ref q :: st) M r) : sg X mi (pc, l1, l2, .int x :: .ref p :: st) M r := by
  subst hn
  refine sg_nx ((ak_SA h).trans ?_) k
  simp only [ak_x]
  have h2 := (hL.2.1 p hp.1).1.trans hp.2
  rw [if_pos ⟨Nat.lt_of_lt_of_le hp.1 hL.1.1, by rw [h2]; exact hk.1, by rw [h2]; exact hk.2, by rw [(hL.2.1 p hp.1).2, hm]; exact hi.1⟩, hi.2, ab_rf_of hL hp hq]
  rfl
theorem w_iast {p m i : Nat} {x v : Int32} (hL : ab_lay M) (h : am_A mi pc = some .iastore) (hp : ab_at p 100) (hm : ab_N p = m) (hi : ab_ix x i m) (hn : pc + 1 = n) (k : sg X mi (n, l1, l2, st) (ak_sI M p i v) r) : sg X mi (pc, l1, l2, .int v :: .int x :: .ref p :: st) M r := by
  subst hn
  refine sg_nx ((ak_SA h).trans ?_) k
  simp only [ak_x]
  rw [if_pos ⟨Nat.lt_of_lt_of_le hp.1 hL.1.1, (hL.2.1 p hp.1).1.trans hp.2, by rw [(hL.2.1 p hp.1).2, hm]; exact hi.1⟩, hi.2]
  rfl
theorem w_bast {p m i : Nat} {x v : Int32} (hL : ab_lay M) (h : am_A mi pc = some .bastore) (hp : ab_at p 101) (hm : ab_N p = m) (hi : ab_ix x i m) (hn : pc + 1 = n) (k : sg X mi (n, l1, l2, st) (ak_sI M p i (vp_nar .byte v)) r) : sg X mi (pc, l1, l2, .int v :: .int x :: .ref p :: st) M r := by
  subst hn
  refine sg_nx ((ak_SA h).trans ?_) k
  simp only [ak_x]
  rw [if_pos ⟨Nat.lt_of_lt_of_le hp.1 hL.1.1, by rw [(hL.2.1 p hp.1).2, hm]; exact hi.1⟩, if_pos ((hL.2.1 p hp.1).1.trans hp.2), hi.2]
  rfl
theorem w_ldc {own idx s : Nat} (h : am_A mi pc = some (.ldc idx)) (hO : am_O mi = own) (hG : am_G own idx = some s) (hn : pc + 2 = n) (k : sg X mi (n, l1, l2, .ref (1001000 + s) :: st) M r) : sg X mi (pc, l1, l2, st) M r := by
  subst hn
  refine sg_nx ((ak_SA h).trans ?_) k
  simp only [ak_x]
  rw [hO, hG]
  rfl
theorem w_ldcw {own idx s : Nat} (h : am_A mi pc = some (.ldc_w idx)) (hO : am_O mi = own) (hG : am_G own idx = some s) (hn : pc + 3 = n) (k : sg X mi (n, l1, l2, .ref (1001000 + s) :: st) M r) : sg X mi (pc, l1, l2, st) M r := by
  subst hn
  refine sg_nx ((ak_SA h).trans ?_) k
  simp only [ak_x]
  rw [hO, hG]
  rfl
theorem w_ldc2 {own idx : Nat} {v : Int64} (h : am_A mi pc = some (.ldc2_w idx)) (hO : am_O mi = own) (hG : am_J own idx = some v) (hn : pc + 3 = n) (k : sg X mi (n, l1, l2, .long v :: st) M r) : sg X mi (pc, l1, l2, st) M r := by
  subst hn
  refine sg_nx ((ak_SA h).trans ?_) k
  simp only [ak_x]
  rw [hO, hG]
  rfl
/-- what a call site says: callee, its parameters, slots -/
def w_cs (mi idx vt cal na nl : Nat) : Bool := match am_L mi idx with
  | some (c, kind, _) => c == cal && ((vt == 0 && kind == 0) || (vt == 1 && (kind == 1 || kind == 4)) || (vt == 2 && (kind == 2 || kind == 3))) && am_N cal == na && Nat.blt (am_K cal) (am_K mi) && Nat.ble (am_Q cal + am_X cal + 19) (am_Q mi) && Nat.ble nl (am_X cal)
  | none => false
theorem w_cs_of {idx vt cal na nl : Nat} (h : w_cs mi idx vt cal na nl = true) : ∃ (kind : Nat) (z : Nat × Nat × Nat × Nat), am_L mi idx = some (cal, kind, z) ∧ ((vt = 0 ∧ kind = 0) ∨ (vt = 1 ∧ (kind = 1 ∨ kind = 4)) ∨ (vt = 2 ∧ (kind = 2 ∨ kind = 3))) ∧ am_N cal = na ∧ (am_K cal < am_K mi ∧ am_Q cal + am_X cal + 19 ≤ am_Q mi) ∧ nl ≤ am_X cal := by
  unfold w_cs at h
  cases hL : am_L mi idx with
  | none => rw [hL] at h; cases h
  | some q =>
    obtain ⟨c, kind, z⟩ := q
    rw [hL] at h
    simp only [Bool.and_eq_true, Bool.or_eq_true, beq_iff_eq] at h
    obtain ⟨⟨⟨⟨⟨rfl, h2⟩, h3⟩, h4⟩, h6⟩, h5⟩ := h
    refine ⟨kind, z, rfl, ?_, h3, ⟨Nat.le_of_ble_eq_true h4, Nat.le_of_ble_eq_true h6⟩, Nat.le_of_ble_eq_true h5⟩
    rcases h2 with (h2 | h2) | h2
    · exact Or.inl h2
    · exact Or.inr (Or.inl h2)
    · exact Or.inr (Or.inr h2)
theorem w_invS {idx cal na nl : Nat} {as rest : List Value} (hc : w_cs mi idx 1 cal na nl = true) (hs : st = as.reverse ++ rest) (hl : as.length = na) (he : (ak_e1 as).length = nl) (ht : ak_cat rest ≤ 8) : ak_inv X mi idx 1 pc l1 l2 st M = some (.inr (.inr (cal, as, (pc + 3, l1, l2, rest), M))) := by
  obtain ⟨kind, z, h1, h2, h3, h4, h5⟩ := w_cs_of hc
  subst hs
  have h2 : kind = 1 ∨ kind = 4 := by
    rcases h2 with h | h | h
    · exact absurd h.1 (by decide)
    · exact h.2
    · exact absurd h.1 (by decide)
  have e1 : (as.reverse ++ rest).take (am_N cal) = as.reverse := by rw [h3, ← hl, ← List.length_reverse, List.take_left]
  have e2 : (as.reverse ++ rest).drop (am_N cal) = rest := by rw [h3, ← hl, ← List.length_reverse, List.drop_left]
  unfold ak_inv
  rw [h1]
  dsimp only
  rw [if_neg (fun h => absurd h.1 (by decide)), if_pos ⟨rfl, h2⟩, if_pos (by rw [h3, ← hl, List.length_append, List.length_reverse]; omega), e1, e2, List.reverse_reverse]
  unfold ak_call
  rw [if_pos ⟨ht, h4.1, h4.2, by omega⟩]
theorem w_invV {idx cal na nl p : Nat} {as rest : List Value} (hc : w_cs mi idx 0 cal na nl = true) (hr : ak_rc M p = am_C cal) (hs : st = as.reverse ++ .ref p :: rest) (hl : as.length = na) (he : (ak_e1 (.ref p :: as)).length = nl) (ht : ak_cat rest ≤ 8) : ak_inv X mi idx 0 pc l1 l2 st M = some (.inr (.inr (cal, .ref p :: as, (pc + 3, l1, l2, rest), M))) := by
  obtain ⟨kind, z, h1, h2, h3, h4, h5⟩ := w_cs_of hc
  subst hs
  have h2 : kind = 0 := by
    rcases h2 with h | h | h
    · exact h.2
    · exact absurd h.1 (by decide)
    · exact absurd h.1 (by decide)
  have e1 : (as.reverse ++ .ref p :: rest).take (am_N cal) = as.reverse := by rw [h3, ← hl, ← List.length_reverse, List.take_left]
  have e2 : (as.reverse ++ .ref p :: rest).drop (am_N cal) = .ref p :: rest := by rw [h3, ← hl, ← List.length_reverse, List.drop_left]
  unfold ak_inv
  rw [h1]
  dsimp only
  subst h2
  rw [if_pos ⟨rfl, Or.inl rfl⟩, e2]
  dsimp only
  rw [if_pos ⟨by rw [if_pos rfl]; exact hr, by rw [h3, ← hl, List.length_append, List.length_reverse]; omega⟩, e1, List.reverse_reverse]
  unfold ak_call
  rw [if_pos ⟨ht, h4.1, h4.2, by omega⟩]
theorem w_invI {idx cal na nl p : Nat} {as rest : List Value} (hc : w_cs mi idx 2 cal na nl = true) (hs : st = as.reverse ++ .ref p :: rest) (hl : as.length = na) (he : (ak_e1 (.ref p :: as)).length = nl) (ht : ak_cat rest ≤ 8) : ak_inv X mi idx 2 pc l1 l2 st M = some (.inr (.inr (cal, .ref p :: as, (pc + 3, l1, l2, rest), M))) := by
  obtain ⟨kind, z, h1, h2, h3, h4, h5⟩ := w_cs_of hc
  subst hs
  have h2 : kind = 2 ∨ kind = 3 := by
    rcases h2 with h | h | h
    · exact absurd h.1 (by decide)
    · exact absurd h.1 (by decide)
    · exact h.2
  have e1 : (as.reverse ++ .ref p :: rest).take (am_N cal) = as.reverse := by rw [h3, ← hl, ← List.length_reverse, List.take_left]
  have e2 : (as.reverse ++ .ref p :: rest).drop (am_N cal) = .ref p :: rest := by rw [h3, ← hl, ← List.length_reverse, List.drop_left]
  unfold ak_inv
  rw [h1]
  dsimp only
  rw [if_neg (fun h => absurd h.1 (by decide)), if_neg (fun h => absurd h.1 (by decide)), if_pos ⟨rfl, h2⟩, e2]
  dsimp only
  rw [if_pos (by rw [h3, ← hl, List.length_append, List.length_reverse]; omega), e1, List.reverse_reverse]
  unfold ak_call
  rw [if_pos ⟨ht, h4.1, h4.2, by omega⟩]
theorem ab_rc {p kd : Nat} (hL : ab_lay M) (hp : ab_at p kd) : ak_rc M p = kd := by
  unfold ak_rc
  rw [if_pos (Nat.lt_of_lt_of_le hp.1 hL.1.1), (hL.2.1 p hp.1).1]
  exact hp.2
theorem w_cS {idx cal na nl : Nat} {as rest : List Value} {v : Option Value} {M2 : ak_M} (h : am_A mi pc = some (.invokestatic idx)) (hc : w_cs mi idx 1 cal na nl = true) (hs : st = as.reverse ++ rest) (hl : as.length = na) (he : (ak_e1 as).length = nl) (ht : ak_cat rest ≤ 8) (hn : pc + 3 = n)
    (h1 : rn X cal as M (.inl v, M2)) (k : sg X mi (n, l1, l2, v.toList ++ rest) M2 r) : sg X mi (pc, l1, l2, st) M r := by
  subst hn
  exact sg_cl ((ak_SA h).trans (w_invS hc hs hl he ht)) h1 k
theorem w_cV {idx cal na nl p kd : Nat} {as rest : List Value} {v : Option Value} {M2 : ak_M} (hL : ab_lay M) (h : am_A mi pc = some (.invokevirtual idx)) (hc : w_cs mi idx 0 cal na nl = true) (hp : ab_at p kd) (hr : am_C cal = kd) (hs : st = as.reverse ++ .ref p :: rest) (hl : as.length = na) (he : (ak_e1 (.ref p :: as)).length = nl) (ht : ak_cat rest ≤ 8) (hn : pc + 3 = n)
    (h1 : rn X cal (.ref p :: as) M (.inl v, M2)) (k : sg X mi (n, l1, l2, v.toList ++ rest) M2 r) : sg X mi (pc, l1, l2, st) M r := by
  subst hn
  exact sg_cl ((ak_SA h).trans (w_invV hc ((ab_rc hL hp).trans hr.symm) hs hl he ht)) h1 k
theorem w_ireturn {x : Int32} (h : am_A mi pc = some .ireturn) (hx : ak_iok (am_R mi) x = true) : sg X mi (pc, l1, l2, [.int x]) M (.inl (some (.int x)), M) := by
  refine sg_rt ((ak_SA h).trans ?_)
  simp only [ak_x]
  rw [if_pos hx]
  rfl
theorem w_areturn {x : Nat} (h : am_A mi pc = some .areturn) (hx : ak_isR (am_R mi) = true) : sg X mi (pc, l1, l2, [.ref x]) M (.inl (some (.ref x)), M) := by
  refine sg_rt ((ak_SA h).trans ?_)
  simp only [ak_x]
  rw [if_pos hx]
  rfl
theorem w_freturn {x : UInt32} (h : am_A mi pc = some .freturn) (hx : am_R mi = some .float) : sg X mi (pc, l1, l2, [.float x]) M (.inl (some (.float x)), M) := by
  refine sg_rt ((ak_SA h).trans ?_)
  simp only [ak_x]
  rw [if_pos hx]
  rfl
theorem w_dreturn {x : UInt64} (h : am_A mi pc = some .dreturn) (hx : am_R mi = some .double) : sg X mi (pc, l1, l2, [.double x]) M (.inl (some (.double x)), M) := by
  refine sg_rt ((ak_SA h).trans ?_)
  simp only [ak_x]
  rw [if_pos hx]
  rfl
theorem w_vreturn (h : am_A mi pc = some .return_) (hx : am_R mi = none) : sg X mi (pc, l1, l2, []) M (.inl none, M) := by
  refine sg_rt ((ak_SA h).trans ?_)
  simp only [ak_x]
  rw [if_pos hx]
  rfl
theorem w_cI {idx cal na nl p : Nat} {as rest : List Value} {v : Option Value} {M2 : ak_M} (h : am_A mi pc = some (.invokespecial idx)) (hc : w_cs mi idx 2 cal na nl = true) (hs : st = as.reverse ++ .ref p :: rest) (hl : as.length = na) (he : (ak_e1 (.ref p :: as)).length = nl) (ht : ak_cat rest ≤ 8) (hn : pc + 3 = n)
    (h1 : rn X cal (.ref p :: as) M (.inl v, M2)) (k : sg X mi (n, l1, l2, v.toList ++ rest) M2 r) : sg X mi (pc, l1, l2, st) M r := by
  subst hn
  exact sg_cl ((ak_SA h).trans (w_invI hc hs hl he ht)) h1 k
theorem w_tS {idx cal na nl E : Nat} {as rest : List Value} {M2 : ak_M} (h : am_A mi pc = some (.invokestatic idx)) (hc : w_cs mi idx 1 cal na nl = true) (hs : st = as.reverse ++ rest) (hl : as.length = na) (he : (ak_e1 as).length = nl) (ht : ak_cat rest ≤ 8)
    (hth : am_th.contains cal = true) (hH : (am_H mi).isEmpty = true) (h1 : rn X cal as M (.inr E, M2)) : sg X mi (pc, l1, l2, st) M (.inr E, M2) :=
  sg_th ((ak_SA h).trans (w_invS hc hs hl he ht)) hth hH h1
theorem w_tV {idx cal na nl p kd E : Nat} {as rest : List Value} {M2 : ak_M} (hL : ab_lay M) (h : am_A mi pc = some (.invokevirtual idx)) (hc : w_cs mi idx 0 cal na nl = true) (hp : ab_at p kd) (hr : am_C cal = kd) (hs : st = as.reverse ++ .ref p :: rest) (hl : as.length = na) (he : (ak_e1 (.ref p :: as)).length = nl) (ht : ak_cat rest ≤ 8)
    (hth : am_th.contains cal = true) (hH : (am_H mi).isEmpty = true) (h1 : rn X cal (.ref p :: as) M (.inr E, M2)) : sg X mi (pc, l1, l2, st) M (.inr E, M2) :=
  sg_th ((ak_SA h).trans (w_invV hc ((ab_rc hL hp).trans hr.symm) hs hl he ht)) hth hH h1
theorem w_cVS {idx cal na nl j : Nat} {as rest : List Value} {v : Option Value} {M2 : ak_M} (hL : ab_lay M) (h : am_A mi pc = some (.invokevirtual idx)) (hc : w_cs mi idx 0 cal na nl = true) (hp : j < 25) (hr : am_C cal = 13) (hs : st = as.reverse ++ .ref (1001000 + j) :: rest) (hl : as.length = na) (he : (ak_e1 (.ref (1001000 + j) :: as)).length = nl) (ht : ak_cat rest ≤ 8) (hn : pc + 3 = n)
    (h1 : rn X cal (.ref (1001000 + j) :: as) M (.inl v, M2)) (k : sg X mi (n, l1, l2, v.toList ++ rest) M2 r) : sg X mi (pc, l1, l2, st) M r := by
  subst hn
  have e : ak_rc M (1001000 + j) = 13 := by
    unfold ak_rc
    rw [if_neg (by have := hL.1.2; omega), if_pos (by omega)]
  exact sg_cl ((ak_SA h).trans (w_invV hc (e.trans hr.symm) hs hl he ht)) h1 k
theorem w_throw {idx E : Nat} {z : Nat × Nat × Nat × Nat} (h : am_A mi pc = some (.new idx)) (hW : am_W (am_O mi) idx = none) (hT : am_T mi pc = some (E, z)) (ht : ak_cat st ≤ 8) : sg X mi (pc, l1, l2, st) M (.inr E, ak_use M 1 6) := by
  refine sg_rt ((ak_SA h).trans ?_)
  simp only [ak_x]
  rw [hW, hT]
  dsimp only
  rw [if_pos ht]
  rfl
theorem w_cald {w i : Nat} {x : Int32} (hL : ab_lay M) (hw : w < 3) (h : am_A mi pc = some .iaload) (hi : ab_ix x i 6) (hn : pc + 1 = n) (k : sg X mi (n, l1, l2, .int (ak_cI X (1000001 + w) i) :: st) M r) : sg X mi (pc, l1, l2, .int x :: .ref (1000001 + w) :: st) M r := by
  subst hn
  refine sg_nx ((ak_SA h).trans ?_) k
  simp only [ak_x]
  have h2 : ak_cN X (1000001 + w) = 6 := by unfold ak_cN; rw [if_neg (by omega), if_pos (by omega)]
  have h3 : ak_cK (1000001 + w) = 100 := by unfold ak_cK; rw [if_pos (by omega)]
  have h4 : ¬ (@LT.lt Nat _ (1000001 + w) (ak_P M)) := by have := hL.1.2; omega
  have h5 : @LE.le Nat _ 1000000 (1000001 + w) := by omega
  rw [if_neg h4, if_pos ⟨h5, h3, by rw [h2]; exact hi.1⟩, hi.2]
  rfl
end SGW
theorem w_swd {x : Int32} {d lo hi : Int} {e : Option Int} (h : ∀ j : Int, lo ≤ j → j ≤ hi → x ≠ Int32.ofInt j) : (if x.toInt < lo ∨ hi < x.toInt then some d else e) = some d := by
  rw [if_pos]
  by_cases h1 : x.toInt < lo
  · exact Or.inl h1
  · by_cases h2 : hi < x.toInt
    · exact Or.inr h2
    · exact absurd (Int32.ofInt_toInt x).symm (h x.toInt (by omega) (by omega))
theorem w_okI {mi : Nat} {x : Int32} (h : am_R mi = some .int) : ak_iok (am_R mi) x = true := by rw [h]; rfl
theorem w_okZ {mi : Nat} {x : Int32} (h : am_R mi = some .boolean) (hx : x = 0 ∨ x = 1) : ak_iok (am_R mi) x = true := by rw [h]; exact decide_eq_true hx
theorem w_okC {mi : Nat} {x : Int32} (h : am_R mi = some .char) (hx : (x.toUInt32 % 65536).toInt32 = x) : ak_iok (am_R mi) x = true := by rw [h]; exact decide_eq_true hx
theorem w_okB {mi : Nat} {x : Int32} (h : am_R mi = some .byte) (hx : x.toInt8.toInt32 = x) : ak_iok (am_R mi) x = true := by rw [h]; exact decide_eq_true hx
theorem w_rn {X : ak_X} {mi nL : Nat} {as : List Value} {l1 : List (Option Value)} {M : ak_M} {r : ak_O × ak_M} (hX : am_X mi = nL) (h1 : ak_e1 as ++ List.replicate (nL - (ak_e1 as).length) none = l1) (h2 : ak_e2 0 as = []) (k : sg X mi (0, l1, [], []) M r) : rn X mi as M r := by
  unfold rn ak_en
  rw [hX, h1, h2]
  exact k
