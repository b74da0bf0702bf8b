/-! AN EVALUATOR of the system's bytecode over an abstract heap, and (in the parts behind it) one proof that the machine does what it says.
A cell: an array (number of its array type, length, contents) or an object (number of its class, fields). An address is a cell's number in the heap. -/
abbrev ab_E : Type := (Nat × vp_A) ⊕ (Nat × List Value)
abbrev ab_H : Type := List ab_E
abbrev ab_L : Type := List (Nat × Value)
/-- an instruction, with three numbers that say what it links -/
abbrev ab_I : Type := Instr × Nat × Nat × Nat
def ab_len : Instr → Nat
  | .bipush _ | .newarray _ | .iload _ | .lload _ | .aload _ | .istore _ | .lstore _ | .astore _ | .ldc _ => 2
  | .sipush _ | .goto _ | .if_icmp _ _ | .ifCond _ _ | .ifnull _ | .ifnonnull _ | .iinc _ _ | .getfield _ | .putfield _ | .getstatic _ | .invokevirtual _ | .invokestatic _ | .invokespecial _ | .new _ | .anewarray _ | .ldc_w _ | .ldc2_w _ => 3
  | _ => 1
def ab_put1 (lv : ab_L) (i : Nat) (v : Value) : ab_L := (i, v) :: lv.filter (fun q => !(q.1 == i) && !(q.1 + 1 == i && q.2.category == 2))
def ab_put2 (lv : ab_L) (i : Nat) (v : Value) : ab_L := (i, v) :: lv.filter (fun q => !(q.1 == i) && (!(q.1 == i + 1) && !(q.1 + 1 == i && q.2.category == 2)))
abbrev ab_LS : Type := Option (ab_L × List Value)
def ab_ldI (lv : ab_L) (i : Nat) (st : List Value) : ab_LS := match lv.lookup i with
  | some (.int x) => some (lv, .int x :: st)
  | _ => none
def ab_ldL (lv : ab_L) (i : Nat) (st : List Value) : ab_LS := match lv.lookup i with
  | some (.long x) => some (lv, .long x :: st)
  | _ => none
def ab_ldA (lv : ab_L) (i : Nat) (st : List Value) : ab_LS := match lv.lookup i with
  | some (.ref x) => some (lv, .ref x :: st)
  | some .null => some (lv, .null :: st)
  | _ => none
def ab_stI (nL : Nat) (lv : ab_L) (i : Nat) (st : List Value) : ab_LS := match st with
  | .int x :: r => if i < nL then some (ab_put1 lv i (.int x), r) else none
  | _ => none
def ab_stL (nL : Nat) (lv : ab_L) (i : Nat) (st : List Value) : ab_LS := match st with
  | .long x :: r => if i + 1 < nL then some (ab_put2 lv i (.long x), r) else none
  | _ => none
def ab_stA (nL : Nat) (lv : ab_L) (i : Nat) (st : List Value) : ab_LS := match st with
  | .ref x :: r => if i < nL then some (ab_put1 lv i (.ref x), r) else none
  | .null :: r => if i < nL then some (ab_put1 lv i .null, r) else none
  | _ => none
def ab_inc (nL : Nat) (lv : ab_L) (i : Nat) (n : Int) (st : List Value) : ab_LS := match lv.lookup i with
  | some (.int x) => if i < nL then some (ab_put1 lv i (.int (x + Int32.ofInt n)), st) else none
  | _ => none
def ab_ii (f : Int32 → Int32 → Int32) (lv : ab_L) (st : List Value) : ab_LS := match st with
  | .int y :: .int x :: r => some (lv, .int (f x y) :: r)
  | _ => none
def ab_iz (f : Int32 → Int32 → Int32) (lv : ab_L) (st : List Value) : ab_LS := match st with
  | .int y :: .int x :: r => if y = 0 then none else some (lv, .int (f x y) :: r)
  | _ => none
def ab_ll (f : Int64 → Int64 → Int64) (lv : ab_L) (st : List Value) : ab_LS := match st with
  | .long y :: .long x :: r => some (lv, .long (f x y) :: r)
  | _ => none
def ab_li (f : Int64 → Int32 → Int64) (lv : ab_L) (st : List Value) : ab_LS := match st with
  | .int y :: .long x :: r => some (lv, .long (f x y) :: r)
  | _ => none
def ab_i1 (f : Int32 → Int32) (lv : ab_L) (st : List Value) : ab_LS := match st with
  | .int x :: r => some (lv, .int (f x) :: r)
  | _ => none
def ab_lc (lv : ab_L) (st : List Value) : ab_LS := match st with
  | .long y :: .long x :: r => some (lv, .int (lg_cmp x y) :: r)
  | _ => none
def ab_i2l (lv : ab_L) (st : List Value) : ab_LS := match st with
  | .int x :: r => some (lv, .long x.toInt64 :: r)
  | _ => none
def ab_l2i (lv : ab_L) (st : List Value) : ab_LS := match st with
  | .long x :: r => some (lv, .int x.toInt32 :: r)
  | _ => none
def ab_dup (lv : ab_L) (st : List Value) : ab_LS := match st with
  | v :: r => if v.category = 1 then some (lv, v :: v :: r) else none
  | _ => none
def ab_pop (lv : ab_L) (st : List Value) : ab_LS := match st with
  | v :: r => if v.category = 1 then some (lv, r) else none
  | _ => none
def ab_dup2 (lv : ab_L) (st : List Value) : ab_LS := match st with
  | v :: w :: r => if v.category = 1 then (if w.category = 1 then some (lv, v :: w :: v :: w :: r) else none) else none
  | _ => none
/-- what touches locals and stack alone, and goes on to the next instruction -/
def ab_s (nL : Nat) (i : Instr) (lv : ab_L) (st : List Value) : ab_LS := match i with
  | .aconst_null => some (lv, .null :: st)
  | .iconst n => some (lv, .int (Int32.ofInt n) :: st)
  | .bipush n => some (lv, .int (Int8.ofInt n).toInt32 :: st)
  | .sipush n => some (lv, .int (Int16.ofInt n).toInt32 :: st)
  | .lconst n => some (lv, .long (Int64.ofNat (n : Nat)) :: st)
  | .iload k => ab_ldI lv k st
  | .iload_n k => ab_ldI lv k st
  | .lload k => ab_ldL lv k st
  | .lload_n k => ab_ldL lv k st
  | .aload k => ab_ldA lv k st
  | .aload_n k => ab_ldA lv k st
  | .istore k => ab_stI nL lv k st
  | .istore_n k => ab_stI nL lv k st
  | .lstore k => ab_stL nL lv k st
  | .lstore_n k => ab_stL nL lv k st
  | .astore k => ab_stA nL lv k st
  | .astore_n k => ab_stA nL lv k st
  | .iinc k n => ab_inc nL lv k n st
  | .iadd => ab_ii (fun x y => x + y) lv st
  | .isub => ab_ii (fun x y => x - y) lv st
  | .imul => ab_ii (fun x y => x * y) lv st
  | .iand => ab_ii (fun x y => x &&& y) lv st
  | .ior => ab_ii (fun x y => x ||| y) lv st
  | .ishl => ab_ii (fun x y => x <<< (y &&& 31)) lv st
  | .ishr => ab_ii (fun x y => x >>> (y &&& 31)) lv st
  | .idiv => ab_iz (fun x y => x / y) lv st
  | .irem => ab_iz (fun x y => x - x / y * y) lv st
  | .ladd => ab_ll (fun x y => x + y) lv st
  | .lsub => ab_ll (fun x y => x - y) lv st
  | .lmul => ab_ll (fun x y => x * y) lv st
  | .land => ab_ll (fun x y => x &&& y) lv st
  | .lor => ab_ll (fun x y => x ||| y) lv st
  | .lshl => ab_li (fun x y => x <<< (y.toInt64 &&& 63)) lv st
  | .lshr => ab_li (fun x y => x >>> (y.toInt64 &&& 63)) lv st
  | .lcmp => ab_lc lv st
  | .i2l => ab_i2l lv st
  | .l2i => ab_l2i lv st
  | .i2b => ab_i1 (fun x => x.toInt8.toInt32) lv st
  | .i2c => ab_i1 (fun x => (x.toUInt32 % 65536).toInt32) lv st
  | .dup => ab_dup lv st
  | .dup2 => ab_dup2 lv st
  | .pop => ab_pop lv st
  | _ => none
def ab_icmp (c : ClassFile.Cond) (x y : Int32) : Bool := match c with
  | .eq => decide (x = y)
  | .ne => decide (¬ x = y)
  | .lt => decide (x < y)
  | .ge => decide (y ≤ x)
  | .gt => decide (y < x)
  | .le => decide (x ≤ y)
def ab_tgt (pc : Nat) (off : Int) (r : List Value) : Option (Nat × List Value) := if 0 ≤ (pc : Int) + off then some (((pc : Int) + off).toNat, r) else none
/-- what branches; a: the target -/
def ab_b (i : Instr) (a pc : Nat) (st : List Value) : Option (Nat × List Value) := match i with
  | .goto _ => some (a, st)
  | .if_icmp c _ => (match st with
    | .int y :: .int x :: r => some (bif ab_icmp c x y then a else pc + 3, r)
    | _ => none)
  | .ifCond c _ => (match st with
    | .int x :: r => some (bif ab_icmp c x 0 then a else pc + 3, r)
    | _ => none)
  | .ifnull _ => (match st with
    | .null :: r => some (a, r)
    | .ref _ :: r => some (pc + 3, r)
    | _ => none)
  | .ifnonnull _ => (match st with
    | .null :: r => some (pc + 3, r)
    | .ref _ :: r => some (a, r)
    | _ => none)
  | .tableswitch d lo hi offs => (match st with
    | .int x :: r => if x.toInt < lo ∨ hi < x.toInt then ab_tgt pc d r else (match offs[(x.toInt - lo).toNat]? with
      | some off => ab_tgt pc off r
      | none => none)
    | _ => none)
  | .lookupswitch d ps => (match st with
    | .int x :: r => if (ps.toList.zip (ps.toList.drop 1)).all (fun (a, next) => a.1 < next.1) = true then ab_tgt pc (Op.lookupswitch.offset ps.toList d x.toInt) r else none
    | _ => none)
  | _ => none
