/-! ===== the clean interpreter: virtual addresses, values, heap, one step, a run ===== -/
/-- a virtual address: tag (0: null), and two indices -/
abbrev VA : Type := Nat × Nat × Nat
/-- a virtual value: an int, a long, a reference -/
abbrev VV : Type := Int32 ⊕ (Int64 ⊕ VA)
/-- the virtual heap: ints, references, longs by address and place; which addresses are made; how many cells and slots -/
abbrev VH : Type := (VA → Nat → Int32) × (VA → Nat → VA) × (VA → Nat → Int64) × (VA → Bool) × Nat × Nat
/-- an instruction's resolved data -/
abbrev VX : Type := Nat × Nat × Nat × Int
abbrev VE : Type := Nat × Instr × Nat × VX
abbrev VL : Type := List (Nat × VV)
abbrev VS : Type := Nat × VL × List VV × VH
abbrev VO : Type := VS ⊕ ((Option VV × VH) ⊕ (Nat × List VV × VS))
def v_nth : List Nat → Nat → Nat
  | [], _ => 99
  | x :: _, 0 => x
  | _ :: l, n + 1 => v_nth l n
def v_kinds : List Nat := [99, 0, 1, 2, 3, 4, 5, 6, 7, 8, 9, 10, 99, 99, 99, 99, 99, 99, 99, 99, 11, 11, 11, 11, 11, 11, 12, 11, 11, 11, 11, 11, 11, 11, 11, 11, 14, 15, 16, 11, 11, 11, 11, 11, 11, 11, 11, 11, 11, 11, 13, 13, 11, 99, 99, 99, 99, 99, 99, 99, 17]
def v_kind (a : VA) : Nat := v_nth v_kinds a.1
def v_lens : List Nat := [0, 0, 0, 0, 0, 0, 0, 0, 0, 0, 0, 0, 0, 0, 0, 0, 0, 0, 0, 0, 17, 200, 200, 200, 64, 96, 200, 200, 200, 200, 0, 8, 8, 8, 256, 0, 40, 200, 200, 24, 19520, 19520, 17, 100, 64, 8, 200, 40000, 200, 40, 8, 256, 256]
def v_len (a : VA) : Nat := match a.1 == 30 || a.1 == 60 with
  | true => a.2.1
  | false => match a.1 == 35 with
    | true => v_nth [8, 100, 64] a.2.1
    | false => v_nth v_lens a.1
/-- how many fields a class has -/
def v_nf (k : Nat) : Nat := v_nth [1, 4, 2, 12, 6, 6, 3, 9, 13, 11, 20] k
def v_cat : VV → Nat
  | .inl _ => 1
  | .inr (.inl _) => 2
  | .inr (.inr _) => 1
def v_rowI (V : VH) (a : VA) (f : Nat → Int32) : VH := (fun b => if b = a then f else V.1 b, V.2)
def v_rowR (V : VH) (a : VA) (f : Nat → VA) : VH := (V.1, fun b => if b = a then f else V.2.1 b, V.2.2)
def v_rowL (V : VH) (a : VA) (f : Nat → Int64) : VH := (V.1, V.2.1, fun b => if b = a then f else V.2.2.1 b, V.2.2.2)
def v_setI (V : VH) (a : VA) (k : Nat) (x : Int32) : VH := v_rowI V a (upd (V.1 a) k x)
def v_setR (V : VH) (a : VA) (k : Nat) (x : VA) : VH := v_rowR V a (va_up (V.2.1 a) k x)
def v_setL (V : VH) (a : VA) (k : Nat) (x : Int64) : VH := v_rowL V a (vp_updL (V.2.2.1 a) k x)
/-- a new cell at a, of n slots, all nought -/
def v_make (V : VH) (a : VA) (n : Nat) : VH := (fun b => if b = a then fun _ => 0 else V.1 b, fun b => if b = a then fun _ => (0, 0, 0) else V.2.1 b, fun b => if b = a then fun _ => 0 else V.2.2.1 b, fun b => if b = a then true else V.2.2.2.1 b, V.2.2.2.2.1 + 1, V.2.2.2.2.2 + n)
def v_get : VL → Nat → Option VV
  | [], _ => none
  | (j, v) :: l, i => match j == i with
    | true => some v
    | false => v_get l i
def v_put1 (lv : VL) (i : Nat) (v : VV) : VL := (i, v) :: lv.filter (fun q => !(q.1 == i) && !(q.1 + 1 == i && v_cat q.2 == 2))
def v_put2 (lv : VL) (i : Nat) (v : VV) : VL := (i, v) :: lv.filter (fun q => !(q.1 == i) && (!(q.1 == i + 1) && !(q.1 + 1 == i && v_cat q.2 == 2)))
def v_args : Nat → List VV → VL
  | _, [] => []
  | i, v :: l => (i, v) :: v_args (i + v_cat v) l
def v_ft : List VE → Nat → Option (Instr × Nat × VX)
  | [], _ => none
  | (p, i) :: l, pc => match p == pc with
    | true => some i
    | false => v_ft l pc
/-- which address a new cell takes: mode 0 (tag, j, 0); 1 as 'this'; 2 (tag, this' first index, the first argument); 3 (tag, length, 0) -/
def v_fresh (lv : VL) (mode tag : Nat) (j : Int) (n : Int32) : Option VA := match mode with
  | 0 => some (tag, j.toNat, 0)
  | 1 => match v_get lv 0 with
    | some (.inr (.inr t)) => some (tag, t.2)
    | _ => none
  | 2 => match v_get lv 0, v_get lv 1 with
    | some (.inr (.inr t)), some (.inl x) => some (tag, t.2.1, x.toNatClampNeg)
    | _, _ => none
  | _ => some (tag, n.toNatClampNeg, 0)
def v_ok (c : Bool) (o : VO) : Option VO := match c with
  | true => some o
  | false => none
def v_in (i : Int32) (n : Nat) : Bool := !(decide (i < 0) || decide (n ≤ i.toNatClampNeg))
def v_sum (st : List VV) : Nat := match st with
  | [] => 0
  | v :: l => v_cat v + v_sum l
def v_cmp (c : Jvm.ClassFile.Cond) (x y : Int32) : Bool := match c with
  | .eq => decide (x = y)
  | .ne => decide (¬ x = y)
  | .lt => decide (x < y)
  | .ge => decide (y ≤ x)
  | .gt => decide (y < x)
  | .le => decide (x ≤ y)
def v_br (b : Bool) (t f : Nat) : Nat := match b with
  | true => t
  | false => f
def v_off (pc : Nat) (o : Option Int) (lv : VL) (st : List VV) (V : VH) : Option VO := match o with
  | some d => some (.inl (((pc : Int) + d).toNat, lv, st, V))
  | none => none
def v_tab (d lo hi : Int) (offs : List Int) (x : Int) : Option Int := match decide (x < lo) || decide (hi < x) with
  | true => some d
  | false => offs[(x - lo).toNat]?
def v_look (d : Int) (x : Int) : List (Int × Int) → Int
  | [] => d
  | (a, o) :: l => match decide (x = a) with
    | true => o
    | false => v_look d x l
def v_bool (v : Int32) : Bool := decide (v = 0) || decide (v = 1)
def v_ret (k : Nat) (v : Int32) : Bool := match k with
  | 0 => true
  | 1 => v_bool v
  | _ => decide (0 ≤ v) && decide (v ≤ 65535)
def v_rev : List VV → List VV → List VV
  | [], r => r
  | a :: l, r => v_rev l (a :: r)
def v_take : Nat → List VV → List VV → Option (List VV × List VV)
  | 0, acc, st => some (acc, st)
  | n + 1, acc, v :: st => v_take n (v :: acc) st
  | _ + 1, _, [] => none
def v_call (x : VX) (pc : Nat) (lv : VL) (V : VH) : Option (List VV × List VV) → Option VO
  | some (as, st) => match x.2.2.1 with
    | 5 => match as with
      | [.inr (.inr a)] => v_ok (decide (v_sum st ≤ 8) && !(a.1 == 0)) (.inl (pc + 3, lv, st, V))
      | _ => none
    | 6 => match as with
      | [.inr (.inr a), .inl sp, .inr (.inr b), .inl dp, .inl n] => v_ok (decide (v_sum st ≤ 8) && (v_kind a == 11) && (v_kind b == 11) && decide (¬ sp < 0) && decide (¬ dp < 0) && decide (¬ n < 0) && decide (sp.toNatClampNeg + n.toNatClampNeg ≤ v_len a) && decide (dp.toNatClampNeg + n.toNatClampNeg ≤ v_len b)) (.inl (pc + 3, lv, st, v_rowI V b (va_cpy (V.1 a) (V.1 b) sp.toNatClampNeg dp.toNatClampNeg n.toNatClampNeg)))
      | _ => none
    | 7 => match as with
      | [.inl a, .inl b] => v_ok (decide (v_sum st ≤ 8)) (.inl (pc + 3, lv, .inl (if a < b then b else a) :: st, V))
      | _ => none
    | 8 => match as with
      | [.inl a, .inl b] => v_ok (decide (v_sum st ≤ 8)) (.inl (pc + 3, lv, .inl (if b < a then b else a) :: st, V))
      | _ => none
    | 9 => match as with
      | [.inr (.inl a), .inr (.inl b)] => v_ok (decide (v_sum st ≤ 8)) (.inl (pc + 3, lv, .inr (.inl (if b < a then b else a)) :: st, V))
      | _ => none
    | _ => v_ok (decide (v_sum st ≤ 8)) (.inr (.inr (x.1, as, (pc + 3, lv, st, V))))
  | none => none
def v_new (a : Option VA) (k n : Nat) (pc len : Nat) (lv : VL) (st : List VV) (V : VH) : Option VO := match a with
  | some b => v_ok (!(V.2.2.2.1 b) && (v_kind b == k) && !(b.1 == 0)) (.inl (pc + len, lv, .inr (.inr b) :: st, v_make V b n))
  | none => none
def v_i (i : Instr) (len : Nat) (x : VX) (pc : Nat) (lv : VL) (st : List VV) (V : VH) : Option VO := match i with
  | .iconst n => some (.inl (pc + len, lv, .inl (Int32.ofInt n) :: st, V))
  | .bipush n => some (.inl (pc + len, lv, .inl ((Int8.ofInt n).toInt32) :: st, V))
  | .sipush n => some (.inl (pc + len, lv, .inl ((Int16.ofInt n).toInt32) :: st, V))
  | .ldc _ => some (.inl (pc + len, lv, .inl (Int32.ofInt x.2.2.2) :: st, V))
  | .ldc2_w _ => some (.inl (pc + len, lv, .inr (.inl (Int64.ofInt x.2.2.2)) :: st, V))
  | .lconst n => some (.inl (pc + len, lv, .inr (.inl (Int64.ofNat n)) :: st, V))
  | .iload k => match v_get lv k with
    | some (.inl v) => some (.inl (pc + len, lv, .inl v :: st, V))
    | _ => none
  | .iload_n k => match v_get lv k with
    | some (.inl v) => some (.inl (pc + len, lv, .inl v :: st, V))
    | _ => none
  | .lload k => match v_get lv k with
    | some (.inr (.inl v)) => some (.inl (pc + len, lv, .inr (.inl v) :: st, V))
    | _ => none
  | .lload_n k => match v_get lv k with
    | some (.inr (.inl v)) => some (.inl (pc + len, lv, .inr (.inl v) :: st, V))
    | _ => none
  | .aload k => match v_get lv k with
    | some (.inr (.inr v)) => some (.inl (pc + len, lv, .inr (.inr v) :: st, V))
    | _ => none
  | .aload_n k => match v_get lv k with
    | some (.inr (.inr v)) => some (.inl (pc + len, lv, .inr (.inr v) :: st, V))
    | _ => none
  | .istore k => match st with
    | .inl v :: r => some (.inl (pc + len, v_put1 lv k (.inl v), r, V))
    | _ => none
  | .istore_n k => match st with
    | .inl v :: r => some (.inl (pc + len, v_put1 lv k (.inl v), r, V))
    | _ => none
  | .astore k => match st with
    | .inr (.inr v) :: r => some (.inl (pc + len, v_put1 lv k (.inr (.inr v)), r, V))
    | _ => none
  | .astore_n k => match st with
    | .inr (.inr v) :: r => some (.inl (pc + len, v_put1 lv k (.inr (.inr v)), r, V))
    | _ => none
  | .lstore k => match st with
    | .inr (.inl v) :: r => some (.inl (pc + len, v_put2 lv k (.inr (.inl v)), r, V))
    | _ => none
  | .lstore_n k => match st with
    | .inr (.inl v) :: r => some (.inl (pc + len, v_put2 lv k (.inr (.inl v)), r, V))
    | _ => none
  | .iinc k n => match v_get lv k with
    | some (.inl v) => some (.inl (pc + len, v_put1 lv k (.inl (v + Int32.ofInt n)), st, V))
    | _ => none
  | .iadd => match st with
    | .inl b :: .inl a :: r => some (.inl (pc + len, lv, .inl (a + b) :: r, V))
    | _ => none
  | .isub => match st with
    | .inl b :: .inl a :: r => some (.inl (pc + len, lv, .inl (a - b) :: r, V))
    | _ => none
  | .imul => match st with
    | .inl b :: .inl a :: r => some (.inl (pc + len, lv, .inl (a * b) :: r, V))
    | _ => none
  | .idiv => match st with
    | .inl b :: .inl a :: r => v_ok (decide (¬ b = 0)) (.inl (pc + len, lv, .inl (a / b) :: r, V))
    | _ => none
  | .irem => match st with
    | .inl b :: .inl a :: r => v_ok (decide (¬ b = 0)) (.inl (pc + len, lv, .inl (a - a / b * b) :: r, V))
    | _ => none
  | .iand => match st with
    | .inl b :: .inl a :: r => some (.inl (pc + len, lv, .inl (a &&& b) :: r, V))
    | _ => none
  | .ior => match st with
    | .inl b :: .inl a :: r => some (.inl (pc + len, lv, .inl (a ||| b) :: r, V))
    | _ => none
  | .ishl => match st with
    | .inl b :: .inl a :: r => some (.inl (pc + len, lv, .inl (a <<< (b &&& 31)) :: r, V))
    | _ => none
  | .ishr => match st with
    | .inl b :: .inl a :: r => some (.inl (pc + len, lv, .inl (a >>> (b &&& 31)) :: r, V))
    | _ => none
  | .ineg => match st with
    | .inl a :: r => some (.inl (pc + len, lv, .inl (-a) :: r, V))
    | _ => none
  | .ladd => match st with
    | .inr (.inl b) :: .inr (.inl a) :: r => some (.inl (pc + len, lv, .inr (.inl (a + b)) :: r, V))
    | _ => none
  | .lsub => match st with
    | .inr (.inl b) :: .inr (.inl a) :: r => some (.inl (pc + len, lv, .inr (.inl (a - b)) :: r, V))
    | _ => none
  | .lmul => match st with
    | .inr (.inl b) :: .inr (.inl a) :: r => some (.inl (pc + len, lv, .inr (.inl (a * b)) :: r, V))
    | _ => none
  | .ldiv => match st with
    | .inr (.inl b) :: .inr (.inl a) :: r => v_ok (decide (¬ b = 0)) (.inl (pc + len, lv, .inr (.inl (a / b)) :: r, V))
    | _ => none
  | .lcmp => match st with
    | .inr (.inl b) :: .inr (.inl a) :: r => some (.inl (pc + len, lv, .inl (lg_cmp a b) :: r, V))
    | _ => none
  | .i2l => match st with
    | .inl a :: r => some (.inl (pc + len, lv, .inr (.inl a.toInt64) :: r, V))
    | _ => none
  | .l2i => match st with
    | .inr (.inl a) :: r => some (.inl (pc + len, lv, .inl a.toInt32 :: r, V))
    | _ => none
  | .dup => match st with
    | .inl a :: r => some (.inl (pc + len, lv, .inl a :: .inl a :: r, V))
    | .inr (.inr a) :: r => some (.inl (pc + len, lv, .inr (.inr a) :: .inr (.inr a) :: r, V))
    | _ => none
  | .dup2 => match st with
    | .inl a :: .inr (.inr b) :: r => some (.inl (pc + len, lv, .inl a :: .inr (.inr b) :: .inl a :: .inr (.inr b) :: r, V))
    | _ => none
  | .if_icmp c _ => match st with
    | .inl b :: .inl a :: r => some (.inl (v_br (v_cmp c a b) x.1 (pc + 3), lv, r, V))
    | _ => none
  | .ifCond c _ => match st with
    | .inl a :: r => some (.inl (v_br (v_cmp c a 0) x.1 (pc + 3), lv, r, V))
    | _ => none
  | .ifnonnull _ => match st with
    | .inr (.inr a) :: r => some (.inl (v_br (!(a.1 == 0)) x.1 (pc + 3), lv, r, V))
    | _ => none
  | .goto _ => some (.inl (x.1, lv, st, V))
  | .tableswitch d lo hi offs => match st with
    | .inl a :: r => v_off pc (v_tab d lo hi offs.toList a.toInt) lv r V
    | _ => none
  | .lookupswitch d ps => match st with
    | .inl a :: r => v_off pc (some (v_look d a.toInt ps.toList)) lv r V
    | _ => none
  | .getfield _ => match st with
    | .inr (.inr a) :: r => match x.2.2.1 with
      | 0 => v_ok (v_kind a == x.1) (.inl (pc + len, lv, .inl (V.1 a x.2.1) :: r, V))
      | _ => v_ok (v_kind a == x.1) (.inl (pc + len, lv, .inr (.inr (V.2.1 a x.2.1)) :: r, V))
    | _ => none
  | .putfield _ => match x.2.2.1 with
    | 1 => match st with
      | .inr (.inr v) :: .inr (.inr a) :: r => v_ok (v_kind a == x.1) (.inl (pc + len, lv, r, v_setR V a x.2.1 v))
      | _ => none
    | 0 => match st with
      | .inl v :: .inr (.inr a) :: r => v_ok (v_kind a == x.1) (.inl (pc + len, lv, r, v_setI V a x.2.1 v))
      | _ => none
    | _ => match st with
      | .inl v :: .inr (.inr a) :: r => v_ok ((v_kind a == x.1) && v_bool v) (.inl (pc + len, lv, r, v_setI V a x.2.1 v))
      | _ => none
  | .new _ => v_new (v_fresh lv x.2.1 x.2.2.1 x.2.2.2 0) x.1 (v_nf x.1) pc len lv st V
  | .newarray _ => match st with
    | .inl n :: r => match v_fresh lv x.2.1 x.2.2.1 x.2.2.2 n with
      | some b => match decide (¬ n < 0) && (v_len b == n.toNatClampNeg) && decide (n.toNatClampNeg ≤ 50000) with
        | true => v_new (some b) x.1 n.toNatClampNeg pc len lv r V
        | false => none
      | none => none
    | _ => none
  | .anewarray _ => match st with
    | .inl n :: r => match v_fresh lv x.2.1 x.2.2.1 x.2.2.2 n with
      | some b => match decide (¬ n < 0) && (v_len b == n.toNatClampNeg) && decide (n.toNatClampNeg ≤ 50000) with
        | true => v_new (some b) x.1 n.toNatClampNeg pc len lv r V
        | false => none
      | none => none
    | _ => none
  | .arraylength => match st with
    | .inr (.inr a) :: r => v_ok ((v_kind a == 11) || (v_kind a == 17)) (.inl (pc + len, lv, .inl (Int32.ofNat (v_len a)) :: r, V))
    | _ => none
  | .iaload => match st with
    | .inl j :: .inr (.inr a) :: r => v_ok (((v_kind a == 11) || (v_kind a == 17)) && v_in j (v_len a)) (.inl (pc + len, lv, .inl (V.1 a j.toNatClampNeg) :: r, V))
    | _ => none
  | .baload => match st with
    | .inl j :: .inr (.inr a) :: r => v_ok ((v_kind a == 12) && v_in j (v_len a)) (.inl (pc + len, lv, .inl (V.1 a j.toNatClampNeg) :: r, V))
    | _ => none
  | .laload => match st with
    | .inl j :: .inr (.inr a) :: r => v_ok ((v_kind a == 13) && v_in j (v_len a)) (.inl (pc + len, lv, .inr (.inl (V.2.2.1 a j.toNatClampNeg)) :: r, V))
    | _ => none
  | .aaload => match st with
    | .inl j :: .inr (.inr a) :: r => v_ok (decide (14 ≤ v_kind a ∧ v_kind a ≤ 16) && v_in j (v_len a)) (.inl (pc + len, lv, .inr (.inr (V.2.1 a j.toNatClampNeg)) :: r, V))
    | _ => none
  | .iastore => match st with
    | .inl v :: .inl j :: .inr (.inr a) :: r => v_ok ((v_kind a == 11) && v_in j (v_len a)) (.inl (pc + len, lv, r, v_setI V a j.toNatClampNeg v))
    | _ => none
  | .bastore => match st with
    | .inl v :: .inl j :: .inr (.inr a) :: r => v_ok ((v_kind a == 12) && v_in j (v_len a) && v_bool v) (.inl (pc + len, lv, r, v_setI V a j.toNatClampNeg v))
    | _ => none
  | .lastore => match st with
    | .inr (.inl v) :: .inl j :: .inr (.inr a) :: r => v_ok ((v_kind a == 13) && v_in j (v_len a)) (.inl (pc + len, lv, r, v_setL V a j.toNatClampNeg v))
    | _ => none
  | .aastore => match st with
    | .inr (.inr v) :: .inl j :: .inr (.inr a) :: r => v_ok (decide (14 ≤ v_kind a ∧ v_kind a ≤ 16) && v_in j (v_len a) && (v_kind v == v_nth [3, 2, 7] (v_kind a - 14))) (.inl (pc + len, lv, r, v_setR V a j.toNatClampNeg v))
    | _ => none
  | .invokevirtual _ => v_call x pc lv V (v_take x.2.1 [] st)
  | .invokestatic _ => v_call x pc lv V (v_take x.2.1 [] st)
  | .invokespecial _ => v_call x pc lv V (v_take x.2.1 [] st)
  | .ireturn => match st with
    | [.inl v] => v_ok (v_ret x.1 v) (.inr (.inl (some (.inl v), V)))
    | _ => none
  | .lreturn => match st with
    | [.inr (.inl v)] => some (.inr (.inl (some (.inr (.inl v)), V)))
    | _ => none
  | .areturn => match st with
    | [.inr (.inr v)] => v_ok (!(v.1 == 0)) (.inr (.inl (some (.inr (.inr v)), V)))
    | _ => none
  | .return_ => match st with
    | [] => some (.inr (.inl (none, V)))
    | _ => none
  | _ => none
def v_1 (cd : List VE) (s : VS) : Option VO := match v_ft cd s.1 with
  | some i => v_i i.1 i.2.1 i.2.2 s.1 s.2.1 s.2.2.1 s.2.2.2
  | none => none
/-- n plain steps -/
def v_n : Nat → List VE → VS → Option VS
  | 0, _, s => some s
  | n + 1, cd, s => match v_1 cd s with
    | some (.inl t) => v_n n cd t
    | _ => none
