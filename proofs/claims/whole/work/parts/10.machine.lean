/-! THE SMALL MACHINE: a pure machine for the instructions that the class, the law and the reference use, over a heap of plain functions. References are numbers (0: null), cells have kinds. -/
abbrev AH : Type := (Nat → Nat → Int32) × (Nat → Nat → Int64) × (Nat → Nat → Nat) × (Nat → Nat) × (Nat → Nat) × Nat × Nat
def hI (h : AH) : Nat → Nat → Int32 := h.1
def hJ (h : AH) : Nat → Nat → Int64 := h.2.1
def hR (h : AH) : Nat → Nat → Nat := h.2.2.1
def hK (h : AH) : Nat → Nat := h.2.2.2.1
def hN (h : AH) : Nat → Nat := h.2.2.2.2.1
def hz (h : AH) : Nat := h.2.2.2.2.2.1
def hu (h : AH) : Nat := h.2.2.2.2.2.2
def upq {α : Type} (f : Nat → Nat → α) (a j : Nat) (v : α) : Nat → Nat → α := fun x y => if x = a then (if y = j then v else f x y) else f x y
def upr {α : Type} (f : Nat → α) (a : Nat) (v : α) : Nat → α := fun x => if x = a then v else f x
def sI (h : AH) (a j : Nat) (v : Int32) : AH := (upq h.1 a j v, h.2)
def sJ (h : AH) (a j : Nat) (v : Int64) : AH := (h.1, upq h.2.1 a j v, h.2.2)
def sR (h : AH) (a j : Nat) (v : Nat) : AH := (h.1, h.2.1, upq h.2.2.1 a j v, h.2.2.2)
/-- a new cell of kind k and length n, of u slots, all zero -/
def mkC (h : AH) (k n u : Nat) : AH := (upr h.1 (hz h) (fun _ => 0), upr h.2.1 (hz h) (fun _ => 0), upr h.2.2.1 (hz h) (fun _ => 0), upr (hK h) (hz h) k, upr (hN h) (hz h) n, hz h + 1, hu h + u)
/-- the kinds of fields: 0 int, 1 boolean, 2 a reference -/
def fdT : List (List Nat) := [[2, 2, 2, 0], [2], [2, 2, 2, 1, 0, 0, 0, 0, 2], [1, 0, 1, 0, 1], [2, 2, 2, 0], [2, 2, 0, 0, 0], [2, 0, 0, 2, 2, 2], [2, 2, 0], [1, 0, 2, 0, 0, 0, 0], [2, 0, 2, 2, 0], [2, 2, 2, 2, 2, 2, 2, 2, 2, 2, 2, 2, 2, 2, 2, 2], [0, 2, 0, 0, 2, 2, 2, 0, 0, 2, 2, 2, 2, 2, 2, 0, 2, 2, 2, 2, 0, 1, 2, 2, 2, 2, 2, 2, 2, 2, 0, 2, 2, 2, 2, 2, 2, 2, 2, 2, 2, 2, 2], [], [], [], [], [], [], [], [], [], [], [], [], [], [], [], [], [], [], [], [], [], [], [], [], [], [], [], [], [2, 0, 0], [], [2, 0]]
def fdk (c k : Nat) : Nat := (fdT.getD c []).getD k 9
def fdn (c : Nat) : Nat := (fdT.getD c []).length
def ixo (i : Int32) (n : Nat) : Bool := decide (0 ≤ i) && decide (i.toNatClampNeg < n)
def i01 (x : Int32) : Bool := decide (x = 0) || decide (x = 1)
abbrev AS : Type := Nat × List Value × List Value × AH
/-- where it lies in the bytes, the instruction, what is resolved of it, the place of its word among the tables -/
abbrev IR : Type := Nat × Instr × List Nat × Nat
def cnd (c : ClassFile.Cond) (x y : Int32) : Bool := match c with
  | .eq => decide (x = y)
  | .ne => decide (¬ x = y)
  | .lt => decide (x < y)
  | .ge => decide (y ≤ x)
  | .gt => decide (y < x)
  | .le => decide (x ≤ y)
def guardo {α : Type} (b : Bool) (x : Option α) : Option α := if b = true then x else none
def ldI (L S : List Value) (h : AH) (i n : Nat) : Option AS := match L[n]? with
  | some (.int v) => some (i + 1, L, .int v :: S, h)
  | _ => none
def ldJ (L S : List Value) (h : AH) (i n : Nat) : Option AS := match L[n]?, L[n + 1]? with
  | some (.long v), some .null => some (i + 1, L, .long v :: S, h)
  | _, _ => none
def ldA (L S : List Value) (h : AH) (i n : Nat) : Option AS := match L[n]? with
  | some (.ref v) => some (i + 1, L, .ref v :: S, h)
  | _ => none
def stI (L S : List Value) (h : AH) (i n : Nat) : Option AS := match S with
  | .int v :: S => guardo (decide (n < L.length)) (some (i + 1, L.set n (.int v), S, h))
  | _ => none
def stJ (L S : List Value) (h : AH) (i n : Nat) : Option AS := match S with
  | .long v :: S => guardo (decide (n + 1 < L.length)) (some (i + 1, (L.set n (.long v)).set (n + 1) .null, S, h))
  | _ => none
def stA (L S : List Value) (h : AH) (i n : Nat) : Option AS := match S with
  | .ref v :: S => guardo (decide (n < L.length)) (some (i + 1, L.set n (.ref v), S, h))
  | _ => none
def biI (f : Int32 → Int32 → Int32) (L S : List Value) (h : AH) (i : Nat) : Option AS := match S with
  | .int y :: .int x :: S => some (i + 1, L, .int (f x y) :: S, h)
  | _ => none
def biJ (f : Int64 → Int64 → Int64) (L S : List Value) (h : AH) (i : Nat) : Option AS := match S with
  | .long y :: .long x :: S => some (i + 1, L, .long (f x y) :: S, h)
  | _ => none
def biS (f : Int64 → Int32 → Int64) (L S : List Value) (h : AH) (i : Nat) : Option AS := match S with
  | .int y :: .long x :: S => some (i + 1, L, .long (f x y) :: S, h)
  | _ => none
def aldI (k : List Nat) (L S : List Value) (h : AH) (i : Nat) : Option AS := match S with
  | .int x :: .ref a :: S => guardo (decide (hK h a ∈ k) && ixo x (hN h a)) (some (i + 1, L, .int (hI h a x.toNatClampNeg) :: S, h))
  | _ => none
/-- one step that is no call and no end; o: what is resolved of it -/
def stp (x : Instr) (o : List Nat) (i : Nat) (L S : List Value) (h : AH) : Option AS := match x with
  | .iconst v => some (i + 1, L, .int (Int32.ofInt v) :: S, h)
  | .bipush v => some (i + 1, L, .int (Int32.ofInt v) :: S, h)
  | .sipush v => some (i + 1, L, .int (Int32.ofInt v) :: S, h)
  | .lconst v => some (i + 1, L, .long (Int64.ofNat v.val) :: S, h)
  | .aconst_null => some (i + 1, L, .ref 0 :: S, h)
  | .ldc _ => match o with
    | [n] => some (i + 1, L, .int (Int32.ofNat n) :: S, h)
    | _ => none
  | .ldc_w _ => match o with
    | [n] => some (i + 1, L, .int (Int32.ofNat n) :: S, h)
    | _ => none
  | .ldc2_w _ => match o with
    | [n] => some (i + 1, L, .long (Int64.ofNat n) :: S, h)
    | [n, _] => some (i + 1, L, .long (-Int64.ofNat n) :: S, h)
    | _ => none
  | .iload n => ldI L S h i n
  | .iload_n n => ldI L S h i n.val
  | .lload n => ldJ L S h i n
  | .lload_n n => ldJ L S h i n.val
  | .aload n => ldA L S h i n
  | .aload_n n => ldA L S h i n.val
  | .istore n => stI L S h i n
  | .istore_n n => stI L S h i n.val
  | .lstore n => stJ L S h i n
  | .lstore_n n => stJ L S h i n.val
  | .astore n => stA L S h i n
  | .astore_n n => stA L S h i n.val
  | .iinc n c => match L[n]? with
    | some (.int v) => some (i + 1, L.set n (.int (v + Int32.ofInt c)), S, h)
    | _ => none
  | .iadd => biI (fun x y => x + y) L S h i
  | .isub => biI (fun x y => x - y) L S h i
  | .imul => biI (fun x y => x * y) L S h i
  | .iand => biI (fun x y => x &&& y) L S h i
  | .ior => biI (fun x y => x ||| y) L S h i
  | .ishl => biI (fun x y => x <<< (y &&& 31)) L S h i
  | .ishr => biI (fun x y => x >>> (y &&& 31)) L S h i
  | .idiv => match S with
    | .int y :: .int x :: S => guardo (decide (¬ y = 0)) (some (i + 1, L, .int (x / y) :: S, h))
    | _ => none
  | .irem => match S with
    | .int y :: .int x :: S => guardo (decide (¬ y = 0)) (some (i + 1, L, .int (x - x / y * y) :: S, h))
    | _ => none
  | .ineg => match S with
    | .int x :: S => some (i + 1, L, .int (-x) :: S, h)
    | _ => none
  | .ladd => biJ (fun x y => x + y) L S h i
  | .lsub => biJ (fun x y => x - y) L S h i
  | .lmul => biJ (fun x y => x * y) L S h i
  | .land => biJ (fun x y => x &&& y) L S h i
  | .lor => biJ (fun x y => x ||| y) L S h i
  | .lshl => biS (fun x y => x <<< (y.toInt64 &&& 63)) L S h i
  | .lshr => biS (fun x y => x >>> (y.toInt64 &&& 63)) L S h i
  | .lushr => biS (fun x y => (x.toUInt64 >>> (y.toInt64.toUInt64 &&& Int64.toUInt64 63)).toInt64) L S h i
  | .ldiv => match S with
    | .long y :: .long x :: S => guardo (decide (¬ y = 0)) (some (i + 1, L, .long (x / y) :: S, h))
    | _ => none
  | .lrem => match S with
    | .long y :: .long x :: S => guardo (decide (¬ y = 0)) (some (i + 1, L, .long (x - x / y * y) :: S, h))
    | _ => none
  | .lneg => match S with
    | .long x :: S => some (i + 1, L, .long (-x) :: S, h)
    | _ => none
  | .lcmp => match S with
    | .long y :: .long x :: S => some (i + 1, L, .int (lg_cmp x y) :: S, h)
    | _ => none
  | .i2l => match S with
    | .int x :: S => some (i + 1, L, .long x.toInt64 :: S, h)
    | _ => none
  | .l2i => match S with
    | .long x :: S => some (i + 1, L, .int x.toInt32 :: S, h)
    | _ => none
  | .i2c => match S with
    | .int x :: S => some (i + 1, L, .int (x.toUInt32 % 65536).toInt32 :: S, h)
    | _ => none
  | .dup => match S with
    | .int v :: S => some (i + 1, L, .int v :: .int v :: S, h)
    | .ref v :: S => some (i + 1, L, .ref v :: .ref v :: S, h)
    | _ => none
  | .dup2 => match S with
    | .int v :: .ref w :: S => some (i + 1, L, .int v :: .ref w :: .int v :: .ref w :: S, h)
    | .long v :: S => some (i + 1, L, .long v :: .long v :: S, h)
    | _ => none
  | .goto _ => match o with
    | [t] => some (t, L, S, h)
    | _ => none
  | .ifCond c _ => match o, S with
    | [t], .int x :: S => if cnd c x 0 = true then some (t, L, S, h) else some (i + 1, L, S, h)
    | _, _ => none
  | .if_icmp c _ => match o, S with
    | [t], .int y :: .int x :: S => if cnd c x y = true then some (t, L, S, h) else some (i + 1, L, S, h)
    | _, _ => none
  | .if_acmp c _ => match o, S with
    | [t], .ref y :: .ref x :: S => guardo (decide (2 ≤ x ∧ x ≤ 25 ∧ 2 ≤ y ∧ y ≤ 25)) (match c with
      | .eq => if x = y then some (t, L, S, h) else some (i + 1, L, S, h)
      | .ne => if x = y then some (i + 1, L, S, h) else some (t, L, S, h))
    | _, _ => none
  | .ifnull _ => match o, S with
    | [t], .ref x :: S => guardo (decide (x = 0 ∨ 100 ≤ x)) (if x = 0 then some (t, L, S, h) else some (i + 1, L, S, h))
    | _, _ => none
  | .ifnonnull _ => match o, S with
    | [t], .ref x :: S => guardo (decide (x = 0 ∨ 100 ≤ x)) (if x = 0 then some (i + 1, L, S, h) else some (t, L, S, h))
    | _, _ => none
  | .pop => match S with
    | .int _ :: S => some (i + 1, L, S, h)
    | _ => none
  | .checkcast _ => match S with
    | .ref a :: S => guardo (decide (hK h a = 20)) (some (i + 1, L, .ref a :: S, h))
    | _ => none
  | .tableswitch _ lo _ _ => match o, S with
    | d :: ts, .int x :: S => if x.toInt < lo ∨ lo + ts.length ≤ x.toInt then some (d, L, S, h) else some (ts.getD (x.toInt - lo).toNat 0, L, S, h)
    | _, _ => none
  | .getfield _ => match o, S with
    | [c, k], .ref a :: S => guardo (decide (hK h a = c)) (if fdk c k = 2 then some (i + 1, L, .ref (hR h a k) :: S, h) else some (i + 1, L, .int (hI h a k) :: S, h))
    | _, _ => none
  | .putfield _ => match o, S with
    | [c, k], .ref v :: .ref a :: S => guardo (decide (hK h a = c) && decide (fdk c k = 2)) (some (i + 1, L, S, sR h a k v))
    | [c, k], .int v :: .ref a :: S => guardo (decide (hK h a = c) && (decide (fdk c k = 0) || decide (fdk c k = 1) && i01 v)) (some (i + 1, L, S, sI h a k v))
    | _, _ => none
  | .getstatic _ => match o with
    | [0, r] => some (i + 1, L, .ref r :: S, h)
    | [1, v] => some (i + 1, L, .int (Int32.ofNat v) :: S, h)
    | _ => none
  | .iaload => aldI [20, 44] L S h i
  | .caload => aldI [21] L S h i
  | .baload => aldI [22, 45] L S h i
  | .laload => match S with
    | .int x :: .ref a :: S => guardo (decide (hK h a = 23) && ixo x (hN h a)) (some (i + 1, L, .long (hJ h a x.toNatClampNeg) :: S, h))
    | _ => none
  | .aaload => match S with
    | .int x :: .ref a :: S => guardo (decide (30 ≤ hK h a ∧ hK h a ≤ 41 ∧ hK h a ≠ 40) && ixo x (hN h a)) (some (i + 1, L, .ref (hR h a x.toNatClampNeg) :: S, h))
    | _ => none
  | .iastore => match S with
    | .int v :: .int x :: .ref a :: S => guardo (decide (hK h a = 20) && ixo x (hN h a)) (some (i + 1, L, S, sI h a x.toNatClampNeg v))
    | _ => none
  | .castore => match S with
    | .int v :: .int x :: .ref a :: S => guardo (decide (hK h a = 21) && ixo x (hN h a)) (some (i + 1, L, S, sI h a x.toNatClampNeg (vp_nar .char v)))
    | _ => none
  | .bastore => match S with
    | .int v :: .int x :: .ref a :: S => guardo (decide (hK h a = 22) && ixo x (hN h a) && i01 v) (some (i + 1, L, S, sI h a x.toNatClampNeg v))
    | _ => none
  | .lastore => match S with
    | .long v :: .int x :: .ref a :: S => guardo (decide (hK h a = 23) && ixo x (hN h a)) (some (i + 1, L, S, sJ h a x.toNatClampNeg v))
    | _ => none
  | .aastore => match S with
    | .ref v :: .int x :: .ref a :: S => guardo (decide (30 ≤ hK h a ∧ hK h a < 40 ∧ hK h v + 30 = hK h a ∧ 100 ≤ v ∧ v < hz h) && ixo x (hN h a)) (some (i + 1, L, S, sR h a x.toNatClampNeg v))
    | _ => none
  | .arraylength => match S with
    | .ref a :: S => guardo (decide (20 ≤ hK h a ∧ hK h a ≠ 40 ∧ hK h a ≠ 42 ∧ hK h a ≤ 45 ∧ hK h a ≠ 43)) (some (i + 1, L, .int (Int32.ofNat (hN h a)) :: S, h))
    | _ => none
  | .newarray _ => match o, S with
    | [k], .int n :: S => guardo (decide (0 ≤ n) && decide (n.toNatClampNeg ≤ 10000)) (some (i + 1, L, .ref (hz h) :: S, mkC h k n.toNatClampNeg n.toNatClampNeg))
    | _, _ => none
  | .anewarray _ => match o, S with
    | [k], .int n :: S => guardo (decide (0 ≤ n) && decide (n.toNatClampNeg ≤ 10000)) (some (i + 1, L, .ref (hz h) :: S, mkC h k n.toNatClampNeg n.toNatClampNeg))
    | _, _ => none
  | .new _ => match o with
    | [c] => some (i + 1, L, .ref (hz h) :: S, mkC h c 0 (fdn c))
    | _ => none
  | _ => none
def isCall (x : Instr) : Bool := match x with
  | .invokevirtual _ => true
  | .invokestatic _ => true
  | .invokespecial _ => true
  | _ => false
def isRet (x : Instr) : Bool := match x with
  | .ireturn => true
  | .lreturn => true
  | .areturn => true
  | .return_ => true
  | .nop => true
  | _ => false
/-- what is returned; .nop: a place at which another text goes on (there is none in the code of the list) -/
def retv (x : Instr) (S : List Value) : Option (Option Value) := match x, S with
  | .ireturn, [.int v] => some (some (.int v))
  | .lreturn, [.long v] => some (some (.long v))
  | .areturn, [.ref v] => some (some (.ref v))
  | .return_, [] => some none
  | .nop, [] => some (some .null)
  | _, _ => none
abbrev AC : Type := Nat → List Value → AH → Option (Option Value × AH)
def run (call : AC) (P : List IR) : Nat → Nat → List Value → List Value → AH → Option (Option Value × AH)
  | 0, _, _, _, _ => none
  | n + 1, i, L, S, h => match P[i]? with
    | none => none
    | some q =>
      if isRet q.2.1 = true then (retv q.2.1 S).map (fun v => (v, h))
      else if isCall q.2.1 = true then
        match q.2.2.1 with
        | [y, k] => guardo (decide (k ≤ S.length) && decide (((S.drop k).map fun v => v.category).sum ≤ 8)) ((call y (S.take k).reverse h).bind fun z => run call P n (i + 1) L (z.1.toList ++ S.drop k) z.2)
        | _ => none
      else (stp q.2.1 q.2.2.1 i L S h).bind fun z => run call P n z.1 z.2.1 z.2.2.1 z.2.2.2
/-- the locals at a method's entry -/
def lcs (n : Nat) (a : List Value) : List Value :=
  let l := a.flatMap fun v => if v.category = 2 then [v, .null] else [v]
  l ++ List.replicate (n - l.length) .null
