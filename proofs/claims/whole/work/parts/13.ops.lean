/-! ONE STEP OF THE SMALL MACHINE IS A STEP OF THE REAL ONE -/
def isNestW (w : Cond) : Bool := match w with
  | .fieldLinkNest .. => true
  | .methodLinkNest .. => true
  | .arrayOver (.object _) => true
  | _ => false
def AW : List Cond := lw_tbl.filter fun w => goodWord w || isNestW w
def tysT (g : GG) : List (ClassId × FieldType) := [(g.2.1 20, .int), (g.2.1 21, .char), (g.2.1 22, .boolean), (g.2.1 23, .long), (g.2.1 33, .object "PenThatJumps$Person"), (g.2.1 34, .object "PenThatJumps$Plan"), (g.2.1 36, .object "PenThatJumps$Program"), (g.2.1 37, .object "PenThatJumps$Sitting"), (g.2.1 38, .object "PenThatJumps$Tally")]
def pcOf (P : List IR) (i : Nat) : Nat := (P.getD i (0, .nop, [], 0)).1
/-- the statics: class, name, descriptor, what it holds: (0, a reference) or (1, a number) -/
def wdN : List String := ["PLAIN", "SHAMING", "ASKED", "KNOWN", "REAL", "OTHERS", "FILE", "ASKS", "HEARD", "FEAR", "DONE", "TRICK", "HABIT", "PLACE", "NOISE", "NOT", "AND", "OR", "ASK", "FOR", "LINE", "SAYS", "WHEN", "UNKNOWN"]
def stT : List (String × String × String × Nat × Nat) := (List.range 24).map (fun i => ("PenThatJumps$Word", wdN.getD i "", "LPenThatJumps$Word;", 0, 2 + i)) ++ [("PenThatJumps$Word", "ALL", "[LPenThatJumps$Word;", 0, 26), ("java/lang/String", "COMPACT_STRINGS", "Z", 1, 1), ("jdk/internal/util/Preconditions", "SIOOBE_FORMATTER", "Ljava/util/function/BiFunction;", 0, 75)]
def stv (g : GG) (q : Nat × Nat) : Value := if q.1 = 0 then va_rf (rq g q.2) else .int (Int32.ofNat q.2)
/-- the fields of the cells below 100 -/
def sfT (c k : Nat) : String × String × String := match c, k with
  | 40, 0 => ("PenThatJumps$Word", "text", "Ljava/lang/String;")
  | 40, 1 => ("PenThatJumps$Word", "bodyFact", "I")
  | 40, _ => ("PenThatJumps$Word", "readerFact", "I")
  | _, 0 => ("java/lang/String", "value", "[B")
  | _, _ => ("java/lang/String", "coder", "B")
def ST (g : GG) (hs : AH) (U : State) : Prop :=
  (∀ q ∈ stT, va_Z q.1 q.2.1 q.2.2.1 (stv g q.2.2.2) (AA g) U U.heap) ∧
  (∀ a, a < 100 → (hK hs a = 40 ∨ hK hs a = 42) → ∃ t, rq g a = some t ∧ ∀ k, k < fdn (hK hs a) → va_OF (sfT (hK hs a) k).1 (sfT (hK hs a) k).2.1 (sfT (hK hs a) k).2.2 (fvl g hs (hK hs a) a k) t (AA g) U U.heap) ∧
  (∀ a, a < 100 → hK hs a = 44 → ∃ t, rq g a = some t ∧ hN hs a < 2147483648 ∧ va_T .int t (hN hs a) (fun j => .int (hI hs a j)) (AA g) U U.heap) ∧
  (∀ a, a < 100 → hK hs a = 45 → ∃ t, rq g a = some t ∧ hN hs a < 2147483648 ∧ va_T .byte t (hN hs a) (fun j => .int (hI hs a j)) (AA g) U U.heap) ∧
  (∀ a, a < 100 → hK hs a = 41 → ∃ t, rq g a = some t ∧ hN hs a < 2147483648 ∧ va_T (.object "PenThatJumps$Word") t (hN hs a) (fun j => va_rf (rq g (hR hs a j))) (AA g) U U.heap) ∧
  (∀ a, a < 100 → hK hs a = 42 → ∃ t, rq g a = some t ∧ va_O "java/lang/String" t (AA g) U U.heap) ∧
  (∀ x y, 2 ≤ x → x ≤ 25 → 2 ≤ y → y ≤ 25 → rq g x = rq g y → x = y)
def CX (p : Program) (s : State) (m : MethodId) (args : Array Value) (c : Code) (cc : ByteArray) (nL own : Nat) (g : GG) (hs : AH) : Prop :=
  p.tables.exec = Jvm.exec ∧ c.code = cc ∧ c.maxLocals = nL ∧ s.vm.findClass (cnm own) = some m.cls ∧ (∀ w ∈ AW, w.before args s = true) ∧ va_K g.1 clT (tysT g) s ∧ ST g hs s ∧ gb g ≤ s.heap.size
def ilen (x : Instr) (pc : Nat) : Nat := match x with
  | .bipush _ => 2
  | .sipush _ => 3
  | .ldc _ => 2
  | .ldc_w _ => 3
  | .ldc2_w _ => 3
  | .iload _ => 2
  | .lload _ => 2
  | .aload _ => 2
  | .istore _ => 2
  | .lstore _ => 2
  | .astore _ => 2
  | .iinc _ _ => 3
  | .goto _ => 3
  | .ifCond _ _ => 3
  | .if_icmp _ _ => 3
  | .if_acmp _ _ => 3
  | .ifnull _ => 3
  | .ifnonnull _ => 3
  | .getfield _ => 3
  | .putfield _ => 3
  | .getstatic _ => 3
  | .newarray _ => 2
  | .anewarray _ => 3
  | .new _ => 3
  | .checkcast _ => 3
  | .invokevirtual _ => 3
  | .invokestatic _ => 3
  | .invokespecial _ => 3
  | .tableswitch _ _ _ offs => 1 + (3 - pc % 4) + 12 + 4 * offs.size
  | _ => 1
section STEP
variable {p : Program} {l : Launch} {e : Env} {R : Room} {s : State} {m : MethodId} {args : Array Value} {below : List Frame} {meth : Method} {c : Code} {H : Heap} {locs : List Loc} {cells slots : Nat} {Q : State → Prop} {cc : ByteArray} {pc nL own : Nat} {ls : Array Slot} {g : GG} {hs h : AH} {P : List IR} {i : Nat} {L S : List Value}
/-- what is owed behind a step -/
def NX (p : Program) (l : Launch) (e : Env) (R : Room) (s : State) (m : MethodId) (args : Array Value) (below : List Frame) (meth : Method) (c : Code) (cells slots : Nat) (Q : State → Prop) (nL : Nat) (g : GG) (hs h : AH) (P : List IR) (z : AS) : Prop :=
  ∀ (ls' : Array Slot) (H' : Heap) (locs' : List Loc), LR g z.2.1 nL ls' → RW g hs z.2.2.2 H' → va_S (AA g) s.heap H' locs' → W p l e R s m args below meth c H' locs' (cells + (hz z.2.2.2 - hz h)) (slots + (hu z.2.2.2 - hu h)) Q (F0 m (pcOf P z.1) ls' (z.2.2.1.map (ph g)))
theorem NX.here {j : Nat} {L' S' : List Value} (n : NX p l e R s m args below meth c cells slots Q nL g hs h P (j, L', S', h)) (hL : LR g L' nL ls) (hW : RW g hs h H) (hS : va_S (AA g) s.heap H locs) {pc' : Nat} (hp : pcOf P j = pc') :
    W p l e R s m args below meth c H locs cells slots Q (F0 m pc' ls (S'.map (ph g))) := by
  have h1 := n ls H locs hL hW hS
  simp only [Nat.sub_self, Nat.add_zero, hp] at h1
  exact h1
end STEP
