/-! CALLS: what a method of the small machine does, its real one does -/
theorem AW_at {args a' : Array Value} {s U : State} (hW : s.WarmedH U.vm) {w : Cond} (hw : w ∈ AW) (h : w.before args s = true) : w.before a' U = true := by
  obtain ⟨-, hg⟩ := List.mem_filter.mp hw
  rcases Bool.or_eq_true_iff.mp hg with q | q
  · exact word_at hW (good_of_word q) h
  · cases w with
    | fieldLinkNest a i b n d t => exact va_Nw.use rfl (va_Nw.warmF hW (va_Nw.of (A := args) rfl h))
    | methodLinkNest a i x t => exact va_Nw.use rfl (va_Nw.warmM hW (va_Nw.of (A := args) rfl h))
    | arrayOver ty =>
      cases ty with
      | object C => exact va_AO.use (va_AO.moved hW.alike (va_AO.of (A := args) h))
      | _ => cases q
    | _ => cases q
theorem ST.moved {g : GG} {hs : AH} {u U : State} (hvm : u.vm.Alike U.vm) (hq : ∀ a : Nat, a < u.heap.size → ¬ AA g a → U.heap[a]? = u.heap[a]?) (h : ST g hs u) : ST g hs U := by
  obtain ⟨h1, h2, h3, h4, h5, h6, h7⟩ := h
  refine ⟨fun q hq0 => ((h1 q hq0).moved hvm).kept hq, fun a ha hk => ?_, fun a ha hk => ?_, fun a ha hk => ?_, fun a ha hk => ?_, fun a ha hk => ?_, h7⟩
  · obtain ⟨t, ht, hf⟩ := h2 a ha hk
    exact ⟨t, ht, fun k hk2 => ((hf k hk2).moved hvm).kept hq⟩
  · obtain ⟨t, ht, hn, hf⟩ := h3 a ha hk
    exact ⟨t, ht, hn, (hf.moved hvm).kept hq⟩
  · obtain ⟨t, ht, hn, hf⟩ := h4 a ha hk
    exact ⟨t, ht, hn, (hf.moved hvm).kept hq⟩
  · obtain ⟨t, ht, hn, hf⟩ := h5 a ha hk
    exact ⟨t, ht, hn, (hf.moved hvm).kept hq⟩
  · obtain ⟨t, ht, hf⟩ := h6 a ha hk
    exact ⟨t, ht, (hf.moved hvm).kept hq⟩
def EV (g : GG) (hs : AH) (U : State) : Prop := (∀ w ∈ AW, w.before #[] U = true) ∧ va_K g.1 clT (tysT g) U ∧ ST g hs U ∧ gb g ≤ U.heap.size
def PcA (g : GG) (hs : AH) (a : List Value) (h : AH) : Array Value → State → Prop := fun v U => v = (a.map (ph g)).toArray ∧ RW g hs h U.heap ∧ EV g hs U
def QcA (g : GG) (hs : AH) (z : Option Value × AH) : Array Value → State → Outcome → State → Prop := fun _ st o t => o = .returned (z.1.map (ph g)) ∧ RW g hs z.2 t.heap ∧ va_F (AA g) st t
theorem PcA.blind {g : GG} {hs : AH} {a : List Value} {h : AH} : FrameBlind (PcA g hs a h) := by
  intro v U f k q
  obtain ⟨q1, q2, q3, q4, q5, q6⟩ := q
  refine ⟨q1, q2, fun w hw => AW_at (s := U) (U := U.calling f k v) (args := #[]) (State.WarmedH.refl U) hw (q3 w hw), va_K.moved (u := U) (U := U.calling f k v) (Vm.Alike.refl U.vm) q4, ST.moved (u := U) (U := U.calling f k v) (Vm.Alike.refl U.vm) (fun _ _ _ => rfl) q5, q6⟩
/-- a method: its name, its bytes, its locals, what it returns, whose it is, the kind of its receiver (99: none), its instructions -/
abbrev MDt : Type := MethodName × ByteArray × Nat × Option FieldType × Nat × Nat × List IR
def flat (a : List Value) : List Value := a.flatMap fun v => if v.category = 2 then [v, Value.null] else [v]
def rcv (t : MDt) (a : List Value) (h : AH) : Bool := decide ((flat a).length ≤ t.2.2.1) && (decide (t.2.2.2.2.2.1 = 99) || match a with
  | .ref r :: _ => decide (hK h r = t.2.2.2.2.2.1)
  | _ => false)
def rtk (r : Option FieldType) (v : Option Value) : Bool := match r, v with
  | some ty, some (.int x) => decide (narrow ty (.int x) = .int x)
  | some .long, some (.long _) => true
  | some (.object _), some (.ref _) => true
  | some (.array _), some (.ref _) => true
  | none, none => true
  | _, _ => false
def callD (ML : List MDt) (pr : Nat → Nat → AC) : Nat → Nat → AC
  | 0, _ => fun _ _ _ => none
  | d + 1, n => fun y a h => match ML[y]? with
    | some t => guardo (rcv t a h) ((run (callD ML pr d n) t.2.2.2.2.2.2 n 0 (lcs t.2.2.1 a) [] h).bind fun z => guardo (rtk t.2.2.2.1 z.1) (some z))
    | none => pr d n y a h
/-- the calls that are no methods of the list: 300 arraycopy of a whole row into another, 301 Object's beginning, 306 to 308 Math -/
def cpy (h : AH) (a b n : Nat) : AH := ((fun x y => if x = b then (if y < n then h.1 a y else h.1 x y) else h.1 x y), h.2)
def prm : Nat → Nat → AC := fun _ _ y a h => match y, a with
  | 300, [.ref s, .int sp, .ref t, .int tp, .int n] => guardo (decide (sp = 0 ∧ tp = 0 ∧ 0 ≤ n ∧ hK h s = 20 ∧ hK h t = 20 ∧ s ≠ t ∧ n.toNatClampNeg ≤ hN h s ∧ n.toNatClampNeg ≤ hN h t)) (some (none, cpy h s t n.toNatClampNeg))
  | 301, [.ref r] => guardo (decide (100 ≤ r)) (some (none, h))
  | 306, [.int x, .int y] => some (some (.int (if x < y then y else x)), h)
  | 307, [.int x, .int y] => some (some (.int (if y < x then y else x)), h)
  | 308, [.int x] => some (some (.int (if 0 ≤ x then x else 0 - x)), h)
  | _, _ => none
def rmD (d mc ms : Nat) : Room := { frames := d, cells := mc, slots := ms, locals := 64 * d }
/-- the contract of the methods at depth d -/
def CT (l : Launch) (ML : List MDt) (pr : Nat → Nat → AC) (g : GG) (hs : AH) (d : Nat) : Prop :=
  ∀ (y : Nat) (t : MDt), ML[y]? = some t → ∀ (n : Nat) (a : List Value) (h : AH) (z : Option Value × AH), callD ML pr d n y a h = some z →
    hz h ≤ hz z.2 ∧ hu h ≤ hu z.2 ∧ Met l t.1 [.code t.1 t.2.1 t.2.2.1 t.2.2.2.1] (rmD d (hz z.2 - hz h) (hu z.2 - hu h)) (PcA g hs a h) (QcA g hs z) (hz z.2 - hz h) (hu z.2 - hu h) (AA g)
/-- the names of the static calls that are no methods of the list -/
def prT : List (Nat × Nat × MethodName) := [(300, 5, arraycopyName), (306, 2, Lib.Math.max.name), (307, 2, Lib.Math.min.name), (308, 1, Lib.Math.abs.name), (302, 5, ⟨"PenThatJumpsLaw", "jump", "(LPenThatJumps;III[J)I"⟩), (303, 4, ⟨"PenThatJumpsLaw", "worth", "(LPenThatJumps;II[J)I"⟩), (304, 3, ⟨"PenThatJumpsLaw", "lean", "(LPenThatJumps;I[J)I"⟩)]
/-- a call stands as it must -/
def cck (ML : List MDt) (own : Nat) (P : List IR) (i : Nat) (q : IR) : Bool := inx P i q.1 3 && match q.2.1, q.2.2.1 with
  | .invokevirtual f, [y, k] => match ML[y]? with
    | some t => decide (t.2.2.2.2.2.1 ≠ 99) && decide (t.1.name ≠ "<init>") && decide ((parseMethodDescriptor t.1.desc).map (fun d => d.parameters.length + 1) = some k) && (wat q.2.2.2 (.methodLink (cnm own) f t.1) || wat q.2.2.2 (.methodLinkNest (cnm own) f t.1 "PenThatJumps"))
    | none => false
  | .invokestatic f, [y, k] => match ML[y]? with
    | some t => decide (t.2.2.2.2.2.1 = 99) && decide ((parseMethodDescriptor t.1.desc).map (fun d => d.parameters.length) = some k) && (wat q.2.2.2 (.methodLink (cnm own) f t.1) || wat q.2.2.2 (.methodLinkNest (cnm own) f t.1 "PenThatJumps"))
    | none => prT.any fun t => decide (t.1 = y) && decide (t.2.1 = k) && wat q.2.2.2 (.methodLink (cnm own) f t.2.2)
  | .invokespecial f, [y, k] => match ML[y]? with
    | some t => decide (t.2.2.2.2.2.1 ≠ 99) && decide (t.1.name = "<init>") && decide (t.2.2.2.1 = none) && decide ((parseMethodDescriptor t.1.desc).map (fun d => d.parameters.length + 1) = some k) && (wat q.2.2.2 (.methodLink (cnm own) f t.1) || wat q.2.2.2 (.methodLinkNest (cnm own) f t.1 "PenThatJumps"))
    | none => decide (y = 301) && decide (k = 1) && wat q.2.2.2 (.methodLink (cnm own) f objectInit)
  | _, _ => true
/-- a method stands as it must -/
def MOK (ML : List MDt) (t : MDt) : Prop :=
  Cond.code t.1 t.2.1 t.2.2.1 t.2.2.2.1 ∈ AW ∧ Cond.initialized t.1.cls ∈ AW ∧ plainName t.1.cls = true ∧ (t.1.cls ≠ "java/lang/invoke/MethodHandle" ∧ t.1.cls ≠ "java/lang/invoke/VarHandle") ∧ t.1.cls = cnm t.2.2.2.2.1 ∧
  (t.2.2.2.2.2.1 = 99 → Cond.static t.1 ∈ AW) ∧ (t.2.2.2.2.2.1 ≠ 99 → Cond.instanceMethod t.1 ∈ AW ∧ (t.1.name ≠ "<init>" → Cond.selects t.1.cls t.1 t.1 ∈ AW) ∧ ((t.2.2.2.2.2.1 < 13 ∧ (clk t.2.2.2.2.2.1).1 = t.1.cls) ∨ (t.2.2.2.2.2.1 = 42 ∧ t.1.cls = "java/lang/String"))) ∧
  t.2.2.1 ≤ 45 ∧ pcOf t.2.2.2.2.2.2 0 = 0 ∧
  (∀ (i : Nat) (q : IR), t.2.2.2.2.2.2[i]? = some q → decode t.2.1 q.1 = .ok (q.2.1, ilen q.2.1 q.1) ∧ (isRet q.2.1 = true ∨ (isCall q.2.1 = true ∧ cck ML t.2.2.2.2.1 t.2.2.2.2.2.2 i q = true) ∨ (isRet q.2.1 = false ∧ isCall q.2.1 = false ∧ ick t.2.2.2.2.1 (decide (t.1.name = "<init>")) t.2.2.2.2.2.2 i q = true)))
theorem stp_grow {x : Instr} {o : List Nat} {i : Nat} {L S : List Value} {h : AH} {z : AS} (q : stp x o i L S h = some z) : hz h ≤ hz z.2.2.2 ∧ hu h ≤ hu z.2.2.2 := by
  cases x <;> simp only [stp, ldI, ldJ, ldA, stI, stJ, stA, biI, biJ, biS, aldI, guardo] at q <;> (repeat' split at q) <;>
    first | (cases q; done) | (cases q; exact ⟨Nat.le_refl _, Nat.le_refl _⟩) | (cases q; exact ⟨Nat.le_succ _, Nat.le_add_right _ _⟩)
theorem prm_grow {d n y : Nat} {a : List Value} {h : AH} {z : Option Value × AH} (q : prm d n y a h = some z) : hz h ≤ hz z.2 ∧ hu h ≤ hu z.2 := by
  unfold prm at q
  split at q
  · obtain ⟨-, q2⟩ := guardo_some q; cases q2; exact ⟨Nat.le_refl _, Nat.le_refl _⟩
  · obtain ⟨-, q2⟩ := guardo_some q; cases q2; exact ⟨Nat.le_refl _, Nat.le_refl _⟩
  · cases q; exact ⟨Nat.le_refl _, Nat.le_refl _⟩
  · cases q; exact ⟨Nat.le_refl _, Nat.le_refl _⟩
  · cases q; exact ⟨Nat.le_refl _, Nat.le_refl _⟩
  · cases q
theorem run_grow {call : AC} (hc : ∀ y a h z, call y a h = some z → hz h ≤ hz z.2 ∧ hu h ≤ hu z.2) {P : List IR} : ∀ (n i : Nat) (L S : List Value) (h : AH) (z : Option Value × AH), run call P n i L S h = some z → hz h ≤ hz z.2 ∧ hu h ≤ hu z.2
  | 0, i, L, S, h, z, q => by cases q
  | n + 1, i, L, S, h, z, q => by
    unfold run at q
    split at q
    · cases q
    · rename_i r hr
      split at q
      · cases hv : retv r.2.1 S with
        | none => rw [hv] at q; cases q
        | some v => rw [hv] at q; cases q; exact ⟨Nat.le_refl _, Nat.le_refl _⟩
      · split at q
        · split at q
          · obtain ⟨-, q2⟩ := guardo_some q
            obtain ⟨w, q3, q4⟩ := Option.bind_eq_some_iff.mp q2
            have h1 := hc _ _ _ _ q3
            have h2 := run_grow hc n _ _ _ _ _ q4
            exact ⟨Nat.le_trans h1.1 h2.1, Nat.le_trans h1.2 h2.2⟩
          · cases q
        · obtain ⟨w, q3, q4⟩ := Option.bind_eq_some_iff.mp q
          have h1 := stp_grow q3
          have h2 := run_grow hc n _ _ _ _ _ q4
          exact ⟨Nat.le_trans h1.1 h2.1, Nat.le_trans h1.2 h2.2⟩
theorem callD_grow {ML : List MDt} {pr : Nat → Nat → AC} (hp : ∀ d n y a h z, pr d n y a h = some z → hz h ≤ hz z.2 ∧ hu h ≤ hu z.2) : ∀ (d n y : Nat) (a : List Value) (h : AH) (z : Option Value × AH), callD ML pr d n y a h = some z → hz h ≤ hz z.2 ∧ hu h ≤ hu z.2
  | 0, n, y, a, h, z, q => by cases q
  | d + 1, n, y, a, h, z, q => by
    unfold callD at q
    split at q
    · obtain ⟨-, q2⟩ := guardo_some q
      obtain ⟨w, q3, q4⟩ := Option.bind_eq_some_iff.mp q2
      obtain ⟨-, q5⟩ := guardo_some q4
      cases q5
      exact run_grow (callD_grow hp d n) n _ _ _ _ _ q3
    · exact hp _ _ _ _ _ _ q
