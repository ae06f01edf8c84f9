--deps: co.prms
/-! WHAT THE THROW OF A NoSuchElementException RESTS ON -/
abbrev NSE : String := "java/util/NoSuchElementException"
abbrev nRTE : String := "java/lang/RuntimeException"
abbrev nEXC : String := "java/lang/Exception"
def b13 : ByteArray := ⟨#[0x2a, 0x2b, 0xb7, 0x00, 0x0d, 0xb1]⟩
theorem b13_0 : decode b13 0 = .ok (.aload_n 0, 1) := by decide +kernel
theorem b13_1 : decode b13 1 = .ok (.aload_n 1, 1) := by decide +kernel
theorem b13_2 : decode b13 2 = .ok (.invokespecial 13, 3) := by decide +kernel
theorem b13_5 : decode b13 5 = .ok (.return_, 1) := by decide +kernel
def tw_x : List Cond := [.classLink "PenThatJumps" 195 NSE, .initialized NSE, .methodLink "PenThatJumps" 199 (Bundle.initS NSE), .instantiable NSE 6, .castable NSE NSE, .selects NSE Bundle.tFill0 Bundle.tFill0, .selects NSE Bundle.tFill Bundle.tFill, .lays NSE Bundle.tN "cause" "Ljava/lang/Throwable;", .lays NSE Bundle.tN "stackTrace" Bundle.steD, .lays NSE Bundle.tN "suppressedExceptions" Bundle.listD, .lays NSE Bundle.tN "detailMessage" "Ljava/lang/String;", .fieldLink Bundle.tN 198 Bundle.tN "backtrace" "Ljava/lang/Object;", .lays Bundle.tN Bundle.tN "backtrace" "Ljava/lang/Object;", .lays NSE Bundle.tN "backtrace" "Ljava/lang/Object;", .classLink "PenThatJumpsLaw" 13 NSE]
/-- all words of a throw -/
def TWL : List Cond := Bundle.throwableAtoms ++ (Bundle.throwableSAtoms ++ (Bundle.passSAtoms NSE nRTE 13 b13 ++ (Bundle.chainSAtoms nRTE [nEXC] ++ tw_x)))
def twk (w : Cond) : Bool := goodWord w || (match w with
  | .lays _ _ _ _ => true
  | .laysStatic _ _ _ => true
  | .declares _ => true
  | .castable _ _ => true
  | _ => false)
set_option maxRecDepth 100000 in
theorem tw_in : ∀ w ∈ TWL, w ∈ lw_tbl := by decide +kernel
set_option maxRecDepth 100000 in
theorem tw_ok : ∀ w ∈ TWL, twk w = true := by decide +kernel
/-- a later state: its tables may be warmer, the old cells are as they were -/
def XP (s U : State) : Prop := s.WarmedH U.vm ∧ ∀ q : Nat, q < s.heap.size → U.heap[q]? = s.heap[q]?
theorem tw_moved {s U : State} {A A' : Array Value} (hX : XP s U) {w : Cond} (hk : twk w = true) (h : w.before A s = true) : w.before A' U = true := by
  obtain ⟨hW, hh⟩ := hX
  unfold twk at hk
  rcases Bool.or_eq_true_iff.mp hk with q | q
  · exact word_at hW (good_of_word q) h
  · split at q
    · exact va_tabs rfl (rfl : (s.setVm U.vm).vm = U.vm) (Cond.lays_setVm hW.alike h)
    · obtain ⟨c, k, i, f, a, cell, h1, h2, h3, h4, h5, h6, h7, h8, h9⟩ := Cond.laysStatic_spec h
      obtain ⟨k', h2', he⟩ := State.fieldFound?_setVm hW.alike h2
      have e5 : U.heap[a]? = some cell := (hh a (Array.getElem?_eq_some_iff.mp h5).1).trans h5
      exact Cond.laysStatic_of (s := U) (by rw [hW.alike.findClass]; exact h1) h2' h3 (by rw [he]; exact h4) e5 h6 h7 h8 (by rw [he]; exact h9)
    · exact va_tabs rfl (rfl : (s.setVm U.vm).vm = U.vm) (by rw [Cond.declares_setVm hW.alike]; exact h)
    · exact va_tabs rfl (rfl : (s.setVm U.vm).vm = U.vm) (by rw [Cond.castable_setVm hW.alike]; exact h)
    · cases q
/-- the two statics that a Throwable's constructor reads -/
def TST (A : Nat → Prop) (U : State) (H : Heap) : Prop := va_Zq Bundle.tN "UNASSIGNED_STACK" Bundle.steD A U H ∧ va_Zq Bundle.tN "SUPPRESSED_SENTINEL" Bundle.listD A U H
theorem zq_at {C n d : String} {A : Nat → Prop} {U : State} {H : Heap} (h : va_Zq C n d A U H) {c i : Nat} {k : Class} {f : Field} {a : Nat} (hf : U.fieldFound? C n d = some (c, k, i, f)) (ha : k.statics = some a) :
    ∃ (cell : Cell) (u : RefV), H[a]? = some cell ∧ cell.vm.isStatics = true ∧ cell.slots[f.slot]? = some u.v ∧ ¬ A a := by
  have go : ∀ v : Value, v.isRef = true → va_Z C n d v A U H → ∃ (cell : Cell) (u : RefV), H[a]? = some cell ∧ cell.vm.isStatics = true ∧ cell.slots[f.slot]? = some u.v ∧ ¬ A a := by
    intro v hv hz
    obtain ⟨cf, kf, fi, f', a', cell, q1, -, -, q4, q5, q6, q7, q8⟩ := hz
    have e := Option.some.inj (q1.symm.trans hf)
    simp only [Prod.mk.injEq] at e
    obtain ⟨-, rfl, -, rfl⟩ := e
    have e2 : a' = a := Option.some.inj (q4.symm.trans ha)
    subst e2
    exact ⟨cell, ⟨v, hv⟩, q5, q6, q7, q8⟩
  rcases h with h | ⟨t, h⟩
  · exact go _ rfl h
  · exact go _ rfl h
theorem tw_a {w : Cond} (h : w ∈ Bundle.throwableAtoms) : w ∈ TWL := List.mem_append_left _ h
theorem tw_b {w : Cond} (h : w ∈ Bundle.throwableSAtoms) : w ∈ TWL := List.mem_append_right _ (List.mem_append_left _ h)
theorem tw_c {w : Cond} (h : w ∈ Bundle.passSAtoms NSE nRTE 13 b13) : w ∈ TWL := List.mem_append_right _ (List.mem_append_right _ (List.mem_append_left _ h))
theorem tw_d {w : Cond} (h : w ∈ Bundle.chainSAtoms nRTE [nEXC]) : w ∈ TWL := List.mem_append_right _ (List.mem_append_right _ (List.mem_append_right _ (List.mem_append_left _ h)))
theorem tw_e {w : Cond} (i : Nat) (h : tw_x[i]? = some w) : w ∈ TWL := List.mem_append_right _ (List.mem_append_right _ (List.mem_append_right _ (List.mem_append_right _ (List.mem_of_getElem? h))))
theorem tw_sel {e : Env} {s : State} {args : Array Value} {y : MethodName} {k : MethodId} {cX : ClassId} (hsm : ∀ (c : ClassId) (r : MethodId), selectMethod e.platform s.vm c r = selectMethod {} s.vm c r) (hX : s.vm.findClass NSE = some cX) (hk : s.methodNamed? y = some k) (hy : y.cls ≠ "java/lang/invoke/MethodHandle" ∧ y.cls ≠ "java/lang/invoke/VarHandle") (h : (Cond.selects NSE y y).before args s = true) : selectMethod e.platform s.vm cX k = .method k := by
  obtain ⟨c, r, k', q1, q2, q3, q4, -⟩ := Cond.selects_spec h
  have e1 : c = cX := Option.some.inj (q1.symm.trans hX)
  have e2 : r = k := Option.some.inj (q2.symm.trans (State.methodFound?_of_named hk hy))
  have e3 : k' = k := Option.some.inj (q3.symm.trans hk)
  rw [hsm, ← e1, ← e2, q4, e3, e2]
section NC
variable {p : Program} {l : Launch} {e : Env} {R : Room} {s : State} {m : MethodId} {args : Array Value} {below : List Frame} {meth : Method} {c : Code} {T : State} {locs : List Loc} {cells slots : Nat}
set_option maxHeartbeats 4000000 in
/-- the constructor of the new cell, and its throw -/
theorem nse_ctor (X : Stand p l e R s m args below meth c T locs cells slots) (hexec : p.tables.exec = Jvm.exec) (htr : e.platform.stackTraces = false) (hown : s.vm.findClass "PenThatJumps" = some m.cls) (hw : ∀ w ∈ TWL, w.before args s = true) {A : Nat → Prop} (hst : TST A s T.heap) {self : Addr} (hA : A self)
    {cX : ClassId} {kX : Class} (hfX : s.vm.findClass NSE = some cX) (hkX : s.vm.classes[cX]? = some kX) (hcell : T.heap[self]? = some (freshCell cX kX)) {msg : Value} (hmsg : msg.isRef = true)
    {g : JFrame} (hg : g.method = m) (hsize : g.locals.size = c.maxLocals) (hlocked : g.locked = none) (hentered : g.entered = []) (hmr : g.monitorRoom = 0) (hstack : g.stack = [msg, .ref self, .ref self])
    (d1 : decode c.code g.pc = .ok (.invokespecial 199, 3)) (d2 : decode c.code (g.pc + 3) = .ok (.athrow, 1)) (hout : c.exceptionTable.toList = []) (hRf : 6 ≤ R.frames) (hRl : 82 ≤ R.locals) (hlocks : meth.locks = false) :
    ∃ (U : State) (vm' : Vm) (ce : Cell), U = ((T.setVm vm').setCell self ce).setFrames (.throwing self :: below) ∧ ce.cls = cX ∧ ce.vm = .none ∧ Steps p.tables e below (T.setTop g) U ∧ U.status = .running ∧ Ended U below (.threw self) ∧ s.WarmedH U.vm ∧ ∃ L : List Loc, (∀ z ∈ L, z.base = self) ∧ s.sameButNew ({ U with vm := s.vm } : State) (locs ++ L) cells slots := by
  have howns : e.platform.frameOwnsMonitors = true := by rw [X.admits.platform]
  have hfin : e.platform.finalization = false := by rw [X.admits.platform]
  have hpl : e.platform.magicAccessors = ({} : Platform).magicAccessors := by rw [X.admits.platform]
  obtain ⟨TC, Z0, L, -, Y⟩ := ThrowableC.of_atoms (args := args) howns hfin hpl (fun w h => hw w (tw_a h))
  obtain ⟨Z, M, LZ, LM, hnZ⟩ := Init0T.ofS_atoms (args := args) hpl L Y (fun w h => hw w (tw_b h))
  obtain ⟨P1, L1, hP1, hS1⟩ := PassC.ofS_atoms (args := args) (s := s) hpl (X := NSE) (Y := nRTE) (by decide) (by decide) b13_0 b13_1 b13_2 b13_5 (fun w h => hw w (tw_c h))
  obtain ⟨P2, Ps, hlen, L2, hL, hP2, hlink2, hlink⟩ := Bundle.chainS (args := args) hpl hnZ [nEXC] nRTE (by decide) (by decide) (fun w h => hw w (tw_d h))
  have e12 : P1.sup = P2.m := Option.some.inj (hS1.symm.trans hP2)
  have hfound : s.vm.findClass NSE = some P1.m.cls := findClass_of_methodNamed hP1
  obtain rfl : cX = P1.m.cls := Option.some.inj (hfX.symm.trans hfound)
  obtain ⟨c1, k1, hc1, hk1, hord, -, -, hn6⟩ := Cond.instantiable_spec (hw _ (tw_e 3 rfl))
  obtain rfl : c1 = P1.m.cls := Option.some.inj (hc1.symm.trans hfound)
  obtain rfl : k1 = kX := Option.some.inj (hk1.symm.trans hkX)
  have hsm : ∀ (c : ClassId) (r : MethodId), selectMethod e.platform s.vm c r = selectMethod {} s.vm c r := fun c r => by rw [Launch.admits_selectMethod X.admits]
  have hsel0 := tw_sel hsm hfound Y.fill0 (by decide) (hw _ (tw_e 5 rfl))
  have hselF := tw_sel hsm hfound Y.fill (by decide) (hw _ (tw_e 6 rfl))
  obtain ⟨cellS, u0, hcS, hiS, hu0, hnA⟩ := zq_at hst.1 Y.unassigned L.statics
  obtain ⟨cellS', sen, hcS', -, hsen, -⟩ := zq_at hst.2 Y.sentinel L.statics
  obtain rfl : cellS' = cellS := Option.some.inj (hcS'.symm.trans hcS)
  have hne : TC.aS ≠ self := fun h => hnA (h ▸ hA)
  have hkS : cellS'.vm ≠ .unknown := fun h => by rw [h] at hiS; cases hiS
  obtain ⟨iM, hffM⟩ := Y.msg
  obtain ⟨ci, i9, fB, hk9, hg9, ha9, hsB, -, hnB, htB, hffB⟩ := Cond.ownField (t := .object "java/lang/Object") Y.found L.cls (by decide +kernel) (hw _ (tw_e 11 rfl)) (hw _ (tw_e 12 rfl)) e.platform hpl
  obtain ⟨tyC, dC, hdC, hdnC⟩ := Cond.laysAt hfound hkX Y.cause (hw _ (tw_e 7 rfl))
  obtain ⟨tyS, dS, hdS, hdnS⟩ := Cond.laysAt hfound hkX Y.stack (hw _ (tw_e 8 rfl))
  obtain ⟨tyP, dP, hdP, hdnP⟩ := Cond.laysAt hfound hkX Y.supp (hw _ (tw_e 9 rfl))
  obtain ⟨tyM, -⟩ := Cond.laysAt hfound hkX hffM (hw _ (tw_e 10 rfl))
  obtain ⟨tyB, dB, hdB, hdnB⟩ := Cond.laysAt hfound hkX hffB (hw _ (tw_e 13 rfl))
  have bC := Cond.laysApart hdB hdC hdnB hdnC (by rw [hnB, Y.causeName]; decide)
  have bS := Cond.laysApart hdB hdS hdnB hdnS (by rw [hnB, Y.stackName]; decide)
  have bP := Cond.laysApart hdB hdP hdnB hdnP (by rw [hnB, Y.suppName]; decide)
  have hdef : (freshCell P1.m.cls k1).slots[fB.slot]? = some .null := by
    have := fresh_default (c := P1.m.cls) tyB
    rw [htB] at this
    exact this
  have hskip : SkipFacts TC e.platform s (fun u => u) u0 ((preparedCellV TC.toThrowableT (freshCell P1.m.cls k1) self u0 sen).withEntry T.cur) := by
    refine ⟨{ ci198 := ci, i198 := i9, fBack := fB }, ⟨hk9, hg9, ha9, hsB⟩, ?_, fun _ _ => rfl⟩
    show ((((freshCell P1.m.cls k1).slots.setIfInBounds TC.fCause.slot (.ref self)).setIfInBounds TC.fStack.slot u0.v).setIfInBounds TC.fSupp.slot sen.v)[fB.slot]? = some .null
    rw [Array.getElem?_setIfInBounds_ne bP.symm, Array.getElem?_setIfInBounds_ne bS.symm, Array.getElem?_setIfInBounds_ne bC.symm]
    exact hdef
  obtain ⟨tm, -, -, -, vm1, hn1, -, -, -, -, -, -, -, hW1, st1⟩ := Steps.initColdS (tb := p.tables) (e := e) (below := below) (s := s) (U := T) X.here hexec X.warmed hpl hown (t := Bundle.initS NSE) rfl rfl (by decide) (hw _ (tw_e 2 rfl)) (hw _ (tw_c (List.mem_of_getElem? (i := 0) rfl))) (bytes := b13) (maxL := 2) (hw _ (tw_c (List.mem_of_getElem? (i := 1) rfl))) (f := g) hg (a := self) (msg := msg) (rest := [.ref self]) hstack d1
  obtain rfl : tm = P1.m := Option.some.inj (hn1.symm.trans hP1)
  have hall : ∀ P, P ∈ P1 :: P2 :: Ps → P.LinksS e.platform s := by
    intro P hP
    rcases List.mem_cons.mp hP with rfl | hP
    · exact L1
    · rcases List.mem_cons.mp hP with rfl | hP
      · exact L2
      · exact hL P hP
  have hl3 : (P1 :: P2 :: Ps).length = 3 := by rw [List.length_cons, List.length_cons, hlen]; rfl
  obtain ⟨vm2, X2, st2⟩ := (X.noted hW1).ctorMessageOffV hexec (g := { g with stack := [.ref self] }) hg hsize TC L Z LZ M LM (P1 :: P2 :: Ps) hall ⟨e12, hlink2, hlink⟩ (u0 := u0) (sen := sen) (self := self) hmsg (cell := freshCell P1.m.cls k1) (cellS := cellS') hcell (fun _ h => by cases h) (fun h => by cases h) rfl rfl hsel0 hselF hcS hne hkS hu0 hsen
    (Takes.of_laid hkX hord tyC (by rw [Y.causeType]; rfl)) (Takes.of_laid hkX hord tyS (by rw [Y.stackType]; exact fits_refV_array _ u0)) (Takes.of_laid hkX hord tyP (by rw [Y.suppType]; exact fits_refV_object _ sen)) (Takes.of_laid hkX hord tyM (by rw [Y.msgType]; exact fits_refV_object _ ⟨msg, hmsg⟩)) Y.objLocals hskip htr [] d1
    (by rw [hl3]; omega) (by rw [hl3]; show 2 * g.monitorRoom + (1 + 0) + (13 * 3 + 42) ≤ R.locals; rw [hmr]; omega)
  obtain ⟨hwalk, hrun, hended, hWU, hsame⟩ := X2.athrowLeaves hexec (g := { g with stack := [.ref self], pc := g.pc + 3 }) hg hlocked hentered (fun x hx => by rw [hout] at hx; cases hx) (a := self) (rest := []) rfl d2 hlocks
  refine ⟨_, vm2, plainBareV TC.toThrowableT (freshCell P1.m.cls k1) self u0 sen msg, rfl, rfl, rfl, st1 _ (fun acts => ?_), hrun, hended, hWU, [⟨self, TC.fCause.slot⟩, ⟨self, TC.fStack.slot⟩, ⟨self, TC.fSupp.slot⟩, ⟨self, TC.fStack.slot⟩, ⟨self, TC.fMsg.slot⟩], ?_, hsame⟩
  · rw [doInvoke_state]
    exact st2 _ hwalk
  · intro z hz
    simp only [List.mem_cons, List.not_mem_nil, or_false] at hz
    rcases hz with rfl | rfl | rfl | rfl | rfl <;> rfl
end NC
