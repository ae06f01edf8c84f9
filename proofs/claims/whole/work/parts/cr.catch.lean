--deps: cq.throw
/-! CAUGHT BY THE ONE ROW OF A TABLE, WHOSE LINK MAY BE COLD -/
theorem find_cold {e : Env} {s : State} {f : JFrame} {a : Addr} {meth : Method} {code : Code} {x : ExceptionTableEntry} {cell : Cell} {k : Class} {vm' : Vm} (hm : s.vm.method? f.method = some meth) (hc : meth.code = some code) (htab : code.exceptionTable.toList = [x]) (hx : covers x f.pc = true) (h0 : x.catchType ≠ 0)
    (hG : (resolveClass f.method.cls x.catchType).Gives e.toSetting s.vm (.ok cell.cls) vm') (hcell : s.heap[a]? = some cell) (hv : cell.vm = .none) (hk : vm'.classes[cell.cls]? = some k) (hsz : vm'.classes.size ≤ s.vm.classes.size) (Q : Handler → Pre) (E : CtlPost) (d : Bool) (acts : List Action) :
    wp (findHandler f a) Q E e d acts s ↔ Q (.found x.handlerPc) d acts (s.setVm vm') := by
  rw [_root_.Jvm.W.findHandler_eq hm hc, htab]
  have hx' := hx
  simp only [covers] at hx'
  obtain ⟨q1, q2⟩ := hG.op (op := VmOp.resolveClass f.method.cls x.catchType) rfl
  have q3 : ∀ k, cell.vm ≠ .statics k := fun k h => by rw [hv] at h; cases h
  have q4 := va_asg vm' cell.cls
  have q5 := VmOp.lands_eq q2 hsz
  simp [findHandler.go, hx', h0, q1, q2, q5, hcell, q3, hk, q4, VmOp.dirties, VmOp.acts]
section CT
variable {p : Program} {l : Launch} {e : Env} {R : Room} {s : State} {m : MethodId} {args : Array Value} {below : List Frame} {meth : Method} {c : Code} {T : State} {locs : List Loc} {cells slots : Nat}
theorem catch_one (X : Stand p l e R s m args below meth c T locs cells slots) {a : Addr} {g : JFrame} (hg : g.method = m) {x : ExceptionTableEntry} (htab : c.exceptionTable.toList = [x]) (hx : covers x g.pc = true) (h0 : x.catchType ≠ 0) {own N : String} (hown : s.vm.findClass own = some m.cls) (hlink : (Cond.classLink own x.catchType N).before args s = true)
    {cell : Cell} (hcell : T.heap[a]? = some cell) (hv : cell.vm = .none) (hN : s.vm.findClass N = some cell.cls) :
    ∃ vm' : Vm, Stand p l e R s m args below meth c (T.setVm vm') locs cells slots ∧ ∀ target, Steps p.tables e below ((T.setVm vm').setTop { g with pc := x.handlerPc, stack := [.ref a] }) target → Steps p.tables e below ((T.setTop g).pushFrame (.throwing a)) target := by
  subst hg
  have hpl : e.platform.magicAccessors = ({} : Platform).magicAccessors := by rw [X.admits.platform]
  obtain ⟨cN, hcN, hL⟩ := Cond.classLink_spec hown hlink e.platform hpl
  obtain rfl : cN = cell.cls := Option.some.inj (hcN.symm.trans hN)
  obtain ⟨hG, hwm, -⟩ := State.classEntry (e := e) X.warmed hL
  obtain ⟨k, hk, -⟩ := Vm.findClass_spec hN
  obtain ⟨k', hk', -⟩ := hwm.alike.2.2 _ _ hk
  have hsz : (T.vm.noted g.method.cls x.catchType (.cls cell.cls)).classes.size ≤ T.vm.classes.size := Nat.le_of_eq (Vm.size_noted _ _ _ _)
  generalize T.vm.noted g.method.cls x.catchType (.cls cell.cls) = vm' at hG hwm hk' hsz
  refine ⟨vm', X.noted hwm, fun target hrest => ?_⟩
  have hf := find_cold (e := e) (s := (T.setTop g).pushFrame (.throwing a)) (f := g) (a := a) (meth := meth) (code := c) (x := x) (cell := cell) (k := k') (vm' := vm') X.method' X.code htab hx h0 hG hcell hv hk' hsz
  obtain ⟨hgo, hw⟩ := X.here.throwing a
  refine Steps.head hgo hw ?_
  obtain ⟨g0, hr⟩ := X.frames_eq
  have hr' : (T.setVm vm').frames = .java g0 :: below := hr
  rw [stepThread_throwing (frames_entered X.here.top _), X.tail]
  have hstep : (stepThrowing e ((T.setTop g).pushFrame (.throwing a)) a (.java g :: below)).1 = (((T.setTop g).pushFrame (.throwing a)).setVm vm').setFrames (.java { g with pc := x.handlerPc, stack := [.ref a] } :: below) := by
    simp only [stepThrowing, searchFrame, vmDo]
    generalize hres : Sem.go _ e false [] ((T.setTop g).pushFrame (.throwing a)) = res
    obtain ⟨as, rfl, -⟩ := Sem.eq_ok_of hres (a := Handler.found x.handlerPc) (s' := ((T.setTop g).pushFrame (.throwing a)).setVm vm') (acts' := []) (by simp [hf])
    rfl
  have hst : (((T.setTop g).pushFrame (.throwing a)).setVm vm').setFrames (.java { g with pc := x.handlerPc, stack := [.ref a] } :: below) = (T.setVm vm').setTop { g with pc := x.handlerPc, stack := [.ref a] } := by
    rw [State.setTop_of_frames _ hr', State.pushFrame, State.setTop_of_frames _ hr, State.setFrames_setFrames]
    show ((T.setVm vm').setFrames _).setFrames _ = _
    rw [State.setFrames_setFrames]
  rw [hstep, hst]
  exact hrest
end CT
