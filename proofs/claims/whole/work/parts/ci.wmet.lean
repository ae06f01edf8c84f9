--deps: cg.xret ch.xok
/-! A METHOD WITH A TABLE OF ITS OWN: ITS CONTRACT FROM ITS WALK -/
def tabOf (c : Code) : List (Nat × Nat × Nat × Nat) := c.exceptionTable.toList.map fun x => (x.startPc, x.endPc, x.handlerPc, x.catchType)
theorem met_tab {l : Launch} {y : MethodName} {rm : Room} {Pc : Array Value → State → Prop} {Qc : Array Value → State → Outcome → State → Prop} {mc ms : Nat} {free : Addr → Prop} {cc : ByteArray} {maxL : Nat} {ret : Option FieldType} {tb : List (Nat × Nat × Nat × Nat)} (hy : plainName y.cls = true)
    (walk : ∀ p e s m args below meth c s₁, BodyLoose p l y (headSpec [.codeWith y cc maxL ret tb] rm) cc maxL ret e s m args below meth c s₁ → c.maxLocals = maxL → tabOf c = tb → Pc args s → W p l e rm s m args below meth c s.heap [] 0 0 (MQ below Qc args s mc ms free) (entryFrame m args maxL)) :
    Met l y [.codeWith y cc maxL ret tb] rm Pc Qc mc ms free := by
  have look : ∀ (args : Array Value) (s : State), (headSpec [.codeWith y cc maxL ret tb] rm).pre.before args s = true → (Cond.codeWith y cc maxL ret tb).before args s = true := fun args s h => atoms_spec h _ (List.mem_singleton.mpr rfl)
  refine MetFree.of_bodyS (code := cc) (maxLocals := maxL) (ret := ret) hy (fun args s m h hn => ?_) (fun p e s m args below meth c s₁ B hml hP _ => ?_)
  · obtain ⟨m', meth, c, q1, q2, q3, q4, q5, -, q6, q7, -⟩ := Cond.codeWith_spec (look args s h)
    have : m' = m := Option.some.inj (q1.symm.trans hn)
    subst this
    exact ⟨meth, c, q2, q3, q4, q5, q6, q7⟩
  · have ht : tabOf c = tb := by
      obtain ⟨m', meth', c', q1, q2, q3, -, -, q5, -⟩ := Cond.codeWith_spec (look args s B.pre)
      have e1 : m' = m := Option.some.inj (q1.symm.trans B.named)
      subst e1
      have e2 : meth' = meth := Option.some.inj (q2.symm.trans B.method)
      subst e2
      have hc : s₁.code? m' = some c := B.here.code
      have hm : s₁.vm.method? m' = some meth' := by rw [B.state]; exact B.method
      have e3 : c' = c := by
        have : s₁.code? m' = some c' := by rw [State.code?_eq, hm]; exact q3
        exact Option.some.inj (this.symm.trans hc)
      subst e3
      exact q5
    have hh : s₁.heap = s.heap := by rw [B.state]; rfl
    obtain ⟨t, a1, o, a2, a3, a4⟩ := walk p e s m args below meth c s₁ B hml ht hP s₁ hh (Stand.of_body B)
    exact ⟨t, o, a1, a2, a3, a4⟩
