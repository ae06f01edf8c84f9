--deps: cr.catch
/-! A WRAPPER'S CALL OF A METHOD THAT THROWS -/
def msW : List (Nat × String) := [(197, "no such sitting, question or line"), (281, "no such people or part"), (287, "nobody on one side"), (299, "no such part, or no paper on one side")]
/-- what the law's own start gives of throws -/
def S0 (g : GG) (s0 : State) : Prop := gb g = s0.heap.size ∧ (∃ A : Array Value, ∀ w ∈ TWL, w.before A s0 = true) ∧ TST (AA g) s0 s0.heap ∧ ∀ q ∈ msW, ∃ sa, vk_R "PenThatJumps" q.1 q.2 sa s0
def rgB (ex : List Nat) (P : List IR) : Bool := !ex.contains 0 && (List.range P.length).all fun i => match P[i]? with
  | some q => ex.contains i || isRet q.2.1 || (!ex.contains (i + 1) && (isCall q.2.1 || q.2.2.1.all fun t => !ex.contains t))
  | none => true
theorem rgo_of {ex : List Nat} {P : List IR} (h : rgB ex P = true) : RGO P (fun i => ex.contains i = false) := by
  have h := Bool.and_eq_true_iff.mp h
  refine ⟨by simpa using h.1, fun i q hq hi hr => ?_⟩
  have h1 := List.all_eq_true.mp h.2 i (List.mem_range.mpr (List.getElem?_eq_some_iff.mp hq).1)
  simp only [hq, hi, hr, Bool.false_or, Bool.and_eq_true, Bool.or_eq_true, List.all_eq_true, Bool.not_eq_true'] at h1
  refine ⟨h1.1, fun t ht hc => ?_⟩
  rcases h1.2 with u | u
  · rw [hc] at u; cases u
  · exact u t ht
/-- where a code of the list throws -/
def thB (cy : ByteArray) (ex : List Nat) (P : List IR) : Bool := (List.range P.length).all fun i => match P[i]? with
  | some q => ex.contains i || decide (q.2.1 ≠ .nop) || msW.any fun k => decide (decode cy q.1 = .ok (.new 195, 3)) && decide (decode cy (q.1 + 3) = .ok (.dup, 1)) && ((decide (decode cy (q.1 + 4) = .ok (.ldc k.1, 2)) && decide (decode cy (q.1 + 6) = .ok (.invokespecial 199, 3)) && decide (decode cy (q.1 + 9) = .ok (.athrow, 1))) || (decide (decode cy (q.1 + 4) = .ok (.ldc_w k.1, 3)) && decide (decode cy (q.1 + 7) = .ok (.invokespecial 199, 3)) && decide (decode cy (q.1 + 10) = .ok (.athrow, 1))))
  | none => true
theorem thw_of {cy : ByteArray} {ex : List Nat} {P : List IR} (h : thB cy ex P = true) {i pc : Nat} {w : List Nat × Nat} (hi : P[i]? = some (pc, .nop, w)) (hx : ex.contains i = false) : ∃ k ∈ msW, THW cy pc k.1 := by
  have h1 := List.all_eq_true.mp h i (List.mem_range.mpr (List.getElem?_eq_some_iff.mp hi).1)
  simp only [hi, hx, Bool.false_or, ne_eq, not_true_eq_false, decide_false] at h1
  obtain ⟨k, hk, h2⟩ := List.any_eq_true.mp h1
  simp only [Bool.and_eq_true, Bool.or_eq_true, decide_eq_true_eq] at h2
  refine ⟨k, hk, h2.1.1, h2.1.2, ?_⟩
  rcases h2.2 with u | u
  · exact Or.inl ⟨u.1.1, u.1.2, u.2⟩
  · exact Or.inr ⟨u.1.1, u.1.2, u.2⟩
set_option maxRecDepth 100000 in
theorem th_xj : rgB [21, 22, 23, 24] P_xj = true ∧ thB prog_1_method_10_code [21, 22, 23, 24] P_xj = true := by decide +kernel
set_option maxRecDepth 100000 in
theorem th_xw : rgB [11, 12, 13, 14, 60, 61, 62, 63] P_xw = true ∧ thB prog_1_method_23_code [11, 12, 13, 14, 60, 61, 62, 63] P_xw = true := by decide +kernel
set_option maxRecDepth 100000 in
theorem th_xl : rgB [24, 25, 26, 27] P_xl = true ∧ thB prog_1_method_25_code [24, 25, 26, 27] P_xl = true := by decide +kernel
theorem ret_null {x : Instr} {S : List Value} (h1 : isRet x = true) (h : retv x S = some (some .null)) : x = .nop ∧ S = [] := by
  cases x <;> first | (cases h1; done) | skip
  all_goals (unfold retv at h; split at h <;> first | (cases h; done) | skip)
  all_goals (first | (cases h; exact ⟨rfl, rfl⟩) | exact ⟨rfl, rfl⟩ | contradiction)
theorem xp_next {g : GG} {s0 s U : State} {H : Heap} {locs : List Loc} (hgb : gb g = s0.heap.size) (hX : XP s0 s) (hle : gb g ≤ s.heap.size) (hS : va_S (AA g) s.heap H locs) (hH : U.heap = H) (hW : s.WarmedH U.vm) : XP s0 U := by
  refine ⟨State.WarmedH.trans hX.1 hW, fun q hq => ?_⟩
  have hn : ¬ AA g q := by unfold AA; omega
  rw [hH, hS.2.1 q (by omega) hn]
  exact hX.2 q hq
/-- the new cell of a throw -/
theorem RW.thrown {g : GG} {hs h' : AH} {H H' : Heap} {s : State} {ce : Cell} (w : RW g hs h' H) (kk : va_K g.1 clT (tysT g) s) (hsz : H'.size = H.size + 1) (oq : ∀ q : Nat, q < H.size → H'[q]? = H[q]?) (hc : H'[H.size]? = some ce) (hv : ce.vm = .none) (hcl : s.vm.findClass NSE = some ce.cls) : RW g hs (mkC h' 12 0 6) H' := by
  refine w.mk (by decide) hsz oq ?_
  have hk : hK (mkC h' 12 0 6) (hz h') = 12 := by
    show upr (hK h') (hz h') 12 (hz h') = 12
    unfold upr; rw [if_pos rfl]
  have hat : clT[12]? = some (clk 12) := clT_get (by decide)
  have e1 : g.1.1 12 = ce.cls := Option.some.inj ((kk.1 12 _ hat).2.1.symm.trans hcl)
  unfold cE
  rw [hk, if_pos (by decide)]
  exact ⟨_, hat, ce, hc, e1.symm, hv, fun k hk => absurd hk (Nat.not_lt_zero k)⟩
theorem tab_one {c : Code} {pa pb pd pe : Nat} (h : tabOf c = [(pa, pb, pd, pe)]) : c.exceptionTable.toList = [⟨pa, pb, pd, pe⟩] := by
  unfold tabOf at h
  cases hl : c.exceptionTable.toList with
  | nil => rw [hl] at h; cases h
  | cons x t =>
    rw [hl] at h
    cases t with
    | nil =>
      obtain ⟨x1, x2, x3, x4⟩ := x
      cases h
      rfl
    | cons y t => cases h
section VT
variable {p : Program} {l : Launch} {e : Env} {R : Room} {s : State} {m : MethodId} {args : Array Value} {below : List Frame} {meth : Method} {c : Code} {Q : State → Prop} {cc : ByteArray} {nL : Nat} {g : GG} {hs h h' : AH}
/-- the method's own walk to its throw -/
theorem x_thr {s0 : State} {cy : ByteArray} {maxL : Nat} {P : List IR} {ex : List Nat} {d n : Nat} {a : List Value} {ls : Array Slot} (h0 : S0 g s0) (hX : XP s0 s) (htr : l.stackTraces = false) (C : CX p s m args c cy maxL 10 g hs) (hP : POK ML cy 10 false P) (hp0 : pcOf P 0 = 0) (hrg : rgB ex P = true) (hth : thB cy ex P = true)
    (hrun : run (callD ML prm d n) P n 0 (lcs maxL a) [] h = some (some .null, h')) (hL : LR g (lcs maxL a) maxL ls) (hW : RW g hs h s.heap) (hout : c.exceptionTable.toList = []) (hlocks : meth.locks = false) :
    W p l e (rmD (d + 10) (hz h' - hz h + 1) (hu h' - hu h + 6)) s m args below meth c s.heap [] 0 0 (TQ g hs h' below s (hz h' - hz h + 1) (hu h' - hu h + 6)) (F0 m 0 ls []) := by
  obtain ⟨hgb, ⟨A, hA⟩, hT, hM⟩ := h0
  have hw : ∀ w ∈ TWL, w.before args s = true := fun w hw => tw_moved hX (tw_ok w hw) (hA w hw)
  have hq : ∀ a : Nat, a < s0.heap.size → ¬ AA g a → s.heap[a]? = s0.heap[a]? := fun a h1 _ => hX.2 a h1
  have hst : TST (AA g) s s.heap := ⟨va_Zq.moved hX.1.alike (va_Zq.kept hT.1 hq), va_Zq.moved hX.1.alike (va_Zq.kept hT.2 hq)⟩
  have K0 := sim_go (p := p) (l := l) (e := e) (R := rmD (d + 10) (hz h' - hz h + 1) (hu h' - hu h + 6)) (below := below) (meth := meth) (Q := TQ g hs h' below s (hz h' - hz h + 1) (hu h' - hu h + 6)) (ini := false) C hP (fun hq => by cases hq) ok_ML prmg (rgo_of hrg) (Nat.le_refl 1) (prms_of prm_rule) (met_all l g hs ok_ML prmg prm_rule d) ⟨by show d + 1 ≤ d + 10; omega, by show 64 * (d + 1) ≤ 64 * (d + 10); omega⟩ n 0 (lcs maxL a) [] h (some .null, h') s.heap ls [] 0 0 hrun (rgo_of hrg).1 hL hW va_S.rf (by show 0 + (hz h' - hz h) ≤ hz h' - hz h + 1 ∧ 0 + (hu h' - hu h) ≤ hu h' - hu h + 6; omega) ?_
  · rw [hp0] at K0
    exact K0
  · intro i' w' x pc' S' H' ls' locs' k6 k8 k7 k1 k2 k3 k4 k5
    obtain ⟨rfl, rfl⟩ := ret_null k1 k3
    obtain ⟨q, hq1, hq2⟩ := thw_of hth k6 k8
    obtain ⟨sa, hsa⟩ := hM q hq1
    rw [Nat.zero_add, Nat.zero_add]
    exact w_throw C htr hw hst (vk_R.warm hX.1 hsa) k7 hout hlocks hq2 (by show 6 ≤ d + 10; omega) (by show 82 ≤ 64 * (d + 10); omega) ⟨Nat.le_refl _, Nat.le_refl _⟩ k4 k5
theorem v_thr {s0 : State} {f n nn d r pc maxL pa pb ph_ : Nat} {y : MethodName} {cy : ByteArray} {ret : Option FieldType} {P : List IR} {ex : List Nat} {a' S : List Value} {H : Heap} {ls : Array Slot} {locs : List Loc} {cells slots : Nat} (h0 : S0 g s0) (hX : XP s0 s) (htr : l.stackTraces = false) (C : CX p s m args c cc nL 13 g hs) (hd : decode cc pc = .ok (.invokevirtual f, 3)) (xw : XW f y cy maxL ret n) (hy : plainName y.cls = true) (hP : POK ML cy 10 false P) (hp0 : pcOf P 0 = 0) (hrg : rgB ex P = true) (hth : thB cy ex P = true)
    (hrun : run (callD ML prm d nn) P nn 0 (lcs maxL (.ref r :: a')) [] h = some (some .null, h')) (hfl : (flat (.ref r :: a')).length ≤ maxL) (hR : d + 11 ≤ R.frames ∧ 64 * (d + 11) ≤ R.locals) (hls : ls.size = nL) (hW : RW g hs h H) (hS : va_S (AA g) s.heap H locs) (hkr : hK h r = 10) (hal : a'.length = n) (hcat : (S.map fun v => v.category).sum ≤ 8)
    (htab : tabOf c = [(pa, pb, ph_, 13)]) (hcov : pa ≤ pc ∧ pc < pb) (hrm : cells + (hz h' - hz h + 1) ≤ R.cells ∧ slots + (hu h' - hu h + 6) ≤ R.slots)
    (kk : ∀ (H1 : Heap) (locs1 : List Loc), RW g hs (mkC h' 12 0 6) H1 → va_S (AA g) s.heap H1 locs1 → W p l e R s m args below meth c H1 locs1 (cells + (hz h' - hz h + 1)) (slots + (hu h' - hu h + 6)) Q (F0 m ph_ ls ([.ref (hz h')].map (ph g)))) :
    W p l e R s m args below meth c H locs cells slots Q (F0 m pc ls ((a'.reverse ++ .ref r :: S).map (ph g))) := by
  obtain ⟨x1, x2, x3, x4, x5, x6, x7, x8, x9⟩ := xw
  have hts := C.2.2.2.2.1
  have hi3 : (10 < 13 ∧ (clk 10).1 = y.cls) ∨ (10 = 42 ∧ y.cls = "java/lang/String") := Or.inl ⟨by decide, x6.symm⟩
  obtain ⟨b, hb⟩ := ph_recv hW C hkr hi3
  have hst : (a'.reverse ++ .ref r :: S).map (ph g) = (a'.map (ph g)).reverse ++ .ref b :: S.map (ph g) := by
    rw [List.map_append, List.map_cons, hb, List.map_reverse]
  obtain ⟨-, ⟨cellB, hcB, hoB, hclB⟩, hPc⟩ := pre_V (a := a') C hW hS hb hkr hi3
  obtain ⟨cx, cb, cl, co, -, cK, -, cg⟩ := id C
  obtain ⟨mk, mM, hnamed, hmM, hstM, habM⟩ := Cond.instanceMethod_spec (hts _ x2)
  obtain ⟨mM', cM, hmM', hcM, hbM, hlM, -, hlkM, hempM, hsigM⟩ := Cond.code_spec hnamed (hts _ x4)
  obtain rfl : mM = mM' := Option.some.inj (hmM.symm.trans hmM')
  obtain ⟨c2, r2, m2, q1, q2, q3, q4, kP, hkP, hkPi⟩ := Cond.selects_spec (hts _ x3)
  obtain rfl : c2 = cellB.cls := Option.some.inj (q1.symm.trans hclB)
  obtain rfl : r2 = mk := Option.some.inj (q2.symm.trans (State.methodFound?_of_named hnamed x7))
  obtain rfl : m2 = r2 := Option.some.inj (q3.symm.trans hnamed)
  have hlen : (a'.map (ph g)).length = mM.sig.parameters.length := by
    rw [hsigM] at x8
    rw [List.length_map, hal]
    exact (Option.some.inj x8).symm
  intro T hT X
  obtain ⟨vm1, X1, st1⟩ := X.invokevirtual cx co (hts _ x1) hnamed hmM hstM hkP hkPi x7 (a := b) (cell := cellB) (by rw [hT]; exact hcB) (fun z hz => by rw [hz] at hoB; cases hoB) (by rw [Launch.admits_selectMethod X.admits]; exact q4) hmM habM hkP hkPi (g := F0 m pc ls ((a'.reverse ++ .ref r :: S).map (ph g))) rfl (argsL := a'.map (ph g)) (rest := S.map (ph g)) hlen hst (by rw [cb]; exact hd)
  have hW1 := X1.warmed
  have hmM1 : (T.setVm vm1).vm.method? m2 = some mM := by rw [hW1.alike.method?]; exact hmM
  have hpm : (T.setVm vm1).plainMethod m2 := State.plainMethod.of_name fun k hk => by
    obtain ⟨k1, hk1, hn1⟩ := className_of_methodNamed hnamed
    obtain ⟨k2, hk2, he2⟩ := hW1.alike.2.2 _ _ hk1
    obtain rfl : k = k2 := Option.some.inj (hk.symm.trans hk2)
    rw [he2]
    show plainName k1.name = true
    rw [hn1]; exact hy
  have hpc := hPc (T.setVm vm1) hT hW1
  obtain ⟨Y, hin⟩ := X1.into (g := F0 m pc ls (S.map (ph g))) rfl (hls.trans cl.symm) (by rw [cb]; exact hd) (mk := m2) (methk := mM) (ck := cM) (Value.ref b :: a'.map (ph g)).toArray (R' := rmD (d + 10) (hz h' - hz h + 1) (hu h' - hu h + 6)) hmM1 hcM hlkM hpm (by show d + 10 + 1 ≤ R.frames; omega)
    (by
      rw [hlM]
      show 2 * 0 + ((S.map (ph g)).map fun v => v.category).sum + (maxL + 11) + 64 * (d + 10) ≤ R.locals
      rw [cat_map]
      omega) hrm.1 hrm.2
  obtain ⟨s', hs'⟩ : ∃ z, z = (T.setVm vm1).calling (F0 m pc ls (S.map (ph g))) m2 (Value.ref b :: a'.map (ph g)).toArray := ⟨_, rfl⟩
  have hpc' := PcA.blind _ _ (F0 m pc ls (S.map (ph g))) m2 hpc
  rw [← hs'] at hpc' Y
  obtain ⟨hargs, hW', hE1, hE2, hE3, hE4⟩ := hpc'
  have hh' : s'.heap = H := by rw [hs']; exact hT
  have hv' : s'.vm = vm1 := by rw [hs']; rfl
  have hWs : s.WarmedH s'.vm := by rw [hv']; exact hW1
  have hX' : XP s0 s' := xp_next h0.1 hX cg hS hh' hWs
  have C' : CX p s' m2 (Value.ref b :: a'.map (ph g)).toArray cM cy maxL 10 g hs := ⟨cx, hbM, hlM, by rw [hWs.alike.findClass]; have hyc : y.cls = "PenThatJumps" := x6; show s.vm.findClass "PenThatJumps" = some m2.cls; rw [← hyc]; exact findClass_of_methodNamed hnamed, fun w hw => AW_at (State.WarmedH.refl s') hw (hE1 w hw), hE2, hE3, hE4⟩
  have hnoM : cM.exceptionTable.toList = [] := by
    have : cM.exceptionTable.size = 0 := by simpa [Array.isEmpty] using hempM
    exact List.eq_nil_of_length_eq_zero (by simpa using this)
  have hL := LR.entry g (.ref r :: a') (n := maxL) hfl
  have hE := lg_entry_eq m2 (([.ref r] ++ a' : List Value).map (ph g)) maxL
  rw [show (([.ref r] ++ a' : List Value).map (ph g)).toArray = (Value.ref b :: a'.map (ph g)).toArray from hargs.symm] at hE
  have hYh : (((T.setVm vm1).setTop (F0 m pc ls (S.map (ph g)))).pushFrame (.java (entryFrame m2 (Value.ref b :: a'.map (ph g)).toArray cM.maxLocals))).heap = s'.heap := by rw [hh']; exact hT
  obtain ⟨t, t1, HH, ce, L, u1, u2, u3, u4, u5, u6, u7, u8, u9, u10, u11, u12⟩ := x_thr (p := p) (l := l) (e := e) (below := .java (F0 m pc ls (S.map (ph g))) :: below) (meth := mM) h0 hX' htr C' hP hp0 hrg hth hrun hL hW' hnoM hlkM _ hYh Y
  obtain ⟨T', X', hW2, -, ht⟩ := X1.outOfThrown (g := F0 m pc ls (S.map (ph g))) rfl (mk := m2) (a := (Value.ref b :: a'.map (ph g)).toArray) u4 (by rw [← hs']; exact u10) (by rw [← hs']; exact u11)
  have hT' : T'.heap = t.heap := by rw [ht]; exact (throwing_heap _ _ _).symm
  have htab' : c.exceptionTable.toList = [⟨pa, pb, ph_, 13⟩] := tab_one htab
  obtain ⟨A, hA⟩ := h0.2.1
  have hlk : (Cond.classLink "PenThatJumpsLaw" 13 NSE).before args s = true := tw_moved hX (tw_ok _ (tw_e 14 rfl)) (hA _ (tw_e 14 rfl))
  have hN : s.vm.findClass NSE = some ce.cls := by rw [← hWs.alike.findClass]; exact u9
  obtain ⟨vm2, X2, st2⟩ := catch_one X' (a := HH.size) (g := F0 m pc ls (S.map (ph g))) rfl htab' (by simp [covers, hcov.1, hcov.2]) (show (13 : Nat) ≠ 0 by decide) co (N := NSE) hlk (cell := ce) (by rw [hT']; exact u7) u8 hN
  have R1 : RW g hs (mkC h' 12 0 6) T'.heap := by rw [hT']; exact u1.thrown hE2 u5 u6 u7 u8 u9
  have S1 : va_S (AA g) s.heap T'.heap (locs ++ L) := by
    rw [hh'] at u2
    refine ⟨by rw [hT', u5]; have := hS.1; have := u2.1; omega, fun q hq hn => ?_, fun z hz => ?_⟩
    · have hq1 : q < H.size := Nat.lt_of_lt_of_le hq hS.1
      rw [hT', u6 q (Nat.lt_of_lt_of_le hq1 u2.1), u2.2 q hq1 hn]
      exact hS.2.1 q hq hn
    · rcases List.mem_append.mp hz with q | q
      · exact hS.2.2 z q
      · exact u12 z q
  have hp9 : ([.ref (hz h')] : List Value).map (ph g) = [.ref HH.size] := by rw [List.map_cons, List.map_nil, ph_own u1.1, u1.2.1]
  have k9 := kk T'.heap (locs ++ L) R1 S1
  rw [hp9] at k9
  obtain ⟨t9, a9, b9⟩ := k9 (T'.setVm vm2) rfl X2
  refine ⟨t9, st1 t9 (fun acts => ?_), b9⟩
  have t2 : Steps p.tables e (.java (F0 m pc ls (S.map (ph g))) :: below) _ t := t1
  rw [show (F0 m2 0 ((lg_sl ((.ref r :: a' : List Value).map (ph g)) ++ List.replicate (maxL - (lg_sl ((.ref r :: a' : List Value).map (ph g))).length) Slot.unset).toArray) []) = entryFrame m2 (Value.ref b :: a'.map (ph g)).toArray maxL from hE.symm] at t2
  have w1 := Steps.weaken (mid := [.java (F0 m pc ls (S.map (ph g)))]) t2
  rw [ht] at w1
  show Steps p.tables e below (doInvoke e ((T.setVm vm1).setTop (F0 m pc ls (S.map (ph g)))) acts m2 (Value.ref b :: a'.map (ph g)).toArray).1 t9
  have e1 := hin acts
  rw [hlM] at e1
  rw [hlM] at w1
  rw [e1]
  exact w1.trans (st2 t9 a9)
end VT
