--deps: cp.nse
/-! THE THROW, FROM 'new' TO THE END OF THE METHOD -/
/-- what a method has come to that threw -/
def TQ (g : GG) (hs h' : AH) (below : List Frame) (s : State) (mc ms : Nat) : State → Prop := fun t =>
  ∃ (H : Heap) (ce : Cell) (L : List Loc), RW g hs h' H ∧ (s.heap.size ≤ H.size ∧ ∀ q : Nat, q < s.heap.size → ¬ AA g q → H[q]? = s.heap[q]?) ∧ t.status = .running ∧ Ended t below (.threw H.size) ∧ t.heap.size = H.size + 1 ∧ (∀ q : Nat, q < H.size → t.heap[q]? = H[q]?) ∧ t.heap[H.size]? = some ce ∧ ce.vm = .none ∧ s.vm.findClass NSE = some ce.cls ∧ s.WarmedH t.vm ∧ s.sameButNew ({ t with vm := s.vm } : State) L mc ms ∧ ∀ z ∈ L, AA g z.base
/-- a place where code throws the text of row k -/
def THW (cc : ByteArray) (pc k : Nat) : Prop := decode cc pc = .ok (.new 195, 3) ∧ decode cc (pc + 3) = .ok (.dup, 1) ∧ ((decode cc (pc + 4) = .ok (.ldc k, 2) ∧ decode cc (pc + 6) = .ok (.invokespecial 199, 3) ∧ decode cc (pc + 9) = .ok (.athrow, 1)) ∨ (decode cc (pc + 4) = .ok (.ldc_w k, 3) ∧ decode cc (pc + 7) = .ok (.invokespecial 199, 3) ∧ decode cc (pc + 10) = .ok (.athrow, 1)))
theorem RW.size_le {g : GG} {hs h : AH} {H : Heap} (w : RW g hs h H) : gb g ≤ H.size := by
  have := w.2.1
  omega
theorem TST.kept {A : Nat → Prop} {U : State} {H H1 : Heap} (h : TST A U H) (hq : ∀ a : Nat, a < H.size → ¬ A a → H1[a]? = H[a]?) : TST A U H1 := ⟨va_Zq.kept h.1 hq, va_Zq.kept h.2 hq⟩
section WT
variable {p : Program} {l : Launch} {e : Env} {R : Room} {s : State} {m : MethodId} {args : Array Value} {below : List Frame} {meth : Method} {c : Code} {cc : ByteArray} {nL : Nat} {g : GG} {hs h' : AH} {H : Heap} {locs : List Loc} {cells slots : Nat} {ls : Array Slot}
/-- the constructor's call and the throw -/
theorem w_ctor {pc sa : Nat} {cX : ClassId} {kX : Class} (C : CX p s m args c cc nL 10 g hs) (htr : l.stackTraces = false) (hw : ∀ w ∈ TWL, w.before args s = true) (hst : TST (AA g) s s.heap) (hfX : s.vm.findClass NSE = some cX) (hkX : s.vm.classes[cX]? = some kX) (hls : ls.size = nL) (hout : c.exceptionTable.toList = []) (hlocks : meth.locks = false)
    (d1 : decode cc pc = .ok (.invokespecial 199, 3)) (d2 : decode cc (pc + 3) = .ok (.athrow, 1)) (hRf : 6 ≤ R.frames) (hRl : 82 ≤ R.locals) (hW : RW g hs h' H) (hS : va_S (AA g) s.heap H locs) :
    W p l e R s m args below meth c (H.push (freshCell cX kX)) locs cells slots (TQ g hs h' below s cells slots) (F0 m pc ls [.ref sa, .ref H.size, .ref H.size]) := by
  intro T hT X
  obtain ⟨cx, cb, cl, co, -⟩ := C
  have hA : AA g H.size := hW.size_le
  have hlt : ∀ q : Nat, q < H.size → (H.push (freshCell cX kX))[q]? = H[q]? := fun q hq => by
    rw [Array.getElem?_push, if_neg (Nat.ne_of_lt hq)]
  have hst' : TST (AA g) s T.heap := hst.kept (fun a h1 h2 => by rw [hT, hlt a (Nat.lt_of_lt_of_le h1 hS.1)]; exact hS.2.1 a h1 h2)
  have hcell : T.heap[H.size]? = some (freshCell cX kX) := by rw [hT, Array.getElem?_push, if_pos rfl]
  obtain ⟨U, vm', ce, hU, c1, c2, k1, k2, k3, k4, L, k5, k6⟩ := nse_ctor X cx ((show e.platform.stackTraces = l.stackTraces by rw [X.admits.platform]).trans htr) co hw (A := AA g) (self := H.size) hst' hA hfX hkX hcell (msg := .ref sa) rfl (g := F0 m pc ls [.ref sa, .ref H.size, .ref H.size]) rfl (hls.trans cl.symm) rfl rfl rfl rfl (by rw [cb]; exact d1) (by rw [cb]; exact d2) hout hRf hRl hlocks
  have hh : U.heap = (H.push (freshCell cX kX)).setIfInBounds H.size ce := by rw [hU, ← hT]; rfl
  refine ⟨U, k1, H, ce, locs ++ L, hW, ⟨hS.1, hS.2.1⟩, k2, k3, ?_, ?_, ?_, c2, by rw [c1]; exact hfX, k4, k6, ?_⟩
  · rw [hh, Array.size_setIfInBounds, Array.size_push]
  · intro q hq
    rw [hh, Array.getElem?_setIfInBounds_ne (Nat.ne_of_gt hq)]
    exact hlt q hq
  · rw [hh, Array.getElem?_setIfInBounds_self_of_lt (by rw [Array.size_push]; exact Nat.lt_succ_self _)]
  · intro z hz
    rcases List.mem_append.mp hz with q | q
    · exact hS.2.2 z q
    · rw [k5 z q]; exact hA
/-- the text by a wide row -/
theorem w_ldcw {pc k sa : Nat} {tx : String} {rest : List Value} {Q : State → Prop} (hexec : p.tables.exec = Jvm.exec) (hb : c.code = cc) (hown : s.vm.findClass "PenThatJumps" = some m.cls) (hZ : vk_R "PenThatJumps" k tx sa s) (hdg : decode cc pc = .ok (.ldc_w k, 3))
    (K : W p l e R s m args below meth c H locs cells slots Q (F0 m (pc + 3) ls (.ref sa :: rest))) : W p l e R s m args below meth c H locs cells slots Q (F0 m pc ls rest) := by
  intro T hT X
  obtain ⟨t, a1, b1⟩ := K T hT X
  exact ⟨t, X.ldcStringW hexec hown (text := tx) (a := sa) hZ.1 hZ.2 (g := F0 m pc ls rest) rfl (by rw [hb]; exact hdg) t a1, b1⟩
theorem w_throw {pc k sa : Nat} {tx : String} (C : CX p s m args c cc nL 10 g hs) (htr : l.stackTraces = false) (hw : ∀ w ∈ TWL, w.before args s = true) (hst : TST (AA g) s s.heap) (hstr : vk_R "PenThatJumps" k tx sa s) (hls : ls.size = nL) (hout : c.exceptionTable.toList = []) (hlocks : meth.locks = false)
    (hth : THW cc pc k) (hRf : 6 ≤ R.frames) (hRl : 82 ≤ R.locals) (hroom : cells + 1 ≤ R.cells ∧ slots + 6 ≤ R.slots) (hW : RW g hs h' H) (hS : va_S (AA g) s.heap H locs) :
    W p l e R s m args below meth c H locs cells slots (TQ g hs h' below s (cells + 1) (slots + 6)) (F0 m pc ls []) := by
  intro T hT X
  obtain ⟨cx, cb, cl, co, -⟩ := id C
  obtain ⟨d0, d3, d4⟩ := hth
  obtain ⟨vm1, cX, kX, hfX, hkX, -, -, X1, st1⟩ := X.newCold cx (own := "PenThatJumps") (C := NSE) (index := 195) (n := 6) co (hw _ (tw_e 0 rfl)) (hw _ (tw_e 3 rfl)) (hw _ (tw_e 1 rfl)) (g := F0 m pc ls []) rfl (by rw [cb]; exact d0) hroom.1 hroom.2
  have hsz : T.heap.size = H.size := by rw [hT]
  have K : W p l e R s m args below meth c (H.push (freshCell cX kX)) locs (cells + 1) (slots + 6) (TQ g hs h' below s (cells + 1) (slots + 6)) (F0 m (pc + 3) ls [.ref H.size]) := by
    refine lv_dup cx cb d3 rfl ?_
    rcases d4 with ⟨q1, q2, q3⟩ | ⟨q1, q2, q3⟩
    · exact va_ldcS cx cb co hstr q1 (w_ctor C htr hw hst hfX hkX hls hout hlocks q2 q3 hRf hRl hW hS)
    · exact w_ldcw cx cb co hstr q1 (w_ctor C htr hw hst hfX hkX hls hout hlocks q2 q3 hRf hRl hW hS)
  obtain ⟨t, a1, b1⟩ := K _ (by show T.heap.push _ = _; rw [hT]) X1
  refine ⟨t, st1 t ?_, b1⟩
  rw [hsz]
  exact a1
end WT
