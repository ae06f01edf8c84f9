--deps: cm.vret3
/-! THE LAW CALLS A WRAPPER -/
def LW (own f : Nat) (y : MethodName) (cy : ByteArray) (maxL : Nat) (tb : List (Nat × Nat × Nat × Nat)) (n : Nat) : Prop :=
  Cond.methodLink (cnm own) f y ∈ AW ∧ Cond.static y ∈ AW ∧ Cond.codeWith y cy maxL (some .int) tb ∈ AW ∧ Cond.initialized y.cls ∈ AW ∧ (y.cls ≠ "java/lang/invoke/MethodHandle" ∧ y.cls ≠ "java/lang/invoke/VarHandle") ∧ (parseMethodDescriptor y.desc).map (fun d => d.parameters.length) = some n ∧ maxL ≤ 45
section SC
variable {p : Program} {l : Launch} {e : Env} {R : Room} {s : State} {m : MethodId} {args : Array Value} {below : List Frame} {meth : Method} {c : Code} {Q : State → Prop} {cc : ByteArray} {nL : Nat} {g : GG} {hs h : AH}
theorem s_call {own f n d pc maxL : Nat} {y : MethodName} {cy : ByteArray} {tb : List (Nat × Nat × Nat × Nat)} {a S : List Value} {z : Option Value × AH} {H : Heap} {ls : Array Slot} {locs : List Loc} {cells slots : Nat} {Pc : Array Value → State → Prop} (C : CX p s m args c cc nL own g hs) (hd : decode cc pc = .ok (.invokestatic f, 3)) (lw : LW own f y cy maxL tb n) (hR : d + 3 ≤ R.frames ∧ 64 * (d + 3) ≤ R.locals) (hls : ls.size = nL) (hS : va_S (AA g) s.heap H locs) (hal : a.length = n) (hcat : (S.map fun v => v.category).sum ≤ 8) (hbl : FrameBlind Pc) (hpc : ∀ U : State, U.heap = H → s.WarmedH U.vm → Pc (a.map (ph g)).toArray U)
    (hM : Met l y [.codeWith y cy maxL (some .int) tb] (rmD (d + 2) (hz z.2 - hz h) (hu z.2 - hu h)) Pc (QcA g hs z) (hz z.2 - hz h) (hu z.2 - hu h) (AA g)) (hrm : cells + (hz z.2 - hz h) ≤ R.cells ∧ slots + (hu z.2 - hu h) ≤ R.slots)
    (kk : ∀ (H1 : Heap) (locs1 : List Loc), RW g hs z.2 H1 → va_S (AA g) s.heap H1 locs1 → W p l e R s m args below meth c H1 locs1 (cells + (hz z.2 - hz h)) (slots + (hu z.2 - hu h)) Q (F0 m (pc + 3) ls ((z.1.toList ++ S).map (ph g)))) :
    W p l e R s m args below meth c H locs cells slots Q (F0 m pc ls ((a.reverse ++ S).map (ph g))) := by
  obtain ⟨x1, x2, x3, x4, x5, x6, x7⟩ := lw
  obtain ⟨cx, cb, cl, co, hts, -, -, -⟩ := C
  have keep : ∀ w ∈ AW, ∀ (a9 : Array Value) (U : State), s.WarmedH U.vm → w.before a9 U = true := fun w hw a9 U hU => AW_at hU hw (hts w hw)
  have back : Back l R p e below s args y 3 8 (PreOf R (hz z.2 - hz h) (hu z.2 - hu h) Pc) (PostOf (QcA g hs z) (hz z.2 - hz h) (hu z.2 - hu h) (AA g)) := by
    refine va_backW (hh := tb) (bytes := cy) (maxL := maxL) (ret := some .int) hM hbl rfl rfl ?_ ?_ (fun w hw => ?_) (List.mem_singleton.mpr rfl) (keep _ x4)
    · show d + 2 + 1 ≤ R.frames
      omega
    · show 8 + (maxL + 11) + 64 * (d + 2) ≤ R.locals
      omega
    · rw [List.mem_singleton.mp hw]; exact keep _ x3
  refine after_call (hs := hs) (mc := hz z.2 - hz h) (ms := hu z.2 - hu h) (z := z) (a := (a.map (ph g)).toArray) (rest := S.map (ph g)) ?_ hS (fun H1 l1 h1 h2 => ?_)
  · intro T hT X
    obtain ⟨mk, mt, ct, n1, n2, -, -, -, -, -, -, n3⟩ := Cond.codeWith_spec (hts _ x3)
    obtain ⟨kc, k1, -⟩ := className_of_methodNamed n1
    have hlen : (a.map (ph g)).length = mt.sig.parameters.length := by
      rw [n3] at x6
      rw [List.length_map, hal]
      exact (Option.some.inj x6).symm
    obtain ⟨v1, X1, go1⟩ := X.invokestatic cx co (hts _ x1) n1 n2 (Cond.static_spec n1 n2 (hts _ x2)) k1 (Cond.initialized_spec (findClass_of_methodNamed n1) k1 (hts _ x4)) x5 (g := F0 m pc ls ((a.reverse ++ S).map (ph g))) rfl (argsL := a.map (ph g)) (rest := S.map (ph g)) hlen (by show (a.reverse ++ S).map (ph g) = _; rw [List.map_append, List.map_reverse]) (by rw [cb]; exact hd)
    obtain ⟨r, ⟨U', l', c', s'⟩, X2, ⟨g9, m9, t9, L9, p1, p2, p3, p4, p5, p6, p7⟩, go2⟩ := back m meth c ⟨T.setVm v1, locs, cells, slots⟩ (F0 m pc ls (S.map (ph g))) (.invokestatic f) mk (a.map (ph g)).toArray X1 rfl (hls.trans cl.symm) (by rw [cb]; exact hd) (lv_room (by rw [cat_map]; exact hcat)) (X1.named n1) ⟨hrm.1, hrm.2, hpc _ hT X1.warmed⟩
    dsimp only at X2 p1 p2 p4 p6 p7 go2
    subst p4 p6 p7
    refine ⟨r, (T.setVm v1).calling g9 m9 (a.map (ph g)).toArray, t9, U', L9, hT, X2, p5, p1, p2, p3, fun target hg => ?_⟩
    exact go1 target (fun acts => by rw [doInvoke_state]; exact go2.trans hg)
  · have := kk H1 l1 h1 h2
    rw [List.map_append] at this
    have e1 : z.1.toList.map (ph g) = (z.1.map (ph g)).toList := by cases z.1 <;> rfl
    rw [e1] at this
    exact this
end SC
