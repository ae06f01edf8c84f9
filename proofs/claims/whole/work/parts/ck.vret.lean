--deps: cj.plain
/-! THE WRAPPERS, WHERE THE METHOD RETURNS -/
/-- what is known of one of the three methods by its words -/
def XW (f : Nat) (y : MethodName) (cy : ByteArray) (maxL : Nat) (ret : Option FieldType) (n : Nat) : Prop :=
  Cond.methodLink (cnm 13) f y ∈ AW ∧ Cond.instanceMethod y ∈ AW ∧ Cond.selects y.cls y y ∈ AW ∧ Cond.code y cy maxL ret ∈ AW ∧ Cond.initialized y.cls ∈ AW ∧ y.cls = (clk 10).1 ∧ (y.cls ≠ "java/lang/invoke/MethodHandle" ∧ y.cls ≠ "java/lang/invoke/VarHandle") ∧ (parseMethodDescriptor y.desc).map (fun d => d.parameters.length) = some n ∧ maxL ≤ 45
abbrev yXj : MethodName := ⟨"PenThatJumps", "jump", "(III)I"⟩
abbrev yXw : MethodName := ⟨"PenThatJumps", "worth", "(II)J"⟩
abbrev yXl : MethodName := ⟨"PenThatJumps", "lean", "(I)J"⟩
set_option maxRecDepth 100000 in
theorem xw_j : XW 7 yXj prog_1_method_10_code 5 (some .int) 3 := by
  unfold XW; decide +kernel
set_option maxRecDepth 100000 in
theorem xw_w : XW 15 yXw prog_1_method_23_code 11 (some .long) 2 := by
  unfold XW; decide +kernel
set_option maxRecDepth 100000 in
theorem xw_l : XW 19 yXl prog_1_method_25_code 8 (some .long) 1 := by
  unfold XW; decide +kernel
section VR
variable {p : Program} {l : Launch} {e : Env} {R : Room} {s : State} {m : MethodId} {args : Array Value} {below : List Frame} {meth : Method} {c : Code} {Q : State → Prop} {cc : ByteArray} {nL : Nat} {g : GG} {hs h : AH}
theorem v_call {f n d r pc maxL : Nat} {y : MethodName} {cy : ByteArray} {ret : Option FieldType} {a' S : List Value} {z : Option Value × AH} {H : Heap} {ls : Array Slot} {locs : List Loc} {cells slots : Nat} (C : CX p s m args c cc nL 13 g hs) (hd : decode cc pc = .ok (.invokevirtual f, 3)) (xw : XW f y cy maxL ret n) (hR : d + 2 ≤ R.frames ∧ 64 * (d + 2) ≤ R.locals) (hls : ls.size = nL) (hW : RW g hs h H) (hS : va_S (AA g) s.heap H locs) (hkr : hK h r = 10) (hal : a'.length = n) (hcat : (S.map fun v => v.category).sum ≤ 8)
    (hM : Met l y [.code y cy maxL ret] (rmD (d + 1) (hz z.2 - hz h) (hu z.2 - hu h)) (PcA g hs (.ref r :: a') h) (QcA g hs z) (hz z.2 - hz h) (hu z.2 - hu h) (AA g)) (hrm : cells + (hz z.2 - hz h) ≤ R.cells ∧ slots + (hu z.2 - hu h) ≤ R.slots)
    (kk : ∀ (H1 : Heap) (locs1 : List Loc), RW g hs z.2 H1 → va_S (AA g) s.heap H1 locs1 → W p l e R s m args below meth c H1 locs1 (cells + (hz z.2 - hz h)) (slots + (hu z.2 - hu h)) Q (F0 m (pc + 3) ls ((z.1.toList ++ S).map (ph g)))) :
    W p l e R s m args below meth c H locs cells slots Q (F0 m pc ls ((a'.reverse ++ .ref r :: S).map (ph g))) := by
  obtain ⟨x1, x2, x3, x4, x5, x6, x7, x8, x9⟩ := xw
  have hfix : CallFix p m c cc nL s args AW (cnm 13) := ⟨C.1, C.2.1, C.2.2.1, C.2.2.2.1, C.2.2.2.2.1⟩
  have hts := C.2.2.2.2.1
  have hi3 : (10 < 13 ∧ (clk 10).1 = y.cls) ∨ (10 = 42 ∧ y.cls = "java/lang/String") := Or.inl ⟨by decide, x6.symm⟩
  obtain ⟨b, hb⟩ := ph_recv hW C hkr hi3
  have hst : (a'.reverse ++ .ref r :: S).map (ph g) = (a'.map (ph g)).reverse ++ .ref b :: S.map (ph g) := by
    rw [List.map_append, List.map_cons, hb, List.map_reverse]
  have hB : CallB R s args (cnm 13) f y cy maxL ret [.code y cy maxL ret] (rmD (d + 1) (hz z.2 - hz h) (hu z.2 - hu h)) (hz z.2 - hz h) (hu z.2 - hu h) n := by
    refine ⟨rfl, rfl, ?_, ?_, fun w hw a9 U hU => ?_, List.mem_singleton.mpr rfl, hts _ x4, hts _ x5, x7, fun sig hsg => ?_, hts _ x1⟩
    · show d + 1 + 1 ≤ R.frames
      omega
    · show 8 + (maxL + 11) + 64 * (d + 1) ≤ R.locals
      omega
    · rw [List.mem_singleton.mp hw]
      exact AW_at hU x4 (hts _ x4)
    · rw [hsg] at x8
      exact (Option.some.inj x8).symm
  refine after_call (va_runV (C := y.cls) hfix hM ⟨hB, hts _ x2, hts _ x3⟩ (pre_V C hW hS hb hkr hi3) rfl (by rw [List.length_map]; exact hal) hls hst (lv_room (by rw [cat_map]; exact hcat)) hd hrm) hS ?_
  intro H1 l1 h1 h2
  have := kk H1 l1 h1 h2
  rw [List.map_append] at this
  have e1 : z.1.toList.map (ph g) = (z.1.map (ph g)).toList := by cases z.1 <;> rfl
  rw [e1] at this
  exact this
end VR
