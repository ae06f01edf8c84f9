--deps: cs.thrown
/-! THE WRAPPERS' CONTRACTS WHERE THE METHOD THROWS -/
def PcX (g : GG) (hs : AH) (s0 : State) (a : List Value) (h : AH) : Array Value → State → Prop := fun v U => PcA g hs a h v U ∧ XP s0 U
theorem PcX.blind {g : GG} {hs : AH} {s0 : State} {a : List Value} {h : AH} : FrameBlind (PcX g hs s0 a h) := by
  intro v U f k q
  exact ⟨PcA.blind v U f k q.1, q.2⟩
theorem PcX.at {g : GG} {hs h : AH} {s0 : State} {a : List Value} (hgb : gb g = s0.heap.size) (E : EV g hs s0) {H : Heap} {locs : List Loc} (hW : RW g hs h H) (hS : va_S (AA g) s0.heap H locs) (U : State) (hU : U.heap = H) (hV : s0.WarmedH U.vm) : PcX g hs s0 a h (a.map (ph g)).toArray U := by
  obtain ⟨e1, e2, e3, e4⟩ := E
  refine ⟨⟨rfl, by rw [hU]; exact hW, fun w hw => AW_at hV hw (e1 w hw), va_K.moved hV.alike e2, e3.moved hV.alike (fun a h1 h2 => by rw [hU]; exact hS.2.1 a h1 h2), by rw [hU]; exact Nat.le_trans e4 hS.1⟩, hV, fun q hq => ?_⟩
  rw [hU]
  exact hS.2.1 q hq (by unfold AA; omega)
section TH
variable {l : Launch} {g : GG} {hs : AH} {s0 : State}
theorem thr_j (h0 : S0 g s0) (E : EV g hs s0) (htr : l.stackTraces = false) : THR1 l g hs s0 yLj method_3_code 6 [(0, 12, 15, 13)] P_xj 5 3 := by
  intro d n x o a h h' hrun hint hlen hkx hko hno
  obtain ⟨a, b, c, rfl⟩ : ∃ a1 a2 a3 : Int32, a = [.int a1, .int a2, .int a3] := by
    match a, hlen, hint with
    | [u, v, w], _, q =>
      obtain ⟨k1, rfl⟩ := q u (by simp)
      obtain ⟨k2, rfl⟩ := q v (by simp)
      obtain ⟨k3, rfl⟩ := q w (by simp)
      exact ⟨k1, k2, k3, rfl⟩
  have gr := run_grow (callD_grow (ML := ML) (pr := prm) prmg d n) n _ _ _ _ _ hrun
  have m1 : hz (mkC h' 12 0 6) - hz h = hz h' - hz h + 1 := by
    show hz h' + 1 - hz h = _
    have := gr.1
    dsimp only at this
    omega
  have m2 : hu (mkC h' 12 0 6) - hu h = hu h' - hu h + 6 := by
    show hu h' + 6 - hu h = _
    have := gr.2
    dsimp only at this
    omega
  refine ⟨PcX g hs s0 [.ref x, .int a, .int b, .int c, .ref o] h, PcX.blind, fun H locs hW hS U hU hV => PcX.at h0.1 E hW hS U hU hV, ?_⟩
  rw [m1, m2]
  refine met_tab (by decide) ?_
  intro p e s m args below meth cd s₁ B hml htab hv
  obtain ⟨⟨rfl, hW, hE1, hE2, hE3, hE4⟩, hX⟩ := hv
  have hown : s.vm.findClass "PenThatJumpsLaw" = some m.cls := findClass_of_methodNamed B.named
  have C : CX p s m ([.ref x, .int a, .int b, .int c, .ref o].map (ph g)).toArray cd method_3_code 6 13 g hs := ⟨B.exec, B.bytes, hml, hown, fun w hw => AW_at (State.WarmedH.refl s) hw (hE1 w hw), hE2, hE3, hE4⟩
  rw [lg_entry_eq]
  have hL := LR.entry g [.ref x, .int a, .int b, .int c, .ref o] (n := 6) (by show 5 ≤ 6; decide)
  generalize ((lg_sl (([.ref x, .int a, .int b, .int c, .ref o] : List Value).map (ph g)) ++ List.replicate (6 - (lg_sl (([.ref x, .int a, .int b, .int c, .ref o] : List Value).map (ph g))).length) Slot.unset).toArray) = ls at hL ⊢
  have hlocks := B.notSynchronized
  have hr := B.returns
  refine sim_plain (z0 := (0, [.ref x, .int a, .int b, .int c, .ref o, .null], [], h)) (z := (6, [.ref x, .int a, .int b, .int c, .ref o, .null], [.int c, .int b, .int a, .ref x, .int (Int32.ofInt 0), .ref o], h)) C pln_vj 6 s.heap ls [] 0 0 rfl hL hW va_S.rf (by show 0 + (hz h - hz h) ≤ hz h' - hz h + 1 ∧ 0 + (hu h - hu h) ≤ hu h' - hu h + 6; omega) ?_
  intro H1 ls1 locs1 hL1 hW1 hS1
  refine v_thr (d := d) (nn := n) (a' := [.int a, .int b, .int c]) (S := [.int (Int32.ofInt 0), .ref o]) (ex := [21, 22, 23, 24]) h0 hX htr C (pln_vj 6 _ rfl).1 xw_j (by decide) pok_xj rfl th_xj.1 th_xj.2 hrun (by show 4 ≤ 5; decide) ⟨Nat.le_refl _, Nat.le_refl _⟩ hL1.2.1 hW1 hS1 hkx rfl (by show 1 + (1 + 0) ≤ 8; decide) htab (show 0 ≤ 7 ∧ 7 < 12 by decide) (by show 0 + (hz h - hz h) + (hz h' - hz h + 1) ≤ hz h' - hz h + 1 ∧ 0 + (hu h - hu h) + (hu h' - hu h + 6) ≤ hu h' - hu h + 6; omega) ?_
  intro H2 locs2 hW2 hS2
  refine sim_plain (z0 := (10, [.ref x, .int a, .int b, .int c, .ref o, .null], [.ref (hz h')], mkC h' 12 0 6)) (z := (12, [.ref x, .int a, .int b, .int c, .ref o, .ref (hz h')], [.int (Int32.ofInt 1)], mkC h' 12 0 6)) C pln_vj 2 H2 ls1 locs2 _ _ rfl hL1 hW2 hS2 (by show 0 + (hz h - hz h) + (hz h' - hz h + 1) + (hz (mkC h' 12 0 6) - hz (mkC h' 12 0 6)) ≤ hz h' - hz h + 1 ∧ 0 + (hu h - hu h) + (hu h' - hu h + 6) + (hu (mkC h' 12 0 6) - hu (mkC h' 12 0 6)) ≤ hu h' - hu h + 6; omega) ?_
  intro H3 ls3 locs3 hL3 hW3 hS3
  have e1 : 0 + (hz h - hz h) + (hz h' - hz h + 1) + (hz (mkC h' 12 0 6) - hz (mkC h' 12 0 6)) = hz h' - hz h + 1 := by omega
  have e2 : 0 + (hu h - hu h) + (hu h' - hu h + 6) + (hu (mkC h' 12 0 6) - hu (mkC h' 12 0 6)) = hu h' - hu h + 6 := by omega
  rw [e1, e2]
  exact W.zret B.exec B.bytes hr rfl (fun t' q1 _ => ⟨rfl, by rw [q1]; exact hW3, hS3.F q1⟩) hS3.2.2 (pln_vj 12 _ rfl).1
theorem thr_w (h0 : S0 g s0) (E : EV g hs s0) (htr : l.stackTraces = false) : THR1 l g hs s0 yLw method_4_code 5 [(0, 9, 12, 13)] P_xw 11 2 := by
  intro d n x o a h h' hrun hint hlen hkx hko hno
  obtain ⟨a, b, rfl⟩ : ∃ a1 a2 : Int32, a = [.int a1, .int a2] := by
    match a, hlen, hint with
    | [u, v], _, q =>
      obtain ⟨k1, rfl⟩ := q u (by simp)
      obtain ⟨k2, rfl⟩ := q v (by simp)
      exact ⟨k1, k2, rfl⟩
  have gr := run_grow (callD_grow (ML := ML) (pr := prm) prmg d n) n _ _ _ _ _ hrun
  have m1 : hz (mkC h' 12 0 6) - hz h = hz h' - hz h + 1 := by
    show hz h' + 1 - hz h = _
    have := gr.1
    dsimp only at this
    omega
  have m2 : hu (mkC h' 12 0 6) - hu h = hu h' - hu h + 6 := by
    show hu h' + 6 - hu h = _
    have := gr.2
    dsimp only at this
    omega
  refine ⟨PcX g hs s0 [.ref x, .int a, .int b, .ref o] h, PcX.blind, fun H locs hW hS U hU hV => PcX.at h0.1 E hW hS U hU hV, ?_⟩
  rw [m1, m2]
  refine met_tab (by decide) ?_
  intro p e s m args below meth cd s₁ B hml htab hv
  obtain ⟨⟨rfl, hW, hE1, hE2, hE3, hE4⟩, hX⟩ := hv
  have hown : s.vm.findClass "PenThatJumpsLaw" = some m.cls := findClass_of_methodNamed B.named
  have C : CX p s m ([.ref x, .int a, .int b, .ref o].map (ph g)).toArray cd method_4_code 5 13 g hs := ⟨B.exec, B.bytes, hml, hown, fun w hw => AW_at (State.WarmedH.refl s) hw (hE1 w hw), hE2, hE3, hE4⟩
  rw [lg_entry_eq]
  have hL := LR.entry g [.ref x, .int a, .int b, .ref o] (n := 5) (by show 4 ≤ 5; decide)
  generalize ((lg_sl (([.ref x, .int a, .int b, .ref o] : List Value).map (ph g)) ++ List.replicate (5 - (lg_sl (([.ref x, .int a, .int b, .ref o] : List Value).map (ph g))).length) Slot.unset).toArray) = ls at hL ⊢
  have hlocks := B.notSynchronized
  have hr := B.returns
  refine sim_plain (z0 := (0, [.ref x, .int a, .int b, .ref o, .null], [], h)) (z := (5, [.ref x, .int a, .int b, .ref o, .null], [.int b, .int a, .ref x, .int (Int32.ofInt 0), .ref o], h)) C pln_vw 5 s.heap ls [] 0 0 rfl hL hW va_S.rf (by show 0 + (hz h - hz h) ≤ hz h' - hz h + 1 ∧ 0 + (hu h - hu h) ≤ hu h' - hu h + 6; omega) ?_
  intro H1 ls1 locs1 hL1 hW1 hS1
  refine v_thr (d := d) (nn := n) (a' := [.int a, .int b]) (S := [.int (Int32.ofInt 0), .ref o]) (ex := [11, 12, 13, 14, 60, 61, 62, 63]) h0 hX htr C (pln_vw 5 _ rfl).1 xw_w (by decide) pok_xw rfl th_xw.1 th_xw.2 hrun (by show 3 ≤ 11; decide) ⟨Nat.le_refl _, Nat.le_refl _⟩ hL1.2.1 hW1 hS1 hkx rfl (by show 1 + (1 + 0) ≤ 8; decide) htab (show 0 ≤ 5 ∧ 5 < 9 by decide) (by show 0 + (hz h - hz h) + (hz h' - hz h + 1) ≤ hz h' - hz h + 1 ∧ 0 + (hu h - hu h) + (hu h' - hu h + 6) ≤ hu h' - hu h + 6; omega) ?_
  intro H2 locs2 hW2 hS2
  refine sim_plain (z0 := (8, [.ref x, .int a, .int b, .ref o, .null], [.ref (hz h')], mkC h' 12 0 6)) (z := (10, [.ref x, .int a, .int b, .ref o, .ref (hz h')], [.int (Int32.ofInt 1)], mkC h' 12 0 6)) C pln_vw 2 H2 ls1 locs2 _ _ rfl hL1 hW2 hS2 (by show 0 + (hz h - hz h) + (hz h' - hz h + 1) + (hz (mkC h' 12 0 6) - hz (mkC h' 12 0 6)) ≤ hz h' - hz h + 1 ∧ 0 + (hu h - hu h) + (hu h' - hu h + 6) + (hu (mkC h' 12 0 6) - hu (mkC h' 12 0 6)) ≤ hu h' - hu h + 6; omega) ?_
  intro H3 ls3 locs3 hL3 hW3 hS3
  have e1 : 0 + (hz h - hz h) + (hz h' - hz h + 1) + (hz (mkC h' 12 0 6) - hz (mkC h' 12 0 6)) = hz h' - hz h + 1 := by omega
  have e2 : 0 + (hu h - hu h) + (hu h' - hu h + 6) + (hu (mkC h' 12 0 6) - hu (mkC h' 12 0 6)) = hu h' - hu h + 6 := by omega
  rw [e1, e2]
  exact W.zret B.exec B.bytes hr rfl (fun t' q1 _ => ⟨rfl, by rw [q1]; exact hW3, hS3.F q1⟩) hS3.2.2 (pln_vw 10 _ rfl).1
theorem thr_l (h0 : S0 g s0) (E : EV g hs s0) (htr : l.stackTraces = false) : THR1 l g hs s0 yLl method_5_code 4 [(0, 8, 11, 13)] P_xl 8 1 := by
  intro d n x o a h h' hrun hint hlen hkx hko hno
  obtain ⟨a, rfl⟩ : ∃ a1 : Int32, a = [.int a1] := by
    match a, hlen, hint with
    | [u], _, q =>
      obtain ⟨k1, rfl⟩ := q u (by simp)
      exact ⟨k1, rfl⟩
  have gr := run_grow (callD_grow (ML := ML) (pr := prm) prmg d n) n _ _ _ _ _ hrun
  have m1 : hz (mkC h' 12 0 6) - hz h = hz h' - hz h + 1 := by
    show hz h' + 1 - hz h = _
    have := gr.1
    dsimp only at this
    omega
  have m2 : hu (mkC h' 12 0 6) - hu h = hu h' - hu h + 6 := by
    show hu h' + 6 - hu h = _
    have := gr.2
    dsimp only at this
    omega
  refine ⟨PcX g hs s0 [.ref x, .int a, .ref o] h, PcX.blind, fun H locs hW hS U hU hV => PcX.at h0.1 E hW hS U hU hV, ?_⟩
  rw [m1, m2]
  refine met_tab (by decide) ?_
  intro p e s m args below meth cd s₁ B hml htab hv
  obtain ⟨⟨rfl, hW, hE1, hE2, hE3, hE4⟩, hX⟩ := hv
  have hown : s.vm.findClass "PenThatJumpsLaw" = some m.cls := findClass_of_methodNamed B.named
  have C : CX p s m ([.ref x, .int a, .ref o].map (ph g)).toArray cd method_5_code 4 13 g hs := ⟨B.exec, B.bytes, hml, hown, fun w hw => AW_at (State.WarmedH.refl s) hw (hE1 w hw), hE2, hE3, hE4⟩
  rw [lg_entry_eq]
  have hL := LR.entry g [.ref x, .int a, .ref o] (n := 4) (by show 3 ≤ 4; decide)
  generalize ((lg_sl (([.ref x, .int a, .ref o] : List Value).map (ph g)) ++ List.replicate (4 - (lg_sl (([.ref x, .int a, .ref o] : List Value).map (ph g))).length) Slot.unset).toArray) = ls at hL ⊢
  have hlocks := B.notSynchronized
  have hr := B.returns
  refine sim_plain (z0 := (0, [.ref x, .int a, .ref o, .null], [], h)) (z := (4, [.ref x, .int a, .ref o, .null], [.int a, .ref x, .int (Int32.ofInt 0), .ref o], h)) C pln_vl 4 s.heap ls [] 0 0 rfl hL hW va_S.rf (by show 0 + (hz h - hz h) ≤ hz h' - hz h + 1 ∧ 0 + (hu h - hu h) ≤ hu h' - hu h + 6; omega) ?_
  intro H1 ls1 locs1 hL1 hW1 hS1
  refine v_thr (d := d) (nn := n) (a' := [.int a]) (S := [.int (Int32.ofInt 0), .ref o]) (ex := [24, 25, 26, 27]) h0 hX htr C (pln_vl 4 _ rfl).1 xw_l (by decide) pok_xl rfl th_xl.1 th_xl.2 hrun (by show 2 ≤ 8; decide) ⟨Nat.le_refl _, Nat.le_refl _⟩ hL1.2.1 hW1 hS1 hkx rfl (by show 1 + (1 + 0) ≤ 8; decide) htab (show 0 ≤ 4 ∧ 4 < 8 by decide) (by show 0 + (hz h - hz h) + (hz h' - hz h + 1) ≤ hz h' - hz h + 1 ∧ 0 + (hu h - hu h) + (hu h' - hu h + 6) ≤ hu h' - hu h + 6; omega) ?_
  intro H2 locs2 hW2 hS2
  refine sim_plain (z0 := (7, [.ref x, .int a, .ref o, .null], [.ref (hz h')], mkC h' 12 0 6)) (z := (9, [.ref x, .int a, .ref o, .ref (hz h')], [.int (Int32.ofInt 1)], mkC h' 12 0 6)) C pln_vl 2 H2 ls1 locs2 _ _ rfl hL1 hW2 hS2 (by show 0 + (hz h - hz h) + (hz h' - hz h + 1) + (hz (mkC h' 12 0 6) - hz (mkC h' 12 0 6)) ≤ hz h' - hz h + 1 ∧ 0 + (hu h - hu h) + (hu h' - hu h + 6) + (hu (mkC h' 12 0 6) - hu (mkC h' 12 0 6)) ≤ hu h' - hu h + 6; omega) ?_
  intro H3 ls3 locs3 hL3 hW3 hS3
  have e1 : 0 + (hz h - hz h) + (hz h' - hz h + 1) + (hz (mkC h' 12 0 6) - hz (mkC h' 12 0 6)) = hz h' - hz h + 1 := by omega
  have e2 : 0 + (hu h - hu h) + (hu h' - hu h + 6) + (hu (mkC h' 12 0 6) - hu (mkC h' 12 0 6)) = hu h' - hu h + 6 := by omega
  rw [e1, e2]
  exact W.zret B.exec B.bytes hr rfl (fun t' q1 _ => ⟨rfl, by rw [q1]; exact hW3, hS3.F q1⟩) hS3.2.2 (pln_vl 9 _ rfl).1
theorem thr_all (h0 : S0 g s0) (E : EV g hs s0) (htr : l.stackTraces = false) : THR l g hs s0 := ⟨thr_j h0 E htr, thr_w h0 E htr, thr_l h0 E htr⟩
end TH
