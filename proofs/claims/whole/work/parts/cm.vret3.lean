--deps: cl.vret2
/-! THE OTHER TWO WRAPPERS, WHERE THE METHOD RETURNS -/
section V3
variable {l : Launch} {g : GG} {hs h h' : AH} {d n x o : Nat} {a b : Int32}
theorem v_ret_w {v : Int64} (hrun : run (callD ML prm d n) P_xw n 0 (lcs 11 [.ref x, .int a, .int b]) [] h = some (some (.long v), h')) (hkx : hK h x = 10) (hko : hK h o = 23) (hno : hN h o = 1) :
    Met l yLw [.codeWith yLw method_4_code 5 (some .int) [(0, 9, 12, 13)]] (rmD (d + 2) (hz h' - hz h) (hu h' - hu h)) (PcA g hs [.ref x, .int a, .int b, .ref o] h) (QcA g hs (some (.int 0), sJ h' o 0 v)) (hz h' - hz h) (hu h' - hu h) (AA g) := by
  refine met_tab (by decide) ?_
  intro p e s m args below meth cd s₁ B hml htab hv
  obtain ⟨rfl, hW, hE1, hE2, hE3, hE4⟩ := hv
  have hown : s.vm.findClass "PenThatJumpsLaw" = some m.cls := findClass_of_methodNamed B.named
  have C : CX p s m ([.ref x, .int a, .int b, .ref o].map (ph g)).toArray cd method_4_code 5 13 g hs := ⟨B.exec, B.bytes, hml, hown, fun w hw => AW_at (State.WarmedH.refl s) hw (hE1 w hw), hE2, hE3, hE4⟩
  rw [lg_entry_eq]
  have hL := LR.entry g [.ref x, .int a, .int b, .ref o] (n := 5) (by show 4 ≤ 5; decide)
  generalize ((lg_sl (([.ref x, .int a, .int b, .ref o] : List Value).map (ph g)) ++ List.replicate (5 - (lg_sl (([.ref x, .int a, .int b, .ref o] : List Value).map (ph g))).length) Slot.unset).toArray) = ls at hL ⊢
  have hlocks := B.notSynchronized
  have hr := B.returns
  have gr := run_grow (callD_grow (ML := ML) (pr := prm) prmg d n) n _ _ _ _ _ hrun
  have kn := run_knk (callD_grow (ML := ML) (pr := prm) prmg d n) (callD_knk d n) n _ _ _ _ _ hrun
  have ho : o < hz h := (hW.own (a := o) (by omega)).2
  have hk' : hK h' o = 23 := (kn o ho).1.trans hko
  have hn' : hN h' o = 1 := (kn o ho).2.trans hno
  refine sim_plain (z0 := (0, [.ref x, .int a, .int b, .ref o, .null], [], h)) (z := (5, [.ref x, .int a, .int b, .ref o, .null], [.int b, .int a, .ref x, .int (Int32.ofInt 0), .ref o], h)) C pln_vw 5 s.heap ls [] 0 0 rfl hL hW va_S.rf (by show 0 + (hz h - hz h) ≤ hz h' - hz h ∧ 0 + (hu h - hu h) ≤ hu h' - hu h; omega) ?_
  intro H1 ls1 locs1 hL1 hW1 hS1
  refine v_call (d := d) (z := (some (.long v), h')) (a' := [.int a, .int b]) (S := [.int (Int32.ofInt 0), .ref o]) C (pln_vw 5 _ rfl).1 xw_w ⟨Nat.le_refl _, Nat.le_refl _⟩ hL1.2.1 hW1 hS1 hkx rfl (by show 1 + (1 + 0) ≤ 8; decide) (x_ret (by decide) rfl pok_xw rfl (by show 3 ≤ 11; decide) hrun (Or.inr ⟨rfl, v, rfl⟩)) (by show 0 + (hz h - hz h) + (hz h' - hz h) ≤ hz h' - hz h ∧ 0 + (hu h - hu h) + (hu h' - hu h) ≤ hu h' - hu h; omega) ?_
  intro H2 locs2 hW2 hS2
  refine sim_plain (z0 := (6, [.ref x, .int a, .int b, .ref o, .null], [.long v, .int (Int32.ofInt 0), .ref o], h')) (z := (12, [.ref x, .int a, .int b, .ref o, .null], [.int (Int32.ofInt 0)], sJ h' o 0 v)) C pln_vw 3 H2 ls1 locs2 _ _ ?_ hL1 hW2 hS2 (by show 0 + (hz h - hz h) + (hz h' - hz h) + (hz h' - hz h') ≤ hz h' - hz h ∧ 0 + (hu h - hu h) + (hu h' - hu h) + (hu h' - hu h') ≤ hu h' - hu h; omega) ?_
  · show (stp .lastore [] 6 [.ref x, .int a, .int b, .ref o, .null] (.long v :: .int (Int32.ofInt 0) :: .ref o :: []) h').bind (prun P_vw 2) = _
    rw [las _ _ _ _ hk' hn']
    rfl
  · intro H3 ls3 locs3 hL3 hW3 hS3
    have e1 : 0 + (hz h - hz h) + (hz h' - hz h) + (hz (sJ h' o 0 v) - hz h') = hz h' - hz h := by show 0 + (hz h - hz h) + (hz h' - hz h) + (hz h' - hz h') = _; omega
    have e2 : 0 + (hu h - hu h) + (hu h' - hu h) + (hu (sJ h' o 0 v) - hu h') = hu h' - hu h := by show 0 + (hu h - hu h) + (hu h' - hu h) + (hu h' - hu h') = _; omega
    rw [e1, e2]
    exact W.zret B.exec B.bytes hr rfl (fun t' q1 _ => ⟨rfl, by rw [q1]; exact hW3, hS3.F q1⟩) hS3.2.2 (pln_vw 12 _ rfl).1
theorem v_ret_l {v : Int64} (hrun : run (callD ML prm d n) P_xl n 0 (lcs 8 [.ref x, .int a]) [] h = some (some (.long v), h')) (hkx : hK h x = 10) (hko : hK h o = 23) (hno : hN h o = 1) :
    Met l yLl [.codeWith yLl method_5_code 4 (some .int) [(0, 8, 11, 13)]] (rmD (d + 2) (hz h' - hz h) (hu h' - hu h)) (PcA g hs [.ref x, .int a, .ref o] h) (QcA g hs (some (.int 0), sJ h' o 0 v)) (hz h' - hz h) (hu h' - hu h) (AA g) := by
  refine met_tab (by decide) ?_
  intro p e s m args below meth cd s₁ B hml htab hv
  obtain ⟨rfl, hW, hE1, hE2, hE3, hE4⟩ := hv
  have hown : s.vm.findClass "PenThatJumpsLaw" = some m.cls := findClass_of_methodNamed B.named
  have C : CX p s m ([.ref x, .int a, .ref o].map (ph g)).toArray cd method_5_code 4 13 g hs := ⟨B.exec, B.bytes, hml, hown, fun w hw => AW_at (State.WarmedH.refl s) hw (hE1 w hw), hE2, hE3, hE4⟩
  rw [lg_entry_eq]
  have hL := LR.entry g [.ref x, .int a, .ref o] (n := 4) (by show 3 ≤ 4; decide)
  generalize ((lg_sl (([.ref x, .int a, .ref o] : List Value).map (ph g)) ++ List.replicate (4 - (lg_sl (([.ref x, .int a, .ref o] : List Value).map (ph g))).length) Slot.unset).toArray) = ls at hL ⊢
  have hlocks := B.notSynchronized
  have hr := B.returns
  have gr := run_grow (callD_grow (ML := ML) (pr := prm) prmg d n) n _ _ _ _ _ hrun
  have kn := run_knk (callD_grow (ML := ML) (pr := prm) prmg d n) (callD_knk d n) n _ _ _ _ _ hrun
  have ho : o < hz h := (hW.own (a := o) (by omega)).2
  have hk' : hK h' o = 23 := (kn o ho).1.trans hko
  have hn' : hN h' o = 1 := (kn o ho).2.trans hno
  refine sim_plain (z0 := (0, [.ref x, .int a, .ref o, .null], [], h)) (z := (4, [.ref x, .int a, .ref o, .null], [.int a, .ref x, .int (Int32.ofInt 0), .ref o], h)) C pln_vl 4 s.heap ls [] 0 0 rfl hL hW va_S.rf (by show 0 + (hz h - hz h) ≤ hz h' - hz h ∧ 0 + (hu h - hu h) ≤ hu h' - hu h; omega) ?_
  intro H1 ls1 locs1 hL1 hW1 hS1
  refine v_call (d := d) (z := (some (.long v), h')) (a' := [.int a]) (S := [.int (Int32.ofInt 0), .ref o]) C (pln_vl 4 _ rfl).1 xw_l ⟨Nat.le_refl _, Nat.le_refl _⟩ hL1.2.1 hW1 hS1 hkx rfl (by show 1 + (1 + 0) ≤ 8; decide) (x_ret (by decide) rfl pok_xl rfl (by show 2 ≤ 8; decide) hrun (Or.inr ⟨rfl, v, rfl⟩)) (by show 0 + (hz h - hz h) + (hz h' - hz h) ≤ hz h' - hz h ∧ 0 + (hu h - hu h) + (hu h' - hu h) ≤ hu h' - hu h; omega) ?_
  intro H2 locs2 hW2 hS2
  refine sim_plain (z0 := (5, [.ref x, .int a, .ref o, .null], [.long v, .int (Int32.ofInt 0), .ref o], h')) (z := (11, [.ref x, .int a, .ref o, .null], [.int (Int32.ofInt 0)], sJ h' o 0 v)) C pln_vl 3 H2 ls1 locs2 _ _ ?_ hL1 hW2 hS2 (by show 0 + (hz h - hz h) + (hz h' - hz h) + (hz h' - hz h') ≤ hz h' - hz h ∧ 0 + (hu h - hu h) + (hu h' - hu h) + (hu h' - hu h') ≤ hu h' - hu h; omega) ?_
  · show (stp .lastore [] 5 [.ref x, .int a, .ref o, .null] (.long v :: .int (Int32.ofInt 0) :: .ref o :: []) h').bind (prun P_vl 2) = _
    rw [las _ _ _ _ hk' hn']
    rfl
  · intro H3 ls3 locs3 hL3 hW3 hS3
    have e1 : 0 + (hz h - hz h) + (hz h' - hz h) + (hz (sJ h' o 0 v) - hz h') = hz h' - hz h := by show 0 + (hz h - hz h) + (hz h' - hz h) + (hz h' - hz h') = _; omega
    have e2 : 0 + (hu h - hu h) + (hu h' - hu h) + (hu (sJ h' o 0 v) - hu h') = hu h' - hu h := by show 0 + (hu h - hu h) + (hu h' - hu h) + (hu h' - hu h') = _; omega
    rw [e1, e2]
    exact W.zret B.exec B.bytes hr rfl (fun t' q1 _ => ⟨rfl, by rw [q1]; exact hW3, hS3.F q1⟩) hS3.2.2 (pln_vl 11 _ rfl).1
end V3
