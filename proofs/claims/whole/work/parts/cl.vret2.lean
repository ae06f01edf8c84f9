--deps: ck.vret
/-! NO RUN CHANGES WHAT A CELL IS -/
def KNK (h h' : AH) : Prop := ∀ a, a < hz h → hK h' a = hK h a ∧ hN h' a = hN h a
theorem KNK.rf {h : AH} : KNK h h := fun _ _ => ⟨rfl, rfl⟩
theorem KNK.tr {h h1 h2 : AH} (z : hz h ≤ hz h1) (a : KNK h h1) (b : KNK h1 h2) : KNK h h2 := fun x hx => by
  obtain ⟨a1, a2⟩ := a x hx
  obtain ⟨b1, b2⟩ := b x (Nat.lt_of_lt_of_le hx z)
  exact ⟨b1.trans a1, b2.trans a2⟩
theorem KNK.mk {h : AH} {k n u : Nat} : KNK h (mkC h k n u) := fun x hx => by
  have e : ¬ x = hz h := by omega
  refine ⟨?_, ?_⟩
  · show (if x = hz h then k else hK h x) = _
    rw [if_neg e]
  · show (if x = hz h then n else hN h x) = _
    rw [if_neg e]
theorem stp_knk {x : Instr} {o : List Nat} {i : Nat} {L S : List Value} {h : AH} {z : AS} (q : stp x o i L S h = some z) : KNK h z.2.2.2 := by
  cases x <;> simp only [stp, ldI, ldJ, ldA, stI, stJ, stA, biI, biJ, biS, aldI, guardo] at q <;> (repeat' split at q) <;>
    first | (cases q; done) | (cases q; exact KNK.rf) | (cases q; exact KNK.mk) | (cases q; exact fun _ _ => ⟨rfl, rfl⟩)
theorem prm_knk {d n y : Nat} {a : List Value} {h : AH} {z : Option Value × AH} (q : prm d n y a h = some z) : KNK h z.2 := by
  unfold prm at q
  split at q
  · obtain ⟨-, q2⟩ := guardo_some q; cases q2; exact fun _ _ => ⟨rfl, rfl⟩
  · obtain ⟨-, q2⟩ := guardo_some q; cases q2; exact KNK.rf
  · cases q; exact KNK.rf
  · cases q; exact KNK.rf
  · cases q; exact KNK.rf
  · cases q
theorem run_knk {call : AC} (hg : ∀ y a h z, call y a h = some z → hz h ≤ hz z.2 ∧ hu h ≤ hu z.2) (hc : ∀ y a h z, call y a h = some z → KNK h z.2) {P : List IR} : ∀ (n i : Nat) (L S : List Value) (h : AH) (z : Option Value × AH), run call P n i L S h = some z → KNK h z.2
  | 0, i, L, S, h, z, q => by cases q
  | n + 1, i, L, S, h, z, q => by
    unfold run at q
    split at q
    · cases q
    · rename_i r hr
      split at q
      · cases hv : retv r.2.1 S with
        | none => rw [hv] at q; cases q
        | some v => rw [hv] at q; cases q; exact KNK.rf
      · split at q
        · split at q
          · obtain ⟨-, q2⟩ := guardo_some q
            obtain ⟨w, q3, q4⟩ := Option.bind_eq_some_iff.mp q2
            exact KNK.tr (hg _ _ _ _ q3).1 (hc _ _ _ _ q3) (run_knk hg hc n _ _ _ _ _ q4)
          · cases q
        · obtain ⟨w, q3, q4⟩ := Option.bind_eq_some_iff.mp q
          exact KNK.tr (stp_grow q3).1 (stp_knk q3) (run_knk hg hc n _ _ _ _ _ q4)
theorem callD_knk : ∀ (d n y : Nat) (a : List Value) (h : AH) (z : Option Value × AH), callD ML prm d n y a h = some z → KNK h z.2
  | 0, n, y, a, h, z, q => by cases q
  | d + 1, n, y, a, h, z, q => by
    unfold callD at q
    split at q
    · obtain ⟨-, q2⟩ := guardo_some q
      obtain ⟨w, q3, q4⟩ := Option.bind_eq_some_iff.mp q2
      obtain ⟨-, q5⟩ := guardo_some q4
      cases q5
      exact run_knk (fun y a h z => callD_grow prmg d n y a h z) (fun y a h z => callD_knk d n y a h z) _ _ _ _ _ _ q3
    · exact prm_knk q
/-! THE CONTRACTS OF THE WRAPPERS, WHERE THE METHOD RETURNS -/
abbrev yLj : MethodName := ⟨"PenThatJumpsLaw", "jump", "(LPenThatJumps;III[J)I"⟩
abbrev yLw : MethodName := ⟨"PenThatJumpsLaw", "worth", "(LPenThatJumps;II[J)I"⟩
abbrev yLl : MethodName := ⟨"PenThatJumpsLaw", "lean", "(LPenThatJumps;I[J)I"⟩
section V2
variable {l : Launch} {g : GG} {hs h h' : AH} {d n x o : Nat} {a b c : Int32}
theorem las (L S : List Value) (i : Nat) (v : Int64) (hk : hK h' o = 23) (hn : hN h' o = 1) : stp .lastore [] i L (.long v :: .int (Int32.ofInt 0) :: .ref o :: S) h' = some (i + 1, L, S, sJ h' o 0 v) := by
  show guardo (decide (hK h' o = 23) && ixo (Int32.ofInt 0) (hN h' o)) (some (i + 1, L, S, sJ h' o (Int32.ofInt 0).toNatClampNeg v)) = _
  rw [hk, hn]
  rfl
theorem v_ret_j {v : Int32} (hrun : run (callD ML prm d n) P_xj n 0 (lcs 5 [.ref x, .int a, .int b, .int c]) [] h = some (some (.int v), h')) (hkx : hK h x = 10) (hko : hK h o = 23) (hno : hN h o = 1) :
    Met l yLj [.codeWith yLj method_3_code 6 (some .int) [(0, 12, 15, 13)]] (rmD (d + 2) (hz h' - hz h) (hu h' - hu h)) (PcA g hs [.ref x, .int a, .int b, .int c, .ref o] h) (QcA g hs (some (.int 0), sJ h' o 0 v.toInt64)) (hz h' - hz h) (hu h' - hu h) (AA g) := by
  refine met_tab (by decide) ?_
  intro p e s m args below meth cd s₁ B hml htab hv
  obtain ⟨rfl, hW, hE1, hE2, hE3, hE4⟩ := hv
  have hown : s.vm.findClass "PenThatJumpsLaw" = some m.cls := findClass_of_methodNamed B.named
  have C : CX p s m ([.ref x, .int a, .int b, .int c, .ref o].map (ph g)).toArray cd method_3_code 6 13 g hs := ⟨B.exec, B.bytes, hml, hown, fun w hw => AW_at (State.WarmedH.refl s) hw (hE1 w hw), hE2, hE3, hE4⟩
  rw [lg_entry_eq]
  have hL := LR.entry g [.ref x, .int a, .int b, .int c, .ref o] (n := 6) (by show 5 ≤ 6; decide)
  generalize ((lg_sl (([.ref x, .int a, .int b, .int c, .ref o] : List Value).map (ph g)) ++ List.replicate (6 - (lg_sl (([.ref x, .int a, .int b, .int c, .ref o] : List Value).map (ph g))).length) Slot.unset).toArray) = ls at hL ⊢
  have hlocks := B.notSynchronized
  have hr := B.returns
  have gr := run_grow (callD_grow (ML := ML) (pr := prm) prmg d n) n _ _ _ _ _ hrun
  have kn := run_knk (callD_grow (ML := ML) (pr := prm) prmg d n) (callD_knk d n) n _ _ _ _ _ hrun
  have ho : o < hz h := (hW.own (a := o) (by omega)).2
  have hk' : hK h' o = 23 := (kn o ho).1.trans hko
  have hn' : hN h' o = 1 := (kn o ho).2.trans hno
  refine sim_plain (z0 := (0, [.ref x, .int a, .int b, .int c, .ref o, .null], [], h)) (z := (6, [.ref x, .int a, .int b, .int c, .ref o, .null], [.int c, .int b, .int a, .ref x, .int (Int32.ofInt 0), .ref o], h)) C pln_vj 6 s.heap ls [] 0 0 rfl hL hW va_S.rf (by show 0 + (hz h - hz h) ≤ hz h' - hz h ∧ 0 + (hu h - hu h) ≤ hu h' - hu h; omega) ?_
  intro H1 ls1 locs1 hL1 hW1 hS1
  refine v_call (d := d) (z := (some (.int v), h')) (a' := [.int a, .int b, .int c]) (S := [.int (Int32.ofInt 0), .ref o]) C (pln_vj 6 _ rfl).1 xw_j ⟨Nat.le_refl _, Nat.le_refl _⟩ hL1.2.1 hW1 hS1 hkx rfl (by show 1 + (1 + 0) ≤ 8; decide) (x_ret (by decide) rfl pok_xj rfl (by show 4 ≤ 5; decide) hrun (Or.inl ⟨rfl, v, rfl⟩)) (by show 0 + (hz h - hz h) + (hz h' - hz h) ≤ hz h' - hz h ∧ 0 + (hu h - hu h) + (hu h' - hu h) ≤ hu h' - hu h; omega) ?_
  intro H2 locs2 hW2 hS2
  refine sim_plain (z0 := (7, [.ref x, .int a, .int b, .int c, .ref o, .null], [.int v, .int (Int32.ofInt 0), .ref o], h')) (z := (14, [.ref x, .int a, .int b, .int c, .ref o, .null], [.int (Int32.ofInt 0)], sJ h' o 0 v.toInt64)) C pln_vj 4 H2 ls1 locs2 _ _ ?_ hL1 hW2 hS2 (by show 0 + (hz h - hz h) + (hz h' - hz h) + (hz h' - hz h') ≤ hz h' - hz h ∧ 0 + (hu h - hu h) + (hu h' - hu h) + (hu h' - hu h') ≤ hu h' - hu h; omega) ?_
  · show (stp .lastore [] 8 [.ref x, .int a, .int b, .int c, .ref o, .null] (.long v.toInt64 :: .int (Int32.ofInt 0) :: .ref o :: []) h').bind (prun P_vj 2) = _
    rw [las _ _ _ _ hk' hn']
    rfl
  · intro H3 ls3 locs3 hL3 hW3 hS3
    have e1 : 0 + (hz h - hz h) + (hz h' - hz h) + (hz (sJ h' o 0 v.toInt64) - hz h') = hz h' - hz h := by show 0 + (hz h - hz h) + (hz h' - hz h) + (hz h' - hz h') = _; omega
    have e2 : 0 + (hu h - hu h) + (hu h' - hu h) + (hu (sJ h' o 0 v.toInt64) - hu h') = hu h' - hu h := by show 0 + (hu h - hu h) + (hu h' - hu h) + (hu h' - hu h') = _; omega
    rw [e1, e2]
    exact W.zret B.exec B.bytes hr rfl (fun t' q1 _ => ⟨rfl, by rw [q1]; exact hW3, hS3.F q1⟩) hS3.2.2 (pln_vj 14 _ rfl).1
end V2
