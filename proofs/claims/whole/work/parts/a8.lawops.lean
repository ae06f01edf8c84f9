--deps: a7.script a6.worth a3.lawblk a1.opbest 9y.opreader 99.opcount 98.opmark 96.opapart 94.optricked 9w.opbody
/-! THE LAW'S LOOP -/
theorem mem44 : ((44 : Nat) ∈ [20, 44]) ↔ True := by decide
theorem lg_same (v : Int64) : lg_cmp v v = 0 := by
  unfold lg_cmp
  rw [if_neg (fun z => Int64.lt_irrefl z), if_pos rfl]
/-- what is known of the script at a place of the law -/
def SC (L : Nat) (xs : Nat → Int32) (h : AH) : Prop := hK h 1 = 44 ∧ hN h 1 = L ∧ hI h 1 = I0 xs 1
theorem Inv.sc {L : Nat} {xs : Nat → Int32} {c : Nat} {h : AH} (i : Inv L xs c h) : SC L xs h := by
  obtain ⟨a1, a2, a3, a4⟩ := i.1 1 (by decide)
  exact ⟨a1, a2, a3⟩
theorem Cl.sc {L : Nat} {xs : Nat → Int32} {c : Nat} {y : Nat} {a : List Value} {h : AH} {Q : Option Value → AH → Prop} (q : Cl 100 y a h Q) (i : Inv L xs c h) : Cl 100 y a h (fun r h' => Q r h' ∧ SC L xs h') := by
  have s := i.sc
  refine (q.k44 (by have := i.2.2.2.2.2.2.2.2.2.2.2.2.2.2.1; omega) s.1).mono ?_
  rintro r h' ⟨w, k1, k2, k3⟩
  exact ⟨w, k1, k2.trans s.2.1, k3.trans s.2.2⟩
section LAW
variable {L : Nat} {xs : Nat → Int32} {c : Nat} {h : AH} {Q : Option Value → AH → Prop} {v5 v6 : Value}
def GO (L : Nat) (xs : Nat → Int32) (c : Nat) (Q : Option Value → AH → Prop) : Prop := ∀ (h2 : AH) (v5 v6 : Value), Inv L xs (c + 1) h2 → Wp 100 P_law 1099 [.ref 1, .ref 100, .ref 342, .ref 377, .int (nI (8 * c)), v5, v6, .null] [] h2 Q
theorem l_person (hL : L ≤ 4096) (hc : 8 * c + 8 ≤ L) (i : Inv L xs c h) (go : GO L xs c Q) : Wp 100 P_law 25 [.ref 1, .ref 100, .ref 342, .ref 377, .int (nI (8 * c)), v5, v6, .null] [] h Q := by
  have e1 : nI (8 * c) + 1 = nI (8 * c + 1) := nadd _ 1
  have e2 : nI (8 * c) + 2 = nI (8 * c + 2) := nadd _ 2
  have e3 : nI (8 * c) + 3 = nI (8 * c + 3) := nadd _ 3
  have e4 : nI (8 * c) + 4 = nI (8 * c + 4) := nadd _ 4
  have e5 : nI (8 * c) + 5 = nI (8 * c + 5) := nadd _ 5
  have e6 : nI (8 * c) + 6 = nI (8 * c + 6) := nadd _ 6
  have e7 : nI (8 * c) + 7 = nI (8 * c + 7) := nadd _ 7
  have x1 : ixo (nI (8 * c + 1)) L = true := nix (by omega) (by omega)
  have x2 : ixo (nI (8 * c + 2)) L = true := nix (by omega) (by omega)
  have x3 : ixo (nI (8 * c + 3)) L = true := nix (by omega) (by omega)
  have x4 : ixo (nI (8 * c + 4)) L = true := nix (by omega) (by omega)
  have x5 : ixo (nI (8 * c + 5)) L = true := nix (by omega) (by omega)
  have x6 : ixo (nI (8 * c + 6)) L = true := nix (by omega) (by omega)
  have x7 : ixo (nI (8 * c + 7)) L = true := nix (by omega) (by omega)
  have c1 := cN (n := 8 * c + 1) (by omega)
  have c2 := cN (n := 8 * c + 2) (by omega)
  have c3 := cN (n := 8 * c + 3) (by omega)
  have c4 := cN (n := 8 * c + 4) (by omega)
  have c5 := cN (n := 8 * c + 5) (by omega)
  have c6 := cN (n := 8 * c + 6) (by omega)
  have c7 := cN (n := 8 * c + 7) (by omega)
  have s := i.sc
  by_cases q3 : I0 xs 1 (8 * c + 3) = 0 <;> by_cases q5 : I0 xs 1 (8 * c + 5) = 0
  all_goals
    simp only [q3, q5, b_law_25, b_law_42, b_law_44, b_law_45, b_law_56, b_law_58, b_law_59, b_law_60, b_law_77, b_law_79, b_law_80, b_law_91, b_law_93, b_law_94, b_law_95, b_law_96, s.1, s.2.1, s.2.2, Option.toList, List.cons_append, List.nil_append, mem44, true_and, and_true, Int32.reduceOfNat, forall_const, true_implies, implies_true, false_implies, not_true_eq_false, not_false_eq_true, e1, e2, e3, e4, e5, e6, e7, x1, x2, x3, x4, x5, x6, x7, c1, c2, c3, c4, c5, c6, c7]
    refine (Cl.sc (op_person i _ _ _ _ _ (by decide) (by decide)) i).mono ?_
    rintro r h1 ⟨⟨v, rfl, w⟩, s1⟩
    simp only [q3, q5, b_law_25, b_law_42, b_law_44, b_law_45, b_law_56, b_law_58, b_law_59, b_law_60, b_law_77, b_law_79, b_law_80, b_law_91, b_law_93, b_law_94, b_law_95, b_law_96, s1.1, s1.2.1, s1.2.2, Option.toList, List.cons_append, List.nil_append, mem44, true_and, and_true, Int32.reduceOfNat, forall_const, true_implies, implies_true, false_implies, not_true_eq_false, not_false_eq_true, e1, e2, e3, e4, e5, e6, e7, x1, x2, x3, x4, x5, x6, x7, c1, c2, c3, c4, c5, c6, c7]
    refine w.mono ?_
    rintro r h2 ⟨rfl, i2⟩
    simp only [b_law_25, b_law_42, b_law_44, b_law_45, b_law_56, b_law_58, b_law_59, b_law_60, b_law_77, b_law_79, b_law_80, b_law_91, b_law_93, b_law_94, b_law_95, b_law_96, lg_same, Option.toList, List.cons_append, List.nil_append, mem44, true_and, and_true, Int32.reduceOfNat, forall_const, true_implies, implies_true, false_implies, not_true_eq_false, not_false_eq_true, e1, e2, e3, e4, e5, e6, e7, x1, x2, x3, x4, x5, x6, x7, c1, c2, c3, c4, c5, c6, c7]
    exact go h2 _ _ i2
theorem l_item (hL : L ≤ 4096) (hc : 8 * c + 8 ≤ L) (i : Inv L xs c h) (go : GO L xs c Q) : Wp 100 P_law 98 [.ref 1, .ref 100, .ref 342, .ref 377, .int (nI (8 * c)), v5, v6, .null] [] h Q := by
  have e1 : nI (8 * c) + 1 = nI (8 * c + 1) := nadd _ 1
  have e2 : nI (8 * c) + 2 = nI (8 * c + 2) := nadd _ 2
  have e3 : nI (8 * c) + 3 = nI (8 * c + 3) := nadd _ 3
  have e4 : nI (8 * c) + 4 = nI (8 * c + 4) := nadd _ 4
  have e5 : nI (8 * c) + 5 = nI (8 * c + 5) := nadd _ 5
  have e6 : nI (8 * c) + 6 = nI (8 * c + 6) := nadd _ 6
  have e7 : nI (8 * c) + 7 = nI (8 * c + 7) := nadd _ 7
  have x1 : ixo (nI (8 * c + 1)) L = true := nix (by omega) (by omega)
  have x2 : ixo (nI (8 * c + 2)) L = true := nix (by omega) (by omega)
  have x3 : ixo (nI (8 * c + 3)) L = true := nix (by omega) (by omega)
  have x4 : ixo (nI (8 * c + 4)) L = true := nix (by omega) (by omega)
  have x5 : ixo (nI (8 * c + 5)) L = true := nix (by omega) (by omega)
  have x6 : ixo (nI (8 * c + 6)) L = true := nix (by omega) (by omega)
  have x7 : ixo (nI (8 * c + 7)) L = true := nix (by omega) (by omega)
  have c1 := cN (n := 8 * c + 1) (by omega)
  have c2 := cN (n := 8 * c + 2) (by omega)
  have c3 := cN (n := 8 * c + 3) (by omega)
  have c4 := cN (n := 8 * c + 4) (by omega)
  have c5 := cN (n := 8 * c + 5) (by omega)
  have c6 := cN (n := 8 * c + 6) (by omega)
  have c7 := cN (n := 8 * c + 7) (by omega)
  have s := i.sc
  simp only [b_law_98, b_law_105, b_law_112, b_law_113, s.1, s.2.1, s.2.2, Option.toList, List.cons_append, List.nil_append, mem44, true_and, and_true, Int32.reduceOfNat, forall_const, true_implies, implies_true, false_implies, not_true_eq_false, not_false_eq_true, e1, e2, e3, e4, e5, e6, e7, x1, x2, x3, x4, x5, x6, x7, c1, c2, c3, c4, c5, c6, c7]
  refine (Cl.sc (op_item i _) i).mono ?_
  rintro r h1 ⟨⟨v, rfl, w⟩, s1⟩
  simp only [b_law_98, b_law_105, b_law_112, b_law_113, s1.1, s1.2.1, s1.2.2, Option.toList, List.cons_append, List.nil_append, mem44, true_and, and_true, Int32.reduceOfNat, forall_const, true_implies, implies_true, false_implies, not_true_eq_false, not_false_eq_true, e1, e2, e3, e4, e5, e6, e7, x1, x2, x3, x4, x5, x6, x7, c1, c2, c3, c4, c5, c6, c7]
  refine w.mono ?_
  rintro r h2 ⟨rfl, i2⟩
  simp only [b_law_98, b_law_105, b_law_112, b_law_113, lg_same, Option.toList, List.cons_append, List.nil_append, mem44, true_and, and_true, Int32.reduceOfNat, forall_const, true_implies, implies_true, false_implies, not_true_eq_false, not_false_eq_true, e1, e2, e3, e4, e5, e6, e7, x1, x2, x3, x4, x5, x6, x7, c1, c2, c3, c4, c5, c6, c7]
  exact go h2 _ _ i2
theorem l_feed (hL : L ≤ 4096) (hc : 8 * c + 8 ≤ L) (i : Inv L xs c h) (go : GO L xs c Q) : Wp 100 P_law 115 [.ref 1, .ref 100, .ref 342, .ref 377, .int (nI (8 * c)), v5, v6, .null] [] h Q := by
  have e1 : nI (8 * c) + 1 = nI (8 * c + 1) := nadd _ 1
  have e2 : nI (8 * c) + 2 = nI (8 * c + 2) := nadd _ 2
  have e3 : nI (8 * c) + 3 = nI (8 * c + 3) := nadd _ 3
  have e4 : nI (8 * c) + 4 = nI (8 * c + 4) := nadd _ 4
  have e5 : nI (8 * c) + 5 = nI (8 * c + 5) := nadd _ 5
  have e6 : nI (8 * c) + 6 = nI (8 * c + 6) := nadd _ 6
  have e7 : nI (8 * c) + 7 = nI (8 * c + 7) := nadd _ 7
  have x1 : ixo (nI (8 * c + 1)) L = true := nix (by omega) (by omega)
  have x2 : ixo (nI (8 * c + 2)) L = true := nix (by omega) (by omega)
  have x3 : ixo (nI (8 * c + 3)) L = true := nix (by omega) (by omega)
  have x4 : ixo (nI (8 * c + 4)) L = true := nix (by omega) (by omega)
  have x5 : ixo (nI (8 * c + 5)) L = true := nix (by omega) (by omega)
  have x6 : ixo (nI (8 * c + 6)) L = true := nix (by omega) (by omega)
  have x7 : ixo (nI (8 * c + 7)) L = true := nix (by omega) (by omega)
  have c1 := cN (n := 8 * c + 1) (by omega)
  have c2 := cN (n := 8 * c + 2) (by omega)
  have c3 := cN (n := 8 * c + 3) (by omega)
  have c4 := cN (n := 8 * c + 4) (by omega)
  have c5 := cN (n := 8 * c + 5) (by omega)
  have c6 := cN (n := 8 * c + 6) (by omega)
  have c7 := cN (n := 8 * c + 7) (by omega)
  have s := i.sc
  simp only [b_law_115, b_law_168, b_law_221, b_law_222, s.1, s.2.1, s.2.2, Option.toList, List.cons_append, List.nil_append, mem44, true_and, and_true, Int32.reduceOfNat, forall_const, true_implies, implies_true, false_implies, not_true_eq_false, not_false_eq_true, e1, e2, e3, e4, e5, e6, e7, x1, x2, x3, x4, x5, x6, x7, c1, c2, c3, c4, c5, c6, c7]
  refine (Cl.sc (op_feed i _ _ _) i).mono ?_
  rintro r h1 ⟨⟨v, rfl, w⟩, s1⟩
  simp only [b_law_115, b_law_168, b_law_221, b_law_222, s1.1, s1.2.1, s1.2.2, Option.toList, List.cons_append, List.nil_append, mem44, true_and, and_true, Int32.reduceOfNat, forall_const, true_implies, implies_true, false_implies, not_true_eq_false, not_false_eq_true, e1, e2, e3, e4, e5, e6, e7, x1, x2, x3, x4, x5, x6, x7, c1, c2, c3, c4, c5, c6, c7]
  refine w.mono ?_
  rintro r h2 ⟨rfl, i2⟩
  simp only [b_law_115, b_law_168, b_law_221, b_law_222, lg_same, Option.toList, List.cons_append, List.nil_append, mem44, true_and, and_true, Int32.reduceOfNat, forall_const, true_implies, implies_true, false_implies, not_true_eq_false, not_false_eq_true, e1, e2, e3, e4, e5, e6, e7, x1, x2, x3, x4, x5, x6, x7, c1, c2, c3, c4, c5, c6, c7]
  exact go h2 _ _ i2
theorem l_plan (hL : L ≤ 4096) (hc : 8 * c + 8 ≤ L) (i : Inv L xs c h) (go : GO L xs c Q) : Wp 100 P_law 224 [.ref 1, .ref 100, .ref 342, .ref 377, .int (nI (8 * c)), v5, v6, .null] [] h Q := by
  have e1 : nI (8 * c) + 1 = nI (8 * c + 1) := nadd _ 1
  have e2 : nI (8 * c) + 2 = nI (8 * c + 2) := nadd _ 2
  have e3 : nI (8 * c) + 3 = nI (8 * c + 3) := nadd _ 3
  have e4 : nI (8 * c) + 4 = nI (8 * c + 4) := nadd _ 4
  have e5 : nI (8 * c) + 5 = nI (8 * c + 5) := nadd _ 5
  have e6 : nI (8 * c) + 6 = nI (8 * c + 6) := nadd _ 6
  have e7 : nI (8 * c) + 7 = nI (8 * c + 7) := nadd _ 7
  have x1 : ixo (nI (8 * c + 1)) L = true := nix (by omega) (by omega)
  have x2 : ixo (nI (8 * c + 2)) L = true := nix (by omega) (by omega)
  have x3 : ixo (nI (8 * c + 3)) L = true := nix (by omega) (by omega)
  have x4 : ixo (nI (8 * c + 4)) L = true := nix (by omega) (by omega)
  have x5 : ixo (nI (8 * c + 5)) L = true := nix (by omega) (by omega)
  have x6 : ixo (nI (8 * c + 6)) L = true := nix (by omega) (by omega)
  have x7 : ixo (nI (8 * c + 7)) L = true := nix (by omega) (by omega)
  have c1 := cN (n := 8 * c + 1) (by omega)
  have c2 := cN (n := 8 * c + 2) (by omega)
  have c3 := cN (n := 8 * c + 3) (by omega)
  have c4 := cN (n := 8 * c + 4) (by omega)
  have c5 := cN (n := 8 * c + 5) (by omega)
  have c6 := cN (n := 8 * c + 6) (by omega)
  have c7 := cN (n := 8 * c + 7) (by omega)
  have s := i.sc
  simp only [b_law_224, b_law_231, b_law_238, b_law_239, s.1, s.2.1, s.2.2, Option.toList, List.cons_append, List.nil_append, mem44, true_and, and_true, Int32.reduceOfNat, forall_const, true_implies, implies_true, false_implies, not_true_eq_false, not_false_eq_true, e1, e2, e3, e4, e5, e6, e7, x1, x2, x3, x4, x5, x6, x7, c1, c2, c3, c4, c5, c6, c7]
  refine (Cl.sc (op_plan i _) i).mono ?_
  rintro r h1 ⟨⟨v, rfl, w⟩, s1⟩
  simp only [b_law_224, b_law_231, b_law_238, b_law_239, s1.1, s1.2.1, s1.2.2, Option.toList, List.cons_append, List.nil_append, mem44, true_and, and_true, Int32.reduceOfNat, forall_const, true_implies, implies_true, false_implies, not_true_eq_false, not_false_eq_true, e1, e2, e3, e4, e5, e6, e7, x1, x2, x3, x4, x5, x6, x7, c1, c2, c3, c4, c5, c6, c7]
  refine w.mono ?_
  rintro r h2 ⟨rfl, i2⟩
  simp only [b_law_224, b_law_231, b_law_238, b_law_239, lg_same, Option.toList, List.cons_append, List.nil_append, mem44, true_and, and_true, Int32.reduceOfNat, forall_const, true_implies, implies_true, false_implies, not_true_eq_false, not_false_eq_true, e1, e2, e3, e4, e5, e6, e7, x1, x2, x3, x4, x5, x6, x7, c1, c2, c3, c4, c5, c6, c7]
  exact go h2 _ _ i2
theorem l_body (hL : L ≤ 4096) (hc : 8 * c + 8 ≤ L) (i : Inv L xs c h) (go : GO L xs c Q) : Wp 100 P_law 241 [.ref 1, .ref 100, .ref 342, .ref 377, .int (nI (8 * c)), v5, v6, .null] [] h Q := by
  have e1 : nI (8 * c) + 1 = nI (8 * c + 1) := nadd _ 1
  have e2 : nI (8 * c) + 2 = nI (8 * c + 2) := nadd _ 2
  have e3 : nI (8 * c) + 3 = nI (8 * c + 3) := nadd _ 3
  have e4 : nI (8 * c) + 4 = nI (8 * c + 4) := nadd _ 4
  have e5 : nI (8 * c) + 5 = nI (8 * c + 5) := nadd _ 5
  have e6 : nI (8 * c) + 6 = nI (8 * c + 6) := nadd _ 6
  have e7 : nI (8 * c) + 7 = nI (8 * c + 7) := nadd _ 7
  have x1 : ixo (nI (8 * c + 1)) L = true := nix (by omega) (by omega)
  have x2 : ixo (nI (8 * c + 2)) L = true := nix (by omega) (by omega)
  have x3 : ixo (nI (8 * c + 3)) L = true := nix (by omega) (by omega)
  have x4 : ixo (nI (8 * c + 4)) L = true := nix (by omega) (by omega)
  have x5 : ixo (nI (8 * c + 5)) L = true := nix (by omega) (by omega)
  have x6 : ixo (nI (8 * c + 6)) L = true := nix (by omega) (by omega)
  have x7 : ixo (nI (8 * c + 7)) L = true := nix (by omega) (by omega)
  have c1 := cN (n := 8 * c + 1) (by omega)
  have c2 := cN (n := 8 * c + 2) (by omega)
  have c3 := cN (n := 8 * c + 3) (by omega)
  have c4 := cN (n := 8 * c + 4) (by omega)
  have c5 := cN (n := 8 * c + 5) (by omega)
  have c6 := cN (n := 8 * c + 6) (by omega)
  have c7 := cN (n := 8 * c + 7) (by omega)
  have s := i.sc
  simp only [b_law_241, b_law_243, b_law_245, b_law_246, s.1, s.2.1, s.2.2, Option.toList, List.cons_append, List.nil_append, mem44, true_and, and_true, Int32.reduceOfNat, forall_const, true_implies, implies_true, false_implies, not_true_eq_false, not_false_eq_true, e1, e2, e3, e4, e5, e6, e7, x1, x2, x3, x4, x5, x6, x7, c1, c2, c3, c4, c5, c6, c7]
  refine (Cl.sc (op_body i ) i).mono ?_
  rintro r h1 ⟨⟨v, rfl, w⟩, s1⟩
  simp only [b_law_241, b_law_243, b_law_245, b_law_246, s1.1, s1.2.1, s1.2.2, Option.toList, List.cons_append, List.nil_append, mem44, true_and, and_true, Int32.reduceOfNat, forall_const, true_implies, implies_true, false_implies, not_true_eq_false, not_false_eq_true, e1, e2, e3, e4, e5, e6, e7, x1, x2, x3, x4, x5, x6, x7, c1, c2, c3, c4, c5, c6, c7]
  refine w.mono ?_
  rintro r h2 ⟨rfl, i2⟩
  simp only [b_law_241, b_law_243, b_law_245, b_law_246, lg_same, Option.toList, List.cons_append, List.nil_append, mem44, true_and, and_true, Int32.reduceOfNat, forall_const, true_implies, implies_true, false_implies, not_true_eq_false, not_false_eq_true, e1, e2, e3, e4, e5, e6, e7, x1, x2, x3, x4, x5, x6, x7, c1, c2, c3, c4, c5, c6, c7]
  exact go h2 _ _ i2
theorem l_reader (hL : L ≤ 4096) (hc : 8 * c + 8 ≤ L) (i : Inv L xs c h) (go : GO L xs c Q) : Wp 100 P_law 248 [.ref 1, .ref 100, .ref 342, .ref 377, .int (nI (8 * c)), v5, v6, .null] [] h Q := by
  have e1 : nI (8 * c) + 1 = nI (8 * c + 1) := nadd _ 1
  have e2 : nI (8 * c) + 2 = nI (8 * c + 2) := nadd _ 2
  have e3 : nI (8 * c) + 3 = nI (8 * c + 3) := nadd _ 3
  have e4 : nI (8 * c) + 4 = nI (8 * c + 4) := nadd _ 4
  have e5 : nI (8 * c) + 5 = nI (8 * c + 5) := nadd _ 5
  have e6 : nI (8 * c) + 6 = nI (8 * c + 6) := nadd _ 6
  have e7 : nI (8 * c) + 7 = nI (8 * c + 7) := nadd _ 7
  have x1 : ixo (nI (8 * c + 1)) L = true := nix (by omega) (by omega)
  have x2 : ixo (nI (8 * c + 2)) L = true := nix (by omega) (by omega)
  have x3 : ixo (nI (8 * c + 3)) L = true := nix (by omega) (by omega)
  have x4 : ixo (nI (8 * c + 4)) L = true := nix (by omega) (by omega)
  have x5 : ixo (nI (8 * c + 5)) L = true := nix (by omega) (by omega)
  have x6 : ixo (nI (8 * c + 6)) L = true := nix (by omega) (by omega)
  have x7 : ixo (nI (8 * c + 7)) L = true := nix (by omega) (by omega)
  have c1 := cN (n := 8 * c + 1) (by omega)
  have c2 := cN (n := 8 * c + 2) (by omega)
  have c3 := cN (n := 8 * c + 3) (by omega)
  have c4 := cN (n := 8 * c + 4) (by omega)
  have c5 := cN (n := 8 * c + 5) (by omega)
  have c6 := cN (n := 8 * c + 6) (by omega)
  have c7 := cN (n := 8 * c + 7) (by omega)
  have s := i.sc
  simp only [b_law_248, b_law_255, b_law_262, b_law_263, s.1, s.2.1, s.2.2, Option.toList, List.cons_append, List.nil_append, mem44, true_and, and_true, Int32.reduceOfNat, forall_const, true_implies, implies_true, false_implies, not_true_eq_false, not_false_eq_true, e1, e2, e3, e4, e5, e6, e7, x1, x2, x3, x4, x5, x6, x7, c1, c2, c3, c4, c5, c6, c7]
  refine (Cl.sc (op_reader i _) i).mono ?_
  rintro r h1 ⟨⟨v, rfl, w⟩, s1⟩
  simp only [b_law_248, b_law_255, b_law_262, b_law_263, s1.1, s1.2.1, s1.2.2, Option.toList, List.cons_append, List.nil_append, mem44, true_and, and_true, Int32.reduceOfNat, forall_const, true_implies, implies_true, false_implies, not_true_eq_false, not_false_eq_true, e1, e2, e3, e4, e5, e6, e7, x1, x2, x3, x4, x5, x6, x7, c1, c2, c3, c4, c5, c6, c7]
  refine w.mono ?_
  rintro r h2 ⟨rfl, i2⟩
  simp only [b_law_248, b_law_255, b_law_262, b_law_263, lg_same, Option.toList, List.cons_append, List.nil_append, mem44, true_and, and_true, Int32.reduceOfNat, forall_const, true_implies, implies_true, false_implies, not_true_eq_false, not_false_eq_true, e1, e2, e3, e4, e5, e6, e7, x1, x2, x3, x4, x5, x6, x7, c1, c2, c3, c4, c5, c6, c7]
  exact go h2 _ _ i2
theorem l_question (hL : L ≤ 4096) (hc : 8 * c + 8 ≤ L) (i : Inv L xs c h) (go : GO L xs c Q) : Wp 100 P_law 265 [.ref 1, .ref 100, .ref 342, .ref 377, .int (nI (8 * c)), v5, v6, .null] [] h Q := by
  have e1 : nI (8 * c) + 1 = nI (8 * c + 1) := nadd _ 1
  have e2 : nI (8 * c) + 2 = nI (8 * c + 2) := nadd _ 2
  have e3 : nI (8 * c) + 3 = nI (8 * c + 3) := nadd _ 3
  have e4 : nI (8 * c) + 4 = nI (8 * c + 4) := nadd _ 4
  have e5 : nI (8 * c) + 5 = nI (8 * c + 5) := nadd _ 5
  have e6 : nI (8 * c) + 6 = nI (8 * c + 6) := nadd _ 6
  have e7 : nI (8 * c) + 7 = nI (8 * c + 7) := nadd _ 7
  have x1 : ixo (nI (8 * c + 1)) L = true := nix (by omega) (by omega)
  have x2 : ixo (nI (8 * c + 2)) L = true := nix (by omega) (by omega)
  have x3 : ixo (nI (8 * c + 3)) L = true := nix (by omega) (by omega)
  have x4 : ixo (nI (8 * c + 4)) L = true := nix (by omega) (by omega)
  have x5 : ixo (nI (8 * c + 5)) L = true := nix (by omega) (by omega)
  have x6 : ixo (nI (8 * c + 6)) L = true := nix (by omega) (by omega)
  have x7 : ixo (nI (8 * c + 7)) L = true := nix (by omega) (by omega)
  have c1 := cN (n := 8 * c + 1) (by omega)
  have c2 := cN (n := 8 * c + 2) (by omega)
  have c3 := cN (n := 8 * c + 3) (by omega)
  have c4 := cN (n := 8 * c + 4) (by omega)
  have c5 := cN (n := 8 * c + 5) (by omega)
  have c6 := cN (n := 8 * c + 6) (by omega)
  have c7 := cN (n := 8 * c + 7) (by omega)
  have s := i.sc
  simp only [b_law_265, b_law_282, b_law_299, b_law_300, s.1, s.2.1, s.2.2, Option.toList, List.cons_append, List.nil_append, mem44, true_and, and_true, Int32.reduceOfNat, forall_const, true_implies, implies_true, false_implies, not_true_eq_false, not_false_eq_true, e1, e2, e3, e4, e5, e6, e7, x1, x2, x3, x4, x5, x6, x7, c1, c2, c3, c4, c5, c6, c7]
  refine (Cl.sc (op_question i _ _ _) i).mono ?_
  rintro r h1 ⟨⟨v, rfl, w⟩, s1⟩
  simp only [b_law_265, b_law_282, b_law_299, b_law_300, s1.1, s1.2.1, s1.2.2, Option.toList, List.cons_append, List.nil_append, mem44, true_and, and_true, Int32.reduceOfNat, forall_const, true_implies, implies_true, false_implies, not_true_eq_false, not_false_eq_true, e1, e2, e3, e4, e5, e6, e7, x1, x2, x3, x4, x5, x6, x7, c1, c2, c3, c4, c5, c6, c7]
  refine w.mono ?_
  rintro r h2 ⟨rfl, i2⟩
  simp only [b_law_265, b_law_282, b_law_299, b_law_300, lg_same, Option.toList, List.cons_append, List.nil_append, mem44, true_and, and_true, Int32.reduceOfNat, forall_const, true_implies, implies_true, false_implies, not_true_eq_false, not_false_eq_true, e1, e2, e3, e4, e5, e6, e7, x1, x2, x3, x4, x5, x6, x7, c1, c2, c3, c4, c5, c6, c7]
  exact go h2 _ _ i2
theorem l_sit (hL : L ≤ 4096) (hc : 8 * c + 8 ≤ L) (i : Inv L xs c h) (go : GO L xs c Q) : Wp 100 P_law 302 [.ref 1, .ref 100, .ref 342, .ref 377, .int (nI (8 * c)), v5, v6, .null] [] h Q := by
  have e1 : nI (8 * c) + 1 = nI (8 * c + 1) := nadd _ 1
  have e2 : nI (8 * c) + 2 = nI (8 * c + 2) := nadd _ 2
  have e3 : nI (8 * c) + 3 = nI (8 * c + 3) := nadd _ 3
  have e4 : nI (8 * c) + 4 = nI (8 * c + 4) := nadd _ 4
  have e5 : nI (8 * c) + 5 = nI (8 * c + 5) := nadd _ 5
  have e6 : nI (8 * c) + 6 = nI (8 * c + 6) := nadd _ 6
  have e7 : nI (8 * c) + 7 = nI (8 * c + 7) := nadd _ 7
  have x1 : ixo (nI (8 * c + 1)) L = true := nix (by omega) (by omega)
  have x2 : ixo (nI (8 * c + 2)) L = true := nix (by omega) (by omega)
  have x3 : ixo (nI (8 * c + 3)) L = true := nix (by omega) (by omega)
  have x4 : ixo (nI (8 * c + 4)) L = true := nix (by omega) (by omega)
  have x5 : ixo (nI (8 * c + 5)) L = true := nix (by omega) (by omega)
  have x6 : ixo (nI (8 * c + 6)) L = true := nix (by omega) (by omega)
  have x7 : ixo (nI (8 * c + 7)) L = true := nix (by omega) (by omega)
  have c1 := cN (n := 8 * c + 1) (by omega)
  have c2 := cN (n := 8 * c + 2) (by omega)
  have c3 := cN (n := 8 * c + 3) (by omega)
  have c4 := cN (n := 8 * c + 4) (by omega)
  have c5 := cN (n := 8 * c + 5) (by omega)
  have c6 := cN (n := 8 * c + 6) (by omega)
  have c7 := cN (n := 8 * c + 7) (by omega)
  have s := i.sc
  simp only [b_law_302, b_law_319, b_law_336, b_law_337, s.1, s.2.1, s.2.2, Option.toList, List.cons_append, List.nil_append, mem44, true_and, and_true, Int32.reduceOfNat, forall_const, true_implies, implies_true, false_implies, not_true_eq_false, not_false_eq_true, e1, e2, e3, e4, e5, e6, e7, x1, x2, x3, x4, x5, x6, x7, c1, c2, c3, c4, c5, c6, c7]
  refine (Cl.sc (op_sit i _ _ _) i).mono ?_
  rintro r h1 ⟨⟨v, rfl, w⟩, s1⟩
  simp only [b_law_302, b_law_319, b_law_336, b_law_337, s1.1, s1.2.1, s1.2.2, Option.toList, List.cons_append, List.nil_append, mem44, true_and, and_true, Int32.reduceOfNat, forall_const, true_implies, implies_true, false_implies, not_true_eq_false, not_false_eq_true, e1, e2, e3, e4, e5, e6, e7, x1, x2, x3, x4, x5, x6, x7, c1, c2, c3, c4, c5, c6, c7]
  refine w.mono ?_
  rintro r h2 ⟨rfl, i2⟩
  simp only [b_law_302, b_law_319, b_law_336, b_law_337, lg_same, Option.toList, List.cons_append, List.nil_append, mem44, true_and, and_true, Int32.reduceOfNat, forall_const, true_implies, implies_true, false_implies, not_true_eq_false, not_false_eq_true, e1, e2, e3, e4, e5, e6, e7, x1, x2, x3, x4, x5, x6, x7, c1, c2, c3, c4, c5, c6, c7]
  exact go h2 _ _ i2
theorem l_jump (hL : L ≤ 4096) (hc : 8 * c + 8 ≤ L) (i : Inv L xs c h) (go : GO L xs c Q) : Wp 100 P_law 339 [.ref 1, .ref 100, .ref 342, .ref 377, .int (nI (8 * c)), v5, v6, .null] [] h Q := by
  have e1 : nI (8 * c) + 1 = nI (8 * c + 1) := nadd _ 1
  have e2 : nI (8 * c) + 2 = nI (8 * c + 2) := nadd _ 2
  have e3 : nI (8 * c) + 3 = nI (8 * c + 3) := nadd _ 3
  have e4 : nI (8 * c) + 4 = nI (8 * c + 4) := nadd _ 4
  have e5 : nI (8 * c) + 5 = nI (8 * c + 5) := nadd _ 5
  have e6 : nI (8 * c) + 6 = nI (8 * c + 6) := nadd _ 6
  have e7 : nI (8 * c) + 7 = nI (8 * c + 7) := nadd _ 7
  have x1 : ixo (nI (8 * c + 1)) L = true := nix (by omega) (by omega)
  have x2 : ixo (nI (8 * c + 2)) L = true := nix (by omega) (by omega)
  have x3 : ixo (nI (8 * c + 3)) L = true := nix (by omega) (by omega)
  have x4 : ixo (nI (8 * c + 4)) L = true := nix (by omega) (by omega)
  have x5 : ixo (nI (8 * c + 5)) L = true := nix (by omega) (by omega)
  have x6 : ixo (nI (8 * c + 6)) L = true := nix (by omega) (by omega)
  have x7 : ixo (nI (8 * c + 7)) L = true := nix (by omega) (by omega)
  have c1 := cN (n := 8 * c + 1) (by omega)
  have c2 := cN (n := 8 * c + 2) (by omega)
  have c3 := cN (n := 8 * c + 3) (by omega)
  have c4 := cN (n := 8 * c + 4) (by omega)
  have c5 := cN (n := 8 * c + 5) (by omega)
  have c6 := cN (n := 8 * c + 6) (by omega)
  have c7 := cN (n := 8 * c + 7) (by omega)
  have s := i.sc
  simp only [b_law_339, b_law_357, b_law_375, b_law_378, b_law_380, b_law_382, b_law_384, b_law_391, b_law_393, s.1, s.2.1, s.2.2, Option.toList, List.cons_append, List.nil_append, mem44, true_and, and_true, Int32.reduceOfNat, forall_const, true_implies, implies_true, false_implies, not_true_eq_false, not_false_eq_true, e1, e2, e3, e4, e5, e6, e7, x1, x2, x3, x4, x5, x6, x7, c1, c2, c3, c4, c5, c6, c7]
  refine (Cl.sc (op_jump i _ _ _) i).mono ?_
  rintro r h1 ⟨⟨t, rfl, w⟩, s1⟩
  simp only [b_law_339, b_law_357, b_law_375, b_law_378, b_law_380, b_law_382, b_law_384, b_law_391, b_law_393, s1.1, s1.2.1, s1.2.2, Option.toList, List.cons_append, List.nil_append, mem44, true_and, and_true, Int32.reduceOfNat, forall_const, true_implies, implies_true, false_implies, not_true_eq_false, not_false_eq_true, e1, e2, e3, e4, e5, e6, e7, x1, x2, x3, x4, x5, x6, x7, c1, c2, c3, c4, c5, c6, c7]
  refine w.mono ?_
  rintro r h2 ⟨v, rfl, wj, wt, i2⟩
  simp only [b_law_339, b_law_357, b_law_375, b_law_378, b_law_380, b_law_382, b_law_384, b_law_391, b_law_393, c_M_thrown h2 i2.2.2.1, wt, Option.toList, List.cons_append, List.nil_append, mem44, true_and, and_true, Int32.reduceOfNat, forall_const, true_implies, implies_true, false_implies, not_true_eq_false, not_false_eq_true, e1, e2, e3, e4, e5, e6, e7, x1, x2, x3, x4, x5, x6, x7, c1, c2, c3, c4, c5, c6, c7]
  refine ⟨fun _ => go h2 _ _ i2, fun qt => ?_⟩
  have qt := Classical.not_not.mp qt
  simp only [i2.2.2.2.1.1, i2.2.2.2.1.2, show ixo 0 1 = true by decide, tn0, wj qt, lg_same, mem44, true_and, and_true, Int32.reduceOfNat, forall_const, true_implies, implies_true, false_implies, not_true_eq_false, not_false_eq_true, e1, e2, e3, e4, e5, e6, e7, x1, x2, x3, x4, x5, x6, x7, c1, c2, c3, c4, c5, c6, c7]
  exact go h2 _ _ i2
theorem l_says (hL : L ≤ 4096) (hc : 8 * c + 8 ≤ L) (i : Inv L xs c h) (go : GO L xs c Q) : Wp 100 P_law 394 [.ref 1, .ref 100, .ref 342, .ref 377, .int (nI (8 * c)), v5, v6, .null] [] h Q := by
  have e1 : nI (8 * c) + 1 = nI (8 * c + 1) := nadd _ 1
  have e2 : nI (8 * c) + 2 = nI (8 * c + 2) := nadd _ 2
  have e3 : nI (8 * c) + 3 = nI (8 * c + 3) := nadd _ 3
  have e4 : nI (8 * c) + 4 = nI (8 * c + 4) := nadd _ 4
  have e5 : nI (8 * c) + 5 = nI (8 * c + 5) := nadd _ 5
  have e6 : nI (8 * c) + 6 = nI (8 * c + 6) := nadd _ 6
  have e7 : nI (8 * c) + 7 = nI (8 * c + 7) := nadd _ 7
  have x1 : ixo (nI (8 * c + 1)) L = true := nix (by omega) (by omega)
  have x2 : ixo (nI (8 * c + 2)) L = true := nix (by omega) (by omega)
  have x3 : ixo (nI (8 * c + 3)) L = true := nix (by omega) (by omega)
  have x4 : ixo (nI (8 * c + 4)) L = true := nix (by omega) (by omega)
  have x5 : ixo (nI (8 * c + 5)) L = true := nix (by omega) (by omega)
  have x6 : ixo (nI (8 * c + 6)) L = true := nix (by omega) (by omega)
  have x7 : ixo (nI (8 * c + 7)) L = true := nix (by omega) (by omega)
  have c1 := cN (n := 8 * c + 1) (by omega)
  have c2 := cN (n := 8 * c + 2) (by omega)
  have c3 := cN (n := 8 * c + 3) (by omega)
  have c4 := cN (n := 8 * c + 4) (by omega)
  have c5 := cN (n := 8 * c + 5) (by omega)
  have c6 := cN (n := 8 * c + 6) (by omega)
  have c7 := cN (n := 8 * c + 7) (by omega)
  have s := i.sc
  simp only [b_law_394, b_law_411, b_law_428, b_law_429, s.1, s.2.1, s.2.2, Option.toList, List.cons_append, List.nil_append, mem44, true_and, and_true, Int32.reduceOfNat, forall_const, true_implies, implies_true, false_implies, not_true_eq_false, not_false_eq_true, e1, e2, e3, e4, e5, e6, e7, x1, x2, x3, x4, x5, x6, x7, c1, c2, c3, c4, c5, c6, c7]
  refine (Cl.sc (op_says i _ _ _) i).mono ?_
  rintro r h1 ⟨⟨v, rfl, w⟩, s1⟩
  simp only [b_law_394, b_law_411, b_law_428, b_law_429, s1.1, s1.2.1, s1.2.2, Option.toList, List.cons_append, List.nil_append, mem44, true_and, and_true, Int32.reduceOfNat, forall_const, true_implies, implies_true, false_implies, not_true_eq_false, not_false_eq_true, e1, e2, e3, e4, e5, e6, e7, x1, x2, x3, x4, x5, x6, x7, c1, c2, c3, c4, c5, c6, c7]
  refine w.mono ?_
  rintro r h2 ⟨rfl, i2⟩
  simp only [b_law_394, b_law_411, b_law_428, b_law_429, lg_same, Option.toList, List.cons_append, List.nil_append, mem44, true_and, and_true, Int32.reduceOfNat, forall_const, true_implies, implies_true, false_implies, not_true_eq_false, not_false_eq_true, e1, e2, e3, e4, e5, e6, e7, x1, x2, x3, x4, x5, x6, x7, c1, c2, c3, c4, c5, c6, c7]
  exact go h2 _ _ i2
theorem l_leans (hL : L ≤ 4096) (hc : 8 * c + 8 ≤ L) (i : Inv L xs c h) (go : GO L xs c Q) : Wp 100 P_law 431 [.ref 1, .ref 100, .ref 342, .ref 377, .int (nI (8 * c)), v5, v6, .null] [] h Q := by
  have e1 : nI (8 * c) + 1 = nI (8 * c + 1) := nadd _ 1
  have e2 : nI (8 * c) + 2 = nI (8 * c + 2) := nadd _ 2
  have e3 : nI (8 * c) + 3 = nI (8 * c + 3) := nadd _ 3
  have e4 : nI (8 * c) + 4 = nI (8 * c + 4) := nadd _ 4
  have e5 : nI (8 * c) + 5 = nI (8 * c + 5) := nadd _ 5
  have e6 : nI (8 * c) + 6 = nI (8 * c + 6) := nadd _ 6
  have e7 : nI (8 * c) + 7 = nI (8 * c + 7) := nadd _ 7
  have x1 : ixo (nI (8 * c + 1)) L = true := nix (by omega) (by omega)
  have x2 : ixo (nI (8 * c + 2)) L = true := nix (by omega) (by omega)
  have x3 : ixo (nI (8 * c + 3)) L = true := nix (by omega) (by omega)
  have x4 : ixo (nI (8 * c + 4)) L = true := nix (by omega) (by omega)
  have x5 : ixo (nI (8 * c + 5)) L = true := nix (by omega) (by omega)
  have x6 : ixo (nI (8 * c + 6)) L = true := nix (by omega) (by omega)
  have x7 : ixo (nI (8 * c + 7)) L = true := nix (by omega) (by omega)
  have c1 := cN (n := 8 * c + 1) (by omega)
  have c2 := cN (n := 8 * c + 2) (by omega)
  have c3 := cN (n := 8 * c + 3) (by omega)
  have c4 := cN (n := 8 * c + 4) (by omega)
  have c5 := cN (n := 8 * c + 5) (by omega)
  have c6 := cN (n := 8 * c + 6) (by omega)
  have c7 := cN (n := 8 * c + 7) (by omega)
  have s := i.sc
  simp only [b_law_431, b_law_443, b_law_455, b_law_456, s.1, s.2.1, s.2.2, Option.toList, List.cons_append, List.nil_append, mem44, true_and, and_true, Int32.reduceOfNat, forall_const, true_implies, implies_true, false_implies, not_true_eq_false, not_false_eq_true, e1, e2, e3, e4, e5, e6, e7, x1, x2, x3, x4, x5, x6, x7, c1, c2, c3, c4, c5, c6, c7]
  refine (Cl.sc (op_leans i _ _) i).mono ?_
  rintro r h1 ⟨⟨v, rfl, w⟩, s1⟩
  simp only [b_law_431, b_law_443, b_law_455, b_law_456, s1.1, s1.2.1, s1.2.2, Option.toList, List.cons_append, List.nil_append, mem44, true_and, and_true, Int32.reduceOfNat, forall_const, true_implies, implies_true, false_implies, not_true_eq_false, not_false_eq_true, e1, e2, e3, e4, e5, e6, e7, x1, x2, x3, x4, x5, x6, x7, c1, c2, c3, c4, c5, c6, c7]
  refine w.mono ?_
  rintro r h2 ⟨rfl, i2⟩
  simp only [b_law_431, b_law_443, b_law_455, b_law_456, lg_same, Option.toList, List.cons_append, List.nil_append, mem44, true_and, and_true, Int32.reduceOfNat, forall_const, true_implies, implies_true, false_implies, not_true_eq_false, not_false_eq_true, e1, e2, e3, e4, e5, e6, e7, x1, x2, x3, x4, x5, x6, x7, c1, c2, c3, c4, c5, c6, c7]
  exact go h2 _ _ i2
theorem l_hits (hL : L ≤ 4096) (hc : 8 * c + 8 ≤ L) (i : Inv L xs c h) (go : GO L xs c Q) : Wp 100 P_law 458 [.ref 1, .ref 100, .ref 342, .ref 377, .int (nI (8 * c)), v5, v6, .null] [] h Q := by
  have e1 : nI (8 * c) + 1 = nI (8 * c + 1) := nadd _ 1
  have e2 : nI (8 * c) + 2 = nI (8 * c + 2) := nadd _ 2
  have e3 : nI (8 * c) + 3 = nI (8 * c + 3) := nadd _ 3
  have e4 : nI (8 * c) + 4 = nI (8 * c + 4) := nadd _ 4
  have e5 : nI (8 * c) + 5 = nI (8 * c + 5) := nadd _ 5
  have e6 : nI (8 * c) + 6 = nI (8 * c + 6) := nadd _ 6
  have e7 : nI (8 * c) + 7 = nI (8 * c + 7) := nadd _ 7
  have x1 : ixo (nI (8 * c + 1)) L = true := nix (by omega) (by omega)
  have x2 : ixo (nI (8 * c + 2)) L = true := nix (by omega) (by omega)
  have x3 : ixo (nI (8 * c + 3)) L = true := nix (by omega) (by omega)
  have x4 : ixo (nI (8 * c + 4)) L = true := nix (by omega) (by omega)
  have x5 : ixo (nI (8 * c + 5)) L = true := nix (by omega) (by omega)
  have x6 : ixo (nI (8 * c + 6)) L = true := nix (by omega) (by omega)
  have x7 : ixo (nI (8 * c + 7)) L = true := nix (by omega) (by omega)
  have c1 := cN (n := 8 * c + 1) (by omega)
  have c2 := cN (n := 8 * c + 2) (by omega)
  have c3 := cN (n := 8 * c + 3) (by omega)
  have c4 := cN (n := 8 * c + 4) (by omega)
  have c5 := cN (n := 8 * c + 5) (by omega)
  have c6 := cN (n := 8 * c + 6) (by omega)
  have c7 := cN (n := 8 * c + 7) (by omega)
  have s := i.sc
  simp only [b_law_458, b_law_470, b_law_482, b_law_483, s.1, s.2.1, s.2.2, Option.toList, List.cons_append, List.nil_append, mem44, true_and, and_true, Int32.reduceOfNat, forall_const, true_implies, implies_true, false_implies, not_true_eq_false, not_false_eq_true, e1, e2, e3, e4, e5, e6, e7, x1, x2, x3, x4, x5, x6, x7, c1, c2, c3, c4, c5, c6, c7]
  refine (Cl.sc (op_hits i _ _) i).mono ?_
  rintro r h1 ⟨⟨v, rfl, w⟩, s1⟩
  simp only [b_law_458, b_law_470, b_law_482, b_law_483, s1.1, s1.2.1, s1.2.2, Option.toList, List.cons_append, List.nil_append, mem44, true_and, and_true, Int32.reduceOfNat, forall_const, true_implies, implies_true, false_implies, not_true_eq_false, not_false_eq_true, e1, e2, e3, e4, e5, e6, e7, x1, x2, x3, x4, x5, x6, x7, c1, c2, c3, c4, c5, c6, c7]
  refine w.mono ?_
  rintro r h2 ⟨rfl, i2⟩
  simp only [b_law_458, b_law_470, b_law_482, b_law_483, lg_same, Option.toList, List.cons_append, List.nil_append, mem44, true_and, and_true, Int32.reduceOfNat, forall_const, true_implies, implies_true, false_implies, not_true_eq_false, not_false_eq_true, e1, e2, e3, e4, e5, e6, e7, x1, x2, x3, x4, x5, x6, x7, c1, c2, c3, c4, c5, c6, c7]
  exact go h2 _ _ i2
theorem l_rates (hL : L ≤ 4096) (hc : 8 * c + 8 ≤ L) (i : Inv L xs c h) (go : GO L xs c Q) : Wp 100 P_law 485 [.ref 1, .ref 100, .ref 342, .ref 377, .int (nI (8 * c)), v5, v6, .null] [] h Q := by
  have e1 : nI (8 * c) + 1 = nI (8 * c + 1) := nadd _ 1
  have e2 : nI (8 * c) + 2 = nI (8 * c + 2) := nadd _ 2
  have e3 : nI (8 * c) + 3 = nI (8 * c + 3) := nadd _ 3
  have e4 : nI (8 * c) + 4 = nI (8 * c + 4) := nadd _ 4
  have e5 : nI (8 * c) + 5 = nI (8 * c + 5) := nadd _ 5
  have e6 : nI (8 * c) + 6 = nI (8 * c + 6) := nadd _ 6
  have e7 : nI (8 * c) + 7 = nI (8 * c + 7) := nadd _ 7
  have x1 : ixo (nI (8 * c + 1)) L = true := nix (by omega) (by omega)
  have x2 : ixo (nI (8 * c + 2)) L = true := nix (by omega) (by omega)
  have x3 : ixo (nI (8 * c + 3)) L = true := nix (by omega) (by omega)
  have x4 : ixo (nI (8 * c + 4)) L = true := nix (by omega) (by omega)
  have x5 : ixo (nI (8 * c + 5)) L = true := nix (by omega) (by omega)
  have x6 : ixo (nI (8 * c + 6)) L = true := nix (by omega) (by omega)
  have x7 : ixo (nI (8 * c + 7)) L = true := nix (by omega) (by omega)
  have c1 := cN (n := 8 * c + 1) (by omega)
  have c2 := cN (n := 8 * c + 2) (by omega)
  have c3 := cN (n := 8 * c + 3) (by omega)
  have c4 := cN (n := 8 * c + 4) (by omega)
  have c5 := cN (n := 8 * c + 5) (by omega)
  have c6 := cN (n := 8 * c + 6) (by omega)
  have c7 := cN (n := 8 * c + 7) (by omega)
  have s := i.sc
  simp only [b_law_485, b_law_512, b_law_539, b_law_540, s.1, s.2.1, s.2.2, Option.toList, List.cons_append, List.nil_append, mem44, true_and, and_true, Int32.reduceOfNat, forall_const, true_implies, implies_true, false_implies, not_true_eq_false, not_false_eq_true, e1, e2, e3, e4, e5, e6, e7, x1, x2, x3, x4, x5, x6, x7, c1, c2, c3, c4, c5, c6, c7]
  refine (Cl.sc (op_rates i _ _ _ _ _) i).mono ?_
  rintro r h1 ⟨⟨v, rfl, w⟩, s1⟩
  simp only [b_law_485, b_law_512, b_law_539, b_law_540, s1.1, s1.2.1, s1.2.2, Option.toList, List.cons_append, List.nil_append, mem44, true_and, and_true, Int32.reduceOfNat, forall_const, true_implies, implies_true, false_implies, not_true_eq_false, not_false_eq_true, e1, e2, e3, e4, e5, e6, e7, x1, x2, x3, x4, x5, x6, x7, c1, c2, c3, c4, c5, c6, c7]
  refine w.mono ?_
  rintro r h2 ⟨rfl, i2⟩
  simp only [b_law_485, b_law_512, b_law_539, b_law_540, lg_same, Option.toList, List.cons_append, List.nil_append, mem44, true_and, and_true, Int32.reduceOfNat, forall_const, true_implies, implies_true, false_implies, not_true_eq_false, not_false_eq_true, e1, e2, e3, e4, e5, e6, e7, x1, x2, x3, x4, x5, x6, x7, c1, c2, c3, c4, c5, c6, c7]
  exact go h2 _ _ i2
theorem l_tricked (hL : L ≤ 4096) (hc : 8 * c + 8 ≤ L) (i : Inv L xs c h) (go : GO L xs c Q) : Wp 100 P_law 542 [.ref 1, .ref 100, .ref 342, .ref 377, .int (nI (8 * c)), v5, v6, .null] [] h Q := by
  have e1 : nI (8 * c) + 1 = nI (8 * c + 1) := nadd _ 1
  have e2 : nI (8 * c) + 2 = nI (8 * c + 2) := nadd _ 2
  have e3 : nI (8 * c) + 3 = nI (8 * c + 3) := nadd _ 3
  have e4 : nI (8 * c) + 4 = nI (8 * c + 4) := nadd _ 4
  have e5 : nI (8 * c) + 5 = nI (8 * c + 5) := nadd _ 5
  have e6 : nI (8 * c) + 6 = nI (8 * c + 6) := nadd _ 6
  have e7 : nI (8 * c) + 7 = nI (8 * c + 7) := nadd _ 7
  have x1 : ixo (nI (8 * c + 1)) L = true := nix (by omega) (by omega)
  have x2 : ixo (nI (8 * c + 2)) L = true := nix (by omega) (by omega)
  have x3 : ixo (nI (8 * c + 3)) L = true := nix (by omega) (by omega)
  have x4 : ixo (nI (8 * c + 4)) L = true := nix (by omega) (by omega)
  have x5 : ixo (nI (8 * c + 5)) L = true := nix (by omega) (by omega)
  have x6 : ixo (nI (8 * c + 6)) L = true := nix (by omega) (by omega)
  have x7 : ixo (nI (8 * c + 7)) L = true := nix (by omega) (by omega)
  have c1 := cN (n := 8 * c + 1) (by omega)
  have c2 := cN (n := 8 * c + 2) (by omega)
  have c3 := cN (n := 8 * c + 3) (by omega)
  have c4 := cN (n := 8 * c + 4) (by omega)
  have c5 := cN (n := 8 * c + 5) (by omega)
  have c6 := cN (n := 8 * c + 6) (by omega)
  have c7 := cN (n := 8 * c + 7) (by omega)
  have s := i.sc
  simp only [b_law_542, b_law_564, b_law_586, b_law_587, s.1, s.2.1, s.2.2, Option.toList, List.cons_append, List.nil_append, mem44, true_and, and_true, Int32.reduceOfNat, forall_const, true_implies, implies_true, false_implies, not_true_eq_false, not_false_eq_true, e1, e2, e3, e4, e5, e6, e7, x1, x2, x3, x4, x5, x6, x7, c1, c2, c3, c4, c5, c6, c7]
  refine (Cl.sc (op_tricked i _ _ _ _) i).mono ?_
  rintro r h1 ⟨⟨v, rfl, w⟩, s1⟩
  simp only [b_law_542, b_law_564, b_law_586, b_law_587, s1.1, s1.2.1, s1.2.2, Option.toList, List.cons_append, List.nil_append, mem44, true_and, and_true, Int32.reduceOfNat, forall_const, true_implies, implies_true, false_implies, not_true_eq_false, not_false_eq_true, e1, e2, e3, e4, e5, e6, e7, x1, x2, x3, x4, x5, x6, x7, c1, c2, c3, c4, c5, c6, c7]
  refine w.mono ?_
  rintro r h2 ⟨rfl, i2⟩
  simp only [b_law_542, b_law_564, b_law_586, b_law_587, lg_same, Option.toList, List.cons_append, List.nil_append, mem44, true_and, and_true, Int32.reduceOfNat, forall_const, true_implies, implies_true, false_implies, not_true_eq_false, not_false_eq_true, e1, e2, e3, e4, e5, e6, e7, x1, x2, x3, x4, x5, x6, x7, c1, c2, c3, c4, c5, c6, c7]
  exact go h2 _ _ i2
theorem l_apart (hL : L ≤ 4096) (hc : 8 * c + 8 ≤ L) (i : Inv L xs c h) (go : GO L xs c Q) : Wp 100 P_law 589 [.ref 1, .ref 100, .ref 342, .ref 377, .int (nI (8 * c)), v5, v6, .null] [] h Q := by
  have e1 : nI (8 * c) + 1 = nI (8 * c + 1) := nadd _ 1
  have e2 : nI (8 * c) + 2 = nI (8 * c + 2) := nadd _ 2
  have e3 : nI (8 * c) + 3 = nI (8 * c + 3) := nadd _ 3
  have e4 : nI (8 * c) + 4 = nI (8 * c + 4) := nadd _ 4
  have e5 : nI (8 * c) + 5 = nI (8 * c + 5) := nadd _ 5
  have e6 : nI (8 * c) + 6 = nI (8 * c + 6) := nadd _ 6
  have e7 : nI (8 * c) + 7 = nI (8 * c + 7) := nadd _ 7
  have x1 : ixo (nI (8 * c + 1)) L = true := nix (by omega) (by omega)
  have x2 : ixo (nI (8 * c + 2)) L = true := nix (by omega) (by omega)
  have x3 : ixo (nI (8 * c + 3)) L = true := nix (by omega) (by omega)
  have x4 : ixo (nI (8 * c + 4)) L = true := nix (by omega) (by omega)
  have x5 : ixo (nI (8 * c + 5)) L = true := nix (by omega) (by omega)
  have x6 : ixo (nI (8 * c + 6)) L = true := nix (by omega) (by omega)
  have x7 : ixo (nI (8 * c + 7)) L = true := nix (by omega) (by omega)
  have c1 := cN (n := 8 * c + 1) (by omega)
  have c2 := cN (n := 8 * c + 2) (by omega)
  have c3 := cN (n := 8 * c + 3) (by omega)
  have c4 := cN (n := 8 * c + 4) (by omega)
  have c5 := cN (n := 8 * c + 5) (by omega)
  have c6 := cN (n := 8 * c + 6) (by omega)
  have c7 := cN (n := 8 * c + 7) (by omega)
  have s := i.sc
  simp only [b_law_589, b_law_606, b_law_623, b_law_624, s.1, s.2.1, s.2.2, Option.toList, List.cons_append, List.nil_append, mem44, true_and, and_true, Int32.reduceOfNat, forall_const, true_implies, implies_true, false_implies, not_true_eq_false, not_false_eq_true, e1, e2, e3, e4, e5, e6, e7, x1, x2, x3, x4, x5, x6, x7, c1, c2, c3, c4, c5, c6, c7]
  refine (Cl.sc (op_apart i _ _ _) i).mono ?_
  rintro r h1 ⟨⟨v, rfl, w⟩, s1⟩
  simp only [b_law_589, b_law_606, b_law_623, b_law_624, s1.1, s1.2.1, s1.2.2, Option.toList, List.cons_append, List.nil_append, mem44, true_and, and_true, Int32.reduceOfNat, forall_const, true_implies, implies_true, false_implies, not_true_eq_false, not_false_eq_true, e1, e2, e3, e4, e5, e6, e7, x1, x2, x3, x4, x5, x6, x7, c1, c2, c3, c4, c5, c6, c7]
  refine w.mono ?_
  rintro r h2 ⟨rfl, i2⟩
  simp only [b_law_589, b_law_606, b_law_623, b_law_624, lg_same, Option.toList, List.cons_append, List.nil_append, mem44, true_and, and_true, Int32.reduceOfNat, forall_const, true_implies, implies_true, false_implies, not_true_eq_false, not_false_eq_true, e1, e2, e3, e4, e5, e6, e7, x1, x2, x3, x4, x5, x6, x7, c1, c2, c3, c4, c5, c6, c7]
  exact go h2 _ _ i2
theorem l_same (hL : L ≤ 4096) (hc : 8 * c + 8 ≤ L) (i : Inv L xs c h) (go : GO L xs c Q) : Wp 100 P_law 626 [.ref 1, .ref 100, .ref 342, .ref 377, .int (nI (8 * c)), v5, v6, .null] [] h Q := by
  have e1 : nI (8 * c) + 1 = nI (8 * c + 1) := nadd _ 1
  have e2 : nI (8 * c) + 2 = nI (8 * c + 2) := nadd _ 2
  have e3 : nI (8 * c) + 3 = nI (8 * c + 3) := nadd _ 3
  have e4 : nI (8 * c) + 4 = nI (8 * c + 4) := nadd _ 4
  have e5 : nI (8 * c) + 5 = nI (8 * c + 5) := nadd _ 5
  have e6 : nI (8 * c) + 6 = nI (8 * c + 6) := nadd _ 6
  have e7 : nI (8 * c) + 7 = nI (8 * c + 7) := nadd _ 7
  have x1 : ixo (nI (8 * c + 1)) L = true := nix (by omega) (by omega)
  have x2 : ixo (nI (8 * c + 2)) L = true := nix (by omega) (by omega)
  have x3 : ixo (nI (8 * c + 3)) L = true := nix (by omega) (by omega)
  have x4 : ixo (nI (8 * c + 4)) L = true := nix (by omega) (by omega)
  have x5 : ixo (nI (8 * c + 5)) L = true := nix (by omega) (by omega)
  have x6 : ixo (nI (8 * c + 6)) L = true := nix (by omega) (by omega)
  have x7 : ixo (nI (8 * c + 7)) L = true := nix (by omega) (by omega)
  have c1 := cN (n := 8 * c + 1) (by omega)
  have c2 := cN (n := 8 * c + 2) (by omega)
  have c3 := cN (n := 8 * c + 3) (by omega)
  have c4 := cN (n := 8 * c + 4) (by omega)
  have c5 := cN (n := 8 * c + 5) (by omega)
  have c6 := cN (n := 8 * c + 6) (by omega)
  have c7 := cN (n := 8 * c + 7) (by omega)
  have s := i.sc
  simp only [b_law_626, b_law_638, b_law_650, b_law_651, s.1, s.2.1, s.2.2, Option.toList, List.cons_append, List.nil_append, mem44, true_and, and_true, Int32.reduceOfNat, forall_const, true_implies, implies_true, false_implies, not_true_eq_false, not_false_eq_true, e1, e2, e3, e4, e5, e6, e7, x1, x2, x3, x4, x5, x6, x7, c1, c2, c3, c4, c5, c6, c7]
  refine (Cl.sc (op_same i _ _) i).mono ?_
  rintro r h1 ⟨⟨v, rfl, w⟩, s1⟩
  simp only [b_law_626, b_law_638, b_law_650, b_law_651, s1.1, s1.2.1, s1.2.2, Option.toList, List.cons_append, List.nil_append, mem44, true_and, and_true, Int32.reduceOfNat, forall_const, true_implies, implies_true, false_implies, not_true_eq_false, not_false_eq_true, e1, e2, e3, e4, e5, e6, e7, x1, x2, x3, x4, x5, x6, x7, c1, c2, c3, c4, c5, c6, c7]
  refine w.mono ?_
  rintro r h2 ⟨rfl, i2⟩
  simp only [b_law_626, b_law_638, b_law_650, b_law_651, lg_same, Option.toList, List.cons_append, List.nil_append, mem44, true_and, and_true, Int32.reduceOfNat, forall_const, true_implies, implies_true, false_implies, not_true_eq_false, not_false_eq_true, e1, e2, e3, e4, e5, e6, e7, x1, x2, x3, x4, x5, x6, x7, c1, c2, c3, c4, c5, c6, c7]
  exact go h2 _ _ i2
theorem l_best (hL : L ≤ 4096) (hc : 8 * c + 8 ≤ L) (i : Inv L xs c h) (go : GO L xs c Q) : Wp 100 P_law 653 [.ref 1, .ref 100, .ref 342, .ref 377, .int (nI (8 * c)), v5, v6, .null] [] h Q := by
  have e1 : nI (8 * c) + 1 = nI (8 * c + 1) := nadd _ 1
  have e2 : nI (8 * c) + 2 = nI (8 * c + 2) := nadd _ 2
  have e3 : nI (8 * c) + 3 = nI (8 * c + 3) := nadd _ 3
  have e4 : nI (8 * c) + 4 = nI (8 * c + 4) := nadd _ 4
  have e5 : nI (8 * c) + 5 = nI (8 * c + 5) := nadd _ 5
  have e6 : nI (8 * c) + 6 = nI (8 * c + 6) := nadd _ 6
  have e7 : nI (8 * c) + 7 = nI (8 * c + 7) := nadd _ 7
  have x1 : ixo (nI (8 * c + 1)) L = true := nix (by omega) (by omega)
  have x2 : ixo (nI (8 * c + 2)) L = true := nix (by omega) (by omega)
  have x3 : ixo (nI (8 * c + 3)) L = true := nix (by omega) (by omega)
  have x4 : ixo (nI (8 * c + 4)) L = true := nix (by omega) (by omega)
  have x5 : ixo (nI (8 * c + 5)) L = true := nix (by omega) (by omega)
  have x6 : ixo (nI (8 * c + 6)) L = true := nix (by omega) (by omega)
  have x7 : ixo (nI (8 * c + 7)) L = true := nix (by omega) (by omega)
  have c1 := cN (n := 8 * c + 1) (by omega)
  have c2 := cN (n := 8 * c + 2) (by omega)
  have c3 := cN (n := 8 * c + 3) (by omega)
  have c4 := cN (n := 8 * c + 4) (by omega)
  have c5 := cN (n := 8 * c + 5) (by omega)
  have c6 := cN (n := 8 * c + 6) (by omega)
  have c7 := cN (n := 8 * c + 7) (by omega)
  have s := i.sc
  simp only [b_law_653, b_law_675, b_law_697, b_law_698, s.1, s.2.1, s.2.2, Option.toList, List.cons_append, List.nil_append, mem44, true_and, and_true, Int32.reduceOfNat, forall_const, true_implies, implies_true, false_implies, not_true_eq_false, not_false_eq_true, e1, e2, e3, e4, e5, e6, e7, x1, x2, x3, x4, x5, x6, x7, c1, c2, c3, c4, c5, c6, c7]
  refine (Cl.sc (op_best i _ _ _ _) i).mono ?_
  rintro r h1 ⟨⟨v, rfl, w⟩, s1⟩
  simp only [b_law_653, b_law_675, b_law_697, b_law_698, s1.1, s1.2.1, s1.2.2, Option.toList, List.cons_append, List.nil_append, mem44, true_and, and_true, Int32.reduceOfNat, forall_const, true_implies, implies_true, false_implies, not_true_eq_false, not_false_eq_true, e1, e2, e3, e4, e5, e6, e7, x1, x2, x3, x4, x5, x6, x7, c1, c2, c3, c4, c5, c6, c7]
  refine w.mono ?_
  rintro r h2 ⟨rfl, i2⟩
  simp only [b_law_653, b_law_675, b_law_697, b_law_698, lg_same, Option.toList, List.cons_append, List.nil_append, mem44, true_and, and_true, Int32.reduceOfNat, forall_const, true_implies, implies_true, false_implies, not_true_eq_false, not_false_eq_true, e1, e2, e3, e4, e5, e6, e7, x1, x2, x3, x4, x5, x6, x7, c1, c2, c3, c4, c5, c6, c7]
  exact go h2 _ _ i2
theorem l_odds (hL : L ≤ 4096) (hc : 8 * c + 8 ≤ L) (i : Inv L xs c h) (go : GO L xs c Q) : Wp 100 P_law 700 [.ref 1, .ref 100, .ref 342, .ref 377, .int (nI (8 * c)), v5, v6, .null] [] h Q := by
  have e1 : nI (8 * c) + 1 = nI (8 * c + 1) := nadd _ 1
  have e2 : nI (8 * c) + 2 = nI (8 * c + 2) := nadd _ 2
  have e3 : nI (8 * c) + 3 = nI (8 * c + 3) := nadd _ 3
  have e4 : nI (8 * c) + 4 = nI (8 * c + 4) := nadd _ 4
  have e5 : nI (8 * c) + 5 = nI (8 * c + 5) := nadd _ 5
  have e6 : nI (8 * c) + 6 = nI (8 * c + 6) := nadd _ 6
  have e7 : nI (8 * c) + 7 = nI (8 * c + 7) := nadd _ 7
  have x1 : ixo (nI (8 * c + 1)) L = true := nix (by omega) (by omega)
  have x2 : ixo (nI (8 * c + 2)) L = true := nix (by omega) (by omega)
  have x3 : ixo (nI (8 * c + 3)) L = true := nix (by omega) (by omega)
  have x4 : ixo (nI (8 * c + 4)) L = true := nix (by omega) (by omega)
  have x5 : ixo (nI (8 * c + 5)) L = true := nix (by omega) (by omega)
  have x6 : ixo (nI (8 * c + 6)) L = true := nix (by omega) (by omega)
  have x7 : ixo (nI (8 * c + 7)) L = true := nix (by omega) (by omega)
  have c1 := cN (n := 8 * c + 1) (by omega)
  have c2 := cN (n := 8 * c + 2) (by omega)
  have c3 := cN (n := 8 * c + 3) (by omega)
  have c4 := cN (n := 8 * c + 4) (by omega)
  have c5 := cN (n := 8 * c + 5) (by omega)
  have c6 := cN (n := 8 * c + 6) (by omega)
  have c7 := cN (n := 8 * c + 7) (by omega)
  have s := i.sc
  simp only [b_law_700, b_law_722, b_law_744, b_law_746, s.1, s.2.1, s.2.2, Option.toList, List.cons_append, List.nil_append, mem44, true_and, and_true, Int32.reduceOfNat, forall_const, true_implies, implies_true, false_implies, not_true_eq_false, not_false_eq_true, e1, e2, e3, e4, e5, e6, e7, x1, x2, x3, x4, x5, x6, x7, c1, c2, c3, c4, c5, c6, c7]
  refine (Cl.sc (op_odds i _ _ _ _) i).mono ?_
  rintro r h1 ⟨⟨v, rfl, w⟩, s1⟩
  simp only [b_law_700, b_law_722, b_law_744, b_law_746, s1.1, s1.2.1, s1.2.2, Option.toList, List.cons_append, List.nil_append, mem44, true_and, and_true, Int32.reduceOfNat, forall_const, true_implies, implies_true, false_implies, not_true_eq_false, not_false_eq_true, e1, e2, e3, e4, e5, e6, e7, x1, x2, x3, x4, x5, x6, x7, c1, c2, c3, c4, c5, c6, c7]
  refine w.mono ?_
  rintro r h2 ⟨rfl, i2⟩
  simp only [b_law_700, b_law_722, b_law_744, b_law_746, lg_same, Option.toList, List.cons_append, List.nil_append, mem44, true_and, and_true, Int32.reduceOfNat, forall_const, true_implies, implies_true, false_implies, not_true_eq_false, not_false_eq_true, e1, e2, e3, e4, e5, e6, e7, x1, x2, x3, x4, x5, x6, x7, c1, c2, c3, c4, c5, c6, c7]
  exact go h2 _ _ i2
theorem l_items (hL : L ≤ 4096) (hc : 8 * c + 8 ≤ L) (i : Inv L xs c h) (go : GO L xs c Q) : Wp 100 P_law 748 [.ref 1, .ref 100, .ref 342, .ref 377, .int (nI (8 * c)), v5, v6, .null] [] h Q := by
  have e1 : nI (8 * c) + 1 = nI (8 * c + 1) := nadd _ 1
  have e2 : nI (8 * c) + 2 = nI (8 * c + 2) := nadd _ 2
  have e3 : nI (8 * c) + 3 = nI (8 * c + 3) := nadd _ 3
  have e4 : nI (8 * c) + 4 = nI (8 * c + 4) := nadd _ 4
  have e5 : nI (8 * c) + 5 = nI (8 * c + 5) := nadd _ 5
  have e6 : nI (8 * c) + 6 = nI (8 * c + 6) := nadd _ 6
  have e7 : nI (8 * c) + 7 = nI (8 * c + 7) := nadd _ 7
  have x1 : ixo (nI (8 * c + 1)) L = true := nix (by omega) (by omega)
  have x2 : ixo (nI (8 * c + 2)) L = true := nix (by omega) (by omega)
  have x3 : ixo (nI (8 * c + 3)) L = true := nix (by omega) (by omega)
  have x4 : ixo (nI (8 * c + 4)) L = true := nix (by omega) (by omega)
  have x5 : ixo (nI (8 * c + 5)) L = true := nix (by omega) (by omega)
  have x6 : ixo (nI (8 * c + 6)) L = true := nix (by omega) (by omega)
  have x7 : ixo (nI (8 * c + 7)) L = true := nix (by omega) (by omega)
  have c1 := cN (n := 8 * c + 1) (by omega)
  have c2 := cN (n := 8 * c + 2) (by omega)
  have c3 := cN (n := 8 * c + 3) (by omega)
  have c4 := cN (n := 8 * c + 4) (by omega)
  have c5 := cN (n := 8 * c + 5) (by omega)
  have c6 := cN (n := 8 * c + 6) (by omega)
  have c7 := cN (n := 8 * c + 7) (by omega)
  have s := i.sc
  simp only [b_law_748, b_law_760, b_law_772, b_law_773, s.1, s.2.1, s.2.2, Option.toList, List.cons_append, List.nil_append, mem44, true_and, and_true, Int32.reduceOfNat, forall_const, true_implies, implies_true, false_implies, not_true_eq_false, not_false_eq_true, e1, e2, e3, e4, e5, e6, e7, x1, x2, x3, x4, x5, x6, x7, c1, c2, c3, c4, c5, c6, c7]
  refine (Cl.sc (op_items i _ _) i).mono ?_
  rintro r h1 ⟨⟨v, rfl, w⟩, s1⟩
  simp only [b_law_748, b_law_760, b_law_772, b_law_773, s1.1, s1.2.1, s1.2.2, Option.toList, List.cons_append, List.nil_append, mem44, true_and, and_true, Int32.reduceOfNat, forall_const, true_implies, implies_true, false_implies, not_true_eq_false, not_false_eq_true, e1, e2, e3, e4, e5, e6, e7, x1, x2, x3, x4, x5, x6, x7, c1, c2, c3, c4, c5, c6, c7]
  refine w.mono ?_
  rintro r h2 ⟨rfl, i2⟩
  simp only [b_law_748, b_law_760, b_law_772, b_law_773, lg_same, Option.toList, List.cons_append, List.nil_append, mem44, true_and, and_true, Int32.reduceOfNat, forall_const, true_implies, implies_true, false_implies, not_true_eq_false, not_false_eq_true, e1, e2, e3, e4, e5, e6, e7, x1, x2, x3, x4, x5, x6, x7, c1, c2, c3, c4, c5, c6, c7]
  exact go h2 _ _ i2
theorem l_named (hL : L ≤ 4096) (hc : 8 * c + 8 ≤ L) (i : Inv L xs c h) (go : GO L xs c Q) : Wp 100 P_law 775 [.ref 1, .ref 100, .ref 342, .ref 377, .int (nI (8 * c)), v5, v6, .null] [] h Q := by
  have e1 : nI (8 * c) + 1 = nI (8 * c + 1) := nadd _ 1
  have e2 : nI (8 * c) + 2 = nI (8 * c + 2) := nadd _ 2
  have e3 : nI (8 * c) + 3 = nI (8 * c + 3) := nadd _ 3
  have e4 : nI (8 * c) + 4 = nI (8 * c + 4) := nadd _ 4
  have e5 : nI (8 * c) + 5 = nI (8 * c + 5) := nadd _ 5
  have e6 : nI (8 * c) + 6 = nI (8 * c + 6) := nadd _ 6
  have e7 : nI (8 * c) + 7 = nI (8 * c + 7) := nadd _ 7
  have x1 : ixo (nI (8 * c + 1)) L = true := nix (by omega) (by omega)
  have x2 : ixo (nI (8 * c + 2)) L = true := nix (by omega) (by omega)
  have x3 : ixo (nI (8 * c + 3)) L = true := nix (by omega) (by omega)
  have x4 : ixo (nI (8 * c + 4)) L = true := nix (by omega) (by omega)
  have x5 : ixo (nI (8 * c + 5)) L = true := nix (by omega) (by omega)
  have x6 : ixo (nI (8 * c + 6)) L = true := nix (by omega) (by omega)
  have x7 : ixo (nI (8 * c + 7)) L = true := nix (by omega) (by omega)
  have c1 := cN (n := 8 * c + 1) (by omega)
  have c2 := cN (n := 8 * c + 2) (by omega)
  have c3 := cN (n := 8 * c + 3) (by omega)
  have c4 := cN (n := 8 * c + 4) (by omega)
  have c5 := cN (n := 8 * c + 5) (by omega)
  have c6 := cN (n := 8 * c + 6) (by omega)
  have c7 := cN (n := 8 * c + 7) (by omega)
  have s := i.sc
  simp only [b_law_775, b_law_812, b_law_849, b_law_851, s.1, s.2.1, s.2.2, Option.toList, List.cons_append, List.nil_append, mem44, true_and, and_true, Int32.reduceOfNat, forall_const, true_implies, implies_true, false_implies, not_true_eq_false, not_false_eq_true, e1, e2, e3, e4, e5, e6, e7, x1, x2, x3, x4, x5, x6, x7, c1, c2, c3, c4, c5, c6, c7]
  refine (Cl.sc (op_named i _ _ _ _ _ _ _) i).mono ?_
  rintro r h1 ⟨⟨v, rfl, w⟩, s1⟩
  simp only [b_law_775, b_law_812, b_law_849, b_law_851, s1.1, s1.2.1, s1.2.2, Option.toList, List.cons_append, List.nil_append, mem44, true_and, and_true, Int32.reduceOfNat, forall_const, true_implies, implies_true, false_implies, not_true_eq_false, not_false_eq_true, e1, e2, e3, e4, e5, e6, e7, x1, x2, x3, x4, x5, x6, x7, c1, c2, c3, c4, c5, c6, c7]
  refine w.mono ?_
  rintro r h2 ⟨rfl, i2⟩
  simp only [b_law_775, b_law_812, b_law_849, b_law_851, lg_same, Option.toList, List.cons_append, List.nil_append, mem44, true_and, and_true, Int32.reduceOfNat, forall_const, true_implies, implies_true, false_implies, not_true_eq_false, not_false_eq_true, e1, e2, e3, e4, e5, e6, e7, x1, x2, x3, x4, x5, x6, x7, c1, c2, c3, c4, c5, c6, c7]
  exact go h2 _ _ i2
theorem l_confess (hL : L ≤ 4096) (hc : 8 * c + 8 ≤ L) (i : Inv L xs c h) (go : GO L xs c Q) : Wp 100 P_law 853 [.ref 1, .ref 100, .ref 342, .ref 377, .int (nI (8 * c)), v5, v6, .null] [] h Q := by
  have e1 : nI (8 * c) + 1 = nI (8 * c + 1) := nadd _ 1
  have e2 : nI (8 * c) + 2 = nI (8 * c + 2) := nadd _ 2
  have e3 : nI (8 * c) + 3 = nI (8 * c + 3) := nadd _ 3
  have e4 : nI (8 * c) + 4 = nI (8 * c + 4) := nadd _ 4
  have e5 : nI (8 * c) + 5 = nI (8 * c + 5) := nadd _ 5
  have e6 : nI (8 * c) + 6 = nI (8 * c + 6) := nadd _ 6
  have e7 : nI (8 * c) + 7 = nI (8 * c + 7) := nadd _ 7
  have x1 : ixo (nI (8 * c + 1)) L = true := nix (by omega) (by omega)
  have x2 : ixo (nI (8 * c + 2)) L = true := nix (by omega) (by omega)
  have x3 : ixo (nI (8 * c + 3)) L = true := nix (by omega) (by omega)
  have x4 : ixo (nI (8 * c + 4)) L = true := nix (by omega) (by omega)
  have x5 : ixo (nI (8 * c + 5)) L = true := nix (by omega) (by omega)
  have x6 : ixo (nI (8 * c + 6)) L = true := nix (by omega) (by omega)
  have x7 : ixo (nI (8 * c + 7)) L = true := nix (by omega) (by omega)
  have c1 := cN (n := 8 * c + 1) (by omega)
  have c2 := cN (n := 8 * c + 2) (by omega)
  have c3 := cN (n := 8 * c + 3) (by omega)
  have c4 := cN (n := 8 * c + 4) (by omega)
  have c5 := cN (n := 8 * c + 5) (by omega)
  have c6 := cN (n := 8 * c + 6) (by omega)
  have c7 := cN (n := 8 * c + 7) (by omega)
  have s := i.sc
  by_cases q1 : I0 xs 1 (8 * c + 1) = 0 <;> by_cases q2 : I0 xs 1 (8 * c + 2) = 0 <;> by_cases q3 : I0 xs 1 (8 * c + 3) = 0
  all_goals
    simp only [q1, q2, q3, b_law_853, b_law_860, b_law_862, b_law_863, b_law_869, b_law_871, b_law_872, b_law_878, b_law_880, b_law_881, b_law_887, b_law_894, b_law_896, b_law_897, b_law_903, b_law_905, b_law_906, b_law_912, b_law_914, b_law_915, b_law_921, b_law_922, s.1, s.2.1, s.2.2, Option.toList, List.cons_append, List.nil_append, mem44, true_and, and_true, Int32.reduceOfNat, forall_const, true_implies, implies_true, false_implies, not_true_eq_false, not_false_eq_true, e1, e2, e3, e4, e5, e6, e7, x1, x2, x3, x4, x5, x6, x7, c1, c2, c3, c4, c5, c6, c7]
    refine (Cl.sc (op_confess i _ _ _ _) i).mono ?_
    rintro r h1 ⟨⟨v, rfl, w⟩, s1⟩
    simp only [q1, q2, q3, b_law_853, b_law_860, b_law_862, b_law_863, b_law_869, b_law_871, b_law_872, b_law_878, b_law_880, b_law_881, b_law_887, b_law_894, b_law_896, b_law_897, b_law_903, b_law_905, b_law_906, b_law_912, b_law_914, b_law_915, b_law_921, b_law_922, s1.1, s1.2.1, s1.2.2, Option.toList, List.cons_append, List.nil_append, mem44, true_and, and_true, Int32.reduceOfNat, forall_const, true_implies, implies_true, false_implies, not_true_eq_false, not_false_eq_true, e1, e2, e3, e4, e5, e6, e7, x1, x2, x3, x4, x5, x6, x7, c1, c2, c3, c4, c5, c6, c7]
    refine w.mono ?_
    rintro r h2 ⟨rfl, i2⟩
    simp only [b_law_853, b_law_860, b_law_862, b_law_863, b_law_869, b_law_871, b_law_872, b_law_878, b_law_880, b_law_881, b_law_887, b_law_894, b_law_896, b_law_897, b_law_903, b_law_905, b_law_906, b_law_912, b_law_914, b_law_915, b_law_921, b_law_922, lg_same, Option.toList, List.cons_append, List.nil_append, mem44, true_and, and_true, Int32.reduceOfNat, forall_const, true_implies, implies_true, false_implies, not_true_eq_false, not_false_eq_true, e1, e2, e3, e4, e5, e6, e7, x1, x2, x3, x4, x5, x6, x7, c1, c2, c3, c4, c5, c6, c7]
    exact go h2 _ _ i2
theorem l_worth (hL : L ≤ 4096) (hc : 8 * c + 8 ≤ L) (i : Inv L xs c h) (go : GO L xs c Q) : Wp 100 P_law 924 [.ref 1, .ref 100, .ref 342, .ref 377, .int (nI (8 * c)), v5, v6, .null] [] h Q := by
  have e1 : nI (8 * c) + 1 = nI (8 * c + 1) := nadd _ 1
  have e2 : nI (8 * c) + 2 = nI (8 * c + 2) := nadd _ 2
  have e3 : nI (8 * c) + 3 = nI (8 * c + 3) := nadd _ 3
  have e4 : nI (8 * c) + 4 = nI (8 * c + 4) := nadd _ 4
  have e5 : nI (8 * c) + 5 = nI (8 * c + 5) := nadd _ 5
  have e6 : nI (8 * c) + 6 = nI (8 * c + 6) := nadd _ 6
  have e7 : nI (8 * c) + 7 = nI (8 * c + 7) := nadd _ 7
  have x1 : ixo (nI (8 * c + 1)) L = true := nix (by omega) (by omega)
  have x2 : ixo (nI (8 * c + 2)) L = true := nix (by omega) (by omega)
  have x3 : ixo (nI (8 * c + 3)) L = true := nix (by omega) (by omega)
  have x4 : ixo (nI (8 * c + 4)) L = true := nix (by omega) (by omega)
  have x5 : ixo (nI (8 * c + 5)) L = true := nix (by omega) (by omega)
  have x6 : ixo (nI (8 * c + 6)) L = true := nix (by omega) (by omega)
  have x7 : ixo (nI (8 * c + 7)) L = true := nix (by omega) (by omega)
  have c1 := cN (n := 8 * c + 1) (by omega)
  have c2 := cN (n := 8 * c + 2) (by omega)
  have c3 := cN (n := 8 * c + 3) (by omega)
  have c4 := cN (n := 8 * c + 4) (by omega)
  have c5 := cN (n := 8 * c + 5) (by omega)
  have c6 := cN (n := 8 * c + 6) (by omega)
  have c7 := cN (n := 8 * c + 7) (by omega)
  have s := i.sc
  simp only [b_law_924, b_law_937, b_law_950, b_law_953, b_law_955, b_law_957, b_law_959, b_law_965, b_law_967, s.1, s.2.1, s.2.2, Option.toList, List.cons_append, List.nil_append, mem44, true_and, and_true, Int32.reduceOfNat, forall_const, true_implies, implies_true, false_implies, not_true_eq_false, not_false_eq_true, e1, e2, e3, e4, e5, e6, e7, x1, x2, x3, x4, x5, x6, x7, c1, c2, c3, c4, c5, c6, c7]
  refine (Cl.sc (op_worth i (by omega) _ _) i).mono ?_
  rintro r h1 ⟨⟨t, rfl, w⟩, s1⟩
  simp only [b_law_924, b_law_937, b_law_950, b_law_953, b_law_955, b_law_957, b_law_959, b_law_965, b_law_967, s1.1, s1.2.1, s1.2.2, Option.toList, List.cons_append, List.nil_append, mem44, true_and, and_true, Int32.reduceOfNat, forall_const, true_implies, implies_true, false_implies, not_true_eq_false, not_false_eq_true, e1, e2, e3, e4, e5, e6, e7, x1, x2, x3, x4, x5, x6, x7, c1, c2, c3, c4, c5, c6, c7]
  refine w.mono ?_
  rintro r h2 ⟨v, rfl, wj, wt, i2⟩
  simp only [b_law_924, b_law_937, b_law_950, b_law_953, b_law_955, b_law_957, b_law_959, b_law_965, b_law_967, c_M_thrown h2 i2.2.2.1, wt, Option.toList, List.cons_append, List.nil_append, mem44, true_and, and_true, Int32.reduceOfNat, forall_const, true_implies, implies_true, false_implies, not_true_eq_false, not_false_eq_true, e1, e2, e3, e4, e5, e6, e7, x1, x2, x3, x4, x5, x6, x7, c1, c2, c3, c4, c5, c6, c7]
  refine ⟨fun _ => go h2 _ _ i2, fun qt => ?_⟩
  have qt := Classical.not_not.mp qt
  simp only [i2.2.2.2.1.1, i2.2.2.2.1.2, show ixo 0 1 = true by decide, tn0, wj qt, lg_same, mem44, true_and, and_true, Int32.reduceOfNat, forall_const, true_implies, implies_true, false_implies, not_true_eq_false, not_false_eq_true, e1, e2, e3, e4, e5, e6, e7, x1, x2, x3, x4, x5, x6, x7, c1, c2, c3, c4, c5, c6, c7]
  exact go h2 _ _ i2
theorem l_paper (hL : L ≤ 4096) (hc : 8 * c + 8 ≤ L) (i : Inv L xs c h) (go : GO L xs c Q) : Wp 100 P_law 968 [.ref 1, .ref 100, .ref 342, .ref 377, .int (nI (8 * c)), v5, v6, .null] [] h Q := by
  have e1 : nI (8 * c) + 1 = nI (8 * c + 1) := nadd _ 1
  have e2 : nI (8 * c) + 2 = nI (8 * c + 2) := nadd _ 2
  have e3 : nI (8 * c) + 3 = nI (8 * c + 3) := nadd _ 3
  have e4 : nI (8 * c) + 4 = nI (8 * c + 4) := nadd _ 4
  have e5 : nI (8 * c) + 5 = nI (8 * c + 5) := nadd _ 5
  have e6 : nI (8 * c) + 6 = nI (8 * c + 6) := nadd _ 6
  have e7 : nI (8 * c) + 7 = nI (8 * c + 7) := nadd _ 7
  have x1 : ixo (nI (8 * c + 1)) L = true := nix (by omega) (by omega)
  have x2 : ixo (nI (8 * c + 2)) L = true := nix (by omega) (by omega)
  have x3 : ixo (nI (8 * c + 3)) L = true := nix (by omega) (by omega)
  have x4 : ixo (nI (8 * c + 4)) L = true := nix (by omega) (by omega)
  have x5 : ixo (nI (8 * c + 5)) L = true := nix (by omega) (by omega)
  have x6 : ixo (nI (8 * c + 6)) L = true := nix (by omega) (by omega)
  have x7 : ixo (nI (8 * c + 7)) L = true := nix (by omega) (by omega)
  have c1 := cN (n := 8 * c + 1) (by omega)
  have c2 := cN (n := 8 * c + 2) (by omega)
  have c3 := cN (n := 8 * c + 3) (by omega)
  have c4 := cN (n := 8 * c + 4) (by omega)
  have c5 := cN (n := 8 * c + 5) (by omega)
  have c6 := cN (n := 8 * c + 6) (by omega)
  have c7 := cN (n := 8 * c + 7) (by omega)
  have s := i.sc
  by_cases q1 : I0 xs 1 (8 * c + 1) = 0
  all_goals
    simp only [q1, b_law_968, b_law_975, b_law_977, b_law_978, b_law_989, b_law_996, b_law_998, b_law_999, b_law_1010, b_law_1011, s.1, s.2.1, s.2.2, Option.toList, List.cons_append, List.nil_append, mem44, true_and, and_true, Int32.reduceOfNat, forall_const, true_implies, implies_true, false_implies, not_true_eq_false, not_false_eq_true, e1, e2, e3, e4, e5, e6, e7, x1, x2, x3, x4, x5, x6, x7, c1, c2, c3, c4, c5, c6, c7]
    refine (Cl.sc (op_paper i _ _ _) i).mono ?_
    rintro r h1 ⟨⟨v, rfl, w⟩, s1⟩
    simp only [q1, b_law_968, b_law_975, b_law_977, b_law_978, b_law_989, b_law_996, b_law_998, b_law_999, b_law_1010, b_law_1011, s1.1, s1.2.1, s1.2.2, Option.toList, List.cons_append, List.nil_append, mem44, true_and, and_true, Int32.reduceOfNat, forall_const, true_implies, implies_true, false_implies, not_true_eq_false, not_false_eq_true, e1, e2, e3, e4, e5, e6, e7, x1, x2, x3, x4, x5, x6, x7, c1, c2, c3, c4, c5, c6, c7]
    refine w.mono ?_
    rintro r h2 ⟨rfl, i2⟩
    simp only [b_law_968, b_law_975, b_law_977, b_law_978, b_law_989, b_law_996, b_law_998, b_law_999, b_law_1010, b_law_1011, lg_same, Option.toList, List.cons_append, List.nil_append, mem44, true_and, and_true, Int32.reduceOfNat, forall_const, true_implies, implies_true, false_implies, not_true_eq_false, not_false_eq_true, e1, e2, e3, e4, e5, e6, e7, x1, x2, x3, x4, x5, x6, x7, c1, c2, c3, c4, c5, c6, c7]
    exact go h2 _ _ i2
theorem l_lean (hL : L ≤ 4096) (hc : 8 * c + 8 ≤ L) (i : Inv L xs c h) (go : GO L xs c Q) : Wp 100 P_law 1013 [.ref 1, .ref 100, .ref 342, .ref 377, .int (nI (8 * c)), v5, v6, .null] [] h Q := by
  have e1 : nI (8 * c) + 1 = nI (8 * c + 1) := nadd _ 1
  have e2 : nI (8 * c) + 2 = nI (8 * c + 2) := nadd _ 2
  have e3 : nI (8 * c) + 3 = nI (8 * c + 3) := nadd _ 3
  have e4 : nI (8 * c) + 4 = nI (8 * c + 4) := nadd _ 4
  have e5 : nI (8 * c) + 5 = nI (8 * c + 5) := nadd _ 5
  have e6 : nI (8 * c) + 6 = nI (8 * c + 6) := nadd _ 6
  have e7 : nI (8 * c) + 7 = nI (8 * c + 7) := nadd _ 7
  have x1 : ixo (nI (8 * c + 1)) L = true := nix (by omega) (by omega)
  have x2 : ixo (nI (8 * c + 2)) L = true := nix (by omega) (by omega)
  have x3 : ixo (nI (8 * c + 3)) L = true := nix (by omega) (by omega)
  have x4 : ixo (nI (8 * c + 4)) L = true := nix (by omega) (by omega)
  have x5 : ixo (nI (8 * c + 5)) L = true := nix (by omega) (by omega)
  have x6 : ixo (nI (8 * c + 6)) L = true := nix (by omega) (by omega)
  have x7 : ixo (nI (8 * c + 7)) L = true := nix (by omega) (by omega)
  have c1 := cN (n := 8 * c + 1) (by omega)
  have c2 := cN (n := 8 * c + 2) (by omega)
  have c3 := cN (n := 8 * c + 3) (by omega)
  have c4 := cN (n := 8 * c + 4) (by omega)
  have c5 := cN (n := 8 * c + 5) (by omega)
  have c6 := cN (n := 8 * c + 6) (by omega)
  have c7 := cN (n := 8 * c + 7) (by omega)
  have s := i.sc
  simp only [b_law_1013, b_law_1021, b_law_1029, b_law_1032, b_law_1034, b_law_1036, b_law_1038, b_law_1044, b_law_1046, s.1, s.2.1, s.2.2, Option.toList, List.cons_append, List.nil_append, mem44, true_and, and_true, Int32.reduceOfNat, forall_const, true_implies, implies_true, false_implies, not_true_eq_false, not_false_eq_true, e1, e2, e3, e4, e5, e6, e7, x1, x2, x3, x4, x5, x6, x7, c1, c2, c3, c4, c5, c6, c7]
  refine (Cl.sc (op_lean i (by omega) _) i).mono ?_
  rintro r h1 ⟨⟨t, rfl, w⟩, s1⟩
  simp only [b_law_1013, b_law_1021, b_law_1029, b_law_1032, b_law_1034, b_law_1036, b_law_1038, b_law_1044, b_law_1046, s1.1, s1.2.1, s1.2.2, Option.toList, List.cons_append, List.nil_append, mem44, true_and, and_true, Int32.reduceOfNat, forall_const, true_implies, implies_true, false_implies, not_true_eq_false, not_false_eq_true, e1, e2, e3, e4, e5, e6, e7, x1, x2, x3, x4, x5, x6, x7, c1, c2, c3, c4, c5, c6, c7]
  refine w.mono ?_
  rintro r h2 ⟨v, rfl, wj, wt, i2⟩
  simp only [b_law_1013, b_law_1021, b_law_1029, b_law_1032, b_law_1034, b_law_1036, b_law_1038, b_law_1044, b_law_1046, c_M_thrown h2 i2.2.2.1, wt, Option.toList, List.cons_append, List.nil_append, mem44, true_and, and_true, Int32.reduceOfNat, forall_const, true_implies, implies_true, false_implies, not_true_eq_false, not_false_eq_true, e1, e2, e3, e4, e5, e6, e7, x1, x2, x3, x4, x5, x6, x7, c1, c2, c3, c4, c5, c6, c7]
  refine ⟨fun _ => go h2 _ _ i2, fun qt => ?_⟩
  have qt := Classical.not_not.mp qt
  simp only [i2.2.2.2.1.1, i2.2.2.2.1.2, show ixo 0 1 = true by decide, tn0, wj qt, lg_same, mem44, true_and, and_true, Int32.reduceOfNat, forall_const, true_implies, implies_true, false_implies, not_true_eq_false, not_false_eq_true, e1, e2, e3, e4, e5, e6, e7, x1, x2, x3, x4, x5, x6, x7, c1, c2, c3, c4, c5, c6, c7]
  exact go h2 _ _ i2
theorem l_mark (hL : L ≤ 4096) (hc : 8 * c + 8 ≤ L) (i : Inv L xs c h) (go : GO L xs c Q) : Wp 100 P_law 1047 [.ref 1, .ref 100, .ref 342, .ref 377, .int (nI (8 * c)), v5, v6, .null] [] h Q := by
  have e1 : nI (8 * c) + 1 = nI (8 * c + 1) := nadd _ 1
  have e2 : nI (8 * c) + 2 = nI (8 * c + 2) := nadd _ 2
  have e3 : nI (8 * c) + 3 = nI (8 * c + 3) := nadd _ 3
  have e4 : nI (8 * c) + 4 = nI (8 * c + 4) := nadd _ 4
  have e5 : nI (8 * c) + 5 = nI (8 * c + 5) := nadd _ 5
  have e6 : nI (8 * c) + 6 = nI (8 * c + 6) := nadd _ 6
  have e7 : nI (8 * c) + 7 = nI (8 * c + 7) := nadd _ 7
  have x1 : ixo (nI (8 * c + 1)) L = true := nix (by omega) (by omega)
  have x2 : ixo (nI (8 * c + 2)) L = true := nix (by omega) (by omega)
  have x3 : ixo (nI (8 * c + 3)) L = true := nix (by omega) (by omega)
  have x4 : ixo (nI (8 * c + 4)) L = true := nix (by omega) (by omega)
  have x5 : ixo (nI (8 * c + 5)) L = true := nix (by omega) (by omega)
  have x6 : ixo (nI (8 * c + 6)) L = true := nix (by omega) (by omega)
  have x7 : ixo (nI (8 * c + 7)) L = true := nix (by omega) (by omega)
  have c1 := cN (n := 8 * c + 1) (by omega)
  have c2 := cN (n := 8 * c + 2) (by omega)
  have c3 := cN (n := 8 * c + 3) (by omega)
  have c4 := cN (n := 8 * c + 4) (by omega)
  have c5 := cN (n := 8 * c + 5) (by omega)
  have c6 := cN (n := 8 * c + 6) (by omega)
  have c7 := cN (n := 8 * c + 7) (by omega)
  have s := i.sc
  by_cases q2 : I0 xs 1 (8 * c + 2) = 0
  all_goals
    simp only [q2, b_law_1047, b_law_1059, b_law_1061, b_law_1062, b_law_1063, b_law_1075, b_law_1077, b_law_1078, b_law_1079, b_law_1080, s.1, s.2.1, s.2.2, Option.toList, List.cons_append, List.nil_append, mem44, true_and, and_true, Int32.reduceOfNat, forall_const, true_implies, implies_true, false_implies, not_true_eq_false, not_false_eq_true, e1, e2, e3, e4, e5, e6, e7, x1, x2, x3, x4, x5, x6, x7, c1, c2, c3, c4, c5, c6, c7]
    refine (Cl.sc (op_mark i _ _) i).mono ?_
    rintro r h1 ⟨⟨v, rfl, w⟩, s1⟩
    simp only [q2, b_law_1047, b_law_1059, b_law_1061, b_law_1062, b_law_1063, b_law_1075, b_law_1077, b_law_1078, b_law_1079, b_law_1080, s1.1, s1.2.1, s1.2.2, Option.toList, List.cons_append, List.nil_append, mem44, true_and, and_true, Int32.reduceOfNat, forall_const, true_implies, implies_true, false_implies, not_true_eq_false, not_false_eq_true, e1, e2, e3, e4, e5, e6, e7, x1, x2, x3, x4, x5, x6, x7, c1, c2, c3, c4, c5, c6, c7]
    refine w.mono ?_
    rintro r h2 ⟨rfl, i2⟩
    simp only [b_law_1047, b_law_1059, b_law_1061, b_law_1062, b_law_1063, b_law_1075, b_law_1077, b_law_1078, b_law_1079, b_law_1080, lg_same, Option.toList, List.cons_append, List.nil_append, mem44, true_and, and_true, Int32.reduceOfNat, forall_const, true_implies, implies_true, false_implies, not_true_eq_false, not_false_eq_true, e1, e2, e3, e4, e5, e6, e7, x1, x2, x3, x4, x5, x6, x7, c1, c2, c3, c4, c5, c6, c7]
    exact go h2 _ _ i2
theorem l_count (hL : L ≤ 4096) (hc : 8 * c + 8 ≤ L) (i : Inv L xs c h) (go : GO L xs c Q) : Wp 100 P_law 1082 [.ref 1, .ref 100, .ref 342, .ref 377, .int (nI (8 * c)), v5, v6, .null] [] h Q := by
  have e1 : nI (8 * c) + 1 = nI (8 * c + 1) := nadd _ 1
  have e2 : nI (8 * c) + 2 = nI (8 * c + 2) := nadd _ 2
  have e3 : nI (8 * c) + 3 = nI (8 * c + 3) := nadd _ 3
  have e4 : nI (8 * c) + 4 = nI (8 * c + 4) := nadd _ 4
  have e5 : nI (8 * c) + 5 = nI (8 * c + 5) := nadd _ 5
  have e6 : nI (8 * c) + 6 = nI (8 * c + 6) := nadd _ 6
  have e7 : nI (8 * c) + 7 = nI (8 * c + 7) := nadd _ 7
  have x1 : ixo (nI (8 * c + 1)) L = true := nix (by omega) (by omega)
  have x2 : ixo (nI (8 * c + 2)) L = true := nix (by omega) (by omega)
  have x3 : ixo (nI (8 * c + 3)) L = true := nix (by omega) (by omega)
  have x4 : ixo (nI (8 * c + 4)) L = true := nix (by omega) (by omega)
  have x5 : ixo (nI (8 * c + 5)) L = true := nix (by omega) (by omega)
  have x6 : ixo (nI (8 * c + 6)) L = true := nix (by omega) (by omega)
  have x7 : ixo (nI (8 * c + 7)) L = true := nix (by omega) (by omega)
  have c1 := cN (n := 8 * c + 1) (by omega)
  have c2 := cN (n := 8 * c + 2) (by omega)
  have c3 := cN (n := 8 * c + 3) (by omega)
  have c4 := cN (n := 8 * c + 4) (by omega)
  have c5 := cN (n := 8 * c + 5) (by omega)
  have c6 := cN (n := 8 * c + 6) (by omega)
  have c7 := cN (n := 8 * c + 7) (by omega)
  have s := i.sc
  simp only [b_law_1082, b_law_1089, b_law_1096, b_law_1097, s.1, s.2.1, s.2.2, Option.toList, List.cons_append, List.nil_append, mem44, true_and, and_true, Int32.reduceOfNat, forall_const, true_implies, implies_true, false_implies, not_true_eq_false, not_false_eq_true, e1, e2, e3, e4, e5, e6, e7, x1, x2, x3, x4, x5, x6, x7, c1, c2, c3, c4, c5, c6, c7]
  refine (Cl.sc (op_count i _) i).mono ?_
  rintro r h1 ⟨⟨v, rfl, w⟩, s1⟩
  simp only [b_law_1082, b_law_1089, b_law_1096, b_law_1097, s1.1, s1.2.1, s1.2.2, Option.toList, List.cons_append, List.nil_append, mem44, true_and, and_true, Int32.reduceOfNat, forall_const, true_implies, implies_true, false_implies, not_true_eq_false, not_false_eq_true, e1, e2, e3, e4, e5, e6, e7, x1, x2, x3, x4, x5, x6, x7, c1, c2, c3, c4, c5, c6, c7]
  refine w.mono ?_
  rintro r h2 ⟨rfl, i2⟩
  simp only [b_law_1082, b_law_1089, b_law_1096, b_law_1097, lg_same, Option.toList, List.cons_append, List.nil_append, mem44, true_and, and_true, Int32.reduceOfNat, forall_const, true_implies, implies_true, false_implies, not_true_eq_false, not_false_eq_true, e1, e2, e3, e4, e5, e6, e7, x1, x2, x3, x4, x5, x6, x7, c1, c2, c3, c4, c5, c6, c7]
  exact go h2 _ _ i2
end LAW
