--deps: a5.throw
/-! WORTH AND LEAN -/
theorem nJ {v : Nat} (h : v < 2147483648) : Int32.toInt64 (nI v) = lN v := nI_l h
theorem lgle {b : Nat} (hb : b < 2 ^ 63) : lg_cmp (lN b) 0 ≤ 0 ↔ b = 0 := by
  have := lg0 hb
  by_cases q : b = 0
  · subst q; simp; decide
  · have h3 : (0 : Int64) < lN b := by
      show lN 0 < lN b
      rw [pk_lLT (by decide) hb]; omega
    unfold lg_cmp
    rw [if_pos h3]
    simp [q]
theorem lggt {b : Nat} (hb : b < 2 ^ 63) : 0 < lg_cmp (lN b) 0 ↔ ¬ b = 0 := by
  rw [← lgle hb]; exact Int32.not_le.symm
theorem up_lo {X Y : Nat} (hX : X < 2 ^ 61) (hY : Y < 2 ^ 61) : -4611686018427387904 < (lN X - lN Y).toInt := by
  have e1 : (lN X).toInt = X := by
    show (Int64.ofNat X).toInt = X
    rw [Int64.toInt_ofNat_of_lt (by omega)]
  have e2 : (lN Y).toInt = Y := by
    show (Int64.ofNat Y).toInt = Y
    rw [Int64.toInt_ofNat_of_lt (by omega)]
  rw [Int64.toInt_sub, e1, e2, Int.bmod_eq_of_le (by omega) (by omega)]
  omega
section OPS
variable {L : Nat} {xs : Nat → Int32} {c : Nat} {h : AH}
theorem op_lean (i : Inv L xs c h) (hc : c ≤ 600) (w : Int32) : OpTJ L xs c 304 [.ref 100, .int w, .ref 377] q_M_lean [.ref 342, .int w] h := by
  have ii := i
  obtain ⟨i1, i2, i3, i4, i5, i6, i7, i8, i9, i10, i11, i12, i13, i14, i15⟩ := i
  obtain ⟨a0, b0, u0, v0⟩ := i13.2 0 (by decide)
  obtain ⟨a1, b1, u1, v1⟩ := i13.2 1 (by decide)
  obtain ⟨a2, b2, u2, v2⟩ := i13.2 2 (by decide)
  obtain ⟨a3, b3, u3, v3⟩ := i13.2 3 (by decide)
  have u0 : hI h 105 3 = nI a0 := u0
  have u1 : hI h 105 4 = nI a1 := u1
  have u2 : hI h 105 5 = nI a2 := u2
  have u3 : hI h 105 6 = nI a3 := u3
  have v0 : hJ h 373 0 = lN a0 := v0
  have v1 : hJ h 373 1 = lN a1 := v1
  have v2 : hJ h 373 2 = lN a2 := v2
  have v3 : hJ h 373 3 = lN a3 := v3
  have x0 : ixo 0 4 = true := by decide
  have x1' : ixo 1 4 = true := by decide
  have x2' : ixo 2 4 = true := by decide
  have x3' : ixo 3 4 = true := by decide
  have B : 9999 * c ≤ 6000000 := by omega
  have p1 : a1 * a2 ≤ 6000000 * 6000000 := Nat.mul_le_mul (by omega) (by omega)
  have p2 : a3 * a0 ≤ 6000000 * 6000000 := Nat.mul_le_mul (by omega) (by omega)
  have p3 : a0 * a2 ≤ 6000000 * 6000000 := Nat.mul_le_mul (by omega) (by omega)
  unfold OpTJ
  refine Cl_xl (d := 99) ⟨xk_100 i2, i4.1, i4.2⟩ ?_
  rw [b_xl_0]
  simp only [xk_100 i2, xr_100_4 i2, xk_105 i2, u0, u2, nJ (show a0 < 2147483648 by omega), nJ (show a2 < 2147483648 by omega), c_within, Option.toList, List.cons_append, List.nil_append, b_xl_14, bw0, b_xl_15, lgle (show a0 < 2 ^ 63 by omega), b_xl_19, lggt (show a2 < 2 ^ 63 by omega), b_xl_23, mem20, mem21, mem22, al20, al21, al33, al34, al36, al37, al38, aa33, aa34, aa36, aa37, aa38, true_and, and_true, Int32.reduceOfNat, forall_const, true_implies, implies_true, false_implies, not_true_eq_false, not_false_eq_true]
  by_cases q : (0 ≤ w ∧ w ≤ 1) ∧ ¬ a0 = 0 ∧ ¬ a2 = 0
  · obtain ⟨q1, q2, q3⟩ := q
    have ps : 0 < a0 * a2 := Nat.mul_pos (by omega) (by omega)
    simp only [q1, q2, q3, and_self, b_xl_28, xk_100 i2, xr_100_4 i2, xk_105 i2, u1, u3, nJ (show a1 < 2147483648 by omega), nJ (show a3 < 2147483648 by omega), lmul, c_X_lowest _ (a0 * a2) w h _ ps (by omega) (up_lo (X := a1 * a2) (Y := a3 * a0) (by omega) (by omega)), Option.toList, List.cons_append, List.nil_append, b_xl_48, mem20, mem21, mem22, al20, al21, al33, al34, al36, al37, al38, aa33, aa34, aa36, aa37, aa38, true_and, and_true, Int32.reduceOfNat, forall_const, true_implies, implies_true, false_implies, not_true_eq_false, not_false_eq_true]
    refine Or.inr (Or.inl ⟨_, rfl, 0, rfl, ?_⟩)
    generalize hV : lwf (lN (a1 * a2) - lN (a3 * a0)) (a0 * a2) w = V
    have j7 := ii.j7 V
    have m7 := j7.2.2.1
    have eJ : ∀ a, a < 377 → hJ (sJ h 377 0 V) a = hJ h a := fun a ha => by
      funext k
      show (if a = 377 then _ else _) = _
      rw [if_neg (by omega)]
      rfl
    have m8 : MLY (sI (sJ h 377 0 V) 342 0 0) := m7.fr (S := onl 342) (T := nov) (Fs1 Fr.rfl')
    have o : hI (sI (sJ h 377 0 V) 342 0 0) 342 0 ≤ 0 := by rw [hI_same, if_pos rfl]; decide
    rw [e_M_lean, b_M_lean_0]
    simp only [mo m7, c_M_within, Option.toList, List.cons_append, List.nil_append, b_M_lean_5, bw0, q1, b_M_lean_6, mr_39 m7, mk_373 m7, mn_373 m7, x0, x1', x2', x3', tn0, tn1, tn2, tn3, eJ 373 (by decide), v0, v1, v2, v3, lgle (show a0 < 2 ^ 63 by omega), lgle (show a2 < 2 ^ 63 by omega), q2, q3, b_M_lean_13, b_M_lean_20, b_M_lean_23, mo m8, o, b_M_lean_29, mr_39 m8, mk_373 m8, mn_373 m8, hJ_sI, lmul, c_M_lowest _ (a0 * a2) w _ _ ps (by omega) (up_lo (X := a1 * a2) (Y := a3 * a0) (by omega) (by omega)), hV, b_M_lean_59, rtJ, mem20, mem21, mem22, al20, al21, al33, al34, al36, al37, al38, aa33, aa34, aa36, aa37, aa38, true_and, and_true, Int32.reduceOfNat, forall_const, true_implies, implies_true, false_implies, not_true_eq_false, not_false_eq_true]
    refine ⟨V, rfl, ?_, ?_, j7.t0 0⟩
    · rw [hJ_same, if_pos rfl]
    · rw [hI_same, if_pos rfl]
  · have no : thr 377 (fun r h1 => ∃ t : Int32, r = some (.int t) ∧ Cl 100 q_M_lean [.ref 342, .int w] h1 (fun r' h2 => ∃ v : Int64, r' = some (.long v) ∧ (t = 0 → hJ h2 377 0 = v) ∧ hI h2 342 0 = t ∧ Inv L xs (c + 1) h2)) (some .null) h := by
      refine Or.inr (Or.inr ⟨rfl, 1, rfl, ?_⟩)
      have j7 := ii.mk
      have m7 := j7.2.2.1
      have eJ : ∀ a, a < 378 → hJ (mkC h 12 0 6) a = hJ h a := fun a ha => by
        rw [hJ_mkC, if_neg (by omega)]
      have m8 : MLY (sI (mkC h 12 0 6) 342 0 1) := m7.fr (S := onl 342) (T := nov) (Fs1 Fr.rfl')
      have o : ¬ hI (sI (mkC h 12 0 6) 342 0 1) 342 0 ≤ 0 := by rw [hI_same, if_pos rfl]; decide
      have fin : ∃ v : Int64, some (Value.long 0) = some (Value.long v) ∧ ((1 : Int32) = 0 → hJ (sI (mkC h 12 0 6) 342 0 1) 377 0 = v) ∧ hI (sI (mkC h 12 0 6) 342 0 1) 342 0 = 1 ∧ Inv L xs (c + 1) (sI (mkC h 12 0 6) 342 0 1) := ⟨0, rfl, fun z => absurd z (by decide), by rw [hI_same, if_pos rfl], j7.t0 1⟩
      generalize mkC h 12 0 6 = h7 at *
      rw [e_M_lean, b_M_lean_0]
      simp only [mo m7, c_M_within, Option.toList, List.cons_append, List.nil_append, b_M_lean_5, bw0, b_M_lean_6, mr_39 m7, mk_373 m7, mn_373 m7, x0, x2', tn0, tn2, eJ 373 (by decide), v0, v2, lgle (show a0 < 2 ^ 63 by omega), lgle (show a2 < 2 ^ 63 by omega), b_M_lean_13, b_M_lean_20, b_M_lean_22, b_M_lean_23, mo m8, o, b_M_lean_27, b_M_lean_59, rtJ, mem20, mem21, mem22, al20, al21, al33, al34, al36, al37, al38, aa33, aa34, aa36, aa37, aa38, true_and, and_true, Int32.reduceOfNat, forall_const, true_implies, implies_true, false_implies, not_true_eq_false, not_false_eq_true]
      exact ⟨fun _ => fin, fun q1 => ⟨fun _ => fin, fun q2 => ⟨fun _ => fin, fun q3 => absurd ⟨Classical.not_not.mp q1, q2, q3⟩ q⟩⟩⟩
    exact ⟨fun _ => no, fun q1 => ⟨fun _ => no, fun q2 => ⟨fun q3 => absurd ⟨Classical.not_not.mp q1, q2, q3⟩ q, fun _ => no⟩⟩⟩
/-! worth -/
def cfS (t : Nat → Nat) (w : Int32) (k : Nat) : Nat := (if w = 1 then 0 else t (4 + k)) + (if w = 0 then 0 else t k)
theorem c_Ta_confessed {d : Nat} (t : Nat → Nat) (w a b : Int32) (k : Nat) (hw : w = 0 ∨ w = 1 ∨ w = 2) (hk : cfN 0 a b = k ∧ cfN 1 a b = 4 + k ∧ k < 4) (h : AH) (x : XLY h) (ht : ∀ i, i < 8 → hI h 106 i = nI (t i)) (Q : Option Value → AH → Prop) : Cl (d + 3) q_Ta_confessed [.ref 105, .int w, .int a, .int b] h Q ↔ Q (some (.int (nI (cfS t w k)))) h := by
  have one : ∀ (m : Int32) (k' : Nat) (Q : Option Value → AH → Prop), cfN m a b = k' → k' < 8 → (Cl (d + 2) q_Ta_confessionsAt [.ref 105, .int m, .int a, .int b] h Q ↔ Q (some (.int (nI (t k')))) h) := by
    intro m k' Q e hk'
    have z1 := n_nn (n := k') (by omega)
    have z2 : ¬ 8 ≤ nI k' := mt (nle (a := 8) (by decide) (by omega)).mp (by omega)
    have i1 : ixo (nI k') 8 = true := nix hk' (by decide)
    simp only [e_Ta_confessionsAt, b_Ta_confessionsAt_0, b_Ta_confessionsAt_4, b_Ta_confessionsAt_7, b_Ta_confessionsAt_12, b_Ta_confessionsAt_17, b_Ta_confessionsAt_18, c_Ta_cell, e, Option.toList, List.cons_append, List.nil_append, z1, z2, i1, xk_105 x, xr_105_2 x, xk_106 x, xn_106 x, cN (show k' < 2147483648 by omega), ht k' hk', rtI, mem20, mem21, mem22, al20, al21, al33, al34, al36, al37, al38, aa33, aa34, aa36, aa37, aa38, true_and, and_true, Int32.reduceOfNat, forall_const, true_implies, implies_true, false_implies, not_true_eq_false, not_false_eq_true]
  rw [e_Ta_confessed, b_Ta_confessed_0]
  unfold cfS
  rcases hw with rfl | rfl | rfl
  · simp only [show ¬ (0 : Int32) = 1 by decide, b_Ta_confessed_5, one 1 (4 + k) _ hk.2.1 (by omega), Option.toList, List.cons_append, List.nil_append, b_Ta_confessed_10, b_Ta_confessed_13, b_Ta_confessed_20, xk_105 x, rtI, Int32.add_zero, if_true, if_false, Nat.add_zero, mem20, mem21, mem22, al20, al21, al33, al34, al36, al37, al38, aa33, aa34, aa36, aa37, aa38, true_and, and_true, Int32.reduceOfNat, forall_const, true_implies, implies_true, false_implies, not_true_eq_false, not_false_eq_true]
  · simp only [b_Ta_confessed_3, b_Ta_confessed_10, show ¬ (1 : Int32) = 0 by decide, b_Ta_confessed_15, one 0 k _ hk.1 (by omega), Option.toList, List.cons_append, List.nil_append, b_Ta_confessed_20, xk_105 x, rtI, Int32.zero_add, if_true, if_false, Nat.zero_add, mem20, mem21, mem22, al20, al21, al33, al34, al36, al37, al38, aa33, aa34, aa36, aa37, aa38, true_and, and_true, Int32.reduceOfNat, forall_const, true_implies, implies_true, false_implies, not_true_eq_false, not_false_eq_true]
  · simp only [show ¬ (2 : Int32) = 1 by decide, show ¬ (2 : Int32) = 0 by decide, b_Ta_confessed_5, one 1 (4 + k) _ hk.2.1 (by omega), Option.toList, List.cons_append, List.nil_append, b_Ta_confessed_10, b_Ta_confessed_15, one 0 k _ hk.1 (by omega), b_Ta_confessed_20, xk_105 x, rtI, nadd, if_false, mem20, mem21, mem22, al20, al21, al33, al34, al36, al37, al38, aa33, aa34, aa36, aa37, aa38, true_and, and_true, Int32.reduceOfNat, forall_const, true_implies, implies_true, false_implies, not_true_eq_false, not_false_eq_true]
theorem c_M_confessedOf {d : Nat} (t : Nat → Nat) (w : Int32) (a b : Nat) (hw : w = 0 ∨ w = 1 ∨ w = 2) (ha : a < 2) (hb : b < 2) (h : AH) (m : MLY h) (ht : ∀ i, i < 8 → hJ h 372 i = lN (t i)) (Q : Option Value → AH → Prop) : Cl (d + 1) q_M_confessedOf [.ref 342, .int w, .int (nI a), .int (nI b)] h Q ↔ Q (some (.long (lN (cfS t w (2 * a + b))))) h := by
  have e0 : 4 * (0 : Int32) + 2 * nI a + nI b = nI (2 * a + b) := by
    rw [show 4 * (0 : Int32) = nI 0 from rfl, show (2 : Int32) = nI 2 from rfl, nmul, nadd, nadd, Nat.zero_add]
  have e1 : 4 * (1 : Int32) + 2 * nI a + nI b = nI (4 + (2 * a + b)) := by
    rw [show 4 * (1 : Int32) = nI 4 from rfl, show (2 : Int32) = nI 2 from rfl, nmul, nadd, nadd, Nat.add_assoc]
  have i0 : ixo (nI (2 * a + b)) 8 = true := nix (by omega) (by decide)
  have i1 : ixo (nI (4 + (2 * a + b))) 8 = true := nix (by omega) (by decide)
  have c0 := cN (show 2 * a + b < 2147483648 by omega)
  have c1 := cN (show 4 + (2 * a + b) < 2147483648 by omega)
  have t0 := ht (2 * a + b) (by omega)
  have t1 := ht (4 + (2 * a + b)) (by omega)
  rw [e_M_confessedOf, b_M_confessedOf_0, b_M_confessedOf_4]
  unfold cfS
  have l0 : ∀ v : Int64, 0 + v = v := fun v => Int64.zero_add v
  have l1 : ∀ v : Int64, v + 0 = v := fun v => Int64.add_zero v
  rcases hw with rfl | rfl | rfl
  all_goals simp only [show ¬ (2 : Int32) ≤ 0 by decide, b_M_confessedOf_7, show ¬ (0 : Int32) = 2 by decide, show ¬ (1 : Int32) = 2 by decide, b_M_confessedOf_10, b_M_confessedOf_12, b_M_confessedOf_14, b_M_confessedOf_15, show ¬ (0 : Int32) = 1 by decide, show ¬ (1 : Int32) = 0 by decide, b_M_confessedOf_18, b_M_confessedOf_20, b_M_confessedOf_21, b_M_confessedOf_22, b_M_confessedOf_24, b_M_confessedOf_25, b_M_confessedOf_29, b_M_confessedOf_42, b_M_confessedOf_43, mo m, mr_38 m, mk_372 m, mn_372 m, e0, i0, c0, t0, l0, l1, mem20, mem21, mem22, al20, al21, al33, al34, al36, al37, al38, aa33, aa34, aa36, aa37, aa38, true_and, and_true, Int32.reduceOfNat, forall_const, true_implies, implies_true, false_implies, not_true_eq_false, not_false_eq_true]
  all_goals rw [b_M_confessedOf_4]
  all_goals simp only [show (0 : Int32) + 1 = 1 by decide, show ¬ (2 : Int32) ≤ 1 by decide, b_M_confessedOf_7, show ¬ (0 : Int32) = 2 by decide, show ¬ (1 : Int32) = 2 by decide, b_M_confessedOf_10, b_M_confessedOf_12, b_M_confessedOf_14, b_M_confessedOf_15, show ¬ (0 : Int32) = 1 by decide, show ¬ (1 : Int32) = 0 by decide, b_M_confessedOf_18, b_M_confessedOf_20, b_M_confessedOf_21, b_M_confessedOf_22, b_M_confessedOf_24, b_M_confessedOf_25, b_M_confessedOf_29, b_M_confessedOf_42, b_M_confessedOf_43, mo m, mr_38 m, mk_372 m, mn_372 m, e1, i1, c1, t1, l0, l1, ladd, mem20, mem21, mem22, al20, al21, al33, al34, al36, al37, al38, aa33, aa34, aa36, aa37, aa38, true_and, and_true, Int32.reduceOfNat, forall_const, true_implies, implies_true, false_implies, not_true_eq_false, not_false_eq_true]
  all_goals rw [b_M_confessedOf_4]
  all_goals simp only [show (1 : Int32) + 1 = 2 by decide, Int32.le_refl, b_M_confessedOf_47, rtJ, show ¬ (2 : Int32) = 1 by decide, show ¬ (2 : Int32) = 0 by decide, show ¬ (0 : Int32) = 1 by decide, show ¬ (1 : Int32) = 0 by decide, if_true, if_false, Nat.add_zero, Nat.zero_add, Nat.add_comm (t (2 * a + b)), mem20, mem21, mem22, al20, al21, al33, al34, al36, al37, al38, aa33, aa34, aa36, aa37, aa38, true_and, and_true, Int32.reduceOfNat, forall_const, true_implies, implies_true, false_implies, not_true_eq_false, not_false_eq_true]
theorem op_worth (i : Inv L xs c h) (hc : c ≤ 600) (x w : Int32) : OpTJ L xs c 303 [.ref 100, .int x, .int w, .ref 377] q_M_worth [.ref 342, .int x, .int w] h := by
  have ii := i
  obtain ⟨i1, i2, i3, i4, i5, i6, i7, i8, i9, i10, i11, i12, i13, i14, i15⟩ := i
  obtain ⟨t, ht⟩ : ∃ t : Nat → Nat, ∀ i, i < 8 → t i ≤ 9999 * c ∧ hI h 106 i = nI (t i) ∧ hJ h 372 i = lN (t i) := by
    have e : ∀ i, ∃ v, i < 8 → v ≤ 9999 * c ∧ hI h 106 i = nI v ∧ hJ h 372 i = lN v := by
      intro i
      by_cases hi : i < 8
      · obtain ⟨v, a, b, c⟩ := i13.1 i hi
        rw [Nat.zero_add] at c
        exact ⟨v, fun _ => ⟨a, b, c⟩⟩
      · exact ⟨0, fun z => absurd z hi⟩
    exact ⟨fun i => Classical.choose (e i), fun i hi => Classical.choose_spec (e i) hi⟩
  have tx : ∀ i, i < 8 → hI h 106 i = nI (t i) := fun i hi => (ht i hi).2.1
  have tb : ∀ i, i < 8 → t i ≤ 6000000 := fun i hi => by have := (ht i hi).1; omega
  have cb : ∀ k, k < 4 → cfS t x k ≤ 12000000 := fun k hk => by
    have := tb k (by omega)
    have := tb (4 + k) (by omega)
    unfold cfS
    split <;> split <;> omega
  have f3 := cb 3 (by decide)
  have f2 := cb 2 (by decide)
  have f1 := cb 1 (by decide)
  have f0 := cb 0 (by decide)
  have p1 : cfS t x 3 * (cfS t x 1 + cfS t x 0) ≤ 24000000 * 24000000 := Nat.mul_le_mul (by omega) (by omega)
  have p2 : cfS t x 1 * (cfS t x 3 + cfS t x 2) ≤ 24000000 * 24000000 := Nat.mul_le_mul (by omega) (by omega)
  have p3 : (cfS t x 3 + cfS t x 2) * (cfS t x 1 + cfS t x 0) ≤ 24000000 * 24000000 := Nat.mul_le_mul (by omega) (by omega)
  unfold OpTJ
  refine Cl_xw (d := 99) ⟨xk_100 i2, i4.1, i4.2⟩ ?_
  have no : ¬ (((0 ≤ x ∧ x ≤ 2) ∧ (0 ≤ w ∧ w ≤ 1)) ∧ ¬ cfS t x 3 + cfS t x 2 = 0 ∧ ¬ cfS t x 1 + cfS t x 0 = 0) → thr 377 (fun r h1 => ∃ t : Int32, r = some (.int t) ∧ Cl 100 q_M_worth [.ref 342, .int x, .int w] h1 (fun r' h2 => ∃ v : Int64, r' = some (.long v) ∧ (t = 0 → hJ h2 377 0 = v) ∧ hI h2 342 0 = t ∧ Inv L xs (c + 1) h2)) (some .null) h := by
    intro q
    refine Or.inr (Or.inr ⟨rfl, 1, rfl, ?_⟩)
    have j7 := ii.mk
    have m7 := j7.2.2.1
    have eJ : ∀ a, a < 378 → hJ (mkC h 12 0 6) a = hJ h a := fun a ha => by
      rw [hJ_mkC, if_neg (by omega)]
    have j8 := fun v => j7.t0 v
    have tm : ∀ i, i < 8 → hJ (mkC h 12 0 6) 372 i = lN (t i) := fun i hi => by rw [eJ 372 (by decide)]; exact (ht i hi).2.2
    generalize mkC h 12 0 6 = h7 at *
    have o1 : ¬ hI (sI h7 342 0 1) 342 0 ≤ 0 := by rw [hI_same, if_pos rfl]; decide
    have o0 : hI (sI h7 342 0 0) 342 0 ≤ 0 := by rw [hI_same, if_pos rfl]; decide
    have fin : ∃ v : Int64, some (Value.long 0) = some (Value.long v) ∧ ((1 : Int32) = 0 → hJ (sI h7 342 0 1) 377 0 = v) ∧ hI (sI h7 342 0 1) 342 0 = 1 ∧ Inv L xs (c + 1) (sI h7 342 0 1) := ⟨0, rfl, fun z => absurd z (by decide), by rw [hI_same, if_pos rfl], j8 1⟩
    rw [e_M_worth, b_M_worth_0]
    simp only [mo m7, c_M_within, Option.toList, List.cons_append, List.nil_append, b_M_worth_5, bw0, b_M_worth_6, b_M_worth_10, b_M_worth_13, b_M_worth_14, o1, mo (j8 1).2.2.1, b_M_worth_18, rtJ, mem20, mem21, mem22, al20, al21, al33, al34, al36, al37, al38, aa33, aa34, aa36, aa37, aa38, true_and, and_true, Int32.reduceOfNat, forall_const, true_implies, implies_true, false_implies, not_true_eq_false, not_false_eq_true]
    refine ⟨fun _ => fin, fun q1 => ⟨fun _ => fin, fun q2 => ?_⟩⟩
    have q1 := Classical.not_not.mp q1
    have q2 := Classical.not_not.mp q2
    have hw : x = 0 ∨ x = 1 ∨ x = 2 := by
      obtain ⟨w1, w2⟩ := n_of (M := 2) (n := 2) (by decide) q1
      rw [w2]
      have c3 : x.toNatClampNeg = 0 ∨ x.toNatClampNeg = 1 ∨ x.toNatClampNeg = 2 := by omega
      rcases c3 with c3 | c3 | c3 <;> rw [c3]
      · exact Or.inl rfl
      · exact Or.inr (Or.inl rfl)
      · exact Or.inr (Or.inr rfl)
    have m8 := (j8 0).2.2.1
    have k3 := fun Q => c_M_confessedOf (d := 98) t x 1 1 hw (by decide) (by decide) (sI h7 342 0 0) m8 tm Q
    have k2 := fun Q => c_M_confessedOf (d := 98) t x 1 0 hw (by decide) (by decide) (sI h7 342 0 0) m8 tm Q
    have k1 := fun Q => c_M_confessedOf (d := 98) t x 0 1 hw (by decide) (by decide) (sI h7 342 0 0) m8 tm Q
    have k0 := fun Q => c_M_confessedOf (d := 98) t x 0 0 hw (by decide) (by decide) (sI h7 342 0 0) m8 tm Q
    have e1 : (1 : Int32) = nI 1 := rfl
    have e0 : (0 : Int32) = nI 0 := rfl
    rw [b_M_worth_11, b_M_worth_14]
    simp only [mo m7, mo m8, o0, b_M_worth_20, mem20, mem21, mem22, al20, al21, al33, al34, al36, al37, al38, aa33, aa34, aa36, aa37, aa38, true_and, and_true, Int32.reduceOfNat, forall_const, true_implies, implies_true, false_implies, not_true_eq_false, not_false_eq_true]
    refine (k3 _).mpr ?_
    simp only [Option.toList, List.cons_append, List.nil_append, b_M_worth_25]
    refine (k2 _).mpr ?_
    simp only [Option.toList, List.cons_append, List.nil_append, b_M_worth_32]
    refine (k1 _).mpr ?_
    simp only [Option.toList, List.cons_append, List.nil_append, b_M_worth_39]
    refine (k0 _).mpr ?_
    have ss : ∀ v, sI (sI h7 342 0 0) 342 0 v = sI h7 342 0 v := fun v => by
      unfold sI
      congr 1
      funext a j
      unfold upq
      by_cases q : a = 342
      · simp only [q, if_true]
        by_cases q2 : j = 0 <;> simp only [q2, if_true, if_false]
      · simp only [q, if_false]
    have q3 : ¬ (¬ cfS t x 3 + cfS t x 2 = 0 ∧ ¬ cfS t x 1 + cfS t x 0 = 0) := fun z => q ⟨⟨q1, q2⟩, z⟩
    simp only [Option.toList, List.cons_append, List.nil_append, b_M_worth_46, ladd, lg0 (show cfS t x (2 * 1 + 1) + cfS t x (2 * 1 + 0) < 2 ^ 63 by show cfS t x 3 + cfS t x 2 < _; omega), b_M_worth_53, lg0 (show cfS t x (2 * 0 + 1) + cfS t x (2 * 0 + 0) < 2 ^ 63 by show cfS t x 1 + cfS t x 0 < _; omega), b_M_worth_57, b_M_worth_60, ss, mo m8, mo (j8 1).2.2.1, o1, b_M_worth_64, b_M_worth_78, rtJ, mem20, mem21, mem22, al20, al21, al33, al34, al36, al37, al38, aa33, aa34, aa36, aa37, aa38, true_and, and_true, Int32.reduceOfNat, forall_const, true_implies, implies_true, false_implies, not_true_eq_false, not_false_eq_true]
    exact ⟨fun _ => fin, fun z => ⟨fun z2 => absurd ⟨z, z2⟩ q3, fun _ => fin⟩⟩
  rw [b_xw_0]
  simp only [c_within, Option.toList, List.cons_append, List.nil_append, b_xw_4, bw0, b_xw_5, b_xw_9, b_xw_10, mem20, mem21, mem22, al20, al21, al33, al34, al36, al37, al38, aa33, aa34, aa36, aa37, aa38, true_and, and_true, Int32.reduceOfNat, forall_const, true_implies, implies_true, false_implies, not_true_eq_false, not_false_eq_true]
  refine ⟨fun w1 => no (fun z => w1 z.1.1), fun w1 => ⟨fun w2 => ?_, fun w2 => no (fun z => w2 (by simp [z.1.2]))⟩⟩
  have q1 := Classical.not_not.mp w1
  have q2 := Classical.not_not.mp w2
  have hw : x = 0 ∨ x = 1 ∨ x = 2 := by
    obtain ⟨w1, w2⟩ := n_of (M := 2) (n := 2) (by decide) q1
    rw [w2]
    have c3 : x.toNatClampNeg = 0 ∨ x.toNatClampNeg = 1 ∨ x.toNatClampNeg = 2 := by omega
    rcases c3 with c3 | c3 | c3 <;> rw [c3]
    · exact Or.inl rfl
    · exact Or.inr (Or.inl rfl)
    · exact Or.inr (Or.inr rfl)
  have g3 := fun Q => c_Ta_confessed (d := 96) t x 1 1 3 hw (by decide) h i2 tx Q
  have g2 := fun Q => c_Ta_confessed (d := 96) t x 1 0 2 hw (by decide) h i2 tx Q
  have g1 := fun Q => c_Ta_confessed (d := 96) t x 0 1 1 hw (by decide) h i2 tx Q
  have g0 := fun Q => c_Ta_confessed (d := 96) t x 0 0 0 hw (by decide) h i2 tx Q
  simp only [b_xw_15, xk_100 i2, xr_100_4 i2, g3, Option.toList, List.cons_append, List.nil_append, b_xw_21, g2, b_xw_30, g1, b_xw_39, g0, b_xw_48, nJ (show cfS t x 3 < 2147483648 by omega), nJ (show cfS t x 2 < 2147483648 by omega), nJ (show cfS t x 1 < 2147483648 by omega), nJ (show cfS t x 0 < 2147483648 by omega), ladd, lgle (show cfS t x 3 + cfS t x 2 < 2 ^ 63 by omega), b_xw_55, lggt (show cfS t x 1 + cfS t x 0 < 2 ^ 63 by omega), b_xw_59, mem20, mem21, mem22, al20, al21, al33, al34, al36, al37, al38, aa33, aa34, aa36, aa37, aa38, true_and, and_true, Int32.reduceOfNat, forall_const, true_implies, implies_true, false_implies, not_true_eq_false, not_false_eq_true]
  refine ⟨fun w3 => no (fun z => z.2.1 w3), fun w3 => ⟨fun w4 => ?_, fun w4 => no (fun z => w4 z.2.2)⟩⟩
  have ps : 0 < (cfS t x 3 + cfS t x 2) * (cfS t x 1 + cfS t x 0) := Nat.mul_pos (by omega) (by omega)
  simp only [b_xw_64, lmul, c_X_lowest _ ((cfS t x 3 + cfS t x 2) * (cfS t x 1 + cfS t x 0)) w h _ ps (by omega) (up_lo (X := cfS t x 3 * (cfS t x 1 + cfS t x 0)) (Y := cfS t x 1 * (cfS t x 3 + cfS t x 2)) (by omega) (by omega)), Option.toList, List.cons_append, List.nil_append, b_xw_76]
  refine Or.inr (Or.inl ⟨_, rfl, 0, rfl, ?_⟩)
  generalize hV : lwf (lN (cfS t x 3 * (cfS t x 1 + cfS t x 0)) - lN (cfS t x 1 * (cfS t x 3 + cfS t x 2))) ((cfS t x 3 + cfS t x 2) * (cfS t x 1 + cfS t x 0)) w = V
  have j7 := ii.j7 V
  have m7 := j7.2.2.1
  have eJ : ∀ a, a < 377 → hJ (sJ h 377 0 V) a = hJ h a := fun a ha => by
    funext k
    show (if a = 377 then _ else _) = _
    rw [if_neg (by omega)]
    rfl
  have j8 := j7.t0 0
  have m8 := j8.2.2.1
  have e77 : hJ (sI (sJ h 377 0 V) 342 0 0) 377 0 = V := by rw [hJ_sI, hJ_same, if_pos rfl]
  have tm : ∀ i, i < 8 → hJ (sI (sJ h 377 0 V) 342 0 0) 372 i = lN (t i) := fun i hi => by rw [hJ_sI, eJ 372 (by decide)]; exact (ht i hi).2.2
  have ss : sI (sI (sJ h 377 0 V) 342 0 0) 342 0 0 = sI (sJ h 377 0 V) 342 0 0 := by
    unfold sI
    congr 1
    funext a j
    unfold upq
    by_cases q : a = 342
    · simp only [q, if_true]
      by_cases q2 : j = 0 <;> simp only [q2, if_true, if_false]
    · simp only [q, if_false]
  have o0 : hI (sI (sJ h 377 0 V) 342 0 0) 342 0 = 0 := by rw [hI_same, if_pos rfl]
  have k3 := fun Q => c_M_confessedOf (d := 98) t x 1 1 hw (by decide) (by decide) (sI (sJ h 377 0 V) 342 0 0) m8 tm Q
  have k2 := fun Q => c_M_confessedOf (d := 98) t x 1 0 hw (by decide) (by decide) (sI (sJ h 377 0 V) 342 0 0) m8 tm Q
  have k1 := fun Q => c_M_confessedOf (d := 98) t x 0 1 hw (by decide) (by decide) (sI (sJ h 377 0 V) 342 0 0) m8 tm Q
  have k0 := fun Q => c_M_confessedOf (d := 98) t x 0 0 hw (by decide) (by decide) (sI (sJ h 377 0 V) 342 0 0) m8 tm Q
  rw [e_M_worth, b_M_worth_0]
  simp only [mo m7, c_M_within, Option.toList, List.cons_append, List.nil_append, b_M_worth_5, bw0, q1, q2, b_M_worth_6, b_M_worth_10, b_M_worth_11, b_M_worth_14, mem20, mem21, mem22, al20, al21, al33, al34, al36, al37, al38, aa33, aa34, aa36, aa37, aa38, true_and, and_true, Int32.reduceOfNat, forall_const, true_implies, implies_true, false_implies, not_true_eq_false, not_false_eq_true]
  generalize sI (sJ h 377 0 V) 342 0 0 = h8 at *
  simp only [mo m8, o0, Int32.le_refl, b_M_worth_20, mem20, mem21, mem22, al20, al21, al33, al34, al36, al37, al38, aa33, aa34, aa36, aa37, aa38, true_and, and_true, Int32.reduceOfNat, forall_const, true_implies, implies_true, false_implies, not_true_eq_false, not_false_eq_true]
  refine (k3 _).mpr ?_
  simp only [Option.toList, List.cons_append, List.nil_append, b_M_worth_25]
  refine (k2 _).mpr ?_
  simp only [Option.toList, List.cons_append, List.nil_append, b_M_worth_32]
  refine (k1 _).mpr ?_
  simp only [Option.toList, List.cons_append, List.nil_append, b_M_worth_39]
  refine (k0 _).mpr ?_
  simp only [Option.toList, List.cons_append, List.nil_append, b_M_worth_46, ladd, lg0 (show cfS t x (2 * 1 + 1) + cfS t x (2 * 1 + 0) < 2 ^ 63 by show cfS t x 3 + cfS t x 2 < _; omega), b_M_worth_53, lg0 (show cfS t x (2 * 0 + 1) + cfS t x (2 * 0 + 0) < 2 ^ 63 by show cfS t x 1 + cfS t x 0 < _; omega), mem20, mem21, mem22, al20, al21, al33, al34, al36, al37, al38, aa33, aa34, aa36, aa37, aa38, true_and, and_true, Int32.reduceOfNat, forall_const, true_implies, implies_true, false_implies, not_true_eq_false, not_false_eq_true]
  refine ⟨fun z => absurd z w3, fun _ => ⟨fun _ => ?_, fun z => absurd w4 z⟩⟩
  simp only [b_M_worth_59, b_M_worth_60, mo m8, ss, o0, Int32.le_refl, b_M_worth_66, lmul, mem20, mem21, mem22, al20, al21, al33, al34, al36, al37, al38, aa33, aa34, aa36, aa37, aa38, true_and, and_true, Int32.reduceOfNat, forall_const, true_implies, implies_true, false_implies, not_true_eq_false, not_false_eq_true]
  refine (c_M_lowest (d := 97) _ ((cfS t x 3 + cfS t x 2) * (cfS t x 1 + cfS t x 0)) w h8 _ ps (by omega) (up_lo (X := cfS t x 3 * (cfS t x 1 + cfS t x 0)) (Y := cfS t x 1 * (cfS t x 3 + cfS t x 2)) (by omega) (by omega))).mpr ?_
  rw [hV]
  simp only [Option.toList, List.cons_append, List.nil_append, b_M_worth_78, rtJ, mem20, mem21, mem22, al20, al21, al33, al34, al36, al37, al38, aa33, aa34, aa36, aa37, aa38, true_and, and_true, Int32.reduceOfNat, forall_const, true_implies, implies_true, false_implies, not_true_eq_false, not_false_eq_true]
  exact ⟨V, rfl, e77, o0, j8⟩
end OPS
