--deps: 92.opnamed
/-! CONFESSIONS, PAPERS -/
theorem iz0 (c : Prop) [Decidable c] (x : Int32) (hx : ¬ x = 0) : ((if c then (0 : Int32) else x) = 0) ↔ c := by
  by_cases q : c <;> simp [q, hx]
def cfN (a b c : Int32) : Nat := (if a = 0 then 0 else 4) + (if b = 0 then 0 else 2) + (if c = 0 then 0 else 1)
theorem cfN_lt (a b c : Int32) : cfN a b c < 8 := by
  unfold cfN
  split <;> split <;> split <;> decide
theorem c_Ta_cell {d : Nat} (a b c : Int32) (h : AH) (Q : Option Value → AH → Prop) : Cl (d + 1) q_Ta_cell [.int a, .int b, .int c] h Q ↔ Q (some (.int (nI (cfN a b c)))) h := by
  simp only [e_Ta_cell, b_Ta_cell_0, b_Ta_cell_2, b_Ta_cell_4, b_Ta_cell_5, b_Ta_cell_7, b_Ta_cell_9, b_Ta_cell_10, b_Ta_cell_13, b_Ta_cell_15, b_Ta_cell_16, rtI, true_and]
  unfold cfN
  by_cases q1 : a = 0 <;> by_cases q2 : b = 0 <;> by_cases q3 : c = 0 <;> simp [q1, q2, q3] <;> exact Iff.rfl
theorem c_X_confess {d : Nat} (a b c n : Int32) (h : AH) (x : XLY h) (Q : Option Value → AH → Prop) : Cl (d + 3) q_X_confess [.ref 100, .int a, .int b, .int c, .int n] h Q ↔ if 0 ≤ n ∧ n ≤ 9999 then Q (some (.int 1)) (sI h 106 (cfN a b c) (hI h 106 (cfN a b c) + n)) else Q (some (.int 0)) h := by
  have l := cfN_lt a b c
  have z1 := n_nn (n := cfN a b c) (by omega)
  have z2 : ¬ 8 ≤ nI (cfN a b c) := mt (nle (a := 8) (by decide) (by omega)).mp (by omega)
  have i1 : ixo (nI (cfN a b c)) 8 = true := nix l (by decide)
  simp only [e_X_confess, b_X_confess_0, b_X_confess_4, b_X_confess_5, b_X_confess_7, b_X_confess_14, c_within, Option.toList, List.cons_append, List.nil_append, bw0, xk_100 x, xr_100_4 x, xk_105 x, xr_105_2 x, xk_106 x, xn_106 x, rtZ0, rtZ1, e_Ta_addConfessions, b_Ta_addConfessions_0, b_Ta_addConfessions_4, b_Ta_addConfessions_7, b_Ta_addConfessions_12, b_Ta_addConfessions_20, c_Ta_cell, z1, z2, i1, cN (show cfN a b c < 2147483648 by omega), rtV, mem20, mem21, mem22, al20, al21, al33, al34, al36, al37, al38, aa33, aa34, aa36, aa37, aa38, true_and, and_true, Int32.reduceOfNat, forall_const, true_implies, implies_true, false_implies, not_true_eq_false, not_false_eq_true]
  by_cases q : 0 ≤ n ∧ n ≤ 9999 <;> simp [q]
theorem c_M_confess {d : Nat} (a b c n : Int32) (h : AH) (m : MLY h) (Q : Option Value → AH → Prop) : Cl (d + 3) q_M_confess [.ref 342, .int a, .int b, .int c, .int n] h Q ↔ if 0 ≤ n ∧ n ≤ 9999 then Q (some (.int 1)) (sJ (sI h 342 0 0) 372 (cfN a b c) (hJ h 372 (cfN a b c) + Int32.toInt64 n)) else Q (some (.int 0)) (sI h 342 0 0) := by
  have m1 : MLY (sI h 342 0 0) := m.fr (S := onl 342) (T := nov) (Fs1 Fr.rfl')
  have l := cfN_lt a b c
  have i1 : ixo (nI (cfN a b c)) 8 = true := nix l (by decide)
  have c1 := cN (show cfN a b c < 2147483648 by omega)
  simp only [e_M_confess, b_M_confess_0, b_M_confess_7, b_M_confess_8, b_M_confess_10, b_M_confess_14, b_M_confess_16, b_M_confess_17, b_M_confess_19, b_M_confess_21, b_M_confess_22, b_M_confess_25, b_M_confess_27, b_M_confess_28, c_M_within, Option.toList, List.cons_append, List.nil_append, bw0, mo m, mo m1, mr_38 m1, mk_372 m1, mn_372 m1, rtZ0, rtZ1, hJ_sI, mem20, mem21, mem22, al20, al21, al33, al34, al36, al37, al38, aa33, aa34, aa36, aa37, aa38, true_and, and_true, Int32.reduceOfNat, forall_const, true_implies, implies_true, false_implies, not_true_eq_false, not_false_eq_true]
  by_cases q : 0 ≤ n ∧ n ≤ 9999
  · revert i1 c1
    unfold cfN
    by_cases q1 : a = 0 <;> by_cases q2 : b = 0 <;> by_cases q3 : c = 0 <;> simp [q, q1, q2, q3] <;> intro _ _ _ <;> decide
  · simp [q]
theorem c_X_paper {d : Nat} (s n r : Int32) (h : AH) (x : XLY h) (Q : Option Value → AH → Prop) : Cl (d + 3) q_X_paper [.ref 100, .int s, .int n, .int r] h Q ↔ if (1 ≤ n ∧ n ≤ 9999) ∧ (0 ≤ r ∧ r ≤ n) then (if s = 0 then Q (some (.int 1)) (sI (sI h 105 5 (hI h 105 5 + n)) 105 6 (hI h 105 6 + r)) else Q (some (.int 1)) (sI (sI h 105 3 (hI h 105 3 + n)) 105 4 (hI h 105 4 + r))) else Q (some (.int 0)) h := by
  simp only [e_X_paper, b_X_paper_0, b_X_paper_4, b_X_paper_5, b_X_paper_9, b_X_paper_10, b_X_paper_12, b_X_paper_18, c_within, Option.toList, List.cons_append, List.nil_append, bw0, xk_100 x, xr_100_4 x, xk_105 x, rtZ0, rtZ1, e_Ta_addPaper, b_Ta_addPaper_0, b_Ta_addPaper_2, b_Ta_addPaper_15, b_Ta_addPaper_27, rtV, hI_sI, hJ_sI, hR_sI, hK_sI, hN_sI, hz_sI, hu_sI, hJ_sJ, hI_sJ, hR_sJ, hK_sJ, hN_sJ, hz_sJ, hu_sJ, hR_sR, hI_sR, hJ_sR, hK_sR, hN_sR, hz_sR, hu_sR, mem20, mem21, mem22, al20, al21, al33, al34, al36, al37, al38, aa33, aa34, aa36, aa37, aa38, true_and, and_true, Int32.reduceOfNat, forall_const, true_implies, implies_true, false_implies, not_true_eq_false, not_false_eq_true]
  by_cases q : 1 ≤ n ∧ n ≤ 9999
  · by_cases q2 : 0 ≤ r ∧ r ≤ n
    · by_cases q3 : s = 0 <;> simp [q, q2, q3]
    · simp [q, q2]
  · simp [q]
theorem c_M_paper {d : Nat} (s n r : Int32) (h : AH) (m : MLY h) (Q : Option Value → AH → Prop) : Cl (d + 3) q_M_paper [.ref 342, .int s, .int n, .int r] h Q ↔ if (1 ≤ n ∧ n ≤ 9999) ∧ (0 ≤ r ∧ r ≤ n) then (if s = 0 then Q (some (.int 1)) (sJ (sJ (sI h 342 0 0) 373 2 (hJ h 373 2 + Int32.toInt64 n)) 373 3 (hJ h 373 3 + Int32.toInt64 r)) else Q (some (.int 1)) (sJ (sJ (sI h 342 0 0) 373 0 (hJ h 373 0 + Int32.toInt64 n)) 373 1 (hJ h 373 1 + Int32.toInt64 r))) else Q (some (.int 0)) (sI h 342 0 0) := by
  have x0 : ixo 0 4 = true := by decide
  have x1' : ixo 1 4 = true := by decide
  have x2' : ixo 2 4 = true := by decide
  have x3' : ixo 3 4 = true := by decide
  simp only [e_M_paper, b_M_paper_0, b_M_paper_7, b_M_paper_8, b_M_paper_12, b_M_paper_13, b_M_paper_15, b_M_paper_19, b_M_paper_21, b_M_paper_22, b_M_paper_32, b_M_paper_34, b_M_paper_35, c_M_within, Option.toList, List.cons_append, List.nil_append, bw0, mo m, mr_39 m, mk_373 m, mn_373 m, rtZ0, rtZ1, x0, x1', x2', x3', tn0, tn1, tn2, tn3, hI_sI, hJ_sI, hR_sI, hK_sI, hN_sI, hz_sI, hu_sI, hJ_sJ, hI_sJ, hR_sJ, hK_sJ, hN_sJ, hz_sJ, hu_sJ, hR_sR, hI_sR, hJ_sR, hK_sR, hN_sR, hz_sR, hu_sR, mem20, mem21, mem22, al20, al21, al33, al34, al36, al37, al38, aa33, aa34, aa36, aa37, aa38, true_and, and_true, Int32.reduceOfNat, forall_const, true_implies, implies_true, false_implies, not_true_eq_false, not_false_eq_true]
  by_cases q : 1 ≤ n ∧ n ≤ 9999
  · by_cases q2 : 0 ≤ r ∧ r ≤ n
    · by_cases q3 : s = 0 <;> simp [q, q2, q3]
    · simp [q, q2]
  · simp [q]
theorem hJ_same (h : AH) (a j : Nat) (v : Int64) (k : Nat) : hJ (sJ h a j v) a k = if k = j then v else hJ h a k := if_pos rfl
/-- only what is counted has changed -/
theorem Inv.ty {L : Nat} {xs : Nat → Int32} {c : Nat} {h h2 : AH} (i : Inv L xs c h) (fr2 : Fr (fun a => a = 105 ∨ a = 106 ∨ a = 342) (fun a => a = 372 ∨ a = 373) h h2) (s342 : ∀ j, j ≠ 0 → hI h2 342 j = hI h 342 j) (e1 : hI h2 105 1 = hI h 105 1) (ty : ITy (9999 * (c + 1)) h2) : Inv L xs (c + 1) h2 := by
  obtain ⟨i1, i2, i3, i4, i5, i6, i7, i8, i9, i10, i11, i12, i13, i14, i15⟩ := i
  refine ⟨i1.fr fr2 (fun a z => by omega), i2.fr fr2, i3.fr fr2, by rw [fr2.K, fr2.N]; exact i4, i5.fr (fun a z => fr2.I (by omega)), i6.fr (by rw [fr2.I (by omega)]) (s342 15 (by decide)), i7.fr (fun a z => fr2.I (by omega)), i8.fr (by rw [fr2.I (by omega)]) (fr2.I (by omega)) (fr2.I (by omega)) (s342 2 (by decide)), i9.fr fr2 (fun a z => by omega), i10.fr fr2 (fun a z => by omega), i11.fr e1 (s342 30 (by decide)), i12.fr (fun a z => fr2.I (by omega)), ty, i14.fr (by omega) (fun a z => fr2.I (by omega)) (fr2.J (by omega)), ?_⟩
  rw [fr2.z, fr2.u]
  exact ⟨i15.1, by omega, by omega⟩
section OPS
variable {L : Nat} {xs : Nat → Int32} {c : Nat} {h : AH}
theorem op_confess (i : Inv L xs c h) (x1 x2 x3 n : Int32) : OpI L xs c q_X_confess [.ref 100, .int x1, .int x2, .int x3, .int n] q_M_confess [.ref 342, .int x1, .int x2, .int x3, .int n] h := by
  unfold OpI
  rw [c_X_confess (d := 97) x1 x2 x3 n h i.2.1]
  by_cases q : 0 ≤ n ∧ n ≤ 9999
  · rw [if_pos q]
    refine ⟨1, rfl, ?_⟩
    have l := cfN_lt x1 x2 x3
    obtain ⟨n1, n2⟩ := n_of (M := 9999) (n := 9999) (by decide) q
    obtain ⟨t, ht, rfl⟩ : ∃ t, t ≤ 9999 ∧ n = nI t := ⟨_, n1, n2⟩
    have fr1 : Fr (fun a => a = 105 ∨ a = 106 ∨ a = 342) (fun a => a = 372 ∨ a = 373) h (sI h 106 (cfN x1 x2 x3) (hI h 106 (cfN x1 x2 x3) + nI t)) := Fr.rfl'.sI (Or.inr (Or.inl rfl))
    rw [c_M_confess (d := 97) x1 x2 x3 (nI t) _ (i.2.2.1.fr fr1), if_pos q]
    refine ⟨rfl, ?_⟩
    generalize cfN x1 x2 x3 = k at l fr1 ⊢
    have fr2 := (fr1.sI (a := 342) (j := 0) (v := 0) (Or.inr (Or.inr rfl))).sJ (a := 372) (j := k) (v := hJ (sI h 106 k (hI h 106 k + nI t)) 372 k + Int32.toInt64 (nI t)) (Or.inl rfl) (by decide)
    refine i.ty fr2 ?_ ?_ ?_
    · intro j hj
      rw [hI_sJ, hI_same, if_neg hj, rI_sI (by decide)]
    · rw [hI_sJ, rI_sI (by decide), rI_sI (by decide)]
    · have ty := i.2.2.2.2.2.2.2.2.2.2.2.2.1
      constructor
      · intro j hj
        obtain ⟨v, a, b, e⟩ := ty.1 j hj
        have b' : hI h 106 j = nI v := b
        rw [Nat.zero_add] at e ⊢
        by_cases qk : j = k
        · subst qk
          refine ⟨v + t, by omega, ?_, ?_⟩
          · show hI _ 106 j = _
            rw [hI_sJ, rI_sI (by decide), hI_same, if_pos rfl, b', nadd]
          · rw [hJ_same, if_pos rfl, hJ_sI, e, nI_l (by omega), ladd]
        · refine ⟨v, by omega, ?_, ?_⟩
          · show hI _ 106 j = _
            rw [hI_sJ, rI_sI (by decide), hI_same, if_neg qk, b']
          · rw [hJ_same, if_neg qk, hJ_sI, hJ_sI, e]
      · intro j hj
        obtain ⟨v, a, b, e⟩ := ty.2 j hj
        refine ⟨v, by omega, ?_, ?_⟩
        · rw [hI_sJ, rI_sI (by decide), rI_sI (by decide), b]
        · rw [rJ_sJ (by decide), hJ_sI, hJ_sI, e]
  · rw [if_neg q]
    refine ⟨0, rfl, ?_⟩
    rw [c_M_confess (d := 97) x1 x2 x3 n h i.2.2.1, if_neg q]
    exact ⟨rfl, i.th⟩
theorem op_paper (i : Inv L xs c h) (s n r : Int32) : OpI L xs c q_X_paper [.ref 100, .int s, .int n, .int r] q_M_paper [.ref 342, .int s, .int n, .int r] h := by
  unfold OpI
  rw [c_X_paper (d := 97) s n r h i.2.1]
  by_cases q : (1 ≤ n ∧ n ≤ 9999) ∧ (0 ≤ r ∧ r ≤ n)
  · rw [if_pos q]
    obtain ⟨n1, n2⟩ := n_of (M := 9999) (n := 9999) (by decide) ⟨i_tr (show (0 : Int32) ≤ 1 by decide) q.1.1, q.1.2⟩
    obtain ⟨t, ht, rfl⟩ : ∃ t, t ≤ 9999 ∧ n = nI t := ⟨_, n1, n2⟩
    obtain ⟨n3, n4⟩ := n_of (M := nI t) (n := t) (tI (by omega)) q.2
    obtain ⟨u, hu, rfl⟩ : ∃ u, u ≤ t ∧ r = nI u := ⟨_, n3, n4⟩
    have gen : ∀ k, k = 0 ∨ k = 2 → ∀ P : AH → Prop, (∀ h2, Inv L xs (c + 1) h2 → P h2) → P (sJ (sJ (sI (sI (sI h 105 (3 + k) (hI h 105 (3 + k) + nI t)) 105 (4 + k) (hI h 105 (4 + k) + nI u)) 342 0 0) 373 k (hJ h 373 k + Int32.toInt64 (nI t))) 373 (k + 1) (hJ h 373 (k + 1) + Int32.toInt64 (nI u))) := by
      intro k hk P hP
      apply hP
      have fr2 : Fr (fun a => a = 105 ∨ a = 106 ∨ a = 342) (fun a => a = 372 ∨ a = 373) h (sJ (sJ (sI (sI (sI h 105 (3 + k) (hI h 105 (3 + k) + nI t)) 105 (4 + k) (hI h 105 (4 + k) + nI u)) 342 0 0) 373 k (hJ h 373 k + Int32.toInt64 (nI t))) 373 (k + 1) (hJ h 373 (k + 1) + Int32.toInt64 (nI u))) :=
        ((((Fr.rfl'.sI (Or.inl rfl)).sI (Or.inl rfl)).sI (Or.inr (Or.inr rfl))).sJ (Or.inr rfl) (by decide)).sJ (Or.inr rfl) (by decide)
      refine i.ty fr2 ?_ ?_ ?_
      · intro j hj
        rw [hI_sJ, hI_sJ, hI_same, if_neg hj, rI_sI (by decide), rI_sI (by decide)]
      · rw [hI_sJ, hI_sJ, rI_sI (by decide), hI_same, if_neg (by omega), hI_same, if_neg (by omega)]
      · have ty := i.2.2.2.2.2.2.2.2.2.2.2.2.1
        constructor
        · intro j hj
          obtain ⟨v, a, b, e⟩ := ty.1 j hj
          refine ⟨v, by omega, ?_, ?_⟩
          · rw [hI_sJ, hI_sJ, rI_sI (by decide), rI_sI (by decide), rI_sI (by decide), b]
          · rw [rJ_sJ (by decide), rJ_sJ (by decide), hJ_sI, hJ_sI, hJ_sI, e]
        · intro j hj
          obtain ⟨v, a, b, e⟩ := ty.2 j hj
          rw [Nat.zero_add] at e ⊢
          rw [hI_sJ, hI_sJ, rI_sI (by decide), hI_same, hI_same, hJ_same, hJ_same, hJ_sI, hJ_sI, hJ_sI]
          by_cases q1 : j = k
          · subst q1
            refine ⟨v + t, by omega, ?_, ?_⟩
            · rw [if_neg (by omega), if_pos rfl, b, nadd]
            · rw [if_neg (by omega), if_pos rfl, e, nI_l (by omega), ladd]
          · by_cases q2 : j = k + 1
            · subst q2
              refine ⟨v + u, by omega, ?_, ?_⟩
              · have b' : hI h 105 (4 + k) = nI v := by rw [← b]; congr 1; omega
                rw [if_pos (by omega), b', nadd]
              · rw [if_pos rfl, e, nI_l (by omega), ladd]
            · refine ⟨v, by omega, ?_, ?_⟩
              · rw [if_neg (by omega), if_neg (by omega), b]
              · rw [if_neg (by omega), if_neg (by omega), e]
    by_cases q3 : s = 0
    · rw [if_pos q3]
      refine ⟨1, rfl, ?_⟩
      have fr1 : Fr (fun a => a = 105 ∨ a = 106 ∨ a = 342) (fun a => a = 372 ∨ a = 373) h (sI (sI h 105 5 (hI h 105 5 + nI t)) 105 6 (hI h 105 6 + nI u)) := (Fr.rfl'.sI (Or.inl rfl)).sI (Or.inl rfl)
      rw [c_M_paper (d := 97) s (nI t) (nI u) _ (i.2.2.1.fr fr1), if_pos q, if_pos q3]
      exact ⟨rfl, gen 2 (Or.inr rfl) _ (fun _ z => z)⟩
    · rw [if_neg q3]
      refine ⟨1, rfl, ?_⟩
      have fr1 : Fr (fun a => a = 105 ∨ a = 106 ∨ a = 342) (fun a => a = 372 ∨ a = 373) h (sI (sI h 105 3 (hI h 105 3 + nI t)) 105 4 (hI h 105 4 + nI u)) := (Fr.rfl'.sI (Or.inl rfl)).sI (Or.inl rfl)
      rw [c_M_paper (d := 97) s (nI t) (nI u) _ (i.2.2.1.fr fr1), if_pos q, if_neg q3]
      exact ⟨rfl, gen 0 (Or.inl rfl) _ (fun _ z => z)⟩
  · rw [if_neg q]
    refine ⟨0, rfl, ?_⟩
    rw [c_M_paper (d := 97) s n r h i.2.2.1, if_neg q]
    exact ⟨rfl, i.th⟩
end OPS
