--deps: 82.ops1
/-! LOOKING UP -/
theorem c_X_toldPerson {d : Nat} (p : Int32) (h : AH) (x : XLY h) (Q : Option Value → AH → Prop) : Cl (d + 1) q_X_toldPerson [.ref 100, .int p] h Q ↔ Q (some (.ref (if (0 ≤ p ∧ p ≤ 7) ∧ ¬ hI h (146 + p.toNatClampNeg) 0 = 0 then 146 + p.toNatClampNeg else 0))) h := by
  simp only [e_X_toldPerson, b_X_toldPerson_0, b_X_toldPerson_2, b_X_toldPerson_7, b_X_toldPerson_13, b_X_toldPerson_15, xk_100 x, xr_100_0 x, xk_101 x, xn_101 x, rtA, mem20, mem21, mem22, al20, al21, al33, al34, al36, al37, al38, aa33, aa34, aa36, aa37, aa38, true_and, and_true, Int32.reduceOfNat, forall_const, true_implies, implies_true, false_implies, not_true_eq_false, not_false_eq_true]
  by_cases q1 : 0 ≤ p ∧ p ≤ 7
  · obtain ⟨n1, n2⟩ := n_of (M := 7) (n := 7) (by decide) q1
    have i1 : ixo p 8 = true := ix_w (k := 7) q1 (by decide) (by decide)
    have fr := f_pe x (p := p.toNatClampNeg) (by omega)
    have gk := g_pe_k x (p := p.toNatClampNeg) (by omega)
    simp only [i1, fr, gk, mem20, mem21, mem22, al20, al21, al33, al34, al36, al37, al38, aa33, aa34, aa36, aa37, aa38, true_and, and_true, Int32.reduceOfNat, forall_const, true_implies, implies_true, false_implies, not_true_eq_false, not_false_eq_true]
    grind
  · grind
theorem c_X_toldPlan {d : Nat} (p : Int32) (h : AH) (x : XLY h) (Q : Option Value → AH → Prop) : Cl (d + 1) q_X_toldPlan [.ref 100, .int p] h Q ↔ Q (some (.ref (if (0 ≤ p ∧ p ≤ 3) ∧ ¬ hI h (154 + 4 * p.toNatClampNeg) 3 = 0 then 154 + 4 * p.toNatClampNeg else 0))) h := by
  simp only [e_X_toldPlan, b_X_toldPlan_0, b_X_toldPlan_2, b_X_toldPlan_7, b_X_toldPlan_13, b_X_toldPlan_15, xk_100 x, xr_100_1 x, xk_102 x, xn_102 x, rtA, mem20, mem21, mem22, al20, al21, al33, al34, al36, al37, al38, aa33, aa34, aa36, aa37, aa38, true_and, and_true, Int32.reduceOfNat, forall_const, true_implies, implies_true, false_implies, not_true_eq_false, not_false_eq_true]
  by_cases q1 : 0 ≤ p ∧ p ≤ 3
  · obtain ⟨n1, n2⟩ := n_of (M := 3) (n := 3) (by decide) q1
    have i1 : ixo p 4 = true := ix_w (k := 3) q1 (by decide) (by decide)
    have fr := f_pl x (p := p.toNatClampNeg) (by omega)
    have gk := g_pl_k x (p := p.toNatClampNeg) (by omega)
    simp only [i1, fr, gk, mem20, mem21, mem22, al20, al21, al33, al34, al36, al37, al38, aa33, aa34, aa36, aa37, aa38, true_and, and_true, Int32.reduceOfNat, forall_const, true_implies, implies_true, false_implies, not_true_eq_false, not_false_eq_true]
    grind
  · grind
theorem c_X_readerOf {d : Nat} (p : Int32) (h : AH) (x : XLY h) (Q : Option Value → AH → Prop) : Cl (d + 1) q_X_readerOf [.ref 100, .int p] h Q ↔ Q (some (.ref (if 0 ≤ p ∧ p ≤ 3 then 170 + 5 * p.toNatClampNeg else 0))) h := by
  simp only [e_X_readerOf, b_X_readerOf_0, b_X_readerOf_2, b_X_readerOf_7, b_X_readerOf_9, xk_100 x, xr_100_2 x, xk_103 x, xn_103 x, rtA, mem20, mem21, mem22, al20, al21, al33, al34, al36, al37, al38, aa33, aa34, aa36, aa37, aa38, true_and, and_true, Int32.reduceOfNat, forall_const, true_implies, implies_true, false_implies, not_true_eq_false, not_false_eq_true]
  by_cases q1 : 0 ≤ p ∧ p ≤ 3
  · obtain ⟨n1, n2⟩ := n_of (M := 3) (n := 3) (by decide) q1
    have i1 : ixo p 4 = true := ix_w (k := 3) q1 (by decide) (by decide)
    have fr := f_rd x (p := p.toNatClampNeg) (by omega)
    simp only [i1, fr, mem20, mem21, mem22, al20, al21, al33, al34, al36, al37, al38, aa33, aa34, aa36, aa37, aa38, true_and, and_true, Int32.reduceOfNat, forall_const, true_implies, implies_true, false_implies, not_true_eq_false, not_false_eq_true]
    grind
  · grind
theorem c_X_keptSitting {d : Nat} (p : Int32) (h : AH) (x : XLY h) (Q : Option Value → AH → Prop) : Cl (d + 1) q_X_keptSitting [.ref 100, .int p] h Q ↔ Q (some (.ref (if (0 ≤ p ∧ p ≤ 23) ∧ p < hI h 105 1 then 190 + 6 * p.toNatClampNeg else 0))) h := by
  simp only [e_X_keptSitting, b_X_keptSitting_0, b_X_keptSitting_2, b_X_keptSitting_7, b_X_keptSitting_12, b_X_keptSitting_14, xk_100 x, xr_100_3 x, xr_100_4 x, xk_104 x, xn_104 x, xk_105 x, rtA, mem20, mem21, mem22, al20, al21, al33, al34, al36, al37, al38, aa33, aa34, aa36, aa37, aa38, true_and, and_true, Int32.reduceOfNat, forall_const, true_implies, implies_true, false_implies, not_true_eq_false, not_false_eq_true]
  by_cases q1 : 0 ≤ p ∧ p ≤ 23
  · obtain ⟨n1, n2⟩ := n_of (M := 23) (n := 23) (by decide) q1
    have i1 : ixo p 24 = true := ix_w (k := 23) q1 (by decide) (by decide)
    have fr := f_si x (p := p.toNatClampNeg) (by omega)
    simp only [i1, fr, mem20, mem21, mem22, al20, al21, al33, al34, al36, al37, al38, aa33, aa34, aa36, aa37, aa38, true_and, and_true, Int32.reduceOfNat, forall_const, true_implies, implies_true, false_implies, not_true_eq_false, not_false_eq_true]
    grind
  · grind
/-- a question's answer -/
def qsF (h : AH) (p q w : Int32) : Int32 := if ((0 ≤ p ∧ p ≤ 3) ∧ 0 < hI h 353 p.toNatClampNeg) ∧ (0 ≤ q ∧ q ≤ hI h 353 p.toNatClampNeg - 1) ∧ (0 ≤ w ∧ w ≤ 2) then (if w = 0 then hI h 354 (12 * p.toNatClampNeg + q.toNatClampNeg) else if w = 1 then hI h 355 (12 * p.toNatClampNeg + q.toNatClampNeg) else hI h 356 (12 * p.toNatClampNeg + q.toNatClampNeg)) else -1
theorem c_M_question {d : Nat} (p q w : Int32) (h : AH) (m : MLY h) (b : ∀ k, k < 4 → ∃ n, n ≤ 12 ∧ hI h 353 k = nI n) (Q : Option Value → AH → Prop) : Cl (d + 3) q_M_question [.ref 342, .int p, .int q, .int w] h Q ↔ Q (some (.int (qsF h p q w))) (sI h 342 0 0) := by
  have m1 : MLY (sI h 342 0 0) := m.fr (S := onl 342) (T := nov) (Fs1 Fr.rfl')
  simp only [e_M_question, b_M_question_0, b_M_question_6, b_M_question_7, b_M_question_16, b_M_question_17, b_M_question_21, b_M_question_22, b_M_question_24, b_M_question_32, b_M_question_37, b_M_question_40, b_M_question_45, b_M_question_49, c_M_within, c_M_isPlan _ _ m1, Option.toList, List.cons_append, List.nil_append, bw0, mo m, mo m1, mr_16 m1, mr_17 m1, mr_18 m1, mr_19 m1, mk_353 m1, mn_353 m1, mk_354 m1, mn_354 m1, mk_355 m1, mn_355 m1, mk_356 m1, mn_356 m1, rI_sI (show 353 ≠ 342 by decide), rI_sI (show 354 ≠ 342 by decide), rI_sI (show 355 ≠ 342 by decide), rI_sI (show 356 ≠ 342 by decide), rtI, mem20, mem21, mem22, al20, al21, al33, al34, al36, al37, al38, aa33, aa34, aa36, aa37, aa38, true_and, and_true, Int32.reduceOfNat, forall_const, true_implies, implies_true, false_implies, not_true_eq_false, not_false_eq_true]
  unfold qsF
  by_cases q1 : 0 ≤ p ∧ p ≤ 3
  · obtain ⟨n1, n2⟩ := n_of (M := 3) (n := 3) (by decide) q1
    obtain ⟨k, hk, rfl⟩ : ∃ k, k ≤ 3 ∧ p = nI k := ⟨_, n1, n2⟩
    have c1 := cN (n := k) (by omega)
    have i1 : ixo (nI k) 5 = true := nix (by omega) (by decide)
    obtain ⟨n, hn, en⟩ := b k (by omega)
    rw [c1, en]
    by_cases q2 : 0 < nI n
    · have n0 : 0 < n := (nlt (a := 0) (by decide) (by omega)).mp q2
      have e1 : nI n - 1 = nI (n - 1) := nsub (b := 1) (by omega)
      rw [e1]
      by_cases q3 : 0 ≤ q ∧ q ≤ nI (n - 1)
      · obtain ⟨a1, a2⟩ := n_of (M := nI (n - 1)) (n := n - 1) (tI (by omega)) q3
        obtain ⟨j, hj, rfl⟩ : ∃ j, j ≤ n - 1 ∧ q = nI j := ⟨_, a1, a2⟩
        have c2 := cN (n := j) (by omega)
        have e2 : 12 * nI k + nI j = nI (12 * k + j) := n12
        have i2 : ixo (nI (12 * k + j)) 60 = true := nix (by omega) (by decide)
        simp only [i1, e2, i2, c2, cN (show 12 * k + j < 2147483648 by omega), mem20, mem21, mem22, al20, al21, al33, al34, al36, al37, al38, aa33, aa34, aa36, aa37, aa38, true_and, and_true, Int32.reduceOfNat, forall_const, true_implies, implies_true, false_implies, not_true_eq_false, not_false_eq_true]
        grind
      · grind
    · grind
  · grind
theorem c_X_question {d : Nat} (p q w : Int32) (h : AH) (x : XLY h) (ip : IPl h) (Q : Option Value → AH → Prop) : Cl (d + 2) q_X_question [.ref 100, .int p, .int q, .int w] h Q ↔ Q (some (.int (qsF h p q w))) h := by
  rw [e_X_question, b_X_question_0]
  simp only [c_X_toldPlan p h x, Option.toList, List.cons_append, List.nil_append, b_X_question_3, b_X_question_6, xk_100 x, rtI, true_and]
  unfold qsF
  by_cases q1 : 0 ≤ p ∧ p ≤ 3
  · obtain ⟨n1, n2⟩ := n_of (M := 3) (n := 3) (by decide) q1
    obtain ⟨k, hk, rfl⟩ : ∃ k, k ≤ 3 ∧ p = nI k := ⟨_, n1, n2⟩
    have c1 := cN (n := k) (by omega)
    obtain ⟨n, ks, hn, e1, e2, e3⟩ := ip k (by omega)
    have pl := pln_pl x (p := k) (by omega)
    rw [c1, e1, e2]
    by_cases q2 : nI n = 0
    · have q3 : ¬ 0 < nI n := by rw [q2]; decide
      simp [q1, q2, q3]
    · have n0 : ¬ n = 0 := fun z => q2 (by rw [z]; rfl)
      have q3 : 0 < nI n := (nlt (a := 0) (by decide) (by omega)).mpr (by omega)
      have e4 : nI n - 1 = nI (n - 1) := nsub (b := 1) (by omega)
      have z1 : ¬ (154 + 4 * k = 0) := by omega
      have z2 : 100 ≤ 154 + 4 * k := by omega
      have f1 : 154 + 4 * k + 1 = 155 + 4 * k := by omega
      have f2 : 154 + 4 * k + 2 = 156 + 4 * k := by omega
      have f3 : 154 + 4 * k + 3 = 157 + 4 * k := by omega
      simp only [q1, q2, q3, z1, z2, or_true, not_false_eq_true, and_self, true_and, if_true, false_implies, true_implies]
      rw [b_X_question_8]
      have val : ∀ g j, (∀ t, t < n → hI h (154 + 4 * k + g) t = hI h j (12 * k + t)) → pAt (hI h (154 + 4 * k + g)) (nI n) q = if 0 ≤ q ∧ q ≤ nI n - 1 then hI h j (12 * k + q.toNatClampNeg) else -1 := by
        intro g j hg
        rw [e4]
        by_cases q5 : 0 ≤ q ∧ q ≤ nI (n - 1)
        · obtain ⟨a1, a2⟩ := n_of (M := nI (n - 1)) (n := n - 1) (tI (by omega)) q5
          obtain ⟨t, ht, rfl⟩ : ∃ t, t ≤ n - 1 ∧ q = nI t := ⟨_, a1, a2⟩
          rw [if_pos q5, pAt_n _ (by omega) hn, cN (by omega), hg t (by omega)]
        · rw [if_neg q5]
          unfold pAt
          rw [if_neg]
          intro z
          apply q5
          refine ⟨z.1, ?_⟩
          obtain ⟨t, ht, rfl⟩ := n_ex n z.1 z.2.1 (by omega)
          exact (nle (by omega) (by omega)).mpr (by omega)
      have v1 := val 1 354 (fun t ht => by rw [f1, (e3 t ht).1, (e3 t ht).2.1])
      have v2 := val 2 355 (fun t ht => by rw [f2]; exact (e3 t ht).2.2.2.1)
      have v3 := val 3 356 (fun t ht => by rw [f3]; exact (e3 t ht).2.2.2.2.2)
      by_cases w0 : w = 0
      · subst w0
        simp [b_X_question_10, b_X_question_13, c_Pl_kindAt _ q h pl, e1, v1, rtI]
      · by_cases w1 : w = 1
        · subst w1
          simp [b_X_question_14, b_X_question_17, c_Pl_itemAt _ q h pl, e1, v2, rtI]
        · by_cases w2 : w = 2
          · subst w2
            simp [b_X_question_18, b_X_question_21, c_Pl_minutesAt _ q h pl, e1, v3, rtI]
          · have wt : Int32.toInt w < 0 ∨ 0 + (List.length [10, 14, 18] : Nat) ≤ Int32.toInt w := by
              have u0 : ¬ w.toInt = 0 := fun z => w0 (Int32.toInt_inj.mp (by rw [z]; rfl))
              have u1 : ¬ w.toInt = 1 := fun z => w1 (Int32.toInt_inj.mp (by rw [z]; rfl))
              have u2 : ¬ w.toInt = 2 := fun z => w2 (Int32.toInt_inj.mp (by rw [z]; rfl))
              simp only [List.length_cons, List.length_nil]
              omega
            have wn : ¬ (0 ≤ w ∧ w ≤ 2) := by grind
            simp only [wt, true_implies, not_true_eq_false, false_implies, and_true, b_X_question_22, rtI, true_and, wn, and_false, if_false]
  · simp [q1]
section OPS
variable {L : Nat} {xs : Nat → Int32} {c : Nat} {h : AH}
theorem op_question (i : Inv L xs c h) (p q w : Int32) : OpI L xs c q_X_question [.ref 100, .int p, .int q, .int w] q_M_question [.ref 342, .int p, .int q, .int w] h := by
  unfold OpI
  rw [c_X_question (d := 98) p q w h i.2.1 i.2.2.2.2.2.2.1]
  refine ⟨_, rfl, ?_⟩
  rw [c_M_question (d := 97) p q w h i.2.2.1 (fun k hk => by obtain ⟨n, ks, a, b, d, e⟩ := i.2.2.2.2.2.2.1 k hk; exact ⟨n, a, d⟩)]
  exact ⟨rfl, i.th⟩
end OPS
