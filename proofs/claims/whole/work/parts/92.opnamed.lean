--deps: 91.oprates
/-! NAMED -/
theorem lmul (a b : Nat) : lN a * lN b = lN (a * b) := (Int64.ofNat_mul a b).symm
theorem ladd (a b : Nat) : lN a + lN b = lN (a + b) := (Int64.ofNat_add a b).symm
theorem hN'_le (t : Nat → Int32) : ∀ s, hN' t s ≤ s
  | 0 => Nat.le_refl _
  | s + 1 => by
    have := hN'_le t s
    unfold hN'
    split <;> omega
theorem rwN_le (td dn : Nat → Int32) (T : Nat → Nat → Int32) (sn i : Nat) : ∀ m, rwN td dn T sn m i ≤ m * sn
  | 0 => Nat.zero_le _
  | m + 1 => by
    have := rwN_le td dn T sn i m
    have h2 := hN'_le (T m) sn
    rw [rwN_s, Nat.succ_mul]
    dsimp only
    split
    · omega
    · split
      · omega
      · split <;> omega
theorem c_X_lowest0 {d : Nat} (up : Int64) (w : Int32) (h : AH) (Q : Option Value → AH → Prop) : Cl (d + 2) q_X_lowest [.long up, .long (lN 0), .int w] h Q ↔ Q (some (.long (Int32.toInt64 w))) h := by
  rw [e_X_lowest, b_X_lowest_0]
  have e : ¬ 0 < lg_cmp (lN 0) 0 := by decide
  simp only [e, b_X_lowest_4, rtJ, mem20, mem21, mem22, al20, al21, al33, al34, al36, al37, al38, aa33, aa34, aa36, aa37, aa38, true_and, and_true, Int32.reduceOfNat, forall_const, true_implies, implies_true, false_implies, not_true_eq_false, not_false_eq_true]
def nmF (G D : Nat) (w : Int32) : Int64 := if D = 0 then Int32.toInt64 w else lwf (lN G) D w
section OPS
variable {L : Nat} {xs : Nat → Int32} {c : Nat} {h : AH}
theorem op_named (i : Inv L xs c h) (n dd p r f s w : Int32) : OpJ L xs c q_X_named [.ref 100, .int n, .int dd, .int p, .int r, .int f, .int s, .int w] q_M_named [.ref 342, .int n, .int dd, .int p, .int r, .int f, .int s, .int w] h := by
  have ii := i
  obtain ⟨i1, i2, i3, i4, i5, i6, i7, i8, i9, i10, i11, i12, i13, i14, i15⟩ := i
  have m1 : MLY (sI h 342 0 0) := i3.fr (S := onl 342) (T := nov) (Fs1 Fr.rfl')
  have no : ¬ ((1 ≤ n ∧ n ≤ 9999) ∧ (0 ≤ dd ∧ dd ≤ n) ∧ (((0 ≤ p ∧ p ≤ 3) ∧ 0 < hI h 353 p.toNatClampNeg) ∧ (0 ≤ r ∧ r ≤ 3) ∧ (-9 ≤ f ∧ f ≤ 9) ∧ (1 ≤ s ∧ s ≤ 40)) ∧ (0 ≤ w ∧ w ≤ 1)) → ∃ v : Int64, some (Value.long (-1)) = some (Value.long v) ∧ Cl 100 q_M_named [.ref 342, .int n, .int dd, .int p, .int r, .int f, .int s, .int w] h (fun r' h2 => r' = some (.long v) ∧ Inv L xs (c + 1) h2) := by
    intro q
    refine ⟨-1, rfl, ?_⟩
    rw [e_M_named, b_M_named_0]
    simp only [mo i3, c_M_areRates _ _ _ _ _ m1, c_M_within, Option.toList, List.cons_append, List.nil_append, b_M_named_7, b_M_named_8, b_M_named_12, b_M_named_13, b_M_named_19, b_M_named_20, b_M_named_24, b_M_named_25, bw0, rtJ, mem20, mem21, mem22, al20, al21, al33, al34, al36, al37, al38, aa33, aa34, aa36, aa37, aa38, true_and, and_true, Int32.reduceOfNat, forall_const, true_implies, implies_true, false_implies, not_true_eq_false, not_false_eq_true, rI_sI (show 353 ≠ 342 by decide)]
    have fin := ii.th (v := 0)
    by_cases q1 : 1 ≤ n ∧ n ≤ 9999
    · by_cases q2 : 0 ≤ dd ∧ dd ≤ n
      · by_cases q3 : ((0 ≤ p ∧ p ≤ 3) ∧ 0 < hI h 353 p.toNatClampNeg) ∧ (0 ≤ r ∧ r ≤ 3) ∧ (-9 ≤ f ∧ f ≤ 9) ∧ (1 ≤ s ∧ s ≤ 40)
        · have q4 : ¬ (0 ≤ w ∧ w ≤ 1) := fun z => q ⟨q1, q2, q3, z⟩
          simp [q1, q2, q3, q4, fin]
        · simp [q1, q2, q3, fin]
      · simp [q1, q2, fin]
    · simp [q1, fin]
  unfold OpJ
  rw [e_X_named, b_X_named_0]
  simp only [c_within, Option.toList, List.cons_append, List.nil_append, b_X_named_4, b_X_named_5, b_X_named_9, b_X_named_10, b_X_named_14, b_X_named_15, bw0, xk_100 i2, rtJ, mem20, mem21, mem22, al20, al21, al33, al34, al36, al37, al38, aa33, aa34, aa36, aa37, aa38, true_and, and_true, Int32.reduceOfNat, forall_const, true_implies, implies_true, false_implies, not_true_eq_false, not_false_eq_true]
  by_cases q1 : 1 ≤ n ∧ n ≤ 9999
  · by_cases q2 : 0 ≤ dd ∧ dd ≤ n
    · by_cases q4 : 0 ≤ w ∧ w ≤ 1
      · simp only [q1, q2, q4, and_self, b_X_named_17, mem20, mem21, mem22, al20, al21, al33, al34, al36, al37, al38, aa33, aa34, aa36, aa37, aa38, true_and, and_true, Int32.reduceOfNat, forall_const, true_implies, implies_true, false_implies, not_true_eq_false, not_false_eq_true]
        by_cases q : ((0 ≤ p ∧ p ≤ 3) ∧ 0 < hI h 353 p.toNatClampNeg) ∧ (0 ≤ r ∧ r ≤ 3) ∧ (-9 ≤ f ∧ f ≤ 9) ∧ (1 ≤ s ∧ s ≤ 40)
        · obtain ⟨⟨p1, p5⟩, p2, p3, p4⟩ := q
          obtain ⟨n1, n2⟩ := n_of (M := 3) (n := 3) (by decide) p1
          obtain ⟨j, hj, rfl⟩ : ∃ j, j ≤ 3 ∧ p = nI j := ⟨_, n1, n2⟩
          obtain ⟨n3, n4⟩ := n_of (M := 3) (n := 3) (by decide) p2
          obtain ⟨k, hk, rfl⟩ : ∃ k, k ≤ 3 ∧ r = nI k := ⟨_, n3, n4⟩
          obtain ⟨n7, n8⟩ := n_of (M := 40) (n := 40) (by decide) ⟨i_tr (show (0 : Int32) ≤ 1 by decide) p4.1, p4.2⟩
          obtain ⟨sn, hsn, rfl⟩ : ∃ k, k ≤ 40 ∧ s = nI k := ⟨_, n7, n8⟩
          have sn0 : 0 < sn := (nle (a := 1) (by decide) (by omega)).mp p4.1
          obtain ⟨n9, n10⟩ := n_of (M := 9999) (n := 9999) (by decide) ⟨i_tr (show (0 : Int32) ≤ 1 by decide) q1.1, q1.2⟩
          obtain ⟨a, ha, rfl⟩ : ∃ a, a ≤ 9999 ∧ n = nI a := ⟨_, n9, n10⟩
          obtain ⟨n11, n12⟩ := n_of (M := nI a) (n := a) (tI (by omega)) q2
          obtain ⟨b, hb, rfl⟩ : ∃ b, b ≤ a ∧ dd = nI b := ⟨_, n11, n12⟩
          have cj := cN (n := j) (by omega)
          rw [cj] at p5
          obtain ⟨np, ks, ap⟩ := i7 j (by omega)
          obtain ⟨N, cc, xr, mr⟩ := i10 k (by omega)
          obtain ⟨bd, b1, b2, b3⟩ := i9
          have np0 : 0 < np := by
            rw [ap.2.2.1] at p5
            exact (nlt (a := 0) (by decide) (by have := ap.1; omega)).mp p5
          refine x_rated ii bd b1 j k np N sn ks cc f (by omega) (by omega) ap np0 xr p3 sn0 hsn _ ?_
          intro h1 fr1 g1
          have hS : ∀ a, rtt (170 + 5 * k) a → scr a ∧ a < 342 := fun a z => by
            unfold rtt rts at z
            unfold scr
            omega
          have x1 := i2.fr fr1
          have R0 := g1 0 (by decide)
          have R1 := g1 1 (by decide)
          have R2 := g1 2 (by decide)
          have R3 := g1 3 (by decide)
          have le : ∀ t, RTE h bd j np N sn ks cc f t ≤ 320 := fun t => by
            have := rwN_le (fun p => hI h 348 p) (fun p => hI h 350 p) (fun p => tv (jrow bd (fun q => hI h 354 (12 * j + q)) (fun q => hI h 355 (12 * j + q)) (hI h 342 15) (hI h 349 p) (hI h 350 p) (hI h 351 p) (hI h 352 p)) (fun q => hI h 355 (12 * j + q)) (hI h 342 15) np ks N cc f) sn t 8
            unfold RTE
            omega
          have frB : Fr (fun a => rtt (170 + 5 * k) a ∨ a = 342) nov h (sI h1 342 0 0) := (fr1.mo (fun a z => Or.inl z) (fun a z => z)).sI (Or.inr rfl)
          have m2 := i3.fr fr1
          have m3 := i3.fr frB
          have eo : ∀ a, 342 < a → hI (sI h1 342 0 0) a = hI h a := fun a ha => by rw [rI_sI (by omega), fr1.I (fun z => by have := (hS a z).2; omega)]
          have mrd := fun Q fin => m_rated (d := 94) ii bd b2 j k np N sn ks cc f (by omega) (by omega) ap mr sn0 hsn h1 fr1 (fun a z => (hS a z).2) Q fin
          generalize RTE h bd j np N sn ks cc f = R at *
          have x0 : ixo 0 4 = true := by decide
          have x1' : ixo 1 4 = true := by decide
          have x2' : ixo 2 4 = true := by decide
          have x3' : ixo 3 4 = true := by decide
          have r1z : (nI (R 1) = 0) ↔ R 1 = 0 := neq (b := 0) (by have := le 1; omega) (by decide)
          have r3z : (nI (R 3) = 0) ↔ R 3 = 0 := neq (b := 0) (by have := le 3; omega) (by decide)
          have l0 := nI_l (n := R 0) (by have := le 0; omega)
          have l1 := nI_l (n := R 1) (by have := le 1; omega)
          have l2 := nI_l (n := R 2) (by have := le 2; omega)
          have l3 := nI_l (n := R 3) (by have := le 3; omega)
          have lb := nI_l (n := b) (by omega)
          have lab := nI_l (n := a - b) (by omega)
          have sab : nI a - nI b = nI (a - b) := nsub hb
          simp only [Option.toList, List.cons_append, List.nil_append, b_X_named_23, b_X_named_24, b_X_named_29, b_X_named_34, b_X_named_36, xk_100 x1, xr_100_15 x1, xk_145 x1, xn_145 x1, x0, x1', x2', x3', tn0, tn1, tn2, tn3, R0, R1, R2, R3, r1z, r3z, l0, l1, l2, l3, lb, sab, lab, lmul, ladd, rtJ, mem20, mem21, mem22, al20, al21, al33, al34, al36, al37, al38, aa33, aa34, aa36, aa37, aa38, true_and, and_true, Int32.reduceOfNat, forall_const, true_implies, implies_true, false_implies, not_true_eq_false, not_false_eq_true, show ¬ (1 : Int32) = 0 by decide]
          -- the reference
          have rm : ∀ (v : Int64), v = (if R 1 = 0 ∨ R 3 = 0 then -1 else nmF (b * R 0 * R 3) (b * R 0 * R 3 + (a - b) * R 2 * R 1) w) → Cl 100 q_M_named [.ref 342, .int (nI a), .int (nI b), .int (nI j), .int (nI k), .int f, .int (nI sn), .int w] h1 (fun r' h2 => r' = some (.long v) ∧ Inv L xs (c + 1) h2) := by
            intro v hv
            rw [e_M_named, b_M_named_0]
            simp only [mo m2, c_M_areRates _ _ _ _ _ m3, c_M_within, Option.toList, List.cons_append, List.nil_append, b_M_named_7, b_M_named_8, b_M_named_12, b_M_named_13, b_M_named_19, b_M_named_20, b_M_named_24, bw0, eo 353 (by decide), cj, q1, q2, q4, p1, p2, p3, p4, p5, and_self, if_true, b_M_named_27, show ¬ (1 : Int32) = 0 by decide, mem20, mem21, mem22, al20, al21, al33, al34, al36, al37, al38, aa33, aa34, aa36, aa37, aa38, true_and, and_true, Int32.reduceOfNat, forall_const, true_implies, implies_true, false_implies, not_true_eq_false, not_false_eq_true]
            refine mrd _ ?_
            intro h2 fr2 kp2 g2
            have m4 := m3.fr fr2
            have inv := ii.rt fr1 hS fr2 (fun a z => by unfold mrs at z; omega) kp2
            have S0 := g2 0 (by decide)
            have S1 := g2 1 (by decide)
            have S2 := g2 2 (by decide)
            have S3 := g2 3 (by decide)
            simp only [Option.toList, List.cons_append, List.nil_append, b_M_named_33, b_M_named_38, b_M_named_43, b_M_named_45, mo m4, mr_36 m4, mk_370 m4, mn_370 m4, x0, x1', x2', x3', tn0, tn1, tn2, tn3, S0, S1, S2, S3, r1z, r3z, l0, l1, l2, l3, lb, sab, lab, lmul, ladd, rtJ, mem20, mem21, mem22, al20, al21, al33, al34, al36, al37, al38, aa33, aa34, aa36, aa37, aa38, true_and, and_true, Int32.reduceOfNat, forall_const, true_implies, implies_true, false_implies, not_true_eq_false, not_false_eq_true]
            by_cases z1 : R 1 = 0
            · rw [if_pos (Or.inl z1)] at hv
              simp only [z1, hv, inv, mem20, mem21, mem22, al20, al21, al33, al34, al36, al37, al38, aa33, aa34, aa36, aa37, aa38, true_and, and_true, Int32.reduceOfNat, forall_const, true_implies, implies_true, false_implies, not_true_eq_false, not_false_eq_true]
            · by_cases z3 : R 3 = 0
              · rw [if_pos (Or.inr z3)] at hv
                simp only [z1, z3, hv, inv, mem20, mem21, mem22, al20, al21, al33, al34, al36, al37, al38, aa33, aa34, aa36, aa37, aa38, true_and, and_true, Int32.reduceOfNat, forall_const, true_implies, implies_true, false_implies, not_true_eq_false, not_false_eq_true]
              · rw [if_neg (by omega)] at hv
                have bG : b * R 0 * R 3 ≤ 9999 * 320 * 320 := Nat.mul_le_mul (Nat.mul_le_mul (by omega) (le 0)) (le 3)
                have bO : (a - b) * R 2 * R 1 ≤ 9999 * 320 * 320 := Nat.mul_le_mul (Nat.mul_le_mul (by omega) (le 2)) (le 1)
                have lgz := lg0 (b := b * R 0 * R 3 + (a - b) * R 2 * R 1) (by omega)
                simp only [z1, z3, lgz, mem20, mem21, mem22, al20, al21, al33, al34, al36, al37, al38, aa33, aa34, aa36, aa37, aa38, true_and, and_true, Int32.reduceOfNat, forall_const, true_implies, implies_true, false_implies, not_true_eq_false, not_false_eq_true]
                unfold nmF at hv
                by_cases zD : b * R 0 * R 3 + (a - b) * R 2 * R 1 = 0
                · rw [if_pos zD] at hv
                  simp only [zD, b_M_named_83, b_M_named_90, hv, inv, rtJ, mem20, mem21, mem22, al20, al21, al33, al34, al36, al37, al38, aa33, aa34, aa36, aa37, aa38, true_and, and_true, Int32.reduceOfNat, forall_const, true_implies, implies_true, false_implies, not_true_eq_false, not_false_eq_true]
                · rw [if_neg zD] at hv
                  simp only [zD, b_M_named_86, c_M_lowest (lN (b * R 0 * R 3)) (b * R 0 * R 3 + (a - b) * R 2 * R 1) w h2 _ (by omega) (by omega) (by rw [pk_lT (by omega)]; omega), Option.toList, List.cons_append, List.nil_append, b_M_named_90, hv, inv, rtJ, mem20, mem21, mem22, al20, al21, al33, al34, al36, al37, al38, aa33, aa34, aa36, aa37, aa38, true_and, and_true, Int32.reduceOfNat, forall_const, true_implies, implies_true, false_implies, not_true_eq_false, not_false_eq_true]
          by_cases z1 : R 1 = 0
          · simp only [z1, mem20, mem21, mem22, al20, al21, al33, al34, al36, al37, al38, aa33, aa34, aa36, aa37, aa38, true_and, and_true, Int32.reduceOfNat, forall_const, true_implies, implies_true, false_implies, not_true_eq_false, not_false_eq_true]
            exact ⟨-1, rfl, rm _ (by rw [if_pos (Or.inl z1)])⟩
          · by_cases z3 : R 3 = 0
            · simp only [z1, z3, mem20, mem21, mem22, al20, al21, al33, al34, al36, al37, al38, aa33, aa34, aa36, aa37, aa38, true_and, and_true, Int32.reduceOfNat, forall_const, true_implies, implies_true, false_implies, not_true_eq_false, not_false_eq_true]
              exact ⟨-1, rfl, rm _ (by rw [if_pos (Or.inr z3)])⟩
            · have bG : b * R 0 * R 3 ≤ 9999 * 320 * 320 := Nat.mul_le_mul (Nat.mul_le_mul (by omega) (le 0)) (le 3)
              have bO : (a - b) * R 2 * R 1 ≤ 9999 * 320 * 320 := Nat.mul_le_mul (Nat.mul_le_mul (by omega) (le 2)) (le 1)
              simp only [z1, z3, mem20, mem21, mem22, al20, al21, al33, al34, al36, al37, al38, aa33, aa34, aa36, aa37, aa38, true_and, and_true, Int32.reduceOfNat, forall_const, true_implies, implies_true, false_implies, not_true_eq_false, not_false_eq_true]
              by_cases zD : b * R 0 * R 3 + (a - b) * R 2 * R 1 = 0
              · rw [zD]
                simp only [c_X_lowest0, Option.toList, List.cons_append, List.nil_append, b_X_named_74, rtJ, mem20, mem21, mem22, al20, al21, al33, al34, al36, al37, al38, aa33, aa34, aa36, aa37, aa38, true_and, and_true, Int32.reduceOfNat, forall_const, true_implies, implies_true, false_implies, not_true_eq_false, not_false_eq_true]
                exact ⟨_, rfl, rm _ (by rw [if_neg (by omega)]; unfold nmF; rw [if_pos zD])⟩
              · simp only [c_X_lowest (lN (b * R 0 * R 3)) (b * R 0 * R 3 + (a - b) * R 2 * R 1) w h1 _ (by omega) (by omega) (by rw [pk_lT (by omega)]; omega), Option.toList, List.cons_append, List.nil_append, b_X_named_74, rtJ, mem20, mem21, mem22, al20, al21, al33, al34, al36, al37, al38, aa33, aa34, aa36, aa37, aa38, true_and, and_true, Int32.reduceOfNat, forall_const, true_implies, implies_true, false_implies, not_true_eq_false, not_false_eq_true]
                exact ⟨_, rfl, rm _ (by rw [if_neg (by omega)]; unfold nmF; rw [if_neg zD])⟩
        · refine c_X_rated0 _ _ _ _ h i2 ?_ _ ?_
          · rintro ⟨⟨w1, w2⟩, w3, w4, w5⟩
            apply q
            refine ⟨⟨w1, ?_⟩, w3, w4, w5⟩
            obtain ⟨n1, n2⟩ := n_of (M := 3) (n := 3) (by decide) w1
            obtain ⟨j, hj, rfl⟩ : ∃ j, j ≤ 3 ∧ p = nI j := ⟨_, n1, n2⟩
            rw [cN (show j < 2147483648 by omega)] at w2 ⊢
            obtain ⟨np, ks, ap⟩ := i7 j (by omega)
            have := ap.1
            rw [ap.2.1] at w2
            rw [ap.2.2.1]
            exact (nlt (a := 0) (by decide) (by omega)).mpr (by
              have : ¬ np = 0 := fun z => w2 (by rw [z]; rfl)
              omega)
          · simp only [Option.toList, List.cons_append, List.nil_append, b_X_named_23, b_X_named_34, rtJ, mem20, mem21, mem22, al20, al21, al33, al34, al36, al37, al38, aa33, aa34, aa36, aa37, aa38, true_and, and_true, Int32.reduceOfNat, forall_const, true_implies, implies_true, false_implies, not_true_eq_false, not_false_eq_true]
            exact no (fun z => q z.2.2.1)
      · simp only [q1, q2, q4, and_self, mem20, mem21, mem22, al20, al21, al33, al34, al36, al37, al38, aa33, aa34, aa36, aa37, aa38, true_and, and_true, Int32.reduceOfNat, forall_const, true_implies, implies_true, false_implies, not_true_eq_false, not_false_eq_true]
        exact no (fun z => q4 z.2.2.2)
    · simp only [q1, q2, and_self, mem20, mem21, mem22, al20, al21, al33, al34, al36, al37, al38, aa33, aa34, aa36, aa37, aa38, true_and, and_true, Int32.reduceOfNat, forall_const, true_implies, implies_true, false_implies, not_true_eq_false, not_false_eq_true]
      exact no (fun z => q2 z.2.1)
  · simp only [q1, mem20, mem21, mem22, al20, al21, al33, al34, al36, al37, al38, aa33, aa34, aa36, aa37, aa38, true_and, and_true, Int32.reduceOfNat, forall_const, true_implies, implies_true, false_implies, not_true_eq_false, not_false_eq_true]
    exact no (fun z => q1 z.1)
end OPS
