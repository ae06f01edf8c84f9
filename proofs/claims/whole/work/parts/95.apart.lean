--deps: 94.optricked
/-! WHAT CAN BE TOLD APART -/
def sdc : Nat → Prop := fun a => a = 126 ∨ a = 128 ∨ a = 141 ∨ a = 143
def ulc : Nat → Prop := fun a => a = 126 ∨ a = 128 ∨ a = 142 ∨ a = 144
theorem c_X_seatDoer {d : Nat} (j n : Nat) (f : Int32) (bd : Nat → Option (List Nat)) (kd it : Nat → Int32) (ti : Int32) (h : AH) (x : XLY h) (b : XBd h bd) (hj : j < 4) (hn : hI h (154 + 4 * j) 3 = nI n) (hn2 : n ≤ 12) (hti : hI h 122 3 = ti) (hkd : ∀ q, q < n → hI h (155 + 4 * j) q = kd q ∧ hI h (156 + 4 * j) q = it q) (Q : Option Value → AH → Prop)
    (fin : ∀ h', Fr sdc nov h h' → (∀ i, i < 12 * n → hI h' 143 i = jrow bd kd it ti f 1 0 0 i) → Q none h') : Cl (d + 6) q_X_seatDoer [.ref 100, .ref (154 + 4 * j), .int f] h Q := by
  rw [e_X_seatDoer, b_X_seatDoer_0]
  simp only [xk_100 x, xr_100_11 x, c_Pe_tell 141 _ _ _ _ h (xk_141 x) i01_1 i01_0, Option.toList, List.cons_append, List.nil_append, mem20, mem21, mem22, al20, al21, al33, al34, al36, al37, al38, aa33, aa34, aa36, aa37, aa38, true_and, and_true, Int32.reduceOfNat, forall_const, true_implies, implies_true, false_implies, not_true_eq_false, not_false_eq_true]
  have fr1 : Fr sdc nov h (sI (sI (sI (sI (sI h 141 0 1) 141 1 f) 141 2 1) 141 3 0) 141 4 0) := ((((Fr.rfl'.sI (by unfold sdc; omega)).sI (by unfold sdc; omega)).sI (by unfold sdc; omega)).sI (by unfold sdc; omega)).sI (by unfold sdc; omega)
  have o1 : hI (sI (sI (sI (sI (sI h 141 0 1) 141 1 f) 141 2 1) 141 3 0) 141 4 0) 141 1 = f := by simp [hI_sI]
  have o2 : hI (sI (sI (sI (sI (sI h 141 0 1) 141 1 f) 141 2 1) 141 3 0) 141 4 0) 141 2 = 1 := by simp [hI_sI]
  have o3 : hI (sI (sI (sI (sI (sI h 141 0 1) 141 1 f) 141 2 1) 141 3 0) 141 4 0) 141 3 = 0 := by simp [hI_sI]
  have o4 : hI (sI (sI (sI (sI (sI h 141 0 1) 141 1 f) 141 2 1) 141 3 0) 141 4 0) 141 4 = 0 := by simp [hI_sI]
  generalize sI (sI (sI (sI (sI h 141 0 1) 141 1 f) 141 2 1) 141 3 0) 141 4 0 = h1 at fr1 o1 o2 o3 o4 ⊢
  have x1 := x.fr fr1
  have ec : ∀ a, (146 ≤ a ∧ a < 170) ∨ a = 122 → hI h1 a = hI h a := fun a ha => fr1.I (by unfold sdc; omega)
  simp only [b_X_seatDoer_7, xk_100 x1, xr_100_7 x1, xr_100_11 x1, xr_100_13 x1, mem20, mem21, mem22, al20, al21, al33, al34, al36, al37, al38, aa33, aa34, aa36, aa37, aa38, true_and, and_true, Int32.reduceOfNat, forall_const, true_implies, implies_true, false_implies, not_true_eq_false, not_false_eq_true]
  refine c_Ch_fill 141 (154 + 4 * j) n 143 bd h1 (Or.inl rfl) x1 (b.fr fr1 (by unfold sdc; omega)) (xk_141 x1) (pln_pl x1 hj) (by omega) (by rw [ec _ (by omega)]; exact hn) hn2 _ ?_
  intro h2 fr2 g2
  rw [ec _ (by omega), ec _ (by omega), ec 122 (by omega), o1, o2, o3, o4] at g2
  simp only [Option.toList, List.cons_append, List.nil_append, b_X_seatDoer_15]
  refine ⟨rtV, fin h2 (fr1.tr (fr2.mo (by unfold fcs sdc; omega) (fun a z => z))) ?_⟩
  intro i hi
  rw [g2 i hi]
  refine jrow_at (fun q hq => ?_) hti rfl rfl rfl rfl hi
  rw [show 154 + 4 * j + 1 = 155 + 4 * j by omega, show 154 + 4 * j + 2 = 156 + 4 * j by omega]
  exact hkd q hq
theorem w_X_unlike {d : Nat} (j n : Nat) (g : Int32) (A B : Nat → Int32) (h : AH) (x : XLY h) (hn2 : n ≤ 12) (hA : ∀ i, i < 12 * n → hI h 143 i = A i) (hB : ∀ i, i < 12 * n → hI h 144 i = B i) (Q : Option Value → AH → Prop) : ∀ (m i : Nat), i + m = 12 * n → (Wp d P_X_unlikeDoer 26 [.ref 100, .ref (154 + 4 * j), .int g, .int (nI (12 * n)), .int (nI (trN A B i)), .int (nI i)] [] h Q ↔ Q (some (.int (nI (trN A B (12 * n))))) h) := by
  intro m
  induction m with
  | zero =>
    intro i e
    have : i = 12 * n := by omega
    subst this
    rw [b_X_unlikeDoer_26]
    simp only [Int32.le_refl, b_X_unlikeDoer_51, mem20, mem21, mem22, al20, al21, al33, al34, al36, al37, al38, aa33, aa34, aa36, aa37, aa38, true_and, and_true, Int32.reduceOfNat, forall_const, true_implies, implies_true, false_implies, not_true_eq_false, not_false_eq_true]
  | succ m ih =>
    intro i e
    have z : ¬ nI (12 * n) ≤ nI i := mt (nle (by omega) (by omega)).mp (by omega)
    have z2 : ¬ 144 ≤ nI i := mt (nle (a := 144) (by decide) (by omega)).mp (by omega)
    have i1 : ixo (nI i) 144 = true := nix (by omega) (by decide)
    have ihm := ih (i + 1) (by omega)
    have hs : trN A B (i + 1) = trN A B i + if A i = B i then 0 else 1 := rfl
    rw [hs] at ihm
    rw [b_X_unlikeDoer_26]
    simp only [z, b_X_unlikeDoer_29, b_X_unlikeDoer_34, b_X_unlikeDoer_39, b_X_unlikeDoer_48, b_X_unlikeDoer_49, xk_100 x, xr_100_13 x, xr_100_14 x, xk_143 x, xn_143 x, xk_144 x, xn_144 x, z2, i1, cN (show i < 2147483648 by omega), hA i (by omega), hB i (by omega), nI_1, mem20, mem21, mem22, al20, al21, al33, al34, al36, al37, al38, aa33, aa34, aa36, aa37, aa38, true_and, and_true, Int32.reduceOfNat, forall_const, true_implies, implies_true, false_implies, not_true_eq_false, not_false_eq_true]
    by_cases q : A i = B i
    · rw [if_pos q] at ihm
      simp only [q, mem20, mem21, mem22, al20, al21, al33, al34, al36, al37, al38, aa33, aa34, aa36, aa37, aa38, true_and, and_true, Int32.reduceOfNat, forall_const, true_implies, implies_true, false_implies, not_true_eq_false, not_false_eq_true]
      exact ihm
    · rw [if_neg q] at ihm
      simp only [q, mem20, mem21, mem22, al20, al21, al33, al34, al36, al37, al38, aa33, aa34, aa36, aa37, aa38, true_and, and_true, Int32.reduceOfNat, forall_const, true_implies, implies_true, false_implies, not_true_eq_false, not_false_eq_true]
      exact ihm
theorem c_X_unlikeDoer {d : Nat} (j n : Nat) (g : Int32) (A : Nat → Int32) (bd : Nat → Option (List Nat)) (kd it : Nat → Int32) (ti : Int32) (h : AH) (x : XLY h) (b : XBd h bd) (hj : j < 4) (hn : hI h (154 + 4 * j) 3 = nI n) (hn2 : n ≤ 12) (hti : hI h 122 3 = ti) (hkd : ∀ q, q < n → hI h (155 + 4 * j) q = kd q ∧ hI h (156 + 4 * j) q = it q) (hA : ∀ i, i < 12 * n → hI h 143 i = A i) (Q : Option Value → AH → Prop)
    (fin : ∀ h', Fr ulc nov h h' → Q (some (.int (nI (trN A (jrow bd kd it ti g 0 0 0) (12 * n))))) h') : Cl (d + 6) q_X_unlikeDoer [.ref 100, .ref (154 + 4 * j), .int g] h Q := by
  rw [e_X_unlikeDoer, b_X_unlikeDoer_0]
  simp only [xk_100 x, xr_100_12 x, c_Pe_tell 142 _ _ _ _ h (xk_142 x) i01_0 i01_0, Option.toList, List.cons_append, List.nil_append, mem20, mem21, mem22, al20, al21, al33, al34, al36, al37, al38, aa33, aa34, aa36, aa37, aa38, true_and, and_true, Int32.reduceOfNat, forall_const, true_implies, implies_true, false_implies, not_true_eq_false, not_false_eq_true]
  have fr1 : Fr ulc nov h (sI (sI (sI (sI (sI h 142 0 1) 142 1 g) 142 2 0) 142 3 0) 142 4 0) := ((((Fr.rfl'.sI (by unfold ulc; omega)).sI (by unfold ulc; omega)).sI (by unfold ulc; omega)).sI (by unfold ulc; omega)).sI (by unfold ulc; omega)
  have o1 : hI (sI (sI (sI (sI (sI h 142 0 1) 142 1 g) 142 2 0) 142 3 0) 142 4 0) 142 1 = g := by simp [hI_sI]
  have o2 : hI (sI (sI (sI (sI (sI h 142 0 1) 142 1 g) 142 2 0) 142 3 0) 142 4 0) 142 2 = 0 := by simp [hI_sI]
  have o3 : hI (sI (sI (sI (sI (sI h 142 0 1) 142 1 g) 142 2 0) 142 3 0) 142 4 0) 142 3 = 0 := by simp [hI_sI]
  have o4 : hI (sI (sI (sI (sI (sI h 142 0 1) 142 1 g) 142 2 0) 142 3 0) 142 4 0) 142 4 = 0 := by simp [hI_sI]
  generalize sI (sI (sI (sI (sI h 142 0 1) 142 1 g) 142 2 0) 142 3 0) 142 4 0 = h1 at fr1 o1 o2 o3 o4 ⊢
  have x1 := x.fr fr1
  have ec : ∀ a, (146 ≤ a ∧ a < 170) ∨ a = 122 → hI h1 a = hI h a := fun a ha => fr1.I (by unfold ulc; omega)
  simp only [b_X_unlikeDoer_7, xk_100 x1, xr_100_7 x1, xr_100_12 x1, xr_100_14 x1, mem20, mem21, mem22, al20, al21, al33, al34, al36, al37, al38, aa33, aa34, aa36, aa37, aa38, true_and, and_true, Int32.reduceOfNat, forall_const, true_implies, implies_true, false_implies, not_true_eq_false, not_false_eq_true]
  refine c_Ch_fill 142 (154 + 4 * j) n 144 bd h1 (Or.inr rfl) x1 (b.fr fr1 (by unfold ulc; omega)) (xk_142 x1) (pln_pl x1 hj) (by omega) (by rw [ec _ (by omega)]; exact hn) hn2 _ ?_
  intro h2 fr2 g2
  rw [ec _ (by omega), ec _ (by omega), ec 122 (by omega), o1, o2, o3, o4] at g2
  have frA : Fr ulc nov h h2 := fr1.tr (fr2.mo (by unfold fcs ulc; omega) (fun a z => z))
  have x2 := x.fr frA
  have e12 : nI n * 3 * 4 = nI (12 * n) := by
    rw [show (3 : Int32) = nI 3 from rfl, show (4 : Int32) = nI 4 from rfl, nmul, nmul]
    congr 1; omega
  have en : hI h2 (154 + 4 * j) 3 = nI n := by rw [frA.I (by unfold ulc; omega)]; exact hn
  simp only [Option.toList, List.cons_append, List.nil_append, b_X_unlikeDoer_15, g_pl_k x2 hj, en, e12, mem20, mem21, mem22, al20, al21, al33, al34, al36, al37, al38, aa33, aa34, aa36, aa37, aa38, true_and, and_true, Int32.reduceOfNat, forall_const, true_implies, implies_true, false_implies, not_true_eq_false, not_false_eq_true]
  refine (w_X_unlike (d := d + 5) j n g A (jrow bd kd it ti g 0 0 0) h2 x2 hn2 ?_ ?_ _ (12 * n) 0 (by omega)).mpr ⟨rtI _, fin h2 frA⟩
  · intro i hi
    rw [frA.I (by unfold ulc; omega)]
    exact hA i hi
  · intro i hi
    rw [g2 i hi]
    refine jrow_at (fun q hq => ?_) hti rfl rfl rfl rfl hi
    rw [show 154 + 4 * j + 1 = 155 + 4 * j by omega, show 154 + 4 * j + 2 = 156 + 4 * j by omega]
    exact hkd q hq
/-! the reference's -/
section APM
variable {d j n : Nat} {f g : Int32} {bd : Nat → Option (List Nat)} {kd it A B : Nat → Int32} {h0 : AH} {Q : Option Value → AH → Prop}
theorem w_M_apartIn (q : Nat) (m0 : MLY h0) (b0 : MBA h0 bd) (hj : j < 4) (hq : q < 12) (hkd : kd = fun q => hI h0 354 (12 * j + q)) (hit : it = fun q => hI h0 355 (12 * j + q)) (it3 : ¬ hI h0 354 (12 * j + q) = 3 → hI h0 355 (12 * j + q) = -1) (ti : 0 ≤ hI h0 342 15) (hA : A = jrow bd kd it (hI h0 342 15) f 1 0 0) (hB : B = jrow bd kd it (hI h0 342 15) g 0 0 0)
    (fin : ∀ h' v7, Fr mcs nov h0 h' → Wp (d + 3) P_M_apartOf 74 [.ref 342, .int (nI j), .int f, .int g, .int (nI (trN A B (12 * q + 12))), .int (nI q), .int (nI 12), v7] [] h' Q) : ∀ (m k : Nat) (h : AH) (v7 : Value), k + m = 12 → Fr mcs nov h0 h →
    Wp (d + 3) P_M_apartOf 12 [.ref 342, .int (nI j), .int f, .int g, .int (nI (trN A B (12 * q + k))), .int (nI q), .int (nI k), v7] [] h Q := by
  intro m
  induction m with
  | zero =>
    intro k h v7 e fr
    have : k = 12 := by omega
    subst this
    rw [b_M_apartOf_12]
    simp only [show (12 : Int32) ≤ nI 12 by decide, mem20, mem21, mem22, al20, al21, al33, al34, al36, al37, al38, aa33, aa34, aa36, aa37, aa38, true_and, and_true, Int32.reduceOfNat, forall_const, true_implies, implies_true, false_implies, not_true_eq_false, not_false_eq_true]
    exact fin h v7 fr
  | succ m ih =>
    intro k h v7 e fr
    have z : ¬ (12 : Int32) ≤ nI k := mt (nle (a := 12) (by decide) (by omega)).mp (by omega)
    have m' := m0.fr fr
    have b := b0.fr fr (by unfold mcs; omega)
    have em : ∀ {h' : AH}, Fr mcs nov h0 h' → ∀ a, a < 363 → hI h' a = hI h0 a := fun p a ha => p.I (by unfold mcs; omega)
    have d1 : nI k / 4 = nI (k / 4) := ndiv (b := 4) (by omega) (by decide) (by decide)
    have d2 : nI k - nI (k / 4) * 4 = nI (k % 4) := by
      have := nrem (a := k) (b := 4) (by omega) (by decide) (by decide)
      rw [← d1]; exact this
    have jr : ∀ fe dn, jrow bd kd it (hI h0 342 15) fe dn 0 0 (12 * q + k) = clp (lnV (wN (bF (kd q) (it q) (hI h0 342 15) fe dn 0 0 (nI (cnt kd (kd q) q)) (nI q)) (nI (k % 4))) (bd (k / 4))) := by
      intro fe dn
      unfold jrow jmp
      have a1 : (12 * q + k) / 12 = q := by omega
      have a2 : (12 * q + k) % 12 = k := by omega
      have a3 : (12 * q + k) % 4 = k % 4 := by omega
      rw [a1, a2, a3]
    have one : ∀ (fe dn : Int32) (h : AH) (Q1 : Option Value → AH → Prop), Fr mcs nov h0 h → (∀ h', Fr mcs nov h0 h' → Q1 (some (.int (jrow bd kd it (hI h0 342 15) fe dn 0 0 (12 * q + k)))) h') → Cl (d + 3) q_M_habitOf [.ref 342, .int (nI j), .int (nI q)] h (fun r h1 => ∃ hb, r = some (.int hb) ∧ Cl (d + 3) q_M_asksOf [.ref 342, .int (nI (12 * j + q)), .int hb, .int (nI q), .int fe, .int dn, .int 0, .int 0] h1 (fun r h2 => r = none ∧ Cl (d + 3) q_M_jumpOf [.ref 342, .int (nI (k / 4)), .int (nI (k % 4))] h2 Q1)) := by
      intro fe dn h Q1 fr f1
      have m' := m0.fr fr
      rw [c_M_habitOf (d := d + 2) j q h m' (by omega) hq, em fr 354 (by decide)]
      refine ⟨_, rfl, ?_⟩
      refine c_M_asksOf (d := d + 2) (12 * j + q) _ _ _ _ _ _ h m' (by omega) (by rw [em fr 354 (by decide), em fr 355 (by decide)]; exact it3) (by rw [em fr 342 (by decide)]; exact ti) _ ?_
      intro h2 fr2 g2
      rw [em fr 354 (by decide), em fr 355 (by decide), em fr 342 (by decide)] at g2
      have frA : Fr mcs nov h0 h2 := fr.tr (fr2.mo (fun a z => Or.inl z) (fun a z => z))
      have b2 := b0.fr frA (by unfold mcs; omega)
      refine ⟨rfl, ?_⟩
      refine c_M_jumpOf (k / 4) (nI (k % 4)) _ (bd (k / 4)) h2 (m0.fr frA) (by omega) g2 (b2 _ (by omega)).1 (b2 _ (by omega)).2 _ ?_
      intro h3 fr3 g3
      have := f1 h3 (frA.tr fr3)
      rw [jr, hkd, hit] at this
      exact this
    rw [b_M_apartOf_12]
    simp only [z, b_M_apartOf_15, mem20, mem21, mem22, al20, al21, al33, al34, al36, al37, al38, aa33, aa34, aa36, aa37, aa38, true_and, and_true, Int32.reduceOfNat, forall_const, true_implies, implies_true, false_implies, not_true_eq_false, not_false_eq_true]
    refine (one f 1 h (fun r h' => Wp (d + 3) P_M_apartOf 39 [.ref 342, .int (nI j), .int f, .int g, .int (nI (trN A B (12 * q + k))), .int (nI q), .int (nI k), v7] (r.toList ++ []) h' Q) fr ?_).mono ?_
    · intro h1 fr1
      simp only [Option.toList, List.cons_append, List.nil_append, b_M_apartOf_39]
      refine (one g 0 h1 (fun r h' => Wp (d + 3) P_M_apartOf 65 [.ref 342, .int (nI j), .int f, .int g, .int (nI (trN A B (12 * q + k))), .int (nI q), .int (nI k), .int (jrow bd kd it (hI h0 342 15) f 1 0 0 (12 * q + k))] (r.toList ++ [.int (nI (trN A B (12 * q + k)))]) h' Q) fr1 ?_).mono ?_
      · intro h2 fr2
        have ihm := ih (k + 1) h2 (.int (jrow bd kd it (hI h0 342 15) f 1 0 0 (12 * q + k))) (by omega) fr2
        have hs : trN A B (12 * q + (k + 1)) = trN A B (12 * q + k) + if A (12 * q + k) = B (12 * q + k) then 0 else 1 := rfl
        rw [hs] at ihm
        simp only [Option.toList, List.cons_append, List.nil_append, b_M_apartOf_65, b_M_apartOf_67, b_M_apartOf_69, b_M_apartOf_70, nI_1]
        rw [← hA, ← hB] at *
        by_cases qq : A (12 * q + k) = B (12 * q + k)
        · rw [if_pos qq] at ihm
          simp only [qq, Int32.add_zero, mem20, mem21, mem22, al20, al21, al33, al34, al36, al37, al38, aa33, aa34, aa36, aa37, aa38, true_and, and_true, Int32.reduceOfNat, forall_const, true_implies, implies_true, false_implies, not_true_eq_false, not_false_eq_true] at ihm ⊢
          exact ihm
        · have qq' : ¬ B (12 * q + k) = A (12 * q + k) := fun w => qq w.symm
          rw [if_neg qq] at ihm
          simp only [qq', nI_1, mem20, mem21, mem22, al20, al21, al33, al34, al36, al37, al38, aa33, aa34, aa36, aa37, aa38, true_and, and_true, Int32.reduceOfNat, forall_const, true_implies, implies_true, false_implies, not_true_eq_false, not_false_eq_true]
          exact ihm
      · rintro r h2 ⟨hb, rfl, w⟩
        simp only [Option.toList, List.cons_append, List.nil_append, n12, b_M_apartOf_50]
        refine w.mono ?_
        rintro r h3 ⟨rfl, w3⟩
        simp only [Option.toList, List.cons_append, List.nil_append, b_M_apartOf_56, d1, d2, nz4, show ¬ (4 : Int32) = 0 by decide, mem20, mem21, mem22, al20, al21, al33, al34, al36, al37, al38, aa33, aa34, aa36, aa37, aa38, true_and, and_true, Int32.reduceOfNat, forall_const, true_implies, implies_true, false_implies, not_true_eq_false, not_false_eq_true]
        exact w3
    · rintro r h2 ⟨hb, rfl, w⟩
      simp only [Option.toList, List.cons_append, List.nil_append, n12, b_M_apartOf_25]
      refine w.mono ?_
      rintro r h3 ⟨rfl, w3⟩
      simp only [Option.toList, List.cons_append, List.nil_append, b_M_apartOf_31, d1, d2, nz4, show ¬ (4 : Int32) = 0 by decide, mem20, mem21, mem22, al20, al21, al33, al34, al36, al37, al38, aa33, aa34, aa36, aa37, aa38, true_and, and_true, Int32.reduceOfNat, forall_const, true_implies, implies_true, false_implies, not_true_eq_false, not_false_eq_true]
      exact w3
theorem w_M_apartOf (m0 : MLY h0) (b0 : MBA h0 bd) (hj : j < 4) (hn : hI h0 353 j = nI n) (hn2 : n ≤ 12) (hkd : kd = fun q => hI h0 354 (12 * j + q)) (hit : it = fun q => hI h0 355 (12 * j + q)) (it3 : ∀ q, q < n → ¬ hI h0 354 (12 * j + q) = 3 → hI h0 355 (12 * j + q) = -1) (ti : 0 ≤ hI h0 342 15) (hA : A = jrow bd kd it (hI h0 342 15) f 1 0 0) (hB : B = jrow bd kd it (hI h0 342 15) g 0 0 0)
    (fin : ∀ h', Fr mcs nov h0 h' → Q (some (.int (nI (trN A B (12 * n))))) h') : ∀ (m q : Nat) (h : AH) (v6 v7 : Value), q + m = n → Fr mcs nov h0 h →
    Wp (d + 3) P_M_apartOf 4 [.ref 342, .int (nI j), .int f, .int g, .int (nI (trN A B (12 * q))), .int (nI q), v6, v7] [] h Q := by
  have i5 : ixo (nI j) 5 = true := nix (by omega) (by decide)
  have c5 := cN (n := j) (by omega)
  intro m
  induction m with
  | zero =>
    intro q h v6 v7 e fr
    have : q = n := by omega
    subst this
    have m' := m0.fr fr
    have e1 : hI h 353 = hI h0 353 := fr.I (by unfold mcs; omega)
    rw [b_M_apartOf_4]
    simp only [mo m', mr_16 m', mk_353 m', mn_353 m', i5, c5, e1, hn, Int32.le_refl, b_M_apartOf_76, mem20, mem21, mem22, al20, al21, al33, al34, al36, al37, al38, aa33, aa34, aa36, aa37, aa38, true_and, and_true, Int32.reduceOfNat, forall_const, true_implies, implies_true, false_implies, not_true_eq_false, not_false_eq_true]
    exact fin h fr
  | succ m ih =>
    intro q h v6 v7 e fr
    have m' := m0.fr fr
    have e1 : hI h 353 = hI h0 353 := fr.I (by unfold mcs; omega)
    have z : ¬ nI n ≤ nI q := mt (nle (by omega) (by omega)).mp (by omega)
    rw [b_M_apartOf_4]
    simp only [mo m', mr_16 m', mk_353 m', mn_353 m', i5, c5, e1, hn, z, b_M_apartOf_10, mem20, mem21, mem22, al20, al21, al33, al34, al36, al37, al38, aa33, aa34, aa36, aa37, aa38, true_and, and_true, Int32.reduceOfNat, forall_const, true_implies, implies_true, false_implies, not_true_eq_false, not_false_eq_true]
    refine w_M_apartIn q m0 b0 hj (by omega) hkd hit (it3 q (by omega)) ti hA hB ?_ 12 0 h v7 rfl fr
    intro h1 v7' fr1
    rw [b_M_apartOf_74, nI_1]
    exact ih (q + 1) h1 _ _ (by omega) fr1
theorem c_M_apartOf (m0 : MLY h0) (b0 : MBA h0 bd) (hj : j < 4) (hn : hI h0 353 j = nI n) (hn2 : n ≤ 12) (hkd : kd = fun q => hI h0 354 (12 * j + q)) (hit : it = fun q => hI h0 355 (12 * j + q)) (it3 : ∀ q, q < n → ¬ hI h0 354 (12 * j + q) = 3 → hI h0 355 (12 * j + q) = -1) (ti : 0 ≤ hI h0 342 15)
    (fin : ∀ h', Fr mcs nov h0 h' → Q (some (.int (nI (trN (jrow bd kd it (hI h0 342 15) f 1 0 0) (jrow bd kd it (hI h0 342 15) g 0 0 0) (12 * n))))) h') : Cl (d + 4) q_M_apartOf [.ref 342, .int (nI j), .int f, .int g] h0 Q := by
  rw [e_M_apartOf, b_M_apartOf_0]
  exact ⟨mo m0, w_M_apartOf m0 b0 hj hn hn2 hkd hit it3 ti rfl rfl (fun h' w => ⟨rtI _, fin h' w⟩) n 0 h0 _ _ (by omega) Fr.rfl'⟩
end APM
