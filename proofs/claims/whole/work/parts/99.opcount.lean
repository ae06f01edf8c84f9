--deps: 97.opsmall
/-! COUNTS -/
def cpN (P : Nat → Prop) [DecidablePred P] : Nat → Nat
  | 0 => 0
  | n + 1 => cpN P n + if P n then 1 else 0
theorem cpN_ext {P P' : Nat → Prop} [DecidablePred P] [DecidablePred P'] : ∀ {n : Nat}, (∀ i, i < n → (P i ↔ P' i)) → cpN P n = cpN P' n
  | 0, _ => rfl
  | n + 1, e => by
    show cpN P n + (if P n then 1 else 0) = cpN P' n + (if P' n then 1 else 0)
    rw [cpN_ext (fun i hi => e i (by omega))]
    by_cases q : P n
    · rw [if_pos q, if_pos ((e n (by omega)).mp q)]
    · rw [if_neg q, if_neg (fun z => q ((e n (by omega)).mpr z))]
theorem cpN_s (P : Nat → Prop) [DecidablePred P] (n : Nat) : cpN P (n + 1) = cpN P n + if P n then 1 else 0 := rfl
abbrev pcP (h : AH) (w : Int32) (p : Nat) : Prop := ¬ hI h (146 + p) 0 = 0 ∧ (¬ hI h (146 + p) 2 = 0 ∨ w = 0)
theorem w_X_countPersons {d : Nat} (w : Int32) (h : AH) (x : XLY h) (Q : Option Value → AH → Prop) : ∀ (m i : Nat), i + m = 8 → (Wp d P_X_countPersons 4 [.ref 100, .int w, .int (nI (cpN (pcP h w) i)), .int (nI i)] [] h Q ↔ Q (some (.int (nI (cpN (pcP h w) 8)))) h) := by
  intro m
  induction m with
  | zero =>
    intro i e
    have : i = 8 := by omega
    subst this
    rw [b_X_countPersons_4]
    simp only [xk_100 x, xr_100_0 x, xk_101 x, xn_101 x, show (8 : Int32) ≤ nI 8 by decide, b_X_countPersons_26, mem20, mem21, mem22, al20, al21, al33, al34, al36, al37, al38, aa33, aa34, aa36, aa37, aa38, true_and, and_true, Int32.reduceOfNat, forall_const, true_implies, implies_true, false_implies, not_true_eq_false, not_false_eq_true]
  | succ m ih =>
    intro i e
    have z : ¬ (8 : Int32) ≤ nI i := mt (nle (a := 8) (by decide) (by omega)).mp (by omega)
    have i1 : ixo (nI i) 8 = true := nix (by omega) (by decide)
    have fr := f_pe x (p := i) (by omega)
    have gk := g_pe_k x (p := i) (by omega)
    have ihh := ih (i + 1) (by omega)
    rw [cpN_s] at ihh
    rw [b_X_countPersons_4]
    simp only [xk_100 x, xr_100_0 x, xk_101 x, xn_101 x, z, b_X_countPersons_9, b_X_countPersons_15, b_X_countPersons_21, b_X_countPersons_23, b_X_countPersons_24, i1, cN (show i < 2147483648 by omega), fr, gk, nI_1, mem20, mem21, mem22, al20, al21, al33, al34, al36, al37, al38, aa33, aa34, aa36, aa37, aa38, true_and, and_true, Int32.reduceOfNat, forall_const, true_implies, implies_true, false_implies, not_true_eq_false, not_false_eq_true]
    by_cases q0 : hI h (146 + i) 0 = 0
    · have np : ¬ pcP h w i := fun z => z.1 q0
      rw [if_neg np] at ihh
      simp only [q0, mem20, mem21, mem22, al20, al21, al33, al34, al36, al37, al38, aa33, aa34, aa36, aa37, aa38, true_and, and_true, Int32.reduceOfNat, forall_const, true_implies, implies_true, false_implies, not_true_eq_false, not_false_eq_true]
      exact ihh
    · by_cases q1 : hI h (146 + i) 2 = 0
      · by_cases q2 : w = 0
        · have np : pcP h w i := ⟨q0, Or.inr q2⟩
          rw [if_pos np] at ihh
          simp only [q0, q1, q2, mem20, mem21, mem22, al20, al21, al33, al34, al36, al37, al38, aa33, aa34, aa36, aa37, aa38, true_and, and_true, Int32.reduceOfNat, forall_const, true_implies, implies_true, false_implies, not_true_eq_false, not_false_eq_true] at ihh ⊢
          exact ihh
        · have np : ¬ pcP h w i := fun z => z.2.elim (fun y => y q1) q2
          rw [if_neg np] at ihh
          simp only [q0, q1, q2, mem20, mem21, mem22, al20, al21, al33, al34, al36, al37, al38, aa33, aa34, aa36, aa37, aa38, true_and, and_true, Int32.reduceOfNat, forall_const, true_implies, implies_true, false_implies, not_true_eq_false, not_false_eq_true] at ihh ⊢
          exact ihh
      · have np : pcP h w i := ⟨q0, Or.inl q1⟩
        rw [if_pos np] at ihh
        simp only [q0, q1, mem20, mem21, mem22, al20, al21, al33, al34, al36, al37, al38, aa33, aa34, aa36, aa37, aa38, true_and, and_true, Int32.reduceOfNat, forall_const, true_implies, implies_true, false_implies, not_true_eq_false, not_false_eq_true] at ihh ⊢
        exact ihh
theorem c_X_countPersons {d : Nat} (w : Int32) (h : AH) (x : XLY h) (Q : Option Value → AH → Prop) : Cl (d + 1) q_X_countPersons [.ref 100, .int w] h Q ↔ Q (some (.int (nI (cpN (pcP h w) 8)))) h := by
  rw [e_X_countPersons, b_X_countPersons_0]
  have := w_X_countPersons (d := d) w h x (fun r h' => rtk (some .int) r = true ∧ Q r h') 8 0 rfl
  have e0 : (0 : Int32) = nI (cpN (pcP h w) 0) := rfl
  simp only [xk_100 x, true_and]
  rw [show (Wp d P_X_countPersons 4 [.ref 100, .int w, .int 0, .int 0] [] h fun r h' => rtk (some .int) r = true ∧ Q r h') = (Wp d P_X_countPersons 4 [.ref 100, .int w, .int (nI (cpN (pcP h w) 0)), .int (nI 0)] [] h fun r h' => rtk (some .int) r = true ∧ Q r h') from rfl, this]
  simp only [rtI, true_and]
abbrev plP (h : AH) (p : Nat) : Prop := ¬ hI h (154 + 4 * p) 3 ≤ 0
theorem w_X_countPlans {d : Nat} (h : AH) (x : XLY h) (Q : Option Value → AH → Prop) : ∀ (m i : Nat), i + m = 4 → (Wp d P_X_countPlans 4 [.ref 100, .int (nI (cpN (plP h) i)), .int (nI i)] [] h Q ↔ Q (some (.int (nI (cpN (plP h) 4)))) h) := by
  intro m
  induction m with
  | zero =>
    intro i e
    have : i = 4 := by omega
    subst this
    rw [b_X_countPlans_4]
    simp only [xk_100 x, xr_100_1 x, xk_102 x, xn_102 x, show (4 : Int32) ≤ nI 4 by decide, b_X_countPlans_18, mem20, mem21, mem22, al20, al21, al33, al34, al36, al37, al38, aa33, aa34, aa36, aa37, aa38, true_and, and_true, Int32.reduceOfNat, forall_const, true_implies, implies_true, false_implies, not_true_eq_false, not_false_eq_true]
  | succ m ih =>
    intro i e
    have z : ¬ (4 : Int32) ≤ nI i := mt (nle (a := 4) (by decide) (by omega)).mp (by omega)
    have i1 : ixo (nI i) 4 = true := nix (by omega) (by decide)
    have fr := f_pl x (p := i) (by omega)
    have gk := g_pl_k x (p := i) (by omega)
    have ihh := ih (i + 1) (by omega)
    rw [cpN_s] at ihh
    rw [b_X_countPlans_4]
    simp only [xk_100 x, xr_100_1 x, xk_102 x, xn_102 x, z, b_X_countPlans_9, b_X_countPlans_15, b_X_countPlans_16, i1, cN (show i < 2147483648 by omega), fr, gk, nI_1, mem20, mem21, mem22, al20, al21, al33, al34, al36, al37, al38, aa33, aa34, aa36, aa37, aa38, true_and, and_true, Int32.reduceOfNat, forall_const, true_implies, implies_true, false_implies, not_true_eq_false, not_false_eq_true]
    by_cases q0 : hI h (154 + 4 * i) 3 ≤ 0
    · have np : ¬ plP h i := fun z => z q0
      rw [if_neg np] at ihh
      simp only [q0, mem20, mem21, mem22, al20, al21, al33, al34, al36, al37, al38, aa33, aa34, aa36, aa37, aa38, true_and, and_true, Int32.reduceOfNat, forall_const, true_implies, implies_true, false_implies, not_true_eq_false, not_false_eq_true]
      exact ihh
    · rw [if_pos (show plP h i from q0)] at ihh
      simp only [q0, mem20, mem21, mem22, al20, al21, al33, al34, al36, al37, al38, aa33, aa34, aa36, aa37, aa38, true_and, and_true, Int32.reduceOfNat, forall_const, true_implies, implies_true, false_implies, not_true_eq_false, not_false_eq_true]
      exact ihh
theorem c_X_countPlans {d : Nat} (h : AH) (x : XLY h) (Q : Option Value → AH → Prop) : Cl (d + 1) q_X_countPlans [.ref 100] h Q ↔ Q (some (.int (nI (cpN (plP h) 4)))) h := by
  rw [e_X_countPlans, b_X_countPlans_0]
  have := w_X_countPlans (d := d) h x (fun r h' => rtk (some .int) r = true ∧ Q r h') 4 0 rfl
  simp only [xk_100 x, true_and]
  rw [show (Wp d P_X_countPlans 4 [.ref 100, .int 0, .int 0] [] h fun r h' => rtk (some .int) r = true ∧ Q r h') = (Wp d P_X_countPlans 4 [.ref 100, .int (nI (cpN (plP h) 0)), .int (nI 0)] [] h fun r h' => rtk (some .int) r = true ∧ Q r h') from rfl, this]
  simp only [rtI, true_and]
def smN (v : Nat → Nat) : Nat → Nat
  | 0 => 0
  | n + 1 => smN v n + v n
theorem w_Ta_all {d : Nat} (v : Nat → Nat) (h : AH) (x : XLY h) (e : ∀ j, j < 8 → hI h 106 j = nI (v j)) (Q : Option Value → AH → Prop) : ∀ (m i : Nat), i + m = 8 → (Wp d P_Ta_allConfessions 4 [.ref 105, .int (nI (smN v i)), .int (nI i)] [] h Q ↔ Q (some (.int (nI (smN v 8)))) h) := by
  intro m
  induction m with
  | zero =>
    intro i e
    have : i = 8 := by omega
    subst this
    rw [b_Ta_allConfessions_4]
    simp only [xk_105 x, xr_105_2 x, xk_106 x, xn_106 x, show (8 : Int32) ≤ nI 8 by decide, b_Ta_allConfessions_18, mem20, mem21, mem22, al20, al21, al33, al34, al36, al37, al38, aa33, aa34, aa36, aa37, aa38, true_and, and_true, Int32.reduceOfNat, forall_const, true_implies, implies_true, false_implies, not_true_eq_false, not_false_eq_true]
  | succ m ih =>
    intro i e1
    have z : ¬ (8 : Int32) ≤ nI i := mt (nle (a := 8) (by decide) (by omega)).mp (by omega)
    have i1 : ixo (nI i) 8 = true := nix (by omega) (by decide)
    rw [b_Ta_allConfessions_4]
    simp only [xk_105 x, xr_105_2 x, xk_106 x, xn_106 x, z, b_Ta_allConfessions_9, i1, cN (show i < 2147483648 by omega), e i (by omega), nadd, nI_1, mem20, mem21, mem22, al20, al21, al33, al34, al36, al37, al38, aa33, aa34, aa36, aa37, aa38, true_and, and_true, Int32.reduceOfNat, forall_const, true_implies, implies_true, false_implies, not_true_eq_false, not_false_eq_true]
    exact ih (i + 1) (by omega)
theorem w_M_count0 {d : Nat} (w : Int32) (P : Nat → Prop) [DecidablePred P] (h : AH) (m0 : MLY h) (e : ∀ p, p < 8 → (P p ↔ ¬ hI h 348 p = 0 ∧ (w = 0 ∨ ¬ hI h 350 p = 0))) (Q : Option Value → AH → Prop) : ∀ (m i : Nat), i + m = 8 → (Wp d P_M_count 9 [.ref 342, .int w, .long (lN (cpN P i)), .null, .int (nI i)] [] h Q ↔ Q (some (.int (nI (cpN P 8)))) h) := by
  intro m
  induction m with
  | zero =>
    intro i e
    have : i = 8 := by omega
    subst this
    rw [b_M_count_9]
    simp only [show (8 : Int32) ≤ nI 8 by decide, b_M_count_32, lN_i, mem20, mem21, mem22, al20, al21, al33, al34, al36, al37, al38, aa33, aa34, aa36, aa37, aa38, true_and, and_true, Int32.reduceOfNat, forall_const, true_implies, implies_true, false_implies, not_true_eq_false, not_false_eq_true]
  | succ m ih =>
    intro i e1
    have z : ¬ (8 : Int32) ≤ nI i := mt (nle (a := 8) (by decide) (by omega)).mp (by omega)
    have i1 : ixo (nI i) 8 = true := nix (by omega) (by decide)
    have ihh := ih (i + 1) (by omega)
    have ei := e i (by omega)
    rw [cpN_s] at ihh
    rw [b_M_count_9]
    simp only [z, b_M_count_12, b_M_count_18, b_M_count_20, b_M_count_25, b_M_count_27, b_M_count_28, mo m0, mr_10 m0, mr_12 m0, mk_348 m0, mn_348 m0, mk_350 m0, mn_350 m0, i1, cN (show i < 2147483648 by omega), nI_1, mem20, mem21, mem22, al20, al21, al33, al34, al36, al37, al38, aa33, aa34, aa36, aa37, aa38, true_and, and_true, Int32.reduceOfNat, forall_const, true_implies, implies_true, false_implies, not_true_eq_false, not_false_eq_true]
    have one : lN (cpN P i) + 1 = lN (cpN P i + 1) := lN_1 _
    have zer : lN (cpN P i) + 0 = lN (cpN P i + 0) := lN_add _ 0
    rw [one, zer]
    by_cases q0 : hI h 348 i = 0
    · rw [if_neg (fun z => (ei.mp z).1 q0)] at ihh
      simp only [q0, mem20, mem21, mem22, al20, al21, al33, al34, al36, al37, al38, aa33, aa34, aa36, aa37, aa38, true_and, and_true, Int32.reduceOfNat, forall_const, true_implies, implies_true, false_implies, not_true_eq_false, not_false_eq_true]
      exact ihh
    · by_cases q1 : w = 0
      · rw [if_pos (ei.mpr ⟨q0, Or.inl q1⟩)] at ihh
        simp only [q0, q1, mem20, mem21, mem22, al20, al21, al33, al34, al36, al37, al38, aa33, aa34, aa36, aa37, aa38, true_and, and_true, Int32.reduceOfNat, forall_const, true_implies, implies_true, false_implies, not_true_eq_false, not_false_eq_true] at ihh ⊢
        exact ihh
      · by_cases q2 : hI h 350 i = 0
        · rw [if_neg (fun z => (ei.mp z).2.elim q1 (fun y => y q2))] at ihh
          simp only [q0, q1, q2, mem20, mem21, mem22, al20, al21, al33, al34, al36, al37, al38, aa33, aa34, aa36, aa37, aa38, true_and, and_true, Int32.reduceOfNat, forall_const, true_implies, implies_true, false_implies, not_true_eq_false, not_false_eq_true] at ihh ⊢
          exact ihh
        · rw [if_pos (ei.mpr ⟨q0, Or.inr q2⟩)] at ihh
          simp only [q0, q1, q2, mem20, mem21, mem22, al20, al21, al33, al34, al36, al37, al38, aa33, aa34, aa36, aa37, aa38, true_and, and_true, Int32.reduceOfNat, forall_const, true_implies, implies_true, false_implies, not_true_eq_false, not_false_eq_true] at ihh ⊢
          exact ihh
theorem w_M_count1 {d : Nat} (w : Int32) (P : Nat → Prop) [DecidablePred P] (h : AH) (m0 : MLY h) (e : ∀ p, p < 4 → (P p ↔ ¬ hI h 353 p ≤ 0)) (Q : Option Value → AH → Prop) : ∀ (m i : Nat), i + m = 4 → (Wp d P_M_count 37 [.ref 342, .int w, .long (lN (cpN P i)), .null, .int (nI i)] [] h Q ↔ Q (some (.int (nI (cpN P 4)))) h) := by
  intro m
  induction m with
  | zero =>
    intro i e
    have : i = 4 := by omega
    subst this
    rw [b_M_count_37]
    simp only [show (4 : Int32) ≤ nI 4 by decide, b_M_count_53, lN_i, mem20, mem21, mem22, al20, al21, al33, al34, al36, al37, al38, aa33, aa34, aa36, aa37, aa38, true_and, and_true, Int32.reduceOfNat, forall_const, true_implies, implies_true, false_implies, not_true_eq_false, not_false_eq_true]
  | succ m ih =>
    intro i e1
    have z : ¬ (4 : Int32) ≤ nI i := mt (nle (a := 4) (by decide) (by omega)).mp (by omega)
    have i1 : ixo (nI i) 5 = true := nix (by omega) (by decide)
    have ihh := ih (i + 1) (by omega)
    have ei := e i (by omega)
    rw [cpN_s] at ihh
    rw [b_M_count_37]
    simp only [z, b_M_count_40, b_M_count_46, b_M_count_48, b_M_count_49, mo m0, mr_16 m0, mk_353 m0, mn_353 m0, i1, cN (show i < 2147483648 by omega), nI_1, mem20, mem21, mem22, al20, al21, al33, al34, al36, al37, al38, aa33, aa34, aa36, aa37, aa38, true_and, and_true, Int32.reduceOfNat, forall_const, true_implies, implies_true, false_implies, not_true_eq_false, not_false_eq_true]
    have one : lN (cpN P i) + 1 = lN (cpN P i + 1) := lN_1 _
    have zer : lN (cpN P i) + 0 = lN (cpN P i + 0) := lN_add _ 0
    rw [one, zer]
    by_cases q0 : hI h 353 i ≤ 0
    · rw [if_neg (fun z => (ei.mp z) q0)] at ihh
      simp only [q0, mem20, mem21, mem22, al20, al21, al33, al34, al36, al37, al38, aa33, aa34, aa36, aa37, aa38, true_and, and_true, Int32.reduceOfNat, forall_const, true_implies, implies_true, false_implies, not_true_eq_false, not_false_eq_true]
      exact ihh
    · rw [if_pos (ei.mpr q0)] at ihh
      simp only [q0, mem20, mem21, mem22, al20, al21, al33, al34, al36, al37, al38, aa33, aa34, aa36, aa37, aa38, true_and, and_true, Int32.reduceOfNat, forall_const, true_implies, implies_true, false_implies, not_true_eq_false, not_false_eq_true]
      exact ihh
theorem w_M_count7 {d : Nat} (w : Int32) (P : Nat → Prop) [DecidablePred P] (h : AH) (m0 : MLY h) (e : ∀ p, p < 3 → (P p ↔ ¬ hI h 359 p < 0)) (Q : Option Value → AH → Prop) : ∀ (m i : Nat), i + m = 3 → (Wp d P_M_count 92 [.ref 342, .int w, .long (lN (cpN P i)), .null, .int (nI i)] [] h Q ↔ Q (some (.int (nI (cpN P 3)))) h) := by
  intro m
  induction m with
  | zero =>
    intro i e
    have : i = 3 := by omega
    subst this
    rw [b_M_count_92]
    simp only [show (3 : Int32) ≤ nI 3 by decide, b_M_count_108, lN_i, mem20, mem21, mem22, al20, al21, al33, al34, al36, al37, al38, aa33, aa34, aa36, aa37, aa38, true_and, and_true, Int32.reduceOfNat, forall_const, true_implies, implies_true, false_implies, not_true_eq_false, not_false_eq_true]
  | succ m ih =>
    intro i e1
    have z : ¬ (3 : Int32) ≤ nI i := mt (nle (a := 3) (by decide) (by omega)).mp (by omega)
    have i1 : ixo (nI i) 3 = true := nix (by omega) (by decide)
    have ihh := ih (i + 1) (by omega)
    have ei := e i (by omega)
    rw [cpN_s] at ihh
    rw [b_M_count_92]
    simp only [z, b_M_count_95, b_M_count_101, b_M_count_103, b_M_count_104, mo m0, mr_24 m0, mk_359 m0, mn_359 m0, i1, cN (show i < 2147483648 by omega), nI_1, mem20, mem21, mem22, al20, al21, al33, al34, al36, al37, al38, aa33, aa34, aa36, aa37, aa38, true_and, and_true, Int32.reduceOfNat, forall_const, true_implies, implies_true, false_implies, not_true_eq_false, not_false_eq_true]
    have one : lN (cpN P i) + 1 = lN (cpN P i + 1) := lN_1 _
    have zer : lN (cpN P i) + 0 = lN (cpN P i + 0) := lN_add _ 0
    rw [one, zer]
    by_cases q0 : hI h 359 i < 0
    · rw [if_neg (fun z => (ei.mp z) q0)] at ihh
      simp only [q0, mem20, mem21, mem22, al20, al21, al33, al34, al36, al37, al38, aa33, aa34, aa36, aa37, aa38, true_and, and_true, Int32.reduceOfNat, forall_const, true_implies, implies_true, false_implies, not_true_eq_false, not_false_eq_true]
      exact ihh
    · rw [if_pos (ei.mpr q0)] at ihh
      simp only [q0, mem20, mem21, mem22, al20, al21, al33, al34, al36, al37, al38, aa33, aa34, aa36, aa37, aa38, true_and, and_true, Int32.reduceOfNat, forall_const, true_implies, implies_true, false_implies, not_true_eq_false, not_false_eq_true]
      exact ihh
theorem w_M_count4 {d : Nat} (w : Int32) (v : Nat → Nat) (h : AH) (m0 : MLY h) (e : ∀ j, j < 8 → hJ h 372 j = lN (v j)) (Q : Option Value → AH → Prop) : ∀ (m i : Nat), i + m = 8 → (Wp d P_M_count 61 [.ref 342, .int w, .long (lN (smN v i)), .null, .int (nI i)] [] h Q ↔ Q (some (.int (nI (smN v 8)))) h) := by
  intro m
  induction m with
  | zero =>
    intro i e
    have : i = 8 := by omega
    subst this
    rw [b_M_count_61]
    simp only [show (8 : Int32) ≤ nI 8 by decide, b_M_count_73, lN_i, mem20, mem21, mem22, al20, al21, al33, al34, al36, al37, al38, aa33, aa34, aa36, aa37, aa38, true_and, and_true, Int32.reduceOfNat, forall_const, true_implies, implies_true, false_implies, not_true_eq_false, not_false_eq_true]
  | succ m ih =>
    intro i e1
    have z : ¬ (8 : Int32) ≤ nI i := mt (nle (a := 8) (by decide) (by omega)).mp (by omega)
    have i1 : ixo (nI i) 8 = true := nix (by omega) (by decide)
    rw [b_M_count_61]
    simp only [z, b_M_count_64, mo m0, mr_38 m0, mk_372 m0, mn_372 m0, i1, cN (show i < 2147483648 by omega), e i (by omega), ladd, nI_1, mem20, mem21, mem22, al20, al21, al33, al34, al36, al37, al38, aa33, aa34, aa36, aa37, aa38, true_and, and_true, Int32.reduceOfNat, forall_const, true_implies, implies_true, false_implies, not_true_eq_false, not_false_eq_true]
    exact ih (i + 1) (by omega)
section OPS
variable {L : Nat} {xs : Nat → Int32} {c : Nat} {h : AH}
theorem op_count (i : Inv L xs c h) (w : Int32) : OpI L xs c q_X_count [.ref 100, .int w] q_M_count [.ref 342, .int w] h := by
  have ii := i
  obtain ⟨i1, i2, i3, i4, i5, i6, i7, i8, i9, i10, i11, i12, i13, i14, i15⟩ := i
  have m1 : MLY (sI h 342 0 0) := i3.fr (S := onl 342) (T := nov) (Fs1 Fr.rfl')
  have fin := ii.th (v := 0)
  have e0 : ∀ a, a ≠ 342 → hI (sI h 342 0 0) a = hI h a := fun a ha => rI_sI ha
  unfold OpI
  rw [e_X_count, b_X_count_0]
  simp only [xk_100 i2, true_and]
  by_cases q : Int32.toInt w < 0 ∨ 0 + (List.length [2, 6, 9, 13, 17, 21, 29, 34] : Nat) ≤ Int32.toInt w
  · refine ⟨fun _ => ?_, fun z => absurd q z⟩
    rw [b_X_count_39]
    refine ⟨rtI _, -1, rfl, ?_⟩
    rw [e_M_count, b_M_count_0]
    refine ⟨mo i3, mo i3, fun _ => ?_, fun z => absurd q z⟩
    rw [b_M_count_111]
    exact ⟨rtI _, rfl, fin⟩
  · refine ⟨fun z => absurd z q, fun _ => ?_⟩
    obtain ⟨k, hk, rfl⟩ : ∃ k, k < 8 ∧ w = nI k := by
      have hw : ¬ (w.toInt < 0 ∨ 8 ≤ w.toInt) := q
      refine ⟨w.toInt.toNat, by omega, ?_⟩
      apply Int32.toInt_inj.mp
      rw [tI (by omega)]
      omega
    have tk : Int32.toInt (nI k) = k := tI (by omega)
    have tn' : (Int32.toInt (nI k) - 0).toNat = k := by rw [tk]; omega
    have mm : ∀ v : Int32, Wp 99 P_M_count (List.getD [7, 35, 56, 7, 59, 76, 87, 90] k 0) [.ref 342, .int (nI k), .long 0, .null, .null] [] (sI h 342 0 0) (fun r h' => rtk (some .int) r = true ∧ r = some (.int v) ∧ Inv L xs (c + 1) h') → rtk (some .int) (some (.int v)) = true ∧ ∃ v' : Int32, some (Value.int v) = some (Value.int v') ∧ Cl 100 q_M_count [.ref 342, .int (nI k)] h (fun r' h2 => r' = some (.int v') ∧ Inv L xs (c + 1) h2) := by
      intro v hv
      refine ⟨rtI _, v, rfl, ?_⟩
      rw [e_M_count, b_M_count_0]
      refine ⟨mo i3, mo i3, fun z => absurd z q, fun _ => ?_⟩
      rw [tn']
      exact hv
    rw [tn']
    have cas : k = 0 ∨ k = 1 ∨ k = 2 ∨ k = 3 ∨ k = 4 ∨ k = 5 ∨ k = 6 ∨ k = 7 := by omega
    have pp : ∀ (w fl : Int32), (w = 0 ↔ fl = 0) → ∀ p, p < 8 → (pcP h fl p ↔ ¬ hI (sI h 342 0 0) 348 p = 0 ∧ (w = 0 ∨ ¬ hI (sI h 342 0 0) 350 p = 0)) := by
      intro w fl e p hp
      obtain ⟨a1, a2, a3, a4⟩ := i5 p hp
      unfold pcP
      rw [e0 348 (by decide), e0 350 (by decide), a1, a3, e]
      exact ⟨fun z => ⟨z.1, z.2.symm⟩, fun z => ⟨z.1, z.2.symm⟩⟩
    rcases cas with rfl | rfl | rfl | rfl | rfl | rfl | rfl | rfl
    · show Wp 99 P_X_count 2 _ _ _ _
      rw [b_X_count_2, c_X_countPersons (d := 98) 0 h i2]
      simp only [Option.toList, List.cons_append, List.nil_append, b_X_count_5]
      apply mm
      show Wp 99 P_M_count 7 _ _ _ _
      rw [b_M_count_7]
      refine (w_M_count0 (d := 99) (nI 0) (pcP h 0) _ m1 (pp (nI 0) 0 (by decide)) _ 8 0 rfl).mpr ?_
      exact ⟨rtI _, rfl, fin⟩
    · show Wp 99 P_X_count 6 _ _ _ _
      rw [b_X_count_6, c_X_countPlans (d := 98) h i2]
      simp only [Option.toList, List.cons_append, List.nil_append, b_X_count_8]
      apply mm
      show Wp 99 P_M_count 35 _ _ _ _
      rw [b_M_count_35]
      refine (w_M_count1 (d := 99) (nI 1) (plP h) _ m1 ?_ _ 4 0 rfl).mpr ⟨rtI _, rfl, fin⟩
      intro p hp
      obtain ⟨n, ks, a1, a2, a3, a4⟩ := i7 p hp
      unfold plP
      rw [e0 353 (by decide), a2, a3]
    · show Wp 99 P_X_count 9 _ _ _ _
      rw [b_X_count_9]
      obtain ⟨nn, hnn, s1, s2⟩ := i11
      simp only [xk_100 i2, xr_100_4 i2, xk_105 i2, s1, true_and]
      apply mm
      show Wp 99 P_M_count 56 _ _ _ _
      rw [b_M_count_56]
      refine ⟨mo m1, rtI _, ?_, fin⟩
      rw [hI_same, if_neg (by decide), s2]
    · show Wp 99 P_X_count 13 _ _ _ _
      rw [b_X_count_13, c_X_countPersons (d := 98) 1 h i2]
      simp only [Option.toList, List.cons_append, List.nil_append, b_X_count_16]
      apply mm
      show Wp 99 P_M_count 7 _ _ _ _
      rw [b_M_count_7]
      refine (w_M_count0 (d := 99) (nI 3) (pcP h 1) _ m1 (pp (nI 3) 1 (by decide)) _ 8 0 rfl).mpr ?_
      exact ⟨rtI _, rfl, fin⟩
    · show Wp 99 P_X_count 17 _ _ _ _
      have hv : ∀ j, ∃ v, j < 8 → hI h 106 j = nI v ∧ hJ h 372 j = lN v := by
        intro j
        by_cases hj : j < 8
        · obtain ⟨v, a, b, e⟩ := i13.1 j hj
          rw [Nat.zero_add] at e
          exact ⟨v, fun _ => ⟨b, e⟩⟩
        · exact ⟨0, fun z => absurd z hj⟩
      obtain ⟨v, hv⟩ := Classical.axiomOfChoice hv
      rw [b_X_count_17]
      simp only [xk_100 i2, xr_100_4 i2, true_and]
      rw [e_Ta_allConfessions, b_Ta_allConfessions_0]
      refine ⟨xk_105 i2, (w_Ta_all v h i2 (fun j hj => (hv j hj).1) _ 8 0 rfl).mpr ⟨rtI _, ?_⟩⟩
      simp only [Option.toList, List.cons_append, List.nil_append, b_X_count_20]
      apply mm
      show Wp 99 P_M_count 59 _ _ _ _
      rw [b_M_count_59]
      exact (w_M_count4 (d := 99) (nI 4) v _ m1 (fun j hj => by rw [hJ_sI]; exact (hv j hj).2) _ 8 0 rfl).mpr ⟨rtI _, rfl, fin⟩
    · show Wp 99 P_X_count 21 _ _ _ _
      obtain ⟨v0, a0, b0, d0⟩ := i13.2 0 (by decide)
      obtain ⟨v2, a2, b2, d2⟩ := i13.2 2 (by decide)
      have b0' : hI h 105 3 = nI v0 := b0
      have b2' : hI h 105 5 = nI v2 := b2
      have d0' : hJ h 373 0 = lN v0 := d0
      have d2' : hJ h 373 2 = lN v2 := d2
      rw [b_X_count_21]
      simp only [xk_100 i2, xr_100_4 i2, xk_105 i2, b0', b2', nadd, true_and]
      apply mm
      show Wp 99 P_M_count 76 _ _ _ _
      rw [b_M_count_76]
      simp only [mo m1, mr_39 m1, mk_373 m1, mn_373 m1, show ixo 0 4 = true by decide, show ixo 2 4 = true by decide, tn0, tn2, hJ_sI, d0', d2', ladd, lN_i, true_and]
      exact ⟨rtI _, fin⟩
    · show Wp 99 P_X_count 29 _ _ _ _
      obtain ⟨n, hn, t1, t2, t3⟩ := i8
      rw [b_X_count_29]
      simp only [xk_100 i2, xr_100_6 i2, xk_108 i2, xr_108_0 i2, xk_109 i2, t1, true_and]
      apply mm
      show Wp 99 P_M_count 87 _ _ _ _
      rw [b_M_count_87]
      refine ⟨mo m1, rtI _, ?_, fin⟩
      rw [hI_same, if_neg (by decide), t2]
    · show Wp 99 P_X_count 34 _ _ _ _
      obtain ⟨bd, b1, b2, b3⟩ := i9
      rw [b_X_count_34]
      simp only [xk_100 i2, xr_100_7 i2, xk_122 i2, xr_122_0 i2, xk_123 i2, b3, true_and]
      apply mm
      show Wp 99 P_M_count 90 _ _ _ _
      rw [b_M_count_90]
      refine (w_M_count7 (d := 99) (nI 7) (fun l => (bd l).isSome = true) _ m1 ?_ _ 3 0 rfl).mpr ⟨rtI _, ?_, fin⟩
      · intro l hl
        rw [e0 359 (by decide)]
        have := (b2 l hl).1
        cases hb : bd l with
        | none =>
          rw [hb] at this
          have this : hI h 359 l = -1 := this
          rw [this]
          simp
        | some cs =>
          rw [hb] at this
          obtain ⟨f, g1, g2, g3⟩ := this
          rw [g1]
          simp
          exact Int32.not_lt.mp (n_nn (by omega))
      · congr 3
        unfold tldN
        show 0 + _ + _ + _ = _
        rw [Nat.zero_add]
end OPS
