--deps: 71.frame
/-! PLANS OF THE CLASS -/
theorem mem20 : ((20 : Nat) ∈ ([20, 44] : List Nat)) ↔ True := by decide
theorem mem22 : ((22 : Nat) ∈ ([22, 45] : List Nat)) ↔ True := by decide
theorem mem21 : ((21 : Nat) ∈ ([21] : List Nat)) ↔ True := by decide
theorem al20 : ((20 : Nat) ≤ 20 ∧ (20 : Nat) ≠ 40 ∧ (20 : Nat) ≠ 42 ∧ (20 : Nat) ≤ 45 ∧ (20 : Nat) ≠ 43) ↔ True := by decide
theorem al21 : ((20 : Nat) ≤ 21 ∧ (21 : Nat) ≠ 40 ∧ (21 : Nat) ≠ 42 ∧ (21 : Nat) ≤ 45 ∧ (21 : Nat) ≠ 43) ↔ True := by decide
theorem al33 : ((20 : Nat) ≤ 33 ∧ (33 : Nat) ≠ 40 ∧ (33 : Nat) ≠ 42 ∧ (33 : Nat) ≤ 45 ∧ (33 : Nat) ≠ 43) ↔ True := by decide
theorem al34 : ((20 : Nat) ≤ 34 ∧ (34 : Nat) ≠ 40 ∧ (34 : Nat) ≠ 42 ∧ (34 : Nat) ≤ 45 ∧ (34 : Nat) ≠ 43) ↔ True := by decide
theorem al36 : ((20 : Nat) ≤ 36 ∧ (36 : Nat) ≠ 40 ∧ (36 : Nat) ≠ 42 ∧ (36 : Nat) ≤ 45 ∧ (36 : Nat) ≠ 43) ↔ True := by decide
theorem al37 : ((20 : Nat) ≤ 37 ∧ (37 : Nat) ≠ 40 ∧ (37 : Nat) ≠ 42 ∧ (37 : Nat) ≤ 45 ∧ (37 : Nat) ≠ 43) ↔ True := by decide
theorem al38 : ((20 : Nat) ≤ 38 ∧ (38 : Nat) ≠ 40 ∧ (38 : Nat) ≠ 42 ∧ (38 : Nat) ≤ 45 ∧ (38 : Nat) ≠ 43) ↔ True := by decide
theorem aa33 : ((30 : Nat) ≤ 33 ∧ (33 : Nat) ≤ 41 ∧ (33 : Nat) ≠ 40) ↔ True := by decide
theorem aa34 : ((30 : Nat) ≤ 34 ∧ (34 : Nat) ≤ 41 ∧ (34 : Nat) ≠ 40) ↔ True := by decide
theorem aa36 : ((30 : Nat) ≤ 36 ∧ (36 : Nat) ≤ 41 ∧ (36 : Nat) ≠ 40) ↔ True := by decide
theorem aa37 : ((30 : Nat) ≤ 37 ∧ (37 : Nat) ≤ 41 ∧ (37 : Nat) ≠ 40) ↔ True := by decide
theorem aa38 : ((30 : Nat) ≤ 38 ∧ (38 : Nat) ≤ 41 ∧ (38 : Nat) ≠ 40) ↔ True := by decide
/-- a row of a plan of size s, read at q -/
def pAt (f : Nat → Int32) (s q : Int32) : Int32 := if 0 ≤ q ∧ q < s ∧ q < 12 then f q.toNatClampNeg else -1
theorem ix12 {q : Int32} (h0 : ¬ q < 0) (h1 : q < 12) : ixo q 12 = true := by
  obtain ⟨k, hk, rfl⟩ := n_ex 12 (Int32.not_lt.mp h0) h1 (by decide)
  exact nix hk (by decide)
theorem c_Pl_kindAt {d : Nat} (r : Nat) (q : Int32) (h : AH) (x : PLN h r) (Q : Option Value → AH → Prop) : Cl (d + 1) q_Pl_kindAt [.ref r, .int q] h Q ↔ Q (some (.int (pAt (hI h (r + 1)) (hI h r 3) q))) h := by
  obtain ⟨x0, x1, x2, x3, x4, x5, x6, x7, x8, x9, x10⟩ := x
  simp only [e_Pl_kindAt, b_Pl_kindAt_0, b_Pl_kindAt_2, b_Pl_kindAt_6, b_Pl_kindAt_11, b_Pl_kindAt_16, b_Pl_kindAt_17, x1, x2, x5, x8, rtI, mem20, mem21, mem22, al20, al21, al33, al34, al36, al37, al38, aa33, aa34, aa36, aa37, aa38, true_and, and_true, Int32.reduceOfNat, forall_const, true_implies, implies_true, false_implies, not_true_eq_false, not_false_eq_true]
  unfold pAt
  grind [ix12]
theorem c_Pl_itemAt {d : Nat} (r : Nat) (q : Int32) (h : AH) (x : PLN h r) (Q : Option Value → AH → Prop) : Cl (d + 1) q_Pl_itemAt [.ref r, .int q] h Q ↔ Q (some (.int (pAt (hI h (r + 2)) (hI h r 3) q))) h := by
  obtain ⟨x0, x1, x2, x3, x4, x5, x6, x7, x8, x9, x10⟩ := x
  simp only [e_Pl_itemAt, b_Pl_itemAt_0, b_Pl_itemAt_2, b_Pl_itemAt_6, b_Pl_itemAt_11, b_Pl_itemAt_16, b_Pl_itemAt_17, x1, x3, x6, x9, rtI, mem20, mem21, mem22, al20, al21, al33, al34, al36, al37, al38, aa33, aa34, aa36, aa37, aa38, true_and, and_true, Int32.reduceOfNat, forall_const, true_implies, implies_true, false_implies, not_true_eq_false, not_false_eq_true]
  unfold pAt
  grind [ix12]
theorem c_Pl_minutesAt {d : Nat} (r : Nat) (q : Int32) (h : AH) (x : PLN h r) (Q : Option Value → AH → Prop) : Cl (d + 1) q_Pl_minutesAt [.ref r, .int q] h Q ↔ Q (some (.int (pAt (hI h (r + 3)) (hI h r 3) q))) h := by
  obtain ⟨x0, x1, x2, x3, x4, x5, x6, x7, x8, x9, x10⟩ := x
  simp only [e_Pl_minutesAt, b_Pl_minutesAt_0, b_Pl_minutesAt_2, b_Pl_minutesAt_6, b_Pl_minutesAt_11, b_Pl_minutesAt_16, b_Pl_minutesAt_17, x1, x4, x7, x10, rtI, mem20, mem21, mem22, al20, al21, al33, al34, al36, al37, al38, aa33, aa34, aa36, aa37, aa38, true_and, and_true, Int32.reduceOfNat, forall_const, true_implies, implies_true, false_implies, not_true_eq_false, not_false_eq_true]
  unfold pAt
  grind [ix12]
theorem pAt_n (f : Nat → Int32) {n q : Nat} (h : q < n) (hn : n ≤ 12) : pAt f (nI n) (nI q) = f q := by
  unfold pAt
  have h1 : (0 : Int32) ≤ nI q := (nle (a := 0) (by decide) (by omega)).mpr (by omega)
  have h2 : nI q < nI n := (nlt (by omega) (by omega)).mpr h
  have h3 : nI q < 12 := (nlt (b := 12) (by omega) (by decide)).mpr (by omega)
  rw [if_pos ⟨h1, h2, h3⟩, cN (by omega)]
theorem c_Pl_add {d : Nat} (r n : Nat) (a b c : Int32) (h : AH) (x : PLN h r) (hn : hI h r 3 = nI n) (hn2 : n < 12) (Q : Option Value → AH → Prop) : Cl (d + 1) q_Pl_add [.ref r, .int a, .int b, .int c] h Q ↔ Q none (sI (sI (sI (sI h (r + 1) n a) (r + 2) n b) (r + 3) n c) r 3 (nI (n + 1))) := by
  obtain ⟨x0, x1, x2, x3, x4, x5, x6, x7, x8, x9, x10⟩ := x
  have h1 : ¬ nI n < 0 := by
    have := (nle (a := 0) (b := n) (by decide) (by omega)).mpr (by omega)
    exact Int32.not_lt.mpr this
  have h2 : ¬ (12 : Int32) ≤ nI n := mt (nle (a := 12) (b := n) (by decide) (by omega)).mp (by omega)
  have h3 : nI n < 12 := Int32.not_le.mp h2
  have e1 : r ≠ r + 1 := by omega
  have e2 : r ≠ r + 2 := by omega
  have e3 : r ≠ r + 3 := by omega
  have i1 := nix hn2 (by decide)
  have c1 := cN (n := n) (by omega)
  have p1 : nI n + 1 = nI (n + 1) := nI_1 n
  simp only [e_Pl_add, b_Pl_add_0, b_Pl_add_3, b_Pl_add_9, b_Pl_add_15, b_Pl_add_21, b_Pl_add_22, hI_sI, hJ_sI, hR_sI, hK_sI, hN_sI, hz_sI, hu_sI, hJ_sJ, hI_sJ, hR_sJ, hK_sJ, hN_sJ, hz_sJ, hu_sJ, hR_sR, hI_sR, hJ_sR, hK_sR, hN_sR, hz_sR, hu_sR, x1, x2, x3, x4, x5, x6, x7, x8, x9, x10, rtI, mem20, mem21, mem22, al20, al21, al33, al34, al36, al37, al38, aa33, aa34, aa36, aa37, aa38, true_and, and_true, Int32.reduceOfNat, forall_const, true_implies, implies_true, false_implies, not_true_eq_false, not_false_eq_true, hn, h1, h2, h3, i1, c1, e1, e2, e3, if_false, p1, rtV]
/-- how many of the first n are k -/
def cnt (f : Nat → Int32) (k : Int32) : Nat → Nat
  | 0 => 0
  | n + 1 => cnt f k n + if f n = k then 1 else 0
theorem cnt_le (f : Nat → Int32) (k : Int32) : ∀ n, cnt f k n ≤ n
  | 0 => Nat.le_refl _
  | n + 1 => by
    have := cnt_le f k n
    unfold cnt
    split <;> omega
theorem w_Pl_ahead {d : Nat} (r n q : Nat) (k : Int32) (h : AH) (x : PLN h r) (hn : hI h r 3 = nI n) (hn2 : n ≤ 12) (hq : q ≤ n) (Q : Option Value → AH → Prop) : ∀ (m i : Nat), i + m = q → (Wp (d + 1) P_Pl_ahead 8 [.ref r, .int (nI q), .int k, .int (nI (cnt (hI h (r + 1)) k i)), .int (nI i)] [] h Q ↔ Q (some (.int (nI (cnt (hI h (r + 1)) k q)))) h) := by
  intro m
  induction m with
  | zero =>
    intro i e
    have : i = q := by omega
    subst this
    rw [b_Pl_ahead_8]
    simp only [Int32.le_refl, b_Pl_ahead_23, mem20, mem21, mem22, al20, al21, al33, al34, al36, al37, al38, aa33, aa34, aa36, aa37, aa38, true_and, and_true, Int32.reduceOfNat, forall_const, true_implies, implies_true, false_implies, not_true_eq_false, not_false_eq_true]
  | succ m ih =>
    intro i e
    have h1 : ¬ nI q ≤ nI i := mt (nle (by omega) (by omega)).mp (by omega)
    have h2 : ¬ nI n ≤ nI i := mt (nle (by omega) (by omega)).mp (by omega)
    have ihm := ih (i + 1) (by omega)
    rw [b_Pl_ahead_8]
    simp only [b_Pl_ahead_11, b_Pl_ahead_15, c_Pl_kindAt r _ h x, Option.toList, List.cons_append, List.nil_append, b_Pl_ahead_18, b_Pl_ahead_20, b_Pl_ahead_21, hn, pAt_n _ (show i < n by omega) hn2, h1, h2, x.2.1, nI_1, mem20, mem21, mem22, al20, al21, al33, al34, al36, al37, al38, aa33, aa34, aa36, aa37, aa38, true_and, and_true, Int32.reduceOfNat, forall_const, true_implies, implies_true, false_implies, not_true_eq_false, not_false_eq_true]
    have cs : cnt (hI h (r + 1)) k (i + 1) = cnt (hI h (r + 1)) k i + (if hI h (r + 1) i = k then 1 else 0) := rfl
    rw [cs] at ihm
    by_cases qk : hI h (r + 1) i = k
    · simp only [qk, if_true] at ihm
      simp only [qk, not_true_eq_false, mem20, mem21, mem22, al20, al21, al33, al34, al36, al37, al38, aa33, aa34, aa36, aa37, aa38, true_and, and_true, Int32.reduceOfNat, forall_const, true_implies, implies_true, false_implies, not_true_eq_false, not_false_eq_true]
      exact ihm
    · simp only [qk, if_false, Nat.add_zero] at ihm
      simp only [qk, not_false_eq_true, mem20, mem21, mem22, al20, al21, al33, al34, al36, al37, al38, aa33, aa34, aa36, aa37, aa38, true_and, and_true, Int32.reduceOfNat, forall_const, true_implies, implies_true, false_implies, not_true_eq_false, not_false_eq_true]
      exact ihm
theorem c_Pl_ahead {d : Nat} (r n q : Nat) (h : AH) (x : PLN h r) (hn : hI h r 3 = nI n) (hn2 : n ≤ 12) (hq : q < n) (Q : Option Value → AH → Prop) : Cl (d + 2) q_Pl_ahead [.ref r, .int (nI q)] h Q ↔ Q (some (.int (nI (cnt (hI h (r + 1)) (hI h (r + 1) q) q)))) h := by
  have w := w_Pl_ahead (d := d) r n q (hI h (r + 1) q) h x hn hn2 (by omega) (fun r h' => rtk (some .int) r = true ∧ Q r h') q 0 (by omega)
  rw [e_Pl_ahead, b_Pl_ahead_0]
  simp only [c_Pl_kindAt r _ h x, Option.toList, List.cons_append, List.nil_append, b_Pl_ahead_3, hn, pAt_n _ hq hn2, x.2.1, true_and]
  exact w.trans (by simp only [rtI, true_and])
/-- a plan becomes another: size and rows -/
def PCopy (h0 h : AH) (f r n : Nat) : Prop := hI h r 3 = nI n ∧ ∀ i, i < n → hI h (r + 1) i = hI h0 (f + 1) i ∧ hI h (r + 2) i = hI h0 (f + 2) i ∧ hI h (r + 3) i = hI h0 (f + 3) i
def pcs (r : Nat) : Nat → Prop := fun a => r ≤ a ∧ a ≤ r + 3
theorem w_Pl_become {d : Nat} (r f n : Nat) (h0 : AH) (x : PLN h0 r) (y : PLN h0 f) (hd : r + 3 < f ∨ f + 3 < r) (hn : hI h0 f 3 = nI n) (hn2 : n ≤ 12) (Q : Option Value → AH → Prop) : ∀ (m i : Nat) (h : AH), i + m = n → Fr (pcs r) nov h0 h → PCopy h0 h f r i → (∀ h', Fr (pcs r) nov h0 h' → PCopy h0 h' f r n → Q none h') → Wp (d + 1) P_Pl_become 5 [.ref r, .ref f, .int (nI i)] [] h Q := by
  intro m
  induction m with
  | zero =>
    intro i h e fr pc hq
    have : i = n := by omega
    subst this
    have y' := y.fr fr
    have e1 : hI h f = hI h0 f := fr.I (by unfold pcs; omega)
    rw [b_Pl_become_5, e1]
    simp only [y'.2.1, hn, Int32.le_refl, b_Pl_become_22, mem20, mem21, mem22, al20, al21, al33, al34, al36, al37, al38, aa33, aa34, aa36, aa37, aa38, true_and, and_true, Int32.reduceOfNat, forall_const, true_implies, implies_true, false_implies, not_true_eq_false, not_false_eq_true]
    exact hq h fr pc
  | succ m ih =>
    intro i h e fr pc hq
    have y' := y.fr fr
    have x' := x.fr fr
    have e0 : hI h f = hI h0 f := fr.I (by unfold pcs; omega)
    have e1 : hI h (f + 1) = hI h0 (f + 1) := fr.I (by unfold pcs; omega)
    have e2 : hI h (f + 2) = hI h0 (f + 2) := fr.I (by unfold pcs; omega)
    have e3 : hI h (f + 3) = hI h0 (f + 3) := fr.I (by unfold pcs; omega)
    have h1 : ¬ nI n ≤ nI i := mt (nle (by omega) (by omega)).mp (by omega)
    have hi : i < n := by omega
    rw [b_Pl_become_5, e0]
    simp only [y'.2.1, hn, h1, b_Pl_become_9, c_Pl_kindAt f _ h y', c_Pl_itemAt f _ h y', c_Pl_minutesAt f _ h y', b_Pl_become_13, b_Pl_become_16, b_Pl_become_19, b_Pl_become_20, Option.toList, List.cons_append, List.nil_append, e0, e1, e2, e3, pAt_n _ hi hn2, c_Pl_add r i _ _ _ h x' pc.1 (by omega), mem20, mem21, mem22, al20, al21, al33, al34, al36, al37, al38, aa33, aa34, aa36, aa37, aa38, true_and, and_true, Int32.reduceOfNat, forall_const, true_implies, implies_true, false_implies, not_true_eq_false, not_false_eq_true, nI_1]
    refine ih (i + 1) _ (by omega) ?_ ?_ hq
    · exact (((fr.sI (by unfold pcs; omega)).sI (by unfold pcs; omega)).sI (by unfold pcs; omega)).sI (by unfold pcs; omega)
    · have n1 : r ≠ r + 1 := by omega
      have n2 : r ≠ r + 2 := by omega
      have n3 : r ≠ r + 3 := by omega
      have n4 : r + 1 ≠ r := by omega
      have n5 : r + 2 ≠ r := by omega
      have n6 : r + 3 ≠ r := by omega
      have n7 : r + 1 ≠ r + 2 := by omega
      have n8 : r + 1 ≠ r + 3 := by omega
      have n9 : r + 2 ≠ r + 3 := by omega
      have n10 : r + 2 ≠ r + 1 := by omega
      have n11 : r + 3 ≠ r + 1 := by omega
      have n12 : r + 3 ≠ r + 2 := by omega
      refine ⟨by simp only [hI_sI, hJ_sI, hR_sI, hK_sI, hN_sI, hz_sI, hu_sI, hJ_sJ, hI_sJ, hR_sJ, hK_sJ, hN_sJ, hz_sJ, hu_sJ, hR_sR, hI_sR, hJ_sR, hK_sR, hN_sR, hz_sR, hu_sR, if_true], ?_⟩
      intro j hj
      simp only [hI_sI, hJ_sI, hR_sI, hK_sI, hN_sI, hz_sI, hu_sI, hJ_sJ, hI_sJ, hR_sJ, hK_sJ, hN_sJ, hz_sJ, hu_sJ, hR_sR, hI_sR, hJ_sR, hK_sR, hN_sR, hz_sR, hu_sR, n1, n2, n3, n4, n5, n6, n7, n8, n9, n10, n11, n12, if_true, if_false]
      have := pc.2 j
      by_cases q : j = i
      · simp only [q, if_true, and_self]
      · simp only [q, if_false]; exact this (by omega)
theorem c_Pl_become {d : Nat} (r f n : Nat) (h : AH) (x : PLN h r) (y : PLN h f) (hd : r + 3 < f ∨ f + 3 < r) (hn : hI h f 3 = nI n) (hn2 : n ≤ 12) (Q : Option Value → AH → Prop) (hq : ∀ h', Fr (pcs r) nov h h' → PCopy h h' f r n → Q none h') : Cl (d + 2) q_Pl_become [.ref r, .ref f] h Q := by
  rw [e_Pl_become, b_Pl_become_0]
  refine ⟨x.2.1, x.2.1, ?_⟩
  refine w_Pl_become r f n h x y hd hn hn2 _ n 0 _ (by omega) (Fr.rfl'.sI (by unfold pcs; omega)) ⟨by simp only [hI_sI, hJ_sI, hR_sI, hK_sI, hN_sI, hz_sI, hu_sI, hJ_sJ, hI_sJ, hR_sJ, hK_sJ, hN_sJ, hz_sJ, hu_sJ, hR_sR, hI_sR, hJ_sR, hK_sR, hN_sR, hz_sR, hu_sR, if_true]; rfl, fun i hi => by omega⟩ ?_
  intro h' a b
  exact ⟨rfl, hq h' a b⟩
