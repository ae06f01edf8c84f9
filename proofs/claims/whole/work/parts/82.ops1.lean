--deps: 81.inv
theorem IBd.fr {S T : Nat → Prop} {h h' : AH} (i : IBd h) (p : Fr S T h h') (q : ∀ a, S a → a ≠ 123 ∧ a ≠ 124 ∧ a ≠ 125 ∧ a ≠ 127 ∧ a ≠ 357 ∧ a ≠ 358 ∧ a ≠ 359 ∧ a < 378) : IBd h' := by
  obtain ⟨bd, b1, b2, b3⟩ := i
  exact ⟨bd, b1.fr p (fun a z => by have := q a z; omega), b2.fr p (fun a z => by have := q a z; omega), by rw [p.I (fun z => (q _ z).1 rfl)]; exact b3⟩
theorem IRd.fr {S T : Nat → Prop} {h h' : AH} (i : IRd h) (p : Fr S T h h') (q : ∀ a, S a → (a < 170 ∨ 190 ≤ a) ∧ a ≠ 357 ∧ a ≠ 358 ∧ a ≠ 361 ∧ a ≠ 362 ∧ a < 378) : IRd h' := by
  intro r hr
  obtain ⟨N, cc, r1, r2⟩ := i r hr
  exact ⟨N, cc, r1.fr p (fun a z => by have := q a z; omega), r2.fr p (fun a z => by have := q a z; omega)⟩
theorem ISn.fr {h h' : AH} (i : ISn h) (q : hI h' 105 1 = hI h 105 1) (q2 : hI h' 342 30 = hI h 342 30) : ISn h' := by
  unfold ISn; rw [q, q2]; exact i
theorem ISt.fr {h h' : AH} (i : ISt h) (q : ∀ a, (190 ≤ a ∧ a < 334) ∨ (365 ≤ a ∧ a < 370) → hI h' a = hI h a) : ISt h' := by
  intro s hs
  obtain ⟨n, ks, s1⟩ := i s hs
  exact ⟨n, ks, s1.fr hs (fun a z => q a (by omega)) (by rw [q 365 (by omega)]) (by rw [q 366 (by omega)]) (fun k hk => by rw [q 367 (by omega), q 368 (by omega)]; exact ⟨rfl, rfl⟩) (fun k hk => by rw [q 369 (by omega)])⟩
theorem ITy.fr {B B' : Nat} {h h' : AH} (i : ITy B h) (hB : B ≤ B') (q : hI h' 106 = hI h 106) (q2 : ∀ k, k < 4 → hI h' 105 (3 + k) = hI h 105 (3 + k)) (q3 : hJ h' 372 = hJ h 372) (q4 : hJ h' 373 = hJ h 373) : ITy B' h' := by
  unfold ITy ITy1 at i ⊢
  rw [q, q3, q4]
  exact ⟨fun k hk => by obtain ⟨v, a, b⟩ := i.1 k hk; exact ⟨v, by omega, b⟩, fun k hk => by rw [q2 k hk]; obtain ⟨v, a, b⟩ := i.2 k hk; exact ⟨v, by omega, b⟩⟩
def OpI (L : Nat) (xs : Nat → Int32) (c : Nat) (qx : Nat) (ax : List Value) (qm : Nat) (am : List Value) (h : AH) : Prop := Cl 100 qx ax h (fun r h1 => ∃ v : Int32, r = some (.int v) ∧ Cl 100 qm am h1 (fun r' h2 => r' = some (.int v) ∧ Inv L xs (c + 1) h2))
def OpJ (L : Nat) (xs : Nat → Int32) (c : Nat) (qx : Nat) (ax : List Value) (qm : Nat) (am : List Value) (h : AH) : Prop := Cl 100 qx ax h (fun r h1 => ∃ v : Int64, r = some (.long v) ∧ Cl 100 qm am h1 (fun r' h2 => r' = some (.long v) ∧ Inv L xs (c + 1) h2))
/-- a call that tells nothing new -/
theorem Inv.th {L : Nat} {xs : Nat → Int32} {c : Nat} {h : AH} {v : Int32} (i : Inv L xs c h) : Inv L xs (c + 1) (sI h 342 0 v) := by
  refine i.keep (Nat.le_succ _) (S := onl 342) (T := nov) (Fs1 Fr.rfl') (fun a z => by unfold onl at z; unfold scr; omega) (fun a z => z.elim) ?_ ?_ ?_ ?_ ?_ ?_
  · rw [hI_same, if_neg (by decide)]
  · rw [hI_same, if_neg (by decide)]
  · rw [hI_same, if_neg (by decide)]
  · intro s hs; rw [rI_sI (by decide), rI_sI (by decide)]; exact ⟨rfl, rfl⟩
  · intro s hs; rw [rI_sI (by decide), rI_sI (by decide)]; exact ⟨rfl, rfl⟩
  · intro s hs; rw [rI_sI (by decide)]
theorem c_X_item {d : Nat} (k : Int32) (h : AH) (x : XLY h) (Q : Option Value → AH → Prop) : Cl (d + 2) q_X_item [.ref 100, .int k] h Q ↔ if 0 ≤ k ∧ k ≤ 8 then Q (some (.int 1)) (sI h 122 3 k) else Q (some (.int 0)) h := by
  simp only [e_X_item, b_X_item_0, b_X_item_4, b_X_item_5, b_X_item_7, c_within, Option.toList, List.cons_append, List.nil_append, bw0, xk_100 x, xr_100_7 x, xk_122 x, rtZ0, rtZ1, mem20, mem21, mem22, al20, al21, al33, al34, al36, al37, al38, aa33, aa34, aa36, aa37, aa38, true_and, and_true, Int32.reduceOfNat, forall_const, true_implies, implies_true, false_implies, not_true_eq_false, not_false_eq_true]
  by_cases q : 0 ≤ k ∧ k ≤ 8 <;> simp [q]
theorem powJ_s (b : Int64) : ∀ (n : Nat) (v : Int64), powJ b n (v * b) = powJ b n v * b
  | 0, v => rfl
  | n + 1, v => powJ_s b n (v * b)
theorem powJ_1 (b : Int64) (n : Nat) (v : Int64) : powJ b (n + 1) v = powJ b n v * b := powJ_s b n v
def itR (b : Int64) (P : Int64) : Nat → Nat → Int32
  | 0, _ => -1
  | r + 1, q => if lg_cmp (powJ b q 1) P < 0 then itR b P r (q + 1) else nI q
theorem w_X_items {d : Nat} (m p : Int32) (h : AH) (Q : Option Value → AH → Prop) : ∀ (r q : Nat), 0 < q → q + r = 10 → (Wp d P_X_items 16 [.ref 100, .int m, .int p, .long (powJ (Int32.toInt64 m) (q - 1) 1), .null, .int (nI q)] [] h Q ↔ Q (some (.int (itR (Int32.toInt64 m) (Int32.toInt64 p) r q))) h) := by
  intro r
  induction r with
  | zero =>
    intro q h0 e
    have : q = 10 := by omega
    subst this
    rw [b_X_items_16]
    simp only [show (9 : Int32) < nI 10 by decide, b_X_items_33, mem20, mem21, mem22, al20, al21, al33, al34, al36, al37, al38, aa33, aa34, aa36, aa37, aa38, true_and, and_true, Int32.reduceOfNat, forall_const, true_implies, implies_true, false_implies, not_true_eq_false, not_false_eq_true]
    rfl
  | succ r ih =>
    intro q h0 e
    have z : ¬ (9 : Int32) < nI q := mt (nlt (a := 9) (by decide) (by omega)).mp (by omega)
    have e1 : powJ (Int32.toInt64 m) (q - 1) 1 * Int32.toInt64 m = powJ (Int32.toInt64 m) q 1 := by
      rw [← powJ_1]; congr 1; omega
    have ihh := ih (q + 1) (by omega) (by omega)
    rw [show q + 1 - 1 = q by omega] at ihh
    have e2 : itR (Int32.toInt64 m) (Int32.toInt64 p) (r + 1) q = if lg_cmp (powJ (Int32.toInt64 m) q 1) (Int32.toInt64 p) < 0 then itR (Int32.toInt64 m) (Int32.toInt64 p) r (q + 1) else nI q := rfl
    rw [b_X_items_16]
    simp only [z, b_X_items_19, e1, b_X_items_29, b_X_items_31, nI_1, ihh, e2, mem20, mem21, mem22, al20, al21, al33, al34, al36, al37, al38, aa33, aa34, aa36, aa37, aa38, true_and, and_true, Int32.reduceOfNat, forall_const, true_implies, implies_true, false_implies, not_true_eq_false, not_false_eq_true]
    by_cases qq : lg_cmp (powJ (Int32.toInt64 m) q 1) (Int32.toInt64 p) < 0 <;> simp [qq]
theorem w_M_items {d : Nat} (m p : Int32) (h : AH) (Q : Option Value → AH → Prop) : ∀ (r q : Nat), 0 < q → q + r = 10 → (Wp (d + 1) P_M_items 17 [.ref 342, .int m, .int p, .int (nI q)] [] h Q ↔ Q (some (.int (itR (Int32.toInt64 m) (Int32.toInt64 p) r q))) h) := by
  intro r
  induction r with
  | zero =>
    intro q h0 e
    have : q = 10 := by omega
    subst this
    rw [b_M_items_17]
    simp only [show (9 : Int32) < nI 10 by decide, b_M_items_32, mem20, mem21, mem22, al20, al21, al33, al34, al36, al37, al38, aa33, aa34, aa36, aa37, aa38, true_and, and_true, Int32.reduceOfNat, forall_const, true_implies, implies_true, false_implies, not_true_eq_false, not_false_eq_true]
    rfl
  | succ r ih =>
    intro q h0 e
    have z : ¬ (9 : Int32) < nI q := mt (nlt (a := 9) (by decide) (by omega)).mp (by omega)
    have ihh := ih (q + 1) (by omega) (by omega)
    have e2 : itR (Int32.toInt64 m) (Int32.toInt64 p) (r + 1) q = if lg_cmp (powJ (Int32.toInt64 m) q 1) (Int32.toInt64 p) < 0 then itR (Int32.toInt64 m) (Int32.toInt64 p) r (q + 1) else nI q := rfl
    rw [b_M_items_17]
    simp only [z, b_M_items_20, c_M_power (Int32.toInt64 m) q (show q < 2 ^ 31 by omega), Option.toList, List.cons_append, List.nil_append, b_M_items_24, b_M_items_28, b_M_items_30, nI_1, ihh, e2, mem20, mem21, mem22, al20, al21, al33, al34, al36, al37, al38, aa33, aa34, aa36, aa37, aa38, true_and, and_true, Int32.reduceOfNat, forall_const, true_implies, implies_true, false_implies, not_true_eq_false, not_false_eq_true]
    by_cases qq : lg_cmp (powJ (Int32.toInt64 m) q 1) (Int32.toInt64 p) < 0 <;> simp [qq]
def itmF (m p : Int32) : Int32 := if (2 ≤ m ∧ m ≤ 9) ∧ (1 ≤ p ∧ p ≤ 999999999) then itR (Int32.toInt64 m) (Int32.toInt64 p) 9 1 else -1
theorem c_X_items {d : Nat} (m p : Int32) (h : AH) (x : XLY h) (Q : Option Value → AH → Prop) : Cl (d + 2) q_X_items [.ref 100, .int m, .int p] h Q ↔ Q (some (.int (itmF m p))) h := by
  have w := w_X_items (d := d + 1) m p h (fun r h' => rtk (some .int) r = true ∧ Q r h') 9 1 (by decide) (by decide)
  rw [e_X_items, b_X_items_0]
  simp only [c_within, Option.toList, List.cons_append, List.nil_append, b_X_items_4, b_X_items_5, b_X_items_9, b_X_items_10, b_X_items_12, bw0, xk_100 x, rtI, mem20, mem21, mem22, al20, al21, al33, al34, al36, al37, al38, aa33, aa34, aa36, aa37, aa38, true_and, and_true, Int32.reduceOfNat, forall_const, true_implies, implies_true, false_implies, not_true_eq_false, not_false_eq_true]
  have w' : Wp (d + 1) P_X_items 16 [.ref 100, .int m, .int p, .long 1, .null, .int 1] [] h (fun r h' => rtk (some .int) r = true ∧ Q r h') ↔ Q (some (.int (itR (Int32.toInt64 m) (Int32.toInt64 p) 9 1))) h := w.trans (by simp only [rtI, true_and])
  rw [w']
  unfold itmF
  by_cases q1 : 2 ≤ m ∧ m ≤ 9
  · by_cases q2 : 1 ≤ p ∧ p ≤ 999999999 <;> simp [q1, q2]
  · simp [q1]
theorem c_M_items {d : Nat} (m p : Int32) (h : AH) (mm : MLY h) (Q : Option Value → AH → Prop) : Cl (d + 2) q_M_items [.ref 342, .int m, .int p] h Q ↔ Q (some (.int (itmF m p))) (sI h 342 0 0) := by
  have w := w_M_items (d := d) m p (sI h 342 0 0) (fun r h' => rtk (some .int) r = true ∧ Q r h') 9 1 (by decide) (by decide)
  rw [e_M_items, b_M_items_0]
  simp only [c_M_within, Option.toList, List.cons_append, List.nil_append, b_M_items_7, b_M_items_8, b_M_items_12, b_M_items_13, b_M_items_15, bw0, mo mm, rtI, mem20, mem21, mem22, al20, al21, al33, al34, al36, al37, al38, aa33, aa34, aa36, aa37, aa38, true_and, and_true, Int32.reduceOfNat, forall_const, true_implies, implies_true, false_implies, not_true_eq_false, not_false_eq_true]
  have w' : Wp (d + 1) P_M_items 17 [.ref 342, .int m, .int p, .int 1] [] (sI h 342 0 0) (fun r h' => rtk (some .int) r = true ∧ Q r h') ↔ Q (some (.int (itR (Int32.toInt64 m) (Int32.toInt64 p) 9 1))) (sI h 342 0 0) := w.trans (by simp only [rtI, true_and])
  rw [w']
  unfold itmF
  by_cases q1 : 2 ≤ m ∧ m ≤ 9
  · by_cases q2 : 1 ≤ p ∧ p ≤ 999999999 <;> simp [q1, q2]
  · simp [q1]
section OPS
variable {L : Nat} {xs : Nat → Int32} {c : Nat} {h : AH}
theorem op_person (i : Inv L xs c h) (p f dn hd tr : Int32) (b1 : i01 dn = true) (b2 : i01 tr = true) : OpI L xs c q_X_person [.ref 100, .int p, .int f, .int dn, .int hd, .int tr] q_M_person [.ref 342, .int p, .int f, .int dn, .int hd, .int tr] h := by
  unfold OpI
  rw [c_X_person (d := 98) p f dn hd tr h i.2.1 b1 b2]
  by_cases q : (0 ≤ p ∧ p ≤ 7) ∧ (0 ≤ f ∧ f ≤ 9) ∧ (0 ≤ hd ∧ hd ≤ 511)
  · rw [if_pos q]
    refine ⟨1, rfl, ?_⟩
    obtain ⟨n1, n2⟩ := n_of (M := 7) (n := 7) (by decide) q.1
    generalize p.toNatClampNeg = k at n1 n2
    have hp : p.toNatClampNeg = k := by rw [n2]; exact cN (by omega)
    have fr1 : Fr (fun a => a = 146 + k ∨ a = 342 ∨ (348 ≤ a ∧ a ≤ 352)) nov h (sI (sI (sI (sI (sI h (146 + k) 0 1) (146 + k) 1 f) (146 + k) 2 dn) (146 + k) 3 hd) (146 + k) 4 tr) := ((((Fr.rfl'.sI (Or.inl rfl)).sI (Or.inl rfl)).sI (Or.inl rfl)).sI (Or.inl rfl)).sI (Or.inl rfl)
    rw [c_M_person (d := 98) p f dn hd tr _ (i.2.2.1.fr fr1) b1 b2, if_pos q]
    refine ⟨rfl, ?_⟩
    unfold mPerson
    rw [hp]
    generalize hh1 : sI (sI (sI (sI (sI h (146 + k) 0 1) (146 + k) 1 f) (146 + k) 2 dn) (146 + k) 3 hd) (146 + k) 4 tr = h1 at fr1 ⊢
    have fr2 := (((((fr1.sI (a := 342) (j := 0) (v := 0) (Or.inr (Or.inl rfl))).sI (a := 348) (j := k) (v := 1) (Or.inr (Or.inr (by decide)))).sI (a := 349) (j := k) (v := f) (Or.inr (Or.inr (by decide)))).sI (a := 350) (j := k) (v := dn) (Or.inr (Or.inr (by decide)))).sI (a := 351) (j := k) (v := hd) (Or.inr (Or.inr (by decide)))).sI (a := 352) (j := k) (v := tr) (Or.inr (Or.inr (by decide)))
    have s342 : ∀ j, j ≠ 0 → hI (sI (sI (sI (sI (sI (sI h1 342 0 0) 348 k 1) 349 k f) 350 k dn) 351 k hd) 352 k tr) 342 j = hI h 342 j := by
      intro j hj
      rw [rI_sI (by decide), rI_sI (by decide), rI_sI (by decide), rI_sI (by decide), rI_sI (by decide), hI_same, if_neg hj, ← hh1, rI_sI (by omega), rI_sI (by omega), rI_sI (by omega), rI_sI (by omega), rI_sI (by omega)]
    have pe : IPe (sI (sI (sI (sI (sI (sI h1 342 0 0) 348 k 1) 349 k f) 350 k dn) 351 k hd) 352 k tr) := by
      intro j hj
      have ip := i.2.2.2.2.1 j hj
      have n0 : ∀ a, (348 ≤ a ∧ a ≤ 352) ∨ a = 342 → ¬ 146 + j = a := by intro a ha; omega
      rw [← hh1]
      by_cases qk : j = k
      · subst qk
        simp only [hI_sI, show ¬ 146 + j = 352 by omega, show ¬ 146 + j = 351 by omega, show ¬ 146 + j = 350 by omega, show ¬ 146 + j = 349 by omega, show ¬ 146 + j = 348 by omega, show ¬ 146 + j = 342 by omega, if_true, if_false]
        simp
        exact ⟨by decide, q.2.1, b1, q.2.2, b2⟩
      · simp only [hI_sI, qk, show ¬ 146 + j = 146 + k by omega, show ¬ 146 + j = 352 by omega, show ¬ 146 + j = 351 by omega, show ¬ 146 + j = 350 by omega, show ¬ 146 + j = 349 by omega, show ¬ 146 + j = 348 by omega, show ¬ 146 + j = 342 by omega, show ¬ (348 : Nat) = 146 + k by omega, show ¬ (349 : Nat) = 146 + k by omega, show ¬ (350 : Nat) = 146 + k by omega, show ¬ (351 : Nat) = 146 + k by omega, show ¬ (352 : Nat) = 146 + k by omega, if_true, if_false]
        simp
        exact ip
    generalize sI (sI (sI (sI (sI (sI h1 342 0 0) 348 k 1) 349 k f) 350 k dn) 351 k hd) 352 k tr = h2 at fr2 s342 pe
    obtain ⟨i1, i2, i3, i4, i5, i6, i7, i8, i9, i10, i11, i12, i13, i14, i15⟩ := i
    refine ⟨i1.fr fr2 (fun a z => by omega), i2.fr fr2, i3.fr fr2, by rw [fr2.K, fr2.N]; exact i4, pe, i6.fr (by rw [fr2.I (by omega)]) (s342 15 (by decide)), i7.fr (fun a z => fr2.I (by omega)), i8.fr (by rw [fr2.I (by omega)]) (fr2.I (by omega)) (fr2.I (by omega)) (s342 2 (by decide)), i9.fr fr2 (fun a z => by omega), i10.fr fr2 (fun a z => by omega), i11.fr (by rw [fr2.I (by omega)]) (s342 30 (by decide)), i12.fr (fun a z => fr2.I (by omega)), i13.fr (by omega) (fr2.I (by omega)) (fun k hk => by rw [fr2.I (by omega)]) (fr2.J (fun z => z)) (fr2.J (fun z => z)), i14.fr (by omega) (fun a z => fr2.I (by omega)) (fr2.J (fun z => z)), ?_⟩
    rw [fr2.z, fr2.u]
    exact ⟨i15.1, by omega, by omega⟩
  · rw [if_neg q]
    refine ⟨0, rfl, ?_⟩
    rw [c_M_person (d := 98) p f dn hd tr h i.2.2.1 b1 b2, if_neg q]
    exact ⟨rfl, i.th⟩
theorem op_odds (i : Inv L xs c h) (q m k w : Int32) : OpJ L xs c q_X_odds [.ref 100, .int q, .int m, .int k, .int w] q_M_odds [.ref 342, .int q, .int m, .int k, .int w] h := by
  unfold OpJ
  rw [c_X_odds (d := 97) q m k w h (xk_100 i.2.1)]
  refine ⟨_, rfl, ?_⟩
  rw [c_M_odds (d := 97) q m k w h i.2.2.1]
  exact ⟨rfl, i.th⟩
theorem op_items (i : Inv L xs c h) (m p : Int32) : OpI L xs c q_X_items [.ref 100, .int m, .int p] q_M_items [.ref 342, .int m, .int p] h := by
  unfold OpI
  rw [c_X_items (d := 98) m p h i.2.1]
  refine ⟨_, rfl, ?_⟩
  rw [c_M_items (d := 98) m p h i.2.2.1]
  exact ⟨rfl, i.th⟩
theorem op_item (i : Inv L xs c h) (k : Int32) : OpI L xs c q_X_item [.ref 100, .int k] q_M_item [.ref 342, .int k] h := by
  unfold OpI
  rw [c_X_item (d := 98) k h i.2.1]
  by_cases q : 0 ≤ k ∧ k ≤ 8
  · rw [if_pos q]
    refine ⟨1, rfl, ?_⟩
    have fr1 : Fr (fun a => a = 122 ∨ a = 342) nov h (sI h 122 3 k) := Fr.rfl'.sI (Or.inl rfl)
    rw [c_M_item (d := 98) k _ (i.2.2.1.fr fr1), if_pos q]
    refine ⟨rfl, ?_⟩
    have fr2 := (fr1.sI (a := 342) (j := 0) (v := 0) (Or.inr rfl)).sI (a := 342) (j := 15) (v := k) (Or.inr rfl)
    have s342 : ∀ j, j ≠ 0 → j ≠ 15 → hI (sI (sI (sI h 122 3 k) 342 0 0) 342 15 k) 342 j = hI h 342 j := by
      intro j hj hj2
      rw [hI_same, if_neg hj2, hI_same, if_neg hj, rI_sI (by decide)]
    have it : IIt (sI (sI (sI h 122 3 k) 342 0 0) 342 15 k) := by
      unfold IIt
      rw [hI_same, if_pos rfl, rI_sI (by decide), rI_sI (by decide), hI_same, if_pos rfl]
      exact ⟨rfl, q⟩
    generalize sI (sI (sI h 122 3 k) 342 0 0) 342 15 k = h2 at fr2 s342 it
    obtain ⟨i1, i2, i3, i4, i5, i6, i7, i8, i9, i10, i11, i12, i13, i14, i15⟩ := i
    refine ⟨i1.fr fr2 (fun a z => by omega), i2.fr fr2, i3.fr fr2, by rw [fr2.K, fr2.N]; exact i4, i5.fr (fun a z => fr2.I (by omega)), it, i7.fr (fun a z => fr2.I (by omega)), i8.fr (by rw [fr2.I (by omega)]) (fr2.I (by omega)) (fr2.I (by omega)) (s342 2 (by decide) (by decide)), i9.fr fr2 (fun a z => by omega), i10.fr fr2 (fun a z => by omega), i11.fr (by rw [fr2.I (by omega)]) (s342 30 (by decide) (by decide)), i12.fr (fun a z => fr2.I (by omega)), i13.fr (by omega) (fr2.I (by omega)) (fun k hk => by rw [fr2.I (by omega)]) (fr2.J (fun z => z)) (fr2.J (fun z => z)), i14.fr (by omega) (fun a z => fr2.I (by omega)) (fr2.J (fun z => z)), ?_⟩
    rw [fr2.z, fr2.u]
    exact ⟨i15.1, by omega, by omega⟩
  · rw [if_neg q]
    refine ⟨0, rfl, ?_⟩
    rw [c_M_item (d := 98) k h i.2.2.1, if_neg q]
    exact ⟨rfl, i.th⟩
end OPS
