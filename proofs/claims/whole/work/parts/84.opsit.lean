--deps: 83.look
theorem cnt_ext {f g : Nat → Int32} {k : Int32} : ∀ {n : Nat}, (∀ i, i < n → f i = g i) → cnt f k n = cnt g k n
  | 0, _ => rfl
  | n + 1, e => by
    unfold cnt
    rw [cnt_ext (fun i hi => e i (by omega)), e n (by omega)]
theorem jmp_ext {bd : Nat → Option (List Nat)} {kd it kd' it' : Nat → Int32} {ti fe dn hd tr : Int32} {q l nz : Nat} (e : ∀ i, i ≤ q → kd i = kd' i) (e2 : it q = it' q) : jmp bd kd it ti fe dn hd tr q l nz = jmp bd kd' it' ti fe dn hd tr q l nz := by
  unfold jmp
  rw [e q (Nat.le_refl _), e2, cnt_ext (fun i hi => e i (by omega))]
theorem i01_of {x : Int32} (h : i01 x = true) : x = 0 ∨ x = 1 := by
  unfold i01 at h
  simpa using h
section OPS
variable {L : Nat} {xs : Nat → Int32} {c : Nat} {h : AH}
/-- the class's sit, where it sits -/
theorem c_X_sit1 (k j n np sd : Nat) (bd : Nat → Option (List Nat)) (x : XLY h) (b : XBd h bd) (hk : k < 8) (hj : j < 4) (hn : n < 24) (hsd : sd ≤ 9999) (t1 : ¬ hI h (146 + k) 0 = 0) (t2 : ¬ hI h (154 + 4 * j) 3 = 0) (en : hI h 105 1 = nI n) (enp : hI h (154 + 4 * j) 3 = nI np) (hnp : np ≤ 12) (Q : Option Value → AH → Prop)
    (fin : ∀ h', Fr (fun a => a = 126 ∨ a = 128 ∨ a = 143 ∨ a = 105 ∨ (190 + 6 * n ≤ a ∧ a ≤ 195 + 6 * n)) nov h h' → (∀ t, t ≠ 1 → hI h' 105 t = hI h 105 t) → hI h' 105 1 = nI (n + 1) → hI h' (190 + 6 * n) 2 = hI h 122 3 → PCopy h h' (154 + 4 * j) (191 + 6 * n) np → (∀ i, i < 3 * np → hI h' (195 + 6 * n) i = jmp bd (hI h (155 + 4 * j)) (hI h (156 + 4 * j)) (hI h 122 3) (hI h (146 + k) 1) (hI h (146 + k) 2) (hI h (146 + k) 3) (hI h (146 + k) 4) (i / 3) (i % 3) (nzN (gi sd (i + 1)))) → Q (some (.int (nI n))) h') : Cl 100 q_X_sit [.ref 100, .int (nI k), .int (nI j), .int (nI sd)] h Q := by
  have ck := cN (n := k) (by omega)
  have cj := cN (n := j) (by omega)
  have k1 : (0 : Int32) ≤ nI k ∧ nI k ≤ 7 := ⟨(nle (a := 0) (by decide) (by omega)).mpr (by omega), (nle (b := 7) (by omega) (by decide)).mpr (by omega)⟩
  have j1 : (0 : Int32) ≤ nI j ∧ nI j ≤ 3 := ⟨(nle (a := 0) (by decide) (by omega)).mpr (by omega), (nle (b := 3) (by omega) (by decide)).mpr (by omega)⟩
  have s1 : (0 : Int32) ≤ nI sd ∧ nI sd ≤ 9999 := ⟨(nle (a := 0) (by decide) (by omega)).mpr (by omega), (nle (b := 9999) (by omega) (by decide)).mpr (by omega)⟩
  have z1 : ¬ 146 + k = 0 := by omega
  have z2 : 100 ≤ 146 + k := by omega
  have z3 : ¬ 154 + 4 * j = 0 := by omega
  have z4 : 100 ≤ 154 + 4 * j := by omega
  have z5 := n_nn (n := n) (by omega)
  have z6 : nI n < 24 := (nlt (b := 24) (by omega) (by decide)).mpr hn
  have i24 : ixo (nI n) 24 = true := nix hn (by decide)
  have cn := cN (n := n) (by omega)
  rw [e_X_sit, b_X_sit_0]
  simp only [c_X_toldPerson _ h x, c_X_toldPlan _ h x, ck, cj, k1, j1, t1, t2, not_false_eq_true, and_self, if_true, Option.toList, List.cons_append, List.nil_append, b_X_sit_3, b_X_sit_7, z1, z2, z3, z4, b_X_sit_10, b_X_sit_12, c_within, bw0, s1, b_X_sit_16, b_X_sit_19, xk_100 x, xr_100_4 x, xk_105 x, en, z5, b_X_sit_25, xr_100_3 x, xk_104 x, xn_104 x, z6, b_X_sit_32, xr_100_7 x, xr_100_13 x, or_true, mem20, mem21, mem22, al20, al21, al33, al34, al36, al37, al38, aa33, aa34, aa36, aa37, aa38, true_and, and_true, Int32.reduceOfNat, forall_const, true_implies, implies_true, false_implies, not_true_eq_false, not_false_eq_true]
  refine c_Ch_fill (146 + k) (154 + 4 * j) np 143 bd h (Or.inl rfl) x b (g_pe_k x hk) (pln_pl x hj) (by omega) enp hnp _ ?_
  intro h1 fr1 g1
  have x1 := x.fr fr1
  have e1 : hI h1 122 = hI h 122 := fr1.I (by unfold fcs; omega)
  have e2 : hI h1 (154 + 4 * j) = hI h (154 + 4 * j) := fr1.I (by unfold fcs; omega)
  simp only [Option.toList, List.cons_append, List.nil_append, b_X_sit_39, xk_100 x1, xr_100_3 x1, xk_104 x1, xn_104 x1, i24, cn, xr_100_7 x1, xk_122 x1, f_si x1 hn, e1, mem20, mem21, mem22, al20, al21, al33, al34, al36, al37, al38, aa33, aa34, aa36, aa37, aa38, true_and, and_true, Int32.reduceOfNat, forall_const, true_implies, implies_true, false_implies, not_true_eq_false, not_false_eq_true]
  refine c_Si_begin (190 + 6 * n) (154 + 4 * j) np _ h1 (sit_si x1 hn) (pln_pl x1 hj) (by omega) (by rw [e2]; exact enp) hnp _ ?_
  intro h2 fr2 ti2 pc2
  have x2 := x1.fr fr2
  simp only [Option.toList, List.cons_append, List.nil_append, b_X_sit_48, xk_100 x2, xr_100_3 x2, xk_104 x2, xn_104 x2, i24, cn, xr_100_13 x2, f_si x2 hn, mem20, mem21, mem22, al20, al21, al33, al34, al36, al37, al38, aa33, aa34, aa36, aa37, aa38, true_and, and_true, Int32.reduceOfNat, forall_const, true_implies, implies_true, false_implies, not_true_eq_false, not_false_eq_true]
  refine c_Si_draw (190 + 6 * n) np 143 sd h2 (sit_si x2 hn) (by omega) ⟨xk_143 x2, xn_143 x2⟩ pc2.1 hnp (by omega) _ ?_
  intro h3 fr3 g3
  have x3 := x2.fr fr3
  have frA : Fr (fun a => a = 126 ∨ a = 128 ∨ a = 143 ∨ a = 105 ∨ (190 + 6 * n ≤ a ∧ a ≤ 195 + 6 * n)) nov h h3 := ((fr1.mo (by unfold fcs; omega) (fun a z => z)).tr (fr2.mo (by omega) (fun a z => z))).tr (fr3.mo (by unfold onl; omega) (fun a z => z))
  simp only [Option.toList, List.cons_append, List.nil_append, b_X_sit_56, xk_100 x3, xr_100_4 x3, xk_105 x3, nI_1, rtI, mem20, mem21, mem22, al20, al21, al33, al34, al36, al37, al38, aa33, aa34, aa36, aa37, aa38, true_and, and_true, Int32.reduceOfNat, forall_const, true_implies, implies_true, false_implies, not_true_eq_false, not_false_eq_true]
  have e5 : hI h3 105 = hI h 105 := by rw [fr3.I (by unfold onl; omega), fr2.I (by omega), fr1.I (by unfold fcs; omega)]
  refine fin _ (frA.sI (by omega)) ?_ ?_ ?_ ?_ ?_
  · intro t ht
    rw [hI_same, if_neg ht, e5]
  · rw [hI_same, if_pos rfl]
  · rw [rI_sI (by omega), fr3.I (by unfold onl; omega)]; exact ti2
  · unfold PCopy at pc2 ⊢
    have a1 : 190 + 6 * n + 1 = 191 + 6 * n := by omega
    rw [a1] at pc2
    rw [rI_sI (show 191 + 6 * n ≠ 105 by omega), rI_sI (show 191 + 6 * n + 1 ≠ 105 by omega), rI_sI (show 191 + 6 * n + 2 ≠ 105 by omega), rI_sI (show 191 + 6 * n + 3 ≠ 105 by omega), fr3.I (a := 191 + 6 * n) (by unfold onl; omega), fr3.I (a := 191 + 6 * n + 1) (by unfold onl; omega), fr3.I (a := 191 + 6 * n + 2) (by unfold onl; omega), fr3.I (a := 191 + 6 * n + 3) (by unfold onl; omega)]
    refine ⟨pc2.1, fun i hi => ?_⟩
    have := pc2.2 i hi
    rw [fr1.I (a := 154 + 4 * j + 1) (by unfold fcs; omega), fr1.I (a := 154 + 4 * j + 2) (by unfold fcs; omega), fr1.I (a := 154 + 4 * j + 3) (by unfold fcs; omega)] at this
    exact this
  · intro i hi
    have nl := nz_lt (gi sd (i + 1))
    have a5 : 190 + 6 * n + 5 = 195 + 6 * n := by omega
    rw [a5] at g3
    rw [rI_sI (by omega), g3 i hi, fr2.I (a := 143) (by omega), g1 _ (by omega)]
    unfold jrow
    have q1 : (4 * i + nzN (gi sd (i + 1))) / 12 = i / 3 := by omega
    have q2 : (4 * i + nzN (gi sd (i + 1))) % 12 / 4 = i % 3 := by omega
    have q3 : (4 * i + nzN (gi sd (i + 1))) % 4 = nzN (gi sd (i + 1)) := by omega
    rw [q1, q2, q3, show 154 + 4 * j + 1 = 155 + 4 * j by omega, show 154 + 4 * j + 2 = 156 + 4 * j by omega]
theorem c_X_sit0 (n : Nat) (x : XLY h) (hn : n ≤ 24) (en : hI h 105 1 = nI n) (p pl sd : Int32) (q : ¬ (((0 ≤ p ∧ p ≤ 7) ∧ ¬ hI h (146 + p.toNatClampNeg) 0 = 0) ∧ ((0 ≤ pl ∧ pl ≤ 3) ∧ ¬ hI h (154 + 4 * pl.toNatClampNeg) 3 = 0) ∧ (0 ≤ sd ∧ sd ≤ 9999) ∧ n < 24)) (Q : Option Value → AH → Prop) (fin : Q (some (.int (-1))) h) : Cl 100 q_X_sit [.ref 100, .int p, .int pl, .int sd] h Q := by
  rw [e_X_sit, b_X_sit_0]
  simp only [c_X_toldPerson _ h x, c_X_toldPlan _ h x, Option.toList, List.cons_append, List.nil_append, b_X_sit_3, b_X_sit_7, b_X_sit_10, b_X_sit_12, c_within, bw0, b_X_sit_16, b_X_sit_17, xk_100 x, rtI, mem20, mem21, mem22, al20, al21, al33, al34, al36, al37, al38, aa33, aa34, aa36, aa37, aa38, true_and, and_true, Int32.reduceOfNat, forall_const, true_implies, implies_true, false_implies, not_true_eq_false, not_false_eq_true]
  by_cases q1 : (0 ≤ p ∧ p ≤ 7) ∧ ¬ hI h (146 + p.toNatClampNeg) 0 = 0
  · by_cases q2 : (0 ≤ pl ∧ pl ≤ 3) ∧ ¬ hI h (154 + 4 * pl.toNatClampNeg) 3 = 0
    · by_cases q3 : 0 ≤ sd ∧ sd ≤ 9999
      · have n24 : n = 24 := by
          have : ¬ n < 24 := fun z => q ⟨q1, q2, q3, z⟩
          omega
        subst n24
        rw [b_X_sit_19]
        simp only [xk_100 x, xr_100_4 x, xk_105 x, en, b_X_sit_25, xr_100_3 x, xk_104 x, xn_104 x, b_X_sit_30, rtI, mem20, mem21, mem22, al20, al21, al33, al34, al36, al37, al38, aa33, aa34, aa36, aa37, aa38, true_and, and_true, Int32.reduceOfNat, forall_const, true_implies, implies_true, false_implies, not_true_eq_false, not_false_eq_true, show ¬ nI 24 < 0 by decide, show ¬ nI 24 < 24 by decide]
        simp [q1, q2, q3, fin]
        omega
      · simp [q1, q2, q3, fin]
        omega
    · simp only [q1, q2, if_true, if_false]
      simp [fin]
      omega
  · simp only [q1, if_false]
    simp [fin]
theorem c_M_sit0 (m : MLY h) (p pl sd : Int32) (q : ¬ (((0 ≤ p ∧ p ≤ 7) ∧ ¬ hI h 348 p.toNatClampNeg = 0) ∧ ((0 ≤ pl ∧ pl ≤ 3) ∧ 0 < hI h 353 pl.toNatClampNeg) ∧ (0 ≤ sd ∧ sd ≤ 9999) ∧ ¬ hI h 342 30 = 24)) (Q : Option Value → AH → Prop) (fin : Q (some (.int (-1))) (sI h 342 0 0)) : Cl 100 q_M_sit [.ref 342, .int p, .int pl, .int sd] h Q := by
  have m1 : MLY (sI h 342 0 0) := m.fr (S := onl 342) (T := nov) (Fs1 Fr.rfl')
  rw [e_M_sit, b_M_sit_0]
  simp only [c_M_isPerson _ _ m1, c_M_isPlan _ _ m1, c_M_within, Option.toList, List.cons_append, List.nil_append, b_M_sit_6, b_M_sit_7, b_M_sit_10, b_M_sit_11, b_M_sit_15, b_M_sit_16, b_M_sit_20, bw0, mo m, mo m1, rtI, mem20, mem21, mem22, al20, al21, al33, al34, al36, al37, al38, aa33, aa34, aa36, aa37, aa38, true_and, and_true, Int32.reduceOfNat, forall_const, true_implies, implies_true, false_implies, not_true_eq_false, not_false_eq_true, rI_sI (show 348 ≠ 342 by decide), rI_sI (show 353 ≠ 342 by decide), hI_same, show ¬ (30 : Nat) = 0 by decide, if_false]
  by_cases q1 : (0 ≤ p ∧ p ≤ 7) ∧ ¬ hI h 348 p.toNatClampNeg = 0
  · by_cases q2 : (0 ≤ pl ∧ pl ≤ 3) ∧ 0 < hI h 353 pl.toNatClampNeg
    · by_cases q3 : 0 ≤ sd ∧ sd ≤ 9999
      · have n24 : hI h 342 30 = 24 := Classical.byContradiction (fun z => q ⟨q1, q2, q3, z⟩)
        simp [q1, q2, q3, n24, fin]
      · simp [q1, q2, q3, fin]
    · simp [q1, q2, fin]
  · simp [q1, fin]
theorem c_M_sit1 (k j n np sd : Nat) (bd : Nat → Option (List Nat)) (m : MLY h) (b : MBA h bd) (hk : k < 8) (hj : j < 4) (hn : n < 24) (hsd : sd ≤ 9999) (t1 : ¬ hI h 348 k = 0) (t2 : 0 < hI h 353 j) (en : hI h 342 30 = nI n) (enp : hI h 353 j = nI np) (hnp : np ≤ 12) (it3 : ∀ q, q < np → ¬ hI h 354 (12 * j + q) = 3 → hI h 355 (12 * j + q) = -1) (ti : 0 ≤ hI h 342 15) (kd it jv : Nat → Int32) (hkd : kd = fun q => hI h 354 (12 * j + q)) (hit : it = fun q => hI h 355 (12 * j + q)) (hjv : jv = fun i => jmp bd kd it (hI h 342 15) (hI h 349 k) (hI h 350 k) (hI h 351 k) (hI h 352 k) (i / 3) (i % 3) (nzN (gi sd (i + 1)))) (Q : Option Value → AH → Prop)
    (fin : ∀ h', MSat (sI h 342 0 0) h' n np np (3 * np) kd it jv → Q (some (.int (nI n))) (sI h' 342 30 (nI (n + 1)))) : Cl 100 q_M_sit [.ref 342, .int (nI k), .int (nI j), .int (nI sd)] h Q := by
  have ck := cN (n := k) (by omega)
  have cj := cN (n := j) (by omega)
  have k1 : (0 : Int32) ≤ nI k ∧ nI k ≤ 7 := ⟨(nle (a := 0) (by decide) (by omega)).mpr (by omega), (nle (b := 7) (by omega) (by decide)).mpr (by omega)⟩
  have j1 : (0 : Int32) ≤ nI j ∧ nI j ≤ 3 := ⟨(nle (a := 0) (by decide) (by omega)).mpr (by omega), (nle (b := 3) (by omega) (by decide)).mpr (by omega)⟩
  have s1 : (0 : Int32) ≤ nI sd ∧ nI sd ≤ 9999 := ⟨(nle (a := 0) (by decide) (by omega)).mpr (by omega), (nle (b := 9999) (by omega) (by decide)).mpr (by omega)⟩
  have z5 : ¬ nI n = 24 := mt (neq (b := 24) (by omega) (by decide)).mp (by omega)
  have i8 : ixo (nI k) 8 = true := nix hk (by decide)
  have m1 : MLY (sI h 342 0 0) := m.fr (S := onl 342) (T := nov) (Fs1 Fr.rfl')
  have e342 : ∀ t, t ≠ 0 → hI (sI h 342 0 0) 342 t = hI h 342 t := fun t ht => by rw [hI_same, if_neg ht]
  have eo : ∀ a, a ≠ 342 → hI (sI h 342 0 0) a = hI h a := fun a ha => rI_sI ha
  rw [e_M_sit, b_M_sit_0]
  simp only [c_M_isPerson _ _ m1, c_M_isPlan _ _ m1, c_M_within, Option.toList, List.cons_append, List.nil_append, b_M_sit_6, b_M_sit_7, b_M_sit_10, b_M_sit_11, b_M_sit_15, b_M_sit_16, b_M_sit_22, bw0, mo m, mo m1, rtI, mem20, mem21, mem22, al20, al21, al33, al34, al36, al37, al38, aa33, aa34, aa36, aa37, aa38, true_and, and_true, Int32.reduceOfNat, forall_const, true_implies, implies_true, false_implies, not_true_eq_false, not_false_eq_true, eo 348 (by decide), eo 353 (by decide), eo 352 (by decide), e342 30 (by decide), ck, cj, k1, j1, s1, t1, t2, en, z5, i8, mr_14 m1, mk_352 m1, mn_352 m1, and_self, not_false_eq_true, if_true, show ¬ (1 : Int32) = 0 by decide]
  refine c_M_sits n k j sd np _ bd _ m1 (b.fr (S := onl 342) (T := nov) (Fs1 Fr.rfl') (by unfold onl; omega)) (by omega) hk hj (by omega) (by rw [eo 353 (by decide)]; exact enp) hnp (by rw [eo 354 (by decide), eo 355 (by decide)]; exact it3) (by rw [e342 15 (by decide)]; exact ti) kd it jv (by rw [eo 354 (by decide)]; exact hkd) (by rw [eo 355 (by decide)]; exact hit) (by rw [e342 15 (by decide), eo 349 (by decide), eo 350 (by decide), eo 351 (by decide)]; exact hjv) _ ?_
  intro h1 ms
  have m2 := m1.fr ms.1
  have e5 : hI h1 342 30 = nI n := by rw [ms.1.I (by unfold mss; omega), e342 30 (by decide)]; exact en
  simp only [Option.toList, List.cons_append, List.nil_append, b_M_sit_33, mo m2, e5, nI_1, hI_sI, hJ_sI, hR_sI, hK_sI, hN_sI, hz_sI, hu_sI, hJ_sJ, hI_sJ, hR_sJ, hK_sJ, hN_sJ, hz_sJ, hu_sJ, hR_sR, hI_sR, hJ_sR, hK_sR, hN_sR, hz_sR, hu_sR, if_true, rtI, mem20, mem21, mem22, al20, al21, al33, al34, al36, al37, al38, aa33, aa34, aa36, aa37, aa38, true_and, and_true, Int32.reduceOfNat, forall_const, true_implies, implies_true, false_implies, not_true_eq_false, not_false_eq_true, nI_pred]
  exact fin h1 ms
theorem op_sit (i : Inv L xs c h) (p pl sd : Int32) : OpI L xs c q_X_sit [.ref 100, .int p, .int pl, .int sd] q_M_sit [.ref 342, .int p, .int pl, .int sd] h := by
  have ii := i
  obtain ⟨i1, i2, i3, i4, i5, i6, i7, i8, i9, i10, i11, i12, i13, i14, i15⟩ := i
  obtain ⟨n, hn, en, en2⟩ := i11
  have e24 : n < 24 ↔ ¬ hI h 342 30 = 24 := by
    rw [en2, show (24 : Int32) = nI 24 from rfl, neq (by omega) (by decide)]; omega
  by_cases q1 : 0 ≤ p ∧ p ≤ 7
  · by_cases q2 : 0 ≤ pl ∧ pl ≤ 3
    · obtain ⟨n1, n2⟩ := n_of (M := 7) (n := 7) (by decide) q1
      obtain ⟨k, hk, rfl⟩ : ∃ k, k ≤ 7 ∧ p = nI k := ⟨_, n1, n2⟩
      obtain ⟨n3, n4⟩ := n_of (M := 3) (n := 3) (by decide) q2
      obtain ⟨j, hj, rfl⟩ : ∃ j, j ≤ 3 ∧ pl = nI j := ⟨_, n3, n4⟩
      have ck := cN (n := k) (by omega)
      have cj := cN (n := j) (by omega)
      obtain ⟨np, ks, hnp, a1, a2, a3⟩ := i7 j (by omega)
      have ip := i5 k (by omega)
      have t2 : (¬ hI h (154 + 4 * j) 3 = 0) ↔ 0 < hI h 353 j := by
        rw [a1, a2, show (0 : Int32) = nI 0 from rfl, neq (by omega) (by decide), nlt (by decide) (by omega)]; omega
      by_cases q : ((¬ hI h 348 k = 0) ∧ 0 < hI h 353 j) ∧ (0 ≤ sd ∧ sd ≤ 9999) ∧ n < 24
      · obtain ⟨⟨t1, t3⟩, q3, q4⟩ := q
        obtain ⟨n5, n6⟩ := n_of (M := 9999) (n := 9999) (by decide) q3
        obtain ⟨s, hs, rfl⟩ : ∃ s, s ≤ 9999 ∧ sd = nI s := ⟨_, n5, n6⟩
        obtain ⟨bd, b1, b2, b3⟩ := i9
        unfold OpI
        refine c_X_sit1 k j n np s bd i2 b1 (by omega) (by omega) q4 hs (by rw [ip.1]; exact t1) (t2.mpr t3) en a1 hnp _ ?_
        intro h1 fr1 f1 f2 f3 pc f4
        refine ⟨_, rfl, ?_⟩
        have em : ∀ a, 342 ≤ a → hI h1 a = hI h a := fun a ha => fr1.I (by omega)
        have b2' : MBA h1 bd := b2.fr fr1 (fun a z => by omega)
        have it3 : ∀ q, q < np → ¬ hI h1 354 (12 * j + q) = 3 → hI h1 355 (12 * j + q) = -1 := by
          intro q hq z
          rw [em 354 (by decide)] at z
          rw [em 355 (by decide)]
          obtain ⟨u1, u2, u3, u4, u5, u6⟩ := a3 q hq
          apply Classical.byContradiction
          intro w
          apply z
          rw [u2, u5.mpr w]
          rfl
        refine c_M_sit1 k j n np s bd (i3.fr fr1) b2' (by omega) (by omega) q4 hs (by rw [em 348 (by decide)]; exact t1) (by rw [em 353 (by decide)]; exact t3) (by rw [em 342 (by decide)]; exact en2) (by rw [em 353 (by decide)]; exact a2) hnp it3 (by rw [em 342 (by decide)]; exact i6.2.1) _ _ _ rfl rfl rfl _ ?_
        intro h2 ms
        refine ⟨rfl, ?_⟩
        obtain ⟨y1, y2, y3, y4, y5, y6, y7, y8⟩ := ms
        have fr2 : Fr (fun a => a = 126 ∨ a = 128 ∨ a = 143 ∨ a = 105 ∨ (190 + 6 * n ≤ a ∧ a ≤ 195 + 6 * n) ∨ a = 342 ∨ (363 ≤ a ∧ a ≤ 369)) nov h (sI h2 342 30 (nI (n + 1))) := (((fr1.mo (by omega) (fun a z => z)).sI (a := 342) (by omega)).tr (y1.mo (by unfold mss; omega) (fun a z => z))).sI (by omega)
        have s342 : ∀ t, t ≠ 0 → t ≠ 30 → hI (sI h2 342 30 (nI (n + 1))) 342 t = hI h 342 t := by
          intro t ht ht2
          rw [hI_same, if_neg ht2, y1.I (by unfold mss; omega), hI_same, if_neg ht, em 342 (by decide)]
        have ec : ∀ a, a < 342 → hI (sI h2 342 30 (nI (n + 1))) a = hI h1 a := by
          intro a ha
          rw [rI_sI (by omega), y1.I (by unfold mss; omega), rI_sI (by omega)]
        have er : ∀ a, 342 < a → hI (sI h2 342 30 (nI (n + 1))) a = hI h2 a := fun a ha => rI_sI (by omega)
        have er1 : ∀ a, 342 < a → hI (sI h1 342 0 0) a = hI h a := fun a ha => by rw [rI_sI (by omega), em a (by omega)]
        have st : ISt (sI h2 342 30 (nI (n + 1))) := by
          intro s' hs'
          by_cases qs : s' = n
          · subst qs
            refine ⟨np, ks, hnp, ?_, ?_, ?_, ?_, ?_, ?_⟩
            · rw [ec _ (by omega)]; exact pc.1
            · rw [er _ (by decide)]; exact y2
            · rw [ec _ (by omega), er _ (by decide), y3, f3, hI_same, if_neg (by decide), em 342 (by decide)]; exact i6.1
            · rw [er _ (by decide), y3, hI_same, if_neg (by decide), em 342 (by decide)]; exact i6.2.1
            · intro q hq
              obtain ⟨u1, u2, u3, u4, u5, u6⟩ := a3 q hq
              have p1 := pc.2 q hq
              have p2 := y5 q hq
              rw [ec (192 + 6 * s') (by omega), ec (193 + 6 * s') (by omega), er 367 (by decide), er 368 (by decide), p2.1, p2.2, show 192 + 6 * s' = 191 + 6 * s' + 1 by omega, show 193 + 6 * s' = 191 + 6 * s' + 2 by omega, p1.1, p1.2.1, em 354 (by decide), em 355 (by decide), show 154 + 4 * j + 1 = 155 + 4 * j by omega, show 154 + 4 * j + 2 = 156 + 4 * j by omega]
              exact ⟨u1, u2, u3, u4, u5⟩
            · intro t ht
              rw [ec _ (by omega), er _ (by decide), y7 t ht, f4 t ht, em 342 (by decide), em 349 (by decide), em 350 (by decide), em 351 (by decide), em 352 (by decide), em 354 (by decide), em 355 (by decide), i6.1, ip.2.1, ip.2.2.1, ip.2.2.2.1, ip.2.2.2.2.1]
              refine jmp_ext ?_ ?_
              · intro q hq
                have hq2 : q < np := by omega
                show hI h (155 + 4 * j) q = hI h 354 (12 * j + q)
                rw [(a3 q hq2).1, (a3 q hq2).2.1]
              · show hI h (156 + 4 * j) (t / 3) = hI h 355 (12 * j + t / 3)
                exact (a3 (t / 3) (by omega)).2.2.2.1
          · obtain ⟨n', ks', s1⟩ := i12 s' hs'
            refine ⟨n', ks', s1.fr hs' (fun a z => ?_) ?_ ?_ ?_ ?_⟩
            · rw [ec a (by omega), fr1.I (by omega)]
            · rw [er _ (by decide), (y4 s' qs).1, er1 _ (by decide)]
            · rw [er _ (by decide), (y4 s' qs).2, er1 _ (by decide)]
            · intro t ht
              rw [er _ (by decide), er _ (by decide), (y6 _ (by omega)).1, (y6 _ (by omega)).2, er1 _ (by decide), er1 _ (by decide)]
              exact ⟨rfl, rfl⟩
            · intro t ht
              rw [er _ (by decide), y8 _ (by omega), er1 _ (by decide)]
        have sn : ISn (sI h2 342 30 (nI (n + 1))) := ⟨n + 1, by omega, by rw [ec 105 (by decide)]; exact f2, by rw [hI_same, if_pos rfl]⟩
        have e105 : ∀ t, t ≠ 1 → hI (sI h2 342 30 (nI (n + 1))) 105 t = hI h 105 t := fun t ht => by rw [ec 105 (by decide), f1 t ht]
        generalize sI h2 342 30 (nI (n + 1)) = h3 at fr2 s342 st sn e105
        refine ⟨i1.fr fr2 (fun a z => by omega), i2.fr fr2, i3.fr fr2, by rw [fr2.K, fr2.N]; exact i4, i5.fr (fun a z => fr2.I (by omega)), i6.fr (by rw [fr2.I (by omega)]) (s342 15 (by decide) (by decide)), i7.fr (fun a z => fr2.I (by omega)), i8.fr (by rw [fr2.I (by omega)]) (fr2.I (by omega)) (fr2.I (by omega)) (s342 2 (by decide) (by decide)), IBd.fr ⟨bd, b1, b2, b3⟩ fr2 (fun a z => by omega), i10.fr fr2 (fun a z => by omega), sn, st, i13.fr (by omega) (fr2.I (by omega)) (fun k hk => e105 _ (by omega)) (fr2.J (fun z => z)) (fr2.J (fun z => z)), i14.fr (by omega) (fun a z => fr2.I (by omega)) (fr2.J (fun z => z)), ?_⟩
        rw [fr2.z, fr2.u]
        exact ⟨i15.1, by omega, by omega⟩
      · refine c_X_sit0 n i2 hn en _ _ _ ?_ _ ⟨-1, rfl, c_M_sit0 i3 _ _ _ ?_ _ ⟨rfl, ii.th⟩⟩
        · rintro ⟨⟨-, z1⟩, ⟨-, z2⟩, z3, z4⟩
          rw [ck, ip.1] at z1
          rw [cj] at z2
          exact q ⟨⟨z1, t2.mp z2⟩, z3, z4⟩
        · rintro ⟨⟨-, z1⟩, ⟨-, z2⟩, z3, z4⟩
          rw [ck] at z1
          rw [cj] at z2
          exact q ⟨⟨z1, z2⟩, z3, e24.mpr z4⟩
    · exact c_X_sit0 n i2 hn en _ _ _ (fun z => q2 z.2.1.1) _ ⟨-1, rfl, c_M_sit0 i3 _ _ _ (fun z => q2 z.2.1.1) _ ⟨rfl, ii.th⟩⟩
  · exact c_X_sit0 n i2 hn en _ _ _ (fun z => q1 z.1.1) _ ⟨-1, rfl, c_M_sit0 i3 _ _ _ (fun z => q1 z.1.1) _ ⟨rfl, ii.th⟩⟩
end OPS
