--deps: 85.opsay
/-! LEANS -/
def fl (t : Nat) : Int32 := nI t - 9
def lnB (fd : Int32 → Int32) : Nat → Int32
  | 0 => 0
  | t + 1 => if fd (fl t) = 0 then lnB fd t else lnB fd t ||| (1 <<< ((fl t + 9) &&& 31))
theorem fl_lt : ∀ t, t < 19 → ¬ 9 < fl t := by decide
theorem fl_19 : 9 < fl 19 := by decide
theorem fl_1 : ∀ t, t < 19 → fl t + 1 = fl (t + 1) := by decide
theorem or_z (a : Int32) : a ||| 0 = a := by
  apply Int32.toBitVec_inj.mp
  simp
theorem w_X_leans {d : Nat} (si r N : Nat) (x1 x2 : Int32) (cc : Nat → List Nat) (G : Nat → Int32) (h0 : AH) (x0 : XLY h0) (xr : XRd h0 r N cc) (hr : 131 < r) (hr2 : r + 3 < 378) (Q : Option Value → AH → Prop) (fin : ∀ h', Fr (ffs r) nov h0 h' → Q (some (.int (lnB (fun f => fdR (wF G f) cc N 0) 19))) h') : ∀ (m t : Nat) (h : AH), t + m = 19 → Fr (ffs r) nov h0 h → (∀ i, i < 20 → i ≠ 18 → hI h 131 i = G i) → Wp (d + 4) P_X_leans 22 [.ref 100, .int x1, .int x2, .ref si, .ref r, .int (lnB (fun f => fdR (wF G f) cc N 0) t), .int (fl t)] [] h Q := by
  intro m
  induction m with
  | zero =>
    intro t h e fr g
    have : t = 19 := by omega
    subst this
    rw [b_X_leans_22]
    simp only [fl_19, b_X_leans_41, mem20, mem21, mem22, al20, al21, al33, al34, al36, al37, al38, aa33, aa34, aa36, aa37, aa38, true_and, and_true, Int32.reduceOfNat, forall_const, true_implies, implies_true, false_implies, not_true_eq_false, not_false_eq_true]
    exact fin h fr
  | succ m ih =>
    intro t h e fr g
    have x := x0.fr fr
    rw [b_X_leans_22]
    simp only [fl_lt t (by omega), b_X_leans_25, xk_100 x, xr_100_8 x, mem20, mem21, mem22, al20, al21, al33, al34, al36, al37, al38, aa33, aa34, aa36, aa37, aa38, true_and, and_true, Int32.reduceOfNat, forall_const, true_implies, implies_true, false_implies, not_true_eq_false, not_false_eq_true]
    refine c_Ju_finds r N (fl t) cc G h x (xr.fr fr (by unfold ffs; omega)) hr hr2 g _ ?_
    intro h1 fr1 g1
    simp only [Option.toList, List.cons_append, List.nil_append, b_X_leans_30, b_X_leans_31, b_X_leans_39, fl_1 t (by omega)]
    have ihh := ih (t + 1) h1 (by omega) (fr.tr fr1) g1
    have e1 : lnB (fun f => fdR (wF G f) cc N 0) (t + 1) = if fdR (wF G (fl t)) cc N 0 = 0 then lnB (fun f => fdR (wF G f) cc N 0) t else lnB (fun f => fdR (wF G f) cc N 0) t ||| (1 <<< ((fl t + 9) &&& 31)) := rfl
    rw [e1] at ihh
    by_cases q : fdR (wF G (fl t)) cc N 0 = 0
    · simp only [q, if_true, mem20, mem21, mem22, al20, al21, al33, al34, al36, al37, al38, aa33, aa34, aa36, aa37, aa38, true_and, and_true, Int32.reduceOfNat, forall_const, true_implies, implies_true, false_implies, not_true_eq_false, not_false_eq_true] at ihh ⊢
      exact ihh
    · simp only [q, if_false, mem20, mem21, mem22, al20, al21, al33, al34, al36, al37, al38, aa33, aa34, aa36, aa37, aa38, true_and, and_true, Int32.reduceOfNat, forall_const, true_implies, implies_true, false_implies, not_true_eq_false, not_false_eq_true] at ihh ⊢
      exact ihh
theorem w_M_leans {d : Nat} (k np j N : Nat) (ks : Nat → Nat) (cc : Nat → List Nat) (it jv : Nat → Int32) (h0 : AH) (m0 : MLY h0) (mr : MRd h0 j N cc) (hj : j < 4) (hk : k < 25) (hn : hI h0 365 k = nI np) (hn2 : np ≤ 12) (hit : it = fun q => hI h0 368 (12 * k + q)) (hjv : jv = fun i => hI h0 369 (36 * k + i)) (ki : KI np ks (fun q => hI h0 367 (12 * k + q)) it) (G : Nat → Int32) (hG : G = stF np ks it (hI h0 366 k) jv (3 * np)) (Q : Option Value → AH → Prop) (fin : ∀ h', Fr dss nov h0 h' → Q (some (.int (lnB (fun f => fdR (wF G f) cc N 0) 19))) h') : ∀ (m t : Nat) (h : AH), t + m = 19 → Fr dss nov h0 h → Wp (d + 3) P_M_leans 16 [.ref 342, .int (nI k), .int (nI j), .int (lnB (fun f => fdR (wF G f) cc N 0) t), .int (fl t)] [] h Q := by
  intro m
  induction m with
  | zero =>
    intro t h e fr
    have : t = 19 := by omega
    subst this
    rw [b_M_leans_16]
    simp only [fl_19, b_M_leans_37, mem20, mem21, mem22, al20, al21, al33, al34, al36, al37, al38, aa33, aa34, aa36, aa37, aa38, true_and, and_true, Int32.reduceOfNat, forall_const, true_implies, implies_true, false_implies, not_true_eq_false, not_false_eq_true]
    exact fin h fr
  | succ m ih =>
    intro t h e fr
    have em : ∀ a, 364 < a → hI h a = hI h0 a := fun a ha => fr.I (by unfold dss; omega)
    rw [b_M_leans_16]
    simp only [fl_lt t (by omega), b_M_leans_19, mem20, mem21, mem22, al20, al21, al33, al34, al36, al37, al38, aa33, aa34, aa36, aa37, aa38, true_and, and_true, Int32.reduceOfNat, forall_const, true_implies, implies_true, false_implies, not_true_eq_false, not_false_eq_true]
    refine c_M_doesSay k np j N ks (fl t) cc h (m0.fr fr) (mr.fr fr (by unfold dss; omega)) hj hk (by rw [em 365 (by decide)]; exact hn) hn2 it jv (by rw [em 368 (by decide)]; exact hit) (by rw [em 369 (by decide)]; exact hjv) (by rw [em 367 (by decide)]; exact ki) _ ?_
    intro h1 fr1
    rw [em 366 (by decide), ← hG]
    simp only [Option.toList, List.cons_append, List.nil_append, b_M_leans_25, b_M_leans_26, b_M_leans_32, jW]
    rw [b_M_leans_33, fl_1 t (by omega)]
    have ihh := ih (t + 1) h1 (by omega) (fr.tr fr1)
    have e1 : lnB (fun f => fdR (wF G f) cc N 0) (t + 1) = if fdR (wF G (fl t)) cc N 0 = 0 then lnB (fun f => fdR (wF G f) cc N 0) t else lnB (fun f => fdR (wF G f) cc N 0) t ||| (1 <<< ((fl t + 9) &&& 31)) := rfl
    rw [e1] at ihh
    by_cases q : fdR (wF G (fl t)) cc N 0 = 0
    · simp only [q, if_true, or_z] at ihh ⊢
      exact ihh
    · simp only [q, if_false] at ihh ⊢
      exact ihh
section OPS
variable {L : Nat} {xs : Nat → Int32} {c : Nat} {h : AH}
theorem op_leans (i : Inv L xs c h) (s r : Int32) : OpI L xs c q_X_leans [.ref 100, .int s, .int r] q_M_leans [.ref 342, .int s, .int r] h := by
  have ii := i
  obtain ⟨i1, i2, i3, i4, i5, i6, i7, i8, i9, i10, i11, i12, i13, i14, i15⟩ := i
  obtain ⟨n, hn, en, en2⟩ := i11
  have m1 : MLY (sI h 342 0 0) := i3.fr (S := onl 342) (T := nov) (Fs1 Fr.rfl')
  have e342 : ∀ t, t ≠ 0 → hI (sI h 342 0 0) 342 t = hI h 342 t := fun t ht => by rw [hI_same, if_neg ht]
  by_cases q : (0 ≤ s ∧ s < nI n) ∧ (0 ≤ r ∧ r ≤ 3)
  · obtain ⟨q1, q2⟩ := q
    obtain ⟨k, hk, rfl⟩ := n_ex n q1.1 q1.2 (by omega)
    obtain ⟨n3, n4⟩ := n_of (M := 3) (n := 3) (by decide) q2
    obtain ⟨j, hj, rfl⟩ : ∃ j, j ≤ 3 ∧ r = nI j := ⟨_, n3, n4⟩
    have ck := cN (n := k) (by omega)
    have cj := cN (n := j) (by omega)
    have z0 : (0 : Int32) ≤ nI k ∧ nI k ≤ 23 := ⟨q1.1, (nle (b := 23) (by omega) (by decide)).mpr (by omega)⟩
    obtain ⟨np, ks, is⟩ := i12 k (by omega)
    obtain ⟨N, cc, xr, mr⟩ := i10 j (by omega)
    have z1 : ¬ 190 + 6 * k = 0 := by omega
    have z2 : 100 ≤ 190 + 6 * k := by omega
    have z3 : ¬ 170 + 5 * j = 0 := by omega
    have z4 : 100 ≤ 170 + 5 * j := by omega
    unfold OpI
    rw [e_X_leans, b_X_leans_0]
    simp only [c_X_keptSitting _ h i2, c_X_readerOf _ h i2, ck, cj, en, z0, q1, q2, and_self, if_true, Option.toList, List.cons_append, List.nil_append, b_X_leans_3, b_X_leans_7, z1, z2, z3, z4, or_true, b_X_leans_10, b_X_leans_14, xk_100 i2, xr_100_8 i2, mem20, mem21, mem22, al20, al21, al33, al34, al36, al37, al38, aa33, aa34, aa36, aa37, aa38, true_and, and_true, Int32.reduceOfNat, forall_const, true_implies, implies_true, false_implies, not_true_eq_false, not_false_eq_true]
    refine c_Ju_study (190 + 6 * k) np ks h i2 (sit_si i2 (by omega)) (by omega) (by rw [show 190 + 6 * k + 1 = 191 + 6 * k by omega]; exact is.2.1) is.1 (KI_X is) _ ?_
    intro h1 fr1 g1
    have x1 := i2.fr fr1
    simp only [Option.toList, List.cons_append, List.nil_append, b_X_leans_18]
    refine w_X_leans (190 + 6 * k) (170 + 5 * j) N _ _ cc _ h1 x1 (xr.fr fr1 (by unfold onl; omega)) (by omega) (by omega) _ ?_ 19 0 h1 rfl Fr.rfl' (fun t ht _ => g1 t ht)
    intro h2 fr2
    have frA : Fr (fun a => a = 131 ∨ a = 173 + 5 * j ∨ a = 342 ∨ a = 363 ∨ a = 364) nov h h2 := (fr1.mo (by unfold onl; omega) (fun a z => z)).tr (fr2.mo (by unfold ffs; omega) (fun a z => z))
    refine ⟨rtI _, _, rfl, ?_⟩
    have em : ∀ a, 342 ≤ a → a ≠ 342 → hI (sI h2 342 0 0) a = hI h a := fun a h1 h2 => by
      rw [rI_sI h2, fr2.I (by unfold ffs; omega), fr1.I (by unfold onl; omega)]
    have e2 : ∀ t, t ≠ 0 → hI (sI h2 342 0 0) 342 t = hI h 342 t := fun t ht => by
      rw [hI_same, if_neg ht, fr2.I (by unfold ffs; omega), fr1.I (by unfold onl; omega)]
    have frB := frA.sI (a := 342) (j := 0) (v := 0) (Or.inr (Or.inr (Or.inl rfl)))
    have m2 := i3.fr frA
    have m3 := i3.fr frB
    have q2' : bw (nI j) 0 3 = 1 := by unfold bw; rw [if_pos q2]
    rw [e_M_leans, b_M_leans_0]
    simp only [mo m2, c_M_isSitting _ _ m3, c_M_isReaderNumber, Option.toList, List.cons_append, List.nil_append, b_M_leans_6, b_M_leans_7, b_M_leans_9, e2 30 (by decide), en2, q1, and_self, if_true, q2', b_M_leans_12, show ¬ (1 : Int32) = 0 by decide, mem20, mem21, mem22, al20, al21, al33, al34, al36, al37, al38, aa33, aa34, aa36, aa37, aa38, true_and, and_true, Int32.reduceOfNat, forall_const, true_implies, implies_true, false_implies, not_true_eq_false, not_false_eq_true]
    refine w_M_leans k np j N ks cc _ _ _ m3 (mr.fr frB (by omega)) (by omega) (by omega) (by rw [em 365 (by decide) (by decide)]; exact is.2.2.1) is.1 rfl rfl (by rw [em 367 (by decide) (by decide), em 368 (by decide) (by decide)]; exact KI_M is) _ rfl _ ?_ 19 0 _ rfl Fr.rfl'
    intro h3 fr3
    rw [em 368 (by decide) (by decide), em 366 (by decide) (by decide), em 369 (by decide) (by decide), st_same is]
    refine ⟨rtI _, rfl, ii.q (frB.tr (fr3.mo (by unfold dss; omega) (fun a z => z))) (fun a z => ⟨scr_js (by omega) z, by omega⟩) (fun a z => z.elim) ?_⟩
    intro t ht
    rw [fr3.I (by unfold dss; omega)]
    exact e2 t ht
  · unfold OpI
    rw [e_X_leans, b_X_leans_0]
    simp only [c_X_keptSitting _ h i2, c_X_readerOf _ h i2, en, Option.toList, List.cons_append, List.nil_append, b_X_leans_3, b_X_leans_7, b_X_leans_10, b_X_leans_12, xk_100 i2, rtI, mem20, mem21, mem22, al20, al21, al33, al34, al36, al37, al38, aa33, aa34, aa36, aa37, aa38, true_and, and_true, Int32.reduceOfNat, forall_const, true_implies, implies_true, false_implies, not_true_eq_false, not_false_eq_true]
    have no : ∃ v : Int32, some (Value.int (-1)) = some (Value.int v) ∧ Cl 100 q_M_leans [.ref 342, .int s, .int r] h (fun r' h2 => r' = some (.int v) ∧ Inv L xs (c + 1) h2) := by
      refine ⟨-1, rfl, ?_⟩
      rw [e_M_leans, b_M_leans_0]
      simp only [mo i3, c_M_isSitting _ _ m1, c_M_isReaderNumber, Option.toList, List.cons_append, List.nil_append, b_M_leans_6, b_M_leans_7, b_M_leans_9, b_M_leans_10, e342 30 (by decide), en2, bw0, rtI, mem20, mem21, mem22, al20, al21, al33, al34, al36, al37, al38, aa33, aa34, aa36, aa37, aa38, true_and, and_true, Int32.reduceOfNat, forall_const, true_implies, implies_true, false_implies, not_true_eq_false, not_false_eq_true]
      have fin := ii.th (v := 0)
      by_cases q1 : 0 ≤ s ∧ s < nI n
      · have q2 : ¬ (0 ≤ r ∧ r ≤ 3) := fun z => q ⟨q1, z⟩
        simp [q1, q2, fin]
      · simp [q1, fin]
    by_cases q1 : 0 ≤ s ∧ s < nI n
    · have z0 : (0 : Int32) ≤ s ∧ s ≤ 23 := by
        obtain ⟨k, hk, rfl⟩ := n_ex n q1.1 q1.2 (by omega)
        exact ⟨q1.1, (nle (b := 23) (by omega) (by decide)).mpr (by omega)⟩
      have q2 : ¬ (0 ≤ r ∧ r ≤ 3) := fun z => q ⟨q1, z⟩
      simp only [z0, q1, q2, and_self, if_true, if_false, true_or, true_implies, not_true_eq_false, false_implies, and_true, true_and]
      exact ⟨by omega, fun z => absurd z (by omega), fun _ => no⟩
    · have q4 : ¬ ((0 ≤ s ∧ s ≤ 23) ∧ s < nI n) := fun z => q1 ⟨z.1.1, z.2⟩
      simp only [q4, if_false, true_or, true_implies, not_true_eq_false, false_implies, and_true, true_and]
      exact no
/-! HITS -/
def htF (ks : Nat → Nat) (it : Nat → Int32) (ti : Int32) (jv : Nat → Int32) (l : Nat) : Nat → Int32 × Int32
  | 0 => (-1, -1)
  | q + 1 => if ks q = 3 then (if it q = ti then (mx (htF ks it ti jv l q).1 (jv (3 * q + l)), (htF ks it ti jv l q).2) else ((htF ks it ti jv l q).1, mx (htF ks it ti jv l q).2 (jv (3 * q + l)))) else htF ks it ti jv l q
end OPS
