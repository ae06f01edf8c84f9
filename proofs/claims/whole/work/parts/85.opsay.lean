--deps: 84.opsit
/-! SAYS, LEANS -/
theorem nt_ext {k l : Nat} {it it' ti j j' : Int32} {f : Nat → Int32} (e : it = it') (e2 : j = j') : nt k l it ti j f = nt k l it' ti j' f := by rw [e, e2]
theorem stF_ext {n m : Nat} {ks : Nat → Nat} {it it' jv jv' : Nat → Int32} {ti : Int32} (e : ∀ q, q < m → it q = it' q) (e2 : ∀ i, i < 3 * m → jv i = jv' i) : ∀ s, s ≤ 3 * m → stF n ks it ti jv s = stF n ks it' ti jv' s
  | 0, _ => rfl
  | s + 1, h => by
    show nt (ks (s / 3)) (s % 3) (it (s / 3)) ti (jv s) (stF n ks it ti jv s) = nt (ks (s / 3)) (s % 3) (it' (s / 3)) ti (jv' s) (stF n ks it' ti jv' s)
    rw [stF_ext e e2 s (by omega), e (s / 3) (by omega), e2 s (by omega)]
/-- no scratch of the class -/
def jss (r : Nat) : Nat → Prop := fun a => a = 131 ∨ a = 173 + 5 * r
section OPS
variable {L : Nat} {xs : Nat → Int32} {c : Nat} {h : AH}
theorem KI_X {s n : Nat} {ks : Nat → Nat} (i : ISt1 h s n ks) : KI n ks (hI h (190 + 6 * s + 2)) (hI h (190 + 6 * s + 3)) := by
  obtain ⟨i1, i2, i3, i4, i7, i5, i6⟩ := i
  intro q hq
  obtain ⟨a1, a2, a3, a4, a5⟩ := i5 q hq
  rw [show 190 + 6 * s + 2 = 192 + 6 * s by omega, show 190 + 6 * s + 3 = 193 + 6 * s by omega, a4]
  exact ⟨a1, a3, a5⟩
theorem KI_M {s n : Nat} {ks : Nat → Nat} (i : ISt1 h s n ks) : KI n ks (fun q => hI h 367 (12 * s + q)) (fun q => hI h 368 (12 * s + q)) := by
  obtain ⟨i1, i2, i3, i4, i7, i5, i6⟩ := i
  intro q hq
  obtain ⟨a1, a2, a3, a4, a5⟩ := i5 q hq
  exact ⟨a2, a3, a5⟩
/-- the facts of a sitting are the same on both sides -/
theorem st_same {s n : Nat} {ks : Nat → Nat} (i : ISt1 h s n ks) : stF n ks (hI h (190 + 6 * s + 3)) (hI h (190 + 6 * s) 2) (hI h (190 + 6 * s + 5)) (3 * n) = stF n ks (fun q => hI h 368 (12 * s + q)) (hI h 366 s) (fun t => hI h 369 (36 * s + t)) (3 * n) := by
  obtain ⟨i1, i2, i3, i4, i7, i5, i6⟩ := i
  rw [i4]
  refine stF_ext (m := n) ?_ ?_ _ (Nat.le_refl _)
  · intro q hq
    rw [show 190 + 6 * s + 3 = 193 + 6 * s by omega]
    exact (i5 q hq).2.2.2.1
  · intro t ht
    rw [show 190 + 6 * s + 5 = 195 + 6 * s by omega]
    exact i6 t ht
theorem rd01 (F : Nat → Int32) (cc : Nat → List Nat) (N : Nat) : (if fdR F cc N 0 = 0 then (0 : Int32) else 1) = fdR F cc N 0 := by
  rcases fdR_01 F cc N 0 with q | q <;> rw [q] <;> decide
theorem scr_js {r a : Nat} (hr : r < 4) (z : a = 131 ∨ a = 173 + 5 * r ∨ a = 342 ∨ a = 363 ∨ a = 364) : scr a := by
  unfold scr
  omega
/-- a call that touched nothing that counts -/
theorem Inv.q {S T : Nat → Prop} {h' : AH} (i : Inv L xs c h) (p : Fr S T h h') (q : ∀ a, S a → scr a ∧ (a < 365 ∨ 369 < a)) (qt : ∀ a, T a → a = 346) (m : ∀ t, t ≠ 0 → hI h' 342 t = hI h 342 t) : Inv L xs (c + 1) h' := by
  refine i.keep (Nat.le_succ _) p (fun a z => (q a z).1) qt (m 2 (by decide)) (m 15 (by decide)) (m 30 (by decide)) ?_ ?_ ?_
  · intro s hs; rw [p.I (fun z => by have := (q _ z).2; omega), p.I (fun z => by have := (q _ z).2; omega)]; exact ⟨rfl, rfl⟩
  · intro s hs; rw [p.I (fun z => by have := (q _ z).2; omega), p.I (fun z => by have := (q _ z).2; omega)]; exact ⟨rfl, rfl⟩
  · intro s hs; rw [p.I (fun z => by have := (q _ z).2; omega)]
theorem op_says (i : Inv L xs c h) (s r f : Int32) : OpI L xs c q_X_says [.ref 100, .int s, .int r, .int f] q_M_says [.ref 342, .int s, .int r, .int f] h := by
  have ii := i
  obtain ⟨i1, i2, i3, i4, i5, i6, i7, i8, i9, i10, i11, i12, i13, i14, i15⟩ := i
  obtain ⟨n, hn, en, en2⟩ := i11
  have m1 : MLY (sI h 342 0 0) := i3.fr (S := onl 342) (T := nov) (Fs1 Fr.rfl')
  have e342 : ∀ t, t ≠ 0 → hI (sI h 342 0 0) 342 t = hI h 342 t := fun t ht => by rw [hI_same, if_neg ht]
  have eo : ∀ a, a ≠ 342 → hI (sI h 342 0 0) a = hI h a := fun a ha => rI_sI ha
  by_cases q : (0 ≤ s ∧ s < nI n) ∧ (0 ≤ r ∧ r ≤ 3) ∧ (-9 ≤ f ∧ f ≤ 9)
  · obtain ⟨q1, q2, q3⟩ := q
    obtain ⟨k, hk, rfl⟩ := n_ex n q1.1 q1.2 (by omega)
    obtain ⟨n3, n4⟩ := n_of (M := 3) (n := 3) (by decide) q2
    obtain ⟨j, hj, rfl⟩ : ∃ j, j ≤ 3 ∧ r = nI j := ⟨_, n3, n4⟩
    have ck := cN (n := k) (by omega)
    have cj := cN (n := j) (by omega)
    have z0 : (0 : Int32) ≤ nI k ∧ nI k ≤ 23 := ⟨q1.1, (nle (b := 23) (by omega) (by decide)).mpr (by omega)⟩
    obtain ⟨np, ks, is⟩ := i12 k (by omega)
    obtain ⟨N, cc, xr, mr⟩ := i10 j (by omega)
    have z1 : ¬ 190 + 6 * k = 0 := by omega
    have z2 : 100 ≤ 190 + 6 * k := by omega
    have z3 : ¬ 170 + 5 * j = 0 := by omega
    have z4 : 100 ≤ 170 + 5 * j := by omega
    unfold OpI
    rw [e_X_says, b_X_says_0]
    simp only [c_X_keptSitting _ h i2, c_X_readerOf _ h i2, ck, cj, en, z0, q1, q2, q3, and_self, if_true, Option.toList, List.cons_append, List.nil_append, b_X_says_3, b_X_says_7, z1, z2, z3, z4, or_true, b_X_says_10, b_X_says_12, c_within, bw0, b_X_says_16, b_X_says_19, xk_100 i2, xr_100_8 i2, mem20, mem21, mem22, al20, al21, al33, al34, al36, al37, al38, aa33, aa34, aa36, aa37, aa38, true_and, and_true, Int32.reduceOfNat, forall_const, true_implies, implies_true, false_implies, not_true_eq_false, not_false_eq_true]
    refine c_Ju_study (190 + 6 * k) np ks h i2 (sit_si i2 (by omega)) (by omega) (by rw [show 190 + 6 * k + 1 = 191 + 6 * k by omega]; exact is.2.1) is.1 (KI_X is) _ ?_
    intro h1 fr1 g1
    have x1 := i2.fr fr1
    simp only [Option.toList, List.cons_append, List.nil_append, b_X_says_23, xk_100 x1, xr_100_8 x1, mem20, mem21, mem22, al20, al21, al33, al34, al36, al37, al38, aa33, aa34, aa36, aa37, aa38, true_and, and_true, Int32.reduceOfNat, forall_const, true_implies, implies_true, false_implies, not_true_eq_false, not_false_eq_true]
    refine c_Ju_finds (170 + 5 * j) N f cc _ h1 x1 (xr.fr fr1 (by unfold onl; omega)) (by omega) (by omega) (fun t ht _ => g1 t ht) _ ?_
    intro h2 fr2 g2
    simp only [Option.toList, List.cons_append, List.nil_append, b_X_says_28, b_X_says_29, b_X_says_31, jW]
    rw [b_X_says_32, rd01]
    have frA : Fr (fun a => a = 131 ∨ a = 173 + 5 * j ∨ a = 342 ∨ a = 363 ∨ a = 364) nov h h2 := (fr1.mo (by unfold onl; omega) (fun a z => z)).tr (fr2.mo (by unfold ffs; omega) (fun a z => z))
    refine ⟨rtI _, _, rfl, ?_⟩
    have em : ∀ a, 342 ≤ a → a ≠ 342 → hI (sI h2 342 0 0) a = hI h a := fun a h1 h2 => by
      rw [rI_sI h2, fr2.I (by unfold ffs; omega), fr1.I (by unfold onl; omega)]
    have e2 : ∀ t, t ≠ 0 → hI (sI h2 342 0 0) 342 t = hI h 342 t := fun t ht => by
      rw [hI_same, if_neg ht, fr2.I (by unfold ffs; omega), fr1.I (by unfold onl; omega)]
    have frB := frA.sI (a := 342) (j := 0) (v := 0) (Or.inr (Or.inr (Or.inl rfl)))
    have m2 := i3.fr frA
    have m3 := i3.fr frB
    have q3' : bw f (-9) 9 = 1 := by unfold bw; rw [if_pos q3]
    have q2' : bw (nI j) 0 3 = 1 := by unfold bw; rw [if_pos q2]
    rw [e_M_says, b_M_says_0]
    simp only [mo m2, c_M_isSitting _ _ m3, c_M_isReaderNumber, c_M_isFile, Option.toList, List.cons_append, List.nil_append, b_M_says_6, b_M_says_7, b_M_says_9, b_M_says_10, b_M_says_12, e2 30 (by decide), en2, q1, and_self, if_true, q2', q3', b_M_says_15, show ¬ (1 : Int32) = 0 by decide, mem20, mem21, mem22, al20, al21, al33, al34, al36, al37, al38, aa33, aa34, aa36, aa37, aa38, true_and, and_true, Int32.reduceOfNat, forall_const, true_implies, implies_true, false_implies, not_true_eq_false, not_false_eq_true]
    refine c_M_doesSay k np j N ks f cc _ m3 (mr.fr frB (by omega)) (by omega) (by omega) (by rw [em 365 (by decide) (by decide)]; exact is.2.2.1) is.1 _ _ rfl rfl (by rw [em 367 (by decide) (by decide), em 368 (by decide) (by decide)]; exact KI_M is) _ ?_
    intro h3 fr3
    simp only [Option.toList, List.cons_append, List.nil_append, b_M_says_20, b_M_says_21, b_M_says_23, jW]
    rw [b_M_says_24, rd01]
    rw [em 368 (by decide) (by decide), em 366 (by decide) (by decide), em 369 (by decide) (by decide), st_same is]
    refine ⟨rtI _, rfl, ii.q (frB.tr (fr3.mo (by unfold dss; omega) (fun a z => z))) (fun a z => ⟨scr_js (by omega) z, by omega⟩) (fun a z => z.elim) ?_⟩
    intro t ht
    rw [fr3.I (by unfold dss; omega)]
    exact e2 t ht
  · unfold OpI
    rw [e_X_says, b_X_says_0]
    simp only [c_X_keptSitting _ h i2, c_X_readerOf _ h i2, en, Option.toList, List.cons_append, List.nil_append, b_X_says_3, b_X_says_7, b_X_says_10, b_X_says_12, c_within, bw0, b_X_says_16, b_X_says_17, xk_100 i2, rtI, mem20, mem21, mem22, al20, al21, al33, al34, al36, al37, al38, aa33, aa34, aa36, aa37, aa38, true_and, and_true, Int32.reduceOfNat, forall_const, true_implies, implies_true, false_implies, not_true_eq_false, not_false_eq_true]
    have no : ∃ v : Int32, some (Value.int (-1)) = some (Value.int v) ∧ Cl 100 q_M_says [.ref 342, .int s, .int r, .int f] h (fun r' h2 => r' = some (.int v) ∧ Inv L xs (c + 1) h2) := by
      refine ⟨-1, rfl, ?_⟩
      rw [e_M_says, b_M_says_0]
      simp only [mo i3, c_M_isSitting _ _ m1, c_M_isReaderNumber, c_M_isFile, Option.toList, List.cons_append, List.nil_append, b_M_says_6, b_M_says_7, b_M_says_9, b_M_says_10, b_M_says_12, b_M_says_13, e342 30 (by decide), en2, bw0, rtI, mem20, mem21, mem22, al20, al21, al33, al34, al36, al37, al38, aa33, aa34, aa36, aa37, aa38, true_and, and_true, Int32.reduceOfNat, forall_const, true_implies, implies_true, false_implies, not_true_eq_false, not_false_eq_true]
      have fin := ii.th (v := 0)
      by_cases q1 : 0 ≤ s ∧ s < nI n
      · by_cases q2 : 0 ≤ r ∧ r ≤ 3
        · have q3 : ¬ (-9 ≤ f ∧ f ≤ 9) := fun z => q ⟨q1, q2, z⟩
          simp [q1, q2, q3, fin]
        · simp [q1, q2, fin]
      · simp [q1, fin]
    by_cases q1 : 0 ≤ s ∧ s < nI n
    · have z0 : (0 : Int32) ≤ s ∧ s ≤ 23 := by
        obtain ⟨k, hk, rfl⟩ := n_ex n q1.1 q1.2 (by omega)
        exact ⟨q1.1, (nle (b := 23) (by omega) (by decide)).mpr (by omega)⟩
      by_cases q2 : 0 ≤ r ∧ r ≤ 3
      · have q3 : ¬ (-9 ≤ f ∧ f ≤ 9) := fun z => q ⟨q1, q2, z⟩
        simp only [z0, q1, q2, q3, and_self, if_true, if_false, not_true_eq_false, not_false_eq_true, false_implies, true_implies, and_true, true_and]
        exact ⟨by omega, fun z => absurd z (by omega), fun _ => ⟨by omega, fun z => absurd z (by omega), fun _ => no⟩⟩
      · simp only [z0, q1, q2, and_self, if_true, if_false, true_or, true_implies, not_true_eq_false, false_implies, and_true, true_and]
        exact ⟨by omega, fun z => absurd z (by omega), fun _ => no⟩
    · have q4 : ¬ ((0 ≤ s ∧ s ≤ 23) ∧ s < nI n) := fun z => q1 ⟨z.1.1, z.2⟩
      simp only [q4, if_false, true_or, true_implies, not_true_eq_false, false_implies, and_true, true_and]
      exact no
end OPS
