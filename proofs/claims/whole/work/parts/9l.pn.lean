--deps: 9k.expr
/-! THE PARSER OF THE REFERENCE, WITHOUT ITS CODES -/
def RN (ts : List (Nat × Nat)) (i F : Nat) (h : AH) : Prop := MLY h ∧ TKM h ts ts.length ∧ hI h 342 7 = nI i ∧ hI h 342 8 = nI F ∧ i < ts.length ∧ F < 20000
def KN (h h' : AH) : Prop := Fr (onl 342) nov h h' ∧ (∀ j, j ≠ 7 → j ≠ 8 → hI h' 342 j = hI h 342 j)
theorem KN.rf {h : AH} : KN h h := ⟨Fr.rfl', fun _ _ _ => rfl⟩
theorem KN.tr {h h1 h2 : AH} (a : KN h h1) (b : KN h1 h2) : KN h h2 := ⟨a.1.tr b.1, fun j p q => (b.2 j p q).trans (a.2 j p q)⟩
def PN (ts : List (Nat × Nat)) (h : AH) (i F : Nat) (h' : AH) : Prop := KN h h' ∧ RN ts i F h'
theorem PN.pre {ts : List (Nat × Nat)} {h h1 h2 : AH} {i F : Nat} (a : KN h h1) (b : PN ts h1 i F h2) : PN ts h i F h2 := ⟨a.tr b.1, b.2⟩
section PNS
variable {ts : List (Nat × Nat)} {i F : Nat} {h : AH} {d : Nat}
theorem RN.m (r : RN ts i F h) : MLY h := r.1
theorem RN.at (r : RN ts i F h) : hI h 342 7 = nI i := r.2.2.1
theorem RN.f (r : RN ts i F h) : hI h 342 8 = nI F := r.2.2.2.1
theorem RN.lt (r : RN ts i F h) : i < ts.length := r.2.2.2.2.1
theorem RN.Fl (r : RN ts i F h) : F < 20000 := r.2.2.2.2.2
theorem RN.cl (r : RN ts i F h) : 0 ≤ i + 9 := Nat.zero_le _
theorem RN.tv (r : RN ts i F h) : TV (tc ts i) (hI h 344 i) (hJ h 346 i) := (r.2.1 i r.lt).1
theorem RN.fr {S : Nat → Prop} {h' : AH} (r : RN ts i F h) (p : Fr S nov h h') (q : ∀ a, S a → a ≠ 342 ∧ a ≠ 344 ∧ a ≠ 345) : RN ts i F h' := by
  obtain ⟨m, t, a7, a8, lt, Fl⟩ := r
  have e : ∀ a, (a = 342 ∨ a = 344 ∨ a = 345) → hI h' a = hI h a := fun a z => p.I (fun w => by have := q a w; omega)
  refine ⟨m.fr p, ?_, by rw [e 342 (by omega)]; exact a7, by rw [e 342 (by omega)]; exact a8, lt, Fl⟩
  intro k hk
  rw [e 344 (by omega), e 345 (by omega), p.J (fun z => z)]
  exact t k hk
theorem RN.mv (r : RN ts i F h) {j : Nat} {v : Int32} {i' F' : Nat} (hj : (j = 7 ∧ v = nI i' ∧ F' = F) ∨ (j = 8 ∧ v = nI F' ∧ i' = i)) (h1 : i' < ts.length) (h2 : F' < 20000) (h3 : 0 ≤ i' + 9) : PN ts h i' F' (sI h 342 j v) := by
  obtain ⟨m, t, a7, a8, lt, Fl⟩ := r
  have fr : Fr (onl 342) nov h (sI h 342 j v) := Fr.rfl'.sI rfl
  refine ⟨⟨fr, fun k h7 h8 => by rw [hI_same, if_neg (by omega)]⟩, m.fr fr, ?_, ?_, ?_, h1, h2⟩
  · intro k hk
    rw [rI_sI (by decide), rI_sI (by decide)]
    exact t k hk
  · rw [hI_same]
    rcases hj with ⟨rfl, rfl, rfl⟩ | ⟨rfl, rfl, rfl⟩
    · rw [if_pos rfl]
    · rw [if_neg (by decide)]; exact a7
  · rw [hI_same]
    rcases hj with ⟨rfl, rfl, rfl⟩ | ⟨rfl, rfl, rfl⟩
    · rw [if_neg (by decide)]; exact a8
    · rw [if_pos rfl]
theorem n_wrong (T : TOKS ts) (k : Nat) (hk : k ≤ 5) (r : RN ts i 0 h) : Cl (d + 1) q_M_wrong [.ref 342, .int (nI k)] h (fun r' h' => r' = none ∧ PN ts h i (k + 16 * tp ts i) h') := by
  have hp := (T.2.2 i r.lt).2.2
  have hl := T.2.1
  have lt := r.lt
  have g := r.mv (j := 8) (v := nI (k + 16 * tp ts i)) (i' := i) (F' := k + 16 * tp ts i) (Or.inr ⟨rfl, rfl, rfl⟩) r.lt (by omega) r.cl
  have e1 : nI k + 16 * nI (tp ts i) = nI (k + 16 * tp ts i) := by rw [show (16 : Int32) = nI 16 from rfl, nmul, nadd]
  have a8 : hI h 342 8 = 0 := r.f
  have i1 : ixo (nI i) 1002 = true := nix (by omega) (by decide)
  have pl := (r.2.1 i r.lt).2
  have m := r.m
  simp only [e_M_wrong, b_M_wrong_0, b_M_wrong_3, b_M_wrong_14, mo m, a8, mr_5 m, mk_345 m, mn_345 m, r.at, i1, cN (show i < 2147483648 by omega), pl, e1, rtV, mem20, mem21, mem22, al20, al21, al33, al34, al36, al37, al38, aa33, aa34, aa36, aa37, aa38, true_and, and_true, Int32.reduceOfNat, forall_const, true_implies, implies_true, false_implies, not_true_eq_false, not_false_eq_true]
  exact g
theorem n_wrong0 {k : Int32} (hF : F ≠ 0) (r : RN ts i F h) (Q : Option Value → AH → Prop) : Cl (d + 1) q_M_wrong [.ref 342, .int k] h Q ↔ Q none h := by
  have z : ¬ nI F = 0 := mt (nI0 (by have := r.Fl; omega)).mp hF
  simp only [e_M_wrong, b_M_wrong_0, b_M_wrong_3, b_M_wrong_14, mo r.m, r.f, z, rtV, mem20, mem21, mem22, al20, al21, al33, al34, al36, al37, al38, aa33, aa34, aa36, aa37, aa38, true_and, and_true, Int32.reduceOfNat, forall_const, true_implies, implies_true, false_implies, not_true_eq_false, not_false_eq_true]
theorem n_isSign (T : TOKS ts) (c : Nat) (hc : c < 256) (hs : isS c) (r : RN ts i F h) (Q : Option Value → AH → Prop) : Cl (d + 1) q_M_isSign [.ref 342, .int (nI c)] h Q ↔ Q (some (.int (if F = 0 ∧ tc ts i = 11000 + c then 1 else 0))) h := by
  have hl := T.2.1
  have lt := r.lt
  have m := r.m
  have i1 : ixo (nI i) 1002 = true := nix (by omega) (by decide)
  have ss := srt_sign (T.2.2 i r.lt).1 r.tv c hc hs
  have f0 : nI F = 0 ↔ F = 0 := nI0 (by have := r.Fl; omega)
  simp only [e_M_isSign, b_M_isSign_0, b_M_isSign_3, b_M_isSign_10, b_M_isSign_19, b_M_isSign_21, b_M_isSign_22, mo m, r.f, f0, mr_4 m, mk_344 m, mn_344 m, mr_6 m, mk_346 m, mn_346 m, r.at, i1, cN (show i < 2147483648 by omega), mem20, mem21, mem22, al20, al21, al33, al34, al36, al37, al38, aa33, aa34, aa36, aa37, aa38, true_and, and_true, Int32.reduceOfNat, forall_const, true_implies, implies_true, false_implies, not_true_eq_false, not_false_eq_true]
  by_cases q0 : F = 0
  · by_cases q1 : hI h 344 i = 3
    · by_cases q2 : lg_cmp (hJ h 346 i) (Int32.toInt64 (nI c)) = 0
      · have := ss.mp ⟨q1, q2⟩
        simp [q0, q1, q2, this, rtZ1]
      · have := mt ss.mpr (fun z => q2 z.2)
        simp [q0, q1, q2, this, rtZ0]
    · have := mt ss.mpr (fun z => q1 z.1)
      simp [q0, q1, this, rtZ0]
  · simp [q0, rtZ0]
theorem n_isWord (T : TOKS ts) (w : Nat) (hw : w < 23) (r : RN ts i F h) (Q : Option Value → AH → Prop) : Cl (d + 1) q_M_isWord [.ref 342, .int (nI w)] h Q ↔ Q (some (.int (if F = 0 ∧ tc ts i = 10000 + rwo w then 1 else 0))) h := by
  have hl := T.2.1
  have lt := r.lt
  have m := r.m
  have i1 : ixo (nI i) 1002 = true := nix (by omega) (by decide)
  have i2 : ixo (nI w) 23 = true := nix (by omega) (by decide)
  have ss := srt_word (T.2.2 i r.lt).1 r.tv w hw
  have ew : hJ h 347 w = lN (wdT.getD w 0) := m.2 w hw
  have f0 : nI F = 0 ↔ F = 0 := nI0 (by have := r.Fl; omega)
  simp only [e_M_isWord, b_M_isWord_0, b_M_isWord_3, b_M_isWord_10, b_M_isWord_21, b_M_isWord_23, b_M_isWord_24, mo m, r.f, f0, mr_4 m, mk_344 m, mn_344 m, mr_6 m, mk_346 m, mn_346 m, mr_9 m, mk_347 m, mn_347 m, r.at, i1, i2, cN (show i < 2147483648 by omega), cN (show w < 2147483648 by omega), ew, mem20, mem21, mem22, al20, al21, al33, al34, al36, al37, al38, aa33, aa34, aa36, aa37, aa38, true_and, and_true, Int32.reduceOfNat, forall_const, true_implies, implies_true, false_implies, not_true_eq_false, not_false_eq_true]
  by_cases q0 : F = 0
  · by_cases q1 : hI h 344 i = 1
    · by_cases q2 : lg_cmp (hJ h 346 i) (lN (wdT.getD w 0)) = 0
      · have := ss.mp ⟨q1, q2⟩
        simp only [q0, q1, q2, this, rtZ1, and_self, if_true, mem20, mem21, mem22, al20, al21, al33, al34, al36, al37, al38, aa33, aa34, aa36, aa37, aa38, true_and, and_true, Int32.reduceOfNat, forall_const, true_implies, implies_true, false_implies, not_true_eq_false, not_false_eq_true]
      · have := mt ss.mpr (fun z => q2 z.2)
        simp only [q0, q1, q2, this, rtZ0, and_false, if_false, mem20, mem21, mem22, al20, al21, al33, al34, al36, al37, al38, aa33, aa34, aa36, aa37, aa38, true_and, and_true, Int32.reduceOfNat, forall_const, true_implies, implies_true, false_implies, not_true_eq_false, not_false_eq_true]
    · have := mt ss.mpr (fun z => q1 z.1)
      simp only [q0, q1, this, rtZ0, and_false, if_false, mem20, mem21, mem22, al20, al21, al33, al34, al36, al37, al38, aa33, aa34, aa36, aa37, aa38, true_and, and_true, Int32.reduceOfNat, forall_const, true_implies, implies_true, false_implies, not_true_eq_false, not_false_eq_true]
  · simp only [q0, rtZ0, false_and, if_false, mem20, mem21, mem22, al20, al21, al33, al34, al36, al37, al38, aa33, aa34, aa36, aa37, aa38, true_and, and_true, Int32.reduceOfNat, forall_const, true_implies, implies_true, false_implies, not_true_eq_false, not_false_eq_true]
theorem n_hasWord (T : TOKS ts) (w : Nat) (hw : w < 23) (r : RN ts i F h) : Cl (d + 2) q_M_hasWord [.ref 342, .int (nI w)] h (fun r' h' => if F = 0 ∧ tc ts i = 10000 + rwo w then r' = some (.int 1) ∧ PN ts h (i + 1) F h' else r' = some (.int 0) ∧ PN ts h i F h') := by
  have m := r.m
  have hr := (wd_hr w hw).1
  rw [e_M_hasWord, b_M_hasWord_0]
  simp only [mo m, n_isWord T w hw r, Option.toList, List.cons_append, List.nil_append, b_M_hasWord_3, r.at, true_and]
  by_cases q : F = 0 ∧ tc ts i = 10000 + rwo w
  · simp only [q, and_self, if_true, show ¬ (1 : Int32) = 0 by decide, b_M_hasWord_9, b_M_hasWord_12, mo m, nI_1, rtZ1, mem20, mem21, mem22, al20, al21, al33, al34, al36, al37, al38, aa33, aa34, aa36, aa37, aa38, true_and, and_true, Int32.reduceOfNat, forall_const, true_implies, implies_true, false_implies, not_true_eq_false, not_false_eq_true]
    have g := r.mv (j := 7) (v := nI (i + 1)) (i' := i + 1) (F' := F) (Or.inl ⟨rfl, rfl, rfl⟩) (sgn_lt T r.lt (by omega)) r.Fl (by have := r.cl; omega)
    rw [q.1] at g
    exact g
  · have e0 : nI i + 0 = nI i := nadd i 0
    simp only [q, if_false, b_M_hasWord_11, b_M_hasWord_12, mo m, e0, rtZ0, mem20, mem21, mem22, al20, al21, al33, al34, al36, al37, al38, aa33, aa34, aa36, aa37, aa38, true_and, and_true, Int32.reduceOfNat, forall_const, true_implies, implies_true, false_implies, not_true_eq_false, not_false_eq_true]
    exact r.mv (j := 7) (v := nI i) (i' := i) (F' := F) (Or.inl ⟨rfl, rfl, rfl⟩) r.lt r.Fl r.cl
theorem n_takeSign (T : TOKS ts) (c : Nat) (hc : c < 256) (hs : isS c) (r : RN ts i 0 h) : Cl (d + 2) q_M_takeSign [.ref 342, .int (nI c)] h (fun r' h' => r' = none ∧ if tc ts i = 11000 + c then PN ts h (i + 1) 0 h' else PN ts h i (1 + 16 * tp ts i) h') := by
  have m := r.m
  rw [e_M_takeSign, b_M_takeSign_0]
  simp only [mo m, n_isSign T c hc hs r, Option.toList, List.cons_append, List.nil_append, b_M_takeSign_3, true_and]
  by_cases q : tc ts i = 11000 + c
  · simp only [q, if_true, show ¬ (1 : Int32) = 0 by decide, b_M_takeSign_4, b_M_takeSign_14, mo m, r.at, nI_1, rtV, mem20, mem21, mem22, al20, al21, al33, al34, al36, al37, al38, aa33, aa34, aa36, aa37, aa38, true_and, and_true, Int32.reduceOfNat, forall_const, true_implies, implies_true, false_implies, not_true_eq_false, not_false_eq_true]
    have ne : tc ts i ≠ 12000 := by unfold isS at hs; omega
    exact r.mv (j := 7) (v := nI (i + 1)) (i' := i + 1) (F' := 0) (Or.inl ⟨rfl, rfl, rfl⟩) (sgn_lt T r.lt ne) r.Fl (by have := r.cl; omega)
  · simp only [q, if_false, b_M_takeSign_11, mem20, mem21, mem22, al20, al21, al33, al34, al36, al37, al38, aa33, aa34, aa36, aa37, aa38, true_and, and_true, Int32.reduceOfNat, forall_const, true_implies, implies_true, false_implies, not_true_eq_false, not_false_eq_true]
    refine (n_wrong T 1 (by decide) r).mono ?_
    rintro r' h' ⟨rfl, p⟩
    simp only [Option.toList, List.cons_append, List.nil_append, b_M_takeSign_14]
    exact ⟨rtV, True.intro, p⟩
theorem n_takeSign0 (T : TOKS ts) (c : Nat) (hc : c < 256) (hs : isS c) (hF : F ≠ 0) (r : RN ts i F h) (Q : Option Value → AH → Prop) : Cl (d + 2) q_M_takeSign [.ref 342, .int (nI c)] h Q ↔ Q none h := by
  rw [e_M_takeSign, b_M_takeSign_0]
  simp only [mo r.m, n_isSign T c hc hs r, Option.toList, List.cons_append, List.nil_append, b_M_takeSign_3, hF, false_and, if_false, b_M_takeSign_11, n_wrong0 hF r, b_M_takeSign_14, rtV, mem20, mem21, mem22, al20, al21, al33, al34, al36, al37, al38, aa33, aa34, aa36, aa37, aa38, true_and, and_true, Int32.reduceOfNat, forall_const, true_implies, implies_true, false_implies, not_true_eq_false, not_false_eq_true]
theorem n_takeNumber (T : TOKS ts) (a b : Nat) (hb : b < 10000) (hab : a ≤ b) (r : RN ts i 0 h) : Cl (d + 2) q_M_takeNumber [.ref 342, .int (nI a), .int (nI b)] h (fun r' h' => if numF ts i a b = 0 then r' = some (.int (nI (tc ts i))) ∧ PN ts h (i + 1) 0 h' else r' = some (.int 0) ∧ PN ts h i (numF ts i a b) h') := by
  have hl := T.2.1
  have lt := r.lt
  have hp := (T.2.2 i r.lt).2.2
  have m := r.m
  have i1 : ixo (nI i) 1002 = true := nix (by omega) (by decide)
  have f0 : hI h 342 8 = 0 := r.f
  have sn := srt_num (T.2.2 i r.lt).1 r.tv
  have bad : ∀ k, k = 1 ∨ k = 4 → Cl (d + 1) q_M_wrong [.ref 342, .int (nI k)] h (fun r' h' => Wp (d + 1) P_M_takeNumber 38 [.ref 342, .int (nI a), .int (nI b)] (r'.toList ++ []) h' (fun r' h' => rtk (some .int) r' = true ∧ r' = some (.int 0) ∧ PN ts h i (k + 16 * tp ts i) h')) := by
    intro k hk
    refine (n_wrong T k (by omega) r).mono ?_
    rintro r' h' ⟨rfl, p⟩
    have z : ¬ nI (k + 16 * tp ts i) ≤ 0 := mt (nI_le0 (by omega)).mp (by omega)
    simp only [Option.toList, List.cons_append, List.nil_append, b_M_takeNumber_38, mo p.2.m, p.2.f, z, b_M_takeNumber_41, mem20, mem21, mem22, al20, al21, al33, al34, al36, al37, al38, aa33, aa34, aa36, aa37, aa38, true_and, and_true, Int32.reduceOfNat, forall_const, true_implies, implies_true, false_implies, not_true_eq_false, not_false_eq_true]
    exact ⟨rtI _, p⟩
  rw [e_M_takeNumber, b_M_takeNumber_0]
  simp only [mo m, f0, b_M_takeNumber_3, mr_4 m, mk_344 m, mn_344 m, r.at, i1, cN (show i < 2147483648 by omega), sn, mem20, mem21, mem22, al20, al21, al33, al34, al36, al37, al38, aa33, aa34, aa36, aa37, aa38, true_and, and_true, Int32.reduceOfNat, forall_const, true_implies, implies_true, false_implies, not_true_eq_false, not_false_eq_true]
  unfold numF
  by_cases q : tc ts i < 10000
  · have tv := r.tv.1 (by omega)
    have c1 : lg_cmp (lN (tc ts i)) (Int32.toInt64 (nI a)) < 0 ↔ tc ts i < a := by
      rw [lg_cmp_lt, nI_l (by omega)]; exact lN_lt (by omega) (by omega)
    have c2 : lg_cmp (lN (tc ts i)) (Int32.toInt64 (nI b)) ≤ 0 ↔ tc ts i ≤ b := by
      rw [lg_cmp_le, nI_l (by omega)]; exact lN_le (by omega) (by omega)
    simp only [q, if_true, b_M_takeNumber_14, mo m, f0, b_M_takeNumber_17, mr_6 m, mk_346 m, mn_346 m, r.at, i1, cN (show i < 2147483648 by omega), tv.2, c1, b_M_takeNumber_26, c2, mem20, mem21, mem22, al20, al21, al33, al34, al36, al37, al38, aa33, aa34, aa36, aa37, aa38, true_and, and_true, Int32.reduceOfNat, forall_const, true_implies, implies_true, false_implies, not_true_eq_false, not_false_eq_true]
    have good : a ≤ tc ts i ∧ tc ts i ≤ b → Wp (d + 1) P_M_takeNumber 38 [.ref 342, .int (nI a), .int (nI b)] [] h (fun r' h' => rtk (some .int) r' = true ∧ r' = some (.int (nI (tc ts i))) ∧ PN ts h (i + 1) 0 h') := by
      intro _
      have e1 : nI (i + 1) - 1 = nI i := nsub (a := i + 1) (b := 1) (by omega)
      simp only [b_M_takeNumber_38, mo m, f0, Int32.le_refl, b_M_takeNumber_43, hK_sI, hR_sI, hN_sI, hJ_sI, hI_same, if_true, mr_6 m, mk_346 m, mn_346 m, r.at, nI_1, e1, i1, cN (show i < 2147483648 by omega), tv.2, lN_i, rtI, mem20, mem21, mem22, al20, al21, al33, al34, al36, al37, al38, aa33, aa34, aa36, aa37, aa38, true_and, and_true, Int32.reduceOfNat, forall_const, true_implies, implies_true, false_implies, not_true_eq_false, not_false_eq_true]
      exact r.mv (j := 7) (v := nI (i + 1)) (i' := i + 1) (F' := 0) (Or.inl ⟨rfl, rfl, rfl⟩) (sgn_lt T r.lt (by omega)) (by decide) (by have := r.cl; omega)
    by_cases q2 : a ≤ tc ts i ∧ tc ts i ≤ b
    · have n1 : ¬ tc ts i < a := by omega
      simp only [q2, and_self, if_true, n1, mem20, mem21, mem22, al20, al21, al33, al34, al36, al37, al38, aa33, aa34, aa36, aa37, aa38, true_and, and_true, Int32.reduceOfNat, forall_const, true_implies, implies_true, false_implies, not_true_eq_false, not_false_eq_true]
      exact good q2
    · have nz : ¬ 4 + 16 * tp ts i = 0 := by omega
      simp only [q2, if_false, nz, b_M_takeNumber_35]
      refine ⟨fun _ => bad 4 (Or.inr rfl), fun z => ⟨fun z2 => absurd ⟨by omega, z2⟩ q2, fun _ => bad 4 (Or.inr rfl)⟩⟩
  · have nz : ¬ 1 + 16 * tp ts i = 0 := by omega
    simp only [q, if_false, nz, b_M_takeNumber_10, mem20, mem21, mem22, al20, al21, al33, al34, al36, al37, al38, aa33, aa34, aa36, aa37, aa38, true_and, and_true, Int32.reduceOfNat, forall_const, true_implies, implies_true, false_implies, not_true_eq_false, not_false_eq_true]
    refine (n_wrong T 1 (by decide) r).mono ?_
    rintro r' h' ⟨rfl, p⟩
    have z : ¬ nI (1 + 16 * tp ts i) ≤ 0 := mt (nI_le0 (by omega)).mp (by omega)
    simp only [Option.toList, List.cons_append, List.nil_append, b_M_takeNumber_13, b_M_takeNumber_38, mo p.2.m, p.2.f, z, b_M_takeNumber_41, mem20, mem21, mem22, al20, al21, al33, al34, al36, al37, al38, aa33, aa34, aa36, aa37, aa38, true_and, and_true, Int32.reduceOfNat, forall_const, true_implies, implies_true, false_implies, not_true_eq_false, not_false_eq_true]
    exact ⟨rtI _, p⟩
theorem n_takeNumber0 (a b : Int32) (hF : F ≠ 0) (r : RN ts i F h) (Q : Option Value → AH → Prop) : Cl (d + 2) q_M_takeNumber [.ref 342, .int a, .int b] h Q ↔ Q (some (.int 0)) h := by
  have z : ¬ nI F = 0 := mt (nI0 (by have := r.Fl; omega)).mp hF
  have z2 : ¬ nI F ≤ 0 := mt (nI_le0 (by have := r.Fl; omega)).mp hF
  rw [e_M_takeNumber, b_M_takeNumber_0]
  simp only [mo r.m, r.f, z, z2, b_M_takeNumber_14, b_M_takeNumber_38, b_M_takeNumber_41, rtI, mem20, mem21, mem22, al20, al21, al33, al34, al36, al37, al38, aa33, aa34, aa36, aa37, aa38, true_and, and_true, Int32.reduceOfNat, forall_const, true_implies, implies_true, false_implies, not_true_eq_false, not_false_eq_true]
end PNS
