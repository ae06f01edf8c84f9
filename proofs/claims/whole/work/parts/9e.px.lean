--deps: 9d.mcut
/-! THE PARSER OF THE CLASS: SMALL STEPS -/
/-- tokens as they come from a tape -/
def TOKS (ts : List (Nat × Nat)) : Prop := 0 < ts.length ∧ ts.length ≤ 1001 ∧ ∀ j, j < ts.length → cdOk (tc ts j) ∧ (tc ts j = 12000 ↔ j + 1 = ts.length) ∧ tp ts j ≤ 1000
theorem cdOk_lt {c : Nat} (h : cdOk c) : c ≤ 13000 := by
  rcases h with q | q | ⟨s, q, q2⟩ | q | q
  · omega
  · omega
  · unfold isS at q; omega
  · omega
  · omega
theorem TOKS_of {f : Nat → Nat} {n : Nat} (hn : n ≤ 1000) : ∀ {ts : List (Nat × Nat)} {k : Nat}, LX f n k ts → (∀ j, j < ts.length → cdOk (tc ts j) ∧ (tc ts j = 12000 ↔ j + 1 = ts.length) ∧ tp ts j ≤ 1000)
  | [], k, h => h.elim
  | t :: ts, k, h => by
    obtain ⟨h1, h2, h3, h4⟩ := h
    intro j hj
    rcases h4 with ⟨h5, h6, h7⟩ | ⟨h5, h6, e, t1, t2⟩
    · subst h7
      have : j = 0 := by simp at hj; omega
      subst this
      show cdOk t.1 ∧ (t.1 = 12000 ↔ 0 + 1 = 1) ∧ t.2 ≤ 1000
      exact ⟨Or.inr (Or.inr (Or.inr (Or.inl h6))), ⟨fun _ => rfl, fun _ => h6⟩, by omega⟩
    · cases j with
      | zero =>
        show cdOk t.1 ∧ (t.1 = 12000 ↔ 0 + 1 = (t :: ts).length) ∧ t.2 ≤ 1000
        obtain ⟨o1, o2⟩ := TOK_ok t1
        refine ⟨o1, ⟨fun z => absurd z o2, fun z => ?_⟩, by omega⟩
        cases ts with
        | nil => exact t2.elim
        | cons u us => simp at z
      | succ j =>
        have := TOKS_of hn t2 j (by simpa using hj)
        show cdOk (tc ts j) ∧ (tc ts j = 12000 ↔ j + 1 + 1 = (t :: ts).length) ∧ tp ts j ≤ 1000
        rw [this.2.1]
        refine ⟨this.1, ?_, this.2.2⟩
        simp
theorem TOKS_all {f : Nat → Nat} {n : Nat} {ts : List (Nat × Nat)} (hn : n ≤ 1000) (h : LX f n 0 ts) : TOKS ts := by
  have hl := LX_len h (Nat.zero_le _)
  refine ⟨?_, by omega, TOKS_of hn h⟩
  cases ts with
  | nil => exact h.elim
  | cons t ts => simp
/-- the word that a code is -/
def wref (t : Nat) : Nat := if 10000 ≤ t ∧ t < 10024 then t - 9998 else 25
theorem wref_r (t : Nat) : 2 ≤ wref t ∧ wref t ≤ 25 := by
  unfold wref
  split <;> omega
theorem wref_eq {t r : Nat} (hr : r < 23) : wref t = 2 + r ↔ t = 10000 + r := by
  unfold wref
  split <;> omega
/-- the parser at token i, with the fault F (0: none) and steps cs so far -/
def RX (L : Nat) (xs : Nat → Int32) (ts : List (Nat × Nat)) (rd : Int32) (i F : Nat) (cs : List Nat) (h : AH) : Prop := SLY L xs h ∧ XLY h ∧ TKX h ts ts.length ∧ hI h 108 3 = rd ∧ hI h 108 4 = nI F ∧ hI h 108 5 = nI i ∧ hI h 108 6 = nI (tc ts i) ∧ hI h 108 7 = nI (tp ts i) ∧ hR h 108 8 = wref (tc ts i) ∧ hI h 117 1 = nI cs.length ∧ STP (hI h 121) 0 cs ∧ i < ts.length ∧ F < 20000 ∧ cs.length ≤ i
def xps : Nat → Prop := fun a => a = 108 ∨ a = 117 ∨ a = 121
def KX (h h' : AH) : Prop := Fr xps nov h h' ∧ hI h' 117 2 = hI h 117 2
theorem KX.rf {h : AH} : KX h h := ⟨Fr.rfl', rfl⟩
theorem KX.tr {h h1 h2 : AH} (a : KX h h1) (b : KX h1 h2) : KX h h2 := ⟨a.1.tr b.1, b.2.trans a.2⟩
/-- what a call leaves -/
def PX (L : Nat) (xs : Nat → Int32) (ts : List (Nat × Nat)) (rd : Int32) (h : AH) (i F : Nat) (cs : List Nat) (h' : AH) : Prop := KX h h' ∧ RX L xs ts rd i F cs h'
theorem PX.pre {L : Nat} {xs : Nat → Int32} {ts : List (Nat × Nat)} {rd : Int32} {h h1 h2 : AH} {i F : Nat} {cs : List Nat} (a : KX h h1) (b : PX L xs ts rd h1 i F cs h2) : PX L xs ts rd h i F cs h2 := ⟨a.tr b.1, b.2⟩
section PXS
variable {L : Nat} {xs : Nat → Int32} {ts : List (Nat × Nat)} {rd : Int32} {i F : Nat} {cs : List Nat} {h : AH} {d : Nat}
theorem RX.kx {h' : AH} (r : RX L xs ts rd i F cs h) (k : KX h h') (e3 : hI h' 108 3 = hI h 108 3) (e4 : hI h' 108 4 = hI h 108 4) : SLY L xs h' ∧ XLY h' ∧ TKX h' ts ts.length ∧ hI h' 108 3 = rd ∧ hI h' 108 4 = nI F := by
  obtain ⟨r1, r2, r3, r4, r5, r6⟩ := r
  have f1 : ∀ a, ¬ xps a → hI h' a = hI h a := fun a z => k.1.I z
  refine ⟨r1.fr k.1 (fun a z => by unfold xps at z; omega), r2.fr k.1, ⟨?_, ?_⟩, e3.trans r4, e4.trans r5⟩
  · rw [f1 109 (by unfold xps; decide)]; exact r3.1
  · intro j hj
    rw [f1 111 (by unfold xps; decide), f1 112 (by unfold xps; decide)]
    exact r3.2 j hj
theorem x_next (T : TOKS ts) (r : RX L xs ts rd i F cs h) (hi : i + 1 < ts.length) : Cl (d + 1) q_Pa_next [.ref 108] h (fun r' h' => r' = none ∧ PX L xs ts rd h (i + 1) F cs h') := by
  have rr := r
  obtain ⟨s, x, t, a3, a4, a5, a6, a7, a8, a9, a10, a11, a12, a13⟩ := r
  have T2 := T.2.1
  have ok := cdOk_lt (T.2.2 (i + 1) hi).1
  have e5 : nI i + 1 = nI (i + 1) := nI_1 i
  have z1 := n_nn (n := i + 1) (by omega)
  have z2 : ¬ nI ts.length ≤ nI (i + 1) := mt (nle (by omega) (by omega)).mp (by omega)
  have z3 : ¬ (1001 : Int32) ≤ nI (i + 1) := mt (nle (a := 1001) (by decide) (by omega)).mp (by omega)
  have i1 : ixo (nI (i + 1)) 1001 = true := nix (by omega) (by decide)
  have c1 := cN (n := i + 1) (by omega)
  obtain ⟨s1, s2, s3, s4⟩ := s 26 (by omega)
  have k26 : hK h 26 = 41 := s1
  have n26 : hN h 26 = 24 := s2
  have r26 : ∀ j, hR h 26 j = 2 + j := fun j => by rw [s4]; rfl
  have al : ((20 : Nat) ≤ 41 ∧ (41 : Nat) ≠ 40 ∧ (41 : Nat) ≠ 42 ∧ (41 : Nat) ≤ 45 ∧ (41 : Nat) ≠ 43) ↔ True := by decide
  have aa : ((30 : Nat) ≤ 41 ∧ (41 : Nat) ≤ 41 ∧ (41 : Nat) ≠ 40) ↔ True := by decide
  have tk := t.2 (i + 1) hi
  rw [e_Pa_next, b_Pa_next_0]
  simp only [xk_108 x, hK_sI, hI_same, if_true, a5, e5, z1, b_Pa_next_9, xr_108_0 x, hR_sI, hN_sI, xk_109 x, rI_sI (show 109 ≠ 108 by decide), t.1, z2, b_Pa_next_15, xr_109_2 x, xk_111 x, xn_111 x, z3, b_Pa_next_22, xr_109_3 x, xk_112 x, xn_112 x, b_Pa_next_29, i1, c1, rI_sI (show 111 ≠ 108 by decide), rI_sI (show 112 ≠ 108 by decide), tk.1, tk.2, b_Pa_next_45, mem20, mem21, mem22, al20, al21, al33, al34, al36, al37, al38, aa33, aa34, aa36, aa37, aa38, true_and, and_true, Int32.reduceOfNat, forall_const, true_implies, implies_true, false_implies, not_true_eq_false, not_false_eq_true, show ¬ (5 : Nat) = 6 by decide, show ¬ (6 : Nat) = 7 by decide, if_false]
  -- the word
  have fin : ∀ w, w = wref (tc ts (i + 1)) → rtk none none = true ∧ PX L xs ts rd h (i + 1) F cs (sR (sI (sI (sI h 108 5 (nI (i + 1))) 108 6 (nI (tc ts (i + 1)))) 108 7 (nI (tp ts (i + 1)))) 108 8 w) := by
    intro w hw
    have fr : Fr xps nov h (sR (sI (sI (sI h 108 5 (nI (i + 1))) 108 6 (nI (tc ts (i + 1)))) 108 7 (nI (tp ts (i + 1)))) 108 8 w) := (((Fr.rfl'.sI (Or.inl rfl)).sI (Or.inl rfl)).sI (Or.inl rfl)).sW
    have k : KX h (sR (sI (sI (sI h 108 5 (nI (i + 1))) 108 6 (nI (tc ts (i + 1)))) 108 7 (nI (tp ts (i + 1)))) 108 8 w) := ⟨fr, by rw [hI_sR, rI_sI (by decide), rI_sI (by decide), rI_sI (by decide)]⟩
    have e : ∀ j, j ≠ 5 → j ≠ 6 → j ≠ 7 → hI (sR (sI (sI (sI h 108 5 (nI (i + 1))) 108 6 (nI (tc ts (i + 1)))) 108 7 (nI (tp ts (i + 1)))) 108 8 w) 108 j = hI h 108 j := by
      intro j h5 h6 h7
      rw [hI_sR, hI_same, if_neg h7, hI_same, if_neg h6, hI_same, if_neg h5]
    obtain ⟨q1, q2, q3, q4, q5⟩ := rr.kx k (e 3 (by decide) (by decide) (by decide)) (e 4 (by decide) (by decide) (by decide))
    refine ⟨rtV, k, q1, q2, q3, q4, q5, ?_, ?_, ?_, ?_, ?_, ?_, hi, a12, by omega⟩
    · rw [hI_sR, hI_same, if_neg (by decide), hI_same, if_neg (by decide), hI_same, if_pos rfl]
    · rw [hI_sR, hI_same, if_neg (by decide), hI_same, if_pos rfl]
    · rw [hI_sR, hI_same, if_pos rfl]
    · rw [hR_sR, if_pos rfl, if_pos rfl, hw]
    · rw [hI_sR, rI_sI (by decide), rI_sI (by decide), rI_sI (by decide)]; exact a9
    · rw [hI_sR, rI_sI (by decide), rI_sI (by decide), rI_sI (by decide)]; exact a10
  generalize hw : tc ts (i + 1) = w at ok fin ⊢
  by_cases q : w < 10000
  · have z4 : nI w - 10000 < 0 := by
      have e : (nI w - 10000).toInt = (w : Int) - 10000 := by
        have h1 := tI (n := w) (by omega)
        rw [Int32.toInt_sub, h1, show (10000 : Int32).toInt = 10000 from rfl]
        rw [Int.bmod_eq_of_le (by omega) (by omega)]
      rw [Int32.lt_iff_toInt_lt, e]
      show (w : Int) - 10000 < 0
      omega
    simp only [z4, b_Pa_next_61, b_Pa_next_62, hK_sI, xk_108 x, mem20, mem21, mem22, al20, al21, al33, al34, al36, al37, al38, aa33, aa34, aa36, aa37, aa38, true_and, and_true, Int32.reduceOfNat, forall_const, true_implies, implies_true, false_implies, not_true_eq_false, not_false_eq_true]
    exact fin 25 (by unfold wref; rw [if_neg (by omega)])
  · have e4 : nI w - 10000 = nI (w - 10000) := nsub (b := 10000) (by omega)
    have z4 := n_nn (n := w - 10000) (by omega)
    simp only [e4, z4, b_Pa_next_53, hK_sI, hN_sI, k26, n26, al, mem20, mem21, mem22, al20, al21, al33, al34, al36, al37, al38, aa33, aa34, aa36, aa37, aa38, true_and, and_true, Int32.reduceOfNat, forall_const, true_implies, implies_true, false_implies, not_true_eq_false, not_false_eq_true]
    by_cases q2 : w < 10024
    · have z5 : ¬ (24 : Int32) ≤ nI (w - 10000) := mt (nle (a := 24) (by decide) (by omega)).mp (by omega)
      have i2 : ixo (nI (w - 10000)) 24 = true := nix (by omega) (by decide)
      simp only [z5, b_Pa_next_57, hK_sI, hN_sI, hR_sI, k26, n26, aa, i2, cN (show w - 10000 < 2147483648 by omega), r26, b_Pa_next_62, xk_108 x, mem20, mem21, mem22, al20, al21, al33, al34, al36, al37, al38, aa33, aa34, aa36, aa37, aa38, true_and, and_true, Int32.reduceOfNat, forall_const, true_implies, implies_true, false_implies, not_true_eq_false, not_false_eq_true]
      exact fin (2 + (w - 10000)) (by unfold wref; rw [if_pos (by omega)]; omega)
    · have z5 : (24 : Int32) ≤ nI (w - 10000) := (nle (a := 24) (by decide) (by omega)).mpr (by omega)
      simp only [z5, b_Pa_next_61, b_Pa_next_62, hK_sI, xk_108 x, mem20, mem21, mem22, al20, al21, al33, al34, al36, al37, al38, aa33, aa34, aa36, aa37, aa38, true_and, and_true, Int32.reduceOfNat, forall_const, true_implies, implies_true, false_implies, not_true_eq_false, not_false_eq_true]
      exact fin 25 (by unfold wref; rw [if_neg (by omega)])
theorem nI0 {n : Nat} (h : n < 2147483648) : nI n = 0 ↔ n = 0 := neq (b := 0) h (by decide)
/-- only the fault has changed -/
theorem RX.flt (r : RX L xs ts rd i F cs h) {G : Nat} (hG : G < 20000) : PX L xs ts rd h i G cs (sI h 108 4 (nI G)) := by
  have rr := r
  obtain ⟨s, x, t, a3, a4, a5, a6, a7, a8, a9, a10, a11, a12, a13⟩ := r
  have k : KX h (sI h 108 4 (nI G)) := ⟨Fr.rfl'.sI (Or.inl rfl), by rw [rI_sI (by decide)]⟩
  have e : ∀ j, j ≠ 4 → hI (sI h 108 4 (nI G)) 108 j = hI h 108 j := fun j hj => by rw [hI_same, if_neg hj]
  refine ⟨k, s.fr k.1 (fun a z => by unfold xps at z; omega), x.fr k.1, ⟨?_, ?_⟩, ?_, ?_, ?_, ?_, ?_, ?_, ?_, ?_, a11, hG, a13⟩
  · rw [rI_sI (by decide)]; exact t.1
  · intro j hj
    rw [rI_sI (by decide), rI_sI (by decide)]; exact t.2 j hj
  · rw [e 3 (by decide)]; exact a3
  · rw [hI_same, if_pos rfl]
  · rw [e 5 (by decide)]; exact a5
  · rw [e 6 (by decide)]; exact a6
  · rw [e 7 (by decide)]; exact a7
  · exact a8
  · rw [rI_sI (by decide)]; exact a9
  · rw [rI_sI (by decide)]; exact a10
theorem x_wrong (T : TOKS ts) (k : Nat) (hk : k ≤ 5) (r : RX L xs ts rd i 0 cs h) : Cl (d + 1) q_Pa_wrong [.ref 108, .int (nI k)] h (fun r' h' => r' = none ∧ PX L xs ts rd h i (k + 16 * tp ts i) cs h') := by
  have hp := (T.2.2 i r.2.2.2.2.2.2.2.2.2.2.2.1).2.2
  have g := r.flt (G := k + 16 * tp ts i) (by omega)
  obtain ⟨s, x, t, a3, a4, a5, a6, a7, a8, a9, a10, a11, a12, a13⟩ := r
  have e1 : nI k + 16 * nI (tp ts i) = nI (k + 16 * tp ts i) := by rw [show (16 : Int32) = nI 16 from rfl, nmul, nadd]
  have a4' : hI h 108 4 = 0 := a4
  simp only [e_Pa_wrong, b_Pa_wrong_0, b_Pa_wrong_3, b_Pa_wrong_11, xk_108 x, a4', a7, e1, rtV, mem20, mem21, mem22, al20, al21, al33, al34, al36, al37, al38, aa33, aa34, aa36, aa37, aa38, true_and, and_true, Int32.reduceOfNat, forall_const, true_implies, implies_true, false_implies, not_true_eq_false, not_false_eq_true]
  exact g
theorem x_wrong0 {k : Int32} (hF : F ≠ 0) (r : RX L xs ts rd i F cs h) (Q : Option Value → AH → Prop) : Cl (d + 1) q_Pa_wrong [.ref 108, .int k] h Q ↔ Q none h := by
  obtain ⟨s, x, t, a3, a4, a5, a6, a7, a8, a9, a10, a11, a12, a13⟩ := r
  have z : ¬ nI F = 0 := mt (nI0 (by omega)).mp hF
  simp only [e_Pa_wrong, b_Pa_wrong_0, b_Pa_wrong_3, b_Pa_wrong_11, xk_108 x, a4, z, rtV, mem20, mem21, mem22, al20, al21, al33, al34, al36, al37, al38, aa33, aa34, aa36, aa37, aa38, true_and, and_true, Int32.reduceOfNat, forall_const, true_implies, implies_true, false_implies, not_true_eq_false, not_false_eq_true]
theorem x_isNumber (T : TOKS ts) (r : RX L xs ts rd i F cs h) (Q : Option Value → AH → Prop) : Cl (d + 1) q_Pa_isNumber [.ref 108] h Q ↔ Q (some (.int (if tc ts i < 10000 then 1 else 0))) h := by
  obtain ⟨s, x, t, a3, a4, a5, a6, a7, a8, a9, a10, a11, a12, a13⟩ := r
  have ok := cdOk_lt (T.2.2 i a11).1
  have z1 := n_nn (n := tc ts i) (by omega)
  have z2 : 10000 ≤ nI (tc ts i) ↔ 10000 ≤ tc ts i := nle (a := 10000) (by decide) (by omega)
  simp only [e_Pa_isNumber, b_Pa_isNumber_0, b_Pa_isNumber_3, b_Pa_isNumber_7, b_Pa_isNumber_9, b_Pa_isNumber_10, xk_108 x, a6, z1, z2, mem20, mem21, mem22, al20, al21, al33, al34, al36, al37, al38, aa33, aa34, aa36, aa37, aa38, true_and, and_true, Int32.reduceOfNat, forall_const, true_implies, implies_true, false_implies, not_true_eq_false, not_false_eq_true]
  by_cases q : tc ts i < 10000
  · have : ¬ 10000 ≤ tc ts i := by omega
    simp [q, this, rtZ1]
  · have : 10000 ≤ tc ts i := by omega
    simp [q, this, rtZ0]
theorem x_isSign (T : TOKS ts) (c : Nat) (hc : c < 256) (r : RX L xs ts rd i F cs h) (Q : Option Value → AH → Prop) : Cl (d + 1) q_Pa_isSign [.ref 108, .int (nI c)] h Q ↔ Q (some (.int (if tc ts i = 11000 + c then 1 else 0))) h := by
  obtain ⟨s, x, t, a3, a4, a5, a6, a7, a8, a9, a10, a11, a12, a13⟩ := r
  have ok := cdOk_lt (T.2.2 i a11).1
  have e1 : (11000 : Int32) + nI c = nI (11000 + c) := nadd 11000 c
  have z1 : nI (tc ts i) = nI (11000 + c) ↔ tc ts i = 11000 + c := neq (by omega) (by omega)
  simp only [e_Pa_isSign, b_Pa_isSign_0, b_Pa_isSign_6, b_Pa_isSign_8, b_Pa_isSign_9, xk_108 x, a6, e1, z1, mem20, mem21, mem22, al20, al21, al33, al34, al36, al37, al38, aa33, aa34, aa36, aa37, aa38, true_and, and_true, Int32.reduceOfNat, forall_const, true_implies, implies_true, false_implies, not_true_eq_false, not_false_eq_true]
  by_cases q : tc ts i = 11000 + c <;> simp [q, rtZ0, rtZ1]
theorem sgn_lt (T : TOKS ts) (hi : i < ts.length) (e : tc ts i ≠ 12000) : i + 1 < ts.length := by
  have := (T.2.2 i hi).2.1
  have n1 : ¬ i + 1 = ts.length := fun z => e (this.mpr z)
  omega
theorem RX.lt (r : RX L xs ts rd i F cs h) : i < ts.length := r.2.2.2.2.2.2.2.2.2.2.2.1
theorem RX.f (r : RX L xs ts rd i F cs h) : hI h 108 4 = nI F := r.2.2.2.2.1
theorem RX.x (r : RX L xs ts rd i F cs h) : XLY h := r.2.1
theorem RX.s (r : RX L xs ts rd i F cs h) : SLY L xs h := r.1
theorem RX.w (r : RX L xs ts rd i F cs h) : hR h 108 8 = wref (tc ts i) := r.2.2.2.2.2.2.2.2.1
theorem RX.Fl (r : RX L xs ts rd i F cs h) : F < 20000 := r.2.2.2.2.2.2.2.2.2.2.2.2.1
theorem RX.cl (r : RX L xs ts rd i F cs h) : cs.length ≤ i := r.2.2.2.2.2.2.2.2.2.2.2.2.2
theorem RX.cd (r : RX L xs ts rd i F cs h) : hI h 108 6 = nI (tc ts i) := r.2.2.2.2.2.2.1
theorem RX.rdr (r : RX L xs ts rd i F cs h) : hI h 108 3 = rd := r.2.2.2.1
theorem x_takeSign (T : TOKS ts) (c : Nat) (hc : c < 256) (r : RX L xs ts rd i 0 cs h) : Cl (d + 2) q_Pa_takeSign [.ref 108, .int (nI c)] h (fun r' h' => r' = none ∧ if tc ts i = 11000 + c then PX L xs ts rd h (i + 1) 0 cs h' else PX L xs ts rd h i (1 + 16 * tp ts i) cs h') := by
  have hp := (T.2.2 i r.lt).2.2
  rw [e_Pa_takeSign, b_Pa_takeSign_0]
  refine ⟨xk_108 r.x, ?_⟩
  rw [x_isSign T c hc r]
  simp only [Option.toList, List.cons_append, List.nil_append, b_Pa_takeSign_3]
  by_cases q : tc ts i = 11000 + c
  · have f0 : hI h 108 4 = 0 := r.f
    simp only [if_pos q, show ¬ (1 : Int32) = 0 by decide, b_Pa_takeSign_7, xk_108 r.x, f0, b_Pa_takeSign_10, mem20, mem21, mem22, al20, al21, al33, al34, al36, al37, al38, aa33, aa34, aa36, aa37, aa38, true_and, and_true, Int32.reduceOfNat, forall_const, true_implies, implies_true, false_implies, not_true_eq_false, not_false_eq_true]
    refine (x_next T r (sgn_lt T r.lt (by omega))).mono ?_
    rintro r' h' ⟨rfl, p⟩
    simp only [Option.toList, List.cons_append, List.nil_append, b_Pa_takeSign_12]
    exact ⟨rtV, True.intro, p⟩
  · simp only [if_neg q, b_Pa_takeSign_4, mem20, mem21, mem22, al20, al21, al33, al34, al36, al37, al38, aa33, aa34, aa36, aa37, aa38, true_and, and_true, Int32.reduceOfNat, forall_const, true_implies, implies_true, false_implies, not_true_eq_false, not_false_eq_true]
    refine (x_wrong T 1 (by decide) r).mono ?_
    rintro r' h' ⟨rfl, p⟩
    have z : ¬ nI (1 + 16 * tp ts i) = 0 := mt (nI0 (by omega)).mp (by omega)
    simp only [Option.toList, List.cons_append, List.nil_append, b_Pa_takeSign_7, xk_108 p.2.x, p.2.f, z, b_Pa_takeSign_12, mem20, mem21, mem22, al20, al21, al33, al34, al36, al37, al38, aa33, aa34, aa36, aa37, aa38, true_and, and_true, Int32.reduceOfNat, forall_const, true_implies, implies_true, false_implies, not_true_eq_false, not_false_eq_true]
    exact ⟨rtV, p⟩
theorem x_takeSign0 {k : Int32} (T : TOKS ts) (c : Nat) (hc : c < 256) (hF : F ≠ 0) (r : RX L xs ts rd i F cs h) (Q : Option Value → AH → Prop) : Cl (d + 2) q_Pa_takeSign [.ref 108, .int (nI c)] h Q ↔ Q none h := by
  have z : ¬ nI F = 0 := mt (nI0 (by have := r.Fl; omega)).mp hF
  rw [e_Pa_takeSign, b_Pa_takeSign_0]
  simp only [x_isSign T c hc r, Option.toList, List.cons_append, List.nil_append, b_Pa_takeSign_3, b_Pa_takeSign_4, x_wrong0 hF r, b_Pa_takeSign_7, b_Pa_takeSign_12, xk_108 r.x, r.f, z, rtV, mem20, mem21, mem22, al20, al21, al33, al34, al36, al37, al38, aa33, aa34, aa36, aa37, aa38, true_and, and_true, Int32.reduceOfNat, forall_const, true_implies, implies_true, false_implies, not_true_eq_false, not_false_eq_true]
  by_cases q : tc ts i = 11000 + c <;> simp [q]
theorem x_takeWord (T : TOKS ts) (w : Nat) (hw : w < 23) (r : RX L xs ts rd i 0 cs h) : Cl (d + 2) q_Pa_takeWord [.ref 108, .ref (2 + w)] h (fun r' h' => r' = none ∧ if tc ts i = 10000 + w then PX L xs ts rd h (i + 1) 0 cs h' else PX L xs ts rd h i (1 + 16 * tp ts i) cs h') := by
  have hp := (T.2.2 i r.lt).2.2
  have f0 : hI h 108 4 = 0 := r.f
  rw [e_Pa_takeWord, b_Pa_takeWord_0]
  simp only [xk_108 r.x, r.w, wref_r, wref_eq hw, show 2 ≤ 2 + w by omega, show 2 + w ≤ 25 by omega, true_and]
  by_cases q : tc ts i = 10000 + w
  · simp only [q, b_Pa_takeWord_7, xk_108 r.x, f0, b_Pa_takeWord_10, if_true, mem20, mem21, mem22, al20, al21, al33, al34, al36, al37, al38, aa33, aa34, aa36, aa37, aa38, true_and, and_true, Int32.reduceOfNat, forall_const, true_implies, implies_true, false_implies, not_true_eq_false, not_false_eq_true]
    refine (x_next T r (sgn_lt T r.lt (by omega))).mono ?_
    rintro r' h' ⟨rfl, p⟩
    simp only [Option.toList, List.cons_append, List.nil_append, b_Pa_takeWord_12]
    exact ⟨rtV, True.intro, p⟩
  · simp only [q, if_false, b_Pa_takeWord_4, mem20, mem21, mem22, al20, al21, al33, al34, al36, al37, al38, aa33, aa34, aa36, aa37, aa38, true_and, and_true, Int32.reduceOfNat, forall_const, true_implies, implies_true, false_implies, not_true_eq_false, not_false_eq_true]
    refine (x_wrong T 1 (by decide) r).mono ?_
    rintro r' h' ⟨rfl, p⟩
    have z : ¬ nI (1 + 16 * tp ts i) = 0 := mt (nI0 (by omega)).mp (by omega)
    simp only [Option.toList, List.cons_append, List.nil_append, b_Pa_takeWord_7, xk_108 p.2.x, p.2.f, z, b_Pa_takeWord_12, mem20, mem21, mem22, al20, al21, al33, al34, al36, al37, al38, aa33, aa34, aa36, aa37, aa38, true_and, and_true, Int32.reduceOfNat, forall_const, true_implies, implies_true, false_implies, not_true_eq_false, not_false_eq_true]
    exact ⟨rtV, p⟩
theorem x_takeWord0 (w : Nat) (hw : w < 23) (hF : F ≠ 0) (r : RX L xs ts rd i F cs h) (Q : Option Value → AH → Prop) : Cl (d + 2) q_Pa_takeWord [.ref 108, .ref (2 + w)] h Q ↔ Q none h := by
  have z : ¬ nI F = 0 := mt (nI0 (by have := r.Fl; omega)).mp hF
  rw [e_Pa_takeWord, b_Pa_takeWord_0]
  simp only [xk_108 r.x, r.w, wref_r, wref_eq hw, show 2 ≤ 2 + w by omega, show 2 + w ≤ 25 by omega, b_Pa_takeWord_4, x_wrong0 hF r, Option.toList, List.cons_append, List.nil_append, b_Pa_takeWord_7, b_Pa_takeWord_12, r.f, z, rtV, mem20, mem21, mem22, al20, al21, al33, al34, al36, al37, al38, aa33, aa34, aa36, aa37, aa38, true_and, and_true, Int32.reduceOfNat, forall_const, true_implies, implies_true, false_implies, not_true_eq_false, not_false_eq_true]
  by_cases q : tc ts i = 10000 + w <;> simp [q]
/-- a number between a and b: what is left -/
def numF (ts : List (Nat × Nat)) (i a b : Nat) : Nat := if tc ts i < 10000 then (if a ≤ tc ts i ∧ tc ts i ≤ b then 0 else 4 + 16 * tp ts i) else 1 + 16 * tp ts i
theorem x_takeNumber (T : TOKS ts) (a b : Nat) (hb : b < 10000) (hab : a ≤ b) (r : RX L xs ts rd i 0 cs h) : Cl (d + 2) q_Pa_takeNumber [.ref 108, .int (nI a), .int (nI b)] h (fun r' h' => if numF ts i a b = 0 then r' = some (.int (nI (tc ts i))) ∧ PX L xs ts rd h (i + 1) 0 cs h' else r' = some (.int (nI a)) ∧ PX L xs ts rd h i (numF ts i a b) cs h') := by
  have hp := (T.2.2 i r.lt).2.2
  have ok := cdOk_lt (T.2.2 i r.lt).1
  have f0 : hI h 108 4 = 0 := r.f
  rw [e_Pa_takeNumber, b_Pa_takeNumber_0]
  simp only [xk_108 r.x, x_isNumber T r, Option.toList, List.cons_append, List.nil_append, b_Pa_takeNumber_5, r.cd, true_and]
  unfold numF
  by_cases q : tc ts i < 10000
  · have w1 : (nI a ≤ nI (tc ts i) ∧ nI (tc ts i) ≤ nI b) ↔ (a ≤ tc ts i ∧ tc ts i ≤ b) := by
      rw [nle (by omega) (by omega), nle (by omega) (by omega)]
    simp only [q, if_true, show ¬ (1 : Int32) = 0 by decide, b_Pa_takeNumber_10, c_within, Option.toList, List.cons_append, List.nil_append, b_Pa_takeNumber_14, bw0, w1, mem20, mem21, mem22, al20, al21, al33, al34, al36, al37, al38, aa33, aa34, aa36, aa37, aa38, true_and, and_true, Int32.reduceOfNat, forall_const, true_implies, implies_true, false_implies, not_true_eq_false, not_false_eq_true]
    by_cases q2 : a ≤ tc ts i ∧ tc ts i ≤ b
    · simp only [q2, and_self, if_true, b_Pa_takeNumber_18, xk_108 r.x, f0, b_Pa_takeNumber_23, mem20, mem21, mem22, al20, al21, al33, al34, al36, al37, al38, aa33, aa34, aa36, aa37, aa38, true_and, and_true, Int32.reduceOfNat, forall_const, true_implies, implies_true, false_implies, not_true_eq_false, not_false_eq_true]
      refine (x_next T r (sgn_lt T r.lt (by omega))).mono ?_
      rintro r' h' ⟨rfl, p⟩
      simp only [Option.toList, List.cons_append, List.nil_append, b_Pa_takeNumber_25]
      exact ⟨rtI _, True.intro, p⟩
    · simp only [q2, if_false, b_Pa_takeNumber_15, mem20, mem21, mem22, al20, al21, al33, al34, al36, al37, al38, aa33, aa34, aa36, aa37, aa38, true_and, and_true, Int32.reduceOfNat, forall_const, true_implies, implies_true, false_implies, not_true_eq_false, not_false_eq_true]
      refine (x_wrong T 4 (by decide) r).mono ?_
      rintro r' h' ⟨rfl, p⟩
      have z : ¬ nI (4 + 16 * tp ts i) = 0 := mt (nI0 (by omega)).mp (by omega)
      simp only [Option.toList, List.cons_append, List.nil_append, b_Pa_takeNumber_18, xk_108 p.2.x, p.2.f, z, b_Pa_takeNumber_21, show ¬ 4 + 16 * tp ts i = 0 by omega, if_false, mem20, mem21, mem22, al20, al21, al33, al34, al36, al37, al38, aa33, aa34, aa36, aa37, aa38, true_and, and_true, Int32.reduceOfNat, forall_const, true_implies, implies_true, false_implies, not_true_eq_false, not_false_eq_true]
      exact ⟨rtI _, p⟩
  · simp only [q, if_false, b_Pa_takeNumber_6, mem20, mem21, mem22, al20, al21, al33, al34, al36, al37, al38, aa33, aa34, aa36, aa37, aa38, true_and, and_true, Int32.reduceOfNat, forall_const, true_implies, implies_true, false_implies, not_true_eq_false, not_false_eq_true]
    refine (x_wrong T 1 (by decide) r).mono ?_
    rintro r' h' ⟨rfl, p⟩
    have z : ¬ nI (1 + 16 * tp ts i) = 0 := mt (nI0 (by omega)).mp (by omega)
    simp only [Option.toList, List.cons_append, List.nil_append, b_Pa_takeNumber_9, b_Pa_takeNumber_18, xk_108 p.2.x, p.2.f, z, b_Pa_takeNumber_21, show ¬ 1 + 16 * tp ts i = 0 by omega, if_false, mem20, mem21, mem22, al20, al21, al33, al34, al36, al37, al38, aa33, aa34, aa36, aa37, aa38, true_and, and_true, Int32.reduceOfNat, forall_const, true_implies, implies_true, false_implies, not_true_eq_false, not_false_eq_true]
    exact ⟨rtI _, p⟩
theorem x_takeNumber0 (T : TOKS ts) (a b : Nat) (hF : F ≠ 0) (r : RX L xs ts rd i F cs h) (Q : Option Value → AH → Prop) : Cl (d + 2) q_Pa_takeNumber [.ref 108, .int (nI a), .int (nI b)] h Q ↔ Q (some (.int (nI a))) h := by
  have z : ¬ nI F = 0 := mt (nI0 (by have := r.Fl; omega)).mp hF
  rw [e_Pa_takeNumber, b_Pa_takeNumber_0]
  simp only [xk_108 r.x, x_isNumber T r, Option.toList, List.cons_append, List.nil_append, b_Pa_takeNumber_5, b_Pa_takeNumber_6, b_Pa_takeNumber_9, b_Pa_takeNumber_10, b_Pa_takeNumber_14, b_Pa_takeNumber_15, c_within, x_wrong0 hF r, b_Pa_takeNumber_18, b_Pa_takeNumber_21, r.f, r.cd, z, rtI, mem20, mem21, mem22, al20, al21, al33, al34, al36, al37, al38, aa33, aa34, aa36, aa37, aa38, true_and, and_true, Int32.reduceOfNat, forall_const, true_implies, implies_true, false_implies, not_true_eq_false, not_false_eq_true]
  by_cases q : tc ts i < 10000
  · by_cases q2 : bw (nI (tc ts i)) (nI a) (nI b) = 0 <;> simp [q, q2]
  · simp [q]
theorem STP_app {f : Nat → Int32} : ∀ {a : List Nat} {s k : Nat}, STP f s a → f (s + a.length) = ccode k → STP f s (a ++ [k])
  | [], s, k, _, e => ⟨e, True.intro⟩
  | c :: a, s, k, q, e => ⟨q.1, STP_app q.2 (by rw [← e]; congr 1; simp; omega)⟩
theorem x_add (k : Nat) (hk : ccode k = ccode k) (r : RX L xs ts rd i F cs h) (T : TOKS ts) (hc : cs.length + 1 ≤ i) : Cl (d + 1) q_Pg_add [.ref 117, .int (ccode k)] h (fun r' h' => r' = none ∧ PX L xs ts rd h i F (cs ++ [k]) h') := by
  have rr := r
  obtain ⟨s, x, t, a3, a4, a5, a6, a7, a8, a9, a10, a11, a12, a13⟩ := r
  have T2 := T.2.1
  have z1 := n_nn (n := cs.length) (by omega)
  have z2 : ¬ (1000 : Int32) ≤ nI cs.length := mt (nle (a := 1000) (by decide) (by omega)).mp (by omega)
  have i1 : ixo (nI cs.length) 1000 = true := nix (by omega) (by decide)
  simp only [e_Pg_add, b_Pg_add_0, b_Pg_add_3, b_Pg_add_9, b_Pg_add_21, xk_117 x, xr_117_0 x, xk_121 x, xn_121 x, a9, z1, z2, i1, hK_sI, rI_sI (show 117 ≠ 121 by decide), cN (show cs.length < 2147483648 by omega), nI_1, rtV, mem20, mem21, mem22, al20, al21, al33, al34, al36, al37, al38, aa33, aa34, aa36, aa37, aa38, true_and, and_true, Int32.reduceOfNat, forall_const, true_implies, implies_true, false_implies, not_true_eq_false, not_false_eq_true]
  have kx : KX h (sI (sI h 121 cs.length (ccode k)) 117 1 (nI (cs.length + 1))) := ⟨(Fr.rfl'.sI (Or.inr (Or.inr rfl))).sI (Or.inr (Or.inl rfl)), by rw [hI_same, if_neg (by decide), rI_sI (by decide)]⟩
  have e : hI (sI (sI h 121 cs.length (ccode k)) 117 1 (nI (cs.length + 1))) 108 = hI h 108 := by rw [rI_sI (by decide), rI_sI (by decide)]
  obtain ⟨q1, q2, q3, q4, q5⟩ := rr.kx kx (by rw [e]) (by rw [e])
  refine ⟨kx, q1, q2, q3, q4, q5, by rw [e]; exact a5, by rw [e]; exact a6, by rw [e]; exact a7, a8, ?_, ?_, a11, a12, by simp; omega⟩
  · rw [hI_same, if_pos rfl]; simp
  · have : STP (hI (sI (sI h 121 cs.length (ccode k)) 117 1 (nI (cs.length + 1))) 121) 0 cs := STP_up (fun j h1 h2 => by rw [rI_sI (by decide), hI_same, if_neg (by omega)]) a10
    refine STP_app this ?_
    rw [Nat.zero_add, rI_sI (by decide), hI_same, if_pos rfl]
end PXS
