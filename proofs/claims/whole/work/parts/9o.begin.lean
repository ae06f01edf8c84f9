--deps: 9n.mquest
/-! THE PARSER BEGINS -/
section BGN
variable {L : Nat} {xs : Nat → Int32} {ts : List (Nat × Nat)} {rd : Int32} {d : Nat} {h : AH}
/-- the parser moved to token j -/
def nxH (ts : List (Nat × Nat)) (h : AH) (j : Nat) : AH := sR (sI (sI (sI h 108 5 (nI j)) 108 6 (nI (tc ts j))) 108 7 (nI (tp ts j))) 108 8 (wref (tc ts j))
theorem x_next0 (T : TOKS ts) (s : SLY L xs h) (x : XLY h) (t : TKX h ts ts.length) (j : Nat) (a5 : hI h 108 5 + 1 = nI j) (hi : j < ts.length) (Q : Option Value → AH → Prop) : Cl (d + 1) q_Pa_next [.ref 108] h Q ↔ Q none (nxH ts h j) := by
  have T2 := T.2.1
  have ok := cdOk_lt (T.2.2 j hi).1
  have z1 := n_nn (n := j) (by omega)
  have z2 : ¬ nI ts.length ≤ nI j := mt (nle (by omega) (by omega)).mp (by omega)
  have z3 : ¬ (1001 : Int32) ≤ nI j := mt (nle (a := 1001) (by decide) (by omega)).mp (by omega)
  have i1 : ixo (nI j) 1001 = true := nix (by omega) (by decide)
  have c1 := cN (n := j) (by omega)
  obtain ⟨s1, s2, s3, s4⟩ := s 26 (by omega)
  have k26 : hK h 26 = 41 := s1
  have n26 : hN h 26 = 24 := s2
  have r26 : ∀ j, hR h 26 j = 2 + j := fun j => by rw [s4]; rfl
  have al : ((20 : Nat) ≤ 41 ∧ (41 : Nat) ≠ 40 ∧ (41 : Nat) ≠ 42 ∧ (41 : Nat) ≤ 45 ∧ (41 : Nat) ≠ 43) ↔ True := by decide
  have aa : ((30 : Nat) ≤ 41 ∧ (41 : Nat) ≤ 41 ∧ (41 : Nat) ≠ 40) ↔ True := by decide
  have tk := t.2 j hi
  rw [e_Pa_next, b_Pa_next_0]
  simp only [xk_108 x, hK_sI, hI_same, if_true, a5, z1, b_Pa_next_9, xr_108_0 x, hR_sI, hN_sI, xk_109 x, rI_sI (show 109 ≠ 108 by decide), t.1, z2, b_Pa_next_15, xr_109_2 x, xk_111 x, xn_111 x, z3, b_Pa_next_22, xr_109_3 x, xk_112 x, xn_112 x, b_Pa_next_29, i1, c1, rI_sI (show 111 ≠ 108 by decide), rI_sI (show 112 ≠ 108 by decide), tk.1, tk.2, b_Pa_next_45, mem20, mem21, mem22, al20, al21, al33, al34, al36, al37, al38, aa33, aa34, aa36, aa37, aa38, true_and, and_true, Int32.reduceOfNat, forall_const, true_implies, implies_true, false_implies, not_true_eq_false, not_false_eq_true, show ¬ (5 : Nat) = 6 by decide, show ¬ (6 : Nat) = 7 by decide, if_false]
  unfold nxH
  generalize hw : tc ts j = w at ok ⊢
  by_cases q : w < 10000
  · have z4 : nI w - 10000 < 0 := by
      have e : (nI w - 10000).toInt = (w : Int) - 10000 := by
        have h1 := tI (n := w) (by omega)
        rw [Int32.toInt_sub, h1, show (10000 : Int32).toInt = 10000 from rfl]
        rw [Int.bmod_eq_of_le (by omega) (by omega)]
      rw [Int32.lt_iff_toInt_lt, e]
      show (w : Int) - 10000 < 0
      omega
    have ew : wref w = 25 := by unfold wref; rw [if_neg (by omega)]
    simp only [z4, b_Pa_next_61, b_Pa_next_62, hK_sI, xk_108 x, ew, rtV, mem20, mem21, mem22, al20, al21, al33, al34, al36, al37, al38, aa33, aa34, aa36, aa37, aa38, true_and, and_true, Int32.reduceOfNat, forall_const, true_implies, implies_true, false_implies, not_true_eq_false, not_false_eq_true]
  · have e4 : nI w - 10000 = nI (w - 10000) := nsub (b := 10000) (by omega)
    have z4 := n_nn (n := w - 10000) (by omega)
    simp only [e4, z4, b_Pa_next_53, hK_sI, hN_sI, k26, n26, al, mem20, mem21, mem22, al20, al21, al33, al34, al36, al37, al38, aa33, aa34, aa36, aa37, aa38, true_and, and_true, Int32.reduceOfNat, forall_const, true_implies, implies_true, false_implies, not_true_eq_false, not_false_eq_true]
    by_cases q2 : w < 10024
    · have z5 : ¬ (24 : Int32) ≤ nI (w - 10000) := mt (nle (a := 24) (by decide) (by omega)).mp (by omega)
      have i2 : ixo (nI (w - 10000)) 24 = true := nix (by omega) (by decide)
      have ew : wref w = 2 + (w - 10000) := by unfold wref; rw [if_pos (by omega)]; omega
      simp only [z5, b_Pa_next_57, hK_sI, hN_sI, hR_sI, k26, n26, aa, i2, cN (show w - 10000 < 2147483648 by omega), r26, b_Pa_next_62, xk_108 x, ew, rtV, mem20, mem21, mem22, al20, al21, al33, al34, al36, al37, al38, aa33, aa34, aa36, aa37, aa38, true_and, and_true, Int32.reduceOfNat, forall_const, true_implies, implies_true, false_implies, not_true_eq_false, not_false_eq_true]
    · have z5 : (24 : Int32) ≤ nI (w - 10000) := (nle (a := 24) (by decide) (by omega)).mpr (by omega)
      have ew : wref w = 25 := by unfold wref; rw [if_neg (by omega)]
      simp only [z5, b_Pa_next_61, b_Pa_next_62, hK_sI, xk_108 x, ew, rtV, mem20, mem21, mem22, al20, al21, al33, al34, al36, al37, al38, aa33, aa34, aa36, aa37, aa38, true_and, and_true, Int32.reduceOfNat, forall_const, true_implies, implies_true, false_implies, not_true_eq_false, not_false_eq_true]
theorem c_Pg_clear (x : XLY h) (Q : Option Value → AH → Prop) (fin : ∀ h', Fr (fun a => a = 117 ∨ a = 118 ∨ a = 119) nov h h' → hI h' 117 1 = 0 → hI h' 117 2 = 0 → (∀ j, j < 6 → hI h' 118 j = 0 ∧ hI h' 119 j = 0) → Q none h') : Cl (d + 2) q_Pg_clear [.ref 117] h Q := by
  rw [e_Pg_clear, b_Pg_clear_0]
  simp only [xk_117 x, hK_sI, hR_sI, xr_117_3 x, true_and]
  have fr0 : Fr (fun a => a = 117 ∨ a = 118 ∨ a = 119) nov h (sI (sI h 117 1 0) 117 2 0) := (Fr.rfl'.sI (Or.inl rfl)).sI (Or.inl rfl)
  have x0 := x.fr fr0
  refine c_Ar_fill 118 6 0 _ (xk_118 x0) (xn_118 x0) (by decide) _ ?_
  intro h1 fr1 g1
  have fr01 := fr0.tr (fr1.mo (fun a z => Or.inr (Or.inl z)) (fun a z => z))
  have x1 := x.fr fr01
  simp only [Option.toList, List.cons_append, List.nil_append, b_Pg_clear_10, xk_117 x1, xr_117_4 x1, true_and]
  refine c_Ar_fill 119 6 0 _ (xk_119 x1) (xn_119 x1) (by decide) _ ?_
  intro h2 fr2 g2
  simp only [Option.toList, List.cons_append, List.nil_append, b_Pg_clear_14]
  refine ⟨rtV, fin h2 (fr01.tr (fr2.mo (fun a z => Or.inr (Or.inr z)) (fun a z => z))) ?_ ?_ ?_⟩
  · rw [fr2.I (by unfold onl; decide), fr1.I (by unfold onl; decide), hI_same, if_neg (by decide), hI_same, if_pos rfl]
  · rw [fr2.I (by unfold onl; decide), fr1.I (by unfold onl; decide), hI_same, if_pos rfl]
  · intro j hj
    rw [fr2.I (a := 118) (by unfold onl; decide)]
    exact ⟨g1 j hj, g2 j hj⟩
def bgs : Nat → Prop := fun a => a = 108 ∨ a = 113 ∨ a = 117 ∨ a = 118 ∨ a = 119
theorem c_Pa_begin (T : TOKS ts) (s : SLY L xs h) (x : XLY h) (t : TKX h ts ts.length) (hrd : i01 rd = true) (Q : Option Value → AH → Prop) (fin : ∀ h', Fr bgs nov h h' → hI h' 113 3 = 0 → hI h' 117 2 = 0 → (∀ j, j < 6 → hI h' 118 j = 0 ∧ hI h' 119 j = 0) → RX L xs ts rd 0 0 [] h' → Q none h') : Cl (d + 3) q_Pa_begin [.ref 108, .int rd] h Q := by
  have T1 := T.1
  rw [e_Pa_begin, b_Pa_begin_0]
  simp only [xk_108 x, hK_sI, hR_sI, hrd, xr_108_1 x, xr_108_2 x, xk_113 x, true_and]
  have fr0 : Fr bgs nov h (sI (sI (sI h 108 4 0) 108 3 rd) 113 3 0) := ((Fr.rfl'.sI (Or.inl rfl)).sI (Or.inl rfl)).sI (Or.inr (Or.inl rfl))
  refine c_Pg_clear (x.fr fr0) _ ?_
  intro h1 fr1 g1 g2 g3
  have fr01 : Fr bgs nov h h1 := fr0.tr (fr1.mo (fun a z => by unfold bgs; omega) (fun a z => z))
  have x1 := x.fr fr01
  simp only [Option.toList, List.cons_append, List.nil_append, b_Pa_begin_13, xk_108 x1, true_and]
  have fr2 : Fr bgs nov h (sI h1 108 5 (-1)) := fr01.sI (Or.inl rfl)
  have s2 := s.fr fr2 (fun a z => by unfold bgs at z; omega)
  have t2 : TKX (sI h1 108 5 (-1)) ts ts.length := by
    refine ⟨?_, fun j hj => ?_⟩
    · rw [fr2.I (by unfold bgs; decide)]; exact t.1
    · rw [fr2.I (a := 111) (by unfold bgs; decide), fr2.I (a := 112) (by unfold bgs; decide)]; exact t.2 j hj
  rw [x_next0 T s2 (x.fr fr2) t2 0 (by rw [hI_same, if_pos rfl]; decide) T1]
  simp only [Option.toList, List.cons_append, List.nil_append, b_Pa_begin_18]
  have e108 : ∀ j, j ≠ 5 → j ≠ 6 → j ≠ 7 → hI (nxH ts (sI h1 108 5 (-1)) 0) 108 j = hI (sI (sI h 108 4 0) 108 3 rd) 108 j := by
    intro j h5 h6 h7
    unfold nxH
    rw [hI_sR, hI_same, if_neg h7, hI_same, if_neg h6, hI_same, if_neg h5, hI_same, if_neg h5, fr1.I (by decide), rI_sI (by decide)]
  have eo : ∀ a, a ≠ 108 → hI (nxH ts (sI h1 108 5 (-1)) 0) a = hI h1 a := by
    intro a ha
    unfold nxH
    rw [hI_sR, rI_sI ha, rI_sI ha, rI_sI ha, rI_sI ha]
  have fr3 : Fr bgs nov h (nxH ts (sI h1 108 5 (-1)) 0) := (((fr2.sI (Or.inl rfl)).sI (Or.inl rfl)).sI (Or.inl rfl)).sW
  refine ⟨rtV, fin _ fr3 ?_ ?_ ?_ ?_⟩
  · rw [eo 113 (by decide), fr1.I (by decide), hI_same, if_pos rfl]
  · rw [eo 117 (by decide)]; exact g2
  · intro j hj
    rw [eo 118 (by decide), eo 119 (by decide)]; exact g3 j hj
  · refine ⟨s.fr fr3 (fun a z => by unfold bgs at z; omega), x.fr fr3, ⟨?_, fun j hj => ?_⟩, ?_, ?_, ?_, ?_, ?_, ?_, ?_, True.intro, T1, by decide, Nat.le_refl _⟩
    · rw [fr3.I (by unfold bgs; decide)]; exact t.1
    · rw [fr3.I (a := 111) (by unfold bgs; decide), fr3.I (a := 112) (by unfold bgs; decide)]; exact t.2 j hj
    · rw [e108 3 (by decide) (by decide) (by decide), hI_same, if_pos rfl]
    · rw [e108 4 (by decide) (by decide) (by decide), hI_same, if_neg (by decide), hI_same, if_pos rfl]; rfl
    · unfold nxH
      rw [hI_sR, hI_same, if_neg (by decide), hI_same, if_neg (by decide), hI_same, if_pos rfl]
    · unfold nxH
      rw [hI_sR, hI_same, if_neg (by decide), hI_same, if_pos rfl]
    · unfold nxH
      rw [hI_sR, hI_same, if_pos rfl]
    · unfold nxH
      rw [hR_sR, if_pos rfl, if_pos rfl]
    · rw [eo 117 (by decide)]; exact g1
end BGN
