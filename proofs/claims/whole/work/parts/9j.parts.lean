--deps: 9i.part
/-! PARTS -/
def STB (rd : Int32) (t : Nat) : Prop := t < 10000 ∨ t = 11040 ∨ t = 10015 ∨ fct rd t ≠ none
section PARTS
variable {L : Nat} {xs : Nat → Int32} {ts : List (Nat × Nat)} {rd : Int32} {π : Nat → Nat} {nf dep i d : Nat} {cs : List Nat} {h : AH}
theorem STB_ne {t : Nat} (q : STB rd t) : t ≠ 12000 := by
  rcases q with q | q | q | q
  · omega
  · omega
  · omega
  · intro z
    apply q
    rw [z]
    unfold fct fcB fcR
    split <;> rfl
theorem fct_n (hrd : rd = 0 ∨ rd = 1) (t x : Nat) (e : fct rd t = some x) : x < 20 ∧ 10000 ≤ t ∧ t < 10015 := by
  unfold fct at e
  split at e
  · have := fcB_r t x e; omega
  · have := fcR_r t x e; omega
theorem x_head (T : TOKS ts) (hrd : rd = 0 ∨ rd = 1) (hdp : dep ≤ 5) (r : RX L xs ts rd i 0 cs h) (Q : Option Value → AH → Prop)
    (bad : ¬ STB rd (tc ts i) → ∀ h', PX L xs ts rd h i (1 + 16 * tp ts i) cs h' → Q none h')
    (deep : STB rd (tc ts i) → dep = 5 → ∀ h', PX L xs ts rd h i (5 + 16 * tp ts i) cs h' → Q none h')
    (ok : STB rd (tc ts i) → dep < 5 → ∀ h', PX L xs ts rd h (i + 1) 0 cs h' → Wp (d + 5) P_Pa_takePart 51 [.ref 108, .int (nI dep), .int (oI id (fct rd (tc ts i))), .int (nI (tc ts i)), .int (if tc ts i < 10000 then 1 else 0), .int (if tc ts i = 11040 then 1 else 0)] [] h' (fun r h' => rtk none r = true ∧ Q r h')) :
    Cl (d + 5 + 1) q_Pa_takePart [.ref 108, .int (nI dep)] h Q := by
  have hp := (T.2.2 i r.lt).2.2
  obtain ⟨f1, f2, f3⟩ := fx_at r.s (tc ts i)
  have x := r.x
  have fm : oI id (fct rd (tc ts i)) = -1 ↔ fct rd (tc ts i) = none := (oI_m (fun x e => by have := (fct_n hrd _ _ e).1; exact (by omega : x < 100))).1
  have s40 : ∀ Q, Cl (d + 5) q_Pa_isSign [.ref 108, .int 40] h Q ↔ Q (some (.int (if tc ts i = 11040 then 1 else 0))) h := fun Q => x_isSign T 40 (by decide) r Q
  have isn := fun (Q : Option Value → AH → Prop) => x_isNumber (d := d + 4) T r Q
  have w15 : wref (tc ts i) = 17 ↔ tc ts i = 10015 := wref_eq (r := 15) (by decide)
  have wr := wref_r (tc ts i)
  have f0 : hI h 108 4 = 0 := r.f
  have d5 : nI dep < 5 ↔ dep < 5 := nlt (b := 5) (by omega) (by decide)
  -- a good one
  have good : STB rd (tc ts i) → Wp (d + 5) P_Pa_takePart 29 [.ref 108, .int (nI dep), .int (oI id (fct rd (tc ts i))), .null, .null, .null] [] h (fun r h' => rtk none r = true ∧ Q r h') := by
    intro st
    rw [b_Pa_takePart_29, d5]
    refine ⟨fun z => ?_, fun z => ?_⟩
    · simp only [b_Pa_takePart_35, xk_108 x, f0, b_Pa_takePart_39, isn, r.cd, Option.toList, List.cons_append, List.nil_append, b_Pa_takePart_44, s40, b_Pa_takePart_48, mem20, mem21, mem22, al20, al21, al33, al34, al36, al37, al38, aa33, aa34, aa36, aa37, aa38, true_and, and_true, Int32.reduceOfNat, forall_const, true_implies, implies_true, false_implies, not_true_eq_false, not_false_eq_true]
      refine (x_next T r (sgn_lt T r.lt (STB_ne st))).mono ?_
      rintro r' h' ⟨rfl, p⟩
      simp only [Option.toList, List.cons_append, List.nil_append]
      exact ok st z h' p
    · rw [b_Pa_takePart_32]
      refine (x_wrong T 5 (by decide) r).mono ?_
      rintro r' h' ⟨rfl, p⟩
      have z5 : ¬ nI (5 + 16 * tp ts i) = 0 := mt (nI0 (by omega)).mp (by omega)
      simp only [Option.toList, List.cons_append, List.nil_append, b_Pa_takePart_35, xk_108 p.2.x, p.2.f, z5, b_Pa_takePart_38, mem20, mem21, mem22, al20, al21, al33, al34, al36, al37, al38, aa33, aa34, aa36, aa37, aa38, true_and, and_true, Int32.reduceOfNat, forall_const, true_implies, implies_true, false_implies, not_true_eq_false, not_false_eq_true]
      exact ⟨rtV, deep st (by omega) h' p⟩
  -- from the fact on
  have from10 : Wp (d + 5) P_Pa_takePart 10 [.ref 108, .int (nI dep), .null, .null, .null, .null] [.int (oI id (fct rd (tc ts i)))] h (fun r h' => rtk none r = true ∧ Q r h') := by
    rw [b_Pa_takePart_10, isn]
    simp only [Option.toList, List.cons_append, List.nil_append, b_Pa_takePart_13]
    by_cases q1 : tc ts i < 10000
    · simp only [q1, if_true, show ¬ (1 : Int32) = 0 by decide, mem20, mem21, mem22, al20, al21, al33, al34, al36, al37, al38, aa33, aa34, aa36, aa37, aa38, true_and, and_true, Int32.reduceOfNat, forall_const, true_implies, implies_true, false_implies, not_true_eq_false, not_false_eq_true]
      exact good (Or.inl q1)
    · simp only [q1, if_false, b_Pa_takePart_14, s40, Option.toList, List.cons_append, List.nil_append, b_Pa_takePart_17, mem20, mem21, mem22, al20, al21, al33, al34, al36, al37, al38, aa33, aa34, aa36, aa37, aa38, true_and, and_true, Int32.reduceOfNat, forall_const, true_implies, implies_true, false_implies, not_true_eq_false, not_false_eq_true]
      by_cases q2 : tc ts i = 11040
      · simp only [if_pos q2, show ¬ (1 : Int32) = 0 by decide, mem20, mem21, mem22, al20, al21, al33, al34, al36, al37, al38, aa33, aa34, aa36, aa37, aa38, true_and, and_true, Int32.reduceOfNat, forall_const, true_implies, implies_true, false_implies, not_true_eq_false, not_false_eq_true]
        exact good (Or.inr (Or.inl q2))
      · simp only [if_neg q2, b_Pa_takePart_18, xk_108 x, r.w, w15, wr.1, wr.2, show (2 : Nat) ≤ 17 by decide, show (17 : Nat) ≤ 25 by decide, mem20, mem21, mem22, al20, al21, al33, al34, al36, al37, al38, aa33, aa34, aa36, aa37, aa38, true_and, and_true, Int32.reduceOfNat, forall_const, true_implies, implies_true, false_implies, not_true_eq_false, not_false_eq_true]
        refine ⟨fun q3 => good (Or.inr (Or.inr (Or.inl q3))), fun q3 => ?_⟩
        rw [b_Pa_takePart_22]
        refine ⟨fun q4 => good (Or.inr (Or.inr (Or.inr (fun z => q4 (fm.mpr z))))), fun q4 => ?_⟩
        have q4 := fm.mp (Classical.not_not.mp q4)
        rw [b_Pa_takePart_25]
        refine (x_wrong T 1 (by decide) r).mono ?_
        rintro r' h' ⟨rfl, p⟩
        have z5 : ¬ nI (1 + 16 * tp ts i) = 0 := mt (nI0 (by omega)).mp (by omega)
        simp only [Option.toList, List.cons_append, List.nil_append, b_Pa_takePart_28, b_Pa_takePart_35, xk_108 p.2.x, p.2.f, z5, b_Pa_takePart_38, mem20, mem21, mem22, al20, al21, al33, al34, al36, al37, al38, aa33, aa34, aa36, aa37, aa38, true_and, and_true, Int32.reduceOfNat, forall_const, true_implies, implies_true, false_implies, not_true_eq_false, not_false_eq_true]
        refine ⟨rtV, bad (fun z => ?_) h' p⟩
        rcases z with z | z | z | z
        · exact q1 z
        · exact q2 z
        · exact q3 z
        · exact z q4
  rw [e_Pa_takePart, b_Pa_takePart_0]
  simp only [xk_108 x, r.rdr, true_and]
  rcases hrd with rfl | rfl
  · simp only [b_Pa_takePart_7, xk_108 x, r.w, f1, f2, mem20, mem21, mem22, al20, al21, al33, al34, al36, al37, al38, aa33, aa34, aa36, aa37, aa38, true_and, and_true, Int32.reduceOfNat, forall_const, true_implies, implies_true, false_implies, not_true_eq_false, not_false_eq_true]
    exact from10
  · simp only [show ¬ (1 : Int32) = 0 by decide, b_Pa_takePart_3, xk_108 x, r.w, f1, f3, mem20, mem21, mem22, al20, al21, al33, al34, al36, al37, al38, aa33, aa34, aa36, aa37, aa38, true_and, and_true, Int32.reduceOfNat, forall_const, true_implies, implies_true, false_implies, not_true_eq_false, not_false_eq_true]
    exact from10
theorem m_head (T : TOKS ts) (hrd : (rd = 0 ∧ π = id) ∨ (rd = 1 ∧ π = pr)) (hdp : dep ≤ 5) (r : RM ts rd π i 0 cs h) (Q : Option Value → AH → Prop)
    (bad : ¬ STB rd (tc ts i) → ∀ h', PM ts rd π h i (1 + 16 * tp ts i) cs h' → Q none h')
    (deep : STB rd (tc ts i) → dep = 5 → ∀ h', PM ts rd π h i (5 + 16 * tp ts i) cs h' → Q none h')
    (ok : STB rd (tc ts i) → dep < 5 → Wp (d + 5) P_M_takePart 44 [.ref 342, .int (nI dep), .int (oI π (fct rd (tc ts i))), .int (if tc ts i < 10000 then 1 else 0)] [] h (fun r h' => rtk none r = true ∧ Q r h')) :
    Cl (d + 5 + 1) q_M_takePart [.ref 342, .int (nI dep)] h Q := by
  have hp := (T.2.2 i r.lt).2.2
  have hl := T.2.1
  have lt := r.lt
  have m := r.m
  have hrd' : rd = 0 ∨ rd = 1 := by
    rcases hrd with z | z
    · exact Or.inl z.1
    · exact Or.inr z.1
  have fm : 0 ≤ oI π (fct rd (tc ts i)) ↔ ¬ fct rd (tc ts i) = none := (oI_m (fun x e => by
    have := (fct_n hrd' _ _ e).1
    rcases hrd with z | z
    · rw [z.2]; exact (by omega : x < 100)
    · rw [z.2]; have := pr_lt this; omega)).2
  have s40 : ∀ Q, Cl (d + 5) q_M_isSign [.ref 342, .int 40] h Q ↔ Q (some (.int (if 0 = 0 ∧ tc ts i = 11040 then 1 else 0))) h := fun Q => m_isSign T 40 (by decide) (by decide) r Q
  have s7 : ∀ Q, Cl (d + 5) q_M_isWord [.ref 342, .int 7] h Q ↔ Q (some (.int (if 0 = 0 ∧ tc ts i = 10015 then 1 else 0))) h := fun Q => m_isWord T 7 (by decide) r Q
  have i1 : ixo (nI i) 1002 = true := nix (by omega) (by decide)
  have sn := srt_num (T.2.2 i r.lt).1 r.tv
  have f0 : hI h 342 8 = 0 := r.f
  have d5 : nI dep = 5 ↔ dep = 5 := neq (b := 5) (by omega) (by decide)
  have good : STB rd (tc ts i) → Wp (d + 5) P_M_takePart 34 [.ref 342, .int (nI dep), .int (oI π (fct rd (tc ts i))), .int (if tc ts i < 10000 then 1 else 0)] [] h (fun r h' => rtk none r = true ∧ Q r h') := by
    intro st
    rw [b_M_takePart_34, d5]
    refine ⟨fun z => ?_, fun z => ?_⟩
    · simp only [b_M_takePart_40, mo m, f0, Int32.le_refl, mem20, mem21, mem22, al20, al21, al33, al34, al36, al37, al38, aa33, aa34, aa36, aa37, aa38, true_and, and_true, Int32.reduceOfNat, forall_const, true_implies, implies_true, false_implies, not_true_eq_false, not_false_eq_true]
      exact ok st (by omega)
    · rw [b_M_takePart_37]
      refine (m_wrong T 5 (by decide) r).mono ?_
      rintro r' h' ⟨rfl, p⟩
      have z5 : ¬ nI (5 + 16 * tp ts i) ≤ 0 := mt (nI_le0 (by omega)).mp (by omega)
      simp only [Option.toList, List.cons_append, List.nil_append, b_M_takePart_40, mo p.2.m, p.2.f, z5, b_M_takePart_43, mem20, mem21, mem22, al20, al21, al33, al34, al36, al37, al38, aa33, aa34, aa36, aa37, aa38, true_and, and_true, Int32.reduceOfNat, forall_const, true_implies, implies_true, false_implies, not_true_eq_false, not_false_eq_true]
      exact ⟨rtV, deep st (Classical.not_not.mp z) h' p⟩
  have from17 : Wp (d + 5) P_M_takePart 17 [.ref 342, .int (nI dep), .int (oI π (fct rd (tc ts i))), .null] [.int (if tc ts i < 10000 then 1 else 0)] h (fun r h' => rtk none r = true ∧ Q r h') := by
    rw [b_M_takePart_17, fm]
    refine ⟨fun q4 => good (Or.inr (Or.inr (Or.inr q4))), fun q4 => ?_⟩
    have q4 := Classical.not_not.mp q4
    rw [b_M_takePart_20]
    refine ⟨fun q1 => good (Or.inl ?_), fun q1 => ?_⟩
    · by_cases z : tc ts i < 10000
      · exact z
      · rw [if_neg z] at q1; exact absurd rfl q1
    have q1 : ¬ tc ts i < 10000 := by
      intro z
      rw [if_pos z] at q1
      exact q1 (by decide)
    rw [b_M_takePart_22, s40]
    simp only [Option.toList, List.cons_append, List.nil_append, b_M_takePart_25]
    by_cases q2 : tc ts i = 11040
    · have st := good (Or.inr (Or.inl q2))
      rw [if_pos ⟨True.intro, q2⟩]
      simp only [show ¬ (1 : Int32) = 0 by decide, mem20, mem21, mem22, al20, al21, al33, al34, al36, al37, al38, aa33, aa34, aa36, aa37, aa38, true_and, and_true, Int32.reduceOfNat, forall_const, true_implies, implies_true, false_implies, not_true_eq_false, not_false_eq_true]
      exact st
    · rw [if_neg (fun z => q2 z.2)]
      simp only [b_M_takePart_26, s7, Option.toList, List.cons_append, List.nil_append, b_M_takePart_29, mem20, mem21, mem22, al20, al21, al33, al34, al36, al37, al38, aa33, aa34, aa36, aa37, aa38, true_and, and_true, Int32.reduceOfNat, forall_const, true_implies, implies_true, false_implies, not_true_eq_false, not_false_eq_true]
      by_cases q3 : tc ts i = 10015
      · have st := good (Or.inr (Or.inr (Or.inl q3)))
        rw [if_pos q3]
        simp only [show ¬ (1 : Int32) = 0 by decide, mem20, mem21, mem22, al20, al21, al33, al34, al36, al37, al38, aa33, aa34, aa36, aa37, aa38, true_and, and_true, Int32.reduceOfNat, forall_const, true_implies, implies_true, false_implies, not_true_eq_false, not_false_eq_true]
        exact st
      · rw [if_neg q3]
        simp only [b_M_takePart_30, mem20, mem21, mem22, al20, al21, al33, al34, al36, al37, al38, aa33, aa34, aa36, aa37, aa38, true_and, and_true, Int32.reduceOfNat, forall_const, true_implies, implies_true, false_implies, not_true_eq_false, not_false_eq_true]
        refine (m_wrong T 1 (by decide) r).mono ?_
        rintro r' h' ⟨rfl, p⟩
        have z5 : ¬ nI (1 + 16 * tp ts i) ≤ 0 := mt (nI_le0 (by omega)).mp (by omega)
        simp only [Option.toList, List.cons_append, List.nil_append, b_M_takePart_33, b_M_takePart_40, mo p.2.m, p.2.f, z5, b_M_takePart_43, mem20, mem21, mem22, al20, al21, al33, al34, al36, al37, al38, aa33, aa34, aa36, aa37, aa38, true_and, and_true, Int32.reduceOfNat, forall_const, true_implies, implies_true, false_implies, not_true_eq_false, not_false_eq_true]
        refine ⟨rtV, bad (fun z => ?_) h' p⟩
        rcases z with z | z | z | z
        · exact q1 z
        · exact q2 z
        · exact q3 z
        · exact z q4
  rw [e_M_takePart, b_M_takePart_0]
  simp only [mo m, f0, Int32.le_refl, b_M_takePart_4, m_factHere T hrd r, Option.toList, List.cons_append, List.nil_append, b_M_takePart_6, mr_4 m, mk_344 m, mn_344 m, r.at, i1, cN (show i < 2147483648 by omega), sn, b_M_takePart_14, b_M_takePart_16, mem20, mem21, mem22, al20, al21, al33, al34, al36, al37, al38, aa33, aa34, aa36, aa37, aa38, true_and, and_true, Int32.reduceOfNat, forall_const, true_implies, implies_true, false_implies, not_true_eq_false, not_false_eq_true]
  by_cases q : tc ts i < 10000
  · simp only [q, if_true, mem20, mem21, mem22, al20, al21, al33, al34, al36, al37, al38, aa33, aa34, aa36, aa37, aa38, true_and, and_true, Int32.reduceOfNat, forall_const, true_implies, implies_true, false_implies, not_true_eq_false, not_false_eq_true] at from17 ⊢
    exact from17
  · simp only [q, if_false, mem20, mem21, mem22, al20, al21, al33, al34, al36, al37, al38, aa33, aa34, aa36, aa37, aa38, true_and, and_true, Int32.reduceOfNat, forall_const, true_implies, implies_true, false_implies, not_true_eq_false, not_false_eq_true] at from17 ⊢
    exact from17
/-- a fact, with its line if it has one: what comes of it -/
def fF (ts : List (Nat × Nat)) (rd : Int32) (x i : Nat) : Nat × Nat × Nat := if rd = 1 ∧ x < 18 then (if numF ts i 0 2 = 0 then (i + 1, 0, 10000 + x + tc ts i) else (i, numF ts i 0 2, 10000 + x)) else (i, 0, 10000 + x)
theorem x_line (T : TOKS ts) (hrd : rd = 0 ∨ rd = 1) (x : Nat) (hx : x < 20) (r : RX L xs ts rd i 0 cs h) (hc : cs.length + 1 ≤ i) : Cl (d + 3) q_Pa_takeLineOfFact [.ref 108, .int (nI x)] h (fun r' h' => r' = none ∧ PX L xs ts rd h (fF ts rd x i).1 (fF ts rd x i).2.1 (cs ++ [(fF ts rd x i).2.2]) h') := by
  rw [e_Pa_takeLineOfFact, b_Pa_takeLineOfFact_0]
  simp only [xk_108 r.x, r.rdr, true_and]
  have plain : Wp (d + 2) P_Pa_takeLineOfFact 12 [.ref 108, .int (nI x), .null] [.int 0] h (fun r' h' => rtk none r' = true ∧ r' = none ∧ PX L xs ts rd h i 0 (cs ++ [10000 + x]) h') := by
    rw [b_Pa_takeLineOfFact_12]
    have e : (10000 : Int32) + nI x + 0 = ccode (10000 + x) := by
      rw [cc_lt (by omega)]
      show nI 10000 + nI x + nI 0 = _
      rw [nadd, nadd, Nat.add_zero]
    simp only [xk_108 r.x, xr_108_2 r.x, e, true_and]
    refine (x_add (10000 + x) rfl r T hc).mono ?_
    rintro r' h' ⟨rfl, p⟩
    simp only [Option.toList, List.cons_append, List.nil_append, b_Pa_takeLineOfFact_21]
    exact ⟨rtV, True.intro, p⟩
  have z18 : 18 ≤ nI x ↔ 18 ≤ x := nle (a := 18) (by decide) (by omega)
  unfold fF
  rcases hrd with rfl | rfl
  · simp only [b_Pa_takeLineOfFact_11, show ¬ (0 : Int32) = 1 by decide, false_and, if_false, mem20, mem21, mem22, al20, al21, al33, al34, al36, al37, al38, aa33, aa34, aa36, aa37, aa38, true_and, and_true, Int32.reduceOfNat, forall_const, true_implies, implies_true, false_implies, not_true_eq_false, not_false_eq_true]
    exact plain
  · simp only [show ¬ (1 : Int32) = 0 by decide, b_Pa_takeLineOfFact_3, z18, mem20, mem21, mem22, al20, al21, al33, al34, al36, al37, al38, aa33, aa34, aa36, aa37, aa38, true_and, and_true, Int32.reduceOfNat, forall_const, true_implies, implies_true, false_implies, not_true_eq_false, not_false_eq_true]
    by_cases q : x < 18
    · simp only [show ¬ 18 ≤ x by omega, q, if_true, b_Pa_takeLineOfFact_6, mem20, mem21, mem22, al20, al21, al33, al34, al36, al37, al38, aa33, aa34, aa36, aa37, aa38, true_and, and_true, Int32.reduceOfNat, forall_const, true_implies, implies_true, false_implies, not_true_eq_false, not_false_eq_true]
      refine (x_takeNumber (d := d) T 0 2 (by decide) (by decide) r).mono ?_
      intro r' h' p
      by_cases q0 : numF ts i 0 2 = 0
      · rw [if_pos q0] at p
        obtain ⟨rfl, p⟩ := p
        have hlt : tc ts i < 10000 := by
          by_cases z : tc ts i < 10000
          · exact z
          · unfold numF at q0
            rw [if_neg z] at q0
            omega
        have e : (10000 : Int32) + nI x + nI (tc ts i) = ccode (10000 + x + tc ts i) := by
          have : tc ts i ≤ 2 := by
            unfold numF at q0
            rw [if_pos hlt] at q0
            by_cases z : 0 ≤ tc ts i ∧ tc ts i ≤ 2
            · exact z.2
            · rw [if_neg z] at q0; omega
          rw [cc_lt (by omega)]
          show nI 10000 + nI x + nI (tc ts i) = _
          rw [nadd, nadd]
        simp only [Option.toList, List.cons_append, List.nil_append, b_Pa_takeLineOfFact_10, b_Pa_takeLineOfFact_12, xk_108 p.2.x, xr_108_2 p.2.x, e, q0, if_true, true_and]
        refine (x_add (10000 + x + tc ts i) rfl p.2 T (by omega)).mono ?_
        rintro r' h2 ⟨rfl, p2⟩
        simp only [Option.toList, List.cons_append, List.nil_append, b_Pa_takeLineOfFact_21]
        exact ⟨rtV, True.intro, p2.pre p.1⟩
      · rw [if_neg q0] at p
        obtain ⟨rfl, p⟩ := p
        have e : (10000 : Int32) + nI x + nI 0 = ccode (10000 + x) := by
          rw [cc_lt (by omega)]
          show nI 10000 + nI x + nI 0 = _
          rw [nadd, nadd, Nat.add_zero]
        simp only [Option.toList, List.cons_append, List.nil_append, b_Pa_takeLineOfFact_10, b_Pa_takeLineOfFact_12, xk_108 p.2.x, xr_108_2 p.2.x, e, q0, if_false, true_and]
        refine (x_add (10000 + x) rfl p.2 T hc).mono ?_
        rintro r' h2 ⟨rfl, p2⟩
        simp only [Option.toList, List.cons_append, List.nil_append, b_Pa_takeLineOfFact_21]
        exact ⟨rtV, True.intro, p2.pre p.1⟩
    · simp only [show 18 ≤ x by omega, q, if_false, b_Pa_takeLineOfFact_11, and_false, mem20, mem21, mem22, al20, al21, al33, al34, al36, al37, al38, aa33, aa34, aa36, aa37, aa38, true_and, and_true, Int32.reduceOfNat, forall_const, true_implies, implies_true, false_implies, not_true_eq_false, not_false_eq_true]
      exact plain
theorem prg_18 {x y : Nat} (hx : x < 18) (hy : x + y < 18) : nI (pr x) + nI y = nI (pr (x + y)) := by
  unfold pr
  rw [if_pos hx, if_pos hy, nadd]
  congr 1
  omega
theorem m_line (T : TOKS ts) (hrd : (rd = 0 ∧ π = id) ∨ (rd = 1 ∧ π = pr)) (x : Nat) (hx : x < 20) (hx2 : x < 18 → x + 2 < 18) (v3 : Int32) (r : RM ts rd π i 0 cs h) (hi : i + 1 < ts.length) (Q : Option Value → AH → Prop) (fin : ∀ h', PM ts rd π h (fF ts rd x (i + 1)).1 (fF ts rd x (i + 1)).2.1 (cs ++ [(fF ts rd x (i + 1)).2.2]) h' → Q none h') : Wp (d + 2) P_M_takePart 89 [.ref 342, .int (nI dep), .int (nI (π x)), .int v3] [] h Q := by
  have m := r.m
  have g := r.mv (j := 7) (v := nI (i + 1)) (i' := i + 1) (F' := 0) (Or.inl ⟨rfl, rfl, rfl⟩) hi (by decide) (by have := r.cl; omega)
  have cl := r.cl
  rw [b_M_takePart_89]
  simp only [mo m, r.at, nI_1, hK_sI, hI_same, show ¬ (21 : Nat) = 7 by decide, if_false, r.rdr, true_and]
  generalize sI h 342 7 (nI (i + 1)) = h1 at g
  have plain : (fF ts rd x (i + 1)) = (i + 1, 0, 10000 + x) → Wp (d + 2) P_M_takePart 109 [.ref 342, .int (nI dep), .int (nI (π x)), .int v3] [.int (nI (π x)), .int 2, .ref 342] h1 Q := by
    intro e
    rw [e] at fin
    simp only [b_M_takePart_109, b_M_takePart_110]
    have e1 : nI (π x) + 0 = nI (π x) := nadd _ 0
    have e2 : (2 : Int32) = rop' (10000 + x) := by
      unfold rop' rop
      rw [if_neg (by omega), if_neg (by omega), if_pos (by omega)]
    rw [e1, e2]
    refine (m_emit T (10000 + x) (nI (π x)) (fun _ => ?_) g.2 (by omega)).mono ?_
    · unfold rone
      rw [if_neg (by omega), Nat.add_sub_cancel_left]
    rintro r' h' ⟨rfl, p⟩
    simp only [Option.toList, List.cons_append, List.nil_append, b_M_takePart_112]
    exact fin h' (p.pre g.1)
  rcases hrd with ⟨rfl, rfl⟩ | ⟨rfl, rfl⟩
  · simp only [mem20, mem21, mem22, al20, al21, al33, al34, al36, al37, al38, aa33, aa34, aa36, aa37, aa38, true_and, and_true, Int32.reduceOfNat, forall_const, true_implies, implies_true, false_implies, not_true_eq_false, not_false_eq_true]
    exact plain (by unfold fF; rw [if_neg (fun z => absurd z.1 (by decide))])
  · simp only [show ¬ (1 : Int32) = 0 by decide, b_M_takePart_101, mem20, mem21, mem22, al20, al21, al33, al34, al36, al37, al38, aa33, aa34, aa36, aa37, aa38, true_and, and_true, Int32.reduceOfNat, forall_const, true_implies, implies_true, false_implies, not_true_eq_false, not_false_eq_true]
    have pz : nI (pr x) ≤ 1 ↔ ¬ x < 18 := by
      rw [show (1 : Int32) = nI 1 from rfl, nle (by have := pr_lt hx; omega) (by decide)]
      unfold pr
      split <;> omega
    simp only [pz]
    refine ⟨fun q => plain (by unfold fF; rw [if_neg (fun z => q z.2)]), fun q => ?_⟩
    have q := Classical.not_not.mp q
    have e0 : fF ts 1 x (i + 1) = if numF ts (i + 1) 0 2 = 0 then (i + 1 + 1, 0, 10000 + x + tc ts (i + 1)) else (i + 1, numF ts (i + 1) 0 2, 10000 + x) := by
      unfold fF
      rw [if_pos ⟨rfl, q⟩]
    rw [e0] at fin
    rw [b_M_takePart_104]
    refine (m_takeNumber (d := d) T 0 2 (by decide) (by decide) g.2).mono ?_
    intro r' h' p
    by_cases q0 : numF ts (i + 1) 0 2 = 0
    · rw [if_pos q0] at p fin
      obtain ⟨rfl, p⟩ := p
      have hle : tc ts (i + 1) ≤ 2 := by
        unfold numF at q0
        by_cases z : tc ts (i + 1) < 10000
        · rw [if_pos z] at q0
          by_cases z2 : 0 ≤ tc ts (i + 1) ∧ tc ts (i + 1) ≤ 2
          · exact z2.2
          · rw [if_neg z2] at q0; omega
        · rw [if_neg z] at q0; omega
      have e1 : nI (pr x) + nI (tc ts (i + 1)) = nI (pr (x + tc ts (i + 1))) := prg_18 q (by have := hx2 q; omega)
      have e2 : (2 : Int32) = rop' (10000 + x + tc ts (i + 1)) := by
        unfold rop' rop
        rw [if_neg (by omega), if_neg (by omega), if_pos (by omega)]
      simp only [Option.toList, List.cons_append, List.nil_append, b_M_takePart_108, b_M_takePart_110, e1]
      rw [e2]
      refine (m_emit T (10000 + x + tc ts (i + 1)) _ (fun _ => ?_) p.2 (by omega)).mono ?_
      · unfold rone
        rw [if_neg (by omega), show 10000 + x + tc ts (i + 1) - 10000 = x + tc ts (i + 1) by omega]
      rintro r' h2 ⟨rfl, p2⟩
      simp only [Option.toList, List.cons_append, List.nil_append, b_M_takePart_112]
      exact fin h2 ((p2.pre p.1).pre g.1)
    · rw [if_neg q0] at p fin
      obtain ⟨rfl, p⟩ := p
      have e1 : nI (pr x) + 0 = nI (pr x) := nadd _ 0
      have e2 : (2 : Int32) = rop' (10000 + x) := by
        unfold rop' rop
        rw [if_neg (by omega), if_neg (by omega), if_pos (by omega)]
      simp only [Option.toList, List.cons_append, List.nil_append, b_M_takePart_108, b_M_takePart_110, e1]
      rw [e2]
      refine (m_emit T (10000 + x) _ (fun _ => ?_) p.2 (by omega)).mono ?_
      · unfold rone
        rw [if_neg (by omega), Nat.add_sub_cancel_left]
      rintro r' h2 ⟨rfl, p2⟩
      simp only [Option.toList, List.cons_append, List.nil_append, b_M_takePart_112]
      exact fin h2 ((p2.pre p.1).pre g.1)
theorem fF_o (T : TOKS ts) (hi : i < ts.length) (x : Nat) : i ≤ (fF ts rd x i).1 ∧ (fF ts rd x i).1 < ts.length ∧ (fF ts rd x i).2.1 < 20000 ∧ ((fF ts rd x i).2.1 = 0 → (rd = 1 ∧ x < 18 → (fF ts rd x i).2.2 ≤ 10000 + x + 2) ∧ 10000 ≤ (fF ts rd x i).2.2 ∧ (¬ (rd = 1 ∧ x < 18) → (fF ts rd x i).2.2 = 10000 + x)) := by
  have hp := (T.2.2 i hi).2.2
  unfold fF
  by_cases q : rd = 1 ∧ x < 18
  · rw [if_pos q]
    by_cases q0 : numF ts i 0 2 = 0
    · rw [if_pos q0]
      have hle : tc ts i ≤ 2 := by
        unfold numF at q0
        by_cases z : tc ts i < 10000
        · rw [if_pos z] at q0
          by_cases z2 : 0 ≤ tc ts i ∧ tc ts i ≤ 2
          · exact z2.2
          · rw [if_neg z2] at q0; omega
        · rw [if_neg z] at q0; omega
      refine ⟨by simp only; omega, sgn_lt T hi (by omega), by simp only; omega, fun _ => ⟨fun _ => by simp only; omega, by simp only; omega, fun z => absurd q z⟩⟩
    · rw [if_neg q0]
      have hn : numF ts i 0 2 < 20000 := by
        unfold numF
        split
        · split <;> omega
        · omega
      exact ⟨Nat.le_refl _, hi, hn, fun z => absurd z q0⟩
  · rw [if_neg q]
    exact ⟨Nat.le_refl _, hi, by simp only; omega, fun _ => ⟨fun z => absurd z q, by simp only; omega, fun _ => rfl⟩⟩
end PARTS
