--deps: 9r.become
/-! A LINE: ITS E, ITS SIGN -/
section DEAD
variable {L : Nat} {xs : Nat → Int32} {ts : List (Nat × Nat)} {rd : Int32} {π : Nat → Nat} {i F : Nat} {cs : List Nat} {h : AH} {d : Nat}
theorem x_part0 (T : TOKS ts) (hrd : rd = 0 ∨ rd = 1) (hF : F ≠ 0) (r : RX L xs ts rd i F cs h) (dep : Nat) (hdp : dep ≤ 5) (Q : Option Value → AH → Prop) : Cl (d + 2) q_Pa_takePart [.ref 108, .int (nI dep)] h Q ↔ Q none h := by
  have z : ¬ nI F = 0 := mt (nI0 (by have := r.Fl; omega)).mp hF
  obtain ⟨f1, f2, f3⟩ := fx_at r.s (tc ts i)
  have x := r.x
  have s40 : ∀ Q, Cl (d + 1) q_Pa_isSign [.ref 108, .int 40] h Q ↔ Q (some (.int (if tc ts i = 11040 then 1 else 0))) h := fun Q => x_isSign T 40 (by decide) r Q
  have isn := fun (Q : Option Value → AH → Prop) => x_isNumber (d := d) T r Q
  have wr := wref_r (tc ts i)
  have wrg : ∀ k, Cl (d + 1) q_Pa_wrong [.ref 108, .int k] h = fun Q => Q none h := fun k => by
    funext Q
    exact propext (x_wrong0 hF r Q)
  have e35 : ∀ (x2 : Int32) (R : Option Value → AH → Prop), Wp (d + 1) P_Pa_takePart 35 [.ref 108, .int (nI dep), .int x2, .null, .null, .null] [] h R ↔ R none h := by
    intro x2 R
    simp only [b_Pa_takePart_35, xk_108 x, r.f, z, b_Pa_takePart_38, mem20, mem21, mem22, al20, al21, al33, al34, al36, al37, al38, aa33, aa34, aa36, aa37, aa38, true_and, and_true, Int32.reduceOfNat, forall_const, true_implies, implies_true, false_implies, not_true_eq_false, not_false_eq_true]
  have e29 : ∀ (x2 : Int32) (R : Option Value → AH → Prop), Wp (d + 1) P_Pa_takePart 29 [.ref 108, .int (nI dep), .int x2, .null, .null, .null] [] h R ↔ R none h := by
    intro x2 R
    rw [b_Pa_takePart_29, b_Pa_takePart_32, x_wrong0 hF r]
    simp only [Option.toList, List.cons_append, List.nil_append, e35]
    by_cases q : nI dep < 5 <;> simp [q]
  have e10 : ∀ (s0 : Int32) (R : Option Value → AH → Prop), Wp (d + 1) P_Pa_takePart 10 [.ref 108, .int (nI dep), .null, .null, .null, .null] [.int s0] h R ↔ R none h := by
    intro s0 R
    rw [b_Pa_takePart_10, isn]
    simp only [Option.toList, List.cons_append, List.nil_append, b_Pa_takePart_13, b_Pa_takePart_14, s40, b_Pa_takePart_17, b_Pa_takePart_18, b_Pa_takePart_22, b_Pa_takePart_25, x_wrong0 hF r, b_Pa_takePart_28, e29, e35, xk_108 x, r.w, wr.1, wr.2, show (2 : Nat) ≤ 17 by decide, show (17 : Nat) ≤ 25 by decide, mem20, mem21, mem22, al20, al21, al33, al34, al36, al37, al38, aa33, aa34, aa36, aa37, aa38, true_and, and_true, Int32.reduceOfNat, forall_const, true_implies, implies_true, false_implies, not_true_eq_false, not_false_eq_true]
    by_cases q1 : tc ts i < 10000
    · simp [q1]
    · by_cases q2 : tc ts i = 11040
      · simp [q2]
      · by_cases q3 : wref (tc ts i) = 17
        · simp [q1, q2, q3]
        · by_cases q4 : s0 = -1 <;> simp [q1, q2, q3, q4]
  rw [e_Pa_takePart, b_Pa_takePart_0]
  simp only [xk_108 x, r.rdr, b_Pa_takePart_3, b_Pa_takePart_7, r.w, f1, f2, f3, e10, rtV, mem20, mem21, mem22, al20, al21, al33, al34, al36, al37, al38, aa33, aa34, aa36, aa37, aa38, true_and, and_true, Int32.reduceOfNat, forall_const, true_implies, implies_true, false_implies, not_true_eq_false, not_false_eq_true]
  rcases hrd with rfl | rfl <;> simp
theorem x_chain0 (T : TOKS ts) (hrd : rd = 0 ∨ rd = 1) (hF : F ≠ 0) (r : RX L xs ts rd i F cs h) : ∀ (m lev : Nat), lev + m = 4 → ∀ (Q : Option Value → AH → Prop), (Q none h) → Cl (d + 3 + m) q_Pa_chain [.ref 108, .int (nI lev), .int 0] h Q := by
  intro m
  induction m with
  | zero =>
    intro lev e Q q
    have : lev = 4 := by omega
    subst this
    rw [show d + 3 + 0 = d + 2 + 1 by omega, e_Pa_chain, b_Pa_chain_0]
    have p0 := fun (Q : Option Value → AH → Prop) => x_part0 (d := d) T hrd hF r 0 (by decide) Q
    have p0' : ∀ Q, Cl (d + 2) q_Pa_takePart [.ref 108, .int 0] h Q ↔ Q none h := p0
    simp only [show ¬ nI 4 < 4 by decide, b_Pa_chain_3, xk_108 r.x, p0', Option.toList, List.cons_append, List.nil_append, b_Pa_chain_6, rtV, mem20, mem21, mem22, al20, al21, al33, al34, al36, al37, al38, aa33, aa34, aa36, aa37, aa38, true_and, and_true, Int32.reduceOfNat, forall_const, true_implies, implies_true, false_implies, not_true_eq_false, not_false_eq_true]
    exact q
  | succ m ih =>
    intro lev e Q q
    rw [show d + 3 + (m + 1) = d + 3 + m + 1 by omega, e_Pa_chain, b_Pa_chain_0]
    have z1 : nI lev < 4 := (nlt (b := 4) (by omega) (by decide)).mpr (by omega)
    simp only [z1, b_Pa_chain_7, nI_1, xk_108 r.x, mem20, mem21, mem22, al20, al21, al33, al34, al36, al37, al38, aa33, aa34, aa36, aa37, aa38, true_and, and_true, Int32.reduceOfNat, forall_const, true_implies, implies_true, false_implies, not_true_eq_false, not_false_eq_true]
    refine ih (lev + 1) (by omega) _ ?_
    simp only [Option.toList, List.cons_append, List.nil_append]
    have st : ∀ mo, Wp (d + 3 + m) P_Pa_chain 22 [.ref 108, .int (nI lev), .int (nI 0), .int (nI mo), .int (nI 0), .null] [] h (fun r' h' => rtk none r' = true ∧ Q r' h') := fun mo => x_stop T (by omega) (by omega) (Or.inl hF) r _ ⟨rtV, q⟩
    rw [b_Pa_chain_13]
    refine ⟨fun _ => ?_, fun _ => ?_⟩
    · rw [b_Pa_chain_18, b_Pa_chain_19]; exact st 1000
    · rw [b_Pa_chain_16, b_Pa_chain_19]; exact st 1
theorem m_all0 (T : TOKS ts) (hF : F ≠ 0) (r : RM ts rd π i F cs h) : Cl 35 q_M_all [.ref 342, .int 0] h (fun r' h' => r' = none ∧ PM ts rd π h i F cs h') := by
  have z : ¬ nI F ≤ 0 := mt (nI_le0 (by have := r.Fl; omega)).mp hF
  have part : ∀ {h : AH}, RM ts rd π i F cs h → Cl 31 q_M_takePart [.ref 342, .int (nI 0)] h (fun r' h' => r' = none ∧ PM ts rd π h i F cs h') := by
    intro h r
    rw [e_M_takePart, b_M_takePart_0]
    simp only [mo r.m, r.f, z, b_M_takePart_3, rtV, mem20, mem21, mem22, al20, al21, al33, al34, al36, al37, al38, aa33, aa34, aa36, aa37, aa38, true_and, and_true, Int32.reduceOfNat, forall_const, true_implies, implies_true, false_implies, not_true_eq_false, not_false_eq_true]
    exact ⟨KM.rf, r⟩
  have prods : ∀ {h : AH}, RM ts rd π i F cs h → Cl 32 q_M_products [.ref 342, .int (nI 0)] h (fun r' h' => r' = none ∧ PM ts rd π h i F cs h') := by
    intro h r
    rw [e_M_products, b_M_products_0]
    refine ⟨mo r.m, (part r).mono ?_⟩
    rintro r' h1 ⟨rfl, p1⟩
    refine (mlp_products (dep := 0) T).1 .null cs h1 i F _ p1.2 (Or.inl hF) ?_
    intro h' p
    exact ⟨rtV, rfl, p.pre p1.1⟩
  have sums : ∀ {h : AH}, RM ts rd π i F cs h → Cl 33 q_M_sums [.ref 342, .int (nI 0)] h (fun r' h' => r' = none ∧ PM ts rd π h i F cs h') := by
    intro h r
    rw [e_M_sums, b_M_sums_0]
    refine ⟨mo r.m, (prods r).mono ?_⟩
    rintro r' h1 ⟨rfl, p1⟩
    refine (mlp_sums (dep := 0) T).1 .null cs h1 i F _ p1.2 (Or.inl hF) ?_
    intro h' p
    exact ⟨rtV, rfl, p.pre p1.1⟩
  have tst : ∀ {h : AH}, RM ts rd π i F cs h → Cl 34 q_M_test [.ref 342, .int (nI 0)] h (fun r' h' => r' = none ∧ PM ts rd π h i F cs h') := by
    intro h r
    have i60 : ∀ {h} (r : RM ts rd π i F cs h) (Q : Option Value → AH → Prop), Cl 33 q_M_isSign [.ref 342, .int 60] h Q ↔ Q (some (.int (if F = 0 ∧ tc ts i = 11060 then 1 else 0))) h := fun r Q => m_isSign T 60 (by decide) (by decide) r Q
    have h60 : ∀ {h} (r : RM ts rd π i F cs h), Cl 33 q_M_hasSign [.ref 342, .int 60] h (fun r' h' => if F = 0 ∧ tc ts i = 11060 then r' = some (.int 1) ∧ PM ts rd π h (i + 1) F cs h' else r' = some (.int 0) ∧ PM ts rd π h i F cs h') := fun r => m_hasSign T 60 (by decide) (by decide) r
    have h61 : ∀ {h} (r : RM ts rd π i F cs h), Cl 33 q_M_hasSign [.ref 342, .int 61] h (fun r' h' => if F = 0 ∧ tc ts i = 11061 then r' = some (.int 1) ∧ PM ts rd π h (i + 1) F cs h' else r' = some (.int 0) ∧ PM ts rd π h i F cs h') := fun r => m_hasSign T 61 (by decide) (by decide) r
    rw [e_M_test, b_M_test_0]
    refine ⟨mo r.m, (sums r).mono ?_⟩
    rintro r' h1 ⟨rfl, p1⟩
    simp only [Option.toList, List.cons_append, List.nil_append, b_M_test_3, i60 p1.2, hF, false_and, if_false, b_M_test_6]
    refine (h60 p1.2).mono ?_
    intro r' h2 p2
    rw [if_neg (fun z => hF z.1)] at p2
    obtain ⟨rfl, p2⟩ := p2
    simp only [Option.toList, List.cons_append, List.nil_append, b_M_test_10, b_M_test_11, mem20, mem21, mem22, al20, al21, al33, al34, al36, al37, al38, aa33, aa34, aa36, aa37, aa38, true_and, and_true, Int32.reduceOfNat, forall_const, true_implies, implies_true, false_implies, not_true_eq_false, not_false_eq_true]
    refine (h61 p2.2).mono ?_
    intro r' h3 p3
    rw [if_neg (fun z => hF z.1)] at p3
    obtain ⟨rfl, p3⟩ := p3
    simp only [Option.toList, List.cons_append, List.nil_append, b_M_test_14, b_M_test_26, mem20, mem21, mem22, al20, al21, al33, al34, al36, al37, al38, aa33, aa34, aa36, aa37, aa38, true_and, and_true, Int32.reduceOfNat, forall_const, true_implies, implies_true, false_implies, not_true_eq_false, not_false_eq_true]
    exact ⟨rtV, (p3.pre p2.1).pre p1.1⟩
  show Cl 35 q_M_all [.ref 342, .int (nI 0)] h _
  rw [e_M_all, b_M_all_0]
  refine ⟨mo r.m, (tst r).mono ?_⟩
  rintro r' h1 ⟨rfl, p1⟩
  refine (mlp_all (dep := 0) T).1 .null cs h1 i F _ p1.2 (Or.inl hF) ?_
  intro h' p
  exact ⟨rtV, rfl, p.pre p1.1⟩
/-- what the sign behind an E leaves -/
def lwE (ts : List (Nat × Nat)) (i1 F1 : Nat) : Nat × Nat := if F1 = 0 then (if tc ts i1 = 11059 then (i1 + 1, 0) else (i1, 1 + 16 * tp ts i1)) else (i1, F1)
theorem lwE_o (T : TOKS ts) {i1 F1 : Nat} (h1 : i1 < ts.length) (h2 : F1 < 20000) : (lwE ts i1 F1).1 < ts.length ∧ (lwE ts i1 F1).2 < 20000 ∧ i1 ≤ (lwE ts i1 F1).1 ∧ ((lwE ts i1 F1).2 = 0 → F1 = 0 ∧ (lwE ts i1 F1).1 = i1 + 1) := by
  have hp := (T.2.2 i1 h1).2.2
  unfold lwE
  by_cases q : F1 = 0
  · rw [if_pos q]
    by_cases q2 : tc ts i1 = 11059
    · rw [if_pos q2]
      exact ⟨sgn_lt T h1 (by omega), by simp only; omega, by simp only; omega, fun _ => ⟨q, rfl⟩⟩
    · rw [if_neg q2]
      exact ⟨h1, by simp only; omega, Nat.le_refl _, fun z => by simp only at z; omega⟩
  · rw [if_neg q]
    exact ⟨h1, h2, Nat.le_refl _, fun z => absurd z q⟩
theorem x_lw (T : TOKS ts) {i1 F1 : Nat} (r : RX L xs ts rd i1 F1 cs h) : Cl (d + 2) q_Pa_takeSign [.ref 108, .int 59] h (fun r' h' => r' = none ∧ PX L xs ts rd h (lwE ts i1 F1).1 (lwE ts i1 F1).2 cs h') := by
  unfold lwE
  by_cases q : F1 = 0
  · subst q
    refine (x_takeSign (d := d) T 59 (by decide) r).mono ?_
    rintro r' h' ⟨rfl, p⟩
    refine ⟨rfl, ?_⟩
    rw [if_pos rfl]
    by_cases q2 : tc ts i1 = 11059
    · rw [if_pos q2] at p ⊢; exact p
    · rw [if_neg q2] at p ⊢; exact p
  · refine (x_takeSign0 (d := d) (k := 0) T 59 (by decide) q r _).mpr ?_
    rw [if_neg q]
    exact ⟨rfl, KX.rf, r⟩
theorem m_lw (T : TOKS ts) {i1 F1 : Nat} (r : RM ts rd π i1 F1 cs h) : Cl (d + 2) q_M_takeSign [.ref 342, .int 59] h (fun r' h' => r' = none ∧ PM ts rd π h (lwE ts i1 F1).1 (lwE ts i1 F1).2 cs h') := by
  unfold lwE
  by_cases q : F1 = 0
  · subst q
    refine (m_takeSign (d := d) T 59 (by decide) (by decide) r).mono ?_
    rintro r' h' ⟨rfl, p⟩
    refine ⟨rfl, ?_⟩
    rw [if_pos rfl]
    by_cases q2 : tc ts i1 = 11059
    · rw [if_pos q2] at p ⊢; exact p
    · rw [if_neg q2] at p ⊢; exact p
  · refine (m_takeSign0 (d := d) T 59 (by decide) (by decide) q r _).mpr ?_
    rw [if_neg q]
    exact ⟨rfl, KM.rf, r⟩
/-- the E of the reference with its end and its sign -/
theorem m_whole (T : TOKS ts) {i1 F1 : Nat} {c1 : List Nat} (e : Cl 35 q_M_all [.ref 342, .int 0] h (fun r' h' => r' = none ∧ PM ts rd π h i1 F1 (cs ++ c1) h')) (hm : MLY h) (hc : (cs ++ c1).length + 1 ≤ i1 + 9) : Cl 36 q_M_readWhole [.ref 342] h (fun r' h' => r' = none ∧ PM ts rd π h (lwE ts i1 F1).1 (lwE ts i1 F1).2 (cs ++ c1 ++ [30000]) h') := by
  rw [e_M_readWhole, b_M_readWhole_0]
  refine ⟨mo hm, e.mono ?_⟩
  rintro r' h1 ⟨rfl, p1⟩
  simp only [Option.toList, List.cons_append, List.nil_append, b_M_readWhole_3]
  have e0 : (0 : Int32) = rop' 30000 := by decide
  have em := m_emit (d := 34) T 30000 0 (fun z => by omega) p1.2 hc
  rw [← e0] at em
  refine em.mono ?_
  rintro r' h2 ⟨rfl, p2⟩
  simp only [Option.toList, List.cons_append, List.nil_append, b_M_readWhole_7]
  refine (m_lw (d := 33) T p2.2).mono ?_
  rintro r' h3 ⟨rfl, p3⟩
  simp only [Option.toList, List.cons_append, List.nil_append, b_M_readWhole_10]
  exact ⟨rtV, True.intro, (p3.pre p2.1).pre p1.1⟩
end DEAD
/-! opening and closing a line of the class's program -/
section OC
variable {h : AH} {d : Nat}
theorem c_Pg_opens (l n : Nat) (x : XLY h) (hl : l < 10000) (hn : hI h 117 1 = nI n) (Q : Option Value → AH → Prop) : Cl (d + 1) q_Pg_opens [.ref 117, .int (nI l)] h Q ↔ Q none (if l < 6 then sI h 118 l (nI n) else h) := by
  have z1 := n_nn (n := l) (by omega)
  have z2 : 6 ≤ nI l ↔ 6 ≤ l := nle (a := 6) (by decide) (by omega)
  simp only [e_Pg_opens, b_Pg_opens_0, b_Pg_opens_2, b_Pg_opens_7, b_Pg_opens_13, xk_117 x, xr_117_3 x, xk_118 x, xn_118 x, z1, z2, hn, cN (show l < 2147483648 by omega), rtV, mem20, mem21, mem22, al20, al21, al33, al34, al36, al37, al38, aa33, aa34, aa36, aa37, aa38, true_and, and_true, Int32.reduceOfNat, forall_const, true_implies, implies_true, false_implies, not_true_eq_false, not_false_eq_true]
  by_cases q : l < 6
  · have i1 : ixo (nI l) 6 = true := nix q (by decide)
    have : ¬ 6 ≤ l := by omega
    simp [q, this, i1]
  · have : 6 ≤ l := by omega
    simp [q, this]
theorem c_Pg_close (l n k : Nat) (x : XLY h) (hl : l < 10000) (hn : hI h 117 1 = nI n) (hk : hI h 117 2 = nI k) (Q : Option Value → AH → Prop) : Cl (d + 1) q_Pg_close [.ref 117, .int (nI l)] h Q ↔ Q none (if l < 6 then sI (sI h 119 l (nI n)) 117 2 (nI (k + 1)) else h) := by
  have z1 := n_nn (n := l) (by omega)
  have z2 : 6 ≤ nI l ↔ 6 ≤ l := nle (a := 6) (by decide) (by omega)
  simp only [e_Pg_close, b_Pg_close_0, b_Pg_close_2, b_Pg_close_7, b_Pg_close_19, xk_117 x, xr_117_4 x, xk_119 x, xn_119 x, z1, z2, hn, hk, hK_sI, rI_sI (show 117 ≠ 119 by decide), nI_1, cN (show l < 2147483648 by omega), rtV, mem20, mem21, mem22, al20, al21, al33, al34, al36, al37, al38, aa33, aa34, aa36, aa37, aa38, true_and, and_true, Int32.reduceOfNat, forall_const, true_implies, implies_true, false_implies, not_true_eq_false, not_false_eq_true]
  by_cases q : l < 6
  · have i1 : ixo (nI l) 6 = true := nix q (by decide)
    have : ¬ 6 ≤ l := by omega
    simp [q, this, i1]
  · have : 6 ≤ l := by omega
    simp [q, this]
end OC
