--deps: 9h.chains
/-! TESTS AND PARTS -/
def PART (ts : List (Nat × Nat)) (rd : Int32) (π : Nat → Nat) (nf dep i : Nat) : Prop := ∃ i' F' cs', OUT ts nf (4 * dep + 4) i i' F' cs' ∧ XS ts rd q_Pa_takePart [.ref 108, .int (nI dep)] (px dep + 1) i i' F' cs' ∧ MS ts rd π q_M_takePart [.ref 342, .int (nI dep)] (pm dep + 1) i i' F' cs'
section PARTS
variable {ts : List (Nat × Nat)} {rd : Int32} {π : Nat → Nat} {nf dep : Nat}
theorem chn4 {j : Nat} (p : PART ts rd π nf dep j) : CHN ts rd π nf 4 dep j := by
  obtain ⟨i', F', cs', o, x, m⟩ := p
  refine ⟨i', F', cs', o, ?_, m⟩
  intro L xs cs h r
  show Cl (px dep + 1 + 1) _ _ _ _
  rw [e_Pa_chain, b_Pa_chain_0]
  simp only [show ¬ nI 4 < 4 by decide, b_Pa_chain_3, xk_108 r.x, mem20, mem21, mem22, al20, al21, al33, al34, al36, al37, al38, aa33, aa34, aa36, aa37, aa38, true_and, and_true, Int32.reduceOfNat, forall_const, true_implies, implies_true, false_implies, not_true_eq_false, not_false_eq_true]
  refine (x L xs cs h r).mono ?_
  rintro r' h1 ⟨rfl, p1⟩
  simp only [Option.toList, List.cons_append, List.nil_append, b_Pa_chain_6]
  exact ⟨rtV, True.intro, p1⟩
theorem chn1 (T : TOKS ts) (hdp : dep ≤ 5) (i0 : Nat) (sub : ∀ j, i0 ≤ j → j < ts.length → CHN ts rd π nf 2 dep j) (j : Nat) (hj : i0 ≤ j) (hj2 : j < ts.length) : CHN ts rd π nf 1 dep j := by
  have T1 := T.2.1
  have hD : 2 ≤ px dep + 4 := by omega
  obtain ⟨i1, F1, c1, ⟨a1, a2, a3, a4, a5⟩, x1, m1⟩ := sub j hj hj2
  have x1' : XS ts rd q_Pa_chain [.ref 108, .int (nI 2), .int (nI dep)] (px dep + 4) j i1 F1 c1 := x1
  have m1' : MS ts rd π q_M_sums [.ref 342, .int (nI dep)] (pm dep + 3) j i1 F1 c1 := m1
  have xin : ∀ (L : Nat) (xs : Nat → Int32) (cs : List Nat) (h : AH) (Q : Option Value → AH → Prop), RX L xs ts rd j 0 cs h → (∀ h1, PX L xs ts rd h i1 F1 (cs ++ c1) h1 → Wp (px dep + 4) P_Pa_chain 22 [.ref 108, .int (nI 1), .int (nI dep), .int (nI 1), .int (nI 0), .null] [] h1 (fun r h' => rtk none r = true ∧ Q r h')) → Cl (px dep + 1 + (5 - 1)) q_Pa_chain [.ref 108, .int (nI 1), .int (nI dep)] h Q := by
    intro L xs cs h Q r fin
    show Cl (px dep + 4 + 1) _ _ _ _
    rw [e_Pa_chain, b_Pa_chain_0]
    simp only [show nI 1 < 4 by decide, b_Pa_chain_7, nI_1, xk_108 r.x, mem20, mem21, mem22, al20, al21, al33, al34, al36, al37, al38, aa33, aa34, aa36, aa37, aa38, true_and, and_true, Int32.reduceOfNat, forall_const, true_implies, implies_true, false_implies, not_true_eq_false, not_false_eq_true]
    refine (x1' L xs cs h r).mono ?_
    rintro r' h1 ⟨rfl, p1⟩
    simp only [Option.toList, List.cons_append, List.nil_append, b_Pa_chain_13, show nI 1 = 1 from rfl, b_Pa_chain_16, b_Pa_chain_19, mem20, mem21, mem22, al20, al21, al33, al34, al36, al37, al38, aa33, aa34, aa36, aa37, aa38, true_and, and_true, Int32.reduceOfNat, forall_const, true_implies, implies_true, false_implies, not_true_eq_false, not_false_eq_true]
    exact fin h1 p1
  obtain ⟨d, hd⟩ : ∃ d, pm dep + 3 = d + 3 := ⟨pm dep, rfl⟩
  have i60 : ∀ {i F cs h} (r : RM ts rd π i F cs h) (Q : Option Value → AH → Prop), Cl (d + 3) q_M_isSign [.ref 342, .int 60] h Q ↔ Q (some (.int (if F = 0 ∧ tc ts i = 11060 then 1 else 0))) h := fun r Q => m_isSign T 60 (by decide) (by decide) r Q
  have h60 : ∀ {i F cs h} (r : RM ts rd π i F cs h), Cl (d + 3) q_M_hasSign [.ref 342, .int 60] h (fun r' h' => if F = 0 ∧ tc ts i = 11060 then r' = some (.int 1) ∧ PM ts rd π h (i + 1) F cs h' else r' = some (.int 0) ∧ PM ts rd π h i F cs h') := fun r => m_hasSign T 60 (by decide) (by decide) r
  have h61 : ∀ {i F cs h} (r : RM ts rd π i F cs h), Cl (d + 3) q_M_hasSign [.ref 342, .int 61] h (fun r' h' => if F = 0 ∧ tc ts i = 11061 then r' = some (.int 1) ∧ PM ts rd π h (i + 1) F cs h' else r' = some (.int 0) ∧ PM ts rd π h i F cs h') := fun r => m_hasSign T 61 (by decide) (by decide) r
  have stop : (F1 ≠ 0 ∨ jnt 1 (tc ts i1) = 0) → MS ts rd π q_M_test [.ref 342, .int (nI dep)] (pm dep + 4) j i1 F1 c1 := by
    intro hs cs h r
    have n60 : ¬ (F1 = 0 ∧ tc ts i1 = 11060) := by
      rintro ⟨z1, z2⟩
      have := hs.resolve_left (fun y => y z1)
      unfold jnt at this
      simp [z2] at this
    have n61 : ¬ (F1 = 0 ∧ tc ts i1 = 11061) := by
      rintro ⟨z1, z2⟩
      have := hs.resolve_left (fun y => y z1)
      unfold jnt at this
      simp [z2] at this
    show Cl (pm dep + 3 + 1) _ _ _ _
    rw [e_M_test, b_M_test_0]
    refine ⟨mo r.m, (m1' cs h r).mono ?_⟩
    rintro r' h1 ⟨rfl, p1⟩
    rw [hd]
    simp only [Option.toList, List.cons_append, List.nil_append, b_M_test_3, i60 p1.2, if_neg n60, b_M_test_6]
    refine (h60 p1.2).mono ?_
    intro r' h2 p2
    rw [if_neg n60] at p2
    obtain ⟨rfl, p2⟩ := p2
    simp only [Option.toList, List.cons_append, List.nil_append, b_M_test_10, b_M_test_11, mem20, mem21, mem22, al20, al21, al33, al34, al36, al37, al38, aa33, aa34, aa36, aa37, aa38, true_and, and_true, Int32.reduceOfNat, forall_const, true_implies, implies_true, false_implies, not_true_eq_false, not_false_eq_true]
    refine (h61 p2.2).mono ?_
    intro r' h3 p3
    rw [if_neg n61] at p3
    obtain ⟨rfl, p3⟩ := p3
    simp only [Option.toList, List.cons_append, List.nil_append, b_M_test_14, b_M_test_26, mem20, mem21, mem22, al20, al21, al33, al34, al36, al37, al38, aa33, aa34, aa36, aa37, aa38, true_and, and_true, Int32.reduceOfNat, forall_const, true_implies, implies_true, false_implies, not_true_eq_false, not_false_eq_true]
    exact ⟨rtV, (p3.pre p2.1).pre p1.1⟩
  by_cases hs : F1 ≠ 0 ∨ jnt 1 (tc ts i1) = 0
  · refine ⟨i1, F1, c1, ⟨a1, a2, a3, a4, fun z => ⟨(a5 z).1, fun n hn => (a5 z).2 n (by omega)⟩⟩, ?_, stop hs⟩
    intro L xs cs h r
    refine xin L xs cs h _ r ?_
    intro h1 p1
    exact x_stop T (by decide) hD hs p1.2 _ ⟨rtV, rfl, p1⟩
  · have F0 : F1 = 0 := by
      by_cases z : F1 = 0
      · exact z
      · exact absurd (Or.inl z) hs
    subst F0
    have hk : jnt 1 (tc ts i1) ≠ 0 := fun z => hs (Or.inr z)
    obtain ⟨a6, a7⟩ := a5 rfl
    obtain ⟨k1, k2, k3⟩ := jnt_r rfl hk
    obtain ⟨i2, F2, c2, ⟨b1, b2, b3, b4, b5⟩, x2, m2⟩ := sub (i1 + 1) (by omega) (sgn_lt T a2 k3)
    have x2' : XS ts rd q_Pa_chain [.ref 108, .int (nI (1 + 1)), .int (nI dep)] (px dep + 4) (i1 + 1) i2 F2 c2 := x2
    have m2' : MS ts rd π q_M_sums [.ref 342, .int (nI dep)] (pm dep + 3) (i1 + 1) i2 F2 c2 := m2
    refine ⟨i2, F2, c1 ++ (c2 ++ [jnt 1 (tc ts i1)]), ⟨by omega, b2, b3, by simp; omega, fun z => ⟨by omega, fun n hn => sgs_app (a7 n (by omega)) (sgs_app ((b5 z).2 (n + 1) (by omega)) (sgs_j ⟨k1, k2⟩ (by omega)))⟩⟩, ?_, ?_⟩
    · intro L xs cs h r
      refine xin L xs cs h _ r ?_
      intro h1 p1
      refine x_step T (by decide) hD rfl hk (by decide) (by decide) x2' ⟨b1, b4⟩ p1.2 _ ?_
      intro h2 p2
      rw [b_Pa_chain_22]
      simp only [show nI 1 ≤ nI (0 + 1) by decide, b_Pa_chain_49, mem20, mem21, mem22, al20, al21, al33, al34, al36, al37, al38, aa33, aa34, aa36, aa37, aa38, true_and, and_true, Int32.reduceOfNat, forall_const, true_implies, implies_true, false_implies, not_true_eq_false, not_false_eq_true]
      rw [List.append_assoc] at p2
      exact ⟨rtV, p2.pre p1.1⟩
    · intro cs h r
      have cl := r.cl
      show Cl (pm dep + 3 + 1) q_M_test _ _ _
      rw [e_M_test, b_M_test_0]
      refine ⟨mo r.m, (m1' cs h r).mono ?_⟩
      rintro r' h1 ⟨rfl, p1⟩
      rw [hd] at m2' ⊢
      -- behind the sign
      have go : ∀ (x2 : Int32) (h3 : AH), (if x2 = 0 then 20005 else 20004) = jnt 1 (tc ts i1) → PM ts rd π h1 (i1 + 1) 0 (cs ++ c1) h3 → Wp (d + 3) P_M_test 15 [.ref 342, .int (nI dep), .int x2] [] h3 (fun r h' => rtk none r = true ∧ r = none ∧ PM ts rd π h i2 F2 (cs ++ (c1 ++ (c2 ++ [jnt 1 (tc ts i1)]))) h') := by
        intro x2 h3 hx p3
        rw [b_M_test_15]
        refine (m2' _ h3 p3.2).mono ?_
        rintro r' h4 ⟨rfl, p4⟩
        have last : ∀ x : Int32, x = rop' (jnt 1 (tc ts i1)) → Wp (d + 3) P_M_test 24 [.ref 342, .int (nI dep), .int x2] [.int x, .ref 342] h4 (fun r h' => rtk none r = true ∧ r = none ∧ PM ts rd π h i2 F2 (cs ++ (c1 ++ (c2 ++ [jnt 1 (tc ts i1)]))) h') := by
          intro x hx
          rw [b_M_test_24, hx]
          refine (m_emit T _ 0 (fun z => by omega) p4.2 (by simp; omega)).mono ?_
          rintro r' h5 ⟨rfl, p5⟩
          simp only [Option.toList, List.cons_append, List.nil_append, b_M_test_26]
          rw [List.append_assoc, List.append_assoc] at p5
          exact ⟨rtV, True.intro, ((p5.pre p4.1).pre p3.1).pre p1.1⟩
        simp only [Option.toList, List.cons_append, List.nil_append, b_M_test_18, b_M_test_21, b_M_test_23]
        by_cases q : x2 = 0
        · rw [if_pos q] at hx
          simp only [q, mem20, mem21, mem22, al20, al21, al33, al34, al36, al37, al38, aa33, aa34, aa36, aa37, aa38, true_and, and_true, Int32.reduceOfNat, forall_const, true_implies, implies_true, false_implies, not_true_eq_false, not_false_eq_true] at last ⊢
          exact last 8 (by rw [← hx]; decide)
        · rw [if_neg q] at hx
          simp only [q, mem20, mem21, mem22, al20, al21, al33, al34, al36, al37, al38, aa33, aa34, aa36, aa37, aa38, true_and, and_true, Int32.reduceOfNat, forall_const, true_implies, implies_true, false_implies, not_true_eq_false, not_false_eq_true]
          exact last 7 (by rw [← hx]; decide)
      by_cases q60 : tc ts i1 = 11060
      · have ek : 20004 = jnt 1 (tc ts i1) := by unfold jnt; simp [q60]
        simp only [Option.toList, List.cons_append, List.nil_append, b_M_test_3, i60 p1.2, q60, and_self, if_true, b_M_test_6]
        refine (h60 p1.2).mono ?_
        intro r' h2 p2
        rw [if_pos ⟨rfl, q60⟩] at p2
        obtain ⟨rfl, p2⟩ := p2
        simp only [Option.toList, List.cons_append, List.nil_append, b_M_test_10, show ¬ (1 : Int32) = 0 by decide, mem20, mem21, mem22, al20, al21, al33, al34, al36, al37, al38, aa33, aa34, aa36, aa37, aa38, true_and, and_true, Int32.reduceOfNat, forall_const, true_implies, implies_true, false_implies, not_true_eq_false, not_false_eq_true]
        have := go 1 h2 (by rw [if_neg (by decide)]; exact ek) p2
        rw [q60] at this
        exact this
      · have q61 : tc ts i1 = 11061 := by
          by_cases q61 : tc ts i1 = 11061
          · exact q61
          · exfalso
            apply hk
            unfold jnt
            simp [q60, q61]
        have ek : 20005 = jnt 1 (tc ts i1) := by unfold jnt; simp [q61]
        simp only [Option.toList, List.cons_append, List.nil_append, b_M_test_3, i60 p1.2, q60, and_false, if_false, b_M_test_6]
        refine (h60 p1.2).mono ?_
        intro r' h2 p2
        rw [if_neg (fun z => q60 z.2)] at p2
        obtain ⟨rfl, p2⟩ := p2
        simp only [Option.toList, List.cons_append, List.nil_append, b_M_test_10, b_M_test_11, mem20, mem21, mem22, al20, al21, al33, al34, al36, al37, al38, aa33, aa34, aa36, aa37, aa38, true_and, and_true, Int32.reduceOfNat, forall_const, true_implies, implies_true, false_implies, not_true_eq_false, not_false_eq_true]
        refine (h61 p2.2).mono ?_
        intro r' h3 p3
        rw [if_pos ⟨rfl, q61⟩] at p3
        obtain ⟨rfl, p3⟩ := p3
        simp only [Option.toList, List.cons_append, List.nil_append, b_M_test_14, show ¬ (1 : Int32) = 0 by decide, mem20, mem21, mem22, al20, al21, al33, al34, al36, al37, al38, aa33, aa34, aa36, aa37, aa38, true_and, and_true, Int32.reduceOfNat, forall_const, true_implies, implies_true, false_implies, not_true_eq_false, not_false_eq_true]
        exact go 0 h3 (by rw [if_pos rfl]; exact ek) (p3.pre p2.1)
/-- all levels, out of parts -/
theorem chn_all (T : TOKS ts) (hdp : dep ≤ 5) (i0 : Nat) (sub : ∀ j, i0 ≤ j → j < ts.length → PART ts rd π nf dep j) (j : Nat) (hj : i0 ≤ j) (hj2 : j < ts.length) : CHN ts rd π nf 0 dep j :=
  chn0 T hdp i0 (chn1 T hdp i0 (chn2 T hdp i0 (chn3 T hdp i0 (fun j h1 h2 => chn4 (sub j h1 h2))))) j hj hj2
/-! the fact at a word of the class -/
theorem fx_B : ∀ r, r < 24 → bFc.getD r 0 = oI id (fcB (10000 + r)) := by decide +kernel
theorem fx_R : ∀ r, r < 24 → rFc.getD r 0 = oI id (fcR (10000 + r)) := by decide +kernel
theorem fx_at {L : Nat} {xs : Nat → Int32} {h : AH} (s : SLY L xs h) (t : Nat) : hK h (wref t) = 40 ∧ hI h (wref t) 1 = oI id (fcB t) ∧ hI h (wref t) 2 = oI id (fcR t) := by
  have w := wref_r t
  obtain ⟨s1, s2, s3, s4⟩ := s (wref t) (by omega)
  have k : K0 (wref t) = 40 := by unfold K0; rw [if_neg (by omega), if_pos (by omega)]
  have e1 : I0 xs (wref t) 1 = bFc.getD (wref t - 2) 0 := by unfold I0; rw [if_neg (by omega), if_pos (by omega), if_pos rfl]
  have e2 : I0 xs (wref t) 2 = rFc.getD (wref t - 2) 0 := by unfold I0; rw [if_neg (by omega), if_pos (by omega), if_neg (by decide), if_pos rfl]
  refine ⟨by rw [s1, k], ?_, ?_⟩
  · rw [s3, e1]
    by_cases q : 10000 ≤ t ∧ t < 10024
    · have := fx_B (t - 10000) (by omega)
      rw [show 10000 + (t - 10000) = t by omega] at this
      have ew : wref t - 2 = t - 10000 := by unfold wref; rw [if_pos q]; omega
      rw [← this, ew]
    · unfold wref fcB
      rw [if_neg q, if_neg (by omega)]
      rfl
  · rw [s3, e2]
    by_cases q : 10000 ≤ t ∧ t < 10024
    · have := fx_R (t - 10000) (by omega)
      rw [show 10000 + (t - 10000) = t by omega] at this
      have ew : wref t - 2 = t - 10000 := by unfold wref; rw [if_pos q]; omega
      rw [← this, ew]
    · unfold wref fcR
      rw [if_neg q, if_neg (by omega)]
      rfl
theorem fcB_r : ∀ t x, fcB t = some x → x < 12 ∧ 10000 ≤ t ∧ t < 10015 := by
  intro t x e
  unfold fcB at e
  split at e
  · rename_i q
    have : ∀ r, r < 15 → ∀ x, fB.getD r none = some x → x < 12 := by
      intro r hr x
      have : ∀ r, r < 15 → ∀ y ∈ fB.getD r none, y < 12 := by decide +kernel
      intro e
      exact this r hr x e
    exact ⟨this _ (by omega) x e, q⟩
  · cases e
theorem fcR_r : ∀ t x, fcR t = some x → (x < 18 → x + 2 < 18) ∧ x < 20 ∧ 10000 ≤ t ∧ t < 10008 := by
  intro t x e
  unfold fcR at e
  split at e
  · rename_i q
    have : ∀ r, r < 8 → ∀ y ∈ fR.getD r none, (y < 18 → y + 2 < 18) ∧ y < 20 := by decide +kernel
    have := this (t - 10000) (by omega) x e
    exact ⟨this.1, this.2, q⟩
  · cases e
theorem oI_m {π : Nat → Nat} {o : Option Nat} (hx : ∀ x, o = some x → π x < 100) : (oI π o = -1 ↔ o = none) ∧ (0 ≤ oI π o ↔ ¬ o = none) := by
  cases o with
  | none => exact ⟨⟨fun _ => rfl, fun _ => rfl⟩, ⟨fun z => absurd (show (0 : Int32) ≤ -1 from z) (by decide), fun z => absurd rfl z⟩⟩
  | some x =>
    have h1 := hx x rfl
    have z := n_nn (n := π x) (by omega)
    refine ⟨⟨fun e => ?_, fun e => by cases e⟩, ⟨fun _ e => (by cases e), fun _ => Int32.not_lt.mp z⟩⟩
    have e' : nI (π x) = -1 := e
    rw [e'] at z
    exact absurd (by decide) z
end PARTS
