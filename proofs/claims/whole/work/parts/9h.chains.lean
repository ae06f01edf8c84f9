--deps: 9g.chain
/-! THE LEVELS OF E -/
section CHNS
variable {ts : List (Nat × Nat)} {rd : Int32} {π : Nat → Nat} {nf dep : Nat}
theorem ro_j (k : Nat) (hk : 20002 ≤ k ∧ k ≤ 20008) : rop' k = rop k := by
  unfold rop'
  rw [if_neg (by omega)]
theorem mlp_all (T : TOKS ts) : MLP ts rd π 0 dep (fun v h R => Wp (pm dep + 4) P_M_all 3 [.ref 342, .int (nI dep), v] [] h R) := by
  obtain ⟨d, hd⟩ : ∃ d, pm dep + 4 = d + 3 := ⟨pm dep + 1, by omega⟩
  have i5 : ∀ {i F cs h} (r : RM ts rd π i F cs h) (Q : Option Value → AH → Prop), Cl (d + 3) q_M_isWord [.ref 342, .int 5] h Q ↔ Q (some (.int (if F = 0 ∧ tc ts i = 10016 then 1 else 0))) h := fun r Q => m_isWord T 5 (by decide) r Q
  have i6 : ∀ {i F cs h} (r : RM ts rd π i F cs h) (Q : Option Value → AH → Prop), Cl (d + 3) q_M_isWord [.ref 342, .int 6] h Q ↔ Q (some (.int (if F = 0 ∧ tc ts i = 10017 then 1 else 0))) h := fun r Q => m_isWord T 6 (by decide) r Q
  constructor
  · intro v cs h j F R r hj fin
    show Wp (pm dep + 4) P_M_all 3 [.ref 342, .int (nI dep), v] [] h R
    rw [hd]
    have n5 : ¬ (F = 0 ∧ tc ts j = 10016) := by
      rintro ⟨z1, z2⟩
      have := hj.resolve_left (fun y => y z1)
      unfold jnt at this
      simp [z2] at this
    have n6 : ¬ (F = 0 ∧ tc ts j = 10017) := by
      rintro ⟨z1, z2⟩
      have := hj.resolve_left (fun y => y z1)
      unfold jnt at this
      simp [z2] at this
    simp only [b_M_all_3, i5 r, if_neg n5, Option.toList, List.cons_append, List.nil_append, b_M_all_6, b_M_all_7, i6 r, if_neg n6, b_M_all_10, b_M_all_33, mem20, mem21, mem22, al20, al21, al33, al34, al36, al37, al38, aa33, aa34, aa36, aa37, aa38, true_and, and_true, Int32.reduceOfNat, forall_const, true_implies, implies_true, false_implies, not_true_eq_false, not_false_eq_true]
    exact fin h ⟨KM.rf, r⟩
  · intro v cs h j k i' F' cs' R r hj hk sub ho fin
    show Wp (pm dep + 4) P_M_all 3 [.ref 342, .int (nI dep), v] [] h R
    have fin' : ∀ v h2, PM ts rd π h i' F' (cs ++ (cs' ++ [k])) h2 → Wp (pm dep + 4) P_M_all 3 [.ref 342, .int (nI dep), v] [] h2 R := fin
    have sub' : MS ts rd π q_M_test [.ref 342, .int (nI dep)] (pm dep + 4) (j + 1) i' F' cs' := sub
    rw [hd] at fin' sub' ⊢
    obtain ⟨k1, k2, k3⟩ := jnt_r hj hk
    have cl := r.cl
    have go : ∀ s0 : Int32, (if s0 = 0 then 20003 else 20002) = k → Wp (d + 3) P_M_all 14 [.ref 342, .int (nI dep), v] [.int s0] h R := by
      intro s0 hs
      have g := r.mv (j := 7) (v := nI (j + 1)) (i' := j + 1) (F' := 0) (Or.inl ⟨rfl, rfl, rfl⟩) (sgn_lt T r.lt k3) (by decide) (by omega)
      rw [b_M_all_14]
      simp only [mo r.m, r.at, nI_1, true_and]
      refine (sub' cs _ g.2).mono ?_
      rintro r' h2 ⟨rfl, p2⟩
      have last : ∀ x : Int32, x = rop' k → Wp (d + 3) P_M_all 30 [.ref 342, .int (nI dep), .int s0] [.int x, .ref 342] h2 R := by
        intro x hx
        rw [b_M_all_30, hx]
        refine (m_emit T k 0 (fun z => by omega) p2.2 (by simp; omega)).mono ?_
        rintro r' h3 ⟨rfl, p3⟩
        simp only [Option.toList, List.cons_append, List.nil_append, b_M_all_32]
        rw [List.append_assoc] at p3
        exact fin' _ h3 ((p3.pre p2.1).pre g.1)
      simp only [Option.toList, List.cons_append, List.nil_append, b_M_all_24, b_M_all_27, b_M_all_29]
      by_cases q : s0 = 0
      · rw [if_pos q] at hs
        subst hs
        simp only [q, mem20, mem21, mem22, al20, al21, al33, al34, al36, al37, al38, aa33, aa34, aa36, aa37, aa38, true_and, and_true, Int32.reduceOfNat, forall_const, true_implies, implies_true, false_implies, not_true_eq_false, not_false_eq_true] at last ⊢
        exact last 10 (by decide)
      · rw [if_neg q] at hs
        subst hs
        simp only [q, mem20, mem21, mem22, al20, al21, al33, al34, al36, al37, al38, aa33, aa34, aa36, aa37, aa38, true_and, and_true, Int32.reduceOfNat, forall_const, true_implies, implies_true, false_implies, not_true_eq_false, not_false_eq_true]
        exact last 9 (by decide)
    by_cases q5 : tc ts j = 10016
    · have ek : 20002 = k := by rw [← hj]; unfold jnt; simp [q5]
      simp only [b_M_all_3, i5 r, if_pos q5, Option.toList, List.cons_append, List.nil_append, b_M_all_6, b_M_all_11, show ¬ (1 : Int32) = 0 by decide, mem20, mem21, mem22, al20, al21, al33, al34, al36, al37, al38, aa33, aa34, aa36, aa37, aa38, true_and, and_true, Int32.reduceOfNat, forall_const, true_implies, implies_true, false_implies, not_true_eq_false, not_false_eq_true]
      exact go 1 (by rw [if_neg (by decide)]; exact ek)
    · have q6 : tc ts j = 10017 := by
        by_cases q6 : tc ts j = 10017
        · exact q6
        · exfalso
          apply hk
          rw [← hj]
          unfold jnt
          simp [q5, q6]
      have ek : 20003 = k := by rw [← hj]; unfold jnt; simp [q6]
      simp only [b_M_all_3, i5 r, i6 r, if_neg q5, if_pos q6, Option.toList, List.cons_append, List.nil_append, b_M_all_6, b_M_all_7, b_M_all_10, b_M_all_11, show ¬ (1 : Int32) = 0 by decide, mem20, mem21, mem22, al20, al21, al33, al34, al36, al37, al38, aa33, aa34, aa36, aa37, aa38, true_and, and_true, Int32.reduceOfNat, forall_const, true_implies, implies_true, false_implies, not_true_eq_false, not_false_eq_true]
      exact go 0 (by rw [if_pos rfl]; exact ek)
theorem mlp_sums (T : TOKS ts) : MLP ts rd π 2 dep (fun v h R => Wp (pm dep + 2) P_M_sums 3 [.ref 342, .int (nI dep), v] [] h R) := by
  obtain ⟨d, hd⟩ : ∃ d, pm dep + 2 = d + 3 := ⟨pm dep - 1, by unfold pm; omega⟩
  have i5 : ∀ {i F cs h} (r : RM ts rd π i F cs h) (Q : Option Value → AH → Prop), Cl (d + 3) q_M_isSign [.ref 342, .int 43] h Q ↔ Q (some (.int (if F = 0 ∧ tc ts i = 11043 then 1 else 0))) h := fun r Q => m_isSign T 43 (by decide) (by decide) r Q
  have i6 : ∀ {i F cs h} (r : RM ts rd π i F cs h) (Q : Option Value → AH → Prop), Cl (d + 3) q_M_isSign [.ref 342, .int 45] h Q ↔ Q (some (.int (if F = 0 ∧ tc ts i = 11045 then 1 else 0))) h := fun r Q => m_isSign T 45 (by decide) (by decide) r Q
  constructor
  · intro v cs h j F R r hj fin
    show Wp (pm dep + 2) P_M_sums 3 [.ref 342, .int (nI dep), v] [] h R
    rw [hd]
    have n5 : ¬ (F = 0 ∧ tc ts j = 11043) := by
      rintro ⟨z1, z2⟩
      have := hj.resolve_left (fun y => y z1)
      unfold jnt at this
      simp [z2] at this
    have n6 : ¬ (F = 0 ∧ tc ts j = 11045) := by
      rintro ⟨z1, z2⟩
      have := hj.resolve_left (fun y => y z1)
      unfold jnt at this
      simp [z2] at this
    simp only [b_M_sums_3, i5 r, if_neg n5, Option.toList, List.cons_append, List.nil_append, b_M_sums_6, b_M_sums_7, i6 r, if_neg n6, b_M_sums_10, b_M_sums_33, mem20, mem21, mem22, al20, al21, al33, al34, al36, al37, al38, aa33, aa34, aa36, aa37, aa38, true_and, and_true, Int32.reduceOfNat, forall_const, true_implies, implies_true, false_implies, not_true_eq_false, not_false_eq_true]
    exact fin h ⟨KM.rf, r⟩
  · intro v cs h j k i' F' cs' R r hj hk sub ho fin
    show Wp (pm dep + 2) P_M_sums 3 [.ref 342, .int (nI dep), v] [] h R
    have fin' : ∀ v h2, PM ts rd π h i' F' (cs ++ (cs' ++ [k])) h2 → Wp (pm dep + 2) P_M_sums 3 [.ref 342, .int (nI dep), v] [] h2 R := fin
    have sub' : MS ts rd π q_M_products [.ref 342, .int (nI dep)] (pm dep + 2) (j + 1) i' F' cs' := sub
    rw [hd] at fin' sub' ⊢
    obtain ⟨k1, k2, k3⟩ := jnt_r hj hk
    have cl := r.cl
    have go : ∀ s0 : Int32, (if s0 = 0 then 20007 else 20006) = k → Wp (d + 3) P_M_sums 14 [.ref 342, .int (nI dep), v] [.int s0] h R := by
      intro s0 hs
      have g := r.mv (j := 7) (v := nI (j + 1)) (i' := j + 1) (F' := 0) (Or.inl ⟨rfl, rfl, rfl⟩) (sgn_lt T r.lt k3) (by decide) (by omega)
      rw [b_M_sums_14]
      simp only [mo r.m, r.at, nI_1, true_and]
      refine (sub' cs _ g.2).mono ?_
      rintro r' h2 ⟨rfl, p2⟩
      have last : ∀ x : Int32, x = rop' k → Wp (d + 3) P_M_sums 30 [.ref 342, .int (nI dep), .int s0] [.int x, .ref 342] h2 R := by
        intro x hx
        rw [b_M_sums_30, hx]
        refine (m_emit T k 0 (fun z => by omega) p2.2 (by simp; omega)).mono ?_
        rintro r' h3 ⟨rfl, p3⟩
        simp only [Option.toList, List.cons_append, List.nil_append, b_M_sums_32]
        rw [List.append_assoc] at p3
        exact fin' _ h3 ((p3.pre p2.1).pre g.1)
      simp only [Option.toList, List.cons_append, List.nil_append, b_M_sums_24, b_M_sums_27, b_M_sums_29]
      by_cases q : s0 = 0
      · rw [if_pos q] at hs
        subst hs
        simp only [q, mem20, mem21, mem22, al20, al21, al33, al34, al36, al37, al38, aa33, aa34, aa36, aa37, aa38, true_and, and_true, Int32.reduceOfNat, forall_const, true_implies, implies_true, false_implies, not_true_eq_false, not_false_eq_true] at last ⊢
        exact last 5 (by decide)
      · rw [if_neg q] at hs
        subst hs
        simp only [q, mem20, mem21, mem22, al20, al21, al33, al34, al36, al37, al38, aa33, aa34, aa36, aa37, aa38, true_and, and_true, Int32.reduceOfNat, forall_const, true_implies, implies_true, false_implies, not_true_eq_false, not_false_eq_true]
        exact last 4 (by decide)
    by_cases q5 : tc ts j = 11043
    · have ek : 20006 = k := by rw [← hj]; unfold jnt; simp [q5]
      simp only [b_M_sums_3, i5 r, if_pos q5, Option.toList, List.cons_append, List.nil_append, b_M_sums_6, b_M_sums_11, show ¬ (1 : Int32) = 0 by decide, mem20, mem21, mem22, al20, al21, al33, al34, al36, al37, al38, aa33, aa34, aa36, aa37, aa38, true_and, and_true, Int32.reduceOfNat, forall_const, true_implies, implies_true, false_implies, not_true_eq_false, not_false_eq_true]
      exact go 1 (by rw [if_neg (by decide)]; exact ek)
    · have q6 : tc ts j = 11045 := by
        by_cases q6 : tc ts j = 11045
        · exact q6
        · exfalso
          apply hk
          rw [← hj]
          unfold jnt
          simp [q5, q6]
      have ek : 20007 = k := by rw [← hj]; unfold jnt; simp [q6]
      simp only [b_M_sums_3, i5 r, i6 r, if_neg q5, if_pos q6, Option.toList, List.cons_append, List.nil_append, b_M_sums_6, b_M_sums_7, b_M_sums_10, b_M_sums_11, show ¬ (1 : Int32) = 0 by decide, mem20, mem21, mem22, al20, al21, al33, al34, al36, al37, al38, aa33, aa34, aa36, aa37, aa38, true_and, and_true, Int32.reduceOfNat, forall_const, true_implies, implies_true, false_implies, not_true_eq_false, not_false_eq_true]
      exact go 0 (by rw [if_pos rfl]; exact ek)
theorem mlp_products (T : TOKS ts) : MLP ts rd π 3 dep (fun _ h R => Wp (pm dep + 1) P_M_products 3 [.ref 342, .int (nI dep)] [] h R) := by
  obtain ⟨d, hd⟩ : ∃ d, pm dep + 1 = d + 3 := ⟨pm dep - 2, by unfold pm; omega⟩
  have i5 : ∀ {i F cs h} (r : RM ts rd π i F cs h), Cl (d + 3) q_M_hasSign [.ref 342, .int 42] h (fun r' h' => if F = 0 ∧ tc ts i = 11042 then r' = some (.int 1) ∧ PM ts rd π h (i + 1) F cs h' else r' = some (.int 0) ∧ PM ts rd π h i F cs h') := fun r => m_hasSign T 42 (by decide) (by decide) r
  constructor
  · intro v cs h j F R r hj fin
    show Wp (pm dep + 1) P_M_products 3 [.ref 342, .int (nI dep)] [] h R
    rw [hd]
    have n5 : ¬ (F = 0 ∧ tc ts j = 11042) := by
      rintro ⟨z1, z2⟩
      have := hj.resolve_left (fun y => y z1)
      unfold jnt at this
      simp [z2] at this
    rw [b_M_products_3]
    refine (i5 r).mono ?_
    intro r' h' p
    rw [if_neg n5] at p
    obtain ⟨rfl, p⟩ := p
    simp only [Option.toList, List.cons_append, List.nil_append, b_M_products_6, b_M_products_15, mem20, mem21, mem22, al20, al21, al33, al34, al36, al37, al38, aa33, aa34, aa36, aa37, aa38, true_and, and_true, Int32.reduceOfNat, forall_const, true_implies, implies_true, false_implies, not_true_eq_false, not_false_eq_true]
    exact fin h' p
  · intro v cs h j k i' F' cs' R r hj hk sub ho fin
    show Wp (pm dep + 1) P_M_products 3 [.ref 342, .int (nI dep)] [] h R
    have fin' : ∀ (v : Value) h2, PM ts rd π h i' F' (cs ++ (cs' ++ [k])) h2 → Wp (pm dep + 1) P_M_products 3 [.ref 342, .int (nI dep)] [] h2 R := fin
    have sub' : MS ts rd π q_M_takePart [.ref 342, .int (nI dep)] (pm dep + 1) (j + 1) i' F' cs' := sub
    rw [hd] at fin' sub' ⊢
    obtain ⟨k1, k2, k3⟩ := jnt_r hj hk
    have cl := r.cl
    have q5 : tc ts j = 11042 := by
      by_cases q5 : tc ts j = 11042
      · exact q5
      · exfalso
        apply hk
        rw [← hj]
        unfold jnt
        simp [q5]
    have ek : 20008 = k := by rw [← hj]; unfold jnt; simp [q5]
    subst ek
    rw [b_M_products_3]
    refine (i5 r).mono ?_
    intro r' h1 p1
    rw [if_pos ⟨rfl, q5⟩] at p1
    obtain ⟨rfl, p1⟩ := p1
    simp only [Option.toList, List.cons_append, List.nil_append, b_M_products_6, b_M_products_7, show ¬ (1 : Int32) = 0 by decide, mem20, mem21, mem22, al20, al21, al33, al34, al36, al37, al38, aa33, aa34, aa36, aa37, aa38, true_and, and_true, Int32.reduceOfNat, forall_const, true_implies, implies_true, false_implies, not_true_eq_false, not_false_eq_true]
    refine (sub' cs h1 p1.2).mono ?_
    rintro r' h2 ⟨rfl, p2⟩
    simp only [Option.toList, List.cons_append, List.nil_append, b_M_products_10]
    have e6 : (6 : Int32) = rop' 20008 := by decide
    rw [e6]
    refine (m_emit T 20008 0 (fun z => by omega) p2.2 (by simp; omega)).mono ?_
    rintro r' h3 ⟨rfl, p3⟩
    simp only [Option.toList, List.cons_append, List.nil_append, b_M_products_14]
    rw [List.append_assoc] at p3
    exact fin' .null h3 ((p3.pre p2.1).pre p1.1)
/-- a level of joints, out of the level below -/
theorem chn_loop {lev : Nat} (T : TOKS ts) (hl : lev = 0 ∨ lev = 2 ∨ lev = 3) (hdp : dep ≤ 5) (D : Nat) (P : List IR) (hPM : pm dep + 1 + (4 - lev) = D + 1)
    (W3 : Value → AH → (Option Value → AH → Prop) → Prop) (W3m : ∀ v h (R R' : Option Value → AH → Prop), W3 v h R → (∀ r h', R r h' → R' r h') → W3 v h R') (ml : MLP ts rd π lev dep W3)
    (ent : ∀ h (Q : Option Value → AH → Prop), MLY h → Cl D (qmT (lev + 1)) [.ref 342, .int (nI dep)] h (fun r h' => r = none ∧ W3 .null h' (fun r h' => rtk none r = true ∧ Q r h')) → Cl (D + 1) (qmT lev) [.ref 342, .int (nI dep)] h Q)
    (i0 : Nat) (sub : ∀ j, i0 ≤ j → j < ts.length → CHN ts rd π nf (lev + 1) dep j) (j : Nat) (hj : i0 ≤ j) (hj2 : j < ts.length) : CHN ts rd π nf lev dep j := by
  have hD : 2 ≤ px dep + 1 + (5 - (lev + 1)) := by unfold px; omega
  have hlv : lev < 4 := by omega
  obtain ⟨i1, F1, c1, ⟨a1, a2, a3, a4, a5⟩, x1, m1⟩ := sub j hj hj2
  have eD : pm dep + 1 + (4 - (lev + 1)) = D := by omega
  rw [eD] at m1
  have x1' : XS ts rd q_Pa_chain [.ref 108, .int (nI (lev + 1)), .int (nI dep)] (px dep + 1 + (5 - (lev + 1))) j i1 F1 c1 := x1
  -- the way into the loop of the class
  have xin : ∀ (L : Nat) (xs : Nat → Int32) (cs : List Nat) (h : AH) (Q : Option Value → AH → Prop), RX L xs ts rd j 0 cs h → (∀ h1, PX L xs ts rd h i1 F1 (cs ++ c1) h1 → Wp (px dep + 1 + (5 - (lev + 1))) P_Pa_chain 22 [.ref 108, .int (nI lev), .int (nI dep), .int (nI 1000), .int (nI 0), .null] [] h1 (fun r h' => rtk none r = true ∧ Q r h')) → Cl (px dep + 1 + (5 - lev)) q_Pa_chain [.ref 108, .int (nI lev), .int (nI dep)] h Q := by
    intro L xs cs h Q r fin
    rw [show px dep + 1 + (5 - lev) = px dep + 1 + (5 - (lev + 1)) + 1 by omega, e_Pa_chain, b_Pa_chain_0]
    have z1 : nI lev < 4 := (nlt (b := 4) (by omega) (by decide)).mpr (by omega)
    have z2 : ¬ nI lev = 1 := mt (neq (b := 1) (by omega) (by decide)).mp (by omega)
    simp only [z1, b_Pa_chain_7, nI_1, xk_108 r.x, mem20, mem21, mem22, al20, al21, al33, al34, al36, al37, al38, aa33, aa34, aa36, aa37, aa38, true_and, and_true, Int32.reduceOfNat, forall_const, true_implies, implies_true, false_implies, not_true_eq_false, not_false_eq_true]
    refine (x1' L xs cs h r).mono ?_
    rintro r' h1 ⟨rfl, p1⟩
    simp only [Option.toList, List.cons_append, List.nil_append, b_Pa_chain_13, z2, b_Pa_chain_18, b_Pa_chain_19, mem20, mem21, mem22, al20, al21, al33, al34, al36, al37, al38, aa33, aa34, aa36, aa37, aa38, true_and, and_true, Int32.reduceOfNat, forall_const, true_implies, implies_true, false_implies, not_true_eq_false, not_false_eq_true]
    exact fin h1 p1
  by_cases qF : F1 = 0
  · subst qF
    obtain ⟨a6, a7⟩ := a5 rfl
    obtain ⟨i2, F2, c2, ⟨b1, b2, b3, b4, b5⟩, x2, m2⟩ := loop (nf := nf) T hlv (by omega) W3 W3m ml i0 sub ts.length i1 (by omega) (by omega) a2 (by omega)
    refine ⟨i2, F2, c1 ++ c2, ⟨by omega, b2, b3, by simp; omega, fun z => ⟨by omega, fun n hn => sgs_app (a7 n (by omega)) (b5 z n hn)⟩⟩, ?_, ?_⟩
    · intro L xs cs h r
      refine xin L xs cs h _ r ?_
      intro h1 p1
      refine (x2 L xs _ h1 .null 0 p1.2 (by omega)).mono ?_
      rintro r' h' ⟨rfl, p2⟩
      rw [List.append_assoc] at p2
      exact ⟨rtV, rfl, p2.pre p1.1⟩
    · intro cs h r
      rw [hPM]
      refine ent h _ r.m ((m1 cs h r).mono ?_)
      rintro r' h1 ⟨rfl, p1⟩
      refine ⟨rfl, ?_⟩
      refine W3m _ _ _ _ (m2 _ h1 .null p1.2) ?_
      rintro r' h' ⟨rfl, p2⟩
      rw [List.append_assoc] at p2
      exact ⟨rtV, rfl, p2.pre p1.1⟩
  · refine ⟨i1, F1, c1, ⟨a1, a2, a3, a4, fun z => absurd z qF⟩, ?_, ?_⟩
    · intro L xs cs h r
      refine xin L xs cs h _ r ?_
      intro h1 p1
      exact x_stop T hlv hD (Or.inl qF) p1.2 _ ⟨rtV, rfl, p1⟩
    · intro cs h r
      rw [hPM]
      refine ent h _ r.m ((m1 cs h r).mono ?_)
      rintro r' h1 ⟨rfl, p1⟩
      refine ⟨rfl, ?_⟩
      refine ml.1 .null _ h1 i1 F1 _ p1.2 (Or.inl qF) ?_
      intro h' p2
      exact ⟨rtV, rfl, p2.pre p1.1⟩
theorem chn3 (T : TOKS ts) (hdp : dep ≤ 5) (i0 : Nat) (sub : ∀ j, i0 ≤ j → j < ts.length → CHN ts rd π nf 4 dep j) (j : Nat) (hj : i0 ≤ j) (hj2 : j < ts.length) : CHN ts rd π nf 3 dep j := by
  refine chn_loop T (Or.inr (Or.inr rfl)) hdp (pm dep + 1) P_M_products (by omega) (fun _ h R => Wp (pm dep + 1) P_M_products 3 [.ref 342, .int (nI dep)] [] h R) (fun v h R R' q f => Wp.mono q f) (mlp_products T) ?_ i0 sub j hj hj2
  intro h Q m q
  show Cl (pm dep + 1 + 1) q_M_products _ _ _
  rw [e_M_products, b_M_products_0]
  refine ⟨mo m, q.mono ?_⟩
  rintro r h' ⟨rfl, w⟩
  exact w
theorem chn2 (T : TOKS ts) (hdp : dep ≤ 5) (i0 : Nat) (sub : ∀ j, i0 ≤ j → j < ts.length → CHN ts rd π nf 3 dep j) (j : Nat) (hj : i0 ≤ j) (hj2 : j < ts.length) : CHN ts rd π nf 2 dep j := by
  refine chn_loop T (Or.inr (Or.inl rfl)) hdp (pm dep + 2) P_M_sums (by omega) (fun v h R => Wp (pm dep + 2) P_M_sums 3 [.ref 342, .int (nI dep), v] [] h R) (fun v h R R' q f => Wp.mono q f) (mlp_sums T) ?_ i0 sub j hj hj2
  intro h Q m q
  show Cl (pm dep + 2 + 1) q_M_sums _ _ _
  rw [e_M_sums, b_M_sums_0]
  refine ⟨mo m, q.mono ?_⟩
  rintro r h' ⟨rfl, w⟩
  exact w
theorem chn0 (T : TOKS ts) (hdp : dep ≤ 5) (i0 : Nat) (sub : ∀ j, i0 ≤ j → j < ts.length → CHN ts rd π nf 1 dep j) (j : Nat) (hj : i0 ≤ j) (hj2 : j < ts.length) : CHN ts rd π nf 0 dep j := by
  refine chn_loop T (Or.inl rfl) hdp (pm dep + 4) P_M_all (by omega) (fun v h R => Wp (pm dep + 4) P_M_all 3 [.ref 342, .int (nI dep), v] [] h R) (fun v h R R' q f => Wp.mono q f) (mlp_all T) ?_ i0 sub j hj hj2
  intro h Q m q
  show Cl (pm dep + 4 + 1) q_M_all _ _ _
  rw [e_M_all, b_M_all_0]
  refine ⟨mo m, q.mono ?_⟩
  rintro r h' ⟨rfl, w⟩
  exact w
end CHNS
