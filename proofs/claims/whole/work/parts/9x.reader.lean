--deps: 9w.opbody
/-! A READER -/
def rHd (ts : List (Nat × Nat)) (i N : Nat) : Nat × Nat := if tc ts i = 10021 then (if N = 6 then (i, 5 + 16 * tp ts i) else if tc ts (i + 1) = 10022 then (i + 2, 0) else (i + 1, 1 + 16 * tp ts (i + 1))) else (i, 1 + 16 * tp ts i)
section RDR
variable {L : Nat} {xs : Nat → Int32} {ts : List (Nat × Nat)} {rd : Int32} {i d : Nat} {cs : List Nat} {h : AH}
theorem rHd_o (T : TOKS ts) (hi : i < ts.length) (N : Nat) : (rHd ts i N).1 < ts.length ∧ (rHd ts i N).2 < 20000 ∧ i ≤ (rHd ts i N).1 ∧ ((rHd ts i N).2 = 0 → (rHd ts i N).1 = i + 2 ∧ ¬ N = 6) := by
  have hp := (T.2.2 i hi).2.2
  unfold rHd
  by_cases q : tc ts i = 10021
  · rw [if_pos q]
    have h1 := sgn_lt T hi (show tc ts i ≠ 12000 by omega)
    have hp1 := (T.2.2 _ h1).2.2
    by_cases q2 : N = 6
    · rw [if_pos q2]
      exact ⟨hi, by simp only; omega, Nat.le_refl _, fun z => by simp only at z; omega⟩
    · rw [if_neg q2]
      by_cases q3 : tc ts (i + 1) = 10022
      · rw [if_pos q3]
        exact ⟨sgn_lt T h1 (show tc ts (i + 1) ≠ 12000 by omega), by simp only; omega, by simp only; omega, fun _ => ⟨rfl, q2⟩⟩
      · rw [if_neg q3]
        exact ⟨h1, by simp only; omega, by simp only; omega, fun z => by simp only at z; omega⟩
  · rw [if_neg q]
    exact ⟨hi, by simp only; omega, Nat.le_refl _, fun z => by simp only at z; omega⟩
theorem x_rhead (T : TOKS ts) (N : Nat) (hN : N ≤ 6) (r : RX L xs ts rd i 0 cs h) (eN : hI h 117 2 = nI N) : Cl (d + 3) q_Pa_takeReaderHead [.ref 108] h (fun r' h' => r' = some (.int (nI N)) ∧ PX L xs ts rd h (rHd ts i N).1 (rHd ts i N).2 cs h') := by
  have x := r.x
  have w21 : wref (tc ts i) = 23 ↔ tc ts i = 10021 := wref_eq (r := 21) (by decide)
  have wr := wref_r (tc ts i)
  have n6 : nI N < 6 ↔ N < 6 := nlt (b := 6) (by omega) (by decide)
  have last : ∀ {j F : Nat} {h1 : AH}, PX L xs ts rd h j F cs h1 → rHd ts i N = (j, F) → Wp (d + 2) P_Pa_takeReaderHead 18 [.ref 108] [] h1 (fun r' h' => rtk (some .int) r' = true ∧ r' = some (.int (nI N)) ∧ PX L xs ts rd h (rHd ts i N).1 (rHd ts i N).2 cs h') := by
    intro j F h1 p e
    have x1 := p.2.x
    rw [b_Pa_takeReaderHead_18]
    simp only [xk_108 x1, xr_108_2 x1, xk_117 x1, p.1.2, eN, true_and]
    rw [e]
    exact ⟨rtI _, p⟩
  have dead : ∀ {j F : Nat} {h1 : AH}, F ≠ 0 → PX L xs ts rd h j F cs h1 → rHd ts i N = (j, F) → Wp (d + 2) P_Pa_takeReaderHead 15 [.ref 108] [] h1 (fun r' h' => rtk (some .int) r' = true ∧ r' = some (.int (nI N)) ∧ PX L xs ts rd h (rHd ts i N).1 (rHd ts i N).2 cs h') := by
    intro j F h1 hF p e
    rw [b_Pa_takeReaderHead_15]
    refine (x_takeWord0 (d := d) 22 (by decide) hF p.2 _).mpr ?_
    simp only [Option.toList, List.cons_append, List.nil_append]
    exact last p e
  have from12 : ¬ (tc ts i = 10021 ∧ N = 6) → Wp (d + 2) P_Pa_takeReaderHead 12 [.ref 108] [] h (fun r' h' => rtk (some .int) r' = true ∧ r' = some (.int (nI N)) ∧ PX L xs ts rd h (rHd ts i N).1 (rHd ts i N).2 cs h') := by
    intro nq
    rw [b_Pa_takeReaderHead_12]
    refine (x_takeWord (d := d) T 21 (by decide) r).mono ?_
    rintro r' h1 ⟨rfl, p1⟩
    simp only [Option.toList, List.cons_append, List.nil_append]
    by_cases q : tc ts i = 10021
    · rw [if_pos q] at p1
      have nn : ¬ N = 6 := fun z => nq ⟨q, z⟩
      rw [b_Pa_takeReaderHead_15]
      refine (x_takeWord (d := d) T 22 (by decide) p1.2).mono ?_
      rintro r' h2 ⟨rfl, p2⟩
      simp only [Option.toList, List.cons_append, List.nil_append]
      by_cases q2 : tc ts (i + 1) = 10022
      · rw [if_pos q2] at p2
        exact last (p2.pre p1.1) (by unfold rHd; rw [if_pos q, if_neg nn, if_pos q2])
      · rw [if_neg q2] at p2
        exact last (p2.pre p1.1) (by unfold rHd; rw [if_pos q, if_neg nn, if_neg q2])
    · rw [if_neg q] at p1
      exact dead (by omega) p1 (by unfold rHd; rw [if_neg q])
  rw [e_Pa_takeReaderHead, b_Pa_takeReaderHead_0]
  simp only [xk_108 x, xr_108_2 x, xk_117 x, eN, n6, true_and]
  refine ⟨fun z => from12 (by omega), fun z => ?_⟩
  rw [b_Pa_takeReaderHead_5]
  simp only [xk_108 x, r.w, w21, wr.1, wr.2, show (2 : Nat) ≤ 23 by decide, show (23 : Nat) ≤ 25 by decide, true_and]
  refine ⟨fun q => ?_, fun q => from12 (fun y => q y.1)⟩
  have nn : N = 6 := by omega
  rw [b_Pa_takeReaderHead_9]
  refine (x_wrong T 5 (by decide) r).mono ?_
  rintro r' h1 ⟨rfl, p1⟩
  simp only [Option.toList, List.cons_append, List.nil_append, b_Pa_takeReaderHead_12]
  have hF : 5 + 16 * tp ts i ≠ 0 := by omega
  refine (x_takeWord0 (d := d) 21 (by decide) hF p1.2 _).mpr ?_
  simp only [Option.toList, List.cons_append, List.nil_append]
  exact dead hF p1 (by unfold rHd; rw [if_pos q, if_pos nn])
end RDR
/-- where lines begin in the codes of the reference, counted -/
def BR (h : AH) (D : LD) (N : Nat) : Prop := hI h 361 4 = nI N ∧ ∀ k, k < N → ∀ sx sm c, D k = some (sx, sm, c) → hI h 362 (24 + k) = nI sm
/-- what the head leaves in the reference's rows -/
def brH (h : AH) (N n : Nat) : AH := sI (sI h 362 (24 + N) (nI n)) 361 4 (nI (N + 1))
theorem brH_k {h : AH} {N n : Nat} : KB h (brH h N n) := by
  unfold brH
  refine ⟨(Fr.rfl'.sI (Or.inr (by decide))).sI (Or.inr (by decide)), fun j _ _ _ => by rw [rI_sI (by decide), rI_sI (by decide)], fun j _ => by rw [rI_sI (show 357 ≠ 361 by decide), rI_sI (show 357 ≠ 362 by decide), rI_sI (show 358 ≠ 361 by decide), rI_sI (show 358 ≠ 362 by decide)]; exact ⟨rfl, rfl⟩, fun j hj => by rw [hI_same, if_neg (by omega), rI_sI (by decide)], fun j hj => by rw [rI_sI (by decide), hI_same, if_neg (by omega)]⟩
theorem reader_all {ts : List (Nat × Nat)} (T : TOKS ts) : ∀ (m i : Nat) (D : LD) (cx cm : List Nat) (N : Nat), ts.length - i ≤ m → i < ts.length → LOk 20 D cx cm → (∀ l, (D l).isSome = true ↔ l < N) → N ≤ 6 → cx.length + 3 * N ≤ i → (N = 0 → cx = []) → cm.length ≤ i →
    ∃ (i' F' : Nat) (D' : LD) (cx' cm' : List Nat) (N' : Nat), (F' = 0 → LOk 20 D' cx' cm' ∧ (∀ l, (D' l).isSome = true ↔ l < N') ∧ N' ≤ 6 ∧ cx'.length < 1000 ∧ cm'.length ≤ 1000) ∧ F' < 20000 ∧
      (∀ (L : Nat) (xs : Nat → Int32) (h : AH) (R : Option Value → AH → Prop), RX L xs ts 1 i 0 cx h → BX h D N → (∀ h', Fr xls nov h h' → RX L xs ts 1 i' F' cx' h' → (F' = 0 → BX h' D' N') → R (some (.int (nI F'))) h') → Wp 42 P_Pa_readReader 8 [.ref 108, .int (nI N)] [] h R) ∧
      (∀ (h : AH) (x1 : Int32) (R : Option Value → AH → Prop), RM ts 1 pr i 0 cm h → BR h D N → (∀ h', KB h h' → RM ts 1 pr i' F' cm' h' → (F' = 0 → BR h' D' N') → Wp 36 P_M_reader 86 [.ref 342, .int x1, .null] [] h' R) → Wp 36 P_M_reader 26 [.ref 342, .int x1, .null] [] h R) := by
  have T1 := T.2.1
  intro m
  induction m with
  | zero => intro i D cx cm N h1 h2; omega
  | succ m ih =>
    intro i D cx cm N h1 h2 o hDN N6 hcx hcx0 hcm
    have ct := cdOk_lt (T.2.2 i h2).1
    have hp := (T.2.2 i h2).2.2
    have z12 : nI (tc ts i) = 12000 ↔ tc ts i = 12000 := neq (b := 12000) (by omega) (by decide)
    have zN : ¬ (6 : Int32) < nI N := mt (nlt (a := 6) (by decide) (by omega)).mp (by omega)
    have i1 : ixo (nI i) 1002 = true := nix (by omega) (by decide)
    have i4 : ixo 4 5 = true := by decide
    have xend : ∀ {L : Nat} {xs : Nat → Int32} {h : AH} {R : Option Value → AH → Prop} {j F k : Nat} {c : List Nat}, F ≠ 0 → RX L xs ts 1 j F c h → R (some (.int (nI F))) h → Wp 42 P_Pa_readReader 8 [.ref 108, .int (nI k)] [] h R := by
      intro L xs h R j F k c hF r fin
      have z : ¬ nI F = 0 := mt (nI0 (by have := r.Fl; omega)).mp hF
      have last : Wp 42 P_Pa_readReader 20 [.ref 108, .int (nI k)] [] h R := by
        rw [b_Pa_readReader_20, r.f]
        exact ⟨xk_108 r.x, fin⟩
      rw [b_Pa_readReader_8]
      refine ⟨fun _ => last, fun _ => ?_⟩
      simp only [b_Pa_readReader_11, e_Pa_goesOn, b_Pa_goesOn_0, b_Pa_goesOn_3, b_Pa_goesOn_7, b_Pa_goesOn_9, b_Pa_goesOn_10, xk_108 r.x, r.f, z, Option.toList, List.cons_append, List.nil_append, b_Pa_readReader_13, rtZ0, mem20, mem21, mem22, al20, al21, al33, al34, al36, al37, al38, aa33, aa34, aa36, aa37, aa38, true_and, and_true, Int32.reduceOfNat, forall_const, true_implies, implies_true, false_implies, not_true_eq_false, not_false_eq_true]
      exact last
    have mend : ∀ {h : AH} {R : Option Value → AH → Prop} {j F : Nat} {x1 : Int32} {c : List Nat}, F ≠ 0 → RM ts 1 pr j F c h → Wp 36 P_M_reader 86 [.ref 342, .int x1, .null] [] h R → Wp 36 P_M_reader 26 [.ref 342, .int x1, .null] [] h R := by
      intro h R j F x1 c hF r fin
      have z : ¬ nI F = 0 := mt (nI0 (by have := r.Fl; omega)).mp hF
      rw [b_M_reader_26]
      simp only [mo r.m, r.f, z, mem20, mem21, mem22, al20, al21, al33, al34, al36, al37, al38, aa33, aa34, aa36, aa37, aa38, true_and, and_true, Int32.reduceOfNat, forall_const, true_implies, implies_true, false_implies, not_true_eq_false, not_false_eq_true]
      exact fin
    by_cases qe : tc ts i = 12000
    · have iT := (T.2.2 i h2).2.1.mp qe
      refine ⟨i, 0, D, cx, cm, N, fun _ => ⟨o, hDN, N6, ?_, by omega⟩, by decide, ?_, ?_⟩
      · by_cases z : N = 0
        · rw [hcx0 z]; decide
        · omega
      · intro L xs h R r b fin
        have f0 : hI h 108 4 = 0 := r.f
        rw [b_Pa_readReader_8]
        simp only [zN, b_Pa_readReader_11, e_Pa_goesOn, b_Pa_goesOn_0, b_Pa_goesOn_3, b_Pa_goesOn_7, b_Pa_goesOn_9, b_Pa_goesOn_10, xk_108 r.x, f0, r.cd, z12.mpr qe, Option.toList, List.cons_append, List.nil_append, b_Pa_readReader_13, rtZ0, b_Pa_readReader_20, mem20, mem21, mem22, al20, al21, al33, al34, al36, al37, al38, aa33, aa34, aa36, aa37, aa38, true_and, and_true, Int32.reduceOfNat, forall_const, true_implies, implies_true, false_implies, not_true_eq_false, not_false_eq_true]
        exact fin h Fr.rfl' r (fun _ => b)
      · intro h x1 R r b fin
        have f0 : hI h 342 8 = 0 := r.f
        have se := srt_end (T.2.2 i h2).1 r.tv
        have mm := r.m
        rw [b_M_reader_26]
        simp only [mo mm, f0, b_M_reader_29, mr_4 mm, mk_344 mm, mn_344 mm, r.at, i1, cN (show i < 2147483648 by omega), se, qe, mem20, mem21, mem22, al20, al21, al33, al34, al36, al37, al38, aa33, aa34, aa36, aa37, aa38, true_and, and_true, Int32.reduceOfNat, forall_const, true_implies, implies_true, false_implies, not_true_eq_false, not_false_eq_true]
        exact fin h KB.rf r (fun _ => b)
    · obtain ⟨o1, o2, o3, o5⟩ := rHd_o T h2 N
      have xhd : ∀ {L : Nat} {xs : Nat → Int32} {h : AH} {R : Option Value → AH → Prop}, RX L xs ts 1 i 0 cx h → BX h D N → (∀ h1, PX L xs ts 1 h (rHd ts i N).1 (rHd ts i N).2 cx h1 → Cl 42 q_Pa_takeLaw [.ref 108, .int (nI N)] h1 (fun r' h' => r' = none ∧ Wp 42 P_Pa_readReader 8 [.ref 108, .int (nI (N + 1))] [] h' R)) → Wp 42 P_Pa_readReader 8 [.ref 108, .int (nI N)] [] h R := by
        intro L xs h R r b fin
        have f0 : hI h 108 4 = 0 := r.f
        rw [b_Pa_readReader_8]
        simp only [zN, b_Pa_readReader_11, e_Pa_goesOn, b_Pa_goesOn_0, b_Pa_goesOn_3, b_Pa_goesOn_7, b_Pa_goesOn_9, b_Pa_goesOn_10, xk_108 r.x, f0, r.cd, z12, qe, Option.toList, List.cons_append, List.nil_append, b_Pa_readReader_13, rtZ1, b_Pa_readReader_14, show ¬ (1 : Int32) = 0 by decide, mem20, mem21, mem22, al20, al21, al33, al34, al36, al37, al38, aa33, aa34, aa36, aa37, aa38, true_and, and_true, Int32.reduceOfNat, forall_const, true_implies, implies_true, false_implies, not_true_eq_false, not_false_eq_true]
        refine (x_rhead (d := 39) T N N6 r b.1).mono ?_
        rintro r' h1 ⟨rfl, p1⟩
        simp only [Option.toList, List.cons_append, List.nil_append, b_Pa_readReader_17]
        refine (fin h1 p1).mono ?_
        rintro r' h' ⟨rfl, w⟩
        simp only [Option.toList, List.cons_append, List.nil_append, b_Pa_readReader_18, nI_1]
        exact w
      -- into the loop of the reference
      have mgo : ∀ {h : AH} {x1 : Int32} {R : Option Value → AH → Prop}, RM ts 1 pr i 0 cm h → Wp 36 P_M_reader 35 [.ref 342, .int x1, .null] [] h R → Wp 36 P_M_reader 26 [.ref 342, .int x1, .null] [] h R := by
        intro h x1 R r w
        have f0 : hI h 342 8 = 0 := r.f
        have se := srt_end (T.2.2 i h2).1 r.tv
        have mm := r.m
        rw [b_M_reader_26]
        simp only [mo mm, f0, b_M_reader_29, mr_4 mm, mk_344 mm, mn_344 mm, r.at, i1, cN (show i < 2147483648 by omega), se, qe, mem20, mem21, mem22, al20, al21, al33, al34, al36, al37, al38, aa33, aa34, aa36, aa37, aa38, true_and, and_true, Int32.reduceOfNat, forall_const, true_implies, implies_true, false_implies, not_true_eq_false, not_false_eq_true]
        exact w
      have w3 : ∀ {h : AH} (r : RM ts 1 pr i 0 cm h) (Q : Option Value → AH → Prop), Cl 36 q_M_isWord [.ref 342, .int 3] h Q ↔ Q (some (.int (if 0 = 0 ∧ tc ts i = 10021 then 1 else 0))) h := fun r Q => m_isWord T 3 (by decide) r Q
      have n6 : nI N = 6 ↔ N = 6 := neq (b := 6) (by omega) (by decide)
      -- a fault at the word says
      have flt : ∀ k, k = 1 ∨ k = 5 → rHd ts i N = (i, k + 16 * tp ts i) → (∀ {h : AH} {x1 : Int32} {R : Option Value → AH → Prop}, RM ts 1 pr i 0 cm h → BR h D N → (∀ h1, PM ts 1 pr h i (k + 16 * tp ts i) cm h1 → Wp 36 P_M_reader 52 [.ref 342, .int x1, .null] [] h1 R) → Wp 36 P_M_reader 35 [.ref 342, .int x1, .null] [] h R) → ∃ (i' F' : Nat) (D' : LD) (cx' cm' : List Nat) (N' : Nat), (F' = 0 → LOk 20 D' cx' cm' ∧ (∀ l, (D' l).isSome = true ↔ l < N') ∧ N' ≤ 6 ∧ cx'.length < 1000 ∧ cm'.length ≤ 1000) ∧ F' < 20000 ∧
          (∀ (L : Nat) (xs : Nat → Int32) (h : AH) (R : Option Value → AH → Prop), RX L xs ts 1 i 0 cx h → BX h D N → (∀ h', Fr xls nov h h' → RX L xs ts 1 i' F' cx' h' → (F' = 0 → BX h' D' N') → R (some (.int (nI F'))) h') → Wp 42 P_Pa_readReader 8 [.ref 108, .int (nI N)] [] h R) ∧
          (∀ (h : AH) (x1 : Int32) (R : Option Value → AH → Prop), RM ts 1 pr i 0 cm h → BR h D N → (∀ h', KB h h' → RM ts 1 pr i' F' cm' h' → (F' = 0 → BR h' D' N') → Wp 36 P_M_reader 86 [.ref 342, .int x1, .null] [] h' R) → Wp 36 P_M_reader 26 [.ref 342, .int x1, .null] [] h R) := by
        intro k hk eH way
        have hF : k + 16 * tp ts i ≠ 0 := by omega
        refine ⟨i, k + 16 * tp ts i, D, cx, cm, N, fun z => absurd z hF, by omega, ?_, ?_⟩
        · intro L xs h R r b fin
          refine xhd r b (fun h1 p => ?_)
          rw [eH] at p
          refine (x_law0 T (Or.inr rfl) hF N N (by omega) p.2 (by rw [p.1.2]; exact b.1)).mono ?_
          rintro r' h2 ⟨rfl, fr2, r2⟩
          exact ⟨rfl, xend hF r2 (fin h2 ((p.1.1.mo (fun a z => Or.inl z) (fun a z => z)).tr fr2) r2 (fun z => absurd z hF))⟩
        · intro h x1 R r b fin
          refine mgo r (way r b (fun h1 p => ?_))
          have z : ¬ nI (k + 16 * tp ts i) = 0 := mt (nI0 (by omega)).mp hF
          rw [b_M_reader_52]
          simp only [mo p.2.m, p.2.f, z, mem20, mem21, mem22, al20, al21, al33, al34, al36, al37, al38, aa33, aa34, aa36, aa37, aa38, true_and, and_true, Int32.reduceOfNat, forall_const, true_implies, implies_true, false_implies, not_true_eq_false, not_false_eq_true]
          exact mend hF p.2 (fin h1 (KB.km p.1) p.2 (fun z => absurd z hF))
      by_cases q : tc ts i = 10021
      · by_cases qN : N = 6
        · refine flt 5 (Or.inr rfl) (by unfold rHd; rw [if_pos q, if_pos qN]) ?_
          intro h x1 R r b fin
          have mm := r.m
          rw [b_M_reader_35, w3 r, if_pos ⟨rfl, q⟩]
          simp only [Option.toList, List.cons_append, List.nil_append, b_M_reader_38, show ¬ (1 : Int32) = 0 by decide, b_M_reader_43, mo mm, mr_26 mm, mk_361 mm, mn_361 mm, i4, tn4, b.1, n6.mpr qN, b_M_reader_49, mem20, mem21, mem22, al20, al21, al33, al34, al36, al37, al38, aa33, aa34, aa36, aa37, aa38, true_and, and_true, Int32.reduceOfNat, forall_const, true_implies, implies_true, false_implies, not_true_eq_false, not_false_eq_true]
          refine (m_wrong T 5 (by decide) r).mono ?_
          rintro r' h1 ⟨rfl, p⟩
          simp only [Option.toList, List.cons_append, List.nil_append]
          exact fin h1 p
        · -- the words says and when
          have h1l := sgn_lt T h2 (show tc ts i ≠ 12000 by omega)
          have hp1 := (T.2.2 _ h1l).2.2
          have eH : rHd ts i N = if tc ts (i + 1) = 10022 then (i + 2, 0) else (i + 1, 1 + 16 * tp ts (i + 1)) := by unfold rHd; rw [if_pos q, if_neg qN]
          have mh : ∀ {h : AH} {x1 : Int32} {R : Option Value → AH → Prop}, RM ts 1 pr i 0 cm h → BR h D N → (∀ h1, PM ts 1 pr h (rHd ts i N).1 (rHd ts i N).2 cm h1 → Cl 36 q_M_readWhole [.ref 342] (brH h1 N cm.length) (fun r' h' => r' = none ∧ Wp 36 P_M_reader 26 [.ref 342, .int x1, .null] [] h' R)) → Wp 36 P_M_reader 26 [.ref 342, .int x1, .null] [] h R := by
            intro h x1 R r b fin
            have mm := r.m
            refine mgo r ?_
            have f0 : hI h 342 8 = 0 := r.f
            have g := r.mv (j := 7) (v := nI (i + 1)) (i' := i + 1) (F' := 0) (Or.inl ⟨rfl, rfl, rfl⟩) h1l (by decide) (by have := r.cl; omega)
            rw [b_M_reader_35, w3 r, if_pos ⟨rfl, q⟩]
            simp only [Option.toList, List.cons_append, List.nil_append, b_M_reader_38, show ¬ (1 : Int32) = 0 by decide, b_M_reader_43, mo mm, mr_26 mm, mk_361 mm, mn_361 mm, i4, tn4, b.1, n6, qN, b_M_reader_52, f0, b_M_reader_55, r.at, nI_1, mem20, mem21, mem22, al20, al21, al33, al34, al36, al37, al38, aa33, aa34, aa36, aa37, aa38, true_and, and_true, Int32.reduceOfNat, forall_const, true_implies, implies_true, false_implies, not_true_eq_false, not_false_eq_true]
            refine (m_takeWord (d := 33) T 4 (by decide) g.2).mono ?_
            rintro r' h2 ⟨rfl, p2⟩
            have p3 : PM ts 1 pr h (rHd ts i N).1 (rHd ts i N).2 cm h2 := by
              rw [eH]
              by_cases q2 : tc ts (i + 1) = 10022
              · have q2' : tc ts (i + 1) = 10000 + rwo 4 := q2
                rw [if_pos q2'] at p2
                rw [if_pos q2]
                exact p2.pre g.1
              · have q2' : ¬ tc ts (i + 1) = 10000 + rwo 4 := q2
                rw [if_neg q2'] at p2
                rw [if_neg q2]
                exact p2.pre g.1
            have m2 := p3.2.m
            have e61 : hI h2 361 = hI h 361 := p3.1.1.I (by unfold mps; decide)
            have e20 : hI h2 342 20 = nI cm.length := p3.2.2.2.2.2.2.1
            have e24 : (24 : Int32) + nI N = nI (24 + N) := nadd 24 N
            have i30 : ixo (nI (24 + N)) 30 = true := nix (by omega) (by decide)
            simp only [Option.toList, List.cons_append, List.nil_append, b_M_reader_64, mo m2, hK_sI, hR_sI, hN_sI, mr_26 m2, mr_27 m2, mk_361 m2, mn_361 m2, mk_362 m2, mn_362 m2, i4, tn4, rI_sI (show 361 ≠ 362 by decide), e61, b.1, e24, i30, e20, nI_1, cN (show 24 + N < 2147483648 by omega), mem20, mem21, mem22, al20, al21, al33, al34, al36, al37, al38, aa33, aa34, aa36, aa37, aa38, true_and, and_true, Int32.reduceOfNat, forall_const, true_implies, implies_true, false_implies, not_true_eq_false, not_false_eq_true]
            refine (fin h2 p3).mono ?_
            rintro r' h4 ⟨rfl, w⟩
            simp only [Option.toList, List.cons_append, List.nil_append, b_M_reader_85]
            exact w
          have brr : ∀ {j F : Nat} {h1 : AH} {c : List Nat}, RM ts 1 pr j F c h1 → RM ts 1 pr j F c (brH h1 N cm.length) := fun r => r.fr (S := fun a => a = 361 ∨ a = 362) ((Fr.rfl'.sI (Or.inr rfl)).sI (Or.inl rfl)) (fun a z => by omega)
          by_cases q2 : tc ts (i + 1) = 10022
          · rw [if_pos q2] at eH
            have h2l := sgn_lt T h1l (show tc ts (i + 1) ≠ 12000 by omega)
            obtain ⟨i2, F2, c2, ⟨a1, a2, a3, a4, a5⟩, x2, m2⟩ := expr (rd := 1) (π := pr) (nf := 20) T (Or.inr ⟨rfl, rfl, rfl⟩) (i + 2) h2l
            obtain ⟨l1, l2, l3, l4⟩ := lwE_o T a2 a3
            have Dn : D N = none := by
              have := hDN N
              cases e : D N with
              | none => rfl
              | some v => rw [e] at this; exact absurd (this.mp rfl) (by omega)
            have xl : ∀ {L : Nat} {xs : Nat → Int32} {h h1 : AH} {R : Option Value → AH → Prop}, BX h D N → PX L xs ts 1 h (rHd ts i N).1 (rHd ts i N).2 cx h1 → (∀ h', Fr xls nov h h' → RX L xs ts 1 (lwE ts i2 F2).1 (lwE ts i2 F2).2 (cx ++ c2) h' → BX h' (upD D N (cx.length, cm.length, c2)) (N + 1) → Wp 42 P_Pa_readReader 8 [.ref 108, .int (nI (N + 1))] [] h' R) → Cl 42 q_Pa_takeLaw [.ref 108, .int (nI N)] h1 (fun r' h' => r' = none ∧ Wp 42 P_Pa_readReader 8 [.ref 108, .int (nI (N + 1))] [] h' R) := by
              intro L xs h h1 R b p fin
              rw [eH] at p
              refine (x_law T N N (by omega) (fun h r => x2 L xs cx h r) p.2 (by rw [p.1.2]; exact b.1)).mono ?_
              rintro r' h' ⟨rfl, fr', r2, g1, g2⟩
              refine ⟨rfl, fin h' ((p.1.1.mo (fun a z => Or.inl z) (fun a z => z)).tr fr') r2 ?_⟩
              obtain ⟨g3, g4, g5⟩ := g1 (by omega)
              refine ⟨g5, fun l hl => ?_⟩
              unfold upD
              by_cases ql : l = N
              · rw [if_pos ql, ql]
                show hI h' 118 _ = nI cx.length ∧ hI h' 119 _ = nI (cx.length + c2.length)
                rw [g3, g4]
                simp
              · rw [if_neg ql]
                obtain ⟨g6, g7⟩ := g2 l ql
                have e18 : hI h1 118 = hI h 118 := p.1.1.I (by unfold xps; decide)
                have e19 : hI h1 119 = hI h 119 := p.1.1.I (by unfold xps; decide)
                rw [g6, g7, e18, e19]
                exact b.2 l hl
            have ml : ∀ {h h1 : AH} {x1 : Int32} {R : Option Value → AH → Prop}, BR h D N → PM ts 1 pr h (rHd ts i N).1 (rHd ts i N).2 cm h1 → (∀ h', KB h h' → RM ts 1 pr (lwE ts i2 F2).1 (lwE ts i2 F2).2 (cm ++ c2 ++ [30000]) h' → BR h' (upD D N (cx.length, cm.length, c2)) (N + 1) → Wp 36 P_M_reader 26 [.ref 342, .int x1, .null] [] h' R) → Cl 36 q_M_readWhole [.ref 342] (brH h1 N cm.length) (fun r' h' => r' = none ∧ Wp 36 P_M_reader 26 [.ref 342, .int x1, .null] [] h' R) := by
              intro h h1 x1 R b p fin
              rw [eH] at p
              have r1 := brr p.2
              have k1 := brH_k (h := h1) (N := N) (n := cm.length)
              have e61 : hI h1 361 = hI h 361 := p.1.1.I (by unfold mps; decide)
              have e62 : hI h1 362 = hI h 362 := p.1.1.I (by unfold mps; decide)
              have b1 : BR (brH h1 N cm.length) (upD D N (cx.length, cm.length, c2)) (N + 1) := by
                unfold brH
                refine ⟨by rw [hI_same, if_pos rfl], fun k hk sx sm c e => ?_⟩
                rw [rI_sI (by decide), hI_same]
                unfold upD at e
                by_cases qk : k = N
                · rw [if_pos qk] at e
                  cases e
                  rw [if_pos (by omega)]
                · rw [if_neg qk] at e
                  rw [if_neg (by omega), e62]
                  exact b.2 k (by omega) sx sm c e
              generalize brH h1 N cm.length = h2 at r1 k1 b1
              refine (m_whole T (m2 cm h2 r1) r1.m (by simp; omega)).mono ?_
              rintro r' h3 ⟨rfl, p3⟩
              refine ⟨rfl, fin h3 (((KB.km p.1).tr k1).tr (KB.km p3.1)) p3.2 ?_⟩
              have f61 : hI h3 361 = hI h2 361 := p3.1.1.I (by unfold mps; decide)
              have f62 : hI h3 362 = hI h2 362 := p3.1.1.I (by unfold mps; decide)
              unfold BR
              rw [f61, f62]
              exact b1
            by_cases q3 : (lwE ts i2 F2).2 = 0
            · obtain ⟨f2, f3⟩ := l4 q3
              obtain ⟨a6, a7⟩ := a5 f2
              have oc : oks 20 c2 0 := sgs_oks (a7 0 (by decide)) (by decide) (by decide)
              have cl := oks_len oc
              have hDN' : ∀ l, ((upD D N (cx.length, cm.length, c2)) l).isSome = true ↔ l < N + 1 := by
                intro l
                unfold upD
                by_cases ql : l = N
                · rw [if_pos ql]; exact ⟨fun _ => by omega, fun _ => rfl⟩
                · rw [if_neg ql, hDN l]; omega
              obtain ⟨i', F', D', cx', cm', N', g1, g2, g3, g4⟩ := ih (lwE ts i2 F2).1 (upD D N (cx.length, cm.length, c2)) (cx ++ c2) (cm ++ c2 ++ [30000]) (N + 1) (by omega) l1 (o.up oc) hDN' (by omega) (by simp; omega) (fun z => by omega) (by simp; omega)
              refine ⟨i', F', D', cx', cm', N', g1, g2, ?_, ?_⟩
              · intro L xs h R r b fin
                refine xhd r b (fun h1 p => xl b p (fun h2 fr2 r2 b2 => ?_))
                rw [q3] at r2
                exact g3 L xs h2 R r2 b2 (fun h' fr' r' b' => fin h' (fr2.tr fr') r' b')
              · intro h x1 R r b fin
                refine mh r b (fun h1 p => ml b p (fun h2 k2 r2 b2 => ?_))
                rw [q3] at r2
                exact g4 h2 x1 R r2 b2 (fun h' k' r' b' => fin h' (k2.tr k') r' b')
            · refine ⟨(lwE ts i2 F2).1, (lwE ts i2 F2).2, D, cx ++ c2, cm ++ c2 ++ [30000], N, fun z => absurd z q3, l2, ?_, ?_⟩
              · intro L xs h R r b fin
                refine xhd r b (fun h1 p => xl b p (fun h2 fr2 r2 b2 => ?_))
                exact xend q3 r2 (fin h2 fr2 r2 (fun z => absurd z q3))
              · intro h x1 R r b fin
                refine mh r b (fun h1 p => ml b p (fun h2 k2 r2 b2 => ?_))
                exact mend q3 r2 (fin h2 k2 r2 (fun z => absurd z q3))
          · rw [if_neg q2] at eH
            have hF : 1 + 16 * tp ts (i + 1) ≠ 0 := by omega
            refine ⟨i + 1, 1 + 16 * tp ts (i + 1), D, cx, cm ++ [] ++ [30000], N, fun z => absurd z hF, by omega, ?_, ?_⟩
            · intro L xs h R r b fin
              refine xhd r b (fun h1 p => ?_)
              rw [eH] at p
              refine (x_law0 T (Or.inr rfl) hF N N (by omega) p.2 (by rw [p.1.2]; exact b.1)).mono ?_
              rintro r' h2 ⟨rfl, fr2, r2⟩
              exact ⟨rfl, xend hF r2 (fin h2 ((p.1.1.mo (fun a z => Or.inl z) (fun a z => z)).tr fr2) r2 (fun z => absurd z hF))⟩
            · intro h x1 R r b fin
              refine mh r b (fun h1 p => ?_)
              rw [eH] at p
              have r1 := brr p.2
              have k1 := brH_k (h := h1) (N := N) (n := cm.length)
              have a0 := m_all0 T hF r1
              refine (m_whole (c1 := []) T (by rw [List.append_nil]; exact a0) r1.m (by simp; omega)).mono ?_
              rintro r' h3 ⟨rfl, p3⟩
              have e3 : lwE ts (i + 1) (1 + 16 * tp ts (i + 1)) = (i + 1, 1 + 16 * tp ts (i + 1)) := by unfold lwE; rw [if_neg hF]
              have r3 := p3.2
              rw [e3] at r3
              exact ⟨rfl, mend hF r3 (fin h3 (((KB.km p.1).tr k1).tr (KB.km p3.1)) r3 (fun z => absurd z hF))⟩
      · refine flt 1 (Or.inl rfl) (by unfold rHd; rw [if_neg q]) ?_
        intro h x1 R r b fin
        rw [b_M_reader_35, w3 r, if_neg (fun z => q z.2)]
        simp only [Option.toList, List.cons_append, List.nil_append, b_M_reader_38, b_M_reader_39, mem20, mem21, mem22, al20, al21, al33, al34, al36, al37, al38, aa33, aa34, aa36, aa37, aa38, true_and, and_true, Int32.reduceOfNat, forall_const, true_implies, implies_true, false_implies, not_true_eq_false, not_false_eq_true]
        refine (m_wrong T 1 (by decide) r).mono ?_
        rintro r' h1 ⟨rfl, p⟩
        simp only [Option.toList, List.cons_append, List.nil_append, b_M_reader_42]
        exact fin h1 p
