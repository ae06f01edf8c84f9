--deps: 9o.begin
/-! A PLAN -/
def qrun (ts : List (Nat × Nat)) : Nat → Nat → List QR → Nat × Nat × List QR
  | 0, i, qs => (i, 1, qs)
  | m + 1, i, qs => if (qst ts i qs.length).2.1 = 0 then (if tc ts (qst ts i qs.length).1 = 12000 then ((qst ts i qs.length).1, 0, qs ++ [qst ts i qs.length]) else qrun ts m (qst ts i qs.length).1 (qs ++ [qst ts i qs.length])) else ((qst ts i qs.length).1, (qst ts i qs.length).2.1, qs)
def dQ : QR := (0, 0, 0, 0, 0)
/-- questions in the rows of the class, of the reference -/
def PLX (h : AH) (r : Nat) (qs : List QR) : Prop := hI h r 3 = nI qs.length ∧ ∀ q, q < qs.length → hI h (r + 1) q = nI (qs.getD q dQ).2.2.1 ∧ hI h (r + 2) q = (qs.getD q dQ).2.2.2.1 ∧ hI h (r + 3) q = nI (qs.getD q dQ).2.2.2.2
def PLM (h : AH) (b : Nat) (qs : List QR) : Prop := hI h 353 b = nI qs.length ∧ ∀ q, q < qs.length → hI h 354 (12 * b + q) = nI (qs.getD q dQ).2.2.1 ∧ hI h 355 (12 * b + q) = (qs.getD q dQ).2.2.2.1 ∧ hI h 356 (12 * b + q) = nI (qs.getD q dQ).2.2.2.2
def QsOk (qs : List QR) : Prop := qs.length ≤ 12 ∧ ∀ q ∈ qs, qOk q
theorem gd_l {qs : List QR} {x : QR} {q : Nat} (h : q < qs.length) : (qs ++ [x]).getD q dQ = qs.getD q dQ := by
  rw [List.getD_eq_getElem?_getD, List.getElem?_append_left h, ← List.getD_eq_getElem?_getD]
theorem gd_r {qs : List QR} {x : QR} : (qs ++ [x]).getD qs.length dQ = x := by simp [List.getD_eq_getElem?_getD]
def plc : Nat → Prop := fun a => xps a ∨ (113 ≤ a ∧ a ≤ 116)
section PLS
variable {L : Nat} {xs : Nat → Int32} {ts : List (Nat × Nat)} {d : Nat}
theorem x_planq (T : TOKS ts) (h0 : AH) (R : Option Value → AH → Prop) (res : Nat × Nat × List QR) (fin : ∀ h', Fr plc nov h0 h' → RX L xs ts 0 res.1 res.2.1 [] h' → (res.2.1 = 0 → PLX h' 113 res.2.2 ∧ QsOk res.2.2 ∧ 0 < res.2.2.length) → R (some (.int (nI res.2.1))) h') : ∀ (m i : Nat) (qs : List QR) (h : AH), m + qs.length = 13 → res = qrun ts m i qs → Fr plc nov h0 h → RX L xs ts 0 i 0 [] h → PLX h 113 qs → QsOk qs → Cl (d + 3) q_Pa_takeQuestion [.ref 108] h (fun r h1 => r = none ∧ Wp (d + 3) P_Pa_readPlan 10 [.ref 108, .int (nI qs.length)] [] h1 R) := by
  intro m
  induction m with
  | zero =>
    intro i qs h e er fr r pl ok
    have := ok.1
    omega
  | succ m ih =>
    intro i qs h e er fr r pl ok
    have T1 := T.2.1
    obtain ⟨o1, o2, o3, o4⟩ := qst_o (n := qs.length) T r.lt
    refine (x_question T qs.length ok.1 r pl.1).mono ?_
    rintro r' h1 ⟨rfl, h2, p2, e2⟩
    refine ⟨rfl, ?_⟩
    have fr2 : Fr plc nov h0 h2 := fr.tr (p2.1.1.mo (fun a z => Or.inl z) (fun a z => z))
    by_cases q : (qst ts i qs.length).2.1 = 0
    · rw [if_pos q] at e2
      obtain ⟨o5, o6, o7⟩ := o4 q
      have q2 := p2.2
      rw [q] at q2
      have fr3 : Fr (fun a => 113 ≤ a ∧ a ≤ 116) nov h2 h1 := by
        rw [e2]
        unfold plA
        exact (((Fr.rfl'.sI (by decide)).sI (by decide)).sI (by decide)).sI (by decide)
      have r3 : RX L xs ts 0 (qst ts i qs.length).1 0 [] h1 := by
        refine q2.fr fr3 ?_ (fun a z => by omega)
        rw [e2]; rfl
      have fr4 : Fr plc nov h0 h1 := fr2.tr (fr3.mo (fun a z => Or.inr z) (fun a z => z))
      have ek : ∀ a, ¬ xps a → hI h2 a = hI h a := fun a z => p2.1.1.I z
      have pl3 : PLX h1 113 (qs ++ [qst ts i qs.length]) := by
        rw [e2]
        unfold plA
        refine ⟨by rw [hI_same, if_pos rfl]; simp, fun j hj => ?_⟩
        rw [rI_sI (show 113 + 1 ≠ 113 by decide), rI_sI (show 113 + 1 ≠ 116 by decide), rI_sI (show 113 + 1 ≠ 115 by decide), rI_sI (show 113 + 2 ≠ 113 by decide), rI_sI (show 113 + 2 ≠ 116 by decide), rI_sI (show 113 + 3 ≠ 113 by decide)]
        show hI (sI h2 114 _ _) 114 j = _ ∧ hI (sI (sI h2 114 _ _) 115 _ _) 115 j = _ ∧ hI (sI (sI (sI h2 114 _ _) 115 _ _) 116 _ _) 116 j = _
        rw [hI_same, hI_same, hI_same, rI_sI (show 115 ≠ 114 by decide), rI_sI (show 116 ≠ 115 by decide), rI_sI (show 116 ≠ 114 by decide)]
        by_cases qj : j = qs.length
        · rw [if_pos qj, if_pos qj, if_pos qj, qj, gd_r]; exact ⟨rfl, rfl, rfl⟩
        · have hj' : j < qs.length := by simp at hj; omega
          rw [if_neg qj, if_neg qj, if_neg qj, gd_l hj', ek 114 (by unfold xps; decide), ek 115 (by unfold xps; decide), ek 116 (by unfold xps; decide)]
          exact pl.2 j hj'
      have ok3 : QsOk (qs ++ [qst ts i qs.length]) := by
        refine ⟨by have := ok.1; simp; omega, fun y hy => ?_⟩
        rcases List.mem_append.mp hy with z | z
        · exact ok.2 y z
        · rw [List.mem_singleton.mp z]; exact o7
      have z1 : ¬ (12 : Int32) ≤ nI qs.length := mt (nle (a := 12) (by decide) (by have := ok.1; omega)).mp (by have := ok.1; omega)
      have f0 : hI h1 108 4 = 0 := r3.f
      have ct := cdOk_lt (T.2.2 _ o1).1
      have z12 : nI (tc ts (qst ts i qs.length).1) = 12000 ↔ tc ts (qst ts i qs.length).1 = 12000 := neq (b := 12000) (by omega) (by decide)
      have er' : res = if tc ts (qst ts i qs.length).1 = 12000 then ((qst ts i qs.length).1, 0, qs ++ [qst ts i qs.length]) else qrun ts m (qst ts i qs.length).1 (qs ++ [qst ts i qs.length]) := by
        rw [er]
        show (if (qst ts i qs.length).2.1 = 0 then _ else _) = _
        rw [if_pos q]
      rw [b_Pa_readPlan_10]
      simp only [z1, b_Pa_readPlan_13, e_Pa_goesOn, b_Pa_goesOn_0, b_Pa_goesOn_3, b_Pa_goesOn_7, b_Pa_goesOn_9, b_Pa_goesOn_10, xk_108 r3.x, f0, r3.cd, z12, Option.toList, List.cons_append, List.nil_append, b_Pa_readPlan_15, rtZ0, rtZ1, mem20, mem21, mem22, al20, al21, al33, al34, al36, al37, al38, aa33, aa34, aa36, aa37, aa38, true_and, and_true, Int32.reduceOfNat, forall_const, true_implies, implies_true, false_implies, not_true_eq_false, not_false_eq_true]
      by_cases qe : tc ts (qst ts i qs.length).1 = 12000
      · rw [if_pos qe] at er'
        simp only [qe, b_Pa_readPlan_20, xk_108 r3.x, f0, mem20, mem21, mem22, al20, al21, al33, al34, al36, al37, al38, aa33, aa34, aa36, aa37, aa38, true_and, and_true, Int32.reduceOfNat, forall_const, true_implies, implies_true, false_implies, not_true_eq_false, not_false_eq_true]
        have := fin h1 fr4 (by rw [er']; exact r3) (fun _ => by rw [er']; exact ⟨pl3, ok3, by simp⟩)
        rw [er'] at this
        exact this
      · rw [if_neg qe] at er'
        simp only [qe, b_Pa_readPlan_16, show ¬ (1 : Int32) = 0 by decide, mem20, mem21, mem22, al20, al21, al33, al34, al36, al37, al38, aa33, aa34, aa36, aa37, aa38, true_and, and_true, Int32.reduceOfNat, forall_const, true_implies, implies_true, false_implies, not_true_eq_false, not_false_eq_true]
        have := ih (qst ts i qs.length).1 (qs ++ [qst ts i qs.length]) h1 (by simp; omega) er' fr4 r3 pl3 ok3
        refine this.mono ?_
        rintro r' h3 ⟨rfl, w⟩
        simp only [Option.toList, List.cons_append, List.nil_append, b_Pa_readPlan_18, nI_1]
        simpa using w
    · rw [if_neg q] at e2
      subst e2
      have er' : res = ((qst ts i qs.length).1, (qst ts i qs.length).2.1, qs) := by
        rw [er]
        show (if (qst ts i qs.length).2.1 = 0 then _ else _) = _
        rw [if_neg q]
      have last : Wp (d + 3) P_Pa_readPlan 20 [.ref 108, .int (nI qs.length)] [] h1 R := by
        rw [b_Pa_readPlan_20]
        have := fin h1 fr2 (by rw [er']; exact p2.2) (fun z => by rw [er'] at z; exact absurd z q)
        rw [er'] at this
        refine ⟨xk_108 p2.2.x, ?_⟩
        rw [p2.2.f]
        exact this
      have z : ¬ nI (qst ts i qs.length).2.1 = 0 := mt (nI0 (by omega)).mp q
      rw [b_Pa_readPlan_10]
      refine ⟨fun _ => last, fun _ => ?_⟩
      simp only [b_Pa_readPlan_13, e_Pa_goesOn, b_Pa_goesOn_0, b_Pa_goesOn_3, b_Pa_goesOn_7, b_Pa_goesOn_9, b_Pa_goesOn_10, xk_108 p2.2.x, p2.2.f, z, Option.toList, List.cons_append, List.nil_append, b_Pa_readPlan_15, rtZ0, mem20, mem21, mem22, al20, al21, al33, al34, al36, al37, al38, aa33, aa34, aa36, aa37, aa38, true_and, and_true, Int32.reduceOfNat, forall_const, true_implies, implies_true, false_implies, not_true_eq_false, not_false_eq_true]
      exact last
theorem m_planq (T : TOKS ts) (x1 : Int32) (h0 : AH) (R : Option Value → AH → Prop) (res : Nat × Nat × List QR) (fin : ∀ h', KQ 0 h0 h' → RN ts res.1 res.2.1 h' → (res.2.1 = 0 → PLM h' 4 res.2.2) → Wp (d + 3) P_M_plan 34 [.ref 342, .int x1, .null] [] h' R) : ∀ (m i : Nat) (qs : List QR) (h : AH), m + qs.length = 13 → res = qrun ts m i qs → KQ 0 h0 h → RN ts i 0 h → PLM h 4 qs → QsOk qs → Cl (d + 3) q_M_readAsk [.ref 342] h (fun r h1 => r = none ∧ Wp (d + 3) P_M_plan 22 [.ref 342, .int x1, .null] [] h1 R) := by
  intro m
  induction m with
  | zero =>
    intro i qs h e er fr r pl ok
    have := ok.1
    omega
  | succ m ih =>
    intro i qs h e er kq r pl ok
    have T1 := T.2.1
    obtain ⟨o1, o2, o3, o4⟩ := qst_o (n := qs.length) T r.lt
    refine (n_question T qs.length ok.1 r pl.1).mono ?_
    rintro r' h1 ⟨rfl, mk, r1, mv⟩
    refine ⟨rfl, ?_⟩
    have kq1 : KQ 0 h0 h1 := kq.tr ⟨mk.1, mk.2.1, mk.2.2.1, fun j hj => mk.2.2.2 j (by omega)⟩
    have m1 := r1.m
    by_cases q : (qst ts i qs.length).2.1 = 0
    · obtain ⟨o5, o6, o7⟩ := o4 q
      rw [q] at r1
      obtain ⟨v1, v2, v3, v4⟩ := mv q
      have pl3 : PLM h1 4 (qs ++ [qst ts i qs.length]) := by
        refine ⟨by rw [v1]; simp, fun j hj => ?_⟩
        show hI h1 354 (48 + j) = _ ∧ hI h1 355 (48 + j) = _ ∧ hI h1 356 (48 + j) = _
        by_cases qj : j = qs.length
        · rw [qj, gd_r]; exact ⟨v2, v3, v4⟩
        · have hj' : j < qs.length := by simp at hj; omega
          obtain ⟨w1, w2, w3⟩ := mk.2.2.2 (48 + j) (by omega)
          rw [gd_l hj', w1, w2, w3]
          exact pl.2 j hj'
      have ok3 : QsOk (qs ++ [qst ts i qs.length]) := by
        refine ⟨by have := ok.1; simp; omega, fun y hy => ?_⟩
        rcases List.mem_append.mp hy with z | z
        · exact ok.2 y z
        · rw [List.mem_singleton.mp z]; exact o7
      have f0 : hI h1 342 8 = 0 := r1.f
      have lt := r1.lt
      have i1 : ixo (nI (qst ts i qs.length).1) 1002 = true := nix (by omega) (by decide)
      have se := srt_end (T.2.2 _ o1).1 r1.tv
      have er' : res = if tc ts (qst ts i qs.length).1 = 12000 then ((qst ts i qs.length).1, 0, qs ++ [qst ts i qs.length]) else qrun ts m (qst ts i qs.length).1 (qs ++ [qst ts i qs.length]) := by
        rw [er]
        show (if (qst ts i qs.length).2.1 = 0 then _ else _) = _
        rw [if_pos q]
      rw [b_M_plan_22]
      simp only [mo m1, f0, b_M_plan_25, mr_4 m1, mk_344 m1, mn_344 m1, r1.at, i1, cN (show (qst ts i qs.length).1 < 2147483648 by omega), se, mem20, mem21, mem22, al20, al21, al33, al34, al36, al37, al38, aa33, aa34, aa36, aa37, aa38, true_and, and_true, Int32.reduceOfNat, forall_const, true_implies, implies_true, false_implies, not_true_eq_false, not_false_eq_true]
      by_cases qe : tc ts (qst ts i qs.length).1 = 12000
      · rw [if_pos qe] at er'
        simp only [qe, mem20, mem21, mem22, al20, al21, al33, al34, al36, al37, al38, aa33, aa34, aa36, aa37, aa38, true_and, and_true, Int32.reduceOfNat, forall_const, true_implies, implies_true, false_implies, not_true_eq_false, not_false_eq_true]
        exact fin h1 kq1 (by rw [er']; exact r1) (fun _ => by rw [er']; exact pl3)
      · rw [if_neg qe] at er'
        simp only [qe, b_M_plan_31, mem20, mem21, mem22, al20, al21, al33, al34, al36, al37, al38, aa33, aa34, aa36, aa37, aa38, true_and, and_true, Int32.reduceOfNat, forall_const, true_implies, implies_true, false_implies, not_true_eq_false, not_false_eq_true]
        have := ih (qst ts i qs.length).1 (qs ++ [qst ts i qs.length]) h1 (by simp; omega) er' kq1 r1 pl3 ok3
        refine this.mono ?_
        rintro r' h3 ⟨rfl, w⟩
        simp only [Option.toList, List.cons_append, List.nil_append, b_M_plan_33]
        exact w
    · have er' : res = ((qst ts i qs.length).1, (qst ts i qs.length).2.1, qs) := by
        rw [er]
        show (if (qst ts i qs.length).2.1 = 0 then _ else _) = _
        rw [if_neg q]
      have z : ¬ nI (qst ts i qs.length).2.1 = 0 := mt (nI0 (by omega)).mp q
      rw [b_M_plan_22]
      simp only [mo m1, r1.f, z, mem20, mem21, mem22, al20, al21, al33, al34, al36, al37, al38, aa33, aa34, aa36, aa37, aa38, true_and, and_true, Int32.reduceOfNat, forall_const, true_implies, implies_true, false_implies, not_true_eq_false, not_false_eq_true]
      exact fin h1 kq1 (by rw [er']; exact r1) (fun y => by rw [er'] at y; exact absurd y q)
/-- the draft becomes a plan -/
def cps : Nat → Prop := fun a => 354 ≤ a ∧ a ≤ 356
theorem w_M_planc (p : Nat) (hp : p < 4) (h0 : AH) (m0 : MLY h0) (R : Option Value → AH → Prop) (fin : ∀ h', Fr cps nov h0 h' → (∀ a, 354 ≤ a → a ≤ 356 → (∀ j, j < 12 → hI h' a (12 * p + j) = hI h0 a (48 + j)) ∧ (∀ j, j < 12 * p ∨ 12 * p + 12 ≤ j → hI h' a j = hI h0 a j)) → R (some (.int 0)) h') : ∀ (m i : Nat) (h : AH), i + m = 12 → Fr cps nov h0 h → (∀ a, 354 ≤ a → a ≤ 356 → (∀ j, j < i → hI h a (12 * p + j) = hI h0 a (48 + j)) ∧ (∀ j, j < 12 * p ∨ 12 * p + 12 ≤ j → hI h a j = hI h0 a j)) → Wp d P_M_plan 50 [.ref 342, .int (nI p), .int (nI i)] [] h R := by
  intro m
  induction m with
  | zero =>
    intro i h e fr g
    have : i = 12 := by omega
    subst this
    rw [b_M_plan_50]
    simp only [show (12 : Int32) ≤ nI 12 by decide, b_M_plan_97, mem20, mem21, mem22, al20, al21, al33, al34, al36, al37, al38, aa33, aa34, aa36, aa37, aa38, true_and, and_true, Int32.reduceOfNat, forall_const, true_implies, implies_true, false_implies, not_true_eq_false, not_false_eq_true]
    exact fin h fr g
  | succ m ih =>
    intro i h e fr g
    have mm := m0.fr fr
    have z : ¬ (12 : Int32) ≤ nI i := mt (nle (a := 12) (by decide) (by omega)).mp (by omega)
    have e48 : (48 : Int32) + nI i = nI (48 + i) := nadd 48 i
    have i1 : ixo (nI (48 + i)) 60 = true := nix (by omega) (by decide)
    have i2 : ixo (nI (12 * p + i)) 60 = true := nix (by omega) (by decide)
    rw [b_M_plan_50]
    simp only [z, b_M_plan_53, mo mm, mr_17 mm, mr_18 mm, mr_19 mm, mk_354 mm, mn_354 mm, mk_355 mm, mn_355 mm, mk_356 mm, mn_356 mm, hK_sI, hR_sI, hN_sI, n12, e48, i1, i2, cN (show 48 + i < 2147483648 by omega), cN (show 12 * p + i < 2147483648 by omega), rI_sI (show 355 ≠ 354 by decide), rI_sI (show 356 ≠ 354 by decide), rI_sI (show 356 ≠ 355 by decide), nI_1, mem20, mem21, mem22, al20, al21, al33, al34, al36, al37, al38, aa33, aa34, aa36, aa37, aa38, true_and, and_true, Int32.reduceOfNat, forall_const, true_implies, implies_true, false_implies, not_true_eq_false, not_false_eq_true]
    refine ih (i + 1) _ (by omega) (((fr.sI (by unfold cps; decide)).sI (by unfold cps; decide)).sI (by unfold cps; decide)) ?_
    have one : ∀ (a : Nat) (f : Nat → Int32), 354 ≤ a → a ≤ 356 → (∀ j, f j = if j = 12 * p + i then hI h a (48 + i) else hI h a j) → (∀ j, j < i + 1 → f (12 * p + j) = hI h0 a (48 + j)) ∧ (∀ j, j < 12 * p ∨ 12 * p + 12 ≤ j → f j = hI h0 a j) := by
      intro a f h1 h2 hf
      obtain ⟨g1, g2⟩ := g a h1 h2
      refine ⟨fun j hj => ?_, fun j hj => ?_⟩
      · rw [hf]
        by_cases qj : j = i
        · rw [if_pos (by omega), qj]; exact g2 _ (by omega)
        · rw [if_neg (by omega)]; exact g1 j (by omega)
      · rw [hf, if_neg (by omega)]; exact g2 j hj
    intro a h1 h2
    have ca : a = 354 ∨ a = 355 ∨ a = 356 := by omega
    rcases ca with rfl | rfl | rfl
    · exact one 354 _ h1 h2 (fun j => by rw [rI_sI (by decide), rI_sI (by decide), hI_same])
    · exact one 355 _ h1 h2 (fun j => by rw [rI_sI (by decide), hI_same, rI_sI (by decide)])
    · exact one 356 _ h1 h2 (fun j => by rw [hI_same, rI_sI (by decide), rI_sI (by decide)])
end PLS
/-- cells that reading a plan may change -/
def plS (a : Nat) : Prop := a = 108 ∨ a = 109 ∨ (111 ≤ a ∧ a ≤ 119) ∨ a = 121 ∨ (154 ≤ a ∧ a < 170) ∨ a = 342 ∨ a = 344 ∨ a = 345 ∨ (353 ≤ a ∧ a ≤ 356)
theorem Inv.pln {L : Nat} {xs : Nat → Int32} {c : Nat} {h h2 : AH} (i : Inv L xs c h) (fr2 : Fr plS (onl 346) h h2) (s342 : ∀ j, j = 15 ∨ j = 30 → hI h2 342 j = hI h 342 j) (tp : ITp h2) (pl : IPl h2) : Inv L xs (c + 1) h2 := by
  obtain ⟨i1, i2, i3, i4, i5, i6, i7, i8, i9, i10, i11, i12, i13, i14, i15⟩ := i
  have e : ∀ a, ¬ (a = 108 ∨ a = 109 ∨ (111 ≤ a ∧ a ≤ 119) ∨ a = 121 ∨ (154 ≤ a ∧ a < 170) ∨ a = 342 ∨ a = 344 ∨ a = 345 ∨ (353 ≤ a ∧ a ≤ 356)) → hI h2 a = hI h a := fun a z => fr2.I z
  refine ⟨i1.fr fr2 (fun a z => by unfold plS at z; omega), i2.fr fr2, i3.fr fr2, by rw [fr2.K, fr2.N]; exact i4, i5.fr (fun a z => e a (by omega)), i6.fr (by rw [e 122 (by omega)]) (s342 15 (by decide)), pl, tp, i9.fr fr2 (fun a z => by unfold plS at z; omega), i10.fr fr2 (fun a z => by unfold plS at z; omega), i11.fr (by rw [e 105 (by omega)]) (s342 30 (by decide)), i12.fr (fun a z => e a (by omega)), i13.fr (by omega) (e 106 (by omega)) (fun k hk => by rw [e 105 (by omega)]) (fr2.J (by unfold onl; decide)) (fr2.J (by unfold onl; decide)), i14.fr (by omega) (fun a z => e a (by omega)) (fr2.J (by unfold onl; decide)), ?_⟩
  rw [fr2.z, fr2.u]
  exact ⟨i15.1, by omega, by omega⟩
theorem ITp.nil {h : AH} (e1 : hI h 109 1 = 0) (e2 : hI h 342 2 = 0) : ITp h := ⟨0, by decide, e1, e2, fun i hi => by omega⟩
