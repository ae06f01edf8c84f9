--deps: 79.judge
/-! READERS OF THE REFERENCE -/
/-- where the reference keeps the facts of a reader -/
def pr (i : Nat) : Nat := if i < 18 then i + 2 else i - 18
theorem pr_lt {i : Nat} (h : i < 20) : pr i < 20 := by unfold pr; split <;> omega
theorem pr_inj {i j : Nat} (hi : i < 20) (hj : j < 20) (e : pr i = pr j) : i = j := by
  unfold pr at e
  split at e <;> split at e <;> omega
theorem w_M_fR0 {d : Nat} (s : Nat) (file : Int32) (h0 : AH) (m0 : MLY h0) (Q : Option Value → AH → Prop) (fin : ∀ h', Fr (onl 363) nov h0 h' → (∀ i, i < 20 → hI h' 363 i = 0) → Wp d P_M_findReadings 12 [.ref 342, .int (nI s), .int file, .int (nI 20), .null, .null, .null, .null, .null] [] h' Q) : ∀ (m i : Nat) (h : AH), i + m = 20 → Fr (onl 363) nov h0 h → (∀ j, j < i → hI h 363 j = 0) → Wp d P_M_findReadings 2 [.ref 342, .int (nI s), .int file, .int (nI i), .null, .null, .null, .null, .null] [] h Q := by
  intro m
  induction m with
  | zero =>
    intro i h e fr g
    have : i = 20 := by omega
    subst this
    rw [b_M_findReadings_2]
    simp only [show (20 : Int32) ≤ nI 20 by decide, mem20, mem21, mem22, al20, al21, al33, al34, al36, al37, al38, aa33, aa34, aa36, aa37, aa38, true_and, and_true, Int32.reduceOfNat, forall_const, true_implies, implies_true, false_implies, not_true_eq_false, not_false_eq_true]
    exact fin h fr g
  | succ m ih =>
    intro i h e fr g
    have m' := m0.fr fr
    have z : ¬ (20 : Int32) ≤ nI i := mt (nle (a := 20) (by decide) (by omega)).mp (by omega)
    have i1 : ixo (nI i) 20 = true := nix (by omega) (by decide)
    rw [b_M_findReadings_2]
    simp only [z, b_M_findReadings_5, mo m', mr_28 m', mk_363 m', mn_363 m', i1, cN (show i < 2147483648 by omega), nI_1, mem20, mem21, mem22, al20, al21, al33, al34, al36, al37, al38, aa33, aa34, aa36, aa37, aa38, true_and, and_true, Int32.reduceOfNat, forall_const, true_implies, implies_true, false_implies, not_true_eq_false, not_false_eq_true]
    refine ih (i + 1) _ (by omega) (Fs1 fr) ?_
    intro j hj
    rw [hI_same]
    by_cases q : j = i
    · rw [if_pos q]
    · rw [if_neg q]; exact g j (by omega)
theorem nt_w {k l : Nat} {it ti j file : Int32} {G : Nat → Int32} (hk : k < 4) (hl : l < 3) (i : Nat) : nt k l it ti j (wF G file) i = wF (nt k l it ti j G) file i := by
  unfold wF
  by_cases q : i = 18
  · subst q
    unfold nt
    rw [if_neg (by split <;> omega), if_neg (by omega)]
    simp
  · unfold nt
    simp only [q, if_false]
/-- one line of one question -/
theorem w_M_fR3 {d : Nat} (s n q : Nat) (ks : Nat → Nat) (file : Int32) (h0 : AH) (m0 : MLY h0) (hs : s < 25) (hn : hI h0 365 s = nI n) (hn2 : n ≤ 12) (hq : q < n) (it jv : Nat → Int32) (ti : Int32) (hjv : jv = fun i => hI h0 369 (36 * s + i)) (hk4 : ks q < 4) (k3 : ks q = 3 ↔ ¬ it q = -1) (st : Nat → Nat → Int32) (hst : st = stF n ks it ti jv) (Q : Option Value → AH → Prop)
    (fin : ∀ h' v7 v8, Fr (onl 363) nov h0 h' → (∀ i, i < 20 → hI h' 363 (pr i) = wF (st (3 * q + 3)) file i) → Wp d P_M_findReadings 126 [.ref 342, .int (nI s), .int file, .int (nI q), .int (nI (ks q)), .int (if ¬ it q = ti then 0 else 1), .int (nI 3), v7, v8] [] h' Q) : ∀ (m l : Nat) (h : AH) (v7 v8 : Value), l + m = 3 → Fr (onl 363) nov h0 h → (∀ i, i < 20 → hI h 363 (pr i) = wF (st (3 * q + l)) file i) →
    Wp d P_M_findReadings 61 [.ref 342, .int (nI s), .int file, .int (nI q), .int (nI (ks q)), .int (if ¬ it q = ti then 0 else 1), .int (nI l), v7, v8] [] h Q := by
  intro m
  induction m with
  | zero =>
    intro l h v7 v8 e fr g
    have : l = 3 := by omega
    subst this
    rw [b_M_findReadings_61]
    simp only [show (3 : Int32) ≤ nI 3 by decide, mem20, mem21, mem22, al20, al21, al33, al34, al36, al37, al38, aa33, aa34, aa36, aa37, aa38, true_and, and_true, Int32.reduceOfNat, forall_const, true_implies, implies_true, false_implies, not_true_eq_false, not_false_eq_true]
    exact fin h v7 v8 fr g
  | succ m ih =>
    intro l h v7 v8 e fr g
    have m' := m0.fr fr
    have z : ¬ (3 : Int32) ≤ nI l := mt (nle (a := 3) (by decide) (by omega)).mp (by omega)
    have i1 : ixo (nI (36 * s + (3 * q + l))) 900 = true := nix (by omega) (by decide)
    have e2 : 2 + 3 * nI (ks q) + nI l = nI (2 + 3 * ks q + l) := by
      rw [show (2 : Int32) = nI 2 from rfl, show (3 : Int32) = nI 3 from rfl, nmul, nadd, nadd]
    have i2 : ixo (nI (2 + 3 * ks q + l)) 20 = true := nix (by omega) (by decide)
    have p1 : pr (3 * ks q + l) = 2 + 3 * ks q + l := by unfold pr; rw [if_pos (by omega)]; omega
    have f1 : hI h 369 = hI h0 369 := fr.I (by unfold onl; decide)
    have ej : hI h0 369 (36 * s + (3 * q + l)) = jv (3 * q + l) := by rw [hjv]
    rw [b_M_findReadings_61]
    simp only [z, b_M_findReadings_64, mo m', mr_28 m', mr_35 m', mk_363 m', mn_363 m', mk_369 m', mn_369 m', n36, e2, i1, i2, cN (show 36 * s + (3 * q + l) < 2147483648 by omega), cN (show 2 + 3 * ks q + l < 2147483648 by omega), f1, ej, mem20, mem21, mem22, al20, al21, al33, al34, al36, al37, al38, aa33, aa34, aa36, aa37, aa38, true_and, and_true, Int32.reduceOfNat, forall_const, true_implies, implies_true, false_implies, not_true_eq_false, not_false_eq_true]
    have nx : ∀ (h2 : AH) (x7 : Int32) (x8 : Int32), Fr (onl 363) nov h0 h2 → (∀ i, i < 20 → hI h2 363 (pr i) = nt (ks q) l (it q) ti (jv (3 * q + l)) (wF (st (3 * q + l)) file) i) → Wp d P_M_findReadings 124 [.ref 342, .int (nI s), .int file, .int (nI q), .int (nI (ks q)), .int (if ¬ it q = ti then 0 else 1), .int (nI l), .int x7, .int x8] [] h2 Q := by
      intro h2 x7 x8 fr2 g2
      rw [b_M_findReadings_124, nI_1]
      refine ih (l + 1) h2 _ _ (by omega) fr2 ?_
      intro i hi
      rw [g2 i hi, nt_w hk4 (by omega)]
      have a1 : (3 * q + l) / 3 = q := by omega
      have a2 : (3 * q + l) % 3 = l := by omega
      have a3 : st (3 * q + (l + 1)) = nt (ks ((3 * q + l) / 3)) ((3 * q + l) % 3) (it ((3 * q + l) / 3)) ti (jv (3 * q + l)) (st (3 * q + l)) := by rw [hst]; rfl
      rw [a3, a1, a2]
    generalize hh1 : sI h 363 (2 + 3 * ks q + l) (hI h 363 (2 + 3 * ks q + l) + jv (3 * q + l)) = h1
    have fr1 : Fr (onl 363) nov h0 h1 := by rw [← hh1]; exact Fs1 fr
    have g1 : ∀ i, i < 20 → hI h1 363 (pr i) = if i = 3 * ks q + l then wF (st (3 * q + l)) file i + jv (3 * q + l) else wF (st (3 * q + l)) file i := by
      intro i hi
      rw [← hh1, hI_same]
      by_cases qi : i = 3 * ks q + l
      · rw [if_pos (by rw [qi, p1]), if_pos qi, ← p1, g _ (by omega), qi]
      · rw [if_neg (fun z => qi (pr_inj hi (by omega) (by rw [z, p1]))), if_neg qi, g i hi]
    have m1 := m0.fr fr1
    by_cases q3 : ks q = 3
    · have z3 : nI (ks q) = 3 := by rw [q3]; rfl
      have last : ∀ c, c = (if it q = ti then 12 else 15) → Wp d P_M_findReadings 105 [.ref 342, .int (nI s), .int file, .int (nI q), .int (nI (ks q)), .int (if ¬ it q = ti then 0 else 1), .int (nI l), .int (jv (3 * q + l)), v8] [.int (nI (2 + c + l))] h1 Q := by
        intro c hc
        have hc2 : c = 12 ∨ c = 15 := by
          rw [hc]; split
          · exact Or.inl rfl
          · exact Or.inr rfl
        have p2 : pr (c + l) = 2 + c + l := by unfold pr; rw [if_pos (by omega)]; omega
        have z5 := n_nn (n := 2 + c + l) (by omega)
        have i5 : ixo (nI (2 + c + l)) 20 = true := nix (by omega) (by decide)
        rw [b_M_findReadings_105]
        simp only [z5, b_M_findReadings_108, b_M_findReadings_117, b_M_findReadings_119, mo m1, mr_28 m1, mk_363 m1, mn_363 m1, i5, cN (show 2 + c + l < 2147483648 by omega), jW, mem20, mem21, mem22, al20, al21, al33, al34, al36, al37, al38, aa33, aa34, aa36, aa37, aa38, true_and, and_true, Int32.reduceOfNat, forall_const, true_implies, implies_true, false_implies, not_true_eq_false, not_false_eq_true]
        rw [b_M_findReadings_123]
        simp only [mk_363 m1, mn_363 m1, i5, cN (show 2 + c + l < 2147483648 by omega), mem20, mem21, mem22, al20, al21, al33, al34, al36, al37, al38, aa33, aa34, aa36, aa37, aa38, true_and, and_true, Int32.reduceOfNat, forall_const, true_implies, implies_true, false_implies, not_true_eq_false, not_false_eq_true]
        refine nx _ _ _ (Fs1 fr1) ?_
        intro i hi
        rw [hI_same]
        unfold nt
        rw [← hc]
        by_cases qc : i = c + l
        · subst qc
          have gg := g1 (c + l) hi
          rw [if_neg (by omega), p2] at gg
          rw [if_pos p2, gg]
          simp only [q3, true_and, if_true]
          unfold mx
          grind
        · rw [if_neg (fun z => qc (pr_inj hi (by omega) (by rw [z, p2]))), if_neg (fun z => qc z.2), g1 i hi]
      have w12 : it q = ti → (14 : Int32) + nI l = nI (2 + 12 + l) := fun _ => by
        rw [show (14 : Int32) = nI 14 from rfl, nadd]
      have w15 : ¬ it q = ti → (17 : Int32) + nI l = nI (2 + 15 + l) := fun _ => by
        rw [show (17 : Int32) = nI 17 from rfl, nadd]
      simp only [z3, b_M_findReadings_96, b_M_findReadings_98, b_M_findReadings_102, mem20, mem21, mem22, al20, al21, al33, al34, al36, al37, al38, aa33, aa34, aa36, aa37, aa38, true_and, and_true, Int32.reduceOfNat, forall_const, true_implies, implies_true, false_implies, not_true_eq_false, not_false_eq_true]
      rw [z3] at last
      by_cases qt : it q = ti
      · have w := last 12 (by rw [if_pos qt])
        simp only [qt, not_true_eq_false, if_false, w12 qt, show ¬ (1 : Int32) = 0 by decide, mem20, mem21, mem22, al20, al21, al33, al34, al36, al37, al38, aa33, aa34, aa36, aa37, aa38, true_and, and_true, Int32.reduceOfNat, forall_const, true_implies, implies_true, false_implies, not_true_eq_false, not_false_eq_true] at w ⊢
        exact w
      · have w := last 15 (by rw [if_neg qt])
        simp only [qt, not_false_eq_true, if_true, w15 qt, mem20, mem21, mem22, al20, al21, al33, al34, al36, al37, al38, aa33, aa34, aa36, aa37, aa38, true_and, and_true, Int32.reduceOfNat, forall_const, true_implies, implies_true, false_implies, not_true_eq_false, not_false_eq_true] at w ⊢
        exact w
    · have z3 : ¬ nI (ks q) = 3 := mt (neq (b := 3) (by omega) (by decide)).mp q3
      simp only [z3, b_M_findReadings_94, b_M_findReadings_105, show (-1 : Int32) < 0 by decide, mem20, mem21, mem22, al20, al21, al33, al34, al36, al37, al38, aa33, aa34, aa36, aa37, aa38, true_and, and_true, Int32.reduceOfNat, forall_const, true_implies, implies_true, false_implies, not_true_eq_false, not_false_eq_true]
      refine nx h1 _ _ fr1 ?_
      intro i hi
      rw [g1 i hi]
      unfold nt
      simp only [q3, false_and, if_false]
theorem w_M_fR2 {d : Nat} (s n : Nat) (ks : Nat → Nat) (file : Int32) (h0 : AH) (m0 : MLY h0) (hs : s < 25) (hn : hI h0 365 s = nI n) (hn2 : n ≤ 12) (it jv : Nat → Int32) (ti : Int32) (hit : it = fun q => hI h0 368 (12 * s + q)) (hti : ti = hI h0 366 s) (hjv : jv = fun i => hI h0 369 (36 * s + i)) (ki : KI n ks (fun q => hI h0 367 (12 * s + q)) it) (st : Nat → Nat → Int32) (hst : st = stF n ks it ti jv) (Q : Option Value → AH → Prop)
    (fin : ∀ h', Fr (onl 363) nov h0 h' → (∀ i, i < 20 → hI h' 363 (pr i) = wF (st (3 * n)) file i) → Q none h') : ∀ (m q : Nat) (h : AH) (v4 v5 v6 v7 v8 : Value), q + m = n → Fr (onl 363) nov h0 h → (∀ i, i < 20 → hI h 363 (pr i) = wF (st (3 * q)) file i) →
    Wp d P_M_findReadings 27 [.ref 342, .int (nI s), .int file, .int (nI q), v4, v5, v6, v7, v8] [] h Q := by
  have i25 : ixo (nI s) 25 = true := nix hs (by decide)
  have c25 := cN (n := s) (by omega)
  intro m
  induction m with
  | zero =>
    intro q h v4 v5 v6 v7 v8 e fr g
    have : q = n := by omega
    subst this
    have m' := m0.fr fr
    have f1 : hI h 365 = hI h0 365 := fr.I (by unfold onl; decide)
    rw [b_M_findReadings_27]
    simp only [mo m', mr_31 m', mk_365 m', mn_365 m', i25, c25, f1, hn, Int32.le_refl, b_M_findReadings_128, mem20, mem21, mem22, al20, al21, al33, al34, al36, al37, al38, aa33, aa34, aa36, aa37, aa38, true_and, and_true, Int32.reduceOfNat, forall_const, true_implies, implies_true, false_implies, not_true_eq_false, not_false_eq_true]
    exact fin h fr g
  | succ m ih =>
    intro q h v4 v5 v6 v7 v8 e fr g
    have m' := m0.fr fr
    have f1 : hI h 365 = hI h0 365 := fr.I (by unfold onl; decide)
    have f2 : hI h 366 = hI h0 366 := fr.I (by unfold onl; decide)
    have f3 : hI h 367 = hI h0 367 := fr.I (by unfold onl; decide)
    have f4 : hI h 368 = hI h0 368 := fr.I (by unfold onl; decide)
    obtain ⟨k1, k2, k3⟩ := ki q (by omega)
    have k1' : hI h0 367 (12 * s + q) = nI (ks q) := k1
    have z : ¬ nI n ≤ nI q := mt (nle (by omega) (by omega)).mp (by omega)
    have i1 : ixo (nI (12 * s + q)) 300 = true := nix (by omega) (by decide)
    have eit : hI h0 368 (12 * s + q) = it q := by rw [hit]
    rw [b_M_findReadings_27]
    simp only [mo m', mr_31 m', mr_32 m', mr_33 m', mr_34 m', mk_365 m', mn_365 m', mk_366 m', mn_366 m', mk_367 m', mn_367 m', mk_368 m', mn_368 m', i25, c25, f1, f2, f3, f4, hn, z, n12, i1, cN (show 12 * s + q < 2147483648 by omega), b_M_findReadings_33, b_M_findReadings_55, b_M_findReadings_57, k1', jW, eit, ← hti, mem20, mem21, mem22, al20, al21, al33, al34, al36, al37, al38, aa33, aa34, aa36, aa37, aa38, true_and, and_true, Int32.reduceOfNat, forall_const, true_implies, implies_true, false_implies, not_true_eq_false, not_false_eq_true]
    rw [b_M_findReadings_58]
    refine w_M_fR3 s n q ks file h0 m0 hs hn hn2 (by omega) it jv ti hjv k2 k3 st hst Q ?_ 3 0 h _ _ rfl fr g
    intro h1 v7' v8' fr1 g1
    rw [b_M_findReadings_126, nI_1]
    exact ih (q + 1) h1 _ _ _ _ _ (by omega) fr1 g1
theorem c_M_findReadings {d : Nat} (s n : Nat) (ks : Nat → Nat) (file : Int32) (h : AH) (m : MLY h) (hs : s < 25) (hn : hI h 365 s = nI n) (hn2 : n ≤ 12) (it jv : Nat → Int32) (hit : it = fun q => hI h 368 (12 * s + q)) (hjv : jv = fun i => hI h 369 (36 * s + i)) (ki : KI n ks (fun q => hI h 367 (12 * s + q)) it) (Q : Option Value → AH → Prop)
    (fin : ∀ h', Fr (onl 363) nov h h' → (∀ i, i < 20 → hI h' 363 (pr i) = wF (stF n ks it (hI h 366 s) jv (3 * n)) file i) → Q none h') : Cl (d + 1) q_M_findReadings [.ref 342, .int (nI s), .int file] h Q := by
  have i25 : ixo (nI s) 25 = true := nix hs (by decide)
  have c25 := cN (n := s) (by omega)
  rw [e_M_findReadings, b_M_findReadings_0]
  refine ⟨mo m, w_M_fR0 s file h m _ ?_ 20 0 h rfl Fr.rfl' (fun j hj => by omega)⟩
  intro h1 fr1 g1
  have m1 := m.fr fr1
  have f1 : hI h1 365 = hI h 365 := fr1.I (by unfold onl; decide)
  rw [b_M_findReadings_12]
  simp only [mo m1, mr_28 m1, mr_31 m1, mk_363 m1, mn_363 m1, mk_365 m1, mn_365 m1, hI_sI, hJ_sI, hR_sI, hK_sI, hN_sI, hz_sI, hu_sI, hJ_sJ, hI_sJ, hR_sJ, hK_sJ, hN_sJ, hz_sJ, hu_sJ, hR_sR, hI_sR, hJ_sR, hK_sR, hN_sR, hz_sR, hu_sR, ixm0, ixm1, tn0, tn1, i25, c25, show ¬ (365 : Nat) = 363 by decide, if_false, f1, hn, mem20, mem21, mem22, al20, al21, al33, al34, al36, al37, al38, aa33, aa34, aa36, aa37, aa38, true_and, and_true, Int32.reduceOfNat, forall_const, true_implies, implies_true, false_implies, not_true_eq_false, not_false_eq_true]
  refine w_M_fR2 s n ks file h m hs hn hn2 it jv _ hit rfl hjv ki _ rfl _ (fun h' a b => ⟨rtV, fin h' a b⟩) n 0 _ _ _ _ _ _ (by omega) (Fs1 (Fs1 fr1)) ?_
  intro i hi
  rw [hI_same, hI_same]
  show _ = wF (fun i => if i = 19 then nI n else 0) file i
  unfold wF pr
  by_cases q1 : i = 18
  · subst q1; simp
  · by_cases q2 : i = 19
    · subst q2; simp
    · have : i < 18 := by omega
      rw [if_pos this, if_neg (by omega), if_neg (by omega), if_neg q1, g1 _ (by omega)]
      show 0 = if i = 19 then nI n else 0
      rw [if_neg q2]
def MRd (h : AH) (q N : Nat) (c : Nat → List Nat) : Prop := N ≤ 6 ∧ hI h 361 q = nI N ∧ ∀ k, k < N → oks 20 (c k) 0 ∧ ∃ f, hI h 362 (6 * q + k) = nI f ∧ f + (c k).length < 1100 ∧ RTP (hI h 357) (hI h 358) pr (1100 * (1 + q) + f) (c k)
theorem MRd.fr {S T : Nat → Prop} {h h' : AH} {r N : Nat} {c : Nat → List Nat} (g : MRd h r N c) (p : Fr S T h h') (q : ∀ a, S a → a ≠ 357 ∧ a ≠ 358 ∧ a ≠ 361 ∧ a ≠ 362) : MRd h' r N c := by
  have e1 : hI h' 357 = hI h 357 := p.I (fun z => (q _ z).1 rfl)
  have e2 : hI h' 358 = hI h 358 := p.I (fun z => (q _ z).2.1 rfl)
  have e3 : hI h' 361 = hI h 361 := p.I (fun z => (q _ z).2.2.1 rfl)
  have e4 : hI h' 362 = hI h 362 := p.I (fun z => (q _ z).2.2.2 rfl)
  unfold MRd at g ⊢
  rw [e1, e2, e3, e4]
  exact g
theorem w_M_doesSay {d : Nat} (s r N : Nat) (file : Int32) (c : Nat → List Nat) (F : Nat → Int32) (h0 : AH) (m0 : MLY h0) (y0 : MRd h0 r N c) (hr : r < 4) (g0 : ∀ i, i < 20 → hI h0 363 (pr i) = F i) (Q : Option Value → AH → Prop)
    (fin : ∀ h', Fr (onl 364) nov h0 h' → Q (some (.int (fdR F c N 0))) h') : ∀ (m k : Nat) (v : Int32) (h : AH), k + m = N → Fr (onl 364) nov h0 h → fdR F c N 0 = (if v = 0 then fdR F c m k else v) → Wp (d + 2) P_M_doesSay 8 [.ref 342, .int (nI s), .int (nI r), .int file, .int v, .int (nI k)] [] h Q := by
  have i5 : ixo (nI r) 5 = true := nix (by omega) (by decide)
  have c5 := cN (n := r) (by omega)
  intro m
  induction m with
  | zero =>
    intro k v h e fr g
    have : k = N := by omega
    subst this
    have y : MRd h r k c := y0.fr fr (by unfold onl; omega)
    have m' := m0.fr fr
    rw [b_M_doesSay_8]
    simp only [mo m', mr_26 m', mk_361 m', mn_361 m', i5, c5, y.2.1, Int32.le_refl, b_M_doesSay_39, mem20, mem21, mem22, al20, al21, al33, al34, al36, al37, al38, aa33, aa34, aa36, aa37, aa38, true_and, and_true, Int32.reduceOfNat, forall_const, true_implies, implies_true, false_implies, not_true_eq_false, not_false_eq_true]
    have := fin h fr
    rw [g] at this
    by_cases q : v = 0
    · rw [if_pos q] at this
      rw [q]
      exact this
    · rw [if_neg q] at this
      exact this
  | succ m ih =>
    intro k v h e fr g
    have y : MRd h r N c := y0.fr fr (by unfold onl; omega)
    have m' := m0.fr fr
    have hN := y0.1
    have z : ¬ nI N ≤ nI k := mt (nle (by omega) (by omega)).mp (by omega)
    rw [b_M_doesSay_8]
    simp only [mo m', mr_26 m', mk_361 m', mn_361 m', i5, c5, y.2.1, z, b_M_doesSay_14, mem20, mem21, mem22, al20, al21, al33, al34, al36, al37, al38, aa33, aa34, aa36, aa37, aa38, true_and, and_true, Int32.reduceOfNat, forall_const, true_implies, implies_true, false_implies, not_true_eq_false, not_false_eq_true]
    by_cases q : v = 0
    · subst q
      rw [if_pos rfl] at g
      obtain ⟨y1, f, y2, y3, y4⟩ := y.2.2 k (by omega)
      have e1 : 6 * nI r + nI k = nI (6 * r + k) := by rw [show (6 : Int32) = nI 6 from rfl, nmul, nadd]
      have e2 : 1100 * (1 + nI r) + nI f = nI (1100 * (1 + r) + f) := by
        rw [show (1100 : Int32) = nI 1100 from rfl, show (1 : Int32) = nI 1 from rfl, nadd, nmul, nadd]
      have i6 : ixo (nI (6 * r + k)) 30 = true := nix (by omega) (by decide)
      simp only [b_M_doesSay_16, mo m', mr_27 m', mk_362 m', mn_362 m', e1, i6, cN (show 6 * r + k < 2147483648 by omega), y2, e2, mem20, mem21, mem22, al20, al21, al33, al34, al36, al37, al38, aa33, aa34, aa36, aa37, aa38, true_and, and_true, Int32.reduceOfNat, forall_const, true_implies, implies_true, false_implies, not_true_eq_false, not_false_eq_true]
      refine c_M_worthOf 20 (1100 * (1 + r) + f) (c k) pr F h m' (by decide) (fun i hi => pr_lt hi) (by omega) ?_ y4 y1 _ ?_
      · intro i hi
        rw [fr.I (a := 363) (by unfold onl; decide)]
        exact g0 i hi
      · intro h1 fr1 st l1
        rw [STK_last l1 st]
        have g2 : fdR F c (m + 1) k = if wth F (c k) = 0 then fdR F c m (k + 1) else 1 := rfl
        have ew : (ev F (c k) []).getLastD 0 = wth F (c k) := rfl
        rw [ew]
        simp only [Option.toList, List.cons_append, List.nil_append, b_M_doesSay_32, b_M_doesSay_33, b_M_doesSay_35, jW]
        rw [b_M_doesSay_36, nI_1]
        refine ih (k + 1) _ h1 (by omega) (fr.tr fr1) ?_
        rw [g, g2]
        by_cases qq : wth F (c k) = 0
        · simp only [qq, if_true]
        · simp only [qq, if_false, show ¬ (1 : Int32) = 0 by decide]
    · rw [if_neg q] at g
      simp only [q, b_M_doesSay_33, b_M_doesSay_36, nI_1, mem20, mem21, mem22, al20, al21, al33, al34, al36, al37, al38, aa33, aa34, aa36, aa37, aa38, true_and, and_true, Int32.reduceOfNat, forall_const, true_implies, implies_true, false_implies, not_true_eq_false, not_false_eq_true]
      refine ih (k + 1) _ h (by omega) fr ?_
      rw [if_neg (by decide), g]
      rcases fdR_01 F c N 0 with u | u
      · rw [u] at g; exact absurd g.symm q
      · rw [u] at g; exact g.symm
def dss : Nat → Prop := fun a => a = 363 ∨ a = 364
theorem c_M_doesSay {d : Nat} (s n r N : Nat) (ks : Nat → Nat) (file : Int32) (c : Nat → List Nat) (h : AH) (m : MLY h) (y : MRd h r N c) (hr : r < 4) (hs : s < 25) (hn : hI h 365 s = nI n) (hn2 : n ≤ 12) (it jv : Nat → Int32) (hit : it = fun q => hI h 368 (12 * s + q)) (hjv : jv = fun i => hI h 369 (36 * s + i)) (ki : KI n ks (fun q => hI h 367 (12 * s + q)) it) (Q : Option Value → AH → Prop)
    (fin : ∀ h', Fr dss nov h h' → Q (some (.int (fdR (wF (stF n ks it (hI h 366 s) jv (3 * n)) file) c N 0))) h') : Cl (d + 3) q_M_doesSay [.ref 342, .int (nI s), .int (nI r), .int file] h Q := by
  rw [e_M_doesSay, b_M_doesSay_0]
  refine ⟨mo m, ?_⟩
  refine c_M_findReadings s n ks file h m hs hn hn2 it jv hit hjv ki _ ?_
  intro h1 fr1 g1
  simp only [Option.toList, List.cons_append, List.nil_append, b_M_doesSay_4]
  refine w_M_doesSay s r N file c _ h1 (m.fr fr1) (y.fr fr1 (by unfold onl; omega)) hr g1 _ ?_ N 0 0 h1 (by omega) Fr.rfl' rfl
  intro h2 fr2
  refine ⟨?_, fin h2 ((fr1.mo (fun a z => Or.inl z) (fun a z => z)).tr (fr2.mo (fun a z => Or.inr z) (fun a z => z)))⟩
  rcases fdR_01 (wF (stF n ks it (hI h 366 s) jv (3 * n)) file) c N 0 with q | q <;> rw [q]
  · exact rtZ0
  · exact rtZ1
