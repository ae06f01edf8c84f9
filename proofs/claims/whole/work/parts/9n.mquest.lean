--deps: 9m.quest
/-! A QUESTION OF THE REFERENCE -/
def mqs : Nat → Prop := fun a => a = 342 ∨ (353 ≤ a ∧ a ≤ 356)
def KQ (n : Nat) (h h' : AH) : Prop := Fr mqs nov h h' ∧ (∀ j, j ≠ 7 → j ≠ 8 → hI h' 342 j = hI h 342 j) ∧ (∀ j, j < 4 → hI h' 353 j = hI h 353 j) ∧ (∀ j, j < 48 + n → hI h' 354 j = hI h 354 j ∧ hI h' 355 j = hI h 355 j ∧ hI h' 356 j = hI h 356 j)
theorem KQ.tr {n : Nat} {h h1 h2 : AH} (a : KQ n h h1) (b : KQ n h1 h2) : KQ n h h2 := ⟨a.1.tr b.1, fun j p q => (b.2.1 j p q).trans (a.2.1 j p q), fun j p => (b.2.2.1 j p).trans (a.2.2.1 j p), fun j p => ⟨(b.2.2.2 j p).1.trans (a.2.2.2 j p).1, (b.2.2.2 j p).2.1.trans (a.2.2.2 j p).2.1, (b.2.2.2 j p).2.2.trans (a.2.2.2 j p).2.2⟩⟩
theorem KQ.kn {n : Nat} {h h' : AH} (a : KN h h') : KQ n h h' := by
  have e : ∀ x, x ≠ 342 → hI h' x = hI h x := fun x hx => a.1.I (fun z => hx z)
  refine ⟨a.1.mo (fun x z => Or.inl z) (fun x z => z), a.2, fun j _ => by rw [e 353 (by decide)], fun j _ => by rw [e 354 (by decide), e 355 (by decide), e 356 (by decide)]; exact ⟨rfl, rfl, rfl⟩⟩
def MQQ (ts : List (Nat × Nat)) (h : AH) (n : Nat) (q : QR) (h' : AH) : Prop := KQ n h h' ∧ RN ts q.1 q.2.1 h' ∧ (q.2.1 = 0 → hI h' 353 4 = nI (n + 1) ∧ hI h' 354 (48 + n) = nI q.2.2.1 ∧ hI h' 355 (48 + n) = q.2.2.2.1 ∧ hI h' 356 (48 + n) = nI q.2.2.2.2)
theorem MQQ.pre {ts : List (Nat × Nat)} {h0 h h' : AH} {n : Nat} {q : QR} (k : KQ n h0 h) (m : MQQ ts h n q h') : MQQ ts h0 n q h' := ⟨k.tr m.1, m.2⟩
section QNS
variable {ts : List (Nat × Nat)} {i d : Nat} {h : AH}
/-- the minutes, the count, the sign: at W 96 -/
def q96 (h : AH) (n : Nat) (s0 : Int32) : AH := sI (sI h 356 (48 + n) s0) 353 4 (nI (n + 1))
theorem q96_k {n : Nat} {s0 : Int32} : KQ n h (q96 h n s0) := by
  unfold q96
  refine ⟨(Fr.rfl'.sI (Or.inr (by decide))).sI (Or.inr (by decide)), fun j _ _ => by rw [rI_sI (by decide), rI_sI (by decide)], fun j hj => by rw [hI_same, if_neg (by omega), rI_sI (by decide)], fun j hj => ?_⟩
  rw [rI_sI (show 354 ≠ 353 by decide), rI_sI (show 354 ≠ 356 by decide), rI_sI (show 355 ≠ 353 by decide), rI_sI (show 355 ≠ 356 by decide), rI_sI (show 356 ≠ 353 by decide), hI_same, if_neg (by omega)]
  exact ⟨rfl, rfl, rfl⟩
theorem q96_r {n F : Nat} {s0 : Int32} (r : RN ts i F h) : RN ts i F (q96 h n s0) := by
  have fr : Fr (fun a => a = 353 ∨ a = 356) nov h (q96 h n s0) := (Fr.rfl'.sI (Or.inr rfl)).sI (Or.inl rfl)
  exact r.fr fr (fun a z => by omega)
theorem n_q96 (n : Nat) (x1 s0 : Int32) (hn : n < 12) (m : MLY h) (en : hI h 353 4 = nI n) (R : Option Value → AH → Prop) (fin : Cl (d + 2) q_M_takeSign [.ref 342, .int (nI 59)] (q96 h n s0) (fun r h' => Wp (d + 2) P_M_readAsk 108 [.ref 342, .int x1, .int (nI (48 + n))] (r.toList ++ []) h' R)) : Wp (d + 2) P_M_readAsk 96 [.ref 342, .int x1, .int (nI (48 + n))] [.int s0, .int (nI (48 + n)), .ref 356] h R := by
  have i1 : ixo (nI (48 + n)) 60 = true := nix (by omega) (by decide)
  have i4 : ixo 4 5 = true := by decide
  rw [b_M_readAsk_96]
  simp only [mk_356 m, mn_356 m, i1, hK_sI, hR_sI, hN_sI, mo m, mr_16 m, mk_353 m, mn_353 m, i4, rI_sI (show 353 ≠ 356 by decide), tn4, en, nI_1, cN (show 48 + n < 2147483648 by omega), mem20, mem21, mem22, al20, al21, al33, al34, al36, al37, al38, aa33, aa34, aa36, aa37, aa38, true_and, and_true, Int32.reduceOfNat, forall_const, true_implies, implies_true, false_implies, not_true_eq_false, not_false_eq_true]
  exact fin
theorem n_qFin (T : TOKS ts) (n k mn : Nat) (it x1 : Int32) (hn : n < 12) (r : RN ts i 0 h) (en : hI h 353 4 = nI n) (e4 : hI h 354 (48 + n) = nI k) (e5 : hI h 355 (48 + n) = it) (R : Option Value → AH → Prop) (fin : ∀ h', MQQ ts h n (qFin ts i k it mn) h' → R none h') : Wp (d + 2) P_M_readAsk 96 [.ref 342, .int x1, .int (nI (48 + n))] [.int (nI mn), .int (nI (48 + n)), .ref 356] h R := by
  refine n_q96 n x1 (nI mn) hn r.m en R ?_
  have rq := q96_r (n := n) (s0 := nI mn) r
  have kq := q96_k (h := h) (n := n) (s0 := nI mn)
  refine (n_takeSign (d := d) T 59 (by decide) (by decide) rq).mono ?_
  rintro r' h' ⟨rfl, p⟩
  simp only [Option.toList, List.cons_append, List.nil_append, b_M_readAsk_108]
  unfold qFin at fin
  by_cases q : tc ts i = 11059
  · rw [if_pos q] at p fin
    have k2 := kq.tr (KQ.kn p.1)
    have e : ∀ x, x ≠ 342 → hI h' x = hI (q96 h n (nI mn)) x := fun x hx => p.1.1.I (fun z => hx z)
    refine fin h' ⟨k2, p.2, fun _ => ⟨?_, ?_, ?_, ?_⟩⟩
    · rw [e 353 (by decide)]; unfold q96; rw [hI_same, if_pos rfl]
    · rw [e 354 (by decide)]; unfold q96; rw [rI_sI (by decide), rI_sI (by decide)]; exact e4
    · rw [e 355 (by decide)]; unfold q96; rw [rI_sI (by decide), rI_sI (by decide)]; exact e5
    · rw [e 356 (by decide)]; unfold q96; rw [rI_sI (by decide), hI_same, if_pos rfl]
  · rw [if_neg q] at p fin
    exact fin h' ⟨kq.tr (KQ.kn p.1), p.2, fun z => by simp only at z; omega⟩
theorem n_qEnd (T : TOKS ts) {F : Nat} (hF : F ≠ 0) (n : Nat) (x1 s0 : Int32) (hn : n < 12) (r : RN ts i F h) (en : hI h 353 4 = nI n) (R : Option Value → AH → Prop) (fin : ∀ h', MQQ ts h n (i, F, 0, 0, 0) h' → R none h') : Wp (d + 2) P_M_readAsk 96 [.ref 342, .int x1, .int (nI (48 + n))] [.int s0, .int (nI (48 + n)), .ref 356] h R := by
  refine n_q96 n x1 s0 hn r.m en R ?_
  have rq := q96_r (n := n) (s0 := s0) r
  refine (n_takeSign0 (d := d) T 59 (by decide) (by decide) hF rq _).mpr ?_
  simp only [Option.toList, List.cons_append, List.nil_append, b_M_readAsk_108]
  exact fin _ ⟨q96_k, rq, fun z => absurd z hF⟩
/-- the item: at W 82 -/
theorem n_q82 (n : Nat) (x1 s0 : Int32) (hn : n < 12) (m : MLY h) (R : Option Value → AH → Prop) (fin : Cl (d + 2) q_M_hasWord [.ref 342, .int (nI 1)] (sI h 355 (48 + n) s0) (fun r h' => Wp (d + 2) P_M_readAsk 89 [.ref 342, .int x1, .int (nI (48 + n))] (r.toList ++ [.int (nI (48 + n)), .ref 356]) h' R)) : Wp (d + 2) P_M_readAsk 82 [.ref 342, .int x1, .int (nI (48 + n))] [.int s0, .int (nI (48 + n)), .ref 355] h R := by
  have i1 : ixo (nI (48 + n)) 60 = true := nix (by omega) (by decide)
  rw [b_M_readAsk_82]
  simp only [mk_355 m, mn_355 m, i1, hK_sI, hR_sI, mo m, mr_19 m, cN (show 48 + n < 2147483648 by omega), mem20, mem21, mem22, al20, al21, al33, al34, al36, al37, al38, aa33, aa34, aa36, aa37, aa38, true_and, and_true, Int32.reduceOfNat, forall_const, true_implies, implies_true, false_implies, not_true_eq_false, not_false_eq_true]
  exact fin
theorem k355 {n : Nat} {s0 : Int32} : KQ n h (sI h 355 (48 + n) s0) := by
  refine ⟨Fr.rfl'.sI (Or.inr (by decide)), fun j _ _ => by rw [rI_sI (by decide)], fun j hj => by rw [rI_sI (by decide)], fun j hj => ?_⟩
  rw [rI_sI (show 354 ≠ 355 by decide), hI_same, if_neg (by omega), rI_sI (show 356 ≠ 355 by decide)]
  exact ⟨rfl, rfl, rfl⟩
theorem r355 {n F : Nat} {s0 : Int32} (r : RN ts i F h) : RN ts i F (sI h 355 (48 + n) s0) := r.fr (S := onl 355) (Fs1 Fr.rfl') (fun a z => by unfold onl at z; omega)
theorem n_qMin (T : TOKS ts) (n k : Nat) (it x1 : Int32) (hn : n < 12) (r : RN ts i 0 h) (en : hI h 353 4 = nI n) (e4 : hI h 354 (48 + n) = nI k) (R : Option Value → AH → Prop) (fin : ∀ h', MQQ ts h n (qMin ts i k it) h' → R none h') : Wp (d + 2) P_M_readAsk 82 [.ref 342, .int x1, .int (nI (48 + n))] [.int it, .int (nI (48 + n)), .ref 355] h R := by
  refine n_q82 n x1 it hn r.m R ?_
  have r1 := r355 (n := n) (s0 := it) r
  have k1 := k355 (h := h) (n := n) (s0 := it)
  have en1 : hI (sI h 355 (48 + n) it) 353 4 = nI n := by rw [rI_sI (by decide)]; exact en
  have e41 : hI (sI h 355 (48 + n) it) 354 (48 + n) = nI k := by rw [rI_sI (by decide)]; exact e4
  have e51 : hI (sI h 355 (48 + n) it) 355 (48 + n) = it := by rw [hI_same, if_pos rfl]
  generalize sI h 355 (48 + n) it = h1 at r1 k1 en1 e41 e51
  refine (n_hasWord (d := d) T 1 (by decide) r1).mono ?_
  intro r' h2 p2
  unfold qMin at fin
  by_cases q : tc ts i = 10019
  · rw [if_pos q] at fin
    rw [if_pos ⟨rfl, q⟩] at p2
    obtain ⟨rfl, p2⟩ := p2
    have k2 := k1.tr (KQ.kn (n := n) p2.1)
    have e : ∀ x, x ≠ 342 → hI h2 x = hI h1 x := fun x hx => p2.1.1.I (fun z => hx z)
    simp only [Option.toList, List.cons_append, List.nil_append, b_M_readAsk_89, show ¬ (1 : Int32) = 0 by decide, b_M_readAsk_90, mem20, mem21, mem22, al20, al21, al33, al34, al36, al37, al38, aa33, aa34, aa36, aa37, aa38, true_and, and_true, Int32.reduceOfNat, forall_const, true_implies, implies_true, false_implies, not_true_eq_false, not_false_eq_true]
    refine (n_takeNumber (d := d) T 1 9 (by decide) (by decide) p2.2).mono ?_
    intro r' h3 p3
    have e3 : ∀ {F' i' : Nat}, PN ts h2 i' F' h3 → ∀ x, x ≠ 342 → hI h3 x = hI h1 x := fun p x hx => (p.1.1.I (fun z => hx z)).trans (e x hx)
    by_cases q2 : numF ts (i + 1) 1 9 = 0
    · rw [if_pos q2] at p3 fin
      obtain ⟨rfl, p3⟩ := p3
      have ee := e3 p3
      simp only [Option.toList, List.cons_append, List.nil_append, b_M_readAsk_94]
      refine n_qFin T n k (tc ts (i + 1)) it x1 hn p3.2 (by rw [ee 353 (by decide)]; exact en1) (by rw [ee 354 (by decide)]; exact e41) (by rw [ee 355 (by decide)]; exact e51) R ?_
      intro h' mq
      exact fin h' (mq.pre (k2.tr (KQ.kn p3.1)))
    · rw [if_neg q2] at p3 fin
      obtain ⟨rfl, p3⟩ := p3
      have ee := e3 p3
      simp only [Option.toList, List.cons_append, List.nil_append, b_M_readAsk_94]
      refine n_qEnd T q2 n x1 _ hn p3.2 (by rw [ee 353 (by decide)]; exact en1) R ?_
      intro h' mq
      exact fin h' (mq.pre (k2.tr (KQ.kn p3.1)))
  · rw [if_neg q] at fin
    rw [if_neg (fun z => q z.2)] at p2
    obtain ⟨rfl, p2⟩ := p2
    have k2 := k1.tr (KQ.kn (n := n) p2.1)
    have e : ∀ x, x ≠ 342 → hI h2 x = hI h1 x := fun x hx => p2.1.1.I (fun z => hx z)
    simp only [Option.toList, List.cons_append, List.nil_append, b_M_readAsk_89, b_M_readAsk_95, mem20, mem21, mem22, al20, al21, al33, al34, al36, al37, al38, aa33, aa34, aa36, aa37, aa38, true_and, and_true, Int32.reduceOfNat, forall_const, true_implies, implies_true, false_implies, not_true_eq_false, not_false_eq_true]
    refine n_qFin T n k 1 it x1 hn p2.2 (by rw [e 353 (by decide)]; exact en1) (by rw [e 354 (by decide)]; exact e41) (by rw [e 355 (by decide)]; exact e51) R ?_
    intro h' mq
    exact fin h' (mq.pre k2)
theorem n_qDead (T : TOKS ts) {F : Nat} (hF : F ≠ 0) (n : Nat) (x1 s0 : Int32) (hn : n < 12) (r : RN ts i F h) (en : hI h 353 4 = nI n) (R : Option Value → AH → Prop) (fin : ∀ h', MQQ ts h n (i, F, 0, 0, 0) h' → R none h') : Wp (d + 2) P_M_readAsk 82 [.ref 342, .int x1, .int (nI (48 + n))] [.int s0, .int (nI (48 + n)), .ref 355] h R := by
  refine n_q82 n x1 s0 hn r.m R ?_
  have r1 := r355 (n := n) (s0 := s0) r
  have k1 := k355 (h := h) (n := n) (s0 := s0)
  refine (n_hasWord (d := d) T 1 (by decide) r1).mono ?_
  intro r' h2 p2
  rw [if_neg (fun z => hF z.1)] at p2
  obtain ⟨rfl, p2⟩ := p2
  simp only [Option.toList, List.cons_append, List.nil_append, b_M_readAsk_89, b_M_readAsk_95, mem20, mem21, mem22, al20, al21, al33, al34, al36, al37, al38, aa33, aa34, aa36, aa37, aa38, true_and, and_true, Int32.reduceOfNat, forall_const, true_implies, implies_true, false_implies, not_true_eq_false, not_false_eq_true]
  refine n_qEnd T hF n x1 1 hn p2.2 ?_ R ?_
  · rw [p2.1.1.I (fun z => absurd (show (353 : Nat) = 342 from z) (by decide)), rI_sI (by decide)]; exact en
  · intro h' mq
    exact fin h' (mq.pre (k1.tr (KQ.kn p2.1)))
/-- the kind -/
def kL (t : Nat) : Nat → Nat → Int32 → Int32
  | 0, _, x => x
  | m + 1, k, x => kL t m (k + 1) (if t = 10000 + rwo (8 + k) then nI k else x)
theorem kL_1 : ∀ r, r < 4 → kL (10000 + r) 4 0 (-1) = nI r := by decide +kernel
theorem kL_2 {t : Nat} (q : ¬ (10000 ≤ t ∧ t < 10004)) : kL t 4 0 (-1) = -1 := by
  have e : ∀ k, k < 4 → rwo (8 + k) = k := by decide
  have no : ∀ k, k < 4 → ¬ t = 10000 + rwo (8 + k) := fun k hk => by rw [e k hk]; omega
  show kL t 0 4 _ = -1
  show (if t = 10000 + rwo (8 + 3) then nI 3 else if t = 10000 + rwo (8 + 2) then nI 2 else if t = 10000 + rwo (8 + 1) then nI 1 else if t = 10000 + rwo (8 + 0) then nI 0 else -1) = -1
  rw [if_neg (no 3 (by decide)), if_neg (no 2 (by decide)), if_neg (no 1 (by decide)), if_neg (no 0 (by decide))]
theorem w_M_kind (T : TOKS ts) (r : RN ts i 0 h) (Q : Option Value → AH → Prop) : ∀ (m k : Nat) (x : Int32), k + m = 4 → (Wp (d + 1) P_M_readAsk 31 [.ref 342, .int x, .int (nI k)] [] h Q ↔ Wp (d + 1) P_M_readAsk 46 [.ref 342, .int (kL (tc ts i) m k x), .int (nI 4)] [] h Q) := by
  intro m
  induction m with
  | zero =>
    intro k x e
    have : k = 4 := by omega
    subst this
    rw [b_M_readAsk_31]
    simp only [show (4 : Int32) ≤ nI 4 by decide, mem20, mem21, mem22, al20, al21, al33, al34, al36, al37, al38, aa33, aa34, aa36, aa37, aa38, true_and, and_true, Int32.reduceOfNat, forall_const, true_implies, implies_true, false_implies, not_true_eq_false, not_false_eq_true]
    rfl
  | succ m ih =>
    intro k x e
    have z : ¬ (4 : Int32) ≤ nI k := mt (nle (a := 4) (by decide) (by omega)).mp (by omega)
    have e8 : (8 : Int32) + nI k = nI (8 + k) := nadd 8 k
    rw [b_M_readAsk_31]
    simp only [z, b_M_readAsk_34, e8, n_isWord T (8 + k) (by omega) r, Option.toList, List.cons_append, List.nil_append, b_M_readAsk_39, b_M_readAsk_40, b_M_readAsk_42, b_M_readAsk_43, nI_1, mem20, mem21, mem22, al20, al21, al33, al34, al36, al37, al38, aa33, aa34, aa36, aa37, aa38, true_and, and_true, Int32.reduceOfNat, forall_const, true_implies, implies_true, false_implies, not_true_eq_false, not_false_eq_true]
    show _ ↔ Wp (d + 1) P_M_readAsk 46 [.ref 342, .int (kL (tc ts i) m (k + 1) (if tc ts i = 10000 + rwo (8 + k) then nI k else x)), .int (nI 4)] [] h Q
    by_cases q : tc ts i = 10000 + rwo (8 + k)
    · simp only [if_pos q, show ¬ (1 : Int32) = 0 by decide, ih (k + 1) _ (by omega), mem20, mem21, mem22, al20, al21, al33, al34, al36, al37, al38, aa33, aa34, aa36, aa37, aa38, true_and, and_true, Int32.reduceOfNat, forall_const, true_implies, implies_true, false_implies, not_true_eq_false, not_false_eq_true]
    · simp only [if_neg q, ih (k + 1) _ (by omega), mem20, mem21, mem22, al20, al21, al33, al34, al36, al37, al38, aa33, aa34, aa36, aa37, aa38, true_and, and_true, Int32.reduceOfNat, forall_const, true_implies, implies_true, false_implies, not_true_eq_false, not_false_eq_true]
theorem n_question (T : TOKS ts) (n : Nat) (hn : n ≤ 12) (r : RN ts i 0 h) (en : hI h 353 4 = nI n) : Cl (d + 3) q_M_readAsk [.ref 342] h (fun r' h' => r' = none ∧ MQQ ts h n (qst ts i n) h') := by
  have hp := (T.2.2 i r.lt).2.2
  have m := r.m
  have f0 : hI h 342 8 = 0 := r.f
  have i4 : ixo 4 5 = true := by decide
  have n12 : nI n = 12 ↔ n = 12 := neq (b := 12) (by omega) (by decide)
  have w0 : ∀ Q, Cl (d + 2) q_M_isWord [.ref 342, .int 0] h Q ↔ Q (some (.int (if 0 = 0 ∧ tc ts i = 10018 then 1 else 0))) h := fun Q => n_isWord T 0 (by decide) r Q
  have bad : ∀ k, k = 1 ∨ k = 5 → qst ts i n = (i, k + 16 * tp ts i, 0, 0, 0) → ∀ h1, PN ts h i (k + 16 * tp ts i) h1 → Wp (d + 2) P_M_readAsk 17 [.ref 342, .null, .null] [] h1 (fun r' h' => rtk none r' = true ∧ r' = none ∧ MQQ ts h n (qst ts i n) h') := by
    intro k hk e h1 p
    have z : ¬ nI (k + 16 * tp ts i) ≤ 0 := mt (nI_le0 (by omega)).mp (by omega)
    simp only [b_M_readAsk_17, mo p.2.m, p.2.f, z, b_M_readAsk_20, mem20, mem21, mem22, al20, al21, al33, al34, al36, al37, al38, aa33, aa34, aa36, aa37, aa38, true_and, and_true, Int32.reduceOfNat, forall_const, true_implies, implies_true, false_implies, not_true_eq_false, not_false_eq_true]
    exact ⟨rtV, KQ.kn p.1, by rw [e]; exact p.2, fun y => by rw [e] at y; simp only at y; omega⟩
  rw [e_M_readAsk, b_M_readAsk_0, w0]
  simp only [mo m, Option.toList, List.cons_append, List.nil_append, b_M_readAsk_3, true_and]
  by_cases q : tc ts i = 10018
  · rw [if_pos q]
    simp only [show ¬ (1 : Int32) = 0 by decide, b_M_readAsk_8, mo m, mr_16 m, mk_353 m, mn_353 m, i4, tn4, en, n12, mem20, mem21, mem22, al20, al21, al33, al34, al36, al37, al38, aa33, aa34, aa36, aa37, aa38, true_and, and_true, Int32.reduceOfNat, forall_const, true_implies, implies_true, false_implies, not_true_eq_false, not_false_eq_true]
    by_cases nn : n = 12
    · simp only [nn, b_M_readAsk_14, mem20, mem21, mem22, al20, al21, al33, al34, al36, al37, al38, aa33, aa34, aa36, aa37, aa38, true_and, and_true, Int32.reduceOfNat, forall_const, true_implies, implies_true, false_implies, not_true_eq_false, not_false_eq_true]
      refine (n_wrong T 5 (by decide) r).mono ?_
      rintro r' h1 ⟨rfl, p⟩
      simp only [Option.toList, List.cons_append, List.nil_append]
      rw [← nn]
      exact bad 5 (Or.inr rfl) (by unfold qst; rw [if_pos q, if_pos nn]) h1 p
    · have h1l := sgn_lt T r.lt (show tc ts i ≠ 12000 by omega)
      have hp1 := (T.2.2 _ h1l).2.2
      have e0 : qst ts i n = if 10000 ≤ tc ts (i + 1) ∧ tc ts (i + 1) < 10004 then qKnd ts (i + 2) (tc ts (i + 1) - 10000) else (i + 1, 1 + 16 * tp ts (i + 1), 0, 0, 0) := by
        unfold qst
        rw [if_pos q, if_neg nn]
      have g := r.mv (j := 7) (v := nI (i + 1)) (i' := i + 1) (F' := 0) (Or.inl ⟨rfl, rfl, rfl⟩) h1l (by decide) (Nat.zero_le _)
      simp only [nn, b_M_readAsk_17, mo m, f0, Int32.le_refl, b_M_readAsk_21, r.at, nI_1, mem20, mem21, mem22, al20, al21, al33, al34, al36, al37, al38, aa33, aa34, aa36, aa37, aa38, true_and, and_true, Int32.reduceOfNat, forall_const, true_implies, implies_true, false_implies, not_true_eq_false, not_false_eq_true]
      have en1 : hI (sI h 342 7 (nI (i + 1))) 353 4 = nI n := by rw [rI_sI (by decide)]; exact en
      generalize sI h 342 7 (nI (i + 1)) = h1 at g en1
      refine (w_M_kind (d := d + 1) T g.2 _ 4 0 (-1) rfl).mpr ?_
      by_cases q2 : 10000 ≤ tc ts (i + 1) ∧ tc ts (i + 1) < 10004
      · rw [if_pos q2] at e0
        have h2l := sgn_lt T h1l (show tc ts (i + 1) ≠ 12000 by omega)
        obtain ⟨k, hk⟩ : ∃ k, tc ts (i + 1) = 10000 + k := ⟨tc ts (i + 1) - 10000, by omega⟩
        have hk4 : k < 4 := by omega
        rw [hk] at e0 ⊢
        rw [Nat.add_sub_cancel_left] at e0
        rw [kL_1 k hk4, b_M_readAsk_46]
        have z0 : 0 ≤ nI k := Int32.not_lt.mp (n_nn (by omega))
        have c3 : nI k = 3 ↔ k = 3 := neq (b := 3) (by omega) (by decide)
        have e48 : (48 : Int32) + nI n = nI (48 + n) := nadd 48 n
        have i60 : ixo (nI (48 + n)) 60 = true := nix (by omega) (by decide)
        have m1 := g.2.m
        have g2 := g.2.mv (j := 7) (v := nI (i + 2)) (i' := i + 2) (F' := 0) (Or.inl ⟨rfl, rfl, rfl⟩) h2l (by decide) (Nat.zero_le _)
        have e12 : nI (i + 1) + 1 = nI (i + 2) := nI_1 (i + 1)
        simp only [z0, b_M_readAsk_52, mo m1, hK_sI, hR_sI, hN_sI, mr_16 m1, mr_17 m1, mr_18 m1, mk_353 m1, mn_353 m1, mk_354 m1, mn_354 m1, i4, tn4, rI_sI (show 353 ≠ 342 by decide), en1, e48, i60, g.2.at, e12, cN (show 48 + n < 2147483648 by omega), c3, mem20, mem21, mem22, al20, al21, al33, al34, al36, al37, al38, aa33, aa34, aa36, aa37, aa38, true_and, and_true, Int32.reduceOfNat, forall_const, true_implies, implies_true, false_implies, not_true_eq_false, not_false_eq_true]
        have en2 : hI (sI h1 342 7 (nI (i + 2))) 353 4 = nI n := by rw [rI_sI (by decide)]; exact en1
        generalize sI h1 342 7 (nI (i + 2)) = h2 at g2 en2
        have r3 : RN ts (i + 2) 0 (sI h2 354 (48 + n) (nI k)) := g2.2.fr (S := onl 354) (Fs1 Fr.rfl') (fun a z => by unfold onl at z; omega)
        have k3 : KQ n h2 (sI h2 354 (48 + n) (nI k)) := by
          refine ⟨Fr.rfl'.sI (Or.inr (by decide)), fun j _ _ => by rw [rI_sI (by decide)], fun j hj => by rw [rI_sI (by decide)], fun j hj => ?_⟩
          rw [hI_same, if_neg (by omega), rI_sI (show 355 ≠ 354 by decide), rI_sI (show 356 ≠ 354 by decide)]
          exact ⟨rfl, rfl, rfl⟩
        have en3 : hI (sI h2 354 (48 + n) (nI k)) 353 4 = nI n := by rw [rI_sI (by decide)]; exact en2
        have e43 : hI (sI h2 354 (48 + n) (nI k)) 354 (48 + n) = nI k := by rw [hI_same, if_pos rfl]
        generalize sI h2 354 (48 + n) (nI k) = h3 at r3 k3 en3 e43
        have kk : KQ n h h3 := ((KQ.kn g.1).tr (KQ.kn g2.1)).tr k3
        rw [e0]
        unfold qKnd
        refine ⟨fun q3 => ?_, fun q3 => ?_⟩
        · rw [if_neg q3, b_M_readAsk_81]
          refine n_qMin T n k _ _ (by omega) r3 en3 e43 _ ?_
          intro h' mq
          exact ⟨rtV, rfl, mq.pre kk⟩
        · have q3 := Classical.not_not.mp q3
          rw [if_pos q3, b_M_readAsk_76]
          refine (n_takeNumber (d := d) T 0 8 (by decide) (by decide) r3).mono ?_
          intro r' h4 p4
          by_cases q4 : numF ts (i + 2) 0 8 = 0
          · rw [if_pos q4] at p4 ⊢
            obtain ⟨rfl, p4⟩ := p4
            have e : ∀ x, x ≠ 342 → hI h4 x = hI h3 x := fun x hx => p4.1.1.I (fun z => hx z)
            simp only [Option.toList, List.cons_append, List.nil_append, b_M_readAsk_80]
            refine n_qMin T n k _ _ (by omega) p4.2 (by rw [e 353 (by decide)]; exact en3) (by rw [e 354 (by decide)]; exact e43) _ ?_
            intro h' mq
            exact ⟨rtV, rfl, mq.pre (kk.tr (KQ.kn p4.1))⟩
          · rw [if_neg q4] at p4 ⊢
            obtain ⟨rfl, p4⟩ := p4
            have e : ∀ x, x ≠ 342 → hI h4 x = hI h3 x := fun x hx => p4.1.1.I (fun z => hx z)
            simp only [Option.toList, List.cons_append, List.nil_append, b_M_readAsk_80]
            refine n_qDead T q4 n _ _ (by omega) p4.2 (by rw [e 353 (by decide)]; exact en3) _ ?_
            intro h' mq
            exact ⟨rtV, rfl, mq.pre (kk.tr (KQ.kn p4.1))⟩
      · rw [if_neg q2] at e0
        rw [kL_2 q2, b_M_readAsk_46]
        simp only [show ¬ (0 : Int32) ≤ -1 by decide, b_M_readAsk_48, mem20, mem21, mem22, al20, al21, al33, al34, al36, al37, al38, aa33, aa34, aa36, aa37, aa38, true_and, and_true, Int32.reduceOfNat, forall_const, true_implies, implies_true, false_implies, not_true_eq_false, not_false_eq_true]
        refine (n_wrong T 1 (by decide) g.2).mono ?_
        rintro r' h2 ⟨rfl, p2⟩
        simp only [Option.toList, List.cons_append, List.nil_append, b_M_readAsk_51]
        exact ⟨rtV, True.intro, (KQ.kn g.1).tr (KQ.kn p2.1), by rw [e0]; exact p2.2, fun y => by rw [e0] at y; simp only at y; omega⟩
  · rw [if_neg q]
    simp only [b_M_readAsk_4, mem20, mem21, mem22, al20, al21, al33, al34, al36, al37, al38, aa33, aa34, aa36, aa37, aa38, true_and, and_true, Int32.reduceOfNat, forall_const, true_implies, implies_true, false_implies, not_true_eq_false, not_false_eq_true]
    refine (n_wrong T 1 (by decide) r).mono ?_
    rintro r' h1 ⟨rfl, p⟩
    simp only [Option.toList, List.cons_append, List.nil_append, b_M_readAsk_7]
    exact bad 1 (Or.inl rfl) (by unfold qst; rw [if_neg q]) h1 p
end QNS
