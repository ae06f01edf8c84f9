--deps: 9l.pn
/-! A QUESTION -/
section QX
variable {L : Nat} {xs : Nat → Int32} {ts : List (Nat × Nat)} {rd : Int32} {i F d : Nat} {cs : List Nat} {h : AH}
theorem RX.fr {S T : Nat → Prop} {h' : AH} (r : RX L xs ts rd i F cs h) (p : Fr S T h h') (e8 : hR h' 108 8 = hR h 108 8) (q : ∀ a, S a → 100 ≤ a ∧ a ≠ 108 ∧ a ≠ 109 ∧ a ≠ 111 ∧ a ≠ 112 ∧ a ≠ 117 ∧ a ≠ 121) : RX L xs ts rd i F cs h' := by
  obtain ⟨s, x, t, a3, a4, a5, a6, a7, a8, a9, a10, a11, a12, a13⟩ := r
  have e : ∀ a, (a = 108 ∨ a = 109 ∨ a = 111 ∨ a = 112 ∨ a = 117 ∨ a = 121) → hI h' a = hI h a := fun a z => p.I (fun w => by have := q a w; omega)
  refine ⟨s.fr p (fun a z => (q a z).1), x.fr p, ⟨?_, ?_⟩, ?_, ?_, ?_, ?_, ?_, e8.trans a8, ?_, ?_, a11, a12, a13⟩
  · rw [e 109 (by omega)]; exact t.1
  · intro j hj; rw [e 111 (by omega), e 112 (by omega)]; exact t.2 j hj
  · rw [e 108 (by omega)]; exact a3
  · rw [e 108 (by omega)]; exact a4
  · rw [e 108 (by omega)]; exact a5
  · rw [e 108 (by omega)]; exact a6
  · rw [e 108 (by omega)]; exact a7
  · rw [e 117 (by omega)]; exact a9
  · rw [e 121 (by omega)]; exact a10
theorem kd_B1 : ∀ r, r < 4 → oI id (fcB (10000 + r)) = nI r := by decide +kernel
theorem kd_B2 : ∀ r, r < 24 → 4 ≤ r → oI id (fcB (10000 + r)) < 0 ∨ ¬ oI id (fcB (10000 + r)) < 4 := by decide +kernel
theorem kd_in {t : Nat} (q : 10000 ≤ t ∧ t < 10004) : oI id (fcB t) = nI (t - 10000) := by
  obtain ⟨r, rfl⟩ : ∃ r, t = 10000 + r := ⟨t - 10000, by omega⟩
  rw [kd_B1 r (by omega), Nat.add_sub_cancel_left]
theorem kd_out {t : Nat} (q : ¬ (10000 ≤ t ∧ t < 10004)) : oI id (fcB t) < 0 ∨ ¬ oI id (fcB t) < 4 := by
  by_cases z : 10000 ≤ t ∧ t < 10024
  · obtain ⟨r, rfl⟩ : ∃ r, t = 10000 + r := ⟨t - 10000, by omega⟩
    exact kd_B2 r (by omega) (by omega)
  · left
    unfold fcB
    rw [if_neg (by omega)]
    decide
theorem x_takeKind (T : TOKS ts) (r : RX L xs ts rd i 0 cs h) : Cl (d + 2) q_Pa_takeKind [.ref 108] h (fun r' h' => if 10000 ≤ tc ts i ∧ tc ts i < 10004 then r' = some (.int (nI (tc ts i - 10000))) ∧ PX L xs ts rd h (i + 1) 0 cs h' else r' = some (.int (-1)) ∧ PX L xs ts rd h i (1 + 16 * tp ts i) cs h') := by
  have hp := (T.2.2 i r.lt).2.2
  obtain ⟨f1, f2, f3⟩ := fx_at r.s (tc ts i)
  have f0 : hI h 108 4 = 0 := r.f
  rw [e_Pa_takeKind, b_Pa_takeKind_0]
  simp only [xk_108 r.x, r.w, f1, f2, true_and]
  by_cases q : 10000 ≤ tc ts i ∧ tc ts i < 10004
  · have z1 := n_nn (n := tc ts i - 10000) (by omega)
    have z2 : nI (tc ts i - 10000) < 4 := (nlt (b := 4) (by omega) (by decide)).mpr (by omega)
    simp only [kd_in q, z1, b_Pa_takeKind_6, z2, b_Pa_takeKind_12, xk_108 r.x, f0, b_Pa_takeKind_17, mem20, mem21, mem22, al20, al21, al33, al34, al36, al37, al38, aa33, aa34, aa36, aa37, aa38, true_and, and_true, Int32.reduceOfNat, forall_const, true_implies, implies_true, false_implies, not_true_eq_false, not_false_eq_true]
    refine (x_next T r (sgn_lt T r.lt (by omega))).mono ?_
    rintro r' h' ⟨rfl, p⟩
    simp only [Option.toList, List.cons_append, List.nil_append, b_Pa_takeKind_19]
    rw [if_pos q]
    exact ⟨rtI _, True.intro, p⟩
  · have bad : Wp (d + 1) P_Pa_takeKind 9 [.ref 108, .int (oI id (fcB (tc ts i)))] [] h (fun r' h' => rtk (some .int) r' = true ∧ if 10000 ≤ tc ts i ∧ tc ts i < 10004 then r' = some (.int (nI (tc ts i - 10000))) ∧ PX L xs ts rd h (i + 1) 0 cs h' else r' = some (.int (-1)) ∧ PX L xs ts rd h i (1 + 16 * tp ts i) cs h') := by
      rw [b_Pa_takeKind_9]
      refine (x_wrong T 1 (by decide) r).mono ?_
      rintro r' h' ⟨rfl, p⟩
      have z : ¬ nI (1 + 16 * tp ts i) = 0 := mt (nI0 (by omega)).mp (by omega)
      simp only [Option.toList, List.cons_append, List.nil_append, b_Pa_takeKind_12, xk_108 p.2.x, p.2.f, z, b_Pa_takeKind_15, mem20, mem21, mem22, al20, al21, al33, al34, al36, al37, al38, aa33, aa34, aa36, aa37, aa38, true_and, and_true, Int32.reduceOfNat, forall_const, true_implies, implies_true, false_implies, not_true_eq_false, not_false_eq_true]
      rw [if_neg q]
      exact ⟨rtI _, p⟩
    refine ⟨fun _ => bad, fun z => ?_⟩
    have := (kd_out q).resolve_left z
    rw [b_Pa_takeKind_6]
    exact ⟨fun y => absurd y this, fun _ => bad⟩
theorem x_takeKind0 (hF : F ≠ 0) (r : RX L xs ts rd i F cs h) (Q : Option Value → AH → Prop) : Cl (d + 2) q_Pa_takeKind [.ref 108] h Q ↔ Q (some (.int (-1))) h := by
  have z : ¬ nI F = 0 := mt (nI0 (by have := r.Fl; omega)).mp hF
  obtain ⟨f1, f2, f3⟩ := fx_at r.s (tc ts i)
  rw [e_Pa_takeKind, b_Pa_takeKind_0]
  simp only [xk_108 r.x, r.w, f1, f2, b_Pa_takeKind_6, b_Pa_takeKind_9, x_wrong0 hF r, Option.toList, List.cons_append, List.nil_append, b_Pa_takeKind_12, r.f, z, b_Pa_takeKind_15, rtI, mem20, mem21, mem22, al20, al21, al33, al34, al36, al37, al38, aa33, aa34, aa36, aa37, aa38, true_and, and_true, Int32.reduceOfNat, forall_const, true_implies, implies_true, false_implies, not_true_eq_false, not_false_eq_true]
  by_cases q1 : oI id (fcB (tc ts i)) < 0
  · simp [q1]
  · by_cases q2 : oI id (fcB (tc ts i)) < 4 <;> simp [q1, q2]
end QX
/-! what comes of a question's tokens: the place, the fault, the kind, the item, the minutes -/
abbrev QR : Type := Nat × Nat × Nat × Int32 × Nat
def qFin (ts : List (Nat × Nat)) (j k : Nat) (it : Int32) (mn : Nat) : QR := if tc ts j = 11059 then (j + 1, 0, k, it, mn) else (j, 1 + 16 * tp ts j, 0, 0, 0)
def qMin (ts : List (Nat × Nat)) (j k : Nat) (it : Int32) : QR := if tc ts j = 10019 then (if numF ts (j + 1) 1 9 = 0 then qFin ts (j + 2) k it (tc ts (j + 1)) else (j + 1, numF ts (j + 1) 1 9, 0, 0, 0)) else qFin ts j k it 1
def qKnd (ts : List (Nat × Nat)) (j k : Nat) : QR := if k = 3 then (if numF ts j 0 8 = 0 then qMin ts (j + 1) k (nI (tc ts j)) else (j, numF ts j 0 8, 0, 0, 0)) else qMin ts j k (-1)
def qst (ts : List (Nat × Nat)) (i n : Nat) : QR := if tc ts i = 10018 then (if n = 12 then (i, 5 + 16 * tp ts i, 0, 0, 0) else if 10000 ≤ tc ts (i + 1) ∧ tc ts (i + 1) < 10004 then qKnd ts (i + 2) (tc ts (i + 1) - 10000) else (i + 1, 1 + 16 * tp ts (i + 1), 0, 0, 0)) else (i, 1 + 16 * tp ts i, 0, 0, 0)
theorem numF_0 {ts : List (Nat × Nat)} {i a b : Nat} (h : numF ts i a b = 0) : a ≤ tc ts i ∧ tc ts i ≤ b ∧ tc ts i < 10000 := by
  unfold numF at h
  by_cases z : tc ts i < 10000
  · rw [if_pos z] at h
    by_cases z2 : a ≤ tc ts i ∧ tc ts i ≤ b
    · exact ⟨z2.1, z2.2, z⟩
    · rw [if_neg z2] at h; omega
  · rw [if_neg z] at h; omega
theorem numF_lt {ts : List (Nat × Nat)} (T : TOKS ts) {i a b : Nat} (hi : i < ts.length) : numF ts i a b < 20000 := by
  have hp := (T.2.2 i hi).2.2
  unfold numF
  split
  · split <;> omega
  · omega
def qOk (q : QR) : Prop := q.2.2.1 < 4 ∧ (q.2.2.1 = 3 ↔ ¬ q.2.2.2.1 = -1) ∧ q.2.2.2.2 ≤ 9
theorem qFin_o {ts : List (Nat × Nat)} (T : TOKS ts) {i j k mn : Nat} {it : Int32} (hi : i < j) (hj : j < ts.length) (h1 : k < 4) (h2 : k = 3 ↔ ¬ it = -1) (h3 : mn ≤ 9) : (qFin ts j k it mn).1 < ts.length ∧ (qFin ts j k it mn).2.1 < 20000 ∧ i < (qFin ts j k it mn).1 ∧ ((qFin ts j k it mn).2.1 = 0 → qOk (qFin ts j k it mn)) := by
  have hp := (T.2.2 j hj).2.2
  unfold qFin
  by_cases q : tc ts j = 11059
  · rw [if_pos q]
    exact ⟨sgn_lt T hj (by omega), by simp only; omega, by simp only; omega, fun _ => ⟨h1, h2, h3⟩⟩
  · rw [if_neg q]
    exact ⟨hj, by simp only; omega, hi, fun z => by simp only at z; omega⟩
theorem qMin_o {ts : List (Nat × Nat)} (T : TOKS ts) {i j k : Nat} {it : Int32} (hi : i < j) (hj : j < ts.length) (h1 : k < 4) (h2 : k = 3 ↔ ¬ it = -1) : (qMin ts j k it).1 < ts.length ∧ (qMin ts j k it).2.1 < 20000 ∧ i < (qMin ts j k it).1 ∧ ((qMin ts j k it).2.1 = 0 → qOk (qMin ts j k it)) := by
  unfold qMin
  by_cases q : tc ts j = 10019
  · rw [if_pos q]
    have hj1 := sgn_lt T hj (by omega)
    by_cases q2 : numF ts (j + 1) 1 9 = 0
    · rw [if_pos q2]
      have := numF_0 q2
      exact qFin_o T (by omega) (sgn_lt T hj1 (by omega)) h1 h2 (by omega)
    · rw [if_neg q2]
      exact ⟨hj1, numF_lt T hj1, by simp only; omega, fun z => absurd z q2⟩
  · rw [if_neg q]
    exact qFin_o T hi hj h1 h2 (by decide)
theorem qKnd_o {ts : List (Nat × Nat)} (T : TOKS ts) {i j k : Nat} (hi : i < j) (hj : j < ts.length) (h1 : k < 4) : (qKnd ts j k).1 < ts.length ∧ (qKnd ts j k).2.1 < 20000 ∧ i < (qKnd ts j k).1 ∧ ((qKnd ts j k).2.1 = 0 → qOk (qKnd ts j k)) := by
  unfold qKnd
  by_cases q : k = 3
  · rw [if_pos q]
    by_cases q2 : numF ts j 0 8 = 0
    · rw [if_pos q2]
      have h8 := numF_0 q2
      refine qMin_o T (by omega) (sgn_lt T hj (by omega)) h1 ⟨fun _ => ?_, fun _ => q⟩
      intro e
      have := n_nn (n := tc ts j) (by omega)
      rw [e] at this
      exact this (by decide)
    · rw [if_neg q2]
      exact ⟨hj, numF_lt T hj, hi, fun z => absurd z q2⟩
  · rw [if_neg q]
    exact qMin_o T hi hj h1 ⟨fun z => absurd z q, fun z => absurd rfl z⟩
theorem qst_o {ts : List (Nat × Nat)} (T : TOKS ts) {i n : Nat} (hi : i < ts.length) : (qst ts i n).1 < ts.length ∧ (qst ts i n).2.1 < 20000 ∧ i ≤ (qst ts i n).1 ∧ ((qst ts i n).2.1 = 0 → i < (qst ts i n).1 ∧ ¬ n = 12 ∧ qOk (qst ts i n)) := by
  have hp := (T.2.2 i hi).2.2
  unfold qst
  by_cases q : tc ts i = 10018
  · rw [if_pos q]
    have h1 := sgn_lt T hi (by omega)
    have hp1 := (T.2.2 _ h1).2.2
    by_cases q2 : n = 12
    · rw [if_pos q2]
      exact ⟨hi, by simp only; omega, Nat.le_refl _, fun z => by simp only at z; omega⟩
    · rw [if_neg q2]
      by_cases q3 : 10000 ≤ tc ts (i + 1) ∧ tc ts (i + 1) < 10004
      · rw [if_pos q3]
        obtain ⟨a, b, c, e⟩ := qKnd_o T (i := i) (j := i + 2) (k := tc ts (i + 1) - 10000) (by omega) (sgn_lt T h1 (by omega)) (by omega)
        exact ⟨a, b, by omega, fun z => ⟨c, q2, e z⟩⟩
      · rw [if_neg q3]
        exact ⟨h1, by simp only; omega, by simp only; omega, fun z => by simp only at z; omega⟩
  · rw [if_neg q]
    exact ⟨hi, by simp only; omega, Nat.le_refl _, fun z => by simp only at z; omega⟩
section QXS
variable {L : Nat} {xs : Nat → Int32} {ts : List (Nat × Nat)} {rd : Int32} {i d : Nat} {cs : List Nat} {h : AH}
/-- what a question leaves in the class's plan -/
def plA (h : AH) (n : Nat) (q : QR) : AH := sI (sI (sI (sI h 114 n (nI q.2.2.1)) 115 n q.2.2.2.1) 116 n (nI q.2.2.2.2)) 113 3 (nI (n + 1))
def XQ (L : Nat) (xs : Nat → Int32) (ts : List (Nat × Nat)) (rd : Int32) (cs : List Nat) (h : AH) (n : Nat) (q : QR) (h' : AH) : Prop := ∃ h1, PX L xs ts rd h q.1 q.2.1 cs h1 ∧ h' = if q.2.1 = 0 then plA h1 n q else h1
theorem XQ.pre {h0 h' : AH} {n : Nat} {q : QR} (k : KX h0 h) (x : XQ L xs ts rd cs h n q h') : XQ L xs ts rd cs h0 n q h' := by
  obtain ⟨h1, p, e⟩ := x
  exact ⟨h1, p.pre k, e⟩
theorem x_qFin (T : TOKS ts) (n k mn : Nat) (it : Int32) (hn : n < 12) (r : RX L xs ts rd i 0 cs h) (en : hI h 113 3 = nI n) (R : Option Value → AH → Prop) (fin : ∀ h', XQ L xs ts rd cs h n (qFin ts i k it mn) h' → R none h') : Wp (d + 2) P_Pa_takeQuestion 44 [.ref 108, .int (nI k), .int it, .int (nI mn)] [] h R := by
  have hp := (T.2.2 i r.lt).2.2
  rw [b_Pa_takeQuestion_44]
  refine (x_takeSign (d := d) T 59 (by decide) r).mono ?_
  rintro r' h' ⟨rfl, p⟩
  simp only [Option.toList, List.cons_append, List.nil_append]
  unfold qFin at fin
  by_cases q : tc ts i = 11059
  · rw [if_pos q] at p fin
    have f0 : hI h' 108 4 = 0 := p.2.f
    have e1 : hI h' 113 3 = nI n := by rw [p.1.1.I (by unfold xps; decide)]; exact en
    simp only [b_Pa_takeQuestion_47, xk_108 p.2.x, f0, b_Pa_takeQuestion_50, xr_108_1 p.2.x, c_Pl_add 113 n _ _ _ h' (pln_113 p.2.x) e1 hn, Option.toList, List.cons_append, List.nil_append, b_Pa_takeQuestion_56, mem20, mem21, mem22, al20, al21, al33, al34, al36, al37, al38, aa33, aa34, aa36, aa37, aa38, true_and, and_true, Int32.reduceOfNat, forall_const, true_implies, implies_true, false_implies, not_true_eq_false, not_false_eq_true]
    exact fin _ ⟨h', p, rfl⟩
  · rw [if_neg q] at p fin
    have z : ¬ nI (1 + 16 * tp ts i) = 0 := mt (nI0 (by omega)).mp (by omega)
    simp only [b_Pa_takeQuestion_47, xk_108 p.2.x, p.2.f, z, b_Pa_takeQuestion_56, mem20, mem21, mem22, al20, al21, al33, al34, al36, al37, al38, aa33, aa34, aa36, aa37, aa38, true_and, and_true, Int32.reduceOfNat, forall_const, true_implies, implies_true, false_implies, not_true_eq_false, not_false_eq_true]
    exact fin _ ⟨h', p, by simp only; rw [if_neg (by omega)]⟩
/-- behind a fault nothing is taken -/
theorem x_qEnd {F : Nat} {x1 x2 x3 : Int32} (T : TOKS ts) (hF : F ≠ 0) (r : RX L xs ts rd i F cs h) (R : Option Value → AH → Prop) (fin : R none h) : Wp (d + 2) P_Pa_takeQuestion 44 [.ref 108, .int x1, .int x2, .int x3] [] h R := by
  have z : ¬ nI F = 0 := mt (nI0 (by have := r.Fl; omega)).mp hF
  rw [b_Pa_takeQuestion_44]
  refine (x_takeSign0 (d := d) (k := 0) T 59 (by decide) hF r _).mpr ?_
  simp only [Option.toList, List.cons_append, List.nil_append, b_Pa_takeQuestion_47, xk_108 r.x, r.f, z, b_Pa_takeQuestion_56, mem20, mem21, mem22, al20, al21, al33, al34, al36, al37, al38, aa33, aa34, aa36, aa37, aa38, true_and, and_true, Int32.reduceOfNat, forall_const, true_implies, implies_true, false_implies, not_true_eq_false, not_false_eq_true]
  exact fin
theorem x_qEnd27 {F : Nat} {x1 s0 : Int32} (T : TOKS ts) (hF : F ≠ 0) (r : RX L xs ts rd i F cs h) (R : Option Value → AH → Prop) (fin : R none h) : Wp (d + 2) P_Pa_takeQuestion 27 [.ref 108, .int x1, .null, .null] [.int s0] h R := by
  have z : ¬ nI F = 0 := mt (nI0 (by have := r.Fl; omega)).mp hF
  rw [b_Pa_takeQuestion_27]
  simp only [xk_108 r.x, r.f, z, mem20, mem21, mem22, al20, al21, al33, al34, al36, al37, al38, aa33, aa34, aa36, aa37, aa38, true_and, and_true, Int32.reduceOfNat, forall_const, true_implies, implies_true, false_implies, not_true_eq_false, not_false_eq_true]
  exact x_qEnd T hF r R fin
theorem x_qMin (T : TOKS ts) (n k : Nat) (it : Int32) (hn : n < 12) (r : RX L xs ts rd i 0 cs h) (en : hI h 113 3 = nI n) (R : Option Value → AH → Prop) (fin : ∀ h', XQ L xs ts rd cs h n (qMin ts i k it) h' → R none h') : Wp (d + 2) P_Pa_takeQuestion 27 [.ref 108, .int (nI k), .null, .null] [.int it] h R := by
  have f0 : hI h 108 4 = 0 := r.f
  have w19 : wref (tc ts i) = 21 ↔ tc ts i = 10019 := wref_eq (r := 19) (by decide)
  have wr := wref_r (tc ts i)
  rw [b_Pa_takeQuestion_27]
  simp only [xk_108 r.x, f0, b_Pa_takeQuestion_33, r.w, w19, wr.1, wr.2, show (2 : Nat) ≤ 21 by decide, show (21 : Nat) ≤ 25 by decide, mem20, mem21, mem22, al20, al21, al33, al34, al36, al37, al38, aa33, aa34, aa36, aa37, aa38, true_and, and_true, Int32.reduceOfNat, forall_const, true_implies, implies_true, false_implies, not_true_eq_false, not_false_eq_true]
  unfold qMin at fin
  by_cases q : tc ts i = 10019
  · rw [if_pos q] at fin
    have h1l := sgn_lt T r.lt (show tc ts i ≠ 12000 by omega)
    simp only [q, b_Pa_takeQuestion_37, mem20, mem21, mem22, al20, al21, al33, al34, al36, al37, al38, aa33, aa34, aa36, aa37, aa38, true_and, and_true, Int32.reduceOfNat, forall_const, true_implies, implies_true, false_implies, not_true_eq_false, not_false_eq_true]
    refine (x_next T r h1l).mono ?_
    rintro r' h1 ⟨rfl, p1⟩
    simp only [Option.toList, List.cons_append, List.nil_append, b_Pa_takeQuestion_39]
    refine (x_takeNumber (d := d) T 1 9 (by decide) (by decide) p1.2).mono ?_
    intro r' h2 p2
    by_cases q2 : numF ts (i + 1) 1 9 = 0
    · rw [if_pos q2] at p2 fin
      obtain ⟨rfl, p2⟩ := p2
      simp only [Option.toList, List.cons_append, List.nil_append, b_Pa_takeQuestion_43]
      have k2 := p1.1.tr p2.1
      refine x_qFin T n k (tc ts (i + 1)) it hn p2.2 (by rw [k2.1.I (by unfold xps; decide)]; exact en) R ?_
      intro h' xq
      exact fin h' (xq.pre k2)
    · rw [if_neg q2] at p2 fin
      obtain ⟨rfl, p2⟩ := p2
      simp only [Option.toList, List.cons_append, List.nil_append, b_Pa_takeQuestion_43]
      refine x_qEnd T q2 p2.2 R (fin _ ⟨h2, p2.pre p1.1, by simp only; rw [if_neg q2]⟩)
  · rw [if_neg q] at fin
    simp only [q, mem20, mem21, mem22, al20, al21, al33, al34, al36, al37, al38, aa33, aa34, aa36, aa37, aa38, true_and, and_true, Int32.reduceOfNat, forall_const, true_implies, implies_true, false_implies, not_true_eq_false, not_false_eq_true]
    exact x_qFin T n k 1 it hn r en R fin
theorem x_question (T : TOKS ts) (n : Nat) (hn : n ≤ 12) (r : RX L xs ts rd i 0 cs h) (en : hI h 113 3 = nI n) : Cl (d + 3) q_Pa_takeQuestion [.ref 108] h (fun r' h' => r' = none ∧ XQ L xs ts rd cs h n (qst ts i n) h') := by
  have hp := (T.2.2 i r.lt).2.2
  have x := r.x
  have w18 : wref (tc ts i) = 20 ↔ tc ts i = 10018 := wref_eq (r := 18) (by decide)
  have wr := wref_r (tc ts i)
  have n12 : nI n < 12 ↔ n < 12 := nlt (b := 12) (by omega) (by decide)
  -- a fault at the word
  have dead : ∀ {j F : Nat} {h1 : AH} {s0 : Int32}, F ≠ 0 → PX L xs ts rd h j F cs h1 → (qst ts i n) = (j, F, 0, 0, 0) → Wp (d + 2) P_Pa_takeQuestion 15 [.ref 108, .null, .null, .null] [] h1 (fun r' h' => rtk none r' = true ∧ r' = none ∧ XQ L xs ts rd cs h n (qst ts i n) h') := by
    intro j F h1 s0 hF p e
    rw [b_Pa_takeQuestion_15]
    refine (x_takeKind0 (d := d) hF p.2 _).mpr ?_
    simp only [Option.toList, List.cons_append, List.nil_append, b_Pa_takeQuestion_17, b_Pa_takeQuestion_26, show ¬ (-1 : Int32) = 3 by decide, mem20, mem21, mem22, al20, al21, al33, al34, al36, al37, al38, aa33, aa34, aa36, aa37, aa38, true_and, and_true, Int32.reduceOfNat, forall_const, true_implies, implies_true, false_implies, not_true_eq_false, not_false_eq_true]
    refine x_qEnd27 T hF p.2 _ ⟨rtV, rfl, h1, by rw [e]; exact p, by rw [e]; simp only; rw [if_neg hF]⟩
  have from12 : ¬ (tc ts i = 10018 ∧ n = 12) → Wp (d + 2) P_Pa_takeQuestion 12 [.ref 108, .null, .null, .null] [] h (fun r' h' => rtk none r' = true ∧ r' = none ∧ XQ L xs ts rd cs h n (qst ts i n) h') := by
    intro nq
    rw [b_Pa_takeQuestion_12]
    refine (x_takeWord (d := d) T 18 (by decide) r).mono ?_
    rintro r' h1 ⟨rfl, p1⟩
    simp only [Option.toList, List.cons_append, List.nil_append]
    by_cases q : tc ts i = 10018
    · rw [if_pos q] at p1
      have nn : ¬ n = 12 := fun z => nq ⟨q, z⟩
      have e0 : qst ts i n = if 10000 ≤ tc ts (i + 1) ∧ tc ts (i + 1) < 10004 then qKnd ts (i + 2) (tc ts (i + 1) - 10000) else (i + 1, 1 + 16 * tp ts (i + 1), 0, 0, 0) := by
        unfold qst
        rw [if_pos q, if_neg nn]
      rw [b_Pa_takeQuestion_15]
      refine (x_takeKind (d := d) T p1.2).mono ?_
      intro r' h2 p2
      by_cases q2 : 10000 ≤ tc ts (i + 1) ∧ tc ts (i + 1) < 10004
      · rw [if_pos q2] at p2 e0
        obtain ⟨rfl, p2⟩ := p2
        have k2 := p1.1.tr p2.1
        have en2 : hI h2 113 3 = nI n := by rw [k2.1.I (by unfold xps; decide)]; exact en
        have c3 : nI (tc ts (i + 1) - 10000) = 3 ↔ tc ts (i + 1) - 10000 = 3 := neq (b := 3) (by omega) (by decide)
        rw [e0]
        unfold qKnd
        simp only [Option.toList, List.cons_append, List.nil_append, b_Pa_takeQuestion_17, c3]
        refine ⟨fun q3 => ?_, fun q3 => ?_⟩
        · rw [if_neg q3, b_Pa_takeQuestion_26]
          refine x_qMin T n _ _ (by omega) p2.2 en2 _ ?_
          intro h' xq
          exact ⟨rtV, rfl, xq.pre k2⟩
        · have q3 := Classical.not_not.mp q3
          rw [if_pos q3, b_Pa_takeQuestion_21]
          refine (x_takeNumber (d := d) T 0 8 (by decide) (by decide) p2.2).mono ?_
          intro r' h3 p3
          by_cases q4 : numF ts (i + 2) 0 8 = 0
          · rw [if_pos q4] at p3 ⊢
            obtain ⟨rfl, p3⟩ := p3
            have k3 := k2.tr p3.1
            simp only [Option.toList, List.cons_append, List.nil_append, b_Pa_takeQuestion_25]
            refine x_qMin T n _ _ (by omega) p3.2 (by rw [k3.1.I (by unfold xps; decide)]; exact en) _ ?_
            intro h' xq
            exact ⟨rtV, rfl, xq.pre k3⟩
          · rw [if_neg q4] at p3 ⊢
            obtain ⟨rfl, p3⟩ := p3
            simp only [Option.toList, List.cons_append, List.nil_append, b_Pa_takeQuestion_25]
            exact x_qEnd27 T q4 p3.2 _ ⟨rtV, rfl, h3, p3.pre k2, by simp only; rw [if_neg q4]⟩
      · rw [if_neg q2] at p2 e0
        obtain ⟨rfl, p2⟩ := p2
        simp only [Option.toList, List.cons_append, List.nil_append, b_Pa_takeQuestion_17, b_Pa_takeQuestion_26, show ¬ (-1 : Int32) = 3 by decide, mem20, mem21, mem22, al20, al21, al33, al34, al36, al37, al38, aa33, aa34, aa36, aa37, aa38, true_and, and_true, Int32.reduceOfNat, forall_const, true_implies, implies_true, false_implies, not_true_eq_false, not_false_eq_true]
        have hF : 1 + 16 * tp ts (i + 1) ≠ 0 := by omega
        exact x_qEnd27 T hF p2.2 _ ⟨rtV, rfl, h2, by rw [e0]; exact p2.pre p1.1, by rw [e0]; simp only; rw [if_neg hF]⟩
    · rw [if_neg q] at p1
      exact dead (s0 := 0) (by omega) p1 (by unfold qst; rw [if_neg q])
  rw [e_Pa_takeQuestion, b_Pa_takeQuestion_0]
  simp only [xk_108 x, xr_108_1 x, xk_113 x, en, n12, true_and]
  refine ⟨fun z => from12 (by omega), fun z => ?_⟩
  rw [b_Pa_takeQuestion_5]
  simp only [xk_108 x, r.w, w18, wr.1, wr.2, show (2 : Nat) ≤ 20 by decide, show (20 : Nat) ≤ 25 by decide, true_and]
  refine ⟨fun q => ?_, fun q => from12 (fun y => q y.1)⟩
  have nn : n = 12 := by omega
  rw [b_Pa_takeQuestion_9]
  refine (x_wrong T 5 (by decide) r).mono ?_
  rintro r' h1 ⟨rfl, p1⟩
  simp only [Option.toList, List.cons_append, List.nil_append, b_Pa_takeQuestion_12]
  have hF : 5 + 16 * tp ts i ≠ 0 := by omega
  refine (x_takeWord0 (d := d) 18 (by decide) hF p1.2 _).mpr ?_
  simp only [Option.toList, List.cons_append, List.nil_append]
  exact dead (s0 := 0) hF p1 (by unfold qst; rw [if_pos q, if_pos nn])
end QXS
