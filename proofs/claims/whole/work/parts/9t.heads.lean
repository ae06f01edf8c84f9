--deps: 9s.law
/-! LINES AND THEIR HEADS -/
/-- what is known of lines: where they begin in the steps of the class, in the codes of the reference; their steps -/
abbrev LD : Type := Nat → Option (Nat × Nat × List Nat)
def SEG (cs : List Nat) (s : Nat) (c : List Nat) : Prop := ∃ a b, cs = a ++ c ++ b ∧ a.length = s
theorem SEG.app {cs c x : List Nat} {s : Nat} (g : SEG cs s c) : SEG (cs ++ x) s c := by
  obtain ⟨a, b, e, l⟩ := g
  exact ⟨a, b ++ x, by rw [e]; simp, l⟩
theorem SEG.last {cs c : List Nat} : SEG (cs ++ c) cs.length c := ⟨cs, [], by simp, rfl⟩
def LOk (nf : Nat) (D : LD) (cx cm : List Nat) : Prop := ∀ l sx sm c, D l = some (sx, sm, c) → SEG cx sx c ∧ SEG cm sm (c ++ [30000]) ∧ oks nf c 0
theorem oks_len {nf : Nat} {c : List Nat} (o : oks nf c 0) : 0 < c.length := by
  cases c with
  | nil => exact absurd o.1 (by decide)
  | cons k t => simp
/-- the lines in the rows of the class -/
def BX (h : AH) (D : LD) (N : Nat) : Prop := hI h 117 2 = nI N ∧ ∀ l, l < 6 → match D l with
  | none => hI h 118 l = 0 ∧ hI h 119 l = 0
  | some (sx, _, c) => hI h 118 l = nI sx ∧ hI h 119 l = nI (sx + c.length)
def upD (D : LD) (l : Nat) (v : Nat × Nat × List Nat) : LD := fun k => if k = l then some v else D k
theorem LOk.up {nf : Nat} {D : LD} {cx cm c : List Nat} {l : Nat} (o : LOk nf D cx cm) (oc : oks nf c 0) : LOk nf (upD D l (cx.length, cm.length, c)) (cx ++ c) (cm ++ c ++ [30000]) := by
  intro k sx sm c' e
  unfold upD at e
  by_cases q : k = l
  · rw [if_pos q] at e
    cases e
    refine ⟨SEG.last, ?_, oc⟩
    rw [List.append_assoc]
    exact SEG.last
  · rw [if_neg q] at e
    obtain ⟨a, b, d⟩ := o k sx sm c' e
    refine ⟨a.app, ?_, d⟩
    rw [List.append_assoc]
    exact b.app
def xls : Nat → Prop := fun a => xps a ∨ a = 118 ∨ a = 119
section HD
variable {L : Nat} {xs : Nat → Int32} {ts : List (Nat × Nat)} {rd : Int32} {π : Nat → Nat} {i d : Nat} {cs : List Nat} {h : AH}
theorem RX.ln {F : Nat} {h' : AH} (r : RX L xs ts rd i F cs h) (p : Fr (fun a => a = 117 ∨ a = 118 ∨ a = 119) nov h h') (e8 : hR h' 108 8 = hR h 108 8) (e1 : hI h' 117 1 = hI h 117 1) : RX L xs ts rd i F cs h' := by
  obtain ⟨s, x, t, a3, a4, a5, a6, a7, a8, a9, a10, a11, a12, a13⟩ := r
  have e : ∀ a, ¬ (a = 117 ∨ a = 118 ∨ a = 119) → hI h' a = hI h a := fun a z => p.I z
  refine ⟨s.fr p (fun a z => by omega), x.fr p, ⟨?_, ?_⟩, ?_, ?_, ?_, ?_, ?_, e8.trans a8, ?_, ?_, a11, a12, a13⟩
  · rw [e 109 (by omega)]; exact t.1
  · intro j hj; rw [e 111 (by omega), e 112 (by omega)]; exact t.2 j hj
  · rw [e 108 (by omega)]; exact a3
  · rw [e 108 (by omega)]; exact a4
  · rw [e 108 (by omega)]; exact a5
  · rw [e 108 (by omega)]; exact a6
  · rw [e 108 (by omega)]; exact a7
  · rw [e1]; exact a9
  · rw [e 121 (by omega)]; exact a10
theorem x_law (T : TOKS ts) (l k : Nat) (hl : l < 10000) {F i1 F1 : Nat} {c1 : List Nat} (ch : ∀ h, RX L xs ts rd i F cs h → Cl 41 q_Pa_chain [.ref 108, .int 0, .int 0] h (fun r' h' => r' = none ∧ PX L xs ts rd h i1 F1 (cs ++ c1) h')) (r : RX L xs ts rd i F cs h) (ek : hI h 117 2 = nI k) : Cl 42 q_Pa_takeLaw [.ref 108, .int (nI l)] h (fun r' h' => r' = none ∧ Fr xls nov h h' ∧ RX L xs ts rd (lwE ts i1 F1).1 (lwE ts i1 F1).2 (cs ++ c1) h' ∧ (l < 6 → hI h' 118 l = nI cs.length ∧ hI h' 119 l = nI (cs ++ c1).length ∧ hI h' 117 2 = nI (k + 1)) ∧ (∀ j, j ≠ l → hI h' 118 j = hI h 118 j ∧ hI h' 119 j = hI h 119 j)) := by
  have x := r.x
  have e9 : hI h 117 1 = nI cs.length := r.2.2.2.2.2.2.2.2.2.1
  rw [e_Pa_takeLaw, b_Pa_takeLaw_0]
  simp only [xk_108 x, xr_108_2 x, c_Pg_opens l cs.length x hl e9, Option.toList, List.cons_append, List.nil_append, b_Pa_takeLaw_4, true_and]
  generalize hh1 : (if l < 6 then sI h 118 l (nI cs.length) else h) = h1
  have fr1 : Fr (fun a => a = 117 ∨ a = 118 ∨ a = 119) nov h h1 := by
    rw [← hh1]
    by_cases q : l < 6
    · rw [if_pos q]; exact Fr.rfl'.sI (Or.inr (Or.inl rfl))
    · rw [if_neg q]; exact Fr.rfl'
  have e17 : hI h1 117 = hI h 117 := by
    rw [← hh1]
    by_cases q : l < 6
    · rw [if_pos q, rI_sI (by decide)]
    · rw [if_neg q]
  have e19 : hI h1 119 = hI h 119 := by
    rw [← hh1]
    by_cases q : l < 6
    · rw [if_pos q, rI_sI (by decide)]
    · rw [if_neg q]
  have e18 : ∀ j, hI h1 118 j = if j = l ∧ l < 6 then nI cs.length else hI h 118 j := by
    intro j
    rw [← hh1]
    by_cases q : l < 6
    · rw [if_pos q, hI_same]
      by_cases q2 : j = l
      · rw [if_pos q2, if_pos ⟨q2, q⟩]
      · rw [if_neg q2, if_neg (fun z => q2 z.1)]
    · rw [if_neg q, if_neg (fun z => q z.2)]
  have r1 : RX L xs ts rd i F cs h1 := r.ln fr1 (by rw [← hh1]; split <;> rfl) (by rw [e17])
  refine (ch h1 r1).mono ?_
  rintro r' h2 ⟨rfl, p2⟩
  have x2 := p2.2.x
  have e92 : hI h2 117 1 = nI (cs ++ c1).length := p2.2.2.2.2.2.2.2.2.2.2.1
  have ek2 : hI h2 117 2 = nI k := by rw [p2.1.2, e17]; exact ek
  have f18 : hI h2 118 = hI h1 118 := p2.1.1.I (by unfold xps; decide)
  have f19 : hI h2 119 = hI h1 119 := p2.1.1.I (by unfold xps; decide)
  simp only [Option.toList, List.cons_append, List.nil_append, b_Pa_takeLaw_8, xk_108 x2, xr_108_2 x2, c_Pg_close l (cs ++ c1).length k x2 hl e92 ek2, b_Pa_takeLaw_12, true_and]
  generalize hh3 : (if l < 6 then sI (sI h2 119 l (nI (cs ++ c1).length)) 117 2 (nI (k + 1)) else h2) = h3
  have fr3 : Fr (fun a => a = 117 ∨ a = 118 ∨ a = 119) nov h2 h3 := by
    rw [← hh3]
    by_cases q : l < 6
    · rw [if_pos q]; exact (Fr.rfl'.sI (Or.inr (Or.inr rfl))).sI (Or.inl rfl)
    · rw [if_neg q]; exact Fr.rfl'
  have g17 : hI h3 117 1 = hI h2 117 1 ∧ (l < 6 → hI h3 117 2 = nI (k + 1)) := by
    rw [← hh3]
    by_cases q : l < 6
    · rw [if_pos q, hI_same, if_neg (by decide), rI_sI (by decide)]
      exact ⟨rfl, fun _ => by rw [hI_same, if_pos rfl]⟩
    · rw [if_neg q]; exact ⟨rfl, fun z => absurd z q⟩
  have g18 : hI h3 118 = hI h2 118 := by
    rw [← hh3]
    by_cases q : l < 6
    · rw [if_pos q, rI_sI (by decide), rI_sI (by decide)]
    · rw [if_neg q]
  have g19 : ∀ j, hI h3 119 j = if j = l ∧ l < 6 then nI (cs ++ c1).length else hI h2 119 j := by
    intro j
    rw [← hh3]
    by_cases q : l < 6
    · rw [if_pos q, rI_sI (by decide), hI_same]
      by_cases q2 : j = l
      · rw [if_pos q2, if_pos ⟨q2, q⟩]
      · rw [if_neg q2, if_neg (fun z => q2 z.1)]
    · rw [if_neg q, if_neg (fun z => q z.2)]
  have r3 : RX L xs ts rd i1 F1 (cs ++ c1) h3 := p2.2.ln fr3 (by rw [← hh3]; split <;> rfl) g17.1
  refine (x_lw (d := 39) T r3).mono ?_
  rintro r' h4 ⟨rfl, p4⟩
  simp only [Option.toList, List.cons_append, List.nil_append, b_Pa_takeLaw_15]
  have k18 : hI h4 118 = hI h3 118 := p4.1.1.I (by unfold xps; decide)
  have k19 : hI h4 119 = hI h3 119 := p4.1.1.I (by unfold xps; decide)
  refine ⟨rtV, True.intro, ?_, p4.2, fun q => ⟨?_, ?_, ?_⟩, fun j hj => ⟨?_, ?_⟩⟩
  · exact (((fr1.mo (S' := xls) (fun a z => by show xps a ∨ a = 118 ∨ a = 119; unfold xps; omega) (fun a z => z)).tr (p2.1.1.mo (fun a z => Or.inl z) (fun a z => z))).tr (fr3.mo (S' := xls) (fun a z => by show xps a ∨ a = 118 ∨ a = 119; unfold xps; omega) (fun a z => z))).tr (p4.1.1.mo (fun a z => Or.inl z) (fun a z => z))
  · rw [k18, g18, f18, e18, if_pos ⟨rfl, q⟩]
  · rw [k19, g19, if_pos ⟨rfl, q⟩]
  · rw [p4.1.2, g17.2 q]
  · rw [k18, g18, f18, e18, if_neg (fun z => hj z.1)]
  · rw [k19, g19, if_neg (fun z => hj z.1), f19, e19]
theorem x_law0 (T : TOKS ts) (hrd : rd = 0 ∨ rd = 1) {F : Nat} (hF : F ≠ 0) (l k : Nat) (hl : l < 10000) (r : RX L xs ts rd i F cs h) (ek : hI h 117 2 = nI k) : Cl 42 q_Pa_takeLaw [.ref 108, .int (nI l)] h (fun r' h' => r' = none ∧ Fr xls nov h h' ∧ RX L xs ts rd i F cs h') := by
  refine (x_law T l k hl (i1 := i) (F1 := F) (c1 := []) (fun h r => ?_) r ek).mono ?_
  · rw [List.append_nil]
    refine x_chain0 (d := 34) T hrd hF r 4 0 rfl _ ⟨rfl, KX.rf, r⟩
  · rintro r' h' ⟨e1, e2, e3, e4⟩
    unfold lwE at e3
    rw [if_neg hF, List.append_nil] at e3
    exact ⟨e1, e2, e3⟩
/-- the head of a line of a body: the place, the fault, the line -/
def bHd (ts : List (Nat × Nat)) (i : Nat) (D : LD) : Nat × Nat × Nat := if tc ts i = 10020 then (if tc ts (i + 1) < 6 ∧ (D (tc ts (i + 1))).isSome = true then (i + 1, 3 + 16 * tp ts (i + 1), 0) else if numF ts (i + 1) 0 2 = 0 then (if tc ts (i + 2) = 11061 then (i + 3, 0, tc ts (i + 1)) else (i + 2, 1 + 16 * tp ts (i + 2), tc ts (i + 1))) else (i + 1, numF ts (i + 1) 0 2, 0)) else (i, 1 + 16 * tp ts i, 0)
theorem bHd_o (T : TOKS ts) (hi : i < ts.length) (D : LD) : (bHd ts i D).1 < ts.length ∧ (bHd ts i D).2.1 < 20000 ∧ i ≤ (bHd ts i D).1 ∧ (bHd ts i D).2.2 < 10000 ∧ ((bHd ts i D).2.1 = 0 → (bHd ts i D).1 = i + 3 ∧ (bHd ts i D).2.2 < 3 ∧ D (bHd ts i D).2.2 = none) := by
  have hp := (T.2.2 i hi).2.2
  unfold bHd
  by_cases q : tc ts i = 10020
  · rw [if_pos q]
    have h1 := sgn_lt T hi (show tc ts i ≠ 12000 by omega)
    have hp1 := (T.2.2 _ h1).2.2
    by_cases q2 : tc ts (i + 1) < 6 ∧ (D (tc ts (i + 1))).isSome = true
    · rw [if_pos q2]
      exact ⟨h1, by simp only; omega, by simp only; omega, by simp only; omega, fun z => by simp only at z; omega⟩
    · rw [if_neg q2]
      by_cases q3 : numF ts (i + 1) 0 2 = 0
      · rw [if_pos q3]
        have n3 := numF_0 q3
        have h2 := sgn_lt T h1 (show tc ts (i + 1) ≠ 12000 by omega)
        have hp2 : tp ts (i + 2) ≤ 1000 := (T.2.2 _ h2).2.2
        by_cases q4 : tc ts (i + 2) = 11061
        · rw [if_pos q4]
          refine ⟨sgn_lt T h2 (show tc ts (i + 2) ≠ 12000 by omega), by simp only; omega, by simp only; omega, by simp only; omega, fun _ => ⟨rfl, by simp only; omega, ?_⟩⟩
          show D (tc ts (i + 1)) = none
          cases e : D (tc ts (i + 1)) with
          | none => rfl
          | some v => exact absurd ⟨by omega, by rw [e]; rfl⟩ q2
        · rw [if_neg q4]
          exact ⟨h2, by simp only; omega, by simp only; omega, by simp only; omega, fun z => by simp only at z; omega⟩
      · rw [if_neg q3]
        exact ⟨h1, numF_lt T h1, by simp only; omega, by simp only; omega, fun z => absurd z q3⟩
  · rw [if_neg q]
    exact ⟨hi, by simp only; omega, Nat.le_refl _, by simp only; omega, fun z => by simp only at z; omega⟩
theorem c_hasLine {N : Nat} {D : LD} {nf : Nat} {cx cm : List Nat} (b : BX h D N) (o : LOk nf D cx cm) (x : XLY h) (hcx : cx.length < 2147483648) (l : Nat) (hl : l < 10000) (Q : Option Value → AH → Prop) : Cl (d + 1) q_Pg_hasLine [.ref 117, .int (nI l)] h Q ↔ Q (some (.int (if l < 6 ∧ (D l).isSome = true then 1 else 0))) h := by
  by_cases q : l < 6
  · rw [c_Pg_hasLine 117 l h (prg_117 x) q]
    have bl := b.2 l q
    show Q (some (.int (if hI h 119 l ≤ hI h 118 l then 0 else 1))) h ↔ _
    cases e : D l with
    | none =>
      rw [e] at bl
      rw [bl.1, bl.2]
      simp
    | some v =>
      obtain ⟨sx, sm, c⟩ := v
      rw [e] at bl
      obtain ⟨o1, o2, o3⟩ := o l sx sm c e
      have ol := oks_len o3
      obtain ⟨a, b', ea, la⟩ := o1
      have lc : cx.length = a.length + c.length + b'.length := by rw [ea]; simp; omega
      rw [bl.1, bl.2]
      have z : ¬ nI (sx + c.length) ≤ nI sx := mt (nle (by omega) (by omega)).mp (by omega)
      simp [q, z]
  · have z1 := n_nn (n := l) (by omega)
    have z2 : 6 ≤ nI l := (nle (a := 6) (by decide) (by omega)).mpr (by omega)
    simp only [e_Pg_hasLine, b_Pg_hasLine_0, b_Pg_hasLine_2, b_Pg_hasLine_7, b_Pg_hasLine_12, b_Pg_hasLine_21, b_Pg_hasLine_23, b_Pg_hasLine_24, xk_117 x, xr_117_4 x, xk_119 x, xn_119 x, z1, z2, rtZ0, mem20, mem21, mem22, al20, al21, al33, al34, al36, al37, al38, aa33, aa34, aa36, aa37, aa38, true_and, and_true, Int32.reduceOfNat, forall_const, true_implies, implies_true, false_implies, not_true_eq_false, not_false_eq_true]
    simp [q]
theorem x_bhead (T : TOKS ts) {N : Nat} {D : LD} {nf : Nat} {cm : List Nat} (o : LOk nf D cs cm) (r : RX L xs ts rd i 0 cs h) (b : BX h D N) : Cl (d + 3) q_Pa_takeBodyHead [.ref 108] h (fun r' h' => r' = some (.int (nI (bHd ts i D).2.2)) ∧ PX L xs ts rd h (bHd ts i D).1 (bHd ts i D).2.1 cs h') := by
  have cl := r.cl
  have lt := r.lt
  have T1 := T.2.1
  -- behind a fault
  have dead : ∀ {j F : Nat} {h1 : AH}, F ≠ 0 → PX L xs ts rd h j F cs h1 → bHd ts i D = (j, F, 0) → Wp (d + 2) P_Pa_takeBodyHead 15 [.ref 108, .null] [] h1 (fun r' h' => rtk (some .int) r' = true ∧ r' = some (.int (nI (bHd ts i D).2.2)) ∧ PX L xs ts rd h (bHd ts i D).1 (bHd ts i D).2.1 cs h') := by
    intro j F h1 hF p e
    rw [b_Pa_takeBodyHead_15]
    refine (x_takeNumber0 (d := d) T 0 2 hF p.2 _).mpr ?_
    simp only [Option.toList, List.cons_append, List.nil_append, b_Pa_takeBodyHead_19]
    refine (x_takeSign0 (d := d) (k := 0) T 61 (by decide) hF p.2 _).mpr ?_
    simp only [Option.toList, List.cons_append, List.nil_append, b_Pa_takeBodyHead_23]
    rw [e]
    exact ⟨rtI _, rfl, p⟩
  rw [e_Pa_takeBodyHead, b_Pa_takeBodyHead_0]
  refine ⟨xk_108 r.x, ?_⟩
  refine (x_takeWord (d := d) T 20 (by decide) r).mono ?_
  rintro r' h1 ⟨rfl, p1⟩
  simp only [Option.toList, List.cons_append, List.nil_append, b_Pa_takeBodyHead_3]
  by_cases q : tc ts i = 10020
  · rw [if_pos q] at p1
    have h1l := p1.2.lt
    have hp1 := (T.2.2 _ h1l).2.2
    have ct := cdOk_lt (T.2.2 _ h1l).1
    have b1 : BX h1 D N := by
      refine ⟨p1.1.2.trans b.1, fun l hl => ?_⟩
      have e18 : hI h1 118 = hI h 118 := p1.1.1.I (by unfold xps; decide)
      have e19 : hI h1 119 = hI h 119 := p1.1.1.I (by unfold xps; decide)
      rw [e18, e19]
      exact b.2 l hl
    have eB : bHd ts i D = if tc ts (i + 1) < 6 ∧ (D (tc ts (i + 1))).isSome = true then (i + 1, 3 + 16 * tp ts (i + 1), 0) else if numF ts (i + 1) 0 2 = 0 then (if tc ts (i + 2) = 11061 then (i + 3, 0, tc ts (i + 1)) else (i + 2, 1 + 16 * tp ts (i + 2), tc ts (i + 1))) else (i + 1, numF ts (i + 1) 0 2, 0) := by
      unfold bHd
      rw [if_pos q]
    have from15 : ¬ (tc ts (i + 1) < 6 ∧ (D (tc ts (i + 1))).isSome = true) → Wp (d + 2) P_Pa_takeBodyHead 15 [.ref 108, .null] [] h1 (fun r' h' => rtk (some .int) r' = true ∧ r' = some (.int (nI (bHd ts i D).2.2)) ∧ PX L xs ts rd h (bHd ts i D).1 (bHd ts i D).2.1 cs h') := by
      intro nq
      rw [if_neg nq] at eB
      rw [b_Pa_takeBodyHead_15]
      refine (x_takeNumber (d := d) T 0 2 (by decide) (by decide) p1.2).mono ?_
      intro r' h2 p2
      by_cases q3 : numF ts (i + 1) 0 2 = 0
      · rw [if_pos q3] at p2 eB
        obtain ⟨rfl, p2⟩ := p2
        simp only [Option.toList, List.cons_append, List.nil_append, b_Pa_takeBodyHead_19]
        refine (x_takeSign (d := d) T 61 (by decide) p2.2).mono ?_
        rintro r' h3 ⟨rfl, p3⟩
        simp only [Option.toList, List.cons_append, List.nil_append, b_Pa_takeBodyHead_23]
        by_cases q4 : tc ts (i + 2) = 11061
        · have q4' : tc ts (i + 1 + 1) = 11061 := q4
          rw [if_pos q4'] at p3
          rw [if_pos q4] at eB
          rw [eB]
          exact ⟨rtI _, rfl, (p3.pre p2.1).pre p1.1⟩
        · have q4' : ¬ tc ts (i + 1 + 1) = 11061 := q4
          rw [if_neg q4'] at p3
          rw [if_neg q4] at eB
          rw [eB]
          exact ⟨rtI _, rfl, (p3.pre p2.1).pre p1.1⟩
      · rw [if_neg q3] at p2 eB
        obtain ⟨rfl, p2⟩ := p2
        simp only [Option.toList, List.cons_append, List.nil_append, b_Pa_takeBodyHead_19]
        refine (x_takeSign0 (d := d) (k := 0) T 61 (by decide) q3 p2.2 _).mpr ?_
        simp only [Option.toList, List.cons_append, List.nil_append, b_Pa_takeBodyHead_23]
        rw [eB]
        exact ⟨rtI _, rfl, p2.pre p1.1⟩
    rw [x_isNumber T p1.2]
    simp only [Option.toList, List.cons_append, List.nil_append, b_Pa_takeBodyHead_5]
    by_cases qn : tc ts (i + 1) < 10000
    · simp only [qn, if_true, show ¬ (1 : Int32) = 0 by decide, b_Pa_takeBodyHead_6, xk_108 p1.2.x, xr_108_2 p1.2.x, p1.2.cd, c_hasLine b1 o p1.2.x (by omega) (tc ts (i + 1)) qn, Option.toList, List.cons_append, List.nil_append, b_Pa_takeBodyHead_11, mem20, mem21, mem22, al20, al21, al33, al34, al36, al37, al38, aa33, aa34, aa36, aa37, aa38, true_and, and_true, Int32.reduceOfNat, forall_const, true_implies, implies_true, false_implies, not_true_eq_false, not_false_eq_true]
      by_cases q2 : tc ts (i + 1) < 6 ∧ (D (tc ts (i + 1))).isSome = true
      · rw [if_pos q2]
        rw [if_pos q2] at eB
        simp only [show ¬ (1 : Int32) = 0 by decide, b_Pa_takeBodyHead_12, mem20, mem21, mem22, al20, al21, al33, al34, al36, al37, al38, aa33, aa34, aa36, aa37, aa38, true_and, and_true, Int32.reduceOfNat, forall_const, true_implies, implies_true, false_implies, not_true_eq_false, not_false_eq_true]
        refine (x_wrong T 3 (by decide) p1.2).mono ?_
        rintro r' h2 ⟨rfl, p2⟩
        simp only [Option.toList, List.cons_append, List.nil_append]
        exact dead (by omega) (p2.pre p1.1) eB
      · rw [if_neg q2]
        simp only [mem20, mem21, mem22, al20, al21, al33, al34, al36, al37, al38, aa33, aa34, aa36, aa37, aa38, true_and, and_true, Int32.reduceOfNat, forall_const, true_implies, implies_true, false_implies, not_true_eq_false, not_false_eq_true]
        exact from15 q2
    · simp only [qn, if_false, mem20, mem21, mem22, al20, al21, al33, al34, al36, al37, al38, aa33, aa34, aa36, aa37, aa38, true_and, and_true, Int32.reduceOfNat, forall_const, true_implies, implies_true, false_implies, not_true_eq_false, not_false_eq_true]
      exact from15 (fun z => by omega)
  · rw [if_neg q] at p1
    have eB : bHd ts i D = (i, 1 + 16 * tp ts i, 0) := by unfold bHd; rw [if_neg q]
    have hF : 1 + 16 * tp ts i ≠ 0 := by omega
    have x1 := p1.2.x
    have T2 := T.2.1
    have ct := cdOk_lt (T.2.2 _ lt).1
    have b1 : BX h1 D N := by
      refine ⟨p1.1.2.trans b.1, fun l hl => ?_⟩
      have e18 : hI h1 118 = hI h 118 := p1.1.1.I (by unfold xps; decide)
      have e19 : hI h1 119 = hI h 119 := p1.1.1.I (by unfold xps; decide)
      rw [e18, e19]
      exact b.2 l hl
    have dd := dead hF p1 eB
    rw [x_isNumber T p1.2]
    simp only [Option.toList, List.cons_append, List.nil_append, b_Pa_takeBodyHead_5]
    by_cases qn : tc ts i < 10000
    · simp only [qn, if_true, show ¬ (1 : Int32) = 0 by decide, b_Pa_takeBodyHead_6, xk_108 x1, xr_108_2 x1, p1.2.cd, c_hasLine b1 o x1 (by omega) (tc ts i) qn, Option.toList, List.cons_append, List.nil_append, b_Pa_takeBodyHead_11, b_Pa_takeBodyHead_12, x_wrong0 hF p1.2, mem20, mem21, mem22, al20, al21, al33, al34, al36, al37, al38, aa33, aa34, aa36, aa37, aa38, true_and, and_true, Int32.reduceOfNat, forall_const, true_implies, implies_true, false_implies, not_true_eq_false, not_false_eq_true]
      by_cases q2 : tc ts i < 6 ∧ (D (tc ts i)).isSome = true
      · rw [if_pos q2]
        simp only [show ¬ (1 : Int32) = 0 by decide, mem20, mem21, mem22, al20, al21, al33, al34, al36, al37, al38, aa33, aa34, aa36, aa37, aa38, true_and, and_true, Int32.reduceOfNat, forall_const, true_implies, implies_true, false_implies, not_true_eq_false, not_false_eq_true]
        exact dd
      · rw [if_neg q2]
        simp only [mem20, mem21, mem22, al20, al21, al33, al34, al36, al37, al38, aa33, aa34, aa36, aa37, aa38, true_and, and_true, Int32.reduceOfNat, forall_const, true_implies, implies_true, false_implies, not_true_eq_false, not_false_eq_true]
        exact dd
    · simp only [qn, if_false, mem20, mem21, mem22, al20, al21, al33, al34, al36, al37, al38, aa33, aa34, aa36, aa37, aa38, true_and, and_true, Int32.reduceOfNat, forall_const, true_implies, implies_true, false_implies, not_true_eq_false, not_false_eq_true]
      exact dd
end HD
