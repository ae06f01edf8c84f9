--deps: 9t.heads
/-! A BODY -/
theorem Wp.up {d d' : Nat} {P : List IR} {i : Nat} {L S : List Value} {h : AH} {Q : Option Value → AH → Prop} (hd : d ≤ d') (q : Wp d P i L S h Q) : Wp d' P i L S h Q := by
  obtain ⟨n, z, e, w⟩ := q
  exact ⟨n, z, run_mono (fun y a h z => callD_mono prX_mono d d' n n y a h z hd (Nat.le_refl _)) n n _ _ _ _ _ (Nat.le_refl _) e, w⟩
def mbs : Nat → Prop := fun a => mps a ∨ (360 ≤ a ∧ a ≤ 362)
def KB (h h' : AH) : Prop := Fr mbs nov h h' ∧ (∀ j, j ≠ 7 → j ≠ 8 → j ≠ 20 → hI h' 342 j = hI h 342 j) ∧ (∀ j, j < 5500 → hI h' 357 j = hI h 357 j ∧ hI h' 358 j = hI h 358 j) ∧ (∀ j, j < 4 → hI h' 361 j = hI h 361 j) ∧ (∀ j, j < 24 → hI h' 362 j = hI h 362 j)
theorem KB.rf {h : AH} : KB h h := ⟨Fr.rfl', fun _ _ _ _ => rfl, fun _ _ => ⟨rfl, rfl⟩, fun _ _ => rfl, fun _ _ => rfl⟩
theorem KB.tr {h h1 h2 : AH} (a : KB h h1) (b : KB h1 h2) : KB h h2 := ⟨a.1.tr b.1, fun j p q r => (b.2.1 j p q r).trans (a.2.1 j p q r), fun j hj => ⟨(b.2.2.1 j hj).1.trans (a.2.2.1 j hj).1, (b.2.2.1 j hj).2.trans (a.2.2.1 j hj).2⟩, fun j hj => (b.2.2.2.1 j hj).trans (a.2.2.2.1 j hj), fun j hj => (b.2.2.2.2 j hj).trans (a.2.2.2.2 j hj)⟩
theorem KB.km {h h' : AH} (a : KM h h') : KB h h' := ⟨a.1.mo (fun x z => Or.inl z) (fun x z => z), a.2.1, a.2.2, fun j _ => by rw [a.1.I (by unfold mps; decide)], fun j _ => by rw [a.1.I (by unfold mps; decide)]⟩
theorem RM.fr {S : Nat → Prop} {ts : List (Nat × Nat)} {rd : Int32} {π : Nat → Nat} {i F : Nat} {cs : List Nat} {h h' : AH} (r : RM ts rd π i F cs h) (p : Fr S nov h h') (q : ∀ a, S a → a ≠ 342 ∧ a ≠ 344 ∧ a ≠ 345 ∧ a ≠ 357 ∧ a ≠ 358) : RM ts rd π i F cs h' := by
  obtain ⟨m, t, a7, a8, a21, a20, rq, lt, Fl, cl⟩ := r
  have e : ∀ a, (a = 342 ∨ a = 344 ∨ a = 345 ∨ a = 357 ∨ a = 358) → hI h' a = hI h a := fun a z => p.I (fun w => by have := q a w; omega)
  refine ⟨m.fr p, ?_, by rw [e 342 (by omega)]; exact a7, by rw [e 342 (by omega)]; exact a8, by rw [e 342 (by omega)]; exact a21, by rw [e 342 (by omega)]; exact a20, ?_, lt, Fl, cl⟩
  · intro k hk
    rw [e 344 (by omega), e 345 (by omega), p.J (fun z => z)]
    exact t k hk
  · intro k hk
    rw [e 357 (by omega), e 358 (by omega)]
    exact rq k hk
/-- where lines begin in the codes of the reference -/
def BM (h : AH) (D : LD) : Prop := ∀ l, l < 3 → match D l with
  | none => hI h 360 l = -1
  | some (_, sm, _) => hI h 360 l = nI sm
theorem BM.cg {h h' : AH} {D : LD} (b : BM h D) (e : hI h' 360 = hI h 360) : BM h' D := by
  unfold BM
  rw [e]
  exact b
section BD
variable {ts : List (Nat × Nat)} {i d : Nat} {cm : List Nat} {h : AH}
theorem m_bhead (T : TOKS ts) {D : LD} {nf : Nat} {cx : List Nat} (o : LOk nf D cx cm) (hD3 : ∀ l, 3 ≤ l → D l = none) (hcm : cm.length < 2147483648) (x1 : Int32) (r : RM ts 0 id i 0 cm h) (b : BM h D) (R : Option Value → AH → Prop) (fin : ∀ (h1 : AH) (l : Int32), PM ts 0 id h (bHd ts i D).1 (bHd ts i D).2.1 cm h1 → Wp (d + 3) P_M_body 83 [.ref 342, .int l] [] (if (bHd ts i D).2.1 = 0 then sI h1 360 (bHd ts i D).2.2 (nI cm.length) else h1) R) : Wp (d + 3) P_M_body 32 [.ref 342, .int x1] [] h R := by
  have T1 := T.2.1
  have dead : ∀ {j F : Nat} {h1 : AH}, F ≠ 0 → PM ts 0 id h j F cm h1 → (∃ l, bHd ts i D = (j, F, l)) → Wp (d + 3) P_M_body 66 [.ref 342, .int x1] [] h1 R := by
    rintro j F h1 hF p ⟨l, e⟩
    have z : ¬ nI F = 0 := mt (nI0 (by have := p.2.Fl; omega)).mp hF
    rw [b_M_body_66]
    refine (m_takeNumber0 (d := d + 1) _ _ hF p.2 _).mpr ?_
    simp only [Option.toList, List.cons_append, List.nil_append, b_M_body_70]
    refine (m_takeSign0 (d := d + 1) T 61 (by decide) (by decide) hF p.2 _).mpr ?_
    simp only [Option.toList, List.cons_append, List.nil_append, b_M_body_74, mo p.2.m, p.2.f, z, mem20, mem21, mem22, al20, al21, al33, al34, al36, al37, al38, aa33, aa34, aa36, aa37, aa38, true_and, and_true, Int32.reduceOfNat, forall_const, true_implies, implies_true, false_implies, not_true_eq_false, not_false_eq_true]
    have := fin h1 0 (by rw [e]; exact p)
    rw [e] at this
    simp only [hF, if_false] at this
    exact this
  rw [b_M_body_32]
  refine (m_takeWord (d := d) T 2 (by decide) r).mono ?_
  rintro r' h1 ⟨rfl, p1⟩
  have m1 := (show MLY h1 by split at p1 <;> exact p1.2.m)
  simp only [Option.toList, List.cons_append, List.nil_append, b_M_body_35]
  by_cases q : tc ts i = 10020
  · have q' : tc ts i = 10000 + rwo 2 := q
    rw [if_pos q'] at p1
    have h1l := p1.2.lt
    have hp1 := (T.2.2 _ h1l).2.2
    have f0 : hI h1 342 8 = 0 := p1.2.f
    have i1 : ixo (nI (i + 1)) 1002 = true := nix (by omega) (by decide)
    have sn := srt_num (T.2.2 _ h1l).1 p1.2.tv
    have eB : bHd ts i D = if tc ts (i + 1) < 6 ∧ (D (tc ts (i + 1))).isSome = true then (i + 1, 3 + 16 * tp ts (i + 1), 0) else if numF ts (i + 1) 0 2 = 0 then (if tc ts (i + 2) = 11061 then (i + 3, 0, tc ts (i + 1)) else (i + 2, 1 + 16 * tp ts (i + 2), tc ts (i + 1))) else (i + 1, numF ts (i + 1) 0 2, 0) := by
      unfold bHd
      rw [if_pos q]
    have from66 : ¬ (tc ts (i + 1) < 6 ∧ (D (tc ts (i + 1))).isSome = true) → Wp (d + 3) P_M_body 66 [.ref 342, .int x1] [] h1 R := by
      intro nq
      rw [if_neg nq] at eB
      rw [b_M_body_66]
      refine (m_takeNumber (d := d + 1) T 0 2 (by decide) (by decide) p1.2).mono ?_
      intro r' h2 p2
      by_cases q3 : numF ts (i + 1) 0 2 = 0
      · rw [if_pos q3] at p2 eB
        obtain ⟨rfl, p2⟩ := p2
        have n3 := numF_0 q3
        simp only [Option.toList, List.cons_append, List.nil_append, b_M_body_70]
        refine (m_takeSign (d := d + 1) T 61 (by decide) (by decide) p2.2).mono ?_
        rintro r' h3 ⟨rfl, p3⟩
        simp only [Option.toList, List.cons_append, List.nil_append, b_M_body_74]
        by_cases q4 : tc ts (i + 2) = 11061
        · have q4' : tc ts (i + 1 + 1) = 11061 := q4
          rw [if_pos q4'] at p3
          rw [if_pos q4] at eB
          have m3 := p3.2.m
          have f3 : hI h3 342 8 = 0 := p3.2.f
          have c3 : hI h3 342 20 = nI cm.length := p3.2.2.2.2.2.2.1
          have i3 : ixo (nI (tc ts (i + 1))) 3 = true := nix (by omega) (by decide)
          simp only [mo m3, f3, b_M_body_77, mr_25 m3, mk_360 m3, mn_360 m3, i3, c3, cN (show tc ts (i + 1) < 2147483648 by omega), mem20, mem21, mem22, al20, al21, al33, al34, al36, al37, al38, aa33, aa34, aa36, aa37, aa38, true_and, and_true, Int32.reduceOfNat, forall_const, true_implies, implies_true, false_implies, not_true_eq_false, not_false_eq_true]
          have := fin h3 (nI (tc ts (i + 1))) (by rw [eB]; exact (p3.pre p2.1).pre p1.1)
          rw [eB] at this
          simp only [if_true] at this
          exact this
        · have q4' : ¬ tc ts (i + 1 + 1) = 11061 := q4
          rw [if_neg q4'] at p3
          rw [if_neg q4] at eB
          have hF : 1 + 16 * tp ts (i + 2) ≠ 0 := by omega
          have z : ¬ nI (1 + 16 * tp ts (i + 1 + 1)) = 0 := mt (nI0 (by have := p3.2.Fl; omega)).mp hF
          simp only [mo p3.2.m, p3.2.f, z, mem20, mem21, mem22, al20, al21, al33, al34, al36, al37, al38, aa33, aa34, aa36, aa37, aa38, true_and, and_true, Int32.reduceOfNat, forall_const, true_implies, implies_true, false_implies, not_true_eq_false, not_false_eq_true]
          have := fin h3 (nI (tc ts (i + 1))) (by rw [eB]; exact (p3.pre p2.1).pre p1.1)
          rw [eB] at this
          simp only [hF, if_false] at this
          exact this
      · rw [if_neg q3] at p2 eB
        obtain ⟨rfl, p2⟩ := p2
        have z : ¬ nI (numF ts (i + 1) 0 2) = 0 := mt (nI0 (by have := p2.2.Fl; omega)).mp q3
        simp only [Option.toList, List.cons_append, List.nil_append, b_M_body_70]
        refine (m_takeSign0 (d := d + 1) T 61 (by decide) (by decide) q3 p2.2 _).mpr ?_
        simp only [Option.toList, List.cons_append, List.nil_append, b_M_body_74, mo p2.2.m, p2.2.f, z, mem20, mem21, mem22, al20, al21, al33, al34, al36, al37, al38, aa33, aa34, aa36, aa37, aa38, true_and, and_true, Int32.reduceOfNat, forall_const, true_implies, implies_true, false_implies, not_true_eq_false, not_false_eq_true]
        have := fin h2 0 (by rw [eB]; exact p2.pre p1.1)
        rw [eB] at this
        simp only [q3, if_false] at this
        exact this
    simp only [mo m1, f0, b_M_body_38, mr_4 m1, mk_344 m1, mn_344 m1, p1.2.at, i1, cN (show i + 1 < 2147483648 by omega), sn, mem20, mem21, mem22, al20, al21, al33, al34, al36, al37, al38, aa33, aa34, aa36, aa37, aa38, true_and, and_true, Int32.reduceOfNat, forall_const, true_implies, implies_true, false_implies, not_true_eq_false, not_false_eq_true]
    by_cases qn : tc ts (i + 1) < 10000
    · have tv := p1.2.tv.1 (by omega)
      have c3 : 0 ≤ lg_cmp (lN (tc ts (i + 1))) 3 ↔ 3 ≤ tc ts (i + 1) := by
        rw [lg_cmp_ge, show (3 : Int64) = lN 3 from rfl]
        exact lN_le (by decide) (by omega)
      simp only [qn, b_M_body_45, mo m1, mr_6 m1, mk_346 m1, mn_346 m1, p1.2.at, i1, cN (show i + 1 < 2147483648 by omega), tv.2, c3, mem20, mem21, mem22, al20, al21, al33, al34, al36, al37, al38, aa33, aa34, aa36, aa37, aa38, true_and, and_true, Int32.reduceOfNat, forall_const, true_implies, implies_true, false_implies, not_true_eq_false, not_false_eq_true]
      by_cases q3 : 3 ≤ tc ts (i + 1)
      · simp only [q3, mem20, mem21, mem22, al20, al21, al33, al34, al36, al37, al38, aa33, aa34, aa36, aa37, aa38, true_and, and_true, Int32.reduceOfNat, forall_const, true_implies, implies_true, false_implies, not_true_eq_false, not_false_eq_true]
        exact from66 (fun z => by rw [hD3 _ q3] at z; exact absurd z.2 (by decide))
      · have i3 : ixo (nI (tc ts (i + 1))) 3 = true := nix (by omega) (by decide)
        have e60 : hI h1 360 = hI h 360 := p1.1.1.I (by unfold mps; decide)
        simp only [q3, b_M_body_53, mo m1, mr_6 m1, mk_346 m1, mn_346 m1, mr_25 m1, mk_360 m1, mn_360 m1, p1.2.at, i1, cN (show i + 1 < 2147483648 by omega), tv.2, lN_i, i3, cN (show tc ts (i + 1) < 2147483648 by omega), e60, mem20, mem21, mem22, al20, al21, al33, al34, al36, al37, al38, aa33, aa34, aa36, aa37, aa38, true_and, and_true, Int32.reduceOfNat, forall_const, true_implies, implies_true, false_implies, not_true_eq_false, not_false_eq_true]
        have bl := b (tc ts (i + 1)) (by omega)
        cases e : D (tc ts (i + 1)) with
        | none =>
          rw [e] at bl
          have bl : hI h 360 (tc ts (i + 1)) = -1 := bl
          rw [bl]
          simp only [show (-1 : Int32) < 0 by decide, mem20, mem21, mem22, al20, al21, al33, al34, al36, al37, al38, aa33, aa34, aa36, aa37, aa38, true_and, and_true, Int32.reduceOfNat, forall_const, true_implies, implies_true, false_implies, not_true_eq_false, not_false_eq_true]
          exact from66 (fun z => by rw [e] at z; exact absurd z.2 (by decide))
        | some v =>
          obtain ⟨sx, sm, c⟩ := v
          rw [e] at bl
          have bl : hI h 360 (tc ts (i + 1)) = nI sm := bl
          obtain ⟨o1, o2, o3⟩ := o _ sx sm c e
          obtain ⟨a, b', ea, la⟩ := o2
          have lc : cm.length = a.length + (c.length + 1) + b'.length := by rw [ea]; simp; omega
          have zs := n_nn (n := sm) (by omega)
          rw [bl]
          simp only [zs, b_M_body_63, mem20, mem21, mem22, al20, al21, al33, al34, al36, al37, al38, aa33, aa34, aa36, aa37, aa38, true_and, and_true, Int32.reduceOfNat, forall_const, true_implies, implies_true, false_implies, not_true_eq_false, not_false_eq_true]
          rw [if_pos ⟨by omega, by rw [e]; rfl⟩] at eB
          refine (m_wrong T 3 (by decide) p1.2).mono ?_
          rintro r' h2 ⟨rfl, p2⟩
          simp only [Option.toList, List.cons_append, List.nil_append]
          exact dead (by omega) (p2.pre p1.1) ⟨_, eB⟩
    · simp only [qn, mem20, mem21, mem22, al20, al21, al33, al34, al36, al37, al38, aa33, aa34, aa36, aa37, aa38, true_and, and_true, Int32.reduceOfNat, forall_const, true_implies, implies_true, false_implies, not_true_eq_false, not_false_eq_true]
      exact from66 (fun z => by omega)
  · have q' : ¬ tc ts i = 10000 + rwo 2 := q
    rw [if_neg q'] at p1
    have hF : 1 + 16 * tp ts i ≠ 0 := by omega
    have z : ¬ nI (1 + 16 * tp ts i) = 0 := mt (nI0 (by have := p1.2.Fl; omega)).mp hF
    simp only [mo m1, p1.2.f, z, mem20, mem21, mem22, al20, al21, al33, al34, al36, al37, al38, aa33, aa34, aa36, aa37, aa38, true_and, and_true, Int32.reduceOfNat, forall_const, true_implies, implies_true, false_implies, not_true_eq_false, not_false_eq_true]
    exact dead hF p1 ⟨0, by unfold bHd; rw [if_neg q]⟩
end BD
def tl (D : LD) (l : Nat) : Nat := if (D l).isSome = true then 1 else 0
theorem tl_le (D : LD) (l : Nat) : tl D l ≤ 1 := by unfold tl; split <;> omega
theorem body_all {ts : List (Nat × Nat)} (T : TOKS ts) : ∀ (m i : Nat) (D : LD) (cx cm : List Nat) (N : Nat), ts.length - i ≤ m → i < ts.length → LOk 12 D cx cm → (∀ l, 3 ≤ l → D l = none) → N = tl D 0 + tl D 1 + tl D 2 → cx.length + 3 * N ≤ i → (N = 0 → cx = []) → cm.length ≤ i →
    ∃ (i' F' : Nat) (D' : LD) (cx' cm' : List Nat) (N' : Nat), (F' = 0 → LOk 12 D' cx' cm' ∧ (∀ l, 3 ≤ l → D' l = none) ∧ N' = tl D' 0 + tl D' 1 + tl D' 2 ∧ cx'.length < 1000 ∧ cm'.length ≤ 1000) ∧ F' < 20000 ∧
      (∀ (L : Nat) (xs : Nat → Int32) (h : AH) (R : Option Value → AH → Prop), RX L xs ts 0 i 0 cx h → BX h D N → (∀ h', Fr xls nov h h' → RX L xs ts 0 i' F' cx' h' → (F' = 0 → BX h' D' N') → R (some (.int (nI F'))) h') → Wp 42 P_Pa_readBody 8 [.ref 108, .int (nI N)] [] h R) ∧
      (∀ (h : AH) (x1 : Int32) (R : Option Value → AH → Prop), RM ts 0 id i 0 cm h → BM h D → (∀ h' x1, KB h h' → RM ts 0 id i' F' cm' h' → (F' = 0 → BM h' D') → Wp 36 P_M_body 86 [.ref 342, .int x1] [] h' R) → Wp 36 P_M_body 23 [.ref 342, .int x1] [] h R) := by
  have T1 := T.2.1
  intro m
  induction m with
  | zero => intro i D cx cm N h1 h2; omega
  | succ m ih =>
    intro i D cx cm N h1 h2 o hD3 hN hcx hcx0 hcm
    have ct := cdOk_lt (T.2.2 i h2).1
    have N3 : N ≤ 3 := by have := tl_le D 0; have := tl_le D 1; have := tl_le D 2; omega
    have z12 : nI (tc ts i) = 12000 ↔ tc ts i = 12000 := neq (b := 12000) (by omega) (by decide)
    have zN : ∀ k, k ≤ 4 → ¬ (1000 : Int32) ≤ nI k := fun k hk => mt (nle (a := 1000) (by decide) (by omega)).mp (by omega)
    have i1 : ixo (nI i) 1002 = true := nix (by omega) (by decide)
    -- the class's loop at its end, behind a fault
    have xend : ∀ {L : Nat} {xs : Nat → Int32} {h : AH} {R : Option Value → AH → Prop} {j F k : Nat} {c : List Nat}, F ≠ 0 → RX L xs ts 0 j F c h → R (some (.int (nI F))) h → Wp 42 P_Pa_readBody 8 [.ref 108, .int (nI k)] [] h R := by
      intro L xs h R j F k c hF r fin
      have z : ¬ nI F = 0 := mt (nI0 (by have := r.Fl; omega)).mp hF
      have last : Wp 42 P_Pa_readBody 20 [.ref 108, .int (nI k)] [] h R := by
        rw [b_Pa_readBody_20, r.f]
        exact ⟨xk_108 r.x, fin⟩
      rw [b_Pa_readBody_8]
      refine ⟨fun _ => last, fun _ => ?_⟩
      simp only [b_Pa_readBody_11, e_Pa_goesOn, b_Pa_goesOn_0, b_Pa_goesOn_3, b_Pa_goesOn_7, b_Pa_goesOn_9, b_Pa_goesOn_10, xk_108 r.x, r.f, z, Option.toList, List.cons_append, List.nil_append, b_Pa_readBody_13, rtZ0, mem20, mem21, mem22, al20, al21, al33, al34, al36, al37, al38, aa33, aa34, aa36, aa37, aa38, true_and, and_true, Int32.reduceOfNat, forall_const, true_implies, implies_true, false_implies, not_true_eq_false, not_false_eq_true]
      exact last
    have mend : ∀ {h : AH} {R : Option Value → AH → Prop} {j F : Nat} {x1 : Int32} {c : List Nat}, F ≠ 0 → RM ts 0 id j F c h → Wp 36 P_M_body 86 [.ref 342, .int x1] [] h R → Wp 36 P_M_body 23 [.ref 342, .int x1] [] h R := by
      intro h R j F x1 c hF r fin
      have z : ¬ nI F = 0 := mt (nI0 (by have := r.Fl; omega)).mp hF
      rw [b_M_body_23]
      simp only [mo r.m, r.f, z, mem20, mem21, mem22, al20, al21, al33, al34, al36, al37, al38, aa33, aa34, aa36, aa37, aa38, true_and, and_true, Int32.reduceOfNat, forall_const, true_implies, implies_true, false_implies, not_true_eq_false, not_false_eq_true]
      exact fin
    by_cases qe : tc ts i = 12000
    · have iT := (T.2.2 i h2).2.1.mp qe
      refine ⟨i, 0, D, cx, cm, N, fun _ => ⟨o, hD3, hN, ?_, by omega⟩, by decide, ?_, ?_⟩
      · by_cases z : N = 0
        · rw [hcx0 z]; decide
        · omega
      · intro L xs h R r b fin
        have f0 : hI h 108 4 = 0 := r.f
        rw [b_Pa_readBody_8]
        simp only [zN N (by omega), b_Pa_readBody_11, e_Pa_goesOn, b_Pa_goesOn_0, b_Pa_goesOn_3, b_Pa_goesOn_7, b_Pa_goesOn_9, b_Pa_goesOn_10, xk_108 r.x, f0, r.cd, z12.mpr qe, Option.toList, List.cons_append, List.nil_append, b_Pa_readBody_13, rtZ0, b_Pa_readBody_20, mem20, mem21, mem22, al20, al21, al33, al34, al36, al37, al38, aa33, aa34, aa36, aa37, aa38, true_and, and_true, Int32.reduceOfNat, forall_const, true_implies, implies_true, false_implies, not_true_eq_false, not_false_eq_true]
        exact fin h Fr.rfl' r (fun _ => b)
      · intro h x1 R r b fin
        have f0 : hI h 342 8 = 0 := r.f
        have se := srt_end (T.2.2 i h2).1 r.tv
        have mm := r.m
        rw [b_M_body_23]
        simp only [mo mm, f0, b_M_body_26, mr_4 mm, mk_344 mm, mn_344 mm, r.at, i1, cN (show i < 2147483648 by omega), se, qe, mem20, mem21, mem22, al20, al21, al33, al34, al36, al37, al38, aa33, aa34, aa36, aa37, aa38, true_and, and_true, Int32.reduceOfNat, forall_const, true_implies, implies_true, false_implies, not_true_eq_false, not_false_eq_true]
        exact fin h x1 KB.rf r (fun _ => b)
    · obtain ⟨o1, o2, o3, o4, o5⟩ := bHd_o T h2 D
      -- into the head
      have xhd : ∀ {L : Nat} {xs : Nat → Int32} {h : AH} {R : Option Value → AH → Prop}, RX L xs ts 0 i 0 cx h → BX h D N → (∀ h1, PX L xs ts 0 h (bHd ts i D).1 (bHd ts i D).2.1 cx h1 → Cl 42 q_Pa_takeLaw [.ref 108, .int (nI (bHd ts i D).2.2)] h1 (fun r' h' => r' = none ∧ Wp 42 P_Pa_readBody 8 [.ref 108, .int (nI (N + 1))] [] h' R)) → Wp 42 P_Pa_readBody 8 [.ref 108, .int (nI N)] [] h R := by
        intro L xs h R r b fin
        have f0 : hI h 108 4 = 0 := r.f
        rw [b_Pa_readBody_8]
        simp only [zN N (by omega), b_Pa_readBody_11, e_Pa_goesOn, b_Pa_goesOn_0, b_Pa_goesOn_3, b_Pa_goesOn_7, b_Pa_goesOn_9, b_Pa_goesOn_10, xk_108 r.x, f0, r.cd, z12, qe, Option.toList, List.cons_append, List.nil_append, b_Pa_readBody_13, rtZ1, b_Pa_readBody_14, show ¬ (1 : Int32) = 0 by decide, mem20, mem21, mem22, al20, al21, al33, al34, al36, al37, al38, aa33, aa34, aa36, aa37, aa38, true_and, and_true, Int32.reduceOfNat, forall_const, true_implies, implies_true, false_implies, not_true_eq_false, not_false_eq_true]
        refine (x_bhead (d := 39) T o r b).mono ?_
        rintro r' h1 ⟨rfl, p1⟩
        simp only [Option.toList, List.cons_append, List.nil_append, b_Pa_readBody_17]
        refine (fin h1 p1).mono ?_
        rintro r' h' ⟨rfl, w⟩
        simp only [Option.toList, List.cons_append, List.nil_append, b_Pa_readBody_18, nI_1]
        exact w
      have mhd : ∀ {h : AH} {x1 : Int32} {R : Option Value → AH → Prop}, RM ts 0 id i 0 cm h → BM h D → (∀ (h1 : AH) (l : Int32), PM ts 0 id h (bHd ts i D).1 (bHd ts i D).2.1 cm h1 → Wp 36 P_M_body 83 [.ref 342, .int l] [] (if (bHd ts i D).2.1 = 0 then sI h1 360 (bHd ts i D).2.2 (nI cm.length) else h1) R) → Wp 36 P_M_body 23 [.ref 342, .int x1] [] h R := by
        intro h x1 R r b fin
        have f0 : hI h 342 8 = 0 := r.f
        have se := srt_end (T.2.2 i h2).1 r.tv
        have mm := r.m
        rw [b_M_body_23]
        simp only [mo mm, f0, b_M_body_26, mr_4 mm, mk_344 mm, mn_344 mm, r.at, i1, cN (show i < 2147483648 by omega), se, qe, mem20, mem21, mem22, al20, al21, al33, al34, al36, al37, al38, aa33, aa34, aa36, aa37, aa38, true_and, and_true, Int32.reduceOfNat, forall_const, true_implies, implies_true, false_implies, not_true_eq_false, not_false_eq_true]
        exact m_bhead (d := 33) T o hD3 (by omega) x1 r b R fin
      by_cases qF : (bHd ts i D).2.1 = 0
      · obtain ⟨p1, p2, p3⟩ := o5 qF
        obtain ⟨i2, F2, c2, ⟨a1, a2, a3, a4, a5⟩, x2, m2⟩ := expr (rd := 0) (π := id) (nf := 12) T (Or.inl ⟨rfl, rfl, rfl⟩) (bHd ts i D).1 o1
        obtain ⟨l1, l2, l3, l4⟩ := lwE_o T a2 a3
        -- a line through
        have xl : ∀ {L : Nat} {xs : Nat → Int32} {h h1 : AH} {R : Option Value → AH → Prop}, BX h D N → PX L xs ts 0 h (bHd ts i D).1 (bHd ts i D).2.1 cx h1 → (∀ h', Fr xls nov h h' → RX L xs ts 0 (lwE ts i2 F2).1 (lwE ts i2 F2).2 (cx ++ c2) h' → BX h' (upD D (bHd ts i D).2.2 (cx.length, cm.length, c2)) (N + 1) → Wp 42 P_Pa_readBody 8 [.ref 108, .int (nI (N + 1))] [] h' R) → Cl 42 q_Pa_takeLaw [.ref 108, .int (nI (bHd ts i D).2.2)] h1 (fun r' h' => r' = none ∧ Wp 42 P_Pa_readBody 8 [.ref 108, .int (nI (N + 1))] [] h' R) := by
          intro L xs h h1 R b p fin
          rw [qF] at p
          refine (x_law T (bHd ts i D).2.2 N o4 (fun h r => x2 L xs cx h r) p.2 (by rw [p.1.2]; exact b.1)).mono ?_
          rintro r' h' ⟨rfl, fr', r2, g1, g2⟩
          refine ⟨rfl, fin h' ((p.1.1.mo (fun a z => Or.inl z) (fun a z => z)).tr fr') r2 ?_⟩
          obtain ⟨g3, g4, g5⟩ := g1 (by omega)
          refine ⟨g5, fun l hl => ?_⟩
          unfold upD
          by_cases ql : l = (bHd ts i D).2.2
          · rw [if_pos ql, ql]
            show hI h' 118 _ = nI cx.length ∧ hI h' 119 _ = nI (cx.length + c2.length)
            rw [g3, g4]
            simp
          · rw [if_neg ql]
            obtain ⟨g6, g7⟩ := g2 l ql
            have e18 : hI h1 118 = hI h 118 := p.1.1.I (by unfold xps; decide)
            have e19 : hI h1 119 = hI h 119 := p.1.1.I (by unfold xps; decide)
            rw [g6, g7, e18, e19]
            exact b.2 l hl
        have ml : ∀ {h h1 : AH} {l : Int32} {R : Option Value → AH → Prop}, BM h D → PM ts 0 id h (bHd ts i D).1 (bHd ts i D).2.1 cm h1 → (∀ h', KB h h' → RM ts 0 id (lwE ts i2 F2).1 (lwE ts i2 F2).2 (cm ++ c2 ++ [30000]) h' → BM h' (upD D (bHd ts i D).2.2 (cx.length, cm.length, c2)) → Wp 36 P_M_body 23 [.ref 342, .int l] [] h' R) → Wp 36 P_M_body 83 [.ref 342, .int l] [] (if (bHd ts i D).2.1 = 0 then sI h1 360 (bHd ts i D).2.2 (nI cm.length) else h1) R := by
          intro h h1 l R b p fin
          rw [if_pos qF]
          rw [qF] at p
          have r1 : RM ts 0 id (bHd ts i D).1 0 cm (sI h1 360 (bHd ts i D).2.2 (nI cm.length)) := p.2.fr (S := onl 360) (Fs1 Fr.rfl') (fun a z => by unfold onl at z; omega)
          have k1 : KB h1 (sI h1 360 (bHd ts i D).2.2 (nI cm.length)) := ⟨Fr.rfl'.sI (Or.inr (by decide)), fun j _ _ _ => by rw [rI_sI (by decide)], fun j _ => by rw [rI_sI (by decide), rI_sI (by decide)]; exact ⟨rfl, rfl⟩, fun j _ => by rw [rI_sI (by decide)], fun j _ => by rw [rI_sI (by decide)]⟩
          have e60 : hI h1 360 = hI h 360 := p.1.1.I (by unfold mps; decide)
          have b1 : BM (sI h1 360 (bHd ts i D).2.2 (nI cm.length)) (upD D (bHd ts i D).2.2 (cx.length, cm.length, c2)) := by
            intro l hl
            unfold upD
            rw [hI_same]
            by_cases ql : l = (bHd ts i D).2.2
            · rw [if_pos ql, if_pos ql]
            · rw [if_neg ql, if_neg ql, e60]
              exact b l hl
          generalize sI h1 360 (bHd ts i D).2.2 (nI cm.length) = h2 at r1 k1 b1
          rw [b_M_body_83]
          refine (m_whole T (m2 cm h2 r1) r1.m (by simp; omega)).mono ?_
          rintro r' h3 ⟨rfl, p3⟩
          simp only [Option.toList, List.cons_append, List.nil_append, b_M_body_85]
          refine fin h3 (((KB.km p.1).tr k1).tr (KB.km p3.1)) p3.2 (b1.cg ?_)
          exact p3.1.1.I (by unfold mps; decide)
        by_cases q3 : (lwE ts i2 F2).2 = 0
        · obtain ⟨f2, f3⟩ := l4 q3
          obtain ⟨a6, a7⟩ := a5 f2
          have oc : oks 12 c2 0 := sgs_oks (a7 0 (by decide)) (by decide) (by decide)
          have cl := oks_len oc
          have tn : tl (upD D (bHd ts i D).2.2 (cx.length, cm.length, c2)) (bHd ts i D).2.2 = 1 := by unfold tl upD; simp
          have tn0 : tl D (bHd ts i D).2.2 = 0 := by unfold tl; rw [p3]; rfl
          have to : ∀ l, l ≠ (bHd ts i D).2.2 → tl (upD D (bHd ts i D).2.2 (cx.length, cm.length, c2)) l = tl D l := fun l hl => by unfold tl upD; rw [if_neg hl]
          have hN' : N + 1 = tl (upD D (bHd ts i D).2.2 (cx.length, cm.length, c2)) 0 + tl (upD D (bHd ts i D).2.2 (cx.length, cm.length, c2)) 1 + tl (upD D (bHd ts i D).2.2 (cx.length, cm.length, c2)) 2 := by
            have c3 : (bHd ts i D).2.2 = 0 ∨ (bHd ts i D).2.2 = 1 ∨ (bHd ts i D).2.2 = 2 := by omega
            rcases c3 with z | z | z
            · rw [z] at tn tn0 to ⊢
              rw [tn, to 1 (by decide), to 2 (by decide)]; omega
            · rw [z] at tn tn0 to ⊢
              rw [tn, to 0 (by decide), to 2 (by decide)]; omega
            · rw [z] at tn tn0 to ⊢
              rw [tn, to 0 (by decide), to 1 (by decide)]; omega
          obtain ⟨i', F', D', cx', cm', N', g1, g2, g3, g4⟩ := ih (lwE ts i2 F2).1 (upD D (bHd ts i D).2.2 (cx.length, cm.length, c2)) (cx ++ c2) (cm ++ c2 ++ [30000]) (N + 1) (by omega) l1 (o.up oc) (fun l hl => by unfold upD; rw [if_neg (by omega)]; exact hD3 l hl) hN' (by simp; omega) (fun z => by omega) (by simp; omega)
          refine ⟨i', F', D', cx', cm', N', g1, g2, ?_, ?_⟩
          · intro L xs h R r b fin
            refine xhd r b (fun h1 p => xl b p (fun h2 fr2 r2 b2 => ?_))
            rw [q3] at r2
            refine g3 L xs h2 R r2 b2 (fun h' fr' r' b' => fin h' (fr2.tr fr') r' b')
          · intro h x1 R r b fin
            refine mhd r b (fun h1 l p => ml b p (fun h2 k2 r2 b2 => ?_))
            rw [q3] at r2
            refine g4 h2 l R r2 b2 (fun h' x1 k' r' b' => fin h' x1 (k2.tr k') r' b')
        · refine ⟨(lwE ts i2 F2).1, (lwE ts i2 F2).2, D, cx ++ c2, cm ++ c2 ++ [30000], N, fun z => absurd z q3, l2, ?_, ?_⟩
          · intro L xs h R r b fin
            refine xhd r b (fun h1 p => xl b p (fun h2 fr2 r2 b2 => ?_))
            exact xend q3 r2 (fin h2 fr2 r2 (fun z => absurd z q3))
          · intro h x1 R r b fin
            refine mhd r b (fun h1 l p => ml b p (fun h2 k2 r2 b2 => ?_))
            exact mend q3 r2 (fin h2 l k2 r2 (fun z => absurd z q3))
      · refine ⟨(bHd ts i D).1, (bHd ts i D).2.1, D, cx, cm ++ [] ++ [30000], N, fun z => absurd z qF, o2, ?_, ?_⟩
        · intro L xs h R r b fin
          refine xhd r b (fun h1 p => ?_)
          refine (x_law0 T (Or.inl rfl) qF (bHd ts i D).2.2 N o4 p.2 (by rw [p.1.2]; exact b.1)).mono ?_
          rintro r' h2 ⟨rfl, fr2, r2⟩
          exact ⟨rfl, xend qF r2 (fin h2 ((p.1.1.mo (fun a z => Or.inl z) (fun a z => z)).tr fr2) r2 (fun z => absurd z qF))⟩
        · intro h x1 R r b fin
          refine mhd r b (fun h1 l p => ?_)
          rw [if_neg qF, b_M_body_83]
          have a0 := m_all0 T qF p.2
          refine (m_whole (c1 := []) T (by rw [List.append_nil]; exact a0) p.2.m (by simp; omega)).mono ?_
          rintro r' h3 ⟨rfl, p3⟩
          simp only [Option.toList, List.cons_append, List.nil_append, b_M_body_85]
          have e3 : lwE ts (bHd ts i D).1 (bHd ts i D).2.1 = ((bHd ts i D).1, (bHd ts i D).2.1) := by unfold lwE; rw [if_neg qF]
          have r3 := p3.2
          rw [e3] at r3
          exact mend qF r3 (fin h3 l ((KB.km p.1).tr (KB.km p3.1)) r3 (fun z => absurd z qF))
