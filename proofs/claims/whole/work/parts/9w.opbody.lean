--deps: 9v.keep
section OPB
variable {L : Nat} {xs : Nat → Int32} {c : Nat} {h : AH}
theorem Inv.gen {h6 : AH} (i : Inv L xs c h) (g1 : SLY L xs h6) (g2 : XLY h6) (g3 : MLY h6) (g4 : hK h6 377 = 23 ∧ hN h6 377 = 1) (e : ∀ a, (a = 105 ∨ a = 106 ∨ a = 122 ∨ (146 ≤ a ∧ a < 170) ∨ (190 ≤ a ∧ a < 342) ∨ (348 ≤ a ∧ a ≤ 356) ∨ (365 ≤ a ∧ a ≤ 376)) → hI h6 a = hI h a) (eJ : ∀ a, a = 372 ∨ a = 373 ∨ a = 376 → hJ h6 a = hJ h a) (s342 : ∀ j, j = 15 ∨ j = 30 → hI h6 342 j = hI h 342 j) (tp : ITp h6) (bd : IBd h6) (rd : IRd h6) (z : 378 ≤ hz h6 ∧ hz h6 ≤ 378 + (c + 1) ∧ hu h6 ≤ 40000 + 1000 * (c + 1)) : Inv L xs (c + 1) h6 := by
  obtain ⟨i1, i2, i3, i4, i5, i6, i7, i8, i9, i10, i11, i12, i13, i14, i15⟩ := i
  exact ⟨g1, g2, g3, g4, i5.fr (fun a z => e a (by omega)), i6.fr (by rw [e 122 (by omega)]) (s342 15 (by decide)), i7.fr (fun a z => e a (by omega)), tp, bd, rd, i11.fr (by rw [e 105 (by omega)]) (s342 30 (by decide)), i12.fr (fun a z => e a (by omega)), i13.fr (by omega) (e 106 (by omega)) (fun k hk => by rw [e 105 (by omega)]) (eJ _ (by omega)) (eJ _ (by omega)), i14.fr (by omega) (fun a z => e a (by omega)) (eJ _ (by omega)), z⟩
/-- cells that reading a text may change in the reference -/
def txm (a : Nat) : Prop := a = 342 ∨ a = 344 ∨ a = 345 ∨ (357 ≤ a ∧ a ≤ 362)
/-- the class reads a body -/
theorem c_Pa_readBody {f : Nat → Nat} {n : Nat} {ts : List (Nat × Nat)} (i1 : SLY L xs h) (i2 : XLY h) (tx : TPX h f n) (lx : LX f n 0 ts) (T : TOKS ts) {i' F' N' : Nat} {D' : LD} {cx' : List Nat} (run : ∀ (L : Nat) (xs : Nat → Int32) (h : AH) (R : Option Value → AH → Prop), RX L xs ts 0 0 0 [] h → BX h (fun _ => none) 0 → (∀ h', Fr xls nov h h' → RX L xs ts 0 i' F' cx' h' → (F' = 0 → BX h' D' N') → R (some (.int (nI F'))) h') → Wp 42 P_Pa_readBody 8 [.ref 108, .int (nI 0)] [] h R) (Q : Option Value → AH → Prop) (fin : ∀ h3, Fr plS nov h h3 → (∀ a, 122 ≤ a → hI h3 a = hI h a) → RX L xs ts 0 i' F' cx' h3 → (F' = 0 → BX h3 D' N') → Q (some (.int (nI F'))) h3) : Cl 43 q_Pa_readBody [.ref 108] h Q := by
  rw [e_Pa_readBody, b_Pa_readBody_0]
  simp only [xk_108 i2, xr_108_0 i2, true_and]
  refine c_Tp_cut (d := 33) f n h i1 i2 tx ts lx _ ?_
  intro h1 fr1 e1 tk1
  have x1 := i2.fr fr1
  have s1 := i1.fr fr1 (fun a z => by unfold cts at z; omega)
  simp only [Option.toList, List.cons_append, List.nil_append, b_Pa_readBody_3]
  refine c_Pa_begin (d := 39) T s1 x1 tk1 (by decide) _ ?_
  intro h2 fr2 b1 b2 b3 r2
  simp only [Option.toList, List.cons_append, List.nil_append, b_Pa_readBody_6]
  refine run L xs h2 _ r2 ⟨b2, fun l hl => b3 l hl⟩ ?_
  intro h3 fr3 r3 bx3
  refine ⟨rtI _, fin h3 (((fr1.mo (S' := plS) (T' := nov) (fun a z => by unfold cts at z; unfold plS; omega) (fun a z => z)).tr (fr2.mo (fun a z => by unfold bgs at z; unfold plS; omega) (fun a z => z))).tr (fr3.mo (fun a z => by unfold xls xps at z; unfold plS; omega) (fun a z => z))) ?_ r3 bx3⟩
  intro a ha
  rw [fr3.I (by unfold xls xps; omega), fr2.I (by unfold bgs; omega), fr1.I (by unfold cts; omega)]
def bdO (D : LD) : Nat → Option (List Nat) := fun l => (D l).map (fun v => v.2.2)
theorem m_body {f : Nat → Nat} {n : Nat} {ts : List (Nat × Nat)} (m0 : MLY h) (hn : n ≤ 1000) (e2 : hI h 342 2 = nI n) (g2 : ∀ j, j < n → hI h 343 j = nI (f j)) (g3 : ∀ j, j < n → f j < 256) (lx : LX f n 0 ts) (T : TOKS ts) {i' F' : Nat} {D' : LD} {cm' cx' : List Nat} (hF : F' < 20000) (ok : F' = 0 → LOk 12 D' cx' cm' ∧ (∀ l, 3 ≤ l → D' l = none) ∧ cm'.length ≤ 1000) (run : ∀ (h : AH) (x1 : Int32) (R : Option Value → AH → Prop), RM ts 0 id 0 0 [] h → BM h (fun _ => none) → (∀ h' x1, KB h h' → RM ts 0 id i' F' cm' h' → (F' = 0 → BM h' D') → Wp 36 P_M_body 86 [.ref 342, .int x1] [] h' R) → Wp 36 P_M_body 23 [.ref 342, .int x1] [] h R) (Q : Option Value → AH → Prop) (fin : ∀ h6, Fr txm (onl 346) h h6 → (∀ j, j = 15 ∨ j = 30 → hI h6 342 j = hI h 342 j) → hI h6 342 2 = 0 → (∀ j, 1100 ≤ j → j < 5500 → hI h6 357 j = hI h 357 j ∧ hI h6 358 j = hI h 358 j) → (∀ j, j < 4 → hI h6 361 j = hI h 361 j) → (∀ j, j < 24 → hI h6 362 j = hI h 362 j) → (F' ≠ 0 → (∀ j, j < 1100 → hI h6 357 j = hI h 357 j ∧ hI h6 358 j = hI h 358 j) ∧ hI h6 359 = hI h 359) → (F' = 0 → MBA h6 (bdO D')) → Q (some (.int (nI F'))) h6) : Cl 37 q_M_body [.ref 342] h Q := by
  have m0' : MLY (sI h 342 0 0) := m0.fr (S := onl 342) (T := nov) (Fs1 Fr.rfl')
  rw [e_M_body, b_M_body_0]
  refine ⟨mo m0, mo m0, ?_⟩
  refine c_M_cutAll (d := 33) f n _ m0' hn (by rw [hI_same, if_neg (by decide)]; exact e2) (fun j hj => by rw [rI_sI (by decide)]; exact g2 j hj) g3 ts lx _ ?_
  intro h1 fr1 a1 t1 p1 f1 tk1
  have m1 := m0'.fr fr1
  simp only [Option.toList, List.cons_append, List.nil_append, b_M_body_5, mo m1, hK_sI, i01_0, true_and]
  generalize hh2 : sI (sI h1 342 20 0) 342 21 0 = h2
  have fr2 : Fr (onl 342) nov h1 h2 := by rw [← hh2]; exact Fs1 (Fs1 Fr.rfl')
  have m2 := m1.fr fr2
  have x0 : ixo 0 3 = true := by decide
  have x1 : ixo 1 3 = true := by decide
  have x2 : ixo 2 3 = true := by decide
  have m20 : MLY (sI h2 360 0 (-1)) := m2.fr (S := onl 360) (T := nov) (Fs1 Fr.rfl')
  have m21 : MLY (sI (sI h2 360 0 (-1)) 360 1 (-1)) := m2.fr (S := onl 360) (T := nov) (Fs1 (Fs1 Fr.rfl'))
  rw [b_M_body_13]
  simp only [show ¬ (3 : Int32) ≤ 0 by decide, b_M_body_16, mo m2, mr_25 m2, mk_360 m2, mn_360 m2, x0, tn0, show (0 : Int32) + 1 = 1 by decide, mem20, mem21, mem22, al20, al21, al33, al34, al36, al37, al38, aa33, aa34, aa36, aa37, aa38, true_and, and_true, Int32.reduceOfNat, forall_const, true_implies, implies_true, false_implies, not_true_eq_false, not_false_eq_true]
  rw [b_M_body_13]
  simp only [show ¬ (3 : Int32) ≤ 1 by decide, b_M_body_16, mo m20, mr_25 m20, mk_360 m20, mn_360 m20, x1, tn1, show (1 : Int32) + 1 = 2 by decide, mem20, mem21, mem22, al20, al21, al33, al34, al36, al37, al38, aa33, aa34, aa36, aa37, aa38, true_and, and_true, Int32.reduceOfNat, forall_const, true_implies, implies_true, false_implies, not_true_eq_false, not_false_eq_true]
  rw [b_M_body_13]
  simp only [show ¬ (3 : Int32) ≤ 2 by decide, b_M_body_16, mo m21, mr_25 m21, mk_360 m21, mn_360 m21, x2, tn2, show (2 : Int32) + 1 = 3 by decide, mem20, mem21, mem22, al20, al21, al33, al34, al36, al37, al38, aa33, aa34, aa36, aa37, aa38, true_and, and_true, Int32.reduceOfNat, forall_const, true_implies, implies_true, false_implies, not_true_eq_false, not_false_eq_true]
  rw [b_M_body_13]
  simp only [Int32.le_refl, mem20, mem21, mem22, al20, al21, al33, al34, al36, al37, al38, aa33, aa34, aa36, aa37, aa38, true_and, and_true, Int32.reduceOfNat, forall_const, true_implies, implies_true, false_implies, not_true_eq_false, not_false_eq_true]
  generalize hh3 : sI (sI (sI h2 360 0 (-1)) 360 1 (-1)) 360 2 (-1) = h3
  have fr3 : Fr (onl 360) nov h2 h3 := by rw [← hh3]; exact Fs1 (Fs1 (Fs1 Fr.rfl'))
  have e42 : ∀ j, j ≠ 20 → j ≠ 21 → hI h3 342 j = hI h1 342 j := by
    intro j h20 h21
    rw [fr3.I (by unfold onl; decide), ← hh2, hI_same, if_neg h21, hI_same, if_neg h20]
  have r3 : RM ts 0 id 0 0 [] h3 := by
    refine ⟨m2.fr fr3, ?_, by rw [e42 7 (by decide) (by decide)]; exact p1, by rw [e42 8 (by decide) (by decide)]; exact f1, ?_, ?_, fun j hj => by simp at hj, T.1, by decide, by decide⟩
    · intro j hj
      rw [fr3.I (by unfold onl; decide), fr3.I (a := 345) (by unfold onl; decide), fr3.J (fun z => z), fr2.I (by unfold onl; decide), fr2.I (a := 345) (by unfold onl; decide), fr2.J (fun z => z)]
      exact tk1 j hj
    · rw [fr3.I (by unfold onl; decide), ← hh2, hI_same, if_pos rfl]
    · rw [fr3.I (by unfold onl; decide), ← hh2, hI_same, if_neg (by decide), hI_same, if_pos rfl]; rfl
  have b3 : BM h3 (fun _ => none) := by
    intro l hl
    show hI h3 360 l = -1
    have c3 : l = 0 ∨ l = 1 ∨ l = 2 := by omega
    rw [← hh3, hI_same, hI_same, hI_same]
    rcases c3 with rfl | rfl | rfl <;> simp
  have fr03 : Fr txm (onl 346) h h3 := ((((Fr.rfl'.sI (a := 342) (j := 0) (v := 0) (Or.inl rfl)).tr (fr1.mo (S' := txm) (fun a z => by unfold mts at z; unfold txm; omega) (fun a z => z))).tr (fr2.mo (S' := txm) (T' := onl 346) (fun a z => Or.inl z) (fun a z => z.elim))).tr (fr3.mo (S' := txm) (T' := onl 346) (fun a z => by unfold onl at z; unfold txm; omega) (fun a z => z.elim)))
  have eo : ∀ a, a ≠ 342 → a ≠ 344 → a ≠ 345 → a ≠ 360 → hI h3 a = hI h a := by
    intro a h2' h4 h5 h6
    rw [fr3.I (fun z => h6 z), fr2.I (fun z => h2' z), fr1.I (by unfold mts; omega), rI_sI h2']
  have s3 : ∀ j, j = 15 ∨ j = 30 → hI h3 342 j = hI h 342 j := by
    intro j hj
    rw [e42 j (by omega) (by omega), a1 j (by omega) (by omega) (by omega) (by omega), hI_same, if_neg (by omega)]
  have t3 : hI h3 342 2 = 0 := by rw [e42 2 (by decide) (by decide)]; exact t1
  refine run h3 3 _ r3 b3 ?_
  intro h4 y4 k4 r4 b4
  have m4 := r4.m
  have fr04 := fr03.tr (k4.1.mo (S' := txm) (T' := onl 346) (fun a z => by unfold mbs mps at z; unfold txm; omega) (fun a z => z.elim))
  have c0 : nI F' = 0 ↔ F' = 0 := nI0 (by omega)
  rw [b_M_body_86]
  simp only [mo m4, r4.f, c0, true_and]
  refine ⟨fun z => ?_, fun z => ?_⟩
  · simp only [b_M_body_107, mo m4, r4.f, true_and]
    refine ⟨rtI _, fin h4 fr04 ?_ ?_ ?_ ?_ ?_ ?_ (fun y => absurd y z)⟩
    · intro j hj
      rw [k4.2.1 j (by omega) (by omega) (by omega), s3 j hj]
    · rw [k4.2.1 2 (by decide) (by decide) (by decide)]; exact t3
    · intro j h1' h2'
      rw [(k4.2.2.1 j h2').1, (k4.2.2.1 j h2').2, eo 357 (by decide) (by decide) (by decide) (by decide), eo 358 (by decide) (by decide) (by decide) (by decide)]
      exact ⟨rfl, rfl⟩
    · intro j hj
      rw [k4.2.2.2.1 j hj, eo 361 (by decide) (by decide) (by decide) (by decide)]
    · intro j hj
      rw [k4.2.2.2.2 j hj, eo 362 (by decide) (by decide) (by decide) (by decide)]
    · intro _
      refine ⟨fun j hj => ?_, ?_⟩
      · rw [(k4.2.2.1 j (by omega)).1, (k4.2.2.1 j (by omega)).2, eo 357 (by decide) (by decide) (by decide) (by decide), eo 358 (by decide) (by decide) (by decide) (by decide)]
        exact ⟨rfl, rfl⟩
      · rw [k4.1.I (by unfold mbs mps; omega), eo 359 (by decide) (by decide) (by decide) (by decide)]
  · have z := Classical.not_not.mp z
    obtain ⟨o1, o2, o3⟩ := ok z
    have b4 := b4 z
    have e20 : hI h4 342 20 = nI cm'.length := r4.2.2.2.2.2.1
    rw [b_M_body_89]
    refine c_M_keeps (d := 35) 0 cm'.length (by decide) o3 h4 m4 e20 _ ?_
    intro h5 fr5 g5
    have m5 := m4.fr fr5
    have e60 : hI h5 360 = hI h4 360 := fr5.I (by unfold kcs; decide)
    simp only [Option.toList, List.cons_append, List.nil_append, b_M_body_92]
    have m50 : MLY (sI h5 359 0 (hI h4 360 0)) := m5.fr (S := onl 359) (T := nov) (Fs1 Fr.rfl')
    have m51 : MLY (sI (sI h5 359 0 (hI h4 360 0)) 359 1 (hI h4 360 1)) := m5.fr (S := onl 359) (T := nov) (Fs1 (Fs1 Fr.rfl'))
    rw [b_M_body_94]
    simp only [show ¬ (3 : Int32) ≤ 0 by decide, b_M_body_97, mo m5, mr_24 m5, mr_25 m5, mk_359 m5, mn_359 m5, mk_360 m5, mn_360 m5, x0, tn0, e60, show (0 : Int32) + 1 = 1 by decide, mem20, mem21, mem22, al20, al21, al33, al34, al36, al37, al38, aa33, aa34, aa36, aa37, aa38, true_and, and_true, Int32.reduceOfNat, forall_const, true_implies, implies_true, false_implies, not_true_eq_false, not_false_eq_true]
    rw [b_M_body_94]
    simp only [show ¬ (3 : Int32) ≤ 1 by decide, b_M_body_97, mo m50, mr_24 m50, mr_25 m50, mk_359 m50, mn_359 m50, mk_360 m50, mn_360 m50, x1, tn1, rI_sI (show 360 ≠ 359 by decide), e60, show (1 : Int32) + 1 = 2 by decide, mem20, mem21, mem22, al20, al21, al33, al34, al36, al37, al38, aa33, aa34, aa36, aa37, aa38, true_and, and_true, Int32.reduceOfNat, forall_const, true_implies, implies_true, false_implies, not_true_eq_false, not_false_eq_true]
    rw [b_M_body_94]
    simp only [show ¬ (3 : Int32) ≤ 2 by decide, b_M_body_97, mo m51, mr_24 m51, mr_25 m51, mk_359 m51, mn_359 m51, mk_360 m51, mn_360 m51, x2, tn2, rI_sI (show 360 ≠ 359 by decide), e60, show (2 : Int32) + 1 = 3 by decide, mem20, mem21, mem22, al20, al21, al33, al34, al36, al37, al38, aa33, aa34, aa36, aa37, aa38, true_and, and_true, Int32.reduceOfNat, forall_const, true_implies, implies_true, false_implies, not_true_eq_false, not_false_eq_true]
    rw [b_M_body_94]
    have m52 : MLY (sI (sI (sI h5 359 0 (hI h4 360 0)) 359 1 (hI h4 360 1)) 359 2 (hI h4 360 2)) := m5.fr (S := onl 359) (T := nov) (Fs1 (Fs1 (Fs1 Fr.rfl')))
    simp only [Int32.le_refl, b_M_body_107, mo m52, mem20, mem21, mem22, al20, al21, al33, al34, al36, al37, al38, aa33, aa34, aa36, aa37, aa38, true_and, and_true, Int32.reduceOfNat, forall_const, true_implies, implies_true, false_implies, not_true_eq_false, not_false_eq_true]
    generalize hh6 : sI (sI (sI h5 359 0 (hI h4 360 0)) 359 1 (hI h4 360 1)) 359 2 (hI h4 360 2) = h6
    have fr6 : Fr (onl 359) nov h5 h6 := by rw [← hh6]; exact Fs1 (Fs1 (Fs1 Fr.rfl'))
    have e6 : ∀ a, a ≠ 359 → hI h6 a = hI h5 a := fun a ha => fr6.I (fun y => ha y)
    have e59 : ∀ l, l < 3 → hI h6 359 l = hI h4 360 l := by
      intro l hl
      have c3 : l = 0 ∨ l = 1 ∨ l = 2 := by omega
      rw [← hh6, hI_same, hI_same, hI_same]
      rcases c3 with rfl | rfl | rfl <;> simp
    have e5 : ∀ a, a ≠ 357 → a ≠ 358 → hI h5 a = hI h4 a := fun a h1' h2' => fr5.I (by unfold kcs; omega)
    have f8 : hI h6 342 8 = nI F' := by rw [e6 342 (by decide), e5 342 (by decide) (by decide)]; exact r4.f
    have fr06 := (fr04.tr (fr5.mo (S' := txm) (T' := onl 346) (fun a z => by unfold kcs at z; unfold txm; omega) (fun a z => z.elim))).tr (fr6.mo (S' := txm) (T' := onl 346) (fun a z => by unfold onl at z; unfold txm; omega) (fun a z => z.elim))
    rw [f8]
    refine ⟨rtI _, fin h6 fr06 ?_ ?_ ?_ ?_ ?_ (fun y => absurd z y) ?_⟩
    · intro j hj
      rw [e6 342 (by decide), e5 342 (by decide) (by decide), k4.2.1 j (by omega) (by omega) (by omega), s3 j hj]
    · rw [e6 342 (by decide), e5 342 (by decide) (by decide), k4.2.1 2 (by decide) (by decide) (by decide)]; exact t3
    · intro j h1' h2'
      rw [e6 357 (by decide), e6 358 (by decide), (g5 357 (Or.inl rfl)).2 j (by omega), (g5 358 (Or.inr rfl)).2 j (by omega), (k4.2.2.1 j h2').1, (k4.2.2.1 j h2').2, eo 357 (by decide) (by decide) (by decide) (by decide), eo 358 (by decide) (by decide) (by decide) (by decide)]
      exact ⟨rfl, rfl⟩
    · intro j hj
      rw [e6 361 (by decide), e5 361 (by decide) (by decide), k4.2.2.2.1 j hj, eo 361 (by decide) (by decide) (by decide) (by decide)]
    · intro j hj
      rw [e6 362 (by decide), e5 362 (by decide) (by decide), k4.2.2.2.2 j hj, eo 362 (by decide) (by decide) (by decide) (by decide)]
    · intro _ l hl
      have bl := b4 l hl
      unfold bdO
      cases e : D' l with
      | none =>
        rw [e] at bl
        refine ⟨?_, True.intro⟩
        show hI h6 359 l = -1
        rw [e59 l hl]
        exact bl
      | some v =>
        obtain ⟨sx, sm, cc⟩ := v
        rw [e] at bl
        obtain ⟨q1, q2, q3⟩ := o1 l sx sm cc e
        obtain ⟨q4, q5, q6⟩ := seg_at q2
        refine ⟨⟨sm, by rw [e59 l hl]; exact bl, by show sm + cc.length < 1100; omega, ?_⟩, q3⟩
        have rk := RTP_keep (f := hI h6 357) (g := hI h6 358) (f0 := hI h4 357) (g0 := hI h4 358) (π := id) (b := 0) (nf := 12) (by decide) q3 q2 r4.2.2.2.2.2.2.1 (fun j hj => by
          rw [e6 357 (by decide), e6 358 (by decide)]
          have w1 := (g5 357 (Or.inl rfl)).1 j hj
          have w2 := (g5 358 (Or.inr rfl)).1 j hj
          rw [Nat.mul_zero] at w1 w2
          exact ⟨w1, w2⟩)
        rw [Nat.zero_add] at rk
        exact rk
theorem op_body (i : Inv L xs c h) : OpI L xs c q_X_body [.ref 100] q_M_body [.ref 342] h := by
  have ii := i
  obtain ⟨i1, i2, i3, i4, i5, i6, i7, i8, i9, i10, i11, i12, i13, i14, i15⟩ := i
  obtain ⟨f, n, ts, tx, e2, g2, lx, T⟩ := i8.toks
  obtain ⟨i', F', D', cx', cm', N', o, hF, runX, runM⟩ := body_all T ts.length 0 (fun _ => none) [] [] 0 (by omega) T.1 (fun l sx sm c e => by cases e) (fun _ _ => rfl) rfl (by decide) (fun _ => rfl) (by decide)
  unfold OpI
  refine Cl_mono (show 44 ≤ 100 by decide) ?_
  rw [e_X_body, b_X_body_0]
  simp only [xk_100 i2, xr_100_6 i2, true_and]
  refine c_Pa_readBody i1 i2 tx lx T runX _ ?_
  intro h3 fr3 ek r3 bx3
  have x3 := r3.x
  have c0 : nI F' = 0 ↔ F' = 0 := nI0 (by omega)
  simp only [Option.toList, List.cons_append, List.nil_append, b_X_body_3, xk_100 x3, xr_100_6 x3, xk_108 x3, xr_108_0 x3, c_Tp_clear x3, b_X_body_8, c0, true_and]
  have frX : Fr plS nov h (sI h3 109 1 0) := fr3.sI (by unfold plS; omega)
  have eX : ∀ a, 122 ≤ a → hI (sI h3 109 1 0) a = hI h a := fun a ha => by rw [rI_sI (by omega), ek a ha]
  have tn : hI (sI h3 109 1 0) 109 1 = 0 := by rw [hI_same, if_pos rfl]
  have bx : F' = 0 → BX (sI h3 109 1 0) D' N' := by
    intro z
    obtain ⟨u1, u2⟩ := bx3 z
    refine ⟨by rw [rI_sI (by decide)]; exact u1, fun l hl => ?_⟩
    rw [rI_sI (by decide), rI_sI (by decide)]
    exact u2 l hl
  have st : STP (hI (sI h3 109 1 0) 121) 0 cx' := by rw [rI_sI (by decide)]; exact r3.2.2.2.2.2.2.2.2.2.2.1
  have e17 : hI (sI h3 109 1 0) 117 1 = nI cx'.length := by rw [rI_sI (by decide)]; exact r3.2.2.2.2.2.2.2.2.2.1
  clear bx3
  generalize sI h3 109 1 0 = h4 at frX eX tn bx st e17
  have x4 := i2.fr frX
  have m4 := i3.fr frX
  have s4 := i1.fr frX (fun a z => by unfold plS at z; omega)
  refine ⟨fun z => ?_, fun z => ?_⟩
  · rw [b_X_body_17]
    refine ⟨rtI _, _, rfl, ?_⟩
    refine Cl_mono (show 37 ≤ 100 by decide) ?_
    refine m_body (F' := F') (D' := D') (cx' := cx') m4 tx.1 (by rw [eX 342 (by decide)]; exact e2) (fun j hj => by rw [eX 343 (by decide)]; exact g2 j hj) tx.2.2.2 lx T hF (fun y => absurd y z) runM _ ?_
    intro h6 fr6 s6 t6 w1 w2 w3 w4 _
    refine ⟨rfl, ?_⟩
    obtain ⟨w4, w5⟩ := w4 z
    have e6 : ∀ a, ¬ txm a → hI h6 a = hI h4 a := fun a y => fr6.I y
    refine ii.gen (s4.fr fr6 (fun a y => by unfold txm at y; omega)) (x4.fr fr6) (m4.fr fr6) (by rw [fr6.K, fr6.N, frX.K, frX.N]; exact i4) (fun a y => by
      rw [e6 a (by unfold txm; omega)]
      by_cases y1 : a < 122
      · rw [frX.I (by unfold plS; omega)]
      · rw [eX a (by omega)]) (fun a y => by rw [fr6.J (by unfold onl; omega), frX.J (fun y => y)]) (fun j hj => by rw [s6 j hj, eX 342 (by decide)]) (ITp.nil (by rw [e6 109 (by unfold txm; omega)]; exact tn) t6) ?_ ?_ ?_
    · obtain ⟨bd, b1, b2, b3⟩ := i9
      refine ⟨bd, (b1.fr frX (fun a y => by unfold plS at y; omega)).fr fr6 (fun a y => by unfold txm at y; omega), (b2.cg (h' := h4) (fun j hj => by rw [eX 357 (by decide), eX 358 (by decide)]; exact ⟨rfl, rfl⟩) (eX 359 (by decide))).cg (fun j hj => w4 j hj) w5, by rw [e6 123 (by unfold txm; omega), eX 123 (by decide)]; exact b3⟩
    · intro r hr
      obtain ⟨Nr, cr, r1, r2⟩ := i10 r hr
      refine ⟨Nr, cr, (r1.fr frX (fun a y => by unfold plS at y; omega)).fr fr6 (fun a y => by unfold txm at y; omega), (r2.cg (h' := h4) (fun j h1 h2 => by rw [eX 357 (by decide), eX 358 (by decide)]; exact ⟨rfl, rfl⟩) (by rw [eX 361 (by decide)]) (fun k hk => by rw [eX 362 (by decide)])).cg (fun j h1 h2 => w1 j (by omega) (by omega)) (w2 r hr) (fun k hk => w3 _ (by omega))⟩
    · rw [fr6.z, fr6.u, frX.z, frX.u]
      exact ⟨i15.1, by omega, by omega⟩
  · have z := Classical.not_not.mp z
    obtain ⟨o1, o2, o3, o4, o5⟩ := o z
    have bx := bx z
    rw [b_X_body_10]
    simp only [xk_100 x4, xr_100_6 x4, xr_100_7 x4, xk_108 x4, xr_108_2 x4, xk_122 x4, xr_122_0 x4, true_and]
    have hz4 : 378 ≤ hz h4 := by rw [frX.z]; exact i15.1
    refine c_Pg_become (d := 40) 123 cx'.length h4 x4 (prg_123 x4) (by decide) (by decide) hz4 o4 e17 _ ?_
    intro h5 bec
    simp only [Option.toList, List.cons_append, List.nil_append, b_X_body_17]
    refine ⟨rtI _, _, rfl, ?_⟩
    have pr : PRs 123 := Or.inl rfl
    have m5 := m4.bec bec pr hz4
    have x5 := x4.bec bec pr hz4
    have s5 := s4.bec bec pr hz4
    obtain ⟨c1, c2, c3, c4, c5, c6, c7, c8, c9, c10, c11⟩ := bec
    have bec : BEC h4 h5 123 cx'.length := ⟨c1, c2, c3, c4, c5, c6, c7, c8, c9, c10, c11⟩
    have e5 : ∀ a, 126 ≤ a → a < 378 → hI h5 a = hI h a := fun a h1 h2 => by rw [c6 a (by omega) (by omega) (by omega) (by omega), eX a (by omega)]
    refine Cl_mono (show 37 ≤ 100 by decide) ?_
    refine m_body (F' := F') (D' := D') (cx' := cx') m5 tx.1 (by rw [e5 342 (by decide) (by decide)]; exact e2) (fun j hj => by rw [e5 343 (by decide) (by decide)]; exact g2 j hj) tx.2.2.2 lx T hF (fun _ => ⟨o1, o2, o5⟩) runM _ ?_
    intro h6 fr6 s6 t6 w1 w2 w3 _ w5
    refine ⟨rfl, ?_⟩
    have e6 : ∀ a, ¬ txm a → hI h6 a = hI h5 a := fun a y => fr6.I y
    refine ii.gen (s5.fr fr6 (fun a y => by unfold txm at y; omega)) (x5.fr fr6) (m5.fr fr6) (by rw [fr6.K, fr6.N, (c1 377 (by omega)).1, (c1 377 (by omega)).2, frX.K, frX.N]; exact i4) ?_ (fun a y => by rw [fr6.J (by unfold onl; omega), c7 a (by omega), frX.J (fun y => y)]) (fun j hj => by rw [s6 j hj, e5 342 (by decide) (by decide)]) (ITp.nil (by rw [e6 109 (by unfold txm; omega), c6 109 (by omega) (by decide) (by decide) (by decide)]; exact tn) t6) ?_ ?_ ?_
    · intro a y
      rw [e6 a (by unfold txm; omega)]
      by_cases y1 : a < 122
      · rw [c6 a (by omega) (by omega) (by omega) (by omega), frX.I (by unfold plS; omega)]
      · rw [c6 a (by omega) (by omega) (by omega) (by omega), eX a (by omega)]
    · refine ⟨bdO D', ⟨(XPg.of x4 (prg_123 x4) bec pr hz4 o4).fr fr6, fun l hl => ⟨?_, ?_⟩⟩, w5 z, ?_⟩
      · exact (XLn.of bec o1 bx st l (by omega)).fr (XPg.of x4 (prg_123 x4) bec pr hz4 o4) fr6 (fun a y => by unfold txm at y; omega)
      · unfold bdO
        cases e : D' l with
        | none => exact True.intro
        | some v => obtain ⟨sx, sm, cc⟩ := v; exact (o1 l sx sm cc e).2.2
      · rw [e6 123 (by unfold txm; omega), c9, bx.1, o3]
        congr 1
        have et : ∀ l, tl D' l = tldN (bdO D') l := fun l => by
          unfold tl tldN bdO
          cases D' l <;> rfl
        rw [et, et, et]
    · intro r hr
      obtain ⟨Nr, cr, r1, r2⟩ := i10 r hr
      have ps : PRs (170 + 5 * r) := by unfold PRs; omega
      have r4 := r1.fr frX (fun a y => by unfold plS at y; omega)
      obtain ⟨q1, q2, q3, q4⟩ := r4
      have r5 : XRd h5 (170 + 5 * r) Nr cr := ⟨q1.bec bec pr ps (by omega) hz4, q2, by rw [c6 _ (by omega) (by omega) (by omega) (by omega)]; exact q3, fun k hk => ⟨(q4 k hk).1.bec q1 bec pr ps (by omega) hz4, (q4 k hk).2⟩⟩
      refine ⟨Nr, cr, r5.fr fr6 (fun a y => by unfold txm at y; omega), (r2.cg (h' := h5) (fun j h1 h2 => by rw [e5 357 (by decide) (by decide), e5 358 (by decide) (by decide)]; exact ⟨rfl, rfl⟩) (by rw [e5 361 (by decide) (by decide)]) (fun k hk => by rw [e5 362 (by decide) (by decide)])).cg (fun j h1 h2 => w1 j (by omega) (by omega)) (w2 r hr) (fun k hk => w3 _ (by omega))⟩
    · rw [fr6.z, fr6.u, c3.1, c3.2, frX.z, frX.u]
      exact ⟨by omega, by omega, by omega⟩
end OPB
