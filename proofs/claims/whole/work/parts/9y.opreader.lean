--deps: 9x.reader
section OPR
variable {L : Nat} {xs : Nat → Int32} {c : Nat} {h : AH}
/-- the class reads a reader -/
theorem c_Pa_readReader {f : Nat → Nat} {n : Nat} {ts : List (Nat × Nat)} (i1 : SLY L xs h) (i2 : XLY h) (tx : TPX h f n) (lx : LX f n 0 ts) (T : TOKS ts) {i' F' N' : Nat} {D' : LD} {cx' : List Nat} (run : ∀ (L : Nat) (xs : Nat → Int32) (h : AH) (R : Option Value → AH → Prop), RX L xs ts 1 0 0 [] h → BX h (fun _ => none) 0 → (∀ h', Fr xls nov h h' → RX L xs ts 1 i' F' cx' h' → (F' = 0 → BX h' D' N') → R (some (.int (nI F'))) h') → Wp 42 P_Pa_readReader 8 [.ref 108, .int (nI 0)] [] h R) (Q : Option Value → AH → Prop) (fin : ∀ h3, Fr plS nov h h3 → (∀ a, 122 ≤ a → hI h3 a = hI h a) → RX L xs ts 1 i' F' cx' h3 → (F' = 0 → BX h3 D' N') → Q (some (.int (nI F'))) h3) : Cl 43 q_Pa_readReader [.ref 108] h Q := by
  rw [e_Pa_readReader, b_Pa_readReader_0]
  simp only [xk_108 i2, xr_108_0 i2, true_and]
  refine c_Tp_cut (d := 33) f n h i1 i2 tx ts lx _ ?_
  intro h1 fr1 e1 tk1
  have x1 := i2.fr fr1
  have s1 := i1.fr fr1 (fun a z => by unfold cts at z; omega)
  simp only [Option.toList, List.cons_append, List.nil_append, b_Pa_readReader_3]
  refine c_Pa_begin (d := 39) T s1 x1 tk1 (by decide) _ ?_
  intro h2 fr2 b1 b2 b3 r2
  simp only [Option.toList, List.cons_append, List.nil_append, b_Pa_readReader_6]
  refine run L xs h2 _ r2 ⟨b2, fun l hl => b3 l hl⟩ ?_
  intro h3 fr3 r3 bx3
  refine ⟨rtI _, fin h3 (((fr1.mo (S' := plS) (T' := nov) (fun a z => by unfold cts at z; unfold plS; omega) (fun a z => z)).tr (fr2.mo (fun a z => by unfold bgs at z; unfold plS; omega) (fun a z => z))).tr (fr3.mo (fun a z => by unfold xls xps at z; unfold plS; omega) (fun a z => z))) ?_ r3 bx3⟩
  intro a ha
  rw [fr3.I (by unfold xls xps; omega), fr2.I (by unfold bgs; omega), fr1.I (by unfold cts; omega)]
def cO (D : LD) : Nat → List Nat := fun k => match D k with
  | none => []
  | some v => v.2.2
def svs : Nat → Prop := fun a => a = 362
theorem w_M_rdk {d : Nat} (r : Nat) (hr : r < 4) (h0 : AH) (m0 : MLY h0) (Q : Option Value → AH → Prop) (fin : ∀ h' v, Fr svs nov h0 h' → (∀ j, j < 6 → hI h' 362 (6 * r + j) = hI h0 362 (24 + j)) → (∀ j, j < 6 * r ∨ 6 * r + 6 ≤ j → hI h' 362 j = hI h0 362 j) → Wp d P_M_reader 123 [.ref 342, .int (nI r), .int v] [] h' Q) : ∀ (m i : Nat) (h : AH), i + m = 6 → Fr svs nov h0 h → (∀ j, j < i → hI h 362 (6 * r + j) = hI h0 362 (24 + j)) → (∀ j, j < 6 * r ∨ 6 * r + 6 ≤ j → hI h 362 j = hI h0 362 j) → Wp d P_M_reader 104 [.ref 342, .int (nI r), .int (nI i)] [] h Q := by
  intro m
  induction m with
  | zero =>
    intro i h e fr g g2
    have : i = 6 := by omega
    subst this
    rw [b_M_reader_104]
    simp only [show (6 : Int32) ≤ nI 6 by decide, mem20, mem21, mem22, al20, al21, al33, al34, al36, al37, al38, aa33, aa34, aa36, aa37, aa38, true_and, and_true, Int32.reduceOfNat, forall_const, true_implies, implies_true, false_implies, not_true_eq_false, not_false_eq_true]
    exact fin h _ fr g g2
  | succ m ih =>
    intro i h e fr g g2
    have mm := m0.fr fr
    have z : ¬ (6 : Int32) ≤ nI i := mt (nle (a := 6) (by decide) (by omega)).mp (by omega)
    have e24 : (24 : Int32) + nI i = nI (24 + i) := nadd 24 i
    have e6 : (6 : Int32) * nI r + nI i = nI (6 * r + i) := by rw [show (6 : Int32) = nI 6 from rfl, nmul, nadd]
    have i1 : ixo (nI (24 + i)) 30 = true := nix (by omega) (by decide)
    have i2 : ixo (nI (6 * r + i)) 30 = true := nix (by omega) (by decide)
    rw [b_M_reader_104]
    simp only [z, b_M_reader_107, mo mm, mr_27 mm, mk_362 mm, mn_362 mm, e24, e6, i1, i2, cN (show 24 + i < 2147483648 by omega), cN (show 6 * r + i < 2147483648 by omega), nI_1, mem20, mem21, mem22, al20, al21, al33, al34, al36, al37, al38, aa33, aa34, aa36, aa37, aa38, true_and, and_true, Int32.reduceOfNat, forall_const, true_implies, implies_true, false_implies, not_true_eq_false, not_false_eq_true]
    refine ih (i + 1) _ (by omega) (fr.sI rfl) ?_ ?_
    · intro j hj
      rw [hI_same]
      by_cases q : j = i
      · rw [if_pos (by omega), q]; exact g2 _ (by omega)
      · rw [if_neg (by omega)]; exact g j (by omega)
    · intro j hj
      rw [hI_same, if_neg (by omega)]
      exact g2 j hj
theorem m_reader {f : Nat → Nat} {n : Nat} {ts : List (Nat × Nat)} (k : Nat) (hk : k < 4) (m0 : MLY h) (hn : n ≤ 1000) (e2 : hI h 342 2 = nI n) (g2 : ∀ j, j < n → hI h 343 j = nI (f j)) (g3 : ∀ j, j < n → f j < 256) (lx : LX f n 0 ts) (T : TOKS ts) {i' F' N' : Nat} {D' : LD} {cm' cx' : List Nat} (hF : F' < 20000) (ok : F' = 0 → LOk 20 D' cx' cm' ∧ (∀ l, (D' l).isSome = true ↔ l < N') ∧ N' ≤ 6 ∧ cm'.length ≤ 1000) (run : ∀ (h : AH) (x1 : Int32) (R : Option Value → AH → Prop), RM ts 1 pr 0 0 [] h → BR h (fun _ => none) 0 → (∀ h', KB h h' → RM ts 1 pr i' F' cm' h' → (F' = 0 → BR h' D' N') → Wp 36 P_M_reader 86 [.ref 342, .int x1, .null] [] h' R) → Wp 36 P_M_reader 26 [.ref 342, .int x1, .null] [] h R) (Q : Option Value → AH → Prop) (fin : ∀ h6, Fr txm (onl 346) h h6 → (∀ j, j = 15 ∨ j = 30 → hI h6 342 j = hI h 342 j) → hI h6 342 2 = 0 → (∀ j, (j < 1100 * (1 + k) ∨ 1100 * (2 + k) ≤ j) → j < 5500 → hI h6 357 j = hI h 357 j ∧ hI h6 358 j = hI h 358 j) → (∀ j, j < 4 → j ≠ k → hI h6 361 j = hI h 361 j) → (∀ j, j < 24 → (j < 6 * k ∨ 6 * k + 6 ≤ j) → hI h6 362 j = hI h 362 j) → hI h6 359 = hI h 359 → (F' ≠ 0 → (∀ j, j < 5500 → hI h6 357 j = hI h 357 j ∧ hI h6 358 j = hI h 358 j) ∧ hI h6 361 k = hI h 361 k ∧ ∀ j, j < 24 → hI h6 362 j = hI h 362 j) → (F' = 0 → MRd h6 k N' (cO D')) → Q (some (.int (nI F'))) h6) : Cl 37 q_M_reader [.ref 342, .int (nI k)] h Q := by
  have m0' : MLY (sI h 342 0 0) := m0.fr (S := onl 342) (T := nov) (Fs1 Fr.rfl')
  have z3 : 0 ≤ nI k ∧ nI k ≤ 3 := ⟨Int32.not_lt.mp (n_nn (by omega)), (nle (b := 3) (by omega) (by decide)).mpr (by omega)⟩
  have i4 : ixo 4 5 = true := by decide
  have ik : ixo (nI k) 5 = true := nix (by omega) (by decide)
  rw [e_M_reader, b_M_reader_0]
  simp only [mo m0, c_M_within, Option.toList, List.cons_append, List.nil_append, b_M_reader_7, bw0, z3, and_self, b_M_reader_13, mem20, mem21, mem22, al20, al21, al33, al34, al36, al37, al38, aa33, aa34, aa36, aa37, aa38, true_and, and_true, Int32.reduceOfNat, forall_const, true_implies, implies_true, false_implies, not_true_eq_false, not_false_eq_true]
  refine c_M_cutAll (d := 33) f n _ m0' hn (by rw [hI_same, if_neg (by decide)]; exact e2) (fun j hj => by rw [rI_sI (by decide)]; exact g2 j hj) g3 ts lx _ ?_
  intro h1 fr1 a1 t1 p1 f1 tk1
  have m1 := m0'.fr fr1
  simp only [Option.toList, List.cons_append, List.nil_append, b_M_reader_15, mo m1, hK_sI, hR_sI, hN_sI, i01_1, mr_26 m1, mk_361 m1, mn_361 m1, i4, tn4, true_and]
  generalize hh2 : sI (sI h1 342 20 0) 342 21 1 = h2
  have fr2 : Fr (onl 342) nov h1 h2 := by rw [← hh2]; exact Fs1 (Fs1 Fr.rfl')
  have m2 := m1.fr fr2
  generalize hh3 : sI h2 361 4 0 = h3
  have fr3 : Fr (onl 361) nov h2 h3 := by rw [← hh3]; exact Fs1 Fr.rfl'
  have e42 : ∀ j, j ≠ 20 → j ≠ 21 → hI h3 342 j = hI h1 342 j := by
    intro j h20 h21
    rw [fr3.I (by unfold onl; decide), ← hh2, hI_same, if_neg h21, hI_same, if_neg h20]
  have r3 : RM ts 1 pr 0 0 [] h3 := by
    refine ⟨m2.fr fr3, ?_, by rw [e42 7 (by decide) (by decide)]; exact p1, by rw [e42 8 (by decide) (by decide)]; exact f1, ?_, ?_, fun j hj => by simp at hj, T.1, by decide, by decide⟩
    · intro j hj
      rw [fr3.I (by unfold onl; decide), fr3.I (a := 345) (by unfold onl; decide), fr3.J (fun z => z), fr2.I (by unfold onl; decide), fr2.I (a := 345) (by unfold onl; decide), fr2.J (fun z => z)]
      exact tk1 j hj
    · rw [fr3.I (by unfold onl; decide), ← hh2, hI_same, if_pos rfl]
    · rw [fr3.I (by unfold onl; decide), ← hh2, hI_same, if_neg (by decide), hI_same, if_pos rfl]; rfl
  have b3 : BR h3 (fun _ => none) 0 := ⟨by rw [← hh3, hI_same, if_pos rfl]; rfl, fun k hk => by omega⟩
  have fr03 : Fr txm (onl 346) h h3 := ((((Fr.rfl'.sI (a := 342) (j := 0) (v := 0) (Or.inl rfl)).tr (fr1.mo (S' := txm) (fun a z => by unfold mts at z; unfold txm; omega) (fun a z => z))).tr (fr2.mo (S' := txm) (T' := onl 346) (fun a z => Or.inl z) (fun a z => z.elim))).tr (fr3.mo (S' := txm) (T' := onl 346) (fun a z => by unfold onl at z; unfold txm; omega) (fun a z => z.elim)))
  have eo : ∀ a, a ≠ 342 → a ≠ 344 → a ≠ 345 → a ≠ 361 → hI h3 a = hI h a := by
    intro a h2' h4 h5 h6
    rw [fr3.I (fun z => h6 z), fr2.I (fun z => h2' z), fr1.I (by unfold mts; omega), rI_sI h2']
  have e61 : ∀ j, j ≠ 4 → hI h3 361 j = hI h 361 j := by
    intro j hj
    rw [← hh3, hI_same, if_neg hj, fr2.I (by unfold onl; decide), fr1.I (by unfold mts; omega), rI_sI (by decide)]
  have s3 : ∀ j, j = 15 ∨ j = 30 → hI h3 342 j = hI h 342 j := by
    intro j hj
    rw [e42 j (by omega) (by omega), a1 j (by omega) (by omega) (by omega) (by omega), hI_same, if_neg (by omega)]
  have t3 : hI h3 342 2 = 0 := by rw [e42 2 (by decide) (by decide)]; exact t1
  refine run h3 (nI k) _ r3 b3 ?_
  intro h4 k4 r4 b4
  have m4 := r4.m
  have fr04 := fr03.tr (k4.1.mo (S' := txm) (T' := onl 346) (fun a z => by unfold mbs mps at z; unfold txm; omega) (fun a z => z.elim))
  have c0 : nI F' = 0 ↔ F' = 0 := nI0 (by omega)
  have o357 : ∀ j, j < 5500 → hI h4 357 j = hI h 357 j ∧ hI h4 358 j = hI h 358 j := by
    intro j hj
    rw [(k4.2.2.1 j hj).1, (k4.2.2.1 j hj).2, eo 357 (by decide) (by decide) (by decide) (by decide), eo 358 (by decide) (by decide) (by decide) (by decide)]
    exact ⟨rfl, rfl⟩
  have o361 : ∀ j, j < 4 → hI h4 361 j = hI h 361 j := fun j hj => by rw [k4.2.2.2.1 j hj, e61 j (by omega)]
  have o362 : ∀ j, j < 24 → hI h4 362 j = hI h 362 j := fun j hj => by rw [k4.2.2.2.2 j hj, eo 362 (by decide) (by decide) (by decide) (by decide)]
  have o359 : hI h4 359 = hI h 359 := by rw [k4.1.I (by unfold mbs mps; omega), eo 359 (by decide) (by decide) (by decide) (by decide)]
  rw [b_M_reader_86]
  simp only [mo m4, r4.f, c0, true_and]
  refine ⟨fun z => ?_, fun z => ?_⟩
  · simp only [b_M_reader_123, mo m4, r4.f, true_and]
    refine ⟨rtI _, fin h4 fr04 ?_ ?_ (fun j h1 h2 => o357 j h2) (fun j h1 _ => o361 j h1) (fun j h1 _ => o362 j h1) o359 (fun _ => ⟨o357, o361 k hk, o362⟩) (fun y => absurd y z)⟩
    · intro j hj
      rw [k4.2.1 j (by omega) (by omega) (by omega), s3 j hj]
    · rw [k4.2.1 2 (by decide) (by decide) (by decide)]; exact t3
  · have z := Classical.not_not.mp z
    obtain ⟨o1, o2, o6, o3⟩ := ok z
    have b4 := b4 z
    have e20 : hI h4 342 20 = nI cm'.length := r4.2.2.2.2.2.1
    have e1k : (1 : Int32) + nI k = nI (1 + k) := nadd 1 k
    rw [b_M_reader_89, e1k]
    refine c_M_keeps (d := 35) (1 + k) cm'.length (by omega) o3 h4 m4 e20 _ ?_
    intro h5 fr5 g5
    have m5 := m4.fr fr5
    have e5 : ∀ a, a ≠ 357 → a ≠ 358 → hI h5 a = hI h4 a := fun a h1' h2' => fr5.I (by unfold kcs; omega)
    simp only [Option.toList, List.cons_append, List.nil_append, b_M_reader_94, mo m5, mr_26 m5, mk_361 m5, mn_361 m5, i4, ik, tn4, cN (show k < 2147483648 by omega), e5 361 (by decide) (by decide), b4.1, mem20, mem21, mem22, al20, al21, al33, al34, al36, al37, al38, aa33, aa34, aa36, aa37, aa38, true_and, and_true, Int32.reduceOfNat, forall_const, true_implies, implies_true, false_implies, not_true_eq_false, not_false_eq_true]
    have m51 : MLY (sI h5 361 k (nI N')) := m5.fr (S := onl 361) (T := nov) (Fs1 Fr.rfl')
    refine w_M_rdk (d := 36) k hk _ m51 _ ?_ 6 0 _ rfl Fr.rfl' (fun j hj => by omega) (fun j hj => rfl)
    intro h6 v6 fr6 u1 u2
    have e6 : ∀ a, a ≠ 361 → a ≠ 362 → hI h6 a = hI h5 a := fun a y1 y2 => by rw [fr6.I (fun y => y2 y), rI_sI y1]
    have f8 : hI h6 342 8 = nI F' := by rw [e6 342 (by decide) (by decide), e5 342 (by decide) (by decide)]; exact r4.f
    have m6 : MLY h6 := m51.fr fr6
    have e61' : ∀ j, hI h6 361 j = if j = k then nI N' else hI h4 361 j := fun j => by rw [fr6.I (by unfold svs; decide), hI_same, e5 361 (by decide) (by decide)]
    have e62' : ∀ j, hI (sI h5 361 k (nI N')) 362 j = hI h4 362 j := fun j => by rw [rI_sI (by decide), e5 362 (by decide) (by decide)]
    have fr06 := ((fr04.tr (fr5.mo (S' := txm) (T' := onl 346) (fun a z => by unfold kcs at z; unfold txm; omega) (fun a z => z.elim))).sI (a := 361) (j := k) (v := nI N') (by unfold txm; omega)).tr (fr6.mo (S' := txm) (T' := onl 346) (fun a z => by unfold svs at z; unfold txm; omega) (fun a z => z.elim))
    simp only [b_M_reader_123, mo m6, f8, true_and]
    refine ⟨rtI _, fin h6 fr06 ?_ ?_ ?_ ?_ ?_ ?_ (fun y => absurd z y) ?_⟩
    · intro j hj
      rw [e6 342 (by decide) (by decide), e5 342 (by decide) (by decide), k4.2.1 j (by omega) (by omega) (by omega), s3 j hj]
    · rw [e6 342 (by decide) (by decide), e5 342 (by decide) (by decide), k4.2.1 2 (by decide) (by decide) (by decide)]; exact t3
    · intro j h1' h2'
      rw [e6 357 (by decide) (by decide), e6 358 (by decide) (by decide), (g5 357 (Or.inl rfl)).2 j (by omega), (g5 358 (Or.inr rfl)).2 j (by omega)]
      exact o357 j h2'
    · intro j h1' h2'
      rw [e61' j, if_neg h2']; exact o361 j h1'
    · intro j h1' h2'
      rw [u2 j h2', e62']; exact o362 j h1'
    · rw [e6 359 (by decide) (by decide), e5 359 (by decide) (by decide)]; exact o359
    · intro _
      refine ⟨o6, by rw [e61' k, if_pos rfl], fun l hl => ?_⟩
      have sl := (o2 l).mpr hl
      cases e : D' l with
      | none => rw [e] at sl; cases sl
      | some v =>
        obtain ⟨sx, sm, cc⟩ := v
        obtain ⟨q1, q2, q3⟩ := o1 l sx sm cc e
        obtain ⟨q4, q5, q6⟩ := seg_at q2
        have ec : cO D' l = cc := by unfold cO; rw [e]
        rw [ec]
        refine ⟨q3, sm, ?_, by omega, ?_⟩
        · rw [u1 l (by omega), e62']
          exact b4.2 l hl sx sm cc e
        · exact RTP_keep (f := hI h6 357) (g := hI h6 358) (f0 := hI h4 357) (g0 := hI h4 358) (π := pr) (b := 1100 * (1 + k)) (nf := 20) (by decide) q3 q2 r4.2.2.2.2.2.2.1 (fun j hj => by
            rw [e6 357 (by decide) (by decide), e6 358 (by decide) (by decide)]
            exact ⟨(g5 357 (Or.inl rfl)).1 j hj, (g5 358 (Or.inr rfl)).1 j hj⟩)
theorem op_reader (i : Inv L xs c h) (p : Int32) : OpI L xs c q_X_reader [.ref 100, .int p] q_M_reader [.ref 342, .int p] h := by
  have ii := i
  obtain ⟨i1, i2, i3, i4, i5, i6, i7, i8, i9, i10, i11, i12, i13, i14, i15⟩ := i
  unfold OpI
  by_cases q : 0 ≤ p ∧ p ≤ 3
  · obtain ⟨n1, n2⟩ := n_of (M := 3) (n := 3) (by decide) q
    obtain ⟨k, hk, rfl⟩ : ∃ k, k ≤ 3 ∧ p = nI k := ⟨_, n1, n2⟩
    have z1 := n_nn (n := k) (by omega)
    have z2 : nI k < 4 := (nlt (b := 4) (by omega) (by decide)).mpr (by omega)
    obtain ⟨f, n, ts, tx, e2, g2, lx, T⟩ := i8.toks
    obtain ⟨i', F', D', cx', cm', N', o, hF, runX, runM⟩ := reader_all T ts.length 0 (fun _ => none) [] [] 0 (by omega) T.1 (fun l sx sm c e => by cases e) (fun l => ⟨fun z => (by cases z), fun z => by omega⟩) (by decide) (by decide) (fun _ => rfl) (by decide)
    refine Cl_mono (show 44 ≤ 100 by decide) ?_
    rw [e_X_reader, b_X_reader_0]
    simp only [z1, b_X_reader_2, xk_100 i2, xr_100_2 i2, xk_103 i2, xn_103 i2, z2, b_X_reader_13, xr_100_6 i2, mem20, mem21, mem22, al20, al21, al33, al34, al36, al37, al38, aa33, aa34, aa36, aa37, aa38, true_and, and_true, Int32.reduceOfNat, forall_const, true_implies, implies_true, false_implies, not_true_eq_false, not_false_eq_true]
    refine c_Pa_readReader i1 i2 tx lx T runX _ ?_
    intro h3 fr3 ek r3 bx3
    have x3 := r3.x
    have c0 : nI F' = 0 ↔ F' = 0 := nI0 (by omega)
    simp only [Option.toList, List.cons_append, List.nil_append, b_X_reader_16, xk_100 x3, xr_100_6 x3, xk_108 x3, xr_108_0 x3, c_Tp_clear x3, b_X_reader_21, c0, true_and]
    have frX : Fr plS nov h (sI h3 109 1 0) := fr3.sI (by unfold plS; omega)
    have eX : ∀ a, 122 ≤ a → hI (sI h3 109 1 0) a = hI h a := fun a ha => by rw [rI_sI (by omega), ek a ha]
    have tn : hI (sI h3 109 1 0) 109 1 = 0 := by rw [hI_same, if_pos rfl]
    have bx : F' = 0 → BX (sI h3 109 1 0) D' N' := by
      intro z
      obtain ⟨u1, u2⟩ := bx3 z
      refine ⟨by rw [rI_sI (by decide)]; exact u1, fun l hl => ?_⟩
      rw [rI_sI (by decide), rI_sI (by decide)]
      exact u2 l hl
    have st : STP (hI (sI h3 109 1 0) 121) 0 cx' := by rw [rI_sI (by decide)]; exact r3.2.2.2.2.2.2.2.2.2.2.1
    have e17 : hI (sI h3 109 1 0) 117 1 = nI cx'.length := by rw [rI_sI (by decide)]; exact r3.2.2.2.2.2.2.2.2.2.1
    clear bx3
    generalize sI h3 109 1 0 = h4 at frX eX tn bx st e17
    have x4 := i2.fr frX
    have m4 := i3.fr frX
    have s4 := i1.fr frX (fun a z => by unfold plS at z; omega)
    refine ⟨fun z => ?_, fun z => ?_⟩
    · rw [b_X_reader_31]
      refine ⟨rtI _, _, rfl, ?_⟩
      refine Cl_mono (show 37 ≤ 100 by decide) ?_
      refine m_reader (F' := F') (D' := D') (cx' := cx') (N' := N') k (by omega) m4 tx.1 (by rw [eX 342 (by decide)]; exact e2) (fun j hj => by rw [eX 343 (by decide)]; exact g2 j hj) tx.2.2.2 lx T hF (fun y => absurd y z) runM _ ?_
      intro h6 fr6 s6 t6 w1 w2 w3 w6 w4 _
      refine ⟨rfl, ?_⟩
      obtain ⟨w4, w5, w7⟩ := w4 z
      have e6 : ∀ a, ¬ txm a → hI h6 a = hI h4 a := fun a y => fr6.I y
      refine ii.gen (s4.fr fr6 (fun a y => by unfold txm at y; omega)) (x4.fr fr6) (m4.fr fr6) (by rw [fr6.K, fr6.N, frX.K, frX.N]; exact i4) (fun a y => by
        rw [e6 a (by unfold txm; omega)]
        by_cases y1 : a < 122
        · rw [frX.I (by unfold plS; omega)]
        · rw [eX a (by omega)]) (fun a y => by rw [fr6.J (by unfold onl; omega), frX.J (fun y => y)]) (fun j hj => by rw [s6 j hj, eX 342 (by decide)]) (ITp.nil (by rw [e6 109 (by unfold txm; omega)]; exact tn) t6) ?_ ?_ ?_
      · obtain ⟨bd, b1, b2, b3⟩ := i9
        refine ⟨bd, (b1.fr frX (fun a y => by unfold plS at y; omega)).fr fr6 (fun a y => by unfold txm at y; omega), (b2.cg (h' := h4) (fun j hj => by rw [eX 357 (by decide), eX 358 (by decide)]; exact ⟨rfl, rfl⟩) (eX 359 (by decide))).cg (fun j hj => w4 j (by omega)) w6, by rw [e6 123 (by unfold txm; omega), eX 123 (by decide)]; exact b3⟩
      · intro r hr
        obtain ⟨Nr, cr, r1, r2⟩ := i10 r hr
        refine ⟨Nr, cr, (r1.fr frX (fun a y => by unfold plS at y; omega)).fr fr6 (fun a y => by unfold txm at y; omega), (r2.cg (h' := h4) (fun j h1 h2 => by rw [eX 357 (by decide), eX 358 (by decide)]; exact ⟨rfl, rfl⟩) (by rw [eX 361 (by decide)]) (fun k hk => by rw [eX 362 (by decide)])).cg (fun j h1 h2 => w4 j (by omega)) ?_ (fun k hk => w7 _ (by omega))⟩
        by_cases y : r = k
        · rw [y]; exact w5
        · exact w2 r hr y
      · rw [fr6.z, fr6.u, frX.z, frX.u]
        exact ⟨i15.1, by omega, by omega⟩
    · have z := Classical.not_not.mp z
      obtain ⟨o1, o2, o3, o4, o5⟩ := o z
      have bx := bx z
      have ik : ixo (nI k) 4 = true := nix (by omega) (by decide)
      have fk := f_rd x4 (p := k) (by omega)
      rw [b_X_reader_23]
      simp only [xk_100 x4, xr_100_6 x4, xr_100_2 x4, xk_103 x4, xn_103 x4, xk_108 x4, xr_108_2 x4, ik, cN (show k < 2147483648 by omega), fk, mem20, mem21, mem22, al20, al21, al33, al34, al36, al37, al38, aa33, aa34, aa36, aa37, aa38, true_and, and_true, Int32.reduceOfNat, forall_const, true_implies, implies_true, false_implies, not_true_eq_false, not_false_eq_true]
      have hz4 : 378 ≤ hz h4 := by rw [frX.z]; exact i15.1
      refine c_Pg_become (d := 40) (170 + 5 * k) cx'.length h4 x4 (prg_rd x4 (by omega)) (by omega) (by omega) hz4 o4 e17 _ ?_
      intro h5 bec
      simp only [Option.toList, List.cons_append, List.nil_append, b_X_reader_31]
      refine ⟨rtI _, _, rfl, ?_⟩
      have pr : PRs (170 + 5 * k) := by unfold PRs; omega
      have m5 := m4.bec bec pr hz4
      have x5 := x4.bec bec pr hz4
      have s5 := s4.bec bec pr hz4
      obtain ⟨c1, c2, c3, c4, c5, c6, c7, c8, c9, c10, c11⟩ := bec
      have bec : BEC h4 h5 (170 + 5 * k) cx'.length := ⟨c1, c2, c3, c4, c5, c6, c7, c8, c9, c10, c11⟩
      have e5 : ∀ a, 122 ≤ a → a < 378 → a < 170 ∨ 190 ≤ a → hI h5 a = hI h a := fun a h1 h2 h3 => by rw [c6 a (by omega) (by omega) (by omega) (by omega), eX a (by omega)]
      refine Cl_mono (show 37 ≤ 100 by decide) ?_
      refine m_reader (F' := F') (D' := D') (cx' := cx') (N' := N') k (by omega) m5 tx.1 (by rw [e5 342 (by decide) (by decide) (by decide)]; exact e2) (fun j hj => by rw [e5 343 (by decide) (by decide) (by decide)]; exact g2 j hj) tx.2.2.2 lx T hF (fun _ => ⟨o1, o2, o3, o5⟩) runM _ ?_
      intro h6 fr6 s6 t6 w1 w2 w3 w6 _ w5
      refine ⟨rfl, ?_⟩
      have e6 : ∀ a, ¬ txm a → hI h6 a = hI h5 a := fun a y => fr6.I y
      refine ii.gen (s5.fr fr6 (fun a y => by unfold txm at y; omega)) (x5.fr fr6) (m5.fr fr6) (by rw [fr6.K, fr6.N, (c1 377 (by omega)).1, (c1 377 (by omega)).2, frX.K, frX.N]; exact i4) ?_ (fun a y => by rw [fr6.J (by unfold onl; omega), c7 a (by omega), frX.J (fun y => y)]) (fun j hj => by rw [s6 j hj, e5 342 (by decide) (by decide) (by decide)]) (ITp.nil (by rw [e6 109 (by unfold txm; omega), c6 109 (by omega) (by omega) (by omega) (by omega)]; exact tn) t6) ?_ ?_ ?_
      · intro a y
        rw [e6 a (by unfold txm; omega)]
        by_cases y1 : a < 122
        · rw [c6 a (by omega) (by omega) (by omega) (by omega), frX.I (by unfold plS; omega)]
        · rw [c6 a (by omega) (by omega) (by omega) (by omega), eX a (by omega)]
      · obtain ⟨bd, b1, b2, b3⟩ := i9
        obtain ⟨v1, v2⟩ := b1.fr frX (fun a y => by unfold plS at y; omega)
        have p3 : PRs 123 := Or.inl rfl
        have b5 : XBd h5 bd := ⟨v1.bec bec pr p3 (by omega) hz4, fun l hl => ⟨(v2 l hl).1.bec v1 bec pr p3 (by omega) hz4, (v2 l hl).2⟩⟩
        refine ⟨bd, b5.fr fr6 (fun a y => by unfold txm at y; omega), (b2.cg (h' := h5) (fun j hj => by rw [e5 357 (by decide) (by decide) (by decide), e5 358 (by decide) (by decide) (by decide)]; exact ⟨rfl, rfl⟩) (e5 359 (by decide) (by decide) (by decide))).cg (fun j hj => w1 j (by omega) (by omega)) w6, by rw [e6 123 (by unfold txm; omega), e5 123 (by decide) (by decide) (by decide)]; exact b3⟩
      · intro r hr
        by_cases y : r = k
        · subst y
          have xp := XPg.of x4 (prg_rd x4 (p := r) (by omega)) bec pr hz4 o4
          refine ⟨N', cO D', ⟨xp.fr fr6, o3, ?_, fun l hl => ?_⟩, w5 z⟩
          · rw [e6 _ (by unfold txm; omega), c9]; exact bx.1
          · have sl := (o2 l).mpr hl
            cases e : D' l with
            | none => rw [e] at sl; cases sl
            | some v =>
              obtain ⟨sx, sm, cc⟩ := v
              have ec : cO D' l = cc := by unfold cO; rw [e]
              rw [ec]
              refine ⟨?_, (o1 l sx sm cc e).2.2⟩
              have xl := (XLn.of bec o1 bx st l (by omega)).fr xp fr6 (fun a y => by unfold txm at y; omega)
              rw [e] at xl
              exact xl
        · obtain ⟨Nr, cr, r1, r2⟩ := i10 r hr
          have ps : PRs (170 + 5 * r) := by unfold PRs; omega
          have r4 := r1.fr frX (fun a y => by unfold plS at y; omega)
          obtain ⟨q1, q2, q3, q4⟩ := r4
          have r5 : XRd h5 (170 + 5 * r) Nr cr := ⟨q1.bec bec pr ps (by omega) hz4, q2, by rw [c6 _ (by omega) (by omega) (by omega) (by omega)]; exact q3, fun k hk => ⟨(q4 k hk).1.bec q1 bec pr ps (by omega) hz4, (q4 k hk).2⟩⟩
          refine ⟨Nr, cr, r5.fr fr6 (fun a y => by unfold txm at y; omega), (r2.cg (h' := h5) (fun j h1 h2 => by rw [e5 357 (by decide) (by decide) (by decide), e5 358 (by decide) (by decide) (by decide)]; exact ⟨rfl, rfl⟩) (by rw [e5 361 (by decide) (by decide) (by decide)]) (fun k hk => by rw [e5 362 (by decide) (by decide) (by decide)])).cg (fun j h1 h2 => w1 j (by omega) (by omega)) (w2 r hr y) (fun k hk => w3 _ (by omega) (by omega))⟩
      · rw [fr6.z, fr6.u, c3.1, c3.2, frX.z, frX.u]
        exact ⟨by omega, by omega, by omega⟩
  · rw [e_X_reader, b_X_reader_0]
    have no : rtk (some .int) (some (.int (-1))) = true ∧ ∃ v : Int32, some (Value.int (-1)) = some (Value.int v) ∧ Cl 100 q_M_reader [.ref 342, .int p] (sI h 109 1 0) (fun r' h2 => r' = some (.int v) ∧ Inv L xs (c + 1) h2) := by
      refine ⟨rtI _, -1, rfl, ?_⟩
      have m1 : MLY (sI h 109 1 0) := i3.fr (S := onl 109) (T := nov) (Fs1 Fr.rfl')
      rw [e_M_reader, b_M_reader_0]
      simp only [mo m1, c_M_within, Option.toList, List.cons_append, List.nil_append, b_M_reader_7, bw0, q, b_M_reader_8, hK_sI, rtI, mem20, mem21, mem22, al20, al21, al33, al34, al36, al37, al38, aa33, aa34, aa36, aa37, aa38, true_and, and_true, Int32.reduceOfNat, forall_const, true_implies, implies_true, false_implies, not_true_eq_false, not_false_eq_true]
      exact ii.clr
    have cl : Wp 99 P_X_reader 7 [.ref 100, .int p, .null] [] h (fun r h1 => rtk (some .int) r = true ∧ ∃ v : Int32, r = some (.int v) ∧ Cl 100 q_M_reader [.ref 342, .int p] h1 (fun r' h2 => r' = some (.int v) ∧ Inv L xs (c + 1) h2)) := by
      simp only [b_X_reader_7, xk_100 i2, xr_100_6 i2, xk_108 i2, xr_108_0 i2, c_Tp_clear i2, Option.toList, List.cons_append, List.nil_append, b_X_reader_11, true_and]
      exact no
    refine ⟨xk_100 i2, fun _ => cl, fun z => ?_⟩
    have z2 : ¬ p < 4 := fun w => q ⟨Int32.not_lt.mp z, by
      obtain ⟨k, hk, rfl⟩ := n_ex 4 (Int32.not_lt.mp z) w (by decide)
      exact (nle (b := 3) (by omega) (by decide)).mpr (by omega)⟩
    rw [b_X_reader_2]
    simp only [xk_100 i2, xr_100_2 i2, xk_103 i2, xn_103 i2, z2, mem20, mem21, mem22, al20, al21, al33, al34, al36, al37, al38, aa33, aa34, aa36, aa37, aa38, true_and, and_true, Int32.reduceOfNat, forall_const, true_implies, implies_true, false_implies, not_true_eq_false, not_false_eq_true]
    exact cl
end OPR
