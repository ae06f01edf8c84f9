--deps: 9p.opplan
section OPS
variable {L : Nat} {xs : Nat → Int32} {c : Nat} {h : AH}
/-- the tape as signs, its tokens -/
theorem ITp.toks (i : ITp h) : ∃ (f : Nat → Nat) (n : Nat) (ts : List (Nat × Nat)), TPX h f n ∧ hI h 342 2 = nI n ∧ (∀ j, j < n → hI h 343 j = nI (f j)) ∧ LX f n 0 ts ∧ TOKS ts := by
  obtain ⟨T, ok, e1, e2, g1, g2⟩ := i.tape
  obtain ⟨ts, lx⟩ := LX_ex (fun i => T.getD i 0) T.length (T.length + 1) 0 (by omega) (Nat.zero_le _)
  refine ⟨fun i => T.getD i 0, T.length, ts, ⟨ok.1, e1, g1, fun j hj => ?_⟩, e2, g2, lx, TOKS_all ok.1 lx⟩
  have : T.getD j 0 ∈ T := by
    rw [List.getD_eq_getElem?_getD, List.getElem?_eq_getElem hj]
    exact List.getElem_mem hj
  have := ok.2 _ this
  unfold tch at this
  show T.getD j 0 < 256
  omega
theorem c_Tp_clear {d : Nat} (x : XLY h) (Q : Option Value → AH → Prop) : Cl (d + 1) q_Tp_clear [.ref 109] h Q ↔ Q none (sI h 109 1 0) := by
  simp only [e_Tp_clear, b_Tp_clear_0, xk_109 x, rtV, true_and]
theorem c_Pa_readPlan {d : Nat} {f : Nat → Nat} {n : Nat} {ts : List (Nat × Nat)} (i1 : SLY L xs h) (i2 : XLY h) (tx : TPX h f n) (lx : LX f n 0 ts) (T : TOKS ts) (res : Nat × Nat × List QR) (hres : res = qrun ts 13 0 []) (Q : Option Value → AH → Prop) (fin : ∀ h3, Fr plS nov h h3 → (∀ a, 122 ≤ a → hI h3 a = hI h a) → RX L xs ts 0 res.1 res.2.1 [] h3 → (res.2.1 = 0 → PLX h3 113 res.2.2 ∧ QsOk res.2.2 ∧ 0 < res.2.2.length) → Q (some (.int (nI res.2.1))) h3) : Cl (d + 10) q_Pa_readPlan [.ref 108] h Q := by
  rw [e_Pa_readPlan, b_Pa_readPlan_0]
  simp only [xk_108 i2, xr_108_0 i2, true_and]
  refine c_Tp_cut (d := d) f n h i1 i2 tx ts lx _ ?_
  intro h1 fr1 e1 tk1
  have x1 := i2.fr fr1
  have s1 := i1.fr fr1 (fun a z => by unfold cts at z; omega)
  simp only [Option.toList, List.cons_append, List.nil_append, b_Pa_readPlan_3]
  refine c_Pa_begin (d := d + 6) T s1 x1 tk1 (by decide) _ ?_
  intro h2 fr2 b1 b2 b3 r2
  simp only [Option.toList, List.cons_append, List.nil_append, b_Pa_readPlan_6]
  have pl0 : PLX h2 113 [] := ⟨b1, fun j hj => by simp at hj⟩
  have ok0 : QsOk [] := ⟨by decide, fun y hy => by simp at hy⟩
  have w := x_planq (d := d + 6) T h2 (fun r h' => rtk (some .int) r = true ∧ Q r h') res ?_ 13 0 [] h2 rfl hres Fr.rfl' r2 pl0 ok0
  · refine w.mono ?_
    rintro r' h3 ⟨rfl, w⟩
    simp only [Option.toList, List.cons_append, List.nil_append, b_Pa_readPlan_8]
    exact w
  intro h3 fr3 r3 pl3
  refine ⟨rtI _, fin h3 (((fr1.mo (S' := plS) (T' := nov) (fun a z => by unfold cts at z; unfold plS; omega) (fun a z => z)).tr (fr2.mo (fun a z => by unfold bgs at z; unfold plS; omega) (fun a z => z))).tr (fr3.mo (fun a z => by unfold plc xps at z; unfold plS; omega) (fun a z => z))) ?_ r3 pl3⟩
  intro a ha
  rw [fr3.I (by unfold plc xps; omega), fr2.I (by unfold bgs; omega), fr1.I (by unfold cts; omega)]
/-- a number that is none: the tape is empty then -/
theorem Inv.clr (i : Inv L xs c h) : Inv L xs (c + 1) (sI (sI (sI h 109 1 0) 342 0 0) 342 2 0) := by
  refine i.tp (((Fr.rfl'.sI (Or.inl rfl)).sI (Or.inr (Or.inr (Or.inl rfl)))).sI (Or.inr (Or.inr (Or.inl rfl)))) ?_ (ITp.nil ?_ ?_)
  · intro j hj
    rw [hI_same, if_neg (by omega), hI_same, if_neg (by omega), rI_sI (by decide)]
  · rw [rI_sI (by decide), rI_sI (by decide), hI_same, if_pos rfl]
  · rw [hI_same, if_pos rfl]
theorem op_plan (i : Inv L xs c h) (p : Int32) : OpI L xs c q_X_plan [.ref 100, .int p] q_M_plan [.ref 342, .int p] h := by
  have ii := i
  obtain ⟨i1, i2, i3, i4, i5, i6, i7, i8, i9, i10, i11, i12, i13, i14, i15⟩ := i
  unfold OpI
  rw [e_X_plan, b_X_plan_0]
  by_cases q : 0 ≤ p ∧ p ≤ 3
  · obtain ⟨n1, n2⟩ := n_of (M := 3) (n := 3) (by decide) q
    obtain ⟨k, hk, rfl⟩ : ∃ k, k ≤ 3 ∧ p = nI k := ⟨_, n1, n2⟩
    have z1 := n_nn (n := k) (by omega)
    have z2 : nI k < 4 := (nlt (b := 4) (by omega) (by decide)).mpr (by omega)
    obtain ⟨f, n, ts, tx, e2, g2, lx, T⟩ := i8.toks
    have hl := T.2.1
    simp only [z1, b_X_plan_2, xk_100 i2, xr_100_1 i2, xk_102 i2, xn_102 i2, z2, b_X_plan_13, xr_100_6 i2, mem20, mem21, mem22, al20, al21, al33, al34, al36, al37, al38, aa33, aa34, aa36, aa37, aa38, true_and, and_true, Int32.reduceOfNat, forall_const, true_implies, implies_true, false_implies, not_true_eq_false, not_false_eq_true]
    generalize hres : qrun ts 13 0 [] = res
    refine c_Pa_readPlan (d := 89) i1 i2 tx lx T res hres.symm _ ?_
    intro h3 fr3 ek r3 pl3
    have x3 := r3.x
    simp only [Option.toList, List.cons_append, List.nil_append, b_X_plan_16, xk_100 x3, xr_100_6 x3, xk_108 x3, xr_108_0 x3, c_Tp_clear x3, b_X_plan_21, true_and]
    have FF := r3.Fl
    -- all that the class has changed so far
    have frX : Fr plS (onl 346) h (sI h3 109 1 0) := (fr3.mo (S' := plS) (T' := onl 346) (fun a z => z) (fun a z => z.elim)).sI (by unfold plS; omega)
    have em : ∀ a, 342 ≤ a → hI (sI h3 109 1 0) a = hI h a := by
      intro a ha
      rw [rI_sI (by omega), ek a (by omega)]
    have eX : ∀ a, 154 ≤ a → a < 342 → hI (sI h3 109 1 0) a = hI h a := by
      intro a ha ha2
      rw [rI_sI (by omega), ek a (by omega)]
    have ok0 : QsOk [] := ⟨by decide, fun y hy => by simp at hy⟩
    have tn : hI (sI h3 109 1 0) 109 1 = 0 := by rw [hI_same, if_pos rfl]
    have pl3' : res.2.1 = 0 → PLX (sI h3 109 1 0) 113 res.2.2 ∧ QsOk res.2.2 ∧ 0 < res.2.2.length := by
      intro z
      obtain ⟨u1, u2, u3⟩ := pl3 z
      refine ⟨⟨?_, ?_⟩, u2, u3⟩
      · rw [rI_sI (by decide)]; exact u1.1
      · intro j hj
        rw [rI_sI (by decide), rI_sI (by decide), rI_sI (by decide)]; exact u1.2 j hj
    clear pl3
    generalize sI h3 109 1 0 = h4 at frX em eX tn pl3'
    -- the reference, from any such heap on
    have ref : ∀ (h5 : AH) (R : Nat → AH → Prop), Fr plS (onl 346) h h5 → (∀ a, 342 ≤ a → hI h5 a = hI h a) →
        (∀ h6, Fr (fun a => a = 342 ∨ a = 344 ∨ a = 345 ∨ (353 ≤ a ∧ a ≤ 356)) (onl 346) h5 h6 → (∀ j, j = 15 ∨ j = 30 → hI h6 342 j = hI h 342 j) → hI h6 342 2 = 0 → (∀ j, j < 4 → hI h6 353 j = if j = k ∧ res.2.1 = 0 then nI res.2.2.length else hI h 353 j) → (∀ a, 354 ≤ a → a ≤ 356 → ∀ t, t < 4 → t ≠ k ∨ res.2.1 ≠ 0 → ∀ j, j < 12 → hI h6 a (12 * t + j) = hI h a (12 * t + j)) → (res.2.1 = 0 → PLM h6 k res.2.2) → R res.2.1 h6) →
        (res.2.1 = 0 → QsOk res.2.2) → Cl 100 q_M_plan [.ref 342, .int (nI k)] h5 (fun r' h6 => r' = some (.int (nI res.2.1)) ∧ R res.2.1 h6) := by
      intro h5 R fr5 em5 fin okk
      have m5 := i3.fr fr5
      have fr50 : Fr plS (onl 346) h (sI h5 342 0 0) := fr5.sI (by unfold plS; omega)
      have m50 := i3.fr fr50
      rw [e_M_plan, b_M_plan_0]
      simp only [mo m5, c_M_within, Option.toList, List.cons_append, List.nil_append, b_M_plan_7, bw0, q, and_self, b_M_plan_13, mem20, mem21, mem22, al20, al21, al33, al34, al36, al37, al38, aa33, aa34, aa36, aa37, aa38, true_and, and_true, Int32.reduceOfNat, forall_const, true_implies, implies_true, false_implies, not_true_eq_false, not_false_eq_true]
      refine c_M_cutAll (d := 96) f n _ m50 tx.1 (by rw [hI_same, if_neg (by decide), em5 342 (by decide)]; exact e2) (fun j hj => by rw [rI_sI (by decide), em5 343 (by decide)]; exact g2 j hj) tx.2.2.2 ts lx _ ?_
      intro h6 fr6 a6 t6 p6 f6 tk6
      have m6 := m50.fr fr6
      have i4' : ixo 4 5 = true := by decide
      simp only [Option.toList, List.cons_append, List.nil_append, b_M_plan_15, mo m6, mr_16 m6, mk_353 m6, mn_353 m6, i4', tn4, true_and]
      have frM : Fr (fun a => a = 342 ∨ a = 344 ∨ a = 345 ∨ (353 ≤ a ∧ a ≤ 356)) (onl 346) h5 (sI h6 353 4 0) := (((Fr.rfl'.sI (a := 342) (j := 0) (v := 0) (Or.inl rfl)).tr (fr6.mo (fun a z => by unfold mts at z; omega) (fun a z => z)))).sI (by omega)
      have eo : ∀ a, 353 ≤ a → a ≤ 356 → a ≠ 353 → hI (sI h6 353 4 0) a = hI h a := by
        intro a h1 h2 h3
        rw [rI_sI h3, fr6.I (by unfold mts; omega), rI_sI (by omega), em5 a (by omega)]
      have e53 : ∀ j, j ≠ 4 → hI (sI h6 353 4 0) 353 j = hI h 353 j := by
        intro j hj
        rw [hI_same, if_neg hj, fr6.I (by unfold mts; omega), rI_sI (by omega), em5 353 (by omega)]
      have rn : RN ts 0 0 (sI h6 353 4 0) := by
        refine ⟨m6.fr (S := onl 353) (T := nov) (Fs1 Fr.rfl'), ?_, ?_, ?_, T.1, by decide⟩
        · intro j hj
          rw [rI_sI (by decide), rI_sI (by decide)]; exact tk6 j hj
        · rw [rI_sI (by decide)]; exact p6
        · rw [rI_sI (by decide)]; exact f6
      have s0 : ∀ j, j ≠ 0 → j ≠ 2 → j ≠ 3 → j ≠ 7 → j ≠ 8 → hI (sI h6 353 4 0) 342 j = hI h 342 j := by
        intro j h0 h2 h3 h7 h8
        rw [rI_sI (by decide), a6 j h2 h3 h7 h8, hI_same, if_neg h0, em5 342 (by decide)]
      have s2 : hI (sI h6 353 4 0) 342 2 = 0 := by rw [rI_sI (by decide)]; exact t6
      have plm0 : PLM (sI h6 353 4 0) 4 [] := ⟨by rw [hI_same, if_pos rfl]; rfl, fun j hj => by simp at hj⟩
      generalize sI h6 353 4 0 = h7 at frM eo e53 rn s0 s2 plm0
      have w := m_planq (d := 96) T (nI k) h7 (fun r h' => rtk (some .int) r = true ∧ r = some (.int (nI res.2.1)) ∧ R res.2.1 h') res ?_ 13 0 [] h7 rfl hres.symm ⟨Fr.rfl', fun _ _ _ => rfl, fun _ _ => rfl, fun _ _ => ⟨rfl, rfl, rfl⟩⟩ rn plm0 ok0
      · refine w.mono ?_
        rintro r' h8 ⟨rfl, w⟩
        simp only [Option.toList, List.cons_append, List.nil_append]
        exact w
      intro h8 kq8 r8 pl8
      have m8 := r8.m
      have frM8 := frM.tr (kq8.1.mo (fun a z => by unfold mqs at z; omega) (fun a z => z.elim))
      have c0 : nI res.2.1 ≤ 0 ↔ res.2.1 = 0 := nI_le0 (by omega)
      simp only [b_M_plan_34, mo m8, r8.f, c0, true_and]
      refine ⟨fun z => ?_, fun z => ?_⟩
      · have ik : ixo (nI k) 5 = true := nix (by omega) (by decide)
        have plz := pl8 z
        simp only [b_M_plan_40, mo m8, mr_16 m8, mk_353 m8, mn_353 m8, i4', ik, tn4, cN (show k < 2147483648 by omega), plz.1, mem20, mem21, mem22, al20, al21, al33, al34, al36, al37, al38, aa33, aa34, aa36, aa37, aa38, true_and, and_true, Int32.reduceOfNat, forall_const, true_implies, implies_true, false_implies, not_true_eq_false, not_false_eq_true]
        have fr9 : Fr (fun a => a = 342 ∨ a = 344 ∨ a = 345 ∨ (353 ≤ a ∧ a ≤ 356)) (onl 346) h5 (sI h8 353 k (nI res.2.2.length)) := frM8.sI (by omega)
        refine w_M_planc (d := 99) k (by omega) _ (m8.fr (S := onl 353) (T := nov) (Fs1 Fr.rfl')) _ ?_ 12 0 _ rfl Fr.rfl' (fun a h1 h2 => ⟨fun j hj => by omega, fun j hj => rfl⟩)
        intro h10 fr10 g10
        refine ⟨rtI _, by rw [z]; rfl, fin h10 (fr9.tr (fr10.mo (fun a z => by unfold cps at z; omega) (fun a z => z.elim))) ?_ ?_ ?_ ?_ ?_⟩
        · intro j hj
          rw [fr10.I (by unfold cps; omega), rI_sI (by decide), kq8.2.1 j (by omega) (by omega), s0 j (by omega) (by omega) (by omega) (by omega) (by omega)]
        · rw [fr10.I (by unfold cps; omega), rI_sI (by decide), kq8.2.1 2 (by decide) (by decide)]; exact s2
        · intro j hj
          rw [fr10.I (by unfold cps; omega), hI_same]
          by_cases y : j = k
          · rw [if_pos y, if_pos ⟨y, z⟩]
          · rw [if_neg y, if_neg (fun w => y w.1), kq8.2.2.1 j hj, e53 j (by omega)]
        · intro a h1 h2 t ht hh j hj
          have tk : t ≠ k := by
            rcases hh with y | y
            · exact y
            · exact absurd z y
          rw [(g10 a h1 h2).2 _ (by omega), rI_sI (by omega)]
          obtain ⟨w1, w2, w3⟩ := kq8.2.2.2 (12 * t + j) (by omega)
          have ca : a = 354 ∨ a = 355 ∨ a = 356 := by omega
          rcases ca with rfl | rfl | rfl
          · rw [w1, eo 354 (by decide) (by decide) (by decide)]
          · rw [w2, eo 355 (by decide) (by decide) (by decide)]
          · rw [w3, eo 356 (by decide) (by decide) (by decide)]
        · intro _
          refine ⟨?_, fun j hj => ?_⟩
          · rw [fr10.I (by unfold cps; omega), hI_same, if_pos rfl]
          · have lq := (okk z).1
            rw [(g10 354 (by decide) (by decide)).1 j (by omega), (g10 355 (by decide) (by decide)).1 j (by omega), (g10 356 (by decide) (by decide)).1 j (by omega), rI_sI (by decide), rI_sI (by decide), rI_sI (by decide)]
            exact plz.2 j hj
      · simp only [b_M_plan_37, mo m8, r8.f, true_and]
        refine ⟨rtI _, fin h8 frM8 ?_ ?_ ?_ ?_ (fun y => absurd y z)⟩
        · intro j hj
          rw [kq8.2.1 j (by omega) (by omega), s0 j (by omega) (by omega) (by omega) (by omega) (by omega)]
        · rw [kq8.2.1 2 (by decide) (by decide)]; exact s2
        · intro j hj
          rw [if_neg (fun w => z w.2), kq8.2.2.1 j hj, e53 j (by omega)]
        · intro a h1 h2 t ht hh j hj
          obtain ⟨w1, w2, w3⟩ := kq8.2.2.2 (12 * t + j) (by omega)
          have ca : a = 354 ∨ a = 355 ∨ a = 356 := by omega
          rcases ca with rfl | rfl | rfl
          · rw [w1, eo 354 (by decide) (by decide) (by decide)]
          · rw [w2, eo 355 (by decide) (by decide) (by decide)]
          · rw [w3, eo 356 (by decide) (by decide) (by decide)]
    have c0 : nI res.2.1 = 0 ↔ res.2.1 = 0 := nI0 (by omega)
    simp only [c0]
    refine ⟨fun z => ?_, fun z => ?_⟩
    · rw [b_X_plan_31]
      refine ⟨rtI _, _, rfl, ?_⟩
      refine ref h4 (fun _ h6 => Inv L xs (c + 1) h6) frX em ?_ (fun y => absurd y z)
      intro h6 fr6 s6 t6 u6 v6 _
      have frT := frX.tr (fr6.mo (S' := plS) (fun a z => by unfold plS; omega) (fun a z => z))
      refine ii.pln frT s6 (ITp.nil ?_ t6) ?_
      · rw [fr6.I (by omega)]; exact tn
      · intro t ht
        obtain ⟨nn, ks, a1, a2, a3, a4⟩ := i7 t ht
        have ex : ∀ a, 154 ≤ a → a < 170 → hI h6 a = hI h a := fun a y1 y2 => by rw [fr6.I (by omega), eX a y1 (by omega)]
        refine ⟨nn, ks, a1, by rw [ex _ (by omega) (by omega)]; exact a2, by rw [u6 t ht, if_neg (fun w => z w.2)]; exact a3, fun j hj => ?_⟩
        rw [ex (155 + 4 * t) (by omega) (by omega), ex (156 + 4 * t) (by omega) (by omega), ex (157 + 4 * t) (by omega) (by omega), v6 354 (by decide) (by decide) t ht (Or.inr z) j (by omega), v6 355 (by decide) (by decide) t ht (Or.inr z) j (by omega), v6 356 (by decide) (by decide) t ht (Or.inr z) j (by omega)]
        exact a4 j hj
    · have z := Classical.not_not.mp z
      obtain ⟨u1, u2, u3⟩ := pl3' z
      have x4 := i2.fr frX
      have ik : ixo (nI k) 4 = true := nix (by omega) (by decide)
      have fk := f_pl x4 (p := k) (by omega)
      rw [b_X_plan_23]
      simp only [xk_100 x4, xr_100_1 x4, xr_100_6 x4, xk_102 x4, xn_102 x4, xk_108 x4, xr_108_1 x4, ik, cN (show k < 2147483648 by omega), fk, mem20, mem21, mem22, al20, al21, al33, al34, al36, al37, al38, aa33, aa34, aa36, aa37, aa38, true_and, and_true, Int32.reduceOfNat, forall_const, true_implies, implies_true, false_implies, not_true_eq_false, not_false_eq_true]
      refine c_Pl_become (154 + 4 * k) 113 res.2.2.length h4 (pln_pl x4 (by omega)) (pln_113 x4) (by omega) u1.1 u2.1 _ ?_
      intro h5 fr5 pc5
      simp only [Option.toList, List.cons_append, List.nil_append, b_X_plan_31]
      refine ⟨rtI _, _, rfl, ?_⟩
      have frX5 := frX.tr (fr5.mo (S' := plS) (T' := onl 346) (fun a z => by unfold pcs at z; unfold plS; omega) (fun a z => z.elim))
      refine ref h5 (fun _ h6 => Inv L xs (c + 1) h6) frX5 (fun a ha => by rw [fr5.I (by unfold pcs; omega), em a ha]) ?_ (fun _ => u2)
      intro h6 fr6 s6 t6 u6 v6 plm
      have frT := frX5.tr (fr6.mo (S' := plS) (fun a z => by unfold plS; omega) (fun a z => z))
      refine ii.pln frT s6 (ITp.nil ?_ t6) ?_
      · rw [fr6.I (by omega), fr5.I (by unfold pcs; omega)]; exact tn
      · intro t ht
        by_cases y : t = k
        · subst y
          have plm := plm z
          refine ⟨res.2.2.length, fun q => (res.2.2.getD q dQ).2.2.1, u2.1, ?_, plm.1, fun j hj => ?_⟩
          · rw [fr6.I (by omega)]; exact pc5.1
          · have oj : qOk (res.2.2.getD j dQ) := by
              apply u2.2
              rw [List.getD_eq_getElem?_getD, List.getElem?_eq_getElem hj]
              exact List.getElem_mem hj
            obtain ⟨w1, w2, w3⟩ := pc5.2 j hj
            obtain ⟨y1, y2, y3⟩ := u1.2 j hj
            obtain ⟨m1, m2, m3⟩ := plm.2 j hj
            rw [m2]
            refine ⟨?_, m1, oj.1, ?_, oj.2.1, ?_⟩
            · rw [fr6.I (by omega), show 155 + 4 * t = 154 + 4 * t + 1 by omega, w1, y1]
            · rw [fr6.I (by omega), show 156 + 4 * t = 154 + 4 * t + 2 by omega, w2, y2]
            · rw [m3, fr6.I (by omega), show 157 + 4 * t = 154 + 4 * t + 3 by omega, w3, y3]
        · obtain ⟨nn, ks, a1, a2, a3, a4⟩ := i7 t ht
          have ex : ∀ a, 154 + 4 * t ≤ a → a < 158 + 4 * t → hI h6 a = hI h a := fun a y1 y2 => by rw [fr6.I (by omega), fr5.I (by unfold pcs; omega), eX a (by omega) (by omega)]
          refine ⟨nn, ks, a1, by rw [ex _ (by omega) (by omega)]; exact a2, by rw [u6 t ht, if_neg (fun w => y w.1)]; exact a3, fun j hj => ?_⟩
          rw [ex (155 + 4 * t) (by omega) (by omega), ex (156 + 4 * t) (by omega) (by omega), ex (157 + 4 * t) (by omega) (by omega), v6 354 (by decide) (by decide) t ht (Or.inl y) j (by omega), v6 355 (by decide) (by decide) t ht (Or.inl y) j (by omega), v6 356 (by decide) (by decide) t ht (Or.inl y) j (by omega)]
          exact a4 j hj
  · have no : rtk (some .int) (some (.int (-1))) = true ∧ ∃ v : Int32, some (Value.int (-1)) = some (Value.int v) ∧ Cl 100 q_M_plan [.ref 342, .int p] (sI h 109 1 0) (fun r' h2 => r' = some (.int v) ∧ Inv L xs (c + 1) h2) := by
      refine ⟨rtI _, -1, rfl, ?_⟩
      have m1 : MLY (sI h 109 1 0) := i3.fr (S := onl 109) (T := nov) (Fs1 Fr.rfl')
      rw [e_M_plan, b_M_plan_0]
      simp only [mo m1, c_M_within, Option.toList, List.cons_append, List.nil_append, b_M_plan_7, bw0, q, b_M_plan_8, hK_sI, rtI, mem20, mem21, mem22, al20, al21, al33, al34, al36, al37, al38, aa33, aa34, aa36, aa37, aa38, true_and, and_true, Int32.reduceOfNat, forall_const, true_implies, implies_true, false_implies, not_true_eq_false, not_false_eq_true]
      exact ii.clr
    have cl : Wp 99 P_X_plan 7 [.ref 100, .int p, .null] [] h (fun r h1 => rtk (some .int) r = true ∧ ∃ v : Int32, r = some (.int v) ∧ Cl 100 q_M_plan [.ref 342, .int p] h1 (fun r' h2 => r' = some (.int v) ∧ Inv L xs (c + 1) h2)) := by
      simp only [b_X_plan_7, xk_100 i2, xr_100_6 i2, xk_108 i2, xr_108_0 i2, c_Tp_clear i2, Option.toList, List.cons_append, List.nil_append, b_X_plan_11, true_and]
      exact no
    refine ⟨xk_100 i2, fun _ => cl, fun z => ?_⟩
    have z2 : ¬ p < 4 := fun w => q ⟨Int32.not_lt.mp z, by
      obtain ⟨k, hk, rfl⟩ := n_ex 4 (Int32.not_lt.mp z) w (by decide)
      exact (nle (b := 3) (by omega) (by decide)).mpr (by omega)⟩
    rw [b_X_plan_2]
    simp only [xk_100 i2, xr_100_1 i2, xk_102 i2, xn_102 i2, z2, mem20, mem21, mem22, al20, al21, al33, al34, al36, al37, al38, aa33, aa34, aa36, aa37, aa38, true_and, and_true, Int32.reduceOfNat, forall_const, true_implies, implies_true, false_implies, not_true_eq_false, not_false_eq_true]
    exact cl
end OPS
