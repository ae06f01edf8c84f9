--deps: 93.tricked
theorem nullT {c : Prop} [Decidable c] {a : Nat} (ha : 100 ≤ a) {A B : Prop} : (((if c then a else 0) = 0 ∨ 100 ≤ (if c then a else 0)) ∧ ((if c then a else 0) = 0 → A) ∧ (¬ (if c then a else 0) = 0 → B)) ↔ ((¬ c → A) ∧ (c → B)) := by
  by_cases q : c
  · simp [q, ha, show ¬ a = 0 by omega]
  · simp [q]
theorem pl_iff {h : AH} (i : IPl h) (p : Int32) : ((0 ≤ p ∧ p ≤ 3) ∧ ¬ hI h (154 + 4 * p.toNatClampNeg) 3 = 0) ↔ ((0 ≤ p ∧ p ≤ 3) ∧ 0 < hI h 353 p.toNatClampNeg) := by
  constructor
  · rintro ⟨w1, w2⟩
    refine ⟨w1, ?_⟩
    obtain ⟨n1, n2⟩ := n_of (M := 3) (n := 3) (by decide) w1
    obtain ⟨j, hj, rfl⟩ : ∃ j, j ≤ 3 ∧ p = nI j := ⟨_, n1, n2⟩
    rw [cN (show j < 2147483648 by omega)] at w2 ⊢
    obtain ⟨np, ks, ap⟩ := i j (by omega)
    have := ap.1
    rw [ap.2.1] at w2
    rw [ap.2.2.1]
    exact (nlt (a := 0) (by decide) (by omega)).mpr (by
      have : ¬ np = 0 := fun z => w2 (by rw [z]; rfl)
      omega)
  · rintro ⟨w1, w2⟩
    refine ⟨w1, ?_⟩
    obtain ⟨n1, n2⟩ := n_of (M := 3) (n := 3) (by decide) w1
    obtain ⟨j, hj, rfl⟩ : ∃ j, j ≤ 3 ∧ p = nI j := ⟨_, n1, n2⟩
    rw [cN (show j < 2147483648 by omega)] at w2 ⊢
    obtain ⟨np, ks, ap⟩ := i j (by omega)
    have := ap.1
    rw [ap.2.2.1] at w2
    rw [ap.2.1]
    intro z
    rw [z] at w2
    exact absurd w2 (by decide)
theorem pe_iff {h : AH} (i : IPe h) (p : Int32) : ((0 ≤ p ∧ p ≤ 7) ∧ ¬ hI h (146 + p.toNatClampNeg) 0 = 0) ↔ ((0 ≤ p ∧ p ≤ 7) ∧ ¬ hI h 348 p.toNatClampNeg = 0) := by
  have e : (0 ≤ p ∧ p ≤ 7) → hI h (146 + p.toNatClampNeg) 0 = hI h 348 p.toNatClampNeg := fun w1 => by
    obtain ⟨n1, n2⟩ := n_of (M := 7) (n := 7) (by decide) w1
    exact (i _ (by omega)).1
  constructor
  · rintro ⟨w1, w2⟩
    rw [e w1] at w2
    exact ⟨w1, w2⟩
  · rintro ⟨w1, w2⟩
    rw [← e w1] at w2
    exact ⟨w1, w2⟩
theorem c_X_tricked0 {d : Nat} (p pl r s : Int32) (h : AH) (x : XLY h) (q : ¬ (((0 ≤ p ∧ p ≤ 7) ∧ ¬ hI h (146 + p.toNatClampNeg) 0 = 0) ∧ ((0 ≤ pl ∧ pl ≤ 3) ∧ ¬ hI h (154 + 4 * pl.toNatClampNeg) 3 = 0) ∧ (0 ≤ r ∧ r ≤ 3) ∧ (1 ≤ s ∧ s ≤ 40))) (Q : Option Value → AH → Prop) (fin : Q (some (.int (-1))) h) : Cl (d + 7) q_X_tricked [.ref 100, .int p, .int pl, .int r, .int s] h Q := by
  rw [e_X_tricked, b_X_tricked_0]
  simp only [c_X_toldPerson _ h x, c_X_toldPlan _ h x, c_X_readerOf _ h x, Option.toList, List.cons_append, List.nil_append, b_X_tricked_3, b_X_tricked_7, b_X_tricked_11, b_X_tricked_14, b_X_tricked_16, nullT (show 100 ≤ 146 + p.toNatClampNeg by omega), nullT (show 100 ≤ 154 + 4 * pl.toNatClampNeg by omega), nullT (show 100 ≤ 170 + 5 * r.toNatClampNeg by omega), b_X_tricked_18, c_within, bw0, b_X_tricked_22, b_X_tricked_23, xk_100 x, mem20, mem21, mem22, al20, al21, al33, al34, al36, al37, al38, aa33, aa34, aa36, aa37, aa38, true_and, and_true, Int32.reduceOfNat, forall_const, true_implies, implies_true, false_implies, not_true_eq_false, not_false_eq_true]
  exact ⟨fun _ => ⟨rtI _, fin⟩, fun q1 => ⟨fun _ => ⟨rtI _, fin⟩, fun q2 => ⟨fun _ => ⟨rtI _, fin⟩, fun q3 => ⟨fun q4 => absurd ⟨q1, q2, q3, Classical.not_not.mp q4⟩ q, fun _ => ⟨rtI _, fin⟩⟩⟩⟩⟩
section OPS
variable {L : Nat} {xs : Nat → Int32} {c : Nat} {h : AH}
theorem op_tricked (i : Inv L xs c h) (p pl r s : Int32) : OpI L xs c q_X_tricked [.ref 100, .int p, .int pl, .int r, .int s] q_M_tricked [.ref 342, .int p, .int pl, .int r, .int s] h := by
  have ii := i
  obtain ⟨i1, i2, i3, i4, i5, i6, i7, i8, i9, i10, i11, i12, i13, i14, i15⟩ := i
  have m1 : MLY (sI h 342 0 0) := i3.fr (S := onl 342) (T := nov) (Fs1 Fr.rfl')
  unfold OpI
  by_cases q : ((0 ≤ p ∧ p ≤ 7) ∧ ¬ hI h (146 + p.toNatClampNeg) 0 = 0) ∧ ((0 ≤ pl ∧ pl ≤ 3) ∧ ¬ hI h (154 + 4 * pl.toNatClampNeg) 3 = 0) ∧ (0 ≤ r ∧ r ≤ 3) ∧ (1 ≤ s ∧ s ≤ 40)
  · have q' := q
    rw [pl_iff i7, pe_iff i5] at q'
    obtain ⟨⟨p1, p2⟩, ⟨p3, p4⟩, p5, p6⟩ := q
    obtain ⟨n1, n2⟩ := n_of (M := 7) (n := 7) (by decide) p1
    obtain ⟨k, hk, rfl⟩ : ∃ k, k ≤ 7 ∧ p = nI k := ⟨_, n1, n2⟩
    obtain ⟨n3, n4⟩ := n_of (M := 3) (n := 3) (by decide) p3
    obtain ⟨j, hj, rfl⟩ : ∃ j, j ≤ 3 ∧ pl = nI j := ⟨_, n3, n4⟩
    obtain ⟨n5, n6⟩ := n_of (M := 3) (n := 3) (by decide) p5
    obtain ⟨r, hr, rfl⟩ : ∃ k, k ≤ 3 ∧ r = nI k := ⟨_, n5, n6⟩
    obtain ⟨n7, n8⟩ := n_of (M := 40) (n := 40) (by decide) ⟨i_tr (show (0 : Int32) ≤ 1 by decide) p6.1, p6.2⟩
    obtain ⟨sn, hsn, rfl⟩ : ∃ k, k ≤ 40 ∧ s = nI k := ⟨_, n7, n8⟩
    have sn0 : 0 < sn := (nle (a := 1) (by decide) (by omega)).mp p6.1
    have cj := cN (n := j) (by omega)
    have ck := cN (n := k) (by omega)
    rw [cj, ck] at q'
    rw [ck] at p2
    rw [cj] at p4
    obtain ⟨np, ks, ap⟩ := i7 j (by omega)
    obtain ⟨a1, a2, a3, a4⟩ := ap
    obtain ⟨N, cc, xr, mr⟩ := i10 r (by omega)
    obtain ⟨bd, b1, b2, b3⟩ := i9
    have np0 : 0 < np := by
      rw [a2] at p4
      have : ¬ np = 0 := fun z => p4 (by rw [z]; rfl)
      omega
    have ip := i5 k (by omega)
    obtain ⟨e0, e1, e2, e3, e4, o0, o1, o2, o3, o4⟩ := ip
    refine c_X_tricked1 (d := 93) k j r np N sn bd ks (fun q => hI h 354 (12 * j + q)) (fun q => hI h 355 (12 * j + q)) (hI h 342 15) cc h i2 b1 (by omega) (by omega) (by omega) xr p2 (by rw [e2]; exact o2) a2 a1 np0 i6.1 ?_ ?_ sn0 hsn _ ?_
    · intro q hq
      obtain ⟨u1, u2, u3, u4, u5, u6⟩ := a4 q hq
      exact ⟨u1.trans u2.symm, u4⟩
    · intro q hq
      obtain ⟨u1, u2, u3, u4, u5, u6⟩ := a4 q hq
      exact ⟨u2, u3, u5⟩
    · intro h1 fr1
      rw [e1, e2, e3]
      refine ⟨_, rfl, ?_⟩
      have hS : ∀ a, tks (170 + 5 * r) a → scr a ∧ a < 342 := fun a z => by
        unfold tks trs at z
        unfold scr
        omega
      have em : ∀ a, 342 ≤ a → hI h1 a = hI h a := fun a ha => fr1.I (fun z => by have := (hS a z).2; omega)
      have frB : Fr (fun a => tks (170 + 5 * r) a ∨ a = 342) nov h (sI h1 342 0 0) := (fr1.mo (fun a z => Or.inl z) (fun a z => z)).sI (Or.inr rfl)
      have m2 := i3.fr fr1
      have m3 := i3.fr frB
      have eo : ∀ a, 342 < a → hI (sI h1 342 0 0) a = hI h a := fun a ha => by rw [rI_sI (by omega), em a (by omega)]
      have e15 : hI (sI h1 342 0 0) 342 15 = hI h 342 15 := by rw [hI_same, if_neg (by decide), em 342 (by decide)]
      have f0 : (-9 : Int32) ≤ 0 ∧ (0 : Int32) ≤ 9 := by decide
      rw [e_M_tricked, b_M_tricked_0]
      simp only [mo m2, c_M_isPerson _ _ m3, c_M_areRates _ _ _ _ _ m3, Option.toList, List.cons_append, List.nil_append, b_M_tricked_6, b_M_tricked_7, b_M_tricked_13, iz, eo 353 (by decide), eo 348 (by decide), cj, ck, q', f0, and_self, if_true, b_M_tricked_16, show ¬ (1 : Int32) = 0 by decide, mem20, mem21, mem22, al20, al21, al33, al34, al36, al37, al38, aa33, aa34, aa36, aa37, aa38, true_and, and_true, Int32.reduceOfNat, forall_const, true_implies, implies_true, false_implies, not_true_eq_false, not_false_eq_true]
      have key := w_M_tricked (d := 95) k j r np N sn bd ks (fun q => hI h 354 (12 * j + q)) (fun q => hI h 355 (12 * j + q)) cc (sI h1 342 0 0) m3 (b2.fr frB (fun a z => by rcases z with z | z; have := (hS a z).2; omega; omega)) (by omega) (by omega) (by omega) (mr.fr frB (fun a z => by rcases z with z | z; have := (hS a z).2; omega; omega)) (by rw [eo 353 (by decide)]; exact a3) a1 (by rw [eo 354 (by decide)]) (by rw [eo 355 (by decide)]) (fun q hq => by
        obtain ⟨u1, u2, u3, u4, u5, u6⟩ := a4 q hq
        exact ⟨u2, u3, u5⟩) (by rw [e15]; exact i6.2.1) (by omega) _ rfl (fun r' h2 => rtk (some .int) r' = true ∧ r' = some (.int (nI (trN (tv (jrow bd (fun q => hI h 354 (12 * j + q)) (fun q => hI h 355 (12 * j + q)) (hI h 342 15) (hI h 349 k) (hI h 350 k) (hI h 351 k) 0) (fun q => hI h 355 (12 * j + q)) (hI h 342 15) np ks N cc 0) (tv (jrow bd (fun q => hI h 354 (12 * j + q)) (fun q => hI h 355 (12 * j + q)) (hI h 342 15) (hI h 349 k) (hI h 350 k) (hI h 351 k) 1) (fun q => hI h 355 (12 * j + q)) (hI h 342 15) np ks N cc 0) sn))) ∧ Inv L xs (c + 1) h2) ?_ sn 0 (sI h1 342 0 0) .null (by omega) Fr.rfl' KS.rf
      · exact key
      · intro h2 fr2 kp2
        rw [e15, eo 349 (by decide), eo 350 (by decide), eo 351 (by decide)]
        exact ⟨rtI _, rfl, ii.rt fr1 hS fr2 (fun a z => by unfold mrs at z; omega) kp2⟩
  · refine c_X_tricked0 (d := 93) p pl r s h i2 q _ ?_
    refine ⟨-1, rfl, ?_⟩
    rw [pl_iff i7, pe_iff i5] at q
    rw [e_M_tricked, b_M_tricked_0]
    simp only [mo i3, c_M_isPerson _ _ m1, c_M_areRates _ _ _ _ _ m1, Option.toList, List.cons_append, List.nil_append, b_M_tricked_6, b_M_tricked_7, b_M_tricked_13, b_M_tricked_14, iz, rI_sI (show 348 ≠ 342 by decide), rI_sI (show 353 ≠ 342 by decide), rtI, ii.th, mem20, mem21, mem22, al20, al21, al33, al34, al36, al37, al38, aa33, aa34, aa36, aa37, aa38, true_and, and_true, Int32.reduceOfNat, forall_const, true_implies, implies_true, false_implies, not_true_eq_false, not_false_eq_true]
    intro q1 q2
    exfalso
    apply q
    have q1 := Classical.not_not.mp q1
    have q2 := Classical.not_not.mp q2
    exact ⟨q1, q2.1, q2.2.1, q2.2.2.2⟩
end OPS
