--deps: 95.apart
/-! OPS: APART, SAME -/
def smB (t : Nat → Int32) : Nat → Int32
  | 0 => 0
  | g + 1 => if t g = 0 then smB t g ||| ((1 : Int32) <<< (nI g &&& 31)) else smB t g
def apc : Nat → Prop := fun a => sdc a ∨ ulc a
theorem IPl1.it3 {h : AH} {j n : Nat} {ks : Nat → Nat} (a : IPl1 h j n ks) : ∀ q, q < n → ¬ hI h 354 (12 * j + q) = 3 → hI h 355 (12 * j + q) = -1 := by
  intro q hq w
  obtain ⟨u1, u2, u3, u4, u5, u6⟩ := a.2.2.2 q hq
  apply Classical.byContradiction
  intro w4
  apply w
  rw [u2, u5.mpr w4]
  rfl
theorem IPl1.kd {h : AH} {j n : Nat} {ks : Nat → Nat} (a : IPl1 h j n ks) : ∀ q, q < n → hI h (155 + 4 * j) q = hI h 354 (12 * j + q) ∧ hI h (156 + 4 * j) q = hI h 355 (12 * j + q) := by
  intro q hq
  obtain ⟨u1, u2, u3, u4, u5, u6⟩ := a.2.2.2 q hq
  exact ⟨u1.trans u2.symm, u4⟩
section OPS
variable {L : Nat} {xs : Nat → Int32} {c : Nat} {h : AH}
/-- the reference's apartOf, behind what the class did -/
theorem m_apartOf (i : Inv L xs c h) (bd : Nat → Option (List Nat)) (b2 : MBA h bd) (j n : Nat) (ks : Nat → Nat) (f g : Int32) (hj : j < 4) (a : IPl1 h j n ks) {d : Nat} {S : Nat → Prop} (h1 : AH) (fr : Fr S nov h h1) (hS : ∀ a, S a → a < 342 ∨ mcs a ∨ a = 342) (e15 : hI h1 342 15 = hI h 342 15) (Q : Option Value → AH → Prop)
    (fin : ∀ h', Fr mcs nov h1 h' → Q (some (.int (nI (trN (jrow bd (fun q => hI h 354 (12 * j + q)) (fun q => hI h 355 (12 * j + q)) (hI h 342 15) f 1 0 0) (jrow bd (fun q => hI h 354 (12 * j + q)) (fun q => hI h 355 (12 * j + q)) (hI h 342 15) g 0 0 0) (12 * n))))) h') : Cl (d + 4) q_M_apartOf [.ref 342, .int (nI j), .int f, .int g] h1 Q := by
  have eo : ∀ a, 342 < a → a < 363 → hI h1 a = hI h a := fun a ha hb => fr.I (fun z => by have := hS a z; unfold mcs at this; omega)
  have key := c_M_apartOf (d := d) (j := j) (n := n) (f := f) (g := g) (bd := bd) (kd := fun q => hI h 354 (12 * j + q)) (it := fun q => hI h 355 (12 * j + q)) (h0 := h1) (Q := Q) (i.2.2.1.fr fr) (b2.fr fr (fun a z => by have := hS a z; unfold mcs at this; omega)) hj (by rw [eo 353 (by decide) (by decide)]; exact a.2.2.1) a.1 (by rw [eo 354 (by decide) (by decide)]) (by rw [eo 355 (by decide) (by decide)]) (by rw [eo 354 (by decide) (by decide), eo 355 (by decide) (by decide)]; exact a.it3) (by rw [e15]; exact i.2.2.2.2.2.1.2.1)
  rw [e15] at key
  exact key fin
theorem op_apart (i : Inv L xs c h) (p f g : Int32) : OpI L xs c q_X_apart [.ref 100, .int p, .int f, .int g] q_M_apart [.ref 342, .int p, .int f, .int g] h := by
  have ii := i
  obtain ⟨i1, i2, i3, i4, i5, i6, i7, i8, i9, i10, i11, i12, i13, i14, i15⟩ := i
  have m1 : MLY (sI h 342 0 0) := i3.fr (S := onl 342) (T := nov) (Fs1 Fr.rfl')
  unfold OpI
  by_cases q : ((0 ≤ p ∧ p ≤ 3) ∧ ¬ hI h (154 + 4 * p.toNatClampNeg) 3 = 0) ∧ (0 ≤ f ∧ f ≤ 9) ∧ (0 ≤ g ∧ g ≤ 9)
  · have q' := q
    rw [pl_iff i7] at q'
    obtain ⟨⟨p3, p4⟩, p5, p6⟩ := q
    obtain ⟨n3, n4⟩ := n_of (M := 3) (n := 3) (by decide) p3
    obtain ⟨j, hj, rfl⟩ : ∃ j, j ≤ 3 ∧ p = nI j := ⟨_, n3, n4⟩
    have cj := cN (n := j) (by omega)
    rw [cj] at q' p4
    obtain ⟨np, ks, ap⟩ := i7 j (by omega)
    obtain ⟨bd, b1, b2, b3⟩ := i9
    have z1 : ¬ 154 + 4 * j = 0 := by omega
    have z2 : 100 ≤ 154 + 4 * j := by omega
    rw [e_X_apart, b_X_apart_0]
    simp only [c_X_toldPlan _ h i2, cj, p3, p4, p5, p6, not_false_eq_true, and_self, if_true, Option.toList, List.cons_append, List.nil_append, b_X_apart_3, z1, z2, or_true, b_X_apart_6, c_within, bw0, b_X_apart_10, b_X_apart_11, b_X_apart_15, b_X_apart_18, xk_100 i2, mem20, mem21, mem22, al20, al21, al33, al34, al36, al37, al38, aa33, aa34, aa36, aa37, aa38, true_and, and_true, Int32.reduceOfNat, forall_const, true_implies, implies_true, false_implies, not_true_eq_false, not_false_eq_true]
    refine c_X_seatDoer (d := 93) j np f bd (fun q => hI h 354 (12 * j + q)) (fun q => hI h 355 (12 * j + q)) (hI h 342 15) h i2 b1 (by omega) ap.2.1 ap.1 i6.1 ap.kd _ ?_
    intro h1 fr1 g1
    simp only [Option.toList, List.cons_append, List.nil_append, b_X_apart_22]
    have ec : ∀ a, (146 ≤ a ∧ a < 170) ∨ a = 122 → hI h1 a = hI h a := fun a ha => fr1.I (by unfold sdc; omega)
    refine c_X_unlikeDoer (d := 93) j np g (jrow bd (fun q => hI h 354 (12 * j + q)) (fun q => hI h 355 (12 * j + q)) (hI h 342 15) f 1 0 0) bd (fun q => hI h 354 (12 * j + q)) (fun q => hI h 355 (12 * j + q)) (hI h 342 15) h1 (i2.fr fr1) (b1.fr fr1 (by unfold sdc; omega)) (by omega) (by rw [ec _ (by omega)]; exact ap.2.1) ap.1 (by rw [ec _ (by omega)]; exact i6.1) (by rw [ec _ (by omega), ec _ (by omega)]; exact ap.kd) g1 _ ?_
    intro h2 fr2
    simp only [Option.toList, List.cons_append, List.nil_append, b_X_apart_26, rtI, true_and]
    refine ⟨_, rfl, ?_⟩
    have frA : Fr apc nov h h2 := (fr1.mo (fun a z => Or.inl z) (fun a z => z)).tr (fr2.mo (fun a z => Or.inr z) (fun a z => z))
    have hS : ∀ a, apc a → scr a ∧ a < 342 := fun a z => by
      unfold apc sdc ulc at z
      unfold scr
      omega
    have em : ∀ a, 342 ≤ a → hI h2 a = hI h a := fun a ha => frA.I (fun z => by have := (hS a z).2; omega)
    have frB : Fr (fun a => apc a ∨ a = 342) nov h (sI h2 342 0 0) := (frA.mo (fun a z => Or.inl z) (fun a z => z)).sI (Or.inr rfl)
    have m2 := i3.fr frA
    have m3 := i3.fr frB
    have eo : ∀ a, 342 < a → hI (sI h2 342 0 0) a = hI h a := fun a ha => by rw [rI_sI (by omega), em a (by omega)]
    rw [e_M_apart, b_M_apart_0]
    simp only [mo m2, c_M_isPlan _ _ m3, c_M_isFear, Option.toList, List.cons_append, List.nil_append, b_M_apart_6, b_M_apart_7, b_M_apart_9, b_M_apart_10, b_M_apart_12, b_M_apart_13, iz, bw0, eo 353 (by decide), cj, q', and_self, if_true, show ¬ (1 : Int32) = 0 by decide, mem20, mem21, mem22, al20, al21, al33, al34, al36, al37, al38, aa33, aa34, aa36, aa37, aa38, true_and, and_true, Int32.reduceOfNat, forall_const, true_implies, implies_true, false_implies, not_true_eq_false, not_false_eq_true]
    refine m_apartOf ii bd b2 j np ks f g (by omega) ap _ frB (fun a z => by rcases z with z | z; have := (hS a z).2; omega; omega) (by rw [hI_same, if_neg (by decide), em 342 (by decide)]) _ ?_
    intro h3 fr3
    simp only [Option.toList, List.cons_append, List.nil_append, b_M_apart_18, b_M_apart_20, rtI, true_and]
    exact ii.rt frA hS fr3 (fun a z => by unfold mcs at z; omega) (KS.of (fun a h1 h2 => fr3.I (by unfold mcs; omega)))
  · rw [e_X_apart, b_X_apart_0]
    simp only [c_X_toldPlan _ h i2, Option.toList, List.cons_append, List.nil_append, b_X_apart_3, nullT (show 100 ≤ 154 + 4 * p.toNatClampNeg by omega), b_X_apart_6, c_within, bw0, b_X_apart_10, b_X_apart_11, b_X_apart_15, b_X_apart_16, xk_100 i2, mem20, mem21, mem22, al20, al21, al33, al34, al36, al37, al38, aa33, aa34, aa36, aa37, aa38, true_and, and_true, Int32.reduceOfNat, forall_const, true_implies, implies_true, false_implies, not_true_eq_false, not_false_eq_true]
    have fin : rtk (some .int) (some (.int (-1))) = true ∧ ∃ v : Int32, some (Value.int (-1)) = some (Value.int v) ∧ Cl 100 q_M_apart [.ref 342, .int p, .int f, .int g] h (fun r' h2 => r' = some (.int v) ∧ Inv L xs (c + 1) h2) := by
      refine ⟨rtI _, -1, rfl, ?_⟩
      rw [pl_iff i7] at q
      rw [e_M_apart, b_M_apart_0]
      simp only [mo i3, c_M_isPlan _ _ m1, c_M_isFear, Option.toList, List.cons_append, List.nil_append, b_M_apart_6, b_M_apart_7, b_M_apart_9, b_M_apart_10, b_M_apart_12, b_M_apart_19, b_M_apart_20, iz, bw0, rI_sI (show 353 ≠ 342 by decide), rtI, ii.th, mem20, mem21, mem22, al20, al21, al33, al34, al36, al37, al38, aa33, aa34, aa36, aa37, aa38, true_and, and_true, Int32.reduceOfNat, forall_const, true_implies, implies_true, false_implies, not_true_eq_false, not_false_eq_true]
      intro q1 q2 q3
      exact absurd ⟨Classical.not_not.mp q1, Classical.not_not.mp q2, Classical.not_not.mp q3⟩ q
    exact ⟨fun _ => fin, fun q1 => ⟨fun _ => fin, fun q2 => ⟨fun q3 => absurd ⟨q1, Classical.not_not.mp q2, Classical.not_not.mp q3⟩ q, fun _ => fin⟩⟩⟩
theorem w_X_same {d : Nat} (j n : Nat) (x1 x2 : Int32) (A : Nat → Int32) (bd : Nat → Option (List Nat)) (kd it : Nat → Int32) (ti : Int32) (h0 : AH) (x0 : XLY h0) (b0 : XBd h0 bd) (hj : j < 4) (hn : hI h0 (154 + 4 * j) 3 = nI n) (hn2 : n ≤ 12) (hti : hI h0 122 3 = ti) (hkd : ∀ q, q < n → hI h0 (155 + 4 * j) q = kd q ∧ hI h0 (156 + 4 * j) q = it q) (hA : ∀ i, i < 12 * n → hI h0 143 i = A i) (t : Nat → Int32) (ht : t = fun g => nI (trN A (jrow bd kd it ti (nI g) 0 0 0) (12 * n))) (Q : Option Value → AH → Prop)
    (fin : ∀ h', Fr ulc nov h0 h' → Q (some (.int (smB t 10))) h') : ∀ (m g : Nat) (h : AH), g + m = 10 → Fr ulc nov h0 h →
    Wp (d + 6) P_X_same 21 [.ref 100, .int x1, .int x2, .ref (154 + 4 * j), .int (smB t g), .int (nI g)] [] h Q := by
  intro m
  induction m with
  | zero =>
    intro g h e fr
    have : g = 10 := by omega
    subst this
    rw [b_X_same_21]
    simp only [show (9 : Int32) < nI 10 by decide, b_X_same_37, mem20, mem21, mem22, al20, al21, al33, al34, al36, al37, al38, aa33, aa34, aa36, aa37, aa38, true_and, and_true, Int32.reduceOfNat, forall_const, true_implies, implies_true, false_implies, not_true_eq_false, not_false_eq_true]
    exact fin h fr
  | succ m ih =>
    intro g h e fr
    have z : ¬ (9 : Int32) < nI g := mt (nlt (a := 9) (by decide) (by omega)).mp (by omega)
    have ec : ∀ a, (145 < a ∧ a < 170) ∨ a = 122 ∨ a = 143 → hI h a = hI h0 a := fun a ha => fr.I (by unfold ulc; omega)
    rw [b_X_same_21]
    simp only [z, b_X_same_24, mem20, mem21, mem22, al20, al21, al33, al34, al36, al37, al38, aa33, aa34, aa36, aa37, aa38, true_and, and_true, Int32.reduceOfNat, forall_const, true_implies, implies_true, false_implies, not_true_eq_false, not_false_eq_true]
    refine c_X_unlikeDoer j n (nI g) A bd kd it ti h (x0.fr fr) (b0.fr fr (by unfold ulc; omega)) hj (by rw [ec _ (by omega)]; exact hn) hn2 (by rw [ec _ (by omega)]; exact hti) (by rw [ec _ (by omega), ec _ (by omega)]; exact hkd) (by rw [ec _ (by omega)]; exact hA) _ ?_
    intro h1 fr1
    have et : nI (trN A (jrow bd kd it ti (nI g) 0 0 0) (12 * n)) = t g := by rw [ht]
    rw [et]
    have ihm := ih (g + 1) h1 (by omega) (fr.tr fr1)
    have hs : smB t (g + 1) = if t g = 0 then smB t g ||| ((1 : Int32) <<< (nI g &&& 31)) else smB t g := rfl
    rw [hs] at ihm
    simp only [Option.toList, List.cons_append, List.nil_append, b_X_same_28, b_X_same_29, b_X_same_35, nI_1]
    by_cases q : t g = 0
    · rw [if_pos q] at ihm
      simp only [q, mem20, mem21, mem22, al20, al21, al33, al34, al36, al37, al38, aa33, aa34, aa36, aa37, aa38, true_and, and_true, Int32.reduceOfNat, forall_const, true_implies, implies_true, false_implies, not_true_eq_false, not_false_eq_true]
      exact ihm
    · rw [if_neg q] at ihm
      simp only [q, mem20, mem21, mem22, al20, al21, al33, al34, al36, al37, al38, aa33, aa34, aa36, aa37, aa38, true_and, and_true, Int32.reduceOfNat, forall_const, true_implies, implies_true, false_implies, not_true_eq_false, not_false_eq_true]
      exact ihm
theorem w_M_same (i : Inv L xs c h) (bd : Nat → Option (List Nat)) (b2 : MBA h bd) (j n : Nat) (ks : Nat → Nat) (f : Int32) (hj : j < 4) (a : IPl1 h j n ks) {d : Nat} {S : Nat → Prop} (h1 : AH) (fr0 : Fr S nov h h1) (hS : ∀ a, S a → a < 342 ∨ a = 342) (e15 : hI h1 342 15 = hI h 342 15) (t : Nat → Int32) (ht : t = fun g => nI (trN (jrow bd (fun q => hI h 354 (12 * j + q)) (fun q => hI h 355 (12 * j + q)) (hI h 342 15) f 1 0 0) (jrow bd (fun q => hI h 354 (12 * j + q)) (fun q => hI h 355 (12 * j + q)) (hI h 342 15) (nI g) 0 0 0) (12 * n))) (Q : Option Value → AH → Prop)
    (fin : ∀ h', Fr mcs nov h1 h' → Q (some (.int (smB t 10))) h') : ∀ (m g : Nat) (h2 : AH), g + m = 10 → Fr mcs nov h1 h2 →
    Wp (d + 4) P_M_same 16 [.ref 342, .int (nI j), .int f, .int (smB t g), .int (nI g)] [] h2 Q := by
  intro m
  induction m with
  | zero =>
    intro g h2 e fr
    have : g = 10 := by omega
    subst this
    rw [b_M_same_16]
    simp only [show (10 : Int32) ≤ nI 10 by decide, b_M_same_35, mem20, mem21, mem22, al20, al21, al33, al34, al36, al37, al38, aa33, aa34, aa36, aa37, aa38, true_and, and_true, Int32.reduceOfNat, forall_const, true_implies, implies_true, false_implies, not_true_eq_false, not_false_eq_true]
    exact fin h2 fr
  | succ m ih =>
    intro g h2 e fr
    have z : ¬ (10 : Int32) ≤ nI g := mt (nle (a := 10) (by decide) (by omega)).mp (by omega)
    rw [b_M_same_16]
    simp only [z, b_M_same_19, mem20, mem21, mem22, al20, al21, al33, al34, al36, al37, al38, aa33, aa34, aa36, aa37, aa38, true_and, and_true, Int32.reduceOfNat, forall_const, true_implies, implies_true, false_implies, not_true_eq_false, not_false_eq_true]
    have frA : Fr (fun a => S a ∨ mcs a) nov h h2 := (fr0.mo (fun a z => Or.inl z) (fun a z => z)).tr (fr.mo (fun a z => Or.inr z) (fun a z => z))
    refine m_apartOf i bd b2 j n ks f (nI g) hj a h2 frA (fun a z => by rcases z with z | z; have := hS a z; omega; exact Or.inr (Or.inl z)) (by rw [fr.I (by unfold mcs; omega)]; exact e15) _ ?_
    intro h3 fr3
    have et := congrFun ht g
    rw [← et]
    have ihm := ih (g + 1) h3 (by omega) (fr.tr fr3)
    have hs : smB t (g + 1) = if t g = 0 then smB t g ||| ((1 : Int32) <<< (nI g &&& 31)) else smB t g := rfl
    rw [hs] at ihm
    simp only [Option.toList, List.cons_append, List.nil_append, b_M_same_25, b_M_same_26, b_M_same_30, b_M_same_31, nI_1]
    by_cases q : t g = 0
    · rw [if_pos q] at ihm
      simp only [q, mem20, mem21, mem22, al20, al21, al33, al34, al36, al37, al38, aa33, aa34, aa36, aa37, aa38, true_and, and_true, Int32.reduceOfNat, forall_const, true_implies, implies_true, false_implies, not_true_eq_false, not_false_eq_true]
      exact ihm
    · rw [if_neg q] at ihm
      simp only [q, or_z, mem20, mem21, mem22, al20, al21, al33, al34, al36, al37, al38, aa33, aa34, aa36, aa37, aa38, true_and, and_true, Int32.reduceOfNat, forall_const, true_implies, implies_true, false_implies, not_true_eq_false, not_false_eq_true]
      exact ihm
theorem op_same (i : Inv L xs c h) (p f : Int32) : OpI L xs c q_X_same [.ref 100, .int p, .int f] q_M_same [.ref 342, .int p, .int f] h := by
  have ii := i
  obtain ⟨i1, i2, i3, i4, i5, i6, i7, i8, i9, i10, i11, i12, i13, i14, i15⟩ := i
  have m1 : MLY (sI h 342 0 0) := i3.fr (S := onl 342) (T := nov) (Fs1 Fr.rfl')
  unfold OpI
  by_cases q : ((0 ≤ p ∧ p ≤ 3) ∧ ¬ hI h (154 + 4 * p.toNatClampNeg) 3 = 0) ∧ (0 ≤ f ∧ f ≤ 9)
  · have q' := q
    rw [pl_iff i7] at q'
    obtain ⟨⟨p3, p4⟩, p5⟩ := q
    obtain ⟨n3, n4⟩ := n_of (M := 3) (n := 3) (by decide) p3
    obtain ⟨j, hj, rfl⟩ : ∃ j, j ≤ 3 ∧ p = nI j := ⟨_, n3, n4⟩
    have cj := cN (n := j) (by omega)
    rw [cj] at q' p4
    obtain ⟨np, ks, ap⟩ := i7 j (by omega)
    obtain ⟨bd, b1, b2, b3⟩ := i9
    have z1 : ¬ 154 + 4 * j = 0 := by omega
    have z2 : 100 ≤ 154 + 4 * j := by omega
    rw [e_X_same, b_X_same_0]
    simp only [c_X_toldPlan _ h i2, cj, p3, p4, p5, not_false_eq_true, and_self, if_true, Option.toList, List.cons_append, List.nil_append, b_X_same_3, z1, z2, or_true, b_X_same_6, c_within, bw0, b_X_same_10, b_X_same_13, xk_100 i2, mem20, mem21, mem22, al20, al21, al33, al34, al36, al37, al38, aa33, aa34, aa36, aa37, aa38, true_and, and_true, Int32.reduceOfNat, forall_const, true_implies, implies_true, false_implies, not_true_eq_false, not_false_eq_true]
    refine c_X_seatDoer (d := 93) j np f bd (fun q => hI h 354 (12 * j + q)) (fun q => hI h 355 (12 * j + q)) (hI h 342 15) h i2 b1 (by omega) ap.2.1 ap.1 i6.1 ap.kd _ ?_
    intro h1 fr1 g1
    simp only [Option.toList, List.cons_append, List.nil_append, b_X_same_17]
    have ec : ∀ a, (146 ≤ a ∧ a < 170) ∨ a = 122 → hI h1 a = hI h a := fun a ha => fr1.I (by unfold sdc; omega)
    refine w_X_same (d := 93) j np (nI j) f (jrow bd (fun q => hI h 354 (12 * j + q)) (fun q => hI h 355 (12 * j + q)) (hI h 342 15) f 1 0 0) bd (fun q => hI h 354 (12 * j + q)) (fun q => hI h 355 (12 * j + q)) (hI h 342 15) h1 (i2.fr fr1) (b1.fr fr1 (by unfold sdc; omega)) (by omega) (by rw [ec _ (by omega)]; exact ap.2.1) ap.1 (by rw [ec _ (by omega)]; exact i6.1) (by rw [ec _ (by omega), ec _ (by omega)]; exact ap.kd) g1 _ rfl _ ?_ 10 0 h1 rfl Fr.rfl'
    intro h2 fr2
    refine ⟨rtI _, _, rfl, ?_⟩
    have frA : Fr apc nov h h2 := (fr1.mo (fun a z => Or.inl z) (fun a z => z)).tr (fr2.mo (fun a z => Or.inr z) (fun a z => z))
    have hS : ∀ a, apc a → scr a ∧ a < 342 := fun a z => by
      unfold apc sdc ulc at z
      unfold scr
      omega
    have em : ∀ a, 342 ≤ a → hI h2 a = hI h a := fun a ha => frA.I (fun z => by have := (hS a z).2; omega)
    have frB : Fr (fun a => apc a ∨ a = 342) nov h (sI h2 342 0 0) := (frA.mo (fun a z => Or.inl z) (fun a z => z)).sI (Or.inr rfl)
    have m2 := i3.fr frA
    have m3 := i3.fr frB
    have eo : ∀ a, 342 < a → hI (sI h2 342 0 0) a = hI h a := fun a ha => by rw [rI_sI (by omega), em a (by omega)]
    rw [e_M_same, b_M_same_0]
    simp only [mo m2, c_M_isPlan _ _ m3, c_M_isFear, Option.toList, List.cons_append, List.nil_append, b_M_same_6, b_M_same_7, b_M_same_9, b_M_same_12, iz, bw0, eo 353 (by decide), cj, q', and_self, if_true, show ¬ (1 : Int32) = 0 by decide, mem20, mem21, mem22, al20, al21, al33, al34, al36, al37, al38, aa33, aa34, aa36, aa37, aa38, true_and, and_true, Int32.reduceOfNat, forall_const, true_implies, implies_true, false_implies, not_true_eq_false, not_false_eq_true]
    refine w_M_same (d := 95) ii bd b2 j np ks f (by omega) ap _ frB (fun a z => by rcases z with z | z; have := (hS a z).2; omega; omega) (by rw [hI_same, if_neg (by decide), em 342 (by decide)]) _ rfl _ ?_ 10 0 _ rfl Fr.rfl'
    intro h3 fr3
    refine ⟨rtI _, rfl, ii.rt frA hS fr3 (fun a z => by unfold mcs at z; omega) (KS.of (fun a h1 h2 => fr3.I (by unfold mcs; omega)))⟩
  · rw [e_X_same, b_X_same_0]
    simp only [c_X_toldPlan _ h i2, Option.toList, List.cons_append, List.nil_append, b_X_same_3, nullT (show 100 ≤ 154 + 4 * p.toNatClampNeg by omega), b_X_same_6, c_within, bw0, b_X_same_10, b_X_same_11, xk_100 i2, mem20, mem21, mem22, al20, al21, al33, al34, al36, al37, al38, aa33, aa34, aa36, aa37, aa38, true_and, and_true, Int32.reduceOfNat, forall_const, true_implies, implies_true, false_implies, not_true_eq_false, not_false_eq_true]
    have fin : rtk (some .int) (some (.int (-1))) = true ∧ ∃ v : Int32, some (Value.int (-1)) = some (Value.int v) ∧ Cl 100 q_M_same [.ref 342, .int p, .int f] h (fun r' h2 => r' = some (.int v) ∧ Inv L xs (c + 1) h2) := by
      refine ⟨rtI _, -1, rfl, ?_⟩
      rw [pl_iff i7] at q
      rw [e_M_same, b_M_same_0]
      simp only [mo i3, c_M_isPlan _ _ m1, c_M_isFear, Option.toList, List.cons_append, List.nil_append, b_M_same_6, b_M_same_7, b_M_same_9, b_M_same_10, iz, bw0, rI_sI (show 353 ≠ 342 by decide), rtI, ii.th, mem20, mem21, mem22, al20, al21, al33, al34, al36, al37, al38, aa33, aa34, aa36, aa37, aa38, true_and, and_true, Int32.reduceOfNat, forall_const, true_implies, implies_true, false_implies, not_true_eq_false, not_false_eq_true]
      intro q1 q2
      exact absurd ⟨Classical.not_not.mp q1, Classical.not_not.mp q2⟩ q
    exact ⟨fun _ => fin, fun q1 => ⟨fun q3 => absurd ⟨q1, Classical.not_not.mp q3⟩ q, fun _ => fin⟩⟩
end OPS
