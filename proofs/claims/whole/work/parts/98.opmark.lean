--deps: 97.opsmall
/-! MARKS -/
def tks2 (r : Nat) : Nat → Prop := fun a => a = r ∨ a = r + 1
theorem TLY.fr {S T : Nat → Prop} {h h' : AH} {r : Nat} (x : TLY h r) (p : Fr S T h h') : TLY h' r := by
  obtain ⟨x0, x1, x2, x3, x4⟩ := x
  refine ⟨x0, ?_, ?_, ?_, ?_⟩ <;> first | (rw [p.K]; assumption) | (rw [p.N]; assumption) | (rw [p.R (by omega)]; assumption)
theorem w_Ta_become {d : Nat} (r f : Nat) (h0 : AH) (x : TLY h0 r) (y : TLY h0 f) (hd : r + 1 < f ∨ f + 1 < r) (Q : Option Value → AH → Prop)
    (fin : ∀ h', Fr (tks2 r) nov h0 h' → hI h' r 0 = hI h0 r 0 → hI h' r 1 = hI h0 f 1 → (∀ j, j < 8 → hI h' (r + 1) j = hI h0 (f + 1) j) → (∀ j, j < 4 → hI h' r (3 + j) = hI h0 f (3 + j)) → Q none h') : ∀ (m i : Nat) (h : AH), i + m = 8 → Fr (tks2 r) nov h0 h → hI h r 0 = hI h0 r 0 → hI h r 1 = hI h0 f 1 → (∀ j, j < i → hI h (r + 1) j = hI h0 (f + 1) j) → Wp d P_Ta_become 6 [.ref r, .ref f, .int (nI i)] [] h Q := by
  intro m
  induction m with
  | zero =>
    intro i h e fr e0 e1 g
    have : i = 8 := by omega
    subst this
    obtain ⟨x0, x1, x2, x3, x4⟩ := x.fr fr
    obtain ⟨y0, y1, y2, y3, y4⟩ := y.fr fr
    have nf : f ≠ r := by omega
    have ef : hI h f = hI h0 f := fr.I (by unfold tks2; omega)
    rw [b_Ta_become_6]
    simp only [x1, x2, x3, x4, show (8 : Int32) ≤ nI 8 by decide, b_Ta_become_26, y1, hK_sI, rI_sI nf, ef, mem20, mem21, mem22, al20, al21, al33, al34, al36, al37, al38, aa33, aa34, aa36, aa37, aa38, true_and, and_true, Int32.reduceOfNat, forall_const, true_implies, implies_true, false_implies, not_true_eq_false, not_false_eq_true]
    refine fin _ ((((fr.sI (Or.inl rfl)).sI (Or.inl rfl)).sI (Or.inl rfl)).sI (Or.inl rfl)) ?_ ?_ ?_ ?_
    · simp only [hI_same, show ¬ (0 : Nat) = 3 by decide, show ¬ (0 : Nat) = 4 by decide, show ¬ (0 : Nat) = 5 by decide, show ¬ (0 : Nat) = 6 by decide, if_false]
      exact e0
    · simp only [hI_same, show ¬ (1 : Nat) = 3 by decide, show ¬ (1 : Nat) = 4 by decide, show ¬ (1 : Nat) = 5 by decide, show ¬ (1 : Nat) = 6 by decide, if_false]
      exact e1
    · intro j hj
      rw [rI_sI (by omega), rI_sI (by omega), rI_sI (by omega), rI_sI (by omega)]
      exact g j hj
    · intro j hj
      have c4 : j = 0 ∨ j = 1 ∨ j = 2 ∨ j = 3 := by omega
      rcases c4 with rfl | rfl | rfl | rfl <;> simp [hI_same]
  | succ m ih =>
    intro i h e fr e0 e1 g
    obtain ⟨x0, x1, x2, x3, x4⟩ := x.fr fr
    obtain ⟨y0, y1, y2, y3, y4⟩ := y.fr fr
    have ef : hI h (f + 1) = hI h0 (f + 1) := fr.I (by unfold tks2; omega)
    have z : ¬ (8 : Int32) ≤ nI i := mt (nle (a := 8) (by decide) (by omega)).mp (by omega)
    have i1 : ixo (nI i) 8 = true := nix (by omega) (by decide)
    rw [b_Ta_become_6]
    simp only [x1, x2, x3, x4, z, b_Ta_become_11, y1, y2, y3, y4, b_Ta_become_16, i1, cN (show i < 2147483648 by omega), ef, nI_1, mem20, mem21, mem22, al20, al21, al33, al34, al36, al37, al38, aa33, aa34, aa36, aa37, aa38, true_and, and_true, Int32.reduceOfNat, forall_const, true_implies, implies_true, false_implies, not_true_eq_false, not_false_eq_true]
    refine ih (i + 1) _ (by omega) (fr.sI (Or.inr rfl)) ?_ ?_ ?_
    · rw [rI_sI (by omega)]; exact e0
    · rw [rI_sI (by omega)]; exact e1
    · intro j hj
      rw [hI_same]
      by_cases q : j = i
      · rw [if_pos q, q]
      · rw [if_neg q]; exact g j (by omega)
theorem c_Ta_become {d : Nat} (r f : Nat) (h : AH) (x : TLY h r) (y : TLY h f) (hd : r + 1 < f ∨ f + 1 < r) (Q : Option Value → AH → Prop)
    (fin : ∀ h', Fr (tks2 r) nov h h' → hI h' r 0 = hI h r 0 → hI h' r 1 = hI h f 1 → (∀ j, j < 8 → hI h' (r + 1) j = hI h (f + 1) j) → (∀ j, j < 4 → hI h' r (3 + j) = hI h f (3 + j)) → Q none h') : Cl (d + 1) q_Ta_become [.ref r, .ref f] h Q := by
  rw [e_Ta_become, b_Ta_become_0]
  refine ⟨x.2.1, y.2.1, x.2.1, ?_⟩
  have fr : Fr (tks2 r) nov h (sI h r 1 (hI h f 1)) := Fr.rfl'.sI (Or.inl rfl)
  refine w_Ta_become r f h x y hd _ (fun h' a b c e g => ⟨rtV, fin h' a b c e g⟩) 8 0 _ rfl fr ?_ ?_ (fun j hj => by omega)
  · rw [hI_same, if_neg (by decide)]
  · rw [hI_same, if_pos rfl]
theorem w_M_mark0 {d : Nat} (k : Nat) (x2 : Int32) (hk : k < 4) (hx : x2 = 0) (h0 : AH) (m0 : MLY h0) (Q : Option Value → AH → Prop)
    (fin : ∀ h', Fr nov (onl 376) h0 h' → (∀ j, j < 12 → hJ h' 376 (12 * k + j) = if j < 8 then hJ h0 372 j else hJ h0 373 (j - 8)) → (∀ j, j < 12 * k ∨ 12 * k + 12 ≤ j → hJ h' 376 j = hJ h0 376 j) → Q (some (.int 1)) h') : ∀ (m i : Nat) (h : AH), i + m = 12 → Fr nov (onl 376) h0 h → (∀ j, j < i → hJ h 376 (12 * k + j) = if j < 8 then hJ h0 372 j else hJ h0 373 (j - 8)) → (∀ j, j < 12 * k ∨ 12 * k + 12 ≤ j → hJ h 376 j = hJ h0 376 j) → Wp d P_M_mark 46 [.ref 342, .int (nI k), .int x2, .int (nI i)] [] h Q := by
  intro m
  induction m with
  | zero =>
    intro i h e fr g g2
    have : i = 12 := by omega
    subst this
    rw [b_M_mark_46]
    simp only [show (12 : Int32) ≤ nI 12 by decide, b_M_mark_106, mem20, mem21, mem22, al20, al21, al33, al34, al36, al37, al38, aa33, aa34, aa36, aa37, aa38, true_and, and_true, Int32.reduceOfNat, forall_const, true_implies, implies_true, false_implies, not_true_eq_false, not_false_eq_true]
    exact fin h fr g g2
  | succ m ih =>
    intro i h e fr g g2
    have m' := m0.fr fr
    have z : ¬ (12 : Int32) ≤ nI i := mt (nle (a := 12) (by decide) (by omega)).mp (by omega)
    have i3 : ixo (nI (12 * k + i)) 48 = true := nix (by omega) (by decide)
    have f2 : hJ h 372 = hJ h0 372 := fr.J (by unfold onl; decide)
    have f3 : hJ h 373 = hJ h0 373 := fr.J (by unfold onl; decide)
    have nxt : ∀ v, v = (if i < 8 then hJ h0 372 i else hJ h0 373 (i - 8)) → Wp d P_M_mark 46 [.ref 342, .int (nI k), .int x2, .int (nI (i + 1))] [] (sJ h 376 (12 * k + i) v) Q := by
      intro v hv
      refine ih (i + 1) _ (by omega) (fr.sJ rfl (by decide)) ?_ ?_
      · intro j hj
        rw [hJ_same]
        by_cases q : j = i
        · rw [if_pos (by omega), q, hv]
        · rw [if_neg (by omega)]; exact g j (by omega)
      · intro j hj
        rw [hJ_same, if_neg (by omega)]
        exact g2 j hj
    rw [b_M_mark_46]
    subst hx
    simp only [z, b_M_mark_49, b_M_mark_51, mo m', mr_42 m', n12, mem20, mem21, mem22, al20, al21, al33, al34, al36, al37, al38, aa33, aa34, aa36, aa37, aa38, true_and, and_true, Int32.reduceOfNat, forall_const, true_implies, implies_true, false_implies, not_true_eq_false, not_false_eq_true]
    by_cases q : i < 8
    · have z2 : ¬ (8 : Int32) ≤ nI i := mt (nle (a := 8) (by decide) (by omega)).mp (by omega)
      have i1 : ixo (nI i) 8 = true := nix (by omega) (by decide)
      simp only [z2, b_M_mark_61, mo m', mr_38 m', mk_372 m', mn_372 m', i1, b_M_mark_72, mk_376 m', mn_376 m', i3, cN (show i < 2147483648 by omega), cN (show 12 * k + i < 2147483648 by omega), b_M_mark_104, nI_1, f2, mem20, mem21, mem22, al20, al21, al33, al34, al36, al37, al38, aa33, aa34, aa36, aa37, aa38, true_and, and_true, Int32.reduceOfNat, forall_const, true_implies, implies_true, false_implies, not_true_eq_false, not_false_eq_true]
      exact nxt _ (by rw [if_pos q])
    · have z2 : (8 : Int32) ≤ nI i := (nle (a := 8) (by decide) (by omega)).mpr (by omega)
      have e8 : nI i - 8 = nI (i - 8) := nsub (b := 8) (by omega)
      have i1 : ixo (nI (i - 8)) 4 = true := nix (by omega) (by decide)
      simp only [z2, b_M_mark_66, mo m', mr_39 m', mk_373 m', mn_373 m', e8, i1, b_M_mark_72, mk_376 m', mn_376 m', i3, cN (show i - 8 < 2147483648 by omega), cN (show 12 * k + i < 2147483648 by omega), b_M_mark_104, nI_1, f3, mem20, mem21, mem22, al20, al21, al33, al34, al36, al37, al38, aa33, aa34, aa36, aa37, aa38, true_and, and_true, Int32.reduceOfNat, forall_const, true_implies, implies_true, false_implies, not_true_eq_false, not_false_eq_true]
      exact nxt _ (by rw [if_neg q])
def mkJ : Nat → Prop := fun a => a = 372 ∨ a = 373
theorem w_M_mark1 {d : Nat} (k : Nat) (x2 : Int32) (hk : k < 4) (hx : ¬ x2 = 0) (h0 : AH) (m0 : MLY h0) (Q : Option Value → AH → Prop)
    (fin : ∀ h', Fr nov mkJ h0 h' → (∀ j, j < 12 → (if j < 8 then hJ h' 372 j else hJ h' 373 (j - 8)) = hJ h0 376 (12 * k + j)) → Q (some (.int 1)) h') : ∀ (m i : Nat) (h : AH), i + m = 12 → Fr nov mkJ h0 h → (∀ j, j < i → (if j < 8 then hJ h 372 j else hJ h 373 (j - 8)) = hJ h0 376 (12 * k + j)) → Wp d P_M_mark 46 [.ref 342, .int (nI k), .int x2, .int (nI i)] [] h Q := by
  intro m
  induction m with
  | zero =>
    intro i h e fr g
    have : i = 12 := by omega
    subst this
    rw [b_M_mark_46]
    simp only [show (12 : Int32) ≤ nI 12 by decide, b_M_mark_106, mem20, mem21, mem22, al20, al21, al33, al34, al36, al37, al38, aa33, aa34, aa36, aa37, aa38, true_and, and_true, Int32.reduceOfNat, forall_const, true_implies, implies_true, false_implies, not_true_eq_false, not_false_eq_true]
    exact fin h fr g
  | succ m ih =>
    intro i h e fr g
    have m' := m0.fr fr
    have z : ¬ (12 : Int32) ≤ nI i := mt (nle (a := 12) (by decide) (by omega)).mp (by omega)
    have i3 : ixo (nI (12 * k + i)) 48 = true := nix (by omega) (by decide)
    have f2 : hJ h 376 = hJ h0 376 := fr.J (by unfold mkJ; decide)
    rw [b_M_mark_46]
    simp only [z, b_M_mark_49, hx, b_M_mark_74, mem20, mem21, mem22, al20, al21, al33, al34, al36, al37, al38, aa33, aa34, aa36, aa37, aa38, true_and, and_true, Int32.reduceOfNat, forall_const, true_implies, implies_true, false_implies, not_true_eq_false, not_false_eq_true]
    by_cases q : i < 8
    · have z2 : ¬ (8 : Int32) ≤ nI i := mt (nle (a := 8) (by decide) (by omega)).mp (by omega)
      have i1 : ixo (nI i) 8 = true := nix (by omega) (by decide)
      simp only [z2, b_M_mark_77, mo m', mr_38 m', mr_42 m', mk_372 m', mn_372 m', i1, n12, mk_376 m', mn_376 m', i3, cN (show i < 2147483648 by omega), cN (show 12 * k + i < 2147483648 by omega), b_M_mark_104, nI_1, f2, mem20, mem21, mem22, al20, al21, al33, al34, al36, al37, al38, aa33, aa34, aa36, aa37, aa38, true_and, and_true, Int32.reduceOfNat, forall_const, true_implies, implies_true, false_implies, not_true_eq_false, not_false_eq_true]
      refine ih (i + 1) _ (by omega) (fr.sJ (Or.inl rfl) (by decide)) ?_
      intro j hj
      rw [hJ_same, rJ_sJ (by decide)]
      by_cases qj : j = i
      · rw [if_pos (by omega), if_pos qj, qj]
      · rw [if_neg qj]; exact g j (by omega)
    · have z2 : (8 : Int32) ≤ nI i := (nle (a := 8) (by decide) (by omega)).mpr (by omega)
      have e8 : nI i - 8 = nI (i - 8) := nsub (b := 8) (by omega)
      have i1 : ixo (nI (i - 8)) 4 = true := nix (by omega) (by decide)
      simp only [z2, b_M_mark_90, mo m', mr_39 m', mr_42 m', mk_373 m', mn_373 m', e8, i1, n12, mk_376 m', mn_376 m', i3, cN (show i - 8 < 2147483648 by omega), cN (show 12 * k + i < 2147483648 by omega), b_M_mark_104, nI_1, f2, mem20, mem21, mem22, al20, al21, al33, al34, al36, al37, al38, aa33, aa34, aa36, aa37, aa38, true_and, and_true, Int32.reduceOfNat, forall_const, true_implies, implies_true, false_implies, not_true_eq_false, not_false_eq_true]
      refine ih (i + 1) _ (by omega) (fr.sJ (Or.inr rfl) (by decide)) ?_
      intro j hj
      rw [hJ_same, rJ_sJ (by decide)]
      by_cases qj : j = i
      · rw [if_neg (by omega), if_pos (by omega), qj]
      · by_cases q8 : j < 8
        · rw [if_pos q8]; have := g j (by omega); rw [if_pos q8] at this; exact this
        · rw [if_neg q8, if_neg (by omega)]; have := g j (by omega); rw [if_neg q8] at this; exact this
section OPS
variable {L : Nat} {xs : Nat → Int32} {c : Nat} {h : AH}
theorem op_mark (i : Inv L xs c h) (p b : Int32) : OpI L xs c q_X_mark [.ref 100, .int p, .int b] q_M_mark [.ref 342, .int p, .int b] h := by
  have ii := i
  obtain ⟨i1, i2, i3, i4, i5, i6, i7, i8, i9, i10, i11, i12, i13, i14, i15⟩ := i
  have m1 : MLY (sI h 342 0 0) := i3.fr (S := onl 342) (T := nov) (Fs1 Fr.rfl')
  have fin := ii.th (v := 0)
  unfold OpI
  rw [e_X_mark, b_X_mark_0]
  by_cases q : 0 ≤ p ∧ p ≤ 3
  · obtain ⟨n1, n2⟩ := n_of (M := 3) (n := 3) (by decide) q
    obtain ⟨k, hk, rfl⟩ : ∃ k, k ≤ 3 ∧ p = nI k := ⟨_, n1, n2⟩
    have z1 := n_nn (n := k) (by omega)
    have z2 : nI k < 4 := (nlt (b := 4) (by omega) (by decide)).mpr (by omega)
    have x4 : ixo (nI k) 4 = true := nix (by omega) (by decide)
    have ck := cN (n := k) (by omega)
    have fk := f_mk i2 (p := k) (by omega)
    obtain ⟨j0, j1, ⟨n, hn, j2, j3⟩, j4⟩ := i14 k (by omega)
    obtain ⟨nn, hnn, s1, s2⟩ := i11
    have tk := tly_mk i2 (p := k) (by omega)
    have t5 := tly_105 i2
    have f1 : 334 + 2 * k + 1 = 335 + 2 * k := by omega
    simp only [z1, b_X_mark_2, xk_100 i2, xr_100_5 i2, xk_107 i2, xn_107 i2, z2, b_X_mark_9, x4, ck, fk, mem20, mem21, mem22, al20, al21, al33, al34, al36, al37, al38, aa33, aa34, aa36, aa37, aa38, true_and, and_true, Int32.reduceOfNat, forall_const, true_implies, implies_true, false_implies, not_true_eq_false, not_false_eq_true]
    by_cases qb : b = 0
    · subst qb
      simp only [b_X_mark_16, xk_100 i2, xr_100_4 i2, mem20, mem21, mem22, al20, al21, al33, al34, al36, al37, al38, aa33, aa34, aa36, aa37, aa38, true_and, and_true, Int32.reduceOfNat, forall_const, true_implies, implies_true, false_implies, not_true_eq_false, not_false_eq_true]
      refine c_Ta_become (334 + 2 * k) 105 h tk t5 (by omega) _ ?_
      intro h1 fr1 e0 e1 e2 e3
      simp only [Option.toList, List.cons_append, List.nil_append, b_X_mark_20, fr1.K, tk.2.1, i01_1, rtZ1, mem20, mem21, mem22, al20, al21, al33, al34, al36, al37, al38, aa33, aa34, aa36, aa37, aa38, true_and, and_true, Int32.reduceOfNat, forall_const, true_implies, implies_true, false_implies, not_true_eq_false, not_false_eq_true]
      refine ⟨1, rfl, ?_⟩
      have fr2 : Fr (fun a => a = 334 + 2 * k ∨ a = 335 + 2 * k ∨ a = 342 ∨ a = 374 ∨ a = 375) (onl 376) h (sI h1 (334 + 2 * k) 0 1) := (fr1.mo (fun a z => by unfold tks2 at z; omega) (fun a z => z.elim)).sI (Or.inl rfl)
      have m2 := i3.fr fr2
      rw [e_M_mark, b_M_mark_0]
      simp only [mo m2, c_M_within, Option.toList, List.cons_append, List.nil_append, b_M_mark_7, b_M_mark_8, bw0, q, and_self, b_M_mark_24, b_M_mark_33, hK_sI, hR_sI, hN_sI, mr_40 m2, mr_41 m2, mk_374 m2, mn_374 m2, mk_375 m2, mn_375 m2, x4, ck, i01_1, b_M_mark_44, mem20, mem21, mem22, al20, al21, al33, al34, al36, al37, al38, aa33, aa34, aa36, aa37, aa38, true_and, and_true, Int32.reduceOfNat, forall_const, true_implies, implies_true, false_implies, not_true_eq_false, not_false_eq_true]
      have fr3 := ((fr2.sI (a := 342) (j := 0) (v := 0) (by omega)).sI (a := 374) (j := k) (v := 1) (by omega)).sI (a := 375) (j := k) (v := hI (sI (sI (sI h1 (334 + 2 * k) 0 1) 342 0 0) 374 k 1) 342 30) (by omega)
      have v30 : hI (sI (sI (sI h1 (334 + 2 * k) 0 1) 342 0 0) 374 k 1) 342 30 = nI nn := by
        rw [rI_sI (by decide), hI_same, if_neg (by decide), rI_sI (by omega), fr1.I (by unfold tks2; omega), s2]
      rw [v30] at fr3 ⊢
      refine w_M_mark0 k 0 (by omega) rfl _ (i3.fr fr3) _ ?_ 12 0 _ rfl Fr.rfl' (fun j hj => by omega) (fun j hj => rfl)
      intro h4 fr4 g4 g5
      refine ⟨rtZ1, rfl, ?_⟩
      have fr5 := fr3.tr (fr4.mo (fun a z => z.elim) (fun a z => z))
      have eI : ∀ a, hI h4 a = hI (sI (sI (sI (sI h1 (334 + 2 * k) 0 1) 342 0 0) 374 k 1) 375 k (nI nn)) a := fun a => fr4.I (fun z => z)
      have s342 : ∀ j, j ≠ 0 → hI h4 342 j = hI h 342 j := by
        intro j hj
        rw [eI, rI_sI (by decide), rI_sI (by decide), hI_same, if_neg hj, rI_sI (by omega), fr1.I (by unfold tks2; omega)]
      refine ⟨i1.fr fr5 (fun a z => by omega), i2.fr fr5, i3.fr fr5, by rw [fr5.K, fr5.N]; exact i4, i5.fr (fun a z => fr5.I (by omega)), i6.fr (by rw [fr5.I (by omega)]) (s342 15 (by decide)), i7.fr (fun a z => fr5.I (by omega)), i8.fr (by rw [fr5.I (by omega)]) (fr5.I (by omega)) (fr5.I (by omega)) (s342 2 (by decide)), i9.fr fr5 (fun a z => by omega), i10.fr fr5 (fun a z => by omega), ⟨nn, hnn, by rw [fr5.I (by omega)]; exact s1, by rw [s342 30 (by decide)]; exact s2⟩, i12.fr (fun a z => fr5.I (by omega)), i13.fr (by omega) (fr5.I (by omega)) (fun k hk => by rw [fr5.I (by omega)]) (fr5.J (by unfold onl; decide)) (fr5.J (by unfold onl; decide)), ?_, ?_⟩
      · intro t ht
        by_cases qt : t = k
        · subst qt
          refine ⟨?_, ?_, ⟨nn, hnn, ?_, ?_⟩, ?_, ?_⟩
          · rw [eI, rI_sI (by decide), hI_same, if_pos rfl]; exact i01_1
          · rw [eI, eI, rI_sI (by omega), rI_sI (by omega), rI_sI (by omega), hI_same, if_pos rfl, rI_sI (by decide), hI_same, if_pos rfl]
          · rw [eI, rI_sI (by omega), rI_sI (by omega), rI_sI (by omega), hI_same, if_neg (by decide), e1, s1]
          · rw [eI, hI_same, if_pos rfl]
          · intro j hj
            obtain ⟨v, a, b, e⟩ := i13.1 j hj
            refine ⟨v, by omega, ?_, ?_⟩
            · rw [eI, rI_sI (by omega), rI_sI (by omega), rI_sI (by omega), rI_sI (by omega), e2 j hj, b]
            · rw [g4 j (by omega), if_pos hj, hJ_sI, hJ_sI, hJ_sI, hJ_sI, fr1.J (fun z => z), ← e, Nat.zero_add]
          · intro j hj
            obtain ⟨v, a, b, e⟩ := i13.2 j hj
            refine ⟨v, by omega, ?_, ?_⟩
            · rw [eI, rI_sI (by omega), rI_sI (by omega), rI_sI (by omega), hI_same, if_neg (by omega), e3 j hj, b]
            · have := g4 (8 + j) (by omega)
              rw [if_neg (by omega)] at this
              rw [show 12 * t + 8 + j = 12 * t + (8 + j) by omega, this, show 8 + j - 8 = j by omega, hJ_sI, hJ_sI, hJ_sI, hJ_sI, fr1.J (fun z => z), ← e, Nat.zero_add]
        · obtain ⟨y0, y1, ⟨n', hn', y2, y3⟩, y4, y5⟩ := i14 t ht
          have c1 : ∀ j, hI h4 (334 + 2 * t) j = hI h (334 + 2 * t) j := fun j => by rw [fr5.I (by omega)]
          have c2 : ∀ j, hI h4 (334 + 2 * t + 1) j = hI h (334 + 2 * t + 1) j := fun j => by rw [fr5.I (by omega)]
          have c3 : hI h4 374 t = hI h 374 t := by
            rw [eI, rI_sI (by decide), hI_same, if_neg qt, rI_sI (by decide), rI_sI (by omega), fr1.I (by unfold tks2; omega)]
          have c4 : hI h4 375 t = hI h 375 t := by
            rw [eI, hI_same, if_neg qt, rI_sI (by decide), rI_sI (by decide), rI_sI (by omega), fr1.I (by unfold tks2; omega)]
          have c5 : ∀ j, j < 12 → hJ h4 376 (12 * t + j) = hJ h 376 (12 * t + j) := fun j hj => by
            rw [g5 _ (by omega), hJ_sI, hJ_sI, hJ_sI, hJ_sI, fr1.J (fun z => z)]
          refine ⟨by rw [c3]; exact y0, by rw [c1, c3]; exact y1, ⟨n', hn', by rw [c1]; exact y2, by rw [c4]; exact y3⟩, ?_, ?_⟩
          · intro j hj
            obtain ⟨v, a, b, e⟩ := y4 j hj
            exact ⟨v, by omega, by rw [c2]; exact b, by rw [c5 j (by omega)]; exact e⟩
          · intro j hj
            obtain ⟨v, a, b, e⟩ := y5 j hj
            exact ⟨v, by omega, by rw [c1]; exact b, by rw [show 12 * t + 8 + j = 12 * t + (8 + j) by omega, c5 (8 + j) (by omega)]; rw [show 12 * t + 8 + j = 12 * t + (8 + j) by omega] at e; exact e⟩
      · rw [fr5.z, fr5.u]
        exact ⟨i15.1, by omega, by omega⟩
    · simp only [qb, b_X_mark_25, tk.2.1, j1, mem20, mem21, mem22, al20, al21, al33, al34, al36, al37, al38, aa33, aa34, aa36, aa37, aa38, true_and, and_true, Int32.reduceOfNat, forall_const, true_implies, implies_true, false_implies, not_true_eq_false, not_false_eq_true]
      have no : (hI h 374 k = 0 ∨ ¬ nI n ≤ nI nn) → ∃ v : Int32, some (Value.int 0) = some (Value.int v) ∧ Cl 100 q_M_mark [.ref 342, .int (nI k), .int b] h (fun r' h2 => r' = some (.int v) ∧ Inv L xs (c + 1) h2) := by
        intro z
        refine ⟨0, rfl, ?_⟩
        rw [e_M_mark, b_M_mark_0]
        simp only [mo i3, mo m1, c_M_within, Option.toList, List.cons_append, List.nil_append, b_M_mark_7, b_M_mark_8, bw0, q, qb, and_self, b_M_mark_10, mr_40 m1, mr_41 m1, mk_374 m1, mn_374 m1, mk_375 m1, mn_375 m1, x4, ck, b_M_mark_15, b_M_mark_22, rI_sI (show 374 ≠ 342 by decide), rI_sI (show 375 ≠ 342 by decide), hI_same, show ¬ (30 : Nat) = 0 by decide, if_false, s2, j3, rtZ0, mem20, mem21, mem22, al20, al21, al33, al34, al36, al37, al38, aa33, aa34, aa36, aa37, aa38, true_and, and_true, Int32.reduceOfNat, forall_const, true_implies, implies_true, false_implies, not_true_eq_false, not_false_eq_true]
        refine ⟨fun _ => fin, fun z1 => ⟨fun z2 => ?_, fun _ => fin⟩⟩
        rcases z with z | z
        · exact absurd z z1
        · exact absurd z2 z
      by_cases q0 : hI h 374 k = 0
      · simp only [q0, b_X_mark_34, rtZ0, mem20, mem21, mem22, al20, al21, al33, al34, al36, al37, al38, aa33, aa34, aa36, aa37, aa38, true_and, and_true, Int32.reduceOfNat, forall_const, true_implies, implies_true, false_implies, not_true_eq_false, not_false_eq_true]
        exact no (Or.inl q0)
      · simp only [q0, b_X_mark_28, xk_100 i2, xr_100_4 i2, xk_105 i2, tk.2.1, j2, s1, mem20, mem21, mem22, al20, al21, al33, al34, al36, al37, al38, aa33, aa34, aa36, aa37, aa38, true_and, and_true, Int32.reduceOfNat, forall_const, true_implies, implies_true, false_implies, not_true_eq_false, not_false_eq_true]
        by_cases q1 : nI n ≤ nI nn
        · simp only [q1, b_X_mark_36, xk_100 i2, xr_100_4 i2, mem20, mem21, mem22, al20, al21, al33, al34, al36, al37, al38, aa33, aa34, aa36, aa37, aa38, true_and, and_true, Int32.reduceOfNat, forall_const, true_implies, implies_true, false_implies, not_true_eq_false, not_false_eq_true]
          refine c_Ta_become 105 (334 + 2 * k) h t5 tk (by omega) _ ?_
          intro h1 fr1 e0 e1 e2 e3
          simp only [Option.toList, List.cons_append, List.nil_append, b_X_mark_40, rtZ1, mem20, mem21, mem22, al20, al21, al33, al34, al36, al37, al38, aa33, aa34, aa36, aa37, aa38, true_and, and_true, Int32.reduceOfNat, forall_const, true_implies, implies_true, false_implies, not_true_eq_false, not_false_eq_true]
          refine ⟨1, rfl, ?_⟩
          have fr2 : Fr (fun a => a = 105 ∨ a = 106 ∨ a = 342) (fun a => a = 372 ∨ a = 373) h h1 := fr1.mo (fun a z => by unfold tks2 at z; omega) (fun a z => z.elim)
          have m2 := i3.fr fr2
          have w374 : hI h1 374 = hI h 374 := fr2.I (by omega)
          have w375 : hI h1 375 = hI h 375 := fr2.I (by omega)
          have w342 : hI h1 342 = hI h 342 := fr1.I (by unfold tks2; omega)
          rw [e_M_mark, b_M_mark_0]
          simp only [mo m2, c_M_within, Option.toList, List.cons_append, List.nil_append, b_M_mark_7, b_M_mark_8, bw0, q, qb, and_self, b_M_mark_10, hK_sI, hR_sI, hN_sI, mr_40 m2, mr_41 m2, mk_374 m2, mn_374 m2, mk_375 m2, mn_375 m2, x4, ck, b_M_mark_15, b_M_mark_24, b_M_mark_26, rI_sI (show 374 ≠ 342 by decide), rI_sI (show 375 ≠ 342 by decide), w374, w375, w342, q0, q1, hI_same, show ¬ (30 : Nat) = 0 by decide, if_false, s2, j3, b_M_mark_44, mem20, mem21, mem22, al20, al21, al33, al34, al36, al37, al38, aa33, aa34, aa36, aa37, aa38, true_and, and_true, Int32.reduceOfNat, forall_const, true_implies, implies_true, false_implies, not_true_eq_false, not_false_eq_true]
          have fr3 := (fr2.sI (a := 342) (j := 0) (v := 0) (by omega)).sI (a := 342) (j := 30) (v := nI n) (by omega)
          refine w_M_mark1 k b (by omega) qb _ (i3.fr fr3) _ ?_ 12 0 _ rfl Fr.rfl' (fun j hj => by omega)
          intro h4 fr4 g4
          refine ⟨rtZ1, rfl, ?_⟩
          have fr5 := fr3.tr (fr4.mo (fun a z => z.elim) (fun a z => z))
          have eI : ∀ a, hI h4 a = hI (sI (sI h1 342 0 0) 342 30 (nI n)) a := fun a => fr4.I (fun z => z)
          have s342 : ∀ j, j ≠ 0 → j ≠ 30 → hI h4 342 j = hI h 342 j := by
            intro j hj hj2
            rw [eI, hI_same, if_neg hj2, hI_same, if_neg hj, w342]
          refine ⟨i1.fr fr5 (fun a z => by omega), i2.fr fr5, i3.fr fr5, by rw [fr5.K, fr5.N]; exact i4, i5.fr (fun a z => fr5.I (by omega)), i6.fr (by rw [fr5.I (by omega)]) (s342 15 (by decide) (by decide)), i7.fr (fun a z => fr5.I (by omega)), i8.fr (by rw [fr5.I (by omega)]) (fr5.I (by omega)) (fr5.I (by omega)) (s342 2 (by decide) (by decide)), i9.fr fr5 (fun a z => by omega), i10.fr fr5 (fun a z => by omega), ⟨n, hn, ?_, ?_⟩, i12.fr (fun a z => fr5.I (by omega)), ⟨?_, ?_⟩, i14.fr (by omega) (fun a z => fr5.I (by omega)) (fr5.J (by omega)), ?_⟩
          · rw [eI, rI_sI (by decide), rI_sI (by decide), e1, j2]
          · rw [eI, hI_same, if_pos rfl]
          · intro j hj
            obtain ⟨v, a, b, e⟩ := j4.1 j hj
            have := g4 j (by omega)
            rw [if_pos hj, hJ_sI, hJ_sI, fr1.J (fun z => z), e] at this
            exact ⟨v, by omega, by rw [eI, rI_sI (by decide), rI_sI (by decide), e2 j hj, b], by rw [Nat.zero_add]; exact this⟩
          · intro j hj
            obtain ⟨v, a, b, e⟩ := j4.2 j hj
            have := g4 (8 + j) (by omega)
            rw [if_neg (by omega), hJ_sI, hJ_sI, fr1.J (fun z => z), show 12 * k + (8 + j) = 12 * k + 8 + j by omega, e, show 8 + j - 8 = j by omega] at this
            exact ⟨v, by omega, by rw [eI, rI_sI (by decide), rI_sI (by decide), e3 j hj, b], by rw [Nat.zero_add]; exact this⟩
          · rw [fr5.z, fr5.u]
            exact ⟨i15.1, by omega, by omega⟩
        · simp only [q1, b_X_mark_34, rtZ0, mem20, mem21, mem22, al20, al21, al33, al34, al36, al37, al38, aa33, aa34, aa36, aa37, aa38, true_and, and_true, Int32.reduceOfNat, forall_const, true_implies, implies_true, false_implies, not_true_eq_false, not_false_eq_true]
          exact no (Or.inr q1)
  · have no : ∃ v : Int32, some (Value.int 0) = some (Value.int v) ∧ Cl 100 q_M_mark [.ref 342, .int p, .int b] h (fun r' h2 => r' = some (.int v) ∧ Inv L xs (c + 1) h2) := by
      refine ⟨0, rfl, ?_⟩
      rw [e_M_mark, b_M_mark_0]
      simp only [mo i3, c_M_within, Option.toList, List.cons_append, List.nil_append, b_M_mark_7, bw0, q, b_M_mark_22, rtZ0, mem20, mem21, mem22, al20, al21, al33, al34, al36, al37, al38, aa33, aa34, aa36, aa37, aa38, true_and, and_true, Int32.reduceOfNat, forall_const, true_implies, implies_true, false_implies, not_true_eq_false, not_false_eq_true]
      exact fin
    refine ⟨xk_100 i2, ?_, ?_⟩
    · intro z
      rw [b_X_mark_7]
      exact ⟨rtZ0, no⟩
    · intro z
      have z2 : ¬ p < 4 := fun w => q ⟨Int32.not_lt.mp z, by
        obtain ⟨k, hk, rfl⟩ := n_ex 4 (Int32.not_lt.mp z) w (by decide)
        exact (nle (b := 3) (by omega) (by decide)).mpr (by omega)⟩
      rw [b_X_mark_2]
      simp only [xk_100 i2, xr_100_5 i2, xk_107 i2, xn_107 i2, z2, b_X_mark_7, rtZ0, mem20, mem21, mem22, al20, al21, al33, al34, al36, al37, al38, aa33, aa34, aa36, aa37, aa38, true_and, and_true, Int32.reduceOfNat, forall_const, true_implies, implies_true, false_implies, not_true_eq_false, not_false_eq_true]
      exact no
end OPS
