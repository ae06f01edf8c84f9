--deps: 76.fill
/-! SITTINGS -/
theorem nz4 : ¬ (4 : Nat) = 0 := by decide
theorem nz16 : ¬ (65536 : Nat) = 0 := by decide
theorem nz31 : ¬ (2147483648 : Nat) = 0 := by decide
theorem c_Si_begin {d : Nat} (r f n : Nat) (ti : Int32) (h : AH) (x : SIT h r) (y : PLN h f) (hd : r + 5 < f ∨ f + 3 < r) (hn : hI h f 3 = nI n) (hn2 : n ≤ 12) (Q : Option Value → AH → Prop)
    (hq : ∀ h', Fr (fun a => r ≤ a ∧ a ≤ r + 4) nov h h' → hI h' r 2 = ti → PCopy h h' f (r + 1) n → Q none h') : Cl (d + 3) q_Si_begin [.ref r, .ref f, .int ti] h Q := by
  obtain ⟨x0, x1, x2, x3, x4, x5, x6⟩ := x
  rw [e_Si_begin, b_Si_begin_0]
  simp only [x1, x2, mem20, mem21, mem22, al20, al21, al33, al34, al36, al37, al38, aa33, aa34, aa36, aa37, aa38, true_and, and_true, Int32.reduceOfNat, forall_const, true_implies, implies_true, false_implies, not_true_eq_false, not_false_eq_true]
  refine c_Pl_become (r + 1) f n h x4 y (by omega) hn hn2 _ ?_
  intro h' fr pc
  simp only [Option.toList, List.cons_append, List.nil_append, b_Si_begin_4, fr.K, x1, rtV, mem20, mem21, mem22, al20, al21, al33, al34, al36, al37, al38, aa33, aa34, aa36, aa37, aa38, true_and, and_true, Int32.reduceOfNat, forall_const, true_implies, implies_true, false_implies, not_true_eq_false, not_false_eq_true]
  refine hq _ ((fr.mo (by unfold pcs; omega) (fun a z => z)).sI ⟨by omega, by omega⟩) (by rw [hI_same, if_pos rfl]) ?_
  unfold PCopy at pc ⊢
  rw [rI_sI (by omega), rI_sI (by omega), rI_sI (by omega), rI_sI (by omega)]
  exact pc
theorem w_Si_draw {d : Nat} (r n jb s : Nat) (h0 : AH) (x0 : SIT h0 r) (hj : jb ≠ r + 5) (kj : hK h0 jb = 20 ∧ hN h0 jb = 144) (hn : hI h0 (r + 1) 3 = nI n) (hn2 : n ≤ 12) (hs : s < 2147483648) (Q : Option Value → AH → Prop)
    (fin : ∀ h', Fr (onl (r + 5)) nov h0 h' → (∀ i, i < 3 * n → hI h' (r + 5) i = hI h0 jb (4 * i + nzN (gi s (i + 1)))) → Q none h') : ∀ (m i : Nat) (h : AH) (v6 : Value), i + m = 3 * n → Fr (onl (r + 5)) nov h0 h → (∀ j, j < i → hI h (r + 5) j = hI h0 jb (4 * j + nzN (gi s (j + 1)))) →
    Wp d P_Si_draw 5 [.ref r, .int (nI s), .ref jb, .long (lN (gi s i)), .null, .int (nI i), v6] [] h Q := by
  intro m
  induction m with
  | zero =>
    intro i h v6 e fr k
    have ei : i = 3 * n := by omega
    have x := x0.fr fr
    have e1 : hI h (r + 1) = hI h0 (r + 1) := fr.I (by unfold onl; omega)
    have e2 : nI n * 3 = nI (3 * n) := by
      rw [show (3 : Int32) = nI 3 from rfl, nmul]; congr 1; omega
    rw [b_Si_draw_5]
    simp only [x.2.1, x.2.2.1, x.2.2.2.2.1.2.1, e1, hn, e2, ei, Int32.le_refl, b_Si_draw_53, mem20, mem21, mem22, al20, al21, al33, al34, al36, al37, al38, aa33, aa34, aa36, aa37, aa38, true_and, and_true, Int32.reduceOfNat, forall_const, true_implies, implies_true, false_implies, not_true_eq_false, not_false_eq_true]
    rw [ei] at k
    exact fin h fr k
  | succ m ih =>
    intro i h v6 e fr k
    have x := x0.fr fr
    have e1 : hI h (r + 1) = hI h0 (r + 1) := fr.I (by unfold onl; omega)
    have e3 : hI h jb = hI h0 jb := fr.I hj
    have e2 : nI n * 3 = nI (3 * n) := by
      rw [show (3 : Int32) = nI 3 from rfl, nmul]; congr 1; omega
    have z1 : ¬ nI (3 * n) ≤ nI i := mt (nle (by omega) (by omega)).mp (by omega)
    have z2 : ¬ 36 ≤ nI i := mt (nle (a := 36) (by decide) (by omega)).mp (by omega)
    have gl := gi_lt hs i
    have gl2 := gn_lt (gi s i)
    have nl := nz_lt (gn (gi s i))
    have e4 : nI i * 4 + nI (nzN (gn (gi s i))) = nI (4 * i + nzN (gn (gi s i))) := by
      rw [show (4 : Int32) = nI 4 from rfl, nmul, nadd]; congr 1; omega
    have z3 := n_nn (n := 4 * i + nzN (gn (gi s i))) (by omega)
    have z4 : ¬ 144 ≤ nI (4 * i + nzN (gn (gi s i))) := mt (nle (a := 144) (by decide) (by omega)).mp (by omega)
    have i1 : ixo (nI (4 * i + nzN (gn (gi s i)))) 144 = true := nix (by omega) (by decide)
    have i2 : ixo (nI i) 36 = true := nix (by omega) (by decide)
    rw [b_Si_draw_5]
    simp only [x.2.1, x.2.2.1, x.2.2.2.1, x.2.2.2.2.1.2.1, x.2.2.2.2.2.1, x.2.2.2.2.2.2, e1, hn, e2, z1, z2, b_Si_draw_12, b_Si_draw_17, l_gn gl, l_nz gl2, l_i32 nl, e4, z3, z4, b_Si_draw_41, b_Si_draw_45, b_Si_draw_50, fr.K jb, fr.N jb, kj.1, kj.2, i1, i2, cN (show i < 2147483648 by omega), cN (show 4 * i + nzN (gn (gi s i)) < 2147483648 by omega), nI_1, nz4, nz16, nz31, e3, mem20, mem21, mem22, al20, al21, al33, al34, al36, al37, al38, aa33, aa34, aa36, aa37, aa38, true_and, and_true, Int32.reduceOfNat, forall_const, true_implies, implies_true, false_implies, not_true_eq_false, not_false_eq_true]
    refine ih (i + 1) _ _ (by omega) (fr.sI rfl) ?_
    intro j hj
    rw [hI_same]
    by_cases q : j = i
    · rw [if_pos q, q]; rfl
    · rw [if_neg q]; exact k j (by omega)
theorem c_Si_draw {d : Nat} (r n jb s : Nat) (h : AH) (x : SIT h r) (hj : jb ≠ r + 5) (kj : hK h jb = 20 ∧ hN h jb = 144) (hn : hI h (r + 1) 3 = nI n) (hn2 : n ≤ 12) (hs : s < 2147483648) (Q : Option Value → AH → Prop)
    (fin : ∀ h', Fr (onl (r + 5)) nov h h' → (∀ i, i < 3 * n → hI h' (r + 5) i = hI h jb (4 * i + nzN (gi s (i + 1)))) → Q none h') : Cl (d + 1) q_Si_draw [.ref r, .int (nI s), .ref jb] h Q := by
  rw [e_Si_draw, b_Si_draw_0]
  have e : Int32.toInt64 (nI s) = lN (gi s 0) := nI_l hs
  rw [e]
  exact ⟨x.2.1, w_Si_draw r n jb s h x hj kj hn hn2 hs _ (fun h' f1 f2 => ⟨rtV, fin h' f1 f2⟩) (3 * n) 0 h _ (by omega) Fr.rfl' (fun j hj => by omega)⟩
theorem c_Si_jumpAt {d : Nat} (r q l : Nat) (h : AH) (x : SIT h r) (hq : q < 12) (hl : l < 3) (Q : Option Value → AH → Prop) : Cl (d + 1) q_Si_jumpAt [.ref r, .int (nI q), .int (nI l)] h Q ↔ Q (some (.int (hI h (r + 5) (3 * q + l)))) h := by
  obtain ⟨x0, x1, x2, x3, x4, x5, x6⟩ := x
  have e : nI q * 3 + nI l = nI (3 * q + l) := by
    rw [show (3 : Int32) = nI 3 from rfl, nmul, nadd]; congr 1; omega
  have z3 := n_nn (n := 3 * q + l) (by omega)
  have z4 : ¬ 36 ≤ nI (3 * q + l) := mt (nle (a := 36) (by decide) (by omega)).mp (by omega)
  have i1 : ixo (nI (3 * q + l)) 36 = true := nix (by omega) (by decide)
  simp only [e_Si_jumpAt, b_Si_jumpAt_0, b_Si_jumpAt_8, b_Si_jumpAt_13, b_Si_jumpAt_18, b_Si_jumpAt_19, e, z3, z4, i1, x1, x3, x5, x6, cN (show 3 * q + l < 2147483648 by omega), rtI, mem20, mem21, mem22, al20, al21, al33, al34, al36, al37, al38, aa33, aa34, aa36, aa37, aa38, true_and, and_true, Int32.reduceOfNat, forall_const, true_implies, implies_true, false_implies, not_true_eq_false, not_false_eq_true]
/-! the reference's -/
theorem w_M_habitOf {d : Nat} (p q : Nat) (h : AH) (m : MLY h) (hp : p < 5) (hq : q < 12) (Q : Option Value → AH → Prop) : ∀ (r i : Nat), i + r = q → (Wp d P_M_habitOf 4 [.ref 342, .int (nI p), .int (nI q), .int (nI (cnt (fun k => hI h 354 (12 * p + k)) (hI h 354 (12 * p + q)) i)), .int (nI i)] [] h Q ↔ Q (some (.int (nI (cnt (fun k => hI h 354 (12 * p + k)) (hI h 354 (12 * p + q)) q)))) h) := by
  intro r
  induction r with
  | zero =>
    intro i e
    have : i = q := by omega
    subst this
    rw [b_M_habitOf_4]
    simp only [Int32.le_refl, b_M_habitOf_32, mem20, mem21, mem22, al20, al21, al33, al34, al36, al37, al38, aa33, aa34, aa36, aa37, aa38, true_and, and_true, Int32.reduceOfNat, forall_const, true_implies, implies_true, false_implies, not_true_eq_false, not_false_eq_true]
  | succ r ih =>
    intro i e
    have h1 : ¬ nI q ≤ nI i := mt (nle (by omega) (by omega)).mp (by omega)
    have ihm := ih (i + 1) (by omega)
    have e1 : (12 : Int32) * nI p + nI i = nI (12 * p + i) := by
      rw [show (12 : Int32) = nI 12 from rfl, nmul, nadd]
    have e2 : (12 : Int32) * nI p + nI q = nI (12 * p + q) := by
      rw [show (12 : Int32) = nI 12 from rfl, nmul, nadd]
    have i1 : ixo (nI (12 * p + i)) 60 = true := nix (by omega) (by decide)
    have i2 : ixo (nI (12 * p + q)) 60 = true := nix (by omega) (by decide)
    rw [b_M_habitOf_4]
    simp only [h1, b_M_habitOf_7, b_M_habitOf_25, b_M_habitOf_27, e1, e2, i1, i2, cN (show 12 * p + i < 2147483648 by omega), cN (show 12 * p + q < 2147483648 by omega), mo m, mr_17 m, mk_354 m, mn_354 m, mem20, mem21, mem22, al20, al21, al33, al34, al36, al37, al38, aa33, aa34, aa36, aa37, aa38, true_and, and_true, Int32.reduceOfNat, forall_const, true_implies, implies_true, false_implies, not_true_eq_false, not_false_eq_true]
    have cs : cnt (fun k => hI h 354 (12 * p + k)) (hI h 354 (12 * p + q)) (i + 1) = cnt (fun k => hI h 354 (12 * p + k)) (hI h 354 (12 * p + q)) i + (if hI h 354 (12 * p + i) = hI h 354 (12 * p + q) then 1 else 0) := rfl
    rw [cs] at ihm
    by_cases qk : hI h 354 (12 * p + i) = hI h 354 (12 * p + q)
    · simp only [qk, if_true] at ihm
      simp only [qk, b_M_habitOf_28, nI_1, mem20, mem21, mem22, al20, al21, al33, al34, al36, al37, al38, aa33, aa34, aa36, aa37, aa38, true_and, and_true, Int32.reduceOfNat, forall_const, true_implies, implies_true, false_implies, not_true_eq_false, not_false_eq_true]
      exact ihm
    · simp only [qk, if_false, Nat.add_zero] at ihm
      simp only [qk, b_M_habitOf_28, nI_1, Int32.add_zero, mem20, mem21, mem22, al20, al21, al33, al34, al36, al37, al38, aa33, aa34, aa36, aa37, aa38, true_and, and_true, Int32.reduceOfNat, forall_const, true_implies, implies_true, false_implies, not_true_eq_false, not_false_eq_true]
      exact ihm
theorem c_M_habitOf {d : Nat} (p q : Nat) (h : AH) (m : MLY h) (hp : p < 5) (hq : q < 12) (Q : Option Value → AH → Prop) : Cl (d + 1) q_M_habitOf [.ref 342, .int (nI p), .int (nI q)] h Q ↔ Q (some (.int (nI (cnt (fun k => hI h 354 (12 * p + k)) (hI h 354 (12 * p + q)) q)))) h := by
  rw [e_M_habitOf, b_M_habitOf_0]
  have w := w_M_habitOf (d := d) p q h m hp hq (fun r h' => rtk (some .int) r = true ∧ Q r h') q 0 (by omega)
  simp only [mo m, true_and]
  exact w.trans (by simp only [rtI, true_and])
