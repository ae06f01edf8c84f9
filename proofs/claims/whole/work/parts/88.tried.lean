--deps: 87.ophits
/-! SITTINGS THAT ARE ONLY TRIED -/
def tv (J it : Nat → Int32) (ti : Int32) (n : Nat) (ks : Nat → Nat) (N : Nat) (cc : Nat → List Nat) (file : Int32) (sd : Nat) : Int32 := fdR (wF (stF n ks it ti (fun i => J (4 * i + nzN (gi sd (i + 1)))) (3 * n)) file) cc N 0
def TRL (h : AH) (n : Nat) (ks : Nat → Nat) (it : Nat → Int32) (ti : Int32) : Prop := n ≤ 12 ∧ hI h 136 3 = nI n ∧ hI h 135 2 = ti ∧ ∀ q, q < n → hI h 137 q = nI (ks q) ∧ hI h 138 q = it q ∧ ks q < 4 ∧ (ks q = 3 ↔ ¬ it q = -1)
theorem TRL.fr {S T : Nat → Prop} {h h' : AH} {n : Nat} {ks : Nat → Nat} {it : Nat → Int32} {ti : Int32} (t : TRL h n ks it ti) (p : Fr S T h h') (q : ∀ a, S a → a < 135 ∨ 138 < a) : TRL h' n ks it ti := by
  unfold TRL
  rw [p.I (a := 136) (fun z => by have := q _ z; omega), p.I (a := 135) (fun z => by have := q _ z; omega), p.I (a := 137) (fun z => by have := q _ z; omega), p.I (a := 138) (fun z => by have := q _ z; omega)]
  exact t
def trs (r : Nat) : Nat → Prop := fun a => a = 131 ∨ a = 140 ∨ a = r + 3
theorem c_X_tried {d : Nat} (r N n jb sd : Nat) (file : Int32) (ks : Nat → Nat) (J it : Nat → Int32) (ti : Int32) (cc : Nat → List Nat) (h : AH) (x : XLY h) (xr : XRd h r N cc) (hr : 145 < r) (hr2 : r + 3 < 378) (t : TRL h n ks it ti) (hjb : jb = 143 ∨ jb = 144) (hJ : ∀ j, j < 12 * n → hI h jb j = J j) (hsd : sd < 2147483648) (Q : Option Value → AH → Prop)
    (fin : ∀ h', Fr (trs r) nov h h' → Q (some (.int (tv J it ti n ks N cc file sd))) h') : Cl (d + 5) q_X_tried [.ref 100, .ref r, .int file, .int (nI sd), .ref jb] h Q := by
  have t0 := t
  obtain ⟨t1, t2, t3, t4⟩ := t
  have kj : hK h jb = 20 ∧ hN h jb = 144 := by
    rcases hjb with rfl | rfl
    · exact ⟨xk_143 x, xn_143 x⟩
    · exact ⟨xk_144 x, xn_144 x⟩
  rw [e_X_tried, b_X_tried_0]
  simp only [xk_100 x, xr_100_10 x, mem20, mem21, mem22, al20, al21, al33, al34, al36, al37, al38, aa33, aa34, aa36, aa37, aa38, true_and, and_true, Int32.reduceOfNat, forall_const, true_implies, implies_true, false_implies, not_true_eq_false, not_false_eq_true]
  refine c_Si_draw 135 n jb sd h (sit_135 x) (by omega) kj t2 t1 hsd _ ?_
  intro h1 fr1 g1
  have x1 := x.fr fr1
  simp only [Option.toList, List.cons_append, List.nil_append, b_X_tried_5, xk_100 x1, xr_100_8 x1, xr_100_10 x1, mem20, mem21, mem22, al20, al21, al33, al34, al36, al37, al38, aa33, aa34, aa36, aa37, aa38, true_and, and_true, Int32.reduceOfNat, forall_const, true_implies, implies_true, false_implies, not_true_eq_false, not_false_eq_true]
  have tt := t0.fr fr1 (by unfold onl; omega)
  obtain ⟨u1, u2, u3, u4⟩ := tt
  refine c_Ju_study 135 n ks h1 x1 (sit_135 x1) (by decide) u2 u1 (fun q hq => ?_) _ ?_
  · obtain ⟨w1, w2, w3, w4⟩ := u4 q hq
    have w2' : hI h1 (135 + 3) q = it q := w2
    rw [w2']
    exact ⟨w1, w3, w4⟩
  · intro h2 fr2 g2
    have x2 := x1.fr fr2
    simp only [Option.toList, List.cons_append, List.nil_append, b_X_tried_10, xk_100 x2, xr_100_8 x2, mem20, mem21, mem22, al20, al21, al33, al34, al36, al37, al38, aa33, aa34, aa36, aa37, aa38, true_and, and_true, Int32.reduceOfNat, forall_const, true_implies, implies_true, false_implies, not_true_eq_false, not_false_eq_true]
    have se : stF n ks (hI h1 (135 + 3)) (hI h1 135 2) (hI h1 (135 + 5)) (3 * n) = stF n ks it ti (fun i => J (4 * i + nzN (gi sd (i + 1)))) (3 * n) := by
      rw [u3]
      refine stF_ext (m := n) (fun q hq => (u4 q hq).2.1) ?_ _ (Nat.le_refl _)
      intro i hi
      have nl := nz_lt (gi sd (i + 1))
      rw [g1 i hi, hJ _ (by omega)]
    rw [se] at g2
    refine c_Ju_finds r N file cc _ h2 x2 ((xr.fr fr1 (by unfold onl; omega)).fr fr2 (by unfold onl; omega)) (by omega) hr2 (fun i hi _ => g2 i hi) _ ?_
    intro h3 fr3 g3
    simp only [Option.toList, List.cons_append, List.nil_append, b_X_tried_15]
    refine ⟨?_, fin h3 (((fr1.mo (by unfold onl trs; omega) (fun a z => z)).tr (fr2.mo (by unfold onl trs; omega) (fun a z => z))).tr (fr3.mo (by unfold ffs trs; omega) (fun a z => z)))⟩
    rcases fdR_01 (wF (stF n ks it ti (fun i => J (4 * i + nzN (gi sd (i + 1)))) (3 * n)) file) cc N 0 with q | q <;> rw [q]
    · exact rtZ0
    · exact rtZ1
def hN' (t : Nat → Int32) : Nat → Nat
  | 0 => 0
  | s + 1 => hN' t s + if t s = 0 then 0 else 1
/-- the seeds of one person -/
theorem w_X_addRates {d : Nat} (r N n sn side : Nat) (file : Int32) (ks : Nat → Nat) (J it : Nat → Int32) (ti : Int32) (cc : Nat → List Nat) (R : Nat → Nat) (h0 : AH) (x0 : XLY h0) (xr : XRd h0 r N cc) (hr : 145 < r) (hr2 : r + 3 < 378) (t : TRL h0 n ks it ti) (hJ : ∀ j, j < 12 * n → hI h0 143 j = J j) (hsn : sn < 2147483648) (hside : side = 0 ∨ side = 2) (g0 : ∀ i, i < 4 → hI h0 145 i = nI (R i)) (Q : Option Value → AH → Prop)
    (fin : ∀ h', Fr (fun a => trs r a ∨ a = 145) nov h0 h' → (∀ i, i < 4 → hI h' 145 i = nI (if i = side then R i + hN' (tv J it ti n ks N cc file) sn else if i = side + 1 then R i + sn else R i)) → Q none h') : ∀ (m s : Nat) (h : AH), s + m = sn → Fr (fun a => trs r a ∨ a = 145) nov h0 h → (∀ i, i < 4 → hI h 145 i = nI (if i = side then R i + hN' (tv J it ti n ks N cc file) s else R i)) →
    Wp (d + 5) P_X_addRates 12 [.ref 100, .ref r, .int file, .int (nI sn), .int (nI side), .int (nI s)] [] h Q := by
  have i1 : ixo (nI side) 4 = true := nix (by omega) (by decide)
  have i2 : ixo (nI (side + 1)) 4 = true := nix (by omega) (by decide)
  have c1 := cN (n := side) (by omega)
  have c2 := cN (n := side + 1) (by omega)
  intro m
  induction m with
  | zero =>
    intro s h e fr g
    have : s = sn := by omega
    subst this
    have x := x0.fr fr
    rw [b_X_addRates_12]
    simp only [Int32.le_refl, b_X_addRates_33, xk_100 x, xr_100_15 x, xk_145 x, xn_145 x, nI_1, i2, c2, mem20, mem21, mem22, al20, al21, al33, al34, al36, al37, al38, aa33, aa34, aa36, aa37, aa38, true_and, and_true, Int32.reduceOfNat, forall_const, true_implies, implies_true, false_implies, not_true_eq_false, not_false_eq_true]
    refine fin _ (fr.sI (Or.inr rfl)) ?_
    intro i hi
    rw [hI_same]
    by_cases q : i = side + 1
    · rw [if_pos q, ← q, g i hi, if_neg (by omega), if_neg (by omega), if_pos rfl, nadd]
    · rw [if_neg q, g i hi]
      by_cases q2 : i = side
      · rw [if_pos q2, if_pos q2]
      · rw [if_neg q2, if_neg q2, if_neg q]
  | succ m ih =>
    intro s h e fr g
    have x := x0.fr fr
    have z : ¬ nI sn ≤ nI s := mt (nle (by omega) (by omega)).mp (by omega)
    rw [b_X_addRates_12]
    simp only [z, b_X_addRates_15, xk_100 x, xr_100_13 x, mem20, mem21, mem22, al20, al21, al33, al34, al36, al37, al38, aa33, aa34, aa36, aa37, aa38, true_and, and_true, Int32.reduceOfNat, forall_const, true_implies, implies_true, false_implies, not_true_eq_false, not_false_eq_true]
    refine c_X_tried r N n 143 s file ks J it ti cc h x (xr.fr fr (by unfold trs; omega)) hr hr2 (t.fr fr (by unfold trs; omega)) (Or.inl rfl) (fun j hj => by rw [fr.I (by unfold trs; omega)]; exact hJ j hj) (by omega) _ ?_
    intro h1 fr1
    have x1 := x.fr fr1
    have g1 : hI h1 145 = hI h 145 := fr1.I (by unfold trs; omega)
    have frA : Fr (fun a => trs r a ∨ a = 145) nov h0 h1 := fr.tr (fr1.mo (fun a z => Or.inl z) (fun a z => z))
    simp only [Option.toList, List.cons_append, List.nil_append, b_X_addRates_22, b_X_addRates_23, b_X_addRates_31, xk_100 x1, xr_100_15 x1, xk_145 x1, xn_145 x1, i1, c1, nI_1, mem20, mem21, mem22, al20, al21, al33, al34, al36, al37, al38, aa33, aa34, aa36, aa37, aa38, true_and, and_true, Int32.reduceOfNat, forall_const, true_implies, implies_true, false_implies, not_true_eq_false, not_false_eq_true]
    have hs : hN' (tv J it ti n ks N cc file) (s + 1) = hN' (tv J it ti n ks N cc file) s + if tv J it ti n ks N cc file s = 0 then 0 else 1 := rfl
    by_cases q : tv J it ti n ks N cc file s = 0
    · simp only [q, mem20, mem21, mem22, al20, al21, al33, al34, al36, al37, al38, aa33, aa34, aa36, aa37, aa38, true_and, and_true, Int32.reduceOfNat, forall_const, true_implies, implies_true, false_implies, not_true_eq_false, not_false_eq_true]
      refine ih (s + 1) h1 (by omega) frA ?_
      intro i hi
      rw [g1, hs, if_pos q, Nat.add_zero]
      exact g i hi
    · simp only [q, mem20, mem21, mem22, al20, al21, al33, al34, al36, al37, al38, aa33, aa34, aa36, aa37, aa38, true_and, and_true, Int32.reduceOfNat, forall_const, true_implies, implies_true, false_implies, not_true_eq_false, not_false_eq_true]
      refine ih (s + 1) _ (by omega) (frA.sI (Or.inr rfl)) ?_
      intro i hi
      rw [hI_same, g1, hs, if_neg q]
      by_cases q2 : i = side
      · rw [if_pos q2, if_pos q2, ← q2, g i hi, if_pos q2, nI_1, Nat.add_assoc]
      · rw [if_neg q2, if_neg q2, g i hi, if_neg q2]
theorem c_X_addRates {d : Nat} (r N n sn side : Nat) (file : Int32) (ks : Nat → Nat) (J it : Nat → Int32) (ti : Int32) (cc : Nat → List Nat) (R : Nat → Nat) (h : AH) (x : XLY h) (xr : XRd h r N cc) (hr : 145 < r) (hr2 : r + 3 < 378) (t : TRL h n ks it ti) (hJ : ∀ j, j < 12 * n → hI h 143 j = J j) (hsn : sn < 2147483648) (hside : side = 0 ∨ side = 2) (g : ∀ i, i < 4 → hI h 145 i = nI (R i)) (Q : Option Value → AH → Prop)
    (fin : ∀ h', Fr (fun a => trs r a ∨ a = 145) nov h h' → (∀ i, i < 4 → hI h' 145 i = nI (if i = side then R i + hN' (tv J it ti n ks N cc file) sn else if i = side + 1 then R i + sn else R i)) → Q none h') : Cl (d + 6) q_X_addRates [.ref 100, .ref r, .int file, .int (nI sn), .int (nI side)] h Q := by
  have z1 := n_nn (n := side) (by omega)
  have z2 : nI (side + 1) < 4 := (nlt (b := 4) (by omega) (by decide)).mpr (by omega)
  rw [e_X_addRates, b_X_addRates_0]
  simp only [z1, b_X_addRates_2, xk_100 x, xr_100_15 x, xk_145 x, xn_145 x, nI_1, z2, b_X_addRates_10, mem20, mem21, mem22, al20, al21, al33, al34, al36, al37, al38, aa33, aa34, aa36, aa37, aa38, true_and, and_true, Int32.reduceOfNat, forall_const, true_implies, implies_true, false_implies, not_true_eq_false, not_false_eq_true]
  exact w_X_addRates r N n sn side file ks J it ti cc R h x xr hr hr2 t hJ hsn hside g _ (fun h' a b => ⟨rtV, fin h' a b⟩) sn 0 h (by omega) Fr.rfl' (fun i hi => by rw [g i hi]; show _ = nI (if i = side then R i + 0 else R i); split <;> rfl)
