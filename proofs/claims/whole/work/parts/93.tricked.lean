--deps: 91.oprates
/-! TRICKED -/
def trN (t u : Nat → Int32) : Nat → Nat
  | 0 => 0
  | s + 1 => trN t u s + if t s = u s then 0 else 1
def tks (r : Nat) : Nat → Prop := fun a => a = 126 ∨ a = 128 ∨ a = 142 ∨ a = 143 ∨ a = 144 ∨ (135 ≤ a ∧ a ≤ 139) ∨ trs r a
theorem w_X_tricked {d : Nat} (k j r n N sn : Nat) (ks : Nat → Nat) (J0 J1 it : Nat → Int32) (ti : Int32) (cc : Nat → List Nat) (h0 : AH) (x0 : XLY h0) (hr : r < 4) (xr : XRd h0 (170 + 5 * r) N cc) (t : TRL h0 n ks it ti) (hJ0 : ∀ i, i < 12 * n → hI h0 143 i = J0 i) (hJ1 : ∀ i, i < 12 * n → hI h0 144 i = J1 i) (hsn : sn < 2147483648) (Q : Option Value → AH → Prop)
    (fin : ∀ h', Fr (trs (170 + 5 * r)) nov h0 h' → Q (some (.int (nI (trN (tv J0 it ti n ks N cc 0) (tv J1 it ti n ks N cc 0) sn)))) h') : ∀ (m s : Nat) (h : AH), s + m = sn → Fr (trs (170 + 5 * r)) nov h0 h →
    Wp (d + 5) P_X_tricked 72 [.ref 100, .int (nI k), .int (nI j), .int (nI r), .int (nI sn), .ref (146 + k), .ref (154 + 4 * j), .ref (170 + 5 * r), .int (nI (trN (tv J0 it ti n ks N cc 0) (tv J1 it ti n ks N cc 0) s)), .int (nI s)] [] h Q := by
  intro m
  induction m with
  | zero =>
    intro s h e fr
    have : s = sn := by omega
    subst this
    rw [b_X_tricked_72]
    simp only [Int32.le_refl, b_X_tricked_93, mem20, mem21, mem22, al20, al21, al33, al34, al36, al37, al38, aa33, aa34, aa36, aa37, aa38, true_and, and_true, Int32.reduceOfNat, forall_const, true_implies, implies_true, false_implies, not_true_eq_false, not_false_eq_true]
    exact fin h fr
  | succ m ih =>
    intro s h e fr
    have x := x0.fr fr
    have z : ¬ nI sn ≤ nI s := mt (nle (by omega) (by omega)).mp (by omega)
    rw [b_X_tricked_72]
    simp only [z, b_X_tricked_75, xk_100 x, xr_100_13 x, mem20, mem21, mem22, al20, al21, al33, al34, al36, al37, al38, aa33, aa34, aa36, aa37, aa38, true_and, and_true, Int32.reduceOfNat, forall_const, true_implies, implies_true, false_implies, not_true_eq_false, not_false_eq_true]
    refine c_X_tried (170 + 5 * r) N n 143 s 0 ks J0 it ti cc h x (xr.fr fr (by unfold trs; omega)) (by omega) (by omega) (t.fr fr (by unfold trs; omega)) (Or.inl rfl) (fun j hj => by rw [fr.I (by unfold trs; omega)]; exact hJ0 j hj) (by omega) _ ?_
    intro h1 fr1
    have x1 := x.fr fr1
    have frA := fr.tr fr1
    simp only [Option.toList, List.cons_append, List.nil_append, b_X_tricked_82, xk_100 x1, xr_100_14 x1, mem20, mem21, mem22, al20, al21, al33, al34, al36, al37, al38, aa33, aa34, aa36, aa37, aa38, true_and, and_true, Int32.reduceOfNat, forall_const, true_implies, implies_true, false_implies, not_true_eq_false, not_false_eq_true]
    refine c_X_tried (170 + 5 * r) N n 144 s 0 ks J1 it ti cc h1 x1 (xr.fr frA (by unfold trs; omega)) (by omega) (by omega) (t.fr frA (by unfold trs; omega)) (Or.inr rfl) (fun j hj => by rw [frA.I (by unfold trs; omega)]; exact hJ1 j hj) (by omega) _ ?_
    intro h2 fr2
    have ihm := ih (s + 1) h2 (by omega) (frA.tr fr2)
    have hs : trN (tv J0 it ti n ks N cc 0) (tv J1 it ti n ks N cc 0) (s + 1) = trN (tv J0 it ti n ks N cc 0) (tv J1 it ti n ks N cc 0) s + if tv J0 it ti n ks N cc 0 s = tv J1 it ti n ks N cc 0 s then 0 else 1 := rfl
    rw [hs] at ihm
    simp only [Option.toList, List.cons_append, List.nil_append, b_X_tricked_89, b_X_tricked_90, b_X_tricked_91, nI_1]
    by_cases q : tv J0 it ti n ks N cc 0 s = tv J1 it ti n ks N cc 0 s
    · rw [if_pos q] at ihm
      simp only [q, mem20, mem21, mem22, al20, al21, al33, al34, al36, al37, al38, aa33, aa34, aa36, aa37, aa38, true_and, and_true, Int32.reduceOfNat, forall_const, true_implies, implies_true, false_implies, not_true_eq_false, not_false_eq_true]
      exact ihm
    · rw [if_neg q] at ihm
      simp only [q, mem20, mem21, mem22, al20, al21, al33, al34, al36, al37, al38, aa33, aa34, aa36, aa37, aa38, true_and, and_true, Int32.reduceOfNat, forall_const, true_implies, implies_true, false_implies, not_true_eq_false, not_false_eq_true]
      exact ihm
theorem jrow_at {bd : Nat → Option (List Nat)} {kd it kd' it' : Nat → Int32} {ti ti' fe dn hd tr fe' dn' hd' tr' : Int32} {n : Nat} (e : ∀ q, q < n → kd q = kd' q ∧ it q = it' q) (e1 : ti = ti') (e2 : fe = fe') (e3 : dn = dn') (e4 : hd = hd') (e5 : tr = tr') {j : Nat} (hj : j < 12 * n) : jrow bd kd it ti fe dn hd tr j = jrow bd kd' it' ti' fe' dn' hd' tr' j := by
  subst e1; subst e2; subst e3; subst e4; subst e5
  exact jrow_ext e hj
theorem c_X_tricked1 {d : Nat} (k j r n N sn : Nat) (bd : Nat → Option (List Nat)) (ks : Nat → Nat) (kd it : Nat → Int32) (ti : Int32) (cc : Nat → List Nat) (h : AH) (x : XLY h) (b : XBd h bd) (hk : k < 8) (hj : j < 4) (hr : r < 4) (xr : XRd h (170 + 5 * r) N cc) (t1 : ¬ hI h (146 + k) 0 = 0) (b2 : i01 (hI h (146 + k) 2) = true) (hn : hI h (154 + 4 * j) 3 = nI n) (hn2 : n ≤ 12) (hn0 : 0 < n) (hti : hI h 122 3 = ti) (hkd : ∀ q, q < n → hI h (155 + 4 * j) q = kd q ∧ hI h (156 + 4 * j) q = it q) (hks : ∀ q, q < n → kd q = nI (ks q) ∧ ks q < 4 ∧ (ks q = 3 ↔ ¬ it q = -1)) (hsn0 : 0 < sn) (hsn : sn ≤ 40) (Q : Option Value → AH → Prop)
    (fin : ∀ h', Fr (tks (170 + 5 * r)) nov h h' → Q (some (.int (nI (trN (tv (jrow bd kd it ti (hI h (146 + k) 1) (hI h (146 + k) 2) (hI h (146 + k) 3) 0) it ti n ks N cc 0) (tv (jrow bd kd it ti (hI h (146 + k) 1) (hI h (146 + k) 2) (hI h (146 + k) 3) 1) it ti n ks N cc 0) sn)))) h') : Cl (d + 7) q_X_tricked [.ref 100, .int (nI k), .int (nI j), .int (nI r), .int (nI sn)] h Q := by
  have cj := cN (n := j) (by omega)
  have ck := cN (n := k) (by omega)
  have cr := cN (n := r) (by omega)
  have k1 : (0 : Int32) ≤ nI k ∧ nI k ≤ 7 := ⟨(nle (a := 0) (by decide) (by omega)).mpr (by omega), (nle (b := 7) (by omega) (by decide)).mpr (by omega)⟩
  have j1 : (0 : Int32) ≤ nI j ∧ nI j ≤ 3 := ⟨(nle (a := 0) (by decide) (by omega)).mpr (by omega), (nle (b := 3) (by omega) (by decide)).mpr (by omega)⟩
  have r1 : (0 : Int32) ≤ nI r ∧ nI r ≤ 3 := ⟨(nle (a := 0) (by decide) (by omega)).mpr (by omega), (nle (b := 3) (by omega) (by decide)).mpr (by omega)⟩
  have s1 : (1 : Int32) ≤ nI sn ∧ nI sn ≤ 40 := ⟨(nle (a := 1) (by decide) (by omega)).mpr (by omega), (nle (b := 40) (by omega) (by decide)).mpr (by omega)⟩
  have t0 : ¬ hI h (154 + 4 * j) 3 = 0 := by rw [hn]; exact mt (neq (b := 0) (by omega) (by decide)).mp (by omega)
  have z1 : ¬ 154 + 4 * j = 0 := by omega
  have z2 : 100 ≤ 154 + 4 * j := by omega
  have z3 : ¬ 170 + 5 * r = 0 := by omega
  have z4 : 100 ≤ 170 + 5 * r := by omega
  have z5 : ¬ 146 + k = 0 := by omega
  have z6 : 100 ≤ 146 + k := by omega
  have gk := g_pe_k x (p := k) (by omega)
  rw [e_X_tricked, b_X_tricked_0]
  simp only [c_X_toldPerson _ h x, c_X_toldPlan _ h x, c_X_readerOf _ h x, cj, ck, cr, j1, k1, r1, t0, t1, not_false_eq_true, and_self, if_true, Option.toList, List.cons_append, List.nil_append, b_X_tricked_3, b_X_tricked_7, b_X_tricked_11, b_X_tricked_14, b_X_tricked_16, z1, z2, z3, z4, z5, z6, or_true, b_X_tricked_18, c_within, bw0, b_X_tricked_22, s1, b_X_tricked_25, xk_100 x, xr_100_12 x, gk, c_Pe_tell 142 _ _ _ _ h (xk_142 x) b2 i01_0, mem20, mem21, mem22, al20, al21, al33, al34, al36, al37, al38, aa33, aa34, aa36, aa37, aa38, true_and, and_true, Int32.reduceOfNat, forall_const, true_implies, implies_true, false_implies, not_true_eq_false, not_false_eq_true]
  have fr1 : Fr (tks (170 + 5 * r)) nov h (sI (sI (sI (sI (sI h 142 0 1) 142 1 (hI h (146 + k) 1)) 142 2 (hI h (146 + k) 2)) 142 3 (hI h (146 + k) 3)) 142 4 0) := ((((Fr.rfl'.sI (by unfold tks; omega)).sI (by unfold tks; omega)).sI (by unfold tks; omega)).sI (by unfold tks; omega)).sI (by unfold tks; omega)
  have o1 : hI (sI (sI (sI (sI (sI h 142 0 1) 142 1 (hI h (146 + k) 1)) 142 2 (hI h (146 + k) 2)) 142 3 (hI h (146 + k) 3)) 142 4 0) 142 1 = hI h (146 + k) 1 := by simp [hI_sI]
  have o2 : hI (sI (sI (sI (sI (sI h 142 0 1) 142 1 (hI h (146 + k) 1)) 142 2 (hI h (146 + k) 2)) 142 3 (hI h (146 + k) 3)) 142 4 0) 142 2 = hI h (146 + k) 2 := by simp [hI_sI]
  have o3 : hI (sI (sI (sI (sI (sI h 142 0 1) 142 1 (hI h (146 + k) 1)) 142 2 (hI h (146 + k) 2)) 142 3 (hI h (146 + k) 3)) 142 4 0) 142 3 = hI h (146 + k) 3 := by simp [hI_sI]
  have o4 : hI (sI (sI (sI (sI (sI h 142 0 1) 142 1 (hI h (146 + k) 1)) 142 2 (hI h (146 + k) 2)) 142 3 (hI h (146 + k) 3)) 142 4 0) 142 4 = 0 := by simp [hI_sI]
  generalize sI (sI (sI (sI (sI h 142 0 1) 142 1 (hI h (146 + k) 1)) 142 2 (hI h (146 + k) 2)) 142 3 (hI h (146 + k) 3)) 142 4 0 = h1 at fr1 o1 o2 o3 o4 ⊢
  have x1 := x.fr fr1
  have ec : ∀ {h' : AH}, Fr (tks (170 + 5 * r)) nov h h' → ∀ a, (146 ≤ a ∧ a < 170) ∨ a = 122 → hI h' a = hI h a := fun f a ha => f.I (by unfold tks trs; omega)
  simp only [b_X_tricked_35, xk_100 x1, xr_100_7 x1, xr_100_12 x1, xr_100_13 x1, mem20, mem21, mem22, al20, al21, al33, al34, al36, al37, al38, aa33, aa34, aa36, aa37, aa38, true_and, and_true, Int32.reduceOfNat, forall_const, true_implies, implies_true, false_implies, not_true_eq_false, not_false_eq_true]
  refine c_Ch_fill 142 (154 + 4 * j) n 143 bd h1 (Or.inl rfl) x1 (b.fr fr1 (by unfold tks trs; omega)) (xk_142 x1) (pln_pl x1 hj) (by omega) (by rw [ec fr1 _ (by omega)]; exact hn) hn2 _ ?_
  intro h2 fr2 g2
  rw [ec fr1 _ (by omega), ec fr1 _ (by omega), ec fr1 122 (by omega), o1, o2, o3, o4] at g2
  have frB : Fr (tks (170 + 5 * r)) nov h h2 := fr1.tr (fr2.mo (by unfold fcs tks; omega) (fun a z => z))
  have x2 := x.fr frB
  have gk2 := g_pe_k x2 (p := k) (by omega)
  have ek := ec frB (146 + k) (by omega)
  simp only [Option.toList, List.cons_append, List.nil_append, b_X_tricked_43, xk_100 x2, xr_100_12 x2, gk2, ek, c_Pe_tell 142 _ _ _ _ h2 (xk_142 x2) b2 i01_1, mem20, mem21, mem22, al20, al21, al33, al34, al36, al37, al38, aa33, aa34, aa36, aa37, aa38, true_and, and_true, Int32.reduceOfNat, forall_const, true_implies, implies_true, false_implies, not_true_eq_false, not_false_eq_true]
  have fr3 : Fr (onl 142) nov h2 (sI (sI (sI (sI (sI h2 142 0 1) 142 1 (hI h (146 + k) 1)) 142 2 (hI h (146 + k) 2)) 142 3 (hI h (146 + k) 3)) 142 4 1) := Fs1 (Fs1 (Fs1 (Fs1 (Fs1 Fr.rfl'))))
  have q1 : hI (sI (sI (sI (sI (sI h2 142 0 1) 142 1 (hI h (146 + k) 1)) 142 2 (hI h (146 + k) 2)) 142 3 (hI h (146 + k) 3)) 142 4 1) 142 1 = hI h (146 + k) 1 := by simp [hI_sI]
  have q2 : hI (sI (sI (sI (sI (sI h2 142 0 1) 142 1 (hI h (146 + k) 1)) 142 2 (hI h (146 + k) 2)) 142 3 (hI h (146 + k) 3)) 142 4 1) 142 2 = hI h (146 + k) 2 := by simp [hI_sI]
  have q3 : hI (sI (sI (sI (sI (sI h2 142 0 1) 142 1 (hI h (146 + k) 1)) 142 2 (hI h (146 + k) 2)) 142 3 (hI h (146 + k) 3)) 142 4 1) 142 3 = hI h (146 + k) 3 := by simp [hI_sI]
  have q4 : hI (sI (sI (sI (sI (sI h2 142 0 1) 142 1 (hI h (146 + k) 1)) 142 2 (hI h (146 + k) 2)) 142 3 (hI h (146 + k) 3)) 142 4 1) 142 4 = 1 := by simp [hI_sI]
  generalize sI (sI (sI (sI (sI h2 142 0 1) 142 1 (hI h (146 + k) 1)) 142 2 (hI h (146 + k) 2)) 142 3 (hI h (146 + k) 3)) 142 4 1 = h3 at fr3 q1 q2 q3 q4 ⊢
  have frC : Fr (tks (170 + 5 * r)) nov h h3 := frB.tr (fr3.mo (by unfold onl tks; omega) (fun a z => z))
  have x3 := x.fr frC
  simp only [b_X_tricked_53, xk_100 x3, xr_100_7 x3, xr_100_12 x3, xr_100_14 x3, mem20, mem21, mem22, al20, al21, al33, al34, al36, al37, al38, aa33, aa34, aa36, aa37, aa38, true_and, and_true, Int32.reduceOfNat, forall_const, true_implies, implies_true, false_implies, not_true_eq_false, not_false_eq_true]
  refine c_Ch_fill 142 (154 + 4 * j) n 144 bd h3 (Or.inr rfl) x3 (b.fr frC (by unfold tks trs; omega)) (xk_142 x3) (pln_pl x3 hj) (by omega) (by rw [ec frC _ (by omega)]; exact hn) hn2 _ ?_
  intro h4 fr4 g4
  rw [ec frC _ (by omega), ec frC _ (by omega), ec frC 122 (by omega), q1, q2, q3, q4] at g4
  have frD : Fr (tks (170 + 5 * r)) nov h h4 := frC.tr (fr4.mo (by unfold fcs tks; omega) (fun a z => z))
  have x4 := x.fr frD
  have e122 := ec frD 122 (by omega)
  simp only [Option.toList, List.cons_append, List.nil_append, b_X_tricked_61, xk_100 x4, xr_100_7 x4, xr_100_10 x4, xk_122 x4, e122, hti, mem20, mem21, mem22, al20, al21, al33, al34, al36, al37, al38, aa33, aa34, aa36, aa37, aa38, true_and, and_true, Int32.reduceOfNat, forall_const, true_implies, implies_true, false_implies, not_true_eq_false, not_false_eq_true]
  refine c_Si_begin 135 (154 + 4 * j) n ti h4 (sit_135 x4) (pln_pl x4 hj) (by omega) (by rw [ec frD _ (by omega)]; exact hn) hn2 _ ?_
  intro h5 fr5 t5 pc
  have frE : Fr (tks (170 + 5 * r)) nov h h5 := frD.tr (fr5.mo (by unfold tks; omega) (fun a z => z))
  have x5 := x.fr frE
  have tr : TRL h5 n ks it ti := by
    refine ⟨hn2, pc.1, t5, fun q hq => ?_⟩
    obtain ⟨p1, p2, p3⟩ := pc.2 q hq
    obtain ⟨w1, w2, w3⟩ := hks q hq
    have f1 : hI h4 (154 + 4 * j + 1) = hI h (155 + 4 * j) := by rw [ec frD _ (by omega), show 154 + 4 * j + 1 = 155 + 4 * j by omega]
    have f2 : hI h4 (154 + 4 * j + 2) = hI h (156 + 4 * j) := by rw [ec frD _ (by omega), show 154 + 4 * j + 2 = 156 + 4 * j by omega]
    rw [f1] at p1
    rw [f2] at p2
    refine ⟨(p1.trans (hkd q hq).1).trans w1, p2.trans (hkd q hq).2, w2, w3⟩
  have hkd' : ∀ q, q < n → hI h (154 + 4 * j + 1) q = kd q ∧ hI h (154 + 4 * j + 2) q = it q := fun q hq => by
    rw [show 154 + 4 * j + 1 = 155 + 4 * j by omega, show 154 + 4 * j + 2 = 156 + 4 * j by omega]
    exact hkd q hq
  simp only [Option.toList, List.cons_append, List.nil_append, b_X_tricked_68]
  refine w_X_tricked k j r n N sn ks (jrow bd kd it ti (hI h (146 + k) 1) (hI h (146 + k) 2) (hI h (146 + k) 3) 0) (jrow bd kd it ti (hI h (146 + k) 1) (hI h (146 + k) 2) (hI h (146 + k) 3) 1) it ti cc h5 x5 hr (xr.fr frE (by unfold tks trs; omega)) tr ?_ ?_ (by omega) _ ?_ sn 0 h5 (by omega) Fr.rfl'
  · intro i hi
    rw [fr5.I (by omega), fr4.I (by unfold fcs; omega), fr3.I (by unfold onl; omega), g2 i hi]
    exact jrow_at hkd' hti rfl rfl rfl rfl hi
  · intro i hi
    rw [fr5.I (by omega), g4 i hi]
    exact jrow_at hkd' hti rfl rfl rfl rfl hi
  · intro h6 fr6
    exact ⟨rtI _, fin h6 (frE.tr (fr6.mo (by unfold tks trs; omega) (fun a z => z)))⟩
/-! the reference's -/
theorem w_M_tricked {d : Nat} (k j r n N sn : Nat) (bd : Nat → Option (List Nat)) (ks : Nat → Nat) (kd it : Nat → Int32) (cc : Nat → List Nat) (h0 : AH) (m0 : MLY h0) (b0 : MBA h0 bd) (hk : k < 8) (hj : j < 4) (hr : r < 4) (mr0 : MRd h0 r N cc) (hn : hI h0 353 j = nI n) (hn2 : n ≤ 12) (hkd : kd = fun q => hI h0 354 (12 * j + q)) (hit : it = fun q => hI h0 355 (12 * j + q)) (hks : ∀ q, q < n → kd q = nI (ks q) ∧ ks q < 4 ∧ (ks q = 3 ↔ ¬ it q = -1)) (ti : 0 ≤ hI h0 342 15) (hsn : sn < 2147483648) (T : Int32 → Nat → Int32) (hT : T = fun tr => tv (jrow bd kd it (hI h0 342 15) (hI h0 349 k) (hI h0 350 k) (hI h0 351 k) tr) it (hI h0 342 15) n ks N cc 0) (Q : Option Value → AH → Prop)
    (fin : ∀ h', Fr mrs nov h0 h' → KS h0 h' → Q (some (.int (nI (trN (T 0) (T 1) sn)))) h') : ∀ (m s : Nat) (h : AH) (v7 : Value), s + m = sn → Fr mrs nov h0 h → KS h0 h →
    Wp (d + 4) P_M_tricked 20 [.ref 342, .int (nI k), .int (nI j), .int (nI r), .int (nI sn), .int (nI (trN (T 0) (T 1) s)), .int (nI s), v7] [] h Q := by
  have it3 : ∀ q, q < n → ¬ hI h0 354 (12 * j + q) = 3 → hI h0 355 (12 * j + q) = -1 := by
    intro q hq w
    obtain ⟨w1, w2, w3⟩ := hks q hq
    have e1 : kd q = hI h0 354 (12 * j + q) := by rw [hkd]
    have e2 : it q = hI h0 355 (12 * j + q) := by rw [hit]
    rw [← e2]
    apply Classical.byContradiction
    intro w4
    apply w
    rw [← e1, w1, w3.mpr w4]
    rfl
  have one : ∀ (tr : Int32) (s : Nat) (h : AH) (Q1 : Option Value → AH → Prop), s < sn → Fr mrs nov h0 h → KS h0 h → (∀ h', Fr mrs nov h0 h' → KS h0 h' → Q1 (some (.int (T tr s))) h') → Cl (d + 4) q_M_sits [.ref 342, .int 24, .int (nI k), .int (nI j), .int (nI s), .int tr] h (fun r0 h' => r0 = none ∧ Cl (d + 4) q_M_doesSay [.ref 342, .int 24, .int (nI r), .int 0] h' Q1) := by
    intro tr s h Q1 hs fr kp f1
    have m' := m0.fr fr
    have em : ∀ a, a < 363 → hI h a = hI h0 a := fun a ha => fr.I (by unfold mrs; omega)
    refine c_M_sits 24 k j s n tr bd h m' (b0.fr fr (by unfold mrs; omega)) (by decide) hk hj (by omega) (by rw [em 353 (by decide)]; exact hn) hn2 ?_ (by rw [em 342 (by decide)]; exact ti) kd it _ (by rw [em 354 (by decide)]; exact hkd) (by rw [em 355 (by decide)]; exact hit) rfl _ ?_
    · intro q hq w
      rw [em 354 (by decide)] at w
      rw [em 355 (by decide)]
      exact it3 q hq w
    · intro h1 ms
      have m1 := m'.fr ms.1
      have frA : Fr mrs nov h0 h1 := fr.tr (ms.1.mo (by unfold mss mrs; omega) (fun a z => z))
      refine ⟨rfl, ?_⟩
      refine c_M_doesSay 24 n r N ks 0 cc h1 m1 (mr0.fr frA (by unfold mrs; omega)) hr (by decide) ms.2.1 hn2 _ _ rfl rfl (ms_ki ms hks) _ ?_
      intro h2 fr2
      rw [ms_tv ms, em 342 (by decide), em 349 (by decide), em 350 (by decide), em 351 (by decide)]
      have et : fdR (wF (stF n ks it (hI h0 342 15) (fun i => jrow bd kd it (hI h0 342 15) (hI h0 349 k) (hI h0 350 k) (hI h0 351 k) tr (4 * i + nzN (gi s (i + 1)))) (3 * n)) 0) cc N 0 = T tr s := by rw [hT]; rfl
      rw [et]
      exact f1 h2 (frA.tr (fr2.mo (by unfold dss mrs; omega) (fun a z => z))) ((kp.tr ms.ks).tr (KS.of (fun a h1 h2 => fr2.I (by unfold dss; omega))))
  intro m
  induction m with
  | zero =>
    intro s h v7 e fr kp
    have : s = sn := by omega
    subst this
    rw [b_M_tricked_20]
    simp only [Int32.le_refl, b_M_tricked_58, mem20, mem21, mem22, al20, al21, al33, al34, al36, al37, al38, aa33, aa34, aa36, aa37, aa38, true_and, and_true, Int32.reduceOfNat, forall_const, true_implies, implies_true, false_implies, not_true_eq_false, not_false_eq_true]
    exact fin h fr kp
  | succ m ih =>
    intro s h v7 e fr kp
    have z : ¬ nI sn ≤ nI s := mt (nle (by omega) (by omega)).mp (by omega)
    rw [b_M_tricked_20]
    simp only [z, b_M_tricked_23, mem20, mem21, mem22, al20, al21, al33, al34, al36, al37, al38, aa33, aa34, aa36, aa37, aa38, true_and, and_true, Int32.reduceOfNat, forall_const, true_implies, implies_true, false_implies, not_true_eq_false, not_false_eq_true]
    have o1 := one 1 s h (fun a h' => Wp (d + 4) P_M_tricked 35 [.ref 342, .int (nI k), .int (nI j), .int (nI r), .int (nI sn), .int (nI (trN (T 0) (T 1) s)), .int (nI s), v7] (a.toList ++ []) h' Q) (by omega) fr kp ?_
    · refine o1.mono ?_
      rintro r0 h' ⟨rfl, w⟩
      simp only [Option.toList, List.cons_append, List.nil_append, b_M_tricked_30]
      exact w
    · intro h1 fr1 kp1
      simp only [Option.toList, List.cons_append, List.nil_append, b_M_tricked_35]
      have o2 := one 0 s h1 (fun a h' => Wp (d + 4) P_M_tricked 49 [.ref 342, .int (nI k), .int (nI j), .int (nI r), .int (nI sn), .int (nI (trN (T 0) (T 1) s)), .int (nI s), .int (T 1 s)] (a.toList ++ [.int (nI (trN (T 0) (T 1) s))]) h' Q) (by omega) fr1 kp1 ?_
      · refine o2.mono ?_
        rintro r0 h' ⟨rfl, w⟩
        simp only [Option.toList, List.cons_append, List.nil_append, b_M_tricked_43]
        exact w
      · intro h2 fr2 kp2
        have hs : trN (T 0) (T 1) (s + 1) = trN (T 0) (T 1) s + if T 0 s = T 1 s then 0 else 1 := rfl
        have ihm := ih (s + 1) h2 (.int (T 1 s)) (by omega) fr2 kp2
        rw [hs] at ihm
        simp only [Option.toList, List.cons_append, List.nil_append, b_M_tricked_49, b_M_tricked_51, b_M_tricked_53, b_M_tricked_54, nI_1]
        by_cases q : T 0 s = T 1 s
        · rw [if_pos q] at ihm
          simp only [q, Int32.add_zero, mem20, mem21, mem22, al20, al21, al33, al34, al36, al37, al38, aa33, aa34, aa36, aa37, aa38, true_and, and_true, Int32.reduceOfNat, forall_const, true_implies, implies_true, false_implies, not_true_eq_false, not_false_eq_true]
          exact ihm
        · rw [if_neg q] at ihm
          simp only [q, nI_1, mem20, mem21, mem22, al20, al21, al33, al34, al36, al37, al38, aa33, aa34, aa36, aa37, aa38, true_and, and_true, Int32.reduceOfNat, forall_const, true_implies, implies_true, false_implies, not_true_eq_false, not_false_eq_true]
          exact ihm
