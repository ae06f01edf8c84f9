--deps: 88.tried
/-! RATES -/
theorem jrow_ext {bd : Nat → Option (List Nat)} {kd it kd' it' : Nat → Int32} {ti fe dn hd tr : Int32} {n : Nat} (e : ∀ q, q < n → kd q = kd' q ∧ it q = it' q) {j : Nat} (hj : j < 12 * n) : jrow bd kd it ti fe dn hd tr j = jrow bd kd' it' ti fe dn hd tr j := by
  unfold jrow
  exact jmp_ext (fun i hi => (e i (by omega)).1) (e _ (by omega)).2
def sdN (d : Int32) : Nat := if d = 0 then 2 else 0
theorem sdN_or (d : Int32) : sdN d = 0 ∨ sdN d = 2 := by unfold sdN; split <;> omega
def rwN (td dn : Nat → Int32) (T : Nat → Nat → Int32) (sn : Nat) : Nat → Nat → Nat
  | 0 => fun _ => 0
  | p + 1 => fun i => if td p = 0 then rwN td dn T sn p i else if i = sdN (dn p) then rwN td dn T sn p i + hN' (T p) sn else if i = sdN (dn p) + 1 then rwN td dn T sn p i + sn else rwN td dn T sn p i
theorem rwN_s (td dn : Nat → Int32) (T : Nat → Nat → Int32) (sn p : Nat) : rwN td dn T sn (p + 1) = fun i => if td p = 0 then rwN td dn T sn p i else if i = sdN (dn p) then rwN td dn T sn p i + hN' (T p) sn else if i = sdN (dn p) + 1 then rwN td dn T sn p i + sn else rwN td dn T sn p i := rfl
def rts (r : Nat) : Nat → Prop := fun a => a = 126 ∨ a = 128 ∨ a = 143 ∨ a = 131 ∨ a = 140 ∨ a = r + 3 ∨ a = 145
theorem w_X_rated {d : Nat} (j k n N sn : Nat) (x2 file : Int32) (bd : Nat → Option (List Nat)) (ks : Nat → Nat) (kd it : Nat → Int32) (ti : Int32) (cc : Nat → List Nat) (h0 : AH) (x0 : XLY h0) (b0 : XBd h0 bd) (hk : k < 4) (hj : j < 4) (xr : XRd h0 (170 + 5 * k) N cc) (hn : hI h0 (154 + 4 * j) 3 = nI n) (t : TRL h0 n ks it ti) (hti : hI h0 122 3 = ti) (hkd : ∀ q, q < n → hI h0 (155 + 4 * j) q = kd q ∧ hI h0 (156 + 4 * j) q = it q) (hsn : sn < 2147483648) (td dn : Nat → Int32) (T : Nat → Nat → Int32) (htd : td = fun p => hI h0 (146 + p) 0) (hdn : dn = fun p => hI h0 (146 + p) 2) (hT : T = fun p => tv (jrow bd kd it ti (hI h0 (146 + p) 1) (hI h0 (146 + p) 2) (hI h0 (146 + p) 3) (hI h0 (146 + p) 4)) it ti n ks N cc file) (Q : Option Value → AH → Prop)
    (fin : ∀ h', Fr (rts (170 + 5 * k)) nov h0 h' → (∀ i, i < 4 → hI h' 145 i = nI (rwN td dn T sn 8 i)) → Q (some (.int 1)) h') : ∀ (m p : Nat) (h : AH), p + m = 8 → Fr (rts (170 + 5 * k)) nov h0 h → (∀ i, i < 4 → hI h 145 i = nI (rwN td dn T sn p i)) →
    Wp (d + 6) P_X_rated 39 [.ref 100, .int (nI j), .int x2, .int file, .int (nI sn), .ref (154 + 4 * j), .ref (170 + 5 * k), .int (nI p)] [] h Q := by
  have hn12 := t.1
  intro m
  induction m with
  | zero =>
    intro p h e fr g
    have : p = 8 := by omega
    subst this
    have x := x0.fr fr
    rw [b_X_rated_39]
    simp only [xk_100 x, xr_100_0 x, xk_101 x, xn_101 x, show (8 : Int32) ≤ nI 8 by decide, b_X_rated_76, mem20, mem21, mem22, al20, al21, al33, al34, al36, al37, al38, aa33, aa34, aa36, aa37, aa38, true_and, and_true, Int32.reduceOfNat, forall_const, true_implies, implies_true, false_implies, not_true_eq_false, not_false_eq_true]
    exact fin h fr g
  | succ m ih =>
    intro p h e fr g
    have x := x0.fr fr
    have z : ¬ (8 : Int32) ≤ nI p := mt (nle (a := 8) (by decide) (by omega)).mp (by omega)
    have i8 : ixo (nI p) 8 = true := nix (by omega) (by decide)
    have c8 := cN (n := p) (by omega)
    have fp := f_pe x (p := p) (by omega)
    have gp := g_pe_k x (p := p) (by omega)
    have ep : hI h (146 + p) = hI h0 (146 + p) := fr.I (by unfold rts; omega)
    have etd : hI h0 (146 + p) 0 = td p := by rw [htd]
    rw [b_X_rated_39]
    simp only [xk_100 x, xr_100_0 x, xk_101 x, xn_101 x, z, b_X_rated_44, i8, c8, fp, gp, ep, etd, b_X_rated_50, xr_100_7 x, xr_100_13 x, b_X_rated_74, nI_1, mem20, mem21, mem22, al20, al21, al33, al34, al36, al37, al38, aa33, aa34, aa36, aa37, aa38, true_and, and_true, Int32.reduceOfNat, forall_const, true_implies, implies_true, false_implies, not_true_eq_false, not_false_eq_true]
    by_cases q : td p = 0
    · simp only [q, mem20, mem21, mem22, al20, al21, al33, al34, al36, al37, al38, aa33, aa34, aa36, aa37, aa38, true_and, and_true, Int32.reduceOfNat, forall_const, true_implies, implies_true, false_implies, not_true_eq_false, not_false_eq_true]
      refine ih (p + 1) h (by omega) fr ?_
      intro i hi
      rw [rwN_s]
      simp only [q, if_true]
      exact g i hi
    · simp only [q, mem20, mem21, mem22, al20, al21, al33, al34, al36, al37, al38, aa33, aa34, aa36, aa37, aa38, true_and, and_true, Int32.reduceOfNat, forall_const, true_implies, implies_true, false_implies, not_true_eq_false, not_false_eq_true]
      have b : XBd h bd := b0.fr fr (by unfold rts; omega)
      have pl := pln_pl x (p := j) hj
      have epl : hI h (154 + 4 * j) = hI h0 (154 + 4 * j) := fr.I (by unfold rts; omega)
      refine c_Ch_fill (146 + p) (154 + 4 * j) n 143 bd h (Or.inl rfl) x b gp pl (by omega) (by rw [epl]; exact hn) hn12 _ ?_
      intro h1 fr1 g1
      have x1 := x.fr fr1
      have fp1 := f_pe x1 (p := p) (by omega)
      have gp1 := g_pe_k x1 (p := p) (by omega)
      have frA : Fr (rts (170 + 5 * k)) nov h0 h1 := fr.tr (fr1.mo (by unfold fcs rts; omega) (fun a z => z))
      have ep1 : hI h1 (146 + p) = hI h0 (146 + p) := frA.I (by unfold rts; omega)
      have edn : hI h0 (146 + p) 2 = dn p := by rw [hdn]
      simp only [Option.toList, List.cons_append, List.nil_append, b_X_rated_60, xk_100 x1, xr_100_0 x1, xk_101 x1, xn_101 x1, i8, c8, fp1, gp1, ep1, edn, b_X_rated_70, b_X_rated_72, jW, mem20, mem21, mem22, al20, al21, al33, al34, al36, al37, al38, aa33, aa34, aa36, aa37, aa38, true_and, and_true, Int32.reduceOfNat, forall_const, true_implies, implies_true, false_implies, not_true_eq_false, not_false_eq_true]
      rw [b_X_rated_73]
      have sde : (if dn p = 0 then (2 : Int32) else 0) = nI (sdN (dn p)) := by
        unfold sdN
        split <;> rfl
      rw [sde]
      refine c_X_addRates (170 + 5 * k) N n sn (sdN (dn p)) file ks (jrow bd kd it ti (hI h0 (146 + p) 1) (hI h0 (146 + p) 2) (hI h0 (146 + p) 3) (hI h0 (146 + p) 4)) it ti cc (rwN td dn T sn p) h1 x1 (xr.fr frA (by unfold rts; omega)) (by omega) (by omega) (t.fr frA (by unfold rts; omega)) ?_ hsn (sdN_or _) ?_ _ ?_
      · intro j' hj'
        rw [g1 j' hj', ep, fr.I (a := 122) (by unfold rts; omega), hti, fr.I (a := 154 + 4 * j + 1) (by unfold rts; omega), fr.I (a := 154 + 4 * j + 2) (by unfold rts; omega)]
        refine jrow_ext (n := n) ?_ hj'
        intro q hq
        rw [show 154 + 4 * j + 1 = 155 + 4 * j by omega, show 154 + 4 * j + 2 = 156 + 4 * j by omega]
        exact hkd q hq
      · intro i hi
        rw [fr1.I (by unfold fcs; omega)]
        exact g i hi
      · intro h2 fr2 g2
        simp only [Option.toList, List.cons_append, List.nil_append, b_X_rated_74, nI_1]
        refine ih (p + 1) h2 (by omega) (frA.tr (fr2.mo (by unfold trs rts; omega) (fun a z => z))) ?_
        intro i hi
        rw [g2 i hi, rwN_s]
        simp only [q, if_false]
        have : tv (jrow bd kd it ti (hI h0 (146 + p) 1) (hI h0 (146 + p) 2) (hI h0 (146 + p) 3) (hI h0 (146 + p) 4)) it ti n ks N cc file = T p := by rw [hT]
        rw [this]
def rtt (r : Nat) : Nat → Prop := fun a => rts r a ∨ (135 ≤ a ∧ a ≤ 139)
theorem c_X_rated1 {d : Nat} (j k n N sn : Nat) (file : Int32) (bd : Nat → Option (List Nat)) (ks : Nat → Nat) (kd it : Nat → Int32) (ti : Int32) (cc : Nat → List Nat) (h0 : AH) (x0 : XLY h0) (b0 : XBd h0 bd) (hk : k < 4) (hj : j < 4) (xr : XRd h0 (170 + 5 * k) N cc) (hn : hI h0 (154 + 4 * j) 3 = nI n) (hn2 : n ≤ 12) (hn0 : 0 < n) (hti : hI h0 122 3 = ti) (hkd : ∀ q, q < n → hI h0 (155 + 4 * j) q = kd q ∧ hI h0 (156 + 4 * j) q = it q) (hks : ∀ q, q < n → kd q = nI (ks q) ∧ ks q < 4 ∧ (ks q = 3 ↔ ¬ it q = -1)) (qf : -9 ≤ file ∧ file ≤ 9) (hsn0 : 0 < sn) (hsn : sn ≤ 40) (td dn : Nat → Int32) (T : Nat → Nat → Int32) (htd : td = fun p => hI h0 (146 + p) 0) (hdn : dn = fun p => hI h0 (146 + p) 2) (hT : T = fun p => tv (jrow bd kd it ti (hI h0 (146 + p) 1) (hI h0 (146 + p) 2) (hI h0 (146 + p) 3) (hI h0 (146 + p) 4)) it ti n ks N cc file) (Q : Option Value → AH → Prop)
    (fin : ∀ h', Fr (rtt (170 + 5 * k)) nov h0 h' → (∀ i, i < 4 → hI h' 145 i = nI (rwN td dn T sn 8 i)) → Q (some (.int 1)) h') : Cl (d + 7) q_X_rated [.ref 100, .int (nI j), .int (nI k), .int file, .int (nI sn)] h0 Q := by
  have cj := cN (n := j) (by omega)
  have ck := cN (n := k) (by omega)
  have j1 : (0 : Int32) ≤ nI j ∧ nI j ≤ 3 := ⟨(nle (a := 0) (by decide) (by omega)).mpr (by omega), (nle (b := 3) (by omega) (by decide)).mpr (by omega)⟩
  have k1 : (0 : Int32) ≤ nI k ∧ nI k ≤ 3 := ⟨(nle (a := 0) (by decide) (by omega)).mpr (by omega), (nle (b := 3) (by omega) (by decide)).mpr (by omega)⟩
  have s1 : (1 : Int32) ≤ nI sn ∧ nI sn ≤ 40 := ⟨(nle (a := 1) (by decide) (by omega)).mpr (by omega), (nle (b := 40) (by omega) (by decide)).mpr (by omega)⟩
  have t0 : ¬ hI h0 (154 + 4 * j) 3 = 0 := by rw [hn]; exact mt (neq (b := 0) (by omega) (by decide)).mp (by omega)
  have z1 : ¬ 154 + 4 * j = 0 := by omega
  have z2 : 100 ≤ 154 + 4 * j := by omega
  have z3 : ¬ 170 + 5 * k = 0 := by omega
  have z4 : 100 ≤ 170 + 5 * k := by omega
  rw [e_X_rated, b_X_rated_0]
  simp only [c_X_toldPlan _ h0 x0, c_X_readerOf _ h0 x0, cj, ck, j1, k1, t0, not_false_eq_true, and_self, if_true, Option.toList, List.cons_append, List.nil_append, b_X_rated_3, b_X_rated_7, b_X_rated_10, z1, z2, z3, z4, or_true, b_X_rated_14, c_within, bw0, qf, b_X_rated_18, b_X_rated_19, s1, b_X_rated_23, b_X_rated_26, xk_100 x0, xr_100_15 x0, mem20, mem21, mem22, al20, al21, al33, al34, al36, al37, al38, aa33, aa34, aa36, aa37, aa38, true_and, and_true, Int32.reduceOfNat, forall_const, true_implies, implies_true, false_implies, not_true_eq_false, not_false_eq_true]
  refine c_Ar_fill 145 4 0 h0 (xk_145 x0) (xn_145 x0) (by decide) _ ?_
  intro h1 fr1 g1
  have x1 := x0.fr fr1
  have e1 : hI h1 122 = hI h0 122 := fr1.I (by unfold onl; decide)
  have e2 : hI h1 (154 + 4 * j) = hI h0 (154 + 4 * j) := fr1.I (by unfold onl; omega)
  simp only [Option.toList, List.cons_append, List.nil_append, b_X_rated_30, xk_100 x1, xr_100_7 x1, xr_100_10 x1, xk_122 x1, e1, hti, mem20, mem21, mem22, al20, al21, al33, al34, al36, al37, al38, aa33, aa34, aa36, aa37, aa38, true_and, and_true, Int32.reduceOfNat, forall_const, true_implies, implies_true, false_implies, not_true_eq_false, not_false_eq_true]
  refine c_Si_begin 135 (154 + 4 * j) n ti h1 (sit_135 x1) (pln_pl x1 hj) (by omega) (by rw [e2]; exact hn) hn2 _ ?_
  intro h2 fr2 t2 pc
  have x2 := x1.fr fr2
  have frA : Fr (rtt (170 + 5 * k)) nov h0 h2 := (fr1.mo (by unfold onl rtt rts; omega) (fun a z => z)).tr (fr2.mo (by unfold rtt; omega) (fun a z => z))
  have ec : ∀ a, 145 < a → hI h2 a = hI h0 a := fun a ha => by rw [fr2.I (by omega), fr1.I (by unfold onl; omega)]
  simp only [Option.toList, List.cons_append, List.nil_append, b_X_rated_37]
  have tr : TRL h2 n ks it ti := by
    refine ⟨hn2, pc.1, t2, fun q hq => ?_⟩
    obtain ⟨p1, p2, p3⟩ := pc.2 q hq
    obtain ⟨w1, w2, w3⟩ := hks q hq
    have f1 : hI h1 (154 + 4 * j + 1) = hI h0 (155 + 4 * j) := by rw [fr1.I (by unfold onl; omega), show 154 + 4 * j + 1 = 155 + 4 * j by omega]
    have f2 : hI h1 (154 + 4 * j + 2) = hI h0 (156 + 4 * j) := by rw [fr1.I (by unfold onl; omega), show 154 + 4 * j + 2 = 156 + 4 * j by omega]
    rw [f1] at p1
    rw [f2] at p2
    refine ⟨(p1.trans (hkd q hq).1).trans w1, p2.trans (hkd q hq).2, w2, w3⟩
  refine w_X_rated j k n N sn _ file bd ks kd it ti cc h2 x2 (b0.fr frA (by unfold rtt rts; omega)) hk hj (xr.fr frA (by unfold rtt rts; omega)) (by rw [ec _ (by omega)]; exact hn) tr (by rw [fr2.I (by omega), e1]; exact hti) (by rw [ec _ (by omega), ec _ (by omega)]; exact hkd) (by omega) td dn T ?_ ?_ ?_ _ ?_ 8 0 h2 rfl Fr.rfl' ?_
  · rw [htd]; funext p; rw [ec _ (by omega)]
  · rw [hdn]; funext p; rw [ec _ (by omega)]
  · rw [hT]; funext p; rw [ec _ (by omega)]
  · intro h3 fr3 g3
    exact ⟨rtZ1, fin h3 (frA.tr (fr3.mo (fun a z => Or.inl z) (fun a z => z))) g3⟩
  · intro i hi
    rw [fr2.I (by omega), g1 i hi]
    rfl
theorem c_X_rated0 {d : Nat} (j k file sn : Int32) (h : AH) (x : XLY h) (q : ¬ (((0 ≤ j ∧ j ≤ 3) ∧ ¬ hI h (154 + 4 * j.toNatClampNeg) 3 = 0) ∧ (0 ≤ k ∧ k ≤ 3) ∧ (-9 ≤ file ∧ file ≤ 9) ∧ (1 ≤ sn ∧ sn ≤ 40))) (Q : Option Value → AH → Prop) (fin : Q (some (.int 0)) h) : Cl (d + 7) q_X_rated [.ref 100, .int j, .int k, .int file, .int sn] h Q := by
  rw [e_X_rated, b_X_rated_0]
  simp only [c_X_toldPlan _ h x, c_X_readerOf _ h x, Option.toList, List.cons_append, List.nil_append, b_X_rated_3, b_X_rated_7, b_X_rated_10, b_X_rated_12, b_X_rated_14, c_within, bw0, b_X_rated_18, b_X_rated_19, b_X_rated_23, b_X_rated_24, xk_100 x, rtZ0, mem20, mem21, mem22, al20, al21, al33, al34, al36, al37, al38, aa33, aa34, aa36, aa37, aa38, true_and, and_true, Int32.reduceOfNat, forall_const, true_implies, implies_true, false_implies, not_true_eq_false, not_false_eq_true]
  by_cases q1 : (0 ≤ j ∧ j ≤ 3) ∧ ¬ hI h (154 + 4 * j.toNatClampNeg) 3 = 0
  · by_cases q2 : 0 ≤ k ∧ k ≤ 3
    · by_cases q3 : -9 ≤ file ∧ file ≤ 9
      · have q4 : ¬ (1 ≤ sn ∧ sn ≤ 40) := fun z => q ⟨q1, q2, q3, z⟩
        simp only [q1, q2, q3, q4, if_true, if_false, not_true_eq_false, not_false_eq_true, false_implies, true_implies, and_true, true_and, fin, and_self]
        exact ⟨by omega, fun z => absurd z (by omega), fun _ => ⟨by omega, fun z => absurd z (by omega), fun _ => trivial⟩⟩
      · simp only [q1, q2, q3, if_true, if_false, not_true_eq_false, not_false_eq_true, false_implies, true_implies, and_true, true_and, fin, and_self]
        exact ⟨by omega, fun z => absurd z (by omega), fun _ => ⟨by omega, fun z => absurd z (by omega), fun _ => trivial⟩⟩
    · simp only [q1, q2, if_true, if_false, not_true_eq_false, not_false_eq_true, false_implies, true_implies, and_true, true_and, true_or, fin, and_self]
      exact ⟨by omega, fun z => absurd z (by omega), fun _ => trivial⟩
  · simp only [q1, if_true, if_false, not_true_eq_false, not_false_eq_true, false_implies, true_implies, and_true, true_and, true_or, fin, and_self]
