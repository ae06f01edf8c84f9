--deps: 78.sits
/-! READERS: the facts of a sitting, and whether they say it -/
theorem Cl_max {d : Nat} {x y : Int32} {h : AH} {Q : Option Value → AH → Prop} : Cl (d + 1) 306 [.int x, .int y] h Q ↔ Q (some (.int (if x < y then y else x))) h := by
  have e : ∀ n, callD ML prX (d + 1) n 306 [.int x, .int y] h = some (some (.int (if x < y then y else x)), h) := fun n => by
    unfold callD
    simp only [show ML[306]? = none from rfl]
    rfl
  constructor
  · rintro ⟨n, z, q, hQ⟩
    rw [e] at q
    cases q
    exact hQ
  · intro hQ
    exact ⟨0, _, e 0, hQ⟩
theorem Cl_abs {d : Nat} {x : Int32} {h : AH} {Q : Option Value → AH → Prop} : Cl (d + 1) 308 [.int x] h Q ↔ Q (some (.int (if 0 ≤ x then x else 0 - x))) h := by
  have e : ∀ n, callD ML prX (d + 1) n 308 [.int x] h = some (some (.int (if 0 ≤ x then x else 0 - x)), h) := fun n => by
    unfold callD
    simp only [show ML[308]? = none from rfl]
    rfl
  constructor
  · rintro ⟨n, z, q, hQ⟩
    rw [e] at q
    cases q
    exact hQ
  · intro hQ
    exact ⟨0, _, e 0, hQ⟩
theorem w_Ar_fill {d : Nat} (r n : Nat) (v : Int32) (h0 : AH) (k : hK h0 r = 20) (hn : hN h0 r = n) (hn2 : n < 2147483648) (Q : Option Value → AH → Prop) (fin : ∀ h', Fr (onl r) nov h0 h' → (∀ i, i < n → hI h' r i = v) → Q none h') : ∀ (m i : Nat) (h : AH), i + m = n → Fr (onl r) nov h0 h → (∀ j, j < i → hI h r j = v) → Wp d P_Ar_fill 5 [.ref r, .int v, .int (nI i), .int (nI n)] [] h Q := by
  intro m
  induction m with
  | zero =>
    intro i h e fr g
    have : i = n := by omega
    subst this
    rw [b_Ar_fill_5]
    simp only [Int32.le_refl, b_Ar_fill_14, mem20, mem21, mem22, al20, al21, al33, al34, al36, al37, al38, aa33, aa34, aa36, aa37, aa38, true_and, and_true, Int32.reduceOfNat, forall_const, true_implies, implies_true, false_implies, not_true_eq_false, not_false_eq_true]
    exact fin h fr g
  | succ m ih =>
    intro i h e fr g
    have z : ¬ nI n ≤ nI i := mt (nle (by omega) (by omega)).mp (by omega)
    have i1 : ixo (nI i) n = true := nix (by omega) (by omega)
    rw [b_Ar_fill_5]
    simp only [z, b_Ar_fill_8, fr.K, fr.N, k, hn, i1, cN (show i < 2147483648 by omega), nI_1, mem20, mem21, mem22, al20, al21, al33, al34, al36, al37, al38, aa33, aa34, aa36, aa37, aa38, true_and, and_true, Int32.reduceOfNat, forall_const, true_implies, implies_true, false_implies, not_true_eq_false, not_false_eq_true]
    refine ih (i + 1) _ (by omega) (fr.sI rfl) ?_
    intro j hj
    rw [hI_same]
    by_cases q : j = i
    · rw [if_pos q]
    · rw [if_neg q]; exact g j (by omega)
theorem c_Ar_fill {d : Nat} (r n : Nat) (v : Int32) (h : AH) (k : hK h r = 20) (hn : hN h r = n) (hn2 : n < 2147483648) (Q : Option Value → AH → Prop) (fin : ∀ h', Fr (onl r) nov h h' → (∀ i, i < n → hI h' r i = v) → Q none h') : Cl (d + 1) q_Ar_fill [.ref r, .int v] h Q := by
  rw [e_Ar_fill, b_Ar_fill_0]
  simp only [k, hn, al20, true_and]
  exact w_Ar_fill r n v h k hn hn2 _ (fun h' f1 f2 => ⟨rtV, fin h' f1 f2⟩) n 0 h (by omega) Fr.rfl' (fun j hj => by omega)
def mx (a j : Int32) : Int32 := if a < j then j else a
def nt (k l : Nat) (it ti j : Int32) (f : Nat → Int32) : Nat → Int32 := fun i => if k = 3 ∧ i = (if it = ti then 12 else 15) + l then mx (f i) j else if i = 3 * k + l then f i + j else f i
def stF (n : Nat) (ks : Nat → Nat) (it : Nat → Int32) (ti : Int32) (jv : Nat → Int32) : Nat → Nat → Int32
  | 0 => fun i => if i = 19 then nI n else 0
  | s + 1 => nt (ks (s / 3)) (s % 3) (it (s / 3)) ti (jv s) (stF n ks it ti jv s)
/-- kinds and items of a plan that was told -/
def KI (n : Nat) (ks : Nat → Nat) (kd it : Nat → Int32) : Prop := ∀ q, q < n → kd q = nI (ks q) ∧ ks q < 4 ∧ (ks q = 3 ↔ ¬ it q = -1)
theorem c_Ju_note {d : Nat} (r n q l : Nat) (ks : Nat → Nat) (f : Nat → Int32) (h : AH) (x : XLY h) (y : SIT h r) (hr : 131 < r) (hn : hI h (r + 1) 3 = nI n) (hn2 : n ≤ 12) (hq : q < n) (hl : l < 3) (ki : KI n ks (hI h (r + 2)) (hI h (r + 3))) (g : ∀ i, i < 20 → hI h 131 i = f i) (Q : Option Value → AH → Prop)
    (fin : ∀ h', Fr (onl 131) nov h h' → (∀ i, i < 20 → hI h' 131 i = nt (ks q) l (hI h (r + 3) q) (hI h r 2) (hI h (r + 5) (3 * q + l)) f i) → Q none h') : Cl (d + 2) q_Ju_note [.ref 130, .ref r, .int (nI q), .int (nI l)] h Q := by
  obtain ⟨k1, k2, k3⟩ := ki q hq
  have y4 : PLN h (r + 1) := y.2.2.2.2.1
  have e1 : nI (ks q) * 3 + nI l = nI (3 * ks q + l) := by
    rw [show (3 : Int32) = nI 3 from rfl, nmul, nadd]; congr 1; omega
  have z1 := n_nn (n := 3 * ks q + l) (by omega)
  have z2 : ¬ 20 ≤ nI (3 * ks q + l) := mt (nle (a := 20) (by decide) (by omega)).mp (by omega)
  have i1 : ixo (nI (3 * ks q + l)) 20 = true := nix (by omega) (by decide)
  have c1 := cN (n := 3 * ks q + l) (by omega)
  rw [e_Ju_note, b_Ju_note_0]
  simp only [xk_130 x, c_Si_jumpAt r q l h y (show q < 12 by omega) hl, Option.toList, List.cons_append, List.nil_append, b_Ju_note_4, y.2.1, y.2.2.1, c_Pl_kindAt (r + 1) _ h y4, hn, pAt_n _ hq hn2, k1, b_Ju_note_9, e1, z1, z2, i1, c1, b_Ju_note_16, b_Ju_note_21, xr_130_0 x, xk_131 x, xn_131 x, mem20, mem21, mem22, al20, al21, al33, al34, al36, al37, al38, aa33, aa34, aa36, aa37, aa38, true_and, and_true, Int32.reduceOfNat, forall_const, true_implies, implies_true, false_implies, not_true_eq_false, not_false_eq_true]
  generalize hh1 : sI h 131 (3 * ks q + l) (hI h 131 (3 * ks q + l) + hI h (r + 5) (3 * q + l)) = h1
  have fr1 : Fr (onl 131) nov h h1 := by rw [← hh1]; exact Fs1 Fr.rfl'
  have g1 : ∀ i, i < 20 → hI h1 131 i = if i = 3 * ks q + l then f i + hI h (r + 5) (3 * q + l) else f i := by
    intro i hi
    rw [← hh1, hI_same]
    by_cases qi : i = 3 * ks q + l
    · rw [if_pos qi, if_pos qi, g _ (by omega), qi]
    · rw [if_neg qi, if_neg qi, g _ hi]
  have x1 := x.fr fr1
  have y1 := y.fr fr1
  have y5 : PLN h1 (r + 1) := y1.2.2.2.2.1
  have f1 : hI h1 (r + 1) = hI h (r + 1) := fr1.I (by unfold onl; omega)
  have f2 : hI h1 (r + 3) = hI h (r + 3) := fr1.I (by unfold onl; omega)
  have f3 : hI h1 r = hI h r := fr1.I (by unfold onl; omega)
  have k4 : pAt (hI h1 (r + 1 + 2)) (nI n) (nI q) = hI h (r + 3) q := by
    rw [pAt_n _ hq hn2, show r + 1 + 2 = r + 3 by omega, f2]
  simp only [b_Ju_note_29, y1.2.1, y1.2.2.1, c_Pl_itemAt (r + 1) _ h1 y5, f1, hn, k4, Option.toList, List.cons_append, List.nil_append, b_Ju_note_33, f3, mem20, mem21, mem22, al20, al21, al33, al34, al36, al37, al38, aa33, aa34, aa36, aa37, aa38, true_and, and_true, Int32.reduceOfNat, forall_const, true_implies, implies_true, false_implies, not_true_eq_false, not_false_eq_true]
  generalize hI h (r + 3) q = it at *
  generalize hI h r 2 = ti at *
  generalize hI h (r + 5) (3 * q + l) = j at *
  have last : ∀ c, c = 12 ∨ c = 15 → (it = ti → c = 12) → (¬ it = ti → c = 15) → Wp (d + 1) P_Ju_note 41 [.ref 130, .ref r, .int (nI q), .int (nI l), .int j, .int (nI (3 * ks q + l)), .int it, .null] [.int (nI c)] h1 (fun r h' => rtk none r = true ∧ Q r h') := by
    intro c hc hc1 hc2
    rw [b_Ju_note_41]
    have z5 := n_nn (n := c + l) (by omega)
    have z6 : ¬ 20 ≤ nI (c + l) := mt (nle (a := 20) (by decide) (by omega)).mp (by omega)
    have i2 : ixo (nI (c + l)) 20 = true := nix (by omega) (by decide)
    by_cases qi : it = -1
    · simp only [qi, b_Ju_note_64, rtV, mem20, mem21, mem22, al20, al21, al33, al34, al36, al37, al38, aa33, aa34, aa36, aa37, aa38, true_and, and_true, Int32.reduceOfNat, forall_const, true_implies, implies_true, false_implies, not_true_eq_false, not_false_eq_true]
      refine fin h1 fr1 ?_
      intro i hi
      rw [g1 i hi]
      unfold nt
      have : ¬ ks q = 3 := fun z => (k3.mp z) qi
      simp only [this, false_and, if_false]
    · simp only [qi, nadd, b_Ju_note_47, b_Ju_note_49, b_Ju_note_54, z5, z6, i2, cN (show c + l < 2147483648 by omega), xk_130 x1, xr_130_0 x1, xk_131 x1, xn_131 x1, Cl_max, Option.toList, List.cons_append, List.nil_append, b_Ju_note_63, b_Ju_note_64, rtV, mem20, mem21, mem22, al20, al21, al33, al34, al36, al37, al38, aa33, aa34, aa36, aa37, aa38, true_and, and_true, Int32.reduceOfNat, forall_const, true_implies, implies_true, false_implies, not_true_eq_false, not_false_eq_true]
      refine fin _ (Fs1 fr1) ?_
      intro i hi
      have k5 : ks q = 3 := k3.mpr qi
      have cc : (if it = ti then 12 else 15) = c := by
        by_cases qq : it = ti
        · rw [if_pos qq, hc1 qq]
        · rw [if_neg qq, hc2 qq]
      rw [hI_same]
      unfold nt
      rw [cc]
      by_cases qc : i = c + l
      · subst qc
        have gg := g1 (c + l) hi
        rw [if_neg (by omega)] at gg
        simp only [gg, k5, true_and, if_true]
        rfl
      · rw [if_neg qc, if_neg (fun z => qc z.2), g1 i hi]
  by_cases qt : it = ti
  · have w := last 12 (Or.inl rfl) (fun _ => rfl) (fun z => absurd qt z)
    simp only [qt, b_Ju_note_38, mem20, mem21, mem22, al20, al21, al33, al34, al36, al37, al38, aa33, aa34, aa36, aa37, aa38, true_and, and_true, Int32.reduceOfNat, forall_const, true_implies, implies_true, false_implies, not_true_eq_false, not_false_eq_true] at w ⊢
    exact w
  · have w := last 15 (Or.inr rfl) (fun z => absurd z qt) (fun z => rfl)
    simp only [qt, b_Ju_note_40, mem20, mem21, mem22, al20, al21, al33, al34, al36, al37, al38, aa33, aa34, aa36, aa37, aa38, true_and, and_true, Int32.reduceOfNat, forall_const, true_implies, implies_true, false_implies, not_true_eq_false, not_false_eq_true] at w ⊢
    exact w
/-- what is studied -/
theorem w_Ju_study {d : Nat} (r n : Nat) (ks : Nat → Nat) (h0 : AH) (x0 : XLY h0) (y0 : SIT h0 r) (hr : 131 < r) (hn : hI h0 (r + 1) 3 = nI n) (hn2 : n ≤ 12) (ki : KI n ks (hI h0 (r + 2)) (hI h0 (r + 3))) (st : Nat → Nat → Int32) (hst : st = stF n ks (hI h0 (r + 3)) (hI h0 r 2) (hI h0 (r + 5))) (Q : Option Value → AH → Prop)
    (fin : ∀ h', Fr (onl 131) nov h0 h' → (∀ i, i < 20 → hI h' 131 i = st (3 * n) i) → Q none h') : ∀ (m q : Nat) (h : AH) (v3 : Value), q + m = n → Fr (onl 131) nov h0 h → (∀ i, i < 20 → hI h 131 i = st (3 * q) i) → Wp (d + 2) P_Ju_study 13 [.ref 130, .ref r, .int (nI q), v3] [] h Q := by
  have lines : ∀ (q : Nat) (hq : q < n) (fin2 : ∀ h', Fr (onl 131) nov h0 h' → (∀ i, i < 20 → hI h' 131 i = st (3 * q + 3) i) → Wp (d + 2) P_Ju_study 30 [.ref 130, .ref r, .int (nI q), .int (nI 3)] [] h' Q) (m l : Nat) (h : AH), l + m = 3 → Fr (onl 131) nov h0 h → (∀ i, i < 20 → hI h 131 i = st (3 * q + l) i) → Wp (d + 2) P_Ju_study 20 [.ref 130, .ref r, .int (nI q), .int (nI l)] [] h Q := by
    intro q hq fin2 m
    induction m with
    | zero =>
      intro l h e fr g
      have : l = 3 := by omega
      subst this
      have z : (3 : Int32) ≤ nI 3 := by decide
      rw [b_Ju_study_20]
      simp only [z, mem20, mem21, mem22, al20, al21, al33, al34, al36, al37, al38, aa33, aa34, aa36, aa37, aa38, true_and, and_true, Int32.reduceOfNat, forall_const, true_implies, implies_true, false_implies, not_true_eq_false, not_false_eq_true]
      exact fin2 h fr g
    | succ m ih =>
      intro l h e fr g
      have z : ¬ (3 : Int32) ≤ nI l := mt (nle (a := 3) (by decide) (by omega)).mp (by omega)
      have f1 : hI h (r + 1) = hI h0 (r + 1) := fr.I (by unfold onl; omega)
      have f2 : hI h (r + 2) = hI h0 (r + 2) := fr.I (by unfold onl; omega)
      have f3 : hI h (r + 3) = hI h0 (r + 3) := fr.I (by unfold onl; omega)
      have f4 : hI h (r + 5) = hI h0 (r + 5) := fr.I (by unfold onl; omega)
      have f5 : hI h r = hI h0 r := fr.I (by unfold onl; omega)
      rw [b_Ju_study_20]
      simp only [z, b_Ju_study_23, mem20, mem21, mem22, al20, al21, al33, al34, al36, al37, al38, aa33, aa34, aa36, aa37, aa38, true_and, and_true, Int32.reduceOfNat, forall_const, true_implies, implies_true, false_implies, not_true_eq_false, not_false_eq_true]
      refine c_Ju_note r n q l ks (st (3 * q + l)) h (x0.fr fr) (y0.fr fr) hr (by rw [f1]; exact hn) hn2 hq (by omega) (by rw [f2, f3]; exact ki) g _ ?_
      intro h1 fr1 g1
      simp only [Option.toList, List.cons_append, List.nil_append, b_Ju_study_28, nI_1]
      refine ih (l + 1) h1 (by omega) (fr.tr fr1) ?_
      intro i hi
      rw [g1 i hi, f3, f4, f5]
      have e1 : (3 * q + l) / 3 = q := by omega
      have e2 : (3 * q + l) % 3 = l := by omega
      have e3 : st (3 * q + (l + 1)) = nt (ks ((3 * q + l) / 3)) ((3 * q + l) % 3) (hI h0 (r + 3) ((3 * q + l) / 3)) (hI h0 r 2) (hI h0 (r + 5) (3 * q + l)) (st (3 * q + l)) := by rw [hst]; rfl
      rw [e3, e1, e2]
  intro m
  induction m with
  | zero =>
    intro q h v3 e fr g
    have : q = n := by omega
    subst this
    have y := y0.fr fr
    have f1 : hI h (r + 1) = hI h0 (r + 1) := fr.I (by unfold onl; omega)
    rw [b_Ju_study_13]
    simp only [y.2.1, y.2.2.1, y.2.2.2.2.1.2.1, f1, hn, Int32.le_refl, b_Ju_study_32, mem20, mem21, mem22, al20, al21, al33, al34, al36, al37, al38, aa33, aa34, aa36, aa37, aa38, true_and, and_true, Int32.reduceOfNat, forall_const, true_implies, implies_true, false_implies, not_true_eq_false, not_false_eq_true]
    exact fin h fr g
  | succ m ih =>
    intro q h v3 e fr g
    have y := y0.fr fr
    have f1 : hI h (r + 1) = hI h0 (r + 1) := fr.I (by unfold onl; omega)
    have z : ¬ nI n ≤ nI q := mt (nle (by omega) (by omega)).mp (by omega)
    rw [b_Ju_study_13]
    simp only [y.2.1, y.2.2.1, y.2.2.2.2.1.2.1, f1, hn, z, b_Ju_study_18, mem20, mem21, mem22, al20, al21, al33, al34, al36, al37, al38, aa33, aa34, aa36, aa37, aa38, true_and, and_true, Int32.reduceOfNat, forall_const, true_implies, implies_true, false_implies, not_true_eq_false, not_false_eq_true]
    refine lines q (by omega) ?_ 3 0 h rfl fr g
    intro h1 fr1 g1
    rw [b_Ju_study_30, nI_1]
    exact ih (q + 1) h1 _ (by omega) fr1 g1
theorem c_Ju_study {d : Nat} (r n : Nat) (ks : Nat → Nat) (h : AH) (x : XLY h) (y : SIT h r) (hr : 131 < r) (hn : hI h (r + 1) 3 = nI n) (hn2 : n ≤ 12) (ki : KI n ks (hI h (r + 2)) (hI h (r + 3))) (Q : Option Value → AH → Prop)
    (fin : ∀ h', Fr (onl 131) nov h h' → (∀ i, i < 20 → hI h' 131 i = stF n ks (hI h (r + 3)) (hI h r 2) (hI h (r + 5)) (3 * n) i) → Q none h') : Cl (d + 3) q_Ju_study [.ref 130, .ref r] h Q := by
  rw [e_Ju_study, b_Ju_study_0]
  simp only [xk_130 x, xr_130_0 x, true_and]
  refine c_Ar_fill 131 20 0 h (xk_131 x) (xn_131 x) (by decide) _ ?_
  intro h1 fr1 g1
  have x1 := x.fr fr1
  have y1 := y.fr fr1
  have f1 : hI h1 (r + 1) = hI h (r + 1) := fr1.I (by unfold onl; omega)
  have i1 : ixo 19 20 = true := by decide
  have c1 : Int32.toNatClampNeg 19 = 19 := by decide
  simp only [Option.toList, List.cons_append, List.nil_append, b_Ju_study_4, xk_130 x1, xr_130_0 x1, y1.2.1, y1.2.2.1, y1.2.2.2.2.1.2.1, xk_131 x1, xn_131 x1, i1, c1, f1, hn, mem20, mem21, mem22, al20, al21, al33, al34, al36, al37, al38, aa33, aa34, aa36, aa37, aa38, true_and, and_true, Int32.reduceOfNat, forall_const, true_implies, implies_true, false_implies, not_true_eq_false, not_false_eq_true]
  refine w_Ju_study r n ks h x y hr hn hn2 ki _ rfl _ (fun h' a b => ⟨rtV, fin h' a b⟩) n 0 _ _ (by omega) (Fs1 fr1) ?_
  intro i hi
  rw [hI_same]
  show _ = if i = 19 then nI n else 0
  by_cases q : i = 19
  · rw [if_pos q, if_pos q]
  · rw [if_neg q, if_neg q, g1 i hi]
/-! a reader -/
def XRd (h : AH) (r N : Nat) (c : Nat → List Nat) : Prop := XPg h r ∧ N ≤ 6 ∧ hI h r 2 = nI N ∧ ∀ k, k < N → XLn h r k (some (c k)) ∧ oks 20 (c k) 0
theorem XRd.fr {S T : Nat → Prop} {h h' : AH} {r N : Nat} {c : Nat → List Nat} (g : XRd h r N c) (p : Fr S T h h') (q : ∀ a, S a → a ≠ r ∧ a ≠ r + 1 ∧ a ≠ r + 2 ∧ a ≠ r + 4 ∧ a < 378) : XRd h' r N c := by
  obtain ⟨g1, g2, g3, g4⟩ := g
  refine ⟨g1.fr p, g2, by rw [p.I (fun z => (q _ z).1 rfl)]; exact g3, fun k hk => ⟨(g4 k hk).1.fr g1 p (fun a z => (q a z).2), (g4 k hk).2⟩⟩
/-- does one of the lines from k on say it? -/
def fdR (F : Nat → Int32) (c : Nat → List Nat) : Nat → Nat → Int32
  | 0, _ => 0
  | m + 1, k => if wth F (c k) = 0 then fdR F c m (k + 1) else 1
theorem fdR_01 (F : Nat → Int32) (c : Nat → List Nat) : ∀ m k, fdR F c m k = 0 ∨ fdR F c m k = 1
  | 0, _ => Or.inl rfl
  | m + 1, k => by
    unfold fdR
    by_cases q : wth F (c k) = 0
    · rw [if_pos q]; exact fdR_01 F c m (k + 1)
    · rw [if_neg q]; exact Or.inr rfl
def wF (G : Nat → Int32) (file : Int32) : Nat → Int32 := fun i => if i = 18 then file else G i
def ffs (r : Nat) : Nat → Prop := fun a => a = 131 ∨ a = r + 3
theorem w_Ju_finds {d : Nat} (r N : Nat) (file : Int32) (c : Nat → List Nat) (F : Nat → Int32) (h0 : AH) (x0 : XLY h0) (y0 : XRd h0 r N c) (hr : 131 < r) (hr2 : r + 3 < 378) (g0 : ∀ i, i < 20 → hI h0 131 i = F i) (Q : Option Value → AH → Prop)
    (fin : ∀ h', Fr (onl (r + 3)) nov h0 h' → Q (some (.int (fdR F c N 0))) h') : ∀ (m k : Nat) (h : AH), k + m = N → Fr (onl (r + 3)) nov h0 h → fdR F c N 0 = fdR F c m k → Wp (d + 3) P_Ju_finds 7 [.ref 130, .ref r, .int file, .int (nI k)] [] h Q := by
  intro m
  induction m with
  | zero =>
    intro k h e fr g
    have : k = N := by omega
    subst this
    have y : XRd h r k c := y0.fr fr (by unfold onl; omega)
    rw [b_Ju_finds_7]
    simp only [y.1.1.2.1, y.2.2.1, Int32.le_refl, b_Ju_finds_21, mem20, mem21, mem22, al20, al21, al33, al34, al36, al37, al38, aa33, aa34, aa36, aa37, aa38, true_and, and_true, Int32.reduceOfNat, forall_const, true_implies, implies_true, false_implies, not_true_eq_false, not_false_eq_true]
    have := fin h fr
    rw [g] at this
    exact this
  | succ m ih =>
    intro k h e fr g
    have y : XRd h r N c := y0.fr fr (by unfold onl; omega)
    have x := x0.fr fr
    have z : ¬ nI N ≤ nI k := mt (nle (by have := y0.2.1; omega) (by have := y0.2.1; omega)).mp (by omega)
    rw [b_Ju_finds_7]
    simp only [y.1.1.2.1, y.2.2.1, z, b_Ju_finds_11, xk_130 x, xr_130_0 x, mem20, mem21, mem22, al20, al21, al33, al34, al36, al37, al38, aa33, aa34, aa36, aa37, aa38, true_and, and_true, Int32.reduceOfNat, forall_const, true_implies, implies_true, false_implies, not_true_eq_false, not_false_eq_true]
    refine c_Pg_line r 131 20 k (some (c k)) F h (by decide) (by omega) (by have := y0.2.1; omega) y.1 (xk_131 x) (xn_131 x) ?_ (y.2.2.2 k (by omega)).1 (y.2.2.2 k (by omega)).2 hr2 _ ?_
    · intro i hi
      rw [fr.I (a := 131) (by unfold onl; omega)]
      exact g0 i hi
    · intro h1 fr1
      simp only [Option.toList, List.cons_append, List.nil_append, b_Ju_finds_16, b_Ju_finds_17, b_Ju_finds_19, nI_1, lnV]
      have g2 : fdR F c (m + 1) k = if wth F (c k) = 0 then fdR F c m (k + 1) else 1 := rfl
      by_cases q : wth F (c k) = 0
      · simp only [q, mem20, mem21, mem22, al20, al21, al33, al34, al36, al37, al38, aa33, aa34, aa36, aa37, aa38, true_and, and_true, Int32.reduceOfNat, forall_const, true_implies, implies_true, false_implies, not_true_eq_false, not_false_eq_true]
        rw [if_pos q] at g2
        exact ih (k + 1) h1 (by omega) (fr.tr fr1) (g.trans g2)
      · simp only [q, mem20, mem21, mem22, al20, al21, al33, al34, al36, al37, al38, aa33, aa34, aa36, aa37, aa38, true_and, and_true, Int32.reduceOfNat, forall_const, true_implies, implies_true, false_implies, not_true_eq_false, not_false_eq_true]
        rw [if_neg q] at g2
        have := fin h1 (fr.tr fr1)
        rw [g.trans g2] at this
        exact this
theorem c_Ju_finds {d : Nat} (r N : Nat) (file : Int32) (c : Nat → List Nat) (G : Nat → Int32) (h : AH) (x : XLY h) (y : XRd h r N c) (hr : 131 < r) (hr2 : r + 3 < 378) (g : ∀ i, i < 20 → i ≠ 18 → hI h 131 i = G i) (Q : Option Value → AH → Prop)
    (fin : ∀ h', Fr (ffs r) nov h h' → (∀ i, i < 20 → i ≠ 18 → hI h' 131 i = G i) → Q (some (.int (fdR (wF G file) c N 0))) h') : Cl (d + 4) q_Ju_finds [.ref 130, .ref r, .int file] h Q := by
  have i1 : ixo 18 20 = true := by decide
  have c1 : Int32.toNatClampNeg 18 = 18 := by decide
  rw [e_Ju_finds, b_Ju_finds_0]
  simp only [xk_130 x, xr_130_0 x, xk_131 x, xn_131 x, i1, c1, mem20, mem21, mem22, al20, al21, al33, al34, al36, al37, al38, aa33, aa34, aa36, aa37, aa38, true_and, and_true, Int32.reduceOfNat, forall_const, true_implies, implies_true, false_implies, not_true_eq_false, not_false_eq_true]
  have fr0 : Fr (ffs r) nov h (sI h 131 18 file) := Fr.rfl'.sI (Or.inl rfl)
  refine w_Ju_finds r N file c (wF G file) _ (x.fr fr0) (y.fr fr0 (by unfold ffs; omega)) hr hr2 ?_ _ ?_ N 0 _ (by omega) Fr.rfl' rfl
  · intro i hi
    rw [hI_same]
    unfold wF
    by_cases q : i = 18
    · rw [if_pos q, if_pos q]
    · rw [if_neg q, if_neg q, g i hi q]
  · intro h1 fr1
    refine ⟨?_, fin h1 (fr0.tr (fr1.mo (fun a z => Or.inr z) (fun a z => z))) ?_⟩
    · rcases fdR_01 (wF G file) c N 0 with q | q <;> rw [q]
      · exact rtZ0
      · exact rtZ1
    · intro i hi q
      rw [fr1.I (a := 131) (by unfold onl; omega), hI_same, if_neg q, g i hi q]
