--deps: 9q.opplan2
/-! A PROGRAM TAKEN OVER -/
theorem hK_mkC (h : AH) (k n u a : Nat) : hK (mkC h k n u) a = if a = hz h then k else hK h a := rfl
theorem hN_mkC (h : AH) (k n u a : Nat) : hN (mkC h k n u) a = if a = hz h then n else hN h a := rfl
theorem hz_mkC (h : AH) (k n u : Nat) : hz (mkC h k n u) = hz h + 1 := rfl
theorem hu_mkC (h : AH) (k n u : Nat) : hu (mkC h k n u) = hu h + u := rfl
theorem hI_mkC (h : AH) (k n u a : Nat) : hI (mkC h k n u) a = if a = hz h then (fun _ => 0) else hI h a := rfl
theorem hJ_mkC (h : AH) (k n u a : Nat) : hJ (mkC h k n u) a = if a = hz h then (fun _ => 0) else hJ h a := rfl
theorem hR_mkC (h : AH) (k n u a : Nat) : hR (mkC h k n u) a = if a = hz h then (fun _ => 0) else hR h a := rfl
theorem hK_cpy (h : AH) (a b n : Nat) : hK (cpy h a b n) = hK h := rfl
theorem hN_cpy (h : AH) (a b n : Nat) : hN (cpy h a b n) = hN h := rfl
theorem hR_cpy (h : AH) (a b n : Nat) : hR (cpy h a b n) = hR h := rfl
theorem hJ_cpy (h : AH) (a b n : Nat) : hJ (cpy h a b n) = hJ h := rfl
theorem hz_cpy (h : AH) (a b n : Nat) : hz (cpy h a b n) = hz h := rfl
theorem hu_cpy (h : AH) (a b n : Nat) : hu (cpy h a b n) = hu h := rfl
theorem hI_cpy (h : AH) (a b n x y : Nat) : hI (cpy h a b n) x y = if x = b then (if y < n then hI h a y else hI h x y) else hI h x y := rfl
theorem Cl_min {d : Nat} {x y : Int32} {h : AH} {Q : Option Value → AH → Prop} : Cl (d + 1) 307 [.int x, .int y] h Q ↔ Q (some (.int (if y < x then y else x))) h := by
  have e : ∀ n, callD ML prX (d + 1) n 307 [.int x, .int y] h = some (some (.int (if y < x then y else x)), h) := fun n => by
    unfold callD
    simp only [show ML[307]? = none from rfl]
    rfl
  constructor
  · rintro ⟨n, z, q, hQ⟩
    rw [e] at q
    cases q
    exact hQ
  · intro hQ
    exact ⟨0, _, e 0, hQ⟩
theorem Cl_cpy {d s t : Nat} {n : Int32} {h : AH} {Q : Option Value → AH → Prop} (g : 0 ≤ n ∧ hK h s = 20 ∧ hK h t = 20 ∧ s ≠ t ∧ n.toNatClampNeg ≤ hN h s ∧ n.toNatClampNeg ≤ hN h t) (fin : Q none (cpy h s t n.toNatClampNeg)) : Cl (d + 1) 300 [.ref s, .int 0, .ref t, .int 0, .int n] h Q := by
  have e : callD ML prX (d + 1) 0 300 [.ref s, .int 0, .ref t, .int 0, .int n] h = some (none, cpy h s t n.toNatClampNeg) := by
    unfold callD
    simp only [show ML[300]? = none from rfl]
    show guardo (decide ((0 : Int32) = 0 ∧ (0 : Int32) = 0 ∧ 0 ≤ n ∧ hK h s = 20 ∧ hK h t = 20 ∧ s ≠ t ∧ n.toNatClampNeg ≤ hN h s ∧ n.toNatClampNeg ≤ hN h t)) _ = _
    unfold guardo
    rw [if_pos (decide_eq_true ⟨rfl, rfl, g⟩)]
  exact ⟨0, _, e, fin⟩
theorem c_Ar_copyOf {d : Nat} (n : Nat) (h : AH) (x : XLY h) (hz0 : 378 ≤ hz h) (hn : n < 1000) (Q : Option Value → AH → Prop) (fin : Q (some (.ref (hz h))) (cpy (mkC h 20 n n) 121 (hz h) n)) : Cl (d + 2) q_Ar_copyOf [.ref 121, .int (nI n)] h Q := by
  have ne : ¬ (121 : Nat) = hz h := by omega
  have z1 : ¬ nI n = 1000 := mt (neq (b := 1000) (by omega) (by decide)).mp (by omega)
  have z2 : 0 ≤ nI n := Int32.not_lt.mp (n_nn (by omega))
  have z3 : nI n < 1000 := (nlt (b := 1000) (by omega) (by decide)).mpr hn
  have cn := cN (n := n) (by omega)
  have hn1 : n ≤ 10000 := by omega
  rw [e_Ar_copyOf, b_Ar_copyOf_0]
  simp only [xk_121 x, xn_121 x, z1, b_Ar_copyOf_8, z2, cn, hn1, hK_mkC, hN_mkC, if_neg ne, Cl_min, if_pos z3, Option.toList, List.cons_append, List.nil_append, b_Ar_copyOf_19, mem20, mem21, mem22, al20, al21, al33, al34, al36, al37, al38, aa33, aa34, aa36, aa37, aa38, true_and, and_true, Int32.reduceOfNat, forall_const, true_implies, implies_true, false_implies, not_true_eq_false, not_false_eq_true]
  refine Cl_cpy ⟨z2, by rw [hK_mkC, if_neg ne]; exact xk_121 x, by rw [hK_mkC, if_pos rfl], ne, by rw [hN_mkC, if_neg ne, cn, xn_121 x]; omega, by rw [hN_mkC, if_pos rfl, cn]; exact Nat.le_refl _⟩ ?_
  simp only [Option.toList, List.cons_append, List.nil_append, b_Ar_copyOf_20, cn]
  exact ⟨rtB _ _, fin⟩
/-- what becoming leaves -/
def BEC (h h' : AH) (r n : Nat) : Prop :=
 (∀ a, a ≠ hz h → hK h' a = hK h a ∧ hN h' a = hN h a) ∧ (hK h' (hz h) = 20 ∧ hN h' (hz h) = n) ∧ (hz h' = hz h + 1 ∧ hu h' = hu h + n) ∧ (∀ a j, a ≠ hz h → ¬ (a = r ∧ j = 0) → ¬ (a = 108 ∧ j = 8) → hR h' a j = hR h a j) ∧ hR h' r 0 = hz h ∧ (∀ a, a ≠ hz h → a ≠ r → a ≠ r + 1 → a ≠ r + 2 → hI h' a = hI h a) ∧ (∀ a, a ≠ hz h → hJ h' a = hJ h a) ∧ hI h' r 1 = nI n ∧ hI h' r 2 = hI h 117 2 ∧ (∀ j, j < 6 → hI h' (r + 1) j = hI h 118 j ∧ hI h' (r + 2) j = hI h 119 j) ∧ (∀ j, j < n → hI h' (hz h) j = hI h 121 j)
theorem w_Pg_become {d : Nat} (r : Nat) (hr : 121 < r) (h0 : AH) (p0 : PRG h0 r) (q0 : PRG h0 117) (Q : Option Value → AH → Prop) (fin : ∀ h', Fr (fun a => a = r + 1 ∨ a = r + 2) nov h0 h' → (∀ j, j < 6 → hI h' (r + 1) j = hI h0 118 j ∧ hI h' (r + 2) j = hI h0 119 j) → Q none h') : ∀ (m i : Nat) (h : AH), i + m = 6 → Fr (fun a => a = r + 1 ∨ a = r + 2) nov h0 h → (∀ j, j < i → hI h (r + 1) j = hI h0 118 j ∧ hI h (r + 2) j = hI h0 119 j) → Wp d P_Pg_become 27 [.ref r, .ref 117, .int (nI i)] [] h Q := by
  intro m
  induction m with
  | zero =>
    intro i h e fr g
    have : i = 6 := by omega
    subst this
    obtain ⟨x0, x1, x2, x3, x4, x5, x6, x7, x8, x9, x10⟩ := p0.fr fr
    rw [b_Pg_become_27]
    simp only [x1, x2, x5, x8, show (6 : Int32) ≤ nI 6 by decide, b_Pg_become_69, mem20, mem21, mem22, al20, al21, al33, al34, al36, al37, al38, aa33, aa34, aa36, aa37, aa38, true_and, and_true, Int32.reduceOfNat, forall_const, true_implies, implies_true, false_implies, not_true_eq_false, not_false_eq_true]
    exact fin h fr g
  | succ m ih =>
    intro i h e fr g
    obtain ⟨x0, x1, x2, x3, x4, x5, x6, x7, x8, x9, x10⟩ := p0.fr fr
    obtain ⟨y0, y1, y2, y3, y4, y5, y6, y7, y8, y9, y10⟩ := q0.fr fr
    have y2' : hR h 117 3 = 118 := y2
    have y3' : hR h 117 4 = 119 := y3
    have y5' : hK h 118 = 20 := y5
    have y6' : hK h 119 = 20 := y6
    have y8' : hN h 118 = 6 := y8
    have y9' : hN h 119 = 6 := y9
    have z : ¬ (6 : Int32) ≤ nI i := mt (nle (a := 6) (by decide) (by omega)).mp (by omega)
    have i1 : ixo (nI i) 6 = true := nix (by omega) (by decide)
    have e8 : hI h 118 = hI h0 118 := fr.I (by omega)
    have e9 : hI h 119 = hI h0 119 := fr.I (by omega)
    have n1 : ¬ (119 : Nat) = r + 1 := by omega
    rw [b_Pg_become_27]
    simp only [x1, x2, x3, x5, x6, x8, x9, y1, y2', y3', y5', y6', y8', y9', z, b_Pg_become_32, b_Pg_become_37, b_Pg_become_45, i1, cN (show i < 2147483648 by omega), b_Pg_become_51, hK_sI, hR_sI, hN_sI, b_Pg_become_60, b_Pg_become_66, rI_sI n1, e8, e9, nI_1, mem20, mem21, mem22, al20, al21, al33, al34, al36, al37, al38, aa33, aa34, aa36, aa37, aa38, true_and, and_true, Int32.reduceOfNat, forall_const, true_implies, implies_true, false_implies, not_true_eq_false, not_false_eq_true]
    refine ih (i + 1) _ (by omega) ((fr.sI (Or.inl rfl)).sI (Or.inr rfl)) ?_
    intro j hj
    rw [rI_sI (show r + 1 ≠ r + 2 by omega), hI_same, hI_same, rI_sI (show r + 2 ≠ r + 1 by omega)]
    by_cases q : j = i
    · rw [if_pos q, if_pos q, q]; exact ⟨rfl, rfl⟩
    · rw [if_neg q, if_neg q]; exact g j (by omega)
theorem c_Pg_become {d : Nat} (r n : Nat) (h : AH) (x : XLY h) (p : PRG h r) (hr : 121 < r) (hr2 : r + 3 < 378) (hz0 : 378 ≤ hz h) (hn : n < 1000) (e1 : hI h 117 1 = nI n) (Q : Option Value → AH → Prop) (fin : ∀ h', BEC h h' r n → Q none h') : Cl (d + 3) q_Pg_become [.ref r, .ref 117] h Q := by
  have z1 := n_nn (n := n) (by omega)
  have z2 : nI n ≤ 1000 := (nle (b := 1000) (by omega) (by decide)).mpr (by omega)
  rw [e_Pg_become, b_Pg_become_0]
  simp only [p.2.1, xk_117 x, e1, z1, b_Pg_become_3, xr_117_0 x, xk_121 x, xn_121 x, z2, b_Pg_become_10, mem20, mem21, mem22, al20, al21, al33, al34, al36, al37, al38, aa33, aa34, aa36, aa37, aa38, true_and, and_true, Int32.reduceOfNat, forall_const, true_implies, implies_true, false_implies, not_true_eq_false, not_false_eq_true]
  refine c_Ar_copyOf n h x hz0 hn _ ?_
  have nr : ∀ a, a < 378 → ¬ a = hz h := fun a ha => by omega
  have kK : ∀ a, a < 378 → hK (cpy (mkC h 20 n n) 121 (hz h) n) a = hK h a := fun a ha => by rw [hK_cpy, hK_mkC, if_neg (nr a ha)]
  have kI : ∀ a, a < 378 → hI (cpy (mkC h 20 n n) 121 (hz h) n) a = hI h a := fun a ha => by
    funext j
    rw [hI_cpy, if_neg (nr a ha), hI_mkC, if_neg (nr a ha)]
  have kR : ∀ a, a < 378 → hR (cpy (mkC h 20 n n) 121 (hz h) n) a = hR h a := fun a ha => by rw [hR_cpy, hR_mkC, if_neg (nr a ha)]
  have kN : ∀ a, a < 378 → hN (cpy (mkC h 20 n n) 121 (hz h) n) a = hN h a := fun a ha => by rw [hN_cpy, hN_mkC, if_neg (nr a ha)]
  have gI : ∀ a, ¬ a = hz h → hI (cpy (mkC h 20 n n) 121 (hz h) n) a = hI h a := fun a ha => by
    funext j
    rw [hI_cpy, if_neg ha, hI_mkC, if_neg ha]
  have gN : ∀ j, j < n → hI (cpy (mkC h 20 n n) 121 (hz h) n) (hz h) j = hI h 121 j := fun j hj => by
    rw [hI_cpy, if_pos rfl, if_pos hj, hI_mkC, if_neg (nr 121 (by decide))]
  have gK : ∀ a, ¬ a = hz h → hK (cpy (mkC h 20 n n) 121 (hz h) n) a = hK h a ∧ hN (cpy (mkC h 20 n n) 121 (hz h) n) a = hN h a ∧ hR (cpy (mkC h 20 n n) 121 (hz h) n) a = hR h a ∧ hJ (cpy (mkC h 20 n n) 121 (hz h) n) a = hJ h a := fun a ha => by
    rw [hK_cpy, hK_mkC, if_neg ha, hN_cpy, hN_mkC, if_neg ha, hR_cpy, hR_mkC, if_neg ha, hJ_cpy, hJ_mkC, if_neg ha]
    exact ⟨rfl, rfl, rfl, rfl⟩
  have gK2 : hK (cpy (mkC h 20 n n) 121 (hz h) n) (hz h) = 20 ∧ hN (cpy (mkC h 20 n n) 121 (hz h) n) (hz h) = n := by
    rw [hK_cpy, hK_mkC, if_pos rfl, hN_cpy, hN_mkC, if_pos rfl]; exact ⟨rfl, rfl⟩
  have gz : hz (cpy (mkC h 20 n n) 121 (hz h) n) = hz h + 1 ∧ hu (cpy (mkC h 20 n n) 121 (hz h) n) = hu h + n := ⟨rfl, rfl⟩
  generalize cpy (mkC h 20 n n) 121 (hz h) n = h1 at kK kI kR kN gI gN gK gK2 gz
  have k117 : hK h1 117 = 6 := by rw [kK 117 (by decide)]; exact xk_117 x
  have kr : hK h1 r = 6 := by rw [kK r (by omega)]; exact p.2.1
  have n117 : ¬ (117 : Nat) = r := by omega
  simp only [Option.toList, List.cons_append, List.nil_append, b_Pg_become_16, hK_sR, hK_sI, hI_sR, kr, k117, rI_sI n117, kI 117 (by decide), e1, true_and]
  have pr0 : PRG h r := p
  have pr1 := prg_117 x
  generalize hh : sI (sI (sR h1 r 0 (hz h)) r 1 (nI n)) r 2 (hI h 117 2) = h2
  have K2 : hK h2 = hK h1 := by rw [← hh]; rfl
  have N2 : hN h2 = hN h1 := by rw [← hh]; rfl
  have R2 : ∀ a j, ¬ (a = r ∧ j = 0) → hR h2 a j = hR h1 a j := by
    intro a j ha
    rw [← hh]
    show hR (sR h1 r 0 (hz h)) a j = _
    rw [hR_sR]
    by_cases q : a = r
    · rw [if_pos q, if_neg (fun z => ha ⟨q, z⟩)]
    · rw [if_neg q]
  have PR : ∀ s, 109 < s → s + 3 < 378 → PRG h s → PRG h2 s := by
    intro s hs hs2 ps
    obtain ⟨x0, x1, x2, x3, x4, x5, x6, x7, x8, x9, x10⟩ := ps
    refine ⟨x0, ?_, ?_, ?_, ?_, ?_, ?_, ?_, ?_, ?_, ?_⟩
    · rw [K2, kK s (by omega)]; exact x1
    · rw [R2 s 3 (by omega), kR s (by omega)]; exact x2
    · rw [R2 s 4 (by omega), kR s (by omega)]; exact x3
    · rw [R2 s 5 (by omega), kR s (by omega)]; exact x4
    · rw [K2, kK _ (by omega)]; exact x5
    · rw [K2, kK _ (by omega)]; exact x6
    · rw [K2, kK _ (by omega)]; exact x7
    · rw [N2, kN _ (by omega)]; exact x8
    · rw [N2, kN _ (by omega)]; exact x9
    · rw [N2, kN _ (by omega)]; exact x10
  have I2 : ∀ a, a ≠ r → hI h2 a = hI h1 a := by
    intro a ha
    rw [← hh, rI_sI ha, rI_sI ha, hI_sR]
  refine w_Pg_become r hr h2 (PR r (by omega) (by omega) p) (PR 117 (by decide) (by decide) pr1) _ ?_ 6 0 h2 rfl Fr.rfl' (fun j hj => by omega)
  intro h3 fr3 g3
  refine ⟨rtV, fin h3 ⟨?_, ?_, ?_, ?_, ?_, ?_, ?_, ?_, ?_, ?_, ?_⟩⟩
  · intro a ha
    rw [fr3.K, fr3.N, K2, N2]
    exact ⟨(gK a ha).1, (gK a ha).2.1⟩
  · rw [fr3.K, fr3.N, K2, N2]; exact gK2
  · rw [fr3.z, fr3.u, ← hh]; exact gz
  · intro a j ha hj y
    rw [fr3.R y, R2 a j hj, (gK a ha).2.2.1]
  · rw [fr3.R (by omega), ← hh]
    show hR (sR h1 r 0 (hz h)) r 0 = _
    rw [hR_sR, if_pos rfl, if_pos rfl]
  · intro a ha h1' h2' h3'
    rw [fr3.I (by omega), I2 a h1', gI a ha]
  · intro a ha
    rw [fr3.J (fun z => z), ← hh]
    show hJ h1 a = _
    exact (gK a ha).2.2.2
  · rw [fr3.I (by omega), ← hh, hI_same, if_neg (by decide), hI_same, if_pos rfl]
  · rw [fr3.I (by omega), ← hh, hI_same, if_pos rfl]
  · intro j hj
    obtain ⟨w1, w2⟩ := g3 j hj
    rw [w1, w2, I2 118 (by omega), I2 119 (by omega), gI 118 (nr 118 (by decide)), gI 119 (nr 119 (by decide))]
    exact ⟨rfl, rfl⟩
  · intro j hj
    rw [fr3.I (by omega), I2 _ (by omega)]
    exact gN j hj
