--deps: 9y.opreader
/-! HOW FAR A QUESTION SPREADS DOER AND OTHER -/
def lb (bd : Nat → Option (List Nat)) (k it ti f dn hb pc : Int32) (l : Nat) : Int32 := clp (lnV (wN (bF k it ti f dn 0 0 hb pc) 0) (bd l))
def ab (bd : Nat → Option (List Nat)) (k it ti f hb pc : Int32) (l : Nat) : Int32 := if 0 ≤ lb bd k it ti f 1 hb pc l - lb bd k it ti f 0 hb pc l then lb bd k it ti f 1 hb pc l - lb bd k it ti f 0 hb pc l else 0 - (lb bd k it ti f 1 hb pc l - lb bd k it ti f 0 hb pc l)
def spS (a : Nat → Int32) : Nat → Int32
  | 0 => 0
  | l + 1 => spS a l + a l
def spc : Nat → Prop := fun a => a = 126 ∨ a = 128 ∨ a = 129
theorem w_spread1 {d : Nat} (pl : Nat) (q x5 x6 : Int32) (G : Nat → Int32) (bd : Nat → Option (List Nat)) (A : Nat → Int32) (h0 : AH) (x0 : XLY h0) (b0 : XBd h0 bd) (hA : ∀ l, l < 3 → A l = clp (lnV (wN G 0) (bd l))) (Q : Option Value → AH → Prop)
    (fin : ∀ h' v, Fr spc nov h0 h' → (∀ l, l < 3 → hI h' 129 l = A l) → Wp (d + 4) P_Ch_spread 24 [.ref 122, .ref 141, .ref 142, .ref pl, .int q, .int x5, .int x6, .int v, .null] [] h' Q) : ∀ (m l : Nat) (h : AH), l + m = 3 → Fr spc nov h0 h → (∀ i, i < 11 → hI h 128 i = G i) → (∀ j, j < l → hI h 129 j = A j) →
    Wp (d + 4) P_Ch_spread 9 [.ref 122, .ref 141, .ref 142, .ref pl, .int q, .int x5, .int x6, .int (nI l), .null] [] h Q := by
  intro m
  induction m with
  | zero =>
    intro l h e fr g k
    have : l = 3 := by omega
    subst this
    have x := x0.fr fr
    rw [b_Ch_spread_9]
    simp only [xk_122 x, xr_122_2 x, xk_129 x, xn_129 x, show (3 : Int32) ≤ nI 3 by decide, mem20, mem21, mem22, al20, al21, al33, al34, al36, al37, al38, aa33, aa34, aa36, aa37, aa38, true_and, and_true, Int32.reduceOfNat, forall_const, true_implies, implies_true, false_implies, not_true_eq_false, not_false_eq_true]
    exact fin h _ fr k
  | succ m ih =>
    intro l h e fr g k
    have x := x0.fr fr
    have b := b0.fr fr (by unfold spc; omega)
    have z : ¬ (Int32.ofNat 3) ≤ nI l := mt (nle_l (by decide) (by omega)).mp (by omega)
    have z' : ¬ 3 ≤ nI l := z
    rw [b_Ch_spread_9]
    simp only [xk_122 x, xr_122_2 x, xk_129 x, xn_129 x, z, z', b_Ch_spread_14, mem20, mem21, mem22, al20, al21, al33, al34, al36, al37, al38, aa33, aa34, aa36, aa37, aa38, true_and, and_true, Int32.reduceOfNat, forall_const, true_implies, implies_true, false_implies, not_true_eq_false, not_false_eq_true]
    refine c_Ch_jumpOf l 0 G (bd l) h x b.1 (by omega) g (b.2 _ (by omega)).1 (b.2 _ (by omega)).2 _ ?_
    intro h1 fr1 g1
    have fr2 : Fr spc nov h0 h1 := fr.tr (fr1.mo (by unfold jcs spc; omega) (fun a z => z))
    have x1 := x0.fr fr2
    have i1 : ixo (nI l) 3 = true := nix (by omega) (by decide)
    simp only [Option.toList, List.cons_append, List.nil_append, b_Ch_spread_21, xk_129 x1, xn_129 x1, i1, cN (show l < 2147483648 by omega), nI_1, mem20, mem21, mem22, al20, al21, al33, al34, al36, al37, al38, aa33, aa34, aa36, aa37, aa38, true_and, and_true, Int32.reduceOfNat, forall_const, true_implies, implies_true, false_implies, not_true_eq_false, not_false_eq_true]
    refine ih (l + 1) _ (by omega) (fr2.sI (by unfold spc; omega)) ?_ ?_
    · intro i hi
      rw [rI_sI (by decide)]
      exact g1 i hi
    · intro j hj
      rw [hI_same]
      by_cases qj : j = l
      · rw [if_pos qj, qj, hA l (by omega)]
      · rw [if_neg qj, fr1.I (by unfold jcs; omega)]
        exact k j (by omega)
theorem w_spread2 {d : Nat} (pl : Nat) (q x5 x6 : Int32) (G : Nat → Int32) (bd : Nat → Option (List Nat)) (A B C : Nat → Int32) (h0 : AH) (x0 : XLY h0) (b0 : XBd h0 bd) (hB : ∀ l, l < 3 → B l = clp (lnV (wN G 0) (bd l))) (hC : ∀ l, l < 3 → C l = if 0 ≤ A l - B l then A l - B l else 0 - (A l - B l)) (Q : Option Value → AH → Prop)
    (fin : ∀ h', Fr spc nov h0 h' → Q (some (.int (spS C 3))) h') : ∀ (m l : Nat) (h : AH), l + m = 3 → Fr spc nov h0 h → (∀ i, i < 11 → hI h 128 i = G i) → (∀ j, j < 3 → hI h 129 j = A j) →
    Wp (d + 4) P_Ch_spread 35 [.ref 122, .ref 141, .ref 142, .ref pl, .int q, .int x5, .int x6, .int (spS C l), .int (nI l)] [] h Q := by
  intro m
  induction m with
  | zero =>
    intro l h e fr g k
    have : l = 3 := by omega
    subst this
    have x := x0.fr fr
    rw [b_Ch_spread_35]
    simp only [xk_122 x, xr_122_2 x, xk_129 x, xn_129 x, show (3 : Int32) ≤ nI 3 by decide, b_Ch_spread_55, mem20, mem21, mem22, al20, al21, al33, al34, al36, al37, al38, aa33, aa34, aa36, aa37, aa38, true_and, and_true, Int32.reduceOfNat, forall_const, true_implies, implies_true, false_implies, not_true_eq_false, not_false_eq_true]
    exact fin h fr
  | succ m ih =>
    intro l h e fr g k
    have x := x0.fr fr
    have b := b0.fr fr (by unfold spc; omega)
    have z : ¬ (Int32.ofNat 3) ≤ nI l := mt (nle_l (by decide) (by omega)).mp (by omega)
    have z' : ¬ 3 ≤ nI l := z
    have i1 : ixo (nI l) 3 = true := nix (by omega) (by decide)
    rw [b_Ch_spread_35]
    simp only [xk_122 x, xr_122_2 x, xk_129 x, xn_129 x, z, z', b_Ch_spread_40, i1, cN (show l < 2147483648 by omega), k l (by omega), mem20, mem21, mem22, al20, al21, al33, al34, al36, al37, al38, aa33, aa34, aa36, aa37, aa38, true_and, and_true, Int32.reduceOfNat, forall_const, true_implies, implies_true, false_implies, not_true_eq_false, not_false_eq_true]
    refine c_Ch_jumpOf l 0 G (bd l) h x b.1 (by omega) g (b.2 _ (by omega)).1 (b.2 _ (by omega)).2 _ ?_
    intro h1 fr1 g1
    have fr2 : Fr spc nov h0 h1 := fr.tr (fr1.mo (by unfold jcs spc; omega) (fun a z => z))
    rw [← hB l (by omega)]
    simp only [Option.toList, List.cons_append, List.nil_append, b_Ch_spread_49, Cl_abs, b_Ch_spread_51, nI_1]
    rw [← hC l (by omega)]
    exact ih (l + 1) _ (by omega) fr2 g1 (fun j hj => by rw [fr1.I (by unfold jcs; omega)]; exact k j hj)
theorem c_Ch_spread {d : Nat} (pl n q : Nat) (f hb pc : Int32) (bd : Nat → Option (List Nat)) (h : AH) (x : XLY h) (b : XBd h bd) (y : PLN h pl) (pd : 145 < pl) (hn : hI h pl 3 = nI n) (hn2 : n ≤ 12) (hq : q < n) (p1 : hI h 141 1 = f ∧ hI h 141 2 = 1 ∧ hI h 141 3 = 0 ∧ hI h 141 4 = 0) (p2 : hI h 142 1 = f ∧ hI h 142 2 = 0 ∧ hI h 142 3 = 0 ∧ hI h 142 4 = 0) (Q : Option Value → AH → Prop)
    (fin : ∀ h', Fr spc nov h h' → Q (some (.int (spS (ab bd (hI h (pl + 1) q) (hI h (pl + 2) q) (hI h 122 3) f hb pc) 3))) h') : Cl (d + 5) q_Ch_spread [.ref 122, .ref 141, .ref 142, .ref pl, .int (nI q), .int hb, .int pc] h Q := by
  rw [e_Ch_spread, b_Ch_spread_0]
  refine ⟨xk_122 x, ?_⟩
  refine c_Ch_pose 141 pl n q hb pc h x (xk_141 x) y hn hn2 hq _ ?_
  intro h1 fr1 g1
  rw [p1.1, p1.2.1, p1.2.2.1, p1.2.2.2] at g1
  have frA : Fr spc nov h h1 := fr1.mo (by unfold onl spc; omega) (fun a z => z)
  simp only [Option.toList, List.cons_append, List.nil_append, b_Ch_spread_7]
  refine w_spread1 pl (nI q) hb pc _ bd (lb bd (hI h (pl + 1) q) (hI h (pl + 2) q) (hI h 122 3) f 1 hb pc) h x b (fun l hl => rfl) _ ?_ 3 0 h1 rfl frA g1 (fun j hj => by omega)
  intro h2 v fr2 k2
  have ec : ∀ a, 145 < a ∨ a = 122 ∨ a = 141 ∨ a = 142 → hI h2 a = hI h a := fun a ha => fr2.I (by unfold spc; omega)
  rw [b_Ch_spread_24]
  refine c_Ch_pose 142 pl n q hb pc h2 (x.fr fr2) (xk_142 (x.fr fr2)) (y.fr fr2) (by rw [ec _ (by omega)]; exact hn) hn2 hq _ ?_
  intro h3 fr3 g3
  rw [ec _ (by omega), ec _ (by omega), ec 122 (by omega), ec 142 (by omega), p2.1, p2.2.1, p2.2.2.1, p2.2.2.2] at g3
  have frB : Fr spc nov h h3 := fr2.tr (fr3.mo (by unfold onl spc; omega) (fun a z => z))
  simp only [Option.toList, List.cons_append, List.nil_append, b_Ch_spread_31]
  refine w_spread2 pl (nI q) hb pc _ bd (lb bd (hI h (pl + 1) q) (hI h (pl + 2) q) (hI h 122 3) f 1 hb pc) (lb bd (hI h (pl + 1) q) (hI h (pl + 2) q) (hI h 122 3) f 0 hb pc) (ab bd (hI h (pl + 1) q) (hI h (pl + 2) q) (hI h 122 3) f hb pc) h x b (fun l hl => rfl) (fun l hl => rfl) _ (fun h' w => ⟨rtI _, fin h' w⟩) 3 0 h3 rfl frB g3 ?_
  intro j hj
  rw [fr3.I (by unfold onl; decide)]
  exact k2 j hj
/-! WEIGHING -/
def wgc : Nat → Prop := fun a => a = 126 ∨ a = 128 ∨ a = 129 ∨ a = 133
def WGH (sp : Nat → Nat → Nat → Int32) (kd : Nat → Int32) (n B : Nat) (h : AH) : Prop := ∀ q pc hb, q < n → pc ≤ q → hb ≤ cnt kd (kd q) q → hb ≤ pc → 144 * q + 12 * pc + hb < B → hI h 133 (144 * q + 12 * pc + hb) = sp q hb pc
theorem ncell {q pc hb : Nat} : (nI q * 12 + nI pc) * 12 + nI hb = nI (144 * q + 12 * pc + hb) := by
  rw [show (12 : Int32) = nI 12 from rfl, nmul, nadd, nmul, nadd]
  congr 1; omega
section WG
variable {d pl n : Nat} {f : Int32} {bd : Nat → Option (List Nat)} {kd it : Nat → Int32} {ti : Int32} {sp : Nat → Nat → Nat → Int32} {h0 : AH} {Q : Option Value → AH → Prop}
theorem w_weigh3 (q pc : Nat) (x0 : XLY h0) (b0 : XBd h0 bd) (y0 : PLN h0 pl) (pd : 145 < pl) (hn : hI h0 pl 3 = nI n) (hn2 : n ≤ 12) (hq : q < n) (hpc : pc ≤ q) (p1 : hI h0 141 1 = f ∧ hI h0 141 2 = 1 ∧ hI h0 141 3 = 0 ∧ hI h0 141 4 = 0) (p2 : hI h0 142 1 = f ∧ hI h0 142 2 = 0 ∧ hI h0 142 3 = 0 ∧ hI h0 142 4 = 0) (hkd : ∀ q, q < n → hI h0 (pl + 1) q = kd q ∧ hI h0 (pl + 2) q = it q) (hti : hI h0 122 3 = ti) (hsp : ∀ q hb pc, sp q hb pc = spS (ab bd (kd q) (it q) ti f (nI hb) (nI pc)) 3)
    (fin : ∀ h' x8 v9, Fr wgc nov h0 h' → WGH sp kd n (144 * q + 12 * (pc + 1)) h' → Wp (d + 5) P_Pr_weigh 49 [.ref 132, .ref 122, .ref pl, .ref 141, .ref 142, .int (nI q), .int (nI (cnt kd (kd q) q)), .int (nI pc), .int x8, v9] [] h' Q) : ∀ (m hb : Nat) (h : AH) (v9 : Value), hb + m = (min (cnt kd (kd q) q) pc) + 1 → Fr wgc nov h0 h → WGH sp kd n (144 * q + 12 * pc + hb) h →
    Wp (d + 5) P_Pr_weigh 17 [.ref 132, .ref 122, .ref pl, .ref 141, .ref 142, .int (nI q), .int (nI (cnt kd (kd q) q)), .int (nI pc), .int (nI hb), v9] [] h Q := by
  have cl := cnt_le kd (kd q) q
  intro m
  induction m with
  | zero =>
    intro hb h v9 e fr k
    have k' : WGH sp kd n (144 * q + 12 * (pc + 1)) h := by
      intro q' pc' hb' a1 a2 a3 a4 a5
      by_cases qq : q' = q
      · subst qq
        exact k q' pc' hb' a1 a2 a3 a4 (by omega)
      · exact k q' pc' hb' a1 a2 a3 a4 (by omega)
    have f1 := fin h (nI hb) v9 fr k'
    rw [b_Pr_weigh_17]
    refine ⟨fun _ => f1, fun w => ?_⟩
    rw [b_Pr_weigh_20]
    refine ⟨fun _ => f1, fun w2 => ?_⟩
    have w' := mt (nlt (by omega) (by omega)).mpr w
    have w2' := mt (nlt (by omega) (by omega)).mpr w2
    omega
  | succ m ih =>
    intro hb h v9 e fr k
    have x := x0.fr fr
    have b := b0.fr fr (by unfold wgc; omega)
    have y := y0.fr fr
    have z1 : ¬ nI (cnt kd (kd q) q) < nI hb := mt (nlt (by omega) (by omega)).mp (by omega)
    have z2 : ¬ nI pc < nI hb := mt (nlt (by omega) (by omega)).mp (by omega)
    have z3 := n_nn (n := 144 * q + 12 * pc + hb) (by omega)
    have z4 : ¬ (Int32.ofNat 1728) ≤ nI (144 * q + 12 * pc + hb) := mt (nle_l (by decide) (by omega)).mp (by omega)
    have z4' : ¬ 1728 ≤ nI (144 * q + 12 * pc + hb) := z4
    have ec : ∀ a, 145 < a ∨ a = 122 ∨ a = 141 ∨ a = 142 → hI h a = hI h0 a := fun a ha => fr.I (by unfold wgc; omega)
    rw [b_Pr_weigh_17]
    simp only [z1, z2, b_Pr_weigh_20, b_Pr_weigh_23, e_Pr_cell, b_Pr_cell_0, ncell, rtI, Option.toList, List.cons_append, List.nil_append, b_Pr_weigh_27, z3, b_Pr_weigh_30, xk_132 x, xr_132_0 x, xk_133 x, xn_133 x, z4, z4', b_Pr_weigh_35, mem20, mem21, mem22, al20, al21, al33, al34, al36, al37, al38, aa33, aa34, aa36, aa37, aa38, true_and, and_true, Int32.reduceOfNat, forall_const, true_implies, implies_true, false_implies, not_true_eq_false, not_false_eq_true]
    refine c_Ch_spread pl n q f (nI hb) (nI pc) bd h x b y pd (by rw [ec _ (by omega)]; exact hn) hn2 hq (by rw [ec _ (by omega)]; exact p1) (by rw [ec _ (by omega)]; exact p2) _ ?_
    intro h1 fr1
    rw [ec _ (by omega), ec _ (by omega), ec 122 (by omega), (hkd q hq).1, (hkd q hq).2, hti, ← hsp]
    have fr2 : Fr wgc nov h0 h1 := fr.tr (fr1.mo (by unfold spc wgc; omega) (fun a z => z))
    have x1 := x0.fr fr2
    have i1 : ixo (nI (144 * q + 12 * pc + hb)) 1728 = true := nix (by omega) (by decide)
    simp only [Option.toList, List.cons_append, List.nil_append, b_Pr_weigh_46, b_Pr_weigh_47, xk_133 x1, xn_133 x1, i1, cN (show 144 * q + 12 * pc + hb < 2147483648 by omega), nI_1, mem20, mem21, mem22, al20, al21, al33, al34, al36, al37, al38, aa33, aa34, aa36, aa37, aa38, true_and, and_true, Int32.reduceOfNat, forall_const, true_implies, implies_true, false_implies, not_true_eq_false, not_false_eq_true]
    refine ih (hb + 1) _ _ (by omega) (fr2.sI (by unfold wgc; omega)) ?_
    intro q' pc' hb' a1 a2 a3 a4 a5
    rw [hI_same]
    by_cases qj : 144 * q' + 12 * pc' + hb' = 144 * q + 12 * pc + hb
    · have e1 : q' = q := by omega
      have e2 : pc' = pc := by omega
      have e3 : hb' = hb := by omega
      subst e1 e2 e3
      rw [if_pos rfl]
    · rw [if_neg qj, fr1.I (by unfold spc; omega)]
      exact k q' pc' hb' a1 a2 a3 a4 (by omega)
theorem w_weigh2 (q : Nat) (x0 : XLY h0) (b0 : XBd h0 bd) (y0 : PLN h0 pl) (pd : 145 < pl) (hn : hI h0 pl 3 = nI n) (hn2 : n ≤ 12) (hq : q < n) (p1 : hI h0 141 1 = f ∧ hI h0 141 2 = 1 ∧ hI h0 141 3 = 0 ∧ hI h0 141 4 = 0) (p2 : hI h0 142 1 = f ∧ hI h0 142 2 = 0 ∧ hI h0 142 3 = 0 ∧ hI h0 142 4 = 0) (hkd : ∀ q, q < n → hI h0 (pl + 1) q = kd q ∧ hI h0 (pl + 2) q = it q) (hti : hI h0 122 3 = ti) (hsp : ∀ q hb pc, sp q hb pc = spS (ab bd (kd q) (it q) ti f (nI hb) (nI pc)) 3)
    (fin : ∀ h' x7 v8 v9, Fr wgc nov h0 h' → WGH sp kd n (144 * (q + 1)) h' → Wp (d + 5) P_Pr_weigh 51 [.ref 132, .ref 122, .ref pl, .ref 141, .ref 142, .int (nI q), .int (nI (cnt kd (kd q) q)), .int x7, v8, v9] [] h' Q) : ∀ (m pc : Nat) (h : AH) (v8 v9 : Value), pc + m = q + 1 → Fr wgc nov h0 h → WGH sp kd n (144 * q + 12 * pc) h →
    Wp (d + 5) P_Pr_weigh 12 [.ref 132, .ref 122, .ref pl, .ref 141, .ref 142, .int (nI q), .int (nI (cnt kd (kd q) q)), .int (nI pc), v8, v9] [] h Q := by
  intro m
  induction m with
  | zero =>
    intro pc h v8 v9 e fr k
    have z : nI q < nI pc := (nlt (by omega) (by omega)).mpr (by omega)
    rw [b_Pr_weigh_12]
    simp only [z, mem20, mem21, mem22, al20, al21, al33, al34, al36, al37, al38, aa33, aa34, aa36, aa37, aa38, true_and, and_true, Int32.reduceOfNat, forall_const, true_implies, implies_true, false_implies, not_true_eq_false, not_false_eq_true]
    refine fin h _ _ _ fr ?_
    intro q' pc' hb' a1 a2 a3 a4 a5
    exact k q' pc' hb' a1 a2 a3 a4 (by omega)
  | succ m ih =>
    intro pc h v8 v9 e fr k
    have z : ¬ nI q < nI pc := mt (nlt (by omega) (by omega)).mp (by omega)
    rw [b_Pr_weigh_12]
    simp only [z, b_Pr_weigh_15, mem20, mem21, mem22, al20, al21, al33, al34, al36, al37, al38, aa33, aa34, aa36, aa37, aa38, true_and, and_true, Int32.reduceOfNat, forall_const, true_implies, implies_true, false_implies, not_true_eq_false, not_false_eq_true]
    refine w_weigh3 q pc x0 b0 y0 pd hn hn2 hq (by omega) p1 p2 hkd hti hsp ?_ _ 0 h v9 (Nat.zero_add _) fr k
    intro h1 x8 w9 fr1 k1
    rw [b_Pr_weigh_49, nI_1]
    exact ih (pc + 1) h1 _ _ (by omega) fr1 k1
theorem cnt_eq {g g' : Nat → Int32} {k : Int32} : ∀ {n : Nat}, (∀ i, i < n → g i = g' i) → cnt g k n = cnt g' k n := by
  intro n
  induction n with
  | zero => intro _; rfl
  | succ n ih =>
    intro e
    unfold cnt
    rw [ih (fun i hi => e i (by omega)), e n (by omega)]
theorem w_weigh1 (x0 : XLY h0) (b0 : XBd h0 bd) (y0 : PLN h0 pl) (pd : 145 < pl) (hn : hI h0 pl 3 = nI n) (hn2 : n ≤ 12) (p1 : hI h0 141 1 = f ∧ hI h0 141 2 = 1 ∧ hI h0 141 3 = 0 ∧ hI h0 141 4 = 0) (p2 : hI h0 142 1 = f ∧ hI h0 142 2 = 0 ∧ hI h0 142 3 = 0 ∧ hI h0 142 4 = 0) (hkd : ∀ q, q < n → hI h0 (pl + 1) q = kd q ∧ hI h0 (pl + 2) q = it q) (hti : hI h0 122 3 = ti) (hsp : ∀ q hb pc, sp q hb pc = spS (ab bd (kd q) (it q) ti f (nI hb) (nI pc)) 3)
    (fin : ∀ h', Fr wgc nov h0 h' → WGH sp kd n (144 * n) h' → Q none h') : ∀ (m q : Nat) (h : AH) (v6 v7 v8 v9 : Value), q + m = n → Fr wgc nov h0 h → WGH sp kd n (144 * q) h →
    Wp (d + 5) P_Pr_weigh 2 [.ref 132, .ref 122, .ref pl, .ref 141, .ref 142, .int (nI q), v6, v7, v8, v9] [] h Q := by
  intro m
  induction m with
  | zero =>
    intro q h v6 v7 v8 v9 e fr k
    have : q = n := by omega
    subst this
    have y := y0.fr fr
    have ec : hI h pl = hI h0 pl := fr.I (by unfold wgc; omega)
    rw [b_Pr_weigh_2]
    simp only [y.2.1, ec, hn, Int32.le_refl, b_Pr_weigh_53, mem20, mem21, mem22, al20, al21, al33, al34, al36, al37, al38, aa33, aa34, aa36, aa37, aa38, true_and, and_true, Int32.reduceOfNat, forall_const, true_implies, implies_true, false_implies, not_true_eq_false, not_false_eq_true]
    exact fin h fr k
  | succ m ih =>
    intro q h v6 v7 v8 v9 e fr k
    have y := y0.fr fr
    have ec : hI h pl = hI h0 pl := fr.I (by unfold wgc; omega)
    have e1 : hI h (pl + 1) = hI h0 (pl + 1) := fr.I (by unfold wgc; omega)
    have z : ¬ nI n ≤ nI q := mt (nle (by omega) (by omega)).mp (by omega)
    have ek : cnt (hI h (pl + 1)) (hI h (pl + 1) q) q = cnt kd (kd q) q := by
      rw [e1, (hkd q (by omega)).1]
      exact cnt_eq (fun i hi => (hkd i (by omega)).1)
    rw [b_Pr_weigh_2]
    simp only [y.2.1, ec, hn, z, b_Pr_weigh_6, c_Pl_ahead pl n q h y (by rw [ec]; exact hn) hn2 (by omega), ek, Option.toList, List.cons_append, List.nil_append, b_Pr_weigh_9, mem20, mem21, mem22, al20, al21, al33, al34, al36, al37, al38, aa33, aa34, aa36, aa37, aa38, true_and, and_true, Int32.reduceOfNat, forall_const, true_implies, implies_true, false_implies, not_true_eq_false, not_false_eq_true]
    refine w_weigh2 q x0 b0 y0 pd hn hn2 (by omega) p1 p2 hkd hti hsp ?_ _ 0 h _ _ (Nat.zero_add _) fr k
    intro h1 x7 w8 w9 fr1 k1
    rw [b_Pr_weigh_51, nI_1]
    exact ih (q + 1) h1 _ _ _ _ (by omega) fr1 k1
theorem c_Pr_weigh (x0 : XLY h0) (b0 : XBd h0 bd) (y0 : PLN h0 pl) (pd : 145 < pl) (hn : hI h0 pl 3 = nI n) (hn2 : n ≤ 12) (p1 : hI h0 141 1 = f ∧ hI h0 141 2 = 1 ∧ hI h0 141 3 = 0 ∧ hI h0 141 4 = 0) (p2 : hI h0 142 1 = f ∧ hI h0 142 2 = 0 ∧ hI h0 142 3 = 0 ∧ hI h0 142 4 = 0) (hkd : ∀ q, q < n → hI h0 (pl + 1) q = kd q ∧ hI h0 (pl + 2) q = it q) (hti : hI h0 122 3 = ti) (hsp : ∀ q hb pc, sp q hb pc = spS (ab bd (kd q) (it q) ti f (nI hb) (nI pc)) 3)
    (fin : ∀ h', Fr wgc nov h0 h' → WGH sp kd n (144 * n) h' → Q none h') : Cl (d + 6) q_Pr_weigh [.ref 132, .ref 122, .ref pl, .ref 141, .ref 142] h0 Q := by
  rw [e_Pr_weigh, b_Pr_weigh_0]
  exact ⟨xk_132 x0, w_weigh1 x0 b0 y0 pd hn hn2 p1 p2 hkd hti hsp (fun h' f1 f2 => ⟨rtV, fin h' f1 f2⟩) n 0 h0 _ _ _ _ (Nat.zero_add _) Fr.rfl' (fun q pc hb _ _ _ _ w => absurd w (by omega))⟩
end WG
