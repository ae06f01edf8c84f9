--deps: 9z.spread
/-! CHOOSING -/
abbrev bt (s : Int32) (q : Nat) : Prop := ((s >>> (nI q &&& 31)) &&& 1) = 1
def spn (mn : Nat → Int32) (s : Int32) : Nat → Int32
  | 0 => 0
  | q + 1 => if bt s q then spn mn s q + mn q else spn mn s q
def plN (s : Int32) : Nat → Nat
  | 0 => 0
  | q + 1 => if bt s q then plN s q + 1 else plN s q
def chn (ks : Nat → Nat) (s : Int32) (k : Nat) : Nat → Nat
  | 0 => 0
  | q + 1 => if bt s q ∧ ks q = k then chn ks s k q + 1 else chn ks s k q
def pwr (sp : Nat → Nat → Nat → Int32) (ks : Nat → Nat) (s : Int32) : Nat → Int32
  | 0 => 0
  | q + 1 => if bt s q then pwr sp ks s q + sp q (chn ks s (ks q) q) (plN s q) else pwr sp ks s q
theorem plN_le (s : Int32) : ∀ q, plN s q ≤ q
  | 0 => Nat.le_refl _
  | q + 1 => by
    have := plN_le s q
    unfold plN
    split <;> omega
theorem chn_le (ks : Nat → Nat) (s : Int32) (k : Nat) : ∀ q, chn ks s k q ≤ plN s q
  | 0 => Nat.le_refl _
  | q + 1 => by
    have := chn_le ks s k q
    unfold chn plN
    by_cases a : bt s q
    · by_cases b : ks q = k
      · rw [if_pos ⟨a, b⟩, if_pos a]; omega
      · rw [if_neg (fun w => b w.2), if_pos a]; omega
    · rw [if_neg (fun w => a w.1), if_neg a]; exact this
theorem chn_cnt (kd : Nat → Int32) (ks : Nat → Nat) (s : Int32) (k : Nat) : ∀ q, (∀ i, i < q → kd i = nI (ks i)) → chn ks s k q ≤ cnt kd (nI k) q := by
  intro q
  induction q with
  | zero => intro _; exact Nat.le_refl _
  | succ q ih =>
    intro e
    have := ih (fun i hi => e i (by omega))
    unfold chn cnt
    by_cases a : bt s q ∧ ks q = k
    · rw [if_pos a, if_pos (by rw [e q (by omega), a.2])]; omega
    · rw [if_neg a]; split <;> omega
theorem bt_0 {q : Nat} (hq : q < 12) : ¬ bt 0 q := by
  have c : q = 0 ∨ q = 1 ∨ q = 2 ∨ q = 3 ∨ q = 4 ∨ q = 5 ∨ q = 6 ∨ q = 7 ∨ q = 8 ∨ q = 9 ∨ q = 10 ∨ q = 11 := by omega
  rcases c with rfl | rfl | rfl | rfl | rfl | rfl | rfl | rfl | rfl | rfl | rfl | rfl <;> decide
theorem spn_0 (mn : Nat → Int32) : ∀ q, q ≤ 12 → spn mn 0 q = 0
  | 0, _ => rfl
  | q + 1, h => by
    unfold spn
    rw [if_neg (bt_0 (by omega)), spn_0 mn q (by omega)]
theorem sh_n {n : Nat} (hn : n ≤ 12) : (1 : Int32) <<< (nI n &&& 31) = nI (2 ^ n) := by
  have c : n = 0 ∨ n = 1 ∨ n = 2 ∨ n = 3 ∨ n = 4 ∨ n = 5 ∨ n = 6 ∨ n = 7 ∨ n = 8 ∨ n = 9 ∨ n = 10 ∨ n = 11 ∨ n = 12 := by omega
  rcases c with rfl | rfl | rfl | rfl | rfl | rfl | rfl | rfl | rfl | rfl | rfl | rfl | rfl <;> decide
theorem pw12 {n : Nat} (hn : n ≤ 12) : 1 ≤ 2 ^ n ∧ 2 ^ n ≤ 4096 := ⟨Nat.one_le_two_pow, Nat.pow_le_pow_right (by decide) hn⟩
/-- best power and best set among the first t -/
def bst (sp : Nat → Nat → Nat → Int32) (ks : Nat → Nat) (mn : Nat → Int32) (n : Nat) (M : Int32) : Nat → Int32 × Int32
  | 0 => (0, 0)
  | t + 1 => if M < spn mn (nI (t + 1)) n then bst sp ks mn n M t else if pwr sp ks (nI (t + 1)) n ≤ (bst sp ks mn n M t).1 then bst sp ks mn n M t else (pwr sp ks (nI (t + 1)) n, nI (t + 1))
theorem bst_nn (sp : Nat → Nat → Nat → Int32) (ks : Nat → Nat) (mn : Nat → Int32) (n : Nat) (M : Int32) : ∀ t, 0 ≤ (bst sp ks mn n M t).1
  | 0 => show (0 : Int32) ≤ 0 from by decide
  | t + 1 => by
    have := bst_nn sp ks mn n M t
    unfold bst
    by_cases a : M < spn mn (nI (t + 1)) n
    · rw [if_pos a]; exact this
    · rw [if_neg a]
      by_cases b : pwr sp ks (nI (t + 1)) n ≤ (bst sp ks mn n M t).1
      · rw [if_pos b]; exact this
      · rw [if_neg b]
        exact Int32.le_trans this (Int32.le_of_lt (Int32.not_le.mp b))
section CH
variable {d pl n : Nat} {kd mn : Nat → Int32} {ks : Nat → Nat} {sp : Nat → Nat → Nat → Int32} {h0 : AH} {Q : Option Value → AH → Prop}
theorem c_Pr_spanOf (s : Int32) (h : AH) (y : PLN h pl) (hn : hI h pl 3 = nI n) (hn2 : n ≤ 12) (hmn : ∀ q, q < n → hI h (pl + 3) q = mn q) : Cl (d + 2) q_Pr_spanOf [.ref pl, .int s] h Q ↔ Q (some (.int (spn mn s n))) h := by
  have key : ∀ (m q : Nat) (Q : Option Value → AH → Prop), q + m = n → (Wp (d + 1) P_Pr_spanOf 4 [.ref pl, .int s, .int (spn mn s q), .int (nI q)] [] h Q ↔ Q (some (.int (spn mn s n))) h) := by
    intro m
    induction m with
    | zero =>
      intro q Q e
      have : q = n := by omega
      subst this
      rw [b_Pr_spanOf_4]
      simp only [y.2.1, hn, Int32.le_refl, b_Pr_spanOf_23, mem20, mem21, mem22, al20, al21, al33, al34, al36, al37, al38, aa33, aa34, aa36, aa37, aa38, true_and, and_true, Int32.reduceOfNat, forall_const, true_implies, implies_true, false_implies, not_true_eq_false, not_false_eq_true]
    | succ m ih =>
      intro q Q e
      have z : ¬ nI n ≤ nI q := mt (nle (by omega) (by omega)).mp (by omega)
      have ihm := ih (q + 1) Q (by omega)
      have hs : spn mn s (q + 1) = if bt s q then spn mn s q + mn q else spn mn s q := rfl
      rw [hs] at ihm
      rw [b_Pr_spanOf_4]
      simp only [y.2.1, hn, z, b_Pr_spanOf_8, b_Pr_spanOf_15, c_Pl_minutesAt pl _ h y, pAt_n _ (show q < n by omega) hn2, hmn q (by omega), Option.toList, List.cons_append, List.nil_append, b_Pr_spanOf_19, b_Pr_spanOf_21, nI_1, mem20, mem21, mem22, al20, al21, al33, al34, al36, al37, al38, aa33, aa34, aa36, aa37, aa38, true_and, and_true, Int32.reduceOfNat, forall_const, true_implies, implies_true, false_implies, not_true_eq_false, not_false_eq_true]
      by_cases a : bt s q
      · rw [if_pos a] at ihm
        simp only [a, mem20, mem21, mem22, al20, al21, al33, al34, al36, al37, al38, aa33, aa34, aa36, aa37, aa38, true_and, and_true, Int32.reduceOfNat, forall_const, true_implies, implies_true, false_implies, not_true_eq_false, not_false_eq_true]
        exact ihm
      · rw [if_neg a] at ihm
        simp only [a, mem20, mem21, mem22, al20, al21, al33, al34, al36, al37, al38, aa33, aa34, aa36, aa37, aa38, true_and, and_true, Int32.reduceOfNat, forall_const, true_implies, implies_true, false_implies, not_true_eq_false, not_false_eq_true]
        exact ihm
  rw [e_Pr_spanOf, b_Pr_spanOf_0]
  exact (key n 0 _ (Nat.zero_add _)).trans (by simp only [rtI, true_and])
def chc : Nat → Prop := fun a => a = 132 ∨ a = 134
theorem w_Pr_powerOf (s : Int32) (x0 : XLY h0) (y0 : PLN h0 pl) (pd : 145 < pl) (hn : hI h0 pl 3 = nI n) (hn2 : n ≤ 12) (hkd : ∀ q, q < n → hI h0 (pl + 1) q = kd q ∧ kd q = nI (ks q) ∧ ks q < 4) (wg : WGH sp kd n (144 * n) h0)
    (fin : ∀ h', Fr (onl 134) nov h0 h' → Q (some (.int (pwr sp ks s n))) h') : ∀ (m q : Nat) (h : AH) (v6 v7 : Value), q + m = n → Fr (onl 134) nov h0 h → (∀ k, k < 4 → hI h 134 k = nI (chn ks s k q)) →
    Wp (d + 1) P_Pr_powerOf 10 [.ref 132, .ref pl, .int s, .int (nI (plN s q)), .int (pwr sp ks s q), .int (nI q), v6, v7] [] h Q := by
  intro m
  induction m with
  | zero =>
    intro q h v6 v7 e fr k
    have : q = n := by omega
    subst this
    have y := y0.fr fr
    have ec : hI h pl = hI h0 pl := fr.I (by unfold onl; omega)
    rw [b_Pr_powerOf_10]
    simp only [y.2.1, ec, hn, Int32.le_refl, b_Pr_powerOf_67, mem20, mem21, mem22, al20, al21, al33, al34, al36, al37, al38, aa33, aa34, aa36, aa37, aa38, true_and, and_true, Int32.reduceOfNat, forall_const, true_implies, implies_true, false_implies, not_true_eq_false, not_false_eq_true]
    exact fin h fr
  | succ m ih =>
    intro q h v6 v7 e fr k
    have y := y0.fr fr
    have x := x0.fr fr
    have ec : hI h pl = hI h0 pl := fr.I (by unfold onl; omega)
    have e1 : hI h (pl + 1) = hI h0 (pl + 1) := fr.I (by unfold onl; omega)
    have z : ¬ nI n ≤ nI q := mt (nle (by omega) (by omega)).mp (by omega)
    obtain ⟨k1, k2, k3⟩ := hkd q (by omega)
    have l1 := plN_le s q
    have l2 := chn_le ks s (ks q) q
    have l3 := chn_cnt kd ks s (ks q) q (fun i hi => (hkd i (by omega)).2.1)
    rw [b_Pr_powerOf_10]
    simp only [y.2.1, ec, hn, z, b_Pr_powerOf_14, c_Pl_kindAt pl _ h y, pAt_n _ (show q < n by omega) hn2, e1, k1, Option.toList, List.cons_append, List.nil_append, b_Pr_powerOf_17, mem20, mem21, mem22, al20, al21, al33, al34, al36, al37, al38, aa33, aa34, aa36, aa37, aa38, true_and, and_true, Int32.reduceOfNat, forall_const, true_implies, implies_true, false_implies, not_true_eq_false, not_false_eq_true]
    by_cases a : bt s q
    · have z1 : ¬ nI (ks q) < 0 := n_nn (by omega)
      have z2 : ¬ (4 : Int32) ≤ nI (ks q) := mt (nle (a := 4) (by decide) (by omega)).mp (by omega)
      have i4 : ixo (nI (ks q)) 4 = true := nix k3 (by decide)
      have z3 := n_nn (n := 144 * q + 12 * plN s q + chn ks s (ks q) q) (by omega)
      have z4 : ¬ (1728 : Int32) ≤ nI (144 * q + 12 * plN s q + chn ks s (ks q) q) := mt (nle (a := 1728) (by decide) (by omega)).mp (by omega)
      have i1 : ixo (nI (144 * q + 12 * plN s q + chn ks s (ks q) q)) 1728 = true := nix (by omega) (by decide)
      have ev : hI h 133 (144 * q + 12 * plN s q + chn ks s (ks q) q) = sp q (chn ks s (ks q) q) (plN s q) := by
        rw [fr.I (by unfold onl; decide)]
        exact wg q _ _ (by omega) l1 (by rw [k2]; exact l3) l2 (by omega)
      simp only [a, k2, z1, z2, i4, z3, z4, i1, b_Pr_powerOf_25, b_Pr_powerOf_27, b_Pr_powerOf_32, xk_132 x, xr_132_0 x, xr_132_1 x, xk_133 x, xn_133 x, xk_134 x, xn_134 x, k _ k3, cN (show ks q < 2147483648 by omega), e_Pr_cell, b_Pr_cell_0, ncell, rtI, Option.toList, List.cons_append, List.nil_append, b_Pr_powerOf_39, b_Pr_powerOf_43, b_Pr_powerOf_48, cN (show 144 * q + 12 * plN s q + chn ks s (ks q) q < 2147483648 by omega), ev, b_Pr_powerOf_54, b_Pr_powerOf_65, nI_1, mem20, mem21, mem22, al20, al21, al33, al34, al36, al37, al38, aa33, aa34, aa36, aa37, aa38, true_and, and_true, Int32.reduceOfNat, forall_const, true_implies, implies_true, false_implies, not_true_eq_false, not_false_eq_true]
      have ihm := fun h' => ih (q + 1) h' (.int (nI (ks q))) (.int (nI (144 * q + 12 * plN s q + chn ks s (ks q) q))) (by omega)
      have h1 : plN s (q + 1) = plN s q + 1 := if_pos a
      have h2 : pwr sp ks s (q + 1) = pwr sp ks s q + sp q (chn ks s (ks q) q) (plN s q) := if_pos a
      rw [h1, h2] at ihm
      refine ihm _ (fr.sI rfl) ?_
      intro k' hk'
      have h3 : chn ks s k' (q + 1) = if bt s q ∧ ks q = k' then chn ks s k' q + 1 else chn ks s k' q := rfl
      rw [hI_same, h3]
      by_cases qk : k' = ks q
      · rw [if_pos qk, if_pos ⟨a, qk.symm⟩, qk]
      · rw [if_neg qk, if_neg (fun w => qk w.2.symm)]; exact k k' hk'
    · have h1 : plN s (q + 1) = plN s q := if_neg a
      have h2 : pwr sp ks s (q + 1) = pwr sp ks s q := if_neg a
      have ihm := ih (q + 1) h (.int (kd q)) v7 (by omega) fr (fun k' hk' => by
        have h3 : chn ks s k' (q + 1) = chn ks s k' q := if_neg (fun w => a w.1)
        rw [h3]; exact k k' hk')
      rw [h1, h2] at ihm
      simp only [a, b_Pr_powerOf_65, nI_1, mem20, mem21, mem22, al20, al21, al33, al34, al36, al37, al38, aa33, aa34, aa36, aa37, aa38, true_and, and_true, Int32.reduceOfNat, forall_const, true_implies, implies_true, false_implies, not_true_eq_false, not_false_eq_true]
      exact ihm
theorem c_Pr_powerOf (s : Int32) (x0 : XLY h0) (y0 : PLN h0 pl) (pd : 145 < pl) (hn : hI h0 pl 3 = nI n) (hn2 : n ≤ 12) (hkd : ∀ q, q < n → hI h0 (pl + 1) q = kd q ∧ kd q = nI (ks q) ∧ ks q < 4) (wg : WGH sp kd n (144 * n) h0)
    (fin : ∀ h', Fr (onl 134) nov h0 h' → Q (some (.int (pwr sp ks s n))) h') : Cl (d + 2) q_Pr_powerOf [.ref 132, .ref pl, .int s] h0 Q := by
  rw [e_Pr_powerOf, b_Pr_powerOf_0]
  simp only [xk_132 x0, xr_132_1 x0, true_and]
  refine c_Ar_fill 134 4 0 h0 (xk_134 x0) (xn_134 x0) (by decide) _ ?_
  intro h1 fr1 g1
  simp only [Option.toList, List.cons_append, List.nil_append, b_Pr_powerOf_4]
  exact w_Pr_powerOf s x0 y0 pd hn hn2 hkd wg (fun h' w => ⟨rtI _, fin h' w⟩) n 0 h1 _ _ (Nat.zero_add _) fr1 g1
def CHS (sp : Nat → Nat → Nat → Int32) (ks : Nat → Nat) (mn : Nat → Int32) (n : Nat) (M : Int32) (t : Nat) (h : AH) : Prop := hI h 132 2 = (bst sp ks mn n M t).1 ∧ hI h 132 3 = (bst sp ks mn n M t).2 ∧ hI h 132 4 = spn mn (bst sp ks mn n M t).2 n
theorem w_Pr_choose (M : Int32) (x0 : XLY h0) (y0 : PLN h0 pl) (pd : 145 < pl) (hn : hI h0 pl 3 = nI n) (hn2 : n ≤ 12) (hkd : ∀ q, q < n → hI h0 (pl + 1) q = kd q ∧ kd q = nI (ks q) ∧ ks q < 4) (hmn : ∀ q, q < n → hI h0 (pl + 3) q = mn q) (wg : WGH sp kd n (144 * n) h0)
    (fin : ∀ h', Fr chc nov h0 h' → CHS sp ks mn n M (2 ^ n - 1) h' → Q none h') : ∀ (m t : Nat) (h : AH) (v5 v6 : Value), t + m = 2 ^ n - 1 → Fr chc nov h0 h → CHS sp ks mn n M t h →
    Wp (d + 2) P_Pr_choose 16 [.ref 132, .ref pl, .int M, .int (nI (2 ^ n)), .int (nI (t + 1)), v5, v6] [] h Q := by
  obtain ⟨p1, p2⟩ := pw12 hn2
  intro m
  induction m with
  | zero =>
    intro t h v5 v6 e fr c
    have : t = 2 ^ n - 1 := by omega
    have z : nI (2 ^ n) ≤ nI (t + 1) := (nle (by omega) (by omega)).mpr (by omega)
    subst this
    rw [b_Pr_choose_16]
    simp only [z, b_Pr_choose_46, mem20, mem21, mem22, al20, al21, al33, al34, al36, al37, al38, aa33, aa34, aa36, aa37, aa38, true_and, and_true, Int32.reduceOfNat, forall_const, true_implies, implies_true, false_implies, not_true_eq_false, not_false_eq_true]
    exact fin h fr c
  | succ m ih =>
    intro t h v5 v6 e fr c
    have y := y0.fr fr
    have x := x0.fr fr
    have ec : hI h pl = hI h0 pl := fr.I (by unfold chc; omega)
    have e3 : hI h (pl + 3) = hI h0 (pl + 3) := fr.I (by unfold chc; omega)
    have z : ¬ nI (2 ^ n) ≤ nI (t + 1) := mt (nle (by omega) (by omega)).mp (by omega)
    rw [b_Pr_choose_16]
    simp only [z, b_Pr_choose_19, c_Pr_spanOf (mn := mn) (n := n) _ h y (by rw [ec]; exact hn) hn2 (by rw [e3]; exact hmn), Option.toList, List.cons_append, List.nil_append, b_Pr_choose_22, mem20, mem21, mem22, al20, al21, al33, al34, al36, al37, al38, aa33, aa34, aa36, aa37, aa38, true_and, and_true, Int32.reduceOfNat, forall_const, true_implies, implies_true, false_implies, not_true_eq_false, not_false_eq_true]
    have hs : bst sp ks mn n M (t + 1) = if M < spn mn (nI (t + 1)) n then bst sp ks mn n M t else if pwr sp ks (nI (t + 1)) n ≤ (bst sp ks mn n M t).1 then bst sp ks mn n M t else (pwr sp ks (nI (t + 1)) n, nI (t + 1)) := rfl
    by_cases a : M < spn mn (nI (t + 1)) n
    · rw [if_pos a] at hs
      simp only [a, b_Pr_choose_44, nI_1, mem20, mem21, mem22, al20, al21, al33, al34, al36, al37, al38, aa33, aa34, aa36, aa37, aa38, true_and, and_true, Int32.reduceOfNat, forall_const, true_implies, implies_true, false_implies, not_true_eq_false, not_false_eq_true]
      exact ih (t + 1) h _ _ (by omega) fr (by unfold CHS; rw [hs]; exact c)
    · rw [if_neg a] at hs
      simp only [a, b_Pr_choose_26, mem20, mem21, mem22, al20, al21, al33, al34, al36, al37, al38, aa33, aa34, aa36, aa37, aa38, true_and, and_true, Int32.reduceOfNat, forall_const, true_implies, implies_true, false_implies, not_true_eq_false, not_false_eq_true]
      refine c_Pr_powerOf (d := d) (kd := kd) (ks := ks) (sp := sp) (n := n) _ x y pd (by rw [ec]; exact hn) hn2 (by rw [fr.I (a := pl + 1) (by unfold chc; omega)]; exact hkd) ?_ ?_
      · intro q pc hb a1 a2 a3 a4 a5
        rw [fr.I (by unfold chc; decide)]
        exact wg q pc hb a1 a2 a3 a4 a5
      · intro h1 fr1
        have fr2 : Fr chc nov h0 h1 := fr.tr (fr1.mo (by unfold onl chc; omega) (fun a z => z))
        have x1 := x0.fr fr2
        have e5 : hI h1 132 = hI h 132 := fr1.I (by unfold onl; decide)
        have c1 : CHS sp ks mn n M t h1 := by unfold CHS; rw [e5]; exact c
        simp only [Option.toList, List.cons_append, List.nil_append, b_Pr_choose_30, xk_132 x1, c1.1, true_and]
        by_cases b : pwr sp ks (nI (t + 1)) n ≤ (bst sp ks mn n M t).1
        · rw [if_pos b] at hs
          simp only [b, b_Pr_choose_44, nI_1, mem20, mem21, mem22, al20, al21, al33, al34, al36, al37, al38, aa33, aa34, aa36, aa37, aa38, true_and, and_true, Int32.reduceOfNat, forall_const, true_implies, implies_true, false_implies, not_true_eq_false, not_false_eq_true]
          exact ih (t + 1) h1 _ _ (by omega) fr2 (by unfold CHS; rw [hs]; exact c1)
        · rw [if_neg b] at hs
          simp only [b, b_Pr_choose_35, xk_132 x1, hI_sI, hJ_sI, hR_sI, hK_sI, hN_sI, hz_sI, hu_sI, hJ_sJ, hI_sJ, hR_sJ, hK_sJ, hN_sJ, hz_sJ, hu_sJ, hR_sR, hI_sR, hJ_sR, hK_sR, hN_sR, hz_sR, hu_sR, b_Pr_choose_44, nI_1, mem20, mem21, mem22, al20, al21, al33, al34, al36, al37, al38, aa33, aa34, aa36, aa37, aa38, true_and, and_true, Int32.reduceOfNat, forall_const, true_implies, implies_true, false_implies, not_true_eq_false, not_false_eq_true]
          refine ih (t + 1) _ _ _ (by omega) (((fr2.sI (Or.inl rfl)).sI (Or.inl rfl)).sI (Or.inl rfl)) ?_
          unfold CHS
          rw [hs]
          refine ⟨?_, ?_, ?_⟩ <;> simp [hI_sI]
theorem c_Pr_choose (M : Int32) (x0 : XLY h0) (y0 : PLN h0 pl) (pd : 145 < pl) (hn : hI h0 pl 3 = nI n) (hn2 : n ≤ 12) (hkd : ∀ q, q < n → hI h0 (pl + 1) q = kd q ∧ kd q = nI (ks q) ∧ ks q < 4) (hmn : ∀ q, q < n → hI h0 (pl + 3) q = mn q) (wg : WGH sp kd n (144 * n) h0)
    (fin : ∀ h', Fr chc nov h0 h' → CHS sp ks mn n M (2 ^ n - 1) h' → Q none h') : Cl (d + 3) q_Pr_choose [.ref 132, .ref pl, .int M] h0 Q := by
  obtain ⟨p1, p2⟩ := pw12 hn2
  have ep : hI (sI (sI (sI h0 132 2 0) 132 3 0) 132 4 0) pl 3 = nI n := by rw [rI_sI (by omega), rI_sI (by omega), rI_sI (by omega)]; exact hn
  rw [e_Pr_choose, b_Pr_choose_0]
  simp only [xk_132 x0, y0.2.1, hI_sI, hJ_sI, hR_sI, hK_sI, hN_sI, hz_sI, hu_sI, hJ_sJ, hI_sJ, hR_sJ, hK_sJ, hN_sJ, hz_sJ, hu_sJ, hR_sR, hI_sR, hJ_sR, hK_sR, hN_sR, hz_sR, hu_sR, true_and]
  have ep' : (1 : Int32) <<< (hI (sI (sI (sI h0 132 2 0) 132 3 0) 132 4 0) pl 3 &&& 31) = nI (2 ^ n) := by rw [ep]; exact sh_n hn2
  refine ?_
  have fin' := w_Pr_choose (d := d) (Q := fun r h' => rtk none r = true ∧ Q r h') M x0 y0 pd hn hn2 hkd hmn wg (fun h' f1 f2 => ⟨rtV, fin h' f1 f2⟩) (2 ^ n - 1) 0 (sI (sI (sI h0 132 2 0) 132 3 0) 132 4 0) .null .null (Nat.zero_add _) (((Fr.rfl'.sI (Or.inl rfl)).sI (Or.inl rfl)).sI (Or.inl rfl)) (by
    unfold CHS
    refine ⟨?_, ?_, ?_⟩ <;> simp [hI_sI, bst, spn_0 mn n hn2])
  rw [← ep'] at fin'
  simp only [hI_sI] at fin' ⊢
  exact fin'
end CH
