--deps: 86.oplean
theorem htF_s (ks : Nat → Nat) (it : Nat → Int32) (ti : Int32) (jv : Nat → Int32) (l q : Nat) : htF ks it ti jv l (q + 1) = if ks q = 3 then (if it q = ti then (mx (htF ks it ti jv l q).1 (jv (3 * q + l)), (htF ks it ti jv l q).2) else ((htF ks it ti jv l q).1, mx (htF ks it ti jv l q).2 (jv (3 * q + l)))) else htF ks it ti jv l q := rfl
theorem htF_ext {ks : Nat → Nat} {it it' jv jv' : Nat → Int32} {ti : Int32} {l n : Nat} (hl : l < 3) (e : ∀ q, q < n → it q = it' q) (e2 : ∀ i, i < 3 * n → jv i = jv' i) : ∀ q, q ≤ n → htF ks it ti jv l q = htF ks it' ti jv' l q
  | 0, _ => rfl
  | q + 1, h => by rw [htF_s, htF_s, htF_ext hl e e2 q (by omega), e q (by omega), e2 (3 * q + l) (by omega)]
theorem htF_ge (ks : Nat → Nat) (it : Nat → Int32) (ti : Int32) (jv : Nat → Int32) (l : Nat) : ∀ q, -1 ≤ (htF ks it ti jv l q).2
  | 0 => Int32.le_refl (-1)
  | q + 1 => by
    have := htF_ge ks it ti jv l q
    rw [htF_s]
    split
    · split
      · exact this
      · show -1 ≤ mx _ _
        unfold mx
        grind
    · exact this
def hitV (p : Int32 × Int32) : Int32 := if p.2 < 0 then 0 else if p.1 ≤ p.2 then 0 else 1
theorem w_Si_standsOut {d : Nat} (r n l : Nat) (ks : Nat → Nat) (h : AH) (y : SIT h r) (hl : l < 3) (hn : hI h (r + 1) 3 = nI n) (hn2 : n ≤ 12) (ki : KI n ks (hI h (r + 2)) (hI h (r + 3))) (ti0 : 0 ≤ hI h r 2) (Q : Option Value → AH → Prop) : ∀ (m q : Nat) (v5 : Value), q + m = n → (Wp (d + 1) P_Si_standsOut 6 [.ref r, .int (nI l), .int (htF ks (hI h (r + 3)) (hI h r 2) (hI h (r + 5)) l q).1, .int (htF ks (hI h (r + 3)) (hI h r 2) (hI h (r + 5)) l q).2, .int (nI q), v5] [] h Q ↔ Q (some (.int (hitV (htF ks (hI h (r + 3)) (hI h r 2) (hI h (r + 5)) l n)))) h) := by
  have y4 : PLN h (r + 1) := y.2.2.2.2.1
  intro m
  induction m with
  | zero =>
    intro q v5 e
    have : q = n := by omega
    subst this
    have ge := htF_ge ks (hI h (r + 3)) (hI h r 2) (hI h (r + 5)) l q
    rw [b_Si_standsOut_6]
    simp only [y.2.1, y.2.2.1, y4.2.1, hn, Int32.le_refl, b_Si_standsOut_40, b_Si_standsOut_43, b_Si_standsOut_46, b_Si_standsOut_48, b_Si_standsOut_49, mem20, mem21, mem22, al20, al21, al33, al34, al36, al37, al38, aa33, aa34, aa36, aa37, aa38, true_and, and_true, Int32.reduceOfNat, forall_const, true_implies, implies_true, false_implies, not_true_eq_false, not_false_eq_true]
    generalize htF ks (hI h (r + 3)) (hI h r 2) (hI h (r + 5)) l q = p at *
    unfold hitV
    grind
  | succ m ih =>
    intro q v5 e
    have z : ¬ nI n ≤ nI q := mt (nle (by omega) (by omega)).mp (by omega)
    obtain ⟨k1, k2, k3⟩ := ki q (by omega)
    have e1 : r + 1 + 2 = r + 3 := by omega
    have ihh := fun v => ih (q + 1) v (by omega)
    rw [b_Si_standsOut_6]
    simp only [y.2.1, y.2.2.1, y4.2.1, hn, z, b_Si_standsOut_11, c_Pl_itemAt (r + 1) _ h y4, e1, pAt_n _ (show q < n by omega) hn2, Option.toList, List.cons_append, List.nil_append, b_Si_standsOut_15, b_Si_standsOut_20, b_Si_standsOut_25, b_Si_standsOut_26, b_Si_standsOut_28, b_Si_standsOut_31, b_Si_standsOut_36, b_Si_standsOut_37, b_Si_standsOut_38, c_Si_jumpAt r q l h y (show q < 12 by omega) hl, Cl_max, nI_1, mem20, mem21, mem22, al20, al21, al33, al34, al36, al37, al38, aa33, aa34, aa36, aa37, aa38, true_and, and_true, Int32.reduceOfNat, forall_const, true_implies, implies_true, false_implies, not_true_eq_false, not_false_eq_true]
    simp only [htF_s] at ihh
    by_cases qt : hI h (r + 3) q = hI h r 2
    · have k5 : ks q = 3 := k3.mpr (fun w => by rw [qt] at w; rw [w] at ti0; exact absurd ti0 (by decide))
      simp only [k5, qt, if_true, mem20, mem21, mem22, al20, al21, al33, al34, al36, al37, al38, aa33, aa34, aa36, aa37, aa38, true_and, and_true, Int32.reduceOfNat, forall_const, true_implies, implies_true, false_implies, not_true_eq_false, not_false_eq_true] at ihh ⊢
      exact ihh _
    · by_cases qi : hI h (r + 3) q = -1
      · have k5 : ¬ ks q = 3 := fun w => (k3.mp w) qi
        simp only [k5, if_false] at ihh
        have qt' : ¬ (-1 : Int32) = hI h r 2 := fun w => qt (qi.trans w)
        simp only [qi, qt', mem20, mem21, mem22, al20, al21, al33, al34, al36, al37, al38, aa33, aa34, aa36, aa37, aa38, true_and, and_true, Int32.reduceOfNat, forall_const, true_implies, implies_true, false_implies, not_true_eq_false, not_false_eq_true]
        exact ihh _
      · have k5 : ks q = 3 := k3.mpr qi
        simp only [k5, qt, if_true, if_false] at ihh
        simp only [qi, qt, mem20, mem21, mem22, al20, al21, al33, al34, al36, al37, al38, aa33, aa34, aa36, aa37, aa38, true_and, and_true, Int32.reduceOfNat, forall_const, true_implies, implies_true, false_implies, not_true_eq_false, not_false_eq_true]
        exact ihh _
theorem c_Si_standsOut {d : Nat} (r n l : Nat) (ks : Nat → Nat) (h : AH) (y : SIT h r) (hl : l < 3) (hn : hI h (r + 1) 3 = nI n) (hn2 : n ≤ 12) (ki : KI n ks (hI h (r + 2)) (hI h (r + 3))) (ti0 : 0 ≤ hI h r 2) (Q : Option Value → AH → Prop) : Cl (d + 2) q_Si_standsOut [.ref r, .int (nI l)] h Q ↔ Q (some (.int (hitV (htF ks (hI h (r + 3)) (hI h r 2) (hI h (r + 5)) l n)))) h := by
  have w := w_Si_standsOut (d := d) r n l ks h y hl hn hn2 ki ti0 (fun r h' => rtk (some .boolean) r = true ∧ Q r h') n 0 .null (by omega)
  rw [e_Si_standsOut, b_Si_standsOut_0]
  have hz : rtk (some .boolean) (some (.int (hitV (htF ks (hI h (r + 3)) (hI h r 2) (hI h (r + 5)) l n)))) = true := by
    unfold hitV
    split
    · exact rtZ0
    · split
      · exact rtZ0
      · exact rtZ1
  simp only [y.2.1, true_and]
  exact w.trans (by simp only [hz, true_and])
theorem w_M_hits {d : Nat} (k n l : Nat) (ks : Nat → Nat) (h : AH) (m0 : MLY h) (hk : k < 25) (hl : l < 3) (hn : hI h 365 k = nI n) (hn2 : n ≤ 12) (it jv : Nat → Int32) (hit : it = fun q => hI h 368 (12 * k + q)) (hjv : jv = fun i => hI h 369 (36 * k + i)) (ki : KI n ks (fun q => hI h 367 (12 * k + q)) it) (ti : Int32) (hti : ti = hI h 366 k) (Q : Option Value → AH → Prop) : ∀ (m q : Nat) (v6 v7 v8 : Value), q + m = n → (Wp d P_M_hits 20 [.ref 342, .int (nI k), .int (nI l), .int (htF ks it ti jv l q).1, .int (htF ks it ti jv l q).2, .int (nI q), v6, v7, v8] [] h Q ↔ Q (some (.int (hitV (htF ks it ti jv l n)))) h) := by
  have i25 : ixo (nI k) 25 = true := nix hk (by decide)
  have c25 := cN (n := k) (by omega)
  intro m
  induction m with
  | zero =>
    intro q v6 v7 v8 e
    have : q = n := by omega
    subst this
    rw [b_M_hits_20]
    simp only [mo m0, mr_31 m0, mk_365 m0, mn_365 m0, i25, c25, hn, Int32.le_refl, b_M_hits_94, b_M_hits_96, b_M_hits_99, b_M_hits_101, b_M_hits_102, mem20, mem21, mem22, al20, al21, al33, al34, al36, al37, al38, aa33, aa34, aa36, aa37, aa38, true_and, and_true, Int32.reduceOfNat, forall_const, true_implies, implies_true, false_implies, not_true_eq_false, not_false_eq_true]
    generalize htF ks it ti jv l q = p
    unfold hitV
    grind
  | succ m ih =>
    intro q v6 v7 v8 e
    have z : ¬ nI n ≤ nI q := mt (nle (by omega) (by omega)).mp (by omega)
    obtain ⟨k1, k2, k3⟩ := ki q (by omega)
    have k1' : hI h 367 (12 * k + q) = nI (ks q) := k1
    have i1 : ixo (nI (36 * k + (3 * q + l))) 900 = true := nix (by omega) (by decide)
    have i2 : ixo (nI (12 * k + q)) 300 = true := nix (by omega) (by decide)
    have ej : hI h 369 (36 * k + (3 * q + l)) = jv (3 * q + l) := by rw [hjv]
    have eit : hI h 368 (12 * k + q) = it q := by rw [hit]
    have kq : (nI (ks q) = 3) ↔ ks q = 3 := neq (b := 3) (by omega) (by decide)
    have ihh := fun v6 v7 v8 => ih (q + 1) v6 v7 v8 (by omega)
    simp only [htF_s] at ihh
    rw [b_M_hits_20]
    simp only [mo m0, mr_31 m0, mk_365 m0, mn_365 m0, i25, c25, hn, z, b_M_hits_26, n36, n12, i1, i2, cN (show 36 * k + (3 * q + l) < 2147483648 by omega), cN (show 12 * k + q < 2147483648 by omega), mr_35 m0, mr_33 m0, mk_369 m0, mn_369 m0, mk_367 m0, mn_367 m0, k1', ej, kq, b_M_hits_49, b_M_hits_51, jW, mem20, mem21, mem22, al20, al21, al33, al34, al36, al37, al38, aa33, aa34, aa36, aa37, aa38, true_and, and_true, Int32.reduceOfNat, forall_const, true_implies, implies_true, false_implies, not_true_eq_false, not_false_eq_true]
    rw [b_M_hits_52]
    simp only [b_M_hits_55, mo m0, mr_34 m0, mk_368 m0, mn_368 m0, mr_32 m0, mk_366 m0, mn_366 m0, i25, c25, n12, i2, cN (show 12 * k + q < 2147483648 by omega), eit, ← hti, b_M_hits_68, b_M_hits_70, jW, mem20, mem21, mem22, al20, al21, al33, al34, al36, al37, al38, aa33, aa34, aa36, aa37, aa38, true_and, and_true, Int32.reduceOfNat, forall_const, true_implies, implies_true, false_implies, not_true_eq_false, not_false_eq_true]
    rw [b_M_hits_71]
    simp only [b_M_hits_74, b_M_hits_77, b_M_hits_79, jW]
    rw [b_M_hits_80]
    simp only [b_M_hits_83, b_M_hits_85, b_M_hits_88, b_M_hits_90, jW]
    rw [b_M_hits_91, nI_1]
    by_cases q3 : ks q = 3
    · by_cases qt : it q = ti
      · simp only [q3, qt, if_true, not_true_eq_false, if_false, show ¬ (1 : Int32) = 0 by decide, not_false_eq_true] at ihh ⊢
        have mxe : (if jv (3 * q + l) ≤ (htF ks it ti jv l q).1 then (htF ks it ti jv l q).1 else jv (3 * q + l)) = mx (htF ks it ti jv l q).1 (jv (3 * q + l)) := by unfold mx; grind
        rw [mxe]
        exact ihh _ _ _
      · simp only [q3, qt, if_true, not_true_eq_false, if_false, show ¬ (1 : Int32) = 0 by decide, not_false_eq_true] at ihh ⊢
        have mxe : (if jv (3 * q + l) ≤ (htF ks it ti jv l q).2 then (htF ks it ti jv l q).2 else jv (3 * q + l)) = mx (htF ks it ti jv l q).2 (jv (3 * q + l)) := by unfold mx; grind
        rw [mxe]
        exact ihh _ _ _
    · simp only [q3, if_true, if_false, not_true_eq_false, not_false_eq_true] at ihh ⊢
      exact ihh _ _ _
section OPS
variable {L : Nat} {xs : Nat → Int32} {c : Nat} {h : AH}
theorem op_hits (i : Inv L xs c h) (s l : Int32) : OpI L xs c q_X_hits [.ref 100, .int s, .int l] q_M_hits [.ref 342, .int s, .int l] h := by
  have ii := i
  obtain ⟨i1, i2, i3, i4, i5, i6, i7, i8, i9, i10, i11, i12, i13, i14, i15⟩ := i
  obtain ⟨n, hn, en, en2⟩ := i11
  have m1 : MLY (sI h 342 0 0) := i3.fr (S := onl 342) (T := nov) (Fs1 Fr.rfl')
  have e342 : ∀ t, t ≠ 0 → hI (sI h 342 0 0) 342 t = hI h 342 t := fun t ht => by rw [hI_same, if_neg ht]
  have eo : ∀ a, a ≠ 342 → hI (sI h 342 0 0) a = hI h a := fun a ha => rI_sI ha
  by_cases q : (0 ≤ s ∧ s < nI n) ∧ (0 ≤ l ∧ l ≤ 2)
  · obtain ⟨q1, q2⟩ := q
    obtain ⟨k, hk, rfl⟩ := n_ex n q1.1 q1.2 (by omega)
    obtain ⟨n3, n4⟩ := n_of (M := 2) (n := 2) (by decide) q2
    obtain ⟨j, hj, rfl⟩ : ∃ j, j ≤ 2 ∧ l = nI j := ⟨_, n3, n4⟩
    have ck := cN (n := k) (by omega)
    have z0 : (0 : Int32) ≤ nI k ∧ nI k ≤ 23 := ⟨q1.1, (nle (b := 23) (by omega) (by decide)).mpr (by omega)⟩
    obtain ⟨np, ks, is⟩ := i12 k (by omega)
    have z1 : ¬ 190 + 6 * k = 0 := by omega
    have z2 : 100 ≤ 190 + 6 * k := by omega
    have i0 := is
    obtain ⟨a1, a2, a3, a4, a7, a5, a6⟩ := i0
    have so := fun Q => c_Si_standsOut (d := 97) (190 + 6 * k) np j ks h (sit_si i2 (by omega)) (by omega) (by rw [show 190 + 6 * k + 1 = 191 + 6 * k by omega]; exact a2) a1 (KI_X is) (by rw [a4]; exact a7) Q
    have se : htF ks (hI h (190 + 6 * k + 3)) (hI h (190 + 6 * k) 2) (hI h (190 + 6 * k + 5)) j np = htF ks (fun q => hI h 368 (12 * k + q)) (hI h 366 k) (fun t => hI h 369 (36 * k + t)) j np := by
      rw [a4]
      refine htF_ext (n := np) (by omega) ?_ ?_ _ (Nat.le_refl _)
      · intro q hq
        rw [show 190 + 6 * k + 3 = 193 + 6 * k by omega]
        exact (a5 q hq).2.2.2.1
      · intro t ht
        rw [show 190 + 6 * k + 5 = 195 + 6 * k by omega]
        exact a6 t ht
    rw [se] at so
    have h01 : ∀ p, (if hitV p = 0 then (0 : Int32) else 1) = hitV p := by
      intro p
      unfold hitV
      grind
    unfold OpI
    rw [e_X_hits, b_X_hits_0]
    simp only [c_X_keptSitting _ h i2, ck, en, z0, q1, q2, and_self, if_true, Option.toList, List.cons_append, List.nil_append, b_X_hits_3, z1, z2, or_true, b_X_hits_6, c_within, bw0, b_X_hits_10, b_X_hits_13, so, b_X_hits_16, b_X_hits_17, b_X_hits_19, jW, xk_100 i2, mem20, mem21, mem22, al20, al21, al33, al34, al36, al37, al38, aa33, aa34, aa36, aa37, aa38, true_and, and_true, Int32.reduceOfNat, forall_const, true_implies, implies_true, false_implies, not_true_eq_false, not_false_eq_true]
    rw [b_X_hits_20, h01]
    refine ⟨rtI _, _, rfl, ?_⟩
    rw [e_M_hits, b_M_hits_0]
    simp only [mo i3, c_M_isSitting _ _ m1, c_M_within, Option.toList, List.cons_append, List.nil_append, b_M_hits_6, b_M_hits_7, b_M_hits_11, e342 30 (by decide), en2, q1, q2, bw0, and_self, if_true, b_M_hits_14, show ¬ (1 : Int32) = 0 by decide, mem20, mem21, mem22, al20, al21, al33, al34, al36, al37, al38, aa33, aa34, aa36, aa37, aa38, true_and, and_true, Int32.reduceOfNat, forall_const, true_implies, implies_true, false_implies, not_true_eq_false, not_false_eq_true]
    have w := w_M_hits (d := 99) k np j ks (sI h 342 0 0) m1 (by omega) (by omega) (by rw [eo 365 (by decide)]; exact a3) a1 _ _ rfl rfl (by rw [eo 367 (by decide), eo 368 (by decide)]; exact KI_M is) _ rfl (fun r h' => rtk (some .int) r = true ∧ r = some (.int (hitV (htF ks (fun q => hI h 368 (12 * k + q)) (hI h 366 k) (fun t => hI h 369 (36 * k + t)) j np))) ∧ Inv L xs (c + 1) h') np 0 .null .null .null (by omega)
    refine w.mpr ?_
    rw [eo 368 (by decide), eo 366 (by decide), eo 369 (by decide)]
    exact ⟨rtI _, rfl, ii.th⟩
  · unfold OpI
    rw [e_X_hits, b_X_hits_0]
    simp only [c_X_keptSitting _ h i2, en, Option.toList, List.cons_append, List.nil_append, b_X_hits_3, b_X_hits_6, c_within, bw0, b_X_hits_10, b_X_hits_11, xk_100 i2, rtI, mem20, mem21, mem22, al20, al21, al33, al34, al36, al37, al38, aa33, aa34, aa36, aa37, aa38, true_and, and_true, Int32.reduceOfNat, forall_const, true_implies, implies_true, false_implies, not_true_eq_false, not_false_eq_true]
    have no : ∃ v : Int32, some (Value.int (-1)) = some (Value.int v) ∧ Cl 100 q_M_hits [.ref 342, .int s, .int l] h (fun r' h2 => r' = some (.int v) ∧ Inv L xs (c + 1) h2) := by
      refine ⟨-1, rfl, ?_⟩
      rw [e_M_hits, b_M_hits_0]
      simp only [mo i3, c_M_isSitting _ _ m1, c_M_within, Option.toList, List.cons_append, List.nil_append, b_M_hits_6, b_M_hits_7, b_M_hits_11, b_M_hits_12, e342 30 (by decide), en2, bw0, rtI, mem20, mem21, mem22, al20, al21, al33, al34, al36, al37, al38, aa33, aa34, aa36, aa37, aa38, true_and, and_true, Int32.reduceOfNat, forall_const, true_implies, implies_true, false_implies, not_true_eq_false, not_false_eq_true]
      have fin := ii.th (v := 0)
      by_cases q1 : 0 ≤ s ∧ s < nI n
      · have q2 : ¬ (0 ≤ l ∧ l ≤ 2) := fun z => q ⟨q1, z⟩
        simp [q1, q2, fin]
      · simp [q1, fin]
    by_cases q1 : 0 ≤ s ∧ s < nI n
    · have z0 : (0 : Int32) ≤ s ∧ s ≤ 23 := by
        obtain ⟨k, hk, rfl⟩ := n_ex n q1.1 q1.2 (by omega)
        exact ⟨q1.1, (nle (b := 23) (by omega) (by decide)).mpr (by omega)⟩
      have q2 : ¬ (0 ≤ l ∧ l ≤ 2) := fun z => q ⟨q1, z⟩
      simp only [z0, q1, q2, and_self, if_true, if_false, not_true_eq_false, not_false_eq_true, false_implies, true_implies, and_true, true_and]
      exact ⟨by omega, fun z => absurd z (by omega), fun _ => no⟩
    · have q4 : ¬ ((0 ≤ s ∧ s ≤ 23) ∧ s < nI n) := fun z => q1 ⟨z.1.1, z.2⟩
      simp only [q4, if_false, true_or, true_implies, not_true_eq_false, false_implies, and_true, true_and]
      exact no
end OPS
