--deps: a0.best 96.opapart
/-! THE REFERENCE'S BEST SET, AND THE OP -/
def mpc : Nat → Prop := fun a => a = 363 ∨ a = 364 ∨ a = 371
section MB
variable {d j n : Nat} {f : Int32} {bd : Nat → Option (List Nat)} {mn : Nat → Int32} {ks : Nat → Nat} {sp : Nat → Nat → Nat → Int32} {h0 : AH} {Q : Option Value → AH → Prop}
theorem c_M_minutesOf (s : Int32) (h : AH) (m : MLY h) (hj : j < 4) (hn : hI h 353 j = nI n) (hn2 : n ≤ 12) (hmn : ∀ q, q < n → hI h 356 (12 * j + q) = mn q) : Cl (d + 1) q_M_minutesOf [.ref 342, .int (nI j), .int s] h Q ↔ Q (some (.int (spn mn s n))) h := by
  have i5 : ixo (nI j) 5 = true := nix (by omega) (by decide)
  have c5 := cN (n := j) (by omega)
  have key : ∀ (m q : Nat) (Q : Option Value → AH → Prop), q + m = n → (Wp d P_M_minutesOf 4 [.ref 342, .int (nI j), .int s, .int (spn mn s q), .int (nI q)] [] h Q ↔ Q (some (.int (spn mn s n))) h) := by
    intro r
    induction r with
    | zero =>
      intro q Q e
      have : q = n := by omega
      subst this
      rw [b_M_minutesOf_4]
      simp only [mo m, mr_16 m, mk_353 m, mn_353 m, i5, c5, hn, Int32.le_refl, b_M_minutesOf_32, mem20, mem21, mem22, al20, al21, al33, al34, al36, al37, al38, aa33, aa34, aa36, aa37, aa38, true_and, and_true, Int32.reduceOfNat, forall_const, true_implies, implies_true, false_implies, not_true_eq_false, not_false_eq_true]
    | succ r ih =>
      intro q Q e
      have z : ¬ nI n ≤ nI q := mt (nle (by omega) (by omega)).mp (by omega)
      have i1 : ixo (nI (12 * j + q)) 60 = true := nix (by omega) (by decide)
      have ihm := ih (q + 1) Q (by omega)
      have hs : spn mn s (q + 1) = if bt s q then spn mn s q + mn q else spn mn s q := rfl
      rw [hs] at ihm
      rw [b_M_minutesOf_4]
      simp only [mo m, mr_16 m, mr_19 m, mk_353 m, mn_353 m, mk_356 m, mn_356 m, i5, c5, hn, z, b_M_minutesOf_10, b_M_minutesOf_18, b_M_minutesOf_27, b_M_minutesOf_28, n12, i1, cN (show 12 * j + q < 2147483648 by omega), hmn q (by omega), nI_1, mem20, mem21, mem22, al20, al21, al33, al34, al36, al37, al38, aa33, aa34, aa36, aa37, aa38, true_and, and_true, Int32.reduceOfNat, forall_const, true_implies, implies_true, false_implies, not_true_eq_false, not_false_eq_true]
      by_cases a : bt s q
      · rw [if_pos a] at ihm
        simp only [a, mem20, mem21, mem22, al20, al21, al33, al34, al36, al37, al38, aa33, aa34, aa36, aa37, aa38, true_and, and_true, Int32.reduceOfNat, forall_const, true_implies, implies_true, false_implies, not_true_eq_false, not_false_eq_true]
        exact ihm
      · rw [if_neg a] at ihm
        simp only [a, Int32.add_zero, mem20, mem21, mem22, al20, al21, al33, al34, al36, al37, al38, aa33, aa34, aa36, aa37, aa38, true_and, and_true, Int32.reduceOfNat, forall_const, true_implies, implies_true, false_implies, not_true_eq_false, not_false_eq_true]
        exact ihm
  rw [e_M_minutesOf, b_M_minutesOf_0]
  simp only [mo m, true_and]
  exact (key n 0 _ (Nat.zero_add _)).trans (by simp only [rtI, true_and])
theorem w_M_power3 (q k pc : Nat) (P : Int32) (s : Int32) (hb : Nat) (C : Nat → Int32) (m0 : MLY h0) (b0 : MBA h0 bd) (hj : j < 4) (hq : q < 12) (hk : hI h0 354 (12 * j + q) = nI k) (hk4 : k < 4) (it3 : ¬ hI h0 354 (12 * j + q) = 3 → hI h0 355 (12 * j + q) = -1) (ti : 0 ≤ hI h0 342 15) (hhb : hI h0 371 k = nI hb) (hC : C = ab bd (hI h0 354 (12 * j + q)) (hI h0 355 (12 * j + q)) (hI h0 342 15) f (nI hb) (nI pc))
    (fin : ∀ h' v9 v10, Fr mcs nov h0 h' → Wp (d + 3) P_M_powerOf 95 [.ref 342, .int (nI j), .int f, .int s, .int (P + spS C 3), .int (nI pc), .int (nI q), .int (nI (12 * j + q)), .int (nI 3), v9, v10] [] h' Q) : ∀ (m l : Nat) (h : AH) (v9 v10 : Value), l + m = 3 → Fr mcs nov h0 h →
    Wp (d + 3) P_M_powerOf 39 [.ref 342, .int (nI j), .int f, .int s, .int (P + spS C l), .int (nI pc), .int (nI q), .int (nI (12 * j + q)), .int (nI l), v9, v10] [] h Q := by
  have i4 : ixo (nI k) 4 = true := nix hk4 (by decide)
  have c4 := cN (n := k) (by omega)
  have i1 : ixo (nI (12 * j + q)) 60 = true := nix (by omega) (by decide)
  have c1 := cN (n := 12 * j + q) (by omega)
  intro r
  induction r with
  | zero =>
    intro l h v9 v10 e fr
    have : l = 3 := by omega
    subst this
    rw [b_M_powerOf_39]
    simp only [show (3 : Int32) ≤ nI 3 by decide, mem20, mem21, mem22, al20, al21, al33, al34, al36, al37, al38, aa33, aa34, aa36, aa37, aa38, true_and, and_true, Int32.reduceOfNat, forall_const, true_implies, implies_true, false_implies, not_true_eq_false, not_false_eq_true]
    exact fin h _ _ fr
  | succ r ih =>
    intro l h v9 v10 e fr
    have z : ¬ (3 : Int32) ≤ nI l := mt (nle (a := 3) (by decide) (by omega)).mp (by omega)
    have em : ∀ {h' : AH}, Fr mcs nov h0 h' → ∀ a, a < 363 ∨ a = 371 → hI h' a = hI h0 a := fun p a ha => p.I (by unfold mcs; omega)
    have one : ∀ (dn : Int32) (h : AH) (Q1 : Option Value → AH → Prop), Fr mcs nov h0 h → (∀ h', Fr mcs nov h0 h' → Q1 (some (.int (lb bd (hI h0 354 (12 * j + q)) (hI h0 355 (12 * j + q)) (hI h0 342 15) f dn (nI hb) (nI pc) l))) h') → Cl (d + 3) q_M_asksOf [.ref 342, .int (nI (12 * j + q)), .int (nI hb), .int (nI pc), .int f, .int dn, .int 0, .int 0] h (fun r h2 => r = none ∧ Cl (d + 3) q_M_jumpOf [.ref 342, .int (nI l), .int 0] h2 Q1) := by
      intro dn h Q1 fr f1
      have m' := m0.fr fr
      refine c_M_asksOf (d := d + 2) (12 * j + q) _ _ _ _ _ _ h m' (by omega) (by rw [em fr 354 (by decide), em fr 355 (by decide)]; exact it3) (by rw [em fr 342 (by decide)]; exact ti) _ ?_
      intro h2 fr2 g2
      rw [em fr 354 (by decide), em fr 355 (by decide), em fr 342 (by decide)] at g2
      have frA : Fr mcs nov h0 h2 := fr.tr (fr2.mo (fun a z => Or.inl z) (fun a z => z))
      have b2 := b0.fr frA (by unfold mcs; omega)
      refine ⟨rfl, ?_⟩
      refine c_M_jumpOf l 0 _ (bd l) h2 (m0.fr frA) (by omega) g2 (b2 _ (by omega)).1 (b2 _ (by omega)).2 _ ?_
      intro h3 fr3 g3
      exact f1 h3 (frA.tr fr3)
    have m' := m0.fr fr
    rw [b_M_powerOf_39]
    simp only [z, b_M_powerOf_42, mo m', mr_17 m', mr_37 m', mk_354 m', mn_354 m', mk_371 m', mn_371 m', i1, c1, em fr 354 (by decide), em fr 371 (by decide), hk, i4, c4, hhb, mem20, mem21, mem22, al20, al21, al33, al34, al36, al37, al38, aa33, aa34, aa36, aa37, aa38, true_and, and_true, Int32.reduceOfNat, forall_const, true_implies, implies_true, false_implies, not_true_eq_false, not_false_eq_true]
    refine (one 1 h (fun r h' => Wp (d + 3) P_M_powerOf 61 [.ref 342, .int (nI j), .int f, .int s, .int (P + spS C l), .int (nI pc), .int (nI q), .int (nI (12 * j + q)), .int (nI l), v9, v10] (r.toList ++ []) h' Q) fr ?_).mono ?_
    · intro h1 fr1
      have m1 := m0.fr fr1
      simp only [Option.toList, List.cons_append, List.nil_append, b_M_powerOf_61, mo m1, mr_17 m1, mr_37 m1, mk_354 m1, mn_354 m1, mk_371 m1, mn_371 m1, i1, c1, em fr1 354 (by decide), em fr1 371 (by decide), hk, i4, c4, hhb, mem20, mem21, mem22, al20, al21, al33, al34, al36, al37, al38, aa33, aa34, aa36, aa37, aa38, true_and, and_true, Int32.reduceOfNat, forall_const, true_implies, implies_true, false_implies, not_true_eq_false, not_false_eq_true]
      refine (one 0 h1 (fun r h' => Wp (d + 3) P_M_powerOf 82 [.ref 342, .int (nI j), .int f, .int s, .int (P + spS C l), .int (nI pc), .int (nI q), .int (nI (12 * j + q)), .int (nI l), .int (lb bd (nI k) (hI h0 355 (12 * j + q)) (hI h0 342 15) f 1 (nI hb) (nI pc) l), v10] (r.toList ++ [.int (lb bd (nI k) (hI h0 355 (12 * j + q)) (hI h0 342 15) f 1 (nI hb) (nI pc) l)]) h' Q) fr1 ?_).mono ?_
      · intro h2 fr2
        have ihm := fun a b => ih (l + 1) h2 a b (by omega) fr2
        have hs : spS C (l + 1) = spS C l + C l := rfl
        have hc : C l = if 0 ≤ lb bd (nI k) (hI h0 355 (12 * j + q)) (hI h0 342 15) f 1 (nI hb) (nI pc) l - lb bd (nI k) (hI h0 355 (12 * j + q)) (hI h0 342 15) f 0 (nI hb) (nI pc) l then lb bd (nI k) (hI h0 355 (12 * j + q)) (hI h0 342 15) f 1 (nI hb) (nI pc) l - lb bd (nI k) (hI h0 355 (12 * j + q)) (hI h0 342 15) f 0 (nI hb) (nI pc) l else 0 - (lb bd (nI k) (hI h0 355 (12 * j + q)) (hI h0 342 15) f 1 (nI hb) (nI pc) l - lb bd (nI k) (hI h0 355 (12 * j + q)) (hI h0 342 15) f 0 (nI hb) (nI pc) l) := by
          rw [hC, hk]; rfl
        rw [hs, hc, ← Int32.add_assoc] at ihm
        rw [hk]
        simp only [Option.toList, List.cons_append, List.nil_append, b_M_powerOf_82, b_M_powerOf_87, b_M_powerOf_90, b_M_powerOf_91, nI_1]
        generalize lb bd (nI k) (hI h0 355 (12 * j + q)) (hI h0 342 15) f 1 (nI hb) (nI pc) l - lb bd (nI k) (hI h0 355 (12 * j + q)) (hI h0 342 15) f 0 (nI hb) (nI pc) l = X at ihm ⊢
        by_cases qq : 0 ≤ X
        · rw [if_pos qq] at ihm
          simp only [qq, mem20, mem21, mem22, al20, al21, al33, al34, al36, al37, al38, aa33, aa34, aa36, aa37, aa38, true_and, and_true, Int32.reduceOfNat, forall_const, true_implies, implies_true, false_implies, not_true_eq_false, not_false_eq_true]
          exact ihm _ _
        · rw [if_neg qq, Int32.zero_sub] at ihm
          simp only [qq, mem20, mem21, mem22, al20, al21, al33, al34, al36, al37, al38, aa33, aa34, aa36, aa37, aa38, true_and, and_true, Int32.reduceOfNat, forall_const, true_implies, implies_true, false_implies, not_true_eq_false, not_false_eq_true]
          exact ihm _ _
      · rintro r h3 ⟨rfl, w3⟩
        simp only [Option.toList, List.cons_append, List.nil_append, b_M_powerOf_77, hk] at w3 ⊢
        exact w3
    · rintro r h3 ⟨rfl, w3⟩
      simp only [Option.toList, List.cons_append, List.nil_append, b_M_powerOf_57]
      exact w3
theorem w_M_power2 (s : Int32) (m0 : MLY h0) (b0 : MBA h0 bd) (hj : j < 4) (hn : hI h0 353 j = nI n) (hn2 : n ≤ 12) (hks : ∀ q, q < n → hI h0 354 (12 * j + q) = nI (ks q) ∧ ks q < 4) (it3 : ∀ q, q < n → ¬ hI h0 354 (12 * j + q) = 3 → hI h0 355 (12 * j + q) = -1) (ti : 0 ≤ hI h0 342 15) (hsp : ∀ q hb pc, sp q hb pc = spS (ab bd (hI h0 354 (12 * j + q)) (hI h0 355 (12 * j + q)) (hI h0 342 15) f (nI hb) (nI pc)) 3)
    (fin : ∀ h', Fr mpc nov h0 h' → Q (some (.int (pwr sp ks s n))) h') : ∀ (m q : Nat) (h : AH) (v7 v8 v9 v10 : Value), q + m = n → Fr mpc nov h0 h → (∀ k, k < 4 → hI h 371 k = nI (chn ks s k q)) →
    Wp (d + 3) P_M_powerOf 18 [.ref 342, .int (nI j), .int f, .int s, .int (pwr sp ks s q), .int (nI (plN s q)), .int (nI q), v7, v8, v9, v10] [] h Q := by
  have i5 : ixo (nI j) 5 = true := nix (by omega) (by decide)
  have c5 := cN (n := j) (by omega)
  intro r
  induction r with
  | zero =>
    intro q h v7 v8 v9 v10 e fr k
    have : q = n := by omega
    subst this
    have m := m0.fr fr
    have e1 : hI h 353 = hI h0 353 := fr.I (by unfold mpc; omega)
    rw [b_M_powerOf_18]
    simp only [mo m, mr_16 m, mk_353 m, mn_353 m, i5, c5, e1, hn, Int32.le_refl, b_M_powerOf_109, mem20, mem21, mem22, al20, al21, al33, al34, al36, al37, al38, aa33, aa34, aa36, aa37, aa38, true_and, and_true, Int32.reduceOfNat, forall_const, true_implies, implies_true, false_implies, not_true_eq_false, not_false_eq_true]
    exact fin h fr
  | succ r ih =>
    intro q h v7 v8 v9 v10 e fr k
    have m := m0.fr fr
    have e1 : hI h 353 = hI h0 353 := fr.I (by unfold mpc; omega)
    have e2 : hI h 354 = hI h0 354 := fr.I (by unfold mpc; omega)
    have e3 : hI h 355 = hI h0 355 := fr.I (by unfold mpc; omega)
    have e4 : hI h 342 = hI h0 342 := fr.I (by unfold mpc; omega)
    have z : ¬ nI n ≤ nI q := mt (nle (by omega) (by omega)).mp (by omega)
    obtain ⟨k1, k2⟩ := hks q (by omega)
    rw [b_M_powerOf_18]
    simp only [mo m, mr_16 m, mk_353 m, mn_353 m, i5, c5, e1, hn, z, b_M_powerOf_24, mem20, mem21, mem22, al20, al21, al33, al34, al36, al37, al38, aa33, aa34, aa36, aa37, aa38, true_and, and_true, Int32.reduceOfNat, forall_const, true_implies, implies_true, false_implies, not_true_eq_false, not_false_eq_true]
    by_cases a : bt s q
    · simp only [a, b_M_powerOf_31, n12, mem20, mem21, mem22, al20, al21, al33, al34, al36, al37, al38, aa33, aa34, aa36, aa37, aa38, true_and, and_true, Int32.reduceOfNat, forall_const, true_implies, implies_true, false_implies, not_true_eq_false, not_false_eq_true]
      have h2 : pwr sp ks s (q + 1) = pwr sp ks s q + sp q (chn ks s (ks q) q) (plN s q) := if_pos a
      have h1 : plN s (q + 1) = plN s q + 1 := if_pos a
      have key := w_M_power3 (d := d) (j := j) (f := f) (bd := bd) (h0 := h) (Q := Q) q (ks q) (plN s q) (pwr sp ks s q) s (chn ks s (ks q) q) (ab bd (hI h0 354 (12 * j + q)) (hI h0 355 (12 * j + q)) (hI h0 342 15) f (nI (chn ks s (ks q) q)) (nI (plN s q))) m (b0.fr fr (by unfold mpc; omega)) hj (by omega) (by rw [e2]; exact k1) k2 (by rw [e2, e3]; exact it3 q (by omega)) (by rw [e4]; exact ti) (k _ k2) (by rw [e2, e3, e4]) ?_ 3 0 h v9 v10 rfl Fr.rfl'
      · have z0 : pwr sp ks s q + spS (ab bd (hI h0 354 (12 * j + q)) (hI h0 355 (12 * j + q)) (hI h0 342 15) f (nI (chn ks s (ks q) q)) (nI (plN s q))) 0 = pwr sp ks s q := Int32.add_zero _
        rw [z0] at key
        exact key
      · intro h' w9 w10 fr1
        rw [← hsp, ← h2]
        have frA : Fr mpc nov h0 h' := fr.tr (fr1.mo (by unfold mcs mpc; omega) (fun a z => z))
        have m1 := m0.fr frA
        have f1 : hI h' 354 = hI h0 354 := frA.I (by unfold mpc; omega)
        have f2 : hI h' 371 = hI h 371 := fr1.I (by unfold mcs; omega)
        have i4 : ixo (nI (ks q)) 4 = true := nix k2 (by decide)
        have c4 := cN (n := ks q) (by omega)
        have i1 : ixo (nI (12 * j + q)) 60 = true := nix (by omega) (by decide)
        have c1 := cN (n := 12 * j + q) (by omega)
        rw [b_M_powerOf_95]
        simp only [mo m1, mr_17 m1, mr_37 m1, mk_354 m1, mn_354 m1, mk_371 m1, mn_371 m1, i1, c1, f1, f2, k1, i4, c4, k _ k2, nI_1, b_M_powerOf_107, mem20, mem21, mem22, al20, al21, al33, al34, al36, al37, al38, aa33, aa34, aa36, aa37, aa38, true_and, and_true, Int32.reduceOfNat, forall_const, true_implies, implies_true, false_implies, not_true_eq_false, not_false_eq_true]
        rw [← h1]
        refine ih (q + 1) _ _ _ _ _ (by omega) (frA.sI (by unfold mpc; omega)) ?_
        intro k' hk'
        have h3 : chn ks s k' (q + 1) = if bt s q ∧ ks q = k' then chn ks s k' q + 1 else chn ks s k' q := rfl
        rw [hI_same, h3]
        by_cases qk : k' = ks q
        · rw [if_pos qk, if_pos ⟨a, qk.symm⟩, qk]
        · rw [if_neg qk, if_neg (fun w => qk w.2.symm), f2]; exact k k' hk'
    · have h1 : plN s (q + 1) = plN s q := if_neg a
      have h2 : pwr sp ks s (q + 1) = pwr sp ks s q := if_neg a
      have ihm := ih (q + 1) h v7 v8 v9 v10 (by omega) fr (fun k' hk' => by
        have h3 : chn ks s k' (q + 1) = chn ks s k' q := if_neg (fun w => a w.1)
        rw [h3]; exact k k' hk')
      rw [h1, h2] at ihm
      simp only [a, b_M_powerOf_107, nI_1, mem20, mem21, mem22, al20, al21, al33, al34, al36, al37, al38, aa33, aa34, aa36, aa37, aa38, true_and, and_true, Int32.reduceOfNat, forall_const, true_implies, implies_true, false_implies, not_true_eq_false, not_false_eq_true]
      exact ihm
theorem c_M_powerOf (s : Int32) (m0 : MLY h0) (b0 : MBA h0 bd) (hj : j < 4) (hn : hI h0 353 j = nI n) (hn2 : n ≤ 12) (hks : ∀ q, q < n → hI h0 354 (12 * j + q) = nI (ks q) ∧ ks q < 4) (it3 : ∀ q, q < n → ¬ hI h0 354 (12 * j + q) = 3 → hI h0 355 (12 * j + q) = -1) (ti : 0 ≤ hI h0 342 15) (hsp : ∀ q hb pc, sp q hb pc = spS (ab bd (hI h0 354 (12 * j + q)) (hI h0 355 (12 * j + q)) (hI h0 342 15) f (nI hb) (nI pc)) 3)
    (fin : ∀ h', Fr mpc nov h0 h' → Q (some (.int (pwr sp ks s n))) h') : Cl (d + 4) q_M_powerOf [.ref 342, .int (nI j), .int f, .int s] h0 Q := by
  rw [e_M_powerOf, b_M_powerOf_0]
  refine ⟨mo m0, ?_⟩
  rw [b_M_powerOf_6]
  simp only [b_M_powerOf_9, mo m0, mr_37 m0, mk_371 m0, mn_371 m0, hI_sI, hJ_sI, hR_sI, hK_sI, hN_sI, hz_sI, hu_sI, hJ_sJ, hI_sJ, hR_sJ, hK_sJ, hN_sJ, hz_sJ, hu_sJ, hR_sR, hI_sR, hJ_sR, hK_sR, hN_sR, hz_sR, hu_sR, show ¬ (4 : Int32) ≤ 0 by decide, show ixo 0 4 = true by decide, tn0, mem20, mem21, mem22, al20, al21, al33, al34, al36, al37, al38, aa33, aa34, aa36, aa37, aa38, true_and, and_true, Int32.reduceOfNat, forall_const, true_implies, implies_true, false_implies, not_true_eq_false, not_false_eq_true]
  rw [b_M_powerOf_6]
  simp only [b_M_powerOf_9, mo m0, mr_37 m0, mk_371 m0, mn_371 m0, hI_sI, hJ_sI, hR_sI, hK_sI, hN_sI, hz_sI, hu_sI, hJ_sJ, hI_sJ, hR_sJ, hK_sJ, hN_sJ, hz_sJ, hu_sJ, hR_sR, hI_sR, hJ_sR, hK_sR, hN_sR, hz_sR, hu_sR, show (0 : Int32) + 1 = 1 by decide, show ¬ (4 : Int32) ≤ 1 by decide, show ixo 1 4 = true by decide, tn1, mem20, mem21, mem22, al20, al21, al33, al34, al36, al37, al38, aa33, aa34, aa36, aa37, aa38, true_and, and_true, Int32.reduceOfNat, forall_const, true_implies, implies_true, false_implies, not_true_eq_false, not_false_eq_true]
  rw [b_M_powerOf_6]
  simp only [b_M_powerOf_9, mo m0, mr_37 m0, mk_371 m0, mn_371 m0, hI_sI, hJ_sI, hR_sI, hK_sI, hN_sI, hz_sI, hu_sI, hJ_sJ, hI_sJ, hR_sJ, hK_sJ, hN_sJ, hz_sJ, hu_sJ, hR_sR, hI_sR, hJ_sR, hK_sR, hN_sR, hz_sR, hu_sR, show (1 : Int32) + 1 = 2 by decide, show ¬ (4 : Int32) ≤ 2 by decide, show ixo 2 4 = true by decide, tn2, mem20, mem21, mem22, al20, al21, al33, al34, al36, al37, al38, aa33, aa34, aa36, aa37, aa38, true_and, and_true, Int32.reduceOfNat, forall_const, true_implies, implies_true, false_implies, not_true_eq_false, not_false_eq_true]
  rw [b_M_powerOf_6]
  simp only [b_M_powerOf_9, mo m0, mr_37 m0, mk_371 m0, mn_371 m0, hI_sI, hJ_sI, hR_sI, hK_sI, hN_sI, hz_sI, hu_sI, hJ_sJ, hI_sJ, hR_sJ, hK_sJ, hN_sJ, hz_sJ, hu_sJ, hR_sR, hI_sR, hJ_sR, hK_sR, hN_sR, hz_sR, hu_sR, show (2 : Int32) + 1 = 3 by decide, show ¬ (4 : Int32) ≤ 3 by decide, show ixo 3 4 = true by decide, tn3, mem20, mem21, mem22, al20, al21, al33, al34, al36, al37, al38, aa33, aa34, aa36, aa37, aa38, true_and, and_true, Int32.reduceOfNat, forall_const, true_implies, implies_true, false_implies, not_true_eq_false, not_false_eq_true]
  rw [b_M_powerOf_6]
  simp only [show (3 : Int32) + 1 = 4 by decide, show (4 : Int32) ≤ 4 by decide, b_M_powerOf_16, mem20, mem21, mem22, al20, al21, al33, al34, al36, al37, al38, aa33, aa34, aa36, aa37, aa38, true_and, and_true, Int32.reduceOfNat, forall_const, true_implies, implies_true, false_implies, not_true_eq_false, not_false_eq_true]
  refine w_M_power2 (d := d) s m0 b0 hj hn hn2 hks it3 ti hsp (fun h' w => ⟨rtI _, fin h' w⟩) n 0 _ _ _ _ _ (Nat.zero_add _) ((((Fr.rfl'.sI (by unfold mpc; omega)).sI (by unfold mpc; omega)).sI (by unfold mpc; omega)).sI (by unfold mpc; omega)) ?_
  intro k hk
  have c : k = 0 ∨ k = 1 ∨ k = 2 ∨ k = 3 := by omega
  rcases c with rfl | rfl | rfl | rfl <;> simp [hI_sI] <;> rfl
theorem w_M_best (M x4 : Int32) (m0 : MLY h0) (b0 : MBA h0 bd) (hj : j < 4) (hn : hI h0 353 j = nI n) (hn2 : n ≤ 12) (hks : ∀ q, q < n → hI h0 354 (12 * j + q) = nI (ks q) ∧ ks q < 4) (it3 : ∀ q, q < n → ¬ hI h0 354 (12 * j + q) = 3 → hI h0 355 (12 * j + q) = -1) (ti : 0 ≤ hI h0 342 15) (hmn : ∀ q, q < n → hI h0 356 (12 * j + q) = mn q) (hsp : ∀ q hb pc, sp q hb pc = spS (ab bd (hI h0 354 (12 * j + q)) (hI h0 355 (12 * j + q)) (hI h0 342 15) f (nI hb) (nI pc)) 3)
    (fin : ∀ h' v8, Fr mpc nov h0 h' → Wp (d + 4) P_M_best 59 [.ref 342, .int (nI j), .int f, .int M, .int x4, .int (bst sp ks mn n M (2 ^ n - 1)).2, .int (bst sp ks mn n M (2 ^ n - 1)).1, .int (nI (2 ^ n)), v8] [] h' Q) : ∀ (m t : Nat) (h : AH) (v8 : Value), t + m = 2 ^ n - 1 → Fr mpc nov h0 h →
    Wp (d + 4) P_M_best 28 [.ref 342, .int (nI j), .int f, .int M, .int x4, .int (bst sp ks mn n M t).2, .int (bst sp ks mn n M t).1, .int (nI (t + 1)), v8] [] h Q := by
  obtain ⟨p1, p2⟩ := pw12 hn2
  have i5 : ixo (nI j) 5 = true := nix (by omega) (by decide)
  have c5 := cN (n := j) (by omega)
  have sh := sh_n hn2
  intro r
  induction r with
  | zero =>
    intro t h v8 e fr
    have m := m0.fr fr
    have e1 : hI h 353 = hI h0 353 := fr.I (by unfold mpc; omega)
    have : t = 2 ^ n - 1 := by omega
    have w : t + 1 = 2 ^ n := by omega
    subst this
    rw [b_M_best_28, w]
    simp only [mo m, mr_16 m, mk_353 m, mn_353 m, i5, c5, e1, hn, sh, Int32.le_refl, mem20, mem21, mem22, al20, al21, al33, al34, al36, al37, al38, aa33, aa34, aa36, aa37, aa38, true_and, and_true, Int32.reduceOfNat, forall_const, true_implies, implies_true, false_implies, not_true_eq_false, not_false_eq_true]
    exact fin h _ fr
  | succ r ih =>
    intro t h v8 e fr
    have m := m0.fr fr
    have e1 : hI h 353 = hI h0 353 := fr.I (by unfold mpc; omega)
    have e2 : hI h 354 = hI h0 354 := fr.I (by unfold mpc; omega)
    have e3 : hI h 355 = hI h0 355 := fr.I (by unfold mpc; omega)
    have e4 : hI h 342 = hI h0 342 := fr.I (by unfold mpc; omega)
    have e5 : hI h 356 = hI h0 356 := fr.I (by unfold mpc; omega)
    have z : ¬ nI (2 ^ n) ≤ nI (t + 1) := mt (nle (by omega) (by omega)).mp (by omega)
    have hs : bst sp ks mn n M (t + 1) = if M < spn mn (nI (t + 1)) n then bst sp ks mn n M t else if pwr sp ks (nI (t + 1)) n ≤ (bst sp ks mn n M t).1 then bst sp ks mn n M t else (pwr sp ks (nI (t + 1)) n, nI (t + 1)) := rfl
    rw [b_M_best_28]
    simp only [mo m, mr_16 m, mk_353 m, mn_353 m, i5, c5, e1, hn, sh, z, b_M_best_36, c_M_minutesOf (mn := mn) (n := n) _ h m hj (by rw [e1]; exact hn) hn2 (by rw [e5]; exact hmn), Option.toList, List.cons_append, List.nil_append, b_M_best_40, mem20, mem21, mem22, al20, al21, al33, al34, al36, al37, al38, aa33, aa34, aa36, aa37, aa38, true_and, and_true, Int32.reduceOfNat, forall_const, true_implies, implies_true, false_implies, not_true_eq_false, not_false_eq_true]
    by_cases a : M < spn mn (nI (t + 1)) n
    · rw [if_pos a] at hs
      have a' : ¬ spn mn (nI (t + 1)) n ≤ M := Int32.not_le.mpr a
      have nn : (-1 : Int32) ≤ (bst sp ks mn n M t).1 := Int32.le_trans (by decide) (bst_nn sp ks mn n M t)
      have ihm := fun a => ih (t + 1) h a (by omega) fr
      rw [hs] at ihm
      simp only [a', b_M_best_42, b_M_best_49, nn, b_M_best_57, nI_1, mem20, mem21, mem22, al20, al21, al33, al34, al36, al37, al38, aa33, aa34, aa36, aa37, aa38, true_and, and_true, Int32.reduceOfNat, forall_const, true_implies, implies_true, false_implies, not_true_eq_false, not_false_eq_true]
      exact ihm _
    · rw [if_neg a] at hs
      have a' : spn mn (nI (t + 1)) n ≤ M := Int32.not_lt.mp a
      simp only [a', b_M_best_44, mem20, mem21, mem22, al20, al21, al33, al34, al36, al37, al38, aa33, aa34, aa36, aa37, aa38, true_and, and_true, Int32.reduceOfNat, forall_const, true_implies, implies_true, false_implies, not_true_eq_false, not_false_eq_true]
      refine c_M_powerOf (d := d) (bd := bd) (sp := sp) (ks := ks) (n := n) _ m (b0.fr fr (by unfold mpc; omega)) hj (by rw [e1]; exact hn) hn2 (by rw [e2]; exact hks) (by rw [e2, e3]; exact it3) (by rw [e4]; exact ti) (by rw [e2, e3, e4]; exact hsp) ?_
      intro h1 fr1
      have frA := fr.tr fr1
      have ihm := fun a => ih (t + 1) h1 a (by omega) frA
      simp only [Option.toList, List.cons_append, List.nil_append, b_M_best_49, b_M_best_53, b_M_best_57, nI_1]
      by_cases b : pwr sp ks (nI (t + 1)) n ≤ (bst sp ks mn n M t).1
      · rw [if_pos b] at hs
        rw [hs] at ihm
        simp only [b, mem20, mem21, mem22, al20, al21, al33, al34, al36, al37, al38, aa33, aa34, aa36, aa37, aa38, true_and, and_true, Int32.reduceOfNat, forall_const, true_implies, implies_true, false_implies, not_true_eq_false, not_false_eq_true]
        exact ihm _
      · rw [if_neg b] at hs
        rw [hs] at ihm
        simp only [b, mem20, mem21, mem22, al20, al21, al33, al34, al36, al37, al38, aa33, aa34, aa36, aa37, aa38, true_and, and_true, Int32.reduceOfNat, forall_const, true_implies, implies_true, false_implies, not_true_eq_false, not_false_eq_true]
        exact ihm _
end MB
section OPS
variable {L : Nat} {xs : Nat → Int32} {c : Nat} {h : AH}
def bsc : Nat → Prop := fun a => a = 126 ∨ a = 128 ∨ a = 129 ∨ (132 ≤ a ∧ a ≤ 134) ∨ a = 141 ∨ a = 142
theorem op_best (i : Inv L xs c h) (p f M w : Int32) : OpI L xs c q_X_best [.ref 100, .int p, .int f, .int M, .int w] q_M_best [.ref 342, .int p, .int f, .int M, .int w] h := by
  have ii := i
  obtain ⟨i1, i2, i3, i4, i5, i6, i7, i8, i9, i10, i11, i12, i13, i14, i15⟩ := i
  have m1 : MLY (sI h 342 0 0) := i3.fr (S := onl 342) (T := nov) (Fs1 Fr.rfl')
  unfold OpI
  by_cases q : ((0 ≤ p ∧ p ≤ 3) ∧ ¬ hI h (154 + 4 * p.toNatClampNeg) 3 = 0) ∧ (0 ≤ f ∧ f ≤ 9) ∧ (1 ≤ M ∧ M ≤ 99) ∧ (0 ≤ w ∧ w ≤ 2)
  · have q' := q
    rw [pl_iff i7] at q'
    obtain ⟨⟨p3, p4⟩, p5, p6, p7⟩ := q
    obtain ⟨n3, n4⟩ := n_of (M := 3) (n := 3) (by decide) p3
    obtain ⟨j, hj, rfl⟩ : ∃ j, j ≤ 3 ∧ p = nI j := ⟨_, n3, n4⟩
    have cj := cN (n := j) (by omega)
    rw [cj] at q' p4
    obtain ⟨np, ks, ap⟩ := i7 j (by omega)
    obtain ⟨bd, b1, b2, b3⟩ := i9
    have z1 : ¬ 154 + 4 * j = 0 := by omega
    have z2 : 100 ≤ 154 + 4 * j := by omega
    rw [e_X_best, b_X_best_0]
    simp only [c_X_toldPlan _ h i2, cj, p3, p4, p5, p6, p7, not_false_eq_true, and_self, if_true, Option.toList, List.cons_append, List.nil_append, b_X_best_3, z1, z2, or_true, b_X_best_6, c_within, bw0, b_X_best_10, b_X_best_11, b_X_best_15, b_X_best_16, b_X_best_20, b_X_best_23, xk_100 i2, xr_100_11 i2, c_Pe_tell 141 _ _ _ _ h (xk_141 i2) i01_1 i01_0, mem20, mem21, mem22, al20, al21, al33, al34, al36, al37, al38, aa33, aa34, aa36, aa37, aa38, true_and, and_true, Int32.reduceOfNat, forall_const, true_implies, implies_true, false_implies, not_true_eq_false, not_false_eq_true]
    have fr1 : Fr bsc nov h (sI (sI (sI (sI (sI h 141 0 1) 141 1 f) 141 2 1) 141 3 0) 141 4 0) := ((((Fr.rfl'.sI (by unfold bsc; omega)).sI (by unfold bsc; omega)).sI (by unfold bsc; omega)).sI (by unfold bsc; omega)).sI (by unfold bsc; omega)
    have o1 : hI (sI (sI (sI (sI (sI h 141 0 1) 141 1 f) 141 2 1) 141 3 0) 141 4 0) 141 1 = f ∧ hI (sI (sI (sI (sI (sI h 141 0 1) 141 1 f) 141 2 1) 141 3 0) 141 4 0) 141 2 = 1 ∧ hI (sI (sI (sI (sI (sI h 141 0 1) 141 1 f) 141 2 1) 141 3 0) 141 4 0) 141 3 = 0 ∧ hI (sI (sI (sI (sI (sI h 141 0 1) 141 1 f) 141 2 1) 141 3 0) 141 4 0) 141 4 = 0 := by simp [hI_sI]
    generalize sI (sI (sI (sI (sI h 141 0 1) 141 1 f) 141 2 1) 141 3 0) 141 4 0 = h1 at fr1 o1 ⊢
    have x1 := i2.fr fr1
    simp only [b_X_best_30, xk_100 x1, xr_100_12 x1, c_Pe_tell 142 _ _ _ _ h1 (xk_142 x1) i01_0 i01_0, Option.toList, List.cons_append, List.nil_append, mem20, mem21, mem22, al20, al21, al33, al34, al36, al37, al38, aa33, aa34, aa36, aa37, aa38, true_and, and_true, Int32.reduceOfNat, forall_const, true_implies, implies_true, false_implies, not_true_eq_false, not_false_eq_true]
    have fr2 : Fr bsc nov h (sI (sI (sI (sI (sI h1 142 0 1) 142 1 f) 142 2 0) 142 3 0) 142 4 0) := ((((fr1.sI (by unfold bsc; omega)).sI (by unfold bsc; omega)).sI (by unfold bsc; omega)).sI (by unfold bsc; omega)).sI (by unfold bsc; omega)
    have o2 : hI (sI (sI (sI (sI (sI h1 142 0 1) 142 1 f) 142 2 0) 142 3 0) 142 4 0) 142 1 = f ∧ hI (sI (sI (sI (sI (sI h1 142 0 1) 142 1 f) 142 2 0) 142 3 0) 142 4 0) 142 2 = 0 ∧ hI (sI (sI (sI (sI (sI h1 142 0 1) 142 1 f) 142 2 0) 142 3 0) 142 4 0) 142 3 = 0 ∧ hI (sI (sI (sI (sI (sI h1 142 0 1) 142 1 f) 142 2 0) 142 3 0) 142 4 0) 142 4 = 0 := by simp [hI_sI]
    have o3 : hI (sI (sI (sI (sI (sI h1 142 0 1) 142 1 f) 142 2 0) 142 3 0) 142 4 0) 141 = hI h1 141 := by rw [rI_sI (by decide), rI_sI (by decide), rI_sI (by decide), rI_sI (by decide), rI_sI (by decide)]
    rw [← o3] at o1
    generalize sI (sI (sI (sI (sI h1 142 0 1) 142 1 f) 142 2 0) 142 3 0) 142 4 0 = h2 at fr2 o1 o2 ⊢
    have x2 := i2.fr fr2
    have ec : ∀ a, (145 < a) ∨ a = 122 → hI h2 a = hI h a := fun a ha => fr2.I (by unfold bsc; omega)
    simp only [b_X_best_37, xk_100 x2, xr_100_7 x2, xr_100_9 x2, xr_100_11 x2, xr_100_12 x2, mem20, mem21, mem22, al20, al21, al33, al34, al36, al37, al38, aa33, aa34, aa36, aa37, aa38, true_and, and_true, Int32.reduceOfNat, forall_const, true_implies, implies_true, false_implies, not_true_eq_false, not_false_eq_true]
    have hkd : ∀ q, q < np → hI h2 (154 + 4 * j + 1) q = hI h 354 (12 * j + q) ∧ hI h2 (154 + 4 * j + 2) q = hI h 355 (12 * j + q) := fun q hq => by
      rw [ec _ (by omega), ec _ (by omega), show 154 + 4 * j + 1 = 155 + 4 * j by omega, show 154 + 4 * j + 2 = 156 + 4 * j by omega]
      exact ap.kd q hq
    have y2 : PLN h2 (154 + 4 * j) := pln_pl x2 (by omega)
    have hn2' : hI h2 (154 + 4 * j) 3 = nI np := by rw [ec _ (by omega)]; exact ap.2.1
    refine c_Pr_weigh (d := 93) (n := np) (f := f) (bd := bd) (kd := fun q => hI h 354 (12 * j + q)) (it := fun q => hI h 355 (12 * j + q)) (ti := hI h 342 15) (sp := fun q hb pc => spS (ab bd (hI h 354 (12 * j + q)) (hI h 355 (12 * j + q)) (hI h 342 15) f (nI hb) (nI pc)) 3) x2 (b1.fr fr2 (by unfold bsc; omega)) y2 (by omega) hn2' ap.1 o1 o2 hkd (by rw [ec _ (by omega)]; exact i6.1) (fun _ _ _ => rfl) ?_
    intro h3 fr3 wg
    have fr3' : Fr bsc nov h h3 := fr2.tr (fr3.mo (by unfold wgc bsc; omega) (fun a z => z))
    have x3 := i2.fr fr3'
    have ed : ∀ a, (145 < a) ∨ a = 122 → hI h3 a = hI h a := fun a ha => fr3'.I (by unfold bsc; omega)
    simp only [Option.toList, List.cons_append, List.nil_append, b_X_best_47, xk_100 x3, xr_100_9 x3, mem20, mem21, mem22, al20, al21, al33, al34, al36, al37, al38, aa33, aa34, aa36, aa37, aa38, true_and, and_true, Int32.reduceOfNat, forall_const, true_implies, implies_true, false_implies, not_true_eq_false, not_false_eq_true]
    refine c_Pr_choose (d := 96) (n := np) (kd := fun q => hI h 354 (12 * j + q)) (mn := fun q => hI h 356 (12 * j + q)) (ks := ks) (sp := fun q hb pc => spS (ab bd (hI h 354 (12 * j + q)) (hI h 355 (12 * j + q)) (hI h 342 15) f (nI hb) (nI pc)) 3) M x3 (pln_pl x3 (by omega)) (by omega) (by rw [ed _ (by omega)]; exact ap.2.1) ap.1 ?_ ?_ wg ?_
    · intro q hq
      obtain ⟨u1, u2, u3, u4, u5, u6⟩ := ap.2.2.2 q hq
      rw [ed _ (by omega), show 154 + 4 * j + 1 = 155 + 4 * j by omega]
      exact ⟨u1.trans u2.symm, u2, u3⟩
    · intro q hq
      obtain ⟨u1, u2, u3, u4, u5, u6⟩ := ap.2.2.2 q hq
      rw [ed _ (by omega), show 154 + 4 * j + 3 = 157 + 4 * j by omega]
      exact u6
    intro h4 fr4 cs
    have frA : Fr bsc nov h h4 := fr3'.tr (fr4.mo (by unfold chc bsc; omega) (fun a z => z))
    have x4 := i2.fr frA
    have hS : ∀ a, bsc a → scr a ∧ a < 342 := fun a z => by
      unfold bsc at z
      unfold scr
      omega
    have em : ∀ a, 342 ≤ a → hI h4 a = hI h a := fun a ha => frA.I (fun z => by have := (hS a z).2; omega)
    have frB : Fr (fun a => bsc a ∨ a = 342) nov h (sI h4 342 0 0) := (frA.mo (fun a z => Or.inl z) (fun a z => z)).sI (Or.inr rfl)
    have m2 := i3.fr frA
    have m3 := i3.fr frB
    have eo : ∀ a, 342 < a → hI (sI h4 342 0 0) a = hI h a := fun a ha => by rw [rI_sI (by omega), em a (by omega)]
    have e15 : hI (sI h4 342 0 0) 342 15 = hI h 342 15 := by rw [hI_same, if_neg (by decide), em 342 (by decide)]
    generalize hsp : (fun q hb pc => spS (ab bd (hI h 354 (12 * j + q)) (hI h 355 (12 * j + q)) (hI h 342 15) f (nI hb) (nI pc)) 3) = sp at cs
    generalize hmn : (fun q => hI h 356 (12 * j + q)) = mn at cs
    have ref : ∀ v : Int32, (∀ h', Fr mpc nov (sI h4 342 0 0) h' → ∀ v8, Wp 99 P_M_best 59 [.ref 342, .int (nI j), .int f, .int M, .int w, .int (bst sp ks mn np M (2 ^ np - 1)).2, .int (bst sp ks mn np M (2 ^ np - 1)).1, .int (nI (2 ^ np)), v8] [] h' (fun r h' => r = some (.int v) ∧ Fr mpc nov (sI h4 342 0 0) h')) → Cl 100 q_M_best [.ref 342, .int (nI j), .int f, .int M, .int w] h4 (fun r' h2 => r' = some (.int v) ∧ Inv L xs (c + 1) h2) := by
      intro v hv
      rw [e_M_best, b_M_best_0]
      simp only [mo m2, c_M_isPlan _ _ m3, c_M_isFear, c_M_within, Option.toList, List.cons_append, List.nil_append, b_M_best_6, b_M_best_7, b_M_best_9, b_M_best_10, b_M_best_14, b_M_best_15, b_M_best_19, b_M_best_22, iz, bw0, eo 353 (by decide), cj, q', and_self, if_true, show ¬ (1 : Int32) = 0 by decide, mem20, mem21, mem22, al20, al21, al33, al34, al36, al37, al38, aa33, aa34, aa36, aa37, aa38, true_and, and_true, Int32.reduceOfNat, forall_const, true_implies, implies_true, false_implies, not_true_eq_false, not_false_eq_true]
      refine w_M_best (d := 95) (h0 := sI h4 342 0 0) (bd := bd) (ks := ks) (sp := sp) (mn := mn) (n := np) M w m3 (b2.fr frB (fun a z => by rcases z with z | z; have := (hS a z).2; omega; omega)) (by omega) (by rw [eo 353 (by decide)]; exact ap.2.2.1) ap.1 ?_ (by rw [eo 354 (by decide), eo 355 (by decide)]; exact ap.it3) (by rw [e15]; exact i6.2.1) ?_ ?_ ?_ (2 ^ np - 1) 0 _ _ (Nat.zero_add _) Fr.rfl'
      · intro q hq
        obtain ⟨u1, u2, u3, u4, u5, u6⟩ := ap.2.2.2 q hq
        rw [eo 354 (by decide)]
        exact ⟨u2, u3⟩
      · intro q hq
        rw [eo 356 (by decide), ← hmn]
      · intro q hb pc
        rw [eo 354 (by decide), eo 355 (by decide), e15, ← hsp]
      · intro h' v8 fr'
        refine (hv h' fr' v8).mono ?_
        rintro r h5 ⟨rfl, fr5⟩
        refine ⟨rtI _, rfl, ?_⟩
        exact ii.rt frA hS fr5 (fun a z => by unfold mpc at z; omega) (KS.of (fun a h1 h2 => fr5.I (by unfold mpc; omega)))
    have wc : w = 0 ∨ w = 1 ∨ w = 2 := by
      obtain ⟨w1, w2⟩ := n_of (M := 2) (n := 2) (by decide) p7
      rw [w2]
      have c3 : w.toNatClampNeg = 0 ∨ w.toNatClampNeg = 1 ∨ w.toNatClampNeg = 2 := by omega
      rcases c3 with c3 | c3 | c3 <;> rw [c3]
      · exact Or.inl rfl
      · exact Or.inr (Or.inl rfl)
      · exact Or.inr (Or.inr rfl)
    rcases wc with rfl | rfl | rfl
    · simp only [Option.toList, List.cons_append, List.nil_append, b_X_best_52, b_X_best_54, xk_100 x4, xr_100_9 x4, xk_132 x4, rtI, cs.1, not_true_eq_false, mem20, mem21, mem22, al20, al21, al33, al34, al36, al37, al38, aa33, aa34, aa36, aa37, aa38, true_and, and_true, Int32.reduceOfNat, forall_const, true_implies, implies_true, false_implies, not_true_eq_false, not_false_eq_true]
      refine ⟨_, rfl, ref _ ?_⟩
      intro h' fr' v8
      simp only [b_M_best_59, b_M_best_61, b_M_best_72, not_true_eq_false, mem20, mem21, mem22, al20, al21, al33, al34, al36, al37, al38, aa33, aa34, aa36, aa37, aa38, true_and, and_true, Int32.reduceOfNat, forall_const, true_implies, implies_true, false_implies, not_true_eq_false, not_false_eq_true]
      exact fr'
    · simp only [Option.toList, List.cons_append, List.nil_append, b_X_best_52, b_X_best_58, b_X_best_61, b_X_best_68, xk_100 x4, xr_100_9 x4, xk_132 x4, rtI, cs.2.1, not_true_eq_false, show ¬ (1 : Int32) = 0 by decide, mem20, mem21, mem22, al20, al21, al33, al34, al36, al37, al38, aa33, aa34, aa36, aa37, aa38, true_and, and_true, Int32.reduceOfNat, forall_const, true_implies, implies_true, false_implies, not_true_eq_false, not_false_eq_true]
      refine ⟨_, rfl, ref _ ?_⟩
      intro h' fr' v8
      simp only [b_M_best_59, b_M_best_63, b_M_best_66, b_M_best_72, not_true_eq_false, show ¬ (1 : Int32) = 0 by decide, mem20, mem21, mem22, al20, al21, al33, al34, al36, al37, al38, aa33, aa34, aa36, aa37, aa38, true_and, and_true, Int32.reduceOfNat, forall_const, true_implies, implies_true, false_implies, not_true_eq_false, not_false_eq_true]
      exact fr'
    · simp only [Option.toList, List.cons_append, List.nil_append, b_X_best_52, b_X_best_58, b_X_best_65, b_X_best_68, xk_100 x4, xr_100_9 x4, xk_132 x4, rtI, cs.2.2, not_true_eq_false, show ¬ (2 : Int32) = 0 by decide, show ¬ (2 : Int32) = 1 by decide, mem20, mem21, mem22, al20, al21, al33, al34, al36, al37, al38, aa33, aa34, aa36, aa37, aa38, true_and, and_true, Int32.reduceOfNat, forall_const, true_implies, implies_true, false_implies, not_true_eq_false, not_false_eq_true]
      refine ⟨_, rfl, ref _ ?_⟩
      intro h' fr' v8
      have ef : ∀ a, 342 < a → a < 363 → hI h' a = hI h a := fun a h1 h2 => by rw [fr'.I (by unfold mpc; omega), eo a h1]
      simp only [b_M_best_59, b_M_best_63, b_M_best_68, c_M_minutesOf (mn := mn) (n := np) (j := j) _ h' (m3.fr fr') (by omega) (by rw [ef 353 (by decide) (by decide)]; exact ap.2.2.1) ap.1 (by rw [ef 356 (by decide) (by decide), ← hmn]; exact fun _ _ => rfl), Option.toList, List.cons_append, List.nil_append, b_M_best_72, not_true_eq_false, show ¬ (2 : Int32) = 0 by decide, show ¬ (2 : Int32) = 1 by decide, mem20, mem21, mem22, al20, al21, al33, al34, al36, al37, al38, aa33, aa34, aa36, aa37, aa38, true_and, and_true, Int32.reduceOfNat, forall_const, true_implies, implies_true, false_implies, not_true_eq_false, not_false_eq_true]
      exact fr'
  · rw [e_X_best, b_X_best_0]
    simp only [c_X_toldPlan _ h i2, Option.toList, List.cons_append, List.nil_append, b_X_best_3, nullT (show 100 ≤ 154 + 4 * p.toNatClampNeg by omega), b_X_best_6, c_within, bw0, b_X_best_10, b_X_best_11, b_X_best_15, b_X_best_16, b_X_best_20, b_X_best_21, xk_100 i2, mem20, mem21, mem22, al20, al21, al33, al34, al36, al37, al38, aa33, aa34, aa36, aa37, aa38, true_and, and_true, Int32.reduceOfNat, forall_const, true_implies, implies_true, false_implies, not_true_eq_false, not_false_eq_true]
    have fin : rtk (some .int) (some (.int (-1))) = true ∧ ∃ v : Int32, some (Value.int (-1)) = some (Value.int v) ∧ Cl 100 q_M_best [.ref 342, .int p, .int f, .int M, .int w] h (fun r' h2 => r' = some (.int v) ∧ Inv L xs (c + 1) h2) := by
      refine ⟨rtI _, -1, rfl, ?_⟩
      rw [pl_iff i7] at q
      rw [e_M_best, b_M_best_0]
      simp only [mo i3, c_M_isPlan _ _ m1, c_M_isFear, c_M_within, Option.toList, List.cons_append, List.nil_append, b_M_best_6, b_M_best_7, b_M_best_9, b_M_best_10, b_M_best_14, b_M_best_15, b_M_best_19, b_M_best_20, iz, bw0, rI_sI (show 353 ≠ 342 by decide), rtI, ii.th, mem20, mem21, mem22, al20, al21, al33, al34, al36, al37, al38, aa33, aa34, aa36, aa37, aa38, true_and, and_true, Int32.reduceOfNat, forall_const, true_implies, implies_true, false_implies, not_true_eq_false, not_false_eq_true]
      intro q1 q2 q3 q4
      exact absurd ⟨Classical.not_not.mp q1, Classical.not_not.mp q2, Classical.not_not.mp q3, Classical.not_not.mp q4⟩ q
    exact ⟨fun _ => fin, fun q1 => ⟨fun _ => fin, fun q2 => ⟨fun _ => fin, fun q3 => ⟨fun q4 => absurd ⟨q1, Classical.not_not.mp q2, Classical.not_not.mp q3, Classical.not_not.mp q4⟩ q, fun _ => fin⟩⟩⟩⟩
end OPS
