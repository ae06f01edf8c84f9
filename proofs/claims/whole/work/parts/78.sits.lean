--deps: 77.sit
/-! A SITTING OF THE REFERENCE -/
def MBA (h : AH) (bd : Nat → Option (List Nat)) : Prop := ∀ ln, ln < 3 → MBd h ln (bd ln) ∧ okO 12 (bd ln)
theorem MBd.fr {S T : Nat → Prop} {h h' : AH} {ln : Nat} {o : Option (List Nat)} (x : MBd h ln o) (p : Fr S T h h') (q : ∀ a, S a → a ≠ 357 ∧ a ≠ 358 ∧ a ≠ 359) : MBd h' ln o := by
  have e1 : hI h' 357 = hI h 357 := p.I (fun z => (q _ z).1 rfl)
  have e2 : hI h' 358 = hI h 358 := p.I (fun z => (q _ z).2.1 rfl)
  have e3 : hI h' 359 = hI h 359 := p.I (fun z => (q _ z).2.2 rfl)
  unfold MBd at x ⊢
  rw [e1, e2, e3]
  exact x
theorem MBA.fr {S T : Nat → Prop} {h h' : AH} {bd : Nat → Option (List Nat)} (x : MBA h bd) (p : Fr S T h h') (q : ∀ a, S a → a ≠ 357 ∧ a ≠ 358 ∧ a ≠ 359) : MBA h' bd :=
  fun ln hl => ⟨(x ln hl).1.fr p q, (x ln hl).2⟩
def mss : Nat → Prop := fun a => 363 ≤ a ∧ a ≤ 369
def MSat (h0 h : AH) (s n a b : Nat) (kd it jv : Nat → Int32) : Prop :=
  Fr mss nov h0 h ∧ hI h 365 s = nI n ∧ hI h 366 s = hI h0 342 15 ∧ (∀ j, j ≠ s → hI h 365 j = hI h0 365 j ∧ hI h 366 j = hI h0 366 j) ∧ (∀ k, k < a → hI h 367 (12 * s + k) = kd k ∧ hI h 368 (12 * s + k) = it k) ∧ (∀ j, (j < 12 * s ∨ 12 * s + 12 ≤ j) → hI h 367 j = hI h0 367 j ∧ hI h 368 j = hI h0 368 j) ∧ (∀ i, i < b → hI h 369 (36 * s + i) = jv i) ∧ (∀ j, (j < 36 * s ∨ 36 * s + 36 ≤ j) → hI h 369 j = hI h0 369 j)
theorem MSat.fr {h0 h h' : AH} {s n a b : Nat} {kd it jv : Nat → Int32} (x : MSat h0 h s n a b kd it jv) (p : Fr mcs nov h h') : MSat h0 h' s n a b kd it jv := by
  have e1 : hI h' 365 = hI h 365 := p.I (by unfold mcs; decide)
  have e2 : hI h' 366 = hI h 366 := p.I (by unfold mcs; decide)
  have e3 : hI h' 367 = hI h 367 := p.I (by unfold mcs; decide)
  have e4 : hI h' 368 = hI h 368 := p.I (by unfold mcs; decide)
  have e5 : hI h' 369 = hI h 369 := p.I (by unfold mcs; decide)
  unfold MSat at x ⊢
  rw [e1, e2, e3, e4, e5]
  exact ⟨x.1.tr (p.mo (by unfold mcs mss; omega) (fun a z => z)), x.2⟩
theorem n36 {s q l : Nat} : 36 * nI s + 3 * nI q + nI l = nI (36 * s + (3 * q + l)) := by
  rw [show (36 : Int32) = nI 36 from rfl, show (3 : Int32) = nI 3 from rfl, nmul, nmul, nadd, nadd]
  congr 1; omega
theorem n12 {s q : Nat} : 12 * nI s + nI q = nI (12 * s + q) := by
  rw [show (12 : Int32) = nI 12 from rfl, nmul, nadd]
theorem w_M_sits_in {d : Nat} (s p pl sd n q : Nat) (tr : Int32) (bd : Nat → Option (List Nat)) (kd it G : Nat → Int32) (jv : Nat → Int32) (h0 : AH) (m0 : MLY h0) (b0 : MBA h0 bd) (hs : s < 25) (hsd : sd < 2147483648) (hq : q < 12) (Q : Option Value → AH → Prop)
    (hjv : ∀ l, l < 3 → jv (3 * q + l) = clp (lnV (wN G (nI (nzN (gi sd (3 * q + l + 1))))) (bd l)))
    (fin : ∀ h', MSat h0 h' s n (q + 1) (3 * q + 3) kd it jv → Wp (d + 3) P_M_sits 112 [.ref 342, .int (nI s), .int (nI p), .int (nI pl), .int (nI sd), .int tr, .long (lN (gi sd (3 * q + 3))), .null, .int (nI q), .int (nI (12 * pl + q)), .int (nI 3)] [] h' Q) : ∀ (r l : Nat) (h : AH), l + r = 3 → MSat h0 h s n (q + 1) (3 * q + l) kd it jv → (∀ i, i < 11 → hI h 363 i = G i) →
    Wp (d + 3) P_M_sits 78 [.ref 342, .int (nI s), .int (nI p), .int (nI pl), .int (nI sd), .int tr, .long (lN (gi sd (3 * q + l))), .null, .int (nI q), .int (nI (12 * pl + q)), .int (nI l)] [] h Q := by
  intro r
  induction r with
  | zero =>
    intro l h e ms g
    have : l = 3 := by omega
    subst this
    have z : (3 : Int32) ≤ nI 3 := by decide
    rw [b_M_sits_78]
    simp only [z, mem20, mem21, mem22, al20, al21, al33, al34, al36, al37, al38, aa33, aa34, aa36, aa37, aa38, true_and, and_true, Int32.reduceOfNat, forall_const, true_implies, implies_true, false_implies, not_true_eq_false, not_false_eq_true]
    exact fin h ms
  | succ r ih =>
    intro l h e ms g
    have z : ¬ (3 : Int32) ≤ nI l := mt (nle (a := 3) (by decide) (by omega)).mp (by omega)
    have m : MLY h := m0.fr ms.1
    have b : MBA h bd := b0.fr ms.1 (by unfold mss; omega)
    have gl := gi_lt hsd (3 * q + l)
    have gl2 := gn_lt (gi sd (3 * q + l))
    have nl := nz_lt (gn (gi sd (3 * q + l)))
    rw [b_M_sits_78]
    simp only [z, b_M_sits_81, l_gn gl, l_nz gl2, l_i32 nl, nz4, nz16, nz31, mo m, mr_35 m, n36, mem20, mem21, mem22, al20, al21, al33, al34, al36, al37, al38, aa33, aa34, aa36, aa37, aa38, true_and, and_true, Int32.reduceOfNat, forall_const, true_implies, implies_true, false_implies, not_true_eq_false, not_false_eq_true]
    refine c_M_jumpOf l _ G (bd l) h m (by omega) g (b l (by omega)).1 (b l (by omega)).2 _ ?_
    intro h1 fr1 g1
    have m1 : MLY h1 := m.fr fr1
    have i1 : ixo (nI (36 * s + (3 * q + l))) 900 = true := nix (by omega) (by decide)
    simp only [Option.toList, List.cons_append, List.nil_append, b_M_sits_109, mk_369 m1, mn_369 m1, i1, cN (show 36 * s + (3 * q + l) < 2147483648 by omega), nI_1, mem20, mem21, mem22, al20, al21, al33, al34, al36, al37, al38, aa33, aa34, aa36, aa37, aa38, true_and, and_true, Int32.reduceOfNat, forall_const, true_implies, implies_true, false_implies, not_true_eq_false, not_false_eq_true]
    have ms1 := ms.fr fr1
    refine ih (l + 1) _ (by omega) ?_ ?_
    · obtain ⟨y1, y2, y3, y4, y5, y6, y7, y8⟩ := ms1
      unfold MSat
      rw [rI_sI (show 365 ≠ 369 by decide), rI_sI (show 366 ≠ 369 by decide), rI_sI (show 367 ≠ 369 by decide), rI_sI (show 368 ≠ 369 by decide)]
      refine ⟨y1.sI (by unfold mss; omega), y2, y3, y4, y5, y6, ?_, ?_⟩
      · intro i hi
        rw [hI_same]
        by_cases qi : i = 3 * q + l
        · rw [if_pos (by omega), qi, hjv l (by omega)]
          rfl
        · rw [if_neg (by omega)]; exact y7 i (by omega)
      · intro j hj
        rw [hI_same, if_neg (by omega)]
        exact y8 j hj
    · intro i hi
      rw [rI_sI (by decide)]
      exact g1 i hi
theorem w_M_sits {d : Nat} (s p pl sd n : Nat) (tr : Int32) (bd : Nat → Option (List Nat)) (h0 : AH) (m0 : MLY h0) (b0 : MBA h0 bd) (hs : s < 25) (hp : p < 8) (hpl : pl < 4) (hsd : sd < 2147483648) (hn : hI h0 353 pl = nI n) (hn2 : n ≤ 12) (it3 : ∀ q, q < n → ¬ hI h0 354 (12 * pl + q) = 3 → hI h0 355 (12 * pl + q) = -1) (ti : 0 ≤ hI h0 342 15) (kd it jv : Nat → Int32) (hkd : kd = fun q => hI h0 354 (12 * pl + q)) (hit : it = fun q => hI h0 355 (12 * pl + q)) (hjv : jv = fun i => jmp bd kd it (hI h0 342 15) (hI h0 349 p) (hI h0 350 p) (hI h0 351 p) tr (i / 3) (i % 3) (nzN (gi sd (i + 1)))) (Q : Option Value → AH → Prop)
    (fin : ∀ h', MSat h0 h' s n n (3 * n) kd it jv → Q none h') : ∀ (r q : Nat) (h : AH) (v9 v10 : Value), q + r = n → MSat h0 h s n q (3 * q) kd it jv →
    Wp (d + 3) P_M_sits 19 [.ref 342, .int (nI s), .int (nI p), .int (nI pl), .int (nI sd), .int tr, .long (lN (gi sd (3 * q))), .null, .int (nI q), v9, v10] [] h Q := by
  have i5 : ixo (nI pl) 5 = true := nix (by omega) (by decide)
  have c5 := cN (n := pl) (by omega)
  intro r
  induction r with
  | zero =>
    intro q h v9 v10 e ms
    have : q = n := by omega
    subst this
    have m : MLY h := m0.fr ms.1
    have e1 : hI h 353 = hI h0 353 := ms.1.I (by unfold mss; omega)
    rw [b_M_sits_19]
    simp only [mo m, mr_16 m, mk_353 m, mn_353 m, i5, c5, e1, hn, Int32.le_refl, b_M_sits_114, mem20, mem21, mem22, al20, al21, al33, al34, al36, al37, al38, aa33, aa34, aa36, aa37, aa38, true_and, and_true, Int32.reduceOfNat, forall_const, true_implies, implies_true, false_implies, not_true_eq_false, not_false_eq_true]
    exact fin h ms
  | succ r ih =>
    intro q h v9 v10 e ms
    have m : MLY h := m0.fr ms.1
    have e1 : hI h 353 = hI h0 353 := ms.1.I (by unfold mss; omega)
    have e2 : hI h 354 = hI h0 354 := ms.1.I (by unfold mss; omega)
    have e3 : hI h 355 = hI h0 355 := ms.1.I (by unfold mss; omega)
    have z : ¬ nI n ≤ nI q := mt (nle (by omega) (by omega)).mp (by omega)
    have i1 : ixo (nI (12 * pl + q)) 60 = true := nix (by omega) (by decide)
    have i2 : ixo (nI (12 * s + q)) 300 = true := nix (by omega) (by decide)
    have c1 := cN (n := 12 * pl + q) (by omega)
    have c2 := cN (n := 12 * s + q) (by omega)
    rw [b_M_sits_19]
    simp only [mo m, mr_16 m, mk_353 m, mn_353 m, i5, c5, e1, hn, z, b_M_sits_25, n12, mr_17 m, mr_18 m, mr_33 m, mr_34 m, mk_354 m, mn_354 m, mk_355 m, mn_355 m, mk_367 m, mn_367 m, mk_368 m, mn_368 m, hI_sI, hJ_sI, hR_sI, hK_sI, hN_sI, hz_sI, hu_sI, hJ_sJ, hI_sJ, hR_sJ, hK_sJ, hN_sJ, hz_sJ, hu_sJ, hR_sR, hI_sR, hJ_sR, hK_sR, hN_sR, hz_sR, hu_sR, i1, i2, c1, c2, show ¬ (355 : Nat) = 367 by decide, if_false, mem20, mem21, mem22, al20, al21, al33, al34, al36, al37, al38, aa33, aa34, aa36, aa37, aa38, true_and, and_true, Int32.reduceOfNat, forall_const, true_implies, implies_true, false_implies, not_true_eq_false, not_false_eq_true, e2, e3]
    have fr1 : Fr mss nov h (sI (sI h 367 (12 * s + q) (hI h0 354 (12 * pl + q))) 368 (12 * s + q) (hI h0 355 (12 * pl + q))) := (Fr.rfl'.sI (by unfold mss; omega)).sI (by unfold mss; omega)
    have ms1 : MSat h0 (sI (sI h 367 (12 * s + q) (hI h0 354 (12 * pl + q))) 368 (12 * s + q) (hI h0 355 (12 * pl + q))) s n (q + 1) (3 * q) kd it jv := by
      obtain ⟨y1, y2, y3, y4, y5, y6, y7, y8⟩ := ms
      unfold MSat
      rw [rI_sI (show 365 ≠ 368 by decide), rI_sI (show 366 ≠ 368 by decide), rI_sI (show 369 ≠ 368 by decide), rI_sI (show 367 ≠ 368 by decide), rI_sI (show 365 ≠ 367 by decide), rI_sI (show 366 ≠ 367 by decide), rI_sI (show 369 ≠ 367 by decide)]
      refine ⟨y1.tr fr1, y2, y3, y4, ?_, ?_, y7, y8⟩
      · intro k hk
        rw [hI_same, hI_same, rI_sI (show 368 ≠ 367 by decide)]
        by_cases qk : k = q
        · rw [if_pos (by omega), if_pos (by omega), qk, hkd, hit]
          exact ⟨rfl, rfl⟩
        · rw [if_neg (by omega), if_neg (by omega)]
          exact y5 k (by omega)
      · intro j hj
        rw [hI_same, hI_same, rI_sI (show 368 ≠ 367 by decide), if_neg (by omega), if_neg (by omega)]
        exact y6 j hj
    generalize sI (sI h 367 (12 * s + q) (hI h0 354 (12 * pl + q))) 368 (12 * s + q) (hI h0 355 (12 * pl + q)) = h1 at fr1 ms1 ⊢
    have m1 : MLY h1 := m.fr fr1
    have f1 : hI h1 354 = hI h0 354 := ms1.1.I (by unfold mss; omega)
    have f2 : hI h1 355 = hI h0 355 := ms1.1.I (by unfold mss; omega)
    have f3 : hI h1 349 = hI h0 349 := ms1.1.I (by unfold mss; omega)
    have f4 : hI h1 350 = hI h0 350 := ms1.1.I (by unfold mss; omega)
    have f5 : hI h1 351 = hI h0 351 := ms1.1.I (by unfold mss; omega)
    have f6 : hI h1 342 = hI h0 342 := ms1.1.I (by unfold mss; omega)
    have i8 : ixo (nI p) 8 = true := nix hp (by decide)
    have c8 := cN (n := p) (by omega)
    simp only [c_M_habitOf pl q h1 m1 (by omega) (by omega), Option.toList, List.cons_append, List.nil_append, b_M_sits_61, mo m1, mr_11 m1, mr_12 m1, mr_13 m1, mk_349 m1, mn_349 m1, mk_350 m1, mn_350 m1, mk_351 m1, mn_351 m1, i8, c8, mem20, mem21, mem22, al20, al21, al33, al34, al36, al37, al38, aa33, aa34, aa36, aa37, aa38, true_and, and_true, Int32.reduceOfNat, forall_const, true_implies, implies_true, false_implies, not_true_eq_false, not_false_eq_true]
    refine c_M_asksOf (12 * pl + q) _ _ _ _ _ _ h1 m1 (by omega) (by rw [f1, f2]; exact it3 q (by omega)) (by rw [f6]; exact ti) _ ?_
    intro h2 fr2 g2
    rw [f1, f2, f3, f4, f5, f6] at g2
    have ms2 : MSat h0 h2 s n (q + 1) (3 * q + 0) kd it jv := ms1.fr (fr2.mo (fun a z => Or.inl z) (fun a z => z))
    simp only [Option.toList, List.cons_append, List.nil_append, b_M_sits_76]
    refine w_M_sits_in s p pl sd n q tr bd kd it _ jv h0 m0 b0 hs hsd (by omega) Q ?_ ?_ 3 0 h2 rfl ms2 g2
    · intro l hl
      have a1 : (3 * q + l) / 3 = q := by omega
      have a2 : (3 * q + l) % 3 = l := by omega
      rw [hjv]
      show jmp bd kd it _ _ _ _ tr ((3 * q + l) / 3) ((3 * q + l) % 3) _ = _
      rw [a1, a2]
      unfold jmp
      rw [hkd, hit]
    · intro h3 ms3
      rw [b_M_sits_112, nI_1]
      have a1 : 3 * (q + 1) = 3 * q + 3 := by omega
      rw [← a1] at ms3
      have := ih (q + 1) h3 (.int (nI (12 * pl + q))) (.int (nI 3)) (by omega) ms3
      rw [a1] at this
      exact this
theorem c_M_sits {d : Nat} (s p pl sd n : Nat) (tr : Int32) (bd : Nat → Option (List Nat)) (h : AH) (m : MLY h) (b : MBA h bd) (hs : s < 25) (hp : p < 8) (hpl : pl < 4) (hsd : sd < 2147483648) (hn : hI h 353 pl = nI n) (hn2 : n ≤ 12) (it3 : ∀ q, q < n → ¬ hI h 354 (12 * pl + q) = 3 → hI h 355 (12 * pl + q) = -1) (ti : 0 ≤ hI h 342 15) (kd it jv : Nat → Int32) (hkd : kd = fun q => hI h 354 (12 * pl + q)) (hit : it = fun q => hI h 355 (12 * pl + q)) (hjv : jv = fun i => jmp bd kd it (hI h 342 15) (hI h 349 p) (hI h 350 p) (hI h 351 p) tr (i / 3) (i % 3) (nzN (gi sd (i + 1)))) (Q : Option Value → AH → Prop)
    (fin : ∀ h', MSat h h' s n n (3 * n) kd it jv → Q none h') : Cl (d + 4) q_M_sits [.ref 342, .int (nI s), .int (nI p), .int (nI pl), .int (nI sd), .int tr] h Q := by
  have i5 : ixo (nI pl) 5 = true := nix (by omega) (by decide)
  have c5 := cN (n := pl) (by omega)
  have i25 : ixo (nI s) 25 = true := nix hs (by decide)
  have c25 := cN (n := s) (by omega)
  rw [e_M_sits, b_M_sits_0]
  simp only [mo m, mr_16 m, mr_31 m, mr_32 m, mk_353 m, mn_353 m, mk_365 m, mn_365 m, mk_366 m, mn_366 m, hI_sI, hJ_sI, hR_sI, hK_sI, hN_sI, hz_sI, hu_sI, hJ_sJ, hI_sJ, hR_sJ, hK_sJ, hN_sJ, hz_sJ, hu_sJ, hR_sR, hI_sR, hJ_sR, hK_sR, hN_sR, hz_sR, hu_sR, i5, c5, i25, c25, hn, show ¬ (342 : Nat) = 365 by decide, if_false, mem20, mem21, mem22, al20, al21, al33, al34, al36, al37, al38, aa33, aa34, aa36, aa37, aa38, true_and, and_true, Int32.reduceOfNat, forall_const, true_implies, implies_true, false_implies, not_true_eq_false, not_false_eq_true]
  have e0 : Int32.toInt64 (nI sd) = lN (gi sd (3 * 0)) := nI_l hsd
  rw [e0]
  refine w_M_sits s p pl sd n tr bd h m b hs hp hpl hsd hn hn2 it3 ti kd it jv hkd hit hjv _ (fun h' f1 => ⟨rtV, fin h' f1⟩) n 0 _ _ _ (by omega) ?_
  unfold MSat
  rw [rI_sI (show 365 ≠ 366 by decide), rI_sI (show 367 ≠ 366 by decide), rI_sI (show 368 ≠ 366 by decide), rI_sI (show 369 ≠ 366 by decide), rI_sI (show 367 ≠ 365 by decide), rI_sI (show 368 ≠ 365 by decide), rI_sI (show 369 ≠ 365 by decide)]
  refine ⟨(Fr.rfl'.sI (by unfold mss; omega)).sI (by unfold mss; omega), by rw [hI_same, if_pos rfl], by rw [hI_same, if_pos rfl], ?_, fun k hk => by omega, fun j hj => ⟨rfl, rfl⟩, fun i hi => by omega, fun j hj => rfl⟩
  intro j hj
  rw [hI_same, hI_same, rI_sI (show 366 ≠ 365 by decide), if_neg hj, if_neg hj]
  exact ⟨rfl, rfl⟩
