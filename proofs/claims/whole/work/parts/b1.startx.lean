--deps: b0.start
/-! THE CLASS'S OWN CONSTRUCTOR -/
section INX
variable {L : Nat} {xs : Nat → Int32} {d z t u r : Nat} {h : AH} {Q : Option Value → AH → Prop}
theorem SZ.cc {z' t' u' : Nat} (s : SZ L xs z t u h) (h1 : z = z') (h2 : t = t') (h3 : u = u') : SZ L xs z' t' u' h := by
  subst h1 h2 h3; exact s
abbrev L_X_ (z t r : Nat) : Prop := (kT z = 33 ∧ nT z = 8) ∧ (WK t = (r, 0, z)) ∧ (kT (z + 1) = 34 ∧ nT (z + 1) = 4) ∧ (WK (t + 1) = (r, 1, (z + 1))) ∧ (kT (z + 2) = 36 ∧ nT (z + 2) = 4) ∧ (WK (t + 2) = (r, 2, (z + 2))) ∧ (kT (z + 3) = 37 ∧ nT (z + 3) = 24) ∧ (WK (t + 3) = (r, 3, (z + 3))) ∧ (kT (z + 4) = 8) ∧ (L_Ta (z + 5) (t + 4) (z + 4)) ∧ (WK (t + 5) = (r, 4, (z + 4))) ∧ (kT (z + 6) = 38 ∧ nT (z + 6) = 4) ∧ (WK (t + 6) = (r, 5, (z + 6))) ∧ (kT (z + 7) = 2) ∧ (L_Pa (z + 8) (t + 7) (z + 7)) ∧ (WK (t + 21) = (r, 6, (z + 7))) ∧ (kT (z + 21) = 0) ∧ (L_Ch (z + 22) (t + 22) (z + 21)) ∧ (WK (t + 29) = (r, 7, (z + 21))) ∧ (kT (z + 29) = 1) ∧ (L_Ju (z + 30) (t + 30) (z + 29)) ∧ (WK (t + 31) = (r, 8, (z + 29))) ∧ (kT (z + 31) = 5) ∧ (L_Pr (z + 32) (t + 32) (z + 31)) ∧ (WK (t + 34) = (r, 9, (z + 31))) ∧ (kT (z + 34) = 7) ∧ (L_Si (z + 35) (t + 35) (z + 34)) ∧ (WK (t + 40) = (r, 10, (z + 34))) ∧ (kT (z + 40) = 3) ∧ (WK (t + 41) = (r, 11, (z + 40))) ∧ (kT (z + 41) = 3) ∧ (WK (t + 42) = (r, 12, (z + 41))) ∧ (kT (z + 42) = 20 ∧ nT (z + 42) = 144) ∧ (WK (t + 43) = (r, 13, (z + 42))) ∧ (kT (z + 43) = 20 ∧ nT (z + 43) = 144) ∧ (WK (t + 44) = (r, 14, (z + 43))) ∧ (kT (z + 44) = 20 ∧ nT (z + 44) = 4) ∧ (WK (t + 45) = (r, 15, (z + 44)))

theorem i_X (s : SZ L xs z t u h) (hr : 100 ≤ r ∧ r < z ∧ kT r = 10) (e : L_X_ z t r) (fin : ∀ h', SZ L xs (z + 45) (t + 46) (u + 8 + 4 + 4 + 24 + 7 + 8 + 4 + 9 + 5 + 1000 + 1001 + 1001 + 4 + 12 + 12 + 12 + 6 + 6 + 6 + 32 + 1000 + 4 + 6 + 6 + 6 + 32 + 0 + 12 + 3 + 1 + 20 + 5 + 1728 + 4 + 3 + 4 + 12 + 12 + 12 + 36 + 5 + 5 + 144 + 144 + 4) h' → Wp (d + 3) P_X_init 74 [.ref r, .null] [] h' (fun r h' => rtk none r = true ∧ Q r h')) : Cl (d + 4) q_X_init [.ref r] h Q := by
  rw [e_X_init, b_X_init_0, Cl_obj hr.1]
  simp only [Option.toList, List.cons_append, List.nil_append]
  refine ⟨(s.k r hr.1 hr.2.1).trans hr.2.2, ?_⟩
  rw [b_X_init_2, s.zz]
  refine ⟨by decide, ?_⟩
  have s := s.mk 33 8 8 ⟨(e.1).1, (e.1).2, by decide⟩
  generalize mkC h 33 (Int32.toNatClampNeg 8) (Int32.toNatClampNeg 8) = h at s ⊢
  rw [b_X_init_5]
  refine ⟨(s.k r hr.1 (by omega)).trans hr.2.2, ?_⟩
  have s := s.sR r 0 z (e.2.1) hr.1 (by omega)
  generalize sR h r 0 z = h at s ⊢
  rw [b_X_init_6, s.zz]
  refine ⟨by decide, ?_⟩
  have s := s.mk 34 4 4 ⟨(e.2.2.1).1, (e.2.2.1).2, by decide⟩
  generalize mkC h 34 (Int32.toNatClampNeg 4) (Int32.toNatClampNeg 4) = h at s ⊢
  rw [b_X_init_9]
  refine ⟨(s.k r hr.1 (by omega)).trans hr.2.2, ?_⟩
  have s := s.sR r 1 (z + 1) (e.2.2.2.1) hr.1 (by omega)
  generalize sR h r 1 (z + 1) = h at s ⊢
  rw [b_X_init_10, s.zz]
  refine ⟨by decide, ?_⟩
  have s := s.mk 36 4 4 ⟨(e.2.2.2.2.1).1, (e.2.2.2.2.1).2, by decide⟩
  generalize mkC h 36 (Int32.toNatClampNeg 4) (Int32.toNatClampNeg 4) = h at s ⊢
  rw [b_X_init_13]
  refine ⟨(s.k r hr.1 (by omega)).trans hr.2.2, ?_⟩
  have s := s.sR r 2 (z + 2) (e.2.2.2.2.2.1) hr.1 (by omega)
  generalize sR h r 2 (z + 2) = h at s ⊢
  rw [b_X_init_14, s.zz]
  refine ⟨by decide, ?_⟩
  have s := s.mk 37 24 24 ⟨(e.2.2.2.2.2.2.1).1, (e.2.2.2.2.2.2.1).2, by decide⟩
  generalize mkC h 37 (Int32.toNatClampNeg 24) (Int32.toNatClampNeg 24) = h at s ⊢
  rw [b_X_init_17]
  refine ⟨(s.k r hr.1 (by omega)).trans hr.2.2, ?_⟩
  have s := s.sR r 3 (z + 3) (e.2.2.2.2.2.2.2.1) hr.1 (by omega)
  generalize sR h r 3 (z + 3) = h at s ⊢
  rw [b_X_init_18, s.zz]
  have s := s.mo 8 7 ⟨(e.2.2.2.2.2.2.2.2.1), by decide⟩
  generalize mkC h 8 0 7 = h at s ⊢
  rw [b_X_init_20]
  refine i_Ta s ⟨by omega, by omega, (e.2.2.2.2.2.2.2.2.1)⟩ (e.2.2.2.2.2.2.2.2.2.1) ?_
  clear s h
  intro h s
  simp only [Option.toList, List.cons_append, List.nil_append]
  rw [b_X_init_22]
  refine ⟨(s.k r hr.1 (by omega)).trans hr.2.2, ?_⟩
  have s := s.sR r 4 (z + 4) (e.2.2.2.2.2.2.2.2.2.2.1) hr.1 (by omega)
  generalize sR h r 4 (z + 4) = h at s ⊢
  rw [b_X_init_23, s.zz]
  refine ⟨by decide, ?_⟩
  have s := s.mk 38 4 4 ⟨(e.2.2.2.2.2.2.2.2.2.2.2.1).1, (e.2.2.2.2.2.2.2.2.2.2.2.1).2, by decide⟩
  generalize mkC h 38 (Int32.toNatClampNeg 4) (Int32.toNatClampNeg 4) = h at s ⊢
  rw [b_X_init_26]
  refine ⟨(s.k r hr.1 (by omega)).trans hr.2.2, ?_⟩
  have s := s.sR r 5 (z + 6) (e.2.2.2.2.2.2.2.2.2.2.2.2.1) hr.1 (by omega)
  generalize sR h r 5 (z + 6) = h at s ⊢
  rw [b_X_init_27, s.zz]
  have s := s.mo 2 9 ⟨(e.2.2.2.2.2.2.2.2.2.2.2.2.2.1), by decide⟩
  generalize mkC h 2 0 9 = h at s ⊢
  rw [b_X_init_29]
  refine i_Pa s ⟨by omega, by omega, (e.2.2.2.2.2.2.2.2.2.2.2.2.2.1)⟩ (e.2.2.2.2.2.2.2.2.2.2.2.2.2.2.1) ?_
  clear s h
  intro h s
  simp only [Option.toList, List.cons_append, List.nil_append]
  rw [b_X_init_31]
  refine ⟨(s.k r hr.1 (by omega)).trans hr.2.2, ?_⟩
  have s := s.sR r 6 (z + 7) (e.2.2.2.2.2.2.2.2.2.2.2.2.2.2.2.1) hr.1 (by omega)
  generalize sR h r 6 (z + 7) = h at s ⊢
  rw [b_X_init_32, s.zz]
  have s := s.mo 0 4 ⟨(e.2.2.2.2.2.2.2.2.2.2.2.2.2.2.2.2.1), by decide⟩
  generalize mkC h 0 0 4 = h at s ⊢
  rw [b_X_init_34]
  refine i_Ch s ⟨by omega, by omega, (e.2.2.2.2.2.2.2.2.2.2.2.2.2.2.2.2.1)⟩ (e.2.2.2.2.2.2.2.2.2.2.2.2.2.2.2.2.2.1) ?_
  clear s h
  intro h s
  simp only [Option.toList, List.cons_append, List.nil_append]
  rw [b_X_init_36]
  refine ⟨(s.k r hr.1 (by omega)).trans hr.2.2, ?_⟩
  have s := s.sR r 7 (z + 21) (e.2.2.2.2.2.2.2.2.2.2.2.2.2.2.2.2.2.2.1) hr.1 (by omega)
  generalize sR h r 7 (z + 21) = h at s ⊢
  rw [b_X_init_37, s.zz]
  have s := s.mo 1 1 ⟨(e.2.2.2.2.2.2.2.2.2.2.2.2.2.2.2.2.2.2.2.1), by decide⟩
  generalize mkC h 1 0 1 = h at s ⊢
  rw [b_X_init_39]
  refine i_Ju s ⟨by omega, by omega, (e.2.2.2.2.2.2.2.2.2.2.2.2.2.2.2.2.2.2.2.1)⟩ (e.2.2.2.2.2.2.2.2.2.2.2.2.2.2.2.2.2.2.2.2.1) ?_
  clear s h
  intro h s
  simp only [Option.toList, List.cons_append, List.nil_append]
  rw [b_X_init_41]
  refine ⟨(s.k r hr.1 (by omega)).trans hr.2.2, ?_⟩
  have s := s.sR r 8 (z + 29) (e.2.2.2.2.2.2.2.2.2.2.2.2.2.2.2.2.2.2.2.2.2.1) hr.1 (by omega)
  generalize sR h r 8 (z + 29) = h at s ⊢
  rw [b_X_init_42, s.zz]
  have s := s.mo 5 5 ⟨(e.2.2.2.2.2.2.2.2.2.2.2.2.2.2.2.2.2.2.2.2.2.2.1), by decide⟩
  generalize mkC h 5 0 5 = h at s ⊢
  rw [b_X_init_44]
  refine i_Pr s ⟨by omega, by omega, (e.2.2.2.2.2.2.2.2.2.2.2.2.2.2.2.2.2.2.2.2.2.2.1)⟩ (e.2.2.2.2.2.2.2.2.2.2.2.2.2.2.2.2.2.2.2.2.2.2.2.1) ?_
  clear s h
  intro h s
  simp only [Option.toList, List.cons_append, List.nil_append]
  rw [b_X_init_46]
  refine ⟨(s.k r hr.1 (by omega)).trans hr.2.2, ?_⟩
  have s := s.sR r 9 (z + 31) (e.2.2.2.2.2.2.2.2.2.2.2.2.2.2.2.2.2.2.2.2.2.2.2.2.1) hr.1 (by omega)
  generalize sR h r 9 (z + 31) = h at s ⊢
  rw [b_X_init_47, s.zz]
  have s := s.mo 7 3 ⟨(e.2.2.2.2.2.2.2.2.2.2.2.2.2.2.2.2.2.2.2.2.2.2.2.2.2.1), by decide⟩
  generalize mkC h 7 0 3 = h at s ⊢
  rw [b_X_init_49]
  refine i_Si s ⟨by omega, by omega, (e.2.2.2.2.2.2.2.2.2.2.2.2.2.2.2.2.2.2.2.2.2.2.2.2.2.1)⟩ (e.2.2.2.2.2.2.2.2.2.2.2.2.2.2.2.2.2.2.2.2.2.2.2.2.2.2.1) ?_
  clear s h
  intro h s
  simp only [Option.toList, List.cons_append, List.nil_append]
  rw [b_X_init_51]
  refine ⟨(s.k r hr.1 (by omega)).trans hr.2.2, ?_⟩
  have s := s.sR r 10 (z + 34) (e.2.2.2.2.2.2.2.2.2.2.2.2.2.2.2.2.2.2.2.2.2.2.2.2.2.2.2.1) hr.1 (by omega)
  generalize sR h r 10 (z + 34) = h at s ⊢
  rw [b_X_init_52, s.zz]
  have s := s.mo 3 5 ⟨(e.2.2.2.2.2.2.2.2.2.2.2.2.2.2.2.2.2.2.2.2.2.2.2.2.2.2.2.2.1), by decide⟩
  generalize mkC h 3 0 5 = h at s ⊢
  rw [b_X_init_54]
  refine i_Pe s ⟨by have := s.1.2.2.1; omega, by omega, (e.2.2.2.2.2.2.2.2.2.2.2.2.2.2.2.2.2.2.2.2.2.2.2.2.2.2.2.2.1)⟩ ?_
  simp only [Option.toList, List.cons_append, List.nil_append]
  rw [b_X_init_56]
  refine ⟨(s.k r hr.1 (by omega)).trans hr.2.2, ?_⟩
  have s := s.sR r 11 (z + 40) (e.2.2.2.2.2.2.2.2.2.2.2.2.2.2.2.2.2.2.2.2.2.2.2.2.2.2.2.2.2.1) hr.1 (by omega)
  generalize sR h r 11 (z + 40) = h at s ⊢
  rw [b_X_init_57, s.zz]
  have s := s.mo 3 5 ⟨(e.2.2.2.2.2.2.2.2.2.2.2.2.2.2.2.2.2.2.2.2.2.2.2.2.2.2.2.2.2.2.1), by decide⟩
  generalize mkC h 3 0 5 = h at s ⊢
  rw [b_X_init_59]
  refine i_Pe s ⟨by have := s.1.2.2.1; omega, by omega, (e.2.2.2.2.2.2.2.2.2.2.2.2.2.2.2.2.2.2.2.2.2.2.2.2.2.2.2.2.2.2.1)⟩ ?_
  simp only [Option.toList, List.cons_append, List.nil_append]
  rw [b_X_init_61]
  refine ⟨(s.k r hr.1 (by omega)).trans hr.2.2, ?_⟩
  have s := s.sR r 12 (z + 41) (e.2.2.2.2.2.2.2.2.2.2.2.2.2.2.2.2.2.2.2.2.2.2.2.2.2.2.2.2.2.2.2.1) hr.1 (by omega)
  generalize sR h r 12 (z + 41) = h at s ⊢
  rw [b_X_init_62, s.zz]
  refine ⟨by decide, ?_⟩
  have s := s.mk 20 144 144 ⟨(e.2.2.2.2.2.2.2.2.2.2.2.2.2.2.2.2.2.2.2.2.2.2.2.2.2.2.2.2.2.2.2.2.1).1, (e.2.2.2.2.2.2.2.2.2.2.2.2.2.2.2.2.2.2.2.2.2.2.2.2.2.2.2.2.2.2.2.2.1).2, by decide⟩
  generalize mkC h 20 (Int32.toNatClampNeg 144) (Int32.toNatClampNeg 144) = h at s ⊢
  rw [b_X_init_65]
  refine ⟨(s.k r hr.1 (by omega)).trans hr.2.2, ?_⟩
  have s := s.sR r 13 (z + 42) (e.2.2.2.2.2.2.2.2.2.2.2.2.2.2.2.2.2.2.2.2.2.2.2.2.2.2.2.2.2.2.2.2.2.1) hr.1 (by omega)
  generalize sR h r 13 (z + 42) = h at s ⊢
  rw [b_X_init_66, s.zz]
  refine ⟨by decide, ?_⟩
  have s := s.mk 20 144 144 ⟨(e.2.2.2.2.2.2.2.2.2.2.2.2.2.2.2.2.2.2.2.2.2.2.2.2.2.2.2.2.2.2.2.2.2.2.1).1, (e.2.2.2.2.2.2.2.2.2.2.2.2.2.2.2.2.2.2.2.2.2.2.2.2.2.2.2.2.2.2.2.2.2.2.1).2, by decide⟩
  generalize mkC h 20 (Int32.toNatClampNeg 144) (Int32.toNatClampNeg 144) = h at s ⊢
  rw [b_X_init_69]
  refine ⟨(s.k r hr.1 (by omega)).trans hr.2.2, ?_⟩
  have s := s.sR r 14 (z + 43) (e.2.2.2.2.2.2.2.2.2.2.2.2.2.2.2.2.2.2.2.2.2.2.2.2.2.2.2.2.2.2.2.2.2.2.2.1) hr.1 (by omega)
  generalize sR h r 14 (z + 43) = h at s ⊢
  rw [b_X_init_70, s.zz]
  refine ⟨by decide, ?_⟩
  have s := s.mk 20 4 4 ⟨(e.2.2.2.2.2.2.2.2.2.2.2.2.2.2.2.2.2.2.2.2.2.2.2.2.2.2.2.2.2.2.2.2.2.2.2.2.1).1, (e.2.2.2.2.2.2.2.2.2.2.2.2.2.2.2.2.2.2.2.2.2.2.2.2.2.2.2.2.2.2.2.2.2.2.2.2.1).2, by decide⟩
  generalize mkC h 20 (Int32.toNatClampNeg 4) (Int32.toNatClampNeg 4) = h at s ⊢
  rw [b_X_init_73]
  refine ⟨(s.k r hr.1 (by omega)).trans hr.2.2, ?_⟩
  have s := s.sR r 15 (z + 44) (e.2.2.2.2.2.2.2.2.2.2.2.2.2.2.2.2.2.2.2.2.2.2.2.2.2.2.2.2.2.2.2.2.2.2.2.2.2) hr.1 (by omega)
  generalize sR h r 15 (z + 44) = h at s ⊢
  exact fin h s
theorem lk_persons : ∀ k, k < 8 → kT (146 + 1 * k) = 3 ∧ (True) ∧ WK ((46 + 1 * k) + 0) = (101, k, (146 + 1 * k)) := by decide +kernel
theorem lp_persons (fin : ∀ h', SZ L xs (146 + 1 * 8) (46 + 1 * 8) (u + 5 * 8) h' → Wp (d + 3) P_X_init 90 [.ref 100, .int (nI 8)] [] h' Q) : ∀ (m k : Nat) (h : AH), k + m = 8 → SZ L xs (146 + 1 * k) (46 + 1 * k) (u + 5 * k) h → Wp (d + 3) P_X_init 76 [.ref 100, .int (nI k)] [] h Q := by
  intro m
  induction m with
  | zero =>
    intro k h e s
    have : k = 8 := by omega
    subst this
    have r0 : hR h 100 0 = 101 := s.r 0 (by omega) (by decide +kernel)
    have k0 : hK h 100 = 10 := (s.k 100 (by omega) (by omega)).trans (by decide +kernel)
    have k1 : hK h 101 = 33 := (s.k 101 (by omega) (by omega)).trans (by decide +kernel)
    have n1 : hN h 101 = 8 := (s.n 101 (by omega) (by omega) (by decide +kernel)).trans (by decide +kernel)
    have w : (8 : Int32) ≤ nI 8 := by decide
    rw [b_X_init_76]
    simp only [k0, r0, k1, n1, w, mem20, mem21, mem22, al20, al21, al33, al34, al36, al37, al38, aa33, aa34, aa36, aa37, aa38, true_and, and_true, Int32.reduceOfNat, forall_const, true_implies, implies_true, false_implies, not_true_eq_false, not_false_eq_true]
    exact fin h s
  | succ m ih =>
    intro k h e s
    have r0 : hR h 100 0 = 101 := s.r 0 (by omega) (by decide +kernel)
    have k0 : hK h 100 = 10 := (s.k 100 (by omega) (by omega)).trans (by decide +kernel)
    have k1 : hK h 101 = 33 := (s.k 101 (by omega) (by omega)).trans (by decide +kernel)
    have n1 : hN h 101 = 8 := (s.n 101 (by omega) (by omega) (by decide +kernel)).trans (by decide +kernel)
    have w : ¬ (8 : Int32) ≤ nI k := mt (nle (a := 8) (by decide) (by omega)).mp (by omega)
    obtain ⟨l1, l2, l3⟩ := lk_persons k (by omega)
    rw [b_X_init_76]
    simp only [k0, r0, k1, n1, w, b_X_init_81, s.zz, mem20, mem21, mem22, al20, al21, al33, al34, al36, al37, al38, aa33, aa34, aa36, aa37, aa38, true_and, and_true, Int32.reduceOfNat, forall_const, true_implies, implies_true, false_implies, not_true_eq_false, not_false_eq_true]
    have s := s.mo 3 5 ⟨l1, by decide⟩
    generalize mkC h 3 0 5 = h at s ⊢
    rw [b_X_init_85]
    refine i_Pe s ⟨by omega, by omega, l1⟩ ?_
    simp only [Option.toList, List.cons_append, List.nil_append]
    rw [b_X_init_87]
    have k2 : hK h 101 = 33 := (s.k 101 (by omega) (by omega)).trans (by decide +kernel)
    have k3 : hK h (146 + 1 * k) = 3 := (s.k _ (by omega) (by omega)).trans l1
    have n2 : hN h 101 = 8 := (s.n 101 (by omega) (by omega) (by decide +kernel)).trans (by decide +kernel)
    refine ⟨⟨⟨by rw [k2]; decide, by rw [k2]; decide, by rw [k2, k3], by omega, by rw [s.zz]; omega⟩, by rw [n2]; exact nix (by omega) (by decide)⟩, ?_⟩
    rw [cN (show k < 2147483648 by omega), nI_1]
    have s := s.sR 101 k (146 + 1 * k) l3 (by omega) (by omega)
    exact ih (k + 1) _ (by omega) (s.cc (by omega) (by omega) (by omega))
theorem lk_plans : ∀ k, k < 4 → kT (154 + 4 * k) = 4 ∧ (L_Pl ((154 + 4 * k) + 1) (54 + 4 * k) (154 + 4 * k)) ∧ WK ((54 + 4 * k) + 3) = (102, k, (154 + 4 * k)) := by decide +kernel
theorem lp_plans (fin : ∀ h', SZ L xs (154 + 4 * 4) (54 + 4 * 4) (u + 40 * 4) h' → Wp (d + 3) P_X_init 106 [.ref 100, .int (nI 4)] [] h' Q) : ∀ (m k : Nat) (h : AH), k + m = 4 → SZ L xs (154 + 4 * k) (54 + 4 * k) (u + 40 * k) h → Wp (d + 3) P_X_init 92 [.ref 100, .int (nI k)] [] h Q := by
  intro m
  induction m with
  | zero =>
    intro k h e s
    have : k = 4 := by omega
    subst this
    have r0 : hR h 100 1 = 102 := s.r 1 (by omega) (by decide +kernel)
    have k0 : hK h 100 = 10 := (s.k 100 (by omega) (by omega)).trans (by decide +kernel)
    have k1 : hK h 102 = 34 := (s.k 102 (by omega) (by omega)).trans (by decide +kernel)
    have n1 : hN h 102 = 4 := (s.n 102 (by omega) (by omega) (by decide +kernel)).trans (by decide +kernel)
    have w : (4 : Int32) ≤ nI 4 := by decide
    rw [b_X_init_92]
    simp only [k0, r0, k1, n1, w, mem20, mem21, mem22, al20, al21, al33, al34, al36, al37, al38, aa33, aa34, aa36, aa37, aa38, true_and, and_true, Int32.reduceOfNat, forall_const, true_implies, implies_true, false_implies, not_true_eq_false, not_false_eq_true]
    exact fin h s
  | succ m ih =>
    intro k h e s
    have r0 : hR h 100 1 = 102 := s.r 1 (by omega) (by decide +kernel)
    have k0 : hK h 100 = 10 := (s.k 100 (by omega) (by omega)).trans (by decide +kernel)
    have k1 : hK h 102 = 34 := (s.k 102 (by omega) (by omega)).trans (by decide +kernel)
    have n1 : hN h 102 = 4 := (s.n 102 (by omega) (by omega) (by decide +kernel)).trans (by decide +kernel)
    have w : ¬ (4 : Int32) ≤ nI k := mt (nle (a := 4) (by decide) (by omega)).mp (by omega)
    obtain ⟨l1, l2, l3⟩ := lk_plans k (by omega)
    rw [b_X_init_92]
    simp only [k0, r0, k1, n1, w, b_X_init_97, s.zz, mem20, mem21, mem22, al20, al21, al33, al34, al36, al37, al38, aa33, aa34, aa36, aa37, aa38, true_and, and_true, Int32.reduceOfNat, forall_const, true_implies, implies_true, false_implies, not_true_eq_false, not_false_eq_true]
    have s := s.mo 4 4 ⟨l1, by decide⟩
    generalize mkC h 4 0 4 = h at s ⊢
    rw [b_X_init_101]
    refine i_Pl s ⟨by omega, by omega, l1⟩ l2 ?_
    clear s h r0 k0 k1 n1
    intro h s
    simp only [Option.toList, List.cons_append, List.nil_append]
    rw [b_X_init_103]
    have k2 : hK h 102 = 34 := (s.k 102 (by omega) (by omega)).trans (by decide +kernel)
    have k3 : hK h (154 + 4 * k) = 4 := (s.k _ (by omega) (by omega)).trans l1
    have n2 : hN h 102 = 4 := (s.n 102 (by omega) (by omega) (by decide +kernel)).trans (by decide +kernel)
    refine ⟨⟨⟨by rw [k2]; decide, by rw [k2]; decide, by rw [k2, k3], by omega, by rw [s.zz]; omega⟩, by rw [n2]; exact nix (by omega) (by decide)⟩, ?_⟩
    rw [cN (show k < 2147483648 by omega), nI_1]
    have s := s.sR 102 k (154 + 4 * k) l3 (by omega) (by omega)
    exact ih (k + 1) _ (by omega) (s.cc (by omega) (by omega) (by omega))
theorem lk_readers : ∀ k, k < 4 → kT (170 + 5 * k) = 6 ∧ (L_Pg ((170 + 5 * k) + 1) (70 + 5 * k) (170 + 5 * k) 0) ∧ WK ((70 + 5 * k) + 4) = (103, k, (170 + 5 * k)) := by decide +kernel
theorem lp_readers (fin : ∀ h', SZ L xs (170 + 5 * 4) (70 + 5 * 4) (u + 50 * 4) h' → Wp (d + 3) P_X_init 123 [.ref 100, .int (nI 4)] [] h' Q) : ∀ (m k : Nat) (h : AH), k + m = 4 → SZ L xs (170 + 5 * k) (70 + 5 * k) (u + 50 * k) h → Wp (d + 3) P_X_init 108 [.ref 100, .int (nI k)] [] h Q := by
  intro m
  induction m with
  | zero =>
    intro k h e s
    have : k = 4 := by omega
    subst this
    have r0 : hR h 100 2 = 103 := s.r 2 (by omega) (by decide +kernel)
    have k0 : hK h 100 = 10 := (s.k 100 (by omega) (by omega)).trans (by decide +kernel)
    have k1 : hK h 103 = 36 := (s.k 103 (by omega) (by omega)).trans (by decide +kernel)
    have n1 : hN h 103 = 4 := (s.n 103 (by omega) (by omega) (by decide +kernel)).trans (by decide +kernel)
    have w : (4 : Int32) ≤ nI 4 := by decide
    rw [b_X_init_108]
    simp only [k0, r0, k1, n1, w, mem20, mem21, mem22, al20, al21, al33, al34, al36, al37, al38, aa33, aa34, aa36, aa37, aa38, true_and, and_true, Int32.reduceOfNat, forall_const, true_implies, implies_true, false_implies, not_true_eq_false, not_false_eq_true]
    exact fin h s
  | succ m ih =>
    intro k h e s
    have r0 : hR h 100 2 = 103 := s.r 2 (by omega) (by decide +kernel)
    have k0 : hK h 100 = 10 := (s.k 100 (by omega) (by omega)).trans (by decide +kernel)
    have k1 : hK h 103 = 36 := (s.k 103 (by omega) (by omega)).trans (by decide +kernel)
    have n1 : hN h 103 = 4 := (s.n 103 (by omega) (by omega) (by decide +kernel)).trans (by decide +kernel)
    have w : ¬ (4 : Int32) ≤ nI k := mt (nle (a := 4) (by decide) (by omega)).mp (by omega)
    obtain ⟨l1, l2, l3⟩ := lk_readers k (by omega)
    rw [b_X_init_108]
    simp only [k0, r0, k1, n1, w, b_X_init_113, s.zz, mem20, mem21, mem22, al20, al21, al33, al34, al36, al37, al38, aa33, aa34, aa36, aa37, aa38, true_and, and_true, Int32.reduceOfNat, forall_const, true_implies, implies_true, false_implies, not_true_eq_false, not_false_eq_true]
    have s := s.mo 6 6 ⟨l1, by decide⟩
    generalize mkC h 6 0 6 = h at s ⊢
    rw [b_X_init_117]
    refine i_Pg (x := 0) (n0 := 0) (by decide) (by decide) s ⟨by omega, by omega, l1⟩ l2 ?_
    clear s h r0 k0 k1 n1
    intro h s
    simp only [Option.toList, List.cons_append, List.nil_append]
    rw [b_X_init_120]
    have k2 : hK h 103 = 36 := (s.k 103 (by omega) (by omega)).trans (by decide +kernel)
    have k3 : hK h (170 + 5 * k) = 6 := (s.k _ (by omega) (by omega)).trans l1
    have n2 : hN h 103 = 4 := (s.n 103 (by omega) (by omega) (by decide +kernel)).trans (by decide +kernel)
    refine ⟨⟨⟨by rw [k2]; decide, by rw [k2]; decide, by rw [k2, k3], by omega, by rw [s.zz]; omega⟩, by rw [n2]; exact nix (by omega) (by decide)⟩, ?_⟩
    rw [cN (show k < 2147483648 by omega), nI_1]
    have s := s.sR 103 k (170 + 5 * k) l3 (by omega) (by omega)
    exact ih (k + 1) _ (by omega) (s.cc (by omega) (by omega) (by omega))
theorem lk_sittings : ∀ k, k < 24 → kT (190 + 6 * k) = 7 ∧ (L_Si ((190 + 6 * k) + 1) (90 + 6 * k) (190 + 6 * k)) ∧ WK ((90 + 6 * k) + 5) = (104, k, (190 + 6 * k)) := by decide +kernel
theorem lp_sittings (fin : ∀ h', SZ L xs (190 + 6 * 24) (90 + 6 * 24) (u + 79 * 24) h' → Wp (d + 3) P_X_init 139 [.ref 100, .int (nI 24)] [] h' Q) : ∀ (m k : Nat) (h : AH), k + m = 24 → SZ L xs (190 + 6 * k) (90 + 6 * k) (u + 79 * k) h → Wp (d + 3) P_X_init 125 [.ref 100, .int (nI k)] [] h Q := by
  intro m
  induction m with
  | zero =>
    intro k h e s
    have : k = 24 := by omega
    subst this
    have r0 : hR h 100 3 = 104 := s.r 3 (by omega) (by decide +kernel)
    have k0 : hK h 100 = 10 := (s.k 100 (by omega) (by omega)).trans (by decide +kernel)
    have k1 : hK h 104 = 37 := (s.k 104 (by omega) (by omega)).trans (by decide +kernel)
    have n1 : hN h 104 = 24 := (s.n 104 (by omega) (by omega) (by decide +kernel)).trans (by decide +kernel)
    have w : (24 : Int32) ≤ nI 24 := by decide
    rw [b_X_init_125]
    simp only [k0, r0, k1, n1, w, mem20, mem21, mem22, al20, al21, al33, al34, al36, al37, al38, aa33, aa34, aa36, aa37, aa38, true_and, and_true, Int32.reduceOfNat, forall_const, true_implies, implies_true, false_implies, not_true_eq_false, not_false_eq_true]
    exact fin h s
  | succ m ih =>
    intro k h e s
    have r0 : hR h 100 3 = 104 := s.r 3 (by omega) (by decide +kernel)
    have k0 : hK h 100 = 10 := (s.k 100 (by omega) (by omega)).trans (by decide +kernel)
    have k1 : hK h 104 = 37 := (s.k 104 (by omega) (by omega)).trans (by decide +kernel)
    have n1 : hN h 104 = 24 := (s.n 104 (by omega) (by omega) (by decide +kernel)).trans (by decide +kernel)
    have w : ¬ (24 : Int32) ≤ nI k := mt (nle (a := 24) (by decide) (by omega)).mp (by omega)
    obtain ⟨l1, l2, l3⟩ := lk_sittings k (by omega)
    rw [b_X_init_125]
    simp only [k0, r0, k1, n1, w, b_X_init_130, s.zz, mem20, mem21, mem22, al20, al21, al33, al34, al36, al37, al38, aa33, aa34, aa36, aa37, aa38, true_and, and_true, Int32.reduceOfNat, forall_const, true_implies, implies_true, false_implies, not_true_eq_false, not_false_eq_true]
    have s := s.mo 7 3 ⟨l1, by decide⟩
    generalize mkC h 7 0 3 = h at s ⊢
    rw [b_X_init_134]
    refine i_Si s ⟨by omega, by omega, l1⟩ l2 ?_
    clear s h r0 k0 k1 n1
    intro h s
    simp only [Option.toList, List.cons_append, List.nil_append]
    rw [b_X_init_136]
    have k2 : hK h 104 = 37 := (s.k 104 (by omega) (by omega)).trans (by decide +kernel)
    have k3 : hK h (190 + 6 * k) = 7 := (s.k _ (by omega) (by omega)).trans l1
    have n2 : hN h 104 = 24 := (s.n 104 (by omega) (by omega) (by decide +kernel)).trans (by decide +kernel)
    refine ⟨⟨⟨by rw [k2]; decide, by rw [k2]; decide, by rw [k2, k3], by omega, by rw [s.zz]; omega⟩, by rw [n2]; exact nix (by omega) (by decide)⟩, ?_⟩
    rw [cN (show k < 2147483648 by omega), nI_1]
    have s := s.sR 104 k (190 + 6 * k) l3 (by omega) (by omega)
    exact ih (k + 1) _ (by omega) (s.cc (by omega) (by omega) (by omega))
theorem lk_marks : ∀ k, k < 4 → kT (334 + 2 * k) = 8 ∧ (L_Ta ((334 + 2 * k) + 1) (234 + 2 * k) (334 + 2 * k)) ∧ WK ((234 + 2 * k) + 1) = (107, k, (334 + 2 * k)) := by decide +kernel
theorem lp_marks (fin : ∀ h', SZ L xs (334 + 2 * 4) (234 + 2 * 4) (u + 15 * 4) h' → Wp (d + 3) P_X_init 155 [.ref 100, .int (nI 4)] [] h' Q) : ∀ (m k : Nat) (h : AH), k + m = 4 → SZ L xs (334 + 2 * k) (234 + 2 * k) (u + 15 * k) h → Wp (d + 3) P_X_init 141 [.ref 100, .int (nI k)] [] h Q := by
  intro m
  induction m with
  | zero =>
    intro k h e s
    have : k = 4 := by omega
    subst this
    have r0 : hR h 100 5 = 107 := s.r 6 (by omega) (by decide +kernel)
    have k0 : hK h 100 = 10 := (s.k 100 (by omega) (by omega)).trans (by decide +kernel)
    have k1 : hK h 107 = 38 := (s.k 107 (by omega) (by omega)).trans (by decide +kernel)
    have n1 : hN h 107 = 4 := (s.n 107 (by omega) (by omega) (by decide +kernel)).trans (by decide +kernel)
    have w : (4 : Int32) ≤ nI 4 := by decide
    rw [b_X_init_141]
    simp only [k0, r0, k1, n1, w, mem20, mem21, mem22, al20, al21, al33, al34, al36, al37, al38, aa33, aa34, aa36, aa37, aa38, true_and, and_true, Int32.reduceOfNat, forall_const, true_implies, implies_true, false_implies, not_true_eq_false, not_false_eq_true]
    exact fin h s
  | succ m ih =>
    intro k h e s
    have r0 : hR h 100 5 = 107 := s.r 6 (by omega) (by decide +kernel)
    have k0 : hK h 100 = 10 := (s.k 100 (by omega) (by omega)).trans (by decide +kernel)
    have k1 : hK h 107 = 38 := (s.k 107 (by omega) (by omega)).trans (by decide +kernel)
    have n1 : hN h 107 = 4 := (s.n 107 (by omega) (by omega) (by decide +kernel)).trans (by decide +kernel)
    have w : ¬ (4 : Int32) ≤ nI k := mt (nle (a := 4) (by decide) (by omega)).mp (by omega)
    obtain ⟨l1, l2, l3⟩ := lk_marks k (by omega)
    rw [b_X_init_141]
    simp only [k0, r0, k1, n1, w, b_X_init_146, s.zz, mem20, mem21, mem22, al20, al21, al33, al34, al36, al37, al38, aa33, aa34, aa36, aa37, aa38, true_and, and_true, Int32.reduceOfNat, forall_const, true_implies, implies_true, false_implies, not_true_eq_false, not_false_eq_true]
    have s := s.mo 8 7 ⟨l1, by decide⟩
    generalize mkC h 8 0 7 = h at s ⊢
    rw [b_X_init_150]
    refine i_Ta s ⟨by omega, by omega, l1⟩ l2 ?_
    clear s h r0 k0 k1 n1
    intro h s
    simp only [Option.toList, List.cons_append, List.nil_append]
    rw [b_X_init_152]
    have k2 : hK h 107 = 38 := (s.k 107 (by omega) (by omega)).trans (by decide +kernel)
    have k3 : hK h (334 + 2 * k) = 8 := (s.k _ (by omega) (by omega)).trans l1
    have n2 : hN h 107 = 4 := (s.n 107 (by omega) (by omega) (by decide +kernel)).trans (by decide +kernel)
    refine ⟨⟨⟨by rw [k2]; decide, by rw [k2]; decide, by rw [k2, k3], by omega, by rw [s.zz]; omega⟩, by rw [n2]; exact nix (by omega) (by decide)⟩, ?_⟩
    rw [cN (show k < 2147483648 by omega), nI_1]
    have s := s.sR 107 k (334 + 2 * k) l3 (by omega) (by omega)
    exact ih (k + 1) _ (by omega) (s.cc (by omega) (by omega) (by omega))
theorem i_X0 : L_X_ 101 0 100 := by
  repeat' apply And.intro
  all_goals decide +kernel
theorem c_X_init (s : SZ L xs 101 0 16 h) (fin : ∀ h', SZ L xs 342 242 8745 h' → Q none h') : Cl (d + 4) q_X_init [.ref 100] h Q := by
  refine i_X s ⟨by omega, by omega, by decide +kernel⟩ i_X0 ?_
  intro h1 s1
  rw [b_X_init_74]
  refine lp_persons (u := 6389) ?_ 8 0 h1 rfl (s1.cc (by omega) (by omega) (by omega))
  intro h2 s2
  rw [b_X_init_90]
  refine lp_plans (u := 6429) ?_ 4 0 h2 rfl (s2.cc (by omega) (by omega) (by omega))
  intro h3 s3
  rw [b_X_init_106]
  refine lp_readers (u := 6589) ?_ 4 0 h3 rfl (s3.cc (by omega) (by omega) (by omega))
  intro h4 s4
  rw [b_X_init_123]
  refine lp_sittings (u := 6789) ?_ 24 0 h4 rfl (s4.cc (by omega) (by omega) (by omega))
  intro h5 s5
  rw [b_X_init_139]
  refine lp_marks (u := 8685) ?_ 4 0 h5 rfl (s5.cc (by omega) (by omega) (by omega))
  intro h6 s6
  rw [b_X_init_155]
  exact ⟨rtV, fin h6 (s6.cc (by omega) (by omega) (by omega))⟩
end INX
