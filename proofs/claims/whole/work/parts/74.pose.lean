--deps: 73.eval
/-! THE FACTS OF A BODY AT A QUESTION -/
/-- two roads that meet with a value on top -/
theorem jW {d : Nat} {P : List IR} {i : Nat} {L S : List Value} {h : AH} {Q : Option Value → AH → Prop} {c : Prop} [Decidable c] {a b : Int32} : ((c → Wp d P i L (.int a :: S) h Q) ∧ (¬ c → Wp d P i L (.int b :: S) h Q)) ↔ Wp d P i L (.int (if c then a else b) :: S) h Q := by
  by_cases q : c <;> simp [q]
theorem iz (c : Prop) [Decidable c] : ((if c then (1 : Int32) else 0) = 0) ↔ ¬ c := by
  by_cases q : c <;> simp [q]
theorem iz' (c : Prop) [Decidable c] : ((if c then (0 : Int32) else 1) = 0) ↔ c := by
  by_cases q : c <;> simp [q]
def bF (k it ti fe dn hd tr hb pc : Int32) (i : Nat) : Int32 := match i with
  | 0 => if k = 0 then 1 else 0
  | 1 => if k = 1 then 1 else 0
  | 2 => if k = 2 then 1 else 0
  | 3 => if k = 3 then 1 else 0
  | 4 => if k = 3 ∧ it = ti then 1 else 0
  | 5 => if (k = 3 ∧ (hd >>> (it &&& 31)) &&& 1 = 1) ∨ ((k = 3 ∧ it = ti) ∧ ¬ dn = 0) then 1 else 0
  | 6 => fe
  | 7 => if dn = 0 then 0 else 1
  | 8 => if ¬ tr = 0 ∧ k = 0 then 1 else 0
  | 9 => hb
  | _ => pc
theorem tn4 : Int32.toNatClampNeg 4 = 4 := by decide
theorem tn5 : Int32.toNatClampNeg 5 = 5 := by decide
theorem tn6 : Int32.toNatClampNeg 6 = 6 := by decide
theorem tn7 : Int32.toNatClampNeg 7 = 7 := by decide
theorem tn8 : Int32.toNatClampNeg 8 = 8 := by decide
theorem tn9 : Int32.toNatClampNeg 9 = 9 := by decide
theorem tn10 : Int32.toNatClampNeg 10 = 10 := by decide
theorem tn11 : Int32.toNatClampNeg 11 = 11 := by decide
theorem tn0 : Int32.toNatClampNeg 0 = 0 := by decide
theorem tn1 : Int32.toNatClampNeg 1 = 1 := by decide
theorem tn2 : Int32.toNatClampNeg 2 = 2 := by decide
theorem tn3 : Int32.toNatClampNeg 3 = 3 := by decide
theorem ixl0 : ixo 0 12 = true := by decide
theorem ixl1 : ixo 1 12 = true := by decide
theorem ixl2 : ixo 2 12 = true := by decide
theorem ixl3 : ixo 3 12 = true := by decide
theorem ixl4 : ixo 4 12 = true := by decide
theorem ixl5 : ixo 5 12 = true := by decide
theorem ixl6 : ixo 6 12 = true := by decide
theorem ixl7 : ixo 7 12 = true := by decide
theorem ixl8 : ixo 8 12 = true := by decide
theorem ixl9 : ixo 9 12 = true := by decide
theorem ixl10 : ixo 10 12 = true := by decide
theorem ixl11 : ixo 11 12 = true := by decide
theorem ixm0 : ixo 0 20 = true := by decide
theorem ixm1 : ixo 1 20 = true := by decide
theorem ixm2 : ixo 2 20 = true := by decide
theorem ixm3 : ixo 3 20 = true := by decide
theorem ixm4 : ixo 4 20 = true := by decide
theorem ixm5 : ixo 5 20 = true := by decide
theorem ixm6 : ixo 6 20 = true := by decide
theorem ixm7 : ixo 7 20 = true := by decide
theorem ixm8 : ixo 8 20 = true := by decide
theorem ixm9 : ixo 9 20 = true := by decide
theorem ixm10 : ixo 10 20 = true := by decide
theorem ixm11 : ixo 11 20 = true := by decide
theorem ixm12 : ixo 12 20 = true := by decide
theorem ixm13 : ixo 13 20 = true := by decide
theorem ixm14 : ixo 14 20 = true := by decide
theorem ixm15 : ixo 15 20 = true := by decide
theorem ixm16 : ixo 16 20 = true := by decide
theorem ixm17 : ixo 17 20 = true := by decide
theorem ixm18 : ixo 18 20 = true := by decide
theorem ixm19 : ixo 19 20 = true := by decide
theorem Fs1 {c j : Nat} {T : Nat → Prop} {v : Int32} {h h' : AH} (p : Fr (onl c) T h h') : Fr (onl c) T h (sI h' c j v) := p.sI rfl
theorem c_Ch_pose {d : Nat} (pe pl n q : Nat) (hb pc : Int32) (h : AH) (x : XLY h) (hp : hK h pe = 3) (y : PLN h pl) (hn : hI h pl 3 = nI n) (hn2 : n ≤ 12) (hq : q < n) (Q : Option Value → AH → Prop)
    (hQ : ∀ h', Fr (onl 128) nov h h' → (∀ i, i < 11 → hI h' 128 i = bF (hI h (pl + 1) q) (hI h (pl + 2) q) (hI h 122 3) (hI h pe 1) (hI h pe 2) (hI h pe 3) (hI h pe 4) hb pc i) → Q none h') : Cl (d + 2) q_Ch_pose [.ref 122, .ref pe, .ref pl, .int (nI q), .int hb, .int pc] h Q := by
  have pe1 : pe ≠ 128 := by
    intro z; rw [z, xk_128 x] at hp; cases hp
  have n122 : (122 : Nat) ≠ 128 := by decide
  rw [e_Ch_pose, b_Ch_pose_0]
  refine ⟨xk_122 x, ?_⟩
  simp only [c_Pl_kindAt pl _ h y, c_Pl_itemAt pl _ h y, Option.toList, List.cons_append, List.nil_append, b_Ch_pose_3, hn, pAt_n _ hq hn2]
  generalize ek : hI h (pl + 1) q = k at *
  generalize ei : hI h (pl + 2) q = it at *
  simp only [b_Ch_pose_7, b_Ch_pose_11, b_Ch_pose_13, jW]
  simp only [b_Ch_pose_14, b_Ch_pose_17, b_Ch_pose_21, b_Ch_pose_23, jW, xk_122 x, true_and, iz']
  simp only [b_Ch_pose_24, b_Ch_pose_27, b_Ch_pose_35, b_Ch_pose_37, b_Ch_pose_40, b_Ch_pose_42, jW, hp, true_and, iz']
  simp only [b_Ch_pose_43, b_Ch_pose_46, b_Ch_pose_49, b_Ch_pose_54, b_Ch_pose_60, b_Ch_pose_62, jW, xk_122 x, xr_122_1 x, xk_128 x, xn_128 x, mem20, mem21, mem22, al20, al21, al33, al34, al36, al37, al38, aa33, aa34, aa36, aa37, aa38, true_and, and_true, Int32.reduceOfNat, forall_const, true_implies, implies_true, false_implies, not_true_eq_false, not_false_eq_true, Int32.reduceLE]
  rw [b_Ch_pose_63]
  simp only [b_Ch_pose_46, b_Ch_pose_49, b_Ch_pose_54, b_Ch_pose_60, b_Ch_pose_62, jW, xk_122 x, xr_122_1 x, xk_128 x, xn_128 x, hI_sI, hJ_sI, hR_sI, hK_sI, hN_sI, hz_sI, hu_sI, hJ_sJ, hI_sJ, hR_sJ, hK_sJ, hN_sJ, hz_sJ, hu_sJ, hR_sR, hI_sR, hJ_sR, hK_sR, hN_sR, hz_sR, hu_sR, ixl0, ixl1, ixl2, ixl3, mem20, mem21, mem22, al20, al21, al33, al34, al36, al37, al38, aa33, aa34, aa36, aa37, aa38, true_and, and_true, Int32.reduceOfNat, forall_const, true_implies, implies_true, false_implies, not_true_eq_false, not_false_eq_true, Int32.reduceLE, Int32.reduceAdd]
  rw [b_Ch_pose_63]
  simp only [b_Ch_pose_46, b_Ch_pose_49, b_Ch_pose_54, b_Ch_pose_60, b_Ch_pose_62, jW, xk_122 x, xr_122_1 x, xk_128 x, xn_128 x, hI_sI, hJ_sI, hR_sI, hK_sI, hN_sI, hz_sI, hu_sI, hJ_sJ, hI_sJ, hR_sJ, hK_sJ, hN_sJ, hz_sJ, hu_sJ, hR_sR, hI_sR, hJ_sR, hK_sR, hN_sR, hz_sR, hu_sR, ixl0, ixl1, ixl2, ixl3, mem20, mem21, mem22, al20, al21, al33, al34, al36, al37, al38, aa33, aa34, aa36, aa37, aa38, true_and, and_true, Int32.reduceOfNat, forall_const, true_implies, implies_true, false_implies, not_true_eq_false, not_false_eq_true, Int32.reduceLE, Int32.reduceAdd]
  rw [b_Ch_pose_63]
  simp only [b_Ch_pose_46, b_Ch_pose_49, b_Ch_pose_54, b_Ch_pose_60, b_Ch_pose_62, jW, xk_122 x, xr_122_1 x, xk_128 x, xn_128 x, hI_sI, hJ_sI, hR_sI, hK_sI, hN_sI, hz_sI, hu_sI, hJ_sJ, hI_sJ, hR_sJ, hK_sJ, hN_sJ, hz_sJ, hu_sJ, hR_sR, hI_sR, hJ_sR, hK_sR, hN_sR, hz_sR, hu_sR, ixl0, ixl1, ixl2, ixl3, mem20, mem21, mem22, al20, al21, al33, al34, al36, al37, al38, aa33, aa34, aa36, aa37, aa38, true_and, and_true, Int32.reduceOfNat, forall_const, true_implies, implies_true, false_implies, not_true_eq_false, not_false_eq_true, Int32.reduceLE, Int32.reduceAdd]
  rw [b_Ch_pose_63]
  simp only [b_Ch_pose_46, b_Ch_pose_66, b_Ch_pose_71, b_Ch_pose_73, jW, xk_122 x, xr_122_1 x, xk_128 x, xn_128 x, hI_sI, hJ_sI, hR_sI, hK_sI, hN_sI, hz_sI, hu_sI, hJ_sJ, hI_sJ, hR_sJ, hK_sJ, hN_sJ, hz_sJ, hu_sJ, hR_sR, hI_sR, hJ_sR, hK_sR, hN_sR, hz_sR, hu_sR, ixl0, ixl1, ixl2, ixl3, mem20, mem21, mem22, al20, al21, al33, al34, al36, al37, al38, aa33, aa34, aa36, aa37, aa38, true_and, and_true, Int32.reduceOfNat, forall_const, true_implies, implies_true, false_implies, not_true_eq_false, not_false_eq_true, Int32.reduceLE, Int32.reduceAdd]
  rw [b_Ch_pose_74]
  simp only [b_Ch_pose_80, b_Ch_pose_82, jW, xk_122 x, xr_122_1 x, xk_128 x, xn_128 x, hI_sI, hJ_sI, hR_sI, hK_sI, hN_sI, hz_sI, hu_sI, hJ_sJ, hI_sJ, hR_sJ, hK_sJ, hN_sJ, hz_sJ, hu_sJ, hR_sR, hI_sR, hJ_sR, hK_sR, hN_sR, hz_sR, hu_sR, ixl4, mem20, mem21, mem22, al20, al21, al33, al34, al36, al37, al38, aa33, aa34, aa36, aa37, aa38, true_and, and_true, Int32.reduceOfNat, forall_const, true_implies, implies_true, false_implies, not_true_eq_false, not_false_eq_true]
  rw [b_Ch_pose_83]
  simp only [b_Ch_pose_96, b_Ch_pose_98, jW, xk_122 x, xr_122_1 x, xk_128 x, xn_128 x, hp, hI_sI, hJ_sI, hR_sI, hK_sI, hN_sI, hz_sI, hu_sI, hJ_sJ, hI_sJ, hR_sJ, hK_sJ, hN_sJ, hz_sJ, hu_sJ, hR_sR, hI_sR, hJ_sR, hK_sR, hN_sR, hz_sR, hu_sR, ixl5, ixl6, mem20, mem21, mem22, al20, al21, al33, al34, al36, al37, al38, aa33, aa34, aa36, aa37, aa38, true_and, and_true, Int32.reduceOfNat, forall_const, true_implies, implies_true, false_implies, not_true_eq_false, not_false_eq_true, pe1, if_false]
  rw [b_Ch_pose_99]
  simp only [b_Ch_pose_106, b_Ch_pose_108, b_Ch_pose_110, jW, xk_122 x, xr_122_1 x, xk_128 x, xn_128 x, hp, hI_sI, hJ_sI, hR_sI, hK_sI, hN_sI, hz_sI, hu_sI, hJ_sJ, hI_sJ, hR_sJ, hK_sJ, hN_sJ, hz_sJ, hu_sJ, hR_sR, hI_sR, hJ_sR, hK_sR, hN_sR, hz_sR, hu_sR, ixl7, mem20, mem21, mem22, al20, al21, al33, al34, al36, al37, al38, aa33, aa34, aa36, aa37, aa38, true_and, and_true, Int32.reduceOfNat, forall_const, true_implies, implies_true, false_implies, not_true_eq_false, not_false_eq_true, pe1, if_false]
  rw [b_Ch_pose_111]
  simp only [xk_122 x, xr_122_1 x, xk_128 x, xn_128 x, hp, hI_sI, hJ_sI, hR_sI, hK_sI, hN_sI, hz_sI, hu_sI, hJ_sJ, hI_sJ, hR_sJ, hK_sJ, hN_sJ, hz_sJ, hu_sJ, hR_sR, hI_sR, hJ_sR, hK_sR, hN_sR, hz_sR, hu_sR, ixl8, ixl9, ixl10, mem20, mem21, mem22, al20, al21, al33, al34, al36, al37, al38, aa33, aa34, aa36, aa37, aa38, true_and, and_true, Int32.reduceOfNat, forall_const, true_implies, implies_true, false_implies, not_true_eq_false, not_false_eq_true, pe1, if_false, rtV, tn0, tn1, tn2, tn3, tn4, tn5, tn6, tn7, tn8, tn9, tn10, n122]
  refine hQ _ (Fs1 (Fs1 (Fs1 (Fs1 (Fs1 (Fs1 (Fs1 (Fs1 (Fs1 (Fs1 (Fs1 Fr.rfl'))))))))))) ?_
  intro i hi
  have ci : i = 0 ∨ i = 1 ∨ i = 2 ∨ i = 3 ∨ i = 4 ∨ i = 5 ∨ i = 6 ∨ i = 7 ∨ i = 8 ∨ i = 9 ∨ i = 10 := by omega
  rcases ci with rfl | rfl | rfl | rfl | rfl | rfl | rfl | rfl | rfl | rfl | rfl <;> simp [hI_sI, bF] <;> grind
/-- the reference's; q: the place of the question in its rows -/
theorem c_M_asksOf {d : Nat} (q : Nat) (hb pc fe dn hd tr : Int32) (h : AH) (m : MLY h) (hq : q < 60) (it3 : ¬ hI h 354 q = 3 → hI h 355 q = -1) (ti : 0 ≤ hI h 342 15) (Q : Option Value → AH → Prop)
    (hQ : ∀ h', Fr (onl 363) nov h h' → (∀ i, i < 11 → hI h' 363 i = bF (hI h 354 q) (hI h 355 q) (hI h 342 15) fe dn hd tr hb pc i) → Q none h') : Cl (d + 1) q_M_asksOf [.ref 342, .int (nI q), .int hb, .int pc, .int fe, .int dn, .int hd, .int tr] h Q := by
  have i1 : ixo (nI q) 60 = true := nix hq (by decide)
  have c1 := cN (n := q) (by omega)
  have n1 : (354 : Nat) ≠ 363 := by decide
  have n2 : (355 : Nat) ≠ 363 := by decide
  have n3 : (342 : Nat) ≠ 363 := by decide
  rw [e_M_asksOf, b_M_asksOf_0]
  refine ⟨mo m, ?_⟩
  simp only [b_M_asksOf_2, b_M_asksOf_5, b_M_asksOf_14, b_M_asksOf_16, jW, mo m, mr_17 m, mr_28 m, mk_354 m, mn_354 m, i1, c1, mem20, mem21, mem22, al20, al21, al33, al34, al36, al37, al38, aa33, aa34, aa36, aa37, aa38, true_and, and_true, Int32.reduceOfNat, forall_const, true_implies, implies_true, false_implies, not_true_eq_false, not_false_eq_true, Int32.reduceLE]
  generalize ek : hI h 354 q = k at *
  generalize ei : hI h 355 q = it at *
  rw [b_M_asksOf_17]
  simp only [b_M_asksOf_2, b_M_asksOf_5, b_M_asksOf_14, b_M_asksOf_16, jW, mo m, mr_17 m, mr_28 m, mk_354 m, mn_354 m, mk_363 m, mn_363 m, i1, c1, hI_sI, hJ_sI, hR_sI, hK_sI, hN_sI, hz_sI, hu_sI, hJ_sJ, hI_sJ, hR_sJ, hK_sJ, hN_sJ, hz_sJ, hu_sJ, hR_sR, hI_sR, hJ_sR, hK_sR, hN_sR, hz_sR, hu_sR, ixm0, ixm1, ixm2, ixm3, mem20, mem21, mem22, al20, al21, al33, al34, al36, al37, al38, aa33, aa34, aa36, aa37, aa38, true_and, and_true, Int32.reduceOfNat, forall_const, true_implies, implies_true, false_implies, not_true_eq_false, not_false_eq_true, Int32.reduceLE, Int32.reduceAdd, n1, if_false, ek]
  rw [b_M_asksOf_17]
  simp only [b_M_asksOf_2, b_M_asksOf_5, b_M_asksOf_14, b_M_asksOf_16, jW, mo m, mr_17 m, mr_28 m, mk_354 m, mn_354 m, mk_363 m, mn_363 m, i1, c1, hI_sI, hJ_sI, hR_sI, hK_sI, hN_sI, hz_sI, hu_sI, hJ_sJ, hI_sJ, hR_sJ, hK_sJ, hN_sJ, hz_sJ, hu_sJ, hR_sR, hI_sR, hJ_sR, hK_sR, hN_sR, hz_sR, hu_sR, ixm0, ixm1, ixm2, ixm3, mem20, mem21, mem22, al20, al21, al33, al34, al36, al37, al38, aa33, aa34, aa36, aa37, aa38, true_and, and_true, Int32.reduceOfNat, forall_const, true_implies, implies_true, false_implies, not_true_eq_false, not_false_eq_true, Int32.reduceLE, Int32.reduceAdd, n1, if_false, ek]
  rw [b_M_asksOf_17]
  simp only [b_M_asksOf_2, b_M_asksOf_5, b_M_asksOf_14, b_M_asksOf_16, jW, mo m, mr_17 m, mr_28 m, mk_354 m, mn_354 m, mk_363 m, mn_363 m, i1, c1, hI_sI, hJ_sI, hR_sI, hK_sI, hN_sI, hz_sI, hu_sI, hJ_sJ, hI_sJ, hR_sJ, hK_sJ, hN_sJ, hz_sJ, hu_sJ, hR_sR, hI_sR, hJ_sR, hK_sR, hN_sR, hz_sR, hu_sR, ixm0, ixm1, ixm2, ixm3, mem20, mem21, mem22, al20, al21, al33, al34, al36, al37, al38, aa33, aa34, aa36, aa37, aa38, true_and, and_true, Int32.reduceOfNat, forall_const, true_implies, implies_true, false_implies, not_true_eq_false, not_false_eq_true, Int32.reduceLE, Int32.reduceAdd, n1, if_false, ek]
  rw [b_M_asksOf_17]
  simp only [b_M_asksOf_2, b_M_asksOf_20, b_M_asksOf_27, b_M_asksOf_29, jW, mo m, mr_18 m, mk_355 m, mn_355 m, mk_363 m, mn_363 m, i1, c1, hI_sI, hJ_sI, hR_sI, hK_sI, hN_sI, hz_sI, hu_sI, hJ_sJ, hI_sJ, hR_sJ, hK_sJ, hN_sJ, hz_sJ, hu_sJ, hR_sR, hI_sR, hJ_sR, hK_sR, hN_sR, hz_sR, hu_sR, ixm0, ixm1, ixm2, ixm3, mem20, mem21, mem22, al20, al21, al33, al34, al36, al37, al38, aa33, aa34, aa36, aa37, aa38, true_and, and_true, Int32.reduceOfNat, forall_const, true_implies, implies_true, false_implies, not_true_eq_false, not_false_eq_true, Int32.reduceLE, Int32.reduceAdd, n2, n3, if_false, ei]
  simp only [b_M_asksOf_30, b_M_asksOf_36, b_M_asksOf_38, jW, mo m, mr_28 m, hI_sI, hJ_sI, hR_sI, hK_sI, hN_sI, hz_sI, hu_sI, hJ_sJ, hI_sJ, hR_sJ, hK_sJ, hN_sJ, hz_sJ, hu_sJ, hR_sR, hI_sR, hJ_sR, hK_sR, hN_sR, hz_sR, hu_sR, mem20, mem21, mem22, al20, al21, al33, al34, al36, al37, al38, aa33, aa34, aa36, aa37, aa38, true_and, and_true, Int32.reduceOfNat, forall_const, true_implies, implies_true, false_implies, not_true_eq_false, not_false_eq_true]
  rw [b_M_asksOf_39]
  simp only [b_M_asksOf_49, b_M_asksOf_59, b_M_asksOf_61, b_M_asksOf_63, b_M_asksOf_65, jW, mo m, mr_17 m, mr_18 m, mr_28 m, mk_354 m, mn_354 m, mk_355 m, mn_355 m, mk_363 m, mn_363 m, i1, c1, hI_sI, hJ_sI, hR_sI, hK_sI, hN_sI, hz_sI, hu_sI, hJ_sJ, hI_sJ, hR_sJ, hK_sJ, hN_sJ, hz_sJ, hu_sJ, hR_sR, hI_sR, hJ_sR, hK_sR, hN_sR, hz_sR, hu_sR, ixm4, mem20, mem21, mem22, al20, al21, al33, al34, al36, al37, al38, aa33, aa34, aa36, aa37, aa38, true_and, and_true, Int32.reduceOfNat, forall_const, true_implies, implies_true, false_implies, not_true_eq_false, not_false_eq_true, n1, n2, if_false, ek, ei]
  rw [b_M_asksOf_66]
  simp only [b_M_asksOf_77, b_M_asksOf_79, jW, mo m, mr_28 m, mk_363 m, mn_363 m, hI_sI, hJ_sI, hR_sI, hK_sI, hN_sI, hz_sI, hu_sI, hJ_sJ, hI_sJ, hR_sJ, hK_sJ, hN_sJ, hz_sJ, hu_sJ, hR_sR, hI_sR, hJ_sR, hK_sR, hN_sR, hz_sR, hu_sR, ixm5, ixm6, mem20, mem21, mem22, al20, al21, al33, al34, al36, al37, al38, aa33, aa34, aa36, aa37, aa38, true_and, and_true, Int32.reduceOfNat, forall_const, true_implies, implies_true, false_implies, not_true_eq_false, not_false_eq_true]
  rw [b_M_asksOf_80]
  simp only [b_M_asksOf_86, b_M_asksOf_91, b_M_asksOf_93, jW, mo m, mr_17 m, mr_28 m, mk_354 m, mn_354 m, mk_363 m, mn_363 m, i1, c1, hI_sI, hJ_sI, hR_sI, hK_sI, hN_sI, hz_sI, hu_sI, hJ_sJ, hI_sJ, hR_sJ, hK_sJ, hN_sJ, hz_sJ, hu_sJ, hR_sR, hI_sR, hJ_sR, hK_sR, hN_sR, hz_sR, hu_sR, ixm7, mem20, mem21, mem22, al20, al21, al33, al34, al36, al37, al38, aa33, aa34, aa36, aa37, aa38, true_and, and_true, Int32.reduceOfNat, forall_const, true_implies, implies_true, false_implies, not_true_eq_false, not_false_eq_true, n1, if_false, ek]
  rw [b_M_asksOf_94]
  simp only [mo m, mr_28 m, mk_363 m, mn_363 m, hI_sI, hJ_sI, hR_sI, hK_sI, hN_sI, hz_sI, hu_sI, hJ_sJ, hI_sJ, hR_sJ, hK_sJ, hN_sJ, hz_sJ, hu_sJ, hR_sR, hI_sR, hJ_sR, hK_sR, hN_sR, hz_sR, hu_sR, ixm8, ixm9, ixm10, mem20, mem21, mem22, al20, al21, al33, al34, al36, al37, al38, aa33, aa34, aa36, aa37, aa38, true_and, and_true, Int32.reduceOfNat, forall_const, true_implies, implies_true, false_implies, not_true_eq_false, not_false_eq_true, rtV, tn0, tn1, tn2, tn3, tn4, tn5, tn6, tn7, tn8, tn9, tn10]
  refine hQ _ (Fs1 (Fs1 (Fs1 (Fs1 (Fs1 (Fs1 (Fs1 (Fs1 (Fs1 (Fs1 (Fs1 Fr.rfl'))))))))))) ?_
  have z1 : ¬ k = 3 → ¬ it = hI h 342 15 := by
    intro z1 z2
    rw [it3 z1] at z2
    rw [← z2] at ti
    exact absurd ti (by decide)
  intro i hi
  have ci : i = 0 ∨ i = 1 ∨ i = 2 ∨ i = 3 ∨ i = 4 ∨ i = 5 ∨ i = 6 ∨ i = 7 ∨ i = 8 ∨ i = 9 ∨ i = 10 := by omega
  rcases ci with rfl | rfl | rfl | rfl | rfl | rfl | rfl | rfl | rfl | rfl | rfl <;> simp [hI_sI, bF] <;> grind
