--deps: 74.pose
/-! A LINE'S JUMP -/
def XPg (h : AH) (r : Nat) : Prop := PRG h r ∧ hK h (hR h r 0) = 20 ∧ hN h (hR h r 0) ≤ 1000 ∧ (hR h r 0 = r + 4 ∨ 377 < hR h r 0) ∧ hR h r 0 < hz h
def XLn (h : AH) (r ln : Nat) (o : Option (List Nat)) : Prop := match o with
  | none => hI h (r + 2) ln ≤ hI h (r + 1) ln
  | some cs => ∃ s, hI h (r + 2) ln = nI (s + cs.length) ∧ hI h (r + 1) ln = nI s ∧ s + cs.length ≤ hN h (hR h r 0) ∧ STP (hI h (hR h r 0)) s cs
def okO (nf : Nat) (o : Option (List Nat)) : Prop := match o with
  | none => True
  | some cs => oks nf cs 0
def lnV (F : Nat → Int32) (o : Option (List Nat)) : Int32 := match o with
  | none => 0
  | some cs => wth F cs
def MBd (h : AH) (ln : Nat) (o : Option (List Nat)) : Prop := match o with
  | none => hI h 359 ln = -1
  | some cs => ∃ f, hI h 359 ln = nI f ∧ f + cs.length < 1100 ∧ RTP (hI h 357) (hI h 358) id f cs
def clp (v : Int32) : Int32 := if v < 0 then 0 else if 99 < v then 99 else v
def wN (G : Nat → Int32) (nz : Int32) : Nat → Int32 := fun i => if i = 11 then nz else G i
/-- running a line of a program of the class -/
theorem c_Pg_line {d : Nat} (r fc nf ln : Nat) (o : Option (List Nat)) (F : Nat → Int32) (h : AH) (hnf : nf ≤ 20) (hfc : fc ≠ r + 3) (hln : ln < 6) (x : XPg h r) (a5 : hK h fc = 20) (a6 : hN h fc = nf) (a7 : ∀ i, i < nf → hI h fc i = F i) (xl : XLn h r ln o) (ok : okO nf o) (hr : r + 3 < 378) (Q : Option Value → AH → Prop)
    (hq : ∀ h', Fr (onl (r + 3)) nov h h' → Q (some (.int (lnV F o))) h') : Cl (d + 3) q_Pg_run [.ref r, .int (nI ln), .ref fc] h Q := by
  obtain ⟨x1, x2, x3, x4, x5⟩ := x
  match o, xl, ok, hq with
  | none, xl, ok, hq =>
    exact (c_Pg_run0 r fc ln h x1 hln xl Q).mpr (hq h Fr.rfl')
  | some cs, ⟨s, y1, y2, y3, y4⟩, ok, hq =>
    refine c_Pg_run r (hR h r 0) fc nf ln s cs F h hnf (by omega) hfc hln x1 rfl x2 y3 x3 y1 y2 a5 a6 a7 y4 ok Q ?_
    intro h' fr st l1
    rw [STK_last l1 st]
    exact hq h' fr
def jcs : Nat → Prop := fun a => a = 126 ∨ a = 128
theorem c_Ch_jumpOf {d : Nat} (ln : Nat) (nz : Int32) (G : Nat → Int32) (o : Option (List Nat)) (h : AH) (x : XLY h) (p : XPg h 123) (hln : ln < 3) (g : ∀ i, i < 11 → hI h 128 i = G i) (xl : XLn h 123 ln o) (ok : okO 12 o) (Q : Option Value → AH → Prop)
    (hq : ∀ h', Fr jcs nov h h' → (∀ i, i < 11 → hI h' 128 i = G i) → Q (some (.int (clp (lnV (wN G nz) o)))) h') : Cl (d + 4) q_Ch_jumpOf [.ref 122, .int (nI ln), .int nz] h Q := by
  rw [e_Ch_jumpOf, b_Ch_jumpOf_0]
  simp only [xk_122 x, xr_122_0 x, xr_122_1 x, xk_128 x, xn_128 x, hI_sI, hJ_sI, hR_sI, hK_sI, hN_sI, hz_sI, hu_sI, hJ_sJ, hI_sJ, hR_sJ, hK_sJ, hN_sJ, hz_sJ, hu_sJ, hR_sR, hI_sR, hJ_sR, hK_sR, hN_sR, hz_sR, hu_sR, ixl11, tn11, mem20, mem21, mem22, al20, al21, al33, al34, al36, al37, al38, aa33, aa34, aa36, aa37, aa38, true_and, and_true, Int32.reduceOfNat, forall_const, true_implies, implies_true, false_implies, not_true_eq_false, not_false_eq_true]
  have fr0 : Fr jcs nov h (sI h 128 11 nz) := Fr.rfl'.sI (Or.inr rfl)
  have p' : XPg (sI h 128 11 nz) 123 := p
  have xl' : XLn (sI h 128 11 nz) 123 ln o := by
    have e1 : hI (sI h 128 11 nz) (123 + 1) = hI h (123 + 1) := rI_sI (by decide)
    have e2 : hI (sI h 128 11 nz) (123 + 2) = hI h (123 + 2) := rI_sI (by decide)
    have e3 : hI (sI h 128 11 nz) (hR h 123 0) = hI h (hR h 123 0) := rI_sI (by have := p.2.2.2.1; omega)
    unfold XLn at xl ⊢
    rw [hR_sI, hN_sI, e1, e2, e3]
    exact xl
  refine c_Pg_line 123 128 12 ln o (wN G nz) _ (by decide) (by decide) (by omega) p' (xk_128 x) (xn_128 x) ?_ xl' ok (by decide) _ ?_
  · intro i hi
    rw [hI_same]
    unfold wN
    by_cases q : i = 11
    · rw [if_pos q, if_pos q]
    · rw [if_neg q, if_neg q, g i (by omega)]
  · intro h' fr
    have fr2 : Fr jcs nov h h' := fr0.tr (fr.mo (fun a z => Or.inl z) (fun a z => z))
    have g' : ∀ i, i < 11 → hI h' 128 i = G i := by
      intro i hi
      rw [fr.I (a := 128) (by unfold onl; decide), hI_same, if_neg (by omega), g i hi]
    have hq' := hq h' fr2 g'
    simp only [Option.toList, List.cons_append, List.nil_append, b_Ch_jumpOf_11, b_Ch_jumpOf_14, b_Ch_jumpOf_16, b_Ch_jumpOf_19, b_Ch_jumpOf_21, b_Ch_jumpOf_22, rtI, mem20, mem21, mem22, al20, al21, al33, al34, al36, al37, al38, aa33, aa34, aa36, aa37, aa38, true_and, and_true, Int32.reduceOfNat, forall_const, true_implies, implies_true, false_implies, not_true_eq_false, not_false_eq_true]
    unfold clp at hq'
    generalize lnV (wN G nz) o = v at hq' ⊢
    grind
def mcs : Nat → Prop := fun a => a = 363 ∨ a = 364
theorem c_M_jumpOf {d : Nat} (ln : Nat) (nz : Int32) (G : Nat → Int32) (o : Option (List Nat)) (h : AH) (m : MLY h) (hln : ln < 3) (g : ∀ i, i < 11 → hI h 363 i = G i) (xl : MBd h ln o) (ok : okO 12 o) (Q : Option Value → AH → Prop)
    (hq : ∀ h', Fr mcs nov h h' → (∀ i, i < 11 → hI h' 363 i = G i) → Q (some (.int (clp (lnV (wN G nz) o)))) h') : Cl (d + 3) q_M_jumpOf [.ref 342, .int (nI ln), .int nz] h Q := by
  have i1 : ixo (nI ln) 3 = true := nix hln (by decide)
  have c1 := cN (n := ln) (by omega)
  have n1 : (359 : Nat) ≠ 363 := by decide
  rw [e_M_jumpOf, b_M_jumpOf_0]
  simp only [mo m, mr_28 m, mr_24 m, mk_363 m, mn_363 m, mk_359 m, mn_359 m, hI_sI, hJ_sI, hR_sI, hK_sI, hN_sI, hz_sI, hu_sI, hJ_sJ, hI_sJ, hR_sJ, hK_sJ, hN_sJ, hz_sJ, hu_sJ, hR_sR, hI_sR, hJ_sR, hK_sR, hN_sR, hz_sR, hu_sR, ixm11, tn11, i1, c1, n1, if_false, mem20, mem21, mem22, al20, al21, al33, al34, al36, al37, al38, aa33, aa34, aa36, aa37, aa38, true_and, and_true, Int32.reduceOfNat, forall_const, true_implies, implies_true, false_implies, not_true_eq_false, not_false_eq_true]
  have fr0 : Fr mcs nov h (sI h 363 11 nz) := Fr.rfl'.sI (Or.inl rfl)
  have fin : ∀ h', Fr mcs nov h h' → (∀ i, i < 11 → hI h' 363 i = G i) → Wp (d + 2) P_M_jumpOf 20 [.ref 342, .int (nI ln), .int nz, .null] [.int (lnV (wN G nz) o)] h' (fun r h' => rtk (some .int) r = true ∧ Q r h') := by
    intro h' fr g'
    have hq' := hq h' fr g'
    simp only [b_M_jumpOf_20, b_M_jumpOf_23, b_M_jumpOf_25, b_M_jumpOf_28, b_M_jumpOf_30, b_M_jumpOf_31, rtI, mem20, mem21, mem22, al20, al21, al33, al34, al36, al37, al38, aa33, aa34, aa36, aa37, aa38, true_and, and_true, Int32.reduceOfNat, forall_const, true_implies, implies_true, false_implies, not_true_eq_false, not_false_eq_true]
    unfold clp at hq'
    generalize lnV (wN G nz) o = v at hq' ⊢
    grind
  have g0 : ∀ i, i < 11 → hI (sI h 363 11 nz) 363 i = G i := by
    intro i hi
    rw [hI_same, if_neg (by omega), g i hi]
  match o, xl, ok, fin with
  | none, xl, ok, fin =>
    have xl' : hI h 359 ln = -1 := xl
    simp only [xl', Int32.reduceLE, b_M_jumpOf_10, mem20, mem21, mem22, al20, al21, al33, al34, al36, al37, al38, aa33, aa34, aa36, aa37, aa38, true_and, and_true, Int32.reduceOfNat, forall_const, true_implies, implies_true, false_implies, not_true_eq_false, not_false_eq_true]
    exact fin _ fr0 g0
  | some cs, ⟨f, y1, y2, y3⟩, ok, fin =>
    have z1 : 0 ≤ nI f := (nle (a := 0) (by decide) (by omega)).mpr (Nat.zero_le _)
    have z2 : 0 + nI f = nI f := by simp
    simp only [y1, z1, z2, b_M_jumpOf_12, mo m, mr_24 m, mk_359 m, mn_359 m, i1, c1, hI_sI, hJ_sI, hR_sI, hK_sI, hN_sI, hz_sI, hu_sI, hJ_sJ, hI_sJ, hR_sJ, hK_sJ, hN_sJ, hz_sJ, hu_sJ, hR_sR, hI_sR, hJ_sR, hK_sR, hN_sR, hz_sR, hu_sR, n1, if_false, mem20, mem21, mem22, al20, al21, al33, al34, al36, al37, al38, aa33, aa34, aa36, aa37, aa38, true_and, and_true, Int32.reduceOfNat, forall_const, true_implies, implies_true, false_implies, not_true_eq_false, not_false_eq_true]
    refine c_M_worthOf 12 f cs id (wN G nz) _ (m.fr fr0) (by decide) (fun i hi => by show i < 20; omega) (by omega) ?_ ?_ ok _ ?_
    · intro i hi
      show hI (sI h 363 11 nz) 363 i = _
      rw [hI_same]
      unfold wN
      by_cases q : i = 11
      · rw [if_pos q, if_pos q]
      · rw [if_neg q, if_neg q, g i (by omega)]
    · have e1 : hI (sI h 363 11 nz) 357 = hI h 357 := rI_sI (by decide)
      have e2 : hI (sI h 363 11 nz) 358 = hI h 358 := rI_sI (by decide)
      rw [e1, e2]; exact y3
    · intro h' fr st l1
      rw [STK_last l1 st]
      simp only [Option.toList, List.cons_append, List.nil_append]
      refine fin h' (fr0.tr (fr.mo (fun a z => Or.inr z) (fun a z => z))) ?_
      intro i hi
      rw [fr.I (a := 363) (by unfold onl; decide), g0 i hi]
