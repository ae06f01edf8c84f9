--deps: 97.opsmall
/-! FEEDING THE TAPE -/
theorem i32_bv {x y : Int32} (h : x.toBitVec = y.toBitVec) : x = y := Int32.toBitVec_inj.mp h
theorem bv_sh (b : BitVec 64) (s : Nat) (hs : s ≤ 56) : ((b >>> s).signExtend 32 &&& 255#32) = ((b.sshiftRight s).signExtend 32 &&& 255#32) := by
  apply BitVec.eq_of_getLsbD_eq
  intro i hi
  rw [BitVec.getLsbD_and, BitVec.getLsbD_and]
  by_cases q : i < 8
  · congr 1
    rw [BitVec.getLsbD_signExtend, BitVec.getLsbD_signExtend, BitVec.getLsbD_ushiftRight, BitVec.getLsbD_sshiftRight]
    have h1 : i < 32 := by omega
    have h2 : i < 64 := by omega
    have h3 : s + i < 64 := by omega
    simp [h1, h2, h3]
  · have : (255#32).getLsbD i = false := by
      have : ∀ i, i < 32 → ¬ i < 8 → (255#32).getLsbD i = false := by decide
      exact this i hi q
    rw [this, Bool.and_false, Bool.and_false]
def byt (l : Int64) (k : Nat) : Int32 := (Int64.toInt32 (l >>> (Int32.toInt64 (nI (8 * k)) &&& 63))) &&& 255
theorem byt_x (l : Int64) (k : Nat) (hk : k < 8) : (Int64.toInt32 ((Int64.toUInt64 l >>> ((Int32.toInt64 (nI (8 * k))).toUInt64 &&& Int64.toUInt64 63)).toInt64)) &&& 255 = byt l k := by
  unfold byt
  have c : k = 0 ∨ k = 1 ∨ k = 2 ∨ k = 3 ∨ k = 4 ∨ k = 5 ∨ k = 6 ∨ k = 7 := by omega
  apply i32_bv
  rcases c with rfl | rfl | rfl | rfl | rfl | rfl | rfl | rfl
  all_goals
    first
    | exact bv_sh l.toBitVec 0 (by decide)
    | exact bv_sh l.toBitVec 8 (by decide)
    | exact bv_sh l.toBitVec 16 (by decide)
    | exact bv_sh l.toBitVec 24 (by decide)
    | exact bv_sh l.toBitVec 32 (by decide)
    | exact bv_sh l.toBitVec 40 (by decide)
    | exact bv_sh l.toBitVec 48 (by decide)
    | exact bv_sh l.toBitVec 56 (by decide)
theorem byt_n (l : Int64) (k : Nat) : ∃ c, c < 256 ∧ byt l k = nI c := by
  unfold byt
  generalize Int64.toInt32 (l >>> (Int32.toInt64 (nI (8 * k)) &&& 63)) = x
  have h1 : ((x &&& 255 : Int32).toBitVec.toNat) ≤ 255 := by
    rw [Int32.toBitVec_and, BitVec.toNat_and]
    exact Nat.and_le_right
  refine ⟨(x &&& 255 : Int32).toBitVec.toNat, by omega, ?_⟩
  apply i32_bv
  show _ = (Int32.ofNat _).toBitVec
  apply BitVec.eq_of_toNat_eq
  show _ = (BitVec.ofNat 32 _).toNat
  rw [BitVec.toNat_ofNat]
  omega
theorem chr_c : ∀ c, c < 256 → vp_nar .char ((Int32.toUInt32 (nI c) % 65536).toInt32) = nI c := by decide +kernel
/-- one sign more -/
def tp1 (T : List Nat) (c : Nat) : List Nat := if tch c ∧ T.length < 1000 then T ++ [c] else T
def pf (l : Int64) : Nat → List Nat → List Nat
  | 0, T => T
  | k + 1, T => pf l k (tp1 T (byt l k).toNatClampNeg)
def tpOk (T : List Nat) : Prop := T.length ≤ 1000 ∧ ∀ c ∈ T, tch c
theorem tp1_ok {T : List Nat} {c : Nat} (h : tpOk T) : tpOk (tp1 T c) := by
  unfold tp1
  split
  · rename_i q
    refine ⟨by simp; omega, fun d hd => ?_⟩
    rcases List.mem_append.mp hd with z | z
    · exact h.2 d z
    · rw [List.mem_singleton.mp z]; exact q.1
  · exact h
theorem pf_ok (l : Int64) : ∀ (k : Nat) {T : List Nat}, tpOk T → tpOk (pf l k T)
  | 0, T, h => h
  | k + 1, T, h => pf_ok l k (tp1_ok h)
/-- the tape at a row a: T -/
def TPR (h : AH) (a : Nat) (T : List Nat) : Prop := ∀ i, i < T.length → hI h a i = nI (T.getD i 0)
theorem TPR_push {h : AH} {a : Nat} {T : List Nat} {c : Nat} (t : TPR h a T) : TPR (sI h a T.length (nI c)) a (T ++ [c]) := by
  intro i hi
  rw [hI_same]
  by_cases q : i = T.length
  · rw [if_pos q, q]; simp
  · rw [if_neg q, t i (by simp at hi; omega)]
    congr 1
    simp at hi
    rw [List.getD_eq_getElem?_getD, List.getD_eq_getElem?_getD, List.getElem?_append_left (by omega)]
def shv : Nat → Int32
  | 0 => -8
  | k + 1 => nI (8 * k)
theorem shv_s (k : Nat) : nI (8 * k) + (-8) = shv k := by
  cases k with
  | zero => decide
  | succ k =>
    show nI (8 * (k + 1)) + (-8) = nI (8 * k)
    have : (-8 : Int32) = 0 - nI 8 := by decide
    have e : nI (8 * (k + 1)) - nI 8 = nI (8 * k) := by rw [nsub (by omega)]; congr 1
    rw [← e, this, Int32.sub_eq_add_neg, Int32.sub_eq_add_neg, Int32.zero_add]
theorem tch_x {c : Nat} (hc : c < 256) : tch c ↔ (nI c = 10 ∨ (¬ nI c < 32 ∧ ¬ 126 < nI c)) := by
  have a1 : nI c = 10 ↔ c = 10 := neq (b := 10) (by omega) (by decide)
  have a2 : nI c < 32 ↔ c < 32 := nlt (b := 32) (by omega) (by decide)
  have a3 : 126 < nI c ↔ 126 < c := nlt (a := 126) (by decide) (by omega)
  unfold tch
  rw [a1, a2, a3]
  omega
def tps : Nat → Prop := fun a => a = 109 ∨ a = 110
theorem w_Tp_put {d : Nat} (l : Int64) (h0 : AH) (x0 : XLY h0) (Q : Option Value → AH → Prop) (R : List Nat)
    (fin : ∀ h', Fr tps nov h0 h' → hI h' 109 1 = nI R.length → TPR h' 110 R → Q none h') : ∀ (k : Nat) (T : List Nat) (h : AH) (v4 v5 : Value), k ≤ 8 → R = pf l k T → tpOk T → Fr tps nov h0 h → hI h 109 1 = nI T.length → TPR h 110 T → Wp d P_Tp_put 2 [.ref 109, .long l, .null, .int (shv k), v4, v5] [] h Q := by
  intro k
  induction k with
  | zero =>
    intro T h v4 v5 hk e ok fr g1 g2
    have e' : R = T := e
    subst e'
    rw [b_Tp_put_2]
    simp only [show shv 0 < 0 by decide, b_Tp_put_50, mem20, mem21, mem22, al20, al21, al33, al34, al36, al37, al38, aa33, aa34, aa36, aa37, aa38, true_and, and_true, Int32.reduceOfNat, forall_const, true_implies, implies_true, false_implies, not_true_eq_false, not_false_eq_true]
    exact fin h fr g1 g2
  | succ k ih =>
    intro T h v4 v5 hk e ok fr g1 g2
    have x := x0.fr fr
    obtain ⟨c, hc, ec⟩ := byt_n l k
    have z1 := n_nn (n := 8 * k) (by omega)
    have z2 := n_nn (n := T.length) (by have := ok.1; omega)
    have e2 : R = pf l k (tp1 T c) := by
      have : (byt l k).toNatClampNeg = c := by rw [ec]; exact cN (by omega)
      rw [← this]; exact e
    have tc := tch_x hc
    have skip : ∀ (v v5 : Value), ¬ (tch c ∧ T.length < 1000) → Wp d P_Tp_put 2 [.ref 109, .long l, .null, .int (shv k), v, v5] [] h Q := by
      intro v v5 q
      refine ih T h v v5 (by omega) ?_ ok fr g1 g2
      rw [e2]
      unfold tp1
      rw [if_neg q]
    show Wp d P_Tp_put 2 [.ref 109, .long l, .null, .int (nI (8 * k)), v4, v5] [] h Q
    rw [b_Tp_put_2]
    simp only [z1, b_Tp_put_4, byt_x l k (by omega), ec, b_Tp_put_14, b_Tp_put_17, b_Tp_put_20, b_Tp_put_22, b_Tp_put_23, b_Tp_put_48, shv_s, show ¬ (1 : Int32) = 0 by decide, mem20, mem21, mem22, al20, al21, al33, al34, al36, al37, al38, aa33, aa34, aa36, aa37, aa38, true_and, and_true, Int32.reduceOfNat, forall_const, true_implies, implies_true, false_implies, not_true_eq_false, not_false_eq_true]
    have good : tch c → Wp d P_Tp_put 26 [.ref 109, .long l, .null, .int (nI (8 * k)), .int (nI c), .int 1] [] h Q := by
      intro qc
      rw [b_Tp_put_26]
      simp only [xk_109 x, g1, z2, b_Tp_put_29, xr_109_0 x, xk_110 x, xn_110 x, mem20, mem21, mem22, al20, al21, al33, al34, al36, al37, al38, aa33, aa34, aa36, aa37, aa38, true_and, and_true, Int32.reduceOfNat, forall_const, true_implies, implies_true, false_implies, not_true_eq_false, not_false_eq_true]
      by_cases q : T.length < 1000
      · have z3 : ¬ (1000 : Int32) ≤ nI T.length := mt (nle (a := 1000) (by decide) (by omega)).mp (by omega)
        have i1 : ixo (nI T.length) 1000 = true := nix q (by decide)
        simp only [z3, b_Tp_put_35, xk_109 x, g1, xr_109_0 x, xk_110 x, xn_110 x, i1, hK_sI, rI_sI (show 109 ≠ 110 by decide), cN (show T.length < 2147483648 by omega), chr_c c hc, nI_1, b_Tp_put_48, shv_s, mem20, mem21, mem22, al20, al21, al33, al34, al36, al37, al38, aa33, aa34, aa36, aa37, aa38, true_and, and_true, Int32.reduceOfNat, forall_const, true_implies, implies_true, false_implies, not_true_eq_false, not_false_eq_true]
        refine ih (T ++ [c]) _ _ _ (by omega) ?_ ?_ ((fr.sI (Or.inr rfl)).sI (Or.inl rfl)) ?_ ?_
        · rw [e2]; unfold tp1; rw [if_pos ⟨qc, q⟩]
        · have := tp1_ok (c := c) ok
          unfold tp1 at this
          rw [if_pos ⟨qc, q⟩] at this
          exact this
        · rw [hI_same, if_pos rfl]; simp
        · intro i hi
          rw [rI_sI (by decide)]
          exact TPR_push g2 i hi
      · have z3 : (1000 : Int32) ≤ nI T.length := (nle (a := 1000) (by decide) (by have := ok.1; omega)).mpr (by omega)
        simp only [z3, b_Tp_put_48, shv_s, mem20, mem21, mem22, al20, al21, al33, al34, al36, al37, al38, aa33, aa34, aa36, aa37, aa38, true_and, and_true, Int32.reduceOfNat, forall_const, true_implies, implies_true, false_implies, not_true_eq_false, not_false_eq_true]
        exact skip _ _ (fun z => q z.2)
    have bad : ¬ tch c → Wp d P_Tp_put 2 [.ref 109, .long l, .null, .int (shv k), .int (nI c), .int 0] [] h Q := fun qc => skip _ _ (fun z => qc z.1)
    by_cases q1 : nI c = 10
    · simp only [q1, mem20, mem21, mem22, al20, al21, al33, al34, al36, al37, al38, aa33, aa34, aa36, aa37, aa38, true_and, and_true, Int32.reduceOfNat, forall_const, true_implies, implies_true, false_implies, not_true_eq_false, not_false_eq_true]
      rw [← q1]
      exact good (tc.mpr (Or.inl q1))
    · by_cases q2 : nI c < 32
      · simp only [q1, q2, mem20, mem21, mem22, al20, al21, al33, al34, al36, al37, al38, aa33, aa34, aa36, aa37, aa38, true_and, and_true, Int32.reduceOfNat, forall_const, true_implies, implies_true, false_implies, not_true_eq_false, not_false_eq_true]
        exact bad (fun z => (tc.mp z).elim q1 (fun y => y.1 q2))
      · by_cases q3 : 126 < nI c
        · simp only [q1, q2, q3, mem20, mem21, mem22, al20, al21, al33, al34, al36, al37, al38, aa33, aa34, aa36, aa37, aa38, true_and, and_true, Int32.reduceOfNat, forall_const, true_implies, implies_true, false_implies, not_true_eq_false, not_false_eq_true]
          exact bad (fun z => (tc.mp z).elim q1 (fun y => y.2 q3))
        · simp only [q1, q2, q3, mem20, mem21, mem22, al20, al21, al33, al34, al36, al37, al38, aa33, aa34, aa36, aa37, aa38, true_and, and_true, Int32.reduceOfNat, forall_const, true_implies, implies_true, false_implies, not_true_eq_false, not_false_eq_true]
          exact good (tc.mpr (Or.inr ⟨q2, q3⟩))
theorem c_Tp_put {d : Nat} (l : Int64) (T : List Nat) (h : AH) (x : XLY h) (ok : tpOk T) (g1 : hI h 109 1 = nI T.length) (g2 : TPR h 110 T) (Q : Option Value → AH → Prop)
    (fin : ∀ h', Fr tps nov h h' → hI h' 109 1 = nI (pf l 8 T).length → TPR h' 110 (pf l 8 T) → Q none h') : Cl (d + 1) q_Tp_put [.ref 109, .long l] h Q := by
  rw [e_Tp_put, b_Tp_put_0]
  exact ⟨xk_109 x, w_Tp_put l h x _ _ (fun h' a b c => ⟨rtV, fin h' a b c⟩) 8 T h _ _ (Nat.le_refl _) rfl ok Fr.rfl' g1 g2⟩
def lys : Nat → Prop := fun a => a = 342 ∨ a = 343
theorem w_M_lay {d : Nat} (l : Int64) (h0 : AH) (m0 : MLY h0) (Q : Option Value → AH → Prop) (R : List Nat)
    (fin : ∀ h', Fr lys nov h0 h' → (∀ j, j ≠ 2 → hI h' 342 j = hI h0 342 j) → hI h' 342 2 = nI R.length → TPR h' 343 R → Q none h') : ∀ (k : Nat) (T : List Nat) (h : AH) (v4 : Value), k ≤ 8 → R = pf l k T → tpOk T → Fr lys nov h0 h → (∀ j, j ≠ 2 → hI h 342 j = hI h0 342 j) → hI h 342 2 = nI T.length → TPR h 343 T → Wp d P_M_lay 2 [.ref 342, .long l, .null, .int (shv k), v4] [] h Q := by
  intro k
  induction k with
  | zero =>
    intro T h v4 hk e ok fr g0 g1 g2
    have e' : R = T := e
    subst e'
    rw [b_M_lay_2]
    simp only [show shv 0 < 0 by decide, b_M_lay_38, mem20, mem21, mem22, al20, al21, al33, al34, al36, al37, al38, aa33, aa34, aa36, aa37, aa38, true_and, and_true, Int32.reduceOfNat, forall_const, true_implies, implies_true, false_implies, not_true_eq_false, not_false_eq_true]
    exact fin h fr g0 g1 g2
  | succ k ih =>
    intro T h v4 hk e ok fr g0 g1 g2
    have m := m0.fr fr
    obtain ⟨c, hc, ec⟩ := byt_n l k
    have z1 := n_nn (n := 8 * k) (by omega)
    have e2 : R = pf l k (tp1 T c) := by
      have : (byt l k).toNatClampNeg = c := by rw [ec]; exact cN (by omega)
      rw [← this]; exact e
    have ec' : (Int64.toInt32 (l >>> (Int32.toInt64 (nI (8 * k)) &&& 63))) &&& 255 = nI c := ec
    have tc := tch_x hc
    have skip : ∀ (v : Value), ¬ (tch c ∧ T.length < 1000) → Wp d P_M_lay 2 [.ref 342, .long l, .null, .int (shv k), v] [] h Q := by
      intro v q
      refine ih T h v (by omega) ?_ ok fr g0 g1 g2
      rw [e2]
      unfold tp1
      rw [if_neg q]
    show Wp d P_M_lay 2 [.ref 342, .long l, .null, .int (nI (8 * k)), v4] [] h Q
    rw [b_M_lay_2]
    simp only [z1, b_M_lay_4, ec', b_M_lay_14, b_M_lay_17, b_M_lay_36, shv_s, mem20, mem21, mem22, al20, al21, al33, al34, al36, al37, al38, aa33, aa34, aa36, aa37, aa38, true_and, and_true, Int32.reduceOfNat, forall_const, true_implies, implies_true, false_implies, not_true_eq_false, not_false_eq_true]
    have good : tch c → Wp d P_M_lay 20 [.ref 342, .long l, .null, .int (nI (8 * k)), .int (nI c)] [] h Q := by
      intro qc
      rw [b_M_lay_20]
      simp only [mo m, g1, mem20, mem21, mem22, al20, al21, al33, al34, al36, al37, al38, aa33, aa34, aa36, aa37, aa38, true_and, and_true, Int32.reduceOfNat, forall_const, true_implies, implies_true, false_implies, not_true_eq_false, not_false_eq_true]
      by_cases q : T.length < 1000
      · have z3 : ¬ (1000 : Int32) ≤ nI T.length := mt (nle (a := 1000) (by decide) (by omega)).mp (by omega)
        have i1 : ixo (nI T.length) 1000 = true := nix q (by decide)
        simp only [z3, b_M_lay_24, mo m, g1, mr_1 m, mk_343 m, mn_343 m, i1, hK_sI, rI_sI (show 342 ≠ 343 by decide), cN (show T.length < 2147483648 by omega), nI_1, b_M_lay_36, shv_s, mem20, mem21, mem22, al20, al21, al33, al34, al36, al37, al38, aa33, aa34, aa36, aa37, aa38, true_and, and_true, Int32.reduceOfNat, forall_const, true_implies, implies_true, false_implies, not_true_eq_false, not_false_eq_true]
        refine ih (T ++ [c]) _ _ (by omega) ?_ ?_ ((fr.sI (Or.inr rfl)).sI (Or.inl rfl)) ?_ ?_ ?_
        · rw [e2]; unfold tp1; rw [if_pos ⟨qc, q⟩]
        · have := tp1_ok (c := c) ok
          unfold tp1 at this
          rw [if_pos ⟨qc, q⟩] at this
          exact this
        · intro j hj
          rw [hI_same, if_neg hj, rI_sI (by decide)]
          exact g0 j hj
        · rw [hI_same, if_pos rfl]; simp
        · intro i hi
          rw [rI_sI (by decide)]
          exact TPR_push g2 i hi
      · have z3 : (1000 : Int32) ≤ nI T.length := (nle (a := 1000) (by decide) (by have := ok.1; omega)).mpr (by omega)
        simp only [z3, b_M_lay_36, shv_s, mem20, mem21, mem22, al20, al21, al33, al34, al36, al37, al38, aa33, aa34, aa36, aa37, aa38, true_and, and_true, Int32.reduceOfNat, forall_const, true_implies, implies_true, false_implies, not_true_eq_false, not_false_eq_true]
        exact skip _ (fun z => q z.2)
    by_cases q1 : nI c = 10
    · simp only [q1, mem20, mem21, mem22, al20, al21, al33, al34, al36, al37, al38, aa33, aa34, aa36, aa37, aa38, true_and, and_true, Int32.reduceOfNat, forall_const, true_implies, implies_true, false_implies, not_true_eq_false, not_false_eq_true]
      rw [← q1]
      exact good (tc.mpr (Or.inl q1))
    · by_cases q2 : nI c < 32
      · simp only [q1, q2, mem20, mem21, mem22, al20, al21, al33, al34, al36, al37, al38, aa33, aa34, aa36, aa37, aa38, true_and, and_true, Int32.reduceOfNat, forall_const, true_implies, implies_true, false_implies, not_true_eq_false, not_false_eq_true]
        exact skip _ (fun z => (tc.mp z.1).elim q1 (fun y => y.1 q2))
      · by_cases q3 : 126 < nI c
        · simp only [q1, q2, q3, mem20, mem21, mem22, al20, al21, al33, al34, al36, al37, al38, aa33, aa34, aa36, aa37, aa38, true_and, and_true, Int32.reduceOfNat, forall_const, true_implies, implies_true, false_implies, not_true_eq_false, not_false_eq_true]
          exact skip _ (fun z => (tc.mp z.1).elim q1 (fun y => y.2 q3))
        · simp only [q1, q2, q3, mem20, mem21, mem22, al20, al21, al33, al34, al36, al37, al38, aa33, aa34, aa36, aa37, aa38, true_and, and_true, Int32.reduceOfNat, forall_const, true_implies, implies_true, false_implies, not_true_eq_false, not_false_eq_true]
          exact good (tc.mpr (Or.inr ⟨q2, q3⟩))
theorem c_M_lay {d : Nat} (l : Int64) (T : List Nat) (h : AH) (m : MLY h) (ok : tpOk T) (g1 : hI h 342 2 = nI T.length) (g2 : TPR h 343 T) (Q : Option Value → AH → Prop)
    (fin : ∀ h', Fr lys nov h h' → (∀ j, j ≠ 2 → hI h' 342 j = hI h 342 j) → hI h' 342 2 = nI (pf l 8 T).length → TPR h' 343 (pf l 8 T) → Q none h') : Cl (d + 1) q_M_lay [.ref 342, .long l] h Q := by
  rw [e_M_lay, b_M_lay_0]
  exact ⟨mo m, w_M_lay l h m _ _ (fun h' a b c e => ⟨rtV, fin h' a b c e⟩) 8 T h _ (Nat.le_refl _) rfl ok Fr.rfl' (fun _ _ => rfl) g1 g2⟩
theorem ITp.tape {h : AH} (i : ITp h) : ∃ T, tpOk T ∧ hI h 109 1 = nI T.length ∧ hI h 342 2 = nI T.length ∧ TPR h 110 T ∧ TPR h 343 T := by
  obtain ⟨n, hn, e1, e2, g⟩ := i
  have g' : ∀ j, ∃ c, j < n → tch c ∧ hI h 110 j = nI c ∧ hI h 343 j = nI c := by
    intro j
    by_cases q : j < n
    · obtain ⟨c, z⟩ := g j q; exact ⟨c, fun _ => z⟩
    · exact ⟨0, fun z => absurd z q⟩
  obtain ⟨f, hf⟩ := Classical.axiomOfChoice g'
  have len : ((List.range n).map f).length = n := by simp
  have at_ : ∀ j, j < n → ((List.range n).map f).getD j 0 = f j := by
    intro j hj
    simp [List.getD_eq_getElem?_getD, hj]
  refine ⟨(List.range n).map f, ⟨by rw [len]; exact hn, ?_⟩, by rw [len]; exact e1, by rw [len]; exact e2, ?_, ?_⟩
  · intro c hc
    obtain ⟨j, hj, rfl⟩ := List.mem_map.mp hc
    exact (hf j (List.mem_range.mp hj)).1
  · intro j hj
    rw [len] at hj
    rw [at_ j hj]; exact (hf j hj).2.1
  · intro j hj
    rw [len] at hj
    rw [at_ j hj]; exact (hf j hj).2.2
theorem ITp.of {h : AH} {T : List Nat} (ok : tpOk T) (e1 : hI h 109 1 = nI T.length) (e2 : hI h 342 2 = nI T.length) (g1 : TPR h 110 T) (g2 : TPR h 343 T) : ITp h := by
  refine ⟨T.length, ok.1, e1, e2, fun i hi => ⟨T.getD i 0, ?_, g1 i hi, g2 i hi⟩⟩
  apply ok.2
  rw [List.getD_eq_getElem?_getD, List.getElem?_eq_getElem hi]
  exact List.getElem_mem hi
theorem TPR.cg {h h' : AH} {a : Nat} {T : List Nat} (t : TPR h a T) (e : hI h' a = hI h a) : TPR h' a T := fun i hi => by rw [e]; exact t i hi
/-- only the tape, and what is cut of it, has changed -/
def tpc (a : Nat) : Prop := a = 109 ∨ a = 110 ∨ a = 342 ∨ a = 343
theorem Inv.tp {L : Nat} {xs : Nat → Int32} {c : Nat} {h h2 : AH} (i : Inv L xs c h) (fr2 : Fr tpc nov h h2) (s342 : ∀ j, j = 15 ∨ j = 30 → hI h2 342 j = hI h 342 j) (tp : ITp h2) : Inv L xs (c + 1) h2 := by
  obtain ⟨i1, i2, i3, i4, i5, i6, i7, i8, i9, i10, i11, i12, i13, i14, i15⟩ := i
  have e : ∀ a, ¬ (a = 109 ∨ a = 110 ∨ a = 342 ∨ a = 343) → hI h2 a = hI h a := fun a z => fr2.I z
  refine ⟨i1.fr fr2 (fun a z => by unfold tpc at z; omega), i2.fr fr2, i3.fr fr2, by rw [fr2.K, fr2.N]; exact i4, i5.fr (fun a z => e a (by omega)), i6.fr (by rw [e 122 (by omega)]) (s342 15 (by decide)), i7.fr (fun a z => e a (by omega)), tp, i9.fr fr2 (fun a z => by unfold tpc at z; omega), i10.fr fr2 (fun a z => by unfold tpc at z; omega), i11.fr (by rw [e 105 (by omega)]) (s342 30 (by decide)), i12.fr (fun a z => e a (by omega)), i13.fr (by omega) (e 106 (by omega)) (fun k hk => by rw [e 105 (by omega)]) (fr2.J (fun z => z)) (fr2.J (fun z => z)), i14.fr (by omega) (fun a z => e a (by omega)) (fr2.J (fun z => z)), ?_⟩
  rw [fr2.z, fr2.u]
  exact ⟨i15.1, by omega, by omega⟩
section OPS
variable {L : Nat} {xs : Nat → Int32} {c : Nat} {h : AH}
theorem op_feed (i : Inv L xs c h) (l1 l2 l3 : Int64) : OpI L xs c q_X_feed [.ref 100, .long l1, .long l2, .long l3] q_M_feed [.ref 342, .long l1, .long l2, .long l3] h := by
  have ii := i
  obtain ⟨i1, i2, i3, i4, i5, i6, i7, i8, i9, i10, i11, i12, i13, i14, i15⟩ := i
  obtain ⟨T, ok, e1, e2, g1, g2⟩ := i8.tape
  unfold OpI
  rw [e_X_feed, b_X_feed_0]
  simp only [xk_100 i2, xr_100_6 i2, xk_108 i2, xr_108_0 i2, true_and]
  refine c_Tp_put l1 T h i2 ok e1 g1 _ ?_
  intro h1 fr1 t1 g3
  have x1 := i2.fr fr1
  simp only [Option.toList, List.cons_append, List.nil_append, b_X_feed_5, xk_100 x1, xr_100_6 x1, xk_108 x1, xr_108_0 x1, true_and]
  refine c_Tp_put l2 _ h1 x1 (pf_ok _ _ ok) t1 g3 _ ?_
  intro h2 fr2 t2 g4
  have x2 := x1.fr fr2
  simp only [Option.toList, List.cons_append, List.nil_append, b_X_feed_10, xk_100 x2, xr_100_6 x2, xk_108 x2, xr_108_0 x2, true_and]
  refine c_Tp_put l3 _ h2 x2 (pf_ok _ _ (pf_ok _ _ ok)) t2 g4 _ ?_
  intro h3 fr3 t3 g5
  have x3 := x2.fr fr3
  simp only [Option.toList, List.cons_append, List.nil_append, b_X_feed_15, xk_100 x3, xr_100_6 x3, xk_108 x3, xr_108_0 x3, xk_109 x3, t3, true_and]
  refine ⟨rtI _, _, rfl, ?_⟩
  have frX := (fr1.tr fr2).tr fr3
  have m3 := i3.fr frX
  rw [e_M_feed, b_M_feed_0]
  refine ⟨mo m3, mo m3, ?_⟩
  have e342 : hI h3 342 = hI h 342 := frX.I (by unfold tps; decide)
  have e343 : hI h3 343 = hI h 343 := frX.I (by unfold tps; decide)
  have frA : Fr tpc nov h (sI h3 342 0 0) := (frX.mo (fun a z => by unfold tps at z; unfold tpc; omega) (fun a z => z)).sI (Or.inr (Or.inr (Or.inl rfl)))
  refine c_M_lay l1 T _ (i3.fr frA) ok ?_ (g2.cg (by rw [rI_sI (by decide), e343])) _ ?_
  · rw [hI_same, if_neg (by decide), e342]; exact e2
  intro h4 fr4 k4 t4 g6
  have lm : ∀ a, lys a → tpc a := fun a z => by unfold lys at z; unfold tpc; omega
  have frB := frA.tr (fr4.mo lm (fun a z => z))
  simp only [Option.toList, List.cons_append, List.nil_append, b_M_feed_6]
  refine c_M_lay l2 _ _ (i3.fr frB) (pf_ok _ _ ok) t4 g6 _ ?_
  intro h5 fr5 k5 t5 g7
  have frC := frB.tr (fr5.mo lm (fun a z => z))
  simp only [Option.toList, List.cons_append, List.nil_append, b_M_feed_9]
  refine c_M_lay l3 _ _ (i3.fr frC) (pf_ok _ _ (pf_ok _ _ ok)) t5 g7 _ ?_
  intro h6 fr6 k6 t6 g8
  have frD := frC.tr (fr6.mo lm (fun a z => z))
  have s342 : ∀ j, j ≠ 0 → j ≠ 2 → hI h6 342 j = hI h 342 j := by
    intro j hj hj2
    rw [k6 j hj2, k5 j hj2, k4 j hj2, hI_same, if_neg hj, e342]
  have frM := (fr4.tr fr5).tr fr6
  have u109 : hI h6 109 = hI h3 109 := by rw [frM.I (by unfold lys; decide), rI_sI (by decide)]
  have u110 : hI h6 110 = hI h3 110 := by rw [frM.I (by unfold lys; decide), rI_sI (by decide)]
  simp only [Option.toList, List.cons_append, List.nil_append, b_M_feed_12, mo (i3.fr frD), t6, true_and]
  refine ⟨rtI _, ii.tp frD (fun j hj => s342 j (by omega) (by omega)) (ITp.of (pf_ok _ _ (pf_ok _ _ (pf_ok _ _ ok))) (by rw [u109]; exact t3) t6 (g5.cg u110) g8)⟩
end OPS
