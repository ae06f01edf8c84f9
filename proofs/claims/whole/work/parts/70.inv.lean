/-! WHAT HOLDS BETWEEN THE CLASS AND THE REFERENCE -/
theorem rI_sI {h : AH} {a b j : Nat} {v : Int32} (q : a ≠ b) : hI (sI h b j v) a = hI h a := upq_ne _ q _ _
theorem rJ_sJ {h : AH} {a b j : Nat} {v : Int64} (q : a ≠ b) : hJ (sJ h b j v) a = hJ h a := upq_ne _ q _ _
theorem rR_sR {h : AH} {a b j v : Nat} (q : a ≠ b) : hR (sR h b j v) a = hR h a := upq_ne _ q _ _
/-- the persons -/
def IPe (h : AH) : Prop := ∀ p, p < 8 → hI h (146 + p) 0 = hI h 348 p ∧ hI h (146 + p) 1 = hI h 349 p ∧ hI h (146 + p) 2 = hI h 350 p ∧ hI h (146 + p) 3 = hI h 351 p ∧ hI h (146 + p) 4 = hI h 352 p ∧ i01 (hI h 348 p) = true ∧ (0 ≤ hI h 349 p ∧ hI h 349 p ≤ 9) ∧ i01 (hI h 350 p) = true ∧ (0 ≤ hI h 351 p ∧ hI h 351 p ≤ 511) ∧ i01 (hI h 352 p) = true
theorem IPe.fr {h h' : AH} (i : IPe h) (q : ∀ a, (146 ≤ a ∧ a < 154) ∨ (348 ≤ a ∧ a < 353) → hI h' a = hI h a) : IPe h' := by
  intro p hp
  rw [q (146 + p) (by omega), q 348 (by omega), q 349 (by omega), q 350 (by omega), q 351 (by omega), q 352 (by omega)]
  exact i p hp
/-- the true item -/
def IIt (h : AH) : Prop := hI h 122 3 = hI h 342 15 ∧ 0 ≤ hI h 342 15 ∧ hI h 342 15 ≤ 8
theorem IIt.fr {h h' : AH} (i : IIt h) (q : hI h' 122 3 = hI h 122 3) (q2 : hI h' 342 15 = hI h 342 15) : IIt h' := by
  unfold IIt; rw [q, q2]; exact i
theorem c_Pe_tell {d : Nat} (r : Nat) (f dn hd tr : Int32) (h : AH) (k : hK h r = 3) (b1 : i01 dn = true) (b2 : i01 tr = true) (Q : Option Value → AH → Prop) : Cl (d + 1) q_Pe_tell [.ref r, .int f, .int dn, .int hd, .int tr] h Q ↔ Q none (sI (sI (sI (sI (sI h r 0 1) r 1 f) r 2 dn) r 3 hd) r 4 tr) := by
  simp only [e_Pe_tell, b_Pe_tell_0, hI_sI, hJ_sI, hR_sI, hK_sI, hN_sI, hz_sI, hu_sI, hJ_sJ, hI_sJ, hR_sJ, hK_sJ, hN_sJ, hz_sJ, hu_sJ, hR_sR, hI_sR, hJ_sR, hK_sR, hN_sR, hz_sR, hu_sR, k, true_and, b1, b2, i01_1, rtV]
theorem c_X_person {d : Nat} (p f dn hd tr : Int32) (h : AH) (x : XLY h) (b1 : i01 dn = true) (b2 : i01 tr = true) (Q : Option Value → AH → Prop) :
    Cl (d + 2) q_X_person [.ref 100, .int p, .int f, .int dn, .int hd, .int tr] h Q ↔ if (0 ≤ p ∧ p ≤ 7) ∧ (0 ≤ f ∧ f ≤ 9) ∧ (0 ≤ hd ∧ hd ≤ 511) then Q (some (.int 1)) (sI (sI (sI (sI (sI h (146 + p.toNatClampNeg) 0 1) (146 + p.toNatClampNeg) 1 f) (146 + p.toNatClampNeg) 2 dn) (146 + p.toNatClampNeg) 3 hd) (146 + p.toNatClampNeg) 4 tr) else Q (some (.int 0)) h := by
  simp only [e_X_person, b_X_person_0, b_X_person_2, b_X_person_7, b_X_person_9, b_X_person_13, b_X_person_14, b_X_person_18, b_X_person_19, b_X_person_21, c_within, Option.toList, List.cons_append, List.nil_append, bw0, hI_sI, hJ_sI, hR_sI, hK_sI, hN_sI, hz_sI, hu_sI, hJ_sJ, hI_sJ, hR_sJ, hK_sJ, hN_sJ, hz_sJ, hu_sJ, hR_sR, hI_sR, hJ_sR, hK_sR, hN_sR, hz_sR, hu_sR, xk_100 x, xk_101 x, xn_101 x, xk_102 x, xn_102 x, xk_103 x, xn_103 x, xk_104 x, xn_104 x, xk_105 x, xk_106 x, xn_106 x, xk_107 x, xn_107 x, xk_108 x, xk_109 x, xk_110 x, xn_110 x, xk_111 x, xn_111 x, xk_112 x, xn_112 x, xk_113 x, xk_114 x, xn_114 x, xk_115 x, xn_115 x, xk_116 x, xn_116 x, xk_117 x, xk_118 x, xn_118 x, xk_119 x, xn_119 x, xk_120 x, xn_120 x, xk_121 x, xn_121 x, xk_122 x, xk_123 x, xk_124 x, xn_124 x, xk_125 x, xn_125 x, xk_126 x, xn_126 x, xk_127 x, xn_127 x, xk_128 x, xn_128 x, xk_129 x, xn_129 x, xk_130 x, xk_131 x, xn_131 x, xk_132 x, xk_133 x, xn_133 x, xk_134 x, xn_134 x, xk_135 x, xk_136 x, xk_137 x, xn_137 x, xk_138 x, xn_138 x, xk_139 x, xn_139 x, xk_140 x, xn_140 x, xk_141 x, xk_142 x, xk_143 x, xn_143 x, xk_144 x, xn_144 x, xk_145 x, xn_145 x, xr_100_0 x, xr_100_1 x, xr_100_2 x, xr_100_3 x, xr_100_4 x, xr_100_5 x, xr_100_6 x, xr_100_7 x, xr_100_8 x, xr_100_9 x, xr_100_10 x, xr_100_11 x, xr_100_12 x, xr_100_13 x, xr_100_14 x, xr_100_15 x, xr_105_2 x, xr_108_0 x, xr_108_1 x, xr_108_2 x, xr_109_0 x, xr_109_2 x, xr_109_3 x, xr_113_0 x, xr_113_1 x, xr_113_2 x, xr_117_0 x, xr_117_3 x, xr_117_4 x, xr_117_5 x, xr_122_0 x, xr_122_1 x, xr_122_2 x, xr_123_3 x, xr_123_4 x, xr_123_5 x, xr_130_0 x, xr_132_0 x, xr_132_1 x, xr_135_0 x, xr_135_1 x, xr_136_0 x, xr_136_1 x, xr_136_2 x, true_and, rtZ0, rtZ1, Int32.reduceOfNat]
  by_cases q1 : 0 ≤ p ∧ p ≤ 7
  · obtain ⟨n1, n2⟩ := n_of (M := 7) (n := 7) (by decide) q1
    have i1 : ixo p 8 = true := ix_w (k := 7) q1 (by decide) (by decide)
    have fr := f_pe x (p := p.toNatClampNeg) (by omega)
    have gk := g_pe_k x (p := p.toNatClampNeg) (by omega)
    simp only [i1, fr, c_Pe_tell (146 + p.toNatClampNeg) f dn hd tr h gk b1 b2, Option.toList, List.cons_append, List.nil_append, b_X_person_30, rtZ1, true_and]
    grind
  · grind
