def lwf (up : Int64) (D : Nat) (what : Int32) : Int64 := if what = 0 then up / lN (Nat.gcd up.toInt.natAbs D) else lN D / lN (Nat.gcd up.toInt.natAbs D)
theorem lg_ge0 (x : Int64) : 0 ≤ lg_cmp x 0 ↔ 0 ≤ x := lg_cmp_ge x 0
theorem l_of {x : Int64} (h : 0 ≤ x.toInt) : x = lN x.toInt.natAbs := by
  have e : x.toInt = ((lN x.toInt.natAbs).toInt) := by
    have hb := x.toInt_lt
    rw [pk_lT (by omega)]
    omega
  exact Int64.toInt_inj.mp e
theorem l_neg {x : Int64} (h : x.toInt < 0) (h2 : -4611686018427387904 < x.toInt) : -x = lN x.toInt.natAbs := by
  have e : (-x).toInt = ((lN x.toInt.natAbs).toInt) := by
    rw [pk_lT (by omega), Int64.toInt_neg]
    rw [Int.bmod_eq_of_le (by omega) (by omega)]
    omega
  exact Int64.toInt_inj.mp e
theorem c_M_common {d : Nat} (a : Int64) (b : Nat) (h : AH) (Q : Option Value → AH → Prop) (hb : b < 2 ^ 62) (ha : -4611686018427387904 < a.toInt) : Cl (d + 1) q_M_common [.long a, .long (lN b)] h Q ↔ Q (some (.long (lN (Nat.gcd a.toInt.natAbs b)))) h := by
  have h2 : 0 ≤ lN b := by
    show lN 0 ≤ lN b
    rw [pk_lLE (by decide) (by omega)]; omega
  have hal := a.toInt_lt
  rw [e_M_common, b_M_common_0, b_M_common_7, b_M_common_4]
  by_cases q : 0 ≤ a
  · have q' := Int64.le_iff_toInt_le.mp q
    have q' : 0 ≤ a.toInt := q'
    rw [b_M_common_8, b_M_common_16, b_M_common_17, lg_ge0, lg_ge0]
    have w := w_M_common (d := d) a (lN b) h (fun r h' => rtk (some .long) r = true ∧ Q r h') b a.toInt.natAbs .null (by omega) (by omega)
    rw [← l_of q'] at w
    simp [q, h2, w, rtJ]
  · have q' : a.toInt < 0 := by
      have := Int64.not_le.mp q
      have := Int64.lt_iff_toInt_lt.mp this
      exact this
    rw [lg_ge0, b_M_common_8 (k0 := -a), b_M_common_16, b_M_common_17, lg_ge0]
    have w := w_M_common (d := d) a (lN b) h (fun r h' => rtk (some .long) r = true ∧ Q r h') b a.toInt.natAbs .null (by omega) (by omega)
    rw [← l_neg q' ha] at w
    simp [q, h2, w, rtJ]
theorem gcd_small {a b : Nat} (hb : 0 < b) (hb2 : b < 2 ^ 62) : 0 < Nat.gcd a b ∧ Nat.gcd a b < 2 ^ 62 := by
  have h1 := Nat.gcd_pos_of_pos_right a hb
  have h2 := Nat.gcd_le_right a hb
  omega
theorem c_M_lowest {d : Nat} (up : Int64) (D : Nat) (w : Int32) (h : AH) (Q : Option Value → AH → Prop) (hD : 0 < D) (hD2 : D < 2 ^ 62) (ha : -4611686018427387904 < up.toInt) : Cl (d + 2) q_M_lowest [.long up, .long (lN D), .int w] h Q ↔ Q (some (.long (lwf up D w))) h := by
  have hg := gcd_small (a := up.toInt.natAbs) hD hD2
  have hne : ¬ lN (Nat.gcd up.toInt.natAbs D) = 0 := by rw [lne0 (by omega)]; omega
  simp only [e_M_lowest, b_M_lowest_0, b_M_lowest_3, b_M_lowest_6, b_M_lowest_10, b_M_lowest_13, c_M_common _ _ _ _ hD2 ha, Option.toList, List.cons_append, List.nil_append, rtJ, true_and]
  unfold lwf
  by_cases q : w = 0 <;> simp [q, hne]
theorem c_X_lowest {d : Nat} (up : Int64) (D : Nat) (w : Int32) (h : AH) (Q : Option Value → AH → Prop) (hD : 0 < D) (hD2 : D < 2 ^ 62) (ha : -4611686018427387904 < up.toInt) : Cl (d + 2) q_X_lowest [.long up, .long (lN D), .int w] h Q ↔ Q (some (.long (lwf up D w))) h := by
  have hg := gcd_small (a := up.toInt.natAbs) hD hD2
  have hne : ¬ lN (Nat.gcd up.toInt.natAbs D) = 0 := by rw [lne0 (by omega)]; omega
  have hal := up.toInt_lt
  have gt0 : ∀ n : Nat, 0 < n → n < 2 ^ 62 → 0 < lg_cmp (lN n) 0 := by
    intro n h1 h2
    have h3 : (0 : Int64) < lN n := by
      show lN 0 < lN n
      rw [pk_lLT (by decide) (by omega)]; exact h1
    unfold lg_cmp
    rw [if_pos h3]; decide
  have cm : ∀ (x : Int64) (Q' : Option Value → AH → Prop), x = lN up.toInt.natAbs → (Cl (d + 1) q_X_commonDivisor [.long x, .long (lN D)] h Q' ↔ Q' (some (.long (lN (Nat.gcd up.toInt.natAbs D)))) h) := by
    intro x Q' e
    subst e
    rw [e_X_commonDivisor, b_X_commonDivisor_0]
    have w := w_X_common (d := d) (lN up.toInt.natAbs) (lN D) h (fun r h' => rtk (some .long) r = true ∧ Q' r h') 63 up.toInt.natAbs D 0 .null (by omega) (by omega) (by omega) (by omega)
    have e0 : nI 0 = 0 := nI_0
    rw [e0] at w
    rw [w]
    simp [rtJ]
  rw [e_X_lowest, b_X_lowest_0, b_X_lowest_7, b_X_lowest_11, b_X_lowest_14, lg_ge0]
  by_cases q : 0 ≤ up
  · have q' : 0 ≤ up.toInt := Int64.le_iff_toInt_le.mp q
    rw [b_X_lowest_15 (k0 := up), cm up _ (l_of q')]
    simp only [Option.toList, List.cons_append, List.nil_append, b_X_lowest_17, b_X_lowest_24, b_X_lowest_26, b_X_lowest_30, b_X_lowest_33, rtJ, true_and]
    unfold lwf
    by_cases q2 : w = 0 <;> simp [q, q2, hne, gt0 D hD hD2, gt0 _ hg.1 hg.2]
  · have q' : up.toInt < 0 := Int64.lt_iff_toInt_lt.mp (Int64.not_le.mp q)
    rw [b_X_lowest_15 (k0 := -up), cm (-up) _ (l_neg q' ha)]
    simp only [Option.toList, List.cons_append, List.nil_append, b_X_lowest_17, b_X_lowest_24, b_X_lowest_26, b_X_lowest_30, b_X_lowest_33, rtJ, true_and]
    unfold lwf
    by_cases q2 : w = 0 <;> simp [q, q2, hne, gt0 D hD hD2, gt0 _ hg.1 hg.2]
