/-! ODDS AND ITEMS -/
def powJ (b : Int64) : Nat → Int64 → Int64
  | 0, v => v
  | n + 1, v => powJ b n (v * b)
def cxJ (n k : Nat) : Nat → Nat → Int64 → Int64
  | 0, _, v => v
  | r + 1, i, v => cxJ n k r (i + 1) ((v * Int32.toInt64 ((nI n - nI k) + nI i)) / Int32.toInt64 (nI i))
def cmJ (n : Nat) : Nat → Nat → Int64 → Int64
  | 0, _, v => v
  | r + 1, i, v => cmJ n r (i + 1) ((v * Int32.toInt64 (nI n - nI i)) / Int32.toInt64 (nI (i + 1)))
def oxJ (q m : Nat) : Nat → Nat → Int64 → Int64
  | 0, _, v => v
  | r + 1, i, v => oxJ q m r (i + 1) (v + (cxJ q i i 1 1 * powJ (Int32.toInt64 (nI m - 1)) (q - i) 1))
def omJ (q m : Nat) : Nat → Nat → Int64 → Int64
  | 0, _, v => v
  | r + 1, i, v => omJ q m r (i + 1) (v + (cmJ q i 0 1 * powJ (Int32.toInt64 (nI m) - 1) (q - i) 1))
set_option maxRecDepth 100000 in
theorem odds_same : ∀ q, q < 10 → ∀ m, m < 10 → ∀ k, k < q + 1 → oxJ q m (q + 1 - k) k 0 = omJ q m (q + 1 - k) k 0 ∧ -4611686018427387904 < (oxJ q m (q + 1 - k) k 0).toInt := by decide +kernel
set_option maxRecDepth 100000 in
theorem odds_low : ∀ q, q < 10 → ∀ m, m < 10 → powJ (Int32.toInt64 (nI m)) q 1 = lN (m ^ q) ∧ m ^ q < 2 ^ 62 := by decide +kernel
theorem w_X_power {d : Nat} (b : Int64) (n : Nat) (hn : n < 2 ^ 31) (h : AH) (Q : Option Value → AH → Prop) : ∀ (r j : Nat) (v : Int64), j + r = n → (Wp d P_X_power 4 [.long b, .null, .int (nI n), .long v, .null, .int (nI j)] [] h Q ↔ Q (some (.long (powJ b r v))) h)
  | 0, j, v, e => by
    have : j = n := by omega
    subst this
    rw [b_X_power_4, b_X_power_13]
    simp [powJ, Int32.le_refl]
  | r + 1, j, v, e => by
    have h1 : ¬ nI n ≤ nI j := by rw [nI_leI hn (by omega)]; omega
    rw [b_X_power_4, b_X_power_7, nI_1, w_X_power b n hn h Q r (j + 1) (v * b) (by omega)]
    simp [powJ, h1]
theorem w_M_power {d : Nat} (b : Int64) (n : Nat) (hn : n < 2 ^ 31) (h : AH) (Q : Option Value → AH → Prop) : ∀ (r j : Nat) (v : Int64), j + r = n → (Wp d P_M_power 4 [.long b, .null, .int (nI n), .long v, .null, .int (nI j)] [] h Q ↔ Q (some (.long (powJ b r v))) h)
  | 0, j, v, e => by
    have : j = n := by omega
    subst this
    rw [b_M_power_4, b_M_power_13]
    simp [powJ, Int32.le_refl]
  | r + 1, j, v, e => by
    have h1 : ¬ nI n ≤ nI j := by rw [nI_leI hn (by omega)]; omega
    rw [b_M_power_4, b_M_power_7, nI_1, w_M_power b n hn h Q r (j + 1) (v * b) (by omega)]
    simp [powJ, h1]
theorem c_X_power {d : Nat} (b : Int64) (n : Nat) (hn : n < 2 ^ 31) (h : AH) (Q : Option Value → AH → Prop) : Cl (d + 1) q_X_power [.long b, .int (nI n)] h Q ↔ Q (some (.long (powJ b n 1))) h := by
  rw [e_X_power, b_X_power_0]
  have w := w_X_power (d := d) b n hn h (fun r h' => rtk (some .long) r = true ∧ Q r h') n 0 1 (by omega)
  rw [nI_0] at w
  rw [w]
  simp [rtJ]
theorem c_M_power {d : Nat} (b : Int64) (n : Nat) (hn : n < 2 ^ 31) (h : AH) (Q : Option Value → AH → Prop) : Cl (d + 1) q_M_power [.long b, .int (nI n)] h Q ↔ Q (some (.long (powJ b n 1))) h := by
  rw [e_M_power, b_M_power_0]
  have w := w_M_power (d := d) b n hn h (fun r h' => rtk (some .long) r = true ∧ Q r h') n 0 1 (by omega)
  rw [nI_0] at w
  rw [w]
  simp [rtJ]
theorem il_ne {i : Nat} (h0 : 0 < i) (h : i < 2 ^ 31) : ¬ Int32.toInt64 (nI i) = 0 := by
  rw [nI_l h]
  rw [lne0 (by omega)]; omega
theorem w_X_choices {d : Nat} (n k : Nat) (hn : n < 10) (hk : k ≤ n) (h : AH) (Q : Option Value → AH → Prop) : ∀ (r i : Nat) (v : Int64), 0 < i → i + r = k + 1 → (Wp d P_X_choices 4 [.int (nI n), .int (nI k), .long v, .null, .int (nI i)] [] h Q ↔ Q (some (.long (cxJ n k r i v))) h)
  | 0, i, v, h0, e => by
    have h1 : nI k < nI i := by rw [nI_ltI (by omega) (by omega)]; omega
    rw [b_X_choices_4, b_X_choices_21]
    simp [cxJ, h1]
  | r + 1, i, v, h0, e => by
    have h1 : ¬ nI k < nI i := by rw [nI_ltI (by omega) (by omega)]; omega
    rw [b_X_choices_4, b_X_choices_7, nI_1, w_X_choices n k hn hk h Q r (i + 1) _ (by omega) (by omega)]
    simp [cxJ, h1, il_ne h0 (by omega)]
theorem w_M_choices {d : Nat} (n k : Nat) (hn : n < 10) (hk : k ≤ n) (h : AH) (Q : Option Value → AH → Prop) : ∀ (r i : Nat) (v : Int64), i + r = k → (Wp d P_M_choices 4 [.int (nI n), .int (nI k), .long v, .null, .int (nI i)] [] h Q ↔ Q (some (.long (cmJ n r i v))) h)
  | 0, i, v, e => by
    have h1 : nI k ≤ nI i := by rw [nI_leI (by omega) (by omega)]; omega
    rw [b_M_choices_4, b_M_choices_21]
    simp [cmJ, h1]
  | r + 1, i, v, e => by
    have h1 : ¬ nI k ≤ nI i := by rw [nI_leI (by omega) (by omega)]; omega
    rw [b_M_choices_4, b_M_choices_7, nI_1, w_M_choices n k hn hk h Q r (i + 1) _ (by omega)]
    simp [cmJ, h1, il_ne (i := i + 1) (by omega) (by omega)]
theorem c_X_choices {d : Nat} (n k : Nat) (hn : n < 10) (hk : k ≤ n) (h : AH) (Q : Option Value → AH → Prop) : Cl (d + 1) q_X_choices [.int (nI n), .int (nI k)] h Q ↔ Q (some (.long (cxJ n k k 1 1))) h := by
  rw [e_X_choices, b_X_choices_0]
  have w := w_X_choices (d := d) n k hn hk h (fun r h' => rtk (some .long) r = true ∧ Q r h') k 1 1 (by omega) (by omega)
  rw [show nI 1 = 1 from rfl] at w
  rw [w]
  simp [rtJ]
theorem c_M_choices {d : Nat} (n k : Nat) (hn : n < 10) (hk : k ≤ n) (h : AH) (Q : Option Value → AH → Prop) : Cl (d + 1) q_M_choices [.int (nI n), .int (nI k)] h Q ↔ Q (some (.long (cmJ n k 0 1))) h := by
  rw [e_M_choices, b_M_choices_0]
  have w := w_M_choices (d := d) n k hn hk h (fun r h' => rtk (some .long) r = true ∧ Q r h') k 0 1 (by omega)
  rw [nI_0] at w
  rw [w]
  simp [rtJ]
theorem w_X_odds {d : Nat} (q m k r0 : Nat) (wh : Int32) (hq : q < 10) (hm : m < 10) (hm0 : 0 < m) (h : AH) (Q : Option Value → AH → Prop) : ∀ (r i : Nat) (v : Int64), i + r = q + 1 → k ≤ i → -4611686018427387904 < (oxJ q m r i v).toInt → (Wp (d + 2) P_X_odds 26 [.ref r0, .int (nI q), .int (nI m), .int (nI k), .int wh, .long v, .null, .int (nI i)] [] h Q ↔ Q (some (.long (lwf (oxJ q m r i v) (m ^ q) wh))) h)
  | 0, i, v, e, hk, hb => by
    have h1 : nI q < nI i := by rw [nI_ltI (by omega) (by omega)]; omega
    have ol := odds_low q hq m hm
    have hp : 0 < m ^ q := Nat.pow_pos hm0
    simp only [b_X_odds_26, b_X_odds_46, c_X_power _ q (by omega), Option.toList, List.cons_append, List.nil_append, b_X_odds_51, ol.1, c_X_lowest v (m ^ q) wh _ _ hp ol.2 hb, b_X_odds_53]
    simp [oxJ, h1]
  | r + 1, i, v, e, hk, hb => by
    have h1 : ¬ nI q < nI i := by rw [nI_ltI (by omega) (by omega)]; omega
    have e2 : nI q - nI i = nI (q - i) := pk_sub (by omega)
    rw [b_X_odds_26]
    simp only [b_X_odds_29, c_X_choices q i hq (by omega), Option.toList, List.cons_append, List.nil_append, b_X_odds_33, e2, c_X_power _ (q - i) (by omega), b_X_odds_41, nI_1]
    rw [w_X_odds q m k r0 wh hq hm hm0 h Q r (i + 1) _ (by omega) (by omega) hb]
    simp [oxJ, h1]
theorem w_M_odds {d : Nat} (q m k r0 : Nat) (wh : Int32) (hq : q < 10) (hm : m < 10) (hm0 : 0 < m) (h : AH) (Q : Option Value → AH → Prop) : ∀ (r i : Nat) (v : Int64), i + r = q + 1 → k ≤ i → -4611686018427387904 < (omJ q m r i v).toInt → (Wp (d + 2) P_M_odds 29 [.ref r0, .int (nI q), .int (nI m), .int (nI k), .int wh, .long v, .null, .int (nI i)] [] h Q ↔ Q (some (.long (lwf (omJ q m r i v) (m ^ q) wh))) h)
  | 0, i, v, e, hk, hb => by
    have h1 : nI q < nI i := by rw [nI_ltI (by omega) (by omega)]; omega
    have ol := odds_low q hq m hm
    have hp : 0 < m ^ q := Nat.pow_pos hm0
    simp only [b_M_odds_29, b_M_odds_49, c_M_power _ q (by omega), Option.toList, List.cons_append, List.nil_append, b_M_odds_54, ol.1, c_M_lowest v (m ^ q) wh _ _ hp ol.2 hb, b_M_odds_56]
    simp [omJ, h1]
  | r + 1, i, v, e, hk, hb => by
    have h1 : ¬ nI q < nI i := by rw [nI_ltI (by omega) (by omega)]; omega
    have e2 : nI q - nI i = nI (q - i) := pk_sub (by omega)
    rw [b_M_odds_29]
    simp only [b_M_odds_32, c_M_choices q i hq (by omega), Option.toList, List.cons_append, List.nil_append, b_M_odds_36, e2, c_M_power _ (q - i) (by omega), b_M_odds_44, nI_1]
    rw [w_M_odds q m k r0 wh hq hm hm0 h Q r (i + 1) _ (by omega) (by omega) hb]
    simp [omJ, h1]

theorem n_of {x M : Int32} {n : Nat} (hM : M.toInt = n) (h : 0 ≤ x ∧ x ≤ M) : x.toNatClampNeg ≤ n ∧ x = nI x.toNatClampNeg := by
  obtain ⟨j, h1, h2⟩ := nI_of2 hM (Int32.not_lt.mpr h.1) h.2
  have hM2 : n < 2147483648 := by have := M.toInt_lt; omega
  have e : x.toNatClampNeg = j := by rw [h2]; exact nI_clamp (by omega)
  rw [e]; exact ⟨h1, h2⟩
theorem i_tr {a b c : Int32} (h1 : a ≤ b) (h2 : b ≤ c) : a ≤ c := by
  have h1 := Int32.le_iff_toInt_le.mp h1
  have h2 := Int32.le_iff_toInt_le.mp h2
  exact Int32.le_iff_toInt_le.mpr (by omega)
def oddsF (q m k w : Int32) : Int64 := if (1 ≤ q ∧ q ≤ 9) ∧ (2 ≤ m ∧ m ≤ 9) ∧ (0 ≤ k ∧ k ≤ q) ∧ (0 ≤ w ∧ w ≤ 1) then lwf (omJ q.toNatClampNeg m.toNatClampNeg (q.toNatClampNeg + 1 - k.toNatClampNeg) k.toNatClampNeg 0) (m.toNatClampNeg ^ q.toNatClampNeg) w else -1
theorem odds_nat {q m k : Int32} (h1 : 1 ≤ q ∧ q ≤ 9) (h2 : 2 ≤ m ∧ m ≤ 9) (h3 : 0 ≤ k ∧ k ≤ q) : ∃ a b c : Nat, q = nI a ∧ m = nI b ∧ k = nI c ∧ q.toNatClampNeg = a ∧ m.toNatClampNeg = b ∧ k.toNatClampNeg = c ∧ a < 10 ∧ b < 10 ∧ 0 < b ∧ c ≤ a := by
  have a1 := n_of (M := 9) (n := 9) (by decide) ⟨i_tr (by decide) h1.1, h1.2⟩
  have a2 := n_of (M := 9) (n := 9) (by decide) ⟨i_tr (by decide) h2.1, h2.2⟩
  have a3 := n_of (M := 9) (n := 9) (by decide) ⟨h3.1, i_tr h3.2 h1.2⟩
  refine ⟨_, _, _, a1.2, a2.2, a3.2, rfl, rfl, rfl, by omega, by omega, ?_, ?_⟩
  · have h := h2.1
    rw [a2.2] at h
    have h : nI 2 ≤ nI m.toNatClampNeg := h
    rw [nI_leI (by decide) (by omega)] at h
    omega
  · have h := h3.2
    rw [a3.2, a1.2, nI_leI (by omega) (by omega)] at h
    exact h
theorem c_X_odds {d : Nat} (q m k w : Int32) (h : AH) (hx : hK h 100 = 10) (Q : Option Value → AH → Prop) : Cl (d + 3) q_X_odds [.ref 100, .int q, .int m, .int k, .int w] h Q ↔ Q (some (.long (oddsF q m k w))) h := by
  rw [e_X_odds, b_X_odds_0]
  simp only [c_within, Option.toList, List.cons_append, List.nil_append, b_X_odds_4, b_X_odds_5, b_X_odds_9, b_X_odds_10, b_X_odds_14, b_X_odds_15, b_X_odds_19, b_X_odds_20, b_X_odds_22, bw0, hx, true_and, rtJ]
  unfold oddsF
  by_cases q1 : 1 ≤ q ∧ q ≤ 9
  · by_cases q2 : 2 ≤ m ∧ m ≤ 9
    · by_cases q3 : 0 ≤ k ∧ k ≤ q
      · by_cases q4 : 0 ≤ w ∧ w ≤ 1
        · obtain ⟨a, b, c, e1, e2, e3, f1, f2, f3, g1, g2, g3, g4⟩ := odds_nat q1 q2 q3
          have os := odds_same a g1 b g2 c (by omega)
          have ww := w_X_odds (d := d) a b c 100 w g1 g2 g3 h (fun r h' => rtk (some .long) r = true ∧ Q r h') (a + 1 - c) c 0 (by omega) (Nat.le_refl _) os.2
          rw [← e1, ← e2, ← e3] at ww
          simp [q1, q2, q3, q4, ww, f1, f2, f3, os.1, rtJ]
        · simp [q1, q2, q3, q4]
      · simp [q1, q2, q3]
    · simp [q1, q2]
  · simp [q1]
theorem c_M_odds {d : Nat} (q m k w : Int32) (h : AH) (mm : MLY h) (Q : Option Value → AH → Prop) : Cl (d + 3) q_M_odds [.ref 342, .int q, .int m, .int k, .int w] h Q ↔ Q (some (.long (oddsF q m k w))) (sI h 342 0 0) := by
  rw [e_M_odds, b_M_odds_0]
  simp only [c_M_within, Option.toList, List.cons_append, List.nil_append, b_M_odds_7, b_M_odds_8, b_M_odds_12, b_M_odds_13, b_M_odds_17, b_M_odds_18, b_M_odds_22, b_M_odds_23, b_M_odds_25, bw0, mo mm, true_and, rtJ]
  unfold oddsF
  by_cases q1 : 1 ≤ q ∧ q ≤ 9
  · by_cases q2 : 2 ≤ m ∧ m ≤ 9
    · by_cases q3 : 0 ≤ k ∧ k ≤ q
      · by_cases q4 : 0 ≤ w ∧ w ≤ 1
        · obtain ⟨a, b, c, e1, e2, e3, f1, f2, f3, g1, g2, g3, g4⟩ := odds_nat q1 q2 q3
          have os := odds_same a g1 b g2 c (by omega)
          have ww := w_M_odds (d := d) a b c 342 w g1 g2 g3 (sI h 342 0 0) (fun r h' => rtk (some .long) r = true ∧ Q r h') (a + 1 - c) c 0 (by omega) (Nat.le_refl _) (by rw [← os.1]; exact os.2)
          rw [← e1, ← e2, ← e3] at ww
          simp [q1, q2, q3, q4, ww, f1, f2, f3, rtJ]
        · simp [q1, q2, q3, q4]
      · simp [q1, q2, q3]
    · simp [q1, q2]
  · simp [q1]
