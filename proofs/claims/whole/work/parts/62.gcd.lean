/-! THE GREATEST COMMON DIVISOR, AND FRACTIONS IN LOWEST TERMS -/
theorem lg0 {b : Nat} (hb : b < 2 ^ 63) : lg_cmp (lN b) 0 = 0 ↔ b = 0 := by
  have e : (0 : Int64) = lN 0 := rfl
  unfold lg_cmp
  rw [e]
  by_cases q : b = 0
  · subst q; simp
  · have h1 : lN 0 < lN b := (pk_lLT (by decide) hb).mpr (by omega)
    simp [h1, q]
theorem lne0 {b : Nat} (hb : b < 2 ^ 63) : lN b = 0 ↔ b = 0 := by
  have e : (0 : Int64) = lN 0 := rfl
  rw [e, pk_lEQ hb (by decide)]
theorem w_M_common {d : Nat} (l0 l2 : Int64) (h : AH) (Q : Option Value → AH → Prop) : ∀ (b a : Nat) (v8 : Value), a < 2 ^ 63 → b < 2 ^ 63 → (Wp d P_M_common 18 [.long l0, .null, .long l2, .null, .long (lN a), .null, .long (lN b), .null, v8, .null] [] h Q ↔ Q (some (.long (lN (Nat.gcd a b)))) h) := by
  intro b
  induction b using Nat.strongRecOn with
  | ind b ih =>
    intro a v8 ha hb
    rw [b_M_common_18, lg0 hb]
    by_cases q : b = 0
    · subst q
      simp [b_M_common_31]
    · have hr : a % b < b := Nat.mod_lt _ (by omega)
      rw [b_M_common_22, lne0 hb, pk_lRem ha (by omega) hb, ih (a % b) hr b _ hb (by omega)]
      have e : Nat.gcd a b = Nat.gcd b (a % b) := by rw [Nat.gcd_comm, Nat.gcd_rec, Nat.gcd_comm]
      simp [q, e]
/-- the class's own: it ends in time -/
theorem w_X_common {d : Nat} (l0 l2 : Int64) (h : AH) (Q : Option Value → AH → Prop) : ∀ (n a b t : Nat) (v9 : Value), a < 2 ^ 63 → b < 2 ^ 63 → b < 2 ^ n → t + 2 * n < 200 → (Wp d P_X_commonDivisor 6 [.long l0, .null, .long l2, .null, .long (lN a), .null, .long (lN b), .null, .int (nI t), v9, .null] [] h Q ↔ Q (some (.long (lN (Nat.gcd a b)))) h) := by
  have stop : ∀ (a t : Nat) (v9 : Value), t < 200 → (Wp d P_X_commonDivisor 6 [.long l0, .null, .long l2, .null, .long (lN a), .null, .long (lN 0), .null, .int (nI t), v9, .null] [] h Q ↔ Q (some (.long (lN a))) h) := by
    intro a t v9 ht
    have h1 : ¬ (200 : Int32) ≤ nI t := by
      show ¬ nI 200 ≤ nI t
      rw [nI_leI (by decide) (by omega)]; omega
    rw [b_X_commonDivisor_6, b_X_commonDivisor_9, lg0 (by decide), b_X_commonDivisor_23]
    simp [h1]
  have step : ∀ (a b t : Nat) (v9 : Value), a < 2 ^ 63 → b < 2 ^ 63 → b ≠ 0 → t < 200 → (Wp d P_X_commonDivisor 6 [.long l0, .null, .long l2, .null, .long (lN a), .null, .long (lN b), .null, .int (nI t), v9, .null] [] h Q ↔ Wp d P_X_commonDivisor 6 [.long l0, .null, .long l2, .null, .long (lN b), .null, .long (lN (a % b)), .null, .int (nI (t + 1)), .long (lN (a % b)), .null] [] h Q) := by
    intro a b t v9 ha hb hb0 ht
    have h1 : ¬ (200 : Int32) ≤ nI t := by
      show ¬ nI 200 ≤ nI t
      rw [nI_leI (by decide) (by omega)]; omega
    rw [b_X_commonDivisor_6, b_X_commonDivisor_9, lg0 hb, b_X_commonDivisor_13, lne0 hb, pk_lRem ha (by omega) hb, nI_1]
    simp [h1, hb0]
  intro n
  induction n with
  | zero =>
    intro a b t v9 ha hb hn ht
    have : b = 0 := by omega
    subst this
    rw [stop a t v9 (by omega), Nat.gcd_zero_right]
  | succ n ih =>
    intro a b t v9 ha hb hn ht
    by_cases q : b = 0
    · subst q
      rw [stop a t v9 (by omega), Nat.gcd_zero_right]
    · have hr : a % b < b := Nat.mod_lt _ (by omega)
      have e1 : Nat.gcd a b = Nat.gcd b (a % b) := by rw [Nat.gcd_comm, Nat.gcd_rec, Nat.gcd_comm]
      rw [step a b t v9 ha hb q (by omega), e1]
      by_cases q2 : a % b = 0
      · rw [q2, stop b (t + 1) _ (by omega), Nat.gcd_zero_right]
      · have hr2 : b % (a % b) < a % b := Nat.mod_lt _ (by omega)
        have hsum : a % b + b % (a % b) ≤ b := by
          have h1 := Nat.div_add_mod b (a % b)
          have h2 : 1 ≤ b / (a % b) := Nat.div_pos (by omega) (by omega)
          have h3 : (a % b) * 1 ≤ (a % b) * (b / (a % b)) := Nat.mul_le_mul_left _ h2
          omega
        have hp : 2 ^ (n + 1) = 2 * 2 ^ n := by rw [Nat.pow_succ, Nat.mul_comm]
        have e2 : Nat.gcd b (a % b) = Nat.gcd (a % b) (b % (a % b)) := by rw [Nat.gcd_comm b, Nat.gcd_rec (a % b) b, Nat.gcd_comm]
        rw [step b (a % b) (t + 1) _ hb (by omega) q2 (by omega), e2]
        exact ih (a % b) (b % (a % b)) (t + 1 + 1) _ (by omega) (by omega) (by omega) (by omega)
