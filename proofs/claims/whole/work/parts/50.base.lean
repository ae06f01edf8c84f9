/-! reading the heap behind a write -/
theorem hI_sI (h : AH) (a j : Nat) (v : Int32) (b k : Nat) : hI (sI h a j v) b k = if b = a then (if k = j then v else hI h b k) else hI h b k := rfl
theorem hJ_sI (h : AH) (a j : Nat) (v : Int32) : hJ (sI h a j v) = hJ h := rfl
theorem hR_sI (h : AH) (a j : Nat) (v : Int32) : hR (sI h a j v) = hR h := rfl
theorem hK_sI (h : AH) (a j : Nat) (v : Int32) : hK (sI h a j v) = hK h := rfl
theorem hN_sI (h : AH) (a j : Nat) (v : Int32) : hN (sI h a j v) = hN h := rfl
theorem hz_sI (h : AH) (a j : Nat) (v : Int32) : hz (sI h a j v) = hz h := rfl
theorem hu_sI (h : AH) (a j : Nat) (v : Int32) : hu (sI h a j v) = hu h := rfl
theorem hJ_sJ (h : AH) (a j : Nat) (v : Int64) (b k : Nat) : hJ (sJ h a j v) b k = if b = a then (if k = j then v else hJ h b k) else hJ h b k := rfl
theorem hI_sJ (h : AH) (a j : Nat) (v : Int64) : hI (sJ h a j v) = hI h := rfl
theorem hR_sJ (h : AH) (a j : Nat) (v : Int64) : hR (sJ h a j v) = hR h := rfl
theorem hK_sJ (h : AH) (a j : Nat) (v : Int64) : hK (sJ h a j v) = hK h := rfl
theorem hN_sJ (h : AH) (a j : Nat) (v : Int64) : hN (sJ h a j v) = hN h := rfl
theorem hz_sJ (h : AH) (a j : Nat) (v : Int64) : hz (sJ h a j v) = hz h := rfl
theorem hu_sJ (h : AH) (a j : Nat) (v : Int64) : hu (sJ h a j v) = hu h := rfl
theorem hR_sR (h : AH) (a j v b k : Nat) : hR (sR h a j v) b k = if b = a then (if k = j then v else hR h b k) else hR h b k := rfl
theorem hI_sR (h : AH) (a j v : Nat) : hI (sR h a j v) = hI h := rfl
theorem hJ_sR (h : AH) (a j v : Nat) : hJ (sR h a j v) = hJ h := rfl
theorem hK_sR (h : AH) (a j v : Nat) : hK (sR h a j v) = hK h := rfl
theorem hN_sR (h : AH) (a j v : Nat) : hN (sR h a j v) = hN h := rfl
theorem hz_sR (h : AH) (a j v : Nat) : hz (sR h a j v) = hz h := rfl
theorem hu_sR (h : AH) (a j v : Nat) : hu (sR h a j v) = hu h := rfl
theorem rtI (v : Int32) : rtk (some .int) (some (.int v)) = true := decide_eq_true rfl
theorem rtZ0 : rtk (some .boolean) (some (.int 0)) = true := by decide
theorem rtZ1 : rtk (some .boolean) (some (.int 1)) = true := by decide
theorem rtV : rtk none none = true := rfl
theorem rtJ (v : Int64) : rtk (some .long) (some (.long v)) = true := rfl
theorem rtA (c : String) (r : Nat) : rtk (some (.object c)) (some (.ref r)) = true := rfl
theorem rtB (c : FieldType) (r : Nat) : rtk (some (.array c)) (some (.ref r)) = true := rfl
theorem nlt_iff {a b : Int32} : ¬ a < b ↔ b ≤ a := Int32.not_lt
theorem nle_iff {a b : Int32} : ¬ a ≤ b ↔ b < a := Int32.not_le
theorem ixo_of {x : Int32} {n : Nat} (h0 : 0 ≤ x.toInt) (h1 : x.toInt < n) : ixo x n = true := by
  unfold ixo
  rw [Bool.and_eq_true]
  refine ⟨decide_eq_true (Int32.le_iff_toInt_le.mpr (by simpa using h0)), decide_eq_true ?_⟩
  show x.toInt.toNat < n
  omega
/-- the answer of 'within' -/
def bw (v a b : Int32) : Int32 := if a ≤ v ∧ v ≤ b then 1 else 0
theorem c_within {d : Nat} (v a b : Int32) (h : AH) (Q : Option Value → AH → Prop) : Cl (d + 1) q_X_within [.int v, .int a, .int b] h Q ↔ Q (some (.int (bw v a b))) h := by
  simp only [e_X_within, b_X_within_0, b_X_within_3, b_X_within_6, b_X_within_8, b_X_within_9]
  unfold bw
  by_cases h1 : v < a
  · have : ¬ a ≤ v := Int32.not_le.mpr h1
    simp [h1, this, rtZ0]
  · have h1' := Int32.not_lt.mp h1
    by_cases h2 : b < v
    · have : ¬ v ≤ b := Int32.not_le.mpr h2
      simp [h1, h2, this, rtZ0]
    · have h2' := Int32.not_lt.mp h2
      simp [h1, h2, h1', h2', rtZ1]
