/-! THE REFERENCE: what is told -/
theorem c_M_within {d : Nat} (v a b : Int32) (h : AH) (Q : Option Value → AH → Prop) : Cl (d + 1) q_M_within [.int v, .int a, .int b] h Q ↔ Q (some (.int (bw v a b))) h := by
  simp only [e_M_within, b_M_within_0, b_M_within_3, b_M_within_6, b_M_within_8, b_M_within_9]
  unfold bw
  by_cases h1 : v < a
  · have : ¬ a ≤ v := Int32.not_le.mpr h1
    simp [h1, this, rtZ0]
  · have h1' := Int32.not_lt.mp h1
    by_cases h2 : b < v
    · have : ¬ v ≤ b := Int32.not_le.mpr h2
      simp [h1, h2, this, rtZ0]
    · have h2' := Int32.not_lt.mp h2
      simp [h1, h2, h1', h2', rtZ1]
theorem i01_1 : i01 1 = true := by decide
theorem i01_0 : i01 0 = true := by decide
theorem bw0 {v a b : Int32} : bw v a b = 0 ↔ ¬ (a ≤ v ∧ v ≤ b) := by
  unfold bw
  by_cases q : a ≤ v ∧ v ≤ b
  · simp [q]
  · simp [q]
theorem ix_w {x : Int32} {n k : Nat} (h : 0 ≤ x ∧ x ≤ Int32.ofNat k) (hk : k < n) (hk2 : k < 2147483648) : ixo x n = true := by
  have h1 := Int32.le_iff_toInt_le.mp h.1
  have h2 := Int32.le_iff_toInt_le.mp h.2
  have h3 : (Int32.ofNat k).toInt = k := nI_toInt hk2
  rw [h3] at h2
  exact ixo_of (by simpa using h1) (by omega)
/-- what the reference's person() leaves -/
def mPerson (h : AH) (p f dn hd tr : Int32) : AH := sI (sI (sI (sI (sI h 348 p.toNatClampNeg 1) 349 p.toNatClampNeg f) 350 p.toNatClampNeg dn) 351 p.toNatClampNeg hd) 352 p.toNatClampNeg tr
theorem c_M_person {d : Nat} (p f dn hd tr : Int32) (h : AH) (m : MLY h) (b1 : i01 dn = true) (b2 : i01 tr = true) (Q : Option Value → AH → Prop) :
    Cl (d + 2) q_M_person [.ref 342, .int p, .int f, .int dn, .int hd, .int tr] h Q ↔ if (0 ≤ p ∧ p ≤ 7) ∧ (0 ≤ f ∧ f ≤ 9) ∧ (0 ≤ hd ∧ hd ≤ 511) then Q (some (.int 1)) (mPerson (sI h 342 0 0) p f dn hd tr) else Q (some (.int 0)) (sI h 342 0 0) := by
  simp only [e_M_person, b_M_person_0, b_M_person_7, b_M_person_8, b_M_person_12, b_M_person_13, b_M_person_17, b_M_person_18, b_M_person_20, c_M_within, Option.toList, List.cons_append, List.nil_append, bw0, hI_sI, hJ_sI, hR_sI, hK_sI, hN_sI, hz_sI, hu_sI, hJ_sJ, hI_sJ, hR_sJ, hK_sJ, hN_sJ, hz_sJ, hu_sJ, hR_sR, hI_sR, hJ_sR, hK_sR, hN_sR, hz_sR, hu_sR, mo m, mr_1 m, mr_4 m, mr_5 m, mr_6 m, mr_9 m, mr_10 m, mr_11 m, mr_12 m, mr_13 m, mr_14 m, mr_16 m, mr_17 m, mr_18 m, mr_19 m, mr_22 m, mr_23 m, mr_24 m, mr_25 m, mr_26 m, mr_27 m, mr_28 m, mr_29 m, mr_31 m, mr_32 m, mr_33 m, mr_34 m, mr_35 m, mr_36 m, mr_37 m, mr_38 m, mr_39 m, mr_40 m, mr_41 m, mr_42 m, mk_343 m, mn_343 m, mk_344 m, mn_344 m, mk_345 m, mn_345 m, mk_346 m, mn_346 m, mk_347 m, mn_347 m, mk_348 m, mn_348 m, mk_349 m, mn_349 m, mk_350 m, mn_350 m, mk_351 m, mn_351 m, mk_352 m, mn_352 m, mk_353 m, mn_353 m, mk_354 m, mn_354 m, mk_355 m, mn_355 m, mk_356 m, mn_356 m, mk_357 m, mn_357 m, mk_358 m, mn_358 m, mk_359 m, mn_359 m, mk_360 m, mn_360 m, mk_361 m, mn_361 m, mk_362 m, mn_362 m, mk_363 m, mn_363 m, mk_364 m, mn_364 m, mk_365 m, mn_365 m, mk_366 m, mn_366 m, mk_367 m, mn_367 m, mk_368 m, mn_368 m, mk_369 m, mn_369 m, mk_370 m, mn_370 m, mk_371 m, mn_371 m, mk_372 m, mn_372 m, mk_373 m, mn_373 m, mk_374 m, mn_374 m, mk_375 m, mn_375 m, mk_376 m, mn_376 m, true_and, rtZ0, rtZ1]
  by_cases q1 : 0 ≤ p ∧ p ≤ 7
  · by_cases q2 : 0 ≤ f ∧ f ≤ 9
    · by_cases q3 : 0 ≤ hd ∧ hd ≤ 511
      · have i1 : ixo p 8 = true := ix_w (k := 7) q1 (by decide) (by decide)
        simp [q1, q2, q3, i1, b1, b2, mPerson, i01_1]
      · simp [q1, q2, q3]
    · simp [q1, q2]
  · simp [q1]
