theorem c_M_item {d : Nat} (i : Int32) (h : AH) (m : MLY h) (Q : Option Value → AH → Prop) :
    Cl (d + 2) q_M_item [.ref 342, .int i] h Q ↔ if 0 ≤ i ∧ i ≤ 8 then Q (some (.int 1)) (sI (sI h 342 0 0) 342 15 i) else Q (some (.int 0)) (sI h 342 0 0) := by
  simp only [e_M_item, b_M_item_0, b_M_item_7, b_M_item_8, b_M_item_10, c_M_within, Option.toList, List.cons_append, List.nil_append, bw0, hI_sI, hJ_sI, hR_sI, hK_sI, hN_sI, hz_sI, hu_sI, hJ_sJ, hI_sJ, hR_sJ, hK_sJ, hN_sJ, hz_sJ, hu_sJ, hR_sR, hI_sR, hJ_sR, hK_sR, hN_sR, hz_sR, hu_sR, mo m, mr_1 m, mr_4 m, mr_5 m, mr_6 m, mr_9 m, mr_10 m, mr_11 m, mr_12 m, mr_13 m, mr_14 m, mr_16 m, mr_17 m, mr_18 m, mr_19 m, mr_22 m, mr_23 m, mr_24 m, mr_25 m, mr_26 m, mr_27 m, mr_28 m, mr_29 m, mr_31 m, mr_32 m, mr_33 m, mr_34 m, mr_35 m, mr_36 m, mr_37 m, mr_38 m, mr_39 m, mr_40 m, mr_41 m, mr_42 m, mk_343 m, mn_343 m, mk_344 m, mn_344 m, mk_345 m, mn_345 m, mk_346 m, mn_346 m, mk_347 m, mn_347 m, mk_348 m, mn_348 m, mk_349 m, mn_349 m, mk_350 m, mn_350 m, mk_351 m, mn_351 m, mk_352 m, mn_352 m, mk_353 m, mn_353 m, mk_354 m, mn_354 m, mk_355 m, mn_355 m, mk_356 m, mn_356 m, mk_357 m, mn_357 m, mk_358 m, mn_358 m, mk_359 m, mn_359 m, mk_360 m, mn_360 m, mk_361 m, mn_361 m, mk_362 m, mn_362 m, mk_363 m, mn_363 m, mk_364 m, mn_364 m, mk_365 m, mn_365 m, mk_366 m, mn_366 m, mk_367 m, mn_367 m, mk_368 m, mn_368 m, mk_369 m, mn_369 m, mk_370 m, mn_370 m, mk_371 m, mn_371 m, mk_372 m, mn_372 m, mk_373 m, mn_373 m, mk_374 m, mn_374 m, mk_375 m, mn_375 m, mk_376 m, mn_376 m, true_and, rtZ0, rtZ1]
  by_cases q : 0 ≤ i ∧ i ≤ 8 <;> simp [q]
theorem c_M_isPerson {d : Nat} (p : Int32) (h : AH) (m : MLY h) (Q : Option Value → AH → Prop) :
    Cl (d + 2) q_M_isPerson [.ref 342, .int p] h Q ↔ Q (some (.int (if (0 ≤ p ∧ p ≤ 7) ∧ ¬ hI h 348 p.toNatClampNeg = 0 then 1 else 0))) h := by
  simp only [e_M_isPerson, b_M_isPerson_0, b_M_isPerson_4, b_M_isPerson_5, b_M_isPerson_10, b_M_isPerson_12, b_M_isPerson_13, c_M_within, Option.toList, List.cons_append, List.nil_append, bw0, hI_sI, hJ_sI, hR_sI, hK_sI, hN_sI, hz_sI, hu_sI, hJ_sJ, hI_sJ, hR_sJ, hK_sJ, hN_sJ, hz_sJ, hu_sJ, hR_sR, hI_sR, hJ_sR, hK_sR, hN_sR, hz_sR, hu_sR, mo m, mr_1 m, mr_4 m, mr_5 m, mr_6 m, mr_9 m, mr_10 m, mr_11 m, mr_12 m, mr_13 m, mr_14 m, mr_16 m, mr_17 m, mr_18 m, mr_19 m, mr_22 m, mr_23 m, mr_24 m, mr_25 m, mr_26 m, mr_27 m, mr_28 m, mr_29 m, mr_31 m, mr_32 m, mr_33 m, mr_34 m, mr_35 m, mr_36 m, mr_37 m, mr_38 m, mr_39 m, mr_40 m, mr_41 m, mr_42 m, mk_343 m, mn_343 m, mk_344 m, mn_344 m, mk_345 m, mn_345 m, mk_346 m, mn_346 m, mk_347 m, mn_347 m, mk_348 m, mn_348 m, mk_349 m, mn_349 m, mk_350 m, mn_350 m, mk_351 m, mn_351 m, mk_352 m, mn_352 m, mk_353 m, mn_353 m, mk_354 m, mn_354 m, mk_355 m, mn_355 m, mk_356 m, mn_356 m, mk_357 m, mn_357 m, mk_358 m, mn_358 m, mk_359 m, mn_359 m, mk_360 m, mn_360 m, mk_361 m, mn_361 m, mk_362 m, mn_362 m, mk_363 m, mn_363 m, mk_364 m, mn_364 m, mk_365 m, mn_365 m, mk_366 m, mn_366 m, mk_367 m, mn_367 m, mk_368 m, mn_368 m, mk_369 m, mn_369 m, mk_370 m, mn_370 m, mk_371 m, mn_371 m, mk_372 m, mn_372 m, mk_373 m, mn_373 m, mk_374 m, mn_374 m, mk_375 m, mn_375 m, mk_376 m, mn_376 m, true_and, rtZ0, rtZ1]
  by_cases q : 0 ≤ p ∧ p ≤ 7
  · have i1 : ixo p 8 = true := ix_w (k := 7) q (by decide) (by decide)
    by_cases q2 : hI h 348 p.toNatClampNeg = 0 <;> simp [q, q2, i1, rtZ0, rtZ1]
  · simp [q, rtZ0, rtZ1]
theorem c_M_isPlan {d : Nat} (p : Int32) (h : AH) (m : MLY h) (Q : Option Value → AH → Prop) :
    Cl (d + 2) q_M_isPlan [.ref 342, .int p] h Q ↔ Q (some (.int (if (0 ≤ p ∧ p ≤ 3) ∧ 0 < hI h 353 p.toNatClampNeg then 1 else 0))) h := by
  simp only [e_M_isPlan, b_M_isPlan_0, b_M_isPlan_4, b_M_isPlan_5, b_M_isPlan_10, b_M_isPlan_12, b_M_isPlan_13, c_M_within, Option.toList, List.cons_append, List.nil_append, bw0, hI_sI, hJ_sI, hR_sI, hK_sI, hN_sI, hz_sI, hu_sI, hJ_sJ, hI_sJ, hR_sJ, hK_sJ, hN_sJ, hz_sJ, hu_sJ, hR_sR, hI_sR, hJ_sR, hK_sR, hN_sR, hz_sR, hu_sR, mo m, mr_1 m, mr_4 m, mr_5 m, mr_6 m, mr_9 m, mr_10 m, mr_11 m, mr_12 m, mr_13 m, mr_14 m, mr_16 m, mr_17 m, mr_18 m, mr_19 m, mr_22 m, mr_23 m, mr_24 m, mr_25 m, mr_26 m, mr_27 m, mr_28 m, mr_29 m, mr_31 m, mr_32 m, mr_33 m, mr_34 m, mr_35 m, mr_36 m, mr_37 m, mr_38 m, mr_39 m, mr_40 m, mr_41 m, mr_42 m, mk_343 m, mn_343 m, mk_344 m, mn_344 m, mk_345 m, mn_345 m, mk_346 m, mn_346 m, mk_347 m, mn_347 m, mk_348 m, mn_348 m, mk_349 m, mn_349 m, mk_350 m, mn_350 m, mk_351 m, mn_351 m, mk_352 m, mn_352 m, mk_353 m, mn_353 m, mk_354 m, mn_354 m, mk_355 m, mn_355 m, mk_356 m, mn_356 m, mk_357 m, mn_357 m, mk_358 m, mn_358 m, mk_359 m, mn_359 m, mk_360 m, mn_360 m, mk_361 m, mn_361 m, mk_362 m, mn_362 m, mk_363 m, mn_363 m, mk_364 m, mn_364 m, mk_365 m, mn_365 m, mk_366 m, mn_366 m, mk_367 m, mn_367 m, mk_368 m, mn_368 m, mk_369 m, mn_369 m, mk_370 m, mn_370 m, mk_371 m, mn_371 m, mk_372 m, mn_372 m, mk_373 m, mn_373 m, mk_374 m, mn_374 m, mk_375 m, mn_375 m, mk_376 m, mn_376 m, true_and, rtZ0, rtZ1]
  by_cases q : 0 ≤ p ∧ p ≤ 3
  · have i1 : ixo p 5 = true := ix_w (k := 3) q (by decide) (by decide)
    by_cases q2 : hI h 353 p.toNatClampNeg ≤ 0
    · have q3 : ¬ 0 < hI h 353 p.toNatClampNeg := Int32.not_lt.mpr q2
      simp [q, q2, q3, i1, rtZ0, rtZ1]
    · have q3 : 0 < hI h 353 p.toNatClampNeg := Int32.not_le.mp q2
      simp [q, q2, q3, i1, rtZ0, rtZ1]
  · simp [q, rtZ0, rtZ1]
theorem c_M_isReaderNumber {d : Nat} (r : Int32) (h : AH) (Q : Option Value → AH → Prop) : Cl (d + 2) q_M_isReaderNumber [.int r] h Q ↔ Q (some (.int (bw r 0 3))) h := by
  simp only [e_M_isReaderNumber, b_M_isReaderNumber_0, b_M_isReaderNumber_4, c_M_within, Option.toList, List.cons_append, List.nil_append]
  unfold bw
  split <;> simp [rtZ0, rtZ1]
theorem c_M_isFile {d : Nat} (r : Int32) (h : AH) (Q : Option Value → AH → Prop) : Cl (d + 2) q_M_isFile [.int r] h Q ↔ Q (some (.int (bw r (-9) 9))) h := by
  simp only [e_M_isFile, b_M_isFile_0, b_M_isFile_4, c_M_within, Option.toList, List.cons_append, List.nil_append]
  unfold bw
  split <;> simp [rtZ0, rtZ1]
theorem c_M_isFear {d : Nat} (r : Int32) (h : AH) (Q : Option Value → AH → Prop) : Cl (d + 2) q_M_isFear [.int r] h Q ↔ Q (some (.int (bw r 0 9))) h := by
  simp only [e_M_isFear, b_M_isFear_0, b_M_isFear_4, c_M_within, Option.toList, List.cons_append, List.nil_append]
  unfold bw
  split <;> simp [rtZ0, rtZ1]
theorem c_M_isSitting {d : Nat} (s : Int32) (h : AH) (m : MLY h) (Q : Option Value → AH → Prop) : Cl (d + 1) q_M_isSitting [.ref 342, .int s] h Q ↔ Q (some (.int (if 0 ≤ s ∧ s < hI h 342 30 then 1 else 0))) h := by
  simp only [e_M_isSitting, b_M_isSitting_0, b_M_isSitting_2, b_M_isSitting_6, b_M_isSitting_8, b_M_isSitting_9, hI_sI, hJ_sI, hR_sI, hK_sI, hN_sI, hz_sI, hu_sI, hJ_sJ, hI_sJ, hR_sJ, hK_sJ, hN_sJ, hz_sJ, hu_sJ, hR_sR, hI_sR, hJ_sR, hK_sR, hN_sR, hz_sR, hu_sR, mo m, mr_1 m, mr_4 m, mr_5 m, mr_6 m, mr_9 m, mr_10 m, mr_11 m, mr_12 m, mr_13 m, mr_14 m, mr_16 m, mr_17 m, mr_18 m, mr_19 m, mr_22 m, mr_23 m, mr_24 m, mr_25 m, mr_26 m, mr_27 m, mr_28 m, mr_29 m, mr_31 m, mr_32 m, mr_33 m, mr_34 m, mr_35 m, mr_36 m, mr_37 m, mr_38 m, mr_39 m, mr_40 m, mr_41 m, mr_42 m, mk_343 m, mn_343 m, mk_344 m, mn_344 m, mk_345 m, mn_345 m, mk_346 m, mn_346 m, mk_347 m, mn_347 m, mk_348 m, mn_348 m, mk_349 m, mn_349 m, mk_350 m, mn_350 m, mk_351 m, mn_351 m, mk_352 m, mn_352 m, mk_353 m, mn_353 m, mk_354 m, mn_354 m, mk_355 m, mn_355 m, mk_356 m, mn_356 m, mk_357 m, mn_357 m, mk_358 m, mn_358 m, mk_359 m, mn_359 m, mk_360 m, mn_360 m, mk_361 m, mn_361 m, mk_362 m, mn_362 m, mk_363 m, mn_363 m, mk_364 m, mn_364 m, mk_365 m, mn_365 m, mk_366 m, mn_366 m, mk_367 m, mn_367 m, mk_368 m, mn_368 m, mk_369 m, mn_369 m, mk_370 m, mn_370 m, mk_371 m, mn_371 m, mk_372 m, mn_372 m, mk_373 m, mn_373 m, mk_374 m, mn_374 m, mk_375 m, mn_375 m, mk_376 m, mn_376 m, true_and]
  by_cases q : s < 0
  · have q' : ¬ 0 ≤ s := Int32.not_le.mpr q
    simp [q, q', rtZ0, rtZ1]
  · have q' : 0 ≤ s := Int32.not_lt.mp q
    by_cases q2 : hI h 342 30 ≤ s
    · have q3 : ¬ s < hI h 342 30 := Int32.not_lt.mpr q2
      simp [q, q', q2, q3, rtZ0, rtZ1]
    · have q3 : s < hI h 342 30 := Int32.not_le.mp q2
      simp [q, q', q2, q3, rtZ0, rtZ1]
theorem bw1 {v a b : Int32} : ¬ bw v a b = 0 ↔ a ≤ v ∧ v ≤ b := by rw [bw0]; exact Classical.not_not
theorem c_M_areRates {d : Nat} (p r f s : Int32) (h : AH) (m : MLY h) (Q : Option Value → AH → Prop) :
    Cl (d + 3) q_M_areRates [.ref 342, .int p, .int r, .int f, .int s] h Q ↔ Q (some (.int (if ((0 ≤ p ∧ p ≤ 3) ∧ 0 < hI h 353 p.toNatClampNeg) ∧ (0 ≤ r ∧ r ≤ 3) ∧ (-9 ≤ f ∧ f ≤ 9) ∧ (1 ≤ s ∧ s ≤ 40) then 1 else 0))) h := by
  simp only [e_M_areRates, b_M_areRates_0, b_M_areRates_3, b_M_areRates_4, b_M_areRates_6, b_M_areRates_7, b_M_areRates_9, b_M_areRates_10, b_M_areRates_14, b_M_areRates_15, b_M_areRates_17, b_M_areRates_18, c_M_within, c_M_isPlan _ _ m, c_M_isReaderNumber, c_M_isFile, Option.toList, List.cons_append, List.nil_append, bw0, hI_sI, hJ_sI, hR_sI, hK_sI, hN_sI, hz_sI, hu_sI, hJ_sJ, hI_sJ, hR_sJ, hK_sJ, hN_sJ, hz_sJ, hu_sJ, hR_sR, hI_sR, hJ_sR, hK_sR, hN_sR, hz_sR, hu_sR, mo m, mr_1 m, mr_4 m, mr_5 m, mr_6 m, mr_9 m, mr_10 m, mr_11 m, mr_12 m, mr_13 m, mr_14 m, mr_16 m, mr_17 m, mr_18 m, mr_19 m, mr_22 m, mr_23 m, mr_24 m, mr_25 m, mr_26 m, mr_27 m, mr_28 m, mr_29 m, mr_31 m, mr_32 m, mr_33 m, mr_34 m, mr_35 m, mr_36 m, mr_37 m, mr_38 m, mr_39 m, mr_40 m, mr_41 m, mr_42 m, mk_343 m, mn_343 m, mk_344 m, mn_344 m, mk_345 m, mn_345 m, mk_346 m, mn_346 m, mk_347 m, mn_347 m, mk_348 m, mn_348 m, mk_349 m, mn_349 m, mk_350 m, mn_350 m, mk_351 m, mn_351 m, mk_352 m, mn_352 m, mk_353 m, mn_353 m, mk_354 m, mn_354 m, mk_355 m, mn_355 m, mk_356 m, mn_356 m, mk_357 m, mn_357 m, mk_358 m, mn_358 m, mk_359 m, mn_359 m, mk_360 m, mn_360 m, mk_361 m, mn_361 m, mk_362 m, mn_362 m, mk_363 m, mn_363 m, mk_364 m, mn_364 m, mk_365 m, mn_365 m, mk_366 m, mn_366 m, mk_367 m, mn_367 m, mk_368 m, mn_368 m, mk_369 m, mn_369 m, mk_370 m, mn_370 m, mk_371 m, mn_371 m, mk_372 m, mn_372 m, mk_373 m, mn_373 m, mk_374 m, mn_374 m, mk_375 m, mn_375 m, mk_376 m, mn_376 m, true_and]
  by_cases q1 : (0 ≤ p ∧ p ≤ 3) ∧ 0 < hI h 353 p.toNatClampNeg
  · by_cases q2 : 0 ≤ r ∧ r ≤ 3
    · by_cases q3 : -9 ≤ f ∧ f ≤ 9
      · by_cases q4 : 1 ≤ s ∧ s ≤ 40 <;> simp [q1, q2, q3, q4, rtZ0, rtZ1]
      · simp [q1, q2, q3, rtZ0]
    · simp [q1, q2, rtZ0]
  · simp [q1, rtZ0]
theorem c_M_thrown {d : Nat} (h : AH) (m : MLY h) (Q : Option Value → AH → Prop) : Cl (d + 1) q_M_thrown [.ref 342] h Q ↔ Q (some (.int (hI h 342 0))) h := by
  simp only [e_M_thrown, b_M_thrown_0, mo m, mr_1 m, mr_4 m, mr_5 m, mr_6 m, mr_9 m, mr_10 m, mr_11 m, mr_12 m, mr_13 m, mr_14 m, mr_16 m, mr_17 m, mr_18 m, mr_19 m, mr_22 m, mr_23 m, mr_24 m, mr_25 m, mr_26 m, mr_27 m, mr_28 m, mr_29 m, mr_31 m, mr_32 m, mr_33 m, mr_34 m, mr_35 m, mr_36 m, mr_37 m, mr_38 m, mr_39 m, mr_40 m, mr_41 m, mr_42 m, mk_343 m, mn_343 m, mk_344 m, mn_344 m, mk_345 m, mn_345 m, mk_346 m, mn_346 m, mk_347 m, mn_347 m, mk_348 m, mn_348 m, mk_349 m, mn_349 m, mk_350 m, mn_350 m, mk_351 m, mn_351 m, mk_352 m, mn_352 m, mk_353 m, mn_353 m, mk_354 m, mn_354 m, mk_355 m, mn_355 m, mk_356 m, mn_356 m, mk_357 m, mn_357 m, mk_358 m, mn_358 m, mk_359 m, mn_359 m, mk_360 m, mn_360 m, mk_361 m, mn_361 m, mk_362 m, mn_362 m, mk_363 m, mn_363 m, mk_364 m, mn_364 m, mk_365 m, mn_365 m, mk_366 m, mn_366 m, mk_367 m, mn_367 m, mk_368 m, mn_368 m, mk_369 m, mn_369 m, mk_370 m, mn_370 m, mk_371 m, mn_371 m, mk_372 m, mn_372 m, mk_373 m, mn_373 m, mk_374 m, mn_374 m, mk_375 m, mn_375 m, mk_376 m, mn_376 m, true_and, rtI]
