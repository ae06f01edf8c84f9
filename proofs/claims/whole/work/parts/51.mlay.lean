/-! where the cells of the reference lie: its object at 342, its rows behind it -/
def mrT : List Nat := [0, 343, 0, 0, 344, 345, 346, 0, 0, 347, 348, 349, 350, 351, 352, 0, 353, 354, 355, 356, 0, 0, 357, 358, 359, 360, 361, 362, 363, 364, 0, 365, 366, 367, 368, 369, 370, 371, 372, 373, 374, 375, 376]
def mkT : List Nat := [20, 20, 20, 23, 23, 22, 20, 22, 20, 22, 20, 20, 20, 20, 20, 20, 20, 20, 20, 20, 20, 20, 20, 20, 20, 20, 20, 20, 20, 23, 23, 22, 20, 23]
def mnT : List Nat := [1000, 1002, 1002, 1002, 23, 8, 8, 8, 8, 8, 5, 60, 60, 60, 6600, 6600, 3, 3, 5, 30, 20, 1100, 25, 25, 300, 300, 900, 4, 4, 8, 4, 4, 4, 48]
/-- the words of the reference, as it spells them in numbers -/
def wdT : List Nat := [2083, 8787, 620680, 964720, 1176170, 1891, 573, 19741, 30596128, 49306098923, 2851816, 21346313, 918648, 15248592, 310818, 223670, 38407417, 15047032, 30595897, 27011078, 316688, 77090, 1078055329]
def MLY (h : AH) : Prop := (hK h 342 = 11 ∧ (∀ k, k < 43 → fdk 11 k = 2 → hR h 342 k = mrT.getD k 0) ∧ (∀ a, a < 34 → hK h (343 + a) = mkT.getD a 0 ∧ hN h (343 + a) = mnT.getD a 0)) ∧ ∀ j, j < 23 → hJ h 347 j = Int64.ofNat (wdT.getD j 0)
theorem mo {h : AH} (m : MLY h) : hK h 342 = 11 := m.1.1
theorem mr_1 {h : AH} (m : MLY h) : hR h 342 1 = 343 := m.1.2.1 1 (by decide) (by decide)
theorem mr_4 {h : AH} (m : MLY h) : hR h 342 4 = 344 := m.1.2.1 4 (by decide) (by decide)
theorem mr_5 {h : AH} (m : MLY h) : hR h 342 5 = 345 := m.1.2.1 5 (by decide) (by decide)
theorem mr_6 {h : AH} (m : MLY h) : hR h 342 6 = 346 := m.1.2.1 6 (by decide) (by decide)
theorem mr_9 {h : AH} (m : MLY h) : hR h 342 9 = 347 := m.1.2.1 9 (by decide) (by decide)
theorem mr_10 {h : AH} (m : MLY h) : hR h 342 10 = 348 := m.1.2.1 10 (by decide) (by decide)
theorem mr_11 {h : AH} (m : MLY h) : hR h 342 11 = 349 := m.1.2.1 11 (by decide) (by decide)
theorem mr_12 {h : AH} (m : MLY h) : hR h 342 12 = 350 := m.1.2.1 12 (by decide) (by decide)
theorem mr_13 {h : AH} (m : MLY h) : hR h 342 13 = 351 := m.1.2.1 13 (by decide) (by decide)
theorem mr_14 {h : AH} (m : MLY h) : hR h 342 14 = 352 := m.1.2.1 14 (by decide) (by decide)
theorem mr_16 {h : AH} (m : MLY h) : hR h 342 16 = 353 := m.1.2.1 16 (by decide) (by decide)
theorem mr_17 {h : AH} (m : MLY h) : hR h 342 17 = 354 := m.1.2.1 17 (by decide) (by decide)
theorem mr_18 {h : AH} (m : MLY h) : hR h 342 18 = 355 := m.1.2.1 18 (by decide) (by decide)
theorem mr_19 {h : AH} (m : MLY h) : hR h 342 19 = 356 := m.1.2.1 19 (by decide) (by decide)
theorem mr_22 {h : AH} (m : MLY h) : hR h 342 22 = 357 := m.1.2.1 22 (by decide) (by decide)
theorem mr_23 {h : AH} (m : MLY h) : hR h 342 23 = 358 := m.1.2.1 23 (by decide) (by decide)
theorem mr_24 {h : AH} (m : MLY h) : hR h 342 24 = 359 := m.1.2.1 24 (by decide) (by decide)
theorem mr_25 {h : AH} (m : MLY h) : hR h 342 25 = 360 := m.1.2.1 25 (by decide) (by decide)
theorem mr_26 {h : AH} (m : MLY h) : hR h 342 26 = 361 := m.1.2.1 26 (by decide) (by decide)
theorem mr_27 {h : AH} (m : MLY h) : hR h 342 27 = 362 := m.1.2.1 27 (by decide) (by decide)
theorem mr_28 {h : AH} (m : MLY h) : hR h 342 28 = 363 := m.1.2.1 28 (by decide) (by decide)
theorem mr_29 {h : AH} (m : MLY h) : hR h 342 29 = 364 := m.1.2.1 29 (by decide) (by decide)
theorem mr_31 {h : AH} (m : MLY h) : hR h 342 31 = 365 := m.1.2.1 31 (by decide) (by decide)
theorem mr_32 {h : AH} (m : MLY h) : hR h 342 32 = 366 := m.1.2.1 32 (by decide) (by decide)
theorem mr_33 {h : AH} (m : MLY h) : hR h 342 33 = 367 := m.1.2.1 33 (by decide) (by decide)
theorem mr_34 {h : AH} (m : MLY h) : hR h 342 34 = 368 := m.1.2.1 34 (by decide) (by decide)
theorem mr_35 {h : AH} (m : MLY h) : hR h 342 35 = 369 := m.1.2.1 35 (by decide) (by decide)
theorem mr_36 {h : AH} (m : MLY h) : hR h 342 36 = 370 := m.1.2.1 36 (by decide) (by decide)
theorem mr_37 {h : AH} (m : MLY h) : hR h 342 37 = 371 := m.1.2.1 37 (by decide) (by decide)
theorem mr_38 {h : AH} (m : MLY h) : hR h 342 38 = 372 := m.1.2.1 38 (by decide) (by decide)
theorem mr_39 {h : AH} (m : MLY h) : hR h 342 39 = 373 := m.1.2.1 39 (by decide) (by decide)
theorem mr_40 {h : AH} (m : MLY h) : hR h 342 40 = 374 := m.1.2.1 40 (by decide) (by decide)
theorem mr_41 {h : AH} (m : MLY h) : hR h 342 41 = 375 := m.1.2.1 41 (by decide) (by decide)
theorem mr_42 {h : AH} (m : MLY h) : hR h 342 42 = 376 := m.1.2.1 42 (by decide) (by decide)
theorem mk_343 {h : AH} (m : MLY h) : hK h 343 = 20 := (m.1.2.2 0 (by decide)).1
theorem mn_343 {h : AH} (m : MLY h) : hN h 343 = 1000 := (m.1.2.2 0 (by decide)).2
theorem mk_344 {h : AH} (m : MLY h) : hK h 344 = 20 := (m.1.2.2 1 (by decide)).1
theorem mn_344 {h : AH} (m : MLY h) : hN h 344 = 1002 := (m.1.2.2 1 (by decide)).2
theorem mk_345 {h : AH} (m : MLY h) : hK h 345 = 20 := (m.1.2.2 2 (by decide)).1
theorem mn_345 {h : AH} (m : MLY h) : hN h 345 = 1002 := (m.1.2.2 2 (by decide)).2
theorem mk_346 {h : AH} (m : MLY h) : hK h 346 = 23 := (m.1.2.2 3 (by decide)).1
theorem mn_346 {h : AH} (m : MLY h) : hN h 346 = 1002 := (m.1.2.2 3 (by decide)).2
theorem mk_347 {h : AH} (m : MLY h) : hK h 347 = 23 := (m.1.2.2 4 (by decide)).1
theorem mn_347 {h : AH} (m : MLY h) : hN h 347 = 23 := (m.1.2.2 4 (by decide)).2
theorem mk_348 {h : AH} (m : MLY h) : hK h 348 = 22 := (m.1.2.2 5 (by decide)).1
theorem mn_348 {h : AH} (m : MLY h) : hN h 348 = 8 := (m.1.2.2 5 (by decide)).2
theorem mk_349 {h : AH} (m : MLY h) : hK h 349 = 20 := (m.1.2.2 6 (by decide)).1
theorem mn_349 {h : AH} (m : MLY h) : hN h 349 = 8 := (m.1.2.2 6 (by decide)).2
theorem mk_350 {h : AH} (m : MLY h) : hK h 350 = 22 := (m.1.2.2 7 (by decide)).1
theorem mn_350 {h : AH} (m : MLY h) : hN h 350 = 8 := (m.1.2.2 7 (by decide)).2
theorem mk_351 {h : AH} (m : MLY h) : hK h 351 = 20 := (m.1.2.2 8 (by decide)).1
theorem mn_351 {h : AH} (m : MLY h) : hN h 351 = 8 := (m.1.2.2 8 (by decide)).2
theorem mk_352 {h : AH} (m : MLY h) : hK h 352 = 22 := (m.1.2.2 9 (by decide)).1
theorem mn_352 {h : AH} (m : MLY h) : hN h 352 = 8 := (m.1.2.2 9 (by decide)).2
theorem mk_353 {h : AH} (m : MLY h) : hK h 353 = 20 := (m.1.2.2 10 (by decide)).1
theorem mn_353 {h : AH} (m : MLY h) : hN h 353 = 5 := (m.1.2.2 10 (by decide)).2
theorem mk_354 {h : AH} (m : MLY h) : hK h 354 = 20 := (m.1.2.2 11 (by decide)).1
theorem mn_354 {h : AH} (m : MLY h) : hN h 354 = 60 := (m.1.2.2 11 (by decide)).2
theorem mk_355 {h : AH} (m : MLY h) : hK h 355 = 20 := (m.1.2.2 12 (by decide)).1
theorem mn_355 {h : AH} (m : MLY h) : hN h 355 = 60 := (m.1.2.2 12 (by decide)).2
theorem mk_356 {h : AH} (m : MLY h) : hK h 356 = 20 := (m.1.2.2 13 (by decide)).1
theorem mn_356 {h : AH} (m : MLY h) : hN h 356 = 60 := (m.1.2.2 13 (by decide)).2
theorem mk_357 {h : AH} (m : MLY h) : hK h 357 = 20 := (m.1.2.2 14 (by decide)).1
theorem mn_357 {h : AH} (m : MLY h) : hN h 357 = 6600 := (m.1.2.2 14 (by decide)).2
theorem mk_358 {h : AH} (m : MLY h) : hK h 358 = 20 := (m.1.2.2 15 (by decide)).1
theorem mn_358 {h : AH} (m : MLY h) : hN h 358 = 6600 := (m.1.2.2 15 (by decide)).2
theorem mk_359 {h : AH} (m : MLY h) : hK h 359 = 20 := (m.1.2.2 16 (by decide)).1
theorem mn_359 {h : AH} (m : MLY h) : hN h 359 = 3 := (m.1.2.2 16 (by decide)).2
theorem mk_360 {h : AH} (m : MLY h) : hK h 360 = 20 := (m.1.2.2 17 (by decide)).1
theorem mn_360 {h : AH} (m : MLY h) : hN h 360 = 3 := (m.1.2.2 17 (by decide)).2
theorem mk_361 {h : AH} (m : MLY h) : hK h 361 = 20 := (m.1.2.2 18 (by decide)).1
theorem mn_361 {h : AH} (m : MLY h) : hN h 361 = 5 := (m.1.2.2 18 (by decide)).2
theorem mk_362 {h : AH} (m : MLY h) : hK h 362 = 20 := (m.1.2.2 19 (by decide)).1
theorem mn_362 {h : AH} (m : MLY h) : hN h 362 = 30 := (m.1.2.2 19 (by decide)).2
theorem mk_363 {h : AH} (m : MLY h) : hK h 363 = 20 := (m.1.2.2 20 (by decide)).1
theorem mn_363 {h : AH} (m : MLY h) : hN h 363 = 20 := (m.1.2.2 20 (by decide)).2
theorem mk_364 {h : AH} (m : MLY h) : hK h 364 = 20 := (m.1.2.2 21 (by decide)).1
theorem mn_364 {h : AH} (m : MLY h) : hN h 364 = 1100 := (m.1.2.2 21 (by decide)).2
theorem mk_365 {h : AH} (m : MLY h) : hK h 365 = 20 := (m.1.2.2 22 (by decide)).1
theorem mn_365 {h : AH} (m : MLY h) : hN h 365 = 25 := (m.1.2.2 22 (by decide)).2
theorem mk_366 {h : AH} (m : MLY h) : hK h 366 = 20 := (m.1.2.2 23 (by decide)).1
theorem mn_366 {h : AH} (m : MLY h) : hN h 366 = 25 := (m.1.2.2 23 (by decide)).2
theorem mk_367 {h : AH} (m : MLY h) : hK h 367 = 20 := (m.1.2.2 24 (by decide)).1
theorem mn_367 {h : AH} (m : MLY h) : hN h 367 = 300 := (m.1.2.2 24 (by decide)).2
theorem mk_368 {h : AH} (m : MLY h) : hK h 368 = 20 := (m.1.2.2 25 (by decide)).1
theorem mn_368 {h : AH} (m : MLY h) : hN h 368 = 300 := (m.1.2.2 25 (by decide)).2
theorem mk_369 {h : AH} (m : MLY h) : hK h 369 = 20 := (m.1.2.2 26 (by decide)).1
theorem mn_369 {h : AH} (m : MLY h) : hN h 369 = 900 := (m.1.2.2 26 (by decide)).2
theorem mk_370 {h : AH} (m : MLY h) : hK h 370 = 20 := (m.1.2.2 27 (by decide)).1
theorem mn_370 {h : AH} (m : MLY h) : hN h 370 = 4 := (m.1.2.2 27 (by decide)).2
theorem mk_371 {h : AH} (m : MLY h) : hK h 371 = 20 := (m.1.2.2 28 (by decide)).1
theorem mn_371 {h : AH} (m : MLY h) : hN h 371 = 4 := (m.1.2.2 28 (by decide)).2
theorem mk_372 {h : AH} (m : MLY h) : hK h 372 = 23 := (m.1.2.2 29 (by decide)).1
theorem mn_372 {h : AH} (m : MLY h) : hN h 372 = 8 := (m.1.2.2 29 (by decide)).2
theorem mk_373 {h : AH} (m : MLY h) : hK h 373 = 23 := (m.1.2.2 30 (by decide)).1
theorem mn_373 {h : AH} (m : MLY h) : hN h 373 = 4 := (m.1.2.2 30 (by decide)).2
theorem mk_374 {h : AH} (m : MLY h) : hK h 374 = 22 := (m.1.2.2 31 (by decide)).1
theorem mn_374 {h : AH} (m : MLY h) : hN h 374 = 4 := (m.1.2.2 31 (by decide)).2
theorem mk_375 {h : AH} (m : MLY h) : hK h 375 = 20 := (m.1.2.2 32 (by decide)).1
theorem mn_375 {h : AH} (m : MLY h) : hN h 375 = 4 := (m.1.2.2 32 (by decide)).2
theorem mk_376 {h : AH} (m : MLY h) : hK h 376 = 23 := (m.1.2.2 33 (by decide)).1
theorem mn_376 {h : AH} (m : MLY h) : hN h 376 = 48 := (m.1.2.2 33 (by decide)).2
theorem MLY.sI {h : AH} (m : MLY h) (a j : Nat) (v : Int32) : MLY (sI h a j v) := m
