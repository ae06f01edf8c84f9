--deps: b1.startx
/-! THE REFERENCE'S CONSTRUCTOR -/
def SM (L : Nat) (xs : Nat → Int32) (z t u : Nat) (h : AH) : Prop := SZ L xs z t u h ∧ ∀ j, j < 23 → hJ h 347 j = Int64.ofNat (wdT.getD j 0)
section INM
variable {L : Nat} {xs : Nat → Int32} {d z t u : Nat} {h : AH} {Q : Option Value → AH → Prop}
theorem SZ.sJ (s : SZ L xs z t u h) (j : Nat) (v : Int64) : SZ L xs z t u (sJ h 347 j v) := by
  obtain ⟨s1, s4, s5, s6, s7, s8⟩ := s
  refine ⟨s1, s4, s5, s6, fun a ha => ?_, s8⟩
  funext y
  rw [hJ_sJ, if_neg ha, s7 a ha]
theorem SZ.sI (s : SZ L xs z t u h) (j : Nat) (v : Int32) : SZ L xs z t u (sI h 359 j v) := by
  obtain ⟨s1, s4, s5, s6, s7, s8⟩ := s
  refine ⟨s1, ?_, s5, fun a h1 h2 => ?_, s7, s8⟩
  · intro a ha
    obtain ⟨a1, a2, a3, a4⟩ := s4 a ha
    exact ⟨a1, a2, by rw [rI_sI (by omega)]; exact a3, a4⟩
  · rw [rI_sI h2]; exact s6 a h1 h2
theorem szpair (s : SZ L xs z t u h) (k n f : Nat) (x : Int32) (e : kT z = k ∧ nT z = n ∧ x.toNatClampNeg = n) (w : WK t = (342, f, z)) (hz1 : 342 < z) : SZ L xs (z + 1) (t + 1) (u + n) (sR (mkC h k x.toNatClampNeg x.toNatClampNeg) 342 f z) := (s.mk k n x e).sR 342 f z w (by omega) (by omega)
theorem SM.pair (s : SM L xs z t u h) (k n f : Nat) (x : Int32) (e : kT z = k ∧ nT z = n ∧ x.toNatClampNeg = n) (w : WK t = (342, f, z)) (hz1 : 347 < z) : SM L xs (z + 1) (t + 1) (u + n) (sR (mkC h k x.toNatClampNeg x.toNatClampNeg) 342 f z) := by
  refine ⟨szpair s.1 k n f x e w (by omega), fun j hj => ?_⟩
  show hJ (mkC h k x.toNatClampNeg x.toNatClampNeg) 347 j = _
  rw [hJ_mkC, if_neg (by rw [s.1.zz]; omega)]
  exact s.2 j hj
theorem k342 (s : SZ L xs z t u h) (k n : Nat) (x : Int32) (e : kT z = k ∧ nT z = n ∧ x.toNatClampNeg = n) (hz1 : 342 < z) : hK (mkC h k x.toNatClampNeg x.toNatClampNeg) 342 = 11 := ((s.mk k n x e).k 342 (by omega) (by omega)).trans (by decide +kernel)
theorem tq0 : Int32.toNatClampNeg 0 = 0 := by decide
theorem iq0 : ixo 0 23 = true := by decide
theorem tq1 : Int32.toNatClampNeg 1 = 1 := by decide
theorem iq1 : ixo 1 23 = true := by decide
theorem tq2 : Int32.toNatClampNeg 2 = 2 := by decide
theorem iq2 : ixo 2 23 = true := by decide
theorem tq3 : Int32.toNatClampNeg 3 = 3 := by decide
theorem iq3 : ixo 3 23 = true := by decide
theorem tq4 : Int32.toNatClampNeg 4 = 4 := by decide
theorem iq4 : ixo 4 23 = true := by decide
theorem tq5 : Int32.toNatClampNeg 5 = 5 := by decide
theorem iq5 : ixo 5 23 = true := by decide
theorem tq6 : Int32.toNatClampNeg 6 = 6 := by decide
theorem iq6 : ixo 6 23 = true := by decide
theorem tq7 : Int32.toNatClampNeg 7 = 7 := by decide
theorem iq7 : ixo 7 23 = true := by decide
theorem tq8 : Int32.toNatClampNeg 8 = 8 := by decide
theorem iq8 : ixo 8 23 = true := by decide
theorem tq9 : Int32.toNatClampNeg 9 = 9 := by decide
theorem iq9 : ixo 9 23 = true := by decide
theorem tq10 : Int32.toNatClampNeg 10 = 10 := by decide
theorem iq10 : ixo 10 23 = true := by decide
theorem tq11 : Int32.toNatClampNeg 11 = 11 := by decide
theorem iq11 : ixo 11 23 = true := by decide
theorem tq12 : Int32.toNatClampNeg 12 = 12 := by decide
theorem iq12 : ixo 12 23 = true := by decide
theorem tq13 : Int32.toNatClampNeg 13 = 13 := by decide
theorem iq13 : ixo 13 23 = true := by decide
theorem tq14 : Int32.toNatClampNeg 14 = 14 := by decide
theorem iq14 : ixo 14 23 = true := by decide
theorem tq15 : Int32.toNatClampNeg 15 = 15 := by decide
theorem iq15 : ixo 15 23 = true := by decide
theorem tq16 : Int32.toNatClampNeg 16 = 16 := by decide
theorem iq16 : ixo 16 23 = true := by decide
theorem tq17 : Int32.toNatClampNeg 17 = 17 := by decide
theorem iq17 : ixo 17 23 = true := by decide
theorem tq18 : Int32.toNatClampNeg 18 = 18 := by decide
theorem iq18 : ixo 18 23 = true := by decide
theorem tq19 : Int32.toNatClampNeg 19 = 19 := by decide
theorem iq19 : ixo 19 23 = true := by decide
theorem tq20 : Int32.toNatClampNeg 20 = 20 := by decide
theorem iq20 : ixo 20 23 = true := by decide
theorem tq21 : Int32.toNatClampNeg 21 = 21 := by decide
theorem iq21 : ixo 21 23 = true := by decide
theorem tq22 : Int32.toNatClampNeg 22 = 22 := by decide
theorem iq22 : ixo 22 23 = true := by decide
theorem c_M_init (s : SZ L xs 343 242 u h) (fin : ∀ h', SM L xs 377 276 (u + 1000 + 1002 + 1002 + 1002 + 23 + 8 + 8 + 8 + 8 + 8 + 5 + 60 + 60 + 60 + 6600 + 6600 + 3 + 3 + 5 + 30 + 20 + 1100 + 25 + 25 + 300 + 300 + 900 + 4 + 4 + 8 + 4 + 4 + 4 + 48) h' → (∀ j, j < 3 → hI h' 359 j = -1) → Q none h') : Cl (d + 2) q_M_init [.ref 342] h Q := by
  rw [e_M_init, b_M_init_0, Cl_obj (by decide)]
  simp only [Option.toList, List.cons_append, List.nil_append]
  refine ⟨(s.k 342 (by decide) (by decide)).trans (by decide +kernel), ?_⟩
  rw [b_M_init_2, s.zz]
  refine ⟨by decide, ?_⟩
  rw [b_M_init_5]
  refine ⟨k342 s 20 1000 1000 (by decide +kernel) (by decide), ?_⟩
  have s := szpair s 20 1000 1 1000 (by decide +kernel) (by decide +kernel) (by decide)
  generalize sR (mkC h 20 (Int32.toNatClampNeg 1000) (Int32.toNatClampNeg 1000)) 342 1 343 = h at s ⊢
  rw [b_M_init_6, s.zz]
  refine ⟨by decide, ?_⟩
  rw [b_M_init_9]
  refine ⟨k342 s 20 1002 1002 (by decide +kernel) (by decide), ?_⟩
  have s := szpair s 20 1002 4 1002 (by decide +kernel) (by decide +kernel) (by decide)
  generalize sR (mkC h 20 (Int32.toNatClampNeg 1002) (Int32.toNatClampNeg 1002)) 342 4 344 = h at s ⊢
  rw [b_M_init_10, s.zz]
  refine ⟨by decide, ?_⟩
  rw [b_M_init_13]
  refine ⟨k342 s 20 1002 1002 (by decide +kernel) (by decide), ?_⟩
  have s := szpair s 20 1002 5 1002 (by decide +kernel) (by decide +kernel) (by decide)
  generalize sR (mkC h 20 (Int32.toNatClampNeg 1002) (Int32.toNatClampNeg 1002)) 342 5 345 = h at s ⊢
  rw [b_M_init_14, s.zz]
  refine ⟨by decide, ?_⟩
  rw [b_M_init_17]
  refine ⟨k342 s 23 1002 1002 (by decide +kernel) (by decide), ?_⟩
  have s := szpair s 23 1002 6 1002 (by decide +kernel) (by decide +kernel) (by decide)
  generalize sR (mkC h 23 (Int32.toNatClampNeg 1002) (Int32.toNatClampNeg 1002)) 342 6 346 = h at s ⊢
  rw [b_M_init_18, s.zz]
  refine ⟨by decide, ?_⟩
  have s := s.mk 23 23 23 (by decide +kernel)
  generalize mkC h 23 (Int32.toNatClampNeg 23) (Int32.toNatClampNeg 23) = h at s ⊢
  have ka : hK h 347 = 23 := (s.k 347 (by decide) (by decide)).trans (by decide +kernel)
  have na : hN h 347 = 23 := (s.n 347 (by decide) (by decide) (by decide +kernel)).trans (by decide +kernel)
  have kb : hK h 342 = 11 := (s.k 342 (by decide) (by decide)).trans (by decide +kernel)
  rw [b_M_init_21]
  simp only [hK_sJ, hN_sJ, ka, na, kb, tq0, iq0, tq1, iq1, tq2, iq2, tq3, iq3, tq4, iq4, tq5, iq5, tq6, iq6, tq7, iq7, tq8, iq8, tq9, iq9, tq10, iq10, tq11, iq11, tq12, iq12, tq13, iq13, tq14, iq14, tq15, iq15, tq16, iq16, tq17, iq17, tq18, iq18, tq19, iq19, tq20, iq20, tq21, iq21, tq22, iq22, and_self, true_and]
  have s : SM L xs 348 247 (u + 1000 + 1002 + 1002 + 1002 + 23) (sR (sJ (sJ (sJ (sJ (sJ (sJ (sJ (sJ (sJ (sJ (sJ (sJ (sJ (sJ (sJ (sJ (sJ (sJ (sJ (sJ (sJ (sJ (sJ h 347 0 2083) 347 1 8787) 347 2 620680) 347 3 964720) 347 4 1176170) 347 5 1891) 347 6 573) 347 7 19741) 347 8 30596128) 347 9 49306098923) 347 10 2851816) 347 11 21346313) 347 12 918648) 347 13 15248592) 347 14 310818) 347 15 223670) 347 16 38407417) 347 17 15047032) 347 18 30595897) 347 19 27011078) 347 20 316688) 347 21 77090) 347 22 1078055329) 342 9 347) := by
    refine ⟨SZ.sR (((((((((((((((((((((((s.sJ 0 2083).sJ 1 8787).sJ 2 620680).sJ 3 964720).sJ 4 1176170).sJ 5 1891).sJ 6 573).sJ 7 19741).sJ 8 30596128).sJ 9 49306098923).sJ 10 2851816).sJ 11 21346313).sJ 12 918648).sJ 13 15248592).sJ 14 310818).sJ 15 223670).sJ 16 38407417).sJ 17 15047032).sJ 18 30595897).sJ 19 27011078).sJ 20 316688).sJ 21 77090).sJ 22 1078055329) 342 9 347 (by decide +kernel) (by decide) (by decide), fun j hj => ?_⟩
    have cj : j = 0 ∨ j = 1 ∨ j = 2 ∨ j = 3 ∨ j = 4 ∨ j = 5 ∨ j = 6 ∨ j = 7 ∨ j = 8 ∨ j = 9 ∨ j = 10 ∨ j = 11 ∨ j = 12 ∨ j = 13 ∨ j = 14 ∨ j = 15 ∨ j = 16 ∨ j = 17 ∨ j = 18 ∨ j = 19 ∨ j = 20 ∨ j = 21 ∨ j = 22 := by omega
    rcases cj with rfl | rfl | rfl | rfl | rfl | rfl | rfl | rfl | rfl | rfl | rfl | rfl | rfl | rfl | rfl | rfl | rfl | rfl | rfl | rfl | rfl | rfl | rfl <;> rfl
  clear ka na kb
  generalize sR (sJ (sJ (sJ (sJ (sJ (sJ (sJ (sJ (sJ (sJ (sJ (sJ (sJ (sJ (sJ (sJ (sJ (sJ (sJ (sJ (sJ (sJ (sJ h 347 0 2083) 347 1 8787) 347 2 620680) 347 3 964720) 347 4 1176170) 347 5 1891) 347 6 573) 347 7 19741) 347 8 30596128) 347 9 49306098923) 347 10 2851816) 347 11 21346313) 347 12 918648) 347 13 15248592) 347 14 310818) 347 15 223670) 347 16 38407417) 347 17 15047032) 347 18 30595897) 347 19 27011078) 347 20 316688) 347 21 77090) 347 22 1078055329) 342 9 347 = h at s ⊢
  rw [b_M_init_114, s.1.zz]
  refine ⟨by decide, ?_⟩
  rw [b_M_init_117]
  refine ⟨k342 s.1 22 8 8 (by decide +kernel) (by decide), ?_⟩
  have s := s.pair 22 8 10 8 (by decide +kernel) (by decide +kernel) (by decide)
  generalize sR (mkC h 22 (Int32.toNatClampNeg 8) (Int32.toNatClampNeg 8)) 342 10 348 = h at s ⊢
  rw [b_M_init_118, s.1.zz]
  refine ⟨by decide, ?_⟩
  rw [b_M_init_121]
  refine ⟨k342 s.1 20 8 8 (by decide +kernel) (by decide), ?_⟩
  have s := s.pair 20 8 11 8 (by decide +kernel) (by decide +kernel) (by decide)
  generalize sR (mkC h 20 (Int32.toNatClampNeg 8) (Int32.toNatClampNeg 8)) 342 11 349 = h at s ⊢
  rw [b_M_init_122, s.1.zz]
  refine ⟨by decide, ?_⟩
  rw [b_M_init_125]
  refine ⟨k342 s.1 22 8 8 (by decide +kernel) (by decide), ?_⟩
  have s := s.pair 22 8 12 8 (by decide +kernel) (by decide +kernel) (by decide)
  generalize sR (mkC h 22 (Int32.toNatClampNeg 8) (Int32.toNatClampNeg 8)) 342 12 350 = h at s ⊢
  rw [b_M_init_126, s.1.zz]
  refine ⟨by decide, ?_⟩
  rw [b_M_init_129]
  refine ⟨k342 s.1 20 8 8 (by decide +kernel) (by decide), ?_⟩
  have s := s.pair 20 8 13 8 (by decide +kernel) (by decide +kernel) (by decide)
  generalize sR (mkC h 20 (Int32.toNatClampNeg 8) (Int32.toNatClampNeg 8)) 342 13 351 = h at s ⊢
  rw [b_M_init_130, s.1.zz]
  refine ⟨by decide, ?_⟩
  rw [b_M_init_133]
  refine ⟨k342 s.1 22 8 8 (by decide +kernel) (by decide), ?_⟩
  have s := s.pair 22 8 14 8 (by decide +kernel) (by decide +kernel) (by decide)
  generalize sR (mkC h 22 (Int32.toNatClampNeg 8) (Int32.toNatClampNeg 8)) 342 14 352 = h at s ⊢
  rw [b_M_init_134, s.1.zz]
  refine ⟨by decide, ?_⟩
  rw [b_M_init_137]
  refine ⟨k342 s.1 20 5 5 (by decide +kernel) (by decide), ?_⟩
  have s := s.pair 20 5 16 5 (by decide +kernel) (by decide +kernel) (by decide)
  generalize sR (mkC h 20 (Int32.toNatClampNeg 5) (Int32.toNatClampNeg 5)) 342 16 353 = h at s ⊢
  rw [b_M_init_138, s.1.zz]
  refine ⟨by decide, ?_⟩
  rw [b_M_init_141]
  refine ⟨k342 s.1 20 60 60 (by decide +kernel) (by decide), ?_⟩
  have s := s.pair 20 60 17 60 (by decide +kernel) (by decide +kernel) (by decide)
  generalize sR (mkC h 20 (Int32.toNatClampNeg 60) (Int32.toNatClampNeg 60)) 342 17 354 = h at s ⊢
  rw [b_M_init_142, s.1.zz]
  refine ⟨by decide, ?_⟩
  rw [b_M_init_145]
  refine ⟨k342 s.1 20 60 60 (by decide +kernel) (by decide), ?_⟩
  have s := s.pair 20 60 18 60 (by decide +kernel) (by decide +kernel) (by decide)
  generalize sR (mkC h 20 (Int32.toNatClampNeg 60) (Int32.toNatClampNeg 60)) 342 18 355 = h at s ⊢
  rw [b_M_init_146, s.1.zz]
  refine ⟨by decide, ?_⟩
  rw [b_M_init_149]
  refine ⟨k342 s.1 20 60 60 (by decide +kernel) (by decide), ?_⟩
  have s := s.pair 20 60 19 60 (by decide +kernel) (by decide +kernel) (by decide)
  generalize sR (mkC h 20 (Int32.toNatClampNeg 60) (Int32.toNatClampNeg 60)) 342 19 356 = h at s ⊢
  rw [b_M_init_150, s.1.zz]
  refine ⟨by decide, ?_⟩
  rw [b_M_init_153]
  refine ⟨k342 s.1 20 6600 6600 (by decide +kernel) (by decide), ?_⟩
  have s := s.pair 20 6600 22 6600 (by decide +kernel) (by decide +kernel) (by decide)
  generalize sR (mkC h 20 (Int32.toNatClampNeg 6600) (Int32.toNatClampNeg 6600)) 342 22 357 = h at s ⊢
  rw [b_M_init_154, s.1.zz]
  refine ⟨by decide, ?_⟩
  rw [b_M_init_157]
  refine ⟨k342 s.1 20 6600 6600 (by decide +kernel) (by decide), ?_⟩
  have s := s.pair 20 6600 23 6600 (by decide +kernel) (by decide +kernel) (by decide)
  generalize sR (mkC h 20 (Int32.toNatClampNeg 6600) (Int32.toNatClampNeg 6600)) 342 23 358 = h at s ⊢
  rw [b_M_init_158, s.1.zz]
  refine ⟨by decide, ?_⟩
  rw [b_M_init_161]
  refine ⟨k342 s.1 20 3 3 (by decide +kernel) (by decide), ?_⟩
  have s := s.pair 20 3 24 3 (by decide +kernel) (by decide +kernel) (by decide)
  generalize sR (mkC h 20 (Int32.toNatClampNeg 3) (Int32.toNatClampNeg 3)) 342 24 359 = h at s ⊢
  rw [b_M_init_162, s.1.zz]
  refine ⟨by decide, ?_⟩
  rw [b_M_init_165]
  refine ⟨k342 s.1 20 3 3 (by decide +kernel) (by decide), ?_⟩
  have s := s.pair 20 3 25 3 (by decide +kernel) (by decide +kernel) (by decide)
  generalize sR (mkC h 20 (Int32.toNatClampNeg 3) (Int32.toNatClampNeg 3)) 342 25 360 = h at s ⊢
  rw [b_M_init_166, s.1.zz]
  refine ⟨by decide, ?_⟩
  rw [b_M_init_169]
  refine ⟨k342 s.1 20 5 5 (by decide +kernel) (by decide), ?_⟩
  have s := s.pair 20 5 26 5 (by decide +kernel) (by decide +kernel) (by decide)
  generalize sR (mkC h 20 (Int32.toNatClampNeg 5) (Int32.toNatClampNeg 5)) 342 26 361 = h at s ⊢
  rw [b_M_init_170, s.1.zz]
  refine ⟨by decide, ?_⟩
  rw [b_M_init_173]
  refine ⟨k342 s.1 20 30 30 (by decide +kernel) (by decide), ?_⟩
  have s := s.pair 20 30 27 30 (by decide +kernel) (by decide +kernel) (by decide)
  generalize sR (mkC h 20 (Int32.toNatClampNeg 30) (Int32.toNatClampNeg 30)) 342 27 362 = h at s ⊢
  rw [b_M_init_174, s.1.zz]
  refine ⟨by decide, ?_⟩
  rw [b_M_init_177]
  refine ⟨k342 s.1 20 20 20 (by decide +kernel) (by decide), ?_⟩
  have s := s.pair 20 20 28 20 (by decide +kernel) (by decide +kernel) (by decide)
  generalize sR (mkC h 20 (Int32.toNatClampNeg 20) (Int32.toNatClampNeg 20)) 342 28 363 = h at s ⊢
  rw [b_M_init_178, s.1.zz]
  refine ⟨by decide, ?_⟩
  rw [b_M_init_181]
  refine ⟨k342 s.1 20 1100 1100 (by decide +kernel) (by decide), ?_⟩
  have s := s.pair 20 1100 29 1100 (by decide +kernel) (by decide +kernel) (by decide)
  generalize sR (mkC h 20 (Int32.toNatClampNeg 1100) (Int32.toNatClampNeg 1100)) 342 29 364 = h at s ⊢
  rw [b_M_init_182, s.1.zz]
  refine ⟨by decide, ?_⟩
  rw [b_M_init_185]
  refine ⟨k342 s.1 20 25 25 (by decide +kernel) (by decide), ?_⟩
  have s := s.pair 20 25 31 25 (by decide +kernel) (by decide +kernel) (by decide)
  generalize sR (mkC h 20 (Int32.toNatClampNeg 25) (Int32.toNatClampNeg 25)) 342 31 365 = h at s ⊢
  rw [b_M_init_186, s.1.zz]
  refine ⟨by decide, ?_⟩
  rw [b_M_init_189]
  refine ⟨k342 s.1 20 25 25 (by decide +kernel) (by decide), ?_⟩
  have s := s.pair 20 25 32 25 (by decide +kernel) (by decide +kernel) (by decide)
  generalize sR (mkC h 20 (Int32.toNatClampNeg 25) (Int32.toNatClampNeg 25)) 342 32 366 = h at s ⊢
  rw [b_M_init_190, s.1.zz]
  refine ⟨by decide, ?_⟩
  rw [b_M_init_193]
  refine ⟨k342 s.1 20 300 300 (by decide +kernel) (by decide), ?_⟩
  have s := s.pair 20 300 33 300 (by decide +kernel) (by decide +kernel) (by decide)
  generalize sR (mkC h 20 (Int32.toNatClampNeg 300) (Int32.toNatClampNeg 300)) 342 33 367 = h at s ⊢
  rw [b_M_init_194, s.1.zz]
  refine ⟨by decide, ?_⟩
  rw [b_M_init_197]
  refine ⟨k342 s.1 20 300 300 (by decide +kernel) (by decide), ?_⟩
  have s := s.pair 20 300 34 300 (by decide +kernel) (by decide +kernel) (by decide)
  generalize sR (mkC h 20 (Int32.toNatClampNeg 300) (Int32.toNatClampNeg 300)) 342 34 368 = h at s ⊢
  rw [b_M_init_198, s.1.zz]
  refine ⟨by decide, ?_⟩
  rw [b_M_init_201]
  refine ⟨k342 s.1 20 900 900 (by decide +kernel) (by decide), ?_⟩
  have s := s.pair 20 900 35 900 (by decide +kernel) (by decide +kernel) (by decide)
  generalize sR (mkC h 20 (Int32.toNatClampNeg 900) (Int32.toNatClampNeg 900)) 342 35 369 = h at s ⊢
  rw [b_M_init_202, s.1.zz]
  refine ⟨by decide, ?_⟩
  rw [b_M_init_205]
  refine ⟨k342 s.1 20 4 4 (by decide +kernel) (by decide), ?_⟩
  have s := s.pair 20 4 36 4 (by decide +kernel) (by decide +kernel) (by decide)
  generalize sR (mkC h 20 (Int32.toNatClampNeg 4) (Int32.toNatClampNeg 4)) 342 36 370 = h at s ⊢
  rw [b_M_init_206, s.1.zz]
  refine ⟨by decide, ?_⟩
  rw [b_M_init_209]
  refine ⟨k342 s.1 20 4 4 (by decide +kernel) (by decide), ?_⟩
  have s := s.pair 20 4 37 4 (by decide +kernel) (by decide +kernel) (by decide)
  generalize sR (mkC h 20 (Int32.toNatClampNeg 4) (Int32.toNatClampNeg 4)) 342 37 371 = h at s ⊢
  rw [b_M_init_210, s.1.zz]
  refine ⟨by decide, ?_⟩
  rw [b_M_init_213]
  refine ⟨k342 s.1 23 8 8 (by decide +kernel) (by decide), ?_⟩
  have s := s.pair 23 8 38 8 (by decide +kernel) (by decide +kernel) (by decide)
  generalize sR (mkC h 23 (Int32.toNatClampNeg 8) (Int32.toNatClampNeg 8)) 342 38 372 = h at s ⊢
  rw [b_M_init_214, s.1.zz]
  refine ⟨by decide, ?_⟩
  rw [b_M_init_217]
  refine ⟨k342 s.1 23 4 4 (by decide +kernel) (by decide), ?_⟩
  have s := s.pair 23 4 39 4 (by decide +kernel) (by decide +kernel) (by decide)
  generalize sR (mkC h 23 (Int32.toNatClampNeg 4) (Int32.toNatClampNeg 4)) 342 39 373 = h at s ⊢
  rw [b_M_init_218, s.1.zz]
  refine ⟨by decide, ?_⟩
  rw [b_M_init_221]
  refine ⟨k342 s.1 22 4 4 (by decide +kernel) (by decide), ?_⟩
  have s := s.pair 22 4 40 4 (by decide +kernel) (by decide +kernel) (by decide)
  generalize sR (mkC h 22 (Int32.toNatClampNeg 4) (Int32.toNatClampNeg 4)) 342 40 374 = h at s ⊢
  rw [b_M_init_222, s.1.zz]
  refine ⟨by decide, ?_⟩
  rw [b_M_init_225]
  refine ⟨k342 s.1 20 4 4 (by decide +kernel) (by decide), ?_⟩
  have s := s.pair 20 4 41 4 (by decide +kernel) (by decide +kernel) (by decide)
  generalize sR (mkC h 20 (Int32.toNatClampNeg 4) (Int32.toNatClampNeg 4)) 342 41 375 = h at s ⊢
  rw [b_M_init_226, s.1.zz]
  refine ⟨by decide, ?_⟩
  rw [b_M_init_229]
  refine ⟨k342 s.1 23 48 48 (by decide +kernel) (by decide), ?_⟩
  have s := s.pair 23 48 42 48 (by decide +kernel) (by decide +kernel) (by decide)
  generalize sR (mkC h 23 (Int32.toNatClampNeg 48) (Int32.toNatClampNeg 48)) 342 42 376 = h at s ⊢
  rw [b_M_init_230, b_M_init_232]
  have ka : hK h 359 = 20 := (s.1.k 359 (by decide) (by decide)).trans (by decide +kernel)
  have na : hN h 359 = 3 := (s.1.n 359 (by decide) (by decide) (by decide +kernel)).trans (by decide +kernel)
  have kb : hK h 342 = 11 := (s.1.k 342 (by decide) (by decide)).trans (by decide +kernel)
  have rb : hR h 342 24 = 359 := s.1.r 258 (by decide) (by decide +kernel)
  simp only [show ¬ (3 : Int32) ≤ 0 by decide, b_M_init_235, ka, na, kb, rb, show ixo 0 3 = true by decide, tq0, mem20, not_false_eq_true, true_implies, false_implies, true_and, and_true]
  rw [b_M_init_232]
  simp only [show (0 : Int32) + 1 = 1 by decide, show ¬ (3 : Int32) ≤ 1 by decide, b_M_init_235, hK_sI, hN_sI, hR_sI, ka, na, kb, rb, show ixo 1 3 = true by decide, tq1, mem20, not_false_eq_true, true_implies, false_implies, true_and, and_true]
  rw [b_M_init_232]
  simp only [show (1 : Int32) + 1 = 2 by decide, show ¬ (3 : Int32) ≤ 2 by decide, b_M_init_235, hK_sI, hN_sI, hR_sI, ka, na, kb, rb, show ixo 2 3 = true by decide, tq2, mem20, not_false_eq_true, true_implies, false_implies, true_and, and_true]
  rw [b_M_init_232]
  simp only [show (2 : Int32) + 1 = 3 by decide, Int32.le_refl, b_M_init_242, not_true_eq_false, true_implies, false_implies, and_true]
  refine ⟨rtV, fin _ ⟨((s.1.sI 0 (-1)).sI 1 (-1)).sI 2 (-1), fun j hj => s.2 j hj⟩ ?_⟩
  intro j hj
  have cj : j = 0 ∨ j = 1 ∨ j = 2 := by omega
  rcases cj with rfl | rfl | rfl <;> simp [hI_sI]
/-! THE INVARIANT AT THE BEGIN -/
theorem W_mem {q : Nat × Nat × Nat} (s : SZ L xs z 276 u h) (m : q ∈ Wl) : hR h q.1 q.2.1 = q.2.2 := by
  obtain ⟨i, hi, e⟩ := List.getElem_of_mem m
  have hl : Wl.length = 276 := by decide +kernel
  have ew : WK i = (q.1, q.2.1, q.2.2) := by
    unfold WK
    rw [List.getD_eq_getElem?_getD, List.getElem?_eq_getElem hi, e]
    rfl
  exact s.r i (by omega) ew
set_option maxRecDepth 100000 in
theorem xr_W : ∀ q ∈ xrL, q ∈ Wl := by decide +kernel
set_option maxRecDepth 100000 in
theorem mr_W : ∀ k, k < 43 → fdk 11 k = 2 → (342, k, mrT.getD k 0) ∈ Wl := by decide +kernel
set_option maxRecDepth 100000 in
theorem rd_W : ∀ r, r < 4 → (170 + 5 * r, 0, 174 + 5 * r) ∈ Wl := by decide +kernel
theorem rd_K : ∀ r, r < 4 → kT (174 + 5 * r) = 20 ∧ nT (174 + 5 * r) = 0 := by decide +kernel
theorem kT_x {a : Nat} (ha : a < 242) : kT (100 + a) = xkT.getD a 0 ∧ nT (100 + a) = xnT.getD a 0 := by
  unfold kT nT
  rw [if_pos (by omega), if_pos (by omega), Nat.add_sub_cancel_left]
  exact ⟨rfl, rfl⟩
theorem kT_m : ∀ a, a < 34 → kT (343 + a) = mkT.getD a 0 ∧ nT (343 + a) = mnT.getD a 0 ∧ 20 ≤ kT (343 + a) := by decide +kernel
theorem Inv.start (s : SM L xs 378 276 u h) (hu0 : u ≤ 40000) (e59 : ∀ j, j < 3 → hI h 359 j = -1) : Inv L xs 0 h := by
  have s1 := s.1
  have x : XLY h := by
    refine ⟨fun a ha => ?_, fun q hq => W_mem s1 (xr_W q hq)⟩
    obtain ⟨k1, k2⟩ := kT_x ha
    obtain ⟨k3, k4⟩ := s1.2.2.1 (100 + a) (by omega) (by omega)
    rw [k1, k2] at k4
    exact ⟨k3.trans k1, k4⟩
  have m : MLY h := by
    refine ⟨⟨(s1.k 342 (by decide) (by decide)).trans (by decide +kernel), fun k hk e => W_mem s1 (mr_W k hk e), fun a ha => ?_⟩, s.2⟩
    obtain ⟨k1, k2, k3⟩ := kT_m a ha
    exact ⟨(s1.k (343 + a) (by omega) (by omega)).trans k1, (s1.n (343 + a) (by omega) (by omega) k3).trans k2⟩
  have zI : ∀ a j, 100 ≤ a → a ≠ 359 → hI h a j = 0 := fun a j h1 h2 => by rw [s1.2.2.2.1 a h1 h2]
  have zJ : ∀ a j, a ≠ 347 → hJ h a j = 0 := fun a j h1 => by rw [s1.2.2.2.2.1 a h1]
  have ty : ∀ r J JB P PB, 100 ≤ r → r < 359 → r + 1 ≠ 359 → J ≠ 347 → P ≠ 347 → ITy1 h r J JB P PB 0 := by
    intro r J JB P PB h1 h2 h3 h4 h5
    refine ⟨fun i hi => ⟨0, Nat.le_refl _, ?_, ?_⟩, fun i hi => ⟨0, Nat.le_refl _, ?_, ?_⟩⟩
    · exact zI _ _ (by omega) h3
    · exact zJ _ _ h4
    · exact zI _ _ h1 (by omega)
    · exact zJ _ _ h5
  refine ⟨s1.2.1, x, m, ⟨(s1.k 377 (by decide) (by decide)).trans (by decide +kernel), (s1.n 377 (by decide) (by decide) (by decide +kernel)).trans (by decide +kernel)⟩, ?_, ?_, ?_, ?_, ?_, ?_, ?_, ?_, ?_, ?_, ?_⟩
  · intro p hp
    rw [zI (146 + p) 0 (by omega) (by omega), zI (146 + p) 1 (by omega) (by omega), zI (146 + p) 2 (by omega) (by omega), zI (146 + p) 3 (by omega) (by omega), zI (146 + p) 4 (by omega) (by omega), zI 348 p (by omega) (by omega), zI 349 p (by omega) (by omega), zI 350 p (by omega) (by omega), zI 351 p (by omega) (by omega), zI 352 p (by omega) (by omega)]
    decide
  · unfold IIt
    rw [zI 122 3 (by omega) (by omega), zI 342 15 (by omega) (by omega)]
    decide
  · intro p hp
    exact ⟨0, fun _ => 0, Nat.zero_le _, zI _ _ (by omega) (by omega), zI _ _ (by omega) (by omega), fun q hq => absurd hq (Nat.not_lt_zero q)⟩
  · exact ⟨0, Nat.zero_le _, zI _ _ (by omega) (by omega), zI _ _ (by omega) (by omega), fun i hi => absurd hi (Nat.not_lt_zero i)⟩
  · have r0 : hR h 123 0 = 127 := W_mem s1 (q := (123, 0, 127)) (by decide +kernel)
    refine ⟨fun _ => none, ⟨⟨prg_123 x, ?_, ?_, ?_, ?_⟩, fun ln hl => ⟨?_, trivial⟩⟩, fun ln hl => ⟨?_, trivial⟩, zI _ _ (by omega) (by omega)⟩
    · rw [r0]; exact (s1.k 127 (by decide) (by decide)).trans (by decide +kernel)
    · rw [r0, s1.n 127 (by decide) (by decide) (by decide +kernel)]; decide +kernel
    · exact Or.inl r0
    · rw [r0, s1.zz]; decide
    · show hI h (123 + 2) ln ≤ hI h (123 + 1) ln
      rw [zI _ _ (by omega) (by omega), zI _ _ (by omega) (by omega)]
      exact Int32.le_refl _
    · exact e59 ln hl
  · intro r hr
    have r0 : hR h (170 + 5 * r) 0 = 174 + 5 * r := W_mem s1 (rd_W r hr)
    obtain ⟨k1, k2⟩ := rd_K r hr
    refine ⟨0, fun _ => [], ⟨⟨prg_rd x hr, ?_, ?_, ?_, ?_⟩, Nat.zero_le _, zI _ _ (by omega) (by omega), fun k hk => absurd hk (Nat.not_lt_zero k)⟩, Nat.zero_le _, zI _ _ (by omega) (by omega), fun k hk => absurd hk (Nat.not_lt_zero k)⟩
    · rw [r0]; exact (s1.k _ (by omega) (by omega)).trans k1
    · rw [r0, s1.n _ (by omega) (by omega) (by omega), k2]; decide
    · rw [r0]; omega
    · rw [r0, s1.zz]; omega
  · exact ⟨0, Nat.zero_le _, zI _ _ (by omega) (by omega), zI _ _ (by omega) (by omega)⟩
  · intro q hq
    refine ⟨0, fun _ => 0, Nat.zero_le _, zI _ _ (by omega) (by omega), zI _ _ (by omega) (by omega), ?_, ?_, fun k hk => absurd hk (Nat.not_lt_zero k), fun k hk => absurd hk (Nat.not_lt_zero k)⟩
    · rw [zI _ _ (by omega) (by omega), zI _ _ (by omega) (by omega)]
    · rw [zI _ _ (by omega) (by omega)]; exact Int32.le_refl _
  · exact ty 105 372 0 373 0 (by omega) (by omega) (by omega) (by omega) (by omega)
  · intro k hk
    refine ⟨?_, ?_, ⟨0, Nat.zero_le _, zI _ _ (by omega) (by omega), zI _ _ (by omega) (by omega)⟩, ty _ _ _ _ _ (by omega) (by omega) (by omega) (by omega) (by omega)⟩
    · rw [zI _ _ (by omega) (by omega)]; decide
    · rw [zI _ _ (by omega) (by omega), zI _ _ (by omega) (by omega)]
  · rw [s1.zz, s1.1.2.1]
    exact ⟨Nat.le_refl _, Nat.le_refl _, hu0⟩
theorem SZ.h0 : SZ L xs 100 0 0 (h0 L xs) := by
  refine ⟨⟨rfl, rfl, Nat.le_refl _, Nat.zero_le _⟩, fun a ha => ⟨rfl, rfl, rfl, rfl⟩, fun a h1 h2 => by omega, fun a h1 h2 => ?_, fun a h1 => rfl, fun i hi => absurd hi (Nat.not_lt_zero i)⟩
  funext j
  show I0 xs a j = 0
  unfold I0
  rw [if_neg (by omega), if_neg (by omega), if_neg (by omega)]
/-- the small machine runs the law to 1, in the room that there is -/
theorem pure_law (L : Nat) (xs : Nat → Int32) (hL : L ≤ 4096) : Wp 100 P_law 0 (lcs 8 [.ref 1]) [] (h0 L xs) (fun r h' => r = some (.int 1) ∧ hz h' ≤ 601124 ∧ hu h' ≤ 7293034) := by
  show Wp 100 P_law 0 [.ref 1, .null, .null, .null, .null, .null, .null, .null] [] (h0 L xs) _
  have s0 : SZ L xs 100 0 0 (h0 L xs) := SZ.h0
  rw [b_law_0, s0.zz]
  have s1 := s0.mo 10 16 (by decide +kernel)
  refine c_X_init (d := 96) (s1.cc rfl rfl rfl) ?_
  intro h2 s2
  simp only [Option.toList, List.cons_append, List.nil_append]
  rw [b_law_3, s2.zz]
  have s3 := s2.mo 11 43 (by decide +kernel)
  refine c_M_init (d := 98) s3 ?_
  intro h4 s4 e4
  simp only [Option.toList, List.cons_append, List.nil_append]
  rw [b_law_7, s4.1.zz]
  refine ⟨by decide, ?_⟩
  have s5 := s4.1.mk 23 1 1 (by decide +kernel)
  have s6 : SM L xs 378 276 _ (mkC h4 23 (Int32.toNatClampNeg 1) (Int32.toNatClampNeg 1)) := ⟨s5, fun j hj => by
    rw [hJ_mkC, if_neg (by rw [s4.1.zz]; decide)]
    exact s4.2 j hj⟩
  have i := Inv.start s6 (by decide) (fun j hj => by
    rw [hI_mkC, if_neg (by rw [s4.1.zz]; decide)]
    exact e4 j hj)
  refine w_law hL _ ?_ 513 0 _ _ _ rfl (by omega) i
  intro c h' hc i'
  obtain ⟨z1, z2, z3⟩ := i'.2.2.2.2.2.2.2.2.2.2.2.2.2.2
  exact ⟨rfl, by omega, by omega⟩
end INM
