--deps: a9.loop
/-! THE TWO CONSTRUCTORS -/
def kT (a : Nat) : Nat := if a < 342 then xkT.getD (a - 100) 0 else if a = 342 then 11 else if a < 377 then mkT.getD (a - 343) 0 else 23
def nT (a : Nat) : Nat := if a < 342 then xnT.getD (a - 100) 0 else if a = 342 then 0 else if a < 377 then mnT.getD (a - 343) 0 else 1
/-- what is written of references, in its order -/
def Wl : List (Nat × Nat × Nat) := [(100, 0, 101), (100, 1, 102), (100, 2, 103), (100, 3, 104), (105, 2, 106), (100, 4, 105), (100, 5, 107), (109, 0, 110), (109, 2, 111), (109, 3, 112), (108, 0, 109), (113, 0, 114), (113, 1, 115), (113, 2, 116), (108, 1, 113), (117, 3, 118), (117, 4, 119), (117, 5, 120), (117, 0, 121), (108, 2, 117), (108, 8, 25), (100, 6, 108), (123, 3, 124), (123, 4, 125), (123, 5, 126), (123, 0, 127), (122, 0, 123), (122, 1, 128), (122, 2, 129), (100, 7, 122), (130, 0, 131), (100, 8, 130), (132, 0, 133), (132, 1, 134), (100, 9, 132), (136, 0, 137), (136, 1, 138), (136, 2, 139), (135, 0, 136), (135, 1, 140), (100, 10, 135), (100, 11, 141), (100, 12, 142), (100, 13, 143), (100, 14, 144), (100, 15, 145), (101, 0, 146), (101, 1, 147), (101, 2, 148), (101, 3, 149), (101, 4, 150), (101, 5, 151), (101, 6, 152), (101, 7, 153), (154, 0, 155), (154, 1, 156), (154, 2, 157), (102, 0, 154), (158, 0, 159), (158, 1, 160), (158, 2, 161), (102, 1, 158), (162, 0, 163), (162, 1, 164), (162, 2, 165), (102, 2, 162), (166, 0, 167), (166, 1, 168), (166, 2, 169), (102, 3, 166), (170, 3, 171), (170, 4, 172), (170, 5, 173), (170, 0, 174), (103, 0, 170), (175, 3, 176), (175, 4, 177), (175, 5, 178), (175, 0, 179), (103, 1, 175), (180, 3, 181), (180, 4, 182), (180, 5, 183), (180, 0, 184), (103, 2, 180), (185, 3, 186), (185, 4, 187), (185, 5, 188), (185, 0, 189), (103, 3, 185), (191, 0, 192), (191, 1, 193), (191, 2, 194), (190, 0, 191), (190, 1, 195), (104, 0, 190), (197, 0, 198), (197, 1, 199), (197, 2, 200), (196, 0, 197), (196, 1, 201), (104, 1, 196), (203, 0, 204), (203, 1, 205), (203, 2, 206), (202, 0, 203), (202, 1, 207), (104, 2, 202), (209, 0, 210), (209, 1, 211), (209, 2, 212), (208, 0, 209), (208, 1, 213), (104, 3, 208), (215, 0, 216), (215, 1, 217), (215, 2, 218), (214, 0, 215), (214, 1, 219), (104, 4, 214), (221, 0, 222), (221, 1, 223), (221, 2, 224), (220, 0, 221), (220, 1, 225), (104, 5, 220), (227, 0, 228), (227, 1, 229), (227, 2, 230), (226, 0, 227), (226, 1, 231), (104, 6, 226), (233, 0, 234), (233, 1, 235), (233, 2, 236), (232, 0, 233), (232, 1, 237), (104, 7, 232), (239, 0, 240), (239, 1, 241), (239, 2, 242), (238, 0, 239), (238, 1, 243), (104, 8, 238), (245, 0, 246), (245, 1, 247), (245, 2, 248), (244, 0, 245), (244, 1, 249), (104, 9, 244), (251, 0, 252), (251, 1, 253), (251, 2, 254), (250, 0, 251), (250, 1, 255), (104, 10, 250), (257, 0, 258), (257, 1, 259), (257, 2, 260), (256, 0, 257), (256, 1, 261), (104, 11, 256), (263, 0, 264), (263, 1, 265), (263, 2, 266), (262, 0, 263), (262, 1, 267), (104, 12, 262), (269, 0, 270), (269, 1, 271), (269, 2, 272), (268, 0, 269), (268, 1, 273), (104, 13, 268), (275, 0, 276), (275, 1, 277), (275, 2, 278), (274, 0, 275), (274, 1, 279), (104, 14, 274), (281, 0, 282), (281, 1, 283), (281, 2, 284), (280, 0, 281), (280, 1, 285), (104, 15, 280), (287, 0, 288), (287, 1, 289), (287, 2, 290), (286, 0, 287), (286, 1, 291), (104, 16, 286), (293, 0, 294), (293, 1, 295), (293, 2, 296), (292, 0, 293), (292, 1, 297), (104, 17, 292), (299, 0, 300), (299, 1, 301), (299, 2, 302), (298, 0, 299), (298, 1, 303), (104, 18, 298), (305, 0, 306), (305, 1, 307), (305, 2, 308), (304, 0, 305), (304, 1, 309), (104, 19, 304), (311, 0, 312), (311, 1, 313), (311, 2, 314), (310, 0, 311), (310, 1, 315), (104, 20, 310), (317, 0, 318), (317, 1, 319), (317, 2, 320), (316, 0, 317), (316, 1, 321), (104, 21, 316), (323, 0, 324), (323, 1, 325), (323, 2, 326), (322, 0, 323), (322, 1, 327), (104, 22, 322), (329, 0, 330), (329, 1, 331), (329, 2, 332), (328, 0, 329), (328, 1, 333), (104, 23, 328), (334, 2, 335), (107, 0, 334), (336, 2, 337), (107, 1, 336), (338, 2, 339), (107, 2, 338), (340, 2, 341), (107, 3, 340), (342, 1, 343), (342, 4, 344), (342, 5, 345), (342, 6, 346), (342, 9, 347), (342, 10, 348), (342, 11, 349), (342, 12, 350), (342, 13, 351), (342, 14, 352), (342, 16, 353), (342, 17, 354), (342, 18, 355), (342, 19, 356), (342, 22, 357), (342, 23, 358), (342, 24, 359), (342, 25, 360), (342, 26, 361), (342, 27, 362), (342, 28, 363), (342, 29, 364), (342, 31, 365), (342, 32, 366), (342, 33, 367), (342, 34, 368), (342, 35, 369), (342, 36, 370), (342, 37, 371), (342, 38, 372), (342, 39, 373), (342, 40, 374), (342, 41, 375), (342, 42, 376)]
def WK (i : Nat) : Nat × Nat × Nat := Wl.getD i (0, 0, 0)
def RT (a j : Nat) : Nat := ((Wl.find? fun q => q.1 == a && q.2.1 == j).getD (0, 0, 0)).2.2
set_option maxRecDepth 100000 in
theorem RT_W0 : (List.range 276).all (fun i => RT (WK i).1 (WK i).2.1 == (WK i).2.2) = true := by decide +kernel
theorem RT_W (i : Nat) (h : i < 276) : RT (WK i).1 (WK i).2.1 = (WK i).2.2 := by
  have := List.all_eq_true.mp RT_W0 i (List.mem_range.mpr h)
  simpa using this
def SZ (L : Nat) (xs : Nat → Int32) (z t u : Nat) (h : AH) : Prop := (hz h = z ∧ hu h = u ∧ 100 ≤ z ∧ t ≤ 276) ∧ SLY L xs h ∧ (∀ a, 100 ≤ a → a < z → hK h a = kT a ∧ (20 ≤ kT a → hN h a = nT a)) ∧ (∀ a, 100 ≤ a → a ≠ 359 → hI h a = fun _ => 0) ∧ (∀ a, a ≠ 347 → hJ h a = fun _ => 0) ∧ (∀ i, i < t → hR h (WK i).1 (WK i).2.1 = (WK i).2.2 ∧ (WK i).1 < z)
section SZ
variable {L : Nat} {xs : Nat → Int32} {z t u : Nat} {h : AH}
theorem SZ.zz (s : SZ L xs z t u h) : hz h = z := s.1.1
theorem SZ.k (s : SZ L xs z t u h) (a : Nat) (h1 : 100 ≤ a) (h2 : a < z) : hK h a = kT a := (s.2.2.1 a h1 h2).1
theorem SZ.n (s : SZ L xs z t u h) (a : Nat) (h1 : 100 ≤ a) (h2 : a < z) (h3 : 20 ≤ kT a) : hN h a = nT a := (s.2.2.1 a h1 h2).2 h3
theorem SZ.r (s : SZ L xs z t u h) (i : Nat) (h1 : i < t) {a j v : Nat} (e : WK i = (a, j, v)) : hR h a j = v := by
  have := (s.2.2.2.2.2 i h1).1
  rw [e] at this
  exact this
theorem SZ.mk0 (s : SZ L xs z t u h) (k n m : Nat) (hk : kT z = k) (hn : 20 ≤ k → nT z = n) : SZ L xs (z + 1) t (u + m) (mkC h k n m) := by
  obtain ⟨⟨s1, s2, s3, s9⟩, s4, s5, s6, s7, s8⟩ := s
  refine ⟨⟨by rw [hz_mkC, s1], by show hu h + m = u + m; rw [s2], by omega, s9⟩, ?_, ?_, ?_, ?_, ?_⟩
  · intro a ha
    have e : ¬ a = hz h := by omega
    rw [hK_mkC, hN_mkC, hI_mkC, hR_mkC, if_neg e, if_neg e, if_neg e, if_neg e]
    exact s4 a ha
  · intro a h1 h2
    rw [hK_mkC, hN_mkC, s1]
    by_cases e : a = z
    · rw [if_pos e, if_pos e, e, hk]
      exact ⟨rfl, fun w => (hn w).symm⟩
    · rw [if_neg e, if_neg e]
      exact s5 a h1 (by omega)
  · intro a h1 h2
    rw [hI_mkC]
    by_cases e : a = hz h
    · rw [if_pos e]
    · rw [if_neg e]; exact s6 a h1 h2
  · intro a h1
    rw [hJ_mkC]
    by_cases e : a = hz h
    · rw [if_pos e]
    · rw [if_neg e]; exact s7 a h1
  · intro i hi
    obtain ⟨a1, a2⟩ := s8 i hi
    rw [hR_mkC, if_neg (by omega)]
    exact ⟨a1, by omega⟩
theorem SZ.mk (s : SZ L xs z t u h) (k n : Nat) (x : Int32) (e : kT z = k ∧ nT z = n ∧ x.toNatClampNeg = n) : SZ L xs (z + 1) t (u + n) (mkC h k x.toNatClampNeg x.toNatClampNeg) := by
  rw [e.2.2]; exact s.mk0 k n n e.1 (fun _ => e.2.1)
theorem SZ.mo (s : SZ L xs z t u h) (k m : Nat) (e : kT z = k ∧ k < 20) : SZ L xs (z + 1) t (u + m) (mkC h k 0 m) := s.mk0 k 0 m e.1 (fun w => by omega)
theorem SZ.sR (s : SZ L xs z t u h) (a j v : Nat) (e : WK t = (a, j, v)) (h1 : 100 ≤ a) (h2 : a < z) : SZ L xs z (t + 1) u (sR h a j v) := by
  obtain ⟨⟨s1, s2, s3, s9⟩, s4, s5, s6, s7, s8⟩ := s
  have ht : t < 276 := by
    apply Classical.byContradiction
    intro w
    have : WK t = (0, 0, 0) := by
      unfold WK
      rw [List.getD_eq_getElem?_getD, List.getElem?_eq_none (by have : Wl.length = 276 := by decide +kernel
                                                                omega)]
      rfl
    rw [e] at this
    cases this
    omega
  have rw1 : ∀ x y, hR (_root_.Jvm.Pilot.CPenThatJumpsLaw_law_r4367_1711fb.sR h a j v) x y = if x = a then (if y = j then v else hR h x y) else hR h x y := fun _ _ => rfl
  refine ⟨⟨s1, s2, s3, by omega⟩, ?_, s5, s6, s7, ?_⟩
  · intro b hb
    obtain ⟨q1, q2, q3, q4⟩ := s4 b hb
    refine ⟨q1, q2, q3, ?_⟩
    rw [← q4]
    funext y
    rw [rw1, if_neg (by omega)]
  · intro i hi
    rw [rw1]
    by_cases q : (WK i).1 = a ∧ (WK i).2.1 = j
    · have r1 := RT_W i (by omega)
      have r2 := RT_W t ht
      rw [e] at r2
      rw [q.1, q.2] at r1
      have r2 : RT a j = v := r2
      rw [if_pos q.1, if_pos q.2, ← r1, r2, q.1]
      exact ⟨rfl, h2⟩
    · have hi' : i < t := by
        apply Classical.byContradiction
        intro w
        have : i = t := by omega
        subst this
        rw [e] at q
        exact q ⟨rfl, rfl⟩
      obtain ⟨a1, a2⟩ := s8 i hi'
      refine ⟨?_, a2⟩
      by_cases q1 : (WK i).1 = a
      · rw [if_pos q1, if_neg (fun w => q ⟨q1, w⟩)]; exact a1
      · rw [if_neg q1]; exact a1
end SZ
section INI
variable {L : Nat} {xs : Nat → Int32} {d z t u r : Nat} {h : AH} {Q : Option Value → AH → Prop}
theorem i_Pe (s : SZ L xs z t u h) (hr : 100 ≤ r ∧ r < z ∧ kT r = 3) (fin : Q none h) : Cl (d + 2) q_Pe_init [.ref r] h Q := by
  rw [e_Pe_init, b_Pe_init_0, Cl_obj hr.1]
  simp only [Option.toList, List.cons_append, List.nil_append, b_Pe_init_2, rtV]
  exact ⟨(s.k r hr.1 hr.2.1).trans hr.2.2, trivial, fin⟩
abbrev L_Pl (z t r : Nat) : Prop := (kT z = 20 ∧ nT z = 12) ∧ (WK t = (r, 0, z)) ∧ (kT (z + 1) = 20 ∧ nT (z + 1) = 12) ∧ (WK (t + 1) = (r, 1, (z + 1))) ∧ (kT (z + 2) = 20 ∧ nT (z + 2) = 12) ∧ (WK (t + 2) = (r, 2, (z + 2)))

theorem i_Pl (s : SZ L xs z t u h) (hr : 100 ≤ r ∧ r < z ∧ kT r = 4) (e : L_Pl z t r) (fin : ∀ h', SZ L xs (z + 3) (t + 3) (u + 12 + 12 + 12) h' → Q none h') : Cl (d + 2) q_Pl_init [.ref r] h Q := by
  rw [e_Pl_init, b_Pl_init_0, Cl_obj hr.1]
  simp only [Option.toList, List.cons_append, List.nil_append]
  refine ⟨(s.k r hr.1 hr.2.1).trans hr.2.2, ?_⟩
  rw [b_Pl_init_2, s.zz]
  refine ⟨by decide, ?_⟩
  have s := s.mk 20 12 12 ⟨(e.1).1, (e.1).2, by decide⟩
  generalize mkC h 20 (Int32.toNatClampNeg 12) (Int32.toNatClampNeg 12) = h at s ⊢
  rw [b_Pl_init_5]
  refine ⟨(s.k r hr.1 (by omega)).trans hr.2.2, ?_⟩
  have s := s.sR r 0 z (e.2.1) hr.1 (by omega)
  generalize sR h r 0 z = h at s ⊢
  rw [b_Pl_init_6, s.zz]
  refine ⟨by decide, ?_⟩
  have s := s.mk 20 12 12 ⟨(e.2.2.1).1, (e.2.2.1).2, by decide⟩
  generalize mkC h 20 (Int32.toNatClampNeg 12) (Int32.toNatClampNeg 12) = h at s ⊢
  rw [b_Pl_init_9]
  refine ⟨(s.k r hr.1 (by omega)).trans hr.2.2, ?_⟩
  have s := s.sR r 1 (z + 1) (e.2.2.2.1) hr.1 (by omega)
  generalize sR h r 1 (z + 1) = h at s ⊢
  rw [b_Pl_init_10, s.zz]
  refine ⟨by decide, ?_⟩
  have s := s.mk 20 12 12 ⟨(e.2.2.2.2.1).1, (e.2.2.2.2.1).2, by decide⟩
  generalize mkC h 20 (Int32.toNatClampNeg 12) (Int32.toNatClampNeg 12) = h at s ⊢
  rw [b_Pl_init_13]
  refine ⟨(s.k r hr.1 (by omega)).trans hr.2.2, ?_⟩
  have s := s.sR r 2 (z + 2) (e.2.2.2.2.2) hr.1 (by omega)
  generalize sR h r 2 (z + 2) = h at s ⊢
  rw [b_Pl_init_14]
  exact ⟨rtV, fin h s⟩
abbrev L_Pg (z t r n0 : Nat) : Prop := (kT z = 20 ∧ nT z = 6) ∧ (WK t = (r, 3, z)) ∧ (kT (z + 1) = 20 ∧ nT (z + 1) = 6) ∧ (WK (t + 1) = (r, 4, (z + 1))) ∧ (kT (z + 2) = 20 ∧ nT (z + 2) = 32) ∧ (WK (t + 2) = (r, 5, (z + 2))) ∧ (kT (z + 3) = 20 ∧ nT (z + 3) = n0) ∧ (WK (t + 3) = (r, 0, (z + 3)))

theorem i_Pg {x : Int32} {n0 : Nat} (hx : x = 0 ∨ ¬ x ≤ 0) (hn0 : x.toNatClampNeg = n0 ∧ (0 : Int32) ≤ x ∧ x.toNatClampNeg ≤ 10000) (s : SZ L xs z t u h) (hr : 100 ≤ r ∧ r < z ∧ kT r = 6) (e : L_Pg z t r n0) (fin : ∀ h', SZ L xs (z + 4) (t + 4) (u + 6 + 6 + 32 + n0) h' → Q none h') : Cl (d + 2) q_Pg_init [.ref r, .int x] h Q := by
  rw [e_Pg_init, b_Pg_init_0, Cl_obj hr.1]
  simp only [Option.toList, List.cons_append, List.nil_append]
  refine ⟨(s.k r hr.1 hr.2.1).trans hr.2.2, ?_⟩
  rw [b_Pg_init_2, s.zz]
  refine ⟨by decide, ?_⟩
  have s := s.mk 20 6 6 ⟨(e.1).1, (e.1).2, by decide⟩
  generalize mkC h 20 (Int32.toNatClampNeg 6) (Int32.toNatClampNeg 6) = h at s ⊢
  rw [b_Pg_init_5]
  refine ⟨(s.k r hr.1 (by omega)).trans hr.2.2, ?_⟩
  have s := s.sR r 3 z (e.2.1) hr.1 (by omega)
  generalize sR h r 3 z = h at s ⊢
  rw [b_Pg_init_6, s.zz]
  refine ⟨by decide, ?_⟩
  have s := s.mk 20 6 6 ⟨(e.2.2.1).1, (e.2.2.1).2, by decide⟩
  generalize mkC h 20 (Int32.toNatClampNeg 6) (Int32.toNatClampNeg 6) = h at s ⊢
  rw [b_Pg_init_9]
  refine ⟨(s.k r hr.1 (by omega)).trans hr.2.2, ?_⟩
  have s := s.sR r 4 (z + 1) (e.2.2.2.1) hr.1 (by omega)
  generalize sR h r 4 (z + 1) = h at s ⊢
  rw [b_Pg_init_10, s.zz]
  refine ⟨by decide, ?_⟩
  have s := s.mk 20 32 32 ⟨(e.2.2.2.2.1).1, (e.2.2.2.2.1).2, by decide⟩
  generalize mkC h 20 (Int32.toNatClampNeg 32) (Int32.toNatClampNeg 32) = h at s ⊢
  rw [b_Pg_init_13]
  refine ⟨(s.k r hr.1 (by omega)).trans hr.2.2, ?_⟩
  have s := s.sR r 5 (z + 2) (e.2.2.2.2.2.1) hr.1 (by omega)
  generalize sR h r 5 (z + 2) = h at s ⊢
  have f14 : Wp (d + 1) P_Pg_init 20 [.ref r, .int x] [.int x, .ref r] h (fun r h' => rtk none r = true ∧ Q r h') := by
    rw [b_Pg_init_20, s.zz]
    refine ⟨hn0.2, ?_⟩
    have s := s.mk 20 n0 x ⟨(e.2.2.2.2.2.2.1).1, (e.2.2.2.2.2.2.1).2, hn0.1⟩
    generalize mkC h 20 (Int32.toNatClampNeg x) (Int32.toNatClampNeg x) = h at s ⊢
    rw [b_Pg_init_21]
    refine ⟨(s.k r hr.1 (by omega)).trans hr.2.2, ?_⟩
    have s := s.sR r 0 (z + 3) (e.2.2.2.2.2.2.2) hr.1 (by omega)
    generalize sR h r 0 (z + 3) = h at s ⊢
    rw [b_Pg_init_22]
    exact ⟨rtV, fin h s⟩
  rw [b_Pg_init_14]
  rcases hx with rfl | hx
  · refine ⟨fun _ => ?_, fun w => absurd (by decide) w⟩
    rw [b_Pg_init_19]
    exact f14
  · refine ⟨fun w => absurd w hx, fun _ => ?_⟩
    rw [b_Pg_init_17]
    exact f14
abbrev L_Ta (z t r : Nat) : Prop := (kT z = 20 ∧ nT z = 8) ∧ (WK t = (r, 2, z))

theorem i_Ta (s : SZ L xs z t u h) (hr : 100 ≤ r ∧ r < z ∧ kT r = 8) (e : L_Ta z t r) (fin : ∀ h', SZ L xs (z + 1) (t + 1) (u + 8) h' → Q none h') : Cl (d + 2) q_Ta_init [.ref r] h Q := by
  rw [e_Ta_init, b_Ta_init_0, Cl_obj hr.1]
  simp only [Option.toList, List.cons_append, List.nil_append]
  refine ⟨(s.k r hr.1 hr.2.1).trans hr.2.2, ?_⟩
  rw [b_Ta_init_2, s.zz]
  refine ⟨by decide, ?_⟩
  have s := s.mk 20 8 8 ⟨(e.1).1, (e.1).2, by decide⟩
  generalize mkC h 20 (Int32.toNatClampNeg 8) (Int32.toNatClampNeg 8) = h at s ⊢
  rw [b_Ta_init_5]
  refine ⟨(s.k r hr.1 (by omega)).trans hr.2.2, ?_⟩
  have s := s.sR r 2 z (e.2) hr.1 (by omega)
  generalize sR h r 2 z = h at s ⊢
  rw [b_Ta_init_6]
  exact ⟨rtV, fin h s⟩
abbrev L_Tp (z t r : Nat) : Prop := (kT z = 21 ∧ nT z = 1000) ∧ (WK t = (r, 0, z)) ∧ (kT (z + 1) = 20 ∧ nT (z + 1) = 1001) ∧ (WK (t + 1) = (r, 2, (z + 1))) ∧ (kT (z + 2) = 20 ∧ nT (z + 2) = 1001) ∧ (WK (t + 2) = (r, 3, (z + 2)))

theorem i_Tp (s : SZ L xs z t u h) (hr : 100 ≤ r ∧ r < z ∧ kT r = 9) (e : L_Tp z t r) (fin : ∀ h', SZ L xs (z + 3) (t + 3) (u + 1000 + 1001 + 1001) h' → Q none h') : Cl (d + 2) q_Tp_init [.ref r] h Q := by
  rw [e_Tp_init, b_Tp_init_0, Cl_obj hr.1]
  simp only [Option.toList, List.cons_append, List.nil_append]
  refine ⟨(s.k r hr.1 hr.2.1).trans hr.2.2, ?_⟩
  rw [b_Tp_init_2, s.zz]
  refine ⟨by decide, ?_⟩
  have s := s.mk 21 1000 1000 ⟨(e.1).1, (e.1).2, by decide⟩
  generalize mkC h 21 (Int32.toNatClampNeg 1000) (Int32.toNatClampNeg 1000) = h at s ⊢
  rw [b_Tp_init_5]
  refine ⟨(s.k r hr.1 (by omega)).trans hr.2.2, ?_⟩
  have s := s.sR r 0 z (e.2.1) hr.1 (by omega)
  generalize sR h r 0 z = h at s ⊢
  rw [b_Tp_init_6, s.zz]
  refine ⟨by decide, ?_⟩
  have s := s.mk 20 1001 1001 ⟨(e.2.2.1).1, (e.2.2.1).2, by decide⟩
  generalize mkC h 20 (Int32.toNatClampNeg 1001) (Int32.toNatClampNeg 1001) = h at s ⊢
  rw [b_Tp_init_9]
  refine ⟨(s.k r hr.1 (by omega)).trans hr.2.2, ?_⟩
  have s := s.sR r 2 (z + 1) (e.2.2.2.1) hr.1 (by omega)
  generalize sR h r 2 (z + 1) = h at s ⊢
  rw [b_Tp_init_10, s.zz]
  refine ⟨by decide, ?_⟩
  have s := s.mk 20 1001 1001 ⟨(e.2.2.2.2.1).1, (e.2.2.2.2.1).2, by decide⟩
  generalize mkC h 20 (Int32.toNatClampNeg 1001) (Int32.toNatClampNeg 1001) = h at s ⊢
  rw [b_Tp_init_13]
  refine ⟨(s.k r hr.1 (by omega)).trans hr.2.2, ?_⟩
  have s := s.sR r 3 (z + 2) (e.2.2.2.2.2) hr.1 (by omega)
  generalize sR h r 3 (z + 2) = h at s ⊢
  rw [b_Tp_init_14]
  exact ⟨rtV, fin h s⟩
abbrev L_Ju (z t r : Nat) : Prop := (kT z = 20 ∧ nT z = 20) ∧ (WK t = (r, 0, z))

theorem i_Ju (s : SZ L xs z t u h) (hr : 100 ≤ r ∧ r < z ∧ kT r = 1) (e : L_Ju z t r) (fin : ∀ h', SZ L xs (z + 1) (t + 1) (u + 20) h' → Q none h') : Cl (d + 2) q_Ju_init [.ref r] h Q := by
  rw [e_Ju_init, b_Ju_init_0, Cl_obj hr.1]
  simp only [Option.toList, List.cons_append, List.nil_append]
  refine ⟨(s.k r hr.1 hr.2.1).trans hr.2.2, ?_⟩
  rw [b_Ju_init_2, s.zz]
  refine ⟨by decide, ?_⟩
  have s := s.mk 20 20 20 ⟨(e.1).1, (e.1).2, by decide⟩
  generalize mkC h 20 (Int32.toNatClampNeg 20) (Int32.toNatClampNeg 20) = h at s ⊢
  rw [b_Ju_init_5]
  refine ⟨(s.k r hr.1 (by omega)).trans hr.2.2, ?_⟩
  have s := s.sR r 0 z (e.2) hr.1 (by omega)
  generalize sR h r 0 z = h at s ⊢
  rw [b_Ju_init_6]
  exact ⟨rtV, fin h s⟩
abbrev L_Pr (z t r : Nat) : Prop := (kT z = 20 ∧ nT z = 1728) ∧ (WK t = (r, 0, z)) ∧ (kT (z + 1) = 20 ∧ nT (z + 1) = 4) ∧ (WK (t + 1) = (r, 1, (z + 1)))

theorem i_Pr (s : SZ L xs z t u h) (hr : 100 ≤ r ∧ r < z ∧ kT r = 5) (e : L_Pr z t r) (fin : ∀ h', SZ L xs (z + 2) (t + 2) (u + 1728 + 4) h' → Q none h') : Cl (d + 2) q_Pr_init [.ref r] h Q := by
  rw [e_Pr_init, b_Pr_init_0, Cl_obj hr.1]
  simp only [Option.toList, List.cons_append, List.nil_append]
  refine ⟨(s.k r hr.1 hr.2.1).trans hr.2.2, ?_⟩
  rw [b_Pr_init_2, s.zz]
  refine ⟨by decide, ?_⟩
  have s := s.mk 20 1728 1728 ⟨(e.1).1, (e.1).2, by decide⟩
  generalize mkC h 20 (Int32.toNatClampNeg 1728) (Int32.toNatClampNeg 1728) = h at s ⊢
  rw [b_Pr_init_5]
  refine ⟨(s.k r hr.1 (by omega)).trans hr.2.2, ?_⟩
  have s := s.sR r 0 z (e.2.1) hr.1 (by omega)
  generalize sR h r 0 z = h at s ⊢
  rw [b_Pr_init_6, s.zz]
  refine ⟨by decide, ?_⟩
  have s := s.mk 20 4 4 ⟨(e.2.2.1).1, (e.2.2.1).2, by decide⟩
  generalize mkC h 20 (Int32.toNatClampNeg 4) (Int32.toNatClampNeg 4) = h at s ⊢
  rw [b_Pr_init_9]
  refine ⟨(s.k r hr.1 (by omega)).trans hr.2.2, ?_⟩
  have s := s.sR r 1 (z + 1) (e.2.2.2) hr.1 (by omega)
  generalize sR h r 1 (z + 1) = h at s ⊢
  rw [b_Pr_init_10]
  exact ⟨rtV, fin h s⟩
abbrev L_Si (z t r : Nat) : Prop := (kT z = 4) ∧ (L_Pl (z + 1) t z) ∧ (WK (t + 3) = (r, 0, z)) ∧ (kT (z + 4) = 20 ∧ nT (z + 4) = 36) ∧ (WK (t + 4) = (r, 1, (z + 4)))

theorem i_Si (s : SZ L xs z t u h) (hr : 100 ≤ r ∧ r < z ∧ kT r = 7) (e : L_Si z t r) (fin : ∀ h', SZ L xs (z + 5) (t + 5) (u + 4 + 12 + 12 + 12 + 36) h' → Q none h') : Cl (d + 3) q_Si_init [.ref r] h Q := by
  rw [e_Si_init, b_Si_init_0, Cl_obj hr.1]
  simp only [Option.toList, List.cons_append, List.nil_append]
  refine ⟨(s.k r hr.1 hr.2.1).trans hr.2.2, ?_⟩
  rw [b_Si_init_2, s.zz]
  have s := s.mo 4 4 ⟨(e.1), by decide⟩
  generalize mkC h 4 0 4 = h at s ⊢
  rw [b_Si_init_4]
  refine i_Pl s ⟨by omega, by omega, (e.1)⟩ (e.2.1) ?_
  clear s h
  intro h s
  simp only [Option.toList, List.cons_append, List.nil_append]
  rw [b_Si_init_6]
  refine ⟨(s.k r hr.1 (by omega)).trans hr.2.2, ?_⟩
  have s := s.sR r 0 z (e.2.2.1) hr.1 (by omega)
  generalize sR h r 0 z = h at s ⊢
  rw [b_Si_init_7, s.zz]
  refine ⟨by decide, ?_⟩
  have s := s.mk 20 36 36 ⟨(e.2.2.2.1).1, (e.2.2.2.1).2, by decide⟩
  generalize mkC h 20 (Int32.toNatClampNeg 36) (Int32.toNatClampNeg 36) = h at s ⊢
  rw [b_Si_init_10]
  refine ⟨(s.k r hr.1 (by omega)).trans hr.2.2, ?_⟩
  have s := s.sR r 1 (z + 4) (e.2.2.2.2) hr.1 (by omega)
  generalize sR h r 1 (z + 4) = h at s ⊢
  rw [b_Si_init_11]
  exact ⟨rtV, fin h s⟩
abbrev L_Ch (z t r : Nat) : Prop := (kT z = 6) ∧ (L_Pg (z + 1) t z 0) ∧ (WK (t + 4) = (r, 0, z)) ∧ (kT (z + 5) = 20 ∧ nT (z + 5) = 12) ∧ (WK (t + 5) = (r, 1, (z + 5))) ∧ (kT (z + 6) = 20 ∧ nT (z + 6) = 3) ∧ (WK (t + 6) = (r, 2, (z + 6)))

theorem i_Ch (s : SZ L xs z t u h) (hr : 100 ≤ r ∧ r < z ∧ kT r = 0) (e : L_Ch z t r) (fin : ∀ h', SZ L xs (z + 7) (t + 7) (u + 6 + 6 + 6 + 32 + 0 + 12 + 3) h' → Q none h') : Cl (d + 3) q_Ch_init [.ref r] h Q := by
  rw [e_Ch_init, b_Ch_init_0, Cl_obj hr.1]
  simp only [Option.toList, List.cons_append, List.nil_append]
  refine ⟨(s.k r hr.1 hr.2.1).trans hr.2.2, ?_⟩
  rw [b_Ch_init_2, s.zz]
  have s := s.mo 6 6 ⟨(e.1), by decide⟩
  generalize mkC h 6 0 6 = h at s ⊢
  rw [b_Ch_init_4]
  refine i_Pg (x := 0) (n0 := 0) (by decide) (by decide) s ⟨by omega, by omega, (e.1)⟩ (e.2.1) ?_
  clear s h
  intro h s
  simp only [Option.toList, List.cons_append, List.nil_append]
  rw [b_Ch_init_7]
  refine ⟨(s.k r hr.1 (by omega)).trans hr.2.2, ?_⟩
  have s := s.sR r 0 z (e.2.2.1) hr.1 (by omega)
  generalize sR h r 0 z = h at s ⊢
  rw [b_Ch_init_8, s.zz]
  refine ⟨by decide, ?_⟩
  have s := s.mk 20 12 12 ⟨(e.2.2.2.1).1, (e.2.2.2.1).2, by decide⟩
  generalize mkC h 20 (Int32.toNatClampNeg 12) (Int32.toNatClampNeg 12) = h at s ⊢
  rw [b_Ch_init_11]
  refine ⟨(s.k r hr.1 (by omega)).trans hr.2.2, ?_⟩
  have s := s.sR r 1 (z + 5) (e.2.2.2.2.1) hr.1 (by omega)
  generalize sR h r 1 (z + 5) = h at s ⊢
  rw [b_Ch_init_12, s.zz]
  refine ⟨by decide, ?_⟩
  have s := s.mk 20 3 3 ⟨(e.2.2.2.2.2.1).1, (e.2.2.2.2.2.1).2, by decide⟩
  generalize mkC h 20 (Int32.toNatClampNeg 3) (Int32.toNatClampNeg 3) = h at s ⊢
  rw [b_Ch_init_15]
  refine ⟨(s.k r hr.1 (by omega)).trans hr.2.2, ?_⟩
  have s := s.sR r 2 (z + 6) (e.2.2.2.2.2.2) hr.1 (by omega)
  generalize sR h r 2 (z + 6) = h at s ⊢
  rw [b_Ch_init_16]
  exact ⟨rtV, fin h s⟩
abbrev L_Pa (z t r : Nat) : Prop := (kT z = 9) ∧ (L_Tp (z + 1) t z) ∧ (WK (t + 3) = (r, 0, z)) ∧ (kT (z + 4) = 4) ∧ (L_Pl (z + 5) (t + 4) (z + 4)) ∧ (WK (t + 7) = (r, 1, (z + 4))) ∧ (kT (z + 8) = 6) ∧ (L_Pg (z + 9) (t + 8) (z + 8) 1000) ∧ (WK (t + 12) = (r, 2, (z + 8))) ∧ (WK (t + 13) = (r, 8, 25))

theorem i_Pa (s : SZ L xs z t u h) (hr : 100 ≤ r ∧ r < z ∧ kT r = 2) (e : L_Pa z t r) (fin : ∀ h', SZ L xs (z + 13) (t + 14) (u + 5 + 1000 + 1001 + 1001 + 4 + 12 + 12 + 12 + 6 + 6 + 6 + 32 + 1000) h' → Q none h') : Cl (d + 3) q_Pa_init [.ref r] h Q := by
  rw [e_Pa_init, b_Pa_init_0, Cl_obj hr.1]
  simp only [Option.toList, List.cons_append, List.nil_append]
  refine ⟨(s.k r hr.1 hr.2.1).trans hr.2.2, ?_⟩
  rw [b_Pa_init_2, s.zz]
  have s := s.mo 9 5 ⟨(e.1), by decide⟩
  generalize mkC h 9 0 5 = h at s ⊢
  rw [b_Pa_init_4]
  refine i_Tp s ⟨by omega, by omega, (e.1)⟩ (e.2.1) ?_
  clear s h
  intro h s
  simp only [Option.toList, List.cons_append, List.nil_append]
  rw [b_Pa_init_6]
  refine ⟨(s.k r hr.1 (by omega)).trans hr.2.2, ?_⟩
  have s := s.sR r 0 z (e.2.2.1) hr.1 (by omega)
  generalize sR h r 0 z = h at s ⊢
  rw [b_Pa_init_7, s.zz]
  have s := s.mo 4 4 ⟨(e.2.2.2.1), by decide⟩
  generalize mkC h 4 0 4 = h at s ⊢
  rw [b_Pa_init_9]
  refine i_Pl s ⟨by omega, by omega, (e.2.2.2.1)⟩ (e.2.2.2.2.1) ?_
  clear s h
  intro h s
  simp only [Option.toList, List.cons_append, List.nil_append]
  rw [b_Pa_init_11]
  refine ⟨(s.k r hr.1 (by omega)).trans hr.2.2, ?_⟩
  have s := s.sR r 1 (z + 4) (e.2.2.2.2.2.1) hr.1 (by omega)
  generalize sR h r 1 (z + 4) = h at s ⊢
  rw [b_Pa_init_12, s.zz]
  have s := s.mo 6 6 ⟨(e.2.2.2.2.2.2.1), by decide⟩
  generalize mkC h 6 0 6 = h at s ⊢
  rw [b_Pa_init_14]
  refine i_Pg (x := 1000) (n0 := 1000) (by decide) (by decide) s ⟨by omega, by omega, (e.2.2.2.2.2.2.1)⟩ (e.2.2.2.2.2.2.2.1) ?_
  clear s h
  intro h s
  simp only [Option.toList, List.cons_append, List.nil_append]
  rw [b_Pa_init_17]
  refine ⟨(s.k r hr.1 (by omega)).trans hr.2.2, ?_⟩
  have s := s.sR r 2 (z + 8) (e.2.2.2.2.2.2.2.2.1) hr.1 (by omega)
  generalize sR h r 2 (z + 8) = h at s ⊢
  rw [b_Pa_init_18]
  refine ⟨(s.k r hr.1 (by omega)).trans hr.2.2, ?_⟩
  have s := s.sR r 8 25 (e.2.2.2.2.2.2.2.2.2) hr.1 (by omega)
  generalize sR h r 8 25 = h at s ⊢
  rw [b_Pa_init_21]
  exact ⟨rtV, fin h s⟩
end INI
