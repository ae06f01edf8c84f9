--deps: 9e.px
/-! THE PARSER OF THE REFERENCE: SMALL STEPS -/
def rop' (k : Nat) : Int32 := if k = 30000 then 0 else rop k
def RTQ (h : AH) (π : Nat → Nat) (cs : List Nat) : Prop := ∀ j, j < cs.length → hI h 357 (5500 + j) = rop' (cs.getD j 0) ∧ (cs.getD j 0 < 20000 → hI h 358 (5500 + j) = rone π (cs.getD j 0))
def RM (ts : List (Nat × Nat)) (rd : Int32) (π : Nat → Nat) (i F : Nat) (cs : List Nat) (h : AH) : Prop := MLY h ∧ TKM h ts ts.length ∧ hI h 342 7 = nI i ∧ hI h 342 8 = nI F ∧ hI h 342 21 = rd ∧ hI h 342 20 = nI cs.length ∧ RTQ h π cs ∧ i < ts.length ∧ F < 20000 ∧ cs.length ≤ i + 9
def mps : Nat → Prop := fun a => a = 342 ∨ a = 357 ∨ a = 358
def KM (h h' : AH) : Prop := Fr mps nov h h' ∧ (∀ j, j ≠ 7 → j ≠ 8 → j ≠ 20 → hI h' 342 j = hI h 342 j) ∧ (∀ j, j < 5500 → hI h' 357 j = hI h 357 j ∧ hI h' 358 j = hI h 358 j)
theorem KM.rf {h : AH} : KM h h := ⟨Fr.rfl', fun _ _ _ _ => rfl, fun _ _ => ⟨rfl, rfl⟩⟩
theorem KM.tr {h h1 h2 : AH} (a : KM h h1) (b : KM h1 h2) : KM h h2 := ⟨a.1.tr b.1, fun j p q r => (b.2.1 j p q r).trans (a.2.1 j p q r), fun j hj => ⟨(b.2.2 j hj).1.trans (a.2.2 j hj).1, (b.2.2 j hj).2.trans (a.2.2 j hj).2⟩⟩
def PM (ts : List (Nat × Nat)) (rd : Int32) (π : Nat → Nat) (h : AH) (i F : Nat) (cs : List Nat) (h' : AH) : Prop := KM h h' ∧ RM ts rd π i F cs h'
theorem PM.pre {ts : List (Nat × Nat)} {rd : Int32} {π : Nat → Nat} {h h1 h2 : AH} {i F : Nat} {cs : List Nat} (a : KM h h1) (b : PM ts rd π h1 i F cs h2) : PM ts rd π h i F cs h2 := ⟨a.tr b.1, b.2⟩
section PMS
variable {ts : List (Nat × Nat)} {rd : Int32} {π : Nat → Nat} {i F : Nat} {cs : List Nat} {h : AH} {d : Nat}
theorem RM.m (r : RM ts rd π i F cs h) : MLY h := r.1
theorem RM.at (r : RM ts rd π i F cs h) : hI h 342 7 = nI i := r.2.2.1
theorem RM.f (r : RM ts rd π i F cs h) : hI h 342 8 = nI F := r.2.2.2.1
theorem RM.rdr (r : RM ts rd π i F cs h) : hI h 342 21 = rd := r.2.2.2.2.1
theorem RM.lt (r : RM ts rd π i F cs h) : i < ts.length := r.2.2.2.2.2.2.2.1
theorem RM.Fl (r : RM ts rd π i F cs h) : F < 20000 := r.2.2.2.2.2.2.2.2.1
theorem RM.cl (r : RM ts rd π i F cs h) : cs.length ≤ i + 9 := r.2.2.2.2.2.2.2.2.2
theorem RM.tv (r : RM ts rd π i F cs h) : TV (tc ts i) (hI h 344 i) (hJ h 346 i) := (r.2.1 i r.lt).1
/-- only place and fault have changed -/
theorem RM.mv (r : RM ts rd π i F cs h) {j : Nat} {v : Int32} {i' F' : Nat} (hj : (j = 7 ∧ v = nI i' ∧ F' = F) ∨ (j = 8 ∧ v = nI F' ∧ i' = i)) (h1 : i' < ts.length) (h2 : F' < 20000) (h3 : cs.length ≤ i' + 9) : PM ts rd π h i' F' cs (sI h 342 j v) := by
  obtain ⟨m, t, a7, a8, a21, a20, q, lt, Fl, cl⟩ := r
  have fr : Fr mps nov h (sI h 342 j v) := Fr.rfl'.sI (Or.inl rfl)
  refine ⟨⟨fr, fun k h7 h8 h20 => by rw [hI_same, if_neg (by omega)], fun k hk => by rw [rI_sI (by decide), rI_sI (by decide)]; exact ⟨rfl, rfl⟩⟩, m.fr fr, ?_, ?_, ?_, ?_, ?_, ?_, h1, h2, h3⟩
  · intro k hk
    rw [rI_sI (by decide), rI_sI (by decide)]
    exact t k hk
  · rw [hI_same]
    rcases hj with ⟨rfl, rfl, rfl⟩ | ⟨rfl, rfl, rfl⟩
    · rw [if_pos rfl]
    · rw [if_neg (by decide)]; exact a7
  · rw [hI_same]
    rcases hj with ⟨rfl, rfl, rfl⟩ | ⟨rfl, rfl, rfl⟩
    · rw [if_neg (by decide)]; exact a8
    · rw [if_pos rfl]
  · rw [hI_same, if_neg (by omega)]; exact a21
  · rw [hI_same, if_neg (by omega)]; exact a20
  · intro k hk
    rw [rI_sI (by decide), rI_sI (by decide)]
    exact q k hk
theorem m_wrong (T : TOKS ts) (k : Nat) (hk : k ≤ 5) (r : RM ts rd π i 0 cs h) : Cl (d + 1) q_M_wrong [.ref 342, .int (nI k)] h (fun r' h' => r' = none ∧ PM ts rd π h i (k + 16 * tp ts i) cs h') := by
  have hp := (T.2.2 i r.lt).2.2
  have hl := T.2.1
  have lt := r.lt
  have g := r.mv (j := 8) (v := nI (k + 16 * tp ts i)) (i' := i) (F' := k + 16 * tp ts i) (Or.inr ⟨rfl, rfl, rfl⟩) r.lt (by omega) r.cl
  have e1 : nI k + 16 * nI (tp ts i) = nI (k + 16 * tp ts i) := by rw [show (16 : Int32) = nI 16 from rfl, nmul, nadd]
  have a8 : hI h 342 8 = 0 := r.f
  have i1 : ixo (nI i) 1002 = true := nix (by omega) (by decide)
  have pl := (r.2.1 i r.lt).2
  have m := r.m
  simp only [e_M_wrong, b_M_wrong_0, b_M_wrong_3, b_M_wrong_14, mo m, a8, mr_5 m, mk_345 m, mn_345 m, r.at, i1, cN (show i < 2147483648 by omega), pl, e1, rtV, mem20, mem21, mem22, al20, al21, al33, al34, al36, al37, al38, aa33, aa34, aa36, aa37, aa38, true_and, and_true, Int32.reduceOfNat, forall_const, true_implies, implies_true, false_implies, not_true_eq_false, not_false_eq_true]
  exact g
theorem m_wrong0 {k : Int32} (hF : F ≠ 0) (r : RM ts rd π i F cs h) (Q : Option Value → AH → Prop) : Cl (d + 1) q_M_wrong [.ref 342, .int k] h Q ↔ Q none h := by
  have z : ¬ nI F = 0 := mt (nI0 (by have := r.Fl; omega)).mp hF
  simp only [e_M_wrong, b_M_wrong_0, b_M_wrong_3, b_M_wrong_14, mo r.m, r.f, z, rtV, mem20, mem21, mem22, al20, al21, al33, al34, al36, al37, al38, aa33, aa34, aa36, aa37, aa38, true_and, and_true, Int32.reduceOfNat, forall_const, true_implies, implies_true, false_implies, not_true_eq_false, not_false_eq_true]
theorem srt_sign {t : Nat} {s : Int32} {v : Int64} (o : cdOk t) (q : TV t s v) (c : Nat) (hc : c < 256) (hs : isS c) : (s = 3 ∧ lg_cmp v (Int32.toInt64 (nI c)) = 0) ↔ t = 11000 + c := by
  obtain ⟨q1, q2, q3, q4, q5⟩ := q
  rw [lg_cmp_eq, nI_l (by omega)]
  rcases o with z | z | ⟨s', z, z2⟩ | z | z
  · have := q1 z
    rw [this.1]
    exact ⟨fun y => absurd y.1 (by decide), fun y => by unfold isS at hs; omega⟩
  · have := q2 z
    rw [this.1]
    exact ⟨fun y => absurd y.1 (by decide), fun y => by unfold isS at hs; omega⟩
  · unfold isS at z
    have := q3 (by omega)
    rw [this.1, this.2, lN_inj (by omega) (by omega)]
    exact ⟨fun y => by omega, fun y => ⟨rfl, by omega⟩⟩
  · rw [q4 z]
    exact ⟨fun y => absurd y.1 (by decide), fun y => by unfold isS at hs; omega⟩
  · rw [q5 z]
    exact ⟨fun y => absurd y.1 (by decide), fun y => by unfold isS at hs; omega⟩
theorem srt_word {t : Nat} {s : Int32} {v : Int64} (o : cdOk t) (q : TV t s v) (w : Nat) (hw : w < 23) : (s = 1 ∧ lg_cmp v (lN (wdT.getD w 0)) = 0) ↔ t = 10000 + rwo w := by
  obtain ⟨q1, q2, q3, q4, q5⟩ := q
  have hr := (wd_hr w hw).1
  rw [lg_cmp_eq]
  rcases o with z | z | ⟨s', z, z2⟩ | z | z
  · have := q1 z
    rw [this.1]
    exact ⟨fun y => absurd y.1 (by decide), fun y => by omega⟩
  · have := q2 z
    rw [this.1, this.2 w hw]
    exact ⟨fun y => y.2, fun y => ⟨rfl, y⟩⟩
  · unfold isS at z
    have := q3 (by omega)
    rw [this.1]
    exact ⟨fun y => absurd y.1 (by decide), fun y => by omega⟩
  · rw [q4 z]
    exact ⟨fun y => absurd y.1 (by decide), fun y => by omega⟩
  · rw [q5 z]
    exact ⟨fun y => absurd y.1 (by decide), fun y => by omega⟩
theorem srt_num {t : Nat} {s : Int32} {v : Int64} (o : cdOk t) (q : TV t s v) : s = 2 ↔ t < 10000 := by
  obtain ⟨q1, q2, q3, q4, q5⟩ := q
  rcases o with z | z | ⟨s', z, z2⟩ | z | z
  · rw [(q1 z).1]; exact ⟨fun _ => by omega, fun _ => rfl⟩
  · rw [(q2 z).1]; exact ⟨fun y => absurd y (by decide), fun y => by omega⟩
  · unfold isS at z
    rw [(q3 (by omega)).1]; exact ⟨fun y => absurd y (by decide), fun y => by omega⟩
  · rw [q4 z]; exact ⟨fun y => absurd y (by decide), fun y => by omega⟩
  · rw [q5 z]; exact ⟨fun y => absurd y (by decide), fun y => by omega⟩
theorem srt_end {t : Nat} {s : Int32} {v : Int64} (o : cdOk t) (q : TV t s v) : s = 0 ↔ t = 12000 := by
  obtain ⟨q1, q2, q3, q4, q5⟩ := q
  rcases o with z | z | ⟨s', z, z2⟩ | z | z
  · rw [(q1 z).1]; exact ⟨fun y => absurd y (by decide), fun y => by omega⟩
  · rw [(q2 z).1]; exact ⟨fun y => absurd y (by decide), fun y => by omega⟩
  · unfold isS at z
    rw [(q3 (by omega)).1]; exact ⟨fun y => absurd y (by decide), fun y => by omega⟩
  · rw [q4 z]; exact ⟨fun _ => z, fun _ => rfl⟩
  · rw [q5 z]; exact ⟨fun y => absurd y (by decide), fun y => by omega⟩
theorem m_isSign (T : TOKS ts) (c : Nat) (hc : c < 256) (hs : isS c) (r : RM ts rd π i F cs h) (Q : Option Value → AH → Prop) : Cl (d + 1) q_M_isSign [.ref 342, .int (nI c)] h Q ↔ Q (some (.int (if F = 0 ∧ tc ts i = 11000 + c then 1 else 0))) h := by
  have hl := T.2.1
  have lt := r.lt
  have m := r.m
  have i1 : ixo (nI i) 1002 = true := nix (by omega) (by decide)
  have ss := srt_sign (T.2.2 i r.lt).1 r.tv c hc hs
  have f0 : nI F = 0 ↔ F = 0 := nI0 (by have := r.Fl; omega)
  simp only [e_M_isSign, b_M_isSign_0, b_M_isSign_3, b_M_isSign_10, b_M_isSign_19, b_M_isSign_21, b_M_isSign_22, mo m, r.f, f0, mr_4 m, mk_344 m, mn_344 m, mr_6 m, mk_346 m, mn_346 m, r.at, i1, cN (show i < 2147483648 by omega), mem20, mem21, mem22, al20, al21, al33, al34, al36, al37, al38, aa33, aa34, aa36, aa37, aa38, true_and, and_true, Int32.reduceOfNat, forall_const, true_implies, implies_true, false_implies, not_true_eq_false, not_false_eq_true]
  by_cases q0 : F = 0
  · by_cases q1 : hI h 344 i = 3
    · by_cases q2 : lg_cmp (hJ h 346 i) (Int32.toInt64 (nI c)) = 0
      · have := ss.mp ⟨q1, q2⟩
        simp [q0, q1, q2, this, rtZ1]
      · have := mt ss.mpr (fun z => q2 z.2)
        simp [q0, q1, q2, this, rtZ0]
    · have := mt ss.mpr (fun z => q1 z.1)
      simp [q0, q1, this, rtZ0]
  · simp [q0, rtZ0]
theorem m_isWord (T : TOKS ts) (w : Nat) (hw : w < 23) (r : RM ts rd π i F cs h) (Q : Option Value → AH → Prop) : Cl (d + 1) q_M_isWord [.ref 342, .int (nI w)] h Q ↔ Q (some (.int (if F = 0 ∧ tc ts i = 10000 + rwo w then 1 else 0))) h := by
  have hl := T.2.1
  have lt := r.lt
  have m := r.m
  have i1 : ixo (nI i) 1002 = true := nix (by omega) (by decide)
  have i2 : ixo (nI w) 23 = true := nix (by omega) (by decide)
  have ss := srt_word (T.2.2 i r.lt).1 r.tv w hw
  have ew : hJ h 347 w = lN (wdT.getD w 0) := m.2 w hw
  have f0 : nI F = 0 ↔ F = 0 := nI0 (by have := r.Fl; omega)
  simp only [e_M_isWord, b_M_isWord_0, b_M_isWord_3, b_M_isWord_10, b_M_isWord_21, b_M_isWord_23, b_M_isWord_24, mo m, r.f, f0, mr_4 m, mk_344 m, mn_344 m, mr_6 m, mk_346 m, mn_346 m, mr_9 m, mk_347 m, mn_347 m, r.at, i1, i2, cN (show i < 2147483648 by omega), cN (show w < 2147483648 by omega), ew, mem20, mem21, mem22, al20, al21, al33, al34, al36, al37, al38, aa33, aa34, aa36, aa37, aa38, true_and, and_true, Int32.reduceOfNat, forall_const, true_implies, implies_true, false_implies, not_true_eq_false, not_false_eq_true]
  by_cases q0 : F = 0
  · by_cases q1 : hI h 344 i = 1
    · by_cases q2 : lg_cmp (hJ h 346 i) (lN (wdT.getD w 0)) = 0
      · have := ss.mp ⟨q1, q2⟩
        simp only [q0, q1, q2, this, rtZ1, and_self, if_true, mem20, mem21, mem22, al20, al21, al33, al34, al36, al37, al38, aa33, aa34, aa36, aa37, aa38, true_and, and_true, Int32.reduceOfNat, forall_const, true_implies, implies_true, false_implies, not_true_eq_false, not_false_eq_true]
      · have := mt ss.mpr (fun z => q2 z.2)
        simp only [q0, q1, q2, this, rtZ0, and_false, if_false, mem20, mem21, mem22, al20, al21, al33, al34, al36, al37, al38, aa33, aa34, aa36, aa37, aa38, true_and, and_true, Int32.reduceOfNat, forall_const, true_implies, implies_true, false_implies, not_true_eq_false, not_false_eq_true]
    · have := mt ss.mpr (fun z => q1 z.1)
      simp only [q0, q1, this, rtZ0, and_false, if_false, mem20, mem21, mem22, al20, al21, al33, al34, al36, al37, al38, aa33, aa34, aa36, aa37, aa38, true_and, and_true, Int32.reduceOfNat, forall_const, true_implies, implies_true, false_implies, not_true_eq_false, not_false_eq_true]
  · simp only [q0, rtZ0, false_and, if_false, mem20, mem21, mem22, al20, al21, al33, al34, al36, al37, al38, aa33, aa34, aa36, aa37, aa38, true_and, and_true, Int32.reduceOfNat, forall_const, true_implies, implies_true, false_implies, not_true_eq_false, not_false_eq_true]
theorem m_hasSign (T : TOKS ts) (c : Nat) (hc : c < 256) (hs : isS c) (r : RM ts rd π i F cs h) : Cl (d + 2) q_M_hasSign [.ref 342, .int (nI c)] h (fun r' h' => if F = 0 ∧ tc ts i = 11000 + c then r' = some (.int 1) ∧ PM ts rd π h (i + 1) F cs h' else r' = some (.int 0) ∧ PM ts rd π h i F cs h') := by
  have m := r.m
  rw [e_M_hasSign, b_M_hasSign_0]
  simp only [mo m, m_isSign T c hc hs r, Option.toList, List.cons_append, List.nil_append, b_M_hasSign_3, r.at, true_and]
  by_cases q : F = 0 ∧ tc ts i = 11000 + c
  · simp only [q, and_self, if_true, show ¬ (1 : Int32) = 0 by decide, b_M_hasSign_9, b_M_hasSign_12, mo m, nI_1, rtZ1, mem20, mem21, mem22, al20, al21, al33, al34, al36, al37, al38, aa33, aa34, aa36, aa37, aa38, true_and, and_true, Int32.reduceOfNat, forall_const, true_implies, implies_true, false_implies, not_true_eq_false, not_false_eq_true]
    have ne : tc ts i ≠ 12000 := by unfold isS at hs; omega
    have g := r.mv (j := 7) (v := nI (i + 1)) (i' := i + 1) (F' := F) (Or.inl ⟨rfl, rfl, rfl⟩) (sgn_lt T r.lt ne) r.Fl (by have := r.cl; omega)
    rw [q.1] at g
    exact g
  · have e0 : nI i + 0 = nI i := nadd i 0
    simp only [q, if_false, b_M_hasSign_11, b_M_hasSign_12, mo m, e0, rtZ0, mem20, mem21, mem22, al20, al21, al33, al34, al36, al37, al38, aa33, aa34, aa36, aa37, aa38, true_and, and_true, Int32.reduceOfNat, forall_const, true_implies, implies_true, false_implies, not_true_eq_false, not_false_eq_true]
    exact r.mv (j := 7) (v := nI i) (i' := i) (F' := F) (Or.inl ⟨rfl, rfl, rfl⟩) r.lt r.Fl r.cl
theorem m_hasWord (T : TOKS ts) (w : Nat) (hw : w < 23) (r : RM ts rd π i F cs h) : Cl (d + 2) q_M_hasWord [.ref 342, .int (nI w)] h (fun r' h' => if F = 0 ∧ tc ts i = 10000 + rwo w then r' = some (.int 1) ∧ PM ts rd π h (i + 1) F cs h' else r' = some (.int 0) ∧ PM ts rd π h i F cs h') := by
  have m := r.m
  have hr := (wd_hr w hw).1
  rw [e_M_hasWord, b_M_hasWord_0]
  simp only [mo m, m_isWord T w hw r, Option.toList, List.cons_append, List.nil_append, b_M_hasWord_3, r.at, true_and]
  by_cases q : F = 0 ∧ tc ts i = 10000 + rwo w
  · simp only [q, and_self, if_true, show ¬ (1 : Int32) = 0 by decide, b_M_hasWord_9, b_M_hasWord_12, mo m, nI_1, rtZ1, mem20, mem21, mem22, al20, al21, al33, al34, al36, al37, al38, aa33, aa34, aa36, aa37, aa38, true_and, and_true, Int32.reduceOfNat, forall_const, true_implies, implies_true, false_implies, not_true_eq_false, not_false_eq_true]
    have g := r.mv (j := 7) (v := nI (i + 1)) (i' := i + 1) (F' := F) (Or.inl ⟨rfl, rfl, rfl⟩) (sgn_lt T r.lt (by omega)) r.Fl (by have := r.cl; omega)
    rw [q.1] at g
    exact g
  · have e0 : nI i + 0 = nI i := nadd i 0
    simp only [q, if_false, b_M_hasWord_11, b_M_hasWord_12, mo m, e0, rtZ0, mem20, mem21, mem22, al20, al21, al33, al34, al36, al37, al38, aa33, aa34, aa36, aa37, aa38, true_and, and_true, Int32.reduceOfNat, forall_const, true_implies, implies_true, false_implies, not_true_eq_false, not_false_eq_true]
    exact r.mv (j := 7) (v := nI i) (i' := i) (F' := F) (Or.inl ⟨rfl, rfl, rfl⟩) r.lt r.Fl r.cl
theorem m_takeSign (T : TOKS ts) (c : Nat) (hc : c < 256) (hs : isS c) (r : RM ts rd π i 0 cs h) : Cl (d + 2) q_M_takeSign [.ref 342, .int (nI c)] h (fun r' h' => r' = none ∧ if tc ts i = 11000 + c then PM ts rd π h (i + 1) 0 cs h' else PM ts rd π h i (1 + 16 * tp ts i) cs h') := by
  have m := r.m
  rw [e_M_takeSign, b_M_takeSign_0]
  simp only [mo m, m_isSign T c hc hs r, Option.toList, List.cons_append, List.nil_append, b_M_takeSign_3, true_and]
  by_cases q : tc ts i = 11000 + c
  · simp only [q, if_true, show ¬ (1 : Int32) = 0 by decide, b_M_takeSign_4, b_M_takeSign_14, mo m, r.at, nI_1, rtV, mem20, mem21, mem22, al20, al21, al33, al34, al36, al37, al38, aa33, aa34, aa36, aa37, aa38, true_and, and_true, Int32.reduceOfNat, forall_const, true_implies, implies_true, false_implies, not_true_eq_false, not_false_eq_true]
    have ne : tc ts i ≠ 12000 := by unfold isS at hs; omega
    exact r.mv (j := 7) (v := nI (i + 1)) (i' := i + 1) (F' := 0) (Or.inl ⟨rfl, rfl, rfl⟩) (sgn_lt T r.lt ne) r.Fl (by have := r.cl; omega)
  · simp only [q, if_false, b_M_takeSign_11, mem20, mem21, mem22, al20, al21, al33, al34, al36, al37, al38, aa33, aa34, aa36, aa37, aa38, true_and, and_true, Int32.reduceOfNat, forall_const, true_implies, implies_true, false_implies, not_true_eq_false, not_false_eq_true]
    refine (m_wrong T 1 (by decide) r).mono ?_
    rintro r' h' ⟨rfl, p⟩
    simp only [Option.toList, List.cons_append, List.nil_append, b_M_takeSign_14]
    exact ⟨rtV, True.intro, p⟩
theorem m_takeSign0 (T : TOKS ts) (c : Nat) (hc : c < 256) (hs : isS c) (hF : F ≠ 0) (r : RM ts rd π i F cs h) (Q : Option Value → AH → Prop) : Cl (d + 2) q_M_takeSign [.ref 342, .int (nI c)] h Q ↔ Q none h := by
  rw [e_M_takeSign, b_M_takeSign_0]
  simp only [mo r.m, m_isSign T c hc hs r, Option.toList, List.cons_append, List.nil_append, b_M_takeSign_3, hF, false_and, if_false, b_M_takeSign_11, m_wrong0 hF r, b_M_takeSign_14, rtV, mem20, mem21, mem22, al20, al21, al33, al34, al36, al37, al38, aa33, aa34, aa36, aa37, aa38, true_and, and_true, Int32.reduceOfNat, forall_const, true_implies, implies_true, false_implies, not_true_eq_false, not_false_eq_true]
theorem m_takeWord (T : TOKS ts) (w : Nat) (hw : w < 23) (r : RM ts rd π i 0 cs h) : Cl (d + 3) q_M_takeWord [.ref 342, .int (nI w)] h (fun r' h' => r' = none ∧ if tc ts i = 10000 + rwo w then PM ts rd π h (i + 1) 0 cs h' else PM ts rd π h i (1 + 16 * tp ts i) cs h') := by
  rw [e_M_takeWord, b_M_takeWord_0]
  refine ⟨mo r.m, (m_hasWord T w hw r).mono ?_⟩
  intro r' h' p
  by_cases q : tc ts i = 10000 + rwo w
  · rw [if_pos ⟨rfl, q⟩] at p
    obtain ⟨rfl, p⟩ := p
    simp only [Option.toList, List.cons_append, List.nil_append, b_M_takeWord_3, b_M_takeWord_7, show ¬ (1 : Int32) = 0 by decide, if_pos q, mem20, mem21, mem22, al20, al21, al33, al34, al36, al37, al38, aa33, aa34, aa36, aa37, aa38, true_and, and_true, Int32.reduceOfNat, forall_const, true_implies, implies_true, false_implies, not_true_eq_false, not_false_eq_true]
    exact ⟨rtV, p⟩
  · rw [if_neg (fun z => q z.2)] at p
    obtain ⟨rfl, p⟩ := p
    simp only [Option.toList, List.cons_append, List.nil_append, b_M_takeWord_3, b_M_takeWord_4, if_neg q, mem20, mem21, mem22, al20, al21, al33, al34, al36, al37, al38, aa33, aa34, aa36, aa37, aa38, true_and, and_true, Int32.reduceOfNat, forall_const, true_implies, implies_true, false_implies, not_true_eq_false, not_false_eq_true]
    refine (m_wrong T 1 (by decide) p.2).mono ?_
    rintro r' h2 ⟨rfl, p2⟩
    simp only [Option.toList, List.cons_append, List.nil_append, b_M_takeWord_7]
    exact ⟨rtV, True.intro, p2.pre p.1⟩
theorem m_takeWord0 (T : TOKS ts) (w : Nat) (hw : w < 23) (hF : F ≠ 0) (r : RM ts rd π i F cs h) : Cl (d + 3) q_M_takeWord [.ref 342, .int (nI w)] h (fun r' h' => r' = none ∧ PM ts rd π h i F cs h') := by
  rw [e_M_takeWord, b_M_takeWord_0]
  refine ⟨mo r.m, (m_hasWord T w hw r).mono ?_⟩
  intro r' h' p
  rw [if_neg (fun z => hF z.1)] at p
  obtain ⟨rfl, p⟩ := p
  simp only [Option.toList, List.cons_append, List.nil_append, b_M_takeWord_3, b_M_takeWord_4, m_wrong0 hF p.2, b_M_takeWord_7, mem20, mem21, mem22, al20, al21, al33, al34, al36, al37, al38, aa33, aa34, aa36, aa37, aa38, true_and, and_true, Int32.reduceOfNat, forall_const, true_implies, implies_true, false_implies, not_true_eq_false, not_false_eq_true]
  exact ⟨rtV, p⟩
theorem nI_le0 {n : Nat} (h : n < 2147483648) : nI n ≤ 0 ↔ n = 0 := by
  have := nle (a := n) (b := 0) h (by decide)
  rw [show (0 : Int32) = nI 0 from rfl, this]
  omega
theorem m_takeNumber (T : TOKS ts) (a b : Nat) (hb : b < 10000) (hab : a ≤ b) (r : RM ts rd π i 0 cs h) : Cl (d + 2) q_M_takeNumber [.ref 342, .int (nI a), .int (nI b)] h (fun r' h' => if numF ts i a b = 0 then r' = some (.int (nI (tc ts i))) ∧ PM ts rd π h (i + 1) 0 cs h' else r' = some (.int 0) ∧ PM ts rd π h i (numF ts i a b) cs h') := by
  have hl := T.2.1
  have lt := r.lt
  have hp := (T.2.2 i r.lt).2.2
  have m := r.m
  have i1 : ixo (nI i) 1002 = true := nix (by omega) (by decide)
  have f0 : hI h 342 8 = 0 := r.f
  have sn := srt_num (T.2.2 i r.lt).1 r.tv
  have bad : ∀ k, k = 1 ∨ k = 4 → Cl (d + 1) q_M_wrong [.ref 342, .int (nI k)] h (fun r' h' => Wp (d + 1) P_M_takeNumber 38 [.ref 342, .int (nI a), .int (nI b)] (r'.toList ++ []) h' (fun r' h' => rtk (some .int) r' = true ∧ r' = some (.int 0) ∧ PM ts rd π h i (k + 16 * tp ts i) cs h')) := by
    intro k hk
    refine (m_wrong T k (by omega) r).mono ?_
    rintro r' h' ⟨rfl, p⟩
    have z : ¬ nI (k + 16 * tp ts i) ≤ 0 := mt (nI_le0 (by omega)).mp (by omega)
    simp only [Option.toList, List.cons_append, List.nil_append, b_M_takeNumber_38, mo p.2.m, p.2.f, z, b_M_takeNumber_41, mem20, mem21, mem22, al20, al21, al33, al34, al36, al37, al38, aa33, aa34, aa36, aa37, aa38, true_and, and_true, Int32.reduceOfNat, forall_const, true_implies, implies_true, false_implies, not_true_eq_false, not_false_eq_true]
    exact ⟨rtI _, p⟩
  rw [e_M_takeNumber, b_M_takeNumber_0]
  simp only [mo m, f0, b_M_takeNumber_3, mr_4 m, mk_344 m, mn_344 m, r.at, i1, cN (show i < 2147483648 by omega), sn, mem20, mem21, mem22, al20, al21, al33, al34, al36, al37, al38, aa33, aa34, aa36, aa37, aa38, true_and, and_true, Int32.reduceOfNat, forall_const, true_implies, implies_true, false_implies, not_true_eq_false, not_false_eq_true]
  unfold numF
  by_cases q : tc ts i < 10000
  · have tv := r.tv.1 (by omega)
    have c1 : lg_cmp (lN (tc ts i)) (Int32.toInt64 (nI a)) < 0 ↔ tc ts i < a := by
      rw [lg_cmp_lt, nI_l (by omega)]; exact lN_lt (by omega) (by omega)
    have c2 : lg_cmp (lN (tc ts i)) (Int32.toInt64 (nI b)) ≤ 0 ↔ tc ts i ≤ b := by
      rw [lg_cmp_le, nI_l (by omega)]; exact lN_le (by omega) (by omega)
    simp only [q, if_true, b_M_takeNumber_14, mo m, f0, b_M_takeNumber_17, mr_6 m, mk_346 m, mn_346 m, r.at, i1, cN (show i < 2147483648 by omega), tv.2, c1, b_M_takeNumber_26, c2, mem20, mem21, mem22, al20, al21, al33, al34, al36, al37, al38, aa33, aa34, aa36, aa37, aa38, true_and, and_true, Int32.reduceOfNat, forall_const, true_implies, implies_true, false_implies, not_true_eq_false, not_false_eq_true]
    have good : a ≤ tc ts i ∧ tc ts i ≤ b → Wp (d + 1) P_M_takeNumber 38 [.ref 342, .int (nI a), .int (nI b)] [] h (fun r' h' => rtk (some .int) r' = true ∧ r' = some (.int (nI (tc ts i))) ∧ PM ts rd π h (i + 1) 0 cs h') := by
      intro _
      have e1 : nI (i + 1) - 1 = nI i := nsub (a := i + 1) (b := 1) (by omega)
      simp only [b_M_takeNumber_38, mo m, f0, Int32.le_refl, b_M_takeNumber_43, hK_sI, hR_sI, hN_sI, hJ_sI, hI_same, if_true, mr_6 m, mk_346 m, mn_346 m, r.at, nI_1, e1, i1, cN (show i < 2147483648 by omega), tv.2, lN_i, rtI, mem20, mem21, mem22, al20, al21, al33, al34, al36, al37, al38, aa33, aa34, aa36, aa37, aa38, true_and, and_true, Int32.reduceOfNat, forall_const, true_implies, implies_true, false_implies, not_true_eq_false, not_false_eq_true]
      exact r.mv (j := 7) (v := nI (i + 1)) (i' := i + 1) (F' := 0) (Or.inl ⟨rfl, rfl, rfl⟩) (sgn_lt T r.lt (by omega)) (by decide) (by have := r.cl; omega)
    by_cases q2 : a ≤ tc ts i ∧ tc ts i ≤ b
    · have n1 : ¬ tc ts i < a := by omega
      simp only [q2, and_self, if_true, n1, mem20, mem21, mem22, al20, al21, al33, al34, al36, al37, al38, aa33, aa34, aa36, aa37, aa38, true_and, and_true, Int32.reduceOfNat, forall_const, true_implies, implies_true, false_implies, not_true_eq_false, not_false_eq_true]
      exact good q2
    · have nz : ¬ 4 + 16 * tp ts i = 0 := by omega
      simp only [q2, if_false, nz, b_M_takeNumber_35]
      refine ⟨fun _ => bad 4 (Or.inr rfl), fun z => ⟨fun z2 => absurd ⟨by omega, z2⟩ q2, fun _ => bad 4 (Or.inr rfl)⟩⟩
  · have nz : ¬ 1 + 16 * tp ts i = 0 := by omega
    simp only [q, if_false, nz, b_M_takeNumber_10, mem20, mem21, mem22, al20, al21, al33, al34, al36, al37, al38, aa33, aa34, aa36, aa37, aa38, true_and, and_true, Int32.reduceOfNat, forall_const, true_implies, implies_true, false_implies, not_true_eq_false, not_false_eq_true]
    refine (m_wrong T 1 (by decide) r).mono ?_
    rintro r' h' ⟨rfl, p⟩
    have z : ¬ nI (1 + 16 * tp ts i) ≤ 0 := mt (nI_le0 (by omega)).mp (by omega)
    simp only [Option.toList, List.cons_append, List.nil_append, b_M_takeNumber_13, b_M_takeNumber_38, mo p.2.m, p.2.f, z, b_M_takeNumber_41, mem20, mem21, mem22, al20, al21, al33, al34, al36, al37, al38, aa33, aa34, aa36, aa37, aa38, true_and, and_true, Int32.reduceOfNat, forall_const, true_implies, implies_true, false_implies, not_true_eq_false, not_false_eq_true]
    exact ⟨rtI _, p⟩
theorem m_takeNumber0 (a b : Int32) (hF : F ≠ 0) (r : RM ts rd π i F cs h) (Q : Option Value → AH → Prop) : Cl (d + 2) q_M_takeNumber [.ref 342, .int a, .int b] h Q ↔ Q (some (.int 0)) h := by
  have z : ¬ nI F = 0 := mt (nI0 (by have := r.Fl; omega)).mp hF
  have z2 : ¬ nI F ≤ 0 := mt (nI_le0 (by have := r.Fl; omega)).mp hF
  rw [e_M_takeNumber, b_M_takeNumber_0]
  simp only [mo r.m, r.f, z, z2, b_M_takeNumber_14, b_M_takeNumber_38, b_M_takeNumber_41, rtI, mem20, mem21, mem22, al20, al21, al33, al34, al36, al37, al38, aa33, aa34, aa36, aa37, aa38, true_and, and_true, Int32.reduceOfNat, forall_const, true_implies, implies_true, false_implies, not_true_eq_false, not_false_eq_true]
theorem m_emit (T : TOKS ts) (k : Nat) (v : Int32) (hv : k < 20000 → v = rone π k) (r : RM ts rd π i F cs h) (hc : cs.length + 1 ≤ i + 9) : Cl (d + 1) q_M_emit [.ref 342, .int (rop' k), .int v] h (fun r' h' => r' = none ∧ PM ts rd π h i F (cs ++ [k]) h') := by
  have hl := T.2.1
  have lt := r.lt
  have m := r.m
  have e20 := r.2.2.2.2.2.1
  have e1 : (5500 : Int32) + nI cs.length = nI (5500 + cs.length) := nadd 5500 _
  have i1 : ixo (nI (5500 + cs.length)) 6600 = true := nix (by omega) (by decide)
  simp only [e_M_emit, b_M_emit_0, mo m, mr_22 m, mr_23 m, mk_357 m, mn_357 m, mk_358 m, mn_358 m, e20, e1, i1, hK_sI, hR_sI, hN_sI, rI_sI (show 342 ≠ 357 by decide), rI_sI (show 342 ≠ 358 by decide), cN (show 5500 + cs.length < 2147483648 by omega), nI_1, rtV, mem20, mem21, mem22, al20, al21, al33, al34, al36, al37, al38, aa33, aa34, aa36, aa37, aa38, true_and, and_true, Int32.reduceOfNat, forall_const, true_implies, implies_true, false_implies, not_true_eq_false, not_false_eq_true]
  obtain ⟨-, t, a7, a8, a21, a20, q, lt, Fl, cl⟩ := r
  have fr : Fr mps nov h (sI (sI (sI h 357 (5500 + cs.length) (rop' k)) 358 (5500 + cs.length) v) 342 20 (nI (cs.length + 1))) := ((Fr.rfl'.sI (Or.inr (Or.inl rfl))).sI (Or.inr (Or.inr rfl))).sI (Or.inl rfl)
  have e : ∀ j, j ≠ 20 → hI (sI (sI (sI h 357 (5500 + cs.length) (rop' k)) 358 (5500 + cs.length) v) 342 20 (nI (cs.length + 1))) 342 j = hI h 342 j := fun j hj => by rw [hI_same, if_neg hj, rI_sI (by decide), rI_sI (by decide)]
  refine ⟨⟨fr, fun j _ _ hj => e j hj, fun j hj => ?_⟩, m.fr fr, ?_, by rw [e 7 (by decide)]; exact a7, by rw [e 8 (by decide)]; exact a8, by rw [e 21 (by decide)]; exact a21, ?_, ?_, lt, Fl, by simp; omega⟩
  · rw [rI_sI (by decide), rI_sI (by decide), hI_same, if_neg (by omega), rI_sI (by decide), hI_same, if_neg (by omega), rI_sI (by decide)]
    exact ⟨rfl, rfl⟩
  · intro j hj
    rw [rI_sI (by decide), rI_sI (by decide), rI_sI (by decide), rI_sI (by decide), rI_sI (by decide), rI_sI (by decide)]
    exact t j hj
  · rw [hI_same, if_pos rfl]; simp
  · intro j hj
    rw [rI_sI (by decide), rI_sI (by decide), hI_same, rI_sI (by decide), hI_same, rI_sI (by decide)]
    by_cases qj : j = cs.length
    · subst qj
      rw [if_pos rfl, if_pos rfl]
      simp
      exact hv
    · have hj' : j < cs.length := by simp at hj; omega
      rw [if_neg (by omega), if_neg (by omega), List.getD_eq_getElem?_getD, List.getElem?_append_left hj', ← List.getD_eq_getElem?_getD]
      exact q j hj'
/-- a code, and the next token -/
theorem m_emit2 (T : TOKS ts) (k : Nat) (v : Int32) (hv : k < 20000 → v = rone π k) (r : RM ts rd π i F cs h) (hi : i + 1 < ts.length) : Cl (d + 1) q_M_emit [.ref 342, .int (rop' k), .int v] h (fun r' h' => r' = none ∧ MLY h' ∧ hI h' 342 7 = nI i ∧ PM ts rd π h (i + 1) F (cs ++ [k]) (sI h' 342 7 (nI (i + 1)))) := by
  have hl := T.2.1
  have lt := r.lt
  have m := r.m
  have e20 := r.2.2.2.2.2.1
  have cl := r.cl
  have e1 : (5500 : Int32) + nI cs.length = nI (5500 + cs.length) := nadd 5500 _
  have i1 : ixo (nI (5500 + cs.length)) 6600 = true := nix (by omega) (by decide)
  simp only [e_M_emit, b_M_emit_0, mo m, mr_22 m, mr_23 m, mk_357 m, mn_357 m, mk_358 m, mn_358 m, e20, e1, i1, hK_sI, hR_sI, hN_sI, rI_sI (show 342 ≠ 357 by decide), rI_sI (show 342 ≠ 358 by decide), cN (show 5500 + cs.length < 2147483648 by omega), nI_1, rtV, mem20, mem21, mem22, al20, al21, al33, al34, al36, al37, al38, aa33, aa34, aa36, aa37, aa38, true_and, and_true, Int32.reduceOfNat, forall_const, true_implies, implies_true, false_implies, not_true_eq_false, not_false_eq_true]
  obtain ⟨-, t, a7, a8, a21, a20, q, lt, Fl, cl⟩ := r
  have fr0 : Fr mps nov h (sI (sI (sI h 357 (5500 + cs.length) (rop' k)) 358 (5500 + cs.length) v) 342 20 (nI (cs.length + 1))) := ((Fr.rfl'.sI (Or.inr (Or.inl rfl))).sI (Or.inr (Or.inr rfl))).sI (Or.inl rfl)
  have fr : Fr mps nov h (sI (sI (sI (sI h 357 (5500 + cs.length) (rop' k)) 358 (5500 + cs.length) v) 342 20 (nI (cs.length + 1))) 342 7 (nI (i + 1))) := fr0.sI (Or.inl rfl)
  have e : ∀ j, j ≠ 20 → j ≠ 7 → hI (sI (sI (sI (sI h 357 (5500 + cs.length) (rop' k)) 358 (5500 + cs.length) v) 342 20 (nI (cs.length + 1))) 342 7 (nI (i + 1))) 342 j = hI h 342 j := fun j hj hj7 => by rw [hI_same, if_neg hj7, hI_same, if_neg hj, rI_sI (by decide), rI_sI (by decide)]
  refine ⟨m.fr fr0, by rw [hI_same, if_neg (by decide), rI_sI (by decide), rI_sI (by decide)]; exact a7, ⟨fr, fun j h7 _ hj => e j hj h7, fun j hj => ?_⟩, m.fr fr, ?_, by rw [hI_same, if_pos rfl], by rw [e 8 (by decide) (by decide)]; exact a8, by rw [e 21 (by decide) (by decide)]; exact a21, ?_, ?_, hi, Fl, by simp; omega⟩
  · rw [rI_sI (show 357 ≠ 342 by decide), rI_sI (show 357 ≠ 342 by decide), rI_sI (show 357 ≠ 358 by decide), hI_same, if_neg (by omega), rI_sI (show 358 ≠ 342 by decide), rI_sI (show 358 ≠ 342 by decide), hI_same, if_neg (by omega), rI_sI (by decide)]
    exact ⟨rfl, rfl⟩
  · intro j hj
    rw [rI_sI (show 344 ≠ 342 by decide), rI_sI (show 344 ≠ 342 by decide), rI_sI (show 344 ≠ 358 by decide), rI_sI (show 344 ≠ 357 by decide), rI_sI (show 345 ≠ 342 by decide), rI_sI (show 345 ≠ 342 by decide), rI_sI (show 345 ≠ 358 by decide), rI_sI (show 345 ≠ 357 by decide)]
    exact t j hj
  · rw [hI_same, if_neg (by decide), hI_same, if_pos rfl]; simp
  · intro j hj
    rw [rI_sI (show 357 ≠ 342 by decide), rI_sI (show 357 ≠ 342 by decide), rI_sI (show 357 ≠ 358 by decide), hI_same, rI_sI (show 358 ≠ 342 by decide), rI_sI (show 358 ≠ 342 by decide), hI_same, rI_sI (by decide)]
    by_cases qj : j = cs.length
    · subst qj
      rw [if_pos rfl, if_pos rfl]
      simp
      exact hv
    · have hj' : j < cs.length := by simp at hj; omega
      rw [if_neg (by omega), if_neg (by omega), List.getD_eq_getElem?_getD, List.getElem?_append_left hj', ← List.getD_eq_getElem?_getD]
      exact q j hj'
/-! the fact that a word is -/
def fB : List (Option Nat) := [some 0, some 1, some 2, some 3, some 4, none, none, none, some 5, some 6, some 7, some 8, some 9, some 10, some 11]
def fR : List (Option Nat) := [some 0, some 3, some 6, some 9, some 12, some 15, some 18, some 19]
def fcB (t : Nat) : Option Nat := if 10000 ≤ t ∧ t < 10015 then fB.getD (t - 10000) none else none
def fcR (t : Nat) : Option Nat := if 10000 ≤ t ∧ t < 10008 then fR.getD (t - 10000) none else none
def oI (π : Nat → Nat) (o : Option Nat) : Int32 := match o with
  | none => -1
  | some x => nI (π x)
def fbL (t : Nat) : Nat → Nat → Int32 → Int32
  | 0, _, x => x
  | m + 1, k, x => fbL t m (k + 1) (if t = 10000 + rwo k then nI (k - 8) else x)
theorem fbL_no {t : Nat} (q : ∀ k, k < 23 → t ≠ 10000 + rwo k) : ∀ (m k : Nat) (x : Int32), k + m ≤ 23 → fbL t m k x = x
  | 0, _, x, _ => rfl
  | m + 1, k, x, hk => by
    show fbL t m (k + 1) (if t = 10000 + rwo k then nI (k - 8) else x) = x
    rw [if_neg (q k (by omega))]
    exact fbL_no q m (k + 1) x (by omega)
theorem fbL_yes : ∀ r, r < 24 → fbL (10000 + r) 12 8 (-1) = oI id (fcB (10000 + r)) := by decide +kernel
theorem fbL_all (t : Nat) : fbL t 12 8 (-1) = oI id (fcB t) := by
  by_cases q : 10000 ≤ t ∧ t < 10024
  · have := fbL_yes (t - 10000) (by omega)
    rw [show 10000 + (t - 10000) = t by omega] at this
    exact this
  · rw [fbL_no (fun k hk z => by have := (wd_hr k hk).1; omega) 12 8 _ (by decide)]
    unfold fcB
    rw [if_neg (by omega)]
    rfl
theorem w_M_factB (T : TOKS ts) (r : RM ts rd π i 0 cs h) (Q : Option Value → AH → Prop) : ∀ (m k : Nat) (x : Int32), 8 ≤ k → k + m = 20 → (Wp (d + 1) P_M_factHere 7 [.ref 342, .int x, .int (nI k)] [] h Q ↔ Q (some (.int (fbL (tc ts i) m k x))) h) := by
  intro m
  induction m with
  | zero =>
    intro k x hk e
    have : k = 20 := by omega
    subst this
    rw [b_M_factHere_7]
    simp only [show (19 : Int32) < nI 20 by decide, b_M_factHere_22, mem20, mem21, mem22, al20, al21, al33, al34, al36, al37, al38, aa33, aa34, aa36, aa37, aa38, true_and, and_true, Int32.reduceOfNat, forall_const, true_implies, implies_true, false_implies, not_true_eq_false, not_false_eq_true]
    rfl
  | succ m ih =>
    intro k x hk e
    have z : ¬ (19 : Int32) < nI k := mt (nlt (a := 19) (by decide) (by omega)).mp (by omega)
    rw [b_M_factHere_7]
    simp only [z, b_M_factHere_10, m_isWord T k (by omega) r, Option.toList, List.cons_append, List.nil_append, b_M_factHere_13, b_M_factHere_14, b_M_factHere_18, b_M_factHere_19, nI_1, mem20, mem21, mem22, al20, al21, al33, al34, al36, al37, al38, aa33, aa34, aa36, aa37, aa38, true_and, and_true, Int32.reduceOfNat, forall_const, true_implies, implies_true, false_implies, not_true_eq_false, not_false_eq_true]
    have e8 : nI k - 8 = nI (k - 8) := nsub (b := 8) hk
    show _ ↔ Q (some (.int (fbL (tc ts i) m (k + 1) (if tc ts i = 10000 + rwo k then nI (k - 8) else x)))) h
    by_cases q : tc ts i = 10000 + rwo k
    · simp only [if_pos q, e8, show ¬ (1 : Int32) = 0 by decide, ih (k + 1) _ (by omega) (by omega), mem20, mem21, mem22, al20, al21, al33, al34, al36, al37, al38, aa33, aa34, aa36, aa37, aa38, true_and, and_true, Int32.reduceOfNat, forall_const, true_implies, implies_true, false_implies, not_true_eq_false, not_false_eq_true]
    · simp only [if_neg q, ih (k + 1) _ (by omega) (by omega), mem20, mem21, mem22, al20, al21, al33, al34, al36, al37, al38, aa33, aa34, aa36, aa37, aa38, true_and, and_true, Int32.reduceOfNat, forall_const, true_implies, implies_true, false_implies, not_true_eq_false, not_false_eq_true]
def frL (t : Nat) : Nat → Nat → Int32 → Int32
  | 0, _, x => x
  | m + 1, k, x => frL t m (k + 1) (if t = 10000 + rwo (8 + k) then nI (2 + 3 * k) else x)
theorem frL_no {t : Nat} (q : ∀ k, k < 23 → t ≠ 10000 + rwo k) : ∀ (m k : Nat) (x : Int32), k + m ≤ 15 → frL t m k x = x
  | 0, _, x, _ => rfl
  | m + 1, k, x, hk => by
    show frL t m (k + 1) (if t = 10000 + rwo (8 + k) then nI (2 + 3 * k) else x) = x
    rw [if_neg (q (8 + k) (by omega))]
    exact frL_no q m (k + 1) x (by omega)
def frA (t : Nat) : Int32 := if t = 10000 + rwo 20 then 0 else if t = 10000 + rwo 21 then 1 else if t = 10000 + rwo 22 then 17 else frL t 5 0 (-1)
theorem frA_yes : ∀ r, r < 24 → frA (10000 + r) = oI pr (fcR (10000 + r)) := by decide +kernel
theorem frA_all (t : Nat) : frA t = oI pr (fcR t) := by
  by_cases q : 10000 ≤ t ∧ t < 10024
  · have := frA_yes (t - 10000) (by omega)
    rw [show 10000 + (t - 10000) = t by omega] at this
    exact this
  · have qq : ∀ k, k < 23 → t ≠ 10000 + rwo k := fun k hk z => by have := (wd_hr k hk).1; omega
    unfold frA
    rw [if_neg (qq 20 (by decide)), if_neg (qq 21 (by decide)), if_neg (qq 22 (by decide)), frL_no qq 5 0 _ (by decide)]
    unfold fcR
    rw [if_neg (by omega)]
    rfl
theorem w_M_factR (T : TOKS ts) (r : RM ts rd π i 0 cs h) (Q : Option Value → AH → Prop) : ∀ (m k : Nat) (x : Int32), k + m = 5 → (Wp (d + 1) P_M_factHere 26 [.ref 342, .int x, .int (nI k)] [] h Q ↔ Wp (d + 1) P_M_factHere 45 [.ref 342, .int (frL (tc ts i) m k x), .int (nI 5)] [] h Q) := by
  intro m
  induction m with
  | zero =>
    intro k x e
    have : k = 5 := by omega
    subst this
    rw [b_M_factHere_26]
    simp only [show (5 : Int32) ≤ nI 5 by decide, mem20, mem21, mem22, al20, al21, al33, al34, al36, al37, al38, aa33, aa34, aa36, aa37, aa38, true_and, and_true, Int32.reduceOfNat, forall_const, true_implies, implies_true, false_implies, not_true_eq_false, not_false_eq_true]
    rfl
  | succ m ih =>
    intro k x e
    have z : ¬ (5 : Int32) ≤ nI k := mt (nle (a := 5) (by decide) (by omega)).mp (by omega)
    have e8 : (8 : Int32) + nI k = nI (8 + k) := nadd 8 k
    have e3 : (2 : Int32) + 3 * nI k = nI (2 + 3 * k) := by rw [show (3 : Int32) = nI 3 from rfl, nmul]; exact nadd 2 _
    rw [b_M_factHere_26]
    simp only [z, b_M_factHere_29, e8, m_isWord T (8 + k) (by omega) r, Option.toList, List.cons_append, List.nil_append, b_M_factHere_34, b_M_factHere_35, b_M_factHere_41, b_M_factHere_42, nI_1, e3, mem20, mem21, mem22, al20, al21, al33, al34, al36, al37, al38, aa33, aa34, aa36, aa37, aa38, true_and, and_true, Int32.reduceOfNat, forall_const, true_implies, implies_true, false_implies, not_true_eq_false, not_false_eq_true]
    show _ ↔ Wp (d + 1) P_M_factHere 45 [.ref 342, .int (frL (tc ts i) m (k + 1) (if tc ts i = 10000 + rwo (8 + k) then nI (2 + 3 * k) else x)), .int (nI 5)] [] h Q
    by_cases q : tc ts i = 10000 + rwo (8 + k)
    · simp only [if_pos q, show ¬ (1 : Int32) = 0 by decide, ih (k + 1) _ (by omega), mem20, mem21, mem22, al20, al21, al33, al34, al36, al37, al38, aa33, aa34, aa36, aa37, aa38, true_and, and_true, Int32.reduceOfNat, forall_const, true_implies, implies_true, false_implies, not_true_eq_false, not_false_eq_true]
    · simp only [if_neg q, ih (k + 1) _ (by omega), mem20, mem21, mem22, al20, al21, al33, al34, al36, al37, al38, aa33, aa34, aa36, aa37, aa38, true_and, and_true, Int32.reduceOfNat, forall_const, true_implies, implies_true, false_implies, not_true_eq_false, not_false_eq_true]
def fct (rd : Int32) (t : Nat) : Option Nat := if rd = 0 then fcB t else fcR t
theorem m_factHere (T : TOKS ts) (hrd : (rd = 0 ∧ π = id) ∨ (rd = 1 ∧ π = pr)) (r : RM ts rd π i 0 cs h) (Q : Option Value → AH → Prop) : Cl (d + 2) q_M_factHere [.ref 342] h Q ↔ Q (some (.int (oI π (fct rd (tc ts i))))) h := by
  rw [e_M_factHere, b_M_factHere_0]
  simp only [mo r.m, r.rdr, true_and]
  rcases hrd with ⟨rfl, rfl⟩ | ⟨rfl, rfl⟩
  · simp only [b_M_factHere_5, mem20, mem21, mem22, al20, al21, al33, al34, al36, al37, al38, aa33, aa34, aa36, aa37, aa38, true_and, and_true, Int32.reduceOfNat, forall_const, true_implies, implies_true, false_implies, not_true_eq_false, not_false_eq_true]
    have w := w_M_factB (d := d) T r (fun r' h' => rtk (some .int) r' = true ∧ Q r' h') 12 8 (-1) (by decide) (by decide)
    rw [show (Wp (d + 1) P_M_factHere 7 [.ref 342, .int (-1), .int 8] [] h fun r' h' => rtk (some .int) r' = true ∧ Q r' h') = (Wp (d + 1) P_M_factHere 7 [.ref 342, .int (-1), .int (nI 8)] [] h fun r' h' => rtk (some .int) r' = true ∧ Q r' h') from rfl, w, fbL_all]
    simp only [rtI, true_and]
    rfl
  · simp only [b_M_factHere_24, show ¬ (1 : Int32) = 0 by decide, mem20, mem21, mem22, al20, al21, al33, al34, al36, al37, al38, aa33, aa34, aa36, aa37, aa38, true_and, and_true, Int32.reduceOfNat, forall_const, true_implies, implies_true, false_implies, not_true_eq_false, not_false_eq_true]
    have w := w_M_factR (d := d) T r (fun r' h' => rtk (some .int) r' = true ∧ Q r' h') 5 0 (-1) (by decide)
    rw [show (Wp (d + 1) P_M_factHere 26 [.ref 342, .int (-1), .int 0] [] h fun r' h' => rtk (some .int) r' = true ∧ Q r' h') = (Wp (d + 1) P_M_factHere 26 [.ref 342, .int (-1), .int (nI 0)] [] h fun r' h' => rtk (some .int) r' = true ∧ Q r' h') from rfl, w]
    have i20 := fun (Q : Option Value → AH → Prop) => m_isWord (d := d) T 20 (by decide) r Q
    have i21 := fun (Q : Option Value → AH → Prop) => m_isWord (d := d) T 21 (by decide) r Q
    have i22 := fun (Q : Option Value → AH → Prop) => m_isWord (d := d) T 22 (by decide) r Q
    have k20 : (20 : Int32) = nI 20 := rfl
    have k21 : (21 : Int32) = nI 21 := rfl
    have k22 : (22 : Int32) = nI 22 := rfl
    show _ ↔ Q (some (.int (oI pr (fcR (tc ts i))))) h
    rw [← frA_all]
    unfold frA
    generalize frL (tc ts i) 5 0 (-1) = y
    simp only [b_M_factHere_45, k20, k21, k22, i20, i21, i22, Option.toList, List.cons_append, List.nil_append, b_M_factHere_48, b_M_factHere_49, b_M_factHere_51, b_M_factHere_52, b_M_factHere_56, b_M_factHere_57, b_M_factHere_59, b_M_factHere_62, b_M_factHere_63, b_M_factHere_65, b_M_factHere_66, rtI, mem20, mem21, mem22, al20, al21, al33, al34, al36, al37, al38, aa33, aa34, aa36, aa37, aa38, true_and, and_true, Int32.reduceOfNat, forall_const, true_implies, implies_true, false_implies, not_true_eq_false, not_false_eq_true]
    simp only [show rwo 20 = 6 by decide, show rwo 21 = 7 by decide, show rwo 22 = 5 by decide, Nat.reduceAdd]
    by_cases q20 : tc ts i = 10006
    · simp [q20]
    · by_cases q21 : tc ts i = 10007
      · simp [q21]
      · by_cases q22 : tc ts i = 10005
        · simp [q22]
        · simp [q20, q21, q22]
end PMS
