--deps: a4.xrun a2.xblk 92.opnamed 97.opsmall
/-! A HEAP THAT GREW -/
def GRW (h h' : AH) : Prop := (∀ a, a < hz h → hK h' a = hK h a ∧ hN h' a = hN h a ∧ hI h' a = hI h a ∧ hR h' a = hR h a ∧ (a ≠ 377 → hJ h' a = hJ h a)) ∧ hz h ≤ hz h'
theorem xrL_lt : ∀ q ∈ xrL, q.1 < 342 := by decide +kernel
section GR
variable {L : Nat} {xs : Nat → Int32} {c : Nat} {h h' : AH}
theorem XPg.gr {s : Nat} (x : XPg h s) (g : GRW h h') (hs : s + 4 < 342) (hz0 : 378 ≤ hz h) : XPg h' s := by
  obtain ⟨⟨x0, x1, x2, x3, x4, x5, x6, x7, x8, x9, x10⟩, y1, y2, y3, y4⟩ := x
  have e : ∀ a, a < hz h → hK h' a = hK h a ∧ hN h' a = hN h a ∧ hR h' a = hR h a := fun a ha => ⟨(g.1 a ha).1, (g.1 a ha).2.1, (g.1 a ha).2.2.2.1⟩
  have es := e s (by omega)
  have e1 := e (s + 1) (by omega)
  have e2 := e (s + 2) (by omega)
  have e3 := e (s + 3) (by omega)
  have ep := e (hR h s 0) y4
  refine ⟨⟨x0, by rw [es.1]; exact x1, by rw [es.2.2]; exact x2, by rw [es.2.2]; exact x3, by rw [es.2.2]; exact x4, by rw [e1.1]; exact x5, by rw [e2.1]; exact x6, by rw [e3.1]; exact x7, by rw [e1.2.1]; exact x8, by rw [e2.2.1]; exact x9, by rw [e3.2.1]; exact x10⟩, ?_, ?_, ?_, ?_⟩
  · rw [es.2.2, ep.1]; exact y1
  · rw [es.2.2, ep.2.1]; exact y2
  · rw [es.2.2]; exact y3
  · rw [es.2.2]; have := g.2; omega
theorem XLn.gr {s l : Nat} {o : Option (List Nat)} (x : XLn h s l o) (p : XPg h s) (g : GRW h h') (hs : s + 4 < 342) (hz0 : 378 ≤ hz h) : XLn h' s l o := by
  have y4 := p.2.2.2.2
  have ep := g.1 (hR h s 0) y4
  unfold XLn at x ⊢
  rw [(g.1 s (by omega)).2.2.2.1, (g.1 (s + 1) (by omega)).2.2.1, (g.1 (s + 2) (by omega)).2.2.1, ep.2.1, ep.2.2.1]
  exact x
theorem Inv.grw (i : Inv L xs c h) (g : GRW h h') (z : hz h' ≤ hz h + 1) (u : hu h' ≤ hu h + 6) : Inv L xs (c + 1) h' := by
  obtain ⟨i1, i2, i3, i4, i5, i6, i7, i8, i9, i10, i11, i12, i13, i14, i15⟩ := i
  have hz0 := i15.1
  have eI : ∀ a, a < 378 → hI h' a = hI h a := fun a ha => (g.1 a (by omega)).2.2.1
  have eJ : ∀ a, a < 377 → hJ h' a = hJ h a := fun a ha => (g.1 a (by omega)).2.2.2.2 (by omega)
  have eK : ∀ a, a < 378 → hK h' a = hK h a := fun a ha => (g.1 a (by omega)).1
  have eN : ∀ a, a < 378 → hN h' a = hN h a := fun a ha => (g.1 a (by omega)).2.1
  have eR : ∀ a, a < 378 → hR h' a = hR h a := fun a ha => (g.1 a (by omega)).2.2.2.1
  refine ⟨?_, ?_, ?_, ?_, i5.fr (fun a z => eI a (by omega)), i6.fr (by rw [eI 122 (by decide)]) (by rw [eI 342 (by decide)]), i7.fr (fun a z => eI a (by omega)), i8.fr (by rw [eI 109 (by decide)]) (eI _ (by decide)) (eI _ (by decide)) (by rw [eI 342 (by decide)]), ?_, ?_, i11.fr (by rw [eI 105 (by decide)]) (by rw [eI 342 (by decide)]), i12.fr (fun a z => eI a (by omega)), i13.fr (by omega) (eI _ (by decide)) (fun k hk => by rw [eI 105 (by decide)]) (eJ _ (by decide)) (eJ _ (by decide)), i14.fr (by omega) (fun a z => eI a (by omega)) (eJ _ (by decide)), ?_⟩
  · intro a ha
    rw [eK a (by omega), eN a (by omega), eI a (by omega), eR a (by omega)]
    exact i1 a ha
  · refine ⟨fun a ha => ?_, fun q hq => ?_⟩
    · rw [eK _ (by omega), eN _ (by omega)]; exact i2.1 a ha
    · have := xrL_lt q hq
      rw [eR _ (by omega)]; exact i2.2 q hq
  · refine ⟨⟨?_, fun k hk e => ?_, fun a ha => ?_⟩, fun j hj => ?_⟩
    · rw [eK _ (by decide)]; exact i3.1.1
    · rw [eR _ (by decide)]; exact i3.1.2.1 k hk e
    · rw [eK _ (by omega), eN _ (by omega)]; exact i3.1.2.2 a ha
    · rw [eJ _ (by decide)]; exact i3.2 j hj
  · rw [eK _ (by decide), eN _ (by decide)]; exact i4
  · obtain ⟨bd, b1, b2, b3⟩ := i9
    refine ⟨bd, ⟨b1.1.gr g (by decide) hz0, fun l hl => ⟨(b1.2 l hl).1.gr b1.1 g (by decide) hz0, (b1.2 l hl).2⟩⟩, b2.cg (fun j hj => by rw [eI 357 (by decide), eI 358 (by decide)]; exact ⟨rfl, rfl⟩) (eI _ (by decide)), by rw [eI 123 (by decide)]; exact b3⟩
  · intro r hr
    obtain ⟨N, cc, r1, r2⟩ := i10 r hr
    refine ⟨N, cc, ⟨r1.1.gr g (by omega) hz0, r1.2.1, by rw [eI _ (by omega)]; exact r1.2.2.1, fun k hk => ⟨(r1.2.2.2 k hk).1.gr r1.1 g (by omega) hz0, (r1.2.2.2 k hk).2⟩⟩, r2.cg (fun j _ _ => by rw [eI 357 (by decide), eI 358 (by decide)]; exact ⟨rfl, rfl⟩) (by rw [eI _ (by decide)]) (fun k hk => by rw [eI _ (by decide)])⟩
  · have := g.2
    exact ⟨by omega, by omega, by omega⟩
theorem Inv.mk (i : Inv L xs c h) : Inv L xs (c + 1) (mkC h 12 0 6) := by
  refine i.grw ⟨fun a ha => ?_, Nat.le_succ _⟩ (Nat.le_refl _) (Nat.le_refl _)
  have e : ¬ a = hz h := by omega
  rw [hK_mkC, hN_mkC, hI_mkC, hR_mkC, hJ_mkC, if_neg e, if_neg e, if_neg e, if_neg e, if_neg e]
  exact ⟨rfl, rfl, rfl, rfl, fun _ => rfl⟩
theorem Inv.j7 (i : Inv L xs c h) (v : Int64) : Inv L xs (c + 1) (sJ h 377 0 v) := by
  refine i.grw ⟨fun a ha => ⟨rfl, rfl, rfl, rfl, fun z => ?_⟩, Nat.le_refl _⟩ (Nat.le_succ _) (Nat.le_add_right _ _)
  funext j
  show (if a = 377 then _ else _) = _
  rw [if_neg z]
  rfl
theorem Inv.t0 (i : Inv L xs c h) (v : Int32) : Inv L xs c (sI h 342 0 v) := by
  refine i.keep (Nat.le_refl _) (S := onl 342) (T := nov) (Fs1 Fr.rfl') (fun a z => by unfold onl at z; unfold scr; omega) (fun a z => z.elim) ?_ ?_ ?_ ?_ ?_ ?_
  · rw [hI_same, if_neg (by decide)]
  · rw [hI_same, if_neg (by decide)]
  · rw [hI_same, if_neg (by decide)]
  · intro s hs; rw [rI_sI (by decide), rI_sI (by decide)]; exact ⟨rfl, rfl⟩
  · intro s hs; rw [rI_sI (by decide), rI_sI (by decide)]; exact ⟨rfl, rfl⟩
  · intro s hs; rw [rI_sI (by decide)]
def OpTI (L : Nat) (xs : Nat → Int32) (c : Nat) (qx : Nat) (ax : List Value) (qm : Nat) (am : List Value) (h : AH) : Prop := Cl 100 qx ax h (fun r h1 => ∃ t : Int32, r = some (.int t) ∧ Cl 100 qm am h1 (fun r' h2 => ∃ v : Int32, r' = some (.int v) ∧ (t = 0 → hJ h2 377 0 = v.toInt64) ∧ hI h2 342 0 = t ∧ Inv L xs (c + 1) h2))
def OpTJ (L : Nat) (xs : Nat → Int32) (c : Nat) (qx : Nat) (ax : List Value) (qm : Nat) (am : List Value) (h : AH) : Prop := Cl 100 qx ax h (fun r h1 => ∃ t : Int32, r = some (.int t) ∧ Cl 100 qm am h1 (fun r' h2 => ∃ v : Int64, r' = some (.long v) ∧ (t = 0 → hJ h2 377 0 = v) ∧ hI h2 342 0 = t ∧ Inv L xs (c + 1) h2))
theorem wi_n {q : Int32} {np : Nat} (hn : np ≤ 12) : (0 ≤ q ∧ q ≤ nI np - 1) ↔ ∃ k, k < np ∧ q = nI k := by
  cases np with
  | zero =>
    constructor
    · rintro ⟨a, b⟩
      have := Int32.le_trans a b
      exact absurd this (by decide)
    · rintro ⟨k, hk, -⟩; omega
  | succ m =>
    have e : nI (m + 1) - 1 = nI m := by
      rw [← nI_1]; exact Int32.add_sub_cancel _ _
    rw [e]
    constructor
    · rintro ⟨a, b⟩
      have b' : q < Int32.ofNat (m + 1) := Int32.lt_of_le_of_lt b ((nlt (by omega) (by omega)).mpr (by omega))
      exact n_ex (m + 1) a b' (by omega)
    · rintro ⟨k, hk, rfl⟩
      exact ⟨(nle (a := 0) (by decide) (by omega)).mpr (by omega), (nle (by omega) (by omega)).mpr (by omega)⟩
theorem op_jump (i : Inv L xs c h) (s q l : Int32) : OpTI L xs c 302 [.ref 100, .int s, .int q, .int l, .ref 377] q_M_jump [.ref 342, .int s, .int q, .int l] h := by
  have ii := i
  obtain ⟨i1, i2, i3, i4, i5, i6, i7, i8, i9, i10, i11, i12, i13, i14, i15⟩ := i
  obtain ⟨n, hn, en, en2⟩ := i11
  unfold OpTI
  refine Cl_xj (d := 99) ⟨xk_100 i2, i4.1, i4.2⟩ ?_
  have no : ¬ ((0 ≤ s ∧ s < nI n) ∧ (0 ≤ q ∧ q ≤ hI h 365 s.toNatClampNeg - 1) ∧ (0 ≤ l ∧ l ≤ 2)) → thr 377 (fun r h1 => ∃ t : Int32, r = some (.int t) ∧ Cl 100 q_M_jump [.ref 342, .int s, .int q, .int l] h1 (fun r' h2 => ∃ v : Int32, r' = some (.int v) ∧ (t = 0 → hJ h2 377 0 = v.toInt64) ∧ hI h2 342 0 = t ∧ Inv L xs (c + 1) h2)) (some .null) h := by
    intro w
    refine Or.inr (Or.inr ⟨rfl, 1, rfl, ?_⟩)
    have j7 := ii.mk
    have m7 := j7.2.2.1
    have ne : ∀ a, a < 378 → hI (mkC h 12 0 6) a = hI h a := fun a ha => by
      rw [hI_mkC, if_neg (by omega)]
    have e30 : hI (mkC h 12 0 6) 342 30 = nI n := by rw [ne 342 (by decide)]; exact en2
    have m8 : MLY (sI (mkC h 12 0 6) 342 0 1) := m7.fr (S := onl 342) (T := nov) (Fs1 Fr.rfl')
    have o : ¬ hI (sI (mkC h 12 0 6) 342 0 1) 342 0 ≤ 0 := by rw [hI_same, if_pos rfl]; decide
    have fin : ∃ v : Int32, some (Value.int 0) = some (Value.int v) ∧ ((1 : Int32) = 0 → hJ (sI (mkC h 12 0 6) 342 0 1) 377 0 = v.toInt64) ∧ hI (sI (mkC h 12 0 6) 342 0 1) 342 0 = 1 ∧ Inv L xs (c + 1) (sI (mkC h 12 0 6) 342 0 1) := ⟨0, rfl, fun z => absurd z (by decide), by rw [hI_same, if_pos rfl], j7.t0 1⟩
    generalize mkC h 12 0 6 = h7 at *
    rw [e_M_jump, b_M_jump_0]
    simp only [mo m7, c_M_isSitting _ _ m7, e30, Option.toList, List.cons_append, List.nil_append, b_M_jump_4, iz, b_M_jump_22, b_M_jump_23, mo m8, o, b_M_jump_27, b_M_jump_41, rtI, mem20, mem21, mem22, al20, al21, al33, al34, al36, al37, al38, aa33, aa34, aa36, aa37, aa38, true_and, and_true, Int32.reduceOfNat, forall_const, true_implies, implies_true, false_implies, not_true_eq_false, not_false_eq_true]
    refine ⟨fun _ => fin, fun q1 => ?_⟩
    have q1 := Classical.not_not.mp q1
    obtain ⟨k, hk, rfl⟩ := n_ex n q1.1 q1.2 (by omega)
    have ck := cN (n := k) (by omega)
    have i24 : ixo (nI k) 25 = true := nix (by omega) (by decide)
    rw [ck] at w
    simp only [b_M_jump_5, mo m7, mr_31 m7, mk_365 m7, mn_365 m7, i24, ck, c_M_within, b_M_jump_14, bw0, Option.toList, List.cons_append, List.nil_append, b_M_jump_15, b_M_jump_19, b_M_jump_22, b_M_jump_23, mo m8, o, b_M_jump_27, b_M_jump_41, ne 365 (by decide), rtI, mem20, mem21, mem22, al20, al21, al33, al34, al36, al37, al38, aa33, aa34, aa36, aa37, aa38, true_and, and_true, Int32.reduceOfNat, forall_const, true_implies, implies_true, false_implies, not_true_eq_false, not_false_eq_true]
    exact ⟨fun _ => fin, fun q2 => ⟨fun _ => fin, fun q3 => absurd ⟨q1, Classical.not_not.mp q2, Classical.not_not.mp q3⟩ w⟩⟩
  rw [b_xj_0]
  rw [c_X_keptSitting _ h i2, en]
  by_cases q1 : 0 ≤ s ∧ s < nI n
  · obtain ⟨k, hk, rfl⟩ := n_ex n q1.1 q1.2 (by omega)
    have z0 : (0 : Int32) ≤ nI k ∧ nI k ≤ 23 := ⟨q1.1, (nle (b := 23) (by omega) (by decide)).mpr (by omega)⟩
    have ck := cN (n := k) (by omega)
    obtain ⟨np, ks, is⟩ := i12 k (by omega)
    have z1 : ¬ 190 + 6 * k = 0 := by omega
    have z2 : 100 ≤ 190 + 6 * k := by omega
    have si := sit_si i2 (show k < 24 by omega)
    have e1 : hI h (190 + 6 * k + 1) 3 = nI np := by rw [show 190 + 6 * k + 1 = 191 + 6 * k by omega]; exact is.2.1
    rw [ck, is.2.2.1] at no
    simp only [z0, q1, ck, and_self, if_true, Option.toList, List.cons_append, List.nil_append, b_xj_3, z1, z2, or_true, b_xj_6, si.2.1, si.2.2.1, si.2.2.2.2.1.2.1, e1, c_within, b_xj_14, bw0, b_xj_15, b_xj_19, b_xj_20, mem20, mem21, mem22, al20, al21, al33, al34, al36, al37, al38, aa33, aa34, aa36, aa37, aa38, true_and, and_true, Int32.reduceOfNat, forall_const, true_implies, implies_true, false_implies, not_true_eq_false, not_false_eq_true]
    have i24 : ixo (nI k) 25 = true := nix (by omega) (by decide)
    by_cases q2 : (0 ≤ q ∧ q ≤ nI np - 1) ∧ (0 ≤ l ∧ l ≤ 2)
    · obtain ⟨q2, q3⟩ := q2
      simp only [q2, q3, and_self, b_xj_25, mem20, mem21, mem22, al20, al21, al33, al34, al36, al37, al38, aa33, aa34, aa36, aa37, aa38, true_and, and_true, Int32.reduceOfNat, forall_const, true_implies, implies_true, false_implies, not_true_eq_false, not_false_eq_true]
      obtain ⟨qn, hq, rfl⟩ := (wi_n is.1).mp q2
      obtain ⟨l1, l2⟩ := n_of (M := 2) (n := 2) (by decide) q3
      obtain ⟨ln, hl, rfl⟩ : ∃ ln, ln ≤ 2 ∧ l = nI ln := ⟨_, l1, l2⟩
      rw [c_Si_jumpAt (190 + 6 * k) qn ln h si (by have := is.1; omega) (by omega)]
      simp only [Option.toList, List.cons_append, List.nil_append, b_xj_29]
      have ev : hI h (190 + 6 * k + 5) (3 * qn + ln) = hI h 369 (36 * k + (3 * qn + ln)) := by
        rw [show 190 + 6 * k + 5 = 195 + 6 * k by omega]
        exact is.2.2.2.2.2.2 _ (by omega)
      refine Or.inl ⟨_, rfl, 0, rfl, ?_⟩
      rw [ev]
      have j7 := ii.j7 (Int32.toInt64 (hI h 369 (36 * k + (3 * qn + ln))))
      have m7 := j7.2.2.1
      have i9 : ixo (nI (36 * k + (3 * qn + ln))) 900 = true := nix (by have := is.1; omega) (by decide)
      rw [e_M_jump, b_M_jump_0]
      generalize hv : hI h 369 (36 * k + (3 * qn + ln)) = v at j7 m7
      have m8 : MLY (sI (sJ h 377 0 (Int32.toInt64 v)) 342 0 0) := m7.fr (S := onl 342) (T := nov) (Fs1 Fr.rfl')
      have o : hI (sI (sJ h 377 0 (Int32.toInt64 v)) 342 0 0) 342 0 ≤ 0 := by rw [hI_same, if_pos rfl]; decide
      have ev2 : hI (sI (sJ h 377 0 (Int32.toInt64 v)) 342 0 0) 369 (36 * k + (3 * qn + ln)) = v := by rw [rI_sI (by decide), hI_sJ]; exact hv
      simp only [mo m7, c_M_isSitting _ _ m7, hI_sJ, en2, q1, and_self, if_true, Option.toList, List.cons_append, List.nil_append, b_M_jump_4, show ¬ (1 : Int32) = 0 by decide, b_M_jump_5, mr_31 m7, mk_365 m7, mn_365 m7, i24, ck, is.2.2.1, c_M_within, b_M_jump_14, bw0, q2, b_M_jump_15, b_M_jump_19, q3, b_M_jump_20, b_M_jump_23, mo m8, o, b_M_jump_29, mr_35 m8, mk_369 m8, mn_369 m8, n36, i9, cN (show 36 * k + (3 * qn + ln) < 2147483648 by have := is.1; omega), ev2, b_M_jump_41, rtI, mem20, mem21, mem22, al20, al21, al33, al34, al36, al37, al38, aa33, aa34, aa36, aa37, aa38, true_and, and_true, Int32.reduceOfNat, forall_const, true_implies, implies_true, false_implies, not_true_eq_false, not_false_eq_true]
      refine ⟨v, rfl, ?_, ?_, j7.t0 0⟩
      · rw [hJ_sI, hJ_same, if_pos rfl]
      · rw [hI_same, if_pos rfl]
    · have no' := no (fun w => q2 w.2)
      refine ⟨fun _ => no', fun w1 => ⟨fun w2 => ?_, fun _ => no'⟩⟩
      exact absurd ⟨Classical.not_not.mp w1, Classical.not_not.mp w2⟩ q2
  · have q4 : ¬ ((0 ≤ s ∧ s ≤ 23) ∧ s < nI n) := fun z => q1 ⟨z.1.1, z.2⟩
    simp only [q4, if_false, Option.toList, List.cons_append, List.nil_append, b_xj_3, true_or, b_xj_20, mem20, mem21, mem22, al20, al21, al33, al34, al36, al37, al38, aa33, aa34, aa36, aa37, aa38, true_and, and_true, Int32.reduceOfNat, forall_const, true_implies, implies_true, false_implies, not_true_eq_false, not_false_eq_true]
    exact no (fun w => q1 w.1)
end GR
