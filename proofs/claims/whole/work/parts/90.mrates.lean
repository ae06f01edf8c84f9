--deps: 89.rates
/-! RATES OF THE REFERENCE -/
def KS (h h' : AH) : Prop := (∀ s, s < 24 → hI h' 365 s = hI h 365 s ∧ hI h' 366 s = hI h 366 s) ∧ (∀ j, j < 288 → hI h' 367 j = hI h 367 j ∧ hI h' 368 j = hI h 368 j) ∧ (∀ j, j < 864 → hI h' 369 j = hI h 369 j)
theorem KS.rf {h : AH} : KS h h := ⟨fun _ _ => ⟨rfl, rfl⟩, fun _ _ => ⟨rfl, rfl⟩, fun _ _ => rfl⟩
theorem KS.tr {h h1 h2 : AH} (a : KS h h1) (b : KS h1 h2) : KS h h2 := ⟨fun s hs => ⟨(b.1 s hs).1.trans (a.1 s hs).1, (b.1 s hs).2.trans (a.1 s hs).2⟩, fun s hs => ⟨(b.2.1 s hs).1.trans (a.2.1 s hs).1, (b.2.1 s hs).2.trans (a.2.1 s hs).2⟩, fun s hs => (b.2.2 s hs).trans (a.2.2 s hs)⟩
theorem KS.of {h h' : AH} (e : ∀ a, 365 ≤ a → a ≤ 369 → hI h' a = hI h a) : KS h h' := ⟨fun _ _ => by rw [e 365 (by decide) (by decide), e 366 (by decide) (by decide)]; exact ⟨rfl, rfl⟩, fun _ _ => by rw [e 367 (by decide) (by decide), e 368 (by decide) (by decide)]; exact ⟨rfl, rfl⟩, fun _ _ => by rw [e 369 (by decide) (by decide)]⟩
theorem MSat.ks {h h' : AH} {n a b : Nat} {kd it jv : Nat → Int32} (x : MSat h h' 24 n a b kd it jv) : KS h h' := by
  obtain ⟨y1, y2, y3, y4, y5, y6, y7, y8⟩ := x
  exact ⟨fun s hs => y4 s (by omega), fun j hj => y6 j (by omega), fun j hj => y8 j (by omega)⟩
theorem jrow_4 {bd : Nat → Option (List Nat)} {kd it : Nat → Int32} {ti fe dn hd tr : Int32} {i z : Nat} (hz : z < 4) : jrow bd kd it ti fe dn hd tr (4 * i + z) = jmp bd kd it ti fe dn hd tr (i / 3) (i % 3) z := by
  unfold jrow
  rw [show (4 * i + z) / 12 = i / 3 by omega, show (4 * i + z) % 12 / 4 = i % 3 by omega, show (4 * i + z) % 4 = z by omega]
theorem ms_tv {bd : Nat → Option (List Nat)} {h h1 : AH} {n sd : Nat} {ks : Nat → Nat} {kd it : Nat → Int32} {fe dn hd tr : Int32} (x : MSat h h1 24 n n (3 * n) kd it (fun i => jmp bd kd it (hI h 342 15) fe dn hd tr (i / 3) (i % 3) (nzN (gi sd (i + 1))))) : stF n ks (fun q => hI h1 368 (12 * 24 + q)) (hI h1 366 24) (fun i => hI h1 369 (36 * 24 + i)) (3 * n) = stF n ks it (hI h 342 15) (fun i => jrow bd kd it (hI h 342 15) fe dn hd tr (4 * i + nzN (gi sd (i + 1)))) (3 * n) := by
  obtain ⟨y1, y2, y3, y4, y5, y6, y7, y8⟩ := x
  rw [y3]
  refine stF_ext (m := n) (fun q hq => (y5 q hq).2) ?_ _ (Nat.le_refl _)
  intro i hi
  rw [jrow_4 (nz_lt _)]
  exact y7 i hi
theorem ms_ki {h h1 : AH} {n a : Nat} {ks : Nat → Nat} {kd it jv : Nat → Int32} (x : MSat h h1 24 n n a kd it jv) (hks : ∀ q, q < n → kd q = nI (ks q) ∧ ks q < 4 ∧ (ks q = 3 ↔ ¬ it q = -1)) : KI n ks (fun q => hI h1 367 (12 * 24 + q)) (fun q => hI h1 368 (12 * 24 + q)) := by
  obtain ⟨y1, y2, y3, y4, y5, y6, y7, y8⟩ := x
  intro q hq
  obtain ⟨a1, a2⟩ := y5 q hq
  show hI h1 367 (12 * 24 + q) = _ ∧ _ ∧ (_ ↔ ¬ hI h1 368 (12 * 24 + q) = -1)
  rw [a1, a2]
  exact hks q hq
def mrs : Nat → Prop := fun a => 363 ≤ a ∧ a ≤ 370
section FR
variable {d j k n N sn : Nat} {file : Int32} {bd : Nat → Option (List Nat)} {ks : Nat → Nat} {kd it : Nat → Int32} {cc : Nat → List Nat} {h0 : AH} {T : Nat → Nat → Int32} {Q : Option Value → AH → Prop}
/-- one person's seeds -/
theorem w_M_fRs (m0 : MLY h0) (b0 : MBA h0 bd) (hk : k < 4) (hj : j < 4) (mr0 : MRd h0 k N cc) (hn : hI h0 353 j = nI n) (hn2 : n ≤ 12) (hkd : kd = fun q => hI h0 354 (12 * j + q)) (hit : it = fun q => hI h0 355 (12 * j + q)) (hks : ∀ q, q < n → kd q = nI (ks q) ∧ ks q < 4 ∧ (ks q = 3 ↔ ¬ it q = -1)) (ti : 0 ≤ hI h0 342 15) (hsn : sn < 2147483648) (hT : T = fun p => tv (jrow bd kd it (hI h0 342 15) (hI h0 349 p) (hI h0 350 p) (hI h0 351 p) (hI h0 352 p)) it (hI h0 342 15) n ks N cc file) (p : Nat) (hp : p < 8) (R : Nat → Nat) (td : ¬ hI h0 348 p = 0)
    (fin : ∀ h' v7, Fr mrs nov h0 h' → KS h0 h' → (∀ i, i < 4 → hI h' 370 i = nI (if i = sdN (hI h0 350 p) then R i + hN' (T p) sn else if i = sdN (hI h0 350 p) + 1 then R i + sn else R i)) → Wp (d + 4) P_M_findRates 74 [.ref 342, .int (nI j), .int (nI k), .int file, .int (nI sn), .int (nI p), .int (nI sn), v7] [] h' Q) : ∀ (m s : Nat) (h : AH) (v7 : Value), s + m = sn → Fr mrs nov h0 h → KS h0 h → (∀ i, i < 4 → hI h 370 i = nI (if i = sdN (hI h0 350 p) then R i + hN' (T p) s else if i = sdN (hI h0 350 p) + 1 then R i + s else R i)) →
    Wp (d + 4) P_M_findRates 19 [.ref 342, .int (nI j), .int (nI k), .int file, .int (nI sn), .int (nI p), .int (nI s), v7] [] h Q := by
  have i8 : ixo (nI p) 8 = true := nix hp (by decide)
  have c8 := cN (n := p) (by omega)
  intro m
  induction m with
  | zero =>
    intro s h v7 e fr kp g
    have : s = sn := by omega
    subst this
    rw [b_M_findRates_19]
    simp only [Int32.le_refl, mem20, mem21, mem22, al20, al21, al33, al34, al36, al37, al38, aa33, aa34, aa36, aa37, aa38, true_and, and_true, Int32.reduceOfNat, forall_const, true_implies, implies_true, false_implies, not_true_eq_false, not_false_eq_true]
    exact fin h v7 fr kp g
  | succ m ih =>
    intro s h v7 e fr kp g
    have m' := m0.fr fr
    have em : ∀ a, a < 363 → hI h a = hI h0 a := fun a ha => fr.I (by unfold mrs; omega)
    have z : ¬ nI sn ≤ nI s := mt (nle (by omega) (by omega)).mp (by omega)
    rw [b_M_findRates_19]
    simp only [z, b_M_findRates_22, mo m', mr_10 m', mk_348 m', mn_348 m', i8, c8, em 348 (by decide), td, b_M_findRates_27, mr_14 m', mk_352 m', mn_352 m', em 352 (by decide), mem20, mem21, mem22, al20, al21, al33, al34, al36, al37, al38, aa33, aa34, aa36, aa37, aa38, true_and, and_true, Int32.reduceOfNat, forall_const, true_implies, implies_true, false_implies, not_true_eq_false, not_false_eq_true]
    refine c_M_sits 24 p j s n _ bd h m' (b0.fr fr (by unfold mrs; omega)) (by decide) hp hj (by omega) (by rw [em 353 (by decide)]; exact hn) hn2 ?_ (by rw [em 342 (by decide)]; exact ti) kd it _ (by rw [em 354 (by decide)]; exact hkd) (by rw [em 355 (by decide)]; exact hit) rfl _ ?_
    · intro q hq w
      rw [em 354 (by decide)] at w
      rw [em 355 (by decide)]
      obtain ⟨w1, w2, w3⟩ := hks q hq
      have e1 : kd q = hI h0 354 (12 * j + q) := by rw [hkd]
      have e2 : it q = hI h0 355 (12 * j + q) := by rw [hit]
      rw [← e2]
      apply Classical.byContradiction
      intro w4
      apply w
      rw [← e1, w1, w3.mpr w4]
      rfl
    · intro h1 ms
      have ms0 := ms
      have m1 := m'.fr ms.1
      have e1 : ∀ a, a < 363 → hI h1 a = hI h0 a := fun a ha => by rw [ms.1.I (by unfold mss; omega), em a ha]
      have g370 : hI h1 370 = hI h 370 := ms.1.I (by unfold mss; omega)
      have sde : (if hI h0 350 p = 0 then (2 : Int32) else 0) = nI (sdN (hI h0 350 p)) := by
        unfold sdN
        split <;> rfl
      have so := sdN_or (hI h0 350 p)
      have i4 : ixo (nI (sdN (hI h0 350 p))) 4 = true := nix (by omega) (by decide)
      have i5 : ixo (nI (sdN (hI h0 350 p) + 1)) 4 = true := nix (by omega) (by decide)
      have c4 := cN (n := sdN (hI h0 350 p)) (by omega)
      have c5 := cN (n := sdN (hI h0 350 p) + 1) (by omega)
      simp only [Option.toList, List.cons_append, List.nil_append, b_M_findRates_37, mo m1, mr_12 m1, mk_350 m1, mn_350 m1, i8, c8, e1 350 (by decide), b_M_findRates_42, b_M_findRates_44, jW, sde, mem20, mem21, mem22, al20, al21, al33, al34, al36, al37, al38, aa33, aa34, aa36, aa37, aa38, true_and, and_true, Int32.reduceOfNat, forall_const, true_implies, implies_true, false_implies, not_true_eq_false, not_false_eq_true]
      rw [b_M_findRates_45]
      simp only [mo m1, mr_36 m1, mk_370 m1, mn_370 m1, i4, c4, mem20, mem21, mem22, al20, al21, al33, al34, al36, al37, al38, aa33, aa34, aa36, aa37, aa38, true_and, and_true, Int32.reduceOfNat, forall_const, true_implies, implies_true, false_implies, not_true_eq_false, not_false_eq_true]
      have frA : Fr mrs nov h0 h1 := fr.tr (ms.1.mo (by unfold mss mrs; omega) (fun a z => z))
      refine c_M_doesSay 24 n k N ks file cc h1 m1 (mr0.fr frA (by unfold mrs; omega)) hk (by decide) ms.2.1 hn2 _ _ rfl rfl (ms_ki ms hks) _ ?_
      intro h2 fr2
      rw [ms_tv ms, em 342 (by decide), em 349 (by decide), em 350 (by decide), em 351 (by decide)]
      have et : fdR (wF (stF n ks it (hI h0 342 15) (fun i => jrow bd kd it (hI h0 342 15) (hI h0 349 p) (hI h0 350 p) (hI h0 351 p) (hI h0 352 p) (4 * i + nzN (gi s (i + 1)))) (3 * n)) file) cc N 0 = T p s := by rw [hT]; rfl
      rw [et]
      have m2 := m1.fr fr2
      have f370 : hI h2 370 = hI h 370 := by rw [fr2.I (by unfold dss; omega), g370]
      have frB : Fr mrs nov h0 h2 := frA.tr (fr2.mo (by unfold dss mrs; omega) (fun a z => z))
      have kpB : KS h0 h2 := (kp.tr ms0.ks).tr (KS.of (fun a h1 h2 => fr2.I (by unfold dss; omega)))
      simp only [Option.toList, List.cons_append, List.nil_append, b_M_findRates_56, b_M_findRates_57, b_M_findRates_59, jW]
      rw [b_M_findRates_60]
      simp only [mo m2, mr_36 m2, mk_370 m2, mn_370 m2, hI_sI, hJ_sI, hR_sI, hK_sI, hN_sI, hz_sI, hu_sI, hJ_sJ, hI_sJ, hR_sJ, hK_sJ, hN_sJ, hz_sJ, hu_sJ, hR_sR, hI_sR, hJ_sR, hK_sR, hN_sR, hz_sR, hu_sR, i4, i5, c4, c5, nI_1, if_true, mem20, mem21, mem22, al20, al21, al33, al34, al36, al37, al38, aa33, aa34, aa36, aa37, aa38, true_and, and_true, Int32.reduceOfNat, forall_const, true_implies, implies_true, false_implies, not_true_eq_false, not_false_eq_true, show ¬ sdN (hI h0 350 p) + 1 = sdN (hI h0 350 p) by omega, if_false]
      have hs : hN' (T p) (s + 1) = hN' (T p) s + if T p s = 0 then 0 else 1 := rfl
      have k3 : ∀ w u, KS h0 (sI (sI h2 370 (sdN (hI h0 350 p)) w) 370 (sdN (hI h0 350 p) + 1) u) := fun w u => kpB.tr (KS.of (fun a h1 h2 => by rw [rI_sI (by omega), rI_sI (by omega)]))
      refine ih (s + 1) _ _ (by omega) ((frB.sI (by unfold mrs; omega)).sI (by unfold mrs; omega)) (k3 _ _) ?_
      intro i hi
      rw [hI_same, hI_same, f370, g370]
      by_cases q1 : i = sdN (hI h0 350 p) + 1
      · rw [if_pos q1, if_neg (by omega), if_pos q1, ← q1, g i hi, if_neg (by omega), if_pos q1, nI_1, Nat.add_assoc]
      · rw [if_neg q1]
        by_cases q2 : i = sdN (hI h0 350 p)
        · rw [if_pos q2, if_pos q2, ← q2, g i hi, if_pos q2, hs]
          by_cases q3 : T p s = 0
          · rw [if_pos q3, if_pos q3, Int32.add_zero]
            rfl
          · rw [if_neg q3, if_neg q3, nI_1, Nat.add_assoc]
        · rw [if_neg q2, if_neg q2, if_neg q1, g i hi, if_neg q2, if_neg q1]
theorem w_M_fRp (m0 : MLY h0) (b0 : MBA h0 bd) (hk : k < 4) (hj : j < 4) (mr0 : MRd h0 k N cc) (hn : hI h0 353 j = nI n) (hn2 : n ≤ 12) (hkd : kd = fun q => hI h0 354 (12 * j + q)) (hit : it = fun q => hI h0 355 (12 * j + q)) (hks : ∀ q, q < n → kd q = nI (ks q) ∧ ks q < 4 ∧ (ks q = 3 ↔ ¬ it q = -1)) (ti : 0 ≤ hI h0 342 15) (hsn0 : 0 < sn) (hsn : sn < 2147483648) (hT : T = fun p => tv (jrow bd kd it (hI h0 342 15) (hI h0 349 p) (hI h0 350 p) (hI h0 351 p) (hI h0 352 p)) it (hI h0 342 15) n ks N cc file) (td dn : Nat → Int32) (htd : td = fun p => hI h0 348 p) (hdn : dn = fun p => hI h0 350 p)
    (fin : ∀ h', Fr mrs nov h0 h' → KS h0 h' → (∀ i, i < 4 → hI h' 370 i = nI (rwN td dn T sn 8 i)) → Q none h') : ∀ (m p : Nat) (h : AH) (v6 v7 : Value), p + m = 8 → Fr mrs nov h0 h → KS h0 h → (∀ i, i < 4 → hI h 370 i = nI (rwN td dn T sn p i)) →
    Wp (d + 4) P_M_findRates 14 [.ref 342, .int (nI j), .int (nI k), .int file, .int (nI sn), .int (nI p), v6, v7] [] h Q := by
  intro m
  induction m with
  | zero =>
    intro p h v6 v7 e fr kp g
    have : p = 8 := by omega
    subst this
    rw [b_M_findRates_14]
    simp only [show (8 : Int32) ≤ nI 8 by decide, b_M_findRates_76, mem20, mem21, mem22, al20, al21, al33, al34, al36, al37, al38, aa33, aa34, aa36, aa37, aa38, true_and, and_true, Int32.reduceOfNat, forall_const, true_implies, implies_true, false_implies, not_true_eq_false, not_false_eq_true]
    exact fin h fr kp g
  | succ m ih =>
    intro p h v6 v7 e fr kp g
    have z : ¬ (8 : Int32) ≤ nI p := mt (nle (a := 8) (by decide) (by omega)).mp (by omega)
    have m' := m0.fr fr
    have em : ∀ a, a < 363 → hI h a = hI h0 a := fun a ha => fr.I (by unfold mrs; omega)
    have i8 : ixo (nI p) 8 = true := nix (by omega) (by decide)
    have c8 := cN (n := p) (by omega)
    have etd : hI h0 348 p = td p := by rw [htd]
    have edn : hI h0 350 p = dn p := by rw [hdn]
    rw [b_M_findRates_14]
    simp only [z, b_M_findRates_17, mem20, mem21, mem22, al20, al21, al33, al34, al36, al37, al38, aa33, aa34, aa36, aa37, aa38, true_and, and_true, Int32.reduceOfNat, forall_const, true_implies, implies_true, false_implies, not_true_eq_false, not_false_eq_true]
    by_cases q : td p = 0
    · have z2 : ¬ nI sn ≤ nI 0 := mt (nle (by omega) (by decide)).mp (by omega)
      rw [show (0 : Int32) = nI 0 from rfl, b_M_findRates_19]
      simp only [z2, b_M_findRates_22, mo m', mr_10 m', mk_348 m', mn_348 m', i8, c8, em 348 (by decide), etd, q, b_M_findRates_74, nI_1, mem20, mem21, mem22, al20, al21, al33, al34, al36, al37, al38, aa33, aa34, aa36, aa37, aa38, true_and, and_true, Int32.reduceOfNat, forall_const, true_implies, implies_true, false_implies, not_true_eq_false, not_false_eq_true]
      refine ih (p + 1) h _ _ (by omega) fr kp ?_
      intro i hi
      rw [rwN_s]
      simp only [q, if_true]
      exact g i hi
    · refine w_M_fRs (R := rwN td dn T sn p) m0 b0 hk hj mr0 hn hn2 hkd hit hks ti hsn hT p (by omega) (by rw [etd]; exact q) ?_ sn 0 h v7 (by omega) fr kp ?_
      · intro h1 v7' fr1 kp1 g1
        rw [b_M_findRates_74, nI_1]
        refine ih (p + 1) h1 _ _ (by omega) fr1 kp1 ?_
        intro i hi
        rw [g1 i hi, rwN_s, edn]
        simp only [q, if_false]
      · intro i hi
        rw [g i hi]
        congr 1
        show _ = if i = sdN (hI h0 350 p) then rwN td dn T sn p i + 0 else if i = sdN (hI h0 350 p) + 1 then rwN td dn T sn p i + 0 else rwN td dn T sn p i
        split
        · rfl
        · split <;> rfl
theorem w_M_fR00 {x1 x2 x3 x4 : Int32} (m0 : MLY h0) (fin : ∀ h', Fr mrs nov h0 h' → KS h0 h' → (∀ i, i < 4 → hI h' 370 i = 0) → Wp d P_M_findRates 12 [.ref 342, .int x1, .int x2, .int x3, .int x4, .int (nI 4), .null, .null] [] h' Q) : ∀ (m i : Nat) (h : AH), i + m = 4 → Fr mrs nov h0 h → KS h0 h → (∀ j, j < i → hI h 370 j = 0) → Wp d P_M_findRates 2 [.ref 342, .int x1, .int x2, .int x3, .int x4, .int (nI i), .null, .null] [] h Q := by
  intro m
  induction m with
  | zero =>
    intro i h e fr kp g
    have : i = 4 := by omega
    subst this
    rw [b_M_findRates_2]
    simp only [show (4 : Int32) ≤ nI 4 by decide, mem20, mem21, mem22, al20, al21, al33, al34, al36, al37, al38, aa33, aa34, aa36, aa37, aa38, true_and, and_true, Int32.reduceOfNat, forall_const, true_implies, implies_true, false_implies, not_true_eq_false, not_false_eq_true]
    exact fin h fr kp g
  | succ m ih =>
    intro i h e fr kp g
    have m' := m0.fr fr
    have z : ¬ (4 : Int32) ≤ nI i := mt (nle (a := 4) (by decide) (by omega)).mp (by omega)
    have i1 : ixo (nI i) 4 = true := nix (by omega) (by decide)
    rw [b_M_findRates_2]
    simp only [z, b_M_findRates_5, mo m', mr_36 m', mk_370 m', mn_370 m', i1, cN (show i < 2147483648 by omega), nI_1, mem20, mem21, mem22, al20, al21, al33, al34, al36, al37, al38, aa33, aa34, aa36, aa37, aa38, true_and, and_true, Int32.reduceOfNat, forall_const, true_implies, implies_true, false_implies, not_true_eq_false, not_false_eq_true]
    refine ih (i + 1) _ (by omega) (fr.sI (by unfold mrs; omega)) (kp.tr (KS.of (fun a h1 h2 => rI_sI (by omega)))) ?_
    intro j hj
    rw [hI_same]
    by_cases q : j = i
    · rw [if_pos q]
    · rw [if_neg q]; exact g j (by omega)
theorem c_M_findRates (m0 : MLY h0) (b0 : MBA h0 bd) (hk : k < 4) (hj : j < 4) (mr0 : MRd h0 k N cc) (hn : hI h0 353 j = nI n) (hn2 : n ≤ 12) (hkd : kd = fun q => hI h0 354 (12 * j + q)) (hit : it = fun q => hI h0 355 (12 * j + q)) (hks : ∀ q, q < n → kd q = nI (ks q) ∧ ks q < 4 ∧ (ks q = 3 ↔ ¬ it q = -1)) (ti : 0 ≤ hI h0 342 15) (hsn0 : 0 < sn) (hsn : sn < 2147483648) (hT : T = fun p => tv (jrow bd kd it (hI h0 342 15) (hI h0 349 p) (hI h0 350 p) (hI h0 351 p) (hI h0 352 p)) it (hI h0 342 15) n ks N cc file) (td dn : Nat → Int32) (htd : td = fun p => hI h0 348 p) (hdn : dn = fun p => hI h0 350 p)
    (fin : ∀ h', Fr mrs nov h0 h' → KS h0 h' → (∀ i, i < 4 → hI h' 370 i = nI (rwN td dn T sn 8 i)) → Q none h') : Cl (d + 5) q_M_findRates [.ref 342, .int (nI j), .int (nI k), .int file, .int (nI sn)] h0 Q := by
  rw [e_M_findRates, b_M_findRates_0]
  refine ⟨mo m0, w_M_fR00 m0 ?_ 4 0 h0 rfl Fr.rfl' KS.rf (fun j hj => by omega)⟩
  intro h1 fr1 kp1 g1
  rw [b_M_findRates_12]
  exact w_M_fRp m0 b0 hk hj mr0 hn hn2 hkd hit hks ti hsn0 hsn hT td dn htd hdn (fun h' a b c => ⟨rtV, fin h' a b c⟩) 8 0 h1 _ _ rfl fr1 kp1 (fun i hi => by rw [g1 i hi]; rfl)
end FR
