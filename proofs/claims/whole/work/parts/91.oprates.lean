--deps: 90.mrates
theorem rwN_ext {td dn td' dn' : Nat → Int32} {T T' : Nat → Nat → Int32} {sn : Nat} : ∀ {m : Nat}, (∀ p, p < m → td p = td' p ∧ dn p = dn' p ∧ T p = T' p) → rwN td dn T sn m = rwN td' dn' T' sn m
  | 0, _ => rfl
  | m + 1, e => by
    rw [rwN_s, rwN_s, rwN_ext (fun p hp => e p (by omega)), (e m (by omega)).1, (e m (by omega)).2.1, (e m (by omega)).2.2]
/-- cells that calls over tried sittings touch -/
def rsc (k : Nat) : Nat → Prop := fun a => rtt (170 + 5 * k) a ∨ a = 342 ∨ mrs a
theorem rsc_scr {k a : Nat} (hk : k < 4) (z : rsc k a) : scr a := by
  unfold rsc rtt rts mrs at z
  unfold scr
  omega
section OPS
variable {L : Nat} {xs : Nat → Int32} {c : Nat} {h : AH}
/-- the rates, as a row of numbers -/
def RTE (h : AH) (bd : Nat → Option (List Nat)) (j n N sn : Nat) (ks : Nat → Nat) (cc : Nat → List Nat) (file : Int32) : Nat → Nat := rwN (fun p => hI h 348 p) (fun p => hI h 350 p) (fun p => tv (jrow bd (fun q => hI h 354 (12 * j + q)) (fun q => hI h 355 (12 * j + q)) (hI h 342 15) (hI h 349 p) (hI h 350 p) (hI h 351 p) (hI h 352 p)) (fun q => hI h 355 (12 * j + q)) (hI h 342 15) n ks N cc file) sn 8
/-- both sides find the same rates -/
theorem x_rated (i : Inv L xs c h) (bd : Nat → Option (List Nat)) (b1 : XBd h bd) (j k n N sn : Nat) (ks : Nat → Nat) (cc : Nat → List Nat) (file : Int32) (hj : j < 4) (hk : k < 4) (a : IPl1 h j n ks) (hn0 : 0 < n) (xr : XRd h (170 + 5 * k) N cc) (qf : -9 ≤ file ∧ file ≤ 9) (hsn0 : 0 < sn) (hsn : sn ≤ 40) {d : Nat} (Q : Option Value → AH → Prop)
    (fin : ∀ h', Fr (rtt (170 + 5 * k)) nov h h' → (∀ t, t < 4 → hI h' 145 t = nI (RTE h bd j n N sn ks cc file t)) → Q (some (.int 1)) h') : Cl (d + 7) q_X_rated [.ref 100, .int (nI j), .int (nI k), .int file, .int (nI sn)] h Q := by
  obtain ⟨i1, i2, i3, i4, i5, i6, i7, i8, i9, i10, i11, i12, i13, i14, i15⟩ := i
  obtain ⟨a1, a2, a3, a4⟩ := a
  refine c_X_rated1 j k n N sn file bd ks (fun q => hI h 354 (12 * j + q)) (fun q => hI h 355 (12 * j + q)) (hI h 342 15) cc h i2 b1 hk hj xr a2 a1 hn0 i6.1 ?_ ?_ qf hsn0 hsn _ _ _ rfl rfl rfl Q ?_
  · intro q hq
    obtain ⟨u1, u2, u3, u4, u5, u6⟩ := a4 q hq
    exact ⟨u1.trans u2.symm, u4⟩
  · intro q hq
    obtain ⟨u1, u2, u3, u4, u5, u6⟩ := a4 q hq
    exact ⟨u2, u3, u5⟩
  · intro h1 fr1 g1
    refine fin h1 fr1 ?_
    intro t ht
    rw [g1 t ht]
    unfold RTE
    congr 1
    refine congrFun (rwN_ext ?_) t
    intro p hp
    obtain ⟨p0, p1, p2, p3, p4, -⟩ := i5 p hp
    refine ⟨p0, p2, ?_⟩
    show tv (jrow bd _ _ _ (hI h (146 + p) 1) (hI h (146 + p) 2) (hI h (146 + p) 3) (hI h (146 + p) 4)) _ _ n ks N cc file = _
    rw [p1, p2, p3, p4]
theorem m_rated (i : Inv L xs c h) (bd : Nat → Option (List Nat)) (b2 : MBA h bd) (j k n N sn : Nat) (ks : Nat → Nat) (cc : Nat → List Nat) (file : Int32) (hj : j < 4) (hk : k < 4) (a : IPl1 h j n ks) (mr : MRd h k N cc) (hsn0 : 0 < sn) (hsn : sn ≤ 40) {d : Nat} {S : Nat → Prop} (h1 : AH) (fr : Fr S nov h h1) (hS : ∀ a, S a → a < 342) (Q : Option Value → AH → Prop)
    (fin : ∀ h', Fr mrs nov (sI h1 342 0 0) h' → KS (sI h1 342 0 0) h' → (∀ t, t < 4 → hI h' 370 t = nI (RTE h bd j n N sn ks cc file t)) → Q none h') : Cl (d + 5) q_M_findRates [.ref 342, .int (nI j), .int (nI k), .int file, .int (nI sn)] (sI h1 342 0 0) Q := by
  obtain ⟨i1, i2, i3, i4, i5, i6, i7, i8, i9, i10, i11, i12, i13, i14, i15⟩ := i
  obtain ⟨a1, a2, a3, a4⟩ := a
  have em : ∀ a, 342 ≤ a → hI h1 a = hI h a := fun a ha => fr.I (fun z => by have := hS a z; omega)
  have frB : Fr (fun a => S a ∨ a = 342) nov h (sI h1 342 0 0) := (fr.mo (fun a z => Or.inl z) (fun a z => z)).sI (Or.inr rfl)
  have eo : ∀ a, 342 < a → hI (sI h1 342 0 0) a = hI h a := fun a ha => by rw [rI_sI (by omega), em a (by omega)]
  have e15 : hI (sI h1 342 0 0) 342 15 = hI h 342 15 := by rw [hI_same, if_neg (by decide), em 342 (by decide)]
  refine c_M_findRates (kd := fun q => hI h 354 (12 * j + q)) (it := fun q => hI h 355 (12 * j + q)) (bd := bd) (ks := ks) (n := n) (N := N) (cc := cc) (T := fun p => tv (jrow bd (fun q => hI h 354 (12 * j + q)) (fun q => hI h 355 (12 * j + q)) (hI h 342 15) (hI h 349 p) (hI h 350 p) (hI h 351 p) (hI h 352 p)) (fun q => hI h 355 (12 * j + q)) (hI h 342 15) n ks N cc file) (i3.fr frB) (b2.fr frB (fun a z => by rcases z with z | z; have := hS a z; omega; omega)) hk hj (mr.fr frB (fun a z => by rcases z with z | z; have := hS a z; omega; omega)) (by rw [eo 353 (by decide)]; exact a3) a1 (by rw [eo 354 (by decide)]) (by rw [eo 355 (by decide)]) ?_ (by rw [e15]; exact i6.2.1) hsn0 (by omega) (by rw [e15, eo 349 (by decide), eo 350 (by decide), eo 351 (by decide), eo 352 (by decide)]) (fun p => hI h 348 p) (fun p => hI h 350 p) (by rw [eo 348 (by decide)]) (by rw [eo 350 (by decide)]) fin
  intro q hq
  obtain ⟨u1, u2, u3, u4, u5, u6⟩ := a4 q hq
  exact ⟨u2, u3, u5⟩
/-- the invariant behind a call over tried sittings -/
theorem Inv.rt {S S' : Nat → Prop} {h1 h2 : AH} (i : Inv L xs c h) (fr : Fr S nov h h1) (hS : ∀ a, S a → scr a ∧ a < 342) (fr2 : Fr S' nov (sI h1 342 0 0) h2) (hS' : ∀ a, S' a → 363 ≤ a ∧ a ≤ 371) (kp : KS (sI h1 342 0 0) h2) : Inv L xs (c + 1) h2 := by
  have em : ∀ a, 342 ≤ a → hI h1 a = hI h a := fun a ha => fr.I (fun z => by have := (hS a z).2; omega)
  have eo : ∀ a, 342 < a → hI (sI h1 342 0 0) a = hI h a := fun a ha => by rw [rI_sI (by omega), em a (by omega)]
  have e342 : ∀ t, t ≠ 0 → hI h2 342 t = hI h 342 t := fun t ht => by
    rw [fr2.I (fun z => by have := hS' _ z; omega), hI_same, if_neg ht, em 342 (by decide)]
  have frA : Fr (fun a => S a ∨ a = 342 ∨ S' a) nov h h1 := fr.mo (fun a z => Or.inl z) (fun a z => z)
  have frC : Fr (fun a => S a ∨ a = 342 ∨ S' a) nov (sI h1 342 0 0) h2 := fr2.mo (fun a z => Or.inr (Or.inr z)) (fun a z => z)
  have frB := (frA.sI (a := 342) (j := 0) (v := 0) (Or.inr (Or.inl rfl))).tr frC
  refine i.keep (Nat.le_succ _) frB ?_ (fun a z => z.elim) (e342 2 (by decide)) (e342 15 (by decide)) (e342 30 (by decide)) ?_ ?_ ?_
  · intro a z
    rcases z with z | z | z
    · exact (hS a z).1
    · unfold scr; omega
    · have := hS' a z; unfold scr; omega
  · intro s hs
    have := kp.1 s hs
    rw [eo 365 (by decide), eo 366 (by decide)] at this
    exact this
  · intro s hs
    have := kp.2.1 s hs
    rw [eo 367 (by decide), eo 368 (by decide)] at this
    exact this
  · intro s hs
    have := kp.2.2 s hs
    rw [eo 369 (by decide)] at this
    exact this
theorem op_rates (i : Inv L xs c h) (p r f s w : Int32) : OpI L xs c q_X_rates [.ref 100, .int p, .int r, .int f, .int s, .int w] q_M_rates [.ref 342, .int p, .int r, .int f, .int s, .int w] h := by
  have ii := i
  obtain ⟨i1, i2, i3, i4, i5, i6, i7, i8, i9, i10, i11, i12, i13, i14, i15⟩ := i
  have m1 : MLY (sI h 342 0 0) := i3.fr (S := onl 342) (T := nov) (Fs1 Fr.rfl')
  have no : ¬ ((((0 ≤ p ∧ p ≤ 3) ∧ 0 < hI h 353 p.toNatClampNeg) ∧ (0 ≤ r ∧ r ≤ 3) ∧ (-9 ≤ f ∧ f ≤ 9) ∧ (1 ≤ s ∧ s ≤ 40)) ∧ (0 ≤ w ∧ w ≤ 3)) → Cl 100 q_M_rates [.ref 342, .int p, .int r, .int f, .int s, .int w] h (fun r' h2 => r' = some (.int (-1)) ∧ Inv L xs (c + 1) h2) := by
    intro q
    rw [e_M_rates, b_M_rates_0]
    simp only [mo i3, c_M_areRates _ _ _ _ _ m1, c_M_within, Option.toList, List.cons_append, List.nil_append, b_M_rates_9, b_M_rates_10, b_M_rates_14, b_M_rates_15, bw0, rtI, mem20, mem21, mem22, al20, al21, al33, al34, al36, al37, al38, aa33, aa34, aa36, aa37, aa38, true_and, and_true, Int32.reduceOfNat, forall_const, true_implies, implies_true, false_implies, not_true_eq_false, not_false_eq_true, rI_sI (show 353 ≠ 342 by decide)]
    have fin := ii.th (v := 0)
    by_cases q1 : ((0 ≤ p ∧ p ≤ 3) ∧ 0 < hI h 353 p.toNatClampNeg) ∧ (0 ≤ r ∧ r ≤ 3) ∧ (-9 ≤ f ∧ f ≤ 9) ∧ (1 ≤ s ∧ s ≤ 40)
    · have q2 : ¬ (0 ≤ w ∧ w ≤ 3) := fun z => q ⟨q1, z⟩
      simp [q1, q2, fin]
    · simp [q1, fin]
  by_cases qw : 0 ≤ w ∧ w ≤ 3
  · obtain ⟨n5, n6⟩ := n_of (M := 3) (n := 3) (by decide) qw
    obtain ⟨t, ht, rfl⟩ : ∃ t, t ≤ 3 ∧ w = nI t := ⟨_, n5, n6⟩
    have z1 := n_nn (n := t) (by omega)
    have z2 : ¬ 4 ≤ nI t := mt (nle (a := 4) (by decide) (by omega)).mp (by omega)
    have i4' : ixo (nI t) 4 = true := nix (by omega) (by decide)
    have c4 := cN (n := t) (by omega)
    unfold OpI
    rw [e_X_rates, b_X_rates_0]
    simp only [z1, b_X_rates_2, xk_100 i2, xr_100_15 i2, xk_145 i2, xn_145 i2, z2, b_X_rates_7, mem20, mem21, mem22, al20, al21, al33, al34, al36, al37, al38, aa33, aa34, aa36, aa37, aa38, true_and, and_true, Int32.reduceOfNat, forall_const, true_implies, implies_true, false_implies, not_true_eq_false, not_false_eq_true]
    by_cases q : ((0 ≤ p ∧ p ≤ 3) ∧ 0 < hI h 353 p.toNatClampNeg) ∧ (0 ≤ r ∧ r ≤ 3) ∧ (-9 ≤ f ∧ f ≤ 9) ∧ (1 ≤ s ∧ s ≤ 40)
    · obtain ⟨⟨q1, q5⟩, q2, q3, q4⟩ := q
      obtain ⟨n1, n2⟩ := n_of (M := 3) (n := 3) (by decide) q1
      obtain ⟨j, hj, rfl⟩ : ∃ j, j ≤ 3 ∧ p = nI j := ⟨_, n1, n2⟩
      obtain ⟨n3, n4⟩ := n_of (M := 3) (n := 3) (by decide) q2
      obtain ⟨k, hk, rfl⟩ : ∃ k, k ≤ 3 ∧ r = nI k := ⟨_, n3, n4⟩
      obtain ⟨n7, n8⟩ := n_of (M := 40) (n := 40) (by decide) ⟨i_tr (show (0 : Int32) ≤ 1 by decide) q4.1, q4.2⟩
      obtain ⟨sn, hsn, rfl⟩ : ∃ k, k ≤ 40 ∧ s = nI k := ⟨_, n7, n8⟩
      have sn0 : 0 < sn := (nle (a := 1) (by decide) (by omega)).mp q4.1
      have cj := cN (n := j) (by omega)
      rw [cj] at q5
      obtain ⟨np, ks, ap⟩ := i7 j (by omega)
      obtain ⟨N, cc, xr, mr⟩ := i10 k (by omega)
      obtain ⟨bd, b1, b2, b3⟩ := i9
      have np0 : 0 < np := by
        rw [ap.2.2.1] at q5
        exact (nlt (a := 0) (by decide) (by have := ap.1; omega)).mp q5
      refine x_rated ii bd b1 j k np N sn ks cc f (by omega) (by omega) ap np0 xr q3 sn0 hsn _ ?_
      intro h1 fr1 g1
      have x1 := i2.fr fr1
      simp only [Option.toList, List.cons_append, List.nil_append, b_X_rates_13, b_X_rates_16, xk_100 x1, xr_100_15 x1, xk_145 x1, xn_145 x1, i4', c4, g1 t (by omega), rtI, mem20, mem21, mem22, al20, al21, al33, al34, al36, al37, al38, aa33, aa34, aa36, aa37, aa38, true_and, and_true, Int32.reduceOfNat, forall_const, true_implies, implies_true, false_implies, not_true_eq_false, not_false_eq_true, show ¬ (1 : Int32) = 0 by decide]
      refine ⟨_, rfl, ?_⟩
      have hS : ∀ a, rtt (170 + 5 * k) a → scr a ∧ a < 342 := fun a z => by
        unfold rtt rts at z
        unfold scr
        omega
      have frB : Fr (fun a => rtt (170 + 5 * k) a ∨ a = 342) nov h (sI h1 342 0 0) := (fr1.mo (fun a z => Or.inl z) (fun a z => z)).sI (Or.inr rfl)
      have m2 := i3.fr fr1
      have m3 := i3.fr frB
      have eo : ∀ a, 342 < a → hI (sI h1 342 0 0) a = hI h a := fun a ha => by rw [rI_sI (by omega), fr1.I (fun z => by have := (hS a z).2; omega)]
      rw [e_M_rates, b_M_rates_0]
      simp only [mo m2, c_M_areRates _ _ _ _ _ m3, c_M_within, Option.toList, List.cons_append, List.nil_append, b_M_rates_9, b_M_rates_10, b_M_rates_14, bw0, eo 353 (by decide), cj, q1, q2, q3, q4, q5, qw, and_self, if_true, b_M_rates_17, show ¬ (1 : Int32) = 0 by decide, mem20, mem21, mem22, al20, al21, al33, al34, al36, al37, al38, aa33, aa34, aa36, aa37, aa38, true_and, and_true, Int32.reduceOfNat, forall_const, true_implies, implies_true, false_implies, not_true_eq_false, not_false_eq_true]
      refine m_rated ii bd b2 j k np N sn ks cc f (by omega) (by omega) ap mr sn0 hsn h1 fr1 (fun a z => (hS a z).2) _ ?_
      intro h2 fr2 kp2 g2
      have m4 := m3.fr fr2
      simp only [Option.toList, List.cons_append, List.nil_append, b_M_rates_23, mo m4, mr_36 m4, mk_370 m4, mn_370 m4, i4', c4, g2 t (by omega), rtI, mem20, mem21, mem22, al20, al21, al33, al34, al36, al37, al38, aa33, aa34, aa36, aa37, aa38, true_and, and_true, Int32.reduceOfNat, forall_const, true_implies, implies_true, false_implies, not_true_eq_false, not_false_eq_true]
      exact ii.rt fr1 hS fr2 (fun a z => by unfold mrs at z; omega) kp2
    · refine c_X_rated0 _ _ _ _ h i2 ?_ _ ?_
      · rintro ⟨⟨w1, w2⟩, w3, w4, w5⟩
        apply q
        refine ⟨⟨w1, ?_⟩, w3, w4, w5⟩
        obtain ⟨n1, n2⟩ := n_of (M := 3) (n := 3) (by decide) w1
        obtain ⟨j, hj, rfl⟩ : ∃ j, j ≤ 3 ∧ p = nI j := ⟨_, n1, n2⟩
        rw [cN (show j < 2147483648 by omega)] at w2 ⊢
        obtain ⟨np, ks, ap⟩ := i7 j (by omega)
        have := ap.1
        rw [ap.2.1] at w2
        rw [ap.2.2.1]
        exact (nlt (a := 0) (by decide) (by omega)).mpr (by
          have : ¬ np = 0 := fun z => w2 (by rw [z]; rfl)
          omega)
      · simp only [Option.toList, List.cons_append, List.nil_append, b_X_rates_13, b_X_rates_14, rtI, mem20, mem21, mem22, al20, al21, al33, al34, al36, al37, al38, aa33, aa34, aa36, aa37, aa38, true_and, and_true, Int32.reduceOfNat, forall_const, true_implies, implies_true, false_implies, not_true_eq_false, not_false_eq_true]
        exact ⟨-1, rfl, no (fun z => q z.1)⟩
  · unfold OpI
    have z : w < 0 ∨ 4 ≤ w := by grind
    have fin : ∃ v : Int32, some (Value.int (-1)) = some (Value.int v) ∧ Cl 100 q_M_rates [.ref 342, .int p, .int r, .int f, .int s, .int w] h (fun r' h2 => r' = some (.int v) ∧ Inv L xs (c + 1) h2) := ⟨-1, rfl, no (fun z => qw z.2)⟩
    rw [e_X_rates, b_X_rates_0]
    by_cases w0 : w < 0
    · simp only [w0, b_X_rates_14, xk_100 i2, rtI, mem20, mem21, mem22, al20, al21, al33, al34, al36, al37, al38, aa33, aa34, aa36, aa37, aa38, true_and, and_true, Int32.reduceOfNat, forall_const, true_implies, implies_true, false_implies, not_true_eq_false, not_false_eq_true]
      exact fin
    · have w4 : 4 ≤ w := by grind
      simp only [w0, b_X_rates_2, xk_100 i2, xr_100_15 i2, xk_145 i2, xn_145 i2, w4, b_X_rates_14, rtI, mem20, mem21, mem22, al20, al21, al33, al34, al36, al37, al38, aa33, aa34, aa36, aa37, aa38, true_and, and_true, Int32.reduceOfNat, forall_const, true_implies, implies_true, false_implies, not_true_eq_false, not_false_eq_true]
      exact fin
end OPS
