--deps: 9f.pm
/-! CHAINS OF E -/
def jnt (lev t : Nat) : Nat := if lev = 0 then (if t = 10016 then 20002 else if t = 10017 then 20003 else 0) else if lev = 1 then (if t = 11060 then 20004 else if t = 11061 then 20005 else 0) else if lev = 2 then (if t = 11043 then 20006 else if t = 11045 then 20007 else 0) else (if t = 11042 then 20008 else 0)
def jI (k : Nat) : Int32 := if k = 0 then 0 else ccode k
theorem jnt_r {lev t k : Nat} (e : jnt lev t = k) (hk : k ≠ 0) : 20002 ≤ k ∧ k ≤ 20008 ∧ t ≠ 12000 := by
  unfold jnt at e
  split at e
  · split at e
    · omega
    · split at e <;> omega
  · split at e
    · split at e
      · omega
      · split at e <;> omega
    · split at e
      · split at e
        · omega
        · split at e <;> omega
      · split at e <;> omega
theorem x_jointAt {L : Nat} {xs : Nat → Int32} {ts : List (Nat × Nat)} {rd : Int32} {i F : Nat} {cs : List Nat} {h : AH} {d : Nat} (T : TOKS ts) (lev : Nat) (hl : lev < 4) (r : RX L xs ts rd i F cs h) (Q : Option Value → AH → Prop) : Cl (d + 2) q_Pa_jointAt [.ref 108, .int (nI lev)] h Q ↔ Q (some (.int (jI (jnt lev (tc ts i))))) h := by
  have c : lev = 0 ∨ lev = 1 ∨ lev = 2 ∨ lev = 3 := by omega
  have s := fun (c : Nat) (hc : c < 256) (Q : Option Value → AH → Prop) => x_isSign (d := d) T c hc r Q
  have s60 : ∀ Q, Cl (d + 1) q_Pa_isSign [.ref 108, .int 60] h Q ↔ Q (some (.int (if tc ts i = 11060 then 1 else 0))) h := s 60 (by decide)
  have s61 : ∀ Q, Cl (d + 1) q_Pa_isSign [.ref 108, .int 61] h Q ↔ Q (some (.int (if tc ts i = 11061 then 1 else 0))) h := s 61 (by decide)
  have s43 : ∀ Q, Cl (d + 1) q_Pa_isSign [.ref 108, .int 43] h Q ↔ Q (some (.int (if tc ts i = 11043 then 1 else 0))) h := s 43 (by decide)
  have s45 : ∀ Q, Cl (d + 1) q_Pa_isSign [.ref 108, .int 45] h Q ↔ Q (some (.int (if tc ts i = 11045 then 1 else 0))) h := s 45 (by decide)
  have s42 : ∀ Q, Cl (d + 1) q_Pa_isSign [.ref 108, .int 42] h Q ↔ Q (some (.int (if tc ts i = 11042 then 1 else 0))) h := s 42 (by decide)
  have w16 : wref (tc ts i) = 18 ↔ tc ts i = 10016 := wref_eq (r := 16) (by decide)
  have w17 : wref (tc ts i) = 19 ↔ tc ts i = 10017 := wref_eq (r := 17) (by decide)
  have wr := wref_r (tc ts i)
  have j2 : jI 20002 = -2 := by decide
  have j3 : jI 20003 = -3 := by decide
  have j4 : jI 20004 = -4 := by decide
  have j5 : jI 20005 = -5 := by decide
  have j6 : jI 20006 = -6 := by decide
  have j7 : jI 20007 = -7 := by decide
  have j8 : jI 20008 = -8 := by decide
  have j0 : jI 0 = 0 := rfl
  rcases c with rfl | rfl | rfl | rfl
  · rw [e_Pa_jointAt, b_Pa_jointAt_0]
    simp only [show nI 0 = 0 from rfl, b_Pa_jointAt_2, b_Pa_jointAt_6, b_Pa_jointAt_8, b_Pa_jointAt_12, b_Pa_jointAt_14, b_Pa_jointAt_15, xk_108 r.x, r.w, w16, w17, wr.1, wr.2, show (2 : Nat) ≤ 18 by decide, show (18 : Nat) ≤ 25 by decide, show (2 : Nat) ≤ 19 by decide, show (19 : Nat) ≤ 25 by decide, rtI, mem20, mem21, mem22, al20, al21, al33, al34, al36, al37, al38, aa33, aa34, aa36, aa37, aa38, true_and, and_true, Int32.reduceOfNat, forall_const, true_implies, implies_true, false_implies, not_true_eq_false, not_false_eq_true]
    unfold jnt
    by_cases q1 : tc ts i = 10016
    · simp [q1, j2]
    · by_cases q2 : tc ts i = 10017
      · simp [q2, j3]
      · simp [q1, q2, j0]
  · rw [e_Pa_jointAt, b_Pa_jointAt_0]
    simp only [show nI 1 = 1 from rfl, show ¬ (1 : Int32) = 0 by decide, b_Pa_jointAt_16, b_Pa_jointAt_19, b_Pa_jointAt_22, b_Pa_jointAt_23, b_Pa_jointAt_25, b_Pa_jointAt_28, b_Pa_jointAt_29, b_Pa_jointAt_31, b_Pa_jointAt_32, s60, s61, xk_108 r.x, Option.toList, List.cons_append, List.nil_append, rtI, mem20, mem21, mem22, al20, al21, al33, al34, al36, al37, al38, aa33, aa34, aa36, aa37, aa38, true_and, and_true, Int32.reduceOfNat, forall_const, true_implies, implies_true, false_implies, not_true_eq_false, not_false_eq_true]
    unfold jnt
    by_cases q1 : tc ts i = 11060
    · simp [q1, j4]
    · by_cases q2 : tc ts i = 11061
      · simp [q2, j5]
      · simp [q1, q2, j0]
  · rw [e_Pa_jointAt, b_Pa_jointAt_0]
    simp only [show nI 2 = 2 from rfl, show ¬ (2 : Int32) = 0 by decide, show ¬ (2 : Int32) = 1 by decide, show ¬ (1 : Int32) = 0 by decide, b_Pa_jointAt_16, b_Pa_jointAt_33, b_Pa_jointAt_36, b_Pa_jointAt_39, b_Pa_jointAt_40, b_Pa_jointAt_42, b_Pa_jointAt_45, b_Pa_jointAt_46, b_Pa_jointAt_48, b_Pa_jointAt_49, s43, s45, xk_108 r.x, Option.toList, List.cons_append, List.nil_append, rtI, mem20, mem21, mem22, al20, al21, al33, al34, al36, al37, al38, aa33, aa34, aa36, aa37, aa38, true_and, and_true, Int32.reduceOfNat, forall_const, true_implies, implies_true, false_implies, not_true_eq_false, not_false_eq_true]
    unfold jnt
    by_cases q1 : tc ts i = 11043
    · simp [q1, j6]
    · by_cases q2 : tc ts i = 11045
      · simp [q2, j7]
      · simp [q1, q2, j0]
  · rw [e_Pa_jointAt, b_Pa_jointAt_0]
    simp only [show nI 3 = 3 from rfl, show ¬ (3 : Int32) = 0 by decide, show ¬ (3 : Int32) = 1 by decide, show ¬ (3 : Int32) = 2 by decide, show ¬ (1 : Int32) = 0 by decide, b_Pa_jointAt_16, b_Pa_jointAt_33, b_Pa_jointAt_50, b_Pa_jointAt_53, b_Pa_jointAt_54, b_Pa_jointAt_56, b_Pa_jointAt_57, s42, xk_108 r.x, Option.toList, List.cons_append, List.nil_append, rtI, mem20, mem21, mem22, al20, al21, al33, al34, al36, al37, al38, aa33, aa34, aa36, aa37, aa38, true_and, and_true, Int32.reduceOfNat, forall_const, true_implies, implies_true, false_implies, not_true_eq_false, not_false_eq_true]
    unfold jnt
    by_cases q1 : tc ts i = 11042
    · simp [q1, j8]
    · simp [q1, j0]
/-! what comes of a stretch of steps -/
def sgs (nf : Nat) : List Nat → Nat → Nat → Prop
  | [], n, m => n = m
  | k :: cs, n, m => n ≤ 32 ∧ ok1 nf k n ∧ sgs nf cs (nx k n) m
theorem sgs_app {nf : Nat} : ∀ {a b : List Nat} {n m l : Nat}, sgs nf a n m → sgs nf b m l → sgs nf (a ++ b) n l
  | [], b, n, m, l, p, q => by
    have : n = m := p
    subst this
    exact q
  | k :: a, b, n, m, l, p, q => ⟨p.1, p.2.1, sgs_app p.2.2 q⟩
theorem sgs_oks {nf : Nat} : ∀ {a : List Nat} {n m : Nat}, sgs nf a n m → 1 ≤ m → m ≤ 32 → oks nf a n
  | [], n, m, p, h1, h2 => by
    have : n = m := p
    subst this
    exact ⟨h1, h2⟩
  | k :: a, n, m, p, h1, h2 => ⟨p.1, p.2.1, sgs_oks p.2.2 h1 h2⟩
theorem sgs_j {nf k n : Nat} (hk : 20002 ≤ k ∧ k ≤ 20008) (h : n + 2 ≤ 32) : sgs nf [k] (n + 2) (n + 1) := by
  refine ⟨h, Or.inr (Or.inr ⟨hk, by omega⟩), ?_⟩
  show nx k (n + 2) = n + 1
  unfold nx
  rw [if_neg (by omega), if_neg (by omega)]
  omega
def OUT (ts : List (Nat × Nat)) (nf b i i' F' : Nat) (cs' : List Nat) : Prop := i ≤ i' ∧ i' < ts.length ∧ F' < 20000 ∧ cs'.length ≤ i' - i ∧ (F' = 0 → i < i' ∧ ∀ n, n ≤ b → sgs nf cs' n (n + 1))
def OUTL (ts : List (Nat × Nat)) (nf b i i' F' : Nat) (cs' : List Nat) : Prop := i ≤ i' ∧ i' < ts.length ∧ F' < 20000 ∧ cs'.length ≤ i' - i ∧ (F' = 0 → ∀ n, n ≤ b → sgs nf cs' (n + 1) (n + 1))
def XS (ts : List (Nat × Nat)) (rd : Int32) (q : Nat) (a : List Value) (dx i i' F' : Nat) (cs' : List Nat) : Prop := ∀ (L : Nat) (xs : Nat → Int32) (cs : List Nat) (h : AH), RX L xs ts rd i 0 cs h → Cl dx q a h (fun r h' => r = none ∧ PX L xs ts rd h i' F' (cs ++ cs') h')
def MS (ts : List (Nat × Nat)) (rd : Int32) (π : Nat → Nat) (q : Nat) (a : List Value) (dm i i' F' : Nat) (cs' : List Nat) : Prop := ∀ (cs : List Nat) (h : AH), RM ts rd π i 0 cs h → Cl dm q a h (fun r h' => r = none ∧ PM ts rd π h i' F' (cs ++ cs') h')
def px (dep : Nat) : Nat := 6 * (5 - dep) + 5
def pm (dep : Nat) : Nat := 5 * (5 - dep) + 5
def qmT (lev : Nat) : Nat := if lev = 0 then q_M_all else if lev = 1 then q_M_test else if lev = 2 then q_M_sums else if lev = 3 then q_M_products else q_M_takePart
def CHN (ts : List (Nat × Nat)) (rd : Int32) (π : Nat → Nat) (nf lev dep i : Nat) : Prop := ∃ i' F' cs', OUT ts nf (4 * dep + lev) i i' F' cs' ∧ XS ts rd q_Pa_chain [.ref 108, .int (nI lev), .int (nI dep)] (px dep + 1 + (5 - lev)) i i' F' cs' ∧ MS ts rd π (qmT lev) [.ref 342, .int (nI dep)] (pm dep + 1 + (4 - lev)) i i' F' cs'
section CHNS
variable {L : Nat} {xs : Nat → Int32} {ts : List (Nat × Nat)} {rd : Int32} {π : Nat → Nat} {nf lev dep : Nat}
/-- one more joint, on the side of the class -/
theorem x_step (T : TOKS ts) (hl : lev < 4) {i k i1 F1 mo kk D : Nat} {c1 cs : List Nat} {h : AH} {v5 : Value} (hD : 2 ≤ D) (hj : jnt lev (tc ts i) = k) (hk : k ≠ 0) (hkk : kk < mo) (hmo : mo ≤ 1000) (sub : XS ts rd q_Pa_chain [.ref 108, .int (nI (lev + 1)), .int (nI dep)] D (i + 1) i1 F1 c1) (ho : i + 1 ≤ i1 ∧ c1.length ≤ i1 - (i + 1)) (r : RX L xs ts rd i 0 cs h) (R : Option Value → AH → Prop)
    (fin : ∀ h2, PX L xs ts rd h i1 F1 (cs ++ (c1 ++ [k])) h2 → Wp D P_Pa_chain 22 [.ref 108, .int (nI lev), .int (nI dep), .int (nI mo), .int (nI (kk + 1)), .int (ccode k)] [] h2 R) : Wp D P_Pa_chain 22 [.ref 108, .int (nI lev), .int (nI dep), .int (nI mo), .int (nI kk), v5] [] h R := by
  obtain ⟨d, rfl⟩ : ∃ d, D = d + 2 := ⟨D - 2, by omega⟩
  obtain ⟨k1, k2, k3⟩ := jnt_r hj hk
  have z1 : ¬ nI mo ≤ nI kk := mt (nle (by omega) (by omega)).mp (by omega)
  have f0 : hI h 108 4 = 0 := r.f
  have ej : jI (jnt lev (tc ts i)) = ccode k := by rw [hj]; unfold jI; rw [if_neg hk]
  have zk : ¬ ccode k = 0 := by
    have c : k = 20002 ∨ k = 20003 ∨ k = 20004 ∨ k = 20005 ∨ k = 20006 ∨ k = 20007 ∨ k = 20008 := by omega
    rcases c with rfl | rfl | rfl | rfl | rfl | rfl | rfl <;> decide
  rw [b_Pa_chain_22]
  simp only [z1, b_Pa_chain_25, xk_108 r.x, f0, b_Pa_chain_28, x_jointAt T lev hl r, ej, Option.toList, List.cons_append, List.nil_append, b_Pa_chain_31, zk, b_Pa_chain_35, mem20, mem21, mem22, al20, al21, al33, al34, al36, al37, al38, aa33, aa34, aa36, aa37, aa38, true_and, and_true, Int32.reduceOfNat, forall_const, true_implies, implies_true, false_implies, not_true_eq_false, not_false_eq_true]
  refine (x_next T r (sgn_lt T r.lt k3)).mono ?_
  rintro r' h1 ⟨rfl, p1⟩
  simp only [Option.toList, List.cons_append, List.nil_append, b_Pa_chain_37, nI_1]
  refine (sub L xs cs h1 p1.2).mono ?_
  rintro r' h2 ⟨rfl, p2⟩
  have cl := r.cl
  simp only [Option.toList, List.cons_append, List.nil_append, b_Pa_chain_43, xk_108 p2.2.x, xr_108_2 p2.2.x, true_and]
  refine (x_add k rfl p2.2 T (by simp; omega)).mono ?_
  rintro r' h3 ⟨rfl, p3⟩
  simp only [Option.toList, List.cons_append, List.nil_append, b_Pa_chain_47, nI_1]
  rw [List.append_assoc] at p3
  exact fin h3 ((p3.pre p2.1).pre p1.1)
/-- no more joint -/
theorem x_stop (T : TOKS ts) (hl : lev < 4) {i F mo kk D : Nat} {cs : List Nat} {h : AH} {v5 : Value} (hD : 2 ≤ D) (hj : F ≠ 0 ∨ jnt lev (tc ts i) = 0) (r : RX L xs ts rd i F cs h) (R : Option Value → AH → Prop) (fin : R none h) : Wp D P_Pa_chain 22 [.ref 108, .int (nI lev), .int (nI dep), .int (nI mo), .int (nI kk), v5] [] h R := by
  obtain ⟨d, rfl⟩ : ∃ d, D = d + 2 := ⟨D - 2, by omega⟩
  rw [b_Pa_chain_22]
  refine ⟨fun _ => by rw [b_Pa_chain_49]; exact fin, fun _ => ?_⟩
  rw [b_Pa_chain_25]
  refine ⟨xk_108 r.x, fun _ => by rw [b_Pa_chain_49]; exact fin, fun z => ?_⟩
  have F0 : F = 0 := by
    have := r.Fl
    rw [r.f] at z
    exact (nI0 (by omega)).mp (Classical.not_not.mp z)
  have hj := hj.resolve_left (fun y => y F0)
  rw [b_Pa_chain_28, x_jointAt T lev hl r, hj]
  simp only [Option.toList, List.cons_append, List.nil_append, b_Pa_chain_31, show jI 0 = 0 from rfl, b_Pa_chain_34, mem20, mem21, mem22, al20, al21, al33, al34, al36, al37, al38, aa33, aa34, aa36, aa37, aa38, true_and, and_true, Int32.reduceOfNat, forall_const, true_implies, implies_true, false_implies, not_true_eq_false, not_false_eq_true]
  exact fin
/-- what is asked of the loop of the reference at a level -/
def MLP (ts : List (Nat × Nat)) (rd : Int32) (π : Nat → Nat) (lev dep : Nat) (W3 : Value → AH → (Option Value → AH → Prop) → Prop) : Prop :=
  (∀ (v : Value) (cs : List Nat) (h : AH) (j F : Nat) (R : Option Value → AH → Prop), RM ts rd π j F cs h → (F ≠ 0 ∨ jnt lev (tc ts j) = 0) → (∀ h', PM ts rd π h j F cs h' → R none h') → W3 v h R) ∧
  (∀ (v : Value) (cs : List Nat) (h : AH) (j k i' F' : Nat) (cs' : List Nat) (R : Option Value → AH → Prop), RM ts rd π j 0 cs h → jnt lev (tc ts j) = k → k ≠ 0 → MS ts rd π (qmT (lev + 1)) [.ref 342, .int (nI dep)] (pm dep + 1 + (4 - (lev + 1))) (j + 1) i' F' cs' → (j + 1 ≤ i' ∧ cs'.length ≤ i' - (j + 1)) → (∀ v h2, PM ts rd π h i' F' (cs ++ (cs' ++ [k])) h2 → W3 v h2 R) → W3 v h R)
theorem loop (T : TOKS ts) (hl : lev < 4) (hb : 4 * dep + lev ≤ 28) (W3 : Value → AH → (Option Value → AH → Prop) → Prop) (W3m : ∀ v h (R R' : Option Value → AH → Prop), W3 v h R → (∀ r h', R r h' → R' r h') → W3 v h R') (ml : MLP ts rd π lev dep W3) (i0 : Nat) (sub : ∀ j, i0 ≤ j → j < ts.length → CHN ts rd π nf (lev + 1) dep j) : ∀ (N j : Nat), ts.length - j ≤ N → i0 ≤ j → j < ts.length → 1 ≤ j →
    ∃ i' F' cs', OUTL ts nf (4 * dep + lev) j i' F' cs' ∧ (∀ (L : Nat) (xs : Nat → Int32) (cs : List Nat) (h : AH) (v5 : Value) (kk : Nat), RX L xs ts rd j 0 cs h → kk + 1 ≤ j → Wp (px dep + 1 + (5 - (lev + 1))) P_Pa_chain 22 [.ref 108, .int (nI lev), .int (nI dep), .int (nI 1000), .int (nI kk), v5] [] h (fun r h' => r = none ∧ PX L xs ts rd h i' F' (cs ++ cs') h')) ∧ (∀ (cs : List Nat) (h : AH) (v : Value), RM ts rd π j 0 cs h → W3 v h (fun r h' => r = none ∧ PM ts rd π h i' F' (cs ++ cs') h')) := by
  have hD : 2 ≤ px dep + 1 + (5 - (lev + 1)) := by unfold px; omega
  have T1 := T.2.1
  intro N
  induction N with
  | zero => intro j h1 h2 h3; omega
  | succ N ih =>
    intro j h1 h2 h3 hj1
    by_cases q : jnt lev (tc ts j) = 0
    · refine ⟨j, 0, [], ⟨Nat.le_refl _, h3, by decide, by simp, fun _ n hn => rfl⟩, ?_, ?_⟩
      · intro L xs cs h v5 kk r hkk
        refine x_stop T hl hD (Or.inr q) r _ ?_
        rw [List.append_nil]
        exact ⟨rfl, KX.rf, r⟩
      · intro cs h v r
        refine ml.1 v cs h j 0 _ r (Or.inr q) ?_
        intro h' p
        rw [List.append_nil]
        exact ⟨rfl, p⟩
    · obtain ⟨k1, k2, k3⟩ := jnt_r rfl q
      have hj2 := sgn_lt T h3 k3
      obtain ⟨i1, F1, c1, o1, x1, m1⟩ := sub (j + 1) (by omega) hj2
      obtain ⟨a1, a2, a3, a4, a5⟩ := o1
      have x1' : XS ts rd q_Pa_chain [.ref 108, .int (nI (lev + 1)), .int (nI dep)] (px dep + 1 + (5 - (lev + 1))) (j + 1) i1 F1 c1 := x1
      by_cases qF : F1 = 0
      · subst qF
        obtain ⟨a6, a7⟩ := a5 rfl
        obtain ⟨i2, F2, c2, o2, x2, m2⟩ := ih i1 (by omega) (by omega) a2 (by omega)
        obtain ⟨b1, b2, b3, b4, b5⟩ := o2
        refine ⟨i2, F2, c1 ++ [jnt lev (tc ts j)] ++ c2, ⟨by omega, b2, b3, by simp; omega, fun z n hn => ?_⟩, ?_, ?_⟩
        · refine sgs_app (sgs_app (a7 (n + 1) (by omega)) (sgs_j ⟨k1, k2⟩ (by omega))) (b5 z n hn)
        · intro L xs cs h v5 kk r hkk
          refine x_step T hl hD rfl q (by omega) (by omega) x1' ⟨a1, a4⟩ r _ ?_
          intro h2 p2
          refine (x2 L xs _ h2 _ (kk + 1) p2.2 (by omega)).mono ?_
          rintro r' h' ⟨rfl, p3⟩
          rw [List.append_assoc] at p3
          exact ⟨rfl, p3.pre p2.1⟩
        · intro cs h v r
          refine ml.2 v cs h j _ i1 0 c1 _ r rfl q m1 ⟨a1, a4⟩ ?_
          intro v h2 p2
          refine W3m _ _ _ _ (m2 _ h2 v p2.2) ?_
          rintro r' h' ⟨rfl, p3⟩
          rw [List.append_assoc] at p3
          exact ⟨rfl, p3.pre p2.1⟩
      · refine ⟨i1, F1, c1 ++ [jnt lev (tc ts j)], ⟨by omega, a2, a3, by simp; omega, fun z => absurd z qF⟩, ?_, ?_⟩
        · intro L xs cs h v5 kk r hkk
          refine x_step T hl hD rfl q (by omega) (by omega) x1' ⟨a1, a4⟩ r _ ?_
          intro h2 p2
          exact x_stop T hl hD (Or.inl qF) p2.2 _ ⟨rfl, p2⟩
        · intro cs h v r
          refine ml.2 v cs h j _ i1 F1 c1 _ r rfl q m1 ⟨a1, a4⟩ ?_
          intro v h2 p2
          refine ml.1 v _ h2 i1 F1 _ p2.2 (Or.inl qF) ?_
          intro h' p3
          exact ⟨rfl, p3.pre p2.1⟩
end CHNS
