--deps: 9b.lex
/-! THE TAPE CUT, ON THE SIDE OF THE CLASS -/
def tk3 (h : AH) (j c p : Nat) : AH := sI (sI (sI h 111 j (nI c)) 112 j (nI p)) 109 4 (nI (j + 1))
theorem w_Tp_cutWord {d : Nat} (f : Nat → Nat) (n p e : Nat) (h : AH) (x : XLY h) (t : TPX h f n) (he : e ≤ n) (nb : e < n → ¬ isL (f e)) (Q : Option Value → AH → Prop) (fin : Wp (d + 1) P_Tp_cutWord 13 [.ref 109, .int (nI p), .int (nI e)] [] h Q) : ∀ (m k : Nat), k + m = e → (∀ i, k ≤ i → i < e → isL (f i)) → Wp (d + 1) P_Tp_cutWord 2 [.ref 109, .int (nI p), .int (nI k)] [] h Q := by
  have tt := t
  obtain ⟨t1, t2, t3, t4⟩ := t
  intro m
  induction m with
  | zero =>
    intro k e1 g
    have : k = e := by omega
    subst this
    rw [b_Tp_cutWord_2]
    simp only [xk_109 x, t2, true_and]
    refine ⟨fun _ => fin, fun z => ?_⟩
    have hk : k < n := by
      have := mt (nle (a := n) (b := k) (by omega) (by omega)).mpr z
      omega
    simp only [b_Tp_cutWord_6, c_Tp_signAt f n k h x tt hk, Option.toList, List.cons_append, List.nil_append, b_Tp_cutWord_9, c_Tp_isLetter _ (t4 k hk), b_Tp_cutWord_10, if_neg (nb hk), mem20, mem21, mem22, al20, al21, al33, al34, al36, al37, al38, aa33, aa34, aa36, aa37, aa38, true_and, and_true, Int32.reduceOfNat, forall_const, true_implies, implies_true, false_implies, not_true_eq_false, not_false_eq_true]
    exact fin
  | succ m ih =>
    intro k e1 g
    have hk : k < n := by omega
    have z : ¬ nI n ≤ nI k := mt (nle (by omega) (by omega)).mp (by omega)
    rw [b_Tp_cutWord_2]
    simp only [xk_109 x, t2, z, b_Tp_cutWord_6, c_Tp_signAt f n k h x tt hk, Option.toList, List.cons_append, List.nil_append, b_Tp_cutWord_9, c_Tp_isLetter _ (t4 k hk), b_Tp_cutWord_10, if_pos (g k (Nat.le_refl _) (by omega)), b_Tp_cutWord_11, nI_1, show ¬ (1 : Int32) = 0 by decide, mem20, mem21, mem22, al20, al21, al33, al34, al36, al37, al38, aa33, aa34, aa36, aa37, aa38, true_and, and_true, Int32.reduceOfNat, forall_const, true_implies, implies_true, false_implies, not_true_eq_false, not_false_eq_true]
    exact ih (k + 1) (by omega) (fun i h1 h2 => g i (by omega) h2)
theorem w_Tp_cutNumber {d : Nat} (f : Nat → Nat) (n p e : Nat) (h : AH) (x : XLY h) (t : TPX h f n) (he : e ≤ n) (nb : e < n → ¬ isD (f e)) (Q : Option Value → AH → Prop) (fin : Wp (d + 1) P_Tp_cutNumber 25 [.ref 109, .int (nI p), .int (nI e), .int (nI (dv f p (e - p)))] [] h Q) : ∀ (m k : Nat), p ≤ k → k + m = e → (∀ i, k ≤ i → i < e → isD (f i)) → Wp (d + 1) P_Tp_cutNumber 4 [.ref 109, .int (nI p), .int (nI k), .int (nI (dv f p (k - p)))] [] h Q := by
  have tt := t
  obtain ⟨t1, t2, t3, t4⟩ := t
  intro m
  induction m with
  | zero =>
    intro k hp e1 g
    have : k = e := by omega
    subst this
    rw [b_Tp_cutNumber_4]
    simp only [xk_109 x, t2, true_and]
    refine ⟨fun _ => fin, fun z => ?_⟩
    have hk : k < n := by
      have := mt (nle (a := n) (b := k) (by omega) (by omega)).mpr z
      omega
    simp only [b_Tp_cutNumber_8, c_Tp_signAt f n k h x tt hk, Option.toList, List.cons_append, List.nil_append, b_Tp_cutNumber_11, c_Tp_isDigit _ (t4 k hk), b_Tp_cutNumber_12, if_neg (nb hk), mem20, mem21, mem22, al20, al21, al33, al34, al36, al37, al38, aa33, aa34, aa36, aa37, aa38, true_and, and_true, Int32.reduceOfNat, forall_const, true_implies, implies_true, false_implies, not_true_eq_false, not_false_eq_true]
    exact fin
  | succ m ih =>
    intro k hp e1 g
    have hk : k < n := by omega
    have z : ¬ nI n ≤ nI k := mt (nle (by omega) (by omega)).mp (by omega)
    have gk := g k (Nat.le_refl _) (by omega)
    have ev : nI (dv f p (k - p)) * 10 + (nI (f k) - 48) = nI (dv f p (k + 1 - p)) := by
      have e1 : nI (f k) - 48 = nI (f k - 48) := nsub (b := 48) (by unfold isD at gk; omega)
      have e2 : k + 1 - p = (k - p) + 1 := by omega
      rw [e1, show (10 : Int32) = nI 10 from rfl, nmul, nadd, e2]
      congr 1
      show _ = 10 * dv f p (k - p) + (f (p + (k - p)) - 48)
      rw [show p + (k - p) = k by omega]
      omega
    rw [b_Tp_cutNumber_4]
    simp only [xk_109 x, t2, z, b_Tp_cutNumber_8, c_Tp_signAt f n k h x tt hk, Option.toList, List.cons_append, List.nil_append, b_Tp_cutNumber_11, c_Tp_isDigit _ (t4 k hk), b_Tp_cutNumber_12, if_pos gk, b_Tp_cutNumber_13, b_Tp_cutNumber_19, ev, nI_1, show ¬ (1 : Int32) = 0 by decide, mem20, mem21, mem22, al20, al21, al33, al34, al36, al37, al38, aa33, aa34, aa36, aa37, aa38, true_and, and_true, Int32.reduceOfNat, forall_const, true_implies, implies_true, false_implies, not_true_eq_false, not_false_eq_true]
    exact ih (k + 1) (by omega) (by omega) (fun i h1 h2 => g i (by omega) h2)
theorem c_Tp_cutToken {d L : Nat} {xs : Nat → Int32} (f : Nat → Nat) (n p e c j : Nat) (h : AH) (s : SLY L xs h) (x : XLY h) (t : TPX h f n) (tk : TOK f n p e c) (hj : hI h 109 4 = nI j) (hj2 : j < 1001) (Q : Option Value → AH → Prop) (fin : Q (some (.int (nI e))) (tk3 h j c p)) : Cl (d + 8) q_Tp_cutToken [.ref 109, .int (nI p)] h Q := by
  have tt := t
  obtain ⟨t1, t2, t3, t4⟩ := t
  obtain ⟨k1, k2, k3⟩ := tk
  have hp : p < n := by omega
  have e1 : nI e - nI p = nI (e - p) := nsub (by omega)
  rw [e_Tp_cutToken, b_Tp_cutToken_0]
  simp only [xk_109 x, c_Tp_signAt f n p h x tt hp, Option.toList, List.cons_append, List.nil_append, b_Tp_cutToken_3, c_Tp_isLetter _ (t4 p hp), b_Tp_cutToken_6, true_and]
  unfold tk3 at fin
  rcases k3 with ⟨q, g, nb, a8, b8⟩ | ⟨q, g, nb, a8, b8⟩ | ⟨q, q2, ee, cc⟩
  · simp only [if_pos q, b_Tp_cutToken_7, show ¬ (1 : Int32) = 0 by decide, mem20, mem21, mem22, al20, al21, al33, al34, al36, al37, al38, aa33, aa34, aa36, aa37, aa38, true_and, and_true, Int32.reduceOfNat, forall_const, true_implies, implies_true, false_implies, not_true_eq_false, not_false_eq_true]
    rw [e_Tp_cutWord, b_Tp_cutWord_0]
    refine ⟨xk_109 x, w_Tp_cutWord f n p e h x tt k2 nb _ ?_ (e - p) p (by omega) g⟩
    rw [b_Tp_cutWord_13]
    have c8 : nI (e - p) ≤ 8 ↔ e - p ≤ 8 := nle (b := 8) (by omega) (by decide)
    simp only [e1, c8]
    refine ⟨fun z => ?_, fun z => ?_⟩
    · obtain ⟨rw', er, gr⟩ := b8 z
      rw [b_Tp_cutWord_21]
      refine c_Tp_row f n p e rw' h s x tt (by omega) k2 gr _ ?_
      have e2 : (10000 : Int32) + nI rw' = nI c := by rw [er]; exact nadd 10000 rw'
      simp only [Option.toList, List.cons_append, List.nil_append, b_Tp_cutWord_26, b_Tp_cutWord_27, e2, c_Tp_addToken j _ _ h x hj hj2, b_Tp_cutWord_29, b_Tp_cutToken_10, rtI, true_and]
      exact fin
    · have ec : c = 13000 := a8 (by omega)
      have e2 : (13000 : Int32) = nI c := by rw [ec]; rfl
      simp only [Option.toList, List.cons_append, List.nil_append, b_Tp_cutWord_19, b_Tp_cutWord_27, e2, c_Tp_addToken j _ _ h x hj hj2, b_Tp_cutWord_29, b_Tp_cutToken_10, rtI, true_and]
      exact fin
  · have nl : ¬ isL (f p) := by unfold isL; unfold isD at q; omega
    simp only [if_neg nl, b_Tp_cutToken_11, c_Tp_isDigit _ (t4 p hp), Option.toList, List.cons_append, List.nil_append, b_Tp_cutToken_13, if_pos q, b_Tp_cutToken_14, show ¬ (1 : Int32) = 0 by decide, mem20, mem21, mem22, al20, al21, al33, al34, al36, al37, al38, aa33, aa34, aa36, aa37, aa38, true_and, and_true, Int32.reduceOfNat, forall_const, true_implies, implies_true, false_implies, not_true_eq_false, not_false_eq_true]
    rw [e_Tp_cutNumber, b_Tp_cutNumber_0]
    have w0 : dv f p (p - p) = 0 := by rw [Nat.sub_self]; rfl
    have w := w_Tp_cutNumber (d := d + 5) f n p e h x tt k2 nb (fun r h' => rtk (some .int) r = true ∧ Wp (d + 7) P_Tp_cutToken 17 [.ref 109, .int (nI p), .int (nI (f p))] (r.toList ++ []) h' (fun r h' => rtk (some .int) r = true ∧ Q r h')) ?_ (e - p) p (Nat.le_refl _) (by omega) g
    · rw [w0] at w
      exact ⟨xk_109 x, w⟩
    rw [b_Tp_cutNumber_25]
    have c8 : nI (e - p) ≤ 4 ↔ e - p ≤ 4 := nle (b := 4) (by omega) (by decide)
    simp only [e1, c8]
    refine ⟨fun z => ?_, fun z => ?_⟩
    · rw [← b8 z]
      simp only [Option.toList, List.cons_append, List.nil_append, b_Tp_cutNumber_33, b_Tp_cutNumber_34, c_Tp_addToken j _ _ h x hj hj2, b_Tp_cutNumber_36, b_Tp_cutToken_17, rtI, true_and]
      exact fin
    · have ec : c = 13000 := a8 (by omega)
      have e2 : (13000 : Int32) = nI c := by rw [ec]; rfl
      simp only [Option.toList, List.cons_append, List.nil_append, b_Tp_cutNumber_31, b_Tp_cutNumber_34, e2, c_Tp_addToken j _ _ h x hj hj2, b_Tp_cutNumber_36, b_Tp_cutToken_17, rtI, true_and]
      exact fin
  · simp only [if_neg q, b_Tp_cutToken_11, c_Tp_isDigit _ (t4 p hp), Option.toList, List.cons_append, List.nil_append, b_Tp_cutToken_13, if_neg q2, b_Tp_cutToken_18, c_Tp_isSign _ (t4 p hp), b_Tp_cutToken_21, mem20, mem21, mem22, al20, al21, al33, al34, al36, al37, al38, aa33, aa34, aa36, aa37, aa38, true_and, and_true, Int32.reduceOfNat, forall_const, true_implies, implies_true, false_implies, not_true_eq_false, not_false_eq_true]
    by_cases qs : isS (f p)
    · rw [if_pos qs] at cc ⊢
      have e2 : (11000 : Int32) + nI (f p) = nI c := by rw [cc]; exact nadd 11000 (f p)
      simp only [b_Tp_cutToken_22, b_Tp_cutToken_27, e2, c_Tp_addToken j _ _ h x hj hj2, Option.toList, List.cons_append, List.nil_append, b_Tp_cutToken_29, nI_1, ← ee, rtI, show ¬ (1 : Int32) = 0 by decide, mem20, mem21, mem22, al20, al21, al33, al34, al36, al37, al38, aa33, aa34, aa36, aa37, aa38, true_and, and_true, Int32.reduceOfNat, forall_const, true_implies, implies_true, false_implies, not_true_eq_false, not_false_eq_true]
      exact fin
    · rw [if_neg qs] at cc ⊢
      have e2 : (13000 : Int32) = nI c := by rw [cc]; rfl
      simp only [b_Tp_cutToken_26, b_Tp_cutToken_27, e2, c_Tp_addToken j _ _ h x hj hj2, Option.toList, List.cons_append, List.nil_append, b_Tp_cutToken_29, nI_1, ← ee, rtI, mem20, mem21, mem22, al20, al21, al33, al34, al36, al37, al38, aa33, aa34, aa36, aa37, aa38, true_and, and_true, Int32.reduceOfNat, forall_const, true_implies, implies_true, false_implies, not_true_eq_false, not_false_eq_true]
      exact fin
def tc (ts : List (Nat × Nat)) (i : Nat) : Nat := (ts.getD i (0, 0)).1
def tp (ts : List (Nat × Nat)) (i : Nat) : Nat := (ts.getD i (0, 0)).2
theorem tc_at (pre ts : List (Nat × Nat)) (t : Nat × Nat) : tc (pre ++ t :: ts) pre.length = t.1 ∧ tp (pre ++ t :: ts) pre.length = t.2 := by
  unfold tc tp
  simp [List.getD_eq_getElem?_getD]
/-- the first j tokens, as the class holds them -/
def TKX (h : AH) (ts : List (Nat × Nat)) (j : Nat) : Prop := hI h 109 4 = nI j ∧ ∀ i, i < j → hI h 111 i = nI (tc ts i) ∧ hI h 112 i = nI (tp ts i)
theorem TKX_push {h : AH} {ts : List (Nat × Nat)} {j c p : Nat} (t : TKX h ts j) (e1 : tc ts j = c) (e2 : tp ts j = p) : TKX (tk3 h j c p) ts (j + 1) := by
  unfold tk3
  refine ⟨by rw [hI_same, if_pos rfl], fun i hi => ?_⟩
  rw [rI_sI (by decide), rI_sI (by decide), hI_same, rI_sI (by decide), hI_same]
  by_cases q : i = j
  · rw [if_pos q, if_pos q, q, e1, e2]; exact ⟨rfl, rfl⟩
  · rw [if_neg q, if_neg q]; exact t.2 i (by omega)
def cts : Nat → Prop := fun a => a = 109 ∨ a = 111 ∨ a = 112
theorem tk3_fr {T : Nat → Prop} {h0 h : AH} {j c p : Nat} (fr : Fr cts T h0 h) : Fr cts T h0 (tk3 h j c p) := ((fr.sI (Or.inr (Or.inl rfl))).sI (Or.inr (Or.inr rfl))).sI (Or.inl rfl)
theorem tk3_1 {h : AH} {j c p : Nat} : hI (tk3 h j c p) 109 1 = hI h 109 1 := by
  unfold tk3
  rw [hI_same, if_neg (by decide), rI_sI (by decide), rI_sI (by decide)]
theorem w_Tp_cut {d L : Nat} {xs : Nat → Int32} (f : Nat → Nat) (n : Nat) (h0 : AH) (s0 : SLY L xs h0) (x0 : XLY h0) (t0 : TPX h0 f n) (all : List (Nat × Nat)) (hall : all.length ≤ n + 1) (Q : Option Value → AH → Prop) (fin : ∀ h', Fr cts nov h0 h' → hI h' 109 1 = hI h0 109 1 → TKX h' all all.length → Q none h') : ∀ (ts pre : List (Nat × Nat)) (t : Nat × Nat) (k : Nat) (h : AH), all = pre ++ t :: ts → LX f n k (t :: ts) → pre.length ≤ k → Fr cts nov h0 h → hI h 109 1 = hI h0 109 1 → TKX h all pre.length →
    Wp (d + 8) P_Tp_cut 9 [.ref 109, .int (nI t.2), .int (nI pre.length)] [] h Q := by
  intro ts
  have n1 := t0.1
  induction ts with
  | nil =>
    intro pre t k h ea lx hk fr e1 tk
    obtain ⟨l1, l2, l3, l4⟩ := lx
    have l4 : t.2 = n ∧ t.1 = 12000 := by
      rcases l4 with ⟨a, b, c⟩ | ⟨a, b, e, c, z⟩
      · exact ⟨a, b⟩
      · exact z.elim
    have x := x0.fr fr
    have en : hI h 109 1 = nI n := e1.trans t0.2.1
    have hl : all.length = pre.length + 1 := by rw [ea]; simp
    obtain ⟨c1, c2⟩ := tc_at pre [] t
    rw [← ea] at c1 c2
    have last : Wp (d + 8) P_Tp_cut 24 [.ref 109, .int (nI t.2), .int (nI pre.length)] [] h Q := by
      rw [b_Tp_cut_24]
      simp only [xk_109 x, en, c_Tp_addToken pre.length _ _ h x tk.1 (by omega), Option.toList, List.cons_append, List.nil_append, b_Tp_cut_29, true_and]
      have := fin (tk3 h pre.length 12000 n) (tk3_fr fr) (by rw [tk3_1]; exact e1) (by rw [hl]; exact TKX_push tk (by rw [c1, l4.2]) (by rw [c2, l4.1]))
      exact this
    rw [b_Tp_cut_9]
    refine ⟨fun _ => last, fun _ => ?_⟩
    have z : nI n ≤ nI t.2 := by rw [l4.1]; exact Int32.le_refl _
    rw [b_Tp_cut_12]
    simp only [xk_109 x, en, z, mem20, mem21, mem22, al20, al21, al33, al34, al36, al37, al38, aa33, aa34, aa36, aa37, aa38, true_and, and_true, Int32.reduceOfNat, forall_const, true_implies, implies_true, false_implies, not_true_eq_false, not_false_eq_true]
    exact last
  | cons u us ih =>
    intro pre t k h ea lx hk fr e1 tk
    obtain ⟨l1, l2, l3, l4⟩ := lx
    obtain ⟨l5, l6, e, l7, l8⟩ : t.2 < n ∧ ¬ isB (f t.2) ∧ ∃ e, TOK f n t.2 e t.1 ∧ LX f n e (u :: us) := by
      rcases l4 with ⟨a, b, c⟩ | z
      · cases c
      · exact z
    have x := x0.fr fr
    have s := s0.fr fr (fun a z => by unfold cts at z; omega)
    have en : hI h 109 1 = nI n := e1.trans t0.2.1
    have tx : TPX h f n := t0.fr (S := cts) (T := nov) e1 (fr.I (by unfold cts; decide))
    obtain ⟨c1, c2⟩ := tc_at pre (u :: us) t
    rw [← ea] at c1 c2
    have z1 : ¬ (1000 : Int32) ≤ nI pre.length := mt (nle (a := 1000) (by decide) (by omega)).mp (by omega)
    have z2 : ¬ nI n ≤ nI t.2 := mt (nle (by omega) (by omega)).mp (by omega)
    rw [b_Tp_cut_9]
    simp only [z1, b_Tp_cut_12, xk_109 x, en, z2, b_Tp_cut_16, mem20, mem21, mem22, al20, al21, al33, al34, al36, al37, al38, aa33, aa34, aa36, aa37, aa38, true_and, and_true, Int32.reduceOfNat, forall_const, true_implies, implies_true, false_implies, not_true_eq_false, not_false_eq_true]
    refine c_Tp_cutToken f n t.2 e t.1 pre.length h s x tx l7 tk.1 (by omega) _ ?_
    have fr2 : Fr cts nov h0 (tk3 h pre.length t.1 t.2) := tk3_fr fr
    have e2 : hI (tk3 h pre.length t.1 t.2) 109 1 = hI h0 109 1 := by rw [tk3_1]; exact e1
    have tx2 : TPX (tk3 h pre.length t.1 t.2) f n := t0.fr (S := cts) (T := nov) e2 (fr2.I (by unfold cts; decide))
    simp only [Option.toList, List.cons_append, List.nil_append, b_Tp_cut_20]
    have l8' := l8
    obtain ⟨v1, v2, v3, v4⟩ := l8
    refine c_Tp_past f n e u.2 _ (x0.fr fr2) tx2 v2 ?_ v1 v3 _ ?_
    · intro z
      rcases v4 with ⟨a, b, c⟩ | y
      · omega
      · exact y.2.1
    simp only [Option.toList, List.cons_append, List.nil_append, b_Tp_cut_21, nI_1]
    have := ih (pre ++ [t]) u e _ (by rw [ea]; simp) l8' (by have := l7.1; simp; omega) fr2 e2 (by simpa using TKX_push tk c1 c2)
    simpa using this
theorem c_Tp_cut {d L : Nat} {xs : Nat → Int32} (f : Nat → Nat) (n : Nat) (h : AH) (s : SLY L xs h) (x : XLY h) (t : TPX h f n) (ts : List (Nat × Nat)) (lx : LX f n 0 ts) (Q : Option Value → AH → Prop) (fin : ∀ h', Fr cts nov h h' → hI h' 109 1 = hI h 109 1 → TKX h' ts ts.length → Q none h') : Cl (d + 9) q_Tp_cut [.ref 109] h Q := by
  have fr : Fr cts nov h (sI h 109 4 0) := Fr.rfl'.sI (Or.inl rfl)
  have e1 : hI (sI h 109 4 0) 109 1 = hI h 109 1 := by rw [hI_same, if_neg (by decide)]
  have tx : TPX (sI h 109 4 0) f n := t.fr (S := cts) (T := nov) e1 (fr.I (by unfold cts; decide))
  have hl := LX_len lx (Nat.zero_le _)
  match ts, lx, hl with
  | [], lx, _ => exact lx.elim
  | u :: us, lx, hl =>
    have lx' := lx
    obtain ⟨v1, v2, v3, v4⟩ := lx
    rw [e_Tp_cut, b_Tp_cut_0]
    refine ⟨xk_109 x, xk_109 x, ?_⟩
    refine c_Tp_past f n 0 u.2 _ (x.fr fr) tx v2 ?_ v1 v3 _ ?_
    · intro z
      rcases v4 with ⟨a, b, c⟩ | y
      · omega
      · exact y.2.1
    simp only [Option.toList, List.cons_append, List.nil_append, b_Tp_cut_6]
    exact w_Tp_cut f n h s x t (u :: us) (by omega) _ (fun h' a b c => ⟨rtV, fin h' a b c⟩) us [] u 0 _ rfl lx' (Nat.le_refl _) fr e1 ⟨by rw [hI_same, if_pos rfl]; rfl, fun i hi => by simp at hi⟩
