--deps: 72.plan
/-! PROGRAMS: steps as numbers: below 10000 a number, from 10000 on a fact, 20001 not, 20002 and, 20003 or, 20004 less, 20005 equal, 20006 plus, 20007 minus, 20008 times -/
def ccode (k : Nat) : Int32 := if k < 20000 then nI k else -nI (k - 20000)
def rop (k : Nat) : Int32 := if k < 10000 then 1 else if k < 20000 then 2 else if k = 20001 then 3 else if k = 20002 then 9 else if k = 20003 then 10 else if k = 20004 then 7 else if k = 20005 then 8 else if k = 20006 then 4 else if k = 20007 then 5 else 6
def jn (k : Nat) (a b : Int32) : Int32 := if k = 20002 then (if a ≠ 0 ∧ b ≠ 0 then 1 else 0) else if k = 20003 then (if a ≠ 0 ∨ b ≠ 0 then 1 else 0) else if k = 20004 then (if a < b then 1 else 0) else if k = 20005 then (if a = b then 1 else 0) else if k = 20006 then a + b else if k = 20007 then a - b else a * b
def ev1 (F : Nat → Int32) (k : Nat) (l : List Int32) : List Int32 := if k < 10000 then nI k :: l else if k < 20000 then F (k - 10000) :: l else match l with
  | [] => []
  | a :: t => if k = 20001 then (if a = 0 then 1 else 0) :: t else match t with
    | [] => [a]
    | b :: u => jn k b a :: u
def ev (F : Nat → Int32) : List Nat → List Int32 → List Int32
  | [], l => l
  | k :: cs, l => ev F cs (ev1 F k l)
def ok1 (nf k n : Nat) : Prop := (k < 10000 + nf ∧ n < 32) ∨ (k = 20001 ∧ 1 ≤ n) ∨ ((20002 ≤ k ∧ k ≤ 20008) ∧ 2 ≤ n)
def nx (k n : Nat) : Nat := if k < 20000 then n + 1 else if k = 20001 then n else n - 1
def oks (nf : Nat) : List Nat → Nat → Prop
  | [], n => 1 ≤ n ∧ n ≤ 32
  | k :: cs, n => n ≤ 32 ∧ ok1 nf k n ∧ oks nf cs (nx k n)
theorem ev1_len {F : Nat → Int32} {nf k : Nat} {l : List Int32} (h : ok1 nf k l.length) (hf : nf ≤ 20) : (ev1 F k l).length = nx k l.length := by
  unfold ev1 nx
  rcases h with h | h | h
  · have : k < 20000 := by omega
    by_cases q : k < 10000 <;> simp [q, this]
  · obtain ⟨rfl, h⟩ := h
    match l, h with
    | a :: t, _ => simp
  · obtain ⟨⟨h1, h2⟩, h3⟩ := h
    have e1 : ¬ k < 10000 := by omega
    have e2 : ¬ k < 20000 := by omega
    have e3 : ¬ k = 20001 := by omega
    match l, h3 with
    | a :: b :: t, _ => simp [e1, e2, e3]
/-- a row holds the stack l, its bottom first -/
def STK (f : Nat → Int32) : List Int32 → Prop
  | [] => True
  | v :: l => f l.length = v ∧ STK f l
theorem STK_up {f g : Nat → Int32} : ∀ {l : List Int32}, (∀ i, i < l.length → g i = f i) → STK f l → STK g l
  | [], _, _ => True.intro
  | v :: l, e, s => ⟨(e l.length (by simp)).trans s.1, STK_up (fun i hi => e i (by simp; omega)) s.2⟩
theorem STK_bot {f g : Nat → Int32} : ∀ {l : List Int32}, 1 ≤ l.length → STK f l → STK g l → f 0 = g 0
  | [v], _, s, t => s.1.trans t.1.symm
  | v :: w :: l, _, s, t => STK_bot (l := w :: l) (by simp) s.2 t.2
theorem c_Pg_joined {d : Nat} (k : Nat) (a b : Int32) (h : AH) (hk : 20002 ≤ k ∧ k ≤ 20008) (Q : Option Value → AH → Prop) : Cl (d + 1) q_Pg_joined [.int (ccode k), .int a, .int b] h Q ↔ Q (some (.int (jn k a b))) h := by
  have c : k = 20002 ∨ k = 20003 ∨ k = 20004 ∨ k = 20005 ∨ k = 20006 ∨ k = 20007 ∨ k = 20008 := by omega
  rcases c with rfl | rfl | rfl | rfl | rfl | rfl | rfl
  · rw [e_Pg_joined, show ccode 20002 = -2 from by decide]
    simp [b_Pg_joined_0, b_Pg_joined_2, b_Pg_joined_4, b_Pg_joined_6, b_Pg_joined_8, b_Pg_joined_9, b_Pg_joined_10, b_Pg_joined_12, b_Pg_joined_14, b_Pg_joined_16, b_Pg_joined_17, b_Pg_joined_18, b_Pg_joined_21, b_Pg_joined_23, b_Pg_joined_24, b_Pg_joined_25, b_Pg_joined_28, b_Pg_joined_30, b_Pg_joined_31, b_Pg_joined_32, b_Pg_joined_36, b_Pg_joined_40, b_Pg_joined_44, jn, rtI]
    grind
  · rw [e_Pg_joined, show ccode 20003 = -3 from by decide]
    simp [b_Pg_joined_0, b_Pg_joined_2, b_Pg_joined_4, b_Pg_joined_6, b_Pg_joined_8, b_Pg_joined_9, b_Pg_joined_10, b_Pg_joined_12, b_Pg_joined_14, b_Pg_joined_16, b_Pg_joined_17, b_Pg_joined_18, b_Pg_joined_21, b_Pg_joined_23, b_Pg_joined_24, b_Pg_joined_25, b_Pg_joined_28, b_Pg_joined_30, b_Pg_joined_31, b_Pg_joined_32, b_Pg_joined_36, b_Pg_joined_40, b_Pg_joined_44, jn, rtI]
    grind
  · rw [e_Pg_joined, show ccode 20004 = -4 from by decide]
    simp [b_Pg_joined_0, b_Pg_joined_2, b_Pg_joined_4, b_Pg_joined_6, b_Pg_joined_8, b_Pg_joined_9, b_Pg_joined_10, b_Pg_joined_12, b_Pg_joined_14, b_Pg_joined_16, b_Pg_joined_17, b_Pg_joined_18, b_Pg_joined_21, b_Pg_joined_23, b_Pg_joined_24, b_Pg_joined_25, b_Pg_joined_28, b_Pg_joined_30, b_Pg_joined_31, b_Pg_joined_32, b_Pg_joined_36, b_Pg_joined_40, b_Pg_joined_44, jn, rtI]
    grind
  · rw [e_Pg_joined, show ccode 20005 = -5 from by decide]
    simp [b_Pg_joined_0, b_Pg_joined_2, b_Pg_joined_4, b_Pg_joined_6, b_Pg_joined_8, b_Pg_joined_9, b_Pg_joined_10, b_Pg_joined_12, b_Pg_joined_14, b_Pg_joined_16, b_Pg_joined_17, b_Pg_joined_18, b_Pg_joined_21, b_Pg_joined_23, b_Pg_joined_24, b_Pg_joined_25, b_Pg_joined_28, b_Pg_joined_30, b_Pg_joined_31, b_Pg_joined_32, b_Pg_joined_36, b_Pg_joined_40, b_Pg_joined_44, jn, rtI]
    grind
  · rw [e_Pg_joined, show ccode 20006 = -6 from by decide]
    simp [b_Pg_joined_0, b_Pg_joined_2, b_Pg_joined_4, b_Pg_joined_6, b_Pg_joined_8, b_Pg_joined_9, b_Pg_joined_10, b_Pg_joined_12, b_Pg_joined_14, b_Pg_joined_16, b_Pg_joined_17, b_Pg_joined_18, b_Pg_joined_21, b_Pg_joined_23, b_Pg_joined_24, b_Pg_joined_25, b_Pg_joined_28, b_Pg_joined_30, b_Pg_joined_31, b_Pg_joined_32, b_Pg_joined_36, b_Pg_joined_40, b_Pg_joined_44, jn, rtI]
  · rw [e_Pg_joined, show ccode 20007 = -7 from by decide]
    simp [b_Pg_joined_0, b_Pg_joined_2, b_Pg_joined_4, b_Pg_joined_6, b_Pg_joined_8, b_Pg_joined_9, b_Pg_joined_10, b_Pg_joined_12, b_Pg_joined_14, b_Pg_joined_16, b_Pg_joined_17, b_Pg_joined_18, b_Pg_joined_21, b_Pg_joined_23, b_Pg_joined_24, b_Pg_joined_25, b_Pg_joined_28, b_Pg_joined_30, b_Pg_joined_31, b_Pg_joined_32, b_Pg_joined_36, b_Pg_joined_40, b_Pg_joined_44, jn, rtI]
  · rw [e_Pg_joined, show ccode 20008 = -8 from by decide]
    simp [b_Pg_joined_0, b_Pg_joined_2, b_Pg_joined_4, b_Pg_joined_6, b_Pg_joined_8, b_Pg_joined_9, b_Pg_joined_10, b_Pg_joined_12, b_Pg_joined_14, b_Pg_joined_16, b_Pg_joined_17, b_Pg_joined_18, b_Pg_joined_21, b_Pg_joined_23, b_Pg_joined_24, b_Pg_joined_25, b_Pg_joined_28, b_Pg_joined_30, b_Pg_joined_31, b_Pg_joined_32, b_Pg_joined_36, b_Pg_joined_40, b_Pg_joined_44, jn, rtI]
theorem c_M_both {d : Nat} (k : Nat) (a b : Int32) (h : AH) (hk : 20002 ≤ k ∧ k ≤ 20008) (Q : Option Value → AH → Prop) : Cl (d + 1) q_M_both [.int (rop k), .int a, .int b] h Q ↔ Q (some (.int (jn k a b))) h := by
  have c : k = 20002 ∨ k = 20003 ∨ k = 20004 ∨ k = 20005 ∨ k = 20006 ∨ k = 20007 ∨ k = 20008 := by omega
  rcases c with rfl | rfl | rfl | rfl | rfl | rfl | rfl
  · rw [e_M_both, show rop 20002 = 9 from by decide]
    simp [b_M_both_0, b_M_both_2, b_M_both_6, b_M_both_10, b_M_both_14, b_M_both_17, b_M_both_19, b_M_both_20, b_M_both_21, b_M_both_24, b_M_both_26, b_M_both_27, b_M_both_28, b_M_both_30, b_M_both_32, b_M_both_34, b_M_both_35, b_M_both_36, b_M_both_38, b_M_both_40, b_M_both_42, b_M_both_43, jn, rtI]
    grind
  · rw [e_M_both, show rop 20003 = 10 from by decide, b_M_both_0]
    simp [b_M_both_2, b_M_both_6, b_M_both_10, b_M_both_14, b_M_both_17, b_M_both_19, b_M_both_20, b_M_both_21, b_M_both_24, b_M_both_26, b_M_both_27, b_M_both_28, b_M_both_30, b_M_both_32, b_M_both_34, b_M_both_35, b_M_both_36, b_M_both_38, b_M_both_40, b_M_both_42, b_M_both_43, jn, rtI]
    grind
  · rw [e_M_both, show rop 20004 = 7 from by decide]
    simp [b_M_both_0, b_M_both_2, b_M_both_6, b_M_both_10, b_M_both_14, b_M_both_17, b_M_both_19, b_M_both_20, b_M_both_21, b_M_both_24, b_M_both_26, b_M_both_27, b_M_both_28, b_M_both_30, b_M_both_32, b_M_both_34, b_M_both_35, b_M_both_36, b_M_both_38, b_M_both_40, b_M_both_42, b_M_both_43, jn, rtI]
    grind
  · rw [e_M_both, show rop 20005 = 8 from by decide]
    simp [b_M_both_0, b_M_both_2, b_M_both_6, b_M_both_10, b_M_both_14, b_M_both_17, b_M_both_19, b_M_both_20, b_M_both_21, b_M_both_24, b_M_both_26, b_M_both_27, b_M_both_28, b_M_both_30, b_M_both_32, b_M_both_34, b_M_both_35, b_M_both_36, b_M_both_38, b_M_both_40, b_M_both_42, b_M_both_43, jn, rtI]
    grind
  · rw [e_M_both, show rop 20006 = 4 from by decide]
    simp [b_M_both_0, b_M_both_2, b_M_both_6, b_M_both_10, b_M_both_14, b_M_both_17, b_M_both_19, b_M_both_20, b_M_both_21, b_M_both_24, b_M_both_26, b_M_both_27, b_M_both_28, b_M_both_30, b_M_both_32, b_M_both_34, b_M_both_35, b_M_both_36, b_M_both_38, b_M_both_40, b_M_both_42, b_M_both_43, jn, rtI]
  · rw [e_M_both, show rop 20007 = 5 from by decide]
    simp [b_M_both_0, b_M_both_2, b_M_both_6, b_M_both_10, b_M_both_14, b_M_both_17, b_M_both_19, b_M_both_20, b_M_both_21, b_M_both_24, b_M_both_26, b_M_both_27, b_M_both_28, b_M_both_30, b_M_both_32, b_M_both_34, b_M_both_35, b_M_both_36, b_M_both_38, b_M_both_40, b_M_both_42, b_M_both_43, jn, rtI]
  · rw [e_M_both, show rop 20008 = 6 from by decide]
    simp [b_M_both_0, b_M_both_2, b_M_both_6, b_M_both_10, b_M_both_14, b_M_both_17, b_M_both_19, b_M_both_20, b_M_both_21, b_M_both_24, b_M_both_26, b_M_both_27, b_M_both_28, b_M_both_30, b_M_both_32, b_M_both_34, b_M_both_35, b_M_both_36, b_M_both_38, b_M_both_40, b_M_both_42, b_M_both_43, jn, rtI]
theorem cc_lt {k : Nat} (h : k < 20000) : ccode k = nI k := if_pos h
theorem n_nn {n : Nat} (h : n < 2147483648) : ¬ nI n < 0 := Int32.not_lt.mpr ((nle (a := 0) (by decide) h).mpr (Nat.zero_le _))
theorem nsub {a b : Nat} (h : b ≤ a) : nI a - nI b = nI (a - b) := pk_sub h
theorem upq_at {f : Nat → Int32} {j : Nat} {v : Int32} (i : Nat) : (if i = j then v else f i) = if i = j then v else f i := rfl
def onl (c : Nat) : Nat → Prop := fun a => a = c
theorem hI_same (h : AH) (a j : Nat) (v : Int32) (k : Nat) : hI (sI h a j v) a k = if k = j then v else hI h a k := if_pos rfl
theorem STK_push {h : AH} {c : Nat} {v : Int32} {l : List Int32} (s : STK (hI h c) l) : STK (hI (sI h c l.length v) c) (v :: l) :=
  ⟨by rw [hI_same, if_pos rfl], STK_up (fun i hi => by rw [hI_same, if_neg (by omega)]) s⟩
/-- one step of the class -/
theorem c_Pg_take {d : Nat} (r fc nf k : Nat) (l : List Int32) (F : Nat → Int32) (h : AH) (x : PRG h r) (hf : hK h fc = 20) (hn : hN h fc = nf) (hnf : nf ≤ 20) (hF : ∀ i, i < nf → hI h fc i = F i) (o : ok1 nf k l.length) (ol : l.length ≤ 32) (s : STK (hI h (r + 3)) l) (Q : Option Value → AH → Prop) (hq : ∀ h', Fr (onl (r + 3)) nov h h' → STK (hI h' (r + 3)) (ev1 F k l) → Q (some (.int (nI (nx k l.length)))) h') : Cl (d + 2) q_Pg_take [.ref r, .int (ccode k), .int (nI l.length), .ref fc] h Q := by
  obtain ⟨x0, x1, x2, x3, x4, x5, x6, x7, x8, x9, x10⟩ := x
  rw [e_Pg_take, b_Pg_take_0]
  have a1 := n_nn (n := l.length) (by omega)
  rcases o with ⟨o1, o2⟩ | ⟨rfl, o2⟩ | ⟨o1, o2⟩
  · have k2 : k < 20000 := by omega
    have a2 := n_nn (n := k) (by omega)
    have a3 : nI l.length < 32 := (nlt (b := 32) (by omega) (by decide)).mpr o2
    have i1 := nix o2 (by decide)
    have c1 := cN (n := l.length) (by omega)
    simp only [cc_lt k2, a2, a1, b_Pg_take_2, b_Pg_take_4, b_Pg_take_11, b_Pg_take_20, b_Pg_take_22, b_Pg_take_26, b_Pg_take_31, x1, x4, x7, x10, mem20, mem21, mem22, al20, al21, al33, al34, al36, al37, al38, aa33, aa34, aa36, aa37, aa38, true_and, and_true, Int32.reduceOfNat, forall_const, true_implies, implies_true, false_implies, not_true_eq_false, not_false_eq_true, a3, i1, c1, hf, hn, rtI, nI_1]
    have n1 : nx k l.length = l.length + 1 := if_pos k2
    rw [n1] at hq
    by_cases q : k < 10000
    · have b1 : ¬ 0 ≤ nI k - 10000 := by
        have := pk_sneg (a := k) (b := 10000) (by decide) q
        exact Int32.not_le.mpr this
      simp only [b1, mem20, mem21, mem22, al20, al21, al33, al34, al36, al37, al38, aa33, aa34, aa36, aa37, aa38, true_and, and_true, Int32.reduceOfNat, forall_const, true_implies, implies_true, false_implies, not_true_eq_false, not_false_eq_true]
      refine hq _ (Fr.rfl'.sI rfl) ?_
      unfold ev1
      rw [if_pos q]
      exact STK_push s
    · have e1 : nI k - 10000 = nI (k - 10000) := nsub (b := 10000) (by omega)
      have b1 : 0 ≤ nI (k - 10000) := (nle (a := 0) (by decide) (by omega)).mpr (Nat.zero_le _)
      have b2 : ¬ Int32.ofNat nf ≤ nI (k - 10000) := mt (nle (by omega) (by omega)).mp (by omega)
      have i2 : ixo (nI (k - 10000)) nf = true := nix (by omega) (by omega)
      have c2 := cN (n := k - 10000) (by omega)
      simp only [e1, b1, b2, i2, c2, mem20, mem21, mem22, al20, al21, al33, al34, al36, al37, al38, aa33, aa34, aa36, aa37, aa38, true_and, and_true, Int32.reduceOfNat, forall_const, true_implies, implies_true, false_implies, not_true_eq_false, not_false_eq_true, hF _ (show k - 10000 < nf by omega)]
      refine hq _ (Fr.rfl'.sI rfl) ?_
      unfold ev1
      rw [if_neg q, if_pos k2]
      exact STK_push s
  · match l, o2, s, ol with
    | a :: t, o2, s, ol =>
      have w1 : (ccode 20001 : Int32) = -1 := by decide
      have w2 : (-1 : Int32) < 0 := by decide
      have w3 : ¬ nI (a :: t).length < 1 := mt (nlt (b := 1) (by omega) (by decide)).mp (by simp)
      have w4 : ¬ 32 < nI (a :: t).length := mt (nlt (a := 32) (by decide) (by omega)).mp (by omega)
      have w5 : nI (a :: t).length - 1 = nI t.length := by
        exact nsub (a := t.length + 1) (b := 1) (by omega)
      have w6 := cN (n := t.length) (by simp at ol; omega)
      have w7 : ixo (nI t.length) 32 = true := nix (by simp at ol; omega) (by decide)
      have w8 : hI h (r + 3) t.length = a := s.1
      simp only [w1, w2, w3, w4, w5, w6, w7, w8, b_Pg_take_36, b_Pg_take_39, b_Pg_take_42, b_Pg_take_47, b_Pg_take_59, b_Pg_take_61, b_Pg_take_62, b_Pg_take_63, mem20, mem21, mem22, al20, al21, al33, al34, al36, al37, al38, aa33, aa34, aa36, aa37, aa38, true_and, and_true, Int32.reduceOfNat, forall_const, true_implies, implies_true, false_implies, not_true_eq_false, not_false_eq_true, x1, x4, x7, x10, rtI]
      have hq' : ∀ v, v = (if a = 0 then (1 : Int32) else 0) → Q (some (.int (nI (a :: t).length))) (sI h (r + 3) t.length v) := by
        intro v hv
        refine hq _ (Fr.rfl'.sI rfl) ?_
        show STK _ ((if a = 0 then (1 : Int32) else 0) :: t)
        rw [← hv]
        exact STK_push s.2
      by_cases q : a = 0
      · simp only [q, mem20, mem21, mem22, al20, al21, al33, al34, al36, al37, al38, aa33, aa34, aa36, aa37, aa38, true_and, and_true, Int32.reduceOfNat, forall_const, true_implies, implies_true, false_implies, not_true_eq_false, not_false_eq_true] at hq' ⊢
        exact hq' 1 (by simp)
      · simp only [q, mem20, mem21, mem22, al20, al21, al33, al34, al36, al37, al38, aa33, aa34, aa36, aa37, aa38, true_and, and_true, Int32.reduceOfNat, forall_const, true_implies, implies_true, false_implies, not_true_eq_false, not_false_eq_true] at hq' ⊢
        exact hq' 0 (by simp)
  · match l, o2, s, ol with
    | a :: b :: t, o2, s, ol =>
      have w0 : ccode k = -nI (k - 20000) := if_neg (by omega)
      have w2 : ccode k < 0 := by
        have c : k = 20002 ∨ k = 20003 ∨ k = 20004 ∨ k = 20005 ∨ k = 20006 ∨ k = 20007 ∨ k = 20008 := by omega
        rcases c with rfl | rfl | rfl | rfl | rfl | rfl | rfl <;> decide
      have w1 : ¬ ccode k = -1 := by
        have c : k = 20002 ∨ k = 20003 ∨ k = 20004 ∨ k = 20005 ∨ k = 20006 ∨ k = 20007 ∨ k = 20008 := by omega
        rcases c with rfl | rfl | rfl | rfl | rfl | rfl | rfl <;> decide
      have w3 : ¬ nI (a :: b :: t).length < 2 := mt (nlt (b := 2) (by omega) (by decide)).mp (by simp)
      have w4 : nI (a :: b :: t).length ≤ 32 := (nle (b := 32) (by omega) (by decide)).mpr (by omega)
      have w5 : nI (a :: b :: t).length - 1 = nI (t.length + 1) := by
        exact nsub (a := t.length + 1 + 1) (b := 1) (by omega)
      have w5' : nI (a :: b :: t).length - 2 = nI t.length := by
        exact nsub (a := t.length + 1 + 1) (b := 2) (by omega)
      have ol' : t.length + 2 ≤ 32 := by simpa using ol
      have w6 := cN (n := t.length) (by omega)
      have w6' := cN (n := t.length + 1) (by omega)
      have w7 : ixo (nI t.length) 32 = true := nix (by omega) (by decide)
      have w7' : ixo (nI (t.length + 1)) 32 = true := nix (by omega) (by decide)
      have w8 : hI h (r + 3) (t.length + 1) = a := s.1
      have w8' : hI h (r + 3) t.length = b := s.2.1
      have n1 : nx k (a :: b :: t).length = t.length + 1 := by
        unfold nx
        rw [if_neg (by omega), if_neg (by omega)]
        simp
      rw [n1] at hq
      simp only [w1, w2, w3, w4, w5, w5', w6, w6', w7, w7', w8, w8', b_Pg_take_36, b_Pg_take_65, b_Pg_take_68, b_Pg_take_75, b_Pg_take_94, c_Pg_joined k b a h o1, Option.toList, List.cons_append, List.nil_append, mem20, mem21, mem22, al20, al21, al33, al34, al36, al37, al38, aa33, aa34, aa36, aa37, aa38, true_and, and_true, Int32.reduceOfNat, forall_const, true_implies, implies_true, false_implies, not_true_eq_false, not_false_eq_true, x1, x4, x7, x10, rtI]
      refine hq _ (Fr.rfl'.sI rfl) ?_
      unfold ev1
      rw [if_neg (by omega), if_neg (by omega)]
      simp only [show ¬ k = 20001 by omega, if_false]
      exact STK_push s.2.2
/-- the steps cs lie in the row st from s on -/
def STP (f : Nat → Int32) : Nat → List Nat → Prop
  | _, [] => True
  | s, k :: cs => f s = ccode k ∧ STP f (s + 1) cs
theorem STP_up {f g : Nat → Int32} : ∀ {cs : List Nat} {s : Nat}, (∀ i, s ≤ i → i < s + cs.length → g i = f i) → STP f s cs → STP g s cs
  | [], _, _, _ => True.intro
  | k :: cs, s, e, q => ⟨(e s (by omega) (by simp)).trans q.1, STP_up (fun i h1 h2 => e i (by omega) (by simp; omega)) q.2⟩
theorem w_Pg_run {d : Nat} (r st fc nf ln e x4 : Nat) (F : Nat → Int32) (hnf : nf ≤ 20) (hst : st ≠ r + 3) (hfc : fc ≠ r + 3) (hln : ln < 6) (he : e ≤ 1000) (Q : Option Value → AH → Prop) : ∀ (cs : List Nat) (s : Nat) (l : List Int32) (h : AH), PRG h r → hR h r 0 = st → hK h st = 20 → e ≤ hN h st → hN h st ≤ 1000 → hI h (r + 2) ln = nI e → hK h fc = 20 → hN h fc = nf → (∀ i, i < nf → hI h fc i = F i) → s + cs.length = e → STP (hI h st) s cs → oks nf cs l.length → STK (hI h (r + 3)) l →
    (∀ h', Fr (onl (r + 3)) nov h h' → STK (hI h' (r + 3)) (ev F cs l) → 1 ≤ (ev F cs l).length → Q (some (.int (hI h' (r + 3) 0))) h') → Wp (d + 2) P_Pg_run 34 [.ref r, .int (nI ln), .ref fc, .int (nI l.length), .int (nI x4), .int (nI s)] [] h Q := by
  intro cs
  induction cs with
  | nil =>
    intro s l h x a1 a2 a3 a3' a4 a5 a6 a7 a8 a9 a10 a11 hq
    have es : s = e := by simpa using a8
    subst es
    have b1 : ¬ nI l.length ≤ 0 := mt (nle (b := 0) (by have := a10.2; omega) (by decide)).mp (by have := a10.1; omega)
    have i1 : ixo (nI ln) 6 = true := nix hln (by decide)
    have i2 : ixo 0 32 = true := by decide
    have c0 : Int32.toNatClampNeg 0 = 0 := by decide
    rw [b_Pg_run_34]
    obtain ⟨x0, x1, x2, x3, x4, x5, x6, x7, x8, x9, x10⟩ := x
    simp only [x1, x3, x6, x9, i1, cN (show ln < 2147483648 by omega), a4, Int32.le_refl, b_Pg_run_56, b1, b_Pg_run_58, x4, x7, x10, i2, c0, b_Pg_run_64, mem20, mem21, mem22, al20, al21, al33, al34, al36, al37, al38, aa33, aa34, aa36, aa37, aa38, true_and, and_true, Int32.reduceOfNat, forall_const, true_implies, implies_true, false_implies, not_true_eq_false, not_false_eq_true]
    exact hq h Fr.rfl' a11 a10.1
  | cons k cs ih =>
    intro s l h x a1 a2 a3 a3' a4 a5 a6 a7 a8 a9 a10 a11 hq
    have a8' : s + 1 + cs.length = e := by simp at a8; omega
    have b1 : ¬ nI e ≤ nI s := mt (nle (by omega) (by omega)).mp (by omega)
    have b2 : ¬ Int32.ofNat (hN h st) ≤ nI s := mt (nle (by omega) (by omega)).mp (by omega)
    have i1 : ixo (nI ln) 6 = true := nix hln (by decide)
    have i2 : ixo (nI s) (hN h st) = true := nix (by omega) (by omega)
    have xx := x
    obtain ⟨x0, x1, x2, x3, x4, x5, x6, x7, x8, x9, x10⟩ := x
    rw [b_Pg_run_34]
    simp only [x1, x3, x6, x9, i1, cN (show ln < 2147483648 by omega), cN (show s < 2147483648 by omega), a1, a2, a4, b1, b2, b_Pg_run_40, b_Pg_run_45, i2, mem20, mem21, mem22, al20, al21, al33, al34, al36, al37, al38, aa33, aa34, aa36, aa37, aa38, true_and, and_true, Int32.reduceOfNat, forall_const, true_implies, implies_true, false_implies, not_true_eq_false, not_false_eq_true, a9.1]
    refine c_Pg_take r fc nf k l F h xx a5 a6 hnf a7 a10.2.1 a10.1 a11 _ ?_
    intro h' fr stk
    simp only [Option.toList, List.cons_append, List.nil_append, b_Pg_run_53, nI_1]
    have e1 := ev1_len (F := F) a10.2.1 hnf
    rw [← e1]
    have e2 : hI h' st = hI h st := fr.I hst
    have e3 : hI h' (r + 2) = hI h (r + 2) := fr.I (by unfold onl; omega)
    have e4 : hI h' fc = hI h fc := fr.I hfc
    refine ih (s + 1) (ev1 F k l) h' (xx.fr fr) (by rw [fr.R (by omega)]; exact a1) (by rw [fr.K]; exact a2) (by rw [fr.N]; exact a3) (by rw [fr.N]; exact a3') (by rw [e3]; exact a4) (by rw [fr.K]; exact a5) (by rw [fr.N]; exact a6) (by rw [e4]; exact a7) a8' (by rw [e2]; exact a9.2) (by rw [e1]; exact a10.2.2) stk ?_
    intro h2 fr2 s2 l2
    exact hq h2 (fr.tr fr2) s2 l2
theorem c_Pg_hasLine {d : Nat} (r ln : Nat) (h : AH) (x : PRG h r) (hln : ln < 6) (Q : Option Value → AH → Prop) : Cl (d + 1) q_Pg_hasLine [.ref r, .int (nI ln)] h Q ↔ Q (some (.int (if hI h (r + 2) ln ≤ hI h (r + 1) ln then 0 else 1))) h := by
  obtain ⟨x0, x1, x2, x3, x4, x5, x6, x7, x8, x9, x10⟩ := x
  have a1 := n_nn (n := ln) (by omega)
  have a2 : ¬ 6 ≤ nI ln := mt (nle (a := 6) (by decide) (by omega)).mp (by omega)
  have i1 : ixo (nI ln) 6 = true := nix hln (by decide)
  simp only [e_Pg_hasLine, b_Pg_hasLine_0, b_Pg_hasLine_2, b_Pg_hasLine_7, b_Pg_hasLine_12, b_Pg_hasLine_21, b_Pg_hasLine_23, b_Pg_hasLine_24, x1, x2, x3, x5, x6, x8, x9, a1, a2, i1, cN (show ln < 2147483648 by omega), rtZ0, rtZ1, mem20, mem21, mem22, al20, al21, al33, al34, al36, al37, al38, aa33, aa34, aa36, aa37, aa38, true_and, and_true, Int32.reduceOfNat, forall_const, true_implies, implies_true, false_implies, not_true_eq_false, not_false_eq_true]
  by_cases q : hI h (r + 2) ln ≤ hI h (r + 1) ln <;> simp [q]
/-- a line that was not told comes to 0 -/
theorem c_Pg_run0 {d : Nat} (r fc ln : Nat) (h : AH) (x : PRG h r) (hln : ln < 6) (e : hI h (r + 2) ln ≤ hI h (r + 1) ln) (Q : Option Value → AH → Prop) : Cl (d + 2) q_Pg_run [.ref r, .int (nI ln), .ref fc] h Q ↔ Q (some (.int 0)) h := by
  simp only [e_Pg_run, b_Pg_run_0, c_Pg_hasLine r ln h x hln, e, if_true, Option.toList, List.cons_append, List.nil_append, b_Pg_run_3, b_Pg_run_16, rtI, x.2.1, mem20, mem21, mem22, al20, al21, al33, al34, al36, al37, al38, aa33, aa34, aa36, aa37, aa38, true_and, and_true, Int32.reduceOfNat, forall_const, true_implies, implies_true, false_implies, not_true_eq_false, not_false_eq_true]
/-- what a line's steps come to -/
theorem c_Pg_run {d : Nat} (r st fc nf ln s : Nat) (cs : List Nat) (F : Nat → Int32) (h : AH) (hnf : nf ≤ 20) (hst : st ≠ r + 3) (hfc : fc ≠ r + 3) (hln : ln < 6) (x : PRG h r) (a1 : hR h r 0 = st) (a2 : hK h st = 20) (a3 : s + cs.length ≤ hN h st) (a3' : hN h st ≤ 1000) (a4 : hI h (r + 2) ln = nI (s + cs.length)) (a4' : hI h (r + 1) ln = nI s) (a5 : hK h fc = 20) (a6 : hN h fc = nf) (a7 : ∀ i, i < nf → hI h fc i = F i) (a9 : STP (hI h st) s cs) (a10 : oks nf cs 0) (Q : Option Value → AH → Prop)
    (hq : ∀ h', Fr (onl (r + 3)) nov h h' → STK (hI h' (r + 3)) (ev F cs []) → 1 ≤ (ev F cs []).length → Q (some (.int (hI h' (r + 3) 0))) h') : Cl (d + 3) q_Pg_run [.ref r, .int (nI ln), .ref fc] h Q := by
  have xx := x
  obtain ⟨x0, x1, x2, x3, x4, x5, x6, x7, x8, x9, x10⟩ := x
  have hl : 0 < cs.length := by
    cases cs with
    | nil => exact absurd a10.1 (by omega)
    | cons k t => simp
  have c1 : ¬ nI (s + cs.length) ≤ nI s := mt (nle (by omega) (by omega)).mp (by omega)
  have b1 := n_nn (n := ln) (by omega)
  have b2 : ¬ 6 ≤ nI ln := mt (nle (a := 6) (by decide) (by omega)).mp (by omega)
  have b3 : nI ln < 6 := Int32.not_le.mp b2
  have i1 : ixo (nI ln) 6 = true := nix hln (by decide)
  simp only [e_Pg_run, b_Pg_run_0, c_Pg_hasLine r ln h xx hln, a4, a4', c1, if_false, Option.toList, List.cons_append, List.nil_append, b_Pg_run_3, b_Pg_run_4, b_Pg_run_6, b_Pg_run_11, b_Pg_run_18, b_Pg_run_25, b_Pg_run_30, b_Pg_run_31, x1, x2, x3, x5, x6, x8, x9, b1, b2, b3, i1, cN (show ln < 2147483648 by omega), mem20, mem21, mem22, al20, al21, al33, al34, al36, al37, al38, aa33, aa34, aa36, aa37, aa38, true_and, and_true, Int32.reduceOfNat, forall_const, true_implies, implies_true, false_implies, not_true_eq_false, not_false_eq_true, show ¬ (1 : Int32) = 0 by decide]
  have w := w_Pg_run (d := d) r st fc nf ln (s + cs.length) s F hnf hst hfc hln (by omega) (fun r h' => rtk (some .int) r = true ∧ Q r h') cs s [] h xx a1 a2 a3 a3' a4 a5 a6 a7 rfl a9 a10 True.intro (fun h' f1 f2 f3 => ⟨rtI _, hq h' f1 f2 f3⟩)
  refine ⟨?_, fun _ => w⟩
  intro z
  have s0 : s = 0 := by
    have := (nle (a := s) (b := 0) (by omega) (by decide)).mp z
    omega
  subst s0
  exact w
/-! the reference's -/
def rone (π : Nat → Nat) (k : Nat) : Int32 := if k < 10000 then nI k else nI (π (k - 10000))
def RTP (f g : Nat → Int32) (π : Nat → Nat) : Nat → List Nat → Prop
  | s, [] => f s = 0
  | s, k :: cs => f s = rop k ∧ (k < 20000 → g s = rone π k) ∧ RTP f g π (s + 1) cs
theorem RTP_up {f g f' g' : Nat → Int32} {π : Nat → Nat} : ∀ {cs : List Nat} {s : Nat}, (∀ i, s ≤ i → i ≤ s + cs.length → f' i = f i ∧ g' i = g i) → RTP f g π s cs → RTP f' g' π s cs
  | [], s, e, q => (e s (by omega) (by simp)).1.trans q
  | k :: cs, s, e, q => ⟨(e s (by omega) (by simp)).1.trans q.1, fun hk => (e s (by omega) (by simp)).2.trans (q.2.1 hk), RTP_up (fun i h1 h2 => e i (by omega) (by simp; omega)) q.2.2⟩
theorem rop_ne (k : Nat) : ¬ rop k = 0 := by
  unfold rop
  repeat' split
  all_goals decide
theorem w_M_worthOf {d : Nat} (nf : Nat) (x1 : Int32) (π : Nat → Nat) (F : Nat → Int32) (hnf : nf ≤ 20) (hπ : ∀ i, i < nf → π i < 20) (Q : Option Value → AH → Prop) : ∀ (cs : List Nat) (s : Nat) (l : List Int32) (v4 : Value) (h : AH), MLY h → s + cs.length < 6600 → (∀ i, i < nf → hI h 363 (π i) = F i) → RTP (hI h 357) (hI h 358) π s cs → oks nf cs l.length → STK (hI h 364) l →
    (∀ h', Fr (onl 364) nov h h' → STK (hI h' 364) (ev F cs l) → 1 ≤ (ev F cs l).length → Q (some (.int (hI h' 364 0))) h') → Wp (d + 1) P_M_worthOf 4 [.ref 342, .int x1, .int (nI l.length), .int (nI s), v4] [] h Q := by
  intro cs
  induction cs with
  | nil =>
    intro s l v4 h m a8 a7 a9 a10 a11 hq
    have i1 : ixo (nI s) 6600 = true := nix (by simpa using a8) (by decide)
    have c0 : Int32.toNatClampNeg 0 = 0 := by decide
    have i2 : ixo 0 1100 = true := by decide
    have c1 := cN (n := s) (by simp at a8; omega)
    have a9' : hI h 357 s = 0 := a9
    rw [b_M_worthOf_4]
    simp only [mo m, mr_22 m, mk_357 m, mn_357 m, i1, c1, a9', b_M_worthOf_82, mr_29 m, mk_364 m, mn_364 m, i2, c0, mem20, mem21, mem22, al20, al21, al33, al34, al36, al37, al38, aa33, aa34, aa36, aa37, aa38, true_and, and_true, Int32.reduceOfNat, forall_const, true_implies, implies_true, false_implies, not_true_eq_false, not_false_eq_true]
    exact hq h Fr.rfl' a11 a10.1
  | cons k cs ih =>
    intro s l v4 h m a8 a7 a9 a10 a11 hq
    have a8' : s + 1 + cs.length < 6600 := by simp at a8; omega
    have i1 : ixo (nI s) 6600 = true := nix (by omega) (by decide)
    have c1 := cN (n := s) (by omega)
    obtain ⟨p1, p2, p3⟩ := a9
    obtain ⟨o0, o1, o2⟩ := a10
    have e1 := ev1_len (F := F) o1 hnf
    have next : ∀ (h' : AH) (v : Value), Fr (onl 364) nov h h' → STK (hI h' 364) (ev1 F k l) → Wp (d + 1) P_M_worthOf 4 [.ref 342, .int x1, .int (nI (nx k l.length)), .int (nI (s + 1)), v] [] h' Q := by
      intro h' v fr stk
      rw [← e1]
      have e2 : hI h' 357 = hI h 357 := fr.I (by unfold onl; omega)
      have e3 : hI h' 358 = hI h 358 := fr.I (by unfold onl; omega)
      have e4 : hI h' 363 = hI h 363 := fr.I (by unfold onl; omega)
      refine ih (s + 1) (ev1 F k l) v h' (m.fr fr) a8' (by rw [e4]; exact a7) (by rw [e2, e3]; exact p3) (by rw [e1]; exact o2) stk ?_
      intro h2 fr2 s2 l2
      exact hq h2 (fr.tr fr2) s2 l2
    rw [b_M_worthOf_4]
    simp only [mo m, mr_22 m, mk_357 m, mn_357 m, i1, c1, p1, rop_ne k, b_M_worthOf_9, mem20, mem21, mem22, al20, al21, al33, al34, al36, al37, al38, aa33, aa34, aa36, aa37, aa38, true_and, and_true, Int32.reduceOfNat, forall_const, true_implies, implies_true, false_implies, not_true_eq_false, not_false_eq_true]
    rcases o1 with ⟨o1, o3⟩ | ⟨rfl, o3⟩ | ⟨o1, o3⟩
    · have k2 : k < 20000 := by omega
      have i2 : ixo (nI l.length) 1100 = true := nix (by omega) (by decide)
      have c2 := cN (n := l.length) (by omega)
      have n1 : nx k l.length = l.length + 1 := if_pos k2
      rw [n1] at next
      by_cases q : k < 10000
      · have r1 : rop k = 1 := if_pos q
        have r2 : hI h 358 s = nI k := (p2 k2).trans (if_pos q)
        simp only [r1, b_M_worthOf_20, b_M_worthOf_26, b_M_worthOf_38, b_M_worthOf_80, mo m, mr_23 m, mr_29 m, mk_358 m, mn_358 m, mk_364 m, mn_364 m, i1, i2, c1, c2, r2, nI_1, mem20, mem21, mem22, al20, al21, al33, al34, al36, al37, al38, aa33, aa34, aa36, aa37, aa38, true_and, and_true, Int32.reduceOfNat, forall_const, true_implies, implies_true, false_implies, not_true_eq_false, not_false_eq_true]
        refine next _ _ (Fr.rfl'.sI rfl) ?_
        unfold ev1
        rw [if_pos q]
        exact STK_push a11
      · have r1 : rop k = 2 := by unfold rop; rw [if_neg q, if_pos k2]
        have r2 : hI h 358 s = nI (π (k - 10000)) := (p2 k2).trans (if_neg q)
        have hp := hπ (k - 10000) (by omega)
        have i3 : ixo (nI (π (k - 10000))) 20 = true := nix hp (by decide)
        have c3 := cN (n := π (k - 10000)) (by omega)
        simp only [r1, b_M_worthOf_17, b_M_worthOf_20, b_M_worthOf_31, b_M_worthOf_38, b_M_worthOf_80, mo m, mr_23 m, mr_28 m, mr_29 m, mk_358 m, mn_358 m, mk_363 m, mn_363 m, mk_364 m, mn_364 m, i1, i2, i3, c1, c2, c3, r2, nI_1, mem20, mem21, mem22, al20, al21, al33, al34, al36, al37, al38, aa33, aa34, aa36, aa37, aa38, true_and, and_true, Int32.reduceOfNat, forall_const, true_implies, implies_true, false_implies, not_true_eq_false, not_false_eq_true, show ¬ (2 : Int32) = 1 by decide, a7 _ (show k - 10000 < nf by omega)]
        refine next _ _ (Fr.rfl'.sI rfl) ?_
        unfold ev1
        rw [if_neg q, if_pos k2]
        exact STK_push a11
    · match l, o3, a11, o0 with
      | a :: t, o3, s1, ol =>
        have ol' : t.length + 1 ≤ 32 := by simpa using ol
        have r1 : rop 20001 = 3 := by decide
        have w5 : nI (a :: t).length - 1 = nI t.length := nsub (a := t.length + 1) (b := 1) (by omega)
        have w6 := cN (n := t.length) (by omega)
        have w7 : ixo (nI t.length) 1100 = true := nix (by omega) (by decide)
        have w8 : hI h 364 t.length = a := s1.1
        simp only [r1, b_M_worthOf_17, b_M_worthOf_41, b_M_worthOf_44, b_M_worthOf_56, b_M_worthOf_58, b_M_worthOf_59, b_M_worthOf_80, mo m, mr_29 m, mk_364 m, mn_364 m, w5, w6, w7, w8, nI_1, mem20, mem21, mem22, al20, al21, al33, al34, al36, al37, al38, aa33, aa34, aa36, aa37, aa38, true_and, and_true, Int32.reduceOfNat, forall_const, true_implies, implies_true, false_implies, not_true_eq_false, not_false_eq_true, show ¬ (3 : Int32) = 1 by decide, show ¬ (3 : Int32) = 2 by decide]
        have hq' : ∀ v v', v = (if a = 0 then (1 : Int32) else 0) → Wp (d + 1) P_M_worthOf 4 [.ref 342, .int x1, .int (nI (a :: t).length), .int (nI (s + 1)), v'] [] (sI h 364 t.length v) Q := by
          intro v v' hv
          refine next _ _ (Fr.rfl'.sI rfl) ?_
          show STK _ ((if a = 0 then (1 : Int32) else 0) :: t)
          rw [← hv]
          exact STK_push s1.2
        by_cases q : a = 0
        · simp only [q, mem20, mem21, mem22, al20, al21, al33, al34, al36, al37, al38, aa33, aa34, aa36, aa37, aa38, true_and, and_true, Int32.reduceOfNat, forall_const, true_implies, implies_true, false_implies, not_true_eq_false, not_false_eq_true] at hq' ⊢
          exact hq' 1 _ (by simp)
        · simp only [q, mem20, mem21, mem22, al20, al21, al33, al34, al36, al37, al38, aa33, aa34, aa36, aa37, aa38, true_and, and_true, Int32.reduceOfNat, forall_const, true_implies, implies_true, false_implies, not_true_eq_false, not_false_eq_true] at hq' ⊢
          exact hq' 0 _ (by simp)
    · match l, o3, a11, o0 with
      | a :: b :: t, o3, s1, ol =>
        have ol' : t.length + 2 ≤ 32 := by simpa using ol
        have rr : ¬ rop k = 1 ∧ ¬ rop k = 2 ∧ ¬ rop k = 3 := by
          have c : k = 20002 ∨ k = 20003 ∨ k = 20004 ∨ k = 20005 ∨ k = 20006 ∨ k = 20007 ∨ k = 20008 := by omega
          rcases c with rfl | rfl | rfl | rfl | rfl | rfl | rfl <;> decide
        have w4 : nI (a :: b :: t).length + (-1) = nI (t.length + 1) := pk_m1 (t.length + 1)
        have w5 : nI (t.length + 1) - 1 = nI t.length := nsub (a := t.length + 1) (b := 1) (by omega)
        have w6 := cN (n := t.length) (by omega)
        have w6' := cN (n := t.length + 1) (by omega)
        have w7 : ixo (nI t.length) 1100 = true := nix (by omega) (by decide)
        have w7' : ixo (nI (t.length + 1)) 1100 = true := nix (by omega) (by decide)
        have w8 : hI h 364 (t.length + 1) = a := s1.1
        have w8' : hI h 364 t.length = b := s1.2.1
        have n1 : nx k (a :: b :: t).length = t.length + 1 := by
          unfold nx
          rw [if_neg (by omega), if_neg (by omega)]
          simp
        rw [n1] at next
        simp only [rr.1, rr.2.1, rr.2.2, b_M_worthOf_17, b_M_worthOf_41, b_M_worthOf_61, c_M_both k b a h o1, Option.toList, List.cons_append, List.nil_append, b_M_worthOf_79, b_M_worthOf_80, mo m, mr_29 m, mk_364 m, mn_364 m, w4, w5, w6, w6', w7, w7', w8, w8', nI_1, mem20, mem21, mem22, al20, al21, al33, al34, al36, al37, al38, aa33, aa34, aa36, aa37, aa38, true_and, and_true, Int32.reduceOfNat, forall_const, true_implies, implies_true, false_implies, not_true_eq_false, not_false_eq_true]
        refine next _ _ (Fr.rfl'.sI rfl) ?_
        unfold ev1
        rw [if_neg (by omega), if_neg (by omega)]
        simp only [show ¬ k = 20001 by omega, if_false]
        exact STK_push s1.2.2
theorem c_M_worthOf {d : Nat} (nf s : Nat) (cs : List Nat) (π : Nat → Nat) (F : Nat → Int32) (h : AH) (m : MLY h) (hnf : nf ≤ 20) (hπ : ∀ i, i < nf → π i < 20) (a8 : s + cs.length < 6600) (a7 : ∀ i, i < nf → hI h 363 (π i) = F i) (a9 : RTP (hI h 357) (hI h 358) π s cs) (a10 : oks nf cs 0) (Q : Option Value → AH → Prop)
    (hq : ∀ h', Fr (onl 364) nov h h' → STK (hI h' 364) (ev F cs []) → 1 ≤ (ev F cs []).length → Q (some (.int (hI h' 364 0))) h') : Cl (d + 2) q_M_worthOf [.ref 342, .int (nI s)] h Q := by
  rw [e_M_worthOf, b_M_worthOf_0]
  exact ⟨mo m, w_M_worthOf nf (nI s) π F hnf hπ _ cs s [] _ h m a8 a7 a9 a10 True.intro (fun h' f1 f2 f3 => ⟨rtI _, hq h' f1 f2 f3⟩)⟩
/-- the worth of steps: the lowest of the stack -/
def wth (F : Nat → Int32) (cs : List Nat) : Int32 := (ev F cs []).getLastD 0
theorem STK_last {f : Nat → Int32} : ∀ {l : List Int32}, 1 ≤ l.length → STK f l → f 0 = l.getLastD 0
  | [v], _, s => s.1
  | v :: w :: l, _, s => by
    rw [STK_last (l := w :: l) (by simp) s.2]
    rfl
theorem ev_ext {F G : Nat → Int32} {nf : Nat} (hnf : nf ≤ 20) (e : ∀ i, i < nf → F i = G i) : ∀ (cs : List Nat) (l : List Int32), oks nf cs l.length → ev F cs l = ev G cs l
  | [], _, _ => rfl
  | k :: cs, l, o => by
    have e1 : ev1 F k l = ev1 G k l := by
      unfold ev1
      by_cases q : k < 10000
      · rw [if_pos q, if_pos q]
      · rw [if_neg q, if_neg q]
        by_cases q2 : k < 20000
        · rw [if_pos q2, if_pos q2, e (k - 10000) (by rcases o.2.1 with z | z | z <;> omega)]
        · rw [if_neg q2, if_neg q2]
    show ev F cs (ev1 F k l) = ev G cs (ev1 G k l)
    rw [e1]
    exact ev_ext hnf e cs _ (by rw [ev1_len o.2.1 hnf]; exact o.2.2)
