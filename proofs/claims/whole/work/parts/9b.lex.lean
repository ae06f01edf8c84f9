--deps: 9a.feed
/-! TOKENS -/
abbrev isL (c : Nat) : Prop := 97 ≤ c ∧ c ≤ 122
abbrev isD (c : Nat) : Prop := 48 ≤ c ∧ c ≤ 57
abbrev isB (c : Nat) : Prop := c = 10 ∨ c = 32
abbrev isS (c : Nat) : Prop := c = 40 ∨ c = 41 ∨ c = 60 ∨ c = 61 ∨ c = 43 ∨ c = 45 ∨ c = 42 ∨ c = 59
/-- the words of the language, row by row, as signs -/
def bN : List (List Nat) := [[112, 108, 97, 105, 110], [115, 104, 97, 109, 105, 110, 103], [97, 115, 107, 101, 100], [107, 110, 111, 119, 110], [114, 101, 97, 108], [111, 116, 104, 101, 114, 115], [102, 105, 108, 101], [97, 115, 107, 115], [104, 101, 97, 114, 100], [102, 101, 97, 114], [100, 111, 110, 101], [116, 114, 105, 99, 107], [104, 97, 98, 105, 116], [112, 108, 97, 99, 101], [110, 111, 105, 115, 101], [110, 111, 116], [97, 110, 100], [111, 114], [97, 115, 107], [102, 111, 114], [108, 105, 110, 101], [115, 97, 121, 115], [119, 104, 101, 110]]
theorem bN_by : ∀ r, r < 23 → byT.getD r [] = (bN.getD r []).map nI ∧ (bN.getD r []).length ≤ 8 := by decide +kernel
theorem bN_ne : ∀ r, r < 23 → ∀ s, s < 23 → bN.getD r [] = bN.getD s [] → r = s := by decide +kernel
theorem bN_L : ∀ r, r < 23 → ∀ c ∈ bN.getD r [], isL c := by decide +kernel
/-- the signs from p on, k of them -/
def wl (f : Nat → Nat) (p k : Nat) : List Nat := (List.range k).map (fun i => f (p + i))
theorem wl_len (f : Nat → Nat) (p k : Nat) : (wl f p k).length = k := by unfold wl; simp
theorem wl_s (f : Nat → Nat) (p k : Nat) : wl f p (k + 1) = wl f p k ++ [f (p + k)] := by unfold wl; rw [List.range_succ]; simp
def SP (f : Nat → Nat) (p k r : Nat) : Prop := bN.getD r [] = wl f p k
theorem SP_iff {f : Nat → Nat} {p k r : Nat} : SP f p k r ↔ (bN.getD r []).length = k ∧ ∀ i, i < k → (bN.getD r []).getD i 0 = f (p + i) := by
  unfold SP
  constructor
  · intro e
    rw [e]
    refine ⟨wl_len f p k, fun i hi => ?_⟩
    unfold wl
    simp [List.getD_eq_getElem?_getD, hi]
  · rintro ⟨e, g⟩
    apply List.ext_getElem
    · rw [e, wl_len]
    · intro i h1 h2
      have := g i (by omega)
      rw [List.getD_eq_getElem?_getD, List.getElem?_eq_getElem h1] at this
      have e2 : (wl f p k)[i]? = some (f (p + i)) := by
        unfold wl
        simp [show i < k by omega]
      rw [List.getElem?_eq_getElem h2] at e2
      exact this.trans (Option.some.inj e2).symm
/-- the row of a word -/
def RWD (f : Nat → Nat) (p k rw : Nat) : Prop := rw ≤ 23 ∧ (rw < 23 → SP f p k rw) ∧ ∀ r, r < rw → ¬ SP f p k r
def dv (f : Nat → Nat) (p : Nat) : Nat → Nat
  | 0 => 0
  | k + 1 => 10 * dv f p k + (f (p + k) - 48)
def TOK (f : Nat → Nat) (n p e c : Nat) : Prop := p < e ∧ e ≤ n ∧ ((isL (f p) ∧ (∀ i, p ≤ i → i < e → isL (f i)) ∧ (e < n → ¬ isL (f e)) ∧ (8 < e - p → c = 13000) ∧ (e - p ≤ 8 → ∃ rw, c = 10000 + rw ∧ RWD f p (e - p) rw)) ∨ (isD (f p) ∧ (∀ i, p ≤ i → i < e → isD (f i)) ∧ (e < n → ¬ isD (f e)) ∧ (4 < e - p → c = 13000) ∧ (e - p ≤ 4 → c = dv f p (e - p))) ∨ (¬ isL (f p) ∧ ¬ isD (f p) ∧ e = p + 1 ∧ c = if isS (f p) then 11000 + f p else 13000))
def LX (f : Nat → Nat) (n : Nat) : Nat → List (Nat × Nat) → Prop
  | _, [] => False
  | k, t :: ts => k ≤ t.2 ∧ t.2 ≤ n ∧ (∀ i, k ≤ i → i < t.2 → isB (f i)) ∧ ((t.2 = n ∧ t.1 = 12000 ∧ ts = []) ∨ (t.2 < n ∧ ¬ isB (f t.2) ∧ ∃ e, TOK f n t.2 e t.1 ∧ LX f n e ts))
theorem run_ex (P : Nat → Prop) (n : Nat) : ∀ (N k : Nat), n - k ≤ N → k ≤ n → ∃ e, k ≤ e ∧ e ≤ n ∧ (∀ i, k ≤ i → i < e → P i) ∧ (e < n → ¬ P e)
  | 0, k, h, hk => ⟨k, Nat.le_refl _, hk, fun i h1 h2 => by omega, fun z => by omega⟩
  | N + 1, k, h, hk => by
    by_cases q : k < n ∧ P k
    · obtain ⟨e, e1, e2, e3, e4⟩ := run_ex P n N (k + 1) (by omega) (by omega)
      refine ⟨e, by omega, e2, fun i h1 h2 => ?_, e4⟩
      by_cases qi : i = k
      · rw [qi]; exact q.2
      · exact e3 i (by omega) h2
    · exact ⟨k, Nat.le_refl _, hk, fun i h1 h2 => by omega, fun z y => q ⟨z, y⟩⟩
theorem RWD_ex (f : Nat → Nat) (p k : Nat) : ∃ rw, RWD f p k rw := by
  obtain ⟨e, e1, e2, e3, e4⟩ := run_ex (fun r => ¬ SP f p k r) 23 23 0 (by omega) (by omega)
  exact ⟨e, e2, fun z => Classical.not_not.mp (e4 z), fun r hr => e3 r (by omega) hr⟩
theorem TOK_ex (f : Nat → Nat) (n p : Nat) (hp : p < n) : ∃ e c, TOK f n p e c := by
  by_cases q1 : isL (f p)
  · obtain ⟨e, e1, e2, e3, e4⟩ := run_ex (fun i => isL (f i)) n n p (by omega) (by omega)
    have pe : p < e := by
      by_cases z : p = e
      · exact absurd q1 (by rw [z]; exact e4 (by omega))
      · omega
    by_cases q8 : 8 < e - p
    · exact ⟨e, 13000, pe, e2, Or.inl ⟨q1, e3, e4, fun _ => rfl, fun z => by omega⟩⟩
    · obtain ⟨rw, hr⟩ := RWD_ex f p (e - p)
      exact ⟨e, 10000 + rw, pe, e2, Or.inl ⟨q1, e3, e4, fun z => by omega, fun _ => ⟨rw, rfl, hr⟩⟩⟩
  · by_cases q2 : isD (f p)
    · obtain ⟨e, e1, e2, e3, e4⟩ := run_ex (fun i => isD (f i)) n n p (by omega) (by omega)
      have pe : p < e := by
        by_cases z : p = e
        · exact absurd q2 (by rw [z]; exact e4 (by omega))
        · omega
      by_cases q8 : 4 < e - p
      · exact ⟨e, 13000, pe, e2, Or.inr (Or.inl ⟨q2, e3, e4, fun _ => rfl, fun z => by omega⟩)⟩
      · exact ⟨e, dv f p (e - p), pe, e2, Or.inr (Or.inl ⟨q2, e3, e4, fun z => by omega, fun _ => rfl⟩)⟩
    · exact ⟨p + 1, _, by omega, by omega, Or.inr (Or.inr ⟨q1, q2, rfl, rfl⟩)⟩
theorem LX_ex (f : Nat → Nat) (n : Nat) : ∀ (N k : Nat), n - k < N → k ≤ n → ∃ ts, LX f n k ts
  | 0, k, h, hk => by omega
  | N + 1, k, h, hk => by
    obtain ⟨q, e1, e2, e3, e4⟩ := run_ex (fun i => isB (f i)) n n k (by omega) hk
    by_cases z : q = n
    · exact ⟨[(12000, n)], by simp only; omega, Nat.le_refl _, by rw [← z]; exact e3, Or.inl ⟨rfl, rfl, rfl⟩⟩
    · obtain ⟨e, c, t⟩ := TOK_ex f n q (by omega)
      obtain ⟨ts, l⟩ := LX_ex f n N e (by have := t.1; omega) t.2.1
      exact ⟨(c, q) :: ts, e1, e2, e3, Or.inr ⟨by simp only; omega, e4 (by omega), e, t, l⟩⟩
theorem LX_len {f : Nat → Nat} {n : Nat} : ∀ {ts : List (Nat × Nat)} {k : Nat}, LX f n k ts → k ≤ n → k + ts.length ≤ n + 1
  | [], k, h, _ => h.elim
  | t :: ts, k, h, hk => by
    obtain ⟨h1, h2, h3, h4⟩ := h
    rcases h4 with ⟨h5, h6, h7⟩ | ⟨h5, h6, e, t1, t2⟩
    · subst h7; simp; omega
    · have := LX_len t2 t1.2.1
      have := t1.1
      simp; omega
/-- codes that there are -/
def cdOk (c : Nat) : Prop := c ≤ 9999 ∨ (10000 ≤ c ∧ c ≤ 10023) ∨ (∃ s, isS s ∧ c = 11000 + s) ∨ c = 12000 ∨ c = 13000
theorem dv_lt {f : Nat → Nat} {p : Nat} : ∀ (k : Nat), (∀ i, p ≤ i → i < p + k → isD (f i)) → dv f p k < 10 ^ k
  | 0, _ => Nat.one_pos
  | k + 1, h => by
    have := dv_lt (f := f) (p := p) k (fun i h1 h2 => h i h1 (by omega))
    have h2 := h (p + k) (by omega) (by omega)
    show 10 * dv f p k + (f (p + k) - 48) < 10 ^ (k + 1)
    rw [Nat.pow_succ]
    omega
theorem TOK_ok {f : Nat → Nat} {n p e c : Nat} (t : TOK f n p e c) : cdOk c ∧ c ≠ 12000 := by
  obtain ⟨t1, t2, t3⟩ := t
  rcases t3 with ⟨_, _, _, a, b⟩ | ⟨_, g, _, a, b⟩ | ⟨_, _, _, a⟩
  · by_cases q : 8 < e - p
    · rw [a q]; exact ⟨Or.inr (Or.inr (Or.inr (Or.inr rfl))), by decide⟩
    · obtain ⟨rw', h1, h2⟩ := b (by omega)
      have := h2.1
      exact ⟨Or.inr (Or.inl (by omega)), by omega⟩
  · by_cases q : 4 < e - p
    · rw [a q]; exact ⟨Or.inr (Or.inr (Or.inr (Or.inr rfl))), by decide⟩
    · rw [b (by omega)]
      have := dv_lt (f := f) (p := p) (e - p) (fun i h1 h2 => g i h1 (by omega))
      have h4 : (10 : Nat) ^ (e - p) ≤ 10 ^ 4 := Nat.pow_le_pow_right (by decide) (by omega)
      have h5 : (10 : Nat) ^ 4 = 10000 := by decide
      exact ⟨Or.inl (by omega), by omega⟩
  · by_cases q : isS (f p)
    · rw [if_pos q] at a
      refine ⟨Or.inr (Or.inr (Or.inl ⟨_, q, a⟩)), ?_⟩
      unfold isS at q
      omega
    · rw [if_neg q] at a
      rw [a]; exact ⟨Or.inr (Or.inr (Or.inr (Or.inr rfl))), by decide⟩
theorem TOK_lt {f : Nat → Nat} {n p e c : Nat} (t : TOK f n p e c) : c < 14000 := by
  rcases (TOK_ok t).1 with q | q | ⟨s, q, q2⟩ | q | q
  · omega
  · omega
  · unfold isS at q; omega
  · omega
  · omega
/-! the signs of the tape on the side of the class -/
theorem rtC : ∀ c, c < 256 → rtk (some .char) (some (.int (nI c))) = true := by decide +kernel
theorem c_Tp_isLetter {d : Nat} (c : Nat) (hc : c < 256) (h : AH) (Q : Option Value → AH → Prop) : Cl (d + 1) q_Tp_isLetter [.int (nI c)] h Q ↔ Q (some (.int (if isL c then 1 else 0))) h := by
  have a1 : nI c < 97 ↔ c < 97 := nlt (b := 97) (by omega) (by decide)
  have a2 : 122 < nI c ↔ 122 < c := nlt (a := 122) (by decide) (by omega)
  simp only [e_Tp_isLetter, b_Tp_isLetter_0, b_Tp_isLetter_3, b_Tp_isLetter_6, b_Tp_isLetter_8, b_Tp_isLetter_9, a1, a2]
  by_cases q1 : c < 97
  · have : ¬ isL c := by unfold isL; omega
    rw [if_neg this]
    simp [q1, rtZ0]
  · by_cases q2 : 122 < c
    · have : ¬ isL c := by unfold isL; omega
      rw [if_neg this]
      simp [q1, q2, rtZ0]
    · have : isL c := by unfold isL; omega
      rw [if_pos this]
      simp [q1, q2, rtZ1]
theorem c_Tp_isDigit {d : Nat} (c : Nat) (hc : c < 256) (h : AH) (Q : Option Value → AH → Prop) : Cl (d + 1) q_Tp_isDigit [.int (nI c)] h Q ↔ Q (some (.int (if isD c then 1 else 0))) h := by
  have a1 : nI c < 48 ↔ c < 48 := nlt (b := 48) (by omega) (by decide)
  have a2 : 57 < nI c ↔ 57 < c := nlt (a := 57) (by decide) (by omega)
  simp only [e_Tp_isDigit, b_Tp_isDigit_0, b_Tp_isDigit_3, b_Tp_isDigit_6, b_Tp_isDigit_8, b_Tp_isDigit_9, a1, a2]
  by_cases q1 : c < 48
  · have : ¬ isD c := by unfold isD; omega
    rw [if_neg this]
    simp [q1, rtZ0]
  · by_cases q2 : 57 < c
    · have : ¬ isD c := by unfold isD; omega
      rw [if_neg this]
      simp [q1, q2, rtZ0]
    · have : isD c := by unfold isD; omega
      rw [if_pos this]
      simp [q1, q2, rtZ1]
theorem c_Tp_isSign {d : Nat} (c : Nat) (hc : c < 256) (h : AH) (Q : Option Value → AH → Prop) : Cl (d + 1) q_Tp_isSign [.int (nI c)] h Q ↔ Q (some (.int (if isS c then 1 else 0))) h := by
  have a : ∀ k : Nat, k < 256 → (nI c = nI k ↔ c = k) := fun k hk => neq (by omega) (by omega)
  have a1 : nI c = 40 ↔ c = 40 := a 40 (by decide)
  have a2 : nI c = 41 ↔ c = 41 := a 41 (by decide)
  have a3 : nI c = 60 ↔ c = 60 := a 60 (by decide)
  have a4 : nI c = 61 ↔ c = 61 := a 61 (by decide)
  have a5 : nI c = 43 ↔ c = 43 := a 43 (by decide)
  have a6 : nI c = 45 ↔ c = 45 := a 45 (by decide)
  have a7 : nI c = 42 ↔ c = 42 := a 42 (by decide)
  have a8 : nI c = 59 ↔ c = 59 := a 59 (by decide)
  simp only [e_Tp_isSign, b_Tp_isSign_0, b_Tp_isSign_3, b_Tp_isSign_6, b_Tp_isSign_9, b_Tp_isSign_12, b_Tp_isSign_15, b_Tp_isSign_18, b_Tp_isSign_21, b_Tp_isSign_24, b_Tp_isSign_26, b_Tp_isSign_27, a1, a2, a3, a4, a5, a6, a7, a8]
  by_cases q : isS c
  · rw [if_pos q]
    rcases q with rfl | rfl | rfl | rfl | rfl | rfl | rfl | rfl <;> simp [rtZ1]
  · rw [if_neg q]
    have q' := q
    unfold isS at q'
    simp only [not_or] at q'
    simp [q', rtZ0]
/-- the tape, with its signs -/
def TPX (h : AH) (f : Nat → Nat) (n : Nat) : Prop := n ≤ 1000 ∧ hI h 109 1 = nI n ∧ (∀ i, i < n → hI h 110 i = nI (f i)) ∧ ∀ i, i < n → f i < 256
theorem TPX.fr {S T : Nat → Prop} {h h' : AH} {f : Nat → Nat} {n : Nat} (t : TPX h f n) (e1 : hI h' 109 1 = hI h 109 1) (e2 : hI h' 110 = hI h 110) : TPX h' f n := ⟨t.1, e1.trans t.2.1, fun i hi => by rw [e2]; exact t.2.2.1 i hi, t.2.2.2⟩
theorem c_Tp_signAt {d : Nat} (f : Nat → Nat) (n k : Nat) (h : AH) (x : XLY h) (t : TPX h f n) (hk : k < n) (Q : Option Value → AH → Prop) : Cl (d + 1) q_Tp_signAt [.ref 109, .int (nI k)] h Q ↔ Q (some (.int (nI (f k)))) h := by
  obtain ⟨t1, t2, t3, t4⟩ := t
  have z1 := n_nn (n := k) (by omega)
  have z2 : ¬ nI n ≤ nI k := mt (nle (by omega) (by omega)).mp (by omega)
  have z3 : ¬ (1000 : Int32) ≤ nI k := mt (nle (a := 1000) (by decide) (by omega)).mp (by omega)
  have i1 : ixo (nI k) 1000 = true := nix (by omega) (by decide)
  simp only [e_Tp_signAt, b_Tp_signAt_0, b_Tp_signAt_2, b_Tp_signAt_6, b_Tp_signAt_11, b_Tp_signAt_16, b_Tp_signAt_17, z1, z2, z3, i1, xk_109 x, xr_109_0 x, xk_110 x, xn_110 x, t2, cN (show k < 2147483648 by omega), t3 k hk, rtC _ (t4 k hk), mem20, mem21, mem22, al20, al21, al33, al34, al36, al37, al38, aa33, aa34, aa36, aa37, aa38, true_and, and_true, Int32.reduceOfNat, forall_const, true_implies, implies_true, false_implies, not_true_eq_false, not_false_eq_true]
theorem c_Tp_pastBlanks {d : Nat} (f : Nat → Nat) (n q : Nat) (h : AH) (x : XLY h) (t : TPX h f n) (hq : q ≤ n) (nb : q < n → ¬ isB (f q)) (Q : Option Value → AH → Prop) (fin : Q (some (.int (nI q))) h) (x1 : Int32) : ∀ (m k : Nat), k + m = q → (∀ i, k ≤ i → i < q → isB (f i)) → Wp (d + 1) P_Tp_pastBlanks 2 [.ref 109, .int x1, .int (nI k)] [] h Q := by
  have tt := t
  obtain ⟨t1, t2, t3, t4⟩ := t
  intro m
  induction m with
  | zero =>
    intro k e g
    have : k = q := by omega
    subst this
    rw [b_Tp_pastBlanks_2]
    simp only [xk_109 x, t2, b_Tp_pastBlanks_18, true_and]
    refine ⟨fun _ => fin, fun z => ?_⟩
    have hk : k < n := by
      have := mt (nle (a := n) (b := k) (by omega) (by omega)).mpr z
      omega
    have nb' := nb hk
    have c1 : ¬ nI (f k) = 10 := mt (neq (b := 10) (by have := t4 k hk; omega) (by decide)).mp (fun z => nb' (Or.inl z))
    have c2 : ¬ nI (f k) = 32 := mt (neq (b := 32) (by have := t4 k hk; omega) (by decide)).mp (fun z => nb' (Or.inr z))
    simp only [b_Tp_pastBlanks_6, c_Tp_signAt f n k h x tt hk, Option.toList, List.cons_append, List.nil_append, b_Tp_pastBlanks_9, c1, b_Tp_pastBlanks_11, b_Tp_pastBlanks_14, c2, b_Tp_pastBlanks_18, mem20, mem21, mem22, al20, al21, al33, al34, al36, al37, al38, aa33, aa34, aa36, aa37, aa38, true_and, and_true, Int32.reduceOfNat, forall_const, true_implies, implies_true, false_implies, not_true_eq_false, not_false_eq_true]
    exact fin
  | succ m ih =>
    intro k e g
    have hk : k < n := by omega
    have gk := g k (Nat.le_refl _) (by omega)
    have z : ¬ nI n ≤ nI k := mt (nle (by omega) (by omega)).mp (by omega)
    have nxt := ih (k + 1) (by omega) (fun i h1 h2 => g i (by omega) h2)
    rw [b_Tp_pastBlanks_2]
    simp only [xk_109 x, t2, z, b_Tp_pastBlanks_6, c_Tp_signAt f n k h x tt hk, Option.toList, List.cons_append, List.nil_append, b_Tp_pastBlanks_9, b_Tp_pastBlanks_11, b_Tp_pastBlanks_14, b_Tp_pastBlanks_16, nI_1, nxt, mem20, mem21, mem22, al20, al21, al33, al34, al36, al37, al38, aa33, aa34, aa36, aa37, aa38, true_and, and_true, Int32.reduceOfNat, forall_const, true_implies, implies_true, false_implies, not_true_eq_false, not_false_eq_true]
    rcases gk with q1 | q1
    · have c1 : nI (f k) = 10 := by rw [q1]; rfl
      simp [c1]
    · have c1 : nI (f k) = 32 := by rw [q1]; rfl
      simp [c1]
theorem c_Tp_past {d : Nat} (f : Nat → Nat) (n k q : Nat) (h : AH) (x : XLY h) (t : TPX h f n) (hq : q ≤ n) (nb : q < n → ¬ isB (f q)) (hk : k ≤ q) (g : ∀ i, k ≤ i → i < q → isB (f i)) (Q : Option Value → AH → Prop) (fin : Q (some (.int (nI q))) h) : Cl (d + 2) q_Tp_pastBlanks [.ref 109, .int (nI k)] h Q := by
  rw [e_Tp_pastBlanks, b_Tp_pastBlanks_0]
  exact ⟨xk_109 x, c_Tp_pastBlanks f n q h x t hq nb _ ⟨rtI _, fin⟩ _ (q - k) k (by omega) g⟩
theorem c_Tp_addToken {d : Nat} (j : Nat) (a b : Int32) (h : AH) (x : XLY h) (hj : hI h 109 4 = nI j) (hj2 : j < 1001) (Q : Option Value → AH → Prop) : Cl (d + 1) q_Tp_addToken [.ref 109, .int a, .int b] h Q ↔ Q none (sI (sI (sI h 111 j a) 112 j b) 109 4 (nI (j + 1))) := by
  have z1 := n_nn (n := j) (by omega)
  have z3 : ¬ (1001 : Int32) ≤ nI j := mt (nle (a := 1001) (by decide) (by omega)).mp (by omega)
  have i1 : ixo (nI j) 1001 = true := nix (by omega) (by decide)
  simp only [e_Tp_addToken, b_Tp_addToken_0, b_Tp_addToken_3, b_Tp_addToken_9, b_Tp_addToken_15, b_Tp_addToken_33, xk_109 x, xr_109_2 x, xr_109_3 x, xk_111 x, xn_111 x, xk_112 x, xn_112 x, hj, z1, z3, i1, hK_sI, hR_sI, hN_sI, rI_sI (show 109 ≠ 111 by decide), rI_sI (show 109 ≠ 112 by decide), cN (show j < 2147483648 by omega), nI_1, rtV, mem20, mem21, mem22, al20, al21, al33, al34, al36, al37, al38, aa33, aa34, aa36, aa37, aa38, true_and, and_true, Int32.reduceOfNat, forall_const, true_implies, implies_true, false_implies, not_true_eq_false, not_false_eq_true]
/-! the words' texts -/
theorem c_St_length {d L r : Nat} {xs : Nat → Int32} (h : AH) (s : SLY L xs h) (hr : r < 23) (Q : Option Value → AH → Prop) : Cl (d + 2) q_St_length [.ref (27 + r)] h Q ↔ Q (some (.int (nI (bN.getD r []).length))) h := by
  obtain ⟨s1, s2, s3, s4⟩ := s (27 + r) (by omega)
  obtain ⟨u1, u2, u3, u4⟩ := s (51 + r) (by omega)
  have k1 : K0 (27 + r) = 42 := by unfold K0; rw [if_neg (by omega), if_neg (by omega), if_neg (by omega), if_pos (by omega)]
  have k2 : K0 (51 + r) = 45 := by unfold K0; rw [if_neg (by omega), if_neg (by omega), if_neg (by omega), if_neg (by omega), if_pos (by omega)]
  have k3 : R0 (27 + r) 0 = 51 + r := by unfold R0; rw [if_neg (by omega), if_neg (by omega), if_pos (by omega), if_pos rfl]; omega
  have k4 : I0 xs (27 + r) 1 = 0 := by unfold I0; rw [if_neg (by omega), if_neg (by omega), if_neg (by omega)]
  have k5 : N0 L (51 + r) = (bN.getD r []).length := by
    unfold N0
    rw [if_neg (by omega), if_neg (by omega), if_pos (by omega), show 51 + r - 51 = r by omega, (bN_by r hr).1, List.length_map]
  rw [k1] at s1
  rw [k2] at u1
  rw [k5] at u2
  have s3' : hI h (27 + r) 1 = 0 := by rw [s3, k4]
  have s4' : hR h (27 + r) 0 = 51 + r := by rw [s4, k3]
  have sh : nI (bN.getD r []).length >>> ((0 : Int32) &&& 31) = nI (bN.getD r []).length := by
    have : ∀ r, r < 23 → nI (bN.getD r []).length >>> ((0 : Int32) &&& 31) = nI (bN.getD r []).length := by decide +kernel
    exact this r hr
  have al : ((20 : Nat) ≤ 45 ∧ (45 : Nat) ≠ 40 ∧ (45 : Nat) ≠ 42 ∧ (45 : Nat) ≤ 45 ∧ (45 : Nat) ≠ 43) ↔ True := by decide
  have rb : rtk (some .byte) (some (.int 0)) = true := by decide
  have sh' : Int32.ofNat (bN.getD r []).length >>> ((0 : Int32) &&& 31) = nI (bN.getD r []).length := sh
  simp only [e_St_length, b_St_length_0, b_St_length_5, e_St_coder, b_St_coder_0, b_St_coder_2, b_St_coder_5, b_St_coder_6, s1, s3', s4', u1, u2, al, rb, rtI, Option.toList, List.cons_append, List.nil_append, sh', mem20, mem21, mem22, al20, al21, al33, al34, al36, al37, al38, aa33, aa34, aa36, aa37, aa38, true_and, and_true, Int32.reduceOfNat, forall_const, true_implies, implies_true, false_implies, not_true_eq_false, not_false_eq_true, show ¬ (1 : Int32) = 0 by decide]
theorem chr_b : ∀ r, r < 23 → ∀ i, i < (bN.getD r []).length → ((Int32.toUInt32 ((byT.getD r []).getD i 0 &&& 255) % 65536).toInt32) = nI ((bN.getD r []).getD i 0) ∧ (bN.getD r []).getD i 0 < 256 := by decide +kernel
theorem c_St_charAt {d L r i : Nat} {xs : Nat → Int32} (h : AH) (s : SLY L xs h) (hr : r < 23) (hi : i < (bN.getD r []).length) (Q : Option Value → AH → Prop) : Cl (d + 4) q_St_charAt [.ref (27 + r), .int (nI i)] h Q ↔ Q (some (.int (nI ((bN.getD r []).getD i 0)))) h := by
  obtain ⟨s1, s2, s3, s4⟩ := s (27 + r) (by omega)
  obtain ⟨u1, u2, u3, u4⟩ := s (51 + r) (by omega)
  have k1 : K0 (27 + r) = 42 := by unfold K0; rw [if_neg (by omega), if_neg (by omega), if_neg (by omega), if_pos (by omega)]
  have k2 : K0 (51 + r) = 45 := by unfold K0; rw [if_neg (by omega), if_neg (by omega), if_neg (by omega), if_neg (by omega), if_pos (by omega)]
  have k3 : R0 (27 + r) 0 = 51 + r := by unfold R0; rw [if_neg (by omega), if_neg (by omega), if_pos (by omega), if_pos rfl]; omega
  have k4 : I0 xs (27 + r) 1 = 0 := by unfold I0; rw [if_neg (by omega), if_neg (by omega), if_neg (by omega)]
  have k5 : N0 L (51 + r) = (bN.getD r []).length := by
    unfold N0
    rw [if_neg (by omega), if_neg (by omega), if_pos (by omega), show 51 + r - 51 = r by omega, (bN_by r hr).1, List.length_map]
  have k6 : ∀ j, I0 xs (51 + r) j = (byT.getD r []).getD j 0 := by
    intro j
    unfold I0
    rw [if_neg (by omega), if_neg (by omega), if_pos (by omega), show 51 + r - 51 = r by omega]
  rw [k1] at s1
  rw [k2] at u1
  rw [k5] at u2
  have s3' : hI h (27 + r) 1 = 0 := by rw [s3, k4]
  have s4' : hR h (27 + r) 0 = 51 + r := by rw [s4, k3]
  have u3' : hI h (51 + r) i = (byT.getD r []).getD i 0 := by rw [u3, k6]
  have al : ((20 : Nat) ≤ 45 ∧ (45 : Nat) ≠ 40 ∧ (45 : Nat) ≠ 42 ∧ (45 : Nat) ≤ 45 ∧ (45 : Nat) ≠ 43) ↔ True := by decide
  have me : (45 : Nat) ∈ ([22, 45] : List Nat) ↔ True := by decide
  have l8 := (bN_by r hr).2
  have z1 := n_nn (n := i) (by omega)
  have z2 : nI i < Int32.ofNat (bN.getD r []).length := (nlt (by omega) (by omega)).mpr hi
  have i1 : ixo (nI i) (bN.getD r []).length = true := nix hi (by omega)
  obtain ⟨c1, c2⟩ := chr_b r hr i hi
  simp only [e_St_charAt, b_St_charAt_0, b_St_charAt_2, b_St_charAt_3, b_St_charAt_7, e_St_isLatin1, b_St_isLatin1_0, b_St_isLatin1_2, b_St_isLatin1_5, b_St_isLatin1_7, b_St_isLatin1_8, e_L1_charAt, b_L1_charAt_0, b_L1_charAt_4, e_St_checkIndex, b_St_checkIndex_0, b_St_checkIndex_4, e_Pc_checkIndex, b_Pc_checkIndex_0, b_Pc_checkIndex_2, b_Pc_checkIndex_10, s1, s3', s4', u1, u2, u3', al, me, z1, z2, i1, cN (show i < 2147483648 by omega), c1, rtC _ c2, rtI, rtV, rtZ1, Option.toList, List.cons_append, List.nil_append, mem20, mem21, mem22, al20, al21, al33, al34, al36, al37, al38, aa33, aa34, aa36, aa37, aa38, true_and, and_true, Int32.reduceOfNat, forall_const, true_implies, implies_true, false_implies, not_true_eq_false, not_false_eq_true, show ¬ (1 : Int32) = 0 by decide]
theorem w_Tp_spells {d L r : Nat} {xs : Nat → Int32} (f : Nat → Nat) (n p e : Nat) (h : AH) (s : SLY L xs h) (x : XLY h) (t : TPX h f n) (hr : r < 23) (hpe : p ≤ e) (he : e ≤ n) (hl : (bN.getD r []).length = e - p) (Q : Option Value → AH → Prop) (v : Int32) (f1 : SP f p (e - p) r → v = 1) (f2 : ¬ SP f p (e - p) r → v = 0) (fin : Q (some (.int v)) h) : ∀ (m i : Nat), i + m = e - p → (∀ j, j < i → (bN.getD r []).getD j 0 = f (p + j)) → Wp (d + 4) P_Tp_spells 10 [.ref 109, .int (nI p), .int (nI e), .ref (27 + r), .int (nI i)] [] h Q := by
  have hn := t.1
  intro m
  induction m with
  | zero =>
    intro i e1 g
    have : i = e - p := by omega
    subst this
    have z : nI (bN.getD r []).length ≤ nI (e - p) := (nle (by omega) (by omega)).mpr (by omega)
    have := f1 (SP_iff.mpr ⟨hl, g⟩)
    subst this
    rw [b_Tp_spells_10]
    simp only [c_St_length h s hr, Option.toList, List.cons_append, List.nil_append, b_Tp_spells_13, z, b_Tp_spells_27, mem20, mem21, mem22, al20, al21, al33, al34, al36, al37, al38, aa33, aa34, aa36, aa37, aa38, true_and, and_true, Int32.reduceOfNat, forall_const, true_implies, implies_true, false_implies, not_true_eq_false, not_false_eq_true]
    exact fin
  | succ m ih =>
    intro i e1 g
    have z : ¬ nI (bN.getD r []).length ≤ nI i := mt (nle (by omega) (by omega)).mp (by omega)
    have e2 : nI p + nI i = nI (p + i) := nadd p i
    have hf := t.2.2.2 (p + i) (by omega)
    have hb := (chr_b r hr i (by omega)).2
    have ec : nI ((bN.getD r []).getD i 0) = nI (f (p + i)) ↔ (bN.getD r []).getD i 0 = f (p + i) := neq (by omega) (by omega)
    rw [b_Tp_spells_10]
    simp only [c_St_length h s hr, Option.toList, List.cons_append, List.nil_append, b_Tp_spells_13, z, b_Tp_spells_14, c_St_charAt h s hr (show i < (bN.getD r []).length by omega), b_Tp_spells_17, e2, c_Tp_signAt f n (p + i) h x t (by omega), b_Tp_spells_22, b_Tp_spells_23, b_Tp_spells_25, ec, nI_1, mem20, mem21, mem22, al20, al21, al33, al34, al36, al37, al38, aa33, aa34, aa36, aa37, aa38, true_and, and_true, Int32.reduceOfNat, forall_const, true_implies, implies_true, false_implies, not_true_eq_false, not_false_eq_true]
    by_cases q : (bN.getD r []).getD i 0 = f (p + i)
    · simp only [q, mem20, mem21, mem22, al20, al21, al33, al34, al36, al37, al38, aa33, aa34, aa36, aa37, aa38, true_and, and_true, Int32.reduceOfNat, forall_const, true_implies, implies_true, false_implies, not_true_eq_false, not_false_eq_true]
      refine ih (i + 1) (by omega) (fun j hj => ?_)
      by_cases qj : j = i
      · rw [qj]; exact q
      · exact g j (by omega)
    · have := f2 (fun z => q ((SP_iff.mp z).2 i (by omega)))
      subst this
      simp only [q, mem20, mem21, mem22, al20, al21, al33, al34, al36, al37, al38, aa33, aa34, aa36, aa37, aa38, true_and, and_true, Int32.reduceOfNat, forall_const, true_implies, implies_true, false_implies, not_true_eq_false, not_false_eq_true]
      exact fin
theorem c_Tp_spells {d L r : Nat} {xs : Nat → Int32} (f : Nat → Nat) (n p e : Nat) (h : AH) (s : SLY L xs h) (x : XLY h) (t : TPX h f n) (hr : r < 23) (hpe : p ≤ e) (he : e ≤ n) (Q : Option Value → AH → Prop) (v : Int32) (f1 : SP f p (e - p) r → v = 1) (f2 : ¬ SP f p (e - p) r → v = 0) (fin : Q (some (.int v)) h) : Cl (d + 5) q_Tp_spells [.ref 109, .int (nI p), .int (nI e), .ref (27 + r)] h Q := by
  have hn := t.1
  have v01 : rtk (some .boolean) (some (.int v)) = true := by
    by_cases q : SP f p (e - p) r
    · rw [f1 q]; exact rtZ1
    · rw [f2 q]; exact rtZ0
  have l8 := (bN_by r hr).2
  have e1 : nI e - nI p = nI (e - p) := nsub hpe
  have ec : nI (bN.getD r []).length = nI (e - p) ↔ (bN.getD r []).length = e - p := neq (by omega) (by omega)
  rw [e_Tp_spells, b_Tp_spells_0]
  simp only [xk_109 x, c_St_length h s hr, Option.toList, List.cons_append, List.nil_append, b_Tp_spells_2, b_Tp_spells_6, b_Tp_spells_8, e1, ec, mem20, mem21, mem22, al20, al21, al33, al34, al36, al37, al38, aa33, aa34, aa36, aa37, aa38, true_and, and_true, Int32.reduceOfNat, forall_const, true_implies, implies_true, false_implies, not_true_eq_false, not_false_eq_true]
  refine ⟨fun hl => ?_, fun hl => ?_⟩
  · exact w_Tp_spells f n p e h s x t hr hpe he hl _ v f1 f2 ⟨v01, fin⟩ (e - p) 0 (by omega) (fun j hj => by omega)
  · have := f2 (fun z => hl (SP_iff.mp z).1)
    subst this
    exact ⟨rtZ0, fin⟩
theorem w_Tp_row {d L : Nat} {xs : Nat → Int32} (f : Nat → Nat) (n p e rw' : Nat) (h : AH) (s : SLY L xs h) (x : XLY h) (t : TPX h f n) (hpe : p ≤ e) (he : e ≤ n) (g : RWD f p (e - p) rw') (Q : Option Value → AH → Prop) (fin : Q (some (.int (nI rw'))) h) : ∀ (m r : Nat), r + m = rw' → Wp (d + 5) P_Tp_rowOfWord 7 [.ref 109, .int (nI p), .int (nI e), .int (nI 23), .int (nI r)] [] h Q := by
  have wd : ∀ r, r < 23 → hR h 26 r = 2 + r ∧ hK h (2 + r) = 40 ∧ hR h (2 + r) 0 = 27 + r := by
    intro r hr
    obtain ⟨s1, s2, s3, s4⟩ := s 26 (by omega)
    obtain ⟨u1, u2, u3, u4⟩ := s (2 + r) (by omega)
    refine ⟨by rw [s4]; rfl, ?_, ?_⟩
    · rw [u1]; unfold K0; rw [if_neg (by omega), if_pos (by omega)]
    · rw [u4]; unfold R0; rw [if_pos (by omega), if_pos rfl]; omega
  obtain ⟨s1, s2, s3, s4⟩ := s 26 (by omega)
  have k26 : hK h 26 = 41 := s1
  have n26 : hN h 26 = 24 := s2
  have aa : ((30 : Nat) ≤ 41 ∧ (41 : Nat) ≤ 41 ∧ (41 : Nat) ≠ 40) ↔ True := by decide
  intro m
  induction m with
  | zero =>
    intro r e1
    have : r = rw' := by omega
    subst this
    rw [b_Tp_rowOfWord_7]
    by_cases q : r < 23
    · have z : ¬ nI 23 ≤ nI r := mt (nle (by decide) (by omega)).mp (by omega)
      obtain ⟨w1, w2, w3⟩ := wd r q
      have i1 : ixo (nI r) 24 = true := nix (by omega) (by decide)
      simp only [z, b_Tp_rowOfWord_10, k26, n26, aa, i1, cN (show r < 2147483648 by omega), w1, w2, w3, mem20, mem21, mem22, al20, al21, al33, al34, al36, al37, al38, aa33, aa34, aa36, aa37, aa38, true_and, and_true, Int32.reduceOfNat, forall_const, true_implies, implies_true, false_implies, not_true_eq_false, not_false_eq_true]
      refine c_Tp_spells f n p e h s x t q hpe he _ 1 (fun _ => rfl) (fun z => absurd (g.2.1 q) z) ?_
      simp only [Option.toList, List.cons_append, List.nil_append, b_Tp_rowOfWord_18, b_Tp_rowOfWord_19, show ¬ (1 : Int32) = 0 by decide, mem20, mem21, mem22, al20, al21, al33, al34, al36, al37, al38, aa33, aa34, aa36, aa37, aa38, true_and, and_true, Int32.reduceOfNat, forall_const, true_implies, implies_true, false_implies, not_true_eq_false, not_false_eq_true]
      exact fin
    · have : r = 23 := by have := g.1; omega
      subst this
      simp only [Int32.le_refl, b_Tp_rowOfWord_23, mem20, mem21, mem22, al20, al21, al33, al34, al36, al37, al38, aa33, aa34, aa36, aa37, aa38, true_and, and_true, Int32.reduceOfNat, forall_const, true_implies, implies_true, false_implies, not_true_eq_false, not_false_eq_true]
      exact fin
  | succ m ih =>
    intro r e1
    have hr : r < 23 := by have := g.1; omega
    have z : ¬ nI 23 ≤ nI r := mt (nle (by decide) (by omega)).mp (by omega)
    obtain ⟨w1, w2, w3⟩ := wd r hr
    have i1 : ixo (nI r) 24 = true := nix (by omega) (by decide)
    rw [b_Tp_rowOfWord_7]
    simp only [z, b_Tp_rowOfWord_10, k26, n26, aa, i1, cN (show r < 2147483648 by omega), w1, w2, w3, mem20, mem21, mem22, al20, al21, al33, al34, al36, al37, al38, aa33, aa34, aa36, aa37, aa38, true_and, and_true, Int32.reduceOfNat, forall_const, true_implies, implies_true, false_implies, not_true_eq_false, not_false_eq_true]
    refine c_Tp_spells f n p e h s x t hr hpe he _ 0 (fun z => absurd z (g.2.2 r (by omega))) (fun _ => rfl) ?_
    simp only [Option.toList, List.cons_append, List.nil_append, b_Tp_rowOfWord_18, b_Tp_rowOfWord_21, nI_1, mem20, mem21, mem22, al20, al21, al33, al34, al36, al37, al38, aa33, aa34, aa36, aa37, aa38, true_and, and_true, Int32.reduceOfNat, forall_const, true_implies, implies_true, false_implies, not_true_eq_false, not_false_eq_true]
    exact ih (r + 1) (by omega)
theorem c_Tp_row {d L : Nat} {xs : Nat → Int32} (f : Nat → Nat) (n p e rw' : Nat) (h : AH) (s : SLY L xs h) (x : XLY h) (t : TPX h f n) (hpe : p ≤ e) (he : e ≤ n) (g : RWD f p (e - p) rw') (Q : Option Value → AH → Prop) (fin : Q (some (.int (nI rw'))) h) : Cl (d + 6) q_Tp_rowOfWord [.ref 109, .int (nI p), .int (nI e)] h Q := by
  obtain ⟨s1, s2, s3, s4⟩ := s 26 (by omega)
  have k26 : hK h 26 = 41 := s1
  have n26 : hN h 26 = 24 := s2
  have al : ((20 : Nat) ≤ 41 ∧ (41 : Nat) ≠ 40 ∧ (41 : Nat) ≠ 42 ∧ (41 : Nat) ≤ 45 ∧ (41 : Nat) ≠ 43) ↔ True := by decide
  rw [e_Tp_rowOfWord, b_Tp_rowOfWord_0]
  simp only [xk_109 x, k26, n26, al, true_and, Int32.reduceOfNat, show (24 : Int32) - 1 = nI 23 by decide]
  exact w_Tp_row f n p e rw' h s x t hpe he g _ ⟨rtI _, fin⟩ rw' 0 (by omega)
