--deps: 9c.cut
/-! THE TAPE CUT, ON THE SIDE OF THE REFERENCE -/
def rwT : List Nat := [18, 19, 20, 21, 22, 16, 17, 15, 0, 1, 2, 3, 4, 8, 9, 10, 11, 12, 13, 14, 6, 7, 5]
def rwo (w : Nat) : Nat := rwT.getD w 0
def hr : List Nat → Nat
  | [] => 0
  | c :: l => 37 * hr l + (c - 96)
theorem hr_inj : ∀ (a b : List Nat), (∀ c ∈ a, isL c) → (∀ c ∈ b, isL c) → hr a = hr b → a = b
  | [], [], _, _, _ => rfl
  | [], c :: b, _, h2, e => by
    have := h2 c (by simp)
    have e' : 0 = 37 * hr b + (c - 96) := e
    unfold isL at this
    omega
  | c :: a, [], h1, _, e => by
    have := h1 c (by simp)
    have e' : 37 * hr a + (c - 96) = 0 := e
    unfold isL at this
    omega
  | c :: a, c' :: b, h1, h2, e => by
    have q1 := h1 c (by simp)
    have q2 := h2 c' (by simp)
    have e' : 37 * hr a + (c - 96) = 37 * hr b + (c' - 96) := e
    unfold isL at q1 q2
    have e3 : c = c' := by omega
    have e4 : hr a = hr b := by omega
    rw [e3, hr_inj a b (fun x hx => h1 x (by simp [hx])) (fun x hx => h2 x (by simp [hx])) e4]
def hv (f : Nat → Nat) (p : Nat) : Nat → Nat
  | 0 => 0
  | k + 1 => 37 * hv f p k + (f (p + k) - 96)
theorem hv_hr (f : Nat → Nat) (p : Nat) : ∀ k, hv f p k = hr (wl f p k).reverse
  | 0 => rfl
  | k + 1 => by
    rw [wl_s, List.reverse_append]
    show 37 * hv f p k + (f (p + k) - 96) = 37 * hr (wl f p k).reverse + (f (p + k) - 96)
    rw [hv_hr f p k]
theorem hv_lt {f : Nat → Nat} {p : Nat} : ∀ (k : Nat), (∀ i, p ≤ i → i < p + k → isL (f i)) → hv f p k < 37 ^ k
  | 0, _ => Nat.one_pos
  | k + 1, h => by
    have := hv_lt (f := f) (p := p) k (fun i h1 h2 => h i h1 (by omega))
    have h2 := h (p + k) (by omega) (by omega)
    show 37 * hv f p k + (f (p + k) - 96) < 37 ^ (k + 1)
    rw [Nat.pow_succ]
    unfold isL at h2
    omega
theorem wd_hr : ∀ w, w < 23 → rwo w < 23 ∧ wdT.getD w 0 = hr (bN.getD (rwo w) []).reverse ∧ wdT.getD w 0 < 37 ^ 8 := by decide +kernel
theorem lN_inj {a b : Nat} (ha : a < 2 ^ 62) (hb : b < 2 ^ 62) : lN a = lN b ↔ a = b := by
  constructor
  · intro e
    have := congrArg Int64.toInt e
    unfold lN at this
    rw [lg_ofNat_toInt (by omega), lg_ofNat_toInt (by omega)] at this
    omega
  · exact fun e => by rw [e]
theorem word_iff {f : Nat → Nat} {p k rw' w : Nat} (hk : k ≤ 8) (hw : w < 23) (g : ∀ i, p ≤ i → i < p + k → isL (f i)) (r : RWD f p k rw') : lN (hv f p k) = lN (wdT.getD w 0) ↔ 10000 + rw' = 10000 + rwo w := by
  obtain ⟨w1, w2, w3⟩ := wd_hr w hw
  have h8 : (37 : Nat) ^ 8 < 2 ^ 62 := by decide
  have hl := hv_lt k g
  have hp : (37 : Nat) ^ k ≤ 37 ^ 8 := Nat.pow_le_pow_right (by decide) hk
  rw [lN_inj (by omega) (by omega), w2, hv_hr]
  have LL : ∀ c ∈ (wl f p k).reverse, isL c := by
    intro c hc
    rw [List.mem_reverse] at hc
    unfold wl at hc
    obtain ⟨i, hi, rfl⟩ := List.mem_map.mp hc
    rw [List.mem_range] at hi
    exact g (p + i) (by omega) (by omega)
  have LB : ∀ c ∈ (bN.getD (rwo w) []).reverse, isL c := fun c hc => bN_L _ w1 c (List.mem_reverse.mp hc)
  constructor
  · intro e
    have e2 := hr_inj _ _ LL LB e
    have sp : SP f p k (rwo w) := by
      unfold SP
      have := congrArg List.reverse e2
      rw [List.reverse_reverse, List.reverse_reverse] at this
      exact this.symm
    obtain ⟨r1, r2, r3⟩ := r
    by_cases q1 : rwo w < rw'
    · exact absurd sp (r3 _ q1)
    · have q2 : rw' < 23 := by omega
      have := bN_ne rw' q2 (rwo w) w1 ((r2 q2).trans sp.symm)
      omega
  · intro e
    have e' : rw' = rwo w := by omega
    subst e'
    have sp : SP f p k (rwo w) := r.2.1 w1
    unfold SP at sp
    rw [sp]
/-- a token as the reference holds it -/
def TV (t : Nat) (s : Int32) (v : Int64) : Prop := (t ≤ 9999 → s = 2 ∧ v = lN t) ∧ (10000 ≤ t ∧ t ≤ 10023 → s = 1 ∧ ∀ w, w < 23 → (v = lN (wdT.getD w 0) ↔ t = 10000 + rwo w)) ∧ (11000 ≤ t ∧ t < 12000 → s = 3 ∧ v = lN (t - 11000)) ∧ (t = 12000 → s = 0) ∧ (t = 13000 → s = 4)
theorem TV_num {t : Nat} (h : t ≤ 9999) : TV t 2 (lN t) := ⟨fun _ => ⟨rfl, rfl⟩, fun z => by omega, fun z => by omega, fun z => by omega, fun z => by omega⟩
theorem TV_word {r : Nat} {v : Int64} (h : r ≤ 23) (g : ∀ w, w < 23 → (v = lN (wdT.getD w 0) ↔ 10000 + r = 10000 + rwo w)) : TV (10000 + r) 1 v := ⟨fun z => by omega, fun _ => ⟨rfl, g⟩, fun z => by omega, fun z => by omega, fun z => by omega⟩
theorem TV_sign {c : Nat} (h : c < 1000) : TV (11000 + c) 3 (lN c) := ⟨fun z => by omega, fun z => by omega, fun _ => ⟨rfl, by rw [Nat.add_sub_cancel_left]⟩, fun z => by omega, fun z => by omega⟩
theorem TV_end {v : Int64} : TV 12000 0 v := ⟨fun z => by omega, fun z => by omega, fun z => by omega, fun _ => rfl, fun z => by omega⟩
theorem TV_bad {v : Int64} : TV 13000 4 v := ⟨fun z => by omega, fun z => by omega, fun z => by omega, fun z => by omega, fun _ => rfl⟩
theorem c_M_isLetter {d : Nat} (c : Nat) (hc : c < 256) (h : AH) (Q : Option Value → AH → Prop) : Cl (d + 1) q_M_isLetter [.int (nI c)] h Q ↔ Q (some (.int (if isL c then 1 else 0))) h := by
  have a1 : nI c < 97 ↔ c < 97 := nlt (b := 97) (by omega) (by decide)
  have a2 : 122 < nI c ↔ 122 < c := nlt (a := 122) (by decide) (by omega)
  simp only [e_M_isLetter, b_M_isLetter_0, b_M_isLetter_3, b_M_isLetter_6, b_M_isLetter_8, b_M_isLetter_9, a1, a2]
  by_cases q1 : c < 97
  · have : ¬ isL c := by unfold isL; omega
    rw [if_neg this]
    simp [q1, rtZ0]
  · by_cases q2 : 122 < c
    · have : ¬ isL c := by unfold isL; omega
      rw [if_neg this]
      simp [q1, q2, rtZ0]
    · have : isL c := by unfold isL; omega
      rw [if_pos this]
      simp [q1, q2, rtZ1]
theorem c_M_isDigit {d : Nat} (c : Nat) (hc : c < 256) (h : AH) (Q : Option Value → AH → Prop) : Cl (d + 1) q_M_isDigit [.int (nI c)] h Q ↔ Q (some (.int (if isD c then 1 else 0))) h := by
  have a1 : nI c < 48 ↔ c < 48 := nlt (b := 48) (by omega) (by decide)
  have a2 : 57 < nI c ↔ 57 < c := nlt (a := 57) (by decide) (by omega)
  simp only [e_M_isDigit, b_M_isDigit_0, b_M_isDigit_3, b_M_isDigit_6, b_M_isDigit_8, b_M_isDigit_9, a1, a2]
  by_cases q1 : c < 48
  · have : ¬ isD c := by unfold isD; omega
    rw [if_neg this]
    simp [q1, rtZ0]
  · by_cases q2 : 57 < c
    · have : ¬ isD c := by unfold isD; omega
      rw [if_neg this]
      simp [q1, q2, rtZ0]
    · have : isD c := by unfold isD; omega
      rw [if_pos this]
      simp [q1, q2, rtZ1]
theorem c_M_rank {d : Nat} (c : Nat) (hc : c < 256) (hl : isL c) (h : AH) (Q : Option Value → AH → Prop) : Cl (d + 2) q_M_rank [.int (nI c)] h Q ↔ Q (some (.int (nI (c - 96)))) h := by
  have e1 : nI c - 96 = nI (c - 96) := nsub (b := 96) (by unfold isL at hl; omega)
  simp only [e_M_rank, b_M_rank_0, b_M_rank_2, b_M_rank_3, b_M_rank_10, c_M_isLetter c hc, if_pos hl, e1, Option.toList, List.cons_append, List.nil_append, rtI, mem20, mem21, mem22, al20, al21, al33, al34, al36, al37, al38, aa33, aa34, aa36, aa37, aa38, true_and, and_true, Int32.reduceOfNat, forall_const, true_implies, implies_true, false_implies, not_true_eq_false, not_false_eq_true, show ¬ (1 : Int32) = 0 by decide]
theorem c_M_isSignOf {d : Nat} (c : Nat) (hc : c < 256) (h : AH) (Q : Option Value → AH → Prop) : Cl (d + 1) q_M_isSignOf [.int (nI c)] h Q ↔ Q (some (.int (if isS c then 1 else 0))) h := by
  have a : ∀ k : Nat, k < 256 → (nI c = nI k ↔ c = k) := fun k hk => neq (by omega) (by omega)
  have a1 : nI c = 40 ↔ c = 40 := a 40 (by decide)
  have a2 : nI c = 41 ↔ c = 41 := a 41 (by decide)
  have a3 : nI c = 60 ↔ c = 60 := a 60 (by decide)
  have a4 : nI c = 61 ↔ c = 61 := a 61 (by decide)
  have a5 : nI c = 43 ↔ c = 43 := a 43 (by decide)
  have a6 : nI c = 45 ↔ c = 45 := a 45 (by decide)
  have a7 : nI c = 42 ↔ c = 42 := a 42 (by decide)
  have a8 : nI c = 59 ↔ c = 59 := a 59 (by decide)
  simp only [e_M_isSignOf, b_M_isSignOf_0, b_M_isSignOf_3, b_M_isSignOf_6, b_M_isSignOf_9, b_M_isSignOf_12, b_M_isSignOf_15, b_M_isSignOf_18, b_M_isSignOf_21, b_M_isSignOf_24, b_M_isSignOf_26, b_M_isSignOf_27, a1, a2, a3, a4, a5, a6, a7, a8]
  by_cases q : isS c
  · rw [if_pos q]
    rcases q with rfl | rfl | rfl | rfl | rfl | rfl | rfl | rfl <;> simp [rtZ1]
  · rw [if_neg q]
    have q' := q
    unfold isS at q'
    simp only [not_or] at q'
    simp [q', rtZ0]
/-- the tape of the reference while it is cut -/
def TPM (h : AH) (f : Nat → Nat) (n : Nat) : Prop := n ≤ 1000 ∧ hI h 342 3 = nI n ∧ (∀ i, i < n → hI h 343 i = nI (f i)) ∧ ∀ i, i < n → f i < 256
theorem TPM.fr {h h' : AH} {f : Nat → Nat} {n : Nat} (t : TPM h f n) (e1 : hI h' 342 3 = hI h 342 3) (e2 : hI h' 343 = hI h 343) : TPM h' f n := ⟨t.1, e1.trans t.2.1, fun i hi => by rw [e2]; exact t.2.2.1 i hi, t.2.2.2⟩
theorem w_M_cutW {d : Nat} (f : Nat → Nat) (n p e j : Nat) (x3 : Int32) (h : AH) (m0 : MLY h) (t : TPM h f n) (he : e ≤ n) (nb : e < n → ¬ isL (f e)) (Q : Option Value → AH → Prop) (fin : Wp (d + 2) P_M_cutAll 70 [.ref 342, .int (nI j), .int (nI e), .int x3, .int (nI p), .long (lN (hv f p (min (e - p) 8))), .null] [] h Q) : ∀ (m k : Nat), p ≤ k → k + m = e → (∀ i, k ≤ i → i < e → isL (f i)) → Wp (d + 2) P_M_cutAll 40 [.ref 342, .int (nI j), .int (nI k), .int x3, .int (nI p), .long (lN (hv f p (min (k - p) 8))), .null] [] h Q := by
  have tt := t
  obtain ⟨t1, t2, t3, t4⟩ := t
  intro m
  induction m with
  | zero =>
    intro k hp e1 g
    have : k = e := by omega
    subst this
    rw [b_M_cutAll_40]
    simp only [mo m0, t2, true_and]
    refine ⟨fun _ => fin, fun z => ?_⟩
    have hk : k < n := by
      have := mt (nle (a := n) (b := k) (by omega) (by omega)).mpr z
      omega
    have i1 : ixo (nI k) 1000 = true := nix (by omega) (by decide)
    simp only [b_M_cutAll_44, mo m0, mr_1 m0, mk_343 m0, mn_343 m0, i1, cN (show k < 2147483648 by omega), t3 k hk, c_M_isLetter _ (t4 k hk), Option.toList, List.cons_append, List.nil_append, b_M_cutAll_49, if_neg (nb hk), mem20, mem21, mem22, al20, al21, al33, al34, al36, al37, al38, aa33, aa34, aa36, aa37, aa38, true_and, and_true, Int32.reduceOfNat, forall_const, true_implies, implies_true, false_implies, not_true_eq_false, not_false_eq_true]
    exact fin
  | succ m ih =>
    intro k hp e1 g
    have hk : k < n := by omega
    have z : ¬ nI n ≤ nI k := mt (nle (by omega) (by omega)).mp (by omega)
    have i1 : ixo (nI k) 1000 = true := nix (by omega) (by decide)
    have gk := g k (Nat.le_refl _) (by omega)
    have es : nI k - nI p = nI (k - p) := nsub hp
    have c8 : 8 ≤ nI (k - p) ↔ 8 ≤ k - p := nle (a := 8) (by decide) (by omega)
    have nxt := ih (k + 1) (by omega) (by omega) (fun i h1 h2 => g i (by omega) h2)
    rw [b_M_cutAll_40]
    simp only [mo m0, t2, z, b_M_cutAll_44, mr_1 m0, mk_343 m0, mn_343 m0, i1, cN (show k < 2147483648 by omega), t3 k hk, c_M_isLetter _ (t4 k hk), Option.toList, List.cons_append, List.nil_append, b_M_cutAll_49, if_pos gk, b_M_cutAll_50, es, c8, b_M_cutAll_66, b_M_cutAll_55, c_M_rank _ (t4 k hk) gk, b_M_cutAll_63, b_M_cutAll_67, nI_1, mem20, mem21, mem22, al20, al21, al33, al34, al36, al37, al38, aa33, aa34, aa36, aa37, aa38, true_and, and_true, Int32.reduceOfNat, forall_const, true_implies, implies_true, false_implies, not_true_eq_false, not_false_eq_true, show ¬ (1 : Int32) = 0 by decide]
    refine ⟨fun q => ?_, fun q => ?_⟩
    · rw [show min (k + 1 - p) 8 = min (k - p) 8 by omega] at nxt
      exact nxt
    · have e2 : (37 : Int64) * lN (hv f p (min (k - p) 8)) + Int32.toInt64 (nI (f k - 96)) = lN (hv f p (min (k + 1 - p) 8)) := by
        rw [nI_l (by have := t4 k hk; omega), show (37 : Int64) = lN 37 from rfl, lmul, ladd, show min (k + 1 - p) 8 = min (k - p) 8 + 1 by omega]
        congr 1
        show _ = 37 * hv f p (min (k - p) 8) + (f (p + min (k - p) 8) - 96)
        rw [show p + min (k - p) 8 = k by omega]
      rw [e2]
      exact nxt
theorem w_M_cutD {d : Nat} (f : Nat → Nat) (n p e j : Nat) (x3 : Int32) (h : AH) (m0 : MLY h) (t : TPM h f n) (he : e ≤ n) (nb : e < n → ¬ isD (f e)) (Q : Option Value → AH → Prop) (fin : Wp (d + 2) P_M_cutAll 117 [.ref 342, .int (nI j), .int (nI e), .int x3, .int (nI p), .long (lN (dv f p (min (e - p) 4))), .null] [] h Q) : ∀ (m k : Nat), p ≤ k → k + m = e → (∀ i, k ≤ i → i < e → isD (f i)) → Wp (d + 2) P_M_cutAll 86 [.ref 342, .int (nI j), .int (nI k), .int x3, .int (nI p), .long (lN (dv f p (min (k - p) 4))), .null] [] h Q := by
  have tt := t
  obtain ⟨t1, t2, t3, t4⟩ := t
  intro m
  induction m with
  | zero =>
    intro k hp e1 g
    have : k = e := by omega
    subst this
    rw [b_M_cutAll_86]
    simp only [mo m0, t2, true_and]
    refine ⟨fun _ => fin, fun z => ?_⟩
    have hk : k < n := by
      have := mt (nle (a := n) (b := k) (by omega) (by omega)).mpr z
      omega
    have i1 : ixo (nI k) 1000 = true := nix (by omega) (by decide)
    simp only [b_M_cutAll_90, mo m0, mr_1 m0, mk_343 m0, mn_343 m0, i1, cN (show k < 2147483648 by omega), t3 k hk, c_M_isDigit _ (t4 k hk), Option.toList, List.cons_append, List.nil_append, b_M_cutAll_95, if_neg (nb hk), mem20, mem21, mem22, al20, al21, al33, al34, al36, al37, al38, aa33, aa34, aa36, aa37, aa38, true_and, and_true, Int32.reduceOfNat, forall_const, true_implies, implies_true, false_implies, not_true_eq_false, not_false_eq_true]
    exact fin
  | succ m ih =>
    intro k hp e1 g
    have hk : k < n := by omega
    have z : ¬ nI n ≤ nI k := mt (nle (by omega) (by omega)).mp (by omega)
    have i1 : ixo (nI k) 1000 = true := nix (by omega) (by decide)
    have gk := g k (Nat.le_refl _) (by omega)
    have es : nI k - nI p = nI (k - p) := nsub hp
    have c8 : 4 ≤ nI (k - p) ↔ 4 ≤ k - p := nle (a := 4) (by decide) (by omega)
    have nxt := ih (k + 1) (by omega) (by omega) (fun i h1 h2 => g i (by omega) h2)
    rw [b_M_cutAll_86]
    simp only [mo m0, t2, z, b_M_cutAll_90, mr_1 m0, mk_343 m0, mn_343 m0, i1, cN (show k < 2147483648 by omega), t3 k hk, c_M_isDigit _ (t4 k hk), Option.toList, List.cons_append, List.nil_append, b_M_cutAll_95, if_pos gk, b_M_cutAll_96, es, c8, b_M_cutAll_113, b_M_cutAll_101, b_M_cutAll_114, nI_1, mem20, mem21, mem22, al20, al21, al33, al34, al36, al37, al38, aa33, aa34, aa36, aa37, aa38, true_and, and_true, Int32.reduceOfNat, forall_const, true_implies, implies_true, false_implies, not_true_eq_false, not_false_eq_true, show ¬ (1 : Int32) = 0 by decide]
    refine ⟨fun q => ?_, fun q => ?_⟩
    · rw [show min (k + 1 - p) 4 = min (k - p) 4 by omega] at nxt
      exact nxt
    · have e2 : (10 : Int64) * lN (dv f p (min (k - p) 4)) + Int32.toInt64 (nI (f k)) - 48 = lN (dv f p (min (k + 1 - p) 4)) := by
        unfold isD at gk
        rw [nI_l (by have := t4 k hk; omega), show (10 : Int64) = lN 10 from rfl, lmul, ladd, show (48 : Int64) = lN 48 from rfl, lN_sub (by omega), show min (k + 1 - p) 4 = min (k - p) 4 + 1 by omega]
        congr 1
        show _ = 10 * dv f p (min (k - p) 4) + (f (p + min (k - p) 4) - 48)
        rw [show p + min (k - p) 4 = k by omega]
        omega
      rw [e2]
      exact nxt
/-- the first j tokens, as the reference holds them -/
def TKM (h : AH) (ts : List (Nat × Nat)) (j : Nat) : Prop := ∀ i, i < j → TV (tc ts i) (hI h 344 i) (hJ h 346 i) ∧ hI h 345 i = nI (tp ts i)
def mts : Nat → Prop := fun a => a = 344 ∨ a = 345
def mk3 (h : AH) (j p : Nat) (s : Int32) (v : Int64) : AH := sJ (sI (sI h 345 j (nI p)) 344 j s) 346 j v
theorem mk3_fr {h0 h : AH} {j p : Nat} {s : Int32} {v : Int64} (fr : Fr mts (onl 346) h0 h) : Fr mts (onl 346) h0 (mk3 h j p s v) := ((fr.sI (Or.inr rfl)).sI (Or.inl rfl)).sJ rfl (by decide)
theorem TKM_push {h : AH} {ts : List (Nat × Nat)} {j p : Nat} {s : Int32} {v : Int64} (t : TKM h ts j) (e1 : TV (tc ts j) s v) (e2 : tp ts j = p) : TKM (mk3 h j p s v) ts (j + 1) := by
  intro i hi
  unfold mk3
  rw [hI_sJ, hI_same, hJ_same, hJ_sI, hJ_sI, rI_sI (show 344 ≠ 345 by decide), rI_sI (show 345 ≠ 344 by decide), hI_same]
  by_cases q : i = j
  · rw [if_pos q, if_pos q, if_pos q, q, e2]; exact ⟨e1, rfl⟩
  · rw [if_neg q, if_neg q, if_neg q]; exact t i (by omega)
theorem w_M_cutT {d : Nat} (f : Nat → Nat) (n p e c j : Nat) (v3 v4 v5 : Value) (h : AH) (m0 : MLY h) (t : TPM h f n) (tk : TOK f n p e c) (nb : ¬ isB (f p)) (hj : j < 1002) (Q : Option Value → AH → Prop) (fin : ∀ s v w3 w4 w5, TV c s v → Wp (d + 2) P_M_cutAll 11 [.ref 342, .int (nI (j + 1)), .int (nI e), w3, w4, w5, .null] [] (mk3 h j p s v) Q) : Wp (d + 2) P_M_cutAll 11 [.ref 342, .int (nI j), .int (nI p), v3, v4, v5, .null] [] h Q := by
  have tt := t
  obtain ⟨t1, t2, t3, t4⟩ := t
  obtain ⟨k1, k2, k3⟩ := tk
  have hp : p < n := by omega
  have hf := t4 p hp
  have z : ¬ nI n ≤ nI p := mt (nle (by omega) (by omega)).mp (by omega)
  have i1 : ixo (nI p) 1000 = true := nix (by omega) (by decide)
  have i2 : ixo (nI j) 1002 = true := nix (by omega) (by decide)
  have c1 : ¬ nI (f p) = 10 := mt (neq (b := 10) (by omega) (by decide)).mp (fun z => nb (Or.inl z))
  have c2 : ¬ nI (f p) = 32 := mt (neq (b := 32) (by omega) (by decide)).mp (fun z => nb (Or.inr z))
  have es : nI e - nI p = nI (e - p) := nsub (by omega)
  have h1m : MLY (sI h 345 j (nI p)) := m0.fr (S := onl 345) (T := nov) (Fs1 Fr.rfl')
  have h1t : TPM (sI h 345 j (nI p)) f n := tt.fr (by rw [rI_sI (by decide)]) (rI_sI (by decide))
  have mz : lN 0 = 0 := rfl
  -- behind the kinds
  have put : ∀ (s : Int32) (v : Int64) (x3 : Int32), TV c s v → Wp (d + 2) P_M_cutAll 144 [.ref 342, .int (nI j), .int (nI e), .int x3, .int (nI p), .long v, .null] [] (sI (sI h 345 j (nI p)) 344 j s) Q := by
    intro s v x3 hv'
    have m2 : MLY (sI (sI h 345 j (nI p)) 344 j s) := h1m.fr (S := onl 344) (T := nov) (Fs1 Fr.rfl')
    rw [b_M_cutAll_144]
    simp only [mo m2, mr_6 m2, mk_346 m2, mn_346 m2, i2, cN (show j < 2147483648 by omega), nI_1, true_and]
    exact fin s v _ _ _ hv'
  rw [b_M_cutAll_11]
  simp only [mo m0, t2, z, b_M_cutAll_15, mr_1 m0, mk_343 m0, mn_343 m0, i1, cN (show p < 2147483648 by omega), t3 p hp, c1, b_M_cutAll_23, c2, b_M_cutAll_28, mr_5 m0, mk_345 m0, mn_345 m0, i2, cN (show j < 2147483648 by omega), c_M_isLetter _ hf, Option.toList, List.cons_append, List.nil_append, b_M_cutAll_39, mem20, mem21, mem22, al20, al21, al33, al34, al36, al37, al38, aa33, aa34, aa36, aa37, aa38, true_and, and_true, Int32.reduceOfNat, forall_const, true_implies, implies_true, false_implies, not_true_eq_false, not_false_eq_true]
  rcases k3 with ⟨q, g, nb', a8, b8⟩ | ⟨q, g, nb', a8, b8⟩ | ⟨q, q2, ee, cc⟩
  · simp only [if_pos q, show ¬ (1 : Int32) = 0 by decide, mem20, mem21, mem22, al20, al21, al33, al34, al36, al37, al38, aa33, aa34, aa36, aa37, aa38, true_and, and_true, Int32.reduceOfNat, forall_const, true_implies, implies_true, false_implies, not_true_eq_false, not_false_eq_true]
    have w := w_M_cutW (d := d) f n p e j (nI (f p)) _ h1m h1t k2 nb' Q ?_ (e - p) p (Nat.le_refl _) (by omega) g
    · rw [Nat.sub_self] at w
      exact w
    have c8 : nI (e - p) ≤ 8 ↔ e - p ≤ 8 := nle (b := 8) (by omega) (by decide)
    rw [b_M_cutAll_70]
    simp only [mo h1m, es, c8, mr_4 h1m, b_M_cutAll_78, b_M_cutAll_80, b_M_cutAll_81, mk_344 h1m, mn_344 h1m, i2, cN (show j < 2147483648 by omega), true_and]
    refine ⟨fun z => ?_, fun z => ?_⟩
    · obtain ⟨rw', er, gr⟩ := b8 z
      rw [show min (e - p) 8 = e - p by omega]
      refine put 1 _ _ ?_
      rw [er]
      exact TV_word gr.1 (fun w hw => word_iff z hw (fun i h1 h2 => g i h1 (by omega)) gr)
    · refine put 4 _ _ ?_
      rw [a8 (by omega)]
      exact TV_bad
  · have nl : ¬ isL (f p) := by unfold isL; unfold isD at q; omega
    simp only [if_neg nl, b_M_cutAll_83, c_M_isDigit _ hf, Option.toList, List.cons_append, List.nil_append, b_M_cutAll_85, if_pos q, show ¬ (1 : Int32) = 0 by decide, mem20, mem21, mem22, al20, al21, al33, al34, al36, al37, al38, aa33, aa34, aa36, aa37, aa38, true_and, and_true, Int32.reduceOfNat, forall_const, true_implies, implies_true, false_implies, not_true_eq_false, not_false_eq_true]
    have w := w_M_cutD (d := d) f n p e j (nI (f p)) _ h1m h1t k2 nb' Q ?_ (e - p) p (Nat.le_refl _) (by omega) g
    · rw [Nat.sub_self] at w
      exact w
    have c8 : nI (e - p) ≤ 4 ↔ e - p ≤ 4 := nle (b := 4) (by omega) (by decide)
    rw [b_M_cutAll_117]
    simp only [mo h1m, es, c8, mr_4 h1m, b_M_cutAll_125, b_M_cutAll_127, b_M_cutAll_128, mk_344 h1m, mn_344 h1m, i2, cN (show j < 2147483648 by omega), true_and]
    refine ⟨fun z => ?_, fun z => ?_⟩
    · rw [show min (e - p) 4 = e - p by omega]
      refine put 2 _ _ ?_
      have ec := b8 z
      rw [← ec]
      refine TV_num ?_
      rw [ec]
      have h3 := dv_lt (f := f) (p := p) (e - p) (fun i h1 h2 => g i h1 (by omega))
      have h4 : (10 : Nat) ^ (e - p) ≤ 10 ^ 4 := Nat.pow_le_pow_right (by decide) (by omega)
      have h5 : (10 : Nat) ^ 4 = 10000 := by decide
      omega
    · refine put 4 _ _ ?_
      rw [a8 (by omega)]
      exact TV_bad
  · simp only [if_neg q, b_M_cutAll_83, c_M_isDigit _ hf, Option.toList, List.cons_append, List.nil_append, b_M_cutAll_85, if_neg q2, b_M_cutAll_130, mo h1m, mr_4 h1m, c_M_isSignOf _ hf, b_M_cutAll_138, b_M_cutAll_139, b_M_cutAll_141, b_M_cutAll_142, mk_344 h1m, mn_344 h1m, i2, cN (show j < 2147483648 by omega), nI_1, ← ee, nI_l (show f p < 2 ^ 31 by omega), mem20, mem21, mem22, al20, al21, al33, al34, al36, al37, al38, aa33, aa34, aa36, aa37, aa38, true_and, and_true, Int32.reduceOfNat, forall_const, true_implies, implies_true, false_implies, not_true_eq_false, not_false_eq_true]
    by_cases qs : isS (f p)
    · rw [if_pos qs] at cc ⊢
      simp only [show ¬ (1 : Int32) = 0 by decide, mem20, mem21, mem22, al20, al21, al33, al34, al36, al37, al38, aa33, aa34, aa36, aa37, aa38, true_and, and_true, Int32.reduceOfNat, forall_const, true_implies, implies_true, false_implies, not_true_eq_false, not_false_eq_true]
      refine put 3 _ _ ?_
      rw [cc]
      exact TV_sign (by omega)
    · rw [if_neg qs] at cc ⊢
      simp only [mem20, mem21, mem22, al20, al21, al33, al34, al36, al37, al38, aa33, aa34, aa36, aa37, aa38, true_and, and_true, Int32.reduceOfNat, forall_const, true_implies, implies_true, false_implies, not_true_eq_false, not_false_eq_true]
      refine put 4 _ _ ?_
      rw [cc]
      exact TV_bad
theorem w_M_cutB {d : Nat} (f : Nat → Nat) (n q j : Nat) (h : AH) (m0 : MLY h) (t : TPM h f n) (hq : q ≤ n) (Q : Option Value → AH → Prop) (fin : ∀ v3 v4 v5, Wp (d + 2) P_M_cutAll 11 [.ref 342, .int (nI j), .int (nI q), v3, v4, v5, .null] [] h Q) : ∀ (m k : Nat) (v3 v4 v5 : Value), k + m = q → (∀ i, k ≤ i → i < q → isB (f i)) → Wp (d + 2) P_M_cutAll 11 [.ref 342, .int (nI j), .int (nI k), v3, v4, v5, .null] [] h Q := by
  have tt := t
  obtain ⟨t1, t2, t3, t4⟩ := t
  intro m
  induction m with
  | zero =>
    intro k v3 v4 v5 e g
    have : k = q := by omega
    subst this
    exact fin v3 v4 v5
  | succ m ih =>
    intro k v3 v4 v5 e g
    have hk : k < n := by omega
    have gk := g k (Nat.le_refl _) (by omega)
    have z : ¬ nI n ≤ nI k := mt (nle (by omega) (by omega)).mp (by omega)
    have i1 : ixo (nI k) 1000 = true := nix (by omega) (by decide)
    have nxt := ih (k + 1) (.int (nI (f k))) v4 v5 (by omega) (fun i h1 h2 => g i (by omega) h2)
    rw [b_M_cutAll_11]
    simp only [mo m0, t2, z, b_M_cutAll_15, mr_1 m0, mk_343 m0, mn_343 m0, i1, cN (show k < 2147483648 by omega), t3 k hk, b_M_cutAll_23, b_M_cutAll_26, nI_1, mem20, mem21, mem22, al20, al21, al33, al34, al36, al37, al38, aa33, aa34, aa36, aa37, aa38, true_and, and_true, Int32.reduceOfNat, forall_const, true_implies, implies_true, false_implies, not_true_eq_false, not_false_eq_true]
    rcases gk with q1 | q1
    · have c1 : nI (f k) = 10 := by rw [q1]; rfl
      simp only [c1, mem20, mem21, mem22, al20, al21, al33, al34, al36, al37, al38, aa33, aa34, aa36, aa37, aa38, true_and, and_true, Int32.reduceOfNat, forall_const, true_implies, implies_true, false_implies, not_true_eq_false, not_false_eq_true] at nxt ⊢
      exact nxt
    · have c1 : nI (f k) = 32 := by rw [q1]; rfl
      simp only [c1, show ¬ (32 : Int32) = 10 by decide, mem20, mem21, mem22, al20, al21, al33, al34, al36, al37, al38, aa33, aa34, aa36, aa37, aa38, true_and, and_true, Int32.reduceOfNat, forall_const, true_implies, implies_true, false_implies, not_true_eq_false, not_false_eq_true] at nxt ⊢
      exact nxt
theorem w_M_cutL {d : Nat} (f : Nat → Nat) (n : Nat) (h0 : AH) (m0 : MLY h0) (t0 : TPM h0 f n) (all : List (Nat × Nat)) (hall : all.length ≤ n + 1) (Q : Option Value → AH → Prop) (fin : ∀ h', Fr mts (onl 346) h0 h' → TKM h' all all.length → Q none (sI (sI h' 342 7 0) 342 8 0)) : ∀ (ts pre : List (Nat × Nat)) (t : Nat × Nat) (k : Nat) (v3 v4 v5 : Value) (h : AH), all = pre ++ t :: ts → LX f n k (t :: ts) → Fr mts (onl 346) h0 h → TKM h all pre.length →
    Wp (d + 2) P_M_cutAll 11 [.ref 342, .int (nI pre.length), .int (nI k), v3, v4, v5, .null] [] h Q := by
  intro ts
  have n1 := t0.1
  induction ts with
  | nil =>
    intro pre t k v3 v4 v5 h ea lx fr tk
    obtain ⟨l1, l2, l3, l4⟩ := lx
    have l4 : t.2 = n ∧ t.1 = 12000 := by
      rcases l4 with ⟨a, b, c⟩ | ⟨a, b, e, c, z⟩
      · exact ⟨a, b⟩
      · exact z.elim
    have m := m0.fr fr
    have tx : TPM h f n := t0.fr (by rw [fr.I (by unfold mts; decide)]) (fr.I (by unfold mts; decide))
    have hl : all.length = pre.length + 1 := by rw [ea]; simp
    obtain ⟨c1, c2⟩ := tc_at pre [] t
    rw [← ea] at c1 c2
    refine w_M_cutB f n t.2 pre.length h m tx l2 Q ?_ (t.2 - k) k v3 v4 v5 (by omega) l3
    intro v3 v4 v5
    have z : nI n ≤ nI t.2 := by rw [l4.1]; exact Int32.le_refl _
    have i2 : ixo (nI pre.length) 1002 = true := nix (by omega) (by decide)
    rw [b_M_cutAll_11]
    simp only [mo m, tx.2.1, z, b_M_cutAll_151, mr_4 m, mr_5 m, mk_344 m, mn_344 m, mk_345 m, mn_345 m, i2, hK_sI, hR_sI, hN_sI, rI_sI (show 342 ≠ 344 by decide), rI_sI (show 342 ≠ 345 by decide), cN (show pre.length < 2147483648 by omega), mem20, mem21, mem22, al20, al21, al33, al34, al36, al37, al38, aa33, aa34, aa36, aa37, aa38, true_and, and_true, Int32.reduceOfNat, forall_const, true_implies, implies_true, false_implies, not_true_eq_false, not_false_eq_true]
    refine fin _ ((fr.sI (Or.inl rfl)).sI (Or.inr rfl)) ?_
    rw [hl]
    intro i hi
    rw [rI_sI (by decide), hI_same, hJ_sI, hJ_sI, hI_same, rI_sI (by decide)]
    by_cases qi : i = pre.length
    · rw [if_pos qi, if_pos qi, qi, c1, c2, l4.1, l4.2]
      exact ⟨TV_end, rfl⟩
    · rw [if_neg qi, if_neg qi]; exact tk i (by omega)
  | cons u us ih =>
    intro pre t k v3 v4 v5 h ea lx fr tk
    obtain ⟨l1, l2, l3, l4⟩ := lx
    obtain ⟨l5, l6, e, l7, l8⟩ : t.2 < n ∧ ¬ isB (f t.2) ∧ ∃ e, TOK f n t.2 e t.1 ∧ LX f n e (u :: us) := by
      rcases l4 with ⟨a, b, c⟩ | z
      · cases c
      · exact z
    have m := m0.fr fr
    have tx : TPM h f n := t0.fr (by rw [fr.I (by unfold mts; decide)]) (fr.I (by unfold mts; decide))
    obtain ⟨c1, c2⟩ := tc_at pre (u :: us) t
    rw [← ea] at c1 c2
    have hl : pre.length < all.length := by rw [ea]; simp
    refine w_M_cutB f n t.2 pre.length h m tx l2 Q ?_ (t.2 - k) k v3 v4 v5 (by omega) l3
    intro v3 v4 v5
    refine w_M_cutT f n t.2 e t.1 pre.length v3 v4 v5 h m tx l7 l6 (by omega) Q ?_
    intro s v w3 w4 w5 tv
    have := ih (pre ++ [t]) u e w3 w4 w5 (mk3 h pre.length t.2 s v) (by rw [ea]; simp) l8 (mk3_fr fr) (by simpa using TKM_push tk (by rw [c1]; exact tv) c2)
    simpa using this
/-- the reference cuts its tape -/
theorem c_M_cutAll {d : Nat} (f : Nat → Nat) (n : Nat) (h : AH) (m : MLY h) (hn : n ≤ 1000) (e2 : hI h 342 2 = nI n) (g : ∀ i, i < n → hI h 343 i = nI (f i)) (g2 : ∀ i, i < n → f i < 256) (ts : List (Nat × Nat)) (lx : LX f n 0 ts) (Q : Option Value → AH → Prop) (fin : ∀ h', Fr (fun a => a = 342 ∨ mts a) (onl 346) h h' → (∀ j, j ≠ 2 → j ≠ 3 → j ≠ 7 → j ≠ 8 → hI h' 342 j = hI h 342 j) → hI h' 342 2 = 0 → hI h' 342 7 = 0 → hI h' 342 8 = 0 → TKM h' ts ts.length → Q none h') : Cl (d + 3) q_M_cutAll [.ref 342] h Q := by
  have hl := LX_len lx (Nat.zero_le _)
  match ts, lx, hl with
  | [], lx, _ => exact lx.elim
  | u :: us, lx, hl =>
    have fr : Fr (fun a => a = 342 ∨ mts a) (onl 346) h (sI (sI h 342 3 (nI n)) 342 2 0) := (Fr.rfl'.sI (Or.inl rfl)).sI (Or.inl rfl)
    rw [e_M_cutAll, b_M_cutAll_0]
    simp only [mo m, hK_sI, e2, true_and]
    refine w_M_cutL f n _ (m.fr fr) ⟨hn, by rw [hI_same, if_neg (by decide), hI_same, if_pos rfl], fun i hi => by rw [rI_sI (by decide), rI_sI (by decide)]; exact g i hi, g2⟩ (u :: us) (by omega) _ ?_ us [] u 0 _ _ _ _ rfl lx Fr.rfl' (fun i hi => by simp at hi)
    intro h' fr' tk
    refine ⟨rtV, fin _ ((fr.tr (fr'.mo (fun a z => Or.inr z) (fun a z => z))).sI (Or.inl rfl) |>.sI (Or.inl rfl)) ?_ ?_ ?_ ?_ ?_⟩
    · intro j h2 h3 h7 h8
      rw [hI_same, if_neg h8, hI_same, if_neg h7, fr'.I (by unfold mts; decide), hI_same, if_neg h2, hI_same, if_neg h3]
    · rw [hI_same, if_neg (by decide), hI_same, if_neg (by decide), fr'.I (by unfold mts; decide), hI_same, if_pos rfl]
    · rw [hI_same, if_neg (by decide), hI_same, if_pos rfl]
    · rw [hI_same, if_pos rfl]
    · intro i hi
      rw [rI_sI (by decide), rI_sI (by decide), rI_sI (by decide), rI_sI (by decide), hJ_sI, hJ_sI]
      exact tk i hi
