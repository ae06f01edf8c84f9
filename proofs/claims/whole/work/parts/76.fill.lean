--deps: 75.jump
/-! ALL JUMPS OF A PERSON AT A PLAN, AND THE DRAWS -/
def XBd (h : AH) (bd : Nat → Option (List Nat)) : Prop := XPg h 123 ∧ ∀ ln, ln < 3 → XLn h 123 ln (bd ln) ∧ okO 12 (bd ln)
theorem XPg.fr {S T : Nat → Prop} {h h' : AH} {r : Nat} (x : XPg h r) (p : Fr S T h h') : XPg h' r := by
  obtain ⟨x1, x2, x3, x4, x5⟩ := x
  have e : hR h' r 0 = hR h r 0 := p.R (by omega)
  unfold XPg
  rw [e, p.K, p.N, p.z]
  exact ⟨x1.fr p, x2, x3, x4, x5⟩
theorem XLn.fr {S T : Nat → Prop} {h h' : AH} {r ln : Nat} {o : Option (List Nat)} (g : XLn h r ln o) (x : XPg h r) (p : Fr S T h h') (q : ∀ a, S a → a ≠ r + 1 ∧ a ≠ r + 2 ∧ a ≠ r + 4 ∧ a < 378) : XLn h' r ln o := by
  have e : hR h' r 0 = hR h r 0 := p.R (by omega)
  have e1 : hI h' (r + 1) = hI h (r + 1) := p.I (fun z => (q _ z).1 rfl)
  have e2 : hI h' (r + 2) = hI h (r + 2) := p.I (fun z => (q _ z).2.1 rfl)
  have e3 : hI h' (hR h r 0) = hI h (hR h r 0) := p.I (fun z => by
    have := q _ z
    have := x.2.2.2.1
    omega)
  unfold XLn at g ⊢
  rw [e, e1, e2, e3, p.N]
  exact g
theorem XBd.fr {S T : Nat → Prop} {h h' : AH} {bd : Nat → Option (List Nat)} (x : XBd h bd) (p : Fr S T h h') (q : ∀ a, S a → a ≠ 124 ∧ a ≠ 125 ∧ a ≠ 127 ∧ a < 378) : XBd h' bd :=
  ⟨x.1.fr p, fun ln hl => ⟨(x.2 ln hl).1.fr x.1 p q, (x.2 ln hl).2⟩⟩
def jmp (bd : Nat → Option (List Nat)) (kd it : Nat → Int32) (ti fe dn hd tr : Int32) (q l nz : Nat) : Int32 := clp (lnV (wN (bF (kd q) (it q) ti fe dn hd tr (nI (cnt kd (kd q) q)) (nI q)) (nI nz)) (bd l))
/-- the row of all jumps -/
def jrow (bd : Nat → Option (List Nat)) (kd it : Nat → Int32) (ti fe dn hd tr : Int32) (j : Nat) : Int32 := jmp bd kd it ti fe dn hd tr (j / 12) (j % 12 / 4) (j % 4)
def fcs (jb : Nat) : Nat → Prop := fun a => a = 126 ∨ a = 128 ∨ a = jb
theorem ndiv {a b : Nat} (ha : a < 2147483648) (h0 : 0 < b) (hb : b < 2147483648) : nI a / nI b = nI (a / b) := pk_div ha h0 hb
theorem nrem {a b : Nat} (ha : a < 2147483648) (h0 : 0 < b) (hb : b < 2147483648) : nI a - nI a / nI b * nI b = nI (a % b) := pk_rem ha h0 hb
theorem w_Ch_fill_in {d : Nat} (pe pl n q jb : Nat) (bd : Nat → Option (List Nat)) (h0 : AH) (K G : Nat → Int32) (hjb : jb = 143 ∨ jb = 144) (x0 : XLY h0) (b0 : XBd h0 bd) (hq : q < 12) (Q : Option Value → AH → Prop) (hK2 : ∀ c, c < 12 → K (12 * q + c) = clp (lnV (wN G (nI (c % 4))) (bd (c / 4))))
    (fin : ∀ h' v6, Fr (fcs jb) nov h0 h' → (∀ j, j < 12 * q + 12 → hI h' jb j = K j) → Wp (d + 4) P_Ch_fill 47 [.ref 122, .ref pe, .ref pl, .ref jb, .int (nI q), .int (nI 12), v6] [] h' Q) : ∀ (m c : Nat) (h : AH) (v6 : Value), c + m = 12 → Fr (fcs jb) nov h0 h → (∀ i, i < 11 → hI h 128 i = G i) → (∀ j, j < 12 * q + c → hI h jb j = K j) →
    Wp (d + 4) P_Ch_fill 17 [.ref 122, .ref pe, .ref pl, .ref jb, .int (nI q), .int (nI c), v6] [] h Q := by
  intro m
  induction m with
  | zero =>
    intro c h v6 e fr g k
    have : c = 12 := by omega
    subst this
    rw [b_Ch_fill_17]
    have z : (12 : Int32) ≤ nI 12 := by decide
    simp only [z, mem20, mem21, mem22, al20, al21, al33, al34, al36, al37, al38, aa33, aa34, aa36, aa37, aa38, true_and, and_true, Int32.reduceOfNat, forall_const, true_implies, implies_true, false_implies, not_true_eq_false, not_false_eq_true]
    exact fin h v6 fr k
  | succ m ih =>
    intro c h v6 e fr g k
    have z : ¬ (12 : Int32) ≤ nI c := mt (nle (a := 12) (by decide) (by omega)).mp (by omega)
    have e1 : nI q * 3 * 4 + nI c = nI (12 * q + c) := by
      rw [show (3 : Int32) = nI 3 from rfl, show (4 : Int32) = nI 4 from rfl, nmul, nmul, nadd]
      congr 1; omega
    have x : XLY h := x0.fr fr
    have b : XBd h bd := b0.fr fr (by unfold fcs; omega)
    have kj : hK h jb = 20 ∧ hN h jb = 144 := by
      rcases hjb with rfl | rfl
      · exact ⟨xk_143 x, xn_143 x⟩
      · exact ⟨xk_144 x, xn_144 x⟩
    have z1 := n_nn (n := 12 * q + c) (by omega)
    have z2 : ¬ 144 ≤ nI (12 * q + c) := mt (nle (a := 144) (by decide) (by omega)).mp (by omega)
    have d1 : nI c / 4 = nI (c / 4) := ndiv (b := 4) (by omega) (by decide) (by decide)
    have d2 : nI c - nI (c / 4) * 4 = nI (c % 4) := by
      have := nrem (a := c) (b := 4) (by omega) (by decide) (by decide)
      rw [← d1]; exact this
    rw [b_Ch_fill_17]
    simp only [z, b_Ch_fill_20, e1, z1, b_Ch_fill_30, kj.1, kj.2, z2, b_Ch_fill_34, d1, d2, show ¬ (4 : Nat) = 0 by decide, show ¬ (4 : Int32) = 0 by decide, mem20, mem21, mem22, al20, al21, al33, al34, al36, al37, al38, aa33, aa34, aa36, aa37, aa38, true_and, and_true, Int32.reduceOfNat, forall_const, true_implies, implies_true, false_implies, not_true_eq_false, not_false_eq_true]
    refine c_Ch_jumpOf (c / 4) (nI (c % 4)) G (bd (c / 4)) h x b.1 (by omega) g (b.2 _ (by omega)).1 (b.2 _ (by omega)).2 _ ?_
    intro h1 fr1 g1
    have i1 : ixo (nI (12 * q + c)) 144 = true := nix (by omega) (by decide)
    have fr2 : Fr (fcs jb) nov h0 h1 := fr.tr (fr1.mo (by unfold jcs fcs; omega) (fun a z => z))
    simp only [Option.toList, List.cons_append, List.nil_append, b_Ch_fill_44, b_Ch_fill_45, nI_1, fr1.K, fr1.N, kj.1, kj.2, i1, cN (show 12 * q + c < 2147483648 by omega), mem20, mem21, mem22, al20, al21, al33, al34, al36, al37, al38, aa33, aa34, aa36, aa37, aa38, true_and, and_true, Int32.reduceOfNat, forall_const, true_implies, implies_true, false_implies, not_true_eq_false, not_false_eq_true]
    refine ih (c + 1) _ _ (by omega) (fr2.sI (Or.inr (Or.inr rfl))) ?_ ?_
    · intro i hi
      rw [rI_sI (by omega)]
      exact g1 i hi
    · intro j hj
      rw [hI_same]
      by_cases qj : j = 12 * q + c
      · rw [if_pos qj, qj, hK2 c (by omega)]
      · rw [if_neg qj, fr1.I (by unfold jcs; omega)]
        exact k j (by omega)
theorem w_Ch_fill {d : Nat} (pe pl n jb : Nat) (bd : Nat → Option (List Nat)) (h0 : AH) (hjb : jb = 143 ∨ jb = 144) (x0 : XLY h0) (b0 : XBd h0 bd) (hp : hK h0 pe = 3) (y0 : PLN h0 pl) (pd : pl + 3 < 122 ∨ (128 < pl ∧ pl + 3 < 143) ∨ 145 < pl) (hn : hI h0 pl 3 = nI n) (hn2 : n ≤ 12) (Q : Option Value → AH → Prop)
    (fin : ∀ h', Fr (fcs jb) nov h0 h' → (∀ j, j < 12 * n → hI h' jb j = jrow bd (hI h0 (pl + 1)) (hI h0 (pl + 2)) (hI h0 122 3) (hI h0 pe 1) (hI h0 pe 2) (hI h0 pe 3) (hI h0 pe 4) j) → Q none h') : ∀ (m q : Nat) (h : AH) (v5 v6 : Value), q + m = n → Fr (fcs jb) nov h0 h → (∀ j, j < 12 * q → hI h jb j = jrow bd (hI h0 (pl + 1)) (hI h0 (pl + 2)) (hI h0 122 3) (hI h0 pe 1) (hI h0 pe 2) (hI h0 pe 3) (hI h0 pe 4) j) →
    Wp (d + 4) P_Ch_fill 2 [.ref 122, .ref pe, .ref pl, .ref jb, .int (nI q), v5, v6] [] h Q := by
  have kk : ∀ {h : AH} {S T : Nat → Prop}, Fr S T h0 h → ∀ a, hK h0 a ≠ 20 → ¬ fcs jb a := by
    intro h S T fr a ha z
    apply ha
    rcases z with rfl | rfl | rfl
    · exact xk_126 x0
    · exact xk_128 x0
    · rcases hjb with rfl | rfl
      · exact xk_143 x0
      · exact xk_144 x0
  intro m
  induction m with
  | zero =>
    intro q h v5 v6 e fr k
    have : q = n := by omega
    subst this
    have e1 : hI h pl = hI h0 pl := fr.I (kk fr _ (by rw [y0.2.1]; decide))
    rw [b_Ch_fill_2, e1]
    simp only [(y0.fr fr).2.1, hn, Int32.le_refl, b_Ch_fill_49, mem20, mem21, mem22, al20, al21, al33, al34, al36, al37, al38, aa33, aa34, aa36, aa37, aa38, true_and, and_true, Int32.reduceOfNat, forall_const, true_implies, implies_true, false_implies, not_true_eq_false, not_false_eq_true]
    exact fin h fr k
  | succ m ih =>
    intro q h v5 v6 e fr k
    have e1 : hI h pl = hI h0 pl := fr.I (kk fr _ (by rw [y0.2.1]; decide))
    have e2 : hI h pe = hI h0 pe := fr.I (kk fr _ (by rw [hp]; decide))
    have e3 : hI h 122 = hI h0 122 := fr.I (kk fr _ (by rw [xk_122 x0]; decide))
    have z : ¬ nI n ≤ nI q := mt (nle (by omega) (by omega)).mp (by omega)
    have x : XLY h := x0.fr fr
    have y : PLN h pl := y0.fr fr
    have nd : ∀ k, k < 4 → ¬ fcs jb (pl + k) := by
      intro k hk
      unfold fcs; omega
    have e4 : hI h (pl + 1) = hI h0 (pl + 1) := fr.I (nd 1 (by decide))
    have e5 : hI h (pl + 2) = hI h0 (pl + 2) := fr.I (nd 2 (by decide))
    rw [b_Ch_fill_2, e1]
    simp only [y.2.1, hn, z, b_Ch_fill_6, c_Pl_ahead pl n q h y (by rw [e1]; exact hn) hn2 (by omega), Option.toList, List.cons_append, List.nil_append, b_Ch_fill_13, mem20, mem21, mem22, al20, al21, al33, al34, al36, al37, al38, aa33, aa34, aa36, aa37, aa38, true_and, and_true, Int32.reduceOfNat, forall_const, true_implies, implies_true, false_implies, not_true_eq_false, not_false_eq_true]
    refine c_Ch_pose pe pl n q _ _ h x (by rw [fr.K]; exact hp) y (by rw [e1]; exact hn) hn2 (by omega) _ ?_
    intro h1 fr1 g1
    rw [e2, e3, e4, e5] at g1
    simp only [Option.toList, List.cons_append, List.nil_append, b_Ch_fill_15]
    have fr2 : Fr (fcs jb) nov h0 h1 := fr.tr (fr1.mo (by unfold onl fcs; omega) (fun a z => z))
    refine w_Ch_fill_in pe pl n q jb bd h0 (jrow bd (hI h0 (pl + 1)) (hI h0 (pl + 2)) (hI h0 122 3) (hI h0 pe 1) (hI h0 pe 2) (hI h0 pe 3) (hI h0 pe 4)) _ hjb x0 b0 (by omega) Q ?_ ?_ 12 0 h1 v6 rfl fr2 g1 ?_
    · intro c hc
      unfold jrow jmp
      have a1 : (12 * q + c) / 12 = q := by omega
      have a2 : (12 * q + c) % 12 = c := by omega
      have a3 : (12 * q + c) % 4 = c % 4 := by omega
      rw [a1, a2, a3]
    · intro h' v6' fr' k'
      rw [b_Ch_fill_47, nI_1]
      exact ih (q + 1) h' _ _ (by omega) fr' (fun j hj => k' j (by omega))
    · intro j hj
      rw [fr1.I (by unfold onl; omega)]
      exact k j (by omega)
theorem c_Ch_fill {d : Nat} (pe pl n jb : Nat) (bd : Nat → Option (List Nat)) (h : AH) (hjb : jb = 143 ∨ jb = 144) (x : XLY h) (b : XBd h bd) (hp : hK h pe = 3) (y : PLN h pl) (pd : pl + 3 < 122 ∨ (128 < pl ∧ pl + 3 < 143) ∨ 145 < pl) (hn : hI h pl 3 = nI n) (hn2 : n ≤ 12) (Q : Option Value → AH → Prop)
    (fin : ∀ h', Fr (fcs jb) nov h h' → (∀ j, j < 12 * n → hI h' jb j = jrow bd (hI h (pl + 1)) (hI h (pl + 2)) (hI h 122 3) (hI h pe 1) (hI h pe 2) (hI h pe 3) (hI h pe 4) j) → Q none h') : Cl (d + 5) q_Ch_fill [.ref 122, .ref pe, .ref pl, .ref jb] h Q := by
  rw [e_Ch_fill, b_Ch_fill_0]
  exact ⟨xk_122 x, w_Ch_fill pe pl n jb bd h hjb x b hp y pd hn hn2 _ (fun h' f1 f2 => ⟨rtV, fin h' f1 f2⟩) n 0 h _ _ (by omega) Fr.rfl' (fun j hj => by omega)⟩
/-! draws -/
def gn (g : Nat) : Nat := (g * 1103515245 + 12345) % 2147483648
def gi (s : Nat) : Nat → Nat
  | 0 => s
  | i + 1 => gn (gi s i)
theorem gn_lt (g : Nat) : gn g < 2147483648 := Nat.mod_lt _ (by decide)
theorem gi_lt {s : Nat} (h : s < 2147483648) : ∀ i, gi s i < 2147483648
  | 0 => h
  | i + 1 => gn_lt _
theorem l_gn {g : Nat} (h : g < 2147483648) : (lN g * 1103515245 + 12345) - (lN g * 1103515245 + 12345) / 2147483648 * 2147483648 = lN (gn g) := by
  have e : lN g * 1103515245 + 12345 = lN (g * 1103515245 + 12345) := by
    rw [show (1103515245 : Int64) = lN 1103515245 from rfl, show (12345 : Int64) = lN 12345 from rfl]
    simp only [lN, Int64.ofNat_add, Int64.ofNat_mul]
  rw [e]
  exact pk_lRem (a := g * 1103515245 + 12345) (b := 2147483648) (by omega) (by decide) (by decide)
def nzN (g : Nat) : Nat := g / 65536 % 4
theorem l_nz {g : Nat} (h : g < 2147483648) : lN g / 65536 - lN g / 65536 / 4 * 4 = lN (nzN g) := by
  rw [show (65536 : Int64) = lN 65536 from rfl, pk_lDiv (by omega) (by decide) (by decide)]
  exact pk_lRem (a := g / 65536) (b := 4) (by omega) (by decide) (by decide)
theorem l_i32 {k : Nat} (h : k < 4) : Int64.toInt32 (lN k) = nI k := by
  have c : k = 0 ∨ k = 1 ∨ k = 2 ∨ k = 3 := by omega
  rcases c with rfl | rfl | rfl | rfl <;> decide
theorem nz_lt (g : Nat) : nzN g < 4 := Nat.mod_lt _ (by decide)
