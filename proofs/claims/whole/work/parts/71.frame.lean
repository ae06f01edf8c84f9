--deps: 70.inv
/-! FRAMES, AND THE OBJECTS OF THE CLASS BY THEIR CELLS -/
/-- nothing but the ints of the cells S and the longs of the cells T has changed (and the parser's word) -/
def Fr (S T : Nat → Prop) (h h' : AH) : Prop := hK h' = hK h ∧ hN h' = hN h ∧ hz h' = hz h ∧ hu h' = hu h ∧ (∀ a j, ¬ (a = 108 ∧ j = 8) → hR h' a j = hR h a j) ∧ (∀ a, ¬ S a → hI h' a = hI h a) ∧ (∀ a, ¬ T a → hJ h' a = hJ h a) ∧ hJ h' 347 = hJ h 347
def nov : Nat → Prop := fun _ => False
theorem Fr.rfl' {S T : Nat → Prop} {h : AH} : Fr S T h h := ⟨rfl, rfl, rfl, rfl, fun _ _ _ => rfl, fun _ _ => rfl, fun _ _ => rfl, rfl⟩
theorem Fr.tr {S T : Nat → Prop} {h h1 h2 : AH} (p : Fr S T h h1) (q : Fr S T h1 h2) : Fr S T h h2 :=
  ⟨q.1.trans p.1, q.2.1.trans p.2.1, q.2.2.1.trans p.2.2.1, q.2.2.2.1.trans p.2.2.2.1, fun a j e => (q.2.2.2.2.1 a j e).trans (p.2.2.2.2.1 a j e), fun a e => (q.2.2.2.2.2.1 a e).trans (p.2.2.2.2.2.1 a e), fun a e => (q.2.2.2.2.2.2.1 a e).trans (p.2.2.2.2.2.2.1 a e), q.2.2.2.2.2.2.2.trans p.2.2.2.2.2.2.2⟩
theorem Fr.mo {S T S' T' : Nat → Prop} {h h1 : AH} (p : Fr S T h h1) (q : ∀ a, S a → S' a) (q' : ∀ a, T a → T' a) : Fr S' T' h h1 :=
  ⟨p.1, p.2.1, p.2.2.1, p.2.2.2.1, p.2.2.2.2.1, fun a e => p.2.2.2.2.2.1 a (fun z => e (q a z)), fun a e => p.2.2.2.2.2.2.1 a (fun z => e (q' a z)), p.2.2.2.2.2.2.2⟩
theorem Fr.sI {S T : Nat → Prop} {h h' : AH} {a j : Nat} {v : Int32} (p : Fr S T h h') (q : S a) : Fr S T h (sI h' a j v) :=
  ⟨p.1, p.2.1, p.2.2.1, p.2.2.2.1, p.2.2.2.2.1, fun b e => (rI_sI (a := b) (b := a) (fun z : b = a => e (by rw [z]; exact q))).trans (p.2.2.2.2.2.1 b e), p.2.2.2.2.2.2.1, p.2.2.2.2.2.2.2⟩
theorem Fr.sJ {S T : Nat → Prop} {h h' : AH} {a j : Nat} {v : Int64} (p : Fr S T h h') (q : T a) (q2 : a ≠ 347) : Fr S T h (sJ h' a j v) :=
  ⟨p.1, p.2.1, p.2.2.1, p.2.2.2.1, p.2.2.2.2.1, p.2.2.2.2.2.1, fun b e => (rJ_sJ (a := b) (b := a) (fun z : b = a => e (by rw [z]; exact q))).trans (p.2.2.2.2.2.2.1 b e), (rJ_sJ (fun z => q2 z.symm)).trans p.2.2.2.2.2.2.2⟩
theorem Fr.sW {S T : Nat → Prop} {h h' : AH} {v : Nat} (p : Fr S T h h') : Fr S T h (sR h' 108 8 v) :=
  ⟨p.1, p.2.1, p.2.2.1, p.2.2.2.1, fun b j e => by
    rw [hR_sR]
    by_cases e1 : b = 108
    · rw [if_pos e1]
      by_cases e2 : j = 8
      · exact absurd ⟨e1, e2⟩ e
      · rw [if_neg e2]; exact p.2.2.2.2.1 b j e
    · rw [if_neg e1]; exact p.2.2.2.2.1 b j e, p.2.2.2.2.2.1, p.2.2.2.2.2.2.1, p.2.2.2.2.2.2.2⟩
theorem Fr.K {S T : Nat → Prop} {h h' : AH} (p : Fr S T h h') (a : Nat) : hK h' a = hK h a := by rw [p.1]
theorem Fr.N {S T : Nat → Prop} {h h' : AH} (p : Fr S T h h') (a : Nat) : hN h' a = hN h a := by rw [p.2.1]
theorem Fr.z {S T : Nat → Prop} {h h' : AH} (p : Fr S T h h') : hz h' = hz h := p.2.2.1
theorem Fr.u {S T : Nat → Prop} {h h' : AH} (p : Fr S T h h') : hu h' = hu h := p.2.2.2.1
theorem Fr.R {S T : Nat → Prop} {h h' : AH} (p : Fr S T h h') {a j : Nat} (e : ¬ (a = 108 ∧ j = 8)) : hR h' a j = hR h a j := p.2.2.2.2.1 a j e
theorem Fr.I {S T : Nat → Prop} {h h' : AH} (p : Fr S T h h') {a : Nat} (e : ¬ S a) : hI h' a = hI h a := p.2.2.2.2.2.1 a e
theorem Fr.J {S T : Nat → Prop} {h h' : AH} (p : Fr S T h h') {a : Nat} (e : ¬ T a) : hJ h' a = hJ h a := p.2.2.2.2.2.2.1 a e
theorem Fr.W {S T : Nat → Prop} {h h' : AH} (p : Fr S T h h') : hJ h' 347 = hJ h 347 := p.2.2.2.2.2.2.2
theorem xrL_w : ∀ q ∈ xrL, ¬ (q.1 = 108 ∧ q.2.1 = 8) := by decide +kernel
theorem XLY.fr {S T : Nat → Prop} {h h' : AH} (x : XLY h) (p : Fr S T h h') : XLY h' :=
  ⟨fun a ha => by rw [p.K, p.N]; exact x.1 a ha, fun q hq => (p.R (xrL_w q hq)).trans (x.2 q hq)⟩
theorem MLY.fr {S T : Nat → Prop} {h h' : AH} (m : MLY h) (p : Fr S T h h') : MLY h' :=
  ⟨⟨by rw [p.K]; exact m.1.1, fun k hk e => (p.R (by omega)).trans (m.1.2.1 k hk e), fun a ha => by rw [p.K, p.N]; exact m.1.2.2 a ha⟩, fun j hj => by rw [p.W]; exact m.2 j hj⟩
/-- a plan, with its three rows behind it -/
def PLN (h : AH) (r : Nat) : Prop := 109 < r ∧ hK h r = 4 ∧ hR h r 0 = r + 1 ∧ hR h r 1 = r + 2 ∧ hR h r 2 = r + 3 ∧ hK h (r + 1) = 20 ∧ hK h (r + 2) = 20 ∧ hK h (r + 3) = 20 ∧ hN h (r + 1) = 12 ∧ hN h (r + 2) = 12 ∧ hN h (r + 3) = 12
theorem PLN.fr {S T : Nat → Prop} {h h' : AH} {r : Nat} (x : PLN h r) (p : Fr S T h h') : PLN h' r := by
  obtain ⟨x0, x1, x2, x3, x4, x5, x6, x7, x8, x9, x10⟩ := x
  refine ⟨x0, ?_, ?_, ?_, ?_, ?_, ?_, ?_, ?_, ?_, ?_⟩ <;> first | (rw [p.K]; assumption) | (rw [p.N]; assumption) | (rw [p.R (by omega)]; assumption)
theorem pln_pl {h : AH} (x : XLY h) {p : Nat} (hp : p < 4) : PLN h (154 + 4 * p) := by
  have e1 : 154 + 4 * p + 1 = 155 + 4 * p := by omega
  have e2 : 154 + 4 * p + 2 = 156 + 4 * p := by omega
  have e3 : 154 + 4 * p + 3 = 157 + 4 * p := by omega
  unfold PLN
  rw [e1, e2, e3]
  exact ⟨by omega, g_pl_k x hp, f_pl0 x hp, f_pl1 x hp, f_pl2 x hp, g_pl0_k x hp, g_pl1_k x hp, g_pl2_k x hp, g_pl0_n x hp, g_pl1_n x hp, g_pl2_n x hp⟩
theorem pln_113 {h : AH} (x : XLY h) : PLN h 113 := ⟨by omega, xk_113 x, xr_113_0 x, xr_113_1 x, xr_113_2 x, xk_114 x, xk_115 x, xk_116 x, xn_114 x, xn_115 x, xn_116 x⟩
/-- a sitting: its plan, the plan's rows, its jumps -/
def SIT (h : AH) (r : Nat) : Prop := 109 < r ∧ hK h r = 7 ∧ hR h r 0 = r + 1 ∧ hR h r 1 = r + 5 ∧ PLN h (r + 1) ∧ hK h (r + 5) = 20 ∧ hN h (r + 5) = 36
theorem SIT.fr {S T : Nat → Prop} {h h' : AH} {r : Nat} (x : SIT h r) (p : Fr S T h h') : SIT h' r := by
  obtain ⟨x0, x1, x2, x3, x4, x5, x6⟩ := x
  refine ⟨x0, ?_, ?_, ?_, x4.fr p, ?_, ?_⟩ <;> first | (rw [p.K]; assumption) | (rw [p.N]; assumption) | (rw [p.R (by omega)]; assumption)
theorem sit_si {h : AH} (x : XLY h) {p : Nat} (hp : p < 24) : SIT h (190 + 6 * p) := by
  have e1 : 190 + 6 * p + 1 = 191 + 6 * p := by omega
  have e5 : 190 + 6 * p + 5 = 195 + 6 * p := by omega
  have f1 : 191 + 6 * p + 1 = 192 + 6 * p := by omega
  have f2 : 191 + 6 * p + 2 = 193 + 6 * p := by omega
  have f3 : 191 + 6 * p + 3 = 194 + 6 * p := by omega
  unfold SIT PLN
  rw [e1, e5, f1, f2, f3]
  exact ⟨by omega, g_si_k x hp, f_si0 x hp, f_si1 x hp, ⟨by omega, g_sa_k x hp, f_sa0 x hp, f_sa1 x hp, f_sa2 x hp, g_sa0_k x hp, g_sa1_k x hp, g_sa2_k x hp, g_sa0_n x hp, g_sa1_n x hp, g_sa2_n x hp⟩, g_sj_k x hp, g_sj_n x hp⟩
theorem sit_135 {h : AH} (x : XLY h) : SIT h 135 := ⟨by omega, xk_135 x, xr_135_0 x, xr_135_1 x, ⟨by omega, xk_136 x, xr_136_0 x, xr_136_1 x, xr_136_2 x, xk_137 x, xk_138 x, xk_139 x, xn_137 x, xn_138 x, xn_139 x⟩, xk_140 x, xn_140 x⟩
/-- a program: rows of starts and ends, the stack; its steps may lie anywhere -/
def PRG (h : AH) (r : Nat) : Prop := 109 < r ∧ hK h r = 6 ∧ hR h r 3 = r + 1 ∧ hR h r 4 = r + 2 ∧ hR h r 5 = r + 3 ∧ hK h (r + 1) = 20 ∧ hK h (r + 2) = 20 ∧ hK h (r + 3) = 20 ∧ hN h (r + 1) = 6 ∧ hN h (r + 2) = 6 ∧ hN h (r + 3) = 32
theorem PRG.fr {S T : Nat → Prop} {h h' : AH} {r : Nat} (x : PRG h r) (p : Fr S T h h') : PRG h' r := by
  obtain ⟨x0, x1, x2, x3, x4, x5, x6, x7, x8, x9, x10⟩ := x
  refine ⟨x0, ?_, ?_, ?_, ?_, ?_, ?_, ?_, ?_, ?_, ?_⟩ <;> first | (rw [p.K]; assumption) | (rw [p.N]; assumption) | (rw [p.R (by omega)]; assumption)
theorem prg_rd {h : AH} (x : XLY h) {p : Nat} (hp : p < 4) : PRG h (170 + 5 * p) := by
  have e1 : 170 + 5 * p + 1 = 171 + 5 * p := by omega
  have e2 : 170 + 5 * p + 2 = 172 + 5 * p := by omega
  have e3 : 170 + 5 * p + 3 = 173 + 5 * p := by omega
  unfold PRG
  rw [e1, e2, e3]
  exact ⟨by omega, g_rd_k x hp, f_rd3 x hp, f_rd4 x hp, f_rd5 x hp, g_rd3_k x hp, g_rd4_k x hp, g_rd5_k x hp, g_rd3_n x hp, g_rd4_n x hp, g_rd5_n x hp⟩
theorem prg_117 {h : AH} (x : XLY h) : PRG h 117 := ⟨by omega, xk_117 x, xr_117_3 x, xr_117_4 x, xr_117_5 x, xk_118 x, xk_119 x, xk_120 x, xn_118 x, xn_119 x, xn_120 x⟩
theorem prg_123 {h : AH} (x : XLY h) : PRG h 123 := ⟨by omega, xk_123 x, xr_123_3 x, xr_123_4 x, xr_123_5 x, xk_124 x, xk_125 x, xk_126 x, xn_124 x, xn_125 x, xn_126 x⟩
/-- what marks hold -/
def TLY (h : AH) (r : Nat) : Prop := 104 < r ∧ hK h r = 8 ∧ hR h r 2 = r + 1 ∧ hK h (r + 1) = 20 ∧ hN h (r + 1) = 8
theorem tly_105 {h : AH} (x : XLY h) : TLY h 105 := ⟨by omega, xk_105 x, xr_105_2 x, xk_106 x, xn_106 x⟩
theorem tly_mk {h : AH} (x : XLY h) {p : Nat} (hp : p < 4) : TLY h (334 + 2 * p) := by
  have e1 : 334 + 2 * p + 1 = 335 + 2 * p := by omega
  unfold TLY
  rw [e1]
  exact ⟨by omega, g_mk_k x hp, f_mk2 x hp, g_mk2_k x hp, g_mk2_n x hp⟩
/-- a call's answer may be weakened -/
theorem Cl.mono {d y : Nat} {a : List Value} {h : AH} {Q Q' : Option Value → AH → Prop} (q : Cl d y a h Q) (f : ∀ r h', Q r h' → Q' r h') : Cl d y a h Q' := by
  obtain ⟨n, z, e, w⟩ := q
  exact ⟨n, z, e, f _ _ w⟩
theorem Wp.mono {d : Nat} {P : List IR} {i : Nat} {L S : List Value} {h : AH} {Q Q' : Option Value → AH → Prop} (q : Wp d P i L S h Q) (f : ∀ r h', Q r h' → Q' r h') : Wp d P i L S h Q' := by
  obtain ⟨n, z, e, w⟩ := q
  exact ⟨n, z, e, f _ _ w⟩
/-! numbers -/
theorem tI {n : Nat} (h : n < 2147483648) : (nI n).toInt = (n : Int) := nI_toInt h
theorem cN {n : Nat} (h : n < 2147483648) : (nI n).toNatClampNeg = n := pk_cl n rfl h
theorem n_ex {x : Int32} (n : Nat) (h0 : 0 ≤ x) (h1 : x < Int32.ofNat n) (hn : n < 2147483648) : ∃ k, k < n ∧ x = nI k := by
  have a0 := Int32.le_iff_toInt_le.mp h0
  have a1 := Int32.lt_iff_toInt_lt.mp h1
  have e : (Int32.ofNat n).toInt = n := nI_toInt hn
  have e0 : (0 : Int32).toInt = 0 := rfl
  rw [e] at a1
  rw [e0] at a0
  refine ⟨x.toInt.toNat, by omega, ?_⟩
  apply Int32.toInt_inj.mp
  rw [tI (by omega)]
  omega
theorem nle {a b : Nat} (ha : a < 2147483648) (hb : b < 2147483648) : nI a ≤ nI b ↔ a ≤ b := nI_leI ha hb
theorem nlt {a b : Nat} (ha : a < 2147483648) (hb : b < 2147483648) : nI a < nI b ↔ a < b := nI_ltI ha hb
theorem neq {a b : Nat} (ha : a < 2147483648) (hb : b < 2147483648) : nI a = nI b ↔ a = b := by
  constructor
  · intro e
    have := congrArg Int32.toInt e
    rw [tI ha, tI hb] at this
    omega
  · exact fun e => by rw [e]
theorem nle_l {a b : Nat} (ha : a < 2147483648) (hb : b < 2147483648) : (Int32.ofNat a) ≤ nI b ↔ a ≤ b := nI_leI ha hb
theorem nix {k n : Nat} (hk : k < n) (hn : n < 2147483648) : ixo (nI k) n = true := ixo_of (by rw [tI (by omega)]; omega) (by rw [tI (by omega)]; omega)
theorem nadd (a b : Nat) : nI a + nI b = nI (a + b) := (Int32.ofNat_add a b).symm
theorem nmul (a b : Nat) : nI a * nI b = nI (a * b) := (Int32.ofNat_mul a b).symm
