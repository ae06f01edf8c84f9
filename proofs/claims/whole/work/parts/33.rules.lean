/-! ONE RULE AN INSTRUCTION -/
section RULES
variable {d i j pc w : Nat} {P : List IR} {L S : List Value} {h : AH} {Q : Option Value → AH → Prop} {o : List Nat}
theorem r_iconst {v : Int} {x : Int32} (hq : P[i]? = some (pc, .iconst v, o, w)) (e : Int32.ofInt v = x) (hj : i + 1 = j) : Wp d P i L S h Q ↔ Wp d P j L (.int x :: S) h Q := by subst e; subst hj; exact Wp_plain hq rfl rfl rfl
theorem r_bipush {v : Int} {x : Int32} (hq : P[i]? = some (pc, .bipush v, o, w)) (e : Int32.ofInt v = x) (hj : i + 1 = j) : Wp d P i L S h Q ↔ Wp d P j L (.int x :: S) h Q := by subst e; subst hj; exact Wp_plain hq rfl rfl rfl
theorem r_sipush {v : Int} {x : Int32} (hq : P[i]? = some (pc, .sipush v, o, w)) (e : Int32.ofInt v = x) (hj : i + 1 = j) : Wp d P i L S h Q ↔ Wp d P j L (.int x :: S) h Q := by subst e; subst hj; exact Wp_plain hq rfl rfl rfl
theorem r_iinc {n : Nat} {c : Int} {v x : Int32} {L' : List Value} (hq : P[i]? = some (pc, .iinc n c, o, w)) (hv : L[n]? = some (.int v)) (e : Int32.ofInt c = x) (hL : L.set n (.int (v + x)) = L') (hj : i + 1 = j) : Wp d P i L S h Q ↔ Wp d P j L' S h Q := by
  subst e; subst hj; subst hL
  refine Wp_plain hq rfl rfl (z := (i + 1, L.set n (.int (v + Int32.ofInt c)), S, h)) ?_
  simp only [stp, hv]
/-- a step that only computes -/
theorem r_go {x : Instr} {L' S' : List Value} {h' : AH} (hq : P[i]? = some (pc, x, o, w)) (h1 : isRet x = false) (h2 : isCall x = false) (hs : stp x o i L S h = some (j, L', S', h')) : Wp d P i L S h Q ↔ Wp d P j L' S' h' Q := Wp_plain hq h1 h2 hs
theorem r_icmp {c : ClassFile.Cond} {off : Int} {t : Nat} {x y : Int32} {p : Prop} (hq : P[i]? = some (pc, .if_icmp c off, [t], w)) (hp : (cnd c x y = true) ↔ p) (hj : i + 1 = j) : Wp d P i L (.int y :: .int x :: S) h Q ↔ (p → Wp d P t L S h Q) ∧ (¬ p → Wp d P j L S h Q) := by
  subst hj
  rw [Wp_if (z1 := (t, L, S, h)) (z2 := (i + 1, L, S, h)) hq rfl rfl rfl, hp]
theorem r_if {c : ClassFile.Cond} {off : Int} {t : Nat} {x : Int32} {p : Prop} (hq : P[i]? = some (pc, .ifCond c off, [t], w)) (hp : (cnd c x 0 = true) ↔ p) (hj : i + 1 = j) : Wp d P i L (.int x :: S) h Q ↔ (p → Wp d P t L S h Q) ∧ (¬ p → Wp d P j L S h Q) := by
  subst hj
  rw [Wp_if (z1 := (t, L, S, h)) (z2 := (i + 1, L, S, h)) hq rfl rfl rfl, hp]
theorem cd_eq (x y : Int32) : (cnd .eq x y = true) ↔ x = y := decide_eq_true_iff
theorem cd_ne (x y : Int32) : (cnd .ne x y = true) ↔ ¬ x = y := decide_eq_true_iff
theorem cd_lt (x y : Int32) : (cnd .lt x y = true) ↔ x < y := decide_eq_true_iff
theorem cd_ge (x y : Int32) : (cnd .ge x y = true) ↔ y ≤ x := decide_eq_true_iff
theorem cd_gt (x y : Int32) : (cnd .gt x y = true) ↔ y < x := decide_eq_true_iff
theorem cd_le (x y : Int32) : (cnd .le x y = true) ↔ x ≤ y := decide_eq_true_iff
theorem r_guard {x : Instr} {L' S' : List Value} {h' : AH} {b : Bool} {p : Prop} (hq : P[i]? = some (pc, x, o, w)) (h1 : isRet x = false) (h2 : isCall x = false) (hs : stp x o i L S h = guardo b (some (j, L', S', h'))) (hp : b = true ↔ p) : Wp d P i L S h Q ↔ p ∧ Wp d P j L' S' h' Q := by
  rw [Wp_guard hq h1 h2 hs, hp]
theorem r_acmp {x y t : Nat} {c : ACond} {off : Int} (hq : P[i]? = some (pc, .if_acmp c off, [t], w)) (hj : i + 1 = j) (e : (t, j) = (t, j)) (tt ff : Nat) (hc : (c = .eq ∧ tt = t ∧ ff = j) ∨ (c = .ne ∧ tt = j ∧ ff = t)) : Wp d P i L (.ref y :: .ref x :: S) h Q ↔ (2 ≤ x ∧ x ≤ 25 ∧ 2 ≤ y ∧ y ≤ 25) ∧ (x = y → Wp d P tt L S h Q) ∧ (¬ x = y → Wp d P ff L S h Q) := by
  subst hj
  by_cases g : 2 ≤ x ∧ x ≤ 25 ∧ 2 ≤ y ∧ y ≤ 25
  · have gd : decide (2 ≤ x ∧ x ≤ 25 ∧ 2 ≤ y ∧ y ≤ 25) = true := decide_eq_true g
    rcases hc with ⟨rfl, rfl, rfl⟩ | ⟨rfl, rfl, rfl⟩
    · rw [Wp_if (c := x = y) (dc := Nat.decEq x y) (z1 := (tt, L, S, h)) (z2 := (i + 1, L, S, h)) hq rfl rfl (by simp only [stp, guardo, gd, if_true])]
      exact ⟨fun w => ⟨g, w⟩, fun w => w.2⟩
    · rw [Wp_if (c := x = y) (dc := Nat.decEq x y) (z1 := (i + 1, L, S, h)) (z2 := (ff, L, S, h)) hq rfl rfl (by simp only [stp, guardo, gd, if_true])]
      exact ⟨fun w => ⟨g, w⟩, fun w => w.2⟩
  · have gd : decide (2 ≤ x ∧ x ≤ 25 ∧ 2 ≤ y ∧ y ≤ 25) = false := decide_eq_false g
    have := Wp_none (d := d) (P := P) (i := i) (L := L) (S := .ref y :: .ref x :: S) (h := h) (Q := Q) hq rfl rfl (by simp only [stp, guardo, gd]; rfl)
    exact ⟨fun w => absurd w this, fun w => absurd w.1 g⟩
theorem r_null {x : Nat} {off : Int} {t : Nat} (hq : P[i]? = some (pc, .ifnull off, [t], w)) (hj : i + 1 = j) : Wp d P i L (.ref x :: S) h Q ↔ (x = 0 ∨ 100 ≤ x) ∧ (x = 0 → Wp d P t L S h Q) ∧ (¬ x = 0 → Wp d P j L S h Q) := by
  subst hj
  by_cases g : x = 0 ∨ 100 ≤ x
  · have gd : decide (x = 0 ∨ 100 ≤ x) = true := decide_eq_true g
    rw [Wp_if (c := x = 0) (dc := Nat.decEq x 0) (z1 := (t, L, S, h)) (z2 := (i + 1, L, S, h)) hq rfl rfl (by simp only [stp, guardo, gd, if_true])]
    exact ⟨fun w => ⟨g, w⟩, fun w => w.2⟩
  · have gd : decide (x = 0 ∨ 100 ≤ x) = false := decide_eq_false g
    have := Wp_none (d := d) (P := P) (i := i) (L := L) (S := .ref x :: S) (h := h) (Q := Q) hq rfl rfl (by simp only [stp, guardo, gd]; rfl)
    exact ⟨fun w => absurd w this, fun w => absurd w.1 g⟩
theorem r_nonnull {x : Nat} {off : Int} {t : Nat} (hq : P[i]? = some (pc, .ifnonnull off, [t], w)) (hj : i + 1 = j) : Wp d P i L (.ref x :: S) h Q ↔ (x = 0 ∨ 100 ≤ x) ∧ (x = 0 → Wp d P j L S h Q) ∧ (¬ x = 0 → Wp d P t L S h Q) := by
  subst hj
  by_cases g : x = 0 ∨ 100 ≤ x
  · have gd : decide (x = 0 ∨ 100 ≤ x) = true := decide_eq_true g
    rw [Wp_if (c := x = 0) (dc := Nat.decEq x 0) (z1 := (i + 1, L, S, h)) (z2 := (t, L, S, h)) hq rfl rfl (by simp only [stp, guardo, gd, if_true])]
    exact ⟨fun w => ⟨g, w⟩, fun w => w.2⟩
  · have gd : decide (x = 0 ∨ 100 ≤ x) = false := decide_eq_false g
    have := Wp_none (d := d) (P := P) (i := i) (L := L) (S := .ref x :: S) (h := h) (Q := Q) hq rfl rfl (by simp only [stp, guardo, gd]; rfl)
    exact ⟨fun w => absurd w this, fun w => absurd w.1 g⟩
theorem r_tsw {x : Int32} {df lo hi : Int} {offs : Array Int} {t : Nat} {ts : List Nat} (hq : P[i]? = some (pc, .tableswitch df lo hi offs, t :: ts, w)) : Wp d P i L (.int x :: S) h Q ↔ (x.toInt < lo ∨ lo + ts.length ≤ x.toInt → Wp d P t L S h Q) ∧ (¬ (x.toInt < lo ∨ lo + ts.length ≤ x.toInt) → Wp d P (ts.getD (x.toInt - lo).toNat 0) L S h Q) :=
  Wp_if (z1 := (t, L, S, h)) (z2 := (ts.getD (x.toInt - lo).toNat 0, L, S, h)) hq rfl rfl rfl
theorem r_ret {x : Instr} {v : Option Value} (hq : P[i]? = some (pc, x, o, w)) (h1 : isRet x = true) (hs : retv x S = some v) : Wp d P i L S h Q ↔ Q v h := Wp_ret hq h1 hs
theorem r_call {x : Instr} {y k : Nat} {a S' : List Value} (hq : P[i]? = some (pc, x, [y, k], w)) (h1 : isRet x = false) (h2 : isCall x = true) (hk : (decide (k ≤ S.length) && decide (((S.drop k).map fun v => v.category).sum ≤ 8)) = true) (ha : (S.take k).reverse = a) (hS : S.drop k = S') (hj : i + 1 = j) : Wp d P i L S h Q ↔ Cl d y a h (fun r h' => Wp d P j L (r.toList ++ S') h' Q) := by
  subst hj; exact Wp_call hq h1 h2 rfl hk ha hS
theorem and2 {a b : Bool} {p q : Prop} (h1 : a = true ↔ p) (h2 : b = true ↔ q) : (a && b) = true ↔ p ∧ q := by rw [Bool.and_eq_true, h1, h2]
theorem and_r {p A B : Prop} (h : A ↔ B) : p ∧ A ↔ p ∧ B := by rw [h]
end RULES
theorem pfI {a c k : Nat} {h : AH} {v : Int32} (e : fdk c k = 0) : (decide (hK h a = c) && (decide (fdk c k = 0) || decide (fdk c k = 1) && i01 v)) = true ↔ hK h a = c := by simp [e]
theorem pfZ {a c k : Nat} {h : AH} {v : Int32} (e : fdk c k = 1) : (decide (hK h a = c) && (decide (fdk c k = 0) || decide (fdk c k = 1) && i01 v)) = true ↔ hK h a = c ∧ i01 v = true := by simp [e]
theorem pfR {a c k : Nat} {h : AH} (e : fdk c k = 2) : (decide (hK h a = c) && decide (fdk c k = 2)) = true ↔ hK h a = c := by simp [e]
theorem i32_m9 : Int32.ofInt (-9) = (-9) := by decide
theorem i32_m8 : Int32.ofInt (-8) = (-8) := by decide
theorem i32_m7 : Int32.ofInt (-7) = (-7) := by decide
theorem i32_m6 : Int32.ofInt (-6) = (-6) := by decide
theorem i32_m5 : Int32.ofInt (-5) = (-5) := by decide
theorem i32_m4 : Int32.ofInt (-4) = (-4) := by decide
theorem i32_m3 : Int32.ofInt (-3) = (-3) := by decide
theorem i32_m2 : Int32.ofInt (-2) = (-2) := by decide
theorem i32_m1 : Int32.ofInt (-1) = (-1) := by decide
theorem i32_0 : Int32.ofInt 0 = 0 := by decide
theorem i32_1 : Int32.ofInt 1 = 1 := by decide
theorem i32_2 : Int32.ofInt 2 = 2 := by decide
theorem i32_3 : Int32.ofInt 3 = 3 := by decide
theorem i32_4 : Int32.ofInt 4 = 4 := by decide
theorem i32_5 : Int32.ofInt 5 = 5 := by decide
theorem i32_6 : Int32.ofInt 6 = 6 := by decide
theorem i32_7 : Int32.ofInt 7 = 7 := by decide
theorem i32_8 : Int32.ofInt 8 = 8 := by decide
theorem i32_9 : Int32.ofInt 9 = 9 := by decide
theorem i32_10 : Int32.ofInt 10 = 10 := by decide
theorem i32_11 : Int32.ofInt 11 = 11 := by decide
theorem i32_12 : Int32.ofInt 12 = 12 := by decide
theorem i32_13 : Int32.ofInt 13 = 13 := by decide
theorem i32_14 : Int32.ofInt 14 = 14 := by decide
theorem i32_15 : Int32.ofInt 15 = 15 := by decide
theorem i32_16 : Int32.ofInt 16 = 16 := by decide
theorem i32_17 : Int32.ofInt 17 = 17 := by decide
theorem i32_18 : Int32.ofInt 18 = 18 := by decide
theorem i32_19 : Int32.ofInt 19 = 19 := by decide
theorem i32_20 : Int32.ofInt 20 = 20 := by decide
theorem i32_21 : Int32.ofInt 21 = 21 := by decide
theorem i32_22 : Int32.ofInt 22 = 22 := by decide
theorem i32_23 : Int32.ofInt 23 = 23 := by decide
theorem i32_24 : Int32.ofInt 24 = 24 := by decide
theorem i32_25 : Int32.ofInt 25 = 25 := by decide
theorem i32_30 : Int32.ofInt 30 = 30 := by decide
theorem i32_32 : Int32.ofInt 32 = 32 := by decide
theorem i32_36 : Int32.ofInt 36 = 36 := by decide
theorem i32_40 : Int32.ofInt 40 = 40 := by decide
theorem i32_41 : Int32.ofInt 41 = 41 := by decide
theorem i32_42 : Int32.ofInt 42 = 42 := by decide
theorem i32_43 : Int32.ofInt 43 = 43 := by decide
theorem i32_45 : Int32.ofInt 45 = 45 := by decide
theorem i32_48 : Int32.ofInt 48 = 48 := by decide
theorem i32_56 : Int32.ofInt 56 = 56 := by decide
theorem i32_57 : Int32.ofInt 57 = 57 := by decide
theorem i32_59 : Int32.ofInt 59 = 59 := by decide
theorem i32_60 : Int32.ofInt 60 = 60 := by decide
theorem i32_61 : Int32.ofInt 61 = 61 := by decide
theorem i32_96 : Int32.ofInt 96 = 96 := by decide
theorem i32_97 : Int32.ofInt 97 = 97 := by decide
theorem i32_99 : Int32.ofInt 99 = 99 := by decide
theorem i32_122 : Int32.ofInt 122 = 122 := by decide
theorem i32_126 : Int32.ofInt 126 = 126 := by decide
theorem i32_144 : Int32.ofInt 144 = 144 := by decide
theorem i32_200 : Int32.ofInt 200 = 200 := by decide
theorem i32_255 : Int32.ofInt 255 = 255 := by decide
theorem i32_300 : Int32.ofInt 300 = 300 := by decide
theorem i32_511 : Int32.ofInt 511 = 511 := by decide
theorem i32_900 : Int32.ofInt 900 = 900 := by decide
theorem i32_1000 : Int32.ofInt 1000 = 1000 := by decide
theorem i32_1001 : Int32.ofInt 1001 = 1001 := by decide
theorem i32_1002 : Int32.ofInt 1002 = 1002 := by decide
theorem i32_1100 : Int32.ofInt 1100 = 1100 := by decide
theorem i32_1728 : Int32.ofInt 1728 = 1728 := by decide
theorem i32_5500 : Int32.ofInt 5500 = 5500 := by decide
theorem i32_6600 : Int32.ofInt 6600 = 6600 := by decide
theorem i32_9999 : Int32.ofInt 9999 = 9999 := by decide
theorem i32_10000 : Int32.ofInt 10000 = 10000 := by decide
theorem i32_11000 : Int32.ofInt 11000 = 11000 := by decide
theorem i32_12000 : Int32.ofInt 12000 = 12000 := by decide
theorem i32_13000 : Int32.ofInt 13000 = 13000 := by decide
