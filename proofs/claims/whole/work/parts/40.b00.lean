/-! PenThatJumps$Chair.<init>()V -/
theorem b_Ch_init_0 {d : Nat} (r0 : Nat) (h : AH) (Q : Option Value → AH → Prop) : Wp d P_Ch_init 0 [.ref r0] [] h Q ↔ Cl d 301 [.ref r0] h (fun r h' => Wp d P_Ch_init 2 [.ref r0] (r.toList ++ []) h' Q) :=
    (r_go (j := 1) (L' := [.ref r0]) (S' := [.ref r0]) (h' := h) rfl rfl rfl rfl).trans <|
    r_call (j := 2) (a := [.ref r0]) (S' := []) rfl rfl rfl rfl rfl rfl rfl
theorem b_Ch_init_2 {d : Nat} (r0 : Nat) (h : AH) (Q : Option Value → AH → Prop) : Wp d P_Ch_init 2 [.ref r0] [] h Q ↔ Wp d P_Ch_init 4 [.ref r0] [.ref (hz h), .ref r0] (mkC h 6 0 6) Q :=
    (r_go (j := 3) (L' := [.ref r0]) (S' := [.ref r0]) (h' := h) rfl rfl rfl rfl).trans <|
    r_go (j := 4) (L' := [.ref r0]) (S' := [.ref (hz h), .ref r0]) (h' := (mkC h 6 0 6)) rfl rfl rfl rfl
theorem b_Ch_init_4 {d : Nat} (r0 t0 t1 : Nat) (h : AH) (Q : Option Value → AH → Prop) : Wp d P_Ch_init 4 [.ref r0] [.ref t0, .ref t1] h Q ↔ Cl d q_Pg_init [.ref t0, .int 0] h (fun r h' => Wp d P_Ch_init 7 [.ref r0] (r.toList ++ [.ref t0, .ref t1]) h' Q) :=
    (r_go (j := 5) (L' := [.ref r0]) (S' := [.ref t0, .ref t0, .ref t1]) (h' := h) rfl rfl rfl rfl).trans <|
    (r_iconst (j := 6) (x := 0) rfl i32_0 rfl).trans <|
    r_call (j := 7) (a := [.ref t0, .int 0]) (S' := [.ref t0, .ref t1]) rfl rfl rfl rfl rfl rfl rfl
theorem b_Ch_init_7 {d : Nat} (r0 t0 t1 : Nat) (h : AH) (Q : Option Value → AH → Prop) : Wp d P_Ch_init 7 [.ref r0] [.ref t0, .ref t1] h Q ↔ (hK h t1 = 0) ∧ (Wp d P_Ch_init 8 [.ref r0] [] (sR h t1 0 t0) Q) :=
    r_guard (j := 8) (L' := [.ref r0]) (S' := []) (h' := (sR h t1 0 t0)) (p := hK h t1 = 0) rfl rfl rfl rfl (pfR rfl)
theorem b_Ch_init_8 {d : Nat} (r0 : Nat) (h : AH) (Q : Option Value → AH → Prop) : Wp d P_Ch_init 8 [.ref r0] [] h Q ↔ ((0 : Int32) ≤ 12 ∧ Int32.toNatClampNeg 12 ≤ 10000) ∧ (Wp d P_Ch_init 11 [.ref r0] [.ref (hz h), .ref r0] (mkC h 20 (Int32.toNatClampNeg 12) (Int32.toNatClampNeg 12)) Q) :=
    (r_go (j := 9) (L' := [.ref r0]) (S' := [.ref r0]) (h' := h) rfl rfl rfl rfl).trans <|
    (r_bipush (j := 10) (x := 12) rfl i32_12 rfl).trans <|
    r_guard (j := 11) (L' := [.ref r0]) (S' := [.ref (hz h), .ref r0]) (h' := (mkC h 20 (Int32.toNatClampNeg 12) (Int32.toNatClampNeg 12))) (p := (0 : Int32) ≤ 12 ∧ Int32.toNatClampNeg 12 ≤ 10000) rfl rfl rfl rfl (and2 decide_eq_true_iff decide_eq_true_iff)
theorem b_Ch_init_11 {d : Nat} (r0 t0 t1 : Nat) (h : AH) (Q : Option Value → AH → Prop) : Wp d P_Ch_init 11 [.ref r0] [.ref t0, .ref t1] h Q ↔ (hK h t1 = 0) ∧ (Wp d P_Ch_init 12 [.ref r0] [] (sR h t1 1 t0) Q) :=
    r_guard (j := 12) (L' := [.ref r0]) (S' := []) (h' := (sR h t1 1 t0)) (p := hK h t1 = 0) rfl rfl rfl rfl (pfR rfl)
theorem b_Ch_init_12 {d : Nat} (r0 : Nat) (h : AH) (Q : Option Value → AH → Prop) : Wp d P_Ch_init 12 [.ref r0] [] h Q ↔ ((0 : Int32) ≤ 3 ∧ Int32.toNatClampNeg 3 ≤ 10000) ∧ (Wp d P_Ch_init 15 [.ref r0] [.ref (hz h), .ref r0] (mkC h 20 (Int32.toNatClampNeg 3) (Int32.toNatClampNeg 3)) Q) :=
    (r_go (j := 13) (L' := [.ref r0]) (S' := [.ref r0]) (h' := h) rfl rfl rfl rfl).trans <|
    (r_iconst (j := 14) (x := 3) rfl i32_3 rfl).trans <|
    r_guard (j := 15) (L' := [.ref r0]) (S' := [.ref (hz h), .ref r0]) (h' := (mkC h 20 (Int32.toNatClampNeg 3) (Int32.toNatClampNeg 3))) (p := (0 : Int32) ≤ 3 ∧ Int32.toNatClampNeg 3 ≤ 10000) rfl rfl rfl rfl (and2 decide_eq_true_iff decide_eq_true_iff)
theorem b_Ch_init_15 {d : Nat} (r0 t0 t1 : Nat) (h : AH) (Q : Option Value → AH → Prop) : Wp d P_Ch_init 15 [.ref r0] [.ref t0, .ref t1] h Q ↔ (hK h t1 = 0) ∧ (Wp d P_Ch_init 16 [.ref r0] [] (sR h t1 2 t0) Q) :=
    r_guard (j := 16) (L' := [.ref r0]) (S' := []) (h' := (sR h t1 2 t0)) (p := hK h t1 = 0) rfl rfl rfl rfl (pfR rfl)
theorem b_Ch_init_16 {d : Nat} (r0 : Nat) (h : AH) (Q : Option Value → AH → Prop) : Wp d P_Ch_init 16 [.ref r0] [] h Q ↔ Q (none) h :=
    r_ret rfl rfl rfl
theorem e_Ch_init {d : Nat} (r0 : Nat) (h : AH) (Q : Option Value → AH → Prop) : Cl (d + 1) q_Ch_init [.ref r0] h Q ↔ hK h r0 = 0 ∧ Wp d P_Ch_init 0 [.ref r0] [] h (fun r h' => rtk (none) r = true ∧ Q r h') :=
    (Cl_method (t := m_Ch_init) rfl).trans (and_congr_left fun _ => decide_eq_true_iff)
/-! PenThatJumps$Chair.fill(LPenThatJumps$Person;LPenThatJumps$Plan;[I)V -/
theorem b_Ch_fill_0 {d : Nat} (r0 r1 r2 r3 : Nat) (h : AH) (Q : Option Value → AH → Prop) : Wp d P_Ch_fill 0 [.ref r0, .ref r1, .ref r2, .ref r3, .null, .null, .null] [] h Q ↔ Wp d P_Ch_fill 2 [.ref r0, .ref r1, .ref r2, .ref r3, .int 0, .null, .null] [] h Q :=
    (r_iconst (j := 1) (x := 0) rfl i32_0 rfl).trans <|
    r_go (j := 2) (L' := [.ref r0, .ref r1, .ref r2, .ref r3, .int 0, .null, .null]) (S' := []) (h' := h) rfl rfl rfl rfl
theorem b_Ch_fill_2 {d : Nat} (x4 : Int32) (r0 r1 r2 r3 : Nat) (v5 v6 : Value) (h : AH) (Q : Option Value → AH → Prop) : Wp d P_Ch_fill 2 [.ref r0, .ref r1, .ref r2, .ref r3, .int x4, v5, v6] [] h Q ↔ (hK h r2 = 4) ∧ (((hI h r2 3) ≤ x4 → Wp d P_Ch_fill 49 [.ref r0, .ref r1, .ref r2, .ref r3, .int x4, v5, v6] [] h Q) ∧ (¬ ((hI h r2 3) ≤ x4) → Wp d P_Ch_fill 6 [.ref r0, .ref r1, .ref r2, .ref r3, .int x4, v5, v6] [] h Q)) :=
    (r_go (j := 3) (L' := [.ref r0, .ref r1, .ref r2, .ref r3, .int x4, v5, v6]) (S' := [.int x4]) (h' := h) rfl rfl rfl rfl).trans <|
    (r_go (j := 4) (L' := [.ref r0, .ref r1, .ref r2, .ref r3, .int x4, v5, v6]) (S' := [.ref r2, .int x4]) (h' := h) rfl rfl rfl rfl).trans <|
    (r_guard (j := 5) (L' := [.ref r0, .ref r1, .ref r2, .ref r3, .int x4, v5, v6]) (S' := [.int (hI h r2 3), .int x4]) (h' := h) (p := hK h r2 = 4) rfl rfl rfl rfl (decide_eq_true_iff)).trans <| and_r <|
    r_icmp (j := 6) rfl (cd_ge _ _) rfl
theorem b_Ch_fill_6 {d : Nat} (x4 : Int32) (r0 r1 r2 r3 : Nat) (v5 v6 : Value) (h : AH) (Q : Option Value → AH → Prop) : Wp d P_Ch_fill 6 [.ref r0, .ref r1, .ref r2, .ref r3, .int x4, v5, v6] [] h Q ↔ Cl d q_Pl_ahead [.ref r2, .int x4] h (fun r h' => Wp d P_Ch_fill 13 [.ref r0, .ref r1, .ref r2, .ref r3, .int x4, v5, v6] (r.toList ++ [.int x4, .ref r2, .ref r1, .ref r0]) h' Q) :=
    (r_go (j := 7) (L' := [.ref r0, .ref r1, .ref r2, .ref r3, .int x4, v5, v6]) (S' := [.ref r0]) (h' := h) rfl rfl rfl rfl).trans <|
    (r_go (j := 8) (L' := [.ref r0, .ref r1, .ref r2, .ref r3, .int x4, v5, v6]) (S' := [.ref r1, .ref r0]) (h' := h) rfl rfl rfl rfl).trans <|
    (r_go (j := 9) (L' := [.ref r0, .ref r1, .ref r2, .ref r3, .int x4, v5, v6]) (S' := [.ref r2, .ref r1, .ref r0]) (h' := h) rfl rfl rfl rfl).trans <|
    (r_go (j := 10) (L' := [.ref r0, .ref r1, .ref r2, .ref r3, .int x4, v5, v6]) (S' := [.int x4, .ref r2, .ref r1, .ref r0]) (h' := h) rfl rfl rfl rfl).trans <|
    (r_go (j := 11) (L' := [.ref r0, .ref r1, .ref r2, .ref r3, .int x4, v5, v6]) (S' := [.ref r2, .int x4, .ref r2, .ref r1, .ref r0]) (h' := h) rfl rfl rfl rfl).trans <|
    (r_go (j := 12) (L' := [.ref r0, .ref r1, .ref r2, .ref r3, .int x4, v5, v6]) (S' := [.int x4, .ref r2, .int x4, .ref r2, .ref r1, .ref r0]) (h' := h) rfl rfl rfl rfl).trans <|
    r_call (j := 13) (a := [.ref r2, .int x4]) (S' := [.int x4, .ref r2, .ref r1, .ref r0]) rfl rfl rfl rfl rfl rfl rfl
theorem b_Ch_fill_13 {d : Nat} (x4 s0 s1 : Int32) (r0 r1 r2 r3 t2 t3 t4 : Nat) (v5 v6 : Value) (h : AH) (Q : Option Value → AH → Prop) : Wp d P_Ch_fill 13 [.ref r0, .ref r1, .ref r2, .ref r3, .int x4, v5, v6] [.int s0, .int s1, .ref t2, .ref t3, .ref t4] h Q ↔ Cl d q_Ch_pose [.ref t4, .ref t3, .ref t2, .int s1, .int s0, .int x4] h (fun r h' => Wp d P_Ch_fill 15 [.ref r0, .ref r1, .ref r2, .ref r3, .int x4, v5, v6] (r.toList ++ []) h' Q) :=
    (r_go (j := 14) (L' := [.ref r0, .ref r1, .ref r2, .ref r3, .int x4, v5, v6]) (S' := [.int x4, .int s0, .int s1, .ref t2, .ref t3, .ref t4]) (h' := h) rfl rfl rfl rfl).trans <|
    r_call (j := 15) (a := [.ref t4, .ref t3, .ref t2, .int s1, .int s0, .int x4]) (S' := []) rfl rfl rfl rfl rfl rfl rfl
theorem b_Ch_fill_15 {d : Nat} (x4 : Int32) (r0 r1 r2 r3 : Nat) (v5 v6 : Value) (h : AH) (Q : Option Value → AH → Prop) : Wp d P_Ch_fill 15 [.ref r0, .ref r1, .ref r2, .ref r3, .int x4, v5, v6] [] h Q ↔ Wp d P_Ch_fill 17 [.ref r0, .ref r1, .ref r2, .ref r3, .int x4, .int 0, v6] [] h Q :=
    (r_iconst (j := 16) (x := 0) rfl i32_0 rfl).trans <|
    r_go (j := 17) (L' := [.ref r0, .ref r1, .ref r2, .ref r3, .int x4, .int 0, v6]) (S' := []) (h' := h) rfl rfl rfl rfl
theorem b_Ch_fill_17 {d : Nat} (x4 x5 : Int32) (r0 r1 r2 r3 : Nat) (v6 : Value) (h : AH) (Q : Option Value → AH → Prop) : Wp d P_Ch_fill 17 [.ref r0, .ref r1, .ref r2, .ref r3, .int x4, .int x5, v6] [] h Q ↔ (12 ≤ x5 → Wp d P_Ch_fill 47 [.ref r0, .ref r1, .ref r2, .ref r3, .int x4, .int x5, v6] [] h Q) ∧ (¬ (12 ≤ x5) → Wp d P_Ch_fill 20 [.ref r0, .ref r1, .ref r2, .ref r3, .int x4, .int x5, v6] [] h Q) :=
    (r_go (j := 18) (L' := [.ref r0, .ref r1, .ref r2, .ref r3, .int x4, .int x5, v6]) (S' := [.int x5]) (h' := h) rfl rfl rfl rfl).trans <|
    (r_bipush (j := 19) (x := 12) rfl i32_12 rfl).trans <|
    r_icmp (j := 20) rfl (cd_ge _ _) rfl
theorem b_Ch_fill_20 {d : Nat} (x4 x5 : Int32) (r0 r1 r2 r3 : Nat) (v6 : Value) (h : AH) (Q : Option Value → AH → Prop) : Wp d P_Ch_fill 20 [.ref r0, .ref r1, .ref r2, .ref r3, .int x4, .int x5, v6] [] h Q ↔ ((((x4 * 3) * 4) + x5) < 0 → Wp d P_Ch_fill 45 [.ref r0, .ref r1, .ref r2, .ref r3, .int x4, .int x5, .int (((x4 * 3) * 4) + x5)] [] h Q) ∧ (¬ ((((x4 * 3) * 4) + x5) < 0) → Wp d P_Ch_fill 30 [.ref r0, .ref r1, .ref r2, .ref r3, .int x4, .int x5, .int (((x4 * 3) * 4) + x5)] [] h Q) :=
    (r_go (j := 21) (L' := [.ref r0, .ref r1, .ref r2, .ref r3, .int x4, .int x5, v6]) (S' := [.int x4]) (h' := h) rfl rfl rfl rfl).trans <|
    (r_iconst (j := 22) (x := 3) rfl i32_3 rfl).trans <|
    (r_go (j := 23) (L' := [.ref r0, .ref r1, .ref r2, .ref r3, .int x4, .int x5, v6]) (S' := [.int (x4 * 3)]) (h' := h) rfl rfl rfl rfl).trans <|
    (r_iconst (j := 24) (x := 4) rfl i32_4 rfl).trans <|
    (r_go (j := 25) (L' := [.ref r0, .ref r1, .ref r2, .ref r3, .int x4, .int x5, v6]) (S' := [.int ((x4 * 3) * 4)]) (h' := h) rfl rfl rfl rfl).trans <|
    (r_go (j := 26) (L' := [.ref r0, .ref r1, .ref r2, .ref r3, .int x4, .int x5, v6]) (S' := [.int x5, .int ((x4 * 3) * 4)]) (h' := h) rfl rfl rfl rfl).trans <|
    (r_go (j := 27) (L' := [.ref r0, .ref r1, .ref r2, .ref r3, .int x4, .int x5, v6]) (S' := [.int (((x4 * 3) * 4) + x5)]) (h' := h) rfl rfl rfl rfl).trans <|
    (r_go (j := 28) (L' := [.ref r0, .ref r1, .ref r2, .ref r3, .int x4, .int x5, .int (((x4 * 3) * 4) + x5)]) (S' := []) (h' := h) rfl rfl rfl rfl).trans <|
    (r_go (j := 29) (L' := [.ref r0, .ref r1, .ref r2, .ref r3, .int x4, .int x5, .int (((x4 * 3) * 4) + x5)]) (S' := [.int (((x4 * 3) * 4) + x5)]) (h' := h) rfl rfl rfl rfl).trans <|
    r_if (j := 30) rfl (cd_lt _ _) rfl
theorem b_Ch_fill_30 {d : Nat} (x4 x5 x6 : Int32) (r0 r1 r2 r3 : Nat) (h : AH) (Q : Option Value → AH → Prop) : Wp d P_Ch_fill 30 [.ref r0, .ref r1, .ref r2, .ref r3, .int x4, .int x5, .int x6] [] h Q ↔ (20 ≤ hK h r3 ∧ hK h r3 ≠ 40 ∧ hK h r3 ≠ 42 ∧ hK h r3 ≤ 45 ∧ hK h r3 ≠ 43) ∧ (((Int32.ofNat (hN h r3)) ≤ x6 → Wp d P_Ch_fill 45 [.ref r0, .ref r1, .ref r2, .ref r3, .int x4, .int x5, .int x6] [] h Q) ∧ (¬ ((Int32.ofNat (hN h r3)) ≤ x6) → Wp d P_Ch_fill 34 [.ref r0, .ref r1, .ref r2, .ref r3, .int x4, .int x5, .int x6] [] h Q)) :=
    (r_go (j := 31) (L' := [.ref r0, .ref r1, .ref r2, .ref r3, .int x4, .int x5, .int x6]) (S' := [.int x6]) (h' := h) rfl rfl rfl rfl).trans <|
    (r_go (j := 32) (L' := [.ref r0, .ref r1, .ref r2, .ref r3, .int x4, .int x5, .int x6]) (S' := [.ref r3, .int x6]) (h' := h) rfl rfl rfl rfl).trans <|
    (r_guard (j := 33) (L' := [.ref r0, .ref r1, .ref r2, .ref r3, .int x4, .int x5, .int x6]) (S' := [.int (Int32.ofNat (hN h r3)), .int x6]) (h' := h) (p := 20 ≤ hK h r3 ∧ hK h r3 ≠ 40 ∧ hK h r3 ≠ 42 ∧ hK h r3 ≤ 45 ∧ hK h r3 ≠ 43) rfl rfl rfl rfl (decide_eq_true_iff)).trans <| and_r <|
    r_icmp (j := 34) rfl (cd_ge _ _) rfl
theorem b_Ch_fill_34 {d : Nat} (x4 x5 x6 : Int32) (r0 r1 r2 r3 : Nat) (h : AH) (Q : Option Value → AH → Prop) : Wp d P_Ch_fill 34 [.ref r0, .ref r1, .ref r2, .ref r3, .int x4, .int x5, .int x6] [] h Q ↔ (¬ 4 = 0) ∧ ((¬ 4 = 0) ∧ (Cl d q_Ch_jumpOf [.ref r0, .int (x5 / 4), .int (x5 - x5 / 4 * 4)] h (fun r h' => Wp d P_Ch_fill 44 [.ref r0, .ref r1, .ref r2, .ref r3, .int x4, .int x5, .int x6] (r.toList ++ [.int x6, .ref r3]) h' Q))) :=
    (r_go (j := 35) (L' := [.ref r0, .ref r1, .ref r2, .ref r3, .int x4, .int x5, .int x6]) (S' := [.ref r3]) (h' := h) rfl rfl rfl rfl).trans <|
    (r_go (j := 36) (L' := [.ref r0, .ref r1, .ref r2, .ref r3, .int x4, .int x5, .int x6]) (S' := [.int x6, .ref r3]) (h' := h) rfl rfl rfl rfl).trans <|
    (r_go (j := 37) (L' := [.ref r0, .ref r1, .ref r2, .ref r3, .int x4, .int x5, .int x6]) (S' := [.ref r0, .int x6, .ref r3]) (h' := h) rfl rfl rfl rfl).trans <|
    (r_go (j := 38) (L' := [.ref r0, .ref r1, .ref r2, .ref r3, .int x4, .int x5, .int x6]) (S' := [.int x5, .ref r0, .int x6, .ref r3]) (h' := h) rfl rfl rfl rfl).trans <|
    (r_iconst (j := 39) (x := 4) rfl i32_4 rfl).trans <|
    (r_guard (j := 40) (L' := [.ref r0, .ref r1, .ref r2, .ref r3, .int x4, .int x5, .int x6]) (S' := [.int (x5 / 4), .ref r0, .int x6, .ref r3]) (h' := h) (p := ¬ 4 = 0) rfl rfl rfl rfl (decide_eq_true_iff)).trans <| and_r <|
    (r_go (j := 41) (L' := [.ref r0, .ref r1, .ref r2, .ref r3, .int x4, .int x5, .int x6]) (S' := [.int x5, .int (x5 / 4), .ref r0, .int x6, .ref r3]) (h' := h) rfl rfl rfl rfl).trans <|
    (r_iconst (j := 42) (x := 4) rfl i32_4 rfl).trans <|
    (r_guard (j := 43) (L' := [.ref r0, .ref r1, .ref r2, .ref r3, .int x4, .int x5, .int x6]) (S' := [.int (x5 - x5 / 4 * 4), .int (x5 / 4), .ref r0, .int x6, .ref r3]) (h' := h) (p := ¬ 4 = 0) rfl rfl rfl rfl (decide_eq_true_iff)).trans <| and_r <|
    r_call (j := 44) (a := [.ref r0, .int (x5 / 4), .int (x5 - x5 / 4 * 4)]) (S' := [.int x6, .ref r3]) rfl rfl rfl rfl rfl rfl rfl
theorem b_Ch_fill_44 {d : Nat} (x4 x5 x6 s0 s1 : Int32) (r0 r1 r2 r3 t2 : Nat) (h : AH) (Q : Option Value → AH → Prop) : Wp d P_Ch_fill 44 [.ref r0, .ref r1, .ref r2, .ref r3, .int x4, .int x5, .int x6] [.int s0, .int s1, .ref t2] h Q ↔ (hK h t2 = 20 ∧ ixo s1 (hN h t2) = true) ∧ (Wp d P_Ch_fill 45 [.ref r0, .ref r1, .ref r2, .ref r3, .int x4, .int x5, .int x6] [] (sI h t2 (Int32.toNatClampNeg s1) s0) Q) :=
    r_guard (j := 45) (L' := [.ref r0, .ref r1, .ref r2, .ref r3, .int x4, .int x5, .int x6]) (S' := []) (h' := (sI h t2 (Int32.toNatClampNeg s1) s0)) (p := hK h t2 = 20 ∧ ixo s1 (hN h t2) = true) rfl rfl rfl rfl (and2 decide_eq_true_iff Iff.rfl)
theorem b_Ch_fill_45 {d : Nat} (x4 x5 x6 : Int32) (r0 r1 r2 r3 : Nat) (h : AH) (Q : Option Value → AH → Prop) : Wp d P_Ch_fill 45 [.ref r0, .ref r1, .ref r2, .ref r3, .int x4, .int x5, .int x6] [] h Q ↔ Wp d P_Ch_fill 17 [.ref r0, .ref r1, .ref r2, .ref r3, .int x4, .int (x5 + 1), .int x6] [] h Q :=
    (r_iinc (j := 46) (x := 1) (L' := [.ref r0, .ref r1, .ref r2, .ref r3, .int x4, .int (x5 + 1), .int x6]) rfl rfl i32_1 rfl rfl).trans <|
    r_go (j := 17) (L' := [.ref r0, .ref r1, .ref r2, .ref r3, .int x4, .int (x5 + 1), .int x6]) (S' := []) (h' := h) rfl rfl rfl rfl
theorem b_Ch_fill_47 {d : Nat} (x4 x5 : Int32) (r0 r1 r2 r3 : Nat) (v6 : Value) (h : AH) (Q : Option Value → AH → Prop) : Wp d P_Ch_fill 47 [.ref r0, .ref r1, .ref r2, .ref r3, .int x4, .int x5, v6] [] h Q ↔ Wp d P_Ch_fill 2 [.ref r0, .ref r1, .ref r2, .ref r3, .int (x4 + 1), .int x5, v6] [] h Q :=
    (r_iinc (j := 48) (x := 1) (L' := [.ref r0, .ref r1, .ref r2, .ref r3, .int (x4 + 1), .int x5, v6]) rfl rfl i32_1 rfl rfl).trans <|
    r_go (j := 2) (L' := [.ref r0, .ref r1, .ref r2, .ref r3, .int (x4 + 1), .int x5, v6]) (S' := []) (h' := h) rfl rfl rfl rfl
theorem b_Ch_fill_49 {d : Nat} (x4 : Int32) (r0 r1 r2 r3 : Nat) (v5 v6 : Value) (h : AH) (Q : Option Value → AH → Prop) : Wp d P_Ch_fill 49 [.ref r0, .ref r1, .ref r2, .ref r3, .int x4, v5, v6] [] h Q ↔ Q (none) h :=
    r_ret rfl rfl rfl
theorem e_Ch_fill {d : Nat} (r0 r1 r2 r3 : Nat) (h : AH) (Q : Option Value → AH → Prop) : Cl (d + 1) q_Ch_fill [.ref r0, .ref r1, .ref r2, .ref r3] h Q ↔ hK h r0 = 0 ∧ Wp d P_Ch_fill 0 [.ref r0, .ref r1, .ref r2, .ref r3, .null, .null, .null] [] h (fun r h' => rtk (none) r = true ∧ Q r h') :=
    (Cl_method (t := m_Ch_fill) rfl).trans (and_congr_left fun _ => decide_eq_true_iff)
/-! PenThatJumps$Chair.spread(LPenThatJumps$Person;LPenThatJumps$Person;LPenThatJumps$Plan;III)I -/
theorem b_Ch_spread_0 {d : Nat} (x4 x5 x6 : Int32) (r0 r1 r2 r3 : Nat) (h : AH) (Q : Option Value → AH → Prop) : Wp d P_Ch_spread 0 [.ref r0, .ref r1, .ref r2, .ref r3, .int x4, .int x5, .int x6, .null, .null] [] h Q ↔ Cl d q_Ch_pose [.ref r0, .ref r1, .ref r3, .int x4, .int x5, .int x6] h (fun r h' => Wp d P_Ch_spread 7 [.ref r0, .ref r1, .ref r2, .ref r3, .int x4, .int x5, .int x6, .null, .null] (r.toList ++ []) h' Q) :=
    (r_go (j := 1) (L' := [.ref r0, .ref r1, .ref r2, .ref r3, .int x4, .int x5, .int x6, .null, .null]) (S' := [.ref r0]) (h' := h) rfl rfl rfl rfl).trans <|
    (r_go (j := 2) (L' := [.ref r0, .ref r1, .ref r2, .ref r3, .int x4, .int x5, .int x6, .null, .null]) (S' := [.ref r1, .ref r0]) (h' := h) rfl rfl rfl rfl).trans <|
    (r_go (j := 3) (L' := [.ref r0, .ref r1, .ref r2, .ref r3, .int x4, .int x5, .int x6, .null, .null]) (S' := [.ref r3, .ref r1, .ref r0]) (h' := h) rfl rfl rfl rfl).trans <|
    (r_go (j := 4) (L' := [.ref r0, .ref r1, .ref r2, .ref r3, .int x4, .int x5, .int x6, .null, .null]) (S' := [.int x4, .ref r3, .ref r1, .ref r0]) (h' := h) rfl rfl rfl rfl).trans <|
    (r_go (j := 5) (L' := [.ref r0, .ref r1, .ref r2, .ref r3, .int x4, .int x5, .int x6, .null, .null]) (S' := [.int x5, .int x4, .ref r3, .ref r1, .ref r0]) (h' := h) rfl rfl rfl rfl).trans <|
    (r_go (j := 6) (L' := [.ref r0, .ref r1, .ref r2, .ref r3, .int x4, .int x5, .int x6, .null, .null]) (S' := [.int x6, .int x5, .int x4, .ref r3, .ref r1, .ref r0]) (h' := h) rfl rfl rfl rfl).trans <|
    r_call (j := 7) (a := [.ref r0, .ref r1, .ref r3, .int x4, .int x5, .int x6]) (S' := []) rfl rfl rfl rfl rfl rfl rfl
theorem b_Ch_spread_7 {d : Nat} (x4 x5 x6 : Int32) (r0 r1 r2 r3 : Nat) (h : AH) (Q : Option Value → AH → Prop) : Wp d P_Ch_spread 7 [.ref r0, .ref r1, .ref r2, .ref r3, .int x4, .int x5, .int x6, .null, .null] [] h Q ↔ Wp d P_Ch_spread 9 [.ref r0, .ref r1, .ref r2, .ref r3, .int x4, .int x5, .int x6, .int 0, .null] [] h Q :=
    (r_iconst (j := 8) (x := 0) rfl i32_0 rfl).trans <|
    r_go (j := 9) (L' := [.ref r0, .ref r1, .ref r2, .ref r3, .int x4, .int x5, .int x6, .int 0, .null]) (S' := []) (h' := h) rfl rfl rfl rfl
theorem b_Ch_spread_9 {d : Nat} (x4 x5 x6 x7 : Int32) (r0 r1 r2 r3 : Nat) (h : AH) (Q : Option Value → AH → Prop) : Wp d P_Ch_spread 9 [.ref r0, .ref r1, .ref r2, .ref r3, .int x4, .int x5, .int x6, .int x7, .null] [] h Q ↔ (hK h r0 = 0) ∧ ((20 ≤ hK h (hR h r0 2) ∧ hK h (hR h r0 2) ≠ 40 ∧ hK h (hR h r0 2) ≠ 42 ∧ hK h (hR h r0 2) ≤ 45 ∧ hK h (hR h r0 2) ≠ 43) ∧ (((Int32.ofNat (hN h (hR h r0 2))) ≤ x7 → Wp d P_Ch_spread 24 [.ref r0, .ref r1, .ref r2, .ref r3, .int x4, .int x5, .int x6, .int x7, .null] [] h Q) ∧ (¬ ((Int32.ofNat (hN h (hR h r0 2))) ≤ x7) → Wp d P_Ch_spread 14 [.ref r0, .ref r1, .ref r2, .ref r3, .int x4, .int x5, .int x6, .int x7, .null] [] h Q))) :=
    (r_go (j := 10) (L' := [.ref r0, .ref r1, .ref r2, .ref r3, .int x4, .int x5, .int x6, .int x7, .null]) (S' := [.int x7]) (h' := h) rfl rfl rfl rfl).trans <|
    (r_go (j := 11) (L' := [.ref r0, .ref r1, .ref r2, .ref r3, .int x4, .int x5, .int x6, .int x7, .null]) (S' := [.ref r0, .int x7]) (h' := h) rfl rfl rfl rfl).trans <|
    (r_guard (j := 12) (L' := [.ref r0, .ref r1, .ref r2, .ref r3, .int x4, .int x5, .int x6, .int x7, .null]) (S' := [.ref (hR h r0 2), .int x7]) (h' := h) (p := hK h r0 = 0) rfl rfl rfl rfl (decide_eq_true_iff)).trans <| and_r <|
    (r_guard (j := 13) (L' := [.ref r0, .ref r1, .ref r2, .ref r3, .int x4, .int x5, .int x6, .int x7, .null]) (S' := [.int (Int32.ofNat (hN h (hR h r0 2))), .int x7]) (h' := h) (p := 20 ≤ hK h (hR h r0 2) ∧ hK h (hR h r0 2) ≠ 40 ∧ hK h (hR h r0 2) ≠ 42 ∧ hK h (hR h r0 2) ≤ 45 ∧ hK h (hR h r0 2) ≠ 43) rfl rfl rfl rfl (decide_eq_true_iff)).trans <| and_r <|
    r_icmp (j := 14) rfl (cd_ge _ _) rfl
theorem b_Ch_spread_14 {d : Nat} (x4 x5 x6 x7 : Int32) (r0 r1 r2 r3 : Nat) (h : AH) (Q : Option Value → AH → Prop) : Wp d P_Ch_spread 14 [.ref r0, .ref r1, .ref r2, .ref r3, .int x4, .int x5, .int x6, .int x7, .null] [] h Q ↔ (hK h r0 = 0) ∧ (Cl d q_Ch_jumpOf [.ref r0, .int x7, .int 0] h (fun r h' => Wp d P_Ch_spread 21 [.ref r0, .ref r1, .ref r2, .ref r3, .int x4, .int x5, .int x6, .int x7, .null] (r.toList ++ [.int x7, .ref (hR h r0 2)]) h' Q)) :=
    (r_go (j := 15) (L' := [.ref r0, .ref r1, .ref r2, .ref r3, .int x4, .int x5, .int x6, .int x7, .null]) (S' := [.ref r0]) (h' := h) rfl rfl rfl rfl).trans <|
    (r_guard (j := 16) (L' := [.ref r0, .ref r1, .ref r2, .ref r3, .int x4, .int x5, .int x6, .int x7, .null]) (S' := [.ref (hR h r0 2)]) (h' := h) (p := hK h r0 = 0) rfl rfl rfl rfl (decide_eq_true_iff)).trans <| and_r <|
    (r_go (j := 17) (L' := [.ref r0, .ref r1, .ref r2, .ref r3, .int x4, .int x5, .int x6, .int x7, .null]) (S' := [.int x7, .ref (hR h r0 2)]) (h' := h) rfl rfl rfl rfl).trans <|
    (r_go (j := 18) (L' := [.ref r0, .ref r1, .ref r2, .ref r3, .int x4, .int x5, .int x6, .int x7, .null]) (S' := [.ref r0, .int x7, .ref (hR h r0 2)]) (h' := h) rfl rfl rfl rfl).trans <|
    (r_go (j := 19) (L' := [.ref r0, .ref r1, .ref r2, .ref r3, .int x4, .int x5, .int x6, .int x7, .null]) (S' := [.int x7, .ref r0, .int x7, .ref (hR h r0 2)]) (h' := h) rfl rfl rfl rfl).trans <|
    (r_iconst (j := 20) (x := 0) rfl i32_0 rfl).trans <|
    r_call (j := 21) (a := [.ref r0, .int x7, .int 0]) (S' := [.int x7, .ref (hR h r0 2)]) rfl rfl rfl rfl rfl rfl rfl
theorem b_Ch_spread_21 {d : Nat} (x4 x5 x6 x7 s0 s1 : Int32) (r0 r1 r2 r3 t2 : Nat) (h : AH) (Q : Option Value → AH → Prop) : Wp d P_Ch_spread 21 [.ref r0, .ref r1, .ref r2, .ref r3, .int x4, .int x5, .int x6, .int x7, .null] [.int s0, .int s1, .ref t2] h Q ↔ (hK h t2 = 20 ∧ ixo s1 (hN h t2) = true) ∧ (Wp d P_Ch_spread 9 [.ref r0, .ref r1, .ref r2, .ref r3, .int x4, .int x5, .int x6, .int (x7 + 1), .null] [] (sI h t2 (Int32.toNatClampNeg s1) s0) Q) :=
    (r_guard (j := 22) (L' := [.ref r0, .ref r1, .ref r2, .ref r3, .int x4, .int x5, .int x6, .int x7, .null]) (S' := []) (h' := (sI h t2 (Int32.toNatClampNeg s1) s0)) (p := hK h t2 = 20 ∧ ixo s1 (hN h t2) = true) rfl rfl rfl rfl (and2 decide_eq_true_iff Iff.rfl)).trans <| and_r <|
    (r_iinc (j := 23) (x := 1) (L' := [.ref r0, .ref r1, .ref r2, .ref r3, .int x4, .int x5, .int x6, .int (x7 + 1), .null]) rfl rfl i32_1 rfl rfl).trans <|
    r_go (j := 9) (L' := [.ref r0, .ref r1, .ref r2, .ref r3, .int x4, .int x5, .int x6, .int (x7 + 1), .null]) (S' := []) (h' := (sI h t2 (Int32.toNatClampNeg s1) s0)) rfl rfl rfl rfl
theorem b_Ch_spread_24 {d : Nat} (x4 x5 x6 x7 : Int32) (r0 r1 r2 r3 : Nat) (h : AH) (Q : Option Value → AH → Prop) : Wp d P_Ch_spread 24 [.ref r0, .ref r1, .ref r2, .ref r3, .int x4, .int x5, .int x6, .int x7, .null] [] h Q ↔ Cl d q_Ch_pose [.ref r0, .ref r2, .ref r3, .int x4, .int x5, .int x6] h (fun r h' => Wp d P_Ch_spread 31 [.ref r0, .ref r1, .ref r2, .ref r3, .int x4, .int x5, .int x6, .int x7, .null] (r.toList ++ []) h' Q) :=
    (r_go (j := 25) (L' := [.ref r0, .ref r1, .ref r2, .ref r3, .int x4, .int x5, .int x6, .int x7, .null]) (S' := [.ref r0]) (h' := h) rfl rfl rfl rfl).trans <|
    (r_go (j := 26) (L' := [.ref r0, .ref r1, .ref r2, .ref r3, .int x4, .int x5, .int x6, .int x7, .null]) (S' := [.ref r2, .ref r0]) (h' := h) rfl rfl rfl rfl).trans <|
    (r_go (j := 27) (L' := [.ref r0, .ref r1, .ref r2, .ref r3, .int x4, .int x5, .int x6, .int x7, .null]) (S' := [.ref r3, .ref r2, .ref r0]) (h' := h) rfl rfl rfl rfl).trans <|
    (r_go (j := 28) (L' := [.ref r0, .ref r1, .ref r2, .ref r3, .int x4, .int x5, .int x6, .int x7, .null]) (S' := [.int x4, .ref r3, .ref r2, .ref r0]) (h' := h) rfl rfl rfl rfl).trans <|
    (r_go (j := 29) (L' := [.ref r0, .ref r1, .ref r2, .ref r3, .int x4, .int x5, .int x6, .int x7, .null]) (S' := [.int x5, .int x4, .ref r3, .ref r2, .ref r0]) (h' := h) rfl rfl rfl rfl).trans <|
    (r_go (j := 30) (L' := [.ref r0, .ref r1, .ref r2, .ref r3, .int x4, .int x5, .int x6, .int x7, .null]) (S' := [.int x6, .int x5, .int x4, .ref r3, .ref r2, .ref r0]) (h' := h) rfl rfl rfl rfl).trans <|
    r_call (j := 31) (a := [.ref r0, .ref r2, .ref r3, .int x4, .int x5, .int x6]) (S' := []) rfl rfl rfl rfl rfl rfl rfl
theorem b_Ch_spread_31 {d : Nat} (x4 x5 x6 x7 : Int32) (r0 r1 r2 r3 : Nat) (h : AH) (Q : Option Value → AH → Prop) : Wp d P_Ch_spread 31 [.ref r0, .ref r1, .ref r2, .ref r3, .int x4, .int x5, .int x6, .int x7, .null] [] h Q ↔ Wp d P_Ch_spread 35 [.ref r0, .ref r1, .ref r2, .ref r3, .int x4, .int x5, .int x6, .int 0, .int 0] [] h Q :=
    (r_iconst (j := 32) (x := 0) rfl i32_0 rfl).trans <|
    (r_go (j := 33) (L' := [.ref r0, .ref r1, .ref r2, .ref r3, .int x4, .int x5, .int x6, .int 0, .null]) (S' := []) (h' := h) rfl rfl rfl rfl).trans <|
    (r_iconst (j := 34) (x := 0) rfl i32_0 rfl).trans <|
    r_go (j := 35) (L' := [.ref r0, .ref r1, .ref r2, .ref r3, .int x4, .int x5, .int x6, .int 0, .int 0]) (S' := []) (h' := h) rfl rfl rfl rfl
theorem b_Ch_spread_35 {d : Nat} (x4 x5 x6 x7 x8 : Int32) (r0 r1 r2 r3 : Nat) (h : AH) (Q : Option Value → AH → Prop) : Wp d P_Ch_spread 35 [.ref r0, .ref r1, .ref r2, .ref r3, .int x4, .int x5, .int x6, .int x7, .int x8] [] h Q ↔ (hK h r0 = 0) ∧ ((20 ≤ hK h (hR h r0 2) ∧ hK h (hR h r0 2) ≠ 40 ∧ hK h (hR h r0 2) ≠ 42 ∧ hK h (hR h r0 2) ≤ 45 ∧ hK h (hR h r0 2) ≠ 43) ∧ (((Int32.ofNat (hN h (hR h r0 2))) ≤ x8 → Wp d P_Ch_spread 55 [.ref r0, .ref r1, .ref r2, .ref r3, .int x4, .int x5, .int x6, .int x7, .int x8] [] h Q) ∧ (¬ ((Int32.ofNat (hN h (hR h r0 2))) ≤ x8) → Wp d P_Ch_spread 40 [.ref r0, .ref r1, .ref r2, .ref r3, .int x4, .int x5, .int x6, .int x7, .int x8] [] h Q))) :=
    (r_go (j := 36) (L' := [.ref r0, .ref r1, .ref r2, .ref r3, .int x4, .int x5, .int x6, .int x7, .int x8]) (S' := [.int x8]) (h' := h) rfl rfl rfl rfl).trans <|
    (r_go (j := 37) (L' := [.ref r0, .ref r1, .ref r2, .ref r3, .int x4, .int x5, .int x6, .int x7, .int x8]) (S' := [.ref r0, .int x8]) (h' := h) rfl rfl rfl rfl).trans <|
    (r_guard (j := 38) (L' := [.ref r0, .ref r1, .ref r2, .ref r3, .int x4, .int x5, .int x6, .int x7, .int x8]) (S' := [.ref (hR h r0 2), .int x8]) (h' := h) (p := hK h r0 = 0) rfl rfl rfl rfl (decide_eq_true_iff)).trans <| and_r <|
    (r_guard (j := 39) (L' := [.ref r0, .ref r1, .ref r2, .ref r3, .int x4, .int x5, .int x6, .int x7, .int x8]) (S' := [.int (Int32.ofNat (hN h (hR h r0 2))), .int x8]) (h' := h) (p := 20 ≤ hK h (hR h r0 2) ∧ hK h (hR h r0 2) ≠ 40 ∧ hK h (hR h r0 2) ≠ 42 ∧ hK h (hR h r0 2) ≤ 45 ∧ hK h (hR h r0 2) ≠ 43) rfl rfl rfl rfl (decide_eq_true_iff)).trans <| and_r <|
    r_icmp (j := 40) rfl (cd_ge _ _) rfl
theorem b_Ch_spread_40 {d : Nat} (x4 x5 x6 x7 x8 : Int32) (r0 r1 r2 r3 : Nat) (h : AH) (Q : Option Value → AH → Prop) : Wp d P_Ch_spread 40 [.ref r0, .ref r1, .ref r2, .ref r3, .int x4, .int x5, .int x6, .int x7, .int x8] [] h Q ↔ (hK h r0 = 0) ∧ ((hK h (hR h r0 2) ∈ [20, 44] ∧ ixo x8 (hN h (hR h r0 2)) = true) ∧ (Cl d q_Ch_jumpOf [.ref r0, .int x8, .int 0] h (fun r h' => Wp d P_Ch_spread 49 [.ref r0, .ref r1, .ref r2, .ref r3, .int x4, .int x5, .int x6, .int x7, .int x8] (r.toList ++ [.int (hI h (hR h r0 2) (Int32.toNatClampNeg x8)), .int x7]) h' Q))) :=
    (r_go (j := 41) (L' := [.ref r0, .ref r1, .ref r2, .ref r3, .int x4, .int x5, .int x6, .int x7, .int x8]) (S' := [.int x7]) (h' := h) rfl rfl rfl rfl).trans <|
    (r_go (j := 42) (L' := [.ref r0, .ref r1, .ref r2, .ref r3, .int x4, .int x5, .int x6, .int x7, .int x8]) (S' := [.ref r0, .int x7]) (h' := h) rfl rfl rfl rfl).trans <|
    (r_guard (j := 43) (L' := [.ref r0, .ref r1, .ref r2, .ref r3, .int x4, .int x5, .int x6, .int x7, .int x8]) (S' := [.ref (hR h r0 2), .int x7]) (h' := h) (p := hK h r0 = 0) rfl rfl rfl rfl (decide_eq_true_iff)).trans <| and_r <|
    (r_go (j := 44) (L' := [.ref r0, .ref r1, .ref r2, .ref r3, .int x4, .int x5, .int x6, .int x7, .int x8]) (S' := [.int x8, .ref (hR h r0 2), .int x7]) (h' := h) rfl rfl rfl rfl).trans <|
    (r_guard (j := 45) (L' := [.ref r0, .ref r1, .ref r2, .ref r3, .int x4, .int x5, .int x6, .int x7, .int x8]) (S' := [.int (hI h (hR h r0 2) (Int32.toNatClampNeg x8)), .int x7]) (h' := h) (p := hK h (hR h r0 2) ∈ [20, 44] ∧ ixo x8 (hN h (hR h r0 2)) = true) rfl rfl rfl rfl (and2 decide_eq_true_iff Iff.rfl)).trans <| and_r <|
    (r_go (j := 46) (L' := [.ref r0, .ref r1, .ref r2, .ref r3, .int x4, .int x5, .int x6, .int x7, .int x8]) (S' := [.ref r0, .int (hI h (hR h r0 2) (Int32.toNatClampNeg x8)), .int x7]) (h' := h) rfl rfl rfl rfl).trans <|
    (r_go (j := 47) (L' := [.ref r0, .ref r1, .ref r2, .ref r3, .int x4, .int x5, .int x6, .int x7, .int x8]) (S' := [.int x8, .ref r0, .int (hI h (hR h r0 2) (Int32.toNatClampNeg x8)), .int x7]) (h' := h) rfl rfl rfl rfl).trans <|
    (r_iconst (j := 48) (x := 0) rfl i32_0 rfl).trans <|
    r_call (j := 49) (a := [.ref r0, .int x8, .int 0]) (S' := [.int (hI h (hR h r0 2) (Int32.toNatClampNeg x8)), .int x7]) rfl rfl rfl rfl rfl rfl rfl
theorem b_Ch_spread_49 {d : Nat} (x4 x5 x6 x7 x8 s0 s1 s2 : Int32) (r0 r1 r2 r3 : Nat) (h : AH) (Q : Option Value → AH → Prop) : Wp d P_Ch_spread 49 [.ref r0, .ref r1, .ref r2, .ref r3, .int x4, .int x5, .int x6, .int x7, .int x8] [.int s0, .int s1, .int s2] h Q ↔ Cl d 308 [.int (s1 - s0)] h (fun r h' => Wp d P_Ch_spread 51 [.ref r0, .ref r1, .ref r2, .ref r3, .int x4, .int x5, .int x6, .int x7, .int x8] (r.toList ++ [.int s2]) h' Q) :=
    (r_go (j := 50) (L' := [.ref r0, .ref r1, .ref r2, .ref r3, .int x4, .int x5, .int x6, .int x7, .int x8]) (S' := [.int (s1 - s0), .int s2]) (h' := h) rfl rfl rfl rfl).trans <|
    r_call (j := 51) (a := [.int (s1 - s0)]) (S' := [.int s2]) rfl rfl rfl rfl rfl rfl rfl
theorem b_Ch_spread_51 {d : Nat} (x4 x5 x6 x7 x8 s0 s1 : Int32) (r0 r1 r2 r3 : Nat) (h : AH) (Q : Option Value → AH → Prop) : Wp d P_Ch_spread 51 [.ref r0, .ref r1, .ref r2, .ref r3, .int x4, .int x5, .int x6, .int x7, .int x8] [.int s0, .int s1] h Q ↔ Wp d P_Ch_spread 35 [.ref r0, .ref r1, .ref r2, .ref r3, .int x4, .int x5, .int x6, .int (s1 + s0), .int (x8 + 1)] [] h Q :=
    (r_go (j := 52) (L' := [.ref r0, .ref r1, .ref r2, .ref r3, .int x4, .int x5, .int x6, .int x7, .int x8]) (S' := [.int (s1 + s0)]) (h' := h) rfl rfl rfl rfl).trans <|
    (r_go (j := 53) (L' := [.ref r0, .ref r1, .ref r2, .ref r3, .int x4, .int x5, .int x6, .int (s1 + s0), .int x8]) (S' := []) (h' := h) rfl rfl rfl rfl).trans <|
    (r_iinc (j := 54) (x := 1) (L' := [.ref r0, .ref r1, .ref r2, .ref r3, .int x4, .int x5, .int x6, .int (s1 + s0), .int (x8 + 1)]) rfl rfl i32_1 rfl rfl).trans <|
    r_go (j := 35) (L' := [.ref r0, .ref r1, .ref r2, .ref r3, .int x4, .int x5, .int x6, .int (s1 + s0), .int (x8 + 1)]) (S' := []) (h' := h) rfl rfl rfl rfl
theorem b_Ch_spread_55 {d : Nat} (x4 x5 x6 x7 x8 : Int32) (r0 r1 r2 r3 : Nat) (h : AH) (Q : Option Value → AH → Prop) : Wp d P_Ch_spread 55 [.ref r0, .ref r1, .ref r2, .ref r3, .int x4, .int x5, .int x6, .int x7, .int x8] [] h Q ↔ Q (some (.int x7)) h :=
    (r_go (j := 56) (L' := [.ref r0, .ref r1, .ref r2, .ref r3, .int x4, .int x5, .int x6, .int x7, .int x8]) (S' := [.int x7]) (h' := h) rfl rfl rfl rfl).trans <|
    r_ret rfl rfl rfl
theorem e_Ch_spread {d : Nat} (x4 x5 x6 : Int32) (r0 r1 r2 r3 : Nat) (h : AH) (Q : Option Value → AH → Prop) : Cl (d + 1) q_Ch_spread [.ref r0, .ref r1, .ref r2, .ref r3, .int x4, .int x5, .int x6] h Q ↔ hK h r0 = 0 ∧ Wp d P_Ch_spread 0 [.ref r0, .ref r1, .ref r2, .ref r3, .int x4, .int x5, .int x6, .null, .null] [] h (fun r h' => rtk (some .int) r = true ∧ Q r h') :=
    (Cl_method (t := m_Ch_spread) rfl).trans (and_congr_left fun _ => decide_eq_true_iff)
/-! PenThatJumps$Chair.pose(LPenThatJumps$Person;LPenThatJumps$Plan;III)V -/
theorem b_Ch_pose_0 {d : Nat} (x3 x4 x5 : Int32) (r0 r1 r2 : Nat) (h : AH) (Q : Option Value → AH → Prop) : Wp d P_Ch_pose 0 [.ref r0, .ref r1, .ref r2, .int x3, .int x4, .int x5, .null, .null, .null, .null, .null, .null] [] h Q ↔ Cl d q_Pl_kindAt [.ref r2, .int x3] h (fun r h' => Wp d P_Ch_pose 3 [.ref r0, .ref r1, .ref r2, .int x3, .int x4, .int x5, .null, .null, .null, .null, .null, .null] (r.toList ++ []) h' Q) :=
    (r_go (j := 1) (L' := [.ref r0, .ref r1, .ref r2, .int x3, .int x4, .int x5, .null, .null, .null, .null, .null, .null]) (S' := [.ref r2]) (h' := h) rfl rfl rfl rfl).trans <|
    (r_go (j := 2) (L' := [.ref r0, .ref r1, .ref r2, .int x3, .int x4, .int x5, .null, .null, .null, .null, .null, .null]) (S' := [.int x3, .ref r2]) (h' := h) rfl rfl rfl rfl).trans <|
    r_call (j := 3) (a := [.ref r2, .int x3]) (S' := []) rfl rfl rfl rfl rfl rfl rfl
theorem b_Ch_pose_3 {d : Nat} (x3 x4 x5 s0 : Int32) (r0 r1 r2 : Nat) (h : AH) (Q : Option Value → AH → Prop) : Wp d P_Ch_pose 3 [.ref r0, .ref r1, .ref r2, .int x3, .int x4, .int x5, .null, .null, .null, .null, .null, .null] [.int s0] h Q ↔ Cl d q_Pl_itemAt [.ref r2, .int x3] h (fun r h' => Wp d P_Ch_pose 7 [.ref r0, .ref r1, .ref r2, .int x3, .int x4, .int x5, .int s0, .null, .null, .null, .null, .null] (r.toList ++ []) h' Q) :=
    (r_go (j := 4) (L' := [.ref r0, .ref r1, .ref r2, .int x3, .int x4, .int x5, .int s0, .null, .null, .null, .null, .null]) (S' := []) (h' := h) rfl rfl rfl rfl).trans <|
    (r_go (j := 5) (L' := [.ref r0, .ref r1, .ref r2, .int x3, .int x4, .int x5, .int s0, .null, .null, .null, .null, .null]) (S' := [.ref r2]) (h' := h) rfl rfl rfl rfl).trans <|
    (r_go (j := 6) (L' := [.ref r0, .ref r1, .ref r2, .int x3, .int x4, .int x5, .int s0, .null, .null, .null, .null, .null]) (S' := [.int x3, .ref r2]) (h' := h) rfl rfl rfl rfl).trans <|
    r_call (j := 7) (a := [.ref r2, .int x3]) (S' := []) rfl rfl rfl rfl rfl rfl rfl
theorem b_Ch_pose_7 {d : Nat} (x3 x4 x5 x6 s0 : Int32) (r0 r1 r2 : Nat) (h : AH) (Q : Option Value → AH → Prop) : Wp d P_Ch_pose 7 [.ref r0, .ref r1, .ref r2, .int x3, .int x4, .int x5, .int x6, .null, .null, .null, .null, .null] [.int s0] h Q ↔ (¬ x6 = 3 → Wp d P_Ch_pose 13 [.ref r0, .ref r1, .ref r2, .int x3, .int x4, .int x5, .int x6, .int s0, .null, .null, .null, .null] [] h Q) ∧ (¬ (¬ x6 = 3) → Wp d P_Ch_pose 11 [.ref r0, .ref r1, .ref r2, .int x3, .int x4, .int x5, .int x6, .int s0, .null, .null, .null, .null] [] h Q) :=
    (r_go (j := 8) (L' := [.ref r0, .ref r1, .ref r2, .int x3, .int x4, .int x5, .int x6, .int s0, .null, .null, .null, .null]) (S' := []) (h' := h) rfl rfl rfl rfl).trans <|
    (r_go (j := 9) (L' := [.ref r0, .ref r1, .ref r2, .int x3, .int x4, .int x5, .int x6, .int s0, .null, .null, .null, .null]) (S' := [.int x6]) (h' := h) rfl rfl rfl rfl).trans <|
    (r_iconst (j := 10) (x := 3) rfl i32_3 rfl).trans <|
    r_icmp (j := 11) rfl (cd_ne _ _) rfl
theorem b_Ch_pose_11 {d : Nat} (x3 x4 x5 x6 x7 : Int32) (r0 r1 r2 : Nat) (h : AH) (Q : Option Value → AH → Prop) : Wp d P_Ch_pose 11 [.ref r0, .ref r1, .ref r2, .int x3, .int x4, .int x5, .int x6, .int x7, .null, .null, .null, .null] [] h Q ↔ Wp d P_Ch_pose 14 [.ref r0, .ref r1, .ref r2, .int x3, .int x4, .int x5, .int x6, .int x7, .null, .null, .null, .null] [.int 1] h Q :=
    (r_iconst (j := 12) (x := 1) rfl i32_1 rfl).trans <|
    r_go (j := 14) (L' := [.ref r0, .ref r1, .ref r2, .int x3, .int x4, .int x5, .int x6, .int x7, .null, .null, .null, .null]) (S' := [.int 1]) (h' := h) rfl rfl rfl rfl
theorem b_Ch_pose_13 {d : Nat} (x3 x4 x5 x6 x7 : Int32) (r0 r1 r2 : Nat) (h : AH) (Q : Option Value → AH → Prop) : Wp d P_Ch_pose 13 [.ref r0, .ref r1, .ref r2, .int x3, .int x4, .int x5, .int x6, .int x7, .null, .null, .null, .null] [] h Q ↔ Wp d P_Ch_pose 14 [.ref r0, .ref r1, .ref r2, .int x3, .int x4, .int x5, .int x6, .int x7, .null, .null, .null, .null] [.int 0] h Q :=
    r_iconst (j := 14) (x := 0) rfl i32_0 rfl
theorem b_Ch_pose_14 {d : Nat} (x3 x4 x5 x6 x7 s0 : Int32) (r0 r1 r2 : Nat) (h : AH) (Q : Option Value → AH → Prop) : Wp d P_Ch_pose 14 [.ref r0, .ref r1, .ref r2, .int x3, .int x4, .int x5, .int x6, .int x7, .null, .null, .null, .null] [.int s0] h Q ↔ (s0 = 0 → Wp d P_Ch_pose 23 [.ref r0, .ref r1, .ref r2, .int x3, .int x4, .int x5, .int x6, .int x7, .int s0, .null, .null, .null] [] h Q) ∧ (¬ (s0 = 0) → Wp d P_Ch_pose 17 [.ref r0, .ref r1, .ref r2, .int x3, .int x4, .int x5, .int x6, .int x7, .int s0, .null, .null, .null] [] h Q) :=
    (r_go (j := 15) (L' := [.ref r0, .ref r1, .ref r2, .int x3, .int x4, .int x5, .int x6, .int x7, .int s0, .null, .null, .null]) (S' := []) (h' := h) rfl rfl rfl rfl).trans <|
    (r_go (j := 16) (L' := [.ref r0, .ref r1, .ref r2, .int x3, .int x4, .int x5, .int x6, .int x7, .int s0, .null, .null, .null]) (S' := [.int s0]) (h' := h) rfl rfl rfl rfl).trans <|
    r_if (j := 17) rfl (cd_eq _ _) rfl
theorem b_Ch_pose_17 {d : Nat} (x3 x4 x5 x6 x7 x8 : Int32) (r0 r1 r2 : Nat) (h : AH) (Q : Option Value → AH → Prop) : Wp d P_Ch_pose 17 [.ref r0, .ref r1, .ref r2, .int x3, .int x4, .int x5, .int x6, .int x7, .int x8, .null, .null, .null] [] h Q ↔ (hK h r0 = 0) ∧ ((¬ x7 = (hI h r0 3) → Wp d P_Ch_pose 23 [.ref r0, .ref r1, .ref r2, .int x3, .int x4, .int x5, .int x6, .int x7, .int x8, .null, .null, .null] [] h Q) ∧ (¬ (¬ x7 = (hI h r0 3)) → Wp d P_Ch_pose 21 [.ref r0, .ref r1, .ref r2, .int x3, .int x4, .int x5, .int x6, .int x7, .int x8, .null, .null, .null] [] h Q)) :=
    (r_go (j := 18) (L' := [.ref r0, .ref r1, .ref r2, .int x3, .int x4, .int x5, .int x6, .int x7, .int x8, .null, .null, .null]) (S' := [.int x7]) (h' := h) rfl rfl rfl rfl).trans <|
    (r_go (j := 19) (L' := [.ref r0, .ref r1, .ref r2, .int x3, .int x4, .int x5, .int x6, .int x7, .int x8, .null, .null, .null]) (S' := [.ref r0, .int x7]) (h' := h) rfl rfl rfl rfl).trans <|
    (r_guard (j := 20) (L' := [.ref r0, .ref r1, .ref r2, .int x3, .int x4, .int x5, .int x6, .int x7, .int x8, .null, .null, .null]) (S' := [.int (hI h r0 3), .int x7]) (h' := h) (p := hK h r0 = 0) rfl rfl rfl rfl (decide_eq_true_iff)).trans <| and_r <|
    r_icmp (j := 21) rfl (cd_ne _ _) rfl
theorem b_Ch_pose_21 {d : Nat} (x3 x4 x5 x6 x7 x8 : Int32) (r0 r1 r2 : Nat) (h : AH) (Q : Option Value → AH → Prop) : Wp d P_Ch_pose 21 [.ref r0, .ref r1, .ref r2, .int x3, .int x4, .int x5, .int x6, .int x7, .int x8, .null, .null, .null] [] h Q ↔ Wp d P_Ch_pose 24 [.ref r0, .ref r1, .ref r2, .int x3, .int x4, .int x5, .int x6, .int x7, .int x8, .null, .null, .null] [.int 1] h Q :=
    (r_iconst (j := 22) (x := 1) rfl i32_1 rfl).trans <|
    r_go (j := 24) (L' := [.ref r0, .ref r1, .ref r2, .int x3, .int x4, .int x5, .int x6, .int x7, .int x8, .null, .null, .null]) (S' := [.int 1]) (h' := h) rfl rfl rfl rfl
theorem b_Ch_pose_23 {d : Nat} (x3 x4 x5 x6 x7 x8 : Int32) (r0 r1 r2 : Nat) (h : AH) (Q : Option Value → AH → Prop) : Wp d P_Ch_pose 23 [.ref r0, .ref r1, .ref r2, .int x3, .int x4, .int x5, .int x6, .int x7, .int x8, .null, .null, .null] [] h Q ↔ Wp d P_Ch_pose 24 [.ref r0, .ref r1, .ref r2, .int x3, .int x4, .int x5, .int x6, .int x7, .int x8, .null, .null, .null] [.int 0] h Q :=
    r_iconst (j := 24) (x := 0) rfl i32_0 rfl
theorem b_Ch_pose_24 {d : Nat} (x3 x4 x5 x6 x7 x8 s0 : Int32) (r0 r1 r2 : Nat) (h : AH) (Q : Option Value → AH → Prop) : Wp d P_Ch_pose 24 [.ref r0, .ref r1, .ref r2, .int x3, .int x4, .int x5, .int x6, .int x7, .int x8, .null, .null, .null] [.int s0] h Q ↔ (x8 = 0 → Wp d P_Ch_pose 35 [.ref r0, .ref r1, .ref r2, .int x3, .int x4, .int x5, .int x6, .int x7, .int x8, .int s0, .null, .null] [] h Q) ∧ (¬ (x8 = 0) → Wp d P_Ch_pose 27 [.ref r0, .ref r1, .ref r2, .int x3, .int x4, .int x5, .int x6, .int x7, .int x8, .int s0, .null, .null] [] h Q) :=
    (r_go (j := 25) (L' := [.ref r0, .ref r1, .ref r2, .int x3, .int x4, .int x5, .int x6, .int x7, .int x8, .int s0, .null, .null]) (S' := []) (h' := h) rfl rfl rfl rfl).trans <|
    (r_go (j := 26) (L' := [.ref r0, .ref r1, .ref r2, .int x3, .int x4, .int x5, .int x6, .int x7, .int x8, .int s0, .null, .null]) (S' := [.int x8]) (h' := h) rfl rfl rfl rfl).trans <|
    r_if (j := 27) rfl (cd_eq _ _) rfl
theorem b_Ch_pose_27 {d : Nat} (x3 x4 x5 x6 x7 x8 x9 : Int32) (r0 r1 r2 : Nat) (h : AH) (Q : Option Value → AH → Prop) : Wp d P_Ch_pose 27 [.ref r0, .ref r1, .ref r2, .int x3, .int x4, .int x5, .int x6, .int x7, .int x8, .int x9, .null, .null] [] h Q ↔ (hK h r1 = 3) ∧ (((((hI h r1 3) >>> (x7 &&& 31)) &&& 1) = 1 → Wp d P_Ch_pose 40 [.ref r0, .ref r1, .ref r2, .int x3, .int x4, .int x5, .int x6, .int x7, .int x8, .int x9, .null, .null] [] h Q) ∧ (¬ ((((hI h r1 3) >>> (x7 &&& 31)) &&& 1) = 1) → Wp d P_Ch_pose 35 [.ref r0, .ref r1, .ref r2, .int x3, .int x4, .int x5, .int x6, .int x7, .int x8, .int x9, .null, .null] [] h Q)) :=
    (r_go (j := 28) (L' := [.ref r0, .ref r1, .ref r2, .int x3, .int x4, .int x5, .int x6, .int x7, .int x8, .int x9, .null, .null]) (S' := [.ref r1]) (h' := h) rfl rfl rfl rfl).trans <|
    (r_guard (j := 29) (L' := [.ref r0, .ref r1, .ref r2, .int x3, .int x4, .int x5, .int x6, .int x7, .int x8, .int x9, .null, .null]) (S' := [.int (hI h r1 3)]) (h' := h) (p := hK h r1 = 3) rfl rfl rfl rfl (decide_eq_true_iff)).trans <| and_r <|
    (r_go (j := 30) (L' := [.ref r0, .ref r1, .ref r2, .int x3, .int x4, .int x5, .int x6, .int x7, .int x8, .int x9, .null, .null]) (S' := [.int x7, .int (hI h r1 3)]) (h' := h) rfl rfl rfl rfl).trans <|
    (r_go (j := 31) (L' := [.ref r0, .ref r1, .ref r2, .int x3, .int x4, .int x5, .int x6, .int x7, .int x8, .int x9, .null, .null]) (S' := [.int ((hI h r1 3) >>> (x7 &&& 31))]) (h' := h) rfl rfl rfl rfl).trans <|
    (r_iconst (j := 32) (x := 1) rfl i32_1 rfl).trans <|
    (r_go (j := 33) (L' := [.ref r0, .ref r1, .ref r2, .int x3, .int x4, .int x5, .int x6, .int x7, .int x8, .int x9, .null, .null]) (S' := [.int (((hI h r1 3) >>> (x7 &&& 31)) &&& 1)]) (h' := h) rfl rfl rfl rfl).trans <|
    (r_iconst (j := 34) (x := 1) rfl i32_1 rfl).trans <|
    r_icmp (j := 35) rfl (cd_eq _ _) rfl
theorem b_Ch_pose_35 {d : Nat} (x3 x4 x5 x6 x7 x8 x9 : Int32) (r0 r1 r2 : Nat) (h : AH) (Q : Option Value → AH → Prop) : Wp d P_Ch_pose 35 [.ref r0, .ref r1, .ref r2, .int x3, .int x4, .int x5, .int x6, .int x7, .int x8, .int x9, .null, .null] [] h Q ↔ (x9 = 0 → Wp d P_Ch_pose 42 [.ref r0, .ref r1, .ref r2, .int x3, .int x4, .int x5, .int x6, .int x7, .int x8, .int x9, .null, .null] [] h Q) ∧ (¬ (x9 = 0) → Wp d P_Ch_pose 37 [.ref r0, .ref r1, .ref r2, .int x3, .int x4, .int x5, .int x6, .int x7, .int x8, .int x9, .null, .null] [] h Q) :=
    (r_go (j := 36) (L' := [.ref r0, .ref r1, .ref r2, .int x3, .int x4, .int x5, .int x6, .int x7, .int x8, .int x9, .null, .null]) (S' := [.int x9]) (h' := h) rfl rfl rfl rfl).trans <|
    r_if (j := 37) rfl (cd_eq _ _) rfl
theorem b_Ch_pose_37 {d : Nat} (x3 x4 x5 x6 x7 x8 x9 : Int32) (r0 r1 r2 : Nat) (h : AH) (Q : Option Value → AH → Prop) : Wp d P_Ch_pose 37 [.ref r0, .ref r1, .ref r2, .int x3, .int x4, .int x5, .int x6, .int x7, .int x8, .int x9, .null, .null] [] h Q ↔ (hK h r1 = 3) ∧ (((hI h r1 2) = 0 → Wp d P_Ch_pose 42 [.ref r0, .ref r1, .ref r2, .int x3, .int x4, .int x5, .int x6, .int x7, .int x8, .int x9, .null, .null] [] h Q) ∧ (¬ ((hI h r1 2) = 0) → Wp d P_Ch_pose 40 [.ref r0, .ref r1, .ref r2, .int x3, .int x4, .int x5, .int x6, .int x7, .int x8, .int x9, .null, .null] [] h Q)) :=
    (r_go (j := 38) (L' := [.ref r0, .ref r1, .ref r2, .int x3, .int x4, .int x5, .int x6, .int x7, .int x8, .int x9, .null, .null]) (S' := [.ref r1]) (h' := h) rfl rfl rfl rfl).trans <|
    (r_guard (j := 39) (L' := [.ref r0, .ref r1, .ref r2, .int x3, .int x4, .int x5, .int x6, .int x7, .int x8, .int x9, .null, .null]) (S' := [.int (hI h r1 2)]) (h' := h) (p := hK h r1 = 3) rfl rfl rfl rfl (decide_eq_true_iff)).trans <| and_r <|
    r_if (j := 40) rfl (cd_eq _ _) rfl
theorem b_Ch_pose_40 {d : Nat} (x3 x4 x5 x6 x7 x8 x9 : Int32) (r0 r1 r2 : Nat) (h : AH) (Q : Option Value → AH → Prop) : Wp d P_Ch_pose 40 [.ref r0, .ref r1, .ref r2, .int x3, .int x4, .int x5, .int x6, .int x7, .int x8, .int x9, .null, .null] [] h Q ↔ Wp d P_Ch_pose 43 [.ref r0, .ref r1, .ref r2, .int x3, .int x4, .int x5, .int x6, .int x7, .int x8, .int x9, .null, .null] [.int 1] h Q :=
    (r_iconst (j := 41) (x := 1) rfl i32_1 rfl).trans <|
    r_go (j := 43) (L' := [.ref r0, .ref r1, .ref r2, .int x3, .int x4, .int x5, .int x6, .int x7, .int x8, .int x9, .null, .null]) (S' := [.int 1]) (h' := h) rfl rfl rfl rfl
theorem b_Ch_pose_42 {d : Nat} (x3 x4 x5 x6 x7 x8 x9 : Int32) (r0 r1 r2 : Nat) (h : AH) (Q : Option Value → AH → Prop) : Wp d P_Ch_pose 42 [.ref r0, .ref r1, .ref r2, .int x3, .int x4, .int x5, .int x6, .int x7, .int x8, .int x9, .null, .null] [] h Q ↔ Wp d P_Ch_pose 43 [.ref r0, .ref r1, .ref r2, .int x3, .int x4, .int x5, .int x6, .int x7, .int x8, .int x9, .null, .null] [.int 0] h Q :=
    r_iconst (j := 43) (x := 0) rfl i32_0 rfl
theorem b_Ch_pose_43 {d : Nat} (x3 x4 x5 x6 x7 x8 x9 s0 : Int32) (r0 r1 r2 : Nat) (h : AH) (Q : Option Value → AH → Prop) : Wp d P_Ch_pose 43 [.ref r0, .ref r1, .ref r2, .int x3, .int x4, .int x5, .int x6, .int x7, .int x8, .int x9, .null, .null] [.int s0] h Q ↔ Wp d P_Ch_pose 46 [.ref r0, .ref r1, .ref r2, .int x3, .int x4, .int x5, .int x6, .int x7, .int x8, .int x9, .int s0, .int 0] [] h Q :=
    (r_go (j := 44) (L' := [.ref r0, .ref r1, .ref r2, .int x3, .int x4, .int x5, .int x6, .int x7, .int x8, .int x9, .int s0, .null]) (S' := []) (h' := h) rfl rfl rfl rfl).trans <|
    (r_iconst (j := 45) (x := 0) rfl i32_0 rfl).trans <|
    r_go (j := 46) (L' := [.ref r0, .ref r1, .ref r2, .int x3, .int x4, .int x5, .int x6, .int x7, .int x8, .int x9, .int s0, .int 0]) (S' := []) (h' := h) rfl rfl rfl rfl
theorem b_Ch_pose_46 {d : Nat} (x3 x4 x5 x6 x7 x8 x9 x10 x11 : Int32) (r0 r1 r2 : Nat) (h : AH) (Q : Option Value → AH → Prop) : Wp d P_Ch_pose 46 [.ref r0, .ref r1, .ref r2, .int x3, .int x4, .int x5, .int x6, .int x7, .int x8, .int x9, .int x10, .int x11] [] h Q ↔ (4 ≤ x11 → Wp d P_Ch_pose 66 [.ref r0, .ref r1, .ref r2, .int x3, .int x4, .int x5, .int x6, .int x7, .int x8, .int x9, .int x10, .int x11] [] h Q) ∧ (¬ (4 ≤ x11) → Wp d P_Ch_pose 49 [.ref r0, .ref r1, .ref r2, .int x3, .int x4, .int x5, .int x6, .int x7, .int x8, .int x9, .int x10, .int x11] [] h Q) :=
    (r_go (j := 47) (L' := [.ref r0, .ref r1, .ref r2, .int x3, .int x4, .int x5, .int x6, .int x7, .int x8, .int x9, .int x10, .int x11]) (S' := [.int x11]) (h' := h) rfl rfl rfl rfl).trans <|
    (r_iconst (j := 48) (x := 4) rfl i32_4 rfl).trans <|
    r_icmp (j := 49) rfl (cd_ge _ _) rfl
theorem b_Ch_pose_49 {d : Nat} (x3 x4 x5 x6 x7 x8 x9 x10 x11 : Int32) (r0 r1 r2 : Nat) (h : AH) (Q : Option Value → AH → Prop) : Wp d P_Ch_pose 49 [.ref r0, .ref r1, .ref r2, .int x3, .int x4, .int x5, .int x6, .int x7, .int x8, .int x9, .int x10, .int x11] [] h Q ↔ (hK h r0 = 0) ∧ ((20 ≤ hK h (hR h r0 1) ∧ hK h (hR h r0 1) ≠ 40 ∧ hK h (hR h r0 1) ≠ 42 ∧ hK h (hR h r0 1) ≤ 45 ∧ hK h (hR h r0 1) ≠ 43) ∧ (((Int32.ofNat (hN h (hR h r0 1))) ≤ x11 → Wp d P_Ch_pose 66 [.ref r0, .ref r1, .ref r2, .int x3, .int x4, .int x5, .int x6, .int x7, .int x8, .int x9, .int x10, .int x11] [] h Q) ∧ (¬ ((Int32.ofNat (hN h (hR h r0 1))) ≤ x11) → Wp d P_Ch_pose 54 [.ref r0, .ref r1, .ref r2, .int x3, .int x4, .int x5, .int x6, .int x7, .int x8, .int x9, .int x10, .int x11] [] h Q))) :=
    (r_go (j := 50) (L' := [.ref r0, .ref r1, .ref r2, .int x3, .int x4, .int x5, .int x6, .int x7, .int x8, .int x9, .int x10, .int x11]) (S' := [.int x11]) (h' := h) rfl rfl rfl rfl).trans <|
    (r_go (j := 51) (L' := [.ref r0, .ref r1, .ref r2, .int x3, .int x4, .int x5, .int x6, .int x7, .int x8, .int x9, .int x10, .int x11]) (S' := [.ref r0, .int x11]) (h' := h) rfl rfl rfl rfl).trans <|
    (r_guard (j := 52) (L' := [.ref r0, .ref r1, .ref r2, .int x3, .int x4, .int x5, .int x6, .int x7, .int x8, .int x9, .int x10, .int x11]) (S' := [.ref (hR h r0 1), .int x11]) (h' := h) (p := hK h r0 = 0) rfl rfl rfl rfl (decide_eq_true_iff)).trans <| and_r <|
    (r_guard (j := 53) (L' := [.ref r0, .ref r1, .ref r2, .int x3, .int x4, .int x5, .int x6, .int x7, .int x8, .int x9, .int x10, .int x11]) (S' := [.int (Int32.ofNat (hN h (hR h r0 1))), .int x11]) (h' := h) (p := 20 ≤ hK h (hR h r0 1) ∧ hK h (hR h r0 1) ≠ 40 ∧ hK h (hR h r0 1) ≠ 42 ∧ hK h (hR h r0 1) ≤ 45 ∧ hK h (hR h r0 1) ≠ 43) rfl rfl rfl rfl (decide_eq_true_iff)).trans <| and_r <|
    r_icmp (j := 54) rfl (cd_ge _ _) rfl
theorem b_Ch_pose_54 {d : Nat} (x3 x4 x5 x6 x7 x8 x9 x10 x11 : Int32) (r0 r1 r2 : Nat) (h : AH) (Q : Option Value → AH → Prop) : Wp d P_Ch_pose 54 [.ref r0, .ref r1, .ref r2, .int x3, .int x4, .int x5, .int x6, .int x7, .int x8, .int x9, .int x10, .int x11] [] h Q ↔ (hK h r0 = 0) ∧ ((¬ x6 = x11 → Wp d P_Ch_pose 62 [.ref r0, .ref r1, .ref r2, .int x3, .int x4, .int x5, .int x6, .int x7, .int x8, .int x9, .int x10, .int x11] [.int x11, .ref (hR h r0 1)] h Q) ∧ (¬ (¬ x6 = x11) → Wp d P_Ch_pose 60 [.ref r0, .ref r1, .ref r2, .int x3, .int x4, .int x5, .int x6, .int x7, .int x8, .int x9, .int x10, .int x11] [.int x11, .ref (hR h r0 1)] h Q)) :=
    (r_go (j := 55) (L' := [.ref r0, .ref r1, .ref r2, .int x3, .int x4, .int x5, .int x6, .int x7, .int x8, .int x9, .int x10, .int x11]) (S' := [.ref r0]) (h' := h) rfl rfl rfl rfl).trans <|
    (r_guard (j := 56) (L' := [.ref r0, .ref r1, .ref r2, .int x3, .int x4, .int x5, .int x6, .int x7, .int x8, .int x9, .int x10, .int x11]) (S' := [.ref (hR h r0 1)]) (h' := h) (p := hK h r0 = 0) rfl rfl rfl rfl (decide_eq_true_iff)).trans <| and_r <|
    (r_go (j := 57) (L' := [.ref r0, .ref r1, .ref r2, .int x3, .int x4, .int x5, .int x6, .int x7, .int x8, .int x9, .int x10, .int x11]) (S' := [.int x11, .ref (hR h r0 1)]) (h' := h) rfl rfl rfl rfl).trans <|
    (r_go (j := 58) (L' := [.ref r0, .ref r1, .ref r2, .int x3, .int x4, .int x5, .int x6, .int x7, .int x8, .int x9, .int x10, .int x11]) (S' := [.int x6, .int x11, .ref (hR h r0 1)]) (h' := h) rfl rfl rfl rfl).trans <|
    (r_go (j := 59) (L' := [.ref r0, .ref r1, .ref r2, .int x3, .int x4, .int x5, .int x6, .int x7, .int x8, .int x9, .int x10, .int x11]) (S' := [.int x11, .int x6, .int x11, .ref (hR h r0 1)]) (h' := h) rfl rfl rfl rfl).trans <|
    r_icmp (j := 60) rfl (cd_ne _ _) rfl
theorem b_Ch_pose_60 {d : Nat} (x3 x4 x5 x6 x7 x8 x9 x10 x11 s0 : Int32) (r0 r1 r2 t1 : Nat) (h : AH) (Q : Option Value → AH → Prop) : Wp d P_Ch_pose 60 [.ref r0, .ref r1, .ref r2, .int x3, .int x4, .int x5, .int x6, .int x7, .int x8, .int x9, .int x10, .int x11] [.int s0, .ref t1] h Q ↔ Wp d P_Ch_pose 63 [.ref r0, .ref r1, .ref r2, .int x3, .int x4, .int x5, .int x6, .int x7, .int x8, .int x9, .int x10, .int x11] [.int 1, .int s0, .ref t1] h Q :=
    (r_iconst (j := 61) (x := 1) rfl i32_1 rfl).trans <|
    r_go (j := 63) (L' := [.ref r0, .ref r1, .ref r2, .int x3, .int x4, .int x5, .int x6, .int x7, .int x8, .int x9, .int x10, .int x11]) (S' := [.int 1, .int s0, .ref t1]) (h' := h) rfl rfl rfl rfl
theorem b_Ch_pose_62 {d : Nat} (x3 x4 x5 x6 x7 x8 x9 x10 x11 s0 : Int32) (r0 r1 r2 t1 : Nat) (h : AH) (Q : Option Value → AH → Prop) : Wp d P_Ch_pose 62 [.ref r0, .ref r1, .ref r2, .int x3, .int x4, .int x5, .int x6, .int x7, .int x8, .int x9, .int x10, .int x11] [.int s0, .ref t1] h Q ↔ Wp d P_Ch_pose 63 [.ref r0, .ref r1, .ref r2, .int x3, .int x4, .int x5, .int x6, .int x7, .int x8, .int x9, .int x10, .int x11] [.int 0, .int s0, .ref t1] h Q :=
    r_iconst (j := 63) (x := 0) rfl i32_0 rfl
theorem b_Ch_pose_63 {d : Nat} (x3 x4 x5 x6 x7 x8 x9 x10 x11 s0 s1 : Int32) (r0 r1 r2 t2 : Nat) (h : AH) (Q : Option Value → AH → Prop) : Wp d P_Ch_pose 63 [.ref r0, .ref r1, .ref r2, .int x3, .int x4, .int x5, .int x6, .int x7, .int x8, .int x9, .int x10, .int x11] [.int s0, .int s1, .ref t2] h Q ↔ (hK h t2 = 20 ∧ ixo s1 (hN h t2) = true) ∧ (Wp d P_Ch_pose 46 [.ref r0, .ref r1, .ref r2, .int x3, .int x4, .int x5, .int x6, .int x7, .int x8, .int x9, .int x10, .int (x11 + 1)] [] (sI h t2 (Int32.toNatClampNeg s1) s0) Q) :=
    (r_guard (j := 64) (L' := [.ref r0, .ref r1, .ref r2, .int x3, .int x4, .int x5, .int x6, .int x7, .int x8, .int x9, .int x10, .int x11]) (S' := []) (h' := (sI h t2 (Int32.toNatClampNeg s1) s0)) (p := hK h t2 = 20 ∧ ixo s1 (hN h t2) = true) rfl rfl rfl rfl (and2 decide_eq_true_iff Iff.rfl)).trans <| and_r <|
    (r_iinc (j := 65) (x := 1) (L' := [.ref r0, .ref r1, .ref r2, .int x3, .int x4, .int x5, .int x6, .int x7, .int x8, .int x9, .int x10, .int (x11 + 1)]) rfl rfl i32_1 rfl rfl).trans <|
    r_go (j := 46) (L' := [.ref r0, .ref r1, .ref r2, .int x3, .int x4, .int x5, .int x6, .int x7, .int x8, .int x9, .int x10, .int (x11 + 1)]) (S' := []) (h' := (sI h t2 (Int32.toNatClampNeg s1) s0)) rfl rfl rfl rfl
theorem b_Ch_pose_66 {d : Nat} (x3 x4 x5 x6 x7 x8 x9 x10 x11 : Int32) (r0 r1 r2 : Nat) (h : AH) (Q : Option Value → AH → Prop) : Wp d P_Ch_pose 66 [.ref r0, .ref r1, .ref r2, .int x3, .int x4, .int x5, .int x6, .int x7, .int x8, .int x9, .int x10, .int x11] [] h Q ↔ (hK h r0 = 0) ∧ ((x9 = 0 → Wp d P_Ch_pose 73 [.ref r0, .ref r1, .ref r2, .int x3, .int x4, .int x5, .int x6, .int x7, .int x8, .int x9, .int x10, .int x11] [.int 4, .ref (hR h r0 1)] h Q) ∧ (¬ (x9 = 0) → Wp d P_Ch_pose 71 [.ref r0, .ref r1, .ref r2, .int x3, .int x4, .int x5, .int x6, .int x7, .int x8, .int x9, .int x10, .int x11] [.int 4, .ref (hR h r0 1)] h Q)) :=
    (r_go (j := 67) (L' := [.ref r0, .ref r1, .ref r2, .int x3, .int x4, .int x5, .int x6, .int x7, .int x8, .int x9, .int x10, .int x11]) (S' := [.ref r0]) (h' := h) rfl rfl rfl rfl).trans <|
    (r_guard (j := 68) (L' := [.ref r0, .ref r1, .ref r2, .int x3, .int x4, .int x5, .int x6, .int x7, .int x8, .int x9, .int x10, .int x11]) (S' := [.ref (hR h r0 1)]) (h' := h) (p := hK h r0 = 0) rfl rfl rfl rfl (decide_eq_true_iff)).trans <| and_r <|
    (r_iconst (j := 69) (x := 4) rfl i32_4 rfl).trans <|
    (r_go (j := 70) (L' := [.ref r0, .ref r1, .ref r2, .int x3, .int x4, .int x5, .int x6, .int x7, .int x8, .int x9, .int x10, .int x11]) (S' := [.int x9, .int 4, .ref (hR h r0 1)]) (h' := h) rfl rfl rfl rfl).trans <|
    r_if (j := 71) rfl (cd_eq _ _) rfl
theorem b_Ch_pose_71 {d : Nat} (x3 x4 x5 x6 x7 x8 x9 x10 x11 s0 : Int32) (r0 r1 r2 t1 : Nat) (h : AH) (Q : Option Value → AH → Prop) : Wp d P_Ch_pose 71 [.ref r0, .ref r1, .ref r2, .int x3, .int x4, .int x5, .int x6, .int x7, .int x8, .int x9, .int x10, .int x11] [.int s0, .ref t1] h Q ↔ Wp d P_Ch_pose 74 [.ref r0, .ref r1, .ref r2, .int x3, .int x4, .int x5, .int x6, .int x7, .int x8, .int x9, .int x10, .int x11] [.int 1, .int s0, .ref t1] h Q :=
    (r_iconst (j := 72) (x := 1) rfl i32_1 rfl).trans <|
    r_go (j := 74) (L' := [.ref r0, .ref r1, .ref r2, .int x3, .int x4, .int x5, .int x6, .int x7, .int x8, .int x9, .int x10, .int x11]) (S' := [.int 1, .int s0, .ref t1]) (h' := h) rfl rfl rfl rfl
theorem b_Ch_pose_73 {d : Nat} (x3 x4 x5 x6 x7 x8 x9 x10 x11 s0 : Int32) (r0 r1 r2 t1 : Nat) (h : AH) (Q : Option Value → AH → Prop) : Wp d P_Ch_pose 73 [.ref r0, .ref r1, .ref r2, .int x3, .int x4, .int x5, .int x6, .int x7, .int x8, .int x9, .int x10, .int x11] [.int s0, .ref t1] h Q ↔ Wp d P_Ch_pose 74 [.ref r0, .ref r1, .ref r2, .int x3, .int x4, .int x5, .int x6, .int x7, .int x8, .int x9, .int x10, .int x11] [.int 0, .int s0, .ref t1] h Q :=
    r_iconst (j := 74) (x := 0) rfl i32_0 rfl
theorem b_Ch_pose_74 {d : Nat} (x3 x4 x5 x6 x7 x8 x9 x10 x11 s0 s1 : Int32) (r0 r1 r2 t2 : Nat) (h : AH) (Q : Option Value → AH → Prop) : Wp d P_Ch_pose 74 [.ref r0, .ref r1, .ref r2, .int x3, .int x4, .int x5, .int x6, .int x7, .int x8, .int x9, .int x10, .int x11] [.int s0, .int s1, .ref t2] h Q ↔ (hK h t2 = 20 ∧ ixo s1 (hN h t2) = true) ∧ ((hK (sI h t2 (Int32.toNatClampNeg s1) s0) r0 = 0) ∧ ((x10 = 0 → Wp d P_Ch_pose 82 [.ref r0, .ref r1, .ref r2, .int x3, .int x4, .int x5, .int x6, .int x7, .int x8, .int x9, .int x10, .int x11] [.int 5, .ref (hR (sI h t2 (Int32.toNatClampNeg s1) s0) r0 1)] (sI h t2 (Int32.toNatClampNeg s1) s0) Q) ∧ (¬ (x10 = 0) → Wp d P_Ch_pose 80 [.ref r0, .ref r1, .ref r2, .int x3, .int x4, .int x5, .int x6, .int x7, .int x8, .int x9, .int x10, .int x11] [.int 5, .ref (hR (sI h t2 (Int32.toNatClampNeg s1) s0) r0 1)] (sI h t2 (Int32.toNatClampNeg s1) s0) Q))) :=
    (r_guard (j := 75) (L' := [.ref r0, .ref r1, .ref r2, .int x3, .int x4, .int x5, .int x6, .int x7, .int x8, .int x9, .int x10, .int x11]) (S' := []) (h' := (sI h t2 (Int32.toNatClampNeg s1) s0)) (p := hK h t2 = 20 ∧ ixo s1 (hN h t2) = true) rfl rfl rfl rfl (and2 decide_eq_true_iff Iff.rfl)).trans <| and_r <|
    (r_go (j := 76) (L' := [.ref r0, .ref r1, .ref r2, .int x3, .int x4, .int x5, .int x6, .int x7, .int x8, .int x9, .int x10, .int x11]) (S' := [.ref r0]) (h' := (sI h t2 (Int32.toNatClampNeg s1) s0)) rfl rfl rfl rfl).trans <|
    (r_guard (j := 77) (L' := [.ref r0, .ref r1, .ref r2, .int x3, .int x4, .int x5, .int x6, .int x7, .int x8, .int x9, .int x10, .int x11]) (S' := [.ref (hR (sI h t2 (Int32.toNatClampNeg s1) s0) r0 1)]) (h' := (sI h t2 (Int32.toNatClampNeg s1) s0)) (p := hK (sI h t2 (Int32.toNatClampNeg s1) s0) r0 = 0) rfl rfl rfl rfl (decide_eq_true_iff)).trans <| and_r <|
    (r_iconst (j := 78) (x := 5) rfl i32_5 rfl).trans <|
    (r_go (j := 79) (L' := [.ref r0, .ref r1, .ref r2, .int x3, .int x4, .int x5, .int x6, .int x7, .int x8, .int x9, .int x10, .int x11]) (S' := [.int x10, .int 5, .ref (hR (sI h t2 (Int32.toNatClampNeg s1) s0) r0 1)]) (h' := (sI h t2 (Int32.toNatClampNeg s1) s0)) rfl rfl rfl rfl).trans <|
    r_if (j := 80) rfl (cd_eq _ _) rfl
theorem b_Ch_pose_80 {d : Nat} (x3 x4 x5 x6 x7 x8 x9 x10 x11 s0 : Int32) (r0 r1 r2 t1 : Nat) (h : AH) (Q : Option Value → AH → Prop) : Wp d P_Ch_pose 80 [.ref r0, .ref r1, .ref r2, .int x3, .int x4, .int x5, .int x6, .int x7, .int x8, .int x9, .int x10, .int x11] [.int s0, .ref t1] h Q ↔ Wp d P_Ch_pose 83 [.ref r0, .ref r1, .ref r2, .int x3, .int x4, .int x5, .int x6, .int x7, .int x8, .int x9, .int x10, .int x11] [.int 1, .int s0, .ref t1] h Q :=
    (r_iconst (j := 81) (x := 1) rfl i32_1 rfl).trans <|
    r_go (j := 83) (L' := [.ref r0, .ref r1, .ref r2, .int x3, .int x4, .int x5, .int x6, .int x7, .int x8, .int x9, .int x10, .int x11]) (S' := [.int 1, .int s0, .ref t1]) (h' := h) rfl rfl rfl rfl
theorem b_Ch_pose_82 {d : Nat} (x3 x4 x5 x6 x7 x8 x9 x10 x11 s0 : Int32) (r0 r1 r2 t1 : Nat) (h : AH) (Q : Option Value → AH → Prop) : Wp d P_Ch_pose 82 [.ref r0, .ref r1, .ref r2, .int x3, .int x4, .int x5, .int x6, .int x7, .int x8, .int x9, .int x10, .int x11] [.int s0, .ref t1] h Q ↔ Wp d P_Ch_pose 83 [.ref r0, .ref r1, .ref r2, .int x3, .int x4, .int x5, .int x6, .int x7, .int x8, .int x9, .int x10, .int x11] [.int 0, .int s0, .ref t1] h Q :=
    r_iconst (j := 83) (x := 0) rfl i32_0 rfl
theorem b_Ch_pose_83 {d : Nat} (x3 x4 x5 x6 x7 x8 x9 x10 x11 s0 s1 : Int32) (r0 r1 r2 t2 : Nat) (h : AH) (Q : Option Value → AH → Prop) : Wp d P_Ch_pose 83 [.ref r0, .ref r1, .ref r2, .int x3, .int x4, .int x5, .int x6, .int x7, .int x8, .int x9, .int x10, .int x11] [.int s0, .int s1, .ref t2] h Q ↔ (hK h t2 = 20 ∧ ixo s1 (hN h t2) = true) ∧ ((hK (sI h t2 (Int32.toNatClampNeg s1) s0) r0 = 0) ∧ ((hK (sI h t2 (Int32.toNatClampNeg s1) s0) r1 = 3) ∧ ((hK (sI h t2 (Int32.toNatClampNeg s1) s0) (hR (sI h t2 (Int32.toNatClampNeg s1) s0) r0 1) = 20 ∧ ixo 6 (hN (sI h t2 (Int32.toNatClampNeg s1) s0) (hR (sI h t2 (Int32.toNatClampNeg s1) s0) r0 1)) = true) ∧ ((hK (sI (sI h t2 (Int32.toNatClampNeg s1) s0) (hR (sI h t2 (Int32.toNatClampNeg s1) s0) r0 1) (Int32.toNatClampNeg 6) (hI (sI h t2 (Int32.toNatClampNeg s1) s0) r1 1)) r0 = 0) ∧ ((hK (sI (sI h t2 (Int32.toNatClampNeg s1) s0) (hR (sI h t2 (Int32.toNatClampNeg s1) s0) r0 1) (Int32.toNatClampNeg 6) (hI (sI h t2 (Int32.toNatClampNeg s1) s0) r1 1)) r1 = 3) ∧ (((hI (sI (sI h t2 (Int32.toNatClampNeg s1) s0) (hR (sI h t2 (Int32.toNatClampNeg s1) s0) r0 1) (Int32.toNatClampNeg 6) (hI (sI h t2 (Int32.toNatClampNeg s1) s0) r1 1)) r1 2) = 0 → Wp d P_Ch_pose 98 [.ref r0, .ref r1, .ref r2, .int x3, .int x4, .int x5, .int x6, .int x7, .int x8, .int x9, .int x10, .int x11] [.int 7, .ref (hR (sI (sI h t2 (Int32.toNatClampNeg s1) s0) (hR (sI h t2 (Int32.toNatClampNeg s1) s0) r0 1) (Int32.toNatClampNeg 6) (hI (sI h t2 (Int32.toNatClampNeg s1) s0) r1 1)) r0 1)] (sI (sI h t2 (Int32.toNatClampNeg s1) s0) (hR (sI h t2 (Int32.toNatClampNeg s1) s0) r0 1) (Int32.toNatClampNeg 6) (hI (sI h t2 (Int32.toNatClampNeg s1) s0) r1 1)) Q) ∧ (¬ ((hI (sI (sI h t2 (Int32.toNatClampNeg s1) s0) (hR (sI h t2 (Int32.toNatClampNeg s1) s0) r0 1) (Int32.toNatClampNeg 6) (hI (sI h t2 (Int32.toNatClampNeg s1) s0) r1 1)) r1 2) = 0) → Wp d P_Ch_pose 96 [.ref r0, .ref r1, .ref r2, .int x3, .int x4, .int x5, .int x6, .int x7, .int x8, .int x9, .int x10, .int x11] [.int 7, .ref (hR (sI (sI h t2 (Int32.toNatClampNeg s1) s0) (hR (sI h t2 (Int32.toNatClampNeg s1) s0) r0 1) (Int32.toNatClampNeg 6) (hI (sI h t2 (Int32.toNatClampNeg s1) s0) r1 1)) r0 1)] (sI (sI h t2 (Int32.toNatClampNeg s1) s0) (hR (sI h t2 (Int32.toNatClampNeg s1) s0) r0 1) (Int32.toNatClampNeg 6) (hI (sI h t2 (Int32.toNatClampNeg s1) s0) r1 1)) Q))))))) :=
    (r_guard (j := 84) (L' := [.ref r0, .ref r1, .ref r2, .int x3, .int x4, .int x5, .int x6, .int x7, .int x8, .int x9, .int x10, .int x11]) (S' := []) (h' := (sI h t2 (Int32.toNatClampNeg s1) s0)) (p := hK h t2 = 20 ∧ ixo s1 (hN h t2) = true) rfl rfl rfl rfl (and2 decide_eq_true_iff Iff.rfl)).trans <| and_r <|
    (r_go (j := 85) (L' := [.ref r0, .ref r1, .ref r2, .int x3, .int x4, .int x5, .int x6, .int x7, .int x8, .int x9, .int x10, .int x11]) (S' := [.ref r0]) (h' := (sI h t2 (Int32.toNatClampNeg s1) s0)) rfl rfl rfl rfl).trans <|
    (r_guard (j := 86) (L' := [.ref r0, .ref r1, .ref r2, .int x3, .int x4, .int x5, .int x6, .int x7, .int x8, .int x9, .int x10, .int x11]) (S' := [.ref (hR (sI h t2 (Int32.toNatClampNeg s1) s0) r0 1)]) (h' := (sI h t2 (Int32.toNatClampNeg s1) s0)) (p := hK (sI h t2 (Int32.toNatClampNeg s1) s0) r0 = 0) rfl rfl rfl rfl (decide_eq_true_iff)).trans <| and_r <|
    (r_bipush (j := 87) (x := 6) rfl i32_6 rfl).trans <|
    (r_go (j := 88) (L' := [.ref r0, .ref r1, .ref r2, .int x3, .int x4, .int x5, .int x6, .int x7, .int x8, .int x9, .int x10, .int x11]) (S' := [.ref r1, .int 6, .ref (hR (sI h t2 (Int32.toNatClampNeg s1) s0) r0 1)]) (h' := (sI h t2 (Int32.toNatClampNeg s1) s0)) rfl rfl rfl rfl).trans <|
    (r_guard (j := 89) (L' := [.ref r0, .ref r1, .ref r2, .int x3, .int x4, .int x5, .int x6, .int x7, .int x8, .int x9, .int x10, .int x11]) (S' := [.int (hI (sI h t2 (Int32.toNatClampNeg s1) s0) r1 1), .int 6, .ref (hR (sI h t2 (Int32.toNatClampNeg s1) s0) r0 1)]) (h' := (sI h t2 (Int32.toNatClampNeg s1) s0)) (p := hK (sI h t2 (Int32.toNatClampNeg s1) s0) r1 = 3) rfl rfl rfl rfl (decide_eq_true_iff)).trans <| and_r <|
    (r_guard (j := 90) (L' := [.ref r0, .ref r1, .ref r2, .int x3, .int x4, .int x5, .int x6, .int x7, .int x8, .int x9, .int x10, .int x11]) (S' := []) (h' := (sI (sI h t2 (Int32.toNatClampNeg s1) s0) (hR (sI h t2 (Int32.toNatClampNeg s1) s0) r0 1) (Int32.toNatClampNeg 6) (hI (sI h t2 (Int32.toNatClampNeg s1) s0) r1 1))) (p := hK (sI h t2 (Int32.toNatClampNeg s1) s0) (hR (sI h t2 (Int32.toNatClampNeg s1) s0) r0 1) = 20 ∧ ixo 6 (hN (sI h t2 (Int32.toNatClampNeg s1) s0) (hR (sI h t2 (Int32.toNatClampNeg s1) s0) r0 1)) = true) rfl rfl rfl rfl (and2 decide_eq_true_iff Iff.rfl)).trans <| and_r <|
    (r_go (j := 91) (L' := [.ref r0, .ref r1, .ref r2, .int x3, .int x4, .int x5, .int x6, .int x7, .int x8, .int x9, .int x10, .int x11]) (S' := [.ref r0]) (h' := (sI (sI h t2 (Int32.toNatClampNeg s1) s0) (hR (sI h t2 (Int32.toNatClampNeg s1) s0) r0 1) (Int32.toNatClampNeg 6) (hI (sI h t2 (Int32.toNatClampNeg s1) s0) r1 1))) rfl rfl rfl rfl).trans <|
    (r_guard (j := 92) (L' := [.ref r0, .ref r1, .ref r2, .int x3, .int x4, .int x5, .int x6, .int x7, .int x8, .int x9, .int x10, .int x11]) (S' := [.ref (hR (sI (sI h t2 (Int32.toNatClampNeg s1) s0) (hR (sI h t2 (Int32.toNatClampNeg s1) s0) r0 1) (Int32.toNatClampNeg 6) (hI (sI h t2 (Int32.toNatClampNeg s1) s0) r1 1)) r0 1)]) (h' := (sI (sI h t2 (Int32.toNatClampNeg s1) s0) (hR (sI h t2 (Int32.toNatClampNeg s1) s0) r0 1) (Int32.toNatClampNeg 6) (hI (sI h t2 (Int32.toNatClampNeg s1) s0) r1 1))) (p := hK (sI (sI h t2 (Int32.toNatClampNeg s1) s0) (hR (sI h t2 (Int32.toNatClampNeg s1) s0) r0 1) (Int32.toNatClampNeg 6) (hI (sI h t2 (Int32.toNatClampNeg s1) s0) r1 1)) r0 = 0) rfl rfl rfl rfl (decide_eq_true_iff)).trans <| and_r <|
    (r_bipush (j := 93) (x := 7) rfl i32_7 rfl).trans <|
    (r_go (j := 94) (L' := [.ref r0, .ref r1, .ref r2, .int x3, .int x4, .int x5, .int x6, .int x7, .int x8, .int x9, .int x10, .int x11]) (S' := [.ref r1, .int 7, .ref (hR (sI (sI h t2 (Int32.toNatClampNeg s1) s0) (hR (sI h t2 (Int32.toNatClampNeg s1) s0) r0 1) (Int32.toNatClampNeg 6) (hI (sI h t2 (Int32.toNatClampNeg s1) s0) r1 1)) r0 1)]) (h' := (sI (sI h t2 (Int32.toNatClampNeg s1) s0) (hR (sI h t2 (Int32.toNatClampNeg s1) s0) r0 1) (Int32.toNatClampNeg 6) (hI (sI h t2 (Int32.toNatClampNeg s1) s0) r1 1))) rfl rfl rfl rfl).trans <|
    (r_guard (j := 95) (L' := [.ref r0, .ref r1, .ref r2, .int x3, .int x4, .int x5, .int x6, .int x7, .int x8, .int x9, .int x10, .int x11]) (S' := [.int (hI (sI (sI h t2 (Int32.toNatClampNeg s1) s0) (hR (sI h t2 (Int32.toNatClampNeg s1) s0) r0 1) (Int32.toNatClampNeg 6) (hI (sI h t2 (Int32.toNatClampNeg s1) s0) r1 1)) r1 2), .int 7, .ref (hR (sI (sI h t2 (Int32.toNatClampNeg s1) s0) (hR (sI h t2 (Int32.toNatClampNeg s1) s0) r0 1) (Int32.toNatClampNeg 6) (hI (sI h t2 (Int32.toNatClampNeg s1) s0) r1 1)) r0 1)]) (h' := (sI (sI h t2 (Int32.toNatClampNeg s1) s0) (hR (sI h t2 (Int32.toNatClampNeg s1) s0) r0 1) (Int32.toNatClampNeg 6) (hI (sI h t2 (Int32.toNatClampNeg s1) s0) r1 1))) (p := hK (sI (sI h t2 (Int32.toNatClampNeg s1) s0) (hR (sI h t2 (Int32.toNatClampNeg s1) s0) r0 1) (Int32.toNatClampNeg 6) (hI (sI h t2 (Int32.toNatClampNeg s1) s0) r1 1)) r1 = 3) rfl rfl rfl rfl (decide_eq_true_iff)).trans <| and_r <|
    r_if (j := 96) rfl (cd_eq _ _) rfl
theorem b_Ch_pose_96 {d : Nat} (x3 x4 x5 x6 x7 x8 x9 x10 x11 s0 : Int32) (r0 r1 r2 t1 : Nat) (h : AH) (Q : Option Value → AH → Prop) : Wp d P_Ch_pose 96 [.ref r0, .ref r1, .ref r2, .int x3, .int x4, .int x5, .int x6, .int x7, .int x8, .int x9, .int x10, .int x11] [.int s0, .ref t1] h Q ↔ Wp d P_Ch_pose 99 [.ref r0, .ref r1, .ref r2, .int x3, .int x4, .int x5, .int x6, .int x7, .int x8, .int x9, .int x10, .int x11] [.int 1, .int s0, .ref t1] h Q :=
    (r_iconst (j := 97) (x := 1) rfl i32_1 rfl).trans <|
    r_go (j := 99) (L' := [.ref r0, .ref r1, .ref r2, .int x3, .int x4, .int x5, .int x6, .int x7, .int x8, .int x9, .int x10, .int x11]) (S' := [.int 1, .int s0, .ref t1]) (h' := h) rfl rfl rfl rfl
theorem b_Ch_pose_98 {d : Nat} (x3 x4 x5 x6 x7 x8 x9 x10 x11 s0 : Int32) (r0 r1 r2 t1 : Nat) (h : AH) (Q : Option Value → AH → Prop) : Wp d P_Ch_pose 98 [.ref r0, .ref r1, .ref r2, .int x3, .int x4, .int x5, .int x6, .int x7, .int x8, .int x9, .int x10, .int x11] [.int s0, .ref t1] h Q ↔ Wp d P_Ch_pose 99 [.ref r0, .ref r1, .ref r2, .int x3, .int x4, .int x5, .int x6, .int x7, .int x8, .int x9, .int x10, .int x11] [.int 0, .int s0, .ref t1] h Q :=
    r_iconst (j := 99) (x := 0) rfl i32_0 rfl
theorem b_Ch_pose_99 {d : Nat} (x3 x4 x5 x6 x7 x8 x9 x10 x11 s0 s1 : Int32) (r0 r1 r2 t2 : Nat) (h : AH) (Q : Option Value → AH → Prop) : Wp d P_Ch_pose 99 [.ref r0, .ref r1, .ref r2, .int x3, .int x4, .int x5, .int x6, .int x7, .int x8, .int x9, .int x10, .int x11] [.int s0, .int s1, .ref t2] h Q ↔ (hK h t2 = 20 ∧ ixo s1 (hN h t2) = true) ∧ ((hK (sI h t2 (Int32.toNatClampNeg s1) s0) r0 = 0) ∧ ((hK (sI h t2 (Int32.toNatClampNeg s1) s0) r1 = 3) ∧ (((hI (sI h t2 (Int32.toNatClampNeg s1) s0) r1 4) = 0 → Wp d P_Ch_pose 110 [.ref r0, .ref r1, .ref r2, .int x3, .int x4, .int x5, .int x6, .int x7, .int x8, .int x9, .int x10, .int x11] [.int 8, .ref (hR (sI h t2 (Int32.toNatClampNeg s1) s0) r0 1)] (sI h t2 (Int32.toNatClampNeg s1) s0) Q) ∧ (¬ ((hI (sI h t2 (Int32.toNatClampNeg s1) s0) r1 4) = 0) → Wp d P_Ch_pose 106 [.ref r0, .ref r1, .ref r2, .int x3, .int x4, .int x5, .int x6, .int x7, .int x8, .int x9, .int x10, .int x11] [.int 8, .ref (hR (sI h t2 (Int32.toNatClampNeg s1) s0) r0 1)] (sI h t2 (Int32.toNatClampNeg s1) s0) Q)))) :=
    (r_guard (j := 100) (L' := [.ref r0, .ref r1, .ref r2, .int x3, .int x4, .int x5, .int x6, .int x7, .int x8, .int x9, .int x10, .int x11]) (S' := []) (h' := (sI h t2 (Int32.toNatClampNeg s1) s0)) (p := hK h t2 = 20 ∧ ixo s1 (hN h t2) = true) rfl rfl rfl rfl (and2 decide_eq_true_iff Iff.rfl)).trans <| and_r <|
    (r_go (j := 101) (L' := [.ref r0, .ref r1, .ref r2, .int x3, .int x4, .int x5, .int x6, .int x7, .int x8, .int x9, .int x10, .int x11]) (S' := [.ref r0]) (h' := (sI h t2 (Int32.toNatClampNeg s1) s0)) rfl rfl rfl rfl).trans <|
    (r_guard (j := 102) (L' := [.ref r0, .ref r1, .ref r2, .int x3, .int x4, .int x5, .int x6, .int x7, .int x8, .int x9, .int x10, .int x11]) (S' := [.ref (hR (sI h t2 (Int32.toNatClampNeg s1) s0) r0 1)]) (h' := (sI h t2 (Int32.toNatClampNeg s1) s0)) (p := hK (sI h t2 (Int32.toNatClampNeg s1) s0) r0 = 0) rfl rfl rfl rfl (decide_eq_true_iff)).trans <| and_r <|
    (r_bipush (j := 103) (x := 8) rfl i32_8 rfl).trans <|
    (r_go (j := 104) (L' := [.ref r0, .ref r1, .ref r2, .int x3, .int x4, .int x5, .int x6, .int x7, .int x8, .int x9, .int x10, .int x11]) (S' := [.ref r1, .int 8, .ref (hR (sI h t2 (Int32.toNatClampNeg s1) s0) r0 1)]) (h' := (sI h t2 (Int32.toNatClampNeg s1) s0)) rfl rfl rfl rfl).trans <|
    (r_guard (j := 105) (L' := [.ref r0, .ref r1, .ref r2, .int x3, .int x4, .int x5, .int x6, .int x7, .int x8, .int x9, .int x10, .int x11]) (S' := [.int (hI (sI h t2 (Int32.toNatClampNeg s1) s0) r1 4), .int 8, .ref (hR (sI h t2 (Int32.toNatClampNeg s1) s0) r0 1)]) (h' := (sI h t2 (Int32.toNatClampNeg s1) s0)) (p := hK (sI h t2 (Int32.toNatClampNeg s1) s0) r1 = 3) rfl rfl rfl rfl (decide_eq_true_iff)).trans <| and_r <|
    r_if (j := 106) rfl (cd_eq _ _) rfl
theorem b_Ch_pose_106 {d : Nat} (x3 x4 x5 x6 x7 x8 x9 x10 x11 s0 : Int32) (r0 r1 r2 t1 : Nat) (h : AH) (Q : Option Value → AH → Prop) : Wp d P_Ch_pose 106 [.ref r0, .ref r1, .ref r2, .int x3, .int x4, .int x5, .int x6, .int x7, .int x8, .int x9, .int x10, .int x11] [.int s0, .ref t1] h Q ↔ (¬ x6 = 0 → Wp d P_Ch_pose 110 [.ref r0, .ref r1, .ref r2, .int x3, .int x4, .int x5, .int x6, .int x7, .int x8, .int x9, .int x10, .int x11] [.int s0, .ref t1] h Q) ∧ (¬ (¬ x6 = 0) → Wp d P_Ch_pose 108 [.ref r0, .ref r1, .ref r2, .int x3, .int x4, .int x5, .int x6, .int x7, .int x8, .int x9, .int x10, .int x11] [.int s0, .ref t1] h Q) :=
    (r_go (j := 107) (L' := [.ref r0, .ref r1, .ref r2, .int x3, .int x4, .int x5, .int x6, .int x7, .int x8, .int x9, .int x10, .int x11]) (S' := [.int x6, .int s0, .ref t1]) (h' := h) rfl rfl rfl rfl).trans <|
    r_if (j := 108) rfl (cd_ne _ _) rfl
theorem b_Ch_pose_108 {d : Nat} (x3 x4 x5 x6 x7 x8 x9 x10 x11 s0 : Int32) (r0 r1 r2 t1 : Nat) (h : AH) (Q : Option Value → AH → Prop) : Wp d P_Ch_pose 108 [.ref r0, .ref r1, .ref r2, .int x3, .int x4, .int x5, .int x6, .int x7, .int x8, .int x9, .int x10, .int x11] [.int s0, .ref t1] h Q ↔ Wp d P_Ch_pose 111 [.ref r0, .ref r1, .ref r2, .int x3, .int x4, .int x5, .int x6, .int x7, .int x8, .int x9, .int x10, .int x11] [.int 1, .int s0, .ref t1] h Q :=
    (r_iconst (j := 109) (x := 1) rfl i32_1 rfl).trans <|
    r_go (j := 111) (L' := [.ref r0, .ref r1, .ref r2, .int x3, .int x4, .int x5, .int x6, .int x7, .int x8, .int x9, .int x10, .int x11]) (S' := [.int 1, .int s0, .ref t1]) (h' := h) rfl rfl rfl rfl
theorem b_Ch_pose_110 {d : Nat} (x3 x4 x5 x6 x7 x8 x9 x10 x11 s0 : Int32) (r0 r1 r2 t1 : Nat) (h : AH) (Q : Option Value → AH → Prop) : Wp d P_Ch_pose 110 [.ref r0, .ref r1, .ref r2, .int x3, .int x4, .int x5, .int x6, .int x7, .int x8, .int x9, .int x10, .int x11] [.int s0, .ref t1] h Q ↔ Wp d P_Ch_pose 111 [.ref r0, .ref r1, .ref r2, .int x3, .int x4, .int x5, .int x6, .int x7, .int x8, .int x9, .int x10, .int x11] [.int 0, .int s0, .ref t1] h Q :=
    r_iconst (j := 111) (x := 0) rfl i32_0 rfl
theorem b_Ch_pose_111 {d : Nat} (x3 x4 x5 x6 x7 x8 x9 x10 x11 s0 s1 : Int32) (r0 r1 r2 t2 : Nat) (h : AH) (Q : Option Value → AH → Prop) : Wp d P_Ch_pose 111 [.ref r0, .ref r1, .ref r2, .int x3, .int x4, .int x5, .int x6, .int x7, .int x8, .int x9, .int x10, .int x11] [.int s0, .int s1, .ref t2] h Q ↔ (hK h t2 = 20 ∧ ixo s1 (hN h t2) = true) ∧ ((hK (sI h t2 (Int32.toNatClampNeg s1) s0) r0 = 0) ∧ ((hK (sI h t2 (Int32.toNatClampNeg s1) s0) (hR (sI h t2 (Int32.toNatClampNeg s1) s0) r0 1) = 20 ∧ ixo 9 (hN (sI h t2 (Int32.toNatClampNeg s1) s0) (hR (sI h t2 (Int32.toNatClampNeg s1) s0) r0 1)) = true) ∧ ((hK (sI (sI h t2 (Int32.toNatClampNeg s1) s0) (hR (sI h t2 (Int32.toNatClampNeg s1) s0) r0 1) (Int32.toNatClampNeg 9) x4) r0 = 0) ∧ ((hK (sI (sI h t2 (Int32.toNatClampNeg s1) s0) (hR (sI h t2 (Int32.toNatClampNeg s1) s0) r0 1) (Int32.toNatClampNeg 9) x4) (hR (sI (sI h t2 (Int32.toNatClampNeg s1) s0) (hR (sI h t2 (Int32.toNatClampNeg s1) s0) r0 1) (Int32.toNatClampNeg 9) x4) r0 1) = 20 ∧ ixo 10 (hN (sI (sI h t2 (Int32.toNatClampNeg s1) s0) (hR (sI h t2 (Int32.toNatClampNeg s1) s0) r0 1) (Int32.toNatClampNeg 9) x4) (hR (sI (sI h t2 (Int32.toNatClampNeg s1) s0) (hR (sI h t2 (Int32.toNatClampNeg s1) s0) r0 1) (Int32.toNatClampNeg 9) x4) r0 1)) = true) ∧ (Q (none) (sI (sI (sI h t2 (Int32.toNatClampNeg s1) s0) (hR (sI h t2 (Int32.toNatClampNeg s1) s0) r0 1) (Int32.toNatClampNeg 9) x4) (hR (sI (sI h t2 (Int32.toNatClampNeg s1) s0) (hR (sI h t2 (Int32.toNatClampNeg s1) s0) r0 1) (Int32.toNatClampNeg 9) x4) r0 1) (Int32.toNatClampNeg 10) x5)))))) :=
    (r_guard (j := 112) (L' := [.ref r0, .ref r1, .ref r2, .int x3, .int x4, .int x5, .int x6, .int x7, .int x8, .int x9, .int x10, .int x11]) (S' := []) (h' := (sI h t2 (Int32.toNatClampNeg s1) s0)) (p := hK h t2 = 20 ∧ ixo s1 (hN h t2) = true) rfl rfl rfl rfl (and2 decide_eq_true_iff Iff.rfl)).trans <| and_r <|
    (r_go (j := 113) (L' := [.ref r0, .ref r1, .ref r2, .int x3, .int x4, .int x5, .int x6, .int x7, .int x8, .int x9, .int x10, .int x11]) (S' := [.ref r0]) (h' := (sI h t2 (Int32.toNatClampNeg s1) s0)) rfl rfl rfl rfl).trans <|
    (r_guard (j := 114) (L' := [.ref r0, .ref r1, .ref r2, .int x3, .int x4, .int x5, .int x6, .int x7, .int x8, .int x9, .int x10, .int x11]) (S' := [.ref (hR (sI h t2 (Int32.toNatClampNeg s1) s0) r0 1)]) (h' := (sI h t2 (Int32.toNatClampNeg s1) s0)) (p := hK (sI h t2 (Int32.toNatClampNeg s1) s0) r0 = 0) rfl rfl rfl rfl (decide_eq_true_iff)).trans <| and_r <|
    (r_bipush (j := 115) (x := 9) rfl i32_9 rfl).trans <|
    (r_go (j := 116) (L' := [.ref r0, .ref r1, .ref r2, .int x3, .int x4, .int x5, .int x6, .int x7, .int x8, .int x9, .int x10, .int x11]) (S' := [.int x4, .int 9, .ref (hR (sI h t2 (Int32.toNatClampNeg s1) s0) r0 1)]) (h' := (sI h t2 (Int32.toNatClampNeg s1) s0)) rfl rfl rfl rfl).trans <|
    (r_guard (j := 117) (L' := [.ref r0, .ref r1, .ref r2, .int x3, .int x4, .int x5, .int x6, .int x7, .int x8, .int x9, .int x10, .int x11]) (S' := []) (h' := (sI (sI h t2 (Int32.toNatClampNeg s1) s0) (hR (sI h t2 (Int32.toNatClampNeg s1) s0) r0 1) (Int32.toNatClampNeg 9) x4)) (p := hK (sI h t2 (Int32.toNatClampNeg s1) s0) (hR (sI h t2 (Int32.toNatClampNeg s1) s0) r0 1) = 20 ∧ ixo 9 (hN (sI h t2 (Int32.toNatClampNeg s1) s0) (hR (sI h t2 (Int32.toNatClampNeg s1) s0) r0 1)) = true) rfl rfl rfl rfl (and2 decide_eq_true_iff Iff.rfl)).trans <| and_r <|
    (r_go (j := 118) (L' := [.ref r0, .ref r1, .ref r2, .int x3, .int x4, .int x5, .int x6, .int x7, .int x8, .int x9, .int x10, .int x11]) (S' := [.ref r0]) (h' := (sI (sI h t2 (Int32.toNatClampNeg s1) s0) (hR (sI h t2 (Int32.toNatClampNeg s1) s0) r0 1) (Int32.toNatClampNeg 9) x4)) rfl rfl rfl rfl).trans <|
    (r_guard (j := 119) (L' := [.ref r0, .ref r1, .ref r2, .int x3, .int x4, .int x5, .int x6, .int x7, .int x8, .int x9, .int x10, .int x11]) (S' := [.ref (hR (sI (sI h t2 (Int32.toNatClampNeg s1) s0) (hR (sI h t2 (Int32.toNatClampNeg s1) s0) r0 1) (Int32.toNatClampNeg 9) x4) r0 1)]) (h' := (sI (sI h t2 (Int32.toNatClampNeg s1) s0) (hR (sI h t2 (Int32.toNatClampNeg s1) s0) r0 1) (Int32.toNatClampNeg 9) x4)) (p := hK (sI (sI h t2 (Int32.toNatClampNeg s1) s0) (hR (sI h t2 (Int32.toNatClampNeg s1) s0) r0 1) (Int32.toNatClampNeg 9) x4) r0 = 0) rfl rfl rfl rfl (decide_eq_true_iff)).trans <| and_r <|
    (r_bipush (j := 120) (x := 10) rfl i32_10 rfl).trans <|
    (r_go (j := 121) (L' := [.ref r0, .ref r1, .ref r2, .int x3, .int x4, .int x5, .int x6, .int x7, .int x8, .int x9, .int x10, .int x11]) (S' := [.int x5, .int 10, .ref (hR (sI (sI h t2 (Int32.toNatClampNeg s1) s0) (hR (sI h t2 (Int32.toNatClampNeg s1) s0) r0 1) (Int32.toNatClampNeg 9) x4) r0 1)]) (h' := (sI (sI h t2 (Int32.toNatClampNeg s1) s0) (hR (sI h t2 (Int32.toNatClampNeg s1) s0) r0 1) (Int32.toNatClampNeg 9) x4)) rfl rfl rfl rfl).trans <|
    (r_guard (j := 122) (L' := [.ref r0, .ref r1, .ref r2, .int x3, .int x4, .int x5, .int x6, .int x7, .int x8, .int x9, .int x10, .int x11]) (S' := []) (h' := (sI (sI (sI h t2 (Int32.toNatClampNeg s1) s0) (hR (sI h t2 (Int32.toNatClampNeg s1) s0) r0 1) (Int32.toNatClampNeg 9) x4) (hR (sI (sI h t2 (Int32.toNatClampNeg s1) s0) (hR (sI h t2 (Int32.toNatClampNeg s1) s0) r0 1) (Int32.toNatClampNeg 9) x4) r0 1) (Int32.toNatClampNeg 10) x5)) (p := hK (sI (sI h t2 (Int32.toNatClampNeg s1) s0) (hR (sI h t2 (Int32.toNatClampNeg s1) s0) r0 1) (Int32.toNatClampNeg 9) x4) (hR (sI (sI h t2 (Int32.toNatClampNeg s1) s0) (hR (sI h t2 (Int32.toNatClampNeg s1) s0) r0 1) (Int32.toNatClampNeg 9) x4) r0 1) = 20 ∧ ixo 10 (hN (sI (sI h t2 (Int32.toNatClampNeg s1) s0) (hR (sI h t2 (Int32.toNatClampNeg s1) s0) r0 1) (Int32.toNatClampNeg 9) x4) (hR (sI (sI h t2 (Int32.toNatClampNeg s1) s0) (hR (sI h t2 (Int32.toNatClampNeg s1) s0) r0 1) (Int32.toNatClampNeg 9) x4) r0 1)) = true) rfl rfl rfl rfl (and2 decide_eq_true_iff Iff.rfl)).trans <| and_r <|
    r_ret rfl rfl rfl
theorem e_Ch_pose {d : Nat} (x3 x4 x5 : Int32) (r0 r1 r2 : Nat) (h : AH) (Q : Option Value → AH → Prop) : Cl (d + 1) q_Ch_pose [.ref r0, .ref r1, .ref r2, .int x3, .int x4, .int x5] h Q ↔ hK h r0 = 0 ∧ Wp d P_Ch_pose 0 [.ref r0, .ref r1, .ref r2, .int x3, .int x4, .int x5, .null, .null, .null, .null, .null, .null] [] h (fun r h' => rtk (none) r = true ∧ Q r h') :=
    (Cl_method (t := m_Ch_pose) rfl).trans (and_congr_left fun _ => decide_eq_true_iff)
/-! PenThatJumps$Chair.jumpOf(II)I -/
theorem b_Ch_jumpOf_0 {d : Nat} (x1 x2 : Int32) (r0 : Nat) (h : AH) (Q : Option Value → AH → Prop) : Wp d P_Ch_jumpOf 0 [.ref r0, .int x1, .int x2, .null] [] h Q ↔ (hK h r0 = 0) ∧ ((hK h (hR h r0 1) = 20 ∧ ixo 11 (hN h (hR h r0 1)) = true) ∧ ((hK (sI h (hR h r0 1) (Int32.toNatClampNeg 11) x2) r0 = 0) ∧ ((hK (sI h (hR h r0 1) (Int32.toNatClampNeg 11) x2) r0 = 0) ∧ (Cl d q_Pg_run [.ref (hR (sI h (hR h r0 1) (Int32.toNatClampNeg 11) x2) r0 0), .int x1, .ref (hR (sI h (hR h r0 1) (Int32.toNatClampNeg 11) x2) r0 1)] (sI h (hR h r0 1) (Int32.toNatClampNeg 11) x2) (fun r h' => Wp d P_Ch_jumpOf 11 [.ref r0, .int x1, .int x2, .null] (r.toList ++ []) h' Q))))) :=
    (r_go (j := 1) (L' := [.ref r0, .int x1, .int x2, .null]) (S' := [.ref r0]) (h' := h) rfl rfl rfl rfl).trans <|
    (r_guard (j := 2) (L' := [.ref r0, .int x1, .int x2, .null]) (S' := [.ref (hR h r0 1)]) (h' := h) (p := hK h r0 = 0) rfl rfl rfl rfl (decide_eq_true_iff)).trans <| and_r <|
    (r_bipush (j := 3) (x := 11) rfl i32_11 rfl).trans <|
    (r_go (j := 4) (L' := [.ref r0, .int x1, .int x2, .null]) (S' := [.int x2, .int 11, .ref (hR h r0 1)]) (h' := h) rfl rfl rfl rfl).trans <|
    (r_guard (j := 5) (L' := [.ref r0, .int x1, .int x2, .null]) (S' := []) (h' := (sI h (hR h r0 1) (Int32.toNatClampNeg 11) x2)) (p := hK h (hR h r0 1) = 20 ∧ ixo 11 (hN h (hR h r0 1)) = true) rfl rfl rfl rfl (and2 decide_eq_true_iff Iff.rfl)).trans <| and_r <|
    (r_go (j := 6) (L' := [.ref r0, .int x1, .int x2, .null]) (S' := [.ref r0]) (h' := (sI h (hR h r0 1) (Int32.toNatClampNeg 11) x2)) rfl rfl rfl rfl).trans <|
    (r_guard (j := 7) (L' := [.ref r0, .int x1, .int x2, .null]) (S' := [.ref (hR (sI h (hR h r0 1) (Int32.toNatClampNeg 11) x2) r0 0)]) (h' := (sI h (hR h r0 1) (Int32.toNatClampNeg 11) x2)) (p := hK (sI h (hR h r0 1) (Int32.toNatClampNeg 11) x2) r0 = 0) rfl rfl rfl rfl (decide_eq_true_iff)).trans <| and_r <|
    (r_go (j := 8) (L' := [.ref r0, .int x1, .int x2, .null]) (S' := [.int x1, .ref (hR (sI h (hR h r0 1) (Int32.toNatClampNeg 11) x2) r0 0)]) (h' := (sI h (hR h r0 1) (Int32.toNatClampNeg 11) x2)) rfl rfl rfl rfl).trans <|
    (r_go (j := 9) (L' := [.ref r0, .int x1, .int x2, .null]) (S' := [.ref r0, .int x1, .ref (hR (sI h (hR h r0 1) (Int32.toNatClampNeg 11) x2) r0 0)]) (h' := (sI h (hR h r0 1) (Int32.toNatClampNeg 11) x2)) rfl rfl rfl rfl).trans <|
    (r_guard (j := 10) (L' := [.ref r0, .int x1, .int x2, .null]) (S' := [.ref (hR (sI h (hR h r0 1) (Int32.toNatClampNeg 11) x2) r0 1), .int x1, .ref (hR (sI h (hR h r0 1) (Int32.toNatClampNeg 11) x2) r0 0)]) (h' := (sI h (hR h r0 1) (Int32.toNatClampNeg 11) x2)) (p := hK (sI h (hR h r0 1) (Int32.toNatClampNeg 11) x2) r0 = 0) rfl rfl rfl rfl (decide_eq_true_iff)).trans <| and_r <|
    r_call (j := 11) (a := [.ref (hR (sI h (hR h r0 1) (Int32.toNatClampNeg 11) x2) r0 0), .int x1, .ref (hR (sI h (hR h r0 1) (Int32.toNatClampNeg 11) x2) r0 1)]) (S' := []) rfl rfl rfl rfl rfl rfl rfl
theorem b_Ch_jumpOf_11 {d : Nat} (x1 x2 s0 : Int32) (r0 : Nat) (h : AH) (Q : Option Value → AH → Prop) : Wp d P_Ch_jumpOf 11 [.ref r0, .int x1, .int x2, .null] [.int s0] h Q ↔ (0 ≤ s0 → Wp d P_Ch_jumpOf 16 [.ref r0, .int x1, .int x2, .int s0] [] h Q) ∧ (¬ (0 ≤ s0) → Wp d P_Ch_jumpOf 14 [.ref r0, .int x1, .int x2, .int s0] [] h Q) :=
    (r_go (j := 12) (L' := [.ref r0, .int x1, .int x2, .int s0]) (S' := []) (h' := h) rfl rfl rfl rfl).trans <|
    (r_go (j := 13) (L' := [.ref r0, .int x1, .int x2, .int s0]) (S' := [.int s0]) (h' := h) rfl rfl rfl rfl).trans <|
    r_if (j := 14) rfl (cd_ge _ _) rfl
theorem b_Ch_jumpOf_14 {d : Nat} (x1 x2 x3 : Int32) (r0 : Nat) (h : AH) (Q : Option Value → AH → Prop) : Wp d P_Ch_jumpOf 14 [.ref r0, .int x1, .int x2, .int x3] [] h Q ↔ Wp d P_Ch_jumpOf 22 [.ref r0, .int x1, .int x2, .int x3] [.int 0] h Q :=
    (r_iconst (j := 15) (x := 0) rfl i32_0 rfl).trans <|
    r_go (j := 22) (L' := [.ref r0, .int x1, .int x2, .int x3]) (S' := [.int 0]) (h' := h) rfl rfl rfl rfl
theorem b_Ch_jumpOf_16 {d : Nat} (x1 x2 x3 : Int32) (r0 : Nat) (h : AH) (Q : Option Value → AH → Prop) : Wp d P_Ch_jumpOf 16 [.ref r0, .int x1, .int x2, .int x3] [] h Q ↔ (x3 ≤ 99 → Wp d P_Ch_jumpOf 21 [.ref r0, .int x1, .int x2, .int x3] [] h Q) ∧ (¬ (x3 ≤ 99) → Wp d P_Ch_jumpOf 19 [.ref r0, .int x1, .int x2, .int x3] [] h Q) :=
    (r_go (j := 17) (L' := [.ref r0, .int x1, .int x2, .int x3]) (S' := [.int x3]) (h' := h) rfl rfl rfl rfl).trans <|
    (r_bipush (j := 18) (x := 99) rfl i32_99 rfl).trans <|
    r_icmp (j := 19) rfl (cd_le _ _) rfl
theorem b_Ch_jumpOf_19 {d : Nat} (x1 x2 x3 : Int32) (r0 : Nat) (h : AH) (Q : Option Value → AH → Prop) : Wp d P_Ch_jumpOf 19 [.ref r0, .int x1, .int x2, .int x3] [] h Q ↔ Wp d P_Ch_jumpOf 22 [.ref r0, .int x1, .int x2, .int x3] [.int 99] h Q :=
    (r_bipush (j := 20) (x := 99) rfl i32_99 rfl).trans <|
    r_go (j := 22) (L' := [.ref r0, .int x1, .int x2, .int x3]) (S' := [.int 99]) (h' := h) rfl rfl rfl rfl
theorem b_Ch_jumpOf_21 {d : Nat} (x1 x2 x3 : Int32) (r0 : Nat) (h : AH) (Q : Option Value → AH → Prop) : Wp d P_Ch_jumpOf 21 [.ref r0, .int x1, .int x2, .int x3] [] h Q ↔ Wp d P_Ch_jumpOf 22 [.ref r0, .int x1, .int x2, .int x3] [.int x3] h Q :=
    r_go (j := 22) (L' := [.ref r0, .int x1, .int x2, .int x3]) (S' := [.int x3]) (h' := h) rfl rfl rfl rfl
theorem b_Ch_jumpOf_22 {d : Nat} (x1 x2 x3 s0 : Int32) (r0 : Nat) (h : AH) (Q : Option Value → AH → Prop) : Wp d P_Ch_jumpOf 22 [.ref r0, .int x1, .int x2, .int x3] [.int s0] h Q ↔ Q (some (.int s0)) h :=
    r_ret rfl rfl rfl
theorem e_Ch_jumpOf {d : Nat} (x1 x2 : Int32) (r0 : Nat) (h : AH) (Q : Option Value → AH → Prop) : Cl (d + 1) q_Ch_jumpOf [.ref r0, .int x1, .int x2] h Q ↔ hK h r0 = 0 ∧ Wp d P_Ch_jumpOf 0 [.ref r0, .int x1, .int x2, .null] [] h (fun r h' => rtk (some .int) r = true ∧ Q r h') :=
    (Cl_method (t := m_Ch_jumpOf) rfl).trans (and_congr_left fun _ => decide_eq_true_iff)
/-! PenThatJumps$Judge.<init>()V -/
theorem b_Ju_init_0 {d : Nat} (r0 : Nat) (h : AH) (Q : Option Value → AH → Prop) : Wp d P_Ju_init 0 [.ref r0] [] h Q ↔ Cl d 301 [.ref r0] h (fun r h' => Wp d P_Ju_init 2 [.ref r0] (r.toList ++ []) h' Q) :=
    (r_go (j := 1) (L' := [.ref r0]) (S' := [.ref r0]) (h' := h) rfl rfl rfl rfl).trans <|
    r_call (j := 2) (a := [.ref r0]) (S' := []) rfl rfl rfl rfl rfl rfl rfl
theorem b_Ju_init_2 {d : Nat} (r0 : Nat) (h : AH) (Q : Option Value → AH → Prop) : Wp d P_Ju_init 2 [.ref r0] [] h Q ↔ ((0 : Int32) ≤ 20 ∧ Int32.toNatClampNeg 20 ≤ 10000) ∧ (Wp d P_Ju_init 5 [.ref r0] [.ref (hz h), .ref r0] (mkC h 20 (Int32.toNatClampNeg 20) (Int32.toNatClampNeg 20)) Q) :=
    (r_go (j := 3) (L' := [.ref r0]) (S' := [.ref r0]) (h' := h) rfl rfl rfl rfl).trans <|
    (r_bipush (j := 4) (x := 20) rfl i32_20 rfl).trans <|
    r_guard (j := 5) (L' := [.ref r0]) (S' := [.ref (hz h), .ref r0]) (h' := (mkC h 20 (Int32.toNatClampNeg 20) (Int32.toNatClampNeg 20))) (p := (0 : Int32) ≤ 20 ∧ Int32.toNatClampNeg 20 ≤ 10000) rfl rfl rfl rfl (and2 decide_eq_true_iff decide_eq_true_iff)
theorem b_Ju_init_5 {d : Nat} (r0 t0 t1 : Nat) (h : AH) (Q : Option Value → AH → Prop) : Wp d P_Ju_init 5 [.ref r0] [.ref t0, .ref t1] h Q ↔ (hK h t1 = 1) ∧ (Wp d P_Ju_init 6 [.ref r0] [] (sR h t1 0 t0) Q) :=
    r_guard (j := 6) (L' := [.ref r0]) (S' := []) (h' := (sR h t1 0 t0)) (p := hK h t1 = 1) rfl rfl rfl rfl (pfR rfl)
theorem b_Ju_init_6 {d : Nat} (r0 : Nat) (h : AH) (Q : Option Value → AH → Prop) : Wp d P_Ju_init 6 [.ref r0] [] h Q ↔ Q (none) h :=
    r_ret rfl rfl rfl
theorem e_Ju_init {d : Nat} (r0 : Nat) (h : AH) (Q : Option Value → AH → Prop) : Cl (d + 1) q_Ju_init [.ref r0] h Q ↔ hK h r0 = 1 ∧ Wp d P_Ju_init 0 [.ref r0] [] h (fun r h' => rtk (none) r = true ∧ Q r h') :=
    (Cl_method (t := m_Ju_init) rfl).trans (and_congr_left fun _ => decide_eq_true_iff)
/-! PenThatJumps$Judge.study(LPenThatJumps$Sitting;)V -/
theorem b_Ju_study_0 {d : Nat} (r0 r1 : Nat) (h : AH) (Q : Option Value → AH → Prop) : Wp d P_Ju_study 0 [.ref r0, .ref r1, .null, .null] [] h Q ↔ (hK h r0 = 1) ∧ (Cl d q_Ar_fill [.ref (hR h r0 0), .int 0] h (fun r h' => Wp d P_Ju_study 4 [.ref r0, .ref r1, .null, .null] (r.toList ++ []) h' Q)) :=
    (r_go (j := 1) (L' := [.ref r0, .ref r1, .null, .null]) (S' := [.ref r0]) (h' := h) rfl rfl rfl rfl).trans <|
    (r_guard (j := 2) (L' := [.ref r0, .ref r1, .null, .null]) (S' := [.ref (hR h r0 0)]) (h' := h) (p := hK h r0 = 1) rfl rfl rfl rfl (decide_eq_true_iff)).trans <| and_r <|
    (r_iconst (j := 3) (x := 0) rfl i32_0 rfl).trans <|
    r_call (j := 4) (a := [.ref (hR h r0 0), .int 0]) (S' := []) rfl rfl rfl rfl rfl rfl rfl
theorem b_Ju_study_4 {d : Nat} (r0 r1 : Nat) (h : AH) (Q : Option Value → AH → Prop) : Wp d P_Ju_study 4 [.ref r0, .ref r1, .null, .null] [] h Q ↔ (hK h r0 = 1) ∧ ((hK h r1 = 7) ∧ ((hK h (hR h r1 0) = 4) ∧ ((hK h (hR h r0 0) = 20 ∧ ixo 19 (hN h (hR h r0 0)) = true) ∧ (Wp d P_Ju_study 13 [.ref r0, .ref r1, .int 0, .null] [] (sI h (hR h r0 0) (Int32.toNatClampNeg 19) (hI h (hR h r1 0) 3)) Q)))) :=
    (r_go (j := 5) (L' := [.ref r0, .ref r1, .null, .null]) (S' := [.ref r0]) (h' := h) rfl rfl rfl rfl).trans <|
    (r_guard (j := 6) (L' := [.ref r0, .ref r1, .null, .null]) (S' := [.ref (hR h r0 0)]) (h' := h) (p := hK h r0 = 1) rfl rfl rfl rfl (decide_eq_true_iff)).trans <| and_r <|
    (r_bipush (j := 7) (x := 19) rfl i32_19 rfl).trans <|
    (r_go (j := 8) (L' := [.ref r0, .ref r1, .null, .null]) (S' := [.ref r1, .int 19, .ref (hR h r0 0)]) (h' := h) rfl rfl rfl rfl).trans <|
    (r_guard (j := 9) (L' := [.ref r0, .ref r1, .null, .null]) (S' := [.ref (hR h r1 0), .int 19, .ref (hR h r0 0)]) (h' := h) (p := hK h r1 = 7) rfl rfl rfl rfl (decide_eq_true_iff)).trans <| and_r <|
    (r_guard (j := 10) (L' := [.ref r0, .ref r1, .null, .null]) (S' := [.int (hI h (hR h r1 0) 3), .int 19, .ref (hR h r0 0)]) (h' := h) (p := hK h (hR h r1 0) = 4) rfl rfl rfl rfl (decide_eq_true_iff)).trans <| and_r <|
    (r_guard (j := 11) (L' := [.ref r0, .ref r1, .null, .null]) (S' := []) (h' := (sI h (hR h r0 0) (Int32.toNatClampNeg 19) (hI h (hR h r1 0) 3))) (p := hK h (hR h r0 0) = 20 ∧ ixo 19 (hN h (hR h r0 0)) = true) rfl rfl rfl rfl (and2 decide_eq_true_iff Iff.rfl)).trans <| and_r <|
    (r_iconst (j := 12) (x := 0) rfl i32_0 rfl).trans <|
    r_go (j := 13) (L' := [.ref r0, .ref r1, .int 0, .null]) (S' := []) (h' := (sI h (hR h r0 0) (Int32.toNatClampNeg 19) (hI h (hR h r1 0) 3))) rfl rfl rfl rfl
theorem b_Ju_study_13 {d : Nat} (x2 : Int32) (r0 r1 : Nat) (v3 : Value) (h : AH) (Q : Option Value → AH → Prop) : Wp d P_Ju_study 13 [.ref r0, .ref r1, .int x2, v3] [] h Q ↔ (hK h r1 = 7) ∧ ((hK h (hR h r1 0) = 4) ∧ (((hI h (hR h r1 0) 3) ≤ x2 → Wp d P_Ju_study 32 [.ref r0, .ref r1, .int x2, v3] [] h Q) ∧ (¬ ((hI h (hR h r1 0) 3) ≤ x2) → Wp d P_Ju_study 18 [.ref r0, .ref r1, .int x2, v3] [] h Q))) :=
    (r_go (j := 14) (L' := [.ref r0, .ref r1, .int x2, v3]) (S' := [.int x2]) (h' := h) rfl rfl rfl rfl).trans <|
    (r_go (j := 15) (L' := [.ref r0, .ref r1, .int x2, v3]) (S' := [.ref r1, .int x2]) (h' := h) rfl rfl rfl rfl).trans <|
    (r_guard (j := 16) (L' := [.ref r0, .ref r1, .int x2, v3]) (S' := [.ref (hR h r1 0), .int x2]) (h' := h) (p := hK h r1 = 7) rfl rfl rfl rfl (decide_eq_true_iff)).trans <| and_r <|
    (r_guard (j := 17) (L' := [.ref r0, .ref r1, .int x2, v3]) (S' := [.int (hI h (hR h r1 0) 3), .int x2]) (h' := h) (p := hK h (hR h r1 0) = 4) rfl rfl rfl rfl (decide_eq_true_iff)).trans <| and_r <|
    r_icmp (j := 18) rfl (cd_ge _ _) rfl
theorem b_Ju_study_18 {d : Nat} (x2 : Int32) (r0 r1 : Nat) (v3 : Value) (h : AH) (Q : Option Value → AH → Prop) : Wp d P_Ju_study 18 [.ref r0, .ref r1, .int x2, v3] [] h Q ↔ Wp d P_Ju_study 20 [.ref r0, .ref r1, .int x2, .int 0] [] h Q :=
    (r_iconst (j := 19) (x := 0) rfl i32_0 rfl).trans <|
    r_go (j := 20) (L' := [.ref r0, .ref r1, .int x2, .int 0]) (S' := []) (h' := h) rfl rfl rfl rfl
theorem b_Ju_study_20 {d : Nat} (x2 x3 : Int32) (r0 r1 : Nat) (h : AH) (Q : Option Value → AH → Prop) : Wp d P_Ju_study 20 [.ref r0, .ref r1, .int x2, .int x3] [] h Q ↔ (3 ≤ x3 → Wp d P_Ju_study 30 [.ref r0, .ref r1, .int x2, .int x3] [] h Q) ∧ (¬ (3 ≤ x3) → Wp d P_Ju_study 23 [.ref r0, .ref r1, .int x2, .int x3] [] h Q) :=
    (r_go (j := 21) (L' := [.ref r0, .ref r1, .int x2, .int x3]) (S' := [.int x3]) (h' := h) rfl rfl rfl rfl).trans <|
    (r_iconst (j := 22) (x := 3) rfl i32_3 rfl).trans <|
    r_icmp (j := 23) rfl (cd_ge _ _) rfl
theorem b_Ju_study_23 {d : Nat} (x2 x3 : Int32) (r0 r1 : Nat) (h : AH) (Q : Option Value → AH → Prop) : Wp d P_Ju_study 23 [.ref r0, .ref r1, .int x2, .int x3] [] h Q ↔ Cl d q_Ju_note [.ref r0, .ref r1, .int x2, .int x3] h (fun r h' => Wp d P_Ju_study 28 [.ref r0, .ref r1, .int x2, .int x3] (r.toList ++ []) h' Q) :=
    (r_go (j := 24) (L' := [.ref r0, .ref r1, .int x2, .int x3]) (S' := [.ref r0]) (h' := h) rfl rfl rfl rfl).trans <|
    (r_go (j := 25) (L' := [.ref r0, .ref r1, .int x2, .int x3]) (S' := [.ref r1, .ref r0]) (h' := h) rfl rfl rfl rfl).trans <|
    (r_go (j := 26) (L' := [.ref r0, .ref r1, .int x2, .int x3]) (S' := [.int x2, .ref r1, .ref r0]) (h' := h) rfl rfl rfl rfl).trans <|
    (r_go (j := 27) (L' := [.ref r0, .ref r1, .int x2, .int x3]) (S' := [.int x3, .int x2, .ref r1, .ref r0]) (h' := h) rfl rfl rfl rfl).trans <|
    r_call (j := 28) (a := [.ref r0, .ref r1, .int x2, .int x3]) (S' := []) rfl rfl rfl rfl rfl rfl rfl
theorem b_Ju_study_28 {d : Nat} (x2 x3 : Int32) (r0 r1 : Nat) (h : AH) (Q : Option Value → AH → Prop) : Wp d P_Ju_study 28 [.ref r0, .ref r1, .int x2, .int x3] [] h Q ↔ Wp d P_Ju_study 20 [.ref r0, .ref r1, .int x2, .int (x3 + 1)] [] h Q :=
    (r_iinc (j := 29) (x := 1) (L' := [.ref r0, .ref r1, .int x2, .int (x3 + 1)]) rfl rfl i32_1 rfl rfl).trans <|
    r_go (j := 20) (L' := [.ref r0, .ref r1, .int x2, .int (x3 + 1)]) (S' := []) (h' := h) rfl rfl rfl rfl
theorem b_Ju_study_30 {d : Nat} (x2 x3 : Int32) (r0 r1 : Nat) (h : AH) (Q : Option Value → AH → Prop) : Wp d P_Ju_study 30 [.ref r0, .ref r1, .int x2, .int x3] [] h Q ↔ Wp d P_Ju_study 13 [.ref r0, .ref r1, .int (x2 + 1), .int x3] [] h Q :=
    (r_iinc (j := 31) (x := 1) (L' := [.ref r0, .ref r1, .int (x2 + 1), .int x3]) rfl rfl i32_1 rfl rfl).trans <|
    r_go (j := 13) (L' := [.ref r0, .ref r1, .int (x2 + 1), .int x3]) (S' := []) (h' := h) rfl rfl rfl rfl
theorem b_Ju_study_32 {d : Nat} (x2 : Int32) (r0 r1 : Nat) (v3 : Value) (h : AH) (Q : Option Value → AH → Prop) : Wp d P_Ju_study 32 [.ref r0, .ref r1, .int x2, v3] [] h Q ↔ Q (none) h :=
    r_ret rfl rfl rfl
theorem e_Ju_study {d : Nat} (r0 r1 : Nat) (h : AH) (Q : Option Value → AH → Prop) : Cl (d + 1) q_Ju_study [.ref r0, .ref r1] h Q ↔ hK h r0 = 1 ∧ Wp d P_Ju_study 0 [.ref r0, .ref r1, .null, .null] [] h (fun r h' => rtk (none) r = true ∧ Q r h') :=
    (Cl_method (t := m_Ju_study) rfl).trans (and_congr_left fun _ => decide_eq_true_iff)
/-! PenThatJumps$Judge.note(LPenThatJumps$Sitting;II)V -/
theorem b_Ju_note_0 {d : Nat} (x2 x3 : Int32) (r0 r1 : Nat) (h : AH) (Q : Option Value → AH → Prop) : Wp d P_Ju_note 0 [.ref r0, .ref r1, .int x2, .int x3, .null, .null, .null, .null] [] h Q ↔ Cl d q_Si_jumpAt [.ref r1, .int x2, .int x3] h (fun r h' => Wp d P_Ju_note 4 [.ref r0, .ref r1, .int x2, .int x3, .null, .null, .null, .null] (r.toList ++ []) h' Q) :=
    (r_go (j := 1) (L' := [.ref r0, .ref r1, .int x2, .int x3, .null, .null, .null, .null]) (S' := [.ref r1]) (h' := h) rfl rfl rfl rfl).trans <|
    (r_go (j := 2) (L' := [.ref r0, .ref r1, .int x2, .int x3, .null, .null, .null, .null]) (S' := [.int x2, .ref r1]) (h' := h) rfl rfl rfl rfl).trans <|
    (r_go (j := 3) (L' := [.ref r0, .ref r1, .int x2, .int x3, .null, .null, .null, .null]) (S' := [.int x3, .int x2, .ref r1]) (h' := h) rfl rfl rfl rfl).trans <|
    r_call (j := 4) (a := [.ref r1, .int x2, .int x3]) (S' := []) rfl rfl rfl rfl rfl rfl rfl
theorem b_Ju_note_4 {d : Nat} (x2 x3 s0 : Int32) (r0 r1 : Nat) (h : AH) (Q : Option Value → AH → Prop) : Wp d P_Ju_note 4 [.ref r0, .ref r1, .int x2, .int x3, .null, .null, .null, .null] [.int s0] h Q ↔ (hK h r1 = 7) ∧ (Cl d q_Pl_kindAt [.ref (hR h r1 0), .int x2] h (fun r h' => Wp d P_Ju_note 9 [.ref r0, .ref r1, .int x2, .int x3, .int s0, .null, .null, .null] (r.toList ++ []) h' Q)) :=
    (r_go (j := 5) (L' := [.ref r0, .ref r1, .int x2, .int x3, .int s0, .null, .null, .null]) (S' := []) (h' := h) rfl rfl rfl rfl).trans <|
    (r_go (j := 6) (L' := [.ref r0, .ref r1, .int x2, .int x3, .int s0, .null, .null, .null]) (S' := [.ref r1]) (h' := h) rfl rfl rfl rfl).trans <|
    (r_guard (j := 7) (L' := [.ref r0, .ref r1, .int x2, .int x3, .int s0, .null, .null, .null]) (S' := [.ref (hR h r1 0)]) (h' := h) (p := hK h r1 = 7) rfl rfl rfl rfl (decide_eq_true_iff)).trans <| and_r <|
    (r_go (j := 8) (L' := [.ref r0, .ref r1, .int x2, .int x3, .int s0, .null, .null, .null]) (S' := [.int x2, .ref (hR h r1 0)]) (h' := h) rfl rfl rfl rfl).trans <|
    r_call (j := 9) (a := [.ref (hR h r1 0), .int x2]) (S' := []) rfl rfl rfl rfl rfl rfl rfl
theorem b_Ju_note_9 {d : Nat} (x2 x3 x4 s0 : Int32) (r0 r1 : Nat) (h : AH) (Q : Option Value → AH → Prop) : Wp d P_Ju_note 9 [.ref r0, .ref r1, .int x2, .int x3, .int x4, .null, .null, .null] [.int s0] h Q ↔ (((s0 * 3) + x3) < 0 → Wp d P_Ju_note 29 [.ref r0, .ref r1, .int x2, .int x3, .int x4, .int ((s0 * 3) + x3), .null, .null] [] h Q) ∧ (¬ (((s0 * 3) + x3) < 0) → Wp d P_Ju_note 16 [.ref r0, .ref r1, .int x2, .int x3, .int x4, .int ((s0 * 3) + x3), .null, .null] [] h Q) :=
    (r_iconst (j := 10) (x := 3) rfl i32_3 rfl).trans <|
    (r_go (j := 11) (L' := [.ref r0, .ref r1, .int x2, .int x3, .int x4, .null, .null, .null]) (S' := [.int (s0 * 3)]) (h' := h) rfl rfl rfl rfl).trans <|
    (r_go (j := 12) (L' := [.ref r0, .ref r1, .int x2, .int x3, .int x4, .null, .null, .null]) (S' := [.int x3, .int (s0 * 3)]) (h' := h) rfl rfl rfl rfl).trans <|
    (r_go (j := 13) (L' := [.ref r0, .ref r1, .int x2, .int x3, .int x4, .null, .null, .null]) (S' := [.int ((s0 * 3) + x3)]) (h' := h) rfl rfl rfl rfl).trans <|
    (r_go (j := 14) (L' := [.ref r0, .ref r1, .int x2, .int x3, .int x4, .int ((s0 * 3) + x3), .null, .null]) (S' := []) (h' := h) rfl rfl rfl rfl).trans <|
    (r_go (j := 15) (L' := [.ref r0, .ref r1, .int x2, .int x3, .int x4, .int ((s0 * 3) + x3), .null, .null]) (S' := [.int ((s0 * 3) + x3)]) (h' := h) rfl rfl rfl rfl).trans <|
    r_if (j := 16) rfl (cd_lt _ _) rfl
theorem b_Ju_note_16 {d : Nat} (x2 x3 x4 x5 : Int32) (r0 r1 : Nat) (h : AH) (Q : Option Value → AH → Prop) : Wp d P_Ju_note 16 [.ref r0, .ref r1, .int x2, .int x3, .int x4, .int x5, .null, .null] [] h Q ↔ (hK h r0 = 1) ∧ ((20 ≤ hK h (hR h r0 0) ∧ hK h (hR h r0 0) ≠ 40 ∧ hK h (hR h r0 0) ≠ 42 ∧ hK h (hR h r0 0) ≤ 45 ∧ hK h (hR h r0 0) ≠ 43) ∧ (((Int32.ofNat (hN h (hR h r0 0))) ≤ x5 → Wp d P_Ju_note 29 [.ref r0, .ref r1, .int x2, .int x3, .int x4, .int x5, .null, .null] [] h Q) ∧ (¬ ((Int32.ofNat (hN h (hR h r0 0))) ≤ x5) → Wp d P_Ju_note 21 [.ref r0, .ref r1, .int x2, .int x3, .int x4, .int x5, .null, .null] [] h Q))) :=
    (r_go (j := 17) (L' := [.ref r0, .ref r1, .int x2, .int x3, .int x4, .int x5, .null, .null]) (S' := [.int x5]) (h' := h) rfl rfl rfl rfl).trans <|
    (r_go (j := 18) (L' := [.ref r0, .ref r1, .int x2, .int x3, .int x4, .int x5, .null, .null]) (S' := [.ref r0, .int x5]) (h' := h) rfl rfl rfl rfl).trans <|
    (r_guard (j := 19) (L' := [.ref r0, .ref r1, .int x2, .int x3, .int x4, .int x5, .null, .null]) (S' := [.ref (hR h r0 0), .int x5]) (h' := h) (p := hK h r0 = 1) rfl rfl rfl rfl (decide_eq_true_iff)).trans <| and_r <|
    (r_guard (j := 20) (L' := [.ref r0, .ref r1, .int x2, .int x3, .int x4, .int x5, .null, .null]) (S' := [.int (Int32.ofNat (hN h (hR h r0 0))), .int x5]) (h' := h) (p := 20 ≤ hK h (hR h r0 0) ∧ hK h (hR h r0 0) ≠ 40 ∧ hK h (hR h r0 0) ≠ 42 ∧ hK h (hR h r0 0) ≤ 45 ∧ hK h (hR h r0 0) ≠ 43) rfl rfl rfl rfl (decide_eq_true_iff)).trans <| and_r <|
    r_icmp (j := 21) rfl (cd_ge _ _) rfl
theorem b_Ju_note_21 {d : Nat} (x2 x3 x4 x5 : Int32) (r0 r1 : Nat) (h : AH) (Q : Option Value → AH → Prop) : Wp d P_Ju_note 21 [.ref r0, .ref r1, .int x2, .int x3, .int x4, .int x5, .null, .null] [] h Q ↔ (hK h r0 = 1) ∧ ((hK h (hR h r0 0) ∈ [20, 44] ∧ ixo x5 (hN h (hR h r0 0)) = true) ∧ ((hK h (hR h r0 0) = 20 ∧ ixo x5 (hN h (hR h r0 0)) = true) ∧ (Wp d P_Ju_note 29 [.ref r0, .ref r1, .int x2, .int x3, .int x4, .int x5, .null, .null] [] (sI h (hR h r0 0) (Int32.toNatClampNeg x5) ((hI h (hR h r0 0) (Int32.toNatClampNeg x5)) + x4)) Q))) :=
    (r_go (j := 22) (L' := [.ref r0, .ref r1, .int x2, .int x3, .int x4, .int x5, .null, .null]) (S' := [.ref r0]) (h' := h) rfl rfl rfl rfl).trans <|
    (r_guard (j := 23) (L' := [.ref r0, .ref r1, .int x2, .int x3, .int x4, .int x5, .null, .null]) (S' := [.ref (hR h r0 0)]) (h' := h) (p := hK h r0 = 1) rfl rfl rfl rfl (decide_eq_true_iff)).trans <| and_r <|
    (r_go (j := 24) (L' := [.ref r0, .ref r1, .int x2, .int x3, .int x4, .int x5, .null, .null]) (S' := [.int x5, .ref (hR h r0 0)]) (h' := h) rfl rfl rfl rfl).trans <|
    (r_go (j := 25) (L' := [.ref r0, .ref r1, .int x2, .int x3, .int x4, .int x5, .null, .null]) (S' := [.int x5, .ref (hR h r0 0), .int x5, .ref (hR h r0 0)]) (h' := h) rfl rfl rfl rfl).trans <|
    (r_guard (j := 26) (L' := [.ref r0, .ref r1, .int x2, .int x3, .int x4, .int x5, .null, .null]) (S' := [.int (hI h (hR h r0 0) (Int32.toNatClampNeg x5)), .int x5, .ref (hR h r0 0)]) (h' := h) (p := hK h (hR h r0 0) ∈ [20, 44] ∧ ixo x5 (hN h (hR h r0 0)) = true) rfl rfl rfl rfl (and2 decide_eq_true_iff Iff.rfl)).trans <| and_r <|
    (r_go (j := 27) (L' := [.ref r0, .ref r1, .int x2, .int x3, .int x4, .int x5, .null, .null]) (S' := [.int x4, .int (hI h (hR h r0 0) (Int32.toNatClampNeg x5)), .int x5, .ref (hR h r0 0)]) (h' := h) rfl rfl rfl rfl).trans <|
    (r_go (j := 28) (L' := [.ref r0, .ref r1, .int x2, .int x3, .int x4, .int x5, .null, .null]) (S' := [.int ((hI h (hR h r0 0) (Int32.toNatClampNeg x5)) + x4), .int x5, .ref (hR h r0 0)]) (h' := h) rfl rfl rfl rfl).trans <|
    r_guard (j := 29) (L' := [.ref r0, .ref r1, .int x2, .int x3, .int x4, .int x5, .null, .null]) (S' := []) (h' := (sI h (hR h r0 0) (Int32.toNatClampNeg x5) ((hI h (hR h r0 0) (Int32.toNatClampNeg x5)) + x4))) (p := hK h (hR h r0 0) = 20 ∧ ixo x5 (hN h (hR h r0 0)) = true) rfl rfl rfl rfl (and2 decide_eq_true_iff Iff.rfl)
theorem b_Ju_note_29 {d : Nat} (x2 x3 x4 x5 : Int32) (r0 r1 : Nat) (h : AH) (Q : Option Value → AH → Prop) : Wp d P_Ju_note 29 [.ref r0, .ref r1, .int x2, .int x3, .int x4, .int x5, .null, .null] [] h Q ↔ (hK h r1 = 7) ∧ (Cl d q_Pl_itemAt [.ref (hR h r1 0), .int x2] h (fun r h' => Wp d P_Ju_note 33 [.ref r0, .ref r1, .int x2, .int x3, .int x4, .int x5, .null, .null] (r.toList ++ []) h' Q)) :=
    (r_go (j := 30) (L' := [.ref r0, .ref r1, .int x2, .int x3, .int x4, .int x5, .null, .null]) (S' := [.ref r1]) (h' := h) rfl rfl rfl rfl).trans <|
    (r_guard (j := 31) (L' := [.ref r0, .ref r1, .int x2, .int x3, .int x4, .int x5, .null, .null]) (S' := [.ref (hR h r1 0)]) (h' := h) (p := hK h r1 = 7) rfl rfl rfl rfl (decide_eq_true_iff)).trans <| and_r <|
    (r_go (j := 32) (L' := [.ref r0, .ref r1, .int x2, .int x3, .int x4, .int x5, .null, .null]) (S' := [.int x2, .ref (hR h r1 0)]) (h' := h) rfl rfl rfl rfl).trans <|
    r_call (j := 33) (a := [.ref (hR h r1 0), .int x2]) (S' := []) rfl rfl rfl rfl rfl rfl rfl
theorem b_Ju_note_33 {d : Nat} (x2 x3 x4 x5 s0 : Int32) (r0 r1 : Nat) (h : AH) (Q : Option Value → AH → Prop) : Wp d P_Ju_note 33 [.ref r0, .ref r1, .int x2, .int x3, .int x4, .int x5, .null, .null] [.int s0] h Q ↔ (hK h r1 = 7) ∧ ((¬ s0 = (hI h r1 2) → Wp d P_Ju_note 40 [.ref r0, .ref r1, .int x2, .int x3, .int x4, .int x5, .int s0, .null] [] h Q) ∧ (¬ (¬ s0 = (hI h r1 2)) → Wp d P_Ju_note 38 [.ref r0, .ref r1, .int x2, .int x3, .int x4, .int x5, .int s0, .null] [] h Q)) :=
    (r_go (j := 34) (L' := [.ref r0, .ref r1, .int x2, .int x3, .int x4, .int x5, .int s0, .null]) (S' := []) (h' := h) rfl rfl rfl rfl).trans <|
    (r_go (j := 35) (L' := [.ref r0, .ref r1, .int x2, .int x3, .int x4, .int x5, .int s0, .null]) (S' := [.int s0]) (h' := h) rfl rfl rfl rfl).trans <|
    (r_go (j := 36) (L' := [.ref r0, .ref r1, .int x2, .int x3, .int x4, .int x5, .int s0, .null]) (S' := [.ref r1, .int s0]) (h' := h) rfl rfl rfl rfl).trans <|
    (r_guard (j := 37) (L' := [.ref r0, .ref r1, .int x2, .int x3, .int x4, .int x5, .int s0, .null]) (S' := [.int (hI h r1 2), .int s0]) (h' := h) (p := hK h r1 = 7) rfl rfl rfl rfl (decide_eq_true_iff)).trans <| and_r <|
    r_icmp (j := 38) rfl (cd_ne _ _) rfl
theorem b_Ju_note_38 {d : Nat} (x2 x3 x4 x5 x6 : Int32) (r0 r1 : Nat) (h : AH) (Q : Option Value → AH → Prop) : Wp d P_Ju_note 38 [.ref r0, .ref r1, .int x2, .int x3, .int x4, .int x5, .int x6, .null] [] h Q ↔ Wp d P_Ju_note 41 [.ref r0, .ref r1, .int x2, .int x3, .int x4, .int x5, .int x6, .null] [.int 12] h Q :=
    (r_bipush (j := 39) (x := 12) rfl i32_12 rfl).trans <|
    r_go (j := 41) (L' := [.ref r0, .ref r1, .int x2, .int x3, .int x4, .int x5, .int x6, .null]) (S' := [.int 12]) (h' := h) rfl rfl rfl rfl
theorem b_Ju_note_40 {d : Nat} (x2 x3 x4 x5 x6 : Int32) (r0 r1 : Nat) (h : AH) (Q : Option Value → AH → Prop) : Wp d P_Ju_note 40 [.ref r0, .ref r1, .int x2, .int x3, .int x4, .int x5, .int x6, .null] [] h Q ↔ Wp d P_Ju_note 41 [.ref r0, .ref r1, .int x2, .int x3, .int x4, .int x5, .int x6, .null] [.int 15] h Q :=
    r_bipush (j := 41) (x := 15) rfl i32_15 rfl
theorem b_Ju_note_41 {d : Nat} (x2 x3 x4 x5 x6 s0 : Int32) (r0 r1 : Nat) (h : AH) (Q : Option Value → AH → Prop) : Wp d P_Ju_note 41 [.ref r0, .ref r1, .int x2, .int x3, .int x4, .int x5, .int x6, .null] [.int s0] h Q ↔ (x6 = (-1) → Wp d P_Ju_note 64 [.ref r0, .ref r1, .int x2, .int x3, .int x4, .int x5, .int x6, .int (s0 + x3)] [] h Q) ∧ (¬ (x6 = (-1)) → Wp d P_Ju_note 47 [.ref r0, .ref r1, .int x2, .int x3, .int x4, .int x5, .int x6, .int (s0 + x3)] [] h Q) :=
    (r_go (j := 42) (L' := [.ref r0, .ref r1, .int x2, .int x3, .int x4, .int x5, .int x6, .null]) (S' := [.int x3, .int s0]) (h' := h) rfl rfl rfl rfl).trans <|
    (r_go (j := 43) (L' := [.ref r0, .ref r1, .int x2, .int x3, .int x4, .int x5, .int x6, .null]) (S' := [.int (s0 + x3)]) (h' := h) rfl rfl rfl rfl).trans <|
    (r_go (j := 44) (L' := [.ref r0, .ref r1, .int x2, .int x3, .int x4, .int x5, .int x6, .int (s0 + x3)]) (S' := []) (h' := h) rfl rfl rfl rfl).trans <|
    (r_go (j := 45) (L' := [.ref r0, .ref r1, .int x2, .int x3, .int x4, .int x5, .int x6, .int (s0 + x3)]) (S' := [.int x6]) (h' := h) rfl rfl rfl rfl).trans <|
    (r_iconst (j := 46) (x := (-1)) rfl i32_m1 rfl).trans <|
    r_icmp (j := 47) rfl (cd_eq _ _) rfl
theorem b_Ju_note_47 {d : Nat} (x2 x3 x4 x5 x6 x7 : Int32) (r0 r1 : Nat) (h : AH) (Q : Option Value → AH → Prop) : Wp d P_Ju_note 47 [.ref r0, .ref r1, .int x2, .int x3, .int x4, .int x5, .int x6, .int x7] [] h Q ↔ (x7 < 0 → Wp d P_Ju_note 64 [.ref r0, .ref r1, .int x2, .int x3, .int x4, .int x5, .int x6, .int x7] [] h Q) ∧ (¬ (x7 < 0) → Wp d P_Ju_note 49 [.ref r0, .ref r1, .int x2, .int x3, .int x4, .int x5, .int x6, .int x7] [] h Q) :=
    (r_go (j := 48) (L' := [.ref r0, .ref r1, .int x2, .int x3, .int x4, .int x5, .int x6, .int x7]) (S' := [.int x7]) (h' := h) rfl rfl rfl rfl).trans <|
    r_if (j := 49) rfl (cd_lt _ _) rfl
theorem b_Ju_note_49 {d : Nat} (x2 x3 x4 x5 x6 x7 : Int32) (r0 r1 : Nat) (h : AH) (Q : Option Value → AH → Prop) : Wp d P_Ju_note 49 [.ref r0, .ref r1, .int x2, .int x3, .int x4, .int x5, .int x6, .int x7] [] h Q ↔ (hK h r0 = 1) ∧ ((20 ≤ hK h (hR h r0 0) ∧ hK h (hR h r0 0) ≠ 40 ∧ hK h (hR h r0 0) ≠ 42 ∧ hK h (hR h r0 0) ≤ 45 ∧ hK h (hR h r0 0) ≠ 43) ∧ (((Int32.ofNat (hN h (hR h r0 0))) ≤ x7 → Wp d P_Ju_note 64 [.ref r0, .ref r1, .int x2, .int x3, .int x4, .int x5, .int x6, .int x7] [] h Q) ∧ (¬ ((Int32.ofNat (hN h (hR h r0 0))) ≤ x7) → Wp d P_Ju_note 54 [.ref r0, .ref r1, .int x2, .int x3, .int x4, .int x5, .int x6, .int x7] [] h Q))) :=
    (r_go (j := 50) (L' := [.ref r0, .ref r1, .int x2, .int x3, .int x4, .int x5, .int x6, .int x7]) (S' := [.int x7]) (h' := h) rfl rfl rfl rfl).trans <|
    (r_go (j := 51) (L' := [.ref r0, .ref r1, .int x2, .int x3, .int x4, .int x5, .int x6, .int x7]) (S' := [.ref r0, .int x7]) (h' := h) rfl rfl rfl rfl).trans <|
    (r_guard (j := 52) (L' := [.ref r0, .ref r1, .int x2, .int x3, .int x4, .int x5, .int x6, .int x7]) (S' := [.ref (hR h r0 0), .int x7]) (h' := h) (p := hK h r0 = 1) rfl rfl rfl rfl (decide_eq_true_iff)).trans <| and_r <|
    (r_guard (j := 53) (L' := [.ref r0, .ref r1, .int x2, .int x3, .int x4, .int x5, .int x6, .int x7]) (S' := [.int (Int32.ofNat (hN h (hR h r0 0))), .int x7]) (h' := h) (p := 20 ≤ hK h (hR h r0 0) ∧ hK h (hR h r0 0) ≠ 40 ∧ hK h (hR h r0 0) ≠ 42 ∧ hK h (hR h r0 0) ≤ 45 ∧ hK h (hR h r0 0) ≠ 43) rfl rfl rfl rfl (decide_eq_true_iff)).trans <| and_r <|
    r_icmp (j := 54) rfl (cd_ge _ _) rfl
theorem b_Ju_note_54 {d : Nat} (x2 x3 x4 x5 x6 x7 : Int32) (r0 r1 : Nat) (h : AH) (Q : Option Value → AH → Prop) : Wp d P_Ju_note 54 [.ref r0, .ref r1, .int x2, .int x3, .int x4, .int x5, .int x6, .int x7] [] h Q ↔ (hK h r0 = 1) ∧ ((hK h r0 = 1) ∧ ((hK h (hR h r0 0) ∈ [20, 44] ∧ ixo x7 (hN h (hR h r0 0)) = true) ∧ (Cl d 306 [.int (hI h (hR h r0 0) (Int32.toNatClampNeg x7)), .int x4] h (fun r h' => Wp d P_Ju_note 63 [.ref r0, .ref r1, .int x2, .int x3, .int x4, .int x5, .int x6, .int x7] (r.toList ++ [.int x7, .ref (hR h r0 0)]) h' Q)))) :=
    (r_go (j := 55) (L' := [.ref r0, .ref r1, .int x2, .int x3, .int x4, .int x5, .int x6, .int x7]) (S' := [.ref r0]) (h' := h) rfl rfl rfl rfl).trans <|
    (r_guard (j := 56) (L' := [.ref r0, .ref r1, .int x2, .int x3, .int x4, .int x5, .int x6, .int x7]) (S' := [.ref (hR h r0 0)]) (h' := h) (p := hK h r0 = 1) rfl rfl rfl rfl (decide_eq_true_iff)).trans <| and_r <|
    (r_go (j := 57) (L' := [.ref r0, .ref r1, .int x2, .int x3, .int x4, .int x5, .int x6, .int x7]) (S' := [.int x7, .ref (hR h r0 0)]) (h' := h) rfl rfl rfl rfl).trans <|
    (r_go (j := 58) (L' := [.ref r0, .ref r1, .int x2, .int x3, .int x4, .int x5, .int x6, .int x7]) (S' := [.ref r0, .int x7, .ref (hR h r0 0)]) (h' := h) rfl rfl rfl rfl).trans <|
    (r_guard (j := 59) (L' := [.ref r0, .ref r1, .int x2, .int x3, .int x4, .int x5, .int x6, .int x7]) (S' := [.ref (hR h r0 0), .int x7, .ref (hR h r0 0)]) (h' := h) (p := hK h r0 = 1) rfl rfl rfl rfl (decide_eq_true_iff)).trans <| and_r <|
    (r_go (j := 60) (L' := [.ref r0, .ref r1, .int x2, .int x3, .int x4, .int x5, .int x6, .int x7]) (S' := [.int x7, .ref (hR h r0 0), .int x7, .ref (hR h r0 0)]) (h' := h) rfl rfl rfl rfl).trans <|
    (r_guard (j := 61) (L' := [.ref r0, .ref r1, .int x2, .int x3, .int x4, .int x5, .int x6, .int x7]) (S' := [.int (hI h (hR h r0 0) (Int32.toNatClampNeg x7)), .int x7, .ref (hR h r0 0)]) (h' := h) (p := hK h (hR h r0 0) ∈ [20, 44] ∧ ixo x7 (hN h (hR h r0 0)) = true) rfl rfl rfl rfl (and2 decide_eq_true_iff Iff.rfl)).trans <| and_r <|
    (r_go (j := 62) (L' := [.ref r0, .ref r1, .int x2, .int x3, .int x4, .int x5, .int x6, .int x7]) (S' := [.int x4, .int (hI h (hR h r0 0) (Int32.toNatClampNeg x7)), .int x7, .ref (hR h r0 0)]) (h' := h) rfl rfl rfl rfl).trans <|
    r_call (j := 63) (a := [.int (hI h (hR h r0 0) (Int32.toNatClampNeg x7)), .int x4]) (S' := [.int x7, .ref (hR h r0 0)]) rfl rfl rfl rfl rfl rfl rfl
theorem b_Ju_note_63 {d : Nat} (x2 x3 x4 x5 x6 x7 s0 s1 : Int32) (r0 r1 t2 : Nat) (h : AH) (Q : Option Value → AH → Prop) : Wp d P_Ju_note 63 [.ref r0, .ref r1, .int x2, .int x3, .int x4, .int x5, .int x6, .int x7] [.int s0, .int s1, .ref t2] h Q ↔ (hK h t2 = 20 ∧ ixo s1 (hN h t2) = true) ∧ (Wp d P_Ju_note 64 [.ref r0, .ref r1, .int x2, .int x3, .int x4, .int x5, .int x6, .int x7] [] (sI h t2 (Int32.toNatClampNeg s1) s0) Q) :=
    r_guard (j := 64) (L' := [.ref r0, .ref r1, .int x2, .int x3, .int x4, .int x5, .int x6, .int x7]) (S' := []) (h' := (sI h t2 (Int32.toNatClampNeg s1) s0)) (p := hK h t2 = 20 ∧ ixo s1 (hN h t2) = true) rfl rfl rfl rfl (and2 decide_eq_true_iff Iff.rfl)
theorem b_Ju_note_64 {d : Nat} (x2 x3 x4 x5 x6 x7 : Int32) (r0 r1 : Nat) (h : AH) (Q : Option Value → AH → Prop) : Wp d P_Ju_note 64 [.ref r0, .ref r1, .int x2, .int x3, .int x4, .int x5, .int x6, .int x7] [] h Q ↔ Q (none) h :=
    r_ret rfl rfl rfl
theorem e_Ju_note {d : Nat} (x2 x3 : Int32) (r0 r1 : Nat) (h : AH) (Q : Option Value → AH → Prop) : Cl (d + 1) q_Ju_note [.ref r0, .ref r1, .int x2, .int x3] h Q ↔ hK h r0 = 1 ∧ Wp d P_Ju_note 0 [.ref r0, .ref r1, .int x2, .int x3, .null, .null, .null, .null] [] h (fun r h' => rtk (none) r = true ∧ Q r h') :=
    (Cl_method (t := m_Ju_note) rfl).trans (and_congr_left fun _ => decide_eq_true_iff)
/-! PenThatJumps$Judge.finds(LPenThatJumps$Program;I)Z -/
theorem b_Ju_finds_0 {d : Nat} (x2 : Int32) (r0 r1 : Nat) (h : AH) (Q : Option Value → AH → Prop) : Wp d P_Ju_finds 0 [.ref r0, .ref r1, .int x2, .null] [] h Q ↔ (hK h r0 = 1) ∧ ((hK h (hR h r0 0) = 20 ∧ ixo 18 (hN h (hR h r0 0)) = true) ∧ (Wp d P_Ju_finds 7 [.ref r0, .ref r1, .int x2, .int 0] [] (sI h (hR h r0 0) (Int32.toNatClampNeg 18) x2) Q)) :=
    (r_go (j := 1) (L' := [.ref r0, .ref r1, .int x2, .null]) (S' := [.ref r0]) (h' := h) rfl rfl rfl rfl).trans <|
    (r_guard (j := 2) (L' := [.ref r0, .ref r1, .int x2, .null]) (S' := [.ref (hR h r0 0)]) (h' := h) (p := hK h r0 = 1) rfl rfl rfl rfl (decide_eq_true_iff)).trans <| and_r <|
    (r_bipush (j := 3) (x := 18) rfl i32_18 rfl).trans <|
    (r_go (j := 4) (L' := [.ref r0, .ref r1, .int x2, .null]) (S' := [.int x2, .int 18, .ref (hR h r0 0)]) (h' := h) rfl rfl rfl rfl).trans <|
    (r_guard (j := 5) (L' := [.ref r0, .ref r1, .int x2, .null]) (S' := []) (h' := (sI h (hR h r0 0) (Int32.toNatClampNeg 18) x2)) (p := hK h (hR h r0 0) = 20 ∧ ixo 18 (hN h (hR h r0 0)) = true) rfl rfl rfl rfl (and2 decide_eq_true_iff Iff.rfl)).trans <| and_r <|
    (r_iconst (j := 6) (x := 0) rfl i32_0 rfl).trans <|
    r_go (j := 7) (L' := [.ref r0, .ref r1, .int x2, .int 0]) (S' := []) (h' := (sI h (hR h r0 0) (Int32.toNatClampNeg 18) x2)) rfl rfl rfl rfl
theorem b_Ju_finds_7 {d : Nat} (x2 x3 : Int32) (r0 r1 : Nat) (h : AH) (Q : Option Value → AH → Prop) : Wp d P_Ju_finds 7 [.ref r0, .ref r1, .int x2, .int x3] [] h Q ↔ (hK h r1 = 6) ∧ (((hI h r1 2) ≤ x3 → Wp d P_Ju_finds 21 [.ref r0, .ref r1, .int x2, .int x3] [] h Q) ∧ (¬ ((hI h r1 2) ≤ x3) → Wp d P_Ju_finds 11 [.ref r0, .ref r1, .int x2, .int x3] [] h Q)) :=
    (r_go (j := 8) (L' := [.ref r0, .ref r1, .int x2, .int x3]) (S' := [.int x3]) (h' := h) rfl rfl rfl rfl).trans <|
    (r_go (j := 9) (L' := [.ref r0, .ref r1, .int x2, .int x3]) (S' := [.ref r1, .int x3]) (h' := h) rfl rfl rfl rfl).trans <|
    (r_guard (j := 10) (L' := [.ref r0, .ref r1, .int x2, .int x3]) (S' := [.int (hI h r1 2), .int x3]) (h' := h) (p := hK h r1 = 6) rfl rfl rfl rfl (decide_eq_true_iff)).trans <| and_r <|
    r_icmp (j := 11) rfl (cd_ge _ _) rfl
theorem b_Ju_finds_11 {d : Nat} (x2 x3 : Int32) (r0 r1 : Nat) (h : AH) (Q : Option Value → AH → Prop) : Wp d P_Ju_finds 11 [.ref r0, .ref r1, .int x2, .int x3] [] h Q ↔ (hK h r0 = 1) ∧ (Cl d q_Pg_run [.ref r1, .int x3, .ref (hR h r0 0)] h (fun r h' => Wp d P_Ju_finds 16 [.ref r0, .ref r1, .int x2, .int x3] (r.toList ++ []) h' Q)) :=
    (r_go (j := 12) (L' := [.ref r0, .ref r1, .int x2, .int x3]) (S' := [.ref r1]) (h' := h) rfl rfl rfl rfl).trans <|
    (r_go (j := 13) (L' := [.ref r0, .ref r1, .int x2, .int x3]) (S' := [.int x3, .ref r1]) (h' := h) rfl rfl rfl rfl).trans <|
    (r_go (j := 14) (L' := [.ref r0, .ref r1, .int x2, .int x3]) (S' := [.ref r0, .int x3, .ref r1]) (h' := h) rfl rfl rfl rfl).trans <|
    (r_guard (j := 15) (L' := [.ref r0, .ref r1, .int x2, .int x3]) (S' := [.ref (hR h r0 0), .int x3, .ref r1]) (h' := h) (p := hK h r0 = 1) rfl rfl rfl rfl (decide_eq_true_iff)).trans <| and_r <|
    r_call (j := 16) (a := [.ref r1, .int x3, .ref (hR h r0 0)]) (S' := []) rfl rfl rfl rfl rfl rfl rfl
theorem b_Ju_finds_16 {d : Nat} (x2 x3 s0 : Int32) (r0 r1 : Nat) (h : AH) (Q : Option Value → AH → Prop) : Wp d P_Ju_finds 16 [.ref r0, .ref r1, .int x2, .int x3] [.int s0] h Q ↔ (s0 = 0 → Wp d P_Ju_finds 19 [.ref r0, .ref r1, .int x2, .int x3] [] h Q) ∧ (¬ (s0 = 0) → Wp d P_Ju_finds 17 [.ref r0, .ref r1, .int x2, .int x3] [] h Q) :=
    r_if (j := 17) rfl (cd_eq _ _) rfl
theorem b_Ju_finds_17 {d : Nat} (x2 x3 : Int32) (r0 r1 : Nat) (h : AH) (Q : Option Value → AH → Prop) : Wp d P_Ju_finds 17 [.ref r0, .ref r1, .int x2, .int x3] [] h Q ↔ Q (some (.int 1)) h :=
    (r_iconst (j := 18) (x := 1) rfl i32_1 rfl).trans <|
    r_ret rfl rfl rfl
theorem b_Ju_finds_19 {d : Nat} (x2 x3 : Int32) (r0 r1 : Nat) (h : AH) (Q : Option Value → AH → Prop) : Wp d P_Ju_finds 19 [.ref r0, .ref r1, .int x2, .int x3] [] h Q ↔ Wp d P_Ju_finds 7 [.ref r0, .ref r1, .int x2, .int (x3 + 1)] [] h Q :=
    (r_iinc (j := 20) (x := 1) (L' := [.ref r0, .ref r1, .int x2, .int (x3 + 1)]) rfl rfl i32_1 rfl rfl).trans <|
    r_go (j := 7) (L' := [.ref r0, .ref r1, .int x2, .int (x3 + 1)]) (S' := []) (h' := h) rfl rfl rfl rfl
theorem b_Ju_finds_21 {d : Nat} (x2 x3 : Int32) (r0 r1 : Nat) (h : AH) (Q : Option Value → AH → Prop) : Wp d P_Ju_finds 21 [.ref r0, .ref r1, .int x2, .int x3] [] h Q ↔ Q (some (.int 0)) h :=
    (r_iconst (j := 22) (x := 0) rfl i32_0 rfl).trans <|
    r_ret rfl rfl rfl
theorem e_Ju_finds {d : Nat} (x2 : Int32) (r0 r1 : Nat) (h : AH) (Q : Option Value → AH → Prop) : Cl (d + 1) q_Ju_finds [.ref r0, .ref r1, .int x2] h Q ↔ hK h r0 = 1 ∧ Wp d P_Ju_finds 0 [.ref r0, .ref r1, .int x2, .null] [] h (fun r h' => rtk (some .boolean) r = true ∧ Q r h') :=
    (Cl_method (t := m_Ju_finds) rfl).trans (and_congr_left fun _ => decide_eq_true_iff)
/-! PenThatJumps$Parser.<init>()V -/
theorem b_Pa_init_0 {d : Nat} (r0 : Nat) (h : AH) (Q : Option Value → AH → Prop) : Wp d P_Pa_init 0 [.ref r0] [] h Q ↔ Cl d 301 [.ref r0] h (fun r h' => Wp d P_Pa_init 2 [.ref r0] (r.toList ++ []) h' Q) :=
    (r_go (j := 1) (L' := [.ref r0]) (S' := [.ref r0]) (h' := h) rfl rfl rfl rfl).trans <|
    r_call (j := 2) (a := [.ref r0]) (S' := []) rfl rfl rfl rfl rfl rfl rfl
theorem b_Pa_init_2 {d : Nat} (r0 : Nat) (h : AH) (Q : Option Value → AH → Prop) : Wp d P_Pa_init 2 [.ref r0] [] h Q ↔ Wp d P_Pa_init 4 [.ref r0] [.ref (hz h), .ref r0] (mkC h 9 0 5) Q :=
    (r_go (j := 3) (L' := [.ref r0]) (S' := [.ref r0]) (h' := h) rfl rfl rfl rfl).trans <|
    r_go (j := 4) (L' := [.ref r0]) (S' := [.ref (hz h), .ref r0]) (h' := (mkC h 9 0 5)) rfl rfl rfl rfl
theorem b_Pa_init_4 {d : Nat} (r0 t0 t1 : Nat) (h : AH) (Q : Option Value → AH → Prop) : Wp d P_Pa_init 4 [.ref r0] [.ref t0, .ref t1] h Q ↔ Cl d q_Tp_init [.ref t0] h (fun r h' => Wp d P_Pa_init 6 [.ref r0] (r.toList ++ [.ref t0, .ref t1]) h' Q) :=
    (r_go (j := 5) (L' := [.ref r0]) (S' := [.ref t0, .ref t0, .ref t1]) (h' := h) rfl rfl rfl rfl).trans <|
    r_call (j := 6) (a := [.ref t0]) (S' := [.ref t0, .ref t1]) rfl rfl rfl rfl rfl rfl rfl
theorem b_Pa_init_6 {d : Nat} (r0 t0 t1 : Nat) (h : AH) (Q : Option Value → AH → Prop) : Wp d P_Pa_init 6 [.ref r0] [.ref t0, .ref t1] h Q ↔ (hK h t1 = 2) ∧ (Wp d P_Pa_init 7 [.ref r0] [] (sR h t1 0 t0) Q) :=
    r_guard (j := 7) (L' := [.ref r0]) (S' := []) (h' := (sR h t1 0 t0)) (p := hK h t1 = 2) rfl rfl rfl rfl (pfR rfl)
theorem b_Pa_init_7 {d : Nat} (r0 : Nat) (h : AH) (Q : Option Value → AH → Prop) : Wp d P_Pa_init 7 [.ref r0] [] h Q ↔ Wp d P_Pa_init 9 [.ref r0] [.ref (hz h), .ref r0] (mkC h 4 0 4) Q :=
    (r_go (j := 8) (L' := [.ref r0]) (S' := [.ref r0]) (h' := h) rfl rfl rfl rfl).trans <|
    r_go (j := 9) (L' := [.ref r0]) (S' := [.ref (hz h), .ref r0]) (h' := (mkC h 4 0 4)) rfl rfl rfl rfl
theorem b_Pa_init_9 {d : Nat} (r0 t0 t1 : Nat) (h : AH) (Q : Option Value → AH → Prop) : Wp d P_Pa_init 9 [.ref r0] [.ref t0, .ref t1] h Q ↔ Cl d q_Pl_init [.ref t0] h (fun r h' => Wp d P_Pa_init 11 [.ref r0] (r.toList ++ [.ref t0, .ref t1]) h' Q) :=
    (r_go (j := 10) (L' := [.ref r0]) (S' := [.ref t0, .ref t0, .ref t1]) (h' := h) rfl rfl rfl rfl).trans <|
    r_call (j := 11) (a := [.ref t0]) (S' := [.ref t0, .ref t1]) rfl rfl rfl rfl rfl rfl rfl
theorem b_Pa_init_11 {d : Nat} (r0 t0 t1 : Nat) (h : AH) (Q : Option Value → AH → Prop) : Wp d P_Pa_init 11 [.ref r0] [.ref t0, .ref t1] h Q ↔ (hK h t1 = 2) ∧ (Wp d P_Pa_init 12 [.ref r0] [] (sR h t1 1 t0) Q) :=
    r_guard (j := 12) (L' := [.ref r0]) (S' := []) (h' := (sR h t1 1 t0)) (p := hK h t1 = 2) rfl rfl rfl rfl (pfR rfl)
theorem b_Pa_init_12 {d : Nat} (r0 : Nat) (h : AH) (Q : Option Value → AH → Prop) : Wp d P_Pa_init 12 [.ref r0] [] h Q ↔ Wp d P_Pa_init 14 [.ref r0] [.ref (hz h), .ref r0] (mkC h 6 0 6) Q :=
    (r_go (j := 13) (L' := [.ref r0]) (S' := [.ref r0]) (h' := h) rfl rfl rfl rfl).trans <|
    r_go (j := 14) (L' := [.ref r0]) (S' := [.ref (hz h), .ref r0]) (h' := (mkC h 6 0 6)) rfl rfl rfl rfl
theorem b_Pa_init_14 {d : Nat} (r0 t0 t1 : Nat) (h : AH) (Q : Option Value → AH → Prop) : Wp d P_Pa_init 14 [.ref r0] [.ref t0, .ref t1] h Q ↔ Cl d q_Pg_init [.ref t0, .int 1000] h (fun r h' => Wp d P_Pa_init 17 [.ref r0] (r.toList ++ [.ref t0, .ref t1]) h' Q) :=
    (r_go (j := 15) (L' := [.ref r0]) (S' := [.ref t0, .ref t0, .ref t1]) (h' := h) rfl rfl rfl rfl).trans <|
    (r_sipush (j := 16) (x := 1000) rfl i32_1000 rfl).trans <|
    r_call (j := 17) (a := [.ref t0, .int 1000]) (S' := [.ref t0, .ref t1]) rfl rfl rfl rfl rfl rfl rfl
theorem b_Pa_init_17 {d : Nat} (r0 t0 t1 : Nat) (h : AH) (Q : Option Value → AH → Prop) : Wp d P_Pa_init 17 [.ref r0] [.ref t0, .ref t1] h Q ↔ (hK h t1 = 2) ∧ (Wp d P_Pa_init 18 [.ref r0] [] (sR h t1 2 t0) Q) :=
    r_guard (j := 18) (L' := [.ref r0]) (S' := []) (h' := (sR h t1 2 t0)) (p := hK h t1 = 2) rfl rfl rfl rfl (pfR rfl)
theorem b_Pa_init_18 {d : Nat} (r0 : Nat) (h : AH) (Q : Option Value → AH → Prop) : Wp d P_Pa_init 18 [.ref r0] [] h Q ↔ (hK h r0 = 2) ∧ (Wp d P_Pa_init 21 [.ref r0] [] (sR h r0 8 25) Q) :=
    (r_go (j := 19) (L' := [.ref r0]) (S' := [.ref r0]) (h' := h) rfl rfl rfl rfl).trans <|
    (r_go (j := 20) (L' := [.ref r0]) (S' := [.ref 25, .ref r0]) (h' := h) rfl rfl rfl rfl).trans <|
    r_guard (j := 21) (L' := [.ref r0]) (S' := []) (h' := (sR h r0 8 25)) (p := hK h r0 = 2) rfl rfl rfl rfl (pfR rfl)
theorem b_Pa_init_21 {d : Nat} (r0 : Nat) (h : AH) (Q : Option Value → AH → Prop) : Wp d P_Pa_init 21 [.ref r0] [] h Q ↔ Q (none) h :=
    r_ret rfl rfl rfl
theorem e_Pa_init {d : Nat} (r0 : Nat) (h : AH) (Q : Option Value → AH → Prop) : Cl (d + 1) q_Pa_init [.ref r0] h Q ↔ hK h r0 = 2 ∧ Wp d P_Pa_init 0 [.ref r0] [] h (fun r h' => rtk (none) r = true ∧ Q r h') :=
    (Cl_method (t := m_Pa_init) rfl).trans (and_congr_left fun _ => decide_eq_true_iff)
/-! PenThatJumps$Parser.readPlan()I -/
theorem b_Pa_readPlan_0 {d : Nat} (r0 : Nat) (h : AH) (Q : Option Value → AH → Prop) : Wp d P_Pa_readPlan 0 [.ref r0, .null] [] h Q ↔ (hK h r0 = 2) ∧ (Cl d q_Tp_cut [.ref (hR h r0 0)] h (fun r h' => Wp d P_Pa_readPlan 3 [.ref r0, .null] (r.toList ++ []) h' Q)) :=
    (r_go (j := 1) (L' := [.ref r0, .null]) (S' := [.ref r0]) (h' := h) rfl rfl rfl rfl).trans <|
    (r_guard (j := 2) (L' := [.ref r0, .null]) (S' := [.ref (hR h r0 0)]) (h' := h) (p := hK h r0 = 2) rfl rfl rfl rfl (decide_eq_true_iff)).trans <| and_r <|
    r_call (j := 3) (a := [.ref (hR h r0 0)]) (S' := []) rfl rfl rfl rfl rfl rfl rfl
theorem b_Pa_readPlan_3 {d : Nat} (r0 : Nat) (h : AH) (Q : Option Value → AH → Prop) : Wp d P_Pa_readPlan 3 [.ref r0, .null] [] h Q ↔ Cl d q_Pa_begin [.ref r0, .int 0] h (fun r h' => Wp d P_Pa_readPlan 6 [.ref r0, .null] (r.toList ++ []) h' Q) :=
    (r_go (j := 4) (L' := [.ref r0, .null]) (S' := [.ref r0]) (h' := h) rfl rfl rfl rfl).trans <|
    (r_iconst (j := 5) (x := 0) rfl i32_0 rfl).trans <|
    r_call (j := 6) (a := [.ref r0, .int 0]) (S' := []) rfl rfl rfl rfl rfl rfl rfl
theorem b_Pa_readPlan_6 {d : Nat} (r0 : Nat) (h : AH) (Q : Option Value → AH → Prop) : Wp d P_Pa_readPlan 6 [.ref r0, .null] [] h Q ↔ Cl d q_Pa_takeQuestion [.ref r0] h (fun r h' => Wp d P_Pa_readPlan 8 [.ref r0, .null] (r.toList ++ []) h' Q) :=
    (r_go (j := 7) (L' := [.ref r0, .null]) (S' := [.ref r0]) (h' := h) rfl rfl rfl rfl).trans <|
    r_call (j := 8) (a := [.ref r0]) (S' := []) rfl rfl rfl rfl rfl rfl rfl
theorem b_Pa_readPlan_8 {d : Nat} (r0 : Nat) (h : AH) (Q : Option Value → AH → Prop) : Wp d P_Pa_readPlan 8 [.ref r0, .null] [] h Q ↔ Wp d P_Pa_readPlan 10 [.ref r0, .int 0] [] h Q :=
    (r_iconst (j := 9) (x := 0) rfl i32_0 rfl).trans <|
    r_go (j := 10) (L' := [.ref r0, .int 0]) (S' := []) (h' := h) rfl rfl rfl rfl
theorem b_Pa_readPlan_10 {d : Nat} (x1 : Int32) (r0 : Nat) (h : AH) (Q : Option Value → AH → Prop) : Wp d P_Pa_readPlan 10 [.ref r0, .int x1] [] h Q ↔ (12 ≤ x1 → Wp d P_Pa_readPlan 20 [.ref r0, .int x1] [] h Q) ∧ (¬ (12 ≤ x1) → Wp d P_Pa_readPlan 13 [.ref r0, .int x1] [] h Q) :=
    (r_go (j := 11) (L' := [.ref r0, .int x1]) (S' := [.int x1]) (h' := h) rfl rfl rfl rfl).trans <|
    (r_bipush (j := 12) (x := 12) rfl i32_12 rfl).trans <|
    r_icmp (j := 13) rfl (cd_ge _ _) rfl
theorem b_Pa_readPlan_13 {d : Nat} (x1 : Int32) (r0 : Nat) (h : AH) (Q : Option Value → AH → Prop) : Wp d P_Pa_readPlan 13 [.ref r0, .int x1] [] h Q ↔ Cl d q_Pa_goesOn [.ref r0] h (fun r h' => Wp d P_Pa_readPlan 15 [.ref r0, .int x1] (r.toList ++ []) h' Q) :=
    (r_go (j := 14) (L' := [.ref r0, .int x1]) (S' := [.ref r0]) (h' := h) rfl rfl rfl rfl).trans <|
    r_call (j := 15) (a := [.ref r0]) (S' := []) rfl rfl rfl rfl rfl rfl rfl
theorem b_Pa_readPlan_15 {d : Nat} (x1 s0 : Int32) (r0 : Nat) (h : AH) (Q : Option Value → AH → Prop) : Wp d P_Pa_readPlan 15 [.ref r0, .int x1] [.int s0] h Q ↔ (s0 = 0 → Wp d P_Pa_readPlan 20 [.ref r0, .int x1] [] h Q) ∧ (¬ (s0 = 0) → Wp d P_Pa_readPlan 16 [.ref r0, .int x1] [] h Q) :=
    r_if (j := 16) rfl (cd_eq _ _) rfl
theorem b_Pa_readPlan_16 {d : Nat} (x1 : Int32) (r0 : Nat) (h : AH) (Q : Option Value → AH → Prop) : Wp d P_Pa_readPlan 16 [.ref r0, .int x1] [] h Q ↔ Cl d q_Pa_takeQuestion [.ref r0] h (fun r h' => Wp d P_Pa_readPlan 18 [.ref r0, .int x1] (r.toList ++ []) h' Q) :=
    (r_go (j := 17) (L' := [.ref r0, .int x1]) (S' := [.ref r0]) (h' := h) rfl rfl rfl rfl).trans <|
    r_call (j := 18) (a := [.ref r0]) (S' := []) rfl rfl rfl rfl rfl rfl rfl
theorem b_Pa_readPlan_18 {d : Nat} (x1 : Int32) (r0 : Nat) (h : AH) (Q : Option Value → AH → Prop) : Wp d P_Pa_readPlan 18 [.ref r0, .int x1] [] h Q ↔ Wp d P_Pa_readPlan 10 [.ref r0, .int (x1 + 1)] [] h Q :=
    (r_iinc (j := 19) (x := 1) (L' := [.ref r0, .int (x1 + 1)]) rfl rfl i32_1 rfl rfl).trans <|
    r_go (j := 10) (L' := [.ref r0, .int (x1 + 1)]) (S' := []) (h' := h) rfl rfl rfl rfl
theorem b_Pa_readPlan_20 {d : Nat} (x1 : Int32) (r0 : Nat) (h : AH) (Q : Option Value → AH → Prop) : Wp d P_Pa_readPlan 20 [.ref r0, .int x1] [] h Q ↔ (hK h r0 = 2) ∧ (Q (some (.int (hI h r0 4))) h) :=
    (r_go (j := 21) (L' := [.ref r0, .int x1]) (S' := [.ref r0]) (h' := h) rfl rfl rfl rfl).trans <|
    (r_guard (j := 22) (L' := [.ref r0, .int x1]) (S' := [.int (hI h r0 4)]) (h' := h) (p := hK h r0 = 2) rfl rfl rfl rfl (decide_eq_true_iff)).trans <| and_r <|
    r_ret rfl rfl rfl
theorem e_Pa_readPlan {d : Nat} (r0 : Nat) (h : AH) (Q : Option Value → AH → Prop) : Cl (d + 1) q_Pa_readPlan [.ref r0] h Q ↔ hK h r0 = 2 ∧ Wp d P_Pa_readPlan 0 [.ref r0, .null] [] h (fun r h' => rtk (some .int) r = true ∧ Q r h') :=
    (Cl_method (t := m_Pa_readPlan) rfl).trans (and_congr_left fun _ => decide_eq_true_iff)
/-! PenThatJumps$Parser.readBody()I -/
theorem b_Pa_readBody_0 {d : Nat} (r0 : Nat) (h : AH) (Q : Option Value → AH → Prop) : Wp d P_Pa_readBody 0 [.ref r0, .null] [] h Q ↔ (hK h r0 = 2) ∧ (Cl d q_Tp_cut [.ref (hR h r0 0)] h (fun r h' => Wp d P_Pa_readBody 3 [.ref r0, .null] (r.toList ++ []) h' Q)) :=
    (r_go (j := 1) (L' := [.ref r0, .null]) (S' := [.ref r0]) (h' := h) rfl rfl rfl rfl).trans <|
    (r_guard (j := 2) (L' := [.ref r0, .null]) (S' := [.ref (hR h r0 0)]) (h' := h) (p := hK h r0 = 2) rfl rfl rfl rfl (decide_eq_true_iff)).trans <| and_r <|
    r_call (j := 3) (a := [.ref (hR h r0 0)]) (S' := []) rfl rfl rfl rfl rfl rfl rfl
theorem b_Pa_readBody_3 {d : Nat} (r0 : Nat) (h : AH) (Q : Option Value → AH → Prop) : Wp d P_Pa_readBody 3 [.ref r0, .null] [] h Q ↔ Cl d q_Pa_begin [.ref r0, .int 0] h (fun r h' => Wp d P_Pa_readBody 6 [.ref r0, .null] (r.toList ++ []) h' Q) :=
    (r_go (j := 4) (L' := [.ref r0, .null]) (S' := [.ref r0]) (h' := h) rfl rfl rfl rfl).trans <|
    (r_iconst (j := 5) (x := 0) rfl i32_0 rfl).trans <|
    r_call (j := 6) (a := [.ref r0, .int 0]) (S' := []) rfl rfl rfl rfl rfl rfl rfl
theorem b_Pa_readBody_6 {d : Nat} (r0 : Nat) (h : AH) (Q : Option Value → AH → Prop) : Wp d P_Pa_readBody 6 [.ref r0, .null] [] h Q ↔ Wp d P_Pa_readBody 8 [.ref r0, .int 0] [] h Q :=
    (r_iconst (j := 7) (x := 0) rfl i32_0 rfl).trans <|
    r_go (j := 8) (L' := [.ref r0, .int 0]) (S' := []) (h' := h) rfl rfl rfl rfl
theorem b_Pa_readBody_8 {d : Nat} (x1 : Int32) (r0 : Nat) (h : AH) (Q : Option Value → AH → Prop) : Wp d P_Pa_readBody 8 [.ref r0, .int x1] [] h Q ↔ (1000 ≤ x1 → Wp d P_Pa_readBody 20 [.ref r0, .int x1] [] h Q) ∧ (¬ (1000 ≤ x1) → Wp d P_Pa_readBody 11 [.ref r0, .int x1] [] h Q) :=
    (r_go (j := 9) (L' := [.ref r0, .int x1]) (S' := [.int x1]) (h' := h) rfl rfl rfl rfl).trans <|
    (r_sipush (j := 10) (x := 1000) rfl i32_1000 rfl).trans <|
    r_icmp (j := 11) rfl (cd_ge _ _) rfl
theorem b_Pa_readBody_11 {d : Nat} (x1 : Int32) (r0 : Nat) (h : AH) (Q : Option Value → AH → Prop) : Wp d P_Pa_readBody 11 [.ref r0, .int x1] [] h Q ↔ Cl d q_Pa_goesOn [.ref r0] h (fun r h' => Wp d P_Pa_readBody 13 [.ref r0, .int x1] (r.toList ++ []) h' Q) :=
    (r_go (j := 12) (L' := [.ref r0, .int x1]) (S' := [.ref r0]) (h' := h) rfl rfl rfl rfl).trans <|
    r_call (j := 13) (a := [.ref r0]) (S' := []) rfl rfl rfl rfl rfl rfl rfl
theorem b_Pa_readBody_13 {d : Nat} (x1 s0 : Int32) (r0 : Nat) (h : AH) (Q : Option Value → AH → Prop) : Wp d P_Pa_readBody 13 [.ref r0, .int x1] [.int s0] h Q ↔ (s0 = 0 → Wp d P_Pa_readBody 20 [.ref r0, .int x1] [] h Q) ∧ (¬ (s0 = 0) → Wp d P_Pa_readBody 14 [.ref r0, .int x1] [] h Q) :=
    r_if (j := 14) rfl (cd_eq _ _) rfl
theorem b_Pa_readBody_14 {d : Nat} (x1 : Int32) (r0 : Nat) (h : AH) (Q : Option Value → AH → Prop) : Wp d P_Pa_readBody 14 [.ref r0, .int x1] [] h Q ↔ Cl d q_Pa_takeBodyHead [.ref r0] h (fun r h' => Wp d P_Pa_readBody 17 [.ref r0, .int x1] (r.toList ++ [.ref r0]) h' Q) :=
    (r_go (j := 15) (L' := [.ref r0, .int x1]) (S' := [.ref r0]) (h' := h) rfl rfl rfl rfl).trans <|
    (r_go (j := 16) (L' := [.ref r0, .int x1]) (S' := [.ref r0, .ref r0]) (h' := h) rfl rfl rfl rfl).trans <|
    r_call (j := 17) (a := [.ref r0]) (S' := [.ref r0]) rfl rfl rfl rfl rfl rfl rfl
theorem b_Pa_readBody_17 {d : Nat} (x1 s0 : Int32) (r0 t1 : Nat) (h : AH) (Q : Option Value → AH → Prop) : Wp d P_Pa_readBody 17 [.ref r0, .int x1] [.int s0, .ref t1] h Q ↔ Cl d q_Pa_takeLaw [.ref t1, .int s0] h (fun r h' => Wp d P_Pa_readBody 18 [.ref r0, .int x1] (r.toList ++ []) h' Q) :=
    r_call (j := 18) (a := [.ref t1, .int s0]) (S' := []) rfl rfl rfl rfl rfl rfl rfl
theorem b_Pa_readBody_18 {d : Nat} (x1 : Int32) (r0 : Nat) (h : AH) (Q : Option Value → AH → Prop) : Wp d P_Pa_readBody 18 [.ref r0, .int x1] [] h Q ↔ Wp d P_Pa_readBody 8 [.ref r0, .int (x1 + 1)] [] h Q :=
    (r_iinc (j := 19) (x := 1) (L' := [.ref r0, .int (x1 + 1)]) rfl rfl i32_1 rfl rfl).trans <|
    r_go (j := 8) (L' := [.ref r0, .int (x1 + 1)]) (S' := []) (h' := h) rfl rfl rfl rfl
theorem b_Pa_readBody_20 {d : Nat} (x1 : Int32) (r0 : Nat) (h : AH) (Q : Option Value → AH → Prop) : Wp d P_Pa_readBody 20 [.ref r0, .int x1] [] h Q ↔ (hK h r0 = 2) ∧ (Q (some (.int (hI h r0 4))) h) :=
    (r_go (j := 21) (L' := [.ref r0, .int x1]) (S' := [.ref r0]) (h' := h) rfl rfl rfl rfl).trans <|
    (r_guard (j := 22) (L' := [.ref r0, .int x1]) (S' := [.int (hI h r0 4)]) (h' := h) (p := hK h r0 = 2) rfl rfl rfl rfl (decide_eq_true_iff)).trans <| and_r <|
    r_ret rfl rfl rfl
theorem e_Pa_readBody {d : Nat} (r0 : Nat) (h : AH) (Q : Option Value → AH → Prop) : Cl (d + 1) q_Pa_readBody [.ref r0] h Q ↔ hK h r0 = 2 ∧ Wp d P_Pa_readBody 0 [.ref r0, .null] [] h (fun r h' => rtk (some .int) r = true ∧ Q r h') :=
    (Cl_method (t := m_Pa_readBody) rfl).trans (and_congr_left fun _ => decide_eq_true_iff)
/-! PenThatJumps$Parser.readReader()I -/
theorem b_Pa_readReader_0 {d : Nat} (r0 : Nat) (h : AH) (Q : Option Value → AH → Prop) : Wp d P_Pa_readReader 0 [.ref r0, .null] [] h Q ↔ (hK h r0 = 2) ∧ (Cl d q_Tp_cut [.ref (hR h r0 0)] h (fun r h' => Wp d P_Pa_readReader 3 [.ref r0, .null] (r.toList ++ []) h' Q)) :=
    (r_go (j := 1) (L' := [.ref r0, .null]) (S' := [.ref r0]) (h' := h) rfl rfl rfl rfl).trans <|
    (r_guard (j := 2) (L' := [.ref r0, .null]) (S' := [.ref (hR h r0 0)]) (h' := h) (p := hK h r0 = 2) rfl rfl rfl rfl (decide_eq_true_iff)).trans <| and_r <|
    r_call (j := 3) (a := [.ref (hR h r0 0)]) (S' := []) rfl rfl rfl rfl rfl rfl rfl
theorem b_Pa_readReader_3 {d : Nat} (r0 : Nat) (h : AH) (Q : Option Value → AH → Prop) : Wp d P_Pa_readReader 3 [.ref r0, .null] [] h Q ↔ Cl d q_Pa_begin [.ref r0, .int 1] h (fun r h' => Wp d P_Pa_readReader 6 [.ref r0, .null] (r.toList ++ []) h' Q) :=
    (r_go (j := 4) (L' := [.ref r0, .null]) (S' := [.ref r0]) (h' := h) rfl rfl rfl rfl).trans <|
    (r_iconst (j := 5) (x := 1) rfl i32_1 rfl).trans <|
    r_call (j := 6) (a := [.ref r0, .int 1]) (S' := []) rfl rfl rfl rfl rfl rfl rfl
theorem b_Pa_readReader_6 {d : Nat} (r0 : Nat) (h : AH) (Q : Option Value → AH → Prop) : Wp d P_Pa_readReader 6 [.ref r0, .null] [] h Q ↔ Wp d P_Pa_readReader 8 [.ref r0, .int 0] [] h Q :=
    (r_iconst (j := 7) (x := 0) rfl i32_0 rfl).trans <|
    r_go (j := 8) (L' := [.ref r0, .int 0]) (S' := []) (h' := h) rfl rfl rfl rfl
theorem b_Pa_readReader_8 {d : Nat} (x1 : Int32) (r0 : Nat) (h : AH) (Q : Option Value → AH → Prop) : Wp d P_Pa_readReader 8 [.ref r0, .int x1] [] h Q ↔ (6 < x1 → Wp d P_Pa_readReader 20 [.ref r0, .int x1] [] h Q) ∧ (¬ (6 < x1) → Wp d P_Pa_readReader 11 [.ref r0, .int x1] [] h Q) :=
    (r_go (j := 9) (L' := [.ref r0, .int x1]) (S' := [.int x1]) (h' := h) rfl rfl rfl rfl).trans <|
    (r_bipush (j := 10) (x := 6) rfl i32_6 rfl).trans <|
    r_icmp (j := 11) rfl (cd_gt _ _) rfl
theorem b_Pa_readReader_11 {d : Nat} (x1 : Int32) (r0 : Nat) (h : AH) (Q : Option Value → AH → Prop) : Wp d P_Pa_readReader 11 [.ref r0, .int x1] [] h Q ↔ Cl d q_Pa_goesOn [.ref r0] h (fun r h' => Wp d P_Pa_readReader 13 [.ref r0, .int x1] (r.toList ++ []) h' Q) :=
    (r_go (j := 12) (L' := [.ref r0, .int x1]) (S' := [.ref r0]) (h' := h) rfl rfl rfl rfl).trans <|
    r_call (j := 13) (a := [.ref r0]) (S' := []) rfl rfl rfl rfl rfl rfl rfl
theorem b_Pa_readReader_13 {d : Nat} (x1 s0 : Int32) (r0 : Nat) (h : AH) (Q : Option Value → AH → Prop) : Wp d P_Pa_readReader 13 [.ref r0, .int x1] [.int s0] h Q ↔ (s0 = 0 → Wp d P_Pa_readReader 20 [.ref r0, .int x1] [] h Q) ∧ (¬ (s0 = 0) → Wp d P_Pa_readReader 14 [.ref r0, .int x1] [] h Q) :=
    r_if (j := 14) rfl (cd_eq _ _) rfl
theorem b_Pa_readReader_14 {d : Nat} (x1 : Int32) (r0 : Nat) (h : AH) (Q : Option Value → AH → Prop) : Wp d P_Pa_readReader 14 [.ref r0, .int x1] [] h Q ↔ Cl d q_Pa_takeReaderHead [.ref r0] h (fun r h' => Wp d P_Pa_readReader 17 [.ref r0, .int x1] (r.toList ++ [.ref r0]) h' Q) :=
    (r_go (j := 15) (L' := [.ref r0, .int x1]) (S' := [.ref r0]) (h' := h) rfl rfl rfl rfl).trans <|
    (r_go (j := 16) (L' := [.ref r0, .int x1]) (S' := [.ref r0, .ref r0]) (h' := h) rfl rfl rfl rfl).trans <|
    r_call (j := 17) (a := [.ref r0]) (S' := [.ref r0]) rfl rfl rfl rfl rfl rfl rfl
theorem b_Pa_readReader_17 {d : Nat} (x1 s0 : Int32) (r0 t1 : Nat) (h : AH) (Q : Option Value → AH → Prop) : Wp d P_Pa_readReader 17 [.ref r0, .int x1] [.int s0, .ref t1] h Q ↔ Cl d q_Pa_takeLaw [.ref t1, .int s0] h (fun r h' => Wp d P_Pa_readReader 18 [.ref r0, .int x1] (r.toList ++ []) h' Q) :=
    r_call (j := 18) (a := [.ref t1, .int s0]) (S' := []) rfl rfl rfl rfl rfl rfl rfl
theorem b_Pa_readReader_18 {d : Nat} (x1 : Int32) (r0 : Nat) (h : AH) (Q : Option Value → AH → Prop) : Wp d P_Pa_readReader 18 [.ref r0, .int x1] [] h Q ↔ Wp d P_Pa_readReader 8 [.ref r0, .int (x1 + 1)] [] h Q :=
    (r_iinc (j := 19) (x := 1) (L' := [.ref r0, .int (x1 + 1)]) rfl rfl i32_1 rfl rfl).trans <|
    r_go (j := 8) (L' := [.ref r0, .int (x1 + 1)]) (S' := []) (h' := h) rfl rfl rfl rfl
theorem b_Pa_readReader_20 {d : Nat} (x1 : Int32) (r0 : Nat) (h : AH) (Q : Option Value → AH → Prop) : Wp d P_Pa_readReader 20 [.ref r0, .int x1] [] h Q ↔ (hK h r0 = 2) ∧ (Q (some (.int (hI h r0 4))) h) :=
    (r_go (j := 21) (L' := [.ref r0, .int x1]) (S' := [.ref r0]) (h' := h) rfl rfl rfl rfl).trans <|
    (r_guard (j := 22) (L' := [.ref r0, .int x1]) (S' := [.int (hI h r0 4)]) (h' := h) (p := hK h r0 = 2) rfl rfl rfl rfl (decide_eq_true_iff)).trans <| and_r <|
    r_ret rfl rfl rfl
theorem e_Pa_readReader {d : Nat} (r0 : Nat) (h : AH) (Q : Option Value → AH → Prop) : Cl (d + 1) q_Pa_readReader [.ref r0] h Q ↔ hK h r0 = 2 ∧ Wp d P_Pa_readReader 0 [.ref r0, .null] [] h (fun r h' => rtk (some .int) r = true ∧ Q r h') :=
    (Cl_method (t := m_Pa_readReader) rfl).trans (and_congr_left fun _ => decide_eq_true_iff)
/-! PenThatJumps$Parser.begin(Z)V -/
theorem b_Pa_begin_0 {d : Nat} (x1 : Int32) (r0 : Nat) (h : AH) (Q : Option Value → AH → Prop) : Wp d P_Pa_begin 0 [.ref r0, .int x1] [] h Q ↔ (hK h r0 = 2) ∧ ((hK (sI h r0 4 0) r0 = 2 ∧ i01 x1 = true) ∧ ((hK (sI (sI h r0 4 0) r0 3 x1) r0 = 2) ∧ ((hK (sI (sI h r0 4 0) r0 3 x1) (hR (sI (sI h r0 4 0) r0 3 x1) r0 1) = 4) ∧ ((hK (sI (sI (sI h r0 4 0) r0 3 x1) (hR (sI (sI h r0 4 0) r0 3 x1) r0 1) 3 0) r0 = 2) ∧ (Cl d q_Pg_clear [.ref (hR (sI (sI (sI h r0 4 0) r0 3 x1) (hR (sI (sI h r0 4 0) r0 3 x1) r0 1) 3 0) r0 2)] (sI (sI (sI h r0 4 0) r0 3 x1) (hR (sI (sI h r0 4 0) r0 3 x1) r0 1) 3 0) (fun r h' => Wp d P_Pa_begin 13 [.ref r0, .int x1] (r.toList ++ []) h' Q)))))) :=
    (r_go (j := 1) (L' := [.ref r0, .int x1]) (S' := [.ref r0]) (h' := h) rfl rfl rfl rfl).trans <|
    (r_iconst (j := 2) (x := 0) rfl i32_0 rfl).trans <|
    (r_guard (j := 3) (L' := [.ref r0, .int x1]) (S' := []) (h' := (sI h r0 4 0)) (p := hK h r0 = 2) rfl rfl rfl rfl (pfI rfl)).trans <| and_r <|
    (r_go (j := 4) (L' := [.ref r0, .int x1]) (S' := [.ref r0]) (h' := (sI h r0 4 0)) rfl rfl rfl rfl).trans <|
    (r_go (j := 5) (L' := [.ref r0, .int x1]) (S' := [.int x1, .ref r0]) (h' := (sI h r0 4 0)) rfl rfl rfl rfl).trans <|
    (r_guard (j := 6) (L' := [.ref r0, .int x1]) (S' := []) (h' := (sI (sI h r0 4 0) r0 3 x1)) (p := hK (sI h r0 4 0) r0 = 2 ∧ i01 x1 = true) rfl rfl rfl rfl (pfZ rfl)).trans <| and_r <|
    (r_go (j := 7) (L' := [.ref r0, .int x1]) (S' := [.ref r0]) (h' := (sI (sI h r0 4 0) r0 3 x1)) rfl rfl rfl rfl).trans <|
    (r_guard (j := 8) (L' := [.ref r0, .int x1]) (S' := [.ref (hR (sI (sI h r0 4 0) r0 3 x1) r0 1)]) (h' := (sI (sI h r0 4 0) r0 3 x1)) (p := hK (sI (sI h r0 4 0) r0 3 x1) r0 = 2) rfl rfl rfl rfl (decide_eq_true_iff)).trans <| and_r <|
    (r_iconst (j := 9) (x := 0) rfl i32_0 rfl).trans <|
    (r_guard (j := 10) (L' := [.ref r0, .int x1]) (S' := []) (h' := (sI (sI (sI h r0 4 0) r0 3 x1) (hR (sI (sI h r0 4 0) r0 3 x1) r0 1) 3 0)) (p := hK (sI (sI h r0 4 0) r0 3 x1) (hR (sI (sI h r0 4 0) r0 3 x1) r0 1) = 4) rfl rfl rfl rfl (pfI rfl)).trans <| and_r <|
    (r_go (j := 11) (L' := [.ref r0, .int x1]) (S' := [.ref r0]) (h' := (sI (sI (sI h r0 4 0) r0 3 x1) (hR (sI (sI h r0 4 0) r0 3 x1) r0 1) 3 0)) rfl rfl rfl rfl).trans <|
    (r_guard (j := 12) (L' := [.ref r0, .int x1]) (S' := [.ref (hR (sI (sI (sI h r0 4 0) r0 3 x1) (hR (sI (sI h r0 4 0) r0 3 x1) r0 1) 3 0) r0 2)]) (h' := (sI (sI (sI h r0 4 0) r0 3 x1) (hR (sI (sI h r0 4 0) r0 3 x1) r0 1) 3 0)) (p := hK (sI (sI (sI h r0 4 0) r0 3 x1) (hR (sI (sI h r0 4 0) r0 3 x1) r0 1) 3 0) r0 = 2) rfl rfl rfl rfl (decide_eq_true_iff)).trans <| and_r <|
    r_call (j := 13) (a := [.ref (hR (sI (sI (sI h r0 4 0) r0 3 x1) (hR (sI (sI h r0 4 0) r0 3 x1) r0 1) 3 0) r0 2)]) (S' := []) rfl rfl rfl rfl rfl rfl rfl
theorem b_Pa_begin_13 {d : Nat} (x1 : Int32) (r0 : Nat) (h : AH) (Q : Option Value → AH → Prop) : Wp d P_Pa_begin 13 [.ref r0, .int x1] [] h Q ↔ (hK h r0 = 2) ∧ (Cl d q_Pa_next [.ref r0] (sI h r0 5 (-1)) (fun r h' => Wp d P_Pa_begin 18 [.ref r0, .int x1] (r.toList ++ []) h' Q)) :=
    (r_go (j := 14) (L' := [.ref r0, .int x1]) (S' := [.ref r0]) (h' := h) rfl rfl rfl rfl).trans <|
    (r_iconst (j := 15) (x := (-1)) rfl i32_m1 rfl).trans <|
    (r_guard (j := 16) (L' := [.ref r0, .int x1]) (S' := []) (h' := (sI h r0 5 (-1))) (p := hK h r0 = 2) rfl rfl rfl rfl (pfI rfl)).trans <| and_r <|
    (r_go (j := 17) (L' := [.ref r0, .int x1]) (S' := [.ref r0]) (h' := (sI h r0 5 (-1))) rfl rfl rfl rfl).trans <|
    r_call (j := 18) (a := [.ref r0]) (S' := []) rfl rfl rfl rfl rfl rfl rfl
theorem b_Pa_begin_18 {d : Nat} (x1 : Int32) (r0 : Nat) (h : AH) (Q : Option Value → AH → Prop) : Wp d P_Pa_begin 18 [.ref r0, .int x1] [] h Q ↔ Q (none) h :=
    r_ret rfl rfl rfl
theorem e_Pa_begin {d : Nat} (x1 : Int32) (r0 : Nat) (h : AH) (Q : Option Value → AH → Prop) : Cl (d + 1) q_Pa_begin [.ref r0, .int x1] h Q ↔ hK h r0 = 2 ∧ Wp d P_Pa_begin 0 [.ref r0, .int x1] [] h (fun r h' => rtk (none) r = true ∧ Q r h') :=
    (Cl_method (t := m_Pa_begin) rfl).trans (and_congr_left fun _ => decide_eq_true_iff)
/-! PenThatJumps$Parser.goesOn()Z -/
theorem b_Pa_goesOn_0 {d : Nat} (r0 : Nat) (h : AH) (Q : Option Value → AH → Prop) : Wp d P_Pa_goesOn 0 [.ref r0] [] h Q ↔ (hK h r0 = 2) ∧ ((¬ (hI h r0 4) = 0 → Wp d P_Pa_goesOn 9 [.ref r0] [] h Q) ∧ (¬ (¬ (hI h r0 4) = 0) → Wp d P_Pa_goesOn 3 [.ref r0] [] h Q)) :=
    (r_go (j := 1) (L' := [.ref r0]) (S' := [.ref r0]) (h' := h) rfl rfl rfl rfl).trans <|
    (r_guard (j := 2) (L' := [.ref r0]) (S' := [.int (hI h r0 4)]) (h' := h) (p := hK h r0 = 2) rfl rfl rfl rfl (decide_eq_true_iff)).trans <| and_r <|
    r_if (j := 3) rfl (cd_ne _ _) rfl
theorem b_Pa_goesOn_3 {d : Nat} (r0 : Nat) (h : AH) (Q : Option Value → AH → Prop) : Wp d P_Pa_goesOn 3 [.ref r0] [] h Q ↔ (hK h r0 = 2) ∧ (((hI h r0 6) = 12000 → Wp d P_Pa_goesOn 9 [.ref r0] [] h Q) ∧ (¬ ((hI h r0 6) = 12000) → Wp d P_Pa_goesOn 7 [.ref r0] [] h Q)) :=
    (r_go (j := 4) (L' := [.ref r0]) (S' := [.ref r0]) (h' := h) rfl rfl rfl rfl).trans <|
    (r_guard (j := 5) (L' := [.ref r0]) (S' := [.int (hI h r0 6)]) (h' := h) (p := hK h r0 = 2) rfl rfl rfl rfl (decide_eq_true_iff)).trans <| and_r <|
    (r_sipush (j := 6) (x := 12000) rfl i32_12000 rfl).trans <|
    r_icmp (j := 7) rfl (cd_eq _ _) rfl
theorem b_Pa_goesOn_7 {d : Nat} (r0 : Nat) (h : AH) (Q : Option Value → AH → Prop) : Wp d P_Pa_goesOn 7 [.ref r0] [] h Q ↔ Wp d P_Pa_goesOn 10 [.ref r0] [.int 1] h Q :=
    (r_iconst (j := 8) (x := 1) rfl i32_1 rfl).trans <|
    r_go (j := 10) (L' := [.ref r0]) (S' := [.int 1]) (h' := h) rfl rfl rfl rfl
theorem b_Pa_goesOn_9 {d : Nat} (r0 : Nat) (h : AH) (Q : Option Value → AH → Prop) : Wp d P_Pa_goesOn 9 [.ref r0] [] h Q ↔ Wp d P_Pa_goesOn 10 [.ref r0] [.int 0] h Q :=
    r_iconst (j := 10) (x := 0) rfl i32_0 rfl
theorem b_Pa_goesOn_10 {d : Nat} (s0 : Int32) (r0 : Nat) (h : AH) (Q : Option Value → AH → Prop) : Wp d P_Pa_goesOn 10 [.ref r0] [.int s0] h Q ↔ Q (some (.int s0)) h :=
    r_ret rfl rfl rfl
theorem e_Pa_goesOn {d : Nat} (r0 : Nat) (h : AH) (Q : Option Value → AH → Prop) : Cl (d + 1) q_Pa_goesOn [.ref r0] h Q ↔ hK h r0 = 2 ∧ Wp d P_Pa_goesOn 0 [.ref r0] [] h (fun r h' => rtk (some .boolean) r = true ∧ Q r h') :=
    (Cl_method (t := m_Pa_goesOn) rfl).trans (and_congr_left fun _ => decide_eq_true_iff)
/-! PenThatJumps$Parser.next()V -/
theorem b_Pa_next_0 {d : Nat} (r0 : Nat) (h : AH) (Q : Option Value → AH → Prop) : Wp d P_Pa_next 0 [.ref r0, .null] [] h Q ↔ (hK h r0 = 2) ∧ ((hK h r0 = 2) ∧ ((hK (sI h r0 5 ((hI h r0 5) + 1)) r0 = 2) ∧ (((hI (sI h r0 5 ((hI h r0 5) + 1)) r0 5) < 0 → Wp d P_Pa_next 45 [.ref r0, .null] [] (sI h r0 5 ((hI h r0 5) + 1)) Q) ∧ (¬ ((hI (sI h r0 5 ((hI h r0 5) + 1)) r0 5) < 0) → Wp d P_Pa_next 9 [.ref r0, .null] [] (sI h r0 5 ((hI h r0 5) + 1)) Q)))) :=
    (r_go (j := 1) (L' := [.ref r0, .null]) (S' := [.ref r0]) (h' := h) rfl rfl rfl rfl).trans <|
    (r_go (j := 2) (L' := [.ref r0, .null]) (S' := [.ref r0, .ref r0]) (h' := h) rfl rfl rfl rfl).trans <|
    (r_guard (j := 3) (L' := [.ref r0, .null]) (S' := [.int (hI h r0 5), .ref r0]) (h' := h) (p := hK h r0 = 2) rfl rfl rfl rfl (decide_eq_true_iff)).trans <| and_r <|
    (r_iconst (j := 4) (x := 1) rfl i32_1 rfl).trans <|
    (r_go (j := 5) (L' := [.ref r0, .null]) (S' := [.int ((hI h r0 5) + 1), .ref r0]) (h' := h) rfl rfl rfl rfl).trans <|
    (r_guard (j := 6) (L' := [.ref r0, .null]) (S' := []) (h' := (sI h r0 5 ((hI h r0 5) + 1))) (p := hK h r0 = 2) rfl rfl rfl rfl (pfI rfl)).trans <| and_r <|
    (r_go (j := 7) (L' := [.ref r0, .null]) (S' := [.ref r0]) (h' := (sI h r0 5 ((hI h r0 5) + 1))) rfl rfl rfl rfl).trans <|
    (r_guard (j := 8) (L' := [.ref r0, .null]) (S' := [.int (hI (sI h r0 5 ((hI h r0 5) + 1)) r0 5)]) (h' := (sI h r0 5 ((hI h r0 5) + 1))) (p := hK (sI h r0 5 ((hI h r0 5) + 1)) r0 = 2) rfl rfl rfl rfl (decide_eq_true_iff)).trans <| and_r <|
    r_if (j := 9) rfl (cd_lt _ _) rfl
theorem b_Pa_next_9 {d : Nat} (r0 : Nat) (h : AH) (Q : Option Value → AH → Prop) : Wp d P_Pa_next 9 [.ref r0, .null] [] h Q ↔ (hK h r0 = 2) ∧ ((hK h r0 = 2) ∧ ((hK h (hR h r0 0) = 9) ∧ (((hI h (hR h r0 0) 4) ≤ (hI h r0 5) → Wp d P_Pa_next 45 [.ref r0, .null] [] h Q) ∧ (¬ ((hI h (hR h r0 0) 4) ≤ (hI h r0 5)) → Wp d P_Pa_next 15 [.ref r0, .null] [] h Q)))) :=
    (r_go (j := 10) (L' := [.ref r0, .null]) (S' := [.ref r0]) (h' := h) rfl rfl rfl rfl).trans <|
    (r_guard (j := 11) (L' := [.ref r0, .null]) (S' := [.int (hI h r0 5)]) (h' := h) (p := hK h r0 = 2) rfl rfl rfl rfl (decide_eq_true_iff)).trans <| and_r <|
    (r_go (j := 12) (L' := [.ref r0, .null]) (S' := [.ref r0, .int (hI h r0 5)]) (h' := h) rfl rfl rfl rfl).trans <|
    (r_guard (j := 13) (L' := [.ref r0, .null]) (S' := [.ref (hR h r0 0), .int (hI h r0 5)]) (h' := h) (p := hK h r0 = 2) rfl rfl rfl rfl (decide_eq_true_iff)).trans <| and_r <|
    (r_guard (j := 14) (L' := [.ref r0, .null]) (S' := [.int (hI h (hR h r0 0) 4), .int (hI h r0 5)]) (h' := h) (p := hK h (hR h r0 0) = 9) rfl rfl rfl rfl (decide_eq_true_iff)).trans <| and_r <|
    r_icmp (j := 15) rfl (cd_ge _ _) rfl
theorem b_Pa_next_15 {d : Nat} (r0 : Nat) (h : AH) (Q : Option Value → AH → Prop) : Wp d P_Pa_next 15 [.ref r0, .null] [] h Q ↔ (hK h r0 = 2) ∧ ((hK h r0 = 2) ∧ ((hK h (hR h r0 0) = 9) ∧ ((20 ≤ hK h (hR h (hR h r0 0) 2) ∧ hK h (hR h (hR h r0 0) 2) ≠ 40 ∧ hK h (hR h (hR h r0 0) 2) ≠ 42 ∧ hK h (hR h (hR h r0 0) 2) ≤ 45 ∧ hK h (hR h (hR h r0 0) 2) ≠ 43) ∧ (((Int32.ofNat (hN h (hR h (hR h r0 0) 2))) ≤ (hI h r0 5) → Wp d P_Pa_next 45 [.ref r0, .null] [] h Q) ∧ (¬ ((Int32.ofNat (hN h (hR h (hR h r0 0) 2))) ≤ (hI h r0 5)) → Wp d P_Pa_next 22 [.ref r0, .null] [] h Q))))) :=
    (r_go (j := 16) (L' := [.ref r0, .null]) (S' := [.ref r0]) (h' := h) rfl rfl rfl rfl).trans <|
    (r_guard (j := 17) (L' := [.ref r0, .null]) (S' := [.int (hI h r0 5)]) (h' := h) (p := hK h r0 = 2) rfl rfl rfl rfl (decide_eq_true_iff)).trans <| and_r <|
    (r_go (j := 18) (L' := [.ref r0, .null]) (S' := [.ref r0, .int (hI h r0 5)]) (h' := h) rfl rfl rfl rfl).trans <|
    (r_guard (j := 19) (L' := [.ref r0, .null]) (S' := [.ref (hR h r0 0), .int (hI h r0 5)]) (h' := h) (p := hK h r0 = 2) rfl rfl rfl rfl (decide_eq_true_iff)).trans <| and_r <|
    (r_guard (j := 20) (L' := [.ref r0, .null]) (S' := [.ref (hR h (hR h r0 0) 2), .int (hI h r0 5)]) (h' := h) (p := hK h (hR h r0 0) = 9) rfl rfl rfl rfl (decide_eq_true_iff)).trans <| and_r <|
    (r_guard (j := 21) (L' := [.ref r0, .null]) (S' := [.int (Int32.ofNat (hN h (hR h (hR h r0 0) 2))), .int (hI h r0 5)]) (h' := h) (p := 20 ≤ hK h (hR h (hR h r0 0) 2) ∧ hK h (hR h (hR h r0 0) 2) ≠ 40 ∧ hK h (hR h (hR h r0 0) 2) ≠ 42 ∧ hK h (hR h (hR h r0 0) 2) ≤ 45 ∧ hK h (hR h (hR h r0 0) 2) ≠ 43) rfl rfl rfl rfl (decide_eq_true_iff)).trans <| and_r <|
    r_icmp (j := 22) rfl (cd_ge _ _) rfl
theorem b_Pa_next_22 {d : Nat} (r0 : Nat) (h : AH) (Q : Option Value → AH → Prop) : Wp d P_Pa_next 22 [.ref r0, .null] [] h Q ↔ (hK h r0 = 2) ∧ ((hK h r0 = 2) ∧ ((hK h (hR h r0 0) = 9) ∧ ((20 ≤ hK h (hR h (hR h r0 0) 3) ∧ hK h (hR h (hR h r0 0) 3) ≠ 40 ∧ hK h (hR h (hR h r0 0) 3) ≠ 42 ∧ hK h (hR h (hR h r0 0) 3) ≤ 45 ∧ hK h (hR h (hR h r0 0) 3) ≠ 43) ∧ (((Int32.ofNat (hN h (hR h (hR h r0 0) 3))) ≤ (hI h r0 5) → Wp d P_Pa_next 45 [.ref r0, .null] [] h Q) ∧ (¬ ((Int32.ofNat (hN h (hR h (hR h r0 0) 3))) ≤ (hI h r0 5)) → Wp d P_Pa_next 29 [.ref r0, .null] [] h Q))))) :=
    (r_go (j := 23) (L' := [.ref r0, .null]) (S' := [.ref r0]) (h' := h) rfl rfl rfl rfl).trans <|
    (r_guard (j := 24) (L' := [.ref r0, .null]) (S' := [.int (hI h r0 5)]) (h' := h) (p := hK h r0 = 2) rfl rfl rfl rfl (decide_eq_true_iff)).trans <| and_r <|
    (r_go (j := 25) (L' := [.ref r0, .null]) (S' := [.ref r0, .int (hI h r0 5)]) (h' := h) rfl rfl rfl rfl).trans <|
    (r_guard (j := 26) (L' := [.ref r0, .null]) (S' := [.ref (hR h r0 0), .int (hI h r0 5)]) (h' := h) (p := hK h r0 = 2) rfl rfl rfl rfl (decide_eq_true_iff)).trans <| and_r <|
    (r_guard (j := 27) (L' := [.ref r0, .null]) (S' := [.ref (hR h (hR h r0 0) 3), .int (hI h r0 5)]) (h' := h) (p := hK h (hR h r0 0) = 9) rfl rfl rfl rfl (decide_eq_true_iff)).trans <| and_r <|
    (r_guard (j := 28) (L' := [.ref r0, .null]) (S' := [.int (Int32.ofNat (hN h (hR h (hR h r0 0) 3))), .int (hI h r0 5)]) (h' := h) (p := 20 ≤ hK h (hR h (hR h r0 0) 3) ∧ hK h (hR h (hR h r0 0) 3) ≠ 40 ∧ hK h (hR h (hR h r0 0) 3) ≠ 42 ∧ hK h (hR h (hR h r0 0) 3) ≤ 45 ∧ hK h (hR h (hR h r0 0) 3) ≠ 43) rfl rfl rfl rfl (decide_eq_true_iff)).trans <| and_r <|
    r_icmp (j := 29) rfl (cd_ge _ _) rfl
theorem b_Pa_next_29 {d : Nat} (r0 : Nat) (h : AH) (Q : Option Value → AH → Prop) : Wp d P_Pa_next 29 [.ref r0, .null] [] h Q ↔ (hK h r0 = 2) ∧ ((hK h (hR h r0 0) = 9) ∧ ((hK h r0 = 2) ∧ ((hK h (hR h (hR h r0 0) 2) ∈ [20, 44] ∧ ixo (hI h r0 5) (hN h (hR h (hR h r0 0) 2)) = true) ∧ ((hK h r0 = 2) ∧ ((hK (sI h r0 6 (hI h (hR h (hR h r0 0) 2) (Int32.toNatClampNeg (hI h r0 5)))) r0 = 2) ∧ ((hK (sI h r0 6 (hI h (hR h (hR h r0 0) 2) (Int32.toNatClampNeg (hI h r0 5)))) (hR (sI h r0 6 (hI h (hR h (hR h r0 0) 2) (Int32.toNatClampNeg (hI h r0 5)))) r0 0) = 9) ∧ ((hK (sI h r0 6 (hI h (hR h (hR h r0 0) 2) (Int32.toNatClampNeg (hI h r0 5)))) r0 = 2) ∧ ((hK (sI h r0 6 (hI h (hR h (hR h r0 0) 2) (Int32.toNatClampNeg (hI h r0 5)))) (hR (sI h r0 6 (hI h (hR h (hR h r0 0) 2) (Int32.toNatClampNeg (hI h r0 5)))) (hR (sI h r0 6 (hI h (hR h (hR h r0 0) 2) (Int32.toNatClampNeg (hI h r0 5)))) r0 0) 3) ∈ [20, 44] ∧ ixo (hI (sI h r0 6 (hI h (hR h (hR h r0 0) 2) (Int32.toNatClampNeg (hI h r0 5)))) r0 5) (hN (sI h r0 6 (hI h (hR h (hR h r0 0) 2) (Int32.toNatClampNeg (hI h r0 5)))) (hR (sI h r0 6 (hI h (hR h (hR h r0 0) 2) (Int32.toNatClampNeg (hI h r0 5)))) (hR (sI h r0 6 (hI h (hR h (hR h r0 0) 2) (Int32.toNatClampNeg (hI h r0 5)))) r0 0) 3)) = true) ∧ ((hK (sI h r0 6 (hI h (hR h (hR h r0 0) 2) (Int32.toNatClampNeg (hI h r0 5)))) r0 = 2) ∧ (Wp d P_Pa_next 45 [.ref r0, .null] [] (sI (sI h r0 6 (hI h (hR h (hR h r0 0) 2) (Int32.toNatClampNeg (hI h r0 5)))) r0 7 (hI (sI h r0 6 (hI h (hR h (hR h r0 0) 2) (Int32.toNatClampNeg (hI h r0 5)))) (hR (sI h r0 6 (hI h (hR h (hR h r0 0) 2) (Int32.toNatClampNeg (hI h r0 5)))) (hR (sI h r0 6 (hI h (hR h (hR h r0 0) 2) (Int32.toNatClampNeg (hI h r0 5)))) r0 0) 3) (Int32.toNatClampNeg (hI (sI h r0 6 (hI h (hR h (hR h r0 0) 2) (Int32.toNatClampNeg (hI h r0 5)))) r0 5)))) Q)))))))))) :=
    (r_go (j := 30) (L' := [.ref r0, .null]) (S' := [.ref r0]) (h' := h) rfl rfl rfl rfl).trans <|
    (r_go (j := 31) (L' := [.ref r0, .null]) (S' := [.ref r0, .ref r0]) (h' := h) rfl rfl rfl rfl).trans <|
    (r_guard (j := 32) (L' := [.ref r0, .null]) (S' := [.ref (hR h r0 0), .ref r0]) (h' := h) (p := hK h r0 = 2) rfl rfl rfl rfl (decide_eq_true_iff)).trans <| and_r <|
    (r_guard (j := 33) (L' := [.ref r0, .null]) (S' := [.ref (hR h (hR h r0 0) 2), .ref r0]) (h' := h) (p := hK h (hR h r0 0) = 9) rfl rfl rfl rfl (decide_eq_true_iff)).trans <| and_r <|
    (r_go (j := 34) (L' := [.ref r0, .null]) (S' := [.ref r0, .ref (hR h (hR h r0 0) 2), .ref r0]) (h' := h) rfl rfl rfl rfl).trans <|
    (r_guard (j := 35) (L' := [.ref r0, .null]) (S' := [.int (hI h r0 5), .ref (hR h (hR h r0 0) 2), .ref r0]) (h' := h) (p := hK h r0 = 2) rfl rfl rfl rfl (decide_eq_true_iff)).trans <| and_r <|
    (r_guard (j := 36) (L' := [.ref r0, .null]) (S' := [.int (hI h (hR h (hR h r0 0) 2) (Int32.toNatClampNeg (hI h r0 5))), .ref r0]) (h' := h) (p := hK h (hR h (hR h r0 0) 2) ∈ [20, 44] ∧ ixo (hI h r0 5) (hN h (hR h (hR h r0 0) 2)) = true) rfl rfl rfl rfl (and2 decide_eq_true_iff Iff.rfl)).trans <| and_r <|
    (r_guard (j := 37) (L' := [.ref r0, .null]) (S' := []) (h' := (sI h r0 6 (hI h (hR h (hR h r0 0) 2) (Int32.toNatClampNeg (hI h r0 5))))) (p := hK h r0 = 2) rfl rfl rfl rfl (pfI rfl)).trans <| and_r <|
    (r_go (j := 38) (L' := [.ref r0, .null]) (S' := [.ref r0]) (h' := (sI h r0 6 (hI h (hR h (hR h r0 0) 2) (Int32.toNatClampNeg (hI h r0 5))))) rfl rfl rfl rfl).trans <|
    (r_go (j := 39) (L' := [.ref r0, .null]) (S' := [.ref r0, .ref r0]) (h' := (sI h r0 6 (hI h (hR h (hR h r0 0) 2) (Int32.toNatClampNeg (hI h r0 5))))) rfl rfl rfl rfl).trans <|
    (r_guard (j := 40) (L' := [.ref r0, .null]) (S' := [.ref (hR (sI h r0 6 (hI h (hR h (hR h r0 0) 2) (Int32.toNatClampNeg (hI h r0 5)))) r0 0), .ref r0]) (h' := (sI h r0 6 (hI h (hR h (hR h r0 0) 2) (Int32.toNatClampNeg (hI h r0 5))))) (p := hK (sI h r0 6 (hI h (hR h (hR h r0 0) 2) (Int32.toNatClampNeg (hI h r0 5)))) r0 = 2) rfl rfl rfl rfl (decide_eq_true_iff)).trans <| and_r <|
    (r_guard (j := 41) (L' := [.ref r0, .null]) (S' := [.ref (hR (sI h r0 6 (hI h (hR h (hR h r0 0) 2) (Int32.toNatClampNeg (hI h r0 5)))) (hR (sI h r0 6 (hI h (hR h (hR h r0 0) 2) (Int32.toNatClampNeg (hI h r0 5)))) r0 0) 3), .ref r0]) (h' := (sI h r0 6 (hI h (hR h (hR h r0 0) 2) (Int32.toNatClampNeg (hI h r0 5))))) (p := hK (sI h r0 6 (hI h (hR h (hR h r0 0) 2) (Int32.toNatClampNeg (hI h r0 5)))) (hR (sI h r0 6 (hI h (hR h (hR h r0 0) 2) (Int32.toNatClampNeg (hI h r0 5)))) r0 0) = 9) rfl rfl rfl rfl (decide_eq_true_iff)).trans <| and_r <|
    (r_go (j := 42) (L' := [.ref r0, .null]) (S' := [.ref r0, .ref (hR (sI h r0 6 (hI h (hR h (hR h r0 0) 2) (Int32.toNatClampNeg (hI h r0 5)))) (hR (sI h r0 6 (hI h (hR h (hR h r0 0) 2) (Int32.toNatClampNeg (hI h r0 5)))) r0 0) 3), .ref r0]) (h' := (sI h r0 6 (hI h (hR h (hR h r0 0) 2) (Int32.toNatClampNeg (hI h r0 5))))) rfl rfl rfl rfl).trans <|
    (r_guard (j := 43) (L' := [.ref r0, .null]) (S' := [.int (hI (sI h r0 6 (hI h (hR h (hR h r0 0) 2) (Int32.toNatClampNeg (hI h r0 5)))) r0 5), .ref (hR (sI h r0 6 (hI h (hR h (hR h r0 0) 2) (Int32.toNatClampNeg (hI h r0 5)))) (hR (sI h r0 6 (hI h (hR h (hR h r0 0) 2) (Int32.toNatClampNeg (hI h r0 5)))) r0 0) 3), .ref r0]) (h' := (sI h r0 6 (hI h (hR h (hR h r0 0) 2) (Int32.toNatClampNeg (hI h r0 5))))) (p := hK (sI h r0 6 (hI h (hR h (hR h r0 0) 2) (Int32.toNatClampNeg (hI h r0 5)))) r0 = 2) rfl rfl rfl rfl (decide_eq_true_iff)).trans <| and_r <|
    (r_guard (j := 44) (L' := [.ref r0, .null]) (S' := [.int (hI (sI h r0 6 (hI h (hR h (hR h r0 0) 2) (Int32.toNatClampNeg (hI h r0 5)))) (hR (sI h r0 6 (hI h (hR h (hR h r0 0) 2) (Int32.toNatClampNeg (hI h r0 5)))) (hR (sI h r0 6 (hI h (hR h (hR h r0 0) 2) (Int32.toNatClampNeg (hI h r0 5)))) r0 0) 3) (Int32.toNatClampNeg (hI (sI h r0 6 (hI h (hR h (hR h r0 0) 2) (Int32.toNatClampNeg (hI h r0 5)))) r0 5))), .ref r0]) (h' := (sI h r0 6 (hI h (hR h (hR h r0 0) 2) (Int32.toNatClampNeg (hI h r0 5))))) (p := hK (sI h r0 6 (hI h (hR h (hR h r0 0) 2) (Int32.toNatClampNeg (hI h r0 5)))) (hR (sI h r0 6 (hI h (hR h (hR h r0 0) 2) (Int32.toNatClampNeg (hI h r0 5)))) (hR (sI h r0 6 (hI h (hR h (hR h r0 0) 2) (Int32.toNatClampNeg (hI h r0 5)))) r0 0) 3) ∈ [20, 44] ∧ ixo (hI (sI h r0 6 (hI h (hR h (hR h r0 0) 2) (Int32.toNatClampNeg (hI h r0 5)))) r0 5) (hN (sI h r0 6 (hI h (hR h (hR h r0 0) 2) (Int32.toNatClampNeg (hI h r0 5)))) (hR (sI h r0 6 (hI h (hR h (hR h r0 0) 2) (Int32.toNatClampNeg (hI h r0 5)))) (hR (sI h r0 6 (hI h (hR h (hR h r0 0) 2) (Int32.toNatClampNeg (hI h r0 5)))) r0 0) 3)) = true) rfl rfl rfl rfl (and2 decide_eq_true_iff Iff.rfl)).trans <| and_r <|
    r_guard (j := 45) (L' := [.ref r0, .null]) (S' := []) (h' := (sI (sI h r0 6 (hI h (hR h (hR h r0 0) 2) (Int32.toNatClampNeg (hI h r0 5)))) r0 7 (hI (sI h r0 6 (hI h (hR h (hR h r0 0) 2) (Int32.toNatClampNeg (hI h r0 5)))) (hR (sI h r0 6 (hI h (hR h (hR h r0 0) 2) (Int32.toNatClampNeg (hI h r0 5)))) (hR (sI h r0 6 (hI h (hR h (hR h r0 0) 2) (Int32.toNatClampNeg (hI h r0 5)))) r0 0) 3) (Int32.toNatClampNeg (hI (sI h r0 6 (hI h (hR h (hR h r0 0) 2) (Int32.toNatClampNeg (hI h r0 5)))) r0 5))))) (p := hK (sI h r0 6 (hI h (hR h (hR h r0 0) 2) (Int32.toNatClampNeg (hI h r0 5)))) r0 = 2) rfl rfl rfl rfl (pfI rfl)
theorem b_Pa_next_45 {d : Nat} (r0 : Nat) (h : AH) (Q : Option Value → AH → Prop) : Wp d P_Pa_next 45 [.ref r0, .null] [] h Q ↔ (hK h r0 = 2) ∧ ((((hI h r0 6) - 10000) < 0 → Wp d P_Pa_next 61 [.ref r0, .int ((hI h r0 6) - 10000)] [.ref r0] h Q) ∧ (¬ (((hI h r0 6) - 10000) < 0) → Wp d P_Pa_next 53 [.ref r0, .int ((hI h r0 6) - 10000)] [.ref r0] h Q)) :=
    (r_go (j := 46) (L' := [.ref r0, .null]) (S' := [.ref r0]) (h' := h) rfl rfl rfl rfl).trans <|
    (r_guard (j := 47) (L' := [.ref r0, .null]) (S' := [.int (hI h r0 6)]) (h' := h) (p := hK h r0 = 2) rfl rfl rfl rfl (decide_eq_true_iff)).trans <| and_r <|
    (r_sipush (j := 48) (x := 10000) rfl i32_10000 rfl).trans <|
    (r_go (j := 49) (L' := [.ref r0, .null]) (S' := [.int ((hI h r0 6) - 10000)]) (h' := h) rfl rfl rfl rfl).trans <|
    (r_go (j := 50) (L' := [.ref r0, .int ((hI h r0 6) - 10000)]) (S' := []) (h' := h) rfl rfl rfl rfl).trans <|
    (r_go (j := 51) (L' := [.ref r0, .int ((hI h r0 6) - 10000)]) (S' := [.ref r0]) (h' := h) rfl rfl rfl rfl).trans <|
    (r_go (j := 52) (L' := [.ref r0, .int ((hI h r0 6) - 10000)]) (S' := [.int ((hI h r0 6) - 10000), .ref r0]) (h' := h) rfl rfl rfl rfl).trans <|
    r_if (j := 53) rfl (cd_lt _ _) rfl
theorem b_Pa_next_53 {d : Nat} (x1 : Int32) (r0 t0 : Nat) (h : AH) (Q : Option Value → AH → Prop) : Wp d P_Pa_next 53 [.ref r0, .int x1] [.ref t0] h Q ↔ (20 ≤ hK h 26 ∧ hK h 26 ≠ 40 ∧ hK h 26 ≠ 42 ∧ hK h 26 ≤ 45 ∧ hK h 26 ≠ 43) ∧ (((Int32.ofNat (hN h 26)) ≤ x1 → Wp d P_Pa_next 61 [.ref r0, .int x1] [.ref t0] h Q) ∧ (¬ ((Int32.ofNat (hN h 26)) ≤ x1) → Wp d P_Pa_next 57 [.ref r0, .int x1] [.ref t0] h Q)) :=
    (r_go (j := 54) (L' := [.ref r0, .int x1]) (S' := [.int x1, .ref t0]) (h' := h) rfl rfl rfl rfl).trans <|
    (r_go (j := 55) (L' := [.ref r0, .int x1]) (S' := [.ref 26, .int x1, .ref t0]) (h' := h) rfl rfl rfl rfl).trans <|
    (r_guard (j := 56) (L' := [.ref r0, .int x1]) (S' := [.int (Int32.ofNat (hN h 26)), .int x1, .ref t0]) (h' := h) (p := 20 ≤ hK h 26 ∧ hK h 26 ≠ 40 ∧ hK h 26 ≠ 42 ∧ hK h 26 ≤ 45 ∧ hK h 26 ≠ 43) rfl rfl rfl rfl (decide_eq_true_iff)).trans <| and_r <|
    r_icmp (j := 57) rfl (cd_ge _ _) rfl
theorem b_Pa_next_57 {d : Nat} (x1 : Int32) (r0 t0 : Nat) (h : AH) (Q : Option Value → AH → Prop) : Wp d P_Pa_next 57 [.ref r0, .int x1] [.ref t0] h Q ↔ ((30 ≤ hK h 26 ∧ hK h 26 ≤ 41 ∧ hK h 26 ≠ 40) ∧ ixo x1 (hN h 26) = true) ∧ (Wp d P_Pa_next 62 [.ref r0, .int x1] [.ref (hR h 26 (Int32.toNatClampNeg x1)), .ref t0] h Q) :=
    (r_go (j := 58) (L' := [.ref r0, .int x1]) (S' := [.ref 26, .ref t0]) (h' := h) rfl rfl rfl rfl).trans <|
    (r_go (j := 59) (L' := [.ref r0, .int x1]) (S' := [.int x1, .ref 26, .ref t0]) (h' := h) rfl rfl rfl rfl).trans <|
    (r_guard (j := 60) (L' := [.ref r0, .int x1]) (S' := [.ref (hR h 26 (Int32.toNatClampNeg x1)), .ref t0]) (h' := h) (p := (30 ≤ hK h 26 ∧ hK h 26 ≤ 41 ∧ hK h 26 ≠ 40) ∧ ixo x1 (hN h 26) = true) rfl rfl rfl rfl (and2 decide_eq_true_iff Iff.rfl)).trans <| and_r <|
    r_go (j := 62) (L' := [.ref r0, .int x1]) (S' := [.ref (hR h 26 (Int32.toNatClampNeg x1)), .ref t0]) (h' := h) rfl rfl rfl rfl
theorem b_Pa_next_61 {d : Nat} (x1 : Int32) (r0 t0 : Nat) (h : AH) (Q : Option Value → AH → Prop) : Wp d P_Pa_next 61 [.ref r0, .int x1] [.ref t0] h Q ↔ Wp d P_Pa_next 62 [.ref r0, .int x1] [.ref 25, .ref t0] h Q :=
    r_go (j := 62) (L' := [.ref r0, .int x1]) (S' := [.ref 25, .ref t0]) (h' := h) rfl rfl rfl rfl
theorem b_Pa_next_62 {d : Nat} (x1 : Int32) (r0 t0 t1 : Nat) (h : AH) (Q : Option Value → AH → Prop) : Wp d P_Pa_next 62 [.ref r0, .int x1] [.ref t0, .ref t1] h Q ↔ (hK h t1 = 2) ∧ (Q (none) (sR h t1 8 t0)) :=
    (r_guard (j := 63) (L' := [.ref r0, .int x1]) (S' := []) (h' := (sR h t1 8 t0)) (p := hK h t1 = 2) rfl rfl rfl rfl (pfR rfl)).trans <| and_r <|
    r_ret rfl rfl rfl
theorem e_Pa_next {d : Nat} (r0 : Nat) (h : AH) (Q : Option Value → AH → Prop) : Cl (d + 1) q_Pa_next [.ref r0] h Q ↔ hK h r0 = 2 ∧ Wp d P_Pa_next 0 [.ref r0, .null] [] h (fun r h' => rtk (none) r = true ∧ Q r h') :=
    (Cl_method (t := m_Pa_next) rfl).trans (and_congr_left fun _ => decide_eq_true_iff)
/-! PenThatJumps$Parser.wrong(I)V -/
theorem b_Pa_wrong_0 {d : Nat} (x1 : Int32) (r0 : Nat) (h : AH) (Q : Option Value → AH → Prop) : Wp d P_Pa_wrong 0 [.ref r0, .int x1] [] h Q ↔ (hK h r0 = 2) ∧ ((¬ (hI h r0 4) = 0 → Wp d P_Pa_wrong 11 [.ref r0, .int x1] [] h Q) ∧ (¬ (¬ (hI h r0 4) = 0) → Wp d P_Pa_wrong 3 [.ref r0, .int x1] [] h Q)) :=
    (r_go (j := 1) (L' := [.ref r0, .int x1]) (S' := [.ref r0]) (h' := h) rfl rfl rfl rfl).trans <|
    (r_guard (j := 2) (L' := [.ref r0, .int x1]) (S' := [.int (hI h r0 4)]) (h' := h) (p := hK h r0 = 2) rfl rfl rfl rfl (decide_eq_true_iff)).trans <| and_r <|
    r_if (j := 3) rfl (cd_ne _ _) rfl
theorem b_Pa_wrong_3 {d : Nat} (x1 : Int32) (r0 : Nat) (h : AH) (Q : Option Value → AH → Prop) : Wp d P_Pa_wrong 3 [.ref r0, .int x1] [] h Q ↔ (hK h r0 = 2) ∧ ((hK h r0 = 2) ∧ (Wp d P_Pa_wrong 11 [.ref r0, .int x1] [] (sI h r0 4 (x1 + (16 * (hI h r0 7)))) Q)) :=
    (r_go (j := 4) (L' := [.ref r0, .int x1]) (S' := [.ref r0]) (h' := h) rfl rfl rfl rfl).trans <|
    (r_go (j := 5) (L' := [.ref r0, .int x1]) (S' := [.int x1, .ref r0]) (h' := h) rfl rfl rfl rfl).trans <|
    (r_bipush (j := 6) (x := 16) rfl i32_16 rfl).trans <|
    (r_go (j := 7) (L' := [.ref r0, .int x1]) (S' := [.ref r0, .int 16, .int x1, .ref r0]) (h' := h) rfl rfl rfl rfl).trans <|
    (r_guard (j := 8) (L' := [.ref r0, .int x1]) (S' := [.int (hI h r0 7), .int 16, .int x1, .ref r0]) (h' := h) (p := hK h r0 = 2) rfl rfl rfl rfl (decide_eq_true_iff)).trans <| and_r <|
    (r_go (j := 9) (L' := [.ref r0, .int x1]) (S' := [.int (16 * (hI h r0 7)), .int x1, .ref r0]) (h' := h) rfl rfl rfl rfl).trans <|
    (r_go (j := 10) (L' := [.ref r0, .int x1]) (S' := [.int (x1 + (16 * (hI h r0 7))), .ref r0]) (h' := h) rfl rfl rfl rfl).trans <|
    r_guard (j := 11) (L' := [.ref r0, .int x1]) (S' := []) (h' := (sI h r0 4 (x1 + (16 * (hI h r0 7))))) (p := hK h r0 = 2) rfl rfl rfl rfl (pfI rfl)
theorem b_Pa_wrong_11 {d : Nat} (x1 : Int32) (r0 : Nat) (h : AH) (Q : Option Value → AH → Prop) : Wp d P_Pa_wrong 11 [.ref r0, .int x1] [] h Q ↔ Q (none) h :=
    r_ret rfl rfl rfl
theorem e_Pa_wrong {d : Nat} (x1 : Int32) (r0 : Nat) (h : AH) (Q : Option Value → AH → Prop) : Cl (d + 1) q_Pa_wrong [.ref r0, .int x1] h Q ↔ hK h r0 = 2 ∧ Wp d P_Pa_wrong 0 [.ref r0, .int x1] [] h (fun r h' => rtk (none) r = true ∧ Q r h') :=
    (Cl_method (t := m_Pa_wrong) rfl).trans (and_congr_left fun _ => decide_eq_true_iff)
/-! PenThatJumps$Parser.takeQuestion()V -/
theorem b_Pa_takeQuestion_0 {d : Nat} (r0 : Nat) (h : AH) (Q : Option Value → AH → Prop) : Wp d P_Pa_takeQuestion 0 [.ref r0, .null, .null, .null] [] h Q ↔ (hK h r0 = 2) ∧ ((hK h (hR h r0 1) = 4) ∧ (((hI h (hR h r0 1) 3) < 12 → Wp d P_Pa_takeQuestion 12 [.ref r0, .null, .null, .null] [] h Q) ∧ (¬ ((hI h (hR h r0 1) 3) < 12) → Wp d P_Pa_takeQuestion 5 [.ref r0, .null, .null, .null] [] h Q))) :=
    (r_go (j := 1) (L' := [.ref r0, .null, .null, .null]) (S' := [.ref r0]) (h' := h) rfl rfl rfl rfl).trans <|
    (r_guard (j := 2) (L' := [.ref r0, .null, .null, .null]) (S' := [.ref (hR h r0 1)]) (h' := h) (p := hK h r0 = 2) rfl rfl rfl rfl (decide_eq_true_iff)).trans <| and_r <|
    (r_guard (j := 3) (L' := [.ref r0, .null, .null, .null]) (S' := [.int (hI h (hR h r0 1) 3)]) (h' := h) (p := hK h (hR h r0 1) = 4) rfl rfl rfl rfl (decide_eq_true_iff)).trans <| and_r <|
    (r_bipush (j := 4) (x := 12) rfl i32_12 rfl).trans <|
    r_icmp (j := 5) rfl (cd_lt _ _) rfl
theorem b_Pa_takeQuestion_5 {d : Nat} (r0 : Nat) (h : AH) (Q : Option Value → AH → Prop) : Wp d P_Pa_takeQuestion 5 [.ref r0, .null, .null, .null] [] h Q ↔ (hK h r0 = 2) ∧ ((2 ≤ (hR h r0 8) ∧ (hR h r0 8) ≤ 25 ∧ 2 ≤ 20 ∧ 20 ≤ 25) ∧ ((hR h r0 8) = 20 → Wp d P_Pa_takeQuestion 9 [.ref r0, .null, .null, .null] [] h Q) ∧ (¬ ((hR h r0 8) = 20) → Wp d P_Pa_takeQuestion 12 [.ref r0, .null, .null, .null] [] h Q)) :=
    (r_go (j := 6) (L' := [.ref r0, .null, .null, .null]) (S' := [.ref r0]) (h' := h) rfl rfl rfl rfl).trans <|
    (r_guard (j := 7) (L' := [.ref r0, .null, .null, .null]) (S' := [.ref (hR h r0 8)]) (h' := h) (p := hK h r0 = 2) rfl rfl rfl rfl (decide_eq_true_iff)).trans <| and_r <|
    (r_go (j := 8) (L' := [.ref r0, .null, .null, .null]) (S' := [.ref 20, .ref (hR h r0 8)]) (h' := h) rfl rfl rfl rfl).trans <|
    r_acmp (j := 9) rfl rfl rfl 9 12 (Or.inr ⟨rfl, rfl, rfl⟩)
theorem b_Pa_takeQuestion_9 {d : Nat} (r0 : Nat) (h : AH) (Q : Option Value → AH → Prop) : Wp d P_Pa_takeQuestion 9 [.ref r0, .null, .null, .null] [] h Q ↔ Cl d q_Pa_wrong [.ref r0, .int 5] h (fun r h' => Wp d P_Pa_takeQuestion 12 [.ref r0, .null, .null, .null] (r.toList ++ []) h' Q) :=
    (r_go (j := 10) (L' := [.ref r0, .null, .null, .null]) (S' := [.ref r0]) (h' := h) rfl rfl rfl rfl).trans <|
    (r_iconst (j := 11) (x := 5) rfl i32_5 rfl).trans <|
    r_call (j := 12) (a := [.ref r0, .int 5]) (S' := []) rfl rfl rfl rfl rfl rfl rfl
theorem b_Pa_takeQuestion_12 {d : Nat} (r0 : Nat) (h : AH) (Q : Option Value → AH → Prop) : Wp d P_Pa_takeQuestion 12 [.ref r0, .null, .null, .null] [] h Q ↔ Cl d q_Pa_takeWord [.ref r0, .ref 20] h (fun r h' => Wp d P_Pa_takeQuestion 15 [.ref r0, .null, .null, .null] (r.toList ++ []) h' Q) :=
    (r_go (j := 13) (L' := [.ref r0, .null, .null, .null]) (S' := [.ref r0]) (h' := h) rfl rfl rfl rfl).trans <|
    (r_go (j := 14) (L' := [.ref r0, .null, .null, .null]) (S' := [.ref 20, .ref r0]) (h' := h) rfl rfl rfl rfl).trans <|
    r_call (j := 15) (a := [.ref r0, .ref 20]) (S' := []) rfl rfl rfl rfl rfl rfl rfl
theorem b_Pa_takeQuestion_15 {d : Nat} (r0 : Nat) (h : AH) (Q : Option Value → AH → Prop) : Wp d P_Pa_takeQuestion 15 [.ref r0, .null, .null, .null] [] h Q ↔ Cl d q_Pa_takeKind [.ref r0] h (fun r h' => Wp d P_Pa_takeQuestion 17 [.ref r0, .null, .null, .null] (r.toList ++ []) h' Q) :=
    (r_go (j := 16) (L' := [.ref r0, .null, .null, .null]) (S' := [.ref r0]) (h' := h) rfl rfl rfl rfl).trans <|
    r_call (j := 17) (a := [.ref r0]) (S' := []) rfl rfl rfl rfl rfl rfl rfl
theorem b_Pa_takeQuestion_17 {d : Nat} (s0 : Int32) (r0 : Nat) (h : AH) (Q : Option Value → AH → Prop) : Wp d P_Pa_takeQuestion 17 [.ref r0, .null, .null, .null] [.int s0] h Q ↔ (¬ s0 = 3 → Wp d P_Pa_takeQuestion 26 [.ref r0, .int s0, .null, .null] [] h Q) ∧ (¬ (¬ s0 = 3) → Wp d P_Pa_takeQuestion 21 [.ref r0, .int s0, .null, .null] [] h Q) :=
    (r_go (j := 18) (L' := [.ref r0, .int s0, .null, .null]) (S' := []) (h' := h) rfl rfl rfl rfl).trans <|
    (r_go (j := 19) (L' := [.ref r0, .int s0, .null, .null]) (S' := [.int s0]) (h' := h) rfl rfl rfl rfl).trans <|
    (r_iconst (j := 20) (x := 3) rfl i32_3 rfl).trans <|
    r_icmp (j := 21) rfl (cd_ne _ _) rfl
theorem b_Pa_takeQuestion_21 {d : Nat} (x1 : Int32) (r0 : Nat) (h : AH) (Q : Option Value → AH → Prop) : Wp d P_Pa_takeQuestion 21 [.ref r0, .int x1, .null, .null] [] h Q ↔ Cl d q_Pa_takeNumber [.ref r0, .int 0, .int 8] h (fun r h' => Wp d P_Pa_takeQuestion 25 [.ref r0, .int x1, .null, .null] (r.toList ++ []) h' Q) :=
    (r_go (j := 22) (L' := [.ref r0, .int x1, .null, .null]) (S' := [.ref r0]) (h' := h) rfl rfl rfl rfl).trans <|
    (r_iconst (j := 23) (x := 0) rfl i32_0 rfl).trans <|
    (r_bipush (j := 24) (x := 8) rfl i32_8 rfl).trans <|
    r_call (j := 25) (a := [.ref r0, .int 0, .int 8]) (S' := []) rfl rfl rfl rfl rfl rfl rfl
theorem b_Pa_takeQuestion_25 {d : Nat} (x1 s0 : Int32) (r0 : Nat) (h : AH) (Q : Option Value → AH → Prop) : Wp d P_Pa_takeQuestion 25 [.ref r0, .int x1, .null, .null] [.int s0] h Q ↔ Wp d P_Pa_takeQuestion 27 [.ref r0, .int x1, .null, .null] [.int s0] h Q :=
    r_go (j := 27) (L' := [.ref r0, .int x1, .null, .null]) (S' := [.int s0]) (h' := h) rfl rfl rfl rfl
theorem b_Pa_takeQuestion_26 {d : Nat} (x1 : Int32) (r0 : Nat) (h : AH) (Q : Option Value → AH → Prop) : Wp d P_Pa_takeQuestion 26 [.ref r0, .int x1, .null, .null] [] h Q ↔ Wp d P_Pa_takeQuestion 27 [.ref r0, .int x1, .null, .null] [.int (-1)] h Q :=
    r_iconst (j := 27) (x := (-1)) rfl i32_m1 rfl
theorem b_Pa_takeQuestion_27 {d : Nat} (x1 s0 : Int32) (r0 : Nat) (h : AH) (Q : Option Value → AH → Prop) : Wp d P_Pa_takeQuestion 27 [.ref r0, .int x1, .null, .null] [.int s0] h Q ↔ (hK h r0 = 2) ∧ ((¬ (hI h r0 4) = 0 → Wp d P_Pa_takeQuestion 44 [.ref r0, .int x1, .int s0, .int 1] [] h Q) ∧ (¬ (¬ (hI h r0 4) = 0) → Wp d P_Pa_takeQuestion 33 [.ref r0, .int x1, .int s0, .int 1] [] h Q)) :=
    (r_go (j := 28) (L' := [.ref r0, .int x1, .int s0, .null]) (S' := []) (h' := h) rfl rfl rfl rfl).trans <|
    (r_iconst (j := 29) (x := 1) rfl i32_1 rfl).trans <|
    (r_go (j := 30) (L' := [.ref r0, .int x1, .int s0, .int 1]) (S' := []) (h' := h) rfl rfl rfl rfl).trans <|
    (r_go (j := 31) (L' := [.ref r0, .int x1, .int s0, .int 1]) (S' := [.ref r0]) (h' := h) rfl rfl rfl rfl).trans <|
    (r_guard (j := 32) (L' := [.ref r0, .int x1, .int s0, .int 1]) (S' := [.int (hI h r0 4)]) (h' := h) (p := hK h r0 = 2) rfl rfl rfl rfl (decide_eq_true_iff)).trans <| and_r <|
    r_if (j := 33) rfl (cd_ne _ _) rfl
theorem b_Pa_takeQuestion_33 {d : Nat} (x1 x2 x3 : Int32) (r0 : Nat) (h : AH) (Q : Option Value → AH → Prop) : Wp d P_Pa_takeQuestion 33 [.ref r0, .int x1, .int x2, .int x3] [] h Q ↔ (hK h r0 = 2) ∧ ((2 ≤ (hR h r0 8) ∧ (hR h r0 8) ≤ 25 ∧ 2 ≤ 21 ∧ 21 ≤ 25) ∧ ((hR h r0 8) = 21 → Wp d P_Pa_takeQuestion 37 [.ref r0, .int x1, .int x2, .int x3] [] h Q) ∧ (¬ ((hR h r0 8) = 21) → Wp d P_Pa_takeQuestion 44 [.ref r0, .int x1, .int x2, .int x3] [] h Q)) :=
    (r_go (j := 34) (L' := [.ref r0, .int x1, .int x2, .int x3]) (S' := [.ref r0]) (h' := h) rfl rfl rfl rfl).trans <|
    (r_guard (j := 35) (L' := [.ref r0, .int x1, .int x2, .int x3]) (S' := [.ref (hR h r0 8)]) (h' := h) (p := hK h r0 = 2) rfl rfl rfl rfl (decide_eq_true_iff)).trans <| and_r <|
    (r_go (j := 36) (L' := [.ref r0, .int x1, .int x2, .int x3]) (S' := [.ref 21, .ref (hR h r0 8)]) (h' := h) rfl rfl rfl rfl).trans <|
    r_acmp (j := 37) rfl rfl rfl 37 44 (Or.inr ⟨rfl, rfl, rfl⟩)
theorem b_Pa_takeQuestion_37 {d : Nat} (x1 x2 x3 : Int32) (r0 : Nat) (h : AH) (Q : Option Value → AH → Prop) : Wp d P_Pa_takeQuestion 37 [.ref r0, .int x1, .int x2, .int x3] [] h Q ↔ Cl d q_Pa_next [.ref r0] h (fun r h' => Wp d P_Pa_takeQuestion 39 [.ref r0, .int x1, .int x2, .int x3] (r.toList ++ []) h' Q) :=
    (r_go (j := 38) (L' := [.ref r0, .int x1, .int x2, .int x3]) (S' := [.ref r0]) (h' := h) rfl rfl rfl rfl).trans <|
    r_call (j := 39) (a := [.ref r0]) (S' := []) rfl rfl rfl rfl rfl rfl rfl
theorem b_Pa_takeQuestion_39 {d : Nat} (x1 x2 x3 : Int32) (r0 : Nat) (h : AH) (Q : Option Value → AH → Prop) : Wp d P_Pa_takeQuestion 39 [.ref r0, .int x1, .int x2, .int x3] [] h Q ↔ Cl d q_Pa_takeNumber [.ref r0, .int 1, .int 9] h (fun r h' => Wp d P_Pa_takeQuestion 43 [.ref r0, .int x1, .int x2, .int x3] (r.toList ++ []) h' Q) :=
    (r_go (j := 40) (L' := [.ref r0, .int x1, .int x2, .int x3]) (S' := [.ref r0]) (h' := h) rfl rfl rfl rfl).trans <|
    (r_iconst (j := 41) (x := 1) rfl i32_1 rfl).trans <|
    (r_bipush (j := 42) (x := 9) rfl i32_9 rfl).trans <|
    r_call (j := 43) (a := [.ref r0, .int 1, .int 9]) (S' := []) rfl rfl rfl rfl rfl rfl rfl
theorem b_Pa_takeQuestion_43 {d : Nat} (x1 x2 x3 s0 : Int32) (r0 : Nat) (h : AH) (Q : Option Value → AH → Prop) : Wp d P_Pa_takeQuestion 43 [.ref r0, .int x1, .int x2, .int x3] [.int s0] h Q ↔ Wp d P_Pa_takeQuestion 44 [.ref r0, .int x1, .int x2, .int s0] [] h Q :=
    r_go (j := 44) (L' := [.ref r0, .int x1, .int x2, .int s0]) (S' := []) (h' := h) rfl rfl rfl rfl
theorem b_Pa_takeQuestion_44 {d : Nat} (x1 x2 x3 : Int32) (r0 : Nat) (h : AH) (Q : Option Value → AH → Prop) : Wp d P_Pa_takeQuestion 44 [.ref r0, .int x1, .int x2, .int x3] [] h Q ↔ Cl d q_Pa_takeSign [.ref r0, .int 59] h (fun r h' => Wp d P_Pa_takeQuestion 47 [.ref r0, .int x1, .int x2, .int x3] (r.toList ++ []) h' Q) :=
    (r_go (j := 45) (L' := [.ref r0, .int x1, .int x2, .int x3]) (S' := [.ref r0]) (h' := h) rfl rfl rfl rfl).trans <|
    (r_bipush (j := 46) (x := 59) rfl i32_59 rfl).trans <|
    r_call (j := 47) (a := [.ref r0, .int 59]) (S' := []) rfl rfl rfl rfl rfl rfl rfl
theorem b_Pa_takeQuestion_47 {d : Nat} (x1 x2 x3 : Int32) (r0 : Nat) (h : AH) (Q : Option Value → AH → Prop) : Wp d P_Pa_takeQuestion 47 [.ref r0, .int x1, .int x2, .int x3] [] h Q ↔ (hK h r0 = 2) ∧ ((¬ (hI h r0 4) = 0 → Wp d P_Pa_takeQuestion 56 [.ref r0, .int x1, .int x2, .int x3] [] h Q) ∧ (¬ (¬ (hI h r0 4) = 0) → Wp d P_Pa_takeQuestion 50 [.ref r0, .int x1, .int x2, .int x3] [] h Q)) :=
    (r_go (j := 48) (L' := [.ref r0, .int x1, .int x2, .int x3]) (S' := [.ref r0]) (h' := h) rfl rfl rfl rfl).trans <|
    (r_guard (j := 49) (L' := [.ref r0, .int x1, .int x2, .int x3]) (S' := [.int (hI h r0 4)]) (h' := h) (p := hK h r0 = 2) rfl rfl rfl rfl (decide_eq_true_iff)).trans <| and_r <|
    r_if (j := 50) rfl (cd_ne _ _) rfl
theorem b_Pa_takeQuestion_50 {d : Nat} (x1 x2 x3 : Int32) (r0 : Nat) (h : AH) (Q : Option Value → AH → Prop) : Wp d P_Pa_takeQuestion 50 [.ref r0, .int x1, .int x2, .int x3] [] h Q ↔ (hK h r0 = 2) ∧ (Cl d q_Pl_add [.ref (hR h r0 1), .int x1, .int x2, .int x3] h (fun r h' => Wp d P_Pa_takeQuestion 56 [.ref r0, .int x1, .int x2, .int x3] (r.toList ++ []) h' Q)) :=
    (r_go (j := 51) (L' := [.ref r0, .int x1, .int x2, .int x3]) (S' := [.ref r0]) (h' := h) rfl rfl rfl rfl).trans <|
    (r_guard (j := 52) (L' := [.ref r0, .int x1, .int x2, .int x3]) (S' := [.ref (hR h r0 1)]) (h' := h) (p := hK h r0 = 2) rfl rfl rfl rfl (decide_eq_true_iff)).trans <| and_r <|
    (r_go (j := 53) (L' := [.ref r0, .int x1, .int x2, .int x3]) (S' := [.int x1, .ref (hR h r0 1)]) (h' := h) rfl rfl rfl rfl).trans <|
    (r_go (j := 54) (L' := [.ref r0, .int x1, .int x2, .int x3]) (S' := [.int x2, .int x1, .ref (hR h r0 1)]) (h' := h) rfl rfl rfl rfl).trans <|
    (r_go (j := 55) (L' := [.ref r0, .int x1, .int x2, .int x3]) (S' := [.int x3, .int x2, .int x1, .ref (hR h r0 1)]) (h' := h) rfl rfl rfl rfl).trans <|
    r_call (j := 56) (a := [.ref (hR h r0 1), .int x1, .int x2, .int x3]) (S' := []) rfl rfl rfl rfl rfl rfl rfl
theorem b_Pa_takeQuestion_56 {d : Nat} (x1 x2 x3 : Int32) (r0 : Nat) (h : AH) (Q : Option Value → AH → Prop) : Wp d P_Pa_takeQuestion 56 [.ref r0, .int x1, .int x2, .int x3] [] h Q ↔ Q (none) h :=
    r_ret rfl rfl rfl
theorem e_Pa_takeQuestion {d : Nat} (r0 : Nat) (h : AH) (Q : Option Value → AH → Prop) : Cl (d + 1) q_Pa_takeQuestion [.ref r0] h Q ↔ hK h r0 = 2 ∧ Wp d P_Pa_takeQuestion 0 [.ref r0, .null, .null, .null] [] h (fun r h' => rtk (none) r = true ∧ Q r h') :=
    (Cl_method (t := m_Pa_takeQuestion) rfl).trans (and_congr_left fun _ => decide_eq_true_iff)
/-! PenThatJumps$Parser.takeKind()I -/
theorem b_Pa_takeKind_0 {d : Nat} (r0 : Nat) (h : AH) (Q : Option Value → AH → Prop) : Wp d P_Pa_takeKind 0 [.ref r0, .null] [] h Q ↔ (hK h r0 = 2) ∧ ((hK h (hR h r0 8) = 40) ∧ (((hI h (hR h r0 8) 1) < 0 → Wp d P_Pa_takeKind 9 [.ref r0, .int (hI h (hR h r0 8) 1)] [] h Q) ∧ (¬ ((hI h (hR h r0 8) 1) < 0) → Wp d P_Pa_takeKind 6 [.ref r0, .int (hI h (hR h r0 8) 1)] [] h Q))) :=
    (r_go (j := 1) (L' := [.ref r0, .null]) (S' := [.ref r0]) (h' := h) rfl rfl rfl rfl).trans <|
    (r_guard (j := 2) (L' := [.ref r0, .null]) (S' := [.ref (hR h r0 8)]) (h' := h) (p := hK h r0 = 2) rfl rfl rfl rfl (decide_eq_true_iff)).trans <| and_r <|
    (r_guard (j := 3) (L' := [.ref r0, .null]) (S' := [.int (hI h (hR h r0 8) 1)]) (h' := h) (p := hK h (hR h r0 8) = 40) rfl rfl rfl rfl (decide_eq_true_iff)).trans <| and_r <|
    (r_go (j := 4) (L' := [.ref r0, .int (hI h (hR h r0 8) 1)]) (S' := []) (h' := h) rfl rfl rfl rfl).trans <|
    (r_go (j := 5) (L' := [.ref r0, .int (hI h (hR h r0 8) 1)]) (S' := [.int (hI h (hR h r0 8) 1)]) (h' := h) rfl rfl rfl rfl).trans <|
    r_if (j := 6) rfl (cd_lt _ _) rfl
theorem b_Pa_takeKind_6 {d : Nat} (x1 : Int32) (r0 : Nat) (h : AH) (Q : Option Value → AH → Prop) : Wp d P_Pa_takeKind 6 [.ref r0, .int x1] [] h Q ↔ (x1 < 4 → Wp d P_Pa_takeKind 12 [.ref r0, .int x1] [] h Q) ∧ (¬ (x1 < 4) → Wp d P_Pa_takeKind 9 [.ref r0, .int x1] [] h Q) :=
    (r_go (j := 7) (L' := [.ref r0, .int x1]) (S' := [.int x1]) (h' := h) rfl rfl rfl rfl).trans <|
    (r_iconst (j := 8) (x := 4) rfl i32_4 rfl).trans <|
    r_icmp (j := 9) rfl (cd_lt _ _) rfl
theorem b_Pa_takeKind_9 {d : Nat} (x1 : Int32) (r0 : Nat) (h : AH) (Q : Option Value → AH → Prop) : Wp d P_Pa_takeKind 9 [.ref r0, .int x1] [] h Q ↔ Cl d q_Pa_wrong [.ref r0, .int 1] h (fun r h' => Wp d P_Pa_takeKind 12 [.ref r0, .int x1] (r.toList ++ []) h' Q) :=
    (r_go (j := 10) (L' := [.ref r0, .int x1]) (S' := [.ref r0]) (h' := h) rfl rfl rfl rfl).trans <|
    (r_iconst (j := 11) (x := 1) rfl i32_1 rfl).trans <|
    r_call (j := 12) (a := [.ref r0, .int 1]) (S' := []) rfl rfl rfl rfl rfl rfl rfl
theorem b_Pa_takeKind_12 {d : Nat} (x1 : Int32) (r0 : Nat) (h : AH) (Q : Option Value → AH → Prop) : Wp d P_Pa_takeKind 12 [.ref r0, .int x1] [] h Q ↔ (hK h r0 = 2) ∧ (((hI h r0 4) = 0 → Wp d P_Pa_takeKind 17 [.ref r0, .int x1] [] h Q) ∧ (¬ ((hI h r0 4) = 0) → Wp d P_Pa_takeKind 15 [.ref r0, .int x1] [] h Q)) :=
    (r_go (j := 13) (L' := [.ref r0, .int x1]) (S' := [.ref r0]) (h' := h) rfl rfl rfl rfl).trans <|
    (r_guard (j := 14) (L' := [.ref r0, .int x1]) (S' := [.int (hI h r0 4)]) (h' := h) (p := hK h r0 = 2) rfl rfl rfl rfl (decide_eq_true_iff)).trans <| and_r <|
    r_if (j := 15) rfl (cd_eq _ _) rfl
theorem b_Pa_takeKind_15 {d : Nat} (x1 : Int32) (r0 : Nat) (h : AH) (Q : Option Value → AH → Prop) : Wp d P_Pa_takeKind 15 [.ref r0, .int x1] [] h Q ↔ Q (some (.int (-1))) h :=
    (r_iconst (j := 16) (x := (-1)) rfl i32_m1 rfl).trans <|
    r_ret rfl rfl rfl
theorem b_Pa_takeKind_17 {d : Nat} (x1 : Int32) (r0 : Nat) (h : AH) (Q : Option Value → AH → Prop) : Wp d P_Pa_takeKind 17 [.ref r0, .int x1] [] h Q ↔ Cl d q_Pa_next [.ref r0] h (fun r h' => Wp d P_Pa_takeKind 19 [.ref r0, .int x1] (r.toList ++ []) h' Q) :=
    (r_go (j := 18) (L' := [.ref r0, .int x1]) (S' := [.ref r0]) (h' := h) rfl rfl rfl rfl).trans <|
    r_call (j := 19) (a := [.ref r0]) (S' := []) rfl rfl rfl rfl rfl rfl rfl
theorem b_Pa_takeKind_19 {d : Nat} (x1 : Int32) (r0 : Nat) (h : AH) (Q : Option Value → AH → Prop) : Wp d P_Pa_takeKind 19 [.ref r0, .int x1] [] h Q ↔ Q (some (.int x1)) h :=
    (r_go (j := 20) (L' := [.ref r0, .int x1]) (S' := [.int x1]) (h' := h) rfl rfl rfl rfl).trans <|
    r_ret rfl rfl rfl
theorem e_Pa_takeKind {d : Nat} (r0 : Nat) (h : AH) (Q : Option Value → AH → Prop) : Cl (d + 1) q_Pa_takeKind [.ref r0] h Q ↔ hK h r0 = 2 ∧ Wp d P_Pa_takeKind 0 [.ref r0, .null] [] h (fun r h' => rtk (some .int) r = true ∧ Q r h') :=
    (Cl_method (t := m_Pa_takeKind) rfl).trans (and_congr_left fun _ => decide_eq_true_iff)
/-! PenThatJumps$Parser.takeBodyHead()I -/
theorem b_Pa_takeBodyHead_0 {d : Nat} (r0 : Nat) (h : AH) (Q : Option Value → AH → Prop) : Wp d P_Pa_takeBodyHead 0 [.ref r0, .null] [] h Q ↔ Cl d q_Pa_takeWord [.ref r0, .ref 22] h (fun r h' => Wp d P_Pa_takeBodyHead 3 [.ref r0, .null] (r.toList ++ []) h' Q) :=
    (r_go (j := 1) (L' := [.ref r0, .null]) (S' := [.ref r0]) (h' := h) rfl rfl rfl rfl).trans <|
    (r_go (j := 2) (L' := [.ref r0, .null]) (S' := [.ref 22, .ref r0]) (h' := h) rfl rfl rfl rfl).trans <|
    r_call (j := 3) (a := [.ref r0, .ref 22]) (S' := []) rfl rfl rfl rfl rfl rfl rfl
theorem b_Pa_takeBodyHead_3 {d : Nat} (r0 : Nat) (h : AH) (Q : Option Value → AH → Prop) : Wp d P_Pa_takeBodyHead 3 [.ref r0, .null] [] h Q ↔ Cl d q_Pa_isNumber [.ref r0] h (fun r h' => Wp d P_Pa_takeBodyHead 5 [.ref r0, .null] (r.toList ++ []) h' Q) :=
    (r_go (j := 4) (L' := [.ref r0, .null]) (S' := [.ref r0]) (h' := h) rfl rfl rfl rfl).trans <|
    r_call (j := 5) (a := [.ref r0]) (S' := []) rfl rfl rfl rfl rfl rfl rfl
theorem b_Pa_takeBodyHead_5 {d : Nat} (s0 : Int32) (r0 : Nat) (h : AH) (Q : Option Value → AH → Prop) : Wp d P_Pa_takeBodyHead 5 [.ref r0, .null] [.int s0] h Q ↔ (s0 = 0 → Wp d P_Pa_takeBodyHead 15 [.ref r0, .null] [] h Q) ∧ (¬ (s0 = 0) → Wp d P_Pa_takeBodyHead 6 [.ref r0, .null] [] h Q) :=
    r_if (j := 6) rfl (cd_eq _ _) rfl
theorem b_Pa_takeBodyHead_6 {d : Nat} (r0 : Nat) (h : AH) (Q : Option Value → AH → Prop) : Wp d P_Pa_takeBodyHead 6 [.ref r0, .null] [] h Q ↔ (hK h r0 = 2) ∧ ((hK h r0 = 2) ∧ (Cl d q_Pg_hasLine [.ref (hR h r0 2), .int (hI h r0 6)] h (fun r h' => Wp d P_Pa_takeBodyHead 11 [.ref r0, .null] (r.toList ++ []) h' Q))) :=
    (r_go (j := 7) (L' := [.ref r0, .null]) (S' := [.ref r0]) (h' := h) rfl rfl rfl rfl).trans <|
    (r_guard (j := 8) (L' := [.ref r0, .null]) (S' := [.ref (hR h r0 2)]) (h' := h) (p := hK h r0 = 2) rfl rfl rfl rfl (decide_eq_true_iff)).trans <| and_r <|
    (r_go (j := 9) (L' := [.ref r0, .null]) (S' := [.ref r0, .ref (hR h r0 2)]) (h' := h) rfl rfl rfl rfl).trans <|
    (r_guard (j := 10) (L' := [.ref r0, .null]) (S' := [.int (hI h r0 6), .ref (hR h r0 2)]) (h' := h) (p := hK h r0 = 2) rfl rfl rfl rfl (decide_eq_true_iff)).trans <| and_r <|
    r_call (j := 11) (a := [.ref (hR h r0 2), .int (hI h r0 6)]) (S' := []) rfl rfl rfl rfl rfl rfl rfl
theorem b_Pa_takeBodyHead_11 {d : Nat} (s0 : Int32) (r0 : Nat) (h : AH) (Q : Option Value → AH → Prop) : Wp d P_Pa_takeBodyHead 11 [.ref r0, .null] [.int s0] h Q ↔ (s0 = 0 → Wp d P_Pa_takeBodyHead 15 [.ref r0, .null] [] h Q) ∧ (¬ (s0 = 0) → Wp d P_Pa_takeBodyHead 12 [.ref r0, .null] [] h Q) :=
    r_if (j := 12) rfl (cd_eq _ _) rfl
theorem b_Pa_takeBodyHead_12 {d : Nat} (r0 : Nat) (h : AH) (Q : Option Value → AH → Prop) : Wp d P_Pa_takeBodyHead 12 [.ref r0, .null] [] h Q ↔ Cl d q_Pa_wrong [.ref r0, .int 3] h (fun r h' => Wp d P_Pa_takeBodyHead 15 [.ref r0, .null] (r.toList ++ []) h' Q) :=
    (r_go (j := 13) (L' := [.ref r0, .null]) (S' := [.ref r0]) (h' := h) rfl rfl rfl rfl).trans <|
    (r_iconst (j := 14) (x := 3) rfl i32_3 rfl).trans <|
    r_call (j := 15) (a := [.ref r0, .int 3]) (S' := []) rfl rfl rfl rfl rfl rfl rfl
theorem b_Pa_takeBodyHead_15 {d : Nat} (r0 : Nat) (h : AH) (Q : Option Value → AH → Prop) : Wp d P_Pa_takeBodyHead 15 [.ref r0, .null] [] h Q ↔ Cl d q_Pa_takeNumber [.ref r0, .int 0, .int 2] h (fun r h' => Wp d P_Pa_takeBodyHead 19 [.ref r0, .null] (r.toList ++ []) h' Q) :=
    (r_go (j := 16) (L' := [.ref r0, .null]) (S' := [.ref r0]) (h' := h) rfl rfl rfl rfl).trans <|
    (r_iconst (j := 17) (x := 0) rfl i32_0 rfl).trans <|
    (r_iconst (j := 18) (x := 2) rfl i32_2 rfl).trans <|
    r_call (j := 19) (a := [.ref r0, .int 0, .int 2]) (S' := []) rfl rfl rfl rfl rfl rfl rfl
theorem b_Pa_takeBodyHead_19 {d : Nat} (s0 : Int32) (r0 : Nat) (h : AH) (Q : Option Value → AH → Prop) : Wp d P_Pa_takeBodyHead 19 [.ref r0, .null] [.int s0] h Q ↔ Cl d q_Pa_takeSign [.ref r0, .int 61] h (fun r h' => Wp d P_Pa_takeBodyHead 23 [.ref r0, .int s0] (r.toList ++ []) h' Q) :=
    (r_go (j := 20) (L' := [.ref r0, .int s0]) (S' := []) (h' := h) rfl rfl rfl rfl).trans <|
    (r_go (j := 21) (L' := [.ref r0, .int s0]) (S' := [.ref r0]) (h' := h) rfl rfl rfl rfl).trans <|
    (r_bipush (j := 22) (x := 61) rfl i32_61 rfl).trans <|
    r_call (j := 23) (a := [.ref r0, .int 61]) (S' := []) rfl rfl rfl rfl rfl rfl rfl
theorem b_Pa_takeBodyHead_23 {d : Nat} (x1 : Int32) (r0 : Nat) (h : AH) (Q : Option Value → AH → Prop) : Wp d P_Pa_takeBodyHead 23 [.ref r0, .int x1] [] h Q ↔ Q (some (.int x1)) h :=
    (r_go (j := 24) (L' := [.ref r0, .int x1]) (S' := [.int x1]) (h' := h) rfl rfl rfl rfl).trans <|
    r_ret rfl rfl rfl
theorem e_Pa_takeBodyHead {d : Nat} (r0 : Nat) (h : AH) (Q : Option Value → AH → Prop) : Cl (d + 1) q_Pa_takeBodyHead [.ref r0] h Q ↔ hK h r0 = 2 ∧ Wp d P_Pa_takeBodyHead 0 [.ref r0, .null] [] h (fun r h' => rtk (some .int) r = true ∧ Q r h') :=
    (Cl_method (t := m_Pa_takeBodyHead) rfl).trans (and_congr_left fun _ => decide_eq_true_iff)
/-! PenThatJumps$Parser.takeReaderHead()I -/
theorem b_Pa_takeReaderHead_0 {d : Nat} (r0 : Nat) (h : AH) (Q : Option Value → AH → Prop) : Wp d P_Pa_takeReaderHead 0 [.ref r0] [] h Q ↔ (hK h r0 = 2) ∧ ((hK h (hR h r0 2) = 6) ∧ (((hI h (hR h r0 2) 2) < 6 → Wp d P_Pa_takeReaderHead 12 [.ref r0] [] h Q) ∧ (¬ ((hI h (hR h r0 2) 2) < 6) → Wp d P_Pa_takeReaderHead 5 [.ref r0] [] h Q))) :=
    (r_go (j := 1) (L' := [.ref r0]) (S' := [.ref r0]) (h' := h) rfl rfl rfl rfl).trans <|
    (r_guard (j := 2) (L' := [.ref r0]) (S' := [.ref (hR h r0 2)]) (h' := h) (p := hK h r0 = 2) rfl rfl rfl rfl (decide_eq_true_iff)).trans <| and_r <|
    (r_guard (j := 3) (L' := [.ref r0]) (S' := [.int (hI h (hR h r0 2) 2)]) (h' := h) (p := hK h (hR h r0 2) = 6) rfl rfl rfl rfl (decide_eq_true_iff)).trans <| and_r <|
    (r_bipush (j := 4) (x := 6) rfl i32_6 rfl).trans <|
    r_icmp (j := 5) rfl (cd_lt _ _) rfl
theorem b_Pa_takeReaderHead_5 {d : Nat} (r0 : Nat) (h : AH) (Q : Option Value → AH → Prop) : Wp d P_Pa_takeReaderHead 5 [.ref r0] [] h Q ↔ (hK h r0 = 2) ∧ ((2 ≤ (hR h r0 8) ∧ (hR h r0 8) ≤ 25 ∧ 2 ≤ 23 ∧ 23 ≤ 25) ∧ ((hR h r0 8) = 23 → Wp d P_Pa_takeReaderHead 9 [.ref r0] [] h Q) ∧ (¬ ((hR h r0 8) = 23) → Wp d P_Pa_takeReaderHead 12 [.ref r0] [] h Q)) :=
    (r_go (j := 6) (L' := [.ref r0]) (S' := [.ref r0]) (h' := h) rfl rfl rfl rfl).trans <|
    (r_guard (j := 7) (L' := [.ref r0]) (S' := [.ref (hR h r0 8)]) (h' := h) (p := hK h r0 = 2) rfl rfl rfl rfl (decide_eq_true_iff)).trans <| and_r <|
    (r_go (j := 8) (L' := [.ref r0]) (S' := [.ref 23, .ref (hR h r0 8)]) (h' := h) rfl rfl rfl rfl).trans <|
    r_acmp (j := 9) rfl rfl rfl 9 12 (Or.inr ⟨rfl, rfl, rfl⟩)
theorem b_Pa_takeReaderHead_9 {d : Nat} (r0 : Nat) (h : AH) (Q : Option Value → AH → Prop) : Wp d P_Pa_takeReaderHead 9 [.ref r0] [] h Q ↔ Cl d q_Pa_wrong [.ref r0, .int 5] h (fun r h' => Wp d P_Pa_takeReaderHead 12 [.ref r0] (r.toList ++ []) h' Q) :=
    (r_go (j := 10) (L' := [.ref r0]) (S' := [.ref r0]) (h' := h) rfl rfl rfl rfl).trans <|
    (r_iconst (j := 11) (x := 5) rfl i32_5 rfl).trans <|
    r_call (j := 12) (a := [.ref r0, .int 5]) (S' := []) rfl rfl rfl rfl rfl rfl rfl
theorem b_Pa_takeReaderHead_12 {d : Nat} (r0 : Nat) (h : AH) (Q : Option Value → AH → Prop) : Wp d P_Pa_takeReaderHead 12 [.ref r0] [] h Q ↔ Cl d q_Pa_takeWord [.ref r0, .ref 23] h (fun r h' => Wp d P_Pa_takeReaderHead 15 [.ref r0] (r.toList ++ []) h' Q) :=
    (r_go (j := 13) (L' := [.ref r0]) (S' := [.ref r0]) (h' := h) rfl rfl rfl rfl).trans <|
    (r_go (j := 14) (L' := [.ref r0]) (S' := [.ref 23, .ref r0]) (h' := h) rfl rfl rfl rfl).trans <|
    r_call (j := 15) (a := [.ref r0, .ref 23]) (S' := []) rfl rfl rfl rfl rfl rfl rfl
theorem b_Pa_takeReaderHead_15 {d : Nat} (r0 : Nat) (h : AH) (Q : Option Value → AH → Prop) : Wp d P_Pa_takeReaderHead 15 [.ref r0] [] h Q ↔ Cl d q_Pa_takeWord [.ref r0, .ref 24] h (fun r h' => Wp d P_Pa_takeReaderHead 18 [.ref r0] (r.toList ++ []) h' Q) :=
    (r_go (j := 16) (L' := [.ref r0]) (S' := [.ref r0]) (h' := h) rfl rfl rfl rfl).trans <|
    (r_go (j := 17) (L' := [.ref r0]) (S' := [.ref 24, .ref r0]) (h' := h) rfl rfl rfl rfl).trans <|
    r_call (j := 18) (a := [.ref r0, .ref 24]) (S' := []) rfl rfl rfl rfl rfl rfl rfl
theorem b_Pa_takeReaderHead_18 {d : Nat} (r0 : Nat) (h : AH) (Q : Option Value → AH → Prop) : Wp d P_Pa_takeReaderHead 18 [.ref r0] [] h Q ↔ (hK h r0 = 2) ∧ ((hK h (hR h r0 2) = 6) ∧ (Q (some (.int (hI h (hR h r0 2) 2))) h)) :=
    (r_go (j := 19) (L' := [.ref r0]) (S' := [.ref r0]) (h' := h) rfl rfl rfl rfl).trans <|
    (r_guard (j := 20) (L' := [.ref r0]) (S' := [.ref (hR h r0 2)]) (h' := h) (p := hK h r0 = 2) rfl rfl rfl rfl (decide_eq_true_iff)).trans <| and_r <|
    (r_guard (j := 21) (L' := [.ref r0]) (S' := [.int (hI h (hR h r0 2) 2)]) (h' := h) (p := hK h (hR h r0 2) = 6) rfl rfl rfl rfl (decide_eq_true_iff)).trans <| and_r <|
    r_ret rfl rfl rfl
theorem e_Pa_takeReaderHead {d : Nat} (r0 : Nat) (h : AH) (Q : Option Value → AH → Prop) : Cl (d + 1) q_Pa_takeReaderHead [.ref r0] h Q ↔ hK h r0 = 2 ∧ Wp d P_Pa_takeReaderHead 0 [.ref r0] [] h (fun r h' => rtk (some .int) r = true ∧ Q r h') :=
    (Cl_method (t := m_Pa_takeReaderHead) rfl).trans (and_congr_left fun _ => decide_eq_true_iff)
/-! PenThatJumps$Parser.takeLaw(I)V -/
theorem b_Pa_takeLaw_0 {d : Nat} (x1 : Int32) (r0 : Nat) (h : AH) (Q : Option Value → AH → Prop) : Wp d P_Pa_takeLaw 0 [.ref r0, .int x1] [] h Q ↔ (hK h r0 = 2) ∧ (Cl d q_Pg_opens [.ref (hR h r0 2), .int x1] h (fun r h' => Wp d P_Pa_takeLaw 4 [.ref r0, .int x1] (r.toList ++ []) h' Q)) :=
    (r_go (j := 1) (L' := [.ref r0, .int x1]) (S' := [.ref r0]) (h' := h) rfl rfl rfl rfl).trans <|
    (r_guard (j := 2) (L' := [.ref r0, .int x1]) (S' := [.ref (hR h r0 2)]) (h' := h) (p := hK h r0 = 2) rfl rfl rfl rfl (decide_eq_true_iff)).trans <| and_r <|
    (r_go (j := 3) (L' := [.ref r0, .int x1]) (S' := [.int x1, .ref (hR h r0 2)]) (h' := h) rfl rfl rfl rfl).trans <|
    r_call (j := 4) (a := [.ref (hR h r0 2), .int x1]) (S' := []) rfl rfl rfl rfl rfl rfl rfl
theorem b_Pa_takeLaw_4 {d : Nat} (x1 : Int32) (r0 : Nat) (h : AH) (Q : Option Value → AH → Prop) : Wp d P_Pa_takeLaw 4 [.ref r0, .int x1] [] h Q ↔ Cl d q_Pa_chain [.ref r0, .int 0, .int 0] h (fun r h' => Wp d P_Pa_takeLaw 8 [.ref r0, .int x1] (r.toList ++ []) h' Q) :=
    (r_go (j := 5) (L' := [.ref r0, .int x1]) (S' := [.ref r0]) (h' := h) rfl rfl rfl rfl).trans <|
    (r_iconst (j := 6) (x := 0) rfl i32_0 rfl).trans <|
    (r_iconst (j := 7) (x := 0) rfl i32_0 rfl).trans <|
    r_call (j := 8) (a := [.ref r0, .int 0, .int 0]) (S' := []) rfl rfl rfl rfl rfl rfl rfl
theorem b_Pa_takeLaw_8 {d : Nat} (x1 : Int32) (r0 : Nat) (h : AH) (Q : Option Value → AH → Prop) : Wp d P_Pa_takeLaw 8 [.ref r0, .int x1] [] h Q ↔ (hK h r0 = 2) ∧ (Cl d q_Pg_close [.ref (hR h r0 2), .int x1] h (fun r h' => Wp d P_Pa_takeLaw 12 [.ref r0, .int x1] (r.toList ++ []) h' Q)) :=
    (r_go (j := 9) (L' := [.ref r0, .int x1]) (S' := [.ref r0]) (h' := h) rfl rfl rfl rfl).trans <|
    (r_guard (j := 10) (L' := [.ref r0, .int x1]) (S' := [.ref (hR h r0 2)]) (h' := h) (p := hK h r0 = 2) rfl rfl rfl rfl (decide_eq_true_iff)).trans <| and_r <|
    (r_go (j := 11) (L' := [.ref r0, .int x1]) (S' := [.int x1, .ref (hR h r0 2)]) (h' := h) rfl rfl rfl rfl).trans <|
    r_call (j := 12) (a := [.ref (hR h r0 2), .int x1]) (S' := []) rfl rfl rfl rfl rfl rfl rfl
theorem b_Pa_takeLaw_12 {d : Nat} (x1 : Int32) (r0 : Nat) (h : AH) (Q : Option Value → AH → Prop) : Wp d P_Pa_takeLaw 12 [.ref r0, .int x1] [] h Q ↔ Cl d q_Pa_takeSign [.ref r0, .int 59] h (fun r h' => Wp d P_Pa_takeLaw 15 [.ref r0, .int x1] (r.toList ++ []) h' Q) :=
    (r_go (j := 13) (L' := [.ref r0, .int x1]) (S' := [.ref r0]) (h' := h) rfl rfl rfl rfl).trans <|
    (r_bipush (j := 14) (x := 59) rfl i32_59 rfl).trans <|
    r_call (j := 15) (a := [.ref r0, .int 59]) (S' := []) rfl rfl rfl rfl rfl rfl rfl
theorem b_Pa_takeLaw_15 {d : Nat} (x1 : Int32) (r0 : Nat) (h : AH) (Q : Option Value → AH → Prop) : Wp d P_Pa_takeLaw 15 [.ref r0, .int x1] [] h Q ↔ Q (none) h :=
    r_ret rfl rfl rfl
theorem e_Pa_takeLaw {d : Nat} (x1 : Int32) (r0 : Nat) (h : AH) (Q : Option Value → AH → Prop) : Cl (d + 1) q_Pa_takeLaw [.ref r0, .int x1] h Q ↔ hK h r0 = 2 ∧ Wp d P_Pa_takeLaw 0 [.ref r0, .int x1] [] h (fun r h' => rtk (none) r = true ∧ Q r h') :=
    (Cl_method (t := m_Pa_takeLaw) rfl).trans (and_congr_left fun _ => decide_eq_true_iff)
/-! PenThatJumps$Parser.isNumber()Z -/
theorem b_Pa_isNumber_0 {d : Nat} (r0 : Nat) (h : AH) (Q : Option Value → AH → Prop) : Wp d P_Pa_isNumber 0 [.ref r0] [] h Q ↔ (hK h r0 = 2) ∧ (((hI h r0 6) < 0 → Wp d P_Pa_isNumber 9 [.ref r0] [] h Q) ∧ (¬ ((hI h r0 6) < 0) → Wp d P_Pa_isNumber 3 [.ref r0] [] h Q)) :=
    (r_go (j := 1) (L' := [.ref r0]) (S' := [.ref r0]) (h' := h) rfl rfl rfl rfl).trans <|
    (r_guard (j := 2) (L' := [.ref r0]) (S' := [.int (hI h r0 6)]) (h' := h) (p := hK h r0 = 2) rfl rfl rfl rfl (decide_eq_true_iff)).trans <| and_r <|
    r_if (j := 3) rfl (cd_lt _ _) rfl
theorem b_Pa_isNumber_3 {d : Nat} (r0 : Nat) (h : AH) (Q : Option Value → AH → Prop) : Wp d P_Pa_isNumber 3 [.ref r0] [] h Q ↔ (hK h r0 = 2) ∧ ((10000 ≤ (hI h r0 6) → Wp d P_Pa_isNumber 9 [.ref r0] [] h Q) ∧ (¬ (10000 ≤ (hI h r0 6)) → Wp d P_Pa_isNumber 7 [.ref r0] [] h Q)) :=
    (r_go (j := 4) (L' := [.ref r0]) (S' := [.ref r0]) (h' := h) rfl rfl rfl rfl).trans <|
    (r_guard (j := 5) (L' := [.ref r0]) (S' := [.int (hI h r0 6)]) (h' := h) (p := hK h r0 = 2) rfl rfl rfl rfl (decide_eq_true_iff)).trans <| and_r <|
    (r_sipush (j := 6) (x := 10000) rfl i32_10000 rfl).trans <|
    r_icmp (j := 7) rfl (cd_ge _ _) rfl
theorem b_Pa_isNumber_7 {d : Nat} (r0 : Nat) (h : AH) (Q : Option Value → AH → Prop) : Wp d P_Pa_isNumber 7 [.ref r0] [] h Q ↔ Wp d P_Pa_isNumber 10 [.ref r0] [.int 1] h Q :=
    (r_iconst (j := 8) (x := 1) rfl i32_1 rfl).trans <|
    r_go (j := 10) (L' := [.ref r0]) (S' := [.int 1]) (h' := h) rfl rfl rfl rfl
theorem b_Pa_isNumber_9 {d : Nat} (r0 : Nat) (h : AH) (Q : Option Value → AH → Prop) : Wp d P_Pa_isNumber 9 [.ref r0] [] h Q ↔ Wp d P_Pa_isNumber 10 [.ref r0] [.int 0] h Q :=
    r_iconst (j := 10) (x := 0) rfl i32_0 rfl
theorem b_Pa_isNumber_10 {d : Nat} (s0 : Int32) (r0 : Nat) (h : AH) (Q : Option Value → AH → Prop) : Wp d P_Pa_isNumber 10 [.ref r0] [.int s0] h Q ↔ Q (some (.int s0)) h :=
    r_ret rfl rfl rfl
theorem e_Pa_isNumber {d : Nat} (r0 : Nat) (h : AH) (Q : Option Value → AH → Prop) : Cl (d + 1) q_Pa_isNumber [.ref r0] h Q ↔ hK h r0 = 2 ∧ Wp d P_Pa_isNumber 0 [.ref r0] [] h (fun r h' => rtk (some .boolean) r = true ∧ Q r h') :=
    (Cl_method (t := m_Pa_isNumber) rfl).trans (and_congr_left fun _ => decide_eq_true_iff)
/-! PenThatJumps$Parser.isSign(C)Z -/
theorem b_Pa_isSign_0 {d : Nat} (x1 : Int32) (r0 : Nat) (h : AH) (Q : Option Value → AH → Prop) : Wp d P_Pa_isSign 0 [.ref r0, .int x1] [] h Q ↔ (hK h r0 = 2) ∧ ((¬ (hI h r0 6) = (11000 + x1) → Wp d P_Pa_isSign 8 [.ref r0, .int x1] [] h Q) ∧ (¬ (¬ (hI h r0 6) = (11000 + x1)) → Wp d P_Pa_isSign 6 [.ref r0, .int x1] [] h Q)) :=
    (r_go (j := 1) (L' := [.ref r0, .int x1]) (S' := [.ref r0]) (h' := h) rfl rfl rfl rfl).trans <|
    (r_guard (j := 2) (L' := [.ref r0, .int x1]) (S' := [.int (hI h r0 6)]) (h' := h) (p := hK h r0 = 2) rfl rfl rfl rfl (decide_eq_true_iff)).trans <| and_r <|
    (r_sipush (j := 3) (x := 11000) rfl i32_11000 rfl).trans <|
    (r_go (j := 4) (L' := [.ref r0, .int x1]) (S' := [.int x1, .int 11000, .int (hI h r0 6)]) (h' := h) rfl rfl rfl rfl).trans <|
    (r_go (j := 5) (L' := [.ref r0, .int x1]) (S' := [.int (11000 + x1), .int (hI h r0 6)]) (h' := h) rfl rfl rfl rfl).trans <|
    r_icmp (j := 6) rfl (cd_ne _ _) rfl
theorem b_Pa_isSign_6 {d : Nat} (x1 : Int32) (r0 : Nat) (h : AH) (Q : Option Value → AH → Prop) : Wp d P_Pa_isSign 6 [.ref r0, .int x1] [] h Q ↔ Wp d P_Pa_isSign 9 [.ref r0, .int x1] [.int 1] h Q :=
    (r_iconst (j := 7) (x := 1) rfl i32_1 rfl).trans <|
    r_go (j := 9) (L' := [.ref r0, .int x1]) (S' := [.int 1]) (h' := h) rfl rfl rfl rfl
theorem b_Pa_isSign_8 {d : Nat} (x1 : Int32) (r0 : Nat) (h : AH) (Q : Option Value → AH → Prop) : Wp d P_Pa_isSign 8 [.ref r0, .int x1] [] h Q ↔ Wp d P_Pa_isSign 9 [.ref r0, .int x1] [.int 0] h Q :=
    r_iconst (j := 9) (x := 0) rfl i32_0 rfl
theorem b_Pa_isSign_9 {d : Nat} (x1 s0 : Int32) (r0 : Nat) (h : AH) (Q : Option Value → AH → Prop) : Wp d P_Pa_isSign 9 [.ref r0, .int x1] [.int s0] h Q ↔ Q (some (.int s0)) h :=
    r_ret rfl rfl rfl
theorem e_Pa_isSign {d : Nat} (x1 : Int32) (r0 : Nat) (h : AH) (Q : Option Value → AH → Prop) : Cl (d + 1) q_Pa_isSign [.ref r0, .int x1] h Q ↔ hK h r0 = 2 ∧ Wp d P_Pa_isSign 0 [.ref r0, .int x1] [] h (fun r h' => rtk (some .boolean) r = true ∧ Q r h') :=
    (Cl_method (t := m_Pa_isSign) rfl).trans (and_congr_left fun _ => decide_eq_true_iff)
/-! PenThatJumps$Parser.takeWord(LPenThatJumps$Word;)V -/
theorem b_Pa_takeWord_0 {d : Nat} (r0 r1 : Nat) (h : AH) (Q : Option Value → AH → Prop) : Wp d P_Pa_takeWord 0 [.ref r0, .ref r1] [] h Q ↔ (hK h r0 = 2) ∧ ((2 ≤ (hR h r0 8) ∧ (hR h r0 8) ≤ 25 ∧ 2 ≤ r1 ∧ r1 ≤ 25) ∧ ((hR h r0 8) = r1 → Wp d P_Pa_takeWord 7 [.ref r0, .ref r1] [] h Q) ∧ (¬ ((hR h r0 8) = r1) → Wp d P_Pa_takeWord 4 [.ref r0, .ref r1] [] h Q)) :=
    (r_go (j := 1) (L' := [.ref r0, .ref r1]) (S' := [.ref r0]) (h' := h) rfl rfl rfl rfl).trans <|
    (r_guard (j := 2) (L' := [.ref r0, .ref r1]) (S' := [.ref (hR h r0 8)]) (h' := h) (p := hK h r0 = 2) rfl rfl rfl rfl (decide_eq_true_iff)).trans <| and_r <|
    (r_go (j := 3) (L' := [.ref r0, .ref r1]) (S' := [.ref r1, .ref (hR h r0 8)]) (h' := h) rfl rfl rfl rfl).trans <|
    r_acmp (j := 4) rfl rfl rfl 7 4 (Or.inl ⟨rfl, rfl, rfl⟩)
theorem b_Pa_takeWord_4 {d : Nat} (r0 r1 : Nat) (h : AH) (Q : Option Value → AH → Prop) : Wp d P_Pa_takeWord 4 [.ref r0, .ref r1] [] h Q ↔ Cl d q_Pa_wrong [.ref r0, .int 1] h (fun r h' => Wp d P_Pa_takeWord 7 [.ref r0, .ref r1] (r.toList ++ []) h' Q) :=
    (r_go (j := 5) (L' := [.ref r0, .ref r1]) (S' := [.ref r0]) (h' := h) rfl rfl rfl rfl).trans <|
    (r_iconst (j := 6) (x := 1) rfl i32_1 rfl).trans <|
    r_call (j := 7) (a := [.ref r0, .int 1]) (S' := []) rfl rfl rfl rfl rfl rfl rfl
theorem b_Pa_takeWord_7 {d : Nat} (r0 r1 : Nat) (h : AH) (Q : Option Value → AH → Prop) : Wp d P_Pa_takeWord 7 [.ref r0, .ref r1] [] h Q ↔ (hK h r0 = 2) ∧ ((¬ (hI h r0 4) = 0 → Wp d P_Pa_takeWord 12 [.ref r0, .ref r1] [] h Q) ∧ (¬ (¬ (hI h r0 4) = 0) → Wp d P_Pa_takeWord 10 [.ref r0, .ref r1] [] h Q)) :=
    (r_go (j := 8) (L' := [.ref r0, .ref r1]) (S' := [.ref r0]) (h' := h) rfl rfl rfl rfl).trans <|
    (r_guard (j := 9) (L' := [.ref r0, .ref r1]) (S' := [.int (hI h r0 4)]) (h' := h) (p := hK h r0 = 2) rfl rfl rfl rfl (decide_eq_true_iff)).trans <| and_r <|
    r_if (j := 10) rfl (cd_ne _ _) rfl
theorem b_Pa_takeWord_10 {d : Nat} (r0 r1 : Nat) (h : AH) (Q : Option Value → AH → Prop) : Wp d P_Pa_takeWord 10 [.ref r0, .ref r1] [] h Q ↔ Cl d q_Pa_next [.ref r0] h (fun r h' => Wp d P_Pa_takeWord 12 [.ref r0, .ref r1] (r.toList ++ []) h' Q) :=
    (r_go (j := 11) (L' := [.ref r0, .ref r1]) (S' := [.ref r0]) (h' := h) rfl rfl rfl rfl).trans <|
    r_call (j := 12) (a := [.ref r0]) (S' := []) rfl rfl rfl rfl rfl rfl rfl
theorem b_Pa_takeWord_12 {d : Nat} (r0 r1 : Nat) (h : AH) (Q : Option Value → AH → Prop) : Wp d P_Pa_takeWord 12 [.ref r0, .ref r1] [] h Q ↔ Q (none) h :=
    r_ret rfl rfl rfl
theorem e_Pa_takeWord {d : Nat} (r0 r1 : Nat) (h : AH) (Q : Option Value → AH → Prop) : Cl (d + 1) q_Pa_takeWord [.ref r0, .ref r1] h Q ↔ hK h r0 = 2 ∧ Wp d P_Pa_takeWord 0 [.ref r0, .ref r1] [] h (fun r h' => rtk (none) r = true ∧ Q r h') :=
    (Cl_method (t := m_Pa_takeWord) rfl).trans (and_congr_left fun _ => decide_eq_true_iff)
/-! PenThatJumps$Parser.takeSign(C)V -/
theorem b_Pa_takeSign_0 {d : Nat} (x1 : Int32) (r0 : Nat) (h : AH) (Q : Option Value → AH → Prop) : Wp d P_Pa_takeSign 0 [.ref r0, .int x1] [] h Q ↔ Cl d q_Pa_isSign [.ref r0, .int x1] h (fun r h' => Wp d P_Pa_takeSign 3 [.ref r0, .int x1] (r.toList ++ []) h' Q) :=
    (r_go (j := 1) (L' := [.ref r0, .int x1]) (S' := [.ref r0]) (h' := h) rfl rfl rfl rfl).trans <|
    (r_go (j := 2) (L' := [.ref r0, .int x1]) (S' := [.int x1, .ref r0]) (h' := h) rfl rfl rfl rfl).trans <|
    r_call (j := 3) (a := [.ref r0, .int x1]) (S' := []) rfl rfl rfl rfl rfl rfl rfl
theorem b_Pa_takeSign_3 {d : Nat} (x1 s0 : Int32) (r0 : Nat) (h : AH) (Q : Option Value → AH → Prop) : Wp d P_Pa_takeSign 3 [.ref r0, .int x1] [.int s0] h Q ↔ (¬ s0 = 0 → Wp d P_Pa_takeSign 7 [.ref r0, .int x1] [] h Q) ∧ (¬ (¬ s0 = 0) → Wp d P_Pa_takeSign 4 [.ref r0, .int x1] [] h Q) :=
    r_if (j := 4) rfl (cd_ne _ _) rfl
theorem b_Pa_takeSign_4 {d : Nat} (x1 : Int32) (r0 : Nat) (h : AH) (Q : Option Value → AH → Prop) : Wp d P_Pa_takeSign 4 [.ref r0, .int x1] [] h Q ↔ Cl d q_Pa_wrong [.ref r0, .int 1] h (fun r h' => Wp d P_Pa_takeSign 7 [.ref r0, .int x1] (r.toList ++ []) h' Q) :=
    (r_go (j := 5) (L' := [.ref r0, .int x1]) (S' := [.ref r0]) (h' := h) rfl rfl rfl rfl).trans <|
    (r_iconst (j := 6) (x := 1) rfl i32_1 rfl).trans <|
    r_call (j := 7) (a := [.ref r0, .int 1]) (S' := []) rfl rfl rfl rfl rfl rfl rfl
theorem b_Pa_takeSign_7 {d : Nat} (x1 : Int32) (r0 : Nat) (h : AH) (Q : Option Value → AH → Prop) : Wp d P_Pa_takeSign 7 [.ref r0, .int x1] [] h Q ↔ (hK h r0 = 2) ∧ ((¬ (hI h r0 4) = 0 → Wp d P_Pa_takeSign 12 [.ref r0, .int x1] [] h Q) ∧ (¬ (¬ (hI h r0 4) = 0) → Wp d P_Pa_takeSign 10 [.ref r0, .int x1] [] h Q)) :=
    (r_go (j := 8) (L' := [.ref r0, .int x1]) (S' := [.ref r0]) (h' := h) rfl rfl rfl rfl).trans <|
    (r_guard (j := 9) (L' := [.ref r0, .int x1]) (S' := [.int (hI h r0 4)]) (h' := h) (p := hK h r0 = 2) rfl rfl rfl rfl (decide_eq_true_iff)).trans <| and_r <|
    r_if (j := 10) rfl (cd_ne _ _) rfl
theorem b_Pa_takeSign_10 {d : Nat} (x1 : Int32) (r0 : Nat) (h : AH) (Q : Option Value → AH → Prop) : Wp d P_Pa_takeSign 10 [.ref r0, .int x1] [] h Q ↔ Cl d q_Pa_next [.ref r0] h (fun r h' => Wp d P_Pa_takeSign 12 [.ref r0, .int x1] (r.toList ++ []) h' Q) :=
    (r_go (j := 11) (L' := [.ref r0, .int x1]) (S' := [.ref r0]) (h' := h) rfl rfl rfl rfl).trans <|
    r_call (j := 12) (a := [.ref r0]) (S' := []) rfl rfl rfl rfl rfl rfl rfl
theorem b_Pa_takeSign_12 {d : Nat} (x1 : Int32) (r0 : Nat) (h : AH) (Q : Option Value → AH → Prop) : Wp d P_Pa_takeSign 12 [.ref r0, .int x1] [] h Q ↔ Q (none) h :=
    r_ret rfl rfl rfl
theorem e_Pa_takeSign {d : Nat} (x1 : Int32) (r0 : Nat) (h : AH) (Q : Option Value → AH → Prop) : Cl (d + 1) q_Pa_takeSign [.ref r0, .int x1] h Q ↔ hK h r0 = 2 ∧ Wp d P_Pa_takeSign 0 [.ref r0, .int x1] [] h (fun r h' => rtk (none) r = true ∧ Q r h') :=
    (Cl_method (t := m_Pa_takeSign) rfl).trans (and_congr_left fun _ => decide_eq_true_iff)
/-! PenThatJumps$Parser.takeNumber(II)I -/
theorem b_Pa_takeNumber_0 {d : Nat} (x1 x2 : Int32) (r0 : Nat) (h : AH) (Q : Option Value → AH → Prop) : Wp d P_Pa_takeNumber 0 [.ref r0, .int x1, .int x2, .null] [] h Q ↔ (hK h r0 = 2) ∧ (Cl d q_Pa_isNumber [.ref r0] h (fun r h' => Wp d P_Pa_takeNumber 5 [.ref r0, .int x1, .int x2, .int (hI h r0 6)] (r.toList ++ []) h' Q)) :=
    (r_go (j := 1) (L' := [.ref r0, .int x1, .int x2, .null]) (S' := [.ref r0]) (h' := h) rfl rfl rfl rfl).trans <|
    (r_guard (j := 2) (L' := [.ref r0, .int x1, .int x2, .null]) (S' := [.int (hI h r0 6)]) (h' := h) (p := hK h r0 = 2) rfl rfl rfl rfl (decide_eq_true_iff)).trans <| and_r <|
    (r_go (j := 3) (L' := [.ref r0, .int x1, .int x2, .int (hI h r0 6)]) (S' := []) (h' := h) rfl rfl rfl rfl).trans <|
    (r_go (j := 4) (L' := [.ref r0, .int x1, .int x2, .int (hI h r0 6)]) (S' := [.ref r0]) (h' := h) rfl rfl rfl rfl).trans <|
    r_call (j := 5) (a := [.ref r0]) (S' := []) rfl rfl rfl rfl rfl rfl rfl
theorem b_Pa_takeNumber_5 {d : Nat} (x1 x2 x3 s0 : Int32) (r0 : Nat) (h : AH) (Q : Option Value → AH → Prop) : Wp d P_Pa_takeNumber 5 [.ref r0, .int x1, .int x2, .int x3] [.int s0] h Q ↔ (¬ s0 = 0 → Wp d P_Pa_takeNumber 10 [.ref r0, .int x1, .int x2, .int x3] [] h Q) ∧ (¬ (¬ s0 = 0) → Wp d P_Pa_takeNumber 6 [.ref r0, .int x1, .int x2, .int x3] [] h Q) :=
    r_if (j := 6) rfl (cd_ne _ _) rfl
theorem b_Pa_takeNumber_6 {d : Nat} (x1 x2 x3 : Int32) (r0 : Nat) (h : AH) (Q : Option Value → AH → Prop) : Wp d P_Pa_takeNumber 6 [.ref r0, .int x1, .int x2, .int x3] [] h Q ↔ Cl d q_Pa_wrong [.ref r0, .int 1] h (fun r h' => Wp d P_Pa_takeNumber 9 [.ref r0, .int x1, .int x2, .int x3] (r.toList ++ []) h' Q) :=
    (r_go (j := 7) (L' := [.ref r0, .int x1, .int x2, .int x3]) (S' := [.ref r0]) (h' := h) rfl rfl rfl rfl).trans <|
    (r_iconst (j := 8) (x := 1) rfl i32_1 rfl).trans <|
    r_call (j := 9) (a := [.ref r0, .int 1]) (S' := []) rfl rfl rfl rfl rfl rfl rfl
theorem b_Pa_takeNumber_9 {d : Nat} (x1 x2 x3 : Int32) (r0 : Nat) (h : AH) (Q : Option Value → AH → Prop) : Wp d P_Pa_takeNumber 9 [.ref r0, .int x1, .int x2, .int x3] [] h Q ↔ Wp d P_Pa_takeNumber 18 [.ref r0, .int x1, .int x2, .int x3] [] h Q :=
    r_go (j := 18) (L' := [.ref r0, .int x1, .int x2, .int x3]) (S' := []) (h' := h) rfl rfl rfl rfl
theorem b_Pa_takeNumber_10 {d : Nat} (x1 x2 x3 : Int32) (r0 : Nat) (h : AH) (Q : Option Value → AH → Prop) : Wp d P_Pa_takeNumber 10 [.ref r0, .int x1, .int x2, .int x3] [] h Q ↔ Cl d q_X_within [.int x3, .int x1, .int x2] h (fun r h' => Wp d P_Pa_takeNumber 14 [.ref r0, .int x1, .int x2, .int x3] (r.toList ++ []) h' Q) :=
    (r_go (j := 11) (L' := [.ref r0, .int x1, .int x2, .int x3]) (S' := [.int x3]) (h' := h) rfl rfl rfl rfl).trans <|
    (r_go (j := 12) (L' := [.ref r0, .int x1, .int x2, .int x3]) (S' := [.int x1, .int x3]) (h' := h) rfl rfl rfl rfl).trans <|
    (r_go (j := 13) (L' := [.ref r0, .int x1, .int x2, .int x3]) (S' := [.int x2, .int x1, .int x3]) (h' := h) rfl rfl rfl rfl).trans <|
    r_call (j := 14) (a := [.int x3, .int x1, .int x2]) (S' := []) rfl rfl rfl rfl rfl rfl rfl
theorem b_Pa_takeNumber_14 {d : Nat} (x1 x2 x3 s0 : Int32) (r0 : Nat) (h : AH) (Q : Option Value → AH → Prop) : Wp d P_Pa_takeNumber 14 [.ref r0, .int x1, .int x2, .int x3] [.int s0] h Q ↔ (¬ s0 = 0 → Wp d P_Pa_takeNumber 18 [.ref r0, .int x1, .int x2, .int x3] [] h Q) ∧ (¬ (¬ s0 = 0) → Wp d P_Pa_takeNumber 15 [.ref r0, .int x1, .int x2, .int x3] [] h Q) :=
    r_if (j := 15) rfl (cd_ne _ _) rfl
theorem b_Pa_takeNumber_15 {d : Nat} (x1 x2 x3 : Int32) (r0 : Nat) (h : AH) (Q : Option Value → AH → Prop) : Wp d P_Pa_takeNumber 15 [.ref r0, .int x1, .int x2, .int x3] [] h Q ↔ Cl d q_Pa_wrong [.ref r0, .int 4] h (fun r h' => Wp d P_Pa_takeNumber 18 [.ref r0, .int x1, .int x2, .int x3] (r.toList ++ []) h' Q) :=
    (r_go (j := 16) (L' := [.ref r0, .int x1, .int x2, .int x3]) (S' := [.ref r0]) (h' := h) rfl rfl rfl rfl).trans <|
    (r_iconst (j := 17) (x := 4) rfl i32_4 rfl).trans <|
    r_call (j := 18) (a := [.ref r0, .int 4]) (S' := []) rfl rfl rfl rfl rfl rfl rfl
theorem b_Pa_takeNumber_18 {d : Nat} (x1 x2 x3 : Int32) (r0 : Nat) (h : AH) (Q : Option Value → AH → Prop) : Wp d P_Pa_takeNumber 18 [.ref r0, .int x1, .int x2, .int x3] [] h Q ↔ (hK h r0 = 2) ∧ (((hI h r0 4) = 0 → Wp d P_Pa_takeNumber 23 [.ref r0, .int x1, .int x2, .int x3] [] h Q) ∧ (¬ ((hI h r0 4) = 0) → Wp d P_Pa_takeNumber 21 [.ref r0, .int x1, .int x2, .int x3] [] h Q)) :=
    (r_go (j := 19) (L' := [.ref r0, .int x1, .int x2, .int x3]) (S' := [.ref r0]) (h' := h) rfl rfl rfl rfl).trans <|
    (r_guard (j := 20) (L' := [.ref r0, .int x1, .int x2, .int x3]) (S' := [.int (hI h r0 4)]) (h' := h) (p := hK h r0 = 2) rfl rfl rfl rfl (decide_eq_true_iff)).trans <| and_r <|
    r_if (j := 21) rfl (cd_eq _ _) rfl
theorem b_Pa_takeNumber_21 {d : Nat} (x1 x2 x3 : Int32) (r0 : Nat) (h : AH) (Q : Option Value → AH → Prop) : Wp d P_Pa_takeNumber 21 [.ref r0, .int x1, .int x2, .int x3] [] h Q ↔ Q (some (.int x1)) h :=
    (r_go (j := 22) (L' := [.ref r0, .int x1, .int x2, .int x3]) (S' := [.int x1]) (h' := h) rfl rfl rfl rfl).trans <|
    r_ret rfl rfl rfl
theorem b_Pa_takeNumber_23 {d : Nat} (x1 x2 x3 : Int32) (r0 : Nat) (h : AH) (Q : Option Value → AH → Prop) : Wp d P_Pa_takeNumber 23 [.ref r0, .int x1, .int x2, .int x3] [] h Q ↔ Cl d q_Pa_next [.ref r0] h (fun r h' => Wp d P_Pa_takeNumber 25 [.ref r0, .int x1, .int x2, .int x3] (r.toList ++ []) h' Q) :=
    (r_go (j := 24) (L' := [.ref r0, .int x1, .int x2, .int x3]) (S' := [.ref r0]) (h' := h) rfl rfl rfl rfl).trans <|
    r_call (j := 25) (a := [.ref r0]) (S' := []) rfl rfl rfl rfl rfl rfl rfl
theorem b_Pa_takeNumber_25 {d : Nat} (x1 x2 x3 : Int32) (r0 : Nat) (h : AH) (Q : Option Value → AH → Prop) : Wp d P_Pa_takeNumber 25 [.ref r0, .int x1, .int x2, .int x3] [] h Q ↔ Q (some (.int x3)) h :=
    (r_go (j := 26) (L' := [.ref r0, .int x1, .int x2, .int x3]) (S' := [.int x3]) (h' := h) rfl rfl rfl rfl).trans <|
    r_ret rfl rfl rfl
theorem e_Pa_takeNumber {d : Nat} (x1 x2 : Int32) (r0 : Nat) (h : AH) (Q : Option Value → AH → Prop) : Cl (d + 1) q_Pa_takeNumber [.ref r0, .int x1, .int x2] h Q ↔ hK h r0 = 2 ∧ Wp d P_Pa_takeNumber 0 [.ref r0, .int x1, .int x2, .null] [] h (fun r h' => rtk (some .int) r = true ∧ Q r h') :=
    (Cl_method (t := m_Pa_takeNumber) rfl).trans (and_congr_left fun _ => decide_eq_true_iff)
/-! PenThatJumps$Parser.chain(II)V -/
theorem b_Pa_chain_0 {d : Nat} (x1 x2 : Int32) (r0 : Nat) (h : AH) (Q : Option Value → AH → Prop) : Wp d P_Pa_chain 0 [.ref r0, .int x1, .int x2, .null, .null, .null] [] h Q ↔ (x1 < 4 → Wp d P_Pa_chain 7 [.ref r0, .int x1, .int x2, .null, .null, .null] [] h Q) ∧ (¬ (x1 < 4) → Wp d P_Pa_chain 3 [.ref r0, .int x1, .int x2, .null, .null, .null] [] h Q) :=
    (r_go (j := 1) (L' := [.ref r0, .int x1, .int x2, .null, .null, .null]) (S' := [.int x1]) (h' := h) rfl rfl rfl rfl).trans <|
    (r_iconst (j := 2) (x := 4) rfl i32_4 rfl).trans <|
    r_icmp (j := 3) rfl (cd_lt _ _) rfl
theorem b_Pa_chain_3 {d : Nat} (x1 x2 : Int32) (r0 : Nat) (h : AH) (Q : Option Value → AH → Prop) : Wp d P_Pa_chain 3 [.ref r0, .int x1, .int x2, .null, .null, .null] [] h Q ↔ Cl d q_Pa_takePart [.ref r0, .int x2] h (fun r h' => Wp d P_Pa_chain 6 [.ref r0, .int x1, .int x2, .null, .null, .null] (r.toList ++ []) h' Q) :=
    (r_go (j := 4) (L' := [.ref r0, .int x1, .int x2, .null, .null, .null]) (S' := [.ref r0]) (h' := h) rfl rfl rfl rfl).trans <|
    (r_go (j := 5) (L' := [.ref r0, .int x1, .int x2, .null, .null, .null]) (S' := [.int x2, .ref r0]) (h' := h) rfl rfl rfl rfl).trans <|
    r_call (j := 6) (a := [.ref r0, .int x2]) (S' := []) rfl rfl rfl rfl rfl rfl rfl
theorem b_Pa_chain_6 {d : Nat} (x1 x2 : Int32) (r0 : Nat) (h : AH) (Q : Option Value → AH → Prop) : Wp d P_Pa_chain 6 [.ref r0, .int x1, .int x2, .null, .null, .null] [] h Q ↔ Q (none) h :=
    r_ret rfl rfl rfl
theorem b_Pa_chain_7 {d : Nat} (x1 x2 : Int32) (r0 : Nat) (h : AH) (Q : Option Value → AH → Prop) : Wp d P_Pa_chain 7 [.ref r0, .int x1, .int x2, .null, .null, .null] [] h Q ↔ Cl d q_Pa_chain [.ref r0, .int (x1 + 1), .int x2] h (fun r h' => Wp d P_Pa_chain 13 [.ref r0, .int x1, .int x2, .null, .null, .null] (r.toList ++ []) h' Q) :=
    (r_go (j := 8) (L' := [.ref r0, .int x1, .int x2, .null, .null, .null]) (S' := [.ref r0]) (h' := h) rfl rfl rfl rfl).trans <|
    (r_go (j := 9) (L' := [.ref r0, .int x1, .int x2, .null, .null, .null]) (S' := [.int x1, .ref r0]) (h' := h) rfl rfl rfl rfl).trans <|
    (r_iconst (j := 10) (x := 1) rfl i32_1 rfl).trans <|
    (r_go (j := 11) (L' := [.ref r0, .int x1, .int x2, .null, .null, .null]) (S' := [.int (x1 + 1), .ref r0]) (h' := h) rfl rfl rfl rfl).trans <|
    (r_go (j := 12) (L' := [.ref r0, .int x1, .int x2, .null, .null, .null]) (S' := [.int x2, .int (x1 + 1), .ref r0]) (h' := h) rfl rfl rfl rfl).trans <|
    r_call (j := 13) (a := [.ref r0, .int (x1 + 1), .int x2]) (S' := []) rfl rfl rfl rfl rfl rfl rfl
theorem b_Pa_chain_13 {d : Nat} (x1 x2 : Int32) (r0 : Nat) (h : AH) (Q : Option Value → AH → Prop) : Wp d P_Pa_chain 13 [.ref r0, .int x1, .int x2, .null, .null, .null] [] h Q ↔ (¬ x1 = 1 → Wp d P_Pa_chain 18 [.ref r0, .int x1, .int x2, .null, .null, .null] [] h Q) ∧ (¬ (¬ x1 = 1) → Wp d P_Pa_chain 16 [.ref r0, .int x1, .int x2, .null, .null, .null] [] h Q) :=
    (r_go (j := 14) (L' := [.ref r0, .int x1, .int x2, .null, .null, .null]) (S' := [.int x1]) (h' := h) rfl rfl rfl rfl).trans <|
    (r_iconst (j := 15) (x := 1) rfl i32_1 rfl).trans <|
    r_icmp (j := 16) rfl (cd_ne _ _) rfl
theorem b_Pa_chain_16 {d : Nat} (x1 x2 : Int32) (r0 : Nat) (h : AH) (Q : Option Value → AH → Prop) : Wp d P_Pa_chain 16 [.ref r0, .int x1, .int x2, .null, .null, .null] [] h Q ↔ Wp d P_Pa_chain 19 [.ref r0, .int x1, .int x2, .null, .null, .null] [.int 1] h Q :=
    (r_iconst (j := 17) (x := 1) rfl i32_1 rfl).trans <|
    r_go (j := 19) (L' := [.ref r0, .int x1, .int x2, .null, .null, .null]) (S' := [.int 1]) (h' := h) rfl rfl rfl rfl
theorem b_Pa_chain_18 {d : Nat} (x1 x2 : Int32) (r0 : Nat) (h : AH) (Q : Option Value → AH → Prop) : Wp d P_Pa_chain 18 [.ref r0, .int x1, .int x2, .null, .null, .null] [] h Q ↔ Wp d P_Pa_chain 19 [.ref r0, .int x1, .int x2, .null, .null, .null] [.int 1000] h Q :=
    r_sipush (j := 19) (x := 1000) rfl i32_1000 rfl
theorem b_Pa_chain_19 {d : Nat} (x1 x2 s0 : Int32) (r0 : Nat) (h : AH) (Q : Option Value → AH → Prop) : Wp d P_Pa_chain 19 [.ref r0, .int x1, .int x2, .null, .null, .null] [.int s0] h Q ↔ Wp d P_Pa_chain 22 [.ref r0, .int x1, .int x2, .int s0, .int 0, .null] [] h Q :=
    (r_go (j := 20) (L' := [.ref r0, .int x1, .int x2, .int s0, .null, .null]) (S' := []) (h' := h) rfl rfl rfl rfl).trans <|
    (r_iconst (j := 21) (x := 0) rfl i32_0 rfl).trans <|
    r_go (j := 22) (L' := [.ref r0, .int x1, .int x2, .int s0, .int 0, .null]) (S' := []) (h' := h) rfl rfl rfl rfl
theorem b_Pa_chain_22 {d : Nat} (x1 x2 x3 x4 : Int32) (r0 : Nat) (v5 : Value) (h : AH) (Q : Option Value → AH → Prop) : Wp d P_Pa_chain 22 [.ref r0, .int x1, .int x2, .int x3, .int x4, v5] [] h Q ↔ (x3 ≤ x4 → Wp d P_Pa_chain 49 [.ref r0, .int x1, .int x2, .int x3, .int x4, v5] [] h Q) ∧ (¬ (x3 ≤ x4) → Wp d P_Pa_chain 25 [.ref r0, .int x1, .int x2, .int x3, .int x4, v5] [] h Q) :=
    (r_go (j := 23) (L' := [.ref r0, .int x1, .int x2, .int x3, .int x4, v5]) (S' := [.int x4]) (h' := h) rfl rfl rfl rfl).trans <|
    (r_go (j := 24) (L' := [.ref r0, .int x1, .int x2, .int x3, .int x4, v5]) (S' := [.int x3, .int x4]) (h' := h) rfl rfl rfl rfl).trans <|
    r_icmp (j := 25) rfl (cd_ge _ _) rfl
theorem b_Pa_chain_25 {d : Nat} (x1 x2 x3 x4 : Int32) (r0 : Nat) (v5 : Value) (h : AH) (Q : Option Value → AH → Prop) : Wp d P_Pa_chain 25 [.ref r0, .int x1, .int x2, .int x3, .int x4, v5] [] h Q ↔ (hK h r0 = 2) ∧ ((¬ (hI h r0 4) = 0 → Wp d P_Pa_chain 49 [.ref r0, .int x1, .int x2, .int x3, .int x4, v5] [] h Q) ∧ (¬ (¬ (hI h r0 4) = 0) → Wp d P_Pa_chain 28 [.ref r0, .int x1, .int x2, .int x3, .int x4, v5] [] h Q)) :=
    (r_go (j := 26) (L' := [.ref r0, .int x1, .int x2, .int x3, .int x4, v5]) (S' := [.ref r0]) (h' := h) rfl rfl rfl rfl).trans <|
    (r_guard (j := 27) (L' := [.ref r0, .int x1, .int x2, .int x3, .int x4, v5]) (S' := [.int (hI h r0 4)]) (h' := h) (p := hK h r0 = 2) rfl rfl rfl rfl (decide_eq_true_iff)).trans <| and_r <|
    r_if (j := 28) rfl (cd_ne _ _) rfl
theorem b_Pa_chain_28 {d : Nat} (x1 x2 x3 x4 : Int32) (r0 : Nat) (v5 : Value) (h : AH) (Q : Option Value → AH → Prop) : Wp d P_Pa_chain 28 [.ref r0, .int x1, .int x2, .int x3, .int x4, v5] [] h Q ↔ Cl d q_Pa_jointAt [.ref r0, .int x1] h (fun r h' => Wp d P_Pa_chain 31 [.ref r0, .int x1, .int x2, .int x3, .int x4, v5] (r.toList ++ []) h' Q) :=
    (r_go (j := 29) (L' := [.ref r0, .int x1, .int x2, .int x3, .int x4, v5]) (S' := [.ref r0]) (h' := h) rfl rfl rfl rfl).trans <|
    (r_go (j := 30) (L' := [.ref r0, .int x1, .int x2, .int x3, .int x4, v5]) (S' := [.int x1, .ref r0]) (h' := h) rfl rfl rfl rfl).trans <|
    r_call (j := 31) (a := [.ref r0, .int x1]) (S' := []) rfl rfl rfl rfl rfl rfl rfl
theorem b_Pa_chain_31 {d : Nat} (x1 x2 x3 x4 s0 : Int32) (r0 : Nat) (v5 : Value) (h : AH) (Q : Option Value → AH → Prop) : Wp d P_Pa_chain 31 [.ref r0, .int x1, .int x2, .int x3, .int x4, v5] [.int s0] h Q ↔ (¬ s0 = 0 → Wp d P_Pa_chain 35 [.ref r0, .int x1, .int x2, .int x3, .int x4, .int s0] [] h Q) ∧ (¬ (¬ s0 = 0) → Wp d P_Pa_chain 34 [.ref r0, .int x1, .int x2, .int x3, .int x4, .int s0] [] h Q) :=
    (r_go (j := 32) (L' := [.ref r0, .int x1, .int x2, .int x3, .int x4, .int s0]) (S' := []) (h' := h) rfl rfl rfl rfl).trans <|
    (r_go (j := 33) (L' := [.ref r0, .int x1, .int x2, .int x3, .int x4, .int s0]) (S' := [.int s0]) (h' := h) rfl rfl rfl rfl).trans <|
    r_if (j := 34) rfl (cd_ne _ _) rfl
theorem b_Pa_chain_34 {d : Nat} (x1 x2 x3 x4 x5 : Int32) (r0 : Nat) (h : AH) (Q : Option Value → AH → Prop) : Wp d P_Pa_chain 34 [.ref r0, .int x1, .int x2, .int x3, .int x4, .int x5] [] h Q ↔ Q (none) h :=
    r_ret rfl rfl rfl
theorem b_Pa_chain_35 {d : Nat} (x1 x2 x3 x4 x5 : Int32) (r0 : Nat) (h : AH) (Q : Option Value → AH → Prop) : Wp d P_Pa_chain 35 [.ref r0, .int x1, .int x2, .int x3, .int x4, .int x5] [] h Q ↔ Cl d q_Pa_next [.ref r0] h (fun r h' => Wp d P_Pa_chain 37 [.ref r0, .int x1, .int x2, .int x3, .int x4, .int x5] (r.toList ++ []) h' Q) :=
    (r_go (j := 36) (L' := [.ref r0, .int x1, .int x2, .int x3, .int x4, .int x5]) (S' := [.ref r0]) (h' := h) rfl rfl rfl rfl).trans <|
    r_call (j := 37) (a := [.ref r0]) (S' := []) rfl rfl rfl rfl rfl rfl rfl
theorem b_Pa_chain_37 {d : Nat} (x1 x2 x3 x4 x5 : Int32) (r0 : Nat) (h : AH) (Q : Option Value → AH → Prop) : Wp d P_Pa_chain 37 [.ref r0, .int x1, .int x2, .int x3, .int x4, .int x5] [] h Q ↔ Cl d q_Pa_chain [.ref r0, .int (x1 + 1), .int x2] h (fun r h' => Wp d P_Pa_chain 43 [.ref r0, .int x1, .int x2, .int x3, .int x4, .int x5] (r.toList ++ []) h' Q) :=
    (r_go (j := 38) (L' := [.ref r0, .int x1, .int x2, .int x3, .int x4, .int x5]) (S' := [.ref r0]) (h' := h) rfl rfl rfl rfl).trans <|
    (r_go (j := 39) (L' := [.ref r0, .int x1, .int x2, .int x3, .int x4, .int x5]) (S' := [.int x1, .ref r0]) (h' := h) rfl rfl rfl rfl).trans <|
    (r_iconst (j := 40) (x := 1) rfl i32_1 rfl).trans <|
    (r_go (j := 41) (L' := [.ref r0, .int x1, .int x2, .int x3, .int x4, .int x5]) (S' := [.int (x1 + 1), .ref r0]) (h' := h) rfl rfl rfl rfl).trans <|
    (r_go (j := 42) (L' := [.ref r0, .int x1, .int x2, .int x3, .int x4, .int x5]) (S' := [.int x2, .int (x1 + 1), .ref r0]) (h' := h) rfl rfl rfl rfl).trans <|
    r_call (j := 43) (a := [.ref r0, .int (x1 + 1), .int x2]) (S' := []) rfl rfl rfl rfl rfl rfl rfl
theorem b_Pa_chain_43 {d : Nat} (x1 x2 x3 x4 x5 : Int32) (r0 : Nat) (h : AH) (Q : Option Value → AH → Prop) : Wp d P_Pa_chain 43 [.ref r0, .int x1, .int x2, .int x3, .int x4, .int x5] [] h Q ↔ (hK h r0 = 2) ∧ (Cl d q_Pg_add [.ref (hR h r0 2), .int x5] h (fun r h' => Wp d P_Pa_chain 47 [.ref r0, .int x1, .int x2, .int x3, .int x4, .int x5] (r.toList ++ []) h' Q)) :=
    (r_go (j := 44) (L' := [.ref r0, .int x1, .int x2, .int x3, .int x4, .int x5]) (S' := [.ref r0]) (h' := h) rfl rfl rfl rfl).trans <|
    (r_guard (j := 45) (L' := [.ref r0, .int x1, .int x2, .int x3, .int x4, .int x5]) (S' := [.ref (hR h r0 2)]) (h' := h) (p := hK h r0 = 2) rfl rfl rfl rfl (decide_eq_true_iff)).trans <| and_r <|
    (r_go (j := 46) (L' := [.ref r0, .int x1, .int x2, .int x3, .int x4, .int x5]) (S' := [.int x5, .ref (hR h r0 2)]) (h' := h) rfl rfl rfl rfl).trans <|
    r_call (j := 47) (a := [.ref (hR h r0 2), .int x5]) (S' := []) rfl rfl rfl rfl rfl rfl rfl
theorem b_Pa_chain_47 {d : Nat} (x1 x2 x3 x4 x5 : Int32) (r0 : Nat) (h : AH) (Q : Option Value → AH → Prop) : Wp d P_Pa_chain 47 [.ref r0, .int x1, .int x2, .int x3, .int x4, .int x5] [] h Q ↔ Wp d P_Pa_chain 22 [.ref r0, .int x1, .int x2, .int x3, .int (x4 + 1), .int x5] [] h Q :=
    (r_iinc (j := 48) (x := 1) (L' := [.ref r0, .int x1, .int x2, .int x3, .int (x4 + 1), .int x5]) rfl rfl i32_1 rfl rfl).trans <|
    r_go (j := 22) (L' := [.ref r0, .int x1, .int x2, .int x3, .int (x4 + 1), .int x5]) (S' := []) (h' := h) rfl rfl rfl rfl
theorem b_Pa_chain_49 {d : Nat} (x1 x2 x3 x4 : Int32) (r0 : Nat) (v5 : Value) (h : AH) (Q : Option Value → AH → Prop) : Wp d P_Pa_chain 49 [.ref r0, .int x1, .int x2, .int x3, .int x4, v5] [] h Q ↔ Q (none) h :=
    r_ret rfl rfl rfl
theorem e_Pa_chain {d : Nat} (x1 x2 : Int32) (r0 : Nat) (h : AH) (Q : Option Value → AH → Prop) : Cl (d + 1) q_Pa_chain [.ref r0, .int x1, .int x2] h Q ↔ hK h r0 = 2 ∧ Wp d P_Pa_chain 0 [.ref r0, .int x1, .int x2, .null, .null, .null] [] h (fun r h' => rtk (none) r = true ∧ Q r h') :=
    (Cl_method (t := m_Pa_chain) rfl).trans (and_congr_left fun _ => decide_eq_true_iff)
/-! PenThatJumps$Parser.jointAt(I)I -/
theorem b_Pa_jointAt_0 {d : Nat} (x1 : Int32) (r0 : Nat) (h : AH) (Q : Option Value → AH → Prop) : Wp d P_Pa_jointAt 0 [.ref r0, .int x1] [] h Q ↔ (¬ x1 = 0 → Wp d P_Pa_jointAt 16 [.ref r0, .int x1] [] h Q) ∧ (¬ (¬ x1 = 0) → Wp d P_Pa_jointAt 2 [.ref r0, .int x1] [] h Q) :=
    (r_go (j := 1) (L' := [.ref r0, .int x1]) (S' := [.int x1]) (h' := h) rfl rfl rfl rfl).trans <|
    r_if (j := 2) rfl (cd_ne _ _) rfl
theorem b_Pa_jointAt_2 {d : Nat} (x1 : Int32) (r0 : Nat) (h : AH) (Q : Option Value → AH → Prop) : Wp d P_Pa_jointAt 2 [.ref r0, .int x1] [] h Q ↔ (hK h r0 = 2) ∧ ((2 ≤ (hR h r0 8) ∧ (hR h r0 8) ≤ 25 ∧ 2 ≤ 18 ∧ 18 ≤ 25) ∧ ((hR h r0 8) = 18 → Wp d P_Pa_jointAt 6 [.ref r0, .int x1] [] h Q) ∧ (¬ ((hR h r0 8) = 18) → Wp d P_Pa_jointAt 8 [.ref r0, .int x1] [] h Q)) :=
    (r_go (j := 3) (L' := [.ref r0, .int x1]) (S' := [.ref r0]) (h' := h) rfl rfl rfl rfl).trans <|
    (r_guard (j := 4) (L' := [.ref r0, .int x1]) (S' := [.ref (hR h r0 8)]) (h' := h) (p := hK h r0 = 2) rfl rfl rfl rfl (decide_eq_true_iff)).trans <| and_r <|
    (r_go (j := 5) (L' := [.ref r0, .int x1]) (S' := [.ref 18, .ref (hR h r0 8)]) (h' := h) rfl rfl rfl rfl).trans <|
    r_acmp (j := 6) rfl rfl rfl 6 8 (Or.inr ⟨rfl, rfl, rfl⟩)
theorem b_Pa_jointAt_6 {d : Nat} (x1 : Int32) (r0 : Nat) (h : AH) (Q : Option Value → AH → Prop) : Wp d P_Pa_jointAt 6 [.ref r0, .int x1] [] h Q ↔ Wp d P_Pa_jointAt 15 [.ref r0, .int x1] [.int (-2)] h Q :=
    (r_bipush (j := 7) (x := (-2)) rfl i32_m2 rfl).trans <|
    r_go (j := 15) (L' := [.ref r0, .int x1]) (S' := [.int (-2)]) (h' := h) rfl rfl rfl rfl
theorem b_Pa_jointAt_8 {d : Nat} (x1 : Int32) (r0 : Nat) (h : AH) (Q : Option Value → AH → Prop) : Wp d P_Pa_jointAt 8 [.ref r0, .int x1] [] h Q ↔ (hK h r0 = 2) ∧ ((2 ≤ (hR h r0 8) ∧ (hR h r0 8) ≤ 25 ∧ 2 ≤ 19 ∧ 19 ≤ 25) ∧ ((hR h r0 8) = 19 → Wp d P_Pa_jointAt 12 [.ref r0, .int x1] [] h Q) ∧ (¬ ((hR h r0 8) = 19) → Wp d P_Pa_jointAt 14 [.ref r0, .int x1] [] h Q)) :=
    (r_go (j := 9) (L' := [.ref r0, .int x1]) (S' := [.ref r0]) (h' := h) rfl rfl rfl rfl).trans <|
    (r_guard (j := 10) (L' := [.ref r0, .int x1]) (S' := [.ref (hR h r0 8)]) (h' := h) (p := hK h r0 = 2) rfl rfl rfl rfl (decide_eq_true_iff)).trans <| and_r <|
    (r_go (j := 11) (L' := [.ref r0, .int x1]) (S' := [.ref 19, .ref (hR h r0 8)]) (h' := h) rfl rfl rfl rfl).trans <|
    r_acmp (j := 12) rfl rfl rfl 12 14 (Or.inr ⟨rfl, rfl, rfl⟩)
theorem b_Pa_jointAt_12 {d : Nat} (x1 : Int32) (r0 : Nat) (h : AH) (Q : Option Value → AH → Prop) : Wp d P_Pa_jointAt 12 [.ref r0, .int x1] [] h Q ↔ Wp d P_Pa_jointAt 15 [.ref r0, .int x1] [.int (-3)] h Q :=
    (r_bipush (j := 13) (x := (-3)) rfl i32_m3 rfl).trans <|
    r_go (j := 15) (L' := [.ref r0, .int x1]) (S' := [.int (-3)]) (h' := h) rfl rfl rfl rfl
theorem b_Pa_jointAt_14 {d : Nat} (x1 : Int32) (r0 : Nat) (h : AH) (Q : Option Value → AH → Prop) : Wp d P_Pa_jointAt 14 [.ref r0, .int x1] [] h Q ↔ Wp d P_Pa_jointAt 15 [.ref r0, .int x1] [.int 0] h Q :=
    r_iconst (j := 15) (x := 0) rfl i32_0 rfl
theorem b_Pa_jointAt_15 {d : Nat} (x1 s0 : Int32) (r0 : Nat) (h : AH) (Q : Option Value → AH → Prop) : Wp d P_Pa_jointAt 15 [.ref r0, .int x1] [.int s0] h Q ↔ Q (some (.int s0)) h :=
    r_ret rfl rfl rfl
theorem b_Pa_jointAt_16 {d : Nat} (x1 : Int32) (r0 : Nat) (h : AH) (Q : Option Value → AH → Prop) : Wp d P_Pa_jointAt 16 [.ref r0, .int x1] [] h Q ↔ (¬ x1 = 1 → Wp d P_Pa_jointAt 33 [.ref r0, .int x1] [] h Q) ∧ (¬ (¬ x1 = 1) → Wp d P_Pa_jointAt 19 [.ref r0, .int x1] [] h Q) :=
    (r_go (j := 17) (L' := [.ref r0, .int x1]) (S' := [.int x1]) (h' := h) rfl rfl rfl rfl).trans <|
    (r_iconst (j := 18) (x := 1) rfl i32_1 rfl).trans <|
    r_icmp (j := 19) rfl (cd_ne _ _) rfl
theorem b_Pa_jointAt_19 {d : Nat} (x1 : Int32) (r0 : Nat) (h : AH) (Q : Option Value → AH → Prop) : Wp d P_Pa_jointAt 19 [.ref r0, .int x1] [] h Q ↔ Cl d q_Pa_isSign [.ref r0, .int 60] h (fun r h' => Wp d P_Pa_jointAt 22 [.ref r0, .int x1] (r.toList ++ []) h' Q) :=
    (r_go (j := 20) (L' := [.ref r0, .int x1]) (S' := [.ref r0]) (h' := h) rfl rfl rfl rfl).trans <|
    (r_bipush (j := 21) (x := 60) rfl i32_60 rfl).trans <|
    r_call (j := 22) (a := [.ref r0, .int 60]) (S' := []) rfl rfl rfl rfl rfl rfl rfl
theorem b_Pa_jointAt_22 {d : Nat} (x1 s0 : Int32) (r0 : Nat) (h : AH) (Q : Option Value → AH → Prop) : Wp d P_Pa_jointAt 22 [.ref r0, .int x1] [.int s0] h Q ↔ (s0 = 0 → Wp d P_Pa_jointAt 25 [.ref r0, .int x1] [] h Q) ∧ (¬ (s0 = 0) → Wp d P_Pa_jointAt 23 [.ref r0, .int x1] [] h Q) :=
    r_if (j := 23) rfl (cd_eq _ _) rfl
theorem b_Pa_jointAt_23 {d : Nat} (x1 : Int32) (r0 : Nat) (h : AH) (Q : Option Value → AH → Prop) : Wp d P_Pa_jointAt 23 [.ref r0, .int x1] [] h Q ↔ Wp d P_Pa_jointAt 32 [.ref r0, .int x1] [.int (-4)] h Q :=
    (r_bipush (j := 24) (x := (-4)) rfl i32_m4 rfl).trans <|
    r_go (j := 32) (L' := [.ref r0, .int x1]) (S' := [.int (-4)]) (h' := h) rfl rfl rfl rfl
theorem b_Pa_jointAt_25 {d : Nat} (x1 : Int32) (r0 : Nat) (h : AH) (Q : Option Value → AH → Prop) : Wp d P_Pa_jointAt 25 [.ref r0, .int x1] [] h Q ↔ Cl d q_Pa_isSign [.ref r0, .int 61] h (fun r h' => Wp d P_Pa_jointAt 28 [.ref r0, .int x1] (r.toList ++ []) h' Q) :=
    (r_go (j := 26) (L' := [.ref r0, .int x1]) (S' := [.ref r0]) (h' := h) rfl rfl rfl rfl).trans <|
    (r_bipush (j := 27) (x := 61) rfl i32_61 rfl).trans <|
    r_call (j := 28) (a := [.ref r0, .int 61]) (S' := []) rfl rfl rfl rfl rfl rfl rfl
theorem b_Pa_jointAt_28 {d : Nat} (x1 s0 : Int32) (r0 : Nat) (h : AH) (Q : Option Value → AH → Prop) : Wp d P_Pa_jointAt 28 [.ref r0, .int x1] [.int s0] h Q ↔ (s0 = 0 → Wp d P_Pa_jointAt 31 [.ref r0, .int x1] [] h Q) ∧ (¬ (s0 = 0) → Wp d P_Pa_jointAt 29 [.ref r0, .int x1] [] h Q) :=
    r_if (j := 29) rfl (cd_eq _ _) rfl
theorem b_Pa_jointAt_29 {d : Nat} (x1 : Int32) (r0 : Nat) (h : AH) (Q : Option Value → AH → Prop) : Wp d P_Pa_jointAt 29 [.ref r0, .int x1] [] h Q ↔ Wp d P_Pa_jointAt 32 [.ref r0, .int x1] [.int (-5)] h Q :=
    (r_bipush (j := 30) (x := (-5)) rfl i32_m5 rfl).trans <|
    r_go (j := 32) (L' := [.ref r0, .int x1]) (S' := [.int (-5)]) (h' := h) rfl rfl rfl rfl
theorem b_Pa_jointAt_31 {d : Nat} (x1 : Int32) (r0 : Nat) (h : AH) (Q : Option Value → AH → Prop) : Wp d P_Pa_jointAt 31 [.ref r0, .int x1] [] h Q ↔ Wp d P_Pa_jointAt 32 [.ref r0, .int x1] [.int 0] h Q :=
    r_iconst (j := 32) (x := 0) rfl i32_0 rfl
theorem b_Pa_jointAt_32 {d : Nat} (x1 s0 : Int32) (r0 : Nat) (h : AH) (Q : Option Value → AH → Prop) : Wp d P_Pa_jointAt 32 [.ref r0, .int x1] [.int s0] h Q ↔ Q (some (.int s0)) h :=
    r_ret rfl rfl rfl
theorem b_Pa_jointAt_33 {d : Nat} (x1 : Int32) (r0 : Nat) (h : AH) (Q : Option Value → AH → Prop) : Wp d P_Pa_jointAt 33 [.ref r0, .int x1] [] h Q ↔ (¬ x1 = 2 → Wp d P_Pa_jointAt 50 [.ref r0, .int x1] [] h Q) ∧ (¬ (¬ x1 = 2) → Wp d P_Pa_jointAt 36 [.ref r0, .int x1] [] h Q) :=
    (r_go (j := 34) (L' := [.ref r0, .int x1]) (S' := [.int x1]) (h' := h) rfl rfl rfl rfl).trans <|
    (r_iconst (j := 35) (x := 2) rfl i32_2 rfl).trans <|
    r_icmp (j := 36) rfl (cd_ne _ _) rfl
theorem b_Pa_jointAt_36 {d : Nat} (x1 : Int32) (r0 : Nat) (h : AH) (Q : Option Value → AH → Prop) : Wp d P_Pa_jointAt 36 [.ref r0, .int x1] [] h Q ↔ Cl d q_Pa_isSign [.ref r0, .int 43] h (fun r h' => Wp d P_Pa_jointAt 39 [.ref r0, .int x1] (r.toList ++ []) h' Q) :=
    (r_go (j := 37) (L' := [.ref r0, .int x1]) (S' := [.ref r0]) (h' := h) rfl rfl rfl rfl).trans <|
    (r_bipush (j := 38) (x := 43) rfl i32_43 rfl).trans <|
    r_call (j := 39) (a := [.ref r0, .int 43]) (S' := []) rfl rfl rfl rfl rfl rfl rfl
theorem b_Pa_jointAt_39 {d : Nat} (x1 s0 : Int32) (r0 : Nat) (h : AH) (Q : Option Value → AH → Prop) : Wp d P_Pa_jointAt 39 [.ref r0, .int x1] [.int s0] h Q ↔ (s0 = 0 → Wp d P_Pa_jointAt 42 [.ref r0, .int x1] [] h Q) ∧ (¬ (s0 = 0) → Wp d P_Pa_jointAt 40 [.ref r0, .int x1] [] h Q) :=
    r_if (j := 40) rfl (cd_eq _ _) rfl
theorem b_Pa_jointAt_40 {d : Nat} (x1 : Int32) (r0 : Nat) (h : AH) (Q : Option Value → AH → Prop) : Wp d P_Pa_jointAt 40 [.ref r0, .int x1] [] h Q ↔ Wp d P_Pa_jointAt 49 [.ref r0, .int x1] [.int (-6)] h Q :=
    (r_bipush (j := 41) (x := (-6)) rfl i32_m6 rfl).trans <|
    r_go (j := 49) (L' := [.ref r0, .int x1]) (S' := [.int (-6)]) (h' := h) rfl rfl rfl rfl
theorem b_Pa_jointAt_42 {d : Nat} (x1 : Int32) (r0 : Nat) (h : AH) (Q : Option Value → AH → Prop) : Wp d P_Pa_jointAt 42 [.ref r0, .int x1] [] h Q ↔ Cl d q_Pa_isSign [.ref r0, .int 45] h (fun r h' => Wp d P_Pa_jointAt 45 [.ref r0, .int x1] (r.toList ++ []) h' Q) :=
    (r_go (j := 43) (L' := [.ref r0, .int x1]) (S' := [.ref r0]) (h' := h) rfl rfl rfl rfl).trans <|
    (r_bipush (j := 44) (x := 45) rfl i32_45 rfl).trans <|
    r_call (j := 45) (a := [.ref r0, .int 45]) (S' := []) rfl rfl rfl rfl rfl rfl rfl
theorem b_Pa_jointAt_45 {d : Nat} (x1 s0 : Int32) (r0 : Nat) (h : AH) (Q : Option Value → AH → Prop) : Wp d P_Pa_jointAt 45 [.ref r0, .int x1] [.int s0] h Q ↔ (s0 = 0 → Wp d P_Pa_jointAt 48 [.ref r0, .int x1] [] h Q) ∧ (¬ (s0 = 0) → Wp d P_Pa_jointAt 46 [.ref r0, .int x1] [] h Q) :=
    r_if (j := 46) rfl (cd_eq _ _) rfl
theorem b_Pa_jointAt_46 {d : Nat} (x1 : Int32) (r0 : Nat) (h : AH) (Q : Option Value → AH → Prop) : Wp d P_Pa_jointAt 46 [.ref r0, .int x1] [] h Q ↔ Wp d P_Pa_jointAt 49 [.ref r0, .int x1] [.int (-7)] h Q :=
    (r_bipush (j := 47) (x := (-7)) rfl i32_m7 rfl).trans <|
    r_go (j := 49) (L' := [.ref r0, .int x1]) (S' := [.int (-7)]) (h' := h) rfl rfl rfl rfl
theorem b_Pa_jointAt_48 {d : Nat} (x1 : Int32) (r0 : Nat) (h : AH) (Q : Option Value → AH → Prop) : Wp d P_Pa_jointAt 48 [.ref r0, .int x1] [] h Q ↔ Wp d P_Pa_jointAt 49 [.ref r0, .int x1] [.int 0] h Q :=
    r_iconst (j := 49) (x := 0) rfl i32_0 rfl
theorem b_Pa_jointAt_49 {d : Nat} (x1 s0 : Int32) (r0 : Nat) (h : AH) (Q : Option Value → AH → Prop) : Wp d P_Pa_jointAt 49 [.ref r0, .int x1] [.int s0] h Q ↔ Q (some (.int s0)) h :=
    r_ret rfl rfl rfl
theorem b_Pa_jointAt_50 {d : Nat} (x1 : Int32) (r0 : Nat) (h : AH) (Q : Option Value → AH → Prop) : Wp d P_Pa_jointAt 50 [.ref r0, .int x1] [] h Q ↔ Cl d q_Pa_isSign [.ref r0, .int 42] h (fun r h' => Wp d P_Pa_jointAt 53 [.ref r0, .int x1] (r.toList ++ []) h' Q) :=
    (r_go (j := 51) (L' := [.ref r0, .int x1]) (S' := [.ref r0]) (h' := h) rfl rfl rfl rfl).trans <|
    (r_bipush (j := 52) (x := 42) rfl i32_42 rfl).trans <|
    r_call (j := 53) (a := [.ref r0, .int 42]) (S' := []) rfl rfl rfl rfl rfl rfl rfl
theorem b_Pa_jointAt_53 {d : Nat} (x1 s0 : Int32) (r0 : Nat) (h : AH) (Q : Option Value → AH → Prop) : Wp d P_Pa_jointAt 53 [.ref r0, .int x1] [.int s0] h Q ↔ (s0 = 0 → Wp d P_Pa_jointAt 56 [.ref r0, .int x1] [] h Q) ∧ (¬ (s0 = 0) → Wp d P_Pa_jointAt 54 [.ref r0, .int x1] [] h Q) :=
    r_if (j := 54) rfl (cd_eq _ _) rfl
theorem b_Pa_jointAt_54 {d : Nat} (x1 : Int32) (r0 : Nat) (h : AH) (Q : Option Value → AH → Prop) : Wp d P_Pa_jointAt 54 [.ref r0, .int x1] [] h Q ↔ Wp d P_Pa_jointAt 57 [.ref r0, .int x1] [.int (-8)] h Q :=
    (r_bipush (j := 55) (x := (-8)) rfl i32_m8 rfl).trans <|
    r_go (j := 57) (L' := [.ref r0, .int x1]) (S' := [.int (-8)]) (h' := h) rfl rfl rfl rfl
theorem b_Pa_jointAt_56 {d : Nat} (x1 : Int32) (r0 : Nat) (h : AH) (Q : Option Value → AH → Prop) : Wp d P_Pa_jointAt 56 [.ref r0, .int x1] [] h Q ↔ Wp d P_Pa_jointAt 57 [.ref r0, .int x1] [.int 0] h Q :=
    r_iconst (j := 57) (x := 0) rfl i32_0 rfl
theorem b_Pa_jointAt_57 {d : Nat} (x1 s0 : Int32) (r0 : Nat) (h : AH) (Q : Option Value → AH → Prop) : Wp d P_Pa_jointAt 57 [.ref r0, .int x1] [.int s0] h Q ↔ Q (some (.int s0)) h :=
    r_ret rfl rfl rfl
theorem e_Pa_jointAt {d : Nat} (x1 : Int32) (r0 : Nat) (h : AH) (Q : Option Value → AH → Prop) : Cl (d + 1) q_Pa_jointAt [.ref r0, .int x1] h Q ↔ hK h r0 = 2 ∧ Wp d P_Pa_jointAt 0 [.ref r0, .int x1] [] h (fun r h' => rtk (some .int) r = true ∧ Q r h') :=
    (Cl_method (t := m_Pa_jointAt) rfl).trans (and_congr_left fun _ => decide_eq_true_iff)
/-! PenThatJumps$Parser.takePart(I)V -/
theorem b_Pa_takePart_0 {d : Nat} (x1 : Int32) (r0 : Nat) (h : AH) (Q : Option Value → AH → Prop) : Wp d P_Pa_takePart 0 [.ref r0, .int x1, .null, .null, .null, .null] [] h Q ↔ (hK h r0 = 2) ∧ (((hI h r0 3) = 0 → Wp d P_Pa_takePart 7 [.ref r0, .int x1, .null, .null, .null, .null] [] h Q) ∧ (¬ ((hI h r0 3) = 0) → Wp d P_Pa_takePart 3 [.ref r0, .int x1, .null, .null, .null, .null] [] h Q)) :=
    (r_go (j := 1) (L' := [.ref r0, .int x1, .null, .null, .null, .null]) (S' := [.ref r0]) (h' := h) rfl rfl rfl rfl).trans <|
    (r_guard (j := 2) (L' := [.ref r0, .int x1, .null, .null, .null, .null]) (S' := [.int (hI h r0 3)]) (h' := h) (p := hK h r0 = 2) rfl rfl rfl rfl (decide_eq_true_iff)).trans <| and_r <|
    r_if (j := 3) rfl (cd_eq _ _) rfl
theorem b_Pa_takePart_3 {d : Nat} (x1 : Int32) (r0 : Nat) (h : AH) (Q : Option Value → AH → Prop) : Wp d P_Pa_takePart 3 [.ref r0, .int x1, .null, .null, .null, .null] [] h Q ↔ (hK h r0 = 2) ∧ ((hK h (hR h r0 8) = 40) ∧ (Wp d P_Pa_takePart 10 [.ref r0, .int x1, .null, .null, .null, .null] [.int (hI h (hR h r0 8) 2)] h Q)) :=
    (r_go (j := 4) (L' := [.ref r0, .int x1, .null, .null, .null, .null]) (S' := [.ref r0]) (h' := h) rfl rfl rfl rfl).trans <|
    (r_guard (j := 5) (L' := [.ref r0, .int x1, .null, .null, .null, .null]) (S' := [.ref (hR h r0 8)]) (h' := h) (p := hK h r0 = 2) rfl rfl rfl rfl (decide_eq_true_iff)).trans <| and_r <|
    (r_guard (j := 6) (L' := [.ref r0, .int x1, .null, .null, .null, .null]) (S' := [.int (hI h (hR h r0 8) 2)]) (h' := h) (p := hK h (hR h r0 8) = 40) rfl rfl rfl rfl (decide_eq_true_iff)).trans <| and_r <|
    r_go (j := 10) (L' := [.ref r0, .int x1, .null, .null, .null, .null]) (S' := [.int (hI h (hR h r0 8) 2)]) (h' := h) rfl rfl rfl rfl
theorem b_Pa_takePart_7 {d : Nat} (x1 : Int32) (r0 : Nat) (h : AH) (Q : Option Value → AH → Prop) : Wp d P_Pa_takePart 7 [.ref r0, .int x1, .null, .null, .null, .null] [] h Q ↔ (hK h r0 = 2) ∧ ((hK h (hR h r0 8) = 40) ∧ (Wp d P_Pa_takePart 10 [.ref r0, .int x1, .null, .null, .null, .null] [.int (hI h (hR h r0 8) 1)] h Q)) :=
    (r_go (j := 8) (L' := [.ref r0, .int x1, .null, .null, .null, .null]) (S' := [.ref r0]) (h' := h) rfl rfl rfl rfl).trans <|
    (r_guard (j := 9) (L' := [.ref r0, .int x1, .null, .null, .null, .null]) (S' := [.ref (hR h r0 8)]) (h' := h) (p := hK h r0 = 2) rfl rfl rfl rfl (decide_eq_true_iff)).trans <| and_r <|
    r_guard (j := 10) (L' := [.ref r0, .int x1, .null, .null, .null, .null]) (S' := [.int (hI h (hR h r0 8) 1)]) (h' := h) (p := hK h (hR h r0 8) = 40) rfl rfl rfl rfl (decide_eq_true_iff)
theorem b_Pa_takePart_10 {d : Nat} (x1 s0 : Int32) (r0 : Nat) (h : AH) (Q : Option Value → AH → Prop) : Wp d P_Pa_takePart 10 [.ref r0, .int x1, .null, .null, .null, .null] [.int s0] h Q ↔ Cl d q_Pa_isNumber [.ref r0] h (fun r h' => Wp d P_Pa_takePart 13 [.ref r0, .int x1, .int s0, .null, .null, .null] (r.toList ++ []) h' Q) :=
    (r_go (j := 11) (L' := [.ref r0, .int x1, .int s0, .null, .null, .null]) (S' := []) (h' := h) rfl rfl rfl rfl).trans <|
    (r_go (j := 12) (L' := [.ref r0, .int x1, .int s0, .null, .null, .null]) (S' := [.ref r0]) (h' := h) rfl rfl rfl rfl).trans <|
    r_call (j := 13) (a := [.ref r0]) (S' := []) rfl rfl rfl rfl rfl rfl rfl
theorem b_Pa_takePart_13 {d : Nat} (x1 x2 s0 : Int32) (r0 : Nat) (h : AH) (Q : Option Value → AH → Prop) : Wp d P_Pa_takePart 13 [.ref r0, .int x1, .int x2, .null, .null, .null] [.int s0] h Q ↔ (¬ s0 = 0 → Wp d P_Pa_takePart 29 [.ref r0, .int x1, .int x2, .null, .null, .null] [] h Q) ∧ (¬ (¬ s0 = 0) → Wp d P_Pa_takePart 14 [.ref r0, .int x1, .int x2, .null, .null, .null] [] h Q) :=
    r_if (j := 14) rfl (cd_ne _ _) rfl
theorem b_Pa_takePart_14 {d : Nat} (x1 x2 : Int32) (r0 : Nat) (h : AH) (Q : Option Value → AH → Prop) : Wp d P_Pa_takePart 14 [.ref r0, .int x1, .int x2, .null, .null, .null] [] h Q ↔ Cl d q_Pa_isSign [.ref r0, .int 40] h (fun r h' => Wp d P_Pa_takePart 17 [.ref r0, .int x1, .int x2, .null, .null, .null] (r.toList ++ []) h' Q) :=
    (r_go (j := 15) (L' := [.ref r0, .int x1, .int x2, .null, .null, .null]) (S' := [.ref r0]) (h' := h) rfl rfl rfl rfl).trans <|
    (r_bipush (j := 16) (x := 40) rfl i32_40 rfl).trans <|
    r_call (j := 17) (a := [.ref r0, .int 40]) (S' := []) rfl rfl rfl rfl rfl rfl rfl
theorem b_Pa_takePart_17 {d : Nat} (x1 x2 s0 : Int32) (r0 : Nat) (h : AH) (Q : Option Value → AH → Prop) : Wp d P_Pa_takePart 17 [.ref r0, .int x1, .int x2, .null, .null, .null] [.int s0] h Q ↔ (¬ s0 = 0 → Wp d P_Pa_takePart 29 [.ref r0, .int x1, .int x2, .null, .null, .null] [] h Q) ∧ (¬ (¬ s0 = 0) → Wp d P_Pa_takePart 18 [.ref r0, .int x1, .int x2, .null, .null, .null] [] h Q) :=
    r_if (j := 18) rfl (cd_ne _ _) rfl
theorem b_Pa_takePart_18 {d : Nat} (x1 x2 : Int32) (r0 : Nat) (h : AH) (Q : Option Value → AH → Prop) : Wp d P_Pa_takePart 18 [.ref r0, .int x1, .int x2, .null, .null, .null] [] h Q ↔ (hK h r0 = 2) ∧ ((2 ≤ (hR h r0 8) ∧ (hR h r0 8) ≤ 25 ∧ 2 ≤ 17 ∧ 17 ≤ 25) ∧ ((hR h r0 8) = 17 → Wp d P_Pa_takePart 29 [.ref r0, .int x1, .int x2, .null, .null, .null] [] h Q) ∧ (¬ ((hR h r0 8) = 17) → Wp d P_Pa_takePart 22 [.ref r0, .int x1, .int x2, .null, .null, .null] [] h Q)) :=
    (r_go (j := 19) (L' := [.ref r0, .int x1, .int x2, .null, .null, .null]) (S' := [.ref r0]) (h' := h) rfl rfl rfl rfl).trans <|
    (r_guard (j := 20) (L' := [.ref r0, .int x1, .int x2, .null, .null, .null]) (S' := [.ref (hR h r0 8)]) (h' := h) (p := hK h r0 = 2) rfl rfl rfl rfl (decide_eq_true_iff)).trans <| and_r <|
    (r_go (j := 21) (L' := [.ref r0, .int x1, .int x2, .null, .null, .null]) (S' := [.ref 17, .ref (hR h r0 8)]) (h' := h) rfl rfl rfl rfl).trans <|
    r_acmp (j := 22) rfl rfl rfl 29 22 (Or.inl ⟨rfl, rfl, rfl⟩)
theorem b_Pa_takePart_22 {d : Nat} (x1 x2 : Int32) (r0 : Nat) (h : AH) (Q : Option Value → AH → Prop) : Wp d P_Pa_takePart 22 [.ref r0, .int x1, .int x2, .null, .null, .null] [] h Q ↔ (¬ x2 = (-1) → Wp d P_Pa_takePart 29 [.ref r0, .int x1, .int x2, .null, .null, .null] [] h Q) ∧ (¬ (¬ x2 = (-1)) → Wp d P_Pa_takePart 25 [.ref r0, .int x1, .int x2, .null, .null, .null] [] h Q) :=
    (r_go (j := 23) (L' := [.ref r0, .int x1, .int x2, .null, .null, .null]) (S' := [.int x2]) (h' := h) rfl rfl rfl rfl).trans <|
    (r_iconst (j := 24) (x := (-1)) rfl i32_m1 rfl).trans <|
    r_icmp (j := 25) rfl (cd_ne _ _) rfl
theorem b_Pa_takePart_25 {d : Nat} (x1 x2 : Int32) (r0 : Nat) (h : AH) (Q : Option Value → AH → Prop) : Wp d P_Pa_takePart 25 [.ref r0, .int x1, .int x2, .null, .null, .null] [] h Q ↔ Cl d q_Pa_wrong [.ref r0, .int 1] h (fun r h' => Wp d P_Pa_takePart 28 [.ref r0, .int x1, .int x2, .null, .null, .null] (r.toList ++ []) h' Q) :=
    (r_go (j := 26) (L' := [.ref r0, .int x1, .int x2, .null, .null, .null]) (S' := [.ref r0]) (h' := h) rfl rfl rfl rfl).trans <|
    (r_iconst (j := 27) (x := 1) rfl i32_1 rfl).trans <|
    r_call (j := 28) (a := [.ref r0, .int 1]) (S' := []) rfl rfl rfl rfl rfl rfl rfl
theorem b_Pa_takePart_28 {d : Nat} (x1 x2 : Int32) (r0 : Nat) (h : AH) (Q : Option Value → AH → Prop) : Wp d P_Pa_takePart 28 [.ref r0, .int x1, .int x2, .null, .null, .null] [] h Q ↔ Wp d P_Pa_takePart 35 [.ref r0, .int x1, .int x2, .null, .null, .null] [] h Q :=
    r_go (j := 35) (L' := [.ref r0, .int x1, .int x2, .null, .null, .null]) (S' := []) (h' := h) rfl rfl rfl rfl
theorem b_Pa_takePart_29 {d : Nat} (x1 x2 : Int32) (r0 : Nat) (h : AH) (Q : Option Value → AH → Prop) : Wp d P_Pa_takePart 29 [.ref r0, .int x1, .int x2, .null, .null, .null] [] h Q ↔ (x1 < 5 → Wp d P_Pa_takePart 35 [.ref r0, .int x1, .int x2, .null, .null, .null] [] h Q) ∧ (¬ (x1 < 5) → Wp d P_Pa_takePart 32 [.ref r0, .int x1, .int x2, .null, .null, .null] [] h Q) :=
    (r_go (j := 30) (L' := [.ref r0, .int x1, .int x2, .null, .null, .null]) (S' := [.int x1]) (h' := h) rfl rfl rfl rfl).trans <|
    (r_iconst (j := 31) (x := 5) rfl i32_5 rfl).trans <|
    r_icmp (j := 32) rfl (cd_lt _ _) rfl
theorem b_Pa_takePart_32 {d : Nat} (x1 x2 : Int32) (r0 : Nat) (h : AH) (Q : Option Value → AH → Prop) : Wp d P_Pa_takePart 32 [.ref r0, .int x1, .int x2, .null, .null, .null] [] h Q ↔ Cl d q_Pa_wrong [.ref r0, .int 5] h (fun r h' => Wp d P_Pa_takePart 35 [.ref r0, .int x1, .int x2, .null, .null, .null] (r.toList ++ []) h' Q) :=
    (r_go (j := 33) (L' := [.ref r0, .int x1, .int x2, .null, .null, .null]) (S' := [.ref r0]) (h' := h) rfl rfl rfl rfl).trans <|
    (r_iconst (j := 34) (x := 5) rfl i32_5 rfl).trans <|
    r_call (j := 35) (a := [.ref r0, .int 5]) (S' := []) rfl rfl rfl rfl rfl rfl rfl
theorem b_Pa_takePart_35 {d : Nat} (x1 x2 : Int32) (r0 : Nat) (h : AH) (Q : Option Value → AH → Prop) : Wp d P_Pa_takePart 35 [.ref r0, .int x1, .int x2, .null, .null, .null] [] h Q ↔ (hK h r0 = 2) ∧ (((hI h r0 4) = 0 → Wp d P_Pa_takePart 39 [.ref r0, .int x1, .int x2, .null, .null, .null] [] h Q) ∧ (¬ ((hI h r0 4) = 0) → Wp d P_Pa_takePart 38 [.ref r0, .int x1, .int x2, .null, .null, .null] [] h Q)) :=
    (r_go (j := 36) (L' := [.ref r0, .int x1, .int x2, .null, .null, .null]) (S' := [.ref r0]) (h' := h) rfl rfl rfl rfl).trans <|
    (r_guard (j := 37) (L' := [.ref r0, .int x1, .int x2, .null, .null, .null]) (S' := [.int (hI h r0 4)]) (h' := h) (p := hK h r0 = 2) rfl rfl rfl rfl (decide_eq_true_iff)).trans <| and_r <|
    r_if (j := 38) rfl (cd_eq _ _) rfl
theorem b_Pa_takePart_38 {d : Nat} (x1 x2 : Int32) (r0 : Nat) (h : AH) (Q : Option Value → AH → Prop) : Wp d P_Pa_takePart 38 [.ref r0, .int x1, .int x2, .null, .null, .null] [] h Q ↔ Q (none) h :=
    r_ret rfl rfl rfl
theorem b_Pa_takePart_39 {d : Nat} (x1 x2 : Int32) (r0 : Nat) (h : AH) (Q : Option Value → AH → Prop) : Wp d P_Pa_takePart 39 [.ref r0, .int x1, .int x2, .null, .null, .null] [] h Q ↔ (hK h r0 = 2) ∧ (Cl d q_Pa_isNumber [.ref r0] h (fun r h' => Wp d P_Pa_takePart 44 [.ref r0, .int x1, .int x2, .int (hI h r0 6), .null, .null] (r.toList ++ []) h' Q)) :=
    (r_go (j := 40) (L' := [.ref r0, .int x1, .int x2, .null, .null, .null]) (S' := [.ref r0]) (h' := h) rfl rfl rfl rfl).trans <|
    (r_guard (j := 41) (L' := [.ref r0, .int x1, .int x2, .null, .null, .null]) (S' := [.int (hI h r0 6)]) (h' := h) (p := hK h r0 = 2) rfl rfl rfl rfl (decide_eq_true_iff)).trans <| and_r <|
    (r_go (j := 42) (L' := [.ref r0, .int x1, .int x2, .int (hI h r0 6), .null, .null]) (S' := []) (h' := h) rfl rfl rfl rfl).trans <|
    (r_go (j := 43) (L' := [.ref r0, .int x1, .int x2, .int (hI h r0 6), .null, .null]) (S' := [.ref r0]) (h' := h) rfl rfl rfl rfl).trans <|
    r_call (j := 44) (a := [.ref r0]) (S' := []) rfl rfl rfl rfl rfl rfl rfl
theorem b_Pa_takePart_44 {d : Nat} (x1 x2 x3 s0 : Int32) (r0 : Nat) (h : AH) (Q : Option Value → AH → Prop) : Wp d P_Pa_takePart 44 [.ref r0, .int x1, .int x2, .int x3, .null, .null] [.int s0] h Q ↔ Cl d q_Pa_isSign [.ref r0, .int 40] h (fun r h' => Wp d P_Pa_takePart 48 [.ref r0, .int x1, .int x2, .int x3, .int s0, .null] (r.toList ++ []) h' Q) :=
    (r_go (j := 45) (L' := [.ref r0, .int x1, .int x2, .int x3, .int s0, .null]) (S' := []) (h' := h) rfl rfl rfl rfl).trans <|
    (r_go (j := 46) (L' := [.ref r0, .int x1, .int x2, .int x3, .int s0, .null]) (S' := [.ref r0]) (h' := h) rfl rfl rfl rfl).trans <|
    (r_bipush (j := 47) (x := 40) rfl i32_40 rfl).trans <|
    r_call (j := 48) (a := [.ref r0, .int 40]) (S' := []) rfl rfl rfl rfl rfl rfl rfl
theorem b_Pa_takePart_48 {d : Nat} (x1 x2 x3 x4 s0 : Int32) (r0 : Nat) (h : AH) (Q : Option Value → AH → Prop) : Wp d P_Pa_takePart 48 [.ref r0, .int x1, .int x2, .int x3, .int x4, .null] [.int s0] h Q ↔ Cl d q_Pa_next [.ref r0] h (fun r h' => Wp d P_Pa_takePart 51 [.ref r0, .int x1, .int x2, .int x3, .int x4, .int s0] (r.toList ++ []) h' Q) :=
    (r_go (j := 49) (L' := [.ref r0, .int x1, .int x2, .int x3, .int x4, .int s0]) (S' := []) (h' := h) rfl rfl rfl rfl).trans <|
    (r_go (j := 50) (L' := [.ref r0, .int x1, .int x2, .int x3, .int x4, .int s0]) (S' := [.ref r0]) (h' := h) rfl rfl rfl rfl).trans <|
    r_call (j := 51) (a := [.ref r0]) (S' := []) rfl rfl rfl rfl rfl rfl rfl
theorem b_Pa_takePart_51 {d : Nat} (x1 x2 x3 x4 x5 : Int32) (r0 : Nat) (h : AH) (Q : Option Value → AH → Prop) : Wp d P_Pa_takePart 51 [.ref r0, .int x1, .int x2, .int x3, .int x4, .int x5] [] h Q ↔ (x4 = 0 → Wp d P_Pa_takePart 58 [.ref r0, .int x1, .int x2, .int x3, .int x4, .int x5] [] h Q) ∧ (¬ (x4 = 0) → Wp d P_Pa_takePart 53 [.ref r0, .int x1, .int x2, .int x3, .int x4, .int x5] [] h Q) :=
    (r_go (j := 52) (L' := [.ref r0, .int x1, .int x2, .int x3, .int x4, .int x5]) (S' := [.int x4]) (h' := h) rfl rfl rfl rfl).trans <|
    r_if (j := 53) rfl (cd_eq _ _) rfl
theorem b_Pa_takePart_53 {d : Nat} (x1 x2 x3 x4 x5 : Int32) (r0 : Nat) (h : AH) (Q : Option Value → AH → Prop) : Wp d P_Pa_takePart 53 [.ref r0, .int x1, .int x2, .int x3, .int x4, .int x5] [] h Q ↔ (hK h r0 = 2) ∧ (Cl d q_Pg_add [.ref (hR h r0 2), .int x3] h (fun r h' => Wp d P_Pa_takePart 57 [.ref r0, .int x1, .int x2, .int x3, .int x4, .int x5] (r.toList ++ []) h' Q)) :=
    (r_go (j := 54) (L' := [.ref r0, .int x1, .int x2, .int x3, .int x4, .int x5]) (S' := [.ref r0]) (h' := h) rfl rfl rfl rfl).trans <|
    (r_guard (j := 55) (L' := [.ref r0, .int x1, .int x2, .int x3, .int x4, .int x5]) (S' := [.ref (hR h r0 2)]) (h' := h) (p := hK h r0 = 2) rfl rfl rfl rfl (decide_eq_true_iff)).trans <| and_r <|
    (r_go (j := 56) (L' := [.ref r0, .int x1, .int x2, .int x3, .int x4, .int x5]) (S' := [.int x3, .ref (hR h r0 2)]) (h' := h) rfl rfl rfl rfl).trans <|
    r_call (j := 57) (a := [.ref (hR h r0 2), .int x3]) (S' := []) rfl rfl rfl rfl rfl rfl rfl
theorem b_Pa_takePart_57 {d : Nat} (x1 x2 x3 x4 x5 : Int32) (r0 : Nat) (h : AH) (Q : Option Value → AH → Prop) : Wp d P_Pa_takePart 57 [.ref r0, .int x1, .int x2, .int x3, .int x4, .int x5] [] h Q ↔ Wp d P_Pa_takePart 86 [.ref r0, .int x1, .int x2, .int x3, .int x4, .int x5] [] h Q :=
    r_go (j := 86) (L' := [.ref r0, .int x1, .int x2, .int x3, .int x4, .int x5]) (S' := []) (h' := h) rfl rfl rfl rfl
theorem b_Pa_takePart_58 {d : Nat} (x1 x2 x3 x4 x5 : Int32) (r0 : Nat) (h : AH) (Q : Option Value → AH → Prop) : Wp d P_Pa_takePart 58 [.ref r0, .int x1, .int x2, .int x3, .int x4, .int x5] [] h Q ↔ (x5 = 0 → Wp d P_Pa_takePart 70 [.ref r0, .int x1, .int x2, .int x3, .int x4, .int x5] [] h Q) ∧ (¬ (x5 = 0) → Wp d P_Pa_takePart 60 [.ref r0, .int x1, .int x2, .int x3, .int x4, .int x5] [] h Q) :=
    (r_go (j := 59) (L' := [.ref r0, .int x1, .int x2, .int x3, .int x4, .int x5]) (S' := [.int x5]) (h' := h) rfl rfl rfl rfl).trans <|
    r_if (j := 60) rfl (cd_eq _ _) rfl
theorem b_Pa_takePart_60 {d : Nat} (x1 x2 x3 x4 x5 : Int32) (r0 : Nat) (h : AH) (Q : Option Value → AH → Prop) : Wp d P_Pa_takePart 60 [.ref r0, .int x1, .int x2, .int x3, .int x4, .int x5] [] h Q ↔ Cl d q_Pa_chain [.ref r0, .int 0, .int (x1 + 1)] h (fun r h' => Wp d P_Pa_takePart 66 [.ref r0, .int x1, .int x2, .int x3, .int x4, .int x5] (r.toList ++ []) h' Q) :=
    (r_go (j := 61) (L' := [.ref r0, .int x1, .int x2, .int x3, .int x4, .int x5]) (S' := [.ref r0]) (h' := h) rfl rfl rfl rfl).trans <|
    (r_iconst (j := 62) (x := 0) rfl i32_0 rfl).trans <|
    (r_go (j := 63) (L' := [.ref r0, .int x1, .int x2, .int x3, .int x4, .int x5]) (S' := [.int x1, .int 0, .ref r0]) (h' := h) rfl rfl rfl rfl).trans <|
    (r_iconst (j := 64) (x := 1) rfl i32_1 rfl).trans <|
    (r_go (j := 65) (L' := [.ref r0, .int x1, .int x2, .int x3, .int x4, .int x5]) (S' := [.int (x1 + 1), .int 0, .ref r0]) (h' := h) rfl rfl rfl rfl).trans <|
    r_call (j := 66) (a := [.ref r0, .int 0, .int (x1 + 1)]) (S' := []) rfl rfl rfl rfl rfl rfl rfl
theorem b_Pa_takePart_66 {d : Nat} (x1 x2 x3 x4 x5 : Int32) (r0 : Nat) (h : AH) (Q : Option Value → AH → Prop) : Wp d P_Pa_takePart 66 [.ref r0, .int x1, .int x2, .int x3, .int x4, .int x5] [] h Q ↔ Cl d q_Pa_takeSign [.ref r0, .int 41] h (fun r h' => Wp d P_Pa_takePart 69 [.ref r0, .int x1, .int x2, .int x3, .int x4, .int x5] (r.toList ++ []) h' Q) :=
    (r_go (j := 67) (L' := [.ref r0, .int x1, .int x2, .int x3, .int x4, .int x5]) (S' := [.ref r0]) (h' := h) rfl rfl rfl rfl).trans <|
    (r_bipush (j := 68) (x := 41) rfl i32_41 rfl).trans <|
    r_call (j := 69) (a := [.ref r0, .int 41]) (S' := []) rfl rfl rfl rfl rfl rfl rfl
theorem b_Pa_takePart_69 {d : Nat} (x1 x2 x3 x4 x5 : Int32) (r0 : Nat) (h : AH) (Q : Option Value → AH → Prop) : Wp d P_Pa_takePart 69 [.ref r0, .int x1, .int x2, .int x3, .int x4, .int x5] [] h Q ↔ Wp d P_Pa_takePart 86 [.ref r0, .int x1, .int x2, .int x3, .int x4, .int x5] [] h Q :=
    r_go (j := 86) (L' := [.ref r0, .int x1, .int x2, .int x3, .int x4, .int x5]) (S' := []) (h' := h) rfl rfl rfl rfl
theorem b_Pa_takePart_70 {d : Nat} (x1 x2 x3 x4 x5 : Int32) (r0 : Nat) (h : AH) (Q : Option Value → AH → Prop) : Wp d P_Pa_takePart 70 [.ref r0, .int x1, .int x2, .int x3, .int x4, .int x5] [] h Q ↔ (¬ x2 = (-1) → Wp d P_Pa_takePart 83 [.ref r0, .int x1, .int x2, .int x3, .int x4, .int x5] [] h Q) ∧ (¬ (¬ x2 = (-1)) → Wp d P_Pa_takePart 73 [.ref r0, .int x1, .int x2, .int x3, .int x4, .int x5] [] h Q) :=
    (r_go (j := 71) (L' := [.ref r0, .int x1, .int x2, .int x3, .int x4, .int x5]) (S' := [.int x2]) (h' := h) rfl rfl rfl rfl).trans <|
    (r_iconst (j := 72) (x := (-1)) rfl i32_m1 rfl).trans <|
    r_icmp (j := 73) rfl (cd_ne _ _) rfl
theorem b_Pa_takePart_73 {d : Nat} (x1 x2 x3 x4 x5 : Int32) (r0 : Nat) (h : AH) (Q : Option Value → AH → Prop) : Wp d P_Pa_takePart 73 [.ref r0, .int x1, .int x2, .int x3, .int x4, .int x5] [] h Q ↔ Cl d q_Pa_takePart [.ref r0, .int (x1 + 1)] h (fun r h' => Wp d P_Pa_takePart 78 [.ref r0, .int x1, .int x2, .int x3, .int x4, .int x5] (r.toList ++ []) h' Q) :=
    (r_go (j := 74) (L' := [.ref r0, .int x1, .int x2, .int x3, .int x4, .int x5]) (S' := [.ref r0]) (h' := h) rfl rfl rfl rfl).trans <|
    (r_go (j := 75) (L' := [.ref r0, .int x1, .int x2, .int x3, .int x4, .int x5]) (S' := [.int x1, .ref r0]) (h' := h) rfl rfl rfl rfl).trans <|
    (r_iconst (j := 76) (x := 1) rfl i32_1 rfl).trans <|
    (r_go (j := 77) (L' := [.ref r0, .int x1, .int x2, .int x3, .int x4, .int x5]) (S' := [.int (x1 + 1), .ref r0]) (h' := h) rfl rfl rfl rfl).trans <|
    r_call (j := 78) (a := [.ref r0, .int (x1 + 1)]) (S' := []) rfl rfl rfl rfl rfl rfl rfl
theorem b_Pa_takePart_78 {d : Nat} (x1 x2 x3 x4 x5 : Int32) (r0 : Nat) (h : AH) (Q : Option Value → AH → Prop) : Wp d P_Pa_takePart 78 [.ref r0, .int x1, .int x2, .int x3, .int x4, .int x5] [] h Q ↔ (hK h r0 = 2) ∧ (Cl d q_Pg_add [.ref (hR h r0 2), .int (-1)] h (fun r h' => Wp d P_Pa_takePart 82 [.ref r0, .int x1, .int x2, .int x3, .int x4, .int x5] (r.toList ++ []) h' Q)) :=
    (r_go (j := 79) (L' := [.ref r0, .int x1, .int x2, .int x3, .int x4, .int x5]) (S' := [.ref r0]) (h' := h) rfl rfl rfl rfl).trans <|
    (r_guard (j := 80) (L' := [.ref r0, .int x1, .int x2, .int x3, .int x4, .int x5]) (S' := [.ref (hR h r0 2)]) (h' := h) (p := hK h r0 = 2) rfl rfl rfl rfl (decide_eq_true_iff)).trans <| and_r <|
    (r_iconst (j := 81) (x := (-1)) rfl i32_m1 rfl).trans <|
    r_call (j := 82) (a := [.ref (hR h r0 2), .int (-1)]) (S' := []) rfl rfl rfl rfl rfl rfl rfl
theorem b_Pa_takePart_82 {d : Nat} (x1 x2 x3 x4 x5 : Int32) (r0 : Nat) (h : AH) (Q : Option Value → AH → Prop) : Wp d P_Pa_takePart 82 [.ref r0, .int x1, .int x2, .int x3, .int x4, .int x5] [] h Q ↔ Wp d P_Pa_takePart 86 [.ref r0, .int x1, .int x2, .int x3, .int x4, .int x5] [] h Q :=
    r_go (j := 86) (L' := [.ref r0, .int x1, .int x2, .int x3, .int x4, .int x5]) (S' := []) (h' := h) rfl rfl rfl rfl
theorem b_Pa_takePart_83 {d : Nat} (x1 x2 x3 x4 x5 : Int32) (r0 : Nat) (h : AH) (Q : Option Value → AH → Prop) : Wp d P_Pa_takePart 83 [.ref r0, .int x1, .int x2, .int x3, .int x4, .int x5] [] h Q ↔ Cl d q_Pa_takeLineOfFact [.ref r0, .int x2] h (fun r h' => Wp d P_Pa_takePart 86 [.ref r0, .int x1, .int x2, .int x3, .int x4, .int x5] (r.toList ++ []) h' Q) :=
    (r_go (j := 84) (L' := [.ref r0, .int x1, .int x2, .int x3, .int x4, .int x5]) (S' := [.ref r0]) (h' := h) rfl rfl rfl rfl).trans <|
    (r_go (j := 85) (L' := [.ref r0, .int x1, .int x2, .int x3, .int x4, .int x5]) (S' := [.int x2, .ref r0]) (h' := h) rfl rfl rfl rfl).trans <|
    r_call (j := 86) (a := [.ref r0, .int x2]) (S' := []) rfl rfl rfl rfl rfl rfl rfl
theorem b_Pa_takePart_86 {d : Nat} (x1 x2 x3 x4 x5 : Int32) (r0 : Nat) (h : AH) (Q : Option Value → AH → Prop) : Wp d P_Pa_takePart 86 [.ref r0, .int x1, .int x2, .int x3, .int x4, .int x5] [] h Q ↔ Q (none) h :=
    r_ret rfl rfl rfl
theorem e_Pa_takePart {d : Nat} (x1 : Int32) (r0 : Nat) (h : AH) (Q : Option Value → AH → Prop) : Cl (d + 1) q_Pa_takePart [.ref r0, .int x1] h Q ↔ hK h r0 = 2 ∧ Wp d P_Pa_takePart 0 [.ref r0, .int x1, .null, .null, .null, .null] [] h (fun r h' => rtk (none) r = true ∧ Q r h') :=
    (Cl_method (t := m_Pa_takePart) rfl).trans (and_congr_left fun _ => decide_eq_true_iff)
/-! PenThatJumps$Parser.takeLineOfFact(I)V -/
theorem b_Pa_takeLineOfFact_0 {d : Nat} (x1 : Int32) (r0 : Nat) (h : AH) (Q : Option Value → AH → Prop) : Wp d P_Pa_takeLineOfFact 0 [.ref r0, .int x1, .null] [] h Q ↔ (hK h r0 = 2) ∧ (((hI h r0 3) = 0 → Wp d P_Pa_takeLineOfFact 11 [.ref r0, .int x1, .null] [] h Q) ∧ (¬ ((hI h r0 3) = 0) → Wp d P_Pa_takeLineOfFact 3 [.ref r0, .int x1, .null] [] h Q)) :=
    (r_go (j := 1) (L' := [.ref r0, .int x1, .null]) (S' := [.ref r0]) (h' := h) rfl rfl rfl rfl).trans <|
    (r_guard (j := 2) (L' := [.ref r0, .int x1, .null]) (S' := [.int (hI h r0 3)]) (h' := h) (p := hK h r0 = 2) rfl rfl rfl rfl (decide_eq_true_iff)).trans <| and_r <|
    r_if (j := 3) rfl (cd_eq _ _) rfl
theorem b_Pa_takeLineOfFact_3 {d : Nat} (x1 : Int32) (r0 : Nat) (h : AH) (Q : Option Value → AH → Prop) : Wp d P_Pa_takeLineOfFact 3 [.ref r0, .int x1, .null] [] h Q ↔ (18 ≤ x1 → Wp d P_Pa_takeLineOfFact 11 [.ref r0, .int x1, .null] [] h Q) ∧ (¬ (18 ≤ x1) → Wp d P_Pa_takeLineOfFact 6 [.ref r0, .int x1, .null] [] h Q) :=
    (r_go (j := 4) (L' := [.ref r0, .int x1, .null]) (S' := [.int x1]) (h' := h) rfl rfl rfl rfl).trans <|
    (r_bipush (j := 5) (x := 18) rfl i32_18 rfl).trans <|
    r_icmp (j := 6) rfl (cd_ge _ _) rfl
theorem b_Pa_takeLineOfFact_6 {d : Nat} (x1 : Int32) (r0 : Nat) (h : AH) (Q : Option Value → AH → Prop) : Wp d P_Pa_takeLineOfFact 6 [.ref r0, .int x1, .null] [] h Q ↔ Cl d q_Pa_takeNumber [.ref r0, .int 0, .int 2] h (fun r h' => Wp d P_Pa_takeLineOfFact 10 [.ref r0, .int x1, .null] (r.toList ++ []) h' Q) :=
    (r_go (j := 7) (L' := [.ref r0, .int x1, .null]) (S' := [.ref r0]) (h' := h) rfl rfl rfl rfl).trans <|
    (r_iconst (j := 8) (x := 0) rfl i32_0 rfl).trans <|
    (r_iconst (j := 9) (x := 2) rfl i32_2 rfl).trans <|
    r_call (j := 10) (a := [.ref r0, .int 0, .int 2]) (S' := []) rfl rfl rfl rfl rfl rfl rfl
theorem b_Pa_takeLineOfFact_10 {d : Nat} (x1 s0 : Int32) (r0 : Nat) (h : AH) (Q : Option Value → AH → Prop) : Wp d P_Pa_takeLineOfFact 10 [.ref r0, .int x1, .null] [.int s0] h Q ↔ Wp d P_Pa_takeLineOfFact 12 [.ref r0, .int x1, .null] [.int s0] h Q :=
    r_go (j := 12) (L' := [.ref r0, .int x1, .null]) (S' := [.int s0]) (h' := h) rfl rfl rfl rfl
theorem b_Pa_takeLineOfFact_11 {d : Nat} (x1 : Int32) (r0 : Nat) (h : AH) (Q : Option Value → AH → Prop) : Wp d P_Pa_takeLineOfFact 11 [.ref r0, .int x1, .null] [] h Q ↔ Wp d P_Pa_takeLineOfFact 12 [.ref r0, .int x1, .null] [.int 0] h Q :=
    r_iconst (j := 12) (x := 0) rfl i32_0 rfl
theorem b_Pa_takeLineOfFact_12 {d : Nat} (x1 s0 : Int32) (r0 : Nat) (h : AH) (Q : Option Value → AH → Prop) : Wp d P_Pa_takeLineOfFact 12 [.ref r0, .int x1, .null] [.int s0] h Q ↔ (hK h r0 = 2) ∧ (Cl d q_Pg_add [.ref (hR h r0 2), .int ((10000 + x1) + s0)] h (fun r h' => Wp d P_Pa_takeLineOfFact 21 [.ref r0, .int x1, .int s0] (r.toList ++ []) h' Q)) :=
    (r_go (j := 13) (L' := [.ref r0, .int x1, .int s0]) (S' := []) (h' := h) rfl rfl rfl rfl).trans <|
    (r_go (j := 14) (L' := [.ref r0, .int x1, .int s0]) (S' := [.ref r0]) (h' := h) rfl rfl rfl rfl).trans <|
    (r_guard (j := 15) (L' := [.ref r0, .int x1, .int s0]) (S' := [.ref (hR h r0 2)]) (h' := h) (p := hK h r0 = 2) rfl rfl rfl rfl (decide_eq_true_iff)).trans <| and_r <|
    (r_sipush (j := 16) (x := 10000) rfl i32_10000 rfl).trans <|
    (r_go (j := 17) (L' := [.ref r0, .int x1, .int s0]) (S' := [.int x1, .int 10000, .ref (hR h r0 2)]) (h' := h) rfl rfl rfl rfl).trans <|
    (r_go (j := 18) (L' := [.ref r0, .int x1, .int s0]) (S' := [.int (10000 + x1), .ref (hR h r0 2)]) (h' := h) rfl rfl rfl rfl).trans <|
    (r_go (j := 19) (L' := [.ref r0, .int x1, .int s0]) (S' := [.int s0, .int (10000 + x1), .ref (hR h r0 2)]) (h' := h) rfl rfl rfl rfl).trans <|
    (r_go (j := 20) (L' := [.ref r0, .int x1, .int s0]) (S' := [.int ((10000 + x1) + s0), .ref (hR h r0 2)]) (h' := h) rfl rfl rfl rfl).trans <|
    r_call (j := 21) (a := [.ref (hR h r0 2), .int ((10000 + x1) + s0)]) (S' := []) rfl rfl rfl rfl rfl rfl rfl
theorem b_Pa_takeLineOfFact_21 {d : Nat} (x1 x2 : Int32) (r0 : Nat) (h : AH) (Q : Option Value → AH → Prop) : Wp d P_Pa_takeLineOfFact 21 [.ref r0, .int x1, .int x2] [] h Q ↔ Q (none) h :=
    r_ret rfl rfl rfl
theorem e_Pa_takeLineOfFact {d : Nat} (x1 : Int32) (r0 : Nat) (h : AH) (Q : Option Value → AH → Prop) : Cl (d + 1) q_Pa_takeLineOfFact [.ref r0, .int x1] h Q ↔ hK h r0 = 2 ∧ Wp d P_Pa_takeLineOfFact 0 [.ref r0, .int x1, .null] [] h (fun r h' => rtk (none) r = true ∧ Q r h') :=
    (Cl_method (t := m_Pa_takeLineOfFact) rfl).trans (and_congr_left fun _ => decide_eq_true_iff)
/-! PenThatJumps$Person.<init>()V -/
theorem b_Pe_init_0 {d : Nat} (r0 : Nat) (h : AH) (Q : Option Value → AH → Prop) : Wp d P_Pe_init 0 [.ref r0] [] h Q ↔ Cl d 301 [.ref r0] h (fun r h' => Wp d P_Pe_init 2 [.ref r0] (r.toList ++ []) h' Q) :=
    (r_go (j := 1) (L' := [.ref r0]) (S' := [.ref r0]) (h' := h) rfl rfl rfl rfl).trans <|
    r_call (j := 2) (a := [.ref r0]) (S' := []) rfl rfl rfl rfl rfl rfl rfl
theorem b_Pe_init_2 {d : Nat} (r0 : Nat) (h : AH) (Q : Option Value → AH → Prop) : Wp d P_Pe_init 2 [.ref r0] [] h Q ↔ Q (none) h :=
    r_ret rfl rfl rfl
theorem e_Pe_init {d : Nat} (r0 : Nat) (h : AH) (Q : Option Value → AH → Prop) : Cl (d + 1) q_Pe_init [.ref r0] h Q ↔ hK h r0 = 3 ∧ Wp d P_Pe_init 0 [.ref r0] [] h (fun r h' => rtk (none) r = true ∧ Q r h') :=
    (Cl_method (t := m_Pe_init) rfl).trans (and_congr_left fun _ => decide_eq_true_iff)
/-! PenThatJumps$Person.tell(IZIZ)V -/
theorem b_Pe_tell_0 {d : Nat} (x1 x2 x3 x4 : Int32) (r0 : Nat) (h : AH) (Q : Option Value → AH → Prop) : Wp d P_Pe_tell 0 [.ref r0, .int x1, .int x2, .int x3, .int x4] [] h Q ↔ (hK h r0 = 3 ∧ i01 1 = true) ∧ ((hK (sI h r0 0 1) r0 = 3) ∧ ((hK (sI (sI h r0 0 1) r0 1 x1) r0 = 3 ∧ i01 x2 = true) ∧ ((hK (sI (sI (sI h r0 0 1) r0 1 x1) r0 2 x2) r0 = 3) ∧ ((hK (sI (sI (sI (sI h r0 0 1) r0 1 x1) r0 2 x2) r0 3 x3) r0 = 3 ∧ i01 x4 = true) ∧ (Q (none) (sI (sI (sI (sI (sI h r0 0 1) r0 1 x1) r0 2 x2) r0 3 x3) r0 4 x4)))))) :=
    (r_go (j := 1) (L' := [.ref r0, .int x1, .int x2, .int x3, .int x4]) (S' := [.ref r0]) (h' := h) rfl rfl rfl rfl).trans <|
    (r_iconst (j := 2) (x := 1) rfl i32_1 rfl).trans <|
    (r_guard (j := 3) (L' := [.ref r0, .int x1, .int x2, .int x3, .int x4]) (S' := []) (h' := (sI h r0 0 1)) (p := hK h r0 = 3 ∧ i01 1 = true) rfl rfl rfl rfl (pfZ rfl)).trans <| and_r <|
    (r_go (j := 4) (L' := [.ref r0, .int x1, .int x2, .int x3, .int x4]) (S' := [.ref r0]) (h' := (sI h r0 0 1)) rfl rfl rfl rfl).trans <|
    (r_go (j := 5) (L' := [.ref r0, .int x1, .int x2, .int x3, .int x4]) (S' := [.int x1, .ref r0]) (h' := (sI h r0 0 1)) rfl rfl rfl rfl).trans <|
    (r_guard (j := 6) (L' := [.ref r0, .int x1, .int x2, .int x3, .int x4]) (S' := []) (h' := (sI (sI h r0 0 1) r0 1 x1)) (p := hK (sI h r0 0 1) r0 = 3) rfl rfl rfl rfl (pfI rfl)).trans <| and_r <|
    (r_go (j := 7) (L' := [.ref r0, .int x1, .int x2, .int x3, .int x4]) (S' := [.ref r0]) (h' := (sI (sI h r0 0 1) r0 1 x1)) rfl rfl rfl rfl).trans <|
    (r_go (j := 8) (L' := [.ref r0, .int x1, .int x2, .int x3, .int x4]) (S' := [.int x2, .ref r0]) (h' := (sI (sI h r0 0 1) r0 1 x1)) rfl rfl rfl rfl).trans <|
    (r_guard (j := 9) (L' := [.ref r0, .int x1, .int x2, .int x3, .int x4]) (S' := []) (h' := (sI (sI (sI h r0 0 1) r0 1 x1) r0 2 x2)) (p := hK (sI (sI h r0 0 1) r0 1 x1) r0 = 3 ∧ i01 x2 = true) rfl rfl rfl rfl (pfZ rfl)).trans <| and_r <|
    (r_go (j := 10) (L' := [.ref r0, .int x1, .int x2, .int x3, .int x4]) (S' := [.ref r0]) (h' := (sI (sI (sI h r0 0 1) r0 1 x1) r0 2 x2)) rfl rfl rfl rfl).trans <|
    (r_go (j := 11) (L' := [.ref r0, .int x1, .int x2, .int x3, .int x4]) (S' := [.int x3, .ref r0]) (h' := (sI (sI (sI h r0 0 1) r0 1 x1) r0 2 x2)) rfl rfl rfl rfl).trans <|
    (r_guard (j := 12) (L' := [.ref r0, .int x1, .int x2, .int x3, .int x4]) (S' := []) (h' := (sI (sI (sI (sI h r0 0 1) r0 1 x1) r0 2 x2) r0 3 x3)) (p := hK (sI (sI (sI h r0 0 1) r0 1 x1) r0 2 x2) r0 = 3) rfl rfl rfl rfl (pfI rfl)).trans <| and_r <|
    (r_go (j := 13) (L' := [.ref r0, .int x1, .int x2, .int x3, .int x4]) (S' := [.ref r0]) (h' := (sI (sI (sI (sI h r0 0 1) r0 1 x1) r0 2 x2) r0 3 x3)) rfl rfl rfl rfl).trans <|
    (r_go (j := 14) (L' := [.ref r0, .int x1, .int x2, .int x3, .int x4]) (S' := [.int x4, .ref r0]) (h' := (sI (sI (sI (sI h r0 0 1) r0 1 x1) r0 2 x2) r0 3 x3)) rfl rfl rfl rfl).trans <|
    (r_guard (j := 15) (L' := [.ref r0, .int x1, .int x2, .int x3, .int x4]) (S' := []) (h' := (sI (sI (sI (sI (sI h r0 0 1) r0 1 x1) r0 2 x2) r0 3 x3) r0 4 x4)) (p := hK (sI (sI (sI (sI h r0 0 1) r0 1 x1) r0 2 x2) r0 3 x3) r0 = 3 ∧ i01 x4 = true) rfl rfl rfl rfl (pfZ rfl)).trans <| and_r <|
    r_ret rfl rfl rfl
theorem e_Pe_tell {d : Nat} (x1 x2 x3 x4 : Int32) (r0 : Nat) (h : AH) (Q : Option Value → AH → Prop) : Cl (d + 1) q_Pe_tell [.ref r0, .int x1, .int x2, .int x3, .int x4] h Q ↔ hK h r0 = 3 ∧ Wp d P_Pe_tell 0 [.ref r0, .int x1, .int x2, .int x3, .int x4] [] h (fun r h' => rtk (none) r = true ∧ Q r h') :=
    (Cl_method (t := m_Pe_tell) rfl).trans (and_congr_left fun _ => decide_eq_true_iff)
/-! PenThatJumps$Plan.<init>()V -/
theorem b_Pl_init_0 {d : Nat} (r0 : Nat) (h : AH) (Q : Option Value → AH → Prop) : Wp d P_Pl_init 0 [.ref r0] [] h Q ↔ Cl d 301 [.ref r0] h (fun r h' => Wp d P_Pl_init 2 [.ref r0] (r.toList ++ []) h' Q) :=
    (r_go (j := 1) (L' := [.ref r0]) (S' := [.ref r0]) (h' := h) rfl rfl rfl rfl).trans <|
    r_call (j := 2) (a := [.ref r0]) (S' := []) rfl rfl rfl rfl rfl rfl rfl
theorem b_Pl_init_2 {d : Nat} (r0 : Nat) (h : AH) (Q : Option Value → AH → Prop) : Wp d P_Pl_init 2 [.ref r0] [] h Q ↔ ((0 : Int32) ≤ 12 ∧ Int32.toNatClampNeg 12 ≤ 10000) ∧ (Wp d P_Pl_init 5 [.ref r0] [.ref (hz h), .ref r0] (mkC h 20 (Int32.toNatClampNeg 12) (Int32.toNatClampNeg 12)) Q) :=
    (r_go (j := 3) (L' := [.ref r0]) (S' := [.ref r0]) (h' := h) rfl rfl rfl rfl).trans <|
    (r_bipush (j := 4) (x := 12) rfl i32_12 rfl).trans <|
    r_guard (j := 5) (L' := [.ref r0]) (S' := [.ref (hz h), .ref r0]) (h' := (mkC h 20 (Int32.toNatClampNeg 12) (Int32.toNatClampNeg 12))) (p := (0 : Int32) ≤ 12 ∧ Int32.toNatClampNeg 12 ≤ 10000) rfl rfl rfl rfl (and2 decide_eq_true_iff decide_eq_true_iff)
theorem b_Pl_init_5 {d : Nat} (r0 t0 t1 : Nat) (h : AH) (Q : Option Value → AH → Prop) : Wp d P_Pl_init 5 [.ref r0] [.ref t0, .ref t1] h Q ↔ (hK h t1 = 4) ∧ (Wp d P_Pl_init 6 [.ref r0] [] (sR h t1 0 t0) Q) :=
    r_guard (j := 6) (L' := [.ref r0]) (S' := []) (h' := (sR h t1 0 t0)) (p := hK h t1 = 4) rfl rfl rfl rfl (pfR rfl)
theorem b_Pl_init_6 {d : Nat} (r0 : Nat) (h : AH) (Q : Option Value → AH → Prop) : Wp d P_Pl_init 6 [.ref r0] [] h Q ↔ ((0 : Int32) ≤ 12 ∧ Int32.toNatClampNeg 12 ≤ 10000) ∧ (Wp d P_Pl_init 9 [.ref r0] [.ref (hz h), .ref r0] (mkC h 20 (Int32.toNatClampNeg 12) (Int32.toNatClampNeg 12)) Q) :=
    (r_go (j := 7) (L' := [.ref r0]) (S' := [.ref r0]) (h' := h) rfl rfl rfl rfl).trans <|
    (r_bipush (j := 8) (x := 12) rfl i32_12 rfl).trans <|
    r_guard (j := 9) (L' := [.ref r0]) (S' := [.ref (hz h), .ref r0]) (h' := (mkC h 20 (Int32.toNatClampNeg 12) (Int32.toNatClampNeg 12))) (p := (0 : Int32) ≤ 12 ∧ Int32.toNatClampNeg 12 ≤ 10000) rfl rfl rfl rfl (and2 decide_eq_true_iff decide_eq_true_iff)
theorem b_Pl_init_9 {d : Nat} (r0 t0 t1 : Nat) (h : AH) (Q : Option Value → AH → Prop) : Wp d P_Pl_init 9 [.ref r0] [.ref t0, .ref t1] h Q ↔ (hK h t1 = 4) ∧ (Wp d P_Pl_init 10 [.ref r0] [] (sR h t1 1 t0) Q) :=
    r_guard (j := 10) (L' := [.ref r0]) (S' := []) (h' := (sR h t1 1 t0)) (p := hK h t1 = 4) rfl rfl rfl rfl (pfR rfl)
theorem b_Pl_init_10 {d : Nat} (r0 : Nat) (h : AH) (Q : Option Value → AH → Prop) : Wp d P_Pl_init 10 [.ref r0] [] h Q ↔ ((0 : Int32) ≤ 12 ∧ Int32.toNatClampNeg 12 ≤ 10000) ∧ (Wp d P_Pl_init 13 [.ref r0] [.ref (hz h), .ref r0] (mkC h 20 (Int32.toNatClampNeg 12) (Int32.toNatClampNeg 12)) Q) :=
    (r_go (j := 11) (L' := [.ref r0]) (S' := [.ref r0]) (h' := h) rfl rfl rfl rfl).trans <|
    (r_bipush (j := 12) (x := 12) rfl i32_12 rfl).trans <|
    r_guard (j := 13) (L' := [.ref r0]) (S' := [.ref (hz h), .ref r0]) (h' := (mkC h 20 (Int32.toNatClampNeg 12) (Int32.toNatClampNeg 12))) (p := (0 : Int32) ≤ 12 ∧ Int32.toNatClampNeg 12 ≤ 10000) rfl rfl rfl rfl (and2 decide_eq_true_iff decide_eq_true_iff)
theorem b_Pl_init_13 {d : Nat} (r0 t0 t1 : Nat) (h : AH) (Q : Option Value → AH → Prop) : Wp d P_Pl_init 13 [.ref r0] [.ref t0, .ref t1] h Q ↔ (hK h t1 = 4) ∧ (Wp d P_Pl_init 14 [.ref r0] [] (sR h t1 2 t0) Q) :=
    r_guard (j := 14) (L' := [.ref r0]) (S' := []) (h' := (sR h t1 2 t0)) (p := hK h t1 = 4) rfl rfl rfl rfl (pfR rfl)
theorem b_Pl_init_14 {d : Nat} (r0 : Nat) (h : AH) (Q : Option Value → AH → Prop) : Wp d P_Pl_init 14 [.ref r0] [] h Q ↔ Q (none) h :=
    r_ret rfl rfl rfl
theorem e_Pl_init {d : Nat} (r0 : Nat) (h : AH) (Q : Option Value → AH → Prop) : Cl (d + 1) q_Pl_init [.ref r0] h Q ↔ hK h r0 = 4 ∧ Wp d P_Pl_init 0 [.ref r0] [] h (fun r h' => rtk (none) r = true ∧ Q r h') :=
    (Cl_method (t := m_Pl_init) rfl).trans (and_congr_left fun _ => decide_eq_true_iff)
/-! PenThatJumps$Plan.add(III)V -/
theorem b_Pl_add_0 {d : Nat} (x1 x2 x3 : Int32) (r0 : Nat) (h : AH) (Q : Option Value → AH → Prop) : Wp d P_Pl_add 0 [.ref r0, .int x1, .int x2, .int x3] [] h Q ↔ (hK h r0 = 4) ∧ (((hI h r0 3) < 0 → Wp d P_Pl_add 21 [.ref r0, .int x1, .int x2, .int x3] [] h Q) ∧ (¬ ((hI h r0 3) < 0) → Wp d P_Pl_add 3 [.ref r0, .int x1, .int x2, .int x3] [] h Q)) :=
    (r_go (j := 1) (L' := [.ref r0, .int x1, .int x2, .int x3]) (S' := [.ref r0]) (h' := h) rfl rfl rfl rfl).trans <|
    (r_guard (j := 2) (L' := [.ref r0, .int x1, .int x2, .int x3]) (S' := [.int (hI h r0 3)]) (h' := h) (p := hK h r0 = 4) rfl rfl rfl rfl (decide_eq_true_iff)).trans <| and_r <|
    r_if (j := 3) rfl (cd_lt _ _) rfl
theorem b_Pl_add_3 {d : Nat} (x1 x2 x3 : Int32) (r0 : Nat) (h : AH) (Q : Option Value → AH → Prop) : Wp d P_Pl_add 3 [.ref r0, .int x1, .int x2, .int x3] [] h Q ↔ (hK h r0 = 4) ∧ ((hK h r0 = 4) ∧ ((20 ≤ hK h (hR h r0 0) ∧ hK h (hR h r0 0) ≠ 40 ∧ hK h (hR h r0 0) ≠ 42 ∧ hK h (hR h r0 0) ≤ 45 ∧ hK h (hR h r0 0) ≠ 43) ∧ (((Int32.ofNat (hN h (hR h r0 0))) ≤ (hI h r0 3) → Wp d P_Pl_add 21 [.ref r0, .int x1, .int x2, .int x3] [] h Q) ∧ (¬ ((Int32.ofNat (hN h (hR h r0 0))) ≤ (hI h r0 3)) → Wp d P_Pl_add 9 [.ref r0, .int x1, .int x2, .int x3] [] h Q)))) :=
    (r_go (j := 4) (L' := [.ref r0, .int x1, .int x2, .int x3]) (S' := [.ref r0]) (h' := h) rfl rfl rfl rfl).trans <|
    (r_guard (j := 5) (L' := [.ref r0, .int x1, .int x2, .int x3]) (S' := [.int (hI h r0 3)]) (h' := h) (p := hK h r0 = 4) rfl rfl rfl rfl (decide_eq_true_iff)).trans <| and_r <|
    (r_go (j := 6) (L' := [.ref r0, .int x1, .int x2, .int x3]) (S' := [.ref r0, .int (hI h r0 3)]) (h' := h) rfl rfl rfl rfl).trans <|
    (r_guard (j := 7) (L' := [.ref r0, .int x1, .int x2, .int x3]) (S' := [.ref (hR h r0 0), .int (hI h r0 3)]) (h' := h) (p := hK h r0 = 4) rfl rfl rfl rfl (decide_eq_true_iff)).trans <| and_r <|
    (r_guard (j := 8) (L' := [.ref r0, .int x1, .int x2, .int x3]) (S' := [.int (Int32.ofNat (hN h (hR h r0 0))), .int (hI h r0 3)]) (h' := h) (p := 20 ≤ hK h (hR h r0 0) ∧ hK h (hR h r0 0) ≠ 40 ∧ hK h (hR h r0 0) ≠ 42 ∧ hK h (hR h r0 0) ≤ 45 ∧ hK h (hR h r0 0) ≠ 43) rfl rfl rfl rfl (decide_eq_true_iff)).trans <| and_r <|
    r_icmp (j := 9) rfl (cd_ge _ _) rfl
theorem b_Pl_add_9 {d : Nat} (x1 x2 x3 : Int32) (r0 : Nat) (h : AH) (Q : Option Value → AH → Prop) : Wp d P_Pl_add 9 [.ref r0, .int x1, .int x2, .int x3] [] h Q ↔ (hK h r0 = 4) ∧ ((hK h r0 = 4) ∧ ((20 ≤ hK h (hR h r0 1) ∧ hK h (hR h r0 1) ≠ 40 ∧ hK h (hR h r0 1) ≠ 42 ∧ hK h (hR h r0 1) ≤ 45 ∧ hK h (hR h r0 1) ≠ 43) ∧ (((Int32.ofNat (hN h (hR h r0 1))) ≤ (hI h r0 3) → Wp d P_Pl_add 21 [.ref r0, .int x1, .int x2, .int x3] [] h Q) ∧ (¬ ((Int32.ofNat (hN h (hR h r0 1))) ≤ (hI h r0 3)) → Wp d P_Pl_add 15 [.ref r0, .int x1, .int x2, .int x3] [] h Q)))) :=
    (r_go (j := 10) (L' := [.ref r0, .int x1, .int x2, .int x3]) (S' := [.ref r0]) (h' := h) rfl rfl rfl rfl).trans <|
    (r_guard (j := 11) (L' := [.ref r0, .int x1, .int x2, .int x3]) (S' := [.int (hI h r0 3)]) (h' := h) (p := hK h r0 = 4) rfl rfl rfl rfl (decide_eq_true_iff)).trans <| and_r <|
    (r_go (j := 12) (L' := [.ref r0, .int x1, .int x2, .int x3]) (S' := [.ref r0, .int (hI h r0 3)]) (h' := h) rfl rfl rfl rfl).trans <|
    (r_guard (j := 13) (L' := [.ref r0, .int x1, .int x2, .int x3]) (S' := [.ref (hR h r0 1), .int (hI h r0 3)]) (h' := h) (p := hK h r0 = 4) rfl rfl rfl rfl (decide_eq_true_iff)).trans <| and_r <|
    (r_guard (j := 14) (L' := [.ref r0, .int x1, .int x2, .int x3]) (S' := [.int (Int32.ofNat (hN h (hR h r0 1))), .int (hI h r0 3)]) (h' := h) (p := 20 ≤ hK h (hR h r0 1) ∧ hK h (hR h r0 1) ≠ 40 ∧ hK h (hR h r0 1) ≠ 42 ∧ hK h (hR h r0 1) ≤ 45 ∧ hK h (hR h r0 1) ≠ 43) rfl rfl rfl rfl (decide_eq_true_iff)).trans <| and_r <|
    r_icmp (j := 15) rfl (cd_ge _ _) rfl
theorem b_Pl_add_15 {d : Nat} (x1 x2 x3 : Int32) (r0 : Nat) (h : AH) (Q : Option Value → AH → Prop) : Wp d P_Pl_add 15 [.ref r0, .int x1, .int x2, .int x3] [] h Q ↔ (hK h r0 = 4) ∧ ((hK h r0 = 4) ∧ ((20 ≤ hK h (hR h r0 2) ∧ hK h (hR h r0 2) ≠ 40 ∧ hK h (hR h r0 2) ≠ 42 ∧ hK h (hR h r0 2) ≤ 45 ∧ hK h (hR h r0 2) ≠ 43) ∧ (((hI h r0 3) < (Int32.ofNat (hN h (hR h r0 2))) → Wp d P_Pl_add 22 [.ref r0, .int x1, .int x2, .int x3] [] h Q) ∧ (¬ ((hI h r0 3) < (Int32.ofNat (hN h (hR h r0 2)))) → Wp d P_Pl_add 21 [.ref r0, .int x1, .int x2, .int x3] [] h Q)))) :=
    (r_go (j := 16) (L' := [.ref r0, .int x1, .int x2, .int x3]) (S' := [.ref r0]) (h' := h) rfl rfl rfl rfl).trans <|
    (r_guard (j := 17) (L' := [.ref r0, .int x1, .int x2, .int x3]) (S' := [.int (hI h r0 3)]) (h' := h) (p := hK h r0 = 4) rfl rfl rfl rfl (decide_eq_true_iff)).trans <| and_r <|
    (r_go (j := 18) (L' := [.ref r0, .int x1, .int x2, .int x3]) (S' := [.ref r0, .int (hI h r0 3)]) (h' := h) rfl rfl rfl rfl).trans <|
    (r_guard (j := 19) (L' := [.ref r0, .int x1, .int x2, .int x3]) (S' := [.ref (hR h r0 2), .int (hI h r0 3)]) (h' := h) (p := hK h r0 = 4) rfl rfl rfl rfl (decide_eq_true_iff)).trans <| and_r <|
    (r_guard (j := 20) (L' := [.ref r0, .int x1, .int x2, .int x3]) (S' := [.int (Int32.ofNat (hN h (hR h r0 2))), .int (hI h r0 3)]) (h' := h) (p := 20 ≤ hK h (hR h r0 2) ∧ hK h (hR h r0 2) ≠ 40 ∧ hK h (hR h r0 2) ≠ 42 ∧ hK h (hR h r0 2) ≤ 45 ∧ hK h (hR h r0 2) ≠ 43) rfl rfl rfl rfl (decide_eq_true_iff)).trans <| and_r <|
    r_icmp (j := 21) rfl (cd_lt _ _) rfl
theorem b_Pl_add_21 {d : Nat} (x1 x2 x3 : Int32) (r0 : Nat) (h : AH) (Q : Option Value → AH → Prop) : Wp d P_Pl_add 21 [.ref r0, .int x1, .int x2, .int x3] [] h Q ↔ Q (none) h :=
    r_ret rfl rfl rfl
theorem b_Pl_add_22 {d : Nat} (x1 x2 x3 : Int32) (r0 : Nat) (h : AH) (Q : Option Value → AH → Prop) : Wp d P_Pl_add 22 [.ref r0, .int x1, .int x2, .int x3] [] h Q ↔ (hK h r0 = 4) ∧ ((hK h r0 = 4) ∧ ((hK h (hR h r0 0) = 20 ∧ ixo (hI h r0 3) (hN h (hR h r0 0)) = true) ∧ ((hK (sI h (hR h r0 0) (Int32.toNatClampNeg (hI h r0 3)) x1) r0 = 4) ∧ ((hK (sI h (hR h r0 0) (Int32.toNatClampNeg (hI h r0 3)) x1) r0 = 4) ∧ ((hK (sI h (hR h r0 0) (Int32.toNatClampNeg (hI h r0 3)) x1) (hR (sI h (hR h r0 0) (Int32.toNatClampNeg (hI h r0 3)) x1) r0 1) = 20 ∧ ixo (hI (sI h (hR h r0 0) (Int32.toNatClampNeg (hI h r0 3)) x1) r0 3) (hN (sI h (hR h r0 0) (Int32.toNatClampNeg (hI h r0 3)) x1) (hR (sI h (hR h r0 0) (Int32.toNatClampNeg (hI h r0 3)) x1) r0 1)) = true) ∧ ((hK (sI (sI h (hR h r0 0) (Int32.toNatClampNeg (hI h r0 3)) x1) (hR (sI h (hR h r0 0) (Int32.toNatClampNeg (hI h r0 3)) x1) r0 1) (Int32.toNatClampNeg (hI (sI h (hR h r0 0) (Int32.toNatClampNeg (hI h r0 3)) x1) r0 3)) x2) r0 = 4) ∧ ((hK (sI (sI h (hR h r0 0) (Int32.toNatClampNeg (hI h r0 3)) x1) (hR (sI h (hR h r0 0) (Int32.toNatClampNeg (hI h r0 3)) x1) r0 1) (Int32.toNatClampNeg (hI (sI h (hR h r0 0) (Int32.toNatClampNeg (hI h r0 3)) x1) r0 3)) x2) r0 = 4) ∧ ((hK (sI (sI h (hR h r0 0) (Int32.toNatClampNeg (hI h r0 3)) x1) (hR (sI h (hR h r0 0) (Int32.toNatClampNeg (hI h r0 3)) x1) r0 1) (Int32.toNatClampNeg (hI (sI h (hR h r0 0) (Int32.toNatClampNeg (hI h r0 3)) x1) r0 3)) x2) (hR (sI (sI h (hR h r0 0) (Int32.toNatClampNeg (hI h r0 3)) x1) (hR (sI h (hR h r0 0) (Int32.toNatClampNeg (hI h r0 3)) x1) r0 1) (Int32.toNatClampNeg (hI (sI h (hR h r0 0) (Int32.toNatClampNeg (hI h r0 3)) x1) r0 3)) x2) r0 2) = 20 ∧ ixo (hI (sI (sI h (hR h r0 0) (Int32.toNatClampNeg (hI h r0 3)) x1) (hR (sI h (hR h r0 0) (Int32.toNatClampNeg (hI h r0 3)) x1) r0 1) (Int32.toNatClampNeg (hI (sI h (hR h r0 0) (Int32.toNatClampNeg (hI h r0 3)) x1) r0 3)) x2) r0 3) (hN (sI (sI h (hR h r0 0) (Int32.toNatClampNeg (hI h r0 3)) x1) (hR (sI h (hR h r0 0) (Int32.toNatClampNeg (hI h r0 3)) x1) r0 1) (Int32.toNatClampNeg (hI (sI h (hR h r0 0) (Int32.toNatClampNeg (hI h r0 3)) x1) r0 3)) x2) (hR (sI (sI h (hR h r0 0) (Int32.toNatClampNeg (hI h r0 3)) x1) (hR (sI h (hR h r0 0) (Int32.toNatClampNeg (hI h r0 3)) x1) r0 1) (Int32.toNatClampNeg (hI (sI h (hR h r0 0) (Int32.toNatClampNeg (hI h r0 3)) x1) r0 3)) x2) r0 2)) = true) ∧ ((hK (sI (sI (sI h (hR h r0 0) (Int32.toNatClampNeg (hI h r0 3)) x1) (hR (sI h (hR h r0 0) (Int32.toNatClampNeg (hI h r0 3)) x1) r0 1) (Int32.toNatClampNeg (hI (sI h (hR h r0 0) (Int32.toNatClampNeg (hI h r0 3)) x1) r0 3)) x2) (hR (sI (sI h (hR h r0 0) (Int32.toNatClampNeg (hI h r0 3)) x1) (hR (sI h (hR h r0 0) (Int32.toNatClampNeg (hI h r0 3)) x1) r0 1) (Int32.toNatClampNeg (hI (sI h (hR h r0 0) (Int32.toNatClampNeg (hI h r0 3)) x1) r0 3)) x2) r0 2) (Int32.toNatClampNeg (hI (sI (sI h (hR h r0 0) (Int32.toNatClampNeg (hI h r0 3)) x1) (hR (sI h (hR h r0 0) (Int32.toNatClampNeg (hI h r0 3)) x1) r0 1) (Int32.toNatClampNeg (hI (sI h (hR h r0 0) (Int32.toNatClampNeg (hI h r0 3)) x1) r0 3)) x2) r0 3)) x3) r0 = 4) ∧ ((hK (sI (sI (sI h (hR h r0 0) (Int32.toNatClampNeg (hI h r0 3)) x1) (hR (sI h (hR h r0 0) (Int32.toNatClampNeg (hI h r0 3)) x1) r0 1) (Int32.toNatClampNeg (hI (sI h (hR h r0 0) (Int32.toNatClampNeg (hI h r0 3)) x1) r0 3)) x2) (hR (sI (sI h (hR h r0 0) (Int32.toNatClampNeg (hI h r0 3)) x1) (hR (sI h (hR h r0 0) (Int32.toNatClampNeg (hI h r0 3)) x1) r0 1) (Int32.toNatClampNeg (hI (sI h (hR h r0 0) (Int32.toNatClampNeg (hI h r0 3)) x1) r0 3)) x2) r0 2) (Int32.toNatClampNeg (hI (sI (sI h (hR h r0 0) (Int32.toNatClampNeg (hI h r0 3)) x1) (hR (sI h (hR h r0 0) (Int32.toNatClampNeg (hI h r0 3)) x1) r0 1) (Int32.toNatClampNeg (hI (sI h (hR h r0 0) (Int32.toNatClampNeg (hI h r0 3)) x1) r0 3)) x2) r0 3)) x3) r0 = 4) ∧ (Q (none) (sI (sI (sI (sI h (hR h r0 0) (Int32.toNatClampNeg (hI h r0 3)) x1) (hR (sI h (hR h r0 0) (Int32.toNatClampNeg (hI h r0 3)) x1) r0 1) (Int32.toNatClampNeg (hI (sI h (hR h r0 0) (Int32.toNatClampNeg (hI h r0 3)) x1) r0 3)) x2) (hR (sI (sI h (hR h r0 0) (Int32.toNatClampNeg (hI h r0 3)) x1) (hR (sI h (hR h r0 0) (Int32.toNatClampNeg (hI h r0 3)) x1) r0 1) (Int32.toNatClampNeg (hI (sI h (hR h r0 0) (Int32.toNatClampNeg (hI h r0 3)) x1) r0 3)) x2) r0 2) (Int32.toNatClampNeg (hI (sI (sI h (hR h r0 0) (Int32.toNatClampNeg (hI h r0 3)) x1) (hR (sI h (hR h r0 0) (Int32.toNatClampNeg (hI h r0 3)) x1) r0 1) (Int32.toNatClampNeg (hI (sI h (hR h r0 0) (Int32.toNatClampNeg (hI h r0 3)) x1) r0 3)) x2) r0 3)) x3) r0 3 ((hI (sI (sI (sI h (hR h r0 0) (Int32.toNatClampNeg (hI h r0 3)) x1) (hR (sI h (hR h r0 0) (Int32.toNatClampNeg (hI h r0 3)) x1) r0 1) (Int32.toNatClampNeg (hI (sI h (hR h r0 0) (Int32.toNatClampNeg (hI h r0 3)) x1) r0 3)) x2) (hR (sI (sI h (hR h r0 0) (Int32.toNatClampNeg (hI h r0 3)) x1) (hR (sI h (hR h r0 0) (Int32.toNatClampNeg (hI h r0 3)) x1) r0 1) (Int32.toNatClampNeg (hI (sI h (hR h r0 0) (Int32.toNatClampNeg (hI h r0 3)) x1) r0 3)) x2) r0 2) (Int32.toNatClampNeg (hI (sI (sI h (hR h r0 0) (Int32.toNatClampNeg (hI h r0 3)) x1) (hR (sI h (hR h r0 0) (Int32.toNatClampNeg (hI h r0 3)) x1) r0 1) (Int32.toNatClampNeg (hI (sI h (hR h r0 0) (Int32.toNatClampNeg (hI h r0 3)) x1) r0 3)) x2) r0 3)) x3) r0 3) + 1))))))))))))) :=
    (r_go (j := 23) (L' := [.ref r0, .int x1, .int x2, .int x3]) (S' := [.ref r0]) (h' := h) rfl rfl rfl rfl).trans <|
    (r_guard (j := 24) (L' := [.ref r0, .int x1, .int x2, .int x3]) (S' := [.ref (hR h r0 0)]) (h' := h) (p := hK h r0 = 4) rfl rfl rfl rfl (decide_eq_true_iff)).trans <| and_r <|
    (r_go (j := 25) (L' := [.ref r0, .int x1, .int x2, .int x3]) (S' := [.ref r0, .ref (hR h r0 0)]) (h' := h) rfl rfl rfl rfl).trans <|
    (r_guard (j := 26) (L' := [.ref r0, .int x1, .int x2, .int x3]) (S' := [.int (hI h r0 3), .ref (hR h r0 0)]) (h' := h) (p := hK h r0 = 4) rfl rfl rfl rfl (decide_eq_true_iff)).trans <| and_r <|
    (r_go (j := 27) (L' := [.ref r0, .int x1, .int x2, .int x3]) (S' := [.int x1, .int (hI h r0 3), .ref (hR h r0 0)]) (h' := h) rfl rfl rfl rfl).trans <|
    (r_guard (j := 28) (L' := [.ref r0, .int x1, .int x2, .int x3]) (S' := []) (h' := (sI h (hR h r0 0) (Int32.toNatClampNeg (hI h r0 3)) x1)) (p := hK h (hR h r0 0) = 20 ∧ ixo (hI h r0 3) (hN h (hR h r0 0)) = true) rfl rfl rfl rfl (and2 decide_eq_true_iff Iff.rfl)).trans <| and_r <|
    (r_go (j := 29) (L' := [.ref r0, .int x1, .int x2, .int x3]) (S' := [.ref r0]) (h' := (sI h (hR h r0 0) (Int32.toNatClampNeg (hI h r0 3)) x1)) rfl rfl rfl rfl).trans <|
    (r_guard (j := 30) (L' := [.ref r0, .int x1, .int x2, .int x3]) (S' := [.ref (hR (sI h (hR h r0 0) (Int32.toNatClampNeg (hI h r0 3)) x1) r0 1)]) (h' := (sI h (hR h r0 0) (Int32.toNatClampNeg (hI h r0 3)) x1)) (p := hK (sI h (hR h r0 0) (Int32.toNatClampNeg (hI h r0 3)) x1) r0 = 4) rfl rfl rfl rfl (decide_eq_true_iff)).trans <| and_r <|
    (r_go (j := 31) (L' := [.ref r0, .int x1, .int x2, .int x3]) (S' := [.ref r0, .ref (hR (sI h (hR h r0 0) (Int32.toNatClampNeg (hI h r0 3)) x1) r0 1)]) (h' := (sI h (hR h r0 0) (Int32.toNatClampNeg (hI h r0 3)) x1)) rfl rfl rfl rfl).trans <|
    (r_guard (j := 32) (L' := [.ref r0, .int x1, .int x2, .int x3]) (S' := [.int (hI (sI h (hR h r0 0) (Int32.toNatClampNeg (hI h r0 3)) x1) r0 3), .ref (hR (sI h (hR h r0 0) (Int32.toNatClampNeg (hI h r0 3)) x1) r0 1)]) (h' := (sI h (hR h r0 0) (Int32.toNatClampNeg (hI h r0 3)) x1)) (p := hK (sI h (hR h r0 0) (Int32.toNatClampNeg (hI h r0 3)) x1) r0 = 4) rfl rfl rfl rfl (decide_eq_true_iff)).trans <| and_r <|
    (r_go (j := 33) (L' := [.ref r0, .int x1, .int x2, .int x3]) (S' := [.int x2, .int (hI (sI h (hR h r0 0) (Int32.toNatClampNeg (hI h r0 3)) x1) r0 3), .ref (hR (sI h (hR h r0 0) (Int32.toNatClampNeg (hI h r0 3)) x1) r0 1)]) (h' := (sI h (hR h r0 0) (Int32.toNatClampNeg (hI h r0 3)) x1)) rfl rfl rfl rfl).trans <|
    (r_guard (j := 34) (L' := [.ref r0, .int x1, .int x2, .int x3]) (S' := []) (h' := (sI (sI h (hR h r0 0) (Int32.toNatClampNeg (hI h r0 3)) x1) (hR (sI h (hR h r0 0) (Int32.toNatClampNeg (hI h r0 3)) x1) r0 1) (Int32.toNatClampNeg (hI (sI h (hR h r0 0) (Int32.toNatClampNeg (hI h r0 3)) x1) r0 3)) x2)) (p := hK (sI h (hR h r0 0) (Int32.toNatClampNeg (hI h r0 3)) x1) (hR (sI h (hR h r0 0) (Int32.toNatClampNeg (hI h r0 3)) x1) r0 1) = 20 ∧ ixo (hI (sI h (hR h r0 0) (Int32.toNatClampNeg (hI h r0 3)) x1) r0 3) (hN (sI h (hR h r0 0) (Int32.toNatClampNeg (hI h r0 3)) x1) (hR (sI h (hR h r0 0) (Int32.toNatClampNeg (hI h r0 3)) x1) r0 1)) = true) rfl rfl rfl rfl (and2 decide_eq_true_iff Iff.rfl)).trans <| and_r <|
    (r_go (j := 35) (L' := [.ref r0, .int x1, .int x2, .int x3]) (S' := [.ref r0]) (h' := (sI (sI h (hR h r0 0) (Int32.toNatClampNeg (hI h r0 3)) x1) (hR (sI h (hR h r0 0) (Int32.toNatClampNeg (hI h r0 3)) x1) r0 1) (Int32.toNatClampNeg (hI (sI h (hR h r0 0) (Int32.toNatClampNeg (hI h r0 3)) x1) r0 3)) x2)) rfl rfl rfl rfl).trans <|
    (r_guard (j := 36) (L' := [.ref r0, .int x1, .int x2, .int x3]) (S' := [.ref (hR (sI (sI h (hR h r0 0) (Int32.toNatClampNeg (hI h r0 3)) x1) (hR (sI h (hR h r0 0) (Int32.toNatClampNeg (hI h r0 3)) x1) r0 1) (Int32.toNatClampNeg (hI (sI h (hR h r0 0) (Int32.toNatClampNeg (hI h r0 3)) x1) r0 3)) x2) r0 2)]) (h' := (sI (sI h (hR h r0 0) (Int32.toNatClampNeg (hI h r0 3)) x1) (hR (sI h (hR h r0 0) (Int32.toNatClampNeg (hI h r0 3)) x1) r0 1) (Int32.toNatClampNeg (hI (sI h (hR h r0 0) (Int32.toNatClampNeg (hI h r0 3)) x1) r0 3)) x2)) (p := hK (sI (sI h (hR h r0 0) (Int32.toNatClampNeg (hI h r0 3)) x1) (hR (sI h (hR h r0 0) (Int32.toNatClampNeg (hI h r0 3)) x1) r0 1) (Int32.toNatClampNeg (hI (sI h (hR h r0 0) (Int32.toNatClampNeg (hI h r0 3)) x1) r0 3)) x2) r0 = 4) rfl rfl rfl rfl (decide_eq_true_iff)).trans <| and_r <|
    (r_go (j := 37) (L' := [.ref r0, .int x1, .int x2, .int x3]) (S' := [.ref r0, .ref (hR (sI (sI h (hR h r0 0) (Int32.toNatClampNeg (hI h r0 3)) x1) (hR (sI h (hR h r0 0) (Int32.toNatClampNeg (hI h r0 3)) x1) r0 1) (Int32.toNatClampNeg (hI (sI h (hR h r0 0) (Int32.toNatClampNeg (hI h r0 3)) x1) r0 3)) x2) r0 2)]) (h' := (sI (sI h (hR h r0 0) (Int32.toNatClampNeg (hI h r0 3)) x1) (hR (sI h (hR h r0 0) (Int32.toNatClampNeg (hI h r0 3)) x1) r0 1) (Int32.toNatClampNeg (hI (sI h (hR h r0 0) (Int32.toNatClampNeg (hI h r0 3)) x1) r0 3)) x2)) rfl rfl rfl rfl).trans <|
    (r_guard (j := 38) (L' := [.ref r0, .int x1, .int x2, .int x3]) (S' := [.int (hI (sI (sI h (hR h r0 0) (Int32.toNatClampNeg (hI h r0 3)) x1) (hR (sI h (hR h r0 0) (Int32.toNatClampNeg (hI h r0 3)) x1) r0 1) (Int32.toNatClampNeg (hI (sI h (hR h r0 0) (Int32.toNatClampNeg (hI h r0 3)) x1) r0 3)) x2) r0 3), .ref (hR (sI (sI h (hR h r0 0) (Int32.toNatClampNeg (hI h r0 3)) x1) (hR (sI h (hR h r0 0) (Int32.toNatClampNeg (hI h r0 3)) x1) r0 1) (Int32.toNatClampNeg (hI (sI h (hR h r0 0) (Int32.toNatClampNeg (hI h r0 3)) x1) r0 3)) x2) r0 2)]) (h' := (sI (sI h (hR h r0 0) (Int32.toNatClampNeg (hI h r0 3)) x1) (hR (sI h (hR h r0 0) (Int32.toNatClampNeg (hI h r0 3)) x1) r0 1) (Int32.toNatClampNeg (hI (sI h (hR h r0 0) (Int32.toNatClampNeg (hI h r0 3)) x1) r0 3)) x2)) (p := hK (sI (sI h (hR h r0 0) (Int32.toNatClampNeg (hI h r0 3)) x1) (hR (sI h (hR h r0 0) (Int32.toNatClampNeg (hI h r0 3)) x1) r0 1) (Int32.toNatClampNeg (hI (sI h (hR h r0 0) (Int32.toNatClampNeg (hI h r0 3)) x1) r0 3)) x2) r0 = 4) rfl rfl rfl rfl (decide_eq_true_iff)).trans <| and_r <|
    (r_go (j := 39) (L' := [.ref r0, .int x1, .int x2, .int x3]) (S' := [.int x3, .int (hI (sI (sI h (hR h r0 0) (Int32.toNatClampNeg (hI h r0 3)) x1) (hR (sI h (hR h r0 0) (Int32.toNatClampNeg (hI h r0 3)) x1) r0 1) (Int32.toNatClampNeg (hI (sI h (hR h r0 0) (Int32.toNatClampNeg (hI h r0 3)) x1) r0 3)) x2) r0 3), .ref (hR (sI (sI h (hR h r0 0) (Int32.toNatClampNeg (hI h r0 3)) x1) (hR (sI h (hR h r0 0) (Int32.toNatClampNeg (hI h r0 3)) x1) r0 1) (Int32.toNatClampNeg (hI (sI h (hR h r0 0) (Int32.toNatClampNeg (hI h r0 3)) x1) r0 3)) x2) r0 2)]) (h' := (sI (sI h (hR h r0 0) (Int32.toNatClampNeg (hI h r0 3)) x1) (hR (sI h (hR h r0 0) (Int32.toNatClampNeg (hI h r0 3)) x1) r0 1) (Int32.toNatClampNeg (hI (sI h (hR h r0 0) (Int32.toNatClampNeg (hI h r0 3)) x1) r0 3)) x2)) rfl rfl rfl rfl).trans <|
    (r_guard (j := 40) (L' := [.ref r0, .int x1, .int x2, .int x3]) (S' := []) (h' := (sI (sI (sI h (hR h r0 0) (Int32.toNatClampNeg (hI h r0 3)) x1) (hR (sI h (hR h r0 0) (Int32.toNatClampNeg (hI h r0 3)) x1) r0 1) (Int32.toNatClampNeg (hI (sI h (hR h r0 0) (Int32.toNatClampNeg (hI h r0 3)) x1) r0 3)) x2) (hR (sI (sI h (hR h r0 0) (Int32.toNatClampNeg (hI h r0 3)) x1) (hR (sI h (hR h r0 0) (Int32.toNatClampNeg (hI h r0 3)) x1) r0 1) (Int32.toNatClampNeg (hI (sI h (hR h r0 0) (Int32.toNatClampNeg (hI h r0 3)) x1) r0 3)) x2) r0 2) (Int32.toNatClampNeg (hI (sI (sI h (hR h r0 0) (Int32.toNatClampNeg (hI h r0 3)) x1) (hR (sI h (hR h r0 0) (Int32.toNatClampNeg (hI h r0 3)) x1) r0 1) (Int32.toNatClampNeg (hI (sI h (hR h r0 0) (Int32.toNatClampNeg (hI h r0 3)) x1) r0 3)) x2) r0 3)) x3)) (p := hK (sI (sI h (hR h r0 0) (Int32.toNatClampNeg (hI h r0 3)) x1) (hR (sI h (hR h r0 0) (Int32.toNatClampNeg (hI h r0 3)) x1) r0 1) (Int32.toNatClampNeg (hI (sI h (hR h r0 0) (Int32.toNatClampNeg (hI h r0 3)) x1) r0 3)) x2) (hR (sI (sI h (hR h r0 0) (Int32.toNatClampNeg (hI h r0 3)) x1) (hR (sI h (hR h r0 0) (Int32.toNatClampNeg (hI h r0 3)) x1) r0 1) (Int32.toNatClampNeg (hI (sI h (hR h r0 0) (Int32.toNatClampNeg (hI h r0 3)) x1) r0 3)) x2) r0 2) = 20 ∧ ixo (hI (sI (sI h (hR h r0 0) (Int32.toNatClampNeg (hI h r0 3)) x1) (hR (sI h (hR h r0 0) (Int32.toNatClampNeg (hI h r0 3)) x1) r0 1) (Int32.toNatClampNeg (hI (sI h (hR h r0 0) (Int32.toNatClampNeg (hI h r0 3)) x1) r0 3)) x2) r0 3) (hN (sI (sI h (hR h r0 0) (Int32.toNatClampNeg (hI h r0 3)) x1) (hR (sI h (hR h r0 0) (Int32.toNatClampNeg (hI h r0 3)) x1) r0 1) (Int32.toNatClampNeg (hI (sI h (hR h r0 0) (Int32.toNatClampNeg (hI h r0 3)) x1) r0 3)) x2) (hR (sI (sI h (hR h r0 0) (Int32.toNatClampNeg (hI h r0 3)) x1) (hR (sI h (hR h r0 0) (Int32.toNatClampNeg (hI h r0 3)) x1) r0 1) (Int32.toNatClampNeg (hI (sI h (hR h r0 0) (Int32.toNatClampNeg (hI h r0 3)) x1) r0 3)) x2) r0 2)) = true) rfl rfl rfl rfl (and2 decide_eq_true_iff Iff.rfl)).trans <| and_r <|
    (r_go (j := 41) (L' := [.ref r0, .int x1, .int x2, .int x3]) (S' := [.ref r0]) (h' := (sI (sI (sI h (hR h r0 0) (Int32.toNatClampNeg (hI h r0 3)) x1) (hR (sI h (hR h r0 0) (Int32.toNatClampNeg (hI h r0 3)) x1) r0 1) (Int32.toNatClampNeg (hI (sI h (hR h r0 0) (Int32.toNatClampNeg (hI h r0 3)) x1) r0 3)) x2) (hR (sI (sI h (hR h r0 0) (Int32.toNatClampNeg (hI h r0 3)) x1) (hR (sI h (hR h r0 0) (Int32.toNatClampNeg (hI h r0 3)) x1) r0 1) (Int32.toNatClampNeg (hI (sI h (hR h r0 0) (Int32.toNatClampNeg (hI h r0 3)) x1) r0 3)) x2) r0 2) (Int32.toNatClampNeg (hI (sI (sI h (hR h r0 0) (Int32.toNatClampNeg (hI h r0 3)) x1) (hR (sI h (hR h r0 0) (Int32.toNatClampNeg (hI h r0 3)) x1) r0 1) (Int32.toNatClampNeg (hI (sI h (hR h r0 0) (Int32.toNatClampNeg (hI h r0 3)) x1) r0 3)) x2) r0 3)) x3)) rfl rfl rfl rfl).trans <|
    (r_go (j := 42) (L' := [.ref r0, .int x1, .int x2, .int x3]) (S' := [.ref r0, .ref r0]) (h' := (sI (sI (sI h (hR h r0 0) (Int32.toNatClampNeg (hI h r0 3)) x1) (hR (sI h (hR h r0 0) (Int32.toNatClampNeg (hI h r0 3)) x1) r0 1) (Int32.toNatClampNeg (hI (sI h (hR h r0 0) (Int32.toNatClampNeg (hI h r0 3)) x1) r0 3)) x2) (hR (sI (sI h (hR h r0 0) (Int32.toNatClampNeg (hI h r0 3)) x1) (hR (sI h (hR h r0 0) (Int32.toNatClampNeg (hI h r0 3)) x1) r0 1) (Int32.toNatClampNeg (hI (sI h (hR h r0 0) (Int32.toNatClampNeg (hI h r0 3)) x1) r0 3)) x2) r0 2) (Int32.toNatClampNeg (hI (sI (sI h (hR h r0 0) (Int32.toNatClampNeg (hI h r0 3)) x1) (hR (sI h (hR h r0 0) (Int32.toNatClampNeg (hI h r0 3)) x1) r0 1) (Int32.toNatClampNeg (hI (sI h (hR h r0 0) (Int32.toNatClampNeg (hI h r0 3)) x1) r0 3)) x2) r0 3)) x3)) rfl rfl rfl rfl).trans <|
    (r_guard (j := 43) (L' := [.ref r0, .int x1, .int x2, .int x3]) (S' := [.int (hI (sI (sI (sI h (hR h r0 0) (Int32.toNatClampNeg (hI h r0 3)) x1) (hR (sI h (hR h r0 0) (Int32.toNatClampNeg (hI h r0 3)) x1) r0 1) (Int32.toNatClampNeg (hI (sI h (hR h r0 0) (Int32.toNatClampNeg (hI h r0 3)) x1) r0 3)) x2) (hR (sI (sI h (hR h r0 0) (Int32.toNatClampNeg (hI h r0 3)) x1) (hR (sI h (hR h r0 0) (Int32.toNatClampNeg (hI h r0 3)) x1) r0 1) (Int32.toNatClampNeg (hI (sI h (hR h r0 0) (Int32.toNatClampNeg (hI h r0 3)) x1) r0 3)) x2) r0 2) (Int32.toNatClampNeg (hI (sI (sI h (hR h r0 0) (Int32.toNatClampNeg (hI h r0 3)) x1) (hR (sI h (hR h r0 0) (Int32.toNatClampNeg (hI h r0 3)) x1) r0 1) (Int32.toNatClampNeg (hI (sI h (hR h r0 0) (Int32.toNatClampNeg (hI h r0 3)) x1) r0 3)) x2) r0 3)) x3) r0 3), .ref r0]) (h' := (sI (sI (sI h (hR h r0 0) (Int32.toNatClampNeg (hI h r0 3)) x1) (hR (sI h (hR h r0 0) (Int32.toNatClampNeg (hI h r0 3)) x1) r0 1) (Int32.toNatClampNeg (hI (sI h (hR h r0 0) (Int32.toNatClampNeg (hI h r0 3)) x1) r0 3)) x2) (hR (sI (sI h (hR h r0 0) (Int32.toNatClampNeg (hI h r0 3)) x1) (hR (sI h (hR h r0 0) (Int32.toNatClampNeg (hI h r0 3)) x1) r0 1) (Int32.toNatClampNeg (hI (sI h (hR h r0 0) (Int32.toNatClampNeg (hI h r0 3)) x1) r0 3)) x2) r0 2) (Int32.toNatClampNeg (hI (sI (sI h (hR h r0 0) (Int32.toNatClampNeg (hI h r0 3)) x1) (hR (sI h (hR h r0 0) (Int32.toNatClampNeg (hI h r0 3)) x1) r0 1) (Int32.toNatClampNeg (hI (sI h (hR h r0 0) (Int32.toNatClampNeg (hI h r0 3)) x1) r0 3)) x2) r0 3)) x3)) (p := hK (sI (sI (sI h (hR h r0 0) (Int32.toNatClampNeg (hI h r0 3)) x1) (hR (sI h (hR h r0 0) (Int32.toNatClampNeg (hI h r0 3)) x1) r0 1) (Int32.toNatClampNeg (hI (sI h (hR h r0 0) (Int32.toNatClampNeg (hI h r0 3)) x1) r0 3)) x2) (hR (sI (sI h (hR h r0 0) (Int32.toNatClampNeg (hI h r0 3)) x1) (hR (sI h (hR h r0 0) (Int32.toNatClampNeg (hI h r0 3)) x1) r0 1) (Int32.toNatClampNeg (hI (sI h (hR h r0 0) (Int32.toNatClampNeg (hI h r0 3)) x1) r0 3)) x2) r0 2) (Int32.toNatClampNeg (hI (sI (sI h (hR h r0 0) (Int32.toNatClampNeg (hI h r0 3)) x1) (hR (sI h (hR h r0 0) (Int32.toNatClampNeg (hI h r0 3)) x1) r0 1) (Int32.toNatClampNeg (hI (sI h (hR h r0 0) (Int32.toNatClampNeg (hI h r0 3)) x1) r0 3)) x2) r0 3)) x3) r0 = 4) rfl rfl rfl rfl (decide_eq_true_iff)).trans <| and_r <|
    (r_iconst (j := 44) (x := 1) rfl i32_1 rfl).trans <|
    (r_go (j := 45) (L' := [.ref r0, .int x1, .int x2, .int x3]) (S' := [.int ((hI (sI (sI (sI h (hR h r0 0) (Int32.toNatClampNeg (hI h r0 3)) x1) (hR (sI h (hR h r0 0) (Int32.toNatClampNeg (hI h r0 3)) x1) r0 1) (Int32.toNatClampNeg (hI (sI h (hR h r0 0) (Int32.toNatClampNeg (hI h r0 3)) x1) r0 3)) x2) (hR (sI (sI h (hR h r0 0) (Int32.toNatClampNeg (hI h r0 3)) x1) (hR (sI h (hR h r0 0) (Int32.toNatClampNeg (hI h r0 3)) x1) r0 1) (Int32.toNatClampNeg (hI (sI h (hR h r0 0) (Int32.toNatClampNeg (hI h r0 3)) x1) r0 3)) x2) r0 2) (Int32.toNatClampNeg (hI (sI (sI h (hR h r0 0) (Int32.toNatClampNeg (hI h r0 3)) x1) (hR (sI h (hR h r0 0) (Int32.toNatClampNeg (hI h r0 3)) x1) r0 1) (Int32.toNatClampNeg (hI (sI h (hR h r0 0) (Int32.toNatClampNeg (hI h r0 3)) x1) r0 3)) x2) r0 3)) x3) r0 3) + 1), .ref r0]) (h' := (sI (sI (sI h (hR h r0 0) (Int32.toNatClampNeg (hI h r0 3)) x1) (hR (sI h (hR h r0 0) (Int32.toNatClampNeg (hI h r0 3)) x1) r0 1) (Int32.toNatClampNeg (hI (sI h (hR h r0 0) (Int32.toNatClampNeg (hI h r0 3)) x1) r0 3)) x2) (hR (sI (sI h (hR h r0 0) (Int32.toNatClampNeg (hI h r0 3)) x1) (hR (sI h (hR h r0 0) (Int32.toNatClampNeg (hI h r0 3)) x1) r0 1) (Int32.toNatClampNeg (hI (sI h (hR h r0 0) (Int32.toNatClampNeg (hI h r0 3)) x1) r0 3)) x2) r0 2) (Int32.toNatClampNeg (hI (sI (sI h (hR h r0 0) (Int32.toNatClampNeg (hI h r0 3)) x1) (hR (sI h (hR h r0 0) (Int32.toNatClampNeg (hI h r0 3)) x1) r0 1) (Int32.toNatClampNeg (hI (sI h (hR h r0 0) (Int32.toNatClampNeg (hI h r0 3)) x1) r0 3)) x2) r0 3)) x3)) rfl rfl rfl rfl).trans <|
    (r_guard (j := 46) (L' := [.ref r0, .int x1, .int x2, .int x3]) (S' := []) (h' := (sI (sI (sI (sI h (hR h r0 0) (Int32.toNatClampNeg (hI h r0 3)) x1) (hR (sI h (hR h r0 0) (Int32.toNatClampNeg (hI h r0 3)) x1) r0 1) (Int32.toNatClampNeg (hI (sI h (hR h r0 0) (Int32.toNatClampNeg (hI h r0 3)) x1) r0 3)) x2) (hR (sI (sI h (hR h r0 0) (Int32.toNatClampNeg (hI h r0 3)) x1) (hR (sI h (hR h r0 0) (Int32.toNatClampNeg (hI h r0 3)) x1) r0 1) (Int32.toNatClampNeg (hI (sI h (hR h r0 0) (Int32.toNatClampNeg (hI h r0 3)) x1) r0 3)) x2) r0 2) (Int32.toNatClampNeg (hI (sI (sI h (hR h r0 0) (Int32.toNatClampNeg (hI h r0 3)) x1) (hR (sI h (hR h r0 0) (Int32.toNatClampNeg (hI h r0 3)) x1) r0 1) (Int32.toNatClampNeg (hI (sI h (hR h r0 0) (Int32.toNatClampNeg (hI h r0 3)) x1) r0 3)) x2) r0 3)) x3) r0 3 ((hI (sI (sI (sI h (hR h r0 0) (Int32.toNatClampNeg (hI h r0 3)) x1) (hR (sI h (hR h r0 0) (Int32.toNatClampNeg (hI h r0 3)) x1) r0 1) (Int32.toNatClampNeg (hI (sI h (hR h r0 0) (Int32.toNatClampNeg (hI h r0 3)) x1) r0 3)) x2) (hR (sI (sI h (hR h r0 0) (Int32.toNatClampNeg (hI h r0 3)) x1) (hR (sI h (hR h r0 0) (Int32.toNatClampNeg (hI h r0 3)) x1) r0 1) (Int32.toNatClampNeg (hI (sI h (hR h r0 0) (Int32.toNatClampNeg (hI h r0 3)) x1) r0 3)) x2) r0 2) (Int32.toNatClampNeg (hI (sI (sI h (hR h r0 0) (Int32.toNatClampNeg (hI h r0 3)) x1) (hR (sI h (hR h r0 0) (Int32.toNatClampNeg (hI h r0 3)) x1) r0 1) (Int32.toNatClampNeg (hI (sI h (hR h r0 0) (Int32.toNatClampNeg (hI h r0 3)) x1) r0 3)) x2) r0 3)) x3) r0 3) + 1))) (p := hK (sI (sI (sI h (hR h r0 0) (Int32.toNatClampNeg (hI h r0 3)) x1) (hR (sI h (hR h r0 0) (Int32.toNatClampNeg (hI h r0 3)) x1) r0 1) (Int32.toNatClampNeg (hI (sI h (hR h r0 0) (Int32.toNatClampNeg (hI h r0 3)) x1) r0 3)) x2) (hR (sI (sI h (hR h r0 0) (Int32.toNatClampNeg (hI h r0 3)) x1) (hR (sI h (hR h r0 0) (Int32.toNatClampNeg (hI h r0 3)) x1) r0 1) (Int32.toNatClampNeg (hI (sI h (hR h r0 0) (Int32.toNatClampNeg (hI h r0 3)) x1) r0 3)) x2) r0 2) (Int32.toNatClampNeg (hI (sI (sI h (hR h r0 0) (Int32.toNatClampNeg (hI h r0 3)) x1) (hR (sI h (hR h r0 0) (Int32.toNatClampNeg (hI h r0 3)) x1) r0 1) (Int32.toNatClampNeg (hI (sI h (hR h r0 0) (Int32.toNatClampNeg (hI h r0 3)) x1) r0 3)) x2) r0 3)) x3) r0 = 4) rfl rfl rfl rfl (pfI rfl)).trans <| and_r <|
    r_ret rfl rfl rfl
theorem e_Pl_add {d : Nat} (x1 x2 x3 : Int32) (r0 : Nat) (h : AH) (Q : Option Value → AH → Prop) : Cl (d + 1) q_Pl_add [.ref r0, .int x1, .int x2, .int x3] h Q ↔ hK h r0 = 4 ∧ Wp d P_Pl_add 0 [.ref r0, .int x1, .int x2, .int x3] [] h (fun r h' => rtk (none) r = true ∧ Q r h') :=
    (Cl_method (t := m_Pl_add) rfl).trans (and_congr_left fun _ => decide_eq_true_iff)
