/-! java/util/Arrays.copyOf([II)[I -/
theorem b_Ar_copyOf_0 {d : Nat} (x1 : Int32) (r0 : Nat) (h : AH) (Q : Option Value → AH → Prop) : Wp d P_Ar_copyOf 0 [.ref r0, .int x1, .null] [] h Q ↔ (20 ≤ hK h r0 ∧ hK h r0 ≠ 40 ∧ hK h r0 ≠ 42 ∧ hK h r0 ≤ 45 ∧ hK h r0 ≠ 43) ∧ ((¬ x1 = (Int32.ofNat (hN h r0)) → Wp d P_Ar_copyOf 8 [.ref r0, .int x1, .null] [] h Q) ∧ (¬ (¬ x1 = (Int32.ofNat (hN h r0))) → Wp d P_Ar_copyOf 4 [.ref r0, .int x1, .null] [] h Q)) :=
    (r_go (j := 1) (L' := [.ref r0, .int x1, .null]) (S' := [.int x1]) (h' := h) rfl rfl rfl rfl).trans <|
    (r_go (j := 2) (L' := [.ref r0, .int x1, .null]) (S' := [.ref r0, .int x1]) (h' := h) rfl rfl rfl rfl).trans <|
    (r_guard (j := 3) (L' := [.ref r0, .int x1, .null]) (S' := [.int (Int32.ofNat (hN h r0)), .int x1]) (h' := h) (p := 20 ≤ hK h r0 ∧ hK h r0 ≠ 40 ∧ hK h r0 ≠ 42 ∧ hK h r0 ≤ 45 ∧ hK h r0 ≠ 43) rfl rfl rfl rfl (decide_eq_true_iff)).trans <| and_r <|
    r_icmp (j := 4) rfl (cd_ne _ _) rfl
theorem b_Ar_copyOf_4 {d : Nat} (x1 : Int32) (r0 : Nat) (h : AH) (Q : Option Value → AH → Prop) : Wp d P_Ar_copyOf 4 [.ref r0, .int x1, .null] [] h Q ↔ Wp d P_Ar_copyOf 5 [.ref r0, .int x1, .null] [.ref r0] h Q :=
    r_go (j := 5) (L' := [.ref r0, .int x1, .null]) (S' := [.ref r0]) (h' := h) rfl rfl rfl rfl
theorem b_Ar_copyOf_8 {d : Nat} (x1 : Int32) (r0 : Nat) (h : AH) (Q : Option Value → AH → Prop) : Wp d P_Ar_copyOf 8 [.ref r0, .int x1, .null] [] h Q ↔ ((0 : Int32) ≤ x1 ∧ Int32.toNatClampNeg x1 ≤ 10000) ∧ ((20 ≤ hK (mkC h 20 (Int32.toNatClampNeg x1) (Int32.toNatClampNeg x1)) r0 ∧ hK (mkC h 20 (Int32.toNatClampNeg x1) (Int32.toNatClampNeg x1)) r0 ≠ 40 ∧ hK (mkC h 20 (Int32.toNatClampNeg x1) (Int32.toNatClampNeg x1)) r0 ≠ 42 ∧ hK (mkC h 20 (Int32.toNatClampNeg x1) (Int32.toNatClampNeg x1)) r0 ≤ 45 ∧ hK (mkC h 20 (Int32.toNatClampNeg x1) (Int32.toNatClampNeg x1)) r0 ≠ 43) ∧ (Cl d 307 [.int (Int32.ofNat (hN (mkC h 20 (Int32.toNatClampNeg x1) (Int32.toNatClampNeg x1)) r0)), .int x1] (mkC h 20 (Int32.toNatClampNeg x1) (Int32.toNatClampNeg x1)) (fun r h' => Wp d P_Ar_copyOf 19 [.ref r0, .int x1, .ref (hz h)] (r.toList ++ [.int 0, .ref (hz h), .int 0, .ref r0]) h' Q))) :=
    (r_go (j := 9) (L' := [.ref r0, .int x1, .null]) (S' := [.int x1]) (h' := h) rfl rfl rfl rfl).trans <|
    (r_guard (j := 10) (L' := [.ref r0, .int x1, .null]) (S' := [.ref (hz h)]) (h' := (mkC h 20 (Int32.toNatClampNeg x1) (Int32.toNatClampNeg x1))) (p := (0 : Int32) ≤ x1 ∧ Int32.toNatClampNeg x1 ≤ 10000) rfl rfl rfl rfl (and2 decide_eq_true_iff decide_eq_true_iff)).trans <| and_r <|
    (r_go (j := 11) (L' := [.ref r0, .int x1, .ref (hz h)]) (S' := []) (h' := (mkC h 20 (Int32.toNatClampNeg x1) (Int32.toNatClampNeg x1))) rfl rfl rfl rfl).trans <|
    (r_go (j := 12) (L' := [.ref r0, .int x1, .ref (hz h)]) (S' := [.ref r0]) (h' := (mkC h 20 (Int32.toNatClampNeg x1) (Int32.toNatClampNeg x1))) rfl rfl rfl rfl).trans <|
    (r_iconst (j := 13) (x := 0) rfl i32_0 rfl).trans <|
    (r_go (j := 14) (L' := [.ref r0, .int x1, .ref (hz h)]) (S' := [.ref (hz h), .int 0, .ref r0]) (h' := (mkC h 20 (Int32.toNatClampNeg x1) (Int32.toNatClampNeg x1))) rfl rfl rfl rfl).trans <|
    (r_iconst (j := 15) (x := 0) rfl i32_0 rfl).trans <|
    (r_go (j := 16) (L' := [.ref r0, .int x1, .ref (hz h)]) (S' := [.ref r0, .int 0, .ref (hz h), .int 0, .ref r0]) (h' := (mkC h 20 (Int32.toNatClampNeg x1) (Int32.toNatClampNeg x1))) rfl rfl rfl rfl).trans <|
    (r_guard (j := 17) (L' := [.ref r0, .int x1, .ref (hz h)]) (S' := [.int (Int32.ofNat (hN (mkC h 20 (Int32.toNatClampNeg x1) (Int32.toNatClampNeg x1)) r0)), .int 0, .ref (hz h), .int 0, .ref r0]) (h' := (mkC h 20 (Int32.toNatClampNeg x1) (Int32.toNatClampNeg x1))) (p := 20 ≤ hK (mkC h 20 (Int32.toNatClampNeg x1) (Int32.toNatClampNeg x1)) r0 ∧ hK (mkC h 20 (Int32.toNatClampNeg x1) (Int32.toNatClampNeg x1)) r0 ≠ 40 ∧ hK (mkC h 20 (Int32.toNatClampNeg x1) (Int32.toNatClampNeg x1)) r0 ≠ 42 ∧ hK (mkC h 20 (Int32.toNatClampNeg x1) (Int32.toNatClampNeg x1)) r0 ≤ 45 ∧ hK (mkC h 20 (Int32.toNatClampNeg x1) (Int32.toNatClampNeg x1)) r0 ≠ 43) rfl rfl rfl rfl (decide_eq_true_iff)).trans <| and_r <|
    (r_go (j := 18) (L' := [.ref r0, .int x1, .ref (hz h)]) (S' := [.int x1, .int (Int32.ofNat (hN (mkC h 20 (Int32.toNatClampNeg x1) (Int32.toNatClampNeg x1)) r0)), .int 0, .ref (hz h), .int 0, .ref r0]) (h' := (mkC h 20 (Int32.toNatClampNeg x1) (Int32.toNatClampNeg x1))) rfl rfl rfl rfl).trans <|
    r_call (j := 19) (a := [.int (Int32.ofNat (hN (mkC h 20 (Int32.toNatClampNeg x1) (Int32.toNatClampNeg x1)) r0)), .int x1]) (S' := [.int 0, .ref (hz h), .int 0, .ref r0]) rfl rfl rfl rfl rfl rfl rfl
theorem b_Ar_copyOf_19 {d : Nat} (x1 s0 s1 s3 : Int32) (r0 r2 t2 t4 : Nat) (h : AH) (Q : Option Value → AH → Prop) : Wp d P_Ar_copyOf 19 [.ref r0, .int x1, .ref r2] [.int s0, .int s1, .ref t2, .int s3, .ref t4] h Q ↔ Cl d 300 [.ref t4, .int s3, .ref t2, .int s1, .int s0] h (fun r h' => Wp d P_Ar_copyOf 20 [.ref r0, .int x1, .ref r2] (r.toList ++ []) h' Q) :=
    r_call (j := 20) (a := [.ref t4, .int s3, .ref t2, .int s1, .int s0]) (S' := []) rfl rfl rfl rfl rfl rfl rfl
theorem b_Ar_copyOf_20 {d : Nat} (x1 : Int32) (r0 r2 : Nat) (h : AH) (Q : Option Value → AH → Prop) : Wp d P_Ar_copyOf 20 [.ref r0, .int x1, .ref r2] [] h Q ↔ Q (some (.ref r2)) h :=
    (r_go (j := 21) (L' := [.ref r0, .int x1, .ref r2]) (S' := [.ref r2]) (h' := h) rfl rfl rfl rfl).trans <|
    r_ret rfl rfl rfl
theorem e_Ar_copyOf {d : Nat} (x1 : Int32) (r0 : Nat) (h : AH) (Q : Option Value → AH → Prop) : Cl (d + 1) q_Ar_copyOf [.ref r0, .int x1] h Q ↔ Wp d P_Ar_copyOf 0 [.ref r0, .int x1, .null] [] h (fun r h' => rtk (some (.array .int)) r = true ∧ Q r h') :=
    (Cl_method (t := m_Ar_copyOf) rfl).trans (and_iff_right rfl)
/-! jdk/internal/util/Preconditions.checkIndex(IILjava/util/function/BiFunction;)I -/
theorem b_Pc_checkIndex_0 {d : Nat} (x0 x1 : Int32) (r2 : Nat) (h : AH) (Q : Option Value → AH → Prop) : Wp d P_Pc_checkIndex 0 [.int x0, .int x1, .ref r2] [] h Q ↔ (x0 < 0 → Wp d P_Pc_checkIndex 5 [.int x0, .int x1, .ref r2] [] h Q) ∧ (¬ (x0 < 0) → Wp d P_Pc_checkIndex 2 [.int x0, .int x1, .ref r2] [] h Q) :=
    (r_go (j := 1) (L' := [.int x0, .int x1, .ref r2]) (S' := [.int x0]) (h' := h) rfl rfl rfl rfl).trans <|
    r_if (j := 2) rfl (cd_lt _ _) rfl
theorem b_Pc_checkIndex_2 {d : Nat} (x0 x1 : Int32) (r2 : Nat) (h : AH) (Q : Option Value → AH → Prop) : Wp d P_Pc_checkIndex 2 [.int x0, .int x1, .ref r2] [] h Q ↔ (x0 < x1 → Wp d P_Pc_checkIndex 10 [.int x0, .int x1, .ref r2] [] h Q) ∧ (¬ (x0 < x1) → Wp d P_Pc_checkIndex 5 [.int x0, .int x1, .ref r2] [] h Q) :=
    (r_go (j := 3) (L' := [.int x0, .int x1, .ref r2]) (S' := [.int x0]) (h' := h) rfl rfl rfl rfl).trans <|
    (r_go (j := 4) (L' := [.int x0, .int x1, .ref r2]) (S' := [.int x1, .int x0]) (h' := h) rfl rfl rfl rfl).trans <|
    r_icmp (j := 5) rfl (cd_lt _ _) rfl
theorem b_Pc_checkIndex_5 {d : Nat} (x0 x1 : Int32) (r2 : Nat) (h : AH) (Q : Option Value → AH → Prop) : Wp d P_Pc_checkIndex 5 [.int x0, .int x1, .ref r2] [] h Q ↔ Wp d P_Pc_checkIndex 8 [.int x0, .int x1, .ref r2] [.int x1, .int x0, .ref r2] h Q :=
    (r_go (j := 6) (L' := [.int x0, .int x1, .ref r2]) (S' := [.ref r2]) (h' := h) rfl rfl rfl rfl).trans <|
    (r_go (j := 7) (L' := [.int x0, .int x1, .ref r2]) (S' := [.int x0, .ref r2]) (h' := h) rfl rfl rfl rfl).trans <|
    r_go (j := 8) (L' := [.int x0, .int x1, .ref r2]) (S' := [.int x1, .int x0, .ref r2]) (h' := h) rfl rfl rfl rfl
theorem b_Pc_checkIndex_10 {d : Nat} (x0 x1 : Int32) (r2 : Nat) (h : AH) (Q : Option Value → AH → Prop) : Wp d P_Pc_checkIndex 10 [.int x0, .int x1, .ref r2] [] h Q ↔ Q (some (.int x0)) h :=
    (r_go (j := 11) (L' := [.int x0, .int x1, .ref r2]) (S' := [.int x0]) (h' := h) rfl rfl rfl rfl).trans <|
    r_ret rfl rfl rfl
theorem e_Pc_checkIndex {d : Nat} (x0 x1 : Int32) (r2 : Nat) (h : AH) (Q : Option Value → AH → Prop) : Cl (d + 1) q_Pc_checkIndex [.int x0, .int x1, .ref r2] h Q ↔ Wp d P_Pc_checkIndex 0 [.int x0, .int x1, .ref r2] [] h (fun r h' => rtk (some .int) r = true ∧ Q r h') :=
    (Cl_method (t := m_Pc_checkIndex) rfl).trans (and_iff_right rfl)
