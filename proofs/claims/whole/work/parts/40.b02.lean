/-! PenThatJumps$Tape.signAt(I)C -/
theorem b_Tp_signAt_0 {d : Nat} (x1 : Int32) (r0 : Nat) (h : AH) (Q : Option Value → AH → Prop) : Wp d P_Tp_signAt 0 [.ref r0, .int x1] [] h Q ↔ (x1 < 0 → Wp d P_Tp_signAt 16 [.ref r0, .int x1] [] h Q) ∧ (¬ (x1 < 0) → Wp d P_Tp_signAt 2 [.ref r0, .int x1] [] h Q) :=
    (r_go (j := 1) (L' := [.ref r0, .int x1]) (S' := [.int x1]) (h' := h) rfl rfl rfl rfl).trans <|
    r_if (j := 2) rfl (cd_lt _ _) rfl
theorem b_Tp_signAt_2 {d : Nat} (x1 : Int32) (r0 : Nat) (h : AH) (Q : Option Value → AH → Prop) : Wp d P_Tp_signAt 2 [.ref r0, .int x1] [] h Q ↔ (hK h r0 = 9) ∧ (((hI h r0 1) ≤ x1 → Wp d P_Tp_signAt 16 [.ref r0, .int x1] [] h Q) ∧ (¬ ((hI h r0 1) ≤ x1) → Wp d P_Tp_signAt 6 [.ref r0, .int x1] [] h Q)) :=
    (r_go (j := 3) (L' := [.ref r0, .int x1]) (S' := [.int x1]) (h' := h) rfl rfl rfl rfl).trans <|
    (r_go (j := 4) (L' := [.ref r0, .int x1]) (S' := [.ref r0, .int x1]) (h' := h) rfl rfl rfl rfl).trans <|
    (r_guard (j := 5) (L' := [.ref r0, .int x1]) (S' := [.int (hI h r0 1), .int x1]) (h' := h) (p := hK h r0 = 9) rfl rfl rfl rfl (decide_eq_true_iff)).trans <| and_r <|
    r_icmp (j := 6) rfl (cd_ge _ _) rfl
theorem b_Tp_signAt_6 {d : Nat} (x1 : Int32) (r0 : Nat) (h : AH) (Q : Option Value → AH → Prop) : Wp d P_Tp_signAt 6 [.ref r0, .int x1] [] h Q ↔ (hK h r0 = 9) ∧ ((20 ≤ hK h (hR h r0 0) ∧ hK h (hR h r0 0) ≠ 40 ∧ hK h (hR h r0 0) ≠ 42 ∧ hK h (hR h r0 0) ≤ 45 ∧ hK h (hR h r0 0) ≠ 43) ∧ (((Int32.ofNat (hN h (hR h r0 0))) ≤ x1 → Wp d P_Tp_signAt 16 [.ref r0, .int x1] [] h Q) ∧ (¬ ((Int32.ofNat (hN h (hR h r0 0))) ≤ x1) → Wp d P_Tp_signAt 11 [.ref r0, .int x1] [] h Q))) :=
    (r_go (j := 7) (L' := [.ref r0, .int x1]) (S' := [.int x1]) (h' := h) rfl rfl rfl rfl).trans <|
    (r_go (j := 8) (L' := [.ref r0, .int x1]) (S' := [.ref r0, .int x1]) (h' := h) rfl rfl rfl rfl).trans <|
    (r_guard (j := 9) (L' := [.ref r0, .int x1]) (S' := [.ref (hR h r0 0), .int x1]) (h' := h) (p := hK h r0 = 9) rfl rfl rfl rfl (decide_eq_true_iff)).trans <| and_r <|
    (r_guard (j := 10) (L' := [.ref r0, .int x1]) (S' := [.int (Int32.ofNat (hN h (hR h r0 0))), .int x1]) (h' := h) (p := 20 ≤ hK h (hR h r0 0) ∧ hK h (hR h r0 0) ≠ 40 ∧ hK h (hR h r0 0) ≠ 42 ∧ hK h (hR h r0 0) ≤ 45 ∧ hK h (hR h r0 0) ≠ 43) rfl rfl rfl rfl (decide_eq_true_iff)).trans <| and_r <|
    r_icmp (j := 11) rfl (cd_ge _ _) rfl
theorem b_Tp_signAt_11 {d : Nat} (x1 : Int32) (r0 : Nat) (h : AH) (Q : Option Value → AH → Prop) : Wp d P_Tp_signAt 11 [.ref r0, .int x1] [] h Q ↔ (hK h r0 = 9) ∧ ((hK h (hR h r0 0) ∈ [21] ∧ ixo x1 (hN h (hR h r0 0)) = true) ∧ (Wp d P_Tp_signAt 17 [.ref r0, .int x1] [.int (hI h (hR h r0 0) (Int32.toNatClampNeg x1))] h Q)) :=
    (r_go (j := 12) (L' := [.ref r0, .int x1]) (S' := [.ref r0]) (h' := h) rfl rfl rfl rfl).trans <|
    (r_guard (j := 13) (L' := [.ref r0, .int x1]) (S' := [.ref (hR h r0 0)]) (h' := h) (p := hK h r0 = 9) rfl rfl rfl rfl (decide_eq_true_iff)).trans <| and_r <|
    (r_go (j := 14) (L' := [.ref r0, .int x1]) (S' := [.int x1, .ref (hR h r0 0)]) (h' := h) rfl rfl rfl rfl).trans <|
    (r_guard (j := 15) (L' := [.ref r0, .int x1]) (S' := [.int (hI h (hR h r0 0) (Int32.toNatClampNeg x1))]) (h' := h) (p := hK h (hR h r0 0) ∈ [21] ∧ ixo x1 (hN h (hR h r0 0)) = true) rfl rfl rfl rfl (and2 decide_eq_true_iff Iff.rfl)).trans <| and_r <|
    r_go (j := 17) (L' := [.ref r0, .int x1]) (S' := [.int (hI h (hR h r0 0) (Int32.toNatClampNeg x1))]) (h' := h) rfl rfl rfl rfl
theorem b_Tp_signAt_16 {d : Nat} (x1 : Int32) (r0 : Nat) (h : AH) (Q : Option Value → AH → Prop) : Wp d P_Tp_signAt 16 [.ref r0, .int x1] [] h Q ↔ Wp d P_Tp_signAt 17 [.ref r0, .int x1] [.int 0] h Q :=
    r_iconst (j := 17) (x := 0) rfl i32_0 rfl
theorem b_Tp_signAt_17 {d : Nat} (x1 s0 : Int32) (r0 : Nat) (h : AH) (Q : Option Value → AH → Prop) : Wp d P_Tp_signAt 17 [.ref r0, .int x1] [.int s0] h Q ↔ Q (some (.int s0)) h :=
    r_ret rfl rfl rfl
theorem e_Tp_signAt {d : Nat} (x1 : Int32) (r0 : Nat) (h : AH) (Q : Option Value → AH → Prop) : Cl (d + 1) q_Tp_signAt [.ref r0, .int x1] h Q ↔ hK h r0 = 9 ∧ Wp d P_Tp_signAt 0 [.ref r0, .int x1] [] h (fun r h' => rtk (some .char) r = true ∧ Q r h') :=
    (Cl_method (t := m_Tp_signAt) rfl).trans (and_congr_left fun _ => decide_eq_true_iff)
/-! PenThatJumps$Tape.cut()V -/
theorem b_Tp_cut_0 {d : Nat} (r0 : Nat) (h : AH) (Q : Option Value → AH → Prop) : Wp d P_Tp_cut 0 [.ref r0, .null, .null] [] h Q ↔ (hK h r0 = 9) ∧ (Cl d q_Tp_pastBlanks [.ref r0, .int 0] (sI h r0 4 0) (fun r h' => Wp d P_Tp_cut 6 [.ref r0, .null, .null] (r.toList ++ []) h' Q)) :=
    (r_go (j := 1) (L' := [.ref r0, .null, .null]) (S' := [.ref r0]) (h' := h) rfl rfl rfl rfl).trans <|
    (r_iconst (j := 2) (x := 0) rfl i32_0 rfl).trans <|
    (r_guard (j := 3) (L' := [.ref r0, .null, .null]) (S' := []) (h' := (sI h r0 4 0)) (p := hK h r0 = 9) rfl rfl rfl rfl (pfI rfl)).trans <| and_r <|
    (r_go (j := 4) (L' := [.ref r0, .null, .null]) (S' := [.ref r0]) (h' := (sI h r0 4 0)) rfl rfl rfl rfl).trans <|
    (r_iconst (j := 5) (x := 0) rfl i32_0 rfl).trans <|
    r_call (j := 6) (a := [.ref r0, .int 0]) (S' := []) rfl rfl rfl rfl rfl rfl rfl
theorem b_Tp_cut_6 {d : Nat} (s0 : Int32) (r0 : Nat) (h : AH) (Q : Option Value → AH → Prop) : Wp d P_Tp_cut 6 [.ref r0, .null, .null] [.int s0] h Q ↔ Wp d P_Tp_cut 9 [.ref r0, .int s0, .int 0] [] h Q :=
    (r_go (j := 7) (L' := [.ref r0, .int s0, .null]) (S' := []) (h' := h) rfl rfl rfl rfl).trans <|
    (r_iconst (j := 8) (x := 0) rfl i32_0 rfl).trans <|
    r_go (j := 9) (L' := [.ref r0, .int s0, .int 0]) (S' := []) (h' := h) rfl rfl rfl rfl
theorem b_Tp_cut_9 {d : Nat} (x1 x2 : Int32) (r0 : Nat) (h : AH) (Q : Option Value → AH → Prop) : Wp d P_Tp_cut 9 [.ref r0, .int x1, .int x2] [] h Q ↔ (1000 ≤ x2 → Wp d P_Tp_cut 24 [.ref r0, .int x1, .int x2] [] h Q) ∧ (¬ (1000 ≤ x2) → Wp d P_Tp_cut 12 [.ref r0, .int x1, .int x2] [] h Q) :=
    (r_go (j := 10) (L' := [.ref r0, .int x1, .int x2]) (S' := [.int x2]) (h' := h) rfl rfl rfl rfl).trans <|
    (r_sipush (j := 11) (x := 1000) rfl i32_1000 rfl).trans <|
    r_icmp (j := 12) rfl (cd_ge _ _) rfl
theorem b_Tp_cut_12 {d : Nat} (x1 x2 : Int32) (r0 : Nat) (h : AH) (Q : Option Value → AH → Prop) : Wp d P_Tp_cut 12 [.ref r0, .int x1, .int x2] [] h Q ↔ (hK h r0 = 9) ∧ (((hI h r0 1) ≤ x1 → Wp d P_Tp_cut 24 [.ref r0, .int x1, .int x2] [] h Q) ∧ (¬ ((hI h r0 1) ≤ x1) → Wp d P_Tp_cut 16 [.ref r0, .int x1, .int x2] [] h Q)) :=
    (r_go (j := 13) (L' := [.ref r0, .int x1, .int x2]) (S' := [.int x1]) (h' := h) rfl rfl rfl rfl).trans <|
    (r_go (j := 14) (L' := [.ref r0, .int x1, .int x2]) (S' := [.ref r0, .int x1]) (h' := h) rfl rfl rfl rfl).trans <|
    (r_guard (j := 15) (L' := [.ref r0, .int x1, .int x2]) (S' := [.int (hI h r0 1), .int x1]) (h' := h) (p := hK h r0 = 9) rfl rfl rfl rfl (decide_eq_true_iff)).trans <| and_r <|
    r_icmp (j := 16) rfl (cd_ge _ _) rfl
theorem b_Tp_cut_16 {d : Nat} (x1 x2 : Int32) (r0 : Nat) (h : AH) (Q : Option Value → AH → Prop) : Wp d P_Tp_cut 16 [.ref r0, .int x1, .int x2] [] h Q ↔ Cl d q_Tp_cutToken [.ref r0, .int x1] h (fun r h' => Wp d P_Tp_cut 20 [.ref r0, .int x1, .int x2] (r.toList ++ [.ref r0]) h' Q) :=
    (r_go (j := 17) (L' := [.ref r0, .int x1, .int x2]) (S' := [.ref r0]) (h' := h) rfl rfl rfl rfl).trans <|
    (r_go (j := 18) (L' := [.ref r0, .int x1, .int x2]) (S' := [.ref r0, .ref r0]) (h' := h) rfl rfl rfl rfl).trans <|
    (r_go (j := 19) (L' := [.ref r0, .int x1, .int x2]) (S' := [.int x1, .ref r0, .ref r0]) (h' := h) rfl rfl rfl rfl).trans <|
    r_call (j := 20) (a := [.ref r0, .int x1]) (S' := [.ref r0]) rfl rfl rfl rfl rfl rfl rfl
theorem b_Tp_cut_20 {d : Nat} (x1 x2 s0 : Int32) (r0 t1 : Nat) (h : AH) (Q : Option Value → AH → Prop) : Wp d P_Tp_cut 20 [.ref r0, .int x1, .int x2] [.int s0, .ref t1] h Q ↔ Cl d q_Tp_pastBlanks [.ref t1, .int s0] h (fun r h' => Wp d P_Tp_cut 21 [.ref r0, .int x1, .int x2] (r.toList ++ []) h' Q) :=
    r_call (j := 21) (a := [.ref t1, .int s0]) (S' := []) rfl rfl rfl rfl rfl rfl rfl
theorem b_Tp_cut_21 {d : Nat} (x1 x2 s0 : Int32) (r0 : Nat) (h : AH) (Q : Option Value → AH → Prop) : Wp d P_Tp_cut 21 [.ref r0, .int x1, .int x2] [.int s0] h Q ↔ Wp d P_Tp_cut 9 [.ref r0, .int s0, .int (x2 + 1)] [] h Q :=
    (r_go (j := 22) (L' := [.ref r0, .int s0, .int x2]) (S' := []) (h' := h) rfl rfl rfl rfl).trans <|
    (r_iinc (j := 23) (x := 1) (L' := [.ref r0, .int s0, .int (x2 + 1)]) rfl rfl i32_1 rfl rfl).trans <|
    r_go (j := 9) (L' := [.ref r0, .int s0, .int (x2 + 1)]) (S' := []) (h' := h) rfl rfl rfl rfl
theorem b_Tp_cut_24 {d : Nat} (x1 x2 : Int32) (r0 : Nat) (h : AH) (Q : Option Value → AH → Prop) : Wp d P_Tp_cut 24 [.ref r0, .int x1, .int x2] [] h Q ↔ (hK h r0 = 9) ∧ (Cl d q_Tp_addToken [.ref r0, .int 12000, .int (hI h r0 1)] h (fun r h' => Wp d P_Tp_cut 29 [.ref r0, .int x1, .int x2] (r.toList ++ []) h' Q)) :=
    (r_go (j := 25) (L' := [.ref r0, .int x1, .int x2]) (S' := [.ref r0]) (h' := h) rfl rfl rfl rfl).trans <|
    (r_sipush (j := 26) (x := 12000) rfl i32_12000 rfl).trans <|
    (r_go (j := 27) (L' := [.ref r0, .int x1, .int x2]) (S' := [.ref r0, .int 12000, .ref r0]) (h' := h) rfl rfl rfl rfl).trans <|
    (r_guard (j := 28) (L' := [.ref r0, .int x1, .int x2]) (S' := [.int (hI h r0 1), .int 12000, .ref r0]) (h' := h) (p := hK h r0 = 9) rfl rfl rfl rfl (decide_eq_true_iff)).trans <| and_r <|
    r_call (j := 29) (a := [.ref r0, .int 12000, .int (hI h r0 1)]) (S' := []) rfl rfl rfl rfl rfl rfl rfl
theorem b_Tp_cut_29 {d : Nat} (x1 x2 : Int32) (r0 : Nat) (h : AH) (Q : Option Value → AH → Prop) : Wp d P_Tp_cut 29 [.ref r0, .int x1, .int x2] [] h Q ↔ Q (none) h :=
    r_ret rfl rfl rfl
theorem e_Tp_cut {d : Nat} (r0 : Nat) (h : AH) (Q : Option Value → AH → Prop) : Cl (d + 1) q_Tp_cut [.ref r0] h Q ↔ hK h r0 = 9 ∧ Wp d P_Tp_cut 0 [.ref r0, .null, .null] [] h (fun r h' => rtk (none) r = true ∧ Q r h') :=
    (Cl_method (t := m_Tp_cut) rfl).trans (and_congr_left fun _ => decide_eq_true_iff)
/-! PenThatJumps$Tape.addToken(II)V -/
theorem b_Tp_addToken_0 {d : Nat} (x1 x2 : Int32) (r0 : Nat) (h : AH) (Q : Option Value → AH → Prop) : Wp d P_Tp_addToken 0 [.ref r0, .int x1, .int x2] [] h Q ↔ (hK h r0 = 9) ∧ (((hI h r0 4) < 0 → Wp d P_Tp_addToken 33 [.ref r0, .int x1, .int x2] [] h Q) ∧ (¬ ((hI h r0 4) < 0) → Wp d P_Tp_addToken 3 [.ref r0, .int x1, .int x2] [] h Q)) :=
    (r_go (j := 1) (L' := [.ref r0, .int x1, .int x2]) (S' := [.ref r0]) (h' := h) rfl rfl rfl rfl).trans <|
    (r_guard (j := 2) (L' := [.ref r0, .int x1, .int x2]) (S' := [.int (hI h r0 4)]) (h' := h) (p := hK h r0 = 9) rfl rfl rfl rfl (decide_eq_true_iff)).trans <| and_r <|
    r_if (j := 3) rfl (cd_lt _ _) rfl
theorem b_Tp_addToken_3 {d : Nat} (x1 x2 : Int32) (r0 : Nat) (h : AH) (Q : Option Value → AH → Prop) : Wp d P_Tp_addToken 3 [.ref r0, .int x1, .int x2] [] h Q ↔ (hK h r0 = 9) ∧ ((hK h r0 = 9) ∧ ((20 ≤ hK h (hR h r0 2) ∧ hK h (hR h r0 2) ≠ 40 ∧ hK h (hR h r0 2) ≠ 42 ∧ hK h (hR h r0 2) ≤ 45 ∧ hK h (hR h r0 2) ≠ 43) ∧ (((Int32.ofNat (hN h (hR h r0 2))) ≤ (hI h r0 4) → Wp d P_Tp_addToken 33 [.ref r0, .int x1, .int x2] [] h Q) ∧ (¬ ((Int32.ofNat (hN h (hR h r0 2))) ≤ (hI h r0 4)) → Wp d P_Tp_addToken 9 [.ref r0, .int x1, .int x2] [] h Q)))) :=
    (r_go (j := 4) (L' := [.ref r0, .int x1, .int x2]) (S' := [.ref r0]) (h' := h) rfl rfl rfl rfl).trans <|
    (r_guard (j := 5) (L' := [.ref r0, .int x1, .int x2]) (S' := [.int (hI h r0 4)]) (h' := h) (p := hK h r0 = 9) rfl rfl rfl rfl (decide_eq_true_iff)).trans <| and_r <|
    (r_go (j := 6) (L' := [.ref r0, .int x1, .int x2]) (S' := [.ref r0, .int (hI h r0 4)]) (h' := h) rfl rfl rfl rfl).trans <|
    (r_guard (j := 7) (L' := [.ref r0, .int x1, .int x2]) (S' := [.ref (hR h r0 2), .int (hI h r0 4)]) (h' := h) (p := hK h r0 = 9) rfl rfl rfl rfl (decide_eq_true_iff)).trans <| and_r <|
    (r_guard (j := 8) (L' := [.ref r0, .int x1, .int x2]) (S' := [.int (Int32.ofNat (hN h (hR h r0 2))), .int (hI h r0 4)]) (h' := h) (p := 20 ≤ hK h (hR h r0 2) ∧ hK h (hR h r0 2) ≠ 40 ∧ hK h (hR h r0 2) ≠ 42 ∧ hK h (hR h r0 2) ≤ 45 ∧ hK h (hR h r0 2) ≠ 43) rfl rfl rfl rfl (decide_eq_true_iff)).trans <| and_r <|
    r_icmp (j := 9) rfl (cd_ge _ _) rfl
theorem b_Tp_addToken_9 {d : Nat} (x1 x2 : Int32) (r0 : Nat) (h : AH) (Q : Option Value → AH → Prop) : Wp d P_Tp_addToken 9 [.ref r0, .int x1, .int x2] [] h Q ↔ (hK h r0 = 9) ∧ ((hK h r0 = 9) ∧ ((20 ≤ hK h (hR h r0 3) ∧ hK h (hR h r0 3) ≠ 40 ∧ hK h (hR h r0 3) ≠ 42 ∧ hK h (hR h r0 3) ≤ 45 ∧ hK h (hR h r0 3) ≠ 43) ∧ (((Int32.ofNat (hN h (hR h r0 3))) ≤ (hI h r0 4) → Wp d P_Tp_addToken 33 [.ref r0, .int x1, .int x2] [] h Q) ∧ (¬ ((Int32.ofNat (hN h (hR h r0 3))) ≤ (hI h r0 4)) → Wp d P_Tp_addToken 15 [.ref r0, .int x1, .int x2] [] h Q)))) :=
    (r_go (j := 10) (L' := [.ref r0, .int x1, .int x2]) (S' := [.ref r0]) (h' := h) rfl rfl rfl rfl).trans <|
    (r_guard (j := 11) (L' := [.ref r0, .int x1, .int x2]) (S' := [.int (hI h r0 4)]) (h' := h) (p := hK h r0 = 9) rfl rfl rfl rfl (decide_eq_true_iff)).trans <| and_r <|
    (r_go (j := 12) (L' := [.ref r0, .int x1, .int x2]) (S' := [.ref r0, .int (hI h r0 4)]) (h' := h) rfl rfl rfl rfl).trans <|
    (r_guard (j := 13) (L' := [.ref r0, .int x1, .int x2]) (S' := [.ref (hR h r0 3), .int (hI h r0 4)]) (h' := h) (p := hK h r0 = 9) rfl rfl rfl rfl (decide_eq_true_iff)).trans <| and_r <|
    (r_guard (j := 14) (L' := [.ref r0, .int x1, .int x2]) (S' := [.int (Int32.ofNat (hN h (hR h r0 3))), .int (hI h r0 4)]) (h' := h) (p := 20 ≤ hK h (hR h r0 3) ∧ hK h (hR h r0 3) ≠ 40 ∧ hK h (hR h r0 3) ≠ 42 ∧ hK h (hR h r0 3) ≤ 45 ∧ hK h (hR h r0 3) ≠ 43) rfl rfl rfl rfl (decide_eq_true_iff)).trans <| and_r <|
    r_icmp (j := 15) rfl (cd_ge _ _) rfl
theorem b_Tp_addToken_15 {d : Nat} (x1 x2 : Int32) (r0 : Nat) (h : AH) (Q : Option Value → AH → Prop) : Wp d P_Tp_addToken 15 [.ref r0, .int x1, .int x2] [] h Q ↔ (hK h r0 = 9) ∧ ((hK h r0 = 9) ∧ ((hK h (hR h r0 2) = 20 ∧ ixo (hI h r0 4) (hN h (hR h r0 2)) = true) ∧ ((hK (sI h (hR h r0 2) (Int32.toNatClampNeg (hI h r0 4)) x1) r0 = 9) ∧ ((hK (sI h (hR h r0 2) (Int32.toNatClampNeg (hI h r0 4)) x1) r0 = 9) ∧ ((hK (sI h (hR h r0 2) (Int32.toNatClampNeg (hI h r0 4)) x1) (hR (sI h (hR h r0 2) (Int32.toNatClampNeg (hI h r0 4)) x1) r0 3) = 20 ∧ ixo (hI (sI h (hR h r0 2) (Int32.toNatClampNeg (hI h r0 4)) x1) r0 4) (hN (sI h (hR h r0 2) (Int32.toNatClampNeg (hI h r0 4)) x1) (hR (sI h (hR h r0 2) (Int32.toNatClampNeg (hI h r0 4)) x1) r0 3)) = true) ∧ ((hK (sI (sI h (hR h r0 2) (Int32.toNatClampNeg (hI h r0 4)) x1) (hR (sI h (hR h r0 2) (Int32.toNatClampNeg (hI h r0 4)) x1) r0 3) (Int32.toNatClampNeg (hI (sI h (hR h r0 2) (Int32.toNatClampNeg (hI h r0 4)) x1) r0 4)) x2) r0 = 9) ∧ ((hK (sI (sI h (hR h r0 2) (Int32.toNatClampNeg (hI h r0 4)) x1) (hR (sI h (hR h r0 2) (Int32.toNatClampNeg (hI h r0 4)) x1) r0 3) (Int32.toNatClampNeg (hI (sI h (hR h r0 2) (Int32.toNatClampNeg (hI h r0 4)) x1) r0 4)) x2) r0 = 9) ∧ (Wp d P_Tp_addToken 33 [.ref r0, .int x1, .int x2] [] (sI (sI (sI h (hR h r0 2) (Int32.toNatClampNeg (hI h r0 4)) x1) (hR (sI h (hR h r0 2) (Int32.toNatClampNeg (hI h r0 4)) x1) r0 3) (Int32.toNatClampNeg (hI (sI h (hR h r0 2) (Int32.toNatClampNeg (hI h r0 4)) x1) r0 4)) x2) r0 4 ((hI (sI (sI h (hR h r0 2) (Int32.toNatClampNeg (hI h r0 4)) x1) (hR (sI h (hR h r0 2) (Int32.toNatClampNeg (hI h r0 4)) x1) r0 3) (Int32.toNatClampNeg (hI (sI h (hR h r0 2) (Int32.toNatClampNeg (hI h r0 4)) x1) r0 4)) x2) r0 4) + 1)) Q)))))))) :=
    (r_go (j := 16) (L' := [.ref r0, .int x1, .int x2]) (S' := [.ref r0]) (h' := h) rfl rfl rfl rfl).trans <|
    (r_guard (j := 17) (L' := [.ref r0, .int x1, .int x2]) (S' := [.ref (hR h r0 2)]) (h' := h) (p := hK h r0 = 9) rfl rfl rfl rfl (decide_eq_true_iff)).trans <| and_r <|
    (r_go (j := 18) (L' := [.ref r0, .int x1, .int x2]) (S' := [.ref r0, .ref (hR h r0 2)]) (h' := h) rfl rfl rfl rfl).trans <|
    (r_guard (j := 19) (L' := [.ref r0, .int x1, .int x2]) (S' := [.int (hI h r0 4), .ref (hR h r0 2)]) (h' := h) (p := hK h r0 = 9) rfl rfl rfl rfl (decide_eq_true_iff)).trans <| and_r <|
    (r_go (j := 20) (L' := [.ref r0, .int x1, .int x2]) (S' := [.int x1, .int (hI h r0 4), .ref (hR h r0 2)]) (h' := h) rfl rfl rfl rfl).trans <|
    (r_guard (j := 21) (L' := [.ref r0, .int x1, .int x2]) (S' := []) (h' := (sI h (hR h r0 2) (Int32.toNatClampNeg (hI h r0 4)) x1)) (p := hK h (hR h r0 2) = 20 ∧ ixo (hI h r0 4) (hN h (hR h r0 2)) = true) rfl rfl rfl rfl (and2 decide_eq_true_iff Iff.rfl)).trans <| and_r <|
    (r_go (j := 22) (L' := [.ref r0, .int x1, .int x2]) (S' := [.ref r0]) (h' := (sI h (hR h r0 2) (Int32.toNatClampNeg (hI h r0 4)) x1)) rfl rfl rfl rfl).trans <|
    (r_guard (j := 23) (L' := [.ref r0, .int x1, .int x2]) (S' := [.ref (hR (sI h (hR h r0 2) (Int32.toNatClampNeg (hI h r0 4)) x1) r0 3)]) (h' := (sI h (hR h r0 2) (Int32.toNatClampNeg (hI h r0 4)) x1)) (p := hK (sI h (hR h r0 2) (Int32.toNatClampNeg (hI h r0 4)) x1) r0 = 9) rfl rfl rfl rfl (decide_eq_true_iff)).trans <| and_r <|
    (r_go (j := 24) (L' := [.ref r0, .int x1, .int x2]) (S' := [.ref r0, .ref (hR (sI h (hR h r0 2) (Int32.toNatClampNeg (hI h r0 4)) x1) r0 3)]) (h' := (sI h (hR h r0 2) (Int32.toNatClampNeg (hI h r0 4)) x1)) rfl rfl rfl rfl).trans <|
    (r_guard (j := 25) (L' := [.ref r0, .int x1, .int x2]) (S' := [.int (hI (sI h (hR h r0 2) (Int32.toNatClampNeg (hI h r0 4)) x1) r0 4), .ref (hR (sI h (hR h r0 2) (Int32.toNatClampNeg (hI h r0 4)) x1) r0 3)]) (h' := (sI h (hR h r0 2) (Int32.toNatClampNeg (hI h r0 4)) x1)) (p := hK (sI h (hR h r0 2) (Int32.toNatClampNeg (hI h r0 4)) x1) r0 = 9) rfl rfl rfl rfl (decide_eq_true_iff)).trans <| and_r <|
    (r_go (j := 26) (L' := [.ref r0, .int x1, .int x2]) (S' := [.int x2, .int (hI (sI h (hR h r0 2) (Int32.toNatClampNeg (hI h r0 4)) x1) r0 4), .ref (hR (sI h (hR h r0 2) (Int32.toNatClampNeg (hI h r0 4)) x1) r0 3)]) (h' := (sI h (hR h r0 2) (Int32.toNatClampNeg (hI h r0 4)) x1)) rfl rfl rfl rfl).trans <|
    (r_guard (j := 27) (L' := [.ref r0, .int x1, .int x2]) (S' := []) (h' := (sI (sI h (hR h r0 2) (Int32.toNatClampNeg (hI h r0 4)) x1) (hR (sI h (hR h r0 2) (Int32.toNatClampNeg (hI h r0 4)) x1) r0 3) (Int32.toNatClampNeg (hI (sI h (hR h r0 2) (Int32.toNatClampNeg (hI h r0 4)) x1) r0 4)) x2)) (p := hK (sI h (hR h r0 2) (Int32.toNatClampNeg (hI h r0 4)) x1) (hR (sI h (hR h r0 2) (Int32.toNatClampNeg (hI h r0 4)) x1) r0 3) = 20 ∧ ixo (hI (sI h (hR h r0 2) (Int32.toNatClampNeg (hI h r0 4)) x1) r0 4) (hN (sI h (hR h r0 2) (Int32.toNatClampNeg (hI h r0 4)) x1) (hR (sI h (hR h r0 2) (Int32.toNatClampNeg (hI h r0 4)) x1) r0 3)) = true) rfl rfl rfl rfl (and2 decide_eq_true_iff Iff.rfl)).trans <| and_r <|
    (r_go (j := 28) (L' := [.ref r0, .int x1, .int x2]) (S' := [.ref r0]) (h' := (sI (sI h (hR h r0 2) (Int32.toNatClampNeg (hI h r0 4)) x1) (hR (sI h (hR h r0 2) (Int32.toNatClampNeg (hI h r0 4)) x1) r0 3) (Int32.toNatClampNeg (hI (sI h (hR h r0 2) (Int32.toNatClampNeg (hI h r0 4)) x1) r0 4)) x2)) rfl rfl rfl rfl).trans <|
    (r_go (j := 29) (L' := [.ref r0, .int x1, .int x2]) (S' := [.ref r0, .ref r0]) (h' := (sI (sI h (hR h r0 2) (Int32.toNatClampNeg (hI h r0 4)) x1) (hR (sI h (hR h r0 2) (Int32.toNatClampNeg (hI h r0 4)) x1) r0 3) (Int32.toNatClampNeg (hI (sI h (hR h r0 2) (Int32.toNatClampNeg (hI h r0 4)) x1) r0 4)) x2)) rfl rfl rfl rfl).trans <|
    (r_guard (j := 30) (L' := [.ref r0, .int x1, .int x2]) (S' := [.int (hI (sI (sI h (hR h r0 2) (Int32.toNatClampNeg (hI h r0 4)) x1) (hR (sI h (hR h r0 2) (Int32.toNatClampNeg (hI h r0 4)) x1) r0 3) (Int32.toNatClampNeg (hI (sI h (hR h r0 2) (Int32.toNatClampNeg (hI h r0 4)) x1) r0 4)) x2) r0 4), .ref r0]) (h' := (sI (sI h (hR h r0 2) (Int32.toNatClampNeg (hI h r0 4)) x1) (hR (sI h (hR h r0 2) (Int32.toNatClampNeg (hI h r0 4)) x1) r0 3) (Int32.toNatClampNeg (hI (sI h (hR h r0 2) (Int32.toNatClampNeg (hI h r0 4)) x1) r0 4)) x2)) (p := hK (sI (sI h (hR h r0 2) (Int32.toNatClampNeg (hI h r0 4)) x1) (hR (sI h (hR h r0 2) (Int32.toNatClampNeg (hI h r0 4)) x1) r0 3) (Int32.toNatClampNeg (hI (sI h (hR h r0 2) (Int32.toNatClampNeg (hI h r0 4)) x1) r0 4)) x2) r0 = 9) rfl rfl rfl rfl (decide_eq_true_iff)).trans <| and_r <|
    (r_iconst (j := 31) (x := 1) rfl i32_1 rfl).trans <|
    (r_go (j := 32) (L' := [.ref r0, .int x1, .int x2]) (S' := [.int ((hI (sI (sI h (hR h r0 2) (Int32.toNatClampNeg (hI h r0 4)) x1) (hR (sI h (hR h r0 2) (Int32.toNatClampNeg (hI h r0 4)) x1) r0 3) (Int32.toNatClampNeg (hI (sI h (hR h r0 2) (Int32.toNatClampNeg (hI h r0 4)) x1) r0 4)) x2) r0 4) + 1), .ref r0]) (h' := (sI (sI h (hR h r0 2) (Int32.toNatClampNeg (hI h r0 4)) x1) (hR (sI h (hR h r0 2) (Int32.toNatClampNeg (hI h r0 4)) x1) r0 3) (Int32.toNatClampNeg (hI (sI h (hR h r0 2) (Int32.toNatClampNeg (hI h r0 4)) x1) r0 4)) x2)) rfl rfl rfl rfl).trans <|
    r_guard (j := 33) (L' := [.ref r0, .int x1, .int x2]) (S' := []) (h' := (sI (sI (sI h (hR h r0 2) (Int32.toNatClampNeg (hI h r0 4)) x1) (hR (sI h (hR h r0 2) (Int32.toNatClampNeg (hI h r0 4)) x1) r0 3) (Int32.toNatClampNeg (hI (sI h (hR h r0 2) (Int32.toNatClampNeg (hI h r0 4)) x1) r0 4)) x2) r0 4 ((hI (sI (sI h (hR h r0 2) (Int32.toNatClampNeg (hI h r0 4)) x1) (hR (sI h (hR h r0 2) (Int32.toNatClampNeg (hI h r0 4)) x1) r0 3) (Int32.toNatClampNeg (hI (sI h (hR h r0 2) (Int32.toNatClampNeg (hI h r0 4)) x1) r0 4)) x2) r0 4) + 1))) (p := hK (sI (sI h (hR h r0 2) (Int32.toNatClampNeg (hI h r0 4)) x1) (hR (sI h (hR h r0 2) (Int32.toNatClampNeg (hI h r0 4)) x1) r0 3) (Int32.toNatClampNeg (hI (sI h (hR h r0 2) (Int32.toNatClampNeg (hI h r0 4)) x1) r0 4)) x2) r0 = 9) rfl rfl rfl rfl (pfI rfl)
theorem b_Tp_addToken_33 {d : Nat} (x1 x2 : Int32) (r0 : Nat) (h : AH) (Q : Option Value → AH → Prop) : Wp d P_Tp_addToken 33 [.ref r0, .int x1, .int x2] [] h Q ↔ Q (none) h :=
    r_ret rfl rfl rfl
theorem e_Tp_addToken {d : Nat} (x1 x2 : Int32) (r0 : Nat) (h : AH) (Q : Option Value → AH → Prop) : Cl (d + 1) q_Tp_addToken [.ref r0, .int x1, .int x2] h Q ↔ hK h r0 = 9 ∧ Wp d P_Tp_addToken 0 [.ref r0, .int x1, .int x2] [] h (fun r h' => rtk (none) r = true ∧ Q r h') :=
    (Cl_method (t := m_Tp_addToken) rfl).trans (and_congr_left fun _ => decide_eq_true_iff)
/-! PenThatJumps$Tape.pastBlanks(I)I -/
theorem b_Tp_pastBlanks_0 {d : Nat} (x1 : Int32) (r0 : Nat) (h : AH) (Q : Option Value → AH → Prop) : Wp d P_Tp_pastBlanks 0 [.ref r0, .int x1, .null] [] h Q ↔ Wp d P_Tp_pastBlanks 2 [.ref r0, .int x1, .int x1] [] h Q :=
    (r_go (j := 1) (L' := [.ref r0, .int x1, .null]) (S' := [.int x1]) (h' := h) rfl rfl rfl rfl).trans <|
    r_go (j := 2) (L' := [.ref r0, .int x1, .int x1]) (S' := []) (h' := h) rfl rfl rfl rfl
theorem b_Tp_pastBlanks_2 {d : Nat} (x1 x2 : Int32) (r0 : Nat) (h : AH) (Q : Option Value → AH → Prop) : Wp d P_Tp_pastBlanks 2 [.ref r0, .int x1, .int x2] [] h Q ↔ (hK h r0 = 9) ∧ (((hI h r0 1) ≤ x2 → Wp d P_Tp_pastBlanks 18 [.ref r0, .int x1, .int x2] [] h Q) ∧ (¬ ((hI h r0 1) ≤ x2) → Wp d P_Tp_pastBlanks 6 [.ref r0, .int x1, .int x2] [] h Q)) :=
    (r_go (j := 3) (L' := [.ref r0, .int x1, .int x2]) (S' := [.int x2]) (h' := h) rfl rfl rfl rfl).trans <|
    (r_go (j := 4) (L' := [.ref r0, .int x1, .int x2]) (S' := [.ref r0, .int x2]) (h' := h) rfl rfl rfl rfl).trans <|
    (r_guard (j := 5) (L' := [.ref r0, .int x1, .int x2]) (S' := [.int (hI h r0 1), .int x2]) (h' := h) (p := hK h r0 = 9) rfl rfl rfl rfl (decide_eq_true_iff)).trans <| and_r <|
    r_icmp (j := 6) rfl (cd_ge _ _) rfl
theorem b_Tp_pastBlanks_6 {d : Nat} (x1 x2 : Int32) (r0 : Nat) (h : AH) (Q : Option Value → AH → Prop) : Wp d P_Tp_pastBlanks 6 [.ref r0, .int x1, .int x2] [] h Q ↔ Cl d q_Tp_signAt [.ref r0, .int x2] h (fun r h' => Wp d P_Tp_pastBlanks 9 [.ref r0, .int x1, .int x2] (r.toList ++ []) h' Q) :=
    (r_go (j := 7) (L' := [.ref r0, .int x1, .int x2]) (S' := [.ref r0]) (h' := h) rfl rfl rfl rfl).trans <|
    (r_go (j := 8) (L' := [.ref r0, .int x1, .int x2]) (S' := [.int x2, .ref r0]) (h' := h) rfl rfl rfl rfl).trans <|
    r_call (j := 9) (a := [.ref r0, .int x2]) (S' := []) rfl rfl rfl rfl rfl rfl rfl
theorem b_Tp_pastBlanks_9 {d : Nat} (x1 x2 s0 : Int32) (r0 : Nat) (h : AH) (Q : Option Value → AH → Prop) : Wp d P_Tp_pastBlanks 9 [.ref r0, .int x1, .int x2] [.int s0] h Q ↔ (s0 = 10 → Wp d P_Tp_pastBlanks 16 [.ref r0, .int x1, .int x2] [] h Q) ∧ (¬ (s0 = 10) → Wp d P_Tp_pastBlanks 11 [.ref r0, .int x1, .int x2] [] h Q) :=
    (r_bipush (j := 10) (x := 10) rfl i32_10 rfl).trans <|
    r_icmp (j := 11) rfl (cd_eq _ _) rfl
theorem b_Tp_pastBlanks_11 {d : Nat} (x1 x2 : Int32) (r0 : Nat) (h : AH) (Q : Option Value → AH → Prop) : Wp d P_Tp_pastBlanks 11 [.ref r0, .int x1, .int x2] [] h Q ↔ Cl d q_Tp_signAt [.ref r0, .int x2] h (fun r h' => Wp d P_Tp_pastBlanks 14 [.ref r0, .int x1, .int x2] (r.toList ++ []) h' Q) :=
    (r_go (j := 12) (L' := [.ref r0, .int x1, .int x2]) (S' := [.ref r0]) (h' := h) rfl rfl rfl rfl).trans <|
    (r_go (j := 13) (L' := [.ref r0, .int x1, .int x2]) (S' := [.int x2, .ref r0]) (h' := h) rfl rfl rfl rfl).trans <|
    r_call (j := 14) (a := [.ref r0, .int x2]) (S' := []) rfl rfl rfl rfl rfl rfl rfl
theorem b_Tp_pastBlanks_14 {d : Nat} (x1 x2 s0 : Int32) (r0 : Nat) (h : AH) (Q : Option Value → AH → Prop) : Wp d P_Tp_pastBlanks 14 [.ref r0, .int x1, .int x2] [.int s0] h Q ↔ (¬ s0 = 32 → Wp d P_Tp_pastBlanks 18 [.ref r0, .int x1, .int x2] [] h Q) ∧ (¬ (¬ s0 = 32) → Wp d P_Tp_pastBlanks 16 [.ref r0, .int x1, .int x2] [] h Q) :=
    (r_bipush (j := 15) (x := 32) rfl i32_32 rfl).trans <|
    r_icmp (j := 16) rfl (cd_ne _ _) rfl
theorem b_Tp_pastBlanks_16 {d : Nat} (x1 x2 : Int32) (r0 : Nat) (h : AH) (Q : Option Value → AH → Prop) : Wp d P_Tp_pastBlanks 16 [.ref r0, .int x1, .int x2] [] h Q ↔ Wp d P_Tp_pastBlanks 2 [.ref r0, .int x1, .int (x2 + 1)] [] h Q :=
    (r_iinc (j := 17) (x := 1) (L' := [.ref r0, .int x1, .int (x2 + 1)]) rfl rfl i32_1 rfl rfl).trans <|
    r_go (j := 2) (L' := [.ref r0, .int x1, .int (x2 + 1)]) (S' := []) (h' := h) rfl rfl rfl rfl
theorem b_Tp_pastBlanks_18 {d : Nat} (x1 x2 : Int32) (r0 : Nat) (h : AH) (Q : Option Value → AH → Prop) : Wp d P_Tp_pastBlanks 18 [.ref r0, .int x1, .int x2] [] h Q ↔ Q (some (.int x2)) h :=
    (r_go (j := 19) (L' := [.ref r0, .int x1, .int x2]) (S' := [.int x2]) (h' := h) rfl rfl rfl rfl).trans <|
    r_ret rfl rfl rfl
theorem e_Tp_pastBlanks {d : Nat} (x1 : Int32) (r0 : Nat) (h : AH) (Q : Option Value → AH → Prop) : Cl (d + 1) q_Tp_pastBlanks [.ref r0, .int x1] h Q ↔ hK h r0 = 9 ∧ Wp d P_Tp_pastBlanks 0 [.ref r0, .int x1, .null] [] h (fun r h' => rtk (some .int) r = true ∧ Q r h') :=
    (Cl_method (t := m_Tp_pastBlanks) rfl).trans (and_congr_left fun _ => decide_eq_true_iff)
/-! PenThatJumps$Tape.cutToken(I)I -/
theorem b_Tp_cutToken_0 {d : Nat} (x1 : Int32) (r0 : Nat) (h : AH) (Q : Option Value → AH → Prop) : Wp d P_Tp_cutToken 0 [.ref r0, .int x1, .null] [] h Q ↔ Cl d q_Tp_signAt [.ref r0, .int x1] h (fun r h' => Wp d P_Tp_cutToken 3 [.ref r0, .int x1, .null] (r.toList ++ []) h' Q) :=
    (r_go (j := 1) (L' := [.ref r0, .int x1, .null]) (S' := [.ref r0]) (h' := h) rfl rfl rfl rfl).trans <|
    (r_go (j := 2) (L' := [.ref r0, .int x1, .null]) (S' := [.int x1, .ref r0]) (h' := h) rfl rfl rfl rfl).trans <|
    r_call (j := 3) (a := [.ref r0, .int x1]) (S' := []) rfl rfl rfl rfl rfl rfl rfl
theorem b_Tp_cutToken_3 {d : Nat} (x1 s0 : Int32) (r0 : Nat) (h : AH) (Q : Option Value → AH → Prop) : Wp d P_Tp_cutToken 3 [.ref r0, .int x1, .null] [.int s0] h Q ↔ Cl d q_Tp_isLetter [.int s0] h (fun r h' => Wp d P_Tp_cutToken 6 [.ref r0, .int x1, .int s0] (r.toList ++ []) h' Q) :=
    (r_go (j := 4) (L' := [.ref r0, .int x1, .int s0]) (S' := []) (h' := h) rfl rfl rfl rfl).trans <|
    (r_go (j := 5) (L' := [.ref r0, .int x1, .int s0]) (S' := [.int s0]) (h' := h) rfl rfl rfl rfl).trans <|
    r_call (j := 6) (a := [.int s0]) (S' := []) rfl rfl rfl rfl rfl rfl rfl
theorem b_Tp_cutToken_6 {d : Nat} (x1 x2 s0 : Int32) (r0 : Nat) (h : AH) (Q : Option Value → AH → Prop) : Wp d P_Tp_cutToken 6 [.ref r0, .int x1, .int x2] [.int s0] h Q ↔ (s0 = 0 → Wp d P_Tp_cutToken 11 [.ref r0, .int x1, .int x2] [] h Q) ∧ (¬ (s0 = 0) → Wp d P_Tp_cutToken 7 [.ref r0, .int x1, .int x2] [] h Q) :=
    r_if (j := 7) rfl (cd_eq _ _) rfl
theorem b_Tp_cutToken_7 {d : Nat} (x1 x2 : Int32) (r0 : Nat) (h : AH) (Q : Option Value → AH → Prop) : Wp d P_Tp_cutToken 7 [.ref r0, .int x1, .int x2] [] h Q ↔ Cl d q_Tp_cutWord [.ref r0, .int x1] h (fun r h' => Wp d P_Tp_cutToken 10 [.ref r0, .int x1, .int x2] (r.toList ++ []) h' Q) :=
    (r_go (j := 8) (L' := [.ref r0, .int x1, .int x2]) (S' := [.ref r0]) (h' := h) rfl rfl rfl rfl).trans <|
    (r_go (j := 9) (L' := [.ref r0, .int x1, .int x2]) (S' := [.int x1, .ref r0]) (h' := h) rfl rfl rfl rfl).trans <|
    r_call (j := 10) (a := [.ref r0, .int x1]) (S' := []) rfl rfl rfl rfl rfl rfl rfl
theorem b_Tp_cutToken_10 {d : Nat} (x1 x2 s0 : Int32) (r0 : Nat) (h : AH) (Q : Option Value → AH → Prop) : Wp d P_Tp_cutToken 10 [.ref r0, .int x1, .int x2] [.int s0] h Q ↔ Q (some (.int s0)) h :=
    r_ret rfl rfl rfl
theorem b_Tp_cutToken_11 {d : Nat} (x1 x2 : Int32) (r0 : Nat) (h : AH) (Q : Option Value → AH → Prop) : Wp d P_Tp_cutToken 11 [.ref r0, .int x1, .int x2] [] h Q ↔ Cl d q_Tp_isDigit [.int x2] h (fun r h' => Wp d P_Tp_cutToken 13 [.ref r0, .int x1, .int x2] (r.toList ++ []) h' Q) :=
    (r_go (j := 12) (L' := [.ref r0, .int x1, .int x2]) (S' := [.int x2]) (h' := h) rfl rfl rfl rfl).trans <|
    r_call (j := 13) (a := [.int x2]) (S' := []) rfl rfl rfl rfl rfl rfl rfl
theorem b_Tp_cutToken_13 {d : Nat} (x1 x2 s0 : Int32) (r0 : Nat) (h : AH) (Q : Option Value → AH → Prop) : Wp d P_Tp_cutToken 13 [.ref r0, .int x1, .int x2] [.int s0] h Q ↔ (s0 = 0 → Wp d P_Tp_cutToken 18 [.ref r0, .int x1, .int x2] [] h Q) ∧ (¬ (s0 = 0) → Wp d P_Tp_cutToken 14 [.ref r0, .int x1, .int x2] [] h Q) :=
    r_if (j := 14) rfl (cd_eq _ _) rfl
theorem b_Tp_cutToken_14 {d : Nat} (x1 x2 : Int32) (r0 : Nat) (h : AH) (Q : Option Value → AH → Prop) : Wp d P_Tp_cutToken 14 [.ref r0, .int x1, .int x2] [] h Q ↔ Cl d q_Tp_cutNumber [.ref r0, .int x1] h (fun r h' => Wp d P_Tp_cutToken 17 [.ref r0, .int x1, .int x2] (r.toList ++ []) h' Q) :=
    (r_go (j := 15) (L' := [.ref r0, .int x1, .int x2]) (S' := [.ref r0]) (h' := h) rfl rfl rfl rfl).trans <|
    (r_go (j := 16) (L' := [.ref r0, .int x1, .int x2]) (S' := [.int x1, .ref r0]) (h' := h) rfl rfl rfl rfl).trans <|
    r_call (j := 17) (a := [.ref r0, .int x1]) (S' := []) rfl rfl rfl rfl rfl rfl rfl
theorem b_Tp_cutToken_17 {d : Nat} (x1 x2 s0 : Int32) (r0 : Nat) (h : AH) (Q : Option Value → AH → Prop) : Wp d P_Tp_cutToken 17 [.ref r0, .int x1, .int x2] [.int s0] h Q ↔ Q (some (.int s0)) h :=
    r_ret rfl rfl rfl
theorem b_Tp_cutToken_18 {d : Nat} (x1 x2 : Int32) (r0 : Nat) (h : AH) (Q : Option Value → AH → Prop) : Wp d P_Tp_cutToken 18 [.ref r0, .int x1, .int x2] [] h Q ↔ Cl d q_Tp_isSign [.int x2] h (fun r h' => Wp d P_Tp_cutToken 21 [.ref r0, .int x1, .int x2] (r.toList ++ [.ref r0]) h' Q) :=
    (r_go (j := 19) (L' := [.ref r0, .int x1, .int x2]) (S' := [.ref r0]) (h' := h) rfl rfl rfl rfl).trans <|
    (r_go (j := 20) (L' := [.ref r0, .int x1, .int x2]) (S' := [.int x2, .ref r0]) (h' := h) rfl rfl rfl rfl).trans <|
    r_call (j := 21) (a := [.int x2]) (S' := [.ref r0]) rfl rfl rfl rfl rfl rfl rfl
theorem b_Tp_cutToken_21 {d : Nat} (x1 x2 s0 : Int32) (r0 t1 : Nat) (h : AH) (Q : Option Value → AH → Prop) : Wp d P_Tp_cutToken 21 [.ref r0, .int x1, .int x2] [.int s0, .ref t1] h Q ↔ (s0 = 0 → Wp d P_Tp_cutToken 26 [.ref r0, .int x1, .int x2] [.ref t1] h Q) ∧ (¬ (s0 = 0) → Wp d P_Tp_cutToken 22 [.ref r0, .int x1, .int x2] [.ref t1] h Q) :=
    r_if (j := 22) rfl (cd_eq _ _) rfl
theorem b_Tp_cutToken_22 {d : Nat} (x1 x2 : Int32) (r0 t0 : Nat) (h : AH) (Q : Option Value → AH → Prop) : Wp d P_Tp_cutToken 22 [.ref r0, .int x1, .int x2] [.ref t0] h Q ↔ Wp d P_Tp_cutToken 27 [.ref r0, .int x1, .int x2] [.int (11000 + x2), .ref t0] h Q :=
    (r_sipush (j := 23) (x := 11000) rfl i32_11000 rfl).trans <|
    (r_go (j := 24) (L' := [.ref r0, .int x1, .int x2]) (S' := [.int x2, .int 11000, .ref t0]) (h' := h) rfl rfl rfl rfl).trans <|
    (r_go (j := 25) (L' := [.ref r0, .int x1, .int x2]) (S' := [.int (11000 + x2), .ref t0]) (h' := h) rfl rfl rfl rfl).trans <|
    r_go (j := 27) (L' := [.ref r0, .int x1, .int x2]) (S' := [.int (11000 + x2), .ref t0]) (h' := h) rfl rfl rfl rfl
theorem b_Tp_cutToken_26 {d : Nat} (x1 x2 : Int32) (r0 t0 : Nat) (h : AH) (Q : Option Value → AH → Prop) : Wp d P_Tp_cutToken 26 [.ref r0, .int x1, .int x2] [.ref t0] h Q ↔ Wp d P_Tp_cutToken 27 [.ref r0, .int x1, .int x2] [.int 13000, .ref t0] h Q :=
    r_sipush (j := 27) (x := 13000) rfl i32_13000 rfl
theorem b_Tp_cutToken_27 {d : Nat} (x1 x2 s0 : Int32) (r0 t1 : Nat) (h : AH) (Q : Option Value → AH → Prop) : Wp d P_Tp_cutToken 27 [.ref r0, .int x1, .int x2] [.int s0, .ref t1] h Q ↔ Cl d q_Tp_addToken [.ref t1, .int s0, .int x1] h (fun r h' => Wp d P_Tp_cutToken 29 [.ref r0, .int x1, .int x2] (r.toList ++ []) h' Q) :=
    (r_go (j := 28) (L' := [.ref r0, .int x1, .int x2]) (S' := [.int x1, .int s0, .ref t1]) (h' := h) rfl rfl rfl rfl).trans <|
    r_call (j := 29) (a := [.ref t1, .int s0, .int x1]) (S' := []) rfl rfl rfl rfl rfl rfl rfl
theorem b_Tp_cutToken_29 {d : Nat} (x1 x2 : Int32) (r0 : Nat) (h : AH) (Q : Option Value → AH → Prop) : Wp d P_Tp_cutToken 29 [.ref r0, .int x1, .int x2] [] h Q ↔ Q (some (.int (x1 + 1))) h :=
    (r_go (j := 30) (L' := [.ref r0, .int x1, .int x2]) (S' := [.int x1]) (h' := h) rfl rfl rfl rfl).trans <|
    (r_iconst (j := 31) (x := 1) rfl i32_1 rfl).trans <|
    (r_go (j := 32) (L' := [.ref r0, .int x1, .int x2]) (S' := [.int (x1 + 1)]) (h' := h) rfl rfl rfl rfl).trans <|
    r_ret rfl rfl rfl
theorem e_Tp_cutToken {d : Nat} (x1 : Int32) (r0 : Nat) (h : AH) (Q : Option Value → AH → Prop) : Cl (d + 1) q_Tp_cutToken [.ref r0, .int x1] h Q ↔ hK h r0 = 9 ∧ Wp d P_Tp_cutToken 0 [.ref r0, .int x1, .null] [] h (fun r h' => rtk (some .int) r = true ∧ Q r h') :=
    (Cl_method (t := m_Tp_cutToken) rfl).trans (and_congr_left fun _ => decide_eq_true_iff)
/-! PenThatJumps$Tape.cutWord(I)I -/
theorem b_Tp_cutWord_0 {d : Nat} (x1 : Int32) (r0 : Nat) (h : AH) (Q : Option Value → AH → Prop) : Wp d P_Tp_cutWord 0 [.ref r0, .int x1, .null] [] h Q ↔ Wp d P_Tp_cutWord 2 [.ref r0, .int x1, .int x1] [] h Q :=
    (r_go (j := 1) (L' := [.ref r0, .int x1, .null]) (S' := [.int x1]) (h' := h) rfl rfl rfl rfl).trans <|
    r_go (j := 2) (L' := [.ref r0, .int x1, .int x1]) (S' := []) (h' := h) rfl rfl rfl rfl
theorem b_Tp_cutWord_2 {d : Nat} (x1 x2 : Int32) (r0 : Nat) (h : AH) (Q : Option Value → AH → Prop) : Wp d P_Tp_cutWord 2 [.ref r0, .int x1, .int x2] [] h Q ↔ (hK h r0 = 9) ∧ (((hI h r0 1) ≤ x2 → Wp d P_Tp_cutWord 13 [.ref r0, .int x1, .int x2] [] h Q) ∧ (¬ ((hI h r0 1) ≤ x2) → Wp d P_Tp_cutWord 6 [.ref r0, .int x1, .int x2] [] h Q)) :=
    (r_go (j := 3) (L' := [.ref r0, .int x1, .int x2]) (S' := [.int x2]) (h' := h) rfl rfl rfl rfl).trans <|
    (r_go (j := 4) (L' := [.ref r0, .int x1, .int x2]) (S' := [.ref r0, .int x2]) (h' := h) rfl rfl rfl rfl).trans <|
    (r_guard (j := 5) (L' := [.ref r0, .int x1, .int x2]) (S' := [.int (hI h r0 1), .int x2]) (h' := h) (p := hK h r0 = 9) rfl rfl rfl rfl (decide_eq_true_iff)).trans <| and_r <|
    r_icmp (j := 6) rfl (cd_ge _ _) rfl
theorem b_Tp_cutWord_6 {d : Nat} (x1 x2 : Int32) (r0 : Nat) (h : AH) (Q : Option Value → AH → Prop) : Wp d P_Tp_cutWord 6 [.ref r0, .int x1, .int x2] [] h Q ↔ Cl d q_Tp_signAt [.ref r0, .int x2] h (fun r h' => Wp d P_Tp_cutWord 9 [.ref r0, .int x1, .int x2] (r.toList ++ []) h' Q) :=
    (r_go (j := 7) (L' := [.ref r0, .int x1, .int x2]) (S' := [.ref r0]) (h' := h) rfl rfl rfl rfl).trans <|
    (r_go (j := 8) (L' := [.ref r0, .int x1, .int x2]) (S' := [.int x2, .ref r0]) (h' := h) rfl rfl rfl rfl).trans <|
    r_call (j := 9) (a := [.ref r0, .int x2]) (S' := []) rfl rfl rfl rfl rfl rfl rfl
theorem b_Tp_cutWord_9 {d : Nat} (x1 x2 s0 : Int32) (r0 : Nat) (h : AH) (Q : Option Value → AH → Prop) : Wp d P_Tp_cutWord 9 [.ref r0, .int x1, .int x2] [.int s0] h Q ↔ Cl d q_Tp_isLetter [.int s0] h (fun r h' => Wp d P_Tp_cutWord 10 [.ref r0, .int x1, .int x2] (r.toList ++ []) h' Q) :=
    r_call (j := 10) (a := [.int s0]) (S' := []) rfl rfl rfl rfl rfl rfl rfl
theorem b_Tp_cutWord_10 {d : Nat} (x1 x2 s0 : Int32) (r0 : Nat) (h : AH) (Q : Option Value → AH → Prop) : Wp d P_Tp_cutWord 10 [.ref r0, .int x1, .int x2] [.int s0] h Q ↔ (s0 = 0 → Wp d P_Tp_cutWord 13 [.ref r0, .int x1, .int x2] [] h Q) ∧ (¬ (s0 = 0) → Wp d P_Tp_cutWord 11 [.ref r0, .int x1, .int x2] [] h Q) :=
    r_if (j := 11) rfl (cd_eq _ _) rfl
theorem b_Tp_cutWord_11 {d : Nat} (x1 x2 : Int32) (r0 : Nat) (h : AH) (Q : Option Value → AH → Prop) : Wp d P_Tp_cutWord 11 [.ref r0, .int x1, .int x2] [] h Q ↔ Wp d P_Tp_cutWord 2 [.ref r0, .int x1, .int (x2 + 1)] [] h Q :=
    (r_iinc (j := 12) (x := 1) (L' := [.ref r0, .int x1, .int (x2 + 1)]) rfl rfl i32_1 rfl rfl).trans <|
    r_go (j := 2) (L' := [.ref r0, .int x1, .int (x2 + 1)]) (S' := []) (h' := h) rfl rfl rfl rfl
theorem b_Tp_cutWord_13 {d : Nat} (x1 x2 : Int32) (r0 : Nat) (h : AH) (Q : Option Value → AH → Prop) : Wp d P_Tp_cutWord 13 [.ref r0, .int x1, .int x2] [] h Q ↔ ((x2 - x1) ≤ 8 → Wp d P_Tp_cutWord 21 [.ref r0, .int x1, .int x2] [.ref r0] h Q) ∧ (¬ ((x2 - x1) ≤ 8) → Wp d P_Tp_cutWord 19 [.ref r0, .int x1, .int x2] [.ref r0] h Q) :=
    (r_go (j := 14) (L' := [.ref r0, .int x1, .int x2]) (S' := [.ref r0]) (h' := h) rfl rfl rfl rfl).trans <|
    (r_go (j := 15) (L' := [.ref r0, .int x1, .int x2]) (S' := [.int x2, .ref r0]) (h' := h) rfl rfl rfl rfl).trans <|
    (r_go (j := 16) (L' := [.ref r0, .int x1, .int x2]) (S' := [.int x1, .int x2, .ref r0]) (h' := h) rfl rfl rfl rfl).trans <|
    (r_go (j := 17) (L' := [.ref r0, .int x1, .int x2]) (S' := [.int (x2 - x1), .ref r0]) (h' := h) rfl rfl rfl rfl).trans <|
    (r_bipush (j := 18) (x := 8) rfl i32_8 rfl).trans <|
    r_icmp (j := 19) rfl (cd_le _ _) rfl
theorem b_Tp_cutWord_19 {d : Nat} (x1 x2 : Int32) (r0 t0 : Nat) (h : AH) (Q : Option Value → AH → Prop) : Wp d P_Tp_cutWord 19 [.ref r0, .int x1, .int x2] [.ref t0] h Q ↔ Wp d P_Tp_cutWord 27 [.ref r0, .int x1, .int x2] [.int 13000, .ref t0] h Q :=
    (r_sipush (j := 20) (x := 13000) rfl i32_13000 rfl).trans <|
    r_go (j := 27) (L' := [.ref r0, .int x1, .int x2]) (S' := [.int 13000, .ref t0]) (h' := h) rfl rfl rfl rfl
theorem b_Tp_cutWord_21 {d : Nat} (x1 x2 : Int32) (r0 t0 : Nat) (h : AH) (Q : Option Value → AH → Prop) : Wp d P_Tp_cutWord 21 [.ref r0, .int x1, .int x2] [.ref t0] h Q ↔ Cl d q_Tp_rowOfWord [.ref r0, .int x1, .int x2] h (fun r h' => Wp d P_Tp_cutWord 26 [.ref r0, .int x1, .int x2] (r.toList ++ [.int 10000, .ref t0]) h' Q) :=
    (r_sipush (j := 22) (x := 10000) rfl i32_10000 rfl).trans <|
    (r_go (j := 23) (L' := [.ref r0, .int x1, .int x2]) (S' := [.ref r0, .int 10000, .ref t0]) (h' := h) rfl rfl rfl rfl).trans <|
    (r_go (j := 24) (L' := [.ref r0, .int x1, .int x2]) (S' := [.int x1, .ref r0, .int 10000, .ref t0]) (h' := h) rfl rfl rfl rfl).trans <|
    (r_go (j := 25) (L' := [.ref r0, .int x1, .int x2]) (S' := [.int x2, .int x1, .ref r0, .int 10000, .ref t0]) (h' := h) rfl rfl rfl rfl).trans <|
    r_call (j := 26) (a := [.ref r0, .int x1, .int x2]) (S' := [.int 10000, .ref t0]) rfl rfl rfl rfl rfl rfl rfl
theorem b_Tp_cutWord_26 {d : Nat} (x1 x2 s0 s1 : Int32) (r0 t2 : Nat) (h : AH) (Q : Option Value → AH → Prop) : Wp d P_Tp_cutWord 26 [.ref r0, .int x1, .int x2] [.int s0, .int s1, .ref t2] h Q ↔ Wp d P_Tp_cutWord 27 [.ref r0, .int x1, .int x2] [.int (s1 + s0), .ref t2] h Q :=
    r_go (j := 27) (L' := [.ref r0, .int x1, .int x2]) (S' := [.int (s1 + s0), .ref t2]) (h' := h) rfl rfl rfl rfl
theorem b_Tp_cutWord_27 {d : Nat} (x1 x2 s0 : Int32) (r0 t1 : Nat) (h : AH) (Q : Option Value → AH → Prop) : Wp d P_Tp_cutWord 27 [.ref r0, .int x1, .int x2] [.int s0, .ref t1] h Q ↔ Cl d q_Tp_addToken [.ref t1, .int s0, .int x1] h (fun r h' => Wp d P_Tp_cutWord 29 [.ref r0, .int x1, .int x2] (r.toList ++ []) h' Q) :=
    (r_go (j := 28) (L' := [.ref r0, .int x1, .int x2]) (S' := [.int x1, .int s0, .ref t1]) (h' := h) rfl rfl rfl rfl).trans <|
    r_call (j := 29) (a := [.ref t1, .int s0, .int x1]) (S' := []) rfl rfl rfl rfl rfl rfl rfl
theorem b_Tp_cutWord_29 {d : Nat} (x1 x2 : Int32) (r0 : Nat) (h : AH) (Q : Option Value → AH → Prop) : Wp d P_Tp_cutWord 29 [.ref r0, .int x1, .int x2] [] h Q ↔ Q (some (.int x2)) h :=
    (r_go (j := 30) (L' := [.ref r0, .int x1, .int x2]) (S' := [.int x2]) (h' := h) rfl rfl rfl rfl).trans <|
    r_ret rfl rfl rfl
theorem e_Tp_cutWord {d : Nat} (x1 : Int32) (r0 : Nat) (h : AH) (Q : Option Value → AH → Prop) : Cl (d + 1) q_Tp_cutWord [.ref r0, .int x1] h Q ↔ hK h r0 = 9 ∧ Wp d P_Tp_cutWord 0 [.ref r0, .int x1, .null] [] h (fun r h' => rtk (some .int) r = true ∧ Q r h') :=
    (Cl_method (t := m_Tp_cutWord) rfl).trans (and_congr_left fun _ => decide_eq_true_iff)
/-! PenThatJumps$Tape.cutNumber(I)I -/
theorem b_Tp_cutNumber_0 {d : Nat} (x1 : Int32) (r0 : Nat) (h : AH) (Q : Option Value → AH → Prop) : Wp d P_Tp_cutNumber 0 [.ref r0, .int x1, .null, .null] [] h Q ↔ Wp d P_Tp_cutNumber 4 [.ref r0, .int x1, .int x1, .int 0] [] h Q :=
    (r_go (j := 1) (L' := [.ref r0, .int x1, .null, .null]) (S' := [.int x1]) (h' := h) rfl rfl rfl rfl).trans <|
    (r_go (j := 2) (L' := [.ref r0, .int x1, .int x1, .null]) (S' := []) (h' := h) rfl rfl rfl rfl).trans <|
    (r_iconst (j := 3) (x := 0) rfl i32_0 rfl).trans <|
    r_go (j := 4) (L' := [.ref r0, .int x1, .int x1, .int 0]) (S' := []) (h' := h) rfl rfl rfl rfl
theorem b_Tp_cutNumber_4 {d : Nat} (x1 x2 x3 : Int32) (r0 : Nat) (h : AH) (Q : Option Value → AH → Prop) : Wp d P_Tp_cutNumber 4 [.ref r0, .int x1, .int x2, .int x3] [] h Q ↔ (hK h r0 = 9) ∧ (((hI h r0 1) ≤ x2 → Wp d P_Tp_cutNumber 25 [.ref r0, .int x1, .int x2, .int x3] [] h Q) ∧ (¬ ((hI h r0 1) ≤ x2) → Wp d P_Tp_cutNumber 8 [.ref r0, .int x1, .int x2, .int x3] [] h Q)) :=
    (r_go (j := 5) (L' := [.ref r0, .int x1, .int x2, .int x3]) (S' := [.int x2]) (h' := h) rfl rfl rfl rfl).trans <|
    (r_go (j := 6) (L' := [.ref r0, .int x1, .int x2, .int x3]) (S' := [.ref r0, .int x2]) (h' := h) rfl rfl rfl rfl).trans <|
    (r_guard (j := 7) (L' := [.ref r0, .int x1, .int x2, .int x3]) (S' := [.int (hI h r0 1), .int x2]) (h' := h) (p := hK h r0 = 9) rfl rfl rfl rfl (decide_eq_true_iff)).trans <| and_r <|
    r_icmp (j := 8) rfl (cd_ge _ _) rfl
theorem b_Tp_cutNumber_8 {d : Nat} (x1 x2 x3 : Int32) (r0 : Nat) (h : AH) (Q : Option Value → AH → Prop) : Wp d P_Tp_cutNumber 8 [.ref r0, .int x1, .int x2, .int x3] [] h Q ↔ Cl d q_Tp_signAt [.ref r0, .int x2] h (fun r h' => Wp d P_Tp_cutNumber 11 [.ref r0, .int x1, .int x2, .int x3] (r.toList ++ []) h' Q) :=
    (r_go (j := 9) (L' := [.ref r0, .int x1, .int x2, .int x3]) (S' := [.ref r0]) (h' := h) rfl rfl rfl rfl).trans <|
    (r_go (j := 10) (L' := [.ref r0, .int x1, .int x2, .int x3]) (S' := [.int x2, .ref r0]) (h' := h) rfl rfl rfl rfl).trans <|
    r_call (j := 11) (a := [.ref r0, .int x2]) (S' := []) rfl rfl rfl rfl rfl rfl rfl
theorem b_Tp_cutNumber_11 {d : Nat} (x1 x2 x3 s0 : Int32) (r0 : Nat) (h : AH) (Q : Option Value → AH → Prop) : Wp d P_Tp_cutNumber 11 [.ref r0, .int x1, .int x2, .int x3] [.int s0] h Q ↔ Cl d q_Tp_isDigit [.int s0] h (fun r h' => Wp d P_Tp_cutNumber 12 [.ref r0, .int x1, .int x2, .int x3] (r.toList ++ []) h' Q) :=
    r_call (j := 12) (a := [.int s0]) (S' := []) rfl rfl rfl rfl rfl rfl rfl
theorem b_Tp_cutNumber_12 {d : Nat} (x1 x2 x3 s0 : Int32) (r0 : Nat) (h : AH) (Q : Option Value → AH → Prop) : Wp d P_Tp_cutNumber 12 [.ref r0, .int x1, .int x2, .int x3] [.int s0] h Q ↔ (s0 = 0 → Wp d P_Tp_cutNumber 25 [.ref r0, .int x1, .int x2, .int x3] [] h Q) ∧ (¬ (s0 = 0) → Wp d P_Tp_cutNumber 13 [.ref r0, .int x1, .int x2, .int x3] [] h Q) :=
    r_if (j := 13) rfl (cd_eq _ _) rfl
theorem b_Tp_cutNumber_13 {d : Nat} (x1 x2 x3 : Int32) (r0 : Nat) (h : AH) (Q : Option Value → AH → Prop) : Wp d P_Tp_cutNumber 13 [.ref r0, .int x1, .int x2, .int x3] [] h Q ↔ Cl d q_Tp_signAt [.ref r0, .int x2] h (fun r h' => Wp d P_Tp_cutNumber 19 [.ref r0, .int x1, .int x2, .int x3] (r.toList ++ [.int (x3 * 10)]) h' Q) :=
    (r_go (j := 14) (L' := [.ref r0, .int x1, .int x2, .int x3]) (S' := [.int x3]) (h' := h) rfl rfl rfl rfl).trans <|
    (r_bipush (j := 15) (x := 10) rfl i32_10 rfl).trans <|
    (r_go (j := 16) (L' := [.ref r0, .int x1, .int x2, .int x3]) (S' := [.int (x3 * 10)]) (h' := h) rfl rfl rfl rfl).trans <|
    (r_go (j := 17) (L' := [.ref r0, .int x1, .int x2, .int x3]) (S' := [.ref r0, .int (x3 * 10)]) (h' := h) rfl rfl rfl rfl).trans <|
    (r_go (j := 18) (L' := [.ref r0, .int x1, .int x2, .int x3]) (S' := [.int x2, .ref r0, .int (x3 * 10)]) (h' := h) rfl rfl rfl rfl).trans <|
    r_call (j := 19) (a := [.ref r0, .int x2]) (S' := [.int (x3 * 10)]) rfl rfl rfl rfl rfl rfl rfl
theorem b_Tp_cutNumber_19 {d : Nat} (x1 x2 x3 s0 s1 : Int32) (r0 : Nat) (h : AH) (Q : Option Value → AH → Prop) : Wp d P_Tp_cutNumber 19 [.ref r0, .int x1, .int x2, .int x3] [.int s0, .int s1] h Q ↔ Wp d P_Tp_cutNumber 4 [.ref r0, .int x1, .int (x2 + 1), .int (s1 + (s0 - 48))] [] h Q :=
    (r_bipush (j := 20) (x := 48) rfl i32_48 rfl).trans <|
    (r_go (j := 21) (L' := [.ref r0, .int x1, .int x2, .int x3]) (S' := [.int (s0 - 48), .int s1]) (h' := h) rfl rfl rfl rfl).trans <|
    (r_go (j := 22) (L' := [.ref r0, .int x1, .int x2, .int x3]) (S' := [.int (s1 + (s0 - 48))]) (h' := h) rfl rfl rfl rfl).trans <|
    (r_go (j := 23) (L' := [.ref r0, .int x1, .int x2, .int (s1 + (s0 - 48))]) (S' := []) (h' := h) rfl rfl rfl rfl).trans <|
    (r_iinc (j := 24) (x := 1) (L' := [.ref r0, .int x1, .int (x2 + 1), .int (s1 + (s0 - 48))]) rfl rfl i32_1 rfl rfl).trans <|
    r_go (j := 4) (L' := [.ref r0, .int x1, .int (x2 + 1), .int (s1 + (s0 - 48))]) (S' := []) (h' := h) rfl rfl rfl rfl
theorem b_Tp_cutNumber_25 {d : Nat} (x1 x2 x3 : Int32) (r0 : Nat) (h : AH) (Q : Option Value → AH → Prop) : Wp d P_Tp_cutNumber 25 [.ref r0, .int x1, .int x2, .int x3] [] h Q ↔ ((x2 - x1) ≤ 4 → Wp d P_Tp_cutNumber 33 [.ref r0, .int x1, .int x2, .int x3] [.ref r0] h Q) ∧ (¬ ((x2 - x1) ≤ 4) → Wp d P_Tp_cutNumber 31 [.ref r0, .int x1, .int x2, .int x3] [.ref r0] h Q) :=
    (r_go (j := 26) (L' := [.ref r0, .int x1, .int x2, .int x3]) (S' := [.ref r0]) (h' := h) rfl rfl rfl rfl).trans <|
    (r_go (j := 27) (L' := [.ref r0, .int x1, .int x2, .int x3]) (S' := [.int x2, .ref r0]) (h' := h) rfl rfl rfl rfl).trans <|
    (r_go (j := 28) (L' := [.ref r0, .int x1, .int x2, .int x3]) (S' := [.int x1, .int x2, .ref r0]) (h' := h) rfl rfl rfl rfl).trans <|
    (r_go (j := 29) (L' := [.ref r0, .int x1, .int x2, .int x3]) (S' := [.int (x2 - x1), .ref r0]) (h' := h) rfl rfl rfl rfl).trans <|
    (r_iconst (j := 30) (x := 4) rfl i32_4 rfl).trans <|
    r_icmp (j := 31) rfl (cd_le _ _) rfl
theorem b_Tp_cutNumber_31 {d : Nat} (x1 x2 x3 : Int32) (r0 t0 : Nat) (h : AH) (Q : Option Value → AH → Prop) : Wp d P_Tp_cutNumber 31 [.ref r0, .int x1, .int x2, .int x3] [.ref t0] h Q ↔ Wp d P_Tp_cutNumber 34 [.ref r0, .int x1, .int x2, .int x3] [.int 13000, .ref t0] h Q :=
    (r_sipush (j := 32) (x := 13000) rfl i32_13000 rfl).trans <|
    r_go (j := 34) (L' := [.ref r0, .int x1, .int x2, .int x3]) (S' := [.int 13000, .ref t0]) (h' := h) rfl rfl rfl rfl
theorem b_Tp_cutNumber_33 {d : Nat} (x1 x2 x3 : Int32) (r0 t0 : Nat) (h : AH) (Q : Option Value → AH → Prop) : Wp d P_Tp_cutNumber 33 [.ref r0, .int x1, .int x2, .int x3] [.ref t0] h Q ↔ Wp d P_Tp_cutNumber 34 [.ref r0, .int x1, .int x2, .int x3] [.int x3, .ref t0] h Q :=
    r_go (j := 34) (L' := [.ref r0, .int x1, .int x2, .int x3]) (S' := [.int x3, .ref t0]) (h' := h) rfl rfl rfl rfl
theorem b_Tp_cutNumber_34 {d : Nat} (x1 x2 x3 s0 : Int32) (r0 t1 : Nat) (h : AH) (Q : Option Value → AH → Prop) : Wp d P_Tp_cutNumber 34 [.ref r0, .int x1, .int x2, .int x3] [.int s0, .ref t1] h Q ↔ Cl d q_Tp_addToken [.ref t1, .int s0, .int x1] h (fun r h' => Wp d P_Tp_cutNumber 36 [.ref r0, .int x1, .int x2, .int x3] (r.toList ++ []) h' Q) :=
    (r_go (j := 35) (L' := [.ref r0, .int x1, .int x2, .int x3]) (S' := [.int x1, .int s0, .ref t1]) (h' := h) rfl rfl rfl rfl).trans <|
    r_call (j := 36) (a := [.ref t1, .int s0, .int x1]) (S' := []) rfl rfl rfl rfl rfl rfl rfl
theorem b_Tp_cutNumber_36 {d : Nat} (x1 x2 x3 : Int32) (r0 : Nat) (h : AH) (Q : Option Value → AH → Prop) : Wp d P_Tp_cutNumber 36 [.ref r0, .int x1, .int x2, .int x3] [] h Q ↔ Q (some (.int x2)) h :=
    (r_go (j := 37) (L' := [.ref r0, .int x1, .int x2, .int x3]) (S' := [.int x2]) (h' := h) rfl rfl rfl rfl).trans <|
    r_ret rfl rfl rfl
theorem e_Tp_cutNumber {d : Nat} (x1 : Int32) (r0 : Nat) (h : AH) (Q : Option Value → AH → Prop) : Cl (d + 1) q_Tp_cutNumber [.ref r0, .int x1] h Q ↔ hK h r0 = 9 ∧ Wp d P_Tp_cutNumber 0 [.ref r0, .int x1, .null, .null] [] h (fun r h' => rtk (some .int) r = true ∧ Q r h') :=
    (Cl_method (t := m_Tp_cutNumber) rfl).trans (and_congr_left fun _ => decide_eq_true_iff)
/-! PenThatJumps$Tape.rowOfWord(II)I -/
theorem b_Tp_rowOfWord_0 {d : Nat} (x1 x2 : Int32) (r0 : Nat) (h : AH) (Q : Option Value → AH → Prop) : Wp d P_Tp_rowOfWord 0 [.ref r0, .int x1, .int x2, .null, .null] [] h Q ↔ (20 ≤ hK h 26 ∧ hK h 26 ≠ 40 ∧ hK h 26 ≠ 42 ∧ hK h 26 ≤ 45 ∧ hK h 26 ≠ 43) ∧ (Wp d P_Tp_rowOfWord 7 [.ref r0, .int x1, .int x2, .int ((Int32.ofNat (hN h 26)) - 1), .int 0] [] h Q) :=
    (r_go (j := 1) (L' := [.ref r0, .int x1, .int x2, .null, .null]) (S' := [.ref 26]) (h' := h) rfl rfl rfl rfl).trans <|
    (r_guard (j := 2) (L' := [.ref r0, .int x1, .int x2, .null, .null]) (S' := [.int (Int32.ofNat (hN h 26))]) (h' := h) (p := 20 ≤ hK h 26 ∧ hK h 26 ≠ 40 ∧ hK h 26 ≠ 42 ∧ hK h 26 ≤ 45 ∧ hK h 26 ≠ 43) rfl rfl rfl rfl (decide_eq_true_iff)).trans <| and_r <|
    (r_iconst (j := 3) (x := 1) rfl i32_1 rfl).trans <|
    (r_go (j := 4) (L' := [.ref r0, .int x1, .int x2, .null, .null]) (S' := [.int ((Int32.ofNat (hN h 26)) - 1)]) (h' := h) rfl rfl rfl rfl).trans <|
    (r_go (j := 5) (L' := [.ref r0, .int x1, .int x2, .int ((Int32.ofNat (hN h 26)) - 1), .null]) (S' := []) (h' := h) rfl rfl rfl rfl).trans <|
    (r_iconst (j := 6) (x := 0) rfl i32_0 rfl).trans <|
    r_go (j := 7) (L' := [.ref r0, .int x1, .int x2, .int ((Int32.ofNat (hN h 26)) - 1), .int 0]) (S' := []) (h' := h) rfl rfl rfl rfl
theorem b_Tp_rowOfWord_7 {d : Nat} (x1 x2 x3 x4 : Int32) (r0 : Nat) (h : AH) (Q : Option Value → AH → Prop) : Wp d P_Tp_rowOfWord 7 [.ref r0, .int x1, .int x2, .int x3, .int x4] [] h Q ↔ (x3 ≤ x4 → Wp d P_Tp_rowOfWord 23 [.ref r0, .int x1, .int x2, .int x3, .int x4] [] h Q) ∧ (¬ (x3 ≤ x4) → Wp d P_Tp_rowOfWord 10 [.ref r0, .int x1, .int x2, .int x3, .int x4] [] h Q) :=
    (r_go (j := 8) (L' := [.ref r0, .int x1, .int x2, .int x3, .int x4]) (S' := [.int x4]) (h' := h) rfl rfl rfl rfl).trans <|
    (r_go (j := 9) (L' := [.ref r0, .int x1, .int x2, .int x3, .int x4]) (S' := [.int x3, .int x4]) (h' := h) rfl rfl rfl rfl).trans <|
    r_icmp (j := 10) rfl (cd_ge _ _) rfl
theorem b_Tp_rowOfWord_10 {d : Nat} (x1 x2 x3 x4 : Int32) (r0 : Nat) (h : AH) (Q : Option Value → AH → Prop) : Wp d P_Tp_rowOfWord 10 [.ref r0, .int x1, .int x2, .int x3, .int x4] [] h Q ↔ ((30 ≤ hK h 26 ∧ hK h 26 ≤ 41 ∧ hK h 26 ≠ 40) ∧ ixo x4 (hN h 26) = true) ∧ ((hK h (hR h 26 (Int32.toNatClampNeg x4)) = 40) ∧ (Cl d q_Tp_spells [.ref r0, .int x1, .int x2, .ref (hR h (hR h 26 (Int32.toNatClampNeg x4)) 0)] h (fun r h' => Wp d P_Tp_rowOfWord 18 [.ref r0, .int x1, .int x2, .int x3, .int x4] (r.toList ++ []) h' Q))) :=
    (r_go (j := 11) (L' := [.ref r0, .int x1, .int x2, .int x3, .int x4]) (S' := [.ref r0]) (h' := h) rfl rfl rfl rfl).trans <|
    (r_go (j := 12) (L' := [.ref r0, .int x1, .int x2, .int x3, .int x4]) (S' := [.int x1, .ref r0]) (h' := h) rfl rfl rfl rfl).trans <|
    (r_go (j := 13) (L' := [.ref r0, .int x1, .int x2, .int x3, .int x4]) (S' := [.int x2, .int x1, .ref r0]) (h' := h) rfl rfl rfl rfl).trans <|
    (r_go (j := 14) (L' := [.ref r0, .int x1, .int x2, .int x3, .int x4]) (S' := [.ref 26, .int x2, .int x1, .ref r0]) (h' := h) rfl rfl rfl rfl).trans <|
    (r_go (j := 15) (L' := [.ref r0, .int x1, .int x2, .int x3, .int x4]) (S' := [.int x4, .ref 26, .int x2, .int x1, .ref r0]) (h' := h) rfl rfl rfl rfl).trans <|
    (r_guard (j := 16) (L' := [.ref r0, .int x1, .int x2, .int x3, .int x4]) (S' := [.ref (hR h 26 (Int32.toNatClampNeg x4)), .int x2, .int x1, .ref r0]) (h' := h) (p := (30 ≤ hK h 26 ∧ hK h 26 ≤ 41 ∧ hK h 26 ≠ 40) ∧ ixo x4 (hN h 26) = true) rfl rfl rfl rfl (and2 decide_eq_true_iff Iff.rfl)).trans <| and_r <|
    (r_guard (j := 17) (L' := [.ref r0, .int x1, .int x2, .int x3, .int x4]) (S' := [.ref (hR h (hR h 26 (Int32.toNatClampNeg x4)) 0), .int x2, .int x1, .ref r0]) (h' := h) (p := hK h (hR h 26 (Int32.toNatClampNeg x4)) = 40) rfl rfl rfl rfl (decide_eq_true_iff)).trans <| and_r <|
    r_call (j := 18) (a := [.ref r0, .int x1, .int x2, .ref (hR h (hR h 26 (Int32.toNatClampNeg x4)) 0)]) (S' := []) rfl rfl rfl rfl rfl rfl rfl
theorem b_Tp_rowOfWord_18 {d : Nat} (x1 x2 x3 x4 s0 : Int32) (r0 : Nat) (h : AH) (Q : Option Value → AH → Prop) : Wp d P_Tp_rowOfWord 18 [.ref r0, .int x1, .int x2, .int x3, .int x4] [.int s0] h Q ↔ (s0 = 0 → Wp d P_Tp_rowOfWord 21 [.ref r0, .int x1, .int x2, .int x3, .int x4] [] h Q) ∧ (¬ (s0 = 0) → Wp d P_Tp_rowOfWord 19 [.ref r0, .int x1, .int x2, .int x3, .int x4] [] h Q) :=
    r_if (j := 19) rfl (cd_eq _ _) rfl
theorem b_Tp_rowOfWord_19 {d : Nat} (x1 x2 x3 x4 : Int32) (r0 : Nat) (h : AH) (Q : Option Value → AH → Prop) : Wp d P_Tp_rowOfWord 19 [.ref r0, .int x1, .int x2, .int x3, .int x4] [] h Q ↔ Q (some (.int x4)) h :=
    (r_go (j := 20) (L' := [.ref r0, .int x1, .int x2, .int x3, .int x4]) (S' := [.int x4]) (h' := h) rfl rfl rfl rfl).trans <|
    r_ret rfl rfl rfl
theorem b_Tp_rowOfWord_21 {d : Nat} (x1 x2 x3 x4 : Int32) (r0 : Nat) (h : AH) (Q : Option Value → AH → Prop) : Wp d P_Tp_rowOfWord 21 [.ref r0, .int x1, .int x2, .int x3, .int x4] [] h Q ↔ Wp d P_Tp_rowOfWord 7 [.ref r0, .int x1, .int x2, .int x3, .int (x4 + 1)] [] h Q :=
    (r_iinc (j := 22) (x := 1) (L' := [.ref r0, .int x1, .int x2, .int x3, .int (x4 + 1)]) rfl rfl i32_1 rfl rfl).trans <|
    r_go (j := 7) (L' := [.ref r0, .int x1, .int x2, .int x3, .int (x4 + 1)]) (S' := []) (h' := h) rfl rfl rfl rfl
theorem b_Tp_rowOfWord_23 {d : Nat} (x1 x2 x3 x4 : Int32) (r0 : Nat) (h : AH) (Q : Option Value → AH → Prop) : Wp d P_Tp_rowOfWord 23 [.ref r0, .int x1, .int x2, .int x3, .int x4] [] h Q ↔ Q (some (.int x3)) h :=
    (r_go (j := 24) (L' := [.ref r0, .int x1, .int x2, .int x3, .int x4]) (S' := [.int x3]) (h' := h) rfl rfl rfl rfl).trans <|
    r_ret rfl rfl rfl
theorem e_Tp_rowOfWord {d : Nat} (x1 x2 : Int32) (r0 : Nat) (h : AH) (Q : Option Value → AH → Prop) : Cl (d + 1) q_Tp_rowOfWord [.ref r0, .int x1, .int x2] h Q ↔ hK h r0 = 9 ∧ Wp d P_Tp_rowOfWord 0 [.ref r0, .int x1, .int x2, .null, .null] [] h (fun r h' => rtk (some .int) r = true ∧ Q r h') :=
    (Cl_method (t := m_Tp_rowOfWord) rfl).trans (and_congr_left fun _ => decide_eq_true_iff)
/-! PenThatJumps$Tape.spells(IILjava/lang/String;)Z -/
theorem b_Tp_spells_0 {d : Nat} (x1 x2 : Int32) (r0 r3 : Nat) (h : AH) (Q : Option Value → AH → Prop) : Wp d P_Tp_spells 0 [.ref r0, .int x1, .int x2, .ref r3, .null] [] h Q ↔ Cl d q_St_length [.ref r3] h (fun r h' => Wp d P_Tp_spells 2 [.ref r0, .int x1, .int x2, .ref r3, .null] (r.toList ++ []) h' Q) :=
    (r_go (j := 1) (L' := [.ref r0, .int x1, .int x2, .ref r3, .null]) (S' := [.ref r3]) (h' := h) rfl rfl rfl rfl).trans <|
    r_call (j := 2) (a := [.ref r3]) (S' := []) rfl rfl rfl rfl rfl rfl rfl
theorem b_Tp_spells_2 {d : Nat} (x1 x2 s0 : Int32) (r0 r3 : Nat) (h : AH) (Q : Option Value → AH → Prop) : Wp d P_Tp_spells 2 [.ref r0, .int x1, .int x2, .ref r3, .null] [.int s0] h Q ↔ (s0 = (x2 - x1) → Wp d P_Tp_spells 8 [.ref r0, .int x1, .int x2, .ref r3, .null] [] h Q) ∧ (¬ (s0 = (x2 - x1)) → Wp d P_Tp_spells 6 [.ref r0, .int x1, .int x2, .ref r3, .null] [] h Q) :=
    (r_go (j := 3) (L' := [.ref r0, .int x1, .int x2, .ref r3, .null]) (S' := [.int x2, .int s0]) (h' := h) rfl rfl rfl rfl).trans <|
    (r_go (j := 4) (L' := [.ref r0, .int x1, .int x2, .ref r3, .null]) (S' := [.int x1, .int x2, .int s0]) (h' := h) rfl rfl rfl rfl).trans <|
    (r_go (j := 5) (L' := [.ref r0, .int x1, .int x2, .ref r3, .null]) (S' := [.int (x2 - x1), .int s0]) (h' := h) rfl rfl rfl rfl).trans <|
    r_icmp (j := 6) rfl (cd_eq _ _) rfl
theorem b_Tp_spells_6 {d : Nat} (x1 x2 : Int32) (r0 r3 : Nat) (h : AH) (Q : Option Value → AH → Prop) : Wp d P_Tp_spells 6 [.ref r0, .int x1, .int x2, .ref r3, .null] [] h Q ↔ Q (some (.int 0)) h :=
    (r_iconst (j := 7) (x := 0) rfl i32_0 rfl).trans <|
    r_ret rfl rfl rfl
theorem b_Tp_spells_8 {d : Nat} (x1 x2 : Int32) (r0 r3 : Nat) (h : AH) (Q : Option Value → AH → Prop) : Wp d P_Tp_spells 8 [.ref r0, .int x1, .int x2, .ref r3, .null] [] h Q ↔ Wp d P_Tp_spells 10 [.ref r0, .int x1, .int x2, .ref r3, .int 0] [] h Q :=
    (r_iconst (j := 9) (x := 0) rfl i32_0 rfl).trans <|
    r_go (j := 10) (L' := [.ref r0, .int x1, .int x2, .ref r3, .int 0]) (S' := []) (h' := h) rfl rfl rfl rfl
theorem b_Tp_spells_10 {d : Nat} (x1 x2 x4 : Int32) (r0 r3 : Nat) (h : AH) (Q : Option Value → AH → Prop) : Wp d P_Tp_spells 10 [.ref r0, .int x1, .int x2, .ref r3, .int x4] [] h Q ↔ Cl d q_St_length [.ref r3] h (fun r h' => Wp d P_Tp_spells 13 [.ref r0, .int x1, .int x2, .ref r3, .int x4] (r.toList ++ [.int x4]) h' Q) :=
    (r_go (j := 11) (L' := [.ref r0, .int x1, .int x2, .ref r3, .int x4]) (S' := [.int x4]) (h' := h) rfl rfl rfl rfl).trans <|
    (r_go (j := 12) (L' := [.ref r0, .int x1, .int x2, .ref r3, .int x4]) (S' := [.ref r3, .int x4]) (h' := h) rfl rfl rfl rfl).trans <|
    r_call (j := 13) (a := [.ref r3]) (S' := [.int x4]) rfl rfl rfl rfl rfl rfl rfl
theorem b_Tp_spells_13 {d : Nat} (x1 x2 x4 s0 s1 : Int32) (r0 r3 : Nat) (h : AH) (Q : Option Value → AH → Prop) : Wp d P_Tp_spells 13 [.ref r0, .int x1, .int x2, .ref r3, .int x4] [.int s0, .int s1] h Q ↔ (s0 ≤ s1 → Wp d P_Tp_spells 27 [.ref r0, .int x1, .int x2, .ref r3, .int x4] [] h Q) ∧ (¬ (s0 ≤ s1) → Wp d P_Tp_spells 14 [.ref r0, .int x1, .int x2, .ref r3, .int x4] [] h Q) :=
    r_icmp (j := 14) rfl (cd_ge _ _) rfl
theorem b_Tp_spells_14 {d : Nat} (x1 x2 x4 : Int32) (r0 r3 : Nat) (h : AH) (Q : Option Value → AH → Prop) : Wp d P_Tp_spells 14 [.ref r0, .int x1, .int x2, .ref r3, .int x4] [] h Q ↔ Cl d q_St_charAt [.ref r3, .int x4] h (fun r h' => Wp d P_Tp_spells 17 [.ref r0, .int x1, .int x2, .ref r3, .int x4] (r.toList ++ []) h' Q) :=
    (r_go (j := 15) (L' := [.ref r0, .int x1, .int x2, .ref r3, .int x4]) (S' := [.ref r3]) (h' := h) rfl rfl rfl rfl).trans <|
    (r_go (j := 16) (L' := [.ref r0, .int x1, .int x2, .ref r3, .int x4]) (S' := [.int x4, .ref r3]) (h' := h) rfl rfl rfl rfl).trans <|
    r_call (j := 17) (a := [.ref r3, .int x4]) (S' := []) rfl rfl rfl rfl rfl rfl rfl
theorem b_Tp_spells_17 {d : Nat} (x1 x2 x4 s0 : Int32) (r0 r3 : Nat) (h : AH) (Q : Option Value → AH → Prop) : Wp d P_Tp_spells 17 [.ref r0, .int x1, .int x2, .ref r3, .int x4] [.int s0] h Q ↔ Cl d q_Tp_signAt [.ref r0, .int (x1 + x4)] h (fun r h' => Wp d P_Tp_spells 22 [.ref r0, .int x1, .int x2, .ref r3, .int x4] (r.toList ++ [.int s0]) h' Q) :=
    (r_go (j := 18) (L' := [.ref r0, .int x1, .int x2, .ref r3, .int x4]) (S' := [.ref r0, .int s0]) (h' := h) rfl rfl rfl rfl).trans <|
    (r_go (j := 19) (L' := [.ref r0, .int x1, .int x2, .ref r3, .int x4]) (S' := [.int x1, .ref r0, .int s0]) (h' := h) rfl rfl rfl rfl).trans <|
    (r_go (j := 20) (L' := [.ref r0, .int x1, .int x2, .ref r3, .int x4]) (S' := [.int x4, .int x1, .ref r0, .int s0]) (h' := h) rfl rfl rfl rfl).trans <|
    (r_go (j := 21) (L' := [.ref r0, .int x1, .int x2, .ref r3, .int x4]) (S' := [.int (x1 + x4), .ref r0, .int s0]) (h' := h) rfl rfl rfl rfl).trans <|
    r_call (j := 22) (a := [.ref r0, .int (x1 + x4)]) (S' := [.int s0]) rfl rfl rfl rfl rfl rfl rfl
theorem b_Tp_spells_22 {d : Nat} (x1 x2 x4 s0 s1 : Int32) (r0 r3 : Nat) (h : AH) (Q : Option Value → AH → Prop) : Wp d P_Tp_spells 22 [.ref r0, .int x1, .int x2, .ref r3, .int x4] [.int s0, .int s1] h Q ↔ (s1 = s0 → Wp d P_Tp_spells 25 [.ref r0, .int x1, .int x2, .ref r3, .int x4] [] h Q) ∧ (¬ (s1 = s0) → Wp d P_Tp_spells 23 [.ref r0, .int x1, .int x2, .ref r3, .int x4] [] h Q) :=
    r_icmp (j := 23) rfl (cd_eq _ _) rfl
theorem b_Tp_spells_23 {d : Nat} (x1 x2 x4 : Int32) (r0 r3 : Nat) (h : AH) (Q : Option Value → AH → Prop) : Wp d P_Tp_spells 23 [.ref r0, .int x1, .int x2, .ref r3, .int x4] [] h Q ↔ Q (some (.int 0)) h :=
    (r_iconst (j := 24) (x := 0) rfl i32_0 rfl).trans <|
    r_ret rfl rfl rfl
theorem b_Tp_spells_25 {d : Nat} (x1 x2 x4 : Int32) (r0 r3 : Nat) (h : AH) (Q : Option Value → AH → Prop) : Wp d P_Tp_spells 25 [.ref r0, .int x1, .int x2, .ref r3, .int x4] [] h Q ↔ Wp d P_Tp_spells 10 [.ref r0, .int x1, .int x2, .ref r3, .int (x4 + 1)] [] h Q :=
    (r_iinc (j := 26) (x := 1) (L' := [.ref r0, .int x1, .int x2, .ref r3, .int (x4 + 1)]) rfl rfl i32_1 rfl rfl).trans <|
    r_go (j := 10) (L' := [.ref r0, .int x1, .int x2, .ref r3, .int (x4 + 1)]) (S' := []) (h' := h) rfl rfl rfl rfl
theorem b_Tp_spells_27 {d : Nat} (x1 x2 x4 : Int32) (r0 r3 : Nat) (h : AH) (Q : Option Value → AH → Prop) : Wp d P_Tp_spells 27 [.ref r0, .int x1, .int x2, .ref r3, .int x4] [] h Q ↔ Q (some (.int 1)) h :=
    (r_iconst (j := 28) (x := 1) rfl i32_1 rfl).trans <|
    r_ret rfl rfl rfl
theorem e_Tp_spells {d : Nat} (x1 x2 : Int32) (r0 r3 : Nat) (h : AH) (Q : Option Value → AH → Prop) : Cl (d + 1) q_Tp_spells [.ref r0, .int x1, .int x2, .ref r3] h Q ↔ hK h r0 = 9 ∧ Wp d P_Tp_spells 0 [.ref r0, .int x1, .int x2, .ref r3, .null] [] h (fun r h' => rtk (some .boolean) r = true ∧ Q r h') :=
    (Cl_method (t := m_Tp_spells) rfl).trans (and_congr_left fun _ => decide_eq_true_iff)
/-! PenThatJumps$Tape.isLetter(C)Z -/
theorem b_Tp_isLetter_0 {d : Nat} (x0 : Int32) (h : AH) (Q : Option Value → AH → Prop) : Wp d P_Tp_isLetter 0 [.int x0] [] h Q ↔ (x0 < 97 → Wp d P_Tp_isLetter 8 [.int x0] [] h Q) ∧ (¬ (x0 < 97) → Wp d P_Tp_isLetter 3 [.int x0] [] h Q) :=
    (r_go (j := 1) (L' := [.int x0]) (S' := [.int x0]) (h' := h) rfl rfl rfl rfl).trans <|
    (r_bipush (j := 2) (x := 97) rfl i32_97 rfl).trans <|
    r_icmp (j := 3) rfl (cd_lt _ _) rfl
theorem b_Tp_isLetter_3 {d : Nat} (x0 : Int32) (h : AH) (Q : Option Value → AH → Prop) : Wp d P_Tp_isLetter 3 [.int x0] [] h Q ↔ (122 < x0 → Wp d P_Tp_isLetter 8 [.int x0] [] h Q) ∧ (¬ (122 < x0) → Wp d P_Tp_isLetter 6 [.int x0] [] h Q) :=
    (r_go (j := 4) (L' := [.int x0]) (S' := [.int x0]) (h' := h) rfl rfl rfl rfl).trans <|
    (r_bipush (j := 5) (x := 122) rfl i32_122 rfl).trans <|
    r_icmp (j := 6) rfl (cd_gt _ _) rfl
theorem b_Tp_isLetter_6 {d : Nat} (x0 : Int32) (h : AH) (Q : Option Value → AH → Prop) : Wp d P_Tp_isLetter 6 [.int x0] [] h Q ↔ Wp d P_Tp_isLetter 9 [.int x0] [.int 1] h Q :=
    (r_iconst (j := 7) (x := 1) rfl i32_1 rfl).trans <|
    r_go (j := 9) (L' := [.int x0]) (S' := [.int 1]) (h' := h) rfl rfl rfl rfl
theorem b_Tp_isLetter_8 {d : Nat} (x0 : Int32) (h : AH) (Q : Option Value → AH → Prop) : Wp d P_Tp_isLetter 8 [.int x0] [] h Q ↔ Wp d P_Tp_isLetter 9 [.int x0] [.int 0] h Q :=
    r_iconst (j := 9) (x := 0) rfl i32_0 rfl
theorem b_Tp_isLetter_9 {d : Nat} (x0 s0 : Int32) (h : AH) (Q : Option Value → AH → Prop) : Wp d P_Tp_isLetter 9 [.int x0] [.int s0] h Q ↔ Q (some (.int s0)) h :=
    r_ret rfl rfl rfl
theorem e_Tp_isLetter {d : Nat} (x0 : Int32) (h : AH) (Q : Option Value → AH → Prop) : Cl (d + 1) q_Tp_isLetter [.int x0] h Q ↔ Wp d P_Tp_isLetter 0 [.int x0] [] h (fun r h' => rtk (some .boolean) r = true ∧ Q r h') :=
    (Cl_method (t := m_Tp_isLetter) rfl).trans (and_iff_right rfl)
/-! PenThatJumps$Tape.isDigit(C)Z -/
theorem b_Tp_isDigit_0 {d : Nat} (x0 : Int32) (h : AH) (Q : Option Value → AH → Prop) : Wp d P_Tp_isDigit 0 [.int x0] [] h Q ↔ (x0 < 48 → Wp d P_Tp_isDigit 8 [.int x0] [] h Q) ∧ (¬ (x0 < 48) → Wp d P_Tp_isDigit 3 [.int x0] [] h Q) :=
    (r_go (j := 1) (L' := [.int x0]) (S' := [.int x0]) (h' := h) rfl rfl rfl rfl).trans <|
    (r_bipush (j := 2) (x := 48) rfl i32_48 rfl).trans <|
    r_icmp (j := 3) rfl (cd_lt _ _) rfl
theorem b_Tp_isDigit_3 {d : Nat} (x0 : Int32) (h : AH) (Q : Option Value → AH → Prop) : Wp d P_Tp_isDigit 3 [.int x0] [] h Q ↔ (57 < x0 → Wp d P_Tp_isDigit 8 [.int x0] [] h Q) ∧ (¬ (57 < x0) → Wp d P_Tp_isDigit 6 [.int x0] [] h Q) :=
    (r_go (j := 4) (L' := [.int x0]) (S' := [.int x0]) (h' := h) rfl rfl rfl rfl).trans <|
    (r_bipush (j := 5) (x := 57) rfl i32_57 rfl).trans <|
    r_icmp (j := 6) rfl (cd_gt _ _) rfl
theorem b_Tp_isDigit_6 {d : Nat} (x0 : Int32) (h : AH) (Q : Option Value → AH → Prop) : Wp d P_Tp_isDigit 6 [.int x0] [] h Q ↔ Wp d P_Tp_isDigit 9 [.int x0] [.int 1] h Q :=
    (r_iconst (j := 7) (x := 1) rfl i32_1 rfl).trans <|
    r_go (j := 9) (L' := [.int x0]) (S' := [.int 1]) (h' := h) rfl rfl rfl rfl
theorem b_Tp_isDigit_8 {d : Nat} (x0 : Int32) (h : AH) (Q : Option Value → AH → Prop) : Wp d P_Tp_isDigit 8 [.int x0] [] h Q ↔ Wp d P_Tp_isDigit 9 [.int x0] [.int 0] h Q :=
    r_iconst (j := 9) (x := 0) rfl i32_0 rfl
theorem b_Tp_isDigit_9 {d : Nat} (x0 s0 : Int32) (h : AH) (Q : Option Value → AH → Prop) : Wp d P_Tp_isDigit 9 [.int x0] [.int s0] h Q ↔ Q (some (.int s0)) h :=
    r_ret rfl rfl rfl
theorem e_Tp_isDigit {d : Nat} (x0 : Int32) (h : AH) (Q : Option Value → AH → Prop) : Cl (d + 1) q_Tp_isDigit [.int x0] h Q ↔ Wp d P_Tp_isDigit 0 [.int x0] [] h (fun r h' => rtk (some .boolean) r = true ∧ Q r h') :=
    (Cl_method (t := m_Tp_isDigit) rfl).trans (and_iff_right rfl)
/-! PenThatJumps$Tape.isSign(C)Z -/
theorem b_Tp_isSign_0 {d : Nat} (x0 : Int32) (h : AH) (Q : Option Value → AH → Prop) : Wp d P_Tp_isSign 0 [.int x0] [] h Q ↔ (x0 = 40 → Wp d P_Tp_isSign 24 [.int x0] [] h Q) ∧ (¬ (x0 = 40) → Wp d P_Tp_isSign 3 [.int x0] [] h Q) :=
    (r_go (j := 1) (L' := [.int x0]) (S' := [.int x0]) (h' := h) rfl rfl rfl rfl).trans <|
    (r_bipush (j := 2) (x := 40) rfl i32_40 rfl).trans <|
    r_icmp (j := 3) rfl (cd_eq _ _) rfl
theorem b_Tp_isSign_3 {d : Nat} (x0 : Int32) (h : AH) (Q : Option Value → AH → Prop) : Wp d P_Tp_isSign 3 [.int x0] [] h Q ↔ (x0 = 41 → Wp d P_Tp_isSign 24 [.int x0] [] h Q) ∧ (¬ (x0 = 41) → Wp d P_Tp_isSign 6 [.int x0] [] h Q) :=
    (r_go (j := 4) (L' := [.int x0]) (S' := [.int x0]) (h' := h) rfl rfl rfl rfl).trans <|
    (r_bipush (j := 5) (x := 41) rfl i32_41 rfl).trans <|
    r_icmp (j := 6) rfl (cd_eq _ _) rfl
theorem b_Tp_isSign_6 {d : Nat} (x0 : Int32) (h : AH) (Q : Option Value → AH → Prop) : Wp d P_Tp_isSign 6 [.int x0] [] h Q ↔ (x0 = 60 → Wp d P_Tp_isSign 24 [.int x0] [] h Q) ∧ (¬ (x0 = 60) → Wp d P_Tp_isSign 9 [.int x0] [] h Q) :=
    (r_go (j := 7) (L' := [.int x0]) (S' := [.int x0]) (h' := h) rfl rfl rfl rfl).trans <|
    (r_bipush (j := 8) (x := 60) rfl i32_60 rfl).trans <|
    r_icmp (j := 9) rfl (cd_eq _ _) rfl
theorem b_Tp_isSign_9 {d : Nat} (x0 : Int32) (h : AH) (Q : Option Value → AH → Prop) : Wp d P_Tp_isSign 9 [.int x0] [] h Q ↔ (x0 = 61 → Wp d P_Tp_isSign 24 [.int x0] [] h Q) ∧ (¬ (x0 = 61) → Wp d P_Tp_isSign 12 [.int x0] [] h Q) :=
    (r_go (j := 10) (L' := [.int x0]) (S' := [.int x0]) (h' := h) rfl rfl rfl rfl).trans <|
    (r_bipush (j := 11) (x := 61) rfl i32_61 rfl).trans <|
    r_icmp (j := 12) rfl (cd_eq _ _) rfl
theorem b_Tp_isSign_12 {d : Nat} (x0 : Int32) (h : AH) (Q : Option Value → AH → Prop) : Wp d P_Tp_isSign 12 [.int x0] [] h Q ↔ (x0 = 43 → Wp d P_Tp_isSign 24 [.int x0] [] h Q) ∧ (¬ (x0 = 43) → Wp d P_Tp_isSign 15 [.int x0] [] h Q) :=
    (r_go (j := 13) (L' := [.int x0]) (S' := [.int x0]) (h' := h) rfl rfl rfl rfl).trans <|
    (r_bipush (j := 14) (x := 43) rfl i32_43 rfl).trans <|
    r_icmp (j := 15) rfl (cd_eq _ _) rfl
theorem b_Tp_isSign_15 {d : Nat} (x0 : Int32) (h : AH) (Q : Option Value → AH → Prop) : Wp d P_Tp_isSign 15 [.int x0] [] h Q ↔ (x0 = 45 → Wp d P_Tp_isSign 24 [.int x0] [] h Q) ∧ (¬ (x0 = 45) → Wp d P_Tp_isSign 18 [.int x0] [] h Q) :=
    (r_go (j := 16) (L' := [.int x0]) (S' := [.int x0]) (h' := h) rfl rfl rfl rfl).trans <|
    (r_bipush (j := 17) (x := 45) rfl i32_45 rfl).trans <|
    r_icmp (j := 18) rfl (cd_eq _ _) rfl
theorem b_Tp_isSign_18 {d : Nat} (x0 : Int32) (h : AH) (Q : Option Value → AH → Prop) : Wp d P_Tp_isSign 18 [.int x0] [] h Q ↔ (x0 = 42 → Wp d P_Tp_isSign 24 [.int x0] [] h Q) ∧ (¬ (x0 = 42) → Wp d P_Tp_isSign 21 [.int x0] [] h Q) :=
    (r_go (j := 19) (L' := [.int x0]) (S' := [.int x0]) (h' := h) rfl rfl rfl rfl).trans <|
    (r_bipush (j := 20) (x := 42) rfl i32_42 rfl).trans <|
    r_icmp (j := 21) rfl (cd_eq _ _) rfl
theorem b_Tp_isSign_21 {d : Nat} (x0 : Int32) (h : AH) (Q : Option Value → AH → Prop) : Wp d P_Tp_isSign 21 [.int x0] [] h Q ↔ (¬ x0 = 59 → Wp d P_Tp_isSign 26 [.int x0] [] h Q) ∧ (¬ (¬ x0 = 59) → Wp d P_Tp_isSign 24 [.int x0] [] h Q) :=
    (r_go (j := 22) (L' := [.int x0]) (S' := [.int x0]) (h' := h) rfl rfl rfl rfl).trans <|
    (r_bipush (j := 23) (x := 59) rfl i32_59 rfl).trans <|
    r_icmp (j := 24) rfl (cd_ne _ _) rfl
theorem b_Tp_isSign_24 {d : Nat} (x0 : Int32) (h : AH) (Q : Option Value → AH → Prop) : Wp d P_Tp_isSign 24 [.int x0] [] h Q ↔ Wp d P_Tp_isSign 27 [.int x0] [.int 1] h Q :=
    (r_iconst (j := 25) (x := 1) rfl i32_1 rfl).trans <|
    r_go (j := 27) (L' := [.int x0]) (S' := [.int 1]) (h' := h) rfl rfl rfl rfl
theorem b_Tp_isSign_26 {d : Nat} (x0 : Int32) (h : AH) (Q : Option Value → AH → Prop) : Wp d P_Tp_isSign 26 [.int x0] [] h Q ↔ Wp d P_Tp_isSign 27 [.int x0] [.int 0] h Q :=
    r_iconst (j := 27) (x := 0) rfl i32_0 rfl
theorem b_Tp_isSign_27 {d : Nat} (x0 s0 : Int32) (h : AH) (Q : Option Value → AH → Prop) : Wp d P_Tp_isSign 27 [.int x0] [.int s0] h Q ↔ Q (some (.int s0)) h :=
    r_ret rfl rfl rfl
theorem e_Tp_isSign {d : Nat} (x0 : Int32) (h : AH) (Q : Option Value → AH → Prop) : Cl (d + 1) q_Tp_isSign [.int x0] h Q ↔ Wp d P_Tp_isSign 0 [.int x0] [] h (fun r h' => rtk (some .boolean) r = true ∧ Q r h') :=
    (Cl_method (t := m_Tp_isSign) rfl).trans (and_iff_right rfl)
/-! PenThatJumps.<init>()V -/
theorem b_X_init_0 {d : Nat} (r0 : Nat) (h : AH) (Q : Option Value → AH → Prop) : Wp d P_X_init 0 [.ref r0, .null] [] h Q ↔ Cl d 301 [.ref r0] h (fun r h' => Wp d P_X_init 2 [.ref r0, .null] (r.toList ++ []) h' Q) :=
    (r_go (j := 1) (L' := [.ref r0, .null]) (S' := [.ref r0]) (h' := h) rfl rfl rfl rfl).trans <|
    r_call (j := 2) (a := [.ref r0]) (S' := []) rfl rfl rfl rfl rfl rfl rfl
theorem b_X_init_2 {d : Nat} (r0 : Nat) (h : AH) (Q : Option Value → AH → Prop) : Wp d P_X_init 2 [.ref r0, .null] [] h Q ↔ ((0 : Int32) ≤ 8 ∧ Int32.toNatClampNeg 8 ≤ 10000) ∧ (Wp d P_X_init 5 [.ref r0, .null] [.ref (hz h), .ref r0] (mkC h 33 (Int32.toNatClampNeg 8) (Int32.toNatClampNeg 8)) Q) :=
    (r_go (j := 3) (L' := [.ref r0, .null]) (S' := [.ref r0]) (h' := h) rfl rfl rfl rfl).trans <|
    (r_bipush (j := 4) (x := 8) rfl i32_8 rfl).trans <|
    r_guard (j := 5) (L' := [.ref r0, .null]) (S' := [.ref (hz h), .ref r0]) (h' := (mkC h 33 (Int32.toNatClampNeg 8) (Int32.toNatClampNeg 8))) (p := (0 : Int32) ≤ 8 ∧ Int32.toNatClampNeg 8 ≤ 10000) rfl rfl rfl rfl (and2 decide_eq_true_iff decide_eq_true_iff)
theorem b_X_init_5 {d : Nat} (r0 t0 t1 : Nat) (h : AH) (Q : Option Value → AH → Prop) : Wp d P_X_init 5 [.ref r0, .null] [.ref t0, .ref t1] h Q ↔ (hK h t1 = 10) ∧ (Wp d P_X_init 6 [.ref r0, .null] [] (sR h t1 0 t0) Q) :=
    r_guard (j := 6) (L' := [.ref r0, .null]) (S' := []) (h' := (sR h t1 0 t0)) (p := hK h t1 = 10) rfl rfl rfl rfl (pfR rfl)
theorem b_X_init_6 {d : Nat} (r0 : Nat) (h : AH) (Q : Option Value → AH → Prop) : Wp d P_X_init 6 [.ref r0, .null] [] h Q ↔ ((0 : Int32) ≤ 4 ∧ Int32.toNatClampNeg 4 ≤ 10000) ∧ (Wp d P_X_init 9 [.ref r0, .null] [.ref (hz h), .ref r0] (mkC h 34 (Int32.toNatClampNeg 4) (Int32.toNatClampNeg 4)) Q) :=
    (r_go (j := 7) (L' := [.ref r0, .null]) (S' := [.ref r0]) (h' := h) rfl rfl rfl rfl).trans <|
    (r_iconst (j := 8) (x := 4) rfl i32_4 rfl).trans <|
    r_guard (j := 9) (L' := [.ref r0, .null]) (S' := [.ref (hz h), .ref r0]) (h' := (mkC h 34 (Int32.toNatClampNeg 4) (Int32.toNatClampNeg 4))) (p := (0 : Int32) ≤ 4 ∧ Int32.toNatClampNeg 4 ≤ 10000) rfl rfl rfl rfl (and2 decide_eq_true_iff decide_eq_true_iff)
theorem b_X_init_9 {d : Nat} (r0 t0 t1 : Nat) (h : AH) (Q : Option Value → AH → Prop) : Wp d P_X_init 9 [.ref r0, .null] [.ref t0, .ref t1] h Q ↔ (hK h t1 = 10) ∧ (Wp d P_X_init 10 [.ref r0, .null] [] (sR h t1 1 t0) Q) :=
    r_guard (j := 10) (L' := [.ref r0, .null]) (S' := []) (h' := (sR h t1 1 t0)) (p := hK h t1 = 10) rfl rfl rfl rfl (pfR rfl)
theorem b_X_init_10 {d : Nat} (r0 : Nat) (h : AH) (Q : Option Value → AH → Prop) : Wp d P_X_init 10 [.ref r0, .null] [] h Q ↔ ((0 : Int32) ≤ 4 ∧ Int32.toNatClampNeg 4 ≤ 10000) ∧ (Wp d P_X_init 13 [.ref r0, .null] [.ref (hz h), .ref r0] (mkC h 36 (Int32.toNatClampNeg 4) (Int32.toNatClampNeg 4)) Q) :=
    (r_go (j := 11) (L' := [.ref r0, .null]) (S' := [.ref r0]) (h' := h) rfl rfl rfl rfl).trans <|
    (r_iconst (j := 12) (x := 4) rfl i32_4 rfl).trans <|
    r_guard (j := 13) (L' := [.ref r0, .null]) (S' := [.ref (hz h), .ref r0]) (h' := (mkC h 36 (Int32.toNatClampNeg 4) (Int32.toNatClampNeg 4))) (p := (0 : Int32) ≤ 4 ∧ Int32.toNatClampNeg 4 ≤ 10000) rfl rfl rfl rfl (and2 decide_eq_true_iff decide_eq_true_iff)
theorem b_X_init_13 {d : Nat} (r0 t0 t1 : Nat) (h : AH) (Q : Option Value → AH → Prop) : Wp d P_X_init 13 [.ref r0, .null] [.ref t0, .ref t1] h Q ↔ (hK h t1 = 10) ∧ (Wp d P_X_init 14 [.ref r0, .null] [] (sR h t1 2 t0) Q) :=
    r_guard (j := 14) (L' := [.ref r0, .null]) (S' := []) (h' := (sR h t1 2 t0)) (p := hK h t1 = 10) rfl rfl rfl rfl (pfR rfl)
theorem b_X_init_14 {d : Nat} (r0 : Nat) (h : AH) (Q : Option Value → AH → Prop) : Wp d P_X_init 14 [.ref r0, .null] [] h Q ↔ ((0 : Int32) ≤ 24 ∧ Int32.toNatClampNeg 24 ≤ 10000) ∧ (Wp d P_X_init 17 [.ref r0, .null] [.ref (hz h), .ref r0] (mkC h 37 (Int32.toNatClampNeg 24) (Int32.toNatClampNeg 24)) Q) :=
    (r_go (j := 15) (L' := [.ref r0, .null]) (S' := [.ref r0]) (h' := h) rfl rfl rfl rfl).trans <|
    (r_bipush (j := 16) (x := 24) rfl i32_24 rfl).trans <|
    r_guard (j := 17) (L' := [.ref r0, .null]) (S' := [.ref (hz h), .ref r0]) (h' := (mkC h 37 (Int32.toNatClampNeg 24) (Int32.toNatClampNeg 24))) (p := (0 : Int32) ≤ 24 ∧ Int32.toNatClampNeg 24 ≤ 10000) rfl rfl rfl rfl (and2 decide_eq_true_iff decide_eq_true_iff)
theorem b_X_init_17 {d : Nat} (r0 t0 t1 : Nat) (h : AH) (Q : Option Value → AH → Prop) : Wp d P_X_init 17 [.ref r0, .null] [.ref t0, .ref t1] h Q ↔ (hK h t1 = 10) ∧ (Wp d P_X_init 18 [.ref r0, .null] [] (sR h t1 3 t0) Q) :=
    r_guard (j := 18) (L' := [.ref r0, .null]) (S' := []) (h' := (sR h t1 3 t0)) (p := hK h t1 = 10) rfl rfl rfl rfl (pfR rfl)
theorem b_X_init_18 {d : Nat} (r0 : Nat) (h : AH) (Q : Option Value → AH → Prop) : Wp d P_X_init 18 [.ref r0, .null] [] h Q ↔ Wp d P_X_init 20 [.ref r0, .null] [.ref (hz h), .ref r0] (mkC h 8 0 7) Q :=
    (r_go (j := 19) (L' := [.ref r0, .null]) (S' := [.ref r0]) (h' := h) rfl rfl rfl rfl).trans <|
    r_go (j := 20) (L' := [.ref r0, .null]) (S' := [.ref (hz h), .ref r0]) (h' := (mkC h 8 0 7)) rfl rfl rfl rfl
theorem b_X_init_20 {d : Nat} (r0 t0 t1 : Nat) (h : AH) (Q : Option Value → AH → Prop) : Wp d P_X_init 20 [.ref r0, .null] [.ref t0, .ref t1] h Q ↔ Cl d q_Ta_init [.ref t0] h (fun r h' => Wp d P_X_init 22 [.ref r0, .null] (r.toList ++ [.ref t0, .ref t1]) h' Q) :=
    (r_go (j := 21) (L' := [.ref r0, .null]) (S' := [.ref t0, .ref t0, .ref t1]) (h' := h) rfl rfl rfl rfl).trans <|
    r_call (j := 22) (a := [.ref t0]) (S' := [.ref t0, .ref t1]) rfl rfl rfl rfl rfl rfl rfl
theorem b_X_init_22 {d : Nat} (r0 t0 t1 : Nat) (h : AH) (Q : Option Value → AH → Prop) : Wp d P_X_init 22 [.ref r0, .null] [.ref t0, .ref t1] h Q ↔ (hK h t1 = 10) ∧ (Wp d P_X_init 23 [.ref r0, .null] [] (sR h t1 4 t0) Q) :=
    r_guard (j := 23) (L' := [.ref r0, .null]) (S' := []) (h' := (sR h t1 4 t0)) (p := hK h t1 = 10) rfl rfl rfl rfl (pfR rfl)
theorem b_X_init_23 {d : Nat} (r0 : Nat) (h : AH) (Q : Option Value → AH → Prop) : Wp d P_X_init 23 [.ref r0, .null] [] h Q ↔ ((0 : Int32) ≤ 4 ∧ Int32.toNatClampNeg 4 ≤ 10000) ∧ (Wp d P_X_init 26 [.ref r0, .null] [.ref (hz h), .ref r0] (mkC h 38 (Int32.toNatClampNeg 4) (Int32.toNatClampNeg 4)) Q) :=
    (r_go (j := 24) (L' := [.ref r0, .null]) (S' := [.ref r0]) (h' := h) rfl rfl rfl rfl).trans <|
    (r_iconst (j := 25) (x := 4) rfl i32_4 rfl).trans <|
    r_guard (j := 26) (L' := [.ref r0, .null]) (S' := [.ref (hz h), .ref r0]) (h' := (mkC h 38 (Int32.toNatClampNeg 4) (Int32.toNatClampNeg 4))) (p := (0 : Int32) ≤ 4 ∧ Int32.toNatClampNeg 4 ≤ 10000) rfl rfl rfl rfl (and2 decide_eq_true_iff decide_eq_true_iff)
theorem b_X_init_26 {d : Nat} (r0 t0 t1 : Nat) (h : AH) (Q : Option Value → AH → Prop) : Wp d P_X_init 26 [.ref r0, .null] [.ref t0, .ref t1] h Q ↔ (hK h t1 = 10) ∧ (Wp d P_X_init 27 [.ref r0, .null] [] (sR h t1 5 t0) Q) :=
    r_guard (j := 27) (L' := [.ref r0, .null]) (S' := []) (h' := (sR h t1 5 t0)) (p := hK h t1 = 10) rfl rfl rfl rfl (pfR rfl)
theorem b_X_init_27 {d : Nat} (r0 : Nat) (h : AH) (Q : Option Value → AH → Prop) : Wp d P_X_init 27 [.ref r0, .null] [] h Q ↔ Wp d P_X_init 29 [.ref r0, .null] [.ref (hz h), .ref r0] (mkC h 2 0 9) Q :=
    (r_go (j := 28) (L' := [.ref r0, .null]) (S' := [.ref r0]) (h' := h) rfl rfl rfl rfl).trans <|
    r_go (j := 29) (L' := [.ref r0, .null]) (S' := [.ref (hz h), .ref r0]) (h' := (mkC h 2 0 9)) rfl rfl rfl rfl
theorem b_X_init_29 {d : Nat} (r0 t0 t1 : Nat) (h : AH) (Q : Option Value → AH → Prop) : Wp d P_X_init 29 [.ref r0, .null] [.ref t0, .ref t1] h Q ↔ Cl d q_Pa_init [.ref t0] h (fun r h' => Wp d P_X_init 31 [.ref r0, .null] (r.toList ++ [.ref t0, .ref t1]) h' Q) :=
    (r_go (j := 30) (L' := [.ref r0, .null]) (S' := [.ref t0, .ref t0, .ref t1]) (h' := h) rfl rfl rfl rfl).trans <|
    r_call (j := 31) (a := [.ref t0]) (S' := [.ref t0, .ref t1]) rfl rfl rfl rfl rfl rfl rfl
theorem b_X_init_31 {d : Nat} (r0 t0 t1 : Nat) (h : AH) (Q : Option Value → AH → Prop) : Wp d P_X_init 31 [.ref r0, .null] [.ref t0, .ref t1] h Q ↔ (hK h t1 = 10) ∧ (Wp d P_X_init 32 [.ref r0, .null] [] (sR h t1 6 t0) Q) :=
    r_guard (j := 32) (L' := [.ref r0, .null]) (S' := []) (h' := (sR h t1 6 t0)) (p := hK h t1 = 10) rfl rfl rfl rfl (pfR rfl)
theorem b_X_init_32 {d : Nat} (r0 : Nat) (h : AH) (Q : Option Value → AH → Prop) : Wp d P_X_init 32 [.ref r0, .null] [] h Q ↔ Wp d P_X_init 34 [.ref r0, .null] [.ref (hz h), .ref r0] (mkC h 0 0 4) Q :=
    (r_go (j := 33) (L' := [.ref r0, .null]) (S' := [.ref r0]) (h' := h) rfl rfl rfl rfl).trans <|
    r_go (j := 34) (L' := [.ref r0, .null]) (S' := [.ref (hz h), .ref r0]) (h' := (mkC h 0 0 4)) rfl rfl rfl rfl
theorem b_X_init_34 {d : Nat} (r0 t0 t1 : Nat) (h : AH) (Q : Option Value → AH → Prop) : Wp d P_X_init 34 [.ref r0, .null] [.ref t0, .ref t1] h Q ↔ Cl d q_Ch_init [.ref t0] h (fun r h' => Wp d P_X_init 36 [.ref r0, .null] (r.toList ++ [.ref t0, .ref t1]) h' Q) :=
    (r_go (j := 35) (L' := [.ref r0, .null]) (S' := [.ref t0, .ref t0, .ref t1]) (h' := h) rfl rfl rfl rfl).trans <|
    r_call (j := 36) (a := [.ref t0]) (S' := [.ref t0, .ref t1]) rfl rfl rfl rfl rfl rfl rfl
theorem b_X_init_36 {d : Nat} (r0 t0 t1 : Nat) (h : AH) (Q : Option Value → AH → Prop) : Wp d P_X_init 36 [.ref r0, .null] [.ref t0, .ref t1] h Q ↔ (hK h t1 = 10) ∧ (Wp d P_X_init 37 [.ref r0, .null] [] (sR h t1 7 t0) Q) :=
    r_guard (j := 37) (L' := [.ref r0, .null]) (S' := []) (h' := (sR h t1 7 t0)) (p := hK h t1 = 10) rfl rfl rfl rfl (pfR rfl)
theorem b_X_init_37 {d : Nat} (r0 : Nat) (h : AH) (Q : Option Value → AH → Prop) : Wp d P_X_init 37 [.ref r0, .null] [] h Q ↔ Wp d P_X_init 39 [.ref r0, .null] [.ref (hz h), .ref r0] (mkC h 1 0 1) Q :=
    (r_go (j := 38) (L' := [.ref r0, .null]) (S' := [.ref r0]) (h' := h) rfl rfl rfl rfl).trans <|
    r_go (j := 39) (L' := [.ref r0, .null]) (S' := [.ref (hz h), .ref r0]) (h' := (mkC h 1 0 1)) rfl rfl rfl rfl
theorem b_X_init_39 {d : Nat} (r0 t0 t1 : Nat) (h : AH) (Q : Option Value → AH → Prop) : Wp d P_X_init 39 [.ref r0, .null] [.ref t0, .ref t1] h Q ↔ Cl d q_Ju_init [.ref t0] h (fun r h' => Wp d P_X_init 41 [.ref r0, .null] (r.toList ++ [.ref t0, .ref t1]) h' Q) :=
    (r_go (j := 40) (L' := [.ref r0, .null]) (S' := [.ref t0, .ref t0, .ref t1]) (h' := h) rfl rfl rfl rfl).trans <|
    r_call (j := 41) (a := [.ref t0]) (S' := [.ref t0, .ref t1]) rfl rfl rfl rfl rfl rfl rfl
theorem b_X_init_41 {d : Nat} (r0 t0 t1 : Nat) (h : AH) (Q : Option Value → AH → Prop) : Wp d P_X_init 41 [.ref r0, .null] [.ref t0, .ref t1] h Q ↔ (hK h t1 = 10) ∧ (Wp d P_X_init 42 [.ref r0, .null] [] (sR h t1 8 t0) Q) :=
    r_guard (j := 42) (L' := [.ref r0, .null]) (S' := []) (h' := (sR h t1 8 t0)) (p := hK h t1 = 10) rfl rfl rfl rfl (pfR rfl)
theorem b_X_init_42 {d : Nat} (r0 : Nat) (h : AH) (Q : Option Value → AH → Prop) : Wp d P_X_init 42 [.ref r0, .null] [] h Q ↔ Wp d P_X_init 44 [.ref r0, .null] [.ref (hz h), .ref r0] (mkC h 5 0 5) Q :=
    (r_go (j := 43) (L' := [.ref r0, .null]) (S' := [.ref r0]) (h' := h) rfl rfl rfl rfl).trans <|
    r_go (j := 44) (L' := [.ref r0, .null]) (S' := [.ref (hz h), .ref r0]) (h' := (mkC h 5 0 5)) rfl rfl rfl rfl
theorem b_X_init_44 {d : Nat} (r0 t0 t1 : Nat) (h : AH) (Q : Option Value → AH → Prop) : Wp d P_X_init 44 [.ref r0, .null] [.ref t0, .ref t1] h Q ↔ Cl d q_Pr_init [.ref t0] h (fun r h' => Wp d P_X_init 46 [.ref r0, .null] (r.toList ++ [.ref t0, .ref t1]) h' Q) :=
    (r_go (j := 45) (L' := [.ref r0, .null]) (S' := [.ref t0, .ref t0, .ref t1]) (h' := h) rfl rfl rfl rfl).trans <|
    r_call (j := 46) (a := [.ref t0]) (S' := [.ref t0, .ref t1]) rfl rfl rfl rfl rfl rfl rfl
theorem b_X_init_46 {d : Nat} (r0 t0 t1 : Nat) (h : AH) (Q : Option Value → AH → Prop) : Wp d P_X_init 46 [.ref r0, .null] [.ref t0, .ref t1] h Q ↔ (hK h t1 = 10) ∧ (Wp d P_X_init 47 [.ref r0, .null] [] (sR h t1 9 t0) Q) :=
    r_guard (j := 47) (L' := [.ref r0, .null]) (S' := []) (h' := (sR h t1 9 t0)) (p := hK h t1 = 10) rfl rfl rfl rfl (pfR rfl)
theorem b_X_init_47 {d : Nat} (r0 : Nat) (h : AH) (Q : Option Value → AH → Prop) : Wp d P_X_init 47 [.ref r0, .null] [] h Q ↔ Wp d P_X_init 49 [.ref r0, .null] [.ref (hz h), .ref r0] (mkC h 7 0 3) Q :=
    (r_go (j := 48) (L' := [.ref r0, .null]) (S' := [.ref r0]) (h' := h) rfl rfl rfl rfl).trans <|
    r_go (j := 49) (L' := [.ref r0, .null]) (S' := [.ref (hz h), .ref r0]) (h' := (mkC h 7 0 3)) rfl rfl rfl rfl
theorem b_X_init_49 {d : Nat} (r0 t0 t1 : Nat) (h : AH) (Q : Option Value → AH → Prop) : Wp d P_X_init 49 [.ref r0, .null] [.ref t0, .ref t1] h Q ↔ Cl d q_Si_init [.ref t0] h (fun r h' => Wp d P_X_init 51 [.ref r0, .null] (r.toList ++ [.ref t0, .ref t1]) h' Q) :=
    (r_go (j := 50) (L' := [.ref r0, .null]) (S' := [.ref t0, .ref t0, .ref t1]) (h' := h) rfl rfl rfl rfl).trans <|
    r_call (j := 51) (a := [.ref t0]) (S' := [.ref t0, .ref t1]) rfl rfl rfl rfl rfl rfl rfl
theorem b_X_init_51 {d : Nat} (r0 t0 t1 : Nat) (h : AH) (Q : Option Value → AH → Prop) : Wp d P_X_init 51 [.ref r0, .null] [.ref t0, .ref t1] h Q ↔ (hK h t1 = 10) ∧ (Wp d P_X_init 52 [.ref r0, .null] [] (sR h t1 10 t0) Q) :=
    r_guard (j := 52) (L' := [.ref r0, .null]) (S' := []) (h' := (sR h t1 10 t0)) (p := hK h t1 = 10) rfl rfl rfl rfl (pfR rfl)
theorem b_X_init_52 {d : Nat} (r0 : Nat) (h : AH) (Q : Option Value → AH → Prop) : Wp d P_X_init 52 [.ref r0, .null] [] h Q ↔ Wp d P_X_init 54 [.ref r0, .null] [.ref (hz h), .ref r0] (mkC h 3 0 5) Q :=
    (r_go (j := 53) (L' := [.ref r0, .null]) (S' := [.ref r0]) (h' := h) rfl rfl rfl rfl).trans <|
    r_go (j := 54) (L' := [.ref r0, .null]) (S' := [.ref (hz h), .ref r0]) (h' := (mkC h 3 0 5)) rfl rfl rfl rfl
theorem b_X_init_54 {d : Nat} (r0 t0 t1 : Nat) (h : AH) (Q : Option Value → AH → Prop) : Wp d P_X_init 54 [.ref r0, .null] [.ref t0, .ref t1] h Q ↔ Cl d q_Pe_init [.ref t0] h (fun r h' => Wp d P_X_init 56 [.ref r0, .null] (r.toList ++ [.ref t0, .ref t1]) h' Q) :=
    (r_go (j := 55) (L' := [.ref r0, .null]) (S' := [.ref t0, .ref t0, .ref t1]) (h' := h) rfl rfl rfl rfl).trans <|
    r_call (j := 56) (a := [.ref t0]) (S' := [.ref t0, .ref t1]) rfl rfl rfl rfl rfl rfl rfl
theorem b_X_init_56 {d : Nat} (r0 t0 t1 : Nat) (h : AH) (Q : Option Value → AH → Prop) : Wp d P_X_init 56 [.ref r0, .null] [.ref t0, .ref t1] h Q ↔ (hK h t1 = 10) ∧ (Wp d P_X_init 57 [.ref r0, .null] [] (sR h t1 11 t0) Q) :=
    r_guard (j := 57) (L' := [.ref r0, .null]) (S' := []) (h' := (sR h t1 11 t0)) (p := hK h t1 = 10) rfl rfl rfl rfl (pfR rfl)
theorem b_X_init_57 {d : Nat} (r0 : Nat) (h : AH) (Q : Option Value → AH → Prop) : Wp d P_X_init 57 [.ref r0, .null] [] h Q ↔ Wp d P_X_init 59 [.ref r0, .null] [.ref (hz h), .ref r0] (mkC h 3 0 5) Q :=
    (r_go (j := 58) (L' := [.ref r0, .null]) (S' := [.ref r0]) (h' := h) rfl rfl rfl rfl).trans <|
    r_go (j := 59) (L' := [.ref r0, .null]) (S' := [.ref (hz h), .ref r0]) (h' := (mkC h 3 0 5)) rfl rfl rfl rfl
theorem b_X_init_59 {d : Nat} (r0 t0 t1 : Nat) (h : AH) (Q : Option Value → AH → Prop) : Wp d P_X_init 59 [.ref r0, .null] [.ref t0, .ref t1] h Q ↔ Cl d q_Pe_init [.ref t0] h (fun r h' => Wp d P_X_init 61 [.ref r0, .null] (r.toList ++ [.ref t0, .ref t1]) h' Q) :=
    (r_go (j := 60) (L' := [.ref r0, .null]) (S' := [.ref t0, .ref t0, .ref t1]) (h' := h) rfl rfl rfl rfl).trans <|
    r_call (j := 61) (a := [.ref t0]) (S' := [.ref t0, .ref t1]) rfl rfl rfl rfl rfl rfl rfl
theorem b_X_init_61 {d : Nat} (r0 t0 t1 : Nat) (h : AH) (Q : Option Value → AH → Prop) : Wp d P_X_init 61 [.ref r0, .null] [.ref t0, .ref t1] h Q ↔ (hK h t1 = 10) ∧ (Wp d P_X_init 62 [.ref r0, .null] [] (sR h t1 12 t0) Q) :=
    r_guard (j := 62) (L' := [.ref r0, .null]) (S' := []) (h' := (sR h t1 12 t0)) (p := hK h t1 = 10) rfl rfl rfl rfl (pfR rfl)
theorem b_X_init_62 {d : Nat} (r0 : Nat) (h : AH) (Q : Option Value → AH → Prop) : Wp d P_X_init 62 [.ref r0, .null] [] h Q ↔ ((0 : Int32) ≤ 144 ∧ Int32.toNatClampNeg 144 ≤ 10000) ∧ (Wp d P_X_init 65 [.ref r0, .null] [.ref (hz h), .ref r0] (mkC h 20 (Int32.toNatClampNeg 144) (Int32.toNatClampNeg 144)) Q) :=
    (r_go (j := 63) (L' := [.ref r0, .null]) (S' := [.ref r0]) (h' := h) rfl rfl rfl rfl).trans <|
    (r_sipush (j := 64) (x := 144) rfl i32_144 rfl).trans <|
    r_guard (j := 65) (L' := [.ref r0, .null]) (S' := [.ref (hz h), .ref r0]) (h' := (mkC h 20 (Int32.toNatClampNeg 144) (Int32.toNatClampNeg 144))) (p := (0 : Int32) ≤ 144 ∧ Int32.toNatClampNeg 144 ≤ 10000) rfl rfl rfl rfl (and2 decide_eq_true_iff decide_eq_true_iff)
theorem b_X_init_65 {d : Nat} (r0 t0 t1 : Nat) (h : AH) (Q : Option Value → AH → Prop) : Wp d P_X_init 65 [.ref r0, .null] [.ref t0, .ref t1] h Q ↔ (hK h t1 = 10) ∧ (Wp d P_X_init 66 [.ref r0, .null] [] (sR h t1 13 t0) Q) :=
    r_guard (j := 66) (L' := [.ref r0, .null]) (S' := []) (h' := (sR h t1 13 t0)) (p := hK h t1 = 10) rfl rfl rfl rfl (pfR rfl)
theorem b_X_init_66 {d : Nat} (r0 : Nat) (h : AH) (Q : Option Value → AH → Prop) : Wp d P_X_init 66 [.ref r0, .null] [] h Q ↔ ((0 : Int32) ≤ 144 ∧ Int32.toNatClampNeg 144 ≤ 10000) ∧ (Wp d P_X_init 69 [.ref r0, .null] [.ref (hz h), .ref r0] (mkC h 20 (Int32.toNatClampNeg 144) (Int32.toNatClampNeg 144)) Q) :=
    (r_go (j := 67) (L' := [.ref r0, .null]) (S' := [.ref r0]) (h' := h) rfl rfl rfl rfl).trans <|
    (r_sipush (j := 68) (x := 144) rfl i32_144 rfl).trans <|
    r_guard (j := 69) (L' := [.ref r0, .null]) (S' := [.ref (hz h), .ref r0]) (h' := (mkC h 20 (Int32.toNatClampNeg 144) (Int32.toNatClampNeg 144))) (p := (0 : Int32) ≤ 144 ∧ Int32.toNatClampNeg 144 ≤ 10000) rfl rfl rfl rfl (and2 decide_eq_true_iff decide_eq_true_iff)
theorem b_X_init_69 {d : Nat} (r0 t0 t1 : Nat) (h : AH) (Q : Option Value → AH → Prop) : Wp d P_X_init 69 [.ref r0, .null] [.ref t0, .ref t1] h Q ↔ (hK h t1 = 10) ∧ (Wp d P_X_init 70 [.ref r0, .null] [] (sR h t1 14 t0) Q) :=
    r_guard (j := 70) (L' := [.ref r0, .null]) (S' := []) (h' := (sR h t1 14 t0)) (p := hK h t1 = 10) rfl rfl rfl rfl (pfR rfl)
theorem b_X_init_70 {d : Nat} (r0 : Nat) (h : AH) (Q : Option Value → AH → Prop) : Wp d P_X_init 70 [.ref r0, .null] [] h Q ↔ ((0 : Int32) ≤ 4 ∧ Int32.toNatClampNeg 4 ≤ 10000) ∧ (Wp d P_X_init 73 [.ref r0, .null] [.ref (hz h), .ref r0] (mkC h 20 (Int32.toNatClampNeg 4) (Int32.toNatClampNeg 4)) Q) :=
    (r_go (j := 71) (L' := [.ref r0, .null]) (S' := [.ref r0]) (h' := h) rfl rfl rfl rfl).trans <|
    (r_iconst (j := 72) (x := 4) rfl i32_4 rfl).trans <|
    r_guard (j := 73) (L' := [.ref r0, .null]) (S' := [.ref (hz h), .ref r0]) (h' := (mkC h 20 (Int32.toNatClampNeg 4) (Int32.toNatClampNeg 4))) (p := (0 : Int32) ≤ 4 ∧ Int32.toNatClampNeg 4 ≤ 10000) rfl rfl rfl rfl (and2 decide_eq_true_iff decide_eq_true_iff)
theorem b_X_init_73 {d : Nat} (r0 t0 t1 : Nat) (h : AH) (Q : Option Value → AH → Prop) : Wp d P_X_init 73 [.ref r0, .null] [.ref t0, .ref t1] h Q ↔ (hK h t1 = 10) ∧ (Wp d P_X_init 74 [.ref r0, .null] [] (sR h t1 15 t0) Q) :=
    r_guard (j := 74) (L' := [.ref r0, .null]) (S' := []) (h' := (sR h t1 15 t0)) (p := hK h t1 = 10) rfl rfl rfl rfl (pfR rfl)
theorem b_X_init_74 {d : Nat} (r0 : Nat) (h : AH) (Q : Option Value → AH → Prop) : Wp d P_X_init 74 [.ref r0, .null] [] h Q ↔ Wp d P_X_init 76 [.ref r0, .int 0] [] h Q :=
    (r_iconst (j := 75) (x := 0) rfl i32_0 rfl).trans <|
    r_go (j := 76) (L' := [.ref r0, .int 0]) (S' := []) (h' := h) rfl rfl rfl rfl
theorem b_X_init_76 {d : Nat} (x1 : Int32) (r0 : Nat) (h : AH) (Q : Option Value → AH → Prop) : Wp d P_X_init 76 [.ref r0, .int x1] [] h Q ↔ (hK h r0 = 10) ∧ ((20 ≤ hK h (hR h r0 0) ∧ hK h (hR h r0 0) ≠ 40 ∧ hK h (hR h r0 0) ≠ 42 ∧ hK h (hR h r0 0) ≤ 45 ∧ hK h (hR h r0 0) ≠ 43) ∧ (((Int32.ofNat (hN h (hR h r0 0))) ≤ x1 → Wp d P_X_init 90 [.ref r0, .int x1] [] h Q) ∧ (¬ ((Int32.ofNat (hN h (hR h r0 0))) ≤ x1) → Wp d P_X_init 81 [.ref r0, .int x1] [] h Q))) :=
    (r_go (j := 77) (L' := [.ref r0, .int x1]) (S' := [.int x1]) (h' := h) rfl rfl rfl rfl).trans <|
    (r_go (j := 78) (L' := [.ref r0, .int x1]) (S' := [.ref r0, .int x1]) (h' := h) rfl rfl rfl rfl).trans <|
    (r_guard (j := 79) (L' := [.ref r0, .int x1]) (S' := [.ref (hR h r0 0), .int x1]) (h' := h) (p := hK h r0 = 10) rfl rfl rfl rfl (decide_eq_true_iff)).trans <| and_r <|
    (r_guard (j := 80) (L' := [.ref r0, .int x1]) (S' := [.int (Int32.ofNat (hN h (hR h r0 0))), .int x1]) (h' := h) (p := 20 ≤ hK h (hR h r0 0) ∧ hK h (hR h r0 0) ≠ 40 ∧ hK h (hR h r0 0) ≠ 42 ∧ hK h (hR h r0 0) ≤ 45 ∧ hK h (hR h r0 0) ≠ 43) rfl rfl rfl rfl (decide_eq_true_iff)).trans <| and_r <|
    r_icmp (j := 81) rfl (cd_ge _ _) rfl
theorem b_X_init_81 {d : Nat} (x1 : Int32) (r0 : Nat) (h : AH) (Q : Option Value → AH → Prop) : Wp d P_X_init 81 [.ref r0, .int x1] [] h Q ↔ (hK h r0 = 10) ∧ (Wp d P_X_init 85 [.ref r0, .int x1] [.ref (hz h), .int x1, .ref (hR h r0 0)] (mkC h 3 0 5) Q) :=
    (r_go (j := 82) (L' := [.ref r0, .int x1]) (S' := [.ref r0]) (h' := h) rfl rfl rfl rfl).trans <|
    (r_guard (j := 83) (L' := [.ref r0, .int x1]) (S' := [.ref (hR h r0 0)]) (h' := h) (p := hK h r0 = 10) rfl rfl rfl rfl (decide_eq_true_iff)).trans <| and_r <|
    (r_go (j := 84) (L' := [.ref r0, .int x1]) (S' := [.int x1, .ref (hR h r0 0)]) (h' := h) rfl rfl rfl rfl).trans <|
    r_go (j := 85) (L' := [.ref r0, .int x1]) (S' := [.ref (hz h), .int x1, .ref (hR h r0 0)]) (h' := (mkC h 3 0 5)) rfl rfl rfl rfl
theorem b_X_init_85 {d : Nat} (x1 s1 : Int32) (r0 t0 t2 : Nat) (h : AH) (Q : Option Value → AH → Prop) : Wp d P_X_init 85 [.ref r0, .int x1] [.ref t0, .int s1, .ref t2] h Q ↔ Cl d q_Pe_init [.ref t0] h (fun r h' => Wp d P_X_init 87 [.ref r0, .int x1] (r.toList ++ [.ref t0, .int s1, .ref t2]) h' Q) :=
    (r_go (j := 86) (L' := [.ref r0, .int x1]) (S' := [.ref t0, .ref t0, .int s1, .ref t2]) (h' := h) rfl rfl rfl rfl).trans <|
    r_call (j := 87) (a := [.ref t0]) (S' := [.ref t0, .int s1, .ref t2]) rfl rfl rfl rfl rfl rfl rfl
theorem b_X_init_87 {d : Nat} (x1 s1 : Int32) (r0 t0 t2 : Nat) (h : AH) (Q : Option Value → AH → Prop) : Wp d P_X_init 87 [.ref r0, .int x1] [.ref t0, .int s1, .ref t2] h Q ↔ ((30 ≤ hK h t2 ∧ hK h t2 < 40 ∧ hK h t0 + 30 = hK h t2 ∧ 100 ≤ t0 ∧ t0 < hz h) ∧ ixo s1 (hN h t2) = true) ∧ (Wp d P_X_init 76 [.ref r0, .int (x1 + 1)] [] (sR h t2 (Int32.toNatClampNeg s1) t0) Q) :=
    (r_guard (j := 88) (L' := [.ref r0, .int x1]) (S' := []) (h' := (sR h t2 (Int32.toNatClampNeg s1) t0)) (p := (30 ≤ hK h t2 ∧ hK h t2 < 40 ∧ hK h t0 + 30 = hK h t2 ∧ 100 ≤ t0 ∧ t0 < hz h) ∧ ixo s1 (hN h t2) = true) rfl rfl rfl rfl (and2 decide_eq_true_iff Iff.rfl)).trans <| and_r <|
    (r_iinc (j := 89) (x := 1) (L' := [.ref r0, .int (x1 + 1)]) rfl rfl i32_1 rfl rfl).trans <|
    r_go (j := 76) (L' := [.ref r0, .int (x1 + 1)]) (S' := []) (h' := (sR h t2 (Int32.toNatClampNeg s1) t0)) rfl rfl rfl rfl
theorem b_X_init_90 {d : Nat} (x1 : Int32) (r0 : Nat) (h : AH) (Q : Option Value → AH → Prop) : Wp d P_X_init 90 [.ref r0, .int x1] [] h Q ↔ Wp d P_X_init 92 [.ref r0, .int 0] [] h Q :=
    (r_iconst (j := 91) (x := 0) rfl i32_0 rfl).trans <|
    r_go (j := 92) (L' := [.ref r0, .int 0]) (S' := []) (h' := h) rfl rfl rfl rfl
theorem b_X_init_92 {d : Nat} (x1 : Int32) (r0 : Nat) (h : AH) (Q : Option Value → AH → Prop) : Wp d P_X_init 92 [.ref r0, .int x1] [] h Q ↔ (hK h r0 = 10) ∧ ((20 ≤ hK h (hR h r0 1) ∧ hK h (hR h r0 1) ≠ 40 ∧ hK h (hR h r0 1) ≠ 42 ∧ hK h (hR h r0 1) ≤ 45 ∧ hK h (hR h r0 1) ≠ 43) ∧ (((Int32.ofNat (hN h (hR h r0 1))) ≤ x1 → Wp d P_X_init 106 [.ref r0, .int x1] [] h Q) ∧ (¬ ((Int32.ofNat (hN h (hR h r0 1))) ≤ x1) → Wp d P_X_init 97 [.ref r0, .int x1] [] h Q))) :=
    (r_go (j := 93) (L' := [.ref r0, .int x1]) (S' := [.int x1]) (h' := h) rfl rfl rfl rfl).trans <|
    (r_go (j := 94) (L' := [.ref r0, .int x1]) (S' := [.ref r0, .int x1]) (h' := h) rfl rfl rfl rfl).trans <|
    (r_guard (j := 95) (L' := [.ref r0, .int x1]) (S' := [.ref (hR h r0 1), .int x1]) (h' := h) (p := hK h r0 = 10) rfl rfl rfl rfl (decide_eq_true_iff)).trans <| and_r <|
    (r_guard (j := 96) (L' := [.ref r0, .int x1]) (S' := [.int (Int32.ofNat (hN h (hR h r0 1))), .int x1]) (h' := h) (p := 20 ≤ hK h (hR h r0 1) ∧ hK h (hR h r0 1) ≠ 40 ∧ hK h (hR h r0 1) ≠ 42 ∧ hK h (hR h r0 1) ≤ 45 ∧ hK h (hR h r0 1) ≠ 43) rfl rfl rfl rfl (decide_eq_true_iff)).trans <| and_r <|
    r_icmp (j := 97) rfl (cd_ge _ _) rfl
theorem b_X_init_97 {d : Nat} (x1 : Int32) (r0 : Nat) (h : AH) (Q : Option Value → AH → Prop) : Wp d P_X_init 97 [.ref r0, .int x1] [] h Q ↔ (hK h r0 = 10) ∧ (Wp d P_X_init 101 [.ref r0, .int x1] [.ref (hz h), .int x1, .ref (hR h r0 1)] (mkC h 4 0 4) Q) :=
    (r_go (j := 98) (L' := [.ref r0, .int x1]) (S' := [.ref r0]) (h' := h) rfl rfl rfl rfl).trans <|
    (r_guard (j := 99) (L' := [.ref r0, .int x1]) (S' := [.ref (hR h r0 1)]) (h' := h) (p := hK h r0 = 10) rfl rfl rfl rfl (decide_eq_true_iff)).trans <| and_r <|
    (r_go (j := 100) (L' := [.ref r0, .int x1]) (S' := [.int x1, .ref (hR h r0 1)]) (h' := h) rfl rfl rfl rfl).trans <|
    r_go (j := 101) (L' := [.ref r0, .int x1]) (S' := [.ref (hz h), .int x1, .ref (hR h r0 1)]) (h' := (mkC h 4 0 4)) rfl rfl rfl rfl
theorem b_X_init_101 {d : Nat} (x1 s1 : Int32) (r0 t0 t2 : Nat) (h : AH) (Q : Option Value → AH → Prop) : Wp d P_X_init 101 [.ref r0, .int x1] [.ref t0, .int s1, .ref t2] h Q ↔ Cl d q_Pl_init [.ref t0] h (fun r h' => Wp d P_X_init 103 [.ref r0, .int x1] (r.toList ++ [.ref t0, .int s1, .ref t2]) h' Q) :=
    (r_go (j := 102) (L' := [.ref r0, .int x1]) (S' := [.ref t0, .ref t0, .int s1, .ref t2]) (h' := h) rfl rfl rfl rfl).trans <|
    r_call (j := 103) (a := [.ref t0]) (S' := [.ref t0, .int s1, .ref t2]) rfl rfl rfl rfl rfl rfl rfl
theorem b_X_init_103 {d : Nat} (x1 s1 : Int32) (r0 t0 t2 : Nat) (h : AH) (Q : Option Value → AH → Prop) : Wp d P_X_init 103 [.ref r0, .int x1] [.ref t0, .int s1, .ref t2] h Q ↔ ((30 ≤ hK h t2 ∧ hK h t2 < 40 ∧ hK h t0 + 30 = hK h t2 ∧ 100 ≤ t0 ∧ t0 < hz h) ∧ ixo s1 (hN h t2) = true) ∧ (Wp d P_X_init 92 [.ref r0, .int (x1 + 1)] [] (sR h t2 (Int32.toNatClampNeg s1) t0) Q) :=
    (r_guard (j := 104) (L' := [.ref r0, .int x1]) (S' := []) (h' := (sR h t2 (Int32.toNatClampNeg s1) t0)) (p := (30 ≤ hK h t2 ∧ hK h t2 < 40 ∧ hK h t0 + 30 = hK h t2 ∧ 100 ≤ t0 ∧ t0 < hz h) ∧ ixo s1 (hN h t2) = true) rfl rfl rfl rfl (and2 decide_eq_true_iff Iff.rfl)).trans <| and_r <|
    (r_iinc (j := 105) (x := 1) (L' := [.ref r0, .int (x1 + 1)]) rfl rfl i32_1 rfl rfl).trans <|
    r_go (j := 92) (L' := [.ref r0, .int (x1 + 1)]) (S' := []) (h' := (sR h t2 (Int32.toNatClampNeg s1) t0)) rfl rfl rfl rfl
theorem b_X_init_106 {d : Nat} (x1 : Int32) (r0 : Nat) (h : AH) (Q : Option Value → AH → Prop) : Wp d P_X_init 106 [.ref r0, .int x1] [] h Q ↔ Wp d P_X_init 108 [.ref r0, .int 0] [] h Q :=
    (r_iconst (j := 107) (x := 0) rfl i32_0 rfl).trans <|
    r_go (j := 108) (L' := [.ref r0, .int 0]) (S' := []) (h' := h) rfl rfl rfl rfl
theorem b_X_init_108 {d : Nat} (x1 : Int32) (r0 : Nat) (h : AH) (Q : Option Value → AH → Prop) : Wp d P_X_init 108 [.ref r0, .int x1] [] h Q ↔ (hK h r0 = 10) ∧ ((20 ≤ hK h (hR h r0 2) ∧ hK h (hR h r0 2) ≠ 40 ∧ hK h (hR h r0 2) ≠ 42 ∧ hK h (hR h r0 2) ≤ 45 ∧ hK h (hR h r0 2) ≠ 43) ∧ (((Int32.ofNat (hN h (hR h r0 2))) ≤ x1 → Wp d P_X_init 123 [.ref r0, .int x1] [] h Q) ∧ (¬ ((Int32.ofNat (hN h (hR h r0 2))) ≤ x1) → Wp d P_X_init 113 [.ref r0, .int x1] [] h Q))) :=
    (r_go (j := 109) (L' := [.ref r0, .int x1]) (S' := [.int x1]) (h' := h) rfl rfl rfl rfl).trans <|
    (r_go (j := 110) (L' := [.ref r0, .int x1]) (S' := [.ref r0, .int x1]) (h' := h) rfl rfl rfl rfl).trans <|
    (r_guard (j := 111) (L' := [.ref r0, .int x1]) (S' := [.ref (hR h r0 2), .int x1]) (h' := h) (p := hK h r0 = 10) rfl rfl rfl rfl (decide_eq_true_iff)).trans <| and_r <|
    (r_guard (j := 112) (L' := [.ref r0, .int x1]) (S' := [.int (Int32.ofNat (hN h (hR h r0 2))), .int x1]) (h' := h) (p := 20 ≤ hK h (hR h r0 2) ∧ hK h (hR h r0 2) ≠ 40 ∧ hK h (hR h r0 2) ≠ 42 ∧ hK h (hR h r0 2) ≤ 45 ∧ hK h (hR h r0 2) ≠ 43) rfl rfl rfl rfl (decide_eq_true_iff)).trans <| and_r <|
    r_icmp (j := 113) rfl (cd_ge _ _) rfl
theorem b_X_init_113 {d : Nat} (x1 : Int32) (r0 : Nat) (h : AH) (Q : Option Value → AH → Prop) : Wp d P_X_init 113 [.ref r0, .int x1] [] h Q ↔ (hK h r0 = 10) ∧ (Wp d P_X_init 117 [.ref r0, .int x1] [.ref (hz h), .int x1, .ref (hR h r0 2)] (mkC h 6 0 6) Q) :=
    (r_go (j := 114) (L' := [.ref r0, .int x1]) (S' := [.ref r0]) (h' := h) rfl rfl rfl rfl).trans <|
    (r_guard (j := 115) (L' := [.ref r0, .int x1]) (S' := [.ref (hR h r0 2)]) (h' := h) (p := hK h r0 = 10) rfl rfl rfl rfl (decide_eq_true_iff)).trans <| and_r <|
    (r_go (j := 116) (L' := [.ref r0, .int x1]) (S' := [.int x1, .ref (hR h r0 2)]) (h' := h) rfl rfl rfl rfl).trans <|
    r_go (j := 117) (L' := [.ref r0, .int x1]) (S' := [.ref (hz h), .int x1, .ref (hR h r0 2)]) (h' := (mkC h 6 0 6)) rfl rfl rfl rfl
theorem b_X_init_117 {d : Nat} (x1 s1 : Int32) (r0 t0 t2 : Nat) (h : AH) (Q : Option Value → AH → Prop) : Wp d P_X_init 117 [.ref r0, .int x1] [.ref t0, .int s1, .ref t2] h Q ↔ Cl d q_Pg_init [.ref t0, .int 0] h (fun r h' => Wp d P_X_init 120 [.ref r0, .int x1] (r.toList ++ [.ref t0, .int s1, .ref t2]) h' Q) :=
    (r_go (j := 118) (L' := [.ref r0, .int x1]) (S' := [.ref t0, .ref t0, .int s1, .ref t2]) (h' := h) rfl rfl rfl rfl).trans <|
    (r_iconst (j := 119) (x := 0) rfl i32_0 rfl).trans <|
    r_call (j := 120) (a := [.ref t0, .int 0]) (S' := [.ref t0, .int s1, .ref t2]) rfl rfl rfl rfl rfl rfl rfl
theorem b_X_init_120 {d : Nat} (x1 s1 : Int32) (r0 t0 t2 : Nat) (h : AH) (Q : Option Value → AH → Prop) : Wp d P_X_init 120 [.ref r0, .int x1] [.ref t0, .int s1, .ref t2] h Q ↔ ((30 ≤ hK h t2 ∧ hK h t2 < 40 ∧ hK h t0 + 30 = hK h t2 ∧ 100 ≤ t0 ∧ t0 < hz h) ∧ ixo s1 (hN h t2) = true) ∧ (Wp d P_X_init 108 [.ref r0, .int (x1 + 1)] [] (sR h t2 (Int32.toNatClampNeg s1) t0) Q) :=
    (r_guard (j := 121) (L' := [.ref r0, .int x1]) (S' := []) (h' := (sR h t2 (Int32.toNatClampNeg s1) t0)) (p := (30 ≤ hK h t2 ∧ hK h t2 < 40 ∧ hK h t0 + 30 = hK h t2 ∧ 100 ≤ t0 ∧ t0 < hz h) ∧ ixo s1 (hN h t2) = true) rfl rfl rfl rfl (and2 decide_eq_true_iff Iff.rfl)).trans <| and_r <|
    (r_iinc (j := 122) (x := 1) (L' := [.ref r0, .int (x1 + 1)]) rfl rfl i32_1 rfl rfl).trans <|
    r_go (j := 108) (L' := [.ref r0, .int (x1 + 1)]) (S' := []) (h' := (sR h t2 (Int32.toNatClampNeg s1) t0)) rfl rfl rfl rfl
theorem b_X_init_123 {d : Nat} (x1 : Int32) (r0 : Nat) (h : AH) (Q : Option Value → AH → Prop) : Wp d P_X_init 123 [.ref r0, .int x1] [] h Q ↔ Wp d P_X_init 125 [.ref r0, .int 0] [] h Q :=
    (r_iconst (j := 124) (x := 0) rfl i32_0 rfl).trans <|
    r_go (j := 125) (L' := [.ref r0, .int 0]) (S' := []) (h' := h) rfl rfl rfl rfl
theorem b_X_init_125 {d : Nat} (x1 : Int32) (r0 : Nat) (h : AH) (Q : Option Value → AH → Prop) : Wp d P_X_init 125 [.ref r0, .int x1] [] h Q ↔ (hK h r0 = 10) ∧ ((20 ≤ hK h (hR h r0 3) ∧ hK h (hR h r0 3) ≠ 40 ∧ hK h (hR h r0 3) ≠ 42 ∧ hK h (hR h r0 3) ≤ 45 ∧ hK h (hR h r0 3) ≠ 43) ∧ (((Int32.ofNat (hN h (hR h r0 3))) ≤ x1 → Wp d P_X_init 139 [.ref r0, .int x1] [] h Q) ∧ (¬ ((Int32.ofNat (hN h (hR h r0 3))) ≤ x1) → Wp d P_X_init 130 [.ref r0, .int x1] [] h Q))) :=
    (r_go (j := 126) (L' := [.ref r0, .int x1]) (S' := [.int x1]) (h' := h) rfl rfl rfl rfl).trans <|
    (r_go (j := 127) (L' := [.ref r0, .int x1]) (S' := [.ref r0, .int x1]) (h' := h) rfl rfl rfl rfl).trans <|
    (r_guard (j := 128) (L' := [.ref r0, .int x1]) (S' := [.ref (hR h r0 3), .int x1]) (h' := h) (p := hK h r0 = 10) rfl rfl rfl rfl (decide_eq_true_iff)).trans <| and_r <|
    (r_guard (j := 129) (L' := [.ref r0, .int x1]) (S' := [.int (Int32.ofNat (hN h (hR h r0 3))), .int x1]) (h' := h) (p := 20 ≤ hK h (hR h r0 3) ∧ hK h (hR h r0 3) ≠ 40 ∧ hK h (hR h r0 3) ≠ 42 ∧ hK h (hR h r0 3) ≤ 45 ∧ hK h (hR h r0 3) ≠ 43) rfl rfl rfl rfl (decide_eq_true_iff)).trans <| and_r <|
    r_icmp (j := 130) rfl (cd_ge _ _) rfl
theorem b_X_init_130 {d : Nat} (x1 : Int32) (r0 : Nat) (h : AH) (Q : Option Value → AH → Prop) : Wp d P_X_init 130 [.ref r0, .int x1] [] h Q ↔ (hK h r0 = 10) ∧ (Wp d P_X_init 134 [.ref r0, .int x1] [.ref (hz h), .int x1, .ref (hR h r0 3)] (mkC h 7 0 3) Q) :=
    (r_go (j := 131) (L' := [.ref r0, .int x1]) (S' := [.ref r0]) (h' := h) rfl rfl rfl rfl).trans <|
    (r_guard (j := 132) (L' := [.ref r0, .int x1]) (S' := [.ref (hR h r0 3)]) (h' := h) (p := hK h r0 = 10) rfl rfl rfl rfl (decide_eq_true_iff)).trans <| and_r <|
    (r_go (j := 133) (L' := [.ref r0, .int x1]) (S' := [.int x1, .ref (hR h r0 3)]) (h' := h) rfl rfl rfl rfl).trans <|
    r_go (j := 134) (L' := [.ref r0, .int x1]) (S' := [.ref (hz h), .int x1, .ref (hR h r0 3)]) (h' := (mkC h 7 0 3)) rfl rfl rfl rfl
theorem b_X_init_134 {d : Nat} (x1 s1 : Int32) (r0 t0 t2 : Nat) (h : AH) (Q : Option Value → AH → Prop) : Wp d P_X_init 134 [.ref r0, .int x1] [.ref t0, .int s1, .ref t2] h Q ↔ Cl d q_Si_init [.ref t0] h (fun r h' => Wp d P_X_init 136 [.ref r0, .int x1] (r.toList ++ [.ref t0, .int s1, .ref t2]) h' Q) :=
    (r_go (j := 135) (L' := [.ref r0, .int x1]) (S' := [.ref t0, .ref t0, .int s1, .ref t2]) (h' := h) rfl rfl rfl rfl).trans <|
    r_call (j := 136) (a := [.ref t0]) (S' := [.ref t0, .int s1, .ref t2]) rfl rfl rfl rfl rfl rfl rfl
theorem b_X_init_136 {d : Nat} (x1 s1 : Int32) (r0 t0 t2 : Nat) (h : AH) (Q : Option Value → AH → Prop) : Wp d P_X_init 136 [.ref r0, .int x1] [.ref t0, .int s1, .ref t2] h Q ↔ ((30 ≤ hK h t2 ∧ hK h t2 < 40 ∧ hK h t0 + 30 = hK h t2 ∧ 100 ≤ t0 ∧ t0 < hz h) ∧ ixo s1 (hN h t2) = true) ∧ (Wp d P_X_init 125 [.ref r0, .int (x1 + 1)] [] (sR h t2 (Int32.toNatClampNeg s1) t0) Q) :=
    (r_guard (j := 137) (L' := [.ref r0, .int x1]) (S' := []) (h' := (sR h t2 (Int32.toNatClampNeg s1) t0)) (p := (30 ≤ hK h t2 ∧ hK h t2 < 40 ∧ hK h t0 + 30 = hK h t2 ∧ 100 ≤ t0 ∧ t0 < hz h) ∧ ixo s1 (hN h t2) = true) rfl rfl rfl rfl (and2 decide_eq_true_iff Iff.rfl)).trans <| and_r <|
    (r_iinc (j := 138) (x := 1) (L' := [.ref r0, .int (x1 + 1)]) rfl rfl i32_1 rfl rfl).trans <|
    r_go (j := 125) (L' := [.ref r0, .int (x1 + 1)]) (S' := []) (h' := (sR h t2 (Int32.toNatClampNeg s1) t0)) rfl rfl rfl rfl
theorem b_X_init_139 {d : Nat} (x1 : Int32) (r0 : Nat) (h : AH) (Q : Option Value → AH → Prop) : Wp d P_X_init 139 [.ref r0, .int x1] [] h Q ↔ Wp d P_X_init 141 [.ref r0, .int 0] [] h Q :=
    (r_iconst (j := 140) (x := 0) rfl i32_0 rfl).trans <|
    r_go (j := 141) (L' := [.ref r0, .int 0]) (S' := []) (h' := h) rfl rfl rfl rfl
theorem b_X_init_141 {d : Nat} (x1 : Int32) (r0 : Nat) (h : AH) (Q : Option Value → AH → Prop) : Wp d P_X_init 141 [.ref r0, .int x1] [] h Q ↔ (hK h r0 = 10) ∧ ((20 ≤ hK h (hR h r0 5) ∧ hK h (hR h r0 5) ≠ 40 ∧ hK h (hR h r0 5) ≠ 42 ∧ hK h (hR h r0 5) ≤ 45 ∧ hK h (hR h r0 5) ≠ 43) ∧ (((Int32.ofNat (hN h (hR h r0 5))) ≤ x1 → Wp d P_X_init 155 [.ref r0, .int x1] [] h Q) ∧ (¬ ((Int32.ofNat (hN h (hR h r0 5))) ≤ x1) → Wp d P_X_init 146 [.ref r0, .int x1] [] h Q))) :=
    (r_go (j := 142) (L' := [.ref r0, .int x1]) (S' := [.int x1]) (h' := h) rfl rfl rfl rfl).trans <|
    (r_go (j := 143) (L' := [.ref r0, .int x1]) (S' := [.ref r0, .int x1]) (h' := h) rfl rfl rfl rfl).trans <|
    (r_guard (j := 144) (L' := [.ref r0, .int x1]) (S' := [.ref (hR h r0 5), .int x1]) (h' := h) (p := hK h r0 = 10) rfl rfl rfl rfl (decide_eq_true_iff)).trans <| and_r <|
    (r_guard (j := 145) (L' := [.ref r0, .int x1]) (S' := [.int (Int32.ofNat (hN h (hR h r0 5))), .int x1]) (h' := h) (p := 20 ≤ hK h (hR h r0 5) ∧ hK h (hR h r0 5) ≠ 40 ∧ hK h (hR h r0 5) ≠ 42 ∧ hK h (hR h r0 5) ≤ 45 ∧ hK h (hR h r0 5) ≠ 43) rfl rfl rfl rfl (decide_eq_true_iff)).trans <| and_r <|
    r_icmp (j := 146) rfl (cd_ge _ _) rfl
theorem b_X_init_146 {d : Nat} (x1 : Int32) (r0 : Nat) (h : AH) (Q : Option Value → AH → Prop) : Wp d P_X_init 146 [.ref r0, .int x1] [] h Q ↔ (hK h r0 = 10) ∧ (Wp d P_X_init 150 [.ref r0, .int x1] [.ref (hz h), .int x1, .ref (hR h r0 5)] (mkC h 8 0 7) Q) :=
    (r_go (j := 147) (L' := [.ref r0, .int x1]) (S' := [.ref r0]) (h' := h) rfl rfl rfl rfl).trans <|
    (r_guard (j := 148) (L' := [.ref r0, .int x1]) (S' := [.ref (hR h r0 5)]) (h' := h) (p := hK h r0 = 10) rfl rfl rfl rfl (decide_eq_true_iff)).trans <| and_r <|
    (r_go (j := 149) (L' := [.ref r0, .int x1]) (S' := [.int x1, .ref (hR h r0 5)]) (h' := h) rfl rfl rfl rfl).trans <|
    r_go (j := 150) (L' := [.ref r0, .int x1]) (S' := [.ref (hz h), .int x1, .ref (hR h r0 5)]) (h' := (mkC h 8 0 7)) rfl rfl rfl rfl
theorem b_X_init_150 {d : Nat} (x1 s1 : Int32) (r0 t0 t2 : Nat) (h : AH) (Q : Option Value → AH → Prop) : Wp d P_X_init 150 [.ref r0, .int x1] [.ref t0, .int s1, .ref t2] h Q ↔ Cl d q_Ta_init [.ref t0] h (fun r h' => Wp d P_X_init 152 [.ref r0, .int x1] (r.toList ++ [.ref t0, .int s1, .ref t2]) h' Q) :=
    (r_go (j := 151) (L' := [.ref r0, .int x1]) (S' := [.ref t0, .ref t0, .int s1, .ref t2]) (h' := h) rfl rfl rfl rfl).trans <|
    r_call (j := 152) (a := [.ref t0]) (S' := [.ref t0, .int s1, .ref t2]) rfl rfl rfl rfl rfl rfl rfl
theorem b_X_init_152 {d : Nat} (x1 s1 : Int32) (r0 t0 t2 : Nat) (h : AH) (Q : Option Value → AH → Prop) : Wp d P_X_init 152 [.ref r0, .int x1] [.ref t0, .int s1, .ref t2] h Q ↔ ((30 ≤ hK h t2 ∧ hK h t2 < 40 ∧ hK h t0 + 30 = hK h t2 ∧ 100 ≤ t0 ∧ t0 < hz h) ∧ ixo s1 (hN h t2) = true) ∧ (Wp d P_X_init 141 [.ref r0, .int (x1 + 1)] [] (sR h t2 (Int32.toNatClampNeg s1) t0) Q) :=
    (r_guard (j := 153) (L' := [.ref r0, .int x1]) (S' := []) (h' := (sR h t2 (Int32.toNatClampNeg s1) t0)) (p := (30 ≤ hK h t2 ∧ hK h t2 < 40 ∧ hK h t0 + 30 = hK h t2 ∧ 100 ≤ t0 ∧ t0 < hz h) ∧ ixo s1 (hN h t2) = true) rfl rfl rfl rfl (and2 decide_eq_true_iff Iff.rfl)).trans <| and_r <|
    (r_iinc (j := 154) (x := 1) (L' := [.ref r0, .int (x1 + 1)]) rfl rfl i32_1 rfl rfl).trans <|
    r_go (j := 141) (L' := [.ref r0, .int (x1 + 1)]) (S' := []) (h' := (sR h t2 (Int32.toNatClampNeg s1) t0)) rfl rfl rfl rfl
theorem b_X_init_155 {d : Nat} (x1 : Int32) (r0 : Nat) (h : AH) (Q : Option Value → AH → Prop) : Wp d P_X_init 155 [.ref r0, .int x1] [] h Q ↔ Q (none) h :=
    r_ret rfl rfl rfl
theorem e_X_init {d : Nat} (r0 : Nat) (h : AH) (Q : Option Value → AH → Prop) : Cl (d + 1) q_X_init [.ref r0] h Q ↔ hK h r0 = 10 ∧ Wp d P_X_init 0 [.ref r0, .null] [] h (fun r h' => rtk (none) r = true ∧ Q r h') :=
    (Cl_method (t := m_X_init) rfl).trans (and_congr_left fun _ => decide_eq_true_iff)
/-! PenThatJumps.person(IIZIZ)Z -/
theorem b_X_person_0 {d : Nat} (x1 x2 x3 x4 x5 : Int32) (r0 : Nat) (h : AH) (Q : Option Value → AH → Prop) : Wp d P_X_person 0 [.ref r0, .int x1, .int x2, .int x3, .int x4, .int x5] [] h Q ↔ (x1 < 0 → Wp d P_X_person 7 [.ref r0, .int x1, .int x2, .int x3, .int x4, .int x5] [] h Q) ∧ (¬ (x1 < 0) → Wp d P_X_person 2 [.ref r0, .int x1, .int x2, .int x3, .int x4, .int x5] [] h Q) :=
    (r_go (j := 1) (L' := [.ref r0, .int x1, .int x2, .int x3, .int x4, .int x5]) (S' := [.int x1]) (h' := h) rfl rfl rfl rfl).trans <|
    r_if (j := 2) rfl (cd_lt _ _) rfl
theorem b_X_person_2 {d : Nat} (x1 x2 x3 x4 x5 : Int32) (r0 : Nat) (h : AH) (Q : Option Value → AH → Prop) : Wp d P_X_person 2 [.ref r0, .int x1, .int x2, .int x3, .int x4, .int x5] [] h Q ↔ (hK h r0 = 10) ∧ ((20 ≤ hK h (hR h r0 0) ∧ hK h (hR h r0 0) ≠ 40 ∧ hK h (hR h r0 0) ≠ 42 ∧ hK h (hR h r0 0) ≤ 45 ∧ hK h (hR h r0 0) ≠ 43) ∧ ((x1 < (Int32.ofNat (hN h (hR h r0 0))) → Wp d P_X_person 9 [.ref r0, .int x1, .int x2, .int x3, .int x4, .int x5] [] h Q) ∧ (¬ (x1 < (Int32.ofNat (hN h (hR h r0 0)))) → Wp d P_X_person 7 [.ref r0, .int x1, .int x2, .int x3, .int x4, .int x5] [] h Q))) :=
    (r_go (j := 3) (L' := [.ref r0, .int x1, .int x2, .int x3, .int x4, .int x5]) (S' := [.int x1]) (h' := h) rfl rfl rfl rfl).trans <|
    (r_go (j := 4) (L' := [.ref r0, .int x1, .int x2, .int x3, .int x4, .int x5]) (S' := [.ref r0, .int x1]) (h' := h) rfl rfl rfl rfl).trans <|
    (r_guard (j := 5) (L' := [.ref r0, .int x1, .int x2, .int x3, .int x4, .int x5]) (S' := [.ref (hR h r0 0), .int x1]) (h' := h) (p := hK h r0 = 10) rfl rfl rfl rfl (decide_eq_true_iff)).trans <| and_r <|
    (r_guard (j := 6) (L' := [.ref r0, .int x1, .int x2, .int x3, .int x4, .int x5]) (S' := [.int (Int32.ofNat (hN h (hR h r0 0))), .int x1]) (h' := h) (p := 20 ≤ hK h (hR h r0 0) ∧ hK h (hR h r0 0) ≠ 40 ∧ hK h (hR h r0 0) ≠ 42 ∧ hK h (hR h r0 0) ≤ 45 ∧ hK h (hR h r0 0) ≠ 43) rfl rfl rfl rfl (decide_eq_true_iff)).trans <| and_r <|
    r_icmp (j := 7) rfl (cd_lt _ _) rfl
theorem b_X_person_7 {d : Nat} (x1 x2 x3 x4 x5 : Int32) (r0 : Nat) (h : AH) (Q : Option Value → AH → Prop) : Wp d P_X_person 7 [.ref r0, .int x1, .int x2, .int x3, .int x4, .int x5] [] h Q ↔ Q (some (.int 0)) h :=
    (r_iconst (j := 8) (x := 0) rfl i32_0 rfl).trans <|
    r_ret rfl rfl rfl
theorem b_X_person_9 {d : Nat} (x1 x2 x3 x4 x5 : Int32) (r0 : Nat) (h : AH) (Q : Option Value → AH → Prop) : Wp d P_X_person 9 [.ref r0, .int x1, .int x2, .int x3, .int x4, .int x5] [] h Q ↔ Cl d q_X_within [.int x2, .int 0, .int 9] h (fun r h' => Wp d P_X_person 13 [.ref r0, .int x1, .int x2, .int x3, .int x4, .int x5] (r.toList ++ []) h' Q) :=
    (r_go (j := 10) (L' := [.ref r0, .int x1, .int x2, .int x3, .int x4, .int x5]) (S' := [.int x2]) (h' := h) rfl rfl rfl rfl).trans <|
    (r_iconst (j := 11) (x := 0) rfl i32_0 rfl).trans <|
    (r_bipush (j := 12) (x := 9) rfl i32_9 rfl).trans <|
    r_call (j := 13) (a := [.int x2, .int 0, .int 9]) (S' := []) rfl rfl rfl rfl rfl rfl rfl
theorem b_X_person_13 {d : Nat} (x1 x2 x3 x4 x5 s0 : Int32) (r0 : Nat) (h : AH) (Q : Option Value → AH → Prop) : Wp d P_X_person 13 [.ref r0, .int x1, .int x2, .int x3, .int x4, .int x5] [.int s0] h Q ↔ (s0 = 0 → Wp d P_X_person 19 [.ref r0, .int x1, .int x2, .int x3, .int x4, .int x5] [] h Q) ∧ (¬ (s0 = 0) → Wp d P_X_person 14 [.ref r0, .int x1, .int x2, .int x3, .int x4, .int x5] [] h Q) :=
    r_if (j := 14) rfl (cd_eq _ _) rfl
theorem b_X_person_14 {d : Nat} (x1 x2 x3 x4 x5 : Int32) (r0 : Nat) (h : AH) (Q : Option Value → AH → Prop) : Wp d P_X_person 14 [.ref r0, .int x1, .int x2, .int x3, .int x4, .int x5] [] h Q ↔ Cl d q_X_within [.int x4, .int 0, .int 511] h (fun r h' => Wp d P_X_person 18 [.ref r0, .int x1, .int x2, .int x3, .int x4, .int x5] (r.toList ++ []) h' Q) :=
    (r_go (j := 15) (L' := [.ref r0, .int x1, .int x2, .int x3, .int x4, .int x5]) (S' := [.int x4]) (h' := h) rfl rfl rfl rfl).trans <|
    (r_iconst (j := 16) (x := 0) rfl i32_0 rfl).trans <|
    (r_sipush (j := 17) (x := 511) rfl i32_511 rfl).trans <|
    r_call (j := 18) (a := [.int x4, .int 0, .int 511]) (S' := []) rfl rfl rfl rfl rfl rfl rfl
theorem b_X_person_18 {d : Nat} (x1 x2 x3 x4 x5 s0 : Int32) (r0 : Nat) (h : AH) (Q : Option Value → AH → Prop) : Wp d P_X_person 18 [.ref r0, .int x1, .int x2, .int x3, .int x4, .int x5] [.int s0] h Q ↔ (¬ s0 = 0 → Wp d P_X_person 21 [.ref r0, .int x1, .int x2, .int x3, .int x4, .int x5] [] h Q) ∧ (¬ (¬ s0 = 0) → Wp d P_X_person 19 [.ref r0, .int x1, .int x2, .int x3, .int x4, .int x5] [] h Q) :=
    r_if (j := 19) rfl (cd_ne _ _) rfl
theorem b_X_person_19 {d : Nat} (x1 x2 x3 x4 x5 : Int32) (r0 : Nat) (h : AH) (Q : Option Value → AH → Prop) : Wp d P_X_person 19 [.ref r0, .int x1, .int x2, .int x3, .int x4, .int x5] [] h Q ↔ Q (some (.int 0)) h :=
    (r_iconst (j := 20) (x := 0) rfl i32_0 rfl).trans <|
    r_ret rfl rfl rfl
theorem b_X_person_21 {d : Nat} (x1 x2 x3 x4 x5 : Int32) (r0 : Nat) (h : AH) (Q : Option Value → AH → Prop) : Wp d P_X_person 21 [.ref r0, .int x1, .int x2, .int x3, .int x4, .int x5] [] h Q ↔ (hK h r0 = 10) ∧ (((30 ≤ hK h (hR h r0 0) ∧ hK h (hR h r0 0) ≤ 41 ∧ hK h (hR h r0 0) ≠ 40) ∧ ixo x1 (hN h (hR h r0 0)) = true) ∧ (Cl d q_Pe_tell [.ref (hR h (hR h r0 0) (Int32.toNatClampNeg x1)), .int x2, .int x3, .int x4, .int x5] h (fun r h' => Wp d P_X_person 30 [.ref r0, .int x1, .int x2, .int x3, .int x4, .int x5] (r.toList ++ []) h' Q))) :=
    (r_go (j := 22) (L' := [.ref r0, .int x1, .int x2, .int x3, .int x4, .int x5]) (S' := [.ref r0]) (h' := h) rfl rfl rfl rfl).trans <|
    (r_guard (j := 23) (L' := [.ref r0, .int x1, .int x2, .int x3, .int x4, .int x5]) (S' := [.ref (hR h r0 0)]) (h' := h) (p := hK h r0 = 10) rfl rfl rfl rfl (decide_eq_true_iff)).trans <| and_r <|
    (r_go (j := 24) (L' := [.ref r0, .int x1, .int x2, .int x3, .int x4, .int x5]) (S' := [.int x1, .ref (hR h r0 0)]) (h' := h) rfl rfl rfl rfl).trans <|
    (r_guard (j := 25) (L' := [.ref r0, .int x1, .int x2, .int x3, .int x4, .int x5]) (S' := [.ref (hR h (hR h r0 0) (Int32.toNatClampNeg x1))]) (h' := h) (p := (30 ≤ hK h (hR h r0 0) ∧ hK h (hR h r0 0) ≤ 41 ∧ hK h (hR h r0 0) ≠ 40) ∧ ixo x1 (hN h (hR h r0 0)) = true) rfl rfl rfl rfl (and2 decide_eq_true_iff Iff.rfl)).trans <| and_r <|
    (r_go (j := 26) (L' := [.ref r0, .int x1, .int x2, .int x3, .int x4, .int x5]) (S' := [.int x2, .ref (hR h (hR h r0 0) (Int32.toNatClampNeg x1))]) (h' := h) rfl rfl rfl rfl).trans <|
    (r_go (j := 27) (L' := [.ref r0, .int x1, .int x2, .int x3, .int x4, .int x5]) (S' := [.int x3, .int x2, .ref (hR h (hR h r0 0) (Int32.toNatClampNeg x1))]) (h' := h) rfl rfl rfl rfl).trans <|
    (r_go (j := 28) (L' := [.ref r0, .int x1, .int x2, .int x3, .int x4, .int x5]) (S' := [.int x4, .int x3, .int x2, .ref (hR h (hR h r0 0) (Int32.toNatClampNeg x1))]) (h' := h) rfl rfl rfl rfl).trans <|
    (r_go (j := 29) (L' := [.ref r0, .int x1, .int x2, .int x3, .int x4, .int x5]) (S' := [.int x5, .int x4, .int x3, .int x2, .ref (hR h (hR h r0 0) (Int32.toNatClampNeg x1))]) (h' := h) rfl rfl rfl rfl).trans <|
    r_call (j := 30) (a := [.ref (hR h (hR h r0 0) (Int32.toNatClampNeg x1)), .int x2, .int x3, .int x4, .int x5]) (S' := []) rfl rfl rfl rfl rfl rfl rfl
theorem b_X_person_30 {d : Nat} (x1 x2 x3 x4 x5 : Int32) (r0 : Nat) (h : AH) (Q : Option Value → AH → Prop) : Wp d P_X_person 30 [.ref r0, .int x1, .int x2, .int x3, .int x4, .int x5] [] h Q ↔ Q (some (.int 1)) h :=
    (r_iconst (j := 31) (x := 1) rfl i32_1 rfl).trans <|
    r_ret rfl rfl rfl
theorem e_X_person {d : Nat} (x1 x2 x3 x4 x5 : Int32) (r0 : Nat) (h : AH) (Q : Option Value → AH → Prop) : Cl (d + 1) q_X_person [.ref r0, .int x1, .int x2, .int x3, .int x4, .int x5] h Q ↔ hK h r0 = 10 ∧ Wp d P_X_person 0 [.ref r0, .int x1, .int x2, .int x3, .int x4, .int x5] [] h (fun r h' => rtk (some .boolean) r = true ∧ Q r h') :=
    (Cl_method (t := m_X_person) rfl).trans (and_congr_left fun _ => decide_eq_true_iff)
/-! PenThatJumps.item(I)Z -/
theorem b_X_item_0 {d : Nat} (x1 : Int32) (r0 : Nat) (h : AH) (Q : Option Value → AH → Prop) : Wp d P_X_item 0 [.ref r0, .int x1] [] h Q ↔ Cl d q_X_within [.int x1, .int 0, .int 8] h (fun r h' => Wp d P_X_item 4 [.ref r0, .int x1] (r.toList ++ []) h' Q) :=
    (r_go (j := 1) (L' := [.ref r0, .int x1]) (S' := [.int x1]) (h' := h) rfl rfl rfl rfl).trans <|
    (r_iconst (j := 2) (x := 0) rfl i32_0 rfl).trans <|
    (r_bipush (j := 3) (x := 8) rfl i32_8 rfl).trans <|
    r_call (j := 4) (a := [.int x1, .int 0, .int 8]) (S' := []) rfl rfl rfl rfl rfl rfl rfl
theorem b_X_item_4 {d : Nat} (x1 s0 : Int32) (r0 : Nat) (h : AH) (Q : Option Value → AH → Prop) : Wp d P_X_item 4 [.ref r0, .int x1] [.int s0] h Q ↔ (¬ s0 = 0 → Wp d P_X_item 7 [.ref r0, .int x1] [] h Q) ∧ (¬ (¬ s0 = 0) → Wp d P_X_item 5 [.ref r0, .int x1] [] h Q) :=
    r_if (j := 5) rfl (cd_ne _ _) rfl
theorem b_X_item_5 {d : Nat} (x1 : Int32) (r0 : Nat) (h : AH) (Q : Option Value → AH → Prop) : Wp d P_X_item 5 [.ref r0, .int x1] [] h Q ↔ Q (some (.int 0)) h :=
    (r_iconst (j := 6) (x := 0) rfl i32_0 rfl).trans <|
    r_ret rfl rfl rfl
theorem b_X_item_7 {d : Nat} (x1 : Int32) (r0 : Nat) (h : AH) (Q : Option Value → AH → Prop) : Wp d P_X_item 7 [.ref r0, .int x1] [] h Q ↔ (hK h r0 = 10) ∧ ((hK h (hR h r0 7) = 0) ∧ (Q (some (.int 1)) (sI h (hR h r0 7) 3 x1))) :=
    (r_go (j := 8) (L' := [.ref r0, .int x1]) (S' := [.ref r0]) (h' := h) rfl rfl rfl rfl).trans <|
    (r_guard (j := 9) (L' := [.ref r0, .int x1]) (S' := [.ref (hR h r0 7)]) (h' := h) (p := hK h r0 = 10) rfl rfl rfl rfl (decide_eq_true_iff)).trans <| and_r <|
    (r_go (j := 10) (L' := [.ref r0, .int x1]) (S' := [.int x1, .ref (hR h r0 7)]) (h' := h) rfl rfl rfl rfl).trans <|
    (r_guard (j := 11) (L' := [.ref r0, .int x1]) (S' := []) (h' := (sI h (hR h r0 7) 3 x1)) (p := hK h (hR h r0 7) = 0) rfl rfl rfl rfl (pfI rfl)).trans <| and_r <|
    (r_iconst (j := 12) (x := 1) rfl i32_1 rfl).trans <|
    r_ret rfl rfl rfl
theorem e_X_item {d : Nat} (x1 : Int32) (r0 : Nat) (h : AH) (Q : Option Value → AH → Prop) : Cl (d + 1) q_X_item [.ref r0, .int x1] h Q ↔ hK h r0 = 10 ∧ Wp d P_X_item 0 [.ref r0, .int x1] [] h (fun r h' => rtk (some .boolean) r = true ∧ Q r h') :=
    (Cl_method (t := m_X_item) rfl).trans (and_congr_left fun _ => decide_eq_true_iff)
/-! PenThatJumps.feed(JJJ)I -/
theorem b_X_feed_0 {d : Nat} (l1 l3 l5 : Int64) (r0 : Nat) (h : AH) (Q : Option Value → AH → Prop) : Wp d P_X_feed 0 [.ref r0, .long l1, .null, .long l3, .null, .long l5, .null] [] h Q ↔ (hK h r0 = 10) ∧ ((hK h (hR h r0 6) = 2) ∧ (Cl d q_Tp_put [.ref (hR h (hR h r0 6) 0), .long l1] h (fun r h' => Wp d P_X_feed 5 [.ref r0, .long l1, .null, .long l3, .null, .long l5, .null] (r.toList ++ []) h' Q))) :=
    (r_go (j := 1) (L' := [.ref r0, .long l1, .null, .long l3, .null, .long l5, .null]) (S' := [.ref r0]) (h' := h) rfl rfl rfl rfl).trans <|
    (r_guard (j := 2) (L' := [.ref r0, .long l1, .null, .long l3, .null, .long l5, .null]) (S' := [.ref (hR h r0 6)]) (h' := h) (p := hK h r0 = 10) rfl rfl rfl rfl (decide_eq_true_iff)).trans <| and_r <|
    (r_guard (j := 3) (L' := [.ref r0, .long l1, .null, .long l3, .null, .long l5, .null]) (S' := [.ref (hR h (hR h r0 6) 0)]) (h' := h) (p := hK h (hR h r0 6) = 2) rfl rfl rfl rfl (decide_eq_true_iff)).trans <| and_r <|
    (r_go (j := 4) (L' := [.ref r0, .long l1, .null, .long l3, .null, .long l5, .null]) (S' := [.long l1, .ref (hR h (hR h r0 6) 0)]) (h' := h) rfl rfl rfl rfl).trans <|
    r_call (j := 5) (a := [.ref (hR h (hR h r0 6) 0), .long l1]) (S' := []) rfl rfl rfl rfl rfl rfl rfl
theorem b_X_feed_5 {d : Nat} (l1 l3 l5 : Int64) (r0 : Nat) (h : AH) (Q : Option Value → AH → Prop) : Wp d P_X_feed 5 [.ref r0, .long l1, .null, .long l3, .null, .long l5, .null] [] h Q ↔ (hK h r0 = 10) ∧ ((hK h (hR h r0 6) = 2) ∧ (Cl d q_Tp_put [.ref (hR h (hR h r0 6) 0), .long l3] h (fun r h' => Wp d P_X_feed 10 [.ref r0, .long l1, .null, .long l3, .null, .long l5, .null] (r.toList ++ []) h' Q))) :=
    (r_go (j := 6) (L' := [.ref r0, .long l1, .null, .long l3, .null, .long l5, .null]) (S' := [.ref r0]) (h' := h) rfl rfl rfl rfl).trans <|
    (r_guard (j := 7) (L' := [.ref r0, .long l1, .null, .long l3, .null, .long l5, .null]) (S' := [.ref (hR h r0 6)]) (h' := h) (p := hK h r0 = 10) rfl rfl rfl rfl (decide_eq_true_iff)).trans <| and_r <|
    (r_guard (j := 8) (L' := [.ref r0, .long l1, .null, .long l3, .null, .long l5, .null]) (S' := [.ref (hR h (hR h r0 6) 0)]) (h' := h) (p := hK h (hR h r0 6) = 2) rfl rfl rfl rfl (decide_eq_true_iff)).trans <| and_r <|
    (r_go (j := 9) (L' := [.ref r0, .long l1, .null, .long l3, .null, .long l5, .null]) (S' := [.long l3, .ref (hR h (hR h r0 6) 0)]) (h' := h) rfl rfl rfl rfl).trans <|
    r_call (j := 10) (a := [.ref (hR h (hR h r0 6) 0), .long l3]) (S' := []) rfl rfl rfl rfl rfl rfl rfl
theorem b_X_feed_10 {d : Nat} (l1 l3 l5 : Int64) (r0 : Nat) (h : AH) (Q : Option Value → AH → Prop) : Wp d P_X_feed 10 [.ref r0, .long l1, .null, .long l3, .null, .long l5, .null] [] h Q ↔ (hK h r0 = 10) ∧ ((hK h (hR h r0 6) = 2) ∧ (Cl d q_Tp_put [.ref (hR h (hR h r0 6) 0), .long l5] h (fun r h' => Wp d P_X_feed 15 [.ref r0, .long l1, .null, .long l3, .null, .long l5, .null] (r.toList ++ []) h' Q))) :=
    (r_go (j := 11) (L' := [.ref r0, .long l1, .null, .long l3, .null, .long l5, .null]) (S' := [.ref r0]) (h' := h) rfl rfl rfl rfl).trans <|
    (r_guard (j := 12) (L' := [.ref r0, .long l1, .null, .long l3, .null, .long l5, .null]) (S' := [.ref (hR h r0 6)]) (h' := h) (p := hK h r0 = 10) rfl rfl rfl rfl (decide_eq_true_iff)).trans <| and_r <|
    (r_guard (j := 13) (L' := [.ref r0, .long l1, .null, .long l3, .null, .long l5, .null]) (S' := [.ref (hR h (hR h r0 6) 0)]) (h' := h) (p := hK h (hR h r0 6) = 2) rfl rfl rfl rfl (decide_eq_true_iff)).trans <| and_r <|
    (r_go (j := 14) (L' := [.ref r0, .long l1, .null, .long l3, .null, .long l5, .null]) (S' := [.long l5, .ref (hR h (hR h r0 6) 0)]) (h' := h) rfl rfl rfl rfl).trans <|
    r_call (j := 15) (a := [.ref (hR h (hR h r0 6) 0), .long l5]) (S' := []) rfl rfl rfl rfl rfl rfl rfl
theorem b_X_feed_15 {d : Nat} (l1 l3 l5 : Int64) (r0 : Nat) (h : AH) (Q : Option Value → AH → Prop) : Wp d P_X_feed 15 [.ref r0, .long l1, .null, .long l3, .null, .long l5, .null] [] h Q ↔ (hK h r0 = 10) ∧ ((hK h (hR h r0 6) = 2) ∧ ((hK h (hR h (hR h r0 6) 0) = 9) ∧ (Q (some (.int (hI h (hR h (hR h r0 6) 0) 1))) h))) :=
    (r_go (j := 16) (L' := [.ref r0, .long l1, .null, .long l3, .null, .long l5, .null]) (S' := [.ref r0]) (h' := h) rfl rfl rfl rfl).trans <|
    (r_guard (j := 17) (L' := [.ref r0, .long l1, .null, .long l3, .null, .long l5, .null]) (S' := [.ref (hR h r0 6)]) (h' := h) (p := hK h r0 = 10) rfl rfl rfl rfl (decide_eq_true_iff)).trans <| and_r <|
    (r_guard (j := 18) (L' := [.ref r0, .long l1, .null, .long l3, .null, .long l5, .null]) (S' := [.ref (hR h (hR h r0 6) 0)]) (h' := h) (p := hK h (hR h r0 6) = 2) rfl rfl rfl rfl (decide_eq_true_iff)).trans <| and_r <|
    (r_guard (j := 19) (L' := [.ref r0, .long l1, .null, .long l3, .null, .long l5, .null]) (S' := [.int (hI h (hR h (hR h r0 6) 0) 1)]) (h' := h) (p := hK h (hR h (hR h r0 6) 0) = 9) rfl rfl rfl rfl (decide_eq_true_iff)).trans <| and_r <|
    r_ret rfl rfl rfl
theorem e_X_feed {d : Nat} (l1 l3 l5 : Int64) (r0 : Nat) (h : AH) (Q : Option Value → AH → Prop) : Cl (d + 1) q_X_feed [.ref r0, .long l1, .long l3, .long l5] h Q ↔ hK h r0 = 10 ∧ Wp d P_X_feed 0 [.ref r0, .long l1, .null, .long l3, .null, .long l5, .null] [] h (fun r h' => rtk (some .int) r = true ∧ Q r h') :=
    (Cl_method (t := m_X_feed) rfl).trans (and_congr_left fun _ => decide_eq_true_iff)
/-! PenThatJumps.plan(I)I -/
theorem b_X_plan_0 {d : Nat} (x1 : Int32) (r0 : Nat) (h : AH) (Q : Option Value → AH → Prop) : Wp d P_X_plan 0 [.ref r0, .int x1, .null] [] h Q ↔ (x1 < 0 → Wp d P_X_plan 7 [.ref r0, .int x1, .null] [] h Q) ∧ (¬ (x1 < 0) → Wp d P_X_plan 2 [.ref r0, .int x1, .null] [] h Q) :=
    (r_go (j := 1) (L' := [.ref r0, .int x1, .null]) (S' := [.int x1]) (h' := h) rfl rfl rfl rfl).trans <|
    r_if (j := 2) rfl (cd_lt _ _) rfl
theorem b_X_plan_2 {d : Nat} (x1 : Int32) (r0 : Nat) (h : AH) (Q : Option Value → AH → Prop) : Wp d P_X_plan 2 [.ref r0, .int x1, .null] [] h Q ↔ (hK h r0 = 10) ∧ ((20 ≤ hK h (hR h r0 1) ∧ hK h (hR h r0 1) ≠ 40 ∧ hK h (hR h r0 1) ≠ 42 ∧ hK h (hR h r0 1) ≤ 45 ∧ hK h (hR h r0 1) ≠ 43) ∧ ((x1 < (Int32.ofNat (hN h (hR h r0 1))) → Wp d P_X_plan 13 [.ref r0, .int x1, .null] [] h Q) ∧ (¬ (x1 < (Int32.ofNat (hN h (hR h r0 1)))) → Wp d P_X_plan 7 [.ref r0, .int x1, .null] [] h Q))) :=
    (r_go (j := 3) (L' := [.ref r0, .int x1, .null]) (S' := [.int x1]) (h' := h) rfl rfl rfl rfl).trans <|
    (r_go (j := 4) (L' := [.ref r0, .int x1, .null]) (S' := [.ref r0, .int x1]) (h' := h) rfl rfl rfl rfl).trans <|
    (r_guard (j := 5) (L' := [.ref r0, .int x1, .null]) (S' := [.ref (hR h r0 1), .int x1]) (h' := h) (p := hK h r0 = 10) rfl rfl rfl rfl (decide_eq_true_iff)).trans <| and_r <|
    (r_guard (j := 6) (L' := [.ref r0, .int x1, .null]) (S' := [.int (Int32.ofNat (hN h (hR h r0 1))), .int x1]) (h' := h) (p := 20 ≤ hK h (hR h r0 1) ∧ hK h (hR h r0 1) ≠ 40 ∧ hK h (hR h r0 1) ≠ 42 ∧ hK h (hR h r0 1) ≤ 45 ∧ hK h (hR h r0 1) ≠ 43) rfl rfl rfl rfl (decide_eq_true_iff)).trans <| and_r <|
    r_icmp (j := 7) rfl (cd_lt _ _) rfl
theorem b_X_plan_7 {d : Nat} (x1 : Int32) (r0 : Nat) (h : AH) (Q : Option Value → AH → Prop) : Wp d P_X_plan 7 [.ref r0, .int x1, .null] [] h Q ↔ (hK h r0 = 10) ∧ ((hK h (hR h r0 6) = 2) ∧ (Cl d q_Tp_clear [.ref (hR h (hR h r0 6) 0)] h (fun r h' => Wp d P_X_plan 11 [.ref r0, .int x1, .null] (r.toList ++ []) h' Q))) :=
    (r_go (j := 8) (L' := [.ref r0, .int x1, .null]) (S' := [.ref r0]) (h' := h) rfl rfl rfl rfl).trans <|
    (r_guard (j := 9) (L' := [.ref r0, .int x1, .null]) (S' := [.ref (hR h r0 6)]) (h' := h) (p := hK h r0 = 10) rfl rfl rfl rfl (decide_eq_true_iff)).trans <| and_r <|
    (r_guard (j := 10) (L' := [.ref r0, .int x1, .null]) (S' := [.ref (hR h (hR h r0 6) 0)]) (h' := h) (p := hK h (hR h r0 6) = 2) rfl rfl rfl rfl (decide_eq_true_iff)).trans <| and_r <|
    r_call (j := 11) (a := [.ref (hR h (hR h r0 6) 0)]) (S' := []) rfl rfl rfl rfl rfl rfl rfl
theorem b_X_plan_11 {d : Nat} (x1 : Int32) (r0 : Nat) (h : AH) (Q : Option Value → AH → Prop) : Wp d P_X_plan 11 [.ref r0, .int x1, .null] [] h Q ↔ Q (some (.int (-1))) h :=
    (r_iconst (j := 12) (x := (-1)) rfl i32_m1 rfl).trans <|
    r_ret rfl rfl rfl
theorem b_X_plan_13 {d : Nat} (x1 : Int32) (r0 : Nat) (h : AH) (Q : Option Value → AH → Prop) : Wp d P_X_plan 13 [.ref r0, .int x1, .null] [] h Q ↔ (hK h r0 = 10) ∧ (Cl d q_Pa_readPlan [.ref (hR h r0 6)] h (fun r h' => Wp d P_X_plan 16 [.ref r0, .int x1, .null] (r.toList ++ []) h' Q)) :=
    (r_go (j := 14) (L' := [.ref r0, .int x1, .null]) (S' := [.ref r0]) (h' := h) rfl rfl rfl rfl).trans <|
    (r_guard (j := 15) (L' := [.ref r0, .int x1, .null]) (S' := [.ref (hR h r0 6)]) (h' := h) (p := hK h r0 = 10) rfl rfl rfl rfl (decide_eq_true_iff)).trans <| and_r <|
    r_call (j := 16) (a := [.ref (hR h r0 6)]) (S' := []) rfl rfl rfl rfl rfl rfl rfl
theorem b_X_plan_16 {d : Nat} (x1 s0 : Int32) (r0 : Nat) (h : AH) (Q : Option Value → AH → Prop) : Wp d P_X_plan 16 [.ref r0, .int x1, .null] [.int s0] h Q ↔ (hK h r0 = 10) ∧ ((hK h (hR h r0 6) = 2) ∧ (Cl d q_Tp_clear [.ref (hR h (hR h r0 6) 0)] h (fun r h' => Wp d P_X_plan 21 [.ref r0, .int x1, .int s0] (r.toList ++ []) h' Q))) :=
    (r_go (j := 17) (L' := [.ref r0, .int x1, .int s0]) (S' := []) (h' := h) rfl rfl rfl rfl).trans <|
    (r_go (j := 18) (L' := [.ref r0, .int x1, .int s0]) (S' := [.ref r0]) (h' := h) rfl rfl rfl rfl).trans <|
    (r_guard (j := 19) (L' := [.ref r0, .int x1, .int s0]) (S' := [.ref (hR h r0 6)]) (h' := h) (p := hK h r0 = 10) rfl rfl rfl rfl (decide_eq_true_iff)).trans <| and_r <|
    (r_guard (j := 20) (L' := [.ref r0, .int x1, .int s0]) (S' := [.ref (hR h (hR h r0 6) 0)]) (h' := h) (p := hK h (hR h r0 6) = 2) rfl rfl rfl rfl (decide_eq_true_iff)).trans <| and_r <|
    r_call (j := 21) (a := [.ref (hR h (hR h r0 6) 0)]) (S' := []) rfl rfl rfl rfl rfl rfl rfl
theorem b_X_plan_21 {d : Nat} (x1 x2 : Int32) (r0 : Nat) (h : AH) (Q : Option Value → AH → Prop) : Wp d P_X_plan 21 [.ref r0, .int x1, .int x2] [] h Q ↔ (¬ x2 = 0 → Wp d P_X_plan 31 [.ref r0, .int x1, .int x2] [] h Q) ∧ (¬ (¬ x2 = 0) → Wp d P_X_plan 23 [.ref r0, .int x1, .int x2] [] h Q) :=
    (r_go (j := 22) (L' := [.ref r0, .int x1, .int x2]) (S' := [.int x2]) (h' := h) rfl rfl rfl rfl).trans <|
    r_if (j := 23) rfl (cd_ne _ _) rfl
theorem b_X_plan_23 {d : Nat} (x1 x2 : Int32) (r0 : Nat) (h : AH) (Q : Option Value → AH → Prop) : Wp d P_X_plan 23 [.ref r0, .int x1, .int x2] [] h Q ↔ (hK h r0 = 10) ∧ (((30 ≤ hK h (hR h r0 1) ∧ hK h (hR h r0 1) ≤ 41 ∧ hK h (hR h r0 1) ≠ 40) ∧ ixo x1 (hN h (hR h r0 1)) = true) ∧ ((hK h r0 = 10) ∧ ((hK h (hR h r0 6) = 2) ∧ (Cl d q_Pl_become [.ref (hR h (hR h r0 1) (Int32.toNatClampNeg x1)), .ref (hR h (hR h r0 6) 1)] h (fun r h' => Wp d P_X_plan 31 [.ref r0, .int x1, .int x2] (r.toList ++ []) h' Q))))) :=
    (r_go (j := 24) (L' := [.ref r0, .int x1, .int x2]) (S' := [.ref r0]) (h' := h) rfl rfl rfl rfl).trans <|
    (r_guard (j := 25) (L' := [.ref r0, .int x1, .int x2]) (S' := [.ref (hR h r0 1)]) (h' := h) (p := hK h r0 = 10) rfl rfl rfl rfl (decide_eq_true_iff)).trans <| and_r <|
    (r_go (j := 26) (L' := [.ref r0, .int x1, .int x2]) (S' := [.int x1, .ref (hR h r0 1)]) (h' := h) rfl rfl rfl rfl).trans <|
    (r_guard (j := 27) (L' := [.ref r0, .int x1, .int x2]) (S' := [.ref (hR h (hR h r0 1) (Int32.toNatClampNeg x1))]) (h' := h) (p := (30 ≤ hK h (hR h r0 1) ∧ hK h (hR h r0 1) ≤ 41 ∧ hK h (hR h r0 1) ≠ 40) ∧ ixo x1 (hN h (hR h r0 1)) = true) rfl rfl rfl rfl (and2 decide_eq_true_iff Iff.rfl)).trans <| and_r <|
    (r_go (j := 28) (L' := [.ref r0, .int x1, .int x2]) (S' := [.ref r0, .ref (hR h (hR h r0 1) (Int32.toNatClampNeg x1))]) (h' := h) rfl rfl rfl rfl).trans <|
    (r_guard (j := 29) (L' := [.ref r0, .int x1, .int x2]) (S' := [.ref (hR h r0 6), .ref (hR h (hR h r0 1) (Int32.toNatClampNeg x1))]) (h' := h) (p := hK h r0 = 10) rfl rfl rfl rfl (decide_eq_true_iff)).trans <| and_r <|
    (r_guard (j := 30) (L' := [.ref r0, .int x1, .int x2]) (S' := [.ref (hR h (hR h r0 6) 1), .ref (hR h (hR h r0 1) (Int32.toNatClampNeg x1))]) (h' := h) (p := hK h (hR h r0 6) = 2) rfl rfl rfl rfl (decide_eq_true_iff)).trans <| and_r <|
    r_call (j := 31) (a := [.ref (hR h (hR h r0 1) (Int32.toNatClampNeg x1)), .ref (hR h (hR h r0 6) 1)]) (S' := []) rfl rfl rfl rfl rfl rfl rfl
theorem b_X_plan_31 {d : Nat} (x1 x2 : Int32) (r0 : Nat) (h : AH) (Q : Option Value → AH → Prop) : Wp d P_X_plan 31 [.ref r0, .int x1, .int x2] [] h Q ↔ Q (some (.int x2)) h :=
    (r_go (j := 32) (L' := [.ref r0, .int x1, .int x2]) (S' := [.int x2]) (h' := h) rfl rfl rfl rfl).trans <|
    r_ret rfl rfl rfl
theorem e_X_plan {d : Nat} (x1 : Int32) (r0 : Nat) (h : AH) (Q : Option Value → AH → Prop) : Cl (d + 1) q_X_plan [.ref r0, .int x1] h Q ↔ hK h r0 = 10 ∧ Wp d P_X_plan 0 [.ref r0, .int x1, .null] [] h (fun r h' => rtk (some .int) r = true ∧ Q r h') :=
    (Cl_method (t := m_X_plan) rfl).trans (and_congr_left fun _ => decide_eq_true_iff)
/-! PenThatJumps.body()I -/
theorem b_X_body_0 {d : Nat} (r0 : Nat) (h : AH) (Q : Option Value → AH → Prop) : Wp d P_X_body 0 [.ref r0, .null] [] h Q ↔ (hK h r0 = 10) ∧ (Cl d q_Pa_readBody [.ref (hR h r0 6)] h (fun r h' => Wp d P_X_body 3 [.ref r0, .null] (r.toList ++ []) h' Q)) :=
    (r_go (j := 1) (L' := [.ref r0, .null]) (S' := [.ref r0]) (h' := h) rfl rfl rfl rfl).trans <|
    (r_guard (j := 2) (L' := [.ref r0, .null]) (S' := [.ref (hR h r0 6)]) (h' := h) (p := hK h r0 = 10) rfl rfl rfl rfl (decide_eq_true_iff)).trans <| and_r <|
    r_call (j := 3) (a := [.ref (hR h r0 6)]) (S' := []) rfl rfl rfl rfl rfl rfl rfl
theorem b_X_body_3 {d : Nat} (s0 : Int32) (r0 : Nat) (h : AH) (Q : Option Value → AH → Prop) : Wp d P_X_body 3 [.ref r0, .null] [.int s0] h Q ↔ (hK h r0 = 10) ∧ ((hK h (hR h r0 6) = 2) ∧ (Cl d q_Tp_clear [.ref (hR h (hR h r0 6) 0)] h (fun r h' => Wp d P_X_body 8 [.ref r0, .int s0] (r.toList ++ []) h' Q))) :=
    (r_go (j := 4) (L' := [.ref r0, .int s0]) (S' := []) (h' := h) rfl rfl rfl rfl).trans <|
    (r_go (j := 5) (L' := [.ref r0, .int s0]) (S' := [.ref r0]) (h' := h) rfl rfl rfl rfl).trans <|
    (r_guard (j := 6) (L' := [.ref r0, .int s0]) (S' := [.ref (hR h r0 6)]) (h' := h) (p := hK h r0 = 10) rfl rfl rfl rfl (decide_eq_true_iff)).trans <| and_r <|
    (r_guard (j := 7) (L' := [.ref r0, .int s0]) (S' := [.ref (hR h (hR h r0 6) 0)]) (h' := h) (p := hK h (hR h r0 6) = 2) rfl rfl rfl rfl (decide_eq_true_iff)).trans <| and_r <|
    r_call (j := 8) (a := [.ref (hR h (hR h r0 6) 0)]) (S' := []) rfl rfl rfl rfl rfl rfl rfl
theorem b_X_body_8 {d : Nat} (x1 : Int32) (r0 : Nat) (h : AH) (Q : Option Value → AH → Prop) : Wp d P_X_body 8 [.ref r0, .int x1] [] h Q ↔ (¬ x1 = 0 → Wp d P_X_body 17 [.ref r0, .int x1] [] h Q) ∧ (¬ (¬ x1 = 0) → Wp d P_X_body 10 [.ref r0, .int x1] [] h Q) :=
    (r_go (j := 9) (L' := [.ref r0, .int x1]) (S' := [.int x1]) (h' := h) rfl rfl rfl rfl).trans <|
    r_if (j := 10) rfl (cd_ne _ _) rfl
theorem b_X_body_10 {d : Nat} (x1 : Int32) (r0 : Nat) (h : AH) (Q : Option Value → AH → Prop) : Wp d P_X_body 10 [.ref r0, .int x1] [] h Q ↔ (hK h r0 = 10) ∧ ((hK h (hR h r0 7) = 0) ∧ ((hK h r0 = 10) ∧ ((hK h (hR h r0 6) = 2) ∧ (Cl d q_Pg_become [.ref (hR h (hR h r0 7) 0), .ref (hR h (hR h r0 6) 2)] h (fun r h' => Wp d P_X_body 17 [.ref r0, .int x1] (r.toList ++ []) h' Q))))) :=
    (r_go (j := 11) (L' := [.ref r0, .int x1]) (S' := [.ref r0]) (h' := h) rfl rfl rfl rfl).trans <|
    (r_guard (j := 12) (L' := [.ref r0, .int x1]) (S' := [.ref (hR h r0 7)]) (h' := h) (p := hK h r0 = 10) rfl rfl rfl rfl (decide_eq_true_iff)).trans <| and_r <|
    (r_guard (j := 13) (L' := [.ref r0, .int x1]) (S' := [.ref (hR h (hR h r0 7) 0)]) (h' := h) (p := hK h (hR h r0 7) = 0) rfl rfl rfl rfl (decide_eq_true_iff)).trans <| and_r <|
    (r_go (j := 14) (L' := [.ref r0, .int x1]) (S' := [.ref r0, .ref (hR h (hR h r0 7) 0)]) (h' := h) rfl rfl rfl rfl).trans <|
    (r_guard (j := 15) (L' := [.ref r0, .int x1]) (S' := [.ref (hR h r0 6), .ref (hR h (hR h r0 7) 0)]) (h' := h) (p := hK h r0 = 10) rfl rfl rfl rfl (decide_eq_true_iff)).trans <| and_r <|
    (r_guard (j := 16) (L' := [.ref r0, .int x1]) (S' := [.ref (hR h (hR h r0 6) 2), .ref (hR h (hR h r0 7) 0)]) (h' := h) (p := hK h (hR h r0 6) = 2) rfl rfl rfl rfl (decide_eq_true_iff)).trans <| and_r <|
    r_call (j := 17) (a := [.ref (hR h (hR h r0 7) 0), .ref (hR h (hR h r0 6) 2)]) (S' := []) rfl rfl rfl rfl rfl rfl rfl
theorem b_X_body_17 {d : Nat} (x1 : Int32) (r0 : Nat) (h : AH) (Q : Option Value → AH → Prop) : Wp d P_X_body 17 [.ref r0, .int x1] [] h Q ↔ Q (some (.int x1)) h :=
    (r_go (j := 18) (L' := [.ref r0, .int x1]) (S' := [.int x1]) (h' := h) rfl rfl rfl rfl).trans <|
    r_ret rfl rfl rfl
theorem e_X_body {d : Nat} (r0 : Nat) (h : AH) (Q : Option Value → AH → Prop) : Cl (d + 1) q_X_body [.ref r0] h Q ↔ hK h r0 = 10 ∧ Wp d P_X_body 0 [.ref r0, .null] [] h (fun r h' => rtk (some .int) r = true ∧ Q r h') :=
    (Cl_method (t := m_X_body) rfl).trans (and_congr_left fun _ => decide_eq_true_iff)
/-! PenThatJumps.reader(I)I -/
theorem b_X_reader_0 {d : Nat} (x1 : Int32) (r0 : Nat) (h : AH) (Q : Option Value → AH → Prop) : Wp d P_X_reader 0 [.ref r0, .int x1, .null] [] h Q ↔ (x1 < 0 → Wp d P_X_reader 7 [.ref r0, .int x1, .null] [] h Q) ∧ (¬ (x1 < 0) → Wp d P_X_reader 2 [.ref r0, .int x1, .null] [] h Q) :=
    (r_go (j := 1) (L' := [.ref r0, .int x1, .null]) (S' := [.int x1]) (h' := h) rfl rfl rfl rfl).trans <|
    r_if (j := 2) rfl (cd_lt _ _) rfl
theorem b_X_reader_2 {d : Nat} (x1 : Int32) (r0 : Nat) (h : AH) (Q : Option Value → AH → Prop) : Wp d P_X_reader 2 [.ref r0, .int x1, .null] [] h Q ↔ (hK h r0 = 10) ∧ ((20 ≤ hK h (hR h r0 2) ∧ hK h (hR h r0 2) ≠ 40 ∧ hK h (hR h r0 2) ≠ 42 ∧ hK h (hR h r0 2) ≤ 45 ∧ hK h (hR h r0 2) ≠ 43) ∧ ((x1 < (Int32.ofNat (hN h (hR h r0 2))) → Wp d P_X_reader 13 [.ref r0, .int x1, .null] [] h Q) ∧ (¬ (x1 < (Int32.ofNat (hN h (hR h r0 2)))) → Wp d P_X_reader 7 [.ref r0, .int x1, .null] [] h Q))) :=
    (r_go (j := 3) (L' := [.ref r0, .int x1, .null]) (S' := [.int x1]) (h' := h) rfl rfl rfl rfl).trans <|
    (r_go (j := 4) (L' := [.ref r0, .int x1, .null]) (S' := [.ref r0, .int x1]) (h' := h) rfl rfl rfl rfl).trans <|
    (r_guard (j := 5) (L' := [.ref r0, .int x1, .null]) (S' := [.ref (hR h r0 2), .int x1]) (h' := h) (p := hK h r0 = 10) rfl rfl rfl rfl (decide_eq_true_iff)).trans <| and_r <|
    (r_guard (j := 6) (L' := [.ref r0, .int x1, .null]) (S' := [.int (Int32.ofNat (hN h (hR h r0 2))), .int x1]) (h' := h) (p := 20 ≤ hK h (hR h r0 2) ∧ hK h (hR h r0 2) ≠ 40 ∧ hK h (hR h r0 2) ≠ 42 ∧ hK h (hR h r0 2) ≤ 45 ∧ hK h (hR h r0 2) ≠ 43) rfl rfl rfl rfl (decide_eq_true_iff)).trans <| and_r <|
    r_icmp (j := 7) rfl (cd_lt _ _) rfl
theorem b_X_reader_7 {d : Nat} (x1 : Int32) (r0 : Nat) (h : AH) (Q : Option Value → AH → Prop) : Wp d P_X_reader 7 [.ref r0, .int x1, .null] [] h Q ↔ (hK h r0 = 10) ∧ ((hK h (hR h r0 6) = 2) ∧ (Cl d q_Tp_clear [.ref (hR h (hR h r0 6) 0)] h (fun r h' => Wp d P_X_reader 11 [.ref r0, .int x1, .null] (r.toList ++ []) h' Q))) :=
    (r_go (j := 8) (L' := [.ref r0, .int x1, .null]) (S' := [.ref r0]) (h' := h) rfl rfl rfl rfl).trans <|
    (r_guard (j := 9) (L' := [.ref r0, .int x1, .null]) (S' := [.ref (hR h r0 6)]) (h' := h) (p := hK h r0 = 10) rfl rfl rfl rfl (decide_eq_true_iff)).trans <| and_r <|
    (r_guard (j := 10) (L' := [.ref r0, .int x1, .null]) (S' := [.ref (hR h (hR h r0 6) 0)]) (h' := h) (p := hK h (hR h r0 6) = 2) rfl rfl rfl rfl (decide_eq_true_iff)).trans <| and_r <|
    r_call (j := 11) (a := [.ref (hR h (hR h r0 6) 0)]) (S' := []) rfl rfl rfl rfl rfl rfl rfl
theorem b_X_reader_11 {d : Nat} (x1 : Int32) (r0 : Nat) (h : AH) (Q : Option Value → AH → Prop) : Wp d P_X_reader 11 [.ref r0, .int x1, .null] [] h Q ↔ Q (some (.int (-1))) h :=
    (r_iconst (j := 12) (x := (-1)) rfl i32_m1 rfl).trans <|
    r_ret rfl rfl rfl
theorem b_X_reader_13 {d : Nat} (x1 : Int32) (r0 : Nat) (h : AH) (Q : Option Value → AH → Prop) : Wp d P_X_reader 13 [.ref r0, .int x1, .null] [] h Q ↔ (hK h r0 = 10) ∧ (Cl d q_Pa_readReader [.ref (hR h r0 6)] h (fun r h' => Wp d P_X_reader 16 [.ref r0, .int x1, .null] (r.toList ++ []) h' Q)) :=
    (r_go (j := 14) (L' := [.ref r0, .int x1, .null]) (S' := [.ref r0]) (h' := h) rfl rfl rfl rfl).trans <|
    (r_guard (j := 15) (L' := [.ref r0, .int x1, .null]) (S' := [.ref (hR h r0 6)]) (h' := h) (p := hK h r0 = 10) rfl rfl rfl rfl (decide_eq_true_iff)).trans <| and_r <|
    r_call (j := 16) (a := [.ref (hR h r0 6)]) (S' := []) rfl rfl rfl rfl rfl rfl rfl
theorem b_X_reader_16 {d : Nat} (x1 s0 : Int32) (r0 : Nat) (h : AH) (Q : Option Value → AH → Prop) : Wp d P_X_reader 16 [.ref r0, .int x1, .null] [.int s0] h Q ↔ (hK h r0 = 10) ∧ ((hK h (hR h r0 6) = 2) ∧ (Cl d q_Tp_clear [.ref (hR h (hR h r0 6) 0)] h (fun r h' => Wp d P_X_reader 21 [.ref r0, .int x1, .int s0] (r.toList ++ []) h' Q))) :=
    (r_go (j := 17) (L' := [.ref r0, .int x1, .int s0]) (S' := []) (h' := h) rfl rfl rfl rfl).trans <|
    (r_go (j := 18) (L' := [.ref r0, .int x1, .int s0]) (S' := [.ref r0]) (h' := h) rfl rfl rfl rfl).trans <|
    (r_guard (j := 19) (L' := [.ref r0, .int x1, .int s0]) (S' := [.ref (hR h r0 6)]) (h' := h) (p := hK h r0 = 10) rfl rfl rfl rfl (decide_eq_true_iff)).trans <| and_r <|
    (r_guard (j := 20) (L' := [.ref r0, .int x1, .int s0]) (S' := [.ref (hR h (hR h r0 6) 0)]) (h' := h) (p := hK h (hR h r0 6) = 2) rfl rfl rfl rfl (decide_eq_true_iff)).trans <| and_r <|
    r_call (j := 21) (a := [.ref (hR h (hR h r0 6) 0)]) (S' := []) rfl rfl rfl rfl rfl rfl rfl
theorem b_X_reader_21 {d : Nat} (x1 x2 : Int32) (r0 : Nat) (h : AH) (Q : Option Value → AH → Prop) : Wp d P_X_reader 21 [.ref r0, .int x1, .int x2] [] h Q ↔ (¬ x2 = 0 → Wp d P_X_reader 31 [.ref r0, .int x1, .int x2] [] h Q) ∧ (¬ (¬ x2 = 0) → Wp d P_X_reader 23 [.ref r0, .int x1, .int x2] [] h Q) :=
    (r_go (j := 22) (L' := [.ref r0, .int x1, .int x2]) (S' := [.int x2]) (h' := h) rfl rfl rfl rfl).trans <|
    r_if (j := 23) rfl (cd_ne _ _) rfl
theorem b_X_reader_23 {d : Nat} (x1 x2 : Int32) (r0 : Nat) (h : AH) (Q : Option Value → AH → Prop) : Wp d P_X_reader 23 [.ref r0, .int x1, .int x2] [] h Q ↔ (hK h r0 = 10) ∧ (((30 ≤ hK h (hR h r0 2) ∧ hK h (hR h r0 2) ≤ 41 ∧ hK h (hR h r0 2) ≠ 40) ∧ ixo x1 (hN h (hR h r0 2)) = true) ∧ ((hK h r0 = 10) ∧ ((hK h (hR h r0 6) = 2) ∧ (Cl d q_Pg_become [.ref (hR h (hR h r0 2) (Int32.toNatClampNeg x1)), .ref (hR h (hR h r0 6) 2)] h (fun r h' => Wp d P_X_reader 31 [.ref r0, .int x1, .int x2] (r.toList ++ []) h' Q))))) :=
    (r_go (j := 24) (L' := [.ref r0, .int x1, .int x2]) (S' := [.ref r0]) (h' := h) rfl rfl rfl rfl).trans <|
    (r_guard (j := 25) (L' := [.ref r0, .int x1, .int x2]) (S' := [.ref (hR h r0 2)]) (h' := h) (p := hK h r0 = 10) rfl rfl rfl rfl (decide_eq_true_iff)).trans <| and_r <|
    (r_go (j := 26) (L' := [.ref r0, .int x1, .int x2]) (S' := [.int x1, .ref (hR h r0 2)]) (h' := h) rfl rfl rfl rfl).trans <|
    (r_guard (j := 27) (L' := [.ref r0, .int x1, .int x2]) (S' := [.ref (hR h (hR h r0 2) (Int32.toNatClampNeg x1))]) (h' := h) (p := (30 ≤ hK h (hR h r0 2) ∧ hK h (hR h r0 2) ≤ 41 ∧ hK h (hR h r0 2) ≠ 40) ∧ ixo x1 (hN h (hR h r0 2)) = true) rfl rfl rfl rfl (and2 decide_eq_true_iff Iff.rfl)).trans <| and_r <|
    (r_go (j := 28) (L' := [.ref r0, .int x1, .int x2]) (S' := [.ref r0, .ref (hR h (hR h r0 2) (Int32.toNatClampNeg x1))]) (h' := h) rfl rfl rfl rfl).trans <|
    (r_guard (j := 29) (L' := [.ref r0, .int x1, .int x2]) (S' := [.ref (hR h r0 6), .ref (hR h (hR h r0 2) (Int32.toNatClampNeg x1))]) (h' := h) (p := hK h r0 = 10) rfl rfl rfl rfl (decide_eq_true_iff)).trans <| and_r <|
    (r_guard (j := 30) (L' := [.ref r0, .int x1, .int x2]) (S' := [.ref (hR h (hR h r0 6) 2), .ref (hR h (hR h r0 2) (Int32.toNatClampNeg x1))]) (h' := h) (p := hK h (hR h r0 6) = 2) rfl rfl rfl rfl (decide_eq_true_iff)).trans <| and_r <|
    r_call (j := 31) (a := [.ref (hR h (hR h r0 2) (Int32.toNatClampNeg x1)), .ref (hR h (hR h r0 6) 2)]) (S' := []) rfl rfl rfl rfl rfl rfl rfl
theorem b_X_reader_31 {d : Nat} (x1 x2 : Int32) (r0 : Nat) (h : AH) (Q : Option Value → AH → Prop) : Wp d P_X_reader 31 [.ref r0, .int x1, .int x2] [] h Q ↔ Q (some (.int x2)) h :=
    (r_go (j := 32) (L' := [.ref r0, .int x1, .int x2]) (S' := [.int x2]) (h' := h) rfl rfl rfl rfl).trans <|
    r_ret rfl rfl rfl
theorem e_X_reader {d : Nat} (x1 : Int32) (r0 : Nat) (h : AH) (Q : Option Value → AH → Prop) : Cl (d + 1) q_X_reader [.ref r0, .int x1] h Q ↔ hK h r0 = 10 ∧ Wp d P_X_reader 0 [.ref r0, .int x1, .null] [] h (fun r h' => rtk (some .int) r = true ∧ Q r h') :=
    (Cl_method (t := m_X_reader) rfl).trans (and_congr_left fun _ => decide_eq_true_iff)
/-! PenThatJumps.question(III)I -/
theorem b_X_question_0 {d : Nat} (x1 x2 x3 : Int32) (r0 : Nat) (h : AH) (Q : Option Value → AH → Prop) : Wp d P_X_question 0 [.ref r0, .int x1, .int x2, .int x3, .null] [] h Q ↔ Cl d q_X_toldPlan [.ref r0, .int x1] h (fun r h' => Wp d P_X_question 3 [.ref r0, .int x1, .int x2, .int x3, .null] (r.toList ++ []) h' Q) :=
    (r_go (j := 1) (L' := [.ref r0, .int x1, .int x2, .int x3, .null]) (S' := [.ref r0]) (h' := h) rfl rfl rfl rfl).trans <|
    (r_go (j := 2) (L' := [.ref r0, .int x1, .int x2, .int x3, .null]) (S' := [.int x1, .ref r0]) (h' := h) rfl rfl rfl rfl).trans <|
    r_call (j := 3) (a := [.ref r0, .int x1]) (S' := []) rfl rfl rfl rfl rfl rfl rfl
theorem b_X_question_3 {d : Nat} (x1 x2 x3 : Int32) (r0 t0 : Nat) (h : AH) (Q : Option Value → AH → Prop) : Wp d P_X_question 3 [.ref r0, .int x1, .int x2, .int x3, .null] [.ref t0] h Q ↔ (t0 = 0 ∨ 100 ≤ t0) ∧ (t0 = 0 → Wp d P_X_question 6 [.ref r0, .int x1, .int x2, .int x3, .ref t0] [] h Q) ∧ (¬ (t0 = 0) → Wp d P_X_question 8 [.ref r0, .int x1, .int x2, .int x3, .ref t0] [] h Q) :=
    (r_go (j := 4) (L' := [.ref r0, .int x1, .int x2, .int x3, .ref t0]) (S' := []) (h' := h) rfl rfl rfl rfl).trans <|
    (r_go (j := 5) (L' := [.ref r0, .int x1, .int x2, .int x3, .ref t0]) (S' := [.ref t0]) (h' := h) rfl rfl rfl rfl).trans <|
    r_nonnull (j := 6) rfl rfl
theorem b_X_question_6 {d : Nat} (x1 x2 x3 : Int32) (r0 r4 : Nat) (h : AH) (Q : Option Value → AH → Prop) : Wp d P_X_question 6 [.ref r0, .int x1, .int x2, .int x3, .ref r4] [] h Q ↔ Q (some (.int (-1))) h :=
    (r_iconst (j := 7) (x := (-1)) rfl i32_m1 rfl).trans <|
    r_ret rfl rfl rfl
theorem b_X_question_8 {d : Nat} (x1 x2 x3 : Int32) (r0 r4 : Nat) (h : AH) (Q : Option Value → AH → Prop) : Wp d P_X_question 8 [.ref r0, .int x1, .int x2, .int x3, .ref r4] [] h Q ↔ (Int32.toInt x3 < 0 ∨ 0 + (List.length [10, 14, 18] : Nat) ≤ Int32.toInt x3 → Wp d P_X_question 22 [.ref r0, .int x1, .int x2, .int x3, .ref r4] [] h Q) ∧ (¬ (Int32.toInt x3 < 0 ∨ 0 + (List.length [10, 14, 18] : Nat) ≤ Int32.toInt x3) → Wp d P_X_question (List.getD [10, 14, 18] (Int32.toInt x3 - 0).toNat 0) [.ref r0, .int x1, .int x2, .int x3, .ref r4] [] h Q) :=
    (r_go (j := 9) (L' := [.ref r0, .int x1, .int x2, .int x3, .ref r4]) (S' := [.int x3]) (h' := h) rfl rfl rfl rfl).trans <|
    r_tsw rfl
theorem b_X_question_10 {d : Nat} (x1 x2 x3 : Int32) (r0 r4 : Nat) (h : AH) (Q : Option Value → AH → Prop) : Wp d P_X_question 10 [.ref r0, .int x1, .int x2, .int x3, .ref r4] [] h Q ↔ Cl d q_Pl_kindAt [.ref r4, .int x2] h (fun r h' => Wp d P_X_question 13 [.ref r0, .int x1, .int x2, .int x3, .ref r4] (r.toList ++ []) h' Q) :=
    (r_go (j := 11) (L' := [.ref r0, .int x1, .int x2, .int x3, .ref r4]) (S' := [.ref r4]) (h' := h) rfl rfl rfl rfl).trans <|
    (r_go (j := 12) (L' := [.ref r0, .int x1, .int x2, .int x3, .ref r4]) (S' := [.int x2, .ref r4]) (h' := h) rfl rfl rfl rfl).trans <|
    r_call (j := 13) (a := [.ref r4, .int x2]) (S' := []) rfl rfl rfl rfl rfl rfl rfl
theorem b_X_question_13 {d : Nat} (x1 x2 x3 s0 : Int32) (r0 r4 : Nat) (h : AH) (Q : Option Value → AH → Prop) : Wp d P_X_question 13 [.ref r0, .int x1, .int x2, .int x3, .ref r4] [.int s0] h Q ↔ Q (some (.int s0)) h :=
    r_ret rfl rfl rfl
theorem b_X_question_14 {d : Nat} (x1 x2 x3 : Int32) (r0 r4 : Nat) (h : AH) (Q : Option Value → AH → Prop) : Wp d P_X_question 14 [.ref r0, .int x1, .int x2, .int x3, .ref r4] [] h Q ↔ Cl d q_Pl_itemAt [.ref r4, .int x2] h (fun r h' => Wp d P_X_question 17 [.ref r0, .int x1, .int x2, .int x3, .ref r4] (r.toList ++ []) h' Q) :=
    (r_go (j := 15) (L' := [.ref r0, .int x1, .int x2, .int x3, .ref r4]) (S' := [.ref r4]) (h' := h) rfl rfl rfl rfl).trans <|
    (r_go (j := 16) (L' := [.ref r0, .int x1, .int x2, .int x3, .ref r4]) (S' := [.int x2, .ref r4]) (h' := h) rfl rfl rfl rfl).trans <|
    r_call (j := 17) (a := [.ref r4, .int x2]) (S' := []) rfl rfl rfl rfl rfl rfl rfl
theorem b_X_question_17 {d : Nat} (x1 x2 x3 s0 : Int32) (r0 r4 : Nat) (h : AH) (Q : Option Value → AH → Prop) : Wp d P_X_question 17 [.ref r0, .int x1, .int x2, .int x3, .ref r4] [.int s0] h Q ↔ Q (some (.int s0)) h :=
    r_ret rfl rfl rfl
theorem b_X_question_18 {d : Nat} (x1 x2 x3 : Int32) (r0 r4 : Nat) (h : AH) (Q : Option Value → AH → Prop) : Wp d P_X_question 18 [.ref r0, .int x1, .int x2, .int x3, .ref r4] [] h Q ↔ Cl d q_Pl_minutesAt [.ref r4, .int x2] h (fun r h' => Wp d P_X_question 21 [.ref r0, .int x1, .int x2, .int x3, .ref r4] (r.toList ++ []) h' Q) :=
    (r_go (j := 19) (L' := [.ref r0, .int x1, .int x2, .int x3, .ref r4]) (S' := [.ref r4]) (h' := h) rfl rfl rfl rfl).trans <|
    (r_go (j := 20) (L' := [.ref r0, .int x1, .int x2, .int x3, .ref r4]) (S' := [.int x2, .ref r4]) (h' := h) rfl rfl rfl rfl).trans <|
    r_call (j := 21) (a := [.ref r4, .int x2]) (S' := []) rfl rfl rfl rfl rfl rfl rfl
theorem b_X_question_21 {d : Nat} (x1 x2 x3 s0 : Int32) (r0 r4 : Nat) (h : AH) (Q : Option Value → AH → Prop) : Wp d P_X_question 21 [.ref r0, .int x1, .int x2, .int x3, .ref r4] [.int s0] h Q ↔ Q (some (.int s0)) h :=
    r_ret rfl rfl rfl
theorem b_X_question_22 {d : Nat} (x1 x2 x3 : Int32) (r0 r4 : Nat) (h : AH) (Q : Option Value → AH → Prop) : Wp d P_X_question 22 [.ref r0, .int x1, .int x2, .int x3, .ref r4] [] h Q ↔ Q (some (.int (-1))) h :=
    (r_iconst (j := 23) (x := (-1)) rfl i32_m1 rfl).trans <|
    r_ret rfl rfl rfl
theorem e_X_question {d : Nat} (x1 x2 x3 : Int32) (r0 : Nat) (h : AH) (Q : Option Value → AH → Prop) : Cl (d + 1) q_X_question [.ref r0, .int x1, .int x2, .int x3] h Q ↔ hK h r0 = 10 ∧ Wp d P_X_question 0 [.ref r0, .int x1, .int x2, .int x3, .null] [] h (fun r h' => rtk (some .int) r = true ∧ Q r h') :=
    (Cl_method (t := m_X_question) rfl).trans (and_congr_left fun _ => decide_eq_true_iff)
/-! PenThatJumps.sit(III)I -/
theorem b_X_sit_0 {d : Nat} (x1 x2 x3 : Int32) (r0 : Nat) (h : AH) (Q : Option Value → AH → Prop) : Wp d P_X_sit 0 [.ref r0, .int x1, .int x2, .int x3, .null, .null, .null] [] h Q ↔ Cl d q_X_toldPerson [.ref r0, .int x1] h (fun r h' => Wp d P_X_sit 3 [.ref r0, .int x1, .int x2, .int x3, .null, .null, .null] (r.toList ++ []) h' Q) :=
    (r_go (j := 1) (L' := [.ref r0, .int x1, .int x2, .int x3, .null, .null, .null]) (S' := [.ref r0]) (h' := h) rfl rfl rfl rfl).trans <|
    (r_go (j := 2) (L' := [.ref r0, .int x1, .int x2, .int x3, .null, .null, .null]) (S' := [.int x1, .ref r0]) (h' := h) rfl rfl rfl rfl).trans <|
    r_call (j := 3) (a := [.ref r0, .int x1]) (S' := []) rfl rfl rfl rfl rfl rfl rfl
theorem b_X_sit_3 {d : Nat} (x1 x2 x3 : Int32) (r0 t0 : Nat) (h : AH) (Q : Option Value → AH → Prop) : Wp d P_X_sit 3 [.ref r0, .int x1, .int x2, .int x3, .null, .null, .null] [.ref t0] h Q ↔ Cl d q_X_toldPlan [.ref r0, .int x2] h (fun r h' => Wp d P_X_sit 7 [.ref r0, .int x1, .int x2, .int x3, .ref t0, .null, .null] (r.toList ++ []) h' Q) :=
    (r_go (j := 4) (L' := [.ref r0, .int x1, .int x2, .int x3, .ref t0, .null, .null]) (S' := []) (h' := h) rfl rfl rfl rfl).trans <|
    (r_go (j := 5) (L' := [.ref r0, .int x1, .int x2, .int x3, .ref t0, .null, .null]) (S' := [.ref r0]) (h' := h) rfl rfl rfl rfl).trans <|
    (r_go (j := 6) (L' := [.ref r0, .int x1, .int x2, .int x3, .ref t0, .null, .null]) (S' := [.int x2, .ref r0]) (h' := h) rfl rfl rfl rfl).trans <|
    r_call (j := 7) (a := [.ref r0, .int x2]) (S' := []) rfl rfl rfl rfl rfl rfl rfl
theorem b_X_sit_7 {d : Nat} (x1 x2 x3 : Int32) (r0 r4 t0 : Nat) (h : AH) (Q : Option Value → AH → Prop) : Wp d P_X_sit 7 [.ref r0, .int x1, .int x2, .int x3, .ref r4, .null, .null] [.ref t0] h Q ↔ (r4 = 0 ∨ 100 ≤ r4) ∧ (r4 = 0 → Wp d P_X_sit 17 [.ref r0, .int x1, .int x2, .int x3, .ref r4, .ref t0, .null] [] h Q) ∧ (¬ (r4 = 0) → Wp d P_X_sit 10 [.ref r0, .int x1, .int x2, .int x3, .ref r4, .ref t0, .null] [] h Q) :=
    (r_go (j := 8) (L' := [.ref r0, .int x1, .int x2, .int x3, .ref r4, .ref t0, .null]) (S' := []) (h' := h) rfl rfl rfl rfl).trans <|
    (r_go (j := 9) (L' := [.ref r0, .int x1, .int x2, .int x3, .ref r4, .ref t0, .null]) (S' := [.ref r4]) (h' := h) rfl rfl rfl rfl).trans <|
    r_null (j := 10) rfl rfl
theorem b_X_sit_10 {d : Nat} (x1 x2 x3 : Int32) (r0 r4 r5 : Nat) (h : AH) (Q : Option Value → AH → Prop) : Wp d P_X_sit 10 [.ref r0, .int x1, .int x2, .int x3, .ref r4, .ref r5, .null] [] h Q ↔ (r5 = 0 ∨ 100 ≤ r5) ∧ (r5 = 0 → Wp d P_X_sit 17 [.ref r0, .int x1, .int x2, .int x3, .ref r4, .ref r5, .null] [] h Q) ∧ (¬ (r5 = 0) → Wp d P_X_sit 12 [.ref r0, .int x1, .int x2, .int x3, .ref r4, .ref r5, .null] [] h Q) :=
    (r_go (j := 11) (L' := [.ref r0, .int x1, .int x2, .int x3, .ref r4, .ref r5, .null]) (S' := [.ref r5]) (h' := h) rfl rfl rfl rfl).trans <|
    r_null (j := 12) rfl rfl
theorem b_X_sit_12 {d : Nat} (x1 x2 x3 : Int32) (r0 r4 r5 : Nat) (h : AH) (Q : Option Value → AH → Prop) : Wp d P_X_sit 12 [.ref r0, .int x1, .int x2, .int x3, .ref r4, .ref r5, .null] [] h Q ↔ Cl d q_X_within [.int x3, .int 0, .int 9999] h (fun r h' => Wp d P_X_sit 16 [.ref r0, .int x1, .int x2, .int x3, .ref r4, .ref r5, .null] (r.toList ++ []) h' Q) :=
    (r_go (j := 13) (L' := [.ref r0, .int x1, .int x2, .int x3, .ref r4, .ref r5, .null]) (S' := [.int x3]) (h' := h) rfl rfl rfl rfl).trans <|
    (r_iconst (j := 14) (x := 0) rfl i32_0 rfl).trans <|
    (r_sipush (j := 15) (x := 9999) rfl i32_9999 rfl).trans <|
    r_call (j := 16) (a := [.int x3, .int 0, .int 9999]) (S' := []) rfl rfl rfl rfl rfl rfl rfl
theorem b_X_sit_16 {d : Nat} (x1 x2 x3 s0 : Int32) (r0 r4 r5 : Nat) (h : AH) (Q : Option Value → AH → Prop) : Wp d P_X_sit 16 [.ref r0, .int x1, .int x2, .int x3, .ref r4, .ref r5, .null] [.int s0] h Q ↔ (¬ s0 = 0 → Wp d P_X_sit 19 [.ref r0, .int x1, .int x2, .int x3, .ref r4, .ref r5, .null] [] h Q) ∧ (¬ (¬ s0 = 0) → Wp d P_X_sit 17 [.ref r0, .int x1, .int x2, .int x3, .ref r4, .ref r5, .null] [] h Q) :=
    r_if (j := 17) rfl (cd_ne _ _) rfl
theorem b_X_sit_17 {d : Nat} (x1 x2 x3 : Int32) (r0 r4 r5 : Nat) (h : AH) (Q : Option Value → AH → Prop) : Wp d P_X_sit 17 [.ref r0, .int x1, .int x2, .int x3, .ref r4, .ref r5, .null] [] h Q ↔ Q (some (.int (-1))) h :=
    (r_iconst (j := 18) (x := (-1)) rfl i32_m1 rfl).trans <|
    r_ret rfl rfl rfl
theorem b_X_sit_19 {d : Nat} (x1 x2 x3 : Int32) (r0 r4 r5 : Nat) (h : AH) (Q : Option Value → AH → Prop) : Wp d P_X_sit 19 [.ref r0, .int x1, .int x2, .int x3, .ref r4, .ref r5, .null] [] h Q ↔ (hK h r0 = 10) ∧ ((hK h (hR h r0 4) = 8) ∧ (((hI h (hR h r0 4) 1) < 0 → Wp d P_X_sit 30 [.ref r0, .int x1, .int x2, .int x3, .ref r4, .ref r5, .int (hI h (hR h r0 4) 1)] [] h Q) ∧ (¬ ((hI h (hR h r0 4) 1) < 0) → Wp d P_X_sit 25 [.ref r0, .int x1, .int x2, .int x3, .ref r4, .ref r5, .int (hI h (hR h r0 4) 1)] [] h Q))) :=
    (r_go (j := 20) (L' := [.ref r0, .int x1, .int x2, .int x3, .ref r4, .ref r5, .null]) (S' := [.ref r0]) (h' := h) rfl rfl rfl rfl).trans <|
    (r_guard (j := 21) (L' := [.ref r0, .int x1, .int x2, .int x3, .ref r4, .ref r5, .null]) (S' := [.ref (hR h r0 4)]) (h' := h) (p := hK h r0 = 10) rfl rfl rfl rfl (decide_eq_true_iff)).trans <| and_r <|
    (r_guard (j := 22) (L' := [.ref r0, .int x1, .int x2, .int x3, .ref r4, .ref r5, .null]) (S' := [.int (hI h (hR h r0 4) 1)]) (h' := h) (p := hK h (hR h r0 4) = 8) rfl rfl rfl rfl (decide_eq_true_iff)).trans <| and_r <|
    (r_go (j := 23) (L' := [.ref r0, .int x1, .int x2, .int x3, .ref r4, .ref r5, .int (hI h (hR h r0 4) 1)]) (S' := []) (h' := h) rfl rfl rfl rfl).trans <|
    (r_go (j := 24) (L' := [.ref r0, .int x1, .int x2, .int x3, .ref r4, .ref r5, .int (hI h (hR h r0 4) 1)]) (S' := [.int (hI h (hR h r0 4) 1)]) (h' := h) rfl rfl rfl rfl).trans <|
    r_if (j := 25) rfl (cd_lt _ _) rfl
theorem b_X_sit_25 {d : Nat} (x1 x2 x3 x6 : Int32) (r0 r4 r5 : Nat) (h : AH) (Q : Option Value → AH → Prop) : Wp d P_X_sit 25 [.ref r0, .int x1, .int x2, .int x3, .ref r4, .ref r5, .int x6] [] h Q ↔ (hK h r0 = 10) ∧ ((20 ≤ hK h (hR h r0 3) ∧ hK h (hR h r0 3) ≠ 40 ∧ hK h (hR h r0 3) ≠ 42 ∧ hK h (hR h r0 3) ≤ 45 ∧ hK h (hR h r0 3) ≠ 43) ∧ ((x6 < (Int32.ofNat (hN h (hR h r0 3))) → Wp d P_X_sit 32 [.ref r0, .int x1, .int x2, .int x3, .ref r4, .ref r5, .int x6] [] h Q) ∧ (¬ (x6 < (Int32.ofNat (hN h (hR h r0 3)))) → Wp d P_X_sit 30 [.ref r0, .int x1, .int x2, .int x3, .ref r4, .ref r5, .int x6] [] h Q))) :=
    (r_go (j := 26) (L' := [.ref r0, .int x1, .int x2, .int x3, .ref r4, .ref r5, .int x6]) (S' := [.int x6]) (h' := h) rfl rfl rfl rfl).trans <|
    (r_go (j := 27) (L' := [.ref r0, .int x1, .int x2, .int x3, .ref r4, .ref r5, .int x6]) (S' := [.ref r0, .int x6]) (h' := h) rfl rfl rfl rfl).trans <|
    (r_guard (j := 28) (L' := [.ref r0, .int x1, .int x2, .int x3, .ref r4, .ref r5, .int x6]) (S' := [.ref (hR h r0 3), .int x6]) (h' := h) (p := hK h r0 = 10) rfl rfl rfl rfl (decide_eq_true_iff)).trans <| and_r <|
    (r_guard (j := 29) (L' := [.ref r0, .int x1, .int x2, .int x3, .ref r4, .ref r5, .int x6]) (S' := [.int (Int32.ofNat (hN h (hR h r0 3))), .int x6]) (h' := h) (p := 20 ≤ hK h (hR h r0 3) ∧ hK h (hR h r0 3) ≠ 40 ∧ hK h (hR h r0 3) ≠ 42 ∧ hK h (hR h r0 3) ≤ 45 ∧ hK h (hR h r0 3) ≠ 43) rfl rfl rfl rfl (decide_eq_true_iff)).trans <| and_r <|
    r_icmp (j := 30) rfl (cd_lt _ _) rfl
theorem b_X_sit_30 {d : Nat} (x1 x2 x3 x6 : Int32) (r0 r4 r5 : Nat) (h : AH) (Q : Option Value → AH → Prop) : Wp d P_X_sit 30 [.ref r0, .int x1, .int x2, .int x3, .ref r4, .ref r5, .int x6] [] h Q ↔ Q (some (.int (-1))) h :=
    (r_iconst (j := 31) (x := (-1)) rfl i32_m1 rfl).trans <|
    r_ret rfl rfl rfl
theorem b_X_sit_32 {d : Nat} (x1 x2 x3 x6 : Int32) (r0 r4 r5 : Nat) (h : AH) (Q : Option Value → AH → Prop) : Wp d P_X_sit 32 [.ref r0, .int x1, .int x2, .int x3, .ref r4, .ref r5, .int x6] [] h Q ↔ (hK h r0 = 10) ∧ ((hK h r0 = 10) ∧ (Cl d q_Ch_fill [.ref (hR h r0 7), .ref r4, .ref r5, .ref (hR h r0 13)] h (fun r h' => Wp d P_X_sit 39 [.ref r0, .int x1, .int x2, .int x3, .ref r4, .ref r5, .int x6] (r.toList ++ []) h' Q))) :=
    (r_go (j := 33) (L' := [.ref r0, .int x1, .int x2, .int x3, .ref r4, .ref r5, .int x6]) (S' := [.ref r0]) (h' := h) rfl rfl rfl rfl).trans <|
    (r_guard (j := 34) (L' := [.ref r0, .int x1, .int x2, .int x3, .ref r4, .ref r5, .int x6]) (S' := [.ref (hR h r0 7)]) (h' := h) (p := hK h r0 = 10) rfl rfl rfl rfl (decide_eq_true_iff)).trans <| and_r <|
    (r_go (j := 35) (L' := [.ref r0, .int x1, .int x2, .int x3, .ref r4, .ref r5, .int x6]) (S' := [.ref r4, .ref (hR h r0 7)]) (h' := h) rfl rfl rfl rfl).trans <|
    (r_go (j := 36) (L' := [.ref r0, .int x1, .int x2, .int x3, .ref r4, .ref r5, .int x6]) (S' := [.ref r5, .ref r4, .ref (hR h r0 7)]) (h' := h) rfl rfl rfl rfl).trans <|
    (r_go (j := 37) (L' := [.ref r0, .int x1, .int x2, .int x3, .ref r4, .ref r5, .int x6]) (S' := [.ref r0, .ref r5, .ref r4, .ref (hR h r0 7)]) (h' := h) rfl rfl rfl rfl).trans <|
    (r_guard (j := 38) (L' := [.ref r0, .int x1, .int x2, .int x3, .ref r4, .ref r5, .int x6]) (S' := [.ref (hR h r0 13), .ref r5, .ref r4, .ref (hR h r0 7)]) (h' := h) (p := hK h r0 = 10) rfl rfl rfl rfl (decide_eq_true_iff)).trans <| and_r <|
    r_call (j := 39) (a := [.ref (hR h r0 7), .ref r4, .ref r5, .ref (hR h r0 13)]) (S' := []) rfl rfl rfl rfl rfl rfl rfl
theorem b_X_sit_39 {d : Nat} (x1 x2 x3 x6 : Int32) (r0 r4 r5 : Nat) (h : AH) (Q : Option Value → AH → Prop) : Wp d P_X_sit 39 [.ref r0, .int x1, .int x2, .int x3, .ref r4, .ref r5, .int x6] [] h Q ↔ (hK h r0 = 10) ∧ (((30 ≤ hK h (hR h r0 3) ∧ hK h (hR h r0 3) ≤ 41 ∧ hK h (hR h r0 3) ≠ 40) ∧ ixo x6 (hN h (hR h r0 3)) = true) ∧ ((hK h r0 = 10) ∧ ((hK h (hR h r0 7) = 0) ∧ (Cl d q_Si_begin [.ref (hR h (hR h r0 3) (Int32.toNatClampNeg x6)), .ref r5, .int (hI h (hR h r0 7) 3)] h (fun r h' => Wp d P_X_sit 48 [.ref r0, .int x1, .int x2, .int x3, .ref r4, .ref r5, .int x6] (r.toList ++ []) h' Q))))) :=
    (r_go (j := 40) (L' := [.ref r0, .int x1, .int x2, .int x3, .ref r4, .ref r5, .int x6]) (S' := [.ref r0]) (h' := h) rfl rfl rfl rfl).trans <|
    (r_guard (j := 41) (L' := [.ref r0, .int x1, .int x2, .int x3, .ref r4, .ref r5, .int x6]) (S' := [.ref (hR h r0 3)]) (h' := h) (p := hK h r0 = 10) rfl rfl rfl rfl (decide_eq_true_iff)).trans <| and_r <|
    (r_go (j := 42) (L' := [.ref r0, .int x1, .int x2, .int x3, .ref r4, .ref r5, .int x6]) (S' := [.int x6, .ref (hR h r0 3)]) (h' := h) rfl rfl rfl rfl).trans <|
    (r_guard (j := 43) (L' := [.ref r0, .int x1, .int x2, .int x3, .ref r4, .ref r5, .int x6]) (S' := [.ref (hR h (hR h r0 3) (Int32.toNatClampNeg x6))]) (h' := h) (p := (30 ≤ hK h (hR h r0 3) ∧ hK h (hR h r0 3) ≤ 41 ∧ hK h (hR h r0 3) ≠ 40) ∧ ixo x6 (hN h (hR h r0 3)) = true) rfl rfl rfl rfl (and2 decide_eq_true_iff Iff.rfl)).trans <| and_r <|
    (r_go (j := 44) (L' := [.ref r0, .int x1, .int x2, .int x3, .ref r4, .ref r5, .int x6]) (S' := [.ref r5, .ref (hR h (hR h r0 3) (Int32.toNatClampNeg x6))]) (h' := h) rfl rfl rfl rfl).trans <|
    (r_go (j := 45) (L' := [.ref r0, .int x1, .int x2, .int x3, .ref r4, .ref r5, .int x6]) (S' := [.ref r0, .ref r5, .ref (hR h (hR h r0 3) (Int32.toNatClampNeg x6))]) (h' := h) rfl rfl rfl rfl).trans <|
    (r_guard (j := 46) (L' := [.ref r0, .int x1, .int x2, .int x3, .ref r4, .ref r5, .int x6]) (S' := [.ref (hR h r0 7), .ref r5, .ref (hR h (hR h r0 3) (Int32.toNatClampNeg x6))]) (h' := h) (p := hK h r0 = 10) rfl rfl rfl rfl (decide_eq_true_iff)).trans <| and_r <|
    (r_guard (j := 47) (L' := [.ref r0, .int x1, .int x2, .int x3, .ref r4, .ref r5, .int x6]) (S' := [.int (hI h (hR h r0 7) 3), .ref r5, .ref (hR h (hR h r0 3) (Int32.toNatClampNeg x6))]) (h' := h) (p := hK h (hR h r0 7) = 0) rfl rfl rfl rfl (decide_eq_true_iff)).trans <| and_r <|
    r_call (j := 48) (a := [.ref (hR h (hR h r0 3) (Int32.toNatClampNeg x6)), .ref r5, .int (hI h (hR h r0 7) 3)]) (S' := []) rfl rfl rfl rfl rfl rfl rfl
theorem b_X_sit_48 {d : Nat} (x1 x2 x3 x6 : Int32) (r0 r4 r5 : Nat) (h : AH) (Q : Option Value → AH → Prop) : Wp d P_X_sit 48 [.ref r0, .int x1, .int x2, .int x3, .ref r4, .ref r5, .int x6] [] h Q ↔ (hK h r0 = 10) ∧ (((30 ≤ hK h (hR h r0 3) ∧ hK h (hR h r0 3) ≤ 41 ∧ hK h (hR h r0 3) ≠ 40) ∧ ixo x6 (hN h (hR h r0 3)) = true) ∧ ((hK h r0 = 10) ∧ (Cl d q_Si_draw [.ref (hR h (hR h r0 3) (Int32.toNatClampNeg x6)), .int x3, .ref (hR h r0 13)] h (fun r h' => Wp d P_X_sit 56 [.ref r0, .int x1, .int x2, .int x3, .ref r4, .ref r5, .int x6] (r.toList ++ []) h' Q)))) :=
    (r_go (j := 49) (L' := [.ref r0, .int x1, .int x2, .int x3, .ref r4, .ref r5, .int x6]) (S' := [.ref r0]) (h' := h) rfl rfl rfl rfl).trans <|
    (r_guard (j := 50) (L' := [.ref r0, .int x1, .int x2, .int x3, .ref r4, .ref r5, .int x6]) (S' := [.ref (hR h r0 3)]) (h' := h) (p := hK h r0 = 10) rfl rfl rfl rfl (decide_eq_true_iff)).trans <| and_r <|
    (r_go (j := 51) (L' := [.ref r0, .int x1, .int x2, .int x3, .ref r4, .ref r5, .int x6]) (S' := [.int x6, .ref (hR h r0 3)]) (h' := h) rfl rfl rfl rfl).trans <|
    (r_guard (j := 52) (L' := [.ref r0, .int x1, .int x2, .int x3, .ref r4, .ref r5, .int x6]) (S' := [.ref (hR h (hR h r0 3) (Int32.toNatClampNeg x6))]) (h' := h) (p := (30 ≤ hK h (hR h r0 3) ∧ hK h (hR h r0 3) ≤ 41 ∧ hK h (hR h r0 3) ≠ 40) ∧ ixo x6 (hN h (hR h r0 3)) = true) rfl rfl rfl rfl (and2 decide_eq_true_iff Iff.rfl)).trans <| and_r <|
    (r_go (j := 53) (L' := [.ref r0, .int x1, .int x2, .int x3, .ref r4, .ref r5, .int x6]) (S' := [.int x3, .ref (hR h (hR h r0 3) (Int32.toNatClampNeg x6))]) (h' := h) rfl rfl rfl rfl).trans <|
    (r_go (j := 54) (L' := [.ref r0, .int x1, .int x2, .int x3, .ref r4, .ref r5, .int x6]) (S' := [.ref r0, .int x3, .ref (hR h (hR h r0 3) (Int32.toNatClampNeg x6))]) (h' := h) rfl rfl rfl rfl).trans <|
    (r_guard (j := 55) (L' := [.ref r0, .int x1, .int x2, .int x3, .ref r4, .ref r5, .int x6]) (S' := [.ref (hR h r0 13), .int x3, .ref (hR h (hR h r0 3) (Int32.toNatClampNeg x6))]) (h' := h) (p := hK h r0 = 10) rfl rfl rfl rfl (decide_eq_true_iff)).trans <| and_r <|
    r_call (j := 56) (a := [.ref (hR h (hR h r0 3) (Int32.toNatClampNeg x6)), .int x3, .ref (hR h r0 13)]) (S' := []) rfl rfl rfl rfl rfl rfl rfl
theorem b_X_sit_56 {d : Nat} (x1 x2 x3 x6 : Int32) (r0 r4 r5 : Nat) (h : AH) (Q : Option Value → AH → Prop) : Wp d P_X_sit 56 [.ref r0, .int x1, .int x2, .int x3, .ref r4, .ref r5, .int x6] [] h Q ↔ (hK h r0 = 10) ∧ ((hK h (hR h r0 4) = 8) ∧ (Q (some (.int x6)) (sI h (hR h r0 4) 1 (x6 + 1)))) :=
    (r_go (j := 57) (L' := [.ref r0, .int x1, .int x2, .int x3, .ref r4, .ref r5, .int x6]) (S' := [.ref r0]) (h' := h) rfl rfl rfl rfl).trans <|
    (r_guard (j := 58) (L' := [.ref r0, .int x1, .int x2, .int x3, .ref r4, .ref r5, .int x6]) (S' := [.ref (hR h r0 4)]) (h' := h) (p := hK h r0 = 10) rfl rfl rfl rfl (decide_eq_true_iff)).trans <| and_r <|
    (r_go (j := 59) (L' := [.ref r0, .int x1, .int x2, .int x3, .ref r4, .ref r5, .int x6]) (S' := [.int x6, .ref (hR h r0 4)]) (h' := h) rfl rfl rfl rfl).trans <|
    (r_iconst (j := 60) (x := 1) rfl i32_1 rfl).trans <|
    (r_go (j := 61) (L' := [.ref r0, .int x1, .int x2, .int x3, .ref r4, .ref r5, .int x6]) (S' := [.int (x6 + 1), .ref (hR h r0 4)]) (h' := h) rfl rfl rfl rfl).trans <|
    (r_guard (j := 62) (L' := [.ref r0, .int x1, .int x2, .int x3, .ref r4, .ref r5, .int x6]) (S' := []) (h' := (sI h (hR h r0 4) 1 (x6 + 1))) (p := hK h (hR h r0 4) = 8) rfl rfl rfl rfl (pfI rfl)).trans <| and_r <|
    (r_go (j := 63) (L' := [.ref r0, .int x1, .int x2, .int x3, .ref r4, .ref r5, .int x6]) (S' := [.int x6]) (h' := (sI h (hR h r0 4) 1 (x6 + 1))) rfl rfl rfl rfl).trans <|
    r_ret rfl rfl rfl
theorem e_X_sit {d : Nat} (x1 x2 x3 : Int32) (r0 : Nat) (h : AH) (Q : Option Value → AH → Prop) : Cl (d + 1) q_X_sit [.ref r0, .int x1, .int x2, .int x3] h Q ↔ hK h r0 = 10 ∧ Wp d P_X_sit 0 [.ref r0, .int x1, .int x2, .int x3, .null, .null, .null] [] h (fun r h' => rtk (some .int) r = true ∧ Q r h') :=
    (Cl_method (t := m_X_sit) rfl).trans (and_congr_left fun _ => decide_eq_true_iff)
/-! PenThatJumps.says(III)I -/
theorem b_X_says_0 {d : Nat} (x1 x2 x3 : Int32) (r0 : Nat) (h : AH) (Q : Option Value → AH → Prop) : Wp d P_X_says 0 [.ref r0, .int x1, .int x2, .int x3, .null, .null] [] h Q ↔ Cl d q_X_keptSitting [.ref r0, .int x1] h (fun r h' => Wp d P_X_says 3 [.ref r0, .int x1, .int x2, .int x3, .null, .null] (r.toList ++ []) h' Q) :=
    (r_go (j := 1) (L' := [.ref r0, .int x1, .int x2, .int x3, .null, .null]) (S' := [.ref r0]) (h' := h) rfl rfl rfl rfl).trans <|
    (r_go (j := 2) (L' := [.ref r0, .int x1, .int x2, .int x3, .null, .null]) (S' := [.int x1, .ref r0]) (h' := h) rfl rfl rfl rfl).trans <|
    r_call (j := 3) (a := [.ref r0, .int x1]) (S' := []) rfl rfl rfl rfl rfl rfl rfl
theorem b_X_says_3 {d : Nat} (x1 x2 x3 : Int32) (r0 t0 : Nat) (h : AH) (Q : Option Value → AH → Prop) : Wp d P_X_says 3 [.ref r0, .int x1, .int x2, .int x3, .null, .null] [.ref t0] h Q ↔ Cl d q_X_readerOf [.ref r0, .int x2] h (fun r h' => Wp d P_X_says 7 [.ref r0, .int x1, .int x2, .int x3, .ref t0, .null] (r.toList ++ []) h' Q) :=
    (r_go (j := 4) (L' := [.ref r0, .int x1, .int x2, .int x3, .ref t0, .null]) (S' := []) (h' := h) rfl rfl rfl rfl).trans <|
    (r_go (j := 5) (L' := [.ref r0, .int x1, .int x2, .int x3, .ref t0, .null]) (S' := [.ref r0]) (h' := h) rfl rfl rfl rfl).trans <|
    (r_go (j := 6) (L' := [.ref r0, .int x1, .int x2, .int x3, .ref t0, .null]) (S' := [.int x2, .ref r0]) (h' := h) rfl rfl rfl rfl).trans <|
    r_call (j := 7) (a := [.ref r0, .int x2]) (S' := []) rfl rfl rfl rfl rfl rfl rfl
theorem b_X_says_7 {d : Nat} (x1 x2 x3 : Int32) (r0 r4 t0 : Nat) (h : AH) (Q : Option Value → AH → Prop) : Wp d P_X_says 7 [.ref r0, .int x1, .int x2, .int x3, .ref r4, .null] [.ref t0] h Q ↔ (r4 = 0 ∨ 100 ≤ r4) ∧ (r4 = 0 → Wp d P_X_says 17 [.ref r0, .int x1, .int x2, .int x3, .ref r4, .ref t0] [] h Q) ∧ (¬ (r4 = 0) → Wp d P_X_says 10 [.ref r0, .int x1, .int x2, .int x3, .ref r4, .ref t0] [] h Q) :=
    (r_go (j := 8) (L' := [.ref r0, .int x1, .int x2, .int x3, .ref r4, .ref t0]) (S' := []) (h' := h) rfl rfl rfl rfl).trans <|
    (r_go (j := 9) (L' := [.ref r0, .int x1, .int x2, .int x3, .ref r4, .ref t0]) (S' := [.ref r4]) (h' := h) rfl rfl rfl rfl).trans <|
    r_null (j := 10) rfl rfl
theorem b_X_says_10 {d : Nat} (x1 x2 x3 : Int32) (r0 r4 r5 : Nat) (h : AH) (Q : Option Value → AH → Prop) : Wp d P_X_says 10 [.ref r0, .int x1, .int x2, .int x3, .ref r4, .ref r5] [] h Q ↔ (r5 = 0 ∨ 100 ≤ r5) ∧ (r5 = 0 → Wp d P_X_says 17 [.ref r0, .int x1, .int x2, .int x3, .ref r4, .ref r5] [] h Q) ∧ (¬ (r5 = 0) → Wp d P_X_says 12 [.ref r0, .int x1, .int x2, .int x3, .ref r4, .ref r5] [] h Q) :=
    (r_go (j := 11) (L' := [.ref r0, .int x1, .int x2, .int x3, .ref r4, .ref r5]) (S' := [.ref r5]) (h' := h) rfl rfl rfl rfl).trans <|
    r_null (j := 12) rfl rfl
theorem b_X_says_12 {d : Nat} (x1 x2 x3 : Int32) (r0 r4 r5 : Nat) (h : AH) (Q : Option Value → AH → Prop) : Wp d P_X_says 12 [.ref r0, .int x1, .int x2, .int x3, .ref r4, .ref r5] [] h Q ↔ Cl d q_X_within [.int x3, .int (-9), .int 9] h (fun r h' => Wp d P_X_says 16 [.ref r0, .int x1, .int x2, .int x3, .ref r4, .ref r5] (r.toList ++ []) h' Q) :=
    (r_go (j := 13) (L' := [.ref r0, .int x1, .int x2, .int x3, .ref r4, .ref r5]) (S' := [.int x3]) (h' := h) rfl rfl rfl rfl).trans <|
    (r_bipush (j := 14) (x := (-9)) rfl i32_m9 rfl).trans <|
    (r_bipush (j := 15) (x := 9) rfl i32_9 rfl).trans <|
    r_call (j := 16) (a := [.int x3, .int (-9), .int 9]) (S' := []) rfl rfl rfl rfl rfl rfl rfl
theorem b_X_says_16 {d : Nat} (x1 x2 x3 s0 : Int32) (r0 r4 r5 : Nat) (h : AH) (Q : Option Value → AH → Prop) : Wp d P_X_says 16 [.ref r0, .int x1, .int x2, .int x3, .ref r4, .ref r5] [.int s0] h Q ↔ (¬ s0 = 0 → Wp d P_X_says 19 [.ref r0, .int x1, .int x2, .int x3, .ref r4, .ref r5] [] h Q) ∧ (¬ (¬ s0 = 0) → Wp d P_X_says 17 [.ref r0, .int x1, .int x2, .int x3, .ref r4, .ref r5] [] h Q) :=
    r_if (j := 17) rfl (cd_ne _ _) rfl
theorem b_X_says_17 {d : Nat} (x1 x2 x3 : Int32) (r0 r4 r5 : Nat) (h : AH) (Q : Option Value → AH → Prop) : Wp d P_X_says 17 [.ref r0, .int x1, .int x2, .int x3, .ref r4, .ref r5] [] h Q ↔ Q (some (.int (-1))) h :=
    (r_iconst (j := 18) (x := (-1)) rfl i32_m1 rfl).trans <|
    r_ret rfl rfl rfl
theorem b_X_says_19 {d : Nat} (x1 x2 x3 : Int32) (r0 r4 r5 : Nat) (h : AH) (Q : Option Value → AH → Prop) : Wp d P_X_says 19 [.ref r0, .int x1, .int x2, .int x3, .ref r4, .ref r5] [] h Q ↔ (hK h r0 = 10) ∧ (Cl d q_Ju_study [.ref (hR h r0 8), .ref r4] h (fun r h' => Wp d P_X_says 23 [.ref r0, .int x1, .int x2, .int x3, .ref r4, .ref r5] (r.toList ++ []) h' Q)) :=
    (r_go (j := 20) (L' := [.ref r0, .int x1, .int x2, .int x3, .ref r4, .ref r5]) (S' := [.ref r0]) (h' := h) rfl rfl rfl rfl).trans <|
    (r_guard (j := 21) (L' := [.ref r0, .int x1, .int x2, .int x3, .ref r4, .ref r5]) (S' := [.ref (hR h r0 8)]) (h' := h) (p := hK h r0 = 10) rfl rfl rfl rfl (decide_eq_true_iff)).trans <| and_r <|
    (r_go (j := 22) (L' := [.ref r0, .int x1, .int x2, .int x3, .ref r4, .ref r5]) (S' := [.ref r4, .ref (hR h r0 8)]) (h' := h) rfl rfl rfl rfl).trans <|
    r_call (j := 23) (a := [.ref (hR h r0 8), .ref r4]) (S' := []) rfl rfl rfl rfl rfl rfl rfl
theorem b_X_says_23 {d : Nat} (x1 x2 x3 : Int32) (r0 r4 r5 : Nat) (h : AH) (Q : Option Value → AH → Prop) : Wp d P_X_says 23 [.ref r0, .int x1, .int x2, .int x3, .ref r4, .ref r5] [] h Q ↔ (hK h r0 = 10) ∧ (Cl d q_Ju_finds [.ref (hR h r0 8), .ref r5, .int x3] h (fun r h' => Wp d P_X_says 28 [.ref r0, .int x1, .int x2, .int x3, .ref r4, .ref r5] (r.toList ++ []) h' Q)) :=
    (r_go (j := 24) (L' := [.ref r0, .int x1, .int x2, .int x3, .ref r4, .ref r5]) (S' := [.ref r0]) (h' := h) rfl rfl rfl rfl).trans <|
    (r_guard (j := 25) (L' := [.ref r0, .int x1, .int x2, .int x3, .ref r4, .ref r5]) (S' := [.ref (hR h r0 8)]) (h' := h) (p := hK h r0 = 10) rfl rfl rfl rfl (decide_eq_true_iff)).trans <| and_r <|
    (r_go (j := 26) (L' := [.ref r0, .int x1, .int x2, .int x3, .ref r4, .ref r5]) (S' := [.ref r5, .ref (hR h r0 8)]) (h' := h) rfl rfl rfl rfl).trans <|
    (r_go (j := 27) (L' := [.ref r0, .int x1, .int x2, .int x3, .ref r4, .ref r5]) (S' := [.int x3, .ref r5, .ref (hR h r0 8)]) (h' := h) rfl rfl rfl rfl).trans <|
    r_call (j := 28) (a := [.ref (hR h r0 8), .ref r5, .int x3]) (S' := []) rfl rfl rfl rfl rfl rfl rfl
theorem b_X_says_28 {d : Nat} (x1 x2 x3 s0 : Int32) (r0 r4 r5 : Nat) (h : AH) (Q : Option Value → AH → Prop) : Wp d P_X_says 28 [.ref r0, .int x1, .int x2, .int x3, .ref r4, .ref r5] [.int s0] h Q ↔ (s0 = 0 → Wp d P_X_says 31 [.ref r0, .int x1, .int x2, .int x3, .ref r4, .ref r5] [] h Q) ∧ (¬ (s0 = 0) → Wp d P_X_says 29 [.ref r0, .int x1, .int x2, .int x3, .ref r4, .ref r5] [] h Q) :=
    r_if (j := 29) rfl (cd_eq _ _) rfl
theorem b_X_says_29 {d : Nat} (x1 x2 x3 : Int32) (r0 r4 r5 : Nat) (h : AH) (Q : Option Value → AH → Prop) : Wp d P_X_says 29 [.ref r0, .int x1, .int x2, .int x3, .ref r4, .ref r5] [] h Q ↔ Wp d P_X_says 32 [.ref r0, .int x1, .int x2, .int x3, .ref r4, .ref r5] [.int 1] h Q :=
    (r_iconst (j := 30) (x := 1) rfl i32_1 rfl).trans <|
    r_go (j := 32) (L' := [.ref r0, .int x1, .int x2, .int x3, .ref r4, .ref r5]) (S' := [.int 1]) (h' := h) rfl rfl rfl rfl
theorem b_X_says_31 {d : Nat} (x1 x2 x3 : Int32) (r0 r4 r5 : Nat) (h : AH) (Q : Option Value → AH → Prop) : Wp d P_X_says 31 [.ref r0, .int x1, .int x2, .int x3, .ref r4, .ref r5] [] h Q ↔ Wp d P_X_says 32 [.ref r0, .int x1, .int x2, .int x3, .ref r4, .ref r5] [.int 0] h Q :=
    r_iconst (j := 32) (x := 0) rfl i32_0 rfl
theorem b_X_says_32 {d : Nat} (x1 x2 x3 s0 : Int32) (r0 r4 r5 : Nat) (h : AH) (Q : Option Value → AH → Prop) : Wp d P_X_says 32 [.ref r0, .int x1, .int x2, .int x3, .ref r4, .ref r5] [.int s0] h Q ↔ Q (some (.int s0)) h :=
    r_ret rfl rfl rfl
theorem e_X_says {d : Nat} (x1 x2 x3 : Int32) (r0 : Nat) (h : AH) (Q : Option Value → AH → Prop) : Cl (d + 1) q_X_says [.ref r0, .int x1, .int x2, .int x3] h Q ↔ hK h r0 = 10 ∧ Wp d P_X_says 0 [.ref r0, .int x1, .int x2, .int x3, .null, .null] [] h (fun r h' => rtk (some .int) r = true ∧ Q r h') :=
    (Cl_method (t := m_X_says) rfl).trans (and_congr_left fun _ => decide_eq_true_iff)
/-! PenThatJumps.leans(II)I -/
theorem b_X_leans_0 {d : Nat} (x1 x2 : Int32) (r0 : Nat) (h : AH) (Q : Option Value → AH → Prop) : Wp d P_X_leans 0 [.ref r0, .int x1, .int x2, .null, .null, .null, .null] [] h Q ↔ Cl d q_X_keptSitting [.ref r0, .int x1] h (fun r h' => Wp d P_X_leans 3 [.ref r0, .int x1, .int x2, .null, .null, .null, .null] (r.toList ++ []) h' Q) :=
    (r_go (j := 1) (L' := [.ref r0, .int x1, .int x2, .null, .null, .null, .null]) (S' := [.ref r0]) (h' := h) rfl rfl rfl rfl).trans <|
    (r_go (j := 2) (L' := [.ref r0, .int x1, .int x2, .null, .null, .null, .null]) (S' := [.int x1, .ref r0]) (h' := h) rfl rfl rfl rfl).trans <|
    r_call (j := 3) (a := [.ref r0, .int x1]) (S' := []) rfl rfl rfl rfl rfl rfl rfl
theorem b_X_leans_3 {d : Nat} (x1 x2 : Int32) (r0 t0 : Nat) (h : AH) (Q : Option Value → AH → Prop) : Wp d P_X_leans 3 [.ref r0, .int x1, .int x2, .null, .null, .null, .null] [.ref t0] h Q ↔ Cl d q_X_readerOf [.ref r0, .int x2] h (fun r h' => Wp d P_X_leans 7 [.ref r0, .int x1, .int x2, .ref t0, .null, .null, .null] (r.toList ++ []) h' Q) :=
    (r_go (j := 4) (L' := [.ref r0, .int x1, .int x2, .ref t0, .null, .null, .null]) (S' := []) (h' := h) rfl rfl rfl rfl).trans <|
    (r_go (j := 5) (L' := [.ref r0, .int x1, .int x2, .ref t0, .null, .null, .null]) (S' := [.ref r0]) (h' := h) rfl rfl rfl rfl).trans <|
    (r_go (j := 6) (L' := [.ref r0, .int x1, .int x2, .ref t0, .null, .null, .null]) (S' := [.int x2, .ref r0]) (h' := h) rfl rfl rfl rfl).trans <|
    r_call (j := 7) (a := [.ref r0, .int x2]) (S' := []) rfl rfl rfl rfl rfl rfl rfl
theorem b_X_leans_7 {d : Nat} (x1 x2 : Int32) (r0 r3 t0 : Nat) (h : AH) (Q : Option Value → AH → Prop) : Wp d P_X_leans 7 [.ref r0, .int x1, .int x2, .ref r3, .null, .null, .null] [.ref t0] h Q ↔ (r3 = 0 ∨ 100 ≤ r3) ∧ (r3 = 0 → Wp d P_X_leans 12 [.ref r0, .int x1, .int x2, .ref r3, .ref t0, .null, .null] [] h Q) ∧ (¬ (r3 = 0) → Wp d P_X_leans 10 [.ref r0, .int x1, .int x2, .ref r3, .ref t0, .null, .null] [] h Q) :=
    (r_go (j := 8) (L' := [.ref r0, .int x1, .int x2, .ref r3, .ref t0, .null, .null]) (S' := []) (h' := h) rfl rfl rfl rfl).trans <|
    (r_go (j := 9) (L' := [.ref r0, .int x1, .int x2, .ref r3, .ref t0, .null, .null]) (S' := [.ref r3]) (h' := h) rfl rfl rfl rfl).trans <|
    r_null (j := 10) rfl rfl
theorem b_X_leans_10 {d : Nat} (x1 x2 : Int32) (r0 r3 r4 : Nat) (h : AH) (Q : Option Value → AH → Prop) : Wp d P_X_leans 10 [.ref r0, .int x1, .int x2, .ref r3, .ref r4, .null, .null] [] h Q ↔ (r4 = 0 ∨ 100 ≤ r4) ∧ (r4 = 0 → Wp d P_X_leans 12 [.ref r0, .int x1, .int x2, .ref r3, .ref r4, .null, .null] [] h Q) ∧ (¬ (r4 = 0) → Wp d P_X_leans 14 [.ref r0, .int x1, .int x2, .ref r3, .ref r4, .null, .null] [] h Q) :=
    (r_go (j := 11) (L' := [.ref r0, .int x1, .int x2, .ref r3, .ref r4, .null, .null]) (S' := [.ref r4]) (h' := h) rfl rfl rfl rfl).trans <|
    r_nonnull (j := 12) rfl rfl
theorem b_X_leans_12 {d : Nat} (x1 x2 : Int32) (r0 r3 r4 : Nat) (h : AH) (Q : Option Value → AH → Prop) : Wp d P_X_leans 12 [.ref r0, .int x1, .int x2, .ref r3, .ref r4, .null, .null] [] h Q ↔ Q (some (.int (-1))) h :=
    (r_iconst (j := 13) (x := (-1)) rfl i32_m1 rfl).trans <|
    r_ret rfl rfl rfl
theorem b_X_leans_14 {d : Nat} (x1 x2 : Int32) (r0 r3 r4 : Nat) (h : AH) (Q : Option Value → AH → Prop) : Wp d P_X_leans 14 [.ref r0, .int x1, .int x2, .ref r3, .ref r4, .null, .null] [] h Q ↔ (hK h r0 = 10) ∧ (Cl d q_Ju_study [.ref (hR h r0 8), .ref r3] h (fun r h' => Wp d P_X_leans 18 [.ref r0, .int x1, .int x2, .ref r3, .ref r4, .null, .null] (r.toList ++ []) h' Q)) :=
    (r_go (j := 15) (L' := [.ref r0, .int x1, .int x2, .ref r3, .ref r4, .null, .null]) (S' := [.ref r0]) (h' := h) rfl rfl rfl rfl).trans <|
    (r_guard (j := 16) (L' := [.ref r0, .int x1, .int x2, .ref r3, .ref r4, .null, .null]) (S' := [.ref (hR h r0 8)]) (h' := h) (p := hK h r0 = 10) rfl rfl rfl rfl (decide_eq_true_iff)).trans <| and_r <|
    (r_go (j := 17) (L' := [.ref r0, .int x1, .int x2, .ref r3, .ref r4, .null, .null]) (S' := [.ref r3, .ref (hR h r0 8)]) (h' := h) rfl rfl rfl rfl).trans <|
    r_call (j := 18) (a := [.ref (hR h r0 8), .ref r3]) (S' := []) rfl rfl rfl rfl rfl rfl rfl
theorem b_X_leans_18 {d : Nat} (x1 x2 : Int32) (r0 r3 r4 : Nat) (h : AH) (Q : Option Value → AH → Prop) : Wp d P_X_leans 18 [.ref r0, .int x1, .int x2, .ref r3, .ref r4, .null, .null] [] h Q ↔ Wp d P_X_leans 22 [.ref r0, .int x1, .int x2, .ref r3, .ref r4, .int 0, .int (-9)] [] h Q :=
    (r_iconst (j := 19) (x := 0) rfl i32_0 rfl).trans <|
    (r_go (j := 20) (L' := [.ref r0, .int x1, .int x2, .ref r3, .ref r4, .int 0, .null]) (S' := []) (h' := h) rfl rfl rfl rfl).trans <|
    (r_bipush (j := 21) (x := (-9)) rfl i32_m9 rfl).trans <|
    r_go (j := 22) (L' := [.ref r0, .int x1, .int x2, .ref r3, .ref r4, .int 0, .int (-9)]) (S' := []) (h' := h) rfl rfl rfl rfl
theorem b_X_leans_22 {d : Nat} (x1 x2 x5 x6 : Int32) (r0 r3 r4 : Nat) (h : AH) (Q : Option Value → AH → Prop) : Wp d P_X_leans 22 [.ref r0, .int x1, .int x2, .ref r3, .ref r4, .int x5, .int x6] [] h Q ↔ (9 < x6 → Wp d P_X_leans 41 [.ref r0, .int x1, .int x2, .ref r3, .ref r4, .int x5, .int x6] [] h Q) ∧ (¬ (9 < x6) → Wp d P_X_leans 25 [.ref r0, .int x1, .int x2, .ref r3, .ref r4, .int x5, .int x6] [] h Q) :=
    (r_go (j := 23) (L' := [.ref r0, .int x1, .int x2, .ref r3, .ref r4, .int x5, .int x6]) (S' := [.int x6]) (h' := h) rfl rfl rfl rfl).trans <|
    (r_bipush (j := 24) (x := 9) rfl i32_9 rfl).trans <|
    r_icmp (j := 25) rfl (cd_gt _ _) rfl
theorem b_X_leans_25 {d : Nat} (x1 x2 x5 x6 : Int32) (r0 r3 r4 : Nat) (h : AH) (Q : Option Value → AH → Prop) : Wp d P_X_leans 25 [.ref r0, .int x1, .int x2, .ref r3, .ref r4, .int x5, .int x6] [] h Q ↔ (hK h r0 = 10) ∧ (Cl d q_Ju_finds [.ref (hR h r0 8), .ref r4, .int x6] h (fun r h' => Wp d P_X_leans 30 [.ref r0, .int x1, .int x2, .ref r3, .ref r4, .int x5, .int x6] (r.toList ++ []) h' Q)) :=
    (r_go (j := 26) (L' := [.ref r0, .int x1, .int x2, .ref r3, .ref r4, .int x5, .int x6]) (S' := [.ref r0]) (h' := h) rfl rfl rfl rfl).trans <|
    (r_guard (j := 27) (L' := [.ref r0, .int x1, .int x2, .ref r3, .ref r4, .int x5, .int x6]) (S' := [.ref (hR h r0 8)]) (h' := h) (p := hK h r0 = 10) rfl rfl rfl rfl (decide_eq_true_iff)).trans <| and_r <|
    (r_go (j := 28) (L' := [.ref r0, .int x1, .int x2, .ref r3, .ref r4, .int x5, .int x6]) (S' := [.ref r4, .ref (hR h r0 8)]) (h' := h) rfl rfl rfl rfl).trans <|
    (r_go (j := 29) (L' := [.ref r0, .int x1, .int x2, .ref r3, .ref r4, .int x5, .int x6]) (S' := [.int x6, .ref r4, .ref (hR h r0 8)]) (h' := h) rfl rfl rfl rfl).trans <|
    r_call (j := 30) (a := [.ref (hR h r0 8), .ref r4, .int x6]) (S' := []) rfl rfl rfl rfl rfl rfl rfl
theorem b_X_leans_30 {d : Nat} (x1 x2 x5 x6 s0 : Int32) (r0 r3 r4 : Nat) (h : AH) (Q : Option Value → AH → Prop) : Wp d P_X_leans 30 [.ref r0, .int x1, .int x2, .ref r3, .ref r4, .int x5, .int x6] [.int s0] h Q ↔ (s0 = 0 → Wp d P_X_leans 39 [.ref r0, .int x1, .int x2, .ref r3, .ref r4, .int x5, .int x6] [] h Q) ∧ (¬ (s0 = 0) → Wp d P_X_leans 31 [.ref r0, .int x1, .int x2, .ref r3, .ref r4, .int x5, .int x6] [] h Q) :=
    r_if (j := 31) rfl (cd_eq _ _) rfl
theorem b_X_leans_31 {d : Nat} (x1 x2 x5 x6 : Int32) (r0 r3 r4 : Nat) (h : AH) (Q : Option Value → AH → Prop) : Wp d P_X_leans 31 [.ref r0, .int x1, .int x2, .ref r3, .ref r4, .int x5, .int x6] [] h Q ↔ Wp d P_X_leans 39 [.ref r0, .int x1, .int x2, .ref r3, .ref r4, .int (x5 ||| (1 <<< ((x6 + 9) &&& 31))), .int x6] [] h Q :=
    (r_go (j := 32) (L' := [.ref r0, .int x1, .int x2, .ref r3, .ref r4, .int x5, .int x6]) (S' := [.int x5]) (h' := h) rfl rfl rfl rfl).trans <|
    (r_iconst (j := 33) (x := 1) rfl i32_1 rfl).trans <|
    (r_go (j := 34) (L' := [.ref r0, .int x1, .int x2, .ref r3, .ref r4, .int x5, .int x6]) (S' := [.int x6, .int 1, .int x5]) (h' := h) rfl rfl rfl rfl).trans <|
    (r_bipush (j := 35) (x := 9) rfl i32_9 rfl).trans <|
    (r_go (j := 36) (L' := [.ref r0, .int x1, .int x2, .ref r3, .ref r4, .int x5, .int x6]) (S' := [.int (x6 + 9), .int 1, .int x5]) (h' := h) rfl rfl rfl rfl).trans <|
    (r_go (j := 37) (L' := [.ref r0, .int x1, .int x2, .ref r3, .ref r4, .int x5, .int x6]) (S' := [.int (1 <<< ((x6 + 9) &&& 31)), .int x5]) (h' := h) rfl rfl rfl rfl).trans <|
    (r_go (j := 38) (L' := [.ref r0, .int x1, .int x2, .ref r3, .ref r4, .int x5, .int x6]) (S' := [.int (x5 ||| (1 <<< ((x6 + 9) &&& 31)))]) (h' := h) rfl rfl rfl rfl).trans <|
    r_go (j := 39) (L' := [.ref r0, .int x1, .int x2, .ref r3, .ref r4, .int (x5 ||| (1 <<< ((x6 + 9) &&& 31))), .int x6]) (S' := []) (h' := h) rfl rfl rfl rfl
theorem b_X_leans_39 {d : Nat} (x1 x2 x5 x6 : Int32) (r0 r3 r4 : Nat) (h : AH) (Q : Option Value → AH → Prop) : Wp d P_X_leans 39 [.ref r0, .int x1, .int x2, .ref r3, .ref r4, .int x5, .int x6] [] h Q ↔ Wp d P_X_leans 22 [.ref r0, .int x1, .int x2, .ref r3, .ref r4, .int x5, .int (x6 + 1)] [] h Q :=
    (r_iinc (j := 40) (x := 1) (L' := [.ref r0, .int x1, .int x2, .ref r3, .ref r4, .int x5, .int (x6 + 1)]) rfl rfl i32_1 rfl rfl).trans <|
    r_go (j := 22) (L' := [.ref r0, .int x1, .int x2, .ref r3, .ref r4, .int x5, .int (x6 + 1)]) (S' := []) (h' := h) rfl rfl rfl rfl
theorem b_X_leans_41 {d : Nat} (x1 x2 x5 x6 : Int32) (r0 r3 r4 : Nat) (h : AH) (Q : Option Value → AH → Prop) : Wp d P_X_leans 41 [.ref r0, .int x1, .int x2, .ref r3, .ref r4, .int x5, .int x6] [] h Q ↔ Q (some (.int x5)) h :=
    (r_go (j := 42) (L' := [.ref r0, .int x1, .int x2, .ref r3, .ref r4, .int x5, .int x6]) (S' := [.int x5]) (h' := h) rfl rfl rfl rfl).trans <|
    r_ret rfl rfl rfl
theorem e_X_leans {d : Nat} (x1 x2 : Int32) (r0 : Nat) (h : AH) (Q : Option Value → AH → Prop) : Cl (d + 1) q_X_leans [.ref r0, .int x1, .int x2] h Q ↔ hK h r0 = 10 ∧ Wp d P_X_leans 0 [.ref r0, .int x1, .int x2, .null, .null, .null, .null] [] h (fun r h' => rtk (some .int) r = true ∧ Q r h') :=
    (Cl_method (t := m_X_leans) rfl).trans (and_congr_left fun _ => decide_eq_true_iff)
/-! PenThatJumps.hits(II)I -/
theorem b_X_hits_0 {d : Nat} (x1 x2 : Int32) (r0 : Nat) (h : AH) (Q : Option Value → AH → Prop) : Wp d P_X_hits 0 [.ref r0, .int x1, .int x2, .null] [] h Q ↔ Cl d q_X_keptSitting [.ref r0, .int x1] h (fun r h' => Wp d P_X_hits 3 [.ref r0, .int x1, .int x2, .null] (r.toList ++ []) h' Q) :=
    (r_go (j := 1) (L' := [.ref r0, .int x1, .int x2, .null]) (S' := [.ref r0]) (h' := h) rfl rfl rfl rfl).trans <|
    (r_go (j := 2) (L' := [.ref r0, .int x1, .int x2, .null]) (S' := [.int x1, .ref r0]) (h' := h) rfl rfl rfl rfl).trans <|
    r_call (j := 3) (a := [.ref r0, .int x1]) (S' := []) rfl rfl rfl rfl rfl rfl rfl
theorem b_X_hits_3 {d : Nat} (x1 x2 : Int32) (r0 t0 : Nat) (h : AH) (Q : Option Value → AH → Prop) : Wp d P_X_hits 3 [.ref r0, .int x1, .int x2, .null] [.ref t0] h Q ↔ (t0 = 0 ∨ 100 ≤ t0) ∧ (t0 = 0 → Wp d P_X_hits 11 [.ref r0, .int x1, .int x2, .ref t0] [] h Q) ∧ (¬ (t0 = 0) → Wp d P_X_hits 6 [.ref r0, .int x1, .int x2, .ref t0] [] h Q) :=
    (r_go (j := 4) (L' := [.ref r0, .int x1, .int x2, .ref t0]) (S' := []) (h' := h) rfl rfl rfl rfl).trans <|
    (r_go (j := 5) (L' := [.ref r0, .int x1, .int x2, .ref t0]) (S' := [.ref t0]) (h' := h) rfl rfl rfl rfl).trans <|
    r_null (j := 6) rfl rfl
theorem b_X_hits_6 {d : Nat} (x1 x2 : Int32) (r0 r3 : Nat) (h : AH) (Q : Option Value → AH → Prop) : Wp d P_X_hits 6 [.ref r0, .int x1, .int x2, .ref r3] [] h Q ↔ Cl d q_X_within [.int x2, .int 0, .int 2] h (fun r h' => Wp d P_X_hits 10 [.ref r0, .int x1, .int x2, .ref r3] (r.toList ++ []) h' Q) :=
    (r_go (j := 7) (L' := [.ref r0, .int x1, .int x2, .ref r3]) (S' := [.int x2]) (h' := h) rfl rfl rfl rfl).trans <|
    (r_iconst (j := 8) (x := 0) rfl i32_0 rfl).trans <|
    (r_iconst (j := 9) (x := 2) rfl i32_2 rfl).trans <|
    r_call (j := 10) (a := [.int x2, .int 0, .int 2]) (S' := []) rfl rfl rfl rfl rfl rfl rfl
theorem b_X_hits_10 {d : Nat} (x1 x2 s0 : Int32) (r0 r3 : Nat) (h : AH) (Q : Option Value → AH → Prop) : Wp d P_X_hits 10 [.ref r0, .int x1, .int x2, .ref r3] [.int s0] h Q ↔ (¬ s0 = 0 → Wp d P_X_hits 13 [.ref r0, .int x1, .int x2, .ref r3] [] h Q) ∧ (¬ (¬ s0 = 0) → Wp d P_X_hits 11 [.ref r0, .int x1, .int x2, .ref r3] [] h Q) :=
    r_if (j := 11) rfl (cd_ne _ _) rfl
theorem b_X_hits_11 {d : Nat} (x1 x2 : Int32) (r0 r3 : Nat) (h : AH) (Q : Option Value → AH → Prop) : Wp d P_X_hits 11 [.ref r0, .int x1, .int x2, .ref r3] [] h Q ↔ Q (some (.int (-1))) h :=
    (r_iconst (j := 12) (x := (-1)) rfl i32_m1 rfl).trans <|
    r_ret rfl rfl rfl
theorem b_X_hits_13 {d : Nat} (x1 x2 : Int32) (r0 r3 : Nat) (h : AH) (Q : Option Value → AH → Prop) : Wp d P_X_hits 13 [.ref r0, .int x1, .int x2, .ref r3] [] h Q ↔ Cl d q_Si_standsOut [.ref r3, .int x2] h (fun r h' => Wp d P_X_hits 16 [.ref r0, .int x1, .int x2, .ref r3] (r.toList ++ []) h' Q) :=
    (r_go (j := 14) (L' := [.ref r0, .int x1, .int x2, .ref r3]) (S' := [.ref r3]) (h' := h) rfl rfl rfl rfl).trans <|
    (r_go (j := 15) (L' := [.ref r0, .int x1, .int x2, .ref r3]) (S' := [.int x2, .ref r3]) (h' := h) rfl rfl rfl rfl).trans <|
    r_call (j := 16) (a := [.ref r3, .int x2]) (S' := []) rfl rfl rfl rfl rfl rfl rfl
theorem b_X_hits_16 {d : Nat} (x1 x2 s0 : Int32) (r0 r3 : Nat) (h : AH) (Q : Option Value → AH → Prop) : Wp d P_X_hits 16 [.ref r0, .int x1, .int x2, .ref r3] [.int s0] h Q ↔ (s0 = 0 → Wp d P_X_hits 19 [.ref r0, .int x1, .int x2, .ref r3] [] h Q) ∧ (¬ (s0 = 0) → Wp d P_X_hits 17 [.ref r0, .int x1, .int x2, .ref r3] [] h Q) :=
    r_if (j := 17) rfl (cd_eq _ _) rfl
theorem b_X_hits_17 {d : Nat} (x1 x2 : Int32) (r0 r3 : Nat) (h : AH) (Q : Option Value → AH → Prop) : Wp d P_X_hits 17 [.ref r0, .int x1, .int x2, .ref r3] [] h Q ↔ Wp d P_X_hits 20 [.ref r0, .int x1, .int x2, .ref r3] [.int 1] h Q :=
    (r_iconst (j := 18) (x := 1) rfl i32_1 rfl).trans <|
    r_go (j := 20) (L' := [.ref r0, .int x1, .int x2, .ref r3]) (S' := [.int 1]) (h' := h) rfl rfl rfl rfl
theorem b_X_hits_19 {d : Nat} (x1 x2 : Int32) (r0 r3 : Nat) (h : AH) (Q : Option Value → AH → Prop) : Wp d P_X_hits 19 [.ref r0, .int x1, .int x2, .ref r3] [] h Q ↔ Wp d P_X_hits 20 [.ref r0, .int x1, .int x2, .ref r3] [.int 0] h Q :=
    r_iconst (j := 20) (x := 0) rfl i32_0 rfl
theorem b_X_hits_20 {d : Nat} (x1 x2 s0 : Int32) (r0 r3 : Nat) (h : AH) (Q : Option Value → AH → Prop) : Wp d P_X_hits 20 [.ref r0, .int x1, .int x2, .ref r3] [.int s0] h Q ↔ Q (some (.int s0)) h :=
    r_ret rfl rfl rfl
theorem e_X_hits {d : Nat} (x1 x2 : Int32) (r0 : Nat) (h : AH) (Q : Option Value → AH → Prop) : Cl (d + 1) q_X_hits [.ref r0, .int x1, .int x2] h Q ↔ hK h r0 = 10 ∧ Wp d P_X_hits 0 [.ref r0, .int x1, .int x2, .null] [] h (fun r h' => rtk (some .int) r = true ∧ Q r h') :=
    (Cl_method (t := m_X_hits) rfl).trans (and_congr_left fun _ => decide_eq_true_iff)
/-! PenThatJumps.rates(IIIII)I -/
theorem b_X_rates_0 {d : Nat} (x1 x2 x3 x4 x5 : Int32) (r0 : Nat) (h : AH) (Q : Option Value → AH → Prop) : Wp d P_X_rates 0 [.ref r0, .int x1, .int x2, .int x3, .int x4, .int x5] [] h Q ↔ (x5 < 0 → Wp d P_X_rates 14 [.ref r0, .int x1, .int x2, .int x3, .int x4, .int x5] [] h Q) ∧ (¬ (x5 < 0) → Wp d P_X_rates 2 [.ref r0, .int x1, .int x2, .int x3, .int x4, .int x5] [] h Q) :=
    (r_go (j := 1) (L' := [.ref r0, .int x1, .int x2, .int x3, .int x4, .int x5]) (S' := [.int x5]) (h' := h) rfl rfl rfl rfl).trans <|
    r_if (j := 2) rfl (cd_lt _ _) rfl
theorem b_X_rates_2 {d : Nat} (x1 x2 x3 x4 x5 : Int32) (r0 : Nat) (h : AH) (Q : Option Value → AH → Prop) : Wp d P_X_rates 2 [.ref r0, .int x1, .int x2, .int x3, .int x4, .int x5] [] h Q ↔ (hK h r0 = 10) ∧ ((20 ≤ hK h (hR h r0 15) ∧ hK h (hR h r0 15) ≠ 40 ∧ hK h (hR h r0 15) ≠ 42 ∧ hK h (hR h r0 15) ≤ 45 ∧ hK h (hR h r0 15) ≠ 43) ∧ (((Int32.ofNat (hN h (hR h r0 15))) ≤ x5 → Wp d P_X_rates 14 [.ref r0, .int x1, .int x2, .int x3, .int x4, .int x5] [] h Q) ∧ (¬ ((Int32.ofNat (hN h (hR h r0 15))) ≤ x5) → Wp d P_X_rates 7 [.ref r0, .int x1, .int x2, .int x3, .int x4, .int x5] [] h Q))) :=
    (r_go (j := 3) (L' := [.ref r0, .int x1, .int x2, .int x3, .int x4, .int x5]) (S' := [.int x5]) (h' := h) rfl rfl rfl rfl).trans <|
    (r_go (j := 4) (L' := [.ref r0, .int x1, .int x2, .int x3, .int x4, .int x5]) (S' := [.ref r0, .int x5]) (h' := h) rfl rfl rfl rfl).trans <|
    (r_guard (j := 5) (L' := [.ref r0, .int x1, .int x2, .int x3, .int x4, .int x5]) (S' := [.ref (hR h r0 15), .int x5]) (h' := h) (p := hK h r0 = 10) rfl rfl rfl rfl (decide_eq_true_iff)).trans <| and_r <|
    (r_guard (j := 6) (L' := [.ref r0, .int x1, .int x2, .int x3, .int x4, .int x5]) (S' := [.int (Int32.ofNat (hN h (hR h r0 15))), .int x5]) (h' := h) (p := 20 ≤ hK h (hR h r0 15) ∧ hK h (hR h r0 15) ≠ 40 ∧ hK h (hR h r0 15) ≠ 42 ∧ hK h (hR h r0 15) ≤ 45 ∧ hK h (hR h r0 15) ≠ 43) rfl rfl rfl rfl (decide_eq_true_iff)).trans <| and_r <|
    r_icmp (j := 7) rfl (cd_ge _ _) rfl
theorem b_X_rates_7 {d : Nat} (x1 x2 x3 x4 x5 : Int32) (r0 : Nat) (h : AH) (Q : Option Value → AH → Prop) : Wp d P_X_rates 7 [.ref r0, .int x1, .int x2, .int x3, .int x4, .int x5] [] h Q ↔ Cl d q_X_rated [.ref r0, .int x1, .int x2, .int x3, .int x4] h (fun r h' => Wp d P_X_rates 13 [.ref r0, .int x1, .int x2, .int x3, .int x4, .int x5] (r.toList ++ []) h' Q) :=
    (r_go (j := 8) (L' := [.ref r0, .int x1, .int x2, .int x3, .int x4, .int x5]) (S' := [.ref r0]) (h' := h) rfl rfl rfl rfl).trans <|
    (r_go (j := 9) (L' := [.ref r0, .int x1, .int x2, .int x3, .int x4, .int x5]) (S' := [.int x1, .ref r0]) (h' := h) rfl rfl rfl rfl).trans <|
    (r_go (j := 10) (L' := [.ref r0, .int x1, .int x2, .int x3, .int x4, .int x5]) (S' := [.int x2, .int x1, .ref r0]) (h' := h) rfl rfl rfl rfl).trans <|
    (r_go (j := 11) (L' := [.ref r0, .int x1, .int x2, .int x3, .int x4, .int x5]) (S' := [.int x3, .int x2, .int x1, .ref r0]) (h' := h) rfl rfl rfl rfl).trans <|
    (r_go (j := 12) (L' := [.ref r0, .int x1, .int x2, .int x3, .int x4, .int x5]) (S' := [.int x4, .int x3, .int x2, .int x1, .ref r0]) (h' := h) rfl rfl rfl rfl).trans <|
    r_call (j := 13) (a := [.ref r0, .int x1, .int x2, .int x3, .int x4]) (S' := []) rfl rfl rfl rfl rfl rfl rfl
theorem b_X_rates_13 {d : Nat} (x1 x2 x3 x4 x5 s0 : Int32) (r0 : Nat) (h : AH) (Q : Option Value → AH → Prop) : Wp d P_X_rates 13 [.ref r0, .int x1, .int x2, .int x3, .int x4, .int x5] [.int s0] h Q ↔ (¬ s0 = 0 → Wp d P_X_rates 16 [.ref r0, .int x1, .int x2, .int x3, .int x4, .int x5] [] h Q) ∧ (¬ (¬ s0 = 0) → Wp d P_X_rates 14 [.ref r0, .int x1, .int x2, .int x3, .int x4, .int x5] [] h Q) :=
    r_if (j := 14) rfl (cd_ne _ _) rfl
theorem b_X_rates_14 {d : Nat} (x1 x2 x3 x4 x5 : Int32) (r0 : Nat) (h : AH) (Q : Option Value → AH → Prop) : Wp d P_X_rates 14 [.ref r0, .int x1, .int x2, .int x3, .int x4, .int x5] [] h Q ↔ Q (some (.int (-1))) h :=
    (r_iconst (j := 15) (x := (-1)) rfl i32_m1 rfl).trans <|
    r_ret rfl rfl rfl
theorem b_X_rates_16 {d : Nat} (x1 x2 x3 x4 x5 : Int32) (r0 : Nat) (h : AH) (Q : Option Value → AH → Prop) : Wp d P_X_rates 16 [.ref r0, .int x1, .int x2, .int x3, .int x4, .int x5] [] h Q ↔ (hK h r0 = 10) ∧ ((hK h (hR h r0 15) ∈ [20, 44] ∧ ixo x5 (hN h (hR h r0 15)) = true) ∧ (Q (some (.int (hI h (hR h r0 15) (Int32.toNatClampNeg x5)))) h)) :=
    (r_go (j := 17) (L' := [.ref r0, .int x1, .int x2, .int x3, .int x4, .int x5]) (S' := [.ref r0]) (h' := h) rfl rfl rfl rfl).trans <|
    (r_guard (j := 18) (L' := [.ref r0, .int x1, .int x2, .int x3, .int x4, .int x5]) (S' := [.ref (hR h r0 15)]) (h' := h) (p := hK h r0 = 10) rfl rfl rfl rfl (decide_eq_true_iff)).trans <| and_r <|
    (r_go (j := 19) (L' := [.ref r0, .int x1, .int x2, .int x3, .int x4, .int x5]) (S' := [.int x5, .ref (hR h r0 15)]) (h' := h) rfl rfl rfl rfl).trans <|
    (r_guard (j := 20) (L' := [.ref r0, .int x1, .int x2, .int x3, .int x4, .int x5]) (S' := [.int (hI h (hR h r0 15) (Int32.toNatClampNeg x5))]) (h' := h) (p := hK h (hR h r0 15) ∈ [20, 44] ∧ ixo x5 (hN h (hR h r0 15)) = true) rfl rfl rfl rfl (and2 decide_eq_true_iff Iff.rfl)).trans <| and_r <|
    r_ret rfl rfl rfl
theorem e_X_rates {d : Nat} (x1 x2 x3 x4 x5 : Int32) (r0 : Nat) (h : AH) (Q : Option Value → AH → Prop) : Cl (d + 1) q_X_rates [.ref r0, .int x1, .int x2, .int x3, .int x4, .int x5] h Q ↔ hK h r0 = 10 ∧ Wp d P_X_rates 0 [.ref r0, .int x1, .int x2, .int x3, .int x4, .int x5] [] h (fun r h' => rtk (some .int) r = true ∧ Q r h') :=
    (Cl_method (t := m_X_rates) rfl).trans (and_congr_left fun _ => decide_eq_true_iff)
/-! PenThatJumps.tricked(IIII)I -/
theorem b_X_tricked_0 {d : Nat} (x1 x2 x3 x4 : Int32) (r0 : Nat) (h : AH) (Q : Option Value → AH → Prop) : Wp d P_X_tricked 0 [.ref r0, .int x1, .int x2, .int x3, .int x4, .null, .null, .null, .null, .null] [] h Q ↔ Cl d q_X_toldPerson [.ref r0, .int x1] h (fun r h' => Wp d P_X_tricked 3 [.ref r0, .int x1, .int x2, .int x3, .int x4, .null, .null, .null, .null, .null] (r.toList ++ []) h' Q) :=
    (r_go (j := 1) (L' := [.ref r0, .int x1, .int x2, .int x3, .int x4, .null, .null, .null, .null, .null]) (S' := [.ref r0]) (h' := h) rfl rfl rfl rfl).trans <|
    (r_go (j := 2) (L' := [.ref r0, .int x1, .int x2, .int x3, .int x4, .null, .null, .null, .null, .null]) (S' := [.int x1, .ref r0]) (h' := h) rfl rfl rfl rfl).trans <|
    r_call (j := 3) (a := [.ref r0, .int x1]) (S' := []) rfl rfl rfl rfl rfl rfl rfl
theorem b_X_tricked_3 {d : Nat} (x1 x2 x3 x4 : Int32) (r0 t0 : Nat) (h : AH) (Q : Option Value → AH → Prop) : Wp d P_X_tricked 3 [.ref r0, .int x1, .int x2, .int x3, .int x4, .null, .null, .null, .null, .null] [.ref t0] h Q ↔ Cl d q_X_toldPlan [.ref r0, .int x2] h (fun r h' => Wp d P_X_tricked 7 [.ref r0, .int x1, .int x2, .int x3, .int x4, .ref t0, .null, .null, .null, .null] (r.toList ++ []) h' Q) :=
    (r_go (j := 4) (L' := [.ref r0, .int x1, .int x2, .int x3, .int x4, .ref t0, .null, .null, .null, .null]) (S' := []) (h' := h) rfl rfl rfl rfl).trans <|
    (r_go (j := 5) (L' := [.ref r0, .int x1, .int x2, .int x3, .int x4, .ref t0, .null, .null, .null, .null]) (S' := [.ref r0]) (h' := h) rfl rfl rfl rfl).trans <|
    (r_go (j := 6) (L' := [.ref r0, .int x1, .int x2, .int x3, .int x4, .ref t0, .null, .null, .null, .null]) (S' := [.int x2, .ref r0]) (h' := h) rfl rfl rfl rfl).trans <|
    r_call (j := 7) (a := [.ref r0, .int x2]) (S' := []) rfl rfl rfl rfl rfl rfl rfl
theorem b_X_tricked_7 {d : Nat} (x1 x2 x3 x4 : Int32) (r0 r5 t0 : Nat) (h : AH) (Q : Option Value → AH → Prop) : Wp d P_X_tricked 7 [.ref r0, .int x1, .int x2, .int x3, .int x4, .ref r5, .null, .null, .null, .null] [.ref t0] h Q ↔ Cl d q_X_readerOf [.ref r0, .int x3] h (fun r h' => Wp d P_X_tricked 11 [.ref r0, .int x1, .int x2, .int x3, .int x4, .ref r5, .ref t0, .null, .null, .null] (r.toList ++ []) h' Q) :=
    (r_go (j := 8) (L' := [.ref r0, .int x1, .int x2, .int x3, .int x4, .ref r5, .ref t0, .null, .null, .null]) (S' := []) (h' := h) rfl rfl rfl rfl).trans <|
    (r_go (j := 9) (L' := [.ref r0, .int x1, .int x2, .int x3, .int x4, .ref r5, .ref t0, .null, .null, .null]) (S' := [.ref r0]) (h' := h) rfl rfl rfl rfl).trans <|
    (r_go (j := 10) (L' := [.ref r0, .int x1, .int x2, .int x3, .int x4, .ref r5, .ref t0, .null, .null, .null]) (S' := [.int x3, .ref r0]) (h' := h) rfl rfl rfl rfl).trans <|
    r_call (j := 11) (a := [.ref r0, .int x3]) (S' := []) rfl rfl rfl rfl rfl rfl rfl
theorem b_X_tricked_11 {d : Nat} (x1 x2 x3 x4 : Int32) (r0 r5 r6 t0 : Nat) (h : AH) (Q : Option Value → AH → Prop) : Wp d P_X_tricked 11 [.ref r0, .int x1, .int x2, .int x3, .int x4, .ref r5, .ref r6, .null, .null, .null] [.ref t0] h Q ↔ (r5 = 0 ∨ 100 ≤ r5) ∧ (r5 = 0 → Wp d P_X_tricked 23 [.ref r0, .int x1, .int x2, .int x3, .int x4, .ref r5, .ref r6, .ref t0, .null, .null] [] h Q) ∧ (¬ (r5 = 0) → Wp d P_X_tricked 14 [.ref r0, .int x1, .int x2, .int x3, .int x4, .ref r5, .ref r6, .ref t0, .null, .null] [] h Q) :=
    (r_go (j := 12) (L' := [.ref r0, .int x1, .int x2, .int x3, .int x4, .ref r5, .ref r6, .ref t0, .null, .null]) (S' := []) (h' := h) rfl rfl rfl rfl).trans <|
    (r_go (j := 13) (L' := [.ref r0, .int x1, .int x2, .int x3, .int x4, .ref r5, .ref r6, .ref t0, .null, .null]) (S' := [.ref r5]) (h' := h) rfl rfl rfl rfl).trans <|
    r_null (j := 14) rfl rfl
theorem b_X_tricked_14 {d : Nat} (x1 x2 x3 x4 : Int32) (r0 r5 r6 r7 : Nat) (h : AH) (Q : Option Value → AH → Prop) : Wp d P_X_tricked 14 [.ref r0, .int x1, .int x2, .int x3, .int x4, .ref r5, .ref r6, .ref r7, .null, .null] [] h Q ↔ (r6 = 0 ∨ 100 ≤ r6) ∧ (r6 = 0 → Wp d P_X_tricked 23 [.ref r0, .int x1, .int x2, .int x3, .int x4, .ref r5, .ref r6, .ref r7, .null, .null] [] h Q) ∧ (¬ (r6 = 0) → Wp d P_X_tricked 16 [.ref r0, .int x1, .int x2, .int x3, .int x4, .ref r5, .ref r6, .ref r7, .null, .null] [] h Q) :=
    (r_go (j := 15) (L' := [.ref r0, .int x1, .int x2, .int x3, .int x4, .ref r5, .ref r6, .ref r7, .null, .null]) (S' := [.ref r6]) (h' := h) rfl rfl rfl rfl).trans <|
    r_null (j := 16) rfl rfl
theorem b_X_tricked_16 {d : Nat} (x1 x2 x3 x4 : Int32) (r0 r5 r6 r7 : Nat) (h : AH) (Q : Option Value → AH → Prop) : Wp d P_X_tricked 16 [.ref r0, .int x1, .int x2, .int x3, .int x4, .ref r5, .ref r6, .ref r7, .null, .null] [] h Q ↔ (r7 = 0 ∨ 100 ≤ r7) ∧ (r7 = 0 → Wp d P_X_tricked 23 [.ref r0, .int x1, .int x2, .int x3, .int x4, .ref r5, .ref r6, .ref r7, .null, .null] [] h Q) ∧ (¬ (r7 = 0) → Wp d P_X_tricked 18 [.ref r0, .int x1, .int x2, .int x3, .int x4, .ref r5, .ref r6, .ref r7, .null, .null] [] h Q) :=
    (r_go (j := 17) (L' := [.ref r0, .int x1, .int x2, .int x3, .int x4, .ref r5, .ref r6, .ref r7, .null, .null]) (S' := [.ref r7]) (h' := h) rfl rfl rfl rfl).trans <|
    r_null (j := 18) rfl rfl
theorem b_X_tricked_18 {d : Nat} (x1 x2 x3 x4 : Int32) (r0 r5 r6 r7 : Nat) (h : AH) (Q : Option Value → AH → Prop) : Wp d P_X_tricked 18 [.ref r0, .int x1, .int x2, .int x3, .int x4, .ref r5, .ref r6, .ref r7, .null, .null] [] h Q ↔ Cl d q_X_within [.int x4, .int 1, .int 40] h (fun r h' => Wp d P_X_tricked 22 [.ref r0, .int x1, .int x2, .int x3, .int x4, .ref r5, .ref r6, .ref r7, .null, .null] (r.toList ++ []) h' Q) :=
    (r_go (j := 19) (L' := [.ref r0, .int x1, .int x2, .int x3, .int x4, .ref r5, .ref r6, .ref r7, .null, .null]) (S' := [.int x4]) (h' := h) rfl rfl rfl rfl).trans <|
    (r_iconst (j := 20) (x := 1) rfl i32_1 rfl).trans <|
    (r_bipush (j := 21) (x := 40) rfl i32_40 rfl).trans <|
    r_call (j := 22) (a := [.int x4, .int 1, .int 40]) (S' := []) rfl rfl rfl rfl rfl rfl rfl
theorem b_X_tricked_22 {d : Nat} (x1 x2 x3 x4 s0 : Int32) (r0 r5 r6 r7 : Nat) (h : AH) (Q : Option Value → AH → Prop) : Wp d P_X_tricked 22 [.ref r0, .int x1, .int x2, .int x3, .int x4, .ref r5, .ref r6, .ref r7, .null, .null] [.int s0] h Q ↔ (¬ s0 = 0 → Wp d P_X_tricked 25 [.ref r0, .int x1, .int x2, .int x3, .int x4, .ref r5, .ref r6, .ref r7, .null, .null] [] h Q) ∧ (¬ (¬ s0 = 0) → Wp d P_X_tricked 23 [.ref r0, .int x1, .int x2, .int x3, .int x4, .ref r5, .ref r6, .ref r7, .null, .null] [] h Q) :=
    r_if (j := 23) rfl (cd_ne _ _) rfl
theorem b_X_tricked_23 {d : Nat} (x1 x2 x3 x4 : Int32) (r0 r5 r6 r7 : Nat) (h : AH) (Q : Option Value → AH → Prop) : Wp d P_X_tricked 23 [.ref r0, .int x1, .int x2, .int x3, .int x4, .ref r5, .ref r6, .ref r7, .null, .null] [] h Q ↔ Q (some (.int (-1))) h :=
    (r_iconst (j := 24) (x := (-1)) rfl i32_m1 rfl).trans <|
    r_ret rfl rfl rfl
theorem b_X_tricked_25 {d : Nat} (x1 x2 x3 x4 : Int32) (r0 r5 r6 r7 : Nat) (h : AH) (Q : Option Value → AH → Prop) : Wp d P_X_tricked 25 [.ref r0, .int x1, .int x2, .int x3, .int x4, .ref r5, .ref r6, .ref r7, .null, .null] [] h Q ↔ (hK h r0 = 10) ∧ ((hK h r5 = 3) ∧ ((hK h r5 = 3) ∧ ((hK h r5 = 3) ∧ (Cl d q_Pe_tell [.ref (hR h r0 12), .int (hI h r5 1), .int (hI h r5 2), .int (hI h r5 3), .int 0] h (fun r h' => Wp d P_X_tricked 35 [.ref r0, .int x1, .int x2, .int x3, .int x4, .ref r5, .ref r6, .ref r7, .null, .null] (r.toList ++ []) h' Q))))) :=
    (r_go (j := 26) (L' := [.ref r0, .int x1, .int x2, .int x3, .int x4, .ref r5, .ref r6, .ref r7, .null, .null]) (S' := [.ref r0]) (h' := h) rfl rfl rfl rfl).trans <|
    (r_guard (j := 27) (L' := [.ref r0, .int x1, .int x2, .int x3, .int x4, .ref r5, .ref r6, .ref r7, .null, .null]) (S' := [.ref (hR h r0 12)]) (h' := h) (p := hK h r0 = 10) rfl rfl rfl rfl (decide_eq_true_iff)).trans <| and_r <|
    (r_go (j := 28) (L' := [.ref r0, .int x1, .int x2, .int x3, .int x4, .ref r5, .ref r6, .ref r7, .null, .null]) (S' := [.ref r5, .ref (hR h r0 12)]) (h' := h) rfl rfl rfl rfl).trans <|
    (r_guard (j := 29) (L' := [.ref r0, .int x1, .int x2, .int x3, .int x4, .ref r5, .ref r6, .ref r7, .null, .null]) (S' := [.int (hI h r5 1), .ref (hR h r0 12)]) (h' := h) (p := hK h r5 = 3) rfl rfl rfl rfl (decide_eq_true_iff)).trans <| and_r <|
    (r_go (j := 30) (L' := [.ref r0, .int x1, .int x2, .int x3, .int x4, .ref r5, .ref r6, .ref r7, .null, .null]) (S' := [.ref r5, .int (hI h r5 1), .ref (hR h r0 12)]) (h' := h) rfl rfl rfl rfl).trans <|
    (r_guard (j := 31) (L' := [.ref r0, .int x1, .int x2, .int x3, .int x4, .ref r5, .ref r6, .ref r7, .null, .null]) (S' := [.int (hI h r5 2), .int (hI h r5 1), .ref (hR h r0 12)]) (h' := h) (p := hK h r5 = 3) rfl rfl rfl rfl (decide_eq_true_iff)).trans <| and_r <|
    (r_go (j := 32) (L' := [.ref r0, .int x1, .int x2, .int x3, .int x4, .ref r5, .ref r6, .ref r7, .null, .null]) (S' := [.ref r5, .int (hI h r5 2), .int (hI h r5 1), .ref (hR h r0 12)]) (h' := h) rfl rfl rfl rfl).trans <|
    (r_guard (j := 33) (L' := [.ref r0, .int x1, .int x2, .int x3, .int x4, .ref r5, .ref r6, .ref r7, .null, .null]) (S' := [.int (hI h r5 3), .int (hI h r5 2), .int (hI h r5 1), .ref (hR h r0 12)]) (h' := h) (p := hK h r5 = 3) rfl rfl rfl rfl (decide_eq_true_iff)).trans <| and_r <|
    (r_iconst (j := 34) (x := 0) rfl i32_0 rfl).trans <|
    r_call (j := 35) (a := [.ref (hR h r0 12), .int (hI h r5 1), .int (hI h r5 2), .int (hI h r5 3), .int 0]) (S' := []) rfl rfl rfl rfl rfl rfl rfl
theorem b_X_tricked_35 {d : Nat} (x1 x2 x3 x4 : Int32) (r0 r5 r6 r7 : Nat) (h : AH) (Q : Option Value → AH → Prop) : Wp d P_X_tricked 35 [.ref r0, .int x1, .int x2, .int x3, .int x4, .ref r5, .ref r6, .ref r7, .null, .null] [] h Q ↔ (hK h r0 = 10) ∧ ((hK h r0 = 10) ∧ ((hK h r0 = 10) ∧ (Cl d q_Ch_fill [.ref (hR h r0 7), .ref (hR h r0 12), .ref r6, .ref (hR h r0 13)] h (fun r h' => Wp d P_X_tricked 43 [.ref r0, .int x1, .int x2, .int x3, .int x4, .ref r5, .ref r6, .ref r7, .null, .null] (r.toList ++ []) h' Q)))) :=
    (r_go (j := 36) (L' := [.ref r0, .int x1, .int x2, .int x3, .int x4, .ref r5, .ref r6, .ref r7, .null, .null]) (S' := [.ref r0]) (h' := h) rfl rfl rfl rfl).trans <|
    (r_guard (j := 37) (L' := [.ref r0, .int x1, .int x2, .int x3, .int x4, .ref r5, .ref r6, .ref r7, .null, .null]) (S' := [.ref (hR h r0 7)]) (h' := h) (p := hK h r0 = 10) rfl rfl rfl rfl (decide_eq_true_iff)).trans <| and_r <|
    (r_go (j := 38) (L' := [.ref r0, .int x1, .int x2, .int x3, .int x4, .ref r5, .ref r6, .ref r7, .null, .null]) (S' := [.ref r0, .ref (hR h r0 7)]) (h' := h) rfl rfl rfl rfl).trans <|
    (r_guard (j := 39) (L' := [.ref r0, .int x1, .int x2, .int x3, .int x4, .ref r5, .ref r6, .ref r7, .null, .null]) (S' := [.ref (hR h r0 12), .ref (hR h r0 7)]) (h' := h) (p := hK h r0 = 10) rfl rfl rfl rfl (decide_eq_true_iff)).trans <| and_r <|
    (r_go (j := 40) (L' := [.ref r0, .int x1, .int x2, .int x3, .int x4, .ref r5, .ref r6, .ref r7, .null, .null]) (S' := [.ref r6, .ref (hR h r0 12), .ref (hR h r0 7)]) (h' := h) rfl rfl rfl rfl).trans <|
    (r_go (j := 41) (L' := [.ref r0, .int x1, .int x2, .int x3, .int x4, .ref r5, .ref r6, .ref r7, .null, .null]) (S' := [.ref r0, .ref r6, .ref (hR h r0 12), .ref (hR h r0 7)]) (h' := h) rfl rfl rfl rfl).trans <|
    (r_guard (j := 42) (L' := [.ref r0, .int x1, .int x2, .int x3, .int x4, .ref r5, .ref r6, .ref r7, .null, .null]) (S' := [.ref (hR h r0 13), .ref r6, .ref (hR h r0 12), .ref (hR h r0 7)]) (h' := h) (p := hK h r0 = 10) rfl rfl rfl rfl (decide_eq_true_iff)).trans <| and_r <|
    r_call (j := 43) (a := [.ref (hR h r0 7), .ref (hR h r0 12), .ref r6, .ref (hR h r0 13)]) (S' := []) rfl rfl rfl rfl rfl rfl rfl
theorem b_X_tricked_43 {d : Nat} (x1 x2 x3 x4 : Int32) (r0 r5 r6 r7 : Nat) (h : AH) (Q : Option Value → AH → Prop) : Wp d P_X_tricked 43 [.ref r0, .int x1, .int x2, .int x3, .int x4, .ref r5, .ref r6, .ref r7, .null, .null] [] h Q ↔ (hK h r0 = 10) ∧ ((hK h r5 = 3) ∧ ((hK h r5 = 3) ∧ ((hK h r5 = 3) ∧ (Cl d q_Pe_tell [.ref (hR h r0 12), .int (hI h r5 1), .int (hI h r5 2), .int (hI h r5 3), .int 1] h (fun r h' => Wp d P_X_tricked 53 [.ref r0, .int x1, .int x2, .int x3, .int x4, .ref r5, .ref r6, .ref r7, .null, .null] (r.toList ++ []) h' Q))))) :=
    (r_go (j := 44) (L' := [.ref r0, .int x1, .int x2, .int x3, .int x4, .ref r5, .ref r6, .ref r7, .null, .null]) (S' := [.ref r0]) (h' := h) rfl rfl rfl rfl).trans <|
    (r_guard (j := 45) (L' := [.ref r0, .int x1, .int x2, .int x3, .int x4, .ref r5, .ref r6, .ref r7, .null, .null]) (S' := [.ref (hR h r0 12)]) (h' := h) (p := hK h r0 = 10) rfl rfl rfl rfl (decide_eq_true_iff)).trans <| and_r <|
    (r_go (j := 46) (L' := [.ref r0, .int x1, .int x2, .int x3, .int x4, .ref r5, .ref r6, .ref r7, .null, .null]) (S' := [.ref r5, .ref (hR h r0 12)]) (h' := h) rfl rfl rfl rfl).trans <|
    (r_guard (j := 47) (L' := [.ref r0, .int x1, .int x2, .int x3, .int x4, .ref r5, .ref r6, .ref r7, .null, .null]) (S' := [.int (hI h r5 1), .ref (hR h r0 12)]) (h' := h) (p := hK h r5 = 3) rfl rfl rfl rfl (decide_eq_true_iff)).trans <| and_r <|
    (r_go (j := 48) (L' := [.ref r0, .int x1, .int x2, .int x3, .int x4, .ref r5, .ref r6, .ref r7, .null, .null]) (S' := [.ref r5, .int (hI h r5 1), .ref (hR h r0 12)]) (h' := h) rfl rfl rfl rfl).trans <|
    (r_guard (j := 49) (L' := [.ref r0, .int x1, .int x2, .int x3, .int x4, .ref r5, .ref r6, .ref r7, .null, .null]) (S' := [.int (hI h r5 2), .int (hI h r5 1), .ref (hR h r0 12)]) (h' := h) (p := hK h r5 = 3) rfl rfl rfl rfl (decide_eq_true_iff)).trans <| and_r <|
    (r_go (j := 50) (L' := [.ref r0, .int x1, .int x2, .int x3, .int x4, .ref r5, .ref r6, .ref r7, .null, .null]) (S' := [.ref r5, .int (hI h r5 2), .int (hI h r5 1), .ref (hR h r0 12)]) (h' := h) rfl rfl rfl rfl).trans <|
    (r_guard (j := 51) (L' := [.ref r0, .int x1, .int x2, .int x3, .int x4, .ref r5, .ref r6, .ref r7, .null, .null]) (S' := [.int (hI h r5 3), .int (hI h r5 2), .int (hI h r5 1), .ref (hR h r0 12)]) (h' := h) (p := hK h r5 = 3) rfl rfl rfl rfl (decide_eq_true_iff)).trans <| and_r <|
    (r_iconst (j := 52) (x := 1) rfl i32_1 rfl).trans <|
    r_call (j := 53) (a := [.ref (hR h r0 12), .int (hI h r5 1), .int (hI h r5 2), .int (hI h r5 3), .int 1]) (S' := []) rfl rfl rfl rfl rfl rfl rfl
theorem b_X_tricked_53 {d : Nat} (x1 x2 x3 x4 : Int32) (r0 r5 r6 r7 : Nat) (h : AH) (Q : Option Value → AH → Prop) : Wp d P_X_tricked 53 [.ref r0, .int x1, .int x2, .int x3, .int x4, .ref r5, .ref r6, .ref r7, .null, .null] [] h Q ↔ (hK h r0 = 10) ∧ ((hK h r0 = 10) ∧ ((hK h r0 = 10) ∧ (Cl d q_Ch_fill [.ref (hR h r0 7), .ref (hR h r0 12), .ref r6, .ref (hR h r0 14)] h (fun r h' => Wp d P_X_tricked 61 [.ref r0, .int x1, .int x2, .int x3, .int x4, .ref r5, .ref r6, .ref r7, .null, .null] (r.toList ++ []) h' Q)))) :=
    (r_go (j := 54) (L' := [.ref r0, .int x1, .int x2, .int x3, .int x4, .ref r5, .ref r6, .ref r7, .null, .null]) (S' := [.ref r0]) (h' := h) rfl rfl rfl rfl).trans <|
    (r_guard (j := 55) (L' := [.ref r0, .int x1, .int x2, .int x3, .int x4, .ref r5, .ref r6, .ref r7, .null, .null]) (S' := [.ref (hR h r0 7)]) (h' := h) (p := hK h r0 = 10) rfl rfl rfl rfl (decide_eq_true_iff)).trans <| and_r <|
    (r_go (j := 56) (L' := [.ref r0, .int x1, .int x2, .int x3, .int x4, .ref r5, .ref r6, .ref r7, .null, .null]) (S' := [.ref r0, .ref (hR h r0 7)]) (h' := h) rfl rfl rfl rfl).trans <|
    (r_guard (j := 57) (L' := [.ref r0, .int x1, .int x2, .int x3, .int x4, .ref r5, .ref r6, .ref r7, .null, .null]) (S' := [.ref (hR h r0 12), .ref (hR h r0 7)]) (h' := h) (p := hK h r0 = 10) rfl rfl rfl rfl (decide_eq_true_iff)).trans <| and_r <|
    (r_go (j := 58) (L' := [.ref r0, .int x1, .int x2, .int x3, .int x4, .ref r5, .ref r6, .ref r7, .null, .null]) (S' := [.ref r6, .ref (hR h r0 12), .ref (hR h r0 7)]) (h' := h) rfl rfl rfl rfl).trans <|
    (r_go (j := 59) (L' := [.ref r0, .int x1, .int x2, .int x3, .int x4, .ref r5, .ref r6, .ref r7, .null, .null]) (S' := [.ref r0, .ref r6, .ref (hR h r0 12), .ref (hR h r0 7)]) (h' := h) rfl rfl rfl rfl).trans <|
    (r_guard (j := 60) (L' := [.ref r0, .int x1, .int x2, .int x3, .int x4, .ref r5, .ref r6, .ref r7, .null, .null]) (S' := [.ref (hR h r0 14), .ref r6, .ref (hR h r0 12), .ref (hR h r0 7)]) (h' := h) (p := hK h r0 = 10) rfl rfl rfl rfl (decide_eq_true_iff)).trans <| and_r <|
    r_call (j := 61) (a := [.ref (hR h r0 7), .ref (hR h r0 12), .ref r6, .ref (hR h r0 14)]) (S' := []) rfl rfl rfl rfl rfl rfl rfl
theorem b_X_tricked_61 {d : Nat} (x1 x2 x3 x4 : Int32) (r0 r5 r6 r7 : Nat) (h : AH) (Q : Option Value → AH → Prop) : Wp d P_X_tricked 61 [.ref r0, .int x1, .int x2, .int x3, .int x4, .ref r5, .ref r6, .ref r7, .null, .null] [] h Q ↔ (hK h r0 = 10) ∧ ((hK h r0 = 10) ∧ ((hK h (hR h r0 7) = 0) ∧ (Cl d q_Si_begin [.ref (hR h r0 10), .ref r6, .int (hI h (hR h r0 7) 3)] h (fun r h' => Wp d P_X_tricked 68 [.ref r0, .int x1, .int x2, .int x3, .int x4, .ref r5, .ref r6, .ref r7, .null, .null] (r.toList ++ []) h' Q)))) :=
    (r_go (j := 62) (L' := [.ref r0, .int x1, .int x2, .int x3, .int x4, .ref r5, .ref r6, .ref r7, .null, .null]) (S' := [.ref r0]) (h' := h) rfl rfl rfl rfl).trans <|
    (r_guard (j := 63) (L' := [.ref r0, .int x1, .int x2, .int x3, .int x4, .ref r5, .ref r6, .ref r7, .null, .null]) (S' := [.ref (hR h r0 10)]) (h' := h) (p := hK h r0 = 10) rfl rfl rfl rfl (decide_eq_true_iff)).trans <| and_r <|
    (r_go (j := 64) (L' := [.ref r0, .int x1, .int x2, .int x3, .int x4, .ref r5, .ref r6, .ref r7, .null, .null]) (S' := [.ref r6, .ref (hR h r0 10)]) (h' := h) rfl rfl rfl rfl).trans <|
    (r_go (j := 65) (L' := [.ref r0, .int x1, .int x2, .int x3, .int x4, .ref r5, .ref r6, .ref r7, .null, .null]) (S' := [.ref r0, .ref r6, .ref (hR h r0 10)]) (h' := h) rfl rfl rfl rfl).trans <|
    (r_guard (j := 66) (L' := [.ref r0, .int x1, .int x2, .int x3, .int x4, .ref r5, .ref r6, .ref r7, .null, .null]) (S' := [.ref (hR h r0 7), .ref r6, .ref (hR h r0 10)]) (h' := h) (p := hK h r0 = 10) rfl rfl rfl rfl (decide_eq_true_iff)).trans <| and_r <|
    (r_guard (j := 67) (L' := [.ref r0, .int x1, .int x2, .int x3, .int x4, .ref r5, .ref r6, .ref r7, .null, .null]) (S' := [.int (hI h (hR h r0 7) 3), .ref r6, .ref (hR h r0 10)]) (h' := h) (p := hK h (hR h r0 7) = 0) rfl rfl rfl rfl (decide_eq_true_iff)).trans <| and_r <|
    r_call (j := 68) (a := [.ref (hR h r0 10), .ref r6, .int (hI h (hR h r0 7) 3)]) (S' := []) rfl rfl rfl rfl rfl rfl rfl
theorem b_X_tricked_68 {d : Nat} (x1 x2 x3 x4 : Int32) (r0 r5 r6 r7 : Nat) (h : AH) (Q : Option Value → AH → Prop) : Wp d P_X_tricked 68 [.ref r0, .int x1, .int x2, .int x3, .int x4, .ref r5, .ref r6, .ref r7, .null, .null] [] h Q ↔ Wp d P_X_tricked 72 [.ref r0, .int x1, .int x2, .int x3, .int x4, .ref r5, .ref r6, .ref r7, .int 0, .int 0] [] h Q :=
    (r_iconst (j := 69) (x := 0) rfl i32_0 rfl).trans <|
    (r_go (j := 70) (L' := [.ref r0, .int x1, .int x2, .int x3, .int x4, .ref r5, .ref r6, .ref r7, .int 0, .null]) (S' := []) (h' := h) rfl rfl rfl rfl).trans <|
    (r_iconst (j := 71) (x := 0) rfl i32_0 rfl).trans <|
    r_go (j := 72) (L' := [.ref r0, .int x1, .int x2, .int x3, .int x4, .ref r5, .ref r6, .ref r7, .int 0, .int 0]) (S' := []) (h' := h) rfl rfl rfl rfl
theorem b_X_tricked_72 {d : Nat} (x1 x2 x3 x4 x8 x9 : Int32) (r0 r5 r6 r7 : Nat) (h : AH) (Q : Option Value → AH → Prop) : Wp d P_X_tricked 72 [.ref r0, .int x1, .int x2, .int x3, .int x4, .ref r5, .ref r6, .ref r7, .int x8, .int x9] [] h Q ↔ (x4 ≤ x9 → Wp d P_X_tricked 93 [.ref r0, .int x1, .int x2, .int x3, .int x4, .ref r5, .ref r6, .ref r7, .int x8, .int x9] [] h Q) ∧ (¬ (x4 ≤ x9) → Wp d P_X_tricked 75 [.ref r0, .int x1, .int x2, .int x3, .int x4, .ref r5, .ref r6, .ref r7, .int x8, .int x9] [] h Q) :=
    (r_go (j := 73) (L' := [.ref r0, .int x1, .int x2, .int x3, .int x4, .ref r5, .ref r6, .ref r7, .int x8, .int x9]) (S' := [.int x9]) (h' := h) rfl rfl rfl rfl).trans <|
    (r_go (j := 74) (L' := [.ref r0, .int x1, .int x2, .int x3, .int x4, .ref r5, .ref r6, .ref r7, .int x8, .int x9]) (S' := [.int x4, .int x9]) (h' := h) rfl rfl rfl rfl).trans <|
    r_icmp (j := 75) rfl (cd_ge _ _) rfl
theorem b_X_tricked_75 {d : Nat} (x1 x2 x3 x4 x8 x9 : Int32) (r0 r5 r6 r7 : Nat) (h : AH) (Q : Option Value → AH → Prop) : Wp d P_X_tricked 75 [.ref r0, .int x1, .int x2, .int x3, .int x4, .ref r5, .ref r6, .ref r7, .int x8, .int x9] [] h Q ↔ (hK h r0 = 10) ∧ (Cl d q_X_tried [.ref r0, .ref r7, .int 0, .int x9, .ref (hR h r0 13)] h (fun r h' => Wp d P_X_tricked 82 [.ref r0, .int x1, .int x2, .int x3, .int x4, .ref r5, .ref r6, .ref r7, .int x8, .int x9] (r.toList ++ []) h' Q)) :=
    (r_go (j := 76) (L' := [.ref r0, .int x1, .int x2, .int x3, .int x4, .ref r5, .ref r6, .ref r7, .int x8, .int x9]) (S' := [.ref r0]) (h' := h) rfl rfl rfl rfl).trans <|
    (r_go (j := 77) (L' := [.ref r0, .int x1, .int x2, .int x3, .int x4, .ref r5, .ref r6, .ref r7, .int x8, .int x9]) (S' := [.ref r7, .ref r0]) (h' := h) rfl rfl rfl rfl).trans <|
    (r_iconst (j := 78) (x := 0) rfl i32_0 rfl).trans <|
    (r_go (j := 79) (L' := [.ref r0, .int x1, .int x2, .int x3, .int x4, .ref r5, .ref r6, .ref r7, .int x8, .int x9]) (S' := [.int x9, .int 0, .ref r7, .ref r0]) (h' := h) rfl rfl rfl rfl).trans <|
    (r_go (j := 80) (L' := [.ref r0, .int x1, .int x2, .int x3, .int x4, .ref r5, .ref r6, .ref r7, .int x8, .int x9]) (S' := [.ref r0, .int x9, .int 0, .ref r7, .ref r0]) (h' := h) rfl rfl rfl rfl).trans <|
    (r_guard (j := 81) (L' := [.ref r0, .int x1, .int x2, .int x3, .int x4, .ref r5, .ref r6, .ref r7, .int x8, .int x9]) (S' := [.ref (hR h r0 13), .int x9, .int 0, .ref r7, .ref r0]) (h' := h) (p := hK h r0 = 10) rfl rfl rfl rfl (decide_eq_true_iff)).trans <| and_r <|
    r_call (j := 82) (a := [.ref r0, .ref r7, .int 0, .int x9, .ref (hR h r0 13)]) (S' := []) rfl rfl rfl rfl rfl rfl rfl
theorem b_X_tricked_82 {d : Nat} (x1 x2 x3 x4 x8 x9 s0 : Int32) (r0 r5 r6 r7 : Nat) (h : AH) (Q : Option Value → AH → Prop) : Wp d P_X_tricked 82 [.ref r0, .int x1, .int x2, .int x3, .int x4, .ref r5, .ref r6, .ref r7, .int x8, .int x9] [.int s0] h Q ↔ (hK h r0 = 10) ∧ (Cl d q_X_tried [.ref r0, .ref r7, .int 0, .int x9, .ref (hR h r0 14)] h (fun r h' => Wp d P_X_tricked 89 [.ref r0, .int x1, .int x2, .int x3, .int x4, .ref r5, .ref r6, .ref r7, .int x8, .int x9] (r.toList ++ [.int s0]) h' Q)) :=
    (r_go (j := 83) (L' := [.ref r0, .int x1, .int x2, .int x3, .int x4, .ref r5, .ref r6, .ref r7, .int x8, .int x9]) (S' := [.ref r0, .int s0]) (h' := h) rfl rfl rfl rfl).trans <|
    (r_go (j := 84) (L' := [.ref r0, .int x1, .int x2, .int x3, .int x4, .ref r5, .ref r6, .ref r7, .int x8, .int x9]) (S' := [.ref r7, .ref r0, .int s0]) (h' := h) rfl rfl rfl rfl).trans <|
    (r_iconst (j := 85) (x := 0) rfl i32_0 rfl).trans <|
    (r_go (j := 86) (L' := [.ref r0, .int x1, .int x2, .int x3, .int x4, .ref r5, .ref r6, .ref r7, .int x8, .int x9]) (S' := [.int x9, .int 0, .ref r7, .ref r0, .int s0]) (h' := h) rfl rfl rfl rfl).trans <|
    (r_go (j := 87) (L' := [.ref r0, .int x1, .int x2, .int x3, .int x4, .ref r5, .ref r6, .ref r7, .int x8, .int x9]) (S' := [.ref r0, .int x9, .int 0, .ref r7, .ref r0, .int s0]) (h' := h) rfl rfl rfl rfl).trans <|
    (r_guard (j := 88) (L' := [.ref r0, .int x1, .int x2, .int x3, .int x4, .ref r5, .ref r6, .ref r7, .int x8, .int x9]) (S' := [.ref (hR h r0 14), .int x9, .int 0, .ref r7, .ref r0, .int s0]) (h' := h) (p := hK h r0 = 10) rfl rfl rfl rfl (decide_eq_true_iff)).trans <| and_r <|
    r_call (j := 89) (a := [.ref r0, .ref r7, .int 0, .int x9, .ref (hR h r0 14)]) (S' := [.int s0]) rfl rfl rfl rfl rfl rfl rfl
theorem b_X_tricked_89 {d : Nat} (x1 x2 x3 x4 x8 x9 s0 s1 : Int32) (r0 r5 r6 r7 : Nat) (h : AH) (Q : Option Value → AH → Prop) : Wp d P_X_tricked 89 [.ref r0, .int x1, .int x2, .int x3, .int x4, .ref r5, .ref r6, .ref r7, .int x8, .int x9] [.int s0, .int s1] h Q ↔ (s1 = s0 → Wp d P_X_tricked 91 [.ref r0, .int x1, .int x2, .int x3, .int x4, .ref r5, .ref r6, .ref r7, .int x8, .int x9] [] h Q) ∧ (¬ (s1 = s0) → Wp d P_X_tricked 90 [.ref r0, .int x1, .int x2, .int x3, .int x4, .ref r5, .ref r6, .ref r7, .int x8, .int x9] [] h Q) :=
    r_icmp (j := 90) rfl (cd_eq _ _) rfl
theorem b_X_tricked_90 {d : Nat} (x1 x2 x3 x4 x8 x9 : Int32) (r0 r5 r6 r7 : Nat) (h : AH) (Q : Option Value → AH → Prop) : Wp d P_X_tricked 90 [.ref r0, .int x1, .int x2, .int x3, .int x4, .ref r5, .ref r6, .ref r7, .int x8, .int x9] [] h Q ↔ Wp d P_X_tricked 91 [.ref r0, .int x1, .int x2, .int x3, .int x4, .ref r5, .ref r6, .ref r7, .int (x8 + 1), .int x9] [] h Q :=
    r_iinc (j := 91) (x := 1) (L' := [.ref r0, .int x1, .int x2, .int x3, .int x4, .ref r5, .ref r6, .ref r7, .int (x8 + 1), .int x9]) rfl rfl i32_1 rfl rfl
theorem b_X_tricked_91 {d : Nat} (x1 x2 x3 x4 x8 x9 : Int32) (r0 r5 r6 r7 : Nat) (h : AH) (Q : Option Value → AH → Prop) : Wp d P_X_tricked 91 [.ref r0, .int x1, .int x2, .int x3, .int x4, .ref r5, .ref r6, .ref r7, .int x8, .int x9] [] h Q ↔ Wp d P_X_tricked 72 [.ref r0, .int x1, .int x2, .int x3, .int x4, .ref r5, .ref r6, .ref r7, .int x8, .int (x9 + 1)] [] h Q :=
    (r_iinc (j := 92) (x := 1) (L' := [.ref r0, .int x1, .int x2, .int x3, .int x4, .ref r5, .ref r6, .ref r7, .int x8, .int (x9 + 1)]) rfl rfl i32_1 rfl rfl).trans <|
    r_go (j := 72) (L' := [.ref r0, .int x1, .int x2, .int x3, .int x4, .ref r5, .ref r6, .ref r7, .int x8, .int (x9 + 1)]) (S' := []) (h' := h) rfl rfl rfl rfl
theorem b_X_tricked_93 {d : Nat} (x1 x2 x3 x4 x8 x9 : Int32) (r0 r5 r6 r7 : Nat) (h : AH) (Q : Option Value → AH → Prop) : Wp d P_X_tricked 93 [.ref r0, .int x1, .int x2, .int x3, .int x4, .ref r5, .ref r6, .ref r7, .int x8, .int x9] [] h Q ↔ Q (some (.int x8)) h :=
    (r_go (j := 94) (L' := [.ref r0, .int x1, .int x2, .int x3, .int x4, .ref r5, .ref r6, .ref r7, .int x8, .int x9]) (S' := [.int x8]) (h' := h) rfl rfl rfl rfl).trans <|
    r_ret rfl rfl rfl
theorem e_X_tricked {d : Nat} (x1 x2 x3 x4 : Int32) (r0 : Nat) (h : AH) (Q : Option Value → AH → Prop) : Cl (d + 1) q_X_tricked [.ref r0, .int x1, .int x2, .int x3, .int x4] h Q ↔ hK h r0 = 10 ∧ Wp d P_X_tricked 0 [.ref r0, .int x1, .int x2, .int x3, .int x4, .null, .null, .null, .null, .null] [] h (fun r h' => rtk (some .int) r = true ∧ Q r h') :=
    (Cl_method (t := m_X_tricked) rfl).trans (and_congr_left fun _ => decide_eq_true_iff)
/-! PenThatJumps.apart(III)I -/
theorem b_X_apart_0 {d : Nat} (x1 x2 x3 : Int32) (r0 : Nat) (h : AH) (Q : Option Value → AH → Prop) : Wp d P_X_apart 0 [.ref r0, .int x1, .int x2, .int x3, .null] [] h Q ↔ Cl d q_X_toldPlan [.ref r0, .int x1] h (fun r h' => Wp d P_X_apart 3 [.ref r0, .int x1, .int x2, .int x3, .null] (r.toList ++ []) h' Q) :=
    (r_go (j := 1) (L' := [.ref r0, .int x1, .int x2, .int x3, .null]) (S' := [.ref r0]) (h' := h) rfl rfl rfl rfl).trans <|
    (r_go (j := 2) (L' := [.ref r0, .int x1, .int x2, .int x3, .null]) (S' := [.int x1, .ref r0]) (h' := h) rfl rfl rfl rfl).trans <|
    r_call (j := 3) (a := [.ref r0, .int x1]) (S' := []) rfl rfl rfl rfl rfl rfl rfl
theorem b_X_apart_3 {d : Nat} (x1 x2 x3 : Int32) (r0 t0 : Nat) (h : AH) (Q : Option Value → AH → Prop) : Wp d P_X_apart 3 [.ref r0, .int x1, .int x2, .int x3, .null] [.ref t0] h Q ↔ (t0 = 0 ∨ 100 ≤ t0) ∧ (t0 = 0 → Wp d P_X_apart 16 [.ref r0, .int x1, .int x2, .int x3, .ref t0] [] h Q) ∧ (¬ (t0 = 0) → Wp d P_X_apart 6 [.ref r0, .int x1, .int x2, .int x3, .ref t0] [] h Q) :=
    (r_go (j := 4) (L' := [.ref r0, .int x1, .int x2, .int x3, .ref t0]) (S' := []) (h' := h) rfl rfl rfl rfl).trans <|
    (r_go (j := 5) (L' := [.ref r0, .int x1, .int x2, .int x3, .ref t0]) (S' := [.ref t0]) (h' := h) rfl rfl rfl rfl).trans <|
    r_null (j := 6) rfl rfl
theorem b_X_apart_6 {d : Nat} (x1 x2 x3 : Int32) (r0 r4 : Nat) (h : AH) (Q : Option Value → AH → Prop) : Wp d P_X_apart 6 [.ref r0, .int x1, .int x2, .int x3, .ref r4] [] h Q ↔ Cl d q_X_within [.int x2, .int 0, .int 9] h (fun r h' => Wp d P_X_apart 10 [.ref r0, .int x1, .int x2, .int x3, .ref r4] (r.toList ++ []) h' Q) :=
    (r_go (j := 7) (L' := [.ref r0, .int x1, .int x2, .int x3, .ref r4]) (S' := [.int x2]) (h' := h) rfl rfl rfl rfl).trans <|
    (r_iconst (j := 8) (x := 0) rfl i32_0 rfl).trans <|
    (r_bipush (j := 9) (x := 9) rfl i32_9 rfl).trans <|
    r_call (j := 10) (a := [.int x2, .int 0, .int 9]) (S' := []) rfl rfl rfl rfl rfl rfl rfl
theorem b_X_apart_10 {d : Nat} (x1 x2 x3 s0 : Int32) (r0 r4 : Nat) (h : AH) (Q : Option Value → AH → Prop) : Wp d P_X_apart 10 [.ref r0, .int x1, .int x2, .int x3, .ref r4] [.int s0] h Q ↔ (s0 = 0 → Wp d P_X_apart 16 [.ref r0, .int x1, .int x2, .int x3, .ref r4] [] h Q) ∧ (¬ (s0 = 0) → Wp d P_X_apart 11 [.ref r0, .int x1, .int x2, .int x3, .ref r4] [] h Q) :=
    r_if (j := 11) rfl (cd_eq _ _) rfl
theorem b_X_apart_11 {d : Nat} (x1 x2 x3 : Int32) (r0 r4 : Nat) (h : AH) (Q : Option Value → AH → Prop) : Wp d P_X_apart 11 [.ref r0, .int x1, .int x2, .int x3, .ref r4] [] h Q ↔ Cl d q_X_within [.int x3, .int 0, .int 9] h (fun r h' => Wp d P_X_apart 15 [.ref r0, .int x1, .int x2, .int x3, .ref r4] (r.toList ++ []) h' Q) :=
    (r_go (j := 12) (L' := [.ref r0, .int x1, .int x2, .int x3, .ref r4]) (S' := [.int x3]) (h' := h) rfl rfl rfl rfl).trans <|
    (r_iconst (j := 13) (x := 0) rfl i32_0 rfl).trans <|
    (r_bipush (j := 14) (x := 9) rfl i32_9 rfl).trans <|
    r_call (j := 15) (a := [.int x3, .int 0, .int 9]) (S' := []) rfl rfl rfl rfl rfl rfl rfl
theorem b_X_apart_15 {d : Nat} (x1 x2 x3 s0 : Int32) (r0 r4 : Nat) (h : AH) (Q : Option Value → AH → Prop) : Wp d P_X_apart 15 [.ref r0, .int x1, .int x2, .int x3, .ref r4] [.int s0] h Q ↔ (¬ s0 = 0 → Wp d P_X_apart 18 [.ref r0, .int x1, .int x2, .int x3, .ref r4] [] h Q) ∧ (¬ (¬ s0 = 0) → Wp d P_X_apart 16 [.ref r0, .int x1, .int x2, .int x3, .ref r4] [] h Q) :=
    r_if (j := 16) rfl (cd_ne _ _) rfl
theorem b_X_apart_16 {d : Nat} (x1 x2 x3 : Int32) (r0 r4 : Nat) (h : AH) (Q : Option Value → AH → Prop) : Wp d P_X_apart 16 [.ref r0, .int x1, .int x2, .int x3, .ref r4] [] h Q ↔ Q (some (.int (-1))) h :=
    (r_iconst (j := 17) (x := (-1)) rfl i32_m1 rfl).trans <|
    r_ret rfl rfl rfl
theorem b_X_apart_18 {d : Nat} (x1 x2 x3 : Int32) (r0 r4 : Nat) (h : AH) (Q : Option Value → AH → Prop) : Wp d P_X_apart 18 [.ref r0, .int x1, .int x2, .int x3, .ref r4] [] h Q ↔ Cl d q_X_seatDoer [.ref r0, .ref r4, .int x2] h (fun r h' => Wp d P_X_apart 22 [.ref r0, .int x1, .int x2, .int x3, .ref r4] (r.toList ++ []) h' Q) :=
    (r_go (j := 19) (L' := [.ref r0, .int x1, .int x2, .int x3, .ref r4]) (S' := [.ref r0]) (h' := h) rfl rfl rfl rfl).trans <|
    (r_go (j := 20) (L' := [.ref r0, .int x1, .int x2, .int x3, .ref r4]) (S' := [.ref r4, .ref r0]) (h' := h) rfl rfl rfl rfl).trans <|
    (r_go (j := 21) (L' := [.ref r0, .int x1, .int x2, .int x3, .ref r4]) (S' := [.int x2, .ref r4, .ref r0]) (h' := h) rfl rfl rfl rfl).trans <|
    r_call (j := 22) (a := [.ref r0, .ref r4, .int x2]) (S' := []) rfl rfl rfl rfl rfl rfl rfl
theorem b_X_apart_22 {d : Nat} (x1 x2 x3 : Int32) (r0 r4 : Nat) (h : AH) (Q : Option Value → AH → Prop) : Wp d P_X_apart 22 [.ref r0, .int x1, .int x2, .int x3, .ref r4] [] h Q ↔ Cl d q_X_unlikeDoer [.ref r0, .ref r4, .int x3] h (fun r h' => Wp d P_X_apart 26 [.ref r0, .int x1, .int x2, .int x3, .ref r4] (r.toList ++ []) h' Q) :=
    (r_go (j := 23) (L' := [.ref r0, .int x1, .int x2, .int x3, .ref r4]) (S' := [.ref r0]) (h' := h) rfl rfl rfl rfl).trans <|
    (r_go (j := 24) (L' := [.ref r0, .int x1, .int x2, .int x3, .ref r4]) (S' := [.ref r4, .ref r0]) (h' := h) rfl rfl rfl rfl).trans <|
    (r_go (j := 25) (L' := [.ref r0, .int x1, .int x2, .int x3, .ref r4]) (S' := [.int x3, .ref r4, .ref r0]) (h' := h) rfl rfl rfl rfl).trans <|
    r_call (j := 26) (a := [.ref r0, .ref r4, .int x3]) (S' := []) rfl rfl rfl rfl rfl rfl rfl
theorem b_X_apart_26 {d : Nat} (x1 x2 x3 s0 : Int32) (r0 r4 : Nat) (h : AH) (Q : Option Value → AH → Prop) : Wp d P_X_apart 26 [.ref r0, .int x1, .int x2, .int x3, .ref r4] [.int s0] h Q ↔ Q (some (.int s0)) h :=
    r_ret rfl rfl rfl
theorem e_X_apart {d : Nat} (x1 x2 x3 : Int32) (r0 : Nat) (h : AH) (Q : Option Value → AH → Prop) : Cl (d + 1) q_X_apart [.ref r0, .int x1, .int x2, .int x3] h Q ↔ hK h r0 = 10 ∧ Wp d P_X_apart 0 [.ref r0, .int x1, .int x2, .int x3, .null] [] h (fun r h' => rtk (some .int) r = true ∧ Q r h') :=
    (Cl_method (t := m_X_apart) rfl).trans (and_congr_left fun _ => decide_eq_true_iff)
/-! PenThatJumps.same(II)I -/
theorem b_X_same_0 {d : Nat} (x1 x2 : Int32) (r0 : Nat) (h : AH) (Q : Option Value → AH → Prop) : Wp d P_X_same 0 [.ref r0, .int x1, .int x2, .null, .null, .null] [] h Q ↔ Cl d q_X_toldPlan [.ref r0, .int x1] h (fun r h' => Wp d P_X_same 3 [.ref r0, .int x1, .int x2, .null, .null, .null] (r.toList ++ []) h' Q) :=
    (r_go (j := 1) (L' := [.ref r0, .int x1, .int x2, .null, .null, .null]) (S' := [.ref r0]) (h' := h) rfl rfl rfl rfl).trans <|
    (r_go (j := 2) (L' := [.ref r0, .int x1, .int x2, .null, .null, .null]) (S' := [.int x1, .ref r0]) (h' := h) rfl rfl rfl rfl).trans <|
    r_call (j := 3) (a := [.ref r0, .int x1]) (S' := []) rfl rfl rfl rfl rfl rfl rfl
theorem b_X_same_3 {d : Nat} (x1 x2 : Int32) (r0 t0 : Nat) (h : AH) (Q : Option Value → AH → Prop) : Wp d P_X_same 3 [.ref r0, .int x1, .int x2, .null, .null, .null] [.ref t0] h Q ↔ (t0 = 0 ∨ 100 ≤ t0) ∧ (t0 = 0 → Wp d P_X_same 11 [.ref r0, .int x1, .int x2, .ref t0, .null, .null] [] h Q) ∧ (¬ (t0 = 0) → Wp d P_X_same 6 [.ref r0, .int x1, .int x2, .ref t0, .null, .null] [] h Q) :=
    (r_go (j := 4) (L' := [.ref r0, .int x1, .int x2, .ref t0, .null, .null]) (S' := []) (h' := h) rfl rfl rfl rfl).trans <|
    (r_go (j := 5) (L' := [.ref r0, .int x1, .int x2, .ref t0, .null, .null]) (S' := [.ref t0]) (h' := h) rfl rfl rfl rfl).trans <|
    r_null (j := 6) rfl rfl
theorem b_X_same_6 {d : Nat} (x1 x2 : Int32) (r0 r3 : Nat) (h : AH) (Q : Option Value → AH → Prop) : Wp d P_X_same 6 [.ref r0, .int x1, .int x2, .ref r3, .null, .null] [] h Q ↔ Cl d q_X_within [.int x2, .int 0, .int 9] h (fun r h' => Wp d P_X_same 10 [.ref r0, .int x1, .int x2, .ref r3, .null, .null] (r.toList ++ []) h' Q) :=
    (r_go (j := 7) (L' := [.ref r0, .int x1, .int x2, .ref r3, .null, .null]) (S' := [.int x2]) (h' := h) rfl rfl rfl rfl).trans <|
    (r_iconst (j := 8) (x := 0) rfl i32_0 rfl).trans <|
    (r_bipush (j := 9) (x := 9) rfl i32_9 rfl).trans <|
    r_call (j := 10) (a := [.int x2, .int 0, .int 9]) (S' := []) rfl rfl rfl rfl rfl rfl rfl
theorem b_X_same_10 {d : Nat} (x1 x2 s0 : Int32) (r0 r3 : Nat) (h : AH) (Q : Option Value → AH → Prop) : Wp d P_X_same 10 [.ref r0, .int x1, .int x2, .ref r3, .null, .null] [.int s0] h Q ↔ (¬ s0 = 0 → Wp d P_X_same 13 [.ref r0, .int x1, .int x2, .ref r3, .null, .null] [] h Q) ∧ (¬ (¬ s0 = 0) → Wp d P_X_same 11 [.ref r0, .int x1, .int x2, .ref r3, .null, .null] [] h Q) :=
    r_if (j := 11) rfl (cd_ne _ _) rfl
theorem b_X_same_11 {d : Nat} (x1 x2 : Int32) (r0 r3 : Nat) (h : AH) (Q : Option Value → AH → Prop) : Wp d P_X_same 11 [.ref r0, .int x1, .int x2, .ref r3, .null, .null] [] h Q ↔ Q (some (.int (-1))) h :=
    (r_iconst (j := 12) (x := (-1)) rfl i32_m1 rfl).trans <|
    r_ret rfl rfl rfl
theorem b_X_same_13 {d : Nat} (x1 x2 : Int32) (r0 r3 : Nat) (h : AH) (Q : Option Value → AH → Prop) : Wp d P_X_same 13 [.ref r0, .int x1, .int x2, .ref r3, .null, .null] [] h Q ↔ Cl d q_X_seatDoer [.ref r0, .ref r3, .int x2] h (fun r h' => Wp d P_X_same 17 [.ref r0, .int x1, .int x2, .ref r3, .null, .null] (r.toList ++ []) h' Q) :=
    (r_go (j := 14) (L' := [.ref r0, .int x1, .int x2, .ref r3, .null, .null]) (S' := [.ref r0]) (h' := h) rfl rfl rfl rfl).trans <|
    (r_go (j := 15) (L' := [.ref r0, .int x1, .int x2, .ref r3, .null, .null]) (S' := [.ref r3, .ref r0]) (h' := h) rfl rfl rfl rfl).trans <|
    (r_go (j := 16) (L' := [.ref r0, .int x1, .int x2, .ref r3, .null, .null]) (S' := [.int x2, .ref r3, .ref r0]) (h' := h) rfl rfl rfl rfl).trans <|
    r_call (j := 17) (a := [.ref r0, .ref r3, .int x2]) (S' := []) rfl rfl rfl rfl rfl rfl rfl
theorem b_X_same_17 {d : Nat} (x1 x2 : Int32) (r0 r3 : Nat) (h : AH) (Q : Option Value → AH → Prop) : Wp d P_X_same 17 [.ref r0, .int x1, .int x2, .ref r3, .null, .null] [] h Q ↔ Wp d P_X_same 21 [.ref r0, .int x1, .int x2, .ref r3, .int 0, .int 0] [] h Q :=
    (r_iconst (j := 18) (x := 0) rfl i32_0 rfl).trans <|
    (r_go (j := 19) (L' := [.ref r0, .int x1, .int x2, .ref r3, .int 0, .null]) (S' := []) (h' := h) rfl rfl rfl rfl).trans <|
    (r_iconst (j := 20) (x := 0) rfl i32_0 rfl).trans <|
    r_go (j := 21) (L' := [.ref r0, .int x1, .int x2, .ref r3, .int 0, .int 0]) (S' := []) (h' := h) rfl rfl rfl rfl
theorem b_X_same_21 {d : Nat} (x1 x2 x4 x5 : Int32) (r0 r3 : Nat) (h : AH) (Q : Option Value → AH → Prop) : Wp d P_X_same 21 [.ref r0, .int x1, .int x2, .ref r3, .int x4, .int x5] [] h Q ↔ (9 < x5 → Wp d P_X_same 37 [.ref r0, .int x1, .int x2, .ref r3, .int x4, .int x5] [] h Q) ∧ (¬ (9 < x5) → Wp d P_X_same 24 [.ref r0, .int x1, .int x2, .ref r3, .int x4, .int x5] [] h Q) :=
    (r_go (j := 22) (L' := [.ref r0, .int x1, .int x2, .ref r3, .int x4, .int x5]) (S' := [.int x5]) (h' := h) rfl rfl rfl rfl).trans <|
    (r_bipush (j := 23) (x := 9) rfl i32_9 rfl).trans <|
    r_icmp (j := 24) rfl (cd_gt _ _) rfl
theorem b_X_same_24 {d : Nat} (x1 x2 x4 x5 : Int32) (r0 r3 : Nat) (h : AH) (Q : Option Value → AH → Prop) : Wp d P_X_same 24 [.ref r0, .int x1, .int x2, .ref r3, .int x4, .int x5] [] h Q ↔ Cl d q_X_unlikeDoer [.ref r0, .ref r3, .int x5] h (fun r h' => Wp d P_X_same 28 [.ref r0, .int x1, .int x2, .ref r3, .int x4, .int x5] (r.toList ++ []) h' Q) :=
    (r_go (j := 25) (L' := [.ref r0, .int x1, .int x2, .ref r3, .int x4, .int x5]) (S' := [.ref r0]) (h' := h) rfl rfl rfl rfl).trans <|
    (r_go (j := 26) (L' := [.ref r0, .int x1, .int x2, .ref r3, .int x4, .int x5]) (S' := [.ref r3, .ref r0]) (h' := h) rfl rfl rfl rfl).trans <|
    (r_go (j := 27) (L' := [.ref r0, .int x1, .int x2, .ref r3, .int x4, .int x5]) (S' := [.int x5, .ref r3, .ref r0]) (h' := h) rfl rfl rfl rfl).trans <|
    r_call (j := 28) (a := [.ref r0, .ref r3, .int x5]) (S' := []) rfl rfl rfl rfl rfl rfl rfl
theorem b_X_same_28 {d : Nat} (x1 x2 x4 x5 s0 : Int32) (r0 r3 : Nat) (h : AH) (Q : Option Value → AH → Prop) : Wp d P_X_same 28 [.ref r0, .int x1, .int x2, .ref r3, .int x4, .int x5] [.int s0] h Q ↔ (¬ s0 = 0 → Wp d P_X_same 35 [.ref r0, .int x1, .int x2, .ref r3, .int x4, .int x5] [] h Q) ∧ (¬ (¬ s0 = 0) → Wp d P_X_same 29 [.ref r0, .int x1, .int x2, .ref r3, .int x4, .int x5] [] h Q) :=
    r_if (j := 29) rfl (cd_ne _ _) rfl
theorem b_X_same_29 {d : Nat} (x1 x2 x4 x5 : Int32) (r0 r3 : Nat) (h : AH) (Q : Option Value → AH → Prop) : Wp d P_X_same 29 [.ref r0, .int x1, .int x2, .ref r3, .int x4, .int x5] [] h Q ↔ Wp d P_X_same 35 [.ref r0, .int x1, .int x2, .ref r3, .int (x4 ||| (1 <<< (x5 &&& 31))), .int x5] [] h Q :=
    (r_go (j := 30) (L' := [.ref r0, .int x1, .int x2, .ref r3, .int x4, .int x5]) (S' := [.int x4]) (h' := h) rfl rfl rfl rfl).trans <|
    (r_iconst (j := 31) (x := 1) rfl i32_1 rfl).trans <|
    (r_go (j := 32) (L' := [.ref r0, .int x1, .int x2, .ref r3, .int x4, .int x5]) (S' := [.int x5, .int 1, .int x4]) (h' := h) rfl rfl rfl rfl).trans <|
    (r_go (j := 33) (L' := [.ref r0, .int x1, .int x2, .ref r3, .int x4, .int x5]) (S' := [.int (1 <<< (x5 &&& 31)), .int x4]) (h' := h) rfl rfl rfl rfl).trans <|
    (r_go (j := 34) (L' := [.ref r0, .int x1, .int x2, .ref r3, .int x4, .int x5]) (S' := [.int (x4 ||| (1 <<< (x5 &&& 31)))]) (h' := h) rfl rfl rfl rfl).trans <|
    r_go (j := 35) (L' := [.ref r0, .int x1, .int x2, .ref r3, .int (x4 ||| (1 <<< (x5 &&& 31))), .int x5]) (S' := []) (h' := h) rfl rfl rfl rfl
theorem b_X_same_35 {d : Nat} (x1 x2 x4 x5 : Int32) (r0 r3 : Nat) (h : AH) (Q : Option Value → AH → Prop) : Wp d P_X_same 35 [.ref r0, .int x1, .int x2, .ref r3, .int x4, .int x5] [] h Q ↔ Wp d P_X_same 21 [.ref r0, .int x1, .int x2, .ref r3, .int x4, .int (x5 + 1)] [] h Q :=
    (r_iinc (j := 36) (x := 1) (L' := [.ref r0, .int x1, .int x2, .ref r3, .int x4, .int (x5 + 1)]) rfl rfl i32_1 rfl rfl).trans <|
    r_go (j := 21) (L' := [.ref r0, .int x1, .int x2, .ref r3, .int x4, .int (x5 + 1)]) (S' := []) (h' := h) rfl rfl rfl rfl
theorem b_X_same_37 {d : Nat} (x1 x2 x4 x5 : Int32) (r0 r3 : Nat) (h : AH) (Q : Option Value → AH → Prop) : Wp d P_X_same 37 [.ref r0, .int x1, .int x2, .ref r3, .int x4, .int x5] [] h Q ↔ Q (some (.int x4)) h :=
    (r_go (j := 38) (L' := [.ref r0, .int x1, .int x2, .ref r3, .int x4, .int x5]) (S' := [.int x4]) (h' := h) rfl rfl rfl rfl).trans <|
    r_ret rfl rfl rfl
theorem e_X_same {d : Nat} (x1 x2 : Int32) (r0 : Nat) (h : AH) (Q : Option Value → AH → Prop) : Cl (d + 1) q_X_same [.ref r0, .int x1, .int x2] h Q ↔ hK h r0 = 10 ∧ Wp d P_X_same 0 [.ref r0, .int x1, .int x2, .null, .null, .null] [] h (fun r h' => rtk (some .int) r = true ∧ Q r h') :=
    (Cl_method (t := m_X_same) rfl).trans (and_congr_left fun _ => decide_eq_true_iff)
/-! PenThatJumps.best(IIII)I -/
theorem b_X_best_0 {d : Nat} (x1 x2 x3 x4 : Int32) (r0 : Nat) (h : AH) (Q : Option Value → AH → Prop) : Wp d P_X_best 0 [.ref r0, .int x1, .int x2, .int x3, .int x4, .null] [] h Q ↔ Cl d q_X_toldPlan [.ref r0, .int x1] h (fun r h' => Wp d P_X_best 3 [.ref r0, .int x1, .int x2, .int x3, .int x4, .null] (r.toList ++ []) h' Q) :=
    (r_go (j := 1) (L' := [.ref r0, .int x1, .int x2, .int x3, .int x4, .null]) (S' := [.ref r0]) (h' := h) rfl rfl rfl rfl).trans <|
    (r_go (j := 2) (L' := [.ref r0, .int x1, .int x2, .int x3, .int x4, .null]) (S' := [.int x1, .ref r0]) (h' := h) rfl rfl rfl rfl).trans <|
    r_call (j := 3) (a := [.ref r0, .int x1]) (S' := []) rfl rfl rfl rfl rfl rfl rfl
theorem b_X_best_3 {d : Nat} (x1 x2 x3 x4 : Int32) (r0 t0 : Nat) (h : AH) (Q : Option Value → AH → Prop) : Wp d P_X_best 3 [.ref r0, .int x1, .int x2, .int x3, .int x4, .null] [.ref t0] h Q ↔ (t0 = 0 ∨ 100 ≤ t0) ∧ (t0 = 0 → Wp d P_X_best 21 [.ref r0, .int x1, .int x2, .int x3, .int x4, .ref t0] [] h Q) ∧ (¬ (t0 = 0) → Wp d P_X_best 6 [.ref r0, .int x1, .int x2, .int x3, .int x4, .ref t0] [] h Q) :=
    (r_go (j := 4) (L' := [.ref r0, .int x1, .int x2, .int x3, .int x4, .ref t0]) (S' := []) (h' := h) rfl rfl rfl rfl).trans <|
    (r_go (j := 5) (L' := [.ref r0, .int x1, .int x2, .int x3, .int x4, .ref t0]) (S' := [.ref t0]) (h' := h) rfl rfl rfl rfl).trans <|
    r_null (j := 6) rfl rfl
theorem b_X_best_6 {d : Nat} (x1 x2 x3 x4 : Int32) (r0 r5 : Nat) (h : AH) (Q : Option Value → AH → Prop) : Wp d P_X_best 6 [.ref r0, .int x1, .int x2, .int x3, .int x4, .ref r5] [] h Q ↔ Cl d q_X_within [.int x2, .int 0, .int 9] h (fun r h' => Wp d P_X_best 10 [.ref r0, .int x1, .int x2, .int x3, .int x4, .ref r5] (r.toList ++ []) h' Q) :=
    (r_go (j := 7) (L' := [.ref r0, .int x1, .int x2, .int x3, .int x4, .ref r5]) (S' := [.int x2]) (h' := h) rfl rfl rfl rfl).trans <|
    (r_iconst (j := 8) (x := 0) rfl i32_0 rfl).trans <|
    (r_bipush (j := 9) (x := 9) rfl i32_9 rfl).trans <|
    r_call (j := 10) (a := [.int x2, .int 0, .int 9]) (S' := []) rfl rfl rfl rfl rfl rfl rfl
theorem b_X_best_10 {d : Nat} (x1 x2 x3 x4 s0 : Int32) (r0 r5 : Nat) (h : AH) (Q : Option Value → AH → Prop) : Wp d P_X_best 10 [.ref r0, .int x1, .int x2, .int x3, .int x4, .ref r5] [.int s0] h Q ↔ (s0 = 0 → Wp d P_X_best 21 [.ref r0, .int x1, .int x2, .int x3, .int x4, .ref r5] [] h Q) ∧ (¬ (s0 = 0) → Wp d P_X_best 11 [.ref r0, .int x1, .int x2, .int x3, .int x4, .ref r5] [] h Q) :=
    r_if (j := 11) rfl (cd_eq _ _) rfl
theorem b_X_best_11 {d : Nat} (x1 x2 x3 x4 : Int32) (r0 r5 : Nat) (h : AH) (Q : Option Value → AH → Prop) : Wp d P_X_best 11 [.ref r0, .int x1, .int x2, .int x3, .int x4, .ref r5] [] h Q ↔ Cl d q_X_within [.int x3, .int 1, .int 99] h (fun r h' => Wp d P_X_best 15 [.ref r0, .int x1, .int x2, .int x3, .int x4, .ref r5] (r.toList ++ []) h' Q) :=
    (r_go (j := 12) (L' := [.ref r0, .int x1, .int x2, .int x3, .int x4, .ref r5]) (S' := [.int x3]) (h' := h) rfl rfl rfl rfl).trans <|
    (r_iconst (j := 13) (x := 1) rfl i32_1 rfl).trans <|
    (r_bipush (j := 14) (x := 99) rfl i32_99 rfl).trans <|
    r_call (j := 15) (a := [.int x3, .int 1, .int 99]) (S' := []) rfl rfl rfl rfl rfl rfl rfl
theorem b_X_best_15 {d : Nat} (x1 x2 x3 x4 s0 : Int32) (r0 r5 : Nat) (h : AH) (Q : Option Value → AH → Prop) : Wp d P_X_best 15 [.ref r0, .int x1, .int x2, .int x3, .int x4, .ref r5] [.int s0] h Q ↔ (s0 = 0 → Wp d P_X_best 21 [.ref r0, .int x1, .int x2, .int x3, .int x4, .ref r5] [] h Q) ∧ (¬ (s0 = 0) → Wp d P_X_best 16 [.ref r0, .int x1, .int x2, .int x3, .int x4, .ref r5] [] h Q) :=
    r_if (j := 16) rfl (cd_eq _ _) rfl
theorem b_X_best_16 {d : Nat} (x1 x2 x3 x4 : Int32) (r0 r5 : Nat) (h : AH) (Q : Option Value → AH → Prop) : Wp d P_X_best 16 [.ref r0, .int x1, .int x2, .int x3, .int x4, .ref r5] [] h Q ↔ Cl d q_X_within [.int x4, .int 0, .int 2] h (fun r h' => Wp d P_X_best 20 [.ref r0, .int x1, .int x2, .int x3, .int x4, .ref r5] (r.toList ++ []) h' Q) :=
    (r_go (j := 17) (L' := [.ref r0, .int x1, .int x2, .int x3, .int x4, .ref r5]) (S' := [.int x4]) (h' := h) rfl rfl rfl rfl).trans <|
    (r_iconst (j := 18) (x := 0) rfl i32_0 rfl).trans <|
    (r_iconst (j := 19) (x := 2) rfl i32_2 rfl).trans <|
    r_call (j := 20) (a := [.int x4, .int 0, .int 2]) (S' := []) rfl rfl rfl rfl rfl rfl rfl
theorem b_X_best_20 {d : Nat} (x1 x2 x3 x4 s0 : Int32) (r0 r5 : Nat) (h : AH) (Q : Option Value → AH → Prop) : Wp d P_X_best 20 [.ref r0, .int x1, .int x2, .int x3, .int x4, .ref r5] [.int s0] h Q ↔ (¬ s0 = 0 → Wp d P_X_best 23 [.ref r0, .int x1, .int x2, .int x3, .int x4, .ref r5] [] h Q) ∧ (¬ (¬ s0 = 0) → Wp d P_X_best 21 [.ref r0, .int x1, .int x2, .int x3, .int x4, .ref r5] [] h Q) :=
    r_if (j := 21) rfl (cd_ne _ _) rfl
theorem b_X_best_21 {d : Nat} (x1 x2 x3 x4 : Int32) (r0 r5 : Nat) (h : AH) (Q : Option Value → AH → Prop) : Wp d P_X_best 21 [.ref r0, .int x1, .int x2, .int x3, .int x4, .ref r5] [] h Q ↔ Q (some (.int (-1))) h :=
    (r_iconst (j := 22) (x := (-1)) rfl i32_m1 rfl).trans <|
    r_ret rfl rfl rfl
theorem b_X_best_23 {d : Nat} (x1 x2 x3 x4 : Int32) (r0 r5 : Nat) (h : AH) (Q : Option Value → AH → Prop) : Wp d P_X_best 23 [.ref r0, .int x1, .int x2, .int x3, .int x4, .ref r5] [] h Q ↔ (hK h r0 = 10) ∧ (Cl d q_Pe_tell [.ref (hR h r0 11), .int x2, .int 1, .int 0, .int 0] h (fun r h' => Wp d P_X_best 30 [.ref r0, .int x1, .int x2, .int x3, .int x4, .ref r5] (r.toList ++ []) h' Q)) :=
    (r_go (j := 24) (L' := [.ref r0, .int x1, .int x2, .int x3, .int x4, .ref r5]) (S' := [.ref r0]) (h' := h) rfl rfl rfl rfl).trans <|
    (r_guard (j := 25) (L' := [.ref r0, .int x1, .int x2, .int x3, .int x4, .ref r5]) (S' := [.ref (hR h r0 11)]) (h' := h) (p := hK h r0 = 10) rfl rfl rfl rfl (decide_eq_true_iff)).trans <| and_r <|
    (r_go (j := 26) (L' := [.ref r0, .int x1, .int x2, .int x3, .int x4, .ref r5]) (S' := [.int x2, .ref (hR h r0 11)]) (h' := h) rfl rfl rfl rfl).trans <|
    (r_iconst (j := 27) (x := 1) rfl i32_1 rfl).trans <|
    (r_iconst (j := 28) (x := 0) rfl i32_0 rfl).trans <|
    (r_iconst (j := 29) (x := 0) rfl i32_0 rfl).trans <|
    r_call (j := 30) (a := [.ref (hR h r0 11), .int x2, .int 1, .int 0, .int 0]) (S' := []) rfl rfl rfl rfl rfl rfl rfl
theorem b_X_best_30 {d : Nat} (x1 x2 x3 x4 : Int32) (r0 r5 : Nat) (h : AH) (Q : Option Value → AH → Prop) : Wp d P_X_best 30 [.ref r0, .int x1, .int x2, .int x3, .int x4, .ref r5] [] h Q ↔ (hK h r0 = 10) ∧ (Cl d q_Pe_tell [.ref (hR h r0 12), .int x2, .int 0, .int 0, .int 0] h (fun r h' => Wp d P_X_best 37 [.ref r0, .int x1, .int x2, .int x3, .int x4, .ref r5] (r.toList ++ []) h' Q)) :=
    (r_go (j := 31) (L' := [.ref r0, .int x1, .int x2, .int x3, .int x4, .ref r5]) (S' := [.ref r0]) (h' := h) rfl rfl rfl rfl).trans <|
    (r_guard (j := 32) (L' := [.ref r0, .int x1, .int x2, .int x3, .int x4, .ref r5]) (S' := [.ref (hR h r0 12)]) (h' := h) (p := hK h r0 = 10) rfl rfl rfl rfl (decide_eq_true_iff)).trans <| and_r <|
    (r_go (j := 33) (L' := [.ref r0, .int x1, .int x2, .int x3, .int x4, .ref r5]) (S' := [.int x2, .ref (hR h r0 12)]) (h' := h) rfl rfl rfl rfl).trans <|
    (r_iconst (j := 34) (x := 0) rfl i32_0 rfl).trans <|
    (r_iconst (j := 35) (x := 0) rfl i32_0 rfl).trans <|
    (r_iconst (j := 36) (x := 0) rfl i32_0 rfl).trans <|
    r_call (j := 37) (a := [.ref (hR h r0 12), .int x2, .int 0, .int 0, .int 0]) (S' := []) rfl rfl rfl rfl rfl rfl rfl
theorem b_X_best_37 {d : Nat} (x1 x2 x3 x4 : Int32) (r0 r5 : Nat) (h : AH) (Q : Option Value → AH → Prop) : Wp d P_X_best 37 [.ref r0, .int x1, .int x2, .int x3, .int x4, .ref r5] [] h Q ↔ (hK h r0 = 10) ∧ ((hK h r0 = 10) ∧ ((hK h r0 = 10) ∧ ((hK h r0 = 10) ∧ (Cl d q_Pr_weigh [.ref (hR h r0 9), .ref (hR h r0 7), .ref r5, .ref (hR h r0 11), .ref (hR h r0 12)] h (fun r h' => Wp d P_X_best 47 [.ref r0, .int x1, .int x2, .int x3, .int x4, .ref r5] (r.toList ++ []) h' Q))))) :=
    (r_go (j := 38) (L' := [.ref r0, .int x1, .int x2, .int x3, .int x4, .ref r5]) (S' := [.ref r0]) (h' := h) rfl rfl rfl rfl).trans <|
    (r_guard (j := 39) (L' := [.ref r0, .int x1, .int x2, .int x3, .int x4, .ref r5]) (S' := [.ref (hR h r0 9)]) (h' := h) (p := hK h r0 = 10) rfl rfl rfl rfl (decide_eq_true_iff)).trans <| and_r <|
    (r_go (j := 40) (L' := [.ref r0, .int x1, .int x2, .int x3, .int x4, .ref r5]) (S' := [.ref r0, .ref (hR h r0 9)]) (h' := h) rfl rfl rfl rfl).trans <|
    (r_guard (j := 41) (L' := [.ref r0, .int x1, .int x2, .int x3, .int x4, .ref r5]) (S' := [.ref (hR h r0 7), .ref (hR h r0 9)]) (h' := h) (p := hK h r0 = 10) rfl rfl rfl rfl (decide_eq_true_iff)).trans <| and_r <|
    (r_go (j := 42) (L' := [.ref r0, .int x1, .int x2, .int x3, .int x4, .ref r5]) (S' := [.ref r5, .ref (hR h r0 7), .ref (hR h r0 9)]) (h' := h) rfl rfl rfl rfl).trans <|
    (r_go (j := 43) (L' := [.ref r0, .int x1, .int x2, .int x3, .int x4, .ref r5]) (S' := [.ref r0, .ref r5, .ref (hR h r0 7), .ref (hR h r0 9)]) (h' := h) rfl rfl rfl rfl).trans <|
    (r_guard (j := 44) (L' := [.ref r0, .int x1, .int x2, .int x3, .int x4, .ref r5]) (S' := [.ref (hR h r0 11), .ref r5, .ref (hR h r0 7), .ref (hR h r0 9)]) (h' := h) (p := hK h r0 = 10) rfl rfl rfl rfl (decide_eq_true_iff)).trans <| and_r <|
    (r_go (j := 45) (L' := [.ref r0, .int x1, .int x2, .int x3, .int x4, .ref r5]) (S' := [.ref r0, .ref (hR h r0 11), .ref r5, .ref (hR h r0 7), .ref (hR h r0 9)]) (h' := h) rfl rfl rfl rfl).trans <|
    (r_guard (j := 46) (L' := [.ref r0, .int x1, .int x2, .int x3, .int x4, .ref r5]) (S' := [.ref (hR h r0 12), .ref (hR h r0 11), .ref r5, .ref (hR h r0 7), .ref (hR h r0 9)]) (h' := h) (p := hK h r0 = 10) rfl rfl rfl rfl (decide_eq_true_iff)).trans <| and_r <|
    r_call (j := 47) (a := [.ref (hR h r0 9), .ref (hR h r0 7), .ref r5, .ref (hR h r0 11), .ref (hR h r0 12)]) (S' := []) rfl rfl rfl rfl rfl rfl rfl
theorem b_X_best_47 {d : Nat} (x1 x2 x3 x4 : Int32) (r0 r5 : Nat) (h : AH) (Q : Option Value → AH → Prop) : Wp d P_X_best 47 [.ref r0, .int x1, .int x2, .int x3, .int x4, .ref r5] [] h Q ↔ (hK h r0 = 10) ∧ (Cl d q_Pr_choose [.ref (hR h r0 9), .ref r5, .int x3] h (fun r h' => Wp d P_X_best 52 [.ref r0, .int x1, .int x2, .int x3, .int x4, .ref r5] (r.toList ++ []) h' Q)) :=
    (r_go (j := 48) (L' := [.ref r0, .int x1, .int x2, .int x3, .int x4, .ref r5]) (S' := [.ref r0]) (h' := h) rfl rfl rfl rfl).trans <|
    (r_guard (j := 49) (L' := [.ref r0, .int x1, .int x2, .int x3, .int x4, .ref r5]) (S' := [.ref (hR h r0 9)]) (h' := h) (p := hK h r0 = 10) rfl rfl rfl rfl (decide_eq_true_iff)).trans <| and_r <|
    (r_go (j := 50) (L' := [.ref r0, .int x1, .int x2, .int x3, .int x4, .ref r5]) (S' := [.ref r5, .ref (hR h r0 9)]) (h' := h) rfl rfl rfl rfl).trans <|
    (r_go (j := 51) (L' := [.ref r0, .int x1, .int x2, .int x3, .int x4, .ref r5]) (S' := [.int x3, .ref r5, .ref (hR h r0 9)]) (h' := h) rfl rfl rfl rfl).trans <|
    r_call (j := 52) (a := [.ref (hR h r0 9), .ref r5, .int x3]) (S' := []) rfl rfl rfl rfl rfl rfl rfl
theorem b_X_best_52 {d : Nat} (x1 x2 x3 x4 : Int32) (r0 r5 : Nat) (h : AH) (Q : Option Value → AH → Prop) : Wp d P_X_best 52 [.ref r0, .int x1, .int x2, .int x3, .int x4, .ref r5] [] h Q ↔ (¬ x4 = 0 → Wp d P_X_best 58 [.ref r0, .int x1, .int x2, .int x3, .int x4, .ref r5] [] h Q) ∧ (¬ (¬ x4 = 0) → Wp d P_X_best 54 [.ref r0, .int x1, .int x2, .int x3, .int x4, .ref r5] [] h Q) :=
    (r_go (j := 53) (L' := [.ref r0, .int x1, .int x2, .int x3, .int x4, .ref r5]) (S' := [.int x4]) (h' := h) rfl rfl rfl rfl).trans <|
    r_if (j := 54) rfl (cd_ne _ _) rfl
theorem b_X_best_54 {d : Nat} (x1 x2 x3 x4 : Int32) (r0 r5 : Nat) (h : AH) (Q : Option Value → AH → Prop) : Wp d P_X_best 54 [.ref r0, .int x1, .int x2, .int x3, .int x4, .ref r5] [] h Q ↔ (hK h r0 = 10) ∧ ((hK h (hR h r0 9) = 5) ∧ (Q (some (.int (hI h (hR h r0 9) 2))) h)) :=
    (r_go (j := 55) (L' := [.ref r0, .int x1, .int x2, .int x3, .int x4, .ref r5]) (S' := [.ref r0]) (h' := h) rfl rfl rfl rfl).trans <|
    (r_guard (j := 56) (L' := [.ref r0, .int x1, .int x2, .int x3, .int x4, .ref r5]) (S' := [.ref (hR h r0 9)]) (h' := h) (p := hK h r0 = 10) rfl rfl rfl rfl (decide_eq_true_iff)).trans <| and_r <|
    (r_guard (j := 57) (L' := [.ref r0, .int x1, .int x2, .int x3, .int x4, .ref r5]) (S' := [.int (hI h (hR h r0 9) 2)]) (h' := h) (p := hK h (hR h r0 9) = 5) rfl rfl rfl rfl (decide_eq_true_iff)).trans <| and_r <|
    r_ret rfl rfl rfl
theorem b_X_best_58 {d : Nat} (x1 x2 x3 x4 : Int32) (r0 r5 : Nat) (h : AH) (Q : Option Value → AH → Prop) : Wp d P_X_best 58 [.ref r0, .int x1, .int x2, .int x3, .int x4, .ref r5] [] h Q ↔ (¬ x4 = 1 → Wp d P_X_best 65 [.ref r0, .int x1, .int x2, .int x3, .int x4, .ref r5] [] h Q) ∧ (¬ (¬ x4 = 1) → Wp d P_X_best 61 [.ref r0, .int x1, .int x2, .int x3, .int x4, .ref r5] [] h Q) :=
    (r_go (j := 59) (L' := [.ref r0, .int x1, .int x2, .int x3, .int x4, .ref r5]) (S' := [.int x4]) (h' := h) rfl rfl rfl rfl).trans <|
    (r_iconst (j := 60) (x := 1) rfl i32_1 rfl).trans <|
    r_icmp (j := 61) rfl (cd_ne _ _) rfl
theorem b_X_best_61 {d : Nat} (x1 x2 x3 x4 : Int32) (r0 r5 : Nat) (h : AH) (Q : Option Value → AH → Prop) : Wp d P_X_best 61 [.ref r0, .int x1, .int x2, .int x3, .int x4, .ref r5] [] h Q ↔ (hK h r0 = 10) ∧ ((hK h (hR h r0 9) = 5) ∧ (Wp d P_X_best 68 [.ref r0, .int x1, .int x2, .int x3, .int x4, .ref r5] [.int (hI h (hR h r0 9) 3)] h Q)) :=
    (r_go (j := 62) (L' := [.ref r0, .int x1, .int x2, .int x3, .int x4, .ref r5]) (S' := [.ref r0]) (h' := h) rfl rfl rfl rfl).trans <|
    (r_guard (j := 63) (L' := [.ref r0, .int x1, .int x2, .int x3, .int x4, .ref r5]) (S' := [.ref (hR h r0 9)]) (h' := h) (p := hK h r0 = 10) rfl rfl rfl rfl (decide_eq_true_iff)).trans <| and_r <|
    (r_guard (j := 64) (L' := [.ref r0, .int x1, .int x2, .int x3, .int x4, .ref r5]) (S' := [.int (hI h (hR h r0 9) 3)]) (h' := h) (p := hK h (hR h r0 9) = 5) rfl rfl rfl rfl (decide_eq_true_iff)).trans <| and_r <|
    r_go (j := 68) (L' := [.ref r0, .int x1, .int x2, .int x3, .int x4, .ref r5]) (S' := [.int (hI h (hR h r0 9) 3)]) (h' := h) rfl rfl rfl rfl
theorem b_X_best_65 {d : Nat} (x1 x2 x3 x4 : Int32) (r0 r5 : Nat) (h : AH) (Q : Option Value → AH → Prop) : Wp d P_X_best 65 [.ref r0, .int x1, .int x2, .int x3, .int x4, .ref r5] [] h Q ↔ (hK h r0 = 10) ∧ ((hK h (hR h r0 9) = 5) ∧ (Wp d P_X_best 68 [.ref r0, .int x1, .int x2, .int x3, .int x4, .ref r5] [.int (hI h (hR h r0 9) 4)] h Q)) :=
    (r_go (j := 66) (L' := [.ref r0, .int x1, .int x2, .int x3, .int x4, .ref r5]) (S' := [.ref r0]) (h' := h) rfl rfl rfl rfl).trans <|
    (r_guard (j := 67) (L' := [.ref r0, .int x1, .int x2, .int x3, .int x4, .ref r5]) (S' := [.ref (hR h r0 9)]) (h' := h) (p := hK h r0 = 10) rfl rfl rfl rfl (decide_eq_true_iff)).trans <| and_r <|
    r_guard (j := 68) (L' := [.ref r0, .int x1, .int x2, .int x3, .int x4, .ref r5]) (S' := [.int (hI h (hR h r0 9) 4)]) (h' := h) (p := hK h (hR h r0 9) = 5) rfl rfl rfl rfl (decide_eq_true_iff)
theorem b_X_best_68 {d : Nat} (x1 x2 x3 x4 s0 : Int32) (r0 r5 : Nat) (h : AH) (Q : Option Value → AH → Prop) : Wp d P_X_best 68 [.ref r0, .int x1, .int x2, .int x3, .int x4, .ref r5] [.int s0] h Q ↔ Q (some (.int s0)) h :=
    r_ret rfl rfl rfl
theorem e_X_best {d : Nat} (x1 x2 x3 x4 : Int32) (r0 : Nat) (h : AH) (Q : Option Value → AH → Prop) : Cl (d + 1) q_X_best [.ref r0, .int x1, .int x2, .int x3, .int x4] h Q ↔ hK h r0 = 10 ∧ Wp d P_X_best 0 [.ref r0, .int x1, .int x2, .int x3, .int x4, .null] [] h (fun r h' => rtk (some .int) r = true ∧ Q r h') :=
    (Cl_method (t := m_X_best) rfl).trans (and_congr_left fun _ => decide_eq_true_iff)
/-! PenThatJumps.odds(IIII)J -/
theorem b_X_odds_0 {d : Nat} (x1 x2 x3 x4 : Int32) (r0 : Nat) (h : AH) (Q : Option Value → AH → Prop) : Wp d P_X_odds 0 [.ref r0, .int x1, .int x2, .int x3, .int x4, .null, .null, .null] [] h Q ↔ Cl d q_X_within [.int x1, .int 1, .int 9] h (fun r h' => Wp d P_X_odds 4 [.ref r0, .int x1, .int x2, .int x3, .int x4, .null, .null, .null] (r.toList ++ []) h' Q) :=
    (r_go (j := 1) (L' := [.ref r0, .int x1, .int x2, .int x3, .int x4, .null, .null, .null]) (S' := [.int x1]) (h' := h) rfl rfl rfl rfl).trans <|
    (r_iconst (j := 2) (x := 1) rfl i32_1 rfl).trans <|
    (r_bipush (j := 3) (x := 9) rfl i32_9 rfl).trans <|
    r_call (j := 4) (a := [.int x1, .int 1, .int 9]) (S' := []) rfl rfl rfl rfl rfl rfl rfl
theorem b_X_odds_4 {d : Nat} (x1 x2 x3 x4 s0 : Int32) (r0 : Nat) (h : AH) (Q : Option Value → AH → Prop) : Wp d P_X_odds 4 [.ref r0, .int x1, .int x2, .int x3, .int x4, .null, .null, .null] [.int s0] h Q ↔ (s0 = 0 → Wp d P_X_odds 20 [.ref r0, .int x1, .int x2, .int x3, .int x4, .null, .null, .null] [] h Q) ∧ (¬ (s0 = 0) → Wp d P_X_odds 5 [.ref r0, .int x1, .int x2, .int x3, .int x4, .null, .null, .null] [] h Q) :=
    r_if (j := 5) rfl (cd_eq _ _) rfl
theorem b_X_odds_5 {d : Nat} (x1 x2 x3 x4 : Int32) (r0 : Nat) (h : AH) (Q : Option Value → AH → Prop) : Wp d P_X_odds 5 [.ref r0, .int x1, .int x2, .int x3, .int x4, .null, .null, .null] [] h Q ↔ Cl d q_X_within [.int x2, .int 2, .int 9] h (fun r h' => Wp d P_X_odds 9 [.ref r0, .int x1, .int x2, .int x3, .int x4, .null, .null, .null] (r.toList ++ []) h' Q) :=
    (r_go (j := 6) (L' := [.ref r0, .int x1, .int x2, .int x3, .int x4, .null, .null, .null]) (S' := [.int x2]) (h' := h) rfl rfl rfl rfl).trans <|
    (r_iconst (j := 7) (x := 2) rfl i32_2 rfl).trans <|
    (r_bipush (j := 8) (x := 9) rfl i32_9 rfl).trans <|
    r_call (j := 9) (a := [.int x2, .int 2, .int 9]) (S' := []) rfl rfl rfl rfl rfl rfl rfl
theorem b_X_odds_9 {d : Nat} (x1 x2 x3 x4 s0 : Int32) (r0 : Nat) (h : AH) (Q : Option Value → AH → Prop) : Wp d P_X_odds 9 [.ref r0, .int x1, .int x2, .int x3, .int x4, .null, .null, .null] [.int s0] h Q ↔ (s0 = 0 → Wp d P_X_odds 20 [.ref r0, .int x1, .int x2, .int x3, .int x4, .null, .null, .null] [] h Q) ∧ (¬ (s0 = 0) → Wp d P_X_odds 10 [.ref r0, .int x1, .int x2, .int x3, .int x4, .null, .null, .null] [] h Q) :=
    r_if (j := 10) rfl (cd_eq _ _) rfl
theorem b_X_odds_10 {d : Nat} (x1 x2 x3 x4 : Int32) (r0 : Nat) (h : AH) (Q : Option Value → AH → Prop) : Wp d P_X_odds 10 [.ref r0, .int x1, .int x2, .int x3, .int x4, .null, .null, .null] [] h Q ↔ Cl d q_X_within [.int x3, .int 0, .int x1] h (fun r h' => Wp d P_X_odds 14 [.ref r0, .int x1, .int x2, .int x3, .int x4, .null, .null, .null] (r.toList ++ []) h' Q) :=
    (r_go (j := 11) (L' := [.ref r0, .int x1, .int x2, .int x3, .int x4, .null, .null, .null]) (S' := [.int x3]) (h' := h) rfl rfl rfl rfl).trans <|
    (r_iconst (j := 12) (x := 0) rfl i32_0 rfl).trans <|
    (r_go (j := 13) (L' := [.ref r0, .int x1, .int x2, .int x3, .int x4, .null, .null, .null]) (S' := [.int x1, .int 0, .int x3]) (h' := h) rfl rfl rfl rfl).trans <|
    r_call (j := 14) (a := [.int x3, .int 0, .int x1]) (S' := []) rfl rfl rfl rfl rfl rfl rfl
theorem b_X_odds_14 {d : Nat} (x1 x2 x3 x4 s0 : Int32) (r0 : Nat) (h : AH) (Q : Option Value → AH → Prop) : Wp d P_X_odds 14 [.ref r0, .int x1, .int x2, .int x3, .int x4, .null, .null, .null] [.int s0] h Q ↔ (s0 = 0 → Wp d P_X_odds 20 [.ref r0, .int x1, .int x2, .int x3, .int x4, .null, .null, .null] [] h Q) ∧ (¬ (s0 = 0) → Wp d P_X_odds 15 [.ref r0, .int x1, .int x2, .int x3, .int x4, .null, .null, .null] [] h Q) :=
    r_if (j := 15) rfl (cd_eq _ _) rfl
theorem b_X_odds_15 {d : Nat} (x1 x2 x3 x4 : Int32) (r0 : Nat) (h : AH) (Q : Option Value → AH → Prop) : Wp d P_X_odds 15 [.ref r0, .int x1, .int x2, .int x3, .int x4, .null, .null, .null] [] h Q ↔ Cl d q_X_within [.int x4, .int 0, .int 1] h (fun r h' => Wp d P_X_odds 19 [.ref r0, .int x1, .int x2, .int x3, .int x4, .null, .null, .null] (r.toList ++ []) h' Q) :=
    (r_go (j := 16) (L' := [.ref r0, .int x1, .int x2, .int x3, .int x4, .null, .null, .null]) (S' := [.int x4]) (h' := h) rfl rfl rfl rfl).trans <|
    (r_iconst (j := 17) (x := 0) rfl i32_0 rfl).trans <|
    (r_iconst (j := 18) (x := 1) rfl i32_1 rfl).trans <|
    r_call (j := 19) (a := [.int x4, .int 0, .int 1]) (S' := []) rfl rfl rfl rfl rfl rfl rfl
theorem b_X_odds_19 {d : Nat} (x1 x2 x3 x4 s0 : Int32) (r0 : Nat) (h : AH) (Q : Option Value → AH → Prop) : Wp d P_X_odds 19 [.ref r0, .int x1, .int x2, .int x3, .int x4, .null, .null, .null] [.int s0] h Q ↔ (¬ s0 = 0 → Wp d P_X_odds 22 [.ref r0, .int x1, .int x2, .int x3, .int x4, .null, .null, .null] [] h Q) ∧ (¬ (¬ s0 = 0) → Wp d P_X_odds 20 [.ref r0, .int x1, .int x2, .int x3, .int x4, .null, .null, .null] [] h Q) :=
    r_if (j := 20) rfl (cd_ne _ _) rfl
theorem b_X_odds_20 {d : Nat} (x1 x2 x3 x4 : Int32) (r0 : Nat) (h : AH) (Q : Option Value → AH → Prop) : Wp d P_X_odds 20 [.ref r0, .int x1, .int x2, .int x3, .int x4, .null, .null, .null] [] h Q ↔ Q (some (.long (-1))) h :=
    (r_go (j := 21) (L' := [.ref r0, .int x1, .int x2, .int x3, .int x4, .null, .null, .null]) (S' := [.long (-1)]) (h' := h) rfl rfl rfl rfl).trans <|
    r_ret rfl rfl rfl
theorem b_X_odds_22 {d : Nat} (x1 x2 x3 x4 : Int32) (r0 : Nat) (h : AH) (Q : Option Value → AH → Prop) : Wp d P_X_odds 22 [.ref r0, .int x1, .int x2, .int x3, .int x4, .null, .null, .null] [] h Q ↔ Wp d P_X_odds 26 [.ref r0, .int x1, .int x2, .int x3, .int x4, .long 0, .null, .int x3] [] h Q :=
    (r_go (j := 23) (L' := [.ref r0, .int x1, .int x2, .int x3, .int x4, .null, .null, .null]) (S' := [.long 0]) (h' := h) rfl rfl rfl rfl).trans <|
    (r_go (j := 24) (L' := [.ref r0, .int x1, .int x2, .int x3, .int x4, .long 0, .null, .null]) (S' := []) (h' := h) rfl rfl rfl rfl).trans <|
    (r_go (j := 25) (L' := [.ref r0, .int x1, .int x2, .int x3, .int x4, .long 0, .null, .null]) (S' := [.int x3]) (h' := h) rfl rfl rfl rfl).trans <|
    r_go (j := 26) (L' := [.ref r0, .int x1, .int x2, .int x3, .int x4, .long 0, .null, .int x3]) (S' := []) (h' := h) rfl rfl rfl rfl
theorem b_X_odds_26 {d : Nat} (x1 x2 x3 x4 x7 : Int32) (l5 : Int64) (r0 : Nat) (h : AH) (Q : Option Value → AH → Prop) : Wp d P_X_odds 26 [.ref r0, .int x1, .int x2, .int x3, .int x4, .long l5, .null, .int x7] [] h Q ↔ (x1 < x7 → Wp d P_X_odds 46 [.ref r0, .int x1, .int x2, .int x3, .int x4, .long l5, .null, .int x7] [] h Q) ∧ (¬ (x1 < x7) → Wp d P_X_odds 29 [.ref r0, .int x1, .int x2, .int x3, .int x4, .long l5, .null, .int x7] [] h Q) :=
    (r_go (j := 27) (L' := [.ref r0, .int x1, .int x2, .int x3, .int x4, .long l5, .null, .int x7]) (S' := [.int x7]) (h' := h) rfl rfl rfl rfl).trans <|
    (r_go (j := 28) (L' := [.ref r0, .int x1, .int x2, .int x3, .int x4, .long l5, .null, .int x7]) (S' := [.int x1, .int x7]) (h' := h) rfl rfl rfl rfl).trans <|
    r_icmp (j := 29) rfl (cd_gt _ _) rfl
theorem b_X_odds_29 {d : Nat} (x1 x2 x3 x4 x7 : Int32) (l5 : Int64) (r0 : Nat) (h : AH) (Q : Option Value → AH → Prop) : Wp d P_X_odds 29 [.ref r0, .int x1, .int x2, .int x3, .int x4, .long l5, .null, .int x7] [] h Q ↔ Cl d q_X_choices [.int x1, .int x7] h (fun r h' => Wp d P_X_odds 33 [.ref r0, .int x1, .int x2, .int x3, .int x4, .long l5, .null, .int x7] (r.toList ++ [.long l5]) h' Q) :=
    (r_go (j := 30) (L' := [.ref r0, .int x1, .int x2, .int x3, .int x4, .long l5, .null, .int x7]) (S' := [.long l5]) (h' := h) rfl rfl rfl rfl).trans <|
    (r_go (j := 31) (L' := [.ref r0, .int x1, .int x2, .int x3, .int x4, .long l5, .null, .int x7]) (S' := [.int x1, .long l5]) (h' := h) rfl rfl rfl rfl).trans <|
    (r_go (j := 32) (L' := [.ref r0, .int x1, .int x2, .int x3, .int x4, .long l5, .null, .int x7]) (S' := [.int x7, .int x1, .long l5]) (h' := h) rfl rfl rfl rfl).trans <|
    r_call (j := 33) (a := [.int x1, .int x7]) (S' := [.long l5]) rfl rfl rfl rfl rfl rfl rfl
theorem b_X_odds_33 {d : Nat} (x1 x2 x3 x4 x7 : Int32) (l5 k0 k1 : Int64) (r0 : Nat) (h : AH) (Q : Option Value → AH → Prop) : Wp d P_X_odds 33 [.ref r0, .int x1, .int x2, .int x3, .int x4, .long l5, .null, .int x7] [.long k0, .long k1] h Q ↔ Cl d q_X_power [.long (Int32.toInt64 (x2 - 1)), .int (x1 - x7)] h (fun r h' => Wp d P_X_odds 41 [.ref r0, .int x1, .int x2, .int x3, .int x4, .long l5, .null, .int x7] (r.toList ++ [.long k0, .long k1]) h' Q) :=
    (r_go (j := 34) (L' := [.ref r0, .int x1, .int x2, .int x3, .int x4, .long l5, .null, .int x7]) (S' := [.int x2, .long k0, .long k1]) (h' := h) rfl rfl rfl rfl).trans <|
    (r_iconst (j := 35) (x := 1) rfl i32_1 rfl).trans <|
    (r_go (j := 36) (L' := [.ref r0, .int x1, .int x2, .int x3, .int x4, .long l5, .null, .int x7]) (S' := [.int (x2 - 1), .long k0, .long k1]) (h' := h) rfl rfl rfl rfl).trans <|
    (r_go (j := 37) (L' := [.ref r0, .int x1, .int x2, .int x3, .int x4, .long l5, .null, .int x7]) (S' := [.long (Int32.toInt64 (x2 - 1)), .long k0, .long k1]) (h' := h) rfl rfl rfl rfl).trans <|
    (r_go (j := 38) (L' := [.ref r0, .int x1, .int x2, .int x3, .int x4, .long l5, .null, .int x7]) (S' := [.int x1, .long (Int32.toInt64 (x2 - 1)), .long k0, .long k1]) (h' := h) rfl rfl rfl rfl).trans <|
    (r_go (j := 39) (L' := [.ref r0, .int x1, .int x2, .int x3, .int x4, .long l5, .null, .int x7]) (S' := [.int x7, .int x1, .long (Int32.toInt64 (x2 - 1)), .long k0, .long k1]) (h' := h) rfl rfl rfl rfl).trans <|
    (r_go (j := 40) (L' := [.ref r0, .int x1, .int x2, .int x3, .int x4, .long l5, .null, .int x7]) (S' := [.int (x1 - x7), .long (Int32.toInt64 (x2 - 1)), .long k0, .long k1]) (h' := h) rfl rfl rfl rfl).trans <|
    r_call (j := 41) (a := [.long (Int32.toInt64 (x2 - 1)), .int (x1 - x7)]) (S' := [.long k0, .long k1]) rfl rfl rfl rfl rfl rfl rfl
theorem b_X_odds_41 {d : Nat} (x1 x2 x3 x4 x7 : Int32) (l5 k0 k1 k2 : Int64) (r0 : Nat) (h : AH) (Q : Option Value → AH → Prop) : Wp d P_X_odds 41 [.ref r0, .int x1, .int x2, .int x3, .int x4, .long l5, .null, .int x7] [.long k0, .long k1, .long k2] h Q ↔ Wp d P_X_odds 26 [.ref r0, .int x1, .int x2, .int x3, .int x4, .long (k2 + (k1 * k0)), .null, .int (x7 + 1)] [] h Q :=
    (r_go (j := 42) (L' := [.ref r0, .int x1, .int x2, .int x3, .int x4, .long l5, .null, .int x7]) (S' := [.long (k1 * k0), .long k2]) (h' := h) rfl rfl rfl rfl).trans <|
    (r_go (j := 43) (L' := [.ref r0, .int x1, .int x2, .int x3, .int x4, .long l5, .null, .int x7]) (S' := [.long (k2 + (k1 * k0))]) (h' := h) rfl rfl rfl rfl).trans <|
    (r_go (j := 44) (L' := [.ref r0, .int x1, .int x2, .int x3, .int x4, .long (k2 + (k1 * k0)), .null, .int x7]) (S' := []) (h' := h) rfl rfl rfl rfl).trans <|
    (r_iinc (j := 45) (x := 1) (L' := [.ref r0, .int x1, .int x2, .int x3, .int x4, .long (k2 + (k1 * k0)), .null, .int (x7 + 1)]) rfl rfl i32_1 rfl rfl).trans <|
    r_go (j := 26) (L' := [.ref r0, .int x1, .int x2, .int x3, .int x4, .long (k2 + (k1 * k0)), .null, .int (x7 + 1)]) (S' := []) (h' := h) rfl rfl rfl rfl
theorem b_X_odds_46 {d : Nat} (x1 x2 x3 x4 x7 : Int32) (l5 : Int64) (r0 : Nat) (h : AH) (Q : Option Value → AH → Prop) : Wp d P_X_odds 46 [.ref r0, .int x1, .int x2, .int x3, .int x4, .long l5, .null, .int x7] [] h Q ↔ Cl d q_X_power [.long (Int32.toInt64 x2), .int x1] h (fun r h' => Wp d P_X_odds 51 [.ref r0, .int x1, .int x2, .int x3, .int x4, .long l5, .null, .int x7] (r.toList ++ [.long l5]) h' Q) :=
    (r_go (j := 47) (L' := [.ref r0, .int x1, .int x2, .int x3, .int x4, .long l5, .null, .int x7]) (S' := [.long l5]) (h' := h) rfl rfl rfl rfl).trans <|
    (r_go (j := 48) (L' := [.ref r0, .int x1, .int x2, .int x3, .int x4, .long l5, .null, .int x7]) (S' := [.int x2, .long l5]) (h' := h) rfl rfl rfl rfl).trans <|
    (r_go (j := 49) (L' := [.ref r0, .int x1, .int x2, .int x3, .int x4, .long l5, .null, .int x7]) (S' := [.long (Int32.toInt64 x2), .long l5]) (h' := h) rfl rfl rfl rfl).trans <|
    (r_go (j := 50) (L' := [.ref r0, .int x1, .int x2, .int x3, .int x4, .long l5, .null, .int x7]) (S' := [.int x1, .long (Int32.toInt64 x2), .long l5]) (h' := h) rfl rfl rfl rfl).trans <|
    r_call (j := 51) (a := [.long (Int32.toInt64 x2), .int x1]) (S' := [.long l5]) rfl rfl rfl rfl rfl rfl rfl
theorem b_X_odds_51 {d : Nat} (x1 x2 x3 x4 x7 : Int32) (l5 k0 k1 : Int64) (r0 : Nat) (h : AH) (Q : Option Value → AH → Prop) : Wp d P_X_odds 51 [.ref r0, .int x1, .int x2, .int x3, .int x4, .long l5, .null, .int x7] [.long k0, .long k1] h Q ↔ Cl d q_X_lowest [.long k1, .long k0, .int x4] h (fun r h' => Wp d P_X_odds 53 [.ref r0, .int x1, .int x2, .int x3, .int x4, .long l5, .null, .int x7] (r.toList ++ []) h' Q) :=
    (r_go (j := 52) (L' := [.ref r0, .int x1, .int x2, .int x3, .int x4, .long l5, .null, .int x7]) (S' := [.int x4, .long k0, .long k1]) (h' := h) rfl rfl rfl rfl).trans <|
    r_call (j := 53) (a := [.long k1, .long k0, .int x4]) (S' := []) rfl rfl rfl rfl rfl rfl rfl
theorem b_X_odds_53 {d : Nat} (x1 x2 x3 x4 x7 : Int32) (l5 k0 : Int64) (r0 : Nat) (h : AH) (Q : Option Value → AH → Prop) : Wp d P_X_odds 53 [.ref r0, .int x1, .int x2, .int x3, .int x4, .long l5, .null, .int x7] [.long k0] h Q ↔ Q (some (.long k0)) h :=
    r_ret rfl rfl rfl
theorem e_X_odds {d : Nat} (x1 x2 x3 x4 : Int32) (r0 : Nat) (h : AH) (Q : Option Value → AH → Prop) : Cl (d + 1) q_X_odds [.ref r0, .int x1, .int x2, .int x3, .int x4] h Q ↔ hK h r0 = 10 ∧ Wp d P_X_odds 0 [.ref r0, .int x1, .int x2, .int x3, .int x4, .null, .null, .null] [] h (fun r h' => rtk (some .long) r = true ∧ Q r h') :=
    (Cl_method (t := m_X_odds) rfl).trans (and_congr_left fun _ => decide_eq_true_iff)
