/-! PenThatJumps$Plan.become(LPenThatJumps$Plan;)V -/
theorem b_Pl_become_0 {d : Nat} (r0 r1 : Nat) (h : AH) (Q : Option Value → AH → Prop) : Wp d P_Pl_become 0 [.ref r0, .ref r1, .null] [] h Q ↔ (hK h r0 = 4) ∧ (Wp d P_Pl_become 5 [.ref r0, .ref r1, .int 0] [] (sI h r0 3 0) Q) :=
    (r_go (j := 1) (L' := [.ref r0, .ref r1, .null]) (S' := [.ref r0]) (h' := h) rfl rfl rfl rfl).trans <|
    (r_iconst (j := 2) (x := 0) rfl i32_0 rfl).trans <|
    (r_guard (j := 3) (L' := [.ref r0, .ref r1, .null]) (S' := []) (h' := (sI h r0 3 0)) (p := hK h r0 = 4) rfl rfl rfl rfl (pfI rfl)).trans <| and_r <|
    (r_iconst (j := 4) (x := 0) rfl i32_0 rfl).trans <|
    r_go (j := 5) (L' := [.ref r0, .ref r1, .int 0]) (S' := []) (h' := (sI h r0 3 0)) rfl rfl rfl rfl
theorem b_Pl_become_5 {d : Nat} (x2 : Int32) (r0 r1 : Nat) (h : AH) (Q : Option Value → AH → Prop) : Wp d P_Pl_become 5 [.ref r0, .ref r1, .int x2] [] h Q ↔ (hK h r1 = 4) ∧ (((hI h r1 3) ≤ x2 → Wp d P_Pl_become 22 [.ref r0, .ref r1, .int x2] [] h Q) ∧ (¬ ((hI h r1 3) ≤ x2) → Wp d P_Pl_become 9 [.ref r0, .ref r1, .int x2] [] h Q)) :=
    (r_go (j := 6) (L' := [.ref r0, .ref r1, .int x2]) (S' := [.int x2]) (h' := h) rfl rfl rfl rfl).trans <|
    (r_go (j := 7) (L' := [.ref r0, .ref r1, .int x2]) (S' := [.ref r1, .int x2]) (h' := h) rfl rfl rfl rfl).trans <|
    (r_guard (j := 8) (L' := [.ref r0, .ref r1, .int x2]) (S' := [.int (hI h r1 3), .int x2]) (h' := h) (p := hK h r1 = 4) rfl rfl rfl rfl (decide_eq_true_iff)).trans <| and_r <|
    r_icmp (j := 9) rfl (cd_ge _ _) rfl
theorem b_Pl_become_9 {d : Nat} (x2 : Int32) (r0 r1 : Nat) (h : AH) (Q : Option Value → AH → Prop) : Wp d P_Pl_become 9 [.ref r0, .ref r1, .int x2] [] h Q ↔ Cl d q_Pl_kindAt [.ref r1, .int x2] h (fun r h' => Wp d P_Pl_become 13 [.ref r0, .ref r1, .int x2] (r.toList ++ [.ref r0]) h' Q) :=
    (r_go (j := 10) (L' := [.ref r0, .ref r1, .int x2]) (S' := [.ref r0]) (h' := h) rfl rfl rfl rfl).trans <|
    (r_go (j := 11) (L' := [.ref r0, .ref r1, .int x2]) (S' := [.ref r1, .ref r0]) (h' := h) rfl rfl rfl rfl).trans <|
    (r_go (j := 12) (L' := [.ref r0, .ref r1, .int x2]) (S' := [.int x2, .ref r1, .ref r0]) (h' := h) rfl rfl rfl rfl).trans <|
    r_call (j := 13) (a := [.ref r1, .int x2]) (S' := [.ref r0]) rfl rfl rfl rfl rfl rfl rfl
theorem b_Pl_become_13 {d : Nat} (x2 s0 : Int32) (r0 r1 t1 : Nat) (h : AH) (Q : Option Value → AH → Prop) : Wp d P_Pl_become 13 [.ref r0, .ref r1, .int x2] [.int s0, .ref t1] h Q ↔ Cl d q_Pl_itemAt [.ref r1, .int x2] h (fun r h' => Wp d P_Pl_become 16 [.ref r0, .ref r1, .int x2] (r.toList ++ [.int s0, .ref t1]) h' Q) :=
    (r_go (j := 14) (L' := [.ref r0, .ref r1, .int x2]) (S' := [.ref r1, .int s0, .ref t1]) (h' := h) rfl rfl rfl rfl).trans <|
    (r_go (j := 15) (L' := [.ref r0, .ref r1, .int x2]) (S' := [.int x2, .ref r1, .int s0, .ref t1]) (h' := h) rfl rfl rfl rfl).trans <|
    r_call (j := 16) (a := [.ref r1, .int x2]) (S' := [.int s0, .ref t1]) rfl rfl rfl rfl rfl rfl rfl
theorem b_Pl_become_16 {d : Nat} (x2 s0 s1 : Int32) (r0 r1 t2 : Nat) (h : AH) (Q : Option Value → AH → Prop) : Wp d P_Pl_become 16 [.ref r0, .ref r1, .int x2] [.int s0, .int s1, .ref t2] h Q ↔ Cl d q_Pl_minutesAt [.ref r1, .int x2] h (fun r h' => Wp d P_Pl_become 19 [.ref r0, .ref r1, .int x2] (r.toList ++ [.int s0, .int s1, .ref t2]) h' Q) :=
    (r_go (j := 17) (L' := [.ref r0, .ref r1, .int x2]) (S' := [.ref r1, .int s0, .int s1, .ref t2]) (h' := h) rfl rfl rfl rfl).trans <|
    (r_go (j := 18) (L' := [.ref r0, .ref r1, .int x2]) (S' := [.int x2, .ref r1, .int s0, .int s1, .ref t2]) (h' := h) rfl rfl rfl rfl).trans <|
    r_call (j := 19) (a := [.ref r1, .int x2]) (S' := [.int s0, .int s1, .ref t2]) rfl rfl rfl rfl rfl rfl rfl
theorem b_Pl_become_19 {d : Nat} (x2 s0 s1 s2 : Int32) (r0 r1 t3 : Nat) (h : AH) (Q : Option Value → AH → Prop) : Wp d P_Pl_become 19 [.ref r0, .ref r1, .int x2] [.int s0, .int s1, .int s2, .ref t3] h Q ↔ Cl d q_Pl_add [.ref t3, .int s2, .int s1, .int s0] h (fun r h' => Wp d P_Pl_become 20 [.ref r0, .ref r1, .int x2] (r.toList ++ []) h' Q) :=
    r_call (j := 20) (a := [.ref t3, .int s2, .int s1, .int s0]) (S' := []) rfl rfl rfl rfl rfl rfl rfl
theorem b_Pl_become_20 {d : Nat} (x2 : Int32) (r0 r1 : Nat) (h : AH) (Q : Option Value → AH → Prop) : Wp d P_Pl_become 20 [.ref r0, .ref r1, .int x2] [] h Q ↔ Wp d P_Pl_become 5 [.ref r0, .ref r1, .int (x2 + 1)] [] h Q :=
    (r_iinc (j := 21) (x := 1) (L' := [.ref r0, .ref r1, .int (x2 + 1)]) rfl rfl i32_1 rfl rfl).trans <|
    r_go (j := 5) (L' := [.ref r0, .ref r1, .int (x2 + 1)]) (S' := []) (h' := h) rfl rfl rfl rfl
theorem b_Pl_become_22 {d : Nat} (x2 : Int32) (r0 r1 : Nat) (h : AH) (Q : Option Value → AH → Prop) : Wp d P_Pl_become 22 [.ref r0, .ref r1, .int x2] [] h Q ↔ Q (none) h :=
    r_ret rfl rfl rfl
theorem e_Pl_become {d : Nat} (r0 r1 : Nat) (h : AH) (Q : Option Value → AH → Prop) : Cl (d + 1) q_Pl_become [.ref r0, .ref r1] h Q ↔ hK h r0 = 4 ∧ Wp d P_Pl_become 0 [.ref r0, .ref r1, .null] [] h (fun r h' => rtk (none) r = true ∧ Q r h') :=
    (Cl_method (t := m_Pl_become) rfl).trans (and_congr_left fun _ => decide_eq_true_iff)
/-! PenThatJumps$Plan.kindAt(I)I -/
theorem b_Pl_kindAt_0 {d : Nat} (x1 : Int32) (r0 : Nat) (h : AH) (Q : Option Value → AH → Prop) : Wp d P_Pl_kindAt 0 [.ref r0, .int x1] [] h Q ↔ (x1 < 0 → Wp d P_Pl_kindAt 16 [.ref r0, .int x1] [] h Q) ∧ (¬ (x1 < 0) → Wp d P_Pl_kindAt 2 [.ref r0, .int x1] [] h Q) :=
    (r_go (j := 1) (L' := [.ref r0, .int x1]) (S' := [.int x1]) (h' := h) rfl rfl rfl rfl).trans <|
    r_if (j := 2) rfl (cd_lt _ _) rfl
theorem b_Pl_kindAt_2 {d : Nat} (x1 : Int32) (r0 : Nat) (h : AH) (Q : Option Value → AH → Prop) : Wp d P_Pl_kindAt 2 [.ref r0, .int x1] [] h Q ↔ (hK h r0 = 4) ∧ (((hI h r0 3) ≤ x1 → Wp d P_Pl_kindAt 16 [.ref r0, .int x1] [] h Q) ∧ (¬ ((hI h r0 3) ≤ x1) → Wp d P_Pl_kindAt 6 [.ref r0, .int x1] [] h Q)) :=
    (r_go (j := 3) (L' := [.ref r0, .int x1]) (S' := [.int x1]) (h' := h) rfl rfl rfl rfl).trans <|
    (r_go (j := 4) (L' := [.ref r0, .int x1]) (S' := [.ref r0, .int x1]) (h' := h) rfl rfl rfl rfl).trans <|
    (r_guard (j := 5) (L' := [.ref r0, .int x1]) (S' := [.int (hI h r0 3), .int x1]) (h' := h) (p := hK h r0 = 4) rfl rfl rfl rfl (decide_eq_true_iff)).trans <| and_r <|
    r_icmp (j := 6) rfl (cd_ge _ _) rfl
theorem b_Pl_kindAt_6 {d : Nat} (x1 : Int32) (r0 : Nat) (h : AH) (Q : Option Value → AH → Prop) : Wp d P_Pl_kindAt 6 [.ref r0, .int x1] [] h Q ↔ (hK h r0 = 4) ∧ ((20 ≤ hK h (hR h r0 0) ∧ hK h (hR h r0 0) ≠ 40 ∧ hK h (hR h r0 0) ≠ 42 ∧ hK h (hR h r0 0) ≤ 45 ∧ hK h (hR h r0 0) ≠ 43) ∧ (((Int32.ofNat (hN h (hR h r0 0))) ≤ x1 → Wp d P_Pl_kindAt 16 [.ref r0, .int x1] [] h Q) ∧ (¬ ((Int32.ofNat (hN h (hR h r0 0))) ≤ x1) → Wp d P_Pl_kindAt 11 [.ref r0, .int x1] [] h Q))) :=
    (r_go (j := 7) (L' := [.ref r0, .int x1]) (S' := [.int x1]) (h' := h) rfl rfl rfl rfl).trans <|
    (r_go (j := 8) (L' := [.ref r0, .int x1]) (S' := [.ref r0, .int x1]) (h' := h) rfl rfl rfl rfl).trans <|
    (r_guard (j := 9) (L' := [.ref r0, .int x1]) (S' := [.ref (hR h r0 0), .int x1]) (h' := h) (p := hK h r0 = 4) rfl rfl rfl rfl (decide_eq_true_iff)).trans <| and_r <|
    (r_guard (j := 10) (L' := [.ref r0, .int x1]) (S' := [.int (Int32.ofNat (hN h (hR h r0 0))), .int x1]) (h' := h) (p := 20 ≤ hK h (hR h r0 0) ∧ hK h (hR h r0 0) ≠ 40 ∧ hK h (hR h r0 0) ≠ 42 ∧ hK h (hR h r0 0) ≤ 45 ∧ hK h (hR h r0 0) ≠ 43) rfl rfl rfl rfl (decide_eq_true_iff)).trans <| and_r <|
    r_icmp (j := 11) rfl (cd_ge _ _) rfl
theorem b_Pl_kindAt_11 {d : Nat} (x1 : Int32) (r0 : Nat) (h : AH) (Q : Option Value → AH → Prop) : Wp d P_Pl_kindAt 11 [.ref r0, .int x1] [] h Q ↔ (hK h r0 = 4) ∧ ((hK h (hR h r0 0) ∈ [20, 44] ∧ ixo x1 (hN h (hR h r0 0)) = true) ∧ (Wp d P_Pl_kindAt 17 [.ref r0, .int x1] [.int (hI h (hR h r0 0) (Int32.toNatClampNeg x1))] h Q)) :=
    (r_go (j := 12) (L' := [.ref r0, .int x1]) (S' := [.ref r0]) (h' := h) rfl rfl rfl rfl).trans <|
    (r_guard (j := 13) (L' := [.ref r0, .int x1]) (S' := [.ref (hR h r0 0)]) (h' := h) (p := hK h r0 = 4) rfl rfl rfl rfl (decide_eq_true_iff)).trans <| and_r <|
    (r_go (j := 14) (L' := [.ref r0, .int x1]) (S' := [.int x1, .ref (hR h r0 0)]) (h' := h) rfl rfl rfl rfl).trans <|
    (r_guard (j := 15) (L' := [.ref r0, .int x1]) (S' := [.int (hI h (hR h r0 0) (Int32.toNatClampNeg x1))]) (h' := h) (p := hK h (hR h r0 0) ∈ [20, 44] ∧ ixo x1 (hN h (hR h r0 0)) = true) rfl rfl rfl rfl (and2 decide_eq_true_iff Iff.rfl)).trans <| and_r <|
    r_go (j := 17) (L' := [.ref r0, .int x1]) (S' := [.int (hI h (hR h r0 0) (Int32.toNatClampNeg x1))]) (h' := h) rfl rfl rfl rfl
theorem b_Pl_kindAt_16 {d : Nat} (x1 : Int32) (r0 : Nat) (h : AH) (Q : Option Value → AH → Prop) : Wp d P_Pl_kindAt 16 [.ref r0, .int x1] [] h Q ↔ Wp d P_Pl_kindAt 17 [.ref r0, .int x1] [.int (-1)] h Q :=
    r_iconst (j := 17) (x := (-1)) rfl i32_m1 rfl
theorem b_Pl_kindAt_17 {d : Nat} (x1 s0 : Int32) (r0 : Nat) (h : AH) (Q : Option Value → AH → Prop) : Wp d P_Pl_kindAt 17 [.ref r0, .int x1] [.int s0] h Q ↔ Q (some (.int s0)) h :=
    r_ret rfl rfl rfl
theorem e_Pl_kindAt {d : Nat} (x1 : Int32) (r0 : Nat) (h : AH) (Q : Option Value → AH → Prop) : Cl (d + 1) q_Pl_kindAt [.ref r0, .int x1] h Q ↔ hK h r0 = 4 ∧ Wp d P_Pl_kindAt 0 [.ref r0, .int x1] [] h (fun r h' => rtk (some .int) r = true ∧ Q r h') :=
    (Cl_method (t := m_Pl_kindAt) rfl).trans (and_congr_left fun _ => decide_eq_true_iff)
/-! PenThatJumps$Plan.itemAt(I)I -/
theorem b_Pl_itemAt_0 {d : Nat} (x1 : Int32) (r0 : Nat) (h : AH) (Q : Option Value → AH → Prop) : Wp d P_Pl_itemAt 0 [.ref r0, .int x1] [] h Q ↔ (x1 < 0 → Wp d P_Pl_itemAt 16 [.ref r0, .int x1] [] h Q) ∧ (¬ (x1 < 0) → Wp d P_Pl_itemAt 2 [.ref r0, .int x1] [] h Q) :=
    (r_go (j := 1) (L' := [.ref r0, .int x1]) (S' := [.int x1]) (h' := h) rfl rfl rfl rfl).trans <|
    r_if (j := 2) rfl (cd_lt _ _) rfl
theorem b_Pl_itemAt_2 {d : Nat} (x1 : Int32) (r0 : Nat) (h : AH) (Q : Option Value → AH → Prop) : Wp d P_Pl_itemAt 2 [.ref r0, .int x1] [] h Q ↔ (hK h r0 = 4) ∧ (((hI h r0 3) ≤ x1 → Wp d P_Pl_itemAt 16 [.ref r0, .int x1] [] h Q) ∧ (¬ ((hI h r0 3) ≤ x1) → Wp d P_Pl_itemAt 6 [.ref r0, .int x1] [] h Q)) :=
    (r_go (j := 3) (L' := [.ref r0, .int x1]) (S' := [.int x1]) (h' := h) rfl rfl rfl rfl).trans <|
    (r_go (j := 4) (L' := [.ref r0, .int x1]) (S' := [.ref r0, .int x1]) (h' := h) rfl rfl rfl rfl).trans <|
    (r_guard (j := 5) (L' := [.ref r0, .int x1]) (S' := [.int (hI h r0 3), .int x1]) (h' := h) (p := hK h r0 = 4) rfl rfl rfl rfl (decide_eq_true_iff)).trans <| and_r <|
    r_icmp (j := 6) rfl (cd_ge _ _) rfl
theorem b_Pl_itemAt_6 {d : Nat} (x1 : Int32) (r0 : Nat) (h : AH) (Q : Option Value → AH → Prop) : Wp d P_Pl_itemAt 6 [.ref r0, .int x1] [] h Q ↔ (hK h r0 = 4) ∧ ((20 ≤ hK h (hR h r0 1) ∧ hK h (hR h r0 1) ≠ 40 ∧ hK h (hR h r0 1) ≠ 42 ∧ hK h (hR h r0 1) ≤ 45 ∧ hK h (hR h r0 1) ≠ 43) ∧ (((Int32.ofNat (hN h (hR h r0 1))) ≤ x1 → Wp d P_Pl_itemAt 16 [.ref r0, .int x1] [] h Q) ∧ (¬ ((Int32.ofNat (hN h (hR h r0 1))) ≤ x1) → Wp d P_Pl_itemAt 11 [.ref r0, .int x1] [] h Q))) :=
    (r_go (j := 7) (L' := [.ref r0, .int x1]) (S' := [.int x1]) (h' := h) rfl rfl rfl rfl).trans <|
    (r_go (j := 8) (L' := [.ref r0, .int x1]) (S' := [.ref r0, .int x1]) (h' := h) rfl rfl rfl rfl).trans <|
    (r_guard (j := 9) (L' := [.ref r0, .int x1]) (S' := [.ref (hR h r0 1), .int x1]) (h' := h) (p := hK h r0 = 4) rfl rfl rfl rfl (decide_eq_true_iff)).trans <| and_r <|
    (r_guard (j := 10) (L' := [.ref r0, .int x1]) (S' := [.int (Int32.ofNat (hN h (hR h r0 1))), .int x1]) (h' := h) (p := 20 ≤ hK h (hR h r0 1) ∧ hK h (hR h r0 1) ≠ 40 ∧ hK h (hR h r0 1) ≠ 42 ∧ hK h (hR h r0 1) ≤ 45 ∧ hK h (hR h r0 1) ≠ 43) rfl rfl rfl rfl (decide_eq_true_iff)).trans <| and_r <|
    r_icmp (j := 11) rfl (cd_ge _ _) rfl
theorem b_Pl_itemAt_11 {d : Nat} (x1 : Int32) (r0 : Nat) (h : AH) (Q : Option Value → AH → Prop) : Wp d P_Pl_itemAt 11 [.ref r0, .int x1] [] h Q ↔ (hK h r0 = 4) ∧ ((hK h (hR h r0 1) ∈ [20, 44] ∧ ixo x1 (hN h (hR h r0 1)) = true) ∧ (Wp d P_Pl_itemAt 17 [.ref r0, .int x1] [.int (hI h (hR h r0 1) (Int32.toNatClampNeg x1))] h Q)) :=
    (r_go (j := 12) (L' := [.ref r0, .int x1]) (S' := [.ref r0]) (h' := h) rfl rfl rfl rfl).trans <|
    (r_guard (j := 13) (L' := [.ref r0, .int x1]) (S' := [.ref (hR h r0 1)]) (h' := h) (p := hK h r0 = 4) rfl rfl rfl rfl (decide_eq_true_iff)).trans <| and_r <|
    (r_go (j := 14) (L' := [.ref r0, .int x1]) (S' := [.int x1, .ref (hR h r0 1)]) (h' := h) rfl rfl rfl rfl).trans <|
    (r_guard (j := 15) (L' := [.ref r0, .int x1]) (S' := [.int (hI h (hR h r0 1) (Int32.toNatClampNeg x1))]) (h' := h) (p := hK h (hR h r0 1) ∈ [20, 44] ∧ ixo x1 (hN h (hR h r0 1)) = true) rfl rfl rfl rfl (and2 decide_eq_true_iff Iff.rfl)).trans <| and_r <|
    r_go (j := 17) (L' := [.ref r0, .int x1]) (S' := [.int (hI h (hR h r0 1) (Int32.toNatClampNeg x1))]) (h' := h) rfl rfl rfl rfl
theorem b_Pl_itemAt_16 {d : Nat} (x1 : Int32) (r0 : Nat) (h : AH) (Q : Option Value → AH → Prop) : Wp d P_Pl_itemAt 16 [.ref r0, .int x1] [] h Q ↔ Wp d P_Pl_itemAt 17 [.ref r0, .int x1] [.int (-1)] h Q :=
    r_iconst (j := 17) (x := (-1)) rfl i32_m1 rfl
theorem b_Pl_itemAt_17 {d : Nat} (x1 s0 : Int32) (r0 : Nat) (h : AH) (Q : Option Value → AH → Prop) : Wp d P_Pl_itemAt 17 [.ref r0, .int x1] [.int s0] h Q ↔ Q (some (.int s0)) h :=
    r_ret rfl rfl rfl
theorem e_Pl_itemAt {d : Nat} (x1 : Int32) (r0 : Nat) (h : AH) (Q : Option Value → AH → Prop) : Cl (d + 1) q_Pl_itemAt [.ref r0, .int x1] h Q ↔ hK h r0 = 4 ∧ Wp d P_Pl_itemAt 0 [.ref r0, .int x1] [] h (fun r h' => rtk (some .int) r = true ∧ Q r h') :=
    (Cl_method (t := m_Pl_itemAt) rfl).trans (and_congr_left fun _ => decide_eq_true_iff)
/-! PenThatJumps$Plan.minutesAt(I)I -/
theorem b_Pl_minutesAt_0 {d : Nat} (x1 : Int32) (r0 : Nat) (h : AH) (Q : Option Value → AH → Prop) : Wp d P_Pl_minutesAt 0 [.ref r0, .int x1] [] h Q ↔ (x1 < 0 → Wp d P_Pl_minutesAt 16 [.ref r0, .int x1] [] h Q) ∧ (¬ (x1 < 0) → Wp d P_Pl_minutesAt 2 [.ref r0, .int x1] [] h Q) :=
    (r_go (j := 1) (L' := [.ref r0, .int x1]) (S' := [.int x1]) (h' := h) rfl rfl rfl rfl).trans <|
    r_if (j := 2) rfl (cd_lt _ _) rfl
theorem b_Pl_minutesAt_2 {d : Nat} (x1 : Int32) (r0 : Nat) (h : AH) (Q : Option Value → AH → Prop) : Wp d P_Pl_minutesAt 2 [.ref r0, .int x1] [] h Q ↔ (hK h r0 = 4) ∧ (((hI h r0 3) ≤ x1 → Wp d P_Pl_minutesAt 16 [.ref r0, .int x1] [] h Q) ∧ (¬ ((hI h r0 3) ≤ x1) → Wp d P_Pl_minutesAt 6 [.ref r0, .int x1] [] h Q)) :=
    (r_go (j := 3) (L' := [.ref r0, .int x1]) (S' := [.int x1]) (h' := h) rfl rfl rfl rfl).trans <|
    (r_go (j := 4) (L' := [.ref r0, .int x1]) (S' := [.ref r0, .int x1]) (h' := h) rfl rfl rfl rfl).trans <|
    (r_guard (j := 5) (L' := [.ref r0, .int x1]) (S' := [.int (hI h r0 3), .int x1]) (h' := h) (p := hK h r0 = 4) rfl rfl rfl rfl (decide_eq_true_iff)).trans <| and_r <|
    r_icmp (j := 6) rfl (cd_ge _ _) rfl
theorem b_Pl_minutesAt_6 {d : Nat} (x1 : Int32) (r0 : Nat) (h : AH) (Q : Option Value → AH → Prop) : Wp d P_Pl_minutesAt 6 [.ref r0, .int x1] [] h Q ↔ (hK h r0 = 4) ∧ ((20 ≤ hK h (hR h r0 2) ∧ hK h (hR h r0 2) ≠ 40 ∧ hK h (hR h r0 2) ≠ 42 ∧ hK h (hR h r0 2) ≤ 45 ∧ hK h (hR h r0 2) ≠ 43) ∧ (((Int32.ofNat (hN h (hR h r0 2))) ≤ x1 → Wp d P_Pl_minutesAt 16 [.ref r0, .int x1] [] h Q) ∧ (¬ ((Int32.ofNat (hN h (hR h r0 2))) ≤ x1) → Wp d P_Pl_minutesAt 11 [.ref r0, .int x1] [] h Q))) :=
    (r_go (j := 7) (L' := [.ref r0, .int x1]) (S' := [.int x1]) (h' := h) rfl rfl rfl rfl).trans <|
    (r_go (j := 8) (L' := [.ref r0, .int x1]) (S' := [.ref r0, .int x1]) (h' := h) rfl rfl rfl rfl).trans <|
    (r_guard (j := 9) (L' := [.ref r0, .int x1]) (S' := [.ref (hR h r0 2), .int x1]) (h' := h) (p := hK h r0 = 4) rfl rfl rfl rfl (decide_eq_true_iff)).trans <| and_r <|
    (r_guard (j := 10) (L' := [.ref r0, .int x1]) (S' := [.int (Int32.ofNat (hN h (hR h r0 2))), .int x1]) (h' := h) (p := 20 ≤ hK h (hR h r0 2) ∧ hK h (hR h r0 2) ≠ 40 ∧ hK h (hR h r0 2) ≠ 42 ∧ hK h (hR h r0 2) ≤ 45 ∧ hK h (hR h r0 2) ≠ 43) rfl rfl rfl rfl (decide_eq_true_iff)).trans <| and_r <|
    r_icmp (j := 11) rfl (cd_ge _ _) rfl
theorem b_Pl_minutesAt_11 {d : Nat} (x1 : Int32) (r0 : Nat) (h : AH) (Q : Option Value → AH → Prop) : Wp d P_Pl_minutesAt 11 [.ref r0, .int x1] [] h Q ↔ (hK h r0 = 4) ∧ ((hK h (hR h r0 2) ∈ [20, 44] ∧ ixo x1 (hN h (hR h r0 2)) = true) ∧ (Wp d P_Pl_minutesAt 17 [.ref r0, .int x1] [.int (hI h (hR h r0 2) (Int32.toNatClampNeg x1))] h Q)) :=
    (r_go (j := 12) (L' := [.ref r0, .int x1]) (S' := [.ref r0]) (h' := h) rfl rfl rfl rfl).trans <|
    (r_guard (j := 13) (L' := [.ref r0, .int x1]) (S' := [.ref (hR h r0 2)]) (h' := h) (p := hK h r0 = 4) rfl rfl rfl rfl (decide_eq_true_iff)).trans <| and_r <|
    (r_go (j := 14) (L' := [.ref r0, .int x1]) (S' := [.int x1, .ref (hR h r0 2)]) (h' := h) rfl rfl rfl rfl).trans <|
    (r_guard (j := 15) (L' := [.ref r0, .int x1]) (S' := [.int (hI h (hR h r0 2) (Int32.toNatClampNeg x1))]) (h' := h) (p := hK h (hR h r0 2) ∈ [20, 44] ∧ ixo x1 (hN h (hR h r0 2)) = true) rfl rfl rfl rfl (and2 decide_eq_true_iff Iff.rfl)).trans <| and_r <|
    r_go (j := 17) (L' := [.ref r0, .int x1]) (S' := [.int (hI h (hR h r0 2) (Int32.toNatClampNeg x1))]) (h' := h) rfl rfl rfl rfl
theorem b_Pl_minutesAt_16 {d : Nat} (x1 : Int32) (r0 : Nat) (h : AH) (Q : Option Value → AH → Prop) : Wp d P_Pl_minutesAt 16 [.ref r0, .int x1] [] h Q ↔ Wp d P_Pl_minutesAt 17 [.ref r0, .int x1] [.int (-1)] h Q :=
    r_iconst (j := 17) (x := (-1)) rfl i32_m1 rfl
theorem b_Pl_minutesAt_17 {d : Nat} (x1 s0 : Int32) (r0 : Nat) (h : AH) (Q : Option Value → AH → Prop) : Wp d P_Pl_minutesAt 17 [.ref r0, .int x1] [.int s0] h Q ↔ Q (some (.int s0)) h :=
    r_ret rfl rfl rfl
theorem e_Pl_minutesAt {d : Nat} (x1 : Int32) (r0 : Nat) (h : AH) (Q : Option Value → AH → Prop) : Cl (d + 1) q_Pl_minutesAt [.ref r0, .int x1] h Q ↔ hK h r0 = 4 ∧ Wp d P_Pl_minutesAt 0 [.ref r0, .int x1] [] h (fun r h' => rtk (some .int) r = true ∧ Q r h') :=
    (Cl_method (t := m_Pl_minutesAt) rfl).trans (and_congr_left fun _ => decide_eq_true_iff)
/-! PenThatJumps$Plan.ahead(I)I -/
theorem b_Pl_ahead_0 {d : Nat} (x1 : Int32) (r0 : Nat) (h : AH) (Q : Option Value → AH → Prop) : Wp d P_Pl_ahead 0 [.ref r0, .int x1, .null, .null, .null] [] h Q ↔ Cl d q_Pl_kindAt [.ref r0, .int x1] h (fun r h' => Wp d P_Pl_ahead 3 [.ref r0, .int x1, .null, .null, .null] (r.toList ++ []) h' Q) :=
    (r_go (j := 1) (L' := [.ref r0, .int x1, .null, .null, .null]) (S' := [.ref r0]) (h' := h) rfl rfl rfl rfl).trans <|
    (r_go (j := 2) (L' := [.ref r0, .int x1, .null, .null, .null]) (S' := [.int x1, .ref r0]) (h' := h) rfl rfl rfl rfl).trans <|
    r_call (j := 3) (a := [.ref r0, .int x1]) (S' := []) rfl rfl rfl rfl rfl rfl rfl
theorem b_Pl_ahead_3 {d : Nat} (x1 s0 : Int32) (r0 : Nat) (h : AH) (Q : Option Value → AH → Prop) : Wp d P_Pl_ahead 3 [.ref r0, .int x1, .null, .null, .null] [.int s0] h Q ↔ Wp d P_Pl_ahead 8 [.ref r0, .int x1, .int s0, .int 0, .int 0] [] h Q :=
    (r_go (j := 4) (L' := [.ref r0, .int x1, .int s0, .null, .null]) (S' := []) (h' := h) rfl rfl rfl rfl).trans <|
    (r_iconst (j := 5) (x := 0) rfl i32_0 rfl).trans <|
    (r_go (j := 6) (L' := [.ref r0, .int x1, .int s0, .int 0, .null]) (S' := []) (h' := h) rfl rfl rfl rfl).trans <|
    (r_iconst (j := 7) (x := 0) rfl i32_0 rfl).trans <|
    r_go (j := 8) (L' := [.ref r0, .int x1, .int s0, .int 0, .int 0]) (S' := []) (h' := h) rfl rfl rfl rfl
theorem b_Pl_ahead_8 {d : Nat} (x1 x2 x3 x4 : Int32) (r0 : Nat) (h : AH) (Q : Option Value → AH → Prop) : Wp d P_Pl_ahead 8 [.ref r0, .int x1, .int x2, .int x3, .int x4] [] h Q ↔ (x1 ≤ x4 → Wp d P_Pl_ahead 23 [.ref r0, .int x1, .int x2, .int x3, .int x4] [] h Q) ∧ (¬ (x1 ≤ x4) → Wp d P_Pl_ahead 11 [.ref r0, .int x1, .int x2, .int x3, .int x4] [] h Q) :=
    (r_go (j := 9) (L' := [.ref r0, .int x1, .int x2, .int x3, .int x4]) (S' := [.int x4]) (h' := h) rfl rfl rfl rfl).trans <|
    (r_go (j := 10) (L' := [.ref r0, .int x1, .int x2, .int x3, .int x4]) (S' := [.int x1, .int x4]) (h' := h) rfl rfl rfl rfl).trans <|
    r_icmp (j := 11) rfl (cd_ge _ _) rfl
theorem b_Pl_ahead_11 {d : Nat} (x1 x2 x3 x4 : Int32) (r0 : Nat) (h : AH) (Q : Option Value → AH → Prop) : Wp d P_Pl_ahead 11 [.ref r0, .int x1, .int x2, .int x3, .int x4] [] h Q ↔ (hK h r0 = 4) ∧ (((hI h r0 3) ≤ x4 → Wp d P_Pl_ahead 23 [.ref r0, .int x1, .int x2, .int x3, .int x4] [] h Q) ∧ (¬ ((hI h r0 3) ≤ x4) → Wp d P_Pl_ahead 15 [.ref r0, .int x1, .int x2, .int x3, .int x4] [] h Q)) :=
    (r_go (j := 12) (L' := [.ref r0, .int x1, .int x2, .int x3, .int x4]) (S' := [.int x4]) (h' := h) rfl rfl rfl rfl).trans <|
    (r_go (j := 13) (L' := [.ref r0, .int x1, .int x2, .int x3, .int x4]) (S' := [.ref r0, .int x4]) (h' := h) rfl rfl rfl rfl).trans <|
    (r_guard (j := 14) (L' := [.ref r0, .int x1, .int x2, .int x3, .int x4]) (S' := [.int (hI h r0 3), .int x4]) (h' := h) (p := hK h r0 = 4) rfl rfl rfl rfl (decide_eq_true_iff)).trans <| and_r <|
    r_icmp (j := 15) rfl (cd_ge _ _) rfl
theorem b_Pl_ahead_15 {d : Nat} (x1 x2 x3 x4 : Int32) (r0 : Nat) (h : AH) (Q : Option Value → AH → Prop) : Wp d P_Pl_ahead 15 [.ref r0, .int x1, .int x2, .int x3, .int x4] [] h Q ↔ Cl d q_Pl_kindAt [.ref r0, .int x4] h (fun r h' => Wp d P_Pl_ahead 18 [.ref r0, .int x1, .int x2, .int x3, .int x4] (r.toList ++ []) h' Q) :=
    (r_go (j := 16) (L' := [.ref r0, .int x1, .int x2, .int x3, .int x4]) (S' := [.ref r0]) (h' := h) rfl rfl rfl rfl).trans <|
    (r_go (j := 17) (L' := [.ref r0, .int x1, .int x2, .int x3, .int x4]) (S' := [.int x4, .ref r0]) (h' := h) rfl rfl rfl rfl).trans <|
    r_call (j := 18) (a := [.ref r0, .int x4]) (S' := []) rfl rfl rfl rfl rfl rfl rfl
theorem b_Pl_ahead_18 {d : Nat} (x1 x2 x3 x4 s0 : Int32) (r0 : Nat) (h : AH) (Q : Option Value → AH → Prop) : Wp d P_Pl_ahead 18 [.ref r0, .int x1, .int x2, .int x3, .int x4] [.int s0] h Q ↔ (¬ s0 = x2 → Wp d P_Pl_ahead 21 [.ref r0, .int x1, .int x2, .int x3, .int x4] [] h Q) ∧ (¬ (¬ s0 = x2) → Wp d P_Pl_ahead 20 [.ref r0, .int x1, .int x2, .int x3, .int x4] [] h Q) :=
    (r_go (j := 19) (L' := [.ref r0, .int x1, .int x2, .int x3, .int x4]) (S' := [.int x2, .int s0]) (h' := h) rfl rfl rfl rfl).trans <|
    r_icmp (j := 20) rfl (cd_ne _ _) rfl
theorem b_Pl_ahead_20 {d : Nat} (x1 x2 x3 x4 : Int32) (r0 : Nat) (h : AH) (Q : Option Value → AH → Prop) : Wp d P_Pl_ahead 20 [.ref r0, .int x1, .int x2, .int x3, .int x4] [] h Q ↔ Wp d P_Pl_ahead 21 [.ref r0, .int x1, .int x2, .int (x3 + 1), .int x4] [] h Q :=
    r_iinc (j := 21) (x := 1) (L' := [.ref r0, .int x1, .int x2, .int (x3 + 1), .int x4]) rfl rfl i32_1 rfl rfl
theorem b_Pl_ahead_21 {d : Nat} (x1 x2 x3 x4 : Int32) (r0 : Nat) (h : AH) (Q : Option Value → AH → Prop) : Wp d P_Pl_ahead 21 [.ref r0, .int x1, .int x2, .int x3, .int x4] [] h Q ↔ Wp d P_Pl_ahead 8 [.ref r0, .int x1, .int x2, .int x3, .int (x4 + 1)] [] h Q :=
    (r_iinc (j := 22) (x := 1) (L' := [.ref r0, .int x1, .int x2, .int x3, .int (x4 + 1)]) rfl rfl i32_1 rfl rfl).trans <|
    r_go (j := 8) (L' := [.ref r0, .int x1, .int x2, .int x3, .int (x4 + 1)]) (S' := []) (h' := h) rfl rfl rfl rfl
theorem b_Pl_ahead_23 {d : Nat} (x1 x2 x3 x4 : Int32) (r0 : Nat) (h : AH) (Q : Option Value → AH → Prop) : Wp d P_Pl_ahead 23 [.ref r0, .int x1, .int x2, .int x3, .int x4] [] h Q ↔ Q (some (.int x3)) h :=
    (r_go (j := 24) (L' := [.ref r0, .int x1, .int x2, .int x3, .int x4]) (S' := [.int x3]) (h' := h) rfl rfl rfl rfl).trans <|
    r_ret rfl rfl rfl
theorem e_Pl_ahead {d : Nat} (x1 : Int32) (r0 : Nat) (h : AH) (Q : Option Value → AH → Prop) : Cl (d + 1) q_Pl_ahead [.ref r0, .int x1] h Q ↔ hK h r0 = 4 ∧ Wp d P_Pl_ahead 0 [.ref r0, .int x1, .null, .null, .null] [] h (fun r h' => rtk (some .int) r = true ∧ Q r h') :=
    (Cl_method (t := m_Pl_ahead) rfl).trans (and_congr_left fun _ => decide_eq_true_iff)
/-! PenThatJumps$Planner.<init>()V -/
theorem b_Pr_init_0 {d : Nat} (r0 : Nat) (h : AH) (Q : Option Value → AH → Prop) : Wp d P_Pr_init 0 [.ref r0] [] h Q ↔ Cl d 301 [.ref r0] h (fun r h' => Wp d P_Pr_init 2 [.ref r0] (r.toList ++ []) h' Q) :=
    (r_go (j := 1) (L' := [.ref r0]) (S' := [.ref r0]) (h' := h) rfl rfl rfl rfl).trans <|
    r_call (j := 2) (a := [.ref r0]) (S' := []) rfl rfl rfl rfl rfl rfl rfl
theorem b_Pr_init_2 {d : Nat} (r0 : Nat) (h : AH) (Q : Option Value → AH → Prop) : Wp d P_Pr_init 2 [.ref r0] [] h Q ↔ ((0 : Int32) ≤ 1728 ∧ Int32.toNatClampNeg 1728 ≤ 10000) ∧ (Wp d P_Pr_init 5 [.ref r0] [.ref (hz h), .ref r0] (mkC h 20 (Int32.toNatClampNeg 1728) (Int32.toNatClampNeg 1728)) Q) :=
    (r_go (j := 3) (L' := [.ref r0]) (S' := [.ref r0]) (h' := h) rfl rfl rfl rfl).trans <|
    (r_sipush (j := 4) (x := 1728) rfl i32_1728 rfl).trans <|
    r_guard (j := 5) (L' := [.ref r0]) (S' := [.ref (hz h), .ref r0]) (h' := (mkC h 20 (Int32.toNatClampNeg 1728) (Int32.toNatClampNeg 1728))) (p := (0 : Int32) ≤ 1728 ∧ Int32.toNatClampNeg 1728 ≤ 10000) rfl rfl rfl rfl (and2 decide_eq_true_iff decide_eq_true_iff)
theorem b_Pr_init_5 {d : Nat} (r0 t0 t1 : Nat) (h : AH) (Q : Option Value → AH → Prop) : Wp d P_Pr_init 5 [.ref r0] [.ref t0, .ref t1] h Q ↔ (hK h t1 = 5) ∧ (Wp d P_Pr_init 6 [.ref r0] [] (sR h t1 0 t0) Q) :=
    r_guard (j := 6) (L' := [.ref r0]) (S' := []) (h' := (sR h t1 0 t0)) (p := hK h t1 = 5) rfl rfl rfl rfl (pfR rfl)
theorem b_Pr_init_6 {d : Nat} (r0 : Nat) (h : AH) (Q : Option Value → AH → Prop) : Wp d P_Pr_init 6 [.ref r0] [] h Q ↔ ((0 : Int32) ≤ 4 ∧ Int32.toNatClampNeg 4 ≤ 10000) ∧ (Wp d P_Pr_init 9 [.ref r0] [.ref (hz h), .ref r0] (mkC h 20 (Int32.toNatClampNeg 4) (Int32.toNatClampNeg 4)) Q) :=
    (r_go (j := 7) (L' := [.ref r0]) (S' := [.ref r0]) (h' := h) rfl rfl rfl rfl).trans <|
    (r_iconst (j := 8) (x := 4) rfl i32_4 rfl).trans <|
    r_guard (j := 9) (L' := [.ref r0]) (S' := [.ref (hz h), .ref r0]) (h' := (mkC h 20 (Int32.toNatClampNeg 4) (Int32.toNatClampNeg 4))) (p := (0 : Int32) ≤ 4 ∧ Int32.toNatClampNeg 4 ≤ 10000) rfl rfl rfl rfl (and2 decide_eq_true_iff decide_eq_true_iff)
theorem b_Pr_init_9 {d : Nat} (r0 t0 t1 : Nat) (h : AH) (Q : Option Value → AH → Prop) : Wp d P_Pr_init 9 [.ref r0] [.ref t0, .ref t1] h Q ↔ (hK h t1 = 5) ∧ (Wp d P_Pr_init 10 [.ref r0] [] (sR h t1 1 t0) Q) :=
    r_guard (j := 10) (L' := [.ref r0]) (S' := []) (h' := (sR h t1 1 t0)) (p := hK h t1 = 5) rfl rfl rfl rfl (pfR rfl)
theorem b_Pr_init_10 {d : Nat} (r0 : Nat) (h : AH) (Q : Option Value → AH → Prop) : Wp d P_Pr_init 10 [.ref r0] [] h Q ↔ Q (none) h :=
    r_ret rfl rfl rfl
theorem e_Pr_init {d : Nat} (r0 : Nat) (h : AH) (Q : Option Value → AH → Prop) : Cl (d + 1) q_Pr_init [.ref r0] h Q ↔ hK h r0 = 5 ∧ Wp d P_Pr_init 0 [.ref r0] [] h (fun r h' => rtk (none) r = true ∧ Q r h') :=
    (Cl_method (t := m_Pr_init) rfl).trans (and_congr_left fun _ => decide_eq_true_iff)
/-! PenThatJumps$Planner.cell(III)I -/
theorem b_Pr_cell_0 {d : Nat} (x0 x1 x2 : Int32) (h : AH) (Q : Option Value → AH → Prop) : Wp d P_Pr_cell 0 [.int x0, .int x1, .int x2] [] h Q ↔ Q (some (.int ((((x0 * 12) + x1) * 12) + x2))) h :=
    (r_go (j := 1) (L' := [.int x0, .int x1, .int x2]) (S' := [.int x0]) (h' := h) rfl rfl rfl rfl).trans <|
    (r_bipush (j := 2) (x := 12) rfl i32_12 rfl).trans <|
    (r_go (j := 3) (L' := [.int x0, .int x1, .int x2]) (S' := [.int (x0 * 12)]) (h' := h) rfl rfl rfl rfl).trans <|
    (r_go (j := 4) (L' := [.int x0, .int x1, .int x2]) (S' := [.int x1, .int (x0 * 12)]) (h' := h) rfl rfl rfl rfl).trans <|
    (r_go (j := 5) (L' := [.int x0, .int x1, .int x2]) (S' := [.int ((x0 * 12) + x1)]) (h' := h) rfl rfl rfl rfl).trans <|
    (r_bipush (j := 6) (x := 12) rfl i32_12 rfl).trans <|
    (r_go (j := 7) (L' := [.int x0, .int x1, .int x2]) (S' := [.int (((x0 * 12) + x1) * 12)]) (h' := h) rfl rfl rfl rfl).trans <|
    (r_go (j := 8) (L' := [.int x0, .int x1, .int x2]) (S' := [.int x2, .int (((x0 * 12) + x1) * 12)]) (h' := h) rfl rfl rfl rfl).trans <|
    (r_go (j := 9) (L' := [.int x0, .int x1, .int x2]) (S' := [.int ((((x0 * 12) + x1) * 12) + x2)]) (h' := h) rfl rfl rfl rfl).trans <|
    r_ret rfl rfl rfl
theorem e_Pr_cell {d : Nat} (x0 x1 x2 : Int32) (h : AH) (Q : Option Value → AH → Prop) : Cl (d + 1) q_Pr_cell [.int x0, .int x1, .int x2] h Q ↔ Wp d P_Pr_cell 0 [.int x0, .int x1, .int x2] [] h (fun r h' => rtk (some .int) r = true ∧ Q r h') :=
    (Cl_method (t := m_Pr_cell) rfl).trans (and_iff_right rfl)
/-! PenThatJumps$Planner.weigh(LPenThatJumps$Chair;LPenThatJumps$Plan;LPenThatJumps$Person;LPenThatJumps$Person;)V -/
theorem b_Pr_weigh_0 {d : Nat} (r0 r1 r2 r3 r4 : Nat) (h : AH) (Q : Option Value → AH → Prop) : Wp d P_Pr_weigh 0 [.ref r0, .ref r1, .ref r2, .ref r3, .ref r4, .null, .null, .null, .null, .null] [] h Q ↔ Wp d P_Pr_weigh 2 [.ref r0, .ref r1, .ref r2, .ref r3, .ref r4, .int 0, .null, .null, .null, .null] [] h Q :=
    (r_iconst (j := 1) (x := 0) rfl i32_0 rfl).trans <|
    r_go (j := 2) (L' := [.ref r0, .ref r1, .ref r2, .ref r3, .ref r4, .int 0, .null, .null, .null, .null]) (S' := []) (h' := h) rfl rfl rfl rfl
theorem b_Pr_weigh_2 {d : Nat} (x5 : Int32) (r0 r1 r2 r3 r4 : Nat) (v6 v7 v8 v9 : Value) (h : AH) (Q : Option Value → AH → Prop) : Wp d P_Pr_weigh 2 [.ref r0, .ref r1, .ref r2, .ref r3, .ref r4, .int x5, v6, v7, v8, v9] [] h Q ↔ (hK h r2 = 4) ∧ (((hI h r2 3) ≤ x5 → Wp d P_Pr_weigh 53 [.ref r0, .ref r1, .ref r2, .ref r3, .ref r4, .int x5, v6, v7, v8, v9] [] h Q) ∧ (¬ ((hI h r2 3) ≤ x5) → Wp d P_Pr_weigh 6 [.ref r0, .ref r1, .ref r2, .ref r3, .ref r4, .int x5, v6, v7, v8, v9] [] h Q)) :=
    (r_go (j := 3) (L' := [.ref r0, .ref r1, .ref r2, .ref r3, .ref r4, .int x5, v6, v7, v8, v9]) (S' := [.int x5]) (h' := h) rfl rfl rfl rfl).trans <|
    (r_go (j := 4) (L' := [.ref r0, .ref r1, .ref r2, .ref r3, .ref r4, .int x5, v6, v7, v8, v9]) (S' := [.ref r2, .int x5]) (h' := h) rfl rfl rfl rfl).trans <|
    (r_guard (j := 5) (L' := [.ref r0, .ref r1, .ref r2, .ref r3, .ref r4, .int x5, v6, v7, v8, v9]) (S' := [.int (hI h r2 3), .int x5]) (h' := h) (p := hK h r2 = 4) rfl rfl rfl rfl (decide_eq_true_iff)).trans <| and_r <|
    r_icmp (j := 6) rfl (cd_ge _ _) rfl
theorem b_Pr_weigh_6 {d : Nat} (x5 : Int32) (r0 r1 r2 r3 r4 : Nat) (v6 v7 v8 v9 : Value) (h : AH) (Q : Option Value → AH → Prop) : Wp d P_Pr_weigh 6 [.ref r0, .ref r1, .ref r2, .ref r3, .ref r4, .int x5, v6, v7, v8, v9] [] h Q ↔ Cl d q_Pl_ahead [.ref r2, .int x5] h (fun r h' => Wp d P_Pr_weigh 9 [.ref r0, .ref r1, .ref r2, .ref r3, .ref r4, .int x5, v6, v7, v8, v9] (r.toList ++ []) h' Q) :=
    (r_go (j := 7) (L' := [.ref r0, .ref r1, .ref r2, .ref r3, .ref r4, .int x5, v6, v7, v8, v9]) (S' := [.ref r2]) (h' := h) rfl rfl rfl rfl).trans <|
    (r_go (j := 8) (L' := [.ref r0, .ref r1, .ref r2, .ref r3, .ref r4, .int x5, v6, v7, v8, v9]) (S' := [.int x5, .ref r2]) (h' := h) rfl rfl rfl rfl).trans <|
    r_call (j := 9) (a := [.ref r2, .int x5]) (S' := []) rfl rfl rfl rfl rfl rfl rfl
theorem b_Pr_weigh_9 {d : Nat} (x5 s0 : Int32) (r0 r1 r2 r3 r4 : Nat) (v6 v7 v8 v9 : Value) (h : AH) (Q : Option Value → AH → Prop) : Wp d P_Pr_weigh 9 [.ref r0, .ref r1, .ref r2, .ref r3, .ref r4, .int x5, v6, v7, v8, v9] [.int s0] h Q ↔ Wp d P_Pr_weigh 12 [.ref r0, .ref r1, .ref r2, .ref r3, .ref r4, .int x5, .int s0, .int 0, v8, v9] [] h Q :=
    (r_go (j := 10) (L' := [.ref r0, .ref r1, .ref r2, .ref r3, .ref r4, .int x5, .int s0, v7, v8, v9]) (S' := []) (h' := h) rfl rfl rfl rfl).trans <|
    (r_iconst (j := 11) (x := 0) rfl i32_0 rfl).trans <|
    r_go (j := 12) (L' := [.ref r0, .ref r1, .ref r2, .ref r3, .ref r4, .int x5, .int s0, .int 0, v8, v9]) (S' := []) (h' := h) rfl rfl rfl rfl
theorem b_Pr_weigh_12 {d : Nat} (x5 x6 x7 : Int32) (r0 r1 r2 r3 r4 : Nat) (v8 v9 : Value) (h : AH) (Q : Option Value → AH → Prop) : Wp d P_Pr_weigh 12 [.ref r0, .ref r1, .ref r2, .ref r3, .ref r4, .int x5, .int x6, .int x7, v8, v9] [] h Q ↔ (x5 < x7 → Wp d P_Pr_weigh 51 [.ref r0, .ref r1, .ref r2, .ref r3, .ref r4, .int x5, .int x6, .int x7, v8, v9] [] h Q) ∧ (¬ (x5 < x7) → Wp d P_Pr_weigh 15 [.ref r0, .ref r1, .ref r2, .ref r3, .ref r4, .int x5, .int x6, .int x7, v8, v9] [] h Q) :=
    (r_go (j := 13) (L' := [.ref r0, .ref r1, .ref r2, .ref r3, .ref r4, .int x5, .int x6, .int x7, v8, v9]) (S' := [.int x7]) (h' := h) rfl rfl rfl rfl).trans <|
    (r_go (j := 14) (L' := [.ref r0, .ref r1, .ref r2, .ref r3, .ref r4, .int x5, .int x6, .int x7, v8, v9]) (S' := [.int x5, .int x7]) (h' := h) rfl rfl rfl rfl).trans <|
    r_icmp (j := 15) rfl (cd_gt _ _) rfl
theorem b_Pr_weigh_15 {d : Nat} (x5 x6 x7 : Int32) (r0 r1 r2 r3 r4 : Nat) (v8 v9 : Value) (h : AH) (Q : Option Value → AH → Prop) : Wp d P_Pr_weigh 15 [.ref r0, .ref r1, .ref r2, .ref r3, .ref r4, .int x5, .int x6, .int x7, v8, v9] [] h Q ↔ Wp d P_Pr_weigh 17 [.ref r0, .ref r1, .ref r2, .ref r3, .ref r4, .int x5, .int x6, .int x7, .int 0, v9] [] h Q :=
    (r_iconst (j := 16) (x := 0) rfl i32_0 rfl).trans <|
    r_go (j := 17) (L' := [.ref r0, .ref r1, .ref r2, .ref r3, .ref r4, .int x5, .int x6, .int x7, .int 0, v9]) (S' := []) (h' := h) rfl rfl rfl rfl
theorem b_Pr_weigh_17 {d : Nat} (x5 x6 x7 x8 : Int32) (r0 r1 r2 r3 r4 : Nat) (v9 : Value) (h : AH) (Q : Option Value → AH → Prop) : Wp d P_Pr_weigh 17 [.ref r0, .ref r1, .ref r2, .ref r3, .ref r4, .int x5, .int x6, .int x7, .int x8, v9] [] h Q ↔ (x6 < x8 → Wp d P_Pr_weigh 49 [.ref r0, .ref r1, .ref r2, .ref r3, .ref r4, .int x5, .int x6, .int x7, .int x8, v9] [] h Q) ∧ (¬ (x6 < x8) → Wp d P_Pr_weigh 20 [.ref r0, .ref r1, .ref r2, .ref r3, .ref r4, .int x5, .int x6, .int x7, .int x8, v9] [] h Q) :=
    (r_go (j := 18) (L' := [.ref r0, .ref r1, .ref r2, .ref r3, .ref r4, .int x5, .int x6, .int x7, .int x8, v9]) (S' := [.int x8]) (h' := h) rfl rfl rfl rfl).trans <|
    (r_go (j := 19) (L' := [.ref r0, .ref r1, .ref r2, .ref r3, .ref r4, .int x5, .int x6, .int x7, .int x8, v9]) (S' := [.int x6, .int x8]) (h' := h) rfl rfl rfl rfl).trans <|
    r_icmp (j := 20) rfl (cd_gt _ _) rfl
theorem b_Pr_weigh_20 {d : Nat} (x5 x6 x7 x8 : Int32) (r0 r1 r2 r3 r4 : Nat) (v9 : Value) (h : AH) (Q : Option Value → AH → Prop) : Wp d P_Pr_weigh 20 [.ref r0, .ref r1, .ref r2, .ref r3, .ref r4, .int x5, .int x6, .int x7, .int x8, v9] [] h Q ↔ (x7 < x8 → Wp d P_Pr_weigh 49 [.ref r0, .ref r1, .ref r2, .ref r3, .ref r4, .int x5, .int x6, .int x7, .int x8, v9] [] h Q) ∧ (¬ (x7 < x8) → Wp d P_Pr_weigh 23 [.ref r0, .ref r1, .ref r2, .ref r3, .ref r4, .int x5, .int x6, .int x7, .int x8, v9] [] h Q) :=
    (r_go (j := 21) (L' := [.ref r0, .ref r1, .ref r2, .ref r3, .ref r4, .int x5, .int x6, .int x7, .int x8, v9]) (S' := [.int x8]) (h' := h) rfl rfl rfl rfl).trans <|
    (r_go (j := 22) (L' := [.ref r0, .ref r1, .ref r2, .ref r3, .ref r4, .int x5, .int x6, .int x7, .int x8, v9]) (S' := [.int x7, .int x8]) (h' := h) rfl rfl rfl rfl).trans <|
    r_icmp (j := 23) rfl (cd_gt _ _) rfl
theorem b_Pr_weigh_23 {d : Nat} (x5 x6 x7 x8 : Int32) (r0 r1 r2 r3 r4 : Nat) (v9 : Value) (h : AH) (Q : Option Value → AH → Prop) : Wp d P_Pr_weigh 23 [.ref r0, .ref r1, .ref r2, .ref r3, .ref r4, .int x5, .int x6, .int x7, .int x8, v9] [] h Q ↔ Cl d q_Pr_cell [.int x5, .int x7, .int x8] h (fun r h' => Wp d P_Pr_weigh 27 [.ref r0, .ref r1, .ref r2, .ref r3, .ref r4, .int x5, .int x6, .int x7, .int x8, v9] (r.toList ++ []) h' Q) :=
    (r_go (j := 24) (L' := [.ref r0, .ref r1, .ref r2, .ref r3, .ref r4, .int x5, .int x6, .int x7, .int x8, v9]) (S' := [.int x5]) (h' := h) rfl rfl rfl rfl).trans <|
    (r_go (j := 25) (L' := [.ref r0, .ref r1, .ref r2, .ref r3, .ref r4, .int x5, .int x6, .int x7, .int x8, v9]) (S' := [.int x7, .int x5]) (h' := h) rfl rfl rfl rfl).trans <|
    (r_go (j := 26) (L' := [.ref r0, .ref r1, .ref r2, .ref r3, .ref r4, .int x5, .int x6, .int x7, .int x8, v9]) (S' := [.int x8, .int x7, .int x5]) (h' := h) rfl rfl rfl rfl).trans <|
    r_call (j := 27) (a := [.int x5, .int x7, .int x8]) (S' := []) rfl rfl rfl rfl rfl rfl rfl
theorem b_Pr_weigh_27 {d : Nat} (x5 x6 x7 x8 s0 : Int32) (r0 r1 r2 r3 r4 : Nat) (v9 : Value) (h : AH) (Q : Option Value → AH → Prop) : Wp d P_Pr_weigh 27 [.ref r0, .ref r1, .ref r2, .ref r3, .ref r4, .int x5, .int x6, .int x7, .int x8, v9] [.int s0] h Q ↔ (s0 < 0 → Wp d P_Pr_weigh 47 [.ref r0, .ref r1, .ref r2, .ref r3, .ref r4, .int x5, .int x6, .int x7, .int x8, .int s0] [] h Q) ∧ (¬ (s0 < 0) → Wp d P_Pr_weigh 30 [.ref r0, .ref r1, .ref r2, .ref r3, .ref r4, .int x5, .int x6, .int x7, .int x8, .int s0] [] h Q) :=
    (r_go (j := 28) (L' := [.ref r0, .ref r1, .ref r2, .ref r3, .ref r4, .int x5, .int x6, .int x7, .int x8, .int s0]) (S' := []) (h' := h) rfl rfl rfl rfl).trans <|
    (r_go (j := 29) (L' := [.ref r0, .ref r1, .ref r2, .ref r3, .ref r4, .int x5, .int x6, .int x7, .int x8, .int s0]) (S' := [.int s0]) (h' := h) rfl rfl rfl rfl).trans <|
    r_if (j := 30) rfl (cd_lt _ _) rfl
theorem b_Pr_weigh_30 {d : Nat} (x5 x6 x7 x8 x9 : Int32) (r0 r1 r2 r3 r4 : Nat) (h : AH) (Q : Option Value → AH → Prop) : Wp d P_Pr_weigh 30 [.ref r0, .ref r1, .ref r2, .ref r3, .ref r4, .int x5, .int x6, .int x7, .int x8, .int x9] [] h Q ↔ (hK h r0 = 5) ∧ ((20 ≤ hK h (hR h r0 0) ∧ hK h (hR h r0 0) ≠ 40 ∧ hK h (hR h r0 0) ≠ 42 ∧ hK h (hR h r0 0) ≤ 45 ∧ hK h (hR h r0 0) ≠ 43) ∧ (((Int32.ofNat (hN h (hR h r0 0))) ≤ x9 → Wp d P_Pr_weigh 47 [.ref r0, .ref r1, .ref r2, .ref r3, .ref r4, .int x5, .int x6, .int x7, .int x8, .int x9] [] h Q) ∧ (¬ ((Int32.ofNat (hN h (hR h r0 0))) ≤ x9) → Wp d P_Pr_weigh 35 [.ref r0, .ref r1, .ref r2, .ref r3, .ref r4, .int x5, .int x6, .int x7, .int x8, .int x9] [] h Q))) :=
    (r_go (j := 31) (L' := [.ref r0, .ref r1, .ref r2, .ref r3, .ref r4, .int x5, .int x6, .int x7, .int x8, .int x9]) (S' := [.int x9]) (h' := h) rfl rfl rfl rfl).trans <|
    (r_go (j := 32) (L' := [.ref r0, .ref r1, .ref r2, .ref r3, .ref r4, .int x5, .int x6, .int x7, .int x8, .int x9]) (S' := [.ref r0, .int x9]) (h' := h) rfl rfl rfl rfl).trans <|
    (r_guard (j := 33) (L' := [.ref r0, .ref r1, .ref r2, .ref r3, .ref r4, .int x5, .int x6, .int x7, .int x8, .int x9]) (S' := [.ref (hR h r0 0), .int x9]) (h' := h) (p := hK h r0 = 5) rfl rfl rfl rfl (decide_eq_true_iff)).trans <| and_r <|
    (r_guard (j := 34) (L' := [.ref r0, .ref r1, .ref r2, .ref r3, .ref r4, .int x5, .int x6, .int x7, .int x8, .int x9]) (S' := [.int (Int32.ofNat (hN h (hR h r0 0))), .int x9]) (h' := h) (p := 20 ≤ hK h (hR h r0 0) ∧ hK h (hR h r0 0) ≠ 40 ∧ hK h (hR h r0 0) ≠ 42 ∧ hK h (hR h r0 0) ≤ 45 ∧ hK h (hR h r0 0) ≠ 43) rfl rfl rfl rfl (decide_eq_true_iff)).trans <| and_r <|
    r_icmp (j := 35) rfl (cd_ge _ _) rfl
theorem b_Pr_weigh_35 {d : Nat} (x5 x6 x7 x8 x9 : Int32) (r0 r1 r2 r3 r4 : Nat) (h : AH) (Q : Option Value → AH → Prop) : Wp d P_Pr_weigh 35 [.ref r0, .ref r1, .ref r2, .ref r3, .ref r4, .int x5, .int x6, .int x7, .int x8, .int x9] [] h Q ↔ (hK h r0 = 5) ∧ (Cl d q_Ch_spread [.ref r1, .ref r3, .ref r4, .ref r2, .int x5, .int x8, .int x7] h (fun r h' => Wp d P_Pr_weigh 46 [.ref r0, .ref r1, .ref r2, .ref r3, .ref r4, .int x5, .int x6, .int x7, .int x8, .int x9] (r.toList ++ [.int x9, .ref (hR h r0 0)]) h' Q)) :=
    (r_go (j := 36) (L' := [.ref r0, .ref r1, .ref r2, .ref r3, .ref r4, .int x5, .int x6, .int x7, .int x8, .int x9]) (S' := [.ref r0]) (h' := h) rfl rfl rfl rfl).trans <|
    (r_guard (j := 37) (L' := [.ref r0, .ref r1, .ref r2, .ref r3, .ref r4, .int x5, .int x6, .int x7, .int x8, .int x9]) (S' := [.ref (hR h r0 0)]) (h' := h) (p := hK h r0 = 5) rfl rfl rfl rfl (decide_eq_true_iff)).trans <| and_r <|
    (r_go (j := 38) (L' := [.ref r0, .ref r1, .ref r2, .ref r3, .ref r4, .int x5, .int x6, .int x7, .int x8, .int x9]) (S' := [.int x9, .ref (hR h r0 0)]) (h' := h) rfl rfl rfl rfl).trans <|
    (r_go (j := 39) (L' := [.ref r0, .ref r1, .ref r2, .ref r3, .ref r4, .int x5, .int x6, .int x7, .int x8, .int x9]) (S' := [.ref r1, .int x9, .ref (hR h r0 0)]) (h' := h) rfl rfl rfl rfl).trans <|
    (r_go (j := 40) (L' := [.ref r0, .ref r1, .ref r2, .ref r3, .ref r4, .int x5, .int x6, .int x7, .int x8, .int x9]) (S' := [.ref r3, .ref r1, .int x9, .ref (hR h r0 0)]) (h' := h) rfl rfl rfl rfl).trans <|
    (r_go (j := 41) (L' := [.ref r0, .ref r1, .ref r2, .ref r3, .ref r4, .int x5, .int x6, .int x7, .int x8, .int x9]) (S' := [.ref r4, .ref r3, .ref r1, .int x9, .ref (hR h r0 0)]) (h' := h) rfl rfl rfl rfl).trans <|
    (r_go (j := 42) (L' := [.ref r0, .ref r1, .ref r2, .ref r3, .ref r4, .int x5, .int x6, .int x7, .int x8, .int x9]) (S' := [.ref r2, .ref r4, .ref r3, .ref r1, .int x9, .ref (hR h r0 0)]) (h' := h) rfl rfl rfl rfl).trans <|
    (r_go (j := 43) (L' := [.ref r0, .ref r1, .ref r2, .ref r3, .ref r4, .int x5, .int x6, .int x7, .int x8, .int x9]) (S' := [.int x5, .ref r2, .ref r4, .ref r3, .ref r1, .int x9, .ref (hR h r0 0)]) (h' := h) rfl rfl rfl rfl).trans <|
    (r_go (j := 44) (L' := [.ref r0, .ref r1, .ref r2, .ref r3, .ref r4, .int x5, .int x6, .int x7, .int x8, .int x9]) (S' := [.int x8, .int x5, .ref r2, .ref r4, .ref r3, .ref r1, .int x9, .ref (hR h r0 0)]) (h' := h) rfl rfl rfl rfl).trans <|
    (r_go (j := 45) (L' := [.ref r0, .ref r1, .ref r2, .ref r3, .ref r4, .int x5, .int x6, .int x7, .int x8, .int x9]) (S' := [.int x7, .int x8, .int x5, .ref r2, .ref r4, .ref r3, .ref r1, .int x9, .ref (hR h r0 0)]) (h' := h) rfl rfl rfl rfl).trans <|
    r_call (j := 46) (a := [.ref r1, .ref r3, .ref r4, .ref r2, .int x5, .int x8, .int x7]) (S' := [.int x9, .ref (hR h r0 0)]) rfl rfl rfl rfl rfl rfl rfl
theorem b_Pr_weigh_46 {d : Nat} (x5 x6 x7 x8 x9 s0 s1 : Int32) (r0 r1 r2 r3 r4 t2 : Nat) (h : AH) (Q : Option Value → AH → Prop) : Wp d P_Pr_weigh 46 [.ref r0, .ref r1, .ref r2, .ref r3, .ref r4, .int x5, .int x6, .int x7, .int x8, .int x9] [.int s0, .int s1, .ref t2] h Q ↔ (hK h t2 = 20 ∧ ixo s1 (hN h t2) = true) ∧ (Wp d P_Pr_weigh 47 [.ref r0, .ref r1, .ref r2, .ref r3, .ref r4, .int x5, .int x6, .int x7, .int x8, .int x9] [] (sI h t2 (Int32.toNatClampNeg s1) s0) Q) :=
    r_guard (j := 47) (L' := [.ref r0, .ref r1, .ref r2, .ref r3, .ref r4, .int x5, .int x6, .int x7, .int x8, .int x9]) (S' := []) (h' := (sI h t2 (Int32.toNatClampNeg s1) s0)) (p := hK h t2 = 20 ∧ ixo s1 (hN h t2) = true) rfl rfl rfl rfl (and2 decide_eq_true_iff Iff.rfl)
theorem b_Pr_weigh_47 {d : Nat} (x5 x6 x7 x8 x9 : Int32) (r0 r1 r2 r3 r4 : Nat) (h : AH) (Q : Option Value → AH → Prop) : Wp d P_Pr_weigh 47 [.ref r0, .ref r1, .ref r2, .ref r3, .ref r4, .int x5, .int x6, .int x7, .int x8, .int x9] [] h Q ↔ Wp d P_Pr_weigh 17 [.ref r0, .ref r1, .ref r2, .ref r3, .ref r4, .int x5, .int x6, .int x7, .int (x8 + 1), .int x9] [] h Q :=
    (r_iinc (j := 48) (x := 1) (L' := [.ref r0, .ref r1, .ref r2, .ref r3, .ref r4, .int x5, .int x6, .int x7, .int (x8 + 1), .int x9]) rfl rfl i32_1 rfl rfl).trans <|
    r_go (j := 17) (L' := [.ref r0, .ref r1, .ref r2, .ref r3, .ref r4, .int x5, .int x6, .int x7, .int (x8 + 1), .int x9]) (S' := []) (h' := h) rfl rfl rfl rfl
theorem b_Pr_weigh_49 {d : Nat} (x5 x6 x7 x8 : Int32) (r0 r1 r2 r3 r4 : Nat) (v9 : Value) (h : AH) (Q : Option Value → AH → Prop) : Wp d P_Pr_weigh 49 [.ref r0, .ref r1, .ref r2, .ref r3, .ref r4, .int x5, .int x6, .int x7, .int x8, v9] [] h Q ↔ Wp d P_Pr_weigh 12 [.ref r0, .ref r1, .ref r2, .ref r3, .ref r4, .int x5, .int x6, .int (x7 + 1), .int x8, v9] [] h Q :=
    (r_iinc (j := 50) (x := 1) (L' := [.ref r0, .ref r1, .ref r2, .ref r3, .ref r4, .int x5, .int x6, .int (x7 + 1), .int x8, v9]) rfl rfl i32_1 rfl rfl).trans <|
    r_go (j := 12) (L' := [.ref r0, .ref r1, .ref r2, .ref r3, .ref r4, .int x5, .int x6, .int (x7 + 1), .int x8, v9]) (S' := []) (h' := h) rfl rfl rfl rfl
theorem b_Pr_weigh_51 {d : Nat} (x5 x6 x7 : Int32) (r0 r1 r2 r3 r4 : Nat) (v8 v9 : Value) (h : AH) (Q : Option Value → AH → Prop) : Wp d P_Pr_weigh 51 [.ref r0, .ref r1, .ref r2, .ref r3, .ref r4, .int x5, .int x6, .int x7, v8, v9] [] h Q ↔ Wp d P_Pr_weigh 2 [.ref r0, .ref r1, .ref r2, .ref r3, .ref r4, .int (x5 + 1), .int x6, .int x7, v8, v9] [] h Q :=
    (r_iinc (j := 52) (x := 1) (L' := [.ref r0, .ref r1, .ref r2, .ref r3, .ref r4, .int (x5 + 1), .int x6, .int x7, v8, v9]) rfl rfl i32_1 rfl rfl).trans <|
    r_go (j := 2) (L' := [.ref r0, .ref r1, .ref r2, .ref r3, .ref r4, .int (x5 + 1), .int x6, .int x7, v8, v9]) (S' := []) (h' := h) rfl rfl rfl rfl
theorem b_Pr_weigh_53 {d : Nat} (x5 : Int32) (r0 r1 r2 r3 r4 : Nat) (v6 v7 v8 v9 : Value) (h : AH) (Q : Option Value → AH → Prop) : Wp d P_Pr_weigh 53 [.ref r0, .ref r1, .ref r2, .ref r3, .ref r4, .int x5, v6, v7, v8, v9] [] h Q ↔ Q (none) h :=
    r_ret rfl rfl rfl
theorem e_Pr_weigh {d : Nat} (r0 r1 r2 r3 r4 : Nat) (h : AH) (Q : Option Value → AH → Prop) : Cl (d + 1) q_Pr_weigh [.ref r0, .ref r1, .ref r2, .ref r3, .ref r4] h Q ↔ hK h r0 = 5 ∧ Wp d P_Pr_weigh 0 [.ref r0, .ref r1, .ref r2, .ref r3, .ref r4, .null, .null, .null, .null, .null] [] h (fun r h' => rtk (none) r = true ∧ Q r h') :=
    (Cl_method (t := m_Pr_weigh) rfl).trans (and_congr_left fun _ => decide_eq_true_iff)
/-! PenThatJumps$Planner.choose(LPenThatJumps$Plan;I)V -/
theorem b_Pr_choose_0 {d : Nat} (x2 : Int32) (r0 r1 : Nat) (h : AH) (Q : Option Value → AH → Prop) : Wp d P_Pr_choose 0 [.ref r0, .ref r1, .int x2, .null, .null, .null, .null] [] h Q ↔ (hK h r0 = 5) ∧ ((hK (sI h r0 2 0) r0 = 5) ∧ ((hK (sI (sI h r0 2 0) r0 3 0) r0 = 5) ∧ ((hK (sI (sI (sI h r0 2 0) r0 3 0) r0 4 0) r1 = 4) ∧ (Wp d P_Pr_choose 16 [.ref r0, .ref r1, .int x2, .int (1 <<< ((hI (sI (sI (sI h r0 2 0) r0 3 0) r0 4 0) r1 3) &&& 31)), .int 1, .null, .null] [] (sI (sI (sI h r0 2 0) r0 3 0) r0 4 0) Q)))) :=
    (r_go (j := 1) (L' := [.ref r0, .ref r1, .int x2, .null, .null, .null, .null]) (S' := [.ref r0]) (h' := h) rfl rfl rfl rfl).trans <|
    (r_iconst (j := 2) (x := 0) rfl i32_0 rfl).trans <|
    (r_guard (j := 3) (L' := [.ref r0, .ref r1, .int x2, .null, .null, .null, .null]) (S' := []) (h' := (sI h r0 2 0)) (p := hK h r0 = 5) rfl rfl rfl rfl (pfI rfl)).trans <| and_r <|
    (r_go (j := 4) (L' := [.ref r0, .ref r1, .int x2, .null, .null, .null, .null]) (S' := [.ref r0]) (h' := (sI h r0 2 0)) rfl rfl rfl rfl).trans <|
    (r_iconst (j := 5) (x := 0) rfl i32_0 rfl).trans <|
    (r_guard (j := 6) (L' := [.ref r0, .ref r1, .int x2, .null, .null, .null, .null]) (S' := []) (h' := (sI (sI h r0 2 0) r0 3 0)) (p := hK (sI h r0 2 0) r0 = 5) rfl rfl rfl rfl (pfI rfl)).trans <| and_r <|
    (r_go (j := 7) (L' := [.ref r0, .ref r1, .int x2, .null, .null, .null, .null]) (S' := [.ref r0]) (h' := (sI (sI h r0 2 0) r0 3 0)) rfl rfl rfl rfl).trans <|
    (r_iconst (j := 8) (x := 0) rfl i32_0 rfl).trans <|
    (r_guard (j := 9) (L' := [.ref r0, .ref r1, .int x2, .null, .null, .null, .null]) (S' := []) (h' := (sI (sI (sI h r0 2 0) r0 3 0) r0 4 0)) (p := hK (sI (sI h r0 2 0) r0 3 0) r0 = 5) rfl rfl rfl rfl (pfI rfl)).trans <| and_r <|
    (r_iconst (j := 10) (x := 1) rfl i32_1 rfl).trans <|
    (r_go (j := 11) (L' := [.ref r0, .ref r1, .int x2, .null, .null, .null, .null]) (S' := [.ref r1, .int 1]) (h' := (sI (sI (sI h r0 2 0) r0 3 0) r0 4 0)) rfl rfl rfl rfl).trans <|
    (r_guard (j := 12) (L' := [.ref r0, .ref r1, .int x2, .null, .null, .null, .null]) (S' := [.int (hI (sI (sI (sI h r0 2 0) r0 3 0) r0 4 0) r1 3), .int 1]) (h' := (sI (sI (sI h r0 2 0) r0 3 0) r0 4 0)) (p := hK (sI (sI (sI h r0 2 0) r0 3 0) r0 4 0) r1 = 4) rfl rfl rfl rfl (decide_eq_true_iff)).trans <| and_r <|
    (r_go (j := 13) (L' := [.ref r0, .ref r1, .int x2, .null, .null, .null, .null]) (S' := [.int (1 <<< ((hI (sI (sI (sI h r0 2 0) r0 3 0) r0 4 0) r1 3) &&& 31))]) (h' := (sI (sI (sI h r0 2 0) r0 3 0) r0 4 0)) rfl rfl rfl rfl).trans <|
    (r_go (j := 14) (L' := [.ref r0, .ref r1, .int x2, .int (1 <<< ((hI (sI (sI (sI h r0 2 0) r0 3 0) r0 4 0) r1 3) &&& 31)), .null, .null, .null]) (S' := []) (h' := (sI (sI (sI h r0 2 0) r0 3 0) r0 4 0)) rfl rfl rfl rfl).trans <|
    (r_iconst (j := 15) (x := 1) rfl i32_1 rfl).trans <|
    r_go (j := 16) (L' := [.ref r0, .ref r1, .int x2, .int (1 <<< ((hI (sI (sI (sI h r0 2 0) r0 3 0) r0 4 0) r1 3) &&& 31)), .int 1, .null, .null]) (S' := []) (h' := (sI (sI (sI h r0 2 0) r0 3 0) r0 4 0)) rfl rfl rfl rfl
theorem b_Pr_choose_16 {d : Nat} (x2 x3 x4 : Int32) (r0 r1 : Nat) (v5 v6 : Value) (h : AH) (Q : Option Value → AH → Prop) : Wp d P_Pr_choose 16 [.ref r0, .ref r1, .int x2, .int x3, .int x4, v5, v6] [] h Q ↔ (x3 ≤ x4 → Wp d P_Pr_choose 46 [.ref r0, .ref r1, .int x2, .int x3, .int x4, v5, v6] [] h Q) ∧ (¬ (x3 ≤ x4) → Wp d P_Pr_choose 19 [.ref r0, .ref r1, .int x2, .int x3, .int x4, v5, v6] [] h Q) :=
    (r_go (j := 17) (L' := [.ref r0, .ref r1, .int x2, .int x3, .int x4, v5, v6]) (S' := [.int x4]) (h' := h) rfl rfl rfl rfl).trans <|
    (r_go (j := 18) (L' := [.ref r0, .ref r1, .int x2, .int x3, .int x4, v5, v6]) (S' := [.int x3, .int x4]) (h' := h) rfl rfl rfl rfl).trans <|
    r_icmp (j := 19) rfl (cd_ge _ _) rfl
theorem b_Pr_choose_19 {d : Nat} (x2 x3 x4 : Int32) (r0 r1 : Nat) (v5 v6 : Value) (h : AH) (Q : Option Value → AH → Prop) : Wp d P_Pr_choose 19 [.ref r0, .ref r1, .int x2, .int x3, .int x4, v5, v6] [] h Q ↔ Cl d q_Pr_spanOf [.ref r1, .int x4] h (fun r h' => Wp d P_Pr_choose 22 [.ref r0, .ref r1, .int x2, .int x3, .int x4, v5, v6] (r.toList ++ []) h' Q) :=
    (r_go (j := 20) (L' := [.ref r0, .ref r1, .int x2, .int x3, .int x4, v5, v6]) (S' := [.ref r1]) (h' := h) rfl rfl rfl rfl).trans <|
    (r_go (j := 21) (L' := [.ref r0, .ref r1, .int x2, .int x3, .int x4, v5, v6]) (S' := [.int x4, .ref r1]) (h' := h) rfl rfl rfl rfl).trans <|
    r_call (j := 22) (a := [.ref r1, .int x4]) (S' := []) rfl rfl rfl rfl rfl rfl rfl
theorem b_Pr_choose_22 {d : Nat} (x2 x3 x4 s0 : Int32) (r0 r1 : Nat) (v5 v6 : Value) (h : AH) (Q : Option Value → AH → Prop) : Wp d P_Pr_choose 22 [.ref r0, .ref r1, .int x2, .int x3, .int x4, v5, v6] [.int s0] h Q ↔ (x2 < s0 → Wp d P_Pr_choose 44 [.ref r0, .ref r1, .int x2, .int x3, .int x4, .int s0, v6] [] h Q) ∧ (¬ (x2 < s0) → Wp d P_Pr_choose 26 [.ref r0, .ref r1, .int x2, .int x3, .int x4, .int s0, v6] [] h Q) :=
    (r_go (j := 23) (L' := [.ref r0, .ref r1, .int x2, .int x3, .int x4, .int s0, v6]) (S' := []) (h' := h) rfl rfl rfl rfl).trans <|
    (r_go (j := 24) (L' := [.ref r0, .ref r1, .int x2, .int x3, .int x4, .int s0, v6]) (S' := [.int s0]) (h' := h) rfl rfl rfl rfl).trans <|
    (r_go (j := 25) (L' := [.ref r0, .ref r1, .int x2, .int x3, .int x4, .int s0, v6]) (S' := [.int x2, .int s0]) (h' := h) rfl rfl rfl rfl).trans <|
    r_icmp (j := 26) rfl (cd_gt _ _) rfl
theorem b_Pr_choose_26 {d : Nat} (x2 x3 x4 x5 : Int32) (r0 r1 : Nat) (v6 : Value) (h : AH) (Q : Option Value → AH → Prop) : Wp d P_Pr_choose 26 [.ref r0, .ref r1, .int x2, .int x3, .int x4, .int x5, v6] [] h Q ↔ Cl d q_Pr_powerOf [.ref r0, .ref r1, .int x4] h (fun r h' => Wp d P_Pr_choose 30 [.ref r0, .ref r1, .int x2, .int x3, .int x4, .int x5, v6] (r.toList ++ []) h' Q) :=
    (r_go (j := 27) (L' := [.ref r0, .ref r1, .int x2, .int x3, .int x4, .int x5, v6]) (S' := [.ref r0]) (h' := h) rfl rfl rfl rfl).trans <|
    (r_go (j := 28) (L' := [.ref r0, .ref r1, .int x2, .int x3, .int x4, .int x5, v6]) (S' := [.ref r1, .ref r0]) (h' := h) rfl rfl rfl rfl).trans <|
    (r_go (j := 29) (L' := [.ref r0, .ref r1, .int x2, .int x3, .int x4, .int x5, v6]) (S' := [.int x4, .ref r1, .ref r0]) (h' := h) rfl rfl rfl rfl).trans <|
    r_call (j := 30) (a := [.ref r0, .ref r1, .int x4]) (S' := []) rfl rfl rfl rfl rfl rfl rfl
theorem b_Pr_choose_30 {d : Nat} (x2 x3 x4 x5 s0 : Int32) (r0 r1 : Nat) (v6 : Value) (h : AH) (Q : Option Value → AH → Prop) : Wp d P_Pr_choose 30 [.ref r0, .ref r1, .int x2, .int x3, .int x4, .int x5, v6] [.int s0] h Q ↔ (hK h r0 = 5) ∧ ((s0 ≤ (hI h r0 2) → Wp d P_Pr_choose 44 [.ref r0, .ref r1, .int x2, .int x3, .int x4, .int x5, .int s0] [] h Q) ∧ (¬ (s0 ≤ (hI h r0 2)) → Wp d P_Pr_choose 35 [.ref r0, .ref r1, .int x2, .int x3, .int x4, .int x5, .int s0] [] h Q)) :=
    (r_go (j := 31) (L' := [.ref r0, .ref r1, .int x2, .int x3, .int x4, .int x5, .int s0]) (S' := []) (h' := h) rfl rfl rfl rfl).trans <|
    (r_go (j := 32) (L' := [.ref r0, .ref r1, .int x2, .int x3, .int x4, .int x5, .int s0]) (S' := [.int s0]) (h' := h) rfl rfl rfl rfl).trans <|
    (r_go (j := 33) (L' := [.ref r0, .ref r1, .int x2, .int x3, .int x4, .int x5, .int s0]) (S' := [.ref r0, .int s0]) (h' := h) rfl rfl rfl rfl).trans <|
    (r_guard (j := 34) (L' := [.ref r0, .ref r1, .int x2, .int x3, .int x4, .int x5, .int s0]) (S' := [.int (hI h r0 2), .int s0]) (h' := h) (p := hK h r0 = 5) rfl rfl rfl rfl (decide_eq_true_iff)).trans <| and_r <|
    r_icmp (j := 35) rfl (cd_le _ _) rfl
theorem b_Pr_choose_35 {d : Nat} (x2 x3 x4 x5 x6 : Int32) (r0 r1 : Nat) (h : AH) (Q : Option Value → AH → Prop) : Wp d P_Pr_choose 35 [.ref r0, .ref r1, .int x2, .int x3, .int x4, .int x5, .int x6] [] h Q ↔ (hK h r0 = 5) ∧ ((hK (sI h r0 2 x6) r0 = 5) ∧ ((hK (sI (sI h r0 2 x6) r0 3 x4) r0 = 5) ∧ (Wp d P_Pr_choose 44 [.ref r0, .ref r1, .int x2, .int x3, .int x4, .int x5, .int x6] [] (sI (sI (sI h r0 2 x6) r0 3 x4) r0 4 x5) Q))) :=
    (r_go (j := 36) (L' := [.ref r0, .ref r1, .int x2, .int x3, .int x4, .int x5, .int x6]) (S' := [.ref r0]) (h' := h) rfl rfl rfl rfl).trans <|
    (r_go (j := 37) (L' := [.ref r0, .ref r1, .int x2, .int x3, .int x4, .int x5, .int x6]) (S' := [.int x6, .ref r0]) (h' := h) rfl rfl rfl rfl).trans <|
    (r_guard (j := 38) (L' := [.ref r0, .ref r1, .int x2, .int x3, .int x4, .int x5, .int x6]) (S' := []) (h' := (sI h r0 2 x6)) (p := hK h r0 = 5) rfl rfl rfl rfl (pfI rfl)).trans <| and_r <|
    (r_go (j := 39) (L' := [.ref r0, .ref r1, .int x2, .int x3, .int x4, .int x5, .int x6]) (S' := [.ref r0]) (h' := (sI h r0 2 x6)) rfl rfl rfl rfl).trans <|
    (r_go (j := 40) (L' := [.ref r0, .ref r1, .int x2, .int x3, .int x4, .int x5, .int x6]) (S' := [.int x4, .ref r0]) (h' := (sI h r0 2 x6)) rfl rfl rfl rfl).trans <|
    (r_guard (j := 41) (L' := [.ref r0, .ref r1, .int x2, .int x3, .int x4, .int x5, .int x6]) (S' := []) (h' := (sI (sI h r0 2 x6) r0 3 x4)) (p := hK (sI h r0 2 x6) r0 = 5) rfl rfl rfl rfl (pfI rfl)).trans <| and_r <|
    (r_go (j := 42) (L' := [.ref r0, .ref r1, .int x2, .int x3, .int x4, .int x5, .int x6]) (S' := [.ref r0]) (h' := (sI (sI h r0 2 x6) r0 3 x4)) rfl rfl rfl rfl).trans <|
    (r_go (j := 43) (L' := [.ref r0, .ref r1, .int x2, .int x3, .int x4, .int x5, .int x6]) (S' := [.int x5, .ref r0]) (h' := (sI (sI h r0 2 x6) r0 3 x4)) rfl rfl rfl rfl).trans <|
    r_guard (j := 44) (L' := [.ref r0, .ref r1, .int x2, .int x3, .int x4, .int x5, .int x6]) (S' := []) (h' := (sI (sI (sI h r0 2 x6) r0 3 x4) r0 4 x5)) (p := hK (sI (sI h r0 2 x6) r0 3 x4) r0 = 5) rfl rfl rfl rfl (pfI rfl)
theorem b_Pr_choose_44 {d : Nat} (x2 x3 x4 x5 : Int32) (r0 r1 : Nat) (v6 : Value) (h : AH) (Q : Option Value → AH → Prop) : Wp d P_Pr_choose 44 [.ref r0, .ref r1, .int x2, .int x3, .int x4, .int x5, v6] [] h Q ↔ Wp d P_Pr_choose 16 [.ref r0, .ref r1, .int x2, .int x3, .int (x4 + 1), .int x5, v6] [] h Q :=
    (r_iinc (j := 45) (x := 1) (L' := [.ref r0, .ref r1, .int x2, .int x3, .int (x4 + 1), .int x5, v6]) rfl rfl i32_1 rfl rfl).trans <|
    r_go (j := 16) (L' := [.ref r0, .ref r1, .int x2, .int x3, .int (x4 + 1), .int x5, v6]) (S' := []) (h' := h) rfl rfl rfl rfl
theorem b_Pr_choose_46 {d : Nat} (x2 x3 x4 : Int32) (r0 r1 : Nat) (v5 v6 : Value) (h : AH) (Q : Option Value → AH → Prop) : Wp d P_Pr_choose 46 [.ref r0, .ref r1, .int x2, .int x3, .int x4, v5, v6] [] h Q ↔ Q (none) h :=
    r_ret rfl rfl rfl
theorem e_Pr_choose {d : Nat} (x2 : Int32) (r0 r1 : Nat) (h : AH) (Q : Option Value → AH → Prop) : Cl (d + 1) q_Pr_choose [.ref r0, .ref r1, .int x2] h Q ↔ hK h r0 = 5 ∧ Wp d P_Pr_choose 0 [.ref r0, .ref r1, .int x2, .null, .null, .null, .null] [] h (fun r h' => rtk (none) r = true ∧ Q r h') :=
    (Cl_method (t := m_Pr_choose) rfl).trans (and_congr_left fun _ => decide_eq_true_iff)
/-! PenThatJumps$Planner.spanOf(LPenThatJumps$Plan;I)I -/
theorem b_Pr_spanOf_0 {d : Nat} (x1 : Int32) (r0 : Nat) (h : AH) (Q : Option Value → AH → Prop) : Wp d P_Pr_spanOf 0 [.ref r0, .int x1, .null, .null] [] h Q ↔ Wp d P_Pr_spanOf 4 [.ref r0, .int x1, .int 0, .int 0] [] h Q :=
    (r_iconst (j := 1) (x := 0) rfl i32_0 rfl).trans <|
    (r_go (j := 2) (L' := [.ref r0, .int x1, .int 0, .null]) (S' := []) (h' := h) rfl rfl rfl rfl).trans <|
    (r_iconst (j := 3) (x := 0) rfl i32_0 rfl).trans <|
    r_go (j := 4) (L' := [.ref r0, .int x1, .int 0, .int 0]) (S' := []) (h' := h) rfl rfl rfl rfl
theorem b_Pr_spanOf_4 {d : Nat} (x1 x2 x3 : Int32) (r0 : Nat) (h : AH) (Q : Option Value → AH → Prop) : Wp d P_Pr_spanOf 4 [.ref r0, .int x1, .int x2, .int x3] [] h Q ↔ (hK h r0 = 4) ∧ (((hI h r0 3) ≤ x3 → Wp d P_Pr_spanOf 23 [.ref r0, .int x1, .int x2, .int x3] [] h Q) ∧ (¬ ((hI h r0 3) ≤ x3) → Wp d P_Pr_spanOf 8 [.ref r0, .int x1, .int x2, .int x3] [] h Q)) :=
    (r_go (j := 5) (L' := [.ref r0, .int x1, .int x2, .int x3]) (S' := [.int x3]) (h' := h) rfl rfl rfl rfl).trans <|
    (r_go (j := 6) (L' := [.ref r0, .int x1, .int x2, .int x3]) (S' := [.ref r0, .int x3]) (h' := h) rfl rfl rfl rfl).trans <|
    (r_guard (j := 7) (L' := [.ref r0, .int x1, .int x2, .int x3]) (S' := [.int (hI h r0 3), .int x3]) (h' := h) (p := hK h r0 = 4) rfl rfl rfl rfl (decide_eq_true_iff)).trans <| and_r <|
    r_icmp (j := 8) rfl (cd_ge _ _) rfl
theorem b_Pr_spanOf_8 {d : Nat} (x1 x2 x3 : Int32) (r0 : Nat) (h : AH) (Q : Option Value → AH → Prop) : Wp d P_Pr_spanOf 8 [.ref r0, .int x1, .int x2, .int x3] [] h Q ↔ (¬ ((x1 >>> (x3 &&& 31)) &&& 1) = 1 → Wp d P_Pr_spanOf 21 [.ref r0, .int x1, .int x2, .int x3] [] h Q) ∧ (¬ (¬ ((x1 >>> (x3 &&& 31)) &&& 1) = 1) → Wp d P_Pr_spanOf 15 [.ref r0, .int x1, .int x2, .int x3] [] h Q) :=
    (r_go (j := 9) (L' := [.ref r0, .int x1, .int x2, .int x3]) (S' := [.int x1]) (h' := h) rfl rfl rfl rfl).trans <|
    (r_go (j := 10) (L' := [.ref r0, .int x1, .int x2, .int x3]) (S' := [.int x3, .int x1]) (h' := h) rfl rfl rfl rfl).trans <|
    (r_go (j := 11) (L' := [.ref r0, .int x1, .int x2, .int x3]) (S' := [.int (x1 >>> (x3 &&& 31))]) (h' := h) rfl rfl rfl rfl).trans <|
    (r_iconst (j := 12) (x := 1) rfl i32_1 rfl).trans <|
    (r_go (j := 13) (L' := [.ref r0, .int x1, .int x2, .int x3]) (S' := [.int ((x1 >>> (x3 &&& 31)) &&& 1)]) (h' := h) rfl rfl rfl rfl).trans <|
    (r_iconst (j := 14) (x := 1) rfl i32_1 rfl).trans <|
    r_icmp (j := 15) rfl (cd_ne _ _) rfl
theorem b_Pr_spanOf_15 {d : Nat} (x1 x2 x3 : Int32) (r0 : Nat) (h : AH) (Q : Option Value → AH → Prop) : Wp d P_Pr_spanOf 15 [.ref r0, .int x1, .int x2, .int x3] [] h Q ↔ Cl d q_Pl_minutesAt [.ref r0, .int x3] h (fun r h' => Wp d P_Pr_spanOf 19 [.ref r0, .int x1, .int x2, .int x3] (r.toList ++ [.int x2]) h' Q) :=
    (r_go (j := 16) (L' := [.ref r0, .int x1, .int x2, .int x3]) (S' := [.int x2]) (h' := h) rfl rfl rfl rfl).trans <|
    (r_go (j := 17) (L' := [.ref r0, .int x1, .int x2, .int x3]) (S' := [.ref r0, .int x2]) (h' := h) rfl rfl rfl rfl).trans <|
    (r_go (j := 18) (L' := [.ref r0, .int x1, .int x2, .int x3]) (S' := [.int x3, .ref r0, .int x2]) (h' := h) rfl rfl rfl rfl).trans <|
    r_call (j := 19) (a := [.ref r0, .int x3]) (S' := [.int x2]) rfl rfl rfl rfl rfl rfl rfl
theorem b_Pr_spanOf_19 {d : Nat} (x1 x2 x3 s0 s1 : Int32) (r0 : Nat) (h : AH) (Q : Option Value → AH → Prop) : Wp d P_Pr_spanOf 19 [.ref r0, .int x1, .int x2, .int x3] [.int s0, .int s1] h Q ↔ Wp d P_Pr_spanOf 21 [.ref r0, .int x1, .int (s1 + s0), .int x3] [] h Q :=
    (r_go (j := 20) (L' := [.ref r0, .int x1, .int x2, .int x3]) (S' := [.int (s1 + s0)]) (h' := h) rfl rfl rfl rfl).trans <|
    r_go (j := 21) (L' := [.ref r0, .int x1, .int (s1 + s0), .int x3]) (S' := []) (h' := h) rfl rfl rfl rfl
theorem b_Pr_spanOf_21 {d : Nat} (x1 x2 x3 : Int32) (r0 : Nat) (h : AH) (Q : Option Value → AH → Prop) : Wp d P_Pr_spanOf 21 [.ref r0, .int x1, .int x2, .int x3] [] h Q ↔ Wp d P_Pr_spanOf 4 [.ref r0, .int x1, .int x2, .int (x3 + 1)] [] h Q :=
    (r_iinc (j := 22) (x := 1) (L' := [.ref r0, .int x1, .int x2, .int (x3 + 1)]) rfl rfl i32_1 rfl rfl).trans <|
    r_go (j := 4) (L' := [.ref r0, .int x1, .int x2, .int (x3 + 1)]) (S' := []) (h' := h) rfl rfl rfl rfl
theorem b_Pr_spanOf_23 {d : Nat} (x1 x2 x3 : Int32) (r0 : Nat) (h : AH) (Q : Option Value → AH → Prop) : Wp d P_Pr_spanOf 23 [.ref r0, .int x1, .int x2, .int x3] [] h Q ↔ Q (some (.int x2)) h :=
    (r_go (j := 24) (L' := [.ref r0, .int x1, .int x2, .int x3]) (S' := [.int x2]) (h' := h) rfl rfl rfl rfl).trans <|
    r_ret rfl rfl rfl
theorem e_Pr_spanOf {d : Nat} (x1 : Int32) (r0 : Nat) (h : AH) (Q : Option Value → AH → Prop) : Cl (d + 1) q_Pr_spanOf [.ref r0, .int x1] h Q ↔ Wp d P_Pr_spanOf 0 [.ref r0, .int x1, .null, .null] [] h (fun r h' => rtk (some .int) r = true ∧ Q r h') :=
    (Cl_method (t := m_Pr_spanOf) rfl).trans (and_iff_right rfl)
/-! PenThatJumps$Planner.powerOf(LPenThatJumps$Plan;I)I -/
theorem b_Pr_powerOf_0 {d : Nat} (x2 : Int32) (r0 r1 : Nat) (h : AH) (Q : Option Value → AH → Prop) : Wp d P_Pr_powerOf 0 [.ref r0, .ref r1, .int x2, .null, .null, .null, .null, .null] [] h Q ↔ (hK h r0 = 5) ∧ (Cl d q_Ar_fill [.ref (hR h r0 1), .int 0] h (fun r h' => Wp d P_Pr_powerOf 4 [.ref r0, .ref r1, .int x2, .null, .null, .null, .null, .null] (r.toList ++ []) h' Q)) :=
    (r_go (j := 1) (L' := [.ref r0, .ref r1, .int x2, .null, .null, .null, .null, .null]) (S' := [.ref r0]) (h' := h) rfl rfl rfl rfl).trans <|
    (r_guard (j := 2) (L' := [.ref r0, .ref r1, .int x2, .null, .null, .null, .null, .null]) (S' := [.ref (hR h r0 1)]) (h' := h) (p := hK h r0 = 5) rfl rfl rfl rfl (decide_eq_true_iff)).trans <| and_r <|
    (r_iconst (j := 3) (x := 0) rfl i32_0 rfl).trans <|
    r_call (j := 4) (a := [.ref (hR h r0 1), .int 0]) (S' := []) rfl rfl rfl rfl rfl rfl rfl
theorem b_Pr_powerOf_4 {d : Nat} (x2 : Int32) (r0 r1 : Nat) (h : AH) (Q : Option Value → AH → Prop) : Wp d P_Pr_powerOf 4 [.ref r0, .ref r1, .int x2, .null, .null, .null, .null, .null] [] h Q ↔ Wp d P_Pr_powerOf 10 [.ref r0, .ref r1, .int x2, .int 0, .int 0, .int 0, .null, .null] [] h Q :=
    (r_iconst (j := 5) (x := 0) rfl i32_0 rfl).trans <|
    (r_go (j := 6) (L' := [.ref r0, .ref r1, .int x2, .int 0, .null, .null, .null, .null]) (S' := []) (h' := h) rfl rfl rfl rfl).trans <|
    (r_iconst (j := 7) (x := 0) rfl i32_0 rfl).trans <|
    (r_go (j := 8) (L' := [.ref r0, .ref r1, .int x2, .int 0, .int 0, .null, .null, .null]) (S' := []) (h' := h) rfl rfl rfl rfl).trans <|
    (r_iconst (j := 9) (x := 0) rfl i32_0 rfl).trans <|
    r_go (j := 10) (L' := [.ref r0, .ref r1, .int x2, .int 0, .int 0, .int 0, .null, .null]) (S' := []) (h' := h) rfl rfl rfl rfl
theorem b_Pr_powerOf_10 {d : Nat} (x2 x3 x4 x5 : Int32) (r0 r1 : Nat) (v6 v7 : Value) (h : AH) (Q : Option Value → AH → Prop) : Wp d P_Pr_powerOf 10 [.ref r0, .ref r1, .int x2, .int x3, .int x4, .int x5, v6, v7] [] h Q ↔ (hK h r1 = 4) ∧ (((hI h r1 3) ≤ x5 → Wp d P_Pr_powerOf 67 [.ref r0, .ref r1, .int x2, .int x3, .int x4, .int x5, v6, v7] [] h Q) ∧ (¬ ((hI h r1 3) ≤ x5) → Wp d P_Pr_powerOf 14 [.ref r0, .ref r1, .int x2, .int x3, .int x4, .int x5, v6, v7] [] h Q)) :=
    (r_go (j := 11) (L' := [.ref r0, .ref r1, .int x2, .int x3, .int x4, .int x5, v6, v7]) (S' := [.int x5]) (h' := h) rfl rfl rfl rfl).trans <|
    (r_go (j := 12) (L' := [.ref r0, .ref r1, .int x2, .int x3, .int x4, .int x5, v6, v7]) (S' := [.ref r1, .int x5]) (h' := h) rfl rfl rfl rfl).trans <|
    (r_guard (j := 13) (L' := [.ref r0, .ref r1, .int x2, .int x3, .int x4, .int x5, v6, v7]) (S' := [.int (hI h r1 3), .int x5]) (h' := h) (p := hK h r1 = 4) rfl rfl rfl rfl (decide_eq_true_iff)).trans <| and_r <|
    r_icmp (j := 14) rfl (cd_ge _ _) rfl
theorem b_Pr_powerOf_14 {d : Nat} (x2 x3 x4 x5 : Int32) (r0 r1 : Nat) (v6 v7 : Value) (h : AH) (Q : Option Value → AH → Prop) : Wp d P_Pr_powerOf 14 [.ref r0, .ref r1, .int x2, .int x3, .int x4, .int x5, v6, v7] [] h Q ↔ Cl d q_Pl_kindAt [.ref r1, .int x5] h (fun r h' => Wp d P_Pr_powerOf 17 [.ref r0, .ref r1, .int x2, .int x3, .int x4, .int x5, v6, v7] (r.toList ++ []) h' Q) :=
    (r_go (j := 15) (L' := [.ref r0, .ref r1, .int x2, .int x3, .int x4, .int x5, v6, v7]) (S' := [.ref r1]) (h' := h) rfl rfl rfl rfl).trans <|
    (r_go (j := 16) (L' := [.ref r0, .ref r1, .int x2, .int x3, .int x4, .int x5, v6, v7]) (S' := [.int x5, .ref r1]) (h' := h) rfl rfl rfl rfl).trans <|
    r_call (j := 17) (a := [.ref r1, .int x5]) (S' := []) rfl rfl rfl rfl rfl rfl rfl
theorem b_Pr_powerOf_17 {d : Nat} (x2 x3 x4 x5 s0 : Int32) (r0 r1 : Nat) (v6 v7 : Value) (h : AH) (Q : Option Value → AH → Prop) : Wp d P_Pr_powerOf 17 [.ref r0, .ref r1, .int x2, .int x3, .int x4, .int x5, v6, v7] [.int s0] h Q ↔ (¬ ((x2 >>> (x5 &&& 31)) &&& 1) = 1 → Wp d P_Pr_powerOf 65 [.ref r0, .ref r1, .int x2, .int x3, .int x4, .int x5, .int s0, v7] [] h Q) ∧ (¬ (¬ ((x2 >>> (x5 &&& 31)) &&& 1) = 1) → Wp d P_Pr_powerOf 25 [.ref r0, .ref r1, .int x2, .int x3, .int x4, .int x5, .int s0, v7] [] h Q) :=
    (r_go (j := 18) (L' := [.ref r0, .ref r1, .int x2, .int x3, .int x4, .int x5, .int s0, v7]) (S' := []) (h' := h) rfl rfl rfl rfl).trans <|
    (r_go (j := 19) (L' := [.ref r0, .ref r1, .int x2, .int x3, .int x4, .int x5, .int s0, v7]) (S' := [.int x2]) (h' := h) rfl rfl rfl rfl).trans <|
    (r_go (j := 20) (L' := [.ref r0, .ref r1, .int x2, .int x3, .int x4, .int x5, .int s0, v7]) (S' := [.int x5, .int x2]) (h' := h) rfl rfl rfl rfl).trans <|
    (r_go (j := 21) (L' := [.ref r0, .ref r1, .int x2, .int x3, .int x4, .int x5, .int s0, v7]) (S' := [.int (x2 >>> (x5 &&& 31))]) (h' := h) rfl rfl rfl rfl).trans <|
    (r_iconst (j := 22) (x := 1) rfl i32_1 rfl).trans <|
    (r_go (j := 23) (L' := [.ref r0, .ref r1, .int x2, .int x3, .int x4, .int x5, .int s0, v7]) (S' := [.int ((x2 >>> (x5 &&& 31)) &&& 1)]) (h' := h) rfl rfl rfl rfl).trans <|
    (r_iconst (j := 24) (x := 1) rfl i32_1 rfl).trans <|
    r_icmp (j := 25) rfl (cd_ne _ _) rfl
theorem b_Pr_powerOf_25 {d : Nat} (x2 x3 x4 x5 x6 : Int32) (r0 r1 : Nat) (v7 : Value) (h : AH) (Q : Option Value → AH → Prop) : Wp d P_Pr_powerOf 25 [.ref r0, .ref r1, .int x2, .int x3, .int x4, .int x5, .int x6, v7] [] h Q ↔ (x6 < 0 → Wp d P_Pr_powerOf 65 [.ref r0, .ref r1, .int x2, .int x3, .int x4, .int x5, .int x6, v7] [] h Q) ∧ (¬ (x6 < 0) → Wp d P_Pr_powerOf 27 [.ref r0, .ref r1, .int x2, .int x3, .int x4, .int x5, .int x6, v7] [] h Q) :=
    (r_go (j := 26) (L' := [.ref r0, .ref r1, .int x2, .int x3, .int x4, .int x5, .int x6, v7]) (S' := [.int x6]) (h' := h) rfl rfl rfl rfl).trans <|
    r_if (j := 27) rfl (cd_lt _ _) rfl
theorem b_Pr_powerOf_27 {d : Nat} (x2 x3 x4 x5 x6 : Int32) (r0 r1 : Nat) (v7 : Value) (h : AH) (Q : Option Value → AH → Prop) : Wp d P_Pr_powerOf 27 [.ref r0, .ref r1, .int x2, .int x3, .int x4, .int x5, .int x6, v7] [] h Q ↔ (hK h r0 = 5) ∧ ((20 ≤ hK h (hR h r0 1) ∧ hK h (hR h r0 1) ≠ 40 ∧ hK h (hR h r0 1) ≠ 42 ∧ hK h (hR h r0 1) ≤ 45 ∧ hK h (hR h r0 1) ≠ 43) ∧ (((Int32.ofNat (hN h (hR h r0 1))) ≤ x6 → Wp d P_Pr_powerOf 65 [.ref r0, .ref r1, .int x2, .int x3, .int x4, .int x5, .int x6, v7] [] h Q) ∧ (¬ ((Int32.ofNat (hN h (hR h r0 1))) ≤ x6) → Wp d P_Pr_powerOf 32 [.ref r0, .ref r1, .int x2, .int x3, .int x4, .int x5, .int x6, v7] [] h Q))) :=
    (r_go (j := 28) (L' := [.ref r0, .ref r1, .int x2, .int x3, .int x4, .int x5, .int x6, v7]) (S' := [.int x6]) (h' := h) rfl rfl rfl rfl).trans <|
    (r_go (j := 29) (L' := [.ref r0, .ref r1, .int x2, .int x3, .int x4, .int x5, .int x6, v7]) (S' := [.ref r0, .int x6]) (h' := h) rfl rfl rfl rfl).trans <|
    (r_guard (j := 30) (L' := [.ref r0, .ref r1, .int x2, .int x3, .int x4, .int x5, .int x6, v7]) (S' := [.ref (hR h r0 1), .int x6]) (h' := h) (p := hK h r0 = 5) rfl rfl rfl rfl (decide_eq_true_iff)).trans <| and_r <|
    (r_guard (j := 31) (L' := [.ref r0, .ref r1, .int x2, .int x3, .int x4, .int x5, .int x6, v7]) (S' := [.int (Int32.ofNat (hN h (hR h r0 1))), .int x6]) (h' := h) (p := 20 ≤ hK h (hR h r0 1) ∧ hK h (hR h r0 1) ≠ 40 ∧ hK h (hR h r0 1) ≠ 42 ∧ hK h (hR h r0 1) ≤ 45 ∧ hK h (hR h r0 1) ≠ 43) rfl rfl rfl rfl (decide_eq_true_iff)).trans <| and_r <|
    r_icmp (j := 32) rfl (cd_ge _ _) rfl
theorem b_Pr_powerOf_32 {d : Nat} (x2 x3 x4 x5 x6 : Int32) (r0 r1 : Nat) (v7 : Value) (h : AH) (Q : Option Value → AH → Prop) : Wp d P_Pr_powerOf 32 [.ref r0, .ref r1, .int x2, .int x3, .int x4, .int x5, .int x6, v7] [] h Q ↔ (hK h r0 = 5) ∧ ((hK h (hR h r0 1) ∈ [20, 44] ∧ ixo x6 (hN h (hR h r0 1)) = true) ∧ (Cl d q_Pr_cell [.int x5, .int x3, .int (hI h (hR h r0 1) (Int32.toNatClampNeg x6))] h (fun r h' => Wp d P_Pr_powerOf 39 [.ref r0, .ref r1, .int x2, .int x3, .int x4, .int x5, .int x6, v7] (r.toList ++ []) h' Q))) :=
    (r_go (j := 33) (L' := [.ref r0, .ref r1, .int x2, .int x3, .int x4, .int x5, .int x6, v7]) (S' := [.int x5]) (h' := h) rfl rfl rfl rfl).trans <|
    (r_go (j := 34) (L' := [.ref r0, .ref r1, .int x2, .int x3, .int x4, .int x5, .int x6, v7]) (S' := [.int x3, .int x5]) (h' := h) rfl rfl rfl rfl).trans <|
    (r_go (j := 35) (L' := [.ref r0, .ref r1, .int x2, .int x3, .int x4, .int x5, .int x6, v7]) (S' := [.ref r0, .int x3, .int x5]) (h' := h) rfl rfl rfl rfl).trans <|
    (r_guard (j := 36) (L' := [.ref r0, .ref r1, .int x2, .int x3, .int x4, .int x5, .int x6, v7]) (S' := [.ref (hR h r0 1), .int x3, .int x5]) (h' := h) (p := hK h r0 = 5) rfl rfl rfl rfl (decide_eq_true_iff)).trans <| and_r <|
    (r_go (j := 37) (L' := [.ref r0, .ref r1, .int x2, .int x3, .int x4, .int x5, .int x6, v7]) (S' := [.int x6, .ref (hR h r0 1), .int x3, .int x5]) (h' := h) rfl rfl rfl rfl).trans <|
    (r_guard (j := 38) (L' := [.ref r0, .ref r1, .int x2, .int x3, .int x4, .int x5, .int x6, v7]) (S' := [.int (hI h (hR h r0 1) (Int32.toNatClampNeg x6)), .int x3, .int x5]) (h' := h) (p := hK h (hR h r0 1) ∈ [20, 44] ∧ ixo x6 (hN h (hR h r0 1)) = true) rfl rfl rfl rfl (and2 decide_eq_true_iff Iff.rfl)).trans <| and_r <|
    r_call (j := 39) (a := [.int x5, .int x3, .int (hI h (hR h r0 1) (Int32.toNatClampNeg x6))]) (S' := []) rfl rfl rfl rfl rfl rfl rfl
theorem b_Pr_powerOf_39 {d : Nat} (x2 x3 x4 x5 x6 s0 : Int32) (r0 r1 : Nat) (v7 : Value) (h : AH) (Q : Option Value → AH → Prop) : Wp d P_Pr_powerOf 39 [.ref r0, .ref r1, .int x2, .int x3, .int x4, .int x5, .int x6, v7] [.int s0] h Q ↔ (s0 < 0 → Wp d P_Pr_powerOf 53 [.ref r0, .ref r1, .int x2, .int x3, .int x4, .int x5, .int x6, .int s0] [.int x4] h Q) ∧ (¬ (s0 < 0) → Wp d P_Pr_powerOf 43 [.ref r0, .ref r1, .int x2, .int x3, .int x4, .int x5, .int x6, .int s0] [.int x4] h Q) :=
    (r_go (j := 40) (L' := [.ref r0, .ref r1, .int x2, .int x3, .int x4, .int x5, .int x6, .int s0]) (S' := []) (h' := h) rfl rfl rfl rfl).trans <|
    (r_go (j := 41) (L' := [.ref r0, .ref r1, .int x2, .int x3, .int x4, .int x5, .int x6, .int s0]) (S' := [.int x4]) (h' := h) rfl rfl rfl rfl).trans <|
    (r_go (j := 42) (L' := [.ref r0, .ref r1, .int x2, .int x3, .int x4, .int x5, .int x6, .int s0]) (S' := [.int s0, .int x4]) (h' := h) rfl rfl rfl rfl).trans <|
    r_if (j := 43) rfl (cd_lt _ _) rfl
theorem b_Pr_powerOf_43 {d : Nat} (x2 x3 x4 x5 x6 x7 s0 : Int32) (r0 r1 : Nat) (h : AH) (Q : Option Value → AH → Prop) : Wp d P_Pr_powerOf 43 [.ref r0, .ref r1, .int x2, .int x3, .int x4, .int x5, .int x6, .int x7] [.int s0] h Q ↔ (hK h r0 = 5) ∧ ((20 ≤ hK h (hR h r0 0) ∧ hK h (hR h r0 0) ≠ 40 ∧ hK h (hR h r0 0) ≠ 42 ∧ hK h (hR h r0 0) ≤ 45 ∧ hK h (hR h r0 0) ≠ 43) ∧ (((Int32.ofNat (hN h (hR h r0 0))) ≤ x7 → Wp d P_Pr_powerOf 53 [.ref r0, .ref r1, .int x2, .int x3, .int x4, .int x5, .int x6, .int x7] [.int s0] h Q) ∧ (¬ ((Int32.ofNat (hN h (hR h r0 0))) ≤ x7) → Wp d P_Pr_powerOf 48 [.ref r0, .ref r1, .int x2, .int x3, .int x4, .int x5, .int x6, .int x7] [.int s0] h Q))) :=
    (r_go (j := 44) (L' := [.ref r0, .ref r1, .int x2, .int x3, .int x4, .int x5, .int x6, .int x7]) (S' := [.int x7, .int s0]) (h' := h) rfl rfl rfl rfl).trans <|
    (r_go (j := 45) (L' := [.ref r0, .ref r1, .int x2, .int x3, .int x4, .int x5, .int x6, .int x7]) (S' := [.ref r0, .int x7, .int s0]) (h' := h) rfl rfl rfl rfl).trans <|
    (r_guard (j := 46) (L' := [.ref r0, .ref r1, .int x2, .int x3, .int x4, .int x5, .int x6, .int x7]) (S' := [.ref (hR h r0 0), .int x7, .int s0]) (h' := h) (p := hK h r0 = 5) rfl rfl rfl rfl (decide_eq_true_iff)).trans <| and_r <|
    (r_guard (j := 47) (L' := [.ref r0, .ref r1, .int x2, .int x3, .int x4, .int x5, .int x6, .int x7]) (S' := [.int (Int32.ofNat (hN h (hR h r0 0))), .int x7, .int s0]) (h' := h) (p := 20 ≤ hK h (hR h r0 0) ∧ hK h (hR h r0 0) ≠ 40 ∧ hK h (hR h r0 0) ≠ 42 ∧ hK h (hR h r0 0) ≤ 45 ∧ hK h (hR h r0 0) ≠ 43) rfl rfl rfl rfl (decide_eq_true_iff)).trans <| and_r <|
    r_icmp (j := 48) rfl (cd_ge _ _) rfl
theorem b_Pr_powerOf_48 {d : Nat} (x2 x3 x4 x5 x6 x7 s0 : Int32) (r0 r1 : Nat) (h : AH) (Q : Option Value → AH → Prop) : Wp d P_Pr_powerOf 48 [.ref r0, .ref r1, .int x2, .int x3, .int x4, .int x5, .int x6, .int x7] [.int s0] h Q ↔ (hK h r0 = 5) ∧ ((hK h (hR h r0 0) ∈ [20, 44] ∧ ixo x7 (hN h (hR h r0 0)) = true) ∧ (Wp d P_Pr_powerOf 54 [.ref r0, .ref r1, .int x2, .int x3, .int x4, .int x5, .int x6, .int x7] [.int (hI h (hR h r0 0) (Int32.toNatClampNeg x7)), .int s0] h Q)) :=
    (r_go (j := 49) (L' := [.ref r0, .ref r1, .int x2, .int x3, .int x4, .int x5, .int x6, .int x7]) (S' := [.ref r0, .int s0]) (h' := h) rfl rfl rfl rfl).trans <|
    (r_guard (j := 50) (L' := [.ref r0, .ref r1, .int x2, .int x3, .int x4, .int x5, .int x6, .int x7]) (S' := [.ref (hR h r0 0), .int s0]) (h' := h) (p := hK h r0 = 5) rfl rfl rfl rfl (decide_eq_true_iff)).trans <| and_r <|
    (r_go (j := 51) (L' := [.ref r0, .ref r1, .int x2, .int x3, .int x4, .int x5, .int x6, .int x7]) (S' := [.int x7, .ref (hR h r0 0), .int s0]) (h' := h) rfl rfl rfl rfl).trans <|
    (r_guard (j := 52) (L' := [.ref r0, .ref r1, .int x2, .int x3, .int x4, .int x5, .int x6, .int x7]) (S' := [.int (hI h (hR h r0 0) (Int32.toNatClampNeg x7)), .int s0]) (h' := h) (p := hK h (hR h r0 0) ∈ [20, 44] ∧ ixo x7 (hN h (hR h r0 0)) = true) rfl rfl rfl rfl (and2 decide_eq_true_iff Iff.rfl)).trans <| and_r <|
    r_go (j := 54) (L' := [.ref r0, .ref r1, .int x2, .int x3, .int x4, .int x5, .int x6, .int x7]) (S' := [.int (hI h (hR h r0 0) (Int32.toNatClampNeg x7)), .int s0]) (h' := h) rfl rfl rfl rfl
theorem b_Pr_powerOf_53 {d : Nat} (x2 x3 x4 x5 x6 x7 s0 : Int32) (r0 r1 : Nat) (h : AH) (Q : Option Value → AH → Prop) : Wp d P_Pr_powerOf 53 [.ref r0, .ref r1, .int x2, .int x3, .int x4, .int x5, .int x6, .int x7] [.int s0] h Q ↔ Wp d P_Pr_powerOf 54 [.ref r0, .ref r1, .int x2, .int x3, .int x4, .int x5, .int x6, .int x7] [.int 0, .int s0] h Q :=
    r_iconst (j := 54) (x := 0) rfl i32_0 rfl
theorem b_Pr_powerOf_54 {d : Nat} (x2 x3 x4 x5 x6 x7 s0 s1 : Int32) (r0 r1 : Nat) (h : AH) (Q : Option Value → AH → Prop) : Wp d P_Pr_powerOf 54 [.ref r0, .ref r1, .int x2, .int x3, .int x4, .int x5, .int x6, .int x7] [.int s0, .int s1] h Q ↔ (hK h r0 = 5) ∧ ((hK h (hR h r0 1) ∈ [20, 44] ∧ ixo x6 (hN h (hR h r0 1)) = true) ∧ ((hK h (hR h r0 1) = 20 ∧ ixo x6 (hN h (hR h r0 1)) = true) ∧ (Wp d P_Pr_powerOf 65 [.ref r0, .ref r1, .int x2, .int (x3 + 1), .int (s1 + s0), .int x5, .int x6, .int x7] [] (sI h (hR h r0 1) (Int32.toNatClampNeg x6) ((hI h (hR h r0 1) (Int32.toNatClampNeg x6)) + 1)) Q))) :=
    (r_go (j := 55) (L' := [.ref r0, .ref r1, .int x2, .int x3, .int x4, .int x5, .int x6, .int x7]) (S' := [.int (s1 + s0)]) (h' := h) rfl rfl rfl rfl).trans <|
    (r_go (j := 56) (L' := [.ref r0, .ref r1, .int x2, .int x3, .int (s1 + s0), .int x5, .int x6, .int x7]) (S' := []) (h' := h) rfl rfl rfl rfl).trans <|
    (r_go (j := 57) (L' := [.ref r0, .ref r1, .int x2, .int x3, .int (s1 + s0), .int x5, .int x6, .int x7]) (S' := [.ref r0]) (h' := h) rfl rfl rfl rfl).trans <|
    (r_guard (j := 58) (L' := [.ref r0, .ref r1, .int x2, .int x3, .int (s1 + s0), .int x5, .int x6, .int x7]) (S' := [.ref (hR h r0 1)]) (h' := h) (p := hK h r0 = 5) rfl rfl rfl rfl (decide_eq_true_iff)).trans <| and_r <|
    (r_go (j := 59) (L' := [.ref r0, .ref r1, .int x2, .int x3, .int (s1 + s0), .int x5, .int x6, .int x7]) (S' := [.int x6, .ref (hR h r0 1)]) (h' := h) rfl rfl rfl rfl).trans <|
    (r_go (j := 60) (L' := [.ref r0, .ref r1, .int x2, .int x3, .int (s1 + s0), .int x5, .int x6, .int x7]) (S' := [.int x6, .ref (hR h r0 1), .int x6, .ref (hR h r0 1)]) (h' := h) rfl rfl rfl rfl).trans <|
    (r_guard (j := 61) (L' := [.ref r0, .ref r1, .int x2, .int x3, .int (s1 + s0), .int x5, .int x6, .int x7]) (S' := [.int (hI h (hR h r0 1) (Int32.toNatClampNeg x6)), .int x6, .ref (hR h r0 1)]) (h' := h) (p := hK h (hR h r0 1) ∈ [20, 44] ∧ ixo x6 (hN h (hR h r0 1)) = true) rfl rfl rfl rfl (and2 decide_eq_true_iff Iff.rfl)).trans <| and_r <|
    (r_iconst (j := 62) (x := 1) rfl i32_1 rfl).trans <|
    (r_go (j := 63) (L' := [.ref r0, .ref r1, .int x2, .int x3, .int (s1 + s0), .int x5, .int x6, .int x7]) (S' := [.int ((hI h (hR h r0 1) (Int32.toNatClampNeg x6)) + 1), .int x6, .ref (hR h r0 1)]) (h' := h) rfl rfl rfl rfl).trans <|
    (r_guard (j := 64) (L' := [.ref r0, .ref r1, .int x2, .int x3, .int (s1 + s0), .int x5, .int x6, .int x7]) (S' := []) (h' := (sI h (hR h r0 1) (Int32.toNatClampNeg x6) ((hI h (hR h r0 1) (Int32.toNatClampNeg x6)) + 1))) (p := hK h (hR h r0 1) = 20 ∧ ixo x6 (hN h (hR h r0 1)) = true) rfl rfl rfl rfl (and2 decide_eq_true_iff Iff.rfl)).trans <| and_r <|
    r_iinc (j := 65) (x := 1) (L' := [.ref r0, .ref r1, .int x2, .int (x3 + 1), .int (s1 + s0), .int x5, .int x6, .int x7]) rfl rfl i32_1 rfl rfl
theorem b_Pr_powerOf_65 {d : Nat} (x2 x3 x4 x5 x6 : Int32) (r0 r1 : Nat) (v7 : Value) (h : AH) (Q : Option Value → AH → Prop) : Wp d P_Pr_powerOf 65 [.ref r0, .ref r1, .int x2, .int x3, .int x4, .int x5, .int x6, v7] [] h Q ↔ Wp d P_Pr_powerOf 10 [.ref r0, .ref r1, .int x2, .int x3, .int x4, .int (x5 + 1), .int x6, v7] [] h Q :=
    (r_iinc (j := 66) (x := 1) (L' := [.ref r0, .ref r1, .int x2, .int x3, .int x4, .int (x5 + 1), .int x6, v7]) rfl rfl i32_1 rfl rfl).trans <|
    r_go (j := 10) (L' := [.ref r0, .ref r1, .int x2, .int x3, .int x4, .int (x5 + 1), .int x6, v7]) (S' := []) (h' := h) rfl rfl rfl rfl
theorem b_Pr_powerOf_67 {d : Nat} (x2 x3 x4 x5 : Int32) (r0 r1 : Nat) (v6 v7 : Value) (h : AH) (Q : Option Value → AH → Prop) : Wp d P_Pr_powerOf 67 [.ref r0, .ref r1, .int x2, .int x3, .int x4, .int x5, v6, v7] [] h Q ↔ Q (some (.int x4)) h :=
    (r_go (j := 68) (L' := [.ref r0, .ref r1, .int x2, .int x3, .int x4, .int x5, v6, v7]) (S' := [.int x4]) (h' := h) rfl rfl rfl rfl).trans <|
    r_ret rfl rfl rfl
theorem e_Pr_powerOf {d : Nat} (x2 : Int32) (r0 r1 : Nat) (h : AH) (Q : Option Value → AH → Prop) : Cl (d + 1) q_Pr_powerOf [.ref r0, .ref r1, .int x2] h Q ↔ hK h r0 = 5 ∧ Wp d P_Pr_powerOf 0 [.ref r0, .ref r1, .int x2, .null, .null, .null, .null, .null] [] h (fun r h' => rtk (some .int) r = true ∧ Q r h') :=
    (Cl_method (t := m_Pr_powerOf) rfl).trans (and_congr_left fun _ => decide_eq_true_iff)
/-! PenThatJumps$Program.<init>(I)V -/
theorem b_Pg_init_0 {d : Nat} (x1 : Int32) (r0 : Nat) (h : AH) (Q : Option Value → AH → Prop) : Wp d P_Pg_init 0 [.ref r0, .int x1] [] h Q ↔ Cl d 301 [.ref r0] h (fun r h' => Wp d P_Pg_init 2 [.ref r0, .int x1] (r.toList ++ []) h' Q) :=
    (r_go (j := 1) (L' := [.ref r0, .int x1]) (S' := [.ref r0]) (h' := h) rfl rfl rfl rfl).trans <|
    r_call (j := 2) (a := [.ref r0]) (S' := []) rfl rfl rfl rfl rfl rfl rfl
theorem b_Pg_init_2 {d : Nat} (x1 : Int32) (r0 : Nat) (h : AH) (Q : Option Value → AH → Prop) : Wp d P_Pg_init 2 [.ref r0, .int x1] [] h Q ↔ ((0 : Int32) ≤ 6 ∧ Int32.toNatClampNeg 6 ≤ 10000) ∧ (Wp d P_Pg_init 5 [.ref r0, .int x1] [.ref (hz h), .ref r0] (mkC h 20 (Int32.toNatClampNeg 6) (Int32.toNatClampNeg 6)) Q) :=
    (r_go (j := 3) (L' := [.ref r0, .int x1]) (S' := [.ref r0]) (h' := h) rfl rfl rfl rfl).trans <|
    (r_bipush (j := 4) (x := 6) rfl i32_6 rfl).trans <|
    r_guard (j := 5) (L' := [.ref r0, .int x1]) (S' := [.ref (hz h), .ref r0]) (h' := (mkC h 20 (Int32.toNatClampNeg 6) (Int32.toNatClampNeg 6))) (p := (0 : Int32) ≤ 6 ∧ Int32.toNatClampNeg 6 ≤ 10000) rfl rfl rfl rfl (and2 decide_eq_true_iff decide_eq_true_iff)
theorem b_Pg_init_5 {d : Nat} (x1 : Int32) (r0 t0 t1 : Nat) (h : AH) (Q : Option Value → AH → Prop) : Wp d P_Pg_init 5 [.ref r0, .int x1] [.ref t0, .ref t1] h Q ↔ (hK h t1 = 6) ∧ (Wp d P_Pg_init 6 [.ref r0, .int x1] [] (sR h t1 3 t0) Q) :=
    r_guard (j := 6) (L' := [.ref r0, .int x1]) (S' := []) (h' := (sR h t1 3 t0)) (p := hK h t1 = 6) rfl rfl rfl rfl (pfR rfl)
theorem b_Pg_init_6 {d : Nat} (x1 : Int32) (r0 : Nat) (h : AH) (Q : Option Value → AH → Prop) : Wp d P_Pg_init 6 [.ref r0, .int x1] [] h Q ↔ ((0 : Int32) ≤ 6 ∧ Int32.toNatClampNeg 6 ≤ 10000) ∧ (Wp d P_Pg_init 9 [.ref r0, .int x1] [.ref (hz h), .ref r0] (mkC h 20 (Int32.toNatClampNeg 6) (Int32.toNatClampNeg 6)) Q) :=
    (r_go (j := 7) (L' := [.ref r0, .int x1]) (S' := [.ref r0]) (h' := h) rfl rfl rfl rfl).trans <|
    (r_bipush (j := 8) (x := 6) rfl i32_6 rfl).trans <|
    r_guard (j := 9) (L' := [.ref r0, .int x1]) (S' := [.ref (hz h), .ref r0]) (h' := (mkC h 20 (Int32.toNatClampNeg 6) (Int32.toNatClampNeg 6))) (p := (0 : Int32) ≤ 6 ∧ Int32.toNatClampNeg 6 ≤ 10000) rfl rfl rfl rfl (and2 decide_eq_true_iff decide_eq_true_iff)
theorem b_Pg_init_9 {d : Nat} (x1 : Int32) (r0 t0 t1 : Nat) (h : AH) (Q : Option Value → AH → Prop) : Wp d P_Pg_init 9 [.ref r0, .int x1] [.ref t0, .ref t1] h Q ↔ (hK h t1 = 6) ∧ (Wp d P_Pg_init 10 [.ref r0, .int x1] [] (sR h t1 4 t0) Q) :=
    r_guard (j := 10) (L' := [.ref r0, .int x1]) (S' := []) (h' := (sR h t1 4 t0)) (p := hK h t1 = 6) rfl rfl rfl rfl (pfR rfl)
theorem b_Pg_init_10 {d : Nat} (x1 : Int32) (r0 : Nat) (h : AH) (Q : Option Value → AH → Prop) : Wp d P_Pg_init 10 [.ref r0, .int x1] [] h Q ↔ ((0 : Int32) ≤ 32 ∧ Int32.toNatClampNeg 32 ≤ 10000) ∧ (Wp d P_Pg_init 13 [.ref r0, .int x1] [.ref (hz h), .ref r0] (mkC h 20 (Int32.toNatClampNeg 32) (Int32.toNatClampNeg 32)) Q) :=
    (r_go (j := 11) (L' := [.ref r0, .int x1]) (S' := [.ref r0]) (h' := h) rfl rfl rfl rfl).trans <|
    (r_bipush (j := 12) (x := 32) rfl i32_32 rfl).trans <|
    r_guard (j := 13) (L' := [.ref r0, .int x1]) (S' := [.ref (hz h), .ref r0]) (h' := (mkC h 20 (Int32.toNatClampNeg 32) (Int32.toNatClampNeg 32))) (p := (0 : Int32) ≤ 32 ∧ Int32.toNatClampNeg 32 ≤ 10000) rfl rfl rfl rfl (and2 decide_eq_true_iff decide_eq_true_iff)
theorem b_Pg_init_13 {d : Nat} (x1 : Int32) (r0 t0 t1 : Nat) (h : AH) (Q : Option Value → AH → Prop) : Wp d P_Pg_init 13 [.ref r0, .int x1] [.ref t0, .ref t1] h Q ↔ (hK h t1 = 6) ∧ (Wp d P_Pg_init 14 [.ref r0, .int x1] [] (sR h t1 5 t0) Q) :=
    r_guard (j := 14) (L' := [.ref r0, .int x1]) (S' := []) (h' := (sR h t1 5 t0)) (p := hK h t1 = 6) rfl rfl rfl rfl (pfR rfl)
theorem b_Pg_init_14 {d : Nat} (x1 : Int32) (r0 : Nat) (h : AH) (Q : Option Value → AH → Prop) : Wp d P_Pg_init 14 [.ref r0, .int x1] [] h Q ↔ (x1 ≤ 0 → Wp d P_Pg_init 19 [.ref r0, .int x1] [.ref r0] h Q) ∧ (¬ (x1 ≤ 0) → Wp d P_Pg_init 17 [.ref r0, .int x1] [.ref r0] h Q) :=
    (r_go (j := 15) (L' := [.ref r0, .int x1]) (S' := [.ref r0]) (h' := h) rfl rfl rfl rfl).trans <|
    (r_go (j := 16) (L' := [.ref r0, .int x1]) (S' := [.int x1, .ref r0]) (h' := h) rfl rfl rfl rfl).trans <|
    r_if (j := 17) rfl (cd_le _ _) rfl
theorem b_Pg_init_17 {d : Nat} (x1 : Int32) (r0 t0 : Nat) (h : AH) (Q : Option Value → AH → Prop) : Wp d P_Pg_init 17 [.ref r0, .int x1] [.ref t0] h Q ↔ Wp d P_Pg_init 20 [.ref r0, .int x1] [.int x1, .ref t0] h Q :=
    (r_go (j := 18) (L' := [.ref r0, .int x1]) (S' := [.int x1, .ref t0]) (h' := h) rfl rfl rfl rfl).trans <|
    r_go (j := 20) (L' := [.ref r0, .int x1]) (S' := [.int x1, .ref t0]) (h' := h) rfl rfl rfl rfl
theorem b_Pg_init_19 {d : Nat} (x1 : Int32) (r0 t0 : Nat) (h : AH) (Q : Option Value → AH → Prop) : Wp d P_Pg_init 19 [.ref r0, .int x1] [.ref t0] h Q ↔ Wp d P_Pg_init 20 [.ref r0, .int x1] [.int 0, .ref t0] h Q :=
    r_iconst (j := 20) (x := 0) rfl i32_0 rfl
theorem b_Pg_init_20 {d : Nat} (x1 s0 : Int32) (r0 t1 : Nat) (h : AH) (Q : Option Value → AH → Prop) : Wp d P_Pg_init 20 [.ref r0, .int x1] [.int s0, .ref t1] h Q ↔ ((0 : Int32) ≤ s0 ∧ Int32.toNatClampNeg s0 ≤ 10000) ∧ (Wp d P_Pg_init 21 [.ref r0, .int x1] [.ref (hz h), .ref t1] (mkC h 20 (Int32.toNatClampNeg s0) (Int32.toNatClampNeg s0)) Q) :=
    r_guard (j := 21) (L' := [.ref r0, .int x1]) (S' := [.ref (hz h), .ref t1]) (h' := (mkC h 20 (Int32.toNatClampNeg s0) (Int32.toNatClampNeg s0))) (p := (0 : Int32) ≤ s0 ∧ Int32.toNatClampNeg s0 ≤ 10000) rfl rfl rfl rfl (and2 decide_eq_true_iff decide_eq_true_iff)
theorem b_Pg_init_21 {d : Nat} (x1 : Int32) (r0 t0 t1 : Nat) (h : AH) (Q : Option Value → AH → Prop) : Wp d P_Pg_init 21 [.ref r0, .int x1] [.ref t0, .ref t1] h Q ↔ (hK h t1 = 6) ∧ (Wp d P_Pg_init 22 [.ref r0, .int x1] [] (sR h t1 0 t0) Q) :=
    r_guard (j := 22) (L' := [.ref r0, .int x1]) (S' := []) (h' := (sR h t1 0 t0)) (p := hK h t1 = 6) rfl rfl rfl rfl (pfR rfl)
theorem b_Pg_init_22 {d : Nat} (x1 : Int32) (r0 : Nat) (h : AH) (Q : Option Value → AH → Prop) : Wp d P_Pg_init 22 [.ref r0, .int x1] [] h Q ↔ Q (none) h :=
    r_ret rfl rfl rfl
theorem e_Pg_init {d : Nat} (x1 : Int32) (r0 : Nat) (h : AH) (Q : Option Value → AH → Prop) : Cl (d + 1) q_Pg_init [.ref r0, .int x1] h Q ↔ hK h r0 = 6 ∧ Wp d P_Pg_init 0 [.ref r0, .int x1] [] h (fun r h' => rtk (none) r = true ∧ Q r h') :=
    (Cl_method (t := m_Pg_init) rfl).trans (and_congr_left fun _ => decide_eq_true_iff)
/-! PenThatJumps$Program.clear()V -/
theorem b_Pg_clear_0 {d : Nat} (r0 : Nat) (h : AH) (Q : Option Value → AH → Prop) : Wp d P_Pg_clear 0 [.ref r0] [] h Q ↔ (hK h r0 = 6) ∧ ((hK (sI h r0 1 0) r0 = 6) ∧ ((hK (sI (sI h r0 1 0) r0 2 0) r0 = 6) ∧ (Cl d q_Ar_fill [.ref (hR (sI (sI h r0 1 0) r0 2 0) r0 3), .int 0] (sI (sI h r0 1 0) r0 2 0) (fun r h' => Wp d P_Pg_clear 10 [.ref r0] (r.toList ++ []) h' Q)))) :=
    (r_go (j := 1) (L' := [.ref r0]) (S' := [.ref r0]) (h' := h) rfl rfl rfl rfl).trans <|
    (r_iconst (j := 2) (x := 0) rfl i32_0 rfl).trans <|
    (r_guard (j := 3) (L' := [.ref r0]) (S' := []) (h' := (sI h r0 1 0)) (p := hK h r0 = 6) rfl rfl rfl rfl (pfI rfl)).trans <| and_r <|
    (r_go (j := 4) (L' := [.ref r0]) (S' := [.ref r0]) (h' := (sI h r0 1 0)) rfl rfl rfl rfl).trans <|
    (r_iconst (j := 5) (x := 0) rfl i32_0 rfl).trans <|
    (r_guard (j := 6) (L' := [.ref r0]) (S' := []) (h' := (sI (sI h r0 1 0) r0 2 0)) (p := hK (sI h r0 1 0) r0 = 6) rfl rfl rfl rfl (pfI rfl)).trans <| and_r <|
    (r_go (j := 7) (L' := [.ref r0]) (S' := [.ref r0]) (h' := (sI (sI h r0 1 0) r0 2 0)) rfl rfl rfl rfl).trans <|
    (r_guard (j := 8) (L' := [.ref r0]) (S' := [.ref (hR (sI (sI h r0 1 0) r0 2 0) r0 3)]) (h' := (sI (sI h r0 1 0) r0 2 0)) (p := hK (sI (sI h r0 1 0) r0 2 0) r0 = 6) rfl rfl rfl rfl (decide_eq_true_iff)).trans <| and_r <|
    (r_iconst (j := 9) (x := 0) rfl i32_0 rfl).trans <|
    r_call (j := 10) (a := [.ref (hR (sI (sI h r0 1 0) r0 2 0) r0 3), .int 0]) (S' := []) rfl rfl rfl rfl rfl rfl rfl
theorem b_Pg_clear_10 {d : Nat} (r0 : Nat) (h : AH) (Q : Option Value → AH → Prop) : Wp d P_Pg_clear 10 [.ref r0] [] h Q ↔ (hK h r0 = 6) ∧ (Cl d q_Ar_fill [.ref (hR h r0 4), .int 0] h (fun r h' => Wp d P_Pg_clear 14 [.ref r0] (r.toList ++ []) h' Q)) :=
    (r_go (j := 11) (L' := [.ref r0]) (S' := [.ref r0]) (h' := h) rfl rfl rfl rfl).trans <|
    (r_guard (j := 12) (L' := [.ref r0]) (S' := [.ref (hR h r0 4)]) (h' := h) (p := hK h r0 = 6) rfl rfl rfl rfl (decide_eq_true_iff)).trans <| and_r <|
    (r_iconst (j := 13) (x := 0) rfl i32_0 rfl).trans <|
    r_call (j := 14) (a := [.ref (hR h r0 4), .int 0]) (S' := []) rfl rfl rfl rfl rfl rfl rfl
theorem b_Pg_clear_14 {d : Nat} (r0 : Nat) (h : AH) (Q : Option Value → AH → Prop) : Wp d P_Pg_clear 14 [.ref r0] [] h Q ↔ Q (none) h :=
    r_ret rfl rfl rfl
theorem e_Pg_clear {d : Nat} (r0 : Nat) (h : AH) (Q : Option Value → AH → Prop) : Cl (d + 1) q_Pg_clear [.ref r0] h Q ↔ hK h r0 = 6 ∧ Wp d P_Pg_clear 0 [.ref r0] [] h (fun r h' => rtk (none) r = true ∧ Q r h') :=
    (Cl_method (t := m_Pg_clear) rfl).trans (and_congr_left fun _ => decide_eq_true_iff)
/-! PenThatJumps$Program.add(I)V -/
theorem b_Pg_add_0 {d : Nat} (x1 : Int32) (r0 : Nat) (h : AH) (Q : Option Value → AH → Prop) : Wp d P_Pg_add 0 [.ref r0, .int x1] [] h Q ↔ (hK h r0 = 6) ∧ (((hI h r0 1) < 0 → Wp d P_Pg_add 21 [.ref r0, .int x1] [] h Q) ∧ (¬ ((hI h r0 1) < 0) → Wp d P_Pg_add 3 [.ref r0, .int x1] [] h Q)) :=
    (r_go (j := 1) (L' := [.ref r0, .int x1]) (S' := [.ref r0]) (h' := h) rfl rfl rfl rfl).trans <|
    (r_guard (j := 2) (L' := [.ref r0, .int x1]) (S' := [.int (hI h r0 1)]) (h' := h) (p := hK h r0 = 6) rfl rfl rfl rfl (decide_eq_true_iff)).trans <| and_r <|
    r_if (j := 3) rfl (cd_lt _ _) rfl
theorem b_Pg_add_3 {d : Nat} (x1 : Int32) (r0 : Nat) (h : AH) (Q : Option Value → AH → Prop) : Wp d P_Pg_add 3 [.ref r0, .int x1] [] h Q ↔ (hK h r0 = 6) ∧ ((hK h r0 = 6) ∧ ((20 ≤ hK h (hR h r0 0) ∧ hK h (hR h r0 0) ≠ 40 ∧ hK h (hR h r0 0) ≠ 42 ∧ hK h (hR h r0 0) ≤ 45 ∧ hK h (hR h r0 0) ≠ 43) ∧ (((Int32.ofNat (hN h (hR h r0 0))) ≤ (hI h r0 1) → Wp d P_Pg_add 21 [.ref r0, .int x1] [] h Q) ∧ (¬ ((Int32.ofNat (hN h (hR h r0 0))) ≤ (hI h r0 1)) → Wp d P_Pg_add 9 [.ref r0, .int x1] [] h Q)))) :=
    (r_go (j := 4) (L' := [.ref r0, .int x1]) (S' := [.ref r0]) (h' := h) rfl rfl rfl rfl).trans <|
    (r_guard (j := 5) (L' := [.ref r0, .int x1]) (S' := [.int (hI h r0 1)]) (h' := h) (p := hK h r0 = 6) rfl rfl rfl rfl (decide_eq_true_iff)).trans <| and_r <|
    (r_go (j := 6) (L' := [.ref r0, .int x1]) (S' := [.ref r0, .int (hI h r0 1)]) (h' := h) rfl rfl rfl rfl).trans <|
    (r_guard (j := 7) (L' := [.ref r0, .int x1]) (S' := [.ref (hR h r0 0), .int (hI h r0 1)]) (h' := h) (p := hK h r0 = 6) rfl rfl rfl rfl (decide_eq_true_iff)).trans <| and_r <|
    (r_guard (j := 8) (L' := [.ref r0, .int x1]) (S' := [.int (Int32.ofNat (hN h (hR h r0 0))), .int (hI h r0 1)]) (h' := h) (p := 20 ≤ hK h (hR h r0 0) ∧ hK h (hR h r0 0) ≠ 40 ∧ hK h (hR h r0 0) ≠ 42 ∧ hK h (hR h r0 0) ≤ 45 ∧ hK h (hR h r0 0) ≠ 43) rfl rfl rfl rfl (decide_eq_true_iff)).trans <| and_r <|
    r_icmp (j := 9) rfl (cd_ge _ _) rfl
theorem b_Pg_add_9 {d : Nat} (x1 : Int32) (r0 : Nat) (h : AH) (Q : Option Value → AH → Prop) : Wp d P_Pg_add 9 [.ref r0, .int x1] [] h Q ↔ (hK h r0 = 6) ∧ ((hK h r0 = 6) ∧ ((hK h (hR h r0 0) = 20 ∧ ixo (hI h r0 1) (hN h (hR h r0 0)) = true) ∧ ((hK (sI h (hR h r0 0) (Int32.toNatClampNeg (hI h r0 1)) x1) r0 = 6) ∧ ((hK (sI h (hR h r0 0) (Int32.toNatClampNeg (hI h r0 1)) x1) r0 = 6) ∧ (Wp d P_Pg_add 21 [.ref r0, .int x1] [] (sI (sI h (hR h r0 0) (Int32.toNatClampNeg (hI h r0 1)) x1) r0 1 ((hI (sI h (hR h r0 0) (Int32.toNatClampNeg (hI h r0 1)) x1) r0 1) + 1)) Q))))) :=
    (r_go (j := 10) (L' := [.ref r0, .int x1]) (S' := [.ref r0]) (h' := h) rfl rfl rfl rfl).trans <|
    (r_guard (j := 11) (L' := [.ref r0, .int x1]) (S' := [.ref (hR h r0 0)]) (h' := h) (p := hK h r0 = 6) rfl rfl rfl rfl (decide_eq_true_iff)).trans <| and_r <|
    (r_go (j := 12) (L' := [.ref r0, .int x1]) (S' := [.ref r0, .ref (hR h r0 0)]) (h' := h) rfl rfl rfl rfl).trans <|
    (r_guard (j := 13) (L' := [.ref r0, .int x1]) (S' := [.int (hI h r0 1), .ref (hR h r0 0)]) (h' := h) (p := hK h r0 = 6) rfl rfl rfl rfl (decide_eq_true_iff)).trans <| and_r <|
    (r_go (j := 14) (L' := [.ref r0, .int x1]) (S' := [.int x1, .int (hI h r0 1), .ref (hR h r0 0)]) (h' := h) rfl rfl rfl rfl).trans <|
    (r_guard (j := 15) (L' := [.ref r0, .int x1]) (S' := []) (h' := (sI h (hR h r0 0) (Int32.toNatClampNeg (hI h r0 1)) x1)) (p := hK h (hR h r0 0) = 20 ∧ ixo (hI h r0 1) (hN h (hR h r0 0)) = true) rfl rfl rfl rfl (and2 decide_eq_true_iff Iff.rfl)).trans <| and_r <|
    (r_go (j := 16) (L' := [.ref r0, .int x1]) (S' := [.ref r0]) (h' := (sI h (hR h r0 0) (Int32.toNatClampNeg (hI h r0 1)) x1)) rfl rfl rfl rfl).trans <|
    (r_go (j := 17) (L' := [.ref r0, .int x1]) (S' := [.ref r0, .ref r0]) (h' := (sI h (hR h r0 0) (Int32.toNatClampNeg (hI h r0 1)) x1)) rfl rfl rfl rfl).trans <|
    (r_guard (j := 18) (L' := [.ref r0, .int x1]) (S' := [.int (hI (sI h (hR h r0 0) (Int32.toNatClampNeg (hI h r0 1)) x1) r0 1), .ref r0]) (h' := (sI h (hR h r0 0) (Int32.toNatClampNeg (hI h r0 1)) x1)) (p := hK (sI h (hR h r0 0) (Int32.toNatClampNeg (hI h r0 1)) x1) r0 = 6) rfl rfl rfl rfl (decide_eq_true_iff)).trans <| and_r <|
    (r_iconst (j := 19) (x := 1) rfl i32_1 rfl).trans <|
    (r_go (j := 20) (L' := [.ref r0, .int x1]) (S' := [.int ((hI (sI h (hR h r0 0) (Int32.toNatClampNeg (hI h r0 1)) x1) r0 1) + 1), .ref r0]) (h' := (sI h (hR h r0 0) (Int32.toNatClampNeg (hI h r0 1)) x1)) rfl rfl rfl rfl).trans <|
    r_guard (j := 21) (L' := [.ref r0, .int x1]) (S' := []) (h' := (sI (sI h (hR h r0 0) (Int32.toNatClampNeg (hI h r0 1)) x1) r0 1 ((hI (sI h (hR h r0 0) (Int32.toNatClampNeg (hI h r0 1)) x1) r0 1) + 1))) (p := hK (sI h (hR h r0 0) (Int32.toNatClampNeg (hI h r0 1)) x1) r0 = 6) rfl rfl rfl rfl (pfI rfl)
theorem b_Pg_add_21 {d : Nat} (x1 : Int32) (r0 : Nat) (h : AH) (Q : Option Value → AH → Prop) : Wp d P_Pg_add 21 [.ref r0, .int x1] [] h Q ↔ Q (none) h :=
    r_ret rfl rfl rfl
theorem e_Pg_add {d : Nat} (x1 : Int32) (r0 : Nat) (h : AH) (Q : Option Value → AH → Prop) : Cl (d + 1) q_Pg_add [.ref r0, .int x1] h Q ↔ hK h r0 = 6 ∧ Wp d P_Pg_add 0 [.ref r0, .int x1] [] h (fun r h' => rtk (none) r = true ∧ Q r h') :=
    (Cl_method (t := m_Pg_add) rfl).trans (and_congr_left fun _ => decide_eq_true_iff)
/-! PenThatJumps$Program.opens(I)V -/
theorem b_Pg_opens_0 {d : Nat} (x1 : Int32) (r0 : Nat) (h : AH) (Q : Option Value → AH → Prop) : Wp d P_Pg_opens 0 [.ref r0, .int x1] [] h Q ↔ (x1 < 0 → Wp d P_Pg_opens 13 [.ref r0, .int x1] [] h Q) ∧ (¬ (x1 < 0) → Wp d P_Pg_opens 2 [.ref r0, .int x1] [] h Q) :=
    (r_go (j := 1) (L' := [.ref r0, .int x1]) (S' := [.int x1]) (h' := h) rfl rfl rfl rfl).trans <|
    r_if (j := 2) rfl (cd_lt _ _) rfl
theorem b_Pg_opens_2 {d : Nat} (x1 : Int32) (r0 : Nat) (h : AH) (Q : Option Value → AH → Prop) : Wp d P_Pg_opens 2 [.ref r0, .int x1] [] h Q ↔ (hK h r0 = 6) ∧ ((20 ≤ hK h (hR h r0 3) ∧ hK h (hR h r0 3) ≠ 40 ∧ hK h (hR h r0 3) ≠ 42 ∧ hK h (hR h r0 3) ≤ 45 ∧ hK h (hR h r0 3) ≠ 43) ∧ (((Int32.ofNat (hN h (hR h r0 3))) ≤ x1 → Wp d P_Pg_opens 13 [.ref r0, .int x1] [] h Q) ∧ (¬ ((Int32.ofNat (hN h (hR h r0 3))) ≤ x1) → Wp d P_Pg_opens 7 [.ref r0, .int x1] [] h Q))) :=
    (r_go (j := 3) (L' := [.ref r0, .int x1]) (S' := [.int x1]) (h' := h) rfl rfl rfl rfl).trans <|
    (r_go (j := 4) (L' := [.ref r0, .int x1]) (S' := [.ref r0, .int x1]) (h' := h) rfl rfl rfl rfl).trans <|
    (r_guard (j := 5) (L' := [.ref r0, .int x1]) (S' := [.ref (hR h r0 3), .int x1]) (h' := h) (p := hK h r0 = 6) rfl rfl rfl rfl (decide_eq_true_iff)).trans <| and_r <|
    (r_guard (j := 6) (L' := [.ref r0, .int x1]) (S' := [.int (Int32.ofNat (hN h (hR h r0 3))), .int x1]) (h' := h) (p := 20 ≤ hK h (hR h r0 3) ∧ hK h (hR h r0 3) ≠ 40 ∧ hK h (hR h r0 3) ≠ 42 ∧ hK h (hR h r0 3) ≤ 45 ∧ hK h (hR h r0 3) ≠ 43) rfl rfl rfl rfl (decide_eq_true_iff)).trans <| and_r <|
    r_icmp (j := 7) rfl (cd_ge _ _) rfl
theorem b_Pg_opens_7 {d : Nat} (x1 : Int32) (r0 : Nat) (h : AH) (Q : Option Value → AH → Prop) : Wp d P_Pg_opens 7 [.ref r0, .int x1] [] h Q ↔ (hK h r0 = 6) ∧ ((hK h r0 = 6) ∧ ((hK h (hR h r0 3) = 20 ∧ ixo x1 (hN h (hR h r0 3)) = true) ∧ (Wp d P_Pg_opens 13 [.ref r0, .int x1] [] (sI h (hR h r0 3) (Int32.toNatClampNeg x1) (hI h r0 1)) Q))) :=
    (r_go (j := 8) (L' := [.ref r0, .int x1]) (S' := [.ref r0]) (h' := h) rfl rfl rfl rfl).trans <|
    (r_guard (j := 9) (L' := [.ref r0, .int x1]) (S' := [.ref (hR h r0 3)]) (h' := h) (p := hK h r0 = 6) rfl rfl rfl rfl (decide_eq_true_iff)).trans <| and_r <|
    (r_go (j := 10) (L' := [.ref r0, .int x1]) (S' := [.int x1, .ref (hR h r0 3)]) (h' := h) rfl rfl rfl rfl).trans <|
    (r_go (j := 11) (L' := [.ref r0, .int x1]) (S' := [.ref r0, .int x1, .ref (hR h r0 3)]) (h' := h) rfl rfl rfl rfl).trans <|
    (r_guard (j := 12) (L' := [.ref r0, .int x1]) (S' := [.int (hI h r0 1), .int x1, .ref (hR h r0 3)]) (h' := h) (p := hK h r0 = 6) rfl rfl rfl rfl (decide_eq_true_iff)).trans <| and_r <|
    r_guard (j := 13) (L' := [.ref r0, .int x1]) (S' := []) (h' := (sI h (hR h r0 3) (Int32.toNatClampNeg x1) (hI h r0 1))) (p := hK h (hR h r0 3) = 20 ∧ ixo x1 (hN h (hR h r0 3)) = true) rfl rfl rfl rfl (and2 decide_eq_true_iff Iff.rfl)
theorem b_Pg_opens_13 {d : Nat} (x1 : Int32) (r0 : Nat) (h : AH) (Q : Option Value → AH → Prop) : Wp d P_Pg_opens 13 [.ref r0, .int x1] [] h Q ↔ Q (none) h :=
    r_ret rfl rfl rfl
theorem e_Pg_opens {d : Nat} (x1 : Int32) (r0 : Nat) (h : AH) (Q : Option Value → AH → Prop) : Cl (d + 1) q_Pg_opens [.ref r0, .int x1] h Q ↔ hK h r0 = 6 ∧ Wp d P_Pg_opens 0 [.ref r0, .int x1] [] h (fun r h' => rtk (none) r = true ∧ Q r h') :=
    (Cl_method (t := m_Pg_opens) rfl).trans (and_congr_left fun _ => decide_eq_true_iff)
/-! PenThatJumps$Program.close(I)V -/
theorem b_Pg_close_0 {d : Nat} (x1 : Int32) (r0 : Nat) (h : AH) (Q : Option Value → AH → Prop) : Wp d P_Pg_close 0 [.ref r0, .int x1] [] h Q ↔ (x1 < 0 → Wp d P_Pg_close 19 [.ref r0, .int x1] [] h Q) ∧ (¬ (x1 < 0) → Wp d P_Pg_close 2 [.ref r0, .int x1] [] h Q) :=
    (r_go (j := 1) (L' := [.ref r0, .int x1]) (S' := [.int x1]) (h' := h) rfl rfl rfl rfl).trans <|
    r_if (j := 2) rfl (cd_lt _ _) rfl
theorem b_Pg_close_2 {d : Nat} (x1 : Int32) (r0 : Nat) (h : AH) (Q : Option Value → AH → Prop) : Wp d P_Pg_close 2 [.ref r0, .int x1] [] h Q ↔ (hK h r0 = 6) ∧ ((20 ≤ hK h (hR h r0 4) ∧ hK h (hR h r0 4) ≠ 40 ∧ hK h (hR h r0 4) ≠ 42 ∧ hK h (hR h r0 4) ≤ 45 ∧ hK h (hR h r0 4) ≠ 43) ∧ (((Int32.ofNat (hN h (hR h r0 4))) ≤ x1 → Wp d P_Pg_close 19 [.ref r0, .int x1] [] h Q) ∧ (¬ ((Int32.ofNat (hN h (hR h r0 4))) ≤ x1) → Wp d P_Pg_close 7 [.ref r0, .int x1] [] h Q))) :=
    (r_go (j := 3) (L' := [.ref r0, .int x1]) (S' := [.int x1]) (h' := h) rfl rfl rfl rfl).trans <|
    (r_go (j := 4) (L' := [.ref r0, .int x1]) (S' := [.ref r0, .int x1]) (h' := h) rfl rfl rfl rfl).trans <|
    (r_guard (j := 5) (L' := [.ref r0, .int x1]) (S' := [.ref (hR h r0 4), .int x1]) (h' := h) (p := hK h r0 = 6) rfl rfl rfl rfl (decide_eq_true_iff)).trans <| and_r <|
    (r_guard (j := 6) (L' := [.ref r0, .int x1]) (S' := [.int (Int32.ofNat (hN h (hR h r0 4))), .int x1]) (h' := h) (p := 20 ≤ hK h (hR h r0 4) ∧ hK h (hR h r0 4) ≠ 40 ∧ hK h (hR h r0 4) ≠ 42 ∧ hK h (hR h r0 4) ≤ 45 ∧ hK h (hR h r0 4) ≠ 43) rfl rfl rfl rfl (decide_eq_true_iff)).trans <| and_r <|
    r_icmp (j := 7) rfl (cd_ge _ _) rfl
theorem b_Pg_close_7 {d : Nat} (x1 : Int32) (r0 : Nat) (h : AH) (Q : Option Value → AH → Prop) : Wp d P_Pg_close 7 [.ref r0, .int x1] [] h Q ↔ (hK h r0 = 6) ∧ ((hK h r0 = 6) ∧ ((hK h (hR h r0 4) = 20 ∧ ixo x1 (hN h (hR h r0 4)) = true) ∧ ((hK (sI h (hR h r0 4) (Int32.toNatClampNeg x1) (hI h r0 1)) r0 = 6) ∧ ((hK (sI h (hR h r0 4) (Int32.toNatClampNeg x1) (hI h r0 1)) r0 = 6) ∧ (Wp d P_Pg_close 19 [.ref r0, .int x1] [] (sI (sI h (hR h r0 4) (Int32.toNatClampNeg x1) (hI h r0 1)) r0 2 ((hI (sI h (hR h r0 4) (Int32.toNatClampNeg x1) (hI h r0 1)) r0 2) + 1)) Q))))) :=
    (r_go (j := 8) (L' := [.ref r0, .int x1]) (S' := [.ref r0]) (h' := h) rfl rfl rfl rfl).trans <|
    (r_guard (j := 9) (L' := [.ref r0, .int x1]) (S' := [.ref (hR h r0 4)]) (h' := h) (p := hK h r0 = 6) rfl rfl rfl rfl (decide_eq_true_iff)).trans <| and_r <|
    (r_go (j := 10) (L' := [.ref r0, .int x1]) (S' := [.int x1, .ref (hR h r0 4)]) (h' := h) rfl rfl rfl rfl).trans <|
    (r_go (j := 11) (L' := [.ref r0, .int x1]) (S' := [.ref r0, .int x1, .ref (hR h r0 4)]) (h' := h) rfl rfl rfl rfl).trans <|
    (r_guard (j := 12) (L' := [.ref r0, .int x1]) (S' := [.int (hI h r0 1), .int x1, .ref (hR h r0 4)]) (h' := h) (p := hK h r0 = 6) rfl rfl rfl rfl (decide_eq_true_iff)).trans <| and_r <|
    (r_guard (j := 13) (L' := [.ref r0, .int x1]) (S' := []) (h' := (sI h (hR h r0 4) (Int32.toNatClampNeg x1) (hI h r0 1))) (p := hK h (hR h r0 4) = 20 ∧ ixo x1 (hN h (hR h r0 4)) = true) rfl rfl rfl rfl (and2 decide_eq_true_iff Iff.rfl)).trans <| and_r <|
    (r_go (j := 14) (L' := [.ref r0, .int x1]) (S' := [.ref r0]) (h' := (sI h (hR h r0 4) (Int32.toNatClampNeg x1) (hI h r0 1))) rfl rfl rfl rfl).trans <|
    (r_go (j := 15) (L' := [.ref r0, .int x1]) (S' := [.ref r0, .ref r0]) (h' := (sI h (hR h r0 4) (Int32.toNatClampNeg x1) (hI h r0 1))) rfl rfl rfl rfl).trans <|
    (r_guard (j := 16) (L' := [.ref r0, .int x1]) (S' := [.int (hI (sI h (hR h r0 4) (Int32.toNatClampNeg x1) (hI h r0 1)) r0 2), .ref r0]) (h' := (sI h (hR h r0 4) (Int32.toNatClampNeg x1) (hI h r0 1))) (p := hK (sI h (hR h r0 4) (Int32.toNatClampNeg x1) (hI h r0 1)) r0 = 6) rfl rfl rfl rfl (decide_eq_true_iff)).trans <| and_r <|
    (r_iconst (j := 17) (x := 1) rfl i32_1 rfl).trans <|
    (r_go (j := 18) (L' := [.ref r0, .int x1]) (S' := [.int ((hI (sI h (hR h r0 4) (Int32.toNatClampNeg x1) (hI h r0 1)) r0 2) + 1), .ref r0]) (h' := (sI h (hR h r0 4) (Int32.toNatClampNeg x1) (hI h r0 1))) rfl rfl rfl rfl).trans <|
    r_guard (j := 19) (L' := [.ref r0, .int x1]) (S' := []) (h' := (sI (sI h (hR h r0 4) (Int32.toNatClampNeg x1) (hI h r0 1)) r0 2 ((hI (sI h (hR h r0 4) (Int32.toNatClampNeg x1) (hI h r0 1)) r0 2) + 1))) (p := hK (sI h (hR h r0 4) (Int32.toNatClampNeg x1) (hI h r0 1)) r0 = 6) rfl rfl rfl rfl (pfI rfl)
theorem b_Pg_close_19 {d : Nat} (x1 : Int32) (r0 : Nat) (h : AH) (Q : Option Value → AH → Prop) : Wp d P_Pg_close 19 [.ref r0, .int x1] [] h Q ↔ Q (none) h :=
    r_ret rfl rfl rfl
theorem e_Pg_close {d : Nat} (x1 : Int32) (r0 : Nat) (h : AH) (Q : Option Value → AH → Prop) : Cl (d + 1) q_Pg_close [.ref r0, .int x1] h Q ↔ hK h r0 = 6 ∧ Wp d P_Pg_close 0 [.ref r0, .int x1] [] h (fun r h' => rtk (none) r = true ∧ Q r h') :=
    (Cl_method (t := m_Pg_close) rfl).trans (and_congr_left fun _ => decide_eq_true_iff)
/-! PenThatJumps$Program.hasLine(I)Z -/
theorem b_Pg_hasLine_0 {d : Nat} (x1 : Int32) (r0 : Nat) (h : AH) (Q : Option Value → AH → Prop) : Wp d P_Pg_hasLine 0 [.ref r0, .int x1] [] h Q ↔ (x1 < 0 → Wp d P_Pg_hasLine 23 [.ref r0, .int x1] [] h Q) ∧ (¬ (x1 < 0) → Wp d P_Pg_hasLine 2 [.ref r0, .int x1] [] h Q) :=
    (r_go (j := 1) (L' := [.ref r0, .int x1]) (S' := [.int x1]) (h' := h) rfl rfl rfl rfl).trans <|
    r_if (j := 2) rfl (cd_lt _ _) rfl
theorem b_Pg_hasLine_2 {d : Nat} (x1 : Int32) (r0 : Nat) (h : AH) (Q : Option Value → AH → Prop) : Wp d P_Pg_hasLine 2 [.ref r0, .int x1] [] h Q ↔ (hK h r0 = 6) ∧ ((20 ≤ hK h (hR h r0 4) ∧ hK h (hR h r0 4) ≠ 40 ∧ hK h (hR h r0 4) ≠ 42 ∧ hK h (hR h r0 4) ≤ 45 ∧ hK h (hR h r0 4) ≠ 43) ∧ (((Int32.ofNat (hN h (hR h r0 4))) ≤ x1 → Wp d P_Pg_hasLine 23 [.ref r0, .int x1] [] h Q) ∧ (¬ ((Int32.ofNat (hN h (hR h r0 4))) ≤ x1) → Wp d P_Pg_hasLine 7 [.ref r0, .int x1] [] h Q))) :=
    (r_go (j := 3) (L' := [.ref r0, .int x1]) (S' := [.int x1]) (h' := h) rfl rfl rfl rfl).trans <|
    (r_go (j := 4) (L' := [.ref r0, .int x1]) (S' := [.ref r0, .int x1]) (h' := h) rfl rfl rfl rfl).trans <|
    (r_guard (j := 5) (L' := [.ref r0, .int x1]) (S' := [.ref (hR h r0 4), .int x1]) (h' := h) (p := hK h r0 = 6) rfl rfl rfl rfl (decide_eq_true_iff)).trans <| and_r <|
    (r_guard (j := 6) (L' := [.ref r0, .int x1]) (S' := [.int (Int32.ofNat (hN h (hR h r0 4))), .int x1]) (h' := h) (p := 20 ≤ hK h (hR h r0 4) ∧ hK h (hR h r0 4) ≠ 40 ∧ hK h (hR h r0 4) ≠ 42 ∧ hK h (hR h r0 4) ≤ 45 ∧ hK h (hR h r0 4) ≠ 43) rfl rfl rfl rfl (decide_eq_true_iff)).trans <| and_r <|
    r_icmp (j := 7) rfl (cd_ge _ _) rfl
theorem b_Pg_hasLine_7 {d : Nat} (x1 : Int32) (r0 : Nat) (h : AH) (Q : Option Value → AH → Prop) : Wp d P_Pg_hasLine 7 [.ref r0, .int x1] [] h Q ↔ (hK h r0 = 6) ∧ ((20 ≤ hK h (hR h r0 3) ∧ hK h (hR h r0 3) ≠ 40 ∧ hK h (hR h r0 3) ≠ 42 ∧ hK h (hR h r0 3) ≤ 45 ∧ hK h (hR h r0 3) ≠ 43) ∧ (((Int32.ofNat (hN h (hR h r0 3))) ≤ x1 → Wp d P_Pg_hasLine 23 [.ref r0, .int x1] [] h Q) ∧ (¬ ((Int32.ofNat (hN h (hR h r0 3))) ≤ x1) → Wp d P_Pg_hasLine 12 [.ref r0, .int x1] [] h Q))) :=
    (r_go (j := 8) (L' := [.ref r0, .int x1]) (S' := [.int x1]) (h' := h) rfl rfl rfl rfl).trans <|
    (r_go (j := 9) (L' := [.ref r0, .int x1]) (S' := [.ref r0, .int x1]) (h' := h) rfl rfl rfl rfl).trans <|
    (r_guard (j := 10) (L' := [.ref r0, .int x1]) (S' := [.ref (hR h r0 3), .int x1]) (h' := h) (p := hK h r0 = 6) rfl rfl rfl rfl (decide_eq_true_iff)).trans <| and_r <|
    (r_guard (j := 11) (L' := [.ref r0, .int x1]) (S' := [.int (Int32.ofNat (hN h (hR h r0 3))), .int x1]) (h' := h) (p := 20 ≤ hK h (hR h r0 3) ∧ hK h (hR h r0 3) ≠ 40 ∧ hK h (hR h r0 3) ≠ 42 ∧ hK h (hR h r0 3) ≤ 45 ∧ hK h (hR h r0 3) ≠ 43) rfl rfl rfl rfl (decide_eq_true_iff)).trans <| and_r <|
    r_icmp (j := 12) rfl (cd_ge _ _) rfl
theorem b_Pg_hasLine_12 {d : Nat} (x1 : Int32) (r0 : Nat) (h : AH) (Q : Option Value → AH → Prop) : Wp d P_Pg_hasLine 12 [.ref r0, .int x1] [] h Q ↔ (hK h r0 = 6) ∧ ((hK h (hR h r0 4) ∈ [20, 44] ∧ ixo x1 (hN h (hR h r0 4)) = true) ∧ ((hK h r0 = 6) ∧ ((hK h (hR h r0 3) ∈ [20, 44] ∧ ixo x1 (hN h (hR h r0 3)) = true) ∧ (((hI h (hR h r0 4) (Int32.toNatClampNeg x1)) ≤ (hI h (hR h r0 3) (Int32.toNatClampNeg x1)) → Wp d P_Pg_hasLine 23 [.ref r0, .int x1] [] h Q) ∧ (¬ ((hI h (hR h r0 4) (Int32.toNatClampNeg x1)) ≤ (hI h (hR h r0 3) (Int32.toNatClampNeg x1))) → Wp d P_Pg_hasLine 21 [.ref r0, .int x1] [] h Q))))) :=
    (r_go (j := 13) (L' := [.ref r0, .int x1]) (S' := [.ref r0]) (h' := h) rfl rfl rfl rfl).trans <|
    (r_guard (j := 14) (L' := [.ref r0, .int x1]) (S' := [.ref (hR h r0 4)]) (h' := h) (p := hK h r0 = 6) rfl rfl rfl rfl (decide_eq_true_iff)).trans <| and_r <|
    (r_go (j := 15) (L' := [.ref r0, .int x1]) (S' := [.int x1, .ref (hR h r0 4)]) (h' := h) rfl rfl rfl rfl).trans <|
    (r_guard (j := 16) (L' := [.ref r0, .int x1]) (S' := [.int (hI h (hR h r0 4) (Int32.toNatClampNeg x1))]) (h' := h) (p := hK h (hR h r0 4) ∈ [20, 44] ∧ ixo x1 (hN h (hR h r0 4)) = true) rfl rfl rfl rfl (and2 decide_eq_true_iff Iff.rfl)).trans <| and_r <|
    (r_go (j := 17) (L' := [.ref r0, .int x1]) (S' := [.ref r0, .int (hI h (hR h r0 4) (Int32.toNatClampNeg x1))]) (h' := h) rfl rfl rfl rfl).trans <|
    (r_guard (j := 18) (L' := [.ref r0, .int x1]) (S' := [.ref (hR h r0 3), .int (hI h (hR h r0 4) (Int32.toNatClampNeg x1))]) (h' := h) (p := hK h r0 = 6) rfl rfl rfl rfl (decide_eq_true_iff)).trans <| and_r <|
    (r_go (j := 19) (L' := [.ref r0, .int x1]) (S' := [.int x1, .ref (hR h r0 3), .int (hI h (hR h r0 4) (Int32.toNatClampNeg x1))]) (h' := h) rfl rfl rfl rfl).trans <|
    (r_guard (j := 20) (L' := [.ref r0, .int x1]) (S' := [.int (hI h (hR h r0 3) (Int32.toNatClampNeg x1)), .int (hI h (hR h r0 4) (Int32.toNatClampNeg x1))]) (h' := h) (p := hK h (hR h r0 3) ∈ [20, 44] ∧ ixo x1 (hN h (hR h r0 3)) = true) rfl rfl rfl rfl (and2 decide_eq_true_iff Iff.rfl)).trans <| and_r <|
    r_icmp (j := 21) rfl (cd_le _ _) rfl
theorem b_Pg_hasLine_21 {d : Nat} (x1 : Int32) (r0 : Nat) (h : AH) (Q : Option Value → AH → Prop) : Wp d P_Pg_hasLine 21 [.ref r0, .int x1] [] h Q ↔ Wp d P_Pg_hasLine 24 [.ref r0, .int x1] [.int 1] h Q :=
    (r_iconst (j := 22) (x := 1) rfl i32_1 rfl).trans <|
    r_go (j := 24) (L' := [.ref r0, .int x1]) (S' := [.int 1]) (h' := h) rfl rfl rfl rfl
theorem b_Pg_hasLine_23 {d : Nat} (x1 : Int32) (r0 : Nat) (h : AH) (Q : Option Value → AH → Prop) : Wp d P_Pg_hasLine 23 [.ref r0, .int x1] [] h Q ↔ Wp d P_Pg_hasLine 24 [.ref r0, .int x1] [.int 0] h Q :=
    r_iconst (j := 24) (x := 0) rfl i32_0 rfl
theorem b_Pg_hasLine_24 {d : Nat} (x1 s0 : Int32) (r0 : Nat) (h : AH) (Q : Option Value → AH → Prop) : Wp d P_Pg_hasLine 24 [.ref r0, .int x1] [.int s0] h Q ↔ Q (some (.int s0)) h :=
    r_ret rfl rfl rfl
theorem e_Pg_hasLine {d : Nat} (x1 : Int32) (r0 : Nat) (h : AH) (Q : Option Value → AH → Prop) : Cl (d + 1) q_Pg_hasLine [.ref r0, .int x1] h Q ↔ hK h r0 = 6 ∧ Wp d P_Pg_hasLine 0 [.ref r0, .int x1] [] h (fun r h' => rtk (some .boolean) r = true ∧ Q r h') :=
    (Cl_method (t := m_Pg_hasLine) rfl).trans (and_congr_left fun _ => decide_eq_true_iff)
/-! PenThatJumps$Program.become(LPenThatJumps$Program;)V -/
theorem b_Pg_become_0 {d : Nat} (r0 r1 : Nat) (h : AH) (Q : Option Value → AH → Prop) : Wp d P_Pg_become 0 [.ref r0, .ref r1, .null] [] h Q ↔ (hK h r1 = 6) ∧ (((hI h r1 1) < 0 → Wp d P_Pg_become 9 [.ref r0, .ref r1, .null] [] h Q) ∧ (¬ ((hI h r1 1) < 0) → Wp d P_Pg_become 3 [.ref r0, .ref r1, .null] [] h Q)) :=
    (r_go (j := 1) (L' := [.ref r0, .ref r1, .null]) (S' := [.ref r1]) (h' := h) rfl rfl rfl rfl).trans <|
    (r_guard (j := 2) (L' := [.ref r0, .ref r1, .null]) (S' := [.int (hI h r1 1)]) (h' := h) (p := hK h r1 = 6) rfl rfl rfl rfl (decide_eq_true_iff)).trans <| and_r <|
    r_if (j := 3) rfl (cd_lt _ _) rfl
theorem b_Pg_become_3 {d : Nat} (r0 r1 : Nat) (h : AH) (Q : Option Value → AH → Prop) : Wp d P_Pg_become 3 [.ref r0, .ref r1, .null] [] h Q ↔ (hK h r1 = 6) ∧ ((hK h r1 = 6) ∧ ((20 ≤ hK h (hR h r1 0) ∧ hK h (hR h r1 0) ≠ 40 ∧ hK h (hR h r1 0) ≠ 42 ∧ hK h (hR h r1 0) ≤ 45 ∧ hK h (hR h r1 0) ≠ 43) ∧ (((hI h r1 1) ≤ (Int32.ofNat (hN h (hR h r1 0))) → Wp d P_Pg_become 10 [.ref r0, .ref r1, .null] [] h Q) ∧ (¬ ((hI h r1 1) ≤ (Int32.ofNat (hN h (hR h r1 0)))) → Wp d P_Pg_become 9 [.ref r0, .ref r1, .null] [] h Q)))) :=
    (r_go (j := 4) (L' := [.ref r0, .ref r1, .null]) (S' := [.ref r1]) (h' := h) rfl rfl rfl rfl).trans <|
    (r_guard (j := 5) (L' := [.ref r0, .ref r1, .null]) (S' := [.int (hI h r1 1)]) (h' := h) (p := hK h r1 = 6) rfl rfl rfl rfl (decide_eq_true_iff)).trans <| and_r <|
    (r_go (j := 6) (L' := [.ref r0, .ref r1, .null]) (S' := [.ref r1, .int (hI h r1 1)]) (h' := h) rfl rfl rfl rfl).trans <|
    (r_guard (j := 7) (L' := [.ref r0, .ref r1, .null]) (S' := [.ref (hR h r1 0), .int (hI h r1 1)]) (h' := h) (p := hK h r1 = 6) rfl rfl rfl rfl (decide_eq_true_iff)).trans <| and_r <|
    (r_guard (j := 8) (L' := [.ref r0, .ref r1, .null]) (S' := [.int (Int32.ofNat (hN h (hR h r1 0))), .int (hI h r1 1)]) (h' := h) (p := 20 ≤ hK h (hR h r1 0) ∧ hK h (hR h r1 0) ≠ 40 ∧ hK h (hR h r1 0) ≠ 42 ∧ hK h (hR h r1 0) ≤ 45 ∧ hK h (hR h r1 0) ≠ 43) rfl rfl rfl rfl (decide_eq_true_iff)).trans <| and_r <|
    r_icmp (j := 9) rfl (cd_le _ _) rfl
theorem b_Pg_become_9 {d : Nat} (r0 r1 : Nat) (h : AH) (Q : Option Value → AH → Prop) : Wp d P_Pg_become 9 [.ref r0, .ref r1, .null] [] h Q ↔ Q (none) h :=
    r_ret rfl rfl rfl
theorem b_Pg_become_10 {d : Nat} (r0 r1 : Nat) (h : AH) (Q : Option Value → AH → Prop) : Wp d P_Pg_become 10 [.ref r0, .ref r1, .null] [] h Q ↔ (hK h r1 = 6) ∧ ((hK h r1 = 6) ∧ (Cl d q_Ar_copyOf [.ref (hR h r1 0), .int (hI h r1 1)] h (fun r h' => Wp d P_Pg_become 16 [.ref r0, .ref r1, .null] (r.toList ++ [.ref r0]) h' Q))) :=
    (r_go (j := 11) (L' := [.ref r0, .ref r1, .null]) (S' := [.ref r0]) (h' := h) rfl rfl rfl rfl).trans <|
    (r_go (j := 12) (L' := [.ref r0, .ref r1, .null]) (S' := [.ref r1, .ref r0]) (h' := h) rfl rfl rfl rfl).trans <|
    (r_guard (j := 13) (L' := [.ref r0, .ref r1, .null]) (S' := [.ref (hR h r1 0), .ref r0]) (h' := h) (p := hK h r1 = 6) rfl rfl rfl rfl (decide_eq_true_iff)).trans <| and_r <|
    (r_go (j := 14) (L' := [.ref r0, .ref r1, .null]) (S' := [.ref r1, .ref (hR h r1 0), .ref r0]) (h' := h) rfl rfl rfl rfl).trans <|
    (r_guard (j := 15) (L' := [.ref r0, .ref r1, .null]) (S' := [.int (hI h r1 1), .ref (hR h r1 0), .ref r0]) (h' := h) (p := hK h r1 = 6) rfl rfl rfl rfl (decide_eq_true_iff)).trans <| and_r <|
    r_call (j := 16) (a := [.ref (hR h r1 0), .int (hI h r1 1)]) (S' := [.ref r0]) rfl rfl rfl rfl rfl rfl rfl
theorem b_Pg_become_16 {d : Nat} (r0 r1 t0 t1 : Nat) (h : AH) (Q : Option Value → AH → Prop) : Wp d P_Pg_become 16 [.ref r0, .ref r1, .null] [.ref t0, .ref t1] h Q ↔ (hK h t1 = 6) ∧ ((hK (sR h t1 0 t0) r1 = 6) ∧ ((hK (sR h t1 0 t0) r0 = 6) ∧ ((hK (sI (sR h t1 0 t0) r0 1 (hI (sR h t1 0 t0) r1 1)) r1 = 6) ∧ ((hK (sI (sR h t1 0 t0) r0 1 (hI (sR h t1 0 t0) r1 1)) r0 = 6) ∧ (Wp d P_Pg_become 27 [.ref r0, .ref r1, .int 0] [] (sI (sI (sR h t1 0 t0) r0 1 (hI (sR h t1 0 t0) r1 1)) r0 2 (hI (sI (sR h t1 0 t0) r0 1 (hI (sR h t1 0 t0) r1 1)) r1 2)) Q))))) :=
    (r_guard (j := 17) (L' := [.ref r0, .ref r1, .null]) (S' := []) (h' := (sR h t1 0 t0)) (p := hK h t1 = 6) rfl rfl rfl rfl (pfR rfl)).trans <| and_r <|
    (r_go (j := 18) (L' := [.ref r0, .ref r1, .null]) (S' := [.ref r0]) (h' := (sR h t1 0 t0)) rfl rfl rfl rfl).trans <|
    (r_go (j := 19) (L' := [.ref r0, .ref r1, .null]) (S' := [.ref r1, .ref r0]) (h' := (sR h t1 0 t0)) rfl rfl rfl rfl).trans <|
    (r_guard (j := 20) (L' := [.ref r0, .ref r1, .null]) (S' := [.int (hI (sR h t1 0 t0) r1 1), .ref r0]) (h' := (sR h t1 0 t0)) (p := hK (sR h t1 0 t0) r1 = 6) rfl rfl rfl rfl (decide_eq_true_iff)).trans <| and_r <|
    (r_guard (j := 21) (L' := [.ref r0, .ref r1, .null]) (S' := []) (h' := (sI (sR h t1 0 t0) r0 1 (hI (sR h t1 0 t0) r1 1))) (p := hK (sR h t1 0 t0) r0 = 6) rfl rfl rfl rfl (pfI rfl)).trans <| and_r <|
    (r_go (j := 22) (L' := [.ref r0, .ref r1, .null]) (S' := [.ref r0]) (h' := (sI (sR h t1 0 t0) r0 1 (hI (sR h t1 0 t0) r1 1))) rfl rfl rfl rfl).trans <|
    (r_go (j := 23) (L' := [.ref r0, .ref r1, .null]) (S' := [.ref r1, .ref r0]) (h' := (sI (sR h t1 0 t0) r0 1 (hI (sR h t1 0 t0) r1 1))) rfl rfl rfl rfl).trans <|
    (r_guard (j := 24) (L' := [.ref r0, .ref r1, .null]) (S' := [.int (hI (sI (sR h t1 0 t0) r0 1 (hI (sR h t1 0 t0) r1 1)) r1 2), .ref r0]) (h' := (sI (sR h t1 0 t0) r0 1 (hI (sR h t1 0 t0) r1 1))) (p := hK (sI (sR h t1 0 t0) r0 1 (hI (sR h t1 0 t0) r1 1)) r1 = 6) rfl rfl rfl rfl (decide_eq_true_iff)).trans <| and_r <|
    (r_guard (j := 25) (L' := [.ref r0, .ref r1, .null]) (S' := []) (h' := (sI (sI (sR h t1 0 t0) r0 1 (hI (sR h t1 0 t0) r1 1)) r0 2 (hI (sI (sR h t1 0 t0) r0 1 (hI (sR h t1 0 t0) r1 1)) r1 2))) (p := hK (sI (sR h t1 0 t0) r0 1 (hI (sR h t1 0 t0) r1 1)) r0 = 6) rfl rfl rfl rfl (pfI rfl)).trans <| and_r <|
    (r_iconst (j := 26) (x := 0) rfl i32_0 rfl).trans <|
    r_go (j := 27) (L' := [.ref r0, .ref r1, .int 0]) (S' := []) (h' := (sI (sI (sR h t1 0 t0) r0 1 (hI (sR h t1 0 t0) r1 1)) r0 2 (hI (sI (sR h t1 0 t0) r0 1 (hI (sR h t1 0 t0) r1 1)) r1 2))) rfl rfl rfl rfl
theorem b_Pg_become_27 {d : Nat} (x2 : Int32) (r0 r1 : Nat) (h : AH) (Q : Option Value → AH → Prop) : Wp d P_Pg_become 27 [.ref r0, .ref r1, .int x2] [] h Q ↔ (hK h r0 = 6) ∧ ((20 ≤ hK h (hR h r0 3) ∧ hK h (hR h r0 3) ≠ 40 ∧ hK h (hR h r0 3) ≠ 42 ∧ hK h (hR h r0 3) ≤ 45 ∧ hK h (hR h r0 3) ≠ 43) ∧ (((Int32.ofNat (hN h (hR h r0 3))) ≤ x2 → Wp d P_Pg_become 69 [.ref r0, .ref r1, .int x2] [] h Q) ∧ (¬ ((Int32.ofNat (hN h (hR h r0 3))) ≤ x2) → Wp d P_Pg_become 32 [.ref r0, .ref r1, .int x2] [] h Q))) :=
    (r_go (j := 28) (L' := [.ref r0, .ref r1, .int x2]) (S' := [.int x2]) (h' := h) rfl rfl rfl rfl).trans <|
    (r_go (j := 29) (L' := [.ref r0, .ref r1, .int x2]) (S' := [.ref r0, .int x2]) (h' := h) rfl rfl rfl rfl).trans <|
    (r_guard (j := 30) (L' := [.ref r0, .ref r1, .int x2]) (S' := [.ref (hR h r0 3), .int x2]) (h' := h) (p := hK h r0 = 6) rfl rfl rfl rfl (decide_eq_true_iff)).trans <| and_r <|
    (r_guard (j := 31) (L' := [.ref r0, .ref r1, .int x2]) (S' := [.int (Int32.ofNat (hN h (hR h r0 3))), .int x2]) (h' := h) (p := 20 ≤ hK h (hR h r0 3) ∧ hK h (hR h r0 3) ≠ 40 ∧ hK h (hR h r0 3) ≠ 42 ∧ hK h (hR h r0 3) ≤ 45 ∧ hK h (hR h r0 3) ≠ 43) rfl rfl rfl rfl (decide_eq_true_iff)).trans <| and_r <|
    r_icmp (j := 32) rfl (cd_ge _ _) rfl
theorem b_Pg_become_32 {d : Nat} (x2 : Int32) (r0 r1 : Nat) (h : AH) (Q : Option Value → AH → Prop) : Wp d P_Pg_become 32 [.ref r0, .ref r1, .int x2] [] h Q ↔ (hK h r0 = 6) ∧ ((20 ≤ hK h (hR h r0 4) ∧ hK h (hR h r0 4) ≠ 40 ∧ hK h (hR h r0 4) ≠ 42 ∧ hK h (hR h r0 4) ≤ 45 ∧ hK h (hR h r0 4) ≠ 43) ∧ (((Int32.ofNat (hN h (hR h r0 4))) ≤ x2 → Wp d P_Pg_become 69 [.ref r0, .ref r1, .int x2] [] h Q) ∧ (¬ ((Int32.ofNat (hN h (hR h r0 4))) ≤ x2) → Wp d P_Pg_become 37 [.ref r0, .ref r1, .int x2] [] h Q))) :=
    (r_go (j := 33) (L' := [.ref r0, .ref r1, .int x2]) (S' := [.int x2]) (h' := h) rfl rfl rfl rfl).trans <|
    (r_go (j := 34) (L' := [.ref r0, .ref r1, .int x2]) (S' := [.ref r0, .int x2]) (h' := h) rfl rfl rfl rfl).trans <|
    (r_guard (j := 35) (L' := [.ref r0, .ref r1, .int x2]) (S' := [.ref (hR h r0 4), .int x2]) (h' := h) (p := hK h r0 = 6) rfl rfl rfl rfl (decide_eq_true_iff)).trans <| and_r <|
    (r_guard (j := 36) (L' := [.ref r0, .ref r1, .int x2]) (S' := [.int (Int32.ofNat (hN h (hR h r0 4))), .int x2]) (h' := h) (p := 20 ≤ hK h (hR h r0 4) ∧ hK h (hR h r0 4) ≠ 40 ∧ hK h (hR h r0 4) ≠ 42 ∧ hK h (hR h r0 4) ≤ 45 ∧ hK h (hR h r0 4) ≠ 43) rfl rfl rfl rfl (decide_eq_true_iff)).trans <| and_r <|
    r_icmp (j := 37) rfl (cd_ge _ _) rfl
theorem b_Pg_become_37 {d : Nat} (x2 : Int32) (r0 r1 : Nat) (h : AH) (Q : Option Value → AH → Prop) : Wp d P_Pg_become 37 [.ref r0, .ref r1, .int x2] [] h Q ↔ (hK h r0 = 6) ∧ ((hK h r1 = 6) ∧ ((20 ≤ hK h (hR h r1 3) ∧ hK h (hR h r1 3) ≠ 40 ∧ hK h (hR h r1 3) ≠ 42 ∧ hK h (hR h r1 3) ≤ 45 ∧ hK h (hR h r1 3) ≠ 43) ∧ (((Int32.ofNat (hN h (hR h r1 3))) ≤ x2 → Wp d P_Pg_become 50 [.ref r0, .ref r1, .int x2] [.int x2, .ref (hR h r0 3)] h Q) ∧ (¬ ((Int32.ofNat (hN h (hR h r1 3))) ≤ x2) → Wp d P_Pg_become 45 [.ref r0, .ref r1, .int x2] [.int x2, .ref (hR h r0 3)] h Q)))) :=
    (r_go (j := 38) (L' := [.ref r0, .ref r1, .int x2]) (S' := [.ref r0]) (h' := h) rfl rfl rfl rfl).trans <|
    (r_guard (j := 39) (L' := [.ref r0, .ref r1, .int x2]) (S' := [.ref (hR h r0 3)]) (h' := h) (p := hK h r0 = 6) rfl rfl rfl rfl (decide_eq_true_iff)).trans <| and_r <|
    (r_go (j := 40) (L' := [.ref r0, .ref r1, .int x2]) (S' := [.int x2, .ref (hR h r0 3)]) (h' := h) rfl rfl rfl rfl).trans <|
    (r_go (j := 41) (L' := [.ref r0, .ref r1, .int x2]) (S' := [.int x2, .int x2, .ref (hR h r0 3)]) (h' := h) rfl rfl rfl rfl).trans <|
    (r_go (j := 42) (L' := [.ref r0, .ref r1, .int x2]) (S' := [.ref r1, .int x2, .int x2, .ref (hR h r0 3)]) (h' := h) rfl rfl rfl rfl).trans <|
    (r_guard (j := 43) (L' := [.ref r0, .ref r1, .int x2]) (S' := [.ref (hR h r1 3), .int x2, .int x2, .ref (hR h r0 3)]) (h' := h) (p := hK h r1 = 6) rfl rfl rfl rfl (decide_eq_true_iff)).trans <| and_r <|
    (r_guard (j := 44) (L' := [.ref r0, .ref r1, .int x2]) (S' := [.int (Int32.ofNat (hN h (hR h r1 3))), .int x2, .int x2, .ref (hR h r0 3)]) (h' := h) (p := 20 ≤ hK h (hR h r1 3) ∧ hK h (hR h r1 3) ≠ 40 ∧ hK h (hR h r1 3) ≠ 42 ∧ hK h (hR h r1 3) ≤ 45 ∧ hK h (hR h r1 3) ≠ 43) rfl rfl rfl rfl (decide_eq_true_iff)).trans <| and_r <|
    r_icmp (j := 45) rfl (cd_ge _ _) rfl
theorem b_Pg_become_45 {d : Nat} (x2 s0 : Int32) (r0 r1 t1 : Nat) (h : AH) (Q : Option Value → AH → Prop) : Wp d P_Pg_become 45 [.ref r0, .ref r1, .int x2] [.int s0, .ref t1] h Q ↔ (hK h r1 = 6) ∧ ((hK h (hR h r1 3) ∈ [20, 44] ∧ ixo x2 (hN h (hR h r1 3)) = true) ∧ (Wp d P_Pg_become 51 [.ref r0, .ref r1, .int x2] [.int (hI h (hR h r1 3) (Int32.toNatClampNeg x2)), .int s0, .ref t1] h Q)) :=
    (r_go (j := 46) (L' := [.ref r0, .ref r1, .int x2]) (S' := [.ref r1, .int s0, .ref t1]) (h' := h) rfl rfl rfl rfl).trans <|
    (r_guard (j := 47) (L' := [.ref r0, .ref r1, .int x2]) (S' := [.ref (hR h r1 3), .int s0, .ref t1]) (h' := h) (p := hK h r1 = 6) rfl rfl rfl rfl (decide_eq_true_iff)).trans <| and_r <|
    (r_go (j := 48) (L' := [.ref r0, .ref r1, .int x2]) (S' := [.int x2, .ref (hR h r1 3), .int s0, .ref t1]) (h' := h) rfl rfl rfl rfl).trans <|
    (r_guard (j := 49) (L' := [.ref r0, .ref r1, .int x2]) (S' := [.int (hI h (hR h r1 3) (Int32.toNatClampNeg x2)), .int s0, .ref t1]) (h' := h) (p := hK h (hR h r1 3) ∈ [20, 44] ∧ ixo x2 (hN h (hR h r1 3)) = true) rfl rfl rfl rfl (and2 decide_eq_true_iff Iff.rfl)).trans <| and_r <|
    r_go (j := 51) (L' := [.ref r0, .ref r1, .int x2]) (S' := [.int (hI h (hR h r1 3) (Int32.toNatClampNeg x2)), .int s0, .ref t1]) (h' := h) rfl rfl rfl rfl
theorem b_Pg_become_50 {d : Nat} (x2 s0 : Int32) (r0 r1 t1 : Nat) (h : AH) (Q : Option Value → AH → Prop) : Wp d P_Pg_become 50 [.ref r0, .ref r1, .int x2] [.int s0, .ref t1] h Q ↔ Wp d P_Pg_become 51 [.ref r0, .ref r1, .int x2] [.int 0, .int s0, .ref t1] h Q :=
    r_iconst (j := 51) (x := 0) rfl i32_0 rfl
theorem b_Pg_become_51 {d : Nat} (x2 s0 s1 : Int32) (r0 r1 t2 : Nat) (h : AH) (Q : Option Value → AH → Prop) : Wp d P_Pg_become 51 [.ref r0, .ref r1, .int x2] [.int s0, .int s1, .ref t2] h Q ↔ (hK h t2 = 20 ∧ ixo s1 (hN h t2) = true) ∧ ((hK (sI h t2 (Int32.toNatClampNeg s1) s0) r0 = 6) ∧ ((hK (sI h t2 (Int32.toNatClampNeg s1) s0) r1 = 6) ∧ ((20 ≤ hK (sI h t2 (Int32.toNatClampNeg s1) s0) (hR (sI h t2 (Int32.toNatClampNeg s1) s0) r1 4) ∧ hK (sI h t2 (Int32.toNatClampNeg s1) s0) (hR (sI h t2 (Int32.toNatClampNeg s1) s0) r1 4) ≠ 40 ∧ hK (sI h t2 (Int32.toNatClampNeg s1) s0) (hR (sI h t2 (Int32.toNatClampNeg s1) s0) r1 4) ≠ 42 ∧ hK (sI h t2 (Int32.toNatClampNeg s1) s0) (hR (sI h t2 (Int32.toNatClampNeg s1) s0) r1 4) ≤ 45 ∧ hK (sI h t2 (Int32.toNatClampNeg s1) s0) (hR (sI h t2 (Int32.toNatClampNeg s1) s0) r1 4) ≠ 43) ∧ (((Int32.ofNat (hN (sI h t2 (Int32.toNatClampNeg s1) s0) (hR (sI h t2 (Int32.toNatClampNeg s1) s0) r1 4))) ≤ x2 → Wp d P_Pg_become 65 [.ref r0, .ref r1, .int x2] [.int x2, .ref (hR (sI h t2 (Int32.toNatClampNeg s1) s0) r0 4)] (sI h t2 (Int32.toNatClampNeg s1) s0) Q) ∧ (¬ ((Int32.ofNat (hN (sI h t2 (Int32.toNatClampNeg s1) s0) (hR (sI h t2 (Int32.toNatClampNeg s1) s0) r1 4))) ≤ x2) → Wp d P_Pg_become 60 [.ref r0, .ref r1, .int x2] [.int x2, .ref (hR (sI h t2 (Int32.toNatClampNeg s1) s0) r0 4)] (sI h t2 (Int32.toNatClampNeg s1) s0) Q))))) :=
    (r_guard (j := 52) (L' := [.ref r0, .ref r1, .int x2]) (S' := []) (h' := (sI h t2 (Int32.toNatClampNeg s1) s0)) (p := hK h t2 = 20 ∧ ixo s1 (hN h t2) = true) rfl rfl rfl rfl (and2 decide_eq_true_iff Iff.rfl)).trans <| and_r <|
    (r_go (j := 53) (L' := [.ref r0, .ref r1, .int x2]) (S' := [.ref r0]) (h' := (sI h t2 (Int32.toNatClampNeg s1) s0)) rfl rfl rfl rfl).trans <|
    (r_guard (j := 54) (L' := [.ref r0, .ref r1, .int x2]) (S' := [.ref (hR (sI h t2 (Int32.toNatClampNeg s1) s0) r0 4)]) (h' := (sI h t2 (Int32.toNatClampNeg s1) s0)) (p := hK (sI h t2 (Int32.toNatClampNeg s1) s0) r0 = 6) rfl rfl rfl rfl (decide_eq_true_iff)).trans <| and_r <|
    (r_go (j := 55) (L' := [.ref r0, .ref r1, .int x2]) (S' := [.int x2, .ref (hR (sI h t2 (Int32.toNatClampNeg s1) s0) r0 4)]) (h' := (sI h t2 (Int32.toNatClampNeg s1) s0)) rfl rfl rfl rfl).trans <|
    (r_go (j := 56) (L' := [.ref r0, .ref r1, .int x2]) (S' := [.int x2, .int x2, .ref (hR (sI h t2 (Int32.toNatClampNeg s1) s0) r0 4)]) (h' := (sI h t2 (Int32.toNatClampNeg s1) s0)) rfl rfl rfl rfl).trans <|
    (r_go (j := 57) (L' := [.ref r0, .ref r1, .int x2]) (S' := [.ref r1, .int x2, .int x2, .ref (hR (sI h t2 (Int32.toNatClampNeg s1) s0) r0 4)]) (h' := (sI h t2 (Int32.toNatClampNeg s1) s0)) rfl rfl rfl rfl).trans <|
    (r_guard (j := 58) (L' := [.ref r0, .ref r1, .int x2]) (S' := [.ref (hR (sI h t2 (Int32.toNatClampNeg s1) s0) r1 4), .int x2, .int x2, .ref (hR (sI h t2 (Int32.toNatClampNeg s1) s0) r0 4)]) (h' := (sI h t2 (Int32.toNatClampNeg s1) s0)) (p := hK (sI h t2 (Int32.toNatClampNeg s1) s0) r1 = 6) rfl rfl rfl rfl (decide_eq_true_iff)).trans <| and_r <|
    (r_guard (j := 59) (L' := [.ref r0, .ref r1, .int x2]) (S' := [.int (Int32.ofNat (hN (sI h t2 (Int32.toNatClampNeg s1) s0) (hR (sI h t2 (Int32.toNatClampNeg s1) s0) r1 4))), .int x2, .int x2, .ref (hR (sI h t2 (Int32.toNatClampNeg s1) s0) r0 4)]) (h' := (sI h t2 (Int32.toNatClampNeg s1) s0)) (p := 20 ≤ hK (sI h t2 (Int32.toNatClampNeg s1) s0) (hR (sI h t2 (Int32.toNatClampNeg s1) s0) r1 4) ∧ hK (sI h t2 (Int32.toNatClampNeg s1) s0) (hR (sI h t2 (Int32.toNatClampNeg s1) s0) r1 4) ≠ 40 ∧ hK (sI h t2 (Int32.toNatClampNeg s1) s0) (hR (sI h t2 (Int32.toNatClampNeg s1) s0) r1 4) ≠ 42 ∧ hK (sI h t2 (Int32.toNatClampNeg s1) s0) (hR (sI h t2 (Int32.toNatClampNeg s1) s0) r1 4) ≤ 45 ∧ hK (sI h t2 (Int32.toNatClampNeg s1) s0) (hR (sI h t2 (Int32.toNatClampNeg s1) s0) r1 4) ≠ 43) rfl rfl rfl rfl (decide_eq_true_iff)).trans <| and_r <|
    r_icmp (j := 60) rfl (cd_ge _ _) rfl
theorem b_Pg_become_60 {d : Nat} (x2 s0 : Int32) (r0 r1 t1 : Nat) (h : AH) (Q : Option Value → AH → Prop) : Wp d P_Pg_become 60 [.ref r0, .ref r1, .int x2] [.int s0, .ref t1] h Q ↔ (hK h r1 = 6) ∧ ((hK h (hR h r1 4) ∈ [20, 44] ∧ ixo x2 (hN h (hR h r1 4)) = true) ∧ (Wp d P_Pg_become 66 [.ref r0, .ref r1, .int x2] [.int (hI h (hR h r1 4) (Int32.toNatClampNeg x2)), .int s0, .ref t1] h Q)) :=
    (r_go (j := 61) (L' := [.ref r0, .ref r1, .int x2]) (S' := [.ref r1, .int s0, .ref t1]) (h' := h) rfl rfl rfl rfl).trans <|
    (r_guard (j := 62) (L' := [.ref r0, .ref r1, .int x2]) (S' := [.ref (hR h r1 4), .int s0, .ref t1]) (h' := h) (p := hK h r1 = 6) rfl rfl rfl rfl (decide_eq_true_iff)).trans <| and_r <|
    (r_go (j := 63) (L' := [.ref r0, .ref r1, .int x2]) (S' := [.int x2, .ref (hR h r1 4), .int s0, .ref t1]) (h' := h) rfl rfl rfl rfl).trans <|
    (r_guard (j := 64) (L' := [.ref r0, .ref r1, .int x2]) (S' := [.int (hI h (hR h r1 4) (Int32.toNatClampNeg x2)), .int s0, .ref t1]) (h' := h) (p := hK h (hR h r1 4) ∈ [20, 44] ∧ ixo x2 (hN h (hR h r1 4)) = true) rfl rfl rfl rfl (and2 decide_eq_true_iff Iff.rfl)).trans <| and_r <|
    r_go (j := 66) (L' := [.ref r0, .ref r1, .int x2]) (S' := [.int (hI h (hR h r1 4) (Int32.toNatClampNeg x2)), .int s0, .ref t1]) (h' := h) rfl rfl rfl rfl
theorem b_Pg_become_65 {d : Nat} (x2 s0 : Int32) (r0 r1 t1 : Nat) (h : AH) (Q : Option Value → AH → Prop) : Wp d P_Pg_become 65 [.ref r0, .ref r1, .int x2] [.int s0, .ref t1] h Q ↔ Wp d P_Pg_become 66 [.ref r0, .ref r1, .int x2] [.int 0, .int s0, .ref t1] h Q :=
    r_iconst (j := 66) (x := 0) rfl i32_0 rfl
theorem b_Pg_become_66 {d : Nat} (x2 s0 s1 : Int32) (r0 r1 t2 : Nat) (h : AH) (Q : Option Value → AH → Prop) : Wp d P_Pg_become 66 [.ref r0, .ref r1, .int x2] [.int s0, .int s1, .ref t2] h Q ↔ (hK h t2 = 20 ∧ ixo s1 (hN h t2) = true) ∧ (Wp d P_Pg_become 27 [.ref r0, .ref r1, .int (x2 + 1)] [] (sI h t2 (Int32.toNatClampNeg s1) s0) Q) :=
    (r_guard (j := 67) (L' := [.ref r0, .ref r1, .int x2]) (S' := []) (h' := (sI h t2 (Int32.toNatClampNeg s1) s0)) (p := hK h t2 = 20 ∧ ixo s1 (hN h t2) = true) rfl rfl rfl rfl (and2 decide_eq_true_iff Iff.rfl)).trans <| and_r <|
    (r_iinc (j := 68) (x := 1) (L' := [.ref r0, .ref r1, .int (x2 + 1)]) rfl rfl i32_1 rfl rfl).trans <|
    r_go (j := 27) (L' := [.ref r0, .ref r1, .int (x2 + 1)]) (S' := []) (h' := (sI h t2 (Int32.toNatClampNeg s1) s0)) rfl rfl rfl rfl
theorem b_Pg_become_69 {d : Nat} (x2 : Int32) (r0 r1 : Nat) (h : AH) (Q : Option Value → AH → Prop) : Wp d P_Pg_become 69 [.ref r0, .ref r1, .int x2] [] h Q ↔ Q (none) h :=
    r_ret rfl rfl rfl
theorem e_Pg_become {d : Nat} (r0 r1 : Nat) (h : AH) (Q : Option Value → AH → Prop) : Cl (d + 1) q_Pg_become [.ref r0, .ref r1] h Q ↔ hK h r0 = 6 ∧ Wp d P_Pg_become 0 [.ref r0, .ref r1, .null] [] h (fun r h' => rtk (none) r = true ∧ Q r h') :=
    (Cl_method (t := m_Pg_become) rfl).trans (and_congr_left fun _ => decide_eq_true_iff)
/-! PenThatJumps$Program.run(I[I)I -/
theorem b_Pg_run_0 {d : Nat} (x1 : Int32) (r0 r2 : Nat) (h : AH) (Q : Option Value → AH → Prop) : Wp d P_Pg_run 0 [.ref r0, .int x1, .ref r2, .null, .null, .null] [] h Q ↔ Cl d q_Pg_hasLine [.ref r0, .int x1] h (fun r h' => Wp d P_Pg_run 3 [.ref r0, .int x1, .ref r2, .null, .null, .null] (r.toList ++ []) h' Q) :=
    (r_go (j := 1) (L' := [.ref r0, .int x1, .ref r2, .null, .null, .null]) (S' := [.ref r0]) (h' := h) rfl rfl rfl rfl).trans <|
    (r_go (j := 2) (L' := [.ref r0, .int x1, .ref r2, .null, .null, .null]) (S' := [.int x1, .ref r0]) (h' := h) rfl rfl rfl rfl).trans <|
    r_call (j := 3) (a := [.ref r0, .int x1]) (S' := []) rfl rfl rfl rfl rfl rfl rfl
theorem b_Pg_run_3 {d : Nat} (x1 s0 : Int32) (r0 r2 : Nat) (h : AH) (Q : Option Value → AH → Prop) : Wp d P_Pg_run 3 [.ref r0, .int x1, .ref r2, .null, .null, .null] [.int s0] h Q ↔ (s0 = 0 → Wp d P_Pg_run 16 [.ref r0, .int x1, .ref r2, .null, .null, .null] [] h Q) ∧ (¬ (s0 = 0) → Wp d P_Pg_run 4 [.ref r0, .int x1, .ref r2, .null, .null, .null] [] h Q) :=
    r_if (j := 4) rfl (cd_eq _ _) rfl
theorem b_Pg_run_4 {d : Nat} (x1 : Int32) (r0 r2 : Nat) (h : AH) (Q : Option Value → AH → Prop) : Wp d P_Pg_run 4 [.ref r0, .int x1, .ref r2, .null, .null, .null] [] h Q ↔ (x1 < 0 → Wp d P_Pg_run 16 [.ref r0, .int x1, .ref r2, .null, .null, .null] [] h Q) ∧ (¬ (x1 < 0) → Wp d P_Pg_run 6 [.ref r0, .int x1, .ref r2, .null, .null, .null] [] h Q) :=
    (r_go (j := 5) (L' := [.ref r0, .int x1, .ref r2, .null, .null, .null]) (S' := [.int x1]) (h' := h) rfl rfl rfl rfl).trans <|
    r_if (j := 6) rfl (cd_lt _ _) rfl
theorem b_Pg_run_6 {d : Nat} (x1 : Int32) (r0 r2 : Nat) (h : AH) (Q : Option Value → AH → Prop) : Wp d P_Pg_run 6 [.ref r0, .int x1, .ref r2, .null, .null, .null] [] h Q ↔ (hK h r0 = 6) ∧ ((20 ≤ hK h (hR h r0 3) ∧ hK h (hR h r0 3) ≠ 40 ∧ hK h (hR h r0 3) ≠ 42 ∧ hK h (hR h r0 3) ≤ 45 ∧ hK h (hR h r0 3) ≠ 43) ∧ (((Int32.ofNat (hN h (hR h r0 3))) ≤ x1 → Wp d P_Pg_run 16 [.ref r0, .int x1, .ref r2, .null, .null, .null] [] h Q) ∧ (¬ ((Int32.ofNat (hN h (hR h r0 3))) ≤ x1) → Wp d P_Pg_run 11 [.ref r0, .int x1, .ref r2, .null, .null, .null] [] h Q))) :=
    (r_go (j := 7) (L' := [.ref r0, .int x1, .ref r2, .null, .null, .null]) (S' := [.int x1]) (h' := h) rfl rfl rfl rfl).trans <|
    (r_go (j := 8) (L' := [.ref r0, .int x1, .ref r2, .null, .null, .null]) (S' := [.ref r0, .int x1]) (h' := h) rfl rfl rfl rfl).trans <|
    (r_guard (j := 9) (L' := [.ref r0, .int x1, .ref r2, .null, .null, .null]) (S' := [.ref (hR h r0 3), .int x1]) (h' := h) (p := hK h r0 = 6) rfl rfl rfl rfl (decide_eq_true_iff)).trans <| and_r <|
    (r_guard (j := 10) (L' := [.ref r0, .int x1, .ref r2, .null, .null, .null]) (S' := [.int (Int32.ofNat (hN h (hR h r0 3))), .int x1]) (h' := h) (p := 20 ≤ hK h (hR h r0 3) ∧ hK h (hR h r0 3) ≠ 40 ∧ hK h (hR h r0 3) ≠ 42 ∧ hK h (hR h r0 3) ≤ 45 ∧ hK h (hR h r0 3) ≠ 43) rfl rfl rfl rfl (decide_eq_true_iff)).trans <| and_r <|
    r_icmp (j := 11) rfl (cd_ge _ _) rfl
theorem b_Pg_run_11 {d : Nat} (x1 : Int32) (r0 r2 : Nat) (h : AH) (Q : Option Value → AH → Prop) : Wp d P_Pg_run 11 [.ref r0, .int x1, .ref r2, .null, .null, .null] [] h Q ↔ (hK h r0 = 6) ∧ ((20 ≤ hK h (hR h r0 4) ∧ hK h (hR h r0 4) ≠ 40 ∧ hK h (hR h r0 4) ≠ 42 ∧ hK h (hR h r0 4) ≤ 45 ∧ hK h (hR h r0 4) ≠ 43) ∧ ((x1 < (Int32.ofNat (hN h (hR h r0 4))) → Wp d P_Pg_run 18 [.ref r0, .int x1, .ref r2, .null, .null, .null] [] h Q) ∧ (¬ (x1 < (Int32.ofNat (hN h (hR h r0 4)))) → Wp d P_Pg_run 16 [.ref r0, .int x1, .ref r2, .null, .null, .null] [] h Q))) :=
    (r_go (j := 12) (L' := [.ref r0, .int x1, .ref r2, .null, .null, .null]) (S' := [.int x1]) (h' := h) rfl rfl rfl rfl).trans <|
    (r_go (j := 13) (L' := [.ref r0, .int x1, .ref r2, .null, .null, .null]) (S' := [.ref r0, .int x1]) (h' := h) rfl rfl rfl rfl).trans <|
    (r_guard (j := 14) (L' := [.ref r0, .int x1, .ref r2, .null, .null, .null]) (S' := [.ref (hR h r0 4), .int x1]) (h' := h) (p := hK h r0 = 6) rfl rfl rfl rfl (decide_eq_true_iff)).trans <| and_r <|
    (r_guard (j := 15) (L' := [.ref r0, .int x1, .ref r2, .null, .null, .null]) (S' := [.int (Int32.ofNat (hN h (hR h r0 4))), .int x1]) (h' := h) (p := 20 ≤ hK h (hR h r0 4) ∧ hK h (hR h r0 4) ≠ 40 ∧ hK h (hR h r0 4) ≠ 42 ∧ hK h (hR h r0 4) ≤ 45 ∧ hK h (hR h r0 4) ≠ 43) rfl rfl rfl rfl (decide_eq_true_iff)).trans <| and_r <|
    r_icmp (j := 16) rfl (cd_lt _ _) rfl
theorem b_Pg_run_16 {d : Nat} (x1 : Int32) (r0 r2 : Nat) (h : AH) (Q : Option Value → AH → Prop) : Wp d P_Pg_run 16 [.ref r0, .int x1, .ref r2, .null, .null, .null] [] h Q ↔ Q (some (.int 0)) h :=
    (r_iconst (j := 17) (x := 0) rfl i32_0 rfl).trans <|
    r_ret rfl rfl rfl
theorem b_Pg_run_18 {d : Nat} (x1 : Int32) (r0 r2 : Nat) (h : AH) (Q : Option Value → AH → Prop) : Wp d P_Pg_run 18 [.ref r0, .int x1, .ref r2, .null, .null, .null] [] h Q ↔ (hK h r0 = 6) ∧ ((hK h (hR h r0 3) ∈ [20, 44] ∧ ixo x1 (hN h (hR h r0 3)) = true) ∧ (((hI h (hR h r0 3) (Int32.toNatClampNeg x1)) ≤ 0 → Wp d P_Pg_run 30 [.ref r0, .int x1, .ref r2, .int 0, .null, .null] [] h Q) ∧ (¬ ((hI h (hR h r0 3) (Int32.toNatClampNeg x1)) ≤ 0) → Wp d P_Pg_run 25 [.ref r0, .int x1, .ref r2, .int 0, .null, .null] [] h Q))) :=
    (r_iconst (j := 19) (x := 0) rfl i32_0 rfl).trans <|
    (r_go (j := 20) (L' := [.ref r0, .int x1, .ref r2, .int 0, .null, .null]) (S' := []) (h' := h) rfl rfl rfl rfl).trans <|
    (r_go (j := 21) (L' := [.ref r0, .int x1, .ref r2, .int 0, .null, .null]) (S' := [.ref r0]) (h' := h) rfl rfl rfl rfl).trans <|
    (r_guard (j := 22) (L' := [.ref r0, .int x1, .ref r2, .int 0, .null, .null]) (S' := [.ref (hR h r0 3)]) (h' := h) (p := hK h r0 = 6) rfl rfl rfl rfl (decide_eq_true_iff)).trans <| and_r <|
    (r_go (j := 23) (L' := [.ref r0, .int x1, .ref r2, .int 0, .null, .null]) (S' := [.int x1, .ref (hR h r0 3)]) (h' := h) rfl rfl rfl rfl).trans <|
    (r_guard (j := 24) (L' := [.ref r0, .int x1, .ref r2, .int 0, .null, .null]) (S' := [.int (hI h (hR h r0 3) (Int32.toNatClampNeg x1))]) (h' := h) (p := hK h (hR h r0 3) ∈ [20, 44] ∧ ixo x1 (hN h (hR h r0 3)) = true) rfl rfl rfl rfl (and2 decide_eq_true_iff Iff.rfl)).trans <| and_r <|
    r_if (j := 25) rfl (cd_le _ _) rfl
theorem b_Pg_run_25 {d : Nat} (x1 x3 : Int32) (r0 r2 : Nat) (h : AH) (Q : Option Value → AH → Prop) : Wp d P_Pg_run 25 [.ref r0, .int x1, .ref r2, .int x3, .null, .null] [] h Q ↔ (hK h r0 = 6) ∧ ((hK h (hR h r0 3) ∈ [20, 44] ∧ ixo x1 (hN h (hR h r0 3)) = true) ∧ (Wp d P_Pg_run 31 [.ref r0, .int x1, .ref r2, .int x3, .null, .null] [.int (hI h (hR h r0 3) (Int32.toNatClampNeg x1))] h Q)) :=
    (r_go (j := 26) (L' := [.ref r0, .int x1, .ref r2, .int x3, .null, .null]) (S' := [.ref r0]) (h' := h) rfl rfl rfl rfl).trans <|
    (r_guard (j := 27) (L' := [.ref r0, .int x1, .ref r2, .int x3, .null, .null]) (S' := [.ref (hR h r0 3)]) (h' := h) (p := hK h r0 = 6) rfl rfl rfl rfl (decide_eq_true_iff)).trans <| and_r <|
    (r_go (j := 28) (L' := [.ref r0, .int x1, .ref r2, .int x3, .null, .null]) (S' := [.int x1, .ref (hR h r0 3)]) (h' := h) rfl rfl rfl rfl).trans <|
    (r_guard (j := 29) (L' := [.ref r0, .int x1, .ref r2, .int x3, .null, .null]) (S' := [.int (hI h (hR h r0 3) (Int32.toNatClampNeg x1))]) (h' := h) (p := hK h (hR h r0 3) ∈ [20, 44] ∧ ixo x1 (hN h (hR h r0 3)) = true) rfl rfl rfl rfl (and2 decide_eq_true_iff Iff.rfl)).trans <| and_r <|
    r_go (j := 31) (L' := [.ref r0, .int x1, .ref r2, .int x3, .null, .null]) (S' := [.int (hI h (hR h r0 3) (Int32.toNatClampNeg x1))]) (h' := h) rfl rfl rfl rfl
theorem b_Pg_run_30 {d : Nat} (x1 x3 : Int32) (r0 r2 : Nat) (h : AH) (Q : Option Value → AH → Prop) : Wp d P_Pg_run 30 [.ref r0, .int x1, .ref r2, .int x3, .null, .null] [] h Q ↔ Wp d P_Pg_run 31 [.ref r0, .int x1, .ref r2, .int x3, .null, .null] [.int 0] h Q :=
    r_iconst (j := 31) (x := 0) rfl i32_0 rfl
theorem b_Pg_run_31 {d : Nat} (x1 x3 s0 : Int32) (r0 r2 : Nat) (h : AH) (Q : Option Value → AH → Prop) : Wp d P_Pg_run 31 [.ref r0, .int x1, .ref r2, .int x3, .null, .null] [.int s0] h Q ↔ Wp d P_Pg_run 34 [.ref r0, .int x1, .ref r2, .int x3, .int s0, .int s0] [] h Q :=
    (r_go (j := 32) (L' := [.ref r0, .int x1, .ref r2, .int x3, .int s0, .null]) (S' := []) (h' := h) rfl rfl rfl rfl).trans <|
    (r_go (j := 33) (L' := [.ref r0, .int x1, .ref r2, .int x3, .int s0, .null]) (S' := [.int s0]) (h' := h) rfl rfl rfl rfl).trans <|
    r_go (j := 34) (L' := [.ref r0, .int x1, .ref r2, .int x3, .int s0, .int s0]) (S' := []) (h' := h) rfl rfl rfl rfl
theorem b_Pg_run_34 {d : Nat} (x1 x3 x4 x5 : Int32) (r0 r2 : Nat) (h : AH) (Q : Option Value → AH → Prop) : Wp d P_Pg_run 34 [.ref r0, .int x1, .ref r2, .int x3, .int x4, .int x5] [] h Q ↔ (hK h r0 = 6) ∧ ((hK h (hR h r0 4) ∈ [20, 44] ∧ ixo x1 (hN h (hR h r0 4)) = true) ∧ (((hI h (hR h r0 4) (Int32.toNatClampNeg x1)) ≤ x5 → Wp d P_Pg_run 56 [.ref r0, .int x1, .ref r2, .int x3, .int x4, .int x5] [] h Q) ∧ (¬ ((hI h (hR h r0 4) (Int32.toNatClampNeg x1)) ≤ x5) → Wp d P_Pg_run 40 [.ref r0, .int x1, .ref r2, .int x3, .int x4, .int x5] [] h Q))) :=
    (r_go (j := 35) (L' := [.ref r0, .int x1, .ref r2, .int x3, .int x4, .int x5]) (S' := [.int x5]) (h' := h) rfl rfl rfl rfl).trans <|
    (r_go (j := 36) (L' := [.ref r0, .int x1, .ref r2, .int x3, .int x4, .int x5]) (S' := [.ref r0, .int x5]) (h' := h) rfl rfl rfl rfl).trans <|
    (r_guard (j := 37) (L' := [.ref r0, .int x1, .ref r2, .int x3, .int x4, .int x5]) (S' := [.ref (hR h r0 4), .int x5]) (h' := h) (p := hK h r0 = 6) rfl rfl rfl rfl (decide_eq_true_iff)).trans <| and_r <|
    (r_go (j := 38) (L' := [.ref r0, .int x1, .ref r2, .int x3, .int x4, .int x5]) (S' := [.int x1, .ref (hR h r0 4), .int x5]) (h' := h) rfl rfl rfl rfl).trans <|
    (r_guard (j := 39) (L' := [.ref r0, .int x1, .ref r2, .int x3, .int x4, .int x5]) (S' := [.int (hI h (hR h r0 4) (Int32.toNatClampNeg x1)), .int x5]) (h' := h) (p := hK h (hR h r0 4) ∈ [20, 44] ∧ ixo x1 (hN h (hR h r0 4)) = true) rfl rfl rfl rfl (and2 decide_eq_true_iff Iff.rfl)).trans <| and_r <|
    r_icmp (j := 40) rfl (cd_ge _ _) rfl
theorem b_Pg_run_40 {d : Nat} (x1 x3 x4 x5 : Int32) (r0 r2 : Nat) (h : AH) (Q : Option Value → AH → Prop) : Wp d P_Pg_run 40 [.ref r0, .int x1, .ref r2, .int x3, .int x4, .int x5] [] h Q ↔ (hK h r0 = 6) ∧ ((20 ≤ hK h (hR h r0 0) ∧ hK h (hR h r0 0) ≠ 40 ∧ hK h (hR h r0 0) ≠ 42 ∧ hK h (hR h r0 0) ≤ 45 ∧ hK h (hR h r0 0) ≠ 43) ∧ (((Int32.ofNat (hN h (hR h r0 0))) ≤ x5 → Wp d P_Pg_run 56 [.ref r0, .int x1, .ref r2, .int x3, .int x4, .int x5] [] h Q) ∧ (¬ ((Int32.ofNat (hN h (hR h r0 0))) ≤ x5) → Wp d P_Pg_run 45 [.ref r0, .int x1, .ref r2, .int x3, .int x4, .int x5] [] h Q))) :=
    (r_go (j := 41) (L' := [.ref r0, .int x1, .ref r2, .int x3, .int x4, .int x5]) (S' := [.int x5]) (h' := h) rfl rfl rfl rfl).trans <|
    (r_go (j := 42) (L' := [.ref r0, .int x1, .ref r2, .int x3, .int x4, .int x5]) (S' := [.ref r0, .int x5]) (h' := h) rfl rfl rfl rfl).trans <|
    (r_guard (j := 43) (L' := [.ref r0, .int x1, .ref r2, .int x3, .int x4, .int x5]) (S' := [.ref (hR h r0 0), .int x5]) (h' := h) (p := hK h r0 = 6) rfl rfl rfl rfl (decide_eq_true_iff)).trans <| and_r <|
    (r_guard (j := 44) (L' := [.ref r0, .int x1, .ref r2, .int x3, .int x4, .int x5]) (S' := [.int (Int32.ofNat (hN h (hR h r0 0))), .int x5]) (h' := h) (p := 20 ≤ hK h (hR h r0 0) ∧ hK h (hR h r0 0) ≠ 40 ∧ hK h (hR h r0 0) ≠ 42 ∧ hK h (hR h r0 0) ≤ 45 ∧ hK h (hR h r0 0) ≠ 43) rfl rfl rfl rfl (decide_eq_true_iff)).trans <| and_r <|
    r_icmp (j := 45) rfl (cd_ge _ _) rfl
theorem b_Pg_run_45 {d : Nat} (x1 x3 x4 x5 : Int32) (r0 r2 : Nat) (h : AH) (Q : Option Value → AH → Prop) : Wp d P_Pg_run 45 [.ref r0, .int x1, .ref r2, .int x3, .int x4, .int x5] [] h Q ↔ (hK h r0 = 6) ∧ ((hK h (hR h r0 0) ∈ [20, 44] ∧ ixo x5 (hN h (hR h r0 0)) = true) ∧ (Cl d q_Pg_take [.ref r0, .int (hI h (hR h r0 0) (Int32.toNatClampNeg x5)), .int x3, .ref r2] h (fun r h' => Wp d P_Pg_run 53 [.ref r0, .int x1, .ref r2, .int x3, .int x4, .int x5] (r.toList ++ []) h' Q))) :=
    (r_go (j := 46) (L' := [.ref r0, .int x1, .ref r2, .int x3, .int x4, .int x5]) (S' := [.ref r0]) (h' := h) rfl rfl rfl rfl).trans <|
    (r_go (j := 47) (L' := [.ref r0, .int x1, .ref r2, .int x3, .int x4, .int x5]) (S' := [.ref r0, .ref r0]) (h' := h) rfl rfl rfl rfl).trans <|
    (r_guard (j := 48) (L' := [.ref r0, .int x1, .ref r2, .int x3, .int x4, .int x5]) (S' := [.ref (hR h r0 0), .ref r0]) (h' := h) (p := hK h r0 = 6) rfl rfl rfl rfl (decide_eq_true_iff)).trans <| and_r <|
    (r_go (j := 49) (L' := [.ref r0, .int x1, .ref r2, .int x3, .int x4, .int x5]) (S' := [.int x5, .ref (hR h r0 0), .ref r0]) (h' := h) rfl rfl rfl rfl).trans <|
    (r_guard (j := 50) (L' := [.ref r0, .int x1, .ref r2, .int x3, .int x4, .int x5]) (S' := [.int (hI h (hR h r0 0) (Int32.toNatClampNeg x5)), .ref r0]) (h' := h) (p := hK h (hR h r0 0) ∈ [20, 44] ∧ ixo x5 (hN h (hR h r0 0)) = true) rfl rfl rfl rfl (and2 decide_eq_true_iff Iff.rfl)).trans <| and_r <|
    (r_go (j := 51) (L' := [.ref r0, .int x1, .ref r2, .int x3, .int x4, .int x5]) (S' := [.int x3, .int (hI h (hR h r0 0) (Int32.toNatClampNeg x5)), .ref r0]) (h' := h) rfl rfl rfl rfl).trans <|
    (r_go (j := 52) (L' := [.ref r0, .int x1, .ref r2, .int x3, .int x4, .int x5]) (S' := [.ref r2, .int x3, .int (hI h (hR h r0 0) (Int32.toNatClampNeg x5)), .ref r0]) (h' := h) rfl rfl rfl rfl).trans <|
    r_call (j := 53) (a := [.ref r0, .int (hI h (hR h r0 0) (Int32.toNatClampNeg x5)), .int x3, .ref r2]) (S' := []) rfl rfl rfl rfl rfl rfl rfl
theorem b_Pg_run_53 {d : Nat} (x1 x3 x4 x5 s0 : Int32) (r0 r2 : Nat) (h : AH) (Q : Option Value → AH → Prop) : Wp d P_Pg_run 53 [.ref r0, .int x1, .ref r2, .int x3, .int x4, .int x5] [.int s0] h Q ↔ Wp d P_Pg_run 34 [.ref r0, .int x1, .ref r2, .int s0, .int x4, .int (x5 + 1)] [] h Q :=
    (r_go (j := 54) (L' := [.ref r0, .int x1, .ref r2, .int s0, .int x4, .int x5]) (S' := []) (h' := h) rfl rfl rfl rfl).trans <|
    (r_iinc (j := 55) (x := 1) (L' := [.ref r0, .int x1, .ref r2, .int s0, .int x4, .int (x5 + 1)]) rfl rfl i32_1 rfl rfl).trans <|
    r_go (j := 34) (L' := [.ref r0, .int x1, .ref r2, .int s0, .int x4, .int (x5 + 1)]) (S' := []) (h' := h) rfl rfl rfl rfl
theorem b_Pg_run_56 {d : Nat} (x1 x3 x4 x5 : Int32) (r0 r2 : Nat) (h : AH) (Q : Option Value → AH → Prop) : Wp d P_Pg_run 56 [.ref r0, .int x1, .ref r2, .int x3, .int x4, .int x5] [] h Q ↔ (x3 ≤ 0 → Wp d P_Pg_run 63 [.ref r0, .int x1, .ref r2, .int x3, .int x4, .int x5] [] h Q) ∧ (¬ (x3 ≤ 0) → Wp d P_Pg_run 58 [.ref r0, .int x1, .ref r2, .int x3, .int x4, .int x5] [] h Q) :=
    (r_go (j := 57) (L' := [.ref r0, .int x1, .ref r2, .int x3, .int x4, .int x5]) (S' := [.int x3]) (h' := h) rfl rfl rfl rfl).trans <|
    r_if (j := 58) rfl (cd_le _ _) rfl
theorem b_Pg_run_58 {d : Nat} (x1 x3 x4 x5 : Int32) (r0 r2 : Nat) (h : AH) (Q : Option Value → AH → Prop) : Wp d P_Pg_run 58 [.ref r0, .int x1, .ref r2, .int x3, .int x4, .int x5] [] h Q ↔ (hK h r0 = 6) ∧ ((hK h (hR h r0 5) ∈ [20, 44] ∧ ixo 0 (hN h (hR h r0 5)) = true) ∧ (Wp d P_Pg_run 64 [.ref r0, .int x1, .ref r2, .int x3, .int x4, .int x5] [.int (hI h (hR h r0 5) (Int32.toNatClampNeg 0))] h Q)) :=
    (r_go (j := 59) (L' := [.ref r0, .int x1, .ref r2, .int x3, .int x4, .int x5]) (S' := [.ref r0]) (h' := h) rfl rfl rfl rfl).trans <|
    (r_guard (j := 60) (L' := [.ref r0, .int x1, .ref r2, .int x3, .int x4, .int x5]) (S' := [.ref (hR h r0 5)]) (h' := h) (p := hK h r0 = 6) rfl rfl rfl rfl (decide_eq_true_iff)).trans <| and_r <|
    (r_iconst (j := 61) (x := 0) rfl i32_0 rfl).trans <|
    (r_guard (j := 62) (L' := [.ref r0, .int x1, .ref r2, .int x3, .int x4, .int x5]) (S' := [.int (hI h (hR h r0 5) (Int32.toNatClampNeg 0))]) (h' := h) (p := hK h (hR h r0 5) ∈ [20, 44] ∧ ixo 0 (hN h (hR h r0 5)) = true) rfl rfl rfl rfl (and2 decide_eq_true_iff Iff.rfl)).trans <| and_r <|
    r_go (j := 64) (L' := [.ref r0, .int x1, .ref r2, .int x3, .int x4, .int x5]) (S' := [.int (hI h (hR h r0 5) (Int32.toNatClampNeg 0))]) (h' := h) rfl rfl rfl rfl
theorem b_Pg_run_63 {d : Nat} (x1 x3 x4 x5 : Int32) (r0 r2 : Nat) (h : AH) (Q : Option Value → AH → Prop) : Wp d P_Pg_run 63 [.ref r0, .int x1, .ref r2, .int x3, .int x4, .int x5] [] h Q ↔ Wp d P_Pg_run 64 [.ref r0, .int x1, .ref r2, .int x3, .int x4, .int x5] [.int 0] h Q :=
    r_iconst (j := 64) (x := 0) rfl i32_0 rfl
theorem b_Pg_run_64 {d : Nat} (x1 x3 x4 x5 s0 : Int32) (r0 r2 : Nat) (h : AH) (Q : Option Value → AH → Prop) : Wp d P_Pg_run 64 [.ref r0, .int x1, .ref r2, .int x3, .int x4, .int x5] [.int s0] h Q ↔ Q (some (.int s0)) h :=
    r_ret rfl rfl rfl
theorem e_Pg_run {d : Nat} (x1 : Int32) (r0 r2 : Nat) (h : AH) (Q : Option Value → AH → Prop) : Cl (d + 1) q_Pg_run [.ref r0, .int x1, .ref r2] h Q ↔ hK h r0 = 6 ∧ Wp d P_Pg_run 0 [.ref r0, .int x1, .ref r2, .null, .null, .null] [] h (fun r h' => rtk (some .int) r = true ∧ Q r h') :=
    (Cl_method (t := m_Pg_run) rfl).trans (and_congr_left fun _ => decide_eq_true_iff)
/-! PenThatJumps$Program.take(II[I)I -/
theorem b_Pg_take_0 {d : Nat} (x1 x2 : Int32) (r0 r3 : Nat) (h : AH) (Q : Option Value → AH → Prop) : Wp d P_Pg_take 0 [.ref r0, .int x1, .int x2, .ref r3, .null] [] h Q ↔ (x1 < 0 → Wp d P_Pg_take 36 [.ref r0, .int x1, .int x2, .ref r3, .null] [] h Q) ∧ (¬ (x1 < 0) → Wp d P_Pg_take 2 [.ref r0, .int x1, .int x2, .ref r3, .null] [] h Q) :=
    (r_go (j := 1) (L' := [.ref r0, .int x1, .int x2, .ref r3, .null]) (S' := [.int x1]) (h' := h) rfl rfl rfl rfl).trans <|
    r_if (j := 2) rfl (cd_lt _ _) rfl
theorem b_Pg_take_2 {d : Nat} (x1 x2 : Int32) (r0 r3 : Nat) (h : AH) (Q : Option Value → AH → Prop) : Wp d P_Pg_take 2 [.ref r0, .int x1, .int x2, .ref r3, .null] [] h Q ↔ (x2 < 0 → Wp d P_Pg_take 9 [.ref r0, .int x1, .int x2, .ref r3, .null] [] h Q) ∧ (¬ (x2 < 0) → Wp d P_Pg_take 4 [.ref r0, .int x1, .int x2, .ref r3, .null] [] h Q) :=
    (r_go (j := 3) (L' := [.ref r0, .int x1, .int x2, .ref r3, .null]) (S' := [.int x2]) (h' := h) rfl rfl rfl rfl).trans <|
    r_if (j := 4) rfl (cd_lt _ _) rfl
theorem b_Pg_take_4 {d : Nat} (x1 x2 : Int32) (r0 r3 : Nat) (h : AH) (Q : Option Value → AH → Prop) : Wp d P_Pg_take 4 [.ref r0, .int x1, .int x2, .ref r3, .null] [] h Q ↔ (hK h r0 = 6) ∧ ((20 ≤ hK h (hR h r0 5) ∧ hK h (hR h r0 5) ≠ 40 ∧ hK h (hR h r0 5) ≠ 42 ∧ hK h (hR h r0 5) ≤ 45 ∧ hK h (hR h r0 5) ≠ 43) ∧ ((x2 < (Int32.ofNat (hN h (hR h r0 5))) → Wp d P_Pg_take 11 [.ref r0, .int x1, .int x2, .ref r3, .null] [] h Q) ∧ (¬ (x2 < (Int32.ofNat (hN h (hR h r0 5)))) → Wp d P_Pg_take 9 [.ref r0, .int x1, .int x2, .ref r3, .null] [] h Q))) :=
    (r_go (j := 5) (L' := [.ref r0, .int x1, .int x2, .ref r3, .null]) (S' := [.int x2]) (h' := h) rfl rfl rfl rfl).trans <|
    (r_go (j := 6) (L' := [.ref r0, .int x1, .int x2, .ref r3, .null]) (S' := [.ref r0, .int x2]) (h' := h) rfl rfl rfl rfl).trans <|
    (r_guard (j := 7) (L' := [.ref r0, .int x1, .int x2, .ref r3, .null]) (S' := [.ref (hR h r0 5), .int x2]) (h' := h) (p := hK h r0 = 6) rfl rfl rfl rfl (decide_eq_true_iff)).trans <| and_r <|
    (r_guard (j := 8) (L' := [.ref r0, .int x1, .int x2, .ref r3, .null]) (S' := [.int (Int32.ofNat (hN h (hR h r0 5))), .int x2]) (h' := h) (p := 20 ≤ hK h (hR h r0 5) ∧ hK h (hR h r0 5) ≠ 40 ∧ hK h (hR h r0 5) ≠ 42 ∧ hK h (hR h r0 5) ≤ 45 ∧ hK h (hR h r0 5) ≠ 43) rfl rfl rfl rfl (decide_eq_true_iff)).trans <| and_r <|
    r_icmp (j := 9) rfl (cd_lt _ _) rfl
theorem b_Pg_take_9 {d : Nat} (x1 x2 : Int32) (r0 r3 : Nat) (h : AH) (Q : Option Value → AH → Prop) : Wp d P_Pg_take 9 [.ref r0, .int x1, .int x2, .ref r3, .null] [] h Q ↔ Q (some (.int x2)) h :=
    (r_go (j := 10) (L' := [.ref r0, .int x1, .int x2, .ref r3, .null]) (S' := [.int x2]) (h' := h) rfl rfl rfl rfl).trans <|
    r_ret rfl rfl rfl
theorem b_Pg_take_11 {d : Nat} (x1 x2 : Int32) (r0 r3 : Nat) (h : AH) (Q : Option Value → AH → Prop) : Wp d P_Pg_take 11 [.ref r0, .int x1, .int x2, .ref r3, .null] [] h Q ↔ (hK h r0 = 6) ∧ ((0 ≤ (x1 - 10000) → Wp d P_Pg_take 22 [.ref r0, .int x1, .int x2, .ref r3, .int (x1 - 10000)] [.int x2, .ref (hR h r0 5)] h Q) ∧ (¬ (0 ≤ (x1 - 10000)) → Wp d P_Pg_take 20 [.ref r0, .int x1, .int x2, .ref r3, .int (x1 - 10000)] [.int x2, .ref (hR h r0 5)] h Q)) :=
    (r_go (j := 12) (L' := [.ref r0, .int x1, .int x2, .ref r3, .null]) (S' := [.int x1]) (h' := h) rfl rfl rfl rfl).trans <|
    (r_sipush (j := 13) (x := 10000) rfl i32_10000 rfl).trans <|
    (r_go (j := 14) (L' := [.ref r0, .int x1, .int x2, .ref r3, .null]) (S' := [.int (x1 - 10000)]) (h' := h) rfl rfl rfl rfl).trans <|
    (r_go (j := 15) (L' := [.ref r0, .int x1, .int x2, .ref r3, .int (x1 - 10000)]) (S' := []) (h' := h) rfl rfl rfl rfl).trans <|
    (r_go (j := 16) (L' := [.ref r0, .int x1, .int x2, .ref r3, .int (x1 - 10000)]) (S' := [.ref r0]) (h' := h) rfl rfl rfl rfl).trans <|
    (r_guard (j := 17) (L' := [.ref r0, .int x1, .int x2, .ref r3, .int (x1 - 10000)]) (S' := [.ref (hR h r0 5)]) (h' := h) (p := hK h r0 = 6) rfl rfl rfl rfl (decide_eq_true_iff)).trans <| and_r <|
    (r_go (j := 18) (L' := [.ref r0, .int x1, .int x2, .ref r3, .int (x1 - 10000)]) (S' := [.int x2, .ref (hR h r0 5)]) (h' := h) rfl rfl rfl rfl).trans <|
    (r_go (j := 19) (L' := [.ref r0, .int x1, .int x2, .ref r3, .int (x1 - 10000)]) (S' := [.int (x1 - 10000), .int x2, .ref (hR h r0 5)]) (h' := h) rfl rfl rfl rfl).trans <|
    r_if (j := 20) rfl (cd_ge _ _) rfl
theorem b_Pg_take_20 {d : Nat} (x1 x2 x4 s0 : Int32) (r0 r3 t1 : Nat) (h : AH) (Q : Option Value → AH → Prop) : Wp d P_Pg_take 20 [.ref r0, .int x1, .int x2, .ref r3, .int x4] [.int s0, .ref t1] h Q ↔ Wp d P_Pg_take 31 [.ref r0, .int x1, .int x2, .ref r3, .int x4] [.int x1, .int s0, .ref t1] h Q :=
    (r_go (j := 21) (L' := [.ref r0, .int x1, .int x2, .ref r3, .int x4]) (S' := [.int x1, .int s0, .ref t1]) (h' := h) rfl rfl rfl rfl).trans <|
    r_go (j := 31) (L' := [.ref r0, .int x1, .int x2, .ref r3, .int x4]) (S' := [.int x1, .int s0, .ref t1]) (h' := h) rfl rfl rfl rfl
theorem b_Pg_take_22 {d : Nat} (x1 x2 x4 s0 : Int32) (r0 r3 t1 : Nat) (h : AH) (Q : Option Value → AH → Prop) : Wp d P_Pg_take 22 [.ref r0, .int x1, .int x2, .ref r3, .int x4] [.int s0, .ref t1] h Q ↔ (20 ≤ hK h r3 ∧ hK h r3 ≠ 40 ∧ hK h r3 ≠ 42 ∧ hK h r3 ≤ 45 ∧ hK h r3 ≠ 43) ∧ (((Int32.ofNat (hN h r3)) ≤ x4 → Wp d P_Pg_take 30 [.ref r0, .int x1, .int x2, .ref r3, .int x4] [.int s0, .ref t1] h Q) ∧ (¬ ((Int32.ofNat (hN h r3)) ≤ x4) → Wp d P_Pg_take 26 [.ref r0, .int x1, .int x2, .ref r3, .int x4] [.int s0, .ref t1] h Q)) :=
    (r_go (j := 23) (L' := [.ref r0, .int x1, .int x2, .ref r3, .int x4]) (S' := [.int x4, .int s0, .ref t1]) (h' := h) rfl rfl rfl rfl).trans <|
    (r_go (j := 24) (L' := [.ref r0, .int x1, .int x2, .ref r3, .int x4]) (S' := [.ref r3, .int x4, .int s0, .ref t1]) (h' := h) rfl rfl rfl rfl).trans <|
    (r_guard (j := 25) (L' := [.ref r0, .int x1, .int x2, .ref r3, .int x4]) (S' := [.int (Int32.ofNat (hN h r3)), .int x4, .int s0, .ref t1]) (h' := h) (p := 20 ≤ hK h r3 ∧ hK h r3 ≠ 40 ∧ hK h r3 ≠ 42 ∧ hK h r3 ≤ 45 ∧ hK h r3 ≠ 43) rfl rfl rfl rfl (decide_eq_true_iff)).trans <| and_r <|
    r_icmp (j := 26) rfl (cd_ge _ _) rfl
theorem b_Pg_take_26 {d : Nat} (x1 x2 x4 s0 : Int32) (r0 r3 t1 : Nat) (h : AH) (Q : Option Value → AH → Prop) : Wp d P_Pg_take 26 [.ref r0, .int x1, .int x2, .ref r3, .int x4] [.int s0, .ref t1] h Q ↔ (hK h r3 ∈ [20, 44] ∧ ixo x4 (hN h r3) = true) ∧ (Wp d P_Pg_take 31 [.ref r0, .int x1, .int x2, .ref r3, .int x4] [.int (hI h r3 (Int32.toNatClampNeg x4)), .int s0, .ref t1] h Q) :=
    (r_go (j := 27) (L' := [.ref r0, .int x1, .int x2, .ref r3, .int x4]) (S' := [.ref r3, .int s0, .ref t1]) (h' := h) rfl rfl rfl rfl).trans <|
    (r_go (j := 28) (L' := [.ref r0, .int x1, .int x2, .ref r3, .int x4]) (S' := [.int x4, .ref r3, .int s0, .ref t1]) (h' := h) rfl rfl rfl rfl).trans <|
    (r_guard (j := 29) (L' := [.ref r0, .int x1, .int x2, .ref r3, .int x4]) (S' := [.int (hI h r3 (Int32.toNatClampNeg x4)), .int s0, .ref t1]) (h' := h) (p := hK h r3 ∈ [20, 44] ∧ ixo x4 (hN h r3) = true) rfl rfl rfl rfl (and2 decide_eq_true_iff Iff.rfl)).trans <| and_r <|
    r_go (j := 31) (L' := [.ref r0, .int x1, .int x2, .ref r3, .int x4]) (S' := [.int (hI h r3 (Int32.toNatClampNeg x4)), .int s0, .ref t1]) (h' := h) rfl rfl rfl rfl
theorem b_Pg_take_30 {d : Nat} (x1 x2 x4 s0 : Int32) (r0 r3 t1 : Nat) (h : AH) (Q : Option Value → AH → Prop) : Wp d P_Pg_take 30 [.ref r0, .int x1, .int x2, .ref r3, .int x4] [.int s0, .ref t1] h Q ↔ Wp d P_Pg_take 31 [.ref r0, .int x1, .int x2, .ref r3, .int x4] [.int 0, .int s0, .ref t1] h Q :=
    r_iconst (j := 31) (x := 0) rfl i32_0 rfl
theorem b_Pg_take_31 {d : Nat} (x1 x2 x4 s0 s1 : Int32) (r0 r3 t2 : Nat) (h : AH) (Q : Option Value → AH → Prop) : Wp d P_Pg_take 31 [.ref r0, .int x1, .int x2, .ref r3, .int x4] [.int s0, .int s1, .ref t2] h Q ↔ (hK h t2 = 20 ∧ ixo s1 (hN h t2) = true) ∧ (Q (some (.int (x2 + 1))) (sI h t2 (Int32.toNatClampNeg s1) s0)) :=
    (r_guard (j := 32) (L' := [.ref r0, .int x1, .int x2, .ref r3, .int x4]) (S' := []) (h' := (sI h t2 (Int32.toNatClampNeg s1) s0)) (p := hK h t2 = 20 ∧ ixo s1 (hN h t2) = true) rfl rfl rfl rfl (and2 decide_eq_true_iff Iff.rfl)).trans <| and_r <|
    (r_go (j := 33) (L' := [.ref r0, .int x1, .int x2, .ref r3, .int x4]) (S' := [.int x2]) (h' := (sI h t2 (Int32.toNatClampNeg s1) s0)) rfl rfl rfl rfl).trans <|
    (r_iconst (j := 34) (x := 1) rfl i32_1 rfl).trans <|
    (r_go (j := 35) (L' := [.ref r0, .int x1, .int x2, .ref r3, .int x4]) (S' := [.int (x2 + 1)]) (h' := (sI h t2 (Int32.toNatClampNeg s1) s0)) rfl rfl rfl rfl).trans <|
    r_ret rfl rfl rfl
theorem b_Pg_take_36 {d : Nat} (x1 x2 : Int32) (r0 r3 : Nat) (h : AH) (Q : Option Value → AH → Prop) : Wp d P_Pg_take 36 [.ref r0, .int x1, .int x2, .ref r3, .null] [] h Q ↔ (¬ x1 = (-1) → Wp d P_Pg_take 65 [.ref r0, .int x1, .int x2, .ref r3, .null] [] h Q) ∧ (¬ (¬ x1 = (-1)) → Wp d P_Pg_take 39 [.ref r0, .int x1, .int x2, .ref r3, .null] [] h Q) :=
    (r_go (j := 37) (L' := [.ref r0, .int x1, .int x2, .ref r3, .null]) (S' := [.int x1]) (h' := h) rfl rfl rfl rfl).trans <|
    (r_iconst (j := 38) (x := (-1)) rfl i32_m1 rfl).trans <|
    r_icmp (j := 39) rfl (cd_ne _ _) rfl
theorem b_Pg_take_39 {d : Nat} (x1 x2 : Int32) (r0 r3 : Nat) (h : AH) (Q : Option Value → AH → Prop) : Wp d P_Pg_take 39 [.ref r0, .int x1, .int x2, .ref r3, .null] [] h Q ↔ (x2 < 1 → Wp d P_Pg_take 63 [.ref r0, .int x1, .int x2, .ref r3, .null] [] h Q) ∧ (¬ (x2 < 1) → Wp d P_Pg_take 42 [.ref r0, .int x1, .int x2, .ref r3, .null] [] h Q) :=
    (r_go (j := 40) (L' := [.ref r0, .int x1, .int x2, .ref r3, .null]) (S' := [.int x2]) (h' := h) rfl rfl rfl rfl).trans <|
    (r_iconst (j := 41) (x := 1) rfl i32_1 rfl).trans <|
    r_icmp (j := 42) rfl (cd_lt _ _) rfl
theorem b_Pg_take_42 {d : Nat} (x1 x2 : Int32) (r0 r3 : Nat) (h : AH) (Q : Option Value → AH → Prop) : Wp d P_Pg_take 42 [.ref r0, .int x1, .int x2, .ref r3, .null] [] h Q ↔ (hK h r0 = 6) ∧ ((20 ≤ hK h (hR h r0 5) ∧ hK h (hR h r0 5) ≠ 40 ∧ hK h (hR h r0 5) ≠ 42 ∧ hK h (hR h r0 5) ≤ 45 ∧ hK h (hR h r0 5) ≠ 43) ∧ (((Int32.ofNat (hN h (hR h r0 5))) < x2 → Wp d P_Pg_take 63 [.ref r0, .int x1, .int x2, .ref r3, .null] [] h Q) ∧ (¬ ((Int32.ofNat (hN h (hR h r0 5))) < x2) → Wp d P_Pg_take 47 [.ref r0, .int x1, .int x2, .ref r3, .null] [] h Q))) :=
    (r_go (j := 43) (L' := [.ref r0, .int x1, .int x2, .ref r3, .null]) (S' := [.int x2]) (h' := h) rfl rfl rfl rfl).trans <|
    (r_go (j := 44) (L' := [.ref r0, .int x1, .int x2, .ref r3, .null]) (S' := [.ref r0, .int x2]) (h' := h) rfl rfl rfl rfl).trans <|
    (r_guard (j := 45) (L' := [.ref r0, .int x1, .int x2, .ref r3, .null]) (S' := [.ref (hR h r0 5), .int x2]) (h' := h) (p := hK h r0 = 6) rfl rfl rfl rfl (decide_eq_true_iff)).trans <| and_r <|
    (r_guard (j := 46) (L' := [.ref r0, .int x1, .int x2, .ref r3, .null]) (S' := [.int (Int32.ofNat (hN h (hR h r0 5))), .int x2]) (h' := h) (p := 20 ≤ hK h (hR h r0 5) ∧ hK h (hR h r0 5) ≠ 40 ∧ hK h (hR h r0 5) ≠ 42 ∧ hK h (hR h r0 5) ≤ 45 ∧ hK h (hR h r0 5) ≠ 43) rfl rfl rfl rfl (decide_eq_true_iff)).trans <| and_r <|
    r_icmp (j := 47) rfl (cd_gt _ _) rfl
theorem b_Pg_take_47 {d : Nat} (x1 x2 : Int32) (r0 r3 : Nat) (h : AH) (Q : Option Value → AH → Prop) : Wp d P_Pg_take 47 [.ref r0, .int x1, .int x2, .ref r3, .null] [] h Q ↔ (hK h r0 = 6) ∧ ((hK h r0 = 6) ∧ ((hK h (hR h r0 5) ∈ [20, 44] ∧ ixo (x2 - 1) (hN h (hR h r0 5)) = true) ∧ ((¬ (hI h (hR h r0 5) (Int32.toNatClampNeg (x2 - 1))) = 0 → Wp d P_Pg_take 61 [.ref r0, .int x1, .int x2, .ref r3, .null] [.int (x2 - 1), .ref (hR h r0 5)] h Q) ∧ (¬ (¬ (hI h (hR h r0 5) (Int32.toNatClampNeg (x2 - 1))) = 0) → Wp d P_Pg_take 59 [.ref r0, .int x1, .int x2, .ref r3, .null] [.int (x2 - 1), .ref (hR h r0 5)] h Q)))) :=
    (r_go (j := 48) (L' := [.ref r0, .int x1, .int x2, .ref r3, .null]) (S' := [.ref r0]) (h' := h) rfl rfl rfl rfl).trans <|
    (r_guard (j := 49) (L' := [.ref r0, .int x1, .int x2, .ref r3, .null]) (S' := [.ref (hR h r0 5)]) (h' := h) (p := hK h r0 = 6) rfl rfl rfl rfl (decide_eq_true_iff)).trans <| and_r <|
    (r_go (j := 50) (L' := [.ref r0, .int x1, .int x2, .ref r3, .null]) (S' := [.int x2, .ref (hR h r0 5)]) (h' := h) rfl rfl rfl rfl).trans <|
    (r_iconst (j := 51) (x := 1) rfl i32_1 rfl).trans <|
    (r_go (j := 52) (L' := [.ref r0, .int x1, .int x2, .ref r3, .null]) (S' := [.int (x2 - 1), .ref (hR h r0 5)]) (h' := h) rfl rfl rfl rfl).trans <|
    (r_go (j := 53) (L' := [.ref r0, .int x1, .int x2, .ref r3, .null]) (S' := [.ref r0, .int (x2 - 1), .ref (hR h r0 5)]) (h' := h) rfl rfl rfl rfl).trans <|
    (r_guard (j := 54) (L' := [.ref r0, .int x1, .int x2, .ref r3, .null]) (S' := [.ref (hR h r0 5), .int (x2 - 1), .ref (hR h r0 5)]) (h' := h) (p := hK h r0 = 6) rfl rfl rfl rfl (decide_eq_true_iff)).trans <| and_r <|
    (r_go (j := 55) (L' := [.ref r0, .int x1, .int x2, .ref r3, .null]) (S' := [.int x2, .ref (hR h r0 5), .int (x2 - 1), .ref (hR h r0 5)]) (h' := h) rfl rfl rfl rfl).trans <|
    (r_iconst (j := 56) (x := 1) rfl i32_1 rfl).trans <|
    (r_go (j := 57) (L' := [.ref r0, .int x1, .int x2, .ref r3, .null]) (S' := [.int (x2 - 1), .ref (hR h r0 5), .int (x2 - 1), .ref (hR h r0 5)]) (h' := h) rfl rfl rfl rfl).trans <|
    (r_guard (j := 58) (L' := [.ref r0, .int x1, .int x2, .ref r3, .null]) (S' := [.int (hI h (hR h r0 5) (Int32.toNatClampNeg (x2 - 1))), .int (x2 - 1), .ref (hR h r0 5)]) (h' := h) (p := hK h (hR h r0 5) ∈ [20, 44] ∧ ixo (x2 - 1) (hN h (hR h r0 5)) = true) rfl rfl rfl rfl (and2 decide_eq_true_iff Iff.rfl)).trans <| and_r <|
    r_if (j := 59) rfl (cd_ne _ _) rfl
theorem b_Pg_take_59 {d : Nat} (x1 x2 s0 : Int32) (r0 r3 t1 : Nat) (h : AH) (Q : Option Value → AH → Prop) : Wp d P_Pg_take 59 [.ref r0, .int x1, .int x2, .ref r3, .null] [.int s0, .ref t1] h Q ↔ Wp d P_Pg_take 62 [.ref r0, .int x1, .int x2, .ref r3, .null] [.int 1, .int s0, .ref t1] h Q :=
    (r_iconst (j := 60) (x := 1) rfl i32_1 rfl).trans <|
    r_go (j := 62) (L' := [.ref r0, .int x1, .int x2, .ref r3, .null]) (S' := [.int 1, .int s0, .ref t1]) (h' := h) rfl rfl rfl rfl
theorem b_Pg_take_61 {d : Nat} (x1 x2 s0 : Int32) (r0 r3 t1 : Nat) (h : AH) (Q : Option Value → AH → Prop) : Wp d P_Pg_take 61 [.ref r0, .int x1, .int x2, .ref r3, .null] [.int s0, .ref t1] h Q ↔ Wp d P_Pg_take 62 [.ref r0, .int x1, .int x2, .ref r3, .null] [.int 0, .int s0, .ref t1] h Q :=
    r_iconst (j := 62) (x := 0) rfl i32_0 rfl
theorem b_Pg_take_62 {d : Nat} (x1 x2 s0 s1 : Int32) (r0 r3 t2 : Nat) (h : AH) (Q : Option Value → AH → Prop) : Wp d P_Pg_take 62 [.ref r0, .int x1, .int x2, .ref r3, .null] [.int s0, .int s1, .ref t2] h Q ↔ (hK h t2 = 20 ∧ ixo s1 (hN h t2) = true) ∧ (Wp d P_Pg_take 63 [.ref r0, .int x1, .int x2, .ref r3, .null] [] (sI h t2 (Int32.toNatClampNeg s1) s0) Q) :=
    r_guard (j := 63) (L' := [.ref r0, .int x1, .int x2, .ref r3, .null]) (S' := []) (h' := (sI h t2 (Int32.toNatClampNeg s1) s0)) (p := hK h t2 = 20 ∧ ixo s1 (hN h t2) = true) rfl rfl rfl rfl (and2 decide_eq_true_iff Iff.rfl)
theorem b_Pg_take_63 {d : Nat} (x1 x2 : Int32) (r0 r3 : Nat) (h : AH) (Q : Option Value → AH → Prop) : Wp d P_Pg_take 63 [.ref r0, .int x1, .int x2, .ref r3, .null] [] h Q ↔ Q (some (.int x2)) h :=
    (r_go (j := 64) (L' := [.ref r0, .int x1, .int x2, .ref r3, .null]) (S' := [.int x2]) (h' := h) rfl rfl rfl rfl).trans <|
    r_ret rfl rfl rfl
theorem b_Pg_take_65 {d : Nat} (x1 x2 : Int32) (r0 r3 : Nat) (h : AH) (Q : Option Value → AH → Prop) : Wp d P_Pg_take 65 [.ref r0, .int x1, .int x2, .ref r3, .null] [] h Q ↔ (x2 < 2 → Wp d P_Pg_take 73 [.ref r0, .int x1, .int x2, .ref r3, .null] [] h Q) ∧ (¬ (x2 < 2) → Wp d P_Pg_take 68 [.ref r0, .int x1, .int x2, .ref r3, .null] [] h Q) :=
    (r_go (j := 66) (L' := [.ref r0, .int x1, .int x2, .ref r3, .null]) (S' := [.int x2]) (h' := h) rfl rfl rfl rfl).trans <|
    (r_iconst (j := 67) (x := 2) rfl i32_2 rfl).trans <|
    r_icmp (j := 68) rfl (cd_lt _ _) rfl
theorem b_Pg_take_68 {d : Nat} (x1 x2 : Int32) (r0 r3 : Nat) (h : AH) (Q : Option Value → AH → Prop) : Wp d P_Pg_take 68 [.ref r0, .int x1, .int x2, .ref r3, .null] [] h Q ↔ (hK h r0 = 6) ∧ ((20 ≤ hK h (hR h r0 5) ∧ hK h (hR h r0 5) ≠ 40 ∧ hK h (hR h r0 5) ≠ 42 ∧ hK h (hR h r0 5) ≤ 45 ∧ hK h (hR h r0 5) ≠ 43) ∧ ((x2 ≤ (Int32.ofNat (hN h (hR h r0 5))) → Wp d P_Pg_take 75 [.ref r0, .int x1, .int x2, .ref r3, .null] [] h Q) ∧ (¬ (x2 ≤ (Int32.ofNat (hN h (hR h r0 5)))) → Wp d P_Pg_take 73 [.ref r0, .int x1, .int x2, .ref r3, .null] [] h Q))) :=
    (r_go (j := 69) (L' := [.ref r0, .int x1, .int x2, .ref r3, .null]) (S' := [.int x2]) (h' := h) rfl rfl rfl rfl).trans <|
    (r_go (j := 70) (L' := [.ref r0, .int x1, .int x2, .ref r3, .null]) (S' := [.ref r0, .int x2]) (h' := h) rfl rfl rfl rfl).trans <|
    (r_guard (j := 71) (L' := [.ref r0, .int x1, .int x2, .ref r3, .null]) (S' := [.ref (hR h r0 5), .int x2]) (h' := h) (p := hK h r0 = 6) rfl rfl rfl rfl (decide_eq_true_iff)).trans <| and_r <|
    (r_guard (j := 72) (L' := [.ref r0, .int x1, .int x2, .ref r3, .null]) (S' := [.int (Int32.ofNat (hN h (hR h r0 5))), .int x2]) (h' := h) (p := 20 ≤ hK h (hR h r0 5) ∧ hK h (hR h r0 5) ≠ 40 ∧ hK h (hR h r0 5) ≠ 42 ∧ hK h (hR h r0 5) ≤ 45 ∧ hK h (hR h r0 5) ≠ 43) rfl rfl rfl rfl (decide_eq_true_iff)).trans <| and_r <|
    r_icmp (j := 73) rfl (cd_le _ _) rfl
theorem b_Pg_take_73 {d : Nat} (x1 x2 : Int32) (r0 r3 : Nat) (h : AH) (Q : Option Value → AH → Prop) : Wp d P_Pg_take 73 [.ref r0, .int x1, .int x2, .ref r3, .null] [] h Q ↔ Q (some (.int x2)) h :=
    (r_go (j := 74) (L' := [.ref r0, .int x1, .int x2, .ref r3, .null]) (S' := [.int x2]) (h' := h) rfl rfl rfl rfl).trans <|
    r_ret rfl rfl rfl
theorem b_Pg_take_75 {d : Nat} (x1 x2 : Int32) (r0 r3 : Nat) (h : AH) (Q : Option Value → AH → Prop) : Wp d P_Pg_take 75 [.ref r0, .int x1, .int x2, .ref r3, .null] [] h Q ↔ (hK h r0 = 6) ∧ ((hK h r0 = 6) ∧ ((hK h (hR h r0 5) ∈ [20, 44] ∧ ixo (x2 - 2) (hN h (hR h r0 5)) = true) ∧ ((hK h r0 = 6) ∧ ((hK h (hR h r0 5) ∈ [20, 44] ∧ ixo (x2 - 1) (hN h (hR h r0 5)) = true) ∧ (Cl d q_Pg_joined [.int x1, .int (hI h (hR h r0 5) (Int32.toNatClampNeg (x2 - 2))), .int (hI h (hR h r0 5) (Int32.toNatClampNeg (x2 - 1)))] h (fun r h' => Wp d P_Pg_take 94 [.ref r0, .int x1, .int x2, .ref r3, .null] (r.toList ++ [.int (x2 - 2), .ref (hR h r0 5)]) h' Q)))))) :=
    (r_go (j := 76) (L' := [.ref r0, .int x1, .int x2, .ref r3, .null]) (S' := [.ref r0]) (h' := h) rfl rfl rfl rfl).trans <|
    (r_guard (j := 77) (L' := [.ref r0, .int x1, .int x2, .ref r3, .null]) (S' := [.ref (hR h r0 5)]) (h' := h) (p := hK h r0 = 6) rfl rfl rfl rfl (decide_eq_true_iff)).trans <| and_r <|
    (r_go (j := 78) (L' := [.ref r0, .int x1, .int x2, .ref r3, .null]) (S' := [.int x2, .ref (hR h r0 5)]) (h' := h) rfl rfl rfl rfl).trans <|
    (r_iconst (j := 79) (x := 2) rfl i32_2 rfl).trans <|
    (r_go (j := 80) (L' := [.ref r0, .int x1, .int x2, .ref r3, .null]) (S' := [.int (x2 - 2), .ref (hR h r0 5)]) (h' := h) rfl rfl rfl rfl).trans <|
    (r_go (j := 81) (L' := [.ref r0, .int x1, .int x2, .ref r3, .null]) (S' := [.int x1, .int (x2 - 2), .ref (hR h r0 5)]) (h' := h) rfl rfl rfl rfl).trans <|
    (r_go (j := 82) (L' := [.ref r0, .int x1, .int x2, .ref r3, .null]) (S' := [.ref r0, .int x1, .int (x2 - 2), .ref (hR h r0 5)]) (h' := h) rfl rfl rfl rfl).trans <|
    (r_guard (j := 83) (L' := [.ref r0, .int x1, .int x2, .ref r3, .null]) (S' := [.ref (hR h r0 5), .int x1, .int (x2 - 2), .ref (hR h r0 5)]) (h' := h) (p := hK h r0 = 6) rfl rfl rfl rfl (decide_eq_true_iff)).trans <| and_r <|
    (r_go (j := 84) (L' := [.ref r0, .int x1, .int x2, .ref r3, .null]) (S' := [.int x2, .ref (hR h r0 5), .int x1, .int (x2 - 2), .ref (hR h r0 5)]) (h' := h) rfl rfl rfl rfl).trans <|
    (r_iconst (j := 85) (x := 2) rfl i32_2 rfl).trans <|
    (r_go (j := 86) (L' := [.ref r0, .int x1, .int x2, .ref r3, .null]) (S' := [.int (x2 - 2), .ref (hR h r0 5), .int x1, .int (x2 - 2), .ref (hR h r0 5)]) (h' := h) rfl rfl rfl rfl).trans <|
    (r_guard (j := 87) (L' := [.ref r0, .int x1, .int x2, .ref r3, .null]) (S' := [.int (hI h (hR h r0 5) (Int32.toNatClampNeg (x2 - 2))), .int x1, .int (x2 - 2), .ref (hR h r0 5)]) (h' := h) (p := hK h (hR h r0 5) ∈ [20, 44] ∧ ixo (x2 - 2) (hN h (hR h r0 5)) = true) rfl rfl rfl rfl (and2 decide_eq_true_iff Iff.rfl)).trans <| and_r <|
    (r_go (j := 88) (L' := [.ref r0, .int x1, .int x2, .ref r3, .null]) (S' := [.ref r0, .int (hI h (hR h r0 5) (Int32.toNatClampNeg (x2 - 2))), .int x1, .int (x2 - 2), .ref (hR h r0 5)]) (h' := h) rfl rfl rfl rfl).trans <|
    (r_guard (j := 89) (L' := [.ref r0, .int x1, .int x2, .ref r3, .null]) (S' := [.ref (hR h r0 5), .int (hI h (hR h r0 5) (Int32.toNatClampNeg (x2 - 2))), .int x1, .int (x2 - 2), .ref (hR h r0 5)]) (h' := h) (p := hK h r0 = 6) rfl rfl rfl rfl (decide_eq_true_iff)).trans <| and_r <|
    (r_go (j := 90) (L' := [.ref r0, .int x1, .int x2, .ref r3, .null]) (S' := [.int x2, .ref (hR h r0 5), .int (hI h (hR h r0 5) (Int32.toNatClampNeg (x2 - 2))), .int x1, .int (x2 - 2), .ref (hR h r0 5)]) (h' := h) rfl rfl rfl rfl).trans <|
    (r_iconst (j := 91) (x := 1) rfl i32_1 rfl).trans <|
    (r_go (j := 92) (L' := [.ref r0, .int x1, .int x2, .ref r3, .null]) (S' := [.int (x2 - 1), .ref (hR h r0 5), .int (hI h (hR h r0 5) (Int32.toNatClampNeg (x2 - 2))), .int x1, .int (x2 - 2), .ref (hR h r0 5)]) (h' := h) rfl rfl rfl rfl).trans <|
    (r_guard (j := 93) (L' := [.ref r0, .int x1, .int x2, .ref r3, .null]) (S' := [.int (hI h (hR h r0 5) (Int32.toNatClampNeg (x2 - 1))), .int (hI h (hR h r0 5) (Int32.toNatClampNeg (x2 - 2))), .int x1, .int (x2 - 2), .ref (hR h r0 5)]) (h' := h) (p := hK h (hR h r0 5) ∈ [20, 44] ∧ ixo (x2 - 1) (hN h (hR h r0 5)) = true) rfl rfl rfl rfl (and2 decide_eq_true_iff Iff.rfl)).trans <| and_r <|
    r_call (j := 94) (a := [.int x1, .int (hI h (hR h r0 5) (Int32.toNatClampNeg (x2 - 2))), .int (hI h (hR h r0 5) (Int32.toNatClampNeg (x2 - 1)))]) (S' := [.int (x2 - 2), .ref (hR h r0 5)]) rfl rfl rfl rfl rfl rfl rfl
theorem b_Pg_take_94 {d : Nat} (x1 x2 s0 s1 : Int32) (r0 r3 t2 : Nat) (h : AH) (Q : Option Value → AH → Prop) : Wp d P_Pg_take 94 [.ref r0, .int x1, .int x2, .ref r3, .null] [.int s0, .int s1, .ref t2] h Q ↔ (hK h t2 = 20 ∧ ixo s1 (hN h t2) = true) ∧ (Q (some (.int (x2 - 1))) (sI h t2 (Int32.toNatClampNeg s1) s0)) :=
    (r_guard (j := 95) (L' := [.ref r0, .int x1, .int x2, .ref r3, .null]) (S' := []) (h' := (sI h t2 (Int32.toNatClampNeg s1) s0)) (p := hK h t2 = 20 ∧ ixo s1 (hN h t2) = true) rfl rfl rfl rfl (and2 decide_eq_true_iff Iff.rfl)).trans <| and_r <|
    (r_go (j := 96) (L' := [.ref r0, .int x1, .int x2, .ref r3, .null]) (S' := [.int x2]) (h' := (sI h t2 (Int32.toNatClampNeg s1) s0)) rfl rfl rfl rfl).trans <|
    (r_iconst (j := 97) (x := 1) rfl i32_1 rfl).trans <|
    (r_go (j := 98) (L' := [.ref r0, .int x1, .int x2, .ref r3, .null]) (S' := [.int (x2 - 1)]) (h' := (sI h t2 (Int32.toNatClampNeg s1) s0)) rfl rfl rfl rfl).trans <|
    r_ret rfl rfl rfl
theorem e_Pg_take {d : Nat} (x1 x2 : Int32) (r0 r3 : Nat) (h : AH) (Q : Option Value → AH → Prop) : Cl (d + 1) q_Pg_take [.ref r0, .int x1, .int x2, .ref r3] h Q ↔ hK h r0 = 6 ∧ Wp d P_Pg_take 0 [.ref r0, .int x1, .int x2, .ref r3, .null] [] h (fun r h' => rtk (some .int) r = true ∧ Q r h') :=
    (Cl_method (t := m_Pg_take) rfl).trans (and_congr_left fun _ => decide_eq_true_iff)
/-! PenThatJumps$Program.joined(III)I -/
theorem b_Pg_joined_0 {d : Nat} (x0 x1 x2 : Int32) (h : AH) (Q : Option Value → AH → Prop) : Wp d P_Pg_joined 0 [.int x0, .int x1, .int x2] [] h Q ↔ (Int32.toInt x0 < (-8) ∨ (-8) + (List.length [40, 36, 32, 25, 18, 10, 2] : Nat) ≤ Int32.toInt x0 → Wp d P_Pg_joined 44 [.int x0, .int x1, .int x2] [] h Q) ∧ (¬ (Int32.toInt x0 < (-8) ∨ (-8) + (List.length [40, 36, 32, 25, 18, 10, 2] : Nat) ≤ Int32.toInt x0) → Wp d P_Pg_joined (List.getD [40, 36, 32, 25, 18, 10, 2] (Int32.toInt x0 - (-8)).toNat 0) [.int x0, .int x1, .int x2] [] h Q) :=
    (r_go (j := 1) (L' := [.int x0, .int x1, .int x2]) (S' := [.int x0]) (h' := h) rfl rfl rfl rfl).trans <|
    r_tsw rfl
theorem b_Pg_joined_2 {d : Nat} (x0 x1 x2 : Int32) (h : AH) (Q : Option Value → AH → Prop) : Wp d P_Pg_joined 2 [.int x0, .int x1, .int x2] [] h Q ↔ (x1 = 0 → Wp d P_Pg_joined 8 [.int x0, .int x1, .int x2] [] h Q) ∧ (¬ (x1 = 0) → Wp d P_Pg_joined 4 [.int x0, .int x1, .int x2] [] h Q) :=
    (r_go (j := 3) (L' := [.int x0, .int x1, .int x2]) (S' := [.int x1]) (h' := h) rfl rfl rfl rfl).trans <|
    r_if (j := 4) rfl (cd_eq _ _) rfl
theorem b_Pg_joined_4 {d : Nat} (x0 x1 x2 : Int32) (h : AH) (Q : Option Value → AH → Prop) : Wp d P_Pg_joined 4 [.int x0, .int x1, .int x2] [] h Q ↔ (x2 = 0 → Wp d P_Pg_joined 8 [.int x0, .int x1, .int x2] [] h Q) ∧ (¬ (x2 = 0) → Wp d P_Pg_joined 6 [.int x0, .int x1, .int x2] [] h Q) :=
    (r_go (j := 5) (L' := [.int x0, .int x1, .int x2]) (S' := [.int x2]) (h' := h) rfl rfl rfl rfl).trans <|
    r_if (j := 6) rfl (cd_eq _ _) rfl
theorem b_Pg_joined_6 {d : Nat} (x0 x1 x2 : Int32) (h : AH) (Q : Option Value → AH → Prop) : Wp d P_Pg_joined 6 [.int x0, .int x1, .int x2] [] h Q ↔ Wp d P_Pg_joined 9 [.int x0, .int x1, .int x2] [.int 1] h Q :=
    (r_iconst (j := 7) (x := 1) rfl i32_1 rfl).trans <|
    r_go (j := 9) (L' := [.int x0, .int x1, .int x2]) (S' := [.int 1]) (h' := h) rfl rfl rfl rfl
theorem b_Pg_joined_8 {d : Nat} (x0 x1 x2 : Int32) (h : AH) (Q : Option Value → AH → Prop) : Wp d P_Pg_joined 8 [.int x0, .int x1, .int x2] [] h Q ↔ Wp d P_Pg_joined 9 [.int x0, .int x1, .int x2] [.int 0] h Q :=
    r_iconst (j := 9) (x := 0) rfl i32_0 rfl
theorem b_Pg_joined_9 {d : Nat} (x0 x1 x2 s0 : Int32) (h : AH) (Q : Option Value → AH → Prop) : Wp d P_Pg_joined 9 [.int x0, .int x1, .int x2] [.int s0] h Q ↔ Q (some (.int s0)) h :=
    r_ret rfl rfl rfl
theorem b_Pg_joined_10 {d : Nat} (x0 x1 x2 : Int32) (h : AH) (Q : Option Value → AH → Prop) : Wp d P_Pg_joined 10 [.int x0, .int x1, .int x2] [] h Q ↔ (¬ x1 = 0 → Wp d P_Pg_joined 14 [.int x0, .int x1, .int x2] [] h Q) ∧ (¬ (¬ x1 = 0) → Wp d P_Pg_joined 12 [.int x0, .int x1, .int x2] [] h Q) :=
    (r_go (j := 11) (L' := [.int x0, .int x1, .int x2]) (S' := [.int x1]) (h' := h) rfl rfl rfl rfl).trans <|
    r_if (j := 12) rfl (cd_ne _ _) rfl
theorem b_Pg_joined_12 {d : Nat} (x0 x1 x2 : Int32) (h : AH) (Q : Option Value → AH → Prop) : Wp d P_Pg_joined 12 [.int x0, .int x1, .int x2] [] h Q ↔ (x2 = 0 → Wp d P_Pg_joined 16 [.int x0, .int x1, .int x2] [] h Q) ∧ (¬ (x2 = 0) → Wp d P_Pg_joined 14 [.int x0, .int x1, .int x2] [] h Q) :=
    (r_go (j := 13) (L' := [.int x0, .int x1, .int x2]) (S' := [.int x2]) (h' := h) rfl rfl rfl rfl).trans <|
    r_if (j := 14) rfl (cd_eq _ _) rfl
theorem b_Pg_joined_14 {d : Nat} (x0 x1 x2 : Int32) (h : AH) (Q : Option Value → AH → Prop) : Wp d P_Pg_joined 14 [.int x0, .int x1, .int x2] [] h Q ↔ Wp d P_Pg_joined 17 [.int x0, .int x1, .int x2] [.int 1] h Q :=
    (r_iconst (j := 15) (x := 1) rfl i32_1 rfl).trans <|
    r_go (j := 17) (L' := [.int x0, .int x1, .int x2]) (S' := [.int 1]) (h' := h) rfl rfl rfl rfl
theorem b_Pg_joined_16 {d : Nat} (x0 x1 x2 : Int32) (h : AH) (Q : Option Value → AH → Prop) : Wp d P_Pg_joined 16 [.int x0, .int x1, .int x2] [] h Q ↔ Wp d P_Pg_joined 17 [.int x0, .int x1, .int x2] [.int 0] h Q :=
    r_iconst (j := 17) (x := 0) rfl i32_0 rfl
theorem b_Pg_joined_17 {d : Nat} (x0 x1 x2 s0 : Int32) (h : AH) (Q : Option Value → AH → Prop) : Wp d P_Pg_joined 17 [.int x0, .int x1, .int x2] [.int s0] h Q ↔ Q (some (.int s0)) h :=
    r_ret rfl rfl rfl
theorem b_Pg_joined_18 {d : Nat} (x0 x1 x2 : Int32) (h : AH) (Q : Option Value → AH → Prop) : Wp d P_Pg_joined 18 [.int x0, .int x1, .int x2] [] h Q ↔ (x2 ≤ x1 → Wp d P_Pg_joined 23 [.int x0, .int x1, .int x2] [] h Q) ∧ (¬ (x2 ≤ x1) → Wp d P_Pg_joined 21 [.int x0, .int x1, .int x2] [] h Q) :=
    (r_go (j := 19) (L' := [.int x0, .int x1, .int x2]) (S' := [.int x1]) (h' := h) rfl rfl rfl rfl).trans <|
    (r_go (j := 20) (L' := [.int x0, .int x1, .int x2]) (S' := [.int x2, .int x1]) (h' := h) rfl rfl rfl rfl).trans <|
    r_icmp (j := 21) rfl (cd_ge _ _) rfl
theorem b_Pg_joined_21 {d : Nat} (x0 x1 x2 : Int32) (h : AH) (Q : Option Value → AH → Prop) : Wp d P_Pg_joined 21 [.int x0, .int x1, .int x2] [] h Q ↔ Wp d P_Pg_joined 24 [.int x0, .int x1, .int x2] [.int 1] h Q :=
    (r_iconst (j := 22) (x := 1) rfl i32_1 rfl).trans <|
    r_go (j := 24) (L' := [.int x0, .int x1, .int x2]) (S' := [.int 1]) (h' := h) rfl rfl rfl rfl
theorem b_Pg_joined_23 {d : Nat} (x0 x1 x2 : Int32) (h : AH) (Q : Option Value → AH → Prop) : Wp d P_Pg_joined 23 [.int x0, .int x1, .int x2] [] h Q ↔ Wp d P_Pg_joined 24 [.int x0, .int x1, .int x2] [.int 0] h Q :=
    r_iconst (j := 24) (x := 0) rfl i32_0 rfl
theorem b_Pg_joined_24 {d : Nat} (x0 x1 x2 s0 : Int32) (h : AH) (Q : Option Value → AH → Prop) : Wp d P_Pg_joined 24 [.int x0, .int x1, .int x2] [.int s0] h Q ↔ Q (some (.int s0)) h :=
    r_ret rfl rfl rfl
theorem b_Pg_joined_25 {d : Nat} (x0 x1 x2 : Int32) (h : AH) (Q : Option Value → AH → Prop) : Wp d P_Pg_joined 25 [.int x0, .int x1, .int x2] [] h Q ↔ (¬ x1 = x2 → Wp d P_Pg_joined 30 [.int x0, .int x1, .int x2] [] h Q) ∧ (¬ (¬ x1 = x2) → Wp d P_Pg_joined 28 [.int x0, .int x1, .int x2] [] h Q) :=
    (r_go (j := 26) (L' := [.int x0, .int x1, .int x2]) (S' := [.int x1]) (h' := h) rfl rfl rfl rfl).trans <|
    (r_go (j := 27) (L' := [.int x0, .int x1, .int x2]) (S' := [.int x2, .int x1]) (h' := h) rfl rfl rfl rfl).trans <|
    r_icmp (j := 28) rfl (cd_ne _ _) rfl
theorem b_Pg_joined_28 {d : Nat} (x0 x1 x2 : Int32) (h : AH) (Q : Option Value → AH → Prop) : Wp d P_Pg_joined 28 [.int x0, .int x1, .int x2] [] h Q ↔ Wp d P_Pg_joined 31 [.int x0, .int x1, .int x2] [.int 1] h Q :=
    (r_iconst (j := 29) (x := 1) rfl i32_1 rfl).trans <|
    r_go (j := 31) (L' := [.int x0, .int x1, .int x2]) (S' := [.int 1]) (h' := h) rfl rfl rfl rfl
theorem b_Pg_joined_30 {d : Nat} (x0 x1 x2 : Int32) (h : AH) (Q : Option Value → AH → Prop) : Wp d P_Pg_joined 30 [.int x0, .int x1, .int x2] [] h Q ↔ Wp d P_Pg_joined 31 [.int x0, .int x1, .int x2] [.int 0] h Q :=
    r_iconst (j := 31) (x := 0) rfl i32_0 rfl
theorem b_Pg_joined_31 {d : Nat} (x0 x1 x2 s0 : Int32) (h : AH) (Q : Option Value → AH → Prop) : Wp d P_Pg_joined 31 [.int x0, .int x1, .int x2] [.int s0] h Q ↔ Q (some (.int s0)) h :=
    r_ret rfl rfl rfl
theorem b_Pg_joined_32 {d : Nat} (x0 x1 x2 : Int32) (h : AH) (Q : Option Value → AH → Prop) : Wp d P_Pg_joined 32 [.int x0, .int x1, .int x2] [] h Q ↔ Q (some (.int (x1 + x2))) h :=
    (r_go (j := 33) (L' := [.int x0, .int x1, .int x2]) (S' := [.int x1]) (h' := h) rfl rfl rfl rfl).trans <|
    (r_go (j := 34) (L' := [.int x0, .int x1, .int x2]) (S' := [.int x2, .int x1]) (h' := h) rfl rfl rfl rfl).trans <|
    (r_go (j := 35) (L' := [.int x0, .int x1, .int x2]) (S' := [.int (x1 + x2)]) (h' := h) rfl rfl rfl rfl).trans <|
    r_ret rfl rfl rfl
theorem b_Pg_joined_36 {d : Nat} (x0 x1 x2 : Int32) (h : AH) (Q : Option Value → AH → Prop) : Wp d P_Pg_joined 36 [.int x0, .int x1, .int x2] [] h Q ↔ Q (some (.int (x1 - x2))) h :=
    (r_go (j := 37) (L' := [.int x0, .int x1, .int x2]) (S' := [.int x1]) (h' := h) rfl rfl rfl rfl).trans <|
    (r_go (j := 38) (L' := [.int x0, .int x1, .int x2]) (S' := [.int x2, .int x1]) (h' := h) rfl rfl rfl rfl).trans <|
    (r_go (j := 39) (L' := [.int x0, .int x1, .int x2]) (S' := [.int (x1 - x2)]) (h' := h) rfl rfl rfl rfl).trans <|
    r_ret rfl rfl rfl
theorem b_Pg_joined_40 {d : Nat} (x0 x1 x2 : Int32) (h : AH) (Q : Option Value → AH → Prop) : Wp d P_Pg_joined 40 [.int x0, .int x1, .int x2] [] h Q ↔ Q (some (.int (x1 * x2))) h :=
    (r_go (j := 41) (L' := [.int x0, .int x1, .int x2]) (S' := [.int x1]) (h' := h) rfl rfl rfl rfl).trans <|
    (r_go (j := 42) (L' := [.int x0, .int x1, .int x2]) (S' := [.int x2, .int x1]) (h' := h) rfl rfl rfl rfl).trans <|
    (r_go (j := 43) (L' := [.int x0, .int x1, .int x2]) (S' := [.int (x1 * x2)]) (h' := h) rfl rfl rfl rfl).trans <|
    r_ret rfl rfl rfl
theorem b_Pg_joined_44 {d : Nat} (x0 x1 x2 : Int32) (h : AH) (Q : Option Value → AH → Prop) : Wp d P_Pg_joined 44 [.int x0, .int x1, .int x2] [] h Q ↔ Q (some (.int 0)) h :=
    (r_iconst (j := 45) (x := 0) rfl i32_0 rfl).trans <|
    r_ret rfl rfl rfl
theorem e_Pg_joined {d : Nat} (x0 x1 x2 : Int32) (h : AH) (Q : Option Value → AH → Prop) : Cl (d + 1) q_Pg_joined [.int x0, .int x1, .int x2] h Q ↔ Wp d P_Pg_joined 0 [.int x0, .int x1, .int x2] [] h (fun r h' => rtk (some .int) r = true ∧ Q r h') :=
    (Cl_method (t := m_Pg_joined) rfl).trans (and_iff_right rfl)
/-! PenThatJumps$Sitting.<init>()V -/
theorem b_Si_init_0 {d : Nat} (r0 : Nat) (h : AH) (Q : Option Value → AH → Prop) : Wp d P_Si_init 0 [.ref r0] [] h Q ↔ Cl d 301 [.ref r0] h (fun r h' => Wp d P_Si_init 2 [.ref r0] (r.toList ++ []) h' Q) :=
    (r_go (j := 1) (L' := [.ref r0]) (S' := [.ref r0]) (h' := h) rfl rfl rfl rfl).trans <|
    r_call (j := 2) (a := [.ref r0]) (S' := []) rfl rfl rfl rfl rfl rfl rfl
theorem b_Si_init_2 {d : Nat} (r0 : Nat) (h : AH) (Q : Option Value → AH → Prop) : Wp d P_Si_init 2 [.ref r0] [] h Q ↔ Wp d P_Si_init 4 [.ref r0] [.ref (hz h), .ref r0] (mkC h 4 0 4) Q :=
    (r_go (j := 3) (L' := [.ref r0]) (S' := [.ref r0]) (h' := h) rfl rfl rfl rfl).trans <|
    r_go (j := 4) (L' := [.ref r0]) (S' := [.ref (hz h), .ref r0]) (h' := (mkC h 4 0 4)) rfl rfl rfl rfl
theorem b_Si_init_4 {d : Nat} (r0 t0 t1 : Nat) (h : AH) (Q : Option Value → AH → Prop) : Wp d P_Si_init 4 [.ref r0] [.ref t0, .ref t1] h Q ↔ Cl d q_Pl_init [.ref t0] h (fun r h' => Wp d P_Si_init 6 [.ref r0] (r.toList ++ [.ref t0, .ref t1]) h' Q) :=
    (r_go (j := 5) (L' := [.ref r0]) (S' := [.ref t0, .ref t0, .ref t1]) (h' := h) rfl rfl rfl rfl).trans <|
    r_call (j := 6) (a := [.ref t0]) (S' := [.ref t0, .ref t1]) rfl rfl rfl rfl rfl rfl rfl
theorem b_Si_init_6 {d : Nat} (r0 t0 t1 : Nat) (h : AH) (Q : Option Value → AH → Prop) : Wp d P_Si_init 6 [.ref r0] [.ref t0, .ref t1] h Q ↔ (hK h t1 = 7) ∧ (Wp d P_Si_init 7 [.ref r0] [] (sR h t1 0 t0) Q) :=
    r_guard (j := 7) (L' := [.ref r0]) (S' := []) (h' := (sR h t1 0 t0)) (p := hK h t1 = 7) rfl rfl rfl rfl (pfR rfl)
theorem b_Si_init_7 {d : Nat} (r0 : Nat) (h : AH) (Q : Option Value → AH → Prop) : Wp d P_Si_init 7 [.ref r0] [] h Q ↔ ((0 : Int32) ≤ 36 ∧ Int32.toNatClampNeg 36 ≤ 10000) ∧ (Wp d P_Si_init 10 [.ref r0] [.ref (hz h), .ref r0] (mkC h 20 (Int32.toNatClampNeg 36) (Int32.toNatClampNeg 36)) Q) :=
    (r_go (j := 8) (L' := [.ref r0]) (S' := [.ref r0]) (h' := h) rfl rfl rfl rfl).trans <|
    (r_bipush (j := 9) (x := 36) rfl i32_36 rfl).trans <|
    r_guard (j := 10) (L' := [.ref r0]) (S' := [.ref (hz h), .ref r0]) (h' := (mkC h 20 (Int32.toNatClampNeg 36) (Int32.toNatClampNeg 36))) (p := (0 : Int32) ≤ 36 ∧ Int32.toNatClampNeg 36 ≤ 10000) rfl rfl rfl rfl (and2 decide_eq_true_iff decide_eq_true_iff)
theorem b_Si_init_10 {d : Nat} (r0 t0 t1 : Nat) (h : AH) (Q : Option Value → AH → Prop) : Wp d P_Si_init 10 [.ref r0] [.ref t0, .ref t1] h Q ↔ (hK h t1 = 7) ∧ (Wp d P_Si_init 11 [.ref r0] [] (sR h t1 1 t0) Q) :=
    r_guard (j := 11) (L' := [.ref r0]) (S' := []) (h' := (sR h t1 1 t0)) (p := hK h t1 = 7) rfl rfl rfl rfl (pfR rfl)
theorem b_Si_init_11 {d : Nat} (r0 : Nat) (h : AH) (Q : Option Value → AH → Prop) : Wp d P_Si_init 11 [.ref r0] [] h Q ↔ Q (none) h :=
    r_ret rfl rfl rfl
theorem e_Si_init {d : Nat} (r0 : Nat) (h : AH) (Q : Option Value → AH → Prop) : Cl (d + 1) q_Si_init [.ref r0] h Q ↔ hK h r0 = 7 ∧ Wp d P_Si_init 0 [.ref r0] [] h (fun r h' => rtk (none) r = true ∧ Q r h') :=
    (Cl_method (t := m_Si_init) rfl).trans (and_congr_left fun _ => decide_eq_true_iff)
/-! PenThatJumps$Sitting.begin(LPenThatJumps$Plan;I)V -/
theorem b_Si_begin_0 {d : Nat} (x2 : Int32) (r0 r1 : Nat) (h : AH) (Q : Option Value → AH → Prop) : Wp d P_Si_begin 0 [.ref r0, .ref r1, .int x2] [] h Q ↔ (hK h r0 = 7) ∧ (Cl d q_Pl_become [.ref (hR h r0 0), .ref r1] h (fun r h' => Wp d P_Si_begin 4 [.ref r0, .ref r1, .int x2] (r.toList ++ []) h' Q)) :=
    (r_go (j := 1) (L' := [.ref r0, .ref r1, .int x2]) (S' := [.ref r0]) (h' := h) rfl rfl rfl rfl).trans <|
    (r_guard (j := 2) (L' := [.ref r0, .ref r1, .int x2]) (S' := [.ref (hR h r0 0)]) (h' := h) (p := hK h r0 = 7) rfl rfl rfl rfl (decide_eq_true_iff)).trans <| and_r <|
    (r_go (j := 3) (L' := [.ref r0, .ref r1, .int x2]) (S' := [.ref r1, .ref (hR h r0 0)]) (h' := h) rfl rfl rfl rfl).trans <|
    r_call (j := 4) (a := [.ref (hR h r0 0), .ref r1]) (S' := []) rfl rfl rfl rfl rfl rfl rfl
theorem b_Si_begin_4 {d : Nat} (x2 : Int32) (r0 r1 : Nat) (h : AH) (Q : Option Value → AH → Prop) : Wp d P_Si_begin 4 [.ref r0, .ref r1, .int x2] [] h Q ↔ (hK h r0 = 7) ∧ (Q (none) (sI h r0 2 x2)) :=
    (r_go (j := 5) (L' := [.ref r0, .ref r1, .int x2]) (S' := [.ref r0]) (h' := h) rfl rfl rfl rfl).trans <|
    (r_go (j := 6) (L' := [.ref r0, .ref r1, .int x2]) (S' := [.int x2, .ref r0]) (h' := h) rfl rfl rfl rfl).trans <|
    (r_guard (j := 7) (L' := [.ref r0, .ref r1, .int x2]) (S' := []) (h' := (sI h r0 2 x2)) (p := hK h r0 = 7) rfl rfl rfl rfl (pfI rfl)).trans <| and_r <|
    r_ret rfl rfl rfl
theorem e_Si_begin {d : Nat} (x2 : Int32) (r0 r1 : Nat) (h : AH) (Q : Option Value → AH → Prop) : Cl (d + 1) q_Si_begin [.ref r0, .ref r1, .int x2] h Q ↔ hK h r0 = 7 ∧ Wp d P_Si_begin 0 [.ref r0, .ref r1, .int x2] [] h (fun r h' => rtk (none) r = true ∧ Q r h') :=
    (Cl_method (t := m_Si_begin) rfl).trans (and_congr_left fun _ => decide_eq_true_iff)
/-! PenThatJumps$Sitting.draw(I[I)V -/
theorem b_Si_draw_0 {d : Nat} (x1 : Int32) (r0 r2 : Nat) (h : AH) (Q : Option Value → AH → Prop) : Wp d P_Si_draw 0 [.ref r0, .int x1, .ref r2, .null, .null, .null, .null] [] h Q ↔ Wp d P_Si_draw 5 [.ref r0, .int x1, .ref r2, .long (Int32.toInt64 x1), .null, .int 0, .null] [] h Q :=
    (r_go (j := 1) (L' := [.ref r0, .int x1, .ref r2, .null, .null, .null, .null]) (S' := [.int x1]) (h' := h) rfl rfl rfl rfl).trans <|
    (r_go (j := 2) (L' := [.ref r0, .int x1, .ref r2, .null, .null, .null, .null]) (S' := [.long (Int32.toInt64 x1)]) (h' := h) rfl rfl rfl rfl).trans <|
    (r_go (j := 3) (L' := [.ref r0, .int x1, .ref r2, .long (Int32.toInt64 x1), .null, .null, .null]) (S' := []) (h' := h) rfl rfl rfl rfl).trans <|
    (r_iconst (j := 4) (x := 0) rfl i32_0 rfl).trans <|
    r_go (j := 5) (L' := [.ref r0, .int x1, .ref r2, .long (Int32.toInt64 x1), .null, .int 0, .null]) (S' := []) (h' := h) rfl rfl rfl rfl
theorem b_Si_draw_5 {d : Nat} (x1 x5 : Int32) (l3 : Int64) (r0 r2 : Nat) (v6 : Value) (h : AH) (Q : Option Value → AH → Prop) : Wp d P_Si_draw 5 [.ref r0, .int x1, .ref r2, .long l3, .null, .int x5, v6] [] h Q ↔ (hK h r0 = 7) ∧ ((hK h (hR h r0 0) = 4) ∧ ((((hI h (hR h r0 0) 3) * 3) ≤ x5 → Wp d P_Si_draw 53 [.ref r0, .int x1, .ref r2, .long l3, .null, .int x5, v6] [] h Q) ∧ (¬ (((hI h (hR h r0 0) 3) * 3) ≤ x5) → Wp d P_Si_draw 12 [.ref r0, .int x1, .ref r2, .long l3, .null, .int x5, v6] [] h Q))) :=
    (r_go (j := 6) (L' := [.ref r0, .int x1, .ref r2, .long l3, .null, .int x5, v6]) (S' := [.int x5]) (h' := h) rfl rfl rfl rfl).trans <|
    (r_go (j := 7) (L' := [.ref r0, .int x1, .ref r2, .long l3, .null, .int x5, v6]) (S' := [.ref r0, .int x5]) (h' := h) rfl rfl rfl rfl).trans <|
    (r_guard (j := 8) (L' := [.ref r0, .int x1, .ref r2, .long l3, .null, .int x5, v6]) (S' := [.ref (hR h r0 0), .int x5]) (h' := h) (p := hK h r0 = 7) rfl rfl rfl rfl (decide_eq_true_iff)).trans <| and_r <|
    (r_guard (j := 9) (L' := [.ref r0, .int x1, .ref r2, .long l3, .null, .int x5, v6]) (S' := [.int (hI h (hR h r0 0) 3), .int x5]) (h' := h) (p := hK h (hR h r0 0) = 4) rfl rfl rfl rfl (decide_eq_true_iff)).trans <| and_r <|
    (r_iconst (j := 10) (x := 3) rfl i32_3 rfl).trans <|
    (r_go (j := 11) (L' := [.ref r0, .int x1, .ref r2, .long l3, .null, .int x5, v6]) (S' := [.int ((hI h (hR h r0 0) 3) * 3), .int x5]) (h' := h) rfl rfl rfl rfl).trans <|
    r_icmp (j := 12) rfl (cd_ge _ _) rfl
theorem b_Si_draw_12 {d : Nat} (x1 x5 : Int32) (l3 : Int64) (r0 r2 : Nat) (v6 : Value) (h : AH) (Q : Option Value → AH → Prop) : Wp d P_Si_draw 12 [.ref r0, .int x1, .ref r2, .long l3, .null, .int x5, v6] [] h Q ↔ (hK h r0 = 7) ∧ ((20 ≤ hK h (hR h r0 1) ∧ hK h (hR h r0 1) ≠ 40 ∧ hK h (hR h r0 1) ≠ 42 ∧ hK h (hR h r0 1) ≤ 45 ∧ hK h (hR h r0 1) ≠ 43) ∧ (((Int32.ofNat (hN h (hR h r0 1))) ≤ x5 → Wp d P_Si_draw 53 [.ref r0, .int x1, .ref r2, .long l3, .null, .int x5, v6] [] h Q) ∧ (¬ ((Int32.ofNat (hN h (hR h r0 1))) ≤ x5) → Wp d P_Si_draw 17 [.ref r0, .int x1, .ref r2, .long l3, .null, .int x5, v6] [] h Q))) :=
    (r_go (j := 13) (L' := [.ref r0, .int x1, .ref r2, .long l3, .null, .int x5, v6]) (S' := [.int x5]) (h' := h) rfl rfl rfl rfl).trans <|
    (r_go (j := 14) (L' := [.ref r0, .int x1, .ref r2, .long l3, .null, .int x5, v6]) (S' := [.ref r0, .int x5]) (h' := h) rfl rfl rfl rfl).trans <|
    (r_guard (j := 15) (L' := [.ref r0, .int x1, .ref r2, .long l3, .null, .int x5, v6]) (S' := [.ref (hR h r0 1), .int x5]) (h' := h) (p := hK h r0 = 7) rfl rfl rfl rfl (decide_eq_true_iff)).trans <| and_r <|
    (r_guard (j := 16) (L' := [.ref r0, .int x1, .ref r2, .long l3, .null, .int x5, v6]) (S' := [.int (Int32.ofNat (hN h (hR h r0 1))), .int x5]) (h' := h) (p := 20 ≤ hK h (hR h r0 1) ∧ hK h (hR h r0 1) ≠ 40 ∧ hK h (hR h r0 1) ≠ 42 ∧ hK h (hR h r0 1) ≤ 45 ∧ hK h (hR h r0 1) ≠ 43) rfl rfl rfl rfl (decide_eq_true_iff)).trans <| and_r <|
    r_icmp (j := 17) rfl (cd_ge _ _) rfl
theorem b_Si_draw_17 {d : Nat} (x1 x5 : Int32) (l3 : Int64) (r0 r2 : Nat) (v6 : Value) (h : AH) (Q : Option Value → AH → Prop) : Wp d P_Si_draw 17 [.ref r0, .int x1, .ref r2, .long l3, .null, .int x5, v6] [] h Q ↔ (¬ 2147483648 = 0) ∧ ((¬ 65536 = 0) ∧ ((¬ 4 = 0) ∧ ((hK h r0 = 7) ∧ ((((x5 * 4) + (Int64.toInt32 (((((l3 * 1103515245) + 12345) - ((l3 * 1103515245) + 12345) / 2147483648 * 2147483648) / 65536) - ((((l3 * 1103515245) + 12345) - ((l3 * 1103515245) + 12345) / 2147483648 * 2147483648) / 65536) / 4 * 4))) < 0 → Wp d P_Si_draw 49 [.ref r0, .int x1, .ref r2, .long (((l3 * 1103515245) + 12345) - ((l3 * 1103515245) + 12345) / 2147483648 * 2147483648), .null, .int x5, .int ((x5 * 4) + (Int64.toInt32 (((((l3 * 1103515245) + 12345) - ((l3 * 1103515245) + 12345) / 2147483648 * 2147483648) / 65536) - ((((l3 * 1103515245) + 12345) - ((l3 * 1103515245) + 12345) / 2147483648 * 2147483648) / 65536) / 4 * 4)))] [.int x5, .ref (hR h r0 1)] h Q) ∧ (¬ (((x5 * 4) + (Int64.toInt32 (((((l3 * 1103515245) + 12345) - ((l3 * 1103515245) + 12345) / 2147483648 * 2147483648) / 65536) - ((((l3 * 1103515245) + 12345) - ((l3 * 1103515245) + 12345) / 2147483648 * 2147483648) / 65536) / 4 * 4))) < 0) → Wp d P_Si_draw 41 [.ref r0, .int x1, .ref r2, .long (((l3 * 1103515245) + 12345) - ((l3 * 1103515245) + 12345) / 2147483648 * 2147483648), .null, .int x5, .int ((x5 * 4) + (Int64.toInt32 (((((l3 * 1103515245) + 12345) - ((l3 * 1103515245) + 12345) / 2147483648 * 2147483648) / 65536) - ((((l3 * 1103515245) + 12345) - ((l3 * 1103515245) + 12345) / 2147483648 * 2147483648) / 65536) / 4 * 4)))] [.int x5, .ref (hR h r0 1)] h Q))))) :=
    (r_go (j := 18) (L' := [.ref r0, .int x1, .ref r2, .long l3, .null, .int x5, v6]) (S' := [.long l3]) (h' := h) rfl rfl rfl rfl).trans <|
    (r_go (j := 19) (L' := [.ref r0, .int x1, .ref r2, .long l3, .null, .int x5, v6]) (S' := [.long 1103515245, .long l3]) (h' := h) rfl rfl rfl rfl).trans <|
    (r_go (j := 20) (L' := [.ref r0, .int x1, .ref r2, .long l3, .null, .int x5, v6]) (S' := [.long (l3 * 1103515245)]) (h' := h) rfl rfl rfl rfl).trans <|
    (r_go (j := 21) (L' := [.ref r0, .int x1, .ref r2, .long l3, .null, .int x5, v6]) (S' := [.long 12345, .long (l3 * 1103515245)]) (h' := h) rfl rfl rfl rfl).trans <|
    (r_go (j := 22) (L' := [.ref r0, .int x1, .ref r2, .long l3, .null, .int x5, v6]) (S' := [.long ((l3 * 1103515245) + 12345)]) (h' := h) rfl rfl rfl rfl).trans <|
    (r_go (j := 23) (L' := [.ref r0, .int x1, .ref r2, .long l3, .null, .int x5, v6]) (S' := [.long 2147483648, .long ((l3 * 1103515245) + 12345)]) (h' := h) rfl rfl rfl rfl).trans <|
    (r_guard (j := 24) (L' := [.ref r0, .int x1, .ref r2, .long l3, .null, .int x5, v6]) (S' := [.long (((l3 * 1103515245) + 12345) - ((l3 * 1103515245) + 12345) / 2147483648 * 2147483648)]) (h' := h) (p := ¬ 2147483648 = 0) rfl rfl rfl rfl (decide_eq_true_iff)).trans <| and_r <|
    (r_go (j := 25) (L' := [.ref r0, .int x1, .ref r2, .long (((l3 * 1103515245) + 12345) - ((l3 * 1103515245) + 12345) / 2147483648 * 2147483648), .null, .int x5, v6]) (S' := []) (h' := h) rfl rfl rfl rfl).trans <|
    (r_go (j := 26) (L' := [.ref r0, .int x1, .ref r2, .long (((l3 * 1103515245) + 12345) - ((l3 * 1103515245) + 12345) / 2147483648 * 2147483648), .null, .int x5, v6]) (S' := [.int x5]) (h' := h) rfl rfl rfl rfl).trans <|
    (r_iconst (j := 27) (x := 4) rfl i32_4 rfl).trans <|
    (r_go (j := 28) (L' := [.ref r0, .int x1, .ref r2, .long (((l3 * 1103515245) + 12345) - ((l3 * 1103515245) + 12345) / 2147483648 * 2147483648), .null, .int x5, v6]) (S' := [.int (x5 * 4)]) (h' := h) rfl rfl rfl rfl).trans <|
    (r_go (j := 29) (L' := [.ref r0, .int x1, .ref r2, .long (((l3 * 1103515245) + 12345) - ((l3 * 1103515245) + 12345) / 2147483648 * 2147483648), .null, .int x5, v6]) (S' := [.long (((l3 * 1103515245) + 12345) - ((l3 * 1103515245) + 12345) / 2147483648 * 2147483648), .int (x5 * 4)]) (h' := h) rfl rfl rfl rfl).trans <|
    (r_go (j := 30) (L' := [.ref r0, .int x1, .ref r2, .long (((l3 * 1103515245) + 12345) - ((l3 * 1103515245) + 12345) / 2147483648 * 2147483648), .null, .int x5, v6]) (S' := [.long 65536, .long (((l3 * 1103515245) + 12345) - ((l3 * 1103515245) + 12345) / 2147483648 * 2147483648), .int (x5 * 4)]) (h' := h) rfl rfl rfl rfl).trans <|
    (r_guard (j := 31) (L' := [.ref r0, .int x1, .ref r2, .long (((l3 * 1103515245) + 12345) - ((l3 * 1103515245) + 12345) / 2147483648 * 2147483648), .null, .int x5, v6]) (S' := [.long ((((l3 * 1103515245) + 12345) - ((l3 * 1103515245) + 12345) / 2147483648 * 2147483648) / 65536), .int (x5 * 4)]) (h' := h) (p := ¬ 65536 = 0) rfl rfl rfl rfl (decide_eq_true_iff)).trans <| and_r <|
    (r_go (j := 32) (L' := [.ref r0, .int x1, .ref r2, .long (((l3 * 1103515245) + 12345) - ((l3 * 1103515245) + 12345) / 2147483648 * 2147483648), .null, .int x5, v6]) (S' := [.long 4, .long ((((l3 * 1103515245) + 12345) - ((l3 * 1103515245) + 12345) / 2147483648 * 2147483648) / 65536), .int (x5 * 4)]) (h' := h) rfl rfl rfl rfl).trans <|
    (r_guard (j := 33) (L' := [.ref r0, .int x1, .ref r2, .long (((l3 * 1103515245) + 12345) - ((l3 * 1103515245) + 12345) / 2147483648 * 2147483648), .null, .int x5, v6]) (S' := [.long (((((l3 * 1103515245) + 12345) - ((l3 * 1103515245) + 12345) / 2147483648 * 2147483648) / 65536) - ((((l3 * 1103515245) + 12345) - ((l3 * 1103515245) + 12345) / 2147483648 * 2147483648) / 65536) / 4 * 4), .int (x5 * 4)]) (h' := h) (p := ¬ 4 = 0) rfl rfl rfl rfl (decide_eq_true_iff)).trans <| and_r <|
    (r_go (j := 34) (L' := [.ref r0, .int x1, .ref r2, .long (((l3 * 1103515245) + 12345) - ((l3 * 1103515245) + 12345) / 2147483648 * 2147483648), .null, .int x5, v6]) (S' := [.int (Int64.toInt32 (((((l3 * 1103515245) + 12345) - ((l3 * 1103515245) + 12345) / 2147483648 * 2147483648) / 65536) - ((((l3 * 1103515245) + 12345) - ((l3 * 1103515245) + 12345) / 2147483648 * 2147483648) / 65536) / 4 * 4)), .int (x5 * 4)]) (h' := h) rfl rfl rfl rfl).trans <|
    (r_go (j := 35) (L' := [.ref r0, .int x1, .ref r2, .long (((l3 * 1103515245) + 12345) - ((l3 * 1103515245) + 12345) / 2147483648 * 2147483648), .null, .int x5, v6]) (S' := [.int ((x5 * 4) + (Int64.toInt32 (((((l3 * 1103515245) + 12345) - ((l3 * 1103515245) + 12345) / 2147483648 * 2147483648) / 65536) - ((((l3 * 1103515245) + 12345) - ((l3 * 1103515245) + 12345) / 2147483648 * 2147483648) / 65536) / 4 * 4)))]) (h' := h) rfl rfl rfl rfl).trans <|
    (r_go (j := 36) (L' := [.ref r0, .int x1, .ref r2, .long (((l3 * 1103515245) + 12345) - ((l3 * 1103515245) + 12345) / 2147483648 * 2147483648), .null, .int x5, .int ((x5 * 4) + (Int64.toInt32 (((((l3 * 1103515245) + 12345) - ((l3 * 1103515245) + 12345) / 2147483648 * 2147483648) / 65536) - ((((l3 * 1103515245) + 12345) - ((l3 * 1103515245) + 12345) / 2147483648 * 2147483648) / 65536) / 4 * 4)))]) (S' := []) (h' := h) rfl rfl rfl rfl).trans <|
    (r_go (j := 37) (L' := [.ref r0, .int x1, .ref r2, .long (((l3 * 1103515245) + 12345) - ((l3 * 1103515245) + 12345) / 2147483648 * 2147483648), .null, .int x5, .int ((x5 * 4) + (Int64.toInt32 (((((l3 * 1103515245) + 12345) - ((l3 * 1103515245) + 12345) / 2147483648 * 2147483648) / 65536) - ((((l3 * 1103515245) + 12345) - ((l3 * 1103515245) + 12345) / 2147483648 * 2147483648) / 65536) / 4 * 4)))]) (S' := [.ref r0]) (h' := h) rfl rfl rfl rfl).trans <|
    (r_guard (j := 38) (L' := [.ref r0, .int x1, .ref r2, .long (((l3 * 1103515245) + 12345) - ((l3 * 1103515245) + 12345) / 2147483648 * 2147483648), .null, .int x5, .int ((x5 * 4) + (Int64.toInt32 (((((l3 * 1103515245) + 12345) - ((l3 * 1103515245) + 12345) / 2147483648 * 2147483648) / 65536) - ((((l3 * 1103515245) + 12345) - ((l3 * 1103515245) + 12345) / 2147483648 * 2147483648) / 65536) / 4 * 4)))]) (S' := [.ref (hR h r0 1)]) (h' := h) (p := hK h r0 = 7) rfl rfl rfl rfl (decide_eq_true_iff)).trans <| and_r <|
    (r_go (j := 39) (L' := [.ref r0, .int x1, .ref r2, .long (((l3 * 1103515245) + 12345) - ((l3 * 1103515245) + 12345) / 2147483648 * 2147483648), .null, .int x5, .int ((x5 * 4) + (Int64.toInt32 (((((l3 * 1103515245) + 12345) - ((l3 * 1103515245) + 12345) / 2147483648 * 2147483648) / 65536) - ((((l3 * 1103515245) + 12345) - ((l3 * 1103515245) + 12345) / 2147483648 * 2147483648) / 65536) / 4 * 4)))]) (S' := [.int x5, .ref (hR h r0 1)]) (h' := h) rfl rfl rfl rfl).trans <|
    (r_go (j := 40) (L' := [.ref r0, .int x1, .ref r2, .long (((l3 * 1103515245) + 12345) - ((l3 * 1103515245) + 12345) / 2147483648 * 2147483648), .null, .int x5, .int ((x5 * 4) + (Int64.toInt32 (((((l3 * 1103515245) + 12345) - ((l3 * 1103515245) + 12345) / 2147483648 * 2147483648) / 65536) - ((((l3 * 1103515245) + 12345) - ((l3 * 1103515245) + 12345) / 2147483648 * 2147483648) / 65536) / 4 * 4)))]) (S' := [.int ((x5 * 4) + (Int64.toInt32 (((((l3 * 1103515245) + 12345) - ((l3 * 1103515245) + 12345) / 2147483648 * 2147483648) / 65536) - ((((l3 * 1103515245) + 12345) - ((l3 * 1103515245) + 12345) / 2147483648 * 2147483648) / 65536) / 4 * 4))), .int x5, .ref (hR h r0 1)]) (h' := h) rfl rfl rfl rfl).trans <|
    r_if (j := 41) rfl (cd_lt _ _) rfl
theorem b_Si_draw_41 {d : Nat} (x1 x5 x6 s0 : Int32) (l3 : Int64) (r0 r2 t1 : Nat) (h : AH) (Q : Option Value → AH → Prop) : Wp d P_Si_draw 41 [.ref r0, .int x1, .ref r2, .long l3, .null, .int x5, .int x6] [.int s0, .ref t1] h Q ↔ (20 ≤ hK h r2 ∧ hK h r2 ≠ 40 ∧ hK h r2 ≠ 42 ∧ hK h r2 ≤ 45 ∧ hK h r2 ≠ 43) ∧ (((Int32.ofNat (hN h r2)) ≤ x6 → Wp d P_Si_draw 49 [.ref r0, .int x1, .ref r2, .long l3, .null, .int x5, .int x6] [.int s0, .ref t1] h Q) ∧ (¬ ((Int32.ofNat (hN h r2)) ≤ x6) → Wp d P_Si_draw 45 [.ref r0, .int x1, .ref r2, .long l3, .null, .int x5, .int x6] [.int s0, .ref t1] h Q)) :=
    (r_go (j := 42) (L' := [.ref r0, .int x1, .ref r2, .long l3, .null, .int x5, .int x6]) (S' := [.int x6, .int s0, .ref t1]) (h' := h) rfl rfl rfl rfl).trans <|
    (r_go (j := 43) (L' := [.ref r0, .int x1, .ref r2, .long l3, .null, .int x5, .int x6]) (S' := [.ref r2, .int x6, .int s0, .ref t1]) (h' := h) rfl rfl rfl rfl).trans <|
    (r_guard (j := 44) (L' := [.ref r0, .int x1, .ref r2, .long l3, .null, .int x5, .int x6]) (S' := [.int (Int32.ofNat (hN h r2)), .int x6, .int s0, .ref t1]) (h' := h) (p := 20 ≤ hK h r2 ∧ hK h r2 ≠ 40 ∧ hK h r2 ≠ 42 ∧ hK h r2 ≤ 45 ∧ hK h r2 ≠ 43) rfl rfl rfl rfl (decide_eq_true_iff)).trans <| and_r <|
    r_icmp (j := 45) rfl (cd_ge _ _) rfl
theorem b_Si_draw_45 {d : Nat} (x1 x5 x6 s0 : Int32) (l3 : Int64) (r0 r2 t1 : Nat) (h : AH) (Q : Option Value → AH → Prop) : Wp d P_Si_draw 45 [.ref r0, .int x1, .ref r2, .long l3, .null, .int x5, .int x6] [.int s0, .ref t1] h Q ↔ (hK h r2 ∈ [20, 44] ∧ ixo x6 (hN h r2) = true) ∧ (Wp d P_Si_draw 50 [.ref r0, .int x1, .ref r2, .long l3, .null, .int x5, .int x6] [.int (hI h r2 (Int32.toNatClampNeg x6)), .int s0, .ref t1] h Q) :=
    (r_go (j := 46) (L' := [.ref r0, .int x1, .ref r2, .long l3, .null, .int x5, .int x6]) (S' := [.ref r2, .int s0, .ref t1]) (h' := h) rfl rfl rfl rfl).trans <|
    (r_go (j := 47) (L' := [.ref r0, .int x1, .ref r2, .long l3, .null, .int x5, .int x6]) (S' := [.int x6, .ref r2, .int s0, .ref t1]) (h' := h) rfl rfl rfl rfl).trans <|
    (r_guard (j := 48) (L' := [.ref r0, .int x1, .ref r2, .long l3, .null, .int x5, .int x6]) (S' := [.int (hI h r2 (Int32.toNatClampNeg x6)), .int s0, .ref t1]) (h' := h) (p := hK h r2 ∈ [20, 44] ∧ ixo x6 (hN h r2) = true) rfl rfl rfl rfl (and2 decide_eq_true_iff Iff.rfl)).trans <| and_r <|
    r_go (j := 50) (L' := [.ref r0, .int x1, .ref r2, .long l3, .null, .int x5, .int x6]) (S' := [.int (hI h r2 (Int32.toNatClampNeg x6)), .int s0, .ref t1]) (h' := h) rfl rfl rfl rfl
theorem b_Si_draw_49 {d : Nat} (x1 x5 x6 s0 : Int32) (l3 : Int64) (r0 r2 t1 : Nat) (h : AH) (Q : Option Value → AH → Prop) : Wp d P_Si_draw 49 [.ref r0, .int x1, .ref r2, .long l3, .null, .int x5, .int x6] [.int s0, .ref t1] h Q ↔ Wp d P_Si_draw 50 [.ref r0, .int x1, .ref r2, .long l3, .null, .int x5, .int x6] [.int 0, .int s0, .ref t1] h Q :=
    r_iconst (j := 50) (x := 0) rfl i32_0 rfl
theorem b_Si_draw_50 {d : Nat} (x1 x5 x6 s0 s1 : Int32) (l3 : Int64) (r0 r2 t2 : Nat) (h : AH) (Q : Option Value → AH → Prop) : Wp d P_Si_draw 50 [.ref r0, .int x1, .ref r2, .long l3, .null, .int x5, .int x6] [.int s0, .int s1, .ref t2] h Q ↔ (hK h t2 = 20 ∧ ixo s1 (hN h t2) = true) ∧ (Wp d P_Si_draw 5 [.ref r0, .int x1, .ref r2, .long l3, .null, .int (x5 + 1), .int x6] [] (sI h t2 (Int32.toNatClampNeg s1) s0) Q) :=
    (r_guard (j := 51) (L' := [.ref r0, .int x1, .ref r2, .long l3, .null, .int x5, .int x6]) (S' := []) (h' := (sI h t2 (Int32.toNatClampNeg s1) s0)) (p := hK h t2 = 20 ∧ ixo s1 (hN h t2) = true) rfl rfl rfl rfl (and2 decide_eq_true_iff Iff.rfl)).trans <| and_r <|
    (r_iinc (j := 52) (x := 1) (L' := [.ref r0, .int x1, .ref r2, .long l3, .null, .int (x5 + 1), .int x6]) rfl rfl i32_1 rfl rfl).trans <|
    r_go (j := 5) (L' := [.ref r0, .int x1, .ref r2, .long l3, .null, .int (x5 + 1), .int x6]) (S' := []) (h' := (sI h t2 (Int32.toNatClampNeg s1) s0)) rfl rfl rfl rfl
theorem b_Si_draw_53 {d : Nat} (x1 x5 : Int32) (l3 : Int64) (r0 r2 : Nat) (v6 : Value) (h : AH) (Q : Option Value → AH → Prop) : Wp d P_Si_draw 53 [.ref r0, .int x1, .ref r2, .long l3, .null, .int x5, v6] [] h Q ↔ Q (none) h :=
    r_ret rfl rfl rfl
theorem e_Si_draw {d : Nat} (x1 : Int32) (r0 r2 : Nat) (h : AH) (Q : Option Value → AH → Prop) : Cl (d + 1) q_Si_draw [.ref r0, .int x1, .ref r2] h Q ↔ hK h r0 = 7 ∧ Wp d P_Si_draw 0 [.ref r0, .int x1, .ref r2, .null, .null, .null, .null] [] h (fun r h' => rtk (none) r = true ∧ Q r h') :=
    (Cl_method (t := m_Si_draw) rfl).trans (and_congr_left fun _ => decide_eq_true_iff)
/-! PenThatJumps$Sitting.jumpAt(II)I -/
theorem b_Si_jumpAt_0 {d : Nat} (x1 x2 : Int32) (r0 : Nat) (h : AH) (Q : Option Value → AH → Prop) : Wp d P_Si_jumpAt 0 [.ref r0, .int x1, .int x2, .null] [] h Q ↔ (((x1 * 3) + x2) < 0 → Wp d P_Si_jumpAt 18 [.ref r0, .int x1, .int x2, .int ((x1 * 3) + x2)] [] h Q) ∧ (¬ (((x1 * 3) + x2) < 0) → Wp d P_Si_jumpAt 8 [.ref r0, .int x1, .int x2, .int ((x1 * 3) + x2)] [] h Q) :=
    (r_go (j := 1) (L' := [.ref r0, .int x1, .int x2, .null]) (S' := [.int x1]) (h' := h) rfl rfl rfl rfl).trans <|
    (r_iconst (j := 2) (x := 3) rfl i32_3 rfl).trans <|
    (r_go (j := 3) (L' := [.ref r0, .int x1, .int x2, .null]) (S' := [.int (x1 * 3)]) (h' := h) rfl rfl rfl rfl).trans <|
    (r_go (j := 4) (L' := [.ref r0, .int x1, .int x2, .null]) (S' := [.int x2, .int (x1 * 3)]) (h' := h) rfl rfl rfl rfl).trans <|
    (r_go (j := 5) (L' := [.ref r0, .int x1, .int x2, .null]) (S' := [.int ((x1 * 3) + x2)]) (h' := h) rfl rfl rfl rfl).trans <|
    (r_go (j := 6) (L' := [.ref r0, .int x1, .int x2, .int ((x1 * 3) + x2)]) (S' := []) (h' := h) rfl rfl rfl rfl).trans <|
    (r_go (j := 7) (L' := [.ref r0, .int x1, .int x2, .int ((x1 * 3) + x2)]) (S' := [.int ((x1 * 3) + x2)]) (h' := h) rfl rfl rfl rfl).trans <|
    r_if (j := 8) rfl (cd_lt _ _) rfl
theorem b_Si_jumpAt_8 {d : Nat} (x1 x2 x3 : Int32) (r0 : Nat) (h : AH) (Q : Option Value → AH → Prop) : Wp d P_Si_jumpAt 8 [.ref r0, .int x1, .int x2, .int x3] [] h Q ↔ (hK h r0 = 7) ∧ ((20 ≤ hK h (hR h r0 1) ∧ hK h (hR h r0 1) ≠ 40 ∧ hK h (hR h r0 1) ≠ 42 ∧ hK h (hR h r0 1) ≤ 45 ∧ hK h (hR h r0 1) ≠ 43) ∧ (((Int32.ofNat (hN h (hR h r0 1))) ≤ x3 → Wp d P_Si_jumpAt 18 [.ref r0, .int x1, .int x2, .int x3] [] h Q) ∧ (¬ ((Int32.ofNat (hN h (hR h r0 1))) ≤ x3) → Wp d P_Si_jumpAt 13 [.ref r0, .int x1, .int x2, .int x3] [] h Q))) :=
    (r_go (j := 9) (L' := [.ref r0, .int x1, .int x2, .int x3]) (S' := [.int x3]) (h' := h) rfl rfl rfl rfl).trans <|
    (r_go (j := 10) (L' := [.ref r0, .int x1, .int x2, .int x3]) (S' := [.ref r0, .int x3]) (h' := h) rfl rfl rfl rfl).trans <|
    (r_guard (j := 11) (L' := [.ref r0, .int x1, .int x2, .int x3]) (S' := [.ref (hR h r0 1), .int x3]) (h' := h) (p := hK h r0 = 7) rfl rfl rfl rfl (decide_eq_true_iff)).trans <| and_r <|
    (r_guard (j := 12) (L' := [.ref r0, .int x1, .int x2, .int x3]) (S' := [.int (Int32.ofNat (hN h (hR h r0 1))), .int x3]) (h' := h) (p := 20 ≤ hK h (hR h r0 1) ∧ hK h (hR h r0 1) ≠ 40 ∧ hK h (hR h r0 1) ≠ 42 ∧ hK h (hR h r0 1) ≤ 45 ∧ hK h (hR h r0 1) ≠ 43) rfl rfl rfl rfl (decide_eq_true_iff)).trans <| and_r <|
    r_icmp (j := 13) rfl (cd_ge _ _) rfl
theorem b_Si_jumpAt_13 {d : Nat} (x1 x2 x3 : Int32) (r0 : Nat) (h : AH) (Q : Option Value → AH → Prop) : Wp d P_Si_jumpAt 13 [.ref r0, .int x1, .int x2, .int x3] [] h Q ↔ (hK h r0 = 7) ∧ ((hK h (hR h r0 1) ∈ [20, 44] ∧ ixo x3 (hN h (hR h r0 1)) = true) ∧ (Wp d P_Si_jumpAt 19 [.ref r0, .int x1, .int x2, .int x3] [.int (hI h (hR h r0 1) (Int32.toNatClampNeg x3))] h Q)) :=
    (r_go (j := 14) (L' := [.ref r0, .int x1, .int x2, .int x3]) (S' := [.ref r0]) (h' := h) rfl rfl rfl rfl).trans <|
    (r_guard (j := 15) (L' := [.ref r0, .int x1, .int x2, .int x3]) (S' := [.ref (hR h r0 1)]) (h' := h) (p := hK h r0 = 7) rfl rfl rfl rfl (decide_eq_true_iff)).trans <| and_r <|
    (r_go (j := 16) (L' := [.ref r0, .int x1, .int x2, .int x3]) (S' := [.int x3, .ref (hR h r0 1)]) (h' := h) rfl rfl rfl rfl).trans <|
    (r_guard (j := 17) (L' := [.ref r0, .int x1, .int x2, .int x3]) (S' := [.int (hI h (hR h r0 1) (Int32.toNatClampNeg x3))]) (h' := h) (p := hK h (hR h r0 1) ∈ [20, 44] ∧ ixo x3 (hN h (hR h r0 1)) = true) rfl rfl rfl rfl (and2 decide_eq_true_iff Iff.rfl)).trans <| and_r <|
    r_go (j := 19) (L' := [.ref r0, .int x1, .int x2, .int x3]) (S' := [.int (hI h (hR h r0 1) (Int32.toNatClampNeg x3))]) (h' := h) rfl rfl rfl rfl
theorem b_Si_jumpAt_18 {d : Nat} (x1 x2 x3 : Int32) (r0 : Nat) (h : AH) (Q : Option Value → AH → Prop) : Wp d P_Si_jumpAt 18 [.ref r0, .int x1, .int x2, .int x3] [] h Q ↔ Wp d P_Si_jumpAt 19 [.ref r0, .int x1, .int x2, .int x3] [.int 0] h Q :=
    r_iconst (j := 19) (x := 0) rfl i32_0 rfl
theorem b_Si_jumpAt_19 {d : Nat} (x1 x2 x3 s0 : Int32) (r0 : Nat) (h : AH) (Q : Option Value → AH → Prop) : Wp d P_Si_jumpAt 19 [.ref r0, .int x1, .int x2, .int x3] [.int s0] h Q ↔ Q (some (.int s0)) h :=
    r_ret rfl rfl rfl
theorem e_Si_jumpAt {d : Nat} (x1 x2 : Int32) (r0 : Nat) (h : AH) (Q : Option Value → AH → Prop) : Cl (d + 1) q_Si_jumpAt [.ref r0, .int x1, .int x2] h Q ↔ hK h r0 = 7 ∧ Wp d P_Si_jumpAt 0 [.ref r0, .int x1, .int x2, .null] [] h (fun r h' => rtk (some .int) r = true ∧ Q r h') :=
    (Cl_method (t := m_Si_jumpAt) rfl).trans (and_congr_left fun _ => decide_eq_true_iff)
/-! PenThatJumps$Sitting.standsOut(I)Z -/
theorem b_Si_standsOut_0 {d : Nat} (x1 : Int32) (r0 : Nat) (h : AH) (Q : Option Value → AH → Prop) : Wp d P_Si_standsOut 0 [.ref r0, .int x1, .null, .null, .null, .null] [] h Q ↔ Wp d P_Si_standsOut 6 [.ref r0, .int x1, .int (-1), .int (-1), .int 0, .null] [] h Q :=
    (r_iconst (j := 1) (x := (-1)) rfl i32_m1 rfl).trans <|
    (r_go (j := 2) (L' := [.ref r0, .int x1, .int (-1), .null, .null, .null]) (S' := []) (h' := h) rfl rfl rfl rfl).trans <|
    (r_iconst (j := 3) (x := (-1)) rfl i32_m1 rfl).trans <|
    (r_go (j := 4) (L' := [.ref r0, .int x1, .int (-1), .int (-1), .null, .null]) (S' := []) (h' := h) rfl rfl rfl rfl).trans <|
    (r_iconst (j := 5) (x := 0) rfl i32_0 rfl).trans <|
    r_go (j := 6) (L' := [.ref r0, .int x1, .int (-1), .int (-1), .int 0, .null]) (S' := []) (h' := h) rfl rfl rfl rfl
theorem b_Si_standsOut_6 {d : Nat} (x1 x2 x3 x4 : Int32) (r0 : Nat) (v5 : Value) (h : AH) (Q : Option Value → AH → Prop) : Wp d P_Si_standsOut 6 [.ref r0, .int x1, .int x2, .int x3, .int x4, v5] [] h Q ↔ (hK h r0 = 7) ∧ ((hK h (hR h r0 0) = 4) ∧ (((hI h (hR h r0 0) 3) ≤ x4 → Wp d P_Si_standsOut 40 [.ref r0, .int x1, .int x2, .int x3, .int x4, v5] [] h Q) ∧ (¬ ((hI h (hR h r0 0) 3) ≤ x4) → Wp d P_Si_standsOut 11 [.ref r0, .int x1, .int x2, .int x3, .int x4, v5] [] h Q))) :=
    (r_go (j := 7) (L' := [.ref r0, .int x1, .int x2, .int x3, .int x4, v5]) (S' := [.int x4]) (h' := h) rfl rfl rfl rfl).trans <|
    (r_go (j := 8) (L' := [.ref r0, .int x1, .int x2, .int x3, .int x4, v5]) (S' := [.ref r0, .int x4]) (h' := h) rfl rfl rfl rfl).trans <|
    (r_guard (j := 9) (L' := [.ref r0, .int x1, .int x2, .int x3, .int x4, v5]) (S' := [.ref (hR h r0 0), .int x4]) (h' := h) (p := hK h r0 = 7) rfl rfl rfl rfl (decide_eq_true_iff)).trans <| and_r <|
    (r_guard (j := 10) (L' := [.ref r0, .int x1, .int x2, .int x3, .int x4, v5]) (S' := [.int (hI h (hR h r0 0) 3), .int x4]) (h' := h) (p := hK h (hR h r0 0) = 4) rfl rfl rfl rfl (decide_eq_true_iff)).trans <| and_r <|
    r_icmp (j := 11) rfl (cd_ge _ _) rfl
theorem b_Si_standsOut_11 {d : Nat} (x1 x2 x3 x4 : Int32) (r0 : Nat) (v5 : Value) (h : AH) (Q : Option Value → AH → Prop) : Wp d P_Si_standsOut 11 [.ref r0, .int x1, .int x2, .int x3, .int x4, v5] [] h Q ↔ (hK h r0 = 7) ∧ (Cl d q_Pl_itemAt [.ref (hR h r0 0), .int x4] h (fun r h' => Wp d P_Si_standsOut 15 [.ref r0, .int x1, .int x2, .int x3, .int x4, v5] (r.toList ++ []) h' Q)) :=
    (r_go (j := 12) (L' := [.ref r0, .int x1, .int x2, .int x3, .int x4, v5]) (S' := [.ref r0]) (h' := h) rfl rfl rfl rfl).trans <|
    (r_guard (j := 13) (L' := [.ref r0, .int x1, .int x2, .int x3, .int x4, v5]) (S' := [.ref (hR h r0 0)]) (h' := h) (p := hK h r0 = 7) rfl rfl rfl rfl (decide_eq_true_iff)).trans <| and_r <|
    (r_go (j := 14) (L' := [.ref r0, .int x1, .int x2, .int x3, .int x4, v5]) (S' := [.int x4, .ref (hR h r0 0)]) (h' := h) rfl rfl rfl rfl).trans <|
    r_call (j := 15) (a := [.ref (hR h r0 0), .int x4]) (S' := []) rfl rfl rfl rfl rfl rfl rfl
theorem b_Si_standsOut_15 {d : Nat} (x1 x2 x3 x4 s0 : Int32) (r0 : Nat) (v5 : Value) (h : AH) (Q : Option Value → AH → Prop) : Wp d P_Si_standsOut 15 [.ref r0, .int x1, .int x2, .int x3, .int x4, v5] [.int s0] h Q ↔ (hK h r0 = 7) ∧ ((¬ s0 = (hI h r0 2) → Wp d P_Si_standsOut 28 [.ref r0, .int x1, .int x2, .int x3, .int x4, .int s0] [] h Q) ∧ (¬ (¬ s0 = (hI h r0 2)) → Wp d P_Si_standsOut 20 [.ref r0, .int x1, .int x2, .int x3, .int x4, .int s0] [] h Q)) :=
    (r_go (j := 16) (L' := [.ref r0, .int x1, .int x2, .int x3, .int x4, .int s0]) (S' := []) (h' := h) rfl rfl rfl rfl).trans <|
    (r_go (j := 17) (L' := [.ref r0, .int x1, .int x2, .int x3, .int x4, .int s0]) (S' := [.int s0]) (h' := h) rfl rfl rfl rfl).trans <|
    (r_go (j := 18) (L' := [.ref r0, .int x1, .int x2, .int x3, .int x4, .int s0]) (S' := [.ref r0, .int s0]) (h' := h) rfl rfl rfl rfl).trans <|
    (r_guard (j := 19) (L' := [.ref r0, .int x1, .int x2, .int x3, .int x4, .int s0]) (S' := [.int (hI h r0 2), .int s0]) (h' := h) (p := hK h r0 = 7) rfl rfl rfl rfl (decide_eq_true_iff)).trans <| and_r <|
    r_icmp (j := 20) rfl (cd_ne _ _) rfl
theorem b_Si_standsOut_20 {d : Nat} (x1 x2 x3 x4 x5 : Int32) (r0 : Nat) (h : AH) (Q : Option Value → AH → Prop) : Wp d P_Si_standsOut 20 [.ref r0, .int x1, .int x2, .int x3, .int x4, .int x5] [] h Q ↔ Cl d q_Si_jumpAt [.ref r0, .int x4, .int x1] h (fun r h' => Wp d P_Si_standsOut 25 [.ref r0, .int x1, .int x2, .int x3, .int x4, .int x5] (r.toList ++ [.int x2]) h' Q) :=
    (r_go (j := 21) (L' := [.ref r0, .int x1, .int x2, .int x3, .int x4, .int x5]) (S' := [.int x2]) (h' := h) rfl rfl rfl rfl).trans <|
    (r_go (j := 22) (L' := [.ref r0, .int x1, .int x2, .int x3, .int x4, .int x5]) (S' := [.ref r0, .int x2]) (h' := h) rfl rfl rfl rfl).trans <|
    (r_go (j := 23) (L' := [.ref r0, .int x1, .int x2, .int x3, .int x4, .int x5]) (S' := [.int x4, .ref r0, .int x2]) (h' := h) rfl rfl rfl rfl).trans <|
    (r_go (j := 24) (L' := [.ref r0, .int x1, .int x2, .int x3, .int x4, .int x5]) (S' := [.int x1, .int x4, .ref r0, .int x2]) (h' := h) rfl rfl rfl rfl).trans <|
    r_call (j := 25) (a := [.ref r0, .int x4, .int x1]) (S' := [.int x2]) rfl rfl rfl rfl rfl rfl rfl
theorem b_Si_standsOut_25 {d : Nat} (x1 x2 x3 x4 x5 s0 s1 : Int32) (r0 : Nat) (h : AH) (Q : Option Value → AH → Prop) : Wp d P_Si_standsOut 25 [.ref r0, .int x1, .int x2, .int x3, .int x4, .int x5] [.int s0, .int s1] h Q ↔ Cl d 306 [.int s1, .int s0] h (fun r h' => Wp d P_Si_standsOut 26 [.ref r0, .int x1, .int x2, .int x3, .int x4, .int x5] (r.toList ++ []) h' Q) :=
    r_call (j := 26) (a := [.int s1, .int s0]) (S' := []) rfl rfl rfl rfl rfl rfl rfl
theorem b_Si_standsOut_26 {d : Nat} (x1 x2 x3 x4 x5 s0 : Int32) (r0 : Nat) (h : AH) (Q : Option Value → AH → Prop) : Wp d P_Si_standsOut 26 [.ref r0, .int x1, .int x2, .int x3, .int x4, .int x5] [.int s0] h Q ↔ Wp d P_Si_standsOut 38 [.ref r0, .int x1, .int s0, .int x3, .int x4, .int x5] [] h Q :=
    (r_go (j := 27) (L' := [.ref r0, .int x1, .int s0, .int x3, .int x4, .int x5]) (S' := []) (h' := h) rfl rfl rfl rfl).trans <|
    r_go (j := 38) (L' := [.ref r0, .int x1, .int s0, .int x3, .int x4, .int x5]) (S' := []) (h' := h) rfl rfl rfl rfl
theorem b_Si_standsOut_28 {d : Nat} (x1 x2 x3 x4 x5 : Int32) (r0 : Nat) (h : AH) (Q : Option Value → AH → Prop) : Wp d P_Si_standsOut 28 [.ref r0, .int x1, .int x2, .int x3, .int x4, .int x5] [] h Q ↔ (x5 = (-1) → Wp d P_Si_standsOut 38 [.ref r0, .int x1, .int x2, .int x3, .int x4, .int x5] [] h Q) ∧ (¬ (x5 = (-1)) → Wp d P_Si_standsOut 31 [.ref r0, .int x1, .int x2, .int x3, .int x4, .int x5] [] h Q) :=
    (r_go (j := 29) (L' := [.ref r0, .int x1, .int x2, .int x3, .int x4, .int x5]) (S' := [.int x5]) (h' := h) rfl rfl rfl rfl).trans <|
    (r_iconst (j := 30) (x := (-1)) rfl i32_m1 rfl).trans <|
    r_icmp (j := 31) rfl (cd_eq _ _) rfl
theorem b_Si_standsOut_31 {d : Nat} (x1 x2 x3 x4 x5 : Int32) (r0 : Nat) (h : AH) (Q : Option Value → AH → Prop) : Wp d P_Si_standsOut 31 [.ref r0, .int x1, .int x2, .int x3, .int x4, .int x5] [] h Q ↔ Cl d q_Si_jumpAt [.ref r0, .int x4, .int x1] h (fun r h' => Wp d P_Si_standsOut 36 [.ref r0, .int x1, .int x2, .int x3, .int x4, .int x5] (r.toList ++ [.int x3]) h' Q) :=
    (r_go (j := 32) (L' := [.ref r0, .int x1, .int x2, .int x3, .int x4, .int x5]) (S' := [.int x3]) (h' := h) rfl rfl rfl rfl).trans <|
    (r_go (j := 33) (L' := [.ref r0, .int x1, .int x2, .int x3, .int x4, .int x5]) (S' := [.ref r0, .int x3]) (h' := h) rfl rfl rfl rfl).trans <|
    (r_go (j := 34) (L' := [.ref r0, .int x1, .int x2, .int x3, .int x4, .int x5]) (S' := [.int x4, .ref r0, .int x3]) (h' := h) rfl rfl rfl rfl).trans <|
    (r_go (j := 35) (L' := [.ref r0, .int x1, .int x2, .int x3, .int x4, .int x5]) (S' := [.int x1, .int x4, .ref r0, .int x3]) (h' := h) rfl rfl rfl rfl).trans <|
    r_call (j := 36) (a := [.ref r0, .int x4, .int x1]) (S' := [.int x3]) rfl rfl rfl rfl rfl rfl rfl
theorem b_Si_standsOut_36 {d : Nat} (x1 x2 x3 x4 x5 s0 s1 : Int32) (r0 : Nat) (h : AH) (Q : Option Value → AH → Prop) : Wp d P_Si_standsOut 36 [.ref r0, .int x1, .int x2, .int x3, .int x4, .int x5] [.int s0, .int s1] h Q ↔ Cl d 306 [.int s1, .int s0] h (fun r h' => Wp d P_Si_standsOut 37 [.ref r0, .int x1, .int x2, .int x3, .int x4, .int x5] (r.toList ++ []) h' Q) :=
    r_call (j := 37) (a := [.int s1, .int s0]) (S' := []) rfl rfl rfl rfl rfl rfl rfl
theorem b_Si_standsOut_37 {d : Nat} (x1 x2 x3 x4 x5 s0 : Int32) (r0 : Nat) (h : AH) (Q : Option Value → AH → Prop) : Wp d P_Si_standsOut 37 [.ref r0, .int x1, .int x2, .int x3, .int x4, .int x5] [.int s0] h Q ↔ Wp d P_Si_standsOut 38 [.ref r0, .int x1, .int x2, .int s0, .int x4, .int x5] [] h Q :=
    r_go (j := 38) (L' := [.ref r0, .int x1, .int x2, .int s0, .int x4, .int x5]) (S' := []) (h' := h) rfl rfl rfl rfl
theorem b_Si_standsOut_38 {d : Nat} (x1 x2 x3 x4 x5 : Int32) (r0 : Nat) (h : AH) (Q : Option Value → AH → Prop) : Wp d P_Si_standsOut 38 [.ref r0, .int x1, .int x2, .int x3, .int x4, .int x5] [] h Q ↔ Wp d P_Si_standsOut 6 [.ref r0, .int x1, .int x2, .int x3, .int (x4 + 1), .int x5] [] h Q :=
    (r_iinc (j := 39) (x := 1) (L' := [.ref r0, .int x1, .int x2, .int x3, .int (x4 + 1), .int x5]) rfl rfl i32_1 rfl rfl).trans <|
    r_go (j := 6) (L' := [.ref r0, .int x1, .int x2, .int x3, .int (x4 + 1), .int x5]) (S' := []) (h' := h) rfl rfl rfl rfl
theorem b_Si_standsOut_40 {d : Nat} (x1 x2 x3 x4 : Int32) (r0 : Nat) (v5 : Value) (h : AH) (Q : Option Value → AH → Prop) : Wp d P_Si_standsOut 40 [.ref r0, .int x1, .int x2, .int x3, .int x4, v5] [] h Q ↔ (x3 = (-1) → Wp d P_Si_standsOut 48 [.ref r0, .int x1, .int x2, .int x3, .int x4, v5] [] h Q) ∧ (¬ (x3 = (-1)) → Wp d P_Si_standsOut 43 [.ref r0, .int x1, .int x2, .int x3, .int x4, v5] [] h Q) :=
    (r_go (j := 41) (L' := [.ref r0, .int x1, .int x2, .int x3, .int x4, v5]) (S' := [.int x3]) (h' := h) rfl rfl rfl rfl).trans <|
    (r_iconst (j := 42) (x := (-1)) rfl i32_m1 rfl).trans <|
    r_icmp (j := 43) rfl (cd_eq _ _) rfl
theorem b_Si_standsOut_43 {d : Nat} (x1 x2 x3 x4 : Int32) (r0 : Nat) (v5 : Value) (h : AH) (Q : Option Value → AH → Prop) : Wp d P_Si_standsOut 43 [.ref r0, .int x1, .int x2, .int x3, .int x4, v5] [] h Q ↔ (x2 ≤ x3 → Wp d P_Si_standsOut 48 [.ref r0, .int x1, .int x2, .int x3, .int x4, v5] [] h Q) ∧ (¬ (x2 ≤ x3) → Wp d P_Si_standsOut 46 [.ref r0, .int x1, .int x2, .int x3, .int x4, v5] [] h Q) :=
    (r_go (j := 44) (L' := [.ref r0, .int x1, .int x2, .int x3, .int x4, v5]) (S' := [.int x3]) (h' := h) rfl rfl rfl rfl).trans <|
    (r_go (j := 45) (L' := [.ref r0, .int x1, .int x2, .int x3, .int x4, v5]) (S' := [.int x2, .int x3]) (h' := h) rfl rfl rfl rfl).trans <|
    r_icmp (j := 46) rfl (cd_ge _ _) rfl
theorem b_Si_standsOut_46 {d : Nat} (x1 x2 x3 x4 : Int32) (r0 : Nat) (v5 : Value) (h : AH) (Q : Option Value → AH → Prop) : Wp d P_Si_standsOut 46 [.ref r0, .int x1, .int x2, .int x3, .int x4, v5] [] h Q ↔ Wp d P_Si_standsOut 49 [.ref r0, .int x1, .int x2, .int x3, .int x4, v5] [.int 1] h Q :=
    (r_iconst (j := 47) (x := 1) rfl i32_1 rfl).trans <|
    r_go (j := 49) (L' := [.ref r0, .int x1, .int x2, .int x3, .int x4, v5]) (S' := [.int 1]) (h' := h) rfl rfl rfl rfl
theorem b_Si_standsOut_48 {d : Nat} (x1 x2 x3 x4 : Int32) (r0 : Nat) (v5 : Value) (h : AH) (Q : Option Value → AH → Prop) : Wp d P_Si_standsOut 48 [.ref r0, .int x1, .int x2, .int x3, .int x4, v5] [] h Q ↔ Wp d P_Si_standsOut 49 [.ref r0, .int x1, .int x2, .int x3, .int x4, v5] [.int 0] h Q :=
    r_iconst (j := 49) (x := 0) rfl i32_0 rfl
theorem b_Si_standsOut_49 {d : Nat} (x1 x2 x3 x4 s0 : Int32) (r0 : Nat) (v5 : Value) (h : AH) (Q : Option Value → AH → Prop) : Wp d P_Si_standsOut 49 [.ref r0, .int x1, .int x2, .int x3, .int x4, v5] [.int s0] h Q ↔ Q (some (.int s0)) h :=
    r_ret rfl rfl rfl
theorem e_Si_standsOut {d : Nat} (x1 : Int32) (r0 : Nat) (h : AH) (Q : Option Value → AH → Prop) : Cl (d + 1) q_Si_standsOut [.ref r0, .int x1] h Q ↔ hK h r0 = 7 ∧ Wp d P_Si_standsOut 0 [.ref r0, .int x1, .null, .null, .null, .null] [] h (fun r h' => rtk (some .boolean) r = true ∧ Q r h') :=
    (Cl_method (t := m_Si_standsOut) rfl).trans (and_congr_left fun _ => decide_eq_true_iff)
/-! PenThatJumps$Tally.<init>()V -/
theorem b_Ta_init_0 {d : Nat} (r0 : Nat) (h : AH) (Q : Option Value → AH → Prop) : Wp d P_Ta_init 0 [.ref r0] [] h Q ↔ Cl d 301 [.ref r0] h (fun r h' => Wp d P_Ta_init 2 [.ref r0] (r.toList ++ []) h' Q) :=
    (r_go (j := 1) (L' := [.ref r0]) (S' := [.ref r0]) (h' := h) rfl rfl rfl rfl).trans <|
    r_call (j := 2) (a := [.ref r0]) (S' := []) rfl rfl rfl rfl rfl rfl rfl
theorem b_Ta_init_2 {d : Nat} (r0 : Nat) (h : AH) (Q : Option Value → AH → Prop) : Wp d P_Ta_init 2 [.ref r0] [] h Q ↔ ((0 : Int32) ≤ 8 ∧ Int32.toNatClampNeg 8 ≤ 10000) ∧ (Wp d P_Ta_init 5 [.ref r0] [.ref (hz h), .ref r0] (mkC h 20 (Int32.toNatClampNeg 8) (Int32.toNatClampNeg 8)) Q) :=
    (r_go (j := 3) (L' := [.ref r0]) (S' := [.ref r0]) (h' := h) rfl rfl rfl rfl).trans <|
    (r_bipush (j := 4) (x := 8) rfl i32_8 rfl).trans <|
    r_guard (j := 5) (L' := [.ref r0]) (S' := [.ref (hz h), .ref r0]) (h' := (mkC h 20 (Int32.toNatClampNeg 8) (Int32.toNatClampNeg 8))) (p := (0 : Int32) ≤ 8 ∧ Int32.toNatClampNeg 8 ≤ 10000) rfl rfl rfl rfl (and2 decide_eq_true_iff decide_eq_true_iff)
theorem b_Ta_init_5 {d : Nat} (r0 t0 t1 : Nat) (h : AH) (Q : Option Value → AH → Prop) : Wp d P_Ta_init 5 [.ref r0] [.ref t0, .ref t1] h Q ↔ (hK h t1 = 8) ∧ (Wp d P_Ta_init 6 [.ref r0] [] (sR h t1 2 t0) Q) :=
    r_guard (j := 6) (L' := [.ref r0]) (S' := []) (h' := (sR h t1 2 t0)) (p := hK h t1 = 8) rfl rfl rfl rfl (pfR rfl)
theorem b_Ta_init_6 {d : Nat} (r0 : Nat) (h : AH) (Q : Option Value → AH → Prop) : Wp d P_Ta_init 6 [.ref r0] [] h Q ↔ Q (none) h :=
    r_ret rfl rfl rfl
theorem e_Ta_init {d : Nat} (r0 : Nat) (h : AH) (Q : Option Value → AH → Prop) : Cl (d + 1) q_Ta_init [.ref r0] h Q ↔ hK h r0 = 8 ∧ Wp d P_Ta_init 0 [.ref r0] [] h (fun r h' => rtk (none) r = true ∧ Q r h') :=
    (Cl_method (t := m_Ta_init) rfl).trans (and_congr_left fun _ => decide_eq_true_iff)
/-! PenThatJumps$Tally.become(LPenThatJumps$Tally;)V -/
theorem b_Ta_become_0 {d : Nat} (r0 r1 : Nat) (h : AH) (Q : Option Value → AH → Prop) : Wp d P_Ta_become 0 [.ref r0, .ref r1, .null] [] h Q ↔ (hK h r1 = 8) ∧ ((hK h r0 = 8) ∧ (Wp d P_Ta_become 6 [.ref r0, .ref r1, .int 0] [] (sI h r0 1 (hI h r1 1)) Q)) :=
    (r_go (j := 1) (L' := [.ref r0, .ref r1, .null]) (S' := [.ref r0]) (h' := h) rfl rfl rfl rfl).trans <|
    (r_go (j := 2) (L' := [.ref r0, .ref r1, .null]) (S' := [.ref r1, .ref r0]) (h' := h) rfl rfl rfl rfl).trans <|
    (r_guard (j := 3) (L' := [.ref r0, .ref r1, .null]) (S' := [.int (hI h r1 1), .ref r0]) (h' := h) (p := hK h r1 = 8) rfl rfl rfl rfl (decide_eq_true_iff)).trans <| and_r <|
    (r_guard (j := 4) (L' := [.ref r0, .ref r1, .null]) (S' := []) (h' := (sI h r0 1 (hI h r1 1))) (p := hK h r0 = 8) rfl rfl rfl rfl (pfI rfl)).trans <| and_r <|
    (r_iconst (j := 5) (x := 0) rfl i32_0 rfl).trans <|
    r_go (j := 6) (L' := [.ref r0, .ref r1, .int 0]) (S' := []) (h' := (sI h r0 1 (hI h r1 1))) rfl rfl rfl rfl
theorem b_Ta_become_6 {d : Nat} (x2 : Int32) (r0 r1 : Nat) (h : AH) (Q : Option Value → AH → Prop) : Wp d P_Ta_become 6 [.ref r0, .ref r1, .int x2] [] h Q ↔ (hK h r0 = 8) ∧ ((20 ≤ hK h (hR h r0 2) ∧ hK h (hR h r0 2) ≠ 40 ∧ hK h (hR h r0 2) ≠ 42 ∧ hK h (hR h r0 2) ≤ 45 ∧ hK h (hR h r0 2) ≠ 43) ∧ (((Int32.ofNat (hN h (hR h r0 2))) ≤ x2 → Wp d P_Ta_become 26 [.ref r0, .ref r1, .int x2] [] h Q) ∧ (¬ ((Int32.ofNat (hN h (hR h r0 2))) ≤ x2) → Wp d P_Ta_become 11 [.ref r0, .ref r1, .int x2] [] h Q))) :=
    (r_go (j := 7) (L' := [.ref r0, .ref r1, .int x2]) (S' := [.int x2]) (h' := h) rfl rfl rfl rfl).trans <|
    (r_go (j := 8) (L' := [.ref r0, .ref r1, .int x2]) (S' := [.ref r0, .int x2]) (h' := h) rfl rfl rfl rfl).trans <|
    (r_guard (j := 9) (L' := [.ref r0, .ref r1, .int x2]) (S' := [.ref (hR h r0 2), .int x2]) (h' := h) (p := hK h r0 = 8) rfl rfl rfl rfl (decide_eq_true_iff)).trans <| and_r <|
    (r_guard (j := 10) (L' := [.ref r0, .ref r1, .int x2]) (S' := [.int (Int32.ofNat (hN h (hR h r0 2))), .int x2]) (h' := h) (p := 20 ≤ hK h (hR h r0 2) ∧ hK h (hR h r0 2) ≠ 40 ∧ hK h (hR h r0 2) ≠ 42 ∧ hK h (hR h r0 2) ≤ 45 ∧ hK h (hR h r0 2) ≠ 43) rfl rfl rfl rfl (decide_eq_true_iff)).trans <| and_r <|
    r_icmp (j := 11) rfl (cd_ge _ _) rfl
theorem b_Ta_become_11 {d : Nat} (x2 : Int32) (r0 r1 : Nat) (h : AH) (Q : Option Value → AH → Prop) : Wp d P_Ta_become 11 [.ref r0, .ref r1, .int x2] [] h Q ↔ (hK h r1 = 8) ∧ ((20 ≤ hK h (hR h r1 2) ∧ hK h (hR h r1 2) ≠ 40 ∧ hK h (hR h r1 2) ≠ 42 ∧ hK h (hR h r1 2) ≤ 45 ∧ hK h (hR h r1 2) ≠ 43) ∧ (((Int32.ofNat (hN h (hR h r1 2))) ≤ x2 → Wp d P_Ta_become 26 [.ref r0, .ref r1, .int x2] [] h Q) ∧ (¬ ((Int32.ofNat (hN h (hR h r1 2))) ≤ x2) → Wp d P_Ta_become 16 [.ref r0, .ref r1, .int x2] [] h Q))) :=
    (r_go (j := 12) (L' := [.ref r0, .ref r1, .int x2]) (S' := [.int x2]) (h' := h) rfl rfl rfl rfl).trans <|
    (r_go (j := 13) (L' := [.ref r0, .ref r1, .int x2]) (S' := [.ref r1, .int x2]) (h' := h) rfl rfl rfl rfl).trans <|
    (r_guard (j := 14) (L' := [.ref r0, .ref r1, .int x2]) (S' := [.ref (hR h r1 2), .int x2]) (h' := h) (p := hK h r1 = 8) rfl rfl rfl rfl (decide_eq_true_iff)).trans <| and_r <|
    (r_guard (j := 15) (L' := [.ref r0, .ref r1, .int x2]) (S' := [.int (Int32.ofNat (hN h (hR h r1 2))), .int x2]) (h' := h) (p := 20 ≤ hK h (hR h r1 2) ∧ hK h (hR h r1 2) ≠ 40 ∧ hK h (hR h r1 2) ≠ 42 ∧ hK h (hR h r1 2) ≤ 45 ∧ hK h (hR h r1 2) ≠ 43) rfl rfl rfl rfl (decide_eq_true_iff)).trans <| and_r <|
    r_icmp (j := 16) rfl (cd_ge _ _) rfl
theorem b_Ta_become_16 {d : Nat} (x2 : Int32) (r0 r1 : Nat) (h : AH) (Q : Option Value → AH → Prop) : Wp d P_Ta_become 16 [.ref r0, .ref r1, .int x2] [] h Q ↔ (hK h r0 = 8) ∧ ((hK h r1 = 8) ∧ ((hK h (hR h r1 2) ∈ [20, 44] ∧ ixo x2 (hN h (hR h r1 2)) = true) ∧ ((hK h (hR h r0 2) = 20 ∧ ixo x2 (hN h (hR h r0 2)) = true) ∧ (Wp d P_Ta_become 6 [.ref r0, .ref r1, .int (x2 + 1)] [] (sI h (hR h r0 2) (Int32.toNatClampNeg x2) (hI h (hR h r1 2) (Int32.toNatClampNeg x2))) Q)))) :=
    (r_go (j := 17) (L' := [.ref r0, .ref r1, .int x2]) (S' := [.ref r0]) (h' := h) rfl rfl rfl rfl).trans <|
    (r_guard (j := 18) (L' := [.ref r0, .ref r1, .int x2]) (S' := [.ref (hR h r0 2)]) (h' := h) (p := hK h r0 = 8) rfl rfl rfl rfl (decide_eq_true_iff)).trans <| and_r <|
    (r_go (j := 19) (L' := [.ref r0, .ref r1, .int x2]) (S' := [.int x2, .ref (hR h r0 2)]) (h' := h) rfl rfl rfl rfl).trans <|
    (r_go (j := 20) (L' := [.ref r0, .ref r1, .int x2]) (S' := [.ref r1, .int x2, .ref (hR h r0 2)]) (h' := h) rfl rfl rfl rfl).trans <|
    (r_guard (j := 21) (L' := [.ref r0, .ref r1, .int x2]) (S' := [.ref (hR h r1 2), .int x2, .ref (hR h r0 2)]) (h' := h) (p := hK h r1 = 8) rfl rfl rfl rfl (decide_eq_true_iff)).trans <| and_r <|
    (r_go (j := 22) (L' := [.ref r0, .ref r1, .int x2]) (S' := [.int x2, .ref (hR h r1 2), .int x2, .ref (hR h r0 2)]) (h' := h) rfl rfl rfl rfl).trans <|
    (r_guard (j := 23) (L' := [.ref r0, .ref r1, .int x2]) (S' := [.int (hI h (hR h r1 2) (Int32.toNatClampNeg x2)), .int x2, .ref (hR h r0 2)]) (h' := h) (p := hK h (hR h r1 2) ∈ [20, 44] ∧ ixo x2 (hN h (hR h r1 2)) = true) rfl rfl rfl rfl (and2 decide_eq_true_iff Iff.rfl)).trans <| and_r <|
    (r_guard (j := 24) (L' := [.ref r0, .ref r1, .int x2]) (S' := []) (h' := (sI h (hR h r0 2) (Int32.toNatClampNeg x2) (hI h (hR h r1 2) (Int32.toNatClampNeg x2)))) (p := hK h (hR h r0 2) = 20 ∧ ixo x2 (hN h (hR h r0 2)) = true) rfl rfl rfl rfl (and2 decide_eq_true_iff Iff.rfl)).trans <| and_r <|
    (r_iinc (j := 25) (x := 1) (L' := [.ref r0, .ref r1, .int (x2 + 1)]) rfl rfl i32_1 rfl rfl).trans <|
    r_go (j := 6) (L' := [.ref r0, .ref r1, .int (x2 + 1)]) (S' := []) (h' := (sI h (hR h r0 2) (Int32.toNatClampNeg x2) (hI h (hR h r1 2) (Int32.toNatClampNeg x2)))) rfl rfl rfl rfl
theorem b_Ta_become_26 {d : Nat} (x2 : Int32) (r0 r1 : Nat) (h : AH) (Q : Option Value → AH → Prop) : Wp d P_Ta_become 26 [.ref r0, .ref r1, .int x2] [] h Q ↔ (hK h r1 = 8) ∧ ((hK h r0 = 8) ∧ ((hK (sI h r0 3 (hI h r1 3)) r1 = 8) ∧ ((hK (sI h r0 3 (hI h r1 3)) r0 = 8) ∧ ((hK (sI (sI h r0 3 (hI h r1 3)) r0 4 (hI (sI h r0 3 (hI h r1 3)) r1 4)) r1 = 8) ∧ ((hK (sI (sI h r0 3 (hI h r1 3)) r0 4 (hI (sI h r0 3 (hI h r1 3)) r1 4)) r0 = 8) ∧ ((hK (sI (sI (sI h r0 3 (hI h r1 3)) r0 4 (hI (sI h r0 3 (hI h r1 3)) r1 4)) r0 5 (hI (sI (sI h r0 3 (hI h r1 3)) r0 4 (hI (sI h r0 3 (hI h r1 3)) r1 4)) r1 5)) r1 = 8) ∧ ((hK (sI (sI (sI h r0 3 (hI h r1 3)) r0 4 (hI (sI h r0 3 (hI h r1 3)) r1 4)) r0 5 (hI (sI (sI h r0 3 (hI h r1 3)) r0 4 (hI (sI h r0 3 (hI h r1 3)) r1 4)) r1 5)) r0 = 8) ∧ (Q (none) (sI (sI (sI (sI h r0 3 (hI h r1 3)) r0 4 (hI (sI h r0 3 (hI h r1 3)) r1 4)) r0 5 (hI (sI (sI h r0 3 (hI h r1 3)) r0 4 (hI (sI h r0 3 (hI h r1 3)) r1 4)) r1 5)) r0 6 (hI (sI (sI (sI h r0 3 (hI h r1 3)) r0 4 (hI (sI h r0 3 (hI h r1 3)) r1 4)) r0 5 (hI (sI (sI h r0 3 (hI h r1 3)) r0 4 (hI (sI h r0 3 (hI h r1 3)) r1 4)) r1 5)) r1 6)))))))))) :=
    (r_go (j := 27) (L' := [.ref r0, .ref r1, .int x2]) (S' := [.ref r0]) (h' := h) rfl rfl rfl rfl).trans <|
    (r_go (j := 28) (L' := [.ref r0, .ref r1, .int x2]) (S' := [.ref r1, .ref r0]) (h' := h) rfl rfl rfl rfl).trans <|
    (r_guard (j := 29) (L' := [.ref r0, .ref r1, .int x2]) (S' := [.int (hI h r1 3), .ref r0]) (h' := h) (p := hK h r1 = 8) rfl rfl rfl rfl (decide_eq_true_iff)).trans <| and_r <|
    (r_guard (j := 30) (L' := [.ref r0, .ref r1, .int x2]) (S' := []) (h' := (sI h r0 3 (hI h r1 3))) (p := hK h r0 = 8) rfl rfl rfl rfl (pfI rfl)).trans <| and_r <|
    (r_go (j := 31) (L' := [.ref r0, .ref r1, .int x2]) (S' := [.ref r0]) (h' := (sI h r0 3 (hI h r1 3))) rfl rfl rfl rfl).trans <|
    (r_go (j := 32) (L' := [.ref r0, .ref r1, .int x2]) (S' := [.ref r1, .ref r0]) (h' := (sI h r0 3 (hI h r1 3))) rfl rfl rfl rfl).trans <|
    (r_guard (j := 33) (L' := [.ref r0, .ref r1, .int x2]) (S' := [.int (hI (sI h r0 3 (hI h r1 3)) r1 4), .ref r0]) (h' := (sI h r0 3 (hI h r1 3))) (p := hK (sI h r0 3 (hI h r1 3)) r1 = 8) rfl rfl rfl rfl (decide_eq_true_iff)).trans <| and_r <|
    (r_guard (j := 34) (L' := [.ref r0, .ref r1, .int x2]) (S' := []) (h' := (sI (sI h r0 3 (hI h r1 3)) r0 4 (hI (sI h r0 3 (hI h r1 3)) r1 4))) (p := hK (sI h r0 3 (hI h r1 3)) r0 = 8) rfl rfl rfl rfl (pfI rfl)).trans <| and_r <|
    (r_go (j := 35) (L' := [.ref r0, .ref r1, .int x2]) (S' := [.ref r0]) (h' := (sI (sI h r0 3 (hI h r1 3)) r0 4 (hI (sI h r0 3 (hI h r1 3)) r1 4))) rfl rfl rfl rfl).trans <|
    (r_go (j := 36) (L' := [.ref r0, .ref r1, .int x2]) (S' := [.ref r1, .ref r0]) (h' := (sI (sI h r0 3 (hI h r1 3)) r0 4 (hI (sI h r0 3 (hI h r1 3)) r1 4))) rfl rfl rfl rfl).trans <|
    (r_guard (j := 37) (L' := [.ref r0, .ref r1, .int x2]) (S' := [.int (hI (sI (sI h r0 3 (hI h r1 3)) r0 4 (hI (sI h r0 3 (hI h r1 3)) r1 4)) r1 5), .ref r0]) (h' := (sI (sI h r0 3 (hI h r1 3)) r0 4 (hI (sI h r0 3 (hI h r1 3)) r1 4))) (p := hK (sI (sI h r0 3 (hI h r1 3)) r0 4 (hI (sI h r0 3 (hI h r1 3)) r1 4)) r1 = 8) rfl rfl rfl rfl (decide_eq_true_iff)).trans <| and_r <|
    (r_guard (j := 38) (L' := [.ref r0, .ref r1, .int x2]) (S' := []) (h' := (sI (sI (sI h r0 3 (hI h r1 3)) r0 4 (hI (sI h r0 3 (hI h r1 3)) r1 4)) r0 5 (hI (sI (sI h r0 3 (hI h r1 3)) r0 4 (hI (sI h r0 3 (hI h r1 3)) r1 4)) r1 5))) (p := hK (sI (sI h r0 3 (hI h r1 3)) r0 4 (hI (sI h r0 3 (hI h r1 3)) r1 4)) r0 = 8) rfl rfl rfl rfl (pfI rfl)).trans <| and_r <|
    (r_go (j := 39) (L' := [.ref r0, .ref r1, .int x2]) (S' := [.ref r0]) (h' := (sI (sI (sI h r0 3 (hI h r1 3)) r0 4 (hI (sI h r0 3 (hI h r1 3)) r1 4)) r0 5 (hI (sI (sI h r0 3 (hI h r1 3)) r0 4 (hI (sI h r0 3 (hI h r1 3)) r1 4)) r1 5))) rfl rfl rfl rfl).trans <|
    (r_go (j := 40) (L' := [.ref r0, .ref r1, .int x2]) (S' := [.ref r1, .ref r0]) (h' := (sI (sI (sI h r0 3 (hI h r1 3)) r0 4 (hI (sI h r0 3 (hI h r1 3)) r1 4)) r0 5 (hI (sI (sI h r0 3 (hI h r1 3)) r0 4 (hI (sI h r0 3 (hI h r1 3)) r1 4)) r1 5))) rfl rfl rfl rfl).trans <|
    (r_guard (j := 41) (L' := [.ref r0, .ref r1, .int x2]) (S' := [.int (hI (sI (sI (sI h r0 3 (hI h r1 3)) r0 4 (hI (sI h r0 3 (hI h r1 3)) r1 4)) r0 5 (hI (sI (sI h r0 3 (hI h r1 3)) r0 4 (hI (sI h r0 3 (hI h r1 3)) r1 4)) r1 5)) r1 6), .ref r0]) (h' := (sI (sI (sI h r0 3 (hI h r1 3)) r0 4 (hI (sI h r0 3 (hI h r1 3)) r1 4)) r0 5 (hI (sI (sI h r0 3 (hI h r1 3)) r0 4 (hI (sI h r0 3 (hI h r1 3)) r1 4)) r1 5))) (p := hK (sI (sI (sI h r0 3 (hI h r1 3)) r0 4 (hI (sI h r0 3 (hI h r1 3)) r1 4)) r0 5 (hI (sI (sI h r0 3 (hI h r1 3)) r0 4 (hI (sI h r0 3 (hI h r1 3)) r1 4)) r1 5)) r1 = 8) rfl rfl rfl rfl (decide_eq_true_iff)).trans <| and_r <|
    (r_guard (j := 42) (L' := [.ref r0, .ref r1, .int x2]) (S' := []) (h' := (sI (sI (sI (sI h r0 3 (hI h r1 3)) r0 4 (hI (sI h r0 3 (hI h r1 3)) r1 4)) r0 5 (hI (sI (sI h r0 3 (hI h r1 3)) r0 4 (hI (sI h r0 3 (hI h r1 3)) r1 4)) r1 5)) r0 6 (hI (sI (sI (sI h r0 3 (hI h r1 3)) r0 4 (hI (sI h r0 3 (hI h r1 3)) r1 4)) r0 5 (hI (sI (sI h r0 3 (hI h r1 3)) r0 4 (hI (sI h r0 3 (hI h r1 3)) r1 4)) r1 5)) r1 6))) (p := hK (sI (sI (sI h r0 3 (hI h r1 3)) r0 4 (hI (sI h r0 3 (hI h r1 3)) r1 4)) r0 5 (hI (sI (sI h r0 3 (hI h r1 3)) r0 4 (hI (sI h r0 3 (hI h r1 3)) r1 4)) r1 5)) r0 = 8) rfl rfl rfl rfl (pfI rfl)).trans <| and_r <|
    r_ret rfl rfl rfl
theorem e_Ta_become {d : Nat} (r0 r1 : Nat) (h : AH) (Q : Option Value → AH → Prop) : Cl (d + 1) q_Ta_become [.ref r0, .ref r1] h Q ↔ hK h r0 = 8 ∧ Wp d P_Ta_become 0 [.ref r0, .ref r1, .null] [] h (fun r h' => rtk (none) r = true ∧ Q r h') :=
    (Cl_method (t := m_Ta_become) rfl).trans (and_congr_left fun _ => decide_eq_true_iff)
/-! PenThatJumps$Tally.cell(ZZZ)I -/
theorem b_Ta_cell_0 {d : Nat} (x0 x1 x2 : Int32) (h : AH) (Q : Option Value → AH → Prop) : Wp d P_Ta_cell 0 [.int x0, .int x1, .int x2] [] h Q ↔ (x0 = 0 → Wp d P_Ta_cell 4 [.int x0, .int x1, .int x2] [] h Q) ∧ (¬ (x0 = 0) → Wp d P_Ta_cell 2 [.int x0, .int x1, .int x2] [] h Q) :=
    (r_go (j := 1) (L' := [.int x0, .int x1, .int x2]) (S' := [.int x0]) (h' := h) rfl rfl rfl rfl).trans <|
    r_if (j := 2) rfl (cd_eq _ _) rfl
theorem b_Ta_cell_2 {d : Nat} (x0 x1 x2 : Int32) (h : AH) (Q : Option Value → AH → Prop) : Wp d P_Ta_cell 2 [.int x0, .int x1, .int x2] [] h Q ↔ Wp d P_Ta_cell 5 [.int x0, .int x1, .int x2] [.int 4] h Q :=
    (r_iconst (j := 3) (x := 4) rfl i32_4 rfl).trans <|
    r_go (j := 5) (L' := [.int x0, .int x1, .int x2]) (S' := [.int 4]) (h' := h) rfl rfl rfl rfl
theorem b_Ta_cell_4 {d : Nat} (x0 x1 x2 : Int32) (h : AH) (Q : Option Value → AH → Prop) : Wp d P_Ta_cell 4 [.int x0, .int x1, .int x2] [] h Q ↔ Wp d P_Ta_cell 5 [.int x0, .int x1, .int x2] [.int 0] h Q :=
    r_iconst (j := 5) (x := 0) rfl i32_0 rfl
theorem b_Ta_cell_5 {d : Nat} (x0 x1 x2 s0 : Int32) (h : AH) (Q : Option Value → AH → Prop) : Wp d P_Ta_cell 5 [.int x0, .int x1, .int x2] [.int s0] h Q ↔ (x1 = 0 → Wp d P_Ta_cell 9 [.int x0, .int x1, .int x2] [.int s0] h Q) ∧ (¬ (x1 = 0) → Wp d P_Ta_cell 7 [.int x0, .int x1, .int x2] [.int s0] h Q) :=
    (r_go (j := 6) (L' := [.int x0, .int x1, .int x2]) (S' := [.int x1, .int s0]) (h' := h) rfl rfl rfl rfl).trans <|
    r_if (j := 7) rfl (cd_eq _ _) rfl
theorem b_Ta_cell_7 {d : Nat} (x0 x1 x2 s0 : Int32) (h : AH) (Q : Option Value → AH → Prop) : Wp d P_Ta_cell 7 [.int x0, .int x1, .int x2] [.int s0] h Q ↔ Wp d P_Ta_cell 10 [.int x0, .int x1, .int x2] [.int 2, .int s0] h Q :=
    (r_iconst (j := 8) (x := 2) rfl i32_2 rfl).trans <|
    r_go (j := 10) (L' := [.int x0, .int x1, .int x2]) (S' := [.int 2, .int s0]) (h' := h) rfl rfl rfl rfl
theorem b_Ta_cell_9 {d : Nat} (x0 x1 x2 s0 : Int32) (h : AH) (Q : Option Value → AH → Prop) : Wp d P_Ta_cell 9 [.int x0, .int x1, .int x2] [.int s0] h Q ↔ Wp d P_Ta_cell 10 [.int x0, .int x1, .int x2] [.int 0, .int s0] h Q :=
    r_iconst (j := 10) (x := 0) rfl i32_0 rfl
theorem b_Ta_cell_10 {d : Nat} (x0 x1 x2 s0 s1 : Int32) (h : AH) (Q : Option Value → AH → Prop) : Wp d P_Ta_cell 10 [.int x0, .int x1, .int x2] [.int s0, .int s1] h Q ↔ (x2 = 0 → Wp d P_Ta_cell 15 [.int x0, .int x1, .int x2] [.int (s1 + s0)] h Q) ∧ (¬ (x2 = 0) → Wp d P_Ta_cell 13 [.int x0, .int x1, .int x2] [.int (s1 + s0)] h Q) :=
    (r_go (j := 11) (L' := [.int x0, .int x1, .int x2]) (S' := [.int (s1 + s0)]) (h' := h) rfl rfl rfl rfl).trans <|
    (r_go (j := 12) (L' := [.int x0, .int x1, .int x2]) (S' := [.int x2, .int (s1 + s0)]) (h' := h) rfl rfl rfl rfl).trans <|
    r_if (j := 13) rfl (cd_eq _ _) rfl
theorem b_Ta_cell_13 {d : Nat} (x0 x1 x2 s0 : Int32) (h : AH) (Q : Option Value → AH → Prop) : Wp d P_Ta_cell 13 [.int x0, .int x1, .int x2] [.int s0] h Q ↔ Wp d P_Ta_cell 16 [.int x0, .int x1, .int x2] [.int 1, .int s0] h Q :=
    (r_iconst (j := 14) (x := 1) rfl i32_1 rfl).trans <|
    r_go (j := 16) (L' := [.int x0, .int x1, .int x2]) (S' := [.int 1, .int s0]) (h' := h) rfl rfl rfl rfl
theorem b_Ta_cell_15 {d : Nat} (x0 x1 x2 s0 : Int32) (h : AH) (Q : Option Value → AH → Prop) : Wp d P_Ta_cell 15 [.int x0, .int x1, .int x2] [.int s0] h Q ↔ Wp d P_Ta_cell 16 [.int x0, .int x1, .int x2] [.int 0, .int s0] h Q :=
    r_iconst (j := 16) (x := 0) rfl i32_0 rfl
theorem b_Ta_cell_16 {d : Nat} (x0 x1 x2 s0 s1 : Int32) (h : AH) (Q : Option Value → AH → Prop) : Wp d P_Ta_cell 16 [.int x0, .int x1, .int x2] [.int s0, .int s1] h Q ↔ Q (some (.int (s1 + s0))) h :=
    (r_go (j := 17) (L' := [.int x0, .int x1, .int x2]) (S' := [.int (s1 + s0)]) (h' := h) rfl rfl rfl rfl).trans <|
    r_ret rfl rfl rfl
theorem e_Ta_cell {d : Nat} (x0 x1 x2 : Int32) (h : AH) (Q : Option Value → AH → Prop) : Cl (d + 1) q_Ta_cell [.int x0, .int x1, .int x2] h Q ↔ Wp d P_Ta_cell 0 [.int x0, .int x1, .int x2] [] h (fun r h' => rtk (some .int) r = true ∧ Q r h') :=
    (Cl_method (t := m_Ta_cell) rfl).trans (and_iff_right rfl)
/-! PenThatJumps$Tally.addConfessions(ZZZI)V -/
theorem b_Ta_addConfessions_0 {d : Nat} (x1 x2 x3 x4 : Int32) (r0 : Nat) (h : AH) (Q : Option Value → AH → Prop) : Wp d P_Ta_addConfessions 0 [.ref r0, .int x1, .int x2, .int x3, .int x4, .null] [] h Q ↔ Cl d q_Ta_cell [.int x1, .int x2, .int x3] h (fun r h' => Wp d P_Ta_addConfessions 4 [.ref r0, .int x1, .int x2, .int x3, .int x4, .null] (r.toList ++ []) h' Q) :=
    (r_go (j := 1) (L' := [.ref r0, .int x1, .int x2, .int x3, .int x4, .null]) (S' := [.int x1]) (h' := h) rfl rfl rfl rfl).trans <|
    (r_go (j := 2) (L' := [.ref r0, .int x1, .int x2, .int x3, .int x4, .null]) (S' := [.int x2, .int x1]) (h' := h) rfl rfl rfl rfl).trans <|
    (r_go (j := 3) (L' := [.ref r0, .int x1, .int x2, .int x3, .int x4, .null]) (S' := [.int x3, .int x2, .int x1]) (h' := h) rfl rfl rfl rfl).trans <|
    r_call (j := 4) (a := [.int x1, .int x2, .int x3]) (S' := []) rfl rfl rfl rfl rfl rfl rfl
theorem b_Ta_addConfessions_4 {d : Nat} (x1 x2 x3 x4 s0 : Int32) (r0 : Nat) (h : AH) (Q : Option Value → AH → Prop) : Wp d P_Ta_addConfessions 4 [.ref r0, .int x1, .int x2, .int x3, .int x4, .null] [.int s0] h Q ↔ (s0 < 0 → Wp d P_Ta_addConfessions 20 [.ref r0, .int x1, .int x2, .int x3, .int x4, .int s0] [] h Q) ∧ (¬ (s0 < 0) → Wp d P_Ta_addConfessions 7 [.ref r0, .int x1, .int x2, .int x3, .int x4, .int s0] [] h Q) :=
    (r_go (j := 5) (L' := [.ref r0, .int x1, .int x2, .int x3, .int x4, .int s0]) (S' := []) (h' := h) rfl rfl rfl rfl).trans <|
    (r_go (j := 6) (L' := [.ref r0, .int x1, .int x2, .int x3, .int x4, .int s0]) (S' := [.int s0]) (h' := h) rfl rfl rfl rfl).trans <|
    r_if (j := 7) rfl (cd_lt _ _) rfl
theorem b_Ta_addConfessions_7 {d : Nat} (x1 x2 x3 x4 x5 : Int32) (r0 : Nat) (h : AH) (Q : Option Value → AH → Prop) : Wp d P_Ta_addConfessions 7 [.ref r0, .int x1, .int x2, .int x3, .int x4, .int x5] [] h Q ↔ (hK h r0 = 8) ∧ ((20 ≤ hK h (hR h r0 2) ∧ hK h (hR h r0 2) ≠ 40 ∧ hK h (hR h r0 2) ≠ 42 ∧ hK h (hR h r0 2) ≤ 45 ∧ hK h (hR h r0 2) ≠ 43) ∧ (((Int32.ofNat (hN h (hR h r0 2))) ≤ x5 → Wp d P_Ta_addConfessions 20 [.ref r0, .int x1, .int x2, .int x3, .int x4, .int x5] [] h Q) ∧ (¬ ((Int32.ofNat (hN h (hR h r0 2))) ≤ x5) → Wp d P_Ta_addConfessions 12 [.ref r0, .int x1, .int x2, .int x3, .int x4, .int x5] [] h Q))) :=
    (r_go (j := 8) (L' := [.ref r0, .int x1, .int x2, .int x3, .int x4, .int x5]) (S' := [.int x5]) (h' := h) rfl rfl rfl rfl).trans <|
    (r_go (j := 9) (L' := [.ref r0, .int x1, .int x2, .int x3, .int x4, .int x5]) (S' := [.ref r0, .int x5]) (h' := h) rfl rfl rfl rfl).trans <|
    (r_guard (j := 10) (L' := [.ref r0, .int x1, .int x2, .int x3, .int x4, .int x5]) (S' := [.ref (hR h r0 2), .int x5]) (h' := h) (p := hK h r0 = 8) rfl rfl rfl rfl (decide_eq_true_iff)).trans <| and_r <|
    (r_guard (j := 11) (L' := [.ref r0, .int x1, .int x2, .int x3, .int x4, .int x5]) (S' := [.int (Int32.ofNat (hN h (hR h r0 2))), .int x5]) (h' := h) (p := 20 ≤ hK h (hR h r0 2) ∧ hK h (hR h r0 2) ≠ 40 ∧ hK h (hR h r0 2) ≠ 42 ∧ hK h (hR h r0 2) ≤ 45 ∧ hK h (hR h r0 2) ≠ 43) rfl rfl rfl rfl (decide_eq_true_iff)).trans <| and_r <|
    r_icmp (j := 12) rfl (cd_ge _ _) rfl
theorem b_Ta_addConfessions_12 {d : Nat} (x1 x2 x3 x4 x5 : Int32) (r0 : Nat) (h : AH) (Q : Option Value → AH → Prop) : Wp d P_Ta_addConfessions 12 [.ref r0, .int x1, .int x2, .int x3, .int x4, .int x5] [] h Q ↔ (hK h r0 = 8) ∧ ((hK h (hR h r0 2) ∈ [20, 44] ∧ ixo x5 (hN h (hR h r0 2)) = true) ∧ ((hK h (hR h r0 2) = 20 ∧ ixo x5 (hN h (hR h r0 2)) = true) ∧ (Wp d P_Ta_addConfessions 20 [.ref r0, .int x1, .int x2, .int x3, .int x4, .int x5] [] (sI h (hR h r0 2) (Int32.toNatClampNeg x5) ((hI h (hR h r0 2) (Int32.toNatClampNeg x5)) + x4)) Q))) :=
    (r_go (j := 13) (L' := [.ref r0, .int x1, .int x2, .int x3, .int x4, .int x5]) (S' := [.ref r0]) (h' := h) rfl rfl rfl rfl).trans <|
    (r_guard (j := 14) (L' := [.ref r0, .int x1, .int x2, .int x3, .int x4, .int x5]) (S' := [.ref (hR h r0 2)]) (h' := h) (p := hK h r0 = 8) rfl rfl rfl rfl (decide_eq_true_iff)).trans <| and_r <|
    (r_go (j := 15) (L' := [.ref r0, .int x1, .int x2, .int x3, .int x4, .int x5]) (S' := [.int x5, .ref (hR h r0 2)]) (h' := h) rfl rfl rfl rfl).trans <|
    (r_go (j := 16) (L' := [.ref r0, .int x1, .int x2, .int x3, .int x4, .int x5]) (S' := [.int x5, .ref (hR h r0 2), .int x5, .ref (hR h r0 2)]) (h' := h) rfl rfl rfl rfl).trans <|
    (r_guard (j := 17) (L' := [.ref r0, .int x1, .int x2, .int x3, .int x4, .int x5]) (S' := [.int (hI h (hR h r0 2) (Int32.toNatClampNeg x5)), .int x5, .ref (hR h r0 2)]) (h' := h) (p := hK h (hR h r0 2) ∈ [20, 44] ∧ ixo x5 (hN h (hR h r0 2)) = true) rfl rfl rfl rfl (and2 decide_eq_true_iff Iff.rfl)).trans <| and_r <|
    (r_go (j := 18) (L' := [.ref r0, .int x1, .int x2, .int x3, .int x4, .int x5]) (S' := [.int x4, .int (hI h (hR h r0 2) (Int32.toNatClampNeg x5)), .int x5, .ref (hR h r0 2)]) (h' := h) rfl rfl rfl rfl).trans <|
    (r_go (j := 19) (L' := [.ref r0, .int x1, .int x2, .int x3, .int x4, .int x5]) (S' := [.int ((hI h (hR h r0 2) (Int32.toNatClampNeg x5)) + x4), .int x5, .ref (hR h r0 2)]) (h' := h) rfl rfl rfl rfl).trans <|
    r_guard (j := 20) (L' := [.ref r0, .int x1, .int x2, .int x3, .int x4, .int x5]) (S' := []) (h' := (sI h (hR h r0 2) (Int32.toNatClampNeg x5) ((hI h (hR h r0 2) (Int32.toNatClampNeg x5)) + x4))) (p := hK h (hR h r0 2) = 20 ∧ ixo x5 (hN h (hR h r0 2)) = true) rfl rfl rfl rfl (and2 decide_eq_true_iff Iff.rfl)
theorem b_Ta_addConfessions_20 {d : Nat} (x1 x2 x3 x4 x5 : Int32) (r0 : Nat) (h : AH) (Q : Option Value → AH → Prop) : Wp d P_Ta_addConfessions 20 [.ref r0, .int x1, .int x2, .int x3, .int x4, .int x5] [] h Q ↔ Q (none) h :=
    r_ret rfl rfl rfl
theorem e_Ta_addConfessions {d : Nat} (x1 x2 x3 x4 : Int32) (r0 : Nat) (h : AH) (Q : Option Value → AH → Prop) : Cl (d + 1) q_Ta_addConfessions [.ref r0, .int x1, .int x2, .int x3, .int x4] h Q ↔ hK h r0 = 8 ∧ Wp d P_Ta_addConfessions 0 [.ref r0, .int x1, .int x2, .int x3, .int x4, .null] [] h (fun r h' => rtk (none) r = true ∧ Q r h') :=
    (Cl_method (t := m_Ta_addConfessions) rfl).trans (and_congr_left fun _ => decide_eq_true_iff)
/-! PenThatJumps$Tally.confessionsAt(ZZZ)I -/
theorem b_Ta_confessionsAt_0 {d : Nat} (x1 x2 x3 : Int32) (r0 : Nat) (h : AH) (Q : Option Value → AH → Prop) : Wp d P_Ta_confessionsAt 0 [.ref r0, .int x1, .int x2, .int x3, .null] [] h Q ↔ Cl d q_Ta_cell [.int x1, .int x2, .int x3] h (fun r h' => Wp d P_Ta_confessionsAt 4 [.ref r0, .int x1, .int x2, .int x3, .null] (r.toList ++ []) h' Q) :=
    (r_go (j := 1) (L' := [.ref r0, .int x1, .int x2, .int x3, .null]) (S' := [.int x1]) (h' := h) rfl rfl rfl rfl).trans <|
    (r_go (j := 2) (L' := [.ref r0, .int x1, .int x2, .int x3, .null]) (S' := [.int x2, .int x1]) (h' := h) rfl rfl rfl rfl).trans <|
    (r_go (j := 3) (L' := [.ref r0, .int x1, .int x2, .int x3, .null]) (S' := [.int x3, .int x2, .int x1]) (h' := h) rfl rfl rfl rfl).trans <|
    r_call (j := 4) (a := [.int x1, .int x2, .int x3]) (S' := []) rfl rfl rfl rfl rfl rfl rfl
theorem b_Ta_confessionsAt_4 {d : Nat} (x1 x2 x3 s0 : Int32) (r0 : Nat) (h : AH) (Q : Option Value → AH → Prop) : Wp d P_Ta_confessionsAt 4 [.ref r0, .int x1, .int x2, .int x3, .null] [.int s0] h Q ↔ (s0 < 0 → Wp d P_Ta_confessionsAt 17 [.ref r0, .int x1, .int x2, .int x3, .int s0] [] h Q) ∧ (¬ (s0 < 0) → Wp d P_Ta_confessionsAt 7 [.ref r0, .int x1, .int x2, .int x3, .int s0] [] h Q) :=
    (r_go (j := 5) (L' := [.ref r0, .int x1, .int x2, .int x3, .int s0]) (S' := []) (h' := h) rfl rfl rfl rfl).trans <|
    (r_go (j := 6) (L' := [.ref r0, .int x1, .int x2, .int x3, .int s0]) (S' := [.int s0]) (h' := h) rfl rfl rfl rfl).trans <|
    r_if (j := 7) rfl (cd_lt _ _) rfl
theorem b_Ta_confessionsAt_7 {d : Nat} (x1 x2 x3 x4 : Int32) (r0 : Nat) (h : AH) (Q : Option Value → AH → Prop) : Wp d P_Ta_confessionsAt 7 [.ref r0, .int x1, .int x2, .int x3, .int x4] [] h Q ↔ (hK h r0 = 8) ∧ ((20 ≤ hK h (hR h r0 2) ∧ hK h (hR h r0 2) ≠ 40 ∧ hK h (hR h r0 2) ≠ 42 ∧ hK h (hR h r0 2) ≤ 45 ∧ hK h (hR h r0 2) ≠ 43) ∧ (((Int32.ofNat (hN h (hR h r0 2))) ≤ x4 → Wp d P_Ta_confessionsAt 17 [.ref r0, .int x1, .int x2, .int x3, .int x4] [] h Q) ∧ (¬ ((Int32.ofNat (hN h (hR h r0 2))) ≤ x4) → Wp d P_Ta_confessionsAt 12 [.ref r0, .int x1, .int x2, .int x3, .int x4] [] h Q))) :=
    (r_go (j := 8) (L' := [.ref r0, .int x1, .int x2, .int x3, .int x4]) (S' := [.int x4]) (h' := h) rfl rfl rfl rfl).trans <|
    (r_go (j := 9) (L' := [.ref r0, .int x1, .int x2, .int x3, .int x4]) (S' := [.ref r0, .int x4]) (h' := h) rfl rfl rfl rfl).trans <|
    (r_guard (j := 10) (L' := [.ref r0, .int x1, .int x2, .int x3, .int x4]) (S' := [.ref (hR h r0 2), .int x4]) (h' := h) (p := hK h r0 = 8) rfl rfl rfl rfl (decide_eq_true_iff)).trans <| and_r <|
    (r_guard (j := 11) (L' := [.ref r0, .int x1, .int x2, .int x3, .int x4]) (S' := [.int (Int32.ofNat (hN h (hR h r0 2))), .int x4]) (h' := h) (p := 20 ≤ hK h (hR h r0 2) ∧ hK h (hR h r0 2) ≠ 40 ∧ hK h (hR h r0 2) ≠ 42 ∧ hK h (hR h r0 2) ≤ 45 ∧ hK h (hR h r0 2) ≠ 43) rfl rfl rfl rfl (decide_eq_true_iff)).trans <| and_r <|
    r_icmp (j := 12) rfl (cd_ge _ _) rfl
theorem b_Ta_confessionsAt_12 {d : Nat} (x1 x2 x3 x4 : Int32) (r0 : Nat) (h : AH) (Q : Option Value → AH → Prop) : Wp d P_Ta_confessionsAt 12 [.ref r0, .int x1, .int x2, .int x3, .int x4] [] h Q ↔ (hK h r0 = 8) ∧ ((hK h (hR h r0 2) ∈ [20, 44] ∧ ixo x4 (hN h (hR h r0 2)) = true) ∧ (Wp d P_Ta_confessionsAt 18 [.ref r0, .int x1, .int x2, .int x3, .int x4] [.int (hI h (hR h r0 2) (Int32.toNatClampNeg x4))] h Q)) :=
    (r_go (j := 13) (L' := [.ref r0, .int x1, .int x2, .int x3, .int x4]) (S' := [.ref r0]) (h' := h) rfl rfl rfl rfl).trans <|
    (r_guard (j := 14) (L' := [.ref r0, .int x1, .int x2, .int x3, .int x4]) (S' := [.ref (hR h r0 2)]) (h' := h) (p := hK h r0 = 8) rfl rfl rfl rfl (decide_eq_true_iff)).trans <| and_r <|
    (r_go (j := 15) (L' := [.ref r0, .int x1, .int x2, .int x3, .int x4]) (S' := [.int x4, .ref (hR h r0 2)]) (h' := h) rfl rfl rfl rfl).trans <|
    (r_guard (j := 16) (L' := [.ref r0, .int x1, .int x2, .int x3, .int x4]) (S' := [.int (hI h (hR h r0 2) (Int32.toNatClampNeg x4))]) (h' := h) (p := hK h (hR h r0 2) ∈ [20, 44] ∧ ixo x4 (hN h (hR h r0 2)) = true) rfl rfl rfl rfl (and2 decide_eq_true_iff Iff.rfl)).trans <| and_r <|
    r_go (j := 18) (L' := [.ref r0, .int x1, .int x2, .int x3, .int x4]) (S' := [.int (hI h (hR h r0 2) (Int32.toNatClampNeg x4))]) (h' := h) rfl rfl rfl rfl
theorem b_Ta_confessionsAt_17 {d : Nat} (x1 x2 x3 x4 : Int32) (r0 : Nat) (h : AH) (Q : Option Value → AH → Prop) : Wp d P_Ta_confessionsAt 17 [.ref r0, .int x1, .int x2, .int x3, .int x4] [] h Q ↔ Wp d P_Ta_confessionsAt 18 [.ref r0, .int x1, .int x2, .int x3, .int x4] [.int 0] h Q :=
    r_iconst (j := 18) (x := 0) rfl i32_0 rfl
theorem b_Ta_confessionsAt_18 {d : Nat} (x1 x2 x3 x4 s0 : Int32) (r0 : Nat) (h : AH) (Q : Option Value → AH → Prop) : Wp d P_Ta_confessionsAt 18 [.ref r0, .int x1, .int x2, .int x3, .int x4] [.int s0] h Q ↔ Q (some (.int s0)) h :=
    r_ret rfl rfl rfl
theorem e_Ta_confessionsAt {d : Nat} (x1 x2 x3 : Int32) (r0 : Nat) (h : AH) (Q : Option Value → AH → Prop) : Cl (d + 1) q_Ta_confessionsAt [.ref r0, .int x1, .int x2, .int x3] h Q ↔ hK h r0 = 8 ∧ Wp d P_Ta_confessionsAt 0 [.ref r0, .int x1, .int x2, .int x3, .null] [] h (fun r h' => rtk (some .int) r = true ∧ Q r h') :=
    (Cl_method (t := m_Ta_confessionsAt) rfl).trans (and_congr_left fun _ => decide_eq_true_iff)
/-! PenThatJumps$Tally.confessed(IZZ)I -/
theorem b_Ta_confessed_0 {d : Nat} (x1 x2 x3 : Int32) (r0 : Nat) (h : AH) (Q : Option Value → AH → Prop) : Wp d P_Ta_confessed 0 [.ref r0, .int x1, .int x2, .int x3, .null, .null] [] h Q ↔ (¬ x1 = 1 → Wp d P_Ta_confessed 5 [.ref r0, .int x1, .int x2, .int x3, .null, .null] [] h Q) ∧ (¬ (¬ x1 = 1) → Wp d P_Ta_confessed 3 [.ref r0, .int x1, .int x2, .int x3, .null, .null] [] h Q) :=
    (r_go (j := 1) (L' := [.ref r0, .int x1, .int x2, .int x3, .null, .null]) (S' := [.int x1]) (h' := h) rfl rfl rfl rfl).trans <|
    (r_iconst (j := 2) (x := 1) rfl i32_1 rfl).trans <|
    r_icmp (j := 3) rfl (cd_ne _ _) rfl
theorem b_Ta_confessed_3 {d : Nat} (x1 x2 x3 : Int32) (r0 : Nat) (h : AH) (Q : Option Value → AH → Prop) : Wp d P_Ta_confessed 3 [.ref r0, .int x1, .int x2, .int x3, .null, .null] [] h Q ↔ Wp d P_Ta_confessed 10 [.ref r0, .int x1, .int x2, .int x3, .null, .null] [.int 0] h Q :=
    (r_iconst (j := 4) (x := 0) rfl i32_0 rfl).trans <|
    r_go (j := 10) (L' := [.ref r0, .int x1, .int x2, .int x3, .null, .null]) (S' := [.int 0]) (h' := h) rfl rfl rfl rfl
theorem b_Ta_confessed_5 {d : Nat} (x1 x2 x3 : Int32) (r0 : Nat) (h : AH) (Q : Option Value → AH → Prop) : Wp d P_Ta_confessed 5 [.ref r0, .int x1, .int x2, .int x3, .null, .null] [] h Q ↔ Cl d q_Ta_confessionsAt [.ref r0, .int 1, .int x2, .int x3] h (fun r h' => Wp d P_Ta_confessed 10 [.ref r0, .int x1, .int x2, .int x3, .null, .null] (r.toList ++ []) h' Q) :=
    (r_go (j := 6) (L' := [.ref r0, .int x1, .int x2, .int x3, .null, .null]) (S' := [.ref r0]) (h' := h) rfl rfl rfl rfl).trans <|
    (r_iconst (j := 7) (x := 1) rfl i32_1 rfl).trans <|
    (r_go (j := 8) (L' := [.ref r0, .int x1, .int x2, .int x3, .null, .null]) (S' := [.int x2, .int 1, .ref r0]) (h' := h) rfl rfl rfl rfl).trans <|
    (r_go (j := 9) (L' := [.ref r0, .int x1, .int x2, .int x3, .null, .null]) (S' := [.int x3, .int x2, .int 1, .ref r0]) (h' := h) rfl rfl rfl rfl).trans <|
    r_call (j := 10) (a := [.ref r0, .int 1, .int x2, .int x3]) (S' := []) rfl rfl rfl rfl rfl rfl rfl
theorem b_Ta_confessed_10 {d : Nat} (x1 x2 x3 s0 : Int32) (r0 : Nat) (h : AH) (Q : Option Value → AH → Prop) : Wp d P_Ta_confessed 10 [.ref r0, .int x1, .int x2, .int x3, .null, .null] [.int s0] h Q ↔ (¬ x1 = 0 → Wp d P_Ta_confessed 15 [.ref r0, .int x1, .int x2, .int x3, .int s0, .null] [] h Q) ∧ (¬ (¬ x1 = 0) → Wp d P_Ta_confessed 13 [.ref r0, .int x1, .int x2, .int x3, .int s0, .null] [] h Q) :=
    (r_go (j := 11) (L' := [.ref r0, .int x1, .int x2, .int x3, .int s0, .null]) (S' := []) (h' := h) rfl rfl rfl rfl).trans <|
    (r_go (j := 12) (L' := [.ref r0, .int x1, .int x2, .int x3, .int s0, .null]) (S' := [.int x1]) (h' := h) rfl rfl rfl rfl).trans <|
    r_if (j := 13) rfl (cd_ne _ _) rfl
theorem b_Ta_confessed_13 {d : Nat} (x1 x2 x3 x4 : Int32) (r0 : Nat) (h : AH) (Q : Option Value → AH → Prop) : Wp d P_Ta_confessed 13 [.ref r0, .int x1, .int x2, .int x3, .int x4, .null] [] h Q ↔ Wp d P_Ta_confessed 20 [.ref r0, .int x1, .int x2, .int x3, .int x4, .null] [.int 0] h Q :=
    (r_iconst (j := 14) (x := 0) rfl i32_0 rfl).trans <|
    r_go (j := 20) (L' := [.ref r0, .int x1, .int x2, .int x3, .int x4, .null]) (S' := [.int 0]) (h' := h) rfl rfl rfl rfl
theorem b_Ta_confessed_15 {d : Nat} (x1 x2 x3 x4 : Int32) (r0 : Nat) (h : AH) (Q : Option Value → AH → Prop) : Wp d P_Ta_confessed 15 [.ref r0, .int x1, .int x2, .int x3, .int x4, .null] [] h Q ↔ Cl d q_Ta_confessionsAt [.ref r0, .int 0, .int x2, .int x3] h (fun r h' => Wp d P_Ta_confessed 20 [.ref r0, .int x1, .int x2, .int x3, .int x4, .null] (r.toList ++ []) h' Q) :=
    (r_go (j := 16) (L' := [.ref r0, .int x1, .int x2, .int x3, .int x4, .null]) (S' := [.ref r0]) (h' := h) rfl rfl rfl rfl).trans <|
    (r_iconst (j := 17) (x := 0) rfl i32_0 rfl).trans <|
    (r_go (j := 18) (L' := [.ref r0, .int x1, .int x2, .int x3, .int x4, .null]) (S' := [.int x2, .int 0, .ref r0]) (h' := h) rfl rfl rfl rfl).trans <|
    (r_go (j := 19) (L' := [.ref r0, .int x1, .int x2, .int x3, .int x4, .null]) (S' := [.int x3, .int x2, .int 0, .ref r0]) (h' := h) rfl rfl rfl rfl).trans <|
    r_call (j := 20) (a := [.ref r0, .int 0, .int x2, .int x3]) (S' := []) rfl rfl rfl rfl rfl rfl rfl
theorem b_Ta_confessed_20 {d : Nat} (x1 x2 x3 x4 s0 : Int32) (r0 : Nat) (h : AH) (Q : Option Value → AH → Prop) : Wp d P_Ta_confessed 20 [.ref r0, .int x1, .int x2, .int x3, .int x4, .null] [.int s0] h Q ↔ Q (some (.int (x4 + s0))) h :=
    (r_go (j := 21) (L' := [.ref r0, .int x1, .int x2, .int x3, .int x4, .int s0]) (S' := []) (h' := h) rfl rfl rfl rfl).trans <|
    (r_go (j := 22) (L' := [.ref r0, .int x1, .int x2, .int x3, .int x4, .int s0]) (S' := [.int x4]) (h' := h) rfl rfl rfl rfl).trans <|
    (r_go (j := 23) (L' := [.ref r0, .int x1, .int x2, .int x3, .int x4, .int s0]) (S' := [.int s0, .int x4]) (h' := h) rfl rfl rfl rfl).trans <|
    (r_go (j := 24) (L' := [.ref r0, .int x1, .int x2, .int x3, .int x4, .int s0]) (S' := [.int (x4 + s0)]) (h' := h) rfl rfl rfl rfl).trans <|
    r_ret rfl rfl rfl
theorem e_Ta_confessed {d : Nat} (x1 x2 x3 : Int32) (r0 : Nat) (h : AH) (Q : Option Value → AH → Prop) : Cl (d + 1) q_Ta_confessed [.ref r0, .int x1, .int x2, .int x3] h Q ↔ hK h r0 = 8 ∧ Wp d P_Ta_confessed 0 [.ref r0, .int x1, .int x2, .int x3, .null, .null] [] h (fun r h' => rtk (some .int) r = true ∧ Q r h') :=
    (Cl_method (t := m_Ta_confessed) rfl).trans (and_congr_left fun _ => decide_eq_true_iff)
/-! PenThatJumps$Tally.allConfessions()I -/
theorem b_Ta_allConfessions_0 {d : Nat} (r0 : Nat) (h : AH) (Q : Option Value → AH → Prop) : Wp d P_Ta_allConfessions 0 [.ref r0, .null, .null] [] h Q ↔ Wp d P_Ta_allConfessions 4 [.ref r0, .int 0, .int 0] [] h Q :=
    (r_iconst (j := 1) (x := 0) rfl i32_0 rfl).trans <|
    (r_go (j := 2) (L' := [.ref r0, .int 0, .null]) (S' := []) (h' := h) rfl rfl rfl rfl).trans <|
    (r_iconst (j := 3) (x := 0) rfl i32_0 rfl).trans <|
    r_go (j := 4) (L' := [.ref r0, .int 0, .int 0]) (S' := []) (h' := h) rfl rfl rfl rfl
theorem b_Ta_allConfessions_4 {d : Nat} (x1 x2 : Int32) (r0 : Nat) (h : AH) (Q : Option Value → AH → Prop) : Wp d P_Ta_allConfessions 4 [.ref r0, .int x1, .int x2] [] h Q ↔ (hK h r0 = 8) ∧ ((20 ≤ hK h (hR h r0 2) ∧ hK h (hR h r0 2) ≠ 40 ∧ hK h (hR h r0 2) ≠ 42 ∧ hK h (hR h r0 2) ≤ 45 ∧ hK h (hR h r0 2) ≠ 43) ∧ (((Int32.ofNat (hN h (hR h r0 2))) ≤ x2 → Wp d P_Ta_allConfessions 18 [.ref r0, .int x1, .int x2] [] h Q) ∧ (¬ ((Int32.ofNat (hN h (hR h r0 2))) ≤ x2) → Wp d P_Ta_allConfessions 9 [.ref r0, .int x1, .int x2] [] h Q))) :=
    (r_go (j := 5) (L' := [.ref r0, .int x1, .int x2]) (S' := [.int x2]) (h' := h) rfl rfl rfl rfl).trans <|
    (r_go (j := 6) (L' := [.ref r0, .int x1, .int x2]) (S' := [.ref r0, .int x2]) (h' := h) rfl rfl rfl rfl).trans <|
    (r_guard (j := 7) (L' := [.ref r0, .int x1, .int x2]) (S' := [.ref (hR h r0 2), .int x2]) (h' := h) (p := hK h r0 = 8) rfl rfl rfl rfl (decide_eq_true_iff)).trans <| and_r <|
    (r_guard (j := 8) (L' := [.ref r0, .int x1, .int x2]) (S' := [.int (Int32.ofNat (hN h (hR h r0 2))), .int x2]) (h' := h) (p := 20 ≤ hK h (hR h r0 2) ∧ hK h (hR h r0 2) ≠ 40 ∧ hK h (hR h r0 2) ≠ 42 ∧ hK h (hR h r0 2) ≤ 45 ∧ hK h (hR h r0 2) ≠ 43) rfl rfl rfl rfl (decide_eq_true_iff)).trans <| and_r <|
    r_icmp (j := 9) rfl (cd_ge _ _) rfl
theorem b_Ta_allConfessions_9 {d : Nat} (x1 x2 : Int32) (r0 : Nat) (h : AH) (Q : Option Value → AH → Prop) : Wp d P_Ta_allConfessions 9 [.ref r0, .int x1, .int x2] [] h Q ↔ (hK h r0 = 8) ∧ ((hK h (hR h r0 2) ∈ [20, 44] ∧ ixo x2 (hN h (hR h r0 2)) = true) ∧ (Wp d P_Ta_allConfessions 4 [.ref r0, .int (x1 + (hI h (hR h r0 2) (Int32.toNatClampNeg x2))), .int (x2 + 1)] [] h Q)) :=
    (r_go (j := 10) (L' := [.ref r0, .int x1, .int x2]) (S' := [.int x1]) (h' := h) rfl rfl rfl rfl).trans <|
    (r_go (j := 11) (L' := [.ref r0, .int x1, .int x2]) (S' := [.ref r0, .int x1]) (h' := h) rfl rfl rfl rfl).trans <|
    (r_guard (j := 12) (L' := [.ref r0, .int x1, .int x2]) (S' := [.ref (hR h r0 2), .int x1]) (h' := h) (p := hK h r0 = 8) rfl rfl rfl rfl (decide_eq_true_iff)).trans <| and_r <|
    (r_go (j := 13) (L' := [.ref r0, .int x1, .int x2]) (S' := [.int x2, .ref (hR h r0 2), .int x1]) (h' := h) rfl rfl rfl rfl).trans <|
    (r_guard (j := 14) (L' := [.ref r0, .int x1, .int x2]) (S' := [.int (hI h (hR h r0 2) (Int32.toNatClampNeg x2)), .int x1]) (h' := h) (p := hK h (hR h r0 2) ∈ [20, 44] ∧ ixo x2 (hN h (hR h r0 2)) = true) rfl rfl rfl rfl (and2 decide_eq_true_iff Iff.rfl)).trans <| and_r <|
    (r_go (j := 15) (L' := [.ref r0, .int x1, .int x2]) (S' := [.int (x1 + (hI h (hR h r0 2) (Int32.toNatClampNeg x2)))]) (h' := h) rfl rfl rfl rfl).trans <|
    (r_go (j := 16) (L' := [.ref r0, .int (x1 + (hI h (hR h r0 2) (Int32.toNatClampNeg x2))), .int x2]) (S' := []) (h' := h) rfl rfl rfl rfl).trans <|
    (r_iinc (j := 17) (x := 1) (L' := [.ref r0, .int (x1 + (hI h (hR h r0 2) (Int32.toNatClampNeg x2))), .int (x2 + 1)]) rfl rfl i32_1 rfl rfl).trans <|
    r_go (j := 4) (L' := [.ref r0, .int (x1 + (hI h (hR h r0 2) (Int32.toNatClampNeg x2))), .int (x2 + 1)]) (S' := []) (h' := h) rfl rfl rfl rfl
theorem b_Ta_allConfessions_18 {d : Nat} (x1 x2 : Int32) (r0 : Nat) (h : AH) (Q : Option Value → AH → Prop) : Wp d P_Ta_allConfessions 18 [.ref r0, .int x1, .int x2] [] h Q ↔ Q (some (.int x1)) h :=
    (r_go (j := 19) (L' := [.ref r0, .int x1, .int x2]) (S' := [.int x1]) (h' := h) rfl rfl rfl rfl).trans <|
    r_ret rfl rfl rfl
theorem e_Ta_allConfessions {d : Nat} (r0 : Nat) (h : AH) (Q : Option Value → AH → Prop) : Cl (d + 1) q_Ta_allConfessions [.ref r0] h Q ↔ hK h r0 = 8 ∧ Wp d P_Ta_allConfessions 0 [.ref r0, .null, .null] [] h (fun r h' => rtk (some .int) r = true ∧ Q r h') :=
    (Cl_method (t := m_Ta_allConfessions) rfl).trans (and_congr_left fun _ => decide_eq_true_iff)
/-! PenThatJumps$Tally.addPaper(ZII)V -/
theorem b_Ta_addPaper_0 {d : Nat} (x1 x2 x3 : Int32) (r0 : Nat) (h : AH) (Q : Option Value → AH → Prop) : Wp d P_Ta_addPaper 0 [.ref r0, .int x1, .int x2, .int x3] [] h Q ↔ (x1 = 0 → Wp d P_Ta_addPaper 15 [.ref r0, .int x1, .int x2, .int x3] [] h Q) ∧ (¬ (x1 = 0) → Wp d P_Ta_addPaper 2 [.ref r0, .int x1, .int x2, .int x3] [] h Q) :=
    (r_go (j := 1) (L' := [.ref r0, .int x1, .int x2, .int x3]) (S' := [.int x1]) (h' := h) rfl rfl rfl rfl).trans <|
    r_if (j := 2) rfl (cd_eq _ _) rfl
theorem b_Ta_addPaper_2 {d : Nat} (x1 x2 x3 : Int32) (r0 : Nat) (h : AH) (Q : Option Value → AH → Prop) : Wp d P_Ta_addPaper 2 [.ref r0, .int x1, .int x2, .int x3] [] h Q ↔ (hK h r0 = 8) ∧ ((hK h r0 = 8) ∧ ((hK (sI h r0 3 ((hI h r0 3) + x2)) r0 = 8) ∧ ((hK (sI h r0 3 ((hI h r0 3) + x2)) r0 = 8) ∧ (Wp d P_Ta_addPaper 27 [.ref r0, .int x1, .int x2, .int x3] [] (sI (sI h r0 3 ((hI h r0 3) + x2)) r0 4 ((hI (sI h r0 3 ((hI h r0 3) + x2)) r0 4) + x3)) Q)))) :=
    (r_go (j := 3) (L' := [.ref r0, .int x1, .int x2, .int x3]) (S' := [.ref r0]) (h' := h) rfl rfl rfl rfl).trans <|
    (r_go (j := 4) (L' := [.ref r0, .int x1, .int x2, .int x3]) (S' := [.ref r0, .ref r0]) (h' := h) rfl rfl rfl rfl).trans <|
    (r_guard (j := 5) (L' := [.ref r0, .int x1, .int x2, .int x3]) (S' := [.int (hI h r0 3), .ref r0]) (h' := h) (p := hK h r0 = 8) rfl rfl rfl rfl (decide_eq_true_iff)).trans <| and_r <|
    (r_go (j := 6) (L' := [.ref r0, .int x1, .int x2, .int x3]) (S' := [.int x2, .int (hI h r0 3), .ref r0]) (h' := h) rfl rfl rfl rfl).trans <|
    (r_go (j := 7) (L' := [.ref r0, .int x1, .int x2, .int x3]) (S' := [.int ((hI h r0 3) + x2), .ref r0]) (h' := h) rfl rfl rfl rfl).trans <|
    (r_guard (j := 8) (L' := [.ref r0, .int x1, .int x2, .int x3]) (S' := []) (h' := (sI h r0 3 ((hI h r0 3) + x2))) (p := hK h r0 = 8) rfl rfl rfl rfl (pfI rfl)).trans <| and_r <|
    (r_go (j := 9) (L' := [.ref r0, .int x1, .int x2, .int x3]) (S' := [.ref r0]) (h' := (sI h r0 3 ((hI h r0 3) + x2))) rfl rfl rfl rfl).trans <|
    (r_go (j := 10) (L' := [.ref r0, .int x1, .int x2, .int x3]) (S' := [.ref r0, .ref r0]) (h' := (sI h r0 3 ((hI h r0 3) + x2))) rfl rfl rfl rfl).trans <|
    (r_guard (j := 11) (L' := [.ref r0, .int x1, .int x2, .int x3]) (S' := [.int (hI (sI h r0 3 ((hI h r0 3) + x2)) r0 4), .ref r0]) (h' := (sI h r0 3 ((hI h r0 3) + x2))) (p := hK (sI h r0 3 ((hI h r0 3) + x2)) r0 = 8) rfl rfl rfl rfl (decide_eq_true_iff)).trans <| and_r <|
    (r_go (j := 12) (L' := [.ref r0, .int x1, .int x2, .int x3]) (S' := [.int x3, .int (hI (sI h r0 3 ((hI h r0 3) + x2)) r0 4), .ref r0]) (h' := (sI h r0 3 ((hI h r0 3) + x2))) rfl rfl rfl rfl).trans <|
    (r_go (j := 13) (L' := [.ref r0, .int x1, .int x2, .int x3]) (S' := [.int ((hI (sI h r0 3 ((hI h r0 3) + x2)) r0 4) + x3), .ref r0]) (h' := (sI h r0 3 ((hI h r0 3) + x2))) rfl rfl rfl rfl).trans <|
    (r_guard (j := 14) (L' := [.ref r0, .int x1, .int x2, .int x3]) (S' := []) (h' := (sI (sI h r0 3 ((hI h r0 3) + x2)) r0 4 ((hI (sI h r0 3 ((hI h r0 3) + x2)) r0 4) + x3))) (p := hK (sI h r0 3 ((hI h r0 3) + x2)) r0 = 8) rfl rfl rfl rfl (pfI rfl)).trans <| and_r <|
    r_go (j := 27) (L' := [.ref r0, .int x1, .int x2, .int x3]) (S' := []) (h' := (sI (sI h r0 3 ((hI h r0 3) + x2)) r0 4 ((hI (sI h r0 3 ((hI h r0 3) + x2)) r0 4) + x3))) rfl rfl rfl rfl
theorem b_Ta_addPaper_15 {d : Nat} (x1 x2 x3 : Int32) (r0 : Nat) (h : AH) (Q : Option Value → AH → Prop) : Wp d P_Ta_addPaper 15 [.ref r0, .int x1, .int x2, .int x3] [] h Q ↔ (hK h r0 = 8) ∧ ((hK h r0 = 8) ∧ ((hK (sI h r0 5 ((hI h r0 5) + x2)) r0 = 8) ∧ ((hK (sI h r0 5 ((hI h r0 5) + x2)) r0 = 8) ∧ (Wp d P_Ta_addPaper 27 [.ref r0, .int x1, .int x2, .int x3] [] (sI (sI h r0 5 ((hI h r0 5) + x2)) r0 6 ((hI (sI h r0 5 ((hI h r0 5) + x2)) r0 6) + x3)) Q)))) :=
    (r_go (j := 16) (L' := [.ref r0, .int x1, .int x2, .int x3]) (S' := [.ref r0]) (h' := h) rfl rfl rfl rfl).trans <|
    (r_go (j := 17) (L' := [.ref r0, .int x1, .int x2, .int x3]) (S' := [.ref r0, .ref r0]) (h' := h) rfl rfl rfl rfl).trans <|
    (r_guard (j := 18) (L' := [.ref r0, .int x1, .int x2, .int x3]) (S' := [.int (hI h r0 5), .ref r0]) (h' := h) (p := hK h r0 = 8) rfl rfl rfl rfl (decide_eq_true_iff)).trans <| and_r <|
    (r_go (j := 19) (L' := [.ref r0, .int x1, .int x2, .int x3]) (S' := [.int x2, .int (hI h r0 5), .ref r0]) (h' := h) rfl rfl rfl rfl).trans <|
    (r_go (j := 20) (L' := [.ref r0, .int x1, .int x2, .int x3]) (S' := [.int ((hI h r0 5) + x2), .ref r0]) (h' := h) rfl rfl rfl rfl).trans <|
    (r_guard (j := 21) (L' := [.ref r0, .int x1, .int x2, .int x3]) (S' := []) (h' := (sI h r0 5 ((hI h r0 5) + x2))) (p := hK h r0 = 8) rfl rfl rfl rfl (pfI rfl)).trans <| and_r <|
    (r_go (j := 22) (L' := [.ref r0, .int x1, .int x2, .int x3]) (S' := [.ref r0]) (h' := (sI h r0 5 ((hI h r0 5) + x2))) rfl rfl rfl rfl).trans <|
    (r_go (j := 23) (L' := [.ref r0, .int x1, .int x2, .int x3]) (S' := [.ref r0, .ref r0]) (h' := (sI h r0 5 ((hI h r0 5) + x2))) rfl rfl rfl rfl).trans <|
    (r_guard (j := 24) (L' := [.ref r0, .int x1, .int x2, .int x3]) (S' := [.int (hI (sI h r0 5 ((hI h r0 5) + x2)) r0 6), .ref r0]) (h' := (sI h r0 5 ((hI h r0 5) + x2))) (p := hK (sI h r0 5 ((hI h r0 5) + x2)) r0 = 8) rfl rfl rfl rfl (decide_eq_true_iff)).trans <| and_r <|
    (r_go (j := 25) (L' := [.ref r0, .int x1, .int x2, .int x3]) (S' := [.int x3, .int (hI (sI h r0 5 ((hI h r0 5) + x2)) r0 6), .ref r0]) (h' := (sI h r0 5 ((hI h r0 5) + x2))) rfl rfl rfl rfl).trans <|
    (r_go (j := 26) (L' := [.ref r0, .int x1, .int x2, .int x3]) (S' := [.int ((hI (sI h r0 5 ((hI h r0 5) + x2)) r0 6) + x3), .ref r0]) (h' := (sI h r0 5 ((hI h r0 5) + x2))) rfl rfl rfl rfl).trans <|
    r_guard (j := 27) (L' := [.ref r0, .int x1, .int x2, .int x3]) (S' := []) (h' := (sI (sI h r0 5 ((hI h r0 5) + x2)) r0 6 ((hI (sI h r0 5 ((hI h r0 5) + x2)) r0 6) + x3))) (p := hK (sI h r0 5 ((hI h r0 5) + x2)) r0 = 8) rfl rfl rfl rfl (pfI rfl)
theorem b_Ta_addPaper_27 {d : Nat} (x1 x2 x3 : Int32) (r0 : Nat) (h : AH) (Q : Option Value → AH → Prop) : Wp d P_Ta_addPaper 27 [.ref r0, .int x1, .int x2, .int x3] [] h Q ↔ Q (none) h :=
    r_ret rfl rfl rfl
theorem e_Ta_addPaper {d : Nat} (x1 x2 x3 : Int32) (r0 : Nat) (h : AH) (Q : Option Value → AH → Prop) : Cl (d + 1) q_Ta_addPaper [.ref r0, .int x1, .int x2, .int x3] h Q ↔ hK h r0 = 8 ∧ Wp d P_Ta_addPaper 0 [.ref r0, .int x1, .int x2, .int x3] [] h (fun r h' => rtk (none) r = true ∧ Q r h') :=
    (Cl_method (t := m_Ta_addPaper) rfl).trans (and_congr_left fun _ => decide_eq_true_iff)
/-! PenThatJumps$Tape.<init>()V -/
theorem b_Tp_init_0 {d : Nat} (r0 : Nat) (h : AH) (Q : Option Value → AH → Prop) : Wp d P_Tp_init 0 [.ref r0] [] h Q ↔ Cl d 301 [.ref r0] h (fun r h' => Wp d P_Tp_init 2 [.ref r0] (r.toList ++ []) h' Q) :=
    (r_go (j := 1) (L' := [.ref r0]) (S' := [.ref r0]) (h' := h) rfl rfl rfl rfl).trans <|
    r_call (j := 2) (a := [.ref r0]) (S' := []) rfl rfl rfl rfl rfl rfl rfl
theorem b_Tp_init_2 {d : Nat} (r0 : Nat) (h : AH) (Q : Option Value → AH → Prop) : Wp d P_Tp_init 2 [.ref r0] [] h Q ↔ ((0 : Int32) ≤ 1000 ∧ Int32.toNatClampNeg 1000 ≤ 10000) ∧ (Wp d P_Tp_init 5 [.ref r0] [.ref (hz h), .ref r0] (mkC h 21 (Int32.toNatClampNeg 1000) (Int32.toNatClampNeg 1000)) Q) :=
    (r_go (j := 3) (L' := [.ref r0]) (S' := [.ref r0]) (h' := h) rfl rfl rfl rfl).trans <|
    (r_sipush (j := 4) (x := 1000) rfl i32_1000 rfl).trans <|
    r_guard (j := 5) (L' := [.ref r0]) (S' := [.ref (hz h), .ref r0]) (h' := (mkC h 21 (Int32.toNatClampNeg 1000) (Int32.toNatClampNeg 1000))) (p := (0 : Int32) ≤ 1000 ∧ Int32.toNatClampNeg 1000 ≤ 10000) rfl rfl rfl rfl (and2 decide_eq_true_iff decide_eq_true_iff)
theorem b_Tp_init_5 {d : Nat} (r0 t0 t1 : Nat) (h : AH) (Q : Option Value → AH → Prop) : Wp d P_Tp_init 5 [.ref r0] [.ref t0, .ref t1] h Q ↔ (hK h t1 = 9) ∧ (Wp d P_Tp_init 6 [.ref r0] [] (sR h t1 0 t0) Q) :=
    r_guard (j := 6) (L' := [.ref r0]) (S' := []) (h' := (sR h t1 0 t0)) (p := hK h t1 = 9) rfl rfl rfl rfl (pfR rfl)
theorem b_Tp_init_6 {d : Nat} (r0 : Nat) (h : AH) (Q : Option Value → AH → Prop) : Wp d P_Tp_init 6 [.ref r0] [] h Q ↔ ((0 : Int32) ≤ 1001 ∧ Int32.toNatClampNeg 1001 ≤ 10000) ∧ (Wp d P_Tp_init 9 [.ref r0] [.ref (hz h), .ref r0] (mkC h 20 (Int32.toNatClampNeg 1001) (Int32.toNatClampNeg 1001)) Q) :=
    (r_go (j := 7) (L' := [.ref r0]) (S' := [.ref r0]) (h' := h) rfl rfl rfl rfl).trans <|
    (r_sipush (j := 8) (x := 1001) rfl i32_1001 rfl).trans <|
    r_guard (j := 9) (L' := [.ref r0]) (S' := [.ref (hz h), .ref r0]) (h' := (mkC h 20 (Int32.toNatClampNeg 1001) (Int32.toNatClampNeg 1001))) (p := (0 : Int32) ≤ 1001 ∧ Int32.toNatClampNeg 1001 ≤ 10000) rfl rfl rfl rfl (and2 decide_eq_true_iff decide_eq_true_iff)
theorem b_Tp_init_9 {d : Nat} (r0 t0 t1 : Nat) (h : AH) (Q : Option Value → AH → Prop) : Wp d P_Tp_init 9 [.ref r0] [.ref t0, .ref t1] h Q ↔ (hK h t1 = 9) ∧ (Wp d P_Tp_init 10 [.ref r0] [] (sR h t1 2 t0) Q) :=
    r_guard (j := 10) (L' := [.ref r0]) (S' := []) (h' := (sR h t1 2 t0)) (p := hK h t1 = 9) rfl rfl rfl rfl (pfR rfl)
theorem b_Tp_init_10 {d : Nat} (r0 : Nat) (h : AH) (Q : Option Value → AH → Prop) : Wp d P_Tp_init 10 [.ref r0] [] h Q ↔ ((0 : Int32) ≤ 1001 ∧ Int32.toNatClampNeg 1001 ≤ 10000) ∧ (Wp d P_Tp_init 13 [.ref r0] [.ref (hz h), .ref r0] (mkC h 20 (Int32.toNatClampNeg 1001) (Int32.toNatClampNeg 1001)) Q) :=
    (r_go (j := 11) (L' := [.ref r0]) (S' := [.ref r0]) (h' := h) rfl rfl rfl rfl).trans <|
    (r_sipush (j := 12) (x := 1001) rfl i32_1001 rfl).trans <|
    r_guard (j := 13) (L' := [.ref r0]) (S' := [.ref (hz h), .ref r0]) (h' := (mkC h 20 (Int32.toNatClampNeg 1001) (Int32.toNatClampNeg 1001))) (p := (0 : Int32) ≤ 1001 ∧ Int32.toNatClampNeg 1001 ≤ 10000) rfl rfl rfl rfl (and2 decide_eq_true_iff decide_eq_true_iff)
theorem b_Tp_init_13 {d : Nat} (r0 t0 t1 : Nat) (h : AH) (Q : Option Value → AH → Prop) : Wp d P_Tp_init 13 [.ref r0] [.ref t0, .ref t1] h Q ↔ (hK h t1 = 9) ∧ (Wp d P_Tp_init 14 [.ref r0] [] (sR h t1 3 t0) Q) :=
    r_guard (j := 14) (L' := [.ref r0]) (S' := []) (h' := (sR h t1 3 t0)) (p := hK h t1 = 9) rfl rfl rfl rfl (pfR rfl)
theorem b_Tp_init_14 {d : Nat} (r0 : Nat) (h : AH) (Q : Option Value → AH → Prop) : Wp d P_Tp_init 14 [.ref r0] [] h Q ↔ Q (none) h :=
    r_ret rfl rfl rfl
theorem e_Tp_init {d : Nat} (r0 : Nat) (h : AH) (Q : Option Value → AH → Prop) : Cl (d + 1) q_Tp_init [.ref r0] h Q ↔ hK h r0 = 9 ∧ Wp d P_Tp_init 0 [.ref r0] [] h (fun r h' => rtk (none) r = true ∧ Q r h') :=
    (Cl_method (t := m_Tp_init) rfl).trans (and_congr_left fun _ => decide_eq_true_iff)
/-! PenThatJumps$Tape.clear()V -/
theorem b_Tp_clear_0 {d : Nat} (r0 : Nat) (h : AH) (Q : Option Value → AH → Prop) : Wp d P_Tp_clear 0 [.ref r0] [] h Q ↔ (hK h r0 = 9) ∧ (Q (none) (sI h r0 1 0)) :=
    (r_go (j := 1) (L' := [.ref r0]) (S' := [.ref r0]) (h' := h) rfl rfl rfl rfl).trans <|
    (r_iconst (j := 2) (x := 0) rfl i32_0 rfl).trans <|
    (r_guard (j := 3) (L' := [.ref r0]) (S' := []) (h' := (sI h r0 1 0)) (p := hK h r0 = 9) rfl rfl rfl rfl (pfI rfl)).trans <| and_r <|
    r_ret rfl rfl rfl
theorem e_Tp_clear {d : Nat} (r0 : Nat) (h : AH) (Q : Option Value → AH → Prop) : Cl (d + 1) q_Tp_clear [.ref r0] h Q ↔ hK h r0 = 9 ∧ Wp d P_Tp_clear 0 [.ref r0] [] h (fun r h' => rtk (none) r = true ∧ Q r h') :=
    (Cl_method (t := m_Tp_clear) rfl).trans (and_congr_left fun _ => decide_eq_true_iff)
/-! PenThatJumps$Tape.put(J)V -/
theorem b_Tp_put_0 {d : Nat} (l1 : Int64) (r0 : Nat) (h : AH) (Q : Option Value → AH → Prop) : Wp d P_Tp_put 0 [.ref r0, .long l1, .null, .null, .null, .null] [] h Q ↔ Wp d P_Tp_put 2 [.ref r0, .long l1, .null, .int 56, .null, .null] [] h Q :=
    (r_bipush (j := 1) (x := 56) rfl i32_56 rfl).trans <|
    r_go (j := 2) (L' := [.ref r0, .long l1, .null, .int 56, .null, .null]) (S' := []) (h' := h) rfl rfl rfl rfl
theorem b_Tp_put_2 {d : Nat} (x3 : Int32) (l1 : Int64) (r0 : Nat) (v4 v5 : Value) (h : AH) (Q : Option Value → AH → Prop) : Wp d P_Tp_put 2 [.ref r0, .long l1, .null, .int x3, v4, v5] [] h Q ↔ (x3 < 0 → Wp d P_Tp_put 50 [.ref r0, .long l1, .null, .int x3, v4, v5] [] h Q) ∧ (¬ (x3 < 0) → Wp d P_Tp_put 4 [.ref r0, .long l1, .null, .int x3, v4, v5] [] h Q) :=
    (r_go (j := 3) (L' := [.ref r0, .long l1, .null, .int x3, v4, v5]) (S' := [.int x3]) (h' := h) rfl rfl rfl rfl).trans <|
    r_if (j := 4) rfl (cd_lt _ _) rfl
theorem b_Tp_put_4 {d : Nat} (x3 : Int32) (l1 : Int64) (r0 : Nat) (v4 v5 : Value) (h : AH) (Q : Option Value → AH → Prop) : Wp d P_Tp_put 4 [.ref r0, .long l1, .null, .int x3, v4, v5] [] h Q ↔ (((Int64.toInt32 ((Int64.toUInt64 l1 >>> ((Int32.toInt64 x3).toUInt64 &&& Int64.toUInt64 63)).toInt64)) &&& 255) = 10 → Wp d P_Tp_put 20 [.ref r0, .long l1, .null, .int x3, .int ((Int64.toInt32 ((Int64.toUInt64 l1 >>> ((Int32.toInt64 x3).toUInt64 &&& Int64.toUInt64 63)).toInt64)) &&& 255), v5] [] h Q) ∧ (¬ (((Int64.toInt32 ((Int64.toUInt64 l1 >>> ((Int32.toInt64 x3).toUInt64 &&& Int64.toUInt64 63)).toInt64)) &&& 255) = 10) → Wp d P_Tp_put 14 [.ref r0, .long l1, .null, .int x3, .int ((Int64.toInt32 ((Int64.toUInt64 l1 >>> ((Int32.toInt64 x3).toUInt64 &&& Int64.toUInt64 63)).toInt64)) &&& 255), v5] [] h Q) :=
    (r_go (j := 5) (L' := [.ref r0, .long l1, .null, .int x3, v4, v5]) (S' := [.long l1]) (h' := h) rfl rfl rfl rfl).trans <|
    (r_go (j := 6) (L' := [.ref r0, .long l1, .null, .int x3, v4, v5]) (S' := [.int x3, .long l1]) (h' := h) rfl rfl rfl rfl).trans <|
    (r_go (j := 7) (L' := [.ref r0, .long l1, .null, .int x3, v4, v5]) (S' := [.long ((Int64.toUInt64 l1 >>> ((Int32.toInt64 x3).toUInt64 &&& Int64.toUInt64 63)).toInt64)]) (h' := h) rfl rfl rfl rfl).trans <|
    (r_go (j := 8) (L' := [.ref r0, .long l1, .null, .int x3, v4, v5]) (S' := [.int (Int64.toInt32 ((Int64.toUInt64 l1 >>> ((Int32.toInt64 x3).toUInt64 &&& Int64.toUInt64 63)).toInt64))]) (h' := h) rfl rfl rfl rfl).trans <|
    (r_sipush (j := 9) (x := 255) rfl i32_255 rfl).trans <|
    (r_go (j := 10) (L' := [.ref r0, .long l1, .null, .int x3, v4, v5]) (S' := [.int ((Int64.toInt32 ((Int64.toUInt64 l1 >>> ((Int32.toInt64 x3).toUInt64 &&& Int64.toUInt64 63)).toInt64)) &&& 255)]) (h' := h) rfl rfl rfl rfl).trans <|
    (r_go (j := 11) (L' := [.ref r0, .long l1, .null, .int x3, .int ((Int64.toInt32 ((Int64.toUInt64 l1 >>> ((Int32.toInt64 x3).toUInt64 &&& Int64.toUInt64 63)).toInt64)) &&& 255), v5]) (S' := []) (h' := h) rfl rfl rfl rfl).trans <|
    (r_go (j := 12) (L' := [.ref r0, .long l1, .null, .int x3, .int ((Int64.toInt32 ((Int64.toUInt64 l1 >>> ((Int32.toInt64 x3).toUInt64 &&& Int64.toUInt64 63)).toInt64)) &&& 255), v5]) (S' := [.int ((Int64.toInt32 ((Int64.toUInt64 l1 >>> ((Int32.toInt64 x3).toUInt64 &&& Int64.toUInt64 63)).toInt64)) &&& 255)]) (h' := h) rfl rfl rfl rfl).trans <|
    (r_bipush (j := 13) (x := 10) rfl i32_10 rfl).trans <|
    r_icmp (j := 14) rfl (cd_eq _ _) rfl
theorem b_Tp_put_14 {d : Nat} (x3 x4 : Int32) (l1 : Int64) (r0 : Nat) (v5 : Value) (h : AH) (Q : Option Value → AH → Prop) : Wp d P_Tp_put 14 [.ref r0, .long l1, .null, .int x3, .int x4, v5] [] h Q ↔ (x4 < 32 → Wp d P_Tp_put 22 [.ref r0, .long l1, .null, .int x3, .int x4, v5] [] h Q) ∧ (¬ (x4 < 32) → Wp d P_Tp_put 17 [.ref r0, .long l1, .null, .int x3, .int x4, v5] [] h Q) :=
    (r_go (j := 15) (L' := [.ref r0, .long l1, .null, .int x3, .int x4, v5]) (S' := [.int x4]) (h' := h) rfl rfl rfl rfl).trans <|
    (r_bipush (j := 16) (x := 32) rfl i32_32 rfl).trans <|
    r_icmp (j := 17) rfl (cd_lt _ _) rfl
theorem b_Tp_put_17 {d : Nat} (x3 x4 : Int32) (l1 : Int64) (r0 : Nat) (v5 : Value) (h : AH) (Q : Option Value → AH → Prop) : Wp d P_Tp_put 17 [.ref r0, .long l1, .null, .int x3, .int x4, v5] [] h Q ↔ (126 < x4 → Wp d P_Tp_put 22 [.ref r0, .long l1, .null, .int x3, .int x4, v5] [] h Q) ∧ (¬ (126 < x4) → Wp d P_Tp_put 20 [.ref r0, .long l1, .null, .int x3, .int x4, v5] [] h Q) :=
    (r_go (j := 18) (L' := [.ref r0, .long l1, .null, .int x3, .int x4, v5]) (S' := [.int x4]) (h' := h) rfl rfl rfl rfl).trans <|
    (r_bipush (j := 19) (x := 126) rfl i32_126 rfl).trans <|
    r_icmp (j := 20) rfl (cd_gt _ _) rfl
theorem b_Tp_put_20 {d : Nat} (x3 x4 : Int32) (l1 : Int64) (r0 : Nat) (v5 : Value) (h : AH) (Q : Option Value → AH → Prop) : Wp d P_Tp_put 20 [.ref r0, .long l1, .null, .int x3, .int x4, v5] [] h Q ↔ Wp d P_Tp_put 23 [.ref r0, .long l1, .null, .int x3, .int x4, v5] [.int 1] h Q :=
    (r_iconst (j := 21) (x := 1) rfl i32_1 rfl).trans <|
    r_go (j := 23) (L' := [.ref r0, .long l1, .null, .int x3, .int x4, v5]) (S' := [.int 1]) (h' := h) rfl rfl rfl rfl
theorem b_Tp_put_22 {d : Nat} (x3 x4 : Int32) (l1 : Int64) (r0 : Nat) (v5 : Value) (h : AH) (Q : Option Value → AH → Prop) : Wp d P_Tp_put 22 [.ref r0, .long l1, .null, .int x3, .int x4, v5] [] h Q ↔ Wp d P_Tp_put 23 [.ref r0, .long l1, .null, .int x3, .int x4, v5] [.int 0] h Q :=
    r_iconst (j := 23) (x := 0) rfl i32_0 rfl
theorem b_Tp_put_23 {d : Nat} (x3 x4 s0 : Int32) (l1 : Int64) (r0 : Nat) (v5 : Value) (h : AH) (Q : Option Value → AH → Prop) : Wp d P_Tp_put 23 [.ref r0, .long l1, .null, .int x3, .int x4, v5] [.int s0] h Q ↔ (s0 = 0 → Wp d P_Tp_put 48 [.ref r0, .long l1, .null, .int x3, .int x4, .int s0] [] h Q) ∧ (¬ (s0 = 0) → Wp d P_Tp_put 26 [.ref r0, .long l1, .null, .int x3, .int x4, .int s0] [] h Q) :=
    (r_go (j := 24) (L' := [.ref r0, .long l1, .null, .int x3, .int x4, .int s0]) (S' := []) (h' := h) rfl rfl rfl rfl).trans <|
    (r_go (j := 25) (L' := [.ref r0, .long l1, .null, .int x3, .int x4, .int s0]) (S' := [.int s0]) (h' := h) rfl rfl rfl rfl).trans <|
    r_if (j := 26) rfl (cd_eq _ _) rfl
theorem b_Tp_put_26 {d : Nat} (x3 x4 x5 : Int32) (l1 : Int64) (r0 : Nat) (h : AH) (Q : Option Value → AH → Prop) : Wp d P_Tp_put 26 [.ref r0, .long l1, .null, .int x3, .int x4, .int x5] [] h Q ↔ (hK h r0 = 9) ∧ (((hI h r0 1) < 0 → Wp d P_Tp_put 48 [.ref r0, .long l1, .null, .int x3, .int x4, .int x5] [] h Q) ∧ (¬ ((hI h r0 1) < 0) → Wp d P_Tp_put 29 [.ref r0, .long l1, .null, .int x3, .int x4, .int x5] [] h Q)) :=
    (r_go (j := 27) (L' := [.ref r0, .long l1, .null, .int x3, .int x4, .int x5]) (S' := [.ref r0]) (h' := h) rfl rfl rfl rfl).trans <|
    (r_guard (j := 28) (L' := [.ref r0, .long l1, .null, .int x3, .int x4, .int x5]) (S' := [.int (hI h r0 1)]) (h' := h) (p := hK h r0 = 9) rfl rfl rfl rfl (decide_eq_true_iff)).trans <| and_r <|
    r_if (j := 29) rfl (cd_lt _ _) rfl
theorem b_Tp_put_29 {d : Nat} (x3 x4 x5 : Int32) (l1 : Int64) (r0 : Nat) (h : AH) (Q : Option Value → AH → Prop) : Wp d P_Tp_put 29 [.ref r0, .long l1, .null, .int x3, .int x4, .int x5] [] h Q ↔ (hK h r0 = 9) ∧ ((hK h r0 = 9) ∧ ((20 ≤ hK h (hR h r0 0) ∧ hK h (hR h r0 0) ≠ 40 ∧ hK h (hR h r0 0) ≠ 42 ∧ hK h (hR h r0 0) ≤ 45 ∧ hK h (hR h r0 0) ≠ 43) ∧ (((Int32.ofNat (hN h (hR h r0 0))) ≤ (hI h r0 1) → Wp d P_Tp_put 48 [.ref r0, .long l1, .null, .int x3, .int x4, .int x5] [] h Q) ∧ (¬ ((Int32.ofNat (hN h (hR h r0 0))) ≤ (hI h r0 1)) → Wp d P_Tp_put 35 [.ref r0, .long l1, .null, .int x3, .int x4, .int x5] [] h Q)))) :=
    (r_go (j := 30) (L' := [.ref r0, .long l1, .null, .int x3, .int x4, .int x5]) (S' := [.ref r0]) (h' := h) rfl rfl rfl rfl).trans <|
    (r_guard (j := 31) (L' := [.ref r0, .long l1, .null, .int x3, .int x4, .int x5]) (S' := [.int (hI h r0 1)]) (h' := h) (p := hK h r0 = 9) rfl rfl rfl rfl (decide_eq_true_iff)).trans <| and_r <|
    (r_go (j := 32) (L' := [.ref r0, .long l1, .null, .int x3, .int x4, .int x5]) (S' := [.ref r0, .int (hI h r0 1)]) (h' := h) rfl rfl rfl rfl).trans <|
    (r_guard (j := 33) (L' := [.ref r0, .long l1, .null, .int x3, .int x4, .int x5]) (S' := [.ref (hR h r0 0), .int (hI h r0 1)]) (h' := h) (p := hK h r0 = 9) rfl rfl rfl rfl (decide_eq_true_iff)).trans <| and_r <|
    (r_guard (j := 34) (L' := [.ref r0, .long l1, .null, .int x3, .int x4, .int x5]) (S' := [.int (Int32.ofNat (hN h (hR h r0 0))), .int (hI h r0 1)]) (h' := h) (p := 20 ≤ hK h (hR h r0 0) ∧ hK h (hR h r0 0) ≠ 40 ∧ hK h (hR h r0 0) ≠ 42 ∧ hK h (hR h r0 0) ≤ 45 ∧ hK h (hR h r0 0) ≠ 43) rfl rfl rfl rfl (decide_eq_true_iff)).trans <| and_r <|
    r_icmp (j := 35) rfl (cd_ge _ _) rfl
theorem b_Tp_put_35 {d : Nat} (x3 x4 x5 : Int32) (l1 : Int64) (r0 : Nat) (h : AH) (Q : Option Value → AH → Prop) : Wp d P_Tp_put 35 [.ref r0, .long l1, .null, .int x3, .int x4, .int x5] [] h Q ↔ (hK h r0 = 9) ∧ ((hK h r0 = 9) ∧ ((hK h (hR h r0 0) = 21 ∧ ixo (hI h r0 1) (hN h (hR h r0 0)) = true) ∧ ((hK (sI h (hR h r0 0) (Int32.toNatClampNeg (hI h r0 1)) (vp_nar .char ((Int32.toUInt32 x4 % 65536).toInt32))) r0 = 9) ∧ ((hK (sI h (hR h r0 0) (Int32.toNatClampNeg (hI h r0 1)) (vp_nar .char ((Int32.toUInt32 x4 % 65536).toInt32))) r0 = 9) ∧ (Wp d P_Tp_put 48 [.ref r0, .long l1, .null, .int x3, .int x4, .int x5] [] (sI (sI h (hR h r0 0) (Int32.toNatClampNeg (hI h r0 1)) (vp_nar .char ((Int32.toUInt32 x4 % 65536).toInt32))) r0 1 ((hI (sI h (hR h r0 0) (Int32.toNatClampNeg (hI h r0 1)) (vp_nar .char ((Int32.toUInt32 x4 % 65536).toInt32))) r0 1) + 1)) Q))))) :=
    (r_go (j := 36) (L' := [.ref r0, .long l1, .null, .int x3, .int x4, .int x5]) (S' := [.ref r0]) (h' := h) rfl rfl rfl rfl).trans <|
    (r_guard (j := 37) (L' := [.ref r0, .long l1, .null, .int x3, .int x4, .int x5]) (S' := [.ref (hR h r0 0)]) (h' := h) (p := hK h r0 = 9) rfl rfl rfl rfl (decide_eq_true_iff)).trans <| and_r <|
    (r_go (j := 38) (L' := [.ref r0, .long l1, .null, .int x3, .int x4, .int x5]) (S' := [.ref r0, .ref (hR h r0 0)]) (h' := h) rfl rfl rfl rfl).trans <|
    (r_guard (j := 39) (L' := [.ref r0, .long l1, .null, .int x3, .int x4, .int x5]) (S' := [.int (hI h r0 1), .ref (hR h r0 0)]) (h' := h) (p := hK h r0 = 9) rfl rfl rfl rfl (decide_eq_true_iff)).trans <| and_r <|
    (r_go (j := 40) (L' := [.ref r0, .long l1, .null, .int x3, .int x4, .int x5]) (S' := [.int x4, .int (hI h r0 1), .ref (hR h r0 0)]) (h' := h) rfl rfl rfl rfl).trans <|
    (r_go (j := 41) (L' := [.ref r0, .long l1, .null, .int x3, .int x4, .int x5]) (S' := [.int ((Int32.toUInt32 x4 % 65536).toInt32), .int (hI h r0 1), .ref (hR h r0 0)]) (h' := h) rfl rfl rfl rfl).trans <|
    (r_guard (j := 42) (L' := [.ref r0, .long l1, .null, .int x3, .int x4, .int x5]) (S' := []) (h' := (sI h (hR h r0 0) (Int32.toNatClampNeg (hI h r0 1)) (vp_nar .char ((Int32.toUInt32 x4 % 65536).toInt32)))) (p := hK h (hR h r0 0) = 21 ∧ ixo (hI h r0 1) (hN h (hR h r0 0)) = true) rfl rfl rfl rfl (and2 decide_eq_true_iff Iff.rfl)).trans <| and_r <|
    (r_go (j := 43) (L' := [.ref r0, .long l1, .null, .int x3, .int x4, .int x5]) (S' := [.ref r0]) (h' := (sI h (hR h r0 0) (Int32.toNatClampNeg (hI h r0 1)) (vp_nar .char ((Int32.toUInt32 x4 % 65536).toInt32)))) rfl rfl rfl rfl).trans <|
    (r_go (j := 44) (L' := [.ref r0, .long l1, .null, .int x3, .int x4, .int x5]) (S' := [.ref r0, .ref r0]) (h' := (sI h (hR h r0 0) (Int32.toNatClampNeg (hI h r0 1)) (vp_nar .char ((Int32.toUInt32 x4 % 65536).toInt32)))) rfl rfl rfl rfl).trans <|
    (r_guard (j := 45) (L' := [.ref r0, .long l1, .null, .int x3, .int x4, .int x5]) (S' := [.int (hI (sI h (hR h r0 0) (Int32.toNatClampNeg (hI h r0 1)) (vp_nar .char ((Int32.toUInt32 x4 % 65536).toInt32))) r0 1), .ref r0]) (h' := (sI h (hR h r0 0) (Int32.toNatClampNeg (hI h r0 1)) (vp_nar .char ((Int32.toUInt32 x4 % 65536).toInt32)))) (p := hK (sI h (hR h r0 0) (Int32.toNatClampNeg (hI h r0 1)) (vp_nar .char ((Int32.toUInt32 x4 % 65536).toInt32))) r0 = 9) rfl rfl rfl rfl (decide_eq_true_iff)).trans <| and_r <|
    (r_iconst (j := 46) (x := 1) rfl i32_1 rfl).trans <|
    (r_go (j := 47) (L' := [.ref r0, .long l1, .null, .int x3, .int x4, .int x5]) (S' := [.int ((hI (sI h (hR h r0 0) (Int32.toNatClampNeg (hI h r0 1)) (vp_nar .char ((Int32.toUInt32 x4 % 65536).toInt32))) r0 1) + 1), .ref r0]) (h' := (sI h (hR h r0 0) (Int32.toNatClampNeg (hI h r0 1)) (vp_nar .char ((Int32.toUInt32 x4 % 65536).toInt32)))) rfl rfl rfl rfl).trans <|
    r_guard (j := 48) (L' := [.ref r0, .long l1, .null, .int x3, .int x4, .int x5]) (S' := []) (h' := (sI (sI h (hR h r0 0) (Int32.toNatClampNeg (hI h r0 1)) (vp_nar .char ((Int32.toUInt32 x4 % 65536).toInt32))) r0 1 ((hI (sI h (hR h r0 0) (Int32.toNatClampNeg (hI h r0 1)) (vp_nar .char ((Int32.toUInt32 x4 % 65536).toInt32))) r0 1) + 1))) (p := hK (sI h (hR h r0 0) (Int32.toNatClampNeg (hI h r0 1)) (vp_nar .char ((Int32.toUInt32 x4 % 65536).toInt32))) r0 = 9) rfl rfl rfl rfl (pfI rfl)
theorem b_Tp_put_48 {d : Nat} (x3 x4 x5 : Int32) (l1 : Int64) (r0 : Nat) (h : AH) (Q : Option Value → AH → Prop) : Wp d P_Tp_put 48 [.ref r0, .long l1, .null, .int x3, .int x4, .int x5] [] h Q ↔ Wp d P_Tp_put 2 [.ref r0, .long l1, .null, .int (x3 + (-8)), .int x4, .int x5] [] h Q :=
    (r_iinc (j := 49) (x := (-8)) (L' := [.ref r0, .long l1, .null, .int (x3 + (-8)), .int x4, .int x5]) rfl rfl i32_m8 rfl rfl).trans <|
    r_go (j := 2) (L' := [.ref r0, .long l1, .null, .int (x3 + (-8)), .int x4, .int x5]) (S' := []) (h' := h) rfl rfl rfl rfl
theorem b_Tp_put_50 {d : Nat} (x3 : Int32) (l1 : Int64) (r0 : Nat) (v4 v5 : Value) (h : AH) (Q : Option Value → AH → Prop) : Wp d P_Tp_put 50 [.ref r0, .long l1, .null, .int x3, v4, v5] [] h Q ↔ Q (none) h :=
    r_ret rfl rfl rfl
theorem e_Tp_put {d : Nat} (l1 : Int64) (r0 : Nat) (h : AH) (Q : Option Value → AH → Prop) : Cl (d + 1) q_Tp_put [.ref r0, .long l1] h Q ↔ hK h r0 = 9 ∧ Wp d P_Tp_put 0 [.ref r0, .long l1, .null, .null, .null, .null] [] h (fun r h' => rtk (none) r = true ∧ Q r h') :=
    (Cl_method (t := m_Tp_put) rfl).trans (and_congr_left fun _ => decide_eq_true_iff)
