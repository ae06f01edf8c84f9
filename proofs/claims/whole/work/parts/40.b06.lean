/-! PenThatJumpsModel.isFear(I)Z -/
theorem b_M_isFear_0 {d : Nat} (x0 : Int32) (h : AH) (Q : Option Value → AH → Prop) : Wp d P_M_isFear 0 [.int x0] [] h Q ↔ Cl d q_M_within [.int x0, .int 0, .int 9] h (fun r h' => Wp d P_M_isFear 4 [.int x0] (r.toList ++ []) h' Q) :=
    (r_go (j := 1) (L' := [.int x0]) (S' := [.int x0]) (h' := h) rfl rfl rfl rfl).trans <|
    (r_iconst (j := 2) (x := 0) rfl i32_0 rfl).trans <|
    (r_bipush (j := 3) (x := 9) rfl i32_9 rfl).trans <|
    r_call (j := 4) (a := [.int x0, .int 0, .int 9]) (S' := []) rfl rfl rfl rfl rfl rfl rfl
theorem b_M_isFear_4 {d : Nat} (x0 s0 : Int32) (h : AH) (Q : Option Value → AH → Prop) : Wp d P_M_isFear 4 [.int x0] [.int s0] h Q ↔ Q (some (.int s0)) h :=
    r_ret rfl rfl rfl
theorem e_M_isFear {d : Nat} (x0 : Int32) (h : AH) (Q : Option Value → AH → Prop) : Cl (d + 1) q_M_isFear [.int x0] h Q ↔ Wp d P_M_isFear 0 [.int x0] [] h (fun r h' => rtk (some .boolean) r = true ∧ Q r h') :=
    (Cl_method (t := m_M_isFear) rfl).trans (and_iff_right rfl)
/-! PenThatJumpsModel.apart(III)I -/
theorem b_M_apart_0 {d : Nat} (x1 x2 x3 : Int32) (r0 : Nat) (h : AH) (Q : Option Value → AH → Prop) : Wp d P_M_apart 0 [.ref r0, .int x1, .int x2, .int x3] [] h Q ↔ (hK h r0 = 11) ∧ (Cl d q_M_isPlan [.ref r0, .int x1] (sI h r0 0 0) (fun r h' => Wp d P_M_apart 6 [.ref r0, .int x1, .int x2, .int x3] (r.toList ++ []) h' Q)) :=
    (r_go (j := 1) (L' := [.ref r0, .int x1, .int x2, .int x3]) (S' := [.ref r0]) (h' := h) rfl rfl rfl rfl).trans <|
    (r_iconst (j := 2) (x := 0) rfl i32_0 rfl).trans <|
    (r_guard (j := 3) (L' := [.ref r0, .int x1, .int x2, .int x3]) (S' := []) (h' := (sI h r0 0 0)) (p := hK h r0 = 11) rfl rfl rfl rfl (pfI rfl)).trans <| and_r <|
    (r_go (j := 4) (L' := [.ref r0, .int x1, .int x2, .int x3]) (S' := [.ref r0]) (h' := (sI h r0 0 0)) rfl rfl rfl rfl).trans <|
    (r_go (j := 5) (L' := [.ref r0, .int x1, .int x2, .int x3]) (S' := [.int x1, .ref r0]) (h' := (sI h r0 0 0)) rfl rfl rfl rfl).trans <|
    r_call (j := 6) (a := [.ref r0, .int x1]) (S' := []) rfl rfl rfl rfl rfl rfl rfl
theorem b_M_apart_6 {d : Nat} (x1 x2 x3 s0 : Int32) (r0 : Nat) (h : AH) (Q : Option Value → AH → Prop) : Wp d P_M_apart 6 [.ref r0, .int x1, .int x2, .int x3] [.int s0] h Q ↔ (s0 = 0 → Wp d P_M_apart 19 [.ref r0, .int x1, .int x2, .int x3] [] h Q) ∧ (¬ (s0 = 0) → Wp d P_M_apart 7 [.ref r0, .int x1, .int x2, .int x3] [] h Q) :=
    r_if (j := 7) rfl (cd_eq _ _) rfl
theorem b_M_apart_7 {d : Nat} (x1 x2 x3 : Int32) (r0 : Nat) (h : AH) (Q : Option Value → AH → Prop) : Wp d P_M_apart 7 [.ref r0, .int x1, .int x2, .int x3] [] h Q ↔ Cl d q_M_isFear [.int x2] h (fun r h' => Wp d P_M_apart 9 [.ref r0, .int x1, .int x2, .int x3] (r.toList ++ []) h' Q) :=
    (r_go (j := 8) (L' := [.ref r0, .int x1, .int x2, .int x3]) (S' := [.int x2]) (h' := h) rfl rfl rfl rfl).trans <|
    r_call (j := 9) (a := [.int x2]) (S' := []) rfl rfl rfl rfl rfl rfl rfl
theorem b_M_apart_9 {d : Nat} (x1 x2 x3 s0 : Int32) (r0 : Nat) (h : AH) (Q : Option Value → AH → Prop) : Wp d P_M_apart 9 [.ref r0, .int x1, .int x2, .int x3] [.int s0] h Q ↔ (s0 = 0 → Wp d P_M_apart 19 [.ref r0, .int x1, .int x2, .int x3] [] h Q) ∧ (¬ (s0 = 0) → Wp d P_M_apart 10 [.ref r0, .int x1, .int x2, .int x3] [] h Q) :=
    r_if (j := 10) rfl (cd_eq _ _) rfl
theorem b_M_apart_10 {d : Nat} (x1 x2 x3 : Int32) (r0 : Nat) (h : AH) (Q : Option Value → AH → Prop) : Wp d P_M_apart 10 [.ref r0, .int x1, .int x2, .int x3] [] h Q ↔ Cl d q_M_isFear [.int x3] h (fun r h' => Wp d P_M_apart 12 [.ref r0, .int x1, .int x2, .int x3] (r.toList ++ []) h' Q) :=
    (r_go (j := 11) (L' := [.ref r0, .int x1, .int x2, .int x3]) (S' := [.int x3]) (h' := h) rfl rfl rfl rfl).trans <|
    r_call (j := 12) (a := [.int x3]) (S' := []) rfl rfl rfl rfl rfl rfl rfl
theorem b_M_apart_12 {d : Nat} (x1 x2 x3 s0 : Int32) (r0 : Nat) (h : AH) (Q : Option Value → AH → Prop) : Wp d P_M_apart 12 [.ref r0, .int x1, .int x2, .int x3] [.int s0] h Q ↔ (s0 = 0 → Wp d P_M_apart 19 [.ref r0, .int x1, .int x2, .int x3] [] h Q) ∧ (¬ (s0 = 0) → Wp d P_M_apart 13 [.ref r0, .int x1, .int x2, .int x3] [] h Q) :=
    r_if (j := 13) rfl (cd_eq _ _) rfl
theorem b_M_apart_13 {d : Nat} (x1 x2 x3 : Int32) (r0 : Nat) (h : AH) (Q : Option Value → AH → Prop) : Wp d P_M_apart 13 [.ref r0, .int x1, .int x2, .int x3] [] h Q ↔ Cl d q_M_apartOf [.ref r0, .int x1, .int x2, .int x3] h (fun r h' => Wp d P_M_apart 18 [.ref r0, .int x1, .int x2, .int x3] (r.toList ++ []) h' Q) :=
    (r_go (j := 14) (L' := [.ref r0, .int x1, .int x2, .int x3]) (S' := [.ref r0]) (h' := h) rfl rfl rfl rfl).trans <|
    (r_go (j := 15) (L' := [.ref r0, .int x1, .int x2, .int x3]) (S' := [.int x1, .ref r0]) (h' := h) rfl rfl rfl rfl).trans <|
    (r_go (j := 16) (L' := [.ref r0, .int x1, .int x2, .int x3]) (S' := [.int x2, .int x1, .ref r0]) (h' := h) rfl rfl rfl rfl).trans <|
    (r_go (j := 17) (L' := [.ref r0, .int x1, .int x2, .int x3]) (S' := [.int x3, .int x2, .int x1, .ref r0]) (h' := h) rfl rfl rfl rfl).trans <|
    r_call (j := 18) (a := [.ref r0, .int x1, .int x2, .int x3]) (S' := []) rfl rfl rfl rfl rfl rfl rfl
theorem b_M_apart_18 {d : Nat} (x1 x2 x3 s0 : Int32) (r0 : Nat) (h : AH) (Q : Option Value → AH → Prop) : Wp d P_M_apart 18 [.ref r0, .int x1, .int x2, .int x3] [.int s0] h Q ↔ Wp d P_M_apart 20 [.ref r0, .int x1, .int x2, .int x3] [.int s0] h Q :=
    r_go (j := 20) (L' := [.ref r0, .int x1, .int x2, .int x3]) (S' := [.int s0]) (h' := h) rfl rfl rfl rfl
theorem b_M_apart_19 {d : Nat} (x1 x2 x3 : Int32) (r0 : Nat) (h : AH) (Q : Option Value → AH → Prop) : Wp d P_M_apart 19 [.ref r0, .int x1, .int x2, .int x3] [] h Q ↔ Wp d P_M_apart 20 [.ref r0, .int x1, .int x2, .int x3] [.int (-1)] h Q :=
    r_iconst (j := 20) (x := (-1)) rfl i32_m1 rfl
theorem b_M_apart_20 {d : Nat} (x1 x2 x3 s0 : Int32) (r0 : Nat) (h : AH) (Q : Option Value → AH → Prop) : Wp d P_M_apart 20 [.ref r0, .int x1, .int x2, .int x3] [.int s0] h Q ↔ Q (some (.int s0)) h :=
    r_ret rfl rfl rfl
theorem e_M_apart {d : Nat} (x1 x2 x3 : Int32) (r0 : Nat) (h : AH) (Q : Option Value → AH → Prop) : Cl (d + 1) q_M_apart [.ref r0, .int x1, .int x2, .int x3] h Q ↔ hK h r0 = 11 ∧ Wp d P_M_apart 0 [.ref r0, .int x1, .int x2, .int x3] [] h (fun r h' => rtk (some .int) r = true ∧ Q r h') :=
    (Cl_method (t := m_M_apart) rfl).trans (and_congr_left fun _ => decide_eq_true_iff)
/-! PenThatJumpsModel.same(II)I -/
theorem b_M_same_0 {d : Nat} (x1 x2 : Int32) (r0 : Nat) (h : AH) (Q : Option Value → AH → Prop) : Wp d P_M_same 0 [.ref r0, .int x1, .int x2, .null, .null] [] h Q ↔ (hK h r0 = 11) ∧ (Cl d q_M_isPlan [.ref r0, .int x1] (sI h r0 0 0) (fun r h' => Wp d P_M_same 6 [.ref r0, .int x1, .int x2, .null, .null] (r.toList ++ []) h' Q)) :=
    (r_go (j := 1) (L' := [.ref r0, .int x1, .int x2, .null, .null]) (S' := [.ref r0]) (h' := h) rfl rfl rfl rfl).trans <|
    (r_iconst (j := 2) (x := 0) rfl i32_0 rfl).trans <|
    (r_guard (j := 3) (L' := [.ref r0, .int x1, .int x2, .null, .null]) (S' := []) (h' := (sI h r0 0 0)) (p := hK h r0 = 11) rfl rfl rfl rfl (pfI rfl)).trans <| and_r <|
    (r_go (j := 4) (L' := [.ref r0, .int x1, .int x2, .null, .null]) (S' := [.ref r0]) (h' := (sI h r0 0 0)) rfl rfl rfl rfl).trans <|
    (r_go (j := 5) (L' := [.ref r0, .int x1, .int x2, .null, .null]) (S' := [.int x1, .ref r0]) (h' := (sI h r0 0 0)) rfl rfl rfl rfl).trans <|
    r_call (j := 6) (a := [.ref r0, .int x1]) (S' := []) rfl rfl rfl rfl rfl rfl rfl
theorem b_M_same_6 {d : Nat} (x1 x2 s0 : Int32) (r0 : Nat) (h : AH) (Q : Option Value → AH → Prop) : Wp d P_M_same 6 [.ref r0, .int x1, .int x2, .null, .null] [.int s0] h Q ↔ (s0 = 0 → Wp d P_M_same 10 [.ref r0, .int x1, .int x2, .null, .null] [] h Q) ∧ (¬ (s0 = 0) → Wp d P_M_same 7 [.ref r0, .int x1, .int x2, .null, .null] [] h Q) :=
    r_if (j := 7) rfl (cd_eq _ _) rfl
theorem b_M_same_7 {d : Nat} (x1 x2 : Int32) (r0 : Nat) (h : AH) (Q : Option Value → AH → Prop) : Wp d P_M_same 7 [.ref r0, .int x1, .int x2, .null, .null] [] h Q ↔ Cl d q_M_isFear [.int x2] h (fun r h' => Wp d P_M_same 9 [.ref r0, .int x1, .int x2, .null, .null] (r.toList ++ []) h' Q) :=
    (r_go (j := 8) (L' := [.ref r0, .int x1, .int x2, .null, .null]) (S' := [.int x2]) (h' := h) rfl rfl rfl rfl).trans <|
    r_call (j := 9) (a := [.int x2]) (S' := []) rfl rfl rfl rfl rfl rfl rfl
theorem b_M_same_9 {d : Nat} (x1 x2 s0 : Int32) (r0 : Nat) (h : AH) (Q : Option Value → AH → Prop) : Wp d P_M_same 9 [.ref r0, .int x1, .int x2, .null, .null] [.int s0] h Q ↔ (¬ s0 = 0 → Wp d P_M_same 12 [.ref r0, .int x1, .int x2, .null, .null] [] h Q) ∧ (¬ (¬ s0 = 0) → Wp d P_M_same 10 [.ref r0, .int x1, .int x2, .null, .null] [] h Q) :=
    r_if (j := 10) rfl (cd_ne _ _) rfl
theorem b_M_same_10 {d : Nat} (x1 x2 : Int32) (r0 : Nat) (h : AH) (Q : Option Value → AH → Prop) : Wp d P_M_same 10 [.ref r0, .int x1, .int x2, .null, .null] [] h Q ↔ Q (some (.int (-1))) h :=
    (r_iconst (j := 11) (x := (-1)) rfl i32_m1 rfl).trans <|
    r_ret rfl rfl rfl
theorem b_M_same_12 {d : Nat} (x1 x2 : Int32) (r0 : Nat) (h : AH) (Q : Option Value → AH → Prop) : Wp d P_M_same 12 [.ref r0, .int x1, .int x2, .null, .null] [] h Q ↔ Wp d P_M_same 16 [.ref r0, .int x1, .int x2, .int 0, .int 0] [] h Q :=
    (r_iconst (j := 13) (x := 0) rfl i32_0 rfl).trans <|
    (r_go (j := 14) (L' := [.ref r0, .int x1, .int x2, .int 0, .null]) (S' := []) (h' := h) rfl rfl rfl rfl).trans <|
    (r_iconst (j := 15) (x := 0) rfl i32_0 rfl).trans <|
    r_go (j := 16) (L' := [.ref r0, .int x1, .int x2, .int 0, .int 0]) (S' := []) (h' := h) rfl rfl rfl rfl
theorem b_M_same_16 {d : Nat} (x1 x2 x3 x4 : Int32) (r0 : Nat) (h : AH) (Q : Option Value → AH → Prop) : Wp d P_M_same 16 [.ref r0, .int x1, .int x2, .int x3, .int x4] [] h Q ↔ (10 ≤ x4 → Wp d P_M_same 35 [.ref r0, .int x1, .int x2, .int x3, .int x4] [] h Q) ∧ (¬ (10 ≤ x4) → Wp d P_M_same 19 [.ref r0, .int x1, .int x2, .int x3, .int x4] [] h Q) :=
    (r_go (j := 17) (L' := [.ref r0, .int x1, .int x2, .int x3, .int x4]) (S' := [.int x4]) (h' := h) rfl rfl rfl rfl).trans <|
    (r_bipush (j := 18) (x := 10) rfl i32_10 rfl).trans <|
    r_icmp (j := 19) rfl (cd_ge _ _) rfl
theorem b_M_same_19 {d : Nat} (x1 x2 x3 x4 : Int32) (r0 : Nat) (h : AH) (Q : Option Value → AH → Prop) : Wp d P_M_same 19 [.ref r0, .int x1, .int x2, .int x3, .int x4] [] h Q ↔ Cl d q_M_apartOf [.ref r0, .int x1, .int x2, .int x4] h (fun r h' => Wp d P_M_same 25 [.ref r0, .int x1, .int x2, .int x3, .int x4] (r.toList ++ [.int x3]) h' Q) :=
    (r_go (j := 20) (L' := [.ref r0, .int x1, .int x2, .int x3, .int x4]) (S' := [.int x3]) (h' := h) rfl rfl rfl rfl).trans <|
    (r_go (j := 21) (L' := [.ref r0, .int x1, .int x2, .int x3, .int x4]) (S' := [.ref r0, .int x3]) (h' := h) rfl rfl rfl rfl).trans <|
    (r_go (j := 22) (L' := [.ref r0, .int x1, .int x2, .int x3, .int x4]) (S' := [.int x1, .ref r0, .int x3]) (h' := h) rfl rfl rfl rfl).trans <|
    (r_go (j := 23) (L' := [.ref r0, .int x1, .int x2, .int x3, .int x4]) (S' := [.int x2, .int x1, .ref r0, .int x3]) (h' := h) rfl rfl rfl rfl).trans <|
    (r_go (j := 24) (L' := [.ref r0, .int x1, .int x2, .int x3, .int x4]) (S' := [.int x4, .int x2, .int x1, .ref r0, .int x3]) (h' := h) rfl rfl rfl rfl).trans <|
    r_call (j := 25) (a := [.ref r0, .int x1, .int x2, .int x4]) (S' := [.int x3]) rfl rfl rfl rfl rfl rfl rfl
theorem b_M_same_25 {d : Nat} (x1 x2 x3 x4 s0 s1 : Int32) (r0 : Nat) (h : AH) (Q : Option Value → AH → Prop) : Wp d P_M_same 25 [.ref r0, .int x1, .int x2, .int x3, .int x4] [.int s0, .int s1] h Q ↔ (¬ s0 = 0 → Wp d P_M_same 30 [.ref r0, .int x1, .int x2, .int x3, .int x4] [.int s1] h Q) ∧ (¬ (¬ s0 = 0) → Wp d P_M_same 26 [.ref r0, .int x1, .int x2, .int x3, .int x4] [.int s1] h Q) :=
    r_if (j := 26) rfl (cd_ne _ _) rfl
theorem b_M_same_26 {d : Nat} (x1 x2 x3 x4 s0 : Int32) (r0 : Nat) (h : AH) (Q : Option Value → AH → Prop) : Wp d P_M_same 26 [.ref r0, .int x1, .int x2, .int x3, .int x4] [.int s0] h Q ↔ Wp d P_M_same 31 [.ref r0, .int x1, .int x2, .int x3, .int x4] [.int (1 <<< (x4 &&& 31)), .int s0] h Q :=
    (r_iconst (j := 27) (x := 1) rfl i32_1 rfl).trans <|
    (r_go (j := 28) (L' := [.ref r0, .int x1, .int x2, .int x3, .int x4]) (S' := [.int x4, .int 1, .int s0]) (h' := h) rfl rfl rfl rfl).trans <|
    (r_go (j := 29) (L' := [.ref r0, .int x1, .int x2, .int x3, .int x4]) (S' := [.int (1 <<< (x4 &&& 31)), .int s0]) (h' := h) rfl rfl rfl rfl).trans <|
    r_go (j := 31) (L' := [.ref r0, .int x1, .int x2, .int x3, .int x4]) (S' := [.int (1 <<< (x4 &&& 31)), .int s0]) (h' := h) rfl rfl rfl rfl
theorem b_M_same_30 {d : Nat} (x1 x2 x3 x4 s0 : Int32) (r0 : Nat) (h : AH) (Q : Option Value → AH → Prop) : Wp d P_M_same 30 [.ref r0, .int x1, .int x2, .int x3, .int x4] [.int s0] h Q ↔ Wp d P_M_same 31 [.ref r0, .int x1, .int x2, .int x3, .int x4] [.int 0, .int s0] h Q :=
    r_iconst (j := 31) (x := 0) rfl i32_0 rfl
theorem b_M_same_31 {d : Nat} (x1 x2 x3 x4 s0 s1 : Int32) (r0 : Nat) (h : AH) (Q : Option Value → AH → Prop) : Wp d P_M_same 31 [.ref r0, .int x1, .int x2, .int x3, .int x4] [.int s0, .int s1] h Q ↔ Wp d P_M_same 16 [.ref r0, .int x1, .int x2, .int (s1 ||| s0), .int (x4 + 1)] [] h Q :=
    (r_go (j := 32) (L' := [.ref r0, .int x1, .int x2, .int x3, .int x4]) (S' := [.int (s1 ||| s0)]) (h' := h) rfl rfl rfl rfl).trans <|
    (r_go (j := 33) (L' := [.ref r0, .int x1, .int x2, .int (s1 ||| s0), .int x4]) (S' := []) (h' := h) rfl rfl rfl rfl).trans <|
    (r_iinc (j := 34) (x := 1) (L' := [.ref r0, .int x1, .int x2, .int (s1 ||| s0), .int (x4 + 1)]) rfl rfl i32_1 rfl rfl).trans <|
    r_go (j := 16) (L' := [.ref r0, .int x1, .int x2, .int (s1 ||| s0), .int (x4 + 1)]) (S' := []) (h' := h) rfl rfl rfl rfl
theorem b_M_same_35 {d : Nat} (x1 x2 x3 x4 : Int32) (r0 : Nat) (h : AH) (Q : Option Value → AH → Prop) : Wp d P_M_same 35 [.ref r0, .int x1, .int x2, .int x3, .int x4] [] h Q ↔ Q (some (.int x3)) h :=
    (r_go (j := 36) (L' := [.ref r0, .int x1, .int x2, .int x3, .int x4]) (S' := [.int x3]) (h' := h) rfl rfl rfl rfl).trans <|
    r_ret rfl rfl rfl
theorem e_M_same {d : Nat} (x1 x2 : Int32) (r0 : Nat) (h : AH) (Q : Option Value → AH → Prop) : Cl (d + 1) q_M_same [.ref r0, .int x1, .int x2] h Q ↔ hK h r0 = 11 ∧ Wp d P_M_same 0 [.ref r0, .int x1, .int x2, .null, .null] [] h (fun r h' => rtk (some .int) r = true ∧ Q r h') :=
    (Cl_method (t := m_M_same) rfl).trans (and_congr_left fun _ => decide_eq_true_iff)
/-! PenThatJumpsModel.powerOf(III)I -/
theorem b_M_powerOf_0 {d : Nat} (x1 x2 x3 : Int32) (r0 : Nat) (h : AH) (Q : Option Value → AH → Prop) : Wp d P_M_powerOf 0 [.ref r0, .int x1, .int x2, .int x3, .null, .null, .null, .null, .null, .null, .null] [] h Q ↔ Wp d P_M_powerOf 6 [.ref r0, .int x1, .int x2, .int x3, .int 0, .int 0, .int 0, .null, .null, .null, .null] [] h Q :=
    (r_iconst (j := 1) (x := 0) rfl i32_0 rfl).trans <|
    (r_go (j := 2) (L' := [.ref r0, .int x1, .int x2, .int x3, .int 0, .null, .null, .null, .null, .null, .null]) (S' := []) (h' := h) rfl rfl rfl rfl).trans <|
    (r_iconst (j := 3) (x := 0) rfl i32_0 rfl).trans <|
    (r_go (j := 4) (L' := [.ref r0, .int x1, .int x2, .int x3, .int 0, .int 0, .null, .null, .null, .null, .null]) (S' := []) (h' := h) rfl rfl rfl rfl).trans <|
    (r_iconst (j := 5) (x := 0) rfl i32_0 rfl).trans <|
    r_go (j := 6) (L' := [.ref r0, .int x1, .int x2, .int x3, .int 0, .int 0, .int 0, .null, .null, .null, .null]) (S' := []) (h' := h) rfl rfl rfl rfl
theorem b_M_powerOf_6 {d : Nat} (x1 x2 x3 x4 x5 x6 : Int32) (r0 : Nat) (h : AH) (Q : Option Value → AH → Prop) : Wp d P_M_powerOf 6 [.ref r0, .int x1, .int x2, .int x3, .int x4, .int x5, .int x6, .null, .null, .null, .null] [] h Q ↔ (4 ≤ x6 → Wp d P_M_powerOf 16 [.ref r0, .int x1, .int x2, .int x3, .int x4, .int x5, .int x6, .null, .null, .null, .null] [] h Q) ∧ (¬ (4 ≤ x6) → Wp d P_M_powerOf 9 [.ref r0, .int x1, .int x2, .int x3, .int x4, .int x5, .int x6, .null, .null, .null, .null] [] h Q) :=
    (r_go (j := 7) (L' := [.ref r0, .int x1, .int x2, .int x3, .int x4, .int x5, .int x6, .null, .null, .null, .null]) (S' := [.int x6]) (h' := h) rfl rfl rfl rfl).trans <|
    (r_iconst (j := 8) (x := 4) rfl i32_4 rfl).trans <|
    r_icmp (j := 9) rfl (cd_ge _ _) rfl
theorem b_M_powerOf_9 {d : Nat} (x1 x2 x3 x4 x5 x6 : Int32) (r0 : Nat) (h : AH) (Q : Option Value → AH → Prop) : Wp d P_M_powerOf 9 [.ref r0, .int x1, .int x2, .int x3, .int x4, .int x5, .int x6, .null, .null, .null, .null] [] h Q ↔ (hK h r0 = 11) ∧ ((hK h (hR h r0 37) = 20 ∧ ixo x6 (hN h (hR h r0 37)) = true) ∧ (Wp d P_M_powerOf 6 [.ref r0, .int x1, .int x2, .int x3, .int x4, .int x5, .int (x6 + 1), .null, .null, .null, .null] [] (sI h (hR h r0 37) (Int32.toNatClampNeg x6) 0) Q)) :=
    (r_go (j := 10) (L' := [.ref r0, .int x1, .int x2, .int x3, .int x4, .int x5, .int x6, .null, .null, .null, .null]) (S' := [.ref r0]) (h' := h) rfl rfl rfl rfl).trans <|
    (r_guard (j := 11) (L' := [.ref r0, .int x1, .int x2, .int x3, .int x4, .int x5, .int x6, .null, .null, .null, .null]) (S' := [.ref (hR h r0 37)]) (h' := h) (p := hK h r0 = 11) rfl rfl rfl rfl (decide_eq_true_iff)).trans <| and_r <|
    (r_go (j := 12) (L' := [.ref r0, .int x1, .int x2, .int x3, .int x4, .int x5, .int x6, .null, .null, .null, .null]) (S' := [.int x6, .ref (hR h r0 37)]) (h' := h) rfl rfl rfl rfl).trans <|
    (r_iconst (j := 13) (x := 0) rfl i32_0 rfl).trans <|
    (r_guard (j := 14) (L' := [.ref r0, .int x1, .int x2, .int x3, .int x4, .int x5, .int x6, .null, .null, .null, .null]) (S' := []) (h' := (sI h (hR h r0 37) (Int32.toNatClampNeg x6) 0)) (p := hK h (hR h r0 37) = 20 ∧ ixo x6 (hN h (hR h r0 37)) = true) rfl rfl rfl rfl (and2 decide_eq_true_iff Iff.rfl)).trans <| and_r <|
    (r_iinc (j := 15) (x := 1) (L' := [.ref r0, .int x1, .int x2, .int x3, .int x4, .int x5, .int (x6 + 1), .null, .null, .null, .null]) rfl rfl i32_1 rfl rfl).trans <|
    r_go (j := 6) (L' := [.ref r0, .int x1, .int x2, .int x3, .int x4, .int x5, .int (x6 + 1), .null, .null, .null, .null]) (S' := []) (h' := (sI h (hR h r0 37) (Int32.toNatClampNeg x6) 0)) rfl rfl rfl rfl
theorem b_M_powerOf_16 {d : Nat} (x1 x2 x3 x4 x5 x6 : Int32) (r0 : Nat) (h : AH) (Q : Option Value → AH → Prop) : Wp d P_M_powerOf 16 [.ref r0, .int x1, .int x2, .int x3, .int x4, .int x5, .int x6, .null, .null, .null, .null] [] h Q ↔ Wp d P_M_powerOf 18 [.ref r0, .int x1, .int x2, .int x3, .int x4, .int x5, .int 0, .null, .null, .null, .null] [] h Q :=
    (r_iconst (j := 17) (x := 0) rfl i32_0 rfl).trans <|
    r_go (j := 18) (L' := [.ref r0, .int x1, .int x2, .int x3, .int x4, .int x5, .int 0, .null, .null, .null, .null]) (S' := []) (h' := h) rfl rfl rfl rfl
theorem b_M_powerOf_18 {d : Nat} (x1 x2 x3 x4 x5 x6 : Int32) (r0 : Nat) (v7 v8 v9 v10 : Value) (h : AH) (Q : Option Value → AH → Prop) : Wp d P_M_powerOf 18 [.ref r0, .int x1, .int x2, .int x3, .int x4, .int x5, .int x6, v7, v8, v9, v10] [] h Q ↔ (hK h r0 = 11) ∧ ((hK h (hR h r0 16) ∈ [20, 44] ∧ ixo x1 (hN h (hR h r0 16)) = true) ∧ (((hI h (hR h r0 16) (Int32.toNatClampNeg x1)) ≤ x6 → Wp d P_M_powerOf 109 [.ref r0, .int x1, .int x2, .int x3, .int x4, .int x5, .int x6, v7, v8, v9, v10] [] h Q) ∧ (¬ ((hI h (hR h r0 16) (Int32.toNatClampNeg x1)) ≤ x6) → Wp d P_M_powerOf 24 [.ref r0, .int x1, .int x2, .int x3, .int x4, .int x5, .int x6, v7, v8, v9, v10] [] h Q))) :=
    (r_go (j := 19) (L' := [.ref r0, .int x1, .int x2, .int x3, .int x4, .int x5, .int x6, v7, v8, v9, v10]) (S' := [.int x6]) (h' := h) rfl rfl rfl rfl).trans <|
    (r_go (j := 20) (L' := [.ref r0, .int x1, .int x2, .int x3, .int x4, .int x5, .int x6, v7, v8, v9, v10]) (S' := [.ref r0, .int x6]) (h' := h) rfl rfl rfl rfl).trans <|
    (r_guard (j := 21) (L' := [.ref r0, .int x1, .int x2, .int x3, .int x4, .int x5, .int x6, v7, v8, v9, v10]) (S' := [.ref (hR h r0 16), .int x6]) (h' := h) (p := hK h r0 = 11) rfl rfl rfl rfl (decide_eq_true_iff)).trans <| and_r <|
    (r_go (j := 22) (L' := [.ref r0, .int x1, .int x2, .int x3, .int x4, .int x5, .int x6, v7, v8, v9, v10]) (S' := [.int x1, .ref (hR h r0 16), .int x6]) (h' := h) rfl rfl rfl rfl).trans <|
    (r_guard (j := 23) (L' := [.ref r0, .int x1, .int x2, .int x3, .int x4, .int x5, .int x6, v7, v8, v9, v10]) (S' := [.int (hI h (hR h r0 16) (Int32.toNatClampNeg x1)), .int x6]) (h' := h) (p := hK h (hR h r0 16) ∈ [20, 44] ∧ ixo x1 (hN h (hR h r0 16)) = true) rfl rfl rfl rfl (and2 decide_eq_true_iff Iff.rfl)).trans <| and_r <|
    r_icmp (j := 24) rfl (cd_ge _ _) rfl
theorem b_M_powerOf_24 {d : Nat} (x1 x2 x3 x4 x5 x6 : Int32) (r0 : Nat) (v7 v8 v9 v10 : Value) (h : AH) (Q : Option Value → AH → Prop) : Wp d P_M_powerOf 24 [.ref r0, .int x1, .int x2, .int x3, .int x4, .int x5, .int x6, v7, v8, v9, v10] [] h Q ↔ (¬ ((x3 >>> (x6 &&& 31)) &&& 1) = 1 → Wp d P_M_powerOf 107 [.ref r0, .int x1, .int x2, .int x3, .int x4, .int x5, .int x6, v7, v8, v9, v10] [] h Q) ∧ (¬ (¬ ((x3 >>> (x6 &&& 31)) &&& 1) = 1) → Wp d P_M_powerOf 31 [.ref r0, .int x1, .int x2, .int x3, .int x4, .int x5, .int x6, v7, v8, v9, v10] [] h Q) :=
    (r_go (j := 25) (L' := [.ref r0, .int x1, .int x2, .int x3, .int x4, .int x5, .int x6, v7, v8, v9, v10]) (S' := [.int x3]) (h' := h) rfl rfl rfl rfl).trans <|
    (r_go (j := 26) (L' := [.ref r0, .int x1, .int x2, .int x3, .int x4, .int x5, .int x6, v7, v8, v9, v10]) (S' := [.int x6, .int x3]) (h' := h) rfl rfl rfl rfl).trans <|
    (r_go (j := 27) (L' := [.ref r0, .int x1, .int x2, .int x3, .int x4, .int x5, .int x6, v7, v8, v9, v10]) (S' := [.int (x3 >>> (x6 &&& 31))]) (h' := h) rfl rfl rfl rfl).trans <|
    (r_iconst (j := 28) (x := 1) rfl i32_1 rfl).trans <|
    (r_go (j := 29) (L' := [.ref r0, .int x1, .int x2, .int x3, .int x4, .int x5, .int x6, v7, v8, v9, v10]) (S' := [.int ((x3 >>> (x6 &&& 31)) &&& 1)]) (h' := h) rfl rfl rfl rfl).trans <|
    (r_iconst (j := 30) (x := 1) rfl i32_1 rfl).trans <|
    r_icmp (j := 31) rfl (cd_ne _ _) rfl
theorem b_M_powerOf_31 {d : Nat} (x1 x2 x3 x4 x5 x6 : Int32) (r0 : Nat) (v7 v8 v9 v10 : Value) (h : AH) (Q : Option Value → AH → Prop) : Wp d P_M_powerOf 31 [.ref r0, .int x1, .int x2, .int x3, .int x4, .int x5, .int x6, v7, v8, v9, v10] [] h Q ↔ Wp d P_M_powerOf 39 [.ref r0, .int x1, .int x2, .int x3, .int x4, .int x5, .int x6, .int ((12 * x1) + x6), .int 0, v9, v10] [] h Q :=
    (r_bipush (j := 32) (x := 12) rfl i32_12 rfl).trans <|
    (r_go (j := 33) (L' := [.ref r0, .int x1, .int x2, .int x3, .int x4, .int x5, .int x6, v7, v8, v9, v10]) (S' := [.int x1, .int 12]) (h' := h) rfl rfl rfl rfl).trans <|
    (r_go (j := 34) (L' := [.ref r0, .int x1, .int x2, .int x3, .int x4, .int x5, .int x6, v7, v8, v9, v10]) (S' := [.int (12 * x1)]) (h' := h) rfl rfl rfl rfl).trans <|
    (r_go (j := 35) (L' := [.ref r0, .int x1, .int x2, .int x3, .int x4, .int x5, .int x6, v7, v8, v9, v10]) (S' := [.int x6, .int (12 * x1)]) (h' := h) rfl rfl rfl rfl).trans <|
    (r_go (j := 36) (L' := [.ref r0, .int x1, .int x2, .int x3, .int x4, .int x5, .int x6, v7, v8, v9, v10]) (S' := [.int ((12 * x1) + x6)]) (h' := h) rfl rfl rfl rfl).trans <|
    (r_go (j := 37) (L' := [.ref r0, .int x1, .int x2, .int x3, .int x4, .int x5, .int x6, .int ((12 * x1) + x6), v8, v9, v10]) (S' := []) (h' := h) rfl rfl rfl rfl).trans <|
    (r_iconst (j := 38) (x := 0) rfl i32_0 rfl).trans <|
    r_go (j := 39) (L' := [.ref r0, .int x1, .int x2, .int x3, .int x4, .int x5, .int x6, .int ((12 * x1) + x6), .int 0, v9, v10]) (S' := []) (h' := h) rfl rfl rfl rfl
theorem b_M_powerOf_39 {d : Nat} (x1 x2 x3 x4 x5 x6 x7 x8 : Int32) (r0 : Nat) (v9 v10 : Value) (h : AH) (Q : Option Value → AH → Prop) : Wp d P_M_powerOf 39 [.ref r0, .int x1, .int x2, .int x3, .int x4, .int x5, .int x6, .int x7, .int x8, v9, v10] [] h Q ↔ (3 ≤ x8 → Wp d P_M_powerOf 95 [.ref r0, .int x1, .int x2, .int x3, .int x4, .int x5, .int x6, .int x7, .int x8, v9, v10] [] h Q) ∧ (¬ (3 ≤ x8) → Wp d P_M_powerOf 42 [.ref r0, .int x1, .int x2, .int x3, .int x4, .int x5, .int x6, .int x7, .int x8, v9, v10] [] h Q) :=
    (r_go (j := 40) (L' := [.ref r0, .int x1, .int x2, .int x3, .int x4, .int x5, .int x6, .int x7, .int x8, v9, v10]) (S' := [.int x8]) (h' := h) rfl rfl rfl rfl).trans <|
    (r_iconst (j := 41) (x := 3) rfl i32_3 rfl).trans <|
    r_icmp (j := 42) rfl (cd_ge _ _) rfl
theorem b_M_powerOf_42 {d : Nat} (x1 x2 x3 x4 x5 x6 x7 x8 : Int32) (r0 : Nat) (v9 v10 : Value) (h : AH) (Q : Option Value → AH → Prop) : Wp d P_M_powerOf 42 [.ref r0, .int x1, .int x2, .int x3, .int x4, .int x5, .int x6, .int x7, .int x8, v9, v10] [] h Q ↔ (hK h r0 = 11) ∧ ((hK h r0 = 11) ∧ ((hK h (hR h r0 17) ∈ [20, 44] ∧ ixo x7 (hN h (hR h r0 17)) = true) ∧ ((hK h (hR h r0 37) ∈ [20, 44] ∧ ixo (hI h (hR h r0 17) (Int32.toNatClampNeg x7)) (hN h (hR h r0 37)) = true) ∧ (Cl d q_M_asksOf [.ref r0, .int x7, .int (hI h (hR h r0 37) (Int32.toNatClampNeg (hI h (hR h r0 17) (Int32.toNatClampNeg x7)))), .int x5, .int x2, .int 1, .int 0, .int 0] h (fun r h' => Wp d P_M_powerOf 57 [.ref r0, .int x1, .int x2, .int x3, .int x4, .int x5, .int x6, .int x7, .int x8, v9, v10] (r.toList ++ []) h' Q))))) :=
    (r_go (j := 43) (L' := [.ref r0, .int x1, .int x2, .int x3, .int x4, .int x5, .int x6, .int x7, .int x8, v9, v10]) (S' := [.ref r0]) (h' := h) rfl rfl rfl rfl).trans <|
    (r_go (j := 44) (L' := [.ref r0, .int x1, .int x2, .int x3, .int x4, .int x5, .int x6, .int x7, .int x8, v9, v10]) (S' := [.int x7, .ref r0]) (h' := h) rfl rfl rfl rfl).trans <|
    (r_go (j := 45) (L' := [.ref r0, .int x1, .int x2, .int x3, .int x4, .int x5, .int x6, .int x7, .int x8, v9, v10]) (S' := [.ref r0, .int x7, .ref r0]) (h' := h) rfl rfl rfl rfl).trans <|
    (r_guard (j := 46) (L' := [.ref r0, .int x1, .int x2, .int x3, .int x4, .int x5, .int x6, .int x7, .int x8, v9, v10]) (S' := [.ref (hR h r0 37), .int x7, .ref r0]) (h' := h) (p := hK h r0 = 11) rfl rfl rfl rfl (decide_eq_true_iff)).trans <| and_r <|
    (r_go (j := 47) (L' := [.ref r0, .int x1, .int x2, .int x3, .int x4, .int x5, .int x6, .int x7, .int x8, v9, v10]) (S' := [.ref r0, .ref (hR h r0 37), .int x7, .ref r0]) (h' := h) rfl rfl rfl rfl).trans <|
    (r_guard (j := 48) (L' := [.ref r0, .int x1, .int x2, .int x3, .int x4, .int x5, .int x6, .int x7, .int x8, v9, v10]) (S' := [.ref (hR h r0 17), .ref (hR h r0 37), .int x7, .ref r0]) (h' := h) (p := hK h r0 = 11) rfl rfl rfl rfl (decide_eq_true_iff)).trans <| and_r <|
    (r_go (j := 49) (L' := [.ref r0, .int x1, .int x2, .int x3, .int x4, .int x5, .int x6, .int x7, .int x8, v9, v10]) (S' := [.int x7, .ref (hR h r0 17), .ref (hR h r0 37), .int x7, .ref r0]) (h' := h) rfl rfl rfl rfl).trans <|
    (r_guard (j := 50) (L' := [.ref r0, .int x1, .int x2, .int x3, .int x4, .int x5, .int x6, .int x7, .int x8, v9, v10]) (S' := [.int (hI h (hR h r0 17) (Int32.toNatClampNeg x7)), .ref (hR h r0 37), .int x7, .ref r0]) (h' := h) (p := hK h (hR h r0 17) ∈ [20, 44] ∧ ixo x7 (hN h (hR h r0 17)) = true) rfl rfl rfl rfl (and2 decide_eq_true_iff Iff.rfl)).trans <| and_r <|
    (r_guard (j := 51) (L' := [.ref r0, .int x1, .int x2, .int x3, .int x4, .int x5, .int x6, .int x7, .int x8, v9, v10]) (S' := [.int (hI h (hR h r0 37) (Int32.toNatClampNeg (hI h (hR h r0 17) (Int32.toNatClampNeg x7)))), .int x7, .ref r0]) (h' := h) (p := hK h (hR h r0 37) ∈ [20, 44] ∧ ixo (hI h (hR h r0 17) (Int32.toNatClampNeg x7)) (hN h (hR h r0 37)) = true) rfl rfl rfl rfl (and2 decide_eq_true_iff Iff.rfl)).trans <| and_r <|
    (r_go (j := 52) (L' := [.ref r0, .int x1, .int x2, .int x3, .int x4, .int x5, .int x6, .int x7, .int x8, v9, v10]) (S' := [.int x5, .int (hI h (hR h r0 37) (Int32.toNatClampNeg (hI h (hR h r0 17) (Int32.toNatClampNeg x7)))), .int x7, .ref r0]) (h' := h) rfl rfl rfl rfl).trans <|
    (r_go (j := 53) (L' := [.ref r0, .int x1, .int x2, .int x3, .int x4, .int x5, .int x6, .int x7, .int x8, v9, v10]) (S' := [.int x2, .int x5, .int (hI h (hR h r0 37) (Int32.toNatClampNeg (hI h (hR h r0 17) (Int32.toNatClampNeg x7)))), .int x7, .ref r0]) (h' := h) rfl rfl rfl rfl).trans <|
    (r_iconst (j := 54) (x := 1) rfl i32_1 rfl).trans <|
    (r_iconst (j := 55) (x := 0) rfl i32_0 rfl).trans <|
    (r_iconst (j := 56) (x := 0) rfl i32_0 rfl).trans <|
    r_call (j := 57) (a := [.ref r0, .int x7, .int (hI h (hR h r0 37) (Int32.toNatClampNeg (hI h (hR h r0 17) (Int32.toNatClampNeg x7)))), .int x5, .int x2, .int 1, .int 0, .int 0]) (S' := []) rfl rfl rfl rfl rfl rfl rfl
theorem b_M_powerOf_57 {d : Nat} (x1 x2 x3 x4 x5 x6 x7 x8 : Int32) (r0 : Nat) (v9 v10 : Value) (h : AH) (Q : Option Value → AH → Prop) : Wp d P_M_powerOf 57 [.ref r0, .int x1, .int x2, .int x3, .int x4, .int x5, .int x6, .int x7, .int x8, v9, v10] [] h Q ↔ Cl d q_M_jumpOf [.ref r0, .int x8, .int 0] h (fun r h' => Wp d P_M_powerOf 61 [.ref r0, .int x1, .int x2, .int x3, .int x4, .int x5, .int x6, .int x7, .int x8, v9, v10] (r.toList ++ []) h' Q) :=
    (r_go (j := 58) (L' := [.ref r0, .int x1, .int x2, .int x3, .int x4, .int x5, .int x6, .int x7, .int x8, v9, v10]) (S' := [.ref r0]) (h' := h) rfl rfl rfl rfl).trans <|
    (r_go (j := 59) (L' := [.ref r0, .int x1, .int x2, .int x3, .int x4, .int x5, .int x6, .int x7, .int x8, v9, v10]) (S' := [.int x8, .ref r0]) (h' := h) rfl rfl rfl rfl).trans <|
    (r_iconst (j := 60) (x := 0) rfl i32_0 rfl).trans <|
    r_call (j := 61) (a := [.ref r0, .int x8, .int 0]) (S' := []) rfl rfl rfl rfl rfl rfl rfl
theorem b_M_powerOf_61 {d : Nat} (x1 x2 x3 x4 x5 x6 x7 x8 s0 : Int32) (r0 : Nat) (v9 v10 : Value) (h : AH) (Q : Option Value → AH → Prop) : Wp d P_M_powerOf 61 [.ref r0, .int x1, .int x2, .int x3, .int x4, .int x5, .int x6, .int x7, .int x8, v9, v10] [.int s0] h Q ↔ (hK h r0 = 11) ∧ ((hK h r0 = 11) ∧ ((hK h (hR h r0 17) ∈ [20, 44] ∧ ixo x7 (hN h (hR h r0 17)) = true) ∧ ((hK h (hR h r0 37) ∈ [20, 44] ∧ ixo (hI h (hR h r0 17) (Int32.toNatClampNeg x7)) (hN h (hR h r0 37)) = true) ∧ (Cl d q_M_asksOf [.ref r0, .int x7, .int (hI h (hR h r0 37) (Int32.toNatClampNeg (hI h (hR h r0 17) (Int32.toNatClampNeg x7)))), .int x5, .int x2, .int 0, .int 0, .int 0] h (fun r h' => Wp d P_M_powerOf 77 [.ref r0, .int x1, .int x2, .int x3, .int x4, .int x5, .int x6, .int x7, .int x8, .int s0, v10] (r.toList ++ []) h' Q))))) :=
    (r_go (j := 62) (L' := [.ref r0, .int x1, .int x2, .int x3, .int x4, .int x5, .int x6, .int x7, .int x8, .int s0, v10]) (S' := []) (h' := h) rfl rfl rfl rfl).trans <|
    (r_go (j := 63) (L' := [.ref r0, .int x1, .int x2, .int x3, .int x4, .int x5, .int x6, .int x7, .int x8, .int s0, v10]) (S' := [.ref r0]) (h' := h) rfl rfl rfl rfl).trans <|
    (r_go (j := 64) (L' := [.ref r0, .int x1, .int x2, .int x3, .int x4, .int x5, .int x6, .int x7, .int x8, .int s0, v10]) (S' := [.int x7, .ref r0]) (h' := h) rfl rfl rfl rfl).trans <|
    (r_go (j := 65) (L' := [.ref r0, .int x1, .int x2, .int x3, .int x4, .int x5, .int x6, .int x7, .int x8, .int s0, v10]) (S' := [.ref r0, .int x7, .ref r0]) (h' := h) rfl rfl rfl rfl).trans <|
    (r_guard (j := 66) (L' := [.ref r0, .int x1, .int x2, .int x3, .int x4, .int x5, .int x6, .int x7, .int x8, .int s0, v10]) (S' := [.ref (hR h r0 37), .int x7, .ref r0]) (h' := h) (p := hK h r0 = 11) rfl rfl rfl rfl (decide_eq_true_iff)).trans <| and_r <|
    (r_go (j := 67) (L' := [.ref r0, .int x1, .int x2, .int x3, .int x4, .int x5, .int x6, .int x7, .int x8, .int s0, v10]) (S' := [.ref r0, .ref (hR h r0 37), .int x7, .ref r0]) (h' := h) rfl rfl rfl rfl).trans <|
    (r_guard (j := 68) (L' := [.ref r0, .int x1, .int x2, .int x3, .int x4, .int x5, .int x6, .int x7, .int x8, .int s0, v10]) (S' := [.ref (hR h r0 17), .ref (hR h r0 37), .int x7, .ref r0]) (h' := h) (p := hK h r0 = 11) rfl rfl rfl rfl (decide_eq_true_iff)).trans <| and_r <|
    (r_go (j := 69) (L' := [.ref r0, .int x1, .int x2, .int x3, .int x4, .int x5, .int x6, .int x7, .int x8, .int s0, v10]) (S' := [.int x7, .ref (hR h r0 17), .ref (hR h r0 37), .int x7, .ref r0]) (h' := h) rfl rfl rfl rfl).trans <|
    (r_guard (j := 70) (L' := [.ref r0, .int x1, .int x2, .int x3, .int x4, .int x5, .int x6, .int x7, .int x8, .int s0, v10]) (S' := [.int (hI h (hR h r0 17) (Int32.toNatClampNeg x7)), .ref (hR h r0 37), .int x7, .ref r0]) (h' := h) (p := hK h (hR h r0 17) ∈ [20, 44] ∧ ixo x7 (hN h (hR h r0 17)) = true) rfl rfl rfl rfl (and2 decide_eq_true_iff Iff.rfl)).trans <| and_r <|
    (r_guard (j := 71) (L' := [.ref r0, .int x1, .int x2, .int x3, .int x4, .int x5, .int x6, .int x7, .int x8, .int s0, v10]) (S' := [.int (hI h (hR h r0 37) (Int32.toNatClampNeg (hI h (hR h r0 17) (Int32.toNatClampNeg x7)))), .int x7, .ref r0]) (h' := h) (p := hK h (hR h r0 37) ∈ [20, 44] ∧ ixo (hI h (hR h r0 17) (Int32.toNatClampNeg x7)) (hN h (hR h r0 37)) = true) rfl rfl rfl rfl (and2 decide_eq_true_iff Iff.rfl)).trans <| and_r <|
    (r_go (j := 72) (L' := [.ref r0, .int x1, .int x2, .int x3, .int x4, .int x5, .int x6, .int x7, .int x8, .int s0, v10]) (S' := [.int x5, .int (hI h (hR h r0 37) (Int32.toNatClampNeg (hI h (hR h r0 17) (Int32.toNatClampNeg x7)))), .int x7, .ref r0]) (h' := h) rfl rfl rfl rfl).trans <|
    (r_go (j := 73) (L' := [.ref r0, .int x1, .int x2, .int x3, .int x4, .int x5, .int x6, .int x7, .int x8, .int s0, v10]) (S' := [.int x2, .int x5, .int (hI h (hR h r0 37) (Int32.toNatClampNeg (hI h (hR h r0 17) (Int32.toNatClampNeg x7)))), .int x7, .ref r0]) (h' := h) rfl rfl rfl rfl).trans <|
    (r_iconst (j := 74) (x := 0) rfl i32_0 rfl).trans <|
    (r_iconst (j := 75) (x := 0) rfl i32_0 rfl).trans <|
    (r_iconst (j := 76) (x := 0) rfl i32_0 rfl).trans <|
    r_call (j := 77) (a := [.ref r0, .int x7, .int (hI h (hR h r0 37) (Int32.toNatClampNeg (hI h (hR h r0 17) (Int32.toNatClampNeg x7)))), .int x5, .int x2, .int 0, .int 0, .int 0]) (S' := []) rfl rfl rfl rfl rfl rfl rfl
theorem b_M_powerOf_77 {d : Nat} (x1 x2 x3 x4 x5 x6 x7 x8 x9 : Int32) (r0 : Nat) (v10 : Value) (h : AH) (Q : Option Value → AH → Prop) : Wp d P_M_powerOf 77 [.ref r0, .int x1, .int x2, .int x3, .int x4, .int x5, .int x6, .int x7, .int x8, .int x9, v10] [] h Q ↔ Cl d q_M_jumpOf [.ref r0, .int x8, .int 0] h (fun r h' => Wp d P_M_powerOf 82 [.ref r0, .int x1, .int x2, .int x3, .int x4, .int x5, .int x6, .int x7, .int x8, .int x9, v10] (r.toList ++ [.int x9]) h' Q) :=
    (r_go (j := 78) (L' := [.ref r0, .int x1, .int x2, .int x3, .int x4, .int x5, .int x6, .int x7, .int x8, .int x9, v10]) (S' := [.int x9]) (h' := h) rfl rfl rfl rfl).trans <|
    (r_go (j := 79) (L' := [.ref r0, .int x1, .int x2, .int x3, .int x4, .int x5, .int x6, .int x7, .int x8, .int x9, v10]) (S' := [.ref r0, .int x9]) (h' := h) rfl rfl rfl rfl).trans <|
    (r_go (j := 80) (L' := [.ref r0, .int x1, .int x2, .int x3, .int x4, .int x5, .int x6, .int x7, .int x8, .int x9, v10]) (S' := [.int x8, .ref r0, .int x9]) (h' := h) rfl rfl rfl rfl).trans <|
    (r_iconst (j := 81) (x := 0) rfl i32_0 rfl).trans <|
    r_call (j := 82) (a := [.ref r0, .int x8, .int 0]) (S' := [.int x9]) rfl rfl rfl rfl rfl rfl rfl
theorem b_M_powerOf_82 {d : Nat} (x1 x2 x3 x4 x5 x6 x7 x8 x9 s0 s1 : Int32) (r0 : Nat) (v10 : Value) (h : AH) (Q : Option Value → AH → Prop) : Wp d P_M_powerOf 82 [.ref r0, .int x1, .int x2, .int x3, .int x4, .int x5, .int x6, .int x7, .int x8, .int x9, v10] [.int s0, .int s1] h Q ↔ (0 ≤ (s1 - s0) → Wp d P_M_powerOf 90 [.ref r0, .int x1, .int x2, .int x3, .int x4, .int x5, .int x6, .int x7, .int x8, .int x9, .int (s1 - s0)] [.int x4] h Q) ∧ (¬ (0 ≤ (s1 - s0)) → Wp d P_M_powerOf 87 [.ref r0, .int x1, .int x2, .int x3, .int x4, .int x5, .int x6, .int x7, .int x8, .int x9, .int (s1 - s0)] [.int x4] h Q) :=
    (r_go (j := 83) (L' := [.ref r0, .int x1, .int x2, .int x3, .int x4, .int x5, .int x6, .int x7, .int x8, .int x9, v10]) (S' := [.int (s1 - s0)]) (h' := h) rfl rfl rfl rfl).trans <|
    (r_go (j := 84) (L' := [.ref r0, .int x1, .int x2, .int x3, .int x4, .int x5, .int x6, .int x7, .int x8, .int x9, .int (s1 - s0)]) (S' := []) (h' := h) rfl rfl rfl rfl).trans <|
    (r_go (j := 85) (L' := [.ref r0, .int x1, .int x2, .int x3, .int x4, .int x5, .int x6, .int x7, .int x8, .int x9, .int (s1 - s0)]) (S' := [.int x4]) (h' := h) rfl rfl rfl rfl).trans <|
    (r_go (j := 86) (L' := [.ref r0, .int x1, .int x2, .int x3, .int x4, .int x5, .int x6, .int x7, .int x8, .int x9, .int (s1 - s0)]) (S' := [.int (s1 - s0), .int x4]) (h' := h) rfl rfl rfl rfl).trans <|
    r_if (j := 87) rfl (cd_ge _ _) rfl
theorem b_M_powerOf_87 {d : Nat} (x1 x2 x3 x4 x5 x6 x7 x8 x9 x10 s0 : Int32) (r0 : Nat) (h : AH) (Q : Option Value → AH → Prop) : Wp d P_M_powerOf 87 [.ref r0, .int x1, .int x2, .int x3, .int x4, .int x5, .int x6, .int x7, .int x8, .int x9, .int x10] [.int s0] h Q ↔ Wp d P_M_powerOf 91 [.ref r0, .int x1, .int x2, .int x3, .int x4, .int x5, .int x6, .int x7, .int x8, .int x9, .int x10] [.int (-x10), .int s0] h Q :=
    (r_go (j := 88) (L' := [.ref r0, .int x1, .int x2, .int x3, .int x4, .int x5, .int x6, .int x7, .int x8, .int x9, .int x10]) (S' := [.int x10, .int s0]) (h' := h) rfl rfl rfl rfl).trans <|
    (r_go (j := 89) (L' := [.ref r0, .int x1, .int x2, .int x3, .int x4, .int x5, .int x6, .int x7, .int x8, .int x9, .int x10]) (S' := [.int (-x10), .int s0]) (h' := h) rfl rfl rfl rfl).trans <|
    r_go (j := 91) (L' := [.ref r0, .int x1, .int x2, .int x3, .int x4, .int x5, .int x6, .int x7, .int x8, .int x9, .int x10]) (S' := [.int (-x10), .int s0]) (h' := h) rfl rfl rfl rfl
theorem b_M_powerOf_90 {d : Nat} (x1 x2 x3 x4 x5 x6 x7 x8 x9 x10 s0 : Int32) (r0 : Nat) (h : AH) (Q : Option Value → AH → Prop) : Wp d P_M_powerOf 90 [.ref r0, .int x1, .int x2, .int x3, .int x4, .int x5, .int x6, .int x7, .int x8, .int x9, .int x10] [.int s0] h Q ↔ Wp d P_M_powerOf 91 [.ref r0, .int x1, .int x2, .int x3, .int x4, .int x5, .int x6, .int x7, .int x8, .int x9, .int x10] [.int x10, .int s0] h Q :=
    r_go (j := 91) (L' := [.ref r0, .int x1, .int x2, .int x3, .int x4, .int x5, .int x6, .int x7, .int x8, .int x9, .int x10]) (S' := [.int x10, .int s0]) (h' := h) rfl rfl rfl rfl
theorem b_M_powerOf_91 {d : Nat} (x1 x2 x3 x4 x5 x6 x7 x8 x9 x10 s0 s1 : Int32) (r0 : Nat) (h : AH) (Q : Option Value → AH → Prop) : Wp d P_M_powerOf 91 [.ref r0, .int x1, .int x2, .int x3, .int x4, .int x5, .int x6, .int x7, .int x8, .int x9, .int x10] [.int s0, .int s1] h Q ↔ Wp d P_M_powerOf 39 [.ref r0, .int x1, .int x2, .int x3, .int (s1 + s0), .int x5, .int x6, .int x7, .int (x8 + 1), .int x9, .int x10] [] h Q :=
    (r_go (j := 92) (L' := [.ref r0, .int x1, .int x2, .int x3, .int x4, .int x5, .int x6, .int x7, .int x8, .int x9, .int x10]) (S' := [.int (s1 + s0)]) (h' := h) rfl rfl rfl rfl).trans <|
    (r_go (j := 93) (L' := [.ref r0, .int x1, .int x2, .int x3, .int (s1 + s0), .int x5, .int x6, .int x7, .int x8, .int x9, .int x10]) (S' := []) (h' := h) rfl rfl rfl rfl).trans <|
    (r_iinc (j := 94) (x := 1) (L' := [.ref r0, .int x1, .int x2, .int x3, .int (s1 + s0), .int x5, .int x6, .int x7, .int (x8 + 1), .int x9, .int x10]) rfl rfl i32_1 rfl rfl).trans <|
    r_go (j := 39) (L' := [.ref r0, .int x1, .int x2, .int x3, .int (s1 + s0), .int x5, .int x6, .int x7, .int (x8 + 1), .int x9, .int x10]) (S' := []) (h' := h) rfl rfl rfl rfl
theorem b_M_powerOf_95 {d : Nat} (x1 x2 x3 x4 x5 x6 x7 x8 : Int32) (r0 : Nat) (v9 v10 : Value) (h : AH) (Q : Option Value → AH → Prop) : Wp d P_M_powerOf 95 [.ref r0, .int x1, .int x2, .int x3, .int x4, .int x5, .int x6, .int x7, .int x8, v9, v10] [] h Q ↔ (hK h r0 = 11) ∧ ((hK h r0 = 11) ∧ ((hK h (hR h r0 17) ∈ [20, 44] ∧ ixo x7 (hN h (hR h r0 17)) = true) ∧ ((hK h (hR h r0 37) ∈ [20, 44] ∧ ixo (hI h (hR h r0 17) (Int32.toNatClampNeg x7)) (hN h (hR h r0 37)) = true) ∧ ((hK h (hR h r0 37) = 20 ∧ ixo (hI h (hR h r0 17) (Int32.toNatClampNeg x7)) (hN h (hR h r0 37)) = true) ∧ (Wp d P_M_powerOf 107 [.ref r0, .int x1, .int x2, .int x3, .int x4, .int (x5 + 1), .int x6, .int x7, .int x8, v9, v10] [] (sI h (hR h r0 37) (Int32.toNatClampNeg (hI h (hR h r0 17) (Int32.toNatClampNeg x7))) ((hI h (hR h r0 37) (Int32.toNatClampNeg (hI h (hR h r0 17) (Int32.toNatClampNeg x7)))) + 1)) Q))))) :=
    (r_go (j := 96) (L' := [.ref r0, .int x1, .int x2, .int x3, .int x4, .int x5, .int x6, .int x7, .int x8, v9, v10]) (S' := [.ref r0]) (h' := h) rfl rfl rfl rfl).trans <|
    (r_guard (j := 97) (L' := [.ref r0, .int x1, .int x2, .int x3, .int x4, .int x5, .int x6, .int x7, .int x8, v9, v10]) (S' := [.ref (hR h r0 37)]) (h' := h) (p := hK h r0 = 11) rfl rfl rfl rfl (decide_eq_true_iff)).trans <| and_r <|
    (r_go (j := 98) (L' := [.ref r0, .int x1, .int x2, .int x3, .int x4, .int x5, .int x6, .int x7, .int x8, v9, v10]) (S' := [.ref r0, .ref (hR h r0 37)]) (h' := h) rfl rfl rfl rfl).trans <|
    (r_guard (j := 99) (L' := [.ref r0, .int x1, .int x2, .int x3, .int x4, .int x5, .int x6, .int x7, .int x8, v9, v10]) (S' := [.ref (hR h r0 17), .ref (hR h r0 37)]) (h' := h) (p := hK h r0 = 11) rfl rfl rfl rfl (decide_eq_true_iff)).trans <| and_r <|
    (r_go (j := 100) (L' := [.ref r0, .int x1, .int x2, .int x3, .int x4, .int x5, .int x6, .int x7, .int x8, v9, v10]) (S' := [.int x7, .ref (hR h r0 17), .ref (hR h r0 37)]) (h' := h) rfl rfl rfl rfl).trans <|
    (r_guard (j := 101) (L' := [.ref r0, .int x1, .int x2, .int x3, .int x4, .int x5, .int x6, .int x7, .int x8, v9, v10]) (S' := [.int (hI h (hR h r0 17) (Int32.toNatClampNeg x7)), .ref (hR h r0 37)]) (h' := h) (p := hK h (hR h r0 17) ∈ [20, 44] ∧ ixo x7 (hN h (hR h r0 17)) = true) rfl rfl rfl rfl (and2 decide_eq_true_iff Iff.rfl)).trans <| and_r <|
    (r_go (j := 102) (L' := [.ref r0, .int x1, .int x2, .int x3, .int x4, .int x5, .int x6, .int x7, .int x8, v9, v10]) (S' := [.int (hI h (hR h r0 17) (Int32.toNatClampNeg x7)), .ref (hR h r0 37), .int (hI h (hR h r0 17) (Int32.toNatClampNeg x7)), .ref (hR h r0 37)]) (h' := h) rfl rfl rfl rfl).trans <|
    (r_guard (j := 103) (L' := [.ref r0, .int x1, .int x2, .int x3, .int x4, .int x5, .int x6, .int x7, .int x8, v9, v10]) (S' := [.int (hI h (hR h r0 37) (Int32.toNatClampNeg (hI h (hR h r0 17) (Int32.toNatClampNeg x7)))), .int (hI h (hR h r0 17) (Int32.toNatClampNeg x7)), .ref (hR h r0 37)]) (h' := h) (p := hK h (hR h r0 37) ∈ [20, 44] ∧ ixo (hI h (hR h r0 17) (Int32.toNatClampNeg x7)) (hN h (hR h r0 37)) = true) rfl rfl rfl rfl (and2 decide_eq_true_iff Iff.rfl)).trans <| and_r <|
    (r_iconst (j := 104) (x := 1) rfl i32_1 rfl).trans <|
    (r_go (j := 105) (L' := [.ref r0, .int x1, .int x2, .int x3, .int x4, .int x5, .int x6, .int x7, .int x8, v9, v10]) (S' := [.int ((hI h (hR h r0 37) (Int32.toNatClampNeg (hI h (hR h r0 17) (Int32.toNatClampNeg x7)))) + 1), .int (hI h (hR h r0 17) (Int32.toNatClampNeg x7)), .ref (hR h r0 37)]) (h' := h) rfl rfl rfl rfl).trans <|
    (r_guard (j := 106) (L' := [.ref r0, .int x1, .int x2, .int x3, .int x4, .int x5, .int x6, .int x7, .int x8, v9, v10]) (S' := []) (h' := (sI h (hR h r0 37) (Int32.toNatClampNeg (hI h (hR h r0 17) (Int32.toNatClampNeg x7))) ((hI h (hR h r0 37) (Int32.toNatClampNeg (hI h (hR h r0 17) (Int32.toNatClampNeg x7)))) + 1))) (p := hK h (hR h r0 37) = 20 ∧ ixo (hI h (hR h r0 17) (Int32.toNatClampNeg x7)) (hN h (hR h r0 37)) = true) rfl rfl rfl rfl (and2 decide_eq_true_iff Iff.rfl)).trans <| and_r <|
    r_iinc (j := 107) (x := 1) (L' := [.ref r0, .int x1, .int x2, .int x3, .int x4, .int (x5 + 1), .int x6, .int x7, .int x8, v9, v10]) rfl rfl i32_1 rfl rfl
theorem b_M_powerOf_107 {d : Nat} (x1 x2 x3 x4 x5 x6 : Int32) (r0 : Nat) (v7 v8 v9 v10 : Value) (h : AH) (Q : Option Value → AH → Prop) : Wp d P_M_powerOf 107 [.ref r0, .int x1, .int x2, .int x3, .int x4, .int x5, .int x6, v7, v8, v9, v10] [] h Q ↔ Wp d P_M_powerOf 18 [.ref r0, .int x1, .int x2, .int x3, .int x4, .int x5, .int (x6 + 1), v7, v8, v9, v10] [] h Q :=
    (r_iinc (j := 108) (x := 1) (L' := [.ref r0, .int x1, .int x2, .int x3, .int x4, .int x5, .int (x6 + 1), v7, v8, v9, v10]) rfl rfl i32_1 rfl rfl).trans <|
    r_go (j := 18) (L' := [.ref r0, .int x1, .int x2, .int x3, .int x4, .int x5, .int (x6 + 1), v7, v8, v9, v10]) (S' := []) (h' := h) rfl rfl rfl rfl
theorem b_M_powerOf_109 {d : Nat} (x1 x2 x3 x4 x5 x6 : Int32) (r0 : Nat) (v7 v8 v9 v10 : Value) (h : AH) (Q : Option Value → AH → Prop) : Wp d P_M_powerOf 109 [.ref r0, .int x1, .int x2, .int x3, .int x4, .int x5, .int x6, v7, v8, v9, v10] [] h Q ↔ Q (some (.int x4)) h :=
    (r_go (j := 110) (L' := [.ref r0, .int x1, .int x2, .int x3, .int x4, .int x5, .int x6, v7, v8, v9, v10]) (S' := [.int x4]) (h' := h) rfl rfl rfl rfl).trans <|
    r_ret rfl rfl rfl
theorem e_M_powerOf {d : Nat} (x1 x2 x3 : Int32) (r0 : Nat) (h : AH) (Q : Option Value → AH → Prop) : Cl (d + 1) q_M_powerOf [.ref r0, .int x1, .int x2, .int x3] h Q ↔ hK h r0 = 11 ∧ Wp d P_M_powerOf 0 [.ref r0, .int x1, .int x2, .int x3, .null, .null, .null, .null, .null, .null, .null] [] h (fun r h' => rtk (some .int) r = true ∧ Q r h') :=
    (Cl_method (t := m_M_powerOf) rfl).trans (and_congr_left fun _ => decide_eq_true_iff)
/-! PenThatJumpsModel.minutesOf(II)I -/
theorem b_M_minutesOf_0 {d : Nat} (x1 x2 : Int32) (r0 : Nat) (h : AH) (Q : Option Value → AH → Prop) : Wp d P_M_minutesOf 0 [.ref r0, .int x1, .int x2, .null, .null] [] h Q ↔ Wp d P_M_minutesOf 4 [.ref r0, .int x1, .int x2, .int 0, .int 0] [] h Q :=
    (r_iconst (j := 1) (x := 0) rfl i32_0 rfl).trans <|
    (r_go (j := 2) (L' := [.ref r0, .int x1, .int x2, .int 0, .null]) (S' := []) (h' := h) rfl rfl rfl rfl).trans <|
    (r_iconst (j := 3) (x := 0) rfl i32_0 rfl).trans <|
    r_go (j := 4) (L' := [.ref r0, .int x1, .int x2, .int 0, .int 0]) (S' := []) (h' := h) rfl rfl rfl rfl
theorem b_M_minutesOf_4 {d : Nat} (x1 x2 x3 x4 : Int32) (r0 : Nat) (h : AH) (Q : Option Value → AH → Prop) : Wp d P_M_minutesOf 4 [.ref r0, .int x1, .int x2, .int x3, .int x4] [] h Q ↔ (hK h r0 = 11) ∧ ((hK h (hR h r0 16) ∈ [20, 44] ∧ ixo x1 (hN h (hR h r0 16)) = true) ∧ (((hI h (hR h r0 16) (Int32.toNatClampNeg x1)) ≤ x4 → Wp d P_M_minutesOf 32 [.ref r0, .int x1, .int x2, .int x3, .int x4] [] h Q) ∧ (¬ ((hI h (hR h r0 16) (Int32.toNatClampNeg x1)) ≤ x4) → Wp d P_M_minutesOf 10 [.ref r0, .int x1, .int x2, .int x3, .int x4] [] h Q))) :=
    (r_go (j := 5) (L' := [.ref r0, .int x1, .int x2, .int x3, .int x4]) (S' := [.int x4]) (h' := h) rfl rfl rfl rfl).trans <|
    (r_go (j := 6) (L' := [.ref r0, .int x1, .int x2, .int x3, .int x4]) (S' := [.ref r0, .int x4]) (h' := h) rfl rfl rfl rfl).trans <|
    (r_guard (j := 7) (L' := [.ref r0, .int x1, .int x2, .int x3, .int x4]) (S' := [.ref (hR h r0 16), .int x4]) (h' := h) (p := hK h r0 = 11) rfl rfl rfl rfl (decide_eq_true_iff)).trans <| and_r <|
    (r_go (j := 8) (L' := [.ref r0, .int x1, .int x2, .int x3, .int x4]) (S' := [.int x1, .ref (hR h r0 16), .int x4]) (h' := h) rfl rfl rfl rfl).trans <|
    (r_guard (j := 9) (L' := [.ref r0, .int x1, .int x2, .int x3, .int x4]) (S' := [.int (hI h (hR h r0 16) (Int32.toNatClampNeg x1)), .int x4]) (h' := h) (p := hK h (hR h r0 16) ∈ [20, 44] ∧ ixo x1 (hN h (hR h r0 16)) = true) rfl rfl rfl rfl (and2 decide_eq_true_iff Iff.rfl)).trans <| and_r <|
    r_icmp (j := 10) rfl (cd_ge _ _) rfl
theorem b_M_minutesOf_10 {d : Nat} (x1 x2 x3 x4 : Int32) (r0 : Nat) (h : AH) (Q : Option Value → AH → Prop) : Wp d P_M_minutesOf 10 [.ref r0, .int x1, .int x2, .int x3, .int x4] [] h Q ↔ (¬ ((x2 >>> (x4 &&& 31)) &&& 1) = 1 → Wp d P_M_minutesOf 27 [.ref r0, .int x1, .int x2, .int x3, .int x4] [.int x3] h Q) ∧ (¬ (¬ ((x2 >>> (x4 &&& 31)) &&& 1) = 1) → Wp d P_M_minutesOf 18 [.ref r0, .int x1, .int x2, .int x3, .int x4] [.int x3] h Q) :=
    (r_go (j := 11) (L' := [.ref r0, .int x1, .int x2, .int x3, .int x4]) (S' := [.int x3]) (h' := h) rfl rfl rfl rfl).trans <|
    (r_go (j := 12) (L' := [.ref r0, .int x1, .int x2, .int x3, .int x4]) (S' := [.int x2, .int x3]) (h' := h) rfl rfl rfl rfl).trans <|
    (r_go (j := 13) (L' := [.ref r0, .int x1, .int x2, .int x3, .int x4]) (S' := [.int x4, .int x2, .int x3]) (h' := h) rfl rfl rfl rfl).trans <|
    (r_go (j := 14) (L' := [.ref r0, .int x1, .int x2, .int x3, .int x4]) (S' := [.int (x2 >>> (x4 &&& 31)), .int x3]) (h' := h) rfl rfl rfl rfl).trans <|
    (r_iconst (j := 15) (x := 1) rfl i32_1 rfl).trans <|
    (r_go (j := 16) (L' := [.ref r0, .int x1, .int x2, .int x3, .int x4]) (S' := [.int ((x2 >>> (x4 &&& 31)) &&& 1), .int x3]) (h' := h) rfl rfl rfl rfl).trans <|
    (r_iconst (j := 17) (x := 1) rfl i32_1 rfl).trans <|
    r_icmp (j := 18) rfl (cd_ne _ _) rfl
theorem b_M_minutesOf_18 {d : Nat} (x1 x2 x3 x4 s0 : Int32) (r0 : Nat) (h : AH) (Q : Option Value → AH → Prop) : Wp d P_M_minutesOf 18 [.ref r0, .int x1, .int x2, .int x3, .int x4] [.int s0] h Q ↔ (hK h r0 = 11) ∧ ((hK h (hR h r0 19) ∈ [20, 44] ∧ ixo ((12 * x1) + x4) (hN h (hR h r0 19)) = true) ∧ (Wp d P_M_minutesOf 28 [.ref r0, .int x1, .int x2, .int x3, .int x4] [.int (hI h (hR h r0 19) (Int32.toNatClampNeg ((12 * x1) + x4))), .int s0] h Q)) :=
    (r_go (j := 19) (L' := [.ref r0, .int x1, .int x2, .int x3, .int x4]) (S' := [.ref r0, .int s0]) (h' := h) rfl rfl rfl rfl).trans <|
    (r_guard (j := 20) (L' := [.ref r0, .int x1, .int x2, .int x3, .int x4]) (S' := [.ref (hR h r0 19), .int s0]) (h' := h) (p := hK h r0 = 11) rfl rfl rfl rfl (decide_eq_true_iff)).trans <| and_r <|
    (r_bipush (j := 21) (x := 12) rfl i32_12 rfl).trans <|
    (r_go (j := 22) (L' := [.ref r0, .int x1, .int x2, .int x3, .int x4]) (S' := [.int x1, .int 12, .ref (hR h r0 19), .int s0]) (h' := h) rfl rfl rfl rfl).trans <|
    (r_go (j := 23) (L' := [.ref r0, .int x1, .int x2, .int x3, .int x4]) (S' := [.int (12 * x1), .ref (hR h r0 19), .int s0]) (h' := h) rfl rfl rfl rfl).trans <|
    (r_go (j := 24) (L' := [.ref r0, .int x1, .int x2, .int x3, .int x4]) (S' := [.int x4, .int (12 * x1), .ref (hR h r0 19), .int s0]) (h' := h) rfl rfl rfl rfl).trans <|
    (r_go (j := 25) (L' := [.ref r0, .int x1, .int x2, .int x3, .int x4]) (S' := [.int ((12 * x1) + x4), .ref (hR h r0 19), .int s0]) (h' := h) rfl rfl rfl rfl).trans <|
    (r_guard (j := 26) (L' := [.ref r0, .int x1, .int x2, .int x3, .int x4]) (S' := [.int (hI h (hR h r0 19) (Int32.toNatClampNeg ((12 * x1) + x4))), .int s0]) (h' := h) (p := hK h (hR h r0 19) ∈ [20, 44] ∧ ixo ((12 * x1) + x4) (hN h (hR h r0 19)) = true) rfl rfl rfl rfl (and2 decide_eq_true_iff Iff.rfl)).trans <| and_r <|
    r_go (j := 28) (L' := [.ref r0, .int x1, .int x2, .int x3, .int x4]) (S' := [.int (hI h (hR h r0 19) (Int32.toNatClampNeg ((12 * x1) + x4))), .int s0]) (h' := h) rfl rfl rfl rfl
theorem b_M_minutesOf_27 {d : Nat} (x1 x2 x3 x4 s0 : Int32) (r0 : Nat) (h : AH) (Q : Option Value → AH → Prop) : Wp d P_M_minutesOf 27 [.ref r0, .int x1, .int x2, .int x3, .int x4] [.int s0] h Q ↔ Wp d P_M_minutesOf 28 [.ref r0, .int x1, .int x2, .int x3, .int x4] [.int 0, .int s0] h Q :=
    r_iconst (j := 28) (x := 0) rfl i32_0 rfl
theorem b_M_minutesOf_28 {d : Nat} (x1 x2 x3 x4 s0 s1 : Int32) (r0 : Nat) (h : AH) (Q : Option Value → AH → Prop) : Wp d P_M_minutesOf 28 [.ref r0, .int x1, .int x2, .int x3, .int x4] [.int s0, .int s1] h Q ↔ Wp d P_M_minutesOf 4 [.ref r0, .int x1, .int x2, .int (s1 + s0), .int (x4 + 1)] [] h Q :=
    (r_go (j := 29) (L' := [.ref r0, .int x1, .int x2, .int x3, .int x4]) (S' := [.int (s1 + s0)]) (h' := h) rfl rfl rfl rfl).trans <|
    (r_go (j := 30) (L' := [.ref r0, .int x1, .int x2, .int (s1 + s0), .int x4]) (S' := []) (h' := h) rfl rfl rfl rfl).trans <|
    (r_iinc (j := 31) (x := 1) (L' := [.ref r0, .int x1, .int x2, .int (s1 + s0), .int (x4 + 1)]) rfl rfl i32_1 rfl rfl).trans <|
    r_go (j := 4) (L' := [.ref r0, .int x1, .int x2, .int (s1 + s0), .int (x4 + 1)]) (S' := []) (h' := h) rfl rfl rfl rfl
theorem b_M_minutesOf_32 {d : Nat} (x1 x2 x3 x4 : Int32) (r0 : Nat) (h : AH) (Q : Option Value → AH → Prop) : Wp d P_M_minutesOf 32 [.ref r0, .int x1, .int x2, .int x3, .int x4] [] h Q ↔ Q (some (.int x3)) h :=
    (r_go (j := 33) (L' := [.ref r0, .int x1, .int x2, .int x3, .int x4]) (S' := [.int x3]) (h' := h) rfl rfl rfl rfl).trans <|
    r_ret rfl rfl rfl
theorem e_M_minutesOf {d : Nat} (x1 x2 : Int32) (r0 : Nat) (h : AH) (Q : Option Value → AH → Prop) : Cl (d + 1) q_M_minutesOf [.ref r0, .int x1, .int x2] h Q ↔ hK h r0 = 11 ∧ Wp d P_M_minutesOf 0 [.ref r0, .int x1, .int x2, .null, .null] [] h (fun r h' => rtk (some .int) r = true ∧ Q r h') :=
    (Cl_method (t := m_M_minutesOf) rfl).trans (and_congr_left fun _ => decide_eq_true_iff)
/-! PenThatJumpsModel.best(IIII)I -/
theorem b_M_best_0 {d : Nat} (x1 x2 x3 x4 : Int32) (r0 : Nat) (h : AH) (Q : Option Value → AH → Prop) : Wp d P_M_best 0 [.ref r0, .int x1, .int x2, .int x3, .int x4, .null, .null, .null, .null] [] h Q ↔ (hK h r0 = 11) ∧ (Cl d q_M_isPlan [.ref r0, .int x1] (sI h r0 0 0) (fun r h' => Wp d P_M_best 6 [.ref r0, .int x1, .int x2, .int x3, .int x4, .null, .null, .null, .null] (r.toList ++ []) h' Q)) :=
    (r_go (j := 1) (L' := [.ref r0, .int x1, .int x2, .int x3, .int x4, .null, .null, .null, .null]) (S' := [.ref r0]) (h' := h) rfl rfl rfl rfl).trans <|
    (r_iconst (j := 2) (x := 0) rfl i32_0 rfl).trans <|
    (r_guard (j := 3) (L' := [.ref r0, .int x1, .int x2, .int x3, .int x4, .null, .null, .null, .null]) (S' := []) (h' := (sI h r0 0 0)) (p := hK h r0 = 11) rfl rfl rfl rfl (pfI rfl)).trans <| and_r <|
    (r_go (j := 4) (L' := [.ref r0, .int x1, .int x2, .int x3, .int x4, .null, .null, .null, .null]) (S' := [.ref r0]) (h' := (sI h r0 0 0)) rfl rfl rfl rfl).trans <|
    (r_go (j := 5) (L' := [.ref r0, .int x1, .int x2, .int x3, .int x4, .null, .null, .null, .null]) (S' := [.int x1, .ref r0]) (h' := (sI h r0 0 0)) rfl rfl rfl rfl).trans <|
    r_call (j := 6) (a := [.ref r0, .int x1]) (S' := []) rfl rfl rfl rfl rfl rfl rfl
theorem b_M_best_6 {d : Nat} (x1 x2 x3 x4 s0 : Int32) (r0 : Nat) (h : AH) (Q : Option Value → AH → Prop) : Wp d P_M_best 6 [.ref r0, .int x1, .int x2, .int x3, .int x4, .null, .null, .null, .null] [.int s0] h Q ↔ (s0 = 0 → Wp d P_M_best 20 [.ref r0, .int x1, .int x2, .int x3, .int x4, .null, .null, .null, .null] [] h Q) ∧ (¬ (s0 = 0) → Wp d P_M_best 7 [.ref r0, .int x1, .int x2, .int x3, .int x4, .null, .null, .null, .null] [] h Q) :=
    r_if (j := 7) rfl (cd_eq _ _) rfl
theorem b_M_best_7 {d : Nat} (x1 x2 x3 x4 : Int32) (r0 : Nat) (h : AH) (Q : Option Value → AH → Prop) : Wp d P_M_best 7 [.ref r0, .int x1, .int x2, .int x3, .int x4, .null, .null, .null, .null] [] h Q ↔ Cl d q_M_isFear [.int x2] h (fun r h' => Wp d P_M_best 9 [.ref r0, .int x1, .int x2, .int x3, .int x4, .null, .null, .null, .null] (r.toList ++ []) h' Q) :=
    (r_go (j := 8) (L' := [.ref r0, .int x1, .int x2, .int x3, .int x4, .null, .null, .null, .null]) (S' := [.int x2]) (h' := h) rfl rfl rfl rfl).trans <|
    r_call (j := 9) (a := [.int x2]) (S' := []) rfl rfl rfl rfl rfl rfl rfl
theorem b_M_best_9 {d : Nat} (x1 x2 x3 x4 s0 : Int32) (r0 : Nat) (h : AH) (Q : Option Value → AH → Prop) : Wp d P_M_best 9 [.ref r0, .int x1, .int x2, .int x3, .int x4, .null, .null, .null, .null] [.int s0] h Q ↔ (s0 = 0 → Wp d P_M_best 20 [.ref r0, .int x1, .int x2, .int x3, .int x4, .null, .null, .null, .null] [] h Q) ∧ (¬ (s0 = 0) → Wp d P_M_best 10 [.ref r0, .int x1, .int x2, .int x3, .int x4, .null, .null, .null, .null] [] h Q) :=
    r_if (j := 10) rfl (cd_eq _ _) rfl
theorem b_M_best_10 {d : Nat} (x1 x2 x3 x4 : Int32) (r0 : Nat) (h : AH) (Q : Option Value → AH → Prop) : Wp d P_M_best 10 [.ref r0, .int x1, .int x2, .int x3, .int x4, .null, .null, .null, .null] [] h Q ↔ Cl d q_M_within [.int x3, .int 1, .int 99] h (fun r h' => Wp d P_M_best 14 [.ref r0, .int x1, .int x2, .int x3, .int x4, .null, .null, .null, .null] (r.toList ++ []) h' Q) :=
    (r_go (j := 11) (L' := [.ref r0, .int x1, .int x2, .int x3, .int x4, .null, .null, .null, .null]) (S' := [.int x3]) (h' := h) rfl rfl rfl rfl).trans <|
    (r_iconst (j := 12) (x := 1) rfl i32_1 rfl).trans <|
    (r_bipush (j := 13) (x := 99) rfl i32_99 rfl).trans <|
    r_call (j := 14) (a := [.int x3, .int 1, .int 99]) (S' := []) rfl rfl rfl rfl rfl rfl rfl
theorem b_M_best_14 {d : Nat} (x1 x2 x3 x4 s0 : Int32) (r0 : Nat) (h : AH) (Q : Option Value → AH → Prop) : Wp d P_M_best 14 [.ref r0, .int x1, .int x2, .int x3, .int x4, .null, .null, .null, .null] [.int s0] h Q ↔ (s0 = 0 → Wp d P_M_best 20 [.ref r0, .int x1, .int x2, .int x3, .int x4, .null, .null, .null, .null] [] h Q) ∧ (¬ (s0 = 0) → Wp d P_M_best 15 [.ref r0, .int x1, .int x2, .int x3, .int x4, .null, .null, .null, .null] [] h Q) :=
    r_if (j := 15) rfl (cd_eq _ _) rfl
theorem b_M_best_15 {d : Nat} (x1 x2 x3 x4 : Int32) (r0 : Nat) (h : AH) (Q : Option Value → AH → Prop) : Wp d P_M_best 15 [.ref r0, .int x1, .int x2, .int x3, .int x4, .null, .null, .null, .null] [] h Q ↔ Cl d q_M_within [.int x4, .int 0, .int 2] h (fun r h' => Wp d P_M_best 19 [.ref r0, .int x1, .int x2, .int x3, .int x4, .null, .null, .null, .null] (r.toList ++ []) h' Q) :=
    (r_go (j := 16) (L' := [.ref r0, .int x1, .int x2, .int x3, .int x4, .null, .null, .null, .null]) (S' := [.int x4]) (h' := h) rfl rfl rfl rfl).trans <|
    (r_iconst (j := 17) (x := 0) rfl i32_0 rfl).trans <|
    (r_iconst (j := 18) (x := 2) rfl i32_2 rfl).trans <|
    r_call (j := 19) (a := [.int x4, .int 0, .int 2]) (S' := []) rfl rfl rfl rfl rfl rfl rfl
theorem b_M_best_19 {d : Nat} (x1 x2 x3 x4 s0 : Int32) (r0 : Nat) (h : AH) (Q : Option Value → AH → Prop) : Wp d P_M_best 19 [.ref r0, .int x1, .int x2, .int x3, .int x4, .null, .null, .null, .null] [.int s0] h Q ↔ (¬ s0 = 0 → Wp d P_M_best 22 [.ref r0, .int x1, .int x2, .int x3, .int x4, .null, .null, .null, .null] [] h Q) ∧ (¬ (¬ s0 = 0) → Wp d P_M_best 20 [.ref r0, .int x1, .int x2, .int x3, .int x4, .null, .null, .null, .null] [] h Q) :=
    r_if (j := 20) rfl (cd_ne _ _) rfl
theorem b_M_best_20 {d : Nat} (x1 x2 x3 x4 : Int32) (r0 : Nat) (h : AH) (Q : Option Value → AH → Prop) : Wp d P_M_best 20 [.ref r0, .int x1, .int x2, .int x3, .int x4, .null, .null, .null, .null] [] h Q ↔ Q (some (.int (-1))) h :=
    (r_iconst (j := 21) (x := (-1)) rfl i32_m1 rfl).trans <|
    r_ret rfl rfl rfl
theorem b_M_best_22 {d : Nat} (x1 x2 x3 x4 : Int32) (r0 : Nat) (h : AH) (Q : Option Value → AH → Prop) : Wp d P_M_best 22 [.ref r0, .int x1, .int x2, .int x3, .int x4, .null, .null, .null, .null] [] h Q ↔ Wp d P_M_best 28 [.ref r0, .int x1, .int x2, .int x3, .int x4, .int 0, .int 0, .int 1, .null] [] h Q :=
    (r_iconst (j := 23) (x := 0) rfl i32_0 rfl).trans <|
    (r_go (j := 24) (L' := [.ref r0, .int x1, .int x2, .int x3, .int x4, .int 0, .null, .null, .null]) (S' := []) (h' := h) rfl rfl rfl rfl).trans <|
    (r_iconst (j := 25) (x := 0) rfl i32_0 rfl).trans <|
    (r_go (j := 26) (L' := [.ref r0, .int x1, .int x2, .int x3, .int x4, .int 0, .int 0, .null, .null]) (S' := []) (h' := h) rfl rfl rfl rfl).trans <|
    (r_iconst (j := 27) (x := 1) rfl i32_1 rfl).trans <|
    r_go (j := 28) (L' := [.ref r0, .int x1, .int x2, .int x3, .int x4, .int 0, .int 0, .int 1, .null]) (S' := []) (h' := h) rfl rfl rfl rfl
theorem b_M_best_28 {d : Nat} (x1 x2 x3 x4 x5 x6 x7 : Int32) (r0 : Nat) (v8 : Value) (h : AH) (Q : Option Value → AH → Prop) : Wp d P_M_best 28 [.ref r0, .int x1, .int x2, .int x3, .int x4, .int x5, .int x6, .int x7, v8] [] h Q ↔ (hK h r0 = 11) ∧ ((hK h (hR h r0 16) ∈ [20, 44] ∧ ixo x1 (hN h (hR h r0 16)) = true) ∧ (((1 <<< ((hI h (hR h r0 16) (Int32.toNatClampNeg x1)) &&& 31)) ≤ x7 → Wp d P_M_best 59 [.ref r0, .int x1, .int x2, .int x3, .int x4, .int x5, .int x6, .int x7, v8] [] h Q) ∧ (¬ ((1 <<< ((hI h (hR h r0 16) (Int32.toNatClampNeg x1)) &&& 31)) ≤ x7) → Wp d P_M_best 36 [.ref r0, .int x1, .int x2, .int x3, .int x4, .int x5, .int x6, .int x7, v8] [] h Q))) :=
    (r_go (j := 29) (L' := [.ref r0, .int x1, .int x2, .int x3, .int x4, .int x5, .int x6, .int x7, v8]) (S' := [.int x7]) (h' := h) rfl rfl rfl rfl).trans <|
    (r_iconst (j := 30) (x := 1) rfl i32_1 rfl).trans <|
    (r_go (j := 31) (L' := [.ref r0, .int x1, .int x2, .int x3, .int x4, .int x5, .int x6, .int x7, v8]) (S' := [.ref r0, .int 1, .int x7]) (h' := h) rfl rfl rfl rfl).trans <|
    (r_guard (j := 32) (L' := [.ref r0, .int x1, .int x2, .int x3, .int x4, .int x5, .int x6, .int x7, v8]) (S' := [.ref (hR h r0 16), .int 1, .int x7]) (h' := h) (p := hK h r0 = 11) rfl rfl rfl rfl (decide_eq_true_iff)).trans <| and_r <|
    (r_go (j := 33) (L' := [.ref r0, .int x1, .int x2, .int x3, .int x4, .int x5, .int x6, .int x7, v8]) (S' := [.int x1, .ref (hR h r0 16), .int 1, .int x7]) (h' := h) rfl rfl rfl rfl).trans <|
    (r_guard (j := 34) (L' := [.ref r0, .int x1, .int x2, .int x3, .int x4, .int x5, .int x6, .int x7, v8]) (S' := [.int (hI h (hR h r0 16) (Int32.toNatClampNeg x1)), .int 1, .int x7]) (h' := h) (p := hK h (hR h r0 16) ∈ [20, 44] ∧ ixo x1 (hN h (hR h r0 16)) = true) rfl rfl rfl rfl (and2 decide_eq_true_iff Iff.rfl)).trans <| and_r <|
    (r_go (j := 35) (L' := [.ref r0, .int x1, .int x2, .int x3, .int x4, .int x5, .int x6, .int x7, v8]) (S' := [.int (1 <<< ((hI h (hR h r0 16) (Int32.toNatClampNeg x1)) &&& 31)), .int x7]) (h' := h) rfl rfl rfl rfl).trans <|
    r_icmp (j := 36) rfl (cd_ge _ _) rfl
theorem b_M_best_36 {d : Nat} (x1 x2 x3 x4 x5 x6 x7 : Int32) (r0 : Nat) (v8 : Value) (h : AH) (Q : Option Value → AH → Prop) : Wp d P_M_best 36 [.ref r0, .int x1, .int x2, .int x3, .int x4, .int x5, .int x6, .int x7, v8] [] h Q ↔ Cl d q_M_minutesOf [.ref r0, .int x1, .int x7] h (fun r h' => Wp d P_M_best 40 [.ref r0, .int x1, .int x2, .int x3, .int x4, .int x5, .int x6, .int x7, v8] (r.toList ++ []) h' Q) :=
    (r_go (j := 37) (L' := [.ref r0, .int x1, .int x2, .int x3, .int x4, .int x5, .int x6, .int x7, v8]) (S' := [.ref r0]) (h' := h) rfl rfl rfl rfl).trans <|
    (r_go (j := 38) (L' := [.ref r0, .int x1, .int x2, .int x3, .int x4, .int x5, .int x6, .int x7, v8]) (S' := [.int x1, .ref r0]) (h' := h) rfl rfl rfl rfl).trans <|
    (r_go (j := 39) (L' := [.ref r0, .int x1, .int x2, .int x3, .int x4, .int x5, .int x6, .int x7, v8]) (S' := [.int x7, .int x1, .ref r0]) (h' := h) rfl rfl rfl rfl).trans <|
    r_call (j := 40) (a := [.ref r0, .int x1, .int x7]) (S' := []) rfl rfl rfl rfl rfl rfl rfl
theorem b_M_best_40 {d : Nat} (x1 x2 x3 x4 x5 x6 x7 s0 : Int32) (r0 : Nat) (v8 : Value) (h : AH) (Q : Option Value → AH → Prop) : Wp d P_M_best 40 [.ref r0, .int x1, .int x2, .int x3, .int x4, .int x5, .int x6, .int x7, v8] [.int s0] h Q ↔ (s0 ≤ x3 → Wp d P_M_best 44 [.ref r0, .int x1, .int x2, .int x3, .int x4, .int x5, .int x6, .int x7, v8] [] h Q) ∧ (¬ (s0 ≤ x3) → Wp d P_M_best 42 [.ref r0, .int x1, .int x2, .int x3, .int x4, .int x5, .int x6, .int x7, v8] [] h Q) :=
    (r_go (j := 41) (L' := [.ref r0, .int x1, .int x2, .int x3, .int x4, .int x5, .int x6, .int x7, v8]) (S' := [.int x3, .int s0]) (h' := h) rfl rfl rfl rfl).trans <|
    r_icmp (j := 42) rfl (cd_le _ _) rfl
theorem b_M_best_42 {d : Nat} (x1 x2 x3 x4 x5 x6 x7 : Int32) (r0 : Nat) (v8 : Value) (h : AH) (Q : Option Value → AH → Prop) : Wp d P_M_best 42 [.ref r0, .int x1, .int x2, .int x3, .int x4, .int x5, .int x6, .int x7, v8] [] h Q ↔ Wp d P_M_best 49 [.ref r0, .int x1, .int x2, .int x3, .int x4, .int x5, .int x6, .int x7, v8] [.int (-1)] h Q :=
    (r_iconst (j := 43) (x := (-1)) rfl i32_m1 rfl).trans <|
    r_go (j := 49) (L' := [.ref r0, .int x1, .int x2, .int x3, .int x4, .int x5, .int x6, .int x7, v8]) (S' := [.int (-1)]) (h' := h) rfl rfl rfl rfl
theorem b_M_best_44 {d : Nat} (x1 x2 x3 x4 x5 x6 x7 : Int32) (r0 : Nat) (v8 : Value) (h : AH) (Q : Option Value → AH → Prop) : Wp d P_M_best 44 [.ref r0, .int x1, .int x2, .int x3, .int x4, .int x5, .int x6, .int x7, v8] [] h Q ↔ Cl d q_M_powerOf [.ref r0, .int x1, .int x2, .int x7] h (fun r h' => Wp d P_M_best 49 [.ref r0, .int x1, .int x2, .int x3, .int x4, .int x5, .int x6, .int x7, v8] (r.toList ++ []) h' Q) :=
    (r_go (j := 45) (L' := [.ref r0, .int x1, .int x2, .int x3, .int x4, .int x5, .int x6, .int x7, v8]) (S' := [.ref r0]) (h' := h) rfl rfl rfl rfl).trans <|
    (r_go (j := 46) (L' := [.ref r0, .int x1, .int x2, .int x3, .int x4, .int x5, .int x6, .int x7, v8]) (S' := [.int x1, .ref r0]) (h' := h) rfl rfl rfl rfl).trans <|
    (r_go (j := 47) (L' := [.ref r0, .int x1, .int x2, .int x3, .int x4, .int x5, .int x6, .int x7, v8]) (S' := [.int x2, .int x1, .ref r0]) (h' := h) rfl rfl rfl rfl).trans <|
    (r_go (j := 48) (L' := [.ref r0, .int x1, .int x2, .int x3, .int x4, .int x5, .int x6, .int x7, v8]) (S' := [.int x7, .int x2, .int x1, .ref r0]) (h' := h) rfl rfl rfl rfl).trans <|
    r_call (j := 49) (a := [.ref r0, .int x1, .int x2, .int x7]) (S' := []) rfl rfl rfl rfl rfl rfl rfl
theorem b_M_best_49 {d : Nat} (x1 x2 x3 x4 x5 x6 x7 s0 : Int32) (r0 : Nat) (v8 : Value) (h : AH) (Q : Option Value → AH → Prop) : Wp d P_M_best 49 [.ref r0, .int x1, .int x2, .int x3, .int x4, .int x5, .int x6, .int x7, v8] [.int s0] h Q ↔ (s0 ≤ x6 → Wp d P_M_best 57 [.ref r0, .int x1, .int x2, .int x3, .int x4, .int x5, .int x6, .int x7, .int s0] [] h Q) ∧ (¬ (s0 ≤ x6) → Wp d P_M_best 53 [.ref r0, .int x1, .int x2, .int x3, .int x4, .int x5, .int x6, .int x7, .int s0] [] h Q) :=
    (r_go (j := 50) (L' := [.ref r0, .int x1, .int x2, .int x3, .int x4, .int x5, .int x6, .int x7, .int s0]) (S' := []) (h' := h) rfl rfl rfl rfl).trans <|
    (r_go (j := 51) (L' := [.ref r0, .int x1, .int x2, .int x3, .int x4, .int x5, .int x6, .int x7, .int s0]) (S' := [.int s0]) (h' := h) rfl rfl rfl rfl).trans <|
    (r_go (j := 52) (L' := [.ref r0, .int x1, .int x2, .int x3, .int x4, .int x5, .int x6, .int x7, .int s0]) (S' := [.int x6, .int s0]) (h' := h) rfl rfl rfl rfl).trans <|
    r_icmp (j := 53) rfl (cd_le _ _) rfl
theorem b_M_best_53 {d : Nat} (x1 x2 x3 x4 x5 x6 x7 x8 : Int32) (r0 : Nat) (h : AH) (Q : Option Value → AH → Prop) : Wp d P_M_best 53 [.ref r0, .int x1, .int x2, .int x3, .int x4, .int x5, .int x6, .int x7, .int x8] [] h Q ↔ Wp d P_M_best 57 [.ref r0, .int x1, .int x2, .int x3, .int x4, .int x7, .int x8, .int x7, .int x8] [] h Q :=
    (r_go (j := 54) (L' := [.ref r0, .int x1, .int x2, .int x3, .int x4, .int x5, .int x6, .int x7, .int x8]) (S' := [.int x8]) (h' := h) rfl rfl rfl rfl).trans <|
    (r_go (j := 55) (L' := [.ref r0, .int x1, .int x2, .int x3, .int x4, .int x5, .int x8, .int x7, .int x8]) (S' := []) (h' := h) rfl rfl rfl rfl).trans <|
    (r_go (j := 56) (L' := [.ref r0, .int x1, .int x2, .int x3, .int x4, .int x5, .int x8, .int x7, .int x8]) (S' := [.int x7]) (h' := h) rfl rfl rfl rfl).trans <|
    r_go (j := 57) (L' := [.ref r0, .int x1, .int x2, .int x3, .int x4, .int x7, .int x8, .int x7, .int x8]) (S' := []) (h' := h) rfl rfl rfl rfl
theorem b_M_best_57 {d : Nat} (x1 x2 x3 x4 x5 x6 x7 x8 : Int32) (r0 : Nat) (h : AH) (Q : Option Value → AH → Prop) : Wp d P_M_best 57 [.ref r0, .int x1, .int x2, .int x3, .int x4, .int x5, .int x6, .int x7, .int x8] [] h Q ↔ Wp d P_M_best 28 [.ref r0, .int x1, .int x2, .int x3, .int x4, .int x5, .int x6, .int (x7 + 1), .int x8] [] h Q :=
    (r_iinc (j := 58) (x := 1) (L' := [.ref r0, .int x1, .int x2, .int x3, .int x4, .int x5, .int x6, .int (x7 + 1), .int x8]) rfl rfl i32_1 rfl rfl).trans <|
    r_go (j := 28) (L' := [.ref r0, .int x1, .int x2, .int x3, .int x4, .int x5, .int x6, .int (x7 + 1), .int x8]) (S' := []) (h' := h) rfl rfl rfl rfl
theorem b_M_best_59 {d : Nat} (x1 x2 x3 x4 x5 x6 x7 : Int32) (r0 : Nat) (v8 : Value) (h : AH) (Q : Option Value → AH → Prop) : Wp d P_M_best 59 [.ref r0, .int x1, .int x2, .int x3, .int x4, .int x5, .int x6, .int x7, v8] [] h Q ↔ (¬ x4 = 0 → Wp d P_M_best 63 [.ref r0, .int x1, .int x2, .int x3, .int x4, .int x5, .int x6, .int x7, v8] [] h Q) ∧ (¬ (¬ x4 = 0) → Wp d P_M_best 61 [.ref r0, .int x1, .int x2, .int x3, .int x4, .int x5, .int x6, .int x7, v8] [] h Q) :=
    (r_go (j := 60) (L' := [.ref r0, .int x1, .int x2, .int x3, .int x4, .int x5, .int x6, .int x7, v8]) (S' := [.int x4]) (h' := h) rfl rfl rfl rfl).trans <|
    r_if (j := 61) rfl (cd_ne _ _) rfl
theorem b_M_best_61 {d : Nat} (x1 x2 x3 x4 x5 x6 x7 : Int32) (r0 : Nat) (v8 : Value) (h : AH) (Q : Option Value → AH → Prop) : Wp d P_M_best 61 [.ref r0, .int x1, .int x2, .int x3, .int x4, .int x5, .int x6, .int x7, v8] [] h Q ↔ Wp d P_M_best 72 [.ref r0, .int x1, .int x2, .int x3, .int x4, .int x5, .int x6, .int x7, v8] [.int x6] h Q :=
    (r_go (j := 62) (L' := [.ref r0, .int x1, .int x2, .int x3, .int x4, .int x5, .int x6, .int x7, v8]) (S' := [.int x6]) (h' := h) rfl rfl rfl rfl).trans <|
    r_go (j := 72) (L' := [.ref r0, .int x1, .int x2, .int x3, .int x4, .int x5, .int x6, .int x7, v8]) (S' := [.int x6]) (h' := h) rfl rfl rfl rfl
theorem b_M_best_63 {d : Nat} (x1 x2 x3 x4 x5 x6 x7 : Int32) (r0 : Nat) (v8 : Value) (h : AH) (Q : Option Value → AH → Prop) : Wp d P_M_best 63 [.ref r0, .int x1, .int x2, .int x3, .int x4, .int x5, .int x6, .int x7, v8] [] h Q ↔ (¬ x4 = 1 → Wp d P_M_best 68 [.ref r0, .int x1, .int x2, .int x3, .int x4, .int x5, .int x6, .int x7, v8] [] h Q) ∧ (¬ (¬ x4 = 1) → Wp d P_M_best 66 [.ref r0, .int x1, .int x2, .int x3, .int x4, .int x5, .int x6, .int x7, v8] [] h Q) :=
    (r_go (j := 64) (L' := [.ref r0, .int x1, .int x2, .int x3, .int x4, .int x5, .int x6, .int x7, v8]) (S' := [.int x4]) (h' := h) rfl rfl rfl rfl).trans <|
    (r_iconst (j := 65) (x := 1) rfl i32_1 rfl).trans <|
    r_icmp (j := 66) rfl (cd_ne _ _) rfl
theorem b_M_best_66 {d : Nat} (x1 x2 x3 x4 x5 x6 x7 : Int32) (r0 : Nat) (v8 : Value) (h : AH) (Q : Option Value → AH → Prop) : Wp d P_M_best 66 [.ref r0, .int x1, .int x2, .int x3, .int x4, .int x5, .int x6, .int x7, v8] [] h Q ↔ Wp d P_M_best 72 [.ref r0, .int x1, .int x2, .int x3, .int x4, .int x5, .int x6, .int x7, v8] [.int x5] h Q :=
    (r_go (j := 67) (L' := [.ref r0, .int x1, .int x2, .int x3, .int x4, .int x5, .int x6, .int x7, v8]) (S' := [.int x5]) (h' := h) rfl rfl rfl rfl).trans <|
    r_go (j := 72) (L' := [.ref r0, .int x1, .int x2, .int x3, .int x4, .int x5, .int x6, .int x7, v8]) (S' := [.int x5]) (h' := h) rfl rfl rfl rfl
theorem b_M_best_68 {d : Nat} (x1 x2 x3 x4 x5 x6 x7 : Int32) (r0 : Nat) (v8 : Value) (h : AH) (Q : Option Value → AH → Prop) : Wp d P_M_best 68 [.ref r0, .int x1, .int x2, .int x3, .int x4, .int x5, .int x6, .int x7, v8] [] h Q ↔ Cl d q_M_minutesOf [.ref r0, .int x1, .int x5] h (fun r h' => Wp d P_M_best 72 [.ref r0, .int x1, .int x2, .int x3, .int x4, .int x5, .int x6, .int x7, v8] (r.toList ++ []) h' Q) :=
    (r_go (j := 69) (L' := [.ref r0, .int x1, .int x2, .int x3, .int x4, .int x5, .int x6, .int x7, v8]) (S' := [.ref r0]) (h' := h) rfl rfl rfl rfl).trans <|
    (r_go (j := 70) (L' := [.ref r0, .int x1, .int x2, .int x3, .int x4, .int x5, .int x6, .int x7, v8]) (S' := [.int x1, .ref r0]) (h' := h) rfl rfl rfl rfl).trans <|
    (r_go (j := 71) (L' := [.ref r0, .int x1, .int x2, .int x3, .int x4, .int x5, .int x6, .int x7, v8]) (S' := [.int x5, .int x1, .ref r0]) (h' := h) rfl rfl rfl rfl).trans <|
    r_call (j := 72) (a := [.ref r0, .int x1, .int x5]) (S' := []) rfl rfl rfl rfl rfl rfl rfl
theorem b_M_best_72 {d : Nat} (x1 x2 x3 x4 x5 x6 x7 s0 : Int32) (r0 : Nat) (v8 : Value) (h : AH) (Q : Option Value → AH → Prop) : Wp d P_M_best 72 [.ref r0, .int x1, .int x2, .int x3, .int x4, .int x5, .int x6, .int x7, v8] [.int s0] h Q ↔ Q (some (.int s0)) h :=
    r_ret rfl rfl rfl
theorem e_M_best {d : Nat} (x1 x2 x3 x4 : Int32) (r0 : Nat) (h : AH) (Q : Option Value → AH → Prop) : Cl (d + 1) q_M_best [.ref r0, .int x1, .int x2, .int x3, .int x4] h Q ↔ hK h r0 = 11 ∧ Wp d P_M_best 0 [.ref r0, .int x1, .int x2, .int x3, .int x4, .null, .null, .null, .null] [] h (fun r h' => rtk (some .int) r = true ∧ Q r h') :=
    (Cl_method (t := m_M_best) rfl).trans (and_congr_left fun _ => decide_eq_true_iff)
/-! PenThatJumpsModel.common(JJ)J -/
theorem b_M_common_0 {d : Nat} (l0 l2 : Int64) (h : AH) (Q : Option Value → AH → Prop) : Wp d P_M_common 0 [.long l0, .null, .long l2, .null, .null, .null, .null, .null, .null, .null] [] h Q ↔ (0 ≤ (lg_cmp l0 0) → Wp d P_M_common 7 [.long l0, .null, .long l2, .null, .null, .null, .null, .null, .null, .null] [] h Q) ∧ (¬ (0 ≤ (lg_cmp l0 0)) → Wp d P_M_common 4 [.long l0, .null, .long l2, .null, .null, .null, .null, .null, .null, .null] [] h Q) :=
    (r_go (j := 1) (L' := [.long l0, .null, .long l2, .null, .null, .null, .null, .null, .null, .null]) (S' := [.long l0]) (h' := h) rfl rfl rfl rfl).trans <|
    (r_go (j := 2) (L' := [.long l0, .null, .long l2, .null, .null, .null, .null, .null, .null, .null]) (S' := [.long 0, .long l0]) (h' := h) rfl rfl rfl rfl).trans <|
    (r_go (j := 3) (L' := [.long l0, .null, .long l2, .null, .null, .null, .null, .null, .null, .null]) (S' := [.int (lg_cmp l0 0)]) (h' := h) rfl rfl rfl rfl).trans <|
    r_if (j := 4) rfl (cd_ge _ _) rfl
theorem b_M_common_4 {d : Nat} (l0 l2 : Int64) (h : AH) (Q : Option Value → AH → Prop) : Wp d P_M_common 4 [.long l0, .null, .long l2, .null, .null, .null, .null, .null, .null, .null] [] h Q ↔ Wp d P_M_common 8 [.long l0, .null, .long l2, .null, .null, .null, .null, .null, .null, .null] [.long (-l0)] h Q :=
    (r_go (j := 5) (L' := [.long l0, .null, .long l2, .null, .null, .null, .null, .null, .null, .null]) (S' := [.long l0]) (h' := h) rfl rfl rfl rfl).trans <|
    (r_go (j := 6) (L' := [.long l0, .null, .long l2, .null, .null, .null, .null, .null, .null, .null]) (S' := [.long (-l0)]) (h' := h) rfl rfl rfl rfl).trans <|
    r_go (j := 8) (L' := [.long l0, .null, .long l2, .null, .null, .null, .null, .null, .null, .null]) (S' := [.long (-l0)]) (h' := h) rfl rfl rfl rfl
theorem b_M_common_7 {d : Nat} (l0 l2 : Int64) (h : AH) (Q : Option Value → AH → Prop) : Wp d P_M_common 7 [.long l0, .null, .long l2, .null, .null, .null, .null, .null, .null, .null] [] h Q ↔ Wp d P_M_common 8 [.long l0, .null, .long l2, .null, .null, .null, .null, .null, .null, .null] [.long l0] h Q :=
    r_go (j := 8) (L' := [.long l0, .null, .long l2, .null, .null, .null, .null, .null, .null, .null]) (S' := [.long l0]) (h' := h) rfl rfl rfl rfl
theorem b_M_common_8 {d : Nat} (l0 l2 k0 : Int64) (h : AH) (Q : Option Value → AH → Prop) : Wp d P_M_common 8 [.long l0, .null, .long l2, .null, .null, .null, .null, .null, .null, .null] [.long k0] h Q ↔ (0 ≤ (lg_cmp l2 0) → Wp d P_M_common 16 [.long l0, .null, .long l2, .null, .long k0, .null, .null, .null, .null, .null] [] h Q) ∧ (¬ (0 ≤ (lg_cmp l2 0)) → Wp d P_M_common 13 [.long l0, .null, .long l2, .null, .long k0, .null, .null, .null, .null, .null] [] h Q) :=
    (r_go (j := 9) (L' := [.long l0, .null, .long l2, .null, .long k0, .null, .null, .null, .null, .null]) (S' := []) (h' := h) rfl rfl rfl rfl).trans <|
    (r_go (j := 10) (L' := [.long l0, .null, .long l2, .null, .long k0, .null, .null, .null, .null, .null]) (S' := [.long l2]) (h' := h) rfl rfl rfl rfl).trans <|
    (r_go (j := 11) (L' := [.long l0, .null, .long l2, .null, .long k0, .null, .null, .null, .null, .null]) (S' := [.long 0, .long l2]) (h' := h) rfl rfl rfl rfl).trans <|
    (r_go (j := 12) (L' := [.long l0, .null, .long l2, .null, .long k0, .null, .null, .null, .null, .null]) (S' := [.int (lg_cmp l2 0)]) (h' := h) rfl rfl rfl rfl).trans <|
    r_if (j := 13) rfl (cd_ge _ _) rfl
theorem b_M_common_13 {d : Nat} (l0 l2 l4 : Int64) (h : AH) (Q : Option Value → AH → Prop) : Wp d P_M_common 13 [.long l0, .null, .long l2, .null, .long l4, .null, .null, .null, .null, .null] [] h Q ↔ Wp d P_M_common 17 [.long l0, .null, .long l2, .null, .long l4, .null, .null, .null, .null, .null] [.long (-l2)] h Q :=
    (r_go (j := 14) (L' := [.long l0, .null, .long l2, .null, .long l4, .null, .null, .null, .null, .null]) (S' := [.long l2]) (h' := h) rfl rfl rfl rfl).trans <|
    (r_go (j := 15) (L' := [.long l0, .null, .long l2, .null, .long l4, .null, .null, .null, .null, .null]) (S' := [.long (-l2)]) (h' := h) rfl rfl rfl rfl).trans <|
    r_go (j := 17) (L' := [.long l0, .null, .long l2, .null, .long l4, .null, .null, .null, .null, .null]) (S' := [.long (-l2)]) (h' := h) rfl rfl rfl rfl
theorem b_M_common_16 {d : Nat} (l0 l2 l4 : Int64) (h : AH) (Q : Option Value → AH → Prop) : Wp d P_M_common 16 [.long l0, .null, .long l2, .null, .long l4, .null, .null, .null, .null, .null] [] h Q ↔ Wp d P_M_common 17 [.long l0, .null, .long l2, .null, .long l4, .null, .null, .null, .null, .null] [.long l2] h Q :=
    r_go (j := 17) (L' := [.long l0, .null, .long l2, .null, .long l4, .null, .null, .null, .null, .null]) (S' := [.long l2]) (h' := h) rfl rfl rfl rfl
theorem b_M_common_17 {d : Nat} (l0 l2 l4 k0 : Int64) (h : AH) (Q : Option Value → AH → Prop) : Wp d P_M_common 17 [.long l0, .null, .long l2, .null, .long l4, .null, .null, .null, .null, .null] [.long k0] h Q ↔ Wp d P_M_common 18 [.long l0, .null, .long l2, .null, .long l4, .null, .long k0, .null, .null, .null] [] h Q :=
    r_go (j := 18) (L' := [.long l0, .null, .long l2, .null, .long l4, .null, .long k0, .null, .null, .null]) (S' := []) (h' := h) rfl rfl rfl rfl
theorem b_M_common_18 {d : Nat} (l0 l2 l4 l6 : Int64) (v8 : Value) (h : AH) (Q : Option Value → AH → Prop) : Wp d P_M_common 18 [.long l0, .null, .long l2, .null, .long l4, .null, .long l6, .null, v8, .null] [] h Q ↔ ((lg_cmp l6 0) = 0 → Wp d P_M_common 31 [.long l0, .null, .long l2, .null, .long l4, .null, .long l6, .null, v8, .null] [] h Q) ∧ (¬ ((lg_cmp l6 0) = 0) → Wp d P_M_common 22 [.long l0, .null, .long l2, .null, .long l4, .null, .long l6, .null, v8, .null] [] h Q) :=
    (r_go (j := 19) (L' := [.long l0, .null, .long l2, .null, .long l4, .null, .long l6, .null, v8, .null]) (S' := [.long l6]) (h' := h) rfl rfl rfl rfl).trans <|
    (r_go (j := 20) (L' := [.long l0, .null, .long l2, .null, .long l4, .null, .long l6, .null, v8, .null]) (S' := [.long 0, .long l6]) (h' := h) rfl rfl rfl rfl).trans <|
    (r_go (j := 21) (L' := [.long l0, .null, .long l2, .null, .long l4, .null, .long l6, .null, v8, .null]) (S' := [.int (lg_cmp l6 0)]) (h' := h) rfl rfl rfl rfl).trans <|
    r_if (j := 22) rfl (cd_eq _ _) rfl
theorem b_M_common_22 {d : Nat} (l0 l2 l4 l6 : Int64) (v8 : Value) (h : AH) (Q : Option Value → AH → Prop) : Wp d P_M_common 22 [.long l0, .null, .long l2, .null, .long l4, .null, .long l6, .null, v8, .null] [] h Q ↔ (¬ l6 = 0) ∧ (Wp d P_M_common 18 [.long l0, .null, .long l2, .null, .long l6, .null, .long (l4 - l4 / l6 * l6), .null, .long (l4 - l4 / l6 * l6), .null] [] h Q) :=
    (r_go (j := 23) (L' := [.long l0, .null, .long l2, .null, .long l4, .null, .long l6, .null, v8, .null]) (S' := [.long l4]) (h' := h) rfl rfl rfl rfl).trans <|
    (r_go (j := 24) (L' := [.long l0, .null, .long l2, .null, .long l4, .null, .long l6, .null, v8, .null]) (S' := [.long l6, .long l4]) (h' := h) rfl rfl rfl rfl).trans <|
    (r_guard (j := 25) (L' := [.long l0, .null, .long l2, .null, .long l4, .null, .long l6, .null, v8, .null]) (S' := [.long (l4 - l4 / l6 * l6)]) (h' := h) (p := ¬ l6 = 0) rfl rfl rfl rfl (decide_eq_true_iff)).trans <| and_r <|
    (r_go (j := 26) (L' := [.long l0, .null, .long l2, .null, .long l4, .null, .long l6, .null, .long (l4 - l4 / l6 * l6), .null]) (S' := []) (h' := h) rfl rfl rfl rfl).trans <|
    (r_go (j := 27) (L' := [.long l0, .null, .long l2, .null, .long l4, .null, .long l6, .null, .long (l4 - l4 / l6 * l6), .null]) (S' := [.long l6]) (h' := h) rfl rfl rfl rfl).trans <|
    (r_go (j := 28) (L' := [.long l0, .null, .long l2, .null, .long l6, .null, .long l6, .null, .long (l4 - l4 / l6 * l6), .null]) (S' := []) (h' := h) rfl rfl rfl rfl).trans <|
    (r_go (j := 29) (L' := [.long l0, .null, .long l2, .null, .long l6, .null, .long l6, .null, .long (l4 - l4 / l6 * l6), .null]) (S' := [.long (l4 - l4 / l6 * l6)]) (h' := h) rfl rfl rfl rfl).trans <|
    (r_go (j := 30) (L' := [.long l0, .null, .long l2, .null, .long l6, .null, .long (l4 - l4 / l6 * l6), .null, .long (l4 - l4 / l6 * l6), .null]) (S' := []) (h' := h) rfl rfl rfl rfl).trans <|
    r_go (j := 18) (L' := [.long l0, .null, .long l2, .null, .long l6, .null, .long (l4 - l4 / l6 * l6), .null, .long (l4 - l4 / l6 * l6), .null]) (S' := []) (h' := h) rfl rfl rfl rfl
theorem b_M_common_31 {d : Nat} (l0 l2 l4 l6 : Int64) (v8 : Value) (h : AH) (Q : Option Value → AH → Prop) : Wp d P_M_common 31 [.long l0, .null, .long l2, .null, .long l4, .null, .long l6, .null, v8, .null] [] h Q ↔ Q (some (.long l4)) h :=
    (r_go (j := 32) (L' := [.long l0, .null, .long l2, .null, .long l4, .null, .long l6, .null, v8, .null]) (S' := [.long l4]) (h' := h) rfl rfl rfl rfl).trans <|
    r_ret rfl rfl rfl
theorem e_M_common {d : Nat} (l0 l2 : Int64) (h : AH) (Q : Option Value → AH → Prop) : Cl (d + 1) q_M_common [.long l0, .long l2] h Q ↔ Wp d P_M_common 0 [.long l0, .null, .long l2, .null, .null, .null, .null, .null, .null, .null] [] h (fun r h' => rtk (some .long) r = true ∧ Q r h') :=
    (Cl_method (t := m_M_common) rfl).trans (and_iff_right rfl)
/-! PenThatJumpsModel.lowest(JJI)J -/
theorem b_M_lowest_0 {d : Nat} (x4 : Int32) (l0 l2 : Int64) (h : AH) (Q : Option Value → AH → Prop) : Wp d P_M_lowest 0 [.long l0, .null, .long l2, .null, .int x4, .null, .null] [] h Q ↔ Cl d q_M_common [.long l0, .long l2] h (fun r h' => Wp d P_M_lowest 3 [.long l0, .null, .long l2, .null, .int x4, .null, .null] (r.toList ++ []) h' Q) :=
    (r_go (j := 1) (L' := [.long l0, .null, .long l2, .null, .int x4, .null, .null]) (S' := [.long l0]) (h' := h) rfl rfl rfl rfl).trans <|
    (r_go (j := 2) (L' := [.long l0, .null, .long l2, .null, .int x4, .null, .null]) (S' := [.long l2, .long l0]) (h' := h) rfl rfl rfl rfl).trans <|
    r_call (j := 3) (a := [.long l0, .long l2]) (S' := []) rfl rfl rfl rfl rfl rfl rfl
theorem b_M_lowest_3 {d : Nat} (x4 : Int32) (l0 l2 k0 : Int64) (h : AH) (Q : Option Value → AH → Prop) : Wp d P_M_lowest 3 [.long l0, .null, .long l2, .null, .int x4, .null, .null] [.long k0] h Q ↔ (¬ x4 = 0 → Wp d P_M_lowest 10 [.long l0, .null, .long l2, .null, .int x4, .long k0, .null] [] h Q) ∧ (¬ (¬ x4 = 0) → Wp d P_M_lowest 6 [.long l0, .null, .long l2, .null, .int x4, .long k0, .null] [] h Q) :=
    (r_go (j := 4) (L' := [.long l0, .null, .long l2, .null, .int x4, .long k0, .null]) (S' := []) (h' := h) rfl rfl rfl rfl).trans <|
    (r_go (j := 5) (L' := [.long l0, .null, .long l2, .null, .int x4, .long k0, .null]) (S' := [.int x4]) (h' := h) rfl rfl rfl rfl).trans <|
    r_if (j := 6) rfl (cd_ne _ _) rfl
theorem b_M_lowest_6 {d : Nat} (x4 : Int32) (l0 l2 l5 : Int64) (h : AH) (Q : Option Value → AH → Prop) : Wp d P_M_lowest 6 [.long l0, .null, .long l2, .null, .int x4, .long l5, .null] [] h Q ↔ (¬ l5 = 0) ∧ (Wp d P_M_lowest 13 [.long l0, .null, .long l2, .null, .int x4, .long l5, .null] [.long (l0 / l5)] h Q) :=
    (r_go (j := 7) (L' := [.long l0, .null, .long l2, .null, .int x4, .long l5, .null]) (S' := [.long l0]) (h' := h) rfl rfl rfl rfl).trans <|
    (r_go (j := 8) (L' := [.long l0, .null, .long l2, .null, .int x4, .long l5, .null]) (S' := [.long l5, .long l0]) (h' := h) rfl rfl rfl rfl).trans <|
    (r_guard (j := 9) (L' := [.long l0, .null, .long l2, .null, .int x4, .long l5, .null]) (S' := [.long (l0 / l5)]) (h' := h) (p := ¬ l5 = 0) rfl rfl rfl rfl (decide_eq_true_iff)).trans <| and_r <|
    r_go (j := 13) (L' := [.long l0, .null, .long l2, .null, .int x4, .long l5, .null]) (S' := [.long (l0 / l5)]) (h' := h) rfl rfl rfl rfl
theorem b_M_lowest_10 {d : Nat} (x4 : Int32) (l0 l2 l5 : Int64) (h : AH) (Q : Option Value → AH → Prop) : Wp d P_M_lowest 10 [.long l0, .null, .long l2, .null, .int x4, .long l5, .null] [] h Q ↔ (¬ l5 = 0) ∧ (Wp d P_M_lowest 13 [.long l0, .null, .long l2, .null, .int x4, .long l5, .null] [.long (l2 / l5)] h Q) :=
    (r_go (j := 11) (L' := [.long l0, .null, .long l2, .null, .int x4, .long l5, .null]) (S' := [.long l2]) (h' := h) rfl rfl rfl rfl).trans <|
    (r_go (j := 12) (L' := [.long l0, .null, .long l2, .null, .int x4, .long l5, .null]) (S' := [.long l5, .long l2]) (h' := h) rfl rfl rfl rfl).trans <|
    r_guard (j := 13) (L' := [.long l0, .null, .long l2, .null, .int x4, .long l5, .null]) (S' := [.long (l2 / l5)]) (h' := h) (p := ¬ l5 = 0) rfl rfl rfl rfl (decide_eq_true_iff)
theorem b_M_lowest_13 {d : Nat} (x4 : Int32) (l0 l2 l5 k0 : Int64) (h : AH) (Q : Option Value → AH → Prop) : Wp d P_M_lowest 13 [.long l0, .null, .long l2, .null, .int x4, .long l5, .null] [.long k0] h Q ↔ Q (some (.long k0)) h :=
    r_ret rfl rfl rfl
theorem e_M_lowest {d : Nat} (x4 : Int32) (l0 l2 : Int64) (h : AH) (Q : Option Value → AH → Prop) : Cl (d + 1) q_M_lowest [.long l0, .long l2, .int x4] h Q ↔ Wp d P_M_lowest 0 [.long l0, .null, .long l2, .null, .int x4, .null, .null] [] h (fun r h' => rtk (some .long) r = true ∧ Q r h') :=
    (Cl_method (t := m_M_lowest) rfl).trans (and_iff_right rfl)
/-! PenThatJumpsModel.power(JI)J -/
theorem b_M_power_0 {d : Nat} (x2 : Int32) (l0 : Int64) (h : AH) (Q : Option Value → AH → Prop) : Wp d P_M_power 0 [.long l0, .null, .int x2, .null, .null, .null] [] h Q ↔ Wp d P_M_power 4 [.long l0, .null, .int x2, .long 1, .null, .int 0] [] h Q :=
    (r_go (j := 1) (L' := [.long l0, .null, .int x2, .null, .null, .null]) (S' := [.long 1]) (h' := h) rfl rfl rfl rfl).trans <|
    (r_go (j := 2) (L' := [.long l0, .null, .int x2, .long 1, .null, .null]) (S' := []) (h' := h) rfl rfl rfl rfl).trans <|
    (r_iconst (j := 3) (x := 0) rfl i32_0 rfl).trans <|
    r_go (j := 4) (L' := [.long l0, .null, .int x2, .long 1, .null, .int 0]) (S' := []) (h' := h) rfl rfl rfl rfl
theorem b_M_power_4 {d : Nat} (x2 x5 : Int32) (l0 l3 : Int64) (h : AH) (Q : Option Value → AH → Prop) : Wp d P_M_power 4 [.long l0, .null, .int x2, .long l3, .null, .int x5] [] h Q ↔ (x2 ≤ x5 → Wp d P_M_power 13 [.long l0, .null, .int x2, .long l3, .null, .int x5] [] h Q) ∧ (¬ (x2 ≤ x5) → Wp d P_M_power 7 [.long l0, .null, .int x2, .long l3, .null, .int x5] [] h Q) :=
    (r_go (j := 5) (L' := [.long l0, .null, .int x2, .long l3, .null, .int x5]) (S' := [.int x5]) (h' := h) rfl rfl rfl rfl).trans <|
    (r_go (j := 6) (L' := [.long l0, .null, .int x2, .long l3, .null, .int x5]) (S' := [.int x2, .int x5]) (h' := h) rfl rfl rfl rfl).trans <|
    r_icmp (j := 7) rfl (cd_ge _ _) rfl
theorem b_M_power_7 {d : Nat} (x2 x5 : Int32) (l0 l3 : Int64) (h : AH) (Q : Option Value → AH → Prop) : Wp d P_M_power 7 [.long l0, .null, .int x2, .long l3, .null, .int x5] [] h Q ↔ Wp d P_M_power 4 [.long l0, .null, .int x2, .long (l3 * l0), .null, .int (x5 + 1)] [] h Q :=
    (r_go (j := 8) (L' := [.long l0, .null, .int x2, .long l3, .null, .int x5]) (S' := [.long l3]) (h' := h) rfl rfl rfl rfl).trans <|
    (r_go (j := 9) (L' := [.long l0, .null, .int x2, .long l3, .null, .int x5]) (S' := [.long l0, .long l3]) (h' := h) rfl rfl rfl rfl).trans <|
    (r_go (j := 10) (L' := [.long l0, .null, .int x2, .long l3, .null, .int x5]) (S' := [.long (l3 * l0)]) (h' := h) rfl rfl rfl rfl).trans <|
    (r_go (j := 11) (L' := [.long l0, .null, .int x2, .long (l3 * l0), .null, .int x5]) (S' := []) (h' := h) rfl rfl rfl rfl).trans <|
    (r_iinc (j := 12) (x := 1) (L' := [.long l0, .null, .int x2, .long (l3 * l0), .null, .int (x5 + 1)]) rfl rfl i32_1 rfl rfl).trans <|
    r_go (j := 4) (L' := [.long l0, .null, .int x2, .long (l3 * l0), .null, .int (x5 + 1)]) (S' := []) (h' := h) rfl rfl rfl rfl
theorem b_M_power_13 {d : Nat} (x2 x5 : Int32) (l0 l3 : Int64) (h : AH) (Q : Option Value → AH → Prop) : Wp d P_M_power 13 [.long l0, .null, .int x2, .long l3, .null, .int x5] [] h Q ↔ Q (some (.long l3)) h :=
    (r_go (j := 14) (L' := [.long l0, .null, .int x2, .long l3, .null, .int x5]) (S' := [.long l3]) (h' := h) rfl rfl rfl rfl).trans <|
    r_ret rfl rfl rfl
theorem e_M_power {d : Nat} (x2 : Int32) (l0 : Int64) (h : AH) (Q : Option Value → AH → Prop) : Cl (d + 1) q_M_power [.long l0, .int x2] h Q ↔ Wp d P_M_power 0 [.long l0, .null, .int x2, .null, .null, .null] [] h (fun r h' => rtk (some .long) r = true ∧ Q r h') :=
    (Cl_method (t := m_M_power) rfl).trans (and_iff_right rfl)
/-! PenThatJumpsModel.choices(II)J -/
theorem b_M_choices_0 {d : Nat} (x0 x1 : Int32) (h : AH) (Q : Option Value → AH → Prop) : Wp d P_M_choices 0 [.int x0, .int x1, .null, .null, .null] [] h Q ↔ Wp d P_M_choices 4 [.int x0, .int x1, .long 1, .null, .int 0] [] h Q :=
    (r_go (j := 1) (L' := [.int x0, .int x1, .null, .null, .null]) (S' := [.long 1]) (h' := h) rfl rfl rfl rfl).trans <|
    (r_go (j := 2) (L' := [.int x0, .int x1, .long 1, .null, .null]) (S' := []) (h' := h) rfl rfl rfl rfl).trans <|
    (r_iconst (j := 3) (x := 0) rfl i32_0 rfl).trans <|
    r_go (j := 4) (L' := [.int x0, .int x1, .long 1, .null, .int 0]) (S' := []) (h' := h) rfl rfl rfl rfl
theorem b_M_choices_4 {d : Nat} (x0 x1 x4 : Int32) (l2 : Int64) (h : AH) (Q : Option Value → AH → Prop) : Wp d P_M_choices 4 [.int x0, .int x1, .long l2, .null, .int x4] [] h Q ↔ (x1 ≤ x4 → Wp d P_M_choices 21 [.int x0, .int x1, .long l2, .null, .int x4] [] h Q) ∧ (¬ (x1 ≤ x4) → Wp d P_M_choices 7 [.int x0, .int x1, .long l2, .null, .int x4] [] h Q) :=
    (r_go (j := 5) (L' := [.int x0, .int x1, .long l2, .null, .int x4]) (S' := [.int x4]) (h' := h) rfl rfl rfl rfl).trans <|
    (r_go (j := 6) (L' := [.int x0, .int x1, .long l2, .null, .int x4]) (S' := [.int x1, .int x4]) (h' := h) rfl rfl rfl rfl).trans <|
    r_icmp (j := 7) rfl (cd_ge _ _) rfl
theorem b_M_choices_7 {d : Nat} (x0 x1 x4 : Int32) (l2 : Int64) (h : AH) (Q : Option Value → AH → Prop) : Wp d P_M_choices 7 [.int x0, .int x1, .long l2, .null, .int x4] [] h Q ↔ (¬ (Int32.toInt64 (x4 + 1)) = 0) ∧ (Wp d P_M_choices 4 [.int x0, .int x1, .long ((l2 * (Int32.toInt64 (x0 - x4))) / (Int32.toInt64 (x4 + 1))), .null, .int (x4 + 1)] [] h Q) :=
    (r_go (j := 8) (L' := [.int x0, .int x1, .long l2, .null, .int x4]) (S' := [.long l2]) (h' := h) rfl rfl rfl rfl).trans <|
    (r_go (j := 9) (L' := [.int x0, .int x1, .long l2, .null, .int x4]) (S' := [.int x0, .long l2]) (h' := h) rfl rfl rfl rfl).trans <|
    (r_go (j := 10) (L' := [.int x0, .int x1, .long l2, .null, .int x4]) (S' := [.int x4, .int x0, .long l2]) (h' := h) rfl rfl rfl rfl).trans <|
    (r_go (j := 11) (L' := [.int x0, .int x1, .long l2, .null, .int x4]) (S' := [.int (x0 - x4), .long l2]) (h' := h) rfl rfl rfl rfl).trans <|
    (r_go (j := 12) (L' := [.int x0, .int x1, .long l2, .null, .int x4]) (S' := [.long (Int32.toInt64 (x0 - x4)), .long l2]) (h' := h) rfl rfl rfl rfl).trans <|
    (r_go (j := 13) (L' := [.int x0, .int x1, .long l2, .null, .int x4]) (S' := [.long (l2 * (Int32.toInt64 (x0 - x4)))]) (h' := h) rfl rfl rfl rfl).trans <|
    (r_go (j := 14) (L' := [.int x0, .int x1, .long l2, .null, .int x4]) (S' := [.int x4, .long (l2 * (Int32.toInt64 (x0 - x4)))]) (h' := h) rfl rfl rfl rfl).trans <|
    (r_iconst (j := 15) (x := 1) rfl i32_1 rfl).trans <|
    (r_go (j := 16) (L' := [.int x0, .int x1, .long l2, .null, .int x4]) (S' := [.int (x4 + 1), .long (l2 * (Int32.toInt64 (x0 - x4)))]) (h' := h) rfl rfl rfl rfl).trans <|
    (r_go (j := 17) (L' := [.int x0, .int x1, .long l2, .null, .int x4]) (S' := [.long (Int32.toInt64 (x4 + 1)), .long (l2 * (Int32.toInt64 (x0 - x4)))]) (h' := h) rfl rfl rfl rfl).trans <|
    (r_guard (j := 18) (L' := [.int x0, .int x1, .long l2, .null, .int x4]) (S' := [.long ((l2 * (Int32.toInt64 (x0 - x4))) / (Int32.toInt64 (x4 + 1)))]) (h' := h) (p := ¬ (Int32.toInt64 (x4 + 1)) = 0) rfl rfl rfl rfl (decide_eq_true_iff)).trans <| and_r <|
    (r_go (j := 19) (L' := [.int x0, .int x1, .long ((l2 * (Int32.toInt64 (x0 - x4))) / (Int32.toInt64 (x4 + 1))), .null, .int x4]) (S' := []) (h' := h) rfl rfl rfl rfl).trans <|
    (r_iinc (j := 20) (x := 1) (L' := [.int x0, .int x1, .long ((l2 * (Int32.toInt64 (x0 - x4))) / (Int32.toInt64 (x4 + 1))), .null, .int (x4 + 1)]) rfl rfl i32_1 rfl rfl).trans <|
    r_go (j := 4) (L' := [.int x0, .int x1, .long ((l2 * (Int32.toInt64 (x0 - x4))) / (Int32.toInt64 (x4 + 1))), .null, .int (x4 + 1)]) (S' := []) (h' := h) rfl rfl rfl rfl
theorem b_M_choices_21 {d : Nat} (x0 x1 x4 : Int32) (l2 : Int64) (h : AH) (Q : Option Value → AH → Prop) : Wp d P_M_choices 21 [.int x0, .int x1, .long l2, .null, .int x4] [] h Q ↔ Q (some (.long l2)) h :=
    (r_go (j := 22) (L' := [.int x0, .int x1, .long l2, .null, .int x4]) (S' := [.long l2]) (h' := h) rfl rfl rfl rfl).trans <|
    r_ret rfl rfl rfl
theorem e_M_choices {d : Nat} (x0 x1 : Int32) (h : AH) (Q : Option Value → AH → Prop) : Cl (d + 1) q_M_choices [.int x0, .int x1] h Q ↔ Wp d P_M_choices 0 [.int x0, .int x1, .null, .null, .null] [] h (fun r h' => rtk (some .long) r = true ∧ Q r h') :=
    (Cl_method (t := m_M_choices) rfl).trans (and_iff_right rfl)
/-! PenThatJumpsModel.odds(IIII)J -/
theorem b_M_odds_0 {d : Nat} (x1 x2 x3 x4 : Int32) (r0 : Nat) (h : AH) (Q : Option Value → AH → Prop) : Wp d P_M_odds 0 [.ref r0, .int x1, .int x2, .int x3, .int x4, .null, .null, .null] [] h Q ↔ (hK h r0 = 11) ∧ (Cl d q_M_within [.int x1, .int 1, .int 9] (sI h r0 0 0) (fun r h' => Wp d P_M_odds 7 [.ref r0, .int x1, .int x2, .int x3, .int x4, .null, .null, .null] (r.toList ++ []) h' Q)) :=
    (r_go (j := 1) (L' := [.ref r0, .int x1, .int x2, .int x3, .int x4, .null, .null, .null]) (S' := [.ref r0]) (h' := h) rfl rfl rfl rfl).trans <|
    (r_iconst (j := 2) (x := 0) rfl i32_0 rfl).trans <|
    (r_guard (j := 3) (L' := [.ref r0, .int x1, .int x2, .int x3, .int x4, .null, .null, .null]) (S' := []) (h' := (sI h r0 0 0)) (p := hK h r0 = 11) rfl rfl rfl rfl (pfI rfl)).trans <| and_r <|
    (r_go (j := 4) (L' := [.ref r0, .int x1, .int x2, .int x3, .int x4, .null, .null, .null]) (S' := [.int x1]) (h' := (sI h r0 0 0)) rfl rfl rfl rfl).trans <|
    (r_iconst (j := 5) (x := 1) rfl i32_1 rfl).trans <|
    (r_bipush (j := 6) (x := 9) rfl i32_9 rfl).trans <|
    r_call (j := 7) (a := [.int x1, .int 1, .int 9]) (S' := []) rfl rfl rfl rfl rfl rfl rfl
theorem b_M_odds_7 {d : Nat} (x1 x2 x3 x4 s0 : Int32) (r0 : Nat) (h : AH) (Q : Option Value → AH → Prop) : Wp d P_M_odds 7 [.ref r0, .int x1, .int x2, .int x3, .int x4, .null, .null, .null] [.int s0] h Q ↔ (s0 = 0 → Wp d P_M_odds 23 [.ref r0, .int x1, .int x2, .int x3, .int x4, .null, .null, .null] [] h Q) ∧ (¬ (s0 = 0) → Wp d P_M_odds 8 [.ref r0, .int x1, .int x2, .int x3, .int x4, .null, .null, .null] [] h Q) :=
    r_if (j := 8) rfl (cd_eq _ _) rfl
theorem b_M_odds_8 {d : Nat} (x1 x2 x3 x4 : Int32) (r0 : Nat) (h : AH) (Q : Option Value → AH → Prop) : Wp d P_M_odds 8 [.ref r0, .int x1, .int x2, .int x3, .int x4, .null, .null, .null] [] h Q ↔ Cl d q_M_within [.int x2, .int 2, .int 9] h (fun r h' => Wp d P_M_odds 12 [.ref r0, .int x1, .int x2, .int x3, .int x4, .null, .null, .null] (r.toList ++ []) h' Q) :=
    (r_go (j := 9) (L' := [.ref r0, .int x1, .int x2, .int x3, .int x4, .null, .null, .null]) (S' := [.int x2]) (h' := h) rfl rfl rfl rfl).trans <|
    (r_iconst (j := 10) (x := 2) rfl i32_2 rfl).trans <|
    (r_bipush (j := 11) (x := 9) rfl i32_9 rfl).trans <|
    r_call (j := 12) (a := [.int x2, .int 2, .int 9]) (S' := []) rfl rfl rfl rfl rfl rfl rfl
theorem b_M_odds_12 {d : Nat} (x1 x2 x3 x4 s0 : Int32) (r0 : Nat) (h : AH) (Q : Option Value → AH → Prop) : Wp d P_M_odds 12 [.ref r0, .int x1, .int x2, .int x3, .int x4, .null, .null, .null] [.int s0] h Q ↔ (s0 = 0 → Wp d P_M_odds 23 [.ref r0, .int x1, .int x2, .int x3, .int x4, .null, .null, .null] [] h Q) ∧ (¬ (s0 = 0) → Wp d P_M_odds 13 [.ref r0, .int x1, .int x2, .int x3, .int x4, .null, .null, .null] [] h Q) :=
    r_if (j := 13) rfl (cd_eq _ _) rfl
theorem b_M_odds_13 {d : Nat} (x1 x2 x3 x4 : Int32) (r0 : Nat) (h : AH) (Q : Option Value → AH → Prop) : Wp d P_M_odds 13 [.ref r0, .int x1, .int x2, .int x3, .int x4, .null, .null, .null] [] h Q ↔ Cl d q_M_within [.int x3, .int 0, .int x1] h (fun r h' => Wp d P_M_odds 17 [.ref r0, .int x1, .int x2, .int x3, .int x4, .null, .null, .null] (r.toList ++ []) h' Q) :=
    (r_go (j := 14) (L' := [.ref r0, .int x1, .int x2, .int x3, .int x4, .null, .null, .null]) (S' := [.int x3]) (h' := h) rfl rfl rfl rfl).trans <|
    (r_iconst (j := 15) (x := 0) rfl i32_0 rfl).trans <|
    (r_go (j := 16) (L' := [.ref r0, .int x1, .int x2, .int x3, .int x4, .null, .null, .null]) (S' := [.int x1, .int 0, .int x3]) (h' := h) rfl rfl rfl rfl).trans <|
    r_call (j := 17) (a := [.int x3, .int 0, .int x1]) (S' := []) rfl rfl rfl rfl rfl rfl rfl
theorem b_M_odds_17 {d : Nat} (x1 x2 x3 x4 s0 : Int32) (r0 : Nat) (h : AH) (Q : Option Value → AH → Prop) : Wp d P_M_odds 17 [.ref r0, .int x1, .int x2, .int x3, .int x4, .null, .null, .null] [.int s0] h Q ↔ (s0 = 0 → Wp d P_M_odds 23 [.ref r0, .int x1, .int x2, .int x3, .int x4, .null, .null, .null] [] h Q) ∧ (¬ (s0 = 0) → Wp d P_M_odds 18 [.ref r0, .int x1, .int x2, .int x3, .int x4, .null, .null, .null] [] h Q) :=
    r_if (j := 18) rfl (cd_eq _ _) rfl
theorem b_M_odds_18 {d : Nat} (x1 x2 x3 x4 : Int32) (r0 : Nat) (h : AH) (Q : Option Value → AH → Prop) : Wp d P_M_odds 18 [.ref r0, .int x1, .int x2, .int x3, .int x4, .null, .null, .null] [] h Q ↔ Cl d q_M_within [.int x4, .int 0, .int 1] h (fun r h' => Wp d P_M_odds 22 [.ref r0, .int x1, .int x2, .int x3, .int x4, .null, .null, .null] (r.toList ++ []) h' Q) :=
    (r_go (j := 19) (L' := [.ref r0, .int x1, .int x2, .int x3, .int x4, .null, .null, .null]) (S' := [.int x4]) (h' := h) rfl rfl rfl rfl).trans <|
    (r_iconst (j := 20) (x := 0) rfl i32_0 rfl).trans <|
    (r_iconst (j := 21) (x := 1) rfl i32_1 rfl).trans <|
    r_call (j := 22) (a := [.int x4, .int 0, .int 1]) (S' := []) rfl rfl rfl rfl rfl rfl rfl
theorem b_M_odds_22 {d : Nat} (x1 x2 x3 x4 s0 : Int32) (r0 : Nat) (h : AH) (Q : Option Value → AH → Prop) : Wp d P_M_odds 22 [.ref r0, .int x1, .int x2, .int x3, .int x4, .null, .null, .null] [.int s0] h Q ↔ (¬ s0 = 0 → Wp d P_M_odds 25 [.ref r0, .int x1, .int x2, .int x3, .int x4, .null, .null, .null] [] h Q) ∧ (¬ (¬ s0 = 0) → Wp d P_M_odds 23 [.ref r0, .int x1, .int x2, .int x3, .int x4, .null, .null, .null] [] h Q) :=
    r_if (j := 23) rfl (cd_ne _ _) rfl
theorem b_M_odds_23 {d : Nat} (x1 x2 x3 x4 : Int32) (r0 : Nat) (h : AH) (Q : Option Value → AH → Prop) : Wp d P_M_odds 23 [.ref r0, .int x1, .int x2, .int x3, .int x4, .null, .null, .null] [] h Q ↔ Q (some (.long (-1))) h :=
    (r_go (j := 24) (L' := [.ref r0, .int x1, .int x2, .int x3, .int x4, .null, .null, .null]) (S' := [.long (-1)]) (h' := h) rfl rfl rfl rfl).trans <|
    r_ret rfl rfl rfl
theorem b_M_odds_25 {d : Nat} (x1 x2 x3 x4 : Int32) (r0 : Nat) (h : AH) (Q : Option Value → AH → Prop) : Wp d P_M_odds 25 [.ref r0, .int x1, .int x2, .int x3, .int x4, .null, .null, .null] [] h Q ↔ Wp d P_M_odds 29 [.ref r0, .int x1, .int x2, .int x3, .int x4, .long 0, .null, .int x3] [] h Q :=
    (r_go (j := 26) (L' := [.ref r0, .int x1, .int x2, .int x3, .int x4, .null, .null, .null]) (S' := [.long 0]) (h' := h) rfl rfl rfl rfl).trans <|
    (r_go (j := 27) (L' := [.ref r0, .int x1, .int x2, .int x3, .int x4, .long 0, .null, .null]) (S' := []) (h' := h) rfl rfl rfl rfl).trans <|
    (r_go (j := 28) (L' := [.ref r0, .int x1, .int x2, .int x3, .int x4, .long 0, .null, .null]) (S' := [.int x3]) (h' := h) rfl rfl rfl rfl).trans <|
    r_go (j := 29) (L' := [.ref r0, .int x1, .int x2, .int x3, .int x4, .long 0, .null, .int x3]) (S' := []) (h' := h) rfl rfl rfl rfl
theorem b_M_odds_29 {d : Nat} (x1 x2 x3 x4 x7 : Int32) (l5 : Int64) (r0 : Nat) (h : AH) (Q : Option Value → AH → Prop) : Wp d P_M_odds 29 [.ref r0, .int x1, .int x2, .int x3, .int x4, .long l5, .null, .int x7] [] h Q ↔ (x1 < x7 → Wp d P_M_odds 49 [.ref r0, .int x1, .int x2, .int x3, .int x4, .long l5, .null, .int x7] [] h Q) ∧ (¬ (x1 < x7) → Wp d P_M_odds 32 [.ref r0, .int x1, .int x2, .int x3, .int x4, .long l5, .null, .int x7] [] h Q) :=
    (r_go (j := 30) (L' := [.ref r0, .int x1, .int x2, .int x3, .int x4, .long l5, .null, .int x7]) (S' := [.int x7]) (h' := h) rfl rfl rfl rfl).trans <|
    (r_go (j := 31) (L' := [.ref r0, .int x1, .int x2, .int x3, .int x4, .long l5, .null, .int x7]) (S' := [.int x1, .int x7]) (h' := h) rfl rfl rfl rfl).trans <|
    r_icmp (j := 32) rfl (cd_gt _ _) rfl
theorem b_M_odds_32 {d : Nat} (x1 x2 x3 x4 x7 : Int32) (l5 : Int64) (r0 : Nat) (h : AH) (Q : Option Value → AH → Prop) : Wp d P_M_odds 32 [.ref r0, .int x1, .int x2, .int x3, .int x4, .long l5, .null, .int x7] [] h Q ↔ Cl d q_M_choices [.int x1, .int x7] h (fun r h' => Wp d P_M_odds 36 [.ref r0, .int x1, .int x2, .int x3, .int x4, .long l5, .null, .int x7] (r.toList ++ [.long l5]) h' Q) :=
    (r_go (j := 33) (L' := [.ref r0, .int x1, .int x2, .int x3, .int x4, .long l5, .null, .int x7]) (S' := [.long l5]) (h' := h) rfl rfl rfl rfl).trans <|
    (r_go (j := 34) (L' := [.ref r0, .int x1, .int x2, .int x3, .int x4, .long l5, .null, .int x7]) (S' := [.int x1, .long l5]) (h' := h) rfl rfl rfl rfl).trans <|
    (r_go (j := 35) (L' := [.ref r0, .int x1, .int x2, .int x3, .int x4, .long l5, .null, .int x7]) (S' := [.int x7, .int x1, .long l5]) (h' := h) rfl rfl rfl rfl).trans <|
    r_call (j := 36) (a := [.int x1, .int x7]) (S' := [.long l5]) rfl rfl rfl rfl rfl rfl rfl
theorem b_M_odds_36 {d : Nat} (x1 x2 x3 x4 x7 : Int32) (l5 k0 k1 : Int64) (r0 : Nat) (h : AH) (Q : Option Value → AH → Prop) : Wp d P_M_odds 36 [.ref r0, .int x1, .int x2, .int x3, .int x4, .long l5, .null, .int x7] [.long k0, .long k1] h Q ↔ Cl d q_M_power [.long ((Int32.toInt64 x2) - 1), .int (x1 - x7)] h (fun r h' => Wp d P_M_odds 44 [.ref r0, .int x1, .int x2, .int x3, .int x4, .long l5, .null, .int x7] (r.toList ++ [.long k0, .long k1]) h' Q) :=
    (r_go (j := 37) (L' := [.ref r0, .int x1, .int x2, .int x3, .int x4, .long l5, .null, .int x7]) (S' := [.int x2, .long k0, .long k1]) (h' := h) rfl rfl rfl rfl).trans <|
    (r_go (j := 38) (L' := [.ref r0, .int x1, .int x2, .int x3, .int x4, .long l5, .null, .int x7]) (S' := [.long (Int32.toInt64 x2), .long k0, .long k1]) (h' := h) rfl rfl rfl rfl).trans <|
    (r_go (j := 39) (L' := [.ref r0, .int x1, .int x2, .int x3, .int x4, .long l5, .null, .int x7]) (S' := [.long 1, .long (Int32.toInt64 x2), .long k0, .long k1]) (h' := h) rfl rfl rfl rfl).trans <|
    (r_go (j := 40) (L' := [.ref r0, .int x1, .int x2, .int x3, .int x4, .long l5, .null, .int x7]) (S' := [.long ((Int32.toInt64 x2) - 1), .long k0, .long k1]) (h' := h) rfl rfl rfl rfl).trans <|
    (r_go (j := 41) (L' := [.ref r0, .int x1, .int x2, .int x3, .int x4, .long l5, .null, .int x7]) (S' := [.int x1, .long ((Int32.toInt64 x2) - 1), .long k0, .long k1]) (h' := h) rfl rfl rfl rfl).trans <|
    (r_go (j := 42) (L' := [.ref r0, .int x1, .int x2, .int x3, .int x4, .long l5, .null, .int x7]) (S' := [.int x7, .int x1, .long ((Int32.toInt64 x2) - 1), .long k0, .long k1]) (h' := h) rfl rfl rfl rfl).trans <|
    (r_go (j := 43) (L' := [.ref r0, .int x1, .int x2, .int x3, .int x4, .long l5, .null, .int x7]) (S' := [.int (x1 - x7), .long ((Int32.toInt64 x2) - 1), .long k0, .long k1]) (h' := h) rfl rfl rfl rfl).trans <|
    r_call (j := 44) (a := [.long ((Int32.toInt64 x2) - 1), .int (x1 - x7)]) (S' := [.long k0, .long k1]) rfl rfl rfl rfl rfl rfl rfl
theorem b_M_odds_44 {d : Nat} (x1 x2 x3 x4 x7 : Int32) (l5 k0 k1 k2 : Int64) (r0 : Nat) (h : AH) (Q : Option Value → AH → Prop) : Wp d P_M_odds 44 [.ref r0, .int x1, .int x2, .int x3, .int x4, .long l5, .null, .int x7] [.long k0, .long k1, .long k2] h Q ↔ Wp d P_M_odds 29 [.ref r0, .int x1, .int x2, .int x3, .int x4, .long (k2 + (k1 * k0)), .null, .int (x7 + 1)] [] h Q :=
    (r_go (j := 45) (L' := [.ref r0, .int x1, .int x2, .int x3, .int x4, .long l5, .null, .int x7]) (S' := [.long (k1 * k0), .long k2]) (h' := h) rfl rfl rfl rfl).trans <|
    (r_go (j := 46) (L' := [.ref r0, .int x1, .int x2, .int x3, .int x4, .long l5, .null, .int x7]) (S' := [.long (k2 + (k1 * k0))]) (h' := h) rfl rfl rfl rfl).trans <|
    (r_go (j := 47) (L' := [.ref r0, .int x1, .int x2, .int x3, .int x4, .long (k2 + (k1 * k0)), .null, .int x7]) (S' := []) (h' := h) rfl rfl rfl rfl).trans <|
    (r_iinc (j := 48) (x := 1) (L' := [.ref r0, .int x1, .int x2, .int x3, .int x4, .long (k2 + (k1 * k0)), .null, .int (x7 + 1)]) rfl rfl i32_1 rfl rfl).trans <|
    r_go (j := 29) (L' := [.ref r0, .int x1, .int x2, .int x3, .int x4, .long (k2 + (k1 * k0)), .null, .int (x7 + 1)]) (S' := []) (h' := h) rfl rfl rfl rfl
theorem b_M_odds_49 {d : Nat} (x1 x2 x3 x4 x7 : Int32) (l5 : Int64) (r0 : Nat) (h : AH) (Q : Option Value → AH → Prop) : Wp d P_M_odds 49 [.ref r0, .int x1, .int x2, .int x3, .int x4, .long l5, .null, .int x7] [] h Q ↔ Cl d q_M_power [.long (Int32.toInt64 x2), .int x1] h (fun r h' => Wp d P_M_odds 54 [.ref r0, .int x1, .int x2, .int x3, .int x4, .long l5, .null, .int x7] (r.toList ++ [.long l5]) h' Q) :=
    (r_go (j := 50) (L' := [.ref r0, .int x1, .int x2, .int x3, .int x4, .long l5, .null, .int x7]) (S' := [.long l5]) (h' := h) rfl rfl rfl rfl).trans <|
    (r_go (j := 51) (L' := [.ref r0, .int x1, .int x2, .int x3, .int x4, .long l5, .null, .int x7]) (S' := [.int x2, .long l5]) (h' := h) rfl rfl rfl rfl).trans <|
    (r_go (j := 52) (L' := [.ref r0, .int x1, .int x2, .int x3, .int x4, .long l5, .null, .int x7]) (S' := [.long (Int32.toInt64 x2), .long l5]) (h' := h) rfl rfl rfl rfl).trans <|
    (r_go (j := 53) (L' := [.ref r0, .int x1, .int x2, .int x3, .int x4, .long l5, .null, .int x7]) (S' := [.int x1, .long (Int32.toInt64 x2), .long l5]) (h' := h) rfl rfl rfl rfl).trans <|
    r_call (j := 54) (a := [.long (Int32.toInt64 x2), .int x1]) (S' := [.long l5]) rfl rfl rfl rfl rfl rfl rfl
theorem b_M_odds_54 {d : Nat} (x1 x2 x3 x4 x7 : Int32) (l5 k0 k1 : Int64) (r0 : Nat) (h : AH) (Q : Option Value → AH → Prop) : Wp d P_M_odds 54 [.ref r0, .int x1, .int x2, .int x3, .int x4, .long l5, .null, .int x7] [.long k0, .long k1] h Q ↔ Cl d q_M_lowest [.long k1, .long k0, .int x4] h (fun r h' => Wp d P_M_odds 56 [.ref r0, .int x1, .int x2, .int x3, .int x4, .long l5, .null, .int x7] (r.toList ++ []) h' Q) :=
    (r_go (j := 55) (L' := [.ref r0, .int x1, .int x2, .int x3, .int x4, .long l5, .null, .int x7]) (S' := [.int x4, .long k0, .long k1]) (h' := h) rfl rfl rfl rfl).trans <|
    r_call (j := 56) (a := [.long k1, .long k0, .int x4]) (S' := []) rfl rfl rfl rfl rfl rfl rfl
theorem b_M_odds_56 {d : Nat} (x1 x2 x3 x4 x7 : Int32) (l5 k0 : Int64) (r0 : Nat) (h : AH) (Q : Option Value → AH → Prop) : Wp d P_M_odds 56 [.ref r0, .int x1, .int x2, .int x3, .int x4, .long l5, .null, .int x7] [.long k0] h Q ↔ Q (some (.long k0)) h :=
    r_ret rfl rfl rfl
theorem e_M_odds {d : Nat} (x1 x2 x3 x4 : Int32) (r0 : Nat) (h : AH) (Q : Option Value → AH → Prop) : Cl (d + 1) q_M_odds [.ref r0, .int x1, .int x2, .int x3, .int x4] h Q ↔ hK h r0 = 11 ∧ Wp d P_M_odds 0 [.ref r0, .int x1, .int x2, .int x3, .int x4, .null, .null, .null] [] h (fun r h' => rtk (some .long) r = true ∧ Q r h') :=
    (Cl_method (t := m_M_odds) rfl).trans (and_congr_left fun _ => decide_eq_true_iff)
/-! PenThatJumpsModel.items(II)I -/
theorem b_M_items_0 {d : Nat} (x1 x2 : Int32) (r0 : Nat) (h : AH) (Q : Option Value → AH → Prop) : Wp d P_M_items 0 [.ref r0, .int x1, .int x2, .null] [] h Q ↔ (hK h r0 = 11) ∧ (Cl d q_M_within [.int x1, .int 2, .int 9] (sI h r0 0 0) (fun r h' => Wp d P_M_items 7 [.ref r0, .int x1, .int x2, .null] (r.toList ++ []) h' Q)) :=
    (r_go (j := 1) (L' := [.ref r0, .int x1, .int x2, .null]) (S' := [.ref r0]) (h' := h) rfl rfl rfl rfl).trans <|
    (r_iconst (j := 2) (x := 0) rfl i32_0 rfl).trans <|
    (r_guard (j := 3) (L' := [.ref r0, .int x1, .int x2, .null]) (S' := []) (h' := (sI h r0 0 0)) (p := hK h r0 = 11) rfl rfl rfl rfl (pfI rfl)).trans <| and_r <|
    (r_go (j := 4) (L' := [.ref r0, .int x1, .int x2, .null]) (S' := [.int x1]) (h' := (sI h r0 0 0)) rfl rfl rfl rfl).trans <|
    (r_iconst (j := 5) (x := 2) rfl i32_2 rfl).trans <|
    (r_bipush (j := 6) (x := 9) rfl i32_9 rfl).trans <|
    r_call (j := 7) (a := [.int x1, .int 2, .int 9]) (S' := []) rfl rfl rfl rfl rfl rfl rfl
theorem b_M_items_7 {d : Nat} (x1 x2 s0 : Int32) (r0 : Nat) (h : AH) (Q : Option Value → AH → Prop) : Wp d P_M_items 7 [.ref r0, .int x1, .int x2, .null] [.int s0] h Q ↔ (s0 = 0 → Wp d P_M_items 13 [.ref r0, .int x1, .int x2, .null] [] h Q) ∧ (¬ (s0 = 0) → Wp d P_M_items 8 [.ref r0, .int x1, .int x2, .null] [] h Q) :=
    r_if (j := 8) rfl (cd_eq _ _) rfl
theorem b_M_items_8 {d : Nat} (x1 x2 : Int32) (r0 : Nat) (h : AH) (Q : Option Value → AH → Prop) : Wp d P_M_items 8 [.ref r0, .int x1, .int x2, .null] [] h Q ↔ Cl d q_M_within [.int x2, .int 1, .int 999999999] h (fun r h' => Wp d P_M_items 12 [.ref r0, .int x1, .int x2, .null] (r.toList ++ []) h' Q) :=
    (r_go (j := 9) (L' := [.ref r0, .int x1, .int x2, .null]) (S' := [.int x2]) (h' := h) rfl rfl rfl rfl).trans <|
    (r_iconst (j := 10) (x := 1) rfl i32_1 rfl).trans <|
    (r_go (j := 11) (L' := [.ref r0, .int x1, .int x2, .null]) (S' := [.int 999999999, .int 1, .int x2]) (h' := h) rfl rfl rfl rfl).trans <|
    r_call (j := 12) (a := [.int x2, .int 1, .int 999999999]) (S' := []) rfl rfl rfl rfl rfl rfl rfl
theorem b_M_items_12 {d : Nat} (x1 x2 s0 : Int32) (r0 : Nat) (h : AH) (Q : Option Value → AH → Prop) : Wp d P_M_items 12 [.ref r0, .int x1, .int x2, .null] [.int s0] h Q ↔ (¬ s0 = 0 → Wp d P_M_items 15 [.ref r0, .int x1, .int x2, .null] [] h Q) ∧ (¬ (¬ s0 = 0) → Wp d P_M_items 13 [.ref r0, .int x1, .int x2, .null] [] h Q) :=
    r_if (j := 13) rfl (cd_ne _ _) rfl
theorem b_M_items_13 {d : Nat} (x1 x2 : Int32) (r0 : Nat) (h : AH) (Q : Option Value → AH → Prop) : Wp d P_M_items 13 [.ref r0, .int x1, .int x2, .null] [] h Q ↔ Q (some (.int (-1))) h :=
    (r_iconst (j := 14) (x := (-1)) rfl i32_m1 rfl).trans <|
    r_ret rfl rfl rfl
theorem b_M_items_15 {d : Nat} (x1 x2 : Int32) (r0 : Nat) (h : AH) (Q : Option Value → AH → Prop) : Wp d P_M_items 15 [.ref r0, .int x1, .int x2, .null] [] h Q ↔ Wp d P_M_items 17 [.ref r0, .int x1, .int x2, .int 1] [] h Q :=
    (r_iconst (j := 16) (x := 1) rfl i32_1 rfl).trans <|
    r_go (j := 17) (L' := [.ref r0, .int x1, .int x2, .int 1]) (S' := []) (h' := h) rfl rfl rfl rfl
theorem b_M_items_17 {d : Nat} (x1 x2 x3 : Int32) (r0 : Nat) (h : AH) (Q : Option Value → AH → Prop) : Wp d P_M_items 17 [.ref r0, .int x1, .int x2, .int x3] [] h Q ↔ (9 < x3 → Wp d P_M_items 32 [.ref r0, .int x1, .int x2, .int x3] [] h Q) ∧ (¬ (9 < x3) → Wp d P_M_items 20 [.ref r0, .int x1, .int x2, .int x3] [] h Q) :=
    (r_go (j := 18) (L' := [.ref r0, .int x1, .int x2, .int x3]) (S' := [.int x3]) (h' := h) rfl rfl rfl rfl).trans <|
    (r_bipush (j := 19) (x := 9) rfl i32_9 rfl).trans <|
    r_icmp (j := 20) rfl (cd_gt _ _) rfl
theorem b_M_items_20 {d : Nat} (x1 x2 x3 : Int32) (r0 : Nat) (h : AH) (Q : Option Value → AH → Prop) : Wp d P_M_items 20 [.ref r0, .int x1, .int x2, .int x3] [] h Q ↔ Cl d q_M_power [.long (Int32.toInt64 x1), .int x3] h (fun r h' => Wp d P_M_items 24 [.ref r0, .int x1, .int x2, .int x3] (r.toList ++ []) h' Q) :=
    (r_go (j := 21) (L' := [.ref r0, .int x1, .int x2, .int x3]) (S' := [.int x1]) (h' := h) rfl rfl rfl rfl).trans <|
    (r_go (j := 22) (L' := [.ref r0, .int x1, .int x2, .int x3]) (S' := [.long (Int32.toInt64 x1)]) (h' := h) rfl rfl rfl rfl).trans <|
    (r_go (j := 23) (L' := [.ref r0, .int x1, .int x2, .int x3]) (S' := [.int x3, .long (Int32.toInt64 x1)]) (h' := h) rfl rfl rfl rfl).trans <|
    r_call (j := 24) (a := [.long (Int32.toInt64 x1), .int x3]) (S' := []) rfl rfl rfl rfl rfl rfl rfl
theorem b_M_items_24 {d : Nat} (x1 x2 x3 : Int32) (k0 : Int64) (r0 : Nat) (h : AH) (Q : Option Value → AH → Prop) : Wp d P_M_items 24 [.ref r0, .int x1, .int x2, .int x3] [.long k0] h Q ↔ ((lg_cmp k0 (Int32.toInt64 x2)) < 0 → Wp d P_M_items 30 [.ref r0, .int x1, .int x2, .int x3] [] h Q) ∧ (¬ ((lg_cmp k0 (Int32.toInt64 x2)) < 0) → Wp d P_M_items 28 [.ref r0, .int x1, .int x2, .int x3] [] h Q) :=
    (r_go (j := 25) (L' := [.ref r0, .int x1, .int x2, .int x3]) (S' := [.int x2, .long k0]) (h' := h) rfl rfl rfl rfl).trans <|
    (r_go (j := 26) (L' := [.ref r0, .int x1, .int x2, .int x3]) (S' := [.long (Int32.toInt64 x2), .long k0]) (h' := h) rfl rfl rfl rfl).trans <|
    (r_go (j := 27) (L' := [.ref r0, .int x1, .int x2, .int x3]) (S' := [.int (lg_cmp k0 (Int32.toInt64 x2))]) (h' := h) rfl rfl rfl rfl).trans <|
    r_if (j := 28) rfl (cd_lt _ _) rfl
theorem b_M_items_28 {d : Nat} (x1 x2 x3 : Int32) (r0 : Nat) (h : AH) (Q : Option Value → AH → Prop) : Wp d P_M_items 28 [.ref r0, .int x1, .int x2, .int x3] [] h Q ↔ Q (some (.int x3)) h :=
    (r_go (j := 29) (L' := [.ref r0, .int x1, .int x2, .int x3]) (S' := [.int x3]) (h' := h) rfl rfl rfl rfl).trans <|
    r_ret rfl rfl rfl
theorem b_M_items_30 {d : Nat} (x1 x2 x3 : Int32) (r0 : Nat) (h : AH) (Q : Option Value → AH → Prop) : Wp d P_M_items 30 [.ref r0, .int x1, .int x2, .int x3] [] h Q ↔ Wp d P_M_items 17 [.ref r0, .int x1, .int x2, .int (x3 + 1)] [] h Q :=
    (r_iinc (j := 31) (x := 1) (L' := [.ref r0, .int x1, .int x2, .int (x3 + 1)]) rfl rfl i32_1 rfl rfl).trans <|
    r_go (j := 17) (L' := [.ref r0, .int x1, .int x2, .int (x3 + 1)]) (S' := []) (h' := h) rfl rfl rfl rfl
theorem b_M_items_32 {d : Nat} (x1 x2 x3 : Int32) (r0 : Nat) (h : AH) (Q : Option Value → AH → Prop) : Wp d P_M_items 32 [.ref r0, .int x1, .int x2, .int x3] [] h Q ↔ Q (some (.int (-1))) h :=
    (r_iconst (j := 33) (x := (-1)) rfl i32_m1 rfl).trans <|
    r_ret rfl rfl rfl
theorem e_M_items {d : Nat} (x1 x2 : Int32) (r0 : Nat) (h : AH) (Q : Option Value → AH → Prop) : Cl (d + 1) q_M_items [.ref r0, .int x1, .int x2] h Q ↔ hK h r0 = 11 ∧ Wp d P_M_items 0 [.ref r0, .int x1, .int x2, .null] [] h (fun r h' => rtk (some .int) r = true ∧ Q r h') :=
    (Cl_method (t := m_M_items) rfl).trans (and_congr_left fun _ => decide_eq_true_iff)
/-! PenThatJumpsModel.named(IIIIIII)J -/
theorem b_M_named_0 {d : Nat} (x1 x2 x3 x4 x5 x6 x7 : Int32) (r0 : Nat) (h : AH) (Q : Option Value → AH → Prop) : Wp d P_M_named 0 [.ref r0, .int x1, .int x2, .int x3, .int x4, .int x5, .int x6, .int x7, .null, .null, .null, .null] [] h Q ↔ (hK h r0 = 11) ∧ (Cl d q_M_within [.int x1, .int 1, .int 9999] (sI h r0 0 0) (fun r h' => Wp d P_M_named 7 [.ref r0, .int x1, .int x2, .int x3, .int x4, .int x5, .int x6, .int x7, .null, .null, .null, .null] (r.toList ++ []) h' Q)) :=
    (r_go (j := 1) (L' := [.ref r0, .int x1, .int x2, .int x3, .int x4, .int x5, .int x6, .int x7, .null, .null, .null, .null]) (S' := [.ref r0]) (h' := h) rfl rfl rfl rfl).trans <|
    (r_iconst (j := 2) (x := 0) rfl i32_0 rfl).trans <|
    (r_guard (j := 3) (L' := [.ref r0, .int x1, .int x2, .int x3, .int x4, .int x5, .int x6, .int x7, .null, .null, .null, .null]) (S' := []) (h' := (sI h r0 0 0)) (p := hK h r0 = 11) rfl rfl rfl rfl (pfI rfl)).trans <| and_r <|
    (r_go (j := 4) (L' := [.ref r0, .int x1, .int x2, .int x3, .int x4, .int x5, .int x6, .int x7, .null, .null, .null, .null]) (S' := [.int x1]) (h' := (sI h r0 0 0)) rfl rfl rfl rfl).trans <|
    (r_iconst (j := 5) (x := 1) rfl i32_1 rfl).trans <|
    (r_sipush (j := 6) (x := 9999) rfl i32_9999 rfl).trans <|
    r_call (j := 7) (a := [.int x1, .int 1, .int 9999]) (S' := []) rfl rfl rfl rfl rfl rfl rfl
theorem b_M_named_7 {d : Nat} (x1 x2 x3 x4 x5 x6 x7 s0 : Int32) (r0 : Nat) (h : AH) (Q : Option Value → AH → Prop) : Wp d P_M_named 7 [.ref r0, .int x1, .int x2, .int x3, .int x4, .int x5, .int x6, .int x7, .null, .null, .null, .null] [.int s0] h Q ↔ (s0 = 0 → Wp d P_M_named 25 [.ref r0, .int x1, .int x2, .int x3, .int x4, .int x5, .int x6, .int x7, .null, .null, .null, .null] [] h Q) ∧ (¬ (s0 = 0) → Wp d P_M_named 8 [.ref r0, .int x1, .int x2, .int x3, .int x4, .int x5, .int x6, .int x7, .null, .null, .null, .null] [] h Q) :=
    r_if (j := 8) rfl (cd_eq _ _) rfl
theorem b_M_named_8 {d : Nat} (x1 x2 x3 x4 x5 x6 x7 : Int32) (r0 : Nat) (h : AH) (Q : Option Value → AH → Prop) : Wp d P_M_named 8 [.ref r0, .int x1, .int x2, .int x3, .int x4, .int x5, .int x6, .int x7, .null, .null, .null, .null] [] h Q ↔ Cl d q_M_within [.int x2, .int 0, .int x1] h (fun r h' => Wp d P_M_named 12 [.ref r0, .int x1, .int x2, .int x3, .int x4, .int x5, .int x6, .int x7, .null, .null, .null, .null] (r.toList ++ []) h' Q) :=
    (r_go (j := 9) (L' := [.ref r0, .int x1, .int x2, .int x3, .int x4, .int x5, .int x6, .int x7, .null, .null, .null, .null]) (S' := [.int x2]) (h' := h) rfl rfl rfl rfl).trans <|
    (r_iconst (j := 10) (x := 0) rfl i32_0 rfl).trans <|
    (r_go (j := 11) (L' := [.ref r0, .int x1, .int x2, .int x3, .int x4, .int x5, .int x6, .int x7, .null, .null, .null, .null]) (S' := [.int x1, .int 0, .int x2]) (h' := h) rfl rfl rfl rfl).trans <|
    r_call (j := 12) (a := [.int x2, .int 0, .int x1]) (S' := []) rfl rfl rfl rfl rfl rfl rfl
theorem b_M_named_12 {d : Nat} (x1 x2 x3 x4 x5 x6 x7 s0 : Int32) (r0 : Nat) (h : AH) (Q : Option Value → AH → Prop) : Wp d P_M_named 12 [.ref r0, .int x1, .int x2, .int x3, .int x4, .int x5, .int x6, .int x7, .null, .null, .null, .null] [.int s0] h Q ↔ (s0 = 0 → Wp d P_M_named 25 [.ref r0, .int x1, .int x2, .int x3, .int x4, .int x5, .int x6, .int x7, .null, .null, .null, .null] [] h Q) ∧ (¬ (s0 = 0) → Wp d P_M_named 13 [.ref r0, .int x1, .int x2, .int x3, .int x4, .int x5, .int x6, .int x7, .null, .null, .null, .null] [] h Q) :=
    r_if (j := 13) rfl (cd_eq _ _) rfl
theorem b_M_named_13 {d : Nat} (x1 x2 x3 x4 x5 x6 x7 : Int32) (r0 : Nat) (h : AH) (Q : Option Value → AH → Prop) : Wp d P_M_named 13 [.ref r0, .int x1, .int x2, .int x3, .int x4, .int x5, .int x6, .int x7, .null, .null, .null, .null] [] h Q ↔ Cl d q_M_areRates [.ref r0, .int x3, .int x4, .int x5, .int x6] h (fun r h' => Wp d P_M_named 19 [.ref r0, .int x1, .int x2, .int x3, .int x4, .int x5, .int x6, .int x7, .null, .null, .null, .null] (r.toList ++ []) h' Q) :=
    (r_go (j := 14) (L' := [.ref r0, .int x1, .int x2, .int x3, .int x4, .int x5, .int x6, .int x7, .null, .null, .null, .null]) (S' := [.ref r0]) (h' := h) rfl rfl rfl rfl).trans <|
    (r_go (j := 15) (L' := [.ref r0, .int x1, .int x2, .int x3, .int x4, .int x5, .int x6, .int x7, .null, .null, .null, .null]) (S' := [.int x3, .ref r0]) (h' := h) rfl rfl rfl rfl).trans <|
    (r_go (j := 16) (L' := [.ref r0, .int x1, .int x2, .int x3, .int x4, .int x5, .int x6, .int x7, .null, .null, .null, .null]) (S' := [.int x4, .int x3, .ref r0]) (h' := h) rfl rfl rfl rfl).trans <|
    (r_go (j := 17) (L' := [.ref r0, .int x1, .int x2, .int x3, .int x4, .int x5, .int x6, .int x7, .null, .null, .null, .null]) (S' := [.int x5, .int x4, .int x3, .ref r0]) (h' := h) rfl rfl rfl rfl).trans <|
    (r_go (j := 18) (L' := [.ref r0, .int x1, .int x2, .int x3, .int x4, .int x5, .int x6, .int x7, .null, .null, .null, .null]) (S' := [.int x6, .int x5, .int x4, .int x3, .ref r0]) (h' := h) rfl rfl rfl rfl).trans <|
    r_call (j := 19) (a := [.ref r0, .int x3, .int x4, .int x5, .int x6]) (S' := []) rfl rfl rfl rfl rfl rfl rfl
theorem b_M_named_19 {d : Nat} (x1 x2 x3 x4 x5 x6 x7 s0 : Int32) (r0 : Nat) (h : AH) (Q : Option Value → AH → Prop) : Wp d P_M_named 19 [.ref r0, .int x1, .int x2, .int x3, .int x4, .int x5, .int x6, .int x7, .null, .null, .null, .null] [.int s0] h Q ↔ (s0 = 0 → Wp d P_M_named 25 [.ref r0, .int x1, .int x2, .int x3, .int x4, .int x5, .int x6, .int x7, .null, .null, .null, .null] [] h Q) ∧ (¬ (s0 = 0) → Wp d P_M_named 20 [.ref r0, .int x1, .int x2, .int x3, .int x4, .int x5, .int x6, .int x7, .null, .null, .null, .null] [] h Q) :=
    r_if (j := 20) rfl (cd_eq _ _) rfl
theorem b_M_named_20 {d : Nat} (x1 x2 x3 x4 x5 x6 x7 : Int32) (r0 : Nat) (h : AH) (Q : Option Value → AH → Prop) : Wp d P_M_named 20 [.ref r0, .int x1, .int x2, .int x3, .int x4, .int x5, .int x6, .int x7, .null, .null, .null, .null] [] h Q ↔ Cl d q_M_within [.int x7, .int 0, .int 1] h (fun r h' => Wp d P_M_named 24 [.ref r0, .int x1, .int x2, .int x3, .int x4, .int x5, .int x6, .int x7, .null, .null, .null, .null] (r.toList ++ []) h' Q) :=
    (r_go (j := 21) (L' := [.ref r0, .int x1, .int x2, .int x3, .int x4, .int x5, .int x6, .int x7, .null, .null, .null, .null]) (S' := [.int x7]) (h' := h) rfl rfl rfl rfl).trans <|
    (r_iconst (j := 22) (x := 0) rfl i32_0 rfl).trans <|
    (r_iconst (j := 23) (x := 1) rfl i32_1 rfl).trans <|
    r_call (j := 24) (a := [.int x7, .int 0, .int 1]) (S' := []) rfl rfl rfl rfl rfl rfl rfl
theorem b_M_named_24 {d : Nat} (x1 x2 x3 x4 x5 x6 x7 s0 : Int32) (r0 : Nat) (h : AH) (Q : Option Value → AH → Prop) : Wp d P_M_named 24 [.ref r0, .int x1, .int x2, .int x3, .int x4, .int x5, .int x6, .int x7, .null, .null, .null, .null] [.int s0] h Q ↔ (¬ s0 = 0 → Wp d P_M_named 27 [.ref r0, .int x1, .int x2, .int x3, .int x4, .int x5, .int x6, .int x7, .null, .null, .null, .null] [] h Q) ∧ (¬ (¬ s0 = 0) → Wp d P_M_named 25 [.ref r0, .int x1, .int x2, .int x3, .int x4, .int x5, .int x6, .int x7, .null, .null, .null, .null] [] h Q) :=
    r_if (j := 25) rfl (cd_ne _ _) rfl
theorem b_M_named_25 {d : Nat} (x1 x2 x3 x4 x5 x6 x7 : Int32) (r0 : Nat) (h : AH) (Q : Option Value → AH → Prop) : Wp d P_M_named 25 [.ref r0, .int x1, .int x2, .int x3, .int x4, .int x5, .int x6, .int x7, .null, .null, .null, .null] [] h Q ↔ Q (some (.long (-1))) h :=
    (r_go (j := 26) (L' := [.ref r0, .int x1, .int x2, .int x3, .int x4, .int x5, .int x6, .int x7, .null, .null, .null, .null]) (S' := [.long (-1)]) (h' := h) rfl rfl rfl rfl).trans <|
    r_ret rfl rfl rfl
theorem b_M_named_27 {d : Nat} (x1 x2 x3 x4 x5 x6 x7 : Int32) (r0 : Nat) (h : AH) (Q : Option Value → AH → Prop) : Wp d P_M_named 27 [.ref r0, .int x1, .int x2, .int x3, .int x4, .int x5, .int x6, .int x7, .null, .null, .null, .null] [] h Q ↔ Cl d q_M_findRates [.ref r0, .int x3, .int x4, .int x5, .int x6] h (fun r h' => Wp d P_M_named 33 [.ref r0, .int x1, .int x2, .int x3, .int x4, .int x5, .int x6, .int x7, .null, .null, .null, .null] (r.toList ++ []) h' Q) :=
    (r_go (j := 28) (L' := [.ref r0, .int x1, .int x2, .int x3, .int x4, .int x5, .int x6, .int x7, .null, .null, .null, .null]) (S' := [.ref r0]) (h' := h) rfl rfl rfl rfl).trans <|
    (r_go (j := 29) (L' := [.ref r0, .int x1, .int x2, .int x3, .int x4, .int x5, .int x6, .int x7, .null, .null, .null, .null]) (S' := [.int x3, .ref r0]) (h' := h) rfl rfl rfl rfl).trans <|
    (r_go (j := 30) (L' := [.ref r0, .int x1, .int x2, .int x3, .int x4, .int x5, .int x6, .int x7, .null, .null, .null, .null]) (S' := [.int x4, .int x3, .ref r0]) (h' := h) rfl rfl rfl rfl).trans <|
    (r_go (j := 31) (L' := [.ref r0, .int x1, .int x2, .int x3, .int x4, .int x5, .int x6, .int x7, .null, .null, .null, .null]) (S' := [.int x5, .int x4, .int x3, .ref r0]) (h' := h) rfl rfl rfl rfl).trans <|
    (r_go (j := 32) (L' := [.ref r0, .int x1, .int x2, .int x3, .int x4, .int x5, .int x6, .int x7, .null, .null, .null, .null]) (S' := [.int x6, .int x5, .int x4, .int x3, .ref r0]) (h' := h) rfl rfl rfl rfl).trans <|
    r_call (j := 33) (a := [.ref r0, .int x3, .int x4, .int x5, .int x6]) (S' := []) rfl rfl rfl rfl rfl rfl rfl
theorem b_M_named_33 {d : Nat} (x1 x2 x3 x4 x5 x6 x7 : Int32) (r0 : Nat) (h : AH) (Q : Option Value → AH → Prop) : Wp d P_M_named 33 [.ref r0, .int x1, .int x2, .int x3, .int x4, .int x5, .int x6, .int x7, .null, .null, .null, .null] [] h Q ↔ (hK h r0 = 11) ∧ ((hK h (hR h r0 36) ∈ [20, 44] ∧ ixo 1 (hN h (hR h r0 36)) = true) ∧ (((hI h (hR h r0 36) (Int32.toNatClampNeg 1)) = 0 → Wp d P_M_named 43 [.ref r0, .int x1, .int x2, .int x3, .int x4, .int x5, .int x6, .int x7, .null, .null, .null, .null] [] h Q) ∧ (¬ ((hI h (hR h r0 36) (Int32.toNatClampNeg 1)) = 0) → Wp d P_M_named 38 [.ref r0, .int x1, .int x2, .int x3, .int x4, .int x5, .int x6, .int x7, .null, .null, .null, .null] [] h Q))) :=
    (r_go (j := 34) (L' := [.ref r0, .int x1, .int x2, .int x3, .int x4, .int x5, .int x6, .int x7, .null, .null, .null, .null]) (S' := [.ref r0]) (h' := h) rfl rfl rfl rfl).trans <|
    (r_guard (j := 35) (L' := [.ref r0, .int x1, .int x2, .int x3, .int x4, .int x5, .int x6, .int x7, .null, .null, .null, .null]) (S' := [.ref (hR h r0 36)]) (h' := h) (p := hK h r0 = 11) rfl rfl rfl rfl (decide_eq_true_iff)).trans <| and_r <|
    (r_iconst (j := 36) (x := 1) rfl i32_1 rfl).trans <|
    (r_guard (j := 37) (L' := [.ref r0, .int x1, .int x2, .int x3, .int x4, .int x5, .int x6, .int x7, .null, .null, .null, .null]) (S' := [.int (hI h (hR h r0 36) (Int32.toNatClampNeg 1))]) (h' := h) (p := hK h (hR h r0 36) ∈ [20, 44] ∧ ixo 1 (hN h (hR h r0 36)) = true) rfl rfl rfl rfl (and2 decide_eq_true_iff Iff.rfl)).trans <| and_r <|
    r_if (j := 38) rfl (cd_eq _ _) rfl
theorem b_M_named_38 {d : Nat} (x1 x2 x3 x4 x5 x6 x7 : Int32) (r0 : Nat) (h : AH) (Q : Option Value → AH → Prop) : Wp d P_M_named 38 [.ref r0, .int x1, .int x2, .int x3, .int x4, .int x5, .int x6, .int x7, .null, .null, .null, .null] [] h Q ↔ (hK h r0 = 11) ∧ ((hK h (hR h r0 36) ∈ [20, 44] ∧ ixo 3 (hN h (hR h r0 36)) = true) ∧ ((¬ (hI h (hR h r0 36) (Int32.toNatClampNeg 3)) = 0 → Wp d P_M_named 45 [.ref r0, .int x1, .int x2, .int x3, .int x4, .int x5, .int x6, .int x7, .null, .null, .null, .null] [] h Q) ∧ (¬ (¬ (hI h (hR h r0 36) (Int32.toNatClampNeg 3)) = 0) → Wp d P_M_named 43 [.ref r0, .int x1, .int x2, .int x3, .int x4, .int x5, .int x6, .int x7, .null, .null, .null, .null] [] h Q))) :=
    (r_go (j := 39) (L' := [.ref r0, .int x1, .int x2, .int x3, .int x4, .int x5, .int x6, .int x7, .null, .null, .null, .null]) (S' := [.ref r0]) (h' := h) rfl rfl rfl rfl).trans <|
    (r_guard (j := 40) (L' := [.ref r0, .int x1, .int x2, .int x3, .int x4, .int x5, .int x6, .int x7, .null, .null, .null, .null]) (S' := [.ref (hR h r0 36)]) (h' := h) (p := hK h r0 = 11) rfl rfl rfl rfl (decide_eq_true_iff)).trans <| and_r <|
    (r_iconst (j := 41) (x := 3) rfl i32_3 rfl).trans <|
    (r_guard (j := 42) (L' := [.ref r0, .int x1, .int x2, .int x3, .int x4, .int x5, .int x6, .int x7, .null, .null, .null, .null]) (S' := [.int (hI h (hR h r0 36) (Int32.toNatClampNeg 3))]) (h' := h) (p := hK h (hR h r0 36) ∈ [20, 44] ∧ ixo 3 (hN h (hR h r0 36)) = true) rfl rfl rfl rfl (and2 decide_eq_true_iff Iff.rfl)).trans <| and_r <|
    r_if (j := 43) rfl (cd_ne _ _) rfl
theorem b_M_named_43 {d : Nat} (x1 x2 x3 x4 x5 x6 x7 : Int32) (r0 : Nat) (h : AH) (Q : Option Value → AH → Prop) : Wp d P_M_named 43 [.ref r0, .int x1, .int x2, .int x3, .int x4, .int x5, .int x6, .int x7, .null, .null, .null, .null] [] h Q ↔ Q (some (.long (-1))) h :=
    (r_go (j := 44) (L' := [.ref r0, .int x1, .int x2, .int x3, .int x4, .int x5, .int x6, .int x7, .null, .null, .null, .null]) (S' := [.long (-1)]) (h' := h) rfl rfl rfl rfl).trans <|
    r_ret rfl rfl rfl
theorem b_M_named_45 {d : Nat} (x1 x2 x3 x4 x5 x6 x7 : Int32) (r0 : Nat) (h : AH) (Q : Option Value → AH → Prop) : Wp d P_M_named 45 [.ref r0, .int x1, .int x2, .int x3, .int x4, .int x5, .int x6, .int x7, .null, .null, .null, .null] [] h Q ↔ (hK h r0 = 11) ∧ ((hK h (hR h r0 36) ∈ [20, 44] ∧ ixo 0 (hN h (hR h r0 36)) = true) ∧ ((hK h r0 = 11) ∧ ((hK h (hR h r0 36) ∈ [20, 44] ∧ ixo 3 (hN h (hR h r0 36)) = true) ∧ ((hK h r0 = 11) ∧ ((hK h (hR h r0 36) ∈ [20, 44] ∧ ixo 2 (hN h (hR h r0 36)) = true) ∧ ((hK h r0 = 11) ∧ ((hK h (hR h r0 36) ∈ [20, 44] ∧ ixo 1 (hN h (hR h r0 36)) = true) ∧ ((¬ (lg_cmp ((((Int32.toInt64 x2) * (Int32.toInt64 (hI h (hR h r0 36) (Int32.toNatClampNeg 0)))) * (Int32.toInt64 (hI h (hR h r0 36) (Int32.toNatClampNeg 3)))) + (((Int32.toInt64 (x1 - x2)) * (Int32.toInt64 (hI h (hR h r0 36) (Int32.toNatClampNeg 2)))) * (Int32.toInt64 (hI h (hR h r0 36) (Int32.toNatClampNeg 1))))) 0) = 0 → Wp d P_M_named 86 [.ref r0, .int x1, .int x2, .int x3, .int x4, .int x5, .int x6, .int x7, .long (((Int32.toInt64 x2) * (Int32.toInt64 (hI h (hR h r0 36) (Int32.toNatClampNeg 0)))) * (Int32.toInt64 (hI h (hR h r0 36) (Int32.toNatClampNeg 3)))), .null, .long ((((Int32.toInt64 x2) * (Int32.toInt64 (hI h (hR h r0 36) (Int32.toNatClampNeg 0)))) * (Int32.toInt64 (hI h (hR h r0 36) (Int32.toNatClampNeg 3)))) + (((Int32.toInt64 (x1 - x2)) * (Int32.toInt64 (hI h (hR h r0 36) (Int32.toNatClampNeg 2)))) * (Int32.toInt64 (hI h (hR h r0 36) (Int32.toNatClampNeg 1))))), .null] [] h Q) ∧ (¬ (¬ (lg_cmp ((((Int32.toInt64 x2) * (Int32.toInt64 (hI h (hR h r0 36) (Int32.toNatClampNeg 0)))) * (Int32.toInt64 (hI h (hR h r0 36) (Int32.toNatClampNeg 3)))) + (((Int32.toInt64 (x1 - x2)) * (Int32.toInt64 (hI h (hR h r0 36) (Int32.toNatClampNeg 2)))) * (Int32.toInt64 (hI h (hR h r0 36) (Int32.toNatClampNeg 1))))) 0) = 0) → Wp d P_M_named 83 [.ref r0, .int x1, .int x2, .int x3, .int x4, .int x5, .int x6, .int x7, .long (((Int32.toInt64 x2) * (Int32.toInt64 (hI h (hR h r0 36) (Int32.toNatClampNeg 0)))) * (Int32.toInt64 (hI h (hR h r0 36) (Int32.toNatClampNeg 3)))), .null, .long ((((Int32.toInt64 x2) * (Int32.toInt64 (hI h (hR h r0 36) (Int32.toNatClampNeg 0)))) * (Int32.toInt64 (hI h (hR h r0 36) (Int32.toNatClampNeg 3)))) + (((Int32.toInt64 (x1 - x2)) * (Int32.toInt64 (hI h (hR h r0 36) (Int32.toNatClampNeg 2)))) * (Int32.toInt64 (hI h (hR h r0 36) (Int32.toNatClampNeg 1))))), .null] [] h Q))))))))) :=
    (r_go (j := 46) (L' := [.ref r0, .int x1, .int x2, .int x3, .int x4, .int x5, .int x6, .int x7, .null, .null, .null, .null]) (S' := [.int x2]) (h' := h) rfl rfl rfl rfl).trans <|
    (r_go (j := 47) (L' := [.ref r0, .int x1, .int x2, .int x3, .int x4, .int x5, .int x6, .int x7, .null, .null, .null, .null]) (S' := [.long (Int32.toInt64 x2)]) (h' := h) rfl rfl rfl rfl).trans <|
    (r_go (j := 48) (L' := [.ref r0, .int x1, .int x2, .int x3, .int x4, .int x5, .int x6, .int x7, .null, .null, .null, .null]) (S' := [.ref r0, .long (Int32.toInt64 x2)]) (h' := h) rfl rfl rfl rfl).trans <|
    (r_guard (j := 49) (L' := [.ref r0, .int x1, .int x2, .int x3, .int x4, .int x5, .int x6, .int x7, .null, .null, .null, .null]) (S' := [.ref (hR h r0 36), .long (Int32.toInt64 x2)]) (h' := h) (p := hK h r0 = 11) rfl rfl rfl rfl (decide_eq_true_iff)).trans <| and_r <|
    (r_iconst (j := 50) (x := 0) rfl i32_0 rfl).trans <|
    (r_guard (j := 51) (L' := [.ref r0, .int x1, .int x2, .int x3, .int x4, .int x5, .int x6, .int x7, .null, .null, .null, .null]) (S' := [.int (hI h (hR h r0 36) (Int32.toNatClampNeg 0)), .long (Int32.toInt64 x2)]) (h' := h) (p := hK h (hR h r0 36) ∈ [20, 44] ∧ ixo 0 (hN h (hR h r0 36)) = true) rfl rfl rfl rfl (and2 decide_eq_true_iff Iff.rfl)).trans <| and_r <|
    (r_go (j := 52) (L' := [.ref r0, .int x1, .int x2, .int x3, .int x4, .int x5, .int x6, .int x7, .null, .null, .null, .null]) (S' := [.long (Int32.toInt64 (hI h (hR h r0 36) (Int32.toNatClampNeg 0))), .long (Int32.toInt64 x2)]) (h' := h) rfl rfl rfl rfl).trans <|
    (r_go (j := 53) (L' := [.ref r0, .int x1, .int x2, .int x3, .int x4, .int x5, .int x6, .int x7, .null, .null, .null, .null]) (S' := [.long ((Int32.toInt64 x2) * (Int32.toInt64 (hI h (hR h r0 36) (Int32.toNatClampNeg 0))))]) (h' := h) rfl rfl rfl rfl).trans <|
    (r_go (j := 54) (L' := [.ref r0, .int x1, .int x2, .int x3, .int x4, .int x5, .int x6, .int x7, .null, .null, .null, .null]) (S' := [.ref r0, .long ((Int32.toInt64 x2) * (Int32.toInt64 (hI h (hR h r0 36) (Int32.toNatClampNeg 0))))]) (h' := h) rfl rfl rfl rfl).trans <|
    (r_guard (j := 55) (L' := [.ref r0, .int x1, .int x2, .int x3, .int x4, .int x5, .int x6, .int x7, .null, .null, .null, .null]) (S' := [.ref (hR h r0 36), .long ((Int32.toInt64 x2) * (Int32.toInt64 (hI h (hR h r0 36) (Int32.toNatClampNeg 0))))]) (h' := h) (p := hK h r0 = 11) rfl rfl rfl rfl (decide_eq_true_iff)).trans <| and_r <|
    (r_iconst (j := 56) (x := 3) rfl i32_3 rfl).trans <|
    (r_guard (j := 57) (L' := [.ref r0, .int x1, .int x2, .int x3, .int x4, .int x5, .int x6, .int x7, .null, .null, .null, .null]) (S' := [.int (hI h (hR h r0 36) (Int32.toNatClampNeg 3)), .long ((Int32.toInt64 x2) * (Int32.toInt64 (hI h (hR h r0 36) (Int32.toNatClampNeg 0))))]) (h' := h) (p := hK h (hR h r0 36) ∈ [20, 44] ∧ ixo 3 (hN h (hR h r0 36)) = true) rfl rfl rfl rfl (and2 decide_eq_true_iff Iff.rfl)).trans <| and_r <|
    (r_go (j := 58) (L' := [.ref r0, .int x1, .int x2, .int x3, .int x4, .int x5, .int x6, .int x7, .null, .null, .null, .null]) (S' := [.long (Int32.toInt64 (hI h (hR h r0 36) (Int32.toNatClampNeg 3))), .long ((Int32.toInt64 x2) * (Int32.toInt64 (hI h (hR h r0 36) (Int32.toNatClampNeg 0))))]) (h' := h) rfl rfl rfl rfl).trans <|
    (r_go (j := 59) (L' := [.ref r0, .int x1, .int x2, .int x3, .int x4, .int x5, .int x6, .int x7, .null, .null, .null, .null]) (S' := [.long (((Int32.toInt64 x2) * (Int32.toInt64 (hI h (hR h r0 36) (Int32.toNatClampNeg 0)))) * (Int32.toInt64 (hI h (hR h r0 36) (Int32.toNatClampNeg 3))))]) (h' := h) rfl rfl rfl rfl).trans <|
    (r_go (j := 60) (L' := [.ref r0, .int x1, .int x2, .int x3, .int x4, .int x5, .int x6, .int x7, .long (((Int32.toInt64 x2) * (Int32.toInt64 (hI h (hR h r0 36) (Int32.toNatClampNeg 0)))) * (Int32.toInt64 (hI h (hR h r0 36) (Int32.toNatClampNeg 3)))), .null, .null, .null]) (S' := []) (h' := h) rfl rfl rfl rfl).trans <|
    (r_go (j := 61) (L' := [.ref r0, .int x1, .int x2, .int x3, .int x4, .int x5, .int x6, .int x7, .long (((Int32.toInt64 x2) * (Int32.toInt64 (hI h (hR h r0 36) (Int32.toNatClampNeg 0)))) * (Int32.toInt64 (hI h (hR h r0 36) (Int32.toNatClampNeg 3)))), .null, .null, .null]) (S' := [.long (((Int32.toInt64 x2) * (Int32.toInt64 (hI h (hR h r0 36) (Int32.toNatClampNeg 0)))) * (Int32.toInt64 (hI h (hR h r0 36) (Int32.toNatClampNeg 3))))]) (h' := h) rfl rfl rfl rfl).trans <|
    (r_go (j := 62) (L' := [.ref r0, .int x1, .int x2, .int x3, .int x4, .int x5, .int x6, .int x7, .long (((Int32.toInt64 x2) * (Int32.toInt64 (hI h (hR h r0 36) (Int32.toNatClampNeg 0)))) * (Int32.toInt64 (hI h (hR h r0 36) (Int32.toNatClampNeg 3)))), .null, .null, .null]) (S' := [.int x1, .long (((Int32.toInt64 x2) * (Int32.toInt64 (hI h (hR h r0 36) (Int32.toNatClampNeg 0)))) * (Int32.toInt64 (hI h (hR h r0 36) (Int32.toNatClampNeg 3))))]) (h' := h) rfl rfl rfl rfl).trans <|
    (r_go (j := 63) (L' := [.ref r0, .int x1, .int x2, .int x3, .int x4, .int x5, .int x6, .int x7, .long (((Int32.toInt64 x2) * (Int32.toInt64 (hI h (hR h r0 36) (Int32.toNatClampNeg 0)))) * (Int32.toInt64 (hI h (hR h r0 36) (Int32.toNatClampNeg 3)))), .null, .null, .null]) (S' := [.int x2, .int x1, .long (((Int32.toInt64 x2) * (Int32.toInt64 (hI h (hR h r0 36) (Int32.toNatClampNeg 0)))) * (Int32.toInt64 (hI h (hR h r0 36) (Int32.toNatClampNeg 3))))]) (h' := h) rfl rfl rfl rfl).trans <|
    (r_go (j := 64) (L' := [.ref r0, .int x1, .int x2, .int x3, .int x4, .int x5, .int x6, .int x7, .long (((Int32.toInt64 x2) * (Int32.toInt64 (hI h (hR h r0 36) (Int32.toNatClampNeg 0)))) * (Int32.toInt64 (hI h (hR h r0 36) (Int32.toNatClampNeg 3)))), .null, .null, .null]) (S' := [.int (x1 - x2), .long (((Int32.toInt64 x2) * (Int32.toInt64 (hI h (hR h r0 36) (Int32.toNatClampNeg 0)))) * (Int32.toInt64 (hI h (hR h r0 36) (Int32.toNatClampNeg 3))))]) (h' := h) rfl rfl rfl rfl).trans <|
    (r_go (j := 65) (L' := [.ref r0, .int x1, .int x2, .int x3, .int x4, .int x5, .int x6, .int x7, .long (((Int32.toInt64 x2) * (Int32.toInt64 (hI h (hR h r0 36) (Int32.toNatClampNeg 0)))) * (Int32.toInt64 (hI h (hR h r0 36) (Int32.toNatClampNeg 3)))), .null, .null, .null]) (S' := [.long (Int32.toInt64 (x1 - x2)), .long (((Int32.toInt64 x2) * (Int32.toInt64 (hI h (hR h r0 36) (Int32.toNatClampNeg 0)))) * (Int32.toInt64 (hI h (hR h r0 36) (Int32.toNatClampNeg 3))))]) (h' := h) rfl rfl rfl rfl).trans <|
    (r_go (j := 66) (L' := [.ref r0, .int x1, .int x2, .int x3, .int x4, .int x5, .int x6, .int x7, .long (((Int32.toInt64 x2) * (Int32.toInt64 (hI h (hR h r0 36) (Int32.toNatClampNeg 0)))) * (Int32.toInt64 (hI h (hR h r0 36) (Int32.toNatClampNeg 3)))), .null, .null, .null]) (S' := [.ref r0, .long (Int32.toInt64 (x1 - x2)), .long (((Int32.toInt64 x2) * (Int32.toInt64 (hI h (hR h r0 36) (Int32.toNatClampNeg 0)))) * (Int32.toInt64 (hI h (hR h r0 36) (Int32.toNatClampNeg 3))))]) (h' := h) rfl rfl rfl rfl).trans <|
    (r_guard (j := 67) (L' := [.ref r0, .int x1, .int x2, .int x3, .int x4, .int x5, .int x6, .int x7, .long (((Int32.toInt64 x2) * (Int32.toInt64 (hI h (hR h r0 36) (Int32.toNatClampNeg 0)))) * (Int32.toInt64 (hI h (hR h r0 36) (Int32.toNatClampNeg 3)))), .null, .null, .null]) (S' := [.ref (hR h r0 36), .long (Int32.toInt64 (x1 - x2)), .long (((Int32.toInt64 x2) * (Int32.toInt64 (hI h (hR h r0 36) (Int32.toNatClampNeg 0)))) * (Int32.toInt64 (hI h (hR h r0 36) (Int32.toNatClampNeg 3))))]) (h' := h) (p := hK h r0 = 11) rfl rfl rfl rfl (decide_eq_true_iff)).trans <| and_r <|
    (r_iconst (j := 68) (x := 2) rfl i32_2 rfl).trans <|
    (r_guard (j := 69) (L' := [.ref r0, .int x1, .int x2, .int x3, .int x4, .int x5, .int x6, .int x7, .long (((Int32.toInt64 x2) * (Int32.toInt64 (hI h (hR h r0 36) (Int32.toNatClampNeg 0)))) * (Int32.toInt64 (hI h (hR h r0 36) (Int32.toNatClampNeg 3)))), .null, .null, .null]) (S' := [.int (hI h (hR h r0 36) (Int32.toNatClampNeg 2)), .long (Int32.toInt64 (x1 - x2)), .long (((Int32.toInt64 x2) * (Int32.toInt64 (hI h (hR h r0 36) (Int32.toNatClampNeg 0)))) * (Int32.toInt64 (hI h (hR h r0 36) (Int32.toNatClampNeg 3))))]) (h' := h) (p := hK h (hR h r0 36) ∈ [20, 44] ∧ ixo 2 (hN h (hR h r0 36)) = true) rfl rfl rfl rfl (and2 decide_eq_true_iff Iff.rfl)).trans <| and_r <|
    (r_go (j := 70) (L' := [.ref r0, .int x1, .int x2, .int x3, .int x4, .int x5, .int x6, .int x7, .long (((Int32.toInt64 x2) * (Int32.toInt64 (hI h (hR h r0 36) (Int32.toNatClampNeg 0)))) * (Int32.toInt64 (hI h (hR h r0 36) (Int32.toNatClampNeg 3)))), .null, .null, .null]) (S' := [.long (Int32.toInt64 (hI h (hR h r0 36) (Int32.toNatClampNeg 2))), .long (Int32.toInt64 (x1 - x2)), .long (((Int32.toInt64 x2) * (Int32.toInt64 (hI h (hR h r0 36) (Int32.toNatClampNeg 0)))) * (Int32.toInt64 (hI h (hR h r0 36) (Int32.toNatClampNeg 3))))]) (h' := h) rfl rfl rfl rfl).trans <|
    (r_go (j := 71) (L' := [.ref r0, .int x1, .int x2, .int x3, .int x4, .int x5, .int x6, .int x7, .long (((Int32.toInt64 x2) * (Int32.toInt64 (hI h (hR h r0 36) (Int32.toNatClampNeg 0)))) * (Int32.toInt64 (hI h (hR h r0 36) (Int32.toNatClampNeg 3)))), .null, .null, .null]) (S' := [.long ((Int32.toInt64 (x1 - x2)) * (Int32.toInt64 (hI h (hR h r0 36) (Int32.toNatClampNeg 2)))), .long (((Int32.toInt64 x2) * (Int32.toInt64 (hI h (hR h r0 36) (Int32.toNatClampNeg 0)))) * (Int32.toInt64 (hI h (hR h r0 36) (Int32.toNatClampNeg 3))))]) (h' := h) rfl rfl rfl rfl).trans <|
    (r_go (j := 72) (L' := [.ref r0, .int x1, .int x2, .int x3, .int x4, .int x5, .int x6, .int x7, .long (((Int32.toInt64 x2) * (Int32.toInt64 (hI h (hR h r0 36) (Int32.toNatClampNeg 0)))) * (Int32.toInt64 (hI h (hR h r0 36) (Int32.toNatClampNeg 3)))), .null, .null, .null]) (S' := [.ref r0, .long ((Int32.toInt64 (x1 - x2)) * (Int32.toInt64 (hI h (hR h r0 36) (Int32.toNatClampNeg 2)))), .long (((Int32.toInt64 x2) * (Int32.toInt64 (hI h (hR h r0 36) (Int32.toNatClampNeg 0)))) * (Int32.toInt64 (hI h (hR h r0 36) (Int32.toNatClampNeg 3))))]) (h' := h) rfl rfl rfl rfl).trans <|
    (r_guard (j := 73) (L' := [.ref r0, .int x1, .int x2, .int x3, .int x4, .int x5, .int x6, .int x7, .long (((Int32.toInt64 x2) * (Int32.toInt64 (hI h (hR h r0 36) (Int32.toNatClampNeg 0)))) * (Int32.toInt64 (hI h (hR h r0 36) (Int32.toNatClampNeg 3)))), .null, .null, .null]) (S' := [.ref (hR h r0 36), .long ((Int32.toInt64 (x1 - x2)) * (Int32.toInt64 (hI h (hR h r0 36) (Int32.toNatClampNeg 2)))), .long (((Int32.toInt64 x2) * (Int32.toInt64 (hI h (hR h r0 36) (Int32.toNatClampNeg 0)))) * (Int32.toInt64 (hI h (hR h r0 36) (Int32.toNatClampNeg 3))))]) (h' := h) (p := hK h r0 = 11) rfl rfl rfl rfl (decide_eq_true_iff)).trans <| and_r <|
    (r_iconst (j := 74) (x := 1) rfl i32_1 rfl).trans <|
    (r_guard (j := 75) (L' := [.ref r0, .int x1, .int x2, .int x3, .int x4, .int x5, .int x6, .int x7, .long (((Int32.toInt64 x2) * (Int32.toInt64 (hI h (hR h r0 36) (Int32.toNatClampNeg 0)))) * (Int32.toInt64 (hI h (hR h r0 36) (Int32.toNatClampNeg 3)))), .null, .null, .null]) (S' := [.int (hI h (hR h r0 36) (Int32.toNatClampNeg 1)), .long ((Int32.toInt64 (x1 - x2)) * (Int32.toInt64 (hI h (hR h r0 36) (Int32.toNatClampNeg 2)))), .long (((Int32.toInt64 x2) * (Int32.toInt64 (hI h (hR h r0 36) (Int32.toNatClampNeg 0)))) * (Int32.toInt64 (hI h (hR h r0 36) (Int32.toNatClampNeg 3))))]) (h' := h) (p := hK h (hR h r0 36) ∈ [20, 44] ∧ ixo 1 (hN h (hR h r0 36)) = true) rfl rfl rfl rfl (and2 decide_eq_true_iff Iff.rfl)).trans <| and_r <|
    (r_go (j := 76) (L' := [.ref r0, .int x1, .int x2, .int x3, .int x4, .int x5, .int x6, .int x7, .long (((Int32.toInt64 x2) * (Int32.toInt64 (hI h (hR h r0 36) (Int32.toNatClampNeg 0)))) * (Int32.toInt64 (hI h (hR h r0 36) (Int32.toNatClampNeg 3)))), .null, .null, .null]) (S' := [.long (Int32.toInt64 (hI h (hR h r0 36) (Int32.toNatClampNeg 1))), .long ((Int32.toInt64 (x1 - x2)) * (Int32.toInt64 (hI h (hR h r0 36) (Int32.toNatClampNeg 2)))), .long (((Int32.toInt64 x2) * (Int32.toInt64 (hI h (hR h r0 36) (Int32.toNatClampNeg 0)))) * (Int32.toInt64 (hI h (hR h r0 36) (Int32.toNatClampNeg 3))))]) (h' := h) rfl rfl rfl rfl).trans <|
    (r_go (j := 77) (L' := [.ref r0, .int x1, .int x2, .int x3, .int x4, .int x5, .int x6, .int x7, .long (((Int32.toInt64 x2) * (Int32.toInt64 (hI h (hR h r0 36) (Int32.toNatClampNeg 0)))) * (Int32.toInt64 (hI h (hR h r0 36) (Int32.toNatClampNeg 3)))), .null, .null, .null]) (S' := [.long (((Int32.toInt64 (x1 - x2)) * (Int32.toInt64 (hI h (hR h r0 36) (Int32.toNatClampNeg 2)))) * (Int32.toInt64 (hI h (hR h r0 36) (Int32.toNatClampNeg 1)))), .long (((Int32.toInt64 x2) * (Int32.toInt64 (hI h (hR h r0 36) (Int32.toNatClampNeg 0)))) * (Int32.toInt64 (hI h (hR h r0 36) (Int32.toNatClampNeg 3))))]) (h' := h) rfl rfl rfl rfl).trans <|
    (r_go (j := 78) (L' := [.ref r0, .int x1, .int x2, .int x3, .int x4, .int x5, .int x6, .int x7, .long (((Int32.toInt64 x2) * (Int32.toInt64 (hI h (hR h r0 36) (Int32.toNatClampNeg 0)))) * (Int32.toInt64 (hI h (hR h r0 36) (Int32.toNatClampNeg 3)))), .null, .null, .null]) (S' := [.long ((((Int32.toInt64 x2) * (Int32.toInt64 (hI h (hR h r0 36) (Int32.toNatClampNeg 0)))) * (Int32.toInt64 (hI h (hR h r0 36) (Int32.toNatClampNeg 3)))) + (((Int32.toInt64 (x1 - x2)) * (Int32.toInt64 (hI h (hR h r0 36) (Int32.toNatClampNeg 2)))) * (Int32.toInt64 (hI h (hR h r0 36) (Int32.toNatClampNeg 1)))))]) (h' := h) rfl rfl rfl rfl).trans <|
    (r_go (j := 79) (L' := [.ref r0, .int x1, .int x2, .int x3, .int x4, .int x5, .int x6, .int x7, .long (((Int32.toInt64 x2) * (Int32.toInt64 (hI h (hR h r0 36) (Int32.toNatClampNeg 0)))) * (Int32.toInt64 (hI h (hR h r0 36) (Int32.toNatClampNeg 3)))), .null, .long ((((Int32.toInt64 x2) * (Int32.toInt64 (hI h (hR h r0 36) (Int32.toNatClampNeg 0)))) * (Int32.toInt64 (hI h (hR h r0 36) (Int32.toNatClampNeg 3)))) + (((Int32.toInt64 (x1 - x2)) * (Int32.toInt64 (hI h (hR h r0 36) (Int32.toNatClampNeg 2)))) * (Int32.toInt64 (hI h (hR h r0 36) (Int32.toNatClampNeg 1))))), .null]) (S' := []) (h' := h) rfl rfl rfl rfl).trans <|
    (r_go (j := 80) (L' := [.ref r0, .int x1, .int x2, .int x3, .int x4, .int x5, .int x6, .int x7, .long (((Int32.toInt64 x2) * (Int32.toInt64 (hI h (hR h r0 36) (Int32.toNatClampNeg 0)))) * (Int32.toInt64 (hI h (hR h r0 36) (Int32.toNatClampNeg 3)))), .null, .long ((((Int32.toInt64 x2) * (Int32.toInt64 (hI h (hR h r0 36) (Int32.toNatClampNeg 0)))) * (Int32.toInt64 (hI h (hR h r0 36) (Int32.toNatClampNeg 3)))) + (((Int32.toInt64 (x1 - x2)) * (Int32.toInt64 (hI h (hR h r0 36) (Int32.toNatClampNeg 2)))) * (Int32.toInt64 (hI h (hR h r0 36) (Int32.toNatClampNeg 1))))), .null]) (S' := [.long ((((Int32.toInt64 x2) * (Int32.toInt64 (hI h (hR h r0 36) (Int32.toNatClampNeg 0)))) * (Int32.toInt64 (hI h (hR h r0 36) (Int32.toNatClampNeg 3)))) + (((Int32.toInt64 (x1 - x2)) * (Int32.toInt64 (hI h (hR h r0 36) (Int32.toNatClampNeg 2)))) * (Int32.toInt64 (hI h (hR h r0 36) (Int32.toNatClampNeg 1)))))]) (h' := h) rfl rfl rfl rfl).trans <|
    (r_go (j := 81) (L' := [.ref r0, .int x1, .int x2, .int x3, .int x4, .int x5, .int x6, .int x7, .long (((Int32.toInt64 x2) * (Int32.toInt64 (hI h (hR h r0 36) (Int32.toNatClampNeg 0)))) * (Int32.toInt64 (hI h (hR h r0 36) (Int32.toNatClampNeg 3)))), .null, .long ((((Int32.toInt64 x2) * (Int32.toInt64 (hI h (hR h r0 36) (Int32.toNatClampNeg 0)))) * (Int32.toInt64 (hI h (hR h r0 36) (Int32.toNatClampNeg 3)))) + (((Int32.toInt64 (x1 - x2)) * (Int32.toInt64 (hI h (hR h r0 36) (Int32.toNatClampNeg 2)))) * (Int32.toInt64 (hI h (hR h r0 36) (Int32.toNatClampNeg 1))))), .null]) (S' := [.long 0, .long ((((Int32.toInt64 x2) * (Int32.toInt64 (hI h (hR h r0 36) (Int32.toNatClampNeg 0)))) * (Int32.toInt64 (hI h (hR h r0 36) (Int32.toNatClampNeg 3)))) + (((Int32.toInt64 (x1 - x2)) * (Int32.toInt64 (hI h (hR h r0 36) (Int32.toNatClampNeg 2)))) * (Int32.toInt64 (hI h (hR h r0 36) (Int32.toNatClampNeg 1)))))]) (h' := h) rfl rfl rfl rfl).trans <|
    (r_go (j := 82) (L' := [.ref r0, .int x1, .int x2, .int x3, .int x4, .int x5, .int x6, .int x7, .long (((Int32.toInt64 x2) * (Int32.toInt64 (hI h (hR h r0 36) (Int32.toNatClampNeg 0)))) * (Int32.toInt64 (hI h (hR h r0 36) (Int32.toNatClampNeg 3)))), .null, .long ((((Int32.toInt64 x2) * (Int32.toInt64 (hI h (hR h r0 36) (Int32.toNatClampNeg 0)))) * (Int32.toInt64 (hI h (hR h r0 36) (Int32.toNatClampNeg 3)))) + (((Int32.toInt64 (x1 - x2)) * (Int32.toInt64 (hI h (hR h r0 36) (Int32.toNatClampNeg 2)))) * (Int32.toInt64 (hI h (hR h r0 36) (Int32.toNatClampNeg 1))))), .null]) (S' := [.int (lg_cmp ((((Int32.toInt64 x2) * (Int32.toInt64 (hI h (hR h r0 36) (Int32.toNatClampNeg 0)))) * (Int32.toInt64 (hI h (hR h r0 36) (Int32.toNatClampNeg 3)))) + (((Int32.toInt64 (x1 - x2)) * (Int32.toInt64 (hI h (hR h r0 36) (Int32.toNatClampNeg 2)))) * (Int32.toInt64 (hI h (hR h r0 36) (Int32.toNatClampNeg 1))))) 0)]) (h' := h) rfl rfl rfl rfl).trans <|
    r_if (j := 83) rfl (cd_ne _ _) rfl
theorem b_M_named_83 {d : Nat} (x1 x2 x3 x4 x5 x6 x7 : Int32) (l8 l10 : Int64) (r0 : Nat) (h : AH) (Q : Option Value → AH → Prop) : Wp d P_M_named 83 [.ref r0, .int x1, .int x2, .int x3, .int x4, .int x5, .int x6, .int x7, .long l8, .null, .long l10, .null] [] h Q ↔ Wp d P_M_named 90 [.ref r0, .int x1, .int x2, .int x3, .int x4, .int x5, .int x6, .int x7, .long l8, .null, .long l10, .null] [.long (Int32.toInt64 x7)] h Q :=
    (r_go (j := 84) (L' := [.ref r0, .int x1, .int x2, .int x3, .int x4, .int x5, .int x6, .int x7, .long l8, .null, .long l10, .null]) (S' := [.int x7]) (h' := h) rfl rfl rfl rfl).trans <|
    (r_go (j := 85) (L' := [.ref r0, .int x1, .int x2, .int x3, .int x4, .int x5, .int x6, .int x7, .long l8, .null, .long l10, .null]) (S' := [.long (Int32.toInt64 x7)]) (h' := h) rfl rfl rfl rfl).trans <|
    r_go (j := 90) (L' := [.ref r0, .int x1, .int x2, .int x3, .int x4, .int x5, .int x6, .int x7, .long l8, .null, .long l10, .null]) (S' := [.long (Int32.toInt64 x7)]) (h' := h) rfl rfl rfl rfl
theorem b_M_named_86 {d : Nat} (x1 x2 x3 x4 x5 x6 x7 : Int32) (l8 l10 : Int64) (r0 : Nat) (h : AH) (Q : Option Value → AH → Prop) : Wp d P_M_named 86 [.ref r0, .int x1, .int x2, .int x3, .int x4, .int x5, .int x6, .int x7, .long l8, .null, .long l10, .null] [] h Q ↔ Cl d q_M_lowest [.long l8, .long l10, .int x7] h (fun r h' => Wp d P_M_named 90 [.ref r0, .int x1, .int x2, .int x3, .int x4, .int x5, .int x6, .int x7, .long l8, .null, .long l10, .null] (r.toList ++ []) h' Q) :=
    (r_go (j := 87) (L' := [.ref r0, .int x1, .int x2, .int x3, .int x4, .int x5, .int x6, .int x7, .long l8, .null, .long l10, .null]) (S' := [.long l8]) (h' := h) rfl rfl rfl rfl).trans <|
    (r_go (j := 88) (L' := [.ref r0, .int x1, .int x2, .int x3, .int x4, .int x5, .int x6, .int x7, .long l8, .null, .long l10, .null]) (S' := [.long l10, .long l8]) (h' := h) rfl rfl rfl rfl).trans <|
    (r_go (j := 89) (L' := [.ref r0, .int x1, .int x2, .int x3, .int x4, .int x5, .int x6, .int x7, .long l8, .null, .long l10, .null]) (S' := [.int x7, .long l10, .long l8]) (h' := h) rfl rfl rfl rfl).trans <|
    r_call (j := 90) (a := [.long l8, .long l10, .int x7]) (S' := []) rfl rfl rfl rfl rfl rfl rfl
theorem b_M_named_90 {d : Nat} (x1 x2 x3 x4 x5 x6 x7 : Int32) (l8 l10 k0 : Int64) (r0 : Nat) (h : AH) (Q : Option Value → AH → Prop) : Wp d P_M_named 90 [.ref r0, .int x1, .int x2, .int x3, .int x4, .int x5, .int x6, .int x7, .long l8, .null, .long l10, .null] [.long k0] h Q ↔ Q (some (.long k0)) h :=
    r_ret rfl rfl rfl
theorem e_M_named {d : Nat} (x1 x2 x3 x4 x5 x6 x7 : Int32) (r0 : Nat) (h : AH) (Q : Option Value → AH → Prop) : Cl (d + 1) q_M_named [.ref r0, .int x1, .int x2, .int x3, .int x4, .int x5, .int x6, .int x7] h Q ↔ hK h r0 = 11 ∧ Wp d P_M_named 0 [.ref r0, .int x1, .int x2, .int x3, .int x4, .int x5, .int x6, .int x7, .null, .null, .null, .null] [] h (fun r h' => rtk (some .long) r = true ∧ Q r h') :=
    (Cl_method (t := m_M_named) rfl).trans (and_congr_left fun _ => decide_eq_true_iff)
/-! PenThatJumpsModel.confess(ZZZI)Z -/
theorem b_M_confess_0 {d : Nat} (x1 x2 x3 x4 : Int32) (r0 : Nat) (h : AH) (Q : Option Value → AH → Prop) : Wp d P_M_confess 0 [.ref r0, .int x1, .int x2, .int x3, .int x4] [] h Q ↔ (hK h r0 = 11) ∧ (Cl d q_M_within [.int x4, .int 0, .int 9999] (sI h r0 0 0) (fun r h' => Wp d P_M_confess 7 [.ref r0, .int x1, .int x2, .int x3, .int x4] (r.toList ++ []) h' Q)) :=
    (r_go (j := 1) (L' := [.ref r0, .int x1, .int x2, .int x3, .int x4]) (S' := [.ref r0]) (h' := h) rfl rfl rfl rfl).trans <|
    (r_iconst (j := 2) (x := 0) rfl i32_0 rfl).trans <|
    (r_guard (j := 3) (L' := [.ref r0, .int x1, .int x2, .int x3, .int x4]) (S' := []) (h' := (sI h r0 0 0)) (p := hK h r0 = 11) rfl rfl rfl rfl (pfI rfl)).trans <| and_r <|
    (r_go (j := 4) (L' := [.ref r0, .int x1, .int x2, .int x3, .int x4]) (S' := [.int x4]) (h' := (sI h r0 0 0)) rfl rfl rfl rfl).trans <|
    (r_iconst (j := 5) (x := 0) rfl i32_0 rfl).trans <|
    (r_sipush (j := 6) (x := 9999) rfl i32_9999 rfl).trans <|
    r_call (j := 7) (a := [.int x4, .int 0, .int 9999]) (S' := []) rfl rfl rfl rfl rfl rfl rfl
theorem b_M_confess_7 {d : Nat} (x1 x2 x3 x4 s0 : Int32) (r0 : Nat) (h : AH) (Q : Option Value → AH → Prop) : Wp d P_M_confess 7 [.ref r0, .int x1, .int x2, .int x3, .int x4] [.int s0] h Q ↔ (¬ s0 = 0 → Wp d P_M_confess 10 [.ref r0, .int x1, .int x2, .int x3, .int x4] [] h Q) ∧ (¬ (¬ s0 = 0) → Wp d P_M_confess 8 [.ref r0, .int x1, .int x2, .int x3, .int x4] [] h Q) :=
    r_if (j := 8) rfl (cd_ne _ _) rfl
theorem b_M_confess_8 {d : Nat} (x1 x2 x3 x4 : Int32) (r0 : Nat) (h : AH) (Q : Option Value → AH → Prop) : Wp d P_M_confess 8 [.ref r0, .int x1, .int x2, .int x3, .int x4] [] h Q ↔ Q (some (.int 0)) h :=
    (r_iconst (j := 9) (x := 0) rfl i32_0 rfl).trans <|
    r_ret rfl rfl rfl
theorem b_M_confess_10 {d : Nat} (x1 x2 x3 x4 : Int32) (r0 : Nat) (h : AH) (Q : Option Value → AH → Prop) : Wp d P_M_confess 10 [.ref r0, .int x1, .int x2, .int x3, .int x4] [] h Q ↔ (hK h r0 = 11) ∧ ((x1 = 0 → Wp d P_M_confess 16 [.ref r0, .int x1, .int x2, .int x3, .int x4] [.ref (hR h r0 38)] h Q) ∧ (¬ (x1 = 0) → Wp d P_M_confess 14 [.ref r0, .int x1, .int x2, .int x3, .int x4] [.ref (hR h r0 38)] h Q)) :=
    (r_go (j := 11) (L' := [.ref r0, .int x1, .int x2, .int x3, .int x4]) (S' := [.ref r0]) (h' := h) rfl rfl rfl rfl).trans <|
    (r_guard (j := 12) (L' := [.ref r0, .int x1, .int x2, .int x3, .int x4]) (S' := [.ref (hR h r0 38)]) (h' := h) (p := hK h r0 = 11) rfl rfl rfl rfl (decide_eq_true_iff)).trans <| and_r <|
    (r_go (j := 13) (L' := [.ref r0, .int x1, .int x2, .int x3, .int x4]) (S' := [.int x1, .ref (hR h r0 38)]) (h' := h) rfl rfl rfl rfl).trans <|
    r_if (j := 14) rfl (cd_eq _ _) rfl
theorem b_M_confess_14 {d : Nat} (x1 x2 x3 x4 : Int32) (r0 t0 : Nat) (h : AH) (Q : Option Value → AH → Prop) : Wp d P_M_confess 14 [.ref r0, .int x1, .int x2, .int x3, .int x4] [.ref t0] h Q ↔ Wp d P_M_confess 17 [.ref r0, .int x1, .int x2, .int x3, .int x4] [.int 4, .ref t0] h Q :=
    (r_iconst (j := 15) (x := 4) rfl i32_4 rfl).trans <|
    r_go (j := 17) (L' := [.ref r0, .int x1, .int x2, .int x3, .int x4]) (S' := [.int 4, .ref t0]) (h' := h) rfl rfl rfl rfl
theorem b_M_confess_16 {d : Nat} (x1 x2 x3 x4 : Int32) (r0 t0 : Nat) (h : AH) (Q : Option Value → AH → Prop) : Wp d P_M_confess 16 [.ref r0, .int x1, .int x2, .int x3, .int x4] [.ref t0] h Q ↔ Wp d P_M_confess 17 [.ref r0, .int x1, .int x2, .int x3, .int x4] [.int 0, .ref t0] h Q :=
    r_iconst (j := 17) (x := 0) rfl i32_0 rfl
theorem b_M_confess_17 {d : Nat} (x1 x2 x3 x4 s0 : Int32) (r0 t1 : Nat) (h : AH) (Q : Option Value → AH → Prop) : Wp d P_M_confess 17 [.ref r0, .int x1, .int x2, .int x3, .int x4] [.int s0, .ref t1] h Q ↔ (x2 = 0 → Wp d P_M_confess 21 [.ref r0, .int x1, .int x2, .int x3, .int x4] [.int s0, .ref t1] h Q) ∧ (¬ (x2 = 0) → Wp d P_M_confess 19 [.ref r0, .int x1, .int x2, .int x3, .int x4] [.int s0, .ref t1] h Q) :=
    (r_go (j := 18) (L' := [.ref r0, .int x1, .int x2, .int x3, .int x4]) (S' := [.int x2, .int s0, .ref t1]) (h' := h) rfl rfl rfl rfl).trans <|
    r_if (j := 19) rfl (cd_eq _ _) rfl
theorem b_M_confess_19 {d : Nat} (x1 x2 x3 x4 s0 : Int32) (r0 t1 : Nat) (h : AH) (Q : Option Value → AH → Prop) : Wp d P_M_confess 19 [.ref r0, .int x1, .int x2, .int x3, .int x4] [.int s0, .ref t1] h Q ↔ Wp d P_M_confess 22 [.ref r0, .int x1, .int x2, .int x3, .int x4] [.int 2, .int s0, .ref t1] h Q :=
    (r_iconst (j := 20) (x := 2) rfl i32_2 rfl).trans <|
    r_go (j := 22) (L' := [.ref r0, .int x1, .int x2, .int x3, .int x4]) (S' := [.int 2, .int s0, .ref t1]) (h' := h) rfl rfl rfl rfl
theorem b_M_confess_21 {d : Nat} (x1 x2 x3 x4 s0 : Int32) (r0 t1 : Nat) (h : AH) (Q : Option Value → AH → Prop) : Wp d P_M_confess 21 [.ref r0, .int x1, .int x2, .int x3, .int x4] [.int s0, .ref t1] h Q ↔ Wp d P_M_confess 22 [.ref r0, .int x1, .int x2, .int x3, .int x4] [.int 0, .int s0, .ref t1] h Q :=
    r_iconst (j := 22) (x := 0) rfl i32_0 rfl
theorem b_M_confess_22 {d : Nat} (x1 x2 x3 x4 s0 s1 : Int32) (r0 t2 : Nat) (h : AH) (Q : Option Value → AH → Prop) : Wp d P_M_confess 22 [.ref r0, .int x1, .int x2, .int x3, .int x4] [.int s0, .int s1, .ref t2] h Q ↔ (x3 = 0 → Wp d P_M_confess 27 [.ref r0, .int x1, .int x2, .int x3, .int x4] [.int (s1 + s0), .ref t2] h Q) ∧ (¬ (x3 = 0) → Wp d P_M_confess 25 [.ref r0, .int x1, .int x2, .int x3, .int x4] [.int (s1 + s0), .ref t2] h Q) :=
    (r_go (j := 23) (L' := [.ref r0, .int x1, .int x2, .int x3, .int x4]) (S' := [.int (s1 + s0), .ref t2]) (h' := h) rfl rfl rfl rfl).trans <|
    (r_go (j := 24) (L' := [.ref r0, .int x1, .int x2, .int x3, .int x4]) (S' := [.int x3, .int (s1 + s0), .ref t2]) (h' := h) rfl rfl rfl rfl).trans <|
    r_if (j := 25) rfl (cd_eq _ _) rfl
theorem b_M_confess_25 {d : Nat} (x1 x2 x3 x4 s0 : Int32) (r0 t1 : Nat) (h : AH) (Q : Option Value → AH → Prop) : Wp d P_M_confess 25 [.ref r0, .int x1, .int x2, .int x3, .int x4] [.int s0, .ref t1] h Q ↔ Wp d P_M_confess 28 [.ref r0, .int x1, .int x2, .int x3, .int x4] [.int 1, .int s0, .ref t1] h Q :=
    (r_iconst (j := 26) (x := 1) rfl i32_1 rfl).trans <|
    r_go (j := 28) (L' := [.ref r0, .int x1, .int x2, .int x3, .int x4]) (S' := [.int 1, .int s0, .ref t1]) (h' := h) rfl rfl rfl rfl
theorem b_M_confess_27 {d : Nat} (x1 x2 x3 x4 s0 : Int32) (r0 t1 : Nat) (h : AH) (Q : Option Value → AH → Prop) : Wp d P_M_confess 27 [.ref r0, .int x1, .int x2, .int x3, .int x4] [.int s0, .ref t1] h Q ↔ Wp d P_M_confess 28 [.ref r0, .int x1, .int x2, .int x3, .int x4] [.int 0, .int s0, .ref t1] h Q :=
    r_iconst (j := 28) (x := 0) rfl i32_0 rfl
theorem b_M_confess_28 {d : Nat} (x1 x2 x3 x4 s0 s1 : Int32) (r0 t2 : Nat) (h : AH) (Q : Option Value → AH → Prop) : Wp d P_M_confess 28 [.ref r0, .int x1, .int x2, .int x3, .int x4] [.int s0, .int s1, .ref t2] h Q ↔ (hK h t2 = 23 ∧ ixo (s1 + s0) (hN h t2) = true) ∧ ((hK h t2 = 23 ∧ ixo (s1 + s0) (hN h t2) = true) ∧ (Q (some (.int 1)) (sJ h t2 (Int32.toNatClampNeg (s1 + s0)) ((hJ h t2 (Int32.toNatClampNeg (s1 + s0))) + (Int32.toInt64 x4))))) :=
    (r_go (j := 29) (L' := [.ref r0, .int x1, .int x2, .int x3, .int x4]) (S' := [.int (s1 + s0), .ref t2]) (h' := h) rfl rfl rfl rfl).trans <|
    (r_go (j := 30) (L' := [.ref r0, .int x1, .int x2, .int x3, .int x4]) (S' := [.int (s1 + s0), .ref t2, .int (s1 + s0), .ref t2]) (h' := h) rfl rfl rfl rfl).trans <|
    (r_guard (j := 31) (L' := [.ref r0, .int x1, .int x2, .int x3, .int x4]) (S' := [.long (hJ h t2 (Int32.toNatClampNeg (s1 + s0))), .int (s1 + s0), .ref t2]) (h' := h) (p := hK h t2 = 23 ∧ ixo (s1 + s0) (hN h t2) = true) rfl rfl rfl rfl (and2 decide_eq_true_iff Iff.rfl)).trans <| and_r <|
    (r_go (j := 32) (L' := [.ref r0, .int x1, .int x2, .int x3, .int x4]) (S' := [.int x4, .long (hJ h t2 (Int32.toNatClampNeg (s1 + s0))), .int (s1 + s0), .ref t2]) (h' := h) rfl rfl rfl rfl).trans <|
    (r_go (j := 33) (L' := [.ref r0, .int x1, .int x2, .int x3, .int x4]) (S' := [.long (Int32.toInt64 x4), .long (hJ h t2 (Int32.toNatClampNeg (s1 + s0))), .int (s1 + s0), .ref t2]) (h' := h) rfl rfl rfl rfl).trans <|
    (r_go (j := 34) (L' := [.ref r0, .int x1, .int x2, .int x3, .int x4]) (S' := [.long ((hJ h t2 (Int32.toNatClampNeg (s1 + s0))) + (Int32.toInt64 x4)), .int (s1 + s0), .ref t2]) (h' := h) rfl rfl rfl rfl).trans <|
    (r_guard (j := 35) (L' := [.ref r0, .int x1, .int x2, .int x3, .int x4]) (S' := []) (h' := (sJ h t2 (Int32.toNatClampNeg (s1 + s0)) ((hJ h t2 (Int32.toNatClampNeg (s1 + s0))) + (Int32.toInt64 x4)))) (p := hK h t2 = 23 ∧ ixo (s1 + s0) (hN h t2) = true) rfl rfl rfl rfl (and2 decide_eq_true_iff Iff.rfl)).trans <| and_r <|
    (r_iconst (j := 36) (x := 1) rfl i32_1 rfl).trans <|
    r_ret rfl rfl rfl
theorem e_M_confess {d : Nat} (x1 x2 x3 x4 : Int32) (r0 : Nat) (h : AH) (Q : Option Value → AH → Prop) : Cl (d + 1) q_M_confess [.ref r0, .int x1, .int x2, .int x3, .int x4] h Q ↔ hK h r0 = 11 ∧ Wp d P_M_confess 0 [.ref r0, .int x1, .int x2, .int x3, .int x4] [] h (fun r h' => rtk (some .boolean) r = true ∧ Q r h') :=
    (Cl_method (t := m_M_confess) rfl).trans (and_congr_left fun _ => decide_eq_true_iff)
/-! PenThatJumpsModel.confessedOf(III)J -/
theorem b_M_confessedOf_0 {d : Nat} (x1 x2 x3 : Int32) (r0 : Nat) (h : AH) (Q : Option Value → AH → Prop) : Wp d P_M_confessedOf 0 [.ref r0, .int x1, .int x2, .int x3, .null, .null, .null, .null] [] h Q ↔ Wp d P_M_confessedOf 4 [.ref r0, .int x1, .int x2, .int x3, .long 0, .null, .int 0, .null] [] h Q :=
    (r_go (j := 1) (L' := [.ref r0, .int x1, .int x2, .int x3, .null, .null, .null, .null]) (S' := [.long 0]) (h' := h) rfl rfl rfl rfl).trans <|
    (r_go (j := 2) (L' := [.ref r0, .int x1, .int x2, .int x3, .long 0, .null, .null, .null]) (S' := []) (h' := h) rfl rfl rfl rfl).trans <|
    (r_iconst (j := 3) (x := 0) rfl i32_0 rfl).trans <|
    r_go (j := 4) (L' := [.ref r0, .int x1, .int x2, .int x3, .long 0, .null, .int 0, .null]) (S' := []) (h' := h) rfl rfl rfl rfl
theorem b_M_confessedOf_4 {d : Nat} (x1 x2 x3 x6 : Int32) (l4 : Int64) (r0 : Nat) (v7 : Value) (h : AH) (Q : Option Value → AH → Prop) : Wp d P_M_confessedOf 4 [.ref r0, .int x1, .int x2, .int x3, .long l4, .null, .int x6, v7] [] h Q ↔ (2 ≤ x6 → Wp d P_M_confessedOf 47 [.ref r0, .int x1, .int x2, .int x3, .long l4, .null, .int x6, v7] [] h Q) ∧ (¬ (2 ≤ x6) → Wp d P_M_confessedOf 7 [.ref r0, .int x1, .int x2, .int x3, .long l4, .null, .int x6, v7] [] h Q) :=
    (r_go (j := 5) (L' := [.ref r0, .int x1, .int x2, .int x3, .long l4, .null, .int x6, v7]) (S' := [.int x6]) (h' := h) rfl rfl rfl rfl).trans <|
    (r_iconst (j := 6) (x := 2) rfl i32_2 rfl).trans <|
    r_icmp (j := 7) rfl (cd_ge _ _) rfl
theorem b_M_confessedOf_7 {d : Nat} (x1 x2 x3 x6 : Int32) (l4 : Int64) (r0 : Nat) (v7 : Value) (h : AH) (Q : Option Value → AH → Prop) : Wp d P_M_confessedOf 7 [.ref r0, .int x1, .int x2, .int x3, .long l4, .null, .int x6, v7] [] h Q ↔ (x1 = 2 → Wp d P_M_confessedOf 22 [.ref r0, .int x1, .int x2, .int x3, .long l4, .null, .int x6, v7] [] h Q) ∧ (¬ (x1 = 2) → Wp d P_M_confessedOf 10 [.ref r0, .int x1, .int x2, .int x3, .long l4, .null, .int x6, v7] [] h Q) :=
    (r_go (j := 8) (L' := [.ref r0, .int x1, .int x2, .int x3, .long l4, .null, .int x6, v7]) (S' := [.int x1]) (h' := h) rfl rfl rfl rfl).trans <|
    (r_iconst (j := 9) (x := 2) rfl i32_2 rfl).trans <|
    r_icmp (j := 10) rfl (cd_eq _ _) rfl
theorem b_M_confessedOf_10 {d : Nat} (x1 x2 x3 x6 : Int32) (l4 : Int64) (r0 : Nat) (v7 : Value) (h : AH) (Q : Option Value → AH → Prop) : Wp d P_M_confessedOf 10 [.ref r0, .int x1, .int x2, .int x3, .long l4, .null, .int x6, v7] [] h Q ↔ (¬ x1 = 0 → Wp d P_M_confessedOf 14 [.ref r0, .int x1, .int x2, .int x3, .long l4, .null, .int x6, v7] [] h Q) ∧ (¬ (¬ x1 = 0) → Wp d P_M_confessedOf 12 [.ref r0, .int x1, .int x2, .int x3, .long l4, .null, .int x6, v7] [] h Q) :=
    (r_go (j := 11) (L' := [.ref r0, .int x1, .int x2, .int x3, .long l4, .null, .int x6, v7]) (S' := [.int x1]) (h' := h) rfl rfl rfl rfl).trans <|
    r_if (j := 12) rfl (cd_ne _ _) rfl
theorem b_M_confessedOf_12 {d : Nat} (x1 x2 x3 x6 : Int32) (l4 : Int64) (r0 : Nat) (v7 : Value) (h : AH) (Q : Option Value → AH → Prop) : Wp d P_M_confessedOf 12 [.ref r0, .int x1, .int x2, .int x3, .long l4, .null, .int x6, v7] [] h Q ↔ Wp d P_M_confessedOf 15 [.ref r0, .int x1, .int x2, .int x3, .long l4, .null, .int x6, v7] [.int 1] h Q :=
    (r_iconst (j := 13) (x := 1) rfl i32_1 rfl).trans <|
    r_go (j := 15) (L' := [.ref r0, .int x1, .int x2, .int x3, .long l4, .null, .int x6, v7]) (S' := [.int 1]) (h' := h) rfl rfl rfl rfl
theorem b_M_confessedOf_14 {d : Nat} (x1 x2 x3 x6 : Int32) (l4 : Int64) (r0 : Nat) (v7 : Value) (h : AH) (Q : Option Value → AH → Prop) : Wp d P_M_confessedOf 14 [.ref r0, .int x1, .int x2, .int x3, .long l4, .null, .int x6, v7] [] h Q ↔ Wp d P_M_confessedOf 15 [.ref r0, .int x1, .int x2, .int x3, .long l4, .null, .int x6, v7] [.int 0] h Q :=
    r_iconst (j := 15) (x := 0) rfl i32_0 rfl
theorem b_M_confessedOf_15 {d : Nat} (x1 x2 x3 x6 s0 : Int32) (l4 : Int64) (r0 : Nat) (v7 : Value) (h : AH) (Q : Option Value → AH → Prop) : Wp d P_M_confessedOf 15 [.ref r0, .int x1, .int x2, .int x3, .long l4, .null, .int x6, v7] [.int s0] h Q ↔ (¬ x6 = 1 → Wp d P_M_confessedOf 20 [.ref r0, .int x1, .int x2, .int x3, .long l4, .null, .int x6, v7] [.int s0] h Q) ∧ (¬ (¬ x6 = 1) → Wp d P_M_confessedOf 18 [.ref r0, .int x1, .int x2, .int x3, .long l4, .null, .int x6, v7] [.int s0] h Q) :=
    (r_go (j := 16) (L' := [.ref r0, .int x1, .int x2, .int x3, .long l4, .null, .int x6, v7]) (S' := [.int x6, .int s0]) (h' := h) rfl rfl rfl rfl).trans <|
    (r_iconst (j := 17) (x := 1) rfl i32_1 rfl).trans <|
    r_icmp (j := 18) rfl (cd_ne _ _) rfl
theorem b_M_confessedOf_18 {d : Nat} (x1 x2 x3 x6 s0 : Int32) (l4 : Int64) (r0 : Nat) (v7 : Value) (h : AH) (Q : Option Value → AH → Prop) : Wp d P_M_confessedOf 18 [.ref r0, .int x1, .int x2, .int x3, .long l4, .null, .int x6, v7] [.int s0] h Q ↔ Wp d P_M_confessedOf 21 [.ref r0, .int x1, .int x2, .int x3, .long l4, .null, .int x6, v7] [.int 1, .int s0] h Q :=
    (r_iconst (j := 19) (x := 1) rfl i32_1 rfl).trans <|
    r_go (j := 21) (L' := [.ref r0, .int x1, .int x2, .int x3, .long l4, .null, .int x6, v7]) (S' := [.int 1, .int s0]) (h' := h) rfl rfl rfl rfl
theorem b_M_confessedOf_20 {d : Nat} (x1 x2 x3 x6 s0 : Int32) (l4 : Int64) (r0 : Nat) (v7 : Value) (h : AH) (Q : Option Value → AH → Prop) : Wp d P_M_confessedOf 20 [.ref r0, .int x1, .int x2, .int x3, .long l4, .null, .int x6, v7] [.int s0] h Q ↔ Wp d P_M_confessedOf 21 [.ref r0, .int x1, .int x2, .int x3, .long l4, .null, .int x6, v7] [.int 0, .int s0] h Q :=
    r_iconst (j := 21) (x := 0) rfl i32_0 rfl
theorem b_M_confessedOf_21 {d : Nat} (x1 x2 x3 x6 s0 s1 : Int32) (l4 : Int64) (r0 : Nat) (v7 : Value) (h : AH) (Q : Option Value → AH → Prop) : Wp d P_M_confessedOf 21 [.ref r0, .int x1, .int x2, .int x3, .long l4, .null, .int x6, v7] [.int s0, .int s1] h Q ↔ (¬ s1 = s0 → Wp d P_M_confessedOf 24 [.ref r0, .int x1, .int x2, .int x3, .long l4, .null, .int x6, v7] [] h Q) ∧ (¬ (¬ s1 = s0) → Wp d P_M_confessedOf 22 [.ref r0, .int x1, .int x2, .int x3, .long l4, .null, .int x6, v7] [] h Q) :=
    r_icmp (j := 22) rfl (cd_ne _ _) rfl
theorem b_M_confessedOf_22 {d : Nat} (x1 x2 x3 x6 : Int32) (l4 : Int64) (r0 : Nat) (v7 : Value) (h : AH) (Q : Option Value → AH → Prop) : Wp d P_M_confessedOf 22 [.ref r0, .int x1, .int x2, .int x3, .long l4, .null, .int x6, v7] [] h Q ↔ Wp d P_M_confessedOf 25 [.ref r0, .int x1, .int x2, .int x3, .long l4, .null, .int x6, v7] [.int 1] h Q :=
    (r_iconst (j := 23) (x := 1) rfl i32_1 rfl).trans <|
    r_go (j := 25) (L' := [.ref r0, .int x1, .int x2, .int x3, .long l4, .null, .int x6, v7]) (S' := [.int 1]) (h' := h) rfl rfl rfl rfl
theorem b_M_confessedOf_24 {d : Nat} (x1 x2 x3 x6 : Int32) (l4 : Int64) (r0 : Nat) (v7 : Value) (h : AH) (Q : Option Value → AH → Prop) : Wp d P_M_confessedOf 24 [.ref r0, .int x1, .int x2, .int x3, .long l4, .null, .int x6, v7] [] h Q ↔ Wp d P_M_confessedOf 25 [.ref r0, .int x1, .int x2, .int x3, .long l4, .null, .int x6, v7] [.int 0] h Q :=
    r_iconst (j := 25) (x := 0) rfl i32_0 rfl
theorem b_M_confessedOf_25 {d : Nat} (x1 x2 x3 x6 s0 : Int32) (l4 : Int64) (r0 : Nat) (v7 : Value) (h : AH) (Q : Option Value → AH → Prop) : Wp d P_M_confessedOf 25 [.ref r0, .int x1, .int x2, .int x3, .long l4, .null, .int x6, v7] [.int s0] h Q ↔ (s0 = 0 → Wp d P_M_confessedOf 42 [.ref r0, .int x1, .int x2, .int x3, .long l4, .null, .int x6, .int s0] [.long l4] h Q) ∧ (¬ (s0 = 0) → Wp d P_M_confessedOf 29 [.ref r0, .int x1, .int x2, .int x3, .long l4, .null, .int x6, .int s0] [.long l4] h Q) :=
    (r_go (j := 26) (L' := [.ref r0, .int x1, .int x2, .int x3, .long l4, .null, .int x6, .int s0]) (S' := []) (h' := h) rfl rfl rfl rfl).trans <|
    (r_go (j := 27) (L' := [.ref r0, .int x1, .int x2, .int x3, .long l4, .null, .int x6, .int s0]) (S' := [.long l4]) (h' := h) rfl rfl rfl rfl).trans <|
    (r_go (j := 28) (L' := [.ref r0, .int x1, .int x2, .int x3, .long l4, .null, .int x6, .int s0]) (S' := [.int s0, .long l4]) (h' := h) rfl rfl rfl rfl).trans <|
    r_if (j := 29) rfl (cd_eq _ _) rfl
theorem b_M_confessedOf_29 {d : Nat} (x1 x2 x3 x6 x7 : Int32) (l4 k0 : Int64) (r0 : Nat) (h : AH) (Q : Option Value → AH → Prop) : Wp d P_M_confessedOf 29 [.ref r0, .int x1, .int x2, .int x3, .long l4, .null, .int x6, .int x7] [.long k0] h Q ↔ (hK h r0 = 11) ∧ ((hK h (hR h r0 38) = 23 ∧ ixo (((4 * x6) + (2 * x2)) + x3) (hN h (hR h r0 38)) = true) ∧ (Wp d P_M_confessedOf 43 [.ref r0, .int x1, .int x2, .int x3, .long l4, .null, .int x6, .int x7] [.long (hJ h (hR h r0 38) (Int32.toNatClampNeg (((4 * x6) + (2 * x2)) + x3))), .long k0] h Q)) :=
    (r_go (j := 30) (L' := [.ref r0, .int x1, .int x2, .int x3, .long l4, .null, .int x6, .int x7]) (S' := [.ref r0, .long k0]) (h' := h) rfl rfl rfl rfl).trans <|
    (r_guard (j := 31) (L' := [.ref r0, .int x1, .int x2, .int x3, .long l4, .null, .int x6, .int x7]) (S' := [.ref (hR h r0 38), .long k0]) (h' := h) (p := hK h r0 = 11) rfl rfl rfl rfl (decide_eq_true_iff)).trans <| and_r <|
    (r_iconst (j := 32) (x := 4) rfl i32_4 rfl).trans <|
    (r_go (j := 33) (L' := [.ref r0, .int x1, .int x2, .int x3, .long l4, .null, .int x6, .int x7]) (S' := [.int x6, .int 4, .ref (hR h r0 38), .long k0]) (h' := h) rfl rfl rfl rfl).trans <|
    (r_go (j := 34) (L' := [.ref r0, .int x1, .int x2, .int x3, .long l4, .null, .int x6, .int x7]) (S' := [.int (4 * x6), .ref (hR h r0 38), .long k0]) (h' := h) rfl rfl rfl rfl).trans <|
    (r_iconst (j := 35) (x := 2) rfl i32_2 rfl).trans <|
    (r_go (j := 36) (L' := [.ref r0, .int x1, .int x2, .int x3, .long l4, .null, .int x6, .int x7]) (S' := [.int x2, .int 2, .int (4 * x6), .ref (hR h r0 38), .long k0]) (h' := h) rfl rfl rfl rfl).trans <|
    (r_go (j := 37) (L' := [.ref r0, .int x1, .int x2, .int x3, .long l4, .null, .int x6, .int x7]) (S' := [.int (2 * x2), .int (4 * x6), .ref (hR h r0 38), .long k0]) (h' := h) rfl rfl rfl rfl).trans <|
    (r_go (j := 38) (L' := [.ref r0, .int x1, .int x2, .int x3, .long l4, .null, .int x6, .int x7]) (S' := [.int ((4 * x6) + (2 * x2)), .ref (hR h r0 38), .long k0]) (h' := h) rfl rfl rfl rfl).trans <|
    (r_go (j := 39) (L' := [.ref r0, .int x1, .int x2, .int x3, .long l4, .null, .int x6, .int x7]) (S' := [.int x3, .int ((4 * x6) + (2 * x2)), .ref (hR h r0 38), .long k0]) (h' := h) rfl rfl rfl rfl).trans <|
    (r_go (j := 40) (L' := [.ref r0, .int x1, .int x2, .int x3, .long l4, .null, .int x6, .int x7]) (S' := [.int (((4 * x6) + (2 * x2)) + x3), .ref (hR h r0 38), .long k0]) (h' := h) rfl rfl rfl rfl).trans <|
    (r_guard (j := 41) (L' := [.ref r0, .int x1, .int x2, .int x3, .long l4, .null, .int x6, .int x7]) (S' := [.long (hJ h (hR h r0 38) (Int32.toNatClampNeg (((4 * x6) + (2 * x2)) + x3))), .long k0]) (h' := h) (p := hK h (hR h r0 38) = 23 ∧ ixo (((4 * x6) + (2 * x2)) + x3) (hN h (hR h r0 38)) = true) rfl rfl rfl rfl (and2 decide_eq_true_iff Iff.rfl)).trans <| and_r <|
    r_go (j := 43) (L' := [.ref r0, .int x1, .int x2, .int x3, .long l4, .null, .int x6, .int x7]) (S' := [.long (hJ h (hR h r0 38) (Int32.toNatClampNeg (((4 * x6) + (2 * x2)) + x3))), .long k0]) (h' := h) rfl rfl rfl rfl
theorem b_M_confessedOf_42 {d : Nat} (x1 x2 x3 x6 x7 : Int32) (l4 k0 : Int64) (r0 : Nat) (h : AH) (Q : Option Value → AH → Prop) : Wp d P_M_confessedOf 42 [.ref r0, .int x1, .int x2, .int x3, .long l4, .null, .int x6, .int x7] [.long k0] h Q ↔ Wp d P_M_confessedOf 43 [.ref r0, .int x1, .int x2, .int x3, .long l4, .null, .int x6, .int x7] [.long 0, .long k0] h Q :=
    r_go (j := 43) (L' := [.ref r0, .int x1, .int x2, .int x3, .long l4, .null, .int x6, .int x7]) (S' := [.long 0, .long k0]) (h' := h) rfl rfl rfl rfl
theorem b_M_confessedOf_43 {d : Nat} (x1 x2 x3 x6 x7 : Int32) (l4 k0 k1 : Int64) (r0 : Nat) (h : AH) (Q : Option Value → AH → Prop) : Wp d P_M_confessedOf 43 [.ref r0, .int x1, .int x2, .int x3, .long l4, .null, .int x6, .int x7] [.long k0, .long k1] h Q ↔ Wp d P_M_confessedOf 4 [.ref r0, .int x1, .int x2, .int x3, .long (k1 + k0), .null, .int (x6 + 1), .int x7] [] h Q :=
    (r_go (j := 44) (L' := [.ref r0, .int x1, .int x2, .int x3, .long l4, .null, .int x6, .int x7]) (S' := [.long (k1 + k0)]) (h' := h) rfl rfl rfl rfl).trans <|
    (r_go (j := 45) (L' := [.ref r0, .int x1, .int x2, .int x3, .long (k1 + k0), .null, .int x6, .int x7]) (S' := []) (h' := h) rfl rfl rfl rfl).trans <|
    (r_iinc (j := 46) (x := 1) (L' := [.ref r0, .int x1, .int x2, .int x3, .long (k1 + k0), .null, .int (x6 + 1), .int x7]) rfl rfl i32_1 rfl rfl).trans <|
    r_go (j := 4) (L' := [.ref r0, .int x1, .int x2, .int x3, .long (k1 + k0), .null, .int (x6 + 1), .int x7]) (S' := []) (h' := h) rfl rfl rfl rfl
theorem b_M_confessedOf_47 {d : Nat} (x1 x2 x3 x6 : Int32) (l4 : Int64) (r0 : Nat) (v7 : Value) (h : AH) (Q : Option Value → AH → Prop) : Wp d P_M_confessedOf 47 [.ref r0, .int x1, .int x2, .int x3, .long l4, .null, .int x6, v7] [] h Q ↔ Q (some (.long l4)) h :=
    (r_go (j := 48) (L' := [.ref r0, .int x1, .int x2, .int x3, .long l4, .null, .int x6, v7]) (S' := [.long l4]) (h' := h) rfl rfl rfl rfl).trans <|
    r_ret rfl rfl rfl
theorem e_M_confessedOf {d : Nat} (x1 x2 x3 : Int32) (r0 : Nat) (h : AH) (Q : Option Value → AH → Prop) : Cl (d + 1) q_M_confessedOf [.ref r0, .int x1, .int x2, .int x3] h Q ↔ hK h r0 = 11 ∧ Wp d P_M_confessedOf 0 [.ref r0, .int x1, .int x2, .int x3, .null, .null, .null, .null] [] h (fun r h' => rtk (some .long) r = true ∧ Q r h') :=
    (Cl_method (t := m_M_confessedOf) rfl).trans (and_congr_left fun _ => decide_eq_true_iff)
/-! PenThatJumpsModel.worth(II)J -/
theorem b_M_worth_0 {d : Nat} (x1 x2 : Int32) (r0 : Nat) (h : AH) (Q : Option Value → AH → Prop) : Wp d P_M_worth 0 [.ref r0, .int x1, .int x2, .null, .null, .null, .null, .null, .null, .null, .null] [] h Q ↔ Cl d q_M_within [.int x1, .int 0, .int 2] h (fun r h' => Wp d P_M_worth 5 [.ref r0, .int x1, .int x2, .null, .null, .null, .null, .null, .null, .null, .null] (r.toList ++ [.ref r0]) h' Q) :=
    (r_go (j := 1) (L' := [.ref r0, .int x1, .int x2, .null, .null, .null, .null, .null, .null, .null, .null]) (S' := [.ref r0]) (h' := h) rfl rfl rfl rfl).trans <|
    (r_go (j := 2) (L' := [.ref r0, .int x1, .int x2, .null, .null, .null, .null, .null, .null, .null, .null]) (S' := [.int x1, .ref r0]) (h' := h) rfl rfl rfl rfl).trans <|
    (r_iconst (j := 3) (x := 0) rfl i32_0 rfl).trans <|
    (r_iconst (j := 4) (x := 2) rfl i32_2 rfl).trans <|
    r_call (j := 5) (a := [.int x1, .int 0, .int 2]) (S' := [.ref r0]) rfl rfl rfl rfl rfl rfl rfl
theorem b_M_worth_5 {d : Nat} (x1 x2 s0 : Int32) (r0 t1 : Nat) (h : AH) (Q : Option Value → AH → Prop) : Wp d P_M_worth 5 [.ref r0, .int x1, .int x2, .null, .null, .null, .null, .null, .null, .null, .null] [.int s0, .ref t1] h Q ↔ (s0 = 0 → Wp d P_M_worth 13 [.ref r0, .int x1, .int x2, .null, .null, .null, .null, .null, .null, .null, .null] [.ref t1] h Q) ∧ (¬ (s0 = 0) → Wp d P_M_worth 6 [.ref r0, .int x1, .int x2, .null, .null, .null, .null, .null, .null, .null, .null] [.ref t1] h Q) :=
    r_if (j := 6) rfl (cd_eq _ _) rfl
theorem b_M_worth_6 {d : Nat} (x1 x2 : Int32) (r0 t0 : Nat) (h : AH) (Q : Option Value → AH → Prop) : Wp d P_M_worth 6 [.ref r0, .int x1, .int x2, .null, .null, .null, .null, .null, .null, .null, .null] [.ref t0] h Q ↔ Cl d q_M_within [.int x2, .int 0, .int 1] h (fun r h' => Wp d P_M_worth 10 [.ref r0, .int x1, .int x2, .null, .null, .null, .null, .null, .null, .null, .null] (r.toList ++ [.ref t0]) h' Q) :=
    (r_go (j := 7) (L' := [.ref r0, .int x1, .int x2, .null, .null, .null, .null, .null, .null, .null, .null]) (S' := [.int x2, .ref t0]) (h' := h) rfl rfl rfl rfl).trans <|
    (r_iconst (j := 8) (x := 0) rfl i32_0 rfl).trans <|
    (r_iconst (j := 9) (x := 1) rfl i32_1 rfl).trans <|
    r_call (j := 10) (a := [.int x2, .int 0, .int 1]) (S' := [.ref t0]) rfl rfl rfl rfl rfl rfl rfl
theorem b_M_worth_10 {d : Nat} (x1 x2 s0 : Int32) (r0 t1 : Nat) (h : AH) (Q : Option Value → AH → Prop) : Wp d P_M_worth 10 [.ref r0, .int x1, .int x2, .null, .null, .null, .null, .null, .null, .null, .null] [.int s0, .ref t1] h Q ↔ (s0 = 0 → Wp d P_M_worth 13 [.ref r0, .int x1, .int x2, .null, .null, .null, .null, .null, .null, .null, .null] [.ref t1] h Q) ∧ (¬ (s0 = 0) → Wp d P_M_worth 11 [.ref r0, .int x1, .int x2, .null, .null, .null, .null, .null, .null, .null, .null] [.ref t1] h Q) :=
    r_if (j := 11) rfl (cd_eq _ _) rfl
theorem b_M_worth_11 {d : Nat} (x1 x2 : Int32) (r0 t0 : Nat) (h : AH) (Q : Option Value → AH → Prop) : Wp d P_M_worth 11 [.ref r0, .int x1, .int x2, .null, .null, .null, .null, .null, .null, .null, .null] [.ref t0] h Q ↔ Wp d P_M_worth 14 [.ref r0, .int x1, .int x2, .null, .null, .null, .null, .null, .null, .null, .null] [.int 0, .ref t0] h Q :=
    (r_iconst (j := 12) (x := 0) rfl i32_0 rfl).trans <|
    r_go (j := 14) (L' := [.ref r0, .int x1, .int x2, .null, .null, .null, .null, .null, .null, .null, .null]) (S' := [.int 0, .ref t0]) (h' := h) rfl rfl rfl rfl
theorem b_M_worth_13 {d : Nat} (x1 x2 : Int32) (r0 t0 : Nat) (h : AH) (Q : Option Value → AH → Prop) : Wp d P_M_worth 13 [.ref r0, .int x1, .int x2, .null, .null, .null, .null, .null, .null, .null, .null] [.ref t0] h Q ↔ Wp d P_M_worth 14 [.ref r0, .int x1, .int x2, .null, .null, .null, .null, .null, .null, .null, .null] [.int 1, .ref t0] h Q :=
    r_iconst (j := 14) (x := 1) rfl i32_1 rfl
theorem b_M_worth_14 {d : Nat} (x1 x2 s0 : Int32) (r0 t1 : Nat) (h : AH) (Q : Option Value → AH → Prop) : Wp d P_M_worth 14 [.ref r0, .int x1, .int x2, .null, .null, .null, .null, .null, .null, .null, .null] [.int s0, .ref t1] h Q ↔ (hK h t1 = 11) ∧ ((hK (sI h t1 0 s0) r0 = 11) ∧ (((hI (sI h t1 0 s0) r0 0) ≤ 0 → Wp d P_M_worth 20 [.ref r0, .int x1, .int x2, .null, .null, .null, .null, .null, .null, .null, .null] [] (sI h t1 0 s0) Q) ∧ (¬ ((hI (sI h t1 0 s0) r0 0) ≤ 0) → Wp d P_M_worth 18 [.ref r0, .int x1, .int x2, .null, .null, .null, .null, .null, .null, .null, .null] [] (sI h t1 0 s0) Q))) :=
    (r_guard (j := 15) (L' := [.ref r0, .int x1, .int x2, .null, .null, .null, .null, .null, .null, .null, .null]) (S' := []) (h' := (sI h t1 0 s0)) (p := hK h t1 = 11) rfl rfl rfl rfl (pfI rfl)).trans <| and_r <|
    (r_go (j := 16) (L' := [.ref r0, .int x1, .int x2, .null, .null, .null, .null, .null, .null, .null, .null]) (S' := [.ref r0]) (h' := (sI h t1 0 s0)) rfl rfl rfl rfl).trans <|
    (r_guard (j := 17) (L' := [.ref r0, .int x1, .int x2, .null, .null, .null, .null, .null, .null, .null, .null]) (S' := [.int (hI (sI h t1 0 s0) r0 0)]) (h' := (sI h t1 0 s0)) (p := hK (sI h t1 0 s0) r0 = 11) rfl rfl rfl rfl (decide_eq_true_iff)).trans <| and_r <|
    r_if (j := 18) rfl (cd_le _ _) rfl
theorem b_M_worth_18 {d : Nat} (x1 x2 : Int32) (r0 : Nat) (h : AH) (Q : Option Value → AH → Prop) : Wp d P_M_worth 18 [.ref r0, .int x1, .int x2, .null, .null, .null, .null, .null, .null, .null, .null] [] h Q ↔ Q (some (.long 0)) h :=
    (r_go (j := 19) (L' := [.ref r0, .int x1, .int x2, .null, .null, .null, .null, .null, .null, .null, .null]) (S' := [.long 0]) (h' := h) rfl rfl rfl rfl).trans <|
    r_ret rfl rfl rfl
theorem b_M_worth_20 {d : Nat} (x1 x2 : Int32) (r0 : Nat) (h : AH) (Q : Option Value → AH → Prop) : Wp d P_M_worth 20 [.ref r0, .int x1, .int x2, .null, .null, .null, .null, .null, .null, .null, .null] [] h Q ↔ Cl d q_M_confessedOf [.ref r0, .int x1, .int 1, .int 1] h (fun r h' => Wp d P_M_worth 25 [.ref r0, .int x1, .int x2, .null, .null, .null, .null, .null, .null, .null, .null] (r.toList ++ []) h' Q) :=
    (r_go (j := 21) (L' := [.ref r0, .int x1, .int x2, .null, .null, .null, .null, .null, .null, .null, .null]) (S' := [.ref r0]) (h' := h) rfl rfl rfl rfl).trans <|
    (r_go (j := 22) (L' := [.ref r0, .int x1, .int x2, .null, .null, .null, .null, .null, .null, .null, .null]) (S' := [.int x1, .ref r0]) (h' := h) rfl rfl rfl rfl).trans <|
    (r_iconst (j := 23) (x := 1) rfl i32_1 rfl).trans <|
    (r_iconst (j := 24) (x := 1) rfl i32_1 rfl).trans <|
    r_call (j := 25) (a := [.ref r0, .int x1, .int 1, .int 1]) (S' := []) rfl rfl rfl rfl rfl rfl rfl
theorem b_M_worth_25 {d : Nat} (x1 x2 : Int32) (k0 : Int64) (r0 : Nat) (h : AH) (Q : Option Value → AH → Prop) : Wp d P_M_worth 25 [.ref r0, .int x1, .int x2, .null, .null, .null, .null, .null, .null, .null, .null] [.long k0] h Q ↔ Cl d q_M_confessedOf [.ref r0, .int x1, .int 1, .int 0] h (fun r h' => Wp d P_M_worth 32 [.ref r0, .int x1, .int x2, .long k0, .null, .null, .null, .null, .null, .null, .null] (r.toList ++ [.long k0]) h' Q) :=
    (r_go (j := 26) (L' := [.ref r0, .int x1, .int x2, .long k0, .null, .null, .null, .null, .null, .null, .null]) (S' := []) (h' := h) rfl rfl rfl rfl).trans <|
    (r_go (j := 27) (L' := [.ref r0, .int x1, .int x2, .long k0, .null, .null, .null, .null, .null, .null, .null]) (S' := [.long k0]) (h' := h) rfl rfl rfl rfl).trans <|
    (r_go (j := 28) (L' := [.ref r0, .int x1, .int x2, .long k0, .null, .null, .null, .null, .null, .null, .null]) (S' := [.ref r0, .long k0]) (h' := h) rfl rfl rfl rfl).trans <|
    (r_go (j := 29) (L' := [.ref r0, .int x1, .int x2, .long k0, .null, .null, .null, .null, .null, .null, .null]) (S' := [.int x1, .ref r0, .long k0]) (h' := h) rfl rfl rfl rfl).trans <|
    (r_iconst (j := 30) (x := 1) rfl i32_1 rfl).trans <|
    (r_iconst (j := 31) (x := 0) rfl i32_0 rfl).trans <|
    r_call (j := 32) (a := [.ref r0, .int x1, .int 1, .int 0]) (S' := [.long k0]) rfl rfl rfl rfl rfl rfl rfl
theorem b_M_worth_32 {d : Nat} (x1 x2 : Int32) (l3 k0 k1 : Int64) (r0 : Nat) (h : AH) (Q : Option Value → AH → Prop) : Wp d P_M_worth 32 [.ref r0, .int x1, .int x2, .long l3, .null, .null, .null, .null, .null, .null, .null] [.long k0, .long k1] h Q ↔ Cl d q_M_confessedOf [.ref r0, .int x1, .int 0, .int 1] h (fun r h' => Wp d P_M_worth 39 [.ref r0, .int x1, .int x2, .long l3, .null, .long (k1 + k0), .null, .null, .null, .null, .null] (r.toList ++ []) h' Q) :=
    (r_go (j := 33) (L' := [.ref r0, .int x1, .int x2, .long l3, .null, .null, .null, .null, .null, .null, .null]) (S' := [.long (k1 + k0)]) (h' := h) rfl rfl rfl rfl).trans <|
    (r_go (j := 34) (L' := [.ref r0, .int x1, .int x2, .long l3, .null, .long (k1 + k0), .null, .null, .null, .null, .null]) (S' := []) (h' := h) rfl rfl rfl rfl).trans <|
    (r_go (j := 35) (L' := [.ref r0, .int x1, .int x2, .long l3, .null, .long (k1 + k0), .null, .null, .null, .null, .null]) (S' := [.ref r0]) (h' := h) rfl rfl rfl rfl).trans <|
    (r_go (j := 36) (L' := [.ref r0, .int x1, .int x2, .long l3, .null, .long (k1 + k0), .null, .null, .null, .null, .null]) (S' := [.int x1, .ref r0]) (h' := h) rfl rfl rfl rfl).trans <|
    (r_iconst (j := 37) (x := 0) rfl i32_0 rfl).trans <|
    (r_iconst (j := 38) (x := 1) rfl i32_1 rfl).trans <|
    r_call (j := 39) (a := [.ref r0, .int x1, .int 0, .int 1]) (S' := []) rfl rfl rfl rfl rfl rfl rfl
theorem b_M_worth_39 {d : Nat} (x1 x2 : Int32) (l3 l5 k0 : Int64) (r0 : Nat) (h : AH) (Q : Option Value → AH → Prop) : Wp d P_M_worth 39 [.ref r0, .int x1, .int x2, .long l3, .null, .long l5, .null, .null, .null, .null, .null] [.long k0] h Q ↔ Cl d q_M_confessedOf [.ref r0, .int x1, .int 0, .int 0] h (fun r h' => Wp d P_M_worth 46 [.ref r0, .int x1, .int x2, .long l3, .null, .long l5, .null, .long k0, .null, .null, .null] (r.toList ++ [.long k0]) h' Q) :=
    (r_go (j := 40) (L' := [.ref r0, .int x1, .int x2, .long l3, .null, .long l5, .null, .long k0, .null, .null, .null]) (S' := []) (h' := h) rfl rfl rfl rfl).trans <|
    (r_go (j := 41) (L' := [.ref r0, .int x1, .int x2, .long l3, .null, .long l5, .null, .long k0, .null, .null, .null]) (S' := [.long k0]) (h' := h) rfl rfl rfl rfl).trans <|
    (r_go (j := 42) (L' := [.ref r0, .int x1, .int x2, .long l3, .null, .long l5, .null, .long k0, .null, .null, .null]) (S' := [.ref r0, .long k0]) (h' := h) rfl rfl rfl rfl).trans <|
    (r_go (j := 43) (L' := [.ref r0, .int x1, .int x2, .long l3, .null, .long l5, .null, .long k0, .null, .null, .null]) (S' := [.int x1, .ref r0, .long k0]) (h' := h) rfl rfl rfl rfl).trans <|
    (r_iconst (j := 44) (x := 0) rfl i32_0 rfl).trans <|
    (r_iconst (j := 45) (x := 0) rfl i32_0 rfl).trans <|
    r_call (j := 46) (a := [.ref r0, .int x1, .int 0, .int 0]) (S' := [.long k0]) rfl rfl rfl rfl rfl rfl rfl
theorem b_M_worth_46 {d : Nat} (x1 x2 : Int32) (l3 l5 l7 k0 k1 : Int64) (r0 : Nat) (h : AH) (Q : Option Value → AH → Prop) : Wp d P_M_worth 46 [.ref r0, .int x1, .int x2, .long l3, .null, .long l5, .null, .long l7, .null, .null, .null] [.long k0, .long k1] h Q ↔ ((lg_cmp l5 0) = 0 → Wp d P_M_worth 57 [.ref r0, .int x1, .int x2, .long l3, .null, .long l5, .null, .long l7, .null, .long (k1 + k0), .null] [.ref r0] h Q) ∧ (¬ ((lg_cmp l5 0) = 0) → Wp d P_M_worth 53 [.ref r0, .int x1, .int x2, .long l3, .null, .long l5, .null, .long l7, .null, .long (k1 + k0), .null] [.ref r0] h Q) :=
    (r_go (j := 47) (L' := [.ref r0, .int x1, .int x2, .long l3, .null, .long l5, .null, .long l7, .null, .null, .null]) (S' := [.long (k1 + k0)]) (h' := h) rfl rfl rfl rfl).trans <|
    (r_go (j := 48) (L' := [.ref r0, .int x1, .int x2, .long l3, .null, .long l5, .null, .long l7, .null, .long (k1 + k0), .null]) (S' := []) (h' := h) rfl rfl rfl rfl).trans <|
    (r_go (j := 49) (L' := [.ref r0, .int x1, .int x2, .long l3, .null, .long l5, .null, .long l7, .null, .long (k1 + k0), .null]) (S' := [.ref r0]) (h' := h) rfl rfl rfl rfl).trans <|
    (r_go (j := 50) (L' := [.ref r0, .int x1, .int x2, .long l3, .null, .long l5, .null, .long l7, .null, .long (k1 + k0), .null]) (S' := [.long l5, .ref r0]) (h' := h) rfl rfl rfl rfl).trans <|
    (r_go (j := 51) (L' := [.ref r0, .int x1, .int x2, .long l3, .null, .long l5, .null, .long l7, .null, .long (k1 + k0), .null]) (S' := [.long 0, .long l5, .ref r0]) (h' := h) rfl rfl rfl rfl).trans <|
    (r_go (j := 52) (L' := [.ref r0, .int x1, .int x2, .long l3, .null, .long l5, .null, .long l7, .null, .long (k1 + k0), .null]) (S' := [.int (lg_cmp l5 0), .ref r0]) (h' := h) rfl rfl rfl rfl).trans <|
    r_if (j := 53) rfl (cd_eq _ _) rfl
theorem b_M_worth_53 {d : Nat} (x1 x2 : Int32) (l3 l5 l7 l9 : Int64) (r0 t0 : Nat) (h : AH) (Q : Option Value → AH → Prop) : Wp d P_M_worth 53 [.ref r0, .int x1, .int x2, .long l3, .null, .long l5, .null, .long l7, .null, .long l9, .null] [.ref t0] h Q ↔ (¬ (lg_cmp l9 0) = 0 → Wp d P_M_worth 59 [.ref r0, .int x1, .int x2, .long l3, .null, .long l5, .null, .long l7, .null, .long l9, .null] [.ref t0] h Q) ∧ (¬ (¬ (lg_cmp l9 0) = 0) → Wp d P_M_worth 57 [.ref r0, .int x1, .int x2, .long l3, .null, .long l5, .null, .long l7, .null, .long l9, .null] [.ref t0] h Q) :=
    (r_go (j := 54) (L' := [.ref r0, .int x1, .int x2, .long l3, .null, .long l5, .null, .long l7, .null, .long l9, .null]) (S' := [.long l9, .ref t0]) (h' := h) rfl rfl rfl rfl).trans <|
    (r_go (j := 55) (L' := [.ref r0, .int x1, .int x2, .long l3, .null, .long l5, .null, .long l7, .null, .long l9, .null]) (S' := [.long 0, .long l9, .ref t0]) (h' := h) rfl rfl rfl rfl).trans <|
    (r_go (j := 56) (L' := [.ref r0, .int x1, .int x2, .long l3, .null, .long l5, .null, .long l7, .null, .long l9, .null]) (S' := [.int (lg_cmp l9 0), .ref t0]) (h' := h) rfl rfl rfl rfl).trans <|
    r_if (j := 57) rfl (cd_ne _ _) rfl
theorem b_M_worth_57 {d : Nat} (x1 x2 : Int32) (l3 l5 l7 l9 : Int64) (r0 t0 : Nat) (h : AH) (Q : Option Value → AH → Prop) : Wp d P_M_worth 57 [.ref r0, .int x1, .int x2, .long l3, .null, .long l5, .null, .long l7, .null, .long l9, .null] [.ref t0] h Q ↔ Wp d P_M_worth 60 [.ref r0, .int x1, .int x2, .long l3, .null, .long l5, .null, .long l7, .null, .long l9, .null] [.int 1, .ref t0] h Q :=
    (r_iconst (j := 58) (x := 1) rfl i32_1 rfl).trans <|
    r_go (j := 60) (L' := [.ref r0, .int x1, .int x2, .long l3, .null, .long l5, .null, .long l7, .null, .long l9, .null]) (S' := [.int 1, .ref t0]) (h' := h) rfl rfl rfl rfl
theorem b_M_worth_59 {d : Nat} (x1 x2 : Int32) (l3 l5 l7 l9 : Int64) (r0 t0 : Nat) (h : AH) (Q : Option Value → AH → Prop) : Wp d P_M_worth 59 [.ref r0, .int x1, .int x2, .long l3, .null, .long l5, .null, .long l7, .null, .long l9, .null] [.ref t0] h Q ↔ Wp d P_M_worth 60 [.ref r0, .int x1, .int x2, .long l3, .null, .long l5, .null, .long l7, .null, .long l9, .null] [.int 0, .ref t0] h Q :=
    r_iconst (j := 60) (x := 0) rfl i32_0 rfl
theorem b_M_worth_60 {d : Nat} (x1 x2 s0 : Int32) (l3 l5 l7 l9 : Int64) (r0 t1 : Nat) (h : AH) (Q : Option Value → AH → Prop) : Wp d P_M_worth 60 [.ref r0, .int x1, .int x2, .long l3, .null, .long l5, .null, .long l7, .null, .long l9, .null] [.int s0, .ref t1] h Q ↔ (hK h t1 = 11) ∧ ((hK (sI h t1 0 s0) r0 = 11) ∧ (((hI (sI h t1 0 s0) r0 0) ≤ 0 → Wp d P_M_worth 66 [.ref r0, .int x1, .int x2, .long l3, .null, .long l5, .null, .long l7, .null, .long l9, .null] [] (sI h t1 0 s0) Q) ∧ (¬ ((hI (sI h t1 0 s0) r0 0) ≤ 0) → Wp d P_M_worth 64 [.ref r0, .int x1, .int x2, .long l3, .null, .long l5, .null, .long l7, .null, .long l9, .null] [] (sI h t1 0 s0) Q))) :=
    (r_guard (j := 61) (L' := [.ref r0, .int x1, .int x2, .long l3, .null, .long l5, .null, .long l7, .null, .long l9, .null]) (S' := []) (h' := (sI h t1 0 s0)) (p := hK h t1 = 11) rfl rfl rfl rfl (pfI rfl)).trans <| and_r <|
    (r_go (j := 62) (L' := [.ref r0, .int x1, .int x2, .long l3, .null, .long l5, .null, .long l7, .null, .long l9, .null]) (S' := [.ref r0]) (h' := (sI h t1 0 s0)) rfl rfl rfl rfl).trans <|
    (r_guard (j := 63) (L' := [.ref r0, .int x1, .int x2, .long l3, .null, .long l5, .null, .long l7, .null, .long l9, .null]) (S' := [.int (hI (sI h t1 0 s0) r0 0)]) (h' := (sI h t1 0 s0)) (p := hK (sI h t1 0 s0) r0 = 11) rfl rfl rfl rfl (decide_eq_true_iff)).trans <| and_r <|
    r_if (j := 64) rfl (cd_le _ _) rfl
theorem b_M_worth_64 {d : Nat} (x1 x2 : Int32) (l3 l5 l7 l9 : Int64) (r0 : Nat) (h : AH) (Q : Option Value → AH → Prop) : Wp d P_M_worth 64 [.ref r0, .int x1, .int x2, .long l3, .null, .long l5, .null, .long l7, .null, .long l9, .null] [] h Q ↔ Wp d P_M_worth 78 [.ref r0, .int x1, .int x2, .long l3, .null, .long l5, .null, .long l7, .null, .long l9, .null] [.long 0] h Q :=
    (r_go (j := 65) (L' := [.ref r0, .int x1, .int x2, .long l3, .null, .long l5, .null, .long l7, .null, .long l9, .null]) (S' := [.long 0]) (h' := h) rfl rfl rfl rfl).trans <|
    r_go (j := 78) (L' := [.ref r0, .int x1, .int x2, .long l3, .null, .long l5, .null, .long l7, .null, .long l9, .null]) (S' := [.long 0]) (h' := h) rfl rfl rfl rfl
theorem b_M_worth_66 {d : Nat} (x1 x2 : Int32) (l3 l5 l7 l9 : Int64) (r0 : Nat) (h : AH) (Q : Option Value → AH → Prop) : Wp d P_M_worth 66 [.ref r0, .int x1, .int x2, .long l3, .null, .long l5, .null, .long l7, .null, .long l9, .null] [] h Q ↔ Cl d q_M_lowest [.long ((l3 * l9) - (l7 * l5)), .long (l5 * l9), .int x2] h (fun r h' => Wp d P_M_worth 78 [.ref r0, .int x1, .int x2, .long l3, .null, .long l5, .null, .long l7, .null, .long l9, .null] (r.toList ++ []) h' Q) :=
    (r_go (j := 67) (L' := [.ref r0, .int x1, .int x2, .long l3, .null, .long l5, .null, .long l7, .null, .long l9, .null]) (S' := [.long l3]) (h' := h) rfl rfl rfl rfl).trans <|
    (r_go (j := 68) (L' := [.ref r0, .int x1, .int x2, .long l3, .null, .long l5, .null, .long l7, .null, .long l9, .null]) (S' := [.long l9, .long l3]) (h' := h) rfl rfl rfl rfl).trans <|
    (r_go (j := 69) (L' := [.ref r0, .int x1, .int x2, .long l3, .null, .long l5, .null, .long l7, .null, .long l9, .null]) (S' := [.long (l3 * l9)]) (h' := h) rfl rfl rfl rfl).trans <|
    (r_go (j := 70) (L' := [.ref r0, .int x1, .int x2, .long l3, .null, .long l5, .null, .long l7, .null, .long l9, .null]) (S' := [.long l7, .long (l3 * l9)]) (h' := h) rfl rfl rfl rfl).trans <|
    (r_go (j := 71) (L' := [.ref r0, .int x1, .int x2, .long l3, .null, .long l5, .null, .long l7, .null, .long l9, .null]) (S' := [.long l5, .long l7, .long (l3 * l9)]) (h' := h) rfl rfl rfl rfl).trans <|
    (r_go (j := 72) (L' := [.ref r0, .int x1, .int x2, .long l3, .null, .long l5, .null, .long l7, .null, .long l9, .null]) (S' := [.long (l7 * l5), .long (l3 * l9)]) (h' := h) rfl rfl rfl rfl).trans <|
    (r_go (j := 73) (L' := [.ref r0, .int x1, .int x2, .long l3, .null, .long l5, .null, .long l7, .null, .long l9, .null]) (S' := [.long ((l3 * l9) - (l7 * l5))]) (h' := h) rfl rfl rfl rfl).trans <|
    (r_go (j := 74) (L' := [.ref r0, .int x1, .int x2, .long l3, .null, .long l5, .null, .long l7, .null, .long l9, .null]) (S' := [.long l5, .long ((l3 * l9) - (l7 * l5))]) (h' := h) rfl rfl rfl rfl).trans <|
    (r_go (j := 75) (L' := [.ref r0, .int x1, .int x2, .long l3, .null, .long l5, .null, .long l7, .null, .long l9, .null]) (S' := [.long l9, .long l5, .long ((l3 * l9) - (l7 * l5))]) (h' := h) rfl rfl rfl rfl).trans <|
    (r_go (j := 76) (L' := [.ref r0, .int x1, .int x2, .long l3, .null, .long l5, .null, .long l7, .null, .long l9, .null]) (S' := [.long (l5 * l9), .long ((l3 * l9) - (l7 * l5))]) (h' := h) rfl rfl rfl rfl).trans <|
    (r_go (j := 77) (L' := [.ref r0, .int x1, .int x2, .long l3, .null, .long l5, .null, .long l7, .null, .long l9, .null]) (S' := [.int x2, .long (l5 * l9), .long ((l3 * l9) - (l7 * l5))]) (h' := h) rfl rfl rfl rfl).trans <|
    r_call (j := 78) (a := [.long ((l3 * l9) - (l7 * l5)), .long (l5 * l9), .int x2]) (S' := []) rfl rfl rfl rfl rfl rfl rfl
theorem b_M_worth_78 {d : Nat} (x1 x2 : Int32) (l3 l5 l7 l9 k0 : Int64) (r0 : Nat) (h : AH) (Q : Option Value → AH → Prop) : Wp d P_M_worth 78 [.ref r0, .int x1, .int x2, .long l3, .null, .long l5, .null, .long l7, .null, .long l9, .null] [.long k0] h Q ↔ Q (some (.long k0)) h :=
    r_ret rfl rfl rfl
theorem e_M_worth {d : Nat} (x1 x2 : Int32) (r0 : Nat) (h : AH) (Q : Option Value → AH → Prop) : Cl (d + 1) q_M_worth [.ref r0, .int x1, .int x2] h Q ↔ hK h r0 = 11 ∧ Wp d P_M_worth 0 [.ref r0, .int x1, .int x2, .null, .null, .null, .null, .null, .null, .null, .null] [] h (fun r h' => rtk (some .long) r = true ∧ Q r h') :=
    (Cl_method (t := m_M_worth) rfl).trans (and_congr_left fun _ => decide_eq_true_iff)
/-! PenThatJumpsModel.paper(ZII)Z -/
theorem b_M_paper_0 {d : Nat} (x1 x2 x3 : Int32) (r0 : Nat) (h : AH) (Q : Option Value → AH → Prop) : Wp d P_M_paper 0 [.ref r0, .int x1, .int x2, .int x3] [] h Q ↔ (hK h r0 = 11) ∧ (Cl d q_M_within [.int x2, .int 1, .int 9999] (sI h r0 0 0) (fun r h' => Wp d P_M_paper 7 [.ref r0, .int x1, .int x2, .int x3] (r.toList ++ []) h' Q)) :=
    (r_go (j := 1) (L' := [.ref r0, .int x1, .int x2, .int x3]) (S' := [.ref r0]) (h' := h) rfl rfl rfl rfl).trans <|
    (r_iconst (j := 2) (x := 0) rfl i32_0 rfl).trans <|
    (r_guard (j := 3) (L' := [.ref r0, .int x1, .int x2, .int x3]) (S' := []) (h' := (sI h r0 0 0)) (p := hK h r0 = 11) rfl rfl rfl rfl (pfI rfl)).trans <| and_r <|
    (r_go (j := 4) (L' := [.ref r0, .int x1, .int x2, .int x3]) (S' := [.int x2]) (h' := (sI h r0 0 0)) rfl rfl rfl rfl).trans <|
    (r_iconst (j := 5) (x := 1) rfl i32_1 rfl).trans <|
    (r_sipush (j := 6) (x := 9999) rfl i32_9999 rfl).trans <|
    r_call (j := 7) (a := [.int x2, .int 1, .int 9999]) (S' := []) rfl rfl rfl rfl rfl rfl rfl
theorem b_M_paper_7 {d : Nat} (x1 x2 x3 s0 : Int32) (r0 : Nat) (h : AH) (Q : Option Value → AH → Prop) : Wp d P_M_paper 7 [.ref r0, .int x1, .int x2, .int x3] [.int s0] h Q ↔ (s0 = 0 → Wp d P_M_paper 13 [.ref r0, .int x1, .int x2, .int x3] [] h Q) ∧ (¬ (s0 = 0) → Wp d P_M_paper 8 [.ref r0, .int x1, .int x2, .int x3] [] h Q) :=
    r_if (j := 8) rfl (cd_eq _ _) rfl
theorem b_M_paper_8 {d : Nat} (x1 x2 x3 : Int32) (r0 : Nat) (h : AH) (Q : Option Value → AH → Prop) : Wp d P_M_paper 8 [.ref r0, .int x1, .int x2, .int x3] [] h Q ↔ Cl d q_M_within [.int x3, .int 0, .int x2] h (fun r h' => Wp d P_M_paper 12 [.ref r0, .int x1, .int x2, .int x3] (r.toList ++ []) h' Q) :=
    (r_go (j := 9) (L' := [.ref r0, .int x1, .int x2, .int x3]) (S' := [.int x3]) (h' := h) rfl rfl rfl rfl).trans <|
    (r_iconst (j := 10) (x := 0) rfl i32_0 rfl).trans <|
    (r_go (j := 11) (L' := [.ref r0, .int x1, .int x2, .int x3]) (S' := [.int x2, .int 0, .int x3]) (h' := h) rfl rfl rfl rfl).trans <|
    r_call (j := 12) (a := [.int x3, .int 0, .int x2]) (S' := []) rfl rfl rfl rfl rfl rfl rfl
theorem b_M_paper_12 {d : Nat} (x1 x2 x3 s0 : Int32) (r0 : Nat) (h : AH) (Q : Option Value → AH → Prop) : Wp d P_M_paper 12 [.ref r0, .int x1, .int x2, .int x3] [.int s0] h Q ↔ (¬ s0 = 0 → Wp d P_M_paper 15 [.ref r0, .int x1, .int x2, .int x3] [] h Q) ∧ (¬ (¬ s0 = 0) → Wp d P_M_paper 13 [.ref r0, .int x1, .int x2, .int x3] [] h Q) :=
    r_if (j := 13) rfl (cd_ne _ _) rfl
theorem b_M_paper_13 {d : Nat} (x1 x2 x3 : Int32) (r0 : Nat) (h : AH) (Q : Option Value → AH → Prop) : Wp d P_M_paper 13 [.ref r0, .int x1, .int x2, .int x3] [] h Q ↔ Q (some (.int 0)) h :=
    (r_iconst (j := 14) (x := 0) rfl i32_0 rfl).trans <|
    r_ret rfl rfl rfl
theorem b_M_paper_15 {d : Nat} (x1 x2 x3 : Int32) (r0 : Nat) (h : AH) (Q : Option Value → AH → Prop) : Wp d P_M_paper 15 [.ref r0, .int x1, .int x2, .int x3] [] h Q ↔ (hK h r0 = 11) ∧ ((x1 = 0 → Wp d P_M_paper 21 [.ref r0, .int x1, .int x2, .int x3] [.ref (hR h r0 39)] h Q) ∧ (¬ (x1 = 0) → Wp d P_M_paper 19 [.ref r0, .int x1, .int x2, .int x3] [.ref (hR h r0 39)] h Q)) :=
    (r_go (j := 16) (L' := [.ref r0, .int x1, .int x2, .int x3]) (S' := [.ref r0]) (h' := h) rfl rfl rfl rfl).trans <|
    (r_guard (j := 17) (L' := [.ref r0, .int x1, .int x2, .int x3]) (S' := [.ref (hR h r0 39)]) (h' := h) (p := hK h r0 = 11) rfl rfl rfl rfl (decide_eq_true_iff)).trans <| and_r <|
    (r_go (j := 18) (L' := [.ref r0, .int x1, .int x2, .int x3]) (S' := [.int x1, .ref (hR h r0 39)]) (h' := h) rfl rfl rfl rfl).trans <|
    r_if (j := 19) rfl (cd_eq _ _) rfl
theorem b_M_paper_19 {d : Nat} (x1 x2 x3 : Int32) (r0 t0 : Nat) (h : AH) (Q : Option Value → AH → Prop) : Wp d P_M_paper 19 [.ref r0, .int x1, .int x2, .int x3] [.ref t0] h Q ↔ Wp d P_M_paper 22 [.ref r0, .int x1, .int x2, .int x3] [.int 0, .ref t0] h Q :=
    (r_iconst (j := 20) (x := 0) rfl i32_0 rfl).trans <|
    r_go (j := 22) (L' := [.ref r0, .int x1, .int x2, .int x3]) (S' := [.int 0, .ref t0]) (h' := h) rfl rfl rfl rfl
theorem b_M_paper_21 {d : Nat} (x1 x2 x3 : Int32) (r0 t0 : Nat) (h : AH) (Q : Option Value → AH → Prop) : Wp d P_M_paper 21 [.ref r0, .int x1, .int x2, .int x3] [.ref t0] h Q ↔ Wp d P_M_paper 22 [.ref r0, .int x1, .int x2, .int x3] [.int 2, .ref t0] h Q :=
    r_iconst (j := 22) (x := 2) rfl i32_2 rfl
theorem b_M_paper_22 {d : Nat} (x1 x2 x3 s0 : Int32) (r0 t1 : Nat) (h : AH) (Q : Option Value → AH → Prop) : Wp d P_M_paper 22 [.ref r0, .int x1, .int x2, .int x3] [.int s0, .ref t1] h Q ↔ (hK h t1 = 23 ∧ ixo s0 (hN h t1) = true) ∧ ((hK h t1 = 23 ∧ ixo s0 (hN h t1) = true) ∧ ((hK (sJ h t1 (Int32.toNatClampNeg s0) ((hJ h t1 (Int32.toNatClampNeg s0)) + (Int32.toInt64 x2))) r0 = 11) ∧ ((x1 = 0 → Wp d P_M_paper 34 [.ref r0, .int x1, .int x2, .int x3] [.ref (hR (sJ h t1 (Int32.toNatClampNeg s0) ((hJ h t1 (Int32.toNatClampNeg s0)) + (Int32.toInt64 x2))) r0 39)] (sJ h t1 (Int32.toNatClampNeg s0) ((hJ h t1 (Int32.toNatClampNeg s0)) + (Int32.toInt64 x2))) Q) ∧ (¬ (x1 = 0) → Wp d P_M_paper 32 [.ref r0, .int x1, .int x2, .int x3] [.ref (hR (sJ h t1 (Int32.toNatClampNeg s0) ((hJ h t1 (Int32.toNatClampNeg s0)) + (Int32.toInt64 x2))) r0 39)] (sJ h t1 (Int32.toNatClampNeg s0) ((hJ h t1 (Int32.toNatClampNeg s0)) + (Int32.toInt64 x2))) Q)))) :=
    (r_go (j := 23) (L' := [.ref r0, .int x1, .int x2, .int x3]) (S' := [.int s0, .ref t1, .int s0, .ref t1]) (h' := h) rfl rfl rfl rfl).trans <|
    (r_guard (j := 24) (L' := [.ref r0, .int x1, .int x2, .int x3]) (S' := [.long (hJ h t1 (Int32.toNatClampNeg s0)), .int s0, .ref t1]) (h' := h) (p := hK h t1 = 23 ∧ ixo s0 (hN h t1) = true) rfl rfl rfl rfl (and2 decide_eq_true_iff Iff.rfl)).trans <| and_r <|
    (r_go (j := 25) (L' := [.ref r0, .int x1, .int x2, .int x3]) (S' := [.int x2, .long (hJ h t1 (Int32.toNatClampNeg s0)), .int s0, .ref t1]) (h' := h) rfl rfl rfl rfl).trans <|
    (r_go (j := 26) (L' := [.ref r0, .int x1, .int x2, .int x3]) (S' := [.long (Int32.toInt64 x2), .long (hJ h t1 (Int32.toNatClampNeg s0)), .int s0, .ref t1]) (h' := h) rfl rfl rfl rfl).trans <|
    (r_go (j := 27) (L' := [.ref r0, .int x1, .int x2, .int x3]) (S' := [.long ((hJ h t1 (Int32.toNatClampNeg s0)) + (Int32.toInt64 x2)), .int s0, .ref t1]) (h' := h) rfl rfl rfl rfl).trans <|
    (r_guard (j := 28) (L' := [.ref r0, .int x1, .int x2, .int x3]) (S' := []) (h' := (sJ h t1 (Int32.toNatClampNeg s0) ((hJ h t1 (Int32.toNatClampNeg s0)) + (Int32.toInt64 x2)))) (p := hK h t1 = 23 ∧ ixo s0 (hN h t1) = true) rfl rfl rfl rfl (and2 decide_eq_true_iff Iff.rfl)).trans <| and_r <|
    (r_go (j := 29) (L' := [.ref r0, .int x1, .int x2, .int x3]) (S' := [.ref r0]) (h' := (sJ h t1 (Int32.toNatClampNeg s0) ((hJ h t1 (Int32.toNatClampNeg s0)) + (Int32.toInt64 x2)))) rfl rfl rfl rfl).trans <|
    (r_guard (j := 30) (L' := [.ref r0, .int x1, .int x2, .int x3]) (S' := [.ref (hR (sJ h t1 (Int32.toNatClampNeg s0) ((hJ h t1 (Int32.toNatClampNeg s0)) + (Int32.toInt64 x2))) r0 39)]) (h' := (sJ h t1 (Int32.toNatClampNeg s0) ((hJ h t1 (Int32.toNatClampNeg s0)) + (Int32.toInt64 x2)))) (p := hK (sJ h t1 (Int32.toNatClampNeg s0) ((hJ h t1 (Int32.toNatClampNeg s0)) + (Int32.toInt64 x2))) r0 = 11) rfl rfl rfl rfl (decide_eq_true_iff)).trans <| and_r <|
    (r_go (j := 31) (L' := [.ref r0, .int x1, .int x2, .int x3]) (S' := [.int x1, .ref (hR (sJ h t1 (Int32.toNatClampNeg s0) ((hJ h t1 (Int32.toNatClampNeg s0)) + (Int32.toInt64 x2))) r0 39)]) (h' := (sJ h t1 (Int32.toNatClampNeg s0) ((hJ h t1 (Int32.toNatClampNeg s0)) + (Int32.toInt64 x2)))) rfl rfl rfl rfl).trans <|
    r_if (j := 32) rfl (cd_eq _ _) rfl
theorem b_M_paper_32 {d : Nat} (x1 x2 x3 : Int32) (r0 t0 : Nat) (h : AH) (Q : Option Value → AH → Prop) : Wp d P_M_paper 32 [.ref r0, .int x1, .int x2, .int x3] [.ref t0] h Q ↔ Wp d P_M_paper 35 [.ref r0, .int x1, .int x2, .int x3] [.int 1, .ref t0] h Q :=
    (r_iconst (j := 33) (x := 1) rfl i32_1 rfl).trans <|
    r_go (j := 35) (L' := [.ref r0, .int x1, .int x2, .int x3]) (S' := [.int 1, .ref t0]) (h' := h) rfl rfl rfl rfl
theorem b_M_paper_34 {d : Nat} (x1 x2 x3 : Int32) (r0 t0 : Nat) (h : AH) (Q : Option Value → AH → Prop) : Wp d P_M_paper 34 [.ref r0, .int x1, .int x2, .int x3] [.ref t0] h Q ↔ Wp d P_M_paper 35 [.ref r0, .int x1, .int x2, .int x3] [.int 3, .ref t0] h Q :=
    r_iconst (j := 35) (x := 3) rfl i32_3 rfl
theorem b_M_paper_35 {d : Nat} (x1 x2 x3 s0 : Int32) (r0 t1 : Nat) (h : AH) (Q : Option Value → AH → Prop) : Wp d P_M_paper 35 [.ref r0, .int x1, .int x2, .int x3] [.int s0, .ref t1] h Q ↔ (hK h t1 = 23 ∧ ixo s0 (hN h t1) = true) ∧ ((hK h t1 = 23 ∧ ixo s0 (hN h t1) = true) ∧ (Q (some (.int 1)) (sJ h t1 (Int32.toNatClampNeg s0) ((hJ h t1 (Int32.toNatClampNeg s0)) + (Int32.toInt64 x3))))) :=
    (r_go (j := 36) (L' := [.ref r0, .int x1, .int x2, .int x3]) (S' := [.int s0, .ref t1, .int s0, .ref t1]) (h' := h) rfl rfl rfl rfl).trans <|
    (r_guard (j := 37) (L' := [.ref r0, .int x1, .int x2, .int x3]) (S' := [.long (hJ h t1 (Int32.toNatClampNeg s0)), .int s0, .ref t1]) (h' := h) (p := hK h t1 = 23 ∧ ixo s0 (hN h t1) = true) rfl rfl rfl rfl (and2 decide_eq_true_iff Iff.rfl)).trans <| and_r <|
    (r_go (j := 38) (L' := [.ref r0, .int x1, .int x2, .int x3]) (S' := [.int x3, .long (hJ h t1 (Int32.toNatClampNeg s0)), .int s0, .ref t1]) (h' := h) rfl rfl rfl rfl).trans <|
    (r_go (j := 39) (L' := [.ref r0, .int x1, .int x2, .int x3]) (S' := [.long (Int32.toInt64 x3), .long (hJ h t1 (Int32.toNatClampNeg s0)), .int s0, .ref t1]) (h' := h) rfl rfl rfl rfl).trans <|
    (r_go (j := 40) (L' := [.ref r0, .int x1, .int x2, .int x3]) (S' := [.long ((hJ h t1 (Int32.toNatClampNeg s0)) + (Int32.toInt64 x3)), .int s0, .ref t1]) (h' := h) rfl rfl rfl rfl).trans <|
    (r_guard (j := 41) (L' := [.ref r0, .int x1, .int x2, .int x3]) (S' := []) (h' := (sJ h t1 (Int32.toNatClampNeg s0) ((hJ h t1 (Int32.toNatClampNeg s0)) + (Int32.toInt64 x3)))) (p := hK h t1 = 23 ∧ ixo s0 (hN h t1) = true) rfl rfl rfl rfl (and2 decide_eq_true_iff Iff.rfl)).trans <| and_r <|
    (r_iconst (j := 42) (x := 1) rfl i32_1 rfl).trans <|
    r_ret rfl rfl rfl
theorem e_M_paper {d : Nat} (x1 x2 x3 : Int32) (r0 : Nat) (h : AH) (Q : Option Value → AH → Prop) : Cl (d + 1) q_M_paper [.ref r0, .int x1, .int x2, .int x3] h Q ↔ hK h r0 = 11 ∧ Wp d P_M_paper 0 [.ref r0, .int x1, .int x2, .int x3] [] h (fun r h' => rtk (some .boolean) r = true ∧ Q r h') :=
    (Cl_method (t := m_M_paper) rfl).trans (and_congr_left fun _ => decide_eq_true_iff)
/-! PenThatJumpsModel.lean(I)J -/
theorem b_M_lean_0 {d : Nat} (x1 : Int32) (r0 : Nat) (h : AH) (Q : Option Value → AH → Prop) : Wp d P_M_lean 0 [.ref r0, .int x1] [] h Q ↔ Cl d q_M_within [.int x1, .int 0, .int 1] h (fun r h' => Wp d P_M_lean 5 [.ref r0, .int x1] (r.toList ++ [.ref r0]) h' Q) :=
    (r_go (j := 1) (L' := [.ref r0, .int x1]) (S' := [.ref r0]) (h' := h) rfl rfl rfl rfl).trans <|
    (r_go (j := 2) (L' := [.ref r0, .int x1]) (S' := [.int x1, .ref r0]) (h' := h) rfl rfl rfl rfl).trans <|
    (r_iconst (j := 3) (x := 0) rfl i32_0 rfl).trans <|
    (r_iconst (j := 4) (x := 1) rfl i32_1 rfl).trans <|
    r_call (j := 5) (a := [.int x1, .int 0, .int 1]) (S' := [.ref r0]) rfl rfl rfl rfl rfl rfl rfl
theorem b_M_lean_5 {d : Nat} (x1 s0 : Int32) (r0 t1 : Nat) (h : AH) (Q : Option Value → AH → Prop) : Wp d P_M_lean 5 [.ref r0, .int x1] [.int s0, .ref t1] h Q ↔ (s0 = 0 → Wp d P_M_lean 22 [.ref r0, .int x1] [.ref t1] h Q) ∧ (¬ (s0 = 0) → Wp d P_M_lean 6 [.ref r0, .int x1] [.ref t1] h Q) :=
    r_if (j := 6) rfl (cd_eq _ _) rfl
theorem b_M_lean_6 {d : Nat} (x1 : Int32) (r0 t0 : Nat) (h : AH) (Q : Option Value → AH → Prop) : Wp d P_M_lean 6 [.ref r0, .int x1] [.ref t0] h Q ↔ (hK h r0 = 11) ∧ ((hK h (hR h r0 39) = 23 ∧ ixo 0 (hN h (hR h r0 39)) = true) ∧ (((lg_cmp (hJ h (hR h r0 39) (Int32.toNatClampNeg 0)) 0) ≤ 0 → Wp d P_M_lean 22 [.ref r0, .int x1] [.ref t0] h Q) ∧ (¬ ((lg_cmp (hJ h (hR h r0 39) (Int32.toNatClampNeg 0)) 0) ≤ 0) → Wp d P_M_lean 13 [.ref r0, .int x1] [.ref t0] h Q))) :=
    (r_go (j := 7) (L' := [.ref r0, .int x1]) (S' := [.ref r0, .ref t0]) (h' := h) rfl rfl rfl rfl).trans <|
    (r_guard (j := 8) (L' := [.ref r0, .int x1]) (S' := [.ref (hR h r0 39), .ref t0]) (h' := h) (p := hK h r0 = 11) rfl rfl rfl rfl (decide_eq_true_iff)).trans <| and_r <|
    (r_iconst (j := 9) (x := 0) rfl i32_0 rfl).trans <|
    (r_guard (j := 10) (L' := [.ref r0, .int x1]) (S' := [.long (hJ h (hR h r0 39) (Int32.toNatClampNeg 0)), .ref t0]) (h' := h) (p := hK h (hR h r0 39) = 23 ∧ ixo 0 (hN h (hR h r0 39)) = true) rfl rfl rfl rfl (and2 decide_eq_true_iff Iff.rfl)).trans <| and_r <|
    (r_go (j := 11) (L' := [.ref r0, .int x1]) (S' := [.long 0, .long (hJ h (hR h r0 39) (Int32.toNatClampNeg 0)), .ref t0]) (h' := h) rfl rfl rfl rfl).trans <|
    (r_go (j := 12) (L' := [.ref r0, .int x1]) (S' := [.int (lg_cmp (hJ h (hR h r0 39) (Int32.toNatClampNeg 0)) 0), .ref t0]) (h' := h) rfl rfl rfl rfl).trans <|
    r_if (j := 13) rfl (cd_le _ _) rfl
theorem b_M_lean_13 {d : Nat} (x1 : Int32) (r0 t0 : Nat) (h : AH) (Q : Option Value → AH → Prop) : Wp d P_M_lean 13 [.ref r0, .int x1] [.ref t0] h Q ↔ (hK h r0 = 11) ∧ ((hK h (hR h r0 39) = 23 ∧ ixo 2 (hN h (hR h r0 39)) = true) ∧ (((lg_cmp (hJ h (hR h r0 39) (Int32.toNatClampNeg 2)) 0) ≤ 0 → Wp d P_M_lean 22 [.ref r0, .int x1] [.ref t0] h Q) ∧ (¬ ((lg_cmp (hJ h (hR h r0 39) (Int32.toNatClampNeg 2)) 0) ≤ 0) → Wp d P_M_lean 20 [.ref r0, .int x1] [.ref t0] h Q))) :=
    (r_go (j := 14) (L' := [.ref r0, .int x1]) (S' := [.ref r0, .ref t0]) (h' := h) rfl rfl rfl rfl).trans <|
    (r_guard (j := 15) (L' := [.ref r0, .int x1]) (S' := [.ref (hR h r0 39), .ref t0]) (h' := h) (p := hK h r0 = 11) rfl rfl rfl rfl (decide_eq_true_iff)).trans <| and_r <|
    (r_iconst (j := 16) (x := 2) rfl i32_2 rfl).trans <|
    (r_guard (j := 17) (L' := [.ref r0, .int x1]) (S' := [.long (hJ h (hR h r0 39) (Int32.toNatClampNeg 2)), .ref t0]) (h' := h) (p := hK h (hR h r0 39) = 23 ∧ ixo 2 (hN h (hR h r0 39)) = true) rfl rfl rfl rfl (and2 decide_eq_true_iff Iff.rfl)).trans <| and_r <|
    (r_go (j := 18) (L' := [.ref r0, .int x1]) (S' := [.long 0, .long (hJ h (hR h r0 39) (Int32.toNatClampNeg 2)), .ref t0]) (h' := h) rfl rfl rfl rfl).trans <|
    (r_go (j := 19) (L' := [.ref r0, .int x1]) (S' := [.int (lg_cmp (hJ h (hR h r0 39) (Int32.toNatClampNeg 2)) 0), .ref t0]) (h' := h) rfl rfl rfl rfl).trans <|
    r_if (j := 20) rfl (cd_le _ _) rfl
theorem b_M_lean_20 {d : Nat} (x1 : Int32) (r0 t0 : Nat) (h : AH) (Q : Option Value → AH → Prop) : Wp d P_M_lean 20 [.ref r0, .int x1] [.ref t0] h Q ↔ Wp d P_M_lean 23 [.ref r0, .int x1] [.int 0, .ref t0] h Q :=
    (r_iconst (j := 21) (x := 0) rfl i32_0 rfl).trans <|
    r_go (j := 23) (L' := [.ref r0, .int x1]) (S' := [.int 0, .ref t0]) (h' := h) rfl rfl rfl rfl
theorem b_M_lean_22 {d : Nat} (x1 : Int32) (r0 t0 : Nat) (h : AH) (Q : Option Value → AH → Prop) : Wp d P_M_lean 22 [.ref r0, .int x1] [.ref t0] h Q ↔ Wp d P_M_lean 23 [.ref r0, .int x1] [.int 1, .ref t0] h Q :=
    r_iconst (j := 23) (x := 1) rfl i32_1 rfl
theorem b_M_lean_23 {d : Nat} (x1 s0 : Int32) (r0 t1 : Nat) (h : AH) (Q : Option Value → AH → Prop) : Wp d P_M_lean 23 [.ref r0, .int x1] [.int s0, .ref t1] h Q ↔ (hK h t1 = 11) ∧ ((hK (sI h t1 0 s0) r0 = 11) ∧ (((hI (sI h t1 0 s0) r0 0) ≤ 0 → Wp d P_M_lean 29 [.ref r0, .int x1] [] (sI h t1 0 s0) Q) ∧ (¬ ((hI (sI h t1 0 s0) r0 0) ≤ 0) → Wp d P_M_lean 27 [.ref r0, .int x1] [] (sI h t1 0 s0) Q))) :=
    (r_guard (j := 24) (L' := [.ref r0, .int x1]) (S' := []) (h' := (sI h t1 0 s0)) (p := hK h t1 = 11) rfl rfl rfl rfl (pfI rfl)).trans <| and_r <|
    (r_go (j := 25) (L' := [.ref r0, .int x1]) (S' := [.ref r0]) (h' := (sI h t1 0 s0)) rfl rfl rfl rfl).trans <|
    (r_guard (j := 26) (L' := [.ref r0, .int x1]) (S' := [.int (hI (sI h t1 0 s0) r0 0)]) (h' := (sI h t1 0 s0)) (p := hK (sI h t1 0 s0) r0 = 11) rfl rfl rfl rfl (decide_eq_true_iff)).trans <| and_r <|
    r_if (j := 27) rfl (cd_le _ _) rfl
theorem b_M_lean_27 {d : Nat} (x1 : Int32) (r0 : Nat) (h : AH) (Q : Option Value → AH → Prop) : Wp d P_M_lean 27 [.ref r0, .int x1] [] h Q ↔ Wp d P_M_lean 59 [.ref r0, .int x1] [.long 0] h Q :=
    (r_go (j := 28) (L' := [.ref r0, .int x1]) (S' := [.long 0]) (h' := h) rfl rfl rfl rfl).trans <|
    r_go (j := 59) (L' := [.ref r0, .int x1]) (S' := [.long 0]) (h' := h) rfl rfl rfl rfl
theorem b_M_lean_29 {d : Nat} (x1 : Int32) (r0 : Nat) (h : AH) (Q : Option Value → AH → Prop) : Wp d P_M_lean 29 [.ref r0, .int x1] [] h Q ↔ (hK h r0 = 11) ∧ ((hK h (hR h r0 39) = 23 ∧ ixo 1 (hN h (hR h r0 39)) = true) ∧ ((hK h r0 = 11) ∧ ((hK h (hR h r0 39) = 23 ∧ ixo 2 (hN h (hR h r0 39)) = true) ∧ ((hK h r0 = 11) ∧ ((hK h (hR h r0 39) = 23 ∧ ixo 3 (hN h (hR h r0 39)) = true) ∧ ((hK h r0 = 11) ∧ ((hK h (hR h r0 39) = 23 ∧ ixo 0 (hN h (hR h r0 39)) = true) ∧ ((hK h r0 = 11) ∧ ((hK h (hR h r0 39) = 23 ∧ ixo 0 (hN h (hR h r0 39)) = true) ∧ ((hK h r0 = 11) ∧ ((hK h (hR h r0 39) = 23 ∧ ixo 2 (hN h (hR h r0 39)) = true) ∧ (Cl d q_M_lowest [.long (((hJ h (hR h r0 39) (Int32.toNatClampNeg 1)) * (hJ h (hR h r0 39) (Int32.toNatClampNeg 2))) - ((hJ h (hR h r0 39) (Int32.toNatClampNeg 3)) * (hJ h (hR h r0 39) (Int32.toNatClampNeg 0)))), .long ((hJ h (hR h r0 39) (Int32.toNatClampNeg 0)) * (hJ h (hR h r0 39) (Int32.toNatClampNeg 2))), .int x1] h (fun r h' => Wp d P_M_lean 59 [.ref r0, .int x1] (r.toList ++ []) h' Q))))))))))))) :=
    (r_go (j := 30) (L' := [.ref r0, .int x1]) (S' := [.ref r0]) (h' := h) rfl rfl rfl rfl).trans <|
    (r_guard (j := 31) (L' := [.ref r0, .int x1]) (S' := [.ref (hR h r0 39)]) (h' := h) (p := hK h r0 = 11) rfl rfl rfl rfl (decide_eq_true_iff)).trans <| and_r <|
    (r_iconst (j := 32) (x := 1) rfl i32_1 rfl).trans <|
    (r_guard (j := 33) (L' := [.ref r0, .int x1]) (S' := [.long (hJ h (hR h r0 39) (Int32.toNatClampNeg 1))]) (h' := h) (p := hK h (hR h r0 39) = 23 ∧ ixo 1 (hN h (hR h r0 39)) = true) rfl rfl rfl rfl (and2 decide_eq_true_iff Iff.rfl)).trans <| and_r <|
    (r_go (j := 34) (L' := [.ref r0, .int x1]) (S' := [.ref r0, .long (hJ h (hR h r0 39) (Int32.toNatClampNeg 1))]) (h' := h) rfl rfl rfl rfl).trans <|
    (r_guard (j := 35) (L' := [.ref r0, .int x1]) (S' := [.ref (hR h r0 39), .long (hJ h (hR h r0 39) (Int32.toNatClampNeg 1))]) (h' := h) (p := hK h r0 = 11) rfl rfl rfl rfl (decide_eq_true_iff)).trans <| and_r <|
    (r_iconst (j := 36) (x := 2) rfl i32_2 rfl).trans <|
    (r_guard (j := 37) (L' := [.ref r0, .int x1]) (S' := [.long (hJ h (hR h r0 39) (Int32.toNatClampNeg 2)), .long (hJ h (hR h r0 39) (Int32.toNatClampNeg 1))]) (h' := h) (p := hK h (hR h r0 39) = 23 ∧ ixo 2 (hN h (hR h r0 39)) = true) rfl rfl rfl rfl (and2 decide_eq_true_iff Iff.rfl)).trans <| and_r <|
    (r_go (j := 38) (L' := [.ref r0, .int x1]) (S' := [.long ((hJ h (hR h r0 39) (Int32.toNatClampNeg 1)) * (hJ h (hR h r0 39) (Int32.toNatClampNeg 2)))]) (h' := h) rfl rfl rfl rfl).trans <|
    (r_go (j := 39) (L' := [.ref r0, .int x1]) (S' := [.ref r0, .long ((hJ h (hR h r0 39) (Int32.toNatClampNeg 1)) * (hJ h (hR h r0 39) (Int32.toNatClampNeg 2)))]) (h' := h) rfl rfl rfl rfl).trans <|
    (r_guard (j := 40) (L' := [.ref r0, .int x1]) (S' := [.ref (hR h r0 39), .long ((hJ h (hR h r0 39) (Int32.toNatClampNeg 1)) * (hJ h (hR h r0 39) (Int32.toNatClampNeg 2)))]) (h' := h) (p := hK h r0 = 11) rfl rfl rfl rfl (decide_eq_true_iff)).trans <| and_r <|
    (r_iconst (j := 41) (x := 3) rfl i32_3 rfl).trans <|
    (r_guard (j := 42) (L' := [.ref r0, .int x1]) (S' := [.long (hJ h (hR h r0 39) (Int32.toNatClampNeg 3)), .long ((hJ h (hR h r0 39) (Int32.toNatClampNeg 1)) * (hJ h (hR h r0 39) (Int32.toNatClampNeg 2)))]) (h' := h) (p := hK h (hR h r0 39) = 23 ∧ ixo 3 (hN h (hR h r0 39)) = true) rfl rfl rfl rfl (and2 decide_eq_true_iff Iff.rfl)).trans <| and_r <|
    (r_go (j := 43) (L' := [.ref r0, .int x1]) (S' := [.ref r0, .long (hJ h (hR h r0 39) (Int32.toNatClampNeg 3)), .long ((hJ h (hR h r0 39) (Int32.toNatClampNeg 1)) * (hJ h (hR h r0 39) (Int32.toNatClampNeg 2)))]) (h' := h) rfl rfl rfl rfl).trans <|
    (r_guard (j := 44) (L' := [.ref r0, .int x1]) (S' := [.ref (hR h r0 39), .long (hJ h (hR h r0 39) (Int32.toNatClampNeg 3)), .long ((hJ h (hR h r0 39) (Int32.toNatClampNeg 1)) * (hJ h (hR h r0 39) (Int32.toNatClampNeg 2)))]) (h' := h) (p := hK h r0 = 11) rfl rfl rfl rfl (decide_eq_true_iff)).trans <| and_r <|
    (r_iconst (j := 45) (x := 0) rfl i32_0 rfl).trans <|
    (r_guard (j := 46) (L' := [.ref r0, .int x1]) (S' := [.long (hJ h (hR h r0 39) (Int32.toNatClampNeg 0)), .long (hJ h (hR h r0 39) (Int32.toNatClampNeg 3)), .long ((hJ h (hR h r0 39) (Int32.toNatClampNeg 1)) * (hJ h (hR h r0 39) (Int32.toNatClampNeg 2)))]) (h' := h) (p := hK h (hR h r0 39) = 23 ∧ ixo 0 (hN h (hR h r0 39)) = true) rfl rfl rfl rfl (and2 decide_eq_true_iff Iff.rfl)).trans <| and_r <|
    (r_go (j := 47) (L' := [.ref r0, .int x1]) (S' := [.long ((hJ h (hR h r0 39) (Int32.toNatClampNeg 3)) * (hJ h (hR h r0 39) (Int32.toNatClampNeg 0))), .long ((hJ h (hR h r0 39) (Int32.toNatClampNeg 1)) * (hJ h (hR h r0 39) (Int32.toNatClampNeg 2)))]) (h' := h) rfl rfl rfl rfl).trans <|
    (r_go (j := 48) (L' := [.ref r0, .int x1]) (S' := [.long (((hJ h (hR h r0 39) (Int32.toNatClampNeg 1)) * (hJ h (hR h r0 39) (Int32.toNatClampNeg 2))) - ((hJ h (hR h r0 39) (Int32.toNatClampNeg 3)) * (hJ h (hR h r0 39) (Int32.toNatClampNeg 0))))]) (h' := h) rfl rfl rfl rfl).trans <|
    (r_go (j := 49) (L' := [.ref r0, .int x1]) (S' := [.ref r0, .long (((hJ h (hR h r0 39) (Int32.toNatClampNeg 1)) * (hJ h (hR h r0 39) (Int32.toNatClampNeg 2))) - ((hJ h (hR h r0 39) (Int32.toNatClampNeg 3)) * (hJ h (hR h r0 39) (Int32.toNatClampNeg 0))))]) (h' := h) rfl rfl rfl rfl).trans <|
    (r_guard (j := 50) (L' := [.ref r0, .int x1]) (S' := [.ref (hR h r0 39), .long (((hJ h (hR h r0 39) (Int32.toNatClampNeg 1)) * (hJ h (hR h r0 39) (Int32.toNatClampNeg 2))) - ((hJ h (hR h r0 39) (Int32.toNatClampNeg 3)) * (hJ h (hR h r0 39) (Int32.toNatClampNeg 0))))]) (h' := h) (p := hK h r0 = 11) rfl rfl rfl rfl (decide_eq_true_iff)).trans <| and_r <|
    (r_iconst (j := 51) (x := 0) rfl i32_0 rfl).trans <|
    (r_guard (j := 52) (L' := [.ref r0, .int x1]) (S' := [.long (hJ h (hR h r0 39) (Int32.toNatClampNeg 0)), .long (((hJ h (hR h r0 39) (Int32.toNatClampNeg 1)) * (hJ h (hR h r0 39) (Int32.toNatClampNeg 2))) - ((hJ h (hR h r0 39) (Int32.toNatClampNeg 3)) * (hJ h (hR h r0 39) (Int32.toNatClampNeg 0))))]) (h' := h) (p := hK h (hR h r0 39) = 23 ∧ ixo 0 (hN h (hR h r0 39)) = true) rfl rfl rfl rfl (and2 decide_eq_true_iff Iff.rfl)).trans <| and_r <|
    (r_go (j := 53) (L' := [.ref r0, .int x1]) (S' := [.ref r0, .long (hJ h (hR h r0 39) (Int32.toNatClampNeg 0)), .long (((hJ h (hR h r0 39) (Int32.toNatClampNeg 1)) * (hJ h (hR h r0 39) (Int32.toNatClampNeg 2))) - ((hJ h (hR h r0 39) (Int32.toNatClampNeg 3)) * (hJ h (hR h r0 39) (Int32.toNatClampNeg 0))))]) (h' := h) rfl rfl rfl rfl).trans <|
    (r_guard (j := 54) (L' := [.ref r0, .int x1]) (S' := [.ref (hR h r0 39), .long (hJ h (hR h r0 39) (Int32.toNatClampNeg 0)), .long (((hJ h (hR h r0 39) (Int32.toNatClampNeg 1)) * (hJ h (hR h r0 39) (Int32.toNatClampNeg 2))) - ((hJ h (hR h r0 39) (Int32.toNatClampNeg 3)) * (hJ h (hR h r0 39) (Int32.toNatClampNeg 0))))]) (h' := h) (p := hK h r0 = 11) rfl rfl rfl rfl (decide_eq_true_iff)).trans <| and_r <|
    (r_iconst (j := 55) (x := 2) rfl i32_2 rfl).trans <|
    (r_guard (j := 56) (L' := [.ref r0, .int x1]) (S' := [.long (hJ h (hR h r0 39) (Int32.toNatClampNeg 2)), .long (hJ h (hR h r0 39) (Int32.toNatClampNeg 0)), .long (((hJ h (hR h r0 39) (Int32.toNatClampNeg 1)) * (hJ h (hR h r0 39) (Int32.toNatClampNeg 2))) - ((hJ h (hR h r0 39) (Int32.toNatClampNeg 3)) * (hJ h (hR h r0 39) (Int32.toNatClampNeg 0))))]) (h' := h) (p := hK h (hR h r0 39) = 23 ∧ ixo 2 (hN h (hR h r0 39)) = true) rfl rfl rfl rfl (and2 decide_eq_true_iff Iff.rfl)).trans <| and_r <|
    (r_go (j := 57) (L' := [.ref r0, .int x1]) (S' := [.long ((hJ h (hR h r0 39) (Int32.toNatClampNeg 0)) * (hJ h (hR h r0 39) (Int32.toNatClampNeg 2))), .long (((hJ h (hR h r0 39) (Int32.toNatClampNeg 1)) * (hJ h (hR h r0 39) (Int32.toNatClampNeg 2))) - ((hJ h (hR h r0 39) (Int32.toNatClampNeg 3)) * (hJ h (hR h r0 39) (Int32.toNatClampNeg 0))))]) (h' := h) rfl rfl rfl rfl).trans <|
    (r_go (j := 58) (L' := [.ref r0, .int x1]) (S' := [.int x1, .long ((hJ h (hR h r0 39) (Int32.toNatClampNeg 0)) * (hJ h (hR h r0 39) (Int32.toNatClampNeg 2))), .long (((hJ h (hR h r0 39) (Int32.toNatClampNeg 1)) * (hJ h (hR h r0 39) (Int32.toNatClampNeg 2))) - ((hJ h (hR h r0 39) (Int32.toNatClampNeg 3)) * (hJ h (hR h r0 39) (Int32.toNatClampNeg 0))))]) (h' := h) rfl rfl rfl rfl).trans <|
    r_call (j := 59) (a := [.long (((hJ h (hR h r0 39) (Int32.toNatClampNeg 1)) * (hJ h (hR h r0 39) (Int32.toNatClampNeg 2))) - ((hJ h (hR h r0 39) (Int32.toNatClampNeg 3)) * (hJ h (hR h r0 39) (Int32.toNatClampNeg 0)))), .long ((hJ h (hR h r0 39) (Int32.toNatClampNeg 0)) * (hJ h (hR h r0 39) (Int32.toNatClampNeg 2))), .int x1]) (S' := []) rfl rfl rfl rfl rfl rfl rfl
theorem b_M_lean_59 {d : Nat} (x1 : Int32) (k0 : Int64) (r0 : Nat) (h : AH) (Q : Option Value → AH → Prop) : Wp d P_M_lean 59 [.ref r0, .int x1] [.long k0] h Q ↔ Q (some (.long k0)) h :=
    r_ret rfl rfl rfl
theorem e_M_lean {d : Nat} (x1 : Int32) (r0 : Nat) (h : AH) (Q : Option Value → AH → Prop) : Cl (d + 1) q_M_lean [.ref r0, .int x1] h Q ↔ hK h r0 = 11 ∧ Wp d P_M_lean 0 [.ref r0, .int x1] [] h (fun r h' => rtk (some .long) r = true ∧ Q r h') :=
    (Cl_method (t := m_M_lean) rfl).trans (and_congr_left fun _ => decide_eq_true_iff)
/-! PenThatJumpsModel.mark(IZ)Z -/
theorem b_M_mark_0 {d : Nat} (x1 x2 : Int32) (r0 : Nat) (h : AH) (Q : Option Value → AH → Prop) : Wp d P_M_mark 0 [.ref r0, .int x1, .int x2, .null] [] h Q ↔ (hK h r0 = 11) ∧ (Cl d q_M_within [.int x1, .int 0, .int 3] (sI h r0 0 0) (fun r h' => Wp d P_M_mark 7 [.ref r0, .int x1, .int x2, .null] (r.toList ++ []) h' Q)) :=
    (r_go (j := 1) (L' := [.ref r0, .int x1, .int x2, .null]) (S' := [.ref r0]) (h' := h) rfl rfl rfl rfl).trans <|
    (r_iconst (j := 2) (x := 0) rfl i32_0 rfl).trans <|
    (r_guard (j := 3) (L' := [.ref r0, .int x1, .int x2, .null]) (S' := []) (h' := (sI h r0 0 0)) (p := hK h r0 = 11) rfl rfl rfl rfl (pfI rfl)).trans <| and_r <|
    (r_go (j := 4) (L' := [.ref r0, .int x1, .int x2, .null]) (S' := [.int x1]) (h' := (sI h r0 0 0)) rfl rfl rfl rfl).trans <|
    (r_iconst (j := 5) (x := 0) rfl i32_0 rfl).trans <|
    (r_iconst (j := 6) (x := 3) rfl i32_3 rfl).trans <|
    r_call (j := 7) (a := [.int x1, .int 0, .int 3]) (S' := []) rfl rfl rfl rfl rfl rfl rfl
theorem b_M_mark_7 {d : Nat} (x1 x2 s0 : Int32) (r0 : Nat) (h : AH) (Q : Option Value → AH → Prop) : Wp d P_M_mark 7 [.ref r0, .int x1, .int x2, .null] [.int s0] h Q ↔ (s0 = 0 → Wp d P_M_mark 22 [.ref r0, .int x1, .int x2, .null] [] h Q) ∧ (¬ (s0 = 0) → Wp d P_M_mark 8 [.ref r0, .int x1, .int x2, .null] [] h Q) :=
    r_if (j := 8) rfl (cd_eq _ _) rfl
theorem b_M_mark_8 {d : Nat} (x1 x2 : Int32) (r0 : Nat) (h : AH) (Q : Option Value → AH → Prop) : Wp d P_M_mark 8 [.ref r0, .int x1, .int x2, .null] [] h Q ↔ (x2 = 0 → Wp d P_M_mark 24 [.ref r0, .int x1, .int x2, .null] [] h Q) ∧ (¬ (x2 = 0) → Wp d P_M_mark 10 [.ref r0, .int x1, .int x2, .null] [] h Q) :=
    (r_go (j := 9) (L' := [.ref r0, .int x1, .int x2, .null]) (S' := [.int x2]) (h' := h) rfl rfl rfl rfl).trans <|
    r_if (j := 10) rfl (cd_eq _ _) rfl
theorem b_M_mark_10 {d : Nat} (x1 x2 : Int32) (r0 : Nat) (h : AH) (Q : Option Value → AH → Prop) : Wp d P_M_mark 10 [.ref r0, .int x1, .int x2, .null] [] h Q ↔ (hK h r0 = 11) ∧ ((hK h (hR h r0 40) ∈ [22, 45] ∧ ixo x1 (hN h (hR h r0 40)) = true) ∧ (((hI h (hR h r0 40) (Int32.toNatClampNeg x1)) = 0 → Wp d P_M_mark 22 [.ref r0, .int x1, .int x2, .null] [] h Q) ∧ (¬ ((hI h (hR h r0 40) (Int32.toNatClampNeg x1)) = 0) → Wp d P_M_mark 15 [.ref r0, .int x1, .int x2, .null] [] h Q))) :=
    (r_go (j := 11) (L' := [.ref r0, .int x1, .int x2, .null]) (S' := [.ref r0]) (h' := h) rfl rfl rfl rfl).trans <|
    (r_guard (j := 12) (L' := [.ref r0, .int x1, .int x2, .null]) (S' := [.ref (hR h r0 40)]) (h' := h) (p := hK h r0 = 11) rfl rfl rfl rfl (decide_eq_true_iff)).trans <| and_r <|
    (r_go (j := 13) (L' := [.ref r0, .int x1, .int x2, .null]) (S' := [.int x1, .ref (hR h r0 40)]) (h' := h) rfl rfl rfl rfl).trans <|
    (r_guard (j := 14) (L' := [.ref r0, .int x1, .int x2, .null]) (S' := [.int (hI h (hR h r0 40) (Int32.toNatClampNeg x1))]) (h' := h) (p := hK h (hR h r0 40) ∈ [22, 45] ∧ ixo x1 (hN h (hR h r0 40)) = true) rfl rfl rfl rfl (and2 decide_eq_true_iff Iff.rfl)).trans <| and_r <|
    r_if (j := 15) rfl (cd_eq _ _) rfl
theorem b_M_mark_15 {d : Nat} (x1 x2 : Int32) (r0 : Nat) (h : AH) (Q : Option Value → AH → Prop) : Wp d P_M_mark 15 [.ref r0, .int x1, .int x2, .null] [] h Q ↔ (hK h r0 = 11) ∧ ((hK h r0 = 11) ∧ ((hK h (hR h r0 41) ∈ [20, 44] ∧ ixo x1 (hN h (hR h r0 41)) = true) ∧ (((hI h (hR h r0 41) (Int32.toNatClampNeg x1)) ≤ (hI h r0 30) → Wp d P_M_mark 24 [.ref r0, .int x1, .int x2, .null] [] h Q) ∧ (¬ ((hI h (hR h r0 41) (Int32.toNatClampNeg x1)) ≤ (hI h r0 30)) → Wp d P_M_mark 22 [.ref r0, .int x1, .int x2, .null] [] h Q)))) :=
    (r_go (j := 16) (L' := [.ref r0, .int x1, .int x2, .null]) (S' := [.ref r0]) (h' := h) rfl rfl rfl rfl).trans <|
    (r_guard (j := 17) (L' := [.ref r0, .int x1, .int x2, .null]) (S' := [.int (hI h r0 30)]) (h' := h) (p := hK h r0 = 11) rfl rfl rfl rfl (decide_eq_true_iff)).trans <| and_r <|
    (r_go (j := 18) (L' := [.ref r0, .int x1, .int x2, .null]) (S' := [.ref r0, .int (hI h r0 30)]) (h' := h) rfl rfl rfl rfl).trans <|
    (r_guard (j := 19) (L' := [.ref r0, .int x1, .int x2, .null]) (S' := [.ref (hR h r0 41), .int (hI h r0 30)]) (h' := h) (p := hK h r0 = 11) rfl rfl rfl rfl (decide_eq_true_iff)).trans <| and_r <|
    (r_go (j := 20) (L' := [.ref r0, .int x1, .int x2, .null]) (S' := [.int x1, .ref (hR h r0 41), .int (hI h r0 30)]) (h' := h) rfl rfl rfl rfl).trans <|
    (r_guard (j := 21) (L' := [.ref r0, .int x1, .int x2, .null]) (S' := [.int (hI h (hR h r0 41) (Int32.toNatClampNeg x1)), .int (hI h r0 30)]) (h' := h) (p := hK h (hR h r0 41) ∈ [20, 44] ∧ ixo x1 (hN h (hR h r0 41)) = true) rfl rfl rfl rfl (and2 decide_eq_true_iff Iff.rfl)).trans <| and_r <|
    r_icmp (j := 22) rfl (cd_ge _ _) rfl
theorem b_M_mark_22 {d : Nat} (x1 x2 : Int32) (r0 : Nat) (h : AH) (Q : Option Value → AH → Prop) : Wp d P_M_mark 22 [.ref r0, .int x1, .int x2, .null] [] h Q ↔ Q (some (.int 0)) h :=
    (r_iconst (j := 23) (x := 0) rfl i32_0 rfl).trans <|
    r_ret rfl rfl rfl
theorem b_M_mark_24 {d : Nat} (x1 x2 : Int32) (r0 : Nat) (h : AH) (Q : Option Value → AH → Prop) : Wp d P_M_mark 24 [.ref r0, .int x1, .int x2, .null] [] h Q ↔ (x2 = 0 → Wp d P_M_mark 33 [.ref r0, .int x1, .int x2, .null] [] h Q) ∧ (¬ (x2 = 0) → Wp d P_M_mark 26 [.ref r0, .int x1, .int x2, .null] [] h Q) :=
    (r_go (j := 25) (L' := [.ref r0, .int x1, .int x2, .null]) (S' := [.int x2]) (h' := h) rfl rfl rfl rfl).trans <|
    r_if (j := 26) rfl (cd_eq _ _) rfl
theorem b_M_mark_26 {d : Nat} (x1 x2 : Int32) (r0 : Nat) (h : AH) (Q : Option Value → AH → Prop) : Wp d P_M_mark 26 [.ref r0, .int x1, .int x2, .null] [] h Q ↔ (hK h r0 = 11) ∧ ((hK h (hR h r0 41) ∈ [20, 44] ∧ ixo x1 (hN h (hR h r0 41)) = true) ∧ ((hK h r0 = 11) ∧ (Wp d P_M_mark 44 [.ref r0, .int x1, .int x2, .null] [] (sI h r0 30 (hI h (hR h r0 41) (Int32.toNatClampNeg x1))) Q))) :=
    (r_go (j := 27) (L' := [.ref r0, .int x1, .int x2, .null]) (S' := [.ref r0]) (h' := h) rfl rfl rfl rfl).trans <|
    (r_go (j := 28) (L' := [.ref r0, .int x1, .int x2, .null]) (S' := [.ref r0, .ref r0]) (h' := h) rfl rfl rfl rfl).trans <|
    (r_guard (j := 29) (L' := [.ref r0, .int x1, .int x2, .null]) (S' := [.ref (hR h r0 41), .ref r0]) (h' := h) (p := hK h r0 = 11) rfl rfl rfl rfl (decide_eq_true_iff)).trans <| and_r <|
    (r_go (j := 30) (L' := [.ref r0, .int x1, .int x2, .null]) (S' := [.int x1, .ref (hR h r0 41), .ref r0]) (h' := h) rfl rfl rfl rfl).trans <|
    (r_guard (j := 31) (L' := [.ref r0, .int x1, .int x2, .null]) (S' := [.int (hI h (hR h r0 41) (Int32.toNatClampNeg x1)), .ref r0]) (h' := h) (p := hK h (hR h r0 41) ∈ [20, 44] ∧ ixo x1 (hN h (hR h r0 41)) = true) rfl rfl rfl rfl (and2 decide_eq_true_iff Iff.rfl)).trans <| and_r <|
    (r_guard (j := 32) (L' := [.ref r0, .int x1, .int x2, .null]) (S' := []) (h' := (sI h r0 30 (hI h (hR h r0 41) (Int32.toNatClampNeg x1)))) (p := hK h r0 = 11) rfl rfl rfl rfl (pfI rfl)).trans <| and_r <|
    r_go (j := 44) (L' := [.ref r0, .int x1, .int x2, .null]) (S' := []) (h' := (sI h r0 30 (hI h (hR h r0 41) (Int32.toNatClampNeg x1)))) rfl rfl rfl rfl
theorem b_M_mark_33 {d : Nat} (x1 x2 : Int32) (r0 : Nat) (h : AH) (Q : Option Value → AH → Prop) : Wp d P_M_mark 33 [.ref r0, .int x1, .int x2, .null] [] h Q ↔ (hK h r0 = 11) ∧ (((hK h (hR h r0 40) = 22 ∧ ixo x1 (hN h (hR h r0 40)) = true) ∧ i01 1 = true) ∧ ((hK (sI h (hR h r0 40) (Int32.toNatClampNeg x1) 1) r0 = 11) ∧ ((hK (sI h (hR h r0 40) (Int32.toNatClampNeg x1) 1) r0 = 11) ∧ ((hK (sI h (hR h r0 40) (Int32.toNatClampNeg x1) 1) (hR (sI h (hR h r0 40) (Int32.toNatClampNeg x1) 1) r0 41) = 20 ∧ ixo x1 (hN (sI h (hR h r0 40) (Int32.toNatClampNeg x1) 1) (hR (sI h (hR h r0 40) (Int32.toNatClampNeg x1) 1) r0 41)) = true) ∧ (Wp d P_M_mark 44 [.ref r0, .int x1, .int x2, .null] [] (sI (sI h (hR h r0 40) (Int32.toNatClampNeg x1) 1) (hR (sI h (hR h r0 40) (Int32.toNatClampNeg x1) 1) r0 41) (Int32.toNatClampNeg x1) (hI (sI h (hR h r0 40) (Int32.toNatClampNeg x1) 1) r0 30)) Q))))) :=
    (r_go (j := 34) (L' := [.ref r0, .int x1, .int x2, .null]) (S' := [.ref r0]) (h' := h) rfl rfl rfl rfl).trans <|
    (r_guard (j := 35) (L' := [.ref r0, .int x1, .int x2, .null]) (S' := [.ref (hR h r0 40)]) (h' := h) (p := hK h r0 = 11) rfl rfl rfl rfl (decide_eq_true_iff)).trans <| and_r <|
    (r_go (j := 36) (L' := [.ref r0, .int x1, .int x2, .null]) (S' := [.int x1, .ref (hR h r0 40)]) (h' := h) rfl rfl rfl rfl).trans <|
    (r_iconst (j := 37) (x := 1) rfl i32_1 rfl).trans <|
    (r_guard (j := 38) (L' := [.ref r0, .int x1, .int x2, .null]) (S' := []) (h' := (sI h (hR h r0 40) (Int32.toNatClampNeg x1) 1)) (p := (hK h (hR h r0 40) = 22 ∧ ixo x1 (hN h (hR h r0 40)) = true) ∧ i01 1 = true) rfl rfl rfl rfl (and2 (and2 decide_eq_true_iff Iff.rfl) Iff.rfl)).trans <| and_r <|
    (r_go (j := 39) (L' := [.ref r0, .int x1, .int x2, .null]) (S' := [.ref r0]) (h' := (sI h (hR h r0 40) (Int32.toNatClampNeg x1) 1)) rfl rfl rfl rfl).trans <|
    (r_guard (j := 40) (L' := [.ref r0, .int x1, .int x2, .null]) (S' := [.ref (hR (sI h (hR h r0 40) (Int32.toNatClampNeg x1) 1) r0 41)]) (h' := (sI h (hR h r0 40) (Int32.toNatClampNeg x1) 1)) (p := hK (sI h (hR h r0 40) (Int32.toNatClampNeg x1) 1) r0 = 11) rfl rfl rfl rfl (decide_eq_true_iff)).trans <| and_r <|
    (r_go (j := 41) (L' := [.ref r0, .int x1, .int x2, .null]) (S' := [.int x1, .ref (hR (sI h (hR h r0 40) (Int32.toNatClampNeg x1) 1) r0 41)]) (h' := (sI h (hR h r0 40) (Int32.toNatClampNeg x1) 1)) rfl rfl rfl rfl).trans <|
    (r_go (j := 42) (L' := [.ref r0, .int x1, .int x2, .null]) (S' := [.ref r0, .int x1, .ref (hR (sI h (hR h r0 40) (Int32.toNatClampNeg x1) 1) r0 41)]) (h' := (sI h (hR h r0 40) (Int32.toNatClampNeg x1) 1)) rfl rfl rfl rfl).trans <|
    (r_guard (j := 43) (L' := [.ref r0, .int x1, .int x2, .null]) (S' := [.int (hI (sI h (hR h r0 40) (Int32.toNatClampNeg x1) 1) r0 30), .int x1, .ref (hR (sI h (hR h r0 40) (Int32.toNatClampNeg x1) 1) r0 41)]) (h' := (sI h (hR h r0 40) (Int32.toNatClampNeg x1) 1)) (p := hK (sI h (hR h r0 40) (Int32.toNatClampNeg x1) 1) r0 = 11) rfl rfl rfl rfl (decide_eq_true_iff)).trans <| and_r <|
    r_guard (j := 44) (L' := [.ref r0, .int x1, .int x2, .null]) (S' := []) (h' := (sI (sI h (hR h r0 40) (Int32.toNatClampNeg x1) 1) (hR (sI h (hR h r0 40) (Int32.toNatClampNeg x1) 1) r0 41) (Int32.toNatClampNeg x1) (hI (sI h (hR h r0 40) (Int32.toNatClampNeg x1) 1) r0 30))) (p := hK (sI h (hR h r0 40) (Int32.toNatClampNeg x1) 1) (hR (sI h (hR h r0 40) (Int32.toNatClampNeg x1) 1) r0 41) = 20 ∧ ixo x1 (hN (sI h (hR h r0 40) (Int32.toNatClampNeg x1) 1) (hR (sI h (hR h r0 40) (Int32.toNatClampNeg x1) 1) r0 41)) = true) rfl rfl rfl rfl (and2 decide_eq_true_iff Iff.rfl)
theorem b_M_mark_44 {d : Nat} (x1 x2 : Int32) (r0 : Nat) (h : AH) (Q : Option Value → AH → Prop) : Wp d P_M_mark 44 [.ref r0, .int x1, .int x2, .null] [] h Q ↔ Wp d P_M_mark 46 [.ref r0, .int x1, .int x2, .int 0] [] h Q :=
    (r_iconst (j := 45) (x := 0) rfl i32_0 rfl).trans <|
    r_go (j := 46) (L' := [.ref r0, .int x1, .int x2, .int 0]) (S' := []) (h' := h) rfl rfl rfl rfl
theorem b_M_mark_46 {d : Nat} (x1 x2 x3 : Int32) (r0 : Nat) (h : AH) (Q : Option Value → AH → Prop) : Wp d P_M_mark 46 [.ref r0, .int x1, .int x2, .int x3] [] h Q ↔ (12 ≤ x3 → Wp d P_M_mark 106 [.ref r0, .int x1, .int x2, .int x3] [] h Q) ∧ (¬ (12 ≤ x3) → Wp d P_M_mark 49 [.ref r0, .int x1, .int x2, .int x3] [] h Q) :=
    (r_go (j := 47) (L' := [.ref r0, .int x1, .int x2, .int x3]) (S' := [.int x3]) (h' := h) rfl rfl rfl rfl).trans <|
    (r_bipush (j := 48) (x := 12) rfl i32_12 rfl).trans <|
    r_icmp (j := 49) rfl (cd_ge _ _) rfl
theorem b_M_mark_49 {d : Nat} (x1 x2 x3 : Int32) (r0 : Nat) (h : AH) (Q : Option Value → AH → Prop) : Wp d P_M_mark 49 [.ref r0, .int x1, .int x2, .int x3] [] h Q ↔ (¬ x2 = 0 → Wp d P_M_mark 74 [.ref r0, .int x1, .int x2, .int x3] [] h Q) ∧ (¬ (¬ x2 = 0) → Wp d P_M_mark 51 [.ref r0, .int x1, .int x2, .int x3] [] h Q) :=
    (r_go (j := 50) (L' := [.ref r0, .int x1, .int x2, .int x3]) (S' := [.int x2]) (h' := h) rfl rfl rfl rfl).trans <|
    r_if (j := 51) rfl (cd_ne _ _) rfl
theorem b_M_mark_51 {d : Nat} (x1 x2 x3 : Int32) (r0 : Nat) (h : AH) (Q : Option Value → AH → Prop) : Wp d P_M_mark 51 [.ref r0, .int x1, .int x2, .int x3] [] h Q ↔ (hK h r0 = 11) ∧ ((8 ≤ x3 → Wp d P_M_mark 66 [.ref r0, .int x1, .int x2, .int x3] [.int ((12 * x1) + x3), .ref (hR h r0 42)] h Q) ∧ (¬ (8 ≤ x3) → Wp d P_M_mark 61 [.ref r0, .int x1, .int x2, .int x3] [.int ((12 * x1) + x3), .ref (hR h r0 42)] h Q)) :=
    (r_go (j := 52) (L' := [.ref r0, .int x1, .int x2, .int x3]) (S' := [.ref r0]) (h' := h) rfl rfl rfl rfl).trans <|
    (r_guard (j := 53) (L' := [.ref r0, .int x1, .int x2, .int x3]) (S' := [.ref (hR h r0 42)]) (h' := h) (p := hK h r0 = 11) rfl rfl rfl rfl (decide_eq_true_iff)).trans <| and_r <|
    (r_bipush (j := 54) (x := 12) rfl i32_12 rfl).trans <|
    (r_go (j := 55) (L' := [.ref r0, .int x1, .int x2, .int x3]) (S' := [.int x1, .int 12, .ref (hR h r0 42)]) (h' := h) rfl rfl rfl rfl).trans <|
    (r_go (j := 56) (L' := [.ref r0, .int x1, .int x2, .int x3]) (S' := [.int (12 * x1), .ref (hR h r0 42)]) (h' := h) rfl rfl rfl rfl).trans <|
    (r_go (j := 57) (L' := [.ref r0, .int x1, .int x2, .int x3]) (S' := [.int x3, .int (12 * x1), .ref (hR h r0 42)]) (h' := h) rfl rfl rfl rfl).trans <|
    (r_go (j := 58) (L' := [.ref r0, .int x1, .int x2, .int x3]) (S' := [.int ((12 * x1) + x3), .ref (hR h r0 42)]) (h' := h) rfl rfl rfl rfl).trans <|
    (r_go (j := 59) (L' := [.ref r0, .int x1, .int x2, .int x3]) (S' := [.int x3, .int ((12 * x1) + x3), .ref (hR h r0 42)]) (h' := h) rfl rfl rfl rfl).trans <|
    (r_bipush (j := 60) (x := 8) rfl i32_8 rfl).trans <|
    r_icmp (j := 61) rfl (cd_ge _ _) rfl
theorem b_M_mark_61 {d : Nat} (x1 x2 x3 s0 : Int32) (r0 t1 : Nat) (h : AH) (Q : Option Value → AH → Prop) : Wp d P_M_mark 61 [.ref r0, .int x1, .int x2, .int x3] [.int s0, .ref t1] h Q ↔ (hK h r0 = 11) ∧ ((hK h (hR h r0 38) = 23 ∧ ixo x3 (hN h (hR h r0 38)) = true) ∧ (Wp d P_M_mark 72 [.ref r0, .int x1, .int x2, .int x3] [.long (hJ h (hR h r0 38) (Int32.toNatClampNeg x3)), .int s0, .ref t1] h Q)) :=
    (r_go (j := 62) (L' := [.ref r0, .int x1, .int x2, .int x3]) (S' := [.ref r0, .int s0, .ref t1]) (h' := h) rfl rfl rfl rfl).trans <|
    (r_guard (j := 63) (L' := [.ref r0, .int x1, .int x2, .int x3]) (S' := [.ref (hR h r0 38), .int s0, .ref t1]) (h' := h) (p := hK h r0 = 11) rfl rfl rfl rfl (decide_eq_true_iff)).trans <| and_r <|
    (r_go (j := 64) (L' := [.ref r0, .int x1, .int x2, .int x3]) (S' := [.int x3, .ref (hR h r0 38), .int s0, .ref t1]) (h' := h) rfl rfl rfl rfl).trans <|
    (r_guard (j := 65) (L' := [.ref r0, .int x1, .int x2, .int x3]) (S' := [.long (hJ h (hR h r0 38) (Int32.toNatClampNeg x3)), .int s0, .ref t1]) (h' := h) (p := hK h (hR h r0 38) = 23 ∧ ixo x3 (hN h (hR h r0 38)) = true) rfl rfl rfl rfl (and2 decide_eq_true_iff Iff.rfl)).trans <| and_r <|
    r_go (j := 72) (L' := [.ref r0, .int x1, .int x2, .int x3]) (S' := [.long (hJ h (hR h r0 38) (Int32.toNatClampNeg x3)), .int s0, .ref t1]) (h' := h) rfl rfl rfl rfl
theorem b_M_mark_66 {d : Nat} (x1 x2 x3 s0 : Int32) (r0 t1 : Nat) (h : AH) (Q : Option Value → AH → Prop) : Wp d P_M_mark 66 [.ref r0, .int x1, .int x2, .int x3] [.int s0, .ref t1] h Q ↔ (hK h r0 = 11) ∧ ((hK h (hR h r0 39) = 23 ∧ ixo (x3 - 8) (hN h (hR h r0 39)) = true) ∧ (Wp d P_M_mark 72 [.ref r0, .int x1, .int x2, .int x3] [.long (hJ h (hR h r0 39) (Int32.toNatClampNeg (x3 - 8))), .int s0, .ref t1] h Q)) :=
    (r_go (j := 67) (L' := [.ref r0, .int x1, .int x2, .int x3]) (S' := [.ref r0, .int s0, .ref t1]) (h' := h) rfl rfl rfl rfl).trans <|
    (r_guard (j := 68) (L' := [.ref r0, .int x1, .int x2, .int x3]) (S' := [.ref (hR h r0 39), .int s0, .ref t1]) (h' := h) (p := hK h r0 = 11) rfl rfl rfl rfl (decide_eq_true_iff)).trans <| and_r <|
    (r_go (j := 69) (L' := [.ref r0, .int x1, .int x2, .int x3]) (S' := [.int x3, .ref (hR h r0 39), .int s0, .ref t1]) (h' := h) rfl rfl rfl rfl).trans <|
    (r_bipush (j := 70) (x := 8) rfl i32_8 rfl).trans <|
    (r_go (j := 71) (L' := [.ref r0, .int x1, .int x2, .int x3]) (S' := [.int (x3 - 8), .ref (hR h r0 39), .int s0, .ref t1]) (h' := h) rfl rfl rfl rfl).trans <|
    r_guard (j := 72) (L' := [.ref r0, .int x1, .int x2, .int x3]) (S' := [.long (hJ h (hR h r0 39) (Int32.toNatClampNeg (x3 - 8))), .int s0, .ref t1]) (h' := h) (p := hK h (hR h r0 39) = 23 ∧ ixo (x3 - 8) (hN h (hR h r0 39)) = true) rfl rfl rfl rfl (and2 decide_eq_true_iff Iff.rfl)
theorem b_M_mark_72 {d : Nat} (x1 x2 x3 s1 : Int32) (k0 : Int64) (r0 t2 : Nat) (h : AH) (Q : Option Value → AH → Prop) : Wp d P_M_mark 72 [.ref r0, .int x1, .int x2, .int x3] [.long k0, .int s1, .ref t2] h Q ↔ (hK h t2 = 23 ∧ ixo s1 (hN h t2) = true) ∧ (Wp d P_M_mark 104 [.ref r0, .int x1, .int x2, .int x3] [] (sJ h t2 (Int32.toNatClampNeg s1) k0) Q) :=
    (r_guard (j := 73) (L' := [.ref r0, .int x1, .int x2, .int x3]) (S' := []) (h' := (sJ h t2 (Int32.toNatClampNeg s1) k0)) (p := hK h t2 = 23 ∧ ixo s1 (hN h t2) = true) rfl rfl rfl rfl (and2 decide_eq_true_iff Iff.rfl)).trans <| and_r <|
    r_go (j := 104) (L' := [.ref r0, .int x1, .int x2, .int x3]) (S' := []) (h' := (sJ h t2 (Int32.toNatClampNeg s1) k0)) rfl rfl rfl rfl
theorem b_M_mark_74 {d : Nat} (x1 x2 x3 : Int32) (r0 : Nat) (h : AH) (Q : Option Value → AH → Prop) : Wp d P_M_mark 74 [.ref r0, .int x1, .int x2, .int x3] [] h Q ↔ (8 ≤ x3 → Wp d P_M_mark 90 [.ref r0, .int x1, .int x2, .int x3] [] h Q) ∧ (¬ (8 ≤ x3) → Wp d P_M_mark 77 [.ref r0, .int x1, .int x2, .int x3] [] h Q) :=
    (r_go (j := 75) (L' := [.ref r0, .int x1, .int x2, .int x3]) (S' := [.int x3]) (h' := h) rfl rfl rfl rfl).trans <|
    (r_bipush (j := 76) (x := 8) rfl i32_8 rfl).trans <|
    r_icmp (j := 77) rfl (cd_ge _ _) rfl
theorem b_M_mark_77 {d : Nat} (x1 x2 x3 : Int32) (r0 : Nat) (h : AH) (Q : Option Value → AH → Prop) : Wp d P_M_mark 77 [.ref r0, .int x1, .int x2, .int x3] [] h Q ↔ (hK h r0 = 11) ∧ ((hK h r0 = 11) ∧ ((hK h (hR h r0 42) = 23 ∧ ixo ((12 * x1) + x3) (hN h (hR h r0 42)) = true) ∧ ((hK h (hR h r0 38) = 23 ∧ ixo x3 (hN h (hR h r0 38)) = true) ∧ (Wp d P_M_mark 104 [.ref r0, .int x1, .int x2, .int x3] [] (sJ h (hR h r0 38) (Int32.toNatClampNeg x3) (hJ h (hR h r0 42) (Int32.toNatClampNeg ((12 * x1) + x3)))) Q)))) :=
    (r_go (j := 78) (L' := [.ref r0, .int x1, .int x2, .int x3]) (S' := [.ref r0]) (h' := h) rfl rfl rfl rfl).trans <|
    (r_guard (j := 79) (L' := [.ref r0, .int x1, .int x2, .int x3]) (S' := [.ref (hR h r0 38)]) (h' := h) (p := hK h r0 = 11) rfl rfl rfl rfl (decide_eq_true_iff)).trans <| and_r <|
    (r_go (j := 80) (L' := [.ref r0, .int x1, .int x2, .int x3]) (S' := [.int x3, .ref (hR h r0 38)]) (h' := h) rfl rfl rfl rfl).trans <|
    (r_go (j := 81) (L' := [.ref r0, .int x1, .int x2, .int x3]) (S' := [.ref r0, .int x3, .ref (hR h r0 38)]) (h' := h) rfl rfl rfl rfl).trans <|
    (r_guard (j := 82) (L' := [.ref r0, .int x1, .int x2, .int x3]) (S' := [.ref (hR h r0 42), .int x3, .ref (hR h r0 38)]) (h' := h) (p := hK h r0 = 11) rfl rfl rfl rfl (decide_eq_true_iff)).trans <| and_r <|
    (r_bipush (j := 83) (x := 12) rfl i32_12 rfl).trans <|
    (r_go (j := 84) (L' := [.ref r0, .int x1, .int x2, .int x3]) (S' := [.int x1, .int 12, .ref (hR h r0 42), .int x3, .ref (hR h r0 38)]) (h' := h) rfl rfl rfl rfl).trans <|
    (r_go (j := 85) (L' := [.ref r0, .int x1, .int x2, .int x3]) (S' := [.int (12 * x1), .ref (hR h r0 42), .int x3, .ref (hR h r0 38)]) (h' := h) rfl rfl rfl rfl).trans <|
    (r_go (j := 86) (L' := [.ref r0, .int x1, .int x2, .int x3]) (S' := [.int x3, .int (12 * x1), .ref (hR h r0 42), .int x3, .ref (hR h r0 38)]) (h' := h) rfl rfl rfl rfl).trans <|
    (r_go (j := 87) (L' := [.ref r0, .int x1, .int x2, .int x3]) (S' := [.int ((12 * x1) + x3), .ref (hR h r0 42), .int x3, .ref (hR h r0 38)]) (h' := h) rfl rfl rfl rfl).trans <|
    (r_guard (j := 88) (L' := [.ref r0, .int x1, .int x2, .int x3]) (S' := [.long (hJ h (hR h r0 42) (Int32.toNatClampNeg ((12 * x1) + x3))), .int x3, .ref (hR h r0 38)]) (h' := h) (p := hK h (hR h r0 42) = 23 ∧ ixo ((12 * x1) + x3) (hN h (hR h r0 42)) = true) rfl rfl rfl rfl (and2 decide_eq_true_iff Iff.rfl)).trans <| and_r <|
    (r_guard (j := 89) (L' := [.ref r0, .int x1, .int x2, .int x3]) (S' := []) (h' := (sJ h (hR h r0 38) (Int32.toNatClampNeg x3) (hJ h (hR h r0 42) (Int32.toNatClampNeg ((12 * x1) + x3))))) (p := hK h (hR h r0 38) = 23 ∧ ixo x3 (hN h (hR h r0 38)) = true) rfl rfl rfl rfl (and2 decide_eq_true_iff Iff.rfl)).trans <| and_r <|
    r_go (j := 104) (L' := [.ref r0, .int x1, .int x2, .int x3]) (S' := []) (h' := (sJ h (hR h r0 38) (Int32.toNatClampNeg x3) (hJ h (hR h r0 42) (Int32.toNatClampNeg ((12 * x1) + x3))))) rfl rfl rfl rfl
theorem b_M_mark_90 {d : Nat} (x1 x2 x3 : Int32) (r0 : Nat) (h : AH) (Q : Option Value → AH → Prop) : Wp d P_M_mark 90 [.ref r0, .int x1, .int x2, .int x3] [] h Q ↔ (hK h r0 = 11) ∧ ((hK h r0 = 11) ∧ ((hK h (hR h r0 42) = 23 ∧ ixo ((12 * x1) + x3) (hN h (hR h r0 42)) = true) ∧ ((hK h (hR h r0 39) = 23 ∧ ixo (x3 - 8) (hN h (hR h r0 39)) = true) ∧ (Wp d P_M_mark 104 [.ref r0, .int x1, .int x2, .int x3] [] (sJ h (hR h r0 39) (Int32.toNatClampNeg (x3 - 8)) (hJ h (hR h r0 42) (Int32.toNatClampNeg ((12 * x1) + x3)))) Q)))) :=
    (r_go (j := 91) (L' := [.ref r0, .int x1, .int x2, .int x3]) (S' := [.ref r0]) (h' := h) rfl rfl rfl rfl).trans <|
    (r_guard (j := 92) (L' := [.ref r0, .int x1, .int x2, .int x3]) (S' := [.ref (hR h r0 39)]) (h' := h) (p := hK h r0 = 11) rfl rfl rfl rfl (decide_eq_true_iff)).trans <| and_r <|
    (r_go (j := 93) (L' := [.ref r0, .int x1, .int x2, .int x3]) (S' := [.int x3, .ref (hR h r0 39)]) (h' := h) rfl rfl rfl rfl).trans <|
    (r_bipush (j := 94) (x := 8) rfl i32_8 rfl).trans <|
    (r_go (j := 95) (L' := [.ref r0, .int x1, .int x2, .int x3]) (S' := [.int (x3 - 8), .ref (hR h r0 39)]) (h' := h) rfl rfl rfl rfl).trans <|
    (r_go (j := 96) (L' := [.ref r0, .int x1, .int x2, .int x3]) (S' := [.ref r0, .int (x3 - 8), .ref (hR h r0 39)]) (h' := h) rfl rfl rfl rfl).trans <|
    (r_guard (j := 97) (L' := [.ref r0, .int x1, .int x2, .int x3]) (S' := [.ref (hR h r0 42), .int (x3 - 8), .ref (hR h r0 39)]) (h' := h) (p := hK h r0 = 11) rfl rfl rfl rfl (decide_eq_true_iff)).trans <| and_r <|
    (r_bipush (j := 98) (x := 12) rfl i32_12 rfl).trans <|
    (r_go (j := 99) (L' := [.ref r0, .int x1, .int x2, .int x3]) (S' := [.int x1, .int 12, .ref (hR h r0 42), .int (x3 - 8), .ref (hR h r0 39)]) (h' := h) rfl rfl rfl rfl).trans <|
    (r_go (j := 100) (L' := [.ref r0, .int x1, .int x2, .int x3]) (S' := [.int (12 * x1), .ref (hR h r0 42), .int (x3 - 8), .ref (hR h r0 39)]) (h' := h) rfl rfl rfl rfl).trans <|
    (r_go (j := 101) (L' := [.ref r0, .int x1, .int x2, .int x3]) (S' := [.int x3, .int (12 * x1), .ref (hR h r0 42), .int (x3 - 8), .ref (hR h r0 39)]) (h' := h) rfl rfl rfl rfl).trans <|
    (r_go (j := 102) (L' := [.ref r0, .int x1, .int x2, .int x3]) (S' := [.int ((12 * x1) + x3), .ref (hR h r0 42), .int (x3 - 8), .ref (hR h r0 39)]) (h' := h) rfl rfl rfl rfl).trans <|
    (r_guard (j := 103) (L' := [.ref r0, .int x1, .int x2, .int x3]) (S' := [.long (hJ h (hR h r0 42) (Int32.toNatClampNeg ((12 * x1) + x3))), .int (x3 - 8), .ref (hR h r0 39)]) (h' := h) (p := hK h (hR h r0 42) = 23 ∧ ixo ((12 * x1) + x3) (hN h (hR h r0 42)) = true) rfl rfl rfl rfl (and2 decide_eq_true_iff Iff.rfl)).trans <| and_r <|
    r_guard (j := 104) (L' := [.ref r0, .int x1, .int x2, .int x3]) (S' := []) (h' := (sJ h (hR h r0 39) (Int32.toNatClampNeg (x3 - 8)) (hJ h (hR h r0 42) (Int32.toNatClampNeg ((12 * x1) + x3))))) (p := hK h (hR h r0 39) = 23 ∧ ixo (x3 - 8) (hN h (hR h r0 39)) = true) rfl rfl rfl rfl (and2 decide_eq_true_iff Iff.rfl)
theorem b_M_mark_104 {d : Nat} (x1 x2 x3 : Int32) (r0 : Nat) (h : AH) (Q : Option Value → AH → Prop) : Wp d P_M_mark 104 [.ref r0, .int x1, .int x2, .int x3] [] h Q ↔ Wp d P_M_mark 46 [.ref r0, .int x1, .int x2, .int (x3 + 1)] [] h Q :=
    (r_iinc (j := 105) (x := 1) (L' := [.ref r0, .int x1, .int x2, .int (x3 + 1)]) rfl rfl i32_1 rfl rfl).trans <|
    r_go (j := 46) (L' := [.ref r0, .int x1, .int x2, .int (x3 + 1)]) (S' := []) (h' := h) rfl rfl rfl rfl
theorem b_M_mark_106 {d : Nat} (x1 x2 x3 : Int32) (r0 : Nat) (h : AH) (Q : Option Value → AH → Prop) : Wp d P_M_mark 106 [.ref r0, .int x1, .int x2, .int x3] [] h Q ↔ Q (some (.int 1)) h :=
    (r_iconst (j := 107) (x := 1) rfl i32_1 rfl).trans <|
    r_ret rfl rfl rfl
theorem e_M_mark {d : Nat} (x1 x2 : Int32) (r0 : Nat) (h : AH) (Q : Option Value → AH → Prop) : Cl (d + 1) q_M_mark [.ref r0, .int x1, .int x2] h Q ↔ hK h r0 = 11 ∧ Wp d P_M_mark 0 [.ref r0, .int x1, .int x2, .null] [] h (fun r h' => rtk (some .boolean) r = true ∧ Q r h') :=
    (Cl_method (t := m_M_mark) rfl).trans (and_congr_left fun _ => decide_eq_true_iff)
/-! PenThatJumpsModel.count(I)I -/
theorem b_M_count_0 {d : Nat} (x1 : Int32) (r0 : Nat) (h : AH) (Q : Option Value → AH → Prop) : Wp d P_M_count 0 [.ref r0, .int x1, .null, .null, .null] [] h Q ↔ (hK h r0 = 11) ∧ ((Int32.toInt x1 < 0 ∨ 0 + (List.length [7, 35, 56, 7, 59, 76, 87, 90] : Nat) ≤ Int32.toInt x1 → Wp d P_M_count 111 [.ref r0, .int x1, .long 0, .null, .null] [] (sI h r0 0 0) Q) ∧ (¬ (Int32.toInt x1 < 0 ∨ 0 + (List.length [7, 35, 56, 7, 59, 76, 87, 90] : Nat) ≤ Int32.toInt x1) → Wp d P_M_count (List.getD [7, 35, 56, 7, 59, 76, 87, 90] (Int32.toInt x1 - 0).toNat 0) [.ref r0, .int x1, .long 0, .null, .null] [] (sI h r0 0 0) Q)) :=
    (r_go (j := 1) (L' := [.ref r0, .int x1, .null, .null, .null]) (S' := [.ref r0]) (h' := h) rfl rfl rfl rfl).trans <|
    (r_iconst (j := 2) (x := 0) rfl i32_0 rfl).trans <|
    (r_guard (j := 3) (L' := [.ref r0, .int x1, .null, .null, .null]) (S' := []) (h' := (sI h r0 0 0)) (p := hK h r0 = 11) rfl rfl rfl rfl (pfI rfl)).trans <| and_r <|
    (r_go (j := 4) (L' := [.ref r0, .int x1, .null, .null, .null]) (S' := [.long 0]) (h' := (sI h r0 0 0)) rfl rfl rfl rfl).trans <|
    (r_go (j := 5) (L' := [.ref r0, .int x1, .long 0, .null, .null]) (S' := []) (h' := (sI h r0 0 0)) rfl rfl rfl rfl).trans <|
    (r_go (j := 6) (L' := [.ref r0, .int x1, .long 0, .null, .null]) (S' := [.int x1]) (h' := (sI h r0 0 0)) rfl rfl rfl rfl).trans <|
    r_tsw rfl
theorem b_M_count_7 {d : Nat} (x1 : Int32) (l2 : Int64) (r0 : Nat) (h : AH) (Q : Option Value → AH → Prop) : Wp d P_M_count 7 [.ref r0, .int x1, .long l2, .null, .null] [] h Q ↔ Wp d P_M_count 9 [.ref r0, .int x1, .long l2, .null, .int 0] [] h Q :=
    (r_iconst (j := 8) (x := 0) rfl i32_0 rfl).trans <|
    r_go (j := 9) (L' := [.ref r0, .int x1, .long l2, .null, .int 0]) (S' := []) (h' := h) rfl rfl rfl rfl
theorem b_M_count_9 {d : Nat} (x1 x4 : Int32) (l2 : Int64) (r0 : Nat) (h : AH) (Q : Option Value → AH → Prop) : Wp d P_M_count 9 [.ref r0, .int x1, .long l2, .null, .int x4] [] h Q ↔ (8 ≤ x4 → Wp d P_M_count 32 [.ref r0, .int x1, .long l2, .null, .int x4] [] h Q) ∧ (¬ (8 ≤ x4) → Wp d P_M_count 12 [.ref r0, .int x1, .long l2, .null, .int x4] [] h Q) :=
    (r_go (j := 10) (L' := [.ref r0, .int x1, .long l2, .null, .int x4]) (S' := [.int x4]) (h' := h) rfl rfl rfl rfl).trans <|
    (r_bipush (j := 11) (x := 8) rfl i32_8 rfl).trans <|
    r_icmp (j := 12) rfl (cd_ge _ _) rfl
theorem b_M_count_12 {d : Nat} (x1 x4 : Int32) (l2 : Int64) (r0 : Nat) (h : AH) (Q : Option Value → AH → Prop) : Wp d P_M_count 12 [.ref r0, .int x1, .long l2, .null, .int x4] [] h Q ↔ (hK h r0 = 11) ∧ ((hK h (hR h r0 10) ∈ [22, 45] ∧ ixo x4 (hN h (hR h r0 10)) = true) ∧ (((hI h (hR h r0 10) (Int32.toNatClampNeg x4)) = 0 → Wp d P_M_count 27 [.ref r0, .int x1, .long l2, .null, .int x4] [.long l2] h Q) ∧ (¬ ((hI h (hR h r0 10) (Int32.toNatClampNeg x4)) = 0) → Wp d P_M_count 18 [.ref r0, .int x1, .long l2, .null, .int x4] [.long l2] h Q))) :=
    (r_go (j := 13) (L' := [.ref r0, .int x1, .long l2, .null, .int x4]) (S' := [.long l2]) (h' := h) rfl rfl rfl rfl).trans <|
    (r_go (j := 14) (L' := [.ref r0, .int x1, .long l2, .null, .int x4]) (S' := [.ref r0, .long l2]) (h' := h) rfl rfl rfl rfl).trans <|
    (r_guard (j := 15) (L' := [.ref r0, .int x1, .long l2, .null, .int x4]) (S' := [.ref (hR h r0 10), .long l2]) (h' := h) (p := hK h r0 = 11) rfl rfl rfl rfl (decide_eq_true_iff)).trans <| and_r <|
    (r_go (j := 16) (L' := [.ref r0, .int x1, .long l2, .null, .int x4]) (S' := [.int x4, .ref (hR h r0 10), .long l2]) (h' := h) rfl rfl rfl rfl).trans <|
    (r_guard (j := 17) (L' := [.ref r0, .int x1, .long l2, .null, .int x4]) (S' := [.int (hI h (hR h r0 10) (Int32.toNatClampNeg x4)), .long l2]) (h' := h) (p := hK h (hR h r0 10) ∈ [22, 45] ∧ ixo x4 (hN h (hR h r0 10)) = true) rfl rfl rfl rfl (and2 decide_eq_true_iff Iff.rfl)).trans <| and_r <|
    r_if (j := 18) rfl (cd_eq _ _) rfl
theorem b_M_count_18 {d : Nat} (x1 x4 : Int32) (l2 k0 : Int64) (r0 : Nat) (h : AH) (Q : Option Value → AH → Prop) : Wp d P_M_count 18 [.ref r0, .int x1, .long l2, .null, .int x4] [.long k0] h Q ↔ (x1 = 0 → Wp d P_M_count 25 [.ref r0, .int x1, .long l2, .null, .int x4] [.long k0] h Q) ∧ (¬ (x1 = 0) → Wp d P_M_count 20 [.ref r0, .int x1, .long l2, .null, .int x4] [.long k0] h Q) :=
    (r_go (j := 19) (L' := [.ref r0, .int x1, .long l2, .null, .int x4]) (S' := [.int x1, .long k0]) (h' := h) rfl rfl rfl rfl).trans <|
    r_if (j := 20) rfl (cd_eq _ _) rfl
theorem b_M_count_20 {d : Nat} (x1 x4 : Int32) (l2 k0 : Int64) (r0 : Nat) (h : AH) (Q : Option Value → AH → Prop) : Wp d P_M_count 20 [.ref r0, .int x1, .long l2, .null, .int x4] [.long k0] h Q ↔ (hK h r0 = 11) ∧ ((hK h (hR h r0 12) ∈ [22, 45] ∧ ixo x4 (hN h (hR h r0 12)) = true) ∧ (((hI h (hR h r0 12) (Int32.toNatClampNeg x4)) = 0 → Wp d P_M_count 27 [.ref r0, .int x1, .long l2, .null, .int x4] [.long k0] h Q) ∧ (¬ ((hI h (hR h r0 12) (Int32.toNatClampNeg x4)) = 0) → Wp d P_M_count 25 [.ref r0, .int x1, .long l2, .null, .int x4] [.long k0] h Q))) :=
    (r_go (j := 21) (L' := [.ref r0, .int x1, .long l2, .null, .int x4]) (S' := [.ref r0, .long k0]) (h' := h) rfl rfl rfl rfl).trans <|
    (r_guard (j := 22) (L' := [.ref r0, .int x1, .long l2, .null, .int x4]) (S' := [.ref (hR h r0 12), .long k0]) (h' := h) (p := hK h r0 = 11) rfl rfl rfl rfl (decide_eq_true_iff)).trans <| and_r <|
    (r_go (j := 23) (L' := [.ref r0, .int x1, .long l2, .null, .int x4]) (S' := [.int x4, .ref (hR h r0 12), .long k0]) (h' := h) rfl rfl rfl rfl).trans <|
    (r_guard (j := 24) (L' := [.ref r0, .int x1, .long l2, .null, .int x4]) (S' := [.int (hI h (hR h r0 12) (Int32.toNatClampNeg x4)), .long k0]) (h' := h) (p := hK h (hR h r0 12) ∈ [22, 45] ∧ ixo x4 (hN h (hR h r0 12)) = true) rfl rfl rfl rfl (and2 decide_eq_true_iff Iff.rfl)).trans <| and_r <|
    r_if (j := 25) rfl (cd_eq _ _) rfl
theorem b_M_count_25 {d : Nat} (x1 x4 : Int32) (l2 k0 : Int64) (r0 : Nat) (h : AH) (Q : Option Value → AH → Prop) : Wp d P_M_count 25 [.ref r0, .int x1, .long l2, .null, .int x4] [.long k0] h Q ↔ Wp d P_M_count 28 [.ref r0, .int x1, .long l2, .null, .int x4] [.long 1, .long k0] h Q :=
    (r_go (j := 26) (L' := [.ref r0, .int x1, .long l2, .null, .int x4]) (S' := [.long 1, .long k0]) (h' := h) rfl rfl rfl rfl).trans <|
    r_go (j := 28) (L' := [.ref r0, .int x1, .long l2, .null, .int x4]) (S' := [.long 1, .long k0]) (h' := h) rfl rfl rfl rfl
theorem b_M_count_27 {d : Nat} (x1 x4 : Int32) (l2 k0 : Int64) (r0 : Nat) (h : AH) (Q : Option Value → AH → Prop) : Wp d P_M_count 27 [.ref r0, .int x1, .long l2, .null, .int x4] [.long k0] h Q ↔ Wp d P_M_count 28 [.ref r0, .int x1, .long l2, .null, .int x4] [.long 0, .long k0] h Q :=
    r_go (j := 28) (L' := [.ref r0, .int x1, .long l2, .null, .int x4]) (S' := [.long 0, .long k0]) (h' := h) rfl rfl rfl rfl
theorem b_M_count_28 {d : Nat} (x1 x4 : Int32) (l2 k0 k1 : Int64) (r0 : Nat) (h : AH) (Q : Option Value → AH → Prop) : Wp d P_M_count 28 [.ref r0, .int x1, .long l2, .null, .int x4] [.long k0, .long k1] h Q ↔ Wp d P_M_count 9 [.ref r0, .int x1, .long (k1 + k0), .null, .int (x4 + 1)] [] h Q :=
    (r_go (j := 29) (L' := [.ref r0, .int x1, .long l2, .null, .int x4]) (S' := [.long (k1 + k0)]) (h' := h) rfl rfl rfl rfl).trans <|
    (r_go (j := 30) (L' := [.ref r0, .int x1, .long (k1 + k0), .null, .int x4]) (S' := []) (h' := h) rfl rfl rfl rfl).trans <|
    (r_iinc (j := 31) (x := 1) (L' := [.ref r0, .int x1, .long (k1 + k0), .null, .int (x4 + 1)]) rfl rfl i32_1 rfl rfl).trans <|
    r_go (j := 9) (L' := [.ref r0, .int x1, .long (k1 + k0), .null, .int (x4 + 1)]) (S' := []) (h' := h) rfl rfl rfl rfl
theorem b_M_count_32 {d : Nat} (x1 x4 : Int32) (l2 : Int64) (r0 : Nat) (h : AH) (Q : Option Value → AH → Prop) : Wp d P_M_count 32 [.ref r0, .int x1, .long l2, .null, .int x4] [] h Q ↔ Q (some (.int (Int64.toInt32 l2))) h :=
    (r_go (j := 33) (L' := [.ref r0, .int x1, .long l2, .null, .int x4]) (S' := [.long l2]) (h' := h) rfl rfl rfl rfl).trans <|
    (r_go (j := 34) (L' := [.ref r0, .int x1, .long l2, .null, .int x4]) (S' := [.int (Int64.toInt32 l2)]) (h' := h) rfl rfl rfl rfl).trans <|
    r_ret rfl rfl rfl
theorem b_M_count_35 {d : Nat} (x1 : Int32) (l2 : Int64) (r0 : Nat) (h : AH) (Q : Option Value → AH → Prop) : Wp d P_M_count 35 [.ref r0, .int x1, .long l2, .null, .null] [] h Q ↔ Wp d P_M_count 37 [.ref r0, .int x1, .long l2, .null, .int 0] [] h Q :=
    (r_iconst (j := 36) (x := 0) rfl i32_0 rfl).trans <|
    r_go (j := 37) (L' := [.ref r0, .int x1, .long l2, .null, .int 0]) (S' := []) (h' := h) rfl rfl rfl rfl
theorem b_M_count_37 {d : Nat} (x1 x4 : Int32) (l2 : Int64) (r0 : Nat) (h : AH) (Q : Option Value → AH → Prop) : Wp d P_M_count 37 [.ref r0, .int x1, .long l2, .null, .int x4] [] h Q ↔ (4 ≤ x4 → Wp d P_M_count 53 [.ref r0, .int x1, .long l2, .null, .int x4] [] h Q) ∧ (¬ (4 ≤ x4) → Wp d P_M_count 40 [.ref r0, .int x1, .long l2, .null, .int x4] [] h Q) :=
    (r_go (j := 38) (L' := [.ref r0, .int x1, .long l2, .null, .int x4]) (S' := [.int x4]) (h' := h) rfl rfl rfl rfl).trans <|
    (r_iconst (j := 39) (x := 4) rfl i32_4 rfl).trans <|
    r_icmp (j := 40) rfl (cd_ge _ _) rfl
theorem b_M_count_40 {d : Nat} (x1 x4 : Int32) (l2 : Int64) (r0 : Nat) (h : AH) (Q : Option Value → AH → Prop) : Wp d P_M_count 40 [.ref r0, .int x1, .long l2, .null, .int x4] [] h Q ↔ (hK h r0 = 11) ∧ ((hK h (hR h r0 16) ∈ [20, 44] ∧ ixo x4 (hN h (hR h r0 16)) = true) ∧ (((hI h (hR h r0 16) (Int32.toNatClampNeg x4)) ≤ 0 → Wp d P_M_count 48 [.ref r0, .int x1, .long l2, .null, .int x4] [.long l2] h Q) ∧ (¬ ((hI h (hR h r0 16) (Int32.toNatClampNeg x4)) ≤ 0) → Wp d P_M_count 46 [.ref r0, .int x1, .long l2, .null, .int x4] [.long l2] h Q))) :=
    (r_go (j := 41) (L' := [.ref r0, .int x1, .long l2, .null, .int x4]) (S' := [.long l2]) (h' := h) rfl rfl rfl rfl).trans <|
    (r_go (j := 42) (L' := [.ref r0, .int x1, .long l2, .null, .int x4]) (S' := [.ref r0, .long l2]) (h' := h) rfl rfl rfl rfl).trans <|
    (r_guard (j := 43) (L' := [.ref r0, .int x1, .long l2, .null, .int x4]) (S' := [.ref (hR h r0 16), .long l2]) (h' := h) (p := hK h r0 = 11) rfl rfl rfl rfl (decide_eq_true_iff)).trans <| and_r <|
    (r_go (j := 44) (L' := [.ref r0, .int x1, .long l2, .null, .int x4]) (S' := [.int x4, .ref (hR h r0 16), .long l2]) (h' := h) rfl rfl rfl rfl).trans <|
    (r_guard (j := 45) (L' := [.ref r0, .int x1, .long l2, .null, .int x4]) (S' := [.int (hI h (hR h r0 16) (Int32.toNatClampNeg x4)), .long l2]) (h' := h) (p := hK h (hR h r0 16) ∈ [20, 44] ∧ ixo x4 (hN h (hR h r0 16)) = true) rfl rfl rfl rfl (and2 decide_eq_true_iff Iff.rfl)).trans <| and_r <|
    r_if (j := 46) rfl (cd_le _ _) rfl
theorem b_M_count_46 {d : Nat} (x1 x4 : Int32) (l2 k0 : Int64) (r0 : Nat) (h : AH) (Q : Option Value → AH → Prop) : Wp d P_M_count 46 [.ref r0, .int x1, .long l2, .null, .int x4] [.long k0] h Q ↔ Wp d P_M_count 49 [.ref r0, .int x1, .long l2, .null, .int x4] [.long 1, .long k0] h Q :=
    (r_go (j := 47) (L' := [.ref r0, .int x1, .long l2, .null, .int x4]) (S' := [.long 1, .long k0]) (h' := h) rfl rfl rfl rfl).trans <|
    r_go (j := 49) (L' := [.ref r0, .int x1, .long l2, .null, .int x4]) (S' := [.long 1, .long k0]) (h' := h) rfl rfl rfl rfl
theorem b_M_count_48 {d : Nat} (x1 x4 : Int32) (l2 k0 : Int64) (r0 : Nat) (h : AH) (Q : Option Value → AH → Prop) : Wp d P_M_count 48 [.ref r0, .int x1, .long l2, .null, .int x4] [.long k0] h Q ↔ Wp d P_M_count 49 [.ref r0, .int x1, .long l2, .null, .int x4] [.long 0, .long k0] h Q :=
    r_go (j := 49) (L' := [.ref r0, .int x1, .long l2, .null, .int x4]) (S' := [.long 0, .long k0]) (h' := h) rfl rfl rfl rfl
theorem b_M_count_49 {d : Nat} (x1 x4 : Int32) (l2 k0 k1 : Int64) (r0 : Nat) (h : AH) (Q : Option Value → AH → Prop) : Wp d P_M_count 49 [.ref r0, .int x1, .long l2, .null, .int x4] [.long k0, .long k1] h Q ↔ Wp d P_M_count 37 [.ref r0, .int x1, .long (k1 + k0), .null, .int (x4 + 1)] [] h Q :=
    (r_go (j := 50) (L' := [.ref r0, .int x1, .long l2, .null, .int x4]) (S' := [.long (k1 + k0)]) (h' := h) rfl rfl rfl rfl).trans <|
    (r_go (j := 51) (L' := [.ref r0, .int x1, .long (k1 + k0), .null, .int x4]) (S' := []) (h' := h) rfl rfl rfl rfl).trans <|
    (r_iinc (j := 52) (x := 1) (L' := [.ref r0, .int x1, .long (k1 + k0), .null, .int (x4 + 1)]) rfl rfl i32_1 rfl rfl).trans <|
    r_go (j := 37) (L' := [.ref r0, .int x1, .long (k1 + k0), .null, .int (x4 + 1)]) (S' := []) (h' := h) rfl rfl rfl rfl
theorem b_M_count_53 {d : Nat} (x1 x4 : Int32) (l2 : Int64) (r0 : Nat) (h : AH) (Q : Option Value → AH → Prop) : Wp d P_M_count 53 [.ref r0, .int x1, .long l2, .null, .int x4] [] h Q ↔ Q (some (.int (Int64.toInt32 l2))) h :=
    (r_go (j := 54) (L' := [.ref r0, .int x1, .long l2, .null, .int x4]) (S' := [.long l2]) (h' := h) rfl rfl rfl rfl).trans <|
    (r_go (j := 55) (L' := [.ref r0, .int x1, .long l2, .null, .int x4]) (S' := [.int (Int64.toInt32 l2)]) (h' := h) rfl rfl rfl rfl).trans <|
    r_ret rfl rfl rfl
theorem b_M_count_56 {d : Nat} (x1 : Int32) (l2 : Int64) (r0 : Nat) (h : AH) (Q : Option Value → AH → Prop) : Wp d P_M_count 56 [.ref r0, .int x1, .long l2, .null, .null] [] h Q ↔ (hK h r0 = 11) ∧ (Q (some (.int (hI h r0 30))) h) :=
    (r_go (j := 57) (L' := [.ref r0, .int x1, .long l2, .null, .null]) (S' := [.ref r0]) (h' := h) rfl rfl rfl rfl).trans <|
    (r_guard (j := 58) (L' := [.ref r0, .int x1, .long l2, .null, .null]) (S' := [.int (hI h r0 30)]) (h' := h) (p := hK h r0 = 11) rfl rfl rfl rfl (decide_eq_true_iff)).trans <| and_r <|
    r_ret rfl rfl rfl
theorem b_M_count_59 {d : Nat} (x1 : Int32) (l2 : Int64) (r0 : Nat) (h : AH) (Q : Option Value → AH → Prop) : Wp d P_M_count 59 [.ref r0, .int x1, .long l2, .null, .null] [] h Q ↔ Wp d P_M_count 61 [.ref r0, .int x1, .long l2, .null, .int 0] [] h Q :=
    (r_iconst (j := 60) (x := 0) rfl i32_0 rfl).trans <|
    r_go (j := 61) (L' := [.ref r0, .int x1, .long l2, .null, .int 0]) (S' := []) (h' := h) rfl rfl rfl rfl
theorem b_M_count_61 {d : Nat} (x1 x4 : Int32) (l2 : Int64) (r0 : Nat) (h : AH) (Q : Option Value → AH → Prop) : Wp d P_M_count 61 [.ref r0, .int x1, .long l2, .null, .int x4] [] h Q ↔ (8 ≤ x4 → Wp d P_M_count 73 [.ref r0, .int x1, .long l2, .null, .int x4] [] h Q) ∧ (¬ (8 ≤ x4) → Wp d P_M_count 64 [.ref r0, .int x1, .long l2, .null, .int x4] [] h Q) :=
    (r_go (j := 62) (L' := [.ref r0, .int x1, .long l2, .null, .int x4]) (S' := [.int x4]) (h' := h) rfl rfl rfl rfl).trans <|
    (r_bipush (j := 63) (x := 8) rfl i32_8 rfl).trans <|
    r_icmp (j := 64) rfl (cd_ge _ _) rfl
theorem b_M_count_64 {d : Nat} (x1 x4 : Int32) (l2 : Int64) (r0 : Nat) (h : AH) (Q : Option Value → AH → Prop) : Wp d P_M_count 64 [.ref r0, .int x1, .long l2, .null, .int x4] [] h Q ↔ (hK h r0 = 11) ∧ ((hK h (hR h r0 38) = 23 ∧ ixo x4 (hN h (hR h r0 38)) = true) ∧ (Wp d P_M_count 61 [.ref r0, .int x1, .long (l2 + (hJ h (hR h r0 38) (Int32.toNatClampNeg x4))), .null, .int (x4 + 1)] [] h Q)) :=
    (r_go (j := 65) (L' := [.ref r0, .int x1, .long l2, .null, .int x4]) (S' := [.long l2]) (h' := h) rfl rfl rfl rfl).trans <|
    (r_go (j := 66) (L' := [.ref r0, .int x1, .long l2, .null, .int x4]) (S' := [.ref r0, .long l2]) (h' := h) rfl rfl rfl rfl).trans <|
    (r_guard (j := 67) (L' := [.ref r0, .int x1, .long l2, .null, .int x4]) (S' := [.ref (hR h r0 38), .long l2]) (h' := h) (p := hK h r0 = 11) rfl rfl rfl rfl (decide_eq_true_iff)).trans <| and_r <|
    (r_go (j := 68) (L' := [.ref r0, .int x1, .long l2, .null, .int x4]) (S' := [.int x4, .ref (hR h r0 38), .long l2]) (h' := h) rfl rfl rfl rfl).trans <|
    (r_guard (j := 69) (L' := [.ref r0, .int x1, .long l2, .null, .int x4]) (S' := [.long (hJ h (hR h r0 38) (Int32.toNatClampNeg x4)), .long l2]) (h' := h) (p := hK h (hR h r0 38) = 23 ∧ ixo x4 (hN h (hR h r0 38)) = true) rfl rfl rfl rfl (and2 decide_eq_true_iff Iff.rfl)).trans <| and_r <|
    (r_go (j := 70) (L' := [.ref r0, .int x1, .long l2, .null, .int x4]) (S' := [.long (l2 + (hJ h (hR h r0 38) (Int32.toNatClampNeg x4)))]) (h' := h) rfl rfl rfl rfl).trans <|
    (r_go (j := 71) (L' := [.ref r0, .int x1, .long (l2 + (hJ h (hR h r0 38) (Int32.toNatClampNeg x4))), .null, .int x4]) (S' := []) (h' := h) rfl rfl rfl rfl).trans <|
    (r_iinc (j := 72) (x := 1) (L' := [.ref r0, .int x1, .long (l2 + (hJ h (hR h r0 38) (Int32.toNatClampNeg x4))), .null, .int (x4 + 1)]) rfl rfl i32_1 rfl rfl).trans <|
    r_go (j := 61) (L' := [.ref r0, .int x1, .long (l2 + (hJ h (hR h r0 38) (Int32.toNatClampNeg x4))), .null, .int (x4 + 1)]) (S' := []) (h' := h) rfl rfl rfl rfl
theorem b_M_count_73 {d : Nat} (x1 x4 : Int32) (l2 : Int64) (r0 : Nat) (h : AH) (Q : Option Value → AH → Prop) : Wp d P_M_count 73 [.ref r0, .int x1, .long l2, .null, .int x4] [] h Q ↔ Q (some (.int (Int64.toInt32 l2))) h :=
    (r_go (j := 74) (L' := [.ref r0, .int x1, .long l2, .null, .int x4]) (S' := [.long l2]) (h' := h) rfl rfl rfl rfl).trans <|
    (r_go (j := 75) (L' := [.ref r0, .int x1, .long l2, .null, .int x4]) (S' := [.int (Int64.toInt32 l2)]) (h' := h) rfl rfl rfl rfl).trans <|
    r_ret rfl rfl rfl
theorem b_M_count_76 {d : Nat} (x1 : Int32) (l2 : Int64) (r0 : Nat) (h : AH) (Q : Option Value → AH → Prop) : Wp d P_M_count 76 [.ref r0, .int x1, .long l2, .null, .null] [] h Q ↔ (hK h r0 = 11) ∧ ((hK h (hR h r0 39) = 23 ∧ ixo 0 (hN h (hR h r0 39)) = true) ∧ ((hK h r0 = 11) ∧ ((hK h (hR h r0 39) = 23 ∧ ixo 2 (hN h (hR h r0 39)) = true) ∧ (Q (some (.int (Int64.toInt32 ((hJ h (hR h r0 39) (Int32.toNatClampNeg 0)) + (hJ h (hR h r0 39) (Int32.toNatClampNeg 2)))))) h)))) :=
    (r_go (j := 77) (L' := [.ref r0, .int x1, .long l2, .null, .null]) (S' := [.ref r0]) (h' := h) rfl rfl rfl rfl).trans <|
    (r_guard (j := 78) (L' := [.ref r0, .int x1, .long l2, .null, .null]) (S' := [.ref (hR h r0 39)]) (h' := h) (p := hK h r0 = 11) rfl rfl rfl rfl (decide_eq_true_iff)).trans <| and_r <|
    (r_iconst (j := 79) (x := 0) rfl i32_0 rfl).trans <|
    (r_guard (j := 80) (L' := [.ref r0, .int x1, .long l2, .null, .null]) (S' := [.long (hJ h (hR h r0 39) (Int32.toNatClampNeg 0))]) (h' := h) (p := hK h (hR h r0 39) = 23 ∧ ixo 0 (hN h (hR h r0 39)) = true) rfl rfl rfl rfl (and2 decide_eq_true_iff Iff.rfl)).trans <| and_r <|
    (r_go (j := 81) (L' := [.ref r0, .int x1, .long l2, .null, .null]) (S' := [.ref r0, .long (hJ h (hR h r0 39) (Int32.toNatClampNeg 0))]) (h' := h) rfl rfl rfl rfl).trans <|
    (r_guard (j := 82) (L' := [.ref r0, .int x1, .long l2, .null, .null]) (S' := [.ref (hR h r0 39), .long (hJ h (hR h r0 39) (Int32.toNatClampNeg 0))]) (h' := h) (p := hK h r0 = 11) rfl rfl rfl rfl (decide_eq_true_iff)).trans <| and_r <|
    (r_iconst (j := 83) (x := 2) rfl i32_2 rfl).trans <|
    (r_guard (j := 84) (L' := [.ref r0, .int x1, .long l2, .null, .null]) (S' := [.long (hJ h (hR h r0 39) (Int32.toNatClampNeg 2)), .long (hJ h (hR h r0 39) (Int32.toNatClampNeg 0))]) (h' := h) (p := hK h (hR h r0 39) = 23 ∧ ixo 2 (hN h (hR h r0 39)) = true) rfl rfl rfl rfl (and2 decide_eq_true_iff Iff.rfl)).trans <| and_r <|
    (r_go (j := 85) (L' := [.ref r0, .int x1, .long l2, .null, .null]) (S' := [.long ((hJ h (hR h r0 39) (Int32.toNatClampNeg 0)) + (hJ h (hR h r0 39) (Int32.toNatClampNeg 2)))]) (h' := h) rfl rfl rfl rfl).trans <|
    (r_go (j := 86) (L' := [.ref r0, .int x1, .long l2, .null, .null]) (S' := [.int (Int64.toInt32 ((hJ h (hR h r0 39) (Int32.toNatClampNeg 0)) + (hJ h (hR h r0 39) (Int32.toNatClampNeg 2))))]) (h' := h) rfl rfl rfl rfl).trans <|
    r_ret rfl rfl rfl
theorem b_M_count_87 {d : Nat} (x1 : Int32) (l2 : Int64) (r0 : Nat) (h : AH) (Q : Option Value → AH → Prop) : Wp d P_M_count 87 [.ref r0, .int x1, .long l2, .null, .null] [] h Q ↔ (hK h r0 = 11) ∧ (Q (some (.int (hI h r0 2))) h) :=
    (r_go (j := 88) (L' := [.ref r0, .int x1, .long l2, .null, .null]) (S' := [.ref r0]) (h' := h) rfl rfl rfl rfl).trans <|
    (r_guard (j := 89) (L' := [.ref r0, .int x1, .long l2, .null, .null]) (S' := [.int (hI h r0 2)]) (h' := h) (p := hK h r0 = 11) rfl rfl rfl rfl (decide_eq_true_iff)).trans <| and_r <|
    r_ret rfl rfl rfl
theorem b_M_count_90 {d : Nat} (x1 : Int32) (l2 : Int64) (r0 : Nat) (h : AH) (Q : Option Value → AH → Prop) : Wp d P_M_count 90 [.ref r0, .int x1, .long l2, .null, .null] [] h Q ↔ Wp d P_M_count 92 [.ref r0, .int x1, .long l2, .null, .int 0] [] h Q :=
    (r_iconst (j := 91) (x := 0) rfl i32_0 rfl).trans <|
    r_go (j := 92) (L' := [.ref r0, .int x1, .long l2, .null, .int 0]) (S' := []) (h' := h) rfl rfl rfl rfl
theorem b_M_count_92 {d : Nat} (x1 x4 : Int32) (l2 : Int64) (r0 : Nat) (h : AH) (Q : Option Value → AH → Prop) : Wp d P_M_count 92 [.ref r0, .int x1, .long l2, .null, .int x4] [] h Q ↔ (3 ≤ x4 → Wp d P_M_count 108 [.ref r0, .int x1, .long l2, .null, .int x4] [] h Q) ∧ (¬ (3 ≤ x4) → Wp d P_M_count 95 [.ref r0, .int x1, .long l2, .null, .int x4] [] h Q) :=
    (r_go (j := 93) (L' := [.ref r0, .int x1, .long l2, .null, .int x4]) (S' := [.int x4]) (h' := h) rfl rfl rfl rfl).trans <|
    (r_iconst (j := 94) (x := 3) rfl i32_3 rfl).trans <|
    r_icmp (j := 95) rfl (cd_ge _ _) rfl
theorem b_M_count_95 {d : Nat} (x1 x4 : Int32) (l2 : Int64) (r0 : Nat) (h : AH) (Q : Option Value → AH → Prop) : Wp d P_M_count 95 [.ref r0, .int x1, .long l2, .null, .int x4] [] h Q ↔ (hK h r0 = 11) ∧ ((hK h (hR h r0 24) ∈ [20, 44] ∧ ixo x4 (hN h (hR h r0 24)) = true) ∧ (((hI h (hR h r0 24) (Int32.toNatClampNeg x4)) < 0 → Wp d P_M_count 103 [.ref r0, .int x1, .long l2, .null, .int x4] [.long l2] h Q) ∧ (¬ ((hI h (hR h r0 24) (Int32.toNatClampNeg x4)) < 0) → Wp d P_M_count 101 [.ref r0, .int x1, .long l2, .null, .int x4] [.long l2] h Q))) :=
    (r_go (j := 96) (L' := [.ref r0, .int x1, .long l2, .null, .int x4]) (S' := [.long l2]) (h' := h) rfl rfl rfl rfl).trans <|
    (r_go (j := 97) (L' := [.ref r0, .int x1, .long l2, .null, .int x4]) (S' := [.ref r0, .long l2]) (h' := h) rfl rfl rfl rfl).trans <|
    (r_guard (j := 98) (L' := [.ref r0, .int x1, .long l2, .null, .int x4]) (S' := [.ref (hR h r0 24), .long l2]) (h' := h) (p := hK h r0 = 11) rfl rfl rfl rfl (decide_eq_true_iff)).trans <| and_r <|
    (r_go (j := 99) (L' := [.ref r0, .int x1, .long l2, .null, .int x4]) (S' := [.int x4, .ref (hR h r0 24), .long l2]) (h' := h) rfl rfl rfl rfl).trans <|
    (r_guard (j := 100) (L' := [.ref r0, .int x1, .long l2, .null, .int x4]) (S' := [.int (hI h (hR h r0 24) (Int32.toNatClampNeg x4)), .long l2]) (h' := h) (p := hK h (hR h r0 24) ∈ [20, 44] ∧ ixo x4 (hN h (hR h r0 24)) = true) rfl rfl rfl rfl (and2 decide_eq_true_iff Iff.rfl)).trans <| and_r <|
    r_if (j := 101) rfl (cd_lt _ _) rfl
theorem b_M_count_101 {d : Nat} (x1 x4 : Int32) (l2 k0 : Int64) (r0 : Nat) (h : AH) (Q : Option Value → AH → Prop) : Wp d P_M_count 101 [.ref r0, .int x1, .long l2, .null, .int x4] [.long k0] h Q ↔ Wp d P_M_count 104 [.ref r0, .int x1, .long l2, .null, .int x4] [.long 1, .long k0] h Q :=
    (r_go (j := 102) (L' := [.ref r0, .int x1, .long l2, .null, .int x4]) (S' := [.long 1, .long k0]) (h' := h) rfl rfl rfl rfl).trans <|
    r_go (j := 104) (L' := [.ref r0, .int x1, .long l2, .null, .int x4]) (S' := [.long 1, .long k0]) (h' := h) rfl rfl rfl rfl
theorem b_M_count_103 {d : Nat} (x1 x4 : Int32) (l2 k0 : Int64) (r0 : Nat) (h : AH) (Q : Option Value → AH → Prop) : Wp d P_M_count 103 [.ref r0, .int x1, .long l2, .null, .int x4] [.long k0] h Q ↔ Wp d P_M_count 104 [.ref r0, .int x1, .long l2, .null, .int x4] [.long 0, .long k0] h Q :=
    r_go (j := 104) (L' := [.ref r0, .int x1, .long l2, .null, .int x4]) (S' := [.long 0, .long k0]) (h' := h) rfl rfl rfl rfl
theorem b_M_count_104 {d : Nat} (x1 x4 : Int32) (l2 k0 k1 : Int64) (r0 : Nat) (h : AH) (Q : Option Value → AH → Prop) : Wp d P_M_count 104 [.ref r0, .int x1, .long l2, .null, .int x4] [.long k0, .long k1] h Q ↔ Wp d P_M_count 92 [.ref r0, .int x1, .long (k1 + k0), .null, .int (x4 + 1)] [] h Q :=
    (r_go (j := 105) (L' := [.ref r0, .int x1, .long l2, .null, .int x4]) (S' := [.long (k1 + k0)]) (h' := h) rfl rfl rfl rfl).trans <|
    (r_go (j := 106) (L' := [.ref r0, .int x1, .long (k1 + k0), .null, .int x4]) (S' := []) (h' := h) rfl rfl rfl rfl).trans <|
    (r_iinc (j := 107) (x := 1) (L' := [.ref r0, .int x1, .long (k1 + k0), .null, .int (x4 + 1)]) rfl rfl i32_1 rfl rfl).trans <|
    r_go (j := 92) (L' := [.ref r0, .int x1, .long (k1 + k0), .null, .int (x4 + 1)]) (S' := []) (h' := h) rfl rfl rfl rfl
theorem b_M_count_108 {d : Nat} (x1 x4 : Int32) (l2 : Int64) (r0 : Nat) (h : AH) (Q : Option Value → AH → Prop) : Wp d P_M_count 108 [.ref r0, .int x1, .long l2, .null, .int x4] [] h Q ↔ Q (some (.int (Int64.toInt32 l2))) h :=
    (r_go (j := 109) (L' := [.ref r0, .int x1, .long l2, .null, .int x4]) (S' := [.long l2]) (h' := h) rfl rfl rfl rfl).trans <|
    (r_go (j := 110) (L' := [.ref r0, .int x1, .long l2, .null, .int x4]) (S' := [.int (Int64.toInt32 l2)]) (h' := h) rfl rfl rfl rfl).trans <|
    r_ret rfl rfl rfl
theorem b_M_count_111 {d : Nat} (x1 : Int32) (l2 : Int64) (r0 : Nat) (h : AH) (Q : Option Value → AH → Prop) : Wp d P_M_count 111 [.ref r0, .int x1, .long l2, .null, .null] [] h Q ↔ Q (some (.int (-1))) h :=
    (r_iconst (j := 112) (x := (-1)) rfl i32_m1 rfl).trans <|
    r_ret rfl rfl rfl
theorem e_M_count {d : Nat} (x1 : Int32) (r0 : Nat) (h : AH) (Q : Option Value → AH → Prop) : Cl (d + 1) q_M_count [.ref r0, .int x1] h Q ↔ hK h r0 = 11 ∧ Wp d P_M_count 0 [.ref r0, .int x1, .null, .null, .null] [] h (fun r h' => rtk (some .int) r = true ∧ Q r h') :=
    (Cl_method (t := m_M_count) rfl).trans (and_congr_left fun _ => decide_eq_true_iff)
/-! java/lang/String.length()I -/
theorem b_St_length_0 {d : Nat} (r0 : Nat) (h : AH) (Q : Option Value → AH → Prop) : Wp d P_St_length 0 [.ref r0] [] h Q ↔ (hK h r0 = 42) ∧ ((20 ≤ hK h (hR h r0 0) ∧ hK h (hR h r0 0) ≠ 40 ∧ hK h (hR h r0 0) ≠ 42 ∧ hK h (hR h r0 0) ≤ 45 ∧ hK h (hR h r0 0) ≠ 43) ∧ (Cl d q_St_coder [.ref r0] h (fun r h' => Wp d P_St_length 5 [.ref r0] (r.toList ++ [.int (Int32.ofNat (hN h (hR h r0 0)))]) h' Q))) :=
    (r_go (j := 1) (L' := [.ref r0]) (S' := [.ref r0]) (h' := h) rfl rfl rfl rfl).trans <|
    (r_guard (j := 2) (L' := [.ref r0]) (S' := [.ref (hR h r0 0)]) (h' := h) (p := hK h r0 = 42) rfl rfl rfl rfl (decide_eq_true_iff)).trans <| and_r <|
    (r_guard (j := 3) (L' := [.ref r0]) (S' := [.int (Int32.ofNat (hN h (hR h r0 0)))]) (h' := h) (p := 20 ≤ hK h (hR h r0 0) ∧ hK h (hR h r0 0) ≠ 40 ∧ hK h (hR h r0 0) ≠ 42 ∧ hK h (hR h r0 0) ≤ 45 ∧ hK h (hR h r0 0) ≠ 43) rfl rfl rfl rfl (decide_eq_true_iff)).trans <| and_r <|
    (r_go (j := 4) (L' := [.ref r0]) (S' := [.ref r0, .int (Int32.ofNat (hN h (hR h r0 0)))]) (h' := h) rfl rfl rfl rfl).trans <|
    r_call (j := 5) (a := [.ref r0]) (S' := [.int (Int32.ofNat (hN h (hR h r0 0)))]) rfl rfl rfl rfl rfl rfl rfl
theorem b_St_length_5 {d : Nat} (s0 s1 : Int32) (r0 : Nat) (h : AH) (Q : Option Value → AH → Prop) : Wp d P_St_length 5 [.ref r0] [.int s0, .int s1] h Q ↔ Q (some (.int (s1 >>> (s0 &&& 31)))) h :=
    (r_go (j := 6) (L' := [.ref r0]) (S' := [.int (s1 >>> (s0 &&& 31))]) (h' := h) rfl rfl rfl rfl).trans <|
    r_ret rfl rfl rfl
theorem e_St_length {d : Nat} (r0 : Nat) (h : AH) (Q : Option Value → AH → Prop) : Cl (d + 1) q_St_length [.ref r0] h Q ↔ hK h r0 = 42 ∧ Wp d P_St_length 0 [.ref r0] [] h (fun r h' => rtk (some .int) r = true ∧ Q r h') :=
    (Cl_method (t := m_St_length) rfl).trans (and_congr_left fun _ => decide_eq_true_iff)
/-! java/lang/String.charAt(I)C -/
theorem b_St_charAt_0 {d : Nat} (x1 : Int32) (r0 : Nat) (h : AH) (Q : Option Value → AH → Prop) : Wp d P_St_charAt 0 [.ref r0, .int x1] [] h Q ↔ Cl d q_St_isLatin1 [.ref r0] h (fun r h' => Wp d P_St_charAt 2 [.ref r0, .int x1] (r.toList ++ []) h' Q) :=
    (r_go (j := 1) (L' := [.ref r0, .int x1]) (S' := [.ref r0]) (h' := h) rfl rfl rfl rfl).trans <|
    r_call (j := 2) (a := [.ref r0]) (S' := []) rfl rfl rfl rfl rfl rfl rfl
theorem b_St_charAt_2 {d : Nat} (x1 s0 : Int32) (r0 : Nat) (h : AH) (Q : Option Value → AH → Prop) : Wp d P_St_charAt 2 [.ref r0, .int x1] [.int s0] h Q ↔ (s0 = 0 → Wp d P_St_charAt 8 [.ref r0, .int x1] [] h Q) ∧ (¬ (s0 = 0) → Wp d P_St_charAt 3 [.ref r0, .int x1] [] h Q) :=
    r_if (j := 3) rfl (cd_eq _ _) rfl
theorem b_St_charAt_3 {d : Nat} (x1 : Int32) (r0 : Nat) (h : AH) (Q : Option Value → AH → Prop) : Wp d P_St_charAt 3 [.ref r0, .int x1] [] h Q ↔ (hK h r0 = 42) ∧ (Cl d q_L1_charAt [.ref (hR h r0 0), .int x1] h (fun r h' => Wp d P_St_charAt 7 [.ref r0, .int x1] (r.toList ++ []) h' Q)) :=
    (r_go (j := 4) (L' := [.ref r0, .int x1]) (S' := [.ref r0]) (h' := h) rfl rfl rfl rfl).trans <|
    (r_guard (j := 5) (L' := [.ref r0, .int x1]) (S' := [.ref (hR h r0 0)]) (h' := h) (p := hK h r0 = 42) rfl rfl rfl rfl (decide_eq_true_iff)).trans <| and_r <|
    (r_go (j := 6) (L' := [.ref r0, .int x1]) (S' := [.int x1, .ref (hR h r0 0)]) (h' := h) rfl rfl rfl rfl).trans <|
    r_call (j := 7) (a := [.ref (hR h r0 0), .int x1]) (S' := []) rfl rfl rfl rfl rfl rfl rfl
theorem b_St_charAt_7 {d : Nat} (x1 s0 : Int32) (r0 : Nat) (h : AH) (Q : Option Value → AH → Prop) : Wp d P_St_charAt 7 [.ref r0, .int x1] [.int s0] h Q ↔ Q (some (.int s0)) h :=
    r_ret rfl rfl rfl
theorem b_St_charAt_8 {d : Nat} (x1 : Int32) (r0 : Nat) (h : AH) (Q : Option Value → AH → Prop) : Wp d P_St_charAt 8 [.ref r0, .int x1] [] h Q ↔ (hK h r0 = 42) ∧ (Wp d P_St_charAt 11 [.ref r0, .int x1] [.int x1, .ref (hR h r0 0)] h Q) :=
    (r_go (j := 9) (L' := [.ref r0, .int x1]) (S' := [.ref r0]) (h' := h) rfl rfl rfl rfl).trans <|
    (r_guard (j := 10) (L' := [.ref r0, .int x1]) (S' := [.ref (hR h r0 0)]) (h' := h) (p := hK h r0 = 42) rfl rfl rfl rfl (decide_eq_true_iff)).trans <| and_r <|
    r_go (j := 11) (L' := [.ref r0, .int x1]) (S' := [.int x1, .ref (hR h r0 0)]) (h' := h) rfl rfl rfl rfl
theorem e_St_charAt {d : Nat} (x1 : Int32) (r0 : Nat) (h : AH) (Q : Option Value → AH → Prop) : Cl (d + 1) q_St_charAt [.ref r0, .int x1] h Q ↔ hK h r0 = 42 ∧ Wp d P_St_charAt 0 [.ref r0, .int x1] [] h (fun r h' => rtk (some .char) r = true ∧ Q r h') :=
    (Cl_method (t := m_St_charAt) rfl).trans (and_congr_left fun _ => decide_eq_true_iff)
/-! java/lang/String.coder()B -/
theorem b_St_coder_0 {d : Nat} (r0 : Nat) (h : AH) (Q : Option Value → AH → Prop) : Wp d P_St_coder 0 [.ref r0] [] h Q ↔ ((1 : Int32) = 0 → Wp d P_St_coder 5 [.ref r0] [] h Q) ∧ (¬ ((1 : Int32) = 0) → Wp d P_St_coder 2 [.ref r0] [] h Q) :=
    (r_go (j := 1) (L' := [.ref r0]) (S' := [.int 1]) (h' := h) rfl rfl rfl rfl).trans <|
    r_if (j := 2) rfl (cd_eq _ _) rfl
theorem b_St_coder_2 {d : Nat} (r0 : Nat) (h : AH) (Q : Option Value → AH → Prop) : Wp d P_St_coder 2 [.ref r0] [] h Q ↔ (hK h r0 = 42) ∧ (Wp d P_St_coder 6 [.ref r0] [.int (hI h r0 1)] h Q) :=
    (r_go (j := 3) (L' := [.ref r0]) (S' := [.ref r0]) (h' := h) rfl rfl rfl rfl).trans <|
    (r_guard (j := 4) (L' := [.ref r0]) (S' := [.int (hI h r0 1)]) (h' := h) (p := hK h r0 = 42) rfl rfl rfl rfl (decide_eq_true_iff)).trans <| and_r <|
    r_go (j := 6) (L' := [.ref r0]) (S' := [.int (hI h r0 1)]) (h' := h) rfl rfl rfl rfl
theorem b_St_coder_5 {d : Nat} (r0 : Nat) (h : AH) (Q : Option Value → AH → Prop) : Wp d P_St_coder 5 [.ref r0] [] h Q ↔ Wp d P_St_coder 6 [.ref r0] [.int 1] h Q :=
    r_iconst (j := 6) (x := 1) rfl i32_1 rfl
theorem b_St_coder_6 {d : Nat} (s0 : Int32) (r0 : Nat) (h : AH) (Q : Option Value → AH → Prop) : Wp d P_St_coder 6 [.ref r0] [.int s0] h Q ↔ Q (some (.int s0)) h :=
    r_ret rfl rfl rfl
theorem e_St_coder {d : Nat} (r0 : Nat) (h : AH) (Q : Option Value → AH → Prop) : Cl (d + 1) q_St_coder [.ref r0] h Q ↔ hK h r0 = 42 ∧ Wp d P_St_coder 0 [.ref r0] [] h (fun r h' => rtk (some .byte) r = true ∧ Q r h') :=
    (Cl_method (t := m_St_coder) rfl).trans (and_congr_left fun _ => decide_eq_true_iff)
/-! java/lang/String.isLatin1()Z -/
theorem b_St_isLatin1_0 {d : Nat} (r0 : Nat) (h : AH) (Q : Option Value → AH → Prop) : Wp d P_St_isLatin1 0 [.ref r0] [] h Q ↔ ((1 : Int32) = 0 → Wp d P_St_isLatin1 7 [.ref r0] [] h Q) ∧ (¬ ((1 : Int32) = 0) → Wp d P_St_isLatin1 2 [.ref r0] [] h Q) :=
    (r_go (j := 1) (L' := [.ref r0]) (S' := [.int 1]) (h' := h) rfl rfl rfl rfl).trans <|
    r_if (j := 2) rfl (cd_eq _ _) rfl
theorem b_St_isLatin1_2 {d : Nat} (r0 : Nat) (h : AH) (Q : Option Value → AH → Prop) : Wp d P_St_isLatin1 2 [.ref r0] [] h Q ↔ (hK h r0 = 42) ∧ ((¬ (hI h r0 1) = 0 → Wp d P_St_isLatin1 7 [.ref r0] [] h Q) ∧ (¬ (¬ (hI h r0 1) = 0) → Wp d P_St_isLatin1 5 [.ref r0] [] h Q)) :=
    (r_go (j := 3) (L' := [.ref r0]) (S' := [.ref r0]) (h' := h) rfl rfl rfl rfl).trans <|
    (r_guard (j := 4) (L' := [.ref r0]) (S' := [.int (hI h r0 1)]) (h' := h) (p := hK h r0 = 42) rfl rfl rfl rfl (decide_eq_true_iff)).trans <| and_r <|
    r_if (j := 5) rfl (cd_ne _ _) rfl
theorem b_St_isLatin1_5 {d : Nat} (r0 : Nat) (h : AH) (Q : Option Value → AH → Prop) : Wp d P_St_isLatin1 5 [.ref r0] [] h Q ↔ Wp d P_St_isLatin1 8 [.ref r0] [.int 1] h Q :=
    (r_iconst (j := 6) (x := 1) rfl i32_1 rfl).trans <|
    r_go (j := 8) (L' := [.ref r0]) (S' := [.int 1]) (h' := h) rfl rfl rfl rfl
theorem b_St_isLatin1_7 {d : Nat} (r0 : Nat) (h : AH) (Q : Option Value → AH → Prop) : Wp d P_St_isLatin1 7 [.ref r0] [] h Q ↔ Wp d P_St_isLatin1 8 [.ref r0] [.int 0] h Q :=
    r_iconst (j := 8) (x := 0) rfl i32_0 rfl
theorem b_St_isLatin1_8 {d : Nat} (s0 : Int32) (r0 : Nat) (h : AH) (Q : Option Value → AH → Prop) : Wp d P_St_isLatin1 8 [.ref r0] [.int s0] h Q ↔ Q (some (.int s0)) h :=
    r_ret rfl rfl rfl
theorem e_St_isLatin1 {d : Nat} (r0 : Nat) (h : AH) (Q : Option Value → AH → Prop) : Cl (d + 1) q_St_isLatin1 [.ref r0] h Q ↔ hK h r0 = 42 ∧ Wp d P_St_isLatin1 0 [.ref r0] [] h (fun r h' => rtk (some .boolean) r = true ∧ Q r h') :=
    (Cl_method (t := m_St_isLatin1) rfl).trans (and_congr_left fun _ => decide_eq_true_iff)
/-! java/lang/String.checkIndex(II)V -/
theorem b_St_checkIndex_0 {d : Nat} (x0 x1 : Int32) (h : AH) (Q : Option Value → AH → Prop) : Wp d P_St_checkIndex 0 [.int x0, .int x1] [] h Q ↔ Cl d q_Pc_checkIndex [.int x0, .int x1, .ref 75] h (fun r h' => Wp d P_St_checkIndex 4 [.int x0, .int x1] (r.toList ++ []) h' Q) :=
    (r_go (j := 1) (L' := [.int x0, .int x1]) (S' := [.int x0]) (h' := h) rfl rfl rfl rfl).trans <|
    (r_go (j := 2) (L' := [.int x0, .int x1]) (S' := [.int x1, .int x0]) (h' := h) rfl rfl rfl rfl).trans <|
    (r_go (j := 3) (L' := [.int x0, .int x1]) (S' := [.ref 75, .int x1, .int x0]) (h' := h) rfl rfl rfl rfl).trans <|
    r_call (j := 4) (a := [.int x0, .int x1, .ref 75]) (S' := []) rfl rfl rfl rfl rfl rfl rfl
theorem b_St_checkIndex_4 {d : Nat} (x0 x1 s0 : Int32) (h : AH) (Q : Option Value → AH → Prop) : Wp d P_St_checkIndex 4 [.int x0, .int x1] [.int s0] h Q ↔ Q (none) h :=
    (r_go (j := 5) (L' := [.int x0, .int x1]) (S' := []) (h' := h) rfl rfl rfl rfl).trans <|
    r_ret rfl rfl rfl
theorem e_St_checkIndex {d : Nat} (x0 x1 : Int32) (h : AH) (Q : Option Value → AH → Prop) : Cl (d + 1) q_St_checkIndex [.int x0, .int x1] h Q ↔ Wp d P_St_checkIndex 0 [.int x0, .int x1] [] h (fun r h' => rtk (none) r = true ∧ Q r h') :=
    (Cl_method (t := m_St_checkIndex) rfl).trans (and_iff_right rfl)
/-! java/lang/StringLatin1.charAt([BI)C -/
theorem b_L1_charAt_0 {d : Nat} (x1 : Int32) (r0 : Nat) (h : AH) (Q : Option Value → AH → Prop) : Wp d P_L1_charAt 0 [.ref r0, .int x1] [] h Q ↔ (20 ≤ hK h r0 ∧ hK h r0 ≠ 40 ∧ hK h r0 ≠ 42 ∧ hK h r0 ≤ 45 ∧ hK h r0 ≠ 43) ∧ (Cl d q_St_checkIndex [.int x1, .int (Int32.ofNat (hN h r0))] h (fun r h' => Wp d P_L1_charAt 4 [.ref r0, .int x1] (r.toList ++ []) h' Q)) :=
    (r_go (j := 1) (L' := [.ref r0, .int x1]) (S' := [.int x1]) (h' := h) rfl rfl rfl rfl).trans <|
    (r_go (j := 2) (L' := [.ref r0, .int x1]) (S' := [.ref r0, .int x1]) (h' := h) rfl rfl rfl rfl).trans <|
    (r_guard (j := 3) (L' := [.ref r0, .int x1]) (S' := [.int (Int32.ofNat (hN h r0)), .int x1]) (h' := h) (p := 20 ≤ hK h r0 ∧ hK h r0 ≠ 40 ∧ hK h r0 ≠ 42 ∧ hK h r0 ≤ 45 ∧ hK h r0 ≠ 43) rfl rfl rfl rfl (decide_eq_true_iff)).trans <| and_r <|
    r_call (j := 4) (a := [.int x1, .int (Int32.ofNat (hN h r0))]) (S' := []) rfl rfl rfl rfl rfl rfl rfl
theorem b_L1_charAt_4 {d : Nat} (x1 : Int32) (r0 : Nat) (h : AH) (Q : Option Value → AH → Prop) : Wp d P_L1_charAt 4 [.ref r0, .int x1] [] h Q ↔ (hK h r0 ∈ [22, 45] ∧ ixo x1 (hN h r0) = true) ∧ (Q (some (.int ((Int32.toUInt32 ((hI h r0 (Int32.toNatClampNeg x1)) &&& 255) % 65536).toInt32))) h) :=
    (r_go (j := 5) (L' := [.ref r0, .int x1]) (S' := [.ref r0]) (h' := h) rfl rfl rfl rfl).trans <|
    (r_go (j := 6) (L' := [.ref r0, .int x1]) (S' := [.int x1, .ref r0]) (h' := h) rfl rfl rfl rfl).trans <|
    (r_guard (j := 7) (L' := [.ref r0, .int x1]) (S' := [.int (hI h r0 (Int32.toNatClampNeg x1))]) (h' := h) (p := hK h r0 ∈ [22, 45] ∧ ixo x1 (hN h r0) = true) rfl rfl rfl rfl (and2 decide_eq_true_iff Iff.rfl)).trans <| and_r <|
    (r_sipush (j := 8) (x := 255) rfl i32_255 rfl).trans <|
    (r_go (j := 9) (L' := [.ref r0, .int x1]) (S' := [.int ((hI h r0 (Int32.toNatClampNeg x1)) &&& 255)]) (h' := h) rfl rfl rfl rfl).trans <|
    (r_go (j := 10) (L' := [.ref r0, .int x1]) (S' := [.int ((Int32.toUInt32 ((hI h r0 (Int32.toNatClampNeg x1)) &&& 255) % 65536).toInt32)]) (h' := h) rfl rfl rfl rfl).trans <|
    r_ret rfl rfl rfl
theorem e_L1_charAt {d : Nat} (x1 : Int32) (r0 : Nat) (h : AH) (Q : Option Value → AH → Prop) : Cl (d + 1) q_L1_charAt [.ref r0, .int x1] h Q ↔ Wp d P_L1_charAt 0 [.ref r0, .int x1] [] h (fun r h' => rtk (some .char) r = true ∧ Q r h') :=
    (Cl_method (t := m_L1_charAt) rfl).trans (and_iff_right rfl)
/-! java/util/Arrays.fill([II)V -/
theorem b_Ar_fill_0 {d : Nat} (x1 : Int32) (r0 : Nat) (h : AH) (Q : Option Value → AH → Prop) : Wp d P_Ar_fill 0 [.ref r0, .int x1, .null, .null] [] h Q ↔ (20 ≤ hK h r0 ∧ hK h r0 ≠ 40 ∧ hK h r0 ≠ 42 ∧ hK h r0 ≤ 45 ∧ hK h r0 ≠ 43) ∧ (Wp d P_Ar_fill 5 [.ref r0, .int x1, .int 0, .int (Int32.ofNat (hN h r0))] [] h Q) :=
    (r_iconst (j := 1) (x := 0) rfl i32_0 rfl).trans <|
    (r_go (j := 2) (L' := [.ref r0, .int x1, .int 0, .null]) (S' := []) (h' := h) rfl rfl rfl rfl).trans <|
    (r_go (j := 3) (L' := [.ref r0, .int x1, .int 0, .null]) (S' := [.ref r0]) (h' := h) rfl rfl rfl rfl).trans <|
    (r_guard (j := 4) (L' := [.ref r0, .int x1, .int 0, .null]) (S' := [.int (Int32.ofNat (hN h r0))]) (h' := h) (p := 20 ≤ hK h r0 ∧ hK h r0 ≠ 40 ∧ hK h r0 ≠ 42 ∧ hK h r0 ≤ 45 ∧ hK h r0 ≠ 43) rfl rfl rfl rfl (decide_eq_true_iff)).trans <| and_r <|
    r_go (j := 5) (L' := [.ref r0, .int x1, .int 0, .int (Int32.ofNat (hN h r0))]) (S' := []) (h' := h) rfl rfl rfl rfl
theorem b_Ar_fill_5 {d : Nat} (x1 x2 x3 : Int32) (r0 : Nat) (h : AH) (Q : Option Value → AH → Prop) : Wp d P_Ar_fill 5 [.ref r0, .int x1, .int x2, .int x3] [] h Q ↔ (x3 ≤ x2 → Wp d P_Ar_fill 14 [.ref r0, .int x1, .int x2, .int x3] [] h Q) ∧ (¬ (x3 ≤ x2) → Wp d P_Ar_fill 8 [.ref r0, .int x1, .int x2, .int x3] [] h Q) :=
    (r_go (j := 6) (L' := [.ref r0, .int x1, .int x2, .int x3]) (S' := [.int x2]) (h' := h) rfl rfl rfl rfl).trans <|
    (r_go (j := 7) (L' := [.ref r0, .int x1, .int x2, .int x3]) (S' := [.int x3, .int x2]) (h' := h) rfl rfl rfl rfl).trans <|
    r_icmp (j := 8) rfl (cd_ge _ _) rfl
theorem b_Ar_fill_8 {d : Nat} (x1 x2 x3 : Int32) (r0 : Nat) (h : AH) (Q : Option Value → AH → Prop) : Wp d P_Ar_fill 8 [.ref r0, .int x1, .int x2, .int x3] [] h Q ↔ (hK h r0 = 20 ∧ ixo x2 (hN h r0) = true) ∧ (Wp d P_Ar_fill 5 [.ref r0, .int x1, .int (x2 + 1), .int x3] [] (sI h r0 (Int32.toNatClampNeg x2) x1) Q) :=
    (r_go (j := 9) (L' := [.ref r0, .int x1, .int x2, .int x3]) (S' := [.ref r0]) (h' := h) rfl rfl rfl rfl).trans <|
    (r_go (j := 10) (L' := [.ref r0, .int x1, .int x2, .int x3]) (S' := [.int x2, .ref r0]) (h' := h) rfl rfl rfl rfl).trans <|
    (r_go (j := 11) (L' := [.ref r0, .int x1, .int x2, .int x3]) (S' := [.int x1, .int x2, .ref r0]) (h' := h) rfl rfl rfl rfl).trans <|
    (r_guard (j := 12) (L' := [.ref r0, .int x1, .int x2, .int x3]) (S' := []) (h' := (sI h r0 (Int32.toNatClampNeg x2) x1)) (p := hK h r0 = 20 ∧ ixo x2 (hN h r0) = true) rfl rfl rfl rfl (and2 decide_eq_true_iff Iff.rfl)).trans <| and_r <|
    (r_iinc (j := 13) (x := 1) (L' := [.ref r0, .int x1, .int (x2 + 1), .int x3]) rfl rfl i32_1 rfl rfl).trans <|
    r_go (j := 5) (L' := [.ref r0, .int x1, .int (x2 + 1), .int x3]) (S' := []) (h' := (sI h r0 (Int32.toNatClampNeg x2) x1)) rfl rfl rfl rfl
theorem b_Ar_fill_14 {d : Nat} (x1 x2 x3 : Int32) (r0 : Nat) (h : AH) (Q : Option Value → AH → Prop) : Wp d P_Ar_fill 14 [.ref r0, .int x1, .int x2, .int x3] [] h Q ↔ Q (none) h :=
    r_ret rfl rfl rfl
theorem e_Ar_fill {d : Nat} (x1 : Int32) (r0 : Nat) (h : AH) (Q : Option Value → AH → Prop) : Cl (d + 1) q_Ar_fill [.ref r0, .int x1] h Q ↔ Wp d P_Ar_fill 0 [.ref r0, .int x1, .null, .null] [] h (fun r h' => rtk (none) r = true ∧ Q r h') :=
    (Cl_method (t := m_Ar_fill) rfl).trans (and_iff_right rfl)
