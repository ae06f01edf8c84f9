/-! THE LAW AND THE THREE CALLS THAT MAY THROW, A LEMMA A STRETCH -/
theorem b_xj_0 {d : Nat} (x1 x2 x3 : Int32) (r0 : Nat) (h : AH) (Q : Option Value → AH → Prop) : Wp d P_xj 0 [.ref r0, .int x1, .int x2, .int x3, .null] [] h Q ↔ Cl d q_X_keptSitting [.ref r0, .int x1] h (fun r h' => Wp d P_xj 3 [.ref r0, .int x1, .int x2, .int x3, .null] (r.toList ++ []) h' Q) :=
    (r_go (j := 1) (L' := [.ref r0, .int x1, .int x2, .int x3, .null]) (S' := [.ref r0]) (h' := h) rfl rfl rfl rfl).trans <|
    (r_go (j := 2) (L' := [.ref r0, .int x1, .int x2, .int x3, .null]) (S' := [.int x1, .ref r0]) (h' := h) rfl rfl rfl rfl).trans <|
    r_call (j := 3) (a := [.ref r0, .int x1]) (S' := []) rfl rfl rfl rfl rfl rfl rfl
theorem b_xj_3 {d : Nat} (x1 x2 x3 : Int32) (r0 t0 : Nat) (h : AH) (Q : Option Value → AH → Prop) : Wp d P_xj 3 [.ref r0, .int x1, .int x2, .int x3, .null] [.ref t0] h Q ↔ (t0 = 0 ∨ 100 ≤ t0) ∧ (t0 = 0 → Wp d P_xj 20 [.ref r0, .int x1, .int x2, .int x3, .ref t0] [] h Q) ∧ (¬ (t0 = 0) → Wp d P_xj 6 [.ref r0, .int x1, .int x2, .int x3, .ref t0] [] h Q) :=
    (r_go (j := 4) (L' := [.ref r0, .int x1, .int x2, .int x3, .ref t0]) (S' := []) (h' := h) rfl rfl rfl rfl).trans <|
    (r_go (j := 5) (L' := [.ref r0, .int x1, .int x2, .int x3, .ref t0]) (S' := [.ref t0]) (h' := h) rfl rfl rfl rfl).trans <|
    r_null (j := 6) rfl rfl
theorem b_xj_6 {d : Nat} (x1 x2 x3 : Int32) (r0 r4 : Nat) (h : AH) (Q : Option Value → AH → Prop) : Wp d P_xj 6 [.ref r0, .int x1, .int x2, .int x3, .ref r4] [] h Q ↔ (hK h r4 = 7) ∧ ((hK h (hR h r4 0) = 4) ∧ (Cl d q_X_within [.int x2, .int 0, .int ((hI h (hR h r4 0) 3) - 1)] h (fun r h' => Wp d P_xj 14 [.ref r0, .int x1, .int x2, .int x3, .ref r4] (r.toList ++ []) h' Q))) :=
    (r_go (j := 7) (L' := [.ref r0, .int x1, .int x2, .int x3, .ref r4]) (S' := [.int x2]) (h' := h) rfl rfl rfl rfl).trans <|
    (r_iconst (j := 8) (x := 0) rfl i32_0 rfl).trans <|
    (r_go (j := 9) (L' := [.ref r0, .int x1, .int x2, .int x3, .ref r4]) (S' := [.ref r4, .int 0, .int x2]) (h' := h) rfl rfl rfl rfl).trans <|
    (r_guard (j := 10) (L' := [.ref r0, .int x1, .int x2, .int x3, .ref r4]) (S' := [.ref (hR h r4 0), .int 0, .int x2]) (h' := h) (p := hK h r4 = 7) rfl rfl rfl rfl (decide_eq_true_iff)).trans <| and_r <|
    (r_guard (j := 11) (L' := [.ref r0, .int x1, .int x2, .int x3, .ref r4]) (S' := [.int (hI h (hR h r4 0) 3), .int 0, .int x2]) (h' := h) (p := hK h (hR h r4 0) = 4) rfl rfl rfl rfl (decide_eq_true_iff)).trans <| and_r <|
    (r_iconst (j := 12) (x := 1) rfl i32_1 rfl).trans <|
    (r_go (j := 13) (L' := [.ref r0, .int x1, .int x2, .int x3, .ref r4]) (S' := [.int ((hI h (hR h r4 0) 3) - 1), .int 0, .int x2]) (h' := h) rfl rfl rfl rfl).trans <|
    r_call (j := 14) (a := [.int x2, .int 0, .int ((hI h (hR h r4 0) 3) - 1)]) (S' := []) rfl rfl rfl rfl rfl rfl rfl
theorem b_xj_14 {d : Nat} (x1 x2 x3 s0 : Int32) (r0 r4 : Nat) (h : AH) (Q : Option Value → AH → Prop) : Wp d P_xj 14 [.ref r0, .int x1, .int x2, .int x3, .ref r4] [.int s0] h Q ↔ (s0 = 0 → Wp d P_xj 20 [.ref r0, .int x1, .int x2, .int x3, .ref r4] [] h Q) ∧ (¬ (s0 = 0) → Wp d P_xj 15 [.ref r0, .int x1, .int x2, .int x3, .ref r4] [] h Q) :=
    r_if (j := 15) rfl (cd_eq _ _) rfl
theorem b_xj_15 {d : Nat} (x1 x2 x3 : Int32) (r0 r4 : Nat) (h : AH) (Q : Option Value → AH → Prop) : Wp d P_xj 15 [.ref r0, .int x1, .int x2, .int x3, .ref r4] [] h Q ↔ Cl d q_X_within [.int x3, .int 0, .int 2] h (fun r h' => Wp d P_xj 19 [.ref r0, .int x1, .int x2, .int x3, .ref r4] (r.toList ++ []) h' Q) :=
    (r_go (j := 16) (L' := [.ref r0, .int x1, .int x2, .int x3, .ref r4]) (S' := [.int x3]) (h' := h) rfl rfl rfl rfl).trans <|
    (r_iconst (j := 17) (x := 0) rfl i32_0 rfl).trans <|
    (r_iconst (j := 18) (x := 2) rfl i32_2 rfl).trans <|
    r_call (j := 19) (a := [.int x3, .int 0, .int 2]) (S' := []) rfl rfl rfl rfl rfl rfl rfl
theorem b_xj_19 {d : Nat} (x1 x2 x3 s0 : Int32) (r0 r4 : Nat) (h : AH) (Q : Option Value → AH → Prop) : Wp d P_xj 19 [.ref r0, .int x1, .int x2, .int x3, .ref r4] [.int s0] h Q ↔ (¬ s0 = 0 → Wp d P_xj 25 [.ref r0, .int x1, .int x2, .int x3, .ref r4] [] h Q) ∧ (¬ (¬ s0 = 0) → Wp d P_xj 20 [.ref r0, .int x1, .int x2, .int x3, .ref r4] [] h Q) :=
    r_if (j := 20) rfl (cd_ne _ _) rfl
theorem b_xj_20 {d : Nat} (x1 x2 x3 : Int32) (r0 r4 : Nat) (h : AH) (Q : Option Value → AH → Prop) : Wp d P_xj 20 [.ref r0, .int x1, .int x2, .int x3, .ref r4] [] h Q ↔ Q (some .null) h :=
    r_ret rfl rfl rfl
theorem b_xj_25 {d : Nat} (x1 x2 x3 : Int32) (r0 r4 : Nat) (h : AH) (Q : Option Value → AH → Prop) : Wp d P_xj 25 [.ref r0, .int x1, .int x2, .int x3, .ref r4] [] h Q ↔ Cl d q_Si_jumpAt [.ref r4, .int x2, .int x3] h (fun r h' => Wp d P_xj 29 [.ref r0, .int x1, .int x2, .int x3, .ref r4] (r.toList ++ []) h' Q) :=
    (r_go (j := 26) (L' := [.ref r0, .int x1, .int x2, .int x3, .ref r4]) (S' := [.ref r4]) (h' := h) rfl rfl rfl rfl).trans <|
    (r_go (j := 27) (L' := [.ref r0, .int x1, .int x2, .int x3, .ref r4]) (S' := [.int x2, .ref r4]) (h' := h) rfl rfl rfl rfl).trans <|
    (r_go (j := 28) (L' := [.ref r0, .int x1, .int x2, .int x3, .ref r4]) (S' := [.int x3, .int x2, .ref r4]) (h' := h) rfl rfl rfl rfl).trans <|
    r_call (j := 29) (a := [.ref r4, .int x2, .int x3]) (S' := []) rfl rfl rfl rfl rfl rfl rfl
theorem b_xj_29 {d : Nat} (x1 x2 x3 s0 : Int32) (r0 r4 : Nat) (h : AH) (Q : Option Value → AH → Prop) : Wp d P_xj 29 [.ref r0, .int x1, .int x2, .int x3, .ref r4] [.int s0] h Q ↔ Q (some (.int s0)) h :=
    r_ret rfl rfl rfl
theorem b_xw_0 {d : Nat} (x1 x2 : Int32) (r0 : Nat) (h : AH) (Q : Option Value → AH → Prop) : Wp d P_xw 0 [.ref r0, .int x1, .int x2, .null, .null, .null, .null, .null, .null, .null, .null] [] h Q ↔ Cl d q_X_within [.int x1, .int 0, .int 2] h (fun r h' => Wp d P_xw 4 [.ref r0, .int x1, .int x2, .null, .null, .null, .null, .null, .null, .null, .null] (r.toList ++ []) h' Q) :=
    (r_go (j := 1) (L' := [.ref r0, .int x1, .int x2, .null, .null, .null, .null, .null, .null, .null, .null]) (S' := [.int x1]) (h' := h) rfl rfl rfl rfl).trans <|
    (r_iconst (j := 2) (x := 0) rfl i32_0 rfl).trans <|
    (r_iconst (j := 3) (x := 2) rfl i32_2 rfl).trans <|
    r_call (j := 4) (a := [.int x1, .int 0, .int 2]) (S' := []) rfl rfl rfl rfl rfl rfl rfl
theorem b_xw_4 {d : Nat} (x1 x2 s0 : Int32) (r0 : Nat) (h : AH) (Q : Option Value → AH → Prop) : Wp d P_xw 4 [.ref r0, .int x1, .int x2, .null, .null, .null, .null, .null, .null, .null, .null] [.int s0] h Q ↔ (s0 = 0 → Wp d P_xw 10 [.ref r0, .int x1, .int x2, .null, .null, .null, .null, .null, .null, .null, .null] [] h Q) ∧ (¬ (s0 = 0) → Wp d P_xw 5 [.ref r0, .int x1, .int x2, .null, .null, .null, .null, .null, .null, .null, .null] [] h Q) :=
    r_if (j := 5) rfl (cd_eq _ _) rfl
theorem b_xw_5 {d : Nat} (x1 x2 : Int32) (r0 : Nat) (h : AH) (Q : Option Value → AH → Prop) : Wp d P_xw 5 [.ref r0, .int x1, .int x2, .null, .null, .null, .null, .null, .null, .null, .null] [] h Q ↔ Cl d q_X_within [.int x2, .int 0, .int 1] h (fun r h' => Wp d P_xw 9 [.ref r0, .int x1, .int x2, .null, .null, .null, .null, .null, .null, .null, .null] (r.toList ++ []) h' Q) :=
    (r_go (j := 6) (L' := [.ref r0, .int x1, .int x2, .null, .null, .null, .null, .null, .null, .null, .null]) (S' := [.int x2]) (h' := h) rfl rfl rfl rfl).trans <|
    (r_iconst (j := 7) (x := 0) rfl i32_0 rfl).trans <|
    (r_iconst (j := 8) (x := 1) rfl i32_1 rfl).trans <|
    r_call (j := 9) (a := [.int x2, .int 0, .int 1]) (S' := []) rfl rfl rfl rfl rfl rfl rfl
theorem b_xw_9 {d : Nat} (x1 x2 s0 : Int32) (r0 : Nat) (h : AH) (Q : Option Value → AH → Prop) : Wp d P_xw 9 [.ref r0, .int x1, .int x2, .null, .null, .null, .null, .null, .null, .null, .null] [.int s0] h Q ↔ (¬ s0 = 0 → Wp d P_xw 15 [.ref r0, .int x1, .int x2, .null, .null, .null, .null, .null, .null, .null, .null] [] h Q) ∧ (¬ (¬ s0 = 0) → Wp d P_xw 10 [.ref r0, .int x1, .int x2, .null, .null, .null, .null, .null, .null, .null, .null] [] h Q) :=
    r_if (j := 10) rfl (cd_ne _ _) rfl
theorem b_xw_10 {d : Nat} (x1 x2 : Int32) (r0 : Nat) (h : AH) (Q : Option Value → AH → Prop) : Wp d P_xw 10 [.ref r0, .int x1, .int x2, .null, .null, .null, .null, .null, .null, .null, .null] [] h Q ↔ Q (some .null) h :=
    r_ret rfl rfl rfl
theorem b_xw_15 {d : Nat} (x1 x2 : Int32) (r0 : Nat) (h : AH) (Q : Option Value → AH → Prop) : Wp d P_xw 15 [.ref r0, .int x1, .int x2, .null, .null, .null, .null, .null, .null, .null, .null] [] h Q ↔ (hK h r0 = 10) ∧ (Cl d q_Ta_confessed [.ref (hR h r0 4), .int x1, .int 1, .int 1] h (fun r h' => Wp d P_xw 21 [.ref r0, .int x1, .int x2, .null, .null, .null, .null, .null, .null, .null, .null] (r.toList ++ []) h' Q)) :=
    (r_go (j := 16) (L' := [.ref r0, .int x1, .int x2, .null, .null, .null, .null, .null, .null, .null, .null]) (S' := [.ref r0]) (h' := h) rfl rfl rfl rfl).trans <|
    (r_guard (j := 17) (L' := [.ref r0, .int x1, .int x2, .null, .null, .null, .null, .null, .null, .null, .null]) (S' := [.ref (hR h r0 4)]) (h' := h) (p := hK h r0 = 10) rfl rfl rfl rfl (decide_eq_true_iff)).trans <| and_r <|
    (r_go (j := 18) (L' := [.ref r0, .int x1, .int x2, .null, .null, .null, .null, .null, .null, .null, .null]) (S' := [.int x1, .ref (hR h r0 4)]) (h' := h) rfl rfl rfl rfl).trans <|
    (r_iconst (j := 19) (x := 1) rfl i32_1 rfl).trans <|
    (r_iconst (j := 20) (x := 1) rfl i32_1 rfl).trans <|
    r_call (j := 21) (a := [.ref (hR h r0 4), .int x1, .int 1, .int 1]) (S' := []) rfl rfl rfl rfl rfl rfl rfl
theorem b_xw_21 {d : Nat} (x1 x2 s0 : Int32) (r0 : Nat) (h : AH) (Q : Option Value → AH → Prop) : Wp d P_xw 21 [.ref r0, .int x1, .int x2, .null, .null, .null, .null, .null, .null, .null, .null] [.int s0] h Q ↔ (hK h r0 = 10) ∧ (Cl d q_Ta_confessed [.ref (hR h r0 4), .int x1, .int 1, .int 0] h (fun r h' => Wp d P_xw 30 [.ref r0, .int x1, .int x2, .long (Int32.toInt64 s0), .null, .null, .null, .null, .null, .null, .null] (r.toList ++ [.long (Int32.toInt64 s0)]) h' Q)) :=
    (r_go (j := 22) (L' := [.ref r0, .int x1, .int x2, .null, .null, .null, .null, .null, .null, .null, .null]) (S' := [.long (Int32.toInt64 s0)]) (h' := h) rfl rfl rfl rfl).trans <|
    (r_go (j := 23) (L' := [.ref r0, .int x1, .int x2, .long (Int32.toInt64 s0), .null, .null, .null, .null, .null, .null, .null]) (S' := []) (h' := h) rfl rfl rfl rfl).trans <|
    (r_go (j := 24) (L' := [.ref r0, .int x1, .int x2, .long (Int32.toInt64 s0), .null, .null, .null, .null, .null, .null, .null]) (S' := [.long (Int32.toInt64 s0)]) (h' := h) rfl rfl rfl rfl).trans <|
    (r_go (j := 25) (L' := [.ref r0, .int x1, .int x2, .long (Int32.toInt64 s0), .null, .null, .null, .null, .null, .null, .null]) (S' := [.ref r0, .long (Int32.toInt64 s0)]) (h' := h) rfl rfl rfl rfl).trans <|
    (r_guard (j := 26) (L' := [.ref r0, .int x1, .int x2, .long (Int32.toInt64 s0), .null, .null, .null, .null, .null, .null, .null]) (S' := [.ref (hR h r0 4), .long (Int32.toInt64 s0)]) (h' := h) (p := hK h r0 = 10) rfl rfl rfl rfl (decide_eq_true_iff)).trans <| and_r <|
    (r_go (j := 27) (L' := [.ref r0, .int x1, .int x2, .long (Int32.toInt64 s0), .null, .null, .null, .null, .null, .null, .null]) (S' := [.int x1, .ref (hR h r0 4), .long (Int32.toInt64 s0)]) (h' := h) rfl rfl rfl rfl).trans <|
    (r_iconst (j := 28) (x := 1) rfl i32_1 rfl).trans <|
    (r_iconst (j := 29) (x := 0) rfl i32_0 rfl).trans <|
    r_call (j := 30) (a := [.ref (hR h r0 4), .int x1, .int 1, .int 0]) (S' := [.long (Int32.toInt64 s0)]) rfl rfl rfl rfl rfl rfl rfl
theorem b_xw_30 {d : Nat} (x1 x2 s0 : Int32) (l3 k1 : Int64) (r0 : Nat) (h : AH) (Q : Option Value → AH → Prop) : Wp d P_xw 30 [.ref r0, .int x1, .int x2, .long l3, .null, .null, .null, .null, .null, .null, .null] [.int s0, .long k1] h Q ↔ (hK h r0 = 10) ∧ (Cl d q_Ta_confessed [.ref (hR h r0 4), .int x1, .int 0, .int 1] h (fun r h' => Wp d P_xw 39 [.ref r0, .int x1, .int x2, .long l3, .null, .long (k1 + (Int32.toInt64 s0)), .null, .null, .null, .null, .null] (r.toList ++ []) h' Q)) :=
    (r_go (j := 31) (L' := [.ref r0, .int x1, .int x2, .long l3, .null, .null, .null, .null, .null, .null, .null]) (S' := [.long (Int32.toInt64 s0), .long k1]) (h' := h) rfl rfl rfl rfl).trans <|
    (r_go (j := 32) (L' := [.ref r0, .int x1, .int x2, .long l3, .null, .null, .null, .null, .null, .null, .null]) (S' := [.long (k1 + (Int32.toInt64 s0))]) (h' := h) rfl rfl rfl rfl).trans <|
    (r_go (j := 33) (L' := [.ref r0, .int x1, .int x2, .long l3, .null, .long (k1 + (Int32.toInt64 s0)), .null, .null, .null, .null, .null]) (S' := []) (h' := h) rfl rfl rfl rfl).trans <|
    (r_go (j := 34) (L' := [.ref r0, .int x1, .int x2, .long l3, .null, .long (k1 + (Int32.toInt64 s0)), .null, .null, .null, .null, .null]) (S' := [.ref r0]) (h' := h) rfl rfl rfl rfl).trans <|
    (r_guard (j := 35) (L' := [.ref r0, .int x1, .int x2, .long l3, .null, .long (k1 + (Int32.toInt64 s0)), .null, .null, .null, .null, .null]) (S' := [.ref (hR h r0 4)]) (h' := h) (p := hK h r0 = 10) rfl rfl rfl rfl (decide_eq_true_iff)).trans <| and_r <|
    (r_go (j := 36) (L' := [.ref r0, .int x1, .int x2, .long l3, .null, .long (k1 + (Int32.toInt64 s0)), .null, .null, .null, .null, .null]) (S' := [.int x1, .ref (hR h r0 4)]) (h' := h) rfl rfl rfl rfl).trans <|
    (r_iconst (j := 37) (x := 0) rfl i32_0 rfl).trans <|
    (r_iconst (j := 38) (x := 1) rfl i32_1 rfl).trans <|
    r_call (j := 39) (a := [.ref (hR h r0 4), .int x1, .int 0, .int 1]) (S' := []) rfl rfl rfl rfl rfl rfl rfl
theorem b_xw_39 {d : Nat} (x1 x2 s0 : Int32) (l3 l5 : Int64) (r0 : Nat) (h : AH) (Q : Option Value → AH → Prop) : Wp d P_xw 39 [.ref r0, .int x1, .int x2, .long l3, .null, .long l5, .null, .null, .null, .null, .null] [.int s0] h Q ↔ (hK h r0 = 10) ∧ (Cl d q_Ta_confessed [.ref (hR h r0 4), .int x1, .int 0, .int 0] h (fun r h' => Wp d P_xw 48 [.ref r0, .int x1, .int x2, .long l3, .null, .long l5, .null, .long (Int32.toInt64 s0), .null, .null, .null] (r.toList ++ [.long (Int32.toInt64 s0)]) h' Q)) :=
    (r_go (j := 40) (L' := [.ref r0, .int x1, .int x2, .long l3, .null, .long l5, .null, .null, .null, .null, .null]) (S' := [.long (Int32.toInt64 s0)]) (h' := h) rfl rfl rfl rfl).trans <|
    (r_go (j := 41) (L' := [.ref r0, .int x1, .int x2, .long l3, .null, .long l5, .null, .long (Int32.toInt64 s0), .null, .null, .null]) (S' := []) (h' := h) rfl rfl rfl rfl).trans <|
    (r_go (j := 42) (L' := [.ref r0, .int x1, .int x2, .long l3, .null, .long l5, .null, .long (Int32.toInt64 s0), .null, .null, .null]) (S' := [.long (Int32.toInt64 s0)]) (h' := h) rfl rfl rfl rfl).trans <|
    (r_go (j := 43) (L' := [.ref r0, .int x1, .int x2, .long l3, .null, .long l5, .null, .long (Int32.toInt64 s0), .null, .null, .null]) (S' := [.ref r0, .long (Int32.toInt64 s0)]) (h' := h) rfl rfl rfl rfl).trans <|
    (r_guard (j := 44) (L' := [.ref r0, .int x1, .int x2, .long l3, .null, .long l5, .null, .long (Int32.toInt64 s0), .null, .null, .null]) (S' := [.ref (hR h r0 4), .long (Int32.toInt64 s0)]) (h' := h) (p := hK h r0 = 10) rfl rfl rfl rfl (decide_eq_true_iff)).trans <| and_r <|
    (r_go (j := 45) (L' := [.ref r0, .int x1, .int x2, .long l3, .null, .long l5, .null, .long (Int32.toInt64 s0), .null, .null, .null]) (S' := [.int x1, .ref (hR h r0 4), .long (Int32.toInt64 s0)]) (h' := h) rfl rfl rfl rfl).trans <|
    (r_iconst (j := 46) (x := 0) rfl i32_0 rfl).trans <|
    (r_iconst (j := 47) (x := 0) rfl i32_0 rfl).trans <|
    r_call (j := 48) (a := [.ref (hR h r0 4), .int x1, .int 0, .int 0]) (S' := [.long (Int32.toInt64 s0)]) rfl rfl rfl rfl rfl rfl rfl
theorem b_xw_48 {d : Nat} (x1 x2 s0 : Int32) (l3 l5 l7 k1 : Int64) (r0 : Nat) (h : AH) (Q : Option Value → AH → Prop) : Wp d P_xw 48 [.ref r0, .int x1, .int x2, .long l3, .null, .long l5, .null, .long l7, .null, .null, .null] [.int s0, .long k1] h Q ↔ ((lg_cmp l5 0) ≤ 0 → Wp d P_xw 59 [.ref r0, .int x1, .int x2, .long l3, .null, .long l5, .null, .long l7, .null, .long (k1 + (Int32.toInt64 s0)), .null] [] h Q) ∧ (¬ ((lg_cmp l5 0) ≤ 0) → Wp d P_xw 55 [.ref r0, .int x1, .int x2, .long l3, .null, .long l5, .null, .long l7, .null, .long (k1 + (Int32.toInt64 s0)), .null] [] h Q) :=
    (r_go (j := 49) (L' := [.ref r0, .int x1, .int x2, .long l3, .null, .long l5, .null, .long l7, .null, .null, .null]) (S' := [.long (Int32.toInt64 s0), .long k1]) (h' := h) rfl rfl rfl rfl).trans <|
    (r_go (j := 50) (L' := [.ref r0, .int x1, .int x2, .long l3, .null, .long l5, .null, .long l7, .null, .null, .null]) (S' := [.long (k1 + (Int32.toInt64 s0))]) (h' := h) rfl rfl rfl rfl).trans <|
    (r_go (j := 51) (L' := [.ref r0, .int x1, .int x2, .long l3, .null, .long l5, .null, .long l7, .null, .long (k1 + (Int32.toInt64 s0)), .null]) (S' := []) (h' := h) rfl rfl rfl rfl).trans <|
    (r_go (j := 52) (L' := [.ref r0, .int x1, .int x2, .long l3, .null, .long l5, .null, .long l7, .null, .long (k1 + (Int32.toInt64 s0)), .null]) (S' := [.long l5]) (h' := h) rfl rfl rfl rfl).trans <|
    (r_go (j := 53) (L' := [.ref r0, .int x1, .int x2, .long l3, .null, .long l5, .null, .long l7, .null, .long (k1 + (Int32.toInt64 s0)), .null]) (S' := [.long 0, .long l5]) (h' := h) rfl rfl rfl rfl).trans <|
    (r_go (j := 54) (L' := [.ref r0, .int x1, .int x2, .long l3, .null, .long l5, .null, .long l7, .null, .long (k1 + (Int32.toInt64 s0)), .null]) (S' := [.int (lg_cmp l5 0)]) (h' := h) rfl rfl rfl rfl).trans <|
    r_if (j := 55) rfl (cd_le _ _) rfl
theorem b_xw_55 {d : Nat} (x1 x2 : Int32) (l3 l5 l7 l9 : Int64) (r0 : Nat) (h : AH) (Q : Option Value → AH → Prop) : Wp d P_xw 55 [.ref r0, .int x1, .int x2, .long l3, .null, .long l5, .null, .long l7, .null, .long l9, .null] [] h Q ↔ (0 < (lg_cmp l9 0) → Wp d P_xw 64 [.ref r0, .int x1, .int x2, .long l3, .null, .long l5, .null, .long l7, .null, .long l9, .null] [] h Q) ∧ (¬ (0 < (lg_cmp l9 0)) → Wp d P_xw 59 [.ref r0, .int x1, .int x2, .long l3, .null, .long l5, .null, .long l7, .null, .long l9, .null] [] h Q) :=
    (r_go (j := 56) (L' := [.ref r0, .int x1, .int x2, .long l3, .null, .long l5, .null, .long l7, .null, .long l9, .null]) (S' := [.long l9]) (h' := h) rfl rfl rfl rfl).trans <|
    (r_go (j := 57) (L' := [.ref r0, .int x1, .int x2, .long l3, .null, .long l5, .null, .long l7, .null, .long l9, .null]) (S' := [.long 0, .long l9]) (h' := h) rfl rfl rfl rfl).trans <|
    (r_go (j := 58) (L' := [.ref r0, .int x1, .int x2, .long l3, .null, .long l5, .null, .long l7, .null, .long l9, .null]) (S' := [.int (lg_cmp l9 0)]) (h' := h) rfl rfl rfl rfl).trans <|
    r_if (j := 59) rfl (cd_gt _ _) rfl
theorem b_xw_59 {d : Nat} (x1 x2 : Int32) (l3 l5 l7 l9 : Int64) (r0 : Nat) (h : AH) (Q : Option Value → AH → Prop) : Wp d P_xw 59 [.ref r0, .int x1, .int x2, .long l3, .null, .long l5, .null, .long l7, .null, .long l9, .null] [] h Q ↔ Q (some .null) h :=
    r_ret rfl rfl rfl
theorem b_xw_64 {d : Nat} (x1 x2 : Int32) (l3 l5 l7 l9 : Int64) (r0 : Nat) (h : AH) (Q : Option Value → AH → Prop) : Wp d P_xw 64 [.ref r0, .int x1, .int x2, .long l3, .null, .long l5, .null, .long l7, .null, .long l9, .null] [] h Q ↔ Cl d q_X_lowest [.long ((l3 * l9) - (l7 * l5)), .long (l5 * l9), .int x2] h (fun r h' => Wp d P_xw 76 [.ref r0, .int x1, .int x2, .long l3, .null, .long l5, .null, .long l7, .null, .long l9, .null] (r.toList ++ []) h' Q) :=
    (r_go (j := 65) (L' := [.ref r0, .int x1, .int x2, .long l3, .null, .long l5, .null, .long l7, .null, .long l9, .null]) (S' := [.long l3]) (h' := h) rfl rfl rfl rfl).trans <|
    (r_go (j := 66) (L' := [.ref r0, .int x1, .int x2, .long l3, .null, .long l5, .null, .long l7, .null, .long l9, .null]) (S' := [.long l9, .long l3]) (h' := h) rfl rfl rfl rfl).trans <|
    (r_go (j := 67) (L' := [.ref r0, .int x1, .int x2, .long l3, .null, .long l5, .null, .long l7, .null, .long l9, .null]) (S' := [.long (l3 * l9)]) (h' := h) rfl rfl rfl rfl).trans <|
    (r_go (j := 68) (L' := [.ref r0, .int x1, .int x2, .long l3, .null, .long l5, .null, .long l7, .null, .long l9, .null]) (S' := [.long l7, .long (l3 * l9)]) (h' := h) rfl rfl rfl rfl).trans <|
    (r_go (j := 69) (L' := [.ref r0, .int x1, .int x2, .long l3, .null, .long l5, .null, .long l7, .null, .long l9, .null]) (S' := [.long l5, .long l7, .long (l3 * l9)]) (h' := h) rfl rfl rfl rfl).trans <|
    (r_go (j := 70) (L' := [.ref r0, .int x1, .int x2, .long l3, .null, .long l5, .null, .long l7, .null, .long l9, .null]) (S' := [.long (l7 * l5), .long (l3 * l9)]) (h' := h) rfl rfl rfl rfl).trans <|
    (r_go (j := 71) (L' := [.ref r0, .int x1, .int x2, .long l3, .null, .long l5, .null, .long l7, .null, .long l9, .null]) (S' := [.long ((l3 * l9) - (l7 * l5))]) (h' := h) rfl rfl rfl rfl).trans <|
    (r_go (j := 72) (L' := [.ref r0, .int x1, .int x2, .long l3, .null, .long l5, .null, .long l7, .null, .long l9, .null]) (S' := [.long l5, .long ((l3 * l9) - (l7 * l5))]) (h' := h) rfl rfl rfl rfl).trans <|
    (r_go (j := 73) (L' := [.ref r0, .int x1, .int x2, .long l3, .null, .long l5, .null, .long l7, .null, .long l9, .null]) (S' := [.long l9, .long l5, .long ((l3 * l9) - (l7 * l5))]) (h' := h) rfl rfl rfl rfl).trans <|
    (r_go (j := 74) (L' := [.ref r0, .int x1, .int x2, .long l3, .null, .long l5, .null, .long l7, .null, .long l9, .null]) (S' := [.long (l5 * l9), .long ((l3 * l9) - (l7 * l5))]) (h' := h) rfl rfl rfl rfl).trans <|
    (r_go (j := 75) (L' := [.ref r0, .int x1, .int x2, .long l3, .null, .long l5, .null, .long l7, .null, .long l9, .null]) (S' := [.int x2, .long (l5 * l9), .long ((l3 * l9) - (l7 * l5))]) (h' := h) rfl rfl rfl rfl).trans <|
    r_call (j := 76) (a := [.long ((l3 * l9) - (l7 * l5)), .long (l5 * l9), .int x2]) (S' := []) rfl rfl rfl rfl rfl rfl rfl
theorem b_xw_76 {d : Nat} (x1 x2 : Int32) (l3 l5 l7 l9 k0 : Int64) (r0 : Nat) (h : AH) (Q : Option Value → AH → Prop) : Wp d P_xw 76 [.ref r0, .int x1, .int x2, .long l3, .null, .long l5, .null, .long l7, .null, .long l9, .null] [.long k0] h Q ↔ Q (some (.long k0)) h :=
    r_ret rfl rfl rfl
theorem b_xl_0 {d : Nat} (x1 : Int32) (r0 : Nat) (h : AH) (Q : Option Value → AH → Prop) : Wp d P_xl 0 [.ref r0, .int x1, .null, .null, .null, .null, .null, .null] [] h Q ↔ (hK h r0 = 10) ∧ ((hK h (hR h r0 4) = 8) ∧ ((hK h r0 = 10) ∧ ((hK h (hR h r0 4) = 8) ∧ (Cl d q_X_within [.int x1, .int 0, .int 1] h (fun r h' => Wp d P_xl 14 [.ref r0, .int x1, .long (Int32.toInt64 (hI h (hR h r0 4) 3)), .null, .long (Int32.toInt64 (hI h (hR h r0 4) 5)), .null, .null, .null] (r.toList ++ []) h' Q))))) :=
    (r_go (j := 1) (L' := [.ref r0, .int x1, .null, .null, .null, .null, .null, .null]) (S' := [.ref r0]) (h' := h) rfl rfl rfl rfl).trans <|
    (r_guard (j := 2) (L' := [.ref r0, .int x1, .null, .null, .null, .null, .null, .null]) (S' := [.ref (hR h r0 4)]) (h' := h) (p := hK h r0 = 10) rfl rfl rfl rfl (decide_eq_true_iff)).trans <| and_r <|
    (r_guard (j := 3) (L' := [.ref r0, .int x1, .null, .null, .null, .null, .null, .null]) (S' := [.int (hI h (hR h r0 4) 3)]) (h' := h) (p := hK h (hR h r0 4) = 8) rfl rfl rfl rfl (decide_eq_true_iff)).trans <| and_r <|
    (r_go (j := 4) (L' := [.ref r0, .int x1, .null, .null, .null, .null, .null, .null]) (S' := [.long (Int32.toInt64 (hI h (hR h r0 4) 3))]) (h' := h) rfl rfl rfl rfl).trans <|
    (r_go (j := 5) (L' := [.ref r0, .int x1, .long (Int32.toInt64 (hI h (hR h r0 4) 3)), .null, .null, .null, .null, .null]) (S' := []) (h' := h) rfl rfl rfl rfl).trans <|
    (r_go (j := 6) (L' := [.ref r0, .int x1, .long (Int32.toInt64 (hI h (hR h r0 4) 3)), .null, .null, .null, .null, .null]) (S' := [.ref r0]) (h' := h) rfl rfl rfl rfl).trans <|
    (r_guard (j := 7) (L' := [.ref r0, .int x1, .long (Int32.toInt64 (hI h (hR h r0 4) 3)), .null, .null, .null, .null, .null]) (S' := [.ref (hR h r0 4)]) (h' := h) (p := hK h r0 = 10) rfl rfl rfl rfl (decide_eq_true_iff)).trans <| and_r <|
    (r_guard (j := 8) (L' := [.ref r0, .int x1, .long (Int32.toInt64 (hI h (hR h r0 4) 3)), .null, .null, .null, .null, .null]) (S' := [.int (hI h (hR h r0 4) 5)]) (h' := h) (p := hK h (hR h r0 4) = 8) rfl rfl rfl rfl (decide_eq_true_iff)).trans <| and_r <|
    (r_go (j := 9) (L' := [.ref r0, .int x1, .long (Int32.toInt64 (hI h (hR h r0 4) 3)), .null, .null, .null, .null, .null]) (S' := [.long (Int32.toInt64 (hI h (hR h r0 4) 5))]) (h' := h) rfl rfl rfl rfl).trans <|
    (r_go (j := 10) (L' := [.ref r0, .int x1, .long (Int32.toInt64 (hI h (hR h r0 4) 3)), .null, .long (Int32.toInt64 (hI h (hR h r0 4) 5)), .null, .null, .null]) (S' := []) (h' := h) rfl rfl rfl rfl).trans <|
    (r_go (j := 11) (L' := [.ref r0, .int x1, .long (Int32.toInt64 (hI h (hR h r0 4) 3)), .null, .long (Int32.toInt64 (hI h (hR h r0 4) 5)), .null, .null, .null]) (S' := [.int x1]) (h' := h) rfl rfl rfl rfl).trans <|
    (r_iconst (j := 12) (x := 0) rfl i32_0 rfl).trans <|
    (r_iconst (j := 13) (x := 1) rfl i32_1 rfl).trans <|
    r_call (j := 14) (a := [.int x1, .int 0, .int 1]) (S' := []) rfl rfl rfl rfl rfl rfl rfl
theorem b_xl_14 {d : Nat} (x1 s0 : Int32) (l2 l4 : Int64) (r0 : Nat) (h : AH) (Q : Option Value → AH → Prop) : Wp d P_xl 14 [.ref r0, .int x1, .long l2, .null, .long l4, .null, .null, .null] [.int s0] h Q ↔ (s0 = 0 → Wp d P_xl 23 [.ref r0, .int x1, .long l2, .null, .long l4, .null, .null, .null] [] h Q) ∧ (¬ (s0 = 0) → Wp d P_xl 15 [.ref r0, .int x1, .long l2, .null, .long l4, .null, .null, .null] [] h Q) :=
    r_if (j := 15) rfl (cd_eq _ _) rfl
theorem b_xl_15 {d : Nat} (x1 : Int32) (l2 l4 : Int64) (r0 : Nat) (h : AH) (Q : Option Value → AH → Prop) : Wp d P_xl 15 [.ref r0, .int x1, .long l2, .null, .long l4, .null, .null, .null] [] h Q ↔ ((lg_cmp l2 0) ≤ 0 → Wp d P_xl 23 [.ref r0, .int x1, .long l2, .null, .long l4, .null, .null, .null] [] h Q) ∧ (¬ ((lg_cmp l2 0) ≤ 0) → Wp d P_xl 19 [.ref r0, .int x1, .long l2, .null, .long l4, .null, .null, .null] [] h Q) :=
    (r_go (j := 16) (L' := [.ref r0, .int x1, .long l2, .null, .long l4, .null, .null, .null]) (S' := [.long l2]) (h' := h) rfl rfl rfl rfl).trans <|
    (r_go (j := 17) (L' := [.ref r0, .int x1, .long l2, .null, .long l4, .null, .null, .null]) (S' := [.long 0, .long l2]) (h' := h) rfl rfl rfl rfl).trans <|
    (r_go (j := 18) (L' := [.ref r0, .int x1, .long l2, .null, .long l4, .null, .null, .null]) (S' := [.int (lg_cmp l2 0)]) (h' := h) rfl rfl rfl rfl).trans <|
    r_if (j := 19) rfl (cd_le _ _) rfl
theorem b_xl_19 {d : Nat} (x1 : Int32) (l2 l4 : Int64) (r0 : Nat) (h : AH) (Q : Option Value → AH → Prop) : Wp d P_xl 19 [.ref r0, .int x1, .long l2, .null, .long l4, .null, .null, .null] [] h Q ↔ (0 < (lg_cmp l4 0) → Wp d P_xl 28 [.ref r0, .int x1, .long l2, .null, .long l4, .null, .null, .null] [] h Q) ∧ (¬ (0 < (lg_cmp l4 0)) → Wp d P_xl 23 [.ref r0, .int x1, .long l2, .null, .long l4, .null, .null, .null] [] h Q) :=
    (r_go (j := 20) (L' := [.ref r0, .int x1, .long l2, .null, .long l4, .null, .null, .null]) (S' := [.long l4]) (h' := h) rfl rfl rfl rfl).trans <|
    (r_go (j := 21) (L' := [.ref r0, .int x1, .long l2, .null, .long l4, .null, .null, .null]) (S' := [.long 0, .long l4]) (h' := h) rfl rfl rfl rfl).trans <|
    (r_go (j := 22) (L' := [.ref r0, .int x1, .long l2, .null, .long l4, .null, .null, .null]) (S' := [.int (lg_cmp l4 0)]) (h' := h) rfl rfl rfl rfl).trans <|
    r_if (j := 23) rfl (cd_gt _ _) rfl
theorem b_xl_23 {d : Nat} (x1 : Int32) (l2 l4 : Int64) (r0 : Nat) (h : AH) (Q : Option Value → AH → Prop) : Wp d P_xl 23 [.ref r0, .int x1, .long l2, .null, .long l4, .null, .null, .null] [] h Q ↔ Q (some .null) h :=
    r_ret rfl rfl rfl
theorem b_xl_28 {d : Nat} (x1 : Int32) (l2 l4 : Int64) (r0 : Nat) (h : AH) (Q : Option Value → AH → Prop) : Wp d P_xl 28 [.ref r0, .int x1, .long l2, .null, .long l4, .null, .null, .null] [] h Q ↔ (hK h r0 = 10) ∧ ((hK h (hR h r0 4) = 8) ∧ ((hK h r0 = 10) ∧ ((hK h (hR h r0 4) = 8) ∧ (Cl d q_X_lowest [.long (((Int32.toInt64 (hI h (hR h r0 4) 4)) * l4) - ((Int32.toInt64 (hI h (hR h r0 4) 6)) * l2)), .long (l2 * l4), .int x1] h (fun r h' => Wp d P_xl 48 [.ref r0, .int x1, .long l2, .null, .long l4, .null, .long (((Int32.toInt64 (hI h (hR h r0 4) 4)) * l4) - ((Int32.toInt64 (hI h (hR h r0 4) 6)) * l2)), .null] (r.toList ++ []) h' Q))))) :=
    (r_go (j := 29) (L' := [.ref r0, .int x1, .long l2, .null, .long l4, .null, .null, .null]) (S' := [.ref r0]) (h' := h) rfl rfl rfl rfl).trans <|
    (r_guard (j := 30) (L' := [.ref r0, .int x1, .long l2, .null, .long l4, .null, .null, .null]) (S' := [.ref (hR h r0 4)]) (h' := h) (p := hK h r0 = 10) rfl rfl rfl rfl (decide_eq_true_iff)).trans <| and_r <|
    (r_guard (j := 31) (L' := [.ref r0, .int x1, .long l2, .null, .long l4, .null, .null, .null]) (S' := [.int (hI h (hR h r0 4) 4)]) (h' := h) (p := hK h (hR h r0 4) = 8) rfl rfl rfl rfl (decide_eq_true_iff)).trans <| and_r <|
    (r_go (j := 32) (L' := [.ref r0, .int x1, .long l2, .null, .long l4, .null, .null, .null]) (S' := [.long (Int32.toInt64 (hI h (hR h r0 4) 4))]) (h' := h) rfl rfl rfl rfl).trans <|
    (r_go (j := 33) (L' := [.ref r0, .int x1, .long l2, .null, .long l4, .null, .null, .null]) (S' := [.long l4, .long (Int32.toInt64 (hI h (hR h r0 4) 4))]) (h' := h) rfl rfl rfl rfl).trans <|
    (r_go (j := 34) (L' := [.ref r0, .int x1, .long l2, .null, .long l4, .null, .null, .null]) (S' := [.long ((Int32.toInt64 (hI h (hR h r0 4) 4)) * l4)]) (h' := h) rfl rfl rfl rfl).trans <|
    (r_go (j := 35) (L' := [.ref r0, .int x1, .long l2, .null, .long l4, .null, .null, .null]) (S' := [.ref r0, .long ((Int32.toInt64 (hI h (hR h r0 4) 4)) * l4)]) (h' := h) rfl rfl rfl rfl).trans <|
    (r_guard (j := 36) (L' := [.ref r0, .int x1, .long l2, .null, .long l4, .null, .null, .null]) (S' := [.ref (hR h r0 4), .long ((Int32.toInt64 (hI h (hR h r0 4) 4)) * l4)]) (h' := h) (p := hK h r0 = 10) rfl rfl rfl rfl (decide_eq_true_iff)).trans <| and_r <|
    (r_guard (j := 37) (L' := [.ref r0, .int x1, .long l2, .null, .long l4, .null, .null, .null]) (S' := [.int (hI h (hR h r0 4) 6), .long ((Int32.toInt64 (hI h (hR h r0 4) 4)) * l4)]) (h' := h) (p := hK h (hR h r0 4) = 8) rfl rfl rfl rfl (decide_eq_true_iff)).trans <| and_r <|
    (r_go (j := 38) (L' := [.ref r0, .int x1, .long l2, .null, .long l4, .null, .null, .null]) (S' := [.long (Int32.toInt64 (hI h (hR h r0 4) 6)), .long ((Int32.toInt64 (hI h (hR h r0 4) 4)) * l4)]) (h' := h) rfl rfl rfl rfl).trans <|
    (r_go (j := 39) (L' := [.ref r0, .int x1, .long l2, .null, .long l4, .null, .null, .null]) (S' := [.long l2, .long (Int32.toInt64 (hI h (hR h r0 4) 6)), .long ((Int32.toInt64 (hI h (hR h r0 4) 4)) * l4)]) (h' := h) rfl rfl rfl rfl).trans <|
    (r_go (j := 40) (L' := [.ref r0, .int x1, .long l2, .null, .long l4, .null, .null, .null]) (S' := [.long ((Int32.toInt64 (hI h (hR h r0 4) 6)) * l2), .long ((Int32.toInt64 (hI h (hR h r0 4) 4)) * l4)]) (h' := h) rfl rfl rfl rfl).trans <|
    (r_go (j := 41) (L' := [.ref r0, .int x1, .long l2, .null, .long l4, .null, .null, .null]) (S' := [.long (((Int32.toInt64 (hI h (hR h r0 4) 4)) * l4) - ((Int32.toInt64 (hI h (hR h r0 4) 6)) * l2))]) (h' := h) rfl rfl rfl rfl).trans <|
    (r_go (j := 42) (L' := [.ref r0, .int x1, .long l2, .null, .long l4, .null, .long (((Int32.toInt64 (hI h (hR h r0 4) 4)) * l4) - ((Int32.toInt64 (hI h (hR h r0 4) 6)) * l2)), .null]) (S' := []) (h' := h) rfl rfl rfl rfl).trans <|
    (r_go (j := 43) (L' := [.ref r0, .int x1, .long l2, .null, .long l4, .null, .long (((Int32.toInt64 (hI h (hR h r0 4) 4)) * l4) - ((Int32.toInt64 (hI h (hR h r0 4) 6)) * l2)), .null]) (S' := [.long (((Int32.toInt64 (hI h (hR h r0 4) 4)) * l4) - ((Int32.toInt64 (hI h (hR h r0 4) 6)) * l2))]) (h' := h) rfl rfl rfl rfl).trans <|
    (r_go (j := 44) (L' := [.ref r0, .int x1, .long l2, .null, .long l4, .null, .long (((Int32.toInt64 (hI h (hR h r0 4) 4)) * l4) - ((Int32.toInt64 (hI h (hR h r0 4) 6)) * l2)), .null]) (S' := [.long l2, .long (((Int32.toInt64 (hI h (hR h r0 4) 4)) * l4) - ((Int32.toInt64 (hI h (hR h r0 4) 6)) * l2))]) (h' := h) rfl rfl rfl rfl).trans <|
    (r_go (j := 45) (L' := [.ref r0, .int x1, .long l2, .null, .long l4, .null, .long (((Int32.toInt64 (hI h (hR h r0 4) 4)) * l4) - ((Int32.toInt64 (hI h (hR h r0 4) 6)) * l2)), .null]) (S' := [.long l4, .long l2, .long (((Int32.toInt64 (hI h (hR h r0 4) 4)) * l4) - ((Int32.toInt64 (hI h (hR h r0 4) 6)) * l2))]) (h' := h) rfl rfl rfl rfl).trans <|
    (r_go (j := 46) (L' := [.ref r0, .int x1, .long l2, .null, .long l4, .null, .long (((Int32.toInt64 (hI h (hR h r0 4) 4)) * l4) - ((Int32.toInt64 (hI h (hR h r0 4) 6)) * l2)), .null]) (S' := [.long (l2 * l4), .long (((Int32.toInt64 (hI h (hR h r0 4) 4)) * l4) - ((Int32.toInt64 (hI h (hR h r0 4) 6)) * l2))]) (h' := h) rfl rfl rfl rfl).trans <|
    (r_go (j := 47) (L' := [.ref r0, .int x1, .long l2, .null, .long l4, .null, .long (((Int32.toInt64 (hI h (hR h r0 4) 4)) * l4) - ((Int32.toInt64 (hI h (hR h r0 4) 6)) * l2)), .null]) (S' := [.int x1, .long (l2 * l4), .long (((Int32.toInt64 (hI h (hR h r0 4) 4)) * l4) - ((Int32.toInt64 (hI h (hR h r0 4) 6)) * l2))]) (h' := h) rfl rfl rfl rfl).trans <|
    r_call (j := 48) (a := [.long (((Int32.toInt64 (hI h (hR h r0 4) 4)) * l4) - ((Int32.toInt64 (hI h (hR h r0 4) 6)) * l2)), .long (l2 * l4), .int x1]) (S' := []) rfl rfl rfl rfl rfl rfl rfl
theorem b_xl_48 {d : Nat} (x1 : Int32) (l2 l4 l6 k0 : Int64) (r0 : Nat) (h : AH) (Q : Option Value → AH → Prop) : Wp d P_xl 48 [.ref r0, .int x1, .long l2, .null, .long l4, .null, .long l6, .null] [.long k0] h Q ↔ Q (some (.long k0)) h :=
    r_ret rfl rfl rfl
