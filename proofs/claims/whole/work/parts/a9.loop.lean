--deps: a8.lawops
/-! THE LAW'S LOOP, FROM ITS HEAD -/
theorem m8 {L c : Nat} (hL : L ≤ 4096) (hc : c ≤ 600) : (Int32.ofNat L - 8 < nI (8 * c)) ↔ L < 8 * c + 8 := by
  have e1 : (Int32.ofNat L).toInt = L := Int32.toInt_ofNat_of_lt (by omega)
  have e2 : (nI (8 * c)).toInt = (8 * c : Nat) := Int32.toInt_ofNat_of_lt (by omega)
  rw [Int32.lt_iff_toInt_lt, Int32.toInt_sub, e1, e2, show (8 : Int32).toInt = 8 from rfl, Int.bmod_eq_of_le (by omega) (by omega)]
  omega
theorem al44 : ((20 : Nat) ≤ 44 ∧ (44 : Nat) ≠ 40 ∧ (44 : Nat) ≠ 42 ∧ (44 : Nat) ≤ 45 ∧ (44 : Nat) ≠ 43) ↔ True := by decide
theorem w_law {L : Nat} {xs : Nat → Int32} (hL : L ≤ 4096) (Q : Option Value → AH → Prop) (fin : ∀ c h', c ≤ 513 → Inv L xs c h' → Q (some (.int 1)) h') : ∀ (m c : Nat) (h : AH) (v5 v6 : Value), c + m = 513 → 8 * c ≤ L + 7 → Inv L xs c h → Wp 100 P_law 13 [.ref 1, .ref 100, .ref 342, .ref 377, .int (nI (8 * c)), v5, v6, .null] [] h Q := by
  intro m
  induction m with
  | zero =>
    intro c h v5 v6 e b i
    have s := i.sc
    have z := (m8 (L := L) (c := c) hL (by omega)).mpr (by omega)
    rw [b_law_13]
    simp only [s.1, s.2.1, al44, z, b_law_1101, true_and, true_implies, not_true_eq_false, false_implies, and_true]
    exact fin c h (by omega) i
  | succ m ih =>
    intro c h v5 v6 e b i
    have s := i.sc
    by_cases q : L < 8 * c + 8
    · have z := (m8 (L := L) (c := c) hL (by omega)).mpr q
      rw [b_law_13]
      simp only [s.1, s.2.1, al44, z, b_law_1101, true_and, true_implies, not_true_eq_false, false_implies, and_true]
      exact fin c h (by omega) i
    · have z := mt (m8 (L := L) (c := c) hL (by omega)).mp q
      have go : GO L xs c Q := by
        intro h2 v5 v6 i2
        rw [b_law_1099, show nI (8 * c) + 8 = nI (8 * (c + 1)) by rw [show (8 : Int32) = nI 8 from rfl, nadd]; congr 1]
        exact ih (c + 1) h2 _ _ (by omega) (by omega) i2
      have x0 : ixo (nI (8 * c)) L = true := nix (by omega) (by omega)
      have c0 := cN (n := 8 * c) (by omega)
      rw [b_law_13]
      simp only [s.1, s.2.1, al44, z, true_and, not_false_eq_true, true_implies, false_implies, b_law_19, s.2.2, mem44, x0, c0]
      generalize I0 xs 1 (8 * c) &&& 31 = x
      refine ⟨fun _ => ?_, fun w => ?_⟩
      · have i' : Inv L xs (c + 1) h := i.keep (Nat.le_succ _) (S := onl 342) (T := nov) Fr.rfl' (fun a z => by unfold onl at z; unfold scr; omega) (fun a z => z.elim) rfl rfl rfl (fun _ _ => ⟨rfl, rfl⟩) (fun _ _ => ⟨rfl, rfl⟩) (fun _ _ => rfl)
        exact go h _ _ i'
      · have hc : 8 * c + 8 ≤ L := by omega
        obtain ⟨k, hk, ek⟩ : ∃ k, k < 26 ∧ (x.toInt - 0).toNat = k := ⟨_, by
          have w2 : ¬ (x.toInt < 0 ∨ 0 + ((26 : Nat) : Int) ≤ x.toInt) := w
          omega, rfl⟩
        rw [ek]
        have ck : k = 0 ∨ k = 1 ∨ k = 2 ∨ k = 3 ∨ k = 4 ∨ k = 5 ∨ k = 6 ∨ k = 7 ∨ k = 8 ∨ k = 9 ∨ k = 10 ∨ k = 11 ∨ k = 12 ∨ k = 13 ∨ k = 14 ∨ k = 15 ∨ k = 16 ∨ k = 17 ∨ k = 18 ∨ k = 19 ∨ k = 20 ∨ k = 21 ∨ k = 22 ∨ k = 23 ∨ k = 24 ∨ k = 25 := by omega
        rcases ck with rfl | rfl | rfl | rfl | rfl | rfl | rfl | rfl | rfl | rfl | rfl | rfl | rfl | rfl | rfl | rfl | rfl | rfl | rfl | rfl | rfl | rfl | rfl | rfl | rfl | rfl
        · exact l_person hL hc i go
        · exact l_item hL hc i go
        · exact l_feed hL hc i go
        · exact l_plan hL hc i go
        · exact l_body hL hc i go
        · exact l_reader hL hc i go
        · exact l_question hL hc i go
        · exact l_sit hL hc i go
        · exact l_jump hL hc i go
        · exact l_says hL hc i go
        · exact l_leans hL hc i go
        · exact l_hits hL hc i go
        · exact l_rates hL hc i go
        · exact l_tricked hL hc i go
        · exact l_apart hL hc i go
        · exact l_same hL hc i go
        · exact l_best hL hc i go
        · exact l_odds hL hc i go
        · exact l_items hL hc i go
        · exact l_named hL hc i go
        · exact l_confess hL hc i go
        · exact l_worth hL hc i go
        · exact l_paper hL hc i go
        · exact l_lean hL hc i go
        · exact l_mark hL hc i go
        · exact l_count hL hc i go
