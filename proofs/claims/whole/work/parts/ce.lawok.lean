--deps: c0.ok
/-! THE LAW'S CODE STANDS AS IT MUST -/
def pckR (a n : Nat) : Bool := (List.range n).all fun i => pck code 13 false P_law (a + i)
set_option maxRecDepth 100000 in
theorem lawok_0 : pckR 0 100 = true := by decide +kernel
set_option maxRecDepth 100000 in
theorem lawok_1 : pckR 100 100 = true := by decide +kernel
set_option maxRecDepth 100000 in
theorem lawok_2 : pckR 200 100 = true := by decide +kernel
set_option maxRecDepth 100000 in
theorem lawok_3 : pckR 300 100 = true := by decide +kernel
set_option maxRecDepth 100000 in
theorem lawok_4 : pckR 400 100 = true := by decide +kernel
set_option maxRecDepth 100000 in
theorem lawok_5 : pckR 500 100 = true := by decide +kernel
set_option maxRecDepth 100000 in
theorem lawok_6 : pckR 600 100 = true := by decide +kernel
set_option maxRecDepth 100000 in
theorem lawok_7 : pckR 700 100 = true := by decide +kernel
set_option maxRecDepth 100000 in
theorem lawok_8 : pckR 800 100 = true := by decide +kernel
set_option maxRecDepth 100000 in
theorem lawok_9 : pckR 900 100 = true := by decide +kernel
set_option maxRecDepth 100000 in
theorem lawok_10 : pckR 1000 100 = true := by decide +kernel
set_option maxRecDepth 100000 in
theorem lawok_11 : pckR 1100 3 = true := by decide +kernel
theorem law_len : P_law.length = 1103 := by decide +kernel
theorem law_ok : POK ML code 13 false P_law := by
  have key : ∀ i, i < 1103 → pck code 13 false P_law i = true := by
    intro i hi
    have go : ∀ a n, pckR a n = true → a ≤ i → i < a + n → pck code 13 false P_law i = true := by
      intro a n h h1 h2
      have := List.all_eq_true.mp h (i - a) (List.mem_range.mpr (by omega))
      rw [show a + (i - a) = i by omega] at this
      exact this
    rcases (show (0 ≤ i ∧ i < 100) ∨ (100 ≤ i ∧ i < 200) ∨ (200 ≤ i ∧ i < 300) ∨ (300 ≤ i ∧ i < 400) ∨ (400 ≤ i ∧ i < 500) ∨ (500 ≤ i ∧ i < 600) ∨ (600 ≤ i ∧ i < 700) ∨ (700 ≤ i ∧ i < 800) ∨ (800 ≤ i ∧ i < 900) ∨ (900 ≤ i ∧ i < 1000) ∨ (1000 ≤ i ∧ i < 1100) ∨ (1100 ≤ i ∧ i < 1103) by omega) with w | w | w | w | w | w | w | w | w | w | w | w
    · exact go 0 100 lawok_0 w.1 w.2
    · exact go 100 100 lawok_1 w.1 w.2
    · exact go 200 100 lawok_2 w.1 w.2
    · exact go 300 100 lawok_3 w.1 w.2
    · exact go 400 100 lawok_4 w.1 w.2
    · exact go 500 100 lawok_5 w.1 w.2
    · exact go 600 100 lawok_6 w.1 w.2
    · exact go 700 100 lawok_7 w.1 w.2
    · exact go 800 100 lawok_8 w.1 w.2
    · exact go 900 100 lawok_9 w.1 w.2
    · exact go 1000 100 lawok_10 w.1 w.2
    · exact go 1100 3 lawok_11 w.1 w.2
  intro i q hq
  have hi : i < 1103 := by rw [← law_len]; exact (List.getElem?_eq_some_iff.mp hq).1
  have h1 := key i hi
  unfold pck at h1
  rw [hq] at h1
  have h2 := Bool.and_eq_true_iff.mp h1
  refine ⟨Or.inr (of_decide_eq_true h2.1), ?_⟩
  rcases Bool.or_eq_true_iff.mp h2.2 with u | u
  · rcases Bool.or_eq_true_iff.mp u with v | v
    · exact Or.inl v
    · exact Or.inr (Or.inl (Bool.and_eq_true_iff.mp v))
  · have v := Bool.and_eq_true_iff.mp u
    have w := Bool.and_eq_true_iff.mp v.1
    exact Or.inr (Or.inr ⟨by simpa using w.1, by simpa using w.2, v.2⟩)
