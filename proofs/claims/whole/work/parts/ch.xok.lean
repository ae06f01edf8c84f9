--deps: c0.ok a4.xrun
/-! THE CODE OF THE THREE METHODS STANDS AS IT MUST, UP TO ITS THROWS -/
def pckn (cc : ByteArray) (own : Nat) (ini : Bool) (P : List IR) (i : Nat) : Bool := match P[i]? with
  | some q => (decide (q.2.1 = .nop) || decide (decode cc q.1 = .ok (q.2.1, ilen q.2.1 q.1))) && (isRet q.2.1 || isCall q.2.1 && cck ML own P i q || !isRet q.2.1 && !isCall q.2.1 && ick own ini P i q)
  | none => true
theorem POK_n {cc : ByteArray} {own : Nat} {ini : Bool} {P : List IR} (h : (List.range P.length).all (pckn cc own ini P) = true) : POK ML cc own ini P := by
  intro i q hq
  have h1 := List.all_eq_true.mp h i (List.mem_range.mpr (List.getElem?_eq_some_iff.mp hq).1)
  unfold pckn at h1
  rw [hq] at h1
  have h2 := Bool.and_eq_true_iff.mp h1
  refine ⟨?_, ?_⟩
  · rcases Bool.or_eq_true_iff.mp h2.1 with u | u
    · exact Or.inl (of_decide_eq_true u)
    · exact Or.inr (of_decide_eq_true u)
  · rcases Bool.or_eq_true_iff.mp h2.2 with u | u
    · rcases Bool.or_eq_true_iff.mp u with v | v
      · exact Or.inl v
      · exact Or.inr (Or.inl (Bool.and_eq_true_iff.mp v))
    · have v := Bool.and_eq_true_iff.mp u
      have w := Bool.and_eq_true_iff.mp v.1
      exact Or.inr (Or.inr ⟨by simpa using w.1, by simpa using w.2, v.2⟩)
set_option maxRecDepth 100000 in
theorem pok_xj : POK ML prog_1_method_10_code 10 false P_xj := POK_n (by decide +kernel)
set_option maxRecDepth 100000 in
theorem pok_xw : POK ML prog_1_method_23_code 10 false P_xw := POK_n (by decide +kernel)
set_option maxRecDepth 100000 in
theorem pok_xl : POK ML prog_1_method_25_code 10 false P_xl := POK_n (by decide +kernel)
