--deps: 9y.opreader
/-! THE THREE CALLS THAT MAY THROW RUN WITHOUT THE LAW'S OWN CALLS -/
def noX (P : List IR) : Bool := P.all fun q => !isCall q.2.1 || (match q.2.2.1 with
  | [y, _] => decide (y < 302) || decide (304 < y)
  | _ => true)
theorem run_same {c1 c2 : AC} {P : List IR} (hP : noX P = true) (hc : ∀ y a h, (y < 302 ∨ 304 < y) → c1 y a h = c2 y a h) : ∀ (n i : Nat) (L S : List Value) (h : AH), run c1 P n i L S h = run c2 P n i L S h
  | 0, _, _, _, _ => rfl
  | n + 1, i, L, S, h => by
    unfold run
    cases hq : P[i]? with
    | none => rfl
    | some q =>
      dsimp only
      by_cases h1 : isRet q.2.1 = true
      · rw [if_pos h1, if_pos h1]
      · rw [if_neg h1, if_neg h1]
        by_cases h2 : isCall q.2.1 = true
        · rw [if_pos h2, if_pos h2]
          have hm := List.all_eq_true.mp hP q (List.mem_of_getElem? hq)
          rw [h2] at hm
          cases ho : q.2.2.1 with
          | nil => rfl
          | cons y t =>
            cases t with
            | nil => rfl
            | cons k t =>
              cases t with
              | nil =>
                rw [ho] at hm
                have hy : y < 302 ∨ 304 < y := by simpa using hm
                dsimp only
                rw [hc y _ h hy]
                have : (fun z : Option Value × AH => run c1 P n (i + 1) L (z.1.toList ++ S.drop k) z.2) = fun z => run c2 P n (i + 1) L (z.1.toList ++ S.drop k) z.2 := by
                  funext z; exact run_same hP hc n _ _ _ _
                rw [this]
              | cons _ _ => rfl
        · rw [if_neg h2, if_neg h2]
          have : (fun z : AS => run c1 P n z.1 z.2.1 z.2.2.1 z.2.2.2) = fun z => run c2 P n z.1 z.2.1 z.2.2.1 z.2.2.2 := by
            funext z; exact run_same hP hc n _ _ _ _
          rw [this]
set_option maxRecDepth 100000 in
theorem noX_ML : (ML.all fun t => noX t.2.2.2.2.2.2) = true := by decide +kernel
theorem callD_same : ∀ (d n y : Nat) (a : List Value) (h : AH), (y < 302 ∨ 304 < y) → callD ML prX d n y a h = callD ML prm d n y a h
  | 0, _, _, _, _, _ => rfl
  | d + 1, n, y, a, h, hy => by
    unfold callD
    cases ht : ML[y]? with
    | some t =>
      dsimp only
      have hm := List.all_eq_true.mp noX_ML t (List.mem_of_getElem? ht)
      rw [run_same hm (callD_same d n)]
    | none =>
      dsimp only
      unfold prX
      split
      · omega
      · omega
      · omega
      · rfl
/-- what a throwing call does, from a run of its code -/
def thr (o : Nat) (Q : Option Value → AH → Prop) (r : Option Value) (h' : AH) : Prop := (∃ v : Int32, r = some (.int v) ∧ Q (some (.int 0)) (sJ h' o 0 v.toInt64)) ∨ (∃ v : Int64, r = some (.long v) ∧ Q (some (.int 0)) (sJ h' o 0 v)) ∨ (r = some .null ∧ Q (some (.int 1)) (mkC h' 12 0 6))
theorem xrun_of {d n m o : Nat} {P : List IR} {a : List Value} {h : AH} {z : Option Value × AH} {Q : Option Value → AH → Prop} (hP : noX P = true) (hr : run (callD ML prX d n) P n 0 (lcs m a) [] h = some z) (w : thr o Q z.1 z.2) : ∃ z', xrun d n P m a o h = some z' ∧ Q z'.1 z'.2 := by
  rw [run_same hP (callD_same d n)] at hr
  obtain ⟨r, h'⟩ := z
  unfold xrun
  rw [hr]
  rcases w with ⟨v, e, w⟩ | ⟨v, e, w⟩ | ⟨e, w⟩
  · have e' : r = some (.int v) := e
    subst e'
    exact ⟨_, rfl, w⟩
  · have e' : r = some (.long v) := e
    subst e'
    exact ⟨_, rfl, w⟩
  · have e' : r = some .null := e
    subst e'
    exact ⟨_, rfl, w⟩
section CLX
variable {d o : Nat} {a b c : Int32} {h : AH} {Q : Option Value → AH → Prop}
theorem Cl_xj (g : hK h 100 = 10 ∧ hK h o = 23 ∧ hN h o = 1) (w : Wp d P_xj 0 [.ref 100, .int a, .int b, .int c, .null] [] h (thr o Q)) : Cl (d + 1) 302 [.ref 100, .int a, .int b, .int c, .ref o] h Q := by
  obtain ⟨n, z, hr, hQ⟩ := w
  obtain ⟨z', e, hQ'⟩ := xrun_of (m := 5) (a := [.ref 100, .int a, .int b, .int c]) (by decide +kernel) hr hQ
  refine ⟨n, z', ?_, hQ'⟩
  unfold callD
  simp only [show ML[302]? = none from rfl]
  show guardo (decide (hK h 100 = 10 ∧ hK h o = 23 ∧ hN h o = 1)) (xrun d n P_xj 5 [.ref 100, .int a, .int b, .int c] o h) = _
  unfold guardo
  rw [if_pos (decide_eq_true g), e]
theorem Cl_xw (g : hK h 100 = 10 ∧ hK h o = 23 ∧ hN h o = 1) (w : Wp d P_xw 0 [.ref 100, .int a, .int b, .null, .null, .null, .null, .null, .null, .null, .null] [] h (thr o Q)) : Cl (d + 1) 303 [.ref 100, .int a, .int b, .ref o] h Q := by
  obtain ⟨n, z, hr, hQ⟩ := w
  obtain ⟨z', e, hQ'⟩ := xrun_of (m := 11) (a := [.ref 100, .int a, .int b]) (by decide +kernel) hr hQ
  refine ⟨n, z', ?_, hQ'⟩
  unfold callD
  simp only [show ML[303]? = none from rfl]
  show guardo (decide (hK h 100 = 10 ∧ hK h o = 23 ∧ hN h o = 1)) (xrun d n P_xw 11 [.ref 100, .int a, .int b] o h) = _
  unfold guardo
  rw [if_pos (decide_eq_true g), e]
theorem Cl_xl (g : hK h 100 = 10 ∧ hK h o = 23 ∧ hN h o = 1) (w : Wp d P_xl 0 [.ref 100, .int a, .null, .null, .null, .null, .null, .null] [] h (thr o Q)) : Cl (d + 1) 304 [.ref 100, .int a, .ref o] h Q := by
  obtain ⟨n, z, hr, hQ⟩ := w
  obtain ⟨z', e, hQ'⟩ := xrun_of (m := 8) (a := [.ref 100, .int a]) (by decide +kernel) hr hQ
  refine ⟨n, z', ?_, hQ'⟩
  unfold callD
  simp only [show ML[304]? = none from rfl]
  show guardo (decide (hK h 100 = 10 ∧ hK h o = 23 ∧ hN h o = 1)) (xrun d n P_xl 8 [.ref 100, .int a] o h) = _
  unfold guardo
  rw [if_pos (decide_eq_true g), e]
end CLX
