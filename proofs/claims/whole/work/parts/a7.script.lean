--deps: a4.xrun
/-! NO CALL CHANGES THE SCRIPT -/
def K44 (h h' : AH) : Prop := 2 ≤ hz h → hK h 1 = 44 → hK h' 1 = 44 ∧ hN h' 1 = hN h 1 ∧ hI h' 1 = hI h 1
theorem K44.rf {h : AH} : K44 h h := fun _ a => ⟨a, rfl, rfl⟩
theorem K44.tr {h h1 h2 : AH} (z : hz h ≤ hz h1) (a : K44 h h1) (b : K44 h1 h2) : K44 h h2 := fun p q => by
  obtain ⟨a1, a2, a3⟩ := a p q
  obtain ⟨b1, b2, b3⟩ := b (Nat.le_trans p z) a1
  exact ⟨b1, b2.trans a2, b3.trans a3⟩
theorem K44.sI' {h : AH} {a j : Nat} {v : Int32} (k : ¬ hK h a = 44) : K44 h (sI h a j v) := fun p q => by
  refine ⟨q, rfl, ?_⟩
  funext y
  show (if 1 = a then _ else _) = _
  have e : ¬ 1 = a := fun z => k (by rw [← z]; exact q)
  rw [if_neg e]
  rfl
theorem K44.mk {h : AH} {k n u : Nat} : K44 h (mkC h k n u) := fun p q => by
  have e : ¬ 1 = hz h := by omega
  refine ⟨?_, ?_, ?_⟩
  · show (if 1 = hz h then k else hK h 1) = 44
    rw [if_neg e]; exact q
  · show (if 1 = hz h then n else hN h 1) = _
    rw [if_neg e]
  · show (if 1 = hz h then _ else hI h 1) = _
    rw [if_neg e]
theorem fdk44 (k : Nat) : fdk 44 k = 9 := by
  unfold fdk
  rw [show fdT.getD 44 [] = [] from by decide +kernel]
  rfl
theorem and_l' {a b : Bool} (h : (a && b) = true) : a = true := by cases a <;> simp_all
theorem k44_pf {h : AH} {a c k : Nat} {v : Int32} (g : (decide (hK h a = c) && (decide (fdk c k = 0) || decide (fdk c k = 1) && i01 v)) = true) : ¬ hK h a = 44 := by
  intro e
  have h1 := of_decide_eq_true (Bool.and_eq_true_iff.mp g).1
  have h2 := (Bool.and_eq_true_iff.mp g).2
  rw [e] at h1
  subst h1
  rw [fdk44] at h2
  simp at h2
theorem k44_k {h : AH} {a n : Nat} {b : Bool} (hn : n ≠ 44) (g : (decide (hK h a = n) && b) = true) : ¬ hK h a = 44 := by
  intro e
  have h1 := of_decide_eq_true (Bool.and_eq_true_iff.mp g).1
  exact hn (h1.symm.trans e)
theorem k44_k2 {h : AH} {a n : Nat} {b b' : Bool} (hn : n ≠ 44) (g : (decide (hK h a = n) && b && b') = true) : ¬ hK h a = 44 := k44_k hn (Bool.and_eq_true_iff.mp g).1
theorem stp_k44 {x : Instr} {o : List Nat} {i : Nat} {L S : List Value} {h : AH} {z : AS} (q : stp x o i L S h = some z) : K44 h z.2.2.2 := by
  cases x <;> simp only [stp, ldI, ldJ, ldA, stI, stJ, stA, biI, biJ, biS, aldI, guardo] at q <;> (repeat' split at q) <;>
    first | (cases q; done) | (cases q; exact K44.rf) | (cases q; exact K44.mk) | (cases q; exact K44.sI' (k44_pf (by assumption))) | (cases q; exact K44.sI' (k44_k (n := 20) (by decide) (by assumption))) | (cases q; exact K44.sI' (k44_k (n := 21) (by decide) (by assumption))) | (cases q; exact K44.sI' (k44_k2 (n := 22) (by decide) (by assumption)))
theorem prm_k44 {d n y : Nat} {a : List Value} {h : AH} {z : Option Value × AH} (q : prm d n y a h = some z) : K44 h z.2 := by
  unfold prm at q
  split at q
  · obtain ⟨g, q2⟩ := guardo_some q
    have g := of_decide_eq_true g
    cases q2
    intro p e
    refine ⟨e, rfl, ?_⟩
    funext y
    show (if 1 = _ then _ else _) = _
    rw [if_neg (fun w => by have := g.2.2.2.2.1; rw [← w, e] at this; cases this)]
    rfl
  · obtain ⟨-, q2⟩ := guardo_some q; cases q2; exact K44.rf
  · cases q; exact K44.rf
  · cases q; exact K44.rf
  · cases q; exact K44.rf
  · cases q
theorem run_k44 {call : AC} (hg : ∀ y a h z, call y a h = some z → hz h ≤ hz z.2 ∧ hu h ≤ hu z.2) (hc : ∀ y a h z, call y a h = some z → K44 h z.2) {P : List IR} : ∀ (n i : Nat) (L S : List Value) (h : AH) (z : Option Value × AH), run call P n i L S h = some z → K44 h z.2
  | 0, i, L, S, h, z, q => by cases q
  | n + 1, i, L, S, h, z, q => by
    unfold run at q
    split at q
    · cases q
    · rename_i r hr
      split at q
      · cases hv : retv r.2.1 S with
        | none => rw [hv] at q; cases q
        | some v => rw [hv] at q; cases q; exact K44.rf
      · split at q
        · split at q
          · obtain ⟨-, q2⟩ := guardo_some q
            obtain ⟨w, q3, q4⟩ := Option.bind_eq_some_iff.mp q2
            exact K44.tr (hg _ _ _ _ q3).1 (hc _ _ _ _ q3) (run_k44 hg hc n _ _ _ _ _ q4)
          · cases q
        · obtain ⟨w, q3, q4⟩ := Option.bind_eq_some_iff.mp q
          exact K44.tr (stp_grow q3).1 (stp_k44 q3) (run_k44 hg hc n _ _ _ _ _ q4)
theorem callD_k44 {ML : List MDt} {pr : Nat → Nat → AC} (hp : ∀ d n y a h z, pr d n y a h = some z → hz h ≤ hz z.2 ∧ hu h ≤ hu z.2) (hk : ∀ d n y a h z, pr d n y a h = some z → K44 h z.2) : ∀ (d n y : Nat) (a : List Value) (h : AH) (z : Option Value × AH), callD ML pr d n y a h = some z → K44 h z.2
  | 0, n, y, a, h, z, q => by cases q
  | d + 1, n, y, a, h, z, q => by
    unfold callD at q
    split at q
    · obtain ⟨-, q2⟩ := guardo_some q
      obtain ⟨w, q3, q4⟩ := Option.bind_eq_some_iff.mp q2
      obtain ⟨-, q5⟩ := guardo_some q4
      cases q5
      exact run_k44 (fun y a h z => callD_grow hp d n y a h z) (fun y a h z => callD_k44 hp hk d n y a h z) _ _ _ _ _ _ q3
    · exact hk _ _ _ _ _ _ q
theorem xrun_k44 {d n : Nat} {P : List IR} {m : Nat} {a : List Value} {o : Nat} {h : AH} {z : Option Value × AH} (q : xrun d n P m a o h = some z) : K44 h z.2 := by
  unfold xrun at q
  have hg := run_grow (callD_grow (ML := ML) (pr := prm) (fun _ _ _ _ _ _ => prm_grow) d n) (P := P) n 0 (lcs m a) [] h
  have hk := run_k44 (callD_grow (ML := ML) (pr := prm) (fun _ _ _ _ _ _ => prm_grow) d n) (callD_k44 (ML := ML) (pr := prm) (fun _ _ _ _ _ _ => prm_grow) (fun _ _ _ _ _ _ => prm_k44) d n) (P := P) n 0 (lcs m a) [] h
  split at q
  · rename_i v h' hr; cases q; have := hk _ hr; exact this
  · rename_i v h' hr; cases q; have := hk _ hr; exact this
  · rename_i h' hr; cases q
    exact K44.tr (hg _ hr).1 (hk _ hr) K44.mk
  · cases q
theorem xrun_gro {d n : Nat} {P : List IR} {m : Nat} {a : List Value} {o : Nat} {h : AH} {z : Option Value × AH} (q : xrun d n P m a o h = some z) : hz h ≤ hz z.2 ∧ hu h ≤ hu z.2 := by
  unfold xrun at q
  have hg := run_grow (callD_grow (ML := ML) (pr := prm) (fun _ _ _ _ _ _ => prm_grow) d n) (P := P) n 0 (lcs m a) [] h
  split at q
  · rename_i v h' hr; cases q; have := hg _ hr; exact this
  · rename_i v h' hr; cases q; have := hg _ hr; exact this
  · rename_i h' hr; cases q
    have := hg _ hr
    exact ⟨Nat.le_trans this.1 (Nat.le_succ _), Nat.le_trans this.2 (Nat.le_add_right _ _)⟩
  · cases q
theorem prX_gro : ∀ d n y a h z, prX d n y a h = some z → hz h ≤ hz z.2 ∧ hu h ≤ hu z.2 := by
  intro d n y a h z q
  unfold prX at q
  split at q
  · exact xrun_gro (guardo_some q).2
  · exact xrun_gro (guardo_some q).2
  · exact xrun_gro (guardo_some q).2
  · exact prm_grow q
theorem prX_k44 : ∀ d n y a h z, prX d n y a h = some z → K44 h z.2 := by
  intro d n y a h z q
  unfold prX at q
  split at q
  · exact xrun_k44 (guardo_some q).2
  · exact xrun_k44 (guardo_some q).2
  · exact xrun_k44 (guardo_some q).2
  · exact prm_k44 q
theorem Cl.k44 {d y : Nat} {a : List Value} {h : AH} {Q : Option Value → AH → Prop} (q : Cl d y a h Q) (h1 : 2 ≤ hz h) (h2 : hK h 1 = 44) : Cl d y a h (fun r h' => Q r h' ∧ hK h' 1 = 44 ∧ hN h' 1 = hN h 1 ∧ hI h' 1 = hI h 1) := by
  obtain ⟨n, z, e, w⟩ := q
  exact ⟨n, z, e, w, callD_k44 prX_gro prX_k44 _ _ _ _ _ _ e h1 h2⟩
