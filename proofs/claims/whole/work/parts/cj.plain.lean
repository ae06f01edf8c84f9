--deps: ci.wmet
/-! A STRETCH OF PLAIN INSTRUCTIONS -/
def prun (P : List IR) : Nat → AS → Option AS
  | 0, z => some z
  | k + 1, z => match P[z.1]? with
    | some q => if isRet q.2.1 = true ∨ isCall q.2.1 = true then none else (stp q.2.1 q.2.2.1 z.1 z.2.1 z.2.2.1 z.2.2.2).bind (prun P k)
    | none => none
/-- every instruction stands as it must; of calls nothing is said -/
def PLN' (cc : ByteArray) (own : Nat) (P : List IR) : Prop := ∀ (i : Nat) (q : IR), P[i]? = some q → decode cc q.1 = .ok (q.2.1, ilen q.2.1 q.1) ∧ (isRet q.2.1 = true ∨ isCall q.2.1 = true ∨ ick own false P i q = true)
def plnB (cc : ByteArray) (own : Nat) (P : List IR) : Bool := (List.range P.length).all fun i => match P[i]? with
  | some q => decide (decode cc q.1 = .ok (q.2.1, ilen q.2.1 q.1)) && (isRet q.2.1 || isCall q.2.1 || ick own false P i q)
  | none => true
theorem PLN'.of {cc : ByteArray} {own : Nat} {P : List IR} (h : plnB cc own P = true) : PLN' cc own P := by
  intro i q hq
  have h1 := List.all_eq_true.mp h i (List.mem_range.mpr (List.getElem?_eq_some_iff.mp hq).1)
  simp only [hq, Bool.and_eq_true, Bool.or_eq_true, decide_eq_true_eq] at h1
  refine ⟨h1.1, ?_⟩
  rcases h1.2 with (u | u) | u
  · exact Or.inl u
  · exact Or.inr (Or.inl u)
  · exact Or.inr (Or.inr u)
theorem prun_grow {P : List IR} : ∀ {k : Nat} {z0 z : AS}, prun P k z0 = some z → hz z0.2.2.2 ≤ hz z.2.2.2 ∧ hu z0.2.2.2 ≤ hu z.2.2.2
  | 0, z0, z, e => by cases e; exact ⟨Nat.le_refl _, Nat.le_refl _⟩
  | k + 1, z0, z, e => by
    unfold prun at e
    split at e
    · split at e
      · cases e
      · obtain ⟨w, e1, e2⟩ := Option.bind_eq_some_iff.mp e
        have g1 := stp_grow e1
        have g2 := prun_grow e2
        exact ⟨Nat.le_trans g1.1 g2.1, Nat.le_trans g1.2 g2.2⟩
    · cases e
section PL
variable {p : Program} {l : Launch} {e : Env} {R : Room} {s : State} {m : MethodId} {args : Array Value} {below : List Frame} {meth : Method} {c : Code} {Q : State → Prop} {cc : ByteArray} {nL own : Nat} {g : GG} {hs : AH} {P : List IR}
theorem sim_plain (C : CX p s m args c cc nL own g hs) (hP : PLN' cc own P) : ∀ (k : Nat) (z0 z : AS) (H : Heap) (ls : Array Slot) (locs : List Loc) (cells slots : Nat), prun P k z0 = some z → LR g z0.2.1 nL ls → RW g hs z0.2.2.2 H → va_S (AA g) s.heap H locs → cells + (hz z.2.2.2 - hz z0.2.2.2) ≤ R.cells ∧ slots + (hu z.2.2.2 - hu z0.2.2.2) ≤ R.slots →
    (∀ (H' : Heap) (ls' : Array Slot) (locs' : List Loc), LR g z.2.1 nL ls' → RW g hs z.2.2.2 H' → va_S (AA g) s.heap H' locs' → W p l e R s m args below meth c H' locs' (cells + (hz z.2.2.2 - hz z0.2.2.2)) (slots + (hu z.2.2.2 - hu z0.2.2.2)) Q (F0 m (pcOf P z.1) ls' (z.2.2.1.map (ph g)))) →
    W p l e R s m args below meth c H locs cells slots Q (F0 m (pcOf P z0.1) ls (z0.2.2.1.map (ph g)))
  | 0, z0, z, H, ls, locs, cells, slots, hr, hL, hW, hS, hroom, K => by
    cases hr
    have := K H ls locs hL hW hS
    simp only [Nat.sub_self, Nat.add_zero] at this
    exact this
  | k + 1, z0, z, H, ls, locs, cells, slots, hr, hL, hW, hS, hroom, K => by
    unfold prun at hr
    split at hr
    · rename_i q hq
      split at hr
      · cases hr
      · rename_i hn
        obtain ⟨w, e1, e2⟩ := Option.bind_eq_some_iff.mp hr
        have g1 := stp_grow e1
        have g2 := prun_grow e2
        obtain ⟨d1, d2⟩ := hP z0.1 q hq
        have d3 : ick own false P z0.1 q = true := by
          rcases d2 with u | u | u
          · exact absurd (Or.inl u) hn
          · exact absurd (Or.inr u) hn
          · exact u
        rw [pcOf_at hq]
        refine sim_step (ini := false) C d1 d3 (fun q => by cases q) hL hW hS e1 (by omega) ?_
        intro ls' H' locs' hL' hW' hS'
        refine sim_plain C hP k w z H' ls' locs' _ _ e2 hL' hW' hS' (by omega) ?_
        intro H2 ls2 locs2 a1 a2 a3
        have := K H2 ls2 locs2 a1 a2 a3
        rw [show cells + (hz w.2.2.2 - hz z0.2.2.2) + (hz z.2.2.2 - hz w.2.2.2) = cells + (hz z.2.2.2 - hz z0.2.2.2) by omega, show slots + (hu w.2.2.2 - hu z0.2.2.2) + (hu z.2.2.2 - hu w.2.2.2) = slots + (hu z.2.2.2 - hu z0.2.2.2) by omega]
        exact this
    · cases hr
end PL
/-! the code of the three wrappers -/
def P_vj : List IR := [(0, .aload 4, [], 0), (2, .iconst 0, [], 0), (3, .aload_n 0, [], 0), (4, .iload_n 1, [], 0), (5, .iload_n 2, [], 0), (6, .iload_n 3, [], 0), (7, .invokevirtual 7, [309, 4], 0), (10, .i2l, [], 0), (11, .lastore, [], 0), (12, .goto 7, [13], 0), (15, .astore 5, [], 0), (17, .iconst 1, [], 0), (18, .ireturn, [], 0), (19, .iconst 0, [], 0), (20, .ireturn, [], 0)]
def P_vw : List IR := [(0, .aload_n 3, [], 0), (1, .iconst 0, [], 0), (2, .aload_n 0, [], 0), (3, .iload_n 1, [], 0), (4, .iload_n 2, [], 0), (5, .invokevirtual 15, [309, 3], 0), (8, .lastore, [], 0), (9, .goto 7, [11], 0), (12, .astore 4, [], 0), (14, .iconst 1, [], 0), (15, .ireturn, [], 0), (16, .iconst 0, [], 0), (17, .ireturn, [], 0)]
def P_vl : List IR := [(0, .aload_n 2, [], 0), (1, .iconst 0, [], 0), (2, .aload_n 0, [], 0), (3, .iload_n 1, [], 0), (4, .invokevirtual 19, [309, 2], 0), (7, .lastore, [], 0), (8, .goto 6, [10], 0), (11, .astore_n 3, [], 0), (12, .iconst 1, [], 0), (13, .ireturn, [], 0), (14, .iconst 0, [], 0), (15, .ireturn, [], 0)]
set_option maxRecDepth 100000 in
theorem pln_vj : PLN' method_3_code 13 P_vj := PLN'.of (by decide +kernel)
set_option maxRecDepth 100000 in
theorem pln_vw : PLN' method_4_code 13 P_vw := PLN'.of (by decide +kernel)
set_option maxRecDepth 100000 in
theorem pln_vl : PLN' method_5_code 13 P_vl := PLN'.of (by decide +kernel)
