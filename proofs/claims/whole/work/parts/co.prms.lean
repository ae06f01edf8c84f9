--deps: cn.scall a7.script
/-! THE LAW'S CALLS AT ITS OWN STATE, BUT FOR THE THROWS -/
theorem run_end {call : AC} {P : List IR} : ∀ (n i : Nat) (L S : List Value) (h : AH) (z : Option Value × AH), run call P n i L S h = some z → ∃ (j : Nat) (q : IR) (S' : List Value), P[j]? = some q ∧ isRet q.2.1 = true ∧ retv q.2.1 S' = some z.1
  | 0, i, L, S, h, z, q => by cases q
  | n + 1, i, L, S, h, z, q => by
    unfold run at q
    split at q
    · cases q
    · rename_i r hr
      split at q
      · rename_i h1
        cases hv : retv r.2.1 S with
        | none => rw [hv] at q; cases q
        | some v => rw [hv] at q; cases q; exact ⟨i, r, S, hr, h1, hv⟩
      · split at q
        · split at q
          · obtain ⟨-, q2⟩ := guardo_some q
            obtain ⟨w, -, q4⟩ := Option.bind_eq_some_iff.mp q2
            exact run_end n _ _ _ _ _ q4
          · cases q
        · obtain ⟨w, -, q4⟩ := Option.bind_eq_some_iff.mp q
          exact run_end n _ _ _ _ _ q4
def noL (P : List IR) (x : Instr) : Bool := P.all fun q => decide (q.2.1 ≠ x)
theorem noL_at {P : List IR} {x : Instr} (h : noL P x = true) {j : Nat} {q : IR} (hq : P[j]? = some q) : q.2.1 ≠ x := of_decide_eq_true (List.all_eq_true.mp h q (List.mem_of_getElem? hq))
/-- what a throwing call of the law came to -/
theorem xrun_inv {d n m o : Nat} {P : List IR} {a : List Value} {h : AH} {w : Option Value × AH} (q : xrun d n P m a o h = some w) : (∃ v h', run (callD ML prm d n) P n 0 (lcs m a) [] h = some (some (.int v), h') ∧ w = (some (.int 0), sJ h' o 0 v.toInt64)) ∨ (∃ v h', run (callD ML prm d n) P n 0 (lcs m a) [] h = some (some (.long v), h') ∧ w = (some (.int 0), sJ h' o 0 v)) ∨ ∃ h', run (callD ML prm d n) P n 0 (lcs m a) [] h = some (some .null, h') ∧ w = (some (.int 1), mkC h' 12 0 6) := by
  unfold xrun at q
  split at q
  · rename_i v h' hr; exact Or.inl ⟨v, h', hr, (Option.some.inj q).symm⟩
  · rename_i v h' hr; exact Or.inr (Or.inl ⟨v, h', hr, (Option.some.inj q).symm⟩)
  · rename_i h' hr; exact Or.inr (Or.inr ⟨h', hr, (Option.some.inj q).symm⟩)
  · cases q
theorem no_long {d n : Nat} {P : List IR} {L : List Value} {h h' : AH} {v : Int64} (hP : noL P .lreturn = true) (q : run (callD ML prm d n) P n 0 L [] h = some (some (.long v), h')) : False := by
  obtain ⟨j, r, S', h1, h2, h3⟩ := run_end _ _ _ _ _ _ q
  exact noL_at hP h1 (ret_long h2 h3).1
theorem no_int {d n : Nat} {P : List IR} {L : List Value} {h h' : AH} {v : Int32} (hP : noL P .ireturn = true) (q : run (callD ML prm d n) P n 0 L [] h = some (some (.int v), h')) : False := by
  obtain ⟨j, r, S', h1, h2, h3⟩ := run_end _ _ _ _ _ _ q
  exact noL_at hP h1 (ret_int h2 h3).1
/-- what is still owed: a wrapper's contract where the method throws; d + 9: the room that a throw wants -/
def THR1 (l : Launch) (g : GG) (hs : AH) (s : State) (y : MethodName) (cy : ByteArray) (maxL : Nat) (tb : List (Nat × Nat × Nat × Nat)) (P : List IR) (mL ka : Nat) : Prop :=
  ∀ (d n x o : Nat) (a : List Value) (h h' : AH), run (callD ML prm d n) P n 0 (lcs mL (.ref x :: a)) [] h = some (some .null, h') → (∀ v ∈ a, ∃ k, v = .int k) → a.length = ka → hK h x = 10 → hK h o = 23 → hN h o = 1 →
    ∃ Pc : Array Value → State → Prop, FrameBlind Pc ∧ (∀ (H : Heap) (locs : List Loc), RW g hs h H → va_S (AA g) s.heap H locs → ∀ U : State, U.heap = H → s.WarmedH U.vm → Pc (((Value.ref x :: a) ++ [Value.ref o]).map (ph g)).toArray U) ∧
      Met l y [.codeWith y cy maxL (some .int) tb] (rmD (d + 9 + 2) (hz (mkC h' 12 0 6) - hz h) (hu (mkC h' 12 0 6) - hu h)) Pc (QcA g hs (some (.int 1), mkC h' 12 0 6)) (hz (mkC h' 12 0 6) - hz h) (hu (mkC h' 12 0 6) - hu h) (AA g)
def THR (l : Launch) (g : GG) (hs : AH) (s : State) : Prop := THR1 l g hs s yLj method_3_code 6 [(0, 12, 15, 13)] P_xj 5 3 ∧ THR1 l g hs s yLw method_4_code 5 [(0, 9, 12, 13)] P_xw 11 2 ∧ THR1 l g hs s yLl method_5_code 4 [(0, 8, 11, 13)] P_xl 8 1
set_option maxRecDepth 100000 in
theorem lw_words : (Cond.static yLj ∈ AW ∧ Cond.codeWith yLj method_3_code 6 (some .int) [(0, 12, 15, 13)] ∈ AW) ∧ (Cond.static yLw ∈ AW ∧ Cond.codeWith yLw method_4_code 5 (some .int) [(0, 9, 12, 13)] ∈ AW) ∧ (Cond.static yLl ∈ AW ∧ Cond.codeWith yLl method_5_code 4 (some .int) [(0, 8, 11, 13)] ∈ AW) ∧ Cond.initialized "PenThatJumpsLaw" ∈ AW := by decide +kernel
theorem EV_pc {p : Program} {s : State} {m : MethodId} {args : Array Value} {c : Code} {cc : ByteArray} {nL own : Nat} {g : GG} {hs h : AH} {H : Heap} {locs : List Loc} (C : CX p s m args c cc nL own g hs) (hW : RW g hs h H) (hS : va_S (AA g) s.heap H locs) (a : List Value) : ∀ U : State, U.heap = H → s.WarmedH U.vm → PcA g hs a h (a.map (ph g)).toArray U := (pre_S C hW hS a).2
theorem prX302_inv {d n : Nat} {A : List Value} {h : AH} {w : Option Value × AH} (q : prX d n 302 A h = some w) : ∃ x a b c o, A = [.ref x, .int a, .int b, .int c, .ref o] ∧ (hK h x = 10 ∧ hK h o = 23 ∧ hN h o = 1) ∧ xrun d n P_xj 5 [.ref x, .int a, .int b, .int c] o h = some w := by
  unfold prX at q
  split at q
  · obtain ⟨g1, g2⟩ := guardo_some q
    exact ⟨_, _, _, _, _, rfl, of_decide_eq_true g1, g2⟩
  · rename_i e _; omega
  · rename_i e _; omega
  · have := prm_none q; omega
theorem prX303_inv {d n : Nat} {A : List Value} {h : AH} {w : Option Value × AH} (q : prX d n 303 A h = some w) : ∃ x a b o, A = [.ref x, .int a, .int b, .ref o] ∧ (hK h x = 10 ∧ hK h o = 23 ∧ hN h o = 1) ∧ xrun d n P_xw 11 [.ref x, .int a, .int b] o h = some w := by
  unfold prX at q
  split at q
  · rename_i e _; omega
  · obtain ⟨g1, g2⟩ := guardo_some q
    exact ⟨_, _, _, _, rfl, of_decide_eq_true g1, g2⟩
  · rename_i e _; omega
  · have := prm_none q; omega
theorem prX304_inv {d n : Nat} {A : List Value} {h : AH} {w : Option Value × AH} (q : prX d n 304 A h = some w) : ∃ x a o, A = [.ref x, .int a, .ref o] ∧ (hK h x = 10 ∧ hK h o = 23 ∧ hN h o = 1) ∧ xrun d n P_xl 8 [.ref x, .int a] o h = some w := by
  unfold prX at q
  split at q
  · rename_i e _; omega
  · rename_i e _; omega
  · obtain ⟨g1, g2⟩ := guardo_some q
    exact ⟨_, _, _, rfl, of_decide_eq_true g1, g2⟩
  · have := prm_none q; omega
theorem prX_else {d n y : Nat} {A : List Value} {h : AH} (hy : y < 302 ∨ 304 < y) : prX d n y A h = prm d n y A h := by
  unfold prX
  split
  · omega
  · omega
  · omega
  · rfl
theorem take_rev {k : Nat} {S A : List Value} (e : (S.take k).reverse = A) : S = A.reverse ++ S.drop k := by
  rw [← e, List.reverse_reverse, List.take_append_drop]
/-- the law's calls, if the wrappers keep their contracts where a method throws -/
theorem prms_X {l : Launch} {g : GG} {hs : AH} {s : State} (T : THR l g hs s) : PRMS l ML prX g hs 12 s := by
  intro p e R m args below meth c Q cc nL own P i L S h H ls locs cells slots d nn q y k w C hd hcall ho hck ht hR hL hW hS hkl hcat hc1 hroom next
  by_cases hy : y < 302 ∨ 304 < y
  · rw [prX_else hy] at hc1
    exact prm_rule p e R s m args below meth c Q cc nL own P i L S h H ls locs cells slots d nn q y k w C hd hcall ho hck ht ⟨by omega, by omega⟩ hL hW hS hkl hcat hc1 hroom next
  · obtain ⟨pc, x, o, wd⟩ := q
    dsimp only at ho hcall hd ⊢
    subst ho
    have hck := Bool.and_eq_true_iff.mp hck
    have hp : pcOf P (i + 1) = pc + 3 := of_decide_eq_true hck.1
    have hck2 := hck.2
    cases x with
    | invokevirtual f => simp only [ht] at hck2; cases hck2
    | invokespecial f =>
      simp only [ht] at hck2
      have u1 := Bool.and_eq_true_iff.mp hck2
      have e1 : y = 301 := of_decide_eq_true (Bool.and_eq_true_iff.mp u1.1).1
      omega
    | invokestatic f =>
      simp only [ht] at hck2
      obtain ⟨t, htm, hck3⟩ := List.any_eq_true.mp hck2
      have u1 := Bool.and_eq_true_iff.mp hck3
      have u2 := Bool.and_eq_true_iff.mp u1.1
      have e1 : t.1 = y := of_decide_eq_true u2.1
      have e2 : t.2.1 = k := of_decide_eq_true u2.2
      have hlk := wat_AW u1.2 rfl
      rw [hp] at next
      simp only [prT, List.mem_cons, List.mem_nil_iff, or_false] at htm
      rcases htm with rfl | rfl | rfl | rfl | rfl | rfl | rfl
      · dsimp only at e1; omega
      · dsimp only at e1; omega
      · dsimp only at e1; omega
      · dsimp only at e1; omega
      · dsimp only at e1 e2 hlk
        subst e1; subst e2
        have lw : LW own f yLj method_3_code 6 [(0, 12, 15, 13)] 5 := ⟨hlk, lw_words.1.1, lw_words.1.2, lw_words.2.2.2, by decide, by decide +kernel, by decide⟩
        obtain ⟨x, a, b, c', o, eA, ⟨k1, k2, k3⟩, hx⟩ := prX302_inv hc1
        rw [take_rev eA]
        rcases xrun_inv hx with ⟨v, h', hr, rfl⟩ | ⟨v, h', hr, rfl⟩ | ⟨h', hr, rfl⟩
        · exact s_call (d := d) (n := 5) (a := [.ref x, .int a, .int b, .int c', .ref o]) (S := S.drop 5) (z := (some (.int 0), sJ h' o 0 v.toInt64)) C hd lw ⟨by omega, by omega⟩ hL.2.1 hS rfl hcat PcA.blind (EV_pc C hW hS _) (v_ret_j hr k1 k2 k3) hroom next
        · exact (no_long (by decide +kernel) hr).elim
        · obtain ⟨Pc, b1, b2, b3⟩ := T.1 d nn x o [.int a, .int b, .int c'] h h' hr (by simp) rfl k1 k2 k3
          exact s_call (d := d + 9) (n := 5) (a := [.ref x, .int a, .int b, .int c', .ref o]) (S := S.drop 5) (z := (some (.int 1), mkC h' 12 0 6)) C hd lw ⟨by omega, by omega⟩ hL.2.1 hS rfl hcat b1 (b2 H locs hW hS) b3 hroom next
      · dsimp only at e1 e2 hlk
        subst e1; subst e2
        have lw : LW own f yLw method_4_code 5 [(0, 9, 12, 13)] 4 := ⟨hlk, lw_words.2.1.1, lw_words.2.1.2, lw_words.2.2.2, by decide, by decide +kernel, by decide⟩
        obtain ⟨x, a, b, o, eA, ⟨k1, k2, k3⟩, hx⟩ := prX303_inv hc1
        rw [take_rev eA]
        rcases xrun_inv hx with ⟨v, h', hr, rfl⟩ | ⟨v, h', hr, rfl⟩ | ⟨h', hr, rfl⟩
        · exact (no_int (by decide +kernel) hr).elim
        · exact s_call (d := d) (n := 4) (a := [.ref x, .int a, .int b, .ref o]) (S := S.drop 4) (z := (some (.int 0), sJ h' o 0 v)) C hd lw ⟨by omega, by omega⟩ hL.2.1 hS rfl hcat PcA.blind (EV_pc C hW hS _) (v_ret_w hr k1 k2 k3) hroom next
        · obtain ⟨Pc, b1, b2, b3⟩ := T.2.1 d nn x o [.int a, .int b] h h' hr (by simp) rfl k1 k2 k3
          exact s_call (d := d + 9) (n := 4) (a := [.ref x, .int a, .int b, .ref o]) (S := S.drop 4) (z := (some (.int 1), mkC h' 12 0 6)) C hd lw ⟨by omega, by omega⟩ hL.2.1 hS rfl hcat b1 (b2 H locs hW hS) b3 hroom next
      · dsimp only at e1 e2 hlk
        subst e1; subst e2
        have lw : LW own f yLl method_5_code 4 [(0, 8, 11, 13)] 3 := ⟨hlk, lw_words.2.2.1.1, lw_words.2.2.1.2, lw_words.2.2.2, by decide, by decide +kernel, by decide⟩
        obtain ⟨x, a, o, eA, ⟨k1, k2, k3⟩, hx⟩ := prX304_inv hc1
        rw [take_rev eA]
        rcases xrun_inv hx with ⟨v, h', hr, rfl⟩ | ⟨v, h', hr, rfl⟩ | ⟨h', hr, rfl⟩
        · exact (no_int (by decide +kernel) hr).elim
        · exact s_call (d := d) (n := 3) (a := [.ref x, .int a, .ref o]) (S := S.drop 3) (z := (some (.int 0), sJ h' o 0 v)) C hd lw ⟨by omega, by omega⟩ hL.2.1 hS rfl hcat PcA.blind (EV_pc C hW hS _) (v_ret_l hr k1 k2 k3) hroom next
        · obtain ⟨Pc, b1, b2, b3⟩ := T.2.2 d nn x o [.int a] h h' hr (by simp) rfl k1 k2 k3
          exact s_call (d := d + 9) (n := 3) (a := [.ref x, .int a, .ref o]) (S := S.drop 3) (z := (some (.int 1), mkC h' 12 0 6)) C hd lw ⟨by omega, by omega⟩ hL.2.1 hS rfl hcat b1 (b2 H locs hW hS) b3 hroom next
    | _ => cases hcall
