--deps: c8.words
/-- the small machine's heap at the start: the script, the words, their texts -/
theorem va_T.on {ty : FieldType} {t N : Nat} {f f' : Nat → Value} {A : Nat → Prop} {U : State} {H : Heap} (h : va_T ty t N f A U H) (e : ∀ j, j < N → f j = f' j) : va_T ty t N f' A U H := by
  obtain ⟨cell, h1, h2, h3, h4, h5, h6, h7⟩ := h
  exact ⟨cell, h1, h2, h3, h4, h5, fun j hj => by rw [← e j hj]; exact h6 j hj, h7⟩
set_option maxRecDepth 100000 in
theorem exc_ok : Cond.instantiable "java/util/NoSuchElementException" 6 ∈ lw_tbl := by decide +kernel
theorem byT_small : ∀ i, i < 24 → (byT.getD i []).length < 100 := by decide
theorem ref_of {v : Value} (h : v.isRef = true) : ∃ o : Option Nat, va_rf o = v := by
  cases v with
  | null => exact ⟨none, rfl⟩
  | ref a => exact ⟨some a, rfl⟩
  | _ => cases h
set_option maxHeartbeats 4000000 in
theorem start_ev {p : Program} {s : State} {m : MethodId} {meth : Method} {c : Code} {b L : Nat} {xs : Nat → Int32} (hL : L ≤ 4096) (C0 : lw_At p s m meth c b L xs) :
    ∃ g : GG, gb g = s.heap.size ∧ rq g 1 = some b ∧ va_K g.1 clT (tysT g) s ∧ ST g (h0 L xs) s ∧ RW g (h0 L xs) (h0 L xs) s.heap := by
  obtain ⟨hx, hb, hr, hml, hown, hts, hX, hbl, hlk, hgv⟩ := C0
  have hna : ∀ c ∈ NA, c.before #[Value.ref b] s = true := flat_of_before _ hgv
  have at_ : ∀ {k : Nat} {c : Cond}, NA[k]? = some c → c.before #[Value.ref b] s = true := fun h => hna _ (List.mem_of_getElem? h)
  have al : ∀ {n : Nat} {f : Nat → Bool}, (List.range n).all f = true → ∀ i, i < n → f i = true := fun h i hi => List.all_eq_true.mp h i (List.mem_range.mpr hi)
  obtain ⟨A, hAe⟩ : ∃ A : Nat → Prop, A = fun q => s.heap.size ≤ q := ⟨_, rfl⟩
  have hA : ∀ a : Nat, a < s.heap.size → ¬ A a := fun a h1 h2 => by rw [hAe] at h2; exact absurd h2 (Nat.not_le.mpr h1)
  -- the words
  have hw0 : ∀ i : Nat, ∃ t : Nat, i < 24 → (wdP i).eval #[Value.ref b] s none [] s = some (.ref t) := by
    intro i
    by_cases hi : i < 24
    · obtain ⟨a, c, cell, k, q1, -⟩ := Cond.exactly_spec (at_ (of_decide_eq_true (al na_ex i hi)))
      exact ⟨a, fun _ => q1⟩
    · exact ⟨0, fun h => absurd h hi⟩
  obtain ⟨wa, hwa⟩ := Classical.axiomOfChoice hw0
  have hwne : ∀ i j, i < 24 → j < 24 → wa i = wa j → i = j := by
    intro i j hi hj e
    have h1 := al (al na_ne i hi) j hj
    rcases Bool.or_eq_true_iff.mp h1 with h2 | h2
    · rcases Bool.or_eq_true_iff.mp h2 with h3 | h3
      · exact of_decide_eq_true h3
      · exact absurd e (va_neR (at_ (of_decide_eq_true h3)) (hwa i hi) (hwa j hj))
    · exact absurd e.symm (va_neR (at_ (of_decide_eq_true h2)) (hwa j hj) (hwa i hi))
  -- their texts
  have hs0 : ∀ i : Nat, ∃ t : Nat, i < 24 → (stT0 i).eval #[Value.ref b] s none [] s = some (.ref t) ∧ va_O "java/lang/String" t A s s.heap := by
    intro i
    by_cases hi : i < 24
    · have h1 := at_ (of_decide_eq_true (al na_sx i hi))
      obtain ⟨a, c, cell, k, q1, -⟩ := Cond.exactly_spec h1
      exact ⟨a, fun _ => ⟨q1, va_Oof h1 q1 hA⟩⟩
    · exact ⟨0, fun h => absurd h hi⟩
  obtain ⟨sd, hsd⟩ := Classical.axiomOfChoice hs0
  have hv0 : ∀ i : Nat, ∃ t : Nat, i < 24 → (svT i).eval #[Value.ref b] s none [] s = some (.ref t) ∧ va_T .byte t (byT.getD i []).length (fun j => .int ((byT.getD i []).getD j 0)) A s s.heap := by
    intro i
    by_cases hi : i < 24
    · obtain ⟨t, h1, h2⟩ := va_Tof (N := (byT.getD i []).length) (f := fun j => .int ((byT.getD i []).getD j 0)) (A := A) (Nat.lt_trans (byT_small i hi) (by decide)) (at_ (of_decide_eq_true (al na_sa i hi))) (va_eqt (at_ (of_decide_eq_true (al na_sl i hi)))) (fun j hj => va_eqt (at_ (of_decide_eq_true (al (al na_se i hi) j hj)))) hA
      exact ⟨t, fun _ => ⟨h1, h2⟩⟩
    · exact ⟨0, fun h => absurd h hi⟩
  obtain ⟨vd, hvd⟩ := Classical.axiomOfChoice hv0
  obtain ⟨ta, hta, hTA⟩ := va_Tof (N := 24) (f := fun j => .ref (wa j)) (A := A) (by decide) (at_ na_all.1) (va_eqt (at_ na_all.2.1)) (fun j hj => va_eqv (at_ (of_decide_eq_true (al na_el j hj))) (hwa j hj)) hA
  obtain ⟨fv, hfv, hfr⟩ := Cond.isRef_spec (at_ na_all.2.2.2)
  obtain ⟨fo, hfo⟩ := ref_of hfr
  -- the classes
  have hk0 : ∀ k : Nat, ∃ q : ClassId × (Nat → Nat), k < 13 → u_Kn s (clk k).1 (clk k).2.1 (clk k).2.2 q.1 q.2 := by
    intro k
    by_cases hk : k < 13
    · have hin : ∀ w ∈ u_ws (clk k).1 (clk k).2.1 (clk k).2.2, w ∈ lw_tbl := fun w hw => (List.mem_filter.mp (lay_in hk w hw)).1
      have hi : ∃ n, (Cond.instantiable (clk k).1 n).before #[Value.ref b] s = true := by
        by_cases hk2 : k < 12
        · exact ⟨_, hts _ (made_ok k hk2).1⟩
        · have : k = 12 := by omega
          subst this
          exact ⟨6, hts _ exc_ok⟩
      obtain ⟨n, hi⟩ := hi
      obtain ⟨cC, iS, h⟩ := u_known hts hin hi
      exact ⟨(cC, iS), fun _ => h⟩
    · exact ⟨(0, fun _ => 0), fun h => absurd h hk⟩
  obtain ⟨kq, hkq⟩ := Classical.axiomOfChoice hk0
  -- the arrays
  obtain ⟨c20, k20, p20, a20, b20, d20⟩ := Cond.arrayClass_spec (hts _ arr_ok.1)
  obtain ⟨c21, k21, p21, a21, b21, d21⟩ := Cond.arrayClass_spec (hts _ arr_ok.2.1)
  obtain ⟨c22, k22, p22, a22, b22, d22⟩ := Cond.arrayClass_spec (hts _ arr_ok.2.2.1)
  obtain ⟨c23, k23, p23, a23, b23, d23⟩ := Cond.arrayClass_spec (hts _ arr_ok.2.2.2)
  obtain ⟨p33, c33, k33, e33, -, b33, d33, a33⟩ := Cond.arrayOver_spec (hts _ (over_ok 3 (by decide)))
  obtain ⟨p34, c34, k34, e34, -, b34, d34, a34⟩ := Cond.arrayOver_spec (hts _ (over_ok 4 (by decide)))
  obtain ⟨p36, c36, k36, e36, -, b36, d36, a36⟩ := Cond.arrayOver_spec (hts _ (over_ok 6 (by decide)))
  obtain ⟨p37, c37, k37, e37, -, b37, d37, a37⟩ := Cond.arrayOver_spec (hts _ (over_ok 7 (by decide)))
  obtain ⟨p38, c38, k38, e38, -, b38, d38, a38⟩ := Cond.arrayOver_spec (hts _ (over_ok 8 (by decide)))
  refine ⟨((fun k => (kq k).1, fun k => (kq k).2), (fun k => if k = 20 then c20 else if k = 21 then c21 else if k = 22 then c22 else if k = 23 then c23 else if k = 33 then c33 else if k = 34 then c34 else if k = 36 then c36 else if k = 37 then c37 else c38), s.heap.size, (fun r => if r = 1 then some b else if 2 ≤ r ∧ r < 26 then some (wa (r - 2)) else if r = 26 then some ta else if 27 ≤ r ∧ r < 51 then some (sd (r - 27)) else if 51 ≤ r ∧ r < 75 then some (vd (r - 51)) else if r = 75 then fo else none)), rfl, rfl, ?_, ?_, ?_⟩
  · refine ⟨fun k q hq => ?_, fun k q hq => ?_⟩
    · have hk : k < 13 := (List.getElem?_eq_some_iff.mp hq).1
      have e : q = clk k := Option.some.inj (hq.symm.trans (clT_get hk))
      subst e
      exact hkq k hk
    · match k, hq with
      | 0, hq => cases hq; exact ⟨fun N z => ⟨fun k h => (by cases h), k20, b20, p20, d20⟩, a20⟩
      | 1, hq => cases hq; exact ⟨fun N z => ⟨fun k h => (by cases h), k21, b21, p21, d21⟩, a21⟩
      | 2, hq => cases hq; exact ⟨fun N z => ⟨fun k h => (by cases h), k22, b22, p22, d22⟩, a22⟩
      | 3, hq => cases hq; exact ⟨fun N z => ⟨fun k h => (by cases h), k23, b23, p23, d23⟩, a23⟩
      | 4, hq => cases hq; exact ⟨fun N z => ⟨fun k h => (by cases h), k33, b33, p33, d33⟩, k33, p33, b33, d33, e33, a33⟩
      | 5, hq => cases hq; exact ⟨fun N z => ⟨fun k h => (by cases h), k34, b34, p34, d34⟩, k34, p34, b34, d34, e34, a34⟩
      | 6, hq => cases hq; exact ⟨fun N z => ⟨fun k h => (by cases h), k36, b36, p36, d36⟩, k36, p36, b36, d36, e36, a36⟩
      | 7, hq => cases hq; exact ⟨fun N z => ⟨fun k h => (by cases h), k37, b37, p37, d37⟩, k37, p37, b37, d37, e37, a37⟩
      | 8, hq => cases hq; exact ⟨fun N z => ⟨fun k h => (by cases h), k38, b38, p38, d38⟩, k38, p38, b38, d38, e38, a38⟩
  · subst hAe
    generalize hg : (((fun k => (kq k).1, fun k => (kq k).2), (fun k => if k = 20 then c20 else if k = 21 then c21 else if k = 22 then c22 else if k = 23 then c23 else if k = 33 then c33 else if k = 34 then c34 else if k = 36 then c36 else if k = 37 then c37 else c38), s.heap.size, (fun r => if r = 1 then some b else if 2 ≤ r ∧ r < 26 then some (wa (r - 2)) else if r = 26 then some ta else if 27 ≤ r ∧ r < 51 then some (sd (r - 27)) else if 51 ≤ r ∧ r < 75 then some (vd (r - 51)) else if r = 75 then fo else none)) : GG) = g
    have gbe : AA g = fun q => s.heap.size ≤ q := by rw [← hg]; rfl
    have rq1 : rq g 1 = some b := by rw [← hg]; rfl
    have rqw : ∀ i, i < 24 → rq g (2 + i) = some (wa i) := fun i hi => by
      rw [← hg]; unfold rq
      rw [if_neg (by omega), if_pos (by omega)]
      show (if 2 + i = 1 then _ else _) = _
      rw [if_neg (by omega), if_pos (by omega), show 2 + i - 2 = i by omega]
    have rqa : rq g 26 = some ta := by rw [← hg]; rfl
    have rqs : ∀ i, i < 24 → rq g (27 + i) = some (sd i) := fun i hi => by
      rw [← hg]; unfold rq
      rw [if_neg (by omega), if_pos (by omega)]
      show (if 27 + i = 1 then _ else _) = _
      rw [if_neg (by omega), if_neg (by omega), if_neg (by omega), if_pos (by omega), show 27 + i - 27 = i by omega]
    have rqv : ∀ i, i < 24 → rq g (51 + i) = some (vd i) := fun i hi => by
      rw [← hg]; unfold rq
      rw [if_neg (by omega), if_pos (by omega)]
      show (if 51 + i = 1 then _ else _) = _
      rw [if_neg (by omega), if_neg (by omega), if_neg (by omega), if_neg (by omega), if_pos (by omega), show 51 + i - 51 = i by omega]
    have rqf : rq g 75 = fo := by rw [← hg]; rfl
    unfold ST
    rw [gbe]
    have lay : ∀ q ∈ stT, (Cond.laysStatic q.1 q.2.1 q.2.2.1).before #[Value.ref b] s = true ∧ (Cond.initialized q.1).before #[Value.ref b] s = true := by
      intro q hq
      obtain ⟨k, hk⟩ := List.getElem?_of_mem hq
      have hk27 : k < 27 := (List.getElem?_eq_some_iff.mp hk).1
      have h1 := Bool.and_eq_true_iff.mp (al na_lay k hk27)
      have e : stT.getD k ("", "", "", 0, 0) = q := by rw [List.getD_eq_getElem?_getD, hk]; rfl
      have h2 := of_decide_eq_true h1.1
      have h3 := of_decide_eq_true h1.2
      rw [e] at h2 h3
      exact ⟨hts _ (List.mem_of_getElem? h2), hts _ (List.mem_of_getElem? h3)⟩
    refine ⟨fun q hq => ?_, fun a ha hk => ?_, fun a ha hk => ?_, fun a ha hk => ?_, fun a ha hk => ?_, fun a ha hk => ?_, fun x y hx1 hx2 hy1 hy2 e => ?_⟩
    · obtain ⟨l1, l2⟩ := lay q hq
      unfold stT at hq
      rcases List.mem_append.mp hq with h1 | h1
      · obtain ⟨i, hi, rfl⟩ := List.mem_map.mp h1
        have hi := List.mem_range.mp hi
        have e : stv g (0, 2 + i) = .ref (wa i) := by unfold stv; rw [if_pos rfl, rqw i hi]; rfl
        dsimp only at l1 l2 ⊢
        rw [e]
        exact va_Zref l1 l2 (hwa i hi) hA
      · simp only [List.mem_cons, List.mem_nil_iff, or_false] at h1
        rcases h1 with rfl | rfl | rfl
        · have e : stv g (0, 26) = .ref ta := by unfold stv; rw [if_pos rfl, rqa]; rfl
          dsimp only at l1 l2 ⊢
          rw [e]
          exact va_Zref l1 l2 hta hA
        · dsimp only at l1 l2 ⊢
          exact va_Zof l1 l2 (va_eqi (at_ na_all.2.2.1)) hA
        · have e : stv g (0, 75) = fv := by unfold stv; rw [if_pos rfl, rqf]; exact hfo
          dsimp only at l1 l2 ⊢
          rw [e]
          exact va_Zof l1 l2 hfv hA
    · have hk : K0 a = 40 ∨ K0 a = 42 := hk
      have hcase : (2 ≤ a ∧ a < 26) ∨ (27 ≤ a ∧ a < 51) := by
        unfold K0 at hk
        repeat' split at hk
        all_goals omega
      rcases hcase with ⟨h1, h2⟩ | ⟨h1, h2⟩
      · obtain ⟨i, rfl⟩ : ∃ i, a = 2 + i := ⟨a - 2, by omega⟩
        have hi : i < 24 := by omega
        have hK : hK (h0 L xs) (2 + i) = 40 := by show K0 (2 + i) = 40; unfold K0; rw [if_neg (by omega), if_pos (by omega)]
        rw [hK]
        refine ⟨wa i, rqw i hi, fun k hk3 => ?_⟩
        have hk3 : k < 3 := hk3
        match k, hk3 with
        | 0, _ =>
          have e : fvl g (h0 L xs) 40 (2 + i) 0 = .ref (sd i) := by
            show va_rf (rq g (R0 (2 + i) 0)) = _
            have : R0 (2 + i) 0 = 27 + i := by unfold R0; rw [if_pos (by omega), if_pos rfl]; omega
            rw [this, rqs i hi]; rfl
          rw [e]
          exact vk_OFof (hwa i hi) (va_eqv (at_ (of_decide_eq_true (al na_tx i hi))) (hsd i hi).1) hA
        | 1, _ =>
          have e : fvl g (h0 L xs) 40 (2 + i) 1 = .int (bFc.getD i 0) := by
            show Value.int (I0 xs (2 + i) 1) = _
            unfold I0; rw [if_neg (by omega), if_pos (by omega), if_pos rfl, show 2 + i - 2 = i by omega]
          rw [e]
          exact vk_OFof (hwa i hi) (va_eqt (at_ (of_decide_eq_true (al na_bf i hi)))) hA
        | 2, _ =>
          have e : fvl g (h0 L xs) 40 (2 + i) 2 = .int (rFc.getD i 0) := by
            show Value.int (I0 xs (2 + i) 2) = _
            unfold I0; rw [if_neg (by omega), if_pos (by omega), if_neg (by omega), if_pos rfl, show 2 + i - 2 = i by omega]
          rw [e]
          exact vk_OFof (hwa i hi) (va_eqt (at_ (of_decide_eq_true (al na_rf i hi)))) hA
      · obtain ⟨i, rfl⟩ : ∃ i, a = 27 + i := ⟨a - 27, by omega⟩
        have hi : i < 24 := by omega
        have hK : hK (h0 L xs) (27 + i) = 42 := by show K0 (27 + i) = 42; unfold K0; rw [if_neg (by omega), if_neg (by omega), if_neg (by omega), if_pos (by omega)]
        rw [hK]
        refine ⟨sd i, rqs i hi, fun k hk3 => ?_⟩
        have hk3 : k < 2 := hk3
        match k, hk3 with
        | 0, _ =>
          have e : fvl g (h0 L xs) 42 (27 + i) 0 = .ref (vd i) := by
            show va_rf (rq g (R0 (27 + i) 0)) = _
            have : R0 (27 + i) 0 = 51 + i := by unfold R0; rw [if_neg (by omega), if_neg (by omega), if_pos (by omega), if_pos rfl]; omega
            rw [this, rqv i hi]; rfl
          rw [e]
          exact vk_OFof (hsd i hi).1 (hvd i hi).1 hA
        | 1, _ =>
          have e : fvl g (h0 L xs) 42 (27 + i) 1 = .int 0 := by
            show Value.int (I0 xs (27 + i) 1) = _
            unfold I0; rw [if_neg (by omega), if_neg (by omega), if_neg (by omega)]
          rw [e]
          exact vk_OFof (hsd i hi).1 (va_eqt (at_ (of_decide_eq_true (al na_sc i hi)))) hA
    · have hk : K0 a = 44 := hk
      have : a = 1 := by
        unfold K0 at hk
        repeat' split at hk
        all_goals omega
      subst this
      obtain ⟨scr, x1, x2, x3, x4, x5⟩ := hX
      refine ⟨b, rq1, by show L < _; omega, scr, x1, x2, x3, by show L ≤ _; omega, by rw [x4]; rfl, fun j hj => ?_, hA b hbl⟩
      have hj : j < L := hj
      rw [x5 j hj]; rfl
    · have hk : K0 a = 45 := hk
      have hcase : 51 ≤ a ∧ a < 75 := by
        unfold K0 at hk
        repeat' split at hk
        all_goals omega
      obtain ⟨i, rfl⟩ : ∃ i, a = 51 + i := ⟨a - 51, by omega⟩
      have hi : i < 24 := by omega
      have hN : hN (h0 L xs) (51 + i) = (byT.getD i []).length := by show N0 L (51 + i) = _; unfold N0; rw [if_neg (by omega), if_neg (by omega), if_pos (by omega), show 51 + i - 51 = i by omega]
      rw [hN]
      refine ⟨vd i, rqv i hi, Nat.lt_trans (byT_small i hi) (by decide), (hvd i hi).2.on fun j hj => ?_⟩
      show Value.int ((byT.getD i []).getD j 0) = Value.int (I0 xs (51 + i) j)
      unfold I0; rw [if_neg (by omega), if_neg (by omega), if_pos (by omega), show 51 + i - 51 = i by omega]
    · have hk : K0 a = 41 := hk
      have : a = 26 := by
        unfold K0 at hk
        repeat' split at hk
        all_goals omega
      subst this
      refine ⟨ta, rqa, by show N0 L 26 < _; unfold N0; rw [if_neg (by omega), if_pos rfl]; decide, ?_⟩
      have hN : hN (h0 L xs) 26 = 24 := rfl
      rw [hN]
      refine hTA.on fun j hj => ?_
      show Value.ref (wa j) = va_rf (rq g (R0 26 j))
      have : R0 26 j = 2 + j := rfl
      rw [this, rqw j hj]; rfl
    · have hk : K0 a = 42 := hk
      have hcase : 27 ≤ a ∧ a < 51 := by
        unfold K0 at hk
        repeat' split at hk
        all_goals omega
      obtain ⟨i, rfl⟩ : ∃ i, a = 27 + i := ⟨a - 27, by omega⟩
      exact ⟨sd i, rqs i (by omega), (hsd i (by omega)).2⟩
    · obtain ⟨i, rfl⟩ : ∃ i, x = 2 + i := ⟨x - 2, by omega⟩
      obtain ⟨j, rfl⟩ : ∃ j, y = 2 + j := ⟨y - 2, by omega⟩
      rw [rqw i (by omega), rqw j (by omega)] at e
      have := hwne i j (by omega) (by omega) (Option.some.inj e)
      omega
  · refine ⟨Nat.le_refl _, rfl, fun a h1 h2 => absurd h2 (Nat.not_lt.mpr h1), fun a ha => ?_, fun a ha => ⟨?_, rfl, rfl, rfl, rfl⟩⟩
    · have ha : 100 ≤ a := ha
      show K0 a = 99
      unfold K0
      rw [if_neg (by omega), if_neg (by omega), if_neg (by omega), if_neg (by omega), if_neg (by omega)]
    · show 40 ≤ K0 a
      unfold K0
      repeat' split
      all_goals omega
