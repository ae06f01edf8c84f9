--deps: c9.ev b2.startm cf.simgo cg.xret ce.lawok co.prms ct.thr
/-! THE LAW'S BODY -/
theorem prX_grow0 {d n : Nat} {P : List IR} {m : Nat} {a : List Value} {o : Nat} {h : AH} {z : Option Value × AH} (q : xrun d n P m a o h = some z) : hz h ≤ hz z.2 ∧ hu h ≤ hu z.2 := by
  unfold xrun at q
  have hg := run_grow (callD_grow (ML := ML) (pr := prm) (fun _ _ _ _ _ _ => prm_grow) d n) (P := P) n 0 (lcs m a) [] h
  split at q
  · rename_i v h' hr; cases q; have := hg _ hr; exact this
  · rename_i v h' hr; cases q; have := hg _ hr; exact this
  · rename_i h' hr; cases q
    have := hg _ hr
    exact ⟨Nat.le_trans this.1 (Nat.le_succ _), Nat.le_trans this.2 (Nat.le_add_right _ _)⟩
  · cases q
theorem prX_grow : ∀ d n y a h z, prX d n y a h = some z → hz h ≤ hz z.2 ∧ hu h ≤ hu z.2 := by
  intro d n y a h z q
  unfold prX at q
  split at q
  · exact prX_grow0 (guardo_some q).2
  · exact prX_grow0 (guardo_some q).2
  · exact prX_grow0 (guardo_some q).2
  · exact prm_grow q
theorem ML_len : ML.length ≤ 302 := by decide +kernel
theorem ct_X (l : Launch) (g : GG) (hs : AH) (d : Nat) : CT l ML prX g hs d := by
  intro y t ht n a h z q
  have hy : y < 302 := Nat.lt_of_lt_of_le (List.getElem?_eq_some_iff.mp ht).1 ML_len
  rw [callD_same d n y a h (Or.inl hy)] at q
  exact met_all l g hs ok_ML prmg prm_rule d y t ht n a h z q
set_option maxRecDepth 100000 in
theorem na_thr : Cond.isRef (.static Bundle.tN "UNASSIGNED_STACK" Bundle.steD) ∈ NA ∧ Cond.isRef (.static Bundle.tN "SUPPRESSED_SENTINEL" Bundle.listD) ∈ NA := by decide +kernel
set_option maxRecDepth 100000 in
theorem na_str : ∀ q ∈ msW, Cond.stringRef "PenThatJumps" q.1 q.2 ∈ lw_tbl := by decide +kernel
theorem tw_st : Cond.laysStatic Bundle.tN "UNASSIGNED_STACK" Bundle.steD ∈ TWL ∧ Cond.laysStatic Bundle.tN "SUPPRESSED_SENTINEL" Bundle.listD ∈ TWL ∧ Cond.initialized Bundle.tN ∈ TWL := by decide +kernel
theorem s0_of {p : Program} {s : State} {m : MethodId} {meth : Method} {c : Code} {b L : Nat} {xs : Nat → Int32} {g : GG} (C0 : lw_At p s m meth c b L xs) (hgb : gb g = s.heap.size) (kk : va_K g.1 clT (tysT g) s) : S0 g s := by
  obtain ⟨-, -, -, -, -, hts, -, -, -, hgv⟩ := C0
  have hna : ∀ c ∈ NA, c.before #[Value.ref b] s = true := flat_of_before _ hgv
  have hw : ∀ w ∈ TWL, w.before #[Value.ref b] s = true := fun w h => hts w (tw_in w h)
  have hA : ∀ a : Nat, a < s.heap.size → ¬ AA g a := fun a h => by unfold AA; omega
  refine ⟨hgb, ⟨_, hw⟩, ⟨va_Zqof (hw _ tw_st.1) (hw _ tw_st.2.2) (hna _ na_thr.1) hA, va_Zqof (hw _ tw_st.2.1) (hw _ tw_st.2.2) (hna _ na_thr.2) hA⟩, fun q hq => ?_⟩
  have h1 := hts _ (na_str q hq)
  have hcl : s.vm.findClass "PenThatJumps" = some (g.1.1 10) := (kk.1 10 _ (clT_get (by decide))).2.1
  obtain ⟨-, -, -, a, -, -, -, -, -, h2⟩ := Cond.stringRef_spec hcl h1
  exact ⟨a, vk_R.of h1 h2⟩
theorem whole_start {p : Program} {e : Env} {s : State} {m : MethodId} {below : List Frame} {meth : Method} {c : Code} (l : Launch) {b L : Nat} {xs : Nat → Int32} (hst : l.stackTraces = false) (hL : L ≤ 4096) (C0 : lw_At p s m meth c b L xs) :
    W p l e room_1 s m #[Value.ref b] below meth c s.heap [] 0 0 (lw_Z below #[Value.ref b] s) (entryFrame m ([Value.ref b] : List Value).toArray 8) := by
  obtain ⟨g, hgb, hrq1, hK, hST, hRW⟩ := start_ev hL C0
  have hS0 : S0 g s := s0_of C0 hgb hK
  obtain ⟨hx, hb, hr, hml, hown, hts, hX, hbl, hlk, hgv⟩ := C0
  have hts' : ∀ w ∈ AW, w.before #[Value.ref b] s = true := fun w hw => hts w (List.mem_filter.mp hw).1
  have C : CX p s m #[Value.ref b] c code 8 13 g (h0 L xs) := ⟨hx, hb, hml, hown, hts', hK, hST, Nat.le_of_eq hgb⟩
  have hEV : EV g (h0 L xs) s := ⟨fun w hw => AW_at (State.WarmedH.refl s) hw (hts' w hw), hK, hST, Nat.le_of_eq hgb⟩
  have prr := prms_X (thr_all hS0 hEV hst)
  obtain ⟨n, z, hrun, hz1, hz2, hz3⟩ := pure_law L xs hL
  have e1 : ([Value.ref b] : List Value) = [Value.ref 1].map (ph g) := by
    rw [List.map_cons, ph_some hrq1]; rfl
  have hent : entryFrame m ([Value.ref b] : List Value).toArray 8 = entryFrame m ([Value.ref 1].map (ph g)).toArray 8 := congrArg (fun t : List Value => entryFrame m t.toArray 8) e1
  rw [hent, lg_entry_eq]
  have hLR := LR.entry g [.ref 1] (n := 8) (by decide)
  generalize ((lg_sl ([Value.ref 1].map (ph g)) ++ List.replicate (8 - (lg_sl ([Value.ref 1].map (ph g))).length) Slot.unset).toArray) = ls at hLR ⊢
  have K0 := sim_go (p := p) (l := l) (e := e) (R := room_1) (below := below) (meth := meth) (Q := lw_Z below #[Value.ref b] s) (ini := false) (d := 100) (nn := n) C law_ok (fun h => by cases h) ok_ML prX_grow (rgo_all P_law) (by decide) prr (ct_X l g (h0 L xs) 100) ⟨by decide, by decide⟩ n 0 (lcs 8 [.ref 1]) [] (h0 L xs) z s.heap ls [] 0 0 hrun trivial hLR hRW va_S.rf (by
      have a1 : hz (h0 L xs) = 100 := rfl
      have a2 : hu (h0 L xs) = 0 := rfl
      show 0 + (hz z.2 - hz (h0 L xs)) ≤ 601024 ∧ 0 + (hu z.2 - hu (h0 L xs)) ≤ 7293034
      omega) ?_
  · exact K0
  · intro i' w' x pc' S' H' ls' locs' k6 k8 k7 k1 k2 k3 k4 k5
    rw [hz1] at k3
    have hx : x = .ireturn ∧ S' = [.int 1] := by
      cases x with
      | ireturn =>
        match S', k3 with
        | [.int v], k3 =>
          have : v = 1 := by
            have := Option.some.inj (Option.some.inj k3)
            exact Value.int.inj this
          subst this
          exact ⟨rfl, rfl⟩
      | lreturn =>
        match S', k3 with
        | [.long v], k3 => cases k3
      | areturn =>
        match S', k3 with
        | [.ref v], k3 => cases k3
      | return_ =>
        match S', k3 with
        | [], k3 => cases k3
      | nop =>
        match S', k3 with
        | [], k3 => cases k3
      | _ => cases k1
    obtain ⟨rfl, rfl⟩ := hx
    have k2 := k2.resolve_left (fun h => by cases h)
    refine va_forget (fun q hq => by
      have := k5.2.2 q hq
      unfold AA at this
      rw [hgb] at this
      exact this) ?_
    refine W.widen (k := 601024) (n := 7293034) ?_ ?_ ?_
    · have a1 : hz (h0 L xs) = 100 := rfl
      omega
    · have a2 : hu (h0 L xs) = 0 := rfl
      omega
    · exact lw_ret hx hb hr hlk k2
