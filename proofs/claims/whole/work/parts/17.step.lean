/-! THE STEP: what the small machine does in one step, the real one does -/
def inx (P : List IR) (i pc ln : Nat) : Bool := decide (pcOf P (i + 1) = pc + ln)
def itg (P : List IR) (pc : Nat) (off : Int) (t : Nat) : Bool := decide ((pc : Int) + off = (pcOf P t : Int))
def wat (w : Nat) (c : Cond) : Bool := decide (lw_tbl[w]? = some c)
/-- an instruction stands as it must: what lies behind it, its targets, its words -/
def ick (own : Nat) (ini : Bool) (P : List IR) (i : Nat) (q : IR) : Bool := match q.2.1, q.2.2.1 with
  | .bipush v, _ => decide ((Int8.ofInt v).toInt32 = Int32.ofInt v) && inx P i q.1 2
  | .sipush v, _ => decide ((Int16.ofInt v).toInt32 = Int32.ofInt v) && inx P i q.1 3
  | .ldc k, [n] => wat q.2.2.2 (.constant (cnm own) k (Int32.ofNat n)) && inx P i q.1 2
  | .ldc_w k, [n] => wat q.2.2.2 (.constant (cnm own) k (Int32.ofNat n)) && inx P i q.1 3
  | .ldc2_w k, [n] => wat q.2.2.2 (.constantLong (cnm own) k (Int64.ofNat n)) && inx P i q.1 3
  | .ldc2_w k, [n, _] => wat q.2.2.2 (.constantLong (cnm own) k (-Int64.ofNat n)) && inx P i q.1 3
  | .goto off, [t] => itg P q.1 off t
  | .ifCond _ off, [t] => itg P q.1 off t && inx P i q.1 3
  | .if_icmp _ off, [t] => itg P q.1 off t && inx P i q.1 3
  | .if_acmp _ off, [t] => itg P q.1 off t && inx P i q.1 3
  | .ifnull off, [t] => itg P q.1 off t && inx P i q.1 3
  | .ifnonnull off, [t] => itg P q.1 off t && inx P i q.1 3
  | .tableswitch df lo hi offs, d :: ts => decide (hi = lo + ts.length - 1) && decide (offs.size = ts.length) && itg P q.1 df d && (List.range ts.length).all (fun k => itg P q.1 (offs.getD k 0) (ts.getD k 0))
  | .getfield f, [c, k] => decide (k < fdn c) && inx P i q.1 3 && (decide (c < 13) && (wat q.2.2.2 (flk own f c k) || wat q.2.2.2 (flkN own f c k)) || (decide (c = 40) || decide (c = 42)) && (wat q.2.2.2 (.fieldLink (cnm own) f (sfT c k).1 (sfT c k).2.1 (sfT c k).2.2) || wat q.2.2.2 (.fieldLinkNest (cnm own) f (sfT c k).1 (sfT c k).2.1 (sfT c k).2.2 "PenThatJumps")))
  | .putfield f, [c, k] => decide (c < 13) && decide (k < fdn c) && inx P i q.1 3 && (!((clk c).2.1 k).2.2.2 && (wat q.2.2.2 (flk own f c k) || wat q.2.2.2 (flkN own f c k)) || ((clk c).2.1 k).2.2.2 && wat q.2.2.2 (flk own f c k) && ini && decide (((clk c).2.1 k).1 = cnm own))
  | .getstatic f, [a, b] => inx P i q.1 3 && stT.any (fun t => decide (t.2.2.2 = (a, b)) && (wat q.2.2.2 (.fieldLink (cnm own) f t.1 t.2.1 t.2.2.1) || wat q.2.2.2 (.fieldLinkNest (cnm own) f t.1 t.2.1 t.2.2.1 "PenThatJumps")))
  | .newarray .int, [k] => decide (k = 20) && inx P i q.1 2
  | .newarray .char, [k] => decide (k = 21) && inx P i q.1 2
  | .newarray .boolean, [k] => decide (k = 22) && inx P i q.1 2
  | .newarray .long, [k] => decide (k = 23) && inx P i q.1 2
  | .anewarray f, [k] => decide (k ∈ [33, 34, 36, 37, 38]) && wat q.2.2.2 (.classLink (cnm own) f (clk (k - 30)).1) && inx P i q.1 3
  | .new f, [c] => decide (c < 12) && wat q.2.2.2 (.classLink (cnm own) f (clk c).1) && inx P i q.1 3
  | .checkcast f, _ => wat q.2.2.2 (.classLink (cnm own) f "[I") && inx P i q.1 3
  | .ldc _, _ => false
  | .ldc_w _, _ => false
  | .ldc2_w _, _ => false
  | .goto _, _ => false
  | .ifCond _ _, _ => false
  | .if_icmp _ _, _ => false
  | .if_acmp _ _, _ => false
  | .ifnull _, _ => false
  | .ifnonnull _, _ => false
  | .tableswitch .., _ => false
  | .getfield _, _ => false
  | .putfield _, _ => false
  | .getstatic _, _ => false
  | .newarray _, _ => false
  | .anewarray _, _ => false
  | .new _, _ => false
  | x, _ => inx P i q.1 (ilen x q.1)
set_option maxRecDepth 100000 in
theorem made_ok : ∀ c, c < 12 → Cond.instantiable (clk c).1 (fdn c) ∈ lw_tbl ∧ Cond.initialized (clk c).1 ∈ lw_tbl := by decide +kernel
set_option maxRecDepth 100000 in
theorem over_ok : ∀ c ∈ [3, 4, 6, 7, 8], Cond.arrayOver (.object (clk c).1) ∈ lw_tbl := by decide +kernel
set_option maxRecDepth 100000 in
theorem arr_ok : Cond.arrayClass (newarray.typeOf .int) ∈ lw_tbl ∧ Cond.arrayClass (newarray.typeOf .char) ∈ lw_tbl ∧ Cond.arrayClass (newarray.typeOf .boolean) ∈ lw_tbl ∧ Cond.arrayClass (newarray.typeOf .long) ∈ lw_tbl := by decide +kernel
theorem AWof {w : Cond} (h : w ∈ lw_tbl) (hg : (goodWord w || isNestW w) = true) : w ∈ AW := List.mem_filter.mpr ⟨h, hg⟩
theorem wat_AW {w : Nat} {c : Cond} (h : wat w c = true) (hg : (goodWord c || isNestW c) = true) : c ∈ AW := mem_AW (of_decide_eq_true h) hg
theorem guardo_some {α : Type} {b : Bool} {x : Option α} {z : α} (h : guardo b x = some z) : b = true ∧ x = some z := by
  unfold guardo at h
  by_cases q : b = true
  · rw [if_pos q] at h; exact ⟨q, h⟩
  · rw [if_neg q] at h; cases h
theorem ldI_inv {L S : List Value} {h : AH} {i n : Nat} {z : AS} (q : ldI L S h i n = some z) : ∃ v, L[n]? = some (.int v) ∧ z = (i + 1, L, .int v :: S, h) := by
  unfold ldI at q
  split at q
  · rename_i v hv; exact ⟨v, hv, (Option.some.inj q).symm⟩
  · cases q
theorem ldA_inv {L S : List Value} {h : AH} {i n : Nat} {z : AS} (q : ldA L S h i n = some z) : ∃ v, L[n]? = some (.ref v) ∧ z = (i + 1, L, .ref v :: S, h) := by
  unfold ldA at q
  split at q
  · rename_i v hv; exact ⟨v, hv, (Option.some.inj q).symm⟩
  · cases q
theorem ldJ_inv {L S : List Value} {h : AH} {i n : Nat} {z : AS} (q : ldJ L S h i n = some z) : ∃ v, L[n]? = some (.long v) ∧ L[n + 1]? = some .null ∧ z = (i + 1, L, .long v :: S, h) := by
  unfold ldJ at q
  split at q
  · rename_i v hv hv2; exact ⟨v, hv, hv2, (Option.some.inj q).symm⟩
  · cases q
theorem stI_inv {L S : List Value} {h : AH} {i n : Nat} {z : AS} (q : stI L S h i n = some z) : ∃ v S', S = .int v :: S' ∧ n < L.length ∧ z = (i + 1, L.set n (.int v), S', h) := by
  unfold stI at q
  split at q
  · obtain ⟨q1, q2⟩ := guardo_some q; exact ⟨_, _, rfl, of_decide_eq_true q1, (Option.some.inj q2).symm⟩
  · cases q
theorem stA_inv {L S : List Value} {h : AH} {i n : Nat} {z : AS} (q : stA L S h i n = some z) : ∃ v S', S = .ref v :: S' ∧ n < L.length ∧ z = (i + 1, L.set n (.ref v), S', h) := by
  unfold stA at q
  split at q
  · obtain ⟨q1, q2⟩ := guardo_some q; exact ⟨_, _, rfl, of_decide_eq_true q1, (Option.some.inj q2).symm⟩
  · cases q
theorem stJ_inv {L S : List Value} {h : AH} {i n : Nat} {z : AS} (q : stJ L S h i n = some z) : ∃ v S', S = .long v :: S' ∧ n + 1 < L.length ∧ z = (i + 1, (L.set n (.long v)).set (n + 1) .null, S', h) := by
  unfold stJ at q
  split at q
  · obtain ⟨q1, q2⟩ := guardo_some q; exact ⟨_, _, rfl, of_decide_eq_true q1, (Option.some.inj q2).symm⟩
  · cases q
theorem biI_inv {f : Int32 → Int32 → Int32} {L S : List Value} {h : AH} {i : Nat} {z : AS} (q : biI f L S h i = some z) : ∃ x y S', S = .int y :: .int x :: S' ∧ z = (i + 1, L, .int (f x y) :: S', h) := by
  unfold biI at q
  split at q
  · exact ⟨_, _, _, rfl, (Option.some.inj q).symm⟩
  · cases q
theorem biJ_inv {f : Int64 → Int64 → Int64} {L S : List Value} {h : AH} {i : Nat} {z : AS} (q : biJ f L S h i = some z) : ∃ x y S', S = .long y :: .long x :: S' ∧ z = (i + 1, L, .long (f x y) :: S', h) := by
  unfold biJ at q
  split at q
  · exact ⟨_, _, _, rfl, (Option.some.inj q).symm⟩
  · cases q
theorem biS_inv {f : Int64 → Int32 → Int64} {L S : List Value} {h : AH} {i : Nat} {z : AS} (q : biS f L S h i = some z) : ∃ x y S', S = .int y :: .long x :: S' ∧ z = (i + 1, L, .long (f x y) :: S', h) := by
  unfold biS at q
  split at q
  · exact ⟨_, _, _, rfl, (Option.some.inj q).symm⟩
  · cases q
theorem aldI_inv {k : List Nat} {L S : List Value} {h : AH} {i : Nat} {z : AS} (q : aldI k L S h i = some z) : ∃ x a S', S = .int x :: .ref a :: S' ∧ hK h a ∈ k ∧ ixo x (hN h a) = true ∧ z = (i + 1, L, .int (hI h a x.toNatClampNeg) :: S', h) := by
  unfold aldI at q
  split at q
  · obtain ⟨q1, q2⟩ := guardo_some q
    rw [Bool.and_eq_true] at q1
    exact ⟨_, _, _, rfl, of_decide_eq_true q1.1, q1.2, (Option.some.inj q2).symm⟩
  · cases q
section SIM
variable {p : Program} {l : Launch} {e : Env} {R : Room} {s : State} {m : MethodId} {args : Array Value} {below : List Frame} {meth : Method} {c : Code} {H : Heap} {locs : List Loc} {cells slots : Nat} {Q : State → Prop} {cc : ByteArray} {nL own : Nat} {ls : Array Slot} {g : GG} {hs h : AH} {P : List IR} {i : Nat} {L S : List Value}
theorem put_hl {ini : Bool} {meth : Method} {own i pc f cK k w : Nat} {P : List IR} (hini : ini = true → meth.name = "<init>") (hk : ick own ini P i (pc, .putfield f, [cK, k], w) = true) : cK < 13 ∧ k < fdn cK ∧ pcOf P (i + 1) = pc + 3 ∧ ((((clk cK).2.1 k).2.2.2 = false ∧ (flk own f cK k ∈ AW ∨ flkN own f cK k ∈ AW)) ∨ (((clk cK).2.1 k).2.2.2 = true ∧ flk own f cK k ∈ AW ∧ meth.name = "<init>" ∧ ((clk cK).2.1 k).1 = cnm own)) := by
  have hk := Bool.and_eq_true_iff.mp hk
  have hk1 := Bool.and_eq_true_iff.mp hk.1
  have hk2 := Bool.and_eq_true_iff.mp hk1.1
  refine ⟨of_decide_eq_true hk2.1, of_decide_eq_true hk2.2, of_decide_eq_true hk1.2, ?_⟩
  rcases Bool.or_eq_true_iff.mp hk.2 with t | t
  · have t := Bool.and_eq_true_iff.mp t
    refine Or.inl ⟨by simpa using t.1, ?_⟩
    rcases Bool.or_eq_true_iff.mp t.2 with u | u
    · exact Or.inl (wat_AW u rfl)
    · exact Or.inr (wat_AW u rfl)
  · have t := Bool.and_eq_true_iff.mp t
    have t1 := Bool.and_eq_true_iff.mp t.1
    have t2 := Bool.and_eq_true_iff.mp t1.1
    exact Or.inr ⟨t2.1, wat_AW t2.2 rfl, hini t1.2, of_decide_eq_true t.2⟩
set_option maxHeartbeats 4000000 in
theorem sim_step {ini : Bool} {q : IR} {z : AS} (C : CX p s m args c cc nL own g hs) (hd : decode cc q.1 = .ok (q.2.1, ilen q.2.1 q.1)) (hk : ick own ini P i q = true) (hini : ini = true → meth.name = "<init>") (hL : LR g L nL ls) (hW : RW g hs h H) (hS : va_S (AA g) s.heap H locs)
    (hst : stp q.2.1 q.2.2.1 i L S h = some z) (hr : cells + (hz z.2.2.2 - hz h) ≤ R.cells ∧ slots + (hu z.2.2.2 - hu h) ≤ R.slots) (n : NX p l e R s m args below meth c cells slots Q nL g hs h P z) : W p l e R s m args below meth c H locs cells slots Q (F0 m q.1 ls (S.map (ph g))) := by
  obtain ⟨pc, x, o, w⟩ := q
  dsimp only at hd hst ⊢
  cases x with
  | iconst v =>
    cases hst
    exact op_iconst C hd (of_decide_eq_true hk) hL hW hS n
  | bipush v =>
    cases hst
    have hk := Bool.and_eq_true_iff.mp hk
    exact op_bipush C hd (of_decide_eq_true hk.2) hL hW hS (of_decide_eq_true hk.1) n
  | sipush v =>
    cases hst
    have hk := Bool.and_eq_true_iff.mp hk
    exact op_sipush C hd (of_decide_eq_true hk.2) hL hW hS (of_decide_eq_true hk.1) n
  | lconst v =>
    cases hst
    exact op_lconst C hd (of_decide_eq_true hk) hL hW hS n
  | aconst_null =>
    cases hst
    exact op_null C hd (of_decide_eq_true hk) hL hW hS n
  | ldc k =>
    match o, hst, hk with
    | [v], hst, hk =>
      cases hst
      have hk := Bool.and_eq_true_iff.mp hk
      exact op_ldc C hd (of_decide_eq_true hk.2) hL hW hS (wat_AW hk.1 rfl) n
  | ldc_w k =>
    match o, hst, hk with
    | [v], hst, hk =>
      cases hst
      have hk := Bool.and_eq_true_iff.mp hk
      exact op_ldcw C hd (of_decide_eq_true hk.2) hL hW hS (wat_AW hk.1 rfl) n
  | ldc2_w k =>
    match o, hst, hk with
    | [v], hst, hk =>
      cases hst
      have hk := Bool.and_eq_true_iff.mp hk
      exact op_ldc2 C hd (of_decide_eq_true hk.2) hL hW hS (wat_AW hk.1 rfl) n
    | [v, _], hst, hk =>
      cases hst
      have hk := Bool.and_eq_true_iff.mp hk
      exact op_ldc2 C hd (of_decide_eq_true hk.2) hL hW hS (wat_AW hk.1 rfl) n
  | iload k =>
    obtain ⟨v, hv, rfl⟩ := ldI_inv hst
    exact op_iload C hd (of_decide_eq_true hk) hL hW hS hv n
  | iload_n k =>
    obtain ⟨v, hv, rfl⟩ := ldI_inv hst
    exact op_iload_n C hd (of_decide_eq_true hk) hL hW hS hv n
  | aload k =>
    obtain ⟨v, hv, rfl⟩ := ldA_inv hst
    exact op_aload C hd (of_decide_eq_true hk) hL hW hS hv n
  | aload_n k =>
    obtain ⟨v, hv, rfl⟩ := ldA_inv hst
    exact op_aload_n C hd (of_decide_eq_true hk) hL hW hS hv n
  | lload k =>
    obtain ⟨v, hv, hv2, rfl⟩ := ldJ_inv hst
    exact op_lload C hd (of_decide_eq_true hk) hL hW hS hv hv2 n
  | lload_n k =>
    obtain ⟨v, hv, hv2, rfl⟩ := ldJ_inv hst
    exact op_lload_n C hd (of_decide_eq_true hk) hL hW hS hv hv2 n
  | istore k =>
    obtain ⟨v, S', rfl, hv, rfl⟩ := stI_inv hst
    exact op_istore C hd (of_decide_eq_true hk) hL hW hS (by rw [← hL.1]; exact hv) n
  | istore_n k =>
    obtain ⟨v, S', rfl, hv, rfl⟩ := stI_inv hst
    exact op_istore_n C hd (of_decide_eq_true hk) hL hW hS (by rw [← hL.1]; exact hv) n
  | astore k =>
    obtain ⟨v, S', rfl, hv, rfl⟩ := stA_inv hst
    exact op_astore C hd (of_decide_eq_true hk) hL hW hS (by rw [← hL.1]; exact hv) n
  | astore_n k =>
    obtain ⟨v, S', rfl, hv, rfl⟩ := stA_inv hst
    exact op_astore_n C hd (of_decide_eq_true hk) hL hW hS (by rw [← hL.1]; exact hv) n
  | lstore k =>
    obtain ⟨v, S', rfl, hv, rfl⟩ := stJ_inv hst
    exact op_lstore C hd (of_decide_eq_true hk) hL hW hS (by rw [← hL.1]; exact hv) n
  | lstore_n k =>
    obtain ⟨v, S', rfl, hv, rfl⟩ := stJ_inv hst
    exact op_lstore_n C hd (of_decide_eq_true hk) hL hW hS (by rw [← hL.1]; exact hv) n
  | iinc k v =>
    simp only [stp] at hst
    split at hst
    · rename_i v' hv
      cases hst
      exact op_iinc C hd (of_decide_eq_true hk) hL hW hS hv n
    · cases hst
  | iadd =>
    obtain ⟨x, y, S', rfl, rfl⟩ := biI_inv hst
    exact op_iadd C hd (of_decide_eq_true hk) hL hW hS n
  | isub =>
    obtain ⟨x, y, S', rfl, rfl⟩ := biI_inv hst
    exact op_isub C hd (of_decide_eq_true hk) hL hW hS n
  | imul =>
    obtain ⟨x, y, S', rfl, rfl⟩ := biI_inv hst
    exact op_imul C hd (of_decide_eq_true hk) hL hW hS n
  | iand =>
    obtain ⟨x, y, S', rfl, rfl⟩ := biI_inv hst
    exact op_iand C hd (of_decide_eq_true hk) hL hW hS n
  | ior =>
    obtain ⟨x, y, S', rfl, rfl⟩ := biI_inv hst
    exact op_ior C hd (of_decide_eq_true hk) hL hW hS n
  | ishl =>
    obtain ⟨x, y, S', rfl, rfl⟩ := biI_inv hst
    exact op_ishl C hd (of_decide_eq_true hk) hL hW hS n
  | ishr =>
    obtain ⟨x, y, S', rfl, rfl⟩ := biI_inv hst
    exact op_ishr C hd (of_decide_eq_true hk) hL hW hS n
  | ladd =>
    obtain ⟨x, y, S', rfl, rfl⟩ := biJ_inv hst
    exact op_ladd C hd (of_decide_eq_true hk) hL hW hS n
  | lsub =>
    obtain ⟨x, y, S', rfl, rfl⟩ := biJ_inv hst
    exact op_lsub C hd (of_decide_eq_true hk) hL hW hS n
  | lmul =>
    obtain ⟨x, y, S', rfl, rfl⟩ := biJ_inv hst
    exact op_lmul C hd (of_decide_eq_true hk) hL hW hS n
  | land =>
    obtain ⟨x, y, S', rfl, rfl⟩ := biJ_inv hst
    exact op_land C hd (of_decide_eq_true hk) hL hW hS n
  | lor =>
    obtain ⟨x, y, S', rfl, rfl⟩ := biJ_inv hst
    exact op_lor C hd (of_decide_eq_true hk) hL hW hS n
  | lshl =>
    obtain ⟨x, y, S', rfl, rfl⟩ := biS_inv hst
    exact op_lshl C hd (of_decide_eq_true hk) hL hW hS n
  | lshr =>
    obtain ⟨x, y, S', rfl, rfl⟩ := biS_inv hst
    exact op_lshr C hd (of_decide_eq_true hk) hL hW hS n
  | lushr =>
    obtain ⟨x, y, S', rfl, rfl⟩ := biS_inv hst
    exact op_lushr C hd (of_decide_eq_true hk) hL hW hS n
  | idiv =>
    simp only [stp] at hst
    split at hst
    · obtain ⟨q1, q2⟩ := guardo_some hst
      cases q2
      exact op_idiv C hd (of_decide_eq_true hk) hL hW hS (of_decide_eq_true q1) n
    · cases hst
  | irem =>
    simp only [stp] at hst
    split at hst
    · obtain ⟨q1, q2⟩ := guardo_some hst
      cases q2
      exact op_irem C hd (of_decide_eq_true hk) hL hW hS (of_decide_eq_true q1) n
    · cases hst
  | ldiv =>
    simp only [stp] at hst
    split at hst
    · obtain ⟨q1, q2⟩ := guardo_some hst
      cases q2
      exact op_ldiv C hd (of_decide_eq_true hk) hL hW hS (of_decide_eq_true q1) n
    · cases hst
  | lrem =>
    simp only [stp] at hst
    split at hst
    · obtain ⟨q1, q2⟩ := guardo_some hst
      cases q2
      exact op_lrem C hd (of_decide_eq_true hk) hL hW hS (of_decide_eq_true q1) n
    · cases hst
  | ineg =>
    simp only [stp] at hst
    split at hst
    · cases hst
      exact op_ineg C hd (of_decide_eq_true hk) hL hW hS n
    · cases hst
  | lneg =>
    simp only [stp] at hst
    split at hst
    · cases hst
      exact op_lneg C hd (of_decide_eq_true hk) hL hW hS n
    · cases hst
  | lcmp =>
    simp only [stp] at hst
    split at hst
    · cases hst
      exact op_lcmp C hd (of_decide_eq_true hk) hL hW hS n
    · cases hst
  | i2l =>
    simp only [stp] at hst
    split at hst
    · cases hst
      exact op_i2l C hd (of_decide_eq_true hk) hL hW hS n
    · cases hst
  | l2i =>
    simp only [stp] at hst
    split at hst
    · cases hst
      exact op_l2i C hd (of_decide_eq_true hk) hL hW hS n
    · cases hst
  | i2c =>
    simp only [stp] at hst
    split at hst
    · cases hst
      exact op_i2c C hd (of_decide_eq_true hk) hL hW hS n
    · cases hst
  | dup =>
    simp only [stp] at hst
    split at hst
    · cases hst
      exact op_dup C hd (of_decide_eq_true hk) hL hW hS rfl n
    · cases hst
      exact op_dup C hd (of_decide_eq_true hk) hL hW hS rfl n
    · cases hst
  | dup2 =>
    simp only [stp] at hst
    split at hst
    · cases hst
      exact op_dup2a C hd (of_decide_eq_true hk) hL hW hS rfl rfl n
    · cases hst
      exact op_dup2b C hd (of_decide_eq_true hk) hL hW hS rfl n
    · cases hst
  | pop =>
    simp only [stp] at hst
    split at hst
    · cases hst
      exact op_pop C hd (of_decide_eq_true hk) hL hW hS rfl n
    · cases hst
  | checkcast k =>
    simp only [stp] at hst
    split at hst
    · obtain ⟨q1, q2⟩ := guardo_some hst
      cases q2
      have hk := Bool.and_eq_true_iff.mp hk
      exact op_cast20 C hd (of_decide_eq_true hk.2) hL hW hS (of_decide_eq_true q1) (wat_AW hk.1 rfl) n
    · cases hst
  | goto off =>
    match o, hst, hk with
    | [t], hst, hk =>
      cases hst
      exact op_goto C hd (of_decide_eq_true hk) hL hW hS n
  | ifCond cd off =>
    match o, S, hst, hk with
    | [t], .int x :: S, hst, hk =>
      have hk := Bool.and_eq_true_iff.mp hk
      have ht := of_decide_eq_true hk.1
      have hp := of_decide_eq_true hk.2
      simp only [stp] at hst
      cases cd with
      | eq =>
        refine op_if_eq C hd hp ht hL hW hS (fun q => ?_) (fun q => ?_)
        · rw [if_pos (show cnd .eq x 0 = true from decide_eq_true q)] at hst; cases hst; exact n
        · rw [if_neg (show ¬ cnd .eq x 0 = true from fun z => q (of_decide_eq_true z))] at hst; cases hst; exact n
      | ne =>
        refine op_if_ne C hd hp ht hL hW hS (fun q => ?_) (fun q => ?_)
        · rw [if_pos (show cnd .ne x 0 = true from decide_eq_true q)] at hst; cases hst; exact n
        · rw [if_neg (show ¬ cnd .ne x 0 = true from fun z => q (of_decide_eq_true z))] at hst; cases hst; exact n
      | lt =>
        refine op_if_lt C hd hp ht hL hW hS (fun q => ?_) (fun q => ?_)
        · rw [if_pos (show cnd .lt x 0 = true from decide_eq_true q)] at hst; cases hst; exact n
        · rw [if_neg (show ¬ cnd .lt x 0 = true from fun z => q (of_decide_eq_true z))] at hst; cases hst; exact n
      | ge =>
        refine op_if_ge C hd hp ht hL hW hS (fun q => ?_) (fun q => ?_)
        · rw [if_pos (show cnd .ge x 0 = true from decide_eq_true q)] at hst; cases hst; exact n
        · rw [if_neg (show ¬ cnd .ge x 0 = true from fun z => q (of_decide_eq_true z))] at hst; cases hst; exact n
      | gt =>
        refine op_if_gt C hd hp ht hL hW hS (fun q => ?_) (fun q => ?_)
        · rw [if_pos (show cnd .gt x 0 = true from decide_eq_true q)] at hst; cases hst; exact n
        · rw [if_neg (show ¬ cnd .gt x 0 = true from fun z => q (of_decide_eq_true z))] at hst; cases hst; exact n
      | le =>
        refine op_if_le C hd hp ht hL hW hS (fun q => ?_) (fun q => ?_)
        · rw [if_pos (show cnd .le x 0 = true from decide_eq_true q)] at hst; cases hst; exact n
        · rw [if_neg (show ¬ cnd .le x 0 = true from fun z => q (of_decide_eq_true z))] at hst; cases hst; exact n
  | if_icmp cd off =>
    match o, S, hst, hk with
    | [t], .int y :: .int x :: S, hst, hk =>
      have hk := Bool.and_eq_true_iff.mp hk
      have ht := of_decide_eq_true hk.1
      have hp := of_decide_eq_true hk.2
      simp only [stp] at hst
      cases cd with
      | eq =>
        refine op_icmp_eq C hd hp ht hL hW hS (fun q => ?_) (fun q => ?_)
        · rw [if_pos (show cnd .eq x y = true from decide_eq_true q)] at hst; cases hst; exact n
        · rw [if_neg (show ¬ cnd .eq x y = true from fun z => q (of_decide_eq_true z))] at hst; cases hst; exact n
      | ne =>
        refine op_icmp_ne C hd hp ht hL hW hS (fun q => ?_) (fun q => ?_)
        · rw [if_pos (show cnd .ne x y = true from decide_eq_true q)] at hst; cases hst; exact n
        · rw [if_neg (show ¬ cnd .ne x y = true from fun z => q (of_decide_eq_true z))] at hst; cases hst; exact n
      | lt =>
        refine op_icmp_lt C hd hp ht hL hW hS (fun q => ?_) (fun q => ?_)
        · rw [if_pos (show cnd .lt x y = true from decide_eq_true q)] at hst; cases hst; exact n
        · rw [if_neg (show ¬ cnd .lt x y = true from fun z => q (of_decide_eq_true z))] at hst; cases hst; exact n
      | ge =>
        refine op_icmp_ge C hd hp ht hL hW hS (fun q => ?_) (fun q => ?_)
        · rw [if_pos (show cnd .ge x y = true from decide_eq_true q)] at hst; cases hst; exact n
        · rw [if_neg (show ¬ cnd .ge x y = true from fun z => q (of_decide_eq_true z))] at hst; cases hst; exact n
      | gt =>
        refine op_icmp_gt C hd hp ht hL hW hS (fun q => ?_) (fun q => ?_)
        · rw [if_pos (show cnd .gt x y = true from decide_eq_true q)] at hst; cases hst; exact n
        · rw [if_neg (show ¬ cnd .gt x y = true from fun z => q (of_decide_eq_true z))] at hst; cases hst; exact n
      | le =>
        refine op_icmp_le C hd hp ht hL hW hS (fun q => ?_) (fun q => ?_)
        · rw [if_pos (show cnd .le x y = true from decide_eq_true q)] at hst; cases hst; exact n
        · rw [if_neg (show ¬ cnd .le x y = true from fun z => q (of_decide_eq_true z))] at hst; cases hst; exact n
  | if_acmp cd off =>
    match o, S, hst, hk with
    | [t], .ref y :: .ref x :: S, hst, hk =>
      have hk := Bool.and_eq_true_iff.mp hk
      have ht := of_decide_eq_true hk.1
      have hp := of_decide_eq_true hk.2
      simp only [stp] at hst
      obtain ⟨q1, q2⟩ := guardo_some hst
      have q1 := of_decide_eq_true q1
      cases cd with
      | eq =>
        refine op_acmp_eq C hd hp ht hL hW hS q1 (fun q => ?_) (fun q => ?_)
        · simp only [if_pos q] at q2; cases q2; exact n
        · simp only [if_neg q] at q2; cases q2; exact n
      | ne =>
        refine op_acmp_ne C hd hp ht hL hW hS q1 (fun q => ?_) (fun q => ?_)
        · simp only [if_neg q] at q2; cases q2; exact n
        · simp only [if_pos q] at q2; cases q2; exact n
  | ifnull off =>
    match o, S, hst, hk with
    | [t], .ref x :: S, hst, hk =>
      have hk := Bool.and_eq_true_iff.mp hk
      simp only [stp] at hst
      obtain ⟨q1, q2⟩ := guardo_some hst
      refine op_ifnull C hd (of_decide_eq_true hk.2) (of_decide_eq_true hk.1) hL hW hS (of_decide_eq_true q1) (fun q => ?_) (fun q => ?_)
      · rw [if_pos q] at q2; cases q2; exact n
      · rw [if_neg q] at q2; cases q2; exact n
  | ifnonnull off =>
    match o, S, hst, hk with
    | [t], .ref x :: S, hst, hk =>
      have hk := Bool.and_eq_true_iff.mp hk
      simp only [stp] at hst
      obtain ⟨q1, q2⟩ := guardo_some hst
      refine op_ifnonnull C hd (of_decide_eq_true hk.2) (of_decide_eq_true hk.1) hL hW hS (of_decide_eq_true q1) (fun q => ?_) (fun q => ?_)
      · rw [if_neg q] at q2; cases q2; exact n
      · rw [if_pos q] at q2; cases q2; exact n
  | tableswitch df lo hi offs =>
    match o, S, hst, hk with
    | d :: ts, .int x :: S, hst, hk =>
      have hk := Bool.and_eq_true_iff.mp hk
      have hk1 := Bool.and_eq_true_iff.mp hk.1
      have hk2 := Bool.and_eq_true_iff.mp hk1.1
      simp only [stp] at hst
      refine op_tsw C hd (of_decide_eq_true hk2.1) (of_decide_eq_true hk2.2) (of_decide_eq_true hk1.2) (fun k hq => of_decide_eq_true (List.all_eq_true.mp hk.2 k (List.mem_range.mpr hq))) hL hW hS (fun q => ?_) (fun q => ?_)
      · rw [if_pos q] at hst; cases hst; exact n
      · rw [if_neg q] at hst; cases hst; exact n
  | getfield f =>
    match o, S, hst, hk with
    | [cK, k], .ref a :: S, hst, hk =>
      have hk := Bool.and_eq_true_iff.mp hk
      have hk1 := Bool.and_eq_true_iff.mp hk.1
      simp only [stp] at hst
      obtain ⟨q1, q2⟩ := guardo_some hst
      have hz' : z = (i + 1, L, fvA h cK a k :: S, h) := by
        unfold fvA
        split at q2 <;> (rename_i e; cases q2; first | rw [if_pos e] | rw [if_neg e])
      subst hz'
      have hb : ∀ {c1 c2 : Cond}, (wat w c1 || wat w c2) = true → (goodWord c1 || isNestW c1) = true → (goodWord c2 || isNestW c2) = true → c1 ∈ AW ∨ c2 ∈ AW := fun hh h1 h2 => by
        rcases Bool.or_eq_true_iff.mp hh with t | t
        · exact Or.inl (wat_AW t h1)
        · exact Or.inr (wat_AW t h2)
      rcases Bool.or_eq_true_iff.mp hk.2 with t | t
      · have t := Bool.and_eq_true_iff.mp t
        exact op_getf C hd (of_decide_eq_true hk1.2) hL hW hS (of_decide_eq_true q1) (of_decide_eq_true t.1) (of_decide_eq_true hk1.1) (hb t.2 rfl rfl) n
      · have t := Bool.and_eq_true_iff.mp t
        have hc : cK = 40 ∨ cK = 42 := by
          rcases Bool.or_eq_true_iff.mp t.1 with u | u
          · exact Or.inl (of_decide_eq_true u)
          · exact Or.inr (of_decide_eq_true u)
        exact op_getsf C hd (of_decide_eq_true hk1.2) hL hW hS (of_decide_eq_true q1) hc (of_decide_eq_true hk1.1) (hb t.2 rfl rfl) n
  | putfield f =>
    match o, S, hst, hk with
    | [cK, k], .ref v :: .ref a :: S, hst, hk =>
      obtain ⟨hc, hkn, hp, hl⟩ := put_hl hini hk
      obtain ⟨f0, f1, f2, f3⟩ := fd_ty cK hc k hkn
      simp only [stp] at hst
      obtain ⟨q1, q2⟩ := guardo_some hst
      have q1 := Bool.and_eq_true_iff.mp q1
      have q3 : fdk cK k = 2 := of_decide_eq_true q1.2
      cases q2
      have hfit := fit_ref (f2 q3) (rq g v)
      refine op_putf (v := .ref v) (h' := sR h a k v) C hd hp hL hW hS (of_decide_eq_true q1.1) hc hkn hfit.1 hfit.2 hl rfl rfl rfl rfl (fun _ _ => rfl) (fun _ _ => rfl) (fun y hy => upq_ne _ hy _ _) (fun j => ?_) n
      show fvl g (sR h a k v) cK a j = if j = k then va_rf (rq g v) else fvl g h cK a j
      have e1 : hR (sR h a k v) a j = if j = k then v else hR h a j := by show upq h.2.2.1 a k v a j = _; unfold upq; rw [if_pos rfl]; rfl
      have e2 : hI (sR h a k v) a j = hI h a j := rfl
      unfold fvl
      rw [e1, e2]
      by_cases hj : j = k
      · subst hj; rw [if_pos q3, if_pos rfl, if_pos rfl]
      · rw [if_neg hj, if_neg hj]
    | [cK, k], .int v :: .ref a :: S, hst, hk =>
      obtain ⟨hc, hkn, hp, hl⟩ := put_hl hini hk
      obtain ⟨f0, f1, f2, f3⟩ := fd_ty cK hc k hkn
      simp only [stp] at hst
      obtain ⟨q1, q2⟩ := guardo_some hst
      have q1 := Bool.and_eq_true_iff.mp q1
      cases q2
      have hfit : narrow (tyk cK k) (.int v) = .int v ∧ fits (tyk cK k) (.int v) = true ∧ ¬ fdk cK k = 2 := by
        rcases Bool.or_eq_true_iff.mp q1.2 with t | t
        · have t : fdk cK k = 0 := of_decide_eq_true t
          rw [f0 t]; exact ⟨rfl, rfl, by omega⟩
        · have t := Bool.and_eq_true_iff.mp t
          have t1 : fdk cK k = 1 := of_decide_eq_true t.1
          rw [f1 t1]; exact ⟨(fit_bool t.2).1, (fit_bool t.2).2, by omega⟩
      refine op_putf (v := .int v) (h' := sI h a k v) C hd hp hL hW hS (of_decide_eq_true q1.1) hc hkn hfit.1 hfit.2.1 hl rfl rfl rfl rfl (fun y hy => upq_ne _ hy _ _) (fun _ _ => rfl) (fun _ _ => rfl) (fun j => ?_) n
      show fvl g (sI h a k v) cK a j = if j = k then .int v else fvl g h cK a j
      have e1 : hI (sI h a k v) a j = if j = k then v else hI h a j := by show upq h.1 a k v a j = _; unfold upq; rw [if_pos rfl]; rfl
      have e2 : hR (sI h a k v) a j = hR h a j := rfl
      unfold fvl
      rw [e1, e2]
      by_cases hj : j = k
      · subst hj; rw [if_neg hfit.2.2, if_pos rfl, if_pos rfl]
      · rw [if_neg hj, if_neg hj]
  | getstatic f =>
    match o, hst, hk with
    | [a, b], hst, hk =>
      have hk := Bool.and_eq_true_iff.mp hk
      obtain ⟨t, ht, hk2⟩ := List.any_eq_true.mp hk.2
      have hk2 := Bool.and_eq_true_iff.mp hk2
      have ht2 := of_decide_eq_true hk2.1
      have hl : Cond.fieldLink (cnm own) f t.1 t.2.1 t.2.2.1 ∈ AW ∨ Cond.fieldLinkNest (cnm own) f t.1 t.2.1 t.2.2.1 "PenThatJumps" ∈ AW := by
        rcases Bool.or_eq_true_iff.mp hk2.2 with u | u
        · exact Or.inl (wat_AW u rfl)
        · exact Or.inr (wat_AW u rfl)
      match a, hst, ht2 with
      | 0, hst, ht2 =>
        cases hst
        exact op_gets C hd (of_decide_eq_true hk.1) hL hW hS ht (by rw [ht2]; rfl) hl n
      | 1, hst, ht2 =>
        cases hst
        exact op_gets C hd (of_decide_eq_true hk.1) hL hW hS ht (by rw [ht2]; rfl) hl n
  | iaload =>
    obtain ⟨x, a, S', rfl, hm, hx, rfl⟩ := aldI_inv hst
    rcases List.mem_cons.mp hm with u | u
    · exact op_iald C hd (of_decide_eq_true hk) hL hW hS u hx n
    · exact op_sild C hd (of_decide_eq_true hk) hL hW hS (List.mem_singleton.mp u) hx n
  | caload =>
    obtain ⟨x, a, S', rfl, hm, hx, rfl⟩ := aldI_inv hst
    exact op_cald C hd (of_decide_eq_true hk) hL hW hS (List.mem_singleton.mp hm) hx n
  | baload =>
    obtain ⟨x, a, S', rfl, hm, hx, rfl⟩ := aldI_inv hst
    rcases List.mem_cons.mp hm with u | u
    · exact op_zald C hd (of_decide_eq_true hk) hL hW hS u hx n
    · exact op_sbld C hd (of_decide_eq_true hk) hL hW hS (List.mem_singleton.mp u) hx n
  | laload =>
    simp only [stp] at hst
    split at hst
    · obtain ⟨q1, q2⟩ := guardo_some hst
      have q1 := Bool.and_eq_true_iff.mp q1
      cases q2
      exact op_lald C hd (of_decide_eq_true hk) hL hW hS (of_decide_eq_true q1.1) q1.2 n
    · cases hst
  | aaload =>
    simp only [stp] at hst
    split at hst
    · rename_i x a S'
      obtain ⟨q1, q2⟩ := guardo_some hst
      have q1 := Bool.and_eq_true_iff.mp q1
      have q3 := of_decide_eq_true q1.1
      cases q2
      by_cases u : hK h a < 40
      · exact op_aald C hd (of_decide_eq_true hk) hL hW hS q3.1 u q1.2 n
      · exact op_sald C hd (of_decide_eq_true hk) hL hW hS (by omega) q1.2 n
    · cases hst
  | iastore =>
    simp only [stp] at hst
    split at hst
    · obtain ⟨q1, q2⟩ := guardo_some hst
      have q1 := Bool.and_eq_true_iff.mp q1
      cases q2
      exact op_iast C hd (of_decide_eq_true hk) hL hW hS (of_decide_eq_true q1.1) q1.2 n
    · cases hst
  | castore =>
    simp only [stp] at hst
    split at hst
    · obtain ⟨q1, q2⟩ := guardo_some hst
      have q1 := Bool.and_eq_true_iff.mp q1
      cases q2
      exact op_cast C hd (of_decide_eq_true hk) hL hW hS (of_decide_eq_true q1.1) q1.2 n
    · cases hst
  | lastore =>
    simp only [stp] at hst
    split at hst
    · obtain ⟨q1, q2⟩ := guardo_some hst
      have q1 := Bool.and_eq_true_iff.mp q1
      cases q2
      exact op_last C hd (of_decide_eq_true hk) hL hW hS (of_decide_eq_true q1.1) q1.2 n
    · cases hst
  | bastore =>
    simp only [stp] at hst
    split at hst
    · obtain ⟨q1, q2⟩ := guardo_some hst
      have q1 := Bool.and_eq_true_iff.mp q1
      have q3 := Bool.and_eq_true_iff.mp q1.1
      cases q2
      exact op_zast C hd (of_decide_eq_true hk) hL hW hS (of_decide_eq_true q3.1) q3.2 q1.2 n
    · cases hst
  | aastore =>
    simp only [stp] at hst
    split at hst
    · obtain ⟨q1, q2⟩ := guardo_some hst
      have q1 := Bool.and_eq_true_iff.mp q1
      have q3 := of_decide_eq_true q1.1
      cases q2
      exact op_aast C hd (of_decide_eq_true hk) hL hW hS q3.1 q3.2.1 q3.2.2.1 q1.2 n
    · cases hst
  | arraylength =>
    simp only [stp] at hst
    split at hst
    · obtain ⟨q1, q2⟩ := guardo_some hst
      have q3 := of_decide_eq_true q1
      cases q2
      exact op_alen C hd (of_decide_eq_true hk) hL hW hS q3.1 q3.2.1 q3.2.2.1 q3.2.2.2.1 q3.2.2.2.2 n
    · cases hst
  | newarray at0 =>
    match o, S, hst with
    | [k], .int x :: S, hst =>
      simp only [stp] at hst
      obtain ⟨q1, q2⟩ := guardo_some hst
      have q1 := Bool.and_eq_true_iff.mp q1
      have hx := of_decide_eq_true q1.1
      have hx2 := of_decide_eq_true q1.2
      cases q2
      have e5 : hz (mkC h k x.toNatClampNeg x.toNatClampNeg) - hz h = 1 := by show hz h + 1 - hz h = 1; omega
      have e6 : hu (mkC h k x.toNatClampNeg x.toNatClampNeg) - hu h = x.toNatClampNeg := by show hu h + x.toNatClampNeg - hu h = _; omega
      have hr' : cells + 1 ≤ R.cells ∧ slots + x.toNatClampNeg ≤ R.slots := by
        have := hr; dsimp only at this; rw [e5, e6] at this; exact this
      cases at0 with
      | int =>
        have hk := Bool.and_eq_true_iff.mp hk
        have e := of_decide_eq_true hk.1
        subst e
        exact op_newa_int C hd (of_decide_eq_true hk.2) hL hW hS hx hx2 (AWof arr_ok.1 rfl) hr'.1 hr'.2 n
      | char =>
        have hk := Bool.and_eq_true_iff.mp hk
        have e := of_decide_eq_true hk.1
        subst e
        exact op_newa_char C hd (of_decide_eq_true hk.2) hL hW hS hx hx2 (AWof arr_ok.2.1 rfl) hr'.1 hr'.2 n
      | boolean =>
        have hk := Bool.and_eq_true_iff.mp hk
        have e := of_decide_eq_true hk.1
        subst e
        exact op_newa_bool C hd (of_decide_eq_true hk.2) hL hW hS hx hx2 (AWof arr_ok.2.2.1 rfl) hr'.1 hr'.2 n
      | long =>
        have hk := Bool.and_eq_true_iff.mp hk
        have e := of_decide_eq_true hk.1
        subst e
        exact op_newa_long C hd (of_decide_eq_true hk.2) hL hW hS hx hx2 (AWof arr_ok.2.2.2 rfl) hr'.1 hr'.2 n
      | _ => exact absurd hk (fun t => by cases t)
  | anewarray f =>
    match o, S, hst, hk with
    | [k], .int x :: S, hst, hk =>
      have hk := Bool.and_eq_true_iff.mp hk
      have hk1 := Bool.and_eq_true_iff.mp hk.1
      have hm := of_decide_eq_true hk1.1
      simp only [stp] at hst
      obtain ⟨q1, q2⟩ := guardo_some hst
      have q1 := Bool.and_eq_true_iff.mp q1
      have hx := of_decide_eq_true q1.1
      have hx2 := of_decide_eq_true q1.2
      cases q2
      have e5 : hz (mkC h k x.toNatClampNeg x.toNatClampNeg) - hz h = 1 := by show hz h + 1 - hz h = 1; omega
      have e6 : hu (mkC h k x.toNatClampNeg x.toNatClampNeg) - hu h = x.toNatClampNeg := by show hu h + x.toNatClampNeg - hu h = _; omega
      have hr' : cells + 1 ≤ R.cells ∧ slots + x.toNatClampNeg ≤ R.slots := by
        have := hr; dsimp only at this; rw [e5, e6] at this; exact this
      have hcl := wat_AW hk1.2 rfl
      simp only [List.mem_cons, List.mem_nil_iff, or_false] at hm
      rcases hm with e | e | e | e | e
      · subst e; exact op_newr (cn := 3) (t := 4) C hd (of_decide_eq_true hk.2) hL hW hS hx hx2 rfl rfl hcl (AWof (over_ok 3 (by decide)) rfl) hr'.1 hr'.2 n
      · subst e; exact op_newr (cn := 4) (t := 5) C hd (of_decide_eq_true hk.2) hL hW hS hx hx2 rfl rfl hcl (AWof (over_ok 4 (by decide)) rfl) hr'.1 hr'.2 n
      · subst e; exact op_newr (cn := 6) (t := 6) C hd (of_decide_eq_true hk.2) hL hW hS hx hx2 rfl rfl hcl (AWof (over_ok 6 (by decide)) rfl) hr'.1 hr'.2 n
      · subst e; exact op_newr (cn := 7) (t := 7) C hd (of_decide_eq_true hk.2) hL hW hS hx hx2 rfl rfl hcl (AWof (over_ok 7 (by decide)) rfl) hr'.1 hr'.2 n
      · subst e; exact op_newr (cn := 8) (t := 8) C hd (of_decide_eq_true hk.2) hL hW hS hx hx2 rfl rfl hcl (AWof (over_ok 8 (by decide)) rfl) hr'.1 hr'.2 n
  | new f =>
    match o, hst, hk with
    | [cK], hst, hk =>
      have hk := Bool.and_eq_true_iff.mp hk
      have hk1 := Bool.and_eq_true_iff.mp hk.1
      have hc := of_decide_eq_true hk1.1
      cases hst
      have e5 : hz (mkC h cK 0 (fdn cK)) - hz h = 1 := by show hz h + 1 - hz h = 1; omega
      have e6 : hu (mkC h cK 0 (fdn cK)) - hu h = fdn cK := by show hu h + fdn cK - hu h = _; omega
      have hr' : cells + 1 ≤ R.cells ∧ slots + fdn cK ≤ R.slots := by
        have := hr; dsimp only at this; rw [e5, e6] at this; exact this
      exact op_new C hd (of_decide_eq_true hk.2) hL hW hS hc (wat_AW hk1.2 rfl) (AWof (made_ok cK hc).1 rfl) (AWof (made_ok cK hc).2 rfl) hr'.1 hr'.2 n
  | _ => exact absurd hst (fun t => by cases t)
end SIM
