section RUN
variable {p : Program} {l : Launch} {e : Env} {R : Room} {s : State} {m : MethodId} {args : Array Value} {below : List Frame} {meth : Method} {c : Code} {H : Heap} {locs : List Loc} {cells slots : Nat} {Q : State → Prop} {cc : ByteArray} {nL own pc : Nat} {ls : Array Slot} {g : GG} {hs h : AH} {P : List IR} {i : Nat} {L S : List Value}
theorem after_call {mc ms : Nat} {st0 rest : List Value} {z : Option Value × AH} {a : Array Value} (hr : va_Run p l e R s m args below meth c H locs cells slots mc ms (F0 m pc ls st0) rest (QcA g hs z a) (AA g)) (hS : va_S (AA g) s.heap H locs)
    (kk : ∀ (H1 : Heap) (locs1 : List Loc), RW g hs z.2 H1 → va_S (AA g) s.heap H1 locs1 → W p l e R s m args below meth c H1 locs1 (cells + mc) (slots + ms) Q (F0 m (pc + 3) ls ((z.1.map (ph g)).toList ++ rest))) : W p l e R s m args below meth c H locs cells slots Q (F0 m pc ls st0) := by
  intro T hT X
  obtain ⟨v, st₀, t, T', L, h0, X', hL, e1, e2, ⟨hv, hb, hz, hk⟩, st⟩ := hr T hT X
  cases hv
  rw [h0] at hz hk
  obtain ⟨t2, a1, b1⟩ := kk T'.heap (locs ++ L) (by rw [e1]; exact hb)
    ⟨Nat.le_trans hS.1 (by rw [e1]; exact hz), fun q h1 h2 => by rw [e1, hk q (Nat.lt_of_lt_of_le h1 hS.1) h2]; exact hS.2.1 q h1 h2, fun q hq => by
      rcases List.mem_append.mp hq with h | h
      · exact hS.2.2 q h
      · exact hL q h⟩ T' rfl X'
  exact ⟨t2, st t2 a1, b1⟩
theorem EV_of {U : State} (C : CX p s m args c cc nL own g hs) (hS : va_S (AA g) s.heap H locs) (hU : U.heap = H) (hW : s.WarmedH U.vm) : EV g hs U :=
  ⟨fun w hw => AW_at hW hw (C.2.2.2.2.1 w hw), va_K.moved hW.alike (K_of C), (S_of C).moved hW.alike (fun a h1 h2 => by rw [hU]; exact hS.2.1 a h1 h2), by rw [hU]; exact Nat.le_trans C.2.2.2.2.2.2.2 hS.1⟩
theorem pre_S (C : CX p s m args c cc nL own g hs) (hW : RW g hs h H) (hS : va_S (AA g) s.heap H locs) (a : List Value) : PreS s H (PcA g hs a h) (a.map (ph g)) :=
  ⟨PcA.blind, fun U hU hv => ⟨rfl, by rw [hU]; exact hW, EV_of C hS hU hv⟩⟩
theorem pre_V (C : CX p s m args c cc nL own g hs) (hW : RW g hs h H) (hS : va_S (AA g) s.heap H locs) {a : List Value} {r b k : Nat} {cn : String} (hb : ph g (.ref r) = .ref b) (hr : hK h r = k) (hk : (k < 13 ∧ (clk k).1 = cn) ∨ (k = 42 ∧ cn = "java/lang/String")) : PreV s H cn b (PcA g hs (.ref r :: a) h) (a.map (ph g)) := by
  refine ⟨PcA.blind, ?_, fun U hU hv => ⟨by rw [List.map_cons, hb], by rw [hU]; exact hW, EV_of C hS hU hv⟩⟩
  rcases hk with ⟨hk, rfl⟩ | ⟨hk, rfl⟩
  · obtain ⟨h0, h1⟩ := hW.own (a := r) (by omega)
    have hat := (hW.2.2.1 r h0 h1).2
    rw [cE_obj hr hk] at hat
    rw [ph_own h0] at hb
    cases hb
    exact va_recv (K_of C) (one_P hat) (clT_get hk) (q0 := 0) rfl
  · obtain ⟨ha, e1, -⟩ := st_of hW (a := r) (by omega) (by omega)
    obtain ⟨t, ht, hO⟩ := (S_of C).2.2.2.2.2.1 r ha (by omega)
    rw [ph_some ht] at hb
    cases hb
    exact va_Orecv hO hS
theorem call_B {d mc ms n : Nat} {t : MDt} {f k : Nat} {ML : List MDt} (C : CX p s m args c cc nL own g hs) (M : MOK ML t) (hR : d + 1 ≤ R.frames ∧ 64 * (d + 1) ≤ R.locals) (hl : Cond.methodLink (cnm own) f t.1 ∈ AW) (hn : (parseMethodDescriptor t.1.desc).map (fun d => d.parameters.length) = some n) :
    CallB R s args (cnm own) f t.1 t.2.1 t.2.2.1 t.2.2.2.1 [.code t.1 t.2.1 t.2.2.1 t.2.2.2.1] (rmD d mc ms) mc ms n := by
  obtain ⟨m1, m2, -, m4, -, -, -, m8, -⟩ := M
  refine ⟨rfl, rfl, hR.1, ?_, fun w hw a' U hU => ?_, List.mem_singleton.mpr rfl, C.2.2.2.2.1 _ m1, C.2.2.2.2.1 _ m2, m4, fun sig hs => ?_, C.2.2.2.2.1 _ hl⟩
  · show 8 + (t.2.2.1 + 11) + 64 * d ≤ R.locals
    omega
  · rw [List.mem_singleton.mp hw]; exact AW_at hU m1 (C.2.2.2.2.1 _ m1)
  · rw [hs] at hn; exact (Option.some.inj hn).symm
theorem call_N {d mc ms n : Nat} {t : MDt} {f k : Nat} {ML : List MDt} (C : CX p s m args c cc nL own g hs) (M : MOK ML t) (hR : d + 1 ≤ R.frames ∧ 64 * (d + 1) ≤ R.locals) (hl : Cond.methodLinkNest (cnm own) f t.1 "PenThatJumps" ∈ AW) (hn : (parseMethodDescriptor t.1.desc).map (fun d => d.parameters.length) = some n) :
    va_CN R s args (cnm own) f t.1 "PenThatJumps" t.2.1 t.2.2.1 t.2.2.2.1 [.code t.1 t.2.1 t.2.2.1 t.2.2.2.1] (rmD d mc ms) mc ms n := by
  obtain ⟨m1, m2, -, m4, -, -, -, m8, -⟩ := M
  refine ⟨⟨rfl, rfl, hR.1, ?_, fun w hw a' U hU => ?_, List.mem_singleton.mpr rfl⟩, C.2.2.2.2.1 _ m1, C.2.2.2.2.1 _ m2, m4, fun sig hs => ?_, C.2.2.2.2.1 _ hl⟩
  · show 8 + (t.2.2.1 + 11) + 64 * d ≤ R.locals
    omega
  · rw [List.mem_singleton.mp hw]; exact AW_at hU m1 (C.2.2.2.2.1 _ m1)
  · rw [hs] at hn; exact (Option.some.inj hn).symm
theorem callD_inv {ML : List MDt} {pr : Nat → Nat → AC} {d n y : Nat} {a : List Value} {h : AH} {z : Option Value × AH} {t : MDt} (q : callD ML pr d n y a h = some z) (ht : ML[y]? = some t) : ∃ d', d = d' + 1 ∧ rcv t a h = true ∧ rtk t.2.2.2.1 z.1 = true ∧ run (callD ML pr d' n) t.2.2.2.2.2.2 n 0 (lcs t.2.2.1 a) [] h = some z := by
  cases d with
  | zero => cases q
  | succ d =>
    unfold callD at q
    rw [ht] at q
    obtain ⟨q1, q2⟩ := guardo_some q
    obtain ⟨w, q3, q4⟩ := Option.bind_eq_some_iff.mp q2
    obtain ⟨q6, q5⟩ := guardo_some q4
    cases q5
    exact ⟨d, rfl, q1, q6, q3⟩
theorem cat_map (g : GG) (S : List Value) : (((S.map (ph g)).map fun v => v.category).sum) = (S.map fun v => v.category).sum := by
  rw [List.map_map]
  congr 1
  apply List.map_congr_left
  intro v _
  exact ph_cat2 g v
theorem ph_recv (hW : RW g hs h H) (C : CX p s m args c cc nL own g hs) {r k : Nat} {cn : String} (hr : hK h r = k) (hk : (k < 13 ∧ (clk k).1 = cn) ∨ (k = 42 ∧ cn = "java/lang/String")) : ∃ b, ph g (.ref r) = .ref b := by
  rcases hk with ⟨hk, -⟩ | ⟨hk, -⟩
  · exact ⟨_, ph_own (hW.own (a := r) (by omega)).1⟩
  · obtain ⟨ha, e1, -⟩ := st_of hW (a := r) (by omega) (by omega)
    obtain ⟨t, ht, -⟩ := (S_of C).2.2.2.2.2.1 r ha (by omega)
    exact ⟨t, ph_some ht⟩
theorem op_call {ML : List MDt} {pr : Nat → Nat → AC} {q : IR} {y k n d : Nat} {z : Option Value × AH} {t : MDt} (C : CX p s m args c cc nL own g hs) (hd : decode cc q.1 = .ok (q.2.1, ilen q.2.1 q.1)) (hic : isCall q.2.1 = true) (ho : q.2.2.1 = [y, k]) (hck : cck ML own P i q = true) (ht : ML[y]? = some t) (M : MOK ML t) (ct : CT l ML pr g hs d) (hR : d + 1 ≤ R.frames ∧ 64 * (d + 1) ≤ R.locals)
    (hL : LR g L nL ls) (hW : RW g hs h H) (hS : va_S (AA g) s.heap H locs) (hkl : k ≤ S.length) (hcat : ((S.drop k).map fun v => v.category).sum ≤ 8) (hz0 : callD ML pr d n y (S.take k).reverse h = some z) (hrm : cells + (hz z.2 - hz h) ≤ R.cells ∧ slots + (hu z.2 - hu h) ≤ R.slots)
    (kk : ∀ (H1 : Heap) (locs1 : List Loc), RW g hs z.2 H1 → va_S (AA g) s.heap H1 locs1 → W p l e R s m args below meth c H1 locs1 (cells + (hz z.2 - hz h)) (slots + (hu z.2 - hu h)) Q (F0 m (pcOf P (i + 1)) ls ((z.1.toList ++ S.drop k).map (ph g)))) : W p l e R s m args below meth c H locs cells slots Q (F0 m q.1 ls (S.map (ph g))) := by
  obtain ⟨pc, x, o, w⟩ := q
  dsimp only at hd hic ho ⊢
  subst ho
  obtain ⟨-, -, hM⟩ := ct y t ht n _ h z hz0
  obtain ⟨d', -, hrc, -, -⟩ := callD_inv hz0 ht
  have hck := Bool.and_eq_true_iff.mp hck
  have hp : pcOf P (i + 1) = pc + 3 := of_decide_eq_true hck.1
  have hck2 := hck.2
  have hfix : CallFix p m c cc nL s args AW (cnm own) := ⟨C.1, C.2.1, C.2.2.1, C.2.2.2.1, C.2.2.2.2.1⟩
  have hcat' : 2 * (F0 m pc ls (S.map (ph g))).monitorRoom + (((S.drop k).map (ph g)).map fun v => v.category).sum ≤ 8 := lv_room (by rw [cat_map]; exact hcat)
  have hsz : (F0 m pc ls (S.map (ph g))).locals.size = nL := hL.2.1
  have kk' : ∀ (H1 : Heap) (locs1 : List Loc), RW g hs z.2 H1 → va_S (AA g) s.heap H1 locs1 → W p l e R s m args below meth c H1 locs1 (cells + (hz z.2 - hz h)) (slots + (hu z.2 - hu h)) Q (F0 m (pc + 3) ls ((z.1.map (ph g)).toList ++ (S.drop k).map (ph g))) := by
    intro H1 l1 h1 h2
    have := kk H1 l1 h1 h2
    rw [hp, List.map_append] at this
    have e : z.1.toList.map (ph g) = (z.1.map (ph g)).toList := by cases z.1 <;> rfl
    rw [e] at this
    exact this
  have hsplit : S.map (ph g) = ((S.take k).reverse.map (ph g)).reverse ++ (S.drop k).map (ph g) := by
    rw [← List.map_reverse, List.reverse_reverse, ← List.map_append, List.take_append_drop]
  have hlen : (S.take k).reverse.length = k := by rw [List.length_reverse, List.length_take]; omega
  cases x with
  | invokestatic f =>
    simp only [ht] at hck2
    have u1 := Bool.and_eq_true_iff.mp hck2
    have u2 := Bool.and_eq_true_iff.mp u1.1
    have hrk : t.2.2.2.2.2.1 = 99 := of_decide_eq_true u2.1
    have hn := of_decide_eq_true u2.2
    have hst := C.2.2.2.2.1 _ (M.2.2.2.2.2.1 hrk)
    rcases Bool.or_eq_true_iff.mp u1.2 with u | u
    · exact after_call (va_runS hfix hM ⟨call_B (k := k) C M hR (wat_AW u rfl) hn, hst⟩ (pre_S C hW hS _) rfl (by rw [List.length_map]; exact hlen) hsz hsplit hcat' hd hrm) hS kk'
    · exact after_call (va_runSN hfix hM ⟨call_N (k := k) C M hR (wat_AW u rfl) hn, hst, trivial⟩ (pre_S C hW hS _) rfl (by rw [List.length_map]; exact hlen) hsz hsplit hcat' hd hrm) hS kk'
  | invokevirtual f =>
    simp only [ht] at hck2
    have u1 := Bool.and_eq_true_iff.mp hck2
    have u2 := Bool.and_eq_true_iff.mp u1.1
    have u3 := Bool.and_eq_true_iff.mp u2.1
    have hrk : t.2.2.2.2.2.1 ≠ 99 := of_decide_eq_true u3.1
    have hnm : t.1.name ≠ "<init>" := of_decide_eq_true u3.2
    have hn := of_decide_eq_true u2.2
    obtain ⟨hi1, hi2, hi3⟩ := M.2.2.2.2.2.2.1 hrk
    have hrec : ∃ (r : Nat) (a' : List Value), (S.take k).reverse = .ref r :: a' ∧ hK h r = t.2.2.2.2.2.1 := by
      unfold rcv at hrc
      have v1 := (Bool.and_eq_true_iff.mp hrc).2
      rcases Bool.or_eq_true_iff.mp v1 with v | v
      · exact absurd (of_decide_eq_true v) hrk
      · split at v
        · rename_i r a' e; exact ⟨r, a', e, of_decide_eq_true v⟩
        · cases v
    obtain ⟨r, a', ha, hkr⟩ := hrec
    obtain ⟨b, hb⟩ := ph_recv hW C hkr hi3
    rw [ha] at hM hsplit hlen
    have hst9 : S.map (ph g) = (a'.map (ph g)).reverse ++ .ref b :: (S.drop k).map (ph g) := by
      rw [hsplit, List.map_cons, hb, List.reverse_cons, List.append_assoc]; rfl
    have hn' : ∃ n', (parseMethodDescriptor t.1.desc).map (fun d => d.parameters.length) = some n' ∧ n' + 1 = k := by
      cases hpd : parseMethodDescriptor t.1.desc with
      | none => rw [hpd] at hn; cases hn
      | some sg => rw [hpd] at hn; exact ⟨_, rfl, Option.some.inj hn⟩
    obtain ⟨n', hn1, hn2⟩ := hn'
    have hal : (a'.map (ph g)).length = n' := by
      rw [List.length_map]; rw [List.length_cons] at hlen; omega
    have heq : (Value.ref b :: a'.map (ph g)) = (Value.ref r :: a').map (ph g) := by rw [List.map_cons, hb]
    have hi1' := C.2.2.2.2.1 _ hi1
    have hi2' := C.2.2.2.2.1 _ (hi2 hnm)
    rcases Bool.or_eq_true_iff.mp u1.2 with u | u
    · exact after_call (va_runV (C := t.1.cls) hfix hM ⟨call_B (k := k) C M hR (wat_AW u rfl) hn1, hi1', hi2'⟩ (pre_V C hW hS hb hkr hi3) rfl hal hsz hst9 hcat' hd hrm) hS kk'
    · exact after_call (va_runVN (C := t.1.cls) hfix hM ⟨call_N (k := k) C M hR (wat_AW u rfl) hn1, hi1', hi2'⟩ (pre_V C hW hS hb hkr hi3) rfl hal hsz hst9 hcat' hd hrm) hS kk'
  | invokespecial f =>
    simp only [ht] at hck2
    have u1 := Bool.and_eq_true_iff.mp hck2
    have u2 := Bool.and_eq_true_iff.mp u1.1
    have u3 := Bool.and_eq_true_iff.mp u2.1
    have u4 := Bool.and_eq_true_iff.mp u3.1
    have hrk : t.2.2.2.2.2.1 ≠ 99 := of_decide_eq_true u4.1
    have hnm : t.1.name = "<init>" := of_decide_eq_true u4.2
    have hret : t.2.2.2.1 = none := of_decide_eq_true u3.2
    have hn := of_decide_eq_true u2.2
    obtain ⟨hi1, hi2, hi3⟩ := M.2.2.2.2.2.2.1 hrk
    have hrec : ∃ (r : Nat) (a' : List Value), (S.take k).reverse = .ref r :: a' ∧ hK h r = t.2.2.2.2.2.1 := by
      unfold rcv at hrc
      have v1 := (Bool.and_eq_true_iff.mp hrc).2
      rcases Bool.or_eq_true_iff.mp v1 with v | v
      · exact absurd (of_decide_eq_true v) hrk
      · split at v
        · rename_i r a' e; exact ⟨r, a', e, of_decide_eq_true v⟩
        · cases v
    obtain ⟨r, a', ha, hkr⟩ := hrec
    obtain ⟨b, hb⟩ := ph_recv hW C hkr hi3
    rw [ha] at hM hsplit hlen
    have hst9 : S.map (ph g) = (a'.map (ph g)).reverse ++ .ref b :: (S.drop k).map (ph g) := by
      rw [hsplit, List.map_cons, hb, List.reverse_cons, List.append_assoc]; rfl
    have hn' : ∃ n', (parseMethodDescriptor t.1.desc).map (fun d => d.parameters.length) = some n' ∧ n' + 1 = k := by
      cases hpd : parseMethodDescriptor t.1.desc with
      | none => rw [hpd] at hn; cases hn
      | some sg => rw [hpd] at hn; exact ⟨_, rfl, Option.some.inj hn⟩
    obtain ⟨n', hn1, hn2⟩ := hn'
    have hal : (a'.map (ph g)).length = n' := by
      rw [List.length_map]; rw [List.length_cons] at hlen; omega
    have heq : (Value.ref b :: a'.map (ph g)) = (Value.ref r :: a').map (ph g) := by rw [List.map_cons, hb]
    have hi1' := C.2.2.2.2.1 _ hi1
    have hpre : PreS s H (PcA g hs (.ref r :: a') h) (.ref b :: a'.map (ph g)) := by rw [heq]; exact pre_S C hW hS _
    rcases Bool.or_eq_true_iff.mp u1.2 with u | u
    · have hB := call_B (k := k) (d := d) (mc := hz z.2 - hz h) (ms := hu z.2 - hu h) C M hR (wat_AW u rfl) hn1
      rw [hret] at hB hM
      exact after_call (va_runI hfix hM ⟨hB, hnm, hi1'⟩ hpre rfl hal hsz hst9 hcat' hd hrm) hS kk'
    · have hB := call_N (k := k) (d := d) (mc := hz z.2 - hz h) (ms := hu z.2 - hu h) C M hR (wat_AW u rfl) hn1
      rw [hret] at hB hM
      exact after_call (va_runIN hfix hM ⟨hB, hnm, hi1'⟩ hpre rfl hal hsz hst9 hcat' hd hrm) hS kk'
  | _ => cases hic
end RUN
