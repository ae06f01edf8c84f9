/-! THE SMALL MACHINE IS SOUND -/
section SOUND
variable {p : Program} {l : Launch} {e : Env} {R : Room} {s : State} {m : MethodId} {args : Array Value} {below : List Frame} {meth : Method} {c : Code} {Q : State → Prop} {cc : ByteArray} {nL own : Nat} {g : GG} {hs : AH} {P : List IR}
/-- every instruction of a piece of code stands as it must -/
def POK (ML : List MDt) (cc : ByteArray) (own : Nat) (ini : Bool) (P : List IR) : Prop := ∀ (i : Nat) (q : IR), P[i]? = some q → (q.2.1 = .nop ∨ decode cc q.1 = .ok (q.2.1, ilen q.2.1 q.1)) ∧ (isRet q.2.1 = true ∨ (isCall q.2.1 = true ∧ cck ML own P i q = true) ∨ (isRet q.2.1 = false ∧ isCall q.2.1 = false ∧ ick own ini P i q = true))
theorem isRet_call {x : Instr} (h : isRet x = true) : isCall x = false := by cases x <;> first | rfl | cases h
theorem pcOf_at {P : List IR} {i : Nat} {q : IR} (h : P[i]? = some q) : pcOf P i = q.1 := by
  unfold pcOf; rw [List.getD_eq_getElem?_getD, h]; rfl
theorem prm301_inv {a : List Value} {h : AH} {w : Option Value × AH} {d n0 : Nat} (q : prm d n0 301 a h = some w) : ∃ r, a = [.ref r] ∧ 100 ≤ r ∧ w = (none, h) := by
  match a, q with
  | [.ref r], q =>
    obtain ⟨r1, r2⟩ := guardo_some (show guardo (decide (100 ≤ r)) (some (none, h)) = some w from q)
    exact ⟨r, rfl, of_decide_eq_true r1, (Option.some.inj r2).symm⟩
theorem prm300_inv {a : List Value} {h : AH} {w : Option Value × AH} {d n0 : Nat} (q : prm d n0 300 a h = some w) : ∃ (a0 a1 : Nat) (n : Int32), a = [.ref a0, .int 0, .ref a1, .int 0, .int n] ∧ 0 ≤ n ∧ hK h a0 = 20 ∧ hK h a1 = 20 ∧ a0 ≠ a1 ∧ n.toNatClampNeg ≤ hN h a0 ∧ n.toNatClampNeg ≤ hN h a1 ∧ w = (none, cpy h a0 a1 n.toNatClampNeg) := by
  match a, q with
  | [.ref a0, .int sp, .ref a1, .int tp, .int n], q =>
    obtain ⟨r1, r2⟩ := guardo_some (show guardo (decide (sp = 0 ∧ tp = 0 ∧ 0 ≤ n ∧ hK h a0 = 20 ∧ hK h a1 = 20 ∧ a0 ≠ a1 ∧ n.toNatClampNeg ≤ hN h a0 ∧ n.toNatClampNeg ≤ hN h a1)) (some (none, cpy h a0 a1 n.toNatClampNeg)) = some w from q)
    obtain ⟨rfl, rfl, r3, r4, r5, r6, r7, r8⟩ := of_decide_eq_true r1
    exact ⟨a0, a1, n, rfl, r3, r4, r5, r6, r7, r8, (Option.some.inj r2).symm⟩
/-- what is owed of a call that is no method of the list -/
def PRM (l : Launch) (ML : List MDt) (pr : Nat → Nat → AC) (g : GG) (hs : AH) : Prop := ∀ (p : Program) (e : Env) (R : Room) (s : State) (m : MethodId) (args : Array Value) (below : List Frame) (meth : Method) (c : Code) (Q : State → Prop) (cc : ByteArray) (nL own : Nat) (P : List IR) (i : Nat) (L S : List Value) (h : AH) (H : Heap) (ls : Array Slot) (locs : List Loc) (cells slots d nn : Nat) (q : IR) (y k : Nat) (w : Option Value × AH),
  CX p s m args c cc nL own g hs → decode cc q.1 = .ok (q.2.1, ilen q.2.1 q.1) → isCall q.2.1 = true → q.2.2.1 = [y, k] → cck ML own P i q = true → ML[y]? = none → d + 2 ≤ R.frames ∧ 64 * (d + 2) ≤ R.locals → LR g L nL ls → RW g hs h H → va_S (AA g) s.heap H locs → k ≤ S.length → ((S.drop k).map fun v => v.category).sum ≤ 8 → pr d nn y (S.take k).reverse h = some w → cells + (hz w.2 - hz h) ≤ R.cells ∧ slots + (hu w.2 - hu h) ≤ R.slots →
  (∀ (H1 : Heap) (locs1 : List Loc), RW g hs w.2 H1 → va_S (AA g) s.heap H1 locs1 → W p l e R s m args below meth c H1 locs1 (cells + (hz w.2 - hz h)) (slots + (hu w.2 - hu h)) Q (F0 m (pcOf P (i + 1)) ls ((w.1.toList ++ S.drop k).map (ph g)))) → W p l e R s m args below meth c H locs cells slots Q (F0 m q.1 ls (S.map (ph g)))
set_option maxRecDepth 100000 in
theorem math_ok : Cond.static Lib.Math.max.name ∈ lw_tbl ∧ Cond.code Lib.Math.max.name Lib.Math.max.code 2 (some .int) ∈ lw_tbl ∧ Cond.static Lib.Math.min.name ∈ lw_tbl ∧ Cond.code Lib.Math.min.name Lib.Math.min.code 2 (some .int) ∈ lw_tbl ∧ Cond.static Lib.Math.abs.name ∈ lw_tbl ∧ Cond.code Lib.Math.abs.name Lib.Math.abs.code 1 (some .int) ∈ lw_tbl ∧ Cond.initialized "java/lang/Math" ∈ lw_tbl := by decide +kernel
theorem prm306_inv {a : List Value} {h : AH} {w : Option Value × AH} {d n0 : Nat} (q : prm d n0 306 a h = some w) : ∃ x y : Int32, a = [.int x, .int y] ∧ w = (some (.int (if x < y then y else x)), h) := by
  match a, q with
  | [.int x, .int y], q => exact ⟨x, y, rfl, (Option.some.inj q).symm⟩
theorem prm307_inv {a : List Value} {h : AH} {w : Option Value × AH} {d n0 : Nat} (q : prm d n0 307 a h = some w) : ∃ x y : Int32, a = [.int x, .int y] ∧ w = (some (.int (if y < x then y else x)), h) := by
  match a, q with
  | [.int x, .int y], q => exact ⟨x, y, rfl, (Option.some.inj q).symm⟩
theorem prm308_inv {a : List Value} {h : AH} {w : Option Value × AH} {d n0 : Nat} (q : prm d n0 308 a h = some w) : ∃ x : Int32, a = [.int x] ∧ w = (some (.int (if 0 ≤ x then x else 0 - x)), h) := by
  match a, q with
  | [.int x], q => exact ⟨x, rfl, (Option.some.inj q).symm⟩
theorem prm_none {y d n0 : Nat} {a : List Value} {h : AH} {w : Option Value × AH} (q : prm d n0 y a h = some w) : y = 300 ∨ y = 301 ∨ y = 306 ∨ y = 307 ∨ y = 308 := by
  unfold prm at q
  split at q <;> first | (cases q; done) | simp
theorem prm_rule {l : Launch} {ML : List MDt} {g : GG} {hs : AH} : PRM l ML prm g hs := by
  intro p e R s m args below meth c Q cc nL own P i L S h H ls locs cells slots d nn q y k w C hd hcall ho hck ht hR hL hW hS hkl hcat hc1 hroom next
  obtain ⟨pc, x, o, wd⟩ := q
  dsimp only at ho hcall hd ⊢
  subst ho
  have hck := Bool.and_eq_true_iff.mp hck
  have hp : pcOf P (i + 1) = pc + 3 := of_decide_eq_true hck.1
  have hck2 := hck.2
  have hR' : 1 ≤ R.frames ∧ 64 ≤ R.locals := by omega
  have hts := C.2.2.2.2.1
  cases x with
  | invokevirtual f => simp only [ht] at hck2; cases hck2
  | invokespecial f =>
    simp only [ht] at hck2
    have u1 := Bool.and_eq_true_iff.mp hck2
    have u2 := Bool.and_eq_true_iff.mp u1.1
    have e1 : y = 301 := of_decide_eq_true u2.1
    have e2 : k = 1 := of_decide_eq_true u2.2
    subst e1; subst e2
    obtain ⟨r, hr1, hr2, rfl⟩ := prm301_inv hc1
    match S, hkl, hr1, hcat, next with
    | v :: S, hkl, hr1, hcat, next =>
      have hvr : v = .ref r := by simpa using hr1
      subst hvr
      have nx := next H locs hW hS
      rw [hp] at nx
      simp only [Nat.sub_self, Nat.add_zero] at nx
      exact op_objInit C hd (wat_AW u1.2 rfl) hR' hL hr2 hcat nx
  | invokestatic f =>
    simp only [ht] at hck2
    obtain ⟨t, htm, hck3⟩ := List.any_eq_true.mp hck2
    have u1 := Bool.and_eq_true_iff.mp hck3
    have u2 := Bool.and_eq_true_iff.mp u1.1
    have e1 : t.1 = y := of_decide_eq_true u2.1
    have e2 : t.2.1 = k := of_decide_eq_true u2.2
    have hlk := wat_AW u1.2 rfl
    have hml : c.maxLocals = ls.size := by rw [C.2.2.1]; exact hL.2.1.symm
    have hcl : cells ≤ R.cells ∧ slots ≤ R.slots := by omega
    have hyy := prm_none hc1
    simp only [prT, List.mem_cons, List.mem_nil_iff, or_false] at htm
    rcases htm with rfl | rfl | rfl | rfl | rfl | rfl | rfl
    · dsimp only at e1 e2 hlk
      subst e1; subst e2
      obtain ⟨a0, a1, nv, hr1, r3, r4, r5, r6, r7, r8, rfl⟩ := prm300_inv hc1
      match S, hkl, hr1, hcat, next with
      | v1 :: v2 :: v3 :: v4 :: v5 :: S, hkl, hr1, hcat, next =>
        have hh : v5 = .ref a0 ∧ v4 = .int 0 ∧ v3 = .ref a1 ∧ v2 = .int 0 ∧ v1 = .int nv := by
          simpa using hr1
        obtain ⟨rfl, rfl, rfl, rfl, rfl⟩ := hh
        refine op_copy C hd hlk hR' hL hW hS hcat r3 r4 r5 r6 r7 r8 (fun H1 l1 k1 k2 => ?_)
        have nx := next H1 l1 k1 k2
        rw [hp] at nx
        have z5 : hz (cpy h a0 a1 nv.toNatClampNeg) = hz h := rfl
        have z6 : hu (cpy h a0 a1 nv.toNatClampNeg) = hu h := rfl
        simp only [z5, z6, Nat.sub_self, Nat.add_zero] at nx
        exact nx
    · dsimp only at e1 e2 hlk
      subst e1; subst e2
      obtain ⟨x, y, hr1, rfl⟩ := prm306_inv hc1
      match S, hkl, hr1, hcat, next with
      | v1 :: v2 :: S, hkl, hr1, hcat, next =>
        have hh : v2 = .int x ∧ v1 = .int y := by simpa using hr1
        obtain ⟨rfl, rfl⟩ := hh
        have nx := next H locs hW hS
        rw [hp] at nx
        simp only [Nat.sub_self, Nat.add_zero] at nx
        exact va_mmax C.1 C.2.1 hml C.2.2.2.1 (hts _ hlk) (hts _ (AWof math_ok.1 rfl)) (hts _ (AWof math_ok.2.2.2.2.2.2 rfl)) (hts _ (AWof math_ok.2.1 rfl)) hR'.1 (by rw [cat_map]; have : ((S).map fun v => v.category).sum ≤ 8 := hcat; omega) hcl.1 hcl.2 hd nx
    · dsimp only at e1 e2 hlk
      subst e1; subst e2
      obtain ⟨x, y, hr1, rfl⟩ := prm307_inv hc1
      match S, hkl, hr1, hcat, next with
      | v1 :: v2 :: S, hkl, hr1, hcat, next =>
        have hh : v2 = .int x ∧ v1 = .int y := by simpa using hr1
        obtain ⟨rfl, rfl⟩ := hh
        have nx := next H locs hW hS
        rw [hp] at nx
        simp only [Nat.sub_self, Nat.add_zero] at nx
        exact va_mmin C.1 C.2.1 hml C.2.2.2.1 (hts _ hlk) (hts _ (AWof math_ok.2.2.1 rfl)) (hts _ (AWof math_ok.2.2.2.2.2.2 rfl)) (hts _ (AWof math_ok.2.2.2.1 rfl)) hR'.1 (by rw [cat_map]; have : ((S).map fun v => v.category).sum ≤ 8 := hcat; omega) hcl.1 hcl.2 hd nx
    · dsimp only at e1 e2 hlk
      subst e1; subst e2
      obtain ⟨x, hr1, rfl⟩ := prm308_inv hc1
      match S, hkl, hr1, hcat, next with
      | v1 :: S, hkl, hr1, hcat, next =>
        have hh : v1 = .int x := by simpa using hr1
        subst hh
        have nx := next H locs hW hS
        rw [hp] at nx
        simp only [Nat.sub_self, Nat.add_zero] at nx
        exact va_mabs C.1 C.2.1 hml C.2.2.2.1 (hts _ hlk) (hts _ (AWof math_ok.2.2.2.2.1 rfl)) (hts _ (AWof math_ok.2.2.2.2.2.2 rfl)) (hts _ (AWof math_ok.2.2.2.2.2.1 rfl)) hR'.1 (by rw [cat_map]; have : ((S).map fun v => v.category).sum ≤ 8 := hcat; omega) hcl.1 hcl.2 hd nx
    · dsimp only at e1; omega
    · dsimp only at e1; omega
    · dsimp only at e1; omega
  | _ => cases hcall
theorem sim_run {ML : List MDt} {pr : Nat → Nat → AC} {d nn : Nat} {ini : Bool} (C : CX p s m args c cc nL own g hs) (hP : POK ML cc own ini P) (hini : ini = true → meth.name = "<init>") (hM : ∀ (y : Nat) (t : MDt), ML[y]? = some t → MOK ML t) (hpg : ∀ d n y a h z, pr d n y a h = some z → hz h ≤ hz z.2 ∧ hu h ≤ hu z.2) (prr : PRM l ML pr g hs) (ct : CT l ML pr g hs d) (hR : d + 1 ≤ R.frames ∧ 64 * (d + 1) ≤ R.locals) :
    ∀ (n i : Nat) (L S : List Value) (h : AH) (z : Option Value × AH) (H : Heap) (ls : Array Slot) (locs : List Loc) (cells slots : Nat), run (callD ML pr d nn) P n i L S h = some z → LR g L nL ls → RW g hs h H → va_S (AA g) s.heap H locs → cells + (hz z.2 - hz h) ≤ R.cells ∧ slots + (hu z.2 - hu h) ≤ R.slots →
    (∀ (x : Instr) (pc' : Nat) (S' : List Value) (H' : Heap) (ls' : Array Slot) (locs' : List Loc), isRet x = true → (x = .nop ∨ decode cc pc' = .ok (x, ilen x pc')) → retv x S' = some z.1 → RW g hs z.2 H' → va_S (AA g) s.heap H' locs' → W p l e R s m args below meth c H' locs' (cells + (hz z.2 - hz h)) (slots + (hu z.2 - hu h)) Q (F0 m pc' ls' (S'.map (ph g)))) →
    W p l e R s m args below meth c H locs cells slots Q (F0 m (pcOf P i) ls (S.map (ph g)))
  | 0, i, L, S, h, z, H, ls, locs, cells, slots, hrun, hL, hW, hS, hroom, K => by cases hrun
  | n + 1, i, L, S, h, z, H, ls, locs, cells, slots, hrun, hL, hW, hS, hroom, K => by
    have hgrow := callD_grow (ML := ML) (pr := pr) hpg d nn
    unfold run at hrun
    split at hrun
    · cases hrun
    · rename_i q hq
      obtain ⟨hd, hcase⟩ := hP i q hq
      rw [pcOf_at hq]
      split at hrun
      · rename_i hret
        cases hv : retv q.2.1 S with
        | none => rw [hv] at hrun; cases hrun
        | some v =>
          rw [hv] at hrun
          cases hrun
          have := K q.2.1 q.1 S H ls locs hret hd hv hW hS
          simp only [Nat.sub_self, Nat.add_zero] at this
          exact this
      · rename_i hret
        split at hrun
        · rename_i hcall
          have hck : cck ML own P i q = true := by
            rcases hcase with u | u | u
            · exact absurd u hret
            · exact u.2
            · rw [u.2.1] at hcall; cases hcall
          split at hrun
          · rename_i y k ho
            obtain ⟨g1, hrun⟩ := guardo_some hrun
            have g1 := Bool.and_eq_true_iff.mp g1
            have hkl : k ≤ S.length := of_decide_eq_true g1.1
            have hcat : ((S.drop k).map fun v => v.category).sum ≤ 8 := of_decide_eq_true g1.2
            obtain ⟨w, hc1, hrun⟩ := Option.bind_eq_some_iff.mp hrun
            have gw := hgrow _ _ _ _ hc1
            have gz := run_grow hgrow n _ _ _ _ _ hrun
            have hrm : cells + (hz w.2 - hz h) ≤ R.cells ∧ slots + (hu w.2 - hu h) ≤ R.slots := by omega
            have next : ∀ (H1 : Heap) (locs1 : List Loc), RW g hs w.2 H1 → va_S (AA g) s.heap H1 locs1 → W p l e R s m args below meth c H1 locs1 (cells + (hz w.2 - hz h)) (slots + (hu w.2 - hu h)) Q (F0 m (pcOf P (i + 1)) ls ((w.1.toList ++ S.drop k).map (ph g))) := by
              intro H1 l1 hW1 hS1
              refine sim_run C hP hini hM hpg prr ct hR n (i + 1) L (w.1.toList ++ S.drop k) w.2 z H1 ls l1 _ _ hrun hL hW1 hS1 (by omega) ?_
              intro x pc' S' H' ls' locs' k1 k2 k3 k4 k5
              have := K x pc' S' H' ls' locs' k1 k2 k3 k4 k5
              rw [show cells + (hz w.2 - hz h) + (hz z.2 - hz w.2) = cells + (hz z.2 - hz h) by omega, show slots + (hu w.2 - hu h) + (hu z.2 - hu w.2) = slots + (hu z.2 - hu h) by omega]
              exact this
            have hd' : decode cc q.1 = .ok (q.2.1, ilen q.2.1 q.1) := by
              rcases hd with u | u
              · rw [u] at hcall; cases hcall
              · exact u
            cases ht : ML[y]? with
            | some t => exact op_call (k := k) C hd' hcall ho hck ht (hM y t ht) ct hR hL hW hS hkl hcat hc1 hrm next
            | none =>
              cases d with
              | zero => cases hc1
              | succ d =>
                simp only [callD, ht] at hc1
                exact prr p e R s m args below meth c Q cc nL own P i L S h H ls locs cells slots d nn q y k w C hd' hcall ho hck ht hR hL hW hS hkl hcat hc1 hrm next
          · cases hrun
        · rename_i hcall
          have hick : ick own ini P i q = true := by
            rcases hcase with u | u | u
            · exact absurd u hret
            · exact absurd u.1 hcall
            · exact u.2.2
          obtain ⟨w, hst, hrun⟩ := Option.bind_eq_some_iff.mp hrun
          have gw := stp_grow hst
          have gz := run_grow hgrow n _ _ _ _ _ hrun
          have hd' : decode cc q.1 = .ok (q.2.1, ilen q.2.1 q.1) := by
            rcases hd with u | u
            · rw [u] at hret; exact absurd rfl hret
            · exact u
          refine sim_step C hd' hick hini hL hW hS hst (by omega) ?_
          intro ls' H' locs' hL' hW' hS'
          refine sim_run C hP hini hM hpg prr ct hR n w.1 w.2.1 w.2.2.1 w.2.2.2 z H' ls' locs' _ _ hrun hL' hW' hS' (by omega) ?_
          intro x pc' S' H'' ls'' locs'' k1 k2 k3 k4 k5
          have := K x pc' S' H'' ls'' locs'' k1 k2 k3 k4 k5
          rw [show cells + (hz w.2.2.2 - hz h) + (hz z.2 - hz w.2.2.2) = cells + (hz z.2 - hz h) by omega, show slots + (hu w.2.2.2 - hu h) + (hu z.2 - hu w.2.2.2) = slots + (hu z.2 - hu h) by omega]
          exact this
theorem met_all (l : Launch) (g : GG) (hs : AH) {ML : List MDt} (hM : ∀ (y : Nat) (t : MDt), ML[y]? = some t → MOK ML t) {pr : Nat → Nat → AC} (hpg : ∀ d n y a h z, pr d n y a h = some z → hz h ≤ hz z.2 ∧ hu h ≤ hu z.2) (prr : PRM l ML pr g hs) : ∀ d, CT l ML pr g hs d
  | 0 => fun y t ht n a h z q => by cases q
  | d + 1 => fun y t ht n a h z q => by
    have ih := met_all l g hs hM hpg prr d
    have hgr := callD_grow (ML := ML) (pr := pr) hpg (d + 1) n y a h z q
    obtain ⟨d', hd', hrc, hrt, hrun⟩ := callD_inv q ht
    cases hd'
    refine ⟨hgr.1, hgr.2, ?_⟩
    have M := hM y t ht
    obtain ⟨m1, m2, m3, m4, m5, m6, m7, m8, m9, m10⟩ := M
    refine Met.ofW (cc := t.2.1) (maxL := t.2.2.1) (ret := t.2.2.2.1) m3 rfl ?_
    intro p e s m args below meth c s₁ B hml hv
    obtain ⟨rfl, hW, hE1, hE2, hE3, hE4⟩ := hv
    have hown : s.vm.findClass t.1.cls = some m.cls := findClass_of_methodNamed B.named
    have C : CX p s m (a.map (ph g)).toArray c t.2.1 t.2.2.1 t.2.2.2.2.1 g hs := ⟨B.exec, B.bytes, hml, by rw [← m5]; exact hown, fun w hw => AW_at (State.WarmedH.refl s) hw (hE1 w hw), hE2, hE3, hE4⟩
    have hfl : (flat a).length ≤ t.2.2.1 := of_decide_eq_true (Bool.and_eq_true_iff.mp hrc).1
    rw [lg_entry_eq]
    have hL := LR.entry g a (n := t.2.2.1) hfl
    generalize ((lg_sl (a.map (ph g)) ++ List.replicate (t.2.2.1 - (lg_sl (a.map (ph g))).length) Slot.unset).toArray) = ls at hL ⊢
    have hlocks := B.notSynchronized
    have hr := B.returns
    have hS0 : va_S (AA g) s.heap s.heap [] := va_S.rf
    have K0 := sim_run (p := p) (l := l) (e := e) (R := rmD (d + 1) (hz z.2 - hz h) (hu z.2 - hu h)) (below := below) (meth := meth) (Q := MQ below (QcA g hs z) (a.map (ph g)).toArray s (hz z.2 - hz h) (hu z.2 - hu h) (AA g)) (ini := decide (t.1.name = "<init>")) C (fun i q hq => ⟨Or.inr (m10 i q hq).1, (m10 i q hq).2⟩) (fun hq => by
        rw [(name_of_methodNamed B.named B.method).1]; exact of_decide_eq_true hq) hM hpg prr ih ⟨Nat.le_refl _, Nat.le_refl _⟩ n 0 (lcs t.2.2.1 a) [] h z s.heap ls [] 0 0 hrun hL hW hS0 (by show 0 + _ ≤ (hz z.2 - hz h) ∧ 0 + _ ≤ (hu z.2 - hu h); omega) ?_
    · rw [m9] at K0
      exact K0
    · intro x pc' S' H' ls' locs' k1 k2 k3 k4 k5
      rw [Nat.zero_add, Nat.zero_add]
      have hq : ∀ t' : State, t'.heap = H' → s.WarmedH t'.vm → QcA g hs z (a.map (ph g)).toArray s (.returned (z.1.map (ph g))) t' := fun t' e1 _ => ⟨rfl, by rw [e1]; exact k4, k5.F e1⟩
      have hx : x ≠ .nop := by
        intro e; subst e
        match S', k3 with
        | [], k3 =>
          have e1 : z.1 = some .null := (Option.some.inj k3).symm
          rw [e1] at hrt
          unfold rtk at hrt
          split at hrt <;> first | (cases hrt; done) | (rename_i h2; cases h2; done) | (rename_i h1 h2; cases h2; done) | (rename_i h1 h2 h3; cases h3)
      have k2 := k2.resolve_left hx
      cases x with
      | ireturn =>
        match S', k3 with
        | [.int v], k3 =>
          have e1 : z.1 = some (.int v) := (Option.some.inj k3).symm
          rw [e1] at hq hrt
          cases hty : t.2.2.2.1 with
          | none => rw [hty] at hrt; cases hrt
          | some ty =>
            rw [hty] at hrt hr
            have hn : narrow ty (.int v) = .int v := by
              unfold rtk at hrt
              exact of_decide_eq_true hrt
            exact W.zret B.exec B.bytes hr hn hq k5.2.2 k2
      | lreturn =>
        match S', k3 with
        | [.long v], k3 =>
          have e1 : z.1 = some (.long v) := (Option.some.inj k3).symm
          rw [e1] at hq hrt
          have hty : t.2.2.2.1 = some .long := by
            unfold rtk at hrt
            split at hrt <;> first | assumption | (rename_i h1 h2; cases h2) | cases hrt | (rename_i h1; cases h1)
          rw [hty] at hr
          exact W.lret B.exec B.bytes hr hq k5.2.2 k2
      | areturn =>
        match S', k3 with
        | [.ref v], k3 =>
          have e1 : z.1 = some (.ref v) := (Option.some.inj k3).symm
          rw [e1] at hq hrt
          have hty : ∃ rt, t.2.2.2.1 = some rt ∧ ((∃ n, rt = .object n) ∨ ∃ u, rt = .array u) := by
            cases hty : t.2.2.2.1 with
            | none => rw [hty] at hrt; cases hrt
            | some ty =>
              rw [hty] at hrt
              cases ty <;> first | (cases hrt; done) | exact ⟨_, rfl, Or.inl ⟨_, rfl⟩⟩ | exact ⟨_, rfl, Or.inr ⟨_, rfl⟩⟩
          obtain ⟨rt, hty, hrt2⟩ := hty
          rw [hty] at hr
          have hv : ph g (.ref v) = .null ∨ ∃ b, ph g (.ref v) = .ref b := by
            show va_rf (rq g v) = _ ∨ ∃ b, va_rf (rq g v) = _
            cases rq g v with
            | none => exact Or.inl rfl
            | some b => exact Or.inr ⟨b, rfl⟩
          exact W.aret B.exec B.bytes hr hrt2 hv hq k5.2.2 k2
      | return_ =>
        match S', k3 with
        | [], k3 =>
          have e1 : z.1 = none := (Option.some.inj k3).symm
          rw [e1] at hq hrt
          have hty : t.2.2.2.1 = none := by
            cases hty : t.2.2.2.1 with
            | none => rfl
            | some ty => rw [hty] at hrt; cases ty <;> cases hrt
          rw [hty] at hr
          exact W.vret B.exec B.bytes hr hq k5.2.2 k2
      | nop => exact absurd rfl hx
      | _ => cases k1
end SOUND
