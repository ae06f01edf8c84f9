--deps: a4.xrun
/-! THE RUN OF A CODE AGAINST CALLS AT ONE STATE ALONE -/
def PRMS (l : Launch) (ML : List MDt) (pr : Nat → Nat → AC) (g : GG) (hs : AH) (b : Nat) (s : State) : Prop := ∀ (p : Program) (e : Env) (R : Room) (m : MethodId) (args : Array Value) (below : List Frame) (meth : Method) (c : Code) (Q : State → Prop) (cc : ByteArray) (nL own : Nat) (P : List IR) (i : Nat) (L S : List Value) (h : AH) (H : Heap) (ls : Array Slot) (locs : List Loc) (cells slots d nn : Nat) (q : IR) (y k : Nat) (w : Option Value × AH),
  CX p s m args c cc nL own g hs → decode cc q.1 = .ok (q.2.1, ilen q.2.1 q.1) → isCall q.2.1 = true → q.2.2.1 = [y, k] → cck ML own P i q = true → ML[y]? = none → d + b ≤ R.frames ∧ 64 * (d + b) ≤ R.locals → LR g L nL ls → RW g hs h H → va_S (AA g) s.heap H locs → k ≤ S.length → ((S.drop k).map fun v => v.category).sum ≤ 8 → pr d nn y (S.take k).reverse h = some w → cells + (hz w.2 - hz h) ≤ R.cells ∧ slots + (hu w.2 - hu h) ≤ R.slots →
  (∀ (H1 : Heap) (locs1 : List Loc), RW g hs w.2 H1 → va_S (AA g) s.heap H1 locs1 → W p l e R s m args below meth c H1 locs1 (cells + (hz w.2 - hz h)) (slots + (hu w.2 - hu h)) Q (F0 m (pcOf P (i + 1)) ls ((w.1.toList ++ S.drop k).map (ph g)))) → W p l e R s m args below meth c H locs cells slots Q (F0 m q.1 ls (S.map (ph g)))
theorem tsw_next' {ts : List Nat} {d n i : Nat} : ts.getD n 0 = i + 1 ∨ ts.getD n 0 ∈ d :: ts ∨ ts.getD n 0 = 0 := by
  rw [List.getD_eq_getElem?_getD]
  cases e : ts[n]? with
  | none => exact Or.inr (Or.inr rfl)
  | some v => exact Or.inr (Or.inl (List.mem_cons_of_mem _ (List.mem_of_getElem? e)))
theorem stp_next {x : Instr} {o : List Nat} {i : Nat} {L S : List Value} {h : AH} {z : AS} (q : stp x o i L S h = some z) : z.1 = i + 1 ∨ z.1 ∈ o ∨ z.1 = 0 := by
  cases x <;> simp only [stp, ldI, ldJ, ldA, stI, stJ, stA, biI, biJ, biS, aldI, guardo] at q <;> (repeat' split at q) <;>
    first | (cases q; done) | (cases q; exact Or.inl rfl) | (cases q; exact tsw_next') | (cases q; exact Or.inr (Or.inl (by simp)))
def RGO (P : List IR) (Rg : Nat → Prop) : Prop := Rg 0 ∧ ∀ i q, P[i]? = some q → Rg i → isRet q.2.1 = false → Rg (i + 1) ∧ ∀ t ∈ q.2.2.1, isCall q.2.1 = false → Rg t
section GO
variable {p : Program} {l : Launch} {e : Env} {R : Room} {s : State} {m : MethodId} {args : Array Value} {below : List Frame} {meth : Method} {c : Code} {Q : State → Prop} {cc : ByteArray} {nL own : Nat} {g : GG} {hs : AH} {P : List IR}
theorem sim_go {ML : List MDt} {pr : Nat → Nat → AC} {d nn : Nat} {ini : Bool} (C : CX p s m args c cc nL own g hs) (hP : POK ML cc own ini P) (hini : ini = true → meth.name = "<init>") (hM : ∀ (y : Nat) (t : MDt), ML[y]? = some t → MOK ML t) (hpg : ∀ d n y a h z, pr d n y a h = some z → hz h ≤ hz z.2 ∧ hu h ≤ hu z.2) {b : Nat} {Rg : Nat → Prop} (hRg : RGO P Rg) (hb : 1 ≤ b) (prr : PRMS l ML pr g hs (b + 1) s) (ct : CT l ML pr g hs d) (hR : d + b ≤ R.frames ∧ 64 * (d + b) ≤ R.locals) :
    ∀ (n i : Nat) (L S : List Value) (h : AH) (z : Option Value × AH) (H : Heap) (ls : Array Slot) (locs : List Loc) (cells slots : Nat), run (callD ML pr d nn) P n i L S h = some z → Rg i → LR g L nL ls → RW g hs h H → va_S (AA g) s.heap H locs → cells + (hz z.2 - hz h) ≤ R.cells ∧ slots + (hu z.2 - hu h) ≤ R.slots →
    (∀ (i' : Nat) (w' : List Nat × Nat) (x : Instr) (pc' : Nat) (S' : List Value) (H' : Heap) (ls' : Array Slot) (locs' : List Loc), P[i']? = some (pc', x, w') → Rg i' → ls'.size = nL → isRet x = true → (x = .nop ∨ decode cc pc' = .ok (x, ilen x pc')) → retv x S' = some z.1 → RW g hs z.2 H' → va_S (AA g) s.heap H' locs' → W p l e R s m args below meth c H' locs' (cells + (hz z.2 - hz h)) (slots + (hu z.2 - hu h)) Q (F0 m pc' ls' (S'.map (ph g)))) →
    W p l e R s m args below meth c H locs cells slots Q (F0 m (pcOf P i) ls (S.map (ph g)))
  | 0, i, L, S, h, z, H, ls, locs, cells, slots, hrun, hrg, hL, hW, hS, hroom, K => by cases hrun
  | n + 1, i, L, S, h, z, H, ls, locs, cells, slots, hrun, hrg, hL, hW, hS, hroom, K => by
    have hgrow := callD_grow (ML := ML) (pr := pr) hpg d nn
    unfold run at hrun
    split at hrun
    · cases hrun
    · rename_i q hq
      obtain ⟨hd, hcase⟩ := hP i q hq
      rw [pcOf_at hq]
      split at hrun
      · rename_i hret
        cases hv : retv q.2.1 S with
        | none => rw [hv] at hrun; cases hrun
        | some v =>
          rw [hv] at hrun
          cases hrun
          have := K i q.2.2 q.2.1 q.1 S H ls locs hq hrg hL.2.1 hret hd hv hW hS
          simp only [Nat.sub_self, Nat.add_zero] at this
          exact this
      · rename_i hret
        split at hrun
        · rename_i hcall
          have hck : cck ML own P i q = true := by
            rcases hcase with u | u | u
            · exact absurd u hret
            · exact u.2
            · rw [u.2.1] at hcall; cases hcall
          split at hrun
          · rename_i y k ho
            obtain ⟨g1, hrun⟩ := guardo_some hrun
            have g1 := Bool.and_eq_true_iff.mp g1
            have hkl : k ≤ S.length := of_decide_eq_true g1.1
            have hcat : ((S.drop k).map fun v => v.category).sum ≤ 8 := of_decide_eq_true g1.2
            obtain ⟨w, hc1, hrun⟩ := Option.bind_eq_some_iff.mp hrun
            have gw := hgrow _ _ _ _ hc1
            have gz := run_grow hgrow n _ _ _ _ _ hrun
            have hrm : cells + (hz w.2 - hz h) ≤ R.cells ∧ slots + (hu w.2 - hu h) ≤ R.slots := by omega
            have next : ∀ (H1 : Heap) (locs1 : List Loc), RW g hs w.2 H1 → va_S (AA g) s.heap H1 locs1 → W p l e R s m args below meth c H1 locs1 (cells + (hz w.2 - hz h)) (slots + (hu w.2 - hu h)) Q (F0 m (pcOf P (i + 1)) ls ((w.1.toList ++ S.drop k).map (ph g))) := by
              intro H1 l1 hW1 hS1
              refine sim_go C hP hini hM hpg hRg hb prr ct hR n (i + 1) L (w.1.toList ++ S.drop k) w.2 z H1 ls l1 _ _ hrun ((hRg.2 i q hq hrg (by simpa using hret)).1) hL hW1 hS1 (by omega) ?_
              intro i' w' x pc' S' H' ls' locs' k6 k8 k7 k1 k2 k3 k4 k5
              have := K i' w' x pc' S' H' ls' locs' k6 k8 k7 k1 k2 k3 k4 k5
              rw [show cells + (hz w.2 - hz h) + (hz z.2 - hz w.2) = cells + (hz z.2 - hz h) by omega, show slots + (hu w.2 - hu h) + (hu z.2 - hu w.2) = slots + (hu z.2 - hu h) by omega]
              exact this
            have hd' : decode cc q.1 = .ok (q.2.1, ilen q.2.1 q.1) := by
              rcases hd with u | u
              · rw [u] at hcall; cases hcall
              · exact u
            cases ht : ML[y]? with
            | some t => exact op_call (k := k) C hd' hcall ho hck ht (hM y t ht) ct ⟨by omega, by omega⟩ hL hW hS hkl hcat hc1 hrm next
            | none =>
              cases d with
              | zero => cases hc1
              | succ d =>
                simp only [callD, ht] at hc1
                exact prr p e R m args below meth c Q cc nL own P i L S h H ls locs cells slots d nn q y k w C hd' hcall ho hck ht ⟨by omega, by omega⟩ hL hW hS hkl hcat hc1 hrm next
          · cases hrun
        · rename_i hcall
          have hick : ick own ini P i q = true := by
            rcases hcase with u | u | u
            · exact absurd u hret
            · exact absurd u.1 hcall
            · exact u.2.2
          obtain ⟨w, hst, hrun⟩ := Option.bind_eq_some_iff.mp hrun
          have gw := stp_grow hst
          have gz := run_grow hgrow n _ _ _ _ _ hrun
          have hd' : decode cc q.1 = .ok (q.2.1, ilen q.2.1 q.1) := by
            rcases hd with u | u
            · rw [u] at hret; exact absurd rfl hret
            · exact u
          have hret' : isRet q.2.1 = false := by simpa using hret
          have hcall' : isCall q.2.1 = false := by simpa using hcall
          have hrg' : Rg w.1 := by
            obtain ⟨r1, r2⟩ := hRg.2 i q hq hrg hret'
            rcases stp_next hst with e1 | e1 | e1
            · rw [e1]; exact r1
            · exact r2 _ e1 hcall'
            · rw [e1]; exact hRg.1
          refine sim_step C hd' hick hini hL hW hS hst (by omega) ?_
          intro ls' H' locs' hL' hW' hS'
          refine sim_go C hP hini hM hpg hRg hb prr ct hR n w.1 w.2.1 w.2.2.1 w.2.2.2 z H' ls' locs' _ _ hrun hrg' hL' hW' hS' (by omega) ?_
          intro i' w' x pc' S' H'' ls'' locs'' k6 k8 k7 k1 k2 k3 k4 k5
          have := K i' w' x pc' S' H'' ls'' locs'' k6 k8 k7 k1 k2 k3 k4 k5
          rw [show cells + (hz w.2.2.2 - hz h) + (hz z.2 - hz w.2.2.2) = cells + (hz z.2 - hz h) by omega, show slots + (hu w.2.2.2 - hu h) + (hu z.2 - hu w.2.2.2) = slots + (hu z.2 - hu h) by omega]
          exact this
end GO
