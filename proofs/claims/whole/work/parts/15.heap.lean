/-! STEPS THAT READ AND WRITE THE HEAP -/
theorem mem_AW {w : Cond} {k : Nat} (h : lw_tbl[k]? = some w) (hg : (goodWord w || isNestW w) = true) : w ∈ AW := List.mem_filter.mpr ⟨List.mem_of_getElem? h, hg⟩
theorem clT_get {c : Nat} (h : c < 13) : clT[c]? = some (clk c) := by
  unfold clk
  rw [List.getD_eq_getElem?_getD, List.getElem?_eq_getElem (show c < clT.length from h)]; rfl
theorem clN : ∀ c, c < 13 → (clk c).2.2 = fdn c := by decide +kernel
theorem lay_in {c : Nat} (h : c < 13) : ∀ w ∈ u_ws (clk c).1 (clk c).2.1 (clk c).2.2, w ∈ AW := by
  intro w hw
  obtain ⟨k, hk, rfl⟩ := List.mem_map.mp hw
  have h1 := List.all_eq_true.mp lay_all c (List.mem_range.mpr h)
  have h2 := List.all_eq_true.mp h1 k hk
  have h3 := of_decide_eq_true h2
  refine mem_AW h3 ?_
  unfold u_lay
  split <;> rfl
theorem fd_ty : ∀ c, c < 13 → ∀ k, k < fdn c → (fdk c k = 0 → tyk c k = .int) ∧ (fdk c k = 1 → tyk c k = .boolean) ∧ (fdk c k = 2 → (tyk c k).isReference = true) ∧ (fdk c k = 0 ∨ fdk c k = 1 ∨ fdk c k = 2) := by decide +kernel
theorem fit_ref {ty : FieldType} (h : ty.isReference = true) (r : Option Nat) : narrow ty (va_rf r) = va_rf r ∧ fits ty (va_rf r) = true := by
  cases ty <;> first | (cases h; done) | (cases r <;> exact ⟨rfl, rfl⟩)
theorem fit_bool {x : Int32} (h : i01 x = true) : narrow .boolean (.int x) = .int x ∧ fits .boolean (.int x) = true := by
  unfold i01 at h
  rw [Bool.or_eq_true] at h
  rcases h with h | h <;> (have := of_decide_eq_true h; subst this; decide)
theorem ixo_in {x : Int32} {n : Nat} (h : ixo x n = true) : vp_in x n := by
  unfold ixo at h
  rw [Bool.and_eq_true] at h
  have h1 := of_decide_eq_true h.1
  have h2 := of_decide_eq_true h.2
  unfold vp_in
  rintro (q | q)
  · exact absurd h1 (Int32.not_le.mpr q)
  · omega
theorem cE_obj {g : GG} {h : AH} {a k : Nat} (hk : hK h a = k) (hc : k < 13) : cE g h a = .inr (k, (List.range (fdn k)).map (fvl g h k a)) := by
  unfold cE; rw [hk, if_pos (by omega)]
theorem cE_int {g : GG} {h : AH} {a k : Nat} (hk : hK h a = k) (hc : 20 ≤ k) (hc2 : k < 23) : cE g h a = .inl (g.2.1 k, hN h a, .inl (hI h a)) := by
  unfold cE; rw [hk, if_neg (by omega), if_pos hc2]
theorem cE_long {g : GG} {h : AH} {a : Nat} (hk : hK h a = 23) : cE g h a = .inl (g.2.1 23, hN h a, .inr (.inl (hJ h a))) := by
  unfold cE; rw [hk]; rfl
theorem cE_ref {g : GG} {h : AH} {a k : Nat} (hk : hK h a = k) (hc : 24 ≤ k) : cE g h a = .inl (g.2.1 k, hN h a, .inr (.inr (.inr (.inr (fun j => rq g (hR h a j)))))) := by
  unfold cE; rw [hk, if_neg (by omega), if_neg (by omega), if_neg (by omega)]
theorem one_P {D : va_G} {cl : List vw_C} {q : Nat × va_E} {H : Heap} (h : va_at D cl q H) : va_P D cl [q] H := fun k x hx => by
  match k, hx with
  | 0, hx => cases hx; exact h
theorem upd_upq (f : Nat → Nat → Int32) (a j : Nat) (v : Int32) : upq f a j v a = upd (f a) j v := by
  funext y; unfold upq upd; rw [if_pos rfl]
theorem upq_ne {α : Type} (f : Nat → Nat → α) {a x : Nat} (h : x ≠ a) (j : Nat) (v : α) : upq f a j v x = f x := by
  funext y; unfold upq; rw [if_neg h]
section HEAP
variable {p : Program} {l : Launch} {e : Env} {R : Room} {s : State} {m : MethodId} {args : Array Value} {below : List Frame} {meth : Method} {c : Code} {H : Heap} {locs : List Loc} {cells slots : Nat} {Q : State → Prop} {cc : ByteArray} {pc nL own : Nat} {ls : Array Slot} {g : GG} {hs h : AH} {P : List IR} {i : Nat} {L S : List Value}
def fvA (h : AH) (c a k : Nat) : Value := if fdk c k = 2 then .ref (hR h a k) else .int (hI h a k)
theorem ph_fvA (g : GG) (h : AH) (c a k : Nat) : ph g (fvA h c a k) = fvl g h c a k := by
  unfold fvA fvl; split <;> rfl
def flk (own idx cK k : Nat) : Cond := .fieldLink (cnm own) idx ((clk cK).2.1 k).1 ((clk cK).2.1 k).2.1 ((clk cK).2.1 k).2.2.1
def flkN (own idx cK k : Nat) : Cond := .fieldLinkNest (cnm own) idx ((clk cK).2.1 k).1 ((clk cK).2.1 k).2.1 ((clk cK).2.1 k).2.2.1 "PenThatJumps"
theorem op_getf {idx cK k a : Nat} (C : CX p s m args c cc nL own g hs) (hd : decode cc pc = .ok (.getfield idx, 3)) (hp : pcOf P (i + 1) = pc + 3) (hL : LR g L nL ls) (hW : RW g hs h H) (hS : va_S (AA g) s.heap H locs)
    (hk : hK h a = cK) (hc : cK < 13) (hkn : k < fdn cK) (hl : flk own idx cK k ∈ AW ∨ flkN own idx cK k ∈ AW)
    (n : NX p l e R s m args below meth c cells slots Q nL g hs h P (i + 1, L, fvA h cK a k :: S, h)) : W p l e R s m args below meth c H locs cells slots Q (F0 m pc ls ((.ref a :: S).map (ph g))) := by
  obtain ⟨h0, h1⟩ := hW.own (a := a) (by omega)
  have hat := (hW.2.2.1 a h0 h1).2
  rw [cE_obj hk hc] at hat
  have n' := n.here hL hW hS hp
  rw [List.map_cons, ph_fvA] at n'
  rw [List.map_cons, ph_own h0]
  have hv : ((List.range (fdn cK)).map (fvl g h cK a))[k]? = some (fvl g h cK a k) := by
    rw [List.getElem?_map, List.getElem?_range hkn]; rfl
  have hN : k < (clk cK).2.2 := by rw [clN cK hc]; exact hkn
  rcases hl with hl | hl
  · exact va_get (own := cnm own) C.1 C.2.1 C.2.2.2.2.1 (lay_in hc) C.2.2.2.1 C.2.2.2.2.2.1 (one_P hat) 0 rfl (clT_get hc) k hN (C.2.2.2.2.1 _ hl) (fun _ z => z) hv hd n'
  · exact va_getN (own := cnm own) C.1 C.2.1 C.2.2.2.2.1 (lay_in hc) C.2.2.2.1 C.2.2.2.2.2.1 (one_P hat) 0 rfl (clT_get hc) k hN (C.2.2.2.2.1 _ hl) (fun _ z => z) hv hd n'
/-- the new heap behind a putfield -/
theorem put_at {cK k a : Nat} {h' : AH} {H' : Heap} {cell : Cell} {v : Value} (C : CX p s m args c cc nL own g hs) (hW : RW g hs h H) (hk : hK h a = cK) (hc : cK < 13) (hkn : k < fdn cK) (h0 : 100 ≤ a) (h1 : a < hz h)
    (ez : hz h' = hz h) (eK : hK h' = hK h) (eN : hN h' = hN h) (eI : ∀ x, x ≠ a → hI h' x = hI h x) (eJ : ∀ x, x ≠ a → hJ h' x = hJ h x) (eR : ∀ x, x ≠ a → hR h' x = hR h x) (ev : ∀ j, fvl g h' cK a j = if j = k then v else fvl g h cK a j)
    (q1 : cell.cls = g.1.1 cK) (q2 : cell.vm = .none) (q3 : ∀ j, j < (clk cK).2.2 → cell.slots[g.1.2 cK j]? = some (vp_V ((List.range (fdn cK)).map (fvl g h cK a)) j))
    (e1 : H'[gb g + (a - 100)]? = some (cell.setSlot (g.1.2 cK k) v)) (e2 : H'.size = H.size) (e3 : ∀ q : Nat, q ≠ gb g + (a - 100) → H'[q]? = H[q]?) : RW g hs h' H' := by
  refine hW.upd h0 h1 ez eK eN eI eJ eR e2 e3 ?_
  have hk' : hK h' a = cK := by rw [eK]; exact hk
  rw [cE_obj hk' hc]
  have hN : k < (clk cK).2.2 := by rw [clN cK hc]; exact hkn
  have hap := va_apart (own := cnm own) C.2.2.2.2.1 (lay_in hc) (tyk cK) (tyk_ok cK hc) (nmk_ok cK hc) C.2.2.2.2.2.1 (clT_get hc)
  have hlen : ((List.range (fdn cK)).map (fvl g h cK a)).length = fdn cK := by rw [List.length_map, List.length_range]
  refine ⟨_, clT_get hc, t_OB.to (V := updV (vp_V ((List.range (fdn cK)).map (fvl g h cK a))) k v) ⟨_, e1, q1, q2, t_set q3 hap hN v⟩ (fun j hj => ?_)⟩
  have hj' : j < fdn cK := by rw [← clN cK hc]; exact hj
  unfold updV vp_V
  rw [List.getD_eq_getElem?_getD, List.getD_eq_getElem?_getD, List.getElem?_map, List.getElem?_map, List.getElem?_range hj']
  show (if j = k then v else fvl g h cK a j) = fvl g h' cK a j
  rw [ev j]
theorem op_putf {idx cK k a : Nat} {v : Value} {h' : AH} (C : CX p s m args c cc nL own g hs) (hd : decode cc pc = .ok (.putfield idx, 3)) (hp : pcOf P (i + 1) = pc + 3) (hL : LR g L nL ls) (hW : RW g hs h H) (hS : va_S (AA g) s.heap H locs)
    (hk : hK h a = cK) (hc : cK < 13) (hkn : k < fdn cK) (hn : narrow (tyk cK k) (ph g v) = ph g v) (hfit : fits (tyk cK k) (ph g v) = true)
    (hl : (((clk cK).2.1 k).2.2.2 = false ∧ (flk own idx cK k ∈ AW ∨ flkN own idx cK k ∈ AW)) ∨ (((clk cK).2.1 k).2.2.2 = true ∧ flk own idx cK k ∈ AW ∧ meth.name = "<init>" ∧ ((clk cK).2.1 k).1 = cnm own))
    (ez : hz h' = hz h) (eu : hu h' = hu h) (eK : hK h' = hK h) (eN : hN h' = hN h) (eI : ∀ x, x ≠ a → hI h' x = hI h x) (eJ : ∀ x, x ≠ a → hJ h' x = hJ h x) (eR : ∀ x, x ≠ a → hR h' x = hR h x) (ev : ∀ j, fvl g h' cK a j = if j = k then ph g v else fvl g h cK a j)
    (n : NX p l e R s m args below meth c cells slots Q nL g hs h P (i + 1, L, S, h')) : W p l e R s m args below meth c H locs cells slots Q (F0 m pc ls ((v :: .ref a :: S).map (ph g))) := by
  obtain ⟨h0, h1⟩ := hW.own (a := a) (by omega)
  have hat := (hW.2.2.1 a h0 h1).2
  rw [cE_obj hk hc] at hat
  rw [List.map_cons, List.map_cons, ph_own h0]
  have hN : k < (clk cK).2.2 := by rw [clN cK hc]; exact hkn
  obtain ⟨r, r1, cell, q1, q2, q3, q4⟩ := hat
  have hr : r = clk cK := Option.some.inj (r1.symm.trans (clT_get hc))
  subst hr
  have hts := C.2.2.2.2.1
  have hin := lay_in hc
  obtain ⟨hSl, hfc, kC, hkC, hkind⟩ := C.2.2.2.2.2.1.1 cK _ (clT_get hc)
  obtain ⟨cf, kf, fi, f, hi, hsl⟩ := hSl k hN
  have hlay := hts _ (hin _ (u_in_lay hN))
  have hst := (u_facts hfc hkC (u_lays hts hin hN) hi).1
  have hd0 := tyk_ok cK hc k hN
  have fin : ∀ (H' : Heap) (lc : List Loc), H'[gb g + (a - 100)]? = some (cell.setSlot (g.1.2 cK k) (ph g v)) → H'.size = H.size → (∀ q : Nat, q ≠ gb g + (a - 100) → H'[q]? = H[q]?) → va_S (AA g) s.heap H' lc → W p l e R s m args below meth c H' lc cells slots Q (F0 m (pc + 3) ls (S.map (ph g))) := by
    intro H' lc e1 e2 e3 hS'
    have hW' := put_at (v := ph g v) C hW hk hc hkn h0 h1 ez eK eN eI eJ eR ev q2 q3 q4 e1 e2 e3
    have h9 := n ls H' lc hL hW' hS'
    simp only [ez, eu, Nat.sub_self, Nat.add_zero, hp] at h9
    exact h9
  have hA : AA g (gb g + (a - 100)) := Nat.le_add_right _ _
  rcases hl with ⟨hfin, hl | hl⟩ | ⟨hfin, hl, hin2, hdecl⟩
  · unfold u_lay at hlay
    rw [if_neg (by rw [hfin]; decide)] at hlay
    have h6 := u_store hfc hkC hkind hlay hi hd0 hn hfit
    refine W.putK C.1 C.2.1 (f := f) ⟨C.2.2.2.1, hts _ hl, ⟨_, _, _, hi⟩, hst⟩ (by rw [q2]; exact h6) q1 q3 (by rw [hsl]; exact k2_hasslot (q4 k hN)) rfl rfl hd fun H' e1 e2 e3 => ?_
    rw [hsl] at e1 ⊢
    exact fin H' _ e1 e2 e3 (hS.put e2 e3 hA)
  · unfold u_lay at hlay
    rw [if_neg (by rw [hfin]; decide)] at hlay
    have h6 := u_store hfc hkC hkind hlay hi hd0 hn hfit
    refine va_WputK C.1 C.2.1 (f := f) C.2.2.2.1 (hts _ hl) hi hst (by rw [q2]; exact h6) q1 q3 (by rw [hsl]; exact k2_hasslot (q4 k hN)) rfl rfl hd fun H' e1 e2 e3 => ?_
    rw [hsl] at e1 ⊢
    exact fin H' _ e1 e2 e3 (hS.put e2 e3 hA)
  · unfold u_lay at hlay
    rw [if_pos hfin] at hlay
    have hcf : m.cls = cf := by
      obtain ⟨_, _, c', _, _, _, -, -, hf', -, -, -, hown2, -⟩ := Cond.laysFinal_spec hlay
      have e1 : c' = cf := by have := hi.symm.trans hf'; simp at this; exact this.1.symm
      rw [hdecl] at hown2
      rw [← e1]; exact Option.some.inj (C.2.2.2.1.symm.trans hown2)
    have h6 := u_fits hfc hkC hkind (Or.inr hlay) hi hd0 hn hfit
    refine W.putFinK C.1 C.2.1 C.2.2.2.1 (hts _ hl) hi hst hcf hin2 (by rw [q2]; exact h6) q1 q3 (by rw [hsl]; exact k2_hasslot (q4 k hN)) rfl rfl hd fun H' e1 e2 e3 => ?_
    rw [hsl] at e1 ⊢
    exact fin H' _ e1 e2 e3 (hS.put e2 e3 hA)
end HEAP
