/-! ARRAYS, NEW CELLS, STATICS -/
section ARR
variable {p : Program} {l : Launch} {e : Env} {R : Room} {s : State} {m : MethodId} {args : Array Value} {below : List Frame} {meth : Method} {c : Code} {H : Heap} {locs : List Loc} {cells slots : Nat} {Q : State → Prop} {cc : ByteArray} {pc nL own : Nat} {ls : Array Slot} {g : GG} {hs h : AH} {P : List IR} {i : Nat} {L S : List Value}
theorem S_of (C : CX p s m args c cc nL own g hs) : ST g hs s := C.2.2.2.2.2.2.1
theorem K_of (C : CX p s m args c cc nL own g hs) : va_K g.1 clT (tysT g) s := C.2.2.2.2.2.1
theorem op_iald {a : Nat} {x : Int32} (C : CX p s m args c cc nL own g hs) (hd : decode cc pc = .ok (.iaload, 1)) (hp : pcOf P (i + 1) = pc + 1) (hL : LR g L nL ls) (hW : RW g hs h H) (hS : va_S (AA g) s.heap H locs) (hk : hK h a = 20) (hx : ixo x (hN h a) = true)
    (n : NX p l e R s m args below meth c cells slots Q nL g hs h P (i + 1, L, .int (hI h a x.toNatClampNeg) :: S, h)) : W p l e R s m args below meth c H locs cells slots Q (F0 m pc ls ((.int x :: .ref a :: S).map (ph g))) := by
  obtain ⟨h0, h1⟩ := hW.own (a := a) (by omega)
  have hat := (hW.2.2.1 a h0 h1).2
  rw [cE_int hk (by decide) (by decide)] at hat
  rw [List.map_cons, List.map_cons, ph_own h0]
  exact va_iald C.1 C.2.1 (K_of C) (one_P hat) 0 0 rfl rfl (ixo_in hx) hd (n.here hL hW hS hp)
theorem op_cald {a : Nat} {x : Int32} (C : CX p s m args c cc nL own g hs) (hd : decode cc pc = .ok (.caload, 1)) (hp : pcOf P (i + 1) = pc + 1) (hL : LR g L nL ls) (hW : RW g hs h H) (hS : va_S (AA g) s.heap H locs) (hk : hK h a = 21) (hx : ixo x (hN h a) = true)
    (n : NX p l e R s m args below meth c cells slots Q nL g hs h P (i + 1, L, .int (hI h a x.toNatClampNeg) :: S, h)) : W p l e R s m args below meth c H locs cells slots Q (F0 m pc ls ((.int x :: .ref a :: S).map (ph g))) := by
  obtain ⟨h0, h1⟩ := hW.own (a := a) (by omega)
  have hat := (hW.2.2.1 a h0 h1).2
  rw [cE_int hk (by decide) (by decide)] at hat
  rw [List.map_cons, List.map_cons, ph_own h0]
  exact va_cald C.1 C.2.1 (K_of C) (one_P hat) 0 1 rfl rfl (ixo_in hx) hd (n.here hL hW hS hp)
theorem op_zald {a : Nat} {x : Int32} (C : CX p s m args c cc nL own g hs) (hd : decode cc pc = .ok (.baload, 1)) (hp : pcOf P (i + 1) = pc + 1) (hL : LR g L nL ls) (hW : RW g hs h H) (hS : va_S (AA g) s.heap H locs) (hk : hK h a = 22) (hx : ixo x (hN h a) = true)
    (n : NX p l e R s m args below meth c cells slots Q nL g hs h P (i + 1, L, .int (hI h a x.toNatClampNeg) :: S, h)) : W p l e R s m args below meth c H locs cells slots Q (F0 m pc ls ((.int x :: .ref a :: S).map (ph g))) := by
  obtain ⟨h0, h1⟩ := hW.own (a := a) (by omega)
  have hat := (hW.2.2.1 a h0 h1).2
  rw [cE_int hk (by decide) (by decide)] at hat
  rw [List.map_cons, List.map_cons, ph_own h0]
  exact va_zald C.1 C.2.1 (K_of C) (one_P hat) 0 2 rfl rfl (ixo_in hx) hd (n.here hL hW hS hp)
theorem op_lald {a : Nat} {x : Int32} (C : CX p s m args c cc nL own g hs) (hd : decode cc pc = .ok (.laload, 1)) (hp : pcOf P (i + 1) = pc + 1) (hL : LR g L nL ls) (hW : RW g hs h H) (hS : va_S (AA g) s.heap H locs) (hk : hK h a = 23) (hx : ixo x (hN h a) = true)
    (n : NX p l e R s m args below meth c cells slots Q nL g hs h P (i + 1, L, .long (hJ h a x.toNatClampNeg) :: S, h)) : W p l e R s m args below meth c H locs cells slots Q (F0 m pc ls ((.int x :: .ref a :: S).map (ph g))) := by
  obtain ⟨h0, h1⟩ := hW.own (a := a) (by omega)
  have hat := (hW.2.2.1 a h0 h1).2
  rw [cE_long hk] at hat
  rw [List.map_cons, List.map_cons, ph_own h0]
  exact va_lald C.1 C.2.1 (K_of C) (one_P hat) 0 3 rfl rfl (ixo_in hx) hd (n.here hL hW hS hp)
theorem ty_ref {k : Nat} (h0 : 24 ≤ k) (h1 : okk k = true) : ∃ (t : Nat) (cn : Nat), cn < 13 ∧ k = cn + 30 ∧ (tysT g)[t]? = some (g.2.1 k, .object (clk cn).1) := by
  unfold okk at h1
  simp only [Bool.or_eq_true, decide_eq_true_eq] at h1
  rcases h1 with (((((h | h) | h) | h) | h) | h) | h
  · omega
  · omega
  · subst h; exact ⟨4, 3, by decide, rfl, rfl⟩
  · subst h; exact ⟨5, 4, by decide, rfl, rfl⟩
  · subst h; exact ⟨6, 6, by decide, rfl, rfl⟩
  · subst h; exact ⟨7, 7, by decide, rfl, rfl⟩
  · subst h; exact ⟨8, 8, by decide, rfl, rfl⟩
theorem op_aald {a : Nat} {x : Int32} (C : CX p s m args c cc nL own g hs) (hd : decode cc pc = .ok (.aaload, 1)) (hp : pcOf P (i + 1) = pc + 1) (hL : LR g L nL ls) (hW : RW g hs h H) (hS : va_S (AA g) s.heap H locs) (hk : 30 ≤ hK h a) (hk2 : hK h a < 40) (hx : ixo x (hN h a) = true)
    (n : NX p l e R s m args below meth c cells slots Q nL g hs h P (i + 1, L, .ref (hR h a x.toNatClampNeg) :: S, h)) : W p l e R s m args below meth c H locs cells slots Q (F0 m pc ls ((.int x :: .ref a :: S).map (ph g))) := by
  obtain ⟨h0, h1⟩ := hW.own (a := a) hk2
  obtain ⟨hok, hat⟩ := hW.2.2.1 a h0 h1
  rw [cE_ref rfl (by omega)] at hat
  rw [List.map_cons, List.map_cons, ph_own h0]
  obtain ⟨t, cn, -, -, ht⟩ := ty_ref (g := g) (by omega : 24 ≤ hK h a) hok
  exact va_aldq C.1 C.2.1 (K_of C) (one_P hat) 0 t rfl ht (ixo_in hx) hd (n.here hL hW hS hp)
theorem st_of (hW : RW g hs h H) {a : Nat} (hk : 40 ≤ hK h a) (hk2 : hK h a ≠ 99) : a < 100 ∧ hK hs a = hK h a ∧ hN hs a = hN h a ∧ hI hs a = hI h a ∧ hR hs a = hR h a := by
  have ha : a < 100 := by
    apply Nat.lt_of_not_le; intro q
    by_cases z : a < hz h
    · have := (hW.2.2.1 a q z).1
      unfold okk at this
      simp only [Bool.or_eq_true, decide_eq_true_eq] at this
      omega
    · exact hk2 (hW.2.2.2.1 a (by omega))
  obtain ⟨-, e1, e2, e3, e4⟩ := hW.2.2.2.2 a ha
  exact ⟨ha, e1.symm, e2.symm, e3.symm, e4.symm⟩
theorem ph_some {a t : Nat} (h : rq g a = some t) : ph g (.ref a) = .ref t := by show va_rf (rq g a) = _; rw [h]; rfl
theorem op_sild {a : Nat} {x : Int32} (C : CX p s m args c cc nL own g hs) (hd : decode cc pc = .ok (.iaload, 1)) (hp : pcOf P (i + 1) = pc + 1) (hL : LR g L nL ls) (hW : RW g hs h H) (hS : va_S (AA g) s.heap H locs) (hk : hK h a = 44) (hx : ixo x (hN h a) = true)
    (n : NX p l e R s m args below meth c cells slots Q nL g hs h P (i + 1, L, .int (hI h a x.toNatClampNeg) :: S, h)) : W p l e R s m args below meth c H locs cells slots Q (F0 m pc ls ((.int x :: .ref a :: S).map (ph g))) := by
  obtain ⟨ha, e1, e2, e3, e4⟩ := st_of hW (a := a) (by omega) (by omega)
  obtain ⟨t, ht, -, hT⟩ := (S_of C).2.2.1 a ha (by omega)
  rw [List.map_cons, List.map_cons, ph_some ht]
  exact va_ti C.1 C.2.1 hT hS (ixo_in (by rw [e2]; exact hx)) (v := .int (hI h a x.toNatClampNeg)) (by rw [e3]) hd (n.here hL hW hS hp)
theorem op_sbld {a : Nat} {x : Int32} (C : CX p s m args c cc nL own g hs) (hd : decode cc pc = .ok (.baload, 1)) (hp : pcOf P (i + 1) = pc + 1) (hL : LR g L nL ls) (hW : RW g hs h H) (hS : va_S (AA g) s.heap H locs) (hk : hK h a = 45) (hx : ixo x (hN h a) = true)
    (n : NX p l e R s m args below meth c cells slots Q nL g hs h P (i + 1, L, .int (hI h a x.toNatClampNeg) :: S, h)) : W p l e R s m args below meth c H locs cells slots Q (F0 m pc ls ((.int x :: .ref a :: S).map (ph g))) := by
  obtain ⟨ha, e1, e2, e3, e4⟩ := st_of hW (a := a) (by omega) (by omega)
  obtain ⟨t, ht, -, hT⟩ := (S_of C).2.2.2.1 a ha (by omega)
  rw [List.map_cons, List.map_cons, ph_some ht]
  exact va_tb C.1 C.2.1 hT hS (ixo_in (by rw [e2]; exact hx)) (v := .int (hI h a x.toNatClampNeg)) (by rw [e3]) hd (n.here hL hW hS hp)
theorem op_sald {a : Nat} {x : Int32} (C : CX p s m args c cc nL own g hs) (hd : decode cc pc = .ok (.aaload, 1)) (hp : pcOf P (i + 1) = pc + 1) (hL : LR g L nL ls) (hW : RW g hs h H) (hS : va_S (AA g) s.heap H locs) (hk : hK h a = 41) (hx : ixo x (hN h a) = true)
    (n : NX p l e R s m args below meth c cells slots Q nL g hs h P (i + 1, L, .ref (hR h a x.toNatClampNeg) :: S, h)) : W p l e R s m args below meth c H locs cells slots Q (F0 m pc ls ((.int x :: .ref a :: S).map (ph g))) := by
  obtain ⟨ha, e1, e2, e3, e4⟩ := st_of hW (a := a) (by omega) (by omega)
  obtain ⟨t, ht, -, hT⟩ := (S_of C).2.2.2.2.1 a ha (by omega)
  rw [List.map_cons, List.map_cons, ph_some ht]
  exact vb_tq C.1 C.2.1 hT hS (ixo_in (by rw [e2]; exact hx)) (v := va_rf (rq g (hR h a x.toNatClampNeg))) (by rw [e4]) hd (n.here hL hW hS hp)
theorem op_alen {a : Nat} (C : CX p s m args c cc nL own g hs) (hd : decode cc pc = .ok (.arraylength, 1)) (hp : pcOf P (i + 1) = pc + 1) (hL : LR g L nL ls) (hW : RW g hs h H) (hS : va_S (AA g) s.heap H locs) (hk : 20 ≤ hK h a) (hk0 : hK h a ≠ 40) (hk1 : hK h a ≠ 42) (hk2 : hK h a ≤ 45) (hk3 : hK h a ≠ 43)
    (n : NX p l e R s m args below meth c cells slots Q nL g hs h P (i + 1, L, .int (Int32.ofNat (hN h a)) :: S, h)) : W p l e R s m args below meth c H locs cells slots Q (F0 m pc ls ((.ref a :: S).map (ph g))) := by
  by_cases q : hK h a < 40
  · obtain ⟨h0, h1⟩ := hW.own (a := a) q
    obtain ⟨hok, hat⟩ := hW.2.2.1 a h0 h1
    rw [List.map_cons, ph_own h0]
    by_cases q2 : hK h a < 23
    · rw [cE_int rfl hk q2] at hat
      have ht : ∃ (t : Nat) (ty : FieldType), (tysT g)[t]? = some (g.2.1 (hK h a), ty) := by
        rcases (by omega : hK h a = 20 ∨ hK h a = 21 ∨ hK h a = 22) with z | z | z
        · exact ⟨0, .int, by rw [z]; rfl⟩
        · exact ⟨1, .char, by rw [z]; rfl⟩
        · exact ⟨2, .boolean, by rw [z]; rfl⟩
      obtain ⟨t, ty, ht⟩ := ht
      exact va_alen C.1 C.2.1 (K_of C) (one_P hat) 0 t rfl ht rfl hd (n.here hL hW hS hp)
    · by_cases q3 : hK h a = 23
      · rw [cE_long q3] at hat
        exact va_alen C.1 C.2.1 (K_of C) (one_P hat) 0 3 rfl (ty := .long) rfl rfl hd (n.here hL hW hS hp)
      · rw [cE_ref rfl (by omega)] at hat
        obtain ⟨t, cn, -, -, ht⟩ := ty_ref (g := g) (by omega : 24 ≤ hK h a) hok
        exact va_alen C.1 C.2.1 (K_of C) (one_P hat) 0 t rfl ht rfl hd (n.here hL hW hS hp)
  · obtain ⟨ha, e1, e2, e3, e4⟩ := st_of hW (a := a) (by omega) (by omega)
    rw [List.map_cons]
    rcases (by omega : hK h a = 41 ∨ hK h a = 44 ∨ hK h a = 45) with z | z | z
    · obtain ⟨t, ht, -, hT⟩ := (S_of C).2.2.2.2.1 a ha (by omega)
      rw [ph_some ht]
      exact va_tlen C.1 C.2.1 hT hS (by rw [e2]) hd (n.here hL hW hS hp)
    · obtain ⟨t, ht, -, hT⟩ := (S_of C).2.2.1 a ha (by omega)
      rw [ph_some ht]
      exact va_tlen C.1 C.2.1 hT hS (by rw [e2]) hd (n.here hL hW hS hp)
    · obtain ⟨t, ht, -, hT⟩ := (S_of C).2.2.2.1 a ha (by omega)
      rw [ph_some ht]
      exact va_tlen C.1 C.2.1 hT hS (by rw [e2]) hd (n.here hL hW hS hp)
theorem op_iast {a : Nat} {x x2 : Int32} (C : CX p s m args c cc nL own g hs) (hd : decode cc pc = .ok (.iastore, 1)) (hp : pcOf P (i + 1) = pc + 1) (hL : LR g L nL ls) (hW : RW g hs h H) (hS : va_S (AA g) s.heap H locs) (hk : hK h a = 20) (hx : ixo x (hN h a) = true) 
    (n : NX p l e R s m args below meth c cells slots Q nL g hs h P (i + 1, L, S, sI h a x.toNatClampNeg x2)) : W p l e R s m args below meth c H locs cells slots Q (F0 m pc ls ((.int x2 :: .int x :: .ref a :: S).map (ph g))) := by
  obtain ⟨h0, h1⟩ := hW.own (a := a) (by omega)
  have hat := (hW.2.2.1 a h0 h1).2
  rw [cE_int hk (by decide) (by decide)] at hat
  rw [List.map_cons, List.map_cons, List.map_cons, ph_own h0]
  have hA : AA g (gb g + (a - 100)) := Nat.le_add_right _ _
  refine W.iast C.1 C.2.1 hat (((K_of C).2 0 _ rfl).1 (hN h a) (fun j => .int (hI h a j))) (fun q => by cases q) (by show ¬ (x < 0 ∨ (arrV _ _ _).slots.size ≤ _); rw [arrV_size]; exact ixo_in hx) rfl rfl hd fun H1 e z oq => ?_
  have e := e
  have hW' : RW g hs (sI h a x.toNatClampNeg x2) H1 := by
    refine hW.upd h0 h1 rfl rfl rfl (fun y hy => upq_ne _ hy _ _) (fun y _ => rfl) (fun y _ => rfl) z oq ?_
    rw [cE_int (h := sI h a x.toNatClampNeg x2) hk (by decide) (by decide)]
    show H1[_]? = some (vp_cell _ _)
    rw [e, vp_cell_i, vp_cell_i, arrV_store]
    congr 2
    funext q
    show _ = Value.int (upq h.1 a x.toNatClampNeg x2 a q)
    rw [upd_upq]
    by_cases hq : q = x.toNatClampNeg
    · subst hq
      simp [updV, upd]
    · simp [updV, upd, hq]
      try rfl
  have h9 := n ls H1 _ hL hW' (hS.put (k := x.toNatClampNeg) z oq hA)
  have e5 : hz (sI h a x.toNatClampNeg x2) = hz h := rfl
  have e6 : hu (sI h a x.toNatClampNeg x2) = hu h := rfl
  simp only [e5, e6, Nat.sub_self, Nat.add_zero, hp] at h9
  exact h9
theorem op_cast {a : Nat} {x x2 : Int32} (C : CX p s m args c cc nL own g hs) (hd : decode cc pc = .ok (.castore, 1)) (hp : pcOf P (i + 1) = pc + 1) (hL : LR g L nL ls) (hW : RW g hs h H) (hS : va_S (AA g) s.heap H locs) (hk : hK h a = 21) (hx : ixo x (hN h a) = true) 
    (n : NX p l e R s m args below meth c cells slots Q nL g hs h P (i + 1, L, S, sI h a x.toNatClampNeg (vp_nar .char x2))) : W p l e R s m args below meth c H locs cells slots Q (F0 m pc ls ((.int x2 :: .int x :: .ref a :: S).map (ph g))) := by
  obtain ⟨h0, h1⟩ := hW.own (a := a) (by omega)
  have hat := (hW.2.2.1 a h0 h1).2
  rw [cE_int hk (by decide) (by decide)] at hat
  rw [List.map_cons, List.map_cons, List.map_cons, ph_own h0]
  have hA : AA g (gb g + (a - 100)) := Nat.le_add_right _ _
  refine W.cast C.1 C.2.1 hat (((K_of C).2 1 _ rfl).1 (hN h a) (fun j => .int (hI h a j))) (fun q => by cases q) (by show ¬ (x < 0 ∨ (arrV _ _ _).slots.size ≤ _); rw [arrV_size]; exact ixo_in hx) rfl rfl hd fun H1 e z oq => ?_
  have e := e
  have hW' : RW g hs (sI h a x.toNatClampNeg (vp_nar .char x2)) H1 := by
    refine hW.upd h0 h1 rfl rfl rfl (fun y hy => upq_ne _ hy _ _) (fun y _ => rfl) (fun y _ => rfl) z oq ?_
    rw [cE_int (h := sI h a x.toNatClampNeg (vp_nar .char x2)) hk (by decide) (by decide)]
    show H1[_]? = some (vp_cell _ _)
    rw [e, vp_cell_i, vp_cell_i, arrV_store]
    congr 2
    funext q
    show _ = Value.int (upq h.1 a x.toNatClampNeg (vp_nar .char x2) a q)
    rw [upd_upq]
    by_cases hq : q = x.toNatClampNeg
    · subst hq
      simp [updV, upd, vp_nar]; try rfl
    · simp [updV, upd, hq]
      try rfl
  have h9 := n ls H1 _ hL hW' (hS.put (k := x.toNatClampNeg) z oq hA)
  have e5 : hz (sI h a x.toNatClampNeg (vp_nar .char x2)) = hz h := rfl
  have e6 : hu (sI h a x.toNatClampNeg (vp_nar .char x2)) = hu h := rfl
  simp only [e5, e6, Nat.sub_self, Nat.add_zero, hp] at h9
  exact h9
theorem op_zast {a : Nat} {x x2 : Int32} (C : CX p s m args c cc nL own g hs) (hd : decode cc pc = .ok (.bastore, 1)) (hp : pcOf P (i + 1) = pc + 1) (hL : LR g L nL ls) (hW : RW g hs h H) (hS : va_S (AA g) s.heap H locs) (hk : hK h a = 22) (hx : ixo x (hN h a) = true) (hb01 : i01 x2 = true)
    (n : NX p l e R s m args below meth c cells slots Q nL g hs h P (i + 1, L, S, sI h a x.toNatClampNeg x2)) : W p l e R s m args below meth c H locs cells slots Q (F0 m pc ls ((.int x2 :: .int x :: .ref a :: S).map (ph g))) := by
  obtain ⟨h0, h1⟩ := hW.own (a := a) (by omega)
  have hat := (hW.2.2.1 a h0 h1).2
  rw [cE_int hk (by decide) (by decide)] at hat
  rw [List.map_cons, List.map_cons, List.map_cons, ph_own h0]
  have hA : AA g (gb g + (a - 100)) := Nat.le_add_right _ _
  refine W.zast C.1 C.2.1 hat (((K_of C).2 2 _ rfl).1 (hN h a) (fun j => .int (hI h a j))) (fun q => by cases q) (by show ¬ (x < 0 ∨ (arrV _ _ _).slots.size ≤ _); rw [arrV_size]; exact ixo_in hx) rfl rfl hd fun H1 e z oq => ?_
  have e := (by rw [(fit_bool hb01).1] at e; exact e)
  have hW' : RW g hs (sI h a x.toNatClampNeg x2) H1 := by
    refine hW.upd h0 h1 rfl rfl rfl (fun y hy => upq_ne _ hy _ _) (fun y _ => rfl) (fun y _ => rfl) z oq ?_
    rw [cE_int (h := sI h a x.toNatClampNeg x2) hk (by decide) (by decide)]
    show H1[_]? = some (vp_cell _ _)
    rw [e, vp_cell_i, vp_cell_i, arrV_store]
    congr 2
    funext q
    show _ = Value.int (upq h.1 a x.toNatClampNeg x2 a q)
    rw [upd_upq]
    by_cases hq : q = x.toNatClampNeg
    · subst hq
      simp [updV, upd]
    · simp [updV, upd, hq]
      try rfl
  have h9 := n ls H1 _ hL hW' (hS.put (k := x.toNatClampNeg) z oq hA)
  have e5 : hz (sI h a x.toNatClampNeg x2) = hz h := rfl
  have e6 : hu (sI h a x.toNatClampNeg x2) = hu h := rfl
  simp only [e5, e6, Nat.sub_self, Nat.add_zero, hp] at h9
  exact h9
theorem op_last {a : Nat} {x : Int32} {x2 : Int64} (C : CX p s m args c cc nL own g hs) (hd : decode cc pc = .ok (.lastore, 1)) (hp : pcOf P (i + 1) = pc + 1) (hL : LR g L nL ls) (hW : RW g hs h H) (hS : va_S (AA g) s.heap H locs) (hk : hK h a = 23) (hx : ixo x (hN h a) = true)
    (n : NX p l e R s m args below meth c cells slots Q nL g hs h P (i + 1, L, S, sJ h a x.toNatClampNeg x2)) : W p l e R s m args below meth c H locs cells slots Q (F0 m pc ls ((.long x2 :: .int x :: .ref a :: S).map (ph g))) := by
  obtain ⟨h0, h1⟩ := hW.own (a := a) (by omega)
  have hat := (hW.2.2.1 a h0 h1).2
  rw [cE_long hk] at hat
  rw [List.map_cons, List.map_cons, List.map_cons, ph_own h0]
  have hA : AA g (gb g + (a - 100)) := Nat.le_add_right _ _
  refine W.last C.1 C.2.1 hat (((K_of C).2 3 _ rfl).1 (hN h a) (fun j => .long (hJ h a j))) (fun q => by cases q) (by show ¬ (x < 0 ∨ (arrV _ _ _).slots.size ≤ _); rw [arrV_size]; exact ixo_in hx) rfl rfl hd fun H1 e z oq => ?_
  have hW' : RW g hs (sJ h a x.toNatClampNeg x2) H1 := by
    refine hW.upd h0 h1 rfl rfl rfl (fun y _ => rfl) (fun y hy => upq_ne _ hy _ _) (fun y _ => rfl) z oq ?_
    rw [cE_long (h := sJ h a x.toNatClampNeg x2) hk]
    show H1[_]? = some (vp_cell _ _)
    rw [e, vp_cell_l, vp_cell_l, arrV_store]
    congr 2
    funext q
    show _ = Value.long (upq h.2.1 a x.toNatClampNeg x2 a q)
    unfold upq updV
    rw [if_pos rfl]
    by_cases hq : q = x.toNatClampNeg
    · rw [if_pos hq, if_pos hq]
    · rw [if_neg hq, if_neg hq]; rfl
  have h9 := n ls H1 _ hL hW' (hS.put (k := x.toNatClampNeg) z oq hA)
  have e5 : hz (sJ h a x.toNatClampNeg x2) = hz h := rfl
  have e6 : hu (sJ h a x.toNatClampNeg x2) = hu h := rfl
  simp only [e5, e6, Nat.sub_self, Nat.add_zero, hp] at h9
  exact h9
theorem op_aast {a v : Nat} {x : Int32} (C : CX p s m args c cc nL own g hs) (hd : decode cc pc = .ok (.aastore, 1)) (hp : pcOf P (i + 1) = pc + 1) (hL : LR g L nL ls) (hW : RW g hs h H) (hS : va_S (AA g) s.heap H locs) (hk : 30 ≤ hK h a) (hk2 : hK h a < 40) (hv : hK h v + 30 = hK h a) (hx : ixo x (hN h a) = true)
    (n : NX p l e R s m args below meth c cells slots Q nL g hs h P (i + 1, L, S, sR h a x.toNatClampNeg v)) : W p l e R s m args below meth c H locs cells slots Q (F0 m pc ls ((.ref v :: .int x :: .ref a :: S).map (ph g))) := by
  obtain ⟨h0, h1⟩ := hW.own (a := a) hk2
  obtain ⟨v0, v1⟩ := hW.own (a := v) (by omega)
  obtain ⟨hok, hat⟩ := hW.2.2.1 a h0 h1
  have hav := (hW.2.2.1 v v0 v1).2
  rw [cE_ref rfl (by omega)] at hat
  obtain ⟨t, cn, hcn, hke, ht⟩ := ty_ref (g := g) (by omega : 24 ≤ hK h a) hok
  have hkv : hK h v = cn := by omega
  rw [cE_obj hkv hcn] at hav
  rw [List.map_cons, List.map_cons, List.map_cons, ph_own h0, ph_own v0]
  have hA : AA g (gb g + (a - 100)) := Nat.le_add_right _ _
  have hin := ixo_in hx
  have hlt : x.toNatClampNeg < hN h a := Nat.not_le.mp fun q => hin (Or.inr q)
  have h00 : ¬ x < 0 := fun q => hin (Or.inl q)
  obtain ⟨r', hr', cellV, g1, g2, g3, -⟩ := hav
  have hcls := ((K_of C).1 cn _ (clT_get hcn)).2
  obtain ⟨kA, comp, k1, k2, k3, -⟩ := ((K_of C).2 t _ ht).2
  have hcomp : comp = g.1.1 cn := Option.some.inj (k3.symm.trans hcls.1)
  subst hcomp
  obtain ⟨kC, hkC, -⟩ := hcls.2
  refine W.aast C.1 C.2.1 hat (fun q h => by cases h) (fun h => by cases h) k1 k2 rfl hkC ⟨h00, by show _ < (arrV _ _ _).slots.size; rw [arrV_size]; exact hlt⟩ g1 (fun q h => by rw [g3] at h; cases h) (by rw [g2]; exact hkC) (by rw [g2]; exact va_assign hcls) rfl rfl hd fun H1 e z oq => ?_
  have hW' : RW g hs (sR h a x.toNatClampNeg v) H1 := by
    refine hW.upd h0 h1 rfl rfl rfl (fun y _ => rfl) (fun y _ => rfl) (fun y hy => upq_ne _ hy _ _) z oq ?_
    rw [cE_ref (h := sR h a x.toNatClampNeg v) (k := hK h a) rfl (by omega)]
    show H1[_]? = some (vp_cell _ _)
    rw [e, vp_cell_q, vp_cell_q, arrV_store]
    congr 2
    funext q
    show _ = va_rf (rq g (upq h.2.2.1 a x.toNatClampNeg v a q))
    unfold upq updV
    rw [if_pos rfl]
    by_cases hq : q = x.toNatClampNeg
    · rw [if_pos hq, if_pos hq, rq_own v0]; rfl
    · rw [if_neg hq, if_neg hq]; rfl
  have h9 := n ls H1 _ hL hW' (hS.put (k := x.toNatClampNeg) z oq hA)
  have e5 : hz (sR h a x.toNatClampNeg v) = hz h := rfl
  have e6 : hu (sR h a x.toNatClampNeg v) = hu h := rfl
  simp only [e5, e6, Nat.sub_self, Nat.add_zero, hp] at h9
  exact h9
/-- behind a new cell -/
theorem S_new {H1 : Heap} (C : CX p s m args c cc nL own g hs) (hS : va_S (AA g) s.heap H locs) (z1 : H1.size = H.size + 1) (o1 : ∀ q : Nat, q < H.size → H1[q]? = H[q]?) : va_S (AA g) s.heap H1 locs :=
  ⟨Nat.le_trans hS.1 (by omega), fun x h1 h2 => (o1 x (Nat.lt_of_lt_of_le h1 hS.1)).trans (hS.2.1 x h1 h2), hS.2.2⟩
theorem addr_new (hW : RW g hs h H) : ph g (.ref (hz h)) = .ref H.size := by
  rw [ph_own hW.1, hW.2.1]
theorem op_new {idx cK : Nat} (C : CX p s m args c cc nL own g hs) (hd : decode cc pc = .ok (.new idx, 3)) (hp : pcOf P (i + 1) = pc + 3) (hL : LR g L nL ls) (hW : RW g hs h H) (hS : va_S (AA g) s.heap H locs) (hc : cK < 12) (hcl : Cond.classLink (cnm own) idx (clk cK).1 ∈ AW) (hin : Cond.instantiable (clk cK).1 (fdn cK) ∈ AW) (hini : Cond.initialized (clk cK).1 ∈ AW)
    (hcells : cells + 1 ≤ R.cells) (hslots : slots + fdn cK ≤ R.slots)
    (n : NX p l e R s m args below meth c cells slots Q nL g hs h P (i + 1, L, .ref (hz h) :: S, mkC h cK 0 (fdn cK))) : W p l e R s m args below meth c H locs cells slots Q (F0 m pc ls (S.map (ph g))) := by
  have hts := C.2.2.2.2.1
  have hc' : cK < 13 := by omega
  have hKn := (K_of C).1 cK _ (clT_get hc')
  refine W.newcK C.1 C.2.1 C.2.2.2.1 (hts _ hcl) (hts _ hin) (hts _ hini) rfl hd hcells hslots hKn.2.1 rfl fun H1 kC hkC e1 z1 o1 => ?_
  have hW' : RW g hs (mkC h cK 0 (fdn cK)) H1 := by
    refine hW.mk (by unfold okk; simp only [Bool.or_eq_true, decide_eq_true_eq]; omega) z1 o1 ?_
    have hk1 : hK (mkC h cK 0 (fdn cK)) (hz h) = cK := by show upr (hK h) (hz h) cK (hz h) = _; unfold upr; rw [if_pos rfl]
    rw [cE_obj hk1 hc']
    refine ⟨_, clT_get hc', (u_born (tyk cK) hts (lay_in hc') hKn hkC e1 (tyk_ok cK hc')).to fun j hj => ?_⟩
    have hj' : j < fdn cK := by rw [← clN cK hc']; exact hj
    unfold vp_V
    rw [List.getD_eq_getElem?_getD, List.getElem?_map, List.getElem?_range hj']
    show defaultValue (tyk cK j) = fvl g (mkC h cK 0 (fdn cK)) cK (hz h) j
    have hI0 : hI (mkC h cK 0 (fdn cK)) (hz h) j = 0 := by show upr h.1 (hz h) _ (hz h) j = _; unfold upr; rw [if_pos rfl]
    have hR0 : hR (mkC h cK 0 (fdn cK)) (hz h) j = 0 := by show upr h.2.2.1 (hz h) _ (hz h) j = _; unfold upr; rw [if_pos rfl]
    unfold fvl
    rw [hI0, hR0]
    obtain ⟨f0, f1, f2, f3⟩ := fd_ty cK hc' j hj'
    rcases f3 with f3 | f3 | f3
    · rw [f0 f3, if_neg (by omega)]; rfl
    · rw [f1 f3, if_neg (by omega)]; rfl
    · rw [if_pos f3]
      have := f2 f3
      cases hty : tyk cK j <;> rw [hty] at this <;> first | (cases this; done) | rfl
  have h9 := n ls H1 _ hL hW' (S_new C hS z1 o1)
  have e5 : hz (mkC h cK 0 (fdn cK)) - hz h = 1 := by show hz h + 1 - hz h = 1; omega
  have e6 : hu (mkC h cK 0 (fdn cK)) - hu h = fdn cK := by show hu h + fdn cK - hu h = fdn cK; omega
  simp only [e5, e6, hp] at h9
  rw [List.map_cons, addr_new hW] at h9
  exact h9
theorem op_newa_int {x : Int32} (C : CX p s m args c cc nL own g hs) (hd : decode cc pc = .ok (.newarray .int, 2)) (hp : pcOf P (i + 1) = pc + 2) (hL : LR g L nL ls) (hW : RW g hs h H) (hS : va_S (AA g) s.heap H locs) (hx : 0 ≤ x) (hx2 : x.toNatClampNeg ≤ 10000) (hac : Cond.arrayClass (newarray.typeOf .int) ∈ AW)
    (hcells : cells + 1 ≤ R.cells) (hslots : slots + x.toNatClampNeg ≤ R.slots)
    (n : NX p l e R s m args below meth c cells slots Q nL g hs h P (i + 1, L, .ref (hz h) :: S, mkC h 20 x.toNatClampNeg x.toNatClampNeg)) : W p l e R s m args below meth c H locs cells slots Q (F0 m pc ls ((.int x :: S).map (ph g))) := by
  have hts := C.2.2.2.2.1
  refine va_newaK C.1 C.2.1 (hts _ hac) rfl hd rfl (Int32.not_lt.mpr hx) rfl (Nat.le_trans (Nat.mul_le_mul hx2 (show componentBytes (newarray.typeOf .int) ≤ 8 by decide)) (by decide)) hcells hslots rfl fun H1 cA e1 z1 o1 hAr hNm => ?_
  have hcA : cA = g.2.1 20 := by
    have := ((K_of C).2 0 _ rfl).2
    exact Option.some.inj (hNm.symm.trans this)
  have hW' : RW g hs (mkC h 20 x.toNatClampNeg x.toNatClampNeg) H1 := by
    refine hW.mk (by decide) z1 o1 ?_
    have hk1 : hK (mkC h 20 x.toNatClampNeg x.toNatClampNeg) (hz h) = 20 := by show upr (hK h) (hz h) 20 (hz h) = _; unfold upr; rw [if_pos rfl]
    have hn1 : hN (mkC h 20 x.toNatClampNeg x.toNatClampNeg) (hz h) = x.toNatClampNeg := by show upr (hN h) (hz h) _ (hz h) = _; unfold upr; rw [if_pos rfl]
    have hi1 : hI (mkC h 20 x.toNatClampNeg x.toNatClampNeg) (hz h) = fun _ => 0 := by show upr h.1 (hz h) _ (hz h) = _; unfold upr; rw [if_pos rfl]
    rw [cE_int hk1 (by decide) (by decide), hn1, hi1]
    show H1[H.size]? = some (vp_cell _ _)
    rw [vp_cell_i, e1, hcA]
    rfl
  have h9 := n ls H1 _ hL hW' (S_new C hS z1 o1)
  have e5 : hz (mkC h 20 x.toNatClampNeg x.toNatClampNeg) - hz h = 1 := by show hz h + 1 - hz h = 1; omega
  have e6 : hu (mkC h 20 x.toNatClampNeg x.toNatClampNeg) - hu h = x.toNatClampNeg := by show hu h + x.toNatClampNeg - hu h = _; omega
  simp only [e5, e6, hp] at h9
  rw [List.map_cons, addr_new hW] at h9
  exact h9
theorem op_newa_char {x : Int32} (C : CX p s m args c cc nL own g hs) (hd : decode cc pc = .ok (.newarray .char, 2)) (hp : pcOf P (i + 1) = pc + 2) (hL : LR g L nL ls) (hW : RW g hs h H) (hS : va_S (AA g) s.heap H locs) (hx : 0 ≤ x) (hx2 : x.toNatClampNeg ≤ 10000) (hac : Cond.arrayClass (newarray.typeOf .char) ∈ AW)
    (hcells : cells + 1 ≤ R.cells) (hslots : slots + x.toNatClampNeg ≤ R.slots)
    (n : NX p l e R s m args below meth c cells slots Q nL g hs h P (i + 1, L, .ref (hz h) :: S, mkC h 21 x.toNatClampNeg x.toNatClampNeg)) : W p l e R s m args below meth c H locs cells slots Q (F0 m pc ls ((.int x :: S).map (ph g))) := by
  have hts := C.2.2.2.2.1
  refine va_newaK C.1 C.2.1 (hts _ hac) rfl hd rfl (Int32.not_lt.mpr hx) rfl (Nat.le_trans (Nat.mul_le_mul hx2 (show componentBytes (newarray.typeOf .char) ≤ 8 by decide)) (by decide)) hcells hslots rfl fun H1 cA e1 z1 o1 hAr hNm => ?_
  have hcA : cA = g.2.1 21 := by
    have := ((K_of C).2 1 _ rfl).2
    exact Option.some.inj (hNm.symm.trans this)
  have hW' : RW g hs (mkC h 21 x.toNatClampNeg x.toNatClampNeg) H1 := by
    refine hW.mk (by decide) z1 o1 ?_
    have hk1 : hK (mkC h 21 x.toNatClampNeg x.toNatClampNeg) (hz h) = 21 := by show upr (hK h) (hz h) 21 (hz h) = _; unfold upr; rw [if_pos rfl]
    have hn1 : hN (mkC h 21 x.toNatClampNeg x.toNatClampNeg) (hz h) = x.toNatClampNeg := by show upr (hN h) (hz h) _ (hz h) = _; unfold upr; rw [if_pos rfl]
    have hi1 : hI (mkC h 21 x.toNatClampNeg x.toNatClampNeg) (hz h) = fun _ => 0 := by show upr h.1 (hz h) _ (hz h) = _; unfold upr; rw [if_pos rfl]
    rw [cE_int hk1 (by decide) (by decide), hn1, hi1]
    show H1[H.size]? = some (vp_cell _ _)
    rw [vp_cell_i, e1, hcA]
    rfl
  have h9 := n ls H1 _ hL hW' (S_new C hS z1 o1)
  have e5 : hz (mkC h 21 x.toNatClampNeg x.toNatClampNeg) - hz h = 1 := by show hz h + 1 - hz h = 1; omega
  have e6 : hu (mkC h 21 x.toNatClampNeg x.toNatClampNeg) - hu h = x.toNatClampNeg := by show hu h + x.toNatClampNeg - hu h = _; omega
  simp only [e5, e6, hp] at h9
  rw [List.map_cons, addr_new hW] at h9
  exact h9
theorem op_newa_bool {x : Int32} (C : CX p s m args c cc nL own g hs) (hd : decode cc pc = .ok (.newarray .boolean, 2)) (hp : pcOf P (i + 1) = pc + 2) (hL : LR g L nL ls) (hW : RW g hs h H) (hS : va_S (AA g) s.heap H locs) (hx : 0 ≤ x) (hx2 : x.toNatClampNeg ≤ 10000) (hac : Cond.arrayClass (newarray.typeOf .boolean) ∈ AW)
    (hcells : cells + 1 ≤ R.cells) (hslots : slots + x.toNatClampNeg ≤ R.slots)
    (n : NX p l e R s m args below meth c cells slots Q nL g hs h P (i + 1, L, .ref (hz h) :: S, mkC h 22 x.toNatClampNeg x.toNatClampNeg)) : W p l e R s m args below meth c H locs cells slots Q (F0 m pc ls ((.int x :: S).map (ph g))) := by
  have hts := C.2.2.2.2.1
  refine va_newaK C.1 C.2.1 (hts _ hac) rfl hd rfl (Int32.not_lt.mpr hx) rfl (Nat.le_trans (Nat.mul_le_mul hx2 (show componentBytes (newarray.typeOf .boolean) ≤ 8 by decide)) (by decide)) hcells hslots rfl fun H1 cA e1 z1 o1 hAr hNm => ?_
  have hcA : cA = g.2.1 22 := by
    have := ((K_of C).2 2 _ rfl).2
    exact Option.some.inj (hNm.symm.trans this)
  have hW' : RW g hs (mkC h 22 x.toNatClampNeg x.toNatClampNeg) H1 := by
    refine hW.mk (by decide) z1 o1 ?_
    have hk1 : hK (mkC h 22 x.toNatClampNeg x.toNatClampNeg) (hz h) = 22 := by show upr (hK h) (hz h) 22 (hz h) = _; unfold upr; rw [if_pos rfl]
    have hn1 : hN (mkC h 22 x.toNatClampNeg x.toNatClampNeg) (hz h) = x.toNatClampNeg := by show upr (hN h) (hz h) _ (hz h) = _; unfold upr; rw [if_pos rfl]
    have hi1 : hI (mkC h 22 x.toNatClampNeg x.toNatClampNeg) (hz h) = fun _ => 0 := by show upr h.1 (hz h) _ (hz h) = _; unfold upr; rw [if_pos rfl]
    rw [cE_int hk1 (by decide) (by decide), hn1, hi1]
    show H1[H.size]? = some (vp_cell _ _)
    rw [vp_cell_i, e1, hcA]
    rfl
  have h9 := n ls H1 _ hL hW' (S_new C hS z1 o1)
  have e5 : hz (mkC h 22 x.toNatClampNeg x.toNatClampNeg) - hz h = 1 := by show hz h + 1 - hz h = 1; omega
  have e6 : hu (mkC h 22 x.toNatClampNeg x.toNatClampNeg) - hu h = x.toNatClampNeg := by show hu h + x.toNatClampNeg - hu h = _; omega
  simp only [e5, e6, hp] at h9
  rw [List.map_cons, addr_new hW] at h9
  exact h9
theorem op_newa_long {x : Int32} (C : CX p s m args c cc nL own g hs) (hd : decode cc pc = .ok (.newarray .long, 2)) (hp : pcOf P (i + 1) = pc + 2) (hL : LR g L nL ls) (hW : RW g hs h H) (hS : va_S (AA g) s.heap H locs) (hx : 0 ≤ x) (hx2 : x.toNatClampNeg ≤ 10000) (hac : Cond.arrayClass (newarray.typeOf .long) ∈ AW)
    (hcells : cells + 1 ≤ R.cells) (hslots : slots + x.toNatClampNeg ≤ R.slots)
    (n : NX p l e R s m args below meth c cells slots Q nL g hs h P (i + 1, L, .ref (hz h) :: S, mkC h 23 x.toNatClampNeg x.toNatClampNeg)) : W p l e R s m args below meth c H locs cells slots Q (F0 m pc ls ((.int x :: S).map (ph g))) := by
  have hts := C.2.2.2.2.1
  refine va_newaK C.1 C.2.1 (hts _ hac) rfl hd rfl (Int32.not_lt.mpr hx) rfl (Nat.le_trans (Nat.mul_le_mul hx2 (show componentBytes (newarray.typeOf .long) ≤ 8 by decide)) (by decide)) hcells hslots rfl fun H1 cA e1 z1 o1 hAr hNm => ?_
  have hcA : cA = g.2.1 23 := by
    have := ((K_of C).2 3 _ rfl).2
    exact Option.some.inj (hNm.symm.trans this)
  have hW' : RW g hs (mkC h 23 x.toNatClampNeg x.toNatClampNeg) H1 := by
    refine hW.mk (by decide) z1 o1 ?_
    have hk1 : hK (mkC h 23 x.toNatClampNeg x.toNatClampNeg) (hz h) = 23 := by show upr (hK h) (hz h) 23 (hz h) = _; unfold upr; rw [if_pos rfl]
    have hn1 : hN (mkC h 23 x.toNatClampNeg x.toNatClampNeg) (hz h) = x.toNatClampNeg := by show upr (hN h) (hz h) _ (hz h) = _; unfold upr; rw [if_pos rfl]
    have hi1 : hJ (mkC h 23 x.toNatClampNeg x.toNatClampNeg) (hz h) = fun _ => 0 := by show upr h.2.1 (hz h) _ (hz h) = _; unfold upr; rw [if_pos rfl]
    rw [cE_long hk1, hn1, hi1]
    show H1[H.size]? = some (vp_cell _ _)
    rw [vp_cell_l, e1, hcA]
    rfl
  have h9 := n ls H1 _ hL hW' (S_new C hS z1 o1)
  have e5 : hz (mkC h 23 x.toNatClampNeg x.toNatClampNeg) - hz h = 1 := by show hz h + 1 - hz h = 1; omega
  have e6 : hu (mkC h 23 x.toNatClampNeg x.toNatClampNeg) - hu h = x.toNatClampNeg := by show hu h + x.toNatClampNeg - hu h = _; omega
  simp only [e5, e6, hp] at h9
  rw [List.map_cons, addr_new hW] at h9
  exact h9
theorem op_newr {x : Int32} {idx cn t : Nat} (C : CX p s m args c cc nL own g hs) (hd : decode cc pc = .ok (.anewarray idx, 3)) (hp : pcOf P (i + 1) = pc + 3) (hL : LR g L nL ls) (hW : RW g hs h H) (hS : va_S (AA g) s.heap H locs) (hx : 0 ≤ x) (hx2 : x.toNatClampNeg ≤ 10000) (hok : okk (30 + cn) = true) (hty : (tysT g)[t]? = some (g.2.1 (30 + cn), .object (clk cn).1)) (hcl : Cond.classLink (cnm own) idx (clk cn).1 ∈ AW) (hov : Cond.arrayOver (.object (clk cn).1) ∈ AW)
    (hcells : cells + 1 ≤ R.cells) (hslots : slots + x.toNatClampNeg ≤ R.slots)
    (n : NX p l e R s m args below meth c cells slots Q nL g hs h P (i + 1, L, .ref (hz h) :: S, mkC h (30 + cn) x.toNatClampNeg x.toNatClampNeg)) : W p l e R s m args below meth c H locs cells slots Q (F0 m pc ls ((.int x :: S).map (ph g))) := by
  have hts := C.2.2.2.2.1
  refine W.anew C.1 C.2.1 C.2.2.2.1 (hts _ hcl) (hts _ hov) rfl hd rfl (Int32.not_lt.mpr hx) (Nat.le_trans (Nat.mul_le_mul_right 4 hx2) (by decide)) hcells hslots fun cA kA comp f1 f2 f3 f4 => ?_
  generalize hH1 : H.push ({ cls := cA, slots := Array.replicate x.toNatClampNeg .null, vm := .none } : Cell) = H1
  have z1 : H1.size = H.size + 1 := by rw [← hH1, Array.size_push]
  have e1 : H1[H.size]? = some (arrV cA x.toNatClampNeg (fun _ => .null)) := by rw [← hH1, Array.getElem?_push_size, ← arrV_new]
  have o1 : ∀ q : Nat, q < H.size → H1[q]? = H[q]? := fun q hq => by rw [← hH1, Array.getElem?_push, if_neg (Nat.ne_of_lt hq)]
  have hcA : cA = g.2.1 (30 + cn) := by
    obtain ⟨kA', comp', -, -, -, h4⟩ := ((K_of C).2 t _ hty).2
    exact Option.some.inj (f1.symm.trans h4)
  have hW' : RW g hs (mkC h (30 + cn) x.toNatClampNeg x.toNatClampNeg) H1 := by
    refine hW.mk hok z1 o1 ?_
    have hk1 : hK (mkC h (30 + cn) x.toNatClampNeg x.toNatClampNeg) (hz h) = 30 + cn := by show upr (hK h) (hz h) _ (hz h) = _; unfold upr; rw [if_pos rfl]
    have hn1 : hN (mkC h (30 + cn) x.toNatClampNeg x.toNatClampNeg) (hz h) = x.toNatClampNeg := by show upr (hN h) (hz h) _ (hz h) = _; unfold upr; rw [if_pos rfl]
    have hi1 : hR (mkC h (30 + cn) x.toNatClampNeg x.toNatClampNeg) (hz h) = fun _ => 0 := by show upr h.2.2.1 (hz h) _ (hz h) = _; unfold upr; rw [if_pos rfl]
    rw [cE_ref hk1 (by omega), hn1, hi1]
    show H1[H.size]? = some (vp_cell _ _)
    rw [vp_cell_q, e1, hcA]
    rfl
  have h9 := n ls H1 _ hL hW' (S_new C hS z1 o1)
  have e5 : hz (mkC h (30 + cn) x.toNatClampNeg x.toNatClampNeg) - hz h = 1 := by show hz h + 1 - hz h = 1; omega
  have e6 : hu (mkC h (30 + cn) x.toNatClampNeg x.toNatClampNeg) - hu h = x.toNatClampNeg := by show hu h + x.toNatClampNeg - hu h = _; omega
  simp only [e5, e6, hp] at h9
  rw [List.map_cons, addr_new hW] at h9
  exact h9
theorem op_cast20 {idx a : Nat} (C : CX p s m args c cc nL own g hs) (hd : decode cc pc = .ok (.checkcast idx, 3)) (hp : pcOf P (i + 1) = pc + 3) (hL : LR g L nL ls) (hW : RW g hs h H) (hS : va_S (AA g) s.heap H locs) (hk : hK h a = 20) (hcl : Cond.classLink (cnm own) idx "[I" ∈ AW)
    (n : NX p l e R s m args below meth c cells slots Q nL g hs h P (i + 1, L, .ref a :: S, h)) : W p l e R s m args below meth c H locs cells slots Q (F0 m pc ls ((.ref a :: S).map (ph g))) := by
  obtain ⟨h0, h1⟩ := hW.own (a := a) (by omega)
  have hat := (hW.2.2.1 a h0 h1).2
  rw [cE_int hk (by decide) (by decide)] at hat
  have n' := n.here hL hW hS hp
  rw [List.map_cons, ph_own h0] at n' ⊢
  have hnm : s.vm.findClass "[I" = some (g.2.1 20) := by
    have := ((K_of C).2 0 _ rfl).2
    exact this
  exact va_castA C.1 C.2.1 C.2.2.2.1 (C.2.2.2.2.1 _ hcl) (one_P hat) 0 rfl hnm hd n'
theorem op_gets {idx : Nat} {q : String × String × String × Nat × Nat} {v : Value} (C : CX p s m args c cc nL own g hs) (hd : decode cc pc = .ok (.getstatic idx, 3)) (hp : pcOf P (i + 1) = pc + 3) (hL : LR g L nL ls) (hW : RW g hs h H) (hS : va_S (AA g) s.heap H locs) (hq : q ∈ stT) (hv : ph g v = stv g q.2.2.2)
    (hl : Cond.fieldLink (cnm own) idx q.1 q.2.1 q.2.2.1 ∈ AW ∨ Cond.fieldLinkNest (cnm own) idx q.1 q.2.1 q.2.2.1 "PenThatJumps" ∈ AW)
    (n : NX p l e R s m args below meth c cells slots Q nL g hs h P (i + 1, L, v :: S, h)) : W p l e R s m args below meth c H locs cells slots Q (F0 m pc ls (S.map (ph g))) := by
  have n' := n.here hL hW hS hp
  rw [List.map_cons, hv] at n'
  have hZ := (S_of C).1 q hq
  rcases hl with hl | hl
  · exact va_gets C.1 C.2.1 hZ hS C.2.2.2.1 (C.2.2.2.2.1 _ hl) (fun _ z => z) hd n'
  · exact va_getsN C.1 C.2.1 hZ hS C.2.2.2.1 (C.2.2.2.2.1 _ hl) (fun _ z => z) hd n'
theorem op_getsf {idx cK k a : Nat} (C : CX p s m args c cc nL own g hs) (hd : decode cc pc = .ok (.getfield idx, 3)) (hp : pcOf P (i + 1) = pc + 3) (hL : LR g L nL ls) (hW : RW g hs h H) (hS : va_S (AA g) s.heap H locs) (hk : hK h a = cK) (hc : cK = 40 ∨ cK = 42) (hkn : k < fdn cK)
    (hl : Cond.fieldLink (cnm own) idx (sfT cK k).1 (sfT cK k).2.1 (sfT cK k).2.2 ∈ AW ∨ Cond.fieldLinkNest (cnm own) idx (sfT cK k).1 (sfT cK k).2.1 (sfT cK k).2.2 "PenThatJumps" ∈ AW)
    (n : NX p l e R s m args below meth c cells slots Q nL g hs h P (i + 1, L, fvA h cK a k :: S, h)) : W p l e R s m args below meth c H locs cells slots Q (F0 m pc ls ((.ref a :: S).map (ph g))) := by
  obtain ⟨ha, e1, e2, e3, e4⟩ := st_of hW (a := a) (by omega) (by omega)
  have e1' : hK hs a = cK := e1.trans hk
  obtain ⟨t, ht, hF⟩ := (S_of C).2.1 a ha (by rw [e1']; exact hc)
  rw [e1'] at hF
  have hE := hF k hkn
  have hfe : fvl g hs cK a k = fvl g h cK a k := by unfold fvl; rw [e3, e4]
  rw [hfe] at hE
  have n' := n.here hL hW hS hp
  rw [List.map_cons, ph_fvA] at n'
  rw [List.map_cons, ph_some ht]
  rcases hl with hl | hl
  · exact vk_getf C.1 C.2.1 hE hS C.2.2.2.1 (C.2.2.2.2.1 _ hl) (fun _ z => z) hd n'
  · obtain ⟨cf, k9, fi, f, cell, h1, h2, h3, h4, h5, h6⟩ := hE.kept hS.2.1
    exact va_Wgetf C.1 C.2.1 C.2.2.2.1 (C.2.2.2.2.1 _ hl) h1 h2 h3 h4 (v := fvl g h cK a k) h5 rfl rfl hd n'
end ARR
