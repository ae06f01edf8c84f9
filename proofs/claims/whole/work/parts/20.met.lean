set_option maxRecDepth 100000 in
theorem jdk_ok : Cond.instanceMethod objectInit ∈ lw_tbl ∧ Cond.code objectInit ⟨#[0xb1]⟩ 1 none ∈ lw_tbl ∧ Cond.native arraycopyName ∈ lw_tbl ∧ Cond.static arraycopyName ∈ lw_tbl ∧ Cond.initialized "java/lang/System" ∈ lw_tbl := by decide +kernel
section MET
variable {p : Program} {l : Launch} {e : Env} {R : Room} {s : State} {m : MethodId} {args : Array Value} {below : List Frame} {meth : Method} {c : Code} {H : Heap} {locs : List Loc} {cells slots : Nat} {Q : State → Prop} {cc : ByteArray} {nL own pc : Nat} {ls : Array Slot} {g : GG} {hs h : AH} {P : List IR} {i : Nat} {L S : List Value}
theorem op_objInit {f r : Nat} (C : CX p s m args c cc nL own g hs) (hd : decode cc pc = .ok (.invokespecial f, 3)) (hl : Cond.methodLink (cnm own) f objectInit ∈ AW) (hR : 1 ≤ R.frames ∧ 64 ≤ R.locals) (hL : LR g L nL ls) (hr : 100 ≤ r) (hcat : (S.map fun v => v.category).sum ≤ 8)
    (kk : W p l e R s m args below meth c H locs cells slots Q (F0 m (pc + 3) ls (S.map (ph g)))) : W p l e R s m args below meth c H locs cells slots Q (F0 m pc ls ((.ref r :: S).map (ph g))) := by
  rw [List.map_cons, ph_own hr]
  have hts := C.2.2.2.2.1
  refine W.objInit C.1 C.2.1 C.2.2.2.1 (hts _ hl) (hts _ (AWof jdk_ok.1 rfl)) (hts _ (AWof jdk_ok.2.1 rfl)) rfl (by rw [C.2.2.1]; exact hL.2.1) rfl hd hR.1 ?_ kk
  have h1 : 2 * (F0 m pc ls (.ref (gb g + (r - 100)) :: S.map (ph g))).monitorRoom + ((S.map (ph g)).map fun v => v.category).sum ≤ 8 := lv_room (by rw [cat_map]; exact hcat)
  have h2 := hR.2
  omega
theorem op_copy {f a0 a1 : Nat} {n : Int32} (C : CX p s m args c cc nL own g hs) (hd : decode cc pc = .ok (.invokestatic f, 3)) (hl : Cond.methodLink (cnm own) f arraycopyName ∈ AW) (hR : 1 ≤ R.frames ∧ 64 ≤ R.locals) (hL : LR g L nL ls) (hW : RW g hs h H) (hS : va_S (AA g) s.heap H locs) (hcat : (S.map fun v => v.category).sum ≤ 8)
    (hn : 0 ≤ n) (hk0 : hK h a0 = 20) (hk1 : hK h a1 = 20) (hne : a0 ≠ a1) (hn0 : n.toNatClampNeg ≤ hN h a0) (hn1 : n.toNatClampNeg ≤ hN h a1)
    (kk : ∀ (H1 : Heap) (locs1 : List Loc), RW g hs (cpy h a0 a1 n.toNatClampNeg) H1 → va_S (AA g) s.heap H1 locs1 → W p l e R s m args below meth c H1 locs1 cells slots Q (F0 m (pc + 3) ls (S.map (ph g)))) :
    W p l e R s m args below meth c H locs cells slots Q (F0 m pc ls ((.int n :: .int 0 :: .ref a1 :: .int 0 :: .ref a0 :: S).map (ph g))) := by
  obtain ⟨b0, b1⟩ := hW.own (a := a0) (by omega)
  obtain ⟨d0, d1⟩ := hW.own (a := a1) (by omega)
  have hat0 := (hW.2.2.1 a0 b0 b1).2
  have hat1 := (hW.2.2.1 a1 d0 d1).2
  rw [cE_int hk0 (by decide) (by decide)] at hat0
  rw [cE_int hk1 (by decide) (by decide)] at hat1
  have hc0 : H[gb g + (a0 - 100)]? = some (vp_cell (g.2.1 20) (hN h a0, .inl (hI h a0))) := hat0
  have hc1 : H[gb g + (a1 - 100)]? = some (vp_cell (g.2.1 20) (hN h a1, .inl (hI h a1))) := hat1
  simp only [List.map_cons]
  rw [ph_own b0, ph_own d0]
  have hts := C.2.2.2.2.1
  have nn : ∀ z : Int32, ¬ z < 0 → z.toInt = (z.toNatClampNeg : Int) := by
    intro z hz
    have hz0 : (0 : Int) ≤ z.toInt := by
      have := Int32.not_lt.mp hz
      simpa using Int32.le_iff_toInt_le.mp this
    show z.toInt = ((z.toInt.toNat : Nat) : Int)
    omega
  have hn' : ¬ n < 0 := Int32.not_lt.mpr hn
  have z0 : (0 : Int32).toNatClampNeg = 0 := by decide
  intro T hT X
  obtain ⟨-, k0, hk0', cm0, hkk0⟩ := ((K_of C).2 0 _ rfl).1 (hN h a0) (fun j => .int (hI h a0 j))
  obtain ⟨vm', X', step⟩ := X.arraycopy C.1 C.2.2.2.1 (hts _ hl) (hts _ (AWof jdk_ok.2.2.1 rfl)) (hts _ (AWof jdk_ok.2.2.2.1 rfl)) (hts _ (AWof jdk_ok.2.2.2.2 rfl)) (src := gb g + (a0 - 100)) (dst := gb g + (a1 - 100)) (cs := vp_cell (g.2.1 20) (hN h a0, .inl (hI h a0))) (cd := vp_cell (g.2.1 20) (hN h a1, .inl (hI h a1))) (srcPos := 0) (destPos := 0) (n := n) (by rw [hT]; exact hc0) (by rw [hT]; exact hc1)
    (fun _ h => by cases h) (fun _ h => by cases h) (fun h => by cases h) (fun h => by cases h) hk0' hk0' hkk0 hkk0 (by simp [refKind]) (by decide) (by decide) hn'
    (by rw [nn n hn']; show ¬ _ > ((arrV (g.2.1 20) (hN h a0) (fun j => .int (hI h a0 j))).slots.size : Int); rw [arrV_size]; show ¬ ((0 : Int) + _ > _); omega)
    (by rw [nn n hn']; show ¬ _ > ((arrV (g.2.1 20) (hN h a1) (fun j => .int (hI h a1 j))).slots.size : Int); rw [arrV_size]; show ¬ ((0 : Int) + _ > _); omega)
    (fun vm₁ _ i hi => by
      have e : (vp_cell (g.2.1 20) (hN h a0, .inl (hI h a0))).slots.getD ((0 : Int32).toNatClampNeg + i) .null = .int (hI h a0 ((0 : Int32).toNatClampNeg + i)) := by
        show (arrV (g.2.1 20) (hN h a0) (fun j => .int (hI h a0 j))).slots.getD _ _ = _
        rw [Array.getD_eq_getD_getElem?, arrV_read _ _ (by rw [z0]; omega)]
        rfl
      refine ⟨?_, ?_⟩
      · rw [e]
        rfl
      · rw [e]
        exact trivial)
    (g := F0 m pc ls (.int n :: .int 0 :: .ref (gb g + (a1 - 100)) :: .int 0 :: .ref (gb g + (a0 - 100)) :: S.map (ph g))) rfl (by rw [C.2.2.1]; exact hL.2.1) (rest := S.map (ph g)) rfl (by rw [C.2.1]; exact hd) hR.1 (by
      show 2 * 0 + _ + _ ≤ _
      rw [cat_map]
      have : nativeFrameWords "java/lang/System" "arraycopy" 5 + 11 ≤ 50 := by decide
      have h2 := hR.2
      omega)
  have e1 : copied (vp_cell (g.2.1 20) (hN h a0, .inl (hI h a0))) (vp_cell (g.2.1 20) (hN h a1, .inl (hI h a1))) 0 0 n = vp_cell (g.2.1 20) (hN h a1, .inl (va_cpy (hI h a0) (hI h a1) (0 : Int32).toNatClampNeg (0 : Int32).toNatClampNeg n.toNatClampNeg)) := va_copied (fun z => .int z) _ _ _ _ (by rw [z0]; omega)
  rw [e1, z0] at X' step
  have hlt : gb g + (a1 - 100) < H.size := (Array.getElem?_eq_some_iff.mp hc1).1
  generalize hcl : vp_cell (g.2.1 20) (hN h a1, .inl (va_cpy (hI h a0) (hI h a1) 0 0 n.toNatClampNeg)) = cl at X' step
  have hheap : ((T.setVm vm').setCell (gb g + (a1 - 100)) cl).heap = H.setIfInBounds (gb g + (a1 - 100)) cl := by rw [← hT]; rfl
  have oq : ∀ q : Nat, q ≠ gb g + (a1 - 100) → (H.setIfInBounds (gb g + (a1 - 100)) cl)[q]? = H[q]? := fun q hq => by simp [Array.getElem?_setIfInBounds, Ne.symm hq]
  have hA : AA g (gb g + (a1 - 100)) := Nat.le_add_right _ _
  have hW' : RW g hs (cpy h a0 a1 n.toNatClampNeg) (H.setIfInBounds (gb g + (a1 - 100)) cl) := by
    refine hW.upd d0 d1 rfl rfl rfl (fun y hy => ?_) (fun y _ => rfl) (fun y _ => rfl) (by simp) oq ?_
    · funext z; show (if y = a1 then _ else h.1 y z) = _; rw [if_neg hy]; rfl
    · rw [cE_int (h := cpy h a0 a1 n.toNatClampNeg) hk1 (by decide) (by decide)]
      show (H.setIfInBounds (gb g + (a1 - 100)) cl)[gb g + (a1 - 100)]? = some (vp_cell _ _)
      rw [Array.getElem?_setIfInBounds, if_pos rfl, if_pos hlt, ← hcl]
      congr 3
      congr 1
      funext z
      show va_cpy (hI h a0) (hI h a1) 0 0 n.toNatClampNeg z = if a1 = a1 then (if z < n.toNatClampNeg then h.1 a0 z else h.1 a1 z) else h.1 a1 z
      rw [if_pos rfl]
      unfold va_cpy
      by_cases hq : z < n.toNatClampNeg
      · rw [if_pos ⟨Nat.zero_le _, by omega⟩, if_pos hq]; simp [hI]
      · rw [if_neg (by omega), if_neg hq]; rfl
  obtain ⟨t, u1, u2⟩ := kk _ _ hW' ⟨by simp; exact hS.1, fun q g1 g2 => by
      rw [oq q (fun e => g2 (by rw [e]; exact hA))]
      exact hS.2.1 q g1 g2, fun q hq => by
      rcases List.mem_append.mp hq with h | h
      · exact hS.2.2 q h
      · obtain ⟨z, -, hz⟩ := List.mem_map.mp h
        rw [← hz]
        exact hA⟩ _ hheap X'
  exact ⟨t, step t u1, u2⟩
end MET
