--deps: cf.simgo c5.ok
/-! A METHOD OF THE THREE, WHERE IT RETURNS -/
theorem prms_of {l : Launch} {ML : List MDt} {pr : Nat → Nat → AC} {g : GG} {hs : AH} {s : State} (h : PRM l ML pr g hs) : PRMS l ML pr g hs 2 s := fun p e R m => h p e R s m
theorem prmg : ∀ d n y a h z, prm d n y a h = some z → hz h ≤ hz z.2 ∧ hu h ≤ hu z.2 := fun _ _ _ _ _ _ => prm_grow
theorem rgo_all (P : List IR) : RGO P (fun _ => True) := ⟨trivial, fun _ _ _ _ _ => ⟨trivial, fun _ _ _ => trivial⟩⟩
theorem ret_int {x : Instr} {S : List Value} {v : Int32} (h1 : isRet x = true) (h : retv x S = some (some (.int v))) : x = .ireturn ∧ S = [.int v] := by
  cases x <;> first | (cases h1; done) | skip
  all_goals (unfold retv at h; split at h <;> first | (cases h; done) | skip)
  all_goals (first | (cases h; exact ⟨rfl, rfl⟩) | contradiction)
theorem ret_long {x : Instr} {S : List Value} {v : Int64} (h1 : isRet x = true) (h : retv x S = some (some (.long v))) : x = .lreturn ∧ S = [.long v] := by
  cases x <;> first | (cases h1; done) | skip
  all_goals (unfold retv at h; split at h <;> first | (cases h; done) | skip)
  all_goals (first | (cases h; exact ⟨rfl, rfl⟩) | contradiction)
theorem x_ret {l : Launch} {g : GG} {hs : AH} {y : MethodName} {cc : ByteArray} {maxL : Nat} {ret : Option FieldType} {P : List IR} (hy : plainName y.cls = true) (hyc : y.cls = cnm 10) (hP : POK ML cc 10 false P) (hp0 : pcOf P 0 = 0) {d n : Nat} {a : List Value} {h : AH} {z : Option Value × AH} (hfl : (flat a).length ≤ maxL)
    (hrun : run (callD ML prm d n) P n 0 (lcs maxL a) [] h = some z) (hrt : (ret = some .int ∧ ∃ v, z.1 = some (.int v)) ∨ (ret = some .long ∧ ∃ v, z.1 = some (.long v))) :
    Met l y [.code y cc maxL ret] (rmD (d + 1) (hz z.2 - hz h) (hu z.2 - hu h)) (PcA g hs a h) (QcA g hs z) (hz z.2 - hz h) (hu z.2 - hu h) (AA g) := by
  refine Met.ofW (cc := cc) (maxL := maxL) (ret := ret) hy rfl ?_
  intro p e s m args below meth c s₁ B hml hv
  obtain ⟨rfl, hW, hE1, hE2, hE3, hE4⟩ := hv
  have hown : s.vm.findClass y.cls = some m.cls := findClass_of_methodNamed B.named
  have C : CX p s m (a.map (ph g)).toArray c cc maxL 10 g hs := ⟨B.exec, B.bytes, hml, by rw [← hyc]; exact hown, fun w hw => AW_at (State.WarmedH.refl s) hw (hE1 w hw), hE2, hE3, hE4⟩
  rw [lg_entry_eq]
  have hL := LR.entry g a (n := maxL) hfl
  generalize ((lg_sl (a.map (ph g)) ++ List.replicate (maxL - (lg_sl (a.map (ph g))).length) Slot.unset).toArray) = ls at hL ⊢
  have hlocks := B.notSynchronized
  have hr := B.returns
  have K0 := sim_go (p := p) (l := l) (e := e) (R := rmD (d + 1) (hz z.2 - hz h) (hu z.2 - hu h)) (below := below) (meth := meth) (Q := MQ below (QcA g hs z) (a.map (ph g)).toArray s (hz z.2 - hz h) (hu z.2 - hu h) (AA g)) (ini := false) C hP (fun hq => by cases hq) ok_ML prmg (rgo_all P) (Nat.le_refl 1) (prms_of prm_rule) (met_all l g hs ok_ML prmg prm_rule d) ⟨Nat.le_refl _, Nat.le_refl _⟩ n 0 (lcs maxL a) [] h z s.heap ls [] 0 0 hrun trivial hL hW va_S.rf (by show 0 + _ ≤ (hz z.2 - hz h) ∧ 0 + _ ≤ (hu z.2 - hu h); omega) ?_
  · rw [hp0] at K0
    exact K0
  · intro i' w' x pc' S' H' ls' locs' k6 k8 k7 k1 k2 k3 k4 k5
    rw [Nat.zero_add, Nat.zero_add]
    have hq : ∀ t' : State, t'.heap = H' → s.WarmedH t'.vm → QcA g hs z (a.map (ph g)).toArray s (.returned (z.1.map (ph g))) t' := fun t' e1 _ => ⟨rfl, by rw [e1]; exact k4, k5.F e1⟩
    rcases hrt with ⟨e0, v, e1⟩ | ⟨e0, v, e1⟩
    · rw [e1] at k3 hq
      obtain ⟨rfl, rfl⟩ := ret_int k1 k3
      rw [e0] at hr
      exact W.zret B.exec B.bytes hr rfl hq k5.2.2 (k2.resolve_left (fun e => by cases e))
    · rw [e1] at k3 hq
      obtain ⟨rfl, rfl⟩ := ret_long k1 k3
      rw [e0] at hr
      exact W.lret B.exec B.bytes hr hq k5.2.2 (k2.resolve_left (fun e => by cases e))
