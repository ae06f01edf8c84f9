--deps: 9u.body
/-! WHAT IS KEPT OF A TEXT -/
theorem RTP_of {f g : Nat → Int32} {π : Nat → Nat} : ∀ {c : List Nat} {s : Nat}, (∀ j, j < c.length → f (s + j) = rop (c.getD j 0) ∧ (c.getD j 0 < 20000 → g (s + j) = rone π (c.getD j 0))) → f (s + c.length) = 0 → RTP f g π s c
  | [], s, _, e => e
  | k :: c, s, q, e => by
    have q0 := q 0 (by simp)
    refine ⟨q0.1, q0.2, RTP_of (fun j hj => ?_) ?_⟩
    · have := q (j + 1) (by simp; omega)
      rw [show s + 1 + j = s + (j + 1) by omega]
      exact this
    · rw [← e]; congr 1; simp; omega
theorem STP_seg {f : Nat → Int32} : ∀ {a c b : List Nat} {s : Nat}, STP f s (a ++ c ++ b) → STP f (s + a.length) c
  | [], [], b, s, _ => True.intro
  | [], k :: c, b, s, q => ⟨q.1, by
    have q2 : STP f (s + 1) ([] ++ c ++ b) := q.2
    have := STP_seg (a := []) q2
    exact this⟩
  | k :: a, c, b, s, q => by
    have q2 : STP f (s + 1) (a ++ c ++ b) := q.2
    have := STP_seg q2
    rw [show s + (k :: a).length = s + 1 + a.length by simp; omega]
    exact this
theorem oks_mem {nf : Nat} (hnf : nf ≤ 20) : ∀ {c : List Nat} {n : Nat}, oks nf c n → ∀ k ∈ c, k ≠ 30000
  | [], _, _, k, hk => by simp at hk
  | a :: c, n, o, k, hk => by
    rcases List.mem_cons.mp hk with z | z
    · rw [z]
      rcases o.2.1 with y | y | y <;> omega
    · exact oks_mem hnf o.2.2 k z
theorem seg_at {cm c : List Nat} {s : Nat} (g : SEG cm s (c ++ [30000])) : (∀ j, j < c.length → cm.getD (s + j) 0 = c.getD j 0) ∧ cm.getD (s + c.length) 0 = 30000 ∧ s + c.length < cm.length := by
  obtain ⟨a, b, rfl, rfl⟩ := g
  have e : ∀ j, j ≤ c.length → (a ++ (c ++ [30000]) ++ b)[a.length + j]? = (c ++ [30000])[j]? := by
    intro j hj
    rw [List.append_assoc, List.getElem?_append_right (by omega), Nat.add_sub_cancel_left, List.getElem?_append_left (by simp; omega)]
  refine ⟨fun j hj => ?_, ?_, by simp⟩
  · rw [List.getD_eq_getElem?_getD, e j (by omega), List.getElem?_append_left hj, ← List.getD_eq_getElem?_getD]
  · rw [List.getD_eq_getElem?_getD, e c.length (Nat.le_refl _)]
    simp
/-- codes copied to where they are kept: a line of them -/
theorem RTP_keep {f g f0 g0 : Nat → Int32} {π : Nat → Nat} {cm c : List Nat} {s b nf : Nat} (hnf : nf ≤ 20) (o : oks nf c 0) (sg : SEG cm s (c ++ [30000])) (rq : ∀ j, j < cm.length → f0 (5500 + j) = rop' (cm.getD j 0) ∧ (cm.getD j 0 < 20000 → g0 (5500 + j) = rone π (cm.getD j 0))) (ef : ∀ j, j < cm.length → f (b + j) = f0 (5500 + j) ∧ g (b + j) = g0 (5500 + j)) : RTP f g π (b + s) c := by
  obtain ⟨s1, s2, s3⟩ := seg_at sg
  refine RTP_of (fun j hj => ?_) ?_
  · have hk : c.getD j 0 ≠ 30000 := oks_mem hnf o _ (by rw [List.getD_eq_getElem?_getD, List.getElem?_eq_getElem hj]; exact List.getElem_mem hj)
    obtain ⟨e1, e2⟩ := ef (s + j) (by omega)
    obtain ⟨r1, r2⟩ := rq (s + j) (by omega)
    rw [show b + s + j = b + (s + j) by omega, e1, e2, r1, s1 j hj]
    unfold rop'
    rw [if_neg hk]
    refine ⟨rfl, fun z => ?_⟩
    rw [s1 j hj] at r2
    exact r2 z
  · obtain ⟨e1, e2⟩ := ef (s + c.length) (by omega)
    obtain ⟨r1, r2⟩ := rq (s + c.length) (by omega)
    rw [show b + s + c.length = b + (s + c.length) by omega, e1, r1, s2]
    rfl
def kcs : Nat → Prop := fun a => a = 357 ∨ a = 358
theorem w_M_keeps {d : Nat} (to n : Nat) (hto : to ≤ 4) (hn : n ≤ 1000) (h0 : AH) (m0 : MLY h0) (e20 : hI h0 342 20 = nI n) (Q : Option Value → AH → Prop) (fin : ∀ h', Fr kcs nov h0 h' → (∀ a, a = 357 ∨ a = 358 → (∀ j, j < n → hI h' a (1100 * to + j) = hI h0 a (5500 + j)) ∧ (∀ j, j < 1100 * to ∨ 1100 * to + n ≤ j → hI h' a j = hI h0 a j)) → Q none h') : ∀ (m i : Nat) (h : AH), i + m = n → Fr kcs nov h0 h → (∀ a, a = 357 ∨ a = 358 → (∀ j, j < i → hI h a (1100 * to + j) = hI h0 a (5500 + j)) ∧ (∀ j, j < 1100 * to ∨ 1100 * to + i ≤ j → hI h a j = hI h0 a j)) → Wp d P_M_keepsCodes 2 [.ref 342, .int (nI to), .int (nI i)] [] h Q := by
  intro m
  induction m with
  | zero =>
    intro i h e fr g
    have : i = n := by omega
    subst this
    have mm := m0.fr fr
    have e2 : hI h 342 20 = nI i := by rw [fr.I (by unfold kcs; decide)]; exact e20
    rw [b_M_keepsCodes_2]
    simp only [mo mm, e2, Int32.le_refl, b_M_keepsCodes_36, mem20, mem21, mem22, al20, al21, al33, al34, al36, al37, al38, aa33, aa34, aa36, aa37, aa38, true_and, and_true, Int32.reduceOfNat, forall_const, true_implies, implies_true, false_implies, not_true_eq_false, not_false_eq_true]
    exact fin h fr g
  | succ m ih =>
    intro i h e fr g
    have mm := m0.fr fr
    have e2 : hI h 342 20 = nI n := by rw [fr.I (by unfold kcs; decide)]; exact e20
    have z : ¬ nI n ≤ nI i := mt (nle (by omega) (by omega)).mp (by omega)
    have e5 : (5500 : Int32) + nI i = nI (5500 + i) := nadd 5500 i
    have e1 : (1100 : Int32) * nI to + nI i = nI (1100 * to + i) := by rw [show (1100 : Int32) = nI 1100 from rfl, nmul, nadd]
    have i1 : ixo (nI (5500 + i)) 6600 = true := nix (by omega) (by decide)
    have i2 : ixo (nI (1100 * to + i)) 6600 = true := nix (by omega) (by decide)
    rw [b_M_keepsCodes_2]
    simp only [mo mm, e2, z, b_M_keepsCodes_6, mr_22 mm, mr_23 mm, mk_357 mm, mn_357 mm, mk_358 mm, mn_358 mm, hK_sI, hR_sI, hN_sI, e5, e1, i1, i2, rI_sI (show 358 ≠ 357 by decide), cN (show 5500 + i < 2147483648 by omega), cN (show 1100 * to + i < 2147483648 by omega), nI_1, mem20, mem21, mem22, al20, al21, al33, al34, al36, al37, al38, aa33, aa34, aa36, aa37, aa38, true_and, and_true, Int32.reduceOfNat, forall_const, true_implies, implies_true, false_implies, not_true_eq_false, not_false_eq_true]
    refine ih (i + 1) _ (by omega) ((fr.sI (Or.inl rfl)).sI (Or.inr rfl)) ?_
    have one : ∀ (a : Nat) (f : Nat → Int32), a = 357 ∨ a = 358 → (∀ j, f j = if j = 1100 * to + i then hI h a (5500 + i) else hI h a j) → (∀ j, j < i + 1 → f (1100 * to + j) = hI h0 a (5500 + j)) ∧ (∀ j, j < 1100 * to ∨ 1100 * to + (i + 1) ≤ j → f j = hI h0 a j) := by
      intro a f ha hf
      obtain ⟨g1, g2⟩ := g a ha
      refine ⟨fun j hj => ?_, fun j hj => ?_⟩
      · rw [hf]
        by_cases qj : j = i
        · rw [if_pos (by omega), qj]; exact g2 _ (by omega)
        · rw [if_neg (by omega)]; exact g1 j (by omega)
      · rw [hf, if_neg (by omega)]; exact g2 j (by omega)
    intro a ha
    rcases ha with rfl | rfl
    · exact one 357 _ (Or.inl rfl) (fun j => by rw [rI_sI (by decide), hI_same])
    · exact one 358 _ (Or.inr rfl) (fun j => by rw [hI_same, rI_sI (by decide)])
theorem c_M_keeps {d : Nat} (to n : Nat) (hto : to ≤ 4) (hn : n ≤ 1000) (h : AH) (m : MLY h) (e20 : hI h 342 20 = nI n) (Q : Option Value → AH → Prop) (fin : ∀ h', Fr kcs nov h h' → (∀ a, a = 357 ∨ a = 358 → (∀ j, j < n → hI h' a (1100 * to + j) = hI h a (5500 + j)) ∧ (∀ j, j < 1100 * to ∨ 1100 * to + n ≤ j → hI h' a j = hI h a j)) → Q none h') : Cl (d + 1) q_M_keepsCodes [.ref 342, .int (nI to)] h Q := by
  rw [e_M_keepsCodes, b_M_keepsCodes_0]
  exact ⟨mo m, w_M_keeps to n hto hn h m e20 _ (fun h' a b => ⟨rtV, fin h' a b⟩) n 0 h (by omega) Fr.rfl' (fun a ha => ⟨fun j hj => by omega, fun j hj => rfl⟩)⟩
theorem MRd.cg {h h' : AH} {r N : Nat} {c : Nat → List Nat} (g : MRd h r N c) (e : ∀ j, 1100 * (1 + r) ≤ j → j < 1100 * (2 + r) → hI h' 357 j = hI h 357 j ∧ hI h' 358 j = hI h 358 j) (e1 : hI h' 361 r = hI h 361 r) (e2 : ∀ k, k < 6 → hI h' 362 (6 * r + k) = hI h 362 (6 * r + k)) : MRd h' r N c := by
  obtain ⟨g1, g2, g3⟩ := g
  refine ⟨g1, e1.trans g2, fun k hk => ?_⟩
  obtain ⟨y1, f, y2, y3, y4⟩ := g3 k hk
  refine ⟨y1, f, (e2 k (by omega)).trans y2, y3, RTP_up (fun i h1 h2 => e i (by omega) (by omega)) y4⟩
theorem MBA.cg {h h' : AH} {bd : Nat → Option (List Nat)} (g : MBA h bd) (e : ∀ j, j < 1100 → hI h' 357 j = hI h 357 j ∧ hI h' 358 j = hI h 358 j) (e1 : hI h' 359 = hI h 359) : MBA h' bd := by
  intro l hl
  obtain ⟨g1, g2⟩ := g l hl
  refine ⟨?_, g2⟩
  cases q : bd l with
  | none =>
    rw [q] at g1
    show hI h' 359 l = -1
    rw [e1]; exact g1
  | some cs =>
    rw [q] at g1
    obtain ⟨f, y1, y2, y3⟩ := g1
    exact ⟨f, by rw [e1]; exact y1, y2, RTP_up (fun i h1 h2 => e i (by omega)) y3⟩
/-! what becoming leaves as it was -/
section BECS
variable {h h' : AH} {r n : Nat}
theorem xrL_s : ∀ q ∈ xrL, q.1 < 342 ∧ ¬ (q.2.1 = 0 ∧ (q.1 = 123 ∨ q.1 = 170 ∨ q.1 = 175 ∨ q.1 = 180 ∨ q.1 = 185)) := by decide +kernel
def PRs (r : Nat) : Prop := r = 123 ∨ r = 170 ∨ r = 175 ∨ r = 180 ∨ r = 185
theorem SLY.bec {L : Nat} {xs : Nat → Int32} (s : SLY L xs h) (b : BEC h h' r n) (hr : PRs r) (hz0 : 378 ≤ hz h) : SLY L xs h' := by
  intro a ha
  obtain ⟨s1, s2, s3, s4⟩ := s a ha
  obtain ⟨b1, b2, b3, b4, b5, b6, b7, b8⟩ := b
  have r0 : 123 ≤ r := by unfold PRs at hr; omega
  refine ⟨by rw [(b1 a (by omega)).1]; exact s1, by rw [(b1 a (by omega)).2]; exact s2, by rw [b6 a (by omega) (by omega) (by omega) (by omega)]; exact s3, ?_⟩
  rw [← s4]
  funext j
  exact b4 a j (by omega) (by omega) (by omega)
theorem XLY.bec (x : XLY h) (b : BEC h h' r n) (hr : PRs r) (hz0 : 378 ≤ hz h) : XLY h' := by
  obtain ⟨b1, b2, b3, b4, b5, b6, b7, b8⟩ := b
  refine ⟨fun a ha => ?_, fun q hq => ?_⟩
  · rw [(b1 (100 + a) (by omega)).1, (b1 (100 + a) (by omega)).2]; exact x.1 a ha
  · obtain ⟨q1, q2⟩ := xrL_s q hq
    rw [b4 q.1 q.2.1 (by omega) (fun z => q2 ⟨z.2, by unfold PRs at hr; omega⟩) (xrL_w q hq)]
    exact x.2 q hq
theorem MLY.bec (m : MLY h) (b : BEC h h' r n) (hr : PRs r) (hz0 : 378 ≤ hz h) : MLY h' := by
  obtain ⟨b1, b2, b3, b4, b5, b6, b7, b8⟩ := b
  have r0 : r ≤ 185 := by unfold PRs at hr; omega
  refine ⟨⟨?_, fun k hk e => ?_, fun a ha => ?_⟩, fun j hj => ?_⟩
  · rw [(b1 342 (by omega)).1]; exact m.1.1
  · rw [b4 342 k (by omega) (by omega) (by omega)]; exact m.1.2.1 k hk e
  · rw [(b1 (343 + a) (by omega)).1, (b1 (343 + a) (by omega)).2]; exact m.1.2.2 a ha
  · rw [b7 347 (by omega)]; exact m.2 j hj
theorem XPg.bec {s : Nat} (x : XPg h s) (b : BEC h h' r n) (hr : PRs r) (hs : PRs s) (ne : s ≠ r) (hz0 : 378 ≤ hz h) : XPg h' s := by
  obtain ⟨b1, b2, b3, b4, b5, b6, b7, b8⟩ := b
  obtain ⟨⟨x0, x1, x2, x3, x4, x5, x6, x7, x8, x9, x10⟩, y1, y2, y3, y4⟩ := x
  unfold PRs at hr hs
  have e0 : hR h' s 0 = hR h s 0 := b4 s 0 (by omega) (by omega) (by omega)
  refine ⟨⟨x0, by rw [(b1 s (by omega)).1]; exact x1, by rw [b4 s 3 (by omega) (by omega) (by omega)]; exact x2, by rw [b4 s 4 (by omega) (by omega) (by omega)]; exact x3, by rw [b4 s 5 (by omega) (by omega) (by omega)]; exact x4, by rw [(b1 (s + 1) (by omega)).1]; exact x5, by rw [(b1 (s + 2) (by omega)).1]; exact x6, by rw [(b1 (s + 3) (by omega)).1]; exact x7, by rw [(b1 (s + 1) (by omega)).2]; exact x8, by rw [(b1 (s + 2) (by omega)).2]; exact x9, by rw [(b1 (s + 3) (by omega)).2]; exact x10⟩, ?_, ?_, ?_, ?_⟩
  · rw [e0, (b1 _ (by omega)).1]; exact y1
  · rw [e0, (b1 _ (by omega)).2]; exact y2
  · rw [e0]; exact y3
  · rw [e0, b3.1]; omega
theorem XLn.bec {s l : Nat} {o : Option (List Nat)} (g : XLn h s l o) (x : XPg h s) (b : BEC h h' r n) (hr : PRs r) (hs : PRs s) (ne : s ≠ r) (hz0 : 378 ≤ hz h) : XLn h' s l o := by
  obtain ⟨b1, b2, b3, b4, b5, b6, b7, b8⟩ := b
  obtain ⟨x0, y1, y2, y3, y4⟩ := x
  unfold PRs at hr hs
  have e0 : hR h' s 0 = hR h s 0 := b4 s 0 (by omega) (by omega) (by omega)
  have e1 : hI h' (s + 1) = hI h (s + 1) := b6 _ (by omega) (by omega) (by omega) (by omega)
  have e2 : hI h' (s + 2) = hI h (s + 2) := b6 _ (by omega) (by omega) (by omega) (by omega)
  have e3 : hI h' (hR h s 0) = hI h (hR h s 0) := b6 _ (by omega) (by omega) (by omega) (by omega)
  have e4 : hN h' (hR h s 0) = hN h (hR h s 0) := (b1 _ (by omega)).2
  cases o with
  | none =>
    show hI h' (s + 2) l ≤ hI h' (s + 1) l
    rw [e1, e2]; exact g
  | some cs =>
    obtain ⟨t, g1, g2, g3, g4⟩ := g
    exact ⟨t, by rw [e2]; exact g1, by rw [e1]; exact g2, by rw [e0, e4]; exact g3, by rw [e0, e3]; exact g4⟩
/-- the program that has become -/
theorem XPg.of (x : XLY h) (p : PRG h r) (b : BEC h h' r n) (hr : PRs r) (hz0 : 378 ≤ hz h) (hn : n < 1000) : XPg h' r := by
  obtain ⟨b1, b2, b3, b4, b5, b6, b7, b8⟩ := b
  obtain ⟨x0, x1, x2, x3, x4, x5, x6, x7, x8, x9, x10⟩ := p
  unfold PRs at hr
  refine ⟨⟨x0, by rw [(b1 r (by omega)).1]; exact x1, by rw [b4 r 3 (by omega) (by omega) (by omega)]; exact x2, by rw [b4 r 4 (by omega) (by omega) (by omega)]; exact x3, by rw [b4 r 5 (by omega) (by omega) (by omega)]; exact x4, by rw [(b1 (r + 1) (by omega)).1]; exact x5, by rw [(b1 (r + 2) (by omega)).1]; exact x6, by rw [(b1 (r + 3) (by omega)).1]; exact x7, by rw [(b1 (r + 1) (by omega)).2]; exact x8, by rw [(b1 (r + 2) (by omega)).2]; exact x9, by rw [(b1 (r + 3) (by omega)).2]; exact x10⟩, ?_, ?_, ?_, ?_⟩
  · rw [b5]; exact b2.1
  · rw [b5, b2.2]; omega
  · rw [b5]; omega
  · rw [b5, b3.1]; omega
theorem XLn.of {nf N : Nat} {D : LD} {cx cm : List Nat} (b : BEC h h' r cx.length) (o : LOk nf D cx cm) (bx : BX h D N) (st : STP (hI h 121) 0 cx) (l : Nat) (hl : l < 6) : XLn h' r l ((D l).map (fun v => v.2.2)) := by
  obtain ⟨b1, b2, b3, b4, b5, b6, b7, b8, b9, b10, b11⟩ := b
  obtain ⟨e1, e2⟩ := b10 l hl
  have bl := bx.2 l hl
  cases e : D l with
  | none =>
    rw [e] at bl
    show hI h' (r + 2) l ≤ hI h' (r + 1) l
    rw [e1, e2, bl.1, bl.2]
    exact Int32.le_refl _
  | some v =>
    obtain ⟨sx, sm, c⟩ := v
    rw [e] at bl
    obtain ⟨o1, o2, o3⟩ := o l sx sm c e
    obtain ⟨a, b', ea, la⟩ := o1
    have lc : cx.length = a.length + c.length + b'.length := by rw [ea]; simp; omega
    refine ⟨sx, by rw [e2]; exact bl.2, by rw [e1]; exact bl.1, ?_, ?_⟩
    · rw [b5, b2.2]
      show sx + c.length ≤ cx.length
      omega
    · rw [b5]
      have s1 : STP (hI h 121) 0 (a ++ c ++ b') := by rw [← ea]; exact st
      have s2 := STP_seg s1
      rw [Nat.zero_add, la] at s2
      exact STP_up (fun i h1 h2 => b11 i (by have h3 : i < sx + c.length := h2; omega)) s2
end BECS
