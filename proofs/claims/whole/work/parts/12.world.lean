/-! WHAT THE SMALL MACHINE'S HEAP IS IN THE REAL ONE -/
/-- classes' and fields' numbers; the array classes' numbers by kind; the first own cell; where the cells below 100 lie -/
abbrev GG : Type := va_G × (Nat → ClassId) × Nat × (Nat → Option Nat)
def gb (g : GG) : Nat := g.2.2.1
def rq (g : GG) (r : Nat) : Option Nat := if r = 0 then none else if r < 100 then g.2.2.2 r else some (gb g + (r - 100))
def ph (g : GG) (v : Value) : Value := match v with
  | .ref r => va_rf (rq g r)
  | v => v
def fvl (g : GG) (h : AH) (c a k : Nat) : Value := if fdk c k = 2 then va_rf (rq g (hR h a k)) else .int (hI h a k)
def cE (g : GG) (h : AH) (a : Nat) : va_E :=
  if hK h a < 20 then .inr (hK h a, (List.range (fdn (hK h a))).map (fvl g h (hK h a) a))
  else if hK h a < 23 then .inl (g.2.1 (hK h a), hN h a, .inl (hI h a))
  else if hK h a = 23 then .inl (g.2.1 23, hN h a, .inr (.inl (hJ h a)))
  else .inl (g.2.1 (hK h a), hN h a, .inr (.inr (.inr (.inr (fun j => rq g (hR h a j))))))
def okk (k : Nat) : Bool := decide (k ≤ 12) || decide (20 ≤ k ∧ k ≤ 23) || decide (k = 33) || decide (k = 34) || decide (k = 36) || decide (k = 37) || decide (k = 38)
def RW (g : GG) (hs h : AH) (H : Heap) : Prop := 100 ≤ hz h ∧ H.size = gb g + (hz h - 100) ∧ (∀ a, 100 ≤ a → a < hz h → okk (hK h a) = true ∧ va_at g.1 clT (gb g + (a - 100), cE g h a) H) ∧ (∀ a, hz h ≤ a → hK h a = 99) ∧
  (∀ a, a < 100 → 40 ≤ hK h a ∧ hK h a = hK hs a ∧ hN h a = hN hs a ∧ hI h a = hI hs a ∧ hR h a = hR hs a)
def AA (g : GG) : Nat → Prop := fun q => gb g ≤ q
theorem RW.own {g : GG} {hs h : AH} {H : Heap} (w : RW g hs h H) {a : Nat} (hk : hK h a < 40) : 100 ≤ a ∧ a < hz h := by
  obtain ⟨-, -, -, h4, h5⟩ := w
  refine ⟨?_, ?_⟩
  · apply Nat.le_of_not_lt; intro q; have := (h5 a q).1; omega
  · apply Nat.lt_of_not_le; intro q; have := h4 a q; omega
theorem rq_own {g : GG} {a : Nat} (h : 100 ≤ a) : rq g a = some (gb g + (a - 100)) := by
  unfold rq; rw [if_neg (by omega), if_neg (by omega)]
theorem ph_own {g : GG} {a : Nat} (h : 100 ≤ a) : ph g (.ref a) = .ref (gb g + (a - 100)) := by
  show va_rf (rq g a) = _
  rw [rq_own h]; rfl
theorem rq_inj {g : GG} {a b : Nat} (ha : 100 ≤ a) (hb : 100 ≤ b) (h : gb g + (a - 100) = gb g + (b - 100)) : a = b := by omega
/-- a write into one own cell -/
theorem RW.upd {g : GG} {hs h h' : AH} {H H' : Heap} (w : RW g hs h H) {a : Nat} (h0 : 100 ≤ a) (h1 : a < hz h) (ez : hz h' = hz h) (eK : hK h' = hK h) (eN : hN h' = hN h)
    (eI : ∀ x, x ≠ a → hI h' x = hI h x) (eJ : ∀ x, x ≠ a → hJ h' x = hJ h x) (eR : ∀ x, x ≠ a → hR h' x = hR h x) (hsz : H'.size = H.size) (oq : ∀ q : Nat, q ≠ gb g + (a - 100) → H'[q]? = H[q]?)
    (hn : va_at g.1 clT (gb g + (a - 100), cE g h' a) H') : RW g hs h' H' := by
  obtain ⟨w1, w2, w3, w4, w5⟩ := w
  refine ⟨by rw [ez]; exact w1, by rw [hsz, ez]; exact w2, fun x hx1 hx2 => ?_, fun x hx => by rw [eK]; exact w4 x (by rw [← ez]; exact hx), fun x hx => ?_⟩
  · rw [ez] at hx2
    refine ⟨by rw [eK]; exact (w3 x hx1 hx2).1, ?_⟩
    by_cases e : x = a
    · rw [e]; exact hn
    · have hc : cE g h' x = cE g h x := by
        unfold cE fvl
        rw [eK, eN, eI x e, eJ x e, eR x e]
      rw [hc]
      exact (w3 x hx1 hx2).2.kept (oq _ (by omega))
  · have e : x ≠ a := by omega
    rw [eK, eN, eI x e, eR x e]
    exact w5 x hx
/-- a new own cell -/
theorem RW.mk {g : GG} {hs h : AH} {H H' : Heap} (w : RW g hs h H) {k n u : Nat} (hk : okk k = true) (hsz : H'.size = H.size + 1) (oq : ∀ q : Nat, q < H.size → H'[q]? = H[q]?)
    (hn : va_at g.1 clT (H.size, cE g (mkC h k n u) (hz h)) H') : RW g hs (mkC h k n u) H' := by
  obtain ⟨w1, w2, w3, w4, w5⟩ := w
  have ez : hz (mkC h k n u) = hz h + 1 := rfl
  have e0 : H.size = gb g + (hz h - 100) := w2
  refine ⟨by rw [ez]; omega, by rw [hsz, ez]; omega, fun x hx1 hx2 => ?_, fun x hx => ?_, fun x hx => ?_⟩
  · rw [ez] at hx2
    by_cases e : x = hz h
    · subst e
      refine ⟨?_, ?_⟩
      · show okk (upr (hK h) (hz h) k (hz h)) = true
        unfold upr; rw [if_pos rfl]; exact hk
      · rw [← e0]; exact hn
    · have hlt : x < hz h := by omega
      have hK' : hK (mkC h k n u) x = hK h x := by show upr (hK h) (hz h) k x = _; unfold upr; rw [if_neg e]
      refine ⟨by rw [hK']; exact (w3 x hx1 hlt).1, ?_⟩
      have hc : cE g (mkC h k n u) x = cE g h x := by
        unfold cE fvl
        rw [hK']
        have a1 : hN (mkC h k n u) x = hN h x := by show upr (hN h) (hz h) n x = _; unfold upr; rw [if_neg e]
        have a2 : hI (mkC h k n u) x = hI h x := by show upr h.1 (hz h) _ x = _; unfold upr; rw [if_neg e]; rfl
        have a3 : hJ (mkC h k n u) x = hJ h x := by show upr h.2.1 (hz h) _ x = _; unfold upr; rw [if_neg e]; rfl
        have a4 : hR (mkC h k n u) x = hR h x := by show upr h.2.2.1 (hz h) _ x = _; unfold upr; rw [if_neg e]; rfl
        rw [a1, a2, a3, a4]
      rw [hc]
      exact (w3 x hx1 hlt).2.kept (oq _ (by show gb g + (x - 100) < H.size; omega))
  · rw [ez] at hx
    show upr (hK h) (hz h) k x = 99
    unfold upr; rw [if_neg (by omega)]; exact w4 x (by omega)
  · have e : x ≠ hz h := by omega
    have hK' : hK (mkC h k n u) x = hK h x := by show upr (hK h) (hz h) k x = _; unfold upr; rw [if_neg e]
    have a1 : hN (mkC h k n u) x = hN h x := by show upr (hN h) (hz h) n x = _; unfold upr; rw [if_neg e]
    have a2 : hI (mkC h k n u) x = hI h x := by show upr h.1 (hz h) _ x = _; unfold upr; rw [if_neg e]; rfl
    have a4 : hR (mkC h k n u) x = hR h x := by show upr h.2.2.1 (hz h) _ x = _; unfold upr; rw [if_neg e]; rfl
    rw [hK', a1, a2, a4]
    exact w5 x hx
/-! the locals -/
def lok (L : List Value) (i : Nat) (v : Value) : Bool := match v with
  | .int _ => true
  | .ref _ => true
  | .long _ => decide (L[i + 1]? = some .null)
  | _ => false
def lvOf (g : GG) (L : List Value) : List (Nat × Value) := (List.range L.length).filterMap fun i => (L[i]?).bind fun v => if lok L i v = true then some (i, ph g v) else none
theorem mem_lvOf {g : GG} {L : List Value} {q : Nat × Value} : q ∈ lvOf g L ↔ ∃ v, L[q.1]? = some v ∧ lok L q.1 v = true ∧ q.2 = ph g v := by
  unfold lvOf
  rw [List.mem_filterMap]
  constructor
  · rintro ⟨i, hi, h⟩
    cases hv : L[i]? with
    | none => rw [hv] at h; cases h
    | some v =>
      rw [hv] at h
      by_cases hl : lok L i v = true
      · simp only [Option.bind_some, if_pos hl, Option.some.injEq] at h
        subst h
        exact ⟨v, hv, hl, rfl⟩
      · simp [hl] at h
  · rintro ⟨v, h1, h2, h3⟩
    refine ⟨q.1, List.mem_range.mpr (List.getElem?_eq_some_iff.mp h1).1, ?_⟩
    rw [h1]
    simp only [Option.bind_some, if_pos h2, Option.some.injEq]
    rw [← h3]
def LR (g : GG) (L : List Value) (nL : Nat) (ls : Array Slot) : Prop := L.length = nL ∧ lv_has ls nL (lvOf g L)
theorem LR.at {g : GG} {L : List Value} {nL : Nat} {ls : Array Slot} (h : LR g L nL ls) {i : Nat} {v : Value} (hv : L[i]? = some v) (hl : lok L i v = true) : ls[i]? = some (.val (ph g v)) :=
  h.2.2.2 (i, ph g v) (mem_lvOf.mpr ⟨v, hv, hl, rfl⟩)
theorem ph_cat {g : GG} {v : Value} (h : (ph g v).category = 2) : v.category = 2 := by
  cases v with
  | ref r => 
    have : (va_rf (rq g r)).category = 2 := h
    cases hq : rq g r with
    | none => rw [hq] at this; cases this
    | some a => rw [hq] at this; cases this
  | _ => exact h
theorem ph_cat2 (g : GG) (v : Value) : (ph g v).category = v.category := by
  cases v with
  | ref r =>
    show (va_rf (rq g r)).category = 1
    cases rq g r <;> rfl
  | _ => rfl
theorem LR.set1 {g : GG} {L : List Value} {nL : Nat} {ls' : Array Slot} {i : Nat} {v : Value} (hL : L.length = nL) (hv : v.category = 1) (hn : v ≠ .null)
    (h : lv_has ls' nL ((i, ph g v) :: (lvOf g L).filter (fun q => !(q.1 == i) && !(q.1 + 1 == i && q.2.category == 2)))) : LR g (L.set i v) nL ls' := by
  refine ⟨by rw [List.length_set]; exact hL, h.1, h.2.1, fun q hq => ?_⟩
  obtain ⟨w, h1, h2, h3⟩ := mem_lvOf.mp hq
  apply h.2.2
  by_cases e : q.1 = i
  · have : w = v := by
      rw [e, List.getElem?_set] at h1
      by_cases hl : i < L.length
      · rw [if_pos rfl, if_pos hl] at h1; exact (Option.some.inj h1).symm
      · rw [if_pos rfl, if_neg hl] at h1; cases h1
    rw [this] at h3
    exact List.mem_cons.mpr (Or.inl (Prod.ext e h3))
  · have h1' : L[q.1]? = some w := by rw [List.getElem?_set_ne (fun z => e z.symm)] at h1; exact h1
    have hk : (q.1 + 1 = i → ¬ w.category = 2) ∧ lok L q.1 w = true := by
      cases w with
      | long x =>
        have h2' : (L.set i v)[q.1 + 1]? = some .null := of_decide_eq_true h2
        have e2 : q.1 + 1 ≠ i := by
          intro z
          rw [z, List.getElem?_set, if_pos rfl] at h2'
          by_cases hl : i < L.length
          · rw [if_pos hl] at h2'; exact hn (Option.some.inj h2')
          · rw [if_neg hl] at h2'; cases h2'
        rw [List.getElem?_set_ne (fun z => e2 z.symm)] at h2'
        exact ⟨fun z => absurd z e2, decide_eq_true h2'⟩
      | int x => exact ⟨fun _ z => (by cases z), rfl⟩
      | ref x => exact ⟨fun _ z => (by cases z), rfl⟩
      | _ => cases h2
    refine List.mem_cons.mpr (Or.inr (List.mem_filter.mpr ⟨mem_lvOf.mpr ⟨w, h1', hk.2, h3⟩, ?_⟩))
    simp only [Bool.and_eq_true, Bool.not_eq_true', beq_eq_false_iff_ne, ne_eq, Bool.and_eq_false_iff]
    refine ⟨e, ?_⟩
    by_cases z : q.1 + 1 = i
    · exact Or.inr (fun zz => hk.1 z (ph_cat (by rw [← h3]; exact zz)))
    · exact Or.inl z
theorem LR.set2 {g : GG} {L : List Value} {nL : Nat} {ls' : Array Slot} {i : Nat} {x : Int64} (hL : L.length = nL)
    (h : lv_has ls' nL ((i, Value.long x) :: (lvOf g L).filter (fun q => !(q.1 == i) && (!(q.1 == i + 1) && !(q.1 + 1 == i && q.2.category == 2))))) : LR g ((L.set i (.long x)).set (i + 1) .null) nL ls' := by
  refine ⟨by rw [List.length_set, List.length_set]; exact hL, h.1, h.2.1, fun q hq => ?_⟩
  obtain ⟨w, h1, h2, h3⟩ := mem_lvOf.mp hq
  apply h.2.2
  by_cases e1 : q.1 = i + 1
  · rw [e1, List.getElem?_set, if_pos rfl] at h1
    by_cases hl : i + 1 < (L.set i (.long x)).length
    · rw [if_pos hl] at h1; have := Option.some.inj h1; rw [← this] at h2; cases h2
    · rw [if_neg hl] at h1; cases h1
  · rw [List.getElem?_set_ne (fun z => e1 z.symm)] at h1
    by_cases e : q.1 = i
    · have : w = .long x := by
        rw [e, List.getElem?_set, if_pos rfl] at h1
        by_cases hl : i < L.length
        · rw [if_pos hl] at h1; exact (Option.some.inj h1).symm
        · rw [if_neg hl] at h1; cases h1
      rw [this] at h3
      exact List.mem_cons.mpr (Or.inl (Prod.ext e h3))
    · have h1' : L[q.1]? = some w := by rw [List.getElem?_set_ne (fun z => e z.symm)] at h1; exact h1
      have hk : (q.1 + 1 = i → ¬ w.category = 2) ∧ lok L q.1 w = true := by
        cases w with
        | long y =>
          have h2' : ((L.set i (.long x)).set (i + 1) .null)[q.1 + 1]? = some .null := of_decide_eq_true h2
          have e3 : q.1 + 1 ≠ i + 1 := by omega
          rw [List.getElem?_set_ne (fun z => e3 z.symm)] at h2'
          have e2 : q.1 + 1 ≠ i := by
            intro z
            rw [z, List.getElem?_set, if_pos rfl] at h2'
            by_cases hl : i < L.length
            · rw [if_pos hl] at h2'; cases h2'
            · rw [if_neg hl] at h2'; cases h2'
          rw [List.getElem?_set_ne (fun z => e2 z.symm)] at h2'
          exact ⟨fun z => absurd z e2, decide_eq_true h2'⟩
        | int x => exact ⟨fun _ z => (by cases z), rfl⟩
        | ref x => exact ⟨fun _ z => (by cases z), rfl⟩
        | _ => cases h2
      refine List.mem_cons.mpr (Or.inr (List.mem_filter.mpr ⟨mem_lvOf.mpr ⟨w, h1', hk.2, h3⟩, ?_⟩))
      simp only [Bool.and_eq_true, Bool.not_eq_true', beq_eq_false_iff_ne, ne_eq, Bool.and_eq_false_iff]
      refine ⟨e, e1, ?_⟩
      by_cases z : q.1 + 1 = i
      · exact Or.inr (fun zz => hk.1 z (ph_cat (by rw [← h3]; exact zz)))
      · exact Or.inl z
theorem LR.entry_aux {g : GG} : ∀ (a : List Value) (k i : Nat) (v : Value), (a.flatMap fun v => if v.category = 2 then [v, Value.null] else [v])[i]? = some v → (v ≠ .null) → (k + i, ph g v) ∈ lv_args k (a.map (ph g))
  | [], k, i, v, h, _ => by simp at h
  | x :: a, k, i, v, h, hv => by
    rw [List.flatMap_cons] at h
    rw [List.map_cons]
    show _ ∈ (k, ph g x) :: lv_args (if (ph g x).category = 2 then k + 2 else k + 1) (a.map (ph g))
    rw [ph_cat2]
    by_cases hc : x.category = 2
    · rw [if_pos hc] at h ⊢
      match i, h with
      | 0, h => 
        have e : x = v := Option.some.inj h
        rw [e]; exact List.mem_cons_self
      | 1, h => 
        have e : Value.null = v := Option.some.inj h
        exact absurd e.symm hv
      | j + 2, h =>
        have h' : (a.flatMap fun v => if v.category = 2 then [v, Value.null] else [v])[j]? = some v := h
        have := LR.entry_aux (g := g) a (k + 2) j v h' hv
        rw [show k + (j + 2) = k + 2 + j by omega]
        exact List.mem_cons_of_mem _ this
    · rw [if_neg hc] at h ⊢
      match i, h with
      | 0, h => 
        have e : x = v := Option.some.inj h
        rw [e]; exact List.mem_cons_self
      | j + 1, h =>
        have h' : (a.flatMap fun v => if v.category = 2 then [v, Value.null] else [v])[j]? = some v := h
        have := LR.entry_aux (g := g) a (k + 1) j v h' hv
        rw [show k + (j + 1) = k + 1 + j by omega]
        exact List.mem_cons_of_mem _ this
theorem flat_len (g : GG) : ∀ a : List Value, (lg_sl (a.map (ph g))).length = (a.flatMap fun v => if v.category = 2 then [v, Value.null] else [v]).length
  | [] => rfl
  | x :: a => by
    have ih := flat_len g a
    unfold lg_sl at ih ⊢
    rw [List.map_cons, List.flatMap_cons, List.flatMap_cons, List.length_append, List.length_append, ih, ph_cat2]
    by_cases hc : x.category = 2
    · rw [if_pos hc, if_pos hc]; rfl
    · rw [if_neg hc, if_neg hc]; rfl
theorem LR.entry (g : GG) (a : List Value) {n : Nat} (h : (a.flatMap fun v => if v.category = 2 then [v, Value.null] else [v]).length ≤ n) :
    LR g (lcs n a) n ((lg_sl (a.map (ph g)) ++ List.replicate (n - (lg_sl (a.map (ph g))).length) Slot.unset).toArray) := by
  have e := lv_entry (a.map (ph g)) (n := n) (by rw [flat_len]; exact h)
  refine ⟨?_, e.1, e.2.1, fun q hq => ?_⟩
  · show (_ ++ List.replicate _ _).length = n
    rw [List.length_append, List.length_replicate]; omega
  · obtain ⟨v, h1, h2, h3⟩ := mem_lvOf.mp hq
    apply e.2.2
    have hv : v ≠ .null := by intro z; rw [z] at h2; cases h2
    have h1' : (a.flatMap fun v => if v.category = 2 then [v, Value.null] else [v])[q.1]? = some v := by
      have h1 : ((a.flatMap fun v => if v.category = 2 then [v, Value.null] else [v]) ++ List.replicate (n - (a.flatMap fun v => if v.category = 2 then [v, Value.null] else [v]).length) Value.null)[q.1]? = some v := h1
      rw [List.getElem?_append] at h1
      by_cases hl : q.1 < (a.flatMap fun v => if v.category = 2 then [v, Value.null] else [v]).length
      · rw [if_pos hl] at h1; exact h1
      · rw [if_neg hl, List.getElem?_replicate] at h1
        split at h1
        · exact absurd (Option.some.inj h1).symm hv
        · cases h1
    have := LR.entry_aux (g := g) a 0 q.1 v h1' hv
    rw [Nat.zero_add, ← h3] at this
    exact this
