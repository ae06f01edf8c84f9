--deps: 9j.parts
/-! ALL PARTS, ALL CHAINS -/
section PARTS
variable {ts : List (Nat × Nat)} {rd : Int32} {π : Nat → Nat} {nf : Nat}
theorem sgs_1 {nf k n : Nat} (hk : k < 10000 + nf) (hnf : nf ≤ 20) (h : n < 32) : sgs nf [k] n (n + 1) := by
  refine ⟨by omega, Or.inl ⟨hk, h⟩, ?_⟩
  show nx k n = n + 1
  unfold nx
  rw [if_pos (by omega)]
theorem sgs_n {nf n : Nat} (h : n + 1 ≤ 32) : sgs nf [20001] (n + 1) (n + 1) := ⟨h, Or.inr (Or.inl ⟨rfl, by omega⟩), rfl⟩
theorem part_all (T : TOKS ts) (hrd : (rd = 0 ∧ π = id ∧ nf = 12) ∨ (rd = 1 ∧ π = pr ∧ nf = 20)) : ∀ (N i dep : Nat), ts.length - i ≤ N → i < ts.length → dep ≤ 5 → PART ts rd π nf dep i := by
  have hr1 : rd = 0 ∨ rd = 1 := by
    rcases hrd with z | z
    · exact Or.inl z.1
    · exact Or.inr z.1
  have hr2 : (rd = 0 ∧ π = id) ∨ (rd = 1 ∧ π = pr) := by
    rcases hrd with z | z
    · exact Or.inl ⟨z.1, z.2.1⟩
    · exact Or.inr ⟨z.1, z.2.1⟩
  have hnf : nf ≤ 20 := by
    rcases hrd with z | z
    · omega
    · omega
  intro N
  induction N with
  | zero => intro i dep h1 h2; omega
  | succ N ih =>
    intro i dep h1 h2 hdp
    have hp := (T.2.2 i h2).2.2
    by_cases st : STB rd (tc ts i)
    · by_cases hd5 : dep = 5
      · refine ⟨i, 5 + 16 * tp ts i, [], ⟨Nat.le_refl _, h2, by omega, by simp, fun z => by omega⟩, ?_, ?_⟩
        · intro L xs cs h r
          rw [List.append_nil]
          exact x_head (d := 6 * (5 - dep)) T hr1 hdp r _ (fun z => absurd st z) (fun _ _ h' p => ⟨rfl, p⟩) (fun _ z => by omega)
        · intro cs h r
          rw [List.append_nil]
          exact m_head (d := 5 * (5 - dep)) T hr2 hdp r _ (fun z => absurd st z) (fun _ _ h' p => ⟨rfl, p⟩) (fun _ z => by omega)
      · have hi1 : i + 1 < ts.length := sgn_lt T h2 (STB_ne st)
        have ePx : px (dep + 1) + 6 = 6 * (5 - dep) + 5 := by unfold px; omega
        have ePm : pm (dep + 1) + 5 = 5 * (5 - dep) + 5 := by unfold pm; omega
        have h7 : ∀ {cs h} (r : RM ts rd π i 0 cs h), Cl (5 * (5 - dep) + 5) q_M_hasWord [.ref 342, .int 7] h (fun r' h' => if 0 = 0 ∧ tc ts i = 10015 then r' = some (.int 1) ∧ PM ts rd π h (i + 1) 0 cs h' else r' = some (.int 0) ∧ PM ts rd π h i 0 cs h') := fun r => m_hasWord (d := 5 * (5 - dep) + 3) T 7 (by decide) r
        have h40 : ∀ {cs h} (r : RM ts rd π i 0 cs h), Cl (5 * (5 - dep) + 5) q_M_hasSign [.ref 342, .int 40] h (fun r' h' => if 0 = 0 ∧ tc ts i = 11040 then r' = some (.int 1) ∧ PM ts rd π h (i + 1) 0 cs h' else r' = some (.int 0) ∧ PM ts rd π h i 0 cs h') := fun r => m_hasSign (d := 5 * (5 - dep) + 3) T 40 (by decide) (by decide) r
        by_cases q1 : tc ts i < 10000
        · -- a number
          refine ⟨i + 1, 0, [tc ts i], ⟨by omega, hi1, by decide, by simp, fun _ => ⟨by omega, fun n hn => sgs_1 (by omega) hnf (by omega)⟩⟩, ?_, ?_⟩
          · intro L xs cs h r
            refine x_head (d := 6 * (5 - dep)) T hr1 hdp r _ (fun z => absurd st z) (fun _ z => absurd z hd5) (fun _ _ h1 p1 => ?_)
            have cl := r.cl
            rw [if_pos q1]
            simp only [b_Pa_takePart_51, show ¬ (1 : Int32) = 0 by decide, b_Pa_takePart_53, xk_108 p1.2.x, xr_108_2 p1.2.x, mem20, mem21, mem22, al20, al21, al33, al34, al36, al37, al38, aa33, aa34, aa36, aa37, aa38, true_and, and_true, Int32.reduceOfNat, forall_const, true_implies, implies_true, false_implies, not_true_eq_false, not_false_eq_true]
            rw [← cc_lt (show tc ts i < 20000 by omega)]
            refine (x_add (tc ts i) rfl p1.2 T (by omega)).mono ?_
            rintro r' h2 ⟨rfl, p2⟩
            simp only [Option.toList, List.cons_append, List.nil_append, b_Pa_takePart_57, b_Pa_takePart_86]
            exact ⟨rtV, True.intro, p2.pre p1.1⟩
          · intro cs h r
            refine m_head (d := 5 * (5 - dep)) T hr2 hdp r _ (fun z => absurd st z) (fun _ z => absurd z hd5) (fun _ _ => ?_)
            have cl := r.cl
            have lt := r.lt
            have hl := T.2.1
            rw [if_pos q1, b_M_takePart_44]
            refine (h7 r).mono ?_
            intro r' h1 p1
            rw [if_neg (by omega)] at p1
            obtain ⟨rfl, p1⟩ := p1
            simp only [Option.toList, List.cons_append, List.nil_append, b_M_takePart_47, b_M_takePart_58, mem20, mem21, mem22, al20, al21, al33, al34, al36, al37, al38, aa33, aa34, aa36, aa37, aa38, true_and, and_true, Int32.reduceOfNat, forall_const, true_implies, implies_true, false_implies, not_true_eq_false, not_false_eq_true]
            refine (h40 p1.2).mono ?_
            intro r' h2 p2
            rw [if_neg (by omega)] at p2
            obtain ⟨rfl, p2⟩ := p2
            have m := p2.2.m
            have i1 : ixo (nI i) 1002 = true := nix (by omega) (by decide)
            have tv := p2.2.tv.1 (by omega)
            have e1 : (1 : Int32) = rop' (tc ts i) := by unfold rop' rop; rw [if_neg (by omega), if_pos q1]
            simp only [Option.toList, List.cons_append, List.nil_append, b_M_takePart_61, b_M_takePart_71, show ¬ (1 : Int32) = 0 by decide, b_M_takePart_73, mo m, mr_6 m, mk_346 m, mn_346 m, p2.2.at, i1, cN (show i < 2147483648 by omega), tv.2, lN_i, mem20, mem21, mem22, al20, al21, al33, al34, al36, al37, al38, aa33, aa34, aa36, aa37, aa38, true_and, and_true, Int32.reduceOfNat, forall_const, true_implies, implies_true, false_implies, not_true_eq_false, not_false_eq_true]
            have em := m_emit2 (d := 5 * (5 - dep) + 4) T (tc ts i) (nI (tc ts i)) (fun _ => by unfold rone; rw [if_pos q1]) p2.2 hi1
            rw [← e1] at em
            refine em.mono ?_
            rintro r' h3 ⟨rfl, m3, e3, p3⟩
            simp only [Option.toList, List.cons_append, List.nil_append, b_M_takePart_82, mo m3, e3, nI_1, b_M_takePart_112, true_and]
            exact ⟨rtV, (p3.pre p2.1).pre p1.1⟩
        · by_cases q2 : tc ts i = 11040
          · -- in brackets
            obtain ⟨i1, F1, c1, ⟨a1, a2, a3, a4, a5⟩, x1, m1⟩ := chn_all (nf := nf) T (show dep + 1 ≤ 5 by omega) (i + 1) (fun j hj hj2 => ih j (dep + 1) (by omega) hj2 (by omega)) (i + 1) (Nat.le_refl _) hi1
            have x1' : XS ts rd q_Pa_chain [.ref 108, .int 0, .int (nI (dep + 1))] (6 * (5 - dep) + 5) (i + 1) i1 F1 c1 := by rw [← ePx]; exact x1
            have m1' : MS ts rd π q_M_all [.ref 342, .int (nI (dep + 1))] (5 * (5 - dep) + 5) (i + 1) i1 F1 c1 := by rw [← ePm]; exact m1
            have hp1 := (T.2.2 i1 a2).2.2
            obtain ⟨i2, F2, hE1, hE2, hE3⟩ : ∃ i2 F2, (F1 ≠ 0 → i2 = i1 ∧ F2 = F1) ∧ (F1 = 0 → tc ts i1 = 11041 → i2 = i1 + 1 ∧ F2 = 0) ∧ (F1 = 0 → ¬ tc ts i1 = 11041 → i2 = i1 ∧ F2 = 1 + 16 * tp ts i1) := by
              by_cases z : F1 = 0
              · by_cases z2 : tc ts i1 = 11041
                · exact ⟨i1 + 1, 0, fun y => absurd z y, fun _ _ => ⟨rfl, rfl⟩, fun _ y => absurd z2 y⟩
                · exact ⟨i1, 1 + 16 * tp ts i1, fun y => absurd z y, fun _ y => absurd y z2, fun _ _ => ⟨rfl, rfl⟩⟩
              · exact ⟨i1, F1, fun _ => ⟨rfl, rfl⟩, fun y => absurd y z, fun y => absurd y z⟩
            refine ⟨i2, F2, c1, ?_, ?_, ?_⟩
            · by_cases z : F1 = 0
              · by_cases z2 : tc ts i1 = 11041
                · obtain ⟨rfl, rfl⟩ := hE2 z z2
                  exact ⟨by omega, sgn_lt T a2 (by omega), by decide, by omega, fun _ => ⟨by omega, fun n hn => (a5 z).2 n (by omega)⟩⟩
                · obtain ⟨rfl, rfl⟩ := hE3 z z2
                  exact ⟨by omega, a2, by omega, by omega, fun y => by omega⟩
              · obtain ⟨rfl, rfl⟩ := hE1 z
                exact ⟨by omega, a2, a3, by omega, fun y => absurd y z⟩
            · intro L xs cs h r
              refine x_head (d := 6 * (5 - dep)) T hr1 hdp r _ (fun z => absurd st z) (fun _ z => absurd z hd5) (fun _ _ h1 p1 => ?_)
              rw [if_neg q1, if_pos q2]
              simp only [b_Pa_takePart_51, b_Pa_takePart_58, show ¬ (1 : Int32) = 0 by decide, b_Pa_takePart_60, nI_1, mem20, mem21, mem22, al20, al21, al33, al34, al36, al37, al38, aa33, aa34, aa36, aa37, aa38, true_and, and_true, Int32.reduceOfNat, forall_const, true_implies, implies_true, false_implies, not_true_eq_false, not_false_eq_true]
              refine (x1' L xs cs h1 p1.2).mono ?_
              rintro r' h2 ⟨rfl, p2⟩
              simp only [Option.toList, List.cons_append, List.nil_append, b_Pa_takePart_66]
              by_cases z : F1 = 0
              · subst z
                refine (x_takeSign (d := 6 * (5 - dep) + 3) T 41 (by decide) p2.2).mono ?_
                rintro r' h3 ⟨rfl, p3⟩
                simp only [Option.toList, List.cons_append, List.nil_append, b_Pa_takePart_69, b_Pa_takePart_86]
                by_cases z2 : tc ts i1 = 11041
                · obtain ⟨rfl, rfl⟩ := hE2 rfl z2
                  rw [if_pos z2] at p3
                  exact ⟨rtV, True.intro, (p3.pre p2.1).pre p1.1⟩
                · obtain ⟨rfl, rfl⟩ := hE3 rfl z2
                  rw [if_neg z2] at p3
                  exact ⟨rtV, True.intro, (p3.pre p2.1).pre p1.1⟩
              · obtain ⟨rfl, rfl⟩ := hE1 z
                refine (x_takeSign0 (d := 6 * (5 - dep) + 3) (k := 0) T 41 (by decide) z p2.2 _).mpr ?_
                simp only [Option.toList, List.cons_append, List.nil_append, b_Pa_takePart_69, b_Pa_takePart_86]
                exact ⟨rtV, True.intro, p2.pre p1.1⟩
            · intro cs h r
              refine m_head (d := 5 * (5 - dep)) T hr2 hdp r _ (fun z => absurd st z) (fun _ z => absurd z hd5) (fun _ _ => ?_)
              rw [if_neg q1, b_M_takePart_44]
              refine (h7 r).mono ?_
              intro r' h1 p1
              rw [if_neg (by omega)] at p1
              obtain ⟨rfl, p1⟩ := p1
              simp only [Option.toList, List.cons_append, List.nil_append, b_M_takePart_47, b_M_takePart_58, mem20, mem21, mem22, al20, al21, al33, al34, al36, al37, al38, aa33, aa34, aa36, aa37, aa38, true_and, and_true, Int32.reduceOfNat, forall_const, true_implies, implies_true, false_implies, not_true_eq_false, not_false_eq_true]
              refine (h40 p1.2).mono ?_
              intro r' h2 p2
              rw [if_pos ⟨rfl, q2⟩] at p2
              obtain ⟨rfl, p2⟩ := p2
              simp only [Option.toList, List.cons_append, List.nil_append, b_M_takePart_61, show ¬ (1 : Int32) = 0 by decide, b_M_takePart_62, nI_1, mem20, mem21, mem22, al20, al21, al33, al34, al36, al37, al38, aa33, aa34, aa36, aa37, aa38, true_and, and_true, Int32.reduceOfNat, forall_const, true_implies, implies_true, false_implies, not_true_eq_false, not_false_eq_true]
              refine (m1' cs h2 p2.2).mono ?_
              rintro r' h3 ⟨rfl, p3⟩
              simp only [Option.toList, List.cons_append, List.nil_append, b_M_takePart_67]
              by_cases z : F1 = 0
              · subst z
                refine (m_takeSign (d := 5 * (5 - dep) + 3) T 41 (by decide) (by decide) p3.2).mono ?_
                rintro r' h4 ⟨rfl, p4⟩
                simp only [Option.toList, List.cons_append, List.nil_append, b_M_takePart_70, b_M_takePart_112]
                by_cases z2 : tc ts i1 = 11041
                · obtain ⟨rfl, rfl⟩ := hE2 rfl z2
                  rw [if_pos z2] at p4
                  exact ⟨rtV, True.intro, ((p4.pre p3.1).pre p2.1).pre p1.1⟩
                · obtain ⟨rfl, rfl⟩ := hE3 rfl z2
                  rw [if_neg z2] at p4
                  exact ⟨rtV, True.intro, ((p4.pre p3.1).pre p2.1).pre p1.1⟩
              · obtain ⟨rfl, rfl⟩ := hE1 z
                refine (m_takeSign0 (d := 5 * (5 - dep) + 3) T 41 (by decide) (by decide) z p3.2 _).mpr ?_
                simp only [Option.toList, List.cons_append, List.nil_append, b_M_takePart_70, b_M_takePart_112]
                exact ⟨rtV, True.intro, (p3.pre p2.1).pre p1.1⟩
          · by_cases q3 : tc ts i = 10015
            · -- not
              obtain ⟨i1, F1, c1, ⟨a1, a2, a3, a4, a5⟩, x1, m1⟩ := ih (i + 1) (dep + 1) (by omega) hi1 (by omega)
              refine ⟨i1, F1, c1 ++ [20001], ⟨by omega, a2, a3, by simp; omega, fun z => ⟨by omega, fun n hn => sgs_app ((a5 z).2 n (by omega)) (sgs_n (by omega))⟩⟩, ?_, ?_⟩
              · intro L xs cs h r
                refine x_head (d := 6 * (5 - dep)) T hr1 hdp r _ (fun z => absurd st z) (fun _ z => absurd z hd5) (fun _ _ h1 p1 => ?_)
                have cl := r.cl
                have ef : oI id (fct rd (tc ts i)) = -1 := by
                  rw [q3]
                  rcases hr1 with rfl | rfl <;> decide
                rw [if_neg q1, if_neg q2, ef]
                simp only [b_Pa_takePart_51, b_Pa_takePart_58, b_Pa_takePart_70, b_Pa_takePart_73, nI_1, mem20, mem21, mem22, al20, al21, al33, al34, al36, al37, al38, aa33, aa34, aa36, aa37, aa38, true_and, and_true, Int32.reduceOfNat, forall_const, true_implies, implies_true, false_implies, not_true_eq_false, not_false_eq_true]
                refine (Cl_mono (show px (dep + 1) + 1 ≤ 6 * (5 - dep) + 5 by omega) (x1 L xs cs h1 p1.2)).mono ?_
                rintro r' h2 ⟨rfl, p2⟩
                have en : (-1 : Int32) = ccode 20001 := by decide
                simp only [Option.toList, List.cons_append, List.nil_append, b_Pa_takePart_78, xk_108 p2.2.x, xr_108_2 p2.2.x, true_and]
                rw [en]
                refine (x_add 20001 rfl p2.2 T (by simp; omega)).mono ?_
                rintro r' h3 ⟨rfl, p3⟩
                simp only [Option.toList, List.cons_append, List.nil_append, b_Pa_takePart_82, b_Pa_takePart_86]
                rw [List.append_assoc] at p3
                exact ⟨rtV, True.intro, (p3.pre p2.1).pre p1.1⟩
              · intro cs h r
                refine m_head (d := 5 * (5 - dep)) T hr2 hdp r _ (fun z => absurd st z) (fun _ z => absurd z hd5) (fun _ _ => ?_)
                have cl := r.cl
                rw [if_neg q1, b_M_takePart_44]
                refine (h7 r).mono ?_
                intro r' h1 p1
                rw [if_pos ⟨rfl, q3⟩] at p1
                obtain ⟨rfl, p1⟩ := p1
                simp only [Option.toList, List.cons_append, List.nil_append, b_M_takePart_47, show ¬ (1 : Int32) = 0 by decide, b_M_takePart_48, nI_1, mem20, mem21, mem22, al20, al21, al33, al34, al36, al37, al38, aa33, aa34, aa36, aa37, aa38, true_and, and_true, Int32.reduceOfNat, forall_const, true_implies, implies_true, false_implies, not_true_eq_false, not_false_eq_true]
                refine (Cl_mono (show pm (dep + 1) + 1 ≤ 5 * (5 - dep) + 5 by omega) (m1 cs h1 p1.2)).mono ?_
                rintro r' h2 ⟨rfl, p2⟩
                have en : (3 : Int32) = rop' 20001 := by decide
                simp only [Option.toList, List.cons_append, List.nil_append, b_M_takePart_53]
                rw [en]
                refine (m_emit T 20001 0 (fun z => by omega) p2.2 (by simp; omega)).mono ?_
                rintro r' h3 ⟨rfl, p3⟩
                simp only [Option.toList, List.cons_append, List.nil_append, b_M_takePart_57, b_M_takePart_112]
                rw [List.append_assoc] at p3
                exact ⟨rtV, True.intro, (p3.pre p2.1).pre p1.1⟩
            · -- a fact
              obtain ⟨x, hx⟩ : ∃ x, fct rd (tc ts i) = some x := by
                rcases st with z | z | z | z
                · exact absurd z q1
                · exact absurd z q2
                · exact absurd z q3
                · cases e : fct rd (tc ts i) with
                  | none => exact absurd e z
                  | some x => exact ⟨x, rfl⟩
              have hx20 := (fct_n hr1 _ _ hx).1
              have hx2 : rd = 1 → x < 18 → x + 2 < 18 := by
                intro e
                rw [e] at hx
                exact (fcR_r (tc ts i) x hx).1
              have hx12 : rd = 0 → x < 12 := by
                intro e
                rw [e] at hx
                exact (fcB_r (tc ts i) x hx).1
              obtain ⟨o1, o2, o3, o4⟩ := fF_o (rd := rd) T hi1 x
              refine ⟨(fF ts rd x (i + 1)).1, (fF ts rd x (i + 1)).2.1, [(fF ts rd x (i + 1)).2.2], ⟨by omega, o2, o3, by simp; omega, fun z => ⟨by omega, fun n hn => ?_⟩⟩, ?_, ?_⟩
              · obtain ⟨o5, o6, o7⟩ := o4 z
                refine sgs_1 ?_ hnf (by omega)
                rcases hrd with ⟨rfl, -, rfl⟩ | ⟨rfl, -, rfl⟩
                · have := o7 (fun z => absurd z.1 (by decide))
                  have := hx12 rfl
                  omega
                · by_cases y : x < 18
                  · have := o5 ⟨rfl, y⟩
                    have := hx2 rfl y
                    omega
                  · have := o7 (fun z => y z.2)
                    omega
              · intro L xs cs h r
                refine x_head (d := 6 * (5 - dep)) T hr1 hdp r _ (fun z => absurd st z) (fun _ z => absurd z hd5) (fun _ _ h1 p1 => ?_)
                have cl := r.cl
                have ef : oI id (fct rd (tc ts i)) = nI x := by rw [hx]; rfl
                have nz : ¬ nI x = -1 := by
                  intro e
                  have := n_nn (n := x) (by omega)
                  rw [e] at this
                  exact this (by decide)
                rw [if_neg q1, if_neg q2, ef]
                simp only [b_Pa_takePart_51, b_Pa_takePart_58, b_Pa_takePart_70, nz, b_Pa_takePart_83, mem20, mem21, mem22, al20, al21, al33, al34, al36, al37, al38, aa33, aa34, aa36, aa37, aa38, true_and, and_true, Int32.reduceOfNat, forall_const, true_implies, implies_true, false_implies, not_true_eq_false, not_false_eq_true]
                refine (x_line (d := 6 * (5 - dep) + 2) T hr1 x hx20 p1.2 (by omega)).mono ?_
                rintro r' h2 ⟨rfl, p2⟩
                simp only [Option.toList, List.cons_append, List.nil_append, b_Pa_takePart_86]
                exact ⟨rtV, True.intro, p2.pre p1.1⟩
              · intro cs h r
                refine m_head (d := 5 * (5 - dep)) T hr2 hdp r _ (fun z => absurd st z) (fun _ z => absurd z hd5) (fun _ _ => ?_)
                have ef : oI π (fct rd (tc ts i)) = nI (π x) := by rw [hx]; rfl
                rw [if_neg q1, ef, b_M_takePart_44]
                refine (h7 r).mono ?_
                intro r' h1 p1
                rw [if_neg (fun z => q3 z.2)] at p1
                obtain ⟨rfl, p1⟩ := p1
                simp only [Option.toList, List.cons_append, List.nil_append, b_M_takePart_47, b_M_takePart_58, mem20, mem21, mem22, al20, al21, al33, al34, al36, al37, al38, aa33, aa34, aa36, aa37, aa38, true_and, and_true, Int32.reduceOfNat, forall_const, true_implies, implies_true, false_implies, not_true_eq_false, not_false_eq_true]
                refine (h40 p1.2).mono ?_
                intro r' h2 p2
                rw [if_neg (fun z => q2 z.2)] at p2
                obtain ⟨rfl, p2⟩ := p2
                simp only [Option.toList, List.cons_append, List.nil_append, b_M_takePart_61, b_M_takePart_71, mem20, mem21, mem22, al20, al21, al33, al34, al36, al37, al38, aa33, aa34, aa36, aa37, aa38, true_and, and_true, Int32.reduceOfNat, forall_const, true_implies, implies_true, false_implies, not_true_eq_false, not_false_eq_true]
                rcases hr2 with ⟨rfl, rfl⟩ | ⟨rfl, rfl⟩
                · refine m_line (d := 5 * (5 - dep) + 3) T (Or.inl ⟨rfl, rfl⟩) x hx20 (fun z => by have := hx12 rfl; omega) _ p2.2 hi1 _ ?_
                  intro h3 p3
                  exact ⟨rtV, rfl, (p3.pre p2.1).pre p1.1⟩
                · refine m_line (d := 5 * (5 - dep) + 3) T (Or.inr ⟨rfl, rfl⟩) x hx20 (hx2 rfl) _ p2.2 hi1 _ ?_
                  intro h3 p3
                  exact ⟨rtV, rfl, (p3.pre p2.1).pre p1.1⟩
    · refine ⟨i, 1 + 16 * tp ts i, [], ⟨Nat.le_refl _, h2, by omega, by simp, fun z => by omega⟩, ?_, ?_⟩
      · intro L xs cs h r
        rw [List.append_nil]
        exact x_head (d := 6 * (5 - dep)) T hr1 hdp r _ (fun _ h' p => ⟨rfl, p⟩) (fun z => absurd z st) (fun z => absurd z st)
      · intro cs h r
        rw [List.append_nil]
        exact m_head (d := 5 * (5 - dep)) T hr2 hdp r _ (fun _ h' p => ⟨rfl, p⟩) (fun z => absurd z st) (fun z => absurd z st)
/-- an E -/
theorem expr (T : TOKS ts) (hrd : (rd = 0 ∧ π = id ∧ nf = 12) ∨ (rd = 1 ∧ π = pr ∧ nf = 20)) (i : Nat) (hi : i < ts.length) : ∃ i' F' cs', OUT ts nf 0 i i' F' cs' ∧ XS ts rd q_Pa_chain [.ref 108, .int 0, .int 0] 41 i i' F' cs' ∧ MS ts rd π q_M_all [.ref 342, .int 0] 35 i i' F' cs' := by
  obtain ⟨i1, F1, c1, o, x, m⟩ := chn_all (nf := nf) (dep := 0) T (by decide) i (fun j hj hj2 => part_all T hrd ts.length j 0 (by omega) hj2 (by decide)) i (Nat.le_refl _) hi
  exact ⟨i1, F1, c1, o, x, m⟩
end PARTS
