--deps: 
/-- a piece of code stands as it must, by program -/
def pck (cc : ByteArray) (own : Nat) (ini : Bool) (P : List IR) (i : Nat) : Bool := match P[i]? with
  | some q => decide (decode cc q.1 = .ok (q.2.1, ilen q.2.1 q.1)) && (isRet q.2.1 || isCall q.2.1 && cck ML own P i q || !isRet q.2.1 && !isCall q.2.1 && ick own ini P i q)
  | none => true
theorem POK_of {cc : ByteArray} {own : Nat} {ini : Bool} {P : List IR} (h : (List.range P.length).all (pck cc own ini P) = true) : ∀ (i : Nat) (q : IR), P[i]? = some q → decode cc q.1 = .ok (q.2.1, ilen q.2.1 q.1) ∧ (isRet q.2.1 = true ∨ (isCall q.2.1 = true ∧ cck ML own P i q = true) ∨ (isRet q.2.1 = false ∧ isCall q.2.1 = false ∧ ick own ini P i q = true)) := by
  intro i q hq
  have hi : i < P.length := (List.getElem?_eq_some_iff.mp hq).1
  have h1 := List.all_eq_true.mp h i (List.mem_range.mpr hi)
  unfold pck at h1
  rw [hq] at h1
  have h2 := Bool.and_eq_true_iff.mp h1
  refine ⟨of_decide_eq_true h2.1, ?_⟩
  rcases Bool.or_eq_true_iff.mp h2.2 with u | u
  · rcases Bool.or_eq_true_iff.mp u with v | v
    · exact Or.inl v
    · exact Or.inr (Or.inl (Bool.and_eq_true_iff.mp v))
  · have v := Bool.and_eq_true_iff.mp u
    have w := Bool.and_eq_true_iff.mp v.1
    exact Or.inr (Or.inr ⟨by simpa using w.1, by simpa using w.2, v.2⟩)
/-- the words of a method: of its code, of its class, of its kind, of its choice -/
def mck (t : MDt) (w : List Nat) : Bool := wat (w.getD 0 0) (.code t.1 t.2.1 t.2.2.1 t.2.2.2.1) && wat (w.getD 1 0) (.initialized t.1.cls) && plainName t.1.cls && decide (t.1.cls ≠ "java/lang/invoke/MethodHandle") && decide (t.1.cls ≠ "java/lang/invoke/VarHandle") && decide (t.1.cls = cnm t.2.2.2.2.1) &&
  (if t.2.2.2.2.2.1 = 99 then wat (w.getD 2 0) (.static t.1) else wat (w.getD 2 0) (.instanceMethod t.1) && (decide (t.1.name = "<init>") || wat (w.getD 3 0) (.selects t.1.cls t.1 t.1)) && (decide (t.2.2.2.2.2.1 < 13) && decide ((clk t.2.2.2.2.2.1).1 = t.1.cls) || decide (t.2.2.2.2.2.1 = 42) && decide (t.1.cls = "java/lang/String"))) &&
  decide (t.2.2.1 ≤ 45) && decide (pcOf t.2.2.2.2.2.2 0 = 0)
theorem MOK_of {t : MDt} {w : List Nat} (h : mck t w = true) (hP : ∀ (i : Nat) (q : IR), t.2.2.2.2.2.2[i]? = some q → decode t.2.1 q.1 = .ok (q.2.1, ilen q.2.1 q.1) ∧ (isRet q.2.1 = true ∨ (isCall q.2.1 = true ∧ cck ML t.2.2.2.2.1 t.2.2.2.2.2.2 i q = true) ∨ (isRet q.2.1 = false ∧ isCall q.2.1 = false ∧ ick t.2.2.2.2.1 (decide (t.1.name = "<init>")) t.2.2.2.2.2.2 i q = true))) : MOK ML t := by
  unfold mck at h
  have a1 := Bool.and_eq_true_iff.mp h
  have a2 := Bool.and_eq_true_iff.mp a1.1
  have a3 := Bool.and_eq_true_iff.mp a2.1
  have a4 := Bool.and_eq_true_iff.mp a3.1
  have a5 := Bool.and_eq_true_iff.mp a4.1
  have a6 := Bool.and_eq_true_iff.mp a5.1
  have a7 := Bool.and_eq_true_iff.mp a6.1
  have a8 := Bool.and_eq_true_iff.mp a7.1
  refine ⟨wat_AW a8.1 rfl, wat_AW a8.2 rfl, a7.2, ⟨of_decide_eq_true a6.2, of_decide_eq_true a5.2⟩, of_decide_eq_true a4.2, fun e => ?_, fun e => ?_, of_decide_eq_true a2.2, of_decide_eq_true a1.2, hP⟩
  · have b := a3.2
    rw [if_pos e] at b
    exact wat_AW b rfl
  · have b := a3.2
    rw [if_neg e] at b
    have b1 := Bool.and_eq_true_iff.mp b
    have b2 := Bool.and_eq_true_iff.mp b1.1
    refine ⟨wat_AW b2.1 rfl, fun hn => ?_, ?_⟩
    · rcases Bool.or_eq_true_iff.mp b2.2 with u | u
      · exact absurd (of_decide_eq_true u) hn
      · exact wat_AW u rfl
    · rcases Bool.or_eq_true_iff.mp b1.2 with u | u
      · have v := Bool.and_eq_true_iff.mp u
        exact Or.inl ⟨of_decide_eq_true v.1, of_decide_eq_true v.2⟩
      · have v := Bool.and_eq_true_iff.mp u
        exact Or.inr ⟨of_decide_eq_true v.1, of_decide_eq_true v.2⟩
set_option maxRecDepth 100000 in
theorem ok_Ch_init : MOK ML m_Ch_init := MOK_of (w := [315, 124, 314]) (by decide +kernel) (POK_of (by decide +kernel))
set_option maxRecDepth 100000 in
theorem ok_Ch_fill : MOK ML m_Ch_fill := MOK_of (w := [791, 124, 790, 46]) (by decide +kernel) (POK_of (by decide +kernel))
set_option maxRecDepth 100000 in
theorem ok_Ch_spread : MOK ML m_Ch_spread := MOK_of (w := [934, 124, 933, 67]) (by decide +kernel) (POK_of (by decide +kernel))
set_option maxRecDepth 100000 in
theorem ok_Ch_pose : MOK ML m_Ch_pose := MOK_of (w := [799, 124, 798, 48]) (by decide +kernel) (POK_of (by decide +kernel))
set_option maxRecDepth 100000 in
theorem ok_Ch_jumpOf : MOK ML m_Ch_jumpOf := MOK_of (w := [805, 124, 804, 49]) (by decide +kernel) (POK_of (by decide +kernel))
set_option maxRecDepth 100000 in
theorem ok_Ju_init : MOK ML m_Ju_init := MOK_of (w := [338, 125, 337]) (by decide +kernel) (POK_of (by decide +kernel))
set_option maxRecDepth 100000 in
theorem ok_Ju_study : MOK ML m_Ju_study := MOK_of (w := [847, 125, 846, 56]) (by decide +kernel) (POK_of (by decide +kernel))
set_option maxRecDepth 100000 in
theorem ok_Ju_note : MOK ML m_Ju_note := MOK_of (w := [852, 125, 851, 57]) (by decide +kernel) (POK_of (by decide +kernel))
set_option maxRecDepth 100000 in
theorem ok_Ju_finds : MOK ML m_Ju_finds := MOK_of (w := [865, 125, 864, 59]) (by decide +kernel) (POK_of (by decide +kernel))
set_option maxRecDepth 100000 in
theorem ok_Pa_init : MOK ML m_Pa_init := MOK_of (w := [196, 118, 195]) (by decide +kernel) (POK_of (by decide +kernel))
set_option maxRecDepth 100000 in
theorem ok_Pa_readPlan : MOK ML m_Pa_readPlan := MOK_of (w := [503, 118, 502, 3]) (by decide +kernel) (POK_of (by decide +kernel))
set_option maxRecDepth 100000 in
theorem ok_Pa_readBody : MOK ML m_Pa_readBody := MOK_of (w := [684, 118, 683, 30]) (by decide +kernel) (POK_of (by decide +kernel))
set_option maxRecDepth 100000 in
theorem ok_Pa_readReader : MOK ML m_Pa_readReader := MOK_of (w := [760, 118, 759, 42]) (by decide +kernel) (POK_of (by decide +kernel))
set_option maxRecDepth 100000 in
theorem ok_Pa_begin : MOK ML m_Pa_begin := MOK_of (w := [602, 118, 601, 13]) (by decide +kernel) (POK_of (by decide +kernel))
set_option maxRecDepth 100000 in
theorem ok_Pa_goesOn : MOK ML m_Pa_goesOn := MOK_of (w := [659, 118, 658, 25]) (by decide +kernel) (POK_of (by decide +kernel))
set_option maxRecDepth 100000 in
theorem ok_Pa_next : MOK ML m_Pa_next := MOK_of (w := [613, 118, 612, 15]) (by decide +kernel) (POK_of (by decide +kernel))
set_option maxRecDepth 100000 in
theorem ok_Pa_wrong : MOK ML m_Pa_wrong := MOK_of (w := [624, 118, 623, 17]) (by decide +kernel) (POK_of (by decide +kernel))
set_option maxRecDepth 100000 in
theorem ok_Pa_takeQuestion : MOK ML m_Pa_takeQuestion := MOK_of (w := [618, 118, 617, 16]) (by decide +kernel) (POK_of (by decide +kernel))
set_option maxRecDepth 100000 in
theorem ok_Pa_takeKind : MOK ML m_Pa_takeKind := MOK_of (w := [632, 118, 631, 19]) (by decide +kernel) (POK_of (by decide +kernel))
set_option maxRecDepth 100000 in
theorem ok_Pa_takeBodyHead : MOK ML m_Pa_takeBodyHead := MOK_of (w := [688, 118, 687, 31]) (by decide +kernel) (POK_of (by decide +kernel))
set_option maxRecDepth 100000 in
theorem ok_Pa_takeReaderHead : MOK ML m_Pa_takeReaderHead := MOK_of (w := [764, 118, 763, 43]) (by decide +kernel) (POK_of (by decide +kernel))
set_option maxRecDepth 100000 in
theorem ok_Pa_takeLaw : MOK ML m_Pa_takeLaw := MOK_of (w := [698, 118, 697, 33]) (by decide +kernel) (POK_of (by decide +kernel))
set_option maxRecDepth 100000 in
theorem ok_Pa_isNumber : MOK ML m_Pa_isNumber := MOK_of (w := [640, 118, 639, 21]) (by decide +kernel) (POK_of (by decide +kernel))
set_option maxRecDepth 100000 in
theorem ok_Pa_isSign : MOK ML m_Pa_isSign := MOK_of (w := [651, 118, 650, 23]) (by decide +kernel) (POK_of (by decide +kernel))
set_option maxRecDepth 100000 in
theorem ok_Pa_takeWord : MOK ML m_Pa_takeWord := MOK_of (w := [628, 118, 627, 18]) (by decide +kernel) (POK_of (by decide +kernel))
set_option maxRecDepth 100000 in
theorem ok_Pa_takeSign : MOK ML m_Pa_takeSign := MOK_of (w := [647, 118, 646, 22]) (by decide +kernel) (POK_of (by decide +kernel))
set_option maxRecDepth 100000 in
theorem ok_Pa_takeNumber : MOK ML m_Pa_takeNumber := MOK_of (w := [636, 118, 635, 20]) (by decide +kernel) (POK_of (by decide +kernel))
set_option maxRecDepth 100000 in
theorem ok_Pa_chain : MOK ML m_Pa_chain := MOK_of (w := [706, 118, 705, 35]) (by decide +kernel) (POK_of (by decide +kernel))
set_option maxRecDepth 100000 in
theorem ok_Pa_jointAt : MOK ML m_Pa_jointAt := MOK_of (w := [724, 118, 723, 39]) (by decide +kernel) (POK_of (by decide +kernel))
set_option maxRecDepth 100000 in
theorem ok_Pa_takePart : MOK ML m_Pa_takePart := MOK_of (w := [710, 118, 709, 36]) (by decide +kernel) (POK_of (by decide +kernel))
set_option maxRecDepth 100000 in
theorem ok_Pa_takeLineOfFact : MOK ML m_Pa_takeLineOfFact := MOK_of (w := [720, 118, 719, 38]) (by decide +kernel) (POK_of (by decide +kernel))
set_option maxRecDepth 100000 in
theorem ok_Pe_init : MOK ML m_Pe_init := MOK_of (w := [392, 128, 391]) (by decide +kernel) (POK_of (by decide +kernel))
set_option maxRecDepth 100000 in
theorem ok_Pe_tell : MOK ML m_Pe_tell := MOK_of (w := [479, 128, 478, 0]) (by decide +kernel) (POK_of (by decide +kernel))
set_option maxRecDepth 100000 in
theorem ok_Pl_init : MOK ML m_Pl_init := MOK_of (w := [229, 120, 228]) (by decide +kernel) (POK_of (by decide +kernel))
set_option maxRecDepth 100000 in
theorem ok_Pl_add : MOK ML m_Pl_add := MOK_of (w := [655, 120, 654, 24]) (by decide +kernel) (POK_of (by decide +kernel))
set_option maxRecDepth 100000 in
theorem ok_Pl_become : MOK ML m_Pl_become := MOK_of (w := [663, 120, 662, 26]) (by decide +kernel) (POK_of (by decide +kernel))
set_option maxRecDepth 100000 in
theorem ok_Pl_kindAt : MOK ML m_Pl_kindAt := MOK_of (w := [667, 120, 666, 27]) (by decide +kernel) (POK_of (by decide +kernel))
set_option maxRecDepth 100000 in
theorem ok_Pl_itemAt : MOK ML m_Pl_itemAt := MOK_of (w := [671, 120, 670, 28]) (by decide +kernel) (POK_of (by decide +kernel))
set_option maxRecDepth 100000 in
theorem ok_Pl_minutesAt : MOK ML m_Pl_minutesAt := MOK_of (w := [675, 120, 674, 29]) (by decide +kernel) (POK_of (by decide +kernel))
set_option maxRecDepth 100000 in
theorem ok_Pl_ahead : MOK ML m_Pl_ahead := MOK_of (w := [795, 120, 794, 47]) (by decide +kernel) (POK_of (by decide +kernel))
set_option maxRecDepth 100000 in
theorem ok_Pr_init : MOK ML m_Pr_init := MOK_of (w := [348, 126, 347]) (by decide +kernel) (POK_of (by decide +kernel))
set_option maxRecDepth 100000 in
theorem ok_Pr_cell : MOK ML m_Pr_cell := MOK_of (w := [930, 126, 929]) (by decide +kernel) (POK_of (by decide +kernel))
set_option maxRecDepth 100000 in
theorem ok_Pr_weigh : MOK ML m_Pr_weigh := MOK_of (w := [926, 126, 925, 66]) (by decide +kernel) (POK_of (by decide +kernel))
set_option maxRecDepth 100000 in
theorem ok_Pr_choose : MOK ML m_Pr_choose := MOK_of (w := [941, 126, 940, 68]) (by decide +kernel) (POK_of (by decide +kernel))
set_option maxRecDepth 100000 in
theorem ok_Pr_spanOf : MOK ML m_Pr_spanOf := MOK_of (w := [944, 126, 943]) (by decide +kernel) (POK_of (by decide +kernel))
set_option maxRecDepth 100000 in
theorem ok_Pr_powerOf : MOK ML m_Pr_powerOf := MOK_of (w := [949, 126, 948, 69]) (by decide +kernel) (POK_of (by decide +kernel))
