/-- a piece of code stands as it must, by program -/
def pck (cc : ByteArray) (own : Nat) (ini : Bool) (P : List IR) (i : Nat) : Bool := match P[i]? with
  | some q => decide (decode cc q.1 = .ok (q.2.1, ilen q.2.1 q.1)) && (isRet q.2.1 || isCall q.2.1 && cck ML own P i q || !isRet q.2.1 && !isCall q.2.1 && ick own ini P i q)
  | none => true
theorem POK_of {cc : ByteArray} {own : Nat} {ini : Bool} {P : List IR} (h : (List.range P.length).all (pck cc own ini P) = true) : ∀ (i : Nat) (q : IR), P[i]? = some q → decode cc q.1 = .ok (q.2.1, ilen q.2.1 q.1) ∧ (isRet q.2.1 = true ∨ (isCall q.2.1 = true ∧ cck ML own P i q = true) ∨ (isRet q.2.1 = false ∧ isCall q.2.1 = false ∧ ick own ini P i q = true)) := by
  intro i q hq
  have hi : i < P.length := (List.getElem?_eq_some_iff.mp hq).1
  have h1 := List.all_eq_true.mp h i (List.mem_range.mpr hi)
  unfold pck at h1
  rw [hq] at h1
  have h2 := Bool.and_eq_true_iff.mp h1
  refine ⟨of_decide_eq_true h2.1, ?_⟩
  rcases Bool.or_eq_true_iff.mp h2.2 with u | u
  · rcases Bool.or_eq_true_iff.mp u with v | v
    · exact Or.inl v
    · exact Or.inr (Or.inl (Bool.and_eq_true_iff.mp v))
  · have v := Bool.and_eq_true_iff.mp u
    have w := Bool.and_eq_true_iff.mp v.1
    exact Or.inr (Or.inr ⟨by simpa using w.1, by simpa using w.2, v.2⟩)
/-- the words of a method: of its code, of its class, of its kind, of its choice -/
def mck (t : MDt) (w : List Nat) : Bool := wat (w.getD 0 0) (.code t.1 t.2.1 t.2.2.1 t.2.2.2.1) && wat (w.getD 1 0) (.initialized t.1.cls) && plainName t.1.cls && decide (t.1.cls ≠ "java/lang/invoke/MethodHandle") && decide (t.1.cls ≠ "java/lang/invoke/VarHandle") && decide (t.1.cls = cnm t.2.2.2.2.1) &&
  (if t.2.2.2.2.2.1 = 99 then wat (w.getD 2 0) (.static t.1) else wat (w.getD 2 0) (.instanceMethod t.1) && (decide (t.1.name = "<init>") || wat (w.getD 3 0) (.selects t.1.cls t.1 t.1)) && (decide (t.2.2.2.2.2.1 < 13) && decide ((clk t.2.2.2.2.2.1).1 = t.1.cls) || decide (t.2.2.2.2.2.1 = 42) && decide (t.1.cls = "java/lang/String"))) &&
  decide (t.2.2.1 ≤ 45) && decide (pcOf t.2.2.2.2.2.2 0 = 0)
theorem MOK_of {t : MDt} {w : List Nat} (h : mck t w = true) (hP : ∀ (i : Nat) (q : IR), t.2.2.2.2.2.2[i]? = some q → decode t.2.1 q.1 = .ok (q.2.1, ilen q.2.1 q.1) ∧ (isRet q.2.1 = true ∨ (isCall q.2.1 = true ∧ cck ML t.2.2.2.2.1 t.2.2.2.2.2.2 i q = true) ∨ (isRet q.2.1 = false ∧ isCall q.2.1 = false ∧ ick t.2.2.2.2.1 (decide (t.1.name = "<init>")) t.2.2.2.2.2.2 i q = true))) : MOK ML t := by
  unfold mck at h
  have a1 := Bool.and_eq_true_iff.mp h
  have a2 := Bool.and_eq_true_iff.mp a1.1
  have a3 := Bool.and_eq_true_iff.mp a2.1
  have a4 := Bool.and_eq_true_iff.mp a3.1
  have a5 := Bool.and_eq_true_iff.mp a4.1
  have a6 := Bool.and_eq_true_iff.mp a5.1
  have a7 := Bool.and_eq_true_iff.mp a6.1
  have a8 := Bool.and_eq_true_iff.mp a7.1
  refine ⟨wat_AW a8.1 rfl, wat_AW a8.2 rfl, a7.2, ⟨of_decide_eq_true a6.2, of_decide_eq_true a5.2⟩, of_decide_eq_true a4.2, fun e => ?_, fun e => ?_, of_decide_eq_true a2.2, of_decide_eq_true a1.2, hP⟩
  · have b := a3.2
    rw [if_pos e] at b
    exact wat_AW b rfl
  · have b := a3.2
    rw [if_neg e] at b
    have b1 := Bool.and_eq_true_iff.mp b
    have b2 := Bool.and_eq_true_iff.mp b1.1
    refine ⟨wat_AW b2.1 rfl, fun hn => ?_, ?_⟩
    · rcases Bool.or_eq_true_iff.mp b2.2 with u | u
      · exact absurd (of_decide_eq_true u) hn
      · exact wat_AW u rfl
    · rcases Bool.or_eq_true_iff.mp b1.2 with u | u
      · have v := Bool.and_eq_true_iff.mp u
        exact Or.inl ⟨of_decide_eq_true v.1, of_decide_eq_true v.2⟩
      · have v := Bool.and_eq_true_iff.mp u
        exact Or.inr ⟨of_decide_eq_true v.1, of_decide_eq_true v.2⟩
set_option maxRecDepth 100000 in
theorem ok_0 : MOK ML m_0 := MOK_of (w := [315, 124, 314]) (by decide +kernel) (POK_of (by decide +kernel))
set_option maxRecDepth 100000 in
theorem ok_1 : MOK ML m_1 := MOK_of (w := [791, 124, 790, 46]) (by decide +kernel) (POK_of (by decide +kernel))
set_option maxRecDepth 100000 in
theorem ok_2 : MOK ML m_2 := MOK_of (w := [934, 124, 933, 67]) (by decide +kernel) (POK_of (by decide +kernel))
set_option maxRecDepth 100000 in
theorem ok_3 : MOK ML m_3 := MOK_of (w := [799, 124, 798, 48]) (by decide +kernel) (POK_of (by decide +kernel))
set_option maxRecDepth 100000 in
theorem ok_4 : MOK ML m_4 := MOK_of (w := [805, 124, 804, 49]) (by decide +kernel) (POK_of (by decide +kernel))
set_option maxRecDepth 100000 in
theorem ok_5 : MOK ML m_5 := MOK_of (w := [338, 125, 337]) (by decide +kernel) (POK_of (by decide +kernel))
set_option maxRecDepth 100000 in
theorem ok_6 : MOK ML m_6 := MOK_of (w := [847, 125, 846, 56]) (by decide +kernel) (POK_of (by decide +kernel))
set_option maxRecDepth 100000 in
theorem ok_7 : MOK ML m_7 := MOK_of (w := [852, 125, 851, 57]) (by decide +kernel) (POK_of (by decide +kernel))
set_option maxRecDepth 100000 in
theorem ok_8 : MOK ML m_8 := MOK_of (w := [865, 125, 864, 59]) (by decide +kernel) (POK_of (by decide +kernel))
set_option maxRecDepth 100000 in
theorem ok_9 : MOK ML m_9 := MOK_of (w := [196, 118, 195]) (by decide +kernel) (POK_of (by decide +kernel))
set_option maxRecDepth 100000 in
theorem ok_10 : MOK ML m_10 := MOK_of (w := [503, 118, 502, 3]) (by decide +kernel) (POK_of (by decide +kernel))
set_option maxRecDepth 100000 in
theorem ok_11 : MOK ML m_11 := MOK_of (w := [684, 118, 683, 30]) (by decide +kernel) (POK_of (by decide +kernel))
set_option maxRecDepth 100000 in
theorem ok_12 : MOK ML m_12 := MOK_of (w := [760, 118, 759, 42]) (by decide +kernel) (POK_of (by decide +kernel))
set_option maxRecDepth 100000 in
theorem ok_13 : MOK ML m_13 := MOK_of (w := [602, 118, 601, 13]) (by decide +kernel) (POK_of (by decide +kernel))
set_option maxRecDepth 100000 in
theorem ok_14 : MOK ML m_14 := MOK_of (w := [659, 118, 658, 25]) (by decide +kernel) (POK_of (by decide +kernel))
set_option maxRecDepth 100000 in
theorem ok_15 : MOK ML m_15 := MOK_of (w := [613, 118, 612, 15]) (by decide +kernel) (POK_of (by decide +kernel))
set_option maxRecDepth 100000 in
theorem ok_16 : MOK ML m_16 := MOK_of (w := [624, 118, 623, 17]) (by decide +kernel) (POK_of (by decide +kernel))
set_option maxRecDepth 100000 in
theorem ok_17 : MOK ML m_17 := MOK_of (w := [618, 118, 617, 16]) (by decide +kernel) (POK_of (by decide +kernel))
set_option maxRecDepth 100000 in
theorem ok_18 : MOK ML m_18 := MOK_of (w := [632, 118, 631, 19]) (by decide +kernel) (POK_of (by decide +kernel))
set_option maxRecDepth 100000 in
theorem ok_19 : MOK ML m_19 := MOK_of (w := [688, 118, 687, 31]) (by decide +kernel) (POK_of (by decide +kernel))
set_option maxRecDepth 100000 in
theorem ok_20 : MOK ML m_20 := MOK_of (w := [764, 118, 763, 43]) (by decide +kernel) (POK_of (by decide +kernel))
set_option maxRecDepth 100000 in
theorem ok_21 : MOK ML m_21 := MOK_of (w := [698, 118, 697, 33]) (by decide +kernel) (POK_of (by decide +kernel))
set_option maxRecDepth 100000 in
theorem ok_22 : MOK ML m_22 := MOK_of (w := [640, 118, 639, 21]) (by decide +kernel) (POK_of (by decide +kernel))
set_option maxRecDepth 100000 in
theorem ok_23 : MOK ML m_23 := MOK_of (w := [651, 118, 650, 23]) (by decide +kernel) (POK_of (by decide +kernel))
set_option maxRecDepth 100000 in
theorem ok_24 : MOK ML m_24 := MOK_of (w := [628, 118, 627, 18]) (by decide +kernel) (POK_of (by decide +kernel))
set_option maxRecDepth 100000 in
theorem ok_25 : MOK ML m_25 := MOK_of (w := [647, 118, 646, 22]) (by decide +kernel) (POK_of (by decide +kernel))
set_option maxRecDepth 100000 in
theorem ok_26 : MOK ML m_26 := MOK_of (w := [636, 118, 635, 20]) (by decide +kernel) (POK_of (by decide +kernel))
set_option maxRecDepth 100000 in
theorem ok_27 : MOK ML m_27 := MOK_of (w := [706, 118, 705, 35]) (by decide +kernel) (POK_of (by decide +kernel))
set_option maxRecDepth 100000 in
theorem ok_28 : MOK ML m_28 := MOK_of (w := [724, 118, 723, 39]) (by decide +kernel) (POK_of (by decide +kernel))
set_option maxRecDepth 100000 in
theorem ok_29 : MOK ML m_29 := MOK_of (w := [710, 118, 709, 36]) (by decide +kernel) (POK_of (by decide +kernel))
set_option maxRecDepth 100000 in
theorem ok_30 : MOK ML m_30 := MOK_of (w := [720, 118, 719, 38]) (by decide +kernel) (POK_of (by decide +kernel))
set_option maxRecDepth 100000 in
theorem ok_31 : MOK ML m_31 := MOK_of (w := [392, 128, 391]) (by decide +kernel) (POK_of (by decide +kernel))
set_option maxRecDepth 100000 in
theorem ok_32 : MOK ML m_32 := MOK_of (w := [479, 128, 478, 0]) (by decide +kernel) (POK_of (by decide +kernel))
set_option maxRecDepth 100000 in
theorem ok_33 : MOK ML m_33 := MOK_of (w := [229, 120, 228]) (by decide +kernel) (POK_of (by decide +kernel))
set_option maxRecDepth 100000 in
theorem ok_34 : MOK ML m_34 := MOK_of (w := [655, 120, 654, 24]) (by decide +kernel) (POK_of (by decide +kernel))
set_option maxRecDepth 100000 in
theorem ok_35 : MOK ML m_35 := MOK_of (w := [663, 120, 662, 26]) (by decide +kernel) (POK_of (by decide +kernel))
set_option maxRecDepth 100000 in
theorem ok_36 : MOK ML m_36 := MOK_of (w := [667, 120, 666, 27]) (by decide +kernel) (POK_of (by decide +kernel))
set_option maxRecDepth 100000 in
theorem ok_37 : MOK ML m_37 := MOK_of (w := [671, 120, 670, 28]) (by decide +kernel) (POK_of (by decide +kernel))
set_option maxRecDepth 100000 in
theorem ok_38 : MOK ML m_38 := MOK_of (w := [675, 120, 674, 29]) (by decide +kernel) (POK_of (by decide +kernel))
set_option maxRecDepth 100000 in
theorem ok_39 : MOK ML m_39 := MOK_of (w := [795, 120, 794, 47]) (by decide +kernel) (POK_of (by decide +kernel))
set_option maxRecDepth 100000 in
theorem ok_40 : MOK ML m_40 := MOK_of (w := [348, 126, 347]) (by decide +kernel) (POK_of (by decide +kernel))
set_option maxRecDepth 100000 in
theorem ok_41 : MOK ML m_41 := MOK_of (w := [930, 126, 929]) (by decide +kernel) (POK_of (by decide +kernel))
set_option maxRecDepth 100000 in
theorem ok_42 : MOK ML m_42 := MOK_of (w := [926, 126, 925, 66]) (by decide +kernel) (POK_of (by decide +kernel))
set_option maxRecDepth 100000 in
theorem ok_43 : MOK ML m_43 := MOK_of (w := [941, 126, 940, 68]) (by decide +kernel) (POK_of (by decide +kernel))
set_option maxRecDepth 100000 in
theorem ok_44 : MOK ML m_44 := MOK_of (w := [944, 126, 943]) (by decide +kernel) (POK_of (by decide +kernel))
set_option maxRecDepth 100000 in
theorem ok_45 : MOK ML m_45 := MOK_of (w := [949, 126, 948, 69]) (by decide +kernel) (POK_of (by decide +kernel))
