section
-- ===== PART A: goes FIRST, ahead of the names: the tables' words, and 'selects' of the private methods out of them =====
/-- a private method of a class that the tables say can be made, by its rows of tables_1 -/
def lw_okq (q : MethodName × Nat) : Prop := (q.1.cls ≠ "java/lang/invoke/MethodHandle" ∧ q.1.cls ≠ "java/lang/invoke/VarHandle") ∧ Cond.instantiable q.1.cls q.2 ∈ tables_1 ∧ Cond.privateMethod q.1 ∈ tables_1 ∧ Cond.instanceMethod q.1 ∈ tables_1
theorem lw_p0 : lw_okq (⟨"PenThatJumps$Person", "tell", "(IZIZ)V"⟩, 5) := ⟨⟨by decide +kernel, by decide +kernel⟩, List.mem_of_getElem? (i := 274) (by decide +kernel), List.mem_of_getElem? (i := 362) (by decide +kernel), List.mem_of_getElem? (i := 363) (by decide +kernel)⟩
theorem lw_p1 : lw_okq (⟨"PenThatJumps$Tape", "put", "(J)V"⟩, 5) := ⟨⟨by decide +kernel, by decide +kernel⟩, List.mem_of_getElem? (i := 84) (by decide +kernel), List.mem_of_getElem? (i := 374) (by decide +kernel), List.mem_of_getElem? (i := 375) (by decide +kernel)⟩
theorem lw_p2 : lw_okq (⟨"PenThatJumps$Tape", "clear", "()V"⟩, 5) := ⟨⟨by decide +kernel, by decide +kernel⟩, List.mem_of_getElem? (i := 84) (by decide +kernel), List.mem_of_getElem? (i := 382) (by decide +kernel), List.mem_of_getElem? (i := 383) (by decide +kernel)⟩
theorem lw_p3 : lw_okq (⟨"PenThatJumps$Parser", "readPlan", "()I"⟩, 9) := ⟨⟨by decide +kernel, by decide +kernel⟩, List.mem_of_getElem? (i := 78) (by decide +kernel), List.mem_of_getElem? (i := 386) (by decide +kernel), List.mem_of_getElem? (i := 387) (by decide +kernel)⟩
theorem lw_p4 : lw_okq (⟨"PenThatJumps$Tape", "cut", "()V"⟩, 5) := ⟨⟨by decide +kernel, by decide +kernel⟩, List.mem_of_getElem? (i := 84) (by decide +kernel), List.mem_of_getElem? (i := 390) (by decide +kernel), List.mem_of_getElem? (i := 391) (by decide +kernel)⟩
theorem lw_p5 : lw_okq (⟨"PenThatJumps$Tape", "pastBlanks", "(I)I"⟩, 5) := ⟨⟨by decide +kernel, by decide +kernel⟩, List.mem_of_getElem? (i := 84) (by decide +kernel), List.mem_of_getElem? (i := 394) (by decide +kernel), List.mem_of_getElem? (i := 395) (by decide +kernel)⟩
theorem lw_p6 : lw_okq (⟨"PenThatJumps$Tape", "signAt", "(I)C"⟩, 5) := ⟨⟨by decide +kernel, by decide +kernel⟩, List.mem_of_getElem? (i := 84) (by decide +kernel), List.mem_of_getElem? (i := 398) (by decide +kernel), List.mem_of_getElem? (i := 399) (by decide +kernel)⟩
theorem lw_p7 : lw_okq (⟨"PenThatJumps$Tape", "cutToken", "(I)I"⟩, 5) := ⟨⟨by decide +kernel, by decide +kernel⟩, List.mem_of_getElem? (i := 84) (by decide +kernel), List.mem_of_getElem? (i := 402) (by decide +kernel), List.mem_of_getElem? (i := 403) (by decide +kernel)⟩
theorem lw_p8 : lw_okq (⟨"PenThatJumps$Tape", "cutWord", "(I)I"⟩, 5) := ⟨⟨by decide +kernel, by decide +kernel⟩, List.mem_of_getElem? (i := 84) (by decide +kernel), List.mem_of_getElem? (i := 409) (by decide +kernel), List.mem_of_getElem? (i := 410) (by decide +kernel)⟩
theorem lw_p9 : lw_okq (⟨"PenThatJumps$Tape", "rowOfWord", "(II)I"⟩, 5) := ⟨⟨by decide +kernel, by decide +kernel⟩, List.mem_of_getElem? (i := 84) (by decide +kernel), List.mem_of_getElem? (i := 413) (by decide +kernel), List.mem_of_getElem? (i := 414) (by decide +kernel)⟩
theorem lw_p10 : lw_okq (⟨"PenThatJumps$Tape", "spells", "(IILjava/lang/String;)Z"⟩, 5) := ⟨⟨by decide +kernel, by decide +kernel⟩, List.mem_of_getElem? (i := 84) (by decide +kernel), List.mem_of_getElem? (i := 419) (by decide +kernel), List.mem_of_getElem? (i := 420) (by decide +kernel)⟩
theorem lw_p11 : lw_okq (⟨"PenThatJumps$Tape", "addToken", "(II)V"⟩, 5) := ⟨⟨by decide +kernel, by decide +kernel⟩, List.mem_of_getElem? (i := 84) (by decide +kernel), List.mem_of_getElem? (i := 471) (by decide +kernel), List.mem_of_getElem? (i := 472) (by decide +kernel)⟩
theorem lw_p12 : lw_okq (⟨"PenThatJumps$Tape", "cutNumber", "(I)I"⟩, 5) := ⟨⟨by decide +kernel, by decide +kernel⟩, List.mem_of_getElem? (i := 84) (by decide +kernel), List.mem_of_getElem? (i := 478) (by decide +kernel), List.mem_of_getElem? (i := 479) (by decide +kernel)⟩
theorem lw_p13 : lw_okq (⟨"PenThatJumps$Parser", "begin", "(Z)V"⟩, 9) := ⟨⟨by decide +kernel, by decide +kernel⟩, List.mem_of_getElem? (i := 78) (by decide +kernel), List.mem_of_getElem? (i := 485) (by decide +kernel), List.mem_of_getElem? (i := 486) (by decide +kernel)⟩
theorem lw_p14 : lw_okq (⟨"PenThatJumps$Program", "clear", "()V"⟩, 6) := ⟨⟨by decide +kernel, by decide +kernel⟩, List.mem_of_getElem? (i := 136) (by decide +kernel), List.mem_of_getElem? (i := 489) (by decide +kernel), List.mem_of_getElem? (i := 490) (by decide +kernel)⟩
theorem lw_p15 : lw_okq (⟨"PenThatJumps$Parser", "next", "()V"⟩, 9) := ⟨⟨by decide +kernel, by decide +kernel⟩, List.mem_of_getElem? (i := 78) (by decide +kernel), List.mem_of_getElem? (i := 496) (by decide +kernel), List.mem_of_getElem? (i := 497) (by decide +kernel)⟩
def lw_privs_1 : List (MethodName × Nat) := [(⟨"PenThatJumps$Person", "tell", "(IZIZ)V"⟩, 5), (⟨"PenThatJumps$Tape", "put", "(J)V"⟩, 5), (⟨"PenThatJumps$Tape", "clear", "()V"⟩, 5), (⟨"PenThatJumps$Parser", "readPlan", "()I"⟩, 9), (⟨"PenThatJumps$Tape", "cut", "()V"⟩, 5), (⟨"PenThatJumps$Tape", "pastBlanks", "(I)I"⟩, 5), (⟨"PenThatJumps$Tape", "signAt", "(I)C"⟩, 5), (⟨"PenThatJumps$Tape", "cutToken", "(I)I"⟩, 5), (⟨"PenThatJumps$Tape", "cutWord", "(I)I"⟩, 5), (⟨"PenThatJumps$Tape", "rowOfWord", "(II)I"⟩, 5), (⟨"PenThatJumps$Tape", "spells", "(IILjava/lang/String;)Z"⟩, 5), (⟨"PenThatJumps$Tape", "addToken", "(II)V"⟩, 5), (⟨"PenThatJumps$Tape", "cutNumber", "(I)I"⟩, 5), (⟨"PenThatJumps$Parser", "begin", "(Z)V"⟩, 9), (⟨"PenThatJumps$Program", "clear", "()V"⟩, 6), (⟨"PenThatJumps$Parser", "next", "()V"⟩, 9)]
theorem lw_r1 : ∀ q ∈ lw_privs_1, lw_okq q := List.forall_mem_cons.mpr ⟨lw_p0, List.forall_mem_cons.mpr ⟨lw_p1, List.forall_mem_cons.mpr ⟨lw_p2, List.forall_mem_cons.mpr ⟨lw_p3, List.forall_mem_cons.mpr ⟨lw_p4, List.forall_mem_cons.mpr ⟨lw_p5, List.forall_mem_cons.mpr ⟨lw_p6, List.forall_mem_cons.mpr ⟨lw_p7, List.forall_mem_cons.mpr ⟨lw_p8, List.forall_mem_cons.mpr ⟨lw_p9, List.forall_mem_cons.mpr ⟨lw_p10, List.forall_mem_cons.mpr ⟨lw_p11, List.forall_mem_cons.mpr ⟨lw_p12, List.forall_mem_cons.mpr ⟨lw_p13, List.forall_mem_cons.mpr ⟨lw_p14, List.forall_mem_cons.mpr ⟨lw_p15, fun _ h => absurd h List.not_mem_nil⟩⟩⟩⟩⟩⟩⟩⟩⟩⟩⟩⟩⟩⟩⟩⟩
theorem lw_p16 : lw_okq (⟨"PenThatJumps$Parser", "takeQuestion", "()V"⟩, 9) := ⟨⟨by decide +kernel, by decide +kernel⟩, List.mem_of_getElem? (i := 78) (by decide +kernel), List.mem_of_getElem? (i := 501) (by decide +kernel), List.mem_of_getElem? (i := 502) (by decide +kernel)⟩
theorem lw_p17 : lw_okq (⟨"PenThatJumps$Parser", "wrong", "(I)V"⟩, 9) := ⟨⟨by decide +kernel, by decide +kernel⟩, List.mem_of_getElem? (i := 78) (by decide +kernel), List.mem_of_getElem? (i := 507) (by decide +kernel), List.mem_of_getElem? (i := 508) (by decide +kernel)⟩
theorem lw_p18 : lw_okq (⟨"PenThatJumps$Parser", "takeWord", "(LPenThatJumps$Word;)V"⟩, 9) := ⟨⟨by decide +kernel, by decide +kernel⟩, List.mem_of_getElem? (i := 78) (by decide +kernel), List.mem_of_getElem? (i := 511) (by decide +kernel), List.mem_of_getElem? (i := 512) (by decide +kernel)⟩
theorem lw_p19 : lw_okq (⟨"PenThatJumps$Parser", "takeKind", "()I"⟩, 9) := ⟨⟨by decide +kernel, by decide +kernel⟩, List.mem_of_getElem? (i := 78) (by decide +kernel), List.mem_of_getElem? (i := 515) (by decide +kernel), List.mem_of_getElem? (i := 516) (by decide +kernel)⟩
theorem lw_p20 : lw_okq (⟨"PenThatJumps$Parser", "takeNumber", "(II)I"⟩, 9) := ⟨⟨by decide +kernel, by decide +kernel⟩, List.mem_of_getElem? (i := 78) (by decide +kernel), List.mem_of_getElem? (i := 519) (by decide +kernel), List.mem_of_getElem? (i := 520) (by decide +kernel)⟩
theorem lw_p21 : lw_okq (⟨"PenThatJumps$Parser", "isNumber", "()Z"⟩, 9) := ⟨⟨by decide +kernel, by decide +kernel⟩, List.mem_of_getElem? (i := 78) (by decide +kernel), List.mem_of_getElem? (i := 523) (by decide +kernel), List.mem_of_getElem? (i := 524) (by decide +kernel)⟩
theorem lw_p22 : lw_okq (⟨"PenThatJumps$Parser", "takeSign", "(C)V"⟩, 9) := ⟨⟨by decide +kernel, by decide +kernel⟩, List.mem_of_getElem? (i := 78) (by decide +kernel), List.mem_of_getElem? (i := 530) (by decide +kernel), List.mem_of_getElem? (i := 531) (by decide +kernel)⟩
theorem lw_p23 : lw_okq (⟨"PenThatJumps$Parser", "isSign", "(C)Z"⟩, 9) := ⟨⟨by decide +kernel, by decide +kernel⟩, List.mem_of_getElem? (i := 78) (by decide +kernel), List.mem_of_getElem? (i := 534) (by decide +kernel), List.mem_of_getElem? (i := 535) (by decide +kernel)⟩
theorem lw_p24 : lw_okq (⟨"PenThatJumps$Plan", "add", "(III)V"⟩, 4) := ⟨⟨by decide +kernel, by decide +kernel⟩, List.mem_of_getElem? (i := 111) (by decide +kernel), List.mem_of_getElem? (i := 538) (by decide +kernel), List.mem_of_getElem? (i := 539) (by decide +kernel)⟩
theorem lw_p25 : lw_okq (⟨"PenThatJumps$Parser", "goesOn", "()Z"⟩, 9) := ⟨⟨by decide +kernel, by decide +kernel⟩, List.mem_of_getElem? (i := 78) (by decide +kernel), List.mem_of_getElem? (i := 542) (by decide +kernel), List.mem_of_getElem? (i := 543) (by decide +kernel)⟩
theorem lw_p26 : lw_okq (⟨"PenThatJumps$Plan", "become", "(LPenThatJumps$Plan;)V"⟩, 4) := ⟨⟨by decide +kernel, by decide +kernel⟩, List.mem_of_getElem? (i := 111) (by decide +kernel), List.mem_of_getElem? (i := 546) (by decide +kernel), List.mem_of_getElem? (i := 547) (by decide +kernel)⟩
theorem lw_p27 : lw_okq (⟨"PenThatJumps$Plan", "kindAt", "(I)I"⟩, 4) := ⟨⟨by decide +kernel, by decide +kernel⟩, List.mem_of_getElem? (i := 111) (by decide +kernel), List.mem_of_getElem? (i := 550) (by decide +kernel), List.mem_of_getElem? (i := 551) (by decide +kernel)⟩
theorem lw_p28 : lw_okq (⟨"PenThatJumps$Plan", "itemAt", "(I)I"⟩, 4) := ⟨⟨by decide +kernel, by decide +kernel⟩, List.mem_of_getElem? (i := 111) (by decide +kernel), List.mem_of_getElem? (i := 554) (by decide +kernel), List.mem_of_getElem? (i := 555) (by decide +kernel)⟩
theorem lw_p29 : lw_okq (⟨"PenThatJumps$Plan", "minutesAt", "(I)I"⟩, 4) := ⟨⟨by decide +kernel, by decide +kernel⟩, List.mem_of_getElem? (i := 111) (by decide +kernel), List.mem_of_getElem? (i := 558) (by decide +kernel), List.mem_of_getElem? (i := 559) (by decide +kernel)⟩
theorem lw_p30 : lw_okq (⟨"PenThatJumps$Parser", "readBody", "()I"⟩, 9) := ⟨⟨by decide +kernel, by decide +kernel⟩, List.mem_of_getElem? (i := 78) (by decide +kernel), List.mem_of_getElem? (i := 567) (by decide +kernel), List.mem_of_getElem? (i := 568) (by decide +kernel)⟩
theorem lw_p31 : lw_okq (⟨"PenThatJumps$Parser", "takeBodyHead", "()I"⟩, 9) := ⟨⟨by decide +kernel, by decide +kernel⟩, List.mem_of_getElem? (i := 78) (by decide +kernel), List.mem_of_getElem? (i := 571) (by decide +kernel), List.mem_of_getElem? (i := 572) (by decide +kernel)⟩
def lw_privs_2 : List (MethodName × Nat) := [(⟨"PenThatJumps$Parser", "takeQuestion", "()V"⟩, 9), (⟨"PenThatJumps$Parser", "wrong", "(I)V"⟩, 9), (⟨"PenThatJumps$Parser", "takeWord", "(LPenThatJumps$Word;)V"⟩, 9), (⟨"PenThatJumps$Parser", "takeKind", "()I"⟩, 9), (⟨"PenThatJumps$Parser", "takeNumber", "(II)I"⟩, 9), (⟨"PenThatJumps$Parser", "isNumber", "()Z"⟩, 9), (⟨"PenThatJumps$Parser", "takeSign", "(C)V"⟩, 9), (⟨"PenThatJumps$Parser", "isSign", "(C)Z"⟩, 9), (⟨"PenThatJumps$Plan", "add", "(III)V"⟩, 4), (⟨"PenThatJumps$Parser", "goesOn", "()Z"⟩, 9), (⟨"PenThatJumps$Plan", "become", "(LPenThatJumps$Plan;)V"⟩, 4), (⟨"PenThatJumps$Plan", "kindAt", "(I)I"⟩, 4), (⟨"PenThatJumps$Plan", "itemAt", "(I)I"⟩, 4), (⟨"PenThatJumps$Plan", "minutesAt", "(I)I"⟩, 4), (⟨"PenThatJumps$Parser", "readBody", "()I"⟩, 9), (⟨"PenThatJumps$Parser", "takeBodyHead", "()I"⟩, 9)]
theorem lw_r2 : ∀ q ∈ lw_privs_2, lw_okq q := List.forall_mem_cons.mpr ⟨lw_p16, List.forall_mem_cons.mpr ⟨lw_p17, List.forall_mem_cons.mpr ⟨lw_p18, List.forall_mem_cons.mpr ⟨lw_p19, List.forall_mem_cons.mpr ⟨lw_p20, List.forall_mem_cons.mpr ⟨lw_p21, List.forall_mem_cons.mpr ⟨lw_p22, List.forall_mem_cons.mpr ⟨lw_p23, List.forall_mem_cons.mpr ⟨lw_p24, List.forall_mem_cons.mpr ⟨lw_p25, List.forall_mem_cons.mpr ⟨lw_p26, List.forall_mem_cons.mpr ⟨lw_p27, List.forall_mem_cons.mpr ⟨lw_p28, List.forall_mem_cons.mpr ⟨lw_p29, List.forall_mem_cons.mpr ⟨lw_p30, List.forall_mem_cons.mpr ⟨lw_p31, fun _ h => absurd h List.not_mem_nil⟩⟩⟩⟩⟩⟩⟩⟩⟩⟩⟩⟩⟩⟩⟩⟩
theorem lw_p32 : lw_okq (⟨"PenThatJumps$Program", "hasLine", "(I)Z"⟩, 6) := ⟨⟨by decide +kernel, by decide +kernel⟩, List.mem_of_getElem? (i := 136) (by decide +kernel), List.mem_of_getElem? (i := 577) (by decide +kernel), List.mem_of_getElem? (i := 578) (by decide +kernel)⟩
theorem lw_p33 : lw_okq (⟨"PenThatJumps$Parser", "takeLaw", "(I)V"⟩, 9) := ⟨⟨by decide +kernel, by decide +kernel⟩, List.mem_of_getElem? (i := 78) (by decide +kernel), List.mem_of_getElem? (i := 581) (by decide +kernel), List.mem_of_getElem? (i := 582) (by decide +kernel)⟩
theorem lw_p34 : lw_okq (⟨"PenThatJumps$Program", "open", "(I)V"⟩, 6) := ⟨⟨by decide +kernel, by decide +kernel⟩, List.mem_of_getElem? (i := 136) (by decide +kernel), List.mem_of_getElem? (i := 585) (by decide +kernel), List.mem_of_getElem? (i := 586) (by decide +kernel)⟩
theorem lw_p35 : lw_okq (⟨"PenThatJumps$Parser", "chain", "(II)V"⟩, 9) := ⟨⟨by decide +kernel, by decide +kernel⟩, List.mem_of_getElem? (i := 78) (by decide +kernel), List.mem_of_getElem? (i := 589) (by decide +kernel), List.mem_of_getElem? (i := 590) (by decide +kernel)⟩
theorem lw_p36 : lw_okq (⟨"PenThatJumps$Parser", "takePart", "(I)V"⟩, 9) := ⟨⟨by decide +kernel, by decide +kernel⟩, List.mem_of_getElem? (i := 78) (by decide +kernel), List.mem_of_getElem? (i := 593) (by decide +kernel), List.mem_of_getElem? (i := 594) (by decide +kernel)⟩
theorem lw_p37 : lw_okq (⟨"PenThatJumps$Program", "add", "(I)V"⟩, 6) := ⟨⟨by decide +kernel, by decide +kernel⟩, List.mem_of_getElem? (i := 136) (by decide +kernel), List.mem_of_getElem? (i := 599) (by decide +kernel), List.mem_of_getElem? (i := 600) (by decide +kernel)⟩
theorem lw_p38 : lw_okq (⟨"PenThatJumps$Parser", "takeLineOfFact", "(I)V"⟩, 9) := ⟨⟨by decide +kernel, by decide +kernel⟩, List.mem_of_getElem? (i := 78) (by decide +kernel), List.mem_of_getElem? (i := 603) (by decide +kernel), List.mem_of_getElem? (i := 604) (by decide +kernel)⟩
theorem lw_p39 : lw_okq (⟨"PenThatJumps$Parser", "jointAt", "(I)I"⟩, 9) := ⟨⟨by decide +kernel, by decide +kernel⟩, List.mem_of_getElem? (i := 78) (by decide +kernel), List.mem_of_getElem? (i := 607) (by decide +kernel), List.mem_of_getElem? (i := 608) (by decide +kernel)⟩
theorem lw_p40 : lw_okq (⟨"PenThatJumps$Program", "close", "(I)V"⟩, 6) := ⟨⟨by decide +kernel, by decide +kernel⟩, List.mem_of_getElem? (i := 136) (by decide +kernel), List.mem_of_getElem? (i := 615) (by decide +kernel), List.mem_of_getElem? (i := 616) (by decide +kernel)⟩
theorem lw_p41 : lw_okq (⟨"PenThatJumps$Program", "become", "(LPenThatJumps$Program;)V"⟩, 6) := ⟨⟨by decide +kernel, by decide +kernel⟩, List.mem_of_getElem? (i := 136) (by decide +kernel), List.mem_of_getElem? (i := 619) (by decide +kernel), List.mem_of_getElem? (i := 620) (by decide +kernel)⟩
theorem lw_p42 : lw_okq (⟨"PenThatJumps$Parser", "readReader", "()I"⟩, 9) := ⟨⟨by decide +kernel, by decide +kernel⟩, List.mem_of_getElem? (i := 78) (by decide +kernel), List.mem_of_getElem? (i := 643) (by decide +kernel), List.mem_of_getElem? (i := 644) (by decide +kernel)⟩
theorem lw_p43 : lw_okq (⟨"PenThatJumps$Parser", "takeReaderHead", "()I"⟩, 9) := ⟨⟨by decide +kernel, by decide +kernel⟩, List.mem_of_getElem? (i := 78) (by decide +kernel), List.mem_of_getElem? (i := 647) (by decide +kernel), List.mem_of_getElem? (i := 648) (by decide +kernel)⟩
theorem lw_p44 : lw_okq (⟨"PenThatJumps", "toldPlan", "(I)LPenThatJumps$Plan;"⟩, 16) := ⟨⟨by decide +kernel, by decide +kernel⟩, List.mem_of_getElem? (i := 27) (by decide +kernel), List.mem_of_getElem? (i := 659) (by decide +kernel), List.mem_of_getElem? (i := 660) (by decide +kernel)⟩
theorem lw_p45 : lw_okq (⟨"PenThatJumps", "toldPerson", "(I)LPenThatJumps$Person;"⟩, 16) := ⟨⟨by decide +kernel, by decide +kernel⟩, List.mem_of_getElem? (i := 27) (by decide +kernel), List.mem_of_getElem? (i := 670) (by decide +kernel), List.mem_of_getElem? (i := 671) (by decide +kernel)⟩
theorem lw_p46 : lw_okq (⟨"PenThatJumps$Chair", "fill", "(LPenThatJumps$Person;LPenThatJumps$Plan;[I)V"⟩, 4) := ⟨⟨by decide +kernel, by decide +kernel⟩, List.mem_of_getElem? (i := 197) (by decide +kernel), List.mem_of_getElem? (i := 674) (by decide +kernel), List.mem_of_getElem? (i := 675) (by decide +kernel)⟩
theorem lw_p47 : lw_okq (⟨"PenThatJumps$Plan", "ahead", "(I)I"⟩, 4) := ⟨⟨by decide +kernel, by decide +kernel⟩, List.mem_of_getElem? (i := 111) (by decide +kernel), List.mem_of_getElem? (i := 678) (by decide +kernel), List.mem_of_getElem? (i := 679) (by decide +kernel)⟩
def lw_privs_3 : List (MethodName × Nat) := [(⟨"PenThatJumps$Program", "hasLine", "(I)Z"⟩, 6), (⟨"PenThatJumps$Parser", "takeLaw", "(I)V"⟩, 9), (⟨"PenThatJumps$Program", "open", "(I)V"⟩, 6), (⟨"PenThatJumps$Parser", "chain", "(II)V"⟩, 9), (⟨"PenThatJumps$Parser", "takePart", "(I)V"⟩, 9), (⟨"PenThatJumps$Program", "add", "(I)V"⟩, 6), (⟨"PenThatJumps$Parser", "takeLineOfFact", "(I)V"⟩, 9), (⟨"PenThatJumps$Parser", "jointAt", "(I)I"⟩, 9), (⟨"PenThatJumps$Program", "close", "(I)V"⟩, 6), (⟨"PenThatJumps$Program", "become", "(LPenThatJumps$Program;)V"⟩, 6), (⟨"PenThatJumps$Parser", "readReader", "()I"⟩, 9), (⟨"PenThatJumps$Parser", "takeReaderHead", "()I"⟩, 9), (⟨"PenThatJumps", "toldPlan", "(I)LPenThatJumps$Plan;"⟩, 16), (⟨"PenThatJumps", "toldPerson", "(I)LPenThatJumps$Person;"⟩, 16), (⟨"PenThatJumps$Chair", "fill", "(LPenThatJumps$Person;LPenThatJumps$Plan;[I)V"⟩, 4), (⟨"PenThatJumps$Plan", "ahead", "(I)I"⟩, 4)]
theorem lw_r3 : ∀ q ∈ lw_privs_3, lw_okq q := List.forall_mem_cons.mpr ⟨lw_p32, List.forall_mem_cons.mpr ⟨lw_p33, List.forall_mem_cons.mpr ⟨lw_p34, List.forall_mem_cons.mpr ⟨lw_p35, List.forall_mem_cons.mpr ⟨lw_p36, List.forall_mem_cons.mpr ⟨lw_p37, List.forall_mem_cons.mpr ⟨lw_p38, List.forall_mem_cons.mpr ⟨lw_p39, List.forall_mem_cons.mpr ⟨lw_p40, List.forall_mem_cons.mpr ⟨lw_p41, List.forall_mem_cons.mpr ⟨lw_p42, List.forall_mem_cons.mpr ⟨lw_p43, List.forall_mem_cons.mpr ⟨lw_p44, List.forall_mem_cons.mpr ⟨lw_p45, List.forall_mem_cons.mpr ⟨lw_p46, List.forall_mem_cons.mpr ⟨lw_p47, fun _ h => absurd h List.not_mem_nil⟩⟩⟩⟩⟩⟩⟩⟩⟩⟩⟩⟩⟩⟩⟩⟩
theorem lw_p48 : lw_okq (⟨"PenThatJumps$Chair", "pose", "(LPenThatJumps$Person;LPenThatJumps$Plan;III)V"⟩, 4) := ⟨⟨by decide +kernel, by decide +kernel⟩, List.mem_of_getElem? (i := 197) (by decide +kernel), List.mem_of_getElem? (i := 682) (by decide +kernel), List.mem_of_getElem? (i := 683) (by decide +kernel)⟩
theorem lw_p49 : lw_okq (⟨"PenThatJumps$Chair", "jumpOf", "(II)I"⟩, 4) := ⟨⟨by decide +kernel, by decide +kernel⟩, List.mem_of_getElem? (i := 197) (by decide +kernel), List.mem_of_getElem? (i := 688) (by decide +kernel), List.mem_of_getElem? (i := 689) (by decide +kernel)⟩
theorem lw_p50 : lw_okq (⟨"PenThatJumps$Program", "run", "(I[I)I"⟩, 6) := ⟨⟨by decide +kernel, by decide +kernel⟩, List.mem_of_getElem? (i := 136) (by decide +kernel), List.mem_of_getElem? (i := 692) (by decide +kernel), List.mem_of_getElem? (i := 693) (by decide +kernel)⟩
theorem lw_p51 : lw_okq (⟨"PenThatJumps$Program", "take", "(II[I)I"⟩, 6) := ⟨⟨by decide +kernel, by decide +kernel⟩, List.mem_of_getElem? (i := 136) (by decide +kernel), List.mem_of_getElem? (i := 697) (by decide +kernel), List.mem_of_getElem? (i := 698) (by decide +kernel)⟩
theorem lw_p52 : lw_okq (⟨"PenThatJumps$Sitting", "begin", "(LPenThatJumps$Plan;I)V"⟩, 3) := ⟨⟨by decide +kernel, by decide +kernel⟩, List.mem_of_getElem? (i := 254) (by decide +kernel), List.mem_of_getElem? (i := 704) (by decide +kernel), List.mem_of_getElem? (i := 705) (by decide +kernel)⟩
theorem lw_p53 : lw_okq (⟨"PenThatJumps$Sitting", "draw", "(I[I)V"⟩, 3) := ⟨⟨by decide +kernel, by decide +kernel⟩, List.mem_of_getElem? (i := 254) (by decide +kernel), List.mem_of_getElem? (i := 709) (by decide +kernel), List.mem_of_getElem? (i := 710) (by decide +kernel)⟩
theorem lw_p54 : lw_okq (⟨"PenThatJumps", "keptSitting", "(I)LPenThatJumps$Sitting;"⟩, 16) := ⟨⟨by decide +kernel, by decide +kernel⟩, List.mem_of_getElem? (i := 27) (by decide +kernel), List.mem_of_getElem? (i := 722) (by decide +kernel), List.mem_of_getElem? (i := 723) (by decide +kernel)⟩
theorem lw_p55 : lw_okq (⟨"PenThatJumps", "readerOf", "(I)LPenThatJumps$Program;"⟩, 16) := ⟨⟨by decide +kernel, by decide +kernel⟩, List.mem_of_getElem? (i := 27) (by decide +kernel), List.mem_of_getElem? (i := 726) (by decide +kernel), List.mem_of_getElem? (i := 727) (by decide +kernel)⟩
theorem lw_p56 : lw_okq (⟨"PenThatJumps$Judge", "study", "(LPenThatJumps$Sitting;)V"⟩, 1) := ⟨⟨by decide +kernel, by decide +kernel⟩, List.mem_of_getElem? (i := 220) (by decide +kernel), List.mem_of_getElem? (i := 730) (by decide +kernel), List.mem_of_getElem? (i := 731) (by decide +kernel)⟩
theorem lw_p57 : lw_okq (⟨"PenThatJumps$Judge", "note", "(LPenThatJumps$Sitting;II)V"⟩, 1) := ⟨⟨by decide +kernel, by decide +kernel⟩, List.mem_of_getElem? (i := 220) (by decide +kernel), List.mem_of_getElem? (i := 735) (by decide +kernel), List.mem_of_getElem? (i := 736) (by decide +kernel)⟩
theorem lw_p58 : lw_okq (⟨"PenThatJumps$Sitting", "jumpAt", "(II)I"⟩, 3) := ⟨⟨by decide +kernel, by decide +kernel⟩, List.mem_of_getElem? (i := 254) (by decide +kernel), List.mem_of_getElem? (i := 739) (by decide +kernel), List.mem_of_getElem? (i := 740) (by decide +kernel)⟩
theorem lw_p59 : lw_okq (⟨"PenThatJumps$Judge", "finds", "(LPenThatJumps$Program;I)Z"⟩, 1) := ⟨⟨by decide +kernel, by decide +kernel⟩, List.mem_of_getElem? (i := 220) (by decide +kernel), List.mem_of_getElem? (i := 748) (by decide +kernel), List.mem_of_getElem? (i := 749) (by decide +kernel)⟩
theorem lw_p60 : lw_okq (⟨"PenThatJumps$Sitting", "standsOut", "(I)Z"⟩, 3) := ⟨⟨by decide +kernel, by decide +kernel⟩, List.mem_of_getElem? (i := 254) (by decide +kernel), List.mem_of_getElem? (i := 761) (by decide +kernel), List.mem_of_getElem? (i := 762) (by decide +kernel)⟩
theorem lw_p61 : lw_okq (⟨"PenThatJumps", "rated", "(IIII)Z"⟩, 16) := ⟨⟨by decide +kernel, by decide +kernel⟩, List.mem_of_getElem? (i := 27) (by decide +kernel), List.mem_of_getElem? (i := 772) (by decide +kernel), List.mem_of_getElem? (i := 773) (by decide +kernel)⟩
theorem lw_p62 : lw_okq (⟨"PenThatJumps", "addRates", "(LPenThatJumps$Program;III)V"⟩, 16) := ⟨⟨by decide +kernel, by decide +kernel⟩, List.mem_of_getElem? (i := 27) (by decide +kernel), List.mem_of_getElem? (i := 777) (by decide +kernel), List.mem_of_getElem? (i := 778) (by decide +kernel)⟩
theorem lw_p63 : lw_okq (⟨"PenThatJumps", "tried", "(LPenThatJumps$Program;II[I)Z"⟩, 16) := ⟨⟨by decide +kernel, by decide +kernel⟩, List.mem_of_getElem? (i := 27) (by decide +kernel), List.mem_of_getElem? (i := 781) (by decide +kernel), List.mem_of_getElem? (i := 782) (by decide +kernel)⟩
def lw_privs_4 : List (MethodName × Nat) := [(⟨"PenThatJumps$Chair", "pose", "(LPenThatJumps$Person;LPenThatJumps$Plan;III)V"⟩, 4), (⟨"PenThatJumps$Chair", "jumpOf", "(II)I"⟩, 4), (⟨"PenThatJumps$Program", "run", "(I[I)I"⟩, 6), (⟨"PenThatJumps$Program", "take", "(II[I)I"⟩, 6), (⟨"PenThatJumps$Sitting", "begin", "(LPenThatJumps$Plan;I)V"⟩, 3), (⟨"PenThatJumps$Sitting", "draw", "(I[I)V"⟩, 3), (⟨"PenThatJumps", "keptSitting", "(I)LPenThatJumps$Sitting;"⟩, 16), (⟨"PenThatJumps", "readerOf", "(I)LPenThatJumps$Program;"⟩, 16), (⟨"PenThatJumps$Judge", "study", "(LPenThatJumps$Sitting;)V"⟩, 1), (⟨"PenThatJumps$Judge", "note", "(LPenThatJumps$Sitting;II)V"⟩, 1), (⟨"PenThatJumps$Sitting", "jumpAt", "(II)I"⟩, 3), (⟨"PenThatJumps$Judge", "finds", "(LPenThatJumps$Program;I)Z"⟩, 1), (⟨"PenThatJumps$Sitting", "standsOut", "(I)Z"⟩, 3), (⟨"PenThatJumps", "rated", "(IIII)Z"⟩, 16), (⟨"PenThatJumps", "addRates", "(LPenThatJumps$Program;III)V"⟩, 16), (⟨"PenThatJumps", "tried", "(LPenThatJumps$Program;II[I)Z"⟩, 16)]
theorem lw_r4 : ∀ q ∈ lw_privs_4, lw_okq q := List.forall_mem_cons.mpr ⟨lw_p48, List.forall_mem_cons.mpr ⟨lw_p49, List.forall_mem_cons.mpr ⟨lw_p50, List.forall_mem_cons.mpr ⟨lw_p51, List.forall_mem_cons.mpr ⟨lw_p52, List.forall_mem_cons.mpr ⟨lw_p53, List.forall_mem_cons.mpr ⟨lw_p54, List.forall_mem_cons.mpr ⟨lw_p55, List.forall_mem_cons.mpr ⟨lw_p56, List.forall_mem_cons.mpr ⟨lw_p57, List.forall_mem_cons.mpr ⟨lw_p58, List.forall_mem_cons.mpr ⟨lw_p59, List.forall_mem_cons.mpr ⟨lw_p60, List.forall_mem_cons.mpr ⟨lw_p61, List.forall_mem_cons.mpr ⟨lw_p62, List.forall_mem_cons.mpr ⟨lw_p63, fun _ h => absurd h List.not_mem_nil⟩⟩⟩⟩⟩⟩⟩⟩⟩⟩⟩⟩⟩⟩⟩⟩
theorem lw_p64 : lw_okq (⟨"PenThatJumps", "seatDoer", "(LPenThatJumps$Plan;I)V"⟩, 16) := ⟨⟨by decide +kernel, by decide +kernel⟩, List.mem_of_getElem? (i := 27) (by decide +kernel), List.mem_of_getElem? (i := 793) (by decide +kernel), List.mem_of_getElem? (i := 794) (by decide +kernel)⟩
theorem lw_p65 : lw_okq (⟨"PenThatJumps", "unlikeDoer", "(LPenThatJumps$Plan;I)I"⟩, 16) := ⟨⟨by decide +kernel, by decide +kernel⟩, List.mem_of_getElem? (i := 27) (by decide +kernel), List.mem_of_getElem? (i := 797) (by decide +kernel), List.mem_of_getElem? (i := 798) (by decide +kernel)⟩
theorem lw_p66 : lw_okq (⟨"PenThatJumps$Planner", "weigh", "(LPenThatJumps$Chair;LPenThatJumps$Plan;LPenThatJumps$Person;LPenThatJumps$Person;)V"⟩, 5) := ⟨⟨by decide +kernel, by decide +kernel⟩, List.mem_of_getElem? (i := 230) (by decide +kernel), List.mem_of_getElem? (i := 809) (by decide +kernel), List.mem_of_getElem? (i := 810) (by decide +kernel)⟩
theorem lw_p67 : lw_okq (⟨"PenThatJumps$Chair", "spread", "(LPenThatJumps$Person;LPenThatJumps$Person;LPenThatJumps$Plan;III)I"⟩, 4) := ⟨⟨by decide +kernel, by decide +kernel⟩, List.mem_of_getElem? (i := 197) (by decide +kernel), List.mem_of_getElem? (i := 817) (by decide +kernel), List.mem_of_getElem? (i := 818) (by decide +kernel)⟩
theorem lw_p68 : lw_okq (⟨"PenThatJumps$Planner", "choose", "(LPenThatJumps$Plan;I)V"⟩, 5) := ⟨⟨by decide +kernel, by decide +kernel⟩, List.mem_of_getElem? (i := 230) (by decide +kernel), List.mem_of_getElem? (i := 824) (by decide +kernel), List.mem_of_getElem? (i := 825) (by decide +kernel)⟩
theorem lw_p69 : lw_okq (⟨"PenThatJumps$Planner", "powerOf", "(LPenThatJumps$Plan;I)I"⟩, 5) := ⟨⟨by decide +kernel, by decide +kernel⟩, List.mem_of_getElem? (i := 230) (by decide +kernel), List.mem_of_getElem? (i := 832) (by decide +kernel), List.mem_of_getElem? (i := 833) (by decide +kernel)⟩
theorem lw_p70 : lw_okq (⟨"PenThatJumps$Tally", "addConfessions", "(ZZZI)V"⟩, 7) := ⟨⟨by decide +kernel, by decide +kernel⟩, List.mem_of_getElem? (i := 43) (by decide +kernel), List.mem_of_getElem? (i := 868) (by decide +kernel), List.mem_of_getElem? (i := 869) (by decide +kernel)⟩
theorem lw_p71 : lw_okq (⟨"PenThatJumps$Tally", "addPaper", "(ZII)V"⟩, 7) := ⟨⟨by decide +kernel, by decide +kernel⟩, List.mem_of_getElem? (i := 43) (by decide +kernel), List.mem_of_getElem? (i := 879) (by decide +kernel), List.mem_of_getElem? (i := 880) (by decide +kernel)⟩
theorem lw_p72 : lw_okq (⟨"PenThatJumps$Tally", "become", "(LPenThatJumps$Tally;)V"⟩, 7) := ⟨⟨by decide +kernel, by decide +kernel⟩, List.mem_of_getElem? (i := 43) (by decide +kernel), List.mem_of_getElem? (i := 887) (by decide +kernel), List.mem_of_getElem? (i := 888) (by decide +kernel)⟩
theorem lw_p73 : lw_okq (⟨"PenThatJumps", "countPersons", "(Z)I"⟩, 16) := ⟨⟨by decide +kernel, by decide +kernel⟩, List.mem_of_getElem? (i := 27) (by decide +kernel), List.mem_of_getElem? (i := 895) (by decide +kernel), List.mem_of_getElem? (i := 896) (by decide +kernel)⟩
theorem lw_p74 : lw_okq (⟨"PenThatJumps", "countPlans", "()I"⟩, 16) := ⟨⟨by decide +kernel, by decide +kernel⟩, List.mem_of_getElem? (i := 27) (by decide +kernel), List.mem_of_getElem? (i := 899) (by decide +kernel), List.mem_of_getElem? (i := 900) (by decide +kernel)⟩
theorem lw_p75 : lw_okq (⟨"PenThatJumps$Tally", "allConfessions", "()I"⟩, 7) := ⟨⟨by decide +kernel, by decide +kernel⟩, List.mem_of_getElem? (i := 43) (by decide +kernel), List.mem_of_getElem? (i := 903) (by decide +kernel), List.mem_of_getElem? (i := 904) (by decide +kernel)⟩
theorem lw_p76 : lw_okq (⟨"java/lang/Throwable", "fillInStackTrace", "(I)Ljava/lang/Throwable;"⟩, 6) := ⟨⟨by decide +kernel, by decide +kernel⟩, List.mem_of_getElem? (i := 951) (by decide +kernel), List.mem_of_getElem? (i := 949) (by decide +kernel), List.mem_of_getElem? (i := 950) (by decide +kernel)⟩
theorem lw_p77 : lw_okq (⟨"PenThatJumps$Tally", "confessed", "(IZZ)I"⟩, 7) := ⟨⟨by decide +kernel, by decide +kernel⟩, List.mem_of_getElem? (i := 43) (by decide +kernel), List.mem_of_getElem? (i := 990) (by decide +kernel), List.mem_of_getElem? (i := 991) (by decide +kernel)⟩
theorem lw_p78 : lw_okq (⟨"PenThatJumps$Tally", "confessionsAt", "(ZZZ)I"⟩, 7) := ⟨⟨by decide +kernel, by decide +kernel⟩, List.mem_of_getElem? (i := 43) (by decide +kernel), List.mem_of_getElem? (i := 994) (by decide +kernel), List.mem_of_getElem? (i := 995) (by decide +kernel)⟩
theorem lw_p79 : lw_okq (⟨"PenThatJumpsModel", "lay", "(J)V"⟩, 43) := ⟨⟨by decide +kernel, by decide +kernel⟩, List.mem_of_getElem? (i := 1017) (by decide +kernel), List.mem_of_getElem? (i := 1015) (by decide +kernel), List.mem_of_getElem? (i := 1016) (by decide +kernel)⟩
def lw_privs_5 : List (MethodName × Nat) := [(⟨"PenThatJumps", "seatDoer", "(LPenThatJumps$Plan;I)V"⟩, 16), (⟨"PenThatJumps", "unlikeDoer", "(LPenThatJumps$Plan;I)I"⟩, 16), (⟨"PenThatJumps$Planner", "weigh", "(LPenThatJumps$Chair;LPenThatJumps$Plan;LPenThatJumps$Person;LPenThatJumps$Person;)V"⟩, 5), (⟨"PenThatJumps$Chair", "spread", "(LPenThatJumps$Person;LPenThatJumps$Person;LPenThatJumps$Plan;III)I"⟩, 4), (⟨"PenThatJumps$Planner", "choose", "(LPenThatJumps$Plan;I)V"⟩, 5), (⟨"PenThatJumps$Planner", "powerOf", "(LPenThatJumps$Plan;I)I"⟩, 5), (⟨"PenThatJumps$Tally", "addConfessions", "(ZZZI)V"⟩, 7), (⟨"PenThatJumps$Tally", "addPaper", "(ZII)V"⟩, 7), (⟨"PenThatJumps$Tally", "become", "(LPenThatJumps$Tally;)V"⟩, 7), (⟨"PenThatJumps", "countPersons", "(Z)I"⟩, 16), (⟨"PenThatJumps", "countPlans", "()I"⟩, 16), (⟨"PenThatJumps$Tally", "allConfessions", "()I"⟩, 7), (⟨"java/lang/Throwable", "fillInStackTrace", "(I)Ljava/lang/Throwable;"⟩, 6), (⟨"PenThatJumps$Tally", "confessed", "(IZZ)I"⟩, 7), (⟨"PenThatJumps$Tally", "confessionsAt", "(ZZZ)I"⟩, 7), (⟨"PenThatJumpsModel", "lay", "(J)V"⟩, 43)]
theorem lw_r5 : ∀ q ∈ lw_privs_5, lw_okq q := List.forall_mem_cons.mpr ⟨lw_p64, List.forall_mem_cons.mpr ⟨lw_p65, List.forall_mem_cons.mpr ⟨lw_p66, List.forall_mem_cons.mpr ⟨lw_p67, List.forall_mem_cons.mpr ⟨lw_p68, List.forall_mem_cons.mpr ⟨lw_p69, List.forall_mem_cons.mpr ⟨lw_p70, List.forall_mem_cons.mpr ⟨lw_p71, List.forall_mem_cons.mpr ⟨lw_p72, List.forall_mem_cons.mpr ⟨lw_p73, List.forall_mem_cons.mpr ⟨lw_p74, List.forall_mem_cons.mpr ⟨lw_p75, List.forall_mem_cons.mpr ⟨lw_p76, List.forall_mem_cons.mpr ⟨lw_p77, List.forall_mem_cons.mpr ⟨lw_p78, List.forall_mem_cons.mpr ⟨lw_p79, fun _ h => absurd h List.not_mem_nil⟩⟩⟩⟩⟩⟩⟩⟩⟩⟩⟩⟩⟩⟩⟩⟩
theorem lw_p80 : lw_okq (⟨"PenThatJumpsModel", "cutAll", "()V"⟩, 43) := ⟨⟨by decide +kernel, by decide +kernel⟩, List.mem_of_getElem? (i := 1017) (by decide +kernel), List.mem_of_getElem? (i := 1195) (by decide +kernel), List.mem_of_getElem? (i := 1196) (by decide +kernel)⟩
theorem lw_p81 : lw_okq (⟨"PenThatJumpsModel", "readAsk", "()V"⟩, 43) := ⟨⟨by decide +kernel, by decide +kernel⟩, List.mem_of_getElem? (i := 1017) (by decide +kernel), List.mem_of_getElem? (i := 1214) (by decide +kernel), List.mem_of_getElem? (i := 1215) (by decide +kernel)⟩
theorem lw_p82 : lw_okq (⟨"PenThatJumpsModel", "isWord", "(I)Z"⟩, 43) := ⟨⟨by decide +kernel, by decide +kernel⟩, List.mem_of_getElem? (i := 1017) (by decide +kernel), List.mem_of_getElem? (i := 1218) (by decide +kernel), List.mem_of_getElem? (i := 1219) (by decide +kernel)⟩
theorem lw_p83 : lw_okq (⟨"PenThatJumpsModel", "wrong", "(I)V"⟩, 43) := ⟨⟨by decide +kernel, by decide +kernel⟩, List.mem_of_getElem? (i := 1017) (by decide +kernel), List.mem_of_getElem? (i := 1222) (by decide +kernel), List.mem_of_getElem? (i := 1223) (by decide +kernel)⟩
theorem lw_p84 : lw_okq (⟨"PenThatJumpsModel", "takeNumber", "(II)I"⟩, 43) := ⟨⟨by decide +kernel, by decide +kernel⟩, List.mem_of_getElem? (i := 1017) (by decide +kernel), List.mem_of_getElem? (i := 1226) (by decide +kernel), List.mem_of_getElem? (i := 1227) (by decide +kernel)⟩
theorem lw_p85 : lw_okq (⟨"PenThatJumpsModel", "hasWord", "(I)Z"⟩, 43) := ⟨⟨by decide +kernel, by decide +kernel⟩, List.mem_of_getElem? (i := 1017) (by decide +kernel), List.mem_of_getElem? (i := 1230) (by decide +kernel), List.mem_of_getElem? (i := 1231) (by decide +kernel)⟩
theorem lw_p86 : lw_okq (⟨"PenThatJumpsModel", "takeSign", "(I)V"⟩, 43) := ⟨⟨by decide +kernel, by decide +kernel⟩, List.mem_of_getElem? (i := 1017) (by decide +kernel), List.mem_of_getElem? (i := 1234) (by decide +kernel), List.mem_of_getElem? (i := 1235) (by decide +kernel)⟩
theorem lw_p87 : lw_okq (⟨"PenThatJumpsModel", "isSign", "(I)Z"⟩, 43) := ⟨⟨by decide +kernel, by decide +kernel⟩, List.mem_of_getElem? (i := 1017) (by decide +kernel), List.mem_of_getElem? (i := 1238) (by decide +kernel), List.mem_of_getElem? (i := 1239) (by decide +kernel)⟩
theorem lw_p88 : lw_okq (⟨"PenThatJumpsModel", "isPlan", "(I)Z"⟩, 43) := ⟨⟨by decide +kernel, by decide +kernel⟩, List.mem_of_getElem? (i := 1017) (by decide +kernel), List.mem_of_getElem? (i := 1246) (by decide +kernel), List.mem_of_getElem? (i := 1247) (by decide +kernel)⟩
theorem lw_p89 : lw_okq (⟨"PenThatJumpsModel", "takeWord", "(I)V"⟩, 43) := ⟨⟨by decide +kernel, by decide +kernel⟩, List.mem_of_getElem? (i := 1017) (by decide +kernel), List.mem_of_getElem? (i := 1254) (by decide +kernel), List.mem_of_getElem? (i := 1255) (by decide +kernel)⟩
theorem lw_p90 : lw_okq (⟨"PenThatJumpsModel", "readWhole", "()V"⟩, 43) := ⟨⟨by decide +kernel, by decide +kernel⟩, List.mem_of_getElem? (i := 1017) (by decide +kernel), List.mem_of_getElem? (i := 1259) (by decide +kernel), List.mem_of_getElem? (i := 1260) (by decide +kernel)⟩
theorem lw_p91 : lw_okq (⟨"PenThatJumpsModel", "all", "(I)V"⟩, 43) := ⟨⟨by decide +kernel, by decide +kernel⟩, List.mem_of_getElem? (i := 1017) (by decide +kernel), List.mem_of_getElem? (i := 1263) (by decide +kernel), List.mem_of_getElem? (i := 1264) (by decide +kernel)⟩
theorem lw_p92 : lw_okq (⟨"PenThatJumpsModel", "test", "(I)V"⟩, 43) := ⟨⟨by decide +kernel, by decide +kernel⟩, List.mem_of_getElem? (i := 1017) (by decide +kernel), List.mem_of_getElem? (i := 1267) (by decide +kernel), List.mem_of_getElem? (i := 1268) (by decide +kernel)⟩
theorem lw_p93 : lw_okq (⟨"PenThatJumpsModel", "sums", "(I)V"⟩, 43) := ⟨⟨by decide +kernel, by decide +kernel⟩, List.mem_of_getElem? (i := 1017) (by decide +kernel), List.mem_of_getElem? (i := 1271) (by decide +kernel), List.mem_of_getElem? (i := 1272) (by decide +kernel)⟩
theorem lw_p94 : lw_okq (⟨"PenThatJumpsModel", "products", "(I)V"⟩, 43) := ⟨⟨by decide +kernel, by decide +kernel⟩, List.mem_of_getElem? (i := 1017) (by decide +kernel), List.mem_of_getElem? (i := 1275) (by decide +kernel), List.mem_of_getElem? (i := 1276) (by decide +kernel)⟩
theorem lw_p95 : lw_okq (⟨"PenThatJumpsModel", "takePart", "(I)V"⟩, 43) := ⟨⟨by decide +kernel, by decide +kernel⟩, List.mem_of_getElem? (i := 1017) (by decide +kernel), List.mem_of_getElem? (i := 1279) (by decide +kernel), List.mem_of_getElem? (i := 1280) (by decide +kernel)⟩
def lw_privs_6 : List (MethodName × Nat) := [(⟨"PenThatJumpsModel", "cutAll", "()V"⟩, 43), (⟨"PenThatJumpsModel", "readAsk", "()V"⟩, 43), (⟨"PenThatJumpsModel", "isWord", "(I)Z"⟩, 43), (⟨"PenThatJumpsModel", "wrong", "(I)V"⟩, 43), (⟨"PenThatJumpsModel", "takeNumber", "(II)I"⟩, 43), (⟨"PenThatJumpsModel", "hasWord", "(I)Z"⟩, 43), (⟨"PenThatJumpsModel", "takeSign", "(I)V"⟩, 43), (⟨"PenThatJumpsModel", "isSign", "(I)Z"⟩, 43), (⟨"PenThatJumpsModel", "isPlan", "(I)Z"⟩, 43), (⟨"PenThatJumpsModel", "takeWord", "(I)V"⟩, 43), (⟨"PenThatJumpsModel", "readWhole", "()V"⟩, 43), (⟨"PenThatJumpsModel", "all", "(I)V"⟩, 43), (⟨"PenThatJumpsModel", "test", "(I)V"⟩, 43), (⟨"PenThatJumpsModel", "sums", "(I)V"⟩, 43), (⟨"PenThatJumpsModel", "products", "(I)V"⟩, 43), (⟨"PenThatJumpsModel", "takePart", "(I)V"⟩, 43)]
theorem lw_r6 : ∀ q ∈ lw_privs_6, lw_okq q := List.forall_mem_cons.mpr ⟨lw_p80, List.forall_mem_cons.mpr ⟨lw_p81, List.forall_mem_cons.mpr ⟨lw_p82, List.forall_mem_cons.mpr ⟨lw_p83, List.forall_mem_cons.mpr ⟨lw_p84, List.forall_mem_cons.mpr ⟨lw_p85, List.forall_mem_cons.mpr ⟨lw_p86, List.forall_mem_cons.mpr ⟨lw_p87, List.forall_mem_cons.mpr ⟨lw_p88, List.forall_mem_cons.mpr ⟨lw_p89, List.forall_mem_cons.mpr ⟨lw_p90, List.forall_mem_cons.mpr ⟨lw_p91, List.forall_mem_cons.mpr ⟨lw_p92, List.forall_mem_cons.mpr ⟨lw_p93, List.forall_mem_cons.mpr ⟨lw_p94, List.forall_mem_cons.mpr ⟨lw_p95, fun _ h => absurd h List.not_mem_nil⟩⟩⟩⟩⟩⟩⟩⟩⟩⟩⟩⟩⟩⟩⟩⟩
theorem lw_p96 : lw_okq (⟨"PenThatJumpsModel", "factHere", "()I"⟩, 43) := ⟨⟨by decide +kernel, by decide +kernel⟩, List.mem_of_getElem? (i := 1017) (by decide +kernel), List.mem_of_getElem? (i := 1283) (by decide +kernel), List.mem_of_getElem? (i := 1284) (by decide +kernel)⟩
theorem lw_p97 : lw_okq (⟨"PenThatJumpsModel", "emit", "(II)V"⟩, 43) := ⟨⟨by decide +kernel, by decide +kernel⟩, List.mem_of_getElem? (i := 1017) (by decide +kernel), List.mem_of_getElem? (i := 1287) (by decide +kernel), List.mem_of_getElem? (i := 1288) (by decide +kernel)⟩
theorem lw_p98 : lw_okq (⟨"PenThatJumpsModel", "hasSign", "(I)Z"⟩, 43) := ⟨⟨by decide +kernel, by decide +kernel⟩, List.mem_of_getElem? (i := 1017) (by decide +kernel), List.mem_of_getElem? (i := 1291) (by decide +kernel), List.mem_of_getElem? (i := 1292) (by decide +kernel)⟩
theorem lw_p99 : lw_okq (⟨"PenThatJumpsModel", "keepsCodes", "(I)V"⟩, 43) := ⟨⟨by decide +kernel, by decide +kernel⟩, List.mem_of_getElem? (i := 1017) (by decide +kernel), List.mem_of_getElem? (i := 1295) (by decide +kernel), List.mem_of_getElem? (i := 1296) (by decide +kernel)⟩
theorem lw_p100 : lw_okq (⟨"PenThatJumpsModel", "isPerson", "(I)Z"⟩, 43) := ⟨⟨by decide +kernel, by decide +kernel⟩, List.mem_of_getElem? (i := 1017) (by decide +kernel), List.mem_of_getElem? (i := 1307) (by decide +kernel), List.mem_of_getElem? (i := 1308) (by decide +kernel)⟩
theorem lw_p101 : lw_okq (⟨"PenThatJumpsModel", "sits", "(IIIIZ)V"⟩, 43) := ⟨⟨by decide +kernel, by decide +kernel⟩, List.mem_of_getElem? (i := 1017) (by decide +kernel), List.mem_of_getElem? (i := 1311) (by decide +kernel), List.mem_of_getElem? (i := 1312) (by decide +kernel)⟩
theorem lw_p102 : lw_okq (⟨"PenThatJumpsModel", "habitOf", "(II)I"⟩, 43) := ⟨⟨by decide +kernel, by decide +kernel⟩, List.mem_of_getElem? (i := 1017) (by decide +kernel), List.mem_of_getElem? (i := 1315) (by decide +kernel), List.mem_of_getElem? (i := 1316) (by decide +kernel)⟩
theorem lw_p103 : lw_okq (⟨"PenThatJumpsModel", "asksOf", "(IIIIZIZ)V"⟩, 43) := ⟨⟨by decide +kernel, by decide +kernel⟩, List.mem_of_getElem? (i := 1017) (by decide +kernel), List.mem_of_getElem? (i := 1319) (by decide +kernel), List.mem_of_getElem? (i := 1320) (by decide +kernel)⟩
theorem lw_p104 : lw_okq (⟨"PenThatJumpsModel", "jumpOf", "(II)I"⟩, 43) := ⟨⟨by decide +kernel, by decide +kernel⟩, List.mem_of_getElem? (i := 1017) (by decide +kernel), List.mem_of_getElem? (i := 1328) (by decide +kernel), List.mem_of_getElem? (i := 1329) (by decide +kernel)⟩
theorem lw_p105 : lw_okq (⟨"PenThatJumpsModel", "worthOf", "(I)I"⟩, 43) := ⟨⟨by decide +kernel, by decide +kernel⟩, List.mem_of_getElem? (i := 1017) (by decide +kernel), List.mem_of_getElem? (i := 1332) (by decide +kernel), List.mem_of_getElem? (i := 1333) (by decide +kernel)⟩
theorem lw_p106 : lw_okq (⟨"PenThatJumpsModel", "isSitting", "(I)Z"⟩, 43) := ⟨⟨by decide +kernel, by decide +kernel⟩, List.mem_of_getElem? (i := 1017) (by decide +kernel), List.mem_of_getElem? (i := 1343) (by decide +kernel), List.mem_of_getElem? (i := 1344) (by decide +kernel)⟩
theorem lw_p107 : lw_okq (⟨"PenThatJumpsModel", "doesSay", "(III)Z"⟩, 43) := ⟨⟨by decide +kernel, by decide +kernel⟩, List.mem_of_getElem? (i := 1017) (by decide +kernel), List.mem_of_getElem? (i := 1357) (by decide +kernel), List.mem_of_getElem? (i := 1358) (by decide +kernel)⟩
theorem lw_p108 : lw_okq (⟨"PenThatJumpsModel", "findReadings", "(II)V"⟩, 43) := ⟨⟨by decide +kernel, by decide +kernel⟩, List.mem_of_getElem? (i := 1017) (by decide +kernel), List.mem_of_getElem? (i := 1361) (by decide +kernel), List.mem_of_getElem? (i := 1362) (by decide +kernel)⟩
theorem lw_p109 : lw_okq (⟨"PenThatJumpsModel", "areRates", "(IIII)Z"⟩, 43) := ⟨⟨by decide +kernel, by decide +kernel⟩, List.mem_of_getElem? (i := 1017) (by decide +kernel), List.mem_of_getElem? (i := 1377) (by decide +kernel), List.mem_of_getElem? (i := 1378) (by decide +kernel)⟩
theorem lw_p110 : lw_okq (⟨"PenThatJumpsModel", "findRates", "(IIII)V"⟩, 43) := ⟨⟨by decide +kernel, by decide +kernel⟩, List.mem_of_getElem? (i := 1017) (by decide +kernel), List.mem_of_getElem? (i := 1381) (by decide +kernel), List.mem_of_getElem? (i := 1382) (by decide +kernel)⟩
theorem lw_p111 : lw_okq (⟨"PenThatJumpsModel", "apartOf", "(III)I"⟩, 43) := ⟨⟨by decide +kernel, by decide +kernel⟩, List.mem_of_getElem? (i := 1017) (by decide +kernel), List.mem_of_getElem? (i := 1396) (by decide +kernel), List.mem_of_getElem? (i := 1397) (by decide +kernel)⟩
def lw_privs_7 : List (MethodName × Nat) := [(⟨"PenThatJumpsModel", "factHere", "()I"⟩, 43), (⟨"PenThatJumpsModel", "emit", "(II)V"⟩, 43), (⟨"PenThatJumpsModel", "hasSign", "(I)Z"⟩, 43), (⟨"PenThatJumpsModel", "keepsCodes", "(I)V"⟩, 43), (⟨"PenThatJumpsModel", "isPerson", "(I)Z"⟩, 43), (⟨"PenThatJumpsModel", "sits", "(IIIIZ)V"⟩, 43), (⟨"PenThatJumpsModel", "habitOf", "(II)I"⟩, 43), (⟨"PenThatJumpsModel", "asksOf", "(IIIIZIZ)V"⟩, 43), (⟨"PenThatJumpsModel", "jumpOf", "(II)I"⟩, 43), (⟨"PenThatJumpsModel", "worthOf", "(I)I"⟩, 43), (⟨"PenThatJumpsModel", "isSitting", "(I)Z"⟩, 43), (⟨"PenThatJumpsModel", "doesSay", "(III)Z"⟩, 43), (⟨"PenThatJumpsModel", "findReadings", "(II)V"⟩, 43), (⟨"PenThatJumpsModel", "areRates", "(IIII)Z"⟩, 43), (⟨"PenThatJumpsModel", "findRates", "(IIII)V"⟩, 43), (⟨"PenThatJumpsModel", "apartOf", "(III)I"⟩, 43)]
theorem lw_r7 : ∀ q ∈ lw_privs_7, lw_okq q := List.forall_mem_cons.mpr ⟨lw_p96, List.forall_mem_cons.mpr ⟨lw_p97, List.forall_mem_cons.mpr ⟨lw_p98, List.forall_mem_cons.mpr ⟨lw_p99, List.forall_mem_cons.mpr ⟨lw_p100, List.forall_mem_cons.mpr ⟨lw_p101, List.forall_mem_cons.mpr ⟨lw_p102, List.forall_mem_cons.mpr ⟨lw_p103, List.forall_mem_cons.mpr ⟨lw_p104, List.forall_mem_cons.mpr ⟨lw_p105, List.forall_mem_cons.mpr ⟨lw_p106, List.forall_mem_cons.mpr ⟨lw_p107, List.forall_mem_cons.mpr ⟨lw_p108, List.forall_mem_cons.mpr ⟨lw_p109, List.forall_mem_cons.mpr ⟨lw_p110, List.forall_mem_cons.mpr ⟨lw_p111, fun _ h => absurd h List.not_mem_nil⟩⟩⟩⟩⟩⟩⟩⟩⟩⟩⟩⟩⟩⟩⟩⟩
theorem lw_p112 : lw_okq (⟨"PenThatJumpsModel", "minutesOf", "(II)I"⟩, 43) := ⟨⟨by decide +kernel, by decide +kernel⟩, List.mem_of_getElem? (i := 1017) (by decide +kernel), List.mem_of_getElem? (i := 1408) (by decide +kernel), List.mem_of_getElem? (i := 1409) (by decide +kernel)⟩
theorem lw_p113 : lw_okq (⟨"PenThatJumpsModel", "powerOf", "(III)I"⟩, 43) := ⟨⟨by decide +kernel, by decide +kernel⟩, List.mem_of_getElem? (i := 1017) (by decide +kernel), List.mem_of_getElem? (i := 1412) (by decide +kernel), List.mem_of_getElem? (i := 1413) (by decide +kernel)⟩
theorem lw_p114 : lw_okq (⟨"PenThatJumpsModel", "confessedOf", "(III)J"⟩, 43) := ⟨⟨by decide +kernel, by decide +kernel⟩, List.mem_of_getElem? (i := 1017) (by decide +kernel), List.mem_of_getElem? (i := 1450) (by decide +kernel), List.mem_of_getElem? (i := 1451) (by decide +kernel)⟩
def lw_privs_8 : List (MethodName × Nat) := [(⟨"PenThatJumpsModel", "minutesOf", "(II)I"⟩, 43), (⟨"PenThatJumpsModel", "powerOf", "(III)I"⟩, 43), (⟨"PenThatJumpsModel", "confessedOf", "(III)J"⟩, 43)]
theorem lw_r8 : ∀ q ∈ lw_privs_8, lw_okq q := List.forall_mem_cons.mpr ⟨lw_p112, List.forall_mem_cons.mpr ⟨lw_p113, List.forall_mem_cons.mpr ⟨lw_p114, fun _ h => absurd h List.not_mem_nil⟩⟩⟩
def lw_privs : List (MethodName × Nat) := lw_privs_1 ++ (lw_privs_2 ++ (lw_privs_3 ++ (lw_privs_4 ++ (lw_privs_5 ++ (lw_privs_6 ++ (lw_privs_7 ++ (lw_privs_8)))))))
def lw_tbl : List Cond := k2_sels lw_privs ++ tables_1
theorem lw_privs_ok : ∀ q ∈ lw_privs, lw_okq q := by
  show ∀ q ∈ lw_privs_1 ++ (lw_privs_2 ++ (lw_privs_3 ++ (lw_privs_4 ++ (lw_privs_5 ++ (lw_privs_6 ++ (lw_privs_7 ++ (lw_privs_8))))))), lw_okq q
  exact List.forall_mem_append.mpr ⟨lw_r1, List.forall_mem_append.mpr ⟨lw_r2, List.forall_mem_append.mpr ⟨lw_r3, List.forall_mem_append.mpr ⟨lw_r4, List.forall_mem_append.mpr ⟨lw_r5, List.forall_mem_append.mpr ⟨lw_r6, List.forall_mem_append.mpr ⟨lw_r7, lw_r8⟩⟩⟩⟩⟩⟩⟩
-- ===== end of PART A; then your names; then what follows =====
end
section
/-! names, by program out of the names that TURN printed of the class -/
def T_0 : u_T := fun k => match k with
  | 0 => ("PenThatJumps$Chair", "law", "LPenThatJumps$Program;", true)
  | 1 => ("PenThatJumps$Chair", "facts", "[I", true)
  | 2 => ("PenThatJumps$Chair", "lines", "[I", true)
  | _ => ("PenThatJumps$Chair", "trueItem", "I", false)
def ty_0 : Nat → FieldType := fun k => match k with
  | 0 => .object "PenThatJumps$Program"
  | 1 => .array .int
  | 2 => .array .int
  | _ => .int
def T_1 : u_T := fun k => match k with
  | _ => ("PenThatJumps$Judge", "facts", "[I", true)
def ty_1 : Nat → FieldType := fun k => match k with
  | _ => .array .int
def T_2 : u_T := fun k => match k with
  | 0 => ("PenThatJumps$Parser", "tape", "LPenThatJumps$Tape;", true)
  | 1 => ("PenThatJumps$Parser", "plan", "LPenThatJumps$Plan;", true)
  | 2 => ("PenThatJumps$Parser", "program", "LPenThatJumps$Program;", true)
  | 3 => ("PenThatJumps$Parser", "ofReader", "Z", false)
  | 4 => ("PenThatJumps$Parser", "fault", "I", false)
  | 5 => ("PenThatJumps$Parser", "at", "I", false)
  | 6 => ("PenThatJumps$Parser", "code", "I", false)
  | 7 => ("PenThatJumps$Parser", "place", "I", false)
  | _ => ("PenThatJumps$Parser", "word", "LPenThatJumps$Word;", false)
def ty_2 : Nat → FieldType := fun k => match k with
  | 0 => .object "PenThatJumps$Tape"
  | 1 => .object "PenThatJumps$Plan"
  | 2 => .object "PenThatJumps$Program"
  | 3 => .boolean
  | 4 => .int
  | 5 => .int
  | 6 => .int
  | 7 => .int
  | _ => .object "PenThatJumps$Word"
def T_3 : u_T := fun k => match k with
  | 0 => ("PenThatJumps$Person", "told", "Z", false)
  | 1 => ("PenThatJumps$Person", "fear", "I", false)
  | 2 => ("PenThatJumps$Person", "done", "Z", false)
  | 3 => ("PenThatJumps$Person", "heard", "I", false)
  | _ => ("PenThatJumps$Person", "trick", "Z", false)
def ty_3 : Nat → FieldType := fun k => match k with
  | 0 => .boolean
  | 1 => .int
  | 2 => .boolean
  | 3 => .int
  | _ => .boolean
def T_4 : u_T := fun k => match k with
  | 0 => ("PenThatJumps$Plan", "kinds", "[I", true)
  | 1 => ("PenThatJumps$Plan", "known", "[I", true)
  | 2 => ("PenThatJumps$Plan", "spans", "[I", true)
  | _ => ("PenThatJumps$Plan", "size", "I", false)
def ty_4 : Nat → FieldType := fun k => match k with
  | 0 => .array .int
  | 1 => .array .int
  | 2 => .array .int
  | _ => .int
def T_5 : u_T := fun k => match k with
  | 0 => ("PenThatJumps$Planner", "spreads", "[I", true)
  | 1 => ("PenThatJumps$Planner", "chosen", "[I", true)
  | 2 => ("PenThatJumps$Planner", "power", "I", false)
  | 3 => ("PenThatJumps$Planner", "bits", "I", false)
  | _ => ("PenThatJumps$Planner", "minutes", "I", false)
def ty_5 : Nat → FieldType := fun k => match k with
  | 0 => .array .int
  | 1 => .array .int
  | 2 => .int
  | 3 => .int
  | _ => .int
def T_6 : u_T := fun k => match k with
  | 0 => ("PenThatJumps$Program", "steps", "[I", false)
  | 1 => ("PenThatJumps$Program", "size", "I", false)
  | 2 => ("PenThatJumps$Program", "lines", "I", false)
  | 3 => ("PenThatJumps$Program", "starts", "[I", true)
  | 4 => ("PenThatJumps$Program", "ends", "[I", true)
  | _ => ("PenThatJumps$Program", "stack", "[I", true)
def ty_6 : Nat → FieldType := fun k => match k with
  | 0 => .array .int
  | 1 => .int
  | 2 => .int
  | 3 => .array .int
  | 4 => .array .int
  | _ => .array .int
def T_7 : u_T := fun k => match k with
  | 0 => ("PenThatJumps$Sitting", "asked", "LPenThatJumps$Plan;", true)
  | 1 => ("PenThatJumps$Sitting", "jumps", "[I", true)
  | _ => ("PenThatJumps$Sitting", "trueItem", "I", false)
def ty_7 : Nat → FieldType := fun k => match k with
  | 0 => .object "PenThatJumps$Plan"
  | 1 => .array .int
  | _ => .int
def T_8 : u_T := fun k => match k with
  | 0 => ("PenThatJumps$Tally", "laid", "Z", false)
  | 1 => ("PenThatJumps$Tally", "sittings", "I", false)
  | 2 => ("PenThatJumps$Tally", "confessions", "[I", true)
  | 3 => ("PenThatJumps$Tally", "askedBySellers", "I", false)
  | 4 => ("PenThatJumps$Tally", "rightBySellers", "I", false)
  | 5 => ("PenThatJumps$Tally", "askedByOthers", "I", false)
  | _ => ("PenThatJumps$Tally", "rightByOthers", "I", false)
def ty_8 : Nat → FieldType := fun k => match k with
  | 0 => .boolean
  | 1 => .int
  | 2 => .array .int
  | 3 => .int
  | 4 => .int
  | 5 => .int
  | _ => .int
def T_9 : u_T := fun k => match k with
  | 0 => ("PenThatJumps$Tape", "signs", "[C", true)
  | 1 => ("PenThatJumps$Tape", "size", "I", false)
  | 2 => ("PenThatJumps$Tape", "codes", "[I", true)
  | 3 => ("PenThatJumps$Tape", "places", "[I", true)
  | _ => ("PenThatJumps$Tape", "tokens", "I", false)
def ty_9 : Nat → FieldType := fun k => match k with
  | 0 => .array .char
  | 1 => .int
  | 2 => .array .int
  | 3 => .array .int
  | _ => .int
def T_10 : u_T := fun k => match k with
  | 0 => ("PenThatJumps", "persons", "[LPenThatJumps$Person;", true)
  | 1 => ("PenThatJumps", "plans", "[LPenThatJumps$Plan;", true)
  | 2 => ("PenThatJumps", "readers", "[LPenThatJumps$Program;", true)
  | 3 => ("PenThatJumps", "sittings", "[LPenThatJumps$Sitting;", true)
  | 4 => ("PenThatJumps", "now", "LPenThatJumps$Tally;", true)
  | 5 => ("PenThatJumps", "marks", "[LPenThatJumps$Tally;", true)
  | 6 => ("PenThatJumps", "parser", "LPenThatJumps$Parser;", true)
  | 7 => ("PenThatJumps", "chair", "LPenThatJumps$Chair;", true)
  | 8 => ("PenThatJumps", "judge", "LPenThatJumps$Judge;", true)
  | 9 => ("PenThatJumps", "planner", "LPenThatJumps$Planner;", true)
  | 10 => ("PenThatJumps", "trial", "LPenThatJumps$Sitting;", true)
  | 11 => ("PenThatJumps", "doer", "LPenThatJumps$Person;", true)
  | 12 => ("PenThatJumps", "other", "LPenThatJumps$Person;", true)
  | 13 => ("PenThatJumps", "jumpsOfOne", "[I", true)
  | 14 => ("PenThatJumps", "jumpsOfTwo", "[I", true)
  | _ => ("PenThatJumps", "rateRow", "[I", true)
def ty_10 : Nat → FieldType := fun k => match k with
  | 0 => .array (.object "PenThatJumps$Person")
  | 1 => .array (.object "PenThatJumps$Plan")
  | 2 => .array (.object "PenThatJumps$Program")
  | 3 => .array (.object "PenThatJumps$Sitting")
  | 4 => .object "PenThatJumps$Tally"
  | 5 => .array (.object "PenThatJumps$Tally")
  | 6 => .object "PenThatJumps$Parser"
  | 7 => .object "PenThatJumps$Chair"
  | 8 => .object "PenThatJumps$Judge"
  | 9 => .object "PenThatJumps$Planner"
  | 10 => .object "PenThatJumps$Sitting"
  | 11 => .object "PenThatJumps$Person"
  | 12 => .object "PenThatJumps$Person"
  | 13 => .array .int
  | 14 => .array .int
  | _ => .array .int
def T_11 : u_T := fun k => match k with
  | 0 => ("PenThatJumpsModel", "thrown", "I", false)
  | 1 => ("PenThatJumpsModel", "tape", "[I", true)
  | 2 => ("PenThatJumpsModel", "taped", "I", false)
  | 3 => ("PenThatJumpsModel", "size", "I", false)
  | 4 => ("PenThatJumpsModel", "sort", "[I", true)
  | 5 => ("PenThatJumpsModel", "place", "[I", true)
  | 6 => ("PenThatJumpsModel", "value", "[J", true)
  | 7 => ("PenThatJumpsModel", "at", "I", false)
  | 8 => ("PenThatJumpsModel", "fault", "I", false)
  | 9 => ("PenThatJumpsModel", "words", "[J", true)
  | 10 => ("PenThatJumpsModel", "isTold", "[Z", true)
  | 11 => ("PenThatJumpsModel", "fear", "[I", true)
  | 12 => ("PenThatJumpsModel", "isDone", "[Z", true)
  | 13 => ("PenThatJumpsModel", "heard", "[I", true)
  | 14 => ("PenThatJumpsModel", "doesTrick", "[Z", true)
  | 15 => ("PenThatJumpsModel", "trueItem", "I", false)
  | 16 => ("PenThatJumpsModel", "asks", "[I", true)
  | 17 => ("PenThatJumpsModel", "kind", "[I", true)
  | 18 => ("PenThatJumpsModel", "itemOf", "[I", true)
  | 19 => ("PenThatJumpsModel", "minutes", "[I", true)
  | 20 => ("PenThatJumpsModel", "codes", "I", false)
  | 21 => ("PenThatJumpsModel", "isReader", "Z", false)
  | 22 => ("PenThatJumpsModel", "op", "[I", true)
  | 23 => ("PenThatJumpsModel", "one", "[I", true)
  | 24 => ("PenThatJumpsModel", "lineAt", "[I", true)
  | 25 => ("PenThatJumpsModel", "readLineAt", "[I", true)
  | 26 => ("PenThatJumpsModel", "says", "[I", true)
  | 27 => ("PenThatJumpsModel", "saysAt", "[I", true)
  | 28 => ("PenThatJumpsModel", "facts", "[I", true)
  | 29 => ("PenThatJumpsModel", "pile", "[I", true)
  | 30 => ("PenThatJumpsModel", "sittings", "I", false)
  | 31 => ("PenThatJumpsModel", "satAsks", "[I", true)
  | 32 => ("PenThatJumpsModel", "satItem", "[I", true)
  | 33 => ("PenThatJumpsModel", "satKind", "[I", true)
  | 34 => ("PenThatJumpsModel", "satOf", "[I", true)
  | 35 => ("PenThatJumpsModel", "jumps", "[I", true)
  | 36 => ("PenThatJumpsModel", "rate", "[I", true)
  | 37 => ("PenThatJumpsModel", "habits", "[I", true)
  | 38 => ("PenThatJumpsModel", "confessed", "[J", true)
  | 39 => ("PenThatJumpsModel", "papers", "[J", true)
  | 40 => ("PenThatJumpsModel", "isMarked", "[Z", true)
  | 41 => ("PenThatJumpsModel", "markSittings", "[I", true)
  | _ => ("PenThatJumpsModel", "markOf", "[J", true)
def ty_11 : Nat → FieldType := fun k => match k with
  | 0 => .int
  | 1 => .array .int
  | 2 => .int
  | 3 => .int
  | 4 => .array .int
  | 5 => .array .int
  | 6 => .array .long
  | 7 => .int
  | 8 => .int
  | 9 => .array .long
  | 10 => .array .boolean
  | 11 => .array .int
  | 12 => .array .boolean
  | 13 => .array .int
  | 14 => .array .boolean
  | 15 => .int
  | 16 => .array .int
  | 17 => .array .int
  | 18 => .array .int
  | 19 => .array .int
  | 20 => .int
  | 21 => .boolean
  | 22 => .array .int
  | 23 => .array .int
  | 24 => .array .int
  | 25 => .array .int
  | 26 => .array .int
  | 27 => .array .int
  | 28 => .array .int
  | 29 => .array .int
  | 30 => .int
  | 31 => .array .int
  | 32 => .array .int
  | 33 => .array .int
  | 34 => .array .int
  | 35 => .array .int
  | 36 => .array .int
  | 37 => .array .int
  | 38 => .array .long
  | 39 => .array .long
  | 40 => .array .boolean
  | 41 => .array .int
  | _ => .array .long
def T_12 : u_T := fun _ => ("", "", "", false)
def ty_12 : Nat → FieldType := fun _ => .int
def clT : List vw_C := [("PenThatJumps$Chair", T_0, 4), ("PenThatJumps$Judge", T_1, 1), ("PenThatJumps$Parser", T_2, 9), ("PenThatJumps$Person", T_3, 5), ("PenThatJumps$Plan", T_4, 4), ("PenThatJumps$Planner", T_5, 5), ("PenThatJumps$Program", T_6, 6), ("PenThatJumps$Sitting", T_7, 3), ("PenThatJumps$Tally", T_8, 7), ("PenThatJumps$Tape", T_9, 5), ("PenThatJumps", T_10, 16), ("PenThatJumpsModel", T_11, 43), ("java/util/NoSuchElementException", T_12, 0)]
def tyT : List (Nat → FieldType) := [ty_0, ty_1, ty_2, ty_3, ty_4, ty_5, ty_6, ty_7, ty_8, ty_9, ty_10, ty_11, ty_12]
def cnT : List String := ["PenThatJumps$Chair", "PenThatJumps$Judge", "PenThatJumps$Parser", "PenThatJumps$Person", "PenThatJumps$Plan", "PenThatJumps$Planner", "PenThatJumps$Program", "PenThatJumps$Sitting", "PenThatJumps$Tally", "PenThatJumps$Tape", "PenThatJumps", "PenThatJumpsModel", "java/util/NoSuchElementException", "PenThatJumpsLaw", "java/lang/Math", "java/lang/String", "java/lang/StringLatin1", "java/lang/StringUTF16", "java/util/Arrays", "jdk/internal/util/Preconditions"]
/-- links of fields: whose pool, its row, class, field, whether of a nest mate -/
def flT : List (Nat × Nat × Nat × Nat × Nat) := [(10, 310, 8, 0, 1), (8, 13, 8, 1, 0), (10, 173, 8, 1, 1), (8, 7, 8, 2, 0), (8, 17, 8, 3, 0), (10, 293, 8, 3, 1), (8, 20, 8, 4, 0), (10, 301, 8, 4, 1), (8, 23, 8, 5, 0), (10, 296, 8, 5, 1), (8, 26, 8, 6, 0), (10, 304, 8, 6, 1), (9, 9, 9, 0, 0), (9, 20, 9, 1, 0), (10, 121, 9, 1, 1), (9, 13, 9, 2, 0), (2, 93, 9, 2, 1), (9, 17, 9, 3, 0), (2, 97, 9, 3, 1), (9, 24, 9, 4, 0), (2, 90, 9, 4, 1), (4, 9, 4, 0, 0), (4, 15, 4, 1, 0), (4, 18, 4, 2, 0), (4, 21, 4, 3, 0), (0, 27, 4, 3, 1), (1, 27, 4, 3, 1), (5, 18, 4, 3, 1), (7, 30, 4, 3, 1), (2, 75, 4, 3, 1), (10, 194, 4, 3, 1), (6, 19, 6, 0, 0), (6, 22, 6, 1, 0), (6, 26, 6, 2, 0), (1, 56, 6, 2, 1), (2, 148, 6, 2, 1), (10, 323, 6, 2, 1), (6, 9, 6, 3, 0), (6, 13, 6, 4, 0), (6, 16, 6, 5, 0), (2, 12, 2, 0, 0), (10, 111, 2, 0, 1), (2, 21, 2, 1, 0), (10, 131, 2, 1, 1), (2, 30, 2, 2, 0), (10, 146, 2, 2, 1), (2, 71, 2, 3, 0), (2, 57, 2, 4, 0), (2, 81, 2, 5, 0), (2, 87, 2, 6, 0), (2, 100, 2, 7, 0), (2, 40, 2, 8, 0), (0, 14, 0, 0, 0), (10, 142, 0, 0, 1), (0, 20, 0, 1, 0), (0, 24, 0, 2, 0), (10, 107, 0, 3, 1), (0, 56, 0, 3, 0), (1, 11, 1, 0, 0), (5, 9, 5, 0, 0), (5, 15, 5, 1, 0), (5, 38, 5, 2, 0), (10, 254, 5, 2, 1), (5, 41, 5, 3, 0), (10, 257, 5, 3, 1), (5, 44, 5, 4, 0), (10, 260, 5, 4, 1), (7, 12, 7, 0, 0), (1, 21, 7, 0, 1), (10, 191, 7, 0, 1), (7, 18, 7, 1, 0), (7, 26, 7, 2, 0), (1, 48, 7, 2, 1), (3, 7, 3, 0, 0), (10, 326, 3, 0, 1), (3, 13, 3, 1, 0), (0, 68, 3, 1, 1), (10, 226, 3, 1, 1), (3, 17, 3, 2, 0), (0, 64, 3, 2, 1), (10, 229, 3, 2, 1), (3, 20, 3, 3, 0), (0, 59, 3, 3, 1), (10, 233, 3, 3, 1), (3, 23, 3, 4, 0), (0, 71, 3, 4, 1), (10, 11, 10, 0, 0), (10, 17, 10, 1, 0), (10, 23, 10, 2, 0), (10, 29, 10, 3, 0), (10, 36, 10, 4, 0), (10, 40, 10, 5, 0), (10, 47, 10, 6, 0), (10, 54, 10, 7, 0), (10, 61, 10, 8, 0), (10, 68, 10, 9, 0), (10, 73, 10, 10, 0), (10, 78, 10, 11, 0), (10, 82, 10, 12, 0), (10, 85, 10, 13, 0), (10, 89, 10, 14, 0), (10, 92, 10, 15, 0), (11, 1, 11, 0, 0), (11, 14, 11, 1, 0), (11, 11, 11, 2, 0), (11, 175, 11, 3, 0), (11, 24, 11, 4, 0), (11, 27, 11, 5, 0), (11, 30, 11, 6, 0), (11, 194, 11, 7, 0), (11, 197, 11, 8, 0), (11, 80, 11, 9, 0), (11, 83, 11, 10, 0), (11, 87, 11, 11, 0), (11, 90, 11, 12, 0), (11, 93, 11, 13, 0), (11, 96, 11, 14, 0), (11, 217, 11, 15, 0), (11, 99, 11, 16, 0), (11, 102, 11, 17, 0), (11, 105, 11, 18, 0), (11, 108, 11, 19, 0), (11, 236, 11, 20, 0), (11, 239, 11, 21, 0), (11, 111, 11, 22, 0), (11, 114, 11, 23, 0), (11, 117, 11, 24, 0), (11, 120, 11, 25, 0), (11, 123, 11, 26, 0), (11, 126, 11, 27, 0), (11, 129, 11, 28, 0), (11, 132, 11, 29, 0), (11, 310, 11, 30, 0), (11, 135, 11, 31, 0), (11, 138, 11, 32, 0), (11, 141, 11, 33, 0), (11, 144, 11, 34, 0), (11, 147, 11, 35, 0), (11, 150, 11, 36, 0), (11, 153, 11, 37, 0), (11, 156, 11, 38, 0), (11, 159, 11, 39, 0), (11, 162, 11, 40, 0), (11, 165, 11, 41, 0), (11, 168, 11, 42, 0)]
def flP : List Nat := [163, 164, 165, 166, 167, 168, 169, 170, 171, 172, 173, 174, 204, 205, 206, 207, 208, 209, 210, 211, 212, 231, 232, 233, 234, 235, 236, 237, 238, 239, 240, 256, 257, 258, 259, 260, 261, 262, 263, 264, 280, 281, 282, 283, 284, 285, 286, 287, 288, 289, 290, 291, 319, 320, 321, 322, 323, 324, 340, 350, 351, 352, 353, 354, 355, 356, 357, 376, 377, 378, 379, 380, 381, 394, 395, 396, 397, 398, 399, 400, 401, 402, 403, 404, 405, 406, 420, 421, 422, 423, 424, 425, 426, 427, 428, 429, 430, 431, 432, 433, 434, 435, 1162, 1163, 1164, 1165, 1166, 1167, 1168, 1169, 1170, 1171, 1172, 1173, 1174, 1175, 1176, 1177, 1178, 1179, 1180, 1181, 1182, 1183, 1184, 1185, 1186, 1187, 1188, 1189, 1190, 1191, 1192, 1193, 1194, 1195, 1196, 1197, 1198, 1199, 1200, 1201, 1202, 1203, 1204]
def cnm (c : Nat) : String := cnT.getD c ""
def clk (c : Nat) : vw_C := clT.getD c ("", T_12, 0)
def flw (q : Nat × Nat × Nat × Nat × Nat) : Cond := if q.2.2.2.2 = 0 then .fieldLink (cnm q.1) q.2.1 ((clk q.2.2.1).2.1 q.2.2.2.1).1 ((clk q.2.2.1).2.1 q.2.2.2.1).2.1 ((clk q.2.2.1).2.1 q.2.2.2.1).2.2.1 else .fieldLinkNest (cnm q.1) q.2.1 ((clk q.2.2.1).2.1 q.2.2.2.1).1 ((clk q.2.2.1).2.1 q.2.2.2.1).2.1 ((clk q.2.2.1).2.1 q.2.2.2.1).2.2.1 "PenThatJumps"
/-- the places of the words that lay the fields -/
def layP : List (List Nat) := [[325, 327, 329, 331], [341], [292, 294, 296, 298, 300, 302, 304, 306, 308], [407, 409, 411, 413, 415], [241, 243, 245, 247], [358, 360, 362, 364, 366], [265, 267, 269, 271, 273, 275], [382, 384, 386], [175, 177, 179, 181, 183, 185, 187], [213, 215, 217, 219, 221], [436, 438, 440, 442, 444, 446, 448, 450, 452, 454, 456, 458, 460, 462, 464, 466], [1205, 1207, 1209, 1211, 1213, 1215, 1217, 1219, 1221, 1223, 1225, 1227, 1229, 1231, 1233, 1235, 1237, 1239, 1241, 1243, 1245, 1247, 1249, 1251, 1253, 1255, 1257, 1259, 1261, 1263, 1265, 1267, 1269, 1271, 1273, 1275, 1277, 1279, 1281, 1283, 1285, 1287, 1289], []]
def tyk (c k : Nat) : FieldType := (tyT.getD c ty_12) k
end
section
set_option maxRecDepth 100000 in
theorem lay_all : (List.range 13).all (fun c => (List.range (clk c).2.2).all (fun k => decide (lw_tbl[(layP.getD c []).getD k 0]? = some (u_lay (clk c).1 (clk c).2.1 k)))) = true := by decide +kernel
set_option maxRecDepth 100000 in
theorem tyk_ok : ∀ c, c < 13 → ∀ k, k < (clk c).2.2 → parseFieldDescriptor ((clk c).2.1 k).2.2.1 = some (tyk c k) := by decide +kernel
set_option maxRecDepth 100000 in
theorem nmk_ok : ∀ c, c < 13 → ∀ a, a < (clk c).2.2 → ∀ b, b < (clk c).2.2 → a ≠ b → ((clk c).2.1 a).2.1 ≠ ((clk c).2.1 b).2.1 := by decide +kernel
end
section
/-! THE SMALL MACHINE: a pure machine for the instructions that the class, the law and the reference use, over a heap of plain functions. References are numbers (0: null), cells have kinds. -/
abbrev AH : Type := (Nat → Nat → Int32) × (Nat → Nat → Int64) × (Nat → Nat → Nat) × (Nat → Nat) × (Nat → Nat) × Nat × Nat
def hI (h : AH) : Nat → Nat → Int32 := h.1
def hJ (h : AH) : Nat → Nat → Int64 := h.2.1
def hR (h : AH) : Nat → Nat → Nat := h.2.2.1
def hK (h : AH) : Nat → Nat := h.2.2.2.1
def hN (h : AH) : Nat → Nat := h.2.2.2.2.1
def hz (h : AH) : Nat := h.2.2.2.2.2.1
def hu (h : AH) : Nat := h.2.2.2.2.2.2
def upq {α : Type} (f : Nat → Nat → α) (a j : Nat) (v : α) : Nat → Nat → α := fun x y => if x = a then (if y = j then v else f x y) else f x y
def upr {α : Type} (f : Nat → α) (a : Nat) (v : α) : Nat → α := fun x => if x = a then v else f x
def sI (h : AH) (a j : Nat) (v : Int32) : AH := (upq h.1 a j v, h.2)
def sJ (h : AH) (a j : Nat) (v : Int64) : AH := (h.1, upq h.2.1 a j v, h.2.2)
def sR (h : AH) (a j : Nat) (v : Nat) : AH := (h.1, h.2.1, upq h.2.2.1 a j v, h.2.2.2)
/-- a new cell of kind k and length n, of u slots, all zero -/
def mkC (h : AH) (k n u : Nat) : AH := (upr h.1 (hz h) (fun _ => 0), upr h.2.1 (hz h) (fun _ => 0), upr h.2.2.1 (hz h) (fun _ => 0), upr (hK h) (hz h) k, upr (hN h) (hz h) n, hz h + 1, hu h + u)
/-- the kinds of fields: 0 int, 1 boolean, 2 a reference -/
def fdT : List (List Nat) := [[2, 2, 2, 0], [2], [2, 2, 2, 1, 0, 0, 0, 0, 2], [1, 0, 1, 0, 1], [2, 2, 2, 0], [2, 2, 0, 0, 0], [2, 0, 0, 2, 2, 2], [2, 2, 0], [1, 0, 2, 0, 0, 0, 0], [2, 0, 2, 2, 0], [2, 2, 2, 2, 2, 2, 2, 2, 2, 2, 2, 2, 2, 2, 2, 2], [0, 2, 0, 0, 2, 2, 2, 0, 0, 2, 2, 2, 2, 2, 2, 0, 2, 2, 2, 2, 0, 1, 2, 2, 2, 2, 2, 2, 2, 2, 0, 2, 2, 2, 2, 2, 2, 2, 2, 2, 2, 2, 2], [], [], [], [], [], [], [], [], [], [], [], [], [], [], [], [], [], [], [], [], [], [], [], [], [], [], [], [], [2, 0, 0], [], [2, 0]]
def fdk (c k : Nat) : Nat := (fdT.getD c []).getD k 9
def fdn (c : Nat) : Nat := (fdT.getD c []).length
def ixo (i : Int32) (n : Nat) : Bool := decide (0 ≤ i) && decide (i.toNatClampNeg < n)
def i01 (x : Int32) : Bool := decide (x = 0) || decide (x = 1)
abbrev AS : Type := Nat × List Value × List Value × AH
/-- where it lies in the bytes, the instruction, what is resolved of it, the place of its word among the tables -/
abbrev IR : Type := Nat × Instr × List Nat × Nat
def cnd (c : ClassFile.Cond) (x y : Int32) : Bool := match c with
  | .eq => decide (x = y)
  | .ne => decide (¬ x = y)
  | .lt => decide (x < y)
  | .ge => decide (y ≤ x)
  | .gt => decide (y < x)
  | .le => decide (x ≤ y)
def guardo {α : Type} (b : Bool) (x : Option α) : Option α := if b = true then x else none
def ldI (L S : List Value) (h : AH) (i n : Nat) : Option AS := match L[n]? with
  | some (.int v) => some (i + 1, L, .int v :: S, h)
  | _ => none
def ldJ (L S : List Value) (h : AH) (i n : Nat) : Option AS := match L[n]?, L[n + 1]? with
  | some (.long v), some .null => some (i + 1, L, .long v :: S, h)
  | _, _ => none
def ldA (L S : List Value) (h : AH) (i n : Nat) : Option AS := match L[n]? with
  | some (.ref v) => some (i + 1, L, .ref v :: S, h)
  | _ => none
def stI (L S : List Value) (h : AH) (i n : Nat) : Option AS := match S with
  | .int v :: S => guardo (decide (n < L.length)) (some (i + 1, L.set n (.int v), S, h))
  | _ => none
def stJ (L S : List Value) (h : AH) (i n : Nat) : Option AS := match S with
  | .long v :: S => guardo (decide (n + 1 < L.length)) (some (i + 1, (L.set n (.long v)).set (n + 1) .null, S, h))
  | _ => none
def stA (L S : List Value) (h : AH) (i n : Nat) : Option AS := match S with
  | .ref v :: S => guardo (decide (n < L.length)) (some (i + 1, L.set n (.ref v), S, h))
  | _ => none
def biI (f : Int32 → Int32 → Int32) (L S : List Value) (h : AH) (i : Nat) : Option AS := match S with
  | .int y :: .int x :: S => some (i + 1, L, .int (f x y) :: S, h)
  | _ => none
def biJ (f : Int64 → Int64 → Int64) (L S : List Value) (h : AH) (i : Nat) : Option AS := match S with
  | .long y :: .long x :: S => some (i + 1, L, .long (f x y) :: S, h)
  | _ => none
def biS (f : Int64 → Int32 → Int64) (L S : List Value) (h : AH) (i : Nat) : Option AS := match S with
  | .int y :: .long x :: S => some (i + 1, L, .long (f x y) :: S, h)
  | _ => none
def aldI (k : List Nat) (L S : List Value) (h : AH) (i : Nat) : Option AS := match S with
  | .int x :: .ref a :: S => guardo (decide (hK h a ∈ k) && ixo x (hN h a)) (some (i + 1, L, .int (hI h a x.toNatClampNeg) :: S, h))
  | _ => none
/-- one step that is no call and no end; o: what is resolved of it -/
def stp (x : Instr) (o : List Nat) (i : Nat) (L S : List Value) (h : AH) : Option AS := match x with
  | .iconst v => some (i + 1, L, .int (Int32.ofInt v) :: S, h)
  | .bipush v => some (i + 1, L, .int (Int32.ofInt v) :: S, h)
  | .sipush v => some (i + 1, L, .int (Int32.ofInt v) :: S, h)
  | .lconst v => some (i + 1, L, .long (Int64.ofNat v.val) :: S, h)
  | .aconst_null => some (i + 1, L, .ref 0 :: S, h)
  | .ldc _ => match o with
    | [n] => some (i + 1, L, .int (Int32.ofNat n) :: S, h)
    | _ => none
  | .ldc_w _ => match o with
    | [n] => some (i + 1, L, .int (Int32.ofNat n) :: S, h)
    | _ => none
  | .ldc2_w _ => match o with
    | [n] => some (i + 1, L, .long (Int64.ofNat n) :: S, h)
    | [n, _] => some (i + 1, L, .long (-Int64.ofNat n) :: S, h)
    | _ => none
  | .iload n => ldI L S h i n
  | .iload_n n => ldI L S h i n.val
  | .lload n => ldJ L S h i n
  | .lload_n n => ldJ L S h i n.val
  | .aload n => ldA L S h i n
  | .aload_n n => ldA L S h i n.val
  | .istore n => stI L S h i n
  | .istore_n n => stI L S h i n.val
  | .lstore n => stJ L S h i n
  | .lstore_n n => stJ L S h i n.val
  | .astore n => stA L S h i n
  | .astore_n n => stA L S h i n.val
  | .iinc n c => match L[n]? with
    | some (.int v) => some (i + 1, L.set n (.int (v + Int32.ofInt c)), S, h)
    | _ => none
  | .iadd => biI (fun x y => x + y) L S h i
  | .isub => biI (fun x y => x - y) L S h i
  | .imul => biI (fun x y => x * y) L S h i
  | .iand => biI (fun x y => x &&& y) L S h i
  | .ior => biI (fun x y => x ||| y) L S h i
  | .ishl => biI (fun x y => x <<< (y &&& 31)) L S h i
  | .ishr => biI (fun x y => x >>> (y &&& 31)) L S h i
  | .idiv => match S with
    | .int y :: .int x :: S => guardo (decide (¬ y = 0)) (some (i + 1, L, .int (x / y) :: S, h))
    | _ => none
  | .irem => match S with
    | .int y :: .int x :: S => guardo (decide (¬ y = 0)) (some (i + 1, L, .int (x - x / y * y) :: S, h))
    | _ => none
  | .ineg => match S with
    | .int x :: S => some (i + 1, L, .int (-x) :: S, h)
    | _ => none
  | .ladd => biJ (fun x y => x + y) L S h i
  | .lsub => biJ (fun x y => x - y) L S h i
  | .lmul => biJ (fun x y => x * y) L S h i
  | .land => biJ (fun x y => x &&& y) L S h i
  | .lor => biJ (fun x y => x ||| y) L S h i
  | .lshl => biS (fun x y => x <<< (y.toInt64 &&& 63)) L S h i
  | .lshr => biS (fun x y => x >>> (y.toInt64 &&& 63)) L S h i
  | .lushr => biS (fun x y => (x.toUInt64 >>> (y.toInt64.toUInt64 &&& Int64.toUInt64 63)).toInt64) L S h i
  | .ldiv => match S with
    | .long y :: .long x :: S => guardo (decide (¬ y = 0)) (some (i + 1, L, .long (x / y) :: S, h))
    | _ => none
  | .lrem => match S with
    | .long y :: .long x :: S => guardo (decide (¬ y = 0)) (some (i + 1, L, .long (x - x / y * y) :: S, h))
    | _ => none
  | .lneg => match S with
    | .long x :: S => some (i + 1, L, .long (-x) :: S, h)
    | _ => none
  | .lcmp => match S with
    | .long y :: .long x :: S => some (i + 1, L, .int (lg_cmp x y) :: S, h)
    | _ => none
  | .i2l => match S with
    | .int x :: S => some (i + 1, L, .long x.toInt64 :: S, h)
    | _ => none
  | .l2i => match S with
    | .long x :: S => some (i + 1, L, .int x.toInt32 :: S, h)
    | _ => none
  | .i2c => match S with
    | .int x :: S => some (i + 1, L, .int (x.toUInt32 % 65536).toInt32 :: S, h)
    | _ => none
  | .dup => match S with
    | .int v :: S => some (i + 1, L, .int v :: .int v :: S, h)
    | .ref v :: S => some (i + 1, L, .ref v :: .ref v :: S, h)
    | _ => none
  | .dup2 => match S with
    | .int v :: .ref w :: S => some (i + 1, L, .int v :: .ref w :: .int v :: .ref w :: S, h)
    | .long v :: S => some (i + 1, L, .long v :: .long v :: S, h)
    | _ => none
  | .goto _ => match o with
    | [t] => some (t, L, S, h)
    | _ => none
  | .ifCond c _ => match o, S with
    | [t], .int x :: S => if cnd c x 0 = true then some (t, L, S, h) else some (i + 1, L, S, h)
    | _, _ => none
  | .if_icmp c _ => match o, S with
    | [t], .int y :: .int x :: S => if cnd c x y = true then some (t, L, S, h) else some (i + 1, L, S, h)
    | _, _ => none
  | .if_acmp c _ => match o, S with
    | [t], .ref y :: .ref x :: S => guardo (decide (2 ≤ x ∧ x ≤ 25 ∧ 2 ≤ y ∧ y ≤ 25)) (match c with
      | .eq => if x = y then some (t, L, S, h) else some (i + 1, L, S, h)
      | .ne => if x = y then some (i + 1, L, S, h) else some (t, L, S, h))
    | _, _ => none
  | .ifnull _ => match o, S with
    | [t], .ref x :: S => guardo (decide (x = 0 ∨ 100 ≤ x)) (if x = 0 then some (t, L, S, h) else some (i + 1, L, S, h))
    | _, _ => none
  | .ifnonnull _ => match o, S with
    | [t], .ref x :: S => guardo (decide (x = 0 ∨ 100 ≤ x)) (if x = 0 then some (i + 1, L, S, h) else some (t, L, S, h))
    | _, _ => none
  | .pop => match S with
    | .int _ :: S => some (i + 1, L, S, h)
    | _ => none
  | .checkcast _ => match S with
    | .ref a :: S => guardo (decide (hK h a = 20)) (some (i + 1, L, .ref a :: S, h))
    | _ => none
  | .tableswitch _ lo _ _ => match o, S with
    | d :: ts, .int x :: S => if x.toInt < lo ∨ lo + ts.length ≤ x.toInt then some (d, L, S, h) else some (ts.getD (x.toInt - lo).toNat 0, L, S, h)
    | _, _ => none
  | .getfield _ => match o, S with
    | [c, k], .ref a :: S => guardo (decide (hK h a = c)) (if fdk c k = 2 then some (i + 1, L, .ref (hR h a k) :: S, h) else some (i + 1, L, .int (hI h a k) :: S, h))
    | _, _ => none
  | .putfield _ => match o, S with
    | [c, k], .ref v :: .ref a :: S => guardo (decide (hK h a = c) && decide (fdk c k = 2)) (some (i + 1, L, S, sR h a k v))
    | [c, k], .int v :: .ref a :: S => guardo (decide (hK h a = c) && (decide (fdk c k = 0) || decide (fdk c k = 1) && i01 v)) (some (i + 1, L, S, sI h a k v))
    | _, _ => none
  | .getstatic _ => match o with
    | [0, r] => some (i + 1, L, .ref r :: S, h)
    | [1, v] => some (i + 1, L, .int (Int32.ofNat v) :: S, h)
    | _ => none
  | .iaload => aldI [20, 44] L S h i
  | .caload => aldI [21] L S h i
  | .baload => aldI [22, 45] L S h i
  | .laload => match S with
    | .int x :: .ref a :: S => guardo (decide (hK h a = 23) && ixo x (hN h a)) (some (i + 1, L, .long (hJ h a x.toNatClampNeg) :: S, h))
    | _ => none
  | .aaload => match S with
    | .int x :: .ref a :: S => guardo (decide (30 ≤ hK h a ∧ hK h a ≤ 41 ∧ hK h a ≠ 40) && ixo x (hN h a)) (some (i + 1, L, .ref (hR h a x.toNatClampNeg) :: S, h))
    | _ => none
  | .iastore => match S with
    | .int v :: .int x :: .ref a :: S => guardo (decide (hK h a = 20) && ixo x (hN h a)) (some (i + 1, L, S, sI h a x.toNatClampNeg v))
    | _ => none
  | .castore => match S with
    | .int v :: .int x :: .ref a :: S => guardo (decide (hK h a = 21) && ixo x (hN h a)) (some (i + 1, L, S, sI h a x.toNatClampNeg (vp_nar .char v)))
    | _ => none
  | .bastore => match S with
    | .int v :: .int x :: .ref a :: S => guardo (decide (hK h a = 22) && ixo x (hN h a) && i01 v) (some (i + 1, L, S, sI h a x.toNatClampNeg v))
    | _ => none
  | .lastore => match S with
    | .long v :: .int x :: .ref a :: S => guardo (decide (hK h a = 23) && ixo x (hN h a)) (some (i + 1, L, S, sJ h a x.toNatClampNeg v))
    | _ => none
  | .aastore => match S with
    | .ref v :: .int x :: .ref a :: S => guardo (decide (30 ≤ hK h a ∧ hK h a < 40 ∧ hK h v + 30 = hK h a ∧ 100 ≤ v ∧ v < hz h) && ixo x (hN h a)) (some (i + 1, L, S, sR h a x.toNatClampNeg v))
    | _ => none
  | .arraylength => match S with
    | .ref a :: S => guardo (decide (20 ≤ hK h a ∧ hK h a ≠ 40 ∧ hK h a ≠ 42 ∧ hK h a ≤ 45 ∧ hK h a ≠ 43)) (some (i + 1, L, .int (Int32.ofNat (hN h a)) :: S, h))
    | _ => none
  | .newarray _ => match o, S with
    | [k], .int n :: S => guardo (decide (0 ≤ n) && decide (n.toNatClampNeg ≤ 10000)) (some (i + 1, L, .ref (hz h) :: S, mkC h k n.toNatClampNeg n.toNatClampNeg))
    | _, _ => none
  | .anewarray _ => match o, S with
    | [k], .int n :: S => guardo (decide (0 ≤ n) && decide (n.toNatClampNeg ≤ 10000)) (some (i + 1, L, .ref (hz h) :: S, mkC h k n.toNatClampNeg n.toNatClampNeg))
    | _, _ => none
  | .new _ => match o with
    | [c] => some (i + 1, L, .ref (hz h) :: S, mkC h c 0 (fdn c))
    | _ => none
  | _ => none
def isCall (x : Instr) : Bool := match x with
  | .invokevirtual _ => true
  | .invokestatic _ => true
  | .invokespecial _ => true
  | _ => false
def isRet (x : Instr) : Bool := match x with
  | .ireturn => true
  | .lreturn => true
  | .areturn => true
  | .return_ => true
  | .nop => true
  | _ => false
/-- what is returned; .nop: a place at which another text goes on (there is none in the code of the list) -/
def retv (x : Instr) (S : List Value) : Option (Option Value) := match x, S with
  | .ireturn, [.int v] => some (some (.int v))
  | .lreturn, [.long v] => some (some (.long v))
  | .areturn, [.ref v] => some (some (.ref v))
  | .return_, [] => some none
  | .nop, [] => some (some .null)
  | _, _ => none
abbrev AC : Type := Nat → List Value → AH → Option (Option Value × AH)
def run (call : AC) (P : List IR) : Nat → Nat → List Value → List Value → AH → Option (Option Value × AH)
  | 0, _, _, _, _ => none
  | n + 1, i, L, S, h => match P[i]? with
    | none => none
    | some q =>
      if isRet q.2.1 = true then (retv q.2.1 S).map (fun v => (v, h))
      else if isCall q.2.1 = true then
        match q.2.2.1 with
        | [y, k] => guardo (decide (k ≤ S.length) && decide (((S.drop k).map fun v => v.category).sum ≤ 8)) ((call y (S.take k).reverse h).bind fun z => run call P n (i + 1) L (z.1.toList ++ S.drop k) z.2)
        | _ => none
      else (stp q.2.1 q.2.2.1 i L S h).bind fun z => run call P n z.1 z.2.1 z.2.2.1 z.2.2.2
/-- the locals at a method's entry -/
def lcs (n : Nat) (a : List Value) : List Value :=
  let l := a.flatMap fun v => if v.category = 2 then [v, .null] else [v]
  l ++ List.replicate (n - l.length) .null
end
section
/-! WHAT THE SMALL MACHINE'S HEAP IS IN THE REAL ONE -/
/-- classes' and fields' numbers; the array classes' numbers by kind; the first own cell; where the cells below 100 lie -/
abbrev GG : Type := va_G × (Nat → ClassId) × Nat × (Nat → Option Nat)
def gb (g : GG) : Nat := g.2.2.1
def rq (g : GG) (r : Nat) : Option Nat := if r = 0 then none else if r < 100 then g.2.2.2 r else some (gb g + (r - 100))
def ph (g : GG) (v : Value) : Value := match v with
  | .ref r => va_rf (rq g r)
  | v => v
def fvl (g : GG) (h : AH) (c a k : Nat) : Value := if fdk c k = 2 then va_rf (rq g (hR h a k)) else .int (hI h a k)
def cE (g : GG) (h : AH) (a : Nat) : va_E :=
  if hK h a < 20 then .inr (hK h a, (List.range (fdn (hK h a))).map (fvl g h (hK h a) a))
  else if hK h a < 23 then .inl (g.2.1 (hK h a), hN h a, .inl (hI h a))
  else if hK h a = 23 then .inl (g.2.1 23, hN h a, .inr (.inl (hJ h a)))
  else .inl (g.2.1 (hK h a), hN h a, .inr (.inr (.inr (.inr (fun j => rq g (hR h a j))))))
def okk (k : Nat) : Bool := decide (k ≤ 12) || decide (20 ≤ k ∧ k ≤ 23) || decide (k = 33) || decide (k = 34) || decide (k = 36) || decide (k = 37) || decide (k = 38)
def RW (g : GG) (hs h : AH) (H : Heap) : Prop := 100 ≤ hz h ∧ H.size = gb g + (hz h - 100) ∧ (∀ a, 100 ≤ a → a < hz h → okk (hK h a) = true ∧ va_at g.1 clT (gb g + (a - 100), cE g h a) H) ∧ (∀ a, hz h ≤ a → hK h a = 99) ∧
  (∀ a, a < 100 → 40 ≤ hK h a ∧ hK h a = hK hs a ∧ hN h a = hN hs a ∧ hI h a = hI hs a ∧ hR h a = hR hs a)
def AA (g : GG) : Nat → Prop := fun q => gb g ≤ q
theorem RW.own {g : GG} {hs h : AH} {H : Heap} (w : RW g hs h H) {a : Nat} (hk : hK h a < 40) : 100 ≤ a ∧ a < hz h := by
  obtain ⟨-, -, -, h4, h5⟩ := w
  refine ⟨?_, ?_⟩
  · apply Nat.le_of_not_lt; intro q; have := (h5 a q).1; omega
  · apply Nat.lt_of_not_le; intro q; have := h4 a q; omega
theorem rq_own {g : GG} {a : Nat} (h : 100 ≤ a) : rq g a = some (gb g + (a - 100)) := by
  unfold rq; rw [if_neg (by omega), if_neg (by omega)]
theorem ph_own {g : GG} {a : Nat} (h : 100 ≤ a) : ph g (.ref a) = .ref (gb g + (a - 100)) := by
  show va_rf (rq g a) = _
  rw [rq_own h]; rfl
theorem rq_inj {g : GG} {a b : Nat} (ha : 100 ≤ a) (hb : 100 ≤ b) (h : gb g + (a - 100) = gb g + (b - 100)) : a = b := by omega
/-- a write into one own cell -/
theorem RW.upd {g : GG} {hs h h' : AH} {H H' : Heap} (w : RW g hs h H) {a : Nat} (h0 : 100 ≤ a) (h1 : a < hz h) (ez : hz h' = hz h) (eK : hK h' = hK h) (eN : hN h' = hN h)
    (eI : ∀ x, x ≠ a → hI h' x = hI h x) (eJ : ∀ x, x ≠ a → hJ h' x = hJ h x) (eR : ∀ x, x ≠ a → hR h' x = hR h x) (hsz : H'.size = H.size) (oq : ∀ q : Nat, q ≠ gb g + (a - 100) → H'[q]? = H[q]?)
    (hn : va_at g.1 clT (gb g + (a - 100), cE g h' a) H') : RW g hs h' H' := by
  obtain ⟨w1, w2, w3, w4, w5⟩ := w
  refine ⟨by rw [ez]; exact w1, by rw [hsz, ez]; exact w2, fun x hx1 hx2 => ?_, fun x hx => by rw [eK]; exact w4 x (by rw [← ez]; exact hx), fun x hx => ?_⟩
  · rw [ez] at hx2
    refine ⟨by rw [eK]; exact (w3 x hx1 hx2).1, ?_⟩
    by_cases e : x = a
    · rw [e]; exact hn
    · have hc : cE g h' x = cE g h x := by
        unfold cE fvl
        rw [eK, eN, eI x e, eJ x e, eR x e]
      rw [hc]
      exact (w3 x hx1 hx2).2.kept (oq _ (by omega))
  · have e : x ≠ a := by omega
    rw [eK, eN, eI x e, eR x e]
    exact w5 x hx
/-- a new own cell -/
theorem RW.mk {g : GG} {hs h : AH} {H H' : Heap} (w : RW g hs h H) {k n u : Nat} (hk : okk k = true) (hsz : H'.size = H.size + 1) (oq : ∀ q : Nat, q < H.size → H'[q]? = H[q]?)
    (hn : va_at g.1 clT (H.size, cE g (mkC h k n u) (hz h)) H') : RW g hs (mkC h k n u) H' := by
  obtain ⟨w1, w2, w3, w4, w5⟩ := w
  have ez : hz (mkC h k n u) = hz h + 1 := rfl
  have e0 : H.size = gb g + (hz h - 100) := w2
  refine ⟨by rw [ez]; omega, by rw [hsz, ez]; omega, fun x hx1 hx2 => ?_, fun x hx => ?_, fun x hx => ?_⟩
  · rw [ez] at hx2
    by_cases e : x = hz h
    · subst e
      refine ⟨?_, ?_⟩
      · show okk (upr (hK h) (hz h) k (hz h)) = true
        unfold upr; rw [if_pos rfl]; exact hk
      · rw [← e0]; exact hn
    · have hlt : x < hz h := by omega
      have hK' : hK (mkC h k n u) x = hK h x := by show upr (hK h) (hz h) k x = _; unfold upr; rw [if_neg e]
      refine ⟨by rw [hK']; exact (w3 x hx1 hlt).1, ?_⟩
      have hc : cE g (mkC h k n u) x = cE g h x := by
        unfold cE fvl
        rw [hK']
        have a1 : hN (mkC h k n u) x = hN h x := by show upr (hN h) (hz h) n x = _; unfold upr; rw [if_neg e]
        have a2 : hI (mkC h k n u) x = hI h x := by show upr h.1 (hz h) _ x = _; unfold upr; rw [if_neg e]; rfl
        have a3 : hJ (mkC h k n u) x = hJ h x := by show upr h.2.1 (hz h) _ x = _; unfold upr; rw [if_neg e]; rfl
        have a4 : hR (mkC h k n u) x = hR h x := by show upr h.2.2.1 (hz h) _ x = _; unfold upr; rw [if_neg e]; rfl
        rw [a1, a2, a3, a4]
      rw [hc]
      exact (w3 x hx1 hlt).2.kept (oq _ (by show gb g + (x - 100) < H.size; omega))
  · rw [ez] at hx
    show upr (hK h) (hz h) k x = 99
    unfold upr; rw [if_neg (by omega)]; exact w4 x (by omega)
  · have e : x ≠ hz h := by omega
    have hK' : hK (mkC h k n u) x = hK h x := by show upr (hK h) (hz h) k x = _; unfold upr; rw [if_neg e]
    have a1 : hN (mkC h k n u) x = hN h x := by show upr (hN h) (hz h) n x = _; unfold upr; rw [if_neg e]
    have a2 : hI (mkC h k n u) x = hI h x := by show upr h.1 (hz h) _ x = _; unfold upr; rw [if_neg e]; rfl
    have a4 : hR (mkC h k n u) x = hR h x := by show upr h.2.2.1 (hz h) _ x = _; unfold upr; rw [if_neg e]; rfl
    rw [hK', a1, a2, a4]
    exact w5 x hx
/-! the locals -/
def lok (L : List Value) (i : Nat) (v : Value) : Bool := match v with
  | .int _ => true
  | .ref _ => true
  | .long _ => decide (L[i + 1]? = some .null)
  | _ => false
def lvOf (g : GG) (L : List Value) : List (Nat × Value) := (List.range L.length).filterMap fun i => (L[i]?).bind fun v => if lok L i v = true then some (i, ph g v) else none
theorem mem_lvOf {g : GG} {L : List Value} {q : Nat × Value} : q ∈ lvOf g L ↔ ∃ v, L[q.1]? = some v ∧ lok L q.1 v = true ∧ q.2 = ph g v := by
  unfold lvOf
  rw [List.mem_filterMap]
  constructor
  · rintro ⟨i, hi, h⟩
    cases hv : L[i]? with
    | none => rw [hv] at h; cases h
    | some v =>
      rw [hv] at h
      by_cases hl : lok L i v = true
      · simp only [Option.bind_some, if_pos hl, Option.some.injEq] at h
        subst h
        exact ⟨v, hv, hl, rfl⟩
      · simp [hl] at h
  · rintro ⟨v, h1, h2, h3⟩
    refine ⟨q.1, List.mem_range.mpr (List.getElem?_eq_some_iff.mp h1).1, ?_⟩
    rw [h1]
    simp only [Option.bind_some, if_pos h2, Option.some.injEq]
    rw [← h3]
def LR (g : GG) (L : List Value) (nL : Nat) (ls : Array Slot) : Prop := L.length = nL ∧ lv_has ls nL (lvOf g L)
theorem LR.at {g : GG} {L : List Value} {nL : Nat} {ls : Array Slot} (h : LR g L nL ls) {i : Nat} {v : Value} (hv : L[i]? = some v) (hl : lok L i v = true) : ls[i]? = some (.val (ph g v)) :=
  h.2.2.2 (i, ph g v) (mem_lvOf.mpr ⟨v, hv, hl, rfl⟩)
theorem ph_cat {g : GG} {v : Value} (h : (ph g v).category = 2) : v.category = 2 := by
  cases v with
  | ref r => 
    have : (va_rf (rq g r)).category = 2 := h
    cases hq : rq g r with
    | none => rw [hq] at this; cases this
    | some a => rw [hq] at this; cases this
  | _ => exact h
theorem ph_cat2 (g : GG) (v : Value) : (ph g v).category = v.category := by
  cases v with
  | ref r =>
    show (va_rf (rq g r)).category = 1
    cases rq g r <;> rfl
  | _ => rfl
theorem LR.set1 {g : GG} {L : List Value} {nL : Nat} {ls' : Array Slot} {i : Nat} {v : Value} (hL : L.length = nL) (hv : v.category = 1) (hn : v ≠ .null)
    (h : lv_has ls' nL ((i, ph g v) :: (lvOf g L).filter (fun q => !(q.1 == i) && !(q.1 + 1 == i && q.2.category == 2)))) : LR g (L.set i v) nL ls' := by
  refine ⟨by rw [List.length_set]; exact hL, h.1, h.2.1, fun q hq => ?_⟩
  obtain ⟨w, h1, h2, h3⟩ := mem_lvOf.mp hq
  apply h.2.2
  by_cases e : q.1 = i
  · have : w = v := by
      rw [e, List.getElem?_set] at h1
      by_cases hl : i < L.length
      · rw [if_pos rfl, if_pos hl] at h1; exact (Option.some.inj h1).symm
      · rw [if_pos rfl, if_neg hl] at h1; cases h1
    rw [this] at h3
    exact List.mem_cons.mpr (Or.inl (Prod.ext e h3))
  · have h1' : L[q.1]? = some w := by rw [List.getElem?_set_ne (fun z => e z.symm)] at h1; exact h1
    have hk : (q.1 + 1 = i → ¬ w.category = 2) ∧ lok L q.1 w = true := by
      cases w with
      | long x =>
        have h2' : (L.set i v)[q.1 + 1]? = some .null := of_decide_eq_true h2
        have e2 : q.1 + 1 ≠ i := by
          intro z
          rw [z, List.getElem?_set, if_pos rfl] at h2'
          by_cases hl : i < L.length
          · rw [if_pos hl] at h2'; exact hn (Option.some.inj h2')
          · rw [if_neg hl] at h2'; cases h2'
        rw [List.getElem?_set_ne (fun z => e2 z.symm)] at h2'
        exact ⟨fun z => absurd z e2, decide_eq_true h2'⟩
      | int x => exact ⟨fun _ z => (by cases z), rfl⟩
      | ref x => exact ⟨fun _ z => (by cases z), rfl⟩
      | _ => cases h2
    refine List.mem_cons.mpr (Or.inr (List.mem_filter.mpr ⟨mem_lvOf.mpr ⟨w, h1', hk.2, h3⟩, ?_⟩))
    simp only [Bool.and_eq_true, Bool.not_eq_true', beq_eq_false_iff_ne, ne_eq, Bool.and_eq_false_iff]
    refine ⟨e, ?_⟩
    by_cases z : q.1 + 1 = i
    · exact Or.inr (fun zz => hk.1 z (ph_cat (by rw [← h3]; exact zz)))
    · exact Or.inl z
theorem LR.set2 {g : GG} {L : List Value} {nL : Nat} {ls' : Array Slot} {i : Nat} {x : Int64} (hL : L.length = nL)
    (h : lv_has ls' nL ((i, Value.long x) :: (lvOf g L).filter (fun q => !(q.1 == i) && (!(q.1 == i + 1) && !(q.1 + 1 == i && q.2.category == 2))))) : LR g ((L.set i (.long x)).set (i + 1) .null) nL ls' := by
  refine ⟨by rw [List.length_set, List.length_set]; exact hL, h.1, h.2.1, fun q hq => ?_⟩
  obtain ⟨w, h1, h2, h3⟩ := mem_lvOf.mp hq
  apply h.2.2
  by_cases e1 : q.1 = i + 1
  · rw [e1, List.getElem?_set, if_pos rfl] at h1
    by_cases hl : i + 1 < (L.set i (.long x)).length
    · rw [if_pos hl] at h1; have := Option.some.inj h1; rw [← this] at h2; cases h2
    · rw [if_neg hl] at h1; cases h1
  · rw [List.getElem?_set_ne (fun z => e1 z.symm)] at h1
    by_cases e : q.1 = i
    · have : w = .long x := by
        rw [e, List.getElem?_set, if_pos rfl] at h1
        by_cases hl : i < L.length
        · rw [if_pos hl] at h1; exact (Option.some.inj h1).symm
        · rw [if_neg hl] at h1; cases h1
      rw [this] at h3
      exact List.mem_cons.mpr (Or.inl (Prod.ext e h3))
    · have h1' : L[q.1]? = some w := by rw [List.getElem?_set_ne (fun z => e z.symm)] at h1; exact h1
      have hk : (q.1 + 1 = i → ¬ w.category = 2) ∧ lok L q.1 w = true := by
        cases w with
        | long y =>
          have h2' : ((L.set i (.long x)).set (i + 1) .null)[q.1 + 1]? = some .null := of_decide_eq_true h2
          have e3 : q.1 + 1 ≠ i + 1 := by omega
          rw [List.getElem?_set_ne (fun z => e3 z.symm)] at h2'
          have e2 : q.1 + 1 ≠ i := by
            intro z
            rw [z, List.getElem?_set, if_pos rfl] at h2'
            by_cases hl : i < L.length
            · rw [if_pos hl] at h2'; cases h2'
            · rw [if_neg hl] at h2'; cases h2'
          rw [List.getElem?_set_ne (fun z => e2 z.symm)] at h2'
          exact ⟨fun z => absurd z e2, decide_eq_true h2'⟩
        | int x => exact ⟨fun _ z => (by cases z), rfl⟩
        | ref x => exact ⟨fun _ z => (by cases z), rfl⟩
        | _ => cases h2
      refine List.mem_cons.mpr (Or.inr (List.mem_filter.mpr ⟨mem_lvOf.mpr ⟨w, h1', hk.2, h3⟩, ?_⟩))
      simp only [Bool.and_eq_true, Bool.not_eq_true', beq_eq_false_iff_ne, ne_eq, Bool.and_eq_false_iff]
      refine ⟨e, e1, ?_⟩
      by_cases z : q.1 + 1 = i
      · exact Or.inr (fun zz => hk.1 z (ph_cat (by rw [← h3]; exact zz)))
      · exact Or.inl z
theorem LR.entry_aux {g : GG} : ∀ (a : List Value) (k i : Nat) (v : Value), (a.flatMap fun v => if v.category = 2 then [v, Value.null] else [v])[i]? = some v → (v ≠ .null) → (k + i, ph g v) ∈ lv_args k (a.map (ph g))
  | [], k, i, v, h, _ => by simp at h
  | x :: a, k, i, v, h, hv => by
    rw [List.flatMap_cons] at h
    rw [List.map_cons]
    show _ ∈ (k, ph g x) :: lv_args (if (ph g x).category = 2 then k + 2 else k + 1) (a.map (ph g))
    rw [ph_cat2]
    by_cases hc : x.category = 2
    · rw [if_pos hc] at h ⊢
      match i, h with
      | 0, h => 
        have e : x = v := Option.some.inj h
        rw [e]; exact List.mem_cons_self
      | 1, h => 
        have e : Value.null = v := Option.some.inj h
        exact absurd e.symm hv
      | j + 2, h =>
        have h' : (a.flatMap fun v => if v.category = 2 then [v, Value.null] else [v])[j]? = some v := h
        have := LR.entry_aux (g := g) a (k + 2) j v h' hv
        rw [show k + (j + 2) = k + 2 + j by omega]
        exact List.mem_cons_of_mem _ this
    · rw [if_neg hc] at h ⊢
      match i, h with
      | 0, h => 
        have e : x = v := Option.some.inj h
        rw [e]; exact List.mem_cons_self
      | j + 1, h =>
        have h' : (a.flatMap fun v => if v.category = 2 then [v, Value.null] else [v])[j]? = some v := h
        have := LR.entry_aux (g := g) a (k + 1) j v h' hv
        rw [show k + (j + 1) = k + 1 + j by omega]
        exact List.mem_cons_of_mem _ this
theorem flat_len (g : GG) : ∀ a : List Value, (lg_sl (a.map (ph g))).length = (a.flatMap fun v => if v.category = 2 then [v, Value.null] else [v]).length
  | [] => rfl
  | x :: a => by
    have ih := flat_len g a
    unfold lg_sl at ih ⊢
    rw [List.map_cons, List.flatMap_cons, List.flatMap_cons, List.length_append, List.length_append, ih, ph_cat2]
    by_cases hc : x.category = 2
    · rw [if_pos hc, if_pos hc]; rfl
    · rw [if_neg hc, if_neg hc]; rfl
theorem LR.entry (g : GG) (a : List Value) {n : Nat} (h : (a.flatMap fun v => if v.category = 2 then [v, Value.null] else [v]).length ≤ n) :
    LR g (lcs n a) n ((lg_sl (a.map (ph g)) ++ List.replicate (n - (lg_sl (a.map (ph g))).length) Slot.unset).toArray) := by
  have e := lv_entry (a.map (ph g)) (n := n) (by rw [flat_len]; exact h)
  refine ⟨?_, e.1, e.2.1, fun q hq => ?_⟩
  · show (_ ++ List.replicate _ _).length = n
    rw [List.length_append, List.length_replicate]; omega
  · obtain ⟨v, h1, h2, h3⟩ := mem_lvOf.mp hq
    apply e.2.2
    have hv : v ≠ .null := by intro z; rw [z] at h2; cases h2
    have h1' : (a.flatMap fun v => if v.category = 2 then [v, Value.null] else [v])[q.1]? = some v := by
      have h1 : ((a.flatMap fun v => if v.category = 2 then [v, Value.null] else [v]) ++ List.replicate (n - (a.flatMap fun v => if v.category = 2 then [v, Value.null] else [v]).length) Value.null)[q.1]? = some v := h1
      rw [List.getElem?_append] at h1
      by_cases hl : q.1 < (a.flatMap fun v => if v.category = 2 then [v, Value.null] else [v]).length
      · rw [if_pos hl] at h1; exact h1
      · rw [if_neg hl, List.getElem?_replicate] at h1
        split at h1
        · exact absurd (Option.some.inj h1).symm hv
        · cases h1
    have := LR.entry_aux (g := g) a 0 q.1 v h1' hv
    rw [Nat.zero_add, ← h3] at this
    exact this
end
section
/-! ONE STEP OF THE SMALL MACHINE IS A STEP OF THE REAL ONE -/
def isNestW (w : Cond) : Bool := match w with
  | .fieldLinkNest .. => true
  | .methodLinkNest .. => true
  | .arrayOver (.object _) => true
  | _ => false
def AW : List Cond := lw_tbl.filter fun w => goodWord w || isNestW w
def tysT (g : GG) : List (ClassId × FieldType) := [(g.2.1 20, .int), (g.2.1 21, .char), (g.2.1 22, .boolean), (g.2.1 23, .long), (g.2.1 33, .object "PenThatJumps$Person"), (g.2.1 34, .object "PenThatJumps$Plan"), (g.2.1 36, .object "PenThatJumps$Program"), (g.2.1 37, .object "PenThatJumps$Sitting"), (g.2.1 38, .object "PenThatJumps$Tally")]
def pcOf (P : List IR) (i : Nat) : Nat := (P.getD i (0, .nop, [], 0)).1
/-- the statics: class, name, descriptor, what it holds: (0, a reference) or (1, a number) -/
def wdN : List String := ["PLAIN", "SHAMING", "ASKED", "KNOWN", "REAL", "OTHERS", "FILE", "ASKS", "HEARD", "FEAR", "DONE", "TRICK", "HABIT", "PLACE", "NOISE", "NOT", "AND", "OR", "ASK", "FOR", "LINE", "SAYS", "WHEN", "UNKNOWN"]
def stT : List (String × String × String × Nat × Nat) := (List.range 24).map (fun i => ("PenThatJumps$Word", wdN.getD i "", "LPenThatJumps$Word;", 0, 2 + i)) ++ [("PenThatJumps$Word", "ALL", "[LPenThatJumps$Word;", 0, 26), ("java/lang/String", "COMPACT_STRINGS", "Z", 1, 1), ("jdk/internal/util/Preconditions", "SIOOBE_FORMATTER", "Ljava/util/function/BiFunction;", 0, 75)]
def stv (g : GG) (q : Nat × Nat) : Value := if q.1 = 0 then va_rf (rq g q.2) else .int (Int32.ofNat q.2)
/-- the fields of the cells below 100 -/
def sfT (c k : Nat) : String × String × String := match c, k with
  | 40, 0 => ("PenThatJumps$Word", "text", "Ljava/lang/String;")
  | 40, 1 => ("PenThatJumps$Word", "bodyFact", "I")
  | 40, _ => ("PenThatJumps$Word", "readerFact", "I")
  | _, 0 => ("java/lang/String", "value", "[B")
  | _, _ => ("java/lang/String", "coder", "B")
def ST (g : GG) (hs : AH) (U : State) : Prop :=
  (∀ q ∈ stT, va_Z q.1 q.2.1 q.2.2.1 (stv g q.2.2.2) (AA g) U U.heap) ∧
  (∀ a, a < 100 → (hK hs a = 40 ∨ hK hs a = 42) → ∃ t, rq g a = some t ∧ ∀ k, k < fdn (hK hs a) → va_OF (sfT (hK hs a) k).1 (sfT (hK hs a) k).2.1 (sfT (hK hs a) k).2.2 (fvl g hs (hK hs a) a k) t (AA g) U U.heap) ∧
  (∀ a, a < 100 → hK hs a = 44 → ∃ t, rq g a = some t ∧ hN hs a < 2147483648 ∧ va_T .int t (hN hs a) (fun j => .int (hI hs a j)) (AA g) U U.heap) ∧
  (∀ a, a < 100 → hK hs a = 45 → ∃ t, rq g a = some t ∧ hN hs a < 2147483648 ∧ va_T .byte t (hN hs a) (fun j => .int (hI hs a j)) (AA g) U U.heap) ∧
  (∀ a, a < 100 → hK hs a = 41 → ∃ t, rq g a = some t ∧ hN hs a < 2147483648 ∧ va_T (.object "PenThatJumps$Word") t (hN hs a) (fun j => va_rf (rq g (hR hs a j))) (AA g) U U.heap) ∧
  (∀ a, a < 100 → hK hs a = 42 → ∃ t, rq g a = some t ∧ va_O "java/lang/String" t (AA g) U U.heap) ∧
  (∀ x y, 2 ≤ x → x ≤ 25 → 2 ≤ y → y ≤ 25 → rq g x = rq g y → x = y)
def CX (p : Program) (s : State) (m : MethodId) (args : Array Value) (c : Code) (cc : ByteArray) (nL own : Nat) (g : GG) (hs : AH) : Prop :=
  p.tables.exec = Jvm.exec ∧ c.code = cc ∧ c.maxLocals = nL ∧ s.vm.findClass (cnm own) = some m.cls ∧ (∀ w ∈ AW, w.before args s = true) ∧ va_K g.1 clT (tysT g) s ∧ ST g hs s ∧ gb g ≤ s.heap.size
def ilen (x : Instr) (pc : Nat) : Nat := match x with
  | .bipush _ => 2
  | .sipush _ => 3
  | .ldc _ => 2
  | .ldc_w _ => 3
  | .ldc2_w _ => 3
  | .iload _ => 2
  | .lload _ => 2
  | .aload _ => 2
  | .istore _ => 2
  | .lstore _ => 2
  | .astore _ => 2
  | .iinc _ _ => 3
  | .goto _ => 3
  | .ifCond _ _ => 3
  | .if_icmp _ _ => 3
  | .if_acmp _ _ => 3
  | .ifnull _ => 3
  | .ifnonnull _ => 3
  | .getfield _ => 3
  | .putfield _ => 3
  | .getstatic _ => 3
  | .newarray _ => 2
  | .anewarray _ => 3
  | .new _ => 3
  | .checkcast _ => 3
  | .invokevirtual _ => 3
  | .invokestatic _ => 3
  | .invokespecial _ => 3
  | .tableswitch _ _ _ offs => 1 + (3 - pc % 4) + 12 + 4 * offs.size
  | _ => 1
section STEP
variable {p : Program} {l : Launch} {e : Env} {R : Room} {s : State} {m : MethodId} {args : Array Value} {below : List Frame} {meth : Method} {c : Code} {H : Heap} {locs : List Loc} {cells slots : Nat} {Q : State → Prop} {cc : ByteArray} {pc nL own : Nat} {ls : Array Slot} {g : GG} {hs h : AH} {P : List IR} {i : Nat} {L S : List Value}
/-- what is owed behind a step -/
def NX (p : Program) (l : Launch) (e : Env) (R : Room) (s : State) (m : MethodId) (args : Array Value) (below : List Frame) (meth : Method) (c : Code) (cells slots : Nat) (Q : State → Prop) (nL : Nat) (g : GG) (hs h : AH) (P : List IR) (z : AS) : Prop :=
  ∀ (ls' : Array Slot) (H' : Heap) (locs' : List Loc), LR g z.2.1 nL ls' → RW g hs z.2.2.2 H' → va_S (AA g) s.heap H' locs' → W p l e R s m args below meth c H' locs' (cells + (hz z.2.2.2 - hz h)) (slots + (hu z.2.2.2 - hu h)) Q (F0 m (pcOf P z.1) ls' (z.2.2.1.map (ph g)))
theorem NX.here {j : Nat} {L' S' : List Value} (n : NX p l e R s m args below meth c cells slots Q nL g hs h P (j, L', S', h)) (hL : LR g L' nL ls) (hW : RW g hs h H) (hS : va_S (AA g) s.heap H locs) {pc' : Nat} (hp : pcOf P j = pc') :
    W p l e R s m args below meth c H locs cells slots Q (F0 m pc' ls (S'.map (ph g))) := by
  have h1 := n ls H locs hL hW hS
  simp only [Nat.sub_self, Nat.add_zero, hp] at h1
  exact h1
end STEP
end
section
section OPS
variable {p : Program} {l : Launch} {e : Env} {R : Room} {s : State} {m : MethodId} {args : Array Value} {below : List Frame} {meth : Method} {c : Code} {H : Heap} {locs : List Loc} {cells slots : Nat} {Q : State → Prop} {cc : ByteArray} {pc nL own : Nat} {ls : Array Slot} {g : GG} {hs h : AH} {P : List IR} {i : Nat} {L S : List Value}

theorem op_iconst {v : Int} (C : CX p s m args c cc nL own g hs) (hd : decode cc pc = .ok (.iconst v, 1)) (hp : pcOf P (i + 1) = pc + 1) (hL : LR g L nL ls) (hW : RW g hs h H) (hS : va_S (AA g) s.heap H locs) 
    (n : NX p l e R s m args below meth c cells slots Q nL g hs h P (i + 1, L, .int (Int32.ofInt v) :: S, h)) : W p l e R s m args below meth c H locs cells slots Q (F0 m pc ls ((S).map (ph g))) := lv_iconst C.1 C.2.1 hd rfl (n.here hL hW hS hp)
theorem op_bipush {v : Int} (C : CX p s m args c cc nL own g hs) (hd : decode cc pc = .ok (.bipush v, 2)) (hp : pcOf P (i + 1) = pc + 2) (hL : LR g L nL ls) (hW : RW g hs h H) (hS : va_S (AA g) s.heap H locs) (hv : (Int8.ofInt v).toInt32 = Int32.ofInt v)
    (n : NX p l e R s m args below meth c cells slots Q nL g hs h P (i + 1, L, .int (Int32.ofInt v) :: S, h)) : W p l e R s m args below meth c H locs cells slots Q (F0 m pc ls ((S).map (ph g))) := lv_bipush C.1 C.2.1 hd hv (n.here hL hW hS hp)
theorem op_sipush {v : Int} (C : CX p s m args c cc nL own g hs) (hd : decode cc pc = .ok (.sipush v, 3)) (hp : pcOf P (i + 1) = pc + 3) (hL : LR g L nL ls) (hW : RW g hs h H) (hS : va_S (AA g) s.heap H locs) (hv : (Int16.ofInt v).toInt32 = Int32.ofInt v)
    (n : NX p l e R s m args below meth c cells slots Q nL g hs h P (i + 1, L, .int (Int32.ofInt v) :: S, h)) : W p l e R s m args below meth c H locs cells slots Q (F0 m pc ls ((S).map (ph g))) := lv_sipush C.1 C.2.1 hd hv (n.here hL hW hS hp)
theorem op_lconst {v : Fin 2} (C : CX p s m args c cc nL own g hs) (hd : decode cc pc = .ok (.lconst v, 1)) (hp : pcOf P (i + 1) = pc + 1) (hL : LR g L nL ls) (hW : RW g hs h H) (hS : va_S (AA g) s.heap H locs) 
    (n : NX p l e R s m args below meth c cells slots Q nL g hs h P (i + 1, L, .long (Int64.ofNat v.val) :: S, h)) : W p l e R s m args below meth c H locs cells slots Q (F0 m pc ls ((S).map (ph g))) := lv_lconst C.1 C.2.1 hd rfl (n.here hL hW hS hp)
theorem op_null  (C : CX p s m args c cc nL own g hs) (hd : decode cc pc = .ok (.aconst_null, 1)) (hp : pcOf P (i + 1) = pc + 1) (hL : LR g L nL ls) (hW : RW g hs h H) (hS : va_S (AA g) s.heap H locs) 
    (n : NX p l e R s m args below meth c cells slots Q nL g hs h P (i + 1, L, .ref 0 :: S, h)) : W p l e R s m args below meth c H locs cells slots Q (F0 m pc ls ((S).map (ph g))) := lv_null C.1 C.2.1 hd (n.here hL hW hS hp)
theorem op_ldc {idx : Nat} {v : Int32} (C : CX p s m args c cc nL own g hs) (hd : decode cc pc = .ok (.ldc idx, 2)) (hp : pcOf P (i + 1) = pc + 2) (hL : LR g L nL ls) (hW : RW g hs h H) (hS : va_S (AA g) s.heap H locs) (hc : Cond.constant (cnm own) idx v ∈ AW)
    (n : NX p l e R s m args below meth c cells slots Q nL g hs h P (i + 1, L, .int v :: S, h)) : W p l e R s m args below meth c H locs cells slots Q (F0 m pc ls ((S).map (ph g))) := lv_ldc C.1 C.2.1 C.2.2.2.1 (C.2.2.2.2.1 _ hc) hd (n.here hL hW hS hp)
theorem op_ldcw {idx : Nat} {v : Int32} (C : CX p s m args c cc nL own g hs) (hd : decode cc pc = .ok (.ldc_w idx, 3)) (hp : pcOf P (i + 1) = pc + 3) (hL : LR g L nL ls) (hW : RW g hs h H) (hS : va_S (AA g) s.heap H locs) (hc : Cond.constant (cnm own) idx v ∈ AW)
    (n : NX p l e R s m args below meth c cells slots Q nL g hs h P (i + 1, L, .int v :: S, h)) : W p l e R s m args below meth c H locs cells slots Q (F0 m pc ls ((S).map (ph g))) := lv_ldcw C.1 C.2.1 C.2.2.2.1 (C.2.2.2.2.1 _ hc) hd (n.here hL hW hS hp)
theorem op_ldc2 {idx : Nat} {v : Int64} (C : CX p s m args c cc nL own g hs) (hd : decode cc pc = .ok (.ldc2_w idx, 3)) (hp : pcOf P (i + 1) = pc + 3) (hL : LR g L nL ls) (hW : RW g hs h H) (hS : va_S (AA g) s.heap H locs) (hc : Cond.constantLong (cnm own) idx v ∈ AW)
    (n : NX p l e R s m args below meth c cells slots Q nL g hs h P (i + 1, L, .long v :: S, h)) : W p l e R s m args below meth c H locs cells slots Q (F0 m pc ls ((S).map (ph g))) := lv_ldc2 C.1 C.2.1 C.2.2.2.1 (C.2.2.2.2.1 _ hc) hd (n.here hL hW hS hp)
theorem op_iload {k : Nat} {v : Int32} (C : CX p s m args c cc nL own g hs) (hd : decode cc pc = .ok (.iload k, 2)) (hp : pcOf P (i + 1) = pc + 2) (hL : LR g L nL ls) (hW : RW g hs h H) (hS : va_S (AA g) s.heap H locs) (hv : L[k]? = some (.int v))
    (n : NX p l e R s m args below meth c cells slots Q nL g hs h P (i + 1, L, .int v :: S, h)) : W p l e R s m args below meth c H locs cells slots Q (F0 m pc ls ((S).map (ph g))) := lv_iload C.1 C.2.1 hd (hL.at hv rfl) (n.here hL hW hS hp)
theorem op_iload_n {k : Fin 4} {v : Int32} (C : CX p s m args c cc nL own g hs) (hd : decode cc pc = .ok (.iload_n k, 1)) (hp : pcOf P (i + 1) = pc + 1) (hL : LR g L nL ls) (hW : RW g hs h H) (hS : va_S (AA g) s.heap H locs) (hv : L[k.val]? = some (.int v))
    (n : NX p l e R s m args below meth c cells slots Q nL g hs h P (i + 1, L, .int v :: S, h)) : W p l e R s m args below meth c H locs cells slots Q (F0 m pc ls ((S).map (ph g))) := lv_iload_n C.1 C.2.1 hd rfl (hL.at hv rfl) (n.here hL hW hS hp)
theorem op_lload {k : Nat} {v : Int64} (C : CX p s m args c cc nL own g hs) (hd : decode cc pc = .ok (.lload k, 2)) (hp : pcOf P (i + 1) = pc + 2) (hL : LR g L nL ls) (hW : RW g hs h H) (hS : va_S (AA g) s.heap H locs) (hv : L[k]? = some (.long v)) (hv2 : L[k + 1]? = some .null)
    (n : NX p l e R s m args below meth c cells slots Q nL g hs h P (i + 1, L, .long v :: S, h)) : W p l e R s m args below meth c H locs cells slots Q (F0 m pc ls ((S).map (ph g))) := lv_lload C.1 C.2.1 hd (hL.at hv (decide_eq_true hv2)) (n.here hL hW hS hp)
theorem op_lload_n {k : Fin 4} {v : Int64} (C : CX p s m args c cc nL own g hs) (hd : decode cc pc = .ok (.lload_n k, 1)) (hp : pcOf P (i + 1) = pc + 1) (hL : LR g L nL ls) (hW : RW g hs h H) (hS : va_S (AA g) s.heap H locs) (hv : L[k.val]? = some (.long v)) (hv2 : L[k.val + 1]? = some .null)
    (n : NX p l e R s m args below meth c cells slots Q nL g hs h P (i + 1, L, .long v :: S, h)) : W p l e R s m args below meth c H locs cells slots Q (F0 m pc ls ((S).map (ph g))) := lv_lload_n C.1 C.2.1 hd rfl (hL.at hv (decide_eq_true hv2)) (n.here hL hW hS hp)
theorem op_aload {k v : Nat} (C : CX p s m args c cc nL own g hs) (hd : decode cc pc = .ok (.aload k, 2)) (hp : pcOf P (i + 1) = pc + 2) (hL : LR g L nL ls) (hW : RW g hs h H) (hS : va_S (AA g) s.heap H locs) (hv : L[k]? = some (.ref v))
    (n : NX p l e R s m args below meth c cells slots Q nL g hs h P (i + 1, L, .ref v :: S, h)) : W p l e R s m args below meth c H locs cells slots Q (F0 m pc ls ((S).map (ph g))) := by
  have h1 := hL.at hv rfl
  have n' := n.here hL hW hS hp
  have e0 : ph g (.ref v) = va_rf (rq g v) := rfl
  rw [List.map_cons, e0] at n'
  rw [e0] at h1
  cases hq : rq g v with
  | none => rw [hq] at h1 n'; exact lv_aloadN C.1 C.2.1 hd h1 n'
  | some x => rw [hq] at h1 n'; exact lv_aload C.1 C.2.1 hd h1 n'
theorem op_aload_n {k : Fin 4} {v : Nat} (C : CX p s m args c cc nL own g hs) (hd : decode cc pc = .ok (.aload_n k, 1)) (hp : pcOf P (i + 1) = pc + 1) (hL : LR g L nL ls) (hW : RW g hs h H) (hS : va_S (AA g) s.heap H locs) (hv : L[k.val]? = some (.ref v))
    (n : NX p l e R s m args below meth c cells slots Q nL g hs h P (i + 1, L, .ref v :: S, h)) : W p l e R s m args below meth c H locs cells slots Q (F0 m pc ls ((S).map (ph g))) := by
  have h1 := hL.at hv rfl
  have n' := n.here hL hW hS hp
  have e0 : ph g (.ref v) = va_rf (rq g v) := rfl
  rw [List.map_cons, e0] at n'
  rw [e0] at h1
  cases hq : rq g v with
  | none => rw [hq] at h1 n'; exact lv_aload_nN C.1 C.2.1 hd rfl h1 n'
  | some x => rw [hq] at h1 n'; exact lv_aload_n C.1 C.2.1 hd rfl h1 n'
theorem op_istore {k : Nat} {v : Int32} (C : CX p s m args c cc nL own g hs) (hd : decode cc pc = .ok (.istore k, 2)) (hp : pcOf P (i + 1) = pc + 2) (hL : LR g L nL ls) (hW : RW g hs h H) (hS : va_S (AA g) s.heap H locs) (hk : k < nL)
    (n : NX p l e R s m args below meth c cells slots Q nL g hs h P (i + 1, L.set k (.int v), S, h)) : W p l e R s m args below meth c H locs cells slots Q (F0 m pc ls ((.int v :: S).map (ph g))) := lv_istore C.1 C.2.1 hd hL.2 hk rfl (fun ls' h' => n.here (LR.set1 hL.1 rfl (fun z => by cases z) h') hW hS hp)
theorem op_istore_n {k : Fin 4} {v : Int32} (C : CX p s m args c cc nL own g hs) (hd : decode cc pc = .ok (.istore_n k, 1)) (hp : pcOf P (i + 1) = pc + 1) (hL : LR g L nL ls) (hW : RW g hs h H) (hS : va_S (AA g) s.heap H locs) (hk : k.val < nL)
    (n : NX p l e R s m args below meth c cells slots Q nL g hs h P (i + 1, L.set k.val (.int v), S, h)) : W p l e R s m args below meth c H locs cells slots Q (F0 m pc ls ((.int v :: S).map (ph g))) := lv_istore_n C.1 C.2.1 hd rfl hL.2 hk rfl (fun ls' h' => n.here (LR.set1 hL.1 rfl (fun z => by cases z) h') hW hS hp)
theorem op_lstore {k : Nat} {v : Int64} (C : CX p s m args c cc nL own g hs) (hd : decode cc pc = .ok (.lstore k, 2)) (hp : pcOf P (i + 1) = pc + 2) (hL : LR g L nL ls) (hW : RW g hs h H) (hS : va_S (AA g) s.heap H locs) (hk : k + 1 < nL)
    (n : NX p l e R s m args below meth c cells slots Q nL g hs h P (i + 1, (L.set k (.long v)).set (k + 1) .null, S, h)) : W p l e R s m args below meth c H locs cells slots Q (F0 m pc ls ((.long v :: S).map (ph g))) := lv_lstore C.1 C.2.1 hd hL.2 hk rfl (fun ls' h' => n.here (LR.set2 hL.1 h') hW hS hp)
theorem op_lstore_n {k : Fin 4} {v : Int64} (C : CX p s m args c cc nL own g hs) (hd : decode cc pc = .ok (.lstore_n k, 1)) (hp : pcOf P (i + 1) = pc + 1) (hL : LR g L nL ls) (hW : RW g hs h H) (hS : va_S (AA g) s.heap H locs) (hk : k.val + 1 < nL)
    (n : NX p l e R s m args below meth c cells slots Q nL g hs h P (i + 1, (L.set k.val (.long v)).set (k.val + 1) .null, S, h)) : W p l e R s m args below meth c H locs cells slots Q (F0 m pc ls ((.long v :: S).map (ph g))) := lv_lstore_n C.1 C.2.1 hd rfl hL.2 hk rfl (fun ls' h' => n.here (LR.set2 hL.1 h') hW hS hp)
theorem op_astore {k v : Nat} (C : CX p s m args c cc nL own g hs) (hd : decode cc pc = .ok (.astore k, 2)) (hp : pcOf P (i + 1) = pc + 2) (hL : LR g L nL ls) (hW : RW g hs h H) (hS : va_S (AA g) s.heap H locs) (hk : k < nL)
    (n : NX p l e R s m args below meth c cells slots Q nL g hs h P (i + 1, L.set k (.ref v), S, h)) : W p l e R s m args below meth c H locs cells slots Q (F0 m pc ls ((.ref v :: S).map (ph g))) := by
  have e0 : ph g (.ref v) = va_rf (rq g v) := rfl
  rw [List.map_cons, e0]
  cases hq : rq g v with
  | none => exact lv_astoreN C.1 C.2.1 hd hL.2 hk rfl (fun ls' h' => n.here (LR.set1 hL.1 rfl (fun z => by cases z) (by rw [e0, hq]; exact h')) hW hS hp)
  | some x => exact lv_astore C.1 C.2.1 hd hL.2 hk rfl (fun ls' h' => n.here (LR.set1 hL.1 rfl (fun z => by cases z) (by rw [e0, hq]; exact h')) hW hS hp)
theorem op_astore_n {k : Fin 4} {v : Nat} (C : CX p s m args c cc nL own g hs) (hd : decode cc pc = .ok (.astore_n k, 1)) (hp : pcOf P (i + 1) = pc + 1) (hL : LR g L nL ls) (hW : RW g hs h H) (hS : va_S (AA g) s.heap H locs) (hk : k.val < nL)
    (n : NX p l e R s m args below meth c cells slots Q nL g hs h P (i + 1, L.set k.val (.ref v), S, h)) : W p l e R s m args below meth c H locs cells slots Q (F0 m pc ls ((.ref v :: S).map (ph g))) := by
  have e0 : ph g (.ref v) = va_rf (rq g v) := rfl
  rw [List.map_cons, e0]
  cases hq : rq g v with
  | none => exact lv_astore_nN C.1 C.2.1 hd rfl hL.2 hk rfl (fun ls' h' => n.here (LR.set1 hL.1 rfl (fun z => by cases z) (by rw [e0, hq]; exact h')) hW hS hp)
  | some x => exact lv_astore_n C.1 C.2.1 hd rfl hL.2 hk rfl (fun ls' h' => n.here (LR.set1 hL.1 rfl (fun z => by cases z) (by rw [e0, hq]; exact h')) hW hS hp)
theorem op_iinc {k : Nat} {v : Int32} {q : Int} (C : CX p s m args c cc nL own g hs) (hd : decode cc pc = .ok (.iinc k q, 3)) (hp : pcOf P (i + 1) = pc + 3) (hL : LR g L nL ls) (hW : RW g hs h H) (hS : va_S (AA g) s.heap H locs) (hv : L[k]? = some (.int v))
    (n : NX p l e R s m args below meth c cells slots Q nL g hs h P (i + 1, L.set k (.int (v + Int32.ofInt q)), S, h)) : W p l e R s m args below meth c H locs cells slots Q (F0 m pc ls ((S).map (ph g))) := by
  have hk : k < nL := by rw [← hL.1]; exact (List.getElem?_eq_some_iff.mp hv).1
  obtain ⟨j, hj⟩ := List.getElem?_of_mem (mem_lvOf (g := g) (q := (k, .int v)).mpr ⟨_, hv, rfl, rfl⟩)
  exact lv_iinc C.1 C.2.1 hd hL.2 hj rfl hk rfl (fun ls' h' => n.here (LR.set1 hL.1 rfl (fun z => by cases z) h') hW hS hp)
theorem op_iadd {x y : Int32} (C : CX p s m args c cc nL own g hs) (hd : decode cc pc = .ok (.iadd, 1)) (hp : pcOf P (i + 1) = pc + 1) (hL : LR g L nL ls) (hW : RW g hs h H) (hS : va_S (AA g) s.heap H locs) 
    (n : NX p l e R s m args below meth c cells slots Q nL g hs h P (i + 1, L, .int (x + y) :: S, h)) : W p l e R s m args below meth c H locs cells slots Q (F0 m pc ls ((.int y :: .int x :: S).map (ph g))) := lv_iadd C.1 C.2.1 hd (n.here hL hW hS hp)
theorem op_isub {x y : Int32} (C : CX p s m args c cc nL own g hs) (hd : decode cc pc = .ok (.isub, 1)) (hp : pcOf P (i + 1) = pc + 1) (hL : LR g L nL ls) (hW : RW g hs h H) (hS : va_S (AA g) s.heap H locs) 
    (n : NX p l e R s m args below meth c cells slots Q nL g hs h P (i + 1, L, .int (x - y) :: S, h)) : W p l e R s m args below meth c H locs cells slots Q (F0 m pc ls ((.int y :: .int x :: S).map (ph g))) := lv_isub C.1 C.2.1 hd (n.here hL hW hS hp)
theorem op_imul {x y : Int32} (C : CX p s m args c cc nL own g hs) (hd : decode cc pc = .ok (.imul, 1)) (hp : pcOf P (i + 1) = pc + 1) (hL : LR g L nL ls) (hW : RW g hs h H) (hS : va_S (AA g) s.heap H locs) 
    (n : NX p l e R s m args below meth c cells slots Q nL g hs h P (i + 1, L, .int (x * y) :: S, h)) : W p l e R s m args below meth c H locs cells slots Q (F0 m pc ls ((.int y :: .int x :: S).map (ph g))) := lv_imul C.1 C.2.1 hd (n.here hL hW hS hp)
theorem op_iand {x y : Int32} (C : CX p s m args c cc nL own g hs) (hd : decode cc pc = .ok (.iand, 1)) (hp : pcOf P (i + 1) = pc + 1) (hL : LR g L nL ls) (hW : RW g hs h H) (hS : va_S (AA g) s.heap H locs) 
    (n : NX p l e R s m args below meth c cells slots Q nL g hs h P (i + 1, L, .int (x &&& y) :: S, h)) : W p l e R s m args below meth c H locs cells slots Q (F0 m pc ls ((.int y :: .int x :: S).map (ph g))) := lv_iand C.1 C.2.1 hd (n.here hL hW hS hp)
theorem op_ior {x y : Int32} (C : CX p s m args c cc nL own g hs) (hd : decode cc pc = .ok (.ior, 1)) (hp : pcOf P (i + 1) = pc + 1) (hL : LR g L nL ls) (hW : RW g hs h H) (hS : va_S (AA g) s.heap H locs) 
    (n : NX p l e R s m args below meth c cells slots Q nL g hs h P (i + 1, L, .int (x ||| y) :: S, h)) : W p l e R s m args below meth c H locs cells slots Q (F0 m pc ls ((.int y :: .int x :: S).map (ph g))) := lv_ior C.1 C.2.1 hd (n.here hL hW hS hp)
theorem op_ishl {x y : Int32} (C : CX p s m args c cc nL own g hs) (hd : decode cc pc = .ok (.ishl, 1)) (hp : pcOf P (i + 1) = pc + 1) (hL : LR g L nL ls) (hW : RW g hs h H) (hS : va_S (AA g) s.heap H locs) 
    (n : NX p l e R s m args below meth c cells slots Q nL g hs h P (i + 1, L, .int (x <<< (y &&& 31)) :: S, h)) : W p l e R s m args below meth c H locs cells slots Q (F0 m pc ls ((.int y :: .int x :: S).map (ph g))) := lv_ishl C.1 C.2.1 hd (n.here hL hW hS hp)
theorem op_ishr {x y : Int32} (C : CX p s m args c cc nL own g hs) (hd : decode cc pc = .ok (.ishr, 1)) (hp : pcOf P (i + 1) = pc + 1) (hL : LR g L nL ls) (hW : RW g hs h H) (hS : va_S (AA g) s.heap H locs) 
    (n : NX p l e R s m args below meth c cells slots Q nL g hs h P (i + 1, L, .int (x >>> (y &&& 31)) :: S, h)) : W p l e R s m args below meth c H locs cells slots Q (F0 m pc ls ((.int y :: .int x :: S).map (ph g))) := lv_ishr C.1 C.2.1 hd (n.here hL hW hS hp)
theorem op_idiv {x y : Int32} (C : CX p s m args c cc nL own g hs) (hd : decode cc pc = .ok (.idiv, 1)) (hp : pcOf P (i + 1) = pc + 1) (hL : LR g L nL ls) (hW : RW g hs h H) (hS : va_S (AA g) s.heap H locs) (hy : ¬ y = 0)
    (n : NX p l e R s m args below meth c cells slots Q nL g hs h P (i + 1, L, .int (x / y) :: S, h)) : W p l e R s m args below meth c H locs cells slots Q (F0 m pc ls ((.int y :: .int x :: S).map (ph g))) := lv_idiv C.1 C.2.1 hd hy (n.here hL hW hS hp)
theorem op_irem {x y : Int32} (C : CX p s m args c cc nL own g hs) (hd : decode cc pc = .ok (.irem, 1)) (hp : pcOf P (i + 1) = pc + 1) (hL : LR g L nL ls) (hW : RW g hs h H) (hS : va_S (AA g) s.heap H locs) (hy : ¬ y = 0)
    (n : NX p l e R s m args below meth c cells slots Q nL g hs h P (i + 1, L, .int (x - x / y * y) :: S, h)) : W p l e R s m args below meth c H locs cells slots Q (F0 m pc ls ((.int y :: .int x :: S).map (ph g))) := lv_irem C.1 C.2.1 hd hy (n.here hL hW hS hp)
theorem op_ineg {x : Int32} (C : CX p s m args c cc nL own g hs) (hd : decode cc pc = .ok (.ineg, 1)) (hp : pcOf P (i + 1) = pc + 1) (hL : LR g L nL ls) (hW : RW g hs h H) (hS : va_S (AA g) s.heap H locs) 
    (n : NX p l e R s m args below meth c cells slots Q nL g hs h P (i + 1, L, .int (-x) :: S, h)) : W p l e R s m args below meth c H locs cells slots Q (F0 m pc ls ((.int x :: S).map (ph g))) := lv_ineg C.1 C.2.1 hd (n.here hL hW hS hp)
theorem op_ladd {x y : Int64} (C : CX p s m args c cc nL own g hs) (hd : decode cc pc = .ok (.ladd, 1)) (hp : pcOf P (i + 1) = pc + 1) (hL : LR g L nL ls) (hW : RW g hs h H) (hS : va_S (AA g) s.heap H locs) 
    (n : NX p l e R s m args below meth c cells slots Q nL g hs h P (i + 1, L, .long (x + y) :: S, h)) : W p l e R s m args below meth c H locs cells slots Q (F0 m pc ls ((.long y :: .long x :: S).map (ph g))) := lv_ladd C.1 C.2.1 hd (n.here hL hW hS hp)
theorem op_lsub {x y : Int64} (C : CX p s m args c cc nL own g hs) (hd : decode cc pc = .ok (.lsub, 1)) (hp : pcOf P (i + 1) = pc + 1) (hL : LR g L nL ls) (hW : RW g hs h H) (hS : va_S (AA g) s.heap H locs) 
    (n : NX p l e R s m args below meth c cells slots Q nL g hs h P (i + 1, L, .long (x - y) :: S, h)) : W p l e R s m args below meth c H locs cells slots Q (F0 m pc ls ((.long y :: .long x :: S).map (ph g))) := lv_lsub C.1 C.2.1 hd (n.here hL hW hS hp)
theorem op_lmul {x y : Int64} (C : CX p s m args c cc nL own g hs) (hd : decode cc pc = .ok (.lmul, 1)) (hp : pcOf P (i + 1) = pc + 1) (hL : LR g L nL ls) (hW : RW g hs h H) (hS : va_S (AA g) s.heap H locs) 
    (n : NX p l e R s m args below meth c cells slots Q nL g hs h P (i + 1, L, .long (x * y) :: S, h)) : W p l e R s m args below meth c H locs cells slots Q (F0 m pc ls ((.long y :: .long x :: S).map (ph g))) := lv_lmul C.1 C.2.1 hd (n.here hL hW hS hp)
theorem op_land {x y : Int64} (C : CX p s m args c cc nL own g hs) (hd : decode cc pc = .ok (.land, 1)) (hp : pcOf P (i + 1) = pc + 1) (hL : LR g L nL ls) (hW : RW g hs h H) (hS : va_S (AA g) s.heap H locs) 
    (n : NX p l e R s m args below meth c cells slots Q nL g hs h P (i + 1, L, .long (x &&& y) :: S, h)) : W p l e R s m args below meth c H locs cells slots Q (F0 m pc ls ((.long y :: .long x :: S).map (ph g))) := lv_land C.1 C.2.1 hd (n.here hL hW hS hp)
theorem op_lor {x y : Int64} (C : CX p s m args c cc nL own g hs) (hd : decode cc pc = .ok (.lor, 1)) (hp : pcOf P (i + 1) = pc + 1) (hL : LR g L nL ls) (hW : RW g hs h H) (hS : va_S (AA g) s.heap H locs) 
    (n : NX p l e R s m args below meth c cells slots Q nL g hs h P (i + 1, L, .long (x ||| y) :: S, h)) : W p l e R s m args below meth c H locs cells slots Q (F0 m pc ls ((.long y :: .long x :: S).map (ph g))) := lv_lor C.1 C.2.1 hd (n.here hL hW hS hp)
theorem op_ldiv {x y : Int64} (C : CX p s m args c cc nL own g hs) (hd : decode cc pc = .ok (.ldiv, 1)) (hp : pcOf P (i + 1) = pc + 1) (hL : LR g L nL ls) (hW : RW g hs h H) (hS : va_S (AA g) s.heap H locs) (hy : ¬ y = 0)
    (n : NX p l e R s m args below meth c cells slots Q nL g hs h P (i + 1, L, .long (x / y) :: S, h)) : W p l e R s m args below meth c H locs cells slots Q (F0 m pc ls ((.long y :: .long x :: S).map (ph g))) := lv_ldiv C.1 C.2.1 hd hy (n.here hL hW hS hp)
theorem op_lrem {x y : Int64} (C : CX p s m args c cc nL own g hs) (hd : decode cc pc = .ok (.lrem, 1)) (hp : pcOf P (i + 1) = pc + 1) (hL : LR g L nL ls) (hW : RW g hs h H) (hS : va_S (AA g) s.heap H locs) (hy : ¬ y = 0)
    (n : NX p l e R s m args below meth c cells slots Q nL g hs h P (i + 1, L, .long (x - x / y * y) :: S, h)) : W p l e R s m args below meth c H locs cells slots Q (F0 m pc ls ((.long y :: .long x :: S).map (ph g))) := lv_lrem C.1 C.2.1 hd hy (n.here hL hW hS hp)
theorem op_lneg {x : Int64} (C : CX p s m args c cc nL own g hs) (hd : decode cc pc = .ok (.lneg, 1)) (hp : pcOf P (i + 1) = pc + 1) (hL : LR g L nL ls) (hW : RW g hs h H) (hS : va_S (AA g) s.heap H locs) 
    (n : NX p l e R s m args below meth c cells slots Q nL g hs h P (i + 1, L, .long (-x) :: S, h)) : W p l e R s m args below meth c H locs cells slots Q (F0 m pc ls ((.long x :: S).map (ph g))) := lv_lneg C.1 C.2.1 hd (n.here hL hW hS hp)
theorem op_lshl {x : Int64} {y : Int32} (C : CX p s m args c cc nL own g hs) (hd : decode cc pc = .ok (.lshl, 1)) (hp : pcOf P (i + 1) = pc + 1) (hL : LR g L nL ls) (hW : RW g hs h H) (hS : va_S (AA g) s.heap H locs) 
    (n : NX p l e R s m args below meth c cells slots Q nL g hs h P (i + 1, L, .long (x <<< (y.toInt64 &&& 63)) :: S, h)) : W p l e R s m args below meth c H locs cells slots Q (F0 m pc ls ((.int y :: .long x :: S).map (ph g))) := lv_lshl C.1 C.2.1 hd rfl (n.here hL hW hS hp)
theorem op_lshr {x : Int64} {y : Int32} (C : CX p s m args c cc nL own g hs) (hd : decode cc pc = .ok (.lshr, 1)) (hp : pcOf P (i + 1) = pc + 1) (hL : LR g L nL ls) (hW : RW g hs h H) (hS : va_S (AA g) s.heap H locs) 
    (n : NX p l e R s m args below meth c cells slots Q nL g hs h P (i + 1, L, .long (x >>> (y.toInt64 &&& 63)) :: S, h)) : W p l e R s m args below meth c H locs cells slots Q (F0 m pc ls ((.int y :: .long x :: S).map (ph g))) := lv_lshr C.1 C.2.1 hd rfl (n.here hL hW hS hp)
theorem op_lushr {x : Int64} {y : Int32} (C : CX p s m args c cc nL own g hs) (hd : decode cc pc = .ok (.lushr, 1)) (hp : pcOf P (i + 1) = pc + 1) (hL : LR g L nL ls) (hW : RW g hs h H) (hS : va_S (AA g) s.heap H locs) 
    (n : NX p l e R s m args below meth c cells slots Q nL g hs h P (i + 1, L, .long ((x.toUInt64 >>> (y.toInt64.toUInt64 &&& Int64.toUInt64 63)).toInt64) :: S, h)) : W p l e R s m args below meth c H locs cells slots Q (F0 m pc ls ((.int y :: .long x :: S).map (ph g))) := lv_lushr C.1 C.2.1 hd rfl (n.here hL hW hS hp)
theorem op_lcmp {x y : Int64} (C : CX p s m args c cc nL own g hs) (hd : decode cc pc = .ok (.lcmp, 1)) (hp : pcOf P (i + 1) = pc + 1) (hL : LR g L nL ls) (hW : RW g hs h H) (hS : va_S (AA g) s.heap H locs) 
    (n : NX p l e R s m args below meth c cells slots Q nL g hs h P (i + 1, L, .int (lg_cmp x y) :: S, h)) : W p l e R s m args below meth c H locs cells slots Q (F0 m pc ls ((.long y :: .long x :: S).map (ph g))) := W.lcmp C.1 C.2.1 hd (n.here hL hW hS hp)
theorem op_i2l {x : Int32} (C : CX p s m args c cc nL own g hs) (hd : decode cc pc = .ok (.i2l, 1)) (hp : pcOf P (i + 1) = pc + 1) (hL : LR g L nL ls) (hW : RW g hs h H) (hS : va_S (AA g) s.heap H locs) 
    (n : NX p l e R s m args below meth c cells slots Q nL g hs h P (i + 1, L, .long x.toInt64 :: S, h)) : W p l e R s m args below meth c H locs cells slots Q (F0 m pc ls ((.int x :: S).map (ph g))) := lv_i2l C.1 C.2.1 hd rfl (n.here hL hW hS hp)
theorem op_l2i {x : Int64} (C : CX p s m args c cc nL own g hs) (hd : decode cc pc = .ok (.l2i, 1)) (hp : pcOf P (i + 1) = pc + 1) (hL : LR g L nL ls) (hW : RW g hs h H) (hS : va_S (AA g) s.heap H locs) 
    (n : NX p l e R s m args below meth c cells slots Q nL g hs h P (i + 1, L, .int x.toInt32 :: S, h)) : W p l e R s m args below meth c H locs cells slots Q (F0 m pc ls ((.long x :: S).map (ph g))) := lv_l2i C.1 C.2.1 hd rfl (n.here hL hW hS hp)
theorem op_i2c {x : Int32} (C : CX p s m args c cc nL own g hs) (hd : decode cc pc = .ok (.i2c, 1)) (hp : pcOf P (i + 1) = pc + 1) (hL : LR g L nL ls) (hW : RW g hs h H) (hS : va_S (AA g) s.heap H locs) 
    (n : NX p l e R s m args below meth c cells slots Q nL g hs h P (i + 1, L, .int (x.toUInt32 % 65536).toInt32 :: S, h)) : W p l e R s m args below meth c H locs cells slots Q (F0 m pc ls ((.int x :: S).map (ph g))) := lv_i2c C.1 C.2.1 hd rfl (n.here hL hW hS hp)
theorem op_dup {v : Value} (C : CX p s m args c cc nL own g hs) (hd : decode cc pc = .ok (.dup, 1)) (hp : pcOf P (i + 1) = pc + 1) (hL : LR g L nL ls) (hW : RW g hs h H) (hS : va_S (AA g) s.heap H locs) (hv : v.category = 1)
    (n : NX p l e R s m args below meth c cells slots Q nL g hs h P (i + 1, L, v :: v :: S, h)) : W p l e R s m args below meth c H locs cells slots Q (F0 m pc ls ((v :: S).map (ph g))) := lv_dup C.1 C.2.1 hd ((ph_cat2 g v).trans hv) (n.here hL hW hS hp)
theorem op_dup2a {v w : Value} (C : CX p s m args c cc nL own g hs) (hd : decode cc pc = .ok (.dup2, 1)) (hp : pcOf P (i + 1) = pc + 1) (hL : LR g L nL ls) (hW : RW g hs h H) (hS : va_S (AA g) s.heap H locs) (hv : v.category = 1) (hw : w.category = 1)
    (n : NX p l e R s m args below meth c cells slots Q nL g hs h P (i + 1, L, v :: w :: v :: w :: S, h)) : W p l e R s m args below meth c H locs cells slots Q (F0 m pc ls ((v :: w :: S).map (ph g))) := lv_dup2_11 C.1 C.2.1 hd ((ph_cat2 g v).trans hv) ((ph_cat2 g w).trans hw) (n.here hL hW hS hp)
theorem op_dup2b {v : Value} (C : CX p s m args c cc nL own g hs) (hd : decode cc pc = .ok (.dup2, 1)) (hp : pcOf P (i + 1) = pc + 1) (hL : LR g L nL ls) (hW : RW g hs h H) (hS : va_S (AA g) s.heap H locs) (hv : v.category = 2)
    (n : NX p l e R s m args below meth c cells slots Q nL g hs h P (i + 1, L, v :: v :: S, h)) : W p l e R s m args below meth c H locs cells slots Q (F0 m pc ls ((v :: S).map (ph g))) := lv_dup2_2 C.1 C.2.1 hd ((ph_cat2 g v).trans hv) (n.here hL hW hS hp)
theorem op_pop {v : Value} (C : CX p s m args c cc nL own g hs) (hd : decode cc pc = .ok (.pop, 1)) (hp : pcOf P (i + 1) = pc + 1) (hL : LR g L nL ls) (hW : RW g hs h H) (hS : va_S (AA g) s.heap H locs) (hv : v.category = 1)
    (n : NX p l e R s m args below meth c cells slots Q nL g hs h P (i + 1, L, S, h)) : W p l e R s m args below meth c H locs cells slots Q (F0 m pc ls ((v :: S).map (ph g))) := lv_pop C.1 C.2.1 hd ((ph_cat2 g v).trans hv) (n.here hL hW hS hp)
theorem op_goto {t : Nat} {off : Int} (C : CX p s m args c cc nL own g hs) (hd : decode cc pc = .ok (.goto off, 3)) (ht : (pc : Int) + off = (pcOf P t : Int)) (hL : LR g L nL ls) (hW : RW g hs h H) (hS : va_S (AA g) s.heap H locs) (n : NX p l e R s m args below meth c cells slots Q nL g hs h P (t, L, S, h)) : W p l e R s m args below meth c H locs cells slots Q (F0 m pc ls (S.map (ph g))) := lv_goto C.1 C.2.1 hd ht (n.here hL hW hS rfl)
theorem op_if_eq {x : Int32} {t : Nat} {off : Int} (C : CX p s m args c cc nL own g hs) (hd : decode cc pc = .ok (.ifCond .eq off, 3)) (hp : pcOf P (i + 1) = pc + 3) (ht : (pc : Int) + off = (pcOf P t : Int)) (hL : LR g L nL ls) (hW : RW g hs h H) (hS : va_S (AA g) s.heap H locs) (n1 : (x = 0) → NX p l e R s m args below meth c cells slots Q nL g hs h P (t, L, S, h)) (n2 : ¬ (x = 0) → NX p l e R s m args below meth c cells slots Q nL g hs h P (i + 1, L, S, h)) : W p l e R s m args below meth c H locs cells slots Q (F0 m pc ls ((.int x :: S).map (ph g))) := lv_if_eq C.1 C.2.1 hd ht (fun q => (n1 (by first | exact q | (intro z; exact q z))).here hL hW hS rfl) (fun q => (n2 (by first | exact q | (intro z; exact z q) | (intro z; exact q z))).here hL hW hS hp)
theorem op_icmp_eq {x y : Int32} {t : Nat} {off : Int} (C : CX p s m args c cc nL own g hs) (hd : decode cc pc = .ok (.if_icmp .eq off, 3)) (hp : pcOf P (i + 1) = pc + 3) (ht : (pc : Int) + off = (pcOf P t : Int)) (hL : LR g L nL ls) (hW : RW g hs h H) (hS : va_S (AA g) s.heap H locs) (n1 : (x = y) → NX p l e R s m args below meth c cells slots Q nL g hs h P (t, L, S, h)) (n2 : ¬ (x = y) → NX p l e R s m args below meth c cells slots Q nL g hs h P (i + 1, L, S, h)) : W p l e R s m args below meth c H locs cells slots Q (F0 m pc ls ((.int y :: .int x :: S).map (ph g))) := lv_icmp_eq C.1 C.2.1 hd ht (fun q => (n1 (by first | exact q | (intro z; exact q z))).here hL hW hS rfl) (fun q => (n2 (by first | exact q | (intro z; exact z q) | (intro z; exact q z))).here hL hW hS hp)
theorem op_if_ne {x : Int32} {t : Nat} {off : Int} (C : CX p s m args c cc nL own g hs) (hd : decode cc pc = .ok (.ifCond .ne off, 3)) (hp : pcOf P (i + 1) = pc + 3) (ht : (pc : Int) + off = (pcOf P t : Int)) (hL : LR g L nL ls) (hW : RW g hs h H) (hS : va_S (AA g) s.heap H locs) (n1 : (¬ x = 0) → NX p l e R s m args below meth c cells slots Q nL g hs h P (t, L, S, h)) (n2 : ¬ (¬ x = 0) → NX p l e R s m args below meth c cells slots Q nL g hs h P (i + 1, L, S, h)) : W p l e R s m args below meth c H locs cells slots Q (F0 m pc ls ((.int x :: S).map (ph g))) := lv_if_ne C.1 C.2.1 hd ht (fun q => (n1 (by first | exact q | (intro z; exact q z))).here hL hW hS rfl) (fun q => (n2 (by first | exact q | (intro z; exact z q) | (intro z; exact q z))).here hL hW hS hp)
theorem op_icmp_ne {x y : Int32} {t : Nat} {off : Int} (C : CX p s m args c cc nL own g hs) (hd : decode cc pc = .ok (.if_icmp .ne off, 3)) (hp : pcOf P (i + 1) = pc + 3) (ht : (pc : Int) + off = (pcOf P t : Int)) (hL : LR g L nL ls) (hW : RW g hs h H) (hS : va_S (AA g) s.heap H locs) (n1 : (¬ x = y) → NX p l e R s m args below meth c cells slots Q nL g hs h P (t, L, S, h)) (n2 : ¬ (¬ x = y) → NX p l e R s m args below meth c cells slots Q nL g hs h P (i + 1, L, S, h)) : W p l e R s m args below meth c H locs cells slots Q (F0 m pc ls ((.int y :: .int x :: S).map (ph g))) := lv_icmp_ne C.1 C.2.1 hd ht (fun q => (n1 (by first | exact q | (intro z; exact q z))).here hL hW hS rfl) (fun q => (n2 (by first | exact q | (intro z; exact z q) | (intro z; exact q z))).here hL hW hS hp)
theorem op_if_lt {x : Int32} {t : Nat} {off : Int} (C : CX p s m args c cc nL own g hs) (hd : decode cc pc = .ok (.ifCond .lt off, 3)) (hp : pcOf P (i + 1) = pc + 3) (ht : (pc : Int) + off = (pcOf P t : Int)) (hL : LR g L nL ls) (hW : RW g hs h H) (hS : va_S (AA g) s.heap H locs) (n1 : (x < 0) → NX p l e R s m args below meth c cells slots Q nL g hs h P (t, L, S, h)) (n2 : ¬ (x < 0) → NX p l e R s m args below meth c cells slots Q nL g hs h P (i + 1, L, S, h)) : W p l e R s m args below meth c H locs cells slots Q (F0 m pc ls ((.int x :: S).map (ph g))) := lv_if_lt C.1 C.2.1 hd ht (fun q => (n1 (by first | exact q | (intro z; exact q z))).here hL hW hS rfl) (fun q => (n2 (by first | exact q | (intro z; exact z q) | (intro z; exact q z))).here hL hW hS hp)
theorem op_icmp_lt {x y : Int32} {t : Nat} {off : Int} (C : CX p s m args c cc nL own g hs) (hd : decode cc pc = .ok (.if_icmp .lt off, 3)) (hp : pcOf P (i + 1) = pc + 3) (ht : (pc : Int) + off = (pcOf P t : Int)) (hL : LR g L nL ls) (hW : RW g hs h H) (hS : va_S (AA g) s.heap H locs) (n1 : (x < y) → NX p l e R s m args below meth c cells slots Q nL g hs h P (t, L, S, h)) (n2 : ¬ (x < y) → NX p l e R s m args below meth c cells slots Q nL g hs h P (i + 1, L, S, h)) : W p l e R s m args below meth c H locs cells slots Q (F0 m pc ls ((.int y :: .int x :: S).map (ph g))) := lv_icmp_lt C.1 C.2.1 hd ht (fun q => (n1 (by first | exact q | (intro z; exact q z))).here hL hW hS rfl) (fun q => (n2 (by first | exact q | (intro z; exact z q) | (intro z; exact q z))).here hL hW hS hp)
theorem op_if_ge {x : Int32} {t : Nat} {off : Int} (C : CX p s m args c cc nL own g hs) (hd : decode cc pc = .ok (.ifCond .ge off, 3)) (hp : pcOf P (i + 1) = pc + 3) (ht : (pc : Int) + off = (pcOf P t : Int)) (hL : LR g L nL ls) (hW : RW g hs h H) (hS : va_S (AA g) s.heap H locs) (n1 : (0 ≤ x) → NX p l e R s m args below meth c cells slots Q nL g hs h P (t, L, S, h)) (n2 : ¬ (0 ≤ x) → NX p l e R s m args below meth c cells slots Q nL g hs h P (i + 1, L, S, h)) : W p l e R s m args below meth c H locs cells slots Q (F0 m pc ls ((.int x :: S).map (ph g))) := lv_if_ge C.1 C.2.1 hd ht (fun q => (n1 (by first | exact q | (intro z; exact q z))).here hL hW hS rfl) (fun q => (n2 (by first | exact q | (intro z; exact z q) | (intro z; exact q z))).here hL hW hS hp)
theorem op_icmp_ge {x y : Int32} {t : Nat} {off : Int} (C : CX p s m args c cc nL own g hs) (hd : decode cc pc = .ok (.if_icmp .ge off, 3)) (hp : pcOf P (i + 1) = pc + 3) (ht : (pc : Int) + off = (pcOf P t : Int)) (hL : LR g L nL ls) (hW : RW g hs h H) (hS : va_S (AA g) s.heap H locs) (n1 : (y ≤ x) → NX p l e R s m args below meth c cells slots Q nL g hs h P (t, L, S, h)) (n2 : ¬ (y ≤ x) → NX p l e R s m args below meth c cells slots Q nL g hs h P (i + 1, L, S, h)) : W p l e R s m args below meth c H locs cells slots Q (F0 m pc ls ((.int y :: .int x :: S).map (ph g))) := lv_icmp_ge C.1 C.2.1 hd ht (fun q => (n1 (by first | exact q | (intro z; exact q z))).here hL hW hS rfl) (fun q => (n2 (by first | exact q | (intro z; exact z q) | (intro z; exact q z))).here hL hW hS hp)
theorem op_if_gt {x : Int32} {t : Nat} {off : Int} (C : CX p s m args c cc nL own g hs) (hd : decode cc pc = .ok (.ifCond .gt off, 3)) (hp : pcOf P (i + 1) = pc + 3) (ht : (pc : Int) + off = (pcOf P t : Int)) (hL : LR g L nL ls) (hW : RW g hs h H) (hS : va_S (AA g) s.heap H locs) (n1 : (0 < x) → NX p l e R s m args below meth c cells slots Q nL g hs h P (t, L, S, h)) (n2 : ¬ (0 < x) → NX p l e R s m args below meth c cells slots Q nL g hs h P (i + 1, L, S, h)) : W p l e R s m args below meth c H locs cells slots Q (F0 m pc ls ((.int x :: S).map (ph g))) := lv_if_gt C.1 C.2.1 hd ht (fun q => (n1 (by first | exact q | (intro z; exact q z))).here hL hW hS rfl) (fun q => (n2 (by first | exact q | (intro z; exact z q) | (intro z; exact q z))).here hL hW hS hp)
theorem op_icmp_gt {x y : Int32} {t : Nat} {off : Int} (C : CX p s m args c cc nL own g hs) (hd : decode cc pc = .ok (.if_icmp .gt off, 3)) (hp : pcOf P (i + 1) = pc + 3) (ht : (pc : Int) + off = (pcOf P t : Int)) (hL : LR g L nL ls) (hW : RW g hs h H) (hS : va_S (AA g) s.heap H locs) (n1 : (y < x) → NX p l e R s m args below meth c cells slots Q nL g hs h P (t, L, S, h)) (n2 : ¬ (y < x) → NX p l e R s m args below meth c cells slots Q nL g hs h P (i + 1, L, S, h)) : W p l e R s m args below meth c H locs cells slots Q (F0 m pc ls ((.int y :: .int x :: S).map (ph g))) := lv_icmp_gt C.1 C.2.1 hd ht (fun q => (n1 (by first | exact q | (intro z; exact q z))).here hL hW hS rfl) (fun q => (n2 (by first | exact q | (intro z; exact z q) | (intro z; exact q z))).here hL hW hS hp)
theorem op_if_le {x : Int32} {t : Nat} {off : Int} (C : CX p s m args c cc nL own g hs) (hd : decode cc pc = .ok (.ifCond .le off, 3)) (hp : pcOf P (i + 1) = pc + 3) (ht : (pc : Int) + off = (pcOf P t : Int)) (hL : LR g L nL ls) (hW : RW g hs h H) (hS : va_S (AA g) s.heap H locs) (n1 : (x ≤ 0) → NX p l e R s m args below meth c cells slots Q nL g hs h P (t, L, S, h)) (n2 : ¬ (x ≤ 0) → NX p l e R s m args below meth c cells slots Q nL g hs h P (i + 1, L, S, h)) : W p l e R s m args below meth c H locs cells slots Q (F0 m pc ls ((.int x :: S).map (ph g))) := lv_if_le C.1 C.2.1 hd ht (fun q => (n1 (by first | exact q | (intro z; exact q z))).here hL hW hS rfl) (fun q => (n2 (by first | exact q | (intro z; exact z q) | (intro z; exact q z))).here hL hW hS hp)
theorem op_icmp_le {x y : Int32} {t : Nat} {off : Int} (C : CX p s m args c cc nL own g hs) (hd : decode cc pc = .ok (.if_icmp .le off, 3)) (hp : pcOf P (i + 1) = pc + 3) (ht : (pc : Int) + off = (pcOf P t : Int)) (hL : LR g L nL ls) (hW : RW g hs h H) (hS : va_S (AA g) s.heap H locs) (n1 : (x ≤ y) → NX p l e R s m args below meth c cells slots Q nL g hs h P (t, L, S, h)) (n2 : ¬ (x ≤ y) → NX p l e R s m args below meth c cells slots Q nL g hs h P (i + 1, L, S, h)) : W p l e R s m args below meth c H locs cells slots Q (F0 m pc ls ((.int y :: .int x :: S).map (ph g))) := lv_icmp_le C.1 C.2.1 hd ht (fun q => (n1 (by first | exact q | (intro z; exact q z))).here hL hW hS rfl) (fun q => (n2 (by first | exact q | (intro z; exact z q) | (intro z; exact q z))).here hL hW hS hp)
theorem op_acmp_eq {x y : Nat} {t : Nat} {off : Int} (C : CX p s m args c cc nL own g hs) (hd : decode cc pc = .ok (.if_acmp .eq off, 3)) (hp : pcOf P (i + 1) = pc + 3) (ht : (pc : Int) + off = (pcOf P t : Int)) (hL : LR g L nL ls) (hW : RW g hs h H) (hS : va_S (AA g) s.heap H locs) (hx : 2 ≤ x ∧ x ≤ 25 ∧ 2 ≤ y ∧ y ≤ 25) (n1 : x = y → NX p l e R s m args below meth c cells slots Q nL g hs h P (t, L, S, h)) (n2 : ¬ x = y → NX p l e R s m args below meth c cells slots Q nL g hs h P (i + 1, L, S, h)) : W p l e R s m args below meth c H locs cells slots Q (F0 m pc ls ((.ref y :: .ref x :: S).map (ph g))) := lv_acmp_eq C.1 C.2.1 hd ht (fun q => (n1 (C.2.2.2.2.2.2.1.2.2.2.2.2.2 x y hx.1 hx.2.1 hx.2.2.1 hx.2.2.2 q)).here hL hW hS rfl) (fun q => (n2 (fun z => q (by rw [z]))).here hL hW hS hp)
theorem op_acmp_ne {x y : Nat} {t : Nat} {off : Int} (C : CX p s m args c cc nL own g hs) (hd : decode cc pc = .ok (.if_acmp .ne off, 3)) (hp : pcOf P (i + 1) = pc + 3) (ht : (pc : Int) + off = (pcOf P t : Int)) (hL : LR g L nL ls) (hW : RW g hs h H) (hS : va_S (AA g) s.heap H locs) (hx : 2 ≤ x ∧ x ≤ 25 ∧ 2 ≤ y ∧ y ≤ 25) (n1 : ¬ x = y → NX p l e R s m args below meth c cells slots Q nL g hs h P (t, L, S, h)) (n2 : x = y → NX p l e R s m args below meth c cells slots Q nL g hs h P (i + 1, L, S, h)) : W p l e R s m args below meth c H locs cells slots Q (F0 m pc ls ((.ref y :: .ref x :: S).map (ph g))) := lv_acmp_ne C.1 C.2.1 hd ht (fun q => (n1 (fun z => q (by rw [z]))).here hL hW hS rfl) (fun q => (n2 (C.2.2.2.2.2.2.1.2.2.2.2.2.2 x y hx.1 hx.2.1 hx.2.2.1 hx.2.2.2 q)).here hL hW hS hp)
theorem op_ifnull {x : Nat} {t : Nat} {off : Int} (C : CX p s m args c cc nL own g hs) (hd : decode cc pc = .ok (.ifnull off, 3)) (hp : pcOf P (i + 1) = pc + 3) (ht : (pc : Int) + off = (pcOf P t : Int)) (hL : LR g L nL ls) (hW : RW g hs h H) (hS : va_S (AA g) s.heap H locs) (hx : x = 0 ∨ 100 ≤ x) (n1 : x = 0 → NX p l e R s m args below meth c cells slots Q nL g hs h P (t, L, S, h)) (n2 : ¬ x = 0 → NX p l e R s m args below meth c cells slots Q nL g hs h P (i + 1, L, S, h)) : W p l e R s m args below meth c H locs cells slots Q (F0 m pc ls ((.ref x :: S).map (ph g))) := by
  rcases hx with hx | hx
  · subst hx
    exact lv_ifnullN C.1 C.2.1 hd ht ((n1 rfl).here hL hW hS rfl)
  · rw [List.map_cons, ph_own hx]
    exact lv_ifnull C.1 C.2.1 hd ((n2 (by omega)).here hL hW hS hp)
theorem op_ifnonnull {x : Nat} {t : Nat} {off : Int} (C : CX p s m args c cc nL own g hs) (hd : decode cc pc = .ok (.ifnonnull off, 3)) (hp : pcOf P (i + 1) = pc + 3) (ht : (pc : Int) + off = (pcOf P t : Int)) (hL : LR g L nL ls) (hW : RW g hs h H) (hS : va_S (AA g) s.heap H locs) (hx : x = 0 ∨ 100 ≤ x) (n1 : ¬ x = 0 → NX p l e R s m args below meth c cells slots Q nL g hs h P (t, L, S, h)) (n2 : x = 0 → NX p l e R s m args below meth c cells slots Q nL g hs h P (i + 1, L, S, h)) : W p l e R s m args below meth c H locs cells slots Q (F0 m pc ls ((.ref x :: S).map (ph g))) := by
  rcases hx with hx | hx
  · subst hx
    exact lv_ifnonnullN C.1 C.2.1 hd ((n2 rfl).here hL hW hS hp)
  · rw [List.map_cons, ph_own hx]
    exact lv_ifnonnull C.1 C.2.1 hd ht ((n1 (by omega)).here hL hW hS rfl)
theorem op_tsw {x : Int32} {dflt lo hi : Int} {offs : Array Int} {ln d : Nat} {ts : List Nat} (C : CX p s m args c cc nL own g hs) (hd : decode cc pc = .ok (.tableswitch dflt lo hi offs, ln)) (hl : hi = lo + ts.length - 1) (hz0 : offs.size = ts.length) (hdf : (pc : Int) + dflt = (pcOf P d : Int)) (hts : ∀ k, k < ts.length → (pc : Int) + offs.getD k 0 = (pcOf P (ts.getD k 0) : Int)) (hL : LR g L nL ls) (hW : RW g hs h H) (hS : va_S (AA g) s.heap H locs)
    (n1 : (x.toInt < lo ∨ lo + ts.length ≤ x.toInt) → NX p l e R s m args below meth c cells slots Q nL g hs h P (d, L, S, h)) (n2 : ¬ (x.toInt < lo ∨ lo + ts.length ≤ x.toInt) → NX p l e R s m args below meth c cells slots Q nL g hs h P (ts.getD (x.toInt - lo).toNat 0, L, S, h)) : W p l e R s m args below meth c H locs cells slots Q (F0 m pc ls ((.int x :: S).map (ph g))) := by
  by_cases q : x.toInt < lo ∨ lo + ts.length ≤ x.toInt
  · exact lv_tableOut C.1 C.2.1 hd (by rcases q with q | q; exact Or.inl q; exact Or.inr (by omega)) hdf ((n1 q).here hL hW hS rfl)
  · have h1 : ¬ x.toInt < lo := fun z => q (Or.inl z)
    have h2 : ¬ hi < x.toInt := fun z => q (Or.inr (by omega))
    have hk : (x.toInt - lo).toNat < ts.length := by omega
    have ho : offs[(x.toInt - lo).toNat]? = some (offs.getD (x.toInt - lo).toNat 0) := by
      rw [Array.getD_eq_getD_getElem?, Array.getElem?_eq_getElem (by omega)]; rfl
    exact lv_tableIn C.1 C.2.1 hd h1 h2 ho (hts _ hk) ((n2 q).here hL hW hS rfl)
end OPS
end
section
/-! STEPS THAT READ AND WRITE THE HEAP -/
theorem mem_AW {w : Cond} {k : Nat} (h : lw_tbl[k]? = some w) (hg : (goodWord w || isNestW w) = true) : w ∈ AW := List.mem_filter.mpr ⟨List.mem_of_getElem? h, hg⟩
theorem clT_get {c : Nat} (h : c < 13) : clT[c]? = some (clk c) := by
  unfold clk
  rw [List.getD_eq_getElem?_getD, List.getElem?_eq_getElem (show c < clT.length from h)]; rfl
theorem clN : ∀ c, c < 13 → (clk c).2.2 = fdn c := by decide +kernel
theorem lay_in {c : Nat} (h : c < 13) : ∀ w ∈ u_ws (clk c).1 (clk c).2.1 (clk c).2.2, w ∈ AW := by
  intro w hw
  obtain ⟨k, hk, rfl⟩ := List.mem_map.mp hw
  have h1 := List.all_eq_true.mp lay_all c (List.mem_range.mpr h)
  have h2 := List.all_eq_true.mp h1 k hk
  have h3 := of_decide_eq_true h2
  refine mem_AW h3 ?_
  unfold u_lay
  split <;> rfl
theorem fd_ty : ∀ c, c < 13 → ∀ k, k < fdn c → (fdk c k = 0 → tyk c k = .int) ∧ (fdk c k = 1 → tyk c k = .boolean) ∧ (fdk c k = 2 → (tyk c k).isReference = true) ∧ (fdk c k = 0 ∨ fdk c k = 1 ∨ fdk c k = 2) := by decide +kernel
theorem fit_ref {ty : FieldType} (h : ty.isReference = true) (r : Option Nat) : narrow ty (va_rf r) = va_rf r ∧ fits ty (va_rf r) = true := by
  cases ty <;> first | (cases h; done) | (cases r <;> exact ⟨rfl, rfl⟩)
theorem fit_bool {x : Int32} (h : i01 x = true) : narrow .boolean (.int x) = .int x ∧ fits .boolean (.int x) = true := by
  unfold i01 at h
  rw [Bool.or_eq_true] at h
  rcases h with h | h <;> (have := of_decide_eq_true h; subst this; decide)
theorem ixo_in {x : Int32} {n : Nat} (h : ixo x n = true) : vp_in x n := by
  unfold ixo at h
  rw [Bool.and_eq_true] at h
  have h1 := of_decide_eq_true h.1
  have h2 := of_decide_eq_true h.2
  unfold vp_in
  rintro (q | q)
  · exact absurd h1 (Int32.not_le.mpr q)
  · omega
theorem cE_obj {g : GG} {h : AH} {a k : Nat} (hk : hK h a = k) (hc : k < 13) : cE g h a = .inr (k, (List.range (fdn k)).map (fvl g h k a)) := by
  unfold cE; rw [hk, if_pos (by omega)]
theorem cE_int {g : GG} {h : AH} {a k : Nat} (hk : hK h a = k) (hc : 20 ≤ k) (hc2 : k < 23) : cE g h a = .inl (g.2.1 k, hN h a, .inl (hI h a)) := by
  unfold cE; rw [hk, if_neg (by omega), if_pos hc2]
theorem cE_long {g : GG} {h : AH} {a : Nat} (hk : hK h a = 23) : cE g h a = .inl (g.2.1 23, hN h a, .inr (.inl (hJ h a))) := by
  unfold cE; rw [hk]; rfl
theorem cE_ref {g : GG} {h : AH} {a k : Nat} (hk : hK h a = k) (hc : 24 ≤ k) : cE g h a = .inl (g.2.1 k, hN h a, .inr (.inr (.inr (.inr (fun j => rq g (hR h a j)))))) := by
  unfold cE; rw [hk, if_neg (by omega), if_neg (by omega), if_neg (by omega)]
theorem one_P {D : va_G} {cl : List vw_C} {q : Nat × va_E} {H : Heap} (h : va_at D cl q H) : va_P D cl [q] H := fun k x hx => by
  match k, hx with
  | 0, hx => cases hx; exact h
theorem upd_upq (f : Nat → Nat → Int32) (a j : Nat) (v : Int32) : upq f a j v a = upd (f a) j v := by
  funext y; unfold upq upd; rw [if_pos rfl]
theorem upq_ne {α : Type} (f : Nat → Nat → α) {a x : Nat} (h : x ≠ a) (j : Nat) (v : α) : upq f a j v x = f x := by
  funext y; unfold upq; rw [if_neg h]
section HEAP
variable {p : Program} {l : Launch} {e : Env} {R : Room} {s : State} {m : MethodId} {args : Array Value} {below : List Frame} {meth : Method} {c : Code} {H : Heap} {locs : List Loc} {cells slots : Nat} {Q : State → Prop} {cc : ByteArray} {pc nL own : Nat} {ls : Array Slot} {g : GG} {hs h : AH} {P : List IR} {i : Nat} {L S : List Value}
def fvA (h : AH) (c a k : Nat) : Value := if fdk c k = 2 then .ref (hR h a k) else .int (hI h a k)
theorem ph_fvA (g : GG) (h : AH) (c a k : Nat) : ph g (fvA h c a k) = fvl g h c a k := by
  unfold fvA fvl; split <;> rfl
def flk (own idx cK k : Nat) : Cond := .fieldLink (cnm own) idx ((clk cK).2.1 k).1 ((clk cK).2.1 k).2.1 ((clk cK).2.1 k).2.2.1
def flkN (own idx cK k : Nat) : Cond := .fieldLinkNest (cnm own) idx ((clk cK).2.1 k).1 ((clk cK).2.1 k).2.1 ((clk cK).2.1 k).2.2.1 "PenThatJumps"
theorem op_getf {idx cK k a : Nat} (C : CX p s m args c cc nL own g hs) (hd : decode cc pc = .ok (.getfield idx, 3)) (hp : pcOf P (i + 1) = pc + 3) (hL : LR g L nL ls) (hW : RW g hs h H) (hS : va_S (AA g) s.heap H locs)
    (hk : hK h a = cK) (hc : cK < 13) (hkn : k < fdn cK) (hl : flk own idx cK k ∈ AW ∨ flkN own idx cK k ∈ AW)
    (n : NX p l e R s m args below meth c cells slots Q nL g hs h P (i + 1, L, fvA h cK a k :: S, h)) : W p l e R s m args below meth c H locs cells slots Q (F0 m pc ls ((.ref a :: S).map (ph g))) := by
  obtain ⟨h0, h1⟩ := hW.own (a := a) (by omega)
  have hat := (hW.2.2.1 a h0 h1).2
  rw [cE_obj hk hc] at hat
  have n' := n.here hL hW hS hp
  rw [List.map_cons, ph_fvA] at n'
  rw [List.map_cons, ph_own h0]
  have hv : ((List.range (fdn cK)).map (fvl g h cK a))[k]? = some (fvl g h cK a k) := by
    rw [List.getElem?_map, List.getElem?_range hkn]; rfl
  have hN : k < (clk cK).2.2 := by rw [clN cK hc]; exact hkn
  rcases hl with hl | hl
  · exact va_get (own := cnm own) C.1 C.2.1 C.2.2.2.2.1 (lay_in hc) C.2.2.2.1 C.2.2.2.2.2.1 (one_P hat) 0 rfl (clT_get hc) k hN (C.2.2.2.2.1 _ hl) (fun _ z => z) hv hd n'
  · exact va_getN (own := cnm own) C.1 C.2.1 C.2.2.2.2.1 (lay_in hc) C.2.2.2.1 C.2.2.2.2.2.1 (one_P hat) 0 rfl (clT_get hc) k hN (C.2.2.2.2.1 _ hl) (fun _ z => z) hv hd n'
/-- the new heap behind a putfield -/
theorem put_at {cK k a : Nat} {h' : AH} {H' : Heap} {cell : Cell} {v : Value} (C : CX p s m args c cc nL own g hs) (hW : RW g hs h H) (hk : hK h a = cK) (hc : cK < 13) (hkn : k < fdn cK) (h0 : 100 ≤ a) (h1 : a < hz h)
    (ez : hz h' = hz h) (eK : hK h' = hK h) (eN : hN h' = hN h) (eI : ∀ x, x ≠ a → hI h' x = hI h x) (eJ : ∀ x, x ≠ a → hJ h' x = hJ h x) (eR : ∀ x, x ≠ a → hR h' x = hR h x) (ev : ∀ j, fvl g h' cK a j = if j = k then v else fvl g h cK a j)
    (q1 : cell.cls = g.1.1 cK) (q2 : cell.vm = .none) (q3 : ∀ j, j < (clk cK).2.2 → cell.slots[g.1.2 cK j]? = some (vp_V ((List.range (fdn cK)).map (fvl g h cK a)) j))
    (e1 : H'[gb g + (a - 100)]? = some (cell.setSlot (g.1.2 cK k) v)) (e2 : H'.size = H.size) (e3 : ∀ q : Nat, q ≠ gb g + (a - 100) → H'[q]? = H[q]?) : RW g hs h' H' := by
  refine hW.upd h0 h1 ez eK eN eI eJ eR e2 e3 ?_
  have hk' : hK h' a = cK := by rw [eK]; exact hk
  rw [cE_obj hk' hc]
  have hN : k < (clk cK).2.2 := by rw [clN cK hc]; exact hkn
  have hap := va_apart (own := cnm own) C.2.2.2.2.1 (lay_in hc) (tyk cK) (tyk_ok cK hc) (nmk_ok cK hc) C.2.2.2.2.2.1 (clT_get hc)
  have hlen : ((List.range (fdn cK)).map (fvl g h cK a)).length = fdn cK := by rw [List.length_map, List.length_range]
  refine ⟨_, clT_get hc, t_OB.to (V := updV (vp_V ((List.range (fdn cK)).map (fvl g h cK a))) k v) ⟨_, e1, q1, q2, t_set q3 hap hN v⟩ (fun j hj => ?_)⟩
  have hj' : j < fdn cK := by rw [← clN cK hc]; exact hj
  unfold updV vp_V
  rw [List.getD_eq_getElem?_getD, List.getD_eq_getElem?_getD, List.getElem?_map, List.getElem?_map, List.getElem?_range hj']
  show (if j = k then v else fvl g h cK a j) = fvl g h' cK a j
  rw [ev j]
theorem op_putf {idx cK k a : Nat} {v : Value} {h' : AH} (C : CX p s m args c cc nL own g hs) (hd : decode cc pc = .ok (.putfield idx, 3)) (hp : pcOf P (i + 1) = pc + 3) (hL : LR g L nL ls) (hW : RW g hs h H) (hS : va_S (AA g) s.heap H locs)
    (hk : hK h a = cK) (hc : cK < 13) (hkn : k < fdn cK) (hn : narrow (tyk cK k) (ph g v) = ph g v) (hfit : fits (tyk cK k) (ph g v) = true)
    (hl : (((clk cK).2.1 k).2.2.2 = false ∧ (flk own idx cK k ∈ AW ∨ flkN own idx cK k ∈ AW)) ∨ (((clk cK).2.1 k).2.2.2 = true ∧ flk own idx cK k ∈ AW ∧ meth.name = "<init>" ∧ ((clk cK).2.1 k).1 = cnm own))
    (ez : hz h' = hz h) (eu : hu h' = hu h) (eK : hK h' = hK h) (eN : hN h' = hN h) (eI : ∀ x, x ≠ a → hI h' x = hI h x) (eJ : ∀ x, x ≠ a → hJ h' x = hJ h x) (eR : ∀ x, x ≠ a → hR h' x = hR h x) (ev : ∀ j, fvl g h' cK a j = if j = k then ph g v else fvl g h cK a j)
    (n : NX p l e R s m args below meth c cells slots Q nL g hs h P (i + 1, L, S, h')) : W p l e R s m args below meth c H locs cells slots Q (F0 m pc ls ((v :: .ref a :: S).map (ph g))) := by
  obtain ⟨h0, h1⟩ := hW.own (a := a) (by omega)
  have hat := (hW.2.2.1 a h0 h1).2
  rw [cE_obj hk hc] at hat
  rw [List.map_cons, List.map_cons, ph_own h0]
  have hN : k < (clk cK).2.2 := by rw [clN cK hc]; exact hkn
  obtain ⟨r, r1, cell, q1, q2, q3, q4⟩ := hat
  have hr : r = clk cK := Option.some.inj (r1.symm.trans (clT_get hc))
  subst hr
  have hts := C.2.2.2.2.1
  have hin := lay_in hc
  obtain ⟨hSl, hfc, kC, hkC, hkind⟩ := C.2.2.2.2.2.1.1 cK _ (clT_get hc)
  obtain ⟨cf, kf, fi, f, hi, hsl⟩ := hSl k hN
  have hlay := hts _ (hin _ (u_in_lay hN))
  have hst := (u_facts hfc hkC (u_lays hts hin hN) hi).1
  have hd0 := tyk_ok cK hc k hN
  have fin : ∀ (H' : Heap) (lc : List Loc), H'[gb g + (a - 100)]? = some (cell.setSlot (g.1.2 cK k) (ph g v)) → H'.size = H.size → (∀ q : Nat, q ≠ gb g + (a - 100) → H'[q]? = H[q]?) → va_S (AA g) s.heap H' lc → W p l e R s m args below meth c H' lc cells slots Q (F0 m (pc + 3) ls (S.map (ph g))) := by
    intro H' lc e1 e2 e3 hS'
    have hW' := put_at (v := ph g v) C hW hk hc hkn h0 h1 ez eK eN eI eJ eR ev q2 q3 q4 e1 e2 e3
    have h9 := n ls H' lc hL hW' hS'
    simp only [ez, eu, Nat.sub_self, Nat.add_zero, hp] at h9
    exact h9
  have hA : AA g (gb g + (a - 100)) := Nat.le_add_right _ _
  rcases hl with ⟨hfin, hl | hl⟩ | ⟨hfin, hl, hin2, hdecl⟩
  · unfold u_lay at hlay
    rw [if_neg (by rw [hfin]; decide)] at hlay
    have h6 := u_store hfc hkC hkind hlay hi hd0 hn hfit
    refine W.putK C.1 C.2.1 (f := f) ⟨C.2.2.2.1, hts _ hl, ⟨_, _, _, hi⟩, hst⟩ (by rw [q2]; exact h6) q1 q3 (by rw [hsl]; exact k2_hasslot (q4 k hN)) rfl rfl hd fun H' e1 e2 e3 => ?_
    rw [hsl] at e1 ⊢
    exact fin H' _ e1 e2 e3 (hS.put e2 e3 hA)
  · unfold u_lay at hlay
    rw [if_neg (by rw [hfin]; decide)] at hlay
    have h6 := u_store hfc hkC hkind hlay hi hd0 hn hfit
    refine va_WputK C.1 C.2.1 (f := f) C.2.2.2.1 (hts _ hl) hi hst (by rw [q2]; exact h6) q1 q3 (by rw [hsl]; exact k2_hasslot (q4 k hN)) rfl rfl hd fun H' e1 e2 e3 => ?_
    rw [hsl] at e1 ⊢
    exact fin H' _ e1 e2 e3 (hS.put e2 e3 hA)
  · unfold u_lay at hlay
    rw [if_pos hfin] at hlay
    have hcf : m.cls = cf := by
      obtain ⟨_, _, c', _, _, _, -, -, hf', -, -, -, hown2, -⟩ := Cond.laysFinal_spec hlay
      have e1 : c' = cf := by have := hi.symm.trans hf'; simp at this; exact this.1.symm
      rw [hdecl] at hown2
      rw [← e1]; exact Option.some.inj (C.2.2.2.1.symm.trans hown2)
    have h6 := u_fits hfc hkC hkind (Or.inr hlay) hi hd0 hn hfit
    refine W.putFinK C.1 C.2.1 C.2.2.2.1 (hts _ hl) hi hst hcf hin2 (by rw [q2]; exact h6) q1 q3 (by rw [hsl]; exact k2_hasslot (q4 k hN)) rfl rfl hd fun H' e1 e2 e3 => ?_
    rw [hsl] at e1 ⊢
    exact fin H' _ e1 e2 e3 (hS.put e2 e3 hA)
end HEAP
end
section
/-! ARRAYS, NEW CELLS, STATICS -/
section ARR
variable {p : Program} {l : Launch} {e : Env} {R : Room} {s : State} {m : MethodId} {args : Array Value} {below : List Frame} {meth : Method} {c : Code} {H : Heap} {locs : List Loc} {cells slots : Nat} {Q : State → Prop} {cc : ByteArray} {pc nL own : Nat} {ls : Array Slot} {g : GG} {hs h : AH} {P : List IR} {i : Nat} {L S : List Value}
theorem S_of (C : CX p s m args c cc nL own g hs) : ST g hs s := C.2.2.2.2.2.2.1
theorem K_of (C : CX p s m args c cc nL own g hs) : va_K g.1 clT (tysT g) s := C.2.2.2.2.2.1
theorem op_iald {a : Nat} {x : Int32} (C : CX p s m args c cc nL own g hs) (hd : decode cc pc = .ok (.iaload, 1)) (hp : pcOf P (i + 1) = pc + 1) (hL : LR g L nL ls) (hW : RW g hs h H) (hS : va_S (AA g) s.heap H locs) (hk : hK h a = 20) (hx : ixo x (hN h a) = true)
    (n : NX p l e R s m args below meth c cells slots Q nL g hs h P (i + 1, L, .int (hI h a x.toNatClampNeg) :: S, h)) : W p l e R s m args below meth c H locs cells slots Q (F0 m pc ls ((.int x :: .ref a :: S).map (ph g))) := by
  obtain ⟨h0, h1⟩ := hW.own (a := a) (by omega)
  have hat := (hW.2.2.1 a h0 h1).2
  rw [cE_int hk (by decide) (by decide)] at hat
  rw [List.map_cons, List.map_cons, ph_own h0]
  exact va_iald C.1 C.2.1 (K_of C) (one_P hat) 0 0 rfl rfl (ixo_in hx) hd (n.here hL hW hS hp)
theorem op_cald {a : Nat} {x : Int32} (C : CX p s m args c cc nL own g hs) (hd : decode cc pc = .ok (.caload, 1)) (hp : pcOf P (i + 1) = pc + 1) (hL : LR g L nL ls) (hW : RW g hs h H) (hS : va_S (AA g) s.heap H locs) (hk : hK h a = 21) (hx : ixo x (hN h a) = true)
    (n : NX p l e R s m args below meth c cells slots Q nL g hs h P (i + 1, L, .int (hI h a x.toNatClampNeg) :: S, h)) : W p l e R s m args below meth c H locs cells slots Q (F0 m pc ls ((.int x :: .ref a :: S).map (ph g))) := by
  obtain ⟨h0, h1⟩ := hW.own (a := a) (by omega)
  have hat := (hW.2.2.1 a h0 h1).2
  rw [cE_int hk (by decide) (by decide)] at hat
  rw [List.map_cons, List.map_cons, ph_own h0]
  exact va_cald C.1 C.2.1 (K_of C) (one_P hat) 0 1 rfl rfl (ixo_in hx) hd (n.here hL hW hS hp)
theorem op_zald {a : Nat} {x : Int32} (C : CX p s m args c cc nL own g hs) (hd : decode cc pc = .ok (.baload, 1)) (hp : pcOf P (i + 1) = pc + 1) (hL : LR g L nL ls) (hW : RW g hs h H) (hS : va_S (AA g) s.heap H locs) (hk : hK h a = 22) (hx : ixo x (hN h a) = true)
    (n : NX p l e R s m args below meth c cells slots Q nL g hs h P (i + 1, L, .int (hI h a x.toNatClampNeg) :: S, h)) : W p l e R s m args below meth c H locs cells slots Q (F0 m pc ls ((.int x :: .ref a :: S).map (ph g))) := by
  obtain ⟨h0, h1⟩ := hW.own (a := a) (by omega)
  have hat := (hW.2.2.1 a h0 h1).2
  rw [cE_int hk (by decide) (by decide)] at hat
  rw [List.map_cons, List.map_cons, ph_own h0]
  exact va_zald C.1 C.2.1 (K_of C) (one_P hat) 0 2 rfl rfl (ixo_in hx) hd (n.here hL hW hS hp)
theorem op_lald {a : Nat} {x : Int32} (C : CX p s m args c cc nL own g hs) (hd : decode cc pc = .ok (.laload, 1)) (hp : pcOf P (i + 1) = pc + 1) (hL : LR g L nL ls) (hW : RW g hs h H) (hS : va_S (AA g) s.heap H locs) (hk : hK h a = 23) (hx : ixo x (hN h a) = true)
    (n : NX p l e R s m args below meth c cells slots Q nL g hs h P (i + 1, L, .long (hJ h a x.toNatClampNeg) :: S, h)) : W p l e R s m args below meth c H locs cells slots Q (F0 m pc ls ((.int x :: .ref a :: S).map (ph g))) := by
  obtain ⟨h0, h1⟩ := hW.own (a := a) (by omega)
  have hat := (hW.2.2.1 a h0 h1).2
  rw [cE_long hk] at hat
  rw [List.map_cons, List.map_cons, ph_own h0]
  exact va_lald C.1 C.2.1 (K_of C) (one_P hat) 0 3 rfl rfl (ixo_in hx) hd (n.here hL hW hS hp)
theorem ty_ref {k : Nat} (h0 : 24 ≤ k) (h1 : okk k = true) : ∃ (t : Nat) (cn : Nat), cn < 13 ∧ k = cn + 30 ∧ (tysT g)[t]? = some (g.2.1 k, .object (clk cn).1) := by
  unfold okk at h1
  simp only [Bool.or_eq_true, decide_eq_true_eq] at h1
  rcases h1 with (((((h | h) | h) | h) | h) | h) | h
  · omega
  · omega
  · subst h; exact ⟨4, 3, by decide, rfl, rfl⟩
  · subst h; exact ⟨5, 4, by decide, rfl, rfl⟩
  · subst h; exact ⟨6, 6, by decide, rfl, rfl⟩
  · subst h; exact ⟨7, 7, by decide, rfl, rfl⟩
  · subst h; exact ⟨8, 8, by decide, rfl, rfl⟩
theorem op_aald {a : Nat} {x : Int32} (C : CX p s m args c cc nL own g hs) (hd : decode cc pc = .ok (.aaload, 1)) (hp : pcOf P (i + 1) = pc + 1) (hL : LR g L nL ls) (hW : RW g hs h H) (hS : va_S (AA g) s.heap H locs) (hk : 30 ≤ hK h a) (hk2 : hK h a < 40) (hx : ixo x (hN h a) = true)
    (n : NX p l e R s m args below meth c cells slots Q nL g hs h P (i + 1, L, .ref (hR h a x.toNatClampNeg) :: S, h)) : W p l e R s m args below meth c H locs cells slots Q (F0 m pc ls ((.int x :: .ref a :: S).map (ph g))) := by
  obtain ⟨h0, h1⟩ := hW.own (a := a) hk2
  obtain ⟨hok, hat⟩ := hW.2.2.1 a h0 h1
  rw [cE_ref rfl (by omega)] at hat
  rw [List.map_cons, List.map_cons, ph_own h0]
  obtain ⟨t, cn, -, -, ht⟩ := ty_ref (g := g) (by omega : 24 ≤ hK h a) hok
  exact va_aldq C.1 C.2.1 (K_of C) (one_P hat) 0 t rfl ht (ixo_in hx) hd (n.here hL hW hS hp)
theorem st_of (hW : RW g hs h H) {a : Nat} (hk : 40 ≤ hK h a) (hk2 : hK h a ≠ 99) : a < 100 ∧ hK hs a = hK h a ∧ hN hs a = hN h a ∧ hI hs a = hI h a ∧ hR hs a = hR h a := by
  have ha : a < 100 := by
    apply Nat.lt_of_not_le; intro q
    by_cases z : a < hz h
    · have := (hW.2.2.1 a q z).1
      unfold okk at this
      simp only [Bool.or_eq_true, decide_eq_true_eq] at this
      omega
    · exact hk2 (hW.2.2.2.1 a (by omega))
  obtain ⟨-, e1, e2, e3, e4⟩ := hW.2.2.2.2 a ha
  exact ⟨ha, e1.symm, e2.symm, e3.symm, e4.symm⟩
theorem ph_some {a t : Nat} (h : rq g a = some t) : ph g (.ref a) = .ref t := by show va_rf (rq g a) = _; rw [h]; rfl
theorem op_sild {a : Nat} {x : Int32} (C : CX p s m args c cc nL own g hs) (hd : decode cc pc = .ok (.iaload, 1)) (hp : pcOf P (i + 1) = pc + 1) (hL : LR g L nL ls) (hW : RW g hs h H) (hS : va_S (AA g) s.heap H locs) (hk : hK h a = 44) (hx : ixo x (hN h a) = true)
    (n : NX p l e R s m args below meth c cells slots Q nL g hs h P (i + 1, L, .int (hI h a x.toNatClampNeg) :: S, h)) : W p l e R s m args below meth c H locs cells slots Q (F0 m pc ls ((.int x :: .ref a :: S).map (ph g))) := by
  obtain ⟨ha, e1, e2, e3, e4⟩ := st_of hW (a := a) (by omega) (by omega)
  obtain ⟨t, ht, -, hT⟩ := (S_of C).2.2.1 a ha (by omega)
  rw [List.map_cons, List.map_cons, ph_some ht]
  exact va_ti C.1 C.2.1 hT hS (ixo_in (by rw [e2]; exact hx)) (v := .int (hI h a x.toNatClampNeg)) (by rw [e3]) hd (n.here hL hW hS hp)
theorem op_sbld {a : Nat} {x : Int32} (C : CX p s m args c cc nL own g hs) (hd : decode cc pc = .ok (.baload, 1)) (hp : pcOf P (i + 1) = pc + 1) (hL : LR g L nL ls) (hW : RW g hs h H) (hS : va_S (AA g) s.heap H locs) (hk : hK h a = 45) (hx : ixo x (hN h a) = true)
    (n : NX p l e R s m args below meth c cells slots Q nL g hs h P (i + 1, L, .int (hI h a x.toNatClampNeg) :: S, h)) : W p l e R s m args below meth c H locs cells slots Q (F0 m pc ls ((.int x :: .ref a :: S).map (ph g))) := by
  obtain ⟨ha, e1, e2, e3, e4⟩ := st_of hW (a := a) (by omega) (by omega)
  obtain ⟨t, ht, -, hT⟩ := (S_of C).2.2.2.1 a ha (by omega)
  rw [List.map_cons, List.map_cons, ph_some ht]
  exact va_tb C.1 C.2.1 hT hS (ixo_in (by rw [e2]; exact hx)) (v := .int (hI h a x.toNatClampNeg)) (by rw [e3]) hd (n.here hL hW hS hp)
theorem op_sald {a : Nat} {x : Int32} (C : CX p s m args c cc nL own g hs) (hd : decode cc pc = .ok (.aaload, 1)) (hp : pcOf P (i + 1) = pc + 1) (hL : LR g L nL ls) (hW : RW g hs h H) (hS : va_S (AA g) s.heap H locs) (hk : hK h a = 41) (hx : ixo x (hN h a) = true)
    (n : NX p l e R s m args below meth c cells slots Q nL g hs h P (i + 1, L, .ref (hR h a x.toNatClampNeg) :: S, h)) : W p l e R s m args below meth c H locs cells slots Q (F0 m pc ls ((.int x :: .ref a :: S).map (ph g))) := by
  obtain ⟨ha, e1, e2, e3, e4⟩ := st_of hW (a := a) (by omega) (by omega)
  obtain ⟨t, ht, -, hT⟩ := (S_of C).2.2.2.2.1 a ha (by omega)
  rw [List.map_cons, List.map_cons, ph_some ht]
  exact vb_tq C.1 C.2.1 hT hS (ixo_in (by rw [e2]; exact hx)) (v := va_rf (rq g (hR h a x.toNatClampNeg))) (by rw [e4]) hd (n.here hL hW hS hp)
theorem op_alen {a : Nat} (C : CX p s m args c cc nL own g hs) (hd : decode cc pc = .ok (.arraylength, 1)) (hp : pcOf P (i + 1) = pc + 1) (hL : LR g L nL ls) (hW : RW g hs h H) (hS : va_S (AA g) s.heap H locs) (hk : 20 ≤ hK h a) (hk0 : hK h a ≠ 40) (hk1 : hK h a ≠ 42) (hk2 : hK h a ≤ 45) (hk3 : hK h a ≠ 43)
    (n : NX p l e R s m args below meth c cells slots Q nL g hs h P (i + 1, L, .int (Int32.ofNat (hN h a)) :: S, h)) : W p l e R s m args below meth c H locs cells slots Q (F0 m pc ls ((.ref a :: S).map (ph g))) := by
  by_cases q : hK h a < 40
  · obtain ⟨h0, h1⟩ := hW.own (a := a) q
    obtain ⟨hok, hat⟩ := hW.2.2.1 a h0 h1
    rw [List.map_cons, ph_own h0]
    by_cases q2 : hK h a < 23
    · rw [cE_int rfl hk q2] at hat
      have ht : ∃ (t : Nat) (ty : FieldType), (tysT g)[t]? = some (g.2.1 (hK h a), ty) := by
        rcases (by omega : hK h a = 20 ∨ hK h a = 21 ∨ hK h a = 22) with z | z | z
        · exact ⟨0, .int, by rw [z]; rfl⟩
        · exact ⟨1, .char, by rw [z]; rfl⟩
        · exact ⟨2, .boolean, by rw [z]; rfl⟩
      obtain ⟨t, ty, ht⟩ := ht
      exact va_alen C.1 C.2.1 (K_of C) (one_P hat) 0 t rfl ht rfl hd (n.here hL hW hS hp)
    · by_cases q3 : hK h a = 23
      · rw [cE_long q3] at hat
        exact va_alen C.1 C.2.1 (K_of C) (one_P hat) 0 3 rfl (ty := .long) rfl rfl hd (n.here hL hW hS hp)
      · rw [cE_ref rfl (by omega)] at hat
        obtain ⟨t, cn, -, -, ht⟩ := ty_ref (g := g) (by omega : 24 ≤ hK h a) hok
        exact va_alen C.1 C.2.1 (K_of C) (one_P hat) 0 t rfl ht rfl hd (n.here hL hW hS hp)
  · obtain ⟨ha, e1, e2, e3, e4⟩ := st_of hW (a := a) (by omega) (by omega)
    rw [List.map_cons]
    rcases (by omega : hK h a = 41 ∨ hK h a = 44 ∨ hK h a = 45) with z | z | z
    · obtain ⟨t, ht, -, hT⟩ := (S_of C).2.2.2.2.1 a ha (by omega)
      rw [ph_some ht]
      exact va_tlen C.1 C.2.1 hT hS (by rw [e2]) hd (n.here hL hW hS hp)
    · obtain ⟨t, ht, -, hT⟩ := (S_of C).2.2.1 a ha (by omega)
      rw [ph_some ht]
      exact va_tlen C.1 C.2.1 hT hS (by rw [e2]) hd (n.here hL hW hS hp)
    · obtain ⟨t, ht, -, hT⟩ := (S_of C).2.2.2.1 a ha (by omega)
      rw [ph_some ht]
      exact va_tlen C.1 C.2.1 hT hS (by rw [e2]) hd (n.here hL hW hS hp)
theorem op_iast {a : Nat} {x x2 : Int32} (C : CX p s m args c cc nL own g hs) (hd : decode cc pc = .ok (.iastore, 1)) (hp : pcOf P (i + 1) = pc + 1) (hL : LR g L nL ls) (hW : RW g hs h H) (hS : va_S (AA g) s.heap H locs) (hk : hK h a = 20) (hx : ixo x (hN h a) = true) 
    (n : NX p l e R s m args below meth c cells slots Q nL g hs h P (i + 1, L, S, sI h a x.toNatClampNeg x2)) : W p l e R s m args below meth c H locs cells slots Q (F0 m pc ls ((.int x2 :: .int x :: .ref a :: S).map (ph g))) := by
  obtain ⟨h0, h1⟩ := hW.own (a := a) (by omega)
  have hat := (hW.2.2.1 a h0 h1).2
  rw [cE_int hk (by decide) (by decide)] at hat
  rw [List.map_cons, List.map_cons, List.map_cons, ph_own h0]
  have hA : AA g (gb g + (a - 100)) := Nat.le_add_right _ _
  refine W.iast C.1 C.2.1 hat (((K_of C).2 0 _ rfl).1 (hN h a) (fun j => .int (hI h a j))) (fun q => by cases q) (by show ¬ (x < 0 ∨ (arrV _ _ _).slots.size ≤ _); rw [arrV_size]; exact ixo_in hx) rfl rfl hd fun H1 e z oq => ?_
  have e := e
  have hW' : RW g hs (sI h a x.toNatClampNeg x2) H1 := by
    refine hW.upd h0 h1 rfl rfl rfl (fun y hy => upq_ne _ hy _ _) (fun y _ => rfl) (fun y _ => rfl) z oq ?_
    rw [cE_int (h := sI h a x.toNatClampNeg x2) hk (by decide) (by decide)]
    show H1[_]? = some (vp_cell _ _)
    rw [e, vp_cell_i, vp_cell_i, arrV_store]
    congr 2
    funext q
    show _ = Value.int (upq h.1 a x.toNatClampNeg x2 a q)
    rw [upd_upq]
    by_cases hq : q = x.toNatClampNeg
    · subst hq
      simp [updV, upd]
    · simp [updV, upd, hq]
      try rfl
  have h9 := n ls H1 _ hL hW' (hS.put (k := x.toNatClampNeg) z oq hA)
  have e5 : hz (sI h a x.toNatClampNeg x2) = hz h := rfl
  have e6 : hu (sI h a x.toNatClampNeg x2) = hu h := rfl
  simp only [e5, e6, Nat.sub_self, Nat.add_zero, hp] at h9
  exact h9
theorem op_cast {a : Nat} {x x2 : Int32} (C : CX p s m args c cc nL own g hs) (hd : decode cc pc = .ok (.castore, 1)) (hp : pcOf P (i + 1) = pc + 1) (hL : LR g L nL ls) (hW : RW g hs h H) (hS : va_S (AA g) s.heap H locs) (hk : hK h a = 21) (hx : ixo x (hN h a) = true) 
    (n : NX p l e R s m args below meth c cells slots Q nL g hs h P (i + 1, L, S, sI h a x.toNatClampNeg (vp_nar .char x2))) : W p l e R s m args below meth c H locs cells slots Q (F0 m pc ls ((.int x2 :: .int x :: .ref a :: S).map (ph g))) := by
  obtain ⟨h0, h1⟩ := hW.own (a := a) (by omega)
  have hat := (hW.2.2.1 a h0 h1).2
  rw [cE_int hk (by decide) (by decide)] at hat
  rw [List.map_cons, List.map_cons, List.map_cons, ph_own h0]
  have hA : AA g (gb g + (a - 100)) := Nat.le_add_right _ _
  refine W.cast C.1 C.2.1 hat (((K_of C).2 1 _ rfl).1 (hN h a) (fun j => .int (hI h a j))) (fun q => by cases q) (by show ¬ (x < 0 ∨ (arrV _ _ _).slots.size ≤ _); rw [arrV_size]; exact ixo_in hx) rfl rfl hd fun H1 e z oq => ?_
  have e := e
  have hW' : RW g hs (sI h a x.toNatClampNeg (vp_nar .char x2)) H1 := by
    refine hW.upd h0 h1 rfl rfl rfl (fun y hy => upq_ne _ hy _ _) (fun y _ => rfl) (fun y _ => rfl) z oq ?_
    rw [cE_int (h := sI h a x.toNatClampNeg (vp_nar .char x2)) hk (by decide) (by decide)]
    show H1[_]? = some (vp_cell _ _)
    rw [e, vp_cell_i, vp_cell_i, arrV_store]
    congr 2
    funext q
    show _ = Value.int (upq h.1 a x.toNatClampNeg (vp_nar .char x2) a q)
    rw [upd_upq]
    by_cases hq : q = x.toNatClampNeg
    · subst hq
      simp [updV, upd, vp_nar]; try rfl
    · simp [updV, upd, hq]
      try rfl
  have h9 := n ls H1 _ hL hW' (hS.put (k := x.toNatClampNeg) z oq hA)
  have e5 : hz (sI h a x.toNatClampNeg (vp_nar .char x2)) = hz h := rfl
  have e6 : hu (sI h a x.toNatClampNeg (vp_nar .char x2)) = hu h := rfl
  simp only [e5, e6, Nat.sub_self, Nat.add_zero, hp] at h9
  exact h9
theorem op_zast {a : Nat} {x x2 : Int32} (C : CX p s m args c cc nL own g hs) (hd : decode cc pc = .ok (.bastore, 1)) (hp : pcOf P (i + 1) = pc + 1) (hL : LR g L nL ls) (hW : RW g hs h H) (hS : va_S (AA g) s.heap H locs) (hk : hK h a = 22) (hx : ixo x (hN h a) = true) (hb01 : i01 x2 = true)
    (n : NX p l e R s m args below meth c cells slots Q nL g hs h P (i + 1, L, S, sI h a x.toNatClampNeg x2)) : W p l e R s m args below meth c H locs cells slots Q (F0 m pc ls ((.int x2 :: .int x :: .ref a :: S).map (ph g))) := by
  obtain ⟨h0, h1⟩ := hW.own (a := a) (by omega)
  have hat := (hW.2.2.1 a h0 h1).2
  rw [cE_int hk (by decide) (by decide)] at hat
  rw [List.map_cons, List.map_cons, List.map_cons, ph_own h0]
  have hA : AA g (gb g + (a - 100)) := Nat.le_add_right _ _
  refine W.zast C.1 C.2.1 hat (((K_of C).2 2 _ rfl).1 (hN h a) (fun j => .int (hI h a j))) (fun q => by cases q) (by show ¬ (x < 0 ∨ (arrV _ _ _).slots.size ≤ _); rw [arrV_size]; exact ixo_in hx) rfl rfl hd fun H1 e z oq => ?_
  have e := (by rw [(fit_bool hb01).1] at e; exact e)
  have hW' : RW g hs (sI h a x.toNatClampNeg x2) H1 := by
    refine hW.upd h0 h1 rfl rfl rfl (fun y hy => upq_ne _ hy _ _) (fun y _ => rfl) (fun y _ => rfl) z oq ?_
    rw [cE_int (h := sI h a x.toNatClampNeg x2) hk (by decide) (by decide)]
    show H1[_]? = some (vp_cell _ _)
    rw [e, vp_cell_i, vp_cell_i, arrV_store]
    congr 2
    funext q
    show _ = Value.int (upq h.1 a x.toNatClampNeg x2 a q)
    rw [upd_upq]
    by_cases hq : q = x.toNatClampNeg
    · subst hq
      simp [updV, upd]
    · simp [updV, upd, hq]
      try rfl
  have h9 := n ls H1 _ hL hW' (hS.put (k := x.toNatClampNeg) z oq hA)
  have e5 : hz (sI h a x.toNatClampNeg x2) = hz h := rfl
  have e6 : hu (sI h a x.toNatClampNeg x2) = hu h := rfl
  simp only [e5, e6, Nat.sub_self, Nat.add_zero, hp] at h9
  exact h9
theorem op_last {a : Nat} {x : Int32} {x2 : Int64} (C : CX p s m args c cc nL own g hs) (hd : decode cc pc = .ok (.lastore, 1)) (hp : pcOf P (i + 1) = pc + 1) (hL : LR g L nL ls) (hW : RW g hs h H) (hS : va_S (AA g) s.heap H locs) (hk : hK h a = 23) (hx : ixo x (hN h a) = true)
    (n : NX p l e R s m args below meth c cells slots Q nL g hs h P (i + 1, L, S, sJ h a x.toNatClampNeg x2)) : W p l e R s m args below meth c H locs cells slots Q (F0 m pc ls ((.long x2 :: .int x :: .ref a :: S).map (ph g))) := by
  obtain ⟨h0, h1⟩ := hW.own (a := a) (by omega)
  have hat := (hW.2.2.1 a h0 h1).2
  rw [cE_long hk] at hat
  rw [List.map_cons, List.map_cons, List.map_cons, ph_own h0]
  have hA : AA g (gb g + (a - 100)) := Nat.le_add_right _ _
  refine W.last C.1 C.2.1 hat (((K_of C).2 3 _ rfl).1 (hN h a) (fun j => .long (hJ h a j))) (fun q => by cases q) (by show ¬ (x < 0 ∨ (arrV _ _ _).slots.size ≤ _); rw [arrV_size]; exact ixo_in hx) rfl rfl hd fun H1 e z oq => ?_
  have hW' : RW g hs (sJ h a x.toNatClampNeg x2) H1 := by
    refine hW.upd h0 h1 rfl rfl rfl (fun y _ => rfl) (fun y hy => upq_ne _ hy _ _) (fun y _ => rfl) z oq ?_
    rw [cE_long (h := sJ h a x.toNatClampNeg x2) hk]
    show H1[_]? = some (vp_cell _ _)
    rw [e, vp_cell_l, vp_cell_l, arrV_store]
    congr 2
    funext q
    show _ = Value.long (upq h.2.1 a x.toNatClampNeg x2 a q)
    unfold upq updV
    rw [if_pos rfl]
    by_cases hq : q = x.toNatClampNeg
    · rw [if_pos hq, if_pos hq]
    · rw [if_neg hq, if_neg hq]; rfl
  have h9 := n ls H1 _ hL hW' (hS.put (k := x.toNatClampNeg) z oq hA)
  have e5 : hz (sJ h a x.toNatClampNeg x2) = hz h := rfl
  have e6 : hu (sJ h a x.toNatClampNeg x2) = hu h := rfl
  simp only [e5, e6, Nat.sub_self, Nat.add_zero, hp] at h9
  exact h9
theorem op_aast {a v : Nat} {x : Int32} (C : CX p s m args c cc nL own g hs) (hd : decode cc pc = .ok (.aastore, 1)) (hp : pcOf P (i + 1) = pc + 1) (hL : LR g L nL ls) (hW : RW g hs h H) (hS : va_S (AA g) s.heap H locs) (hk : 30 ≤ hK h a) (hk2 : hK h a < 40) (hv : hK h v + 30 = hK h a) (hx : ixo x (hN h a) = true)
    (n : NX p l e R s m args below meth c cells slots Q nL g hs h P (i + 1, L, S, sR h a x.toNatClampNeg v)) : W p l e R s m args below meth c H locs cells slots Q (F0 m pc ls ((.ref v :: .int x :: .ref a :: S).map (ph g))) := by
  obtain ⟨h0, h1⟩ := hW.own (a := a) hk2
  obtain ⟨v0, v1⟩ := hW.own (a := v) (by omega)
  obtain ⟨hok, hat⟩ := hW.2.2.1 a h0 h1
  have hav := (hW.2.2.1 v v0 v1).2
  rw [cE_ref rfl (by omega)] at hat
  obtain ⟨t, cn, hcn, hke, ht⟩ := ty_ref (g := g) (by omega : 24 ≤ hK h a) hok
  have hkv : hK h v = cn := by omega
  rw [cE_obj hkv hcn] at hav
  rw [List.map_cons, List.map_cons, List.map_cons, ph_own h0, ph_own v0]
  have hA : AA g (gb g + (a - 100)) := Nat.le_add_right _ _
  have hin := ixo_in hx
  have hlt : x.toNatClampNeg < hN h a := Nat.not_le.mp fun q => hin (Or.inr q)
  have h00 : ¬ x < 0 := fun q => hin (Or.inl q)
  obtain ⟨r', hr', cellV, g1, g2, g3, -⟩ := hav
  have hcls := ((K_of C).1 cn _ (clT_get hcn)).2
  obtain ⟨kA, comp, k1, k2, k3, -⟩ := ((K_of C).2 t _ ht).2
  have hcomp : comp = g.1.1 cn := Option.some.inj (k3.symm.trans hcls.1)
  subst hcomp
  obtain ⟨kC, hkC, -⟩ := hcls.2
  refine W.aast C.1 C.2.1 hat (fun q h => by cases h) (fun h => by cases h) k1 k2 rfl hkC ⟨h00, by show _ < (arrV _ _ _).slots.size; rw [arrV_size]; exact hlt⟩ g1 (fun q h => by rw [g3] at h; cases h) (by rw [g2]; exact hkC) (by rw [g2]; exact va_assign hcls) rfl rfl hd fun H1 e z oq => ?_
  have hW' : RW g hs (sR h a x.toNatClampNeg v) H1 := by
    refine hW.upd h0 h1 rfl rfl rfl (fun y _ => rfl) (fun y _ => rfl) (fun y hy => upq_ne _ hy _ _) z oq ?_
    rw [cE_ref (h := sR h a x.toNatClampNeg v) (k := hK h a) rfl (by omega)]
    show H1[_]? = some (vp_cell _ _)
    rw [e, vp_cell_q, vp_cell_q, arrV_store]
    congr 2
    funext q
    show _ = va_rf (rq g (upq h.2.2.1 a x.toNatClampNeg v a q))
    unfold upq updV
    rw [if_pos rfl]
    by_cases hq : q = x.toNatClampNeg
    · rw [if_pos hq, if_pos hq, rq_own v0]; rfl
    · rw [if_neg hq, if_neg hq]; rfl
  have h9 := n ls H1 _ hL hW' (hS.put (k := x.toNatClampNeg) z oq hA)
  have e5 : hz (sR h a x.toNatClampNeg v) = hz h := rfl
  have e6 : hu (sR h a x.toNatClampNeg v) = hu h := rfl
  simp only [e5, e6, Nat.sub_self, Nat.add_zero, hp] at h9
  exact h9
/-- behind a new cell -/
theorem S_new {H1 : Heap} (C : CX p s m args c cc nL own g hs) (hS : va_S (AA g) s.heap H locs) (z1 : H1.size = H.size + 1) (o1 : ∀ q : Nat, q < H.size → H1[q]? = H[q]?) : va_S (AA g) s.heap H1 locs :=
  ⟨Nat.le_trans hS.1 (by omega), fun x h1 h2 => (o1 x (Nat.lt_of_lt_of_le h1 hS.1)).trans (hS.2.1 x h1 h2), hS.2.2⟩
theorem addr_new (hW : RW g hs h H) : ph g (.ref (hz h)) = .ref H.size := by
  rw [ph_own hW.1, hW.2.1]
theorem op_new {idx cK : Nat} (C : CX p s m args c cc nL own g hs) (hd : decode cc pc = .ok (.new idx, 3)) (hp : pcOf P (i + 1) = pc + 3) (hL : LR g L nL ls) (hW : RW g hs h H) (hS : va_S (AA g) s.heap H locs) (hc : cK < 12) (hcl : Cond.classLink (cnm own) idx (clk cK).1 ∈ AW) (hin : Cond.instantiable (clk cK).1 (fdn cK) ∈ AW) (hini : Cond.initialized (clk cK).1 ∈ AW)
    (hcells : cells + 1 ≤ R.cells) (hslots : slots + fdn cK ≤ R.slots)
    (n : NX p l e R s m args below meth c cells slots Q nL g hs h P (i + 1, L, .ref (hz h) :: S, mkC h cK 0 (fdn cK))) : W p l e R s m args below meth c H locs cells slots Q (F0 m pc ls (S.map (ph g))) := by
  have hts := C.2.2.2.2.1
  have hc' : cK < 13 := by omega
  have hKn := (K_of C).1 cK _ (clT_get hc')
  refine W.newcK C.1 C.2.1 C.2.2.2.1 (hts _ hcl) (hts _ hin) (hts _ hini) rfl hd hcells hslots hKn.2.1 rfl fun H1 kC hkC e1 z1 o1 => ?_
  have hW' : RW g hs (mkC h cK 0 (fdn cK)) H1 := by
    refine hW.mk (by unfold okk; simp only [Bool.or_eq_true, decide_eq_true_eq]; omega) z1 o1 ?_
    have hk1 : hK (mkC h cK 0 (fdn cK)) (hz h) = cK := by show upr (hK h) (hz h) cK (hz h) = _; unfold upr; rw [if_pos rfl]
    rw [cE_obj hk1 hc']
    refine ⟨_, clT_get hc', (u_born (tyk cK) hts (lay_in hc') hKn hkC e1 (tyk_ok cK hc')).to fun j hj => ?_⟩
    have hj' : j < fdn cK := by rw [← clN cK hc']; exact hj
    unfold vp_V
    rw [List.getD_eq_getElem?_getD, List.getElem?_map, List.getElem?_range hj']
    show defaultValue (tyk cK j) = fvl g (mkC h cK 0 (fdn cK)) cK (hz h) j
    have hI0 : hI (mkC h cK 0 (fdn cK)) (hz h) j = 0 := by show upr h.1 (hz h) _ (hz h) j = _; unfold upr; rw [if_pos rfl]
    have hR0 : hR (mkC h cK 0 (fdn cK)) (hz h) j = 0 := by show upr h.2.2.1 (hz h) _ (hz h) j = _; unfold upr; rw [if_pos rfl]
    unfold fvl
    rw [hI0, hR0]
    obtain ⟨f0, f1, f2, f3⟩ := fd_ty cK hc' j hj'
    rcases f3 with f3 | f3 | f3
    · rw [f0 f3, if_neg (by omega)]; rfl
    · rw [f1 f3, if_neg (by omega)]; rfl
    · rw [if_pos f3]
      have := f2 f3
      cases hty : tyk cK j <;> rw [hty] at this <;> first | (cases this; done) | rfl
  have h9 := n ls H1 _ hL hW' (S_new C hS z1 o1)
  have e5 : hz (mkC h cK 0 (fdn cK)) - hz h = 1 := by show hz h + 1 - hz h = 1; omega
  have e6 : hu (mkC h cK 0 (fdn cK)) - hu h = fdn cK := by show hu h + fdn cK - hu h = fdn cK; omega
  simp only [e5, e6, hp] at h9
  rw [List.map_cons, addr_new hW] at h9
  exact h9
theorem op_newa_int {x : Int32} (C : CX p s m args c cc nL own g hs) (hd : decode cc pc = .ok (.newarray .int, 2)) (hp : pcOf P (i + 1) = pc + 2) (hL : LR g L nL ls) (hW : RW g hs h H) (hS : va_S (AA g) s.heap H locs) (hx : 0 ≤ x) (hx2 : x.toNatClampNeg ≤ 10000) (hac : Cond.arrayClass (newarray.typeOf .int) ∈ AW)
    (hcells : cells + 1 ≤ R.cells) (hslots : slots + x.toNatClampNeg ≤ R.slots)
    (n : NX p l e R s m args below meth c cells slots Q nL g hs h P (i + 1, L, .ref (hz h) :: S, mkC h 20 x.toNatClampNeg x.toNatClampNeg)) : W p l e R s m args below meth c H locs cells slots Q (F0 m pc ls ((.int x :: S).map (ph g))) := by
  have hts := C.2.2.2.2.1
  refine va_newaK C.1 C.2.1 (hts _ hac) rfl hd rfl (Int32.not_lt.mpr hx) rfl (Nat.le_trans (Nat.mul_le_mul hx2 (show componentBytes (newarray.typeOf .int) ≤ 8 by decide)) (by decide)) hcells hslots rfl fun H1 cA e1 z1 o1 hAr hNm => ?_
  have hcA : cA = g.2.1 20 := by
    have := ((K_of C).2 0 _ rfl).2
    exact Option.some.inj (hNm.symm.trans this)
  have hW' : RW g hs (mkC h 20 x.toNatClampNeg x.toNatClampNeg) H1 := by
    refine hW.mk (by decide) z1 o1 ?_
    have hk1 : hK (mkC h 20 x.toNatClampNeg x.toNatClampNeg) (hz h) = 20 := by show upr (hK h) (hz h) 20 (hz h) = _; unfold upr; rw [if_pos rfl]
    have hn1 : hN (mkC h 20 x.toNatClampNeg x.toNatClampNeg) (hz h) = x.toNatClampNeg := by show upr (hN h) (hz h) _ (hz h) = _; unfold upr; rw [if_pos rfl]
    have hi1 : hI (mkC h 20 x.toNatClampNeg x.toNatClampNeg) (hz h) = fun _ => 0 := by show upr h.1 (hz h) _ (hz h) = _; unfold upr; rw [if_pos rfl]
    rw [cE_int hk1 (by decide) (by decide), hn1, hi1]
    show H1[H.size]? = some (vp_cell _ _)
    rw [vp_cell_i, e1, hcA]
    rfl
  have h9 := n ls H1 _ hL hW' (S_new C hS z1 o1)
  have e5 : hz (mkC h 20 x.toNatClampNeg x.toNatClampNeg) - hz h = 1 := by show hz h + 1 - hz h = 1; omega
  have e6 : hu (mkC h 20 x.toNatClampNeg x.toNatClampNeg) - hu h = x.toNatClampNeg := by show hu h + x.toNatClampNeg - hu h = _; omega
  simp only [e5, e6, hp] at h9
  rw [List.map_cons, addr_new hW] at h9
  exact h9
theorem op_newa_char {x : Int32} (C : CX p s m args c cc nL own g hs) (hd : decode cc pc = .ok (.newarray .char, 2)) (hp : pcOf P (i + 1) = pc + 2) (hL : LR g L nL ls) (hW : RW g hs h H) (hS : va_S (AA g) s.heap H locs) (hx : 0 ≤ x) (hx2 : x.toNatClampNeg ≤ 10000) (hac : Cond.arrayClass (newarray.typeOf .char) ∈ AW)
    (hcells : cells + 1 ≤ R.cells) (hslots : slots + x.toNatClampNeg ≤ R.slots)
    (n : NX p l e R s m args below meth c cells slots Q nL g hs h P (i + 1, L, .ref (hz h) :: S, mkC h 21 x.toNatClampNeg x.toNatClampNeg)) : W p l e R s m args below meth c H locs cells slots Q (F0 m pc ls ((.int x :: S).map (ph g))) := by
  have hts := C.2.2.2.2.1
  refine va_newaK C.1 C.2.1 (hts _ hac) rfl hd rfl (Int32.not_lt.mpr hx) rfl (Nat.le_trans (Nat.mul_le_mul hx2 (show componentBytes (newarray.typeOf .char) ≤ 8 by decide)) (by decide)) hcells hslots rfl fun H1 cA e1 z1 o1 hAr hNm => ?_
  have hcA : cA = g.2.1 21 := by
    have := ((K_of C).2 1 _ rfl).2
    exact Option.some.inj (hNm.symm.trans this)
  have hW' : RW g hs (mkC h 21 x.toNatClampNeg x.toNatClampNeg) H1 := by
    refine hW.mk (by decide) z1 o1 ?_
    have hk1 : hK (mkC h 21 x.toNatClampNeg x.toNatClampNeg) (hz h) = 21 := by show upr (hK h) (hz h) 21 (hz h) = _; unfold upr; rw [if_pos rfl]
    have hn1 : hN (mkC h 21 x.toNatClampNeg x.toNatClampNeg) (hz h) = x.toNatClampNeg := by show upr (hN h) (hz h) _ (hz h) = _; unfold upr; rw [if_pos rfl]
    have hi1 : hI (mkC h 21 x.toNatClampNeg x.toNatClampNeg) (hz h) = fun _ => 0 := by show upr h.1 (hz h) _ (hz h) = _; unfold upr; rw [if_pos rfl]
    rw [cE_int hk1 (by decide) (by decide), hn1, hi1]
    show H1[H.size]? = some (vp_cell _ _)
    rw [vp_cell_i, e1, hcA]
    rfl
  have h9 := n ls H1 _ hL hW' (S_new C hS z1 o1)
  have e5 : hz (mkC h 21 x.toNatClampNeg x.toNatClampNeg) - hz h = 1 := by show hz h + 1 - hz h = 1; omega
  have e6 : hu (mkC h 21 x.toNatClampNeg x.toNatClampNeg) - hu h = x.toNatClampNeg := by show hu h + x.toNatClampNeg - hu h = _; omega
  simp only [e5, e6, hp] at h9
  rw [List.map_cons, addr_new hW] at h9
  exact h9
theorem op_newa_bool {x : Int32} (C : CX p s m args c cc nL own g hs) (hd : decode cc pc = .ok (.newarray .boolean, 2)) (hp : pcOf P (i + 1) = pc + 2) (hL : LR g L nL ls) (hW : RW g hs h H) (hS : va_S (AA g) s.heap H locs) (hx : 0 ≤ x) (hx2 : x.toNatClampNeg ≤ 10000) (hac : Cond.arrayClass (newarray.typeOf .boolean) ∈ AW)
    (hcells : cells + 1 ≤ R.cells) (hslots : slots + x.toNatClampNeg ≤ R.slots)
    (n : NX p l e R s m args below meth c cells slots Q nL g hs h P (i + 1, L, .ref (hz h) :: S, mkC h 22 x.toNatClampNeg x.toNatClampNeg)) : W p l e R s m args below meth c H locs cells slots Q (F0 m pc ls ((.int x :: S).map (ph g))) := by
  have hts := C.2.2.2.2.1
  refine va_newaK C.1 C.2.1 (hts _ hac) rfl hd rfl (Int32.not_lt.mpr hx) rfl (Nat.le_trans (Nat.mul_le_mul hx2 (show componentBytes (newarray.typeOf .boolean) ≤ 8 by decide)) (by decide)) hcells hslots rfl fun H1 cA e1 z1 o1 hAr hNm => ?_
  have hcA : cA = g.2.1 22 := by
    have := ((K_of C).2 2 _ rfl).2
    exact Option.some.inj (hNm.symm.trans this)
  have hW' : RW g hs (mkC h 22 x.toNatClampNeg x.toNatClampNeg) H1 := by
    refine hW.mk (by decide) z1 o1 ?_
    have hk1 : hK (mkC h 22 x.toNatClampNeg x.toNatClampNeg) (hz h) = 22 := by show upr (hK h) (hz h) 22 (hz h) = _; unfold upr; rw [if_pos rfl]
    have hn1 : hN (mkC h 22 x.toNatClampNeg x.toNatClampNeg) (hz h) = x.toNatClampNeg := by show upr (hN h) (hz h) _ (hz h) = _; unfold upr; rw [if_pos rfl]
    have hi1 : hI (mkC h 22 x.toNatClampNeg x.toNatClampNeg) (hz h) = fun _ => 0 := by show upr h.1 (hz h) _ (hz h) = _; unfold upr; rw [if_pos rfl]
    rw [cE_int hk1 (by decide) (by decide), hn1, hi1]
    show H1[H.size]? = some (vp_cell _ _)
    rw [vp_cell_i, e1, hcA]
    rfl
  have h9 := n ls H1 _ hL hW' (S_new C hS z1 o1)
  have e5 : hz (mkC h 22 x.toNatClampNeg x.toNatClampNeg) - hz h = 1 := by show hz h + 1 - hz h = 1; omega
  have e6 : hu (mkC h 22 x.toNatClampNeg x.toNatClampNeg) - hu h = x.toNatClampNeg := by show hu h + x.toNatClampNeg - hu h = _; omega
  simp only [e5, e6, hp] at h9
  rw [List.map_cons, addr_new hW] at h9
  exact h9
theorem op_newa_long {x : Int32} (C : CX p s m args c cc nL own g hs) (hd : decode cc pc = .ok (.newarray .long, 2)) (hp : pcOf P (i + 1) = pc + 2) (hL : LR g L nL ls) (hW : RW g hs h H) (hS : va_S (AA g) s.heap H locs) (hx : 0 ≤ x) (hx2 : x.toNatClampNeg ≤ 10000) (hac : Cond.arrayClass (newarray.typeOf .long) ∈ AW)
    (hcells : cells + 1 ≤ R.cells) (hslots : slots + x.toNatClampNeg ≤ R.slots)
    (n : NX p l e R s m args below meth c cells slots Q nL g hs h P (i + 1, L, .ref (hz h) :: S, mkC h 23 x.toNatClampNeg x.toNatClampNeg)) : W p l e R s m args below meth c H locs cells slots Q (F0 m pc ls ((.int x :: S).map (ph g))) := by
  have hts := C.2.2.2.2.1
  refine va_newaK C.1 C.2.1 (hts _ hac) rfl hd rfl (Int32.not_lt.mpr hx) rfl (Nat.le_trans (Nat.mul_le_mul hx2 (show componentBytes (newarray.typeOf .long) ≤ 8 by decide)) (by decide)) hcells hslots rfl fun H1 cA e1 z1 o1 hAr hNm => ?_
  have hcA : cA = g.2.1 23 := by
    have := ((K_of C).2 3 _ rfl).2
    exact Option.some.inj (hNm.symm.trans this)
  have hW' : RW g hs (mkC h 23 x.toNatClampNeg x.toNatClampNeg) H1 := by
    refine hW.mk (by decide) z1 o1 ?_
    have hk1 : hK (mkC h 23 x.toNatClampNeg x.toNatClampNeg) (hz h) = 23 := by show upr (hK h) (hz h) 23 (hz h) = _; unfold upr; rw [if_pos rfl]
    have hn1 : hN (mkC h 23 x.toNatClampNeg x.toNatClampNeg) (hz h) = x.toNatClampNeg := by show upr (hN h) (hz h) _ (hz h) = _; unfold upr; rw [if_pos rfl]
    have hi1 : hJ (mkC h 23 x.toNatClampNeg x.toNatClampNeg) (hz h) = fun _ => 0 := by show upr h.2.1 (hz h) _ (hz h) = _; unfold upr; rw [if_pos rfl]
    rw [cE_long hk1, hn1, hi1]
    show H1[H.size]? = some (vp_cell _ _)
    rw [vp_cell_l, e1, hcA]
    rfl
  have h9 := n ls H1 _ hL hW' (S_new C hS z1 o1)
  have e5 : hz (mkC h 23 x.toNatClampNeg x.toNatClampNeg) - hz h = 1 := by show hz h + 1 - hz h = 1; omega
  have e6 : hu (mkC h 23 x.toNatClampNeg x.toNatClampNeg) - hu h = x.toNatClampNeg := by show hu h + x.toNatClampNeg - hu h = _; omega
  simp only [e5, e6, hp] at h9
  rw [List.map_cons, addr_new hW] at h9
  exact h9
theorem op_newr {x : Int32} {idx cn t : Nat} (C : CX p s m args c cc nL own g hs) (hd : decode cc pc = .ok (.anewarray idx, 3)) (hp : pcOf P (i + 1) = pc + 3) (hL : LR g L nL ls) (hW : RW g hs h H) (hS : va_S (AA g) s.heap H locs) (hx : 0 ≤ x) (hx2 : x.toNatClampNeg ≤ 10000) (hok : okk (30 + cn) = true) (hty : (tysT g)[t]? = some (g.2.1 (30 + cn), .object (clk cn).1)) (hcl : Cond.classLink (cnm own) idx (clk cn).1 ∈ AW) (hov : Cond.arrayOver (.object (clk cn).1) ∈ AW)
    (hcells : cells + 1 ≤ R.cells) (hslots : slots + x.toNatClampNeg ≤ R.slots)
    (n : NX p l e R s m args below meth c cells slots Q nL g hs h P (i + 1, L, .ref (hz h) :: S, mkC h (30 + cn) x.toNatClampNeg x.toNatClampNeg)) : W p l e R s m args below meth c H locs cells slots Q (F0 m pc ls ((.int x :: S).map (ph g))) := by
  have hts := C.2.2.2.2.1
  refine W.anew C.1 C.2.1 C.2.2.2.1 (hts _ hcl) (hts _ hov) rfl hd rfl (Int32.not_lt.mpr hx) (Nat.le_trans (Nat.mul_le_mul_right 4 hx2) (by decide)) hcells hslots fun cA kA comp f1 f2 f3 f4 => ?_
  generalize hH1 : H.push ({ cls := cA, slots := Array.replicate x.toNatClampNeg .null, vm := .none } : Cell) = H1
  have z1 : H1.size = H.size + 1 := by rw [← hH1, Array.size_push]
  have e1 : H1[H.size]? = some (arrV cA x.toNatClampNeg (fun _ => .null)) := by rw [← hH1, Array.getElem?_push_size, ← arrV_new]
  have o1 : ∀ q : Nat, q < H.size → H1[q]? = H[q]? := fun q hq => by rw [← hH1, Array.getElem?_push, if_neg (Nat.ne_of_lt hq)]
  have hcA : cA = g.2.1 (30 + cn) := by
    obtain ⟨kA', comp', -, -, -, h4⟩ := ((K_of C).2 t _ hty).2
    exact Option.some.inj (f1.symm.trans h4)
  have hW' : RW g hs (mkC h (30 + cn) x.toNatClampNeg x.toNatClampNeg) H1 := by
    refine hW.mk hok z1 o1 ?_
    have hk1 : hK (mkC h (30 + cn) x.toNatClampNeg x.toNatClampNeg) (hz h) = 30 + cn := by show upr (hK h) (hz h) _ (hz h) = _; unfold upr; rw [if_pos rfl]
    have hn1 : hN (mkC h (30 + cn) x.toNatClampNeg x.toNatClampNeg) (hz h) = x.toNatClampNeg := by show upr (hN h) (hz h) _ (hz h) = _; unfold upr; rw [if_pos rfl]
    have hi1 : hR (mkC h (30 + cn) x.toNatClampNeg x.toNatClampNeg) (hz h) = fun _ => 0 := by show upr h.2.2.1 (hz h) _ (hz h) = _; unfold upr; rw [if_pos rfl]
    rw [cE_ref hk1 (by omega), hn1, hi1]
    show H1[H.size]? = some (vp_cell _ _)
    rw [vp_cell_q, e1, hcA]
    rfl
  have h9 := n ls H1 _ hL hW' (S_new C hS z1 o1)
  have e5 : hz (mkC h (30 + cn) x.toNatClampNeg x.toNatClampNeg) - hz h = 1 := by show hz h + 1 - hz h = 1; omega
  have e6 : hu (mkC h (30 + cn) x.toNatClampNeg x.toNatClampNeg) - hu h = x.toNatClampNeg := by show hu h + x.toNatClampNeg - hu h = _; omega
  simp only [e5, e6, hp] at h9
  rw [List.map_cons, addr_new hW] at h9
  exact h9
theorem op_cast20 {idx a : Nat} (C : CX p s m args c cc nL own g hs) (hd : decode cc pc = .ok (.checkcast idx, 3)) (hp : pcOf P (i + 1) = pc + 3) (hL : LR g L nL ls) (hW : RW g hs h H) (hS : va_S (AA g) s.heap H locs) (hk : hK h a = 20) (hcl : Cond.classLink (cnm own) idx "[I" ∈ AW)
    (n : NX p l e R s m args below meth c cells slots Q nL g hs h P (i + 1, L, .ref a :: S, h)) : W p l e R s m args below meth c H locs cells slots Q (F0 m pc ls ((.ref a :: S).map (ph g))) := by
  obtain ⟨h0, h1⟩ := hW.own (a := a) (by omega)
  have hat := (hW.2.2.1 a h0 h1).2
  rw [cE_int hk (by decide) (by decide)] at hat
  have n' := n.here hL hW hS hp
  rw [List.map_cons, ph_own h0] at n' ⊢
  have hnm : s.vm.findClass "[I" = some (g.2.1 20) := by
    have := ((K_of C).2 0 _ rfl).2
    exact this
  exact va_castA C.1 C.2.1 C.2.2.2.1 (C.2.2.2.2.1 _ hcl) (one_P hat) 0 rfl hnm hd n'
theorem op_gets {idx : Nat} {q : String × String × String × Nat × Nat} {v : Value} (C : CX p s m args c cc nL own g hs) (hd : decode cc pc = .ok (.getstatic idx, 3)) (hp : pcOf P (i + 1) = pc + 3) (hL : LR g L nL ls) (hW : RW g hs h H) (hS : va_S (AA g) s.heap H locs) (hq : q ∈ stT) (hv : ph g v = stv g q.2.2.2)
    (hl : Cond.fieldLink (cnm own) idx q.1 q.2.1 q.2.2.1 ∈ AW ∨ Cond.fieldLinkNest (cnm own) idx q.1 q.2.1 q.2.2.1 "PenThatJumps" ∈ AW)
    (n : NX p l e R s m args below meth c cells slots Q nL g hs h P (i + 1, L, v :: S, h)) : W p l e R s m args below meth c H locs cells slots Q (F0 m pc ls (S.map (ph g))) := by
  have n' := n.here hL hW hS hp
  rw [List.map_cons, hv] at n'
  have hZ := (S_of C).1 q hq
  rcases hl with hl | hl
  · exact va_gets C.1 C.2.1 hZ hS C.2.2.2.1 (C.2.2.2.2.1 _ hl) (fun _ z => z) hd n'
  · exact va_getsN C.1 C.2.1 hZ hS C.2.2.2.1 (C.2.2.2.2.1 _ hl) (fun _ z => z) hd n'
theorem op_getsf {idx cK k a : Nat} (C : CX p s m args c cc nL own g hs) (hd : decode cc pc = .ok (.getfield idx, 3)) (hp : pcOf P (i + 1) = pc + 3) (hL : LR g L nL ls) (hW : RW g hs h H) (hS : va_S (AA g) s.heap H locs) (hk : hK h a = cK) (hc : cK = 40 ∨ cK = 42) (hkn : k < fdn cK)
    (hl : Cond.fieldLink (cnm own) idx (sfT cK k).1 (sfT cK k).2.1 (sfT cK k).2.2 ∈ AW ∨ Cond.fieldLinkNest (cnm own) idx (sfT cK k).1 (sfT cK k).2.1 (sfT cK k).2.2 "PenThatJumps" ∈ AW)
    (n : NX p l e R s m args below meth c cells slots Q nL g hs h P (i + 1, L, fvA h cK a k :: S, h)) : W p l e R s m args below meth c H locs cells slots Q (F0 m pc ls ((.ref a :: S).map (ph g))) := by
  obtain ⟨ha, e1, e2, e3, e4⟩ := st_of hW (a := a) (by omega) (by omega)
  have e1' : hK hs a = cK := e1.trans hk
  obtain ⟨t, ht, hF⟩ := (S_of C).2.1 a ha (by rw [e1']; exact hc)
  rw [e1'] at hF
  have hE := hF k hkn
  have hfe : fvl g hs cK a k = fvl g h cK a k := by unfold fvl; rw [e3, e4]
  rw [hfe] at hE
  have n' := n.here hL hW hS hp
  rw [List.map_cons, ph_fvA] at n'
  rw [List.map_cons, ph_some ht]
  rcases hl with hl | hl
  · exact vk_getf C.1 C.2.1 hE hS C.2.2.2.1 (C.2.2.2.2.1 _ hl) (fun _ z => z) hd n'
  · obtain ⟨cf, k9, fi, f, cell, h1, h2, h3, h4, h5, h6⟩ := hE.kept hS.2.1
    exact va_Wgetf C.1 C.2.1 C.2.2.2.1 (C.2.2.2.2.1 _ hl) h1 h2 h3 h4 (v := fvl g h cK a k) h5 rfl rfl hd n'
end ARR
end
section
/-! THE STEP: what the small machine does in one step, the real one does -/
def inx (P : List IR) (i pc ln : Nat) : Bool := decide (pcOf P (i + 1) = pc + ln)
def itg (P : List IR) (pc : Nat) (off : Int) (t : Nat) : Bool := decide ((pc : Int) + off = (pcOf P t : Int))
def wat (w : Nat) (c : Cond) : Bool := decide (lw_tbl[w]? = some c)
/-- an instruction stands as it must: what lies behind it, its targets, its words -/
def ick (own : Nat) (ini : Bool) (P : List IR) (i : Nat) (q : IR) : Bool := match q.2.1, q.2.2.1 with
  | .bipush v, _ => decide ((Int8.ofInt v).toInt32 = Int32.ofInt v) && inx P i q.1 2
  | .sipush v, _ => decide ((Int16.ofInt v).toInt32 = Int32.ofInt v) && inx P i q.1 3
  | .ldc k, [n] => wat q.2.2.2 (.constant (cnm own) k (Int32.ofNat n)) && inx P i q.1 2
  | .ldc_w k, [n] => wat q.2.2.2 (.constant (cnm own) k (Int32.ofNat n)) && inx P i q.1 3
  | .ldc2_w k, [n] => wat q.2.2.2 (.constantLong (cnm own) k (Int64.ofNat n)) && inx P i q.1 3
  | .ldc2_w k, [n, _] => wat q.2.2.2 (.constantLong (cnm own) k (-Int64.ofNat n)) && inx P i q.1 3
  | .goto off, [t] => itg P q.1 off t
  | .ifCond _ off, [t] => itg P q.1 off t && inx P i q.1 3
  | .if_icmp _ off, [t] => itg P q.1 off t && inx P i q.1 3
  | .if_acmp _ off, [t] => itg P q.1 off t && inx P i q.1 3
  | .ifnull off, [t] => itg P q.1 off t && inx P i q.1 3
  | .ifnonnull off, [t] => itg P q.1 off t && inx P i q.1 3
  | .tableswitch df lo hi offs, d :: ts => decide (hi = lo + ts.length - 1) && decide (offs.size = ts.length) && itg P q.1 df d && (List.range ts.length).all (fun k => itg P q.1 (offs.getD k 0) (ts.getD k 0))
  | .getfield f, [c, k] => decide (k < fdn c) && inx P i q.1 3 && (decide (c < 13) && (wat q.2.2.2 (flk own f c k) || wat q.2.2.2 (flkN own f c k)) || (decide (c = 40) || decide (c = 42)) && (wat q.2.2.2 (.fieldLink (cnm own) f (sfT c k).1 (sfT c k).2.1 (sfT c k).2.2) || wat q.2.2.2 (.fieldLinkNest (cnm own) f (sfT c k).1 (sfT c k).2.1 (sfT c k).2.2 "PenThatJumps")))
  | .putfield f, [c, k] => decide (c < 13) && decide (k < fdn c) && inx P i q.1 3 && (!((clk c).2.1 k).2.2.2 && (wat q.2.2.2 (flk own f c k) || wat q.2.2.2 (flkN own f c k)) || ((clk c).2.1 k).2.2.2 && wat q.2.2.2 (flk own f c k) && ini && decide (((clk c).2.1 k).1 = cnm own))
  | .getstatic f, [a, b] => inx P i q.1 3 && stT.any (fun t => decide (t.2.2.2 = (a, b)) && (wat q.2.2.2 (.fieldLink (cnm own) f t.1 t.2.1 t.2.2.1) || wat q.2.2.2 (.fieldLinkNest (cnm own) f t.1 t.2.1 t.2.2.1 "PenThatJumps")))
  | .newarray .int, [k] => decide (k = 20) && inx P i q.1 2
  | .newarray .char, [k] => decide (k = 21) && inx P i q.1 2
  | .newarray .boolean, [k] => decide (k = 22) && inx P i q.1 2
  | .newarray .long, [k] => decide (k = 23) && inx P i q.1 2
  | .anewarray f, [k] => decide (k ∈ [33, 34, 36, 37, 38]) && wat q.2.2.2 (.classLink (cnm own) f (clk (k - 30)).1) && inx P i q.1 3
  | .new f, [c] => decide (c < 12) && wat q.2.2.2 (.classLink (cnm own) f (clk c).1) && inx P i q.1 3
  | .checkcast f, _ => wat q.2.2.2 (.classLink (cnm own) f "[I") && inx P i q.1 3
  | .ldc _, _ => false
  | .ldc_w _, _ => false
  | .ldc2_w _, _ => false
  | .goto _, _ => false
  | .ifCond _ _, _ => false
  | .if_icmp _ _, _ => false
  | .if_acmp _ _, _ => false
  | .ifnull _, _ => false
  | .ifnonnull _, _ => false
  | .tableswitch .., _ => false
  | .getfield _, _ => false
  | .putfield _, _ => false
  | .getstatic _, _ => false
  | .newarray _, _ => false
  | .anewarray _, _ => false
  | .new _, _ => false
  | x, _ => inx P i q.1 (ilen x q.1)
set_option maxRecDepth 100000 in
theorem made_ok : ∀ c, c < 12 → Cond.instantiable (clk c).1 (fdn c) ∈ lw_tbl ∧ Cond.initialized (clk c).1 ∈ lw_tbl := by decide +kernel
set_option maxRecDepth 100000 in
theorem over_ok : ∀ c ∈ [3, 4, 6, 7, 8], Cond.arrayOver (.object (clk c).1) ∈ lw_tbl := by decide +kernel
set_option maxRecDepth 100000 in
theorem arr_ok : Cond.arrayClass (newarray.typeOf .int) ∈ lw_tbl ∧ Cond.arrayClass (newarray.typeOf .char) ∈ lw_tbl ∧ Cond.arrayClass (newarray.typeOf .boolean) ∈ lw_tbl ∧ Cond.arrayClass (newarray.typeOf .long) ∈ lw_tbl := by decide +kernel
theorem AWof {w : Cond} (h : w ∈ lw_tbl) (hg : (goodWord w || isNestW w) = true) : w ∈ AW := List.mem_filter.mpr ⟨h, hg⟩
theorem wat_AW {w : Nat} {c : Cond} (h : wat w c = true) (hg : (goodWord c || isNestW c) = true) : c ∈ AW := mem_AW (of_decide_eq_true h) hg
theorem guardo_some {α : Type} {b : Bool} {x : Option α} {z : α} (h : guardo b x = some z) : b = true ∧ x = some z := by
  unfold guardo at h
  by_cases q : b = true
  · rw [if_pos q] at h; exact ⟨q, h⟩
  · rw [if_neg q] at h; cases h
theorem ldI_inv {L S : List Value} {h : AH} {i n : Nat} {z : AS} (q : ldI L S h i n = some z) : ∃ v, L[n]? = some (.int v) ∧ z = (i + 1, L, .int v :: S, h) := by
  unfold ldI at q
  split at q
  · rename_i v hv; exact ⟨v, hv, (Option.some.inj q).symm⟩
  · cases q
theorem ldA_inv {L S : List Value} {h : AH} {i n : Nat} {z : AS} (q : ldA L S h i n = some z) : ∃ v, L[n]? = some (.ref v) ∧ z = (i + 1, L, .ref v :: S, h) := by
  unfold ldA at q
  split at q
  · rename_i v hv; exact ⟨v, hv, (Option.some.inj q).symm⟩
  · cases q
theorem ldJ_inv {L S : List Value} {h : AH} {i n : Nat} {z : AS} (q : ldJ L S h i n = some z) : ∃ v, L[n]? = some (.long v) ∧ L[n + 1]? = some .null ∧ z = (i + 1, L, .long v :: S, h) := by
  unfold ldJ at q
  split at q
  · rename_i v hv hv2; exact ⟨v, hv, hv2, (Option.some.inj q).symm⟩
  · cases q
theorem stI_inv {L S : List Value} {h : AH} {i n : Nat} {z : AS} (q : stI L S h i n = some z) : ∃ v S', S = .int v :: S' ∧ n < L.length ∧ z = (i + 1, L.set n (.int v), S', h) := by
  unfold stI at q
  split at q
  · obtain ⟨q1, q2⟩ := guardo_some q; exact ⟨_, _, rfl, of_decide_eq_true q1, (Option.some.inj q2).symm⟩
  · cases q
theorem stA_inv {L S : List Value} {h : AH} {i n : Nat} {z : AS} (q : stA L S h i n = some z) : ∃ v S', S = .ref v :: S' ∧ n < L.length ∧ z = (i + 1, L.set n (.ref v), S', h) := by
  unfold stA at q
  split at q
  · obtain ⟨q1, q2⟩ := guardo_some q; exact ⟨_, _, rfl, of_decide_eq_true q1, (Option.some.inj q2).symm⟩
  · cases q
theorem stJ_inv {L S : List Value} {h : AH} {i n : Nat} {z : AS} (q : stJ L S h i n = some z) : ∃ v S', S = .long v :: S' ∧ n + 1 < L.length ∧ z = (i + 1, (L.set n (.long v)).set (n + 1) .null, S', h) := by
  unfold stJ at q
  split at q
  · obtain ⟨q1, q2⟩ := guardo_some q; exact ⟨_, _, rfl, of_decide_eq_true q1, (Option.some.inj q2).symm⟩
  · cases q
theorem biI_inv {f : Int32 → Int32 → Int32} {L S : List Value} {h : AH} {i : Nat} {z : AS} (q : biI f L S h i = some z) : ∃ x y S', S = .int y :: .int x :: S' ∧ z = (i + 1, L, .int (f x y) :: S', h) := by
  unfold biI at q
  split at q
  · exact ⟨_, _, _, rfl, (Option.some.inj q).symm⟩
  · cases q
theorem biJ_inv {f : Int64 → Int64 → Int64} {L S : List Value} {h : AH} {i : Nat} {z : AS} (q : biJ f L S h i = some z) : ∃ x y S', S = .long y :: .long x :: S' ∧ z = (i + 1, L, .long (f x y) :: S', h) := by
  unfold biJ at q
  split at q
  · exact ⟨_, _, _, rfl, (Option.some.inj q).symm⟩
  · cases q
theorem biS_inv {f : Int64 → Int32 → Int64} {L S : List Value} {h : AH} {i : Nat} {z : AS} (q : biS f L S h i = some z) : ∃ x y S', S = .int y :: .long x :: S' ∧ z = (i + 1, L, .long (f x y) :: S', h) := by
  unfold biS at q
  split at q
  · exact ⟨_, _, _, rfl, (Option.some.inj q).symm⟩
  · cases q
theorem aldI_inv {k : List Nat} {L S : List Value} {h : AH} {i : Nat} {z : AS} (q : aldI k L S h i = some z) : ∃ x a S', S = .int x :: .ref a :: S' ∧ hK h a ∈ k ∧ ixo x (hN h a) = true ∧ z = (i + 1, L, .int (hI h a x.toNatClampNeg) :: S', h) := by
  unfold aldI at q
  split at q
  · obtain ⟨q1, q2⟩ := guardo_some q
    rw [Bool.and_eq_true] at q1
    exact ⟨_, _, _, rfl, of_decide_eq_true q1.1, q1.2, (Option.some.inj q2).symm⟩
  · cases q
section SIM
variable {p : Program} {l : Launch} {e : Env} {R : Room} {s : State} {m : MethodId} {args : Array Value} {below : List Frame} {meth : Method} {c : Code} {H : Heap} {locs : List Loc} {cells slots : Nat} {Q : State → Prop} {cc : ByteArray} {nL own : Nat} {ls : Array Slot} {g : GG} {hs h : AH} {P : List IR} {i : Nat} {L S : List Value}
theorem put_hl {ini : Bool} {meth : Method} {own i pc f cK k w : Nat} {P : List IR} (hini : ini = true → meth.name = "<init>") (hk : ick own ini P i (pc, .putfield f, [cK, k], w) = true) : cK < 13 ∧ k < fdn cK ∧ pcOf P (i + 1) = pc + 3 ∧ ((((clk cK).2.1 k).2.2.2 = false ∧ (flk own f cK k ∈ AW ∨ flkN own f cK k ∈ AW)) ∨ (((clk cK).2.1 k).2.2.2 = true ∧ flk own f cK k ∈ AW ∧ meth.name = "<init>" ∧ ((clk cK).2.1 k).1 = cnm own)) := by
  have hk := Bool.and_eq_true_iff.mp hk
  have hk1 := Bool.and_eq_true_iff.mp hk.1
  have hk2 := Bool.and_eq_true_iff.mp hk1.1
  refine ⟨of_decide_eq_true hk2.1, of_decide_eq_true hk2.2, of_decide_eq_true hk1.2, ?_⟩
  rcases Bool.or_eq_true_iff.mp hk.2 with t | t
  · have t := Bool.and_eq_true_iff.mp t
    refine Or.inl ⟨by simpa using t.1, ?_⟩
    rcases Bool.or_eq_true_iff.mp t.2 with u | u
    · exact Or.inl (wat_AW u rfl)
    · exact Or.inr (wat_AW u rfl)
  · have t := Bool.and_eq_true_iff.mp t
    have t1 := Bool.and_eq_true_iff.mp t.1
    have t2 := Bool.and_eq_true_iff.mp t1.1
    exact Or.inr ⟨t2.1, wat_AW t2.2 rfl, hini t1.2, of_decide_eq_true t.2⟩
set_option maxHeartbeats 4000000 in
theorem sim_step {ini : Bool} {q : IR} {z : AS} (C : CX p s m args c cc nL own g hs) (hd : decode cc q.1 = .ok (q.2.1, ilen q.2.1 q.1)) (hk : ick own ini P i q = true) (hini : ini = true → meth.name = "<init>") (hL : LR g L nL ls) (hW : RW g hs h H) (hS : va_S (AA g) s.heap H locs)
    (hst : stp q.2.1 q.2.2.1 i L S h = some z) (hr : cells + (hz z.2.2.2 - hz h) ≤ R.cells ∧ slots + (hu z.2.2.2 - hu h) ≤ R.slots) (n : NX p l e R s m args below meth c cells slots Q nL g hs h P z) : W p l e R s m args below meth c H locs cells slots Q (F0 m q.1 ls (S.map (ph g))) := by
  obtain ⟨pc, x, o, w⟩ := q
  dsimp only at hd hst ⊢
  cases x with
  | iconst v =>
    cases hst
    exact op_iconst C hd (of_decide_eq_true hk) hL hW hS n
  | bipush v =>
    cases hst
    have hk := Bool.and_eq_true_iff.mp hk
    exact op_bipush C hd (of_decide_eq_true hk.2) hL hW hS (of_decide_eq_true hk.1) n
  | sipush v =>
    cases hst
    have hk := Bool.and_eq_true_iff.mp hk
    exact op_sipush C hd (of_decide_eq_true hk.2) hL hW hS (of_decide_eq_true hk.1) n
  | lconst v =>
    cases hst
    exact op_lconst C hd (of_decide_eq_true hk) hL hW hS n
  | aconst_null =>
    cases hst
    exact op_null C hd (of_decide_eq_true hk) hL hW hS n
  | ldc k =>
    match o, hst, hk with
    | [v], hst, hk =>
      cases hst
      have hk := Bool.and_eq_true_iff.mp hk
      exact op_ldc C hd (of_decide_eq_true hk.2) hL hW hS (wat_AW hk.1 rfl) n
  | ldc_w k =>
    match o, hst, hk with
    | [v], hst, hk =>
      cases hst
      have hk := Bool.and_eq_true_iff.mp hk
      exact op_ldcw C hd (of_decide_eq_true hk.2) hL hW hS (wat_AW hk.1 rfl) n
  | ldc2_w k =>
    match o, hst, hk with
    | [v], hst, hk =>
      cases hst
      have hk := Bool.and_eq_true_iff.mp hk
      exact op_ldc2 C hd (of_decide_eq_true hk.2) hL hW hS (wat_AW hk.1 rfl) n
    | [v, _], hst, hk =>
      cases hst
      have hk := Bool.and_eq_true_iff.mp hk
      exact op_ldc2 C hd (of_decide_eq_true hk.2) hL hW hS (wat_AW hk.1 rfl) n
  | iload k =>
    obtain ⟨v, hv, rfl⟩ := ldI_inv hst
    exact op_iload C hd (of_decide_eq_true hk) hL hW hS hv n
  | iload_n k =>
    obtain ⟨v, hv, rfl⟩ := ldI_inv hst
    exact op_iload_n C hd (of_decide_eq_true hk) hL hW hS hv n
  | aload k =>
    obtain ⟨v, hv, rfl⟩ := ldA_inv hst
    exact op_aload C hd (of_decide_eq_true hk) hL hW hS hv n
  | aload_n k =>
    obtain ⟨v, hv, rfl⟩ := ldA_inv hst
    exact op_aload_n C hd (of_decide_eq_true hk) hL hW hS hv n
  | lload k =>
    obtain ⟨v, hv, hv2, rfl⟩ := ldJ_inv hst
    exact op_lload C hd (of_decide_eq_true hk) hL hW hS hv hv2 n
  | lload_n k =>
    obtain ⟨v, hv, hv2, rfl⟩ := ldJ_inv hst
    exact op_lload_n C hd (of_decide_eq_true hk) hL hW hS hv hv2 n
  | istore k =>
    obtain ⟨v, S', rfl, hv, rfl⟩ := stI_inv hst
    exact op_istore C hd (of_decide_eq_true hk) hL hW hS (by rw [← hL.1]; exact hv) n
  | istore_n k =>
    obtain ⟨v, S', rfl, hv, rfl⟩ := stI_inv hst
    exact op_istore_n C hd (of_decide_eq_true hk) hL hW hS (by rw [← hL.1]; exact hv) n
  | astore k =>
    obtain ⟨v, S', rfl, hv, rfl⟩ := stA_inv hst
    exact op_astore C hd (of_decide_eq_true hk) hL hW hS (by rw [← hL.1]; exact hv) n
  | astore_n k =>
    obtain ⟨v, S', rfl, hv, rfl⟩ := stA_inv hst
    exact op_astore_n C hd (of_decide_eq_true hk) hL hW hS (by rw [← hL.1]; exact hv) n
  | lstore k =>
    obtain ⟨v, S', rfl, hv, rfl⟩ := stJ_inv hst
    exact op_lstore C hd (of_decide_eq_true hk) hL hW hS (by rw [← hL.1]; exact hv) n
  | lstore_n k =>
    obtain ⟨v, S', rfl, hv, rfl⟩ := stJ_inv hst
    exact op_lstore_n C hd (of_decide_eq_true hk) hL hW hS (by rw [← hL.1]; exact hv) n
  | iinc k v =>
    simp only [stp] at hst
    split at hst
    · rename_i v' hv
      cases hst
      exact op_iinc C hd (of_decide_eq_true hk) hL hW hS hv n
    · cases hst
  | iadd =>
    obtain ⟨x, y, S', rfl, rfl⟩ := biI_inv hst
    exact op_iadd C hd (of_decide_eq_true hk) hL hW hS n
  | isub =>
    obtain ⟨x, y, S', rfl, rfl⟩ := biI_inv hst
    exact op_isub C hd (of_decide_eq_true hk) hL hW hS n
  | imul =>
    obtain ⟨x, y, S', rfl, rfl⟩ := biI_inv hst
    exact op_imul C hd (of_decide_eq_true hk) hL hW hS n
  | iand =>
    obtain ⟨x, y, S', rfl, rfl⟩ := biI_inv hst
    exact op_iand C hd (of_decide_eq_true hk) hL hW hS n
  | ior =>
    obtain ⟨x, y, S', rfl, rfl⟩ := biI_inv hst
    exact op_ior C hd (of_decide_eq_true hk) hL hW hS n
  | ishl =>
    obtain ⟨x, y, S', rfl, rfl⟩ := biI_inv hst
    exact op_ishl C hd (of_decide_eq_true hk) hL hW hS n
  | ishr =>
    obtain ⟨x, y, S', rfl, rfl⟩ := biI_inv hst
    exact op_ishr C hd (of_decide_eq_true hk) hL hW hS n
  | ladd =>
    obtain ⟨x, y, S', rfl, rfl⟩ := biJ_inv hst
    exact op_ladd C hd (of_decide_eq_true hk) hL hW hS n
  | lsub =>
    obtain ⟨x, y, S', rfl, rfl⟩ := biJ_inv hst
    exact op_lsub C hd (of_decide_eq_true hk) hL hW hS n
  | lmul =>
    obtain ⟨x, y, S', rfl, rfl⟩ := biJ_inv hst
    exact op_lmul C hd (of_decide_eq_true hk) hL hW hS n
  | land =>
    obtain ⟨x, y, S', rfl, rfl⟩ := biJ_inv hst
    exact op_land C hd (of_decide_eq_true hk) hL hW hS n
  | lor =>
    obtain ⟨x, y, S', rfl, rfl⟩ := biJ_inv hst
    exact op_lor C hd (of_decide_eq_true hk) hL hW hS n
  | lshl =>
    obtain ⟨x, y, S', rfl, rfl⟩ := biS_inv hst
    exact op_lshl C hd (of_decide_eq_true hk) hL hW hS n
  | lshr =>
    obtain ⟨x, y, S', rfl, rfl⟩ := biS_inv hst
    exact op_lshr C hd (of_decide_eq_true hk) hL hW hS n
  | lushr =>
    obtain ⟨x, y, S', rfl, rfl⟩ := biS_inv hst
    exact op_lushr C hd (of_decide_eq_true hk) hL hW hS n
  | idiv =>
    simp only [stp] at hst
    split at hst
    · obtain ⟨q1, q2⟩ := guardo_some hst
      cases q2
      exact op_idiv C hd (of_decide_eq_true hk) hL hW hS (of_decide_eq_true q1) n
    · cases hst
  | irem =>
    simp only [stp] at hst
    split at hst
    · obtain ⟨q1, q2⟩ := guardo_some hst
      cases q2
      exact op_irem C hd (of_decide_eq_true hk) hL hW hS (of_decide_eq_true q1) n
    · cases hst
  | ldiv =>
    simp only [stp] at hst
    split at hst
    · obtain ⟨q1, q2⟩ := guardo_some hst
      cases q2
      exact op_ldiv C hd (of_decide_eq_true hk) hL hW hS (of_decide_eq_true q1) n
    · cases hst
  | lrem =>
    simp only [stp] at hst
    split at hst
    · obtain ⟨q1, q2⟩ := guardo_some hst
      cases q2
      exact op_lrem C hd (of_decide_eq_true hk) hL hW hS (of_decide_eq_true q1) n
    · cases hst
  | ineg =>
    simp only [stp] at hst
    split at hst
    · cases hst
      exact op_ineg C hd (of_decide_eq_true hk) hL hW hS n
    · cases hst
  | lneg =>
    simp only [stp] at hst
    split at hst
    · cases hst
      exact op_lneg C hd (of_decide_eq_true hk) hL hW hS n
    · cases hst
  | lcmp =>
    simp only [stp] at hst
    split at hst
    · cases hst
      exact op_lcmp C hd (of_decide_eq_true hk) hL hW hS n
    · cases hst
  | i2l =>
    simp only [stp] at hst
    split at hst
    · cases hst
      exact op_i2l C hd (of_decide_eq_true hk) hL hW hS n
    · cases hst
  | l2i =>
    simp only [stp] at hst
    split at hst
    · cases hst
      exact op_l2i C hd (of_decide_eq_true hk) hL hW hS n
    · cases hst
  | i2c =>
    simp only [stp] at hst
    split at hst
    · cases hst
      exact op_i2c C hd (of_decide_eq_true hk) hL hW hS n
    · cases hst
  | dup =>
    simp only [stp] at hst
    split at hst
    · cases hst
      exact op_dup C hd (of_decide_eq_true hk) hL hW hS rfl n
    · cases hst
      exact op_dup C hd (of_decide_eq_true hk) hL hW hS rfl n
    · cases hst
  | dup2 =>
    simp only [stp] at hst
    split at hst
    · cases hst
      exact op_dup2a C hd (of_decide_eq_true hk) hL hW hS rfl rfl n
    · cases hst
      exact op_dup2b C hd (of_decide_eq_true hk) hL hW hS rfl n
    · cases hst
  | pop =>
    simp only [stp] at hst
    split at hst
    · cases hst
      exact op_pop C hd (of_decide_eq_true hk) hL hW hS rfl n
    · cases hst
  | checkcast k =>
    simp only [stp] at hst
    split at hst
    · obtain ⟨q1, q2⟩ := guardo_some hst
      cases q2
      have hk := Bool.and_eq_true_iff.mp hk
      exact op_cast20 C hd (of_decide_eq_true hk.2) hL hW hS (of_decide_eq_true q1) (wat_AW hk.1 rfl) n
    · cases hst
  | goto off =>
    match o, hst, hk with
    | [t], hst, hk =>
      cases hst
      exact op_goto C hd (of_decide_eq_true hk) hL hW hS n
  | ifCond cd off =>
    match o, S, hst, hk with
    | [t], .int x :: S, hst, hk =>
      have hk := Bool.and_eq_true_iff.mp hk
      have ht := of_decide_eq_true hk.1
      have hp := of_decide_eq_true hk.2
      simp only [stp] at hst
      cases cd with
      | eq =>
        refine op_if_eq C hd hp ht hL hW hS (fun q => ?_) (fun q => ?_)
        · rw [if_pos (show cnd .eq x 0 = true from decide_eq_true q)] at hst; cases hst; exact n
        · rw [if_neg (show ¬ cnd .eq x 0 = true from fun z => q (of_decide_eq_true z))] at hst; cases hst; exact n
      | ne =>
        refine op_if_ne C hd hp ht hL hW hS (fun q => ?_) (fun q => ?_)
        · rw [if_pos (show cnd .ne x 0 = true from decide_eq_true q)] at hst; cases hst; exact n
        · rw [if_neg (show ¬ cnd .ne x 0 = true from fun z => q (of_decide_eq_true z))] at hst; cases hst; exact n
      | lt =>
        refine op_if_lt C hd hp ht hL hW hS (fun q => ?_) (fun q => ?_)
        · rw [if_pos (show cnd .lt x 0 = true from decide_eq_true q)] at hst; cases hst; exact n
        · rw [if_neg (show ¬ cnd .lt x 0 = true from fun z => q (of_decide_eq_true z))] at hst; cases hst; exact n
      | ge =>
        refine op_if_ge C hd hp ht hL hW hS (fun q => ?_) (fun q => ?_)
        · rw [if_pos (show cnd .ge x 0 = true from decide_eq_true q)] at hst; cases hst; exact n
        · rw [if_neg (show ¬ cnd .ge x 0 = true from fun z => q (of_decide_eq_true z))] at hst; cases hst; exact n
      | gt =>
        refine op_if_gt C hd hp ht hL hW hS (fun q => ?_) (fun q => ?_)
        · rw [if_pos (show cnd .gt x 0 = true from decide_eq_true q)] at hst; cases hst; exact n
        · rw [if_neg (show ¬ cnd .gt x 0 = true from fun z => q (of_decide_eq_true z))] at hst; cases hst; exact n
      | le =>
        refine op_if_le C hd hp ht hL hW hS (fun q => ?_) (fun q => ?_)
        · rw [if_pos (show cnd .le x 0 = true from decide_eq_true q)] at hst; cases hst; exact n
        · rw [if_neg (show ¬ cnd .le x 0 = true from fun z => q (of_decide_eq_true z))] at hst; cases hst; exact n
  | if_icmp cd off =>
    match o, S, hst, hk with
    | [t], .int y :: .int x :: S, hst, hk =>
      have hk := Bool.and_eq_true_iff.mp hk
      have ht := of_decide_eq_true hk.1
      have hp := of_decide_eq_true hk.2
      simp only [stp] at hst
      cases cd with
      | eq =>
        refine op_icmp_eq C hd hp ht hL hW hS (fun q => ?_) (fun q => ?_)
        · rw [if_pos (show cnd .eq x y = true from decide_eq_true q)] at hst; cases hst; exact n
        · rw [if_neg (show ¬ cnd .eq x y = true from fun z => q (of_decide_eq_true z))] at hst; cases hst; exact n
      | ne =>
        refine op_icmp_ne C hd hp ht hL hW hS (fun q => ?_) (fun q => ?_)
        · rw [if_pos (show cnd .ne x y = true from decide_eq_true q)] at hst; cases hst; exact n
        · rw [if_neg (show ¬ cnd .ne x y = true from fun z => q (of_decide_eq_true z))] at hst; cases hst; exact n
      | lt =>
        refine op_icmp_lt C hd hp ht hL hW hS (fun q => ?_) (fun q => ?_)
        · rw [if_pos (show cnd .lt x y = true from decide_eq_true q)] at hst; cases hst; exact n
        · rw [if_neg (show ¬ cnd .lt x y = true from fun z => q (of_decide_eq_true z))] at hst; cases hst; exact n
      | ge =>
        refine op_icmp_ge C hd hp ht hL hW hS (fun q => ?_) (fun q => ?_)
        · rw [if_pos (show cnd .ge x y = true from decide_eq_true q)] at hst; cases hst; exact n
        · rw [if_neg (show ¬ cnd .ge x y = true from fun z => q (of_decide_eq_true z))] at hst; cases hst; exact n
      | gt =>
        refine op_icmp_gt C hd hp ht hL hW hS (fun q => ?_) (fun q => ?_)
        · rw [if_pos (show cnd .gt x y = true from decide_eq_true q)] at hst; cases hst; exact n
        · rw [if_neg (show ¬ cnd .gt x y = true from fun z => q (of_decide_eq_true z))] at hst; cases hst; exact n
      | le =>
        refine op_icmp_le C hd hp ht hL hW hS (fun q => ?_) (fun q => ?_)
        · rw [if_pos (show cnd .le x y = true from decide_eq_true q)] at hst; cases hst; exact n
        · rw [if_neg (show ¬ cnd .le x y = true from fun z => q (of_decide_eq_true z))] at hst; cases hst; exact n
  | if_acmp cd off =>
    match o, S, hst, hk with
    | [t], .ref y :: .ref x :: S, hst, hk =>
      have hk := Bool.and_eq_true_iff.mp hk
      have ht := of_decide_eq_true hk.1
      have hp := of_decide_eq_true hk.2
      simp only [stp] at hst
      obtain ⟨q1, q2⟩ := guardo_some hst
      have q1 := of_decide_eq_true q1
      cases cd with
      | eq =>
        refine op_acmp_eq C hd hp ht hL hW hS q1 (fun q => ?_) (fun q => ?_)
        · simp only [if_pos q] at q2; cases q2; exact n
        · simp only [if_neg q] at q2; cases q2; exact n
      | ne =>
        refine op_acmp_ne C hd hp ht hL hW hS q1 (fun q => ?_) (fun q => ?_)
        · simp only [if_neg q] at q2; cases q2; exact n
        · simp only [if_pos q] at q2; cases q2; exact n
  | ifnull off =>
    match o, S, hst, hk with
    | [t], .ref x :: S, hst, hk =>
      have hk := Bool.and_eq_true_iff.mp hk
      simp only [stp] at hst
      obtain ⟨q1, q2⟩ := guardo_some hst
      refine op_ifnull C hd (of_decide_eq_true hk.2) (of_decide_eq_true hk.1) hL hW hS (of_decide_eq_true q1) (fun q => ?_) (fun q => ?_)
      · rw [if_pos q] at q2; cases q2; exact n
      · rw [if_neg q] at q2; cases q2; exact n
  | ifnonnull off =>
    match o, S, hst, hk with
    | [t], .ref x :: S, hst, hk =>
      have hk := Bool.and_eq_true_iff.mp hk
      simp only [stp] at hst
      obtain ⟨q1, q2⟩ := guardo_some hst
      refine op_ifnonnull C hd (of_decide_eq_true hk.2) (of_decide_eq_true hk.1) hL hW hS (of_decide_eq_true q1) (fun q => ?_) (fun q => ?_)
      · rw [if_neg q] at q2; cases q2; exact n
      · rw [if_pos q] at q2; cases q2; exact n
  | tableswitch df lo hi offs =>
    match o, S, hst, hk with
    | d :: ts, .int x :: S, hst, hk =>
      have hk := Bool.and_eq_true_iff.mp hk
      have hk1 := Bool.and_eq_true_iff.mp hk.1
      have hk2 := Bool.and_eq_true_iff.mp hk1.1
      simp only [stp] at hst
      refine op_tsw C hd (of_decide_eq_true hk2.1) (of_decide_eq_true hk2.2) (of_decide_eq_true hk1.2) (fun k hq => of_decide_eq_true (List.all_eq_true.mp hk.2 k (List.mem_range.mpr hq))) hL hW hS (fun q => ?_) (fun q => ?_)
      · rw [if_pos q] at hst; cases hst; exact n
      · rw [if_neg q] at hst; cases hst; exact n
  | getfield f =>
    match o, S, hst, hk with
    | [cK, k], .ref a :: S, hst, hk =>
      have hk := Bool.and_eq_true_iff.mp hk
      have hk1 := Bool.and_eq_true_iff.mp hk.1
      simp only [stp] at hst
      obtain ⟨q1, q2⟩ := guardo_some hst
      have hz' : z = (i + 1, L, fvA h cK a k :: S, h) := by
        unfold fvA
        split at q2 <;> (rename_i e; cases q2; first | rw [if_pos e] | rw [if_neg e])
      subst hz'
      have hb : ∀ {c1 c2 : Cond}, (wat w c1 || wat w c2) = true → (goodWord c1 || isNestW c1) = true → (goodWord c2 || isNestW c2) = true → c1 ∈ AW ∨ c2 ∈ AW := fun hh h1 h2 => by
        rcases Bool.or_eq_true_iff.mp hh with t | t
        · exact Or.inl (wat_AW t h1)
        · exact Or.inr (wat_AW t h2)
      rcases Bool.or_eq_true_iff.mp hk.2 with t | t
      · have t := Bool.and_eq_true_iff.mp t
        exact op_getf C hd (of_decide_eq_true hk1.2) hL hW hS (of_decide_eq_true q1) (of_decide_eq_true t.1) (of_decide_eq_true hk1.1) (hb t.2 rfl rfl) n
      · have t := Bool.and_eq_true_iff.mp t
        have hc : cK = 40 ∨ cK = 42 := by
          rcases Bool.or_eq_true_iff.mp t.1 with u | u
          · exact Or.inl (of_decide_eq_true u)
          · exact Or.inr (of_decide_eq_true u)
        exact op_getsf C hd (of_decide_eq_true hk1.2) hL hW hS (of_decide_eq_true q1) hc (of_decide_eq_true hk1.1) (hb t.2 rfl rfl) n
  | putfield f =>
    match o, S, hst, hk with
    | [cK, k], .ref v :: .ref a :: S, hst, hk =>
      obtain ⟨hc, hkn, hp, hl⟩ := put_hl hini hk
      obtain ⟨f0, f1, f2, f3⟩ := fd_ty cK hc k hkn
      simp only [stp] at hst
      obtain ⟨q1, q2⟩ := guardo_some hst
      have q1 := Bool.and_eq_true_iff.mp q1
      have q3 : fdk cK k = 2 := of_decide_eq_true q1.2
      cases q2
      have hfit := fit_ref (f2 q3) (rq g v)
      refine op_putf (v := .ref v) (h' := sR h a k v) C hd hp hL hW hS (of_decide_eq_true q1.1) hc hkn hfit.1 hfit.2 hl rfl rfl rfl rfl (fun _ _ => rfl) (fun _ _ => rfl) (fun y hy => upq_ne _ hy _ _) (fun j => ?_) n
      show fvl g (sR h a k v) cK a j = if j = k then va_rf (rq g v) else fvl g h cK a j
      have e1 : hR (sR h a k v) a j = if j = k then v else hR h a j := by show upq h.2.2.1 a k v a j = _; unfold upq; rw [if_pos rfl]; rfl
      have e2 : hI (sR h a k v) a j = hI h a j := rfl
      unfold fvl
      rw [e1, e2]
      by_cases hj : j = k
      · subst hj; rw [if_pos q3, if_pos rfl, if_pos rfl]
      · rw [if_neg hj, if_neg hj]
    | [cK, k], .int v :: .ref a :: S, hst, hk =>
      obtain ⟨hc, hkn, hp, hl⟩ := put_hl hini hk
      obtain ⟨f0, f1, f2, f3⟩ := fd_ty cK hc k hkn
      simp only [stp] at hst
      obtain ⟨q1, q2⟩ := guardo_some hst
      have q1 := Bool.and_eq_true_iff.mp q1
      cases q2
      have hfit : narrow (tyk cK k) (.int v) = .int v ∧ fits (tyk cK k) (.int v) = true ∧ ¬ fdk cK k = 2 := by
        rcases Bool.or_eq_true_iff.mp q1.2 with t | t
        · have t : fdk cK k = 0 := of_decide_eq_true t
          rw [f0 t]; exact ⟨rfl, rfl, by omega⟩
        · have t := Bool.and_eq_true_iff.mp t
          have t1 : fdk cK k = 1 := of_decide_eq_true t.1
          rw [f1 t1]; exact ⟨(fit_bool t.2).1, (fit_bool t.2).2, by omega⟩
      refine op_putf (v := .int v) (h' := sI h a k v) C hd hp hL hW hS (of_decide_eq_true q1.1) hc hkn hfit.1 hfit.2.1 hl rfl rfl rfl rfl (fun y hy => upq_ne _ hy _ _) (fun _ _ => rfl) (fun _ _ => rfl) (fun j => ?_) n
      show fvl g (sI h a k v) cK a j = if j = k then .int v else fvl g h cK a j
      have e1 : hI (sI h a k v) a j = if j = k then v else hI h a j := by show upq h.1 a k v a j = _; unfold upq; rw [if_pos rfl]; rfl
      have e2 : hR (sI h a k v) a j = hR h a j := rfl
      unfold fvl
      rw [e1, e2]
      by_cases hj : j = k
      · subst hj; rw [if_neg hfit.2.2, if_pos rfl, if_pos rfl]
      · rw [if_neg hj, if_neg hj]
  | getstatic f =>
    match o, hst, hk with
    | [a, b], hst, hk =>
      have hk := Bool.and_eq_true_iff.mp hk
      obtain ⟨t, ht, hk2⟩ := List.any_eq_true.mp hk.2
      have hk2 := Bool.and_eq_true_iff.mp hk2
      have ht2 := of_decide_eq_true hk2.1
      have hl : Cond.fieldLink (cnm own) f t.1 t.2.1 t.2.2.1 ∈ AW ∨ Cond.fieldLinkNest (cnm own) f t.1 t.2.1 t.2.2.1 "PenThatJumps" ∈ AW := by
        rcases Bool.or_eq_true_iff.mp hk2.2 with u | u
        · exact Or.inl (wat_AW u rfl)
        · exact Or.inr (wat_AW u rfl)
      match a, hst, ht2 with
      | 0, hst, ht2 =>
        cases hst
        exact op_gets C hd (of_decide_eq_true hk.1) hL hW hS ht (by rw [ht2]; rfl) hl n
      | 1, hst, ht2 =>
        cases hst
        exact op_gets C hd (of_decide_eq_true hk.1) hL hW hS ht (by rw [ht2]; rfl) hl n
  | iaload =>
    obtain ⟨x, a, S', rfl, hm, hx, rfl⟩ := aldI_inv hst
    rcases List.mem_cons.mp hm with u | u
    · exact op_iald C hd (of_decide_eq_true hk) hL hW hS u hx n
    · exact op_sild C hd (of_decide_eq_true hk) hL hW hS (List.mem_singleton.mp u) hx n
  | caload =>
    obtain ⟨x, a, S', rfl, hm, hx, rfl⟩ := aldI_inv hst
    exact op_cald C hd (of_decide_eq_true hk) hL hW hS (List.mem_singleton.mp hm) hx n
  | baload =>
    obtain ⟨x, a, S', rfl, hm, hx, rfl⟩ := aldI_inv hst
    rcases List.mem_cons.mp hm with u | u
    · exact op_zald C hd (of_decide_eq_true hk) hL hW hS u hx n
    · exact op_sbld C hd (of_decide_eq_true hk) hL hW hS (List.mem_singleton.mp u) hx n
  | laload =>
    simp only [stp] at hst
    split at hst
    · obtain ⟨q1, q2⟩ := guardo_some hst
      have q1 := Bool.and_eq_true_iff.mp q1
      cases q2
      exact op_lald C hd (of_decide_eq_true hk) hL hW hS (of_decide_eq_true q1.1) q1.2 n
    · cases hst
  | aaload =>
    simp only [stp] at hst
    split at hst
    · rename_i x a S'
      obtain ⟨q1, q2⟩ := guardo_some hst
      have q1 := Bool.and_eq_true_iff.mp q1
      have q3 := of_decide_eq_true q1.1
      cases q2
      by_cases u : hK h a < 40
      · exact op_aald C hd (of_decide_eq_true hk) hL hW hS q3.1 u q1.2 n
      · exact op_sald C hd (of_decide_eq_true hk) hL hW hS (by omega) q1.2 n
    · cases hst
  | iastore =>
    simp only [stp] at hst
    split at hst
    · obtain ⟨q1, q2⟩ := guardo_some hst
      have q1 := Bool.and_eq_true_iff.mp q1
      cases q2
      exact op_iast C hd (of_decide_eq_true hk) hL hW hS (of_decide_eq_true q1.1) q1.2 n
    · cases hst
  | castore =>
    simp only [stp] at hst
    split at hst
    · obtain ⟨q1, q2⟩ := guardo_some hst
      have q1 := Bool.and_eq_true_iff.mp q1
      cases q2
      exact op_cast C hd (of_decide_eq_true hk) hL hW hS (of_decide_eq_true q1.1) q1.2 n
    · cases hst
  | lastore =>
    simp only [stp] at hst
    split at hst
    · obtain ⟨q1, q2⟩ := guardo_some hst
      have q1 := Bool.and_eq_true_iff.mp q1
      cases q2
      exact op_last C hd (of_decide_eq_true hk) hL hW hS (of_decide_eq_true q1.1) q1.2 n
    · cases hst
  | bastore =>
    simp only [stp] at hst
    split at hst
    · obtain ⟨q1, q2⟩ := guardo_some hst
      have q1 := Bool.and_eq_true_iff.mp q1
      have q3 := Bool.and_eq_true_iff.mp q1.1
      cases q2
      exact op_zast C hd (of_decide_eq_true hk) hL hW hS (of_decide_eq_true q3.1) q3.2 q1.2 n
    · cases hst
  | aastore =>
    simp only [stp] at hst
    split at hst
    · obtain ⟨q1, q2⟩ := guardo_some hst
      have q1 := Bool.and_eq_true_iff.mp q1
      have q3 := of_decide_eq_true q1.1
      cases q2
      exact op_aast C hd (of_decide_eq_true hk) hL hW hS q3.1 q3.2.1 q3.2.2.1 q1.2 n
    · cases hst
  | arraylength =>
    simp only [stp] at hst
    split at hst
    · obtain ⟨q1, q2⟩ := guardo_some hst
      have q3 := of_decide_eq_true q1
      cases q2
      exact op_alen C hd (of_decide_eq_true hk) hL hW hS q3.1 q3.2.1 q3.2.2.1 q3.2.2.2.1 q3.2.2.2.2 n
    · cases hst
  | newarray at0 =>
    match o, S, hst with
    | [k], .int x :: S, hst =>
      simp only [stp] at hst
      obtain ⟨q1, q2⟩ := guardo_some hst
      have q1 := Bool.and_eq_true_iff.mp q1
      have hx := of_decide_eq_true q1.1
      have hx2 := of_decide_eq_true q1.2
      cases q2
      have e5 : hz (mkC h k x.toNatClampNeg x.toNatClampNeg) - hz h = 1 := by show hz h + 1 - hz h = 1; omega
      have e6 : hu (mkC h k x.toNatClampNeg x.toNatClampNeg) - hu h = x.toNatClampNeg := by show hu h + x.toNatClampNeg - hu h = _; omega
      have hr' : cells + 1 ≤ R.cells ∧ slots + x.toNatClampNeg ≤ R.slots := by
        have := hr; dsimp only at this; rw [e5, e6] at this; exact this
      cases at0 with
      | int =>
        have hk := Bool.and_eq_true_iff.mp hk
        have e := of_decide_eq_true hk.1
        subst e
        exact op_newa_int C hd (of_decide_eq_true hk.2) hL hW hS hx hx2 (AWof arr_ok.1 rfl) hr'.1 hr'.2 n
      | char =>
        have hk := Bool.and_eq_true_iff.mp hk
        have e := of_decide_eq_true hk.1
        subst e
        exact op_newa_char C hd (of_decide_eq_true hk.2) hL hW hS hx hx2 (AWof arr_ok.2.1 rfl) hr'.1 hr'.2 n
      | boolean =>
        have hk := Bool.and_eq_true_iff.mp hk
        have e := of_decide_eq_true hk.1
        subst e
        exact op_newa_bool C hd (of_decide_eq_true hk.2) hL hW hS hx hx2 (AWof arr_ok.2.2.1 rfl) hr'.1 hr'.2 n
      | long =>
        have hk := Bool.and_eq_true_iff.mp hk
        have e := of_decide_eq_true hk.1
        subst e
        exact op_newa_long C hd (of_decide_eq_true hk.2) hL hW hS hx hx2 (AWof arr_ok.2.2.2 rfl) hr'.1 hr'.2 n
      | _ => exact absurd hk (fun t => by cases t)
  | anewarray f =>
    match o, S, hst, hk with
    | [k], .int x :: S, hst, hk =>
      have hk := Bool.and_eq_true_iff.mp hk
      have hk1 := Bool.and_eq_true_iff.mp hk.1
      have hm := of_decide_eq_true hk1.1
      simp only [stp] at hst
      obtain ⟨q1, q2⟩ := guardo_some hst
      have q1 := Bool.and_eq_true_iff.mp q1
      have hx := of_decide_eq_true q1.1
      have hx2 := of_decide_eq_true q1.2
      cases q2
      have e5 : hz (mkC h k x.toNatClampNeg x.toNatClampNeg) - hz h = 1 := by show hz h + 1 - hz h = 1; omega
      have e6 : hu (mkC h k x.toNatClampNeg x.toNatClampNeg) - hu h = x.toNatClampNeg := by show hu h + x.toNatClampNeg - hu h = _; omega
      have hr' : cells + 1 ≤ R.cells ∧ slots + x.toNatClampNeg ≤ R.slots := by
        have := hr; dsimp only at this; rw [e5, e6] at this; exact this
      have hcl := wat_AW hk1.2 rfl
      simp only [List.mem_cons, List.mem_nil_iff, or_false] at hm
      rcases hm with e | e | e | e | e
      · subst e; exact op_newr (cn := 3) (t := 4) C hd (of_decide_eq_true hk.2) hL hW hS hx hx2 rfl rfl hcl (AWof (over_ok 3 (by decide)) rfl) hr'.1 hr'.2 n
      · subst e; exact op_newr (cn := 4) (t := 5) C hd (of_decide_eq_true hk.2) hL hW hS hx hx2 rfl rfl hcl (AWof (over_ok 4 (by decide)) rfl) hr'.1 hr'.2 n
      · subst e; exact op_newr (cn := 6) (t := 6) C hd (of_decide_eq_true hk.2) hL hW hS hx hx2 rfl rfl hcl (AWof (over_ok 6 (by decide)) rfl) hr'.1 hr'.2 n
      · subst e; exact op_newr (cn := 7) (t := 7) C hd (of_decide_eq_true hk.2) hL hW hS hx hx2 rfl rfl hcl (AWof (over_ok 7 (by decide)) rfl) hr'.1 hr'.2 n
      · subst e; exact op_newr (cn := 8) (t := 8) C hd (of_decide_eq_true hk.2) hL hW hS hx hx2 rfl rfl hcl (AWof (over_ok 8 (by decide)) rfl) hr'.1 hr'.2 n
  | new f =>
    match o, hst, hk with
    | [cK], hst, hk =>
      have hk := Bool.and_eq_true_iff.mp hk
      have hk1 := Bool.and_eq_true_iff.mp hk.1
      have hc := of_decide_eq_true hk1.1
      cases hst
      have e5 : hz (mkC h cK 0 (fdn cK)) - hz h = 1 := by show hz h + 1 - hz h = 1; omega
      have e6 : hu (mkC h cK 0 (fdn cK)) - hu h = fdn cK := by show hu h + fdn cK - hu h = _; omega
      have hr' : cells + 1 ≤ R.cells ∧ slots + fdn cK ≤ R.slots := by
        have := hr; dsimp only at this; rw [e5, e6] at this; exact this
      exact op_new C hd (of_decide_eq_true hk.2) hL hW hS hc (wat_AW hk1.2 rfl) (AWof (made_ok cK hc).1 rfl) (AWof (made_ok cK hc).2 rfl) hr'.1 hr'.2 n
  | _ => exact absurd hst (fun t => by cases t)
end SIM
end
section
/-! CALLS: what a method of the small machine does, its real one does -/
theorem AW_at {args a' : Array Value} {s U : State} (hW : s.WarmedH U.vm) {w : Cond} (hw : w ∈ AW) (h : w.before args s = true) : w.before a' U = true := by
  obtain ⟨-, hg⟩ := List.mem_filter.mp hw
  rcases Bool.or_eq_true_iff.mp hg with q | q
  · exact word_at hW (good_of_word q) h
  · cases w with
    | fieldLinkNest a i b n d t => exact va_Nw.use rfl (va_Nw.warmF hW (va_Nw.of (A := args) rfl h))
    | methodLinkNest a i x t => exact va_Nw.use rfl (va_Nw.warmM hW (va_Nw.of (A := args) rfl h))
    | arrayOver ty =>
      cases ty with
      | object C => exact va_AO.use (va_AO.moved hW.alike (va_AO.of (A := args) h))
      | _ => cases q
    | _ => cases q
theorem ST.moved {g : GG} {hs : AH} {u U : State} (hvm : u.vm.Alike U.vm) (hq : ∀ a : Nat, a < u.heap.size → ¬ AA g a → U.heap[a]? = u.heap[a]?) (h : ST g hs u) : ST g hs U := by
  obtain ⟨h1, h2, h3, h4, h5, h6, h7⟩ := h
  refine ⟨fun q hq0 => ((h1 q hq0).moved hvm).kept hq, fun a ha hk => ?_, fun a ha hk => ?_, fun a ha hk => ?_, fun a ha hk => ?_, fun a ha hk => ?_, h7⟩
  · obtain ⟨t, ht, hf⟩ := h2 a ha hk
    exact ⟨t, ht, fun k hk2 => ((hf k hk2).moved hvm).kept hq⟩
  · obtain ⟨t, ht, hn, hf⟩ := h3 a ha hk
    exact ⟨t, ht, hn, (hf.moved hvm).kept hq⟩
  · obtain ⟨t, ht, hn, hf⟩ := h4 a ha hk
    exact ⟨t, ht, hn, (hf.moved hvm).kept hq⟩
  · obtain ⟨t, ht, hn, hf⟩ := h5 a ha hk
    exact ⟨t, ht, hn, (hf.moved hvm).kept hq⟩
  · obtain ⟨t, ht, hf⟩ := h6 a ha hk
    exact ⟨t, ht, (hf.moved hvm).kept hq⟩
def EV (g : GG) (hs : AH) (U : State) : Prop := (∀ w ∈ AW, w.before #[] U = true) ∧ va_K g.1 clT (tysT g) U ∧ ST g hs U ∧ gb g ≤ U.heap.size
def PcA (g : GG) (hs : AH) (a : List Value) (h : AH) : Array Value → State → Prop := fun v U => v = (a.map (ph g)).toArray ∧ RW g hs h U.heap ∧ EV g hs U
def QcA (g : GG) (hs : AH) (z : Option Value × AH) : Array Value → State → Outcome → State → Prop := fun _ st o t => o = .returned (z.1.map (ph g)) ∧ RW g hs z.2 t.heap ∧ va_F (AA g) st t
theorem PcA.blind {g : GG} {hs : AH} {a : List Value} {h : AH} : FrameBlind (PcA g hs a h) := by
  intro v U f k q
  obtain ⟨q1, q2, q3, q4, q5, q6⟩ := q
  refine ⟨q1, q2, fun w hw => AW_at (s := U) (U := U.calling f k v) (args := #[]) (State.WarmedH.refl U) hw (q3 w hw), va_K.moved (u := U) (U := U.calling f k v) (Vm.Alike.refl U.vm) q4, ST.moved (u := U) (U := U.calling f k v) (Vm.Alike.refl U.vm) (fun _ _ _ => rfl) q5, q6⟩
/-- a method: its name, its bytes, its locals, what it returns, whose it is, the kind of its receiver (99: none), its instructions -/
abbrev MDt : Type := MethodName × ByteArray × Nat × Option FieldType × Nat × Nat × List IR
def flat (a : List Value) : List Value := a.flatMap fun v => if v.category = 2 then [v, Value.null] else [v]
def rcv (t : MDt) (a : List Value) (h : AH) : Bool := decide ((flat a).length ≤ t.2.2.1) && (decide (t.2.2.2.2.2.1 = 99) || match a with
  | .ref r :: _ => decide (hK h r = t.2.2.2.2.2.1)
  | _ => false)
def rtk (r : Option FieldType) (v : Option Value) : Bool := match r, v with
  | some ty, some (.int x) => decide (narrow ty (.int x) = .int x)
  | some .long, some (.long _) => true
  | some (.object _), some (.ref _) => true
  | some (.array _), some (.ref _) => true
  | none, none => true
  | _, _ => false
def callD (ML : List MDt) (pr : Nat → Nat → AC) : Nat → Nat → AC
  | 0, _ => fun _ _ _ => none
  | d + 1, n => fun y a h => match ML[y]? with
    | some t => guardo (rcv t a h) ((run (callD ML pr d n) t.2.2.2.2.2.2 n 0 (lcs t.2.2.1 a) [] h).bind fun z => guardo (rtk t.2.2.2.1 z.1) (some z))
    | none => pr d n y a h
/-- the calls that are no methods of the list: 300 arraycopy of a whole row into another, 301 Object's beginning, 306 to 308 Math -/
def cpy (h : AH) (a b n : Nat) : AH := ((fun x y => if x = b then (if y < n then h.1 a y else h.1 x y) else h.1 x y), h.2)
def prm : Nat → Nat → AC := fun _ _ y a h => match y, a with
  | 300, [.ref s, .int sp, .ref t, .int tp, .int n] => guardo (decide (sp = 0 ∧ tp = 0 ∧ 0 ≤ n ∧ hK h s = 20 ∧ hK h t = 20 ∧ s ≠ t ∧ n.toNatClampNeg ≤ hN h s ∧ n.toNatClampNeg ≤ hN h t)) (some (none, cpy h s t n.toNatClampNeg))
  | 301, [.ref r] => guardo (decide (100 ≤ r)) (some (none, h))
  | 306, [.int x, .int y] => some (some (.int (if x < y then y else x)), h)
  | 307, [.int x, .int y] => some (some (.int (if y < x then y else x)), h)
  | 308, [.int x] => some (some (.int (if 0 ≤ x then x else 0 - x)), h)
  | _, _ => none
def rmD (d mc ms : Nat) : Room := { frames := d, cells := mc, slots := ms, locals := 64 * d }
/-- the contract of the methods at depth d -/
def CT (l : Launch) (ML : List MDt) (pr : Nat → Nat → AC) (g : GG) (hs : AH) (d : Nat) : Prop :=
  ∀ (y : Nat) (t : MDt), ML[y]? = some t → ∀ (n : Nat) (a : List Value) (h : AH) (z : Option Value × AH), callD ML pr d n y a h = some z →
    hz h ≤ hz z.2 ∧ hu h ≤ hu z.2 ∧ Met l t.1 [.code t.1 t.2.1 t.2.2.1 t.2.2.2.1] (rmD d (hz z.2 - hz h) (hu z.2 - hu h)) (PcA g hs a h) (QcA g hs z) (hz z.2 - hz h) (hu z.2 - hu h) (AA g)
/-- the names of the static calls that are no methods of the list -/
def prT : List (Nat × Nat × MethodName) := [(300, 5, arraycopyName), (306, 2, Lib.Math.max.name), (307, 2, Lib.Math.min.name), (308, 1, Lib.Math.abs.name), (302, 5, ⟨"PenThatJumpsLaw", "jump", "(LPenThatJumps;III[J)I"⟩), (303, 4, ⟨"PenThatJumpsLaw", "worth", "(LPenThatJumps;II[J)I"⟩), (304, 3, ⟨"PenThatJumpsLaw", "lean", "(LPenThatJumps;I[J)I"⟩)]
/-- a call stands as it must -/
def cck (ML : List MDt) (own : Nat) (P : List IR) (i : Nat) (q : IR) : Bool := inx P i q.1 3 && match q.2.1, q.2.2.1 with
  | .invokevirtual f, [y, k] => match ML[y]? with
    | some t => decide (t.2.2.2.2.2.1 ≠ 99) && decide (t.1.name ≠ "<init>") && decide ((parseMethodDescriptor t.1.desc).map (fun d => d.parameters.length + 1) = some k) && (wat q.2.2.2 (.methodLink (cnm own) f t.1) || wat q.2.2.2 (.methodLinkNest (cnm own) f t.1 "PenThatJumps"))
    | none => false
  | .invokestatic f, [y, k] => match ML[y]? with
    | some t => decide (t.2.2.2.2.2.1 = 99) && decide ((parseMethodDescriptor t.1.desc).map (fun d => d.parameters.length) = some k) && (wat q.2.2.2 (.methodLink (cnm own) f t.1) || wat q.2.2.2 (.methodLinkNest (cnm own) f t.1 "PenThatJumps"))
    | none => prT.any fun t => decide (t.1 = y) && decide (t.2.1 = k) && wat q.2.2.2 (.methodLink (cnm own) f t.2.2)
  | .invokespecial f, [y, k] => match ML[y]? with
    | some t => decide (t.2.2.2.2.2.1 ≠ 99) && decide (t.1.name = "<init>") && decide (t.2.2.2.1 = none) && decide ((parseMethodDescriptor t.1.desc).map (fun d => d.parameters.length + 1) = some k) && (wat q.2.2.2 (.methodLink (cnm own) f t.1) || wat q.2.2.2 (.methodLinkNest (cnm own) f t.1 "PenThatJumps"))
    | none => decide (y = 301) && decide (k = 1) && wat q.2.2.2 (.methodLink (cnm own) f objectInit)
  | _, _ => true
/-- a method stands as it must -/
def MOK (ML : List MDt) (t : MDt) : Prop :=
  Cond.code t.1 t.2.1 t.2.2.1 t.2.2.2.1 ∈ AW ∧ Cond.initialized t.1.cls ∈ AW ∧ plainName t.1.cls = true ∧ (t.1.cls ≠ "java/lang/invoke/MethodHandle" ∧ t.1.cls ≠ "java/lang/invoke/VarHandle") ∧ t.1.cls = cnm t.2.2.2.2.1 ∧
  (t.2.2.2.2.2.1 = 99 → Cond.static t.1 ∈ AW) ∧ (t.2.2.2.2.2.1 ≠ 99 → Cond.instanceMethod t.1 ∈ AW ∧ (t.1.name ≠ "<init>" → Cond.selects t.1.cls t.1 t.1 ∈ AW) ∧ ((t.2.2.2.2.2.1 < 13 ∧ (clk t.2.2.2.2.2.1).1 = t.1.cls) ∨ (t.2.2.2.2.2.1 = 42 ∧ t.1.cls = "java/lang/String"))) ∧
  t.2.2.1 ≤ 45 ∧ pcOf t.2.2.2.2.2.2 0 = 0 ∧
  (∀ (i : Nat) (q : IR), t.2.2.2.2.2.2[i]? = some q → decode t.2.1 q.1 = .ok (q.2.1, ilen q.2.1 q.1) ∧ (isRet q.2.1 = true ∨ (isCall q.2.1 = true ∧ cck ML t.2.2.2.2.1 t.2.2.2.2.2.2 i q = true) ∨ (isRet q.2.1 = false ∧ isCall q.2.1 = false ∧ ick t.2.2.2.2.1 (decide (t.1.name = "<init>")) t.2.2.2.2.2.2 i q = true)))
theorem stp_grow {x : Instr} {o : List Nat} {i : Nat} {L S : List Value} {h : AH} {z : AS} (q : stp x o i L S h = some z) : hz h ≤ hz z.2.2.2 ∧ hu h ≤ hu z.2.2.2 := by
  cases x <;> simp only [stp, ldI, ldJ, ldA, stI, stJ, stA, biI, biJ, biS, aldI, guardo] at q <;> (repeat' split at q) <;>
    first | (cases q; done) | (cases q; exact ⟨Nat.le_refl _, Nat.le_refl _⟩) | (cases q; exact ⟨Nat.le_succ _, Nat.le_add_right _ _⟩)
theorem prm_grow {d n y : Nat} {a : List Value} {h : AH} {z : Option Value × AH} (q : prm d n y a h = some z) : hz h ≤ hz z.2 ∧ hu h ≤ hu z.2 := by
  unfold prm at q
  split at q
  · obtain ⟨-, q2⟩ := guardo_some q; cases q2; exact ⟨Nat.le_refl _, Nat.le_refl _⟩
  · obtain ⟨-, q2⟩ := guardo_some q; cases q2; exact ⟨Nat.le_refl _, Nat.le_refl _⟩
  · cases q; exact ⟨Nat.le_refl _, Nat.le_refl _⟩
  · cases q; exact ⟨Nat.le_refl _, Nat.le_refl _⟩
  · cases q; exact ⟨Nat.le_refl _, Nat.le_refl _⟩
  · cases q
theorem run_grow {call : AC} (hc : ∀ y a h z, call y a h = some z → hz h ≤ hz z.2 ∧ hu h ≤ hu z.2) {P : List IR} : ∀ (n i : Nat) (L S : List Value) (h : AH) (z : Option Value × AH), run call P n i L S h = some z → hz h ≤ hz z.2 ∧ hu h ≤ hu z.2
  | 0, i, L, S, h, z, q => by cases q
  | n + 1, i, L, S, h, z, q => by
    unfold run at q
    split at q
    · cases q
    · rename_i r hr
      split at q
      · cases hv : retv r.2.1 S with
        | none => rw [hv] at q; cases q
        | some v => rw [hv] at q; cases q; exact ⟨Nat.le_refl _, Nat.le_refl _⟩
      · split at q
        · split at q
          · obtain ⟨-, q2⟩ := guardo_some q
            obtain ⟨w, q3, q4⟩ := Option.bind_eq_some_iff.mp q2
            have h1 := hc _ _ _ _ q3
            have h2 := run_grow hc n _ _ _ _ _ q4
            exact ⟨Nat.le_trans h1.1 h2.1, Nat.le_trans h1.2 h2.2⟩
          · cases q
        · obtain ⟨w, q3, q4⟩ := Option.bind_eq_some_iff.mp q
          have h1 := stp_grow q3
          have h2 := run_grow hc n _ _ _ _ _ q4
          exact ⟨Nat.le_trans h1.1 h2.1, Nat.le_trans h1.2 h2.2⟩
theorem callD_grow {ML : List MDt} {pr : Nat → Nat → AC} (hp : ∀ d n y a h z, pr d n y a h = some z → hz h ≤ hz z.2 ∧ hu h ≤ hu z.2) : ∀ (d n y : Nat) (a : List Value) (h : AH) (z : Option Value × AH), callD ML pr d n y a h = some z → hz h ≤ hz z.2 ∧ hu h ≤ hu z.2
  | 0, n, y, a, h, z, q => by cases q
  | d + 1, n, y, a, h, z, q => by
    unfold callD at q
    split at q
    · obtain ⟨-, q2⟩ := guardo_some q
      obtain ⟨w, q3, q4⟩ := Option.bind_eq_some_iff.mp q2
      obtain ⟨-, q5⟩ := guardo_some q4
      cases q5
      exact run_grow (callD_grow hp d n) n _ _ _ _ _ q3
    · exact hp _ _ _ _ _ _ q
end
section
section RUN
variable {p : Program} {l : Launch} {e : Env} {R : Room} {s : State} {m : MethodId} {args : Array Value} {below : List Frame} {meth : Method} {c : Code} {H : Heap} {locs : List Loc} {cells slots : Nat} {Q : State → Prop} {cc : ByteArray} {nL own pc : Nat} {ls : Array Slot} {g : GG} {hs h : AH} {P : List IR} {i : Nat} {L S : List Value}
theorem after_call {mc ms : Nat} {st0 rest : List Value} {z : Option Value × AH} {a : Array Value} (hr : va_Run p l e R s m args below meth c H locs cells slots mc ms (F0 m pc ls st0) rest (QcA g hs z a) (AA g)) (hS : va_S (AA g) s.heap H locs)
    (kk : ∀ (H1 : Heap) (locs1 : List Loc), RW g hs z.2 H1 → va_S (AA g) s.heap H1 locs1 → W p l e R s m args below meth c H1 locs1 (cells + mc) (slots + ms) Q (F0 m (pc + 3) ls ((z.1.map (ph g)).toList ++ rest))) : W p l e R s m args below meth c H locs cells slots Q (F0 m pc ls st0) := by
  intro T hT X
  obtain ⟨v, st₀, t, T', L, h0, X', hL, e1, e2, ⟨hv, hb, hz, hk⟩, st⟩ := hr T hT X
  cases hv
  rw [h0] at hz hk
  obtain ⟨t2, a1, b1⟩ := kk T'.heap (locs ++ L) (by rw [e1]; exact hb)
    ⟨Nat.le_trans hS.1 (by rw [e1]; exact hz), fun q h1 h2 => by rw [e1, hk q (Nat.lt_of_lt_of_le h1 hS.1) h2]; exact hS.2.1 q h1 h2, fun q hq => by
      rcases List.mem_append.mp hq with h | h
      · exact hS.2.2 q h
      · exact hL q h⟩ T' rfl X'
  exact ⟨t2, st t2 a1, b1⟩
theorem EV_of {U : State} (C : CX p s m args c cc nL own g hs) (hS : va_S (AA g) s.heap H locs) (hU : U.heap = H) (hW : s.WarmedH U.vm) : EV g hs U :=
  ⟨fun w hw => AW_at hW hw (C.2.2.2.2.1 w hw), va_K.moved hW.alike (K_of C), (S_of C).moved hW.alike (fun a h1 h2 => by rw [hU]; exact hS.2.1 a h1 h2), by rw [hU]; exact Nat.le_trans C.2.2.2.2.2.2.2 hS.1⟩
theorem pre_S (C : CX p s m args c cc nL own g hs) (hW : RW g hs h H) (hS : va_S (AA g) s.heap H locs) (a : List Value) : PreS s H (PcA g hs a h) (a.map (ph g)) :=
  ⟨PcA.blind, fun U hU hv => ⟨rfl, by rw [hU]; exact hW, EV_of C hS hU hv⟩⟩
theorem pre_V (C : CX p s m args c cc nL own g hs) (hW : RW g hs h H) (hS : va_S (AA g) s.heap H locs) {a : List Value} {r b k : Nat} {cn : String} (hb : ph g (.ref r) = .ref b) (hr : hK h r = k) (hk : (k < 13 ∧ (clk k).1 = cn) ∨ (k = 42 ∧ cn = "java/lang/String")) : PreV s H cn b (PcA g hs (.ref r :: a) h) (a.map (ph g)) := by
  refine ⟨PcA.blind, ?_, fun U hU hv => ⟨by rw [List.map_cons, hb], by rw [hU]; exact hW, EV_of C hS hU hv⟩⟩
  rcases hk with ⟨hk, rfl⟩ | ⟨hk, rfl⟩
  · obtain ⟨h0, h1⟩ := hW.own (a := r) (by omega)
    have hat := (hW.2.2.1 r h0 h1).2
    rw [cE_obj hr hk] at hat
    rw [ph_own h0] at hb
    cases hb
    exact va_recv (K_of C) (one_P hat) (clT_get hk) (q0 := 0) rfl
  · obtain ⟨ha, e1, -⟩ := st_of hW (a := r) (by omega) (by omega)
    obtain ⟨t, ht, hO⟩ := (S_of C).2.2.2.2.2.1 r ha (by omega)
    rw [ph_some ht] at hb
    cases hb
    exact va_Orecv hO hS
theorem call_B {d mc ms n : Nat} {t : MDt} {f k : Nat} {ML : List MDt} (C : CX p s m args c cc nL own g hs) (M : MOK ML t) (hR : d + 1 ≤ R.frames ∧ 64 * (d + 1) ≤ R.locals) (hl : Cond.methodLink (cnm own) f t.1 ∈ AW) (hn : (parseMethodDescriptor t.1.desc).map (fun d => d.parameters.length) = some n) :
    CallB R s args (cnm own) f t.1 t.2.1 t.2.2.1 t.2.2.2.1 [.code t.1 t.2.1 t.2.2.1 t.2.2.2.1] (rmD d mc ms) mc ms n := by
  obtain ⟨m1, m2, -, m4, -, -, -, m8, -⟩ := M
  refine ⟨rfl, rfl, hR.1, ?_, fun w hw a' U hU => ?_, List.mem_singleton.mpr rfl, C.2.2.2.2.1 _ m1, C.2.2.2.2.1 _ m2, m4, fun sig hs => ?_, C.2.2.2.2.1 _ hl⟩
  · show 8 + (t.2.2.1 + 11) + 64 * d ≤ R.locals
    omega
  · rw [List.mem_singleton.mp hw]; exact AW_at hU m1 (C.2.2.2.2.1 _ m1)
  · rw [hs] at hn; exact (Option.some.inj hn).symm
theorem call_N {d mc ms n : Nat} {t : MDt} {f k : Nat} {ML : List MDt} (C : CX p s m args c cc nL own g hs) (M : MOK ML t) (hR : d + 1 ≤ R.frames ∧ 64 * (d + 1) ≤ R.locals) (hl : Cond.methodLinkNest (cnm own) f t.1 "PenThatJumps" ∈ AW) (hn : (parseMethodDescriptor t.1.desc).map (fun d => d.parameters.length) = some n) :
    va_CN R s args (cnm own) f t.1 "PenThatJumps" t.2.1 t.2.2.1 t.2.2.2.1 [.code t.1 t.2.1 t.2.2.1 t.2.2.2.1] (rmD d mc ms) mc ms n := by
  obtain ⟨m1, m2, -, m4, -, -, -, m8, -⟩ := M
  refine ⟨⟨rfl, rfl, hR.1, ?_, fun w hw a' U hU => ?_, List.mem_singleton.mpr rfl⟩, C.2.2.2.2.1 _ m1, C.2.2.2.2.1 _ m2, m4, fun sig hs => ?_, C.2.2.2.2.1 _ hl⟩
  · show 8 + (t.2.2.1 + 11) + 64 * d ≤ R.locals
    omega
  · rw [List.mem_singleton.mp hw]; exact AW_at hU m1 (C.2.2.2.2.1 _ m1)
  · rw [hs] at hn; exact (Option.some.inj hn).symm
theorem callD_inv {ML : List MDt} {pr : Nat → Nat → AC} {d n y : Nat} {a : List Value} {h : AH} {z : Option Value × AH} {t : MDt} (q : callD ML pr d n y a h = some z) (ht : ML[y]? = some t) : ∃ d', d = d' + 1 ∧ rcv t a h = true ∧ rtk t.2.2.2.1 z.1 = true ∧ run (callD ML pr d' n) t.2.2.2.2.2.2 n 0 (lcs t.2.2.1 a) [] h = some z := by
  cases d with
  | zero => cases q
  | succ d =>
    unfold callD at q
    rw [ht] at q
    obtain ⟨q1, q2⟩ := guardo_some q
    obtain ⟨w, q3, q4⟩ := Option.bind_eq_some_iff.mp q2
    obtain ⟨q6, q5⟩ := guardo_some q4
    cases q5
    exact ⟨d, rfl, q1, q6, q3⟩
theorem cat_map (g : GG) (S : List Value) : (((S.map (ph g)).map fun v => v.category).sum) = (S.map fun v => v.category).sum := by
  rw [List.map_map]
  congr 1
  apply List.map_congr_left
  intro v _
  exact ph_cat2 g v
theorem ph_recv (hW : RW g hs h H) (C : CX p s m args c cc nL own g hs) {r k : Nat} {cn : String} (hr : hK h r = k) (hk : (k < 13 ∧ (clk k).1 = cn) ∨ (k = 42 ∧ cn = "java/lang/String")) : ∃ b, ph g (.ref r) = .ref b := by
  rcases hk with ⟨hk, -⟩ | ⟨hk, -⟩
  · exact ⟨_, ph_own (hW.own (a := r) (by omega)).1⟩
  · obtain ⟨ha, e1, -⟩ := st_of hW (a := r) (by omega) (by omega)
    obtain ⟨t, ht, -⟩ := (S_of C).2.2.2.2.2.1 r ha (by omega)
    exact ⟨t, ph_some ht⟩
theorem op_call {ML : List MDt} {pr : Nat → Nat → AC} {q : IR} {y k n d : Nat} {z : Option Value × AH} {t : MDt} (C : CX p s m args c cc nL own g hs) (hd : decode cc q.1 = .ok (q.2.1, ilen q.2.1 q.1)) (hic : isCall q.2.1 = true) (ho : q.2.2.1 = [y, k]) (hck : cck ML own P i q = true) (ht : ML[y]? = some t) (M : MOK ML t) (ct : CT l ML pr g hs d) (hR : d + 1 ≤ R.frames ∧ 64 * (d + 1) ≤ R.locals)
    (hL : LR g L nL ls) (hW : RW g hs h H) (hS : va_S (AA g) s.heap H locs) (hkl : k ≤ S.length) (hcat : ((S.drop k).map fun v => v.category).sum ≤ 8) (hz0 : callD ML pr d n y (S.take k).reverse h = some z) (hrm : cells + (hz z.2 - hz h) ≤ R.cells ∧ slots + (hu z.2 - hu h) ≤ R.slots)
    (kk : ∀ (H1 : Heap) (locs1 : List Loc), RW g hs z.2 H1 → va_S (AA g) s.heap H1 locs1 → W p l e R s m args below meth c H1 locs1 (cells + (hz z.2 - hz h)) (slots + (hu z.2 - hu h)) Q (F0 m (pcOf P (i + 1)) ls ((z.1.toList ++ S.drop k).map (ph g)))) : W p l e R s m args below meth c H locs cells slots Q (F0 m q.1 ls (S.map (ph g))) := by
  obtain ⟨pc, x, o, w⟩ := q
  dsimp only at hd hic ho ⊢
  subst ho
  obtain ⟨-, -, hM⟩ := ct y t ht n _ h z hz0
  obtain ⟨d', -, hrc, -, -⟩ := callD_inv hz0 ht
  have hck := Bool.and_eq_true_iff.mp hck
  have hp : pcOf P (i + 1) = pc + 3 := of_decide_eq_true hck.1
  have hck2 := hck.2
  have hfix : CallFix p m c cc nL s args AW (cnm own) := ⟨C.1, C.2.1, C.2.2.1, C.2.2.2.1, C.2.2.2.2.1⟩
  have hcat' : 2 * (F0 m pc ls (S.map (ph g))).monitorRoom + (((S.drop k).map (ph g)).map fun v => v.category).sum ≤ 8 := lv_room (by rw [cat_map]; exact hcat)
  have hsz : (F0 m pc ls (S.map (ph g))).locals.size = nL := hL.2.1
  have kk' : ∀ (H1 : Heap) (locs1 : List Loc), RW g hs z.2 H1 → va_S (AA g) s.heap H1 locs1 → W p l e R s m args below meth c H1 locs1 (cells + (hz z.2 - hz h)) (slots + (hu z.2 - hu h)) Q (F0 m (pc + 3) ls ((z.1.map (ph g)).toList ++ (S.drop k).map (ph g))) := by
    intro H1 l1 h1 h2
    have := kk H1 l1 h1 h2
    rw [hp, List.map_append] at this
    have e : z.1.toList.map (ph g) = (z.1.map (ph g)).toList := by cases z.1 <;> rfl
    rw [e] at this
    exact this
  have hsplit : S.map (ph g) = ((S.take k).reverse.map (ph g)).reverse ++ (S.drop k).map (ph g) := by
    rw [← List.map_reverse, List.reverse_reverse, ← List.map_append, List.take_append_drop]
  have hlen : (S.take k).reverse.length = k := by rw [List.length_reverse, List.length_take]; omega
  cases x with
  | invokestatic f =>
    simp only [ht] at hck2
    have u1 := Bool.and_eq_true_iff.mp hck2
    have u2 := Bool.and_eq_true_iff.mp u1.1
    have hrk : t.2.2.2.2.2.1 = 99 := of_decide_eq_true u2.1
    have hn := of_decide_eq_true u2.2
    have hst := C.2.2.2.2.1 _ (M.2.2.2.2.2.1 hrk)
    rcases Bool.or_eq_true_iff.mp u1.2 with u | u
    · exact after_call (va_runS hfix hM ⟨call_B (k := k) C M hR (wat_AW u rfl) hn, hst⟩ (pre_S C hW hS _) rfl (by rw [List.length_map]; exact hlen) hsz hsplit hcat' hd hrm) hS kk'
    · exact after_call (va_runSN hfix hM ⟨call_N (k := k) C M hR (wat_AW u rfl) hn, hst, trivial⟩ (pre_S C hW hS _) rfl (by rw [List.length_map]; exact hlen) hsz hsplit hcat' hd hrm) hS kk'
  | invokevirtual f =>
    simp only [ht] at hck2
    have u1 := Bool.and_eq_true_iff.mp hck2
    have u2 := Bool.and_eq_true_iff.mp u1.1
    have u3 := Bool.and_eq_true_iff.mp u2.1
    have hrk : t.2.2.2.2.2.1 ≠ 99 := of_decide_eq_true u3.1
    have hnm : t.1.name ≠ "<init>" := of_decide_eq_true u3.2
    have hn := of_decide_eq_true u2.2
    obtain ⟨hi1, hi2, hi3⟩ := M.2.2.2.2.2.2.1 hrk
    have hrec : ∃ (r : Nat) (a' : List Value), (S.take k).reverse = .ref r :: a' ∧ hK h r = t.2.2.2.2.2.1 := by
      unfold rcv at hrc
      have v1 := (Bool.and_eq_true_iff.mp hrc).2
      rcases Bool.or_eq_true_iff.mp v1 with v | v
      · exact absurd (of_decide_eq_true v) hrk
      · split at v
        · rename_i r a' e; exact ⟨r, a', e, of_decide_eq_true v⟩
        · cases v
    obtain ⟨r, a', ha, hkr⟩ := hrec
    obtain ⟨b, hb⟩ := ph_recv hW C hkr hi3
    rw [ha] at hM hsplit hlen
    have hst9 : S.map (ph g) = (a'.map (ph g)).reverse ++ .ref b :: (S.drop k).map (ph g) := by
      rw [hsplit, List.map_cons, hb, List.reverse_cons, List.append_assoc]; rfl
    have hn' : ∃ n', (parseMethodDescriptor t.1.desc).map (fun d => d.parameters.length) = some n' ∧ n' + 1 = k := by
      cases hpd : parseMethodDescriptor t.1.desc with
      | none => rw [hpd] at hn; cases hn
      | some sg => rw [hpd] at hn; exact ⟨_, rfl, Option.some.inj hn⟩
    obtain ⟨n', hn1, hn2⟩ := hn'
    have hal : (a'.map (ph g)).length = n' := by
      rw [List.length_map]; rw [List.length_cons] at hlen; omega
    have heq : (Value.ref b :: a'.map (ph g)) = (Value.ref r :: a').map (ph g) := by rw [List.map_cons, hb]
    have hi1' := C.2.2.2.2.1 _ hi1
    have hi2' := C.2.2.2.2.1 _ (hi2 hnm)
    rcases Bool.or_eq_true_iff.mp u1.2 with u | u
    · exact after_call (va_runV (C := t.1.cls) hfix hM ⟨call_B (k := k) C M hR (wat_AW u rfl) hn1, hi1', hi2'⟩ (pre_V C hW hS hb hkr hi3) rfl hal hsz hst9 hcat' hd hrm) hS kk'
    · exact after_call (va_runVN (C := t.1.cls) hfix hM ⟨call_N (k := k) C M hR (wat_AW u rfl) hn1, hi1', hi2'⟩ (pre_V C hW hS hb hkr hi3) rfl hal hsz hst9 hcat' hd hrm) hS kk'
  | invokespecial f =>
    simp only [ht] at hck2
    have u1 := Bool.and_eq_true_iff.mp hck2
    have u2 := Bool.and_eq_true_iff.mp u1.1
    have u3 := Bool.and_eq_true_iff.mp u2.1
    have u4 := Bool.and_eq_true_iff.mp u3.1
    have hrk : t.2.2.2.2.2.1 ≠ 99 := of_decide_eq_true u4.1
    have hnm : t.1.name = "<init>" := of_decide_eq_true u4.2
    have hret : t.2.2.2.1 = none := of_decide_eq_true u3.2
    have hn := of_decide_eq_true u2.2
    obtain ⟨hi1, hi2, hi3⟩ := M.2.2.2.2.2.2.1 hrk
    have hrec : ∃ (r : Nat) (a' : List Value), (S.take k).reverse = .ref r :: a' ∧ hK h r = t.2.2.2.2.2.1 := by
      unfold rcv at hrc
      have v1 := (Bool.and_eq_true_iff.mp hrc).2
      rcases Bool.or_eq_true_iff.mp v1 with v | v
      · exact absurd (of_decide_eq_true v) hrk
      · split at v
        · rename_i r a' e; exact ⟨r, a', e, of_decide_eq_true v⟩
        · cases v
    obtain ⟨r, a', ha, hkr⟩ := hrec
    obtain ⟨b, hb⟩ := ph_recv hW C hkr hi3
    rw [ha] at hM hsplit hlen
    have hst9 : S.map (ph g) = (a'.map (ph g)).reverse ++ .ref b :: (S.drop k).map (ph g) := by
      rw [hsplit, List.map_cons, hb, List.reverse_cons, List.append_assoc]; rfl
    have hn' : ∃ n', (parseMethodDescriptor t.1.desc).map (fun d => d.parameters.length) = some n' ∧ n' + 1 = k := by
      cases hpd : parseMethodDescriptor t.1.desc with
      | none => rw [hpd] at hn; cases hn
      | some sg => rw [hpd] at hn; exact ⟨_, rfl, Option.some.inj hn⟩
    obtain ⟨n', hn1, hn2⟩ := hn'
    have hal : (a'.map (ph g)).length = n' := by
      rw [List.length_map]; rw [List.length_cons] at hlen; omega
    have heq : (Value.ref b :: a'.map (ph g)) = (Value.ref r :: a').map (ph g) := by rw [List.map_cons, hb]
    have hi1' := C.2.2.2.2.1 _ hi1
    have hpre : PreS s H (PcA g hs (.ref r :: a') h) (.ref b :: a'.map (ph g)) := by rw [heq]; exact pre_S C hW hS _
    rcases Bool.or_eq_true_iff.mp u1.2 with u | u
    · have hB := call_B (k := k) (d := d) (mc := hz z.2 - hz h) (ms := hu z.2 - hu h) C M hR (wat_AW u rfl) hn1
      rw [hret] at hB hM
      exact after_call (va_runI hfix hM ⟨hB, hnm, hi1'⟩ hpre rfl hal hsz hst9 hcat' hd hrm) hS kk'
    · have hB := call_N (k := k) (d := d) (mc := hz z.2 - hz h) (ms := hu z.2 - hu h) C M hR (wat_AW u rfl) hn1
      rw [hret] at hB hM
      exact after_call (va_runIN hfix hM ⟨hB, hnm, hi1'⟩ hpre rfl hal hsz hst9 hcat' hd hrm) hS kk'
  | _ => cases hic
end RUN
end
section
set_option maxRecDepth 100000 in
theorem jdk_ok : Cond.instanceMethod objectInit ∈ lw_tbl ∧ Cond.code objectInit ⟨#[0xb1]⟩ 1 none ∈ lw_tbl ∧ Cond.native arraycopyName ∈ lw_tbl ∧ Cond.static arraycopyName ∈ lw_tbl ∧ Cond.initialized "java/lang/System" ∈ lw_tbl := by decide +kernel
section MET
variable {p : Program} {l : Launch} {e : Env} {R : Room} {s : State} {m : MethodId} {args : Array Value} {below : List Frame} {meth : Method} {c : Code} {H : Heap} {locs : List Loc} {cells slots : Nat} {Q : State → Prop} {cc : ByteArray} {nL own pc : Nat} {ls : Array Slot} {g : GG} {hs h : AH} {P : List IR} {i : Nat} {L S : List Value}
theorem op_objInit {f r : Nat} (C : CX p s m args c cc nL own g hs) (hd : decode cc pc = .ok (.invokespecial f, 3)) (hl : Cond.methodLink (cnm own) f objectInit ∈ AW) (hR : 1 ≤ R.frames ∧ 64 ≤ R.locals) (hL : LR g L nL ls) (hr : 100 ≤ r) (hcat : (S.map fun v => v.category).sum ≤ 8)
    (kk : W p l e R s m args below meth c H locs cells slots Q (F0 m (pc + 3) ls (S.map (ph g)))) : W p l e R s m args below meth c H locs cells slots Q (F0 m pc ls ((.ref r :: S).map (ph g))) := by
  rw [List.map_cons, ph_own hr]
  have hts := C.2.2.2.2.1
  refine W.objInit C.1 C.2.1 C.2.2.2.1 (hts _ hl) (hts _ (AWof jdk_ok.1 rfl)) (hts _ (AWof jdk_ok.2.1 rfl)) rfl (by rw [C.2.2.1]; exact hL.2.1) rfl hd hR.1 ?_ kk
  have h1 : 2 * (F0 m pc ls (.ref (gb g + (r - 100)) :: S.map (ph g))).monitorRoom + ((S.map (ph g)).map fun v => v.category).sum ≤ 8 := lv_room (by rw [cat_map]; exact hcat)
  have h2 := hR.2
  omega
theorem op_copy {f a0 a1 : Nat} {n : Int32} (C : CX p s m args c cc nL own g hs) (hd : decode cc pc = .ok (.invokestatic f, 3)) (hl : Cond.methodLink (cnm own) f arraycopyName ∈ AW) (hR : 1 ≤ R.frames ∧ 64 ≤ R.locals) (hL : LR g L nL ls) (hW : RW g hs h H) (hS : va_S (AA g) s.heap H locs) (hcat : (S.map fun v => v.category).sum ≤ 8)
    (hn : 0 ≤ n) (hk0 : hK h a0 = 20) (hk1 : hK h a1 = 20) (hne : a0 ≠ a1) (hn0 : n.toNatClampNeg ≤ hN h a0) (hn1 : n.toNatClampNeg ≤ hN h a1)
    (kk : ∀ (H1 : Heap) (locs1 : List Loc), RW g hs (cpy h a0 a1 n.toNatClampNeg) H1 → va_S (AA g) s.heap H1 locs1 → W p l e R s m args below meth c H1 locs1 cells slots Q (F0 m (pc + 3) ls (S.map (ph g)))) :
    W p l e R s m args below meth c H locs cells slots Q (F0 m pc ls ((.int n :: .int 0 :: .ref a1 :: .int 0 :: .ref a0 :: S).map (ph g))) := by
  obtain ⟨b0, b1⟩ := hW.own (a := a0) (by omega)
  obtain ⟨d0, d1⟩ := hW.own (a := a1) (by omega)
  have hat0 := (hW.2.2.1 a0 b0 b1).2
  have hat1 := (hW.2.2.1 a1 d0 d1).2
  rw [cE_int hk0 (by decide) (by decide)] at hat0
  rw [cE_int hk1 (by decide) (by decide)] at hat1
  have hc0 : H[gb g + (a0 - 100)]? = some (vp_cell (g.2.1 20) (hN h a0, .inl (hI h a0))) := hat0
  have hc1 : H[gb g + (a1 - 100)]? = some (vp_cell (g.2.1 20) (hN h a1, .inl (hI h a1))) := hat1
  simp only [List.map_cons]
  rw [ph_own b0, ph_own d0]
  have hts := C.2.2.2.2.1
  have nn : ∀ z : Int32, ¬ z < 0 → z.toInt = (z.toNatClampNeg : Int) := by
    intro z hz
    have hz0 : (0 : Int) ≤ z.toInt := by
      have := Int32.not_lt.mp hz
      simpa using Int32.le_iff_toInt_le.mp this
    show z.toInt = ((z.toInt.toNat : Nat) : Int)
    omega
  have hn' : ¬ n < 0 := Int32.not_lt.mpr hn
  have z0 : (0 : Int32).toNatClampNeg = 0 := by decide
  intro T hT X
  obtain ⟨-, k0, hk0', cm0, hkk0⟩ := ((K_of C).2 0 _ rfl).1 (hN h a0) (fun j => .int (hI h a0 j))
  obtain ⟨vm', X', step⟩ := X.arraycopy C.1 C.2.2.2.1 (hts _ hl) (hts _ (AWof jdk_ok.2.2.1 rfl)) (hts _ (AWof jdk_ok.2.2.2.1 rfl)) (hts _ (AWof jdk_ok.2.2.2.2 rfl)) (src := gb g + (a0 - 100)) (dst := gb g + (a1 - 100)) (cs := vp_cell (g.2.1 20) (hN h a0, .inl (hI h a0))) (cd := vp_cell (g.2.1 20) (hN h a1, .inl (hI h a1))) (srcPos := 0) (destPos := 0) (n := n) (by rw [hT]; exact hc0) (by rw [hT]; exact hc1)
    (fun _ h => by cases h) (fun _ h => by cases h) (fun h => by cases h) (fun h => by cases h) hk0' hk0' hkk0 hkk0 (by simp [refKind]) (by decide) (by decide) hn'
    (by rw [nn n hn']; show ¬ _ > ((arrV (g.2.1 20) (hN h a0) (fun j => .int (hI h a0 j))).slots.size : Int); rw [arrV_size]; show ¬ ((0 : Int) + _ > _); omega)
    (by rw [nn n hn']; show ¬ _ > ((arrV (g.2.1 20) (hN h a1) (fun j => .int (hI h a1 j))).slots.size : Int); rw [arrV_size]; show ¬ ((0 : Int) + _ > _); omega)
    (fun vm₁ _ i hi => by
      have e : (vp_cell (g.2.1 20) (hN h a0, .inl (hI h a0))).slots.getD ((0 : Int32).toNatClampNeg + i) .null = .int (hI h a0 ((0 : Int32).toNatClampNeg + i)) := by
        show (arrV (g.2.1 20) (hN h a0) (fun j => .int (hI h a0 j))).slots.getD _ _ = _
        rw [Array.getD_eq_getD_getElem?, arrV_read _ _ (by rw [z0]; omega)]
        rfl
      refine ⟨?_, ?_⟩
      · rw [e]
        rfl
      · rw [e]
        exact trivial)
    (g := F0 m pc ls (.int n :: .int 0 :: .ref (gb g + (a1 - 100)) :: .int 0 :: .ref (gb g + (a0 - 100)) :: S.map (ph g))) rfl (by rw [C.2.2.1]; exact hL.2.1) (rest := S.map (ph g)) rfl (by rw [C.2.1]; exact hd) hR.1 (by
      show 2 * 0 + _ + _ ≤ _
      rw [cat_map]
      have : nativeFrameWords "java/lang/System" "arraycopy" 5 + 11 ≤ 50 := by decide
      have h2 := hR.2
      omega)
  have e1 : copied (vp_cell (g.2.1 20) (hN h a0, .inl (hI h a0))) (vp_cell (g.2.1 20) (hN h a1, .inl (hI h a1))) 0 0 n = vp_cell (g.2.1 20) (hN h a1, .inl (va_cpy (hI h a0) (hI h a1) (0 : Int32).toNatClampNeg (0 : Int32).toNatClampNeg n.toNatClampNeg)) := va_copied (fun z => .int z) _ _ _ _ (by rw [z0]; omega)
  rw [e1, z0] at X' step
  have hlt : gb g + (a1 - 100) < H.size := (Array.getElem?_eq_some_iff.mp hc1).1
  generalize hcl : vp_cell (g.2.1 20) (hN h a1, .inl (va_cpy (hI h a0) (hI h a1) 0 0 n.toNatClampNeg)) = cl at X' step
  have hheap : ((T.setVm vm').setCell (gb g + (a1 - 100)) cl).heap = H.setIfInBounds (gb g + (a1 - 100)) cl := by rw [← hT]; rfl
  have oq : ∀ q : Nat, q ≠ gb g + (a1 - 100) → (H.setIfInBounds (gb g + (a1 - 100)) cl)[q]? = H[q]? := fun q hq => by simp [Array.getElem?_setIfInBounds, Ne.symm hq]
  have hA : AA g (gb g + (a1 - 100)) := Nat.le_add_right _ _
  have hW' : RW g hs (cpy h a0 a1 n.toNatClampNeg) (H.setIfInBounds (gb g + (a1 - 100)) cl) := by
    refine hW.upd d0 d1 rfl rfl rfl (fun y hy => ?_) (fun y _ => rfl) (fun y _ => rfl) (by simp) oq ?_
    · funext z; show (if y = a1 then _ else h.1 y z) = _; rw [if_neg hy]; rfl
    · rw [cE_int (h := cpy h a0 a1 n.toNatClampNeg) hk1 (by decide) (by decide)]
      show (H.setIfInBounds (gb g + (a1 - 100)) cl)[gb g + (a1 - 100)]? = some (vp_cell _ _)
      rw [Array.getElem?_setIfInBounds, if_pos rfl, if_pos hlt, ← hcl]
      congr 3
      congr 1
      funext z
      show va_cpy (hI h a0) (hI h a1) 0 0 n.toNatClampNeg z = if a1 = a1 then (if z < n.toNatClampNeg then h.1 a0 z else h.1 a1 z) else h.1 a1 z
      rw [if_pos rfl]
      unfold va_cpy
      by_cases hq : z < n.toNatClampNeg
      · rw [if_pos ⟨Nat.zero_le _, by omega⟩, if_pos hq]; simp [hI]
      · rw [if_neg (by omega), if_neg hq]; rfl
  obtain ⟨t, u1, u2⟩ := kk _ _ hW' ⟨by simp; exact hS.1, fun q g1 g2 => by
      rw [oq q (fun e => g2 (by rw [e]; exact hA))]
      exact hS.2.1 q g1 g2, fun q hq => by
      rcases List.mem_append.mp hq with h | h
      · exact hS.2.2 q h
      · obtain ⟨z, -, hz⟩ := List.mem_map.mp h
        rw [← hz]
        exact hA⟩ _ hheap X'
  exact ⟨t, step t u1, u2⟩
end MET
end
section
/-! THE SMALL MACHINE IS SOUND -/
section SOUND
variable {p : Program} {l : Launch} {e : Env} {R : Room} {s : State} {m : MethodId} {args : Array Value} {below : List Frame} {meth : Method} {c : Code} {Q : State → Prop} {cc : ByteArray} {nL own : Nat} {g : GG} {hs : AH} {P : List IR}
/-- every instruction of a piece of code stands as it must -/
def POK (ML : List MDt) (cc : ByteArray) (own : Nat) (ini : Bool) (P : List IR) : Prop := ∀ (i : Nat) (q : IR), P[i]? = some q → (q.2.1 = .nop ∨ decode cc q.1 = .ok (q.2.1, ilen q.2.1 q.1)) ∧ (isRet q.2.1 = true ∨ (isCall q.2.1 = true ∧ cck ML own P i q = true) ∨ (isRet q.2.1 = false ∧ isCall q.2.1 = false ∧ ick own ini P i q = true))
theorem isRet_call {x : Instr} (h : isRet x = true) : isCall x = false := by cases x <;> first | rfl | cases h
theorem pcOf_at {P : List IR} {i : Nat} {q : IR} (h : P[i]? = some q) : pcOf P i = q.1 := by
  unfold pcOf; rw [List.getD_eq_getElem?_getD, h]; rfl
theorem prm301_inv {a : List Value} {h : AH} {w : Option Value × AH} {d n0 : Nat} (q : prm d n0 301 a h = some w) : ∃ r, a = [.ref r] ∧ 100 ≤ r ∧ w = (none, h) := by
  match a, q with
  | [.ref r], q =>
    obtain ⟨r1, r2⟩ := guardo_some (show guardo (decide (100 ≤ r)) (some (none, h)) = some w from q)
    exact ⟨r, rfl, of_decide_eq_true r1, (Option.some.inj r2).symm⟩
theorem prm300_inv {a : List Value} {h : AH} {w : Option Value × AH} {d n0 : Nat} (q : prm d n0 300 a h = some w) : ∃ (a0 a1 : Nat) (n : Int32), a = [.ref a0, .int 0, .ref a1, .int 0, .int n] ∧ 0 ≤ n ∧ hK h a0 = 20 ∧ hK h a1 = 20 ∧ a0 ≠ a1 ∧ n.toNatClampNeg ≤ hN h a0 ∧ n.toNatClampNeg ≤ hN h a1 ∧ w = (none, cpy h a0 a1 n.toNatClampNeg) := by
  match a, q with
  | [.ref a0, .int sp, .ref a1, .int tp, .int n], q =>
    obtain ⟨r1, r2⟩ := guardo_some (show guardo (decide (sp = 0 ∧ tp = 0 ∧ 0 ≤ n ∧ hK h a0 = 20 ∧ hK h a1 = 20 ∧ a0 ≠ a1 ∧ n.toNatClampNeg ≤ hN h a0 ∧ n.toNatClampNeg ≤ hN h a1)) (some (none, cpy h a0 a1 n.toNatClampNeg)) = some w from q)
    obtain ⟨rfl, rfl, r3, r4, r5, r6, r7, r8⟩ := of_decide_eq_true r1
    exact ⟨a0, a1, n, rfl, r3, r4, r5, r6, r7, r8, (Option.some.inj r2).symm⟩
/-- what is owed of a call that is no method of the list -/
def PRM (l : Launch) (ML : List MDt) (pr : Nat → Nat → AC) (g : GG) (hs : AH) : Prop := ∀ (p : Program) (e : Env) (R : Room) (s : State) (m : MethodId) (args : Array Value) (below : List Frame) (meth : Method) (c : Code) (Q : State → Prop) (cc : ByteArray) (nL own : Nat) (P : List IR) (i : Nat) (L S : List Value) (h : AH) (H : Heap) (ls : Array Slot) (locs : List Loc) (cells slots d nn : Nat) (q : IR) (y k : Nat) (w : Option Value × AH),
  CX p s m args c cc nL own g hs → decode cc q.1 = .ok (q.2.1, ilen q.2.1 q.1) → isCall q.2.1 = true → q.2.2.1 = [y, k] → cck ML own P i q = true → ML[y]? = none → d + 2 ≤ R.frames ∧ 64 * (d + 2) ≤ R.locals → LR g L nL ls → RW g hs h H → va_S (AA g) s.heap H locs → k ≤ S.length → ((S.drop k).map fun v => v.category).sum ≤ 8 → pr d nn y (S.take k).reverse h = some w → cells + (hz w.2 - hz h) ≤ R.cells ∧ slots + (hu w.2 - hu h) ≤ R.slots →
  (∀ (H1 : Heap) (locs1 : List Loc), RW g hs w.2 H1 → va_S (AA g) s.heap H1 locs1 → W p l e R s m args below meth c H1 locs1 (cells + (hz w.2 - hz h)) (slots + (hu w.2 - hu h)) Q (F0 m (pcOf P (i + 1)) ls ((w.1.toList ++ S.drop k).map (ph g)))) → W p l e R s m args below meth c H locs cells slots Q (F0 m q.1 ls (S.map (ph g)))
set_option maxRecDepth 100000 in
theorem math_ok : Cond.static Lib.Math.max.name ∈ lw_tbl ∧ Cond.code Lib.Math.max.name Lib.Math.max.code 2 (some .int) ∈ lw_tbl ∧ Cond.static Lib.Math.min.name ∈ lw_tbl ∧ Cond.code Lib.Math.min.name Lib.Math.min.code 2 (some .int) ∈ lw_tbl ∧ Cond.static Lib.Math.abs.name ∈ lw_tbl ∧ Cond.code Lib.Math.abs.name Lib.Math.abs.code 1 (some .int) ∈ lw_tbl ∧ Cond.initialized "java/lang/Math" ∈ lw_tbl := by decide +kernel
theorem prm306_inv {a : List Value} {h : AH} {w : Option Value × AH} {d n0 : Nat} (q : prm d n0 306 a h = some w) : ∃ x y : Int32, a = [.int x, .int y] ∧ w = (some (.int (if x < y then y else x)), h) := by
  match a, q with
  | [.int x, .int y], q => exact ⟨x, y, rfl, (Option.some.inj q).symm⟩
theorem prm307_inv {a : List Value} {h : AH} {w : Option Value × AH} {d n0 : Nat} (q : prm d n0 307 a h = some w) : ∃ x y : Int32, a = [.int x, .int y] ∧ w = (some (.int (if y < x then y else x)), h) := by
  match a, q with
  | [.int x, .int y], q => exact ⟨x, y, rfl, (Option.some.inj q).symm⟩
theorem prm308_inv {a : List Value} {h : AH} {w : Option Value × AH} {d n0 : Nat} (q : prm d n0 308 a h = some w) : ∃ x : Int32, a = [.int x] ∧ w = (some (.int (if 0 ≤ x then x else 0 - x)), h) := by
  match a, q with
  | [.int x], q => exact ⟨x, rfl, (Option.some.inj q).symm⟩
theorem prm_none {y d n0 : Nat} {a : List Value} {h : AH} {w : Option Value × AH} (q : prm d n0 y a h = some w) : y = 300 ∨ y = 301 ∨ y = 306 ∨ y = 307 ∨ y = 308 := by
  unfold prm at q
  split at q <;> first | (cases q; done) | simp
theorem prm_rule {l : Launch} {ML : List MDt} {g : GG} {hs : AH} : PRM l ML prm g hs := by
  intro p e R s m args below meth c Q cc nL own P i L S h H ls locs cells slots d nn q y k w C hd hcall ho hck ht hR hL hW hS hkl hcat hc1 hroom next
  obtain ⟨pc, x, o, wd⟩ := q
  dsimp only at ho hcall hd ⊢
  subst ho
  have hck := Bool.and_eq_true_iff.mp hck
  have hp : pcOf P (i + 1) = pc + 3 := of_decide_eq_true hck.1
  have hck2 := hck.2
  have hR' : 1 ≤ R.frames ∧ 64 ≤ R.locals := by omega
  have hts := C.2.2.2.2.1
  cases x with
  | invokevirtual f => simp only [ht] at hck2; cases hck2
  | invokespecial f =>
    simp only [ht] at hck2
    have u1 := Bool.and_eq_true_iff.mp hck2
    have u2 := Bool.and_eq_true_iff.mp u1.1
    have e1 : y = 301 := of_decide_eq_true u2.1
    have e2 : k = 1 := of_decide_eq_true u2.2
    subst e1; subst e2
    obtain ⟨r, hr1, hr2, rfl⟩ := prm301_inv hc1
    match S, hkl, hr1, hcat, next with
    | v :: S, hkl, hr1, hcat, next =>
      have hvr : v = .ref r := by simpa using hr1
      subst hvr
      have nx := next H locs hW hS
      rw [hp] at nx
      simp only [Nat.sub_self, Nat.add_zero] at nx
      exact op_objInit C hd (wat_AW u1.2 rfl) hR' hL hr2 hcat nx
  | invokestatic f =>
    simp only [ht] at hck2
    obtain ⟨t, htm, hck3⟩ := List.any_eq_true.mp hck2
    have u1 := Bool.and_eq_true_iff.mp hck3
    have u2 := Bool.and_eq_true_iff.mp u1.1
    have e1 : t.1 = y := of_decide_eq_true u2.1
    have e2 : t.2.1 = k := of_decide_eq_true u2.2
    have hlk := wat_AW u1.2 rfl
    have hml : c.maxLocals = ls.size := by rw [C.2.2.1]; exact hL.2.1.symm
    have hcl : cells ≤ R.cells ∧ slots ≤ R.slots := by omega
    have hyy := prm_none hc1
    simp only [prT, List.mem_cons, List.mem_nil_iff, or_false] at htm
    rcases htm with rfl | rfl | rfl | rfl | rfl | rfl | rfl
    · dsimp only at e1 e2 hlk
      subst e1; subst e2
      obtain ⟨a0, a1, nv, hr1, r3, r4, r5, r6, r7, r8, rfl⟩ := prm300_inv hc1
      match S, hkl, hr1, hcat, next with
      | v1 :: v2 :: v3 :: v4 :: v5 :: S, hkl, hr1, hcat, next =>
        have hh : v5 = .ref a0 ∧ v4 = .int 0 ∧ v3 = .ref a1 ∧ v2 = .int 0 ∧ v1 = .int nv := by
          simpa using hr1
        obtain ⟨rfl, rfl, rfl, rfl, rfl⟩ := hh
        refine op_copy C hd hlk hR' hL hW hS hcat r3 r4 r5 r6 r7 r8 (fun H1 l1 k1 k2 => ?_)
        have nx := next H1 l1 k1 k2
        rw [hp] at nx
        have z5 : hz (cpy h a0 a1 nv.toNatClampNeg) = hz h := rfl
        have z6 : hu (cpy h a0 a1 nv.toNatClampNeg) = hu h := rfl
        simp only [z5, z6, Nat.sub_self, Nat.add_zero] at nx
        exact nx
    · dsimp only at e1 e2 hlk
      subst e1; subst e2
      obtain ⟨x, y, hr1, rfl⟩ := prm306_inv hc1
      match S, hkl, hr1, hcat, next with
      | v1 :: v2 :: S, hkl, hr1, hcat, next =>
        have hh : v2 = .int x ∧ v1 = .int y := by simpa using hr1
        obtain ⟨rfl, rfl⟩ := hh
        have nx := next H locs hW hS
        rw [hp] at nx
        simp only [Nat.sub_self, Nat.add_zero] at nx
        exact va_mmax C.1 C.2.1 hml C.2.2.2.1 (hts _ hlk) (hts _ (AWof math_ok.1 rfl)) (hts _ (AWof math_ok.2.2.2.2.2.2 rfl)) (hts _ (AWof math_ok.2.1 rfl)) hR'.1 (by rw [cat_map]; have : ((S).map fun v => v.category).sum ≤ 8 := hcat; omega) hcl.1 hcl.2 hd nx
    · dsimp only at e1 e2 hlk
      subst e1; subst e2
      obtain ⟨x, y, hr1, rfl⟩ := prm307_inv hc1
      match S, hkl, hr1, hcat, next with
      | v1 :: v2 :: S, hkl, hr1, hcat, next =>
        have hh : v2 = .int x ∧ v1 = .int y := by simpa using hr1
        obtain ⟨rfl, rfl⟩ := hh
        have nx := next H locs hW hS
        rw [hp] at nx
        simp only [Nat.sub_self, Nat.add_zero] at nx
        exact va_mmin C.1 C.2.1 hml C.2.2.2.1 (hts _ hlk) (hts _ (AWof math_ok.2.2.1 rfl)) (hts _ (AWof math_ok.2.2.2.2.2.2 rfl)) (hts _ (AWof math_ok.2.2.2.1 rfl)) hR'.1 (by rw [cat_map]; have : ((S).map fun v => v.category).sum ≤ 8 := hcat; omega) hcl.1 hcl.2 hd nx
    · dsimp only at e1 e2 hlk
      subst e1; subst e2
      obtain ⟨x, hr1, rfl⟩ := prm308_inv hc1
      match S, hkl, hr1, hcat, next with
      | v1 :: S, hkl, hr1, hcat, next =>
        have hh : v1 = .int x := by simpa using hr1
        subst hh
        have nx := next H locs hW hS
        rw [hp] at nx
        simp only [Nat.sub_self, Nat.add_zero] at nx
        exact va_mabs C.1 C.2.1 hml C.2.2.2.1 (hts _ hlk) (hts _ (AWof math_ok.2.2.2.2.1 rfl)) (hts _ (AWof math_ok.2.2.2.2.2.2 rfl)) (hts _ (AWof math_ok.2.2.2.2.2.1 rfl)) hR'.1 (by rw [cat_map]; have : ((S).map fun v => v.category).sum ≤ 8 := hcat; omega) hcl.1 hcl.2 hd nx
    · dsimp only at e1; omega
    · dsimp only at e1; omega
    · dsimp only at e1; omega
  | _ => cases hcall
theorem sim_run {ML : List MDt} {pr : Nat → Nat → AC} {d nn : Nat} {ini : Bool} (C : CX p s m args c cc nL own g hs) (hP : POK ML cc own ini P) (hini : ini = true → meth.name = "<init>") (hM : ∀ (y : Nat) (t : MDt), ML[y]? = some t → MOK ML t) (hpg : ∀ d n y a h z, pr d n y a h = some z → hz h ≤ hz z.2 ∧ hu h ≤ hu z.2) (prr : PRM l ML pr g hs) (ct : CT l ML pr g hs d) (hR : d + 1 ≤ R.frames ∧ 64 * (d + 1) ≤ R.locals) :
    ∀ (n i : Nat) (L S : List Value) (h : AH) (z : Option Value × AH) (H : Heap) (ls : Array Slot) (locs : List Loc) (cells slots : Nat), run (callD ML pr d nn) P n i L S h = some z → LR g L nL ls → RW g hs h H → va_S (AA g) s.heap H locs → cells + (hz z.2 - hz h) ≤ R.cells ∧ slots + (hu z.2 - hu h) ≤ R.slots →
    (∀ (x : Instr) (pc' : Nat) (S' : List Value) (H' : Heap) (ls' : Array Slot) (locs' : List Loc), isRet x = true → (x = .nop ∨ decode cc pc' = .ok (x, ilen x pc')) → retv x S' = some z.1 → RW g hs z.2 H' → va_S (AA g) s.heap H' locs' → W p l e R s m args below meth c H' locs' (cells + (hz z.2 - hz h)) (slots + (hu z.2 - hu h)) Q (F0 m pc' ls' (S'.map (ph g)))) →
    W p l e R s m args below meth c H locs cells slots Q (F0 m (pcOf P i) ls (S.map (ph g)))
  | 0, i, L, S, h, z, H, ls, locs, cells, slots, hrun, hL, hW, hS, hroom, K => by cases hrun
  | n + 1, i, L, S, h, z, H, ls, locs, cells, slots, hrun, hL, hW, hS, hroom, K => by
    have hgrow := callD_grow (ML := ML) (pr := pr) hpg d nn
    unfold run at hrun
    split at hrun
    · cases hrun
    · rename_i q hq
      obtain ⟨hd, hcase⟩ := hP i q hq
      rw [pcOf_at hq]
      split at hrun
      · rename_i hret
        cases hv : retv q.2.1 S with
        | none => rw [hv] at hrun; cases hrun
        | some v =>
          rw [hv] at hrun
          cases hrun
          have := K q.2.1 q.1 S H ls locs hret hd hv hW hS
          simp only [Nat.sub_self, Nat.add_zero] at this
          exact this
      · rename_i hret
        split at hrun
        · rename_i hcall
          have hck : cck ML own P i q = true := by
            rcases hcase with u | u | u
            · exact absurd u hret
            · exact u.2
            · rw [u.2.1] at hcall; cases hcall
          split at hrun
          · rename_i y k ho
            obtain ⟨g1, hrun⟩ := guardo_some hrun
            have g1 := Bool.and_eq_true_iff.mp g1
            have hkl : k ≤ S.length := of_decide_eq_true g1.1
            have hcat : ((S.drop k).map fun v => v.category).sum ≤ 8 := of_decide_eq_true g1.2
            obtain ⟨w, hc1, hrun⟩ := Option.bind_eq_some_iff.mp hrun
            have gw := hgrow _ _ _ _ hc1
            have gz := run_grow hgrow n _ _ _ _ _ hrun
            have hrm : cells + (hz w.2 - hz h) ≤ R.cells ∧ slots + (hu w.2 - hu h) ≤ R.slots := by omega
            have next : ∀ (H1 : Heap) (locs1 : List Loc), RW g hs w.2 H1 → va_S (AA g) s.heap H1 locs1 → W p l e R s m args below meth c H1 locs1 (cells + (hz w.2 - hz h)) (slots + (hu w.2 - hu h)) Q (F0 m (pcOf P (i + 1)) ls ((w.1.toList ++ S.drop k).map (ph g))) := by
              intro H1 l1 hW1 hS1
              refine sim_run C hP hini hM hpg prr ct hR n (i + 1) L (w.1.toList ++ S.drop k) w.2 z H1 ls l1 _ _ hrun hL hW1 hS1 (by omega) ?_
              intro x pc' S' H' ls' locs' k1 k2 k3 k4 k5
              have := K x pc' S' H' ls' locs' k1 k2 k3 k4 k5
              rw [show cells + (hz w.2 - hz h) + (hz z.2 - hz w.2) = cells + (hz z.2 - hz h) by omega, show slots + (hu w.2 - hu h) + (hu z.2 - hu w.2) = slots + (hu z.2 - hu h) by omega]
              exact this
            have hd' : decode cc q.1 = .ok (q.2.1, ilen q.2.1 q.1) := by
              rcases hd with u | u
              · rw [u] at hcall; cases hcall
              · exact u
            cases ht : ML[y]? with
            | some t => exact op_call (k := k) C hd' hcall ho hck ht (hM y t ht) ct hR hL hW hS hkl hcat hc1 hrm next
            | none =>
              cases d with
              | zero => cases hc1
              | succ d =>
                simp only [callD, ht] at hc1
                exact prr p e R s m args below meth c Q cc nL own P i L S h H ls locs cells slots d nn q y k w C hd' hcall ho hck ht hR hL hW hS hkl hcat hc1 hrm next
          · cases hrun
        · rename_i hcall
          have hick : ick own ini P i q = true := by
            rcases hcase with u | u | u
            · exact absurd u hret
            · exact absurd u.1 hcall
            · exact u.2.2
          obtain ⟨w, hst, hrun⟩ := Option.bind_eq_some_iff.mp hrun
          have gw := stp_grow hst
          have gz := run_grow hgrow n _ _ _ _ _ hrun
          have hd' : decode cc q.1 = .ok (q.2.1, ilen q.2.1 q.1) := by
            rcases hd with u | u
            · rw [u] at hret; exact absurd rfl hret
            · exact u
          refine sim_step C hd' hick hini hL hW hS hst (by omega) ?_
          intro ls' H' locs' hL' hW' hS'
          refine sim_run C hP hini hM hpg prr ct hR n w.1 w.2.1 w.2.2.1 w.2.2.2 z H' ls' locs' _ _ hrun hL' hW' hS' (by omega) ?_
          intro x pc' S' H'' ls'' locs'' k1 k2 k3 k4 k5
          have := K x pc' S' H'' ls'' locs'' k1 k2 k3 k4 k5
          rw [show cells + (hz w.2.2.2 - hz h) + (hz z.2 - hz w.2.2.2) = cells + (hz z.2 - hz h) by omega, show slots + (hu w.2.2.2 - hu h) + (hu z.2 - hu w.2.2.2) = slots + (hu z.2 - hu h) by omega]
          exact this
theorem met_all (l : Launch) (g : GG) (hs : AH) {ML : List MDt} (hM : ∀ (y : Nat) (t : MDt), ML[y]? = some t → MOK ML t) {pr : Nat → Nat → AC} (hpg : ∀ d n y a h z, pr d n y a h = some z → hz h ≤ hz z.2 ∧ hu h ≤ hu z.2) (prr : PRM l ML pr g hs) : ∀ d, CT l ML pr g hs d
  | 0 => fun y t ht n a h z q => by cases q
  | d + 1 => fun y t ht n a h z q => by
    have ih := met_all l g hs hM hpg prr d
    have hgr := callD_grow (ML := ML) (pr := pr) hpg (d + 1) n y a h z q
    obtain ⟨d', hd', hrc, hrt, hrun⟩ := callD_inv q ht
    cases hd'
    refine ⟨hgr.1, hgr.2, ?_⟩
    have M := hM y t ht
    obtain ⟨m1, m2, m3, m4, m5, m6, m7, m8, m9, m10⟩ := M
    refine Met.ofW (cc := t.2.1) (maxL := t.2.2.1) (ret := t.2.2.2.1) m3 rfl ?_
    intro p e s m args below meth c s₁ B hml hv
    obtain ⟨rfl, hW, hE1, hE2, hE3, hE4⟩ := hv
    have hown : s.vm.findClass t.1.cls = some m.cls := findClass_of_methodNamed B.named
    have C : CX p s m (a.map (ph g)).toArray c t.2.1 t.2.2.1 t.2.2.2.2.1 g hs := ⟨B.exec, B.bytes, hml, by rw [← m5]; exact hown, fun w hw => AW_at (State.WarmedH.refl s) hw (hE1 w hw), hE2, hE3, hE4⟩
    have hfl : (flat a).length ≤ t.2.2.1 := of_decide_eq_true (Bool.and_eq_true_iff.mp hrc).1
    rw [lg_entry_eq]
    have hL := LR.entry g a (n := t.2.2.1) hfl
    generalize ((lg_sl (a.map (ph g)) ++ List.replicate (t.2.2.1 - (lg_sl (a.map (ph g))).length) Slot.unset).toArray) = ls at hL ⊢
    have hlocks := B.notSynchronized
    have hr := B.returns
    have hS0 : va_S (AA g) s.heap s.heap [] := va_S.rf
    have K0 := sim_run (p := p) (l := l) (e := e) (R := rmD (d + 1) (hz z.2 - hz h) (hu z.2 - hu h)) (below := below) (meth := meth) (Q := MQ below (QcA g hs z) (a.map (ph g)).toArray s (hz z.2 - hz h) (hu z.2 - hu h) (AA g)) (ini := decide (t.1.name = "<init>")) C (fun i q hq => ⟨Or.inr (m10 i q hq).1, (m10 i q hq).2⟩) (fun hq => by
        rw [(name_of_methodNamed B.named B.method).1]; exact of_decide_eq_true hq) hM hpg prr ih ⟨Nat.le_refl _, Nat.le_refl _⟩ n 0 (lcs t.2.2.1 a) [] h z s.heap ls [] 0 0 hrun hL hW hS0 (by show 0 + _ ≤ (hz z.2 - hz h) ∧ 0 + _ ≤ (hu z.2 - hu h); omega) ?_
    · rw [m9] at K0
      exact K0
    · intro x pc' S' H' ls' locs' k1 k2 k3 k4 k5
      rw [Nat.zero_add, Nat.zero_add]
      have hq : ∀ t' : State, t'.heap = H' → s.WarmedH t'.vm → QcA g hs z (a.map (ph g)).toArray s (.returned (z.1.map (ph g))) t' := fun t' e1 _ => ⟨rfl, by rw [e1]; exact k4, k5.F e1⟩
      have hx : x ≠ .nop := by
        intro e; subst e
        match S', k3 with
        | [], k3 =>
          have e1 : z.1 = some .null := (Option.some.inj k3).symm
          rw [e1] at hrt
          unfold rtk at hrt
          split at hrt <;> first | (cases hrt; done) | (rename_i h2; cases h2; done) | (rename_i h1 h2; cases h2; done) | (rename_i h1 h2 h3; cases h3)
      have k2 := k2.resolve_left hx
      cases x with
      | ireturn =>
        match S', k3 with
        | [.int v], k3 =>
          have e1 : z.1 = some (.int v) := (Option.some.inj k3).symm
          rw [e1] at hq hrt
          cases hty : t.2.2.2.1 with
          | none => rw [hty] at hrt; cases hrt
          | some ty =>
            rw [hty] at hrt hr
            have hn : narrow ty (.int v) = .int v := by
              unfold rtk at hrt
              exact of_decide_eq_true hrt
            exact W.zret B.exec B.bytes hr hn hq k5.2.2 k2
      | lreturn =>
        match S', k3 with
        | [.long v], k3 =>
          have e1 : z.1 = some (.long v) := (Option.some.inj k3).symm
          rw [e1] at hq hrt
          have hty : t.2.2.2.1 = some .long := by
            unfold rtk at hrt
            split at hrt <;> first | assumption | (rename_i h1 h2; cases h2) | cases hrt | (rename_i h1; cases h1)
          rw [hty] at hr
          exact W.lret B.exec B.bytes hr hq k5.2.2 k2
      | areturn =>
        match S', k3 with
        | [.ref v], k3 =>
          have e1 : z.1 = some (.ref v) := (Option.some.inj k3).symm
          rw [e1] at hq hrt
          have hty : ∃ rt, t.2.2.2.1 = some rt ∧ ((∃ n, rt = .object n) ∨ ∃ u, rt = .array u) := by
            cases hty : t.2.2.2.1 with
            | none => rw [hty] at hrt; cases hrt
            | some ty =>
              rw [hty] at hrt
              cases ty <;> first | (cases hrt; done) | exact ⟨_, rfl, Or.inl ⟨_, rfl⟩⟩ | exact ⟨_, rfl, Or.inr ⟨_, rfl⟩⟩
          obtain ⟨rt, hty, hrt2⟩ := hty
          rw [hty] at hr
          have hv : ph g (.ref v) = .null ∨ ∃ b, ph g (.ref v) = .ref b := by
            show va_rf (rq g v) = _ ∨ ∃ b, va_rf (rq g v) = _
            cases rq g v with
            | none => exact Or.inl rfl
            | some b => exact Or.inr ⟨b, rfl⟩
          exact W.aret B.exec B.bytes hr hrt2 hv hq k5.2.2 k2
      | return_ =>
        match S', k3 with
        | [], k3 =>
          have e1 : z.1 = none := (Option.some.inj k3).symm
          rw [e1] at hq hrt
          have hty : t.2.2.2.1 = none := by
            cases hty : t.2.2.2.1 with
            | none => rfl
            | some ty => rw [hty] at hrt; cases ty <;> cases hrt
          rw [hty] at hr
          exact W.vret B.exec B.bytes hr hq k5.2.2 k2
      | nop => exact absurd rfl hx
      | _ => cases k1
end SOUND
end
section
/-! the code, by program out of what TURN printed of the class, the law and the reference -/
/-- PenThatJumps$Chair.<init>()V -/
def P_0 : List IR := [
  (0, .aload_n 0, [], 0), (1, .invokespecial 3, [301, 1], 316), (4, .aload_n 0, [], 0), (5, .new 9, [6], 317), (8, .dup, [], 0), (9, .iconst 0, [], 0),
  (10, .invokespecial 11, [46, 2], 318), (13, .putfield 14, [0, 0], 319), (16, .aload_n 0, [], 0), (17, .bipush 12, [], 0), (19, .newarray .int, [20], 0), (21, .putfield 20, [0, 1], 321),
  (24, .aload_n 0, [], 0), (25, .iconst 3, [], 0), (26, .newarray .int, [20], 0), (28, .putfield 24, [0, 2], 322), (31, .return_, [], 0)]
def m_0 : MDt := (⟨"PenThatJumps$Chair", "<init>", "()V"⟩, prog_2_method_1_code, 1, none, 0, 0, P_0)
/-- PenThatJumps$Chair.fill(LPenThatJumps$Person;LPenThatJumps$Plan;[I)V -/
def P_1 : List IR := [
  (0, .iconst 0, [], 0), (1, .istore 4, [], 0), (3, .iload 4, [], 0), (5, .aload_n 2, [], 0), (6, .getfield 27, [4, 3], 235), (9, .if_icmp .ge 80, [49], 0),
  (12, .aload_n 0, [], 0), (13, .aload_n 1, [], 0), (14, .aload_n 2, [], 0), (15, .iload 4, [], 0), (17, .aload_n 2, [], 0), (18, .iload 4, [], 0),
  (20, .invokevirtual 33, [39, 2], 792), (23, .iload 4, [], 0), (25, .invokevirtual 37, [3, 6], 796), (28, .iconst 0, [], 0), (29, .istore 5, [], 0), (31, .iload 5, [], 0),
  (33, .bipush 12, [], 0), (35, .if_icmp .ge 48, [47], 0), (38, .iload 4, [], 0), (40, .iconst 3, [], 0), (41, .imul, [], 0), (42, .iconst 4, [], 0),
  (43, .imul, [], 0), (44, .iload 5, [], 0), (46, .iadd, [], 0), (47, .istore 6, [], 0), (49, .iload 6, [], 0), (51, .ifCond .lt 26, [45], 0),
  (54, .iload 6, [], 0), (56, .aload_n 3, [], 0), (57, .arraylength, [], 0), (58, .if_icmp .ge 19, [45], 0), (61, .aload_n 3, [], 0), (62, .iload 6, [], 0),
  (64, .aload_n 0, [], 0), (65, .iload 5, [], 0), (67, .iconst 4, [], 0), (68, .idiv, [], 0), (69, .iload 5, [], 0), (71, .iconst 4, [], 0),
  (72, .irem, [], 0), (73, .invokevirtual 41, [4, 3], 802), (76, .iastore, [], 0), (77, .iinc 5 1, [], 0), (80, .goto (-49), [17], 0), (83, .iinc 4 1, [], 0),
  (86, .goto (-83), [2], 0), (89, .return_, [], 0)]
def m_1 : MDt := (⟨"PenThatJumps$Chair", "fill", "(LPenThatJumps$Person;LPenThatJumps$Plan;[I)V"⟩, prog_2_method_2_code, 7, none, 0, 0, P_1)
/-- PenThatJumps$Chair.spread(LPenThatJumps$Person;LPenThatJumps$Person;LPenThatJumps$Plan;III)I -/
def P_2 : List IR := [
  (0, .aload_n 0, [], 0), (1, .aload_n 1, [], 0), (2, .aload_n 3, [], 0), (3, .iload 4, [], 0), (5, .iload 5, [], 0), (7, .iload 6, [], 0),
  (9, .invokevirtual 37, [3, 6], 796), (12, .iconst 0, [], 0), (13, .istore 7, [], 0), (15, .iload 7, [], 0), (17, .aload_n 0, [], 0), (18, .getfield 24, [0, 2], 322),
  (21, .arraylength, [], 0), (22, .if_icmp .ge 23, [24], 0), (25, .aload_n 0, [], 0), (26, .getfield 24, [0, 2], 322), (29, .iload 7, [], 0), (31, .aload_n 0, [], 0),
  (32, .iload 7, [], 0), (34, .iconst 0, [], 0), (35, .invokevirtual 41, [4, 3], 802), (38, .iastore, [], 0), (39, .iinc 7 1, [], 0), (42, .goto (-27), [9], 0),
  (45, .aload_n 0, [], 0), (46, .aload_n 2, [], 0), (47, .aload_n 3, [], 0), (48, .iload 4, [], 0), (50, .iload 5, [], 0), (52, .iload 6, [], 0),
  (54, .invokevirtual 37, [3, 6], 796), (57, .iconst 0, [], 0), (58, .istore 7, [], 0), (60, .iconst 0, [], 0), (61, .istore 8, [], 0), (63, .iload 8, [], 0),
  (65, .aload_n 0, [], 0), (66, .getfield 24, [0, 2], 322), (69, .arraylength, [], 0), (70, .if_icmp .ge 32, [55], 0), (73, .iload 7, [], 0), (75, .aload_n 0, [], 0),
  (76, .getfield 24, [0, 2], 322), (79, .iload 8, [], 0), (81, .iaload, [], 0), (82, .aload_n 0, [], 0), (83, .iload 8, [], 0), (85, .iconst 0, [], 0),
  (86, .invokevirtual 41, [4, 3], 802), (89, .isub, [], 0), (90, .invokestatic 45, [308, 1], 935), (93, .iadd, [], 0), (94, .istore 7, [], 0), (96, .iinc 8 1, [], 0),
  (99, .goto (-36), [35], 0), (102, .iload 7, [], 0), (104, .ireturn, [], 0)]
def m_2 : MDt := (⟨"PenThatJumps$Chair", "spread", "(LPenThatJumps$Person;LPenThatJumps$Person;LPenThatJumps$Plan;III)I"⟩, prog_2_method_3_code, 9, some .int, 0, 0, P_2)
/-- PenThatJumps$Chair.pose(LPenThatJumps$Person;LPenThatJumps$Plan;III)V -/
def P_3 : List IR := [
  (0, .aload_n 2, [], 0), (1, .iload_n 3, [], 0), (2, .invokevirtual 50, [36, 2], 800), (5, .istore 6, [], 0), (7, .aload_n 2, [], 0), (8, .iload_n 3, [], 0),
  (9, .invokevirtual 53, [37, 2], 801), (12, .istore 7, [], 0), (14, .iload 6, [], 0), (16, .iconst 3, [], 0), (17, .if_icmp .ne 7, [13], 0), (20, .iconst 1, [], 0),
  (21, .goto 4, [14], 0), (24, .iconst 0, [], 0), (25, .istore 8, [], 0), (27, .iload 8, [], 0), (29, .ifCond .eq 16, [23], 0), (32, .iload 7, [], 0),
  (34, .aload_n 0, [], 0), (35, .getfield 56, [0, 3], 324), (38, .if_icmp .ne 7, [23], 0), (41, .iconst 1, [], 0), (42, .goto 4, [24], 0), (45, .iconst 0, [], 0),
  (46, .istore 9, [], 0), (48, .iload 8, [], 0), (50, .ifCond .eq 16, [35], 0), (53, .aload_n 1, [], 0), (54, .getfield 59, [3, 3], 403), (57, .iload 7, [], 0),
  (59, .ishr, [], 0), (60, .iconst 1, [], 0), (61, .iand, [], 0), (62, .iconst 1, [], 0), (63, .if_icmp .eq 15, [40], 0), (66, .iload 9, [], 0),
  (68, .ifCond .eq 14, [42], 0), (71, .aload_n 1, [], 0), (72, .getfield 64, [3, 2], 400), (75, .ifCond .eq 7, [42], 0), (78, .iconst 1, [], 0), (79, .goto 4, [43], 0),
  (82, .iconst 0, [], 0), (83, .istore 10, [], 0), (85, .iconst 0, [], 0), (86, .istore 11, [], 0), (88, .iload 11, [], 0), (90, .iconst 4, [], 0),
  (91, .if_icmp .ge 38, [66], 0), (94, .iload 11, [], 0), (96, .aload_n 0, [], 0), (97, .getfield 20, [0, 1], 321), (100, .arraylength, [], 0), (101, .if_icmp .ge 28, [66], 0),
  (104, .aload_n 0, [], 0), (105, .getfield 20, [0, 1], 321), (108, .iload 11, [], 0), (110, .iload 6, [], 0), (112, .iload 11, [], 0), (114, .if_icmp .ne 7, [62], 0),
  (117, .iconst 1, [], 0), (118, .goto 4, [63], 0), (121, .iconst 0, [], 0), (122, .iastore, [], 0), (123, .iinc 11 1, [], 0), (126, .goto (-38), [46], 0),
  (129, .aload_n 0, [], 0), (130, .getfield 20, [0, 1], 321), (133, .iconst 4, [], 0), (134, .iload 9, [], 0), (136, .ifCond .eq 7, [73], 0), (139, .iconst 1, [], 0),
  (140, .goto 4, [74], 0), (143, .iconst 0, [], 0), (144, .iastore, [], 0), (145, .aload_n 0, [], 0), (146, .getfield 20, [0, 1], 321), (149, .iconst 5, [], 0),
  (150, .iload 10, [], 0), (152, .ifCond .eq 7, [82], 0), (155, .iconst 1, [], 0), (156, .goto 4, [83], 0), (159, .iconst 0, [], 0), (160, .iastore, [], 0),
  (161, .aload_n 0, [], 0), (162, .getfield 20, [0, 1], 321), (165, .bipush 6, [], 0), (167, .aload_n 1, [], 0), (168, .getfield 68, [3, 1], 397), (171, .iastore, [], 0),
  (172, .aload_n 0, [], 0), (173, .getfield 20, [0, 1], 321), (176, .bipush 7, [], 0), (178, .aload_n 1, [], 0), (179, .getfield 64, [3, 2], 400), (182, .ifCond .eq 7, [98], 0),
  (185, .iconst 1, [], 0), (186, .goto 4, [99], 0), (189, .iconst 0, [], 0), (190, .iastore, [], 0), (191, .aload_n 0, [], 0), (192, .getfield 20, [0, 1], 321),
  (195, .bipush 8, [], 0), (197, .aload_n 1, [], 0), (198, .getfield 71, [3, 4], 406), (201, .ifCond .eq 12, [110], 0), (204, .iload 6, [], 0), (206, .ifCond .ne 7, [110], 0),
  (209, .iconst 1, [], 0), (210, .goto 4, [111], 0), (213, .iconst 0, [], 0), (214, .iastore, [], 0), (215, .aload_n 0, [], 0), (216, .getfield 20, [0, 1], 321),
  (219, .bipush 9, [], 0), (221, .iload 4, [], 0), (223, .iastore, [], 0), (224, .aload_n 0, [], 0), (225, .getfield 20, [0, 1], 321), (228, .bipush 10, [], 0),
  (230, .iload 5, [], 0), (232, .iastore, [], 0), (233, .return_, [], 0)]
def m_3 : MDt := (⟨"PenThatJumps$Chair", "pose", "(LPenThatJumps$Person;LPenThatJumps$Plan;III)V"⟩, prog_2_method_4_code, 12, none, 0, 0, P_3)
/-- PenThatJumps$Chair.jumpOf(II)I -/
def P_4 : List IR := [
  (0, .aload_n 0, [], 0), (1, .getfield 20, [0, 1], 321), (4, .bipush 11, [], 0), (6, .iload_n 2, [], 0), (7, .iastore, [], 0), (8, .aload_n 0, [], 0),
  (9, .getfield 14, [0, 0], 319), (12, .iload_n 1, [], 0), (13, .aload_n 0, [], 0), (14, .getfield 20, [0, 1], 321), (17, .invokevirtual 74, [53, 3], 806), (20, .istore_n 3, [], 0),
  (21, .iload_n 3, [], 0), (22, .ifCond .ge 7, [16], 0), (25, .iconst 0, [], 0), (26, .goto 15, [22], 0), (29, .iload_n 3, [], 0), (30, .bipush 99, [], 0),
  (32, .if_icmp .le 8, [21], 0), (35, .bipush 99, [], 0), (37, .goto 4, [22], 0), (40, .iload_n 3, [], 0), (41, .ireturn, [], 0)]
def m_4 : MDt := (⟨"PenThatJumps$Chair", "jumpOf", "(II)I"⟩, prog_2_method_5_code, 4, some .int, 0, 0, P_4)
/-- PenThatJumps$Judge.<init>()V -/
def P_5 : List IR := [
  (0, .aload_n 0, [], 0), (1, .invokespecial 3, [301, 1], 339), (4, .aload_n 0, [], 0), (5, .bipush 20, [], 0), (7, .newarray .int, [20], 0), (9, .putfield 11, [1, 0], 340),
  (12, .return_, [], 0)]
def m_5 : MDt := (⟨"PenThatJumps$Judge", "<init>", "()V"⟩, prog_3_method_1_code, 1, none, 1, 1, P_5)
/-- PenThatJumps$Judge.study(LPenThatJumps$Sitting;)V -/
def P_6 : List IR := [
  (0, .aload_n 0, [], 0), (1, .getfield 11, [1, 0], 340), (4, .iconst 0, [], 0), (5, .invokestatic 15, [207, 2], 848), (8, .aload_n 0, [], 0), (9, .getfield 11, [1, 0], 340),
  (12, .bipush 19, [], 0), (14, .aload_n 1, [], 0), (15, .getfield 21, [7, 0], 377), (18, .getfield 27, [4, 3], 236), (21, .iastore, [], 0), (22, .iconst 0, [], 0),
  (23, .istore_n 2, [], 0), (24, .iload_n 2, [], 0), (25, .aload_n 1, [], 0), (26, .getfield 21, [7, 0], 377), (29, .getfield 27, [4, 3], 236), (32, .if_icmp .ge 29, [32], 0),
  (35, .iconst 0, [], 0), (36, .istore_n 3, [], 0), (37, .iload_n 3, [], 0), (38, .iconst 3, [], 0), (39, .if_icmp .ge 16, [30], 0), (42, .aload_n 0, [], 0),
  (43, .aload_n 1, [], 0), (44, .iload_n 2, [], 0), (45, .iload_n 3, [], 0), (46, .invokevirtual 33, [7, 4], 849), (49, .iinc 3 1, [], 0), (52, .goto (-15), [20], 0),
  (55, .iinc 2 1, [], 0), (58, .goto (-34), [13], 0), (61, .return_, [], 0)]
def m_6 : MDt := (⟨"PenThatJumps$Judge", "study", "(LPenThatJumps$Sitting;)V"⟩, prog_3_method_2_code, 4, none, 1, 1, P_6)
/-- PenThatJumps$Judge.note(LPenThatJumps$Sitting;II)V -/
def P_7 : List IR := [
  (0, .aload_n 1, [], 0), (1, .iload_n 2, [], 0), (2, .iload_n 3, [], 0), (3, .invokevirtual 37, [59, 3], 853), (6, .istore 4, [], 0), (8, .aload_n 1, [], 0),
  (9, .getfield 21, [7, 0], 377), (12, .iload_n 2, [], 0), (13, .invokevirtual 41, [36, 2], 857), (16, .iconst 3, [], 0), (17, .imul, [], 0), (18, .iload_n 3, [], 0),
  (19, .iadd, [], 0), (20, .istore 5, [], 0), (22, .iload 5, [], 0), (24, .ifCond .lt 25, [29], 0), (27, .iload 5, [], 0), (29, .aload_n 0, [], 0),
  (30, .getfield 11, [1, 0], 340), (33, .arraylength, [], 0), (34, .if_icmp .ge 15, [29], 0), (37, .aload_n 0, [], 0), (38, .getfield 11, [1, 0], 340), (41, .iload 5, [], 0),
  (43, .dup2, [], 0), (44, .iaload, [], 0), (45, .iload 4, [], 0), (47, .iadd, [], 0), (48, .iastore, [], 0), (49, .aload_n 1, [], 0),
  (50, .getfield 21, [7, 0], 377), (53, .iload_n 2, [], 0), (54, .invokevirtual 45, [37, 2], 858), (57, .istore 6, [], 0), (59, .iload 6, [], 0), (61, .aload_n 1, [], 0),
  (62, .getfield 48, [7, 2], 381), (65, .if_icmp .ne 8, [40], 0), (68, .bipush 12, [], 0), (70, .goto 5, [41], 0), (73, .bipush 15, [], 0), (75, .iload_n 3, [], 0),
  (76, .iadd, [], 0), (77, .istore 7, [], 0), (79, .iload 6, [], 0), (81, .iconst (-1), [], 0), (82, .if_icmp .eq 37, [64], 0), (85, .iload 7, [], 0),
  (87, .ifCond .lt 32, [64], 0), (90, .iload 7, [], 0), (92, .aload_n 0, [], 0), (93, .getfield 11, [1, 0], 340), (96, .arraylength, [], 0), (97, .if_icmp .ge 22, [64], 0),
  (100, .aload_n 0, [], 0), (101, .getfield 11, [1, 0], 340), (104, .iload 7, [], 0), (106, .aload_n 0, [], 0), (107, .getfield 11, [1, 0], 340), (110, .iload 7, [], 0),
  (112, .iaload, [], 0), (113, .iload 4, [], 0), (115, .invokestatic 51, [306, 2], 859), (118, .iastore, [], 0), (119, .return_, [], 0)]
def m_7 : MDt := (⟨"PenThatJumps$Judge", "note", "(LPenThatJumps$Sitting;II)V"⟩, prog_3_method_3_code, 8, none, 1, 1, P_7)
/-- PenThatJumps$Judge.finds(LPenThatJumps$Program;I)Z -/
def P_8 : List IR := [
  (0, .aload_n 0, [], 0), (1, .getfield 11, [1, 0], 340), (4, .bipush 18, [], 0), (6, .iload_n 2, [], 0), (7, .iastore, [], 0), (8, .iconst 0, [], 0),
  (9, .istore_n 3, [], 0), (10, .iload_n 3, [], 0), (11, .aload_n 1, [], 0), (12, .getfield 56, [6, 2], 259), (15, .if_icmp .ge 23, [21], 0), (18, .aload_n 1, [], 0),
  (19, .iload_n 3, [], 0), (20, .aload_n 0, [], 0), (21, .getfield 11, [1, 0], 340), (24, .invokevirtual 61, [53, 3], 866), (27, .ifCond .eq 5, [19], 0), (30, .iconst 1, [], 0),
  (31, .ireturn, [], 0), (32, .iinc 3 1, [], 0), (35, .goto (-25), [7], 0), (38, .iconst 0, [], 0), (39, .ireturn, [], 0)]
def m_8 : MDt := (⟨"PenThatJumps$Judge", "finds", "(LPenThatJumps$Program;I)Z"⟩, prog_3_method_4_code, 4, some .boolean, 1, 1, P_8)
/-- PenThatJumps$Parser.<init>()V -/
def P_9 : List IR := [
  (0, .aload_n 0, [], 0), (1, .invokespecial 3, [301, 1], 197), (4, .aload_n 0, [], 0), (5, .new 9, [9], 198), (8, .dup, [], 0), (9, .invokespecial 11, [69, 1], 200),
  (12, .putfield 12, [2, 0], 280), (15, .aload_n 0, [], 0), (16, .new 18, [4], 225), (19, .dup, [], 0), (20, .invokespecial 20, [33, 1], 227), (23, .putfield 21, [2, 1], 282),
  (26, .aload_n 0, [], 0), (27, .new 25, [6], 250), (30, .dup, [], 0), (31, .sipush 1000, [], 0), (34, .invokespecial 27, [46, 2], 252), (37, .putfield 30, [2, 2], 284),
  (40, .aload_n 0, [], 0), (41, .getstatic 34, [0, 25], 278), (44, .putfield 40, [2, 8], 291), (47, .return_, [], 0)]
def m_9 : MDt := (⟨"PenThatJumps$Parser", "<init>", "()V"⟩, prog_4_method_1_code, 1, none, 2, 2, P_9)
/-- PenThatJumps$Parser.readPlan()I -/
def P_10 : List IR := [
  (0, .aload_n 0, [], 0), (1, .getfield 12, [2, 0], 280), (4, .invokevirtual 43, [73, 1], 504), (7, .aload_n 0, [], 0), (8, .iconst 0, [], 0), (9, .invokevirtual 46, [13, 2], 599),
  (12, .aload_n 0, [], 0), (13, .invokevirtual 50, [17, 1], 615), (16, .iconst 0, [], 0), (17, .istore_n 1, [], 0), (18, .iload_n 1, [], 0), (19, .bipush 12, [], 0),
  (21, .if_icmp .ge 20, [20], 0), (24, .aload_n 0, [], 0), (25, .invokevirtual 53, [14, 1], 656), (28, .ifCond .eq 13, [20], 0), (31, .aload_n 0, [], 0), (32, .invokevirtual 50, [17, 1], 615),
  (35, .iinc 1 1, [], 0), (38, .goto (-20), [10], 0), (41, .aload_n 0, [], 0), (42, .getfield 57, [2, 4], 287), (45, .ireturn, [], 0)]
def m_10 : MDt := (⟨"PenThatJumps$Parser", "readPlan", "()I"⟩, prog_4_method_2_code, 2, some .int, 2, 2, P_10)
/-- PenThatJumps$Parser.readBody()I -/
def P_11 : List IR := [
  (0, .aload_n 0, [], 0), (1, .getfield 12, [2, 0], 280), (4, .invokevirtual 43, [73, 1], 504), (7, .aload_n 0, [], 0), (8, .iconst 0, [], 0), (9, .invokevirtual 46, [13, 2], 599),
  (12, .iconst 0, [], 0), (13, .istore_n 1, [], 0), (14, .iload_n 1, [], 0), (15, .sipush 1000, [], 0), (18, .if_icmp .ge 24, [20], 0), (21, .aload_n 0, [], 0),
  (22, .invokevirtual 53, [14, 1], 656), (25, .ifCond .eq 17, [20], 0), (28, .aload_n 0, [], 0), (29, .aload_n 0, [], 0), (30, .invokevirtual 61, [19, 1], 685), (33, .invokevirtual 65, [21, 2], 695),
  (36, .iinc 1 1, [], 0), (39, .goto (-25), [8], 0), (42, .aload_n 0, [], 0), (43, .getfield 57, [2, 4], 287), (46, .ireturn, [], 0)]
def m_11 : MDt := (⟨"PenThatJumps$Parser", "readBody", "()I"⟩, prog_4_method_3_code, 2, some .int, 2, 2, P_11)
/-- PenThatJumps$Parser.readReader()I -/
def P_12 : List IR := [
  (0, .aload_n 0, [], 0), (1, .getfield 12, [2, 0], 280), (4, .invokevirtual 43, [73, 1], 504), (7, .aload_n 0, [], 0), (8, .iconst 1, [], 0), (9, .invokevirtual 46, [13, 2], 599),
  (12, .iconst 0, [], 0), (13, .istore_n 1, [], 0), (14, .iload_n 1, [], 0), (15, .bipush 6, [], 0), (17, .if_icmp .gt 24, [20], 0), (20, .aload_n 0, [], 0),
  (21, .invokevirtual 53, [14, 1], 656), (24, .ifCond .eq 17, [20], 0), (27, .aload_n 0, [], 0), (28, .aload_n 0, [], 0), (29, .invokevirtual 68, [20, 1], 761), (32, .invokevirtual 65, [21, 2], 695),
  (35, .iinc 1 1, [], 0), (38, .goto (-24), [8], 0), (41, .aload_n 0, [], 0), (42, .getfield 57, [2, 4], 287), (45, .ireturn, [], 0)]
def m_12 : MDt := (⟨"PenThatJumps$Parser", "readReader", "()I"⟩, prog_4_method_4_code, 2, some .int, 2, 2, P_12)
/-- PenThatJumps$Parser.begin(Z)V -/
def P_13 : List IR := [
  (0, .aload_n 0, [], 0), (1, .iconst 0, [], 0), (2, .putfield 57, [2, 4], 287), (5, .aload_n 0, [], 0), (6, .iload_n 1, [], 0), (7, .putfield 71, [2, 3], 286),
  (10, .aload_n 0, [], 0), (11, .getfield 21, [2, 1], 282), (14, .iconst 0, [], 0), (15, .putfield 75, [4, 3], 239), (18, .aload_n 0, [], 0), (19, .getfield 30, [2, 2], 284),
  (22, .invokevirtual 78, [47, 1], 603), (25, .aload_n 0, [], 0), (26, .iconst (-1), [], 0), (27, .putfield 81, [2, 5], 288), (30, .aload_n 0, [], 0), (31, .invokevirtual 84, [15, 1], 610),
  (34, .return_, [], 0)]
def m_13 : MDt := (⟨"PenThatJumps$Parser", "begin", "(Z)V"⟩, prog_4_method_5_code, 2, none, 2, 2, P_13)
/-- PenThatJumps$Parser.goesOn()Z -/
def P_14 : List IR := [
  (0, .aload_n 0, [], 0), (1, .getfield 57, [2, 4], 287), (4, .ifCond .ne 17, [9], 0), (7, .aload_n 0, [], 0), (8, .getfield 87, [2, 6], 289), (11, .sipush 12000, [], 0),
  (14, .if_icmp .eq 7, [9], 0), (17, .iconst 1, [], 0), (18, .goto 4, [10], 0), (21, .iconst 0, [], 0), (22, .ireturn, [], 0)]
def m_14 : MDt := (⟨"PenThatJumps$Parser", "goesOn", "()Z"⟩, prog_4_method_6_code, 1, some .boolean, 2, 2, P_14)
/-- PenThatJumps$Parser.next()V -/
def P_15 : List IR := [
  (0, .aload_n 0, [], 0), (1, .dup, [], 0), (2, .getfield 81, [2, 5], 288), (5, .iconst 1, [], 0), (6, .iadd, [], 0), (7, .putfield 81, [2, 5], 288),
  (10, .aload_n 0, [], 0), (11, .getfield 81, [2, 5], 288), (14, .ifCond .lt 79, [45], 0), (17, .aload_n 0, [], 0), (18, .getfield 81, [2, 5], 288), (21, .aload_n 0, [], 0),
  (22, .getfield 12, [2, 0], 280), (25, .getfield 90, [9, 4], 212), (28, .if_icmp .ge 65, [45], 0), (31, .aload_n 0, [], 0), (32, .getfield 81, [2, 5], 288), (35, .aload_n 0, [], 0),
  (36, .getfield 12, [2, 0], 280), (39, .getfield 93, [9, 2], 208), (42, .arraylength, [], 0), (43, .if_icmp .ge 50, [45], 0), (46, .aload_n 0, [], 0), (47, .getfield 81, [2, 5], 288),
  (50, .aload_n 0, [], 0), (51, .getfield 12, [2, 0], 280), (54, .getfield 97, [9, 3], 210), (57, .arraylength, [], 0), (58, .if_icmp .ge 35, [45], 0), (61, .aload_n 0, [], 0),
  (62, .aload_n 0, [], 0), (63, .getfield 12, [2, 0], 280), (66, .getfield 93, [9, 2], 208), (69, .aload_n 0, [], 0), (70, .getfield 81, [2, 5], 288), (73, .iaload, [], 0),
  (74, .putfield 87, [2, 6], 289), (77, .aload_n 0, [], 0), (78, .aload_n 0, [], 0), (79, .getfield 12, [2, 0], 280), (82, .getfield 97, [9, 3], 210), (85, .aload_n 0, [], 0),
  (86, .getfield 81, [2, 5], 288), (89, .iaload, [], 0), (90, .putfield 100, [2, 7], 290), (93, .aload_n 0, [], 0), (94, .getfield 87, [2, 6], 289), (97, .sipush 10000, [], 0),
  (100, .isub, [], 0), (101, .istore_n 1, [], 0), (102, .aload_n 0, [], 0), (103, .iload_n 1, [], 0), (104, .ifCond .lt 19, [61], 0), (107, .iload_n 1, [], 0),
  (108, .getstatic 103, [0, 26], 614), (111, .arraylength, [], 0), (112, .if_icmp .ge 11, [61], 0), (115, .getstatic 103, [0, 26], 614), (118, .iload_n 1, [], 0), (119, .aaload, [], 0),
  (120, .goto 6, [62], 0), (123, .getstatic 34, [0, 25], 278), (126, .putfield 40, [2, 8], 291), (129, .return_, [], 0)]
def m_15 : MDt := (⟨"PenThatJumps$Parser", "next", "()V"⟩, prog_4_method_7_code, 2, none, 2, 2, P_15)
/-- PenThatJumps$Parser.wrong(I)V -/
def P_16 : List IR := [
  (0, .aload_n 0, [], 0), (1, .getfield 57, [2, 4], 287), (4, .ifCond .ne 16, [11], 0), (7, .aload_n 0, [], 0), (8, .iload_n 1, [], 0), (9, .bipush 16, [], 0),
  (11, .aload_n 0, [], 0), (12, .getfield 100, [2, 7], 290), (15, .imul, [], 0), (16, .iadd, [], 0), (17, .putfield 57, [2, 4], 287), (20, .return_, [], 0)]
def m_16 : MDt := (⟨"PenThatJumps$Parser", "wrong", "(I)V"⟩, prog_4_method_8_code, 2, none, 2, 2, P_16)
/-- PenThatJumps$Parser.takeQuestion()V -/
def P_17 : List IR := [
  (0, .aload_n 0, [], 0), (1, .getfield 21, [2, 1], 282), (4, .getfield 75, [4, 3], 239), (7, .bipush 12, [], 0), (9, .if_icmp .lt 18, [12], 0), (12, .aload_n 0, [], 0),
  (13, .getfield 40, [2, 8], 291), (16, .getstatic 107, [0, 20], 619), (19, .if_acmp .ne 8, [12], 0), (22, .aload_n 0, [], 0), (23, .iconst 5, [], 0), (24, .invokevirtual 110, [16, 2], 621),
  (27, .aload_n 0, [], 0), (28, .getstatic 107, [0, 20], 619), (31, .invokevirtual 113, [24, 2], 625), (34, .aload_n 0, [], 0), (35, .invokevirtual 117, [18, 1], 629), (38, .istore_n 1, [], 0),
  (39, .iload_n 1, [], 0), (40, .iconst 3, [], 0), (41, .if_icmp .ne 13, [26], 0), (44, .aload_n 0, [], 0), (45, .iconst 0, [], 0), (46, .bipush 8, [], 0),
  (48, .invokevirtual 120, [26, 3], 633), (51, .goto 4, [27], 0), (54, .iconst (-1), [], 0), (55, .istore_n 2, [], 0), (56, .iconst 1, [], 0), (57, .istore_n 3, [], 0),
  (58, .aload_n 0, [], 0), (59, .getfield 57, [2, 4], 287), (62, .ifCond .ne 25, [44], 0), (65, .aload_n 0, [], 0), (66, .getfield 40, [2, 8], 291), (69, .getstatic 124, [0, 21], 642),
  (72, .if_acmp .ne 15, [44], 0), (75, .aload_n 0, [], 0), (76, .invokevirtual 84, [15, 1], 610), (79, .aload_n 0, [], 0), (80, .iconst 1, [], 0), (81, .bipush 9, [], 0),
  (83, .invokevirtual 120, [26, 3], 633), (86, .istore_n 3, [], 0), (87, .aload_n 0, [], 0), (88, .bipush 59, [], 0), (90, .invokevirtual 127, [25, 2], 644), (93, .aload_n 0, [], 0),
  (94, .getfield 57, [2, 4], 287), (97, .ifCond .ne 13, [56], 0), (100, .aload_n 0, [], 0), (101, .getfield 21, [2, 1], 282), (104, .iload_n 1, [], 0), (105, .iload_n 2, [], 0),
  (106, .iload_n 3, [], 0), (107, .invokevirtual 131, [34, 4], 652), (110, .return_, [], 0)]
def m_17 : MDt := (⟨"PenThatJumps$Parser", "takeQuestion", "()V"⟩, prog_4_method_9_code, 4, none, 2, 2, P_17)
/-- PenThatJumps$Parser.takeKind()I -/
def P_18 : List IR := [
  (0, .aload_n 0, [], 0), (1, .getfield 40, [2, 8], 291), (4, .getfield 135, [40, 1], 1605), (7, .istore_n 1, [], 0), (8, .iload_n 1, [], 0), (9, .ifCond .lt 8, [9], 0),
  (12, .iload_n 1, [], 0), (13, .iconst 4, [], 0), (14, .if_icmp .lt 8, [12], 0), (17, .aload_n 0, [], 0), (18, .iconst 1, [], 0), (19, .invokevirtual 110, [16, 2], 621),
  (22, .aload_n 0, [], 0), (23, .getfield 57, [2, 4], 287), (26, .ifCond .eq 5, [17], 0), (29, .iconst (-1), [], 0), (30, .ireturn, [], 0), (31, .aload_n 0, [], 0),
  (32, .invokevirtual 84, [15, 1], 610), (35, .iload_n 1, [], 0), (36, .ireturn, [], 0)]
def m_18 : MDt := (⟨"PenThatJumps$Parser", "takeKind", "()I"⟩, prog_4_method_10_code, 2, some .int, 2, 2, P_18)
/-- PenThatJumps$Parser.takeBodyHead()I -/
def P_19 : List IR := [
  (0, .aload_n 0, [], 0), (1, .getstatic 138, [0, 22], 689), (4, .invokevirtual 113, [24, 2], 625), (7, .aload_n 0, [], 0), (8, .invokevirtual 141, [22, 1], 637), (11, .ifCond .eq 22, [15], 0),
  (14, .aload_n 0, [], 0), (15, .getfield 30, [2, 2], 284), (18, .aload_n 0, [], 0), (19, .getfield 87, [2, 6], 289), (22, .invokevirtual 144, [51, 2], 691), (25, .ifCond .eq 8, [15], 0),
  (28, .aload_n 0, [], 0), (29, .iconst 3, [], 0), (30, .invokevirtual 110, [16, 2], 621), (33, .aload_n 0, [], 0), (34, .iconst 0, [], 0), (35, .iconst 2, [], 0),
  (36, .invokevirtual 120, [26, 3], 633), (39, .istore_n 1, [], 0), (40, .aload_n 0, [], 0), (41, .bipush 61, [], 0), (43, .invokevirtual 127, [25, 2], 644), (46, .iload_n 1, [], 0),
  (47, .ireturn, [], 0)]
def m_19 : MDt := (⟨"PenThatJumps$Parser", "takeBodyHead", "()I"⟩, prog_4_method_11_code, 2, some .int, 2, 2, P_19)
/-- PenThatJumps$Parser.takeReaderHead()I -/
def P_20 : List IR := [
  (0, .aload_n 0, [], 0), (1, .getfield 30, [2, 2], 284), (4, .getfield 148, [6, 2], 260), (7, .bipush 6, [], 0), (9, .if_icmp .lt 18, [12], 0), (12, .aload_n 0, [], 0),
  (13, .getfield 40, [2, 8], 291), (16, .getstatic 151, [0, 23], 765), (19, .if_acmp .ne 8, [12], 0), (22, .aload_n 0, [], 0), (23, .iconst 5, [], 0), (24, .invokevirtual 110, [16, 2], 621),
  (27, .aload_n 0, [], 0), (28, .getstatic 151, [0, 23], 765), (31, .invokevirtual 113, [24, 2], 625), (34, .aload_n 0, [], 0), (35, .getstatic 154, [0, 24], 767), (38, .invokevirtual 113, [24, 2], 625),
  (41, .aload_n 0, [], 0), (42, .getfield 30, [2, 2], 284), (45, .getfield 148, [6, 2], 260), (48, .ireturn, [], 0)]
def m_20 : MDt := (⟨"PenThatJumps$Parser", "takeReaderHead", "()I"⟩, prog_4_method_12_code, 1, some .int, 2, 2, P_20)
/-- PenThatJumps$Parser.takeLaw(I)V -/
def P_21 : List IR := [
  (0, .aload_n 0, [], 0), (1, .getfield 30, [2, 2], 284), (4, .iload_n 1, [], 0), (5, .invokevirtual 157, [49, 2], 699), (8, .aload_n 0, [], 0), (9, .iconst 0, [], 0),
  (10, .iconst 0, [], 0), (11, .invokevirtual 160, [27, 3], 703), (14, .aload_n 0, [], 0), (15, .getfield 30, [2, 2], 284), (18, .iload_n 1, [], 0), (19, .invokevirtual 164, [50, 2], 729),
  (22, .aload_n 0, [], 0), (23, .bipush 59, [], 0), (25, .invokevirtual 127, [25, 2], 644), (28, .return_, [], 0)]
def m_21 : MDt := (⟨"PenThatJumps$Parser", "takeLaw", "(I)V"⟩, prog_4_method_13_code, 2, none, 2, 2, P_21)
/-- PenThatJumps$Parser.isNumber()Z -/
def P_22 : List IR := [
  (0, .aload_n 0, [], 0), (1, .getfield 87, [2, 6], 289), (4, .ifCond .lt 17, [9], 0), (7, .aload_n 0, [], 0), (8, .getfield 87, [2, 6], 289), (11, .sipush 10000, [], 0),
  (14, .if_icmp .ge 7, [9], 0), (17, .iconst 1, [], 0), (18, .goto 4, [10], 0), (21, .iconst 0, [], 0), (22, .ireturn, [], 0)]
def m_22 : MDt := (⟨"PenThatJumps$Parser", "isNumber", "()Z"⟩, prog_4_method_14_code, 1, some .boolean, 2, 2, P_22)
/-- PenThatJumps$Parser.isSign(C)Z -/
def P_23 : List IR := [
  (0, .aload_n 0, [], 0), (1, .getfield 87, [2, 6], 289), (4, .sipush 11000, [], 0), (7, .iload_n 1, [], 0), (8, .iadd, [], 0), (9, .if_icmp .ne 7, [8], 0),
  (12, .iconst 1, [], 0), (13, .goto 4, [9], 0), (16, .iconst 0, [], 0), (17, .ireturn, [], 0)]
def m_23 : MDt := (⟨"PenThatJumps$Parser", "isSign", "(C)Z"⟩, prog_4_method_15_code, 2, some .boolean, 2, 2, P_23)
/-- PenThatJumps$Parser.takeWord(LPenThatJumps$Word;)V -/
def P_24 : List IR := [
  (0, .aload_n 0, [], 0), (1, .getfield 40, [2, 8], 291), (4, .aload_n 1, [], 0), (5, .if_acmp .eq 8, [7], 0), (8, .aload_n 0, [], 0), (9, .iconst 1, [], 0),
  (10, .invokevirtual 110, [16, 2], 621), (13, .aload_n 0, [], 0), (14, .getfield 57, [2, 4], 287), (17, .ifCond .ne 7, [12], 0), (20, .aload_n 0, [], 0), (21, .invokevirtual 84, [15, 1], 610),
  (24, .return_, [], 0)]
def m_24 : MDt := (⟨"PenThatJumps$Parser", "takeWord", "(LPenThatJumps$Word;)V"⟩, prog_4_method_16_code, 2, none, 2, 2, P_24)
/-- PenThatJumps$Parser.takeSign(C)V -/
def P_25 : List IR := [
  (0, .aload_n 0, [], 0), (1, .iload_n 1, [], 0), (2, .invokevirtual 167, [23, 2], 648), (5, .ifCond .ne 8, [7], 0), (8, .aload_n 0, [], 0), (9, .iconst 1, [], 0),
  (10, .invokevirtual 110, [16, 2], 621), (13, .aload_n 0, [], 0), (14, .getfield 57, [2, 4], 287), (17, .ifCond .ne 7, [12], 0), (20, .aload_n 0, [], 0), (21, .invokevirtual 84, [15, 1], 610),
  (24, .return_, [], 0)]
def m_25 : MDt := (⟨"PenThatJumps$Parser", "takeSign", "(C)V"⟩, prog_4_method_17_code, 2, none, 2, 2, P_25)
/-- PenThatJumps$Parser.takeNumber(II)I -/
def P_26 : List IR := [
  (0, .aload_n 0, [], 0), (1, .getfield 87, [2, 6], 289), (4, .istore_n 3, [], 0), (5, .aload_n 0, [], 0), (6, .invokevirtual 141, [22, 1], 637), (9, .ifCond .ne 11, [10], 0),
  (12, .aload_n 0, [], 0), (13, .iconst 1, [], 0), (14, .invokevirtual 110, [16, 2], 621), (17, .goto 17, [18], 0), (20, .iload_n 3, [], 0), (21, .iload_n 1, [], 0),
  (22, .iload_n 2, [], 0), (23, .invokestatic 171, [108, 3], 641), (26, .ifCond .ne 8, [18], 0), (29, .aload_n 0, [], 0), (30, .iconst 4, [], 0), (31, .invokevirtual 110, [16, 2], 621),
  (34, .aload_n 0, [], 0), (35, .getfield 57, [2, 4], 287), (38, .ifCond .eq 5, [23], 0), (41, .iload_n 1, [], 0), (42, .ireturn, [], 0), (43, .aload_n 0, [], 0),
  (44, .invokevirtual 84, [15, 1], 610), (47, .iload_n 3, [], 0), (48, .ireturn, [], 0)]
def m_26 : MDt := (⟨"PenThatJumps$Parser", "takeNumber", "(II)I"⟩, prog_4_method_18_code, 4, some .int, 2, 2, P_26)
/-- PenThatJumps$Parser.chain(II)V -/
def P_27 : List IR := [
  (0, .iload_n 1, [], 0), (1, .iconst 4, [], 0), (2, .if_icmp .lt 9, [7], 0), (5, .aload_n 0, [], 0), (6, .iload_n 2, [], 0), (7, .invokevirtual 175, [29, 2], 707),
  (10, .return_, [], 0), (11, .aload_n 0, [], 0), (12, .iload_n 1, [], 0), (13, .iconst 1, [], 0), (14, .iadd, [], 0), (15, .iload_n 2, [], 0),
  (16, .invokevirtual 160, [27, 3], 703), (19, .iload_n 1, [], 0), (20, .iconst 1, [], 0), (21, .if_icmp .ne 7, [18], 0), (24, .iconst 1, [], 0), (25, .goto 6, [19], 0),
  (28, .sipush 1000, [], 0), (31, .istore_n 3, [], 0), (32, .iconst 0, [], 0), (33, .istore 4, [], 0), (35, .iload 4, [], 0), (37, .iload_n 3, [], 0),
  (38, .if_icmp .ge 50, [49], 0), (41, .aload_n 0, [], 0), (42, .getfield 57, [2, 4], 287), (45, .ifCond .ne 43, [49], 0), (48, .aload_n 0, [], 0), (49, .iload_n 1, [], 0),
  (50, .invokevirtual 178, [28, 2], 721), (53, .istore 5, [], 0), (55, .iload 5, [], 0), (57, .ifCond .ne 4, [35], 0), (60, .return_, [], 0), (61, .aload_n 0, [], 0),
  (62, .invokevirtual 84, [15, 1], 610), (65, .aload_n 0, [], 0), (66, .iload_n 1, [], 0), (67, .iconst 1, [], 0), (68, .iadd, [], 0), (69, .iload_n 2, [], 0),
  (70, .invokevirtual 160, [27, 3], 703), (73, .aload_n 0, [], 0), (74, .getfield 30, [2, 2], 284), (77, .iload 5, [], 0), (79, .invokevirtual 182, [48, 2], 713), (82, .iinc 4 1, [], 0),
  (85, .goto (-50), [22], 0), (88, .return_, [], 0)]
def m_27 : MDt := (⟨"PenThatJumps$Parser", "chain", "(II)V"⟩, prog_4_method_19_code, 6, none, 2, 2, P_27)
/-- PenThatJumps$Parser.jointAt(I)I -/
def P_28 : List IR := [
  (0, .iload_n 1, [], 0), (1, .ifCond .ne 35, [16], 0), (4, .aload_n 0, [], 0), (5, .getfield 40, [2, 8], 291), (8, .getstatic 184, [0, 18], 725), (11, .if_acmp .ne 8, [8], 0),
  (14, .bipush (-2), [], 0), (16, .goto 19, [15], 0), (19, .aload_n 0, [], 0), (20, .getfield 40, [2, 8], 291), (23, .getstatic 187, [0, 19], 727), (26, .if_acmp .ne 8, [14], 0),
  (29, .bipush (-3), [], 0), (31, .goto 4, [15], 0), (34, .iconst 0, [], 0), (35, .ireturn, [], 0), (36, .iload_n 1, [], 0), (37, .iconst 1, [], 0),
  (38, .if_icmp .ne 33, [33], 0), (41, .aload_n 0, [], 0), (42, .bipush 60, [], 0), (44, .invokevirtual 167, [23, 2], 648), (47, .ifCond .eq 8, [25], 0), (50, .bipush (-4), [], 0),
  (52, .goto 18, [32], 0), (55, .aload_n 0, [], 0), (56, .bipush 61, [], 0), (58, .invokevirtual 167, [23, 2], 648), (61, .ifCond .eq 8, [31], 0), (64, .bipush (-5), [], 0),
  (66, .goto 4, [32], 0), (69, .iconst 0, [], 0), (70, .ireturn, [], 0), (71, .iload_n 1, [], 0), (72, .iconst 2, [], 0), (73, .if_icmp .ne 33, [50], 0),
  (76, .aload_n 0, [], 0), (77, .bipush 43, [], 0), (79, .invokevirtual 167, [23, 2], 648), (82, .ifCond .eq 8, [42], 0), (85, .bipush (-6), [], 0), (87, .goto 18, [49], 0),
  (90, .aload_n 0, [], 0), (91, .bipush 45, [], 0), (93, .invokevirtual 167, [23, 2], 648), (96, .ifCond .eq 8, [48], 0), (99, .bipush (-7), [], 0), (101, .goto 4, [49], 0),
  (104, .iconst 0, [], 0), (105, .ireturn, [], 0), (106, .aload_n 0, [], 0), (107, .bipush 42, [], 0), (109, .invokevirtual 167, [23, 2], 648), (112, .ifCond .eq 8, [56], 0),
  (115, .bipush (-8), [], 0), (117, .goto 4, [57], 0), (120, .iconst 0, [], 0), (121, .ireturn, [], 0)]
def m_28 : MDt := (⟨"PenThatJumps$Parser", "jointAt", "(I)I"⟩, prog_4_method_20_code, 2, some .int, 2, 2, P_28)
/-- PenThatJumps$Parser.takePart(I)V -/
def P_29 : List IR := [
  (0, .aload_n 0, [], 0), (1, .getfield 71, [2, 3], 286), (4, .ifCond .eq 13, [7], 0), (7, .aload_n 0, [], 0), (8, .getfield 40, [2, 8], 291), (11, .getfield 190, [40, 2], 1606),
  (14, .goto 10, [10], 0), (17, .aload_n 0, [], 0), (18, .getfield 40, [2, 8], 291), (21, .getfield 135, [40, 1], 1605), (24, .istore_n 2, [], 0), (25, .aload_n 0, [], 0),
  (26, .invokevirtual 141, [22, 1], 637), (29, .ifCond .ne 35, [29], 0), (32, .aload_n 0, [], 0), (33, .bipush 40, [], 0), (35, .invokevirtual 167, [23, 2], 648), (38, .ifCond .ne 26, [29], 0),
  (41, .aload_n 0, [], 0), (42, .getfield 40, [2, 8], 291), (45, .getstatic 193, [0, 17], 711), (48, .if_acmp .eq 16, [29], 0), (51, .iload_n 2, [], 0), (52, .iconst (-1), [], 0),
  (53, .if_icmp .ne 11, [29], 0), (56, .aload_n 0, [], 0), (57, .iconst 1, [], 0), (58, .invokevirtual 110, [16, 2], 621), (61, .goto 13, [35], 0), (64, .iload_n 1, [], 0),
  (65, .iconst 5, [], 0), (66, .if_icmp .lt 8, [35], 0), (69, .aload_n 0, [], 0), (70, .iconst 5, [], 0), (71, .invokevirtual 110, [16, 2], 621), (74, .aload_n 0, [], 0),
  (75, .getfield 57, [2, 4], 287), (78, .ifCond .eq 4, [39], 0), (81, .return_, [], 0), (82, .aload_n 0, [], 0), (83, .getfield 87, [2, 6], 289), (86, .istore_n 3, [], 0),
  (87, .aload_n 0, [], 0), (88, .invokevirtual 141, [22, 1], 637), (91, .istore 4, [], 0), (93, .aload_n 0, [], 0), (94, .bipush 40, [], 0), (96, .invokevirtual 167, [23, 2], 648),
  (99, .istore 5, [], 0), (101, .aload_n 0, [], 0), (102, .invokevirtual 84, [15, 1], 610), (105, .iload 4, [], 0), (107, .ifCond .eq 14, [58], 0), (110, .aload_n 0, [], 0),
  (111, .getfield 30, [2, 2], 284), (114, .iload_n 3, [], 0), (115, .invokevirtual 182, [48, 2], 713), (118, .goto 53, [86], 0), (121, .iload 5, [], 0), (123, .ifCond .eq 20, [70], 0),
  (126, .aload_n 0, [], 0), (127, .iconst 0, [], 0), (128, .iload_n 1, [], 0), (129, .iconst 1, [], 0), (130, .iadd, [], 0), (131, .invokevirtual 160, [27, 3], 703),
  (134, .aload_n 0, [], 0), (135, .bipush 41, [], 0), (137, .invokevirtual 127, [25, 2], 644), (140, .goto 31, [86], 0), (143, .iload_n 2, [], 0), (144, .iconst (-1), [], 0),
  (145, .if_icmp .ne 21, [83], 0), (148, .aload_n 0, [], 0), (149, .iload_n 1, [], 0), (150, .iconst 1, [], 0), (151, .iadd, [], 0), (152, .invokevirtual 175, [29, 2], 707),
  (155, .aload_n 0, [], 0), (156, .getfield 30, [2, 2], 284), (159, .iconst (-1), [], 0), (160, .invokevirtual 182, [48, 2], 713), (163, .goto 8, [86], 0), (166, .aload_n 0, [], 0),
  (167, .iload_n 2, [], 0), (168, .invokevirtual 196, [30, 2], 717), (171, .return_, [], 0)]
def m_29 : MDt := (⟨"PenThatJumps$Parser", "takePart", "(I)V"⟩, prog_4_method_21_code, 6, none, 2, 2, P_29)
/-- PenThatJumps$Parser.takeLineOfFact(I)V -/
def P_30 : List IR := [
  (0, .aload_n 0, [], 0), (1, .getfield 71, [2, 3], 286), (4, .ifCond .eq 18, [11], 0), (7, .iload_n 1, [], 0), (8, .bipush 18, [], 0), (10, .if_icmp .ge 12, [11], 0),
  (13, .aload_n 0, [], 0), (14, .iconst 0, [], 0), (15, .iconst 2, [], 0), (16, .invokevirtual 120, [26, 3], 633), (19, .goto 4, [12], 0), (22, .iconst 0, [], 0),
  (23, .istore_n 2, [], 0), (24, .aload_n 0, [], 0), (25, .getfield 30, [2, 2], 284), (28, .sipush 10000, [], 0), (31, .iload_n 1, [], 0), (32, .iadd, [], 0),
  (33, .iload_n 2, [], 0), (34, .iadd, [], 0), (35, .invokevirtual 182, [48, 2], 713), (38, .return_, [], 0)]
def m_30 : MDt := (⟨"PenThatJumps$Parser", "takeLineOfFact", "(I)V"⟩, prog_4_method_22_code, 3, none, 2, 2, P_30)
/-- PenThatJumps$Person.<init>()V -/
def P_31 : List IR := [
  (0, .aload_n 0, [], 0), (1, .invokespecial 1, [301, 1], 393), (4, .return_, [], 0)]
def m_31 : MDt := (⟨"PenThatJumps$Person", "<init>", "()V"⟩, prog_5_method_1_code, 1, none, 3, 3, P_31)
/-- PenThatJumps$Person.tell(IZIZ)V -/
def P_32 : List IR := [
  (0, .aload_n 0, [], 0), (1, .iconst 1, [], 0), (2, .putfield 7, [3, 0], 394), (5, .aload_n 0, [], 0), (6, .iload_n 1, [], 0), (7, .putfield 13, [3, 1], 396),
  (10, .aload_n 0, [], 0), (11, .iload_n 2, [], 0), (12, .putfield 17, [3, 2], 399), (15, .aload_n 0, [], 0), (16, .iload_n 3, [], 0), (17, .putfield 20, [3, 3], 402),
  (20, .aload_n 0, [], 0), (21, .iload 4, [], 0), (23, .putfield 23, [3, 4], 405), (26, .return_, [], 0)]
def m_32 : MDt := (⟨"PenThatJumps$Person", "tell", "(IZIZ)V"⟩, prog_5_method_2_code, 5, none, 3, 3, P_32)
/-- PenThatJumps$Plan.<init>()V -/
def P_33 : List IR := [
  (0, .aload_n 0, [], 0), (1, .invokespecial 3, [301, 1], 230), (4, .aload_n 0, [], 0), (5, .bipush 12, [], 0), (7, .newarray .int, [20], 0), (9, .putfield 9, [4, 0], 231),
  (12, .aload_n 0, [], 0), (13, .bipush 12, [], 0), (15, .newarray .int, [20], 0), (17, .putfield 15, [4, 1], 232), (20, .aload_n 0, [], 0), (21, .bipush 12, [], 0),
  (23, .newarray .int, [20], 0), (25, .putfield 18, [4, 2], 233), (28, .return_, [], 0)]
def m_33 : MDt := (⟨"PenThatJumps$Plan", "<init>", "()V"⟩, prog_6_method_1_code, 1, none, 4, 4, P_33)
/-- PenThatJumps$Plan.add(III)V -/
def P_34 : List IR := [
  (0, .aload_n 0, [], 0), (1, .getfield 21, [4, 3], 234), (4, .ifCond .lt 39, [21], 0), (7, .aload_n 0, [], 0), (8, .getfield 21, [4, 3], 234), (11, .aload_n 0, [], 0),
  (12, .getfield 9, [4, 0], 231), (15, .arraylength, [], 0), (16, .if_icmp .ge 27, [21], 0), (19, .aload_n 0, [], 0), (20, .getfield 21, [4, 3], 234), (23, .aload_n 0, [], 0),
  (24, .getfield 15, [4, 1], 232), (27, .arraylength, [], 0), (28, .if_icmp .ge 15, [21], 0), (31, .aload_n 0, [], 0), (32, .getfield 21, [4, 3], 234), (35, .aload_n 0, [], 0),
  (36, .getfield 18, [4, 2], 233), (39, .arraylength, [], 0), (40, .if_icmp .lt 4, [22], 0), (43, .return_, [], 0), (44, .aload_n 0, [], 0), (45, .getfield 9, [4, 0], 231),
  (48, .aload_n 0, [], 0), (49, .getfield 21, [4, 3], 234), (52, .iload_n 1, [], 0), (53, .iastore, [], 0), (54, .aload_n 0, [], 0), (55, .getfield 15, [4, 1], 232),
  (58, .aload_n 0, [], 0), (59, .getfield 21, [4, 3], 234), (62, .iload_n 2, [], 0), (63, .iastore, [], 0), (64, .aload_n 0, [], 0), (65, .getfield 18, [4, 2], 233),
  (68, .aload_n 0, [], 0), (69, .getfield 21, [4, 3], 234), (72, .iload_n 3, [], 0), (73, .iastore, [], 0), (74, .aload_n 0, [], 0), (75, .dup, [], 0),
  (76, .getfield 21, [4, 3], 234), (79, .iconst 1, [], 0), (80, .iadd, [], 0), (81, .putfield 21, [4, 3], 234), (84, .return_, [], 0)]
def m_34 : MDt := (⟨"PenThatJumps$Plan", "add", "(III)V"⟩, prog_6_method_2_code, 4, none, 4, 4, P_34)
/-- PenThatJumps$Plan.become(LPenThatJumps$Plan;)V -/
def P_35 : List IR := [
  (0, .aload_n 0, [], 0), (1, .iconst 0, [], 0), (2, .putfield 21, [4, 3], 234), (5, .iconst 0, [], 0), (6, .istore_n 2, [], 0), (7, .iload_n 2, [], 0),
  (8, .aload_n 1, [], 0), (9, .getfield 21, [4, 3], 234), (12, .if_icmp .ge 28, [22], 0), (15, .aload_n 0, [], 0), (16, .aload_n 1, [], 0), (17, .iload_n 2, [], 0),
  (18, .invokevirtual 25, [36, 2], 664), (21, .aload_n 1, [], 0), (22, .iload_n 2, [], 0), (23, .invokevirtual 29, [37, 2], 668), (26, .aload_n 1, [], 0), (27, .iload_n 2, [], 0),
  (28, .invokevirtual 32, [38, 2], 672), (31, .invokevirtual 35, [34, 4], 676), (34, .iinc 2 1, [], 0), (37, .goto (-30), [5], 0), (40, .return_, [], 0)]
def m_35 : MDt := (⟨"PenThatJumps$Plan", "become", "(LPenThatJumps$Plan;)V"⟩, prog_6_method_3_code, 3, none, 4, 4, P_35)
/-- PenThatJumps$Plan.kindAt(I)I -/
def P_36 : List IR := [
  (0, .iload_n 1, [], 0), (1, .ifCond .lt 29, [16], 0), (4, .iload_n 1, [], 0), (5, .aload_n 0, [], 0), (6, .getfield 21, [4, 3], 234), (9, .if_icmp .ge 21, [16], 0),
  (12, .iload_n 1, [], 0), (13, .aload_n 0, [], 0), (14, .getfield 9, [4, 0], 231), (17, .arraylength, [], 0), (18, .if_icmp .ge 12, [16], 0), (21, .aload_n 0, [], 0),
  (22, .getfield 9, [4, 0], 231), (25, .iload_n 1, [], 0), (26, .iaload, [], 0), (27, .goto 4, [17], 0), (30, .iconst (-1), [], 0), (31, .ireturn, [], 0)]
def m_36 : MDt := (⟨"PenThatJumps$Plan", "kindAt", "(I)I"⟩, prog_6_method_4_code, 2, some .int, 4, 4, P_36)
/-- PenThatJumps$Plan.itemAt(I)I -/
def P_37 : List IR := [
  (0, .iload_n 1, [], 0), (1, .ifCond .lt 29, [16], 0), (4, .iload_n 1, [], 0), (5, .aload_n 0, [], 0), (6, .getfield 21, [4, 3], 234), (9, .if_icmp .ge 21, [16], 0),
  (12, .iload_n 1, [], 0), (13, .aload_n 0, [], 0), (14, .getfield 15, [4, 1], 232), (17, .arraylength, [], 0), (18, .if_icmp .ge 12, [16], 0), (21, .aload_n 0, [], 0),
  (22, .getfield 15, [4, 1], 232), (25, .iload_n 1, [], 0), (26, .iaload, [], 0), (27, .goto 4, [17], 0), (30, .iconst (-1), [], 0), (31, .ireturn, [], 0)]
def m_37 : MDt := (⟨"PenThatJumps$Plan", "itemAt", "(I)I"⟩, prog_6_method_5_code, 2, some .int, 4, 4, P_37)
/-- PenThatJumps$Plan.minutesAt(I)I -/
def P_38 : List IR := [
  (0, .iload_n 1, [], 0), (1, .ifCond .lt 29, [16], 0), (4, .iload_n 1, [], 0), (5, .aload_n 0, [], 0), (6, .getfield 21, [4, 3], 234), (9, .if_icmp .ge 21, [16], 0),
  (12, .iload_n 1, [], 0), (13, .aload_n 0, [], 0), (14, .getfield 18, [4, 2], 233), (17, .arraylength, [], 0), (18, .if_icmp .ge 12, [16], 0), (21, .aload_n 0, [], 0),
  (22, .getfield 18, [4, 2], 233), (25, .iload_n 1, [], 0), (26, .iaload, [], 0), (27, .goto 4, [17], 0), (30, .iconst (-1), [], 0), (31, .ireturn, [], 0)]
def m_38 : MDt := (⟨"PenThatJumps$Plan", "minutesAt", "(I)I"⟩, prog_6_method_6_code, 2, some .int, 4, 4, P_38)
/-- PenThatJumps$Plan.ahead(I)I -/
def P_39 : List IR := [
  (0, .aload_n 0, [], 0), (1, .iload_n 1, [], 0), (2, .invokevirtual 25, [36, 2], 664), (5, .istore_n 2, [], 0), (6, .iconst 0, [], 0), (7, .istore_n 3, [], 0),
  (8, .iconst 0, [], 0), (9, .istore 4, [], 0), (11, .iload 4, [], 0), (13, .iload_n 1, [], 0), (14, .if_icmp .ge 31, [23], 0), (17, .iload 4, [], 0),
  (19, .aload_n 0, [], 0), (20, .getfield 21, [4, 3], 234), (23, .if_icmp .ge 22, [23], 0), (26, .aload_n 0, [], 0), (27, .iload 4, [], 0), (29, .invokevirtual 25, [36, 2], 664),
  (32, .iload_n 2, [], 0), (33, .if_icmp .ne 6, [21], 0), (36, .iinc 3 1, [], 0), (39, .iinc 4 1, [], 0), (42, .goto (-31), [8], 0), (45, .iload_n 3, [], 0),
  (46, .ireturn, [], 0)]
def m_39 : MDt := (⟨"PenThatJumps$Plan", "ahead", "(I)I"⟩, prog_6_method_7_code, 5, some .int, 4, 4, P_39)
/-- PenThatJumps$Planner.<init>()V -/
def P_40 : List IR := [
  (0, .aload_n 0, [], 0), (1, .invokespecial 3, [301, 1], 349), (4, .aload_n 0, [], 0), (5, .sipush 1728, [], 0), (8, .newarray .int, [20], 0), (10, .putfield 9, [5, 0], 350),
  (13, .aload_n 0, [], 0), (14, .iconst 4, [], 0), (15, .newarray .int, [20], 0), (17, .putfield 15, [5, 1], 351), (20, .return_, [], 0)]
def m_40 : MDt := (⟨"PenThatJumps$Planner", "<init>", "()V"⟩, prog_7_method_1_code, 1, none, 5, 5, P_40)
/-- PenThatJumps$Planner.cell(III)I -/
def P_41 : List IR := [
  (0, .iload_n 0, [], 0), (1, .bipush 12, [], 0), (3, .imul, [], 0), (4, .iload_n 1, [], 0), (5, .iadd, [], 0), (6, .bipush 12, [], 0),
  (8, .imul, [], 0), (9, .iload_n 2, [], 0), (10, .iadd, [], 0), (11, .ireturn, [], 0)]
def m_41 : MDt := (⟨"PenThatJumps$Planner", "cell", "(III)I"⟩, prog_7_method_2_code, 3, some .int, 5, 99, P_41)
/-- PenThatJumps$Planner.weigh(LPenThatJumps$Chair;LPenThatJumps$Plan;LPenThatJumps$Person;LPenThatJumps$Person;)V -/
def P_42 : List IR := [
  (0, .iconst 0, [], 0), (1, .istore 5, [], 0), (3, .iload 5, [], 0), (5, .aload_n 2, [], 0), (6, .getfield 18, [4, 3], 237), (9, .if_icmp .ge 103, [53], 0),
  (12, .aload_n 2, [], 0), (13, .iload 5, [], 0), (15, .invokevirtual 24, [39, 2], 927), (18, .istore 6, [], 0), (20, .iconst 0, [], 0), (21, .istore 7, [], 0),
  (23, .iload 7, [], 0), (25, .iload 5, [], 0), (27, .if_icmp .gt 79, [51], 0), (30, .iconst 0, [], 0), (31, .istore 8, [], 0), (33, .iload 8, [], 0),
  (35, .iload 6, [], 0), (37, .if_icmp .gt 63, [49], 0), (40, .iload 8, [], 0), (42, .iload 7, [], 0), (44, .if_icmp .gt 56, [49], 0), (47, .iload 5, [], 0),
  (49, .iload 7, [], 0), (51, .iload 8, [], 0), (53, .invokestatic 28, [41, 3], 928), (56, .istore 9, [], 0), (58, .iload 9, [], 0), (60, .ifCond .lt 34, [47], 0),
  (63, .iload 9, [], 0), (65, .aload_n 0, [], 0), (66, .getfield 9, [5, 0], 350), (69, .arraylength, [], 0), (70, .if_icmp .ge 24, [47], 0), (73, .aload_n 0, [], 0),
  (74, .getfield 9, [5, 0], 350), (77, .iload 9, [], 0), (79, .aload_n 1, [], 0), (80, .aload_n 3, [], 0), (81, .aload 4, [], 0), (83, .aload_n 2, [], 0),
  (84, .iload 5, [], 0), (86, .iload 8, [], 0), (88, .iload 7, [], 0), (90, .invokevirtual 32, [2, 7], 931), (93, .iastore, [], 0), (94, .iinc 8 1, [], 0),
  (97, .goto (-64), [17], 0), (100, .iinc 7 1, [], 0), (103, .goto (-80), [12], 0), (106, .iinc 5 1, [], 0), (109, .goto (-106), [2], 0), (112, .return_, [], 0)]
def m_42 : MDt := (⟨"PenThatJumps$Planner", "weigh", "(LPenThatJumps$Chair;LPenThatJumps$Plan;LPenThatJumps$Person;LPenThatJumps$Person;)V"⟩, prog_7_method_3_code, 10, none, 5, 5, P_42)
/-- PenThatJumps$Planner.choose(LPenThatJumps$Plan;I)V -/
def P_43 : List IR := [
  (0, .aload_n 0, [], 0), (1, .iconst 0, [], 0), (2, .putfield 38, [5, 2], 352), (5, .aload_n 0, [], 0), (6, .iconst 0, [], 0), (7, .putfield 41, [5, 3], 354),
  (10, .aload_n 0, [], 0), (11, .iconst 0, [], 0), (12, .putfield 44, [5, 4], 356), (15, .iconst 1, [], 0), (16, .aload_n 1, [], 0), (17, .getfield 18, [4, 3], 237),
  (20, .ishl, [], 0), (21, .istore_n 3, [], 0), (22, .iconst 1, [], 0), (23, .istore 4, [], 0), (25, .iload 4, [], 0), (27, .iload_n 3, [], 0),
  (28, .if_icmp .ge 59, [46], 0), (31, .aload_n 1, [], 0), (32, .iload 4, [], 0), (34, .invokestatic 47, [44, 2], 942), (37, .istore 5, [], 0), (39, .iload 5, [], 0),
  (41, .iload_n 2, [], 0), (42, .if_icmp .gt 39, [44], 0), (45, .aload_n 0, [], 0), (46, .aload_n 1, [], 0), (47, .iload 4, [], 0), (49, .invokevirtual 51, [45, 3], 946),
  (52, .istore 6, [], 0), (54, .iload 6, [], 0), (56, .aload_n 0, [], 0), (57, .getfield 38, [5, 2], 352), (60, .if_icmp .le 21, [44], 0), (63, .aload_n 0, [], 0),
  (64, .iload 6, [], 0), (66, .putfield 38, [5, 2], 352), (69, .aload_n 0, [], 0), (70, .iload 4, [], 0), (72, .putfield 41, [5, 3], 354), (75, .aload_n 0, [], 0),
  (76, .iload 5, [], 0), (78, .putfield 44, [5, 4], 356), (81, .iinc 4 1, [], 0), (84, .goto (-59), [16], 0), (87, .return_, [], 0)]
def m_43 : MDt := (⟨"PenThatJumps$Planner", "choose", "(LPenThatJumps$Plan;I)V"⟩, prog_7_method_4_code, 7, none, 5, 5, P_43)
/-- PenThatJumps$Planner.spanOf(LPenThatJumps$Plan;I)I -/
def P_44 : List IR := [
  (0, .iconst 0, [], 0), (1, .istore_n 2, [], 0), (2, .iconst 0, [], 0), (3, .istore_n 3, [], 0), (4, .iload_n 3, [], 0), (5, .aload_n 0, [], 0),
  (6, .getfield 18, [4, 3], 237), (9, .if_icmp .ge 26, [23], 0), (12, .iload_n 1, [], 0), (13, .iload_n 3, [], 0), (14, .ishr, [], 0), (15, .iconst 1, [], 0),
  (16, .iand, [], 0), (17, .iconst 1, [], 0), (18, .if_icmp .ne 11, [21], 0), (21, .iload_n 2, [], 0), (22, .aload_n 0, [], 0), (23, .iload_n 3, [], 0),
  (24, .invokevirtual 54, [38, 2], 945), (27, .iadd, [], 0), (28, .istore_n 2, [], 0), (29, .iinc 3 1, [], 0), (32, .goto (-28), [4], 0), (35, .iload_n 2, [], 0),
  (36, .ireturn, [], 0)]
def m_44 : MDt := (⟨"PenThatJumps$Planner", "spanOf", "(LPenThatJumps$Plan;I)I"⟩, prog_7_method_5_code, 4, some .int, 5, 99, P_44)
/-- PenThatJumps$Planner.powerOf(LPenThatJumps$Plan;I)I -/
def P_45 : List IR := [
  (0, .aload_n 0, [], 0), (1, .getfield 15, [5, 1], 351), (4, .iconst 0, [], 0), (5, .invokestatic 57, [207, 2], 950), (8, .iconst 0, [], 0), (9, .istore_n 3, [], 0),
  (10, .iconst 0, [], 0), (11, .istore 4, [], 0), (13, .iconst 0, [], 0), (14, .istore 5, [], 0), (16, .iload 5, [], 0), (18, .aload_n 1, [], 0),
  (19, .getfield 18, [4, 3], 237), (22, .if_icmp .ge 102, [67], 0), (25, .aload_n 1, [], 0), (26, .iload 5, [], 0), (28, .invokevirtual 63, [36, 2], 951), (31, .istore 6, [], 0),
  (33, .iload_n 2, [], 0), (34, .iload 5, [], 0), (36, .ishr, [], 0), (37, .iconst 1, [], 0), (38, .iand, [], 0), (39, .iconst 1, [], 0),
  (40, .if_icmp .ne 78, [65], 0), (43, .iload 6, [], 0), (45, .ifCond .lt 73, [65], 0), (48, .iload 6, [], 0), (50, .aload_n 0, [], 0), (51, .getfield 15, [5, 1], 351),
  (54, .arraylength, [], 0), (55, .if_icmp .ge 63, [65], 0), (58, .iload 5, [], 0), (60, .iload_n 3, [], 0), (61, .aload_n 0, [], 0), (62, .getfield 15, [5, 1], 351),
  (65, .iload 6, [], 0), (67, .iaload, [], 0), (68, .invokestatic 28, [41, 3], 928), (71, .istore 7, [], 0), (73, .iload 4, [], 0), (75, .iload 7, [], 0),
  (77, .ifCond .lt 23, [53], 0), (80, .iload 7, [], 0), (82, .aload_n 0, [], 0), (83, .getfield 9, [5, 0], 350), (86, .arraylength, [], 0), (87, .if_icmp .ge 13, [53], 0),
  (90, .aload_n 0, [], 0), (91, .getfield 9, [5, 0], 350), (94, .iload 7, [], 0), (96, .iaload, [], 0), (97, .goto 4, [54], 0), (100, .iconst 0, [], 0),
  (101, .iadd, [], 0), (102, .istore 4, [], 0), (104, .aload_n 0, [], 0), (105, .getfield 15, [5, 1], 351), (108, .iload 6, [], 0), (110, .dup2, [], 0),
  (111, .iaload, [], 0), (112, .iconst 1, [], 0), (113, .iadd, [], 0), (114, .iastore, [], 0), (115, .iinc 3 1, [], 0), (118, .iinc 5 1, [], 0),
  (121, .goto (-105), [10], 0), (124, .iload 4, [], 0), (126, .ireturn, [], 0)]
def m_45 : MDt := (⟨"PenThatJumps$Planner", "powerOf", "(LPenThatJumps$Plan;I)I"⟩, prog_7_method_6_code, 8, some .int, 5, 5, P_45)
/-- PenThatJumps$Program.<init>(I)V -/
def P_46 : List IR := [
  (0, .aload_n 0, [], 0), (1, .invokespecial 1, [301, 1], 255), (4, .aload_n 0, [], 0), (5, .bipush 6, [], 0), (7, .newarray .int, [20], 0), (9, .putfield 9, [6, 3], 262),
  (12, .aload_n 0, [], 0), (13, .bipush 6, [], 0), (15, .newarray .int, [20], 0), (17, .putfield 13, [6, 4], 263), (20, .aload_n 0, [], 0), (21, .bipush 32, [], 0),
  (23, .newarray .int, [20], 0), (25, .putfield 16, [6, 5], 264), (28, .aload_n 0, [], 0), (29, .iload_n 1, [], 0), (30, .ifCond .le 7, [19], 0), (33, .iload_n 1, [], 0),
  (34, .goto 4, [20], 0), (37, .iconst 0, [], 0), (38, .newarray .int, [20], 0), (40, .putfield 19, [6, 0], 256), (43, .return_, [], 0)]
def m_46 : MDt := (⟨"PenThatJumps$Program", "<init>", "(I)V"⟩, prog_8_method_1_code, 2, none, 6, 6, P_46)
/-- PenThatJumps$Program.clear()V -/
def P_47 : List IR := [
  (0, .aload_n 0, [], 0), (1, .iconst 0, [], 0), (2, .putfield 22, [6, 1], 257), (5, .aload_n 0, [], 0), (6, .iconst 0, [], 0), (7, .putfield 26, [6, 2], 258),
  (10, .aload_n 0, [], 0), (11, .getfield 9, [6, 3], 262), (14, .iconst 0, [], 0), (15, .invokestatic 29, [207, 2], 607), (18, .aload_n 0, [], 0), (19, .getfield 13, [6, 4], 263),
  (22, .iconst 0, [], 0), (23, .invokestatic 29, [207, 2], 607), (26, .return_, [], 0)]
def m_47 : MDt := (⟨"PenThatJumps$Program", "clear", "()V"⟩, prog_8_method_2_code, 1, none, 6, 6, P_47)
/-- PenThatJumps$Program.add(I)V -/
def P_48 : List IR := [
  (0, .aload_n 0, [], 0), (1, .getfield 22, [6, 1], 257), (4, .ifCond .lt 35, [21], 0), (7, .aload_n 0, [], 0), (8, .getfield 22, [6, 1], 257), (11, .aload_n 0, [], 0),
  (12, .getfield 19, [6, 0], 256), (15, .arraylength, [], 0), (16, .if_icmp .ge 23, [21], 0), (19, .aload_n 0, [], 0), (20, .getfield 19, [6, 0], 256), (23, .aload_n 0, [], 0),
  (24, .getfield 22, [6, 1], 257), (27, .iload_n 1, [], 0), (28, .iastore, [], 0), (29, .aload_n 0, [], 0), (30, .dup, [], 0), (31, .getfield 22, [6, 1], 257),
  (34, .iconst 1, [], 0), (35, .iadd, [], 0), (36, .putfield 22, [6, 1], 257), (39, .return_, [], 0)]
def m_48 : MDt := (⟨"PenThatJumps$Program", "add", "(I)V"⟩, prog_8_method_3_code, 2, none, 6, 6, P_48)
/-- PenThatJumps$Program.opens(I)V -/
def P_49 : List IR := [
  (0, .iload_n 1, [], 0), (1, .ifCond .lt 22, [13], 0), (4, .iload_n 1, [], 0), (5, .aload_n 0, [], 0), (6, .getfield 9, [6, 3], 262), (9, .arraylength, [], 0),
  (10, .if_icmp .ge 13, [13], 0), (13, .aload_n 0, [], 0), (14, .getfield 9, [6, 3], 262), (17, .iload_n 1, [], 0), (18, .aload_n 0, [], 0), (19, .getfield 22, [6, 1], 257),
  (22, .iastore, [], 0), (23, .return_, [], 0)]
def m_49 : MDt := (⟨"PenThatJumps$Program", "op" ++ "en", "(I)V"⟩, prog_8_method_4_code, 2, none, 6, 6, P_49)
/-- PenThatJumps$Program.close(I)V -/
def P_50 : List IR := [
  (0, .iload_n 1, [], 0), (1, .ifCond .lt 32, [19], 0), (4, .iload_n 1, [], 0), (5, .aload_n 0, [], 0), (6, .getfield 13, [6, 4], 263), (9, .arraylength, [], 0),
  (10, .if_icmp .ge 23, [19], 0), (13, .aload_n 0, [], 0), (14, .getfield 13, [6, 4], 263), (17, .iload_n 1, [], 0), (18, .aload_n 0, [], 0), (19, .getfield 22, [6, 1], 257),
  (22, .iastore, [], 0), (23, .aload_n 0, [], 0), (24, .dup, [], 0), (25, .getfield 26, [6, 2], 258), (28, .iconst 1, [], 0), (29, .iadd, [], 0),
  (30, .putfield 26, [6, 2], 258), (33, .return_, [], 0)]
def m_50 : MDt := (⟨"PenThatJumps$Program", "close", "(I)V"⟩, prog_8_method_5_code, 2, none, 6, 6, P_50)
/-- PenThatJumps$Program.hasLine(I)Z -/
def P_51 : List IR := [
  (0, .iload_n 1, [], 0), (1, .ifCond .lt 40, [23], 0), (4, .iload_n 1, [], 0), (5, .aload_n 0, [], 0), (6, .getfield 13, [6, 4], 263), (9, .arraylength, [], 0),
  (10, .if_icmp .ge 31, [23], 0), (13, .iload_n 1, [], 0), (14, .aload_n 0, [], 0), (15, .getfield 9, [6, 3], 262), (18, .arraylength, [], 0), (19, .if_icmp .ge 22, [23], 0),
  (22, .aload_n 0, [], 0), (23, .getfield 13, [6, 4], 263), (26, .iload_n 1, [], 0), (27, .iaload, [], 0), (28, .aload_n 0, [], 0), (29, .getfield 9, [6, 3], 262),
  (32, .iload_n 1, [], 0), (33, .iaload, [], 0), (34, .if_icmp .le 7, [23], 0), (37, .iconst 1, [], 0), (38, .goto 4, [24], 0), (41, .iconst 0, [], 0),
  (42, .ireturn, [], 0)]
def m_51 : MDt := (⟨"PenThatJumps$Program", "hasLine", "(I)Z"⟩, prog_8_method_6_code, 2, some .boolean, 6, 6, P_51)
/-- PenThatJumps$Program.become(LPenThatJumps$Program;)V -/
def P_52 : List IR := [
  (0, .aload_n 1, [], 0), (1, .getfield 22, [6, 1], 257), (4, .ifCond .lt 15, [9], 0), (7, .aload_n 1, [], 0), (8, .getfield 22, [6, 1], 257), (11, .aload_n 1, [], 0),
  (12, .getfield 19, [6, 0], 256), (15, .arraylength, [], 0), (16, .if_icmp .le 4, [10], 0), (19, .return_, [], 0), (20, .aload_n 0, [], 0), (21, .aload_n 1, [], 0),
  (22, .getfield 19, [6, 0], 256), (25, .aload_n 1, [], 0), (26, .getfield 22, [6, 1], 257), (29, .invokestatic 35, [208, 2], 737), (32, .putfield 19, [6, 0], 256), (35, .aload_n 0, [], 0),
  (36, .aload_n 1, [], 0), (37, .getfield 22, [6, 1], 257), (40, .putfield 22, [6, 1], 257), (43, .aload_n 0, [], 0), (44, .aload_n 1, [], 0), (45, .getfield 26, [6, 2], 258),
  (48, .putfield 26, [6, 2], 258), (51, .iconst 0, [], 0), (52, .istore_n 2, [], 0), (53, .iload_n 2, [], 0), (54, .aload_n 0, [], 0), (55, .getfield 9, [6, 3], 262),
  (58, .arraylength, [], 0), (59, .if_icmp .ge 68, [69], 0), (62, .iload_n 2, [], 0), (63, .aload_n 0, [], 0), (64, .getfield 13, [6, 4], 263), (67, .arraylength, [], 0),
  (68, .if_icmp .ge 59, [69], 0), (71, .aload_n 0, [], 0), (72, .getfield 9, [6, 3], 262), (75, .iload_n 2, [], 0), (76, .iload_n 2, [], 0), (77, .aload_n 1, [], 0),
  (78, .getfield 9, [6, 3], 262), (81, .arraylength, [], 0), (82, .if_icmp .ge 12, [50], 0), (85, .aload_n 1, [], 0), (86, .getfield 9, [6, 3], 262), (89, .iload_n 2, [], 0),
  (90, .iaload, [], 0), (91, .goto 4, [51], 0), (94, .iconst 0, [], 0), (95, .iastore, [], 0), (96, .aload_n 0, [], 0), (97, .getfield 13, [6, 4], 263),
  (100, .iload_n 2, [], 0), (101, .iload_n 2, [], 0), (102, .aload_n 1, [], 0), (103, .getfield 13, [6, 4], 263), (106, .arraylength, [], 0), (107, .if_icmp .ge 12, [65], 0),
  (110, .aload_n 1, [], 0), (111, .getfield 13, [6, 4], 263), (114, .iload_n 2, [], 0), (115, .iaload, [], 0), (116, .goto 4, [66], 0), (119, .iconst 0, [], 0),
  (120, .iastore, [], 0), (121, .iinc 2 1, [], 0), (124, .goto (-71), [27], 0), (127, .return_, [], 0)]
def m_52 : MDt := (⟨"PenThatJumps$Program", "become", "(LPenThatJumps$Program;)V"⟩, prog_8_method_7_code, 3, none, 6, 6, P_52)
/-- PenThatJumps$Program.run(I[I)I -/
def P_53 : List IR := [
  (0, .aload_n 0, [], 0), (1, .iload_n 1, [], 0), (2, .invokevirtual 39, [51, 2], 810), (5, .ifCond .eq 25, [16], 0), (8, .iload_n 1, [], 0), (9, .ifCond .lt 21, [16], 0),
  (12, .iload_n 1, [], 0), (13, .aload_n 0, [], 0), (14, .getfield 9, [6, 3], 262), (17, .arraylength, [], 0), (18, .if_icmp .ge 12, [16], 0), (21, .iload_n 1, [], 0),
  (22, .aload_n 0, [], 0), (23, .getfield 13, [6, 4], 263), (26, .arraylength, [], 0), (27, .if_icmp .lt 5, [18], 0), (30, .iconst 0, [], 0), (31, .ireturn, [], 0),
  (32, .iconst 0, [], 0), (33, .istore_n 3, [], 0), (34, .aload_n 0, [], 0), (35, .getfield 9, [6, 3], 262), (38, .iload_n 1, [], 0), (39, .iaload, [], 0),
  (40, .ifCond .le 12, [30], 0), (43, .aload_n 0, [], 0), (44, .getfield 9, [6, 3], 262), (47, .iload_n 1, [], 0), (48, .iaload, [], 0), (49, .goto 4, [31], 0),
  (52, .iconst 0, [], 0), (53, .istore 4, [], 0), (55, .iload 4, [], 0), (57, .istore 5, [], 0), (59, .iload 5, [], 0), (61, .aload_n 0, [], 0),
  (62, .getfield 13, [6, 4], 263), (65, .iload_n 1, [], 0), (66, .iaload, [], 0), (67, .if_icmp .ge 33, [56], 0), (70, .iload 5, [], 0), (72, .aload_n 0, [], 0),
  (73, .getfield 19, [6, 0], 256), (76, .arraylength, [], 0), (77, .if_icmp .ge 23, [56], 0), (80, .aload_n 0, [], 0), (81, .aload_n 0, [], 0), (82, .getfield 19, [6, 0], 256),
  (85, .iload 5, [], 0), (87, .iaload, [], 0), (88, .iload_n 3, [], 0), (89, .aload_n 2, [], 0), (90, .invokevirtual 43, [54, 4], 811), (93, .istore_n 3, [], 0),
  (94, .iinc 5 1, [], 0), (97, .goto (-38), [34], 0), (100, .iload_n 3, [], 0), (101, .ifCond .le 12, [63], 0), (104, .aload_n 0, [], 0), (105, .getfield 16, [6, 5], 264),
  (108, .iconst 0, [], 0), (109, .iaload, [], 0), (110, .goto 4, [64], 0), (113, .iconst 0, [], 0), (114, .ireturn, [], 0)]
def m_53 : MDt := (⟨"PenThatJumps$Program", "run", "(I[I)I"⟩, prog_8_method_8_code, 6, some .int, 6, 6, P_53)
/-- PenThatJumps$Program.take(II[I)I -/
def P_54 : List IR := [
  (0, .iload_n 1, [], 0), (1, .ifCond .lt 59, [36], 0), (4, .iload_n 2, [], 0), (5, .ifCond .lt 12, [9], 0), (8, .iload_n 2, [], 0), (9, .aload_n 0, [], 0),
  (10, .getfield 16, [6, 5], 264), (13, .arraylength, [], 0), (14, .if_icmp .lt 5, [11], 0), (17, .iload_n 2, [], 0), (18, .ireturn, [], 0), (19, .iload_n 1, [], 0),
  (20, .sipush 10000, [], 0), (23, .isub, [], 0), (24, .istore 4, [], 0), (26, .aload_n 0, [], 0), (27, .getfield 16, [6, 5], 264), (30, .iload_n 2, [], 0),
  (31, .iload 4, [], 0), (33, .ifCond .ge 7, [22], 0), (36, .iload_n 1, [], 0), (37, .goto 18, [31], 0), (40, .iload 4, [], 0), (42, .aload_n 3, [], 0),
  (43, .arraylength, [], 0), (44, .if_icmp .ge 10, [30], 0), (47, .aload_n 3, [], 0), (48, .iload 4, [], 0), (50, .iaload, [], 0), (51, .goto 4, [31], 0),
  (54, .iconst 0, [], 0), (55, .iastore, [], 0), (56, .iload_n 2, [], 0), (57, .iconst 1, [], 0), (58, .iadd, [], 0), (59, .ireturn, [], 0),
  (60, .iload_n 1, [], 0), (61, .iconst (-1), [], 0), (62, .if_icmp .ne 43, [65], 0), (65, .iload_n 2, [], 0), (66, .iconst 1, [], 0), (67, .if_icmp .lt 36, [63], 0),
  (70, .iload_n 2, [], 0), (71, .aload_n 0, [], 0), (72, .getfield 16, [6, 5], 264), (75, .arraylength, [], 0), (76, .if_icmp .gt 27, [63], 0), (79, .aload_n 0, [], 0),
  (80, .getfield 16, [6, 5], 264), (83, .iload_n 2, [], 0), (84, .iconst 1, [], 0), (85, .isub, [], 0), (86, .aload_n 0, [], 0), (87, .getfield 16, [6, 5], 264),
  (90, .iload_n 2, [], 0), (91, .iconst 1, [], 0), (92, .isub, [], 0), (93, .iaload, [], 0), (94, .ifCond .ne 7, [61], 0), (97, .iconst 1, [], 0),
  (98, .goto 4, [62], 0), (101, .iconst 0, [], 0), (102, .iastore, [], 0), (103, .iload_n 2, [], 0), (104, .ireturn, [], 0), (105, .iload_n 2, [], 0),
  (106, .iconst 2, [], 0), (107, .if_icmp .lt 12, [73], 0), (110, .iload_n 2, [], 0), (111, .aload_n 0, [], 0), (112, .getfield 16, [6, 5], 264), (115, .arraylength, [], 0),
  (116, .if_icmp .le 5, [75], 0), (119, .iload_n 2, [], 0), (120, .ireturn, [], 0), (121, .aload_n 0, [], 0), (122, .getfield 16, [6, 5], 264), (125, .iload_n 2, [], 0),
  (126, .iconst 2, [], 0), (127, .isub, [], 0), (128, .iload_n 1, [], 0), (129, .aload_n 0, [], 0), (130, .getfield 16, [6, 5], 264), (133, .iload_n 2, [], 0),
  (134, .iconst 2, [], 0), (135, .isub, [], 0), (136, .iaload, [], 0), (137, .aload_n 0, [], 0), (138, .getfield 16, [6, 5], 264), (141, .iload_n 2, [], 0),
  (142, .iconst 1, [], 0), (143, .isub, [], 0), (144, .iaload, [], 0), (145, .invokestatic 47, [55, 3], 815), (148, .iastore, [], 0), (149, .iload_n 2, [], 0),
  (150, .iconst 1, [], 0), (151, .isub, [], 0), (152, .ireturn, [], 0)]
def m_54 : MDt := (⟨"PenThatJumps$Program", "take", "(II[I)I"⟩, prog_8_method_9_code, 5, some .int, 6, 6, P_54)
/-- PenThatJumps$Program.joined(III)I -/
def P_55 : List IR := [
  (0, .iload_n 0, [], 0), (1, .tableswitch 105 (-8) (-2) #[101, 97, 93, 82, 71, 57, 43], [44, 40, 36, 32, 25, 18, 10, 2], 0), (44, .iload_n 1, [], 0), (45, .ifCond .eq 11, [8], 0), (48, .iload_n 2, [], 0), (49, .ifCond .eq 7, [8], 0),
  (52, .iconst 1, [], 0), (53, .goto 4, [9], 0), (56, .iconst 0, [], 0), (57, .ireturn, [], 0), (58, .iload_n 1, [], 0), (59, .ifCond .ne 7, [14], 0),
  (62, .iload_n 2, [], 0), (63, .ifCond .eq 7, [16], 0), (66, .iconst 1, [], 0), (67, .goto 4, [17], 0), (70, .iconst 0, [], 0), (71, .ireturn, [], 0),
  (72, .iload_n 1, [], 0), (73, .iload_n 2, [], 0), (74, .if_icmp .ge 7, [23], 0), (77, .iconst 1, [], 0), (78, .goto 4, [24], 0), (81, .iconst 0, [], 0),
  (82, .ireturn, [], 0), (83, .iload_n 1, [], 0), (84, .iload_n 2, [], 0), (85, .if_icmp .ne 7, [30], 0), (88, .iconst 1, [], 0), (89, .goto 4, [31], 0),
  (92, .iconst 0, [], 0), (93, .ireturn, [], 0), (94, .iload_n 1, [], 0), (95, .iload_n 2, [], 0), (96, .iadd, [], 0), (97, .ireturn, [], 0),
  (98, .iload_n 1, [], 0), (99, .iload_n 2, [], 0), (100, .isub, [], 0), (101, .ireturn, [], 0), (102, .iload_n 1, [], 0), (103, .iload_n 2, [], 0),
  (104, .imul, [], 0), (105, .ireturn, [], 0), (106, .iconst 0, [], 0), (107, .ireturn, [], 0)]
def m_55 : MDt := (⟨"PenThatJumps$Program", "joined", "(III)I"⟩, prog_8_method_10_code, 3, some .int, 6, 99, P_55)
/-- PenThatJumps$Sitting.<init>()V -/
def P_56 : List IR := [
  (0, .aload_n 0, [], 0), (1, .invokespecial 3, [301, 1], 373), (4, .aload_n 0, [], 0), (5, .new 9, [4], 374), (8, .dup, [], 0), (9, .invokespecial 11, [33, 1], 375),
  (12, .putfield 12, [7, 0], 376), (15, .aload_n 0, [], 0), (16, .bipush 36, [], 0), (18, .newarray .int, [20], 0), (20, .putfield 18, [7, 1], 379), (23, .return_, [], 0)]
def m_56 : MDt := (⟨"PenThatJumps$Sitting", "<init>", "()V"⟩, prog_9_method_1_code, 1, none, 7, 7, P_56)
/-- PenThatJumps$Sitting.begin(LPenThatJumps$Plan;I)V -/
def P_57 : List IR := [
  (0, .aload_n 0, [], 0), (1, .getfield 12, [7, 0], 376), (4, .aload_n 1, [], 0), (5, .invokevirtual 22, [35, 2], 822), (8, .aload_n 0, [], 0), (9, .iload_n 2, [], 0),
  (10, .putfield 26, [7, 2], 380), (13, .return_, [], 0)]
def m_57 : MDt := (⟨"PenThatJumps$Sitting", "begin", "(LPenThatJumps$Plan;I)V"⟩, prog_9_method_2_code, 3, none, 7, 7, P_57)
/-- PenThatJumps$Sitting.draw(I[I)V -/
def P_58 : List IR := [
  (0, .iload_n 1, [], 0), (1, .i2l, [], 0), (2, .lstore_n 3, [], 0), (3, .iconst 0, [], 0), (4, .istore 5, [], 0), (6, .iload 5, [], 0),
  (8, .aload_n 0, [], 0), (9, .getfield 12, [7, 0], 376), (12, .getfield 30, [4, 3], 238), (15, .iconst 3, [], 0), (16, .imul, [], 0), (17, .if_icmp .ge 77, [53], 0),
  (20, .iload 5, [], 0), (22, .aload_n 0, [], 0), (23, .getfield 18, [7, 1], 379), (26, .arraylength, [], 0), (27, .if_icmp .ge 67, [53], 0), (30, .lload_n 3, [], 0),
  (31, .ldc2_w 33, [1103515245], 827), (34, .lmul, [], 0), (35, .ldc2_w 35, [12345], 828), (38, .ladd, [], 0), (39, .ldc2_w 37, [2147483648], 829), (42, .lrem, [], 0),
  (43, .lstore_n 3, [], 0), (44, .iload 5, [], 0), (46, .iconst 4, [], 0), (47, .imul, [], 0), (48, .lload_n 3, [], 0), (49, .ldc2_w 39, [65536], 830),
  (52, .ldiv, [], 0), (53, .ldc2_w 41, [4], 831), (56, .lrem, [], 0), (57, .l2i, [], 0), (58, .iadd, [], 0), (59, .istore 6, [], 0),
  (61, .aload_n 0, [], 0), (62, .getfield 18, [7, 1], 379), (65, .iload 5, [], 0), (67, .iload 6, [], 0), (69, .ifCond .lt 17, [49], 0), (72, .iload 6, [], 0),
  (74, .aload_n 2, [], 0), (75, .arraylength, [], 0), (76, .if_icmp .ge 10, [49], 0), (79, .aload_n 2, [], 0), (80, .iload 6, [], 0), (82, .iaload, [], 0),
  (83, .goto 4, [50], 0), (86, .iconst 0, [], 0), (87, .iastore, [], 0), (88, .iinc 5 1, [], 0), (91, .goto (-85), [5], 0), (94, .return_, [], 0)]
def m_58 : MDt := (⟨"PenThatJumps$Sitting", "draw", "(I[I)V"⟩, prog_9_method_3_code, 7, none, 7, 7, P_58)
/-- PenThatJumps$Sitting.jumpAt(II)I -/
def P_59 : List IR := [
  (0, .iload_n 1, [], 0), (1, .iconst 3, [], 0), (2, .imul, [], 0), (3, .iload_n 2, [], 0), (4, .iadd, [], 0), (5, .istore_n 3, [], 0),
  (6, .iload_n 3, [], 0), (7, .ifCond .lt 21, [18], 0), (10, .iload_n 3, [], 0), (11, .aload_n 0, [], 0), (12, .getfield 18, [7, 1], 379), (15, .arraylength, [], 0),
  (16, .if_icmp .ge 12, [18], 0), (19, .aload_n 0, [], 0), (20, .getfield 18, [7, 1], 379), (23, .iload_n 3, [], 0), (24, .iaload, [], 0), (25, .goto 4, [19], 0),
  (28, .iconst 0, [], 0), (29, .ireturn, [], 0)]
def m_59 : MDt := (⟨"PenThatJumps$Sitting", "jumpAt", "(II)I"⟩, prog_9_method_4_code, 4, some .int, 7, 7, P_59)
/-- PenThatJumps$Sitting.standsOut(I)Z -/
def P_60 : List IR := [
  (0, .iconst (-1), [], 0), (1, .istore_n 2, [], 0), (2, .iconst (-1), [], 0), (3, .istore_n 3, [], 0), (4, .iconst 0, [], 0), (5, .istore 4, [], 0),
  (7, .iload 4, [], 0), (9, .aload_n 0, [], 0), (10, .getfield 12, [7, 0], 376), (13, .getfield 30, [4, 3], 238), (16, .if_icmp .ge 62, [40], 0), (19, .aload_n 0, [], 0),
  (20, .getfield 12, [7, 0], 376), (23, .iload 4, [], 0), (25, .invokevirtual 43, [37, 2], 879), (28, .istore 5, [], 0), (30, .iload 5, [], 0), (32, .aload_n 0, [], 0),
  (33, .getfield 26, [7, 2], 380), (36, .if_icmp .ne 18, [28], 0), (39, .iload_n 2, [], 0), (40, .aload_n 0, [], 0), (41, .iload 4, [], 0), (43, .iload_n 1, [], 0),
  (44, .invokevirtual 47, [59, 3], 880), (47, .invokestatic 51, [306, 2], 881), (50, .istore_n 2, [], 0), (51, .goto 21, [38], 0), (54, .iload 5, [], 0), (56, .iconst (-1), [], 0),
  (57, .if_icmp .eq 15, [38], 0), (60, .iload_n 3, [], 0), (61, .aload_n 0, [], 0), (62, .iload 4, [], 0), (64, .iload_n 1, [], 0), (65, .invokevirtual 47, [59, 3], 880),
  (68, .invokestatic 51, [306, 2], 881), (71, .istore_n 3, [], 0), (72, .iinc 4 1, [], 0), (75, .goto (-68), [6], 0), (78, .iload_n 3, [], 0), (79, .iconst (-1), [], 0),
  (80, .if_icmp .eq 12, [48], 0), (83, .iload_n 3, [], 0), (84, .iload_n 2, [], 0), (85, .if_icmp .ge 7, [48], 0), (88, .iconst 1, [], 0), (89, .goto 4, [49], 0),
  (92, .iconst 0, [], 0), (93, .ireturn, [], 0)]
def m_60 : MDt := (⟨"PenThatJumps$Sitting", "standsOut", "(I)Z"⟩, prog_9_method_5_code, 6, some .boolean, 7, 7, P_60)
/-- PenThatJumps$Tally.<init>()V -/
def P_61 : List IR := [
  (0, .aload_n 0, [], 0), (1, .invokespecial 1, [301, 1], 162), (4, .aload_n 0, [], 0), (5, .bipush 8, [], 0), (7, .newarray .int, [20], 0), (9, .putfield 7, [8, 2], 166),
  (12, .return_, [], 0)]
def m_61 : MDt := (⟨"PenThatJumps$Tally", "<init>", "()V"⟩, prog_10_method_1_code, 1, none, 8, 8, P_61)
/-- PenThatJumps$Tally.become(LPenThatJumps$Tally;)V -/
def P_62 : List IR := [
  (0, .aload_n 0, [], 0), (1, .aload_n 1, [], 0), (2, .getfield 13, [8, 1], 164), (5, .putfield 13, [8, 1], 164), (8, .iconst 0, [], 0), (9, .istore_n 2, [], 0),
  (10, .iload_n 2, [], 0), (11, .aload_n 0, [], 0), (12, .getfield 7, [8, 2], 166), (15, .arraylength, [], 0), (16, .if_icmp .ge 30, [26], 0), (19, .iload_n 2, [], 0),
  (20, .aload_n 1, [], 0), (21, .getfield 7, [8, 2], 166), (24, .arraylength, [], 0), (25, .if_icmp .ge 21, [26], 0), (28, .aload_n 0, [], 0), (29, .getfield 7, [8, 2], 166),
  (32, .iload_n 2, [], 0), (33, .aload_n 1, [], 0), (34, .getfield 7, [8, 2], 166), (37, .iload_n 2, [], 0), (38, .iaload, [], 0), (39, .iastore, [], 0),
  (40, .iinc 2 1, [], 0), (43, .goto (-33), [6], 0), (46, .aload_n 0, [], 0), (47, .aload_n 1, [], 0), (48, .getfield 17, [8, 3], 167), (51, .putfield 17, [8, 3], 167),
  (54, .aload_n 0, [], 0), (55, .aload_n 1, [], 0), (56, .getfield 20, [8, 4], 169), (59, .putfield 20, [8, 4], 169), (62, .aload_n 0, [], 0), (63, .aload_n 1, [], 0),
  (64, .getfield 23, [8, 5], 171), (67, .putfield 23, [8, 5], 171), (70, .aload_n 0, [], 0), (71, .aload_n 1, [], 0), (72, .getfield 26, [8, 6], 173), (75, .putfield 26, [8, 6], 173),
  (78, .return_, [], 0)]
def m_62 : MDt := (⟨"PenThatJumps$Tally", "become", "(LPenThatJumps$Tally;)V"⟩, prog_10_method_2_code, 3, none, 8, 8, P_62)
/-- PenThatJumps$Tally.cell(ZZZ)I -/
def P_63 : List IR := [
  (0, .iload_n 0, [], 0), (1, .ifCond .eq 7, [4], 0), (4, .iconst 4, [], 0), (5, .goto 4, [5], 0), (8, .iconst 0, [], 0), (9, .iload_n 1, [], 0),
  (10, .ifCond .eq 7, [9], 0), (13, .iconst 2, [], 0), (14, .goto 4, [10], 0), (17, .iconst 0, [], 0), (18, .iadd, [], 0), (19, .iload_n 2, [], 0),
  (20, .ifCond .eq 7, [15], 0), (23, .iconst 1, [], 0), (24, .goto 4, [16], 0), (27, .iconst 0, [], 0), (28, .iadd, [], 0), (29, .ireturn, [], 0)]
def m_63 : MDt := (⟨"PenThatJumps$Tally", "cell", "(ZZZ)I"⟩, prog_10_method_3_code, 3, some .int, 8, 99, P_63)
/-- PenThatJumps$Tally.addConfessions(ZZZI)V -/
def P_64 : List IR := [
  (0, .iload_n 1, [], 0), (1, .iload_n 2, [], 0), (2, .iload_n 3, [], 0), (3, .invokestatic 29, [63, 3], 986), (6, .istore 5, [], 0), (8, .iload 5, [], 0),
  (10, .ifCond .lt 25, [20], 0), (13, .iload 5, [], 0), (15, .aload_n 0, [], 0), (16, .getfield 7, [8, 2], 166), (19, .arraylength, [], 0), (20, .if_icmp .ge 15, [20], 0),
  (23, .aload_n 0, [], 0), (24, .getfield 7, [8, 2], 166), (27, .iload 5, [], 0), (29, .dup2, [], 0), (30, .iaload, [], 0), (31, .iload 4, [], 0),
  (33, .iadd, [], 0), (34, .iastore, [], 0), (35, .return_, [], 0)]
def m_64 : MDt := (⟨"PenThatJumps$Tally", "addConfessions", "(ZZZI)V"⟩, prog_10_method_4_code, 6, none, 8, 8, P_64)
/-- PenThatJumps$Tally.confessionsAt(ZZZ)I -/
def P_65 : List IR := [
  (0, .iload_n 1, [], 0), (1, .iload_n 2, [], 0), (2, .iload_n 3, [], 0), (3, .invokestatic 29, [63, 3], 986), (6, .istore 4, [], 0), (8, .iload 4, [], 0),
  (10, .ifCond .lt 23, [17], 0), (13, .iload 4, [], 0), (15, .aload_n 0, [], 0), (16, .getfield 7, [8, 2], 166), (19, .arraylength, [], 0), (20, .if_icmp .ge 13, [17], 0),
  (23, .aload_n 0, [], 0), (24, .getfield 7, [8, 2], 166), (27, .iload 4, [], 0), (29, .iaload, [], 0), (30, .goto 4, [18], 0), (33, .iconst 0, [], 0),
  (34, .ireturn, [], 0)]
def m_65 : MDt := (⟨"PenThatJumps$Tally", "confessionsAt", "(ZZZ)I"⟩, prog_10_method_5_code, 5, some .int, 8, 8, P_65)
/-- PenThatJumps$Tally.confessed(IZZ)I -/
def P_66 : List IR := [
  (0, .iload_n 1, [], 0), (1, .iconst 1, [], 0), (2, .if_icmp .ne 7, [5], 0), (5, .iconst 0, [], 0), (6, .goto 10, [10], 0), (9, .aload_n 0, [], 0),
  (10, .iconst 1, [], 0), (11, .iload_n 2, [], 0), (12, .iload_n 3, [], 0), (13, .invokevirtual 33, [65, 4], 1108), (16, .istore 4, [], 0), (18, .iload_n 1, [], 0),
  (19, .ifCond .ne 7, [15], 0), (22, .iconst 0, [], 0), (23, .goto 10, [20], 0), (26, .aload_n 0, [], 0), (27, .iconst 0, [], 0), (28, .iload_n 2, [], 0),
  (29, .iload_n 3, [], 0), (30, .invokevirtual 33, [65, 4], 1108), (33, .istore 5, [], 0), (35, .iload 4, [], 0), (37, .iload 5, [], 0), (39, .iadd, [], 0),
  (40, .ireturn, [], 0)]
def m_66 : MDt := (⟨"PenThatJumps$Tally", "confessed", "(IZZ)I"⟩, prog_10_method_6_code, 6, some .int, 8, 8, P_66)
/-- PenThatJumps$Tally.allConfessions()I -/
def P_67 : List IR := [
  (0, .iconst 0, [], 0), (1, .istore_n 1, [], 0), (2, .iconst 0, [], 0), (3, .istore_n 2, [], 0), (4, .iload_n 2, [], 0), (5, .aload_n 0, [], 0),
  (6, .getfield 7, [8, 2], 166), (9, .arraylength, [], 0), (10, .if_icmp .ge 18, [18], 0), (13, .iload_n 1, [], 0), (14, .aload_n 0, [], 0), (15, .getfield 7, [8, 2], 166),
  (18, .iload_n 2, [], 0), (19, .iaload, [], 0), (20, .iadd, [], 0), (21, .istore_n 1, [], 0), (22, .iinc 2 1, [], 0), (25, .goto (-21), [4], 0),
  (28, .iload_n 1, [], 0), (29, .ireturn, [], 0)]
def m_67 : MDt := (⟨"PenThatJumps$Tally", "allConfessions", "()I"⟩, prog_10_method_7_code, 3, some .int, 8, 8, P_67)
/-- PenThatJumps$Tally.addPaper(ZII)V -/
def P_68 : List IR := [
  (0, .iload_n 1, [], 0), (1, .ifCond .eq 26, [15], 0), (4, .aload_n 0, [], 0), (5, .dup, [], 0), (6, .getfield 17, [8, 3], 167), (9, .iload_n 2, [], 0),
  (10, .iadd, [], 0), (11, .putfield 17, [8, 3], 167), (14, .aload_n 0, [], 0), (15, .dup, [], 0), (16, .getfield 20, [8, 4], 169), (19, .iload_n 3, [], 0),
  (20, .iadd, [], 0), (21, .putfield 20, [8, 4], 169), (24, .goto 23, [27], 0), (27, .aload_n 0, [], 0), (28, .dup, [], 0), (29, .getfield 23, [8, 5], 171),
  (32, .iload_n 2, [], 0), (33, .iadd, [], 0), (34, .putfield 23, [8, 5], 171), (37, .aload_n 0, [], 0), (38, .dup, [], 0), (39, .getfield 26, [8, 6], 173),
  (42, .iload_n 3, [], 0), (43, .iadd, [], 0), (44, .putfield 26, [8, 6], 173), (47, .return_, [], 0)]
def m_68 : MDt := (⟨"PenThatJumps$Tally", "addPaper", "(ZII)V"⟩, prog_10_method_8_code, 4, none, 8, 8, P_68)
/-- PenThatJumps$Tape.<init>()V -/
def P_69 : List IR := [
  (0, .aload_n 0, [], 0), (1, .invokespecial 1, [301, 1], 203), (4, .aload_n 0, [], 0), (5, .sipush 1000, [], 0), (8, .newarray .char, [21], 0), (10, .putfield 9, [9, 0], 204),
  (13, .aload_n 0, [], 0), (14, .sipush 1001, [], 0), (17, .newarray .int, [20], 0), (19, .putfield 13, [9, 2], 207), (22, .aload_n 0, [], 0), (23, .sipush 1001, [], 0),
  (26, .newarray .int, [20], 0), (28, .putfield 17, [9, 3], 209), (31, .return_, [], 0)]
def m_69 : MDt := (⟨"PenThatJumps$Tape", "<init>", "()V"⟩, prog_11_method_1_code, 1, none, 9, 9, P_69)
/-- PenThatJumps$Tape.clear()V -/
def P_70 : List IR := [
  (0, .aload_n 0, [], 0), (1, .iconst 0, [], 0), (2, .putfield 20, [9, 1], 205), (5, .return_, [], 0)]
def m_70 : MDt := (⟨"PenThatJumps$Tape", "clear", "()V"⟩, prog_11_method_2_code, 1, none, 9, 9, P_70)
/-- PenThatJumps$Tape.put(J)V -/
def P_71 : List IR := [
  (0, .bipush 56, [], 0), (2, .istore_n 3, [], 0), (3, .iload_n 3, [], 0), (4, .ifCond .lt 93, [50], 0), (7, .lload_n 1, [], 0), (8, .iload_n 3, [], 0),
  (9, .lushr, [], 0), (10, .l2i, [], 0), (11, .sipush 255, [], 0), (14, .iand, [], 0), (15, .istore 4, [], 0), (17, .iload 4, [], 0),
  (19, .bipush 10, [], 0), (21, .if_icmp .eq 17, [20], 0), (24, .iload 4, [], 0), (26, .bipush 32, [], 0), (28, .if_icmp .lt 14, [22], 0), (31, .iload 4, [], 0),
  (33, .bipush 126, [], 0), (35, .if_icmp .gt 7, [22], 0), (38, .iconst 1, [], 0), (39, .goto 4, [23], 0), (42, .iconst 0, [], 0), (43, .istore 5, [], 0),
  (45, .iload 5, [], 0), (47, .ifCond .eq 44, [48], 0), (50, .aload_n 0, [], 0), (51, .getfield 20, [9, 1], 205), (54, .ifCond .lt 37, [48], 0), (57, .aload_n 0, [], 0),
  (58, .getfield 20, [9, 1], 205), (61, .aload_n 0, [], 0), (62, .getfield 9, [9, 0], 204), (65, .arraylength, [], 0), (66, .if_icmp .ge 25, [48], 0), (69, .aload_n 0, [], 0),
  (70, .getfield 9, [9, 0], 204), (73, .aload_n 0, [], 0), (74, .getfield 20, [9, 1], 205), (77, .iload 4, [], 0), (79, .i2c, [], 0), (80, .castore, [], 0),
  (81, .aload_n 0, [], 0), (82, .dup, [], 0), (83, .getfield 20, [9, 1], 205), (86, .iconst 1, [], 0), (87, .iadd, [], 0), (88, .putfield 20, [9, 1], 205),
  (91, .iinc 3 (-8), [], 0), (94, .goto (-91), [2], 0), (97, .return_, [], 0)]
def m_71 : MDt := (⟨"PenThatJumps$Tape", "put", "(J)V"⟩, prog_11_method_3_code, 6, none, 9, 9, P_71)
/-- PenThatJumps$Tape.signAt(I)C -/
def P_72 : List IR := [
  (0, .iload_n 1, [], 0), (1, .ifCond .lt 29, [16], 0), (4, .iload_n 1, [], 0), (5, .aload_n 0, [], 0), (6, .getfield 20, [9, 1], 205), (9, .if_icmp .ge 21, [16], 0),
  (12, .iload_n 1, [], 0), (13, .aload_n 0, [], 0), (14, .getfield 9, [9, 0], 204), (17, .arraylength, [], 0), (18, .if_icmp .ge 12, [16], 0), (21, .aload_n 0, [], 0),
  (22, .getfield 9, [9, 0], 204), (25, .iload_n 1, [], 0), (26, .caload, [], 0), (27, .goto 4, [17], 0), (30, .iconst 0, [], 0), (31, .ireturn, [], 0)]
def m_72 : MDt := (⟨"PenThatJumps$Tape", "signAt", "(I)C"⟩, prog_11_method_4_code, 2, some .char, 9, 9, P_72)
/-- PenThatJumps$Tape.cut()V -/
def P_73 : List IR := [
  (0, .aload_n 0, [], 0), (1, .iconst 0, [], 0), (2, .putfield 24, [9, 4], 211), (5, .aload_n 0, [], 0), (6, .iconst 0, [], 0), (7, .invokevirtual 27, [75, 2], 508),
  (10, .istore_n 1, [], 0), (11, .iconst 0, [], 0), (12, .istore_n 2, [], 0), (13, .iload_n 2, [], 0), (14, .sipush 1000, [], 0), (17, .if_icmp .ge 27, [24], 0),
  (20, .iload_n 1, [], 0), (21, .aload_n 0, [], 0), (22, .getfield 20, [9, 1], 205), (25, .if_icmp .ge 19, [24], 0), (28, .aload_n 0, [], 0), (29, .aload_n 0, [], 0),
  (30, .iload_n 1, [], 0), (31, .invokevirtual 31, [76, 2], 516), (34, .invokevirtual 27, [75, 2], 508), (37, .istore_n 1, [], 0), (38, .iinc 2 1, [], 0), (41, .goto (-28), [9], 0),
  (44, .aload_n 0, [], 0), (45, .sipush 12000, [], 0), (48, .aload_n 0, [], 0), (49, .getfield 20, [9, 1], 205), (52, .invokevirtual 34, [74, 3], 585), (55, .return_, [], 0)]
def m_73 : MDt := (⟨"PenThatJumps$Tape", "cut", "()V"⟩, prog_11_method_5_code, 3, none, 9, 9, P_73)
/-- PenThatJumps$Tape.addToken(II)V -/
def P_74 : List IR := [
  (0, .aload_n 0, [], 0), (1, .getfield 24, [9, 4], 211), (4, .ifCond .lt 57, [33], 0), (7, .aload_n 0, [], 0), (8, .getfield 24, [9, 4], 211), (11, .aload_n 0, [], 0),
  (12, .getfield 13, [9, 2], 207), (15, .arraylength, [], 0), (16, .if_icmp .ge 45, [33], 0), (19, .aload_n 0, [], 0), (20, .getfield 24, [9, 4], 211), (23, .aload_n 0, [], 0),
  (24, .getfield 17, [9, 3], 209), (27, .arraylength, [], 0), (28, .if_icmp .ge 33, [33], 0), (31, .aload_n 0, [], 0), (32, .getfield 13, [9, 2], 207), (35, .aload_n 0, [], 0),
  (36, .getfield 24, [9, 4], 211), (39, .iload_n 1, [], 0), (40, .iastore, [], 0), (41, .aload_n 0, [], 0), (42, .getfield 17, [9, 3], 209), (45, .aload_n 0, [], 0),
  (46, .getfield 24, [9, 4], 211), (49, .iload_n 2, [], 0), (50, .iastore, [], 0), (51, .aload_n 0, [], 0), (52, .dup, [], 0), (53, .getfield 24, [9, 4], 211),
  (56, .iconst 1, [], 0), (57, .iadd, [], 0), (58, .putfield 24, [9, 4], 211), (61, .return_, [], 0)]
def m_74 : MDt := (⟨"PenThatJumps$Tape", "addToken", "(II)V"⟩, prog_11_method_6_code, 3, none, 9, 9, P_74)
/-- PenThatJumps$Tape.pastBlanks(I)I -/
def P_75 : List IR := [
  (0, .iload_n 1, [], 0), (1, .istore_n 2, [], 0), (2, .iload_n 2, [], 0), (3, .aload_n 0, [], 0), (4, .getfield 20, [9, 1], 205), (7, .if_icmp .ge 29, [18], 0),
  (10, .aload_n 0, [], 0), (11, .iload_n 2, [], 0), (12, .invokevirtual 38, [72, 2], 512), (15, .bipush 10, [], 0), (17, .if_icmp .eq 13, [16], 0), (20, .aload_n 0, [], 0),
  (21, .iload_n 2, [], 0), (22, .invokevirtual 38, [72, 2], 512), (25, .bipush 32, [], 0), (27, .if_icmp .ne 9, [18], 0), (30, .iinc 2 1, [], 0), (33, .goto (-31), [2], 0),
  (36, .iload_n 2, [], 0), (37, .ireturn, [], 0)]
def m_75 : MDt := (⟨"PenThatJumps$Tape", "pastBlanks", "(I)I"⟩, prog_11_method_7_code, 3, some .int, 9, 9, P_75)
/-- PenThatJumps$Tape.cutToken(I)I -/
def P_76 : List IR := [
  (0, .aload_n 0, [], 0), (1, .iload_n 1, [], 0), (2, .invokevirtual 38, [72, 2], 512), (5, .istore_n 2, [], 0), (6, .iload_n 2, [], 0), (7, .invokestatic 42, [81, 1], 520),
  (10, .ifCond .eq 9, [11], 0), (13, .aload_n 0, [], 0), (14, .iload_n 1, [], 0), (15, .invokevirtual 46, [77, 2], 523), (18, .ireturn, [], 0), (19, .iload_n 2, [], 0),
  (20, .invokestatic 49, [82, 1], 589), (23, .ifCond .eq 9, [18], 0), (26, .aload_n 0, [], 0), (27, .iload_n 1, [], 0), (28, .invokevirtual 52, [78, 2], 592), (31, .ireturn, [], 0),
  (32, .aload_n 0, [], 0), (33, .iload_n 2, [], 0), (34, .invokestatic 55, [83, 1], 596), (37, .ifCond .eq 11, [26], 0), (40, .sipush 11000, [], 0), (43, .iload_n 2, [], 0),
  (44, .iadd, [], 0), (45, .goto 6, [27], 0), (48, .sipush 13000, [], 0), (51, .iload_n 1, [], 0), (52, .invokevirtual 34, [74, 3], 585), (55, .iload_n 1, [], 0),
  (56, .iconst 1, [], 0), (57, .iadd, [], 0), (58, .ireturn, [], 0)]
def m_76 : MDt := (⟨"PenThatJumps$Tape", "cutToken", "(I)I"⟩, prog_11_method_8_code, 3, some .int, 9, 9, P_76)
/-- PenThatJumps$Tape.cutWord(I)I -/
def P_77 : List IR := [
  (0, .iload_n 1, [], 0), (1, .istore_n 2, [], 0), (2, .iload_n 2, [], 0), (3, .aload_n 0, [], 0), (4, .getfield 20, [9, 1], 205), (7, .if_icmp .ge 20, [13], 0),
  (10, .aload_n 0, [], 0), (11, .iload_n 2, [], 0), (12, .invokevirtual 38, [72, 2], 512), (15, .invokestatic 42, [81, 1], 520), (18, .ifCond .eq 9, [13], 0), (21, .iinc 2 1, [], 0),
  (24, .goto (-22), [2], 0), (27, .aload_n 0, [], 0), (28, .iload_n 2, [], 0), (29, .iload_n 1, [], 0), (30, .isub, [], 0), (31, .bipush 8, [], 0),
  (33, .if_icmp .le 9, [21], 0), (36, .sipush 13000, [], 0), (39, .goto 13, [27], 0), (42, .sipush 10000, [], 0), (45, .aload_n 0, [], 0), (46, .iload_n 1, [], 0),
  (47, .iload_n 2, [], 0), (48, .invokevirtual 58, [79, 3], 527), (51, .iadd, [], 0), (52, .iload_n 1, [], 0), (53, .invokevirtual 34, [74, 3], 585), (56, .iload_n 2, [], 0),
  (57, .ireturn, [], 0)]
def m_77 : MDt := (⟨"PenThatJumps$Tape", "cutWord", "(I)I"⟩, prog_11_method_9_code, 3, some .int, 9, 9, P_77)
/-- PenThatJumps$Tape.cutNumber(I)I -/
def P_78 : List IR := [
  (0, .iload_n 1, [], 0), (1, .istore_n 2, [], 0), (2, .iconst 0, [], 0), (3, .istore_n 3, [], 0), (4, .iload_n 2, [], 0), (5, .aload_n 0, [], 0),
  (6, .getfield 20, [9, 1], 205), (9, .if_icmp .ge 34, [25], 0), (12, .aload_n 0, [], 0), (13, .iload_n 2, [], 0), (14, .invokevirtual 38, [72, 2], 512), (17, .invokestatic 49, [82, 1], 589),
  (20, .ifCond .eq 23, [25], 0), (23, .iload_n 3, [], 0), (24, .bipush 10, [], 0), (26, .imul, [], 0), (27, .aload_n 0, [], 0), (28, .iload_n 2, [], 0),
  (29, .invokevirtual 38, [72, 2], 512), (32, .bipush 48, [], 0), (34, .isub, [], 0), (35, .iadd, [], 0), (36, .istore_n 3, [], 0), (37, .iinc 2 1, [], 0),
  (40, .goto (-36), [4], 0), (43, .aload_n 0, [], 0), (44, .iload_n 2, [], 0), (45, .iload_n 1, [], 0), (46, .isub, [], 0), (47, .iconst 4, [], 0),
  (48, .if_icmp .le 9, [33], 0), (51, .sipush 13000, [], 0), (54, .goto 4, [34], 0), (57, .iload_n 3, [], 0), (58, .iload_n 1, [], 0), (59, .invokevirtual 34, [74, 3], 585),
  (62, .iload_n 2, [], 0), (63, .ireturn, [], 0)]
def m_78 : MDt := (⟨"PenThatJumps$Tape", "cutNumber", "(I)I"⟩, prog_11_method_10_code, 4, some .int, 9, 9, P_78)
/-- PenThatJumps$Tape.rowOfWord(II)I -/
def P_79 : List IR := [
  (0, .getstatic 62, [0, 26], 531), (3, .arraylength, [], 0), (4, .iconst 1, [], 0), (5, .isub, [], 0), (6, .istore_n 3, [], 0), (7, .iconst 0, [], 0),
  (8, .istore 4, [], 0), (10, .iload 4, [], 0), (12, .iload_n 3, [], 0), (13, .if_icmp .ge 30, [23], 0), (16, .aload_n 0, [], 0), (17, .iload_n 1, [], 0),
  (18, .iload_n 2, [], 0), (19, .getstatic 62, [0, 26], 531), (22, .iload 4, [], 0), (24, .aaload, [], 0), (25, .getfield 68, [40, 0], 1602), (28, .invokevirtual 72, [80, 4], 533),
  (31, .ifCond .eq 6, [21], 0), (34, .iload 4, [], 0), (36, .ireturn, [], 0), (37, .iinc 4 1, [], 0), (40, .goto (-30), [7], 0), (43, .iload_n 3, [], 0),
  (44, .ireturn, [], 0)]
def m_79 : MDt := (⟨"PenThatJumps$Tape", "rowOfWord", "(II)I"⟩, prog_11_method_11_code, 5, some .int, 9, 9, P_79)
/-- PenThatJumps$Tape.spells(IILjava/lang/String;)Z -/
def P_80 : List IR := [
  (0, .aload_n 3, [], 0), (1, .invokevirtual 76, [201, 1], 537), (4, .iload_n 2, [], 0), (5, .iload_n 1, [], 0), (6, .isub, [], 0), (7, .if_icmp .eq 5, [8], 0),
  (10, .iconst 0, [], 0), (11, .ireturn, [], 0), (12, .iconst 0, [], 0), (13, .istore 4, [], 0), (15, .iload 4, [], 0), (17, .aload_n 3, [], 0),
  (18, .invokevirtual 76, [201, 1], 537), (21, .if_icmp .ge 28, [27], 0), (24, .aload_n 3, [], 0), (25, .iload 4, [], 0), (27, .invokevirtual 82, [202, 2], 547), (30, .aload_n 0, [], 0),
  (31, .iload_n 1, [], 0), (32, .iload 4, [], 0), (34, .iadd, [], 0), (35, .invokevirtual 38, [72, 2], 512), (38, .if_icmp .eq 5, [25], 0), (41, .iconst 0, [], 0),
  (42, .ireturn, [], 0), (43, .iinc 4 1, [], 0), (46, .goto (-31), [10], 0), (49, .iconst 1, [], 0), (50, .ireturn, [], 0)]
def m_80 : MDt := (⟨"PenThatJumps$Tape", "spells", "(IILjava/lang/String;)Z"⟩, prog_11_method_12_code, 5, some .boolean, 9, 9, P_80)
/-- PenThatJumps$Tape.isLetter(C)Z -/
def P_81 : List IR := [
  (0, .iload_n 0, [], 0), (1, .bipush 97, [], 0), (3, .if_icmp .lt 13, [8], 0), (6, .iload_n 0, [], 0), (7, .bipush 122, [], 0), (9, .if_icmp .gt 7, [8], 0),
  (12, .iconst 1, [], 0), (13, .goto 4, [9], 0), (16, .iconst 0, [], 0), (17, .ireturn, [], 0)]
def m_81 : MDt := (⟨"PenThatJumps$Tape", "isLetter", "(C)Z"⟩, prog_11_method_13_code, 1, some .boolean, 9, 99, P_81)
/-- PenThatJumps$Tape.isDigit(C)Z -/
def P_82 : List IR := [
  (0, .iload_n 0, [], 0), (1, .bipush 48, [], 0), (3, .if_icmp .lt 13, [8], 0), (6, .iload_n 0, [], 0), (7, .bipush 57, [], 0), (9, .if_icmp .gt 7, [8], 0),
  (12, .iconst 1, [], 0), (13, .goto 4, [9], 0), (16, .iconst 0, [], 0), (17, .ireturn, [], 0)]
def m_82 : MDt := (⟨"PenThatJumps$Tape", "isDigit", "(C)Z"⟩, prog_11_method_14_code, 1, some .boolean, 9, 99, P_82)
/-- PenThatJumps$Tape.isSign(C)Z -/
def P_83 : List IR := [
  (0, .iload_n 0, [], 0), (1, .bipush 40, [], 0), (3, .if_icmp .eq 45, [24], 0), (6, .iload_n 0, [], 0), (7, .bipush 41, [], 0), (9, .if_icmp .eq 39, [24], 0),
  (12, .iload_n 0, [], 0), (13, .bipush 60, [], 0), (15, .if_icmp .eq 33, [24], 0), (18, .iload_n 0, [], 0), (19, .bipush 61, [], 0), (21, .if_icmp .eq 27, [24], 0),
  (24, .iload_n 0, [], 0), (25, .bipush 43, [], 0), (27, .if_icmp .eq 21, [24], 0), (30, .iload_n 0, [], 0), (31, .bipush 45, [], 0), (33, .if_icmp .eq 15, [24], 0),
  (36, .iload_n 0, [], 0), (37, .bipush 42, [], 0), (39, .if_icmp .eq 9, [24], 0), (42, .iload_n 0, [], 0), (43, .bipush 59, [], 0), (45, .if_icmp .ne 7, [26], 0),
  (48, .iconst 1, [], 0), (49, .goto 4, [27], 0), (52, .iconst 0, [], 0), (53, .ireturn, [], 0)]
def m_83 : MDt := (⟨"PenThatJumps$Tape", "isSign", "(C)Z"⟩, prog_11_method_15_code, 1, some .boolean, 9, 99, P_83)
/-- PenThatJumps.<init>()V -/
def P_84 : List IR := [
  (0, .aload_n 0, [], 0), (1, .invokespecial 1, [301, 1], 146), (4, .aload_n 0, [], 0), (5, .bipush 8, [], 0), (7, .anewarray 9, [33], 149), (10, .putfield 11, [10, 0], 420),
  (13, .aload_n 0, [], 0), (14, .iconst 4, [], 0), (15, .anewarray 15, [34], 151), (18, .putfield 17, [10, 1], 421), (21, .aload_n 0, [], 0), (22, .iconst 4, [], 0),
  (23, .anewarray 21, [36], 153), (26, .putfield 23, [10, 2], 422), (29, .aload_n 0, [], 0), (30, .bipush 24, [], 0), (32, .anewarray 27, [37], 155), (35, .putfield 29, [10, 3], 423),
  (38, .aload_n 0, [], 0), (39, .new 33, [8], 157), (42, .dup, [], 0), (43, .invokespecial 35, [61, 1], 159), (46, .putfield 36, [10, 4], 424), (49, .aload_n 0, [], 0),
  (50, .iconst 4, [], 0), (51, .anewarray 33, [38], 157), (54, .putfield 40, [10, 5], 425), (57, .aload_n 0, [], 0), (58, .new 44, [2], 192), (61, .dup, [], 0),
  (62, .invokespecial 46, [9, 1], 194), (65, .putfield 47, [10, 6], 426), (68, .aload_n 0, [], 0), (69, .new 51, [0], 311), (72, .dup, [], 0), (73, .invokespecial 53, [0, 1], 313),
  (76, .putfield 54, [10, 7], 427), (79, .aload_n 0, [], 0), (80, .new 58, [1], 334), (83, .dup, [], 0), (84, .invokespecial 60, [5, 1], 336), (87, .putfield 61, [10, 8], 428),
  (90, .aload_n 0, [], 0), (91, .new 65, [5], 344), (94, .dup, [], 0), (95, .invokespecial 67, [40, 1], 346), (98, .putfield 68, [10, 9], 429), (101, .aload_n 0, [], 0),
  (102, .new 27, [7], 155), (105, .dup, [], 0), (106, .invokespecial 72, [56, 1], 370), (109, .putfield 73, [10, 10], 430), (112, .aload_n 0, [], 0), (113, .new 9, [3], 149),
  (116, .dup, [], 0), (117, .invokespecial 77, [31, 1], 390), (120, .putfield 78, [10, 11], 431), (123, .aload_n 0, [], 0), (124, .new 9, [3], 149), (127, .dup, [], 0),
  (128, .invokespecial 77, [31, 1], 390), (131, .putfield 82, [10, 12], 432), (134, .aload_n 0, [], 0), (135, .sipush 144, [], 0), (138, .newarray .int, [20], 0), (140, .putfield 85, [10, 13], 433),
  (143, .aload_n 0, [], 0), (144, .sipush 144, [], 0), (147, .newarray .int, [20], 0), (149, .putfield 89, [10, 14], 434), (152, .aload_n 0, [], 0), (153, .iconst 4, [], 0),
  (154, .newarray .int, [20], 0), (156, .putfield 92, [10, 15], 435), (159, .iconst 0, [], 0), (160, .istore_n 1, [], 0), (161, .iload_n 1, [], 0), (162, .aload_n 0, [], 0),
  (163, .getfield 11, [10, 0], 420), (166, .arraylength, [], 0), (167, .if_icmp .ge 22, [90], 0), (170, .aload_n 0, [], 0), (171, .getfield 11, [10, 0], 420), (174, .iload_n 1, [], 0),
  (175, .new 9, [3], 149), (178, .dup, [], 0), (179, .invokespecial 77, [31, 1], 390), (182, .aastore, [], 0), (183, .iinc 1 1, [], 0), (186, .goto (-25), [76], 0),
  (189, .iconst 0, [], 0), (190, .istore_n 1, [], 0), (191, .iload_n 1, [], 0), (192, .aload_n 0, [], 0), (193, .getfield 17, [10, 1], 421), (196, .arraylength, [], 0),
  (197, .if_icmp .ge 22, [106], 0), (200, .aload_n 0, [], 0), (201, .getfield 17, [10, 1], 421), (204, .iload_n 1, [], 0), (205, .new 15, [4], 151), (208, .dup, [], 0),
  (209, .invokespecial 95, [33, 1], 418), (212, .aastore, [], 0), (213, .iinc 1 1, [], 0), (216, .goto (-25), [92], 0), (219, .iconst 0, [], 0), (220, .istore_n 1, [], 0),
  (221, .iload_n 1, [], 0), (222, .aload_n 0, [], 0), (223, .getfield 23, [10, 2], 422), (226, .arraylength, [], 0), (227, .if_icmp .ge 23, [123], 0), (230, .aload_n 0, [], 0),
  (231, .getfield 23, [10, 2], 422), (234, .iload_n 1, [], 0), (235, .new 21, [6], 153), (238, .dup, [], 0), (239, .iconst 0, [], 0), (240, .invokespecial 96, [46, 2], 419),
  (243, .aastore, [], 0), (244, .iinc 1 1, [], 0), (247, .goto (-26), [108], 0), (250, .iconst 0, [], 0), (251, .istore_n 1, [], 0), (252, .iload_n 1, [], 0),
  (253, .aload_n 0, [], 0), (254, .getfield 29, [10, 3], 423), (257, .arraylength, [], 0), (258, .if_icmp .ge 22, [139], 0), (261, .aload_n 0, [], 0), (262, .getfield 29, [10, 3], 423),
  (265, .iload_n 1, [], 0), (266, .new 27, [7], 155), (269, .dup, [], 0), (270, .invokespecial 72, [56, 1], 370), (273, .aastore, [], 0), (274, .iinc 1 1, [], 0),
  (277, .goto (-25), [125], 0), (280, .iconst 0, [], 0), (281, .istore_n 1, [], 0), (282, .iload_n 1, [], 0), (283, .aload_n 0, [], 0), (284, .getfield 40, [10, 5], 425),
  (287, .arraylength, [], 0), (288, .if_icmp .ge 22, [155], 0), (291, .aload_n 0, [], 0), (292, .getfield 40, [10, 5], 425), (295, .iload_n 1, [], 0), (296, .new 33, [8], 157),
  (299, .dup, [], 0), (300, .invokespecial 35, [61, 1], 159), (303, .aastore, [], 0), (304, .iinc 1 1, [], 0), (307, .goto (-25), [141], 0), (310, .return_, [], 0)]
def m_84 : MDt := (⟨"PenThatJumps", "<init>", "()V"⟩, prog_1_method_1_code, 2, none, 10, 10, P_84)
/-- PenThatJumps.person(IIZIZ)Z -/
def P_85 : List IR := [
  (0, .iload_n 1, [], 0), (1, .ifCond .lt 12, [7], 0), (4, .iload_n 1, [], 0), (5, .aload_n 0, [], 0), (6, .getfield 11, [10, 0], 420), (9, .arraylength, [], 0),
  (10, .if_icmp .lt 5, [9], 0), (13, .iconst 0, [], 0), (14, .ireturn, [], 0), (15, .iload_n 2, [], 0), (16, .iconst 0, [], 0), (17, .bipush 9, [], 0),
  (19, .invokestatic 99, [108, 3], 473), (22, .ifCond .eq 15, [19], 0), (25, .iload 4, [], 0), (27, .iconst 0, [], 0), (28, .sipush 511, [], 0), (31, .invokestatic 99, [108, 3], 473),
  (34, .ifCond .ne 5, [21], 0), (37, .iconst 0, [], 0), (38, .ireturn, [], 0), (39, .aload_n 0, [], 0), (40, .getfield 11, [10, 0], 420), (43, .iload_n 1, [], 0),
  (44, .aaload, [], 0), (45, .iload_n 2, [], 0), (46, .iload_n 3, [], 0), (47, .iload 4, [], 0), (49, .iload 5, [], 0), (51, .invokevirtual 103, [32, 5], 476),
  (54, .iconst 1, [], 0), (55, .ireturn, [], 0)]
def m_85 : MDt := (⟨"PenThatJumps", "person", "(IIZIZ)Z"⟩, prog_1_method_2_code, 6, some .boolean, 10, 10, P_85)
/-- PenThatJumps.item(I)Z -/
def P_86 : List IR := [
  (0, .iload_n 1, [], 0), (1, .iconst 0, [], 0), (2, .bipush 8, [], 0), (4, .invokestatic 99, [108, 3], 473), (7, .ifCond .ne 5, [7], 0), (10, .iconst 0, [], 0),
  (11, .ireturn, [], 0), (12, .aload_n 0, [], 0), (13, .getfield 54, [10, 7], 427), (16, .iload_n 1, [], 0), (17, .putfield 107, [0, 3], 323), (20, .iconst 1, [], 0),
  (21, .ireturn, [], 0)]
def m_86 : MDt := (⟨"PenThatJumps", "item", "(I)Z"⟩, prog_1_method_3_code, 2, some .boolean, 10, 10, P_86)
/-- PenThatJumps.feed(JJJ)I -/
def P_87 : List IR := [
  (0, .aload_n 0, [], 0), (1, .getfield 47, [10, 6], 426), (4, .getfield 111, [2, 0], 281), (7, .lload_n 1, [], 0), (8, .invokevirtual 115, [71, 2], 488), (11, .aload_n 0, [], 0),
  (12, .getfield 47, [10, 6], 426), (15, .getfield 111, [2, 0], 281), (18, .lload_n 3, [], 0), (19, .invokevirtual 115, [71, 2], 488), (22, .aload_n 0, [], 0), (23, .getfield 47, [10, 6], 426),
  (26, .getfield 111, [2, 0], 281), (29, .lload 5, [], 0), (31, .invokevirtual 115, [71, 2], 488), (34, .aload_n 0, [], 0), (35, .getfield 47, [10, 6], 426), (38, .getfield 111, [2, 0], 281),
  (41, .getfield 121, [9, 1], 206), (44, .ireturn, [], 0)]
def m_87 : MDt := (⟨"PenThatJumps", "feed", "(JJJ)I"⟩, prog_1_method_4_code, 7, some .int, 10, 10, P_87)
/-- PenThatJumps.plan(I)I -/
def P_88 : List IR := [
  (0, .iload_n 1, [], 0), (1, .ifCond .lt 12, [7], 0), (4, .iload_n 1, [], 0), (5, .aload_n 0, [], 0), (6, .getfield 17, [10, 1], 421), (9, .arraylength, [], 0),
  (10, .if_icmp .lt 15, [13], 0), (13, .aload_n 0, [], 0), (14, .getfield 47, [10, 6], 426), (17, .getfield 111, [2, 0], 281), (20, .invokevirtual 124, [70, 1], 496), (23, .iconst (-1), [], 0),
  (24, .ireturn, [], 0), (25, .aload_n 0, [], 0), (26, .getfield 47, [10, 6], 426), (29, .invokevirtual 127, [10, 1], 500), (32, .istore_n 2, [], 0), (33, .aload_n 0, [], 0),
  (34, .getfield 47, [10, 6], 426), (37, .getfield 111, [2, 0], 281), (40, .invokevirtual 124, [70, 1], 496), (43, .iload_n 2, [], 0), (44, .ifCond .ne 19, [31], 0), (47, .aload_n 0, [], 0),
  (48, .getfield 17, [10, 1], 421), (51, .iload_n 1, [], 0), (52, .aaload, [], 0), (53, .aload_n 0, [], 0), (54, .getfield 47, [10, 6], 426), (57, .getfield 131, [2, 1], 283),
  (60, .invokevirtual 135, [35, 2], 660), (63, .iload_n 2, [], 0), (64, .ireturn, [], 0)]
def m_88 : MDt := (⟨"PenThatJumps", "plan", "(I)I"⟩, prog_1_method_5_code, 3, some .int, 10, 10, P_88)
/-- PenThatJumps.body()I -/
def P_89 : List IR := [
  (0, .aload_n 0, [], 0), (1, .getfield 47, [10, 6], 426), (4, .invokevirtual 139, [11, 1], 681), (7, .istore_n 1, [], 0), (8, .aload_n 0, [], 0), (9, .getfield 47, [10, 6], 426),
  (12, .getfield 111, [2, 0], 281), (15, .invokevirtual 124, [70, 1], 496), (18, .iload_n 1, [], 0), (19, .ifCond .ne 20, [17], 0), (22, .aload_n 0, [], 0), (23, .getfield 54, [10, 7], 427),
  (26, .getfield 142, [0, 0], 320), (29, .aload_n 0, [], 0), (30, .getfield 47, [10, 6], 426), (33, .getfield 146, [2, 2], 285), (36, .invokevirtual 149, [52, 2], 733), (39, .iload_n 1, [], 0),
  (40, .ireturn, [], 0)]
def m_89 : MDt := (⟨"PenThatJumps", "body", "()I"⟩, prog_1_method_6_code, 2, some .int, 10, 10, P_89)
/-- PenThatJumps.reader(I)I -/
def P_90 : List IR := [
  (0, .iload_n 1, [], 0), (1, .ifCond .lt 12, [7], 0), (4, .iload_n 1, [], 0), (5, .aload_n 0, [], 0), (6, .getfield 23, [10, 2], 422), (9, .arraylength, [], 0),
  (10, .if_icmp .lt 15, [13], 0), (13, .aload_n 0, [], 0), (14, .getfield 47, [10, 6], 426), (17, .getfield 111, [2, 0], 281), (20, .invokevirtual 124, [70, 1], 496), (23, .iconst (-1), [], 0),
  (24, .ireturn, [], 0), (25, .aload_n 0, [], 0), (26, .getfield 47, [10, 6], 426), (29, .invokevirtual 152, [12, 1], 757), (32, .istore_n 2, [], 0), (33, .aload_n 0, [], 0),
  (34, .getfield 47, [10, 6], 426), (37, .getfield 111, [2, 0], 281), (40, .invokevirtual 124, [70, 1], 496), (43, .iload_n 2, [], 0), (44, .ifCond .ne 19, [31], 0), (47, .aload_n 0, [], 0),
  (48, .getfield 23, [10, 2], 422), (51, .iload_n 1, [], 0), (52, .aaload, [], 0), (53, .aload_n 0, [], 0), (54, .getfield 47, [10, 6], 426), (57, .getfield 146, [2, 2], 285),
  (60, .invokevirtual 149, [52, 2], 733), (63, .iload_n 2, [], 0), (64, .ireturn, [], 0)]
def m_90 : MDt := (⟨"PenThatJumps", "reader", "(I)I"⟩, prog_1_method_7_code, 3, some .int, 10, 10, P_90)
/-- PenThatJumps.question(III)I -/
def P_91 : List IR := [
  (0, .aload_n 0, [], 0), (1, .iload_n 1, [], 0), (2, .invokevirtual 155, [110, 2], 773), (5, .astore 4, [], 0), (7, .aload 4, [], 0), (9, .ifnonnull 5, [8], 0),
  (12, .iconst (-1), [], 0), (13, .ireturn, [], 0), (14, .iload_n 3, [], 0), (15, .tableswitch 46 0 2 #[25, 32, 39], [22, 10, 14, 18], 0), (40, .aload 4, [], 0), (42, .iload_n 2, [], 0),
  (43, .invokevirtual 159, [36, 2], 777), (46, .ireturn, [], 0), (47, .aload 4, [], 0), (49, .iload_n 2, [], 0), (50, .invokevirtual 163, [37, 2], 778), (53, .ireturn, [], 0),
  (54, .aload 4, [], 0), (56, .iload_n 2, [], 0), (57, .invokevirtual 166, [38, 2], 779), (60, .ireturn, [], 0), (61, .iconst (-1), [], 0), (62, .ireturn, [], 0)]
def m_91 : MDt := (⟨"PenThatJumps", "question", "(III)I"⟩, prog_1_method_8_code, 5, some .int, 10, 10, P_91)
/-- PenThatJumps.sit(III)I -/
def P_92 : List IR := [
  (0, .aload_n 0, [], 0), (1, .iload_n 1, [], 0), (2, .invokevirtual 169, [109, 2], 784), (5, .astore 4, [], 0), (7, .aload_n 0, [], 0), (8, .iload_n 2, [], 0),
  (9, .invokevirtual 155, [110, 2], 773), (12, .astore 5, [], 0), (14, .aload 4, [], 0), (16, .ifnull 19, [17], 0), (19, .aload 5, [], 0), (21, .ifnull 14, [17], 0),
  (24, .iload_n 3, [], 0), (25, .iconst 0, [], 0), (26, .sipush 9999, [], 0), (29, .invokestatic 99, [108, 3], 473), (32, .ifCond .ne 5, [19], 0), (35, .iconst (-1), [], 0),
  (36, .ireturn, [], 0), (37, .aload_n 0, [], 0), (38, .getfield 36, [10, 4], 424), (41, .getfield 173, [8, 1], 165), (44, .istore 6, [], 0), (46, .iload 6, [], 0),
  (48, .ifCond .lt 13, [30], 0), (51, .iload 6, [], 0), (53, .aload_n 0, [], 0), (54, .getfield 29, [10, 3], 423), (57, .arraylength, [], 0), (58, .if_icmp .lt 5, [32], 0),
  (61, .iconst (-1), [], 0), (62, .ireturn, [], 0), (63, .aload_n 0, [], 0), (64, .getfield 54, [10, 7], 427), (67, .aload 4, [], 0), (69, .aload 5, [], 0),
  (71, .aload_n 0, [], 0), (72, .getfield 85, [10, 13], 433), (75, .invokevirtual 175, [1, 4], 788), (78, .aload_n 0, [], 0), (79, .getfield 29, [10, 3], 423), (82, .iload 6, [], 0),
  (84, .aaload, [], 0), (85, .aload 5, [], 0), (87, .aload_n 0, [], 0), (88, .getfield 54, [10, 7], 427), (91, .getfield 107, [0, 3], 323), (94, .invokevirtual 179, [57, 3], 818),
  (97, .aload_n 0, [], 0), (98, .getfield 29, [10, 3], 423), (101, .iload 6, [], 0), (103, .aaload, [], 0), (104, .iload_n 3, [], 0), (105, .aload_n 0, [], 0),
  (106, .getfield 85, [10, 13], 433), (109, .invokevirtual 183, [58, 3], 823), (112, .aload_n 0, [], 0), (113, .getfield 36, [10, 4], 424), (116, .iload 6, [], 0), (118, .iconst 1, [], 0),
  (119, .iadd, [], 0), (120, .putfield 173, [8, 1], 165), (123, .iload 6, [], 0), (125, .ireturn, [], 0)]
def m_92 : MDt := (⟨"PenThatJumps", "sit", "(III)I"⟩, prog_1_method_9_code, 7, some .int, 10, 10, P_92)
/-- PenThatJumps.says(III)I -/
def P_93 : List IR := [
  (0, .aload_n 0, [], 0), (1, .iload_n 1, [], 0), (2, .invokevirtual 187, [112, 2], 836), (5, .astore 4, [], 0), (7, .aload_n 0, [], 0), (8, .iload_n 2, [], 0),
  (9, .invokevirtual 206, [111, 2], 840), (12, .astore 5, [], 0), (14, .aload 4, [], 0), (16, .ifnull 19, [17], 0), (19, .aload 5, [], 0), (21, .ifnull 14, [17], 0),
  (24, .iload_n 3, [], 0), (25, .bipush (-9), [], 0), (27, .bipush 9, [], 0), (29, .invokestatic 99, [108, 3], 473), (32, .ifCond .ne 5, [19], 0), (35, .iconst (-1), [], 0),
  (36, .ireturn, [], 0), (37, .aload_n 0, [], 0), (38, .getfield 61, [10, 8], 428), (41, .aload 4, [], 0), (43, .invokevirtual 210, [6, 2], 844), (46, .aload_n 0, [], 0),
  (47, .getfield 61, [10, 8], 428), (50, .aload 5, [], 0), (52, .iload_n 3, [], 0), (53, .invokevirtual 214, [8, 3], 862), (56, .ifCond .eq 7, [31], 0), (59, .iconst 1, [], 0),
  (60, .goto 4, [32], 0), (63, .iconst 0, [], 0), (64, .ireturn, [], 0)]
def m_93 : MDt := (⟨"PenThatJumps", "says", "(III)I"⟩, prog_1_method_11_code, 6, some .int, 10, 10, P_93)
/-- PenThatJumps.leans(II)I -/
def P_94 : List IR := [
  (0, .aload_n 0, [], 0), (1, .iload_n 1, [], 0), (2, .invokevirtual 187, [112, 2], 836), (5, .astore_n 3, [], 0), (6, .aload_n 0, [], 0), (7, .iload_n 2, [], 0),
  (8, .invokevirtual 206, [111, 2], 840), (11, .astore 4, [], 0), (13, .aload_n 3, [], 0), (14, .ifnull 8, [12], 0), (17, .aload 4, [], 0), (19, .ifnonnull 5, [14], 0),
  (22, .iconst (-1), [], 0), (23, .ireturn, [], 0), (24, .aload_n 0, [], 0), (25, .getfield 61, [10, 8], 428), (28, .aload_n 3, [], 0), (29, .invokevirtual 210, [6, 2], 844),
  (32, .iconst 0, [], 0), (33, .istore 5, [], 0), (35, .bipush (-9), [], 0), (37, .istore 6, [], 0), (39, .iload 6, [], 0), (41, .bipush 9, [], 0),
  (43, .if_icmp .gt 35, [41], 0), (46, .aload_n 0, [], 0), (47, .getfield 61, [10, 8], 428), (50, .aload 4, [], 0), (52, .iload 6, [], 0), (54, .invokevirtual 214, [8, 3], 862),
  (57, .ifCond .eq 15, [39], 0), (60, .iload 5, [], 0), (62, .iconst 1, [], 0), (63, .iload 6, [], 0), (65, .bipush 9, [], 0), (67, .iadd, [], 0),
  (68, .ishl, [], 0), (69, .ior, [], 0), (70, .istore 5, [], 0), (72, .iinc 6 1, [], 0), (75, .goto (-36), [22], 0), (78, .iload 5, [], 0),
  (80, .ireturn, [], 0)]
def m_94 : MDt := (⟨"PenThatJumps", "leans", "(II)I"⟩, prog_1_method_12_code, 7, some .int, 10, 10, P_94)
/-- PenThatJumps.hits(II)I -/
def P_95 : List IR := [
  (0, .aload_n 0, [], 0), (1, .iload_n 1, [], 0), (2, .invokevirtual 187, [112, 2], 836), (5, .astore_n 3, [], 0), (6, .aload_n 3, [], 0), (7, .ifnull 12, [11], 0),
  (10, .iload_n 2, [], 0), (11, .iconst 0, [], 0), (12, .iconst 2, [], 0), (13, .invokestatic 99, [108, 3], 473), (16, .ifCond .ne 5, [13], 0), (19, .iconst (-1), [], 0),
  (20, .ireturn, [], 0), (21, .aload_n 3, [], 0), (22, .iload_n 2, [], 0), (23, .invokevirtual 218, [60, 2], 875), (26, .ifCond .eq 7, [19], 0), (29, .iconst 1, [], 0),
  (30, .goto 4, [20], 0), (33, .iconst 0, [], 0), (34, .ireturn, [], 0)]
def m_95 : MDt := (⟨"PenThatJumps", "hits", "(II)I"⟩, prog_1_method_13_code, 4, some .int, 10, 10, P_95)
/-- PenThatJumps.rates(IIIII)I -/
def P_96 : List IR := [
  (0, .iload 5, [], 0), (2, .ifCond .lt 25, [14], 0), (5, .iload 5, [], 0), (7, .aload_n 0, [], 0), (8, .getfield 92, [10, 15], 435), (11, .arraylength, [], 0),
  (12, .if_icmp .ge 15, [14], 0), (15, .aload_n 0, [], 0), (16, .iload_n 1, [], 0), (17, .iload_n 2, [], 0), (18, .iload_n 3, [], 0), (19, .iload 4, [], 0),
  (21, .invokevirtual 222, [115, 5], 886), (24, .ifCond .ne 5, [16], 0), (27, .iconst (-1), [], 0), (28, .ireturn, [], 0), (29, .aload_n 0, [], 0), (30, .getfield 92, [10, 15], 435),
  (33, .iload 5, [], 0), (35, .iaload, [], 0), (36, .ireturn, [], 0)]
def m_96 : MDt := (⟨"PenThatJumps", "rates", "(IIIII)I"⟩, prog_1_method_14_code, 6, some .int, 10, 10, P_96)
/-- PenThatJumps.tricked(IIII)I -/
def P_97 : List IR := [
  (0, .aload_n 0, [], 0), (1, .iload_n 1, [], 0), (2, .invokevirtual 169, [109, 2], 784), (5, .astore 5, [], 0), (7, .aload_n 0, [], 0), (8, .iload_n 2, [], 0),
  (9, .invokevirtual 155, [110, 2], 773), (12, .astore 6, [], 0), (14, .aload_n 0, [], 0), (15, .iload_n 3, [], 0), (16, .invokevirtual 206, [111, 2], 840), (19, .astore 7, [], 0),
  (21, .aload 5, [], 0), (23, .ifnull 24, [23], 0), (26, .aload 6, [], 0), (28, .ifnull 19, [23], 0), (31, .aload 7, [], 0), (33, .ifnull 14, [23], 0),
  (36, .iload 4, [], 0), (38, .iconst 1, [], 0), (39, .bipush 40, [], 0), (41, .invokestatic 99, [108, 3], 473), (44, .ifCond .ne 5, [25], 0), (47, .iconst (-1), [], 0),
  (48, .ireturn, [], 0), (49, .aload_n 0, [], 0), (50, .getfield 82, [10, 12], 432), (53, .aload 5, [], 0), (55, .getfield 226, [3, 1], 398), (58, .aload 5, [], 0),
  (60, .getfield 229, [3, 2], 401), (63, .aload 5, [], 0), (65, .getfield 233, [3, 3], 404), (68, .iconst 0, [], 0), (69, .invokevirtual 103, [32, 5], 476), (72, .aload_n 0, [], 0),
  (73, .getfield 54, [10, 7], 427), (76, .aload_n 0, [], 0), (77, .getfield 82, [10, 12], 432), (80, .aload 6, [], 0), (82, .aload_n 0, [], 0), (83, .getfield 85, [10, 13], 433),
  (86, .invokevirtual 175, [1, 4], 788), (89, .aload_n 0, [], 0), (90, .getfield 82, [10, 12], 432), (93, .aload 5, [], 0), (95, .getfield 226, [3, 1], 398), (98, .aload 5, [], 0),
  (100, .getfield 229, [3, 2], 401), (103, .aload 5, [], 0), (105, .getfield 233, [3, 3], 404), (108, .iconst 1, [], 0), (109, .invokevirtual 103, [32, 5], 476), (112, .aload_n 0, [], 0),
  (113, .getfield 54, [10, 7], 427), (116, .aload_n 0, [], 0), (117, .getfield 82, [10, 12], 432), (120, .aload 6, [], 0), (122, .aload_n 0, [], 0), (123, .getfield 89, [10, 14], 434),
  (126, .invokevirtual 175, [1, 4], 788), (129, .aload_n 0, [], 0), (130, .getfield 73, [10, 10], 430), (133, .aload 6, [], 0), (135, .aload_n 0, [], 0), (136, .getfield 54, [10, 7], 427),
  (139, .getfield 107, [0, 3], 323), (142, .invokevirtual 179, [57, 3], 818), (145, .iconst 0, [], 0), (146, .istore 8, [], 0), (148, .iconst 0, [], 0), (149, .istore 9, [], 0),
  (151, .iload 9, [], 0), (153, .iload 4, [], 0), (155, .if_icmp .ge 41, [93], 0), (158, .aload_n 0, [], 0), (159, .aload 7, [], 0), (161, .iconst 0, [], 0),
  (162, .iload 9, [], 0), (164, .aload_n 0, [], 0), (165, .getfield 85, [10, 13], 433), (168, .invokevirtual 236, [117, 5], 895), (171, .aload_n 0, [], 0), (172, .aload 7, [], 0),
  (174, .iconst 0, [], 0), (175, .iload 9, [], 0), (177, .aload_n 0, [], 0), (178, .getfield 89, [10, 14], 434), (181, .invokevirtual 236, [117, 5], 895), (184, .if_icmp .eq 6, [91], 0),
  (187, .iinc 8 1, [], 0), (190, .iinc 9 1, [], 0), (193, .goto (-42), [72], 0), (196, .iload 8, [], 0), (198, .ireturn, [], 0)]
def m_97 : MDt := (⟨"PenThatJumps", "tricked", "(IIII)I"⟩, prog_1_method_15_code, 10, some .int, 10, 10, P_97)
/-- PenThatJumps.apart(III)I -/
def P_98 : List IR := [
  (0, .aload_n 0, [], 0), (1, .iload_n 1, [], 0), (2, .invokevirtual 155, [110, 2], 773), (5, .astore 4, [], 0), (7, .aload 4, [], 0), (9, .ifnull 23, [16], 0),
  (12, .iload_n 2, [], 0), (13, .iconst 0, [], 0), (14, .bipush 9, [], 0), (16, .invokestatic 99, [108, 3], 473), (19, .ifCond .eq 13, [16], 0), (22, .iload_n 3, [], 0),
  (23, .iconst 0, [], 0), (24, .bipush 9, [], 0), (26, .invokestatic 99, [108, 3], 473), (29, .ifCond .ne 5, [18], 0), (32, .iconst (-1), [], 0), (33, .ireturn, [], 0),
  (34, .aload_n 0, [], 0), (35, .aload 4, [], 0), (37, .iload_n 2, [], 0), (38, .invokevirtual 240, [118, 3], 907), (41, .aload_n 0, [], 0), (42, .aload 4, [], 0),
  (44, .iload_n 3, [], 0), (45, .invokevirtual 243, [119, 3], 911), (48, .ireturn, [], 0)]
def m_98 : MDt := (⟨"PenThatJumps", "apart", "(III)I"⟩, prog_1_method_16_code, 5, some .int, 10, 10, P_98)
/-- PenThatJumps.same(II)I -/
def P_99 : List IR := [
  (0, .aload_n 0, [], 0), (1, .iload_n 1, [], 0), (2, .invokevirtual 155, [110, 2], 773), (5, .astore_n 3, [], 0), (6, .aload_n 3, [], 0), (7, .ifnull 13, [11], 0),
  (10, .iload_n 2, [], 0), (11, .iconst 0, [], 0), (12, .bipush 9, [], 0), (14, .invokestatic 99, [108, 3], 473), (17, .ifCond .ne 5, [13], 0), (20, .iconst (-1), [], 0),
  (21, .ireturn, [], 0), (22, .aload_n 0, [], 0), (23, .aload_n 3, [], 0), (24, .iload_n 2, [], 0), (25, .invokevirtual 240, [118, 3], 907), (28, .iconst 0, [], 0),
  (29, .istore 4, [], 0), (31, .iconst 0, [], 0), (32, .istore 5, [], 0), (34, .iload 5, [], 0), (36, .bipush 9, [], 0), (38, .if_icmp .gt 28, [37], 0),
  (41, .aload_n 0, [], 0), (42, .aload_n 3, [], 0), (43, .iload 5, [], 0), (45, .invokevirtual 243, [119, 3], 911), (48, .ifCond .ne 12, [35], 0), (51, .iload 4, [], 0),
  (53, .iconst 1, [], 0), (54, .iload 5, [], 0), (56, .ishl, [], 0), (57, .ior, [], 0), (58, .istore 4, [], 0), (60, .iinc 5 1, [], 0),
  (63, .goto (-29), [21], 0), (66, .iload 4, [], 0), (68, .ireturn, [], 0)]
def m_99 : MDt := (⟨"PenThatJumps", "same", "(II)I"⟩, prog_1_method_17_code, 6, some .int, 10, 10, P_99)
/-- PenThatJumps.best(IIII)I -/
def P_100 : List IR := [
  (0, .aload_n 0, [], 0), (1, .iload_n 1, [], 0), (2, .invokevirtual 155, [110, 2], 773), (5, .astore 5, [], 0), (7, .aload 5, [], 0), (9, .ifnull 33, [21], 0),
  (12, .iload_n 2, [], 0), (13, .iconst 0, [], 0), (14, .bipush 9, [], 0), (16, .invokestatic 99, [108, 3], 473), (19, .ifCond .eq 23, [21], 0), (22, .iload_n 3, [], 0),
  (23, .iconst 1, [], 0), (24, .bipush 99, [], 0), (26, .invokestatic 99, [108, 3], 473), (29, .ifCond .eq 13, [21], 0), (32, .iload 4, [], 0), (34, .iconst 0, [], 0),
  (35, .iconst 2, [], 0), (36, .invokestatic 99, [108, 3], 473), (39, .ifCond .ne 5, [23], 0), (42, .iconst (-1), [], 0), (43, .ireturn, [], 0), (44, .aload_n 0, [], 0),
  (45, .getfield 78, [10, 11], 431), (48, .iload_n 2, [], 0), (49, .iconst 1, [], 0), (50, .iconst 0, [], 0), (51, .iconst 0, [], 0), (52, .invokevirtual 103, [32, 5], 476),
  (55, .aload_n 0, [], 0), (56, .getfield 82, [10, 12], 432), (59, .iload_n 2, [], 0), (60, .iconst 0, [], 0), (61, .iconst 0, [], 0), (62, .iconst 0, [], 0),
  (63, .invokevirtual 103, [32, 5], 476), (66, .aload_n 0, [], 0), (67, .getfield 68, [10, 9], 429), (70, .aload_n 0, [], 0), (71, .getfield 54, [10, 7], 427), (74, .aload 5, [], 0),
  (76, .aload_n 0, [], 0), (77, .getfield 78, [10, 11], 431), (80, .aload_n 0, [], 0), (81, .getfield 82, [10, 12], 432), (84, .invokevirtual 247, [42, 5], 923), (87, .aload_n 0, [], 0),
  (88, .getfield 68, [10, 9], 429), (91, .aload 5, [], 0), (93, .iload_n 3, [], 0), (94, .invokevirtual 251, [43, 3], 938), (97, .iload 4, [], 0), (99, .ifCond .ne 11, [58], 0),
  (102, .aload_n 0, [], 0), (103, .getfield 68, [10, 9], 429), (106, .getfield 254, [5, 2], 353), (109, .ireturn, [], 0), (110, .iload 4, [], 0), (112, .iconst 1, [], 0),
  (113, .if_icmp .ne 13, [65], 0), (116, .aload_n 0, [], 0), (117, .getfield 68, [10, 9], 429), (120, .getfield 257, [5, 3], 355), (123, .goto 10, [68], 0), (126, .aload_n 0, [], 0),
  (127, .getfield 68, [10, 9], 429), (130, .getfield 260, [5, 4], 357), (133, .ireturn, [], 0)]
def m_100 : MDt := (⟨"PenThatJumps", "best", "(IIII)I"⟩, prog_1_method_18_code, 6, some .int, 10, 10, P_100)
/-- PenThatJumps.odds(IIII)J -/
def P_101 : List IR := [
  (0, .iload_n 1, [], 0), (1, .iconst 1, [], 0), (2, .bipush 9, [], 0), (4, .invokestatic 99, [108, 3], 473), (7, .ifCond .eq 32, [20], 0), (10, .iload_n 2, [], 0),
  (11, .iconst 2, [], 0), (12, .bipush 9, [], 0), (14, .invokestatic 99, [108, 3], 473), (17, .ifCond .eq 22, [20], 0), (20, .iload_n 3, [], 0), (21, .iconst 0, [], 0),
  (22, .iload_n 1, [], 0), (23, .invokestatic 99, [108, 3], 473), (26, .ifCond .eq 13, [20], 0), (29, .iload 4, [], 0), (31, .iconst 0, [], 0), (32, .iconst 1, [], 0),
  (33, .invokestatic 99, [108, 3], 473), (36, .ifCond .ne 7, [22], 0), (39, .ldc2_w 263, [1, 1], 956), (42, .lreturn, [], 0), (43, .lconst 0, [], 0), (44, .lstore 5, [], 0),
  (46, .iload_n 3, [], 0), (47, .istore 7, [], 0), (49, .iload 7, [], 0), (51, .iload_n 1, [], 0), (52, .if_icmp .gt 32, [46], 0), (55, .lload 5, [], 0),
  (57, .iload_n 1, [], 0), (58, .iload 7, [], 0), (60, .invokestatic 265, [121, 2], 957), (63, .iload_n 2, [], 0), (64, .iconst 1, [], 0), (65, .isub, [], 0),
  (66, .i2l, [], 0), (67, .iload_n 1, [], 0), (68, .iload 7, [], 0), (70, .isub, [], 0), (71, .invokestatic 269, [120, 2], 960), (74, .lmul, [], 0),
  (75, .ladd, [], 0), (76, .lstore 5, [], 0), (78, .iinc 7 1, [], 0), (81, .goto (-32), [26], 0), (84, .lload 5, [], 0), (86, .iload_n 2, [], 0),
  (87, .i2l, [], 0), (88, .iload_n 1, [], 0), (89, .invokestatic 269, [120, 2], 960), (92, .iload 4, [], 0), (94, .invokestatic 272, [122, 3], 963), (97, .lreturn, [], 0)]
def m_101 : MDt := (⟨"PenThatJumps", "odds", "(IIII)J"⟩, prog_1_method_19_code, 8, some .long, 10, 10, P_101)
/-- PenThatJumps.items(II)I -/
def P_102 : List IR := [
  (0, .iload_n 1, [], 0), (1, .iconst 2, [], 0), (2, .bipush 9, [], 0), (4, .invokestatic 99, [108, 3], 473), (7, .ifCond .eq 14, [10], 0), (10, .iload_n 2, [], 0),
  (11, .iconst 1, [], 0), (12, .ldc_w 276, [999999999], 973), (15, .invokestatic 99, [108, 3], 473), (18, .ifCond .ne 5, [12], 0), (21, .iconst (-1), [], 0), (22, .ireturn, [], 0),
  (23, .lconst 1, [], 0), (24, .lstore_n 3, [], 0), (25, .iconst 1, [], 0), (26, .istore 5, [], 0), (28, .iload 5, [], 0), (30, .bipush 9, [], 0),
  (32, .if_icmp .gt 24, [33], 0), (35, .lload_n 3, [], 0), (36, .iload_n 1, [], 0), (37, .i2l, [], 0), (38, .lmul, [], 0), (39, .lstore_n 3, [], 0),
  (40, .lload_n 3, [], 0), (41, .iload_n 2, [], 0), (42, .i2l, [], 0), (43, .lcmp, [], 0), (44, .ifCond .lt 6, [31], 0), (47, .iload 5, [], 0),
  (49, .ireturn, [], 0), (50, .iinc 5 1, [], 0), (53, .goto (-25), [16], 0), (56, .iconst (-1), [], 0), (57, .ireturn, [], 0)]
def m_102 : MDt := (⟨"PenThatJumps", "items", "(II)I"⟩, prog_1_method_20_code, 6, some .int, 10, 10, P_102)
/-- PenThatJumps.named(IIIIIII)J -/
def P_103 : List IR := [
  (0, .iload_n 1, [], 0), (1, .iconst 1, [], 0), (2, .sipush 9999, [], 0), (5, .invokestatic 99, [108, 3], 473), (8, .ifCond .eq 22, [15], 0), (11, .iload_n 2, [], 0),
  (12, .iconst 0, [], 0), (13, .iload_n 1, [], 0), (14, .invokestatic 99, [108, 3], 473), (17, .ifCond .eq 13, [15], 0), (20, .iload 7, [], 0), (22, .iconst 0, [], 0),
  (23, .iconst 1, [], 0), (24, .invokestatic 99, [108, 3], 473), (27, .ifCond .ne 7, [17], 0), (30, .ldc2_w 263, [1, 1], 956), (33, .lreturn, [], 0), (34, .aload_n 0, [], 0),
  (35, .iload_n 3, [], 0), (36, .iload 4, [], 0), (38, .iload 5, [], 0), (40, .iload 6, [], 0), (42, .invokevirtual 222, [115, 5], 886), (45, .ifCond .eq 21, [34], 0),
  (48, .aload_n 0, [], 0), (49, .getfield 92, [10, 15], 435), (52, .iconst 1, [], 0), (53, .iaload, [], 0), (54, .ifCond .eq 12, [34], 0), (57, .aload_n 0, [], 0),
  (58, .getfield 92, [10, 15], 435), (61, .iconst 3, [], 0), (62, .iaload, [], 0), (63, .ifCond .ne 7, [36], 0), (66, .ldc2_w 263, [1, 1], 956), (69, .lreturn, [], 0),
  (70, .iload_n 2, [], 0), (71, .i2l, [], 0), (72, .aload_n 0, [], 0), (73, .getfield 92, [10, 15], 435), (76, .iconst 0, [], 0), (77, .iaload, [], 0),
  (78, .i2l, [], 0), (79, .lmul, [], 0), (80, .aload_n 0, [], 0), (81, .getfield 92, [10, 15], 435), (84, .iconst 3, [], 0), (85, .iaload, [], 0),
  (86, .i2l, [], 0), (87, .lmul, [], 0), (88, .lstore 8, [], 0), (90, .iload_n 1, [], 0), (91, .iload_n 2, [], 0), (92, .isub, [], 0),
  (93, .i2l, [], 0), (94, .aload_n 0, [], 0), (95, .getfield 92, [10, 15], 435), (98, .iconst 2, [], 0), (99, .iaload, [], 0), (100, .i2l, [], 0),
  (101, .lmul, [], 0), (102, .aload_n 0, [], 0), (103, .getfield 92, [10, 15], 435), (106, .iconst 1, [], 0), (107, .iaload, [], 0), (108, .i2l, [], 0),
  (109, .lmul, [], 0), (110, .lstore 10, [], 0), (112, .lload 8, [], 0), (114, .lload 8, [], 0), (116, .lload 10, [], 0), (118, .ladd, [], 0),
  (119, .iload 7, [], 0), (121, .invokestatic 272, [122, 3], 963), (124, .lreturn, [], 0)]
def m_103 : MDt := (⟨"PenThatJumps", "named", "(IIIIIII)J"⟩, prog_1_method_21_code, 12, some .long, 10, 10, P_103)
/-- PenThatJumps.confess(ZZZI)Z -/
def P_104 : List IR := [
  (0, .iload 4, [], 0), (2, .iconst 0, [], 0), (3, .sipush 9999, [], 0), (6, .invokestatic 99, [108, 3], 473), (9, .ifCond .ne 5, [7], 0), (12, .iconst 0, [], 0),
  (13, .ireturn, [], 0), (14, .aload_n 0, [], 0), (15, .getfield 36, [10, 4], 424), (18, .iload_n 1, [], 0), (19, .iload_n 2, [], 0), (20, .iload_n 3, [], 0),
  (21, .iload 4, [], 0), (23, .invokevirtual 277, [64, 5], 982), (26, .iconst 1, [], 0), (27, .ireturn, [], 0)]
def m_104 : MDt := (⟨"PenThatJumps", "confess", "(ZZZI)Z"⟩, prog_1_method_22_code, 5, some .boolean, 10, 10, P_104)
/-- PenThatJumps.paper(ZII)Z -/
def P_105 : List IR := [
  (0, .iload_n 2, [], 0), (1, .iconst 1, [], 0), (2, .sipush 9999, [], 0), (5, .invokestatic 99, [108, 3], 473), (8, .ifCond .eq 12, [10], 0), (11, .iload_n 3, [], 0),
  (12, .iconst 0, [], 0), (13, .iload_n 2, [], 0), (14, .invokestatic 99, [108, 3], 473), (17, .ifCond .ne 5, [12], 0), (20, .iconst 0, [], 0), (21, .ireturn, [], 0),
  (22, .aload_n 0, [], 0), (23, .getfield 36, [10, 4], 424), (26, .iload_n 1, [], 0), (27, .iload_n 2, [], 0), (28, .iload_n 3, [], 0), (29, .invokevirtual 289, [68, 4], 993),
  (32, .iconst 1, [], 0), (33, .ireturn, [], 0)]
def m_105 : MDt := (⟨"PenThatJumps", "paper", "(ZII)Z"⟩, prog_1_method_24_code, 4, some .boolean, 10, 10, P_105)
/-- PenThatJumps.mark(IZ)Z -/
def P_106 : List IR := [
  (0, .iload_n 1, [], 0), (1, .ifCond .lt 12, [7], 0), (4, .iload_n 1, [], 0), (5, .aload_n 0, [], 0), (6, .getfield 40, [10, 5], 425), (9, .arraylength, [], 0),
  (10, .if_icmp .lt 5, [9], 0), (13, .iconst 0, [], 0), (14, .ireturn, [], 0), (15, .aload_n 0, [], 0), (16, .getfield 40, [10, 5], 425), (19, .iload_n 1, [], 0),
  (20, .aaload, [], 0), (21, .astore_n 3, [], 0), (22, .iload_n 2, [], 0), (23, .ifCond .ne 18, [25], 0), (26, .aload_n 3, [], 0), (27, .aload_n 0, [], 0),
  (28, .getfield 36, [10, 4], 424), (31, .invokevirtual 307, [62, 2], 1001), (34, .aload_n 3, [], 0), (35, .iconst 1, [], 0), (36, .putfield 310, [8, 0], 163), (39, .iconst 1, [], 0),
  (40, .ireturn, [], 0), (41, .aload_n 3, [], 0), (42, .getfield 310, [8, 0], 163), (45, .ifCond .eq 17, [34], 0), (48, .aload_n 0, [], 0), (49, .getfield 36, [10, 4], 424),
  (52, .getfield 173, [8, 1], 165), (55, .aload_n 3, [], 0), (56, .getfield 173, [8, 1], 165), (59, .if_icmp .ge 5, [36], 0), (62, .iconst 0, [], 0), (63, .ireturn, [], 0),
  (64, .aload_n 0, [], 0), (65, .getfield 36, [10, 4], 424), (68, .aload_n 3, [], 0), (69, .invokevirtual 307, [62, 2], 1001), (72, .iconst 1, [], 0), (73, .ireturn, [], 0)]
def m_106 : MDt := (⟨"PenThatJumps", "mark", "(IZ)Z"⟩, prog_1_method_26_code, 4, some .boolean, 10, 10, P_106)
/-- PenThatJumps.count(I)I -/
def P_107 : List IR := [
  (0, .iload_n 1, [], 0), (1, .tableswitch 118 0 7 #[47, 53, 58, 66, 72, 80, 96, 107], [39, 2, 6, 9, 13, 17, 21, 29, 34], 0), (48, .aload_n 0, [], 0), (49, .iconst 0, [], 0), (50, .invokevirtual 313, [113, 2], 1009), (53, .ireturn, [], 0),
  (54, .aload_n 0, [], 0), (55, .invokevirtual 317, [114, 1], 1013), (58, .ireturn, [], 0), (59, .aload_n 0, [], 0), (60, .getfield 36, [10, 4], 424), (63, .getfield 173, [8, 1], 165),
  (66, .ireturn, [], 0), (67, .aload_n 0, [], 0), (68, .iconst 1, [], 0), (69, .invokevirtual 313, [113, 2], 1009), (72, .ireturn, [], 0), (73, .aload_n 0, [], 0),
  (74, .getfield 36, [10, 4], 424), (77, .invokevirtual 320, [67, 1], 1017), (80, .ireturn, [], 0), (81, .aload_n 0, [], 0), (82, .getfield 36, [10, 4], 424), (85, .getfield 293, [8, 3], 168),
  (88, .aload_n 0, [], 0), (89, .getfield 36, [10, 4], 424), (92, .getfield 296, [8, 5], 172), (95, .iadd, [], 0), (96, .ireturn, [], 0), (97, .aload_n 0, [], 0),
  (98, .getfield 47, [10, 6], 426), (101, .getfield 111, [2, 0], 281), (104, .getfield 121, [9, 1], 206), (107, .ireturn, [], 0), (108, .aload_n 0, [], 0), (109, .getfield 54, [10, 7], 427),
  (112, .getfield 142, [0, 0], 320), (115, .getfield 323, [6, 2], 261), (118, .ireturn, [], 0), (119, .iconst (-1), [], 0), (120, .ireturn, [], 0)]
def m_107 : MDt := (⟨"PenThatJumps", "count", "(I)I"⟩, prog_1_method_27_code, 2, some .int, 10, 10, P_107)
/-- PenThatJumps.within(III)Z -/
def P_108 : List IR := [
  (0, .iload_n 0, [], 0), (1, .iload_n 1, [], 0), (2, .if_icmp .lt 12, [8], 0), (5, .iload_n 0, [], 0), (6, .iload_n 2, [], 0), (7, .if_icmp .gt 7, [8], 0),
  (10, .iconst 1, [], 0), (11, .goto 4, [9], 0), (14, .iconst 0, [], 0), (15, .ireturn, [], 0)]
def m_108 : MDt := (⟨"PenThatJumps", "within", "(III)Z"⟩, prog_1_method_28_code, 3, some .boolean, 10, 99, P_108)
/-- PenThatJumps.toldPerson(I)LPenThatJumps$Person; -/
def P_109 : List IR := [
  (0, .iload_n 1, [], 0), (1, .ifCond .lt 24, [13], 0), (4, .iload_n 1, [], 0), (5, .aload_n 0, [], 0), (6, .getfield 11, [10, 0], 420), (9, .arraylength, [], 0),
  (10, .if_icmp .ge 15, [13], 0), (13, .aload_n 0, [], 0), (14, .getfield 11, [10, 0], 420), (17, .iload_n 1, [], 0), (18, .aaload, [], 0), (19, .getfield 326, [3, 0], 395),
  (22, .ifCond .ne 5, [15], 0), (25, .aconst_null, [], 0), (26, .areturn, [], 0), (27, .aload_n 0, [], 0), (28, .getfield 11, [10, 0], 420), (31, .iload_n 1, [], 0),
  (32, .aaload, [], 0), (33, .areturn, [], 0)]
def m_109 : MDt := (⟨"PenThatJumps", "toldPerson", "(I)LPenThatJumps$Person;"⟩, prog_1_method_29_code, 2, some (.object "PenThatJumps$Person"), 10, 10, P_109)
/-- PenThatJumps.toldPlan(I)LPenThatJumps$Plan; -/
def P_110 : List IR := [
  (0, .iload_n 1, [], 0), (1, .ifCond .lt 24, [13], 0), (4, .iload_n 1, [], 0), (5, .aload_n 0, [], 0), (6, .getfield 17, [10, 1], 421), (9, .arraylength, [], 0),
  (10, .if_icmp .ge 15, [13], 0), (13, .aload_n 0, [], 0), (14, .getfield 17, [10, 1], 421), (17, .iload_n 1, [], 0), (18, .aaload, [], 0), (19, .getfield 194, [4, 3], 240),
  (22, .ifCond .ne 5, [15], 0), (25, .aconst_null, [], 0), (26, .areturn, [], 0), (27, .aload_n 0, [], 0), (28, .getfield 17, [10, 1], 421), (31, .iload_n 1, [], 0),
  (32, .aaload, [], 0), (33, .areturn, [], 0)]
def m_110 : MDt := (⟨"PenThatJumps", "toldPlan", "(I)LPenThatJumps$Plan;"⟩, prog_1_method_30_code, 2, some (.object "PenThatJumps$Plan"), 10, 10, P_110)
/-- PenThatJumps.readerOf(I)LPenThatJumps$Program; -/
def P_111 : List IR := [
  (0, .iload_n 1, [], 0), (1, .ifCond .lt 12, [7], 0), (4, .iload_n 1, [], 0), (5, .aload_n 0, [], 0), (6, .getfield 23, [10, 2], 422), (9, .arraylength, [], 0),
  (10, .if_icmp .lt 5, [9], 0), (13, .aconst_null, [], 0), (14, .areturn, [], 0), (15, .aload_n 0, [], 0), (16, .getfield 23, [10, 2], 422), (19, .iload_n 1, [], 0),
  (20, .aaload, [], 0), (21, .areturn, [], 0)]
def m_111 : MDt := (⟨"PenThatJumps", "readerOf", "(I)LPenThatJumps$Program;"⟩, prog_1_method_31_code, 2, some (.object "PenThatJumps$Program"), 10, 10, P_111)
/-- PenThatJumps.keptSitting(I)LPenThatJumps$Sitting; -/
def P_112 : List IR := [
  (0, .iload_n 1, [], 0), (1, .ifCond .lt 23, [12], 0), (4, .iload_n 1, [], 0), (5, .aload_n 0, [], 0), (6, .getfield 29, [10, 3], 423), (9, .arraylength, [], 0),
  (10, .if_icmp .ge 14, [12], 0), (13, .iload_n 1, [], 0), (14, .aload_n 0, [], 0), (15, .getfield 36, [10, 4], 424), (18, .getfield 173, [8, 1], 165), (21, .if_icmp .lt 5, [14], 0),
  (24, .aconst_null, [], 0), (25, .areturn, [], 0), (26, .aload_n 0, [], 0), (27, .getfield 29, [10, 3], 423), (30, .iload_n 1, [], 0), (31, .aaload, [], 0),
  (32, .areturn, [], 0)]
def m_112 : MDt := (⟨"PenThatJumps", "keptSitting", "(I)LPenThatJumps$Sitting;"⟩, prog_1_method_32_code, 2, some (.object "PenThatJumps$Sitting"), 10, 10, P_112)
/-- PenThatJumps.countPersons(Z)I -/
def P_113 : List IR := [
  (0, .iconst 0, [], 0), (1, .istore_n 2, [], 0), (2, .iconst 0, [], 0), (3, .istore_n 3, [], 0), (4, .iload_n 3, [], 0), (5, .aload_n 0, [], 0),
  (6, .getfield 11, [10, 0], 420), (9, .arraylength, [], 0), (10, .if_icmp .ge 40, [26], 0), (13, .aload_n 0, [], 0), (14, .getfield 11, [10, 0], 420), (17, .iload_n 3, [], 0),
  (18, .aaload, [], 0), (19, .getfield 326, [3, 0], 395), (22, .ifCond .eq 22, [24], 0), (25, .aload_n 0, [], 0), (26, .getfield 11, [10, 0], 420), (29, .iload_n 3, [], 0),
  (30, .aaload, [], 0), (31, .getfield 229, [3, 2], 401), (34, .ifCond .ne 7, [23], 0), (37, .iload_n 1, [], 0), (38, .ifCond .ne 6, [24], 0), (41, .iinc 2 1, [], 0),
  (44, .iinc 3 1, [], 0), (47, .goto (-43), [4], 0), (50, .iload_n 2, [], 0), (51, .ireturn, [], 0)]
def m_113 : MDt := (⟨"PenThatJumps", "countPersons", "(Z)I"⟩, prog_1_method_33_code, 4, some .int, 10, 10, P_113)
/-- PenThatJumps.countPlans()I -/
def P_114 : List IR := [
  (0, .iconst 0, [], 0), (1, .istore_n 1, [], 0), (2, .iconst 0, [], 0), (3, .istore_n 2, [], 0), (4, .iload_n 2, [], 0), (5, .aload_n 0, [], 0),
  (6, .getfield 17, [10, 1], 421), (9, .arraylength, [], 0), (10, .if_icmp .ge 24, [18], 0), (13, .aload_n 0, [], 0), (14, .getfield 17, [10, 1], 421), (17, .iload_n 2, [], 0),
  (18, .aaload, [], 0), (19, .getfield 194, [4, 3], 240), (22, .ifCond .le 6, [16], 0), (25, .iinc 1 1, [], 0), (28, .iinc 2 1, [], 0), (31, .goto (-27), [4], 0),
  (34, .iload_n 1, [], 0), (35, .ireturn, [], 0)]
def m_114 : MDt := (⟨"PenThatJumps", "countPlans", "()I"⟩, prog_1_method_34_code, 3, some .int, 10, 10, P_114)
/-- PenThatJumps.rated(IIII)Z -/
def P_115 : List IR := [
  (0, .aload_n 0, [], 0), (1, .iload_n 1, [], 0), (2, .invokevirtual 155, [110, 2], 773), (5, .astore 5, [], 0), (7, .aload_n 0, [], 0), (8, .iload_n 2, [], 0),
  (9, .invokevirtual 206, [111, 2], 840), (12, .astore 6, [], 0), (14, .aload 5, [], 0), (16, .ifnull 8, [12], 0), (19, .aload 6, [], 0), (21, .ifnonnull 5, [14], 0),
  (24, .iconst 0, [], 0), (25, .ireturn, [], 0), (26, .iload_n 3, [], 0), (27, .bipush (-9), [], 0), (29, .bipush 9, [], 0), (31, .invokestatic 99, [108, 3], 473),
  (34, .ifCond .eq 14, [24], 0), (37, .iload 4, [], 0), (39, .iconst 1, [], 0), (40, .bipush 40, [], 0), (42, .invokestatic 99, [108, 3], 473), (45, .ifCond .ne 5, [26], 0),
  (48, .iconst 0, [], 0), (49, .ireturn, [], 0), (50, .aload_n 0, [], 0), (51, .getfield 92, [10, 15], 435), (54, .iconst 0, [], 0), (55, .invokestatic 329, [207, 2], 890),
  (58, .aload_n 0, [], 0), (59, .getfield 73, [10, 10], 430), (62, .aload 5, [], 0), (64, .aload_n 0, [], 0), (65, .getfield 54, [10, 7], 427), (68, .getfield 107, [0, 3], 323),
  (71, .invokevirtual 179, [57, 3], 818), (74, .iconst 0, [], 0), (75, .istore 7, [], 0), (77, .iload 7, [], 0), (79, .aload_n 0, [], 0), (80, .getfield 11, [10, 0], 420),
  (83, .arraylength, [], 0), (84, .if_icmp .ge 69, [76], 0), (87, .aload_n 0, [], 0), (88, .getfield 11, [10, 0], 420), (91, .iload 7, [], 0), (93, .aaload, [], 0),
  (94, .getfield 326, [3, 0], 395), (97, .ifCond .eq 50, [74], 0), (100, .aload_n 0, [], 0), (101, .getfield 54, [10, 7], 427), (104, .aload_n 0, [], 0), (105, .getfield 11, [10, 0], 420),
  (108, .iload 7, [], 0), (110, .aaload, [], 0), (111, .aload 5, [], 0), (113, .aload_n 0, [], 0), (114, .getfield 85, [10, 13], 433), (117, .invokevirtual 175, [1, 4], 788),
  (120, .aload_n 0, [], 0), (121, .aload 6, [], 0), (123, .iload_n 3, [], 0), (124, .iload 4, [], 0), (126, .aload_n 0, [], 0), (127, .getfield 11, [10, 0], 420),
  (130, .iload 7, [], 0), (132, .aaload, [], 0), (133, .getfield 229, [3, 2], 401), (136, .ifCond .eq 7, [72], 0), (139, .iconst 0, [], 0), (140, .goto 4, [73], 0),
  (143, .iconst 2, [], 0), (144, .invokevirtual 334, [116, 5], 891), (147, .iinc 7 1, [], 0), (150, .goto (-73), [39], 0), (153, .iconst 1, [], 0), (154, .ireturn, [], 0)]
def m_115 : MDt := (⟨"PenThatJumps", "rated", "(IIII)Z"⟩, prog_1_method_35_code, 8, some .boolean, 10, 10, P_115)
/-- PenThatJumps.addRates(LPenThatJumps$Program;III)V -/
def P_116 : List IR := [
  (0, .iload 4, [], 0), (2, .ifCond .lt 15, [9], 0), (5, .iload 4, [], 0), (7, .iconst 1, [], 0), (8, .iadd, [], 0), (9, .aload_n 0, [], 0),
  (10, .getfield 92, [10, 15], 435), (13, .arraylength, [], 0), (14, .if_icmp .lt 4, [10], 0), (17, .return_, [], 0), (18, .iconst 0, [], 0), (19, .istore 5, [], 0),
  (21, .iload 5, [], 0), (23, .iload_n 3, [], 0), (24, .if_icmp .ge 35, [33], 0), (27, .aload_n 0, [], 0), (28, .aload_n 1, [], 0), (29, .iload_n 2, [], 0),
  (30, .iload 5, [], 0), (32, .aload_n 0, [], 0), (33, .getfield 85, [10, 13], 433), (36, .invokevirtual 236, [117, 5], 895), (39, .ifCond .eq 14, [31], 0), (42, .aload_n 0, [], 0),
  (43, .getfield 92, [10, 15], 435), (46, .iload 4, [], 0), (48, .dup2, [], 0), (49, .iaload, [], 0), (50, .iconst 1, [], 0), (51, .iadd, [], 0),
  (52, .iastore, [], 0), (53, .iinc 5 1, [], 0), (56, .goto (-35), [12], 0), (59, .aload_n 0, [], 0), (60, .getfield 92, [10, 15], 435), (63, .iload 4, [], 0),
  (65, .iconst 1, [], 0), (66, .iadd, [], 0), (67, .dup2, [], 0), (68, .iaload, [], 0), (69, .iload_n 3, [], 0), (70, .iadd, [], 0),
  (71, .iastore, [], 0), (72, .return_, [], 0)]
def m_116 : MDt := (⟨"PenThatJumps", "addRates", "(LPenThatJumps$Program;III)V"⟩, prog_1_method_36_code, 6, none, 10, 10, P_116)
/-- PenThatJumps.tried(LPenThatJumps$Program;II[I)Z -/
def P_117 : List IR := [
  (0, .aload_n 0, [], 0), (1, .getfield 73, [10, 10], 430), (4, .iload_n 3, [], 0), (5, .aload 4, [], 0), (7, .invokevirtual 183, [58, 3], 823), (10, .aload_n 0, [], 0),
  (11, .getfield 61, [10, 8], 428), (14, .aload_n 0, [], 0), (15, .getfield 73, [10, 10], 430), (18, .invokevirtual 210, [6, 2], 844), (21, .aload_n 0, [], 0), (22, .getfield 61, [10, 8], 428),
  (25, .aload_n 1, [], 0), (26, .iload_n 2, [], 0), (27, .invokevirtual 214, [8, 3], 862), (30, .ireturn, [], 0)]
def m_117 : MDt := (⟨"PenThatJumps", "tried", "(LPenThatJumps$Program;II[I)Z"⟩, prog_1_method_37_code, 5, some .boolean, 10, 10, P_117)
/-- PenThatJumps.seatDoer(LPenThatJumps$Plan;I)V -/
def P_118 : List IR := [
  (0, .aload_n 0, [], 0), (1, .getfield 78, [10, 11], 431), (4, .iload_n 2, [], 0), (5, .iconst 1, [], 0), (6, .iconst 0, [], 0), (7, .iconst 0, [], 0),
  (8, .invokevirtual 103, [32, 5], 476), (11, .aload_n 0, [], 0), (12, .getfield 54, [10, 7], 427), (15, .aload_n 0, [], 0), (16, .getfield 78, [10, 11], 431), (19, .aload_n 1, [], 0),
  (20, .aload_n 0, [], 0), (21, .getfield 85, [10, 13], 433), (24, .invokevirtual 175, [1, 4], 788), (27, .return_, [], 0)]
def m_118 : MDt := (⟨"PenThatJumps", "seatDoer", "(LPenThatJumps$Plan;I)V"⟩, prog_1_method_38_code, 3, none, 10, 10, P_118)
/-- PenThatJumps.unlikeDoer(LPenThatJumps$Plan;I)I -/
def P_119 : List IR := [
  (0, .aload_n 0, [], 0), (1, .getfield 82, [10, 12], 432), (4, .iload_n 2, [], 0), (5, .iconst 0, [], 0), (6, .iconst 0, [], 0), (7, .iconst 0, [], 0),
  (8, .invokevirtual 103, [32, 5], 476), (11, .aload_n 0, [], 0), (12, .getfield 54, [10, 7], 427), (15, .aload_n 0, [], 0), (16, .getfield 82, [10, 12], 432), (19, .aload_n 1, [], 0),
  (20, .aload_n 0, [], 0), (21, .getfield 89, [10, 14], 434), (24, .invokevirtual 175, [1, 4], 788), (27, .aload_n 1, [], 0), (28, .getfield 194, [4, 3], 240), (31, .iconst 3, [], 0),
  (32, .imul, [], 0), (33, .iconst 4, [], 0), (34, .imul, [], 0), (35, .istore_n 3, [], 0), (36, .iconst 0, [], 0), (37, .istore 4, [], 0),
  (39, .iconst 0, [], 0), (40, .istore 5, [], 0), (42, .iload 5, [], 0), (44, .iload_n 3, [], 0), (45, .if_icmp .ge 49, [51], 0), (48, .iload 5, [], 0),
  (50, .aload_n 0, [], 0), (51, .getfield 85, [10, 13], 433), (54, .arraylength, [], 0), (55, .if_icmp .ge 39, [51], 0), (58, .iload 5, [], 0), (60, .aload_n 0, [], 0),
  (61, .getfield 89, [10, 14], 434), (64, .arraylength, [], 0), (65, .if_icmp .ge 29, [51], 0), (68, .aload_n 0, [], 0), (69, .getfield 85, [10, 13], 433), (72, .iload 5, [], 0),
  (74, .iaload, [], 0), (75, .aload_n 0, [], 0), (76, .getfield 89, [10, 14], 434), (79, .iload 5, [], 0), (81, .iaload, [], 0), (82, .if_icmp .eq 6, [49], 0),
  (85, .iinc 4 1, [], 0), (88, .iinc 5 1, [], 0), (91, .goto (-49), [26], 0), (94, .iload 4, [], 0), (96, .ireturn, [], 0)]
def m_119 : MDt := (⟨"PenThatJumps", "unlikeDoer", "(LPenThatJumps$Plan;I)I"⟩, prog_1_method_39_code, 6, some .int, 10, 10, P_119)
/-- PenThatJumps.power(JI)J -/
def P_120 : List IR := [
  (0, .lconst 1, [], 0), (1, .lstore_n 3, [], 0), (2, .iconst 0, [], 0), (3, .istore 5, [], 0), (5, .iload 5, [], 0), (7, .iload_n 2, [], 0),
  (8, .if_icmp .ge 13, [13], 0), (11, .lload_n 3, [], 0), (12, .lload_n 0, [], 0), (13, .lmul, [], 0), (14, .lstore_n 3, [], 0), (15, .iinc 5 1, [], 0),
  (18, .goto (-13), [4], 0), (21, .lload_n 3, [], 0), (22, .lreturn, [], 0)]
def m_120 : MDt := (⟨"PenThatJumps", "power", "(JI)J"⟩, prog_1_method_40_code, 6, some .long, 10, 99, P_120)
/-- PenThatJumps.choices(II)J -/
def P_121 : List IR := [
  (0, .lconst 1, [], 0), (1, .lstore_n 2, [], 0), (2, .iconst 1, [], 0), (3, .istore 4, [], 0), (5, .iload 4, [], 0), (7, .iload_n 1, [], 0),
  (8, .if_icmp .gt 23, [21], 0), (11, .lload_n 2, [], 0), (12, .iload_n 0, [], 0), (13, .iload_n 1, [], 0), (14, .isub, [], 0), (15, .iload 4, [], 0),
  (17, .iadd, [], 0), (18, .i2l, [], 0), (19, .lmul, [], 0), (20, .iload 4, [], 0), (22, .i2l, [], 0), (23, .ldiv, [], 0),
  (24, .lstore_n 2, [], 0), (25, .iinc 4 1, [], 0), (28, .goto (-23), [4], 0), (31, .lload_n 2, [], 0), (32, .lreturn, [], 0)]
def m_121 : MDt := (⟨"PenThatJumps", "choices", "(II)J"⟩, prog_1_method_41_code, 5, some .long, 10, 99, P_121)
/-- PenThatJumps.lowest(JJI)J -/
def P_122 : List IR := [
  (0, .lload_n 2, [], 0), (1, .lconst 0, [], 0), (2, .lcmp, [], 0), (3, .ifCond .gt 7, [7], 0), (6, .iload 4, [], 0), (8, .i2l, [], 0),
  (9, .lreturn, [], 0), (10, .lload_n 0, [], 0), (11, .lconst 0, [], 0), (12, .lcmp, [], 0), (13, .ifCond .ge 8, [14], 0), (16, .lload_n 0, [], 0),
  (17, .lneg, [], 0), (18, .goto 4, [15], 0), (21, .lload_n 0, [], 0), (22, .lload_n 2, [], 0), (23, .invokestatic 338, [123, 2], 966), (26, .lstore 5, [], 0),
  (28, .lload 5, [], 0), (30, .lconst 0, [], 0), (31, .lcmp, [], 0), (32, .ifCond .gt 7, [24], 0), (35, .ldc2_w 263, [1, 1], 956), (38, .lreturn, [], 0),
  (39, .iload 4, [], 0), (41, .ifCond .ne 10, [30], 0), (44, .lload_n 0, [], 0), (45, .lload 5, [], 0), (47, .ldiv, [], 0), (48, .goto 7, [33], 0),
  (51, .lload_n 2, [], 0), (52, .lload 5, [], 0), (54, .ldiv, [], 0), (55, .lreturn, [], 0)]
def m_122 : MDt := (⟨"PenThatJumps", "lowest", "(JJI)J"⟩, prog_1_method_42_code, 7, some .long, 10, 99, P_122)
/-- PenThatJumps.commonDivisor(JJ)J -/
def P_123 : List IR := [
  (0, .lload_n 0, [], 0), (1, .lstore 4, [], 0), (3, .lload_n 2, [], 0), (4, .lstore 6, [], 0), (6, .iconst 0, [], 0), (7, .istore 8, [], 0),
  (9, .iload 8, [], 0), (11, .sipush 200, [], 0), (14, .if_icmp .ge 31, [23], 0), (17, .lload 6, [], 0), (19, .lconst 0, [], 0), (20, .lcmp, [], 0),
  (21, .ifCond .eq 24, [23], 0), (24, .lload 4, [], 0), (26, .lload 6, [], 0), (28, .lrem, [], 0), (29, .lstore 9, [], 0), (31, .lload 6, [], 0),
  (33, .lstore 4, [], 0), (35, .lload 9, [], 0), (37, .lstore 6, [], 0), (39, .iinc 8 1, [], 0), (42, .goto (-33), [6], 0), (45, .lload 4, [], 0),
  (47, .lreturn, [], 0)]
def m_123 : MDt := (⟨"PenThatJumps", "commonDivisor", "(JJ)J"⟩, prog_1_method_43_code, 11, some .long, 10, 99, P_123)
/-- PenThatJumpsModel.thrown()I -/
def P_124 : List IR := [
  (0, .aload_n 0, [], 0), (1, .getfield 1, [11, 0], 1162), (4, .ireturn, [], 0)]
def m_124 : MDt := (⟨"PenThatJumpsModel", "thrown", "()I"⟩, prog_14_method_1_code, 1, some .int, 11, 11, P_124)
/-- PenThatJumpsModel.feed(JJJ)I -/
def P_125 : List IR := [
  (0, .aload_n 0, [], 0), (1, .iconst 0, [], 0), (2, .putfield 1, [11, 0], 1162), (5, .aload_n 0, [], 0), (6, .lload_n 1, [], 0), (7, .invokevirtual 7, [126, 2], 1129),
  (10, .aload_n 0, [], 0), (11, .lload_n 3, [], 0), (12, .invokevirtual 7, [126, 2], 1129), (15, .aload_n 0, [], 0), (16, .lload 5, [], 0), (18, .invokevirtual 7, [126, 2], 1129),
  (21, .aload_n 0, [], 0), (22, .getfield 11, [11, 2], 1164), (25, .ireturn, [], 0)]
def m_125 : MDt := (⟨"PenThatJumpsModel", "feed", "(JJJ)I"⟩, prog_14_method_2_code, 7, some .int, 11, 11, P_125)
/-- PenThatJumpsModel.lay(J)V -/
def P_126 : List IR := [
  (0, .bipush 56, [], 0), (2, .istore_n 3, [], 0), (3, .iload_n 3, [], 0), (4, .ifCond .lt 71, [38], 0), (7, .lload_n 1, [], 0), (8, .iload_n 3, [], 0),
  (9, .lshr, [], 0), (10, .l2i, [], 0), (11, .sipush 255, [], 0), (14, .iand, [], 0), (15, .istore 4, [], 0), (17, .iload 4, [], 0),
  (19, .bipush 10, [], 0), (21, .if_icmp .eq 17, [20], 0), (24, .iload 4, [], 0), (26, .bipush 32, [], 0), (28, .if_icmp .lt 41, [36], 0), (31, .iload 4, [], 0),
  (33, .bipush 126, [], 0), (35, .if_icmp .gt 34, [36], 0), (38, .aload_n 0, [], 0), (39, .getfield 11, [11, 2], 1164), (42, .sipush 1000, [], 0), (45, .if_icmp .ge 24, [36], 0),
  (48, .aload_n 0, [], 0), (49, .getfield 14, [11, 1], 1163), (52, .aload_n 0, [], 0), (53, .getfield 11, [11, 2], 1164), (56, .iload 4, [], 0), (58, .iastore, [], 0),
  (59, .aload_n 0, [], 0), (60, .dup, [], 0), (61, .getfield 11, [11, 2], 1164), (64, .iconst 1, [], 0), (65, .iadd, [], 0), (66, .putfield 11, [11, 2], 1164),
  (69, .iinc 3 (-8), [], 0), (72, .goto (-69), [2], 0), (75, .return_, [], 0)]
def m_126 : MDt := (⟨"PenThatJumpsModel", "lay", "(J)V"⟩, prog_14_method_3_code, 5, none, 11, 11, P_126)
/-- PenThatJumpsModel.<init>()V -/
def P_127 : List IR := [
  (0, .aload_n 0, [], 0), (1, .invokespecial 18, [301, 1], 1138), (4, .aload_n 0, [], 0), (5, .sipush 1000, [], 0), (8, .newarray .int, [20], 0), (10, .putfield 14, [11, 1], 1163),
  (13, .aload_n 0, [], 0), (14, .sipush 1002, [], 0), (17, .newarray .int, [20], 0), (19, .putfield 24, [11, 4], 1166), (22, .aload_n 0, [], 0), (23, .sipush 1002, [], 0),
  (26, .newarray .int, [20], 0), (28, .putfield 27, [11, 5], 1167), (31, .aload_n 0, [], 0), (32, .sipush 1002, [], 0), (35, .newarray .long, [23], 0), (37, .putfield 30, [11, 6], 1168),
  (40, .aload_n 0, [], 0), (41, .bipush 23, [], 0), (43, .newarray .long, [23], 0), (45, .dup, [], 0), (46, .iconst 0, [], 0), (47, .ldc2_w 34, [2083], 1139),
  (50, .lastore, [], 0), (51, .dup, [], 0), (52, .iconst 1, [], 0), (53, .ldc2_w 36, [8787], 1140), (56, .lastore, [], 0), (57, .dup, [], 0),
  (58, .iconst 2, [], 0), (59, .ldc2_w 38, [620680], 1141), (62, .lastore, [], 0), (63, .dup, [], 0), (64, .iconst 3, [], 0), (65, .ldc2_w 40, [964720], 1142),
  (68, .lastore, [], 0), (69, .dup, [], 0), (70, .iconst 4, [], 0), (71, .ldc2_w 42, [1176170], 1143), (74, .lastore, [], 0), (75, .dup, [], 0),
  (76, .iconst 5, [], 0), (77, .ldc2_w 44, [1891], 1144), (80, .lastore, [], 0), (81, .dup, [], 0), (82, .bipush 6, [], 0), (84, .ldc2_w 46, [573], 1145),
  (87, .lastore, [], 0), (88, .dup, [], 0), (89, .bipush 7, [], 0), (91, .ldc2_w 48, [19741], 1146), (94, .lastore, [], 0), (95, .dup, [], 0),
  (96, .bipush 8, [], 0), (98, .ldc2_w 50, [30596128], 1147), (101, .lastore, [], 0), (102, .dup, [], 0), (103, .bipush 9, [], 0), (105, .ldc2_w 52, [49306098923], 1148),
  (108, .lastore, [], 0), (109, .dup, [], 0), (110, .bipush 10, [], 0), (112, .ldc2_w 54, [2851816], 1149), (115, .lastore, [], 0), (116, .dup, [], 0),
  (117, .bipush 11, [], 0), (119, .ldc2_w 56, [21346313], 1150), (122, .lastore, [], 0), (123, .dup, [], 0), (124, .bipush 12, [], 0), (126, .ldc2_w 58, [918648], 1151),
  (129, .lastore, [], 0), (130, .dup, [], 0), (131, .bipush 13, [], 0), (133, .ldc2_w 60, [15248592], 1152), (136, .lastore, [], 0), (137, .dup, [], 0),
  (138, .bipush 14, [], 0), (140, .ldc2_w 62, [310818], 1153), (143, .lastore, [], 0), (144, .dup, [], 0), (145, .bipush 15, [], 0), (147, .ldc2_w 64, [223670], 1154),
  (150, .lastore, [], 0), (151, .dup, [], 0), (152, .bipush 16, [], 0), (154, .ldc2_w 66, [38407417], 1155), (157, .lastore, [], 0), (158, .dup, [], 0),
  (159, .bipush 17, [], 0), (161, .ldc2_w 68, [15047032], 1156), (164, .lastore, [], 0), (165, .dup, [], 0), (166, .bipush 18, [], 0), (168, .ldc2_w 70, [30595897], 1157),
  (171, .lastore, [], 0), (172, .dup, [], 0), (173, .bipush 19, [], 0), (175, .ldc2_w 72, [27011078], 1158), (178, .lastore, [], 0), (179, .dup, [], 0),
  (180, .bipush 20, [], 0), (182, .ldc2_w 74, [316688], 1159), (185, .lastore, [], 0), (186, .dup, [], 0), (187, .bipush 21, [], 0), (189, .ldc2_w 76, [77090], 1160),
  (192, .lastore, [], 0), (193, .dup, [], 0), (194, .bipush 22, [], 0), (196, .ldc2_w 78, [1078055329], 1161), (199, .lastore, [], 0), (200, .putfield 80, [11, 9], 1171),
  (203, .aload_n 0, [], 0), (204, .bipush 8, [], 0), (206, .newarray .boolean, [22], 0), (208, .putfield 83, [11, 10], 1172), (211, .aload_n 0, [], 0), (212, .bipush 8, [], 0),
  (214, .newarray .int, [20], 0), (216, .putfield 87, [11, 11], 1173), (219, .aload_n 0, [], 0), (220, .bipush 8, [], 0), (222, .newarray .boolean, [22], 0), (224, .putfield 90, [11, 12], 1174),
  (227, .aload_n 0, [], 0), (228, .bipush 8, [], 0), (230, .newarray .int, [20], 0), (232, .putfield 93, [11, 13], 1175), (235, .aload_n 0, [], 0), (236, .bipush 8, [], 0),
  (238, .newarray .boolean, [22], 0), (240, .putfield 96, [11, 14], 1176), (243, .aload_n 0, [], 0), (244, .iconst 5, [], 0), (245, .newarray .int, [20], 0), (247, .putfield 99, [11, 16], 1178),
  (250, .aload_n 0, [], 0), (251, .bipush 60, [], 0), (253, .newarray .int, [20], 0), (255, .putfield 102, [11, 17], 1179), (258, .aload_n 0, [], 0), (259, .bipush 60, [], 0),
  (261, .newarray .int, [20], 0), (263, .putfield 105, [11, 18], 1180), (266, .aload_n 0, [], 0), (267, .bipush 60, [], 0), (269, .newarray .int, [20], 0), (271, .putfield 108, [11, 19], 1181),
  (274, .aload_n 0, [], 0), (275, .sipush 6600, [], 0), (278, .newarray .int, [20], 0), (280, .putfield 111, [11, 22], 1184), (283, .aload_n 0, [], 0), (284, .sipush 6600, [], 0),
  (287, .newarray .int, [20], 0), (289, .putfield 114, [11, 23], 1185), (292, .aload_n 0, [], 0), (293, .iconst 3, [], 0), (294, .newarray .int, [20], 0), (296, .putfield 117, [11, 24], 1186),
  (299, .aload_n 0, [], 0), (300, .iconst 3, [], 0), (301, .newarray .int, [20], 0), (303, .putfield 120, [11, 25], 1187), (306, .aload_n 0, [], 0), (307, .iconst 5, [], 0),
  (308, .newarray .int, [20], 0), (310, .putfield 123, [11, 26], 1188), (313, .aload_n 0, [], 0), (314, .bipush 30, [], 0), (316, .newarray .int, [20], 0), (318, .putfield 126, [11, 27], 1189),
  (321, .aload_n 0, [], 0), (322, .bipush 20, [], 0), (324, .newarray .int, [20], 0), (326, .putfield 129, [11, 28], 1190), (329, .aload_n 0, [], 0), (330, .sipush 1100, [], 0),
  (333, .newarray .int, [20], 0), (335, .putfield 132, [11, 29], 1191), (338, .aload_n 0, [], 0), (339, .bipush 25, [], 0), (341, .newarray .int, [20], 0), (343, .putfield 135, [11, 31], 1193),
  (346, .aload_n 0, [], 0), (347, .bipush 25, [], 0), (349, .newarray .int, [20], 0), (351, .putfield 138, [11, 32], 1194), (354, .aload_n 0, [], 0), (355, .sipush 300, [], 0),
  (358, .newarray .int, [20], 0), (360, .putfield 141, [11, 33], 1195), (363, .aload_n 0, [], 0), (364, .sipush 300, [], 0), (367, .newarray .int, [20], 0), (369, .putfield 144, [11, 34], 1196),
  (372, .aload_n 0, [], 0), (373, .sipush 900, [], 0), (376, .newarray .int, [20], 0), (378, .putfield 147, [11, 35], 1197), (381, .aload_n 0, [], 0), (382, .iconst 4, [], 0),
  (383, .newarray .int, [20], 0), (385, .putfield 150, [11, 36], 1198), (388, .aload_n 0, [], 0), (389, .iconst 4, [], 0), (390, .newarray .int, [20], 0), (392, .putfield 153, [11, 37], 1199),
  (395, .aload_n 0, [], 0), (396, .bipush 8, [], 0), (398, .newarray .long, [23], 0), (400, .putfield 156, [11, 38], 1200), (403, .aload_n 0, [], 0), (404, .iconst 4, [], 0),
  (405, .newarray .long, [23], 0), (407, .putfield 159, [11, 39], 1201), (410, .aload_n 0, [], 0), (411, .iconst 4, [], 0), (412, .newarray .boolean, [22], 0), (414, .putfield 162, [11, 40], 1202),
  (417, .aload_n 0, [], 0), (418, .iconst 4, [], 0), (419, .newarray .int, [20], 0), (421, .putfield 165, [11, 41], 1203), (424, .aload_n 0, [], 0), (425, .bipush 48, [], 0),
  (427, .newarray .long, [23], 0), (429, .putfield 168, [11, 42], 1204), (432, .iconst 0, [], 0), (433, .istore_n 1, [], 0), (434, .iload_n 1, [], 0), (435, .iconst 3, [], 0),
  (436, .if_icmp .ge 16, [242], 0), (439, .aload_n 0, [], 0), (440, .getfield 117, [11, 24], 1186), (443, .iload_n 1, [], 0), (444, .iconst (-1), [], 0), (445, .iastore, [], 0),
  (446, .iinc 1 1, [], 0), (449, .goto (-15), [232], 0), (452, .return_, [], 0)]
def m_127 : MDt := (⟨"PenThatJumpsModel", "<init>", "()V"⟩, prog_14_method_4_code, 2, none, 11, 11, P_127)
/-- PenThatJumpsModel.isLetter(I)Z -/
def P_128 : List IR := [
  (0, .iload_n 0, [], 0), (1, .bipush 97, [], 0), (3, .if_icmp .lt 13, [8], 0), (6, .iload_n 0, [], 0), (7, .bipush 122, [], 0), (9, .if_icmp .gt 7, [8], 0),
  (12, .iconst 1, [], 0), (13, .goto 4, [9], 0), (16, .iconst 0, [], 0), (17, .ireturn, [], 0)]
def m_128 : MDt := (⟨"PenThatJumpsModel", "isLetter", "(I)Z"⟩, prog_14_method_5_code, 1, some .boolean, 11, 99, P_128)
/-- PenThatJumpsModel.isDigit(I)Z -/
def P_129 : List IR := [
  (0, .iload_n 0, [], 0), (1, .bipush 48, [], 0), (3, .if_icmp .lt 13, [8], 0), (6, .iload_n 0, [], 0), (7, .bipush 57, [], 0), (9, .if_icmp .gt 7, [8], 0),
  (12, .iconst 1, [], 0), (13, .goto 4, [9], 0), (16, .iconst 0, [], 0), (17, .ireturn, [], 0)]
def m_129 : MDt := (⟨"PenThatJumpsModel", "isDigit", "(I)Z"⟩, prog_14_method_6_code, 1, some .boolean, 11, 99, P_129)
/-- PenThatJumpsModel.rank(I)I -/
def P_130 : List IR := [
  (0, .iload_n 0, [], 0), (1, .invokestatic 171, [128, 1], 1313), (4, .ifCond .eq 10, [7], 0), (7, .iload_n 0, [], 0), (8, .bipush 96, [], 0), (10, .isub, [], 0),
  (11, .goto 7, [10], 0), (14, .iload_n 0, [], 0), (15, .bipush 21, [], 0), (17, .isub, [], 0), (18, .ireturn, [], 0)]
def m_130 : MDt := (⟨"PenThatJumpsModel", "rank", "(I)I"⟩, prog_14_method_7_code, 1, some .int, 11, 99, P_130)
/-- PenThatJumpsModel.isSignOf(I)Z -/
def P_131 : List IR := [
  (0, .iload_n 0, [], 0), (1, .bipush 40, [], 0), (3, .if_icmp .eq 45, [24], 0), (6, .iload_n 0, [], 0), (7, .bipush 41, [], 0), (9, .if_icmp .eq 39, [24], 0),
  (12, .iload_n 0, [], 0), (13, .bipush 59, [], 0), (15, .if_icmp .eq 33, [24], 0), (18, .iload_n 0, [], 0), (19, .bipush 61, [], 0), (21, .if_icmp .eq 27, [24], 0),
  (24, .iload_n 0, [], 0), (25, .bipush 60, [], 0), (27, .if_icmp .eq 21, [24], 0), (30, .iload_n 0, [], 0), (31, .bipush 43, [], 0), (33, .if_icmp .eq 15, [24], 0),
  (36, .iload_n 0, [], 0), (37, .bipush 45, [], 0), (39, .if_icmp .eq 9, [24], 0), (42, .iload_n 0, [], 0), (43, .bipush 42, [], 0), (45, .if_icmp .ne 7, [26], 0),
  (48, .iconst 1, [], 0), (49, .goto 4, [27], 0), (52, .iconst 0, [], 0), (53, .ireturn, [], 0)]
def m_131 : MDt := (⟨"PenThatJumpsModel", "isSignOf", "(I)Z"⟩, prog_14_method_8_code, 1, some .boolean, 11, 99, P_131)
/-- PenThatJumpsModel.cutAll()V -/
def P_132 : List IR := [
  (0, .aload_n 0, [], 0), (1, .aload_n 0, [], 0), (2, .getfield 11, [11, 2], 1164), (5, .putfield 175, [11, 3], 1165), (8, .aload_n 0, [], 0), (9, .iconst 0, [], 0),
  (10, .putfield 11, [11, 2], 1164), (13, .iconst 0, [], 0), (14, .istore_n 1, [], 0), (15, .iconst 0, [], 0), (16, .istore_n 2, [], 0), (17, .iload_n 2, [], 0),
  (18, .aload_n 0, [], 0), (19, .getfield 175, [11, 3], 1165), (22, .if_icmp .ge 257, [151], 0), (25, .aload_n 0, [], 0), (26, .getfield 14, [11, 1], 1163), (29, .iload_n 2, [], 0),
  (30, .iaload, [], 0), (31, .istore_n 3, [], 0), (32, .iload_n 3, [], 0), (33, .bipush 10, [], 0), (35, .if_icmp .eq 9, [26], 0), (38, .iload_n 3, [], 0),
  (39, .bipush 32, [], 0), (41, .if_icmp .ne 9, [28], 0), (44, .iinc 2 1, [], 0), (47, .goto (-30), [11], 0), (50, .iload_n 2, [], 0), (51, .istore 4, [], 0),
  (53, .lconst 0, [], 0), (54, .lstore 5, [], 0), (56, .aload_n 0, [], 0), (57, .getfield 27, [11, 5], 1167), (60, .iload_n 1, [], 0), (61, .iload_n 2, [], 0),
  (62, .iastore, [], 0), (63, .iload_n 3, [], 0), (64, .invokestatic 171, [128, 1], 1313), (67, .ifCond .eq 85, [83], 0), (70, .iload_n 2, [], 0), (71, .aload_n 0, [], 0),
  (72, .getfield 175, [11, 3], 1165), (75, .if_icmp .ge 54, [70], 0), (78, .aload_n 0, [], 0), (79, .getfield 14, [11, 1], 1163), (82, .iload_n 2, [], 0), (83, .iaload, [], 0),
  (84, .invokestatic 171, [128, 1], 1313), (87, .ifCond .eq 42, [70], 0), (90, .iload_n 2, [], 0), (91, .iload 4, [], 0), (93, .isub, [], 0), (94, .bipush 8, [], 0),
  (96, .if_icmp .ge 23, [66], 0), (99, .ldc2_w 178, [37], 1316), (102, .lload 5, [], 0), (104, .lmul, [], 0), (105, .aload_n 0, [], 0), (106, .getfield 14, [11, 1], 1163),
  (109, .iload_n 2, [], 0), (110, .iaload, [], 0), (111, .invokestatic 180, [130, 1], 1317), (114, .i2l, [], 0), (115, .ladd, [], 0), (116, .goto 5, [67], 0),
  (119, .lload 5, [], 0), (121, .lstore 5, [], 0), (123, .iinc 2 1, [], 0), (126, .goto (-56), [40], 0), (129, .aload_n 0, [], 0), (130, .getfield 24, [11, 4], 1166),
  (133, .iload_n 1, [], 0), (134, .iload_n 2, [], 0), (135, .iload 4, [], 0), (137, .isub, [], 0), (138, .bipush 8, [], 0), (140, .if_icmp .le 7, [80], 0),
  (143, .iconst 4, [], 0), (144, .goto 4, [81], 0), (147, .iconst 1, [], 0), (148, .iastore, [], 0), (149, .goto 116, [144], 0), (152, .iload_n 3, [], 0),
  (153, .invokestatic 184, [129, 1], 1320), (156, .ifCond .eq 84, [130], 0), (159, .iload_n 2, [], 0), (160, .aload_n 0, [], 0), (161, .getfield 175, [11, 3], 1165), (164, .if_icmp .ge 54, [117], 0),
  (167, .aload_n 0, [], 0), (168, .getfield 14, [11, 1], 1163), (171, .iload_n 2, [], 0), (172, .iaload, [], 0), (173, .invokestatic 184, [129, 1], 1320), (176, .ifCond .eq 42, [117], 0),
  (179, .iload_n 2, [], 0), (180, .iload 4, [], 0), (182, .isub, [], 0), (183, .iconst 4, [], 0), (184, .if_icmp .ge 24, [113], 0), (187, .ldc2_w 187, [10], 1323),
  (190, .lload 5, [], 0), (192, .lmul, [], 0), (193, .aload_n 0, [], 0), (194, .getfield 14, [11, 1], 1163), (197, .iload_n 2, [], 0), (198, .iaload, [], 0),
  (199, .i2l, [], 0), (200, .ladd, [], 0), (201, .ldc2_w 189, [48], 1324), (204, .lsub, [], 0), (205, .goto 5, [114], 0), (208, .lload 5, [], 0),
  (210, .lstore 5, [], 0), (212, .iinc 2 1, [], 0), (215, .goto (-56), [86], 0), (218, .aload_n 0, [], 0), (219, .getfield 24, [11, 4], 1166), (222, .iload_n 1, [], 0),
  (223, .iload_n 2, [], 0), (224, .iload 4, [], 0), (226, .isub, [], 0), (227, .iconst 4, [], 0), (228, .if_icmp .le 7, [127], 0), (231, .iconst 4, [], 0),
  (232, .goto 4, [128], 0), (235, .iconst 2, [], 0), (236, .iastore, [], 0), (237, .goto 28, [144], 0), (240, .iload_n 3, [], 0), (241, .i2l, [], 0),
  (242, .lstore 5, [], 0), (244, .aload_n 0, [], 0), (245, .getfield 24, [11, 4], 1166), (248, .iload_n 1, [], 0), (249, .iload_n 3, [], 0), (250, .invokestatic 191, [131, 1], 1325),
  (253, .ifCond .eq 7, [141], 0), (256, .iconst 3, [], 0), (257, .goto 4, [142], 0), (260, .iconst 4, [], 0), (261, .iastore, [], 0), (262, .iinc 2 1, [], 0),
  (265, .aload_n 0, [], 0), (266, .getfield 30, [11, 6], 1168), (269, .iload_n 1, [], 0), (270, .lload 5, [], 0), (272, .lastore, [], 0), (273, .iinc 1 1, [], 0),
  (276, .goto (-259), [11], 0), (279, .aload_n 0, [], 0), (280, .getfield 24, [11, 4], 1166), (283, .iload_n 1, [], 0), (284, .iconst 0, [], 0), (285, .iastore, [], 0),
  (286, .aload_n 0, [], 0), (287, .getfield 27, [11, 5], 1167), (290, .iload_n 1, [], 0), (291, .aload_n 0, [], 0), (292, .getfield 175, [11, 3], 1165), (295, .iastore, [], 0),
  (296, .aload_n 0, [], 0), (297, .iconst 0, [], 0), (298, .putfield 194, [11, 7], 1169), (301, .aload_n 0, [], 0), (302, .iconst 0, [], 0), (303, .putfield 197, [11, 8], 1170),
  (306, .return_, [], 0)]
def m_132 : MDt := (⟨"PenThatJumpsModel", "cutAll", "()V"⟩, prog_14_method_9_code, 7, none, 11, 11, P_132)
/-- PenThatJumpsModel.wrong(I)V -/
def P_133 : List IR := [
  (0, .aload_n 0, [], 0), (1, .getfield 197, [11, 8], 1170), (4, .ifCond .ne 21, [14], 0), (7, .aload_n 0, [], 0), (8, .iload_n 1, [], 0), (9, .bipush 16, [], 0),
  (11, .aload_n 0, [], 0), (12, .getfield 27, [11, 5], 1167), (15, .aload_n 0, [], 0), (16, .getfield 194, [11, 7], 1169), (19, .iaload, [], 0), (20, .imul, [], 0),
  (21, .iadd, [], 0), (22, .putfield 197, [11, 8], 1170), (25, .return_, [], 0)]
def m_133 : MDt := (⟨"PenThatJumpsModel", "wrong", "(I)V"⟩, prog_14_method_10_code, 2, none, 11, 11, P_133)
/-- PenThatJumpsModel.isSign(I)Z -/
def P_134 : List IR := [
  (0, .aload_n 0, [], 0), (1, .getfield 197, [11, 8], 1170), (4, .ifCond .ne 35, [21], 0), (7, .aload_n 0, [], 0), (8, .getfield 24, [11, 4], 1166), (11, .aload_n 0, [], 0),
  (12, .getfield 194, [11, 7], 1169), (15, .iaload, [], 0), (16, .iconst 3, [], 0), (17, .if_icmp .ne 22, [21], 0), (20, .aload_n 0, [], 0), (21, .getfield 30, [11, 6], 1168),
  (24, .aload_n 0, [], 0), (25, .getfield 194, [11, 7], 1169), (28, .laload, [], 0), (29, .iload_n 1, [], 0), (30, .i2l, [], 0), (31, .lcmp, [], 0),
  (32, .ifCond .ne 7, [21], 0), (35, .iconst 1, [], 0), (36, .goto 4, [22], 0), (39, .iconst 0, [], 0), (40, .ireturn, [], 0)]
def m_134 : MDt := (⟨"PenThatJumpsModel", "isSign", "(I)Z"⟩, prog_14_method_11_code, 2, some .boolean, 11, 11, P_134)
/-- PenThatJumpsModel.isWord(I)Z -/
def P_135 : List IR := [
  (0, .aload_n 0, [], 0), (1, .getfield 197, [11, 8], 1170), (4, .ifCond .ne 39, [23], 0), (7, .aload_n 0, [], 0), (8, .getfield 24, [11, 4], 1166), (11, .aload_n 0, [], 0),
  (12, .getfield 194, [11, 7], 1169), (15, .iaload, [], 0), (16, .iconst 1, [], 0), (17, .if_icmp .ne 26, [23], 0), (20, .aload_n 0, [], 0), (21, .getfield 30, [11, 6], 1168),
  (24, .aload_n 0, [], 0), (25, .getfield 194, [11, 7], 1169), (28, .laload, [], 0), (29, .aload_n 0, [], 0), (30, .getfield 80, [11, 9], 1171), (33, .iload_n 1, [], 0),
  (34, .laload, [], 0), (35, .lcmp, [], 0), (36, .ifCond .ne 7, [23], 0), (39, .iconst 1, [], 0), (40, .goto 4, [24], 0), (43, .iconst 0, [], 0),
  (44, .ireturn, [], 0)]
def m_135 : MDt := (⟨"PenThatJumpsModel", "isWord", "(I)Z"⟩, prog_14_method_12_code, 2, some .boolean, 11, 11, P_135)
/-- PenThatJumpsModel.takeSign(I)V -/
def P_136 : List IR := [
  (0, .aload_n 0, [], 0), (1, .iload_n 1, [], 0), (2, .invokevirtual 200, [134, 2], 1352), (5, .ifCond .eq 16, [11], 0), (8, .aload_n 0, [], 0), (9, .dup, [], 0),
  (10, .getfield 194, [11, 7], 1169), (13, .iconst 1, [], 0), (14, .iadd, [], 0), (15, .putfield 194, [11, 7], 1169), (18, .goto 8, [14], 0), (21, .aload_n 0, [], 0),
  (22, .iconst 1, [], 0), (23, .invokevirtual 203, [133, 2], 1336), (26, .return_, [], 0)]
def m_136 : MDt := (⟨"PenThatJumpsModel", "takeSign", "(I)V"⟩, prog_14_method_13_code, 2, none, 11, 11, P_136)
/-- PenThatJumpsModel.hasSign(I)Z -/
def P_137 : List IR := [
  (0, .aload_n 0, [], 0), (1, .iload_n 1, [], 0), (2, .invokevirtual 200, [134, 2], 1352), (5, .istore_n 2, [], 0), (6, .aload_n 0, [], 0), (7, .dup, [], 0),
  (8, .getfield 194, [11, 7], 1169), (11, .iload_n 2, [], 0), (12, .ifCond .eq 7, [11], 0), (15, .iconst 1, [], 0), (16, .goto 4, [12], 0), (19, .iconst 0, [], 0),
  (20, .iadd, [], 0), (21, .putfield 194, [11, 7], 1169), (24, .iload_n 2, [], 0), (25, .ireturn, [], 0)]
def m_137 : MDt := (⟨"PenThatJumpsModel", "hasSign", "(I)Z"⟩, prog_14_method_14_code, 3, some .boolean, 11, 11, P_137)
/-- PenThatJumpsModel.hasWord(I)Z -/
def P_138 : List IR := [
  (0, .aload_n 0, [], 0), (1, .iload_n 1, [], 0), (2, .invokevirtual 207, [135, 2], 1332), (5, .istore_n 2, [], 0), (6, .aload_n 0, [], 0), (7, .dup, [], 0),
  (8, .getfield 194, [11, 7], 1169), (11, .iload_n 2, [], 0), (12, .ifCond .eq 7, [11], 0), (15, .iconst 1, [], 0), (16, .goto 4, [12], 0), (19, .iconst 0, [], 0),
  (20, .iadd, [], 0), (21, .putfield 194, [11, 7], 1169), (24, .iload_n 2, [], 0), (25, .ireturn, [], 0)]
def m_138 : MDt := (⟨"PenThatJumpsModel", "hasWord", "(I)Z"⟩, prog_14_method_15_code, 3, some .boolean, 11, 11, P_138)
/-- PenThatJumpsModel.takeWord(I)V -/
def P_139 : List IR := [
  (0, .aload_n 0, [], 0), (1, .iload_n 1, [], 0), (2, .invokevirtual 210, [138, 2], 1344), (5, .ifCond .ne 8, [7], 0), (8, .aload_n 0, [], 0), (9, .iconst 1, [], 0),
  (10, .invokevirtual 203, [133, 2], 1336), (13, .return_, [], 0)]
def m_139 : MDt := (⟨"PenThatJumpsModel", "takeWord", "(I)V"⟩, prog_14_method_16_code, 2, none, 11, 11, P_139)
/-- PenThatJumpsModel.within(III)Z -/
def P_140 : List IR := [
  (0, .iload_n 0, [], 0), (1, .iload_n 1, [], 0), (2, .if_icmp .lt 12, [8], 0), (5, .iload_n 0, [], 0), (6, .iload_n 2, [], 0), (7, .if_icmp .gt 7, [8], 0),
  (10, .iconst 1, [], 0), (11, .goto 4, [9], 0), (14, .iconst 0, [], 0), (15, .ireturn, [], 0)]
def m_140 : MDt := (⟨"PenThatJumpsModel", "within", "(III)Z"⟩, prog_14_method_17_code, 3, some .boolean, 11, 99, P_140)
/-- PenThatJumpsModel.person(IIZIZ)Z -/
def P_141 : List IR := [
  (0, .aload_n 0, [], 0), (1, .iconst 0, [], 0), (2, .putfield 1, [11, 0], 1162), (5, .iload_n 1, [], 0), (6, .iconst 0, [], 0), (7, .bipush 7, [], 0),
  (9, .invokestatic 213, [140, 3], 1298), (12, .ifCond .eq 25, [18], 0), (15, .iload_n 2, [], 0), (16, .iconst 0, [], 0), (17, .bipush 9, [], 0), (19, .invokestatic 213, [140, 3], 1298),
  (22, .ifCond .eq 15, [18], 0), (25, .iload 4, [], 0), (27, .iconst 0, [], 0), (28, .sipush 511, [], 0), (31, .invokestatic 213, [140, 3], 1298), (34, .ifCond .ne 5, [20], 0),
  (37, .iconst 0, [], 0), (38, .ireturn, [], 0), (39, .aload_n 0, [], 0), (40, .getfield 83, [11, 10], 1172), (43, .iload_n 1, [], 0), (44, .iconst 1, [], 0),
  (45, .bastore, [], 0), (46, .aload_n 0, [], 0), (47, .getfield 87, [11, 11], 1173), (50, .iload_n 1, [], 0), (51, .iload_n 2, [], 0), (52, .iastore, [], 0),
  (53, .aload_n 0, [], 0), (54, .getfield 90, [11, 12], 1174), (57, .iload_n 1, [], 0), (58, .iload_n 3, [], 0), (59, .bastore, [], 0), (60, .aload_n 0, [], 0),
  (61, .getfield 93, [11, 13], 1175), (64, .iload_n 1, [], 0), (65, .iload 4, [], 0), (67, .iastore, [], 0), (68, .aload_n 0, [], 0), (69, .getfield 96, [11, 14], 1176),
  (72, .iload_n 1, [], 0), (73, .iload 5, [], 0), (75, .bastore, [], 0), (76, .iconst 1, [], 0), (77, .ireturn, [], 0)]
def m_141 : MDt := (⟨"PenThatJumpsModel", "person", "(IIZIZ)Z"⟩, prog_14_method_18_code, 6, some .boolean, 11, 11, P_141)
/-- PenThatJumpsModel.item(I)Z -/
def P_142 : List IR := [
  (0, .aload_n 0, [], 0), (1, .iconst 0, [], 0), (2, .putfield 1, [11, 0], 1162), (5, .iload_n 1, [], 0), (6, .iconst 0, [], 0), (7, .bipush 8, [], 0),
  (9, .invokestatic 213, [140, 3], 1298), (12, .ifCond .ne 5, [10], 0), (15, .iconst 0, [], 0), (16, .ireturn, [], 0), (17, .aload_n 0, [], 0), (18, .iload_n 1, [], 0),
  (19, .putfield 217, [11, 15], 1177), (22, .iconst 1, [], 0), (23, .ireturn, [], 0)]
def m_142 : MDt := (⟨"PenThatJumpsModel", "item", "(I)Z"⟩, prog_14_method_19_code, 2, some .boolean, 11, 11, P_142)
/-- PenThatJumpsModel.isPerson(I)Z -/
def P_143 : List IR := [
  (0, .iload_n 1, [], 0), (1, .iconst 0, [], 0), (2, .bipush 7, [], 0), (4, .invokestatic 213, [140, 3], 1298), (7, .ifCond .eq 16, [12], 0), (10, .aload_n 0, [], 0),
  (11, .getfield 83, [11, 10], 1172), (14, .iload_n 1, [], 0), (15, .baload, [], 0), (16, .ifCond .eq 7, [12], 0), (19, .iconst 1, [], 0), (20, .goto 4, [13], 0),
  (23, .iconst 0, [], 0), (24, .ireturn, [], 0)]
def m_143 : MDt := (⟨"PenThatJumpsModel", "isPerson", "(I)Z"⟩, prog_14_method_20_code, 2, some .boolean, 11, 11, P_143)
/-- PenThatJumpsModel.takeNumber(II)I -/
def P_144 : List IR := [
  (0, .aload_n 0, [], 0), (1, .getfield 197, [11, 8], 1170), (4, .ifCond .ne 24, [14], 0), (7, .aload_n 0, [], 0), (8, .getfield 24, [11, 4], 1166), (11, .aload_n 0, [], 0),
  (12, .getfield 194, [11, 7], 1169), (15, .iaload, [], 0), (16, .iconst 2, [], 0), (17, .if_icmp .eq 11, [14], 0), (20, .aload_n 0, [], 0), (21, .iconst 1, [], 0),
  (22, .invokevirtual 203, [133, 2], 1336), (25, .goto 45, [38], 0), (28, .aload_n 0, [], 0), (29, .getfield 197, [11, 8], 1170), (32, .ifCond .ne 38, [38], 0), (35, .aload_n 0, [], 0),
  (36, .getfield 30, [11, 6], 1168), (39, .aload_n 0, [], 0), (40, .getfield 194, [11, 7], 1169), (43, .laload, [], 0), (44, .iload_n 1, [], 0), (45, .i2l, [], 0),
  (46, .lcmp, [], 0), (47, .ifCond .lt 18, [35], 0), (50, .aload_n 0, [], 0), (51, .getfield 30, [11, 6], 1168), (54, .aload_n 0, [], 0), (55, .getfield 194, [11, 7], 1169),
  (58, .laload, [], 0), (59, .iload_n 2, [], 0), (60, .i2l, [], 0), (61, .lcmp, [], 0), (62, .ifCond .le 8, [38], 0), (65, .aload_n 0, [], 0),
  (66, .iconst 4, [], 0), (67, .invokevirtual 203, [133, 2], 1336), (70, .aload_n 0, [], 0), (71, .getfield 197, [11, 8], 1170), (74, .ifCond .le 5, [43], 0), (77, .iconst 0, [], 0),
  (78, .ireturn, [], 0), (79, .aload_n 0, [], 0), (80, .dup, [], 0), (81, .getfield 194, [11, 7], 1169), (84, .iconst 1, [], 0), (85, .iadd, [], 0),
  (86, .putfield 194, [11, 7], 1169), (89, .aload_n 0, [], 0), (90, .getfield 30, [11, 6], 1168), (93, .aload_n 0, [], 0), (94, .getfield 194, [11, 7], 1169), (97, .iconst 1, [], 0),
  (98, .isub, [], 0), (99, .laload, [], 0), (100, .l2i, [], 0), (101, .ireturn, [], 0)]
def m_144 : MDt := (⟨"PenThatJumpsModel", "takeNumber", "(II)I"⟩, prog_14_method_21_code, 3, some .int, 11, 11, P_144)
/-- PenThatJumpsModel.plan(I)I -/
def P_145 : List IR := [
  (0, .aload_n 0, [], 0), (1, .iconst 0, [], 0), (2, .putfield 1, [11, 0], 1162), (5, .iload_n 1, [], 0), (6, .iconst 0, [], 0), (7, .iconst 3, [], 0),
  (8, .invokestatic 213, [140, 3], 1298), (11, .ifCond .ne 10, [13], 0), (14, .aload_n 0, [], 0), (15, .iconst 0, [], 0), (16, .putfield 11, [11, 2], 1164), (19, .iconst (-1), [], 0),
  (20, .ireturn, [], 0), (21, .aload_n 0, [], 0), (22, .invokevirtual 220, [132, 1], 1309), (25, .aload_n 0, [], 0), (26, .getfield 99, [11, 16], 1178), (29, .iconst 4, [], 0),
  (30, .iconst 0, [], 0), (31, .iastore, [], 0), (32, .aload_n 0, [], 0), (33, .invokevirtual 223, [146, 1], 1328), (36, .aload_n 0, [], 0), (37, .getfield 197, [11, 8], 1170),
  (40, .ifCond .ne 22, [34], 0), (43, .aload_n 0, [], 0), (44, .getfield 24, [11, 4], 1166), (47, .aload_n 0, [], 0), (48, .getfield 194, [11, 7], 1169), (51, .iaload, [], 0),
  (52, .ifCond .eq 10, [34], 0), (55, .aload_n 0, [], 0), (56, .invokevirtual 223, [146, 1], 1328), (59, .goto (-23), [22], 0), (62, .aload_n 0, [], 0), (63, .getfield 197, [11, 8], 1170),
  (66, .ifCond .le 8, [40], 0), (69, .aload_n 0, [], 0), (70, .getfield 197, [11, 8], 1170), (73, .ireturn, [], 0), (74, .aload_n 0, [], 0), (75, .getfield 99, [11, 16], 1178),
  (78, .iload_n 1, [], 0), (79, .aload_n 0, [], 0), (80, .getfield 99, [11, 16], 1178), (83, .iconst 4, [], 0), (84, .iaload, [], 0), (85, .iastore, [], 0),
  (86, .iconst 0, [], 0), (87, .istore_n 2, [], 0), (88, .iload_n 2, [], 0), (89, .bipush 12, [], 0), (91, .if_icmp .ge 69, [97], 0), (94, .aload_n 0, [], 0),
  (95, .getfield 102, [11, 17], 1179), (98, .bipush 12, [], 0), (100, .iload_n 1, [], 0), (101, .imul, [], 0), (102, .iload_n 2, [], 0), (103, .iadd, [], 0),
  (104, .aload_n 0, [], 0), (105, .getfield 102, [11, 17], 1179), (108, .bipush 48, [], 0), (110, .iload_n 2, [], 0), (111, .iadd, [], 0), (112, .iaload, [], 0),
  (113, .iastore, [], 0), (114, .aload_n 0, [], 0), (115, .getfield 105, [11, 18], 1180), (118, .bipush 12, [], 0), (120, .iload_n 1, [], 0), (121, .imul, [], 0),
  (122, .iload_n 2, [], 0), (123, .iadd, [], 0), (124, .aload_n 0, [], 0), (125, .getfield 105, [11, 18], 1180), (128, .bipush 48, [], 0), (130, .iload_n 2, [], 0),
  (131, .iadd, [], 0), (132, .iaload, [], 0), (133, .iastore, [], 0), (134, .aload_n 0, [], 0), (135, .getfield 108, [11, 19], 1181), (138, .bipush 12, [], 0),
  (140, .iload_n 1, [], 0), (141, .imul, [], 0), (142, .iload_n 2, [], 0), (143, .iadd, [], 0), (144, .aload_n 0, [], 0), (145, .getfield 108, [11, 19], 1181),
  (148, .bipush 48, [], 0), (150, .iload_n 2, [], 0), (151, .iadd, [], 0), (152, .iaload, [], 0), (153, .iastore, [], 0), (154, .iinc 2 1, [], 0),
  (157, .goto (-69), [50], 0), (160, .iconst 0, [], 0), (161, .ireturn, [], 0)]
def m_145 : MDt := (⟨"PenThatJumpsModel", "plan", "(I)I"⟩, prog_14_method_22_code, 3, some .int, 11, 11, P_145)
/-- PenThatJumpsModel.readAsk()V -/
def P_146 : List IR := [
  (0, .aload_n 0, [], 0), (1, .iconst 0, [], 0), (2, .invokevirtual 207, [135, 2], 1332), (5, .ifCond .ne 11, [8], 0), (8, .aload_n 0, [], 0), (9, .iconst 1, [], 0),
  (10, .invokevirtual 203, [133, 2], 1336), (13, .goto 19, [17], 0), (16, .aload_n 0, [], 0), (17, .getfield 99, [11, 16], 1178), (20, .iconst 4, [], 0), (21, .iaload, [], 0),
  (22, .bipush 12, [], 0), (24, .if_icmp .ne 8, [17], 0), (27, .aload_n 0, [], 0), (28, .iconst 5, [], 0), (29, .invokevirtual 203, [133, 2], 1336), (32, .aload_n 0, [], 0),
  (33, .getfield 197, [11, 8], 1170), (36, .ifCond .le 4, [21], 0), (39, .return_, [], 0), (40, .aload_n 0, [], 0), (41, .dup, [], 0), (42, .getfield 194, [11, 7], 1169),
  (45, .iconst 1, [], 0), (46, .iadd, [], 0), (47, .putfield 194, [11, 7], 1169), (50, .iconst (-1), [], 0), (51, .istore_n 1, [], 0), (52, .iconst 0, [], 0),
  (53, .istore_n 2, [], 0), (54, .iload_n 2, [], 0), (55, .iconst 4, [], 0), (56, .if_icmp .ge 26, [46], 0), (59, .aload_n 0, [], 0), (60, .bipush 8, [], 0),
  (62, .iload_n 2, [], 0), (63, .iadd, [], 0), (64, .invokevirtual 207, [135, 2], 1332), (67, .ifCond .eq 7, [42], 0), (70, .iload_n 2, [], 0), (71, .goto 4, [43], 0),
  (74, .iload_n 1, [], 0), (75, .istore_n 1, [], 0), (76, .iinc 2 1, [], 0), (79, .goto (-25), [31], 0), (82, .iload_n 1, [], 0), (83, .ifCond .ge 9, [52], 0),
  (86, .aload_n 0, [], 0), (87, .iconst 1, [], 0), (88, .invokevirtual 203, [133, 2], 1336), (91, .return_, [], 0), (92, .aload_n 0, [], 0), (93, .dup, [], 0),
  (94, .getfield 194, [11, 7], 1169), (97, .iconst 1, [], 0), (98, .iadd, [], 0), (99, .putfield 194, [11, 7], 1169), (102, .bipush 48, [], 0), (104, .aload_n 0, [], 0),
  (105, .getfield 99, [11, 16], 1178), (108, .iconst 4, [], 0), (109, .iaload, [], 0), (110, .iadd, [], 0), (111, .istore_n 2, [], 0), (112, .aload_n 0, [], 0),
  (113, .getfield 102, [11, 17], 1179), (116, .iload_n 2, [], 0), (117, .iload_n 1, [], 0), (118, .iastore, [], 0), (119, .aload_n 0, [], 0), (120, .getfield 105, [11, 18], 1180),
  (123, .iload_n 2, [], 0), (124, .iload_n 1, [], 0), (125, .iconst 3, [], 0), (126, .if_icmp .ne 13, [81], 0), (129, .aload_n 0, [], 0), (130, .iconst 0, [], 0),
  (131, .bipush 8, [], 0), (133, .invokevirtual 226, [144, 3], 1340), (136, .goto 4, [82], 0), (139, .iconst (-1), [], 0), (140, .iastore, [], 0), (141, .aload_n 0, [], 0),
  (142, .getfield 108, [11, 19], 1181), (145, .iload_n 2, [], 0), (146, .aload_n 0, [], 0), (147, .iconst 1, [], 0), (148, .invokevirtual 210, [138, 2], 1344), (151, .ifCond .eq 13, [95], 0),
  (154, .aload_n 0, [], 0), (155, .iconst 1, [], 0), (156, .bipush 9, [], 0), (158, .invokevirtual 226, [144, 3], 1340), (161, .goto 4, [96], 0), (164, .iconst 1, [], 0),
  (165, .iastore, [], 0), (166, .aload_n 0, [], 0), (167, .getfield 99, [11, 16], 1178), (170, .iconst 4, [], 0), (171, .dup2, [], 0), (172, .iaload, [], 0),
  (173, .iconst 1, [], 0), (174, .iadd, [], 0), (175, .iastore, [], 0), (176, .aload_n 0, [], 0), (177, .bipush 59, [], 0), (179, .invokevirtual 230, [136, 2], 1348),
  (182, .return_, [], 0)]
def m_146 : MDt := (⟨"PenThatJumpsModel", "readAsk", "()V"⟩, prog_14_method_23_code, 3, none, 11, 11, P_146)
/-- PenThatJumpsModel.isPlan(I)Z -/
def P_147 : List IR := [
  (0, .iload_n 1, [], 0), (1, .iconst 0, [], 0), (2, .iconst 3, [], 0), (3, .invokestatic 213, [140, 3], 1298), (6, .ifCond .eq 16, [12], 0), (9, .aload_n 0, [], 0),
  (10, .getfield 99, [11, 16], 1178), (13, .iload_n 1, [], 0), (14, .iaload, [], 0), (15, .ifCond .le 7, [12], 0), (18, .iconst 1, [], 0), (19, .goto 4, [13], 0),
  (22, .iconst 0, [], 0), (23, .ireturn, [], 0)]
def m_147 : MDt := (⟨"PenThatJumpsModel", "isPlan", "(I)Z"⟩, prog_14_method_24_code, 2, some .boolean, 11, 11, P_147)
/-- PenThatJumpsModel.question(III)I -/
def P_148 : List IR := [
  (0, .aload_n 0, [], 0), (1, .iconst 0, [], 0), (2, .putfield 1, [11, 0], 1162), (5, .aload_n 0, [], 0), (6, .iload_n 1, [], 0), (7, .invokevirtual 233, [147, 2], 1360),
  (10, .ifCond .eq 28, [22], 0), (13, .iload_n 2, [], 0), (14, .iconst 0, [], 0), (15, .aload_n 0, [], 0), (16, .getfield 99, [11, 16], 1178), (19, .iload_n 1, [], 0),
  (20, .iaload, [], 0), (21, .iconst 1, [], 0), (22, .isub, [], 0), (23, .invokestatic 213, [140, 3], 1298), (26, .ifCond .eq 12, [22], 0), (29, .iload_n 3, [], 0),
  (30, .iconst 0, [], 0), (31, .iconst 2, [], 0), (32, .invokestatic 213, [140, 3], 1298), (35, .ifCond .ne 5, [24], 0), (38, .iconst (-1), [], 0), (39, .ireturn, [], 0),
  (40, .bipush 12, [], 0), (42, .iload_n 1, [], 0), (43, .imul, [], 0), (44, .iload_n 2, [], 0), (45, .iadd, [], 0), (46, .istore 4, [], 0),
  (48, .iload_n 3, [], 0), (49, .ifCond .ne 13, [37], 0), (52, .aload_n 0, [], 0), (53, .getfield 102, [11, 17], 1179), (56, .iload 4, [], 0), (58, .iaload, [], 0),
  (59, .goto 25, [49], 0), (62, .iload_n 3, [], 0), (63, .iconst 1, [], 0), (64, .if_icmp .ne 13, [45], 0), (67, .aload_n 0, [], 0), (68, .getfield 105, [11, 18], 1180),
  (71, .iload 4, [], 0), (73, .iaload, [], 0), (74, .goto 10, [49], 0), (77, .aload_n 0, [], 0), (78, .getfield 108, [11, 19], 1181), (81, .iload 4, [], 0),
  (83, .iaload, [], 0), (84, .ireturn, [], 0)]
def m_148 : MDt := (⟨"PenThatJumpsModel", "question", "(III)I"⟩, prog_14_method_25_code, 5, some .int, 11, 11, P_148)
/-- PenThatJumpsModel.emit(II)V -/
def P_149 : List IR := [
  (0, .aload_n 0, [], 0), (1, .getfield 111, [11, 22], 1184), (4, .sipush 5500, [], 0), (7, .aload_n 0, [], 0), (8, .getfield 236, [11, 20], 1182), (11, .iadd, [], 0),
  (12, .iload_n 1, [], 0), (13, .iastore, [], 0), (14, .aload_n 0, [], 0), (15, .getfield 114, [11, 23], 1185), (18, .sipush 5500, [], 0), (21, .aload_n 0, [], 0),
  (22, .getfield 236, [11, 20], 1182), (25, .iadd, [], 0), (26, .iload_n 2, [], 0), (27, .iastore, [], 0), (28, .aload_n 0, [], 0), (29, .dup, [], 0),
  (30, .getfield 236, [11, 20], 1182), (33, .iconst 1, [], 0), (34, .iadd, [], 0), (35, .putfield 236, [11, 20], 1182), (38, .return_, [], 0)]
def m_149 : MDt := (⟨"PenThatJumpsModel", "emit", "(II)V"⟩, prog_14_method_26_code, 3, none, 11, 11, P_149)
/-- PenThatJumpsModel.keepsCodes(I)V -/
def P_150 : List IR := [
  (0, .iconst 0, [], 0), (1, .istore_n 2, [], 0), (2, .iload_n 2, [], 0), (3, .aload_n 0, [], 0), (4, .getfield 236, [11, 20], 1182), (7, .if_icmp .ge 53, [36], 0),
  (10, .aload_n 0, [], 0), (11, .getfield 111, [11, 22], 1184), (14, .sipush 1100, [], 0), (17, .iload_n 1, [], 0), (18, .imul, [], 0), (19, .iload_n 2, [], 0),
  (20, .iadd, [], 0), (21, .aload_n 0, [], 0), (22, .getfield 111, [11, 22], 1184), (25, .sipush 5500, [], 0), (28, .iload_n 2, [], 0), (29, .iadd, [], 0),
  (30, .iaload, [], 0), (31, .iastore, [], 0), (32, .aload_n 0, [], 0), (33, .getfield 114, [11, 23], 1185), (36, .sipush 1100, [], 0), (39, .iload_n 1, [], 0),
  (40, .imul, [], 0), (41, .iload_n 2, [], 0), (42, .iadd, [], 0), (43, .aload_n 0, [], 0), (44, .getfield 114, [11, 23], 1185), (47, .sipush 5500, [], 0),
  (50, .iload_n 2, [], 0), (51, .iadd, [], 0), (52, .iaload, [], 0), (53, .iastore, [], 0), (54, .iinc 2 1, [], 0), (57, .goto (-55), [2], 0),
  (60, .return_, [], 0)]
def m_150 : MDt := (⟨"PenThatJumpsModel", "keepsCodes", "(I)V"⟩, prog_14_method_27_code, 3, none, 11, 11, P_150)
/-- PenThatJumpsModel.body()I -/
def P_151 : List IR := [
  (0, .aload_n 0, [], 0), (1, .iconst 0, [], 0), (2, .putfield 1, [11, 0], 1162), (5, .aload_n 0, [], 0), (6, .invokevirtual 220, [132, 1], 1309), (9, .aload_n 0, [], 0),
  (10, .iconst 0, [], 0), (11, .putfield 236, [11, 20], 1182), (14, .aload_n 0, [], 0), (15, .iconst 0, [], 0), (16, .putfield 239, [11, 21], 1183), (19, .iconst 0, [], 0),
  (20, .istore_n 1, [], 0), (21, .iload_n 1, [], 0), (22, .iconst 3, [], 0), (23, .if_icmp .ge 16, [23], 0), (26, .aload_n 0, [], 0), (27, .getfield 120, [11, 25], 1187),
  (30, .iload_n 1, [], 0), (31, .iconst (-1), [], 0), (32, .iastore, [], 0), (33, .iinc 1 1, [], 0), (36, .goto (-15), [13], 0), (39, .aload_n 0, [], 0),
  (40, .getfield 197, [11, 8], 1170), (43, .ifCond .ne 116, [86], 0), (46, .aload_n 0, [], 0), (47, .getfield 24, [11, 4], 1166), (50, .aload_n 0, [], 0), (51, .getfield 194, [11, 7], 1169),
  (54, .iaload, [], 0), (55, .ifCond .eq 104, [86], 0), (58, .aload_n 0, [], 0), (59, .iconst 2, [], 0), (60, .invokevirtual 243, [139, 2], 1368), (63, .aload_n 0, [], 0),
  (64, .getfield 197, [11, 8], 1170), (67, .ifCond .ne 55, [66], 0), (70, .aload_n 0, [], 0), (71, .getfield 24, [11, 4], 1166), (74, .aload_n 0, [], 0), (75, .getfield 194, [11, 7], 1169),
  (78, .iaload, [], 0), (79, .iconst 2, [], 0), (80, .if_icmp .ne 42, [66], 0), (83, .aload_n 0, [], 0), (84, .getfield 30, [11, 6], 1168), (87, .aload_n 0, [], 0),
  (88, .getfield 194, [11, 7], 1169), (91, .laload, [], 0), (92, .ldc2_w 246, [3], 1372), (95, .lcmp, [], 0), (96, .ifCond .ge 26, [66], 0), (99, .aload_n 0, [], 0),
  (100, .getfield 120, [11, 25], 1187), (103, .aload_n 0, [], 0), (104, .getfield 30, [11, 6], 1168), (107, .aload_n 0, [], 0), (108, .getfield 194, [11, 7], 1169), (111, .laload, [], 0),
  (112, .l2i, [], 0), (113, .iaload, [], 0), (114, .ifCond .lt 8, [66], 0), (117, .aload_n 0, [], 0), (118, .iconst 3, [], 0), (119, .invokevirtual 203, [133, 2], 1336),
  (122, .aload_n 0, [], 0), (123, .iconst 0, [], 0), (124, .iconst 2, [], 0), (125, .invokevirtual 226, [144, 3], 1340), (128, .istore_n 1, [], 0), (129, .aload_n 0, [], 0),
  (130, .bipush 61, [], 0), (132, .invokevirtual 230, [136, 2], 1348), (135, .aload_n 0, [], 0), (136, .getfield 197, [11, 8], 1170), (139, .ifCond .ne 13, [83], 0), (142, .aload_n 0, [], 0),
  (143, .getfield 120, [11, 25], 1187), (146, .iload_n 1, [], 0), (147, .aload_n 0, [], 0), (148, .getfield 236, [11, 20], 1182), (151, .iastore, [], 0), (152, .aload_n 0, [], 0),
  (153, .invokevirtual 248, [153, 1], 1373), (156, .goto (-117), [23], 0), (159, .aload_n 0, [], 0), (160, .getfield 197, [11, 8], 1170), (163, .ifCond .ne 33, [107], 0), (166, .aload_n 0, [], 0),
  (167, .iconst 0, [], 0), (168, .invokevirtual 251, [150, 2], 1409), (171, .iconst 0, [], 0), (172, .istore_n 1, [], 0), (173, .iload_n 1, [], 0), (174, .iconst 3, [], 0),
  (175, .if_icmp .ge 21, [107], 0), (178, .aload_n 0, [], 0), (179, .getfield 117, [11, 24], 1186), (182, .iload_n 1, [], 0), (183, .aload_n 0, [], 0), (184, .getfield 120, [11, 25], 1187),
  (187, .iload_n 1, [], 0), (188, .iaload, [], 0), (189, .iastore, [], 0), (190, .iinc 1 1, [], 0), (193, .goto (-20), [94], 0), (196, .aload_n 0, [], 0),
  (197, .getfield 197, [11, 8], 1170), (200, .ireturn, [], 0)]
def m_151 : MDt := (⟨"PenThatJumpsModel", "body", "()I"⟩, prog_14_method_28_code, 2, some .int, 11, 11, P_151)
/-- PenThatJumpsModel.reader(I)I -/
def P_152 : List IR := [
  (0, .aload_n 0, [], 0), (1, .iconst 0, [], 0), (2, .putfield 1, [11, 0], 1162), (5, .iload_n 1, [], 0), (6, .iconst 0, [], 0), (7, .iconst 3, [], 0),
  (8, .invokestatic 213, [140, 3], 1298), (11, .ifCond .ne 10, [13], 0), (14, .aload_n 0, [], 0), (15, .iconst 0, [], 0), (16, .putfield 11, [11, 2], 1164), (19, .iconst (-1), [], 0),
  (20, .ireturn, [], 0), (21, .aload_n 0, [], 0), (22, .invokevirtual 220, [132, 1], 1309), (25, .aload_n 0, [], 0), (26, .iconst 0, [], 0), (27, .putfield 236, [11, 20], 1182),
  (30, .aload_n 0, [], 0), (31, .iconst 1, [], 0), (32, .putfield 239, [11, 21], 1183), (35, .aload_n 0, [], 0), (36, .getfield 123, [11, 26], 1188), (39, .iconst 4, [], 0),
  (40, .iconst 0, [], 0), (41, .iastore, [], 0), (42, .aload_n 0, [], 0), (43, .getfield 197, [11, 8], 1170), (46, .ifCond .ne 104, [86], 0), (49, .aload_n 0, [], 0),
  (50, .getfield 24, [11, 4], 1166), (53, .aload_n 0, [], 0), (54, .getfield 194, [11, 7], 1169), (57, .iaload, [], 0), (58, .ifCond .eq 92, [86], 0), (61, .aload_n 0, [], 0),
  (62, .iconst 3, [], 0), (63, .invokevirtual 207, [135, 2], 1332), (66, .ifCond .ne 11, [43], 0), (69, .aload_n 0, [], 0), (70, .iconst 1, [], 0), (71, .invokevirtual 203, [133, 2], 1336),
  (74, .goto 19, [52], 0), (77, .aload_n 0, [], 0), (78, .getfield 123, [11, 26], 1188), (81, .iconst 4, [], 0), (82, .iaload, [], 0), (83, .bipush 6, [], 0),
  (85, .if_icmp .ne 8, [52], 0), (88, .aload_n 0, [], 0), (89, .iconst 5, [], 0), (90, .invokevirtual 203, [133, 2], 1336), (93, .aload_n 0, [], 0), (94, .getfield 197, [11, 8], 1170),
  (97, .ifCond .ne (-55), [26], 0), (100, .aload_n 0, [], 0), (101, .dup, [], 0), (102, .getfield 194, [11, 7], 1169), (105, .iconst 1, [], 0), (106, .iadd, [], 0),
  (107, .putfield 194, [11, 7], 1169), (110, .aload_n 0, [], 0), (111, .iconst 4, [], 0), (112, .invokevirtual 243, [139, 2], 1368), (115, .aload_n 0, [], 0), (116, .getfield 126, [11, 27], 1189),
  (119, .bipush 24, [], 0), (121, .aload_n 0, [], 0), (122, .getfield 123, [11, 26], 1188), (125, .iconst 4, [], 0), (126, .iaload, [], 0), (127, .iadd, [], 0),
  (128, .aload_n 0, [], 0), (129, .getfield 236, [11, 20], 1182), (132, .iastore, [], 0), (133, .aload_n 0, [], 0), (134, .getfield 123, [11, 26], 1188), (137, .iconst 4, [], 0),
  (138, .dup2, [], 0), (139, .iaload, [], 0), (140, .iconst 1, [], 0), (141, .iadd, [], 0), (142, .iastore, [], 0), (143, .aload_n 0, [], 0),
  (144, .invokevirtual 248, [153, 1], 1373), (147, .goto (-105), [26], 0), (150, .aload_n 0, [], 0), (151, .getfield 197, [11, 8], 1170), (154, .ifCond .ne 56, [123], 0), (157, .aload_n 0, [], 0),
  (158, .iconst 1, [], 0), (159, .iload_n 1, [], 0), (160, .iadd, [], 0), (161, .invokevirtual 251, [150, 2], 1409), (164, .aload_n 0, [], 0), (165, .getfield 123, [11, 26], 1188),
  (168, .iload_n 1, [], 0), (169, .aload_n 0, [], 0), (170, .getfield 123, [11, 26], 1188), (173, .iconst 4, [], 0), (174, .iaload, [], 0), (175, .iastore, [], 0),
  (176, .iconst 0, [], 0), (177, .istore_n 2, [], 0), (178, .iload_n 2, [], 0), (179, .bipush 6, [], 0), (181, .if_icmp .ge 29, [123], 0), (184, .aload_n 0, [], 0),
  (185, .getfield 126, [11, 27], 1189), (188, .bipush 6, [], 0), (190, .iload_n 1, [], 0), (191, .imul, [], 0), (192, .iload_n 2, [], 0), (193, .iadd, [], 0),
  (194, .aload_n 0, [], 0), (195, .getfield 126, [11, 27], 1189), (198, .bipush 24, [], 0), (200, .iload_n 2, [], 0), (201, .iadd, [], 0), (202, .iaload, [], 0),
  (203, .iastore, [], 0), (204, .iinc 2 1, [], 0), (207, .goto (-29), [104], 0), (210, .aload_n 0, [], 0), (211, .getfield 197, [11, 8], 1170), (214, .ireturn, [], 0)]
def m_152 : MDt := (⟨"PenThatJumpsModel", "reader", "(I)I"⟩, prog_14_method_29_code, 3, some .int, 11, 11, P_152)
/-- PenThatJumpsModel.readWhole()V -/
def P_153 : List IR := [
  (0, .aload_n 0, [], 0), (1, .iconst 0, [], 0), (2, .invokevirtual 254, [154, 2], 1377), (5, .aload_n 0, [], 0), (6, .iconst 0, [], 0), (7, .iconst 0, [], 0),
  (8, .invokevirtual 257, [149, 3], 1401), (11, .aload_n 0, [], 0), (12, .bipush 59, [], 0), (14, .invokevirtual 230, [136, 2], 1348), (17, .return_, [], 0)]
def m_153 : MDt := (⟨"PenThatJumpsModel", "readWhole", "()V"⟩, prog_14_method_30_code, 1, none, 11, 11, P_153)
/-- PenThatJumpsModel.all(I)V -/
def P_154 : List IR := [
  (0, .aload_n 0, [], 0), (1, .iload_n 1, [], 0), (2, .invokevirtual 261, [155, 2], 1381), (5, .aload_n 0, [], 0), (6, .iconst 5, [], 0), (7, .invokevirtual 207, [135, 2], 1332),
  (10, .ifCond .ne 12, [11], 0), (13, .aload_n 0, [], 0), (14, .bipush 6, [], 0), (16, .invokevirtual 207, [135, 2], 1332), (19, .ifCond .eq 43, [33], 0), (22, .aload_n 0, [], 0),
  (23, .iconst 5, [], 0), (24, .invokevirtual 207, [135, 2], 1332), (27, .istore_n 2, [], 0), (28, .aload_n 0, [], 0), (29, .dup, [], 0), (30, .getfield 194, [11, 7], 1169),
  (33, .iconst 1, [], 0), (34, .iadd, [], 0), (35, .putfield 194, [11, 7], 1169), (38, .aload_n 0, [], 0), (39, .iload_n 1, [], 0), (40, .invokevirtual 261, [155, 2], 1381),
  (43, .aload_n 0, [], 0), (44, .iload_n 2, [], 0), (45, .ifCond .eq 8, [29], 0), (48, .bipush 9, [], 0), (50, .goto 5, [30], 0), (53, .bipush 10, [], 0),
  (55, .iconst 0, [], 0), (56, .invokevirtual 257, [149, 3], 1401), (59, .goto (-54), [3], 0), (62, .return_, [], 0)]
def m_154 : MDt := (⟨"PenThatJumpsModel", "all", "(I)V"⟩, prog_14_method_31_code, 3, none, 11, 11, P_154)
/-- PenThatJumpsModel.test(I)V -/
def P_155 : List IR := [
  (0, .aload_n 0, [], 0), (1, .iload_n 1, [], 0), (2, .invokevirtual 264, [156, 2], 1385), (5, .aload_n 0, [], 0), (6, .bipush 60, [], 0), (8, .invokevirtual 200, [134, 2], 1352),
  (11, .istore_n 2, [], 0), (12, .aload_n 0, [], 0), (13, .bipush 60, [], 0), (15, .invokevirtual 267, [137, 2], 1405), (18, .ifCond .ne 12, [15], 0), (21, .aload_n 0, [], 0),
  (22, .bipush 61, [], 0), (24, .invokevirtual 267, [137, 2], 1405), (27, .ifCond .eq 24, [26], 0), (30, .aload_n 0, [], 0), (31, .iload_n 1, [], 0), (32, .invokevirtual 264, [156, 2], 1385),
  (35, .aload_n 0, [], 0), (36, .iload_n 2, [], 0), (37, .ifCond .eq 8, [23], 0), (40, .bipush 7, [], 0), (42, .goto 5, [24], 0), (45, .bipush 8, [], 0),
  (47, .iconst 0, [], 0), (48, .invokevirtual 257, [149, 3], 1401), (51, .return_, [], 0)]
def m_155 : MDt := (⟨"PenThatJumpsModel", "test", "(I)V"⟩, prog_14_method_32_code, 3, none, 11, 11, P_155)
/-- PenThatJumpsModel.sums(I)V -/
def P_156 : List IR := [
  (0, .aload_n 0, [], 0), (1, .iload_n 1, [], 0), (2, .invokevirtual 270, [157, 2], 1389), (5, .aload_n 0, [], 0), (6, .bipush 43, [], 0), (8, .invokevirtual 200, [134, 2], 1352),
  (11, .ifCond .ne 12, [11], 0), (14, .aload_n 0, [], 0), (15, .bipush 45, [], 0), (17, .invokevirtual 200, [134, 2], 1352), (20, .ifCond .eq 42, [33], 0), (23, .aload_n 0, [], 0),
  (24, .bipush 43, [], 0), (26, .invokevirtual 200, [134, 2], 1352), (29, .istore_n 2, [], 0), (30, .aload_n 0, [], 0), (31, .dup, [], 0), (32, .getfield 194, [11, 7], 1169),
  (35, .iconst 1, [], 0), (36, .iadd, [], 0), (37, .putfield 194, [11, 7], 1169), (40, .aload_n 0, [], 0), (41, .iload_n 1, [], 0), (42, .invokevirtual 270, [157, 2], 1389),
  (45, .aload_n 0, [], 0), (46, .iload_n 2, [], 0), (47, .ifCond .eq 7, [29], 0), (50, .iconst 4, [], 0), (51, .goto 4, [30], 0), (54, .iconst 5, [], 0),
  (55, .iconst 0, [], 0), (56, .invokevirtual 257, [149, 3], 1401), (59, .goto (-54), [3], 0), (62, .return_, [], 0)]
def m_156 : MDt := (⟨"PenThatJumpsModel", "sums", "(I)V"⟩, prog_14_method_33_code, 3, none, 11, 11, P_156)
/-- PenThatJumpsModel.products(I)V -/
def P_157 : List IR := [
  (0, .aload_n 0, [], 0), (1, .iload_n 1, [], 0), (2, .invokevirtual 273, [159, 2], 1393), (5, .aload_n 0, [], 0), (6, .bipush 42, [], 0), (8, .invokevirtual 267, [137, 2], 1405),
  (11, .ifCond .eq 18, [15], 0), (14, .aload_n 0, [], 0), (15, .iload_n 1, [], 0), (16, .invokevirtual 273, [159, 2], 1393), (19, .aload_n 0, [], 0), (20, .bipush 6, [], 0),
  (22, .iconst 0, [], 0), (23, .invokevirtual 257, [149, 3], 1401), (26, .goto (-21), [3], 0), (29, .return_, [], 0)]
def m_157 : MDt := (⟨"PenThatJumpsModel", "products", "(I)V"⟩, prog_14_method_34_code, 2, none, 11, 11, P_157)
/-- PenThatJumpsModel.factHere()I -/
def P_158 : List IR := [
  (0, .iconst (-1), [], 0), (1, .istore_n 1, [], 0), (2, .aload_n 0, [], 0), (3, .getfield 239, [11, 21], 1183), (6, .ifCond .ne 37, [24], 0), (9, .bipush 8, [], 0),
  (11, .istore_n 2, [], 0), (12, .iload_n 2, [], 0), (13, .bipush 19, [], 0), (15, .if_icmp .gt 26, [22], 0), (18, .aload_n 0, [], 0), (19, .iload_n 2, [], 0),
  (20, .invokevirtual 207, [135, 2], 1332), (23, .ifCond .eq 10, [18], 0), (26, .iload_n 2, [], 0), (27, .bipush 8, [], 0), (29, .isub, [], 0), (30, .goto 4, [19], 0),
  (33, .iload_n 1, [], 0), (34, .istore_n 1, [], 0), (35, .iinc 2 1, [], 0), (38, .goto (-26), [7], 0), (41, .iload_n 1, [], 0), (42, .ireturn, [], 0),
  (43, .iconst 0, [], 0), (44, .istore_n 2, [], 0), (45, .iload_n 2, [], 0), (46, .iconst 5, [], 0), (47, .if_icmp .ge 30, [45], 0), (50, .aload_n 0, [], 0),
  (51, .bipush 8, [], 0), (53, .iload_n 2, [], 0), (54, .iadd, [], 0), (55, .invokevirtual 207, [135, 2], 1332), (58, .ifCond .eq 11, [41], 0), (61, .iconst 2, [], 0),
  (62, .iconst 3, [], 0), (63, .iload_n 2, [], 0), (64, .imul, [], 0), (65, .iadd, [], 0), (66, .goto 4, [42], 0), (69, .iload_n 1, [], 0),
  (70, .istore_n 1, [], 0), (71, .iinc 2 1, [], 0), (74, .goto (-29), [26], 0), (77, .aload_n 0, [], 0), (78, .bipush 22, [], 0), (80, .invokevirtual 207, [135, 2], 1332),
  (83, .ifCond .eq 8, [51], 0), (86, .bipush 17, [], 0), (88, .goto 4, [52], 0), (91, .iload_n 1, [], 0), (92, .istore_n 1, [], 0), (93, .aload_n 0, [], 0),
  (94, .bipush 20, [], 0), (96, .invokevirtual 207, [135, 2], 1332), (99, .ifCond .eq 7, [59], 0), (102, .iconst 0, [], 0), (103, .goto 17, [66], 0), (106, .aload_n 0, [], 0),
  (107, .bipush 21, [], 0), (109, .invokevirtual 207, [135, 2], 1332), (112, .ifCond .eq 7, [65], 0), (115, .iconst 1, [], 0), (116, .goto 4, [66], 0), (119, .iload_n 1, [], 0),
  (120, .ireturn, [], 0)]
def m_158 : MDt := (⟨"PenThatJumpsModel", "factHere", "()I"⟩, prog_14_method_35_code, 3, some .int, 11, 11, P_158)
/-- PenThatJumpsModel.takePart(I)V -/
def P_159 : List IR := [
  (0, .aload_n 0, [], 0), (1, .getfield 197, [11, 8], 1170), (4, .ifCond .le 4, [4], 0), (7, .return_, [], 0), (8, .aload_n 0, [], 0), (9, .invokevirtual 276, [158, 1], 1397),
  (12, .istore_n 2, [], 0), (13, .aload_n 0, [], 0), (14, .getfield 24, [11, 4], 1166), (17, .aload_n 0, [], 0), (18, .getfield 194, [11, 7], 1169), (21, .iaload, [], 0),
  (22, .iconst 2, [], 0), (23, .if_icmp .ne 7, [16], 0), (26, .iconst 1, [], 0), (27, .goto 4, [17], 0), (30, .iconst 0, [], 0), (31, .istore_n 3, [], 0),
  (32, .iload_n 2, [], 0), (33, .ifCond .ge 33, [34], 0), (36, .iload_n 3, [], 0), (37, .ifCond .ne 29, [34], 0), (40, .aload_n 0, [], 0), (41, .bipush 40, [], 0),
  (43, .invokevirtual 200, [134, 2], 1352), (46, .ifCond .ne 20, [34], 0), (49, .aload_n 0, [], 0), (50, .bipush 7, [], 0), (52, .invokevirtual 207, [135, 2], 1332), (55, .ifCond .ne 11, [34], 0),
  (58, .aload_n 0, [], 0), (59, .iconst 1, [], 0), (60, .invokevirtual 203, [133, 2], 1336), (63, .goto 13, [40], 0), (66, .iload_n 1, [], 0), (67, .iconst 5, [], 0),
  (68, .if_icmp .ne 8, [40], 0), (71, .aload_n 0, [], 0), (72, .iconst 5, [], 0), (73, .invokevirtual 203, [133, 2], 1336), (76, .aload_n 0, [], 0), (77, .getfield 197, [11, 8], 1170),
  (80, .ifCond .le 4, [44], 0), (83, .return_, [], 0), (84, .aload_n 0, [], 0), (85, .bipush 7, [], 0), (87, .invokevirtual 210, [138, 2], 1344), (90, .ifCond .eq 19, [58], 0),
  (93, .aload_n 0, [], 0), (94, .iload_n 1, [], 0), (95, .iconst 1, [], 0), (96, .iadd, [], 0), (97, .invokevirtual 273, [159, 2], 1393), (100, .aload_n 0, [], 0),
  (101, .iconst 3, [], 0), (102, .iconst 0, [], 0), (103, .invokevirtual 257, [149, 3], 1401), (106, .goto 99, [112], 0), (109, .aload_n 0, [], 0), (110, .bipush 40, [], 0),
  (112, .invokevirtual 267, [137, 2], 1405), (115, .ifCond .eq 19, [71], 0), (118, .aload_n 0, [], 0), (119, .iload_n 1, [], 0), (120, .iconst 1, [], 0), (121, .iadd, [], 0),
  (122, .invokevirtual 254, [154, 2], 1377), (125, .aload_n 0, [], 0), (126, .bipush 41, [], 0), (128, .invokevirtual 230, [136, 2], 1348), (131, .goto 74, [112], 0), (134, .iload_n 3, [], 0),
  (135, .ifCond .eq 31, [89], 0), (138, .aload_n 0, [], 0), (139, .iconst 1, [], 0), (140, .aload_n 0, [], 0), (141, .getfield 30, [11, 6], 1168), (144, .aload_n 0, [], 0),
  (145, .getfield 194, [11, 7], 1169), (148, .laload, [], 0), (149, .l2i, [], 0), (150, .invokevirtual 257, [149, 3], 1401), (153, .aload_n 0, [], 0), (154, .dup, [], 0),
  (155, .getfield 194, [11, 7], 1169), (158, .iconst 1, [], 0), (159, .iadd, [], 0), (160, .putfield 194, [11, 7], 1169), (163, .goto 42, [112], 0), (166, .aload_n 0, [], 0),
  (167, .dup, [], 0), (168, .getfield 194, [11, 7], 1169), (171, .iconst 1, [], 0), (172, .iadd, [], 0), (173, .putfield 194, [11, 7], 1169), (176, .aload_n 0, [], 0),
  (177, .iconst 2, [], 0), (178, .iload_n 2, [], 0), (179, .aload_n 0, [], 0), (180, .getfield 239, [11, 21], 1183), (183, .ifCond .eq 17, [109], 0), (186, .iload_n 2, [], 0),
  (187, .iconst 1, [], 0), (188, .if_icmp .le 12, [109], 0), (191, .aload_n 0, [], 0), (192, .iconst 0, [], 0), (193, .iconst 2, [], 0), (194, .invokevirtual 226, [144, 3], 1340),
  (197, .goto 4, [110], 0), (200, .iconst 0, [], 0), (201, .iadd, [], 0), (202, .invokevirtual 257, [149, 3], 1401), (205, .return_, [], 0)]
def m_159 : MDt := (⟨"PenThatJumpsModel", "takePart", "(I)V"⟩, prog_14_method_36_code, 4, none, 11, 11, P_159)
/-- PenThatJumpsModel.worthOf(I)I -/
def P_160 : List IR := [
  (0, .iconst 0, [], 0), (1, .istore_n 2, [], 0), (2, .iload_n 1, [], 0), (3, .istore_n 3, [], 0), (4, .aload_n 0, [], 0), (5, .getfield 111, [11, 22], 1184),
  (8, .iload_n 3, [], 0), (9, .iaload, [], 0), (10, .ifCond .eq 130, [82], 0), (13, .aload_n 0, [], 0), (14, .getfield 111, [11, 22], 1184), (17, .iload_n 3, [], 0),
  (18, .iaload, [], 0), (19, .istore 4, [], 0), (21, .iload 4, [], 0), (23, .iconst 1, [], 0), (24, .if_icmp .eq 9, [20], 0), (27, .iload 4, [], 0),
  (29, .iconst 2, [], 0), (30, .if_icmp .ne 41, [41], 0), (33, .aload_n 0, [], 0), (34, .getfield 132, [11, 29], 1191), (37, .iload_n 2, [], 0), (38, .iload 4, [], 0),
  (40, .iconst 1, [], 0), (41, .if_icmp .ne 12, [31], 0), (44, .aload_n 0, [], 0), (45, .getfield 114, [11, 23], 1185), (48, .iload_n 3, [], 0), (49, .iaload, [], 0),
  (50, .goto 14, [38], 0), (53, .aload_n 0, [], 0), (54, .getfield 129, [11, 28], 1190), (57, .aload_n 0, [], 0), (58, .getfield 114, [11, 23], 1185), (61, .iload_n 3, [], 0),
  (62, .iaload, [], 0), (63, .iaload, [], 0), (64, .iastore, [], 0), (65, .iinc 2 1, [], 0), (68, .goto 66, [80], 0), (71, .iload 4, [], 0),
  (73, .iconst 3, [], 0), (74, .if_icmp .ne 30, [61], 0), (77, .aload_n 0, [], 0), (78, .getfield 132, [11, 29], 1191), (81, .iload_n 2, [], 0), (82, .iconst 1, [], 0),
  (83, .isub, [], 0), (84, .aload_n 0, [], 0), (85, .getfield 132, [11, 29], 1191), (88, .iload_n 2, [], 0), (89, .iconst 1, [], 0), (90, .isub, [], 0),
  (91, .iaload, [], 0), (92, .ifCond .ne 7, [58], 0), (95, .iconst 1, [], 0), (96, .goto 4, [59], 0), (99, .iconst 0, [], 0), (100, .iastore, [], 0),
  (101, .goto 33, [80], 0), (104, .iinc 2 (-1), [], 0), (107, .aload_n 0, [], 0), (108, .getfield 132, [11, 29], 1191), (111, .iload_n 2, [], 0), (112, .iconst 1, [], 0),
  (113, .isub, [], 0), (114, .iload 4, [], 0), (116, .aload_n 0, [], 0), (117, .getfield 132, [11, 29], 1191), (120, .iload_n 2, [], 0), (121, .iconst 1, [], 0),
  (122, .isub, [], 0), (123, .iaload, [], 0), (124, .aload_n 0, [], 0), (125, .getfield 132, [11, 29], 1191), (128, .iload_n 2, [], 0), (129, .iaload, [], 0),
  (130, .invokestatic 280, [161, 3], 1450), (133, .iastore, [], 0), (134, .iinc 3 1, [], 0), (137, .goto (-133), [4], 0), (140, .aload_n 0, [], 0), (141, .getfield 132, [11, 29], 1191),
  (144, .iconst 0, [], 0), (145, .iaload, [], 0), (146, .ireturn, [], 0)]
def m_160 : MDt := (⟨"PenThatJumpsModel", "worthOf", "(I)I"⟩, prog_14_method_37_code, 5, some .int, 11, 11, P_160)
/-- PenThatJumpsModel.both(III)I -/
def P_161 : List IR := [
  (0, .iload_n 0, [], 0), (1, .tableswitch 87 4 9 #[39, 43, 47, 51, 62, 73], [36, 2, 6, 10, 14, 21, 28], 0), (40, .iload_n 1, [], 0), (41, .iload_n 2, [], 0), (42, .iadd, [], 0), (43, .ireturn, [], 0),
  (44, .iload_n 1, [], 0), (45, .iload_n 2, [], 0), (46, .isub, [], 0), (47, .ireturn, [], 0), (48, .iload_n 1, [], 0), (49, .iload_n 2, [], 0),
  (50, .imul, [], 0), (51, .ireturn, [], 0), (52, .iload_n 1, [], 0), (53, .iload_n 2, [], 0), (54, .if_icmp .ge 7, [19], 0), (57, .iconst 1, [], 0),
  (58, .goto 4, [20], 0), (61, .iconst 0, [], 0), (62, .ireturn, [], 0), (63, .iload_n 1, [], 0), (64, .iload_n 2, [], 0), (65, .if_icmp .ne 7, [26], 0),
  (68, .iconst 1, [], 0), (69, .goto 4, [27], 0), (72, .iconst 0, [], 0), (73, .ireturn, [], 0), (74, .iload_n 1, [], 0), (75, .ifCond .eq 11, [34], 0),
  (78, .iload_n 2, [], 0), (79, .ifCond .eq 7, [34], 0), (82, .iconst 1, [], 0), (83, .goto 4, [35], 0), (86, .iconst 0, [], 0), (87, .ireturn, [], 0),
  (88, .iload_n 1, [], 0), (89, .ifCond .ne 7, [40], 0), (92, .iload_n 2, [], 0), (93, .ifCond .eq 7, [42], 0), (96, .iconst 1, [], 0), (97, .goto 4, [43], 0),
  (100, .iconst 0, [], 0), (101, .ireturn, [], 0)]
def m_161 : MDt := (⟨"PenThatJumpsModel", "both", "(III)I"⟩, prog_14_method_38_code, 3, some .int, 11, 99, P_161)
/-- PenThatJumpsModel.asksOf(IIIIZIZ)V -/
def P_162 : List IR := [
  (0, .iconst 0, [], 0), (1, .istore 8, [], 0), (3, .iload 8, [], 0), (5, .iconst 4, [], 0), (6, .if_icmp .ge 32, [20], 0), (9, .aload_n 0, [], 0),
  (10, .getfield 129, [11, 28], 1190), (13, .iload 8, [], 0), (15, .aload_n 0, [], 0), (16, .getfield 102, [11, 17], 1179), (19, .iload_n 1, [], 0), (20, .iaload, [], 0),
  (21, .iload 8, [], 0), (23, .if_icmp .ne 7, [16], 0), (26, .iconst 1, [], 0), (27, .goto 4, [17], 0), (30, .iconst 0, [], 0), (31, .iastore, [], 0),
  (32, .iinc 8 1, [], 0), (35, .goto (-32), [2], 0), (38, .aload_n 0, [], 0), (39, .getfield 105, [11, 18], 1180), (42, .iload_n 1, [], 0), (43, .iaload, [], 0),
  (44, .aload_n 0, [], 0), (45, .getfield 217, [11, 15], 1177), (48, .if_icmp .ne 7, [29], 0), (51, .iconst 1, [], 0), (52, .goto 4, [30], 0), (55, .iconst 0, [], 0),
  (56, .istore 8, [], 0), (58, .aload_n 0, [], 0), (59, .getfield 129, [11, 28], 1190), (62, .iconst 4, [], 0), (63, .iload 8, [], 0), (65, .ifCond .eq 7, [38], 0),
  (68, .iconst 1, [], 0), (69, .goto 4, [39], 0), (72, .iconst 0, [], 0), (73, .iastore, [], 0), (74, .aload_n 0, [], 0), (75, .getfield 129, [11, 28], 1190),
  (78, .iconst 5, [], 0), (79, .aload_n 0, [], 0), (80, .getfield 102, [11, 17], 1179), (83, .iload_n 1, [], 0), (84, .iaload, [], 0), (85, .iconst 3, [], 0),
  (86, .if_icmp .ne 18, [59], 0), (89, .iload 6, [], 0), (91, .aload_n 0, [], 0), (92, .getfield 105, [11, 18], 1180), (95, .iload_n 1, [], 0), (96, .iaload, [], 0),
  (97, .ishr, [], 0), (98, .iconst 1, [], 0), (99, .iand, [], 0), (100, .iconst 1, [], 0), (101, .if_icmp .eq 13, [63], 0), (104, .iload 8, [], 0),
  (106, .ifCond .eq 12, [65], 0), (109, .iload 5, [], 0), (111, .ifCond .eq 7, [65], 0), (114, .iconst 1, [], 0), (115, .goto 4, [66], 0), (118, .iconst 0, [], 0),
  (119, .iastore, [], 0), (120, .aload_n 0, [], 0), (121, .getfield 129, [11, 28], 1190), (124, .bipush 6, [], 0), (126, .iload 4, [], 0), (128, .iastore, [], 0),
  (129, .aload_n 0, [], 0), (130, .getfield 129, [11, 28], 1190), (133, .bipush 7, [], 0), (135, .iload 5, [], 0), (137, .ifCond .eq 7, [79], 0), (140, .iconst 1, [], 0),
  (141, .goto 4, [80], 0), (144, .iconst 0, [], 0), (145, .iastore, [], 0), (146, .aload_n 0, [], 0), (147, .getfield 129, [11, 28], 1190), (150, .bipush 8, [], 0),
  (152, .iload 7, [], 0), (154, .ifCond .eq 16, [93], 0), (157, .aload_n 0, [], 0), (158, .getfield 102, [11, 17], 1179), (161, .iload_n 1, [], 0), (162, .iaload, [], 0),
  (163, .ifCond .ne 7, [93], 0), (166, .iconst 1, [], 0), (167, .goto 4, [94], 0), (170, .iconst 0, [], 0), (171, .iastore, [], 0), (172, .aload_n 0, [], 0),
  (173, .getfield 129, [11, 28], 1190), (176, .bipush 9, [], 0), (178, .iload_n 2, [], 0), (179, .iastore, [], 0), (180, .aload_n 0, [], 0), (181, .getfield 129, [11, 28], 1190),
  (184, .bipush 10, [], 0), (186, .iload_n 3, [], 0), (187, .iastore, [], 0), (188, .return_, [], 0)]
def m_162 : MDt := (⟨"PenThatJumpsModel", "asksOf", "(IIIIZIZ)V"⟩, prog_14_method_39_code, 9, none, 11, 11, P_162)
/-- PenThatJumpsModel.jumpOf(II)I -/
def P_163 : List IR := [
  (0, .aload_n 0, [], 0), (1, .getfield 129, [11, 28], 1190), (4, .bipush 11, [], 0), (6, .iload_n 2, [], 0), (7, .iastore, [], 0), (8, .aload_n 0, [], 0),
  (9, .getfield 117, [11, 24], 1186), (12, .iload_n 1, [], 0), (13, .iaload, [], 0), (14, .ifCond .ge 7, [12], 0), (17, .iconst 0, [], 0), (18, .goto 15, [20], 0),
  (21, .aload_n 0, [], 0), (22, .iconst 0, [], 0), (23, .aload_n 0, [], 0), (24, .getfield 117, [11, 24], 1186), (27, .iload_n 1, [], 0), (28, .iaload, [], 0),
  (29, .iadd, [], 0), (30, .invokevirtual 284, [160, 2], 1446), (33, .istore_n 3, [], 0), (34, .iload_n 3, [], 0), (35, .ifCond .ge 7, [25], 0), (38, .iconst 0, [], 0),
  (39, .goto 15, [31], 0), (42, .iload_n 3, [], 0), (43, .bipush 99, [], 0), (45, .if_icmp .le 8, [30], 0), (48, .bipush 99, [], 0), (50, .goto 4, [31], 0),
  (53, .iload_n 3, [], 0), (54, .ireturn, [], 0)]
def m_163 : MDt := (⟨"PenThatJumpsModel", "jumpOf", "(II)I"⟩, prog_14_method_40_code, 4, some .int, 11, 11, P_163)
/-- PenThatJumpsModel.habitOf(II)I -/
def P_164 : List IR := [
  (0, .iconst 0, [], 0), (1, .istore_n 3, [], 0), (2, .iconst 0, [], 0), (3, .istore 4, [], 0), (5, .iload 4, [], 0), (7, .iload_n 2, [], 0),
  (8, .if_icmp .ge 43, [32], 0), (11, .iload_n 3, [], 0), (12, .aload_n 0, [], 0), (13, .getfield 102, [11, 17], 1179), (16, .bipush 12, [], 0), (18, .iload_n 1, [], 0),
  (19, .imul, [], 0), (20, .iload 4, [], 0), (22, .iadd, [], 0), (23, .iaload, [], 0), (24, .aload_n 0, [], 0), (25, .getfield 102, [11, 17], 1179),
  (28, .bipush 12, [], 0), (30, .iload_n 1, [], 0), (31, .imul, [], 0), (32, .iload_n 2, [], 0), (33, .iadd, [], 0), (34, .iaload, [], 0),
  (35, .if_icmp .ne 7, [27], 0), (38, .iconst 1, [], 0), (39, .goto 4, [28], 0), (42, .iconst 0, [], 0), (43, .iadd, [], 0), (44, .istore_n 3, [], 0),
  (45, .iinc 4 1, [], 0), (48, .goto (-43), [4], 0), (51, .iload_n 3, [], 0), (52, .ireturn, [], 0)]
def m_164 : MDt := (⟨"PenThatJumpsModel", "habitOf", "(II)I"⟩, prog_14_method_41_code, 5, some .int, 11, 11, P_164)
/-- PenThatJumpsModel.sits(IIIIZ)V -/
def P_165 : List IR := [
  (0, .iload 4, [], 0), (2, .i2l, [], 0), (3, .lstore 6, [], 0), (5, .aload_n 0, [], 0), (6, .getfield 135, [11, 31], 1193), (9, .iload_n 1, [], 0),
  (10, .aload_n 0, [], 0), (11, .getfield 99, [11, 16], 1178), (14, .iload_n 3, [], 0), (15, .iaload, [], 0), (16, .iastore, [], 0), (17, .aload_n 0, [], 0),
  (18, .getfield 138, [11, 32], 1194), (21, .iload_n 1, [], 0), (22, .aload_n 0, [], 0), (23, .getfield 217, [11, 15], 1177), (26, .iastore, [], 0), (27, .iconst 0, [], 0),
  (28, .istore 8, [], 0), (30, .iload 8, [], 0), (32, .aload_n 0, [], 0), (33, .getfield 99, [11, 16], 1178), (36, .iload_n 3, [], 0), (37, .iaload, [], 0),
  (38, .if_icmp .ge 156, [114], 0), (41, .bipush 12, [], 0), (43, .iload_n 3, [], 0), (44, .imul, [], 0), (45, .iload 8, [], 0), (47, .iadd, [], 0),
  (48, .istore 9, [], 0), (50, .aload_n 0, [], 0), (51, .getfield 141, [11, 33], 1195), (54, .bipush 12, [], 0), (56, .iload_n 1, [], 0), (57, .imul, [], 0),
  (58, .iload 8, [], 0), (60, .iadd, [], 0), (61, .aload_n 0, [], 0), (62, .getfield 102, [11, 17], 1179), (65, .iload 9, [], 0), (67, .iaload, [], 0),
  (68, .iastore, [], 0), (69, .aload_n 0, [], 0), (70, .getfield 144, [11, 34], 1196), (73, .bipush 12, [], 0), (75, .iload_n 1, [], 0), (76, .imul, [], 0),
  (77, .iload 8, [], 0), (79, .iadd, [], 0), (80, .aload_n 0, [], 0), (81, .getfield 105, [11, 18], 1180), (84, .iload 9, [], 0), (86, .iaload, [], 0),
  (87, .iastore, [], 0), (88, .aload_n 0, [], 0), (89, .iload 9, [], 0), (91, .aload_n 0, [], 0), (92, .iload_n 3, [], 0), (93, .iload 8, [], 0),
  (95, .invokevirtual 287, [164, 3], 1429), (98, .iload 8, [], 0), (100, .aload_n 0, [], 0), (101, .getfield 87, [11, 11], 1173), (104, .iload_n 2, [], 0), (105, .iaload, [], 0),
  (106, .aload_n 0, [], 0), (107, .getfield 90, [11, 12], 1174), (110, .iload_n 2, [], 0), (111, .baload, [], 0), (112, .aload_n 0, [], 0), (113, .getfield 93, [11, 13], 1175),
  (116, .iload_n 2, [], 0), (117, .iaload, [], 0), (118, .iload 5, [], 0), (120, .invokevirtual 290, [162, 8], 1433), (123, .iconst 0, [], 0), (124, .istore 10, [], 0),
  (126, .iload 10, [], 0), (128, .iconst 3, [], 0), (129, .if_icmp .ge 59, [112], 0), (132, .lload 6, [], 0), (134, .ldc2_w 294, [1103515245], 1437), (137, .lmul, [], 0),
  (138, .ldc2_w 296, [12345], 1438), (141, .ladd, [], 0), (142, .ldc2_w 298, [2147483648], 1439), (145, .lrem, [], 0), (146, .lstore 6, [], 0), (148, .aload_n 0, [], 0),
  (149, .getfield 147, [11, 35], 1197), (152, .bipush 36, [], 0), (154, .iload_n 1, [], 0), (155, .imul, [], 0), (156, .iconst 3, [], 0), (157, .iload 8, [], 0),
  (159, .imul, [], 0), (160, .iadd, [], 0), (161, .iload 10, [], 0), (163, .iadd, [], 0), (164, .aload_n 0, [], 0), (165, .iload 10, [], 0),
  (167, .lload 6, [], 0), (169, .ldc2_w 300, [65536], 1440), (172, .ldiv, [], 0), (173, .ldc2_w 302, [4], 1441), (176, .lrem, [], 0), (177, .l2i, [], 0),
  (178, .invokevirtual 304, [163, 3], 1442), (181, .iastore, [], 0), (182, .iinc 10 1, [], 0), (185, .goto (-59), [78], 0), (188, .iinc 8 1, [], 0), (191, .goto (-161), [19], 0),
  (194, .return_, [], 0)]
def m_165 : MDt := (⟨"PenThatJumpsModel", "sits", "(IIIIZ)V"⟩, prog_14_method_42_code, 11, none, 11, 11, P_165)
/-- PenThatJumpsModel.sit(III)I -/
def P_166 : List IR := [
  (0, .aload_n 0, [], 0), (1, .iconst 0, [], 0), (2, .putfield 1, [11, 0], 1162), (5, .aload_n 0, [], 0), (6, .iload_n 1, [], 0), (7, .invokevirtual 307, [143, 2], 1421),
  (10, .ifCond .eq 31, [20], 0), (13, .aload_n 0, [], 0), (14, .iload_n 2, [], 0), (15, .invokevirtual 233, [147, 2], 1360), (18, .ifCond .eq 23, [20], 0), (21, .iload_n 3, [], 0),
  (22, .iconst 0, [], 0), (23, .sipush 9999, [], 0), (26, .invokestatic 213, [140, 3], 1298), (29, .ifCond .eq 12, [20], 0), (32, .aload_n 0, [], 0), (33, .getfield 310, [11, 30], 1192),
  (36, .bipush 24, [], 0), (38, .if_icmp .ne 5, [22], 0), (41, .iconst (-1), [], 0), (42, .ireturn, [], 0), (43, .aload_n 0, [], 0), (44, .aload_n 0, [], 0),
  (45, .getfield 310, [11, 30], 1192), (48, .iload_n 1, [], 0), (49, .iload_n 2, [], 0), (50, .iload_n 3, [], 0), (51, .aload_n 0, [], 0), (52, .getfield 96, [11, 14], 1176),
  (55, .iload_n 1, [], 0), (56, .baload, [], 0), (57, .invokevirtual 313, [165, 6], 1425), (60, .aload_n 0, [], 0), (61, .dup, [], 0), (62, .getfield 310, [11, 30], 1192),
  (65, .iconst 1, [], 0), (66, .iadd, [], 0), (67, .putfield 310, [11, 30], 1192), (70, .aload_n 0, [], 0), (71, .getfield 310, [11, 30], 1192), (74, .iconst 1, [], 0),
  (75, .isub, [], 0), (76, .ireturn, [], 0)]
def m_166 : MDt := (⟨"PenThatJumpsModel", "sit", "(III)I"⟩, prog_14_method_43_code, 4, some .int, 11, 11, P_166)
/-- PenThatJumpsModel.isSitting(I)Z -/
def P_167 : List IR := [
  (0, .iload_n 1, [], 0), (1, .ifCond .lt 15, [8], 0), (4, .iload_n 1, [], 0), (5, .aload_n 0, [], 0), (6, .getfield 310, [11, 30], 1192), (9, .if_icmp .ge 7, [8], 0),
  (12, .iconst 1, [], 0), (13, .goto 4, [9], 0), (16, .iconst 0, [], 0), (17, .ireturn, [], 0)]
def m_167 : MDt := (⟨"PenThatJumpsModel", "isSitting", "(I)Z"⟩, prog_14_method_44_code, 2, some .boolean, 11, 11, P_167)
/-- PenThatJumpsModel.jump(III)I -/
def P_168 : List IR := [
  (0, .aload_n 0, [], 0), (1, .aload_n 0, [], 0), (2, .iload_n 1, [], 0), (3, .invokevirtual 317, [167, 2], 1457), (6, .ifCond .eq 32, [22], 0), (9, .iload_n 2, [], 0),
  (10, .iconst 0, [], 0), (11, .aload_n 0, [], 0), (12, .getfield 135, [11, 31], 1193), (15, .iload_n 1, [], 0), (16, .iaload, [], 0), (17, .iconst 1, [], 0),
  (18, .isub, [], 0), (19, .invokestatic 213, [140, 3], 1298), (22, .ifCond .eq 16, [22], 0), (25, .iload_n 3, [], 0), (26, .iconst 0, [], 0), (27, .iconst 2, [], 0),
  (28, .invokestatic 213, [140, 3], 1298), (31, .ifCond .eq 7, [22], 0), (34, .iconst 0, [], 0), (35, .goto 4, [23], 0), (38, .iconst 1, [], 0), (39, .putfield 1, [11, 0], 1162),
  (42, .aload_n 0, [], 0), (43, .getfield 1, [11, 0], 1162), (46, .ifCond .le 7, [29], 0), (49, .iconst 0, [], 0), (50, .goto 18, [41], 0), (53, .aload_n 0, [], 0),
  (54, .getfield 147, [11, 35], 1197), (57, .bipush 36, [], 0), (59, .iload_n 1, [], 0), (60, .imul, [], 0), (61, .iconst 3, [], 0), (62, .iload_n 2, [], 0),
  (63, .imul, [], 0), (64, .iadd, [], 0), (65, .iload_n 3, [], 0), (66, .iadd, [], 0), (67, .iaload, [], 0), (68, .ireturn, [], 0)]
def m_168 : MDt := (⟨"PenThatJumpsModel", "jump", "(III)I"⟩, prog_14_method_45_code, 4, some .int, 11, 11, P_168)
/-- PenThatJumpsModel.findReadings(II)V -/
def P_169 : List IR := [
  (0, .iconst 0, [], 0), (1, .istore_n 3, [], 0), (2, .iload_n 3, [], 0), (3, .bipush 20, [], 0), (5, .if_icmp .ge 16, [12], 0), (8, .aload_n 0, [], 0),
  (9, .getfield 129, [11, 28], 1190), (12, .iload_n 3, [], 0), (13, .iconst 0, [], 0), (14, .iastore, [], 0), (15, .iinc 3 1, [], 0), (18, .goto (-16), [2], 0),
  (21, .aload_n 0, [], 0), (22, .getfield 129, [11, 28], 1190), (25, .iconst 0, [], 0), (26, .iload_n 2, [], 0), (27, .iastore, [], 0), (28, .aload_n 0, [], 0),
  (29, .getfield 129, [11, 28], 1190), (32, .iconst 1, [], 0), (33, .aload_n 0, [], 0), (34, .getfield 135, [11, 31], 1193), (37, .iload_n 1, [], 0), (38, .iaload, [], 0),
  (39, .iastore, [], 0), (40, .iconst 0, [], 0), (41, .istore_n 3, [], 0), (42, .iload_n 3, [], 0), (43, .aload_n 0, [], 0), (44, .getfield 135, [11, 31], 1193),
  (47, .iload_n 1, [], 0), (48, .iaload, [], 0), (49, .if_icmp .ge 167, [128], 0), (52, .aload_n 0, [], 0), (53, .getfield 141, [11, 33], 1195), (56, .bipush 12, [], 0),
  (58, .iload_n 1, [], 0), (59, .imul, [], 0), (60, .iload_n 3, [], 0), (61, .iadd, [], 0), (62, .iaload, [], 0), (63, .istore 4, [], 0),
  (65, .aload_n 0, [], 0), (66, .getfield 144, [11, 34], 1196), (69, .bipush 12, [], 0), (71, .iload_n 1, [], 0), (72, .imul, [], 0), (73, .iload_n 3, [], 0),
  (74, .iadd, [], 0), (75, .iaload, [], 0), (76, .aload_n 0, [], 0), (77, .getfield 138, [11, 32], 1194), (80, .iload_n 1, [], 0), (81, .iaload, [], 0),
  (82, .if_icmp .ne 7, [57], 0), (85, .iconst 1, [], 0), (86, .goto 4, [58], 0), (89, .iconst 0, [], 0), (90, .istore 5, [], 0), (92, .iconst 0, [], 0),
  (93, .istore 6, [], 0), (95, .iload 6, [], 0), (97, .iconst 3, [], 0), (98, .if_icmp .ge 112, [126], 0), (101, .aload_n 0, [], 0), (102, .getfield 147, [11, 35], 1197),
  (105, .bipush 36, [], 0), (107, .iload_n 1, [], 0), (108, .imul, [], 0), (109, .iconst 3, [], 0), (110, .iload_n 3, [], 0), (111, .imul, [], 0),
  (112, .iadd, [], 0), (113, .iload 6, [], 0), (115, .iadd, [], 0), (116, .iaload, [], 0), (117, .istore 7, [], 0), (119, .aload_n 0, [], 0),
  (120, .getfield 129, [11, 28], 1190), (123, .iconst 2, [], 0), (124, .iconst 3, [], 0), (125, .iload 4, [], 0), (127, .imul, [], 0), (128, .iadd, [], 0),
  (129, .iload 6, [], 0), (131, .iadd, [], 0), (132, .dup2, [], 0), (133, .iaload, [], 0), (134, .iload 7, [], 0), (136, .iadd, [], 0),
  (137, .iastore, [], 0), (138, .iload 4, [], 0), (140, .iconst 3, [], 0), (141, .if_icmp .eq 7, [96], 0), (144, .iconst (-1), [], 0), (145, .goto 21, [105], 0),
  (148, .iload 5, [], 0), (150, .ifCond .eq 11, [102], 0), (153, .bipush 14, [], 0), (155, .iload 6, [], 0), (157, .iadd, [], 0), (158, .goto 8, [105], 0),
  (161, .bipush 17, [], 0), (163, .iload 6, [], 0), (165, .iadd, [], 0), (166, .istore 8, [], 0), (168, .iload 8, [], 0), (170, .ifCond .lt 34, [124], 0),
  (173, .aload_n 0, [], 0), (174, .getfield 129, [11, 28], 1190), (177, .iload 8, [], 0), (179, .iload 7, [], 0), (181, .aload_n 0, [], 0), (182, .getfield 129, [11, 28], 1190),
  (185, .iload 8, [], 0), (187, .iaload, [], 0), (188, .if_icmp .le 8, [119], 0), (191, .iload 7, [], 0), (193, .goto 10, [123], 0), (196, .aload_n 0, [], 0),
  (197, .getfield 129, [11, 28], 1190), (200, .iload 8, [], 0), (202, .iaload, [], 0), (203, .iastore, [], 0), (204, .iinc 6 1, [], 0), (207, .goto (-112), [61], 0),
  (210, .iinc 3 1, [], 0), (213, .goto (-171), [27], 0), (216, .return_, [], 0)]
def m_169 : MDt := (⟨"PenThatJumpsModel", "findReadings", "(II)V"⟩, prog_14_method_46_code, 9, none, 11, 11, P_169)
/-- PenThatJumpsModel.doesSay(III)Z -/
def P_170 : List IR := [
  (0, .aload_n 0, [], 0), (1, .iload_n 1, [], 0), (2, .iload_n 3, [], 0), (3, .invokevirtual 320, [169, 3], 1475), (6, .iconst 0, [], 0), (7, .istore 4, [], 0),
  (9, .iconst 0, [], 0), (10, .istore 5, [], 0), (12, .iload 5, [], 0), (14, .aload_n 0, [], 0), (15, .getfield 123, [11, 26], 1188), (18, .iload_n 2, [], 0),
  (19, .iaload, [], 0), (20, .if_icmp .ge 48, [39], 0), (23, .iload 4, [], 0), (25, .ifCond .ne 30, [33], 0), (28, .aload_n 0, [], 0), (29, .sipush 1100, [], 0),
  (32, .iconst 1, [], 0), (33, .iload_n 2, [], 0), (34, .iadd, [], 0), (35, .imul, [], 0), (36, .aload_n 0, [], 0), (37, .getfield 126, [11, 27], 1189),
  (40, .bipush 6, [], 0), (42, .iload_n 2, [], 0), (43, .imul, [], 0), (44, .iload 5, [], 0), (46, .iadd, [], 0), (47, .iaload, [], 0),
  (48, .iadd, [], 0), (49, .invokevirtual 284, [160, 2], 1446), (52, .ifCond .eq 7, [35], 0), (55, .iconst 1, [], 0), (56, .goto 4, [36], 0), (59, .iconst 0, [], 0),
  (60, .istore 4, [], 0), (62, .iinc 5 1, [], 0), (65, .goto (-53), [8], 0), (68, .iload 4, [], 0), (70, .ireturn, [], 0)]
def m_170 : MDt := (⟨"PenThatJumpsModel", "doesSay", "(III)Z"⟩, prog_14_method_47_code, 6, some .boolean, 11, 11, P_170)
/-- PenThatJumpsModel.isReaderNumber(I)Z -/
def P_171 : List IR := [
  (0, .iload_n 0, [], 0), (1, .iconst 0, [], 0), (2, .iconst 3, [], 0), (3, .invokestatic 213, [140, 3], 1298), (6, .ireturn, [], 0)]
def m_171 : MDt := (⟨"PenThatJumpsModel", "isReaderNumber", "(I)Z"⟩, prog_14_method_48_code, 1, some .boolean, 11, 99, P_171)
/-- PenThatJumpsModel.isFile(I)Z -/
def P_172 : List IR := [
  (0, .iload_n 0, [], 0), (1, .bipush (-9), [], 0), (3, .bipush 9, [], 0), (5, .invokestatic 213, [140, 3], 1298), (8, .ireturn, [], 0)]
def m_172 : MDt := (⟨"PenThatJumpsModel", "isFile", "(I)Z"⟩, prog_14_method_49_code, 1, some .boolean, 11, 99, P_172)
/-- PenThatJumpsModel.says(III)I -/
def P_173 : List IR := [
  (0, .aload_n 0, [], 0), (1, .iconst 0, [], 0), (2, .putfield 1, [11, 0], 1162), (5, .aload_n 0, [], 0), (6, .iload_n 1, [], 0), (7, .invokevirtual 317, [167, 2], 1457),
  (10, .ifCond .eq 17, [13], 0), (13, .iload_n 2, [], 0), (14, .invokestatic 323, [171, 1], 1465), (17, .ifCond .eq 10, [13], 0), (20, .iload_n 3, [], 0), (21, .invokestatic 326, [172, 1], 1468),
  (24, .ifCond .ne 5, [15], 0), (27, .iconst (-1), [], 0), (28, .ireturn, [], 0), (29, .aload_n 0, [], 0), (30, .iload_n 1, [], 0), (31, .iload_n 2, [], 0),
  (32, .iload_n 3, [], 0), (33, .invokevirtual 329, [170, 4], 1471), (36, .ifCond .eq 7, [23], 0), (39, .iconst 1, [], 0), (40, .goto 4, [24], 0), (43, .iconst 0, [], 0),
  (44, .ireturn, [], 0)]
def m_173 : MDt := (⟨"PenThatJumpsModel", "says", "(III)I"⟩, prog_14_method_50_code, 4, some .int, 11, 11, P_173)
/-- PenThatJumpsModel.leans(II)I -/
def P_174 : List IR := [
  (0, .aload_n 0, [], 0), (1, .iconst 0, [], 0), (2, .putfield 1, [11, 0], 1162), (5, .aload_n 0, [], 0), (6, .iload_n 1, [], 0), (7, .invokevirtual 317, [167, 2], 1457),
  (10, .ifCond .eq 10, [10], 0), (13, .iload_n 2, [], 0), (14, .invokestatic 323, [171, 1], 1465), (17, .ifCond .ne 5, [12], 0), (20, .iconst (-1), [], 0), (21, .ireturn, [], 0),
  (22, .iconst 0, [], 0), (23, .istore_n 3, [], 0), (24, .bipush (-9), [], 0), (26, .istore 4, [], 0), (28, .iload 4, [], 0), (30, .bipush 9, [], 0),
  (32, .if_icmp .gt 34, [37], 0), (35, .iload_n 3, [], 0), (36, .aload_n 0, [], 0), (37, .iload_n 1, [], 0), (38, .iload_n 2, [], 0), (39, .iload 4, [], 0),
  (41, .invokevirtual 329, [170, 4], 1471), (44, .ifCond .eq 13, [32], 0), (47, .iconst 1, [], 0), (48, .iload 4, [], 0), (50, .bipush 9, [], 0), (52, .iadd, [], 0),
  (53, .ishl, [], 0), (54, .goto 4, [33], 0), (57, .iconst 0, [], 0), (58, .ior, [], 0), (59, .istore_n 3, [], 0), (60, .iinc 4 1, [], 0),
  (63, .goto (-35), [16], 0), (66, .iload_n 3, [], 0), (67, .ireturn, [], 0)]
def m_174 : MDt := (⟨"PenThatJumpsModel", "leans", "(II)I"⟩, prog_14_method_51_code, 5, some .int, 11, 11, P_174)
/-- PenThatJumpsModel.hits(II)I -/
def P_175 : List IR := [
  (0, .aload_n 0, [], 0), (1, .iconst 0, [], 0), (2, .putfield 1, [11, 0], 1162), (5, .aload_n 0, [], 0), (6, .iload_n 1, [], 0), (7, .invokevirtual 317, [167, 2], 1457),
  (10, .ifCond .eq 12, [12], 0), (13, .iload_n 2, [], 0), (14, .iconst 0, [], 0), (15, .iconst 2, [], 0), (16, .invokestatic 213, [140, 3], 1298), (19, .ifCond .ne 5, [14], 0),
  (22, .iconst (-1), [], 0), (23, .ireturn, [], 0), (24, .iconst (-1), [], 0), (25, .istore_n 3, [], 0), (26, .iconst (-1), [], 0), (27, .istore 4, [], 0),
  (29, .iconst 0, [], 0), (30, .istore 5, [], 0), (32, .iload 5, [], 0), (34, .aload_n 0, [], 0), (35, .getfield 135, [11, 31], 1193), (38, .iload_n 1, [], 0),
  (39, .iaload, [], 0), (40, .if_icmp .ge 127, [94], 0), (43, .aload_n 0, [], 0), (44, .getfield 147, [11, 35], 1197), (47, .bipush 36, [], 0), (49, .iload_n 1, [], 0),
  (50, .imul, [], 0), (51, .iconst 3, [], 0), (52, .iload 5, [], 0), (54, .imul, [], 0), (55, .iadd, [], 0), (56, .iload_n 2, [], 0),
  (57, .iadd, [], 0), (58, .iaload, [], 0), (59, .istore 6, [], 0), (61, .aload_n 0, [], 0), (62, .getfield 141, [11, 33], 1195), (65, .bipush 12, [], 0),
  (67, .iload_n 1, [], 0), (68, .imul, [], 0), (69, .iload 5, [], 0), (71, .iadd, [], 0), (72, .iaload, [], 0), (73, .iconst 3, [], 0),
  (74, .if_icmp .ne 7, [51], 0), (77, .iconst 1, [], 0), (78, .goto 4, [52], 0), (81, .iconst 0, [], 0), (82, .istore 7, [], 0), (84, .iload 7, [], 0),
  (86, .ifCond .eq 28, [70], 0), (89, .aload_n 0, [], 0), (90, .getfield 144, [11, 34], 1196), (93, .bipush 12, [], 0), (95, .iload_n 1, [], 0), (96, .imul, [], 0),
  (97, .iload 5, [], 0), (99, .iadd, [], 0), (100, .iaload, [], 0), (101, .aload_n 0, [], 0), (102, .getfield 138, [11, 32], 1194), (105, .iload_n 1, [], 0),
  (106, .iaload, [], 0), (107, .if_icmp .ne 7, [70], 0), (110, .iconst 1, [], 0), (111, .goto 4, [71], 0), (114, .iconst 0, [], 0), (115, .istore 8, [], 0),
  (117, .iload 8, [], 0), (119, .ifCond .eq 14, [79], 0), (122, .iload 6, [], 0), (124, .iload_n 3, [], 0), (125, .if_icmp .le 8, [79], 0), (128, .iload 6, [], 0),
  (130, .goto 4, [80], 0), (133, .iload_n 3, [], 0), (134, .istore_n 3, [], 0), (135, .iload 7, [], 0), (137, .ifCond .eq 20, [90], 0), (140, .iload 8, [], 0),
  (142, .ifCond .ne 15, [90], 0), (145, .iload 6, [], 0), (147, .iload 4, [], 0), (149, .if_icmp .le 8, [90], 0), (152, .iload 6, [], 0), (154, .goto 5, [91], 0),
  (157, .iload 4, [], 0), (159, .istore 4, [], 0), (161, .iinc 5 1, [], 0), (164, .goto (-132), [20], 0), (167, .iload 4, [], 0), (169, .ifCond .lt 13, [101], 0),
  (172, .iload 4, [], 0), (174, .iload_n 3, [], 0), (175, .if_icmp .ge 7, [101], 0), (178, .iconst 1, [], 0), (179, .goto 4, [102], 0), (182, .iconst 0, [], 0),
  (183, .ireturn, [], 0)]
def m_175 : MDt := (⟨"PenThatJumpsModel", "hits", "(II)I"⟩, prog_14_method_52_code, 9, some .int, 11, 11, P_175)
/-- PenThatJumpsModel.areRates(IIII)Z -/
def P_176 : List IR := [
  (0, .aload_n 0, [], 0), (1, .iload_n 1, [], 0), (2, .invokevirtual 233, [147, 2], 1360), (5, .ifCond .eq 32, [17], 0), (8, .iload_n 2, [], 0), (9, .invokestatic 323, [171, 1], 1465),
  (12, .ifCond .eq 25, [17], 0), (15, .iload_n 3, [], 0), (16, .invokestatic 326, [172, 1], 1468), (19, .ifCond .eq 18, [17], 0), (22, .iload 4, [], 0), (24, .iconst 1, [], 0),
  (25, .bipush 40, [], 0), (27, .invokestatic 213, [140, 3], 1298), (30, .ifCond .eq 7, [17], 0), (33, .iconst 1, [], 0), (34, .goto 4, [18], 0), (37, .iconst 0, [], 0),
  (38, .ireturn, [], 0)]
def m_176 : MDt := (⟨"PenThatJumpsModel", "areRates", "(IIII)Z"⟩, prog_14_method_53_code, 5, some .boolean, 11, 11, P_176)
/-- PenThatJumpsModel.findRates(IIII)V -/
def P_177 : List IR := [
  (0, .iconst 0, [], 0), (1, .istore 5, [], 0), (3, .iload 5, [], 0), (5, .iconst 4, [], 0), (6, .if_icmp .ge 17, [12], 0), (9, .aload_n 0, [], 0),
  (10, .getfield 150, [11, 36], 1198), (13, .iload 5, [], 0), (15, .iconst 0, [], 0), (16, .iastore, [], 0), (17, .iinc 5 1, [], 0), (20, .goto (-17), [2], 0),
  (23, .iconst 0, [], 0), (24, .istore 5, [], 0), (26, .iload 5, [], 0), (28, .bipush 8, [], 0), (30, .if_icmp .ge 109, [76], 0), (33, .iconst 0, [], 0),
  (34, .istore 6, [], 0), (36, .iload 6, [], 0), (38, .iload 4, [], 0), (40, .if_icmp .ge 93, [74], 0), (43, .aload_n 0, [], 0), (44, .getfield 83, [11, 10], 1172),
  (47, .iload 5, [], 0), (49, .baload, [], 0), (50, .ifCond .eq 83, [74], 0), (53, .aload_n 0, [], 0), (54, .bipush 24, [], 0), (56, .iload 5, [], 0),
  (58, .iload_n 1, [], 0), (59, .iload 6, [], 0), (61, .aload_n 0, [], 0), (62, .getfield 96, [11, 14], 1176), (65, .iload 5, [], 0), (67, .baload, [], 0),
  (68, .invokevirtual 313, [165, 6], 1425), (71, .aload_n 0, [], 0), (72, .getfield 90, [11, 12], 1174), (75, .iload 5, [], 0), (77, .baload, [], 0), (78, .ifCond .eq 7, [44], 0),
  (81, .iconst 0, [], 0), (82, .goto 4, [45], 0), (85, .iconst 2, [], 0), (86, .istore 7, [], 0), (88, .aload_n 0, [], 0), (89, .getfield 150, [11, 36], 1198),
  (92, .iload 7, [], 0), (94, .dup2, [], 0), (95, .iaload, [], 0), (96, .aload_n 0, [], 0), (97, .bipush 24, [], 0), (99, .iload_n 2, [], 0),
  (100, .iload_n 3, [], 0), (101, .invokevirtual 329, [170, 4], 1471), (104, .ifCond .eq 7, [59], 0), (107, .iconst 1, [], 0), (108, .goto 4, [60], 0), (111, .iconst 0, [], 0),
  (112, .iadd, [], 0), (113, .iastore, [], 0), (114, .aload_n 0, [], 0), (115, .getfield 150, [11, 36], 1198), (118, .iload 7, [], 0), (120, .iconst 1, [], 0),
  (121, .iadd, [], 0), (122, .dup2, [], 0), (123, .iaload, [], 0), (124, .iconst 1, [], 0), (125, .iadd, [], 0), (126, .iastore, [], 0),
  (127, .iinc 6 1, [], 0), (130, .goto (-94), [19], 0), (133, .iinc 5 1, [], 0), (136, .goto (-110), [14], 0), (139, .return_, [], 0)]
def m_177 : MDt := (⟨"PenThatJumpsModel", "findRates", "(IIII)V"⟩, prog_14_method_54_code, 8, none, 11, 11, P_177)
/-- PenThatJumpsModel.rates(IIIII)I -/
def P_178 : List IR := [
  (0, .aload_n 0, [], 0), (1, .iconst 0, [], 0), (2, .putfield 1, [11, 0], 1162), (5, .aload_n 0, [], 0), (6, .iload_n 1, [], 0), (7, .iload_n 2, [], 0),
  (8, .iload_n 3, [], 0), (9, .iload 4, [], 0), (11, .invokevirtual 332, [176, 5], 1491), (14, .ifCond .eq 13, [15], 0), (17, .iload 5, [], 0), (19, .iconst 0, [], 0),
  (20, .iconst 3, [], 0), (21, .invokestatic 213, [140, 3], 1298), (24, .ifCond .ne 5, [17], 0), (27, .iconst (-1), [], 0), (28, .ireturn, [], 0), (29, .aload_n 0, [], 0),
  (30, .iload_n 1, [], 0), (31, .iload_n 2, [], 0), (32, .iload_n 3, [], 0), (33, .iload 4, [], 0), (35, .invokevirtual 336, [177, 5], 1495), (38, .aload_n 0, [], 0),
  (39, .getfield 150, [11, 36], 1198), (42, .iload 5, [], 0), (44, .iaload, [], 0), (45, .ireturn, [], 0)]
def m_178 : MDt := (⟨"PenThatJumpsModel", "rates", "(IIIII)I"⟩, prog_14_method_55_code, 6, some .int, 11, 11, P_178)
/-- PenThatJumpsModel.tricked(IIII)I -/
def P_179 : List IR := [
  (0, .aload_n 0, [], 0), (1, .iconst 0, [], 0), (2, .putfield 1, [11, 0], 1162), (5, .aload_n 0, [], 0), (6, .iload_n 1, [], 0), (7, .invokevirtual 307, [143, 2], 1421),
  (10, .ifCond .eq 15, [14], 0), (13, .aload_n 0, [], 0), (14, .iload_n 2, [], 0), (15, .iload_n 3, [], 0), (16, .iconst 0, [], 0), (17, .iload 4, [], 0),
  (19, .invokevirtual 332, [176, 5], 1491), (22, .ifCond .ne 5, [16], 0), (25, .iconst (-1), [], 0), (26, .ireturn, [], 0), (27, .iconst 0, [], 0), (28, .istore 5, [], 0),
  (30, .iconst 0, [], 0), (31, .istore 6, [], 0), (33, .iload 6, [], 0), (35, .iload 4, [], 0), (37, .if_icmp .ge 64, [58], 0), (40, .aload_n 0, [], 0),
  (41, .bipush 24, [], 0), (43, .iload_n 1, [], 0), (44, .iload_n 2, [], 0), (45, .iload 6, [], 0), (47, .iconst 1, [], 0), (48, .invokevirtual 313, [165, 6], 1425),
  (51, .aload_n 0, [], 0), (52, .bipush 24, [], 0), (54, .iload_n 3, [], 0), (55, .iconst 0, [], 0), (56, .invokevirtual 329, [170, 4], 1471), (59, .istore 7, [], 0),
  (61, .aload_n 0, [], 0), (62, .bipush 24, [], 0), (64, .iload_n 1, [], 0), (65, .iload_n 2, [], 0), (66, .iload 6, [], 0), (68, .iconst 0, [], 0),
  (69, .invokevirtual 313, [165, 6], 1425), (72, .iload 5, [], 0), (74, .aload_n 0, [], 0), (75, .bipush 24, [], 0), (77, .iload_n 3, [], 0), (78, .iconst 0, [], 0),
  (79, .invokevirtual 329, [170, 4], 1471), (82, .iload 7, [], 0), (84, .if_icmp .eq 7, [53], 0), (87, .iconst 1, [], 0), (88, .goto 4, [54], 0), (91, .iconst 0, [], 0),
  (92, .iadd, [], 0), (93, .istore 5, [], 0), (95, .iinc 6 1, [], 0), (98, .goto (-65), [20], 0), (101, .iload 5, [], 0), (103, .ireturn, [], 0)]
def m_179 : MDt := (⟨"PenThatJumpsModel", "tricked", "(IIII)I"⟩, prog_14_method_56_code, 8, some .int, 11, 11, P_179)
/-- PenThatJumpsModel.apartOf(III)I -/
def P_180 : List IR := [
  (0, .iconst 0, [], 0), (1, .istore 4, [], 0), (3, .iconst 0, [], 0), (4, .istore 5, [], 0), (6, .iload 5, [], 0), (8, .aload_n 0, [], 0),
  (9, .getfield 99, [11, 16], 1178), (12, .iload_n 1, [], 0), (13, .iaload, [], 0), (14, .if_icmp .ge 114, [76], 0), (17, .iconst 0, [], 0), (18, .istore 6, [], 0),
  (20, .iload 6, [], 0), (22, .bipush 12, [], 0), (24, .if_icmp .ge 98, [74], 0), (27, .aload_n 0, [], 0), (28, .bipush 12, [], 0), (30, .iload_n 1, [], 0),
  (31, .imul, [], 0), (32, .iload 5, [], 0), (34, .iadd, [], 0), (35, .aload_n 0, [], 0), (36, .iload_n 1, [], 0), (37, .iload 5, [], 0),
  (39, .invokevirtual 287, [164, 3], 1429), (42, .iload 5, [], 0), (44, .iload_n 2, [], 0), (45, .iconst 1, [], 0), (46, .iconst 0, [], 0), (47, .iconst 0, [], 0),
  (48, .invokevirtual 290, [162, 8], 1433), (51, .aload_n 0, [], 0), (52, .iload 6, [], 0), (54, .iconst 4, [], 0), (55, .idiv, [], 0), (56, .iload 6, [], 0),
  (58, .iconst 4, [], 0), (59, .irem, [], 0), (60, .invokevirtual 304, [163, 3], 1442), (63, .istore 7, [], 0), (65, .aload_n 0, [], 0), (66, .bipush 12, [], 0),
  (68, .iload_n 1, [], 0), (69, .imul, [], 0), (70, .iload 5, [], 0), (72, .iadd, [], 0), (73, .aload_n 0, [], 0), (74, .iload_n 1, [], 0),
  (75, .iload 5, [], 0), (77, .invokevirtual 287, [164, 3], 1429), (80, .iload 5, [], 0), (82, .iload_n 3, [], 0), (83, .iconst 0, [], 0), (84, .iconst 0, [], 0),
  (85, .iconst 0, [], 0), (86, .invokevirtual 290, [162, 8], 1433), (89, .iload 4, [], 0), (91, .aload_n 0, [], 0), (92, .iload 6, [], 0), (94, .iconst 4, [], 0),
  (95, .idiv, [], 0), (96, .iload 6, [], 0), (98, .iconst 4, [], 0), (99, .irem, [], 0), (100, .invokevirtual 304, [163, 3], 1442), (103, .iload 7, [], 0),
  (105, .if_icmp .eq 7, [69], 0), (108, .iconst 1, [], 0), (109, .goto 4, [70], 0), (112, .iconst 0, [], 0), (113, .iadd, [], 0), (114, .istore 4, [], 0),
  (116, .iinc 6 1, [], 0), (119, .goto (-99), [12], 0), (122, .iinc 5 1, [], 0), (125, .goto (-119), [4], 0), (128, .iload 4, [], 0), (130, .ireturn, [], 0)]
def m_180 : MDt := (⟨"PenThatJumpsModel", "apartOf", "(III)I"⟩, prog_14_method_57_code, 8, some .int, 11, 11, P_180)
/-- PenThatJumpsModel.isFear(I)Z -/
def P_181 : List IR := [
  (0, .iload_n 0, [], 0), (1, .iconst 0, [], 0), (2, .bipush 9, [], 0), (4, .invokestatic 213, [140, 3], 1298), (7, .ireturn, [], 0)]
def m_181 : MDt := (⟨"PenThatJumpsModel", "isFear", "(I)Z"⟩, prog_14_method_58_code, 1, some .boolean, 11, 99, P_181)
/-- PenThatJumpsModel.apart(III)I -/
def P_182 : List IR := [
  (0, .aload_n 0, [], 0), (1, .iconst 0, [], 0), (2, .putfield 1, [11, 0], 1162), (5, .aload_n 0, [], 0), (6, .iload_n 1, [], 0), (7, .invokevirtual 233, [147, 2], 1360),
  (10, .ifCond .eq 27, [19], 0), (13, .iload_n 2, [], 0), (14, .invokestatic 340, [181, 1], 1507), (17, .ifCond .eq 20, [19], 0), (20, .iload_n 3, [], 0), (21, .invokestatic 340, [181, 1], 1507),
  (24, .ifCond .eq 13, [19], 0), (27, .aload_n 0, [], 0), (28, .iload_n 1, [], 0), (29, .iload_n 2, [], 0), (30, .iload_n 3, [], 0), (31, .invokevirtual 343, [180, 4], 1510),
  (34, .goto 4, [20], 0), (37, .iconst (-1), [], 0), (38, .ireturn, [], 0)]
def m_182 : MDt := (⟨"PenThatJumpsModel", "apart", "(III)I"⟩, prog_14_method_59_code, 4, some .int, 11, 11, P_182)
/-- PenThatJumpsModel.same(II)I -/
def P_183 : List IR := [
  (0, .aload_n 0, [], 0), (1, .iconst 0, [], 0), (2, .putfield 1, [11, 0], 1162), (5, .aload_n 0, [], 0), (6, .iload_n 1, [], 0), (7, .invokevirtual 233, [147, 2], 1360),
  (10, .ifCond .eq 10, [10], 0), (13, .iload_n 2, [], 0), (14, .invokestatic 340, [181, 1], 1507), (17, .ifCond .ne 5, [12], 0), (20, .iconst (-1), [], 0), (21, .ireturn, [], 0),
  (22, .iconst 0, [], 0), (23, .istore_n 3, [], 0), (24, .iconst 0, [], 0), (25, .istore 4, [], 0), (27, .iload 4, [], 0), (29, .bipush 10, [], 0),
  (31, .if_icmp .ge 31, [35], 0), (34, .iload_n 3, [], 0), (35, .aload_n 0, [], 0), (36, .iload_n 1, [], 0), (37, .iload_n 2, [], 0), (38, .iload 4, [], 0),
  (40, .invokevirtual 343, [180, 4], 1510), (43, .ifCond .ne 10, [30], 0), (46, .iconst 1, [], 0), (47, .iload 4, [], 0), (49, .ishl, [], 0), (50, .goto 4, [31], 0),
  (53, .iconst 0, [], 0), (54, .ior, [], 0), (55, .istore_n 3, [], 0), (56, .iinc 4 1, [], 0), (59, .goto (-32), [16], 0), (62, .iload_n 3, [], 0),
  (63, .ireturn, [], 0)]
def m_183 : MDt := (⟨"PenThatJumpsModel", "same", "(II)I"⟩, prog_14_method_60_code, 5, some .int, 11, 11, P_183)
/-- PenThatJumpsModel.powerOf(III)I -/
def P_184 : List IR := [
  (0, .iconst 0, [], 0), (1, .istore 4, [], 0), (3, .iconst 0, [], 0), (4, .istore 5, [], 0), (6, .iconst 0, [], 0), (7, .istore 6, [], 0),
  (9, .iload 6, [], 0), (11, .iconst 4, [], 0), (12, .if_icmp .ge 17, [16], 0), (15, .aload_n 0, [], 0), (16, .getfield 153, [11, 37], 1199), (19, .iload 6, [], 0),
  (21, .iconst 0, [], 0), (22, .iastore, [], 0), (23, .iinc 6 1, [], 0), (26, .goto (-17), [6], 0), (29, .iconst 0, [], 0), (30, .istore 6, [], 0),
  (32, .iload 6, [], 0), (34, .aload_n 0, [], 0), (35, .getfield 99, [11, 16], 1178), (38, .iload_n 1, [], 0), (39, .iaload, [], 0), (40, .if_icmp .ge 149, [109], 0),
  (43, .iload_n 3, [], 0), (44, .iload 6, [], 0), (46, .ishr, [], 0), (47, .iconst 1, [], 0), (48, .iand, [], 0), (49, .iconst 1, [], 0),
  (50, .if_icmp .ne 133, [107], 0), (53, .bipush 12, [], 0), (55, .iload_n 1, [], 0), (56, .imul, [], 0), (57, .iload 6, [], 0), (59, .iadd, [], 0),
  (60, .istore 7, [], 0), (62, .iconst 0, [], 0), (63, .istore 8, [], 0), (65, .iload 8, [], 0), (67, .iconst 3, [], 0), (68, .if_icmp .ge 96, [95], 0),
  (71, .aload_n 0, [], 0), (72, .iload 7, [], 0), (74, .aload_n 0, [], 0), (75, .getfield 153, [11, 37], 1199), (78, .aload_n 0, [], 0), (79, .getfield 102, [11, 17], 1179),
  (82, .iload 7, [], 0), (84, .iaload, [], 0), (85, .iaload, [], 0), (86, .iload 5, [], 0), (88, .iload_n 2, [], 0), (89, .iconst 1, [], 0),
  (90, .iconst 0, [], 0), (91, .iconst 0, [], 0), (92, .invokevirtual 290, [162, 8], 1433), (95, .aload_n 0, [], 0), (96, .iload 8, [], 0), (98, .iconst 0, [], 0),
  (99, .invokevirtual 304, [163, 3], 1442), (102, .istore 9, [], 0), (104, .aload_n 0, [], 0), (105, .iload 7, [], 0), (107, .aload_n 0, [], 0), (108, .getfield 153, [11, 37], 1199),
  (111, .aload_n 0, [], 0), (112, .getfield 102, [11, 17], 1179), (115, .iload 7, [], 0), (117, .iaload, [], 0), (118, .iaload, [], 0), (119, .iload 5, [], 0),
  (121, .iload_n 2, [], 0), (122, .iconst 0, [], 0), (123, .iconst 0, [], 0), (124, .iconst 0, [], 0), (125, .invokevirtual 290, [162, 8], 1433), (128, .iload 9, [], 0),
  (130, .aload_n 0, [], 0), (131, .iload 8, [], 0), (133, .iconst 0, [], 0), (134, .invokevirtual 304, [163, 3], 1442), (137, .isub, [], 0), (138, .istore 10, [], 0),
  (140, .iload 4, [], 0), (142, .iload 10, [], 0), (144, .ifCond .ge 9, [90], 0), (147, .iload 10, [], 0), (149, .ineg, [], 0), (150, .goto 5, [91], 0),
  (153, .iload 10, [], 0), (155, .iadd, [], 0), (156, .istore 4, [], 0), (158, .iinc 8 1, [], 0), (161, .goto (-96), [39], 0), (164, .aload_n 0, [], 0),
  (165, .getfield 153, [11, 37], 1199), (168, .aload_n 0, [], 0), (169, .getfield 102, [11, 17], 1179), (172, .iload 7, [], 0), (174, .iaload, [], 0), (175, .dup2, [], 0),
  (176, .iaload, [], 0), (177, .iconst 1, [], 0), (178, .iadd, [], 0), (179, .iastore, [], 0), (180, .iinc 5 1, [], 0), (183, .iinc 6 1, [], 0),
  (186, .goto (-154), [18], 0), (189, .iload 4, [], 0), (191, .ireturn, [], 0)]
def m_184 : MDt := (⟨"PenThatJumpsModel", "powerOf", "(III)I"⟩, prog_14_method_61_code, 11, some .int, 11, 11, P_184)
/-- PenThatJumpsModel.minutesOf(II)I -/
def P_185 : List IR := [
  (0, .iconst 0, [], 0), (1, .istore_n 3, [], 0), (2, .iconst 0, [], 0), (3, .istore 4, [], 0), (5, .iload 4, [], 0), (7, .aload_n 0, [], 0),
  (8, .getfield 99, [11, 16], 1178), (11, .iload_n 1, [], 0), (12, .iaload, [], 0), (13, .if_icmp .ge 38, [32], 0), (16, .iload_n 3, [], 0), (17, .iload_n 2, [], 0),
  (18, .iload 4, [], 0), (20, .ishr, [], 0), (21, .iconst 1, [], 0), (22, .iand, [], 0), (23, .iconst 1, [], 0), (24, .if_icmp .ne 18, [27], 0),
  (27, .aload_n 0, [], 0), (28, .getfield 108, [11, 19], 1181), (31, .bipush 12, [], 0), (33, .iload_n 1, [], 0), (34, .imul, [], 0), (35, .iload 4, [], 0),
  (37, .iadd, [], 0), (38, .iaload, [], 0), (39, .goto 4, [28], 0), (42, .iconst 0, [], 0), (43, .iadd, [], 0), (44, .istore_n 3, [], 0),
  (45, .iinc 4 1, [], 0), (48, .goto (-43), [4], 0), (51, .iload_n 3, [], 0), (52, .ireturn, [], 0)]
def m_185 : MDt := (⟨"PenThatJumpsModel", "minutesOf", "(II)I"⟩, prog_14_method_62_code, 5, some .int, 11, 11, P_185)
/-- PenThatJumpsModel.best(IIII)I -/
def P_186 : List IR := [
  (0, .aload_n 0, [], 0), (1, .iconst 0, [], 0), (2, .putfield 1, [11, 0], 1162), (5, .aload_n 0, [], 0), (6, .iload_n 1, [], 0), (7, .invokevirtual 233, [147, 2], 1360),
  (10, .ifCond .eq 30, [20], 0), (13, .iload_n 2, [], 0), (14, .invokestatic 340, [181, 1], 1507), (17, .ifCond .eq 23, [20], 0), (20, .iload_n 3, [], 0), (21, .iconst 1, [], 0),
  (22, .bipush 99, [], 0), (24, .invokestatic 213, [140, 3], 1298), (27, .ifCond .eq 13, [20], 0), (30, .iload 4, [], 0), (32, .iconst 0, [], 0), (33, .iconst 2, [], 0),
  (34, .invokestatic 213, [140, 3], 1298), (37, .ifCond .ne 5, [22], 0), (40, .iconst (-1), [], 0), (41, .ireturn, [], 0), (42, .iconst 0, [], 0), (43, .istore 5, [], 0),
  (45, .iconst 0, [], 0), (46, .istore 6, [], 0), (48, .iconst 1, [], 0), (49, .istore 7, [], 0), (51, .iload 7, [], 0), (53, .iconst 1, [], 0),
  (54, .aload_n 0, [], 0), (55, .getfield 99, [11, 16], 1178), (58, .iload_n 1, [], 0), (59, .iaload, [], 0), (60, .ishl, [], 0), (61, .if_icmp .ge 49, [59], 0),
  (64, .aload_n 0, [], 0), (65, .iload_n 1, [], 0), (66, .iload 7, [], 0), (68, .invokevirtual 346, [185, 3], 1522), (71, .iload_n 3, [], 0), (72, .if_icmp .le 7, [44], 0),
  (75, .iconst (-1), [], 0), (76, .goto 11, [49], 0), (79, .aload_n 0, [], 0), (80, .iload_n 1, [], 0), (81, .iload_n 2, [], 0), (82, .iload 7, [], 0),
  (84, .invokevirtual 349, [184, 4], 1526), (87, .istore 8, [], 0), (89, .iload 8, [], 0), (91, .iload 6, [], 0), (93, .if_icmp .le 11, [57], 0), (96, .iload 8, [], 0),
  (98, .istore 6, [], 0), (100, .iload 7, [], 0), (102, .istore 5, [], 0), (104, .iinc 7 1, [], 0), (107, .goto (-56), [28], 0), (110, .iload 4, [], 0),
  (112, .ifCond .ne 8, [63], 0), (115, .iload 6, [], 0), (117, .goto 21, [72], 0), (120, .iload 4, [], 0), (122, .iconst 1, [], 0), (123, .if_icmp .ne 8, [68], 0),
  (126, .iload 5, [], 0), (128, .goto 10, [72], 0), (131, .aload_n 0, [], 0), (132, .iload_n 1, [], 0), (133, .iload 5, [], 0), (135, .invokevirtual 346, [185, 3], 1522),
  (138, .ireturn, [], 0)]
def m_186 : MDt := (⟨"PenThatJumpsModel", "best", "(IIII)I"⟩, prog_14_method_63_code, 9, some .int, 11, 11, P_186)
/-- PenThatJumpsModel.common(JJ)J -/
def P_187 : List IR := [
  (0, .lload_n 0, [], 0), (1, .lconst 0, [], 0), (2, .lcmp, [], 0), (3, .ifCond .ge 8, [7], 0), (6, .lload_n 0, [], 0), (7, .lneg, [], 0),
  (8, .goto 4, [8], 0), (11, .lload_n 0, [], 0), (12, .lstore 4, [], 0), (14, .lload_n 2, [], 0), (15, .lconst 0, [], 0), (16, .lcmp, [], 0),
  (17, .ifCond .ge 8, [16], 0), (20, .lload_n 2, [], 0), (21, .lneg, [], 0), (22, .goto 4, [17], 0), (25, .lload_n 2, [], 0), (26, .lstore 6, [], 0),
  (28, .lload 6, [], 0), (30, .lconst 0, [], 0), (31, .lcmp, [], 0), (32, .ifCond .eq 21, [31], 0), (35, .lload 4, [], 0), (37, .lload 6, [], 0),
  (39, .lrem, [], 0), (40, .lstore 8, [], 0), (42, .lload 6, [], 0), (44, .lstore 4, [], 0), (46, .lload 8, [], 0), (48, .lstore 6, [], 0),
  (50, .goto (-22), [18], 0), (53, .lload 4, [], 0), (55, .lreturn, [], 0)]
def m_187 : MDt := (⟨"PenThatJumpsModel", "common", "(JJ)J"⟩, prog_14_method_64_code, 10, some .long, 11, 99, P_187)
/-- PenThatJumpsModel.lowest(JJI)J -/
def P_188 : List IR := [
  (0, .lload_n 0, [], 0), (1, .lload_n 2, [], 0), (2, .invokestatic 352, [187, 2], 1544), (5, .lstore 5, [], 0), (7, .iload 4, [], 0), (9, .ifCond .ne 10, [10], 0),
  (12, .lload_n 0, [], 0), (13, .lload 5, [], 0), (15, .ldiv, [], 0), (16, .goto 7, [13], 0), (19, .lload_n 2, [], 0), (20, .lload 5, [], 0),
  (22, .ldiv, [], 0), (23, .lreturn, [], 0)]
def m_188 : MDt := (⟨"PenThatJumpsModel", "lowest", "(JJI)J"⟩, prog_14_method_65_code, 7, some .long, 11, 99, P_188)
/-- PenThatJumpsModel.power(JI)J -/
def P_189 : List IR := [
  (0, .lconst 1, [], 0), (1, .lstore_n 3, [], 0), (2, .iconst 0, [], 0), (3, .istore 5, [], 0), (5, .iload 5, [], 0), (7, .iload_n 2, [], 0),
  (8, .if_icmp .ge 13, [13], 0), (11, .lload_n 3, [], 0), (12, .lload_n 0, [], 0), (13, .lmul, [], 0), (14, .lstore_n 3, [], 0), (15, .iinc 5 1, [], 0),
  (18, .goto (-13), [4], 0), (21, .lload_n 3, [], 0), (22, .lreturn, [], 0)]
def m_189 : MDt := (⟨"PenThatJumpsModel", "power", "(JI)J"⟩, prog_14_method_66_code, 6, some .long, 11, 99, P_189)
/-- PenThatJumpsModel.choices(II)J -/
def P_190 : List IR := [
  (0, .lconst 1, [], 0), (1, .lstore_n 2, [], 0), (2, .iconst 0, [], 0), (3, .istore 4, [], 0), (5, .iload 4, [], 0), (7, .iload_n 1, [], 0),
  (8, .if_icmp .ge 23, [21], 0), (11, .lload_n 2, [], 0), (12, .iload_n 0, [], 0), (13, .iload 4, [], 0), (15, .isub, [], 0), (16, .i2l, [], 0),
  (17, .lmul, [], 0), (18, .iload 4, [], 0), (20, .iconst 1, [], 0), (21, .iadd, [], 0), (22, .i2l, [], 0), (23, .ldiv, [], 0),
  (24, .lstore_n 2, [], 0), (25, .iinc 4 1, [], 0), (28, .goto (-23), [4], 0), (31, .lload_n 2, [], 0), (32, .lreturn, [], 0)]
def m_190 : MDt := (⟨"PenThatJumpsModel", "choices", "(II)J"⟩, prog_14_method_67_code, 5, some .long, 11, 99, P_190)
/-- PenThatJumpsModel.odds(IIII)J -/
def P_191 : List IR := [
  (0, .aload_n 0, [], 0), (1, .iconst 0, [], 0), (2, .putfield 1, [11, 0], 1162), (5, .iload_n 1, [], 0), (6, .iconst 1, [], 0), (7, .bipush 9, [], 0),
  (9, .invokestatic 213, [140, 3], 1298), (12, .ifCond .eq 32, [23], 0), (15, .iload_n 2, [], 0), (16, .iconst 2, [], 0), (17, .bipush 9, [], 0), (19, .invokestatic 213, [140, 3], 1298),
  (22, .ifCond .eq 22, [23], 0), (25, .iload_n 3, [], 0), (26, .iconst 0, [], 0), (27, .iload_n 1, [], 0), (28, .invokestatic 213, [140, 3], 1298), (31, .ifCond .eq 13, [23], 0),
  (34, .iload 4, [], 0), (36, .iconst 0, [], 0), (37, .iconst 1, [], 0), (38, .invokestatic 213, [140, 3], 1298), (41, .ifCond .ne 7, [25], 0), (44, .ldc2_w 356, [1, 1], 1534),
  (47, .lreturn, [], 0), (48, .lconst 0, [], 0), (49, .lstore 5, [], 0), (51, .iload_n 3, [], 0), (52, .istore 7, [], 0), (54, .iload 7, [], 0),
  (56, .iload_n 1, [], 0), (57, .if_icmp .gt 32, [49], 0), (60, .lload 5, [], 0), (62, .iload_n 1, [], 0), (63, .iload 7, [], 0), (65, .invokestatic 358, [190, 2], 1535),
  (68, .iload_n 2, [], 0), (69, .i2l, [], 0), (70, .lconst 1, [], 0), (71, .lsub, [], 0), (72, .iload_n 1, [], 0), (73, .iload 7, [], 0),
  (75, .isub, [], 0), (76, .invokestatic 362, [189, 2], 1538), (79, .lmul, [], 0), (80, .ladd, [], 0), (81, .lstore 5, [], 0), (83, .iinc 7 1, [], 0),
  (86, .goto (-32), [29], 0), (89, .lload 5, [], 0), (91, .iload_n 2, [], 0), (92, .i2l, [], 0), (93, .iload_n 1, [], 0), (94, .invokestatic 362, [189, 2], 1538),
  (97, .iload 4, [], 0), (99, .invokestatic 366, [188, 3], 1541), (102, .lreturn, [], 0)]
def m_191 : MDt := (⟨"PenThatJumpsModel", "odds", "(IIII)J"⟩, prog_14_method_68_code, 8, some .long, 11, 11, P_191)
/-- PenThatJumpsModel.items(II)I -/
def P_192 : List IR := [
  (0, .aload_n 0, [], 0), (1, .iconst 0, [], 0), (2, .putfield 1, [11, 0], 1162), (5, .iload_n 1, [], 0), (6, .iconst 2, [], 0), (7, .bipush 9, [], 0),
  (9, .invokestatic 213, [140, 3], 1298), (12, .ifCond .eq 14, [13], 0), (15, .iload_n 2, [], 0), (16, .iconst 1, [], 0), (17, .ldc_w 370, [999999999], 1551), (20, .invokestatic 213, [140, 3], 1298),
  (23, .ifCond .ne 5, [15], 0), (26, .iconst (-1), [], 0), (27, .ireturn, [], 0), (28, .iconst 1, [], 0), (29, .istore_n 3, [], 0), (30, .iload_n 3, [], 0),
  (31, .bipush 9, [], 0), (33, .if_icmp .gt 23, [32], 0), (36, .iload_n 1, [], 0), (37, .i2l, [], 0), (38, .iload_n 3, [], 0), (39, .invokestatic 362, [189, 2], 1538),
  (42, .iload_n 2, [], 0), (43, .i2l, [], 0), (44, .lcmp, [], 0), (45, .ifCond .lt 5, [30], 0), (48, .iload_n 3, [], 0), (49, .ireturn, [], 0),
  (50, .iinc 3 1, [], 0), (53, .goto (-23), [17], 0), (56, .iconst (-1), [], 0), (57, .ireturn, [], 0)]
def m_192 : MDt := (⟨"PenThatJumpsModel", "items", "(II)I"⟩, prog_14_method_69_code, 4, some .int, 11, 11, P_192)
/-- PenThatJumpsModel.named(IIIIIII)J -/
def P_193 : List IR := [
  (0, .aload_n 0, [], 0), (1, .iconst 0, [], 0), (2, .putfield 1, [11, 0], 1162), (5, .iload_n 1, [], 0), (6, .iconst 1, [], 0), (7, .sipush 9999, [], 0),
  (10, .invokestatic 213, [140, 3], 1298), (13, .ifCond .eq 36, [25], 0), (16, .iload_n 2, [], 0), (17, .iconst 0, [], 0), (18, .iload_n 1, [], 0), (19, .invokestatic 213, [140, 3], 1298),
  (22, .ifCond .eq 27, [25], 0), (25, .aload_n 0, [], 0), (26, .iload_n 3, [], 0), (27, .iload 4, [], 0), (29, .iload 5, [], 0), (31, .iload 6, [], 0),
  (33, .invokevirtual 332, [176, 5], 1491), (36, .ifCond .eq 13, [25], 0), (39, .iload 7, [], 0), (41, .iconst 0, [], 0), (42, .iconst 1, [], 0), (43, .invokestatic 213, [140, 3], 1298),
  (46, .ifCond .ne 7, [27], 0), (49, .ldc2_w 356, [1, 1], 1534), (52, .lreturn, [], 0), (53, .aload_n 0, [], 0), (54, .iload_n 3, [], 0), (55, .iload 4, [], 0),
  (57, .iload 5, [], 0), (59, .iload 6, [], 0), (61, .invokevirtual 336, [177, 5], 1495), (64, .aload_n 0, [], 0), (65, .getfield 150, [11, 36], 1198), (68, .iconst 1, [], 0),
  (69, .iaload, [], 0), (70, .ifCond .eq 12, [43], 0), (73, .aload_n 0, [], 0), (74, .getfield 150, [11, 36], 1198), (77, .iconst 3, [], 0), (78, .iaload, [], 0),
  (79, .ifCond .ne 7, [45], 0), (82, .ldc2_w 356, [1, 1], 1534), (85, .lreturn, [], 0), (86, .iload_n 2, [], 0), (87, .i2l, [], 0), (88, .aload_n 0, [], 0),
  (89, .getfield 150, [11, 36], 1198), (92, .iconst 0, [], 0), (93, .iaload, [], 0), (94, .i2l, [], 0), (95, .lmul, [], 0), (96, .aload_n 0, [], 0),
  (97, .getfield 150, [11, 36], 1198), (100, .iconst 3, [], 0), (101, .iaload, [], 0), (102, .i2l, [], 0), (103, .lmul, [], 0), (104, .lstore 8, [], 0),
  (106, .lload 8, [], 0), (108, .iload_n 1, [], 0), (109, .iload_n 2, [], 0), (110, .isub, [], 0), (111, .i2l, [], 0), (112, .aload_n 0, [], 0),
  (113, .getfield 150, [11, 36], 1198), (116, .iconst 2, [], 0), (117, .iaload, [], 0), (118, .i2l, [], 0), (119, .lmul, [], 0), (120, .aload_n 0, [], 0),
  (121, .getfield 150, [11, 36], 1198), (124, .iconst 1, [], 0), (125, .iaload, [], 0), (126, .i2l, [], 0), (127, .lmul, [], 0), (128, .ladd, [], 0),
  (129, .lstore 10, [], 0), (131, .lload 10, [], 0), (133, .lconst 0, [], 0), (134, .lcmp, [], 0), (135, .ifCond .ne 9, [86], 0), (138, .iload 7, [], 0),
  (140, .i2l, [], 0), (141, .goto 12, [90], 0), (144, .lload 8, [], 0), (146, .lload 10, [], 0), (148, .iload 7, [], 0), (150, .invokestatic 366, [188, 3], 1541),
  (153, .lreturn, [], 0)]
def m_193 : MDt := (⟨"PenThatJumpsModel", "named", "(IIIIIII)J"⟩, prog_14_method_70_code, 12, some .long, 11, 11, P_193)
/-- PenThatJumpsModel.confess(ZZZI)Z -/
def P_194 : List IR := [
  (0, .aload_n 0, [], 0), (1, .iconst 0, [], 0), (2, .putfield 1, [11, 0], 1162), (5, .iload 4, [], 0), (7, .iconst 0, [], 0), (8, .sipush 9999, [], 0),
  (11, .invokestatic 213, [140, 3], 1298), (14, .ifCond .ne 5, [10], 0), (17, .iconst 0, [], 0), (18, .ireturn, [], 0), (19, .aload_n 0, [], 0), (20, .getfield 156, [11, 38], 1200),
  (23, .iload_n 1, [], 0), (24, .ifCond .eq 7, [16], 0), (27, .iconst 4, [], 0), (28, .goto 4, [17], 0), (31, .iconst 0, [], 0), (32, .iload_n 2, [], 0),
  (33, .ifCond .eq 7, [21], 0), (36, .iconst 2, [], 0), (37, .goto 4, [22], 0), (40, .iconst 0, [], 0), (41, .iadd, [], 0), (42, .iload_n 3, [], 0),
  (43, .ifCond .eq 7, [27], 0), (46, .iconst 1, [], 0), (47, .goto 4, [28], 0), (50, .iconst 0, [], 0), (51, .iadd, [], 0), (52, .dup2, [], 0),
  (53, .laload, [], 0), (54, .iload 4, [], 0), (56, .i2l, [], 0), (57, .ladd, [], 0), (58, .lastore, [], 0), (59, .iconst 1, [], 0),
  (60, .ireturn, [], 0)]
def m_194 : MDt := (⟨"PenThatJumpsModel", "confess", "(ZZZI)Z"⟩, prog_14_method_71_code, 5, some .boolean, 11, 11, P_194)
/-- PenThatJumpsModel.confessedOf(III)J -/
def P_195 : List IR := [
  (0, .lconst 0, [], 0), (1, .lstore 4, [], 0), (3, .iconst 0, [], 0), (4, .istore 6, [], 0), (6, .iload 6, [], 0), (8, .iconst 2, [], 0),
  (9, .if_icmp .ge 73, [47], 0), (12, .iload_n 1, [], 0), (13, .iconst 2, [], 0), (14, .if_icmp .eq 26, [22], 0), (17, .iload_n 1, [], 0), (18, .ifCond .ne 7, [14], 0),
  (21, .iconst 1, [], 0), (22, .goto 4, [15], 0), (25, .iconst 0, [], 0), (26, .iload 6, [], 0), (28, .iconst 1, [], 0), (29, .if_icmp .ne 7, [20], 0),
  (32, .iconst 1, [], 0), (33, .goto 4, [21], 0), (36, .iconst 0, [], 0), (37, .if_icmp .ne 7, [24], 0), (40, .iconst 1, [], 0), (41, .goto 4, [25], 0),
  (44, .iconst 0, [], 0), (45, .istore 7, [], 0), (47, .lload 4, [], 0), (49, .iload 7, [], 0), (51, .ifCond .eq 21, [42], 0), (54, .aload_n 0, [], 0),
  (55, .getfield 156, [11, 38], 1200), (58, .iconst 4, [], 0), (59, .iload 6, [], 0), (61, .imul, [], 0), (62, .iconst 2, [], 0), (63, .iload_n 2, [], 0),
  (64, .imul, [], 0), (65, .iadd, [], 0), (66, .iload_n 3, [], 0), (67, .iadd, [], 0), (68, .laload, [], 0), (69, .goto 4, [43], 0),
  (72, .lconst 0, [], 0), (73, .ladd, [], 0), (74, .lstore 4, [], 0), (76, .iinc 6 1, [], 0), (79, .goto (-73), [4], 0), (82, .lload 4, [], 0),
  (84, .lreturn, [], 0)]
def m_195 : MDt := (⟨"PenThatJumpsModel", "confessedOf", "(III)J"⟩, prog_14_method_72_code, 8, some .long, 11, 11, P_195)
/-- PenThatJumpsModel.worth(II)J -/
def P_196 : List IR := [
  (0, .aload_n 0, [], 0), (1, .iload_n 1, [], 0), (2, .iconst 0, [], 0), (3, .iconst 2, [], 0), (4, .invokestatic 213, [140, 3], 1298), (7, .ifCond .eq 16, [13], 0),
  (10, .iload_n 2, [], 0), (11, .iconst 0, [], 0), (12, .iconst 1, [], 0), (13, .invokestatic 213, [140, 3], 1298), (16, .ifCond .eq 7, [13], 0), (19, .iconst 0, [], 0),
  (20, .goto 4, [14], 0), (23, .iconst 1, [], 0), (24, .putfield 1, [11, 0], 1162), (27, .aload_n 0, [], 0), (28, .getfield 1, [11, 0], 1162), (31, .ifCond .le 5, [20], 0),
  (34, .lconst 0, [], 0), (35, .lreturn, [], 0), (36, .aload_n 0, [], 0), (37, .iload_n 1, [], 0), (38, .iconst 1, [], 0), (39, .iconst 1, [], 0),
  (40, .invokevirtual 371, [195, 4], 1564), (43, .lstore_n 3, [], 0), (44, .lload_n 3, [], 0), (45, .aload_n 0, [], 0), (46, .iload_n 1, [], 0), (47, .iconst 1, [], 0),
  (48, .iconst 0, [], 0), (49, .invokevirtual 371, [195, 4], 1564), (52, .ladd, [], 0), (53, .lstore 5, [], 0), (55, .aload_n 0, [], 0), (56, .iload_n 1, [], 0),
  (57, .iconst 0, [], 0), (58, .iconst 1, [], 0), (59, .invokevirtual 371, [195, 4], 1564), (62, .lstore 7, [], 0), (64, .lload 7, [], 0), (66, .aload_n 0, [], 0),
  (67, .iload_n 1, [], 0), (68, .iconst 0, [], 0), (69, .iconst 0, [], 0), (70, .invokevirtual 371, [195, 4], 1564), (73, .ladd, [], 0), (74, .lstore 9, [], 0),
  (76, .aload_n 0, [], 0), (77, .lload 5, [], 0), (79, .lconst 0, [], 0), (80, .lcmp, [], 0), (81, .ifCond .eq 10, [57], 0), (84, .lload 9, [], 0),
  (86, .lconst 0, [], 0), (87, .lcmp, [], 0), (88, .ifCond .ne 7, [59], 0), (91, .iconst 1, [], 0), (92, .goto 4, [60], 0), (95, .iconst 0, [], 0),
  (96, .putfield 1, [11, 0], 1162), (99, .aload_n 0, [], 0), (100, .getfield 1, [11, 0], 1162), (103, .ifCond .le 7, [66], 0), (106, .lconst 0, [], 0), (107, .goto 22, [78], 0),
  (110, .lload_n 3, [], 0), (111, .lload 9, [], 0), (113, .lmul, [], 0), (114, .lload 7, [], 0), (116, .lload 5, [], 0), (118, .lmul, [], 0),
  (119, .lsub, [], 0), (120, .lload 5, [], 0), (122, .lload 9, [], 0), (124, .lmul, [], 0), (125, .iload_n 2, [], 0), (126, .invokestatic 366, [188, 3], 1541),
  (129, .lreturn, [], 0)]
def m_196 : MDt := (⟨"PenThatJumpsModel", "worth", "(II)J"⟩, prog_14_method_73_code, 11, some .long, 11, 11, P_196)
/-- PenThatJumpsModel.paper(ZII)Z -/
def P_197 : List IR := [
  (0, .aload_n 0, [], 0), (1, .iconst 0, [], 0), (2, .putfield 1, [11, 0], 1162), (5, .iload_n 2, [], 0), (6, .iconst 1, [], 0), (7, .sipush 9999, [], 0),
  (10, .invokestatic 213, [140, 3], 1298), (13, .ifCond .eq 12, [13], 0), (16, .iload_n 3, [], 0), (17, .iconst 0, [], 0), (18, .iload_n 2, [], 0), (19, .invokestatic 213, [140, 3], 1298),
  (22, .ifCond .ne 5, [15], 0), (25, .iconst 0, [], 0), (26, .ireturn, [], 0), (27, .aload_n 0, [], 0), (28, .getfield 159, [11, 39], 1201), (31, .iload_n 1, [], 0),
  (32, .ifCond .eq 7, [21], 0), (35, .iconst 0, [], 0), (36, .goto 4, [22], 0), (39, .iconst 2, [], 0), (40, .dup2, [], 0), (41, .laload, [], 0),
  (42, .iload_n 2, [], 0), (43, .i2l, [], 0), (44, .ladd, [], 0), (45, .lastore, [], 0), (46, .aload_n 0, [], 0), (47, .getfield 159, [11, 39], 1201),
  (50, .iload_n 1, [], 0), (51, .ifCond .eq 7, [34], 0), (54, .iconst 1, [], 0), (55, .goto 4, [35], 0), (58, .iconst 3, [], 0), (59, .dup2, [], 0),
  (60, .laload, [], 0), (61, .iload_n 3, [], 0), (62, .i2l, [], 0), (63, .ladd, [], 0), (64, .lastore, [], 0), (65, .iconst 1, [], 0),
  (66, .ireturn, [], 0)]
def m_197 : MDt := (⟨"PenThatJumpsModel", "paper", "(ZII)Z"⟩, prog_14_method_74_code, 4, some .boolean, 11, 11, P_197)
/-- PenThatJumpsModel.lean(I)J -/
def P_198 : List IR := [
  (0, .aload_n 0, [], 0), (1, .iload_n 1, [], 0), (2, .iconst 0, [], 0), (3, .iconst 1, [], 0), (4, .invokestatic 213, [140, 3], 1298), (7, .ifCond .eq 29, [22], 0),
  (10, .aload_n 0, [], 0), (11, .getfield 159, [11, 39], 1201), (14, .iconst 0, [], 0), (15, .laload, [], 0), (16, .lconst 0, [], 0), (17, .lcmp, [], 0),
  (18, .ifCond .le 18, [22], 0), (21, .aload_n 0, [], 0), (22, .getfield 159, [11, 39], 1201), (25, .iconst 2, [], 0), (26, .laload, [], 0), (27, .lconst 0, [], 0),
  (28, .lcmp, [], 0), (29, .ifCond .le 7, [22], 0), (32, .iconst 0, [], 0), (33, .goto 4, [23], 0), (36, .iconst 1, [], 0), (37, .putfield 1, [11, 0], 1162),
  (40, .aload_n 0, [], 0), (41, .getfield 1, [11, 0], 1162), (44, .ifCond .le 7, [29], 0), (47, .lconst 0, [], 0), (48, .goto 47, [59], 0), (51, .aload_n 0, [], 0),
  (52, .getfield 159, [11, 39], 1201), (55, .iconst 1, [], 0), (56, .laload, [], 0), (57, .aload_n 0, [], 0), (58, .getfield 159, [11, 39], 1201), (61, .iconst 2, [], 0),
  (62, .laload, [], 0), (63, .lmul, [], 0), (64, .aload_n 0, [], 0), (65, .getfield 159, [11, 39], 1201), (68, .iconst 3, [], 0), (69, .laload, [], 0),
  (70, .aload_n 0, [], 0), (71, .getfield 159, [11, 39], 1201), (74, .iconst 0, [], 0), (75, .laload, [], 0), (76, .lmul, [], 0), (77, .lsub, [], 0),
  (78, .aload_n 0, [], 0), (79, .getfield 159, [11, 39], 1201), (82, .iconst 0, [], 0), (83, .laload, [], 0), (84, .aload_n 0, [], 0), (85, .getfield 159, [11, 39], 1201),
  (88, .iconst 2, [], 0), (89, .laload, [], 0), (90, .lmul, [], 0), (91, .iload_n 1, [], 0), (92, .invokestatic 366, [188, 3], 1541), (95, .lreturn, [], 0)]
def m_198 : MDt := (⟨"PenThatJumpsModel", "lean", "(I)J"⟩, prog_14_method_75_code, 2, some .long, 11, 11, P_198)
/-- PenThatJumpsModel.mark(IZ)Z -/
def P_199 : List IR := [
  (0, .aload_n 0, [], 0), (1, .iconst 0, [], 0), (2, .putfield 1, [11, 0], 1162), (5, .iload_n 1, [], 0), (6, .iconst 0, [], 0), (7, .iconst 3, [], 0),
  (8, .invokestatic 213, [140, 3], 1298), (11, .ifCond .eq 29, [22], 0), (14, .iload_n 2, [], 0), (15, .ifCond .eq 27, [24], 0), (18, .aload_n 0, [], 0), (19, .getfield 162, [11, 40], 1202),
  (22, .iload_n 1, [], 0), (23, .baload, [], 0), (24, .ifCond .eq 16, [22], 0), (27, .aload_n 0, [], 0), (28, .getfield 310, [11, 30], 1192), (31, .aload_n 0, [], 0),
  (32, .getfield 165, [11, 41], 1203), (35, .iload_n 1, [], 0), (36, .iaload, [], 0), (37, .if_icmp .ge 5, [24], 0), (40, .iconst 0, [], 0), (41, .ireturn, [], 0),
  (42, .iload_n 2, [], 0), (43, .ifCond .eq 16, [33], 0), (46, .aload_n 0, [], 0), (47, .aload_n 0, [], 0), (48, .getfield 165, [11, 41], 1203), (51, .iload_n 1, [], 0),
  (52, .iaload, [], 0), (53, .putfield 310, [11, 30], 1192), (56, .goto 20, [44], 0), (59, .aload_n 0, [], 0), (60, .getfield 162, [11, 40], 1202), (63, .iload_n 1, [], 0),
  (64, .iconst 1, [], 0), (65, .bastore, [], 0), (66, .aload_n 0, [], 0), (67, .getfield 165, [11, 41], 1203), (70, .iload_n 1, [], 0), (71, .aload_n 0, [], 0),
  (72, .getfield 310, [11, 30], 1192), (75, .iastore, [], 0), (76, .iconst 0, [], 0), (77, .istore_n 3, [], 0), (78, .iload_n 3, [], 0), (79, .bipush 12, [], 0),
  (81, .if_icmp .ge 97, [106], 0), (84, .iload_n 2, [], 0), (85, .ifCond .ne 41, [74], 0), (88, .aload_n 0, [], 0), (89, .getfield 168, [11, 42], 1204), (92, .bipush 12, [], 0),
  (94, .iload_n 1, [], 0), (95, .imul, [], 0), (96, .iload_n 3, [], 0), (97, .iadd, [], 0), (98, .iload_n 3, [], 0), (99, .bipush 8, [], 0),
  (101, .if_icmp .ge 12, [66], 0), (104, .aload_n 0, [], 0), (105, .getfield 156, [11, 38], 1200), (108, .iload_n 3, [], 0), (109, .laload, [], 0), (110, .goto 12, [72], 0),
  (113, .aload_n 0, [], 0), (114, .getfield 159, [11, 39], 1201), (117, .iload_n 3, [], 0), (118, .bipush 8, [], 0), (120, .isub, [], 0), (121, .laload, [], 0),
  (122, .lastore, [], 0), (123, .goto 49, [104], 0), (126, .iload_n 3, [], 0), (127, .bipush 8, [], 0), (129, .if_icmp .ge 23, [90], 0), (132, .aload_n 0, [], 0),
  (133, .getfield 156, [11, 38], 1200), (136, .iload_n 3, [], 0), (137, .aload_n 0, [], 0), (138, .getfield 168, [11, 42], 1204), (141, .bipush 12, [], 0), (143, .iload_n 1, [], 0),
  (144, .imul, [], 0), (145, .iload_n 3, [], 0), (146, .iadd, [], 0), (147, .laload, [], 0), (148, .lastore, [], 0), (149, .goto 23, [104], 0),
  (152, .aload_n 0, [], 0), (153, .getfield 159, [11, 39], 1201), (156, .iload_n 3, [], 0), (157, .bipush 8, [], 0), (159, .isub, [], 0), (160, .aload_n 0, [], 0),
  (161, .getfield 168, [11, 42], 1204), (164, .bipush 12, [], 0), (166, .iload_n 1, [], 0), (167, .imul, [], 0), (168, .iload_n 3, [], 0), (169, .iadd, [], 0),
  (170, .laload, [], 0), (171, .lastore, [], 0), (172, .iinc 3 1, [], 0), (175, .goto (-97), [46], 0), (178, .iconst 1, [], 0), (179, .ireturn, [], 0)]
def m_199 : MDt := (⟨"PenThatJumpsModel", "mark", "(IZ)Z"⟩, prog_14_method_76_code, 4, some .boolean, 11, 11, P_199)
/-- PenThatJumpsModel.count(I)I -/
def P_200 : List IR := [
  (0, .aload_n 0, [], 0), (1, .iconst 0, [], 0), (2, .putfield 1, [11, 0], 1162), (5, .lconst 0, [], 0), (6, .lstore_n 2, [], 0), (7, .iload_n 1, [], 0),
  (8, .tableswitch 225 0 7 #[48, 99, 135, 48, 140, 169, 184, 189], [111, 7, 35, 56, 7, 59, 76, 87, 90], 0), (56, .iconst 0, [], 0), (57, .istore 4, [], 0), (59, .iload 4, [], 0), (61, .bipush 8, [], 0), (63, .if_icmp .ge 41, [32], 0),
  (66, .lload_n 2, [], 0), (67, .aload_n 0, [], 0), (68, .getfield 83, [11, 10], 1172), (71, .iload 4, [], 0), (73, .baload, [], 0), (74, .ifCond .eq 21, [27], 0),
  (77, .iload_n 1, [], 0), (78, .ifCond .eq 13, [25], 0), (81, .aload_n 0, [], 0), (82, .getfield 90, [11, 12], 1174), (85, .iload 4, [], 0), (87, .baload, [], 0),
  (88, .ifCond .eq 7, [27], 0), (91, .lconst 1, [], 0), (92, .goto 4, [28], 0), (95, .lconst 0, [], 0), (96, .ladd, [], 0), (97, .lstore_n 2, [], 0),
  (98, .iinc 4 1, [], 0), (101, .goto (-42), [9], 0), (104, .lload_n 2, [], 0), (105, .l2i, [], 0), (106, .ireturn, [], 0), (107, .iconst 0, [], 0),
  (108, .istore 4, [], 0), (110, .iload 4, [], 0), (112, .iconst 4, [], 0), (113, .if_icmp .ge 27, [53], 0), (116, .lload_n 2, [], 0), (117, .aload_n 0, [], 0),
  (118, .getfield 99, [11, 16], 1178), (121, .iload 4, [], 0), (123, .iaload, [], 0), (124, .ifCond .le 7, [48], 0), (127, .lconst 1, [], 0), (128, .goto 4, [49], 0),
  (131, .lconst 0, [], 0), (132, .ladd, [], 0), (133, .lstore_n 2, [], 0), (134, .iinc 4 1, [], 0), (137, .goto (-27), [37], 0), (140, .lload_n 2, [], 0),
  (141, .l2i, [], 0), (142, .ireturn, [], 0), (143, .aload_n 0, [], 0), (144, .getfield 310, [11, 30], 1192), (147, .ireturn, [], 0), (148, .iconst 0, [], 0),
  (149, .istore 4, [], 0), (151, .iload 4, [], 0), (153, .bipush 8, [], 0), (155, .if_icmp .ge 19, [73], 0), (158, .lload_n 2, [], 0), (159, .aload_n 0, [], 0),
  (160, .getfield 156, [11, 38], 1200), (163, .iload 4, [], 0), (165, .laload, [], 0), (166, .ladd, [], 0), (167, .lstore_n 2, [], 0), (168, .iinc 4 1, [], 0),
  (171, .goto (-20), [61], 0), (174, .lload_n 2, [], 0), (175, .l2i, [], 0), (176, .ireturn, [], 0), (177, .aload_n 0, [], 0), (178, .getfield 159, [11, 39], 1201),
  (181, .iconst 0, [], 0), (182, .laload, [], 0), (183, .aload_n 0, [], 0), (184, .getfield 159, [11, 39], 1201), (187, .iconst 2, [], 0), (188, .laload, [], 0),
  (189, .ladd, [], 0), (190, .l2i, [], 0), (191, .ireturn, [], 0), (192, .aload_n 0, [], 0), (193, .getfield 11, [11, 2], 1164), (196, .ireturn, [], 0),
  (197, .iconst 0, [], 0), (198, .istore 4, [], 0), (200, .iload 4, [], 0), (202, .iconst 3, [], 0), (203, .if_icmp .ge 27, [108], 0), (206, .lload_n 2, [], 0),
  (207, .aload_n 0, [], 0), (208, .getfield 117, [11, 24], 1186), (211, .iload 4, [], 0), (213, .iaload, [], 0), (214, .ifCond .lt 7, [103], 0), (217, .lconst 1, [], 0),
  (218, .goto 4, [104], 0), (221, .lconst 0, [], 0), (222, .ladd, [], 0), (223, .lstore_n 2, [], 0), (224, .iinc 4 1, [], 0), (227, .goto (-27), [92], 0),
  (230, .lload_n 2, [], 0), (231, .l2i, [], 0), (232, .ireturn, [], 0), (233, .iconst (-1), [], 0), (234, .ireturn, [], 0)]
def m_200 : MDt := (⟨"PenThatJumpsModel", "count", "(I)I"⟩, prog_14_method_77_code, 5, some .int, 11, 11, P_200)
/-- java/lang/String.length()I -/
def P_201 : List IR := [
  (0, .aload_n 0, [], 0), (1, .getfield 9, [42, 0], 1603), (4, .arraylength, [], 0), (5, .aload_n 0, [], 0), (6, .invokevirtual 335, [203, 1], 541), (9, .ishr, [], 0),
  (10, .ireturn, [], 0)]
def m_201 : MDt := (⟨"java/lang/String", "length", "()I"⟩, prog_23_method_54_code, 1, some .int, 15, 42, P_201)
/-- java/lang/String.charAt(I)C -/
def P_202 : List IR := [
  (0, .aload_n 0, [], 0), (1, .invokevirtual 492, [204, 1], 551), (4, .ifCond .eq 12, [8], 0), (7, .aload_n 0, [], 0), (8, .getfield 9, [42, 0], 1603), (11, .iload_n 1, [], 0),
  (12, .invokestatic 495, [206, 2], 555), (15, .ireturn, [], 0), (16, .aload_n 0, [], 0), (17, .getfield 9, [42, 0], 1603), (20, .iload_n 1, [], 0), (21, .invokestatic 498, [], 566),
  (24, .ireturn, [], 0)]
def m_202 : MDt := (⟨"java/lang/String", "charAt", "(I)C"⟩, prog_23_method_56_code, 2, some .char, 15, 42, P_202)
/-- java/lang/String.coder()B -/
def P_203 : List IR := [
  (0, .getstatic 38, [1, 1], 545), (3, .ifCond .eq 10, [5], 0), (6, .aload_n 0, [], 0), (7, .getfield 15, [42, 1], 1604), (10, .goto 4, [6], 0), (13, .iconst 1, [], 0),
  (14, .ireturn, [], 0)]
def m_203 : MDt := (⟨"java/lang/String", "coder", "()B"⟩, prog_23_method_152_code, 1, some .byte, 15, 42, P_203)
/-- java/lang/String.isLatin1()Z -/
def P_204 : List IR := [
  (0, .getstatic 38, [1, 1], 545), (3, .ifCond .eq 14, [7], 0), (6, .aload_n 0, [], 0), (7, .getfield 15, [42, 1], 1604), (10, .ifCond .ne 7, [7], 0), (13, .iconst 1, [], 0),
  (14, .goto 4, [8], 0), (17, .iconst 0, [], 0), (18, .ireturn, [], 0)]
def m_204 : MDt := (⟨"java/lang/String", "isLatin1", "()Z"⟩, prog_23_method_154_code, 1, some .boolean, 15, 42, P_204)
/-- java/lang/String.checkIndex(II)V -/
def P_205 : List IR := [
  (0, .iload_n 0, [], 0), (1, .iload_n 1, [], 0), (2, .getstatic 1053, [0, 75], 561), (5, .invokestatic 1059, [209, 3], 563), (8, .pop, [], 0), (9, .return_, [], 0)]
def m_205 : MDt := (⟨"java/lang/String", "checkIndex", "(II)V"⟩, prog_23_method_155_code, 2, none, 15, 99, P_205)
/-- java/lang/StringLatin1.charAt([BI)C -/
def P_206 : List IR := [
  (0, .iload_n 1, [], 0), (1, .aload_n 0, [], 0), (2, .arraylength, [], 0), (3, .invokestatic 9, [205, 2], 558), (6, .aload_n 0, [], 0), (7, .iload_n 1, [], 0),
  (8, .baload, [], 0), (9, .sipush 255, [], 0), (12, .iand, [], 0), (13, .i2c, [], 0), (14, .ireturn, [], 0)]
def m_206 : MDt := (⟨"java/lang/StringLatin1", "charAt", "([BI)C"⟩, prog_24_method_2_code, 2, some .char, 16, 99, P_206)
/-- java/util/Arrays.fill([II)V -/
def P_207 : List IR := [
  (0, .iconst 0, [], 0), (1, .istore_n 2, [], 0), (2, .aload_n 0, [], 0), (3, .arraylength, [], 0), (4, .istore_n 3, [], 0), (5, .iload_n 2, [], 0),
  (6, .iload_n 3, [], 0), (7, .if_icmp .ge 13, [14], 0), (10, .aload_n 0, [], 0), (11, .iload_n 2, [], 0), (12, .iload_n 1, [], 0), (13, .iastore, [], 0),
  (14, .iinc 2 1, [], 0), (17, .goto (-12), [5], 0), (20, .return_, [], 0)]
def m_207 : MDt := (⟨"java/util/Arrays", "fill", "([II)V"⟩, prog_30_method_103_code, 4, none, 18, 99, P_207)
/-- java/util/Arrays.copyOf([II)[I -/
def P_208 : List IR := [
  (0, .iload_n 1, [], 0), (1, .aload_n 0, [], 0), (2, .arraylength, [], 0), (3, .if_icmp .ne 11, [8], 0), (6, .aload_n 0, [], 0), (7, .invokevirtual 316, [], 740),
  (10, .checkcast 317, [], 746), (13, .areturn, [], 0), (14, .iload_n 1, [], 0), (15, .newarray .int, [20], 0), (17, .astore_n 2, [], 0), (18, .aload_n 0, [], 0),
  (19, .iconst 0, [], 0), (20, .aload_n 2, [], 0), (21, .iconst 0, [], 0), (22, .aload_n 0, [], 0), (23, .arraylength, [], 0), (24, .iload_n 1, [], 0),
  (25, .invokestatic 304, [307, 2], 747), (28, .invokestatic 150, [300, 5], 750), (31, .aload_n 2, [], 0), (32, .areturn, [], 0)]
def m_208 : MDt := (⟨"java/util/Arrays", "copyOf", "([II)[I"⟩, prog_30_method_123_code, 3, some (.array .int), 18, 99, P_208)
/-- jdk/internal/util/Preconditions.checkIndex(IILjava/util/function/BiFunction;)I -/
def P_209 : List IR := [
  (0, .iload_n 0, [], 0), (1, .ifCond .lt 8, [5], 0), (4, .iload_n 0, [], 0), (5, .iload_n 1, [], 0), (6, .if_icmp .lt 10, [10], 0), (9, .aload_n 2, [], 0),
  (10, .iload_n 0, [], 0), (11, .iload_n 1, [], 0), (12, .invokestatic 95, [], 0), (15, .athrow, [], 0), (16, .iload_n 0, [], 0), (17, .ireturn, [], 0)]
def m_209 : MDt := (⟨"jdk/internal/util/Preconditions", "checkIndex", "(IILjava/util/function/BiFunction;)I"⟩, prog_32_method_11_code, 3, some .int, 19, 99, P_209)
def ML : List MDt := [m_0, m_1, m_2, m_3, m_4, m_5, m_6, m_7, m_8, m_9, m_10, m_11, m_12, m_13, m_14, m_15, m_16, m_17, m_18, m_19, m_20, m_21, m_22, m_23, m_24, m_25, m_26, m_27, m_28, m_29, m_30, m_31, m_32, m_33, m_34, m_35, m_36, m_37, m_38, m_39, m_40, m_41, m_42, m_43, m_44, m_45, m_46, m_47, m_48, m_49, m_50, m_51, m_52, m_53, m_54, m_55, m_56, m_57, m_58, m_59, m_60, m_61, m_62, m_63, m_64, m_65, m_66, m_67, m_68, m_69, m_70, m_71, m_72, m_73, m_74, m_75, m_76, m_77, m_78, m_79, m_80, m_81, m_82, m_83, m_84, m_85, m_86, m_87, m_88, m_89, m_90, m_91, m_92, m_93, m_94, m_95, m_96, m_97, m_98, m_99, m_100, m_101, m_102, m_103, m_104, m_105, m_106, m_107, m_108, m_109, m_110, m_111, m_112, m_113, m_114, m_115, m_116, m_117, m_118, m_119, m_120, m_121, m_122, m_123, m_124, m_125, m_126, m_127, m_128, m_129, m_130, m_131, m_132, m_133, m_134, m_135, m_136, m_137, m_138, m_139, m_140, m_141, m_142, m_143, m_144, m_145, m_146, m_147, m_148, m_149, m_150, m_151, m_152, m_153, m_154, m_155, m_156, m_157, m_158, m_159, m_160, m_161, m_162, m_163, m_164, m_165, m_166, m_167, m_168, m_169, m_170, m_171, m_172, m_173, m_174, m_175, m_176, m_177, m_178, m_179, m_180, m_181, m_182, m_183, m_184, m_185, m_186, m_187, m_188, m_189, m_190, m_191, m_192, m_193, m_194, m_195, m_196, m_197, m_198, m_199, m_200, m_201, m_202, m_203, m_204, m_205, m_206, m_207, m_208, m_209]
def P_law : List IR := [
  (0, .new 8, [10], 141), (3, .dup, [], 0), (4, .invokespecial 23, [84, 1], 143), (7, .astore_n 1, [], 0), (8, .new 24, [11], 1134), (11, .dup, [], 0),
  (12, .invokespecial 26, [127, 1], 1135), (15, .astore_n 2, [], 0), (16, .iconst 1, [], 0), (17, .newarray .long, [23], 0), (19, .astore_n 3, [], 0), (20, .iconst 0, [], 0),
  (21, .istore 4, [], 0), (23, .iload 4, [], 0), (25, .aload_n 0, [], 0), (26, .arraylength, [], 0), (27, .bipush 8, [], 0), (29, .isub, [], 0),
  (30, .if_icmp .gt 1633, [1101], 0), (33, .aload_n 0, [], 0), (34, .iload 4, [], 0), (36, .iaload, [], 0), (37, .bipush 31, [], 0), (39, .iand, [], 0),
  (40, .tableswitch 1617 0 25 #[120, 225, 250, 397, 422, 435, 460, 509, 558, 638, 687, 724, 761, 834, 895, 944, 981, 1042, 1104, 1141, 1243, 1352, 1419, 1484, 1539, 1592], [1099, 25, 98, 115, 224, 241, 248, 265, 302, 339, 394, 431, 458, 485, 542, 589, 626, 653, 700, 748, 775, 853, 924, 968, 1013, 1047, 1082], 0), (160, .aload_n 1, [], 0), (161, .aload_n 0, [], 0), (162, .iload 4, [], 0), (164, .iconst 1, [], 0), (165, .iadd, [], 0),
  (166, .iaload, [], 0), (167, .aload_n 0, [], 0), (168, .iload 4, [], 0), (170, .iconst 2, [], 0), (171, .iadd, [], 0), (172, .iaload, [], 0),
  (173, .aload_n 0, [], 0), (174, .iload 4, [], 0), (176, .iconst 3, [], 0), (177, .iadd, [], 0), (178, .iaload, [], 0), (179, .ifCond .eq 7, [44], 0),
  (182, .iconst 1, [], 0), (183, .goto 4, [45], 0), (186, .iconst 0, [], 0), (187, .aload_n 0, [], 0), (188, .iload 4, [], 0), (190, .iconst 4, [], 0),
  (191, .iadd, [], 0), (192, .iaload, [], 0), (193, .aload_n 0, [], 0), (194, .iload 4, [], 0), (196, .iconst 5, [], 0), (197, .iadd, [], 0),
  (198, .iaload, [], 0), (199, .ifCond .eq 7, [58], 0), (202, .iconst 1, [], 0), (203, .goto 4, [59], 0), (206, .iconst 0, [], 0), (207, .invokevirtual 27, [85, 6], 469),
  (210, .aload_n 2, [], 0), (211, .aload_n 0, [], 0), (212, .iload 4, [], 0), (214, .iconst 1, [], 0), (215, .iadd, [], 0), (216, .iaload, [], 0),
  (217, .aload_n 0, [], 0), (218, .iload 4, [], 0), (220, .iconst 2, [], 0), (221, .iadd, [], 0), (222, .iaload, [], 0), (223, .aload_n 0, [], 0),
  (224, .iload 4, [], 0), (226, .iconst 3, [], 0), (227, .iadd, [], 0), (228, .iaload, [], 0), (229, .ifCond .eq 7, [79], 0), (232, .iconst 1, [], 0),
  (233, .goto 4, [80], 0), (236, .iconst 0, [], 0), (237, .aload_n 0, [], 0), (238, .iload 4, [], 0), (240, .iconst 4, [], 0), (241, .iadd, [], 0),
  (242, .iaload, [], 0), (243, .aload_n 0, [], 0), (244, .iload 4, [], 0), (246, .iconst 5, [], 0), (247, .iadd, [], 0), (248, .iaload, [], 0),
  (249, .ifCond .eq 7, [93], 0), (252, .iconst 1, [], 0), (253, .goto 4, [94], 0), (256, .iconst 0, [], 0), (257, .invokevirtual 31, [141, 6], 1294), (260, .if_icmp .eq 1397, [1099], 0),
  (263, .iconst 0, [], 0), (264, .ireturn, [], 0), (265, .aload_n 1, [], 0), (266, .aload_n 0, [], 0), (267, .iload 4, [], 0), (269, .iconst 1, [], 0),
  (270, .iadd, [], 0), (271, .iaload, [], 0), (272, .invokevirtual 32, [86, 2], 480), (275, .aload_n 2, [], 0), (276, .aload_n 0, [], 0), (277, .iload 4, [], 0),
  (279, .iconst 1, [], 0), (280, .iadd, [], 0), (281, .iaload, [], 0), (282, .invokevirtual 36, [142, 2], 1301), (285, .if_icmp .eq 1372, [1099], 0), (288, .iconst 0, [], 0),
  (289, .ireturn, [], 0), (290, .aload_n 1, [], 0), (291, .aload_n 0, [], 0), (292, .iload 4, [], 0), (294, .iconst 1, [], 0), (295, .iadd, [], 0),
  (296, .iaload, [], 0), (297, .i2l, [], 0), (298, .bipush 32, [], 0), (300, .lshl, [], 0), (301, .aload_n 0, [], 0), (302, .iload 4, [], 0),
  (304, .iconst 2, [], 0), (305, .iadd, [], 0), (306, .iaload, [], 0), (307, .i2l, [], 0), (308, .ldc2_w 37, [4294967295], 1584), (311, .land, [], 0),
  (312, .lor, [], 0), (313, .aload_n 0, [], 0), (314, .iload 4, [], 0), (316, .iconst 3, [], 0), (317, .iadd, [], 0), (318, .iaload, [], 0),
  (319, .i2l, [], 0), (320, .bipush 32, [], 0), (322, .lshl, [], 0), (323, .aload_n 0, [], 0), (324, .iload 4, [], 0), (326, .iconst 4, [], 0),
  (327, .iadd, [], 0), (328, .iaload, [], 0), (329, .i2l, [], 0), (330, .ldc2_w 37, [4294967295], 1584), (333, .land, [], 0), (334, .lor, [], 0),
  (335, .aload_n 0, [], 0), (336, .iload 4, [], 0), (338, .iconst 5, [], 0), (339, .iadd, [], 0), (340, .iaload, [], 0), (341, .i2l, [], 0),
  (342, .bipush 32, [], 0), (344, .lshl, [], 0), (345, .aload_n 0, [], 0), (346, .iload 4, [], 0), (348, .bipush 6, [], 0), (350, .iadd, [], 0),
  (351, .iaload, [], 0), (352, .i2l, [], 0), (353, .ldc2_w 37, [4294967295], 1584), (356, .land, [], 0), (357, .lor, [], 0), (358, .invokevirtual 39, [87, 4], 484),
  (361, .aload_n 2, [], 0), (362, .aload_n 0, [], 0), (363, .iload 4, [], 0), (365, .iconst 1, [], 0), (366, .iadd, [], 0), (367, .iaload, [], 0),
  (368, .i2l, [], 0), (369, .bipush 32, [], 0), (371, .lshl, [], 0), (372, .aload_n 0, [], 0), (373, .iload 4, [], 0), (375, .iconst 2, [], 0),
  (376, .iadd, [], 0), (377, .iaload, [], 0), (378, .i2l, [], 0), (379, .ldc2_w 37, [4294967295], 1584), (382, .land, [], 0), (383, .lor, [], 0),
  (384, .aload_n 0, [], 0), (385, .iload 4, [], 0), (387, .iconst 3, [], 0), (388, .iadd, [], 0), (389, .iaload, [], 0), (390, .i2l, [], 0),
  (391, .bipush 32, [], 0), (393, .lshl, [], 0), (394, .aload_n 0, [], 0), (395, .iload 4, [], 0), (397, .iconst 4, [], 0), (398, .iadd, [], 0),
  (399, .iaload, [], 0), (400, .i2l, [], 0), (401, .ldc2_w 37, [4294967295], 1584), (404, .land, [], 0), (405, .lor, [], 0), (406, .aload_n 0, [], 0),
  (407, .iload 4, [], 0), (409, .iconst 5, [], 0), (410, .iadd, [], 0), (411, .iaload, [], 0), (412, .i2l, [], 0), (413, .bipush 32, [], 0),
  (415, .lshl, [], 0), (416, .aload_n 0, [], 0), (417, .iload 4, [], 0), (419, .bipush 6, [], 0), (421, .iadd, [], 0), (422, .iaload, [], 0),
  (423, .i2l, [], 0), (424, .ldc2_w 37, [4294967295], 1584), (427, .land, [], 0), (428, .lor, [], 0), (429, .invokevirtual 43, [125, 4], 1125), (432, .if_icmp .eq 1225, [1099], 0),
  (435, .iconst 0, [], 0), (436, .ireturn, [], 0), (437, .aload_n 1, [], 0), (438, .aload_n 0, [], 0), (439, .iload 4, [], 0), (441, .iconst 1, [], 0),
  (442, .iadd, [], 0), (443, .iaload, [], 0), (444, .invokevirtual 44, [88, 2], 492), (447, .aload_n 2, [], 0), (448, .aload_n 0, [], 0), (449, .iload 4, [], 0),
  (451, .iconst 1, [], 0), (452, .iadd, [], 0), (453, .iaload, [], 0), (454, .invokevirtual 48, [145, 2], 1305), (457, .if_icmp .eq 1200, [1099], 0), (460, .iconst 0, [], 0),
  (461, .ireturn, [], 0), (462, .aload_n 1, [], 0), (463, .invokevirtual 49, [89, 1], 677), (466, .aload_n 2, [], 0), (467, .invokevirtual 53, [151, 1], 1364), (470, .if_icmp .eq 1187, [1099], 0),
  (473, .iconst 0, [], 0), (474, .ireturn, [], 0), (475, .aload_n 1, [], 0), (476, .aload_n 0, [], 0), (477, .iload 4, [], 0), (479, .iconst 1, [], 0),
  (480, .iadd, [], 0), (481, .iaload, [], 0), (482, .invokevirtual 54, [90, 2], 753), (485, .aload_n 2, [], 0), (486, .aload_n 0, [], 0), (487, .iload 4, [], 0),
  (489, .iconst 1, [], 0), (490, .iadd, [], 0), (491, .iaload, [], 0), (492, .invokevirtual 57, [152, 2], 1413), (495, .if_icmp .eq 1162, [1099], 0), (498, .iconst 0, [], 0),
  (499, .ireturn, [], 0), (500, .aload_n 1, [], 0), (501, .aload_n 0, [], 0), (502, .iload 4, [], 0), (504, .iconst 1, [], 0), (505, .iadd, [], 0),
  (506, .iaload, [], 0), (507, .aload_n 0, [], 0), (508, .iload 4, [], 0), (510, .iconst 2, [], 0), (511, .iadd, [], 0), (512, .iaload, [], 0),
  (513, .aload_n 0, [], 0), (514, .iload 4, [], 0), (516, .iconst 3, [], 0), (517, .iadd, [], 0), (518, .iaload, [], 0), (519, .invokevirtual 58, [91, 4], 769),
  (522, .aload_n 2, [], 0), (523, .aload_n 0, [], 0), (524, .iload 4, [], 0), (526, .iconst 1, [], 0), (527, .iadd, [], 0), (528, .iaload, [], 0),
  (529, .aload_n 0, [], 0), (530, .iload 4, [], 0), (532, .iconst 2, [], 0), (533, .iadd, [], 0), (534, .iaload, [], 0), (535, .aload_n 0, [], 0),
  (536, .iload 4, [], 0), (538, .iconst 3, [], 0), (539, .iadd, [], 0), (540, .iaload, [], 0), (541, .invokevirtual 61, [148, 4], 1356), (544, .if_icmp .eq 1113, [1099], 0),
  (547, .iconst 0, [], 0), (548, .ireturn, [], 0), (549, .aload_n 1, [], 0), (550, .aload_n 0, [], 0), (551, .iload 4, [], 0), (553, .iconst 1, [], 0),
  (554, .iadd, [], 0), (555, .iaload, [], 0), (556, .aload_n 0, [], 0), (557, .iload 4, [], 0), (559, .iconst 2, [], 0), (560, .iadd, [], 0),
  (561, .iaload, [], 0), (562, .aload_n 0, [], 0), (563, .iload 4, [], 0), (565, .iconst 3, [], 0), (566, .iadd, [], 0), (567, .iaload, [], 0),
  (568, .invokevirtual 62, [92, 4], 780), (571, .aload_n 2, [], 0), (572, .aload_n 0, [], 0), (573, .iload 4, [], 0), (575, .iconst 1, [], 0), (576, .iadd, [], 0),
  (577, .iaload, [], 0), (578, .aload_n 0, [], 0), (579, .iload 4, [], 0), (581, .iconst 2, [], 0), (582, .iadd, [], 0), (583, .iaload, [], 0),
  (584, .aload_n 0, [], 0), (585, .iload 4, [], 0), (587, .iconst 3, [], 0), (588, .iadd, [], 0), (589, .iaload, [], 0), (590, .invokevirtual 65, [166, 4], 1417),
  (593, .if_icmp .eq 1064, [1099], 0), (596, .iconst 0, [], 0), (597, .ireturn, [], 0), (598, .aload_n 1, [], 0), (599, .aload_n 0, [], 0), (600, .iload 4, [], 0),
  (602, .iconst 1, [], 0), (603, .iadd, [], 0), (604, .iaload, [], 0), (605, .aload_n 0, [], 0), (606, .iload 4, [], 0), (608, .iconst 2, [], 0),
  (609, .iadd, [], 0), (610, .iaload, [], 0), (611, .aload_n 0, [], 0), (612, .iload 4, [], 0), (614, .iconst 3, [], 0), (615, .iadd, [], 0),
  (616, .iaload, [], 0), (617, .aload_n 3, [], 0), (618, .invokestatic 66, [302, 5], 1021), (621, .istore 5, [], 0), (623, .aload_n 2, [], 0), (624, .aload_n 0, [], 0),
  (625, .iload 4, [], 0), (627, .iconst 1, [], 0), (628, .iadd, [], 0), (629, .iaload, [], 0), (630, .aload_n 0, [], 0), (631, .iload 4, [], 0),
  (633, .iconst 2, [], 0), (634, .iadd, [], 0), (635, .iaload, [], 0), (636, .aload_n 0, [], 0), (637, .iload 4, [], 0), (639, .iconst 3, [], 0),
  (640, .iadd, [], 0), (641, .iaload, [], 0), (642, .invokevirtual 71, [168, 4], 1453), (645, .istore 6, [], 0), (647, .aload_n 2, [], 0), (648, .invokevirtual 72, [124, 1], 1121),
  (651, .iload 5, [], 0), (653, .if_icmp .eq 5, [382], 0), (656, .iconst 0, [], 0), (657, .ireturn, [], 0), (658, .iload 5, [], 0), (660, .ifCond .ne 15, [393], 0),
  (663, .aload_n 3, [], 0), (664, .iconst 0, [], 0), (665, .laload, [], 0), (666, .iload 6, [], 0), (668, .i2l, [], 0), (669, .lcmp, [], 0),
  (670, .ifCond .eq 5, [393], 0), (673, .iconst 0, [], 0), (674, .ireturn, [], 0), (675, .goto 982, [1099], 0), (678, .aload_n 1, [], 0), (679, .aload_n 0, [], 0),
  (680, .iload 4, [], 0), (682, .iconst 1, [], 0), (683, .iadd, [], 0), (684, .iaload, [], 0), (685, .aload_n 0, [], 0), (686, .iload 4, [], 0),
  (688, .iconst 2, [], 0), (689, .iadd, [], 0), (690, .iaload, [], 0), (691, .aload_n 0, [], 0), (692, .iload 4, [], 0), (694, .iconst 3, [], 0),
  (695, .iadd, [], 0), (696, .iaload, [], 0), (697, .invokevirtual 75, [93, 4], 832), (700, .aload_n 2, [], 0), (701, .aload_n 0, [], 0), (702, .iload 4, [], 0),
  (704, .iconst 1, [], 0), (705, .iadd, [], 0), (706, .iaload, [], 0), (707, .aload_n 0, [], 0), (708, .iload 4, [], 0), (710, .iconst 2, [], 0),
  (711, .iadd, [], 0), (712, .iaload, [], 0), (713, .aload_n 0, [], 0), (714, .iload 4, [], 0), (716, .iconst 3, [], 0), (717, .iadd, [], 0),
  (718, .iaload, [], 0), (719, .invokevirtual 78, [173, 4], 1461), (722, .if_icmp .eq 935, [1099], 0), (725, .iconst 0, [], 0), (726, .ireturn, [], 0), (727, .aload_n 1, [], 0),
  (728, .aload_n 0, [], 0), (729, .iload 4, [], 0), (731, .iconst 1, [], 0), (732, .iadd, [], 0), (733, .iaload, [], 0), (734, .aload_n 0, [], 0),
  (735, .iload 4, [], 0), (737, .iconst 2, [], 0), (738, .iadd, [], 0), (739, .iaload, [], 0), (740, .invokevirtual 79, [94, 3], 867), (743, .aload_n 2, [], 0),
  (744, .aload_n 0, [], 0), (745, .iload 4, [], 0), (747, .iconst 1, [], 0), (748, .iadd, [], 0), (749, .iaload, [], 0), (750, .aload_n 0, [], 0),
  (751, .iload 4, [], 0), (753, .iconst 2, [], 0), (754, .iadd, [], 0), (755, .iaload, [], 0), (756, .invokevirtual 83, [174, 3], 1479), (759, .if_icmp .eq 898, [1099], 0),
  (762, .iconst 0, [], 0), (763, .ireturn, [], 0), (764, .aload_n 1, [], 0), (765, .aload_n 0, [], 0), (766, .iload 4, [], 0), (768, .iconst 1, [], 0),
  (769, .iadd, [], 0), (770, .iaload, [], 0), (771, .aload_n 0, [], 0), (772, .iload 4, [], 0), (774, .iconst 2, [], 0), (775, .iadd, [], 0),
  (776, .iaload, [], 0), (777, .invokevirtual 84, [95, 3], 871), (780, .aload_n 2, [], 0), (781, .aload_n 0, [], 0), (782, .iload 4, [], 0), (784, .iconst 1, [], 0),
  (785, .iadd, [], 0), (786, .iaload, [], 0), (787, .aload_n 0, [], 0), (788, .iload 4, [], 0), (790, .iconst 2, [], 0), (791, .iadd, [], 0),
  (792, .iaload, [], 0), (793, .invokevirtual 87, [175, 3], 1483), (796, .if_icmp .eq 861, [1099], 0), (799, .iconst 0, [], 0), (800, .ireturn, [], 0), (801, .aload_n 1, [], 0),
  (802, .aload_n 0, [], 0), (803, .iload 4, [], 0), (805, .iconst 1, [], 0), (806, .iadd, [], 0), (807, .iaload, [], 0), (808, .aload_n 0, [], 0),
  (809, .iload 4, [], 0), (811, .iconst 2, [], 0), (812, .iadd, [], 0), (813, .iaload, [], 0), (814, .aload_n 0, [], 0), (815, .iload 4, [], 0),
  (817, .iconst 3, [], 0), (818, .iadd, [], 0), (819, .iaload, [], 0), (820, .aload_n 0, [], 0), (821, .iload 4, [], 0), (823, .iconst 4, [], 0),
  (824, .iadd, [], 0), (825, .iaload, [], 0), (826, .aload_n 0, [], 0), (827, .iload 4, [], 0), (829, .iconst 5, [], 0), (830, .iadd, [], 0),
  (831, .iaload, [], 0), (832, .invokevirtual 88, [96, 6], 882), (835, .aload_n 2, [], 0), (836, .aload_n 0, [], 0), (837, .iload 4, [], 0), (839, .iconst 1, [], 0),
  (840, .iadd, [], 0), (841, .iaload, [], 0), (842, .aload_n 0, [], 0), (843, .iload 4, [], 0), (845, .iconst 2, [], 0), (846, .iadd, [], 0),
  (847, .iaload, [], 0), (848, .aload_n 0, [], 0), (849, .iload 4, [], 0), (851, .iconst 3, [], 0), (852, .iadd, [], 0), (853, .iaload, [], 0),
  (854, .aload_n 0, [], 0), (855, .iload 4, [], 0), (857, .iconst 4, [], 0), (858, .iadd, [], 0), (859, .iaload, [], 0), (860, .aload_n 0, [], 0),
  (861, .iload 4, [], 0), (863, .iconst 5, [], 0), (864, .iadd, [], 0), (865, .iaload, [], 0), (866, .invokevirtual 92, [178, 6], 1487), (869, .if_icmp .eq 788, [1099], 0),
  (872, .iconst 0, [], 0), (873, .ireturn, [], 0), (874, .aload_n 1, [], 0), (875, .aload_n 0, [], 0), (876, .iload 4, [], 0), (878, .iconst 1, [], 0),
  (879, .iadd, [], 0), (880, .iaload, [], 0), (881, .aload_n 0, [], 0), (882, .iload 4, [], 0), (884, .iconst 2, [], 0), (885, .iadd, [], 0),
  (886, .iaload, [], 0), (887, .aload_n 0, [], 0), (888, .iload 4, [], 0), (890, .iconst 3, [], 0), (891, .iadd, [], 0), (892, .iaload, [], 0),
  (893, .aload_n 0, [], 0), (894, .iload 4, [], 0), (896, .iconst 4, [], 0), (897, .iadd, [], 0), (898, .iaload, [], 0), (899, .invokevirtual 93, [97, 5], 899),
  (902, .aload_n 2, [], 0), (903, .aload_n 0, [], 0), (904, .iload 4, [], 0), (906, .iconst 1, [], 0), (907, .iadd, [], 0), (908, .iaload, [], 0),
  (909, .aload_n 0, [], 0), (910, .iload 4, [], 0), (912, .iconst 2, [], 0), (913, .iadd, [], 0), (914, .iaload, [], 0), (915, .aload_n 0, [], 0),
  (916, .iload 4, [], 0), (918, .iconst 3, [], 0), (919, .iadd, [], 0), (920, .iaload, [], 0), (921, .aload_n 0, [], 0), (922, .iload 4, [], 0),
  (924, .iconst 4, [], 0), (925, .iadd, [], 0), (926, .iaload, [], 0), (927, .invokevirtual 97, [179, 5], 1499), (930, .if_icmp .eq 727, [1099], 0), (933, .iconst 0, [], 0),
  (934, .ireturn, [], 0), (935, .aload_n 1, [], 0), (936, .aload_n 0, [], 0), (937, .iload 4, [], 0), (939, .iconst 1, [], 0), (940, .iadd, [], 0),
  (941, .iaload, [], 0), (942, .aload_n 0, [], 0), (943, .iload 4, [], 0), (945, .iconst 2, [], 0), (946, .iadd, [], 0), (947, .iaload, [], 0),
  (948, .aload_n 0, [], 0), (949, .iload 4, [], 0), (951, .iconst 3, [], 0), (952, .iadd, [], 0), (953, .iaload, [], 0), (954, .invokevirtual 98, [98, 4], 903),
  (957, .aload_n 2, [], 0), (958, .aload_n 0, [], 0), (959, .iload 4, [], 0), (961, .iconst 1, [], 0), (962, .iadd, [], 0), (963, .iaload, [], 0),
  (964, .aload_n 0, [], 0), (965, .iload 4, [], 0), (967, .iconst 2, [], 0), (968, .iadd, [], 0), (969, .iaload, [], 0), (970, .aload_n 0, [], 0),
  (971, .iload 4, [], 0), (973, .iconst 3, [], 0), (974, .iadd, [], 0), (975, .iaload, [], 0), (976, .invokevirtual 101, [182, 4], 1503), (979, .if_icmp .eq 678, [1099], 0),
  (982, .iconst 0, [], 0), (983, .ireturn, [], 0), (984, .aload_n 1, [], 0), (985, .aload_n 0, [], 0), (986, .iload 4, [], 0), (988, .iconst 1, [], 0),
  (989, .iadd, [], 0), (990, .iaload, [], 0), (991, .aload_n 0, [], 0), (992, .iload 4, [], 0), (994, .iconst 2, [], 0), (995, .iadd, [], 0),
  (996, .iaload, [], 0), (997, .invokevirtual 102, [99, 3], 915), (1000, .aload_n 2, [], 0), (1001, .aload_n 0, [], 0), (1002, .iload 4, [], 0), (1004, .iconst 1, [], 0),
  (1005, .iadd, [], 0), (1006, .iaload, [], 0), (1007, .aload_n 0, [], 0), (1008, .iload 4, [], 0), (1010, .iconst 2, [], 0), (1011, .iadd, [], 0),
  (1012, .iaload, [], 0), (1013, .invokevirtual 105, [183, 3], 1514), (1016, .if_icmp .eq 641, [1099], 0), (1019, .iconst 0, [], 0), (1020, .ireturn, [], 0), (1021, .aload_n 1, [], 0),
  (1022, .aload_n 0, [], 0), (1023, .iload 4, [], 0), (1025, .iconst 1, [], 0), (1026, .iadd, [], 0), (1027, .iaload, [], 0), (1028, .aload_n 0, [], 0),
  (1029, .iload 4, [], 0), (1031, .iconst 2, [], 0), (1032, .iadd, [], 0), (1033, .iaload, [], 0), (1034, .aload_n 0, [], 0), (1035, .iload 4, [], 0),
  (1037, .iconst 3, [], 0), (1038, .iadd, [], 0), (1039, .iaload, [], 0), (1040, .aload_n 0, [], 0), (1041, .iload 4, [], 0), (1043, .iconst 4, [], 0),
  (1044, .iadd, [], 0), (1045, .iaload, [], 0), (1046, .invokevirtual 106, [100, 5], 919), (1049, .aload_n 2, [], 0), (1050, .aload_n 0, [], 0), (1051, .iload 4, [], 0),
  (1053, .iconst 1, [], 0), (1054, .iadd, [], 0), (1055, .iaload, [], 0), (1056, .aload_n 0, [], 0), (1057, .iload 4, [], 0), (1059, .iconst 2, [], 0),
  (1060, .iadd, [], 0), (1061, .iaload, [], 0), (1062, .aload_n 0, [], 0), (1063, .iload 4, [], 0), (1065, .iconst 3, [], 0), (1066, .iadd, [], 0),
  (1067, .iaload, [], 0), (1068, .aload_n 0, [], 0), (1069, .iload 4, [], 0), (1071, .iconst 4, [], 0), (1072, .iadd, [], 0), (1073, .iaload, [], 0),
  (1074, .invokevirtual 109, [186, 5], 1518), (1077, .if_icmp .eq 580, [1099], 0), (1080, .iconst 0, [], 0), (1081, .ireturn, [], 0), (1082, .aload_n 1, [], 0), (1083, .aload_n 0, [], 0),
  (1084, .iload 4, [], 0), (1086, .iconst 1, [], 0), (1087, .iadd, [], 0), (1088, .iaload, [], 0), (1089, .aload_n 0, [], 0), (1090, .iload 4, [], 0),
  (1092, .iconst 2, [], 0), (1093, .iadd, [], 0), (1094, .iaload, [], 0), (1095, .aload_n 0, [], 0), (1096, .iload 4, [], 0), (1098, .iconst 3, [], 0),
  (1099, .iadd, [], 0), (1100, .iaload, [], 0), (1101, .aload_n 0, [], 0), (1102, .iload 4, [], 0), (1104, .iconst 4, [], 0), (1105, .iadd, [], 0),
  (1106, .iaload, [], 0), (1107, .invokevirtual 110, [101, 5], 952), (1110, .aload_n 2, [], 0), (1111, .aload_n 0, [], 0), (1112, .iload 4, [], 0), (1114, .iconst 1, [], 0),
  (1115, .iadd, [], 0), (1116, .iaload, [], 0), (1117, .aload_n 0, [], 0), (1118, .iload 4, [], 0), (1120, .iconst 2, [], 0), (1121, .iadd, [], 0),
  (1122, .iaload, [], 0), (1123, .aload_n 0, [], 0), (1124, .iload 4, [], 0), (1126, .iconst 3, [], 0), (1127, .iadd, [], 0), (1128, .iaload, [], 0),
  (1129, .aload_n 0, [], 0), (1130, .iload 4, [], 0), (1132, .iconst 4, [], 0), (1133, .iadd, [], 0), (1134, .iaload, [], 0), (1135, .invokevirtual 114, [191, 5], 1530),
  (1138, .lcmp, [], 0), (1139, .ifCond .eq 518, [1099], 0), (1142, .iconst 0, [], 0), (1143, .ireturn, [], 0), (1144, .aload_n 1, [], 0), (1145, .aload_n 0, [], 0),
  (1146, .iload 4, [], 0), (1148, .iconst 1, [], 0), (1149, .iadd, [], 0), (1150, .iaload, [], 0), (1151, .aload_n 0, [], 0), (1152, .iload 4, [], 0),
  (1154, .iconst 2, [], 0), (1155, .iadd, [], 0), (1156, .iaload, [], 0), (1157, .invokevirtual 115, [102, 3], 969), (1160, .aload_n 2, [], 0), (1161, .aload_n 0, [], 0),
  (1162, .iload 4, [], 0), (1164, .iconst 1, [], 0), (1165, .iadd, [], 0), (1166, .iaload, [], 0), (1167, .aload_n 0, [], 0), (1168, .iload 4, [], 0),
  (1170, .iconst 2, [], 0), (1171, .iadd, [], 0), (1172, .iaload, [], 0), (1173, .invokevirtual 118, [192, 3], 1547), (1176, .if_icmp .eq 481, [1099], 0), (1179, .iconst 0, [], 0),
  (1180, .ireturn, [], 0), (1181, .aload_n 1, [], 0), (1182, .aload_n 0, [], 0), (1183, .iload 4, [], 0), (1185, .iconst 1, [], 0), (1186, .iadd, [], 0),
  (1187, .iaload, [], 0), (1188, .aload_n 0, [], 0), (1189, .iload 4, [], 0), (1191, .iconst 2, [], 0), (1192, .iadd, [], 0), (1193, .iaload, [], 0),
  (1194, .aload_n 0, [], 0), (1195, .iload 4, [], 0), (1197, .iconst 3, [], 0), (1198, .iadd, [], 0), (1199, .iaload, [], 0), (1200, .aload_n 0, [], 0),
  (1201, .iload 4, [], 0), (1203, .iconst 4, [], 0), (1204, .iadd, [], 0), (1205, .iaload, [], 0), (1206, .aload_n 0, [], 0), (1207, .iload 4, [], 0),
  (1209, .iconst 5, [], 0), (1210, .iadd, [], 0), (1211, .iaload, [], 0), (1212, .aload_n 0, [], 0), (1213, .iload 4, [], 0), (1215, .bipush 6, [], 0),
  (1217, .iadd, [], 0), (1218, .iaload, [], 0), (1219, .aload_n 0, [], 0), (1220, .iload 4, [], 0), (1222, .bipush 7, [], 0), (1224, .iadd, [], 0),
  (1225, .iaload, [], 0), (1226, .invokevirtual 119, [103, 8], 974), (1229, .aload_n 2, [], 0), (1230, .aload_n 0, [], 0), (1231, .iload 4, [], 0), (1233, .iconst 1, [], 0),
  (1234, .iadd, [], 0), (1235, .iaload, [], 0), (1236, .aload_n 0, [], 0), (1237, .iload 4, [], 0), (1239, .iconst 2, [], 0), (1240, .iadd, [], 0),
  (1241, .iaload, [], 0), (1242, .aload_n 0, [], 0), (1243, .iload 4, [], 0), (1245, .iconst 3, [], 0), (1246, .iadd, [], 0), (1247, .iaload, [], 0),
  (1248, .aload_n 0, [], 0), (1249, .iload 4, [], 0), (1251, .iconst 4, [], 0), (1252, .iadd, [], 0), (1253, .iaload, [], 0), (1254, .aload_n 0, [], 0),
  (1255, .iload 4, [], 0), (1257, .iconst 5, [], 0), (1258, .iadd, [], 0), (1259, .iaload, [], 0), (1260, .aload_n 0, [], 0), (1261, .iload 4, [], 0),
  (1263, .bipush 6, [], 0), (1265, .iadd, [], 0), (1266, .iaload, [], 0), (1267, .aload_n 0, [], 0), (1268, .iload 4, [], 0), (1270, .bipush 7, [], 0),
  (1272, .iadd, [], 0), (1273, .iaload, [], 0), (1274, .invokevirtual 123, [193, 8], 1552), (1277, .lcmp, [], 0), (1278, .ifCond .eq 379, [1099], 0), (1281, .iconst 0, [], 0),
  (1282, .ireturn, [], 0), (1283, .aload_n 1, [], 0), (1284, .aload_n 0, [], 0), (1285, .iload 4, [], 0), (1287, .iconst 1, [], 0), (1288, .iadd, [], 0),
  (1289, .iaload, [], 0), (1290, .ifCond .eq 7, [862], 0), (1293, .iconst 1, [], 0), (1294, .goto 4, [863], 0), (1297, .iconst 0, [], 0), (1298, .aload_n 0, [], 0),
  (1299, .iload 4, [], 0), (1301, .iconst 2, [], 0), (1302, .iadd, [], 0), (1303, .iaload, [], 0), (1304, .ifCond .eq 7, [871], 0), (1307, .iconst 1, [], 0),
  (1308, .goto 4, [872], 0), (1311, .iconst 0, [], 0), (1312, .aload_n 0, [], 0), (1313, .iload 4, [], 0), (1315, .iconst 3, [], 0), (1316, .iadd, [], 0),
  (1317, .iaload, [], 0), (1318, .ifCond .eq 7, [880], 0), (1321, .iconst 1, [], 0), (1322, .goto 4, [881], 0), (1325, .iconst 0, [], 0), (1326, .aload_n 0, [], 0),
  (1327, .iload 4, [], 0), (1329, .iconst 4, [], 0), (1330, .iadd, [], 0), (1331, .iaload, [], 0), (1332, .invokevirtual 124, [104, 5], 978), (1335, .aload_n 2, [], 0),
  (1336, .aload_n 0, [], 0), (1337, .iload 4, [], 0), (1339, .iconst 1, [], 0), (1340, .iadd, [], 0), (1341, .iaload, [], 0), (1342, .ifCond .eq 7, [896], 0),
  (1345, .iconst 1, [], 0), (1346, .goto 4, [897], 0), (1349, .iconst 0, [], 0), (1350, .aload_n 0, [], 0), (1351, .iload 4, [], 0), (1353, .iconst 2, [], 0),
  (1354, .iadd, [], 0), (1355, .iaload, [], 0), (1356, .ifCond .eq 7, [905], 0), (1359, .iconst 1, [], 0), (1360, .goto 4, [906], 0), (1363, .iconst 0, [], 0),
  (1364, .aload_n 0, [], 0), (1365, .iload 4, [], 0), (1367, .iconst 3, [], 0), (1368, .iadd, [], 0), (1369, .iaload, [], 0), (1370, .ifCond .eq 7, [914], 0),
  (1373, .iconst 1, [], 0), (1374, .goto 4, [915], 0), (1377, .iconst 0, [], 0), (1378, .aload_n 0, [], 0), (1379, .iload 4, [], 0), (1381, .iconst 4, [], 0),
  (1382, .iadd, [], 0), (1383, .iaload, [], 0), (1384, .invokevirtual 128, [194, 5], 1556), (1387, .if_icmp .eq 270, [1099], 0), (1390, .iconst 0, [], 0), (1391, .ireturn, [], 0),
  (1392, .aload_n 1, [], 0), (1393, .aload_n 0, [], 0), (1394, .iload 4, [], 0), (1396, .iconst 1, [], 0), (1397, .iadd, [], 0), (1398, .iaload, [], 0),
  (1399, .aload_n 0, [], 0), (1400, .iload 4, [], 0), (1402, .iconst 2, [], 0), (1403, .iadd, [], 0), (1404, .iaload, [], 0), (1405, .aload_n 3, [], 0),
  (1406, .invokestatic 129, [303, 4], 1096), (1409, .istore 5, [], 0), (1411, .aload_n 2, [], 0), (1412, .aload_n 0, [], 0), (1413, .iload 4, [], 0), (1415, .iconst 1, [], 0),
  (1416, .iadd, [], 0), (1417, .iaload, [], 0), (1418, .aload_n 0, [], 0), (1419, .iload 4, [], 0), (1421, .iconst 2, [], 0), (1422, .iadd, [], 0),
  (1423, .iaload, [], 0), (1424, .invokevirtual 132, [196, 3], 1560), (1427, .lstore 6, [], 0), (1429, .aload_n 2, [], 0), (1430, .invokevirtual 72, [124, 1], 1121), (1433, .iload 5, [], 0),
  (1435, .if_icmp .eq 5, [957], 0), (1438, .iconst 0, [], 0), (1439, .ireturn, [], 0), (1440, .iload 5, [], 0), (1442, .ifCond .ne 14, [967], 0), (1445, .aload_n 3, [], 0),
  (1446, .iconst 0, [], 0), (1447, .laload, [], 0), (1448, .lload 6, [], 0), (1450, .lcmp, [], 0), (1451, .ifCond .eq 5, [967], 0), (1454, .iconst 0, [], 0),
  (1455, .ireturn, [], 0), (1456, .goto 201, [1099], 0), (1459, .aload_n 1, [], 0), (1460, .aload_n 0, [], 0), (1461, .iload 4, [], 0), (1463, .iconst 1, [], 0),
  (1464, .iadd, [], 0), (1465, .iaload, [], 0), (1466, .ifCond .eq 7, [977], 0), (1469, .iconst 1, [], 0), (1470, .goto 4, [978], 0), (1473, .iconst 0, [], 0),
  (1474, .aload_n 0, [], 0), (1475, .iload 4, [], 0), (1477, .iconst 2, [], 0), (1478, .iadd, [], 0), (1479, .iaload, [], 0), (1480, .aload_n 0, [], 0),
  (1481, .iload 4, [], 0), (1483, .iconst 3, [], 0), (1484, .iadd, [], 0), (1485, .iaload, [], 0), (1486, .invokevirtual 133, [105, 4], 989), (1489, .aload_n 2, [], 0),
  (1490, .aload_n 0, [], 0), (1491, .iload 4, [], 0), (1493, .iconst 1, [], 0), (1494, .iadd, [], 0), (1495, .iaload, [], 0), (1496, .ifCond .eq 7, [998], 0),
  (1499, .iconst 1, [], 0), (1500, .goto 4, [999], 0), (1503, .iconst 0, [], 0), (1504, .aload_n 0, [], 0), (1505, .iload 4, [], 0), (1507, .iconst 2, [], 0),
  (1508, .iadd, [], 0), (1509, .iaload, [], 0), (1510, .aload_n 0, [], 0), (1511, .iload 4, [], 0), (1513, .iconst 3, [], 0), (1514, .iadd, [], 0),
  (1515, .iaload, [], 0), (1516, .invokevirtual 137, [197, 4], 1568), (1519, .if_icmp .eq 138, [1099], 0), (1522, .iconst 0, [], 0), (1523, .ireturn, [], 0), (1524, .aload_n 1, [], 0),
  (1525, .aload_n 0, [], 0), (1526, .iload 4, [], 0), (1528, .iconst 1, [], 0), (1529, .iadd, [], 0), (1530, .iaload, [], 0), (1531, .aload_n 3, [], 0),
  (1532, .invokestatic 138, [304, 3], 1113), (1535, .istore 5, [], 0), (1537, .aload_n 2, [], 0), (1538, .aload_n 0, [], 0), (1539, .iload 4, [], 0), (1541, .iconst 1, [], 0),
  (1542, .iadd, [], 0), (1543, .iaload, [], 0), (1544, .invokevirtual 141, [198, 2], 1572), (1547, .lstore 6, [], 0), (1549, .aload_n 2, [], 0), (1550, .invokevirtual 72, [124, 1], 1121),
  (1553, .iload 5, [], 0), (1555, .if_icmp .eq 5, [1036], 0), (1558, .iconst 0, [], 0), (1559, .ireturn, [], 0), (1560, .iload 5, [], 0), (1562, .ifCond .ne 14, [1046], 0),
  (1565, .aload_n 3, [], 0), (1566, .iconst 0, [], 0), (1567, .laload, [], 0), (1568, .lload 6, [], 0), (1570, .lcmp, [], 0), (1571, .ifCond .eq 5, [1046], 0),
  (1574, .iconst 0, [], 0), (1575, .ireturn, [], 0), (1576, .goto 81, [1099], 0), (1579, .aload_n 1, [], 0), (1580, .aload_n 0, [], 0), (1581, .iload 4, [], 0),
  (1583, .iconst 1, [], 0), (1584, .iadd, [], 0), (1585, .iaload, [], 0), (1586, .aload_n 0, [], 0), (1587, .iload 4, [], 0), (1589, .iconst 2, [], 0),
  (1590, .iadd, [], 0), (1591, .iaload, [], 0), (1592, .ifCond .eq 7, [1061], 0), (1595, .iconst 1, [], 0), (1596, .goto 4, [1062], 0), (1599, .iconst 0, [], 0),
  (1600, .invokevirtual 142, [106, 3], 997), (1603, .aload_n 2, [], 0), (1604, .aload_n 0, [], 0), (1605, .iload 4, [], 0), (1607, .iconst 1, [], 0), (1608, .iadd, [], 0),
  (1609, .iaload, [], 0), (1610, .aload_n 0, [], 0), (1611, .iload 4, [], 0), (1613, .iconst 2, [], 0), (1614, .iadd, [], 0), (1615, .iaload, [], 0),
  (1616, .ifCond .eq 7, [1077], 0), (1619, .iconst 1, [], 0), (1620, .goto 4, [1078], 0), (1623, .iconst 0, [], 0), (1624, .invokevirtual 146, [199, 3], 1576), (1627, .if_icmp .eq 30, [1099], 0),
  (1630, .iconst 0, [], 0), (1631, .ireturn, [], 0), (1632, .aload_n 1, [], 0), (1633, .aload_n 0, [], 0), (1634, .iload 4, [], 0), (1636, .iconst 1, [], 0),
  (1637, .iadd, [], 0), (1638, .iaload, [], 0), (1639, .invokevirtual 147, [107, 2], 1005), (1642, .aload_n 2, [], 0), (1643, .aload_n 0, [], 0), (1644, .iload 4, [], 0),
  (1646, .iconst 1, [], 0), (1647, .iadd, [], 0), (1648, .iaload, [], 0), (1649, .invokevirtual 150, [200, 2], 1580), (1652, .if_icmp .eq 5, [1099], 0), (1655, .iconst 0, [], 0),
  (1656, .ireturn, [], 0), (1657, .iinc 4 8, [], 0), (1660, .goto (-1637), [13], 0), (1663, .iconst 1, [], 0), (1664, .ireturn, [], 0)]
def P_xj : List IR := [
  (0, .aload_n 0, [], 0), (1, .iload_n 1, [], 0), (2, .invokevirtual 187, [112, 2], 836), (5, .astore 4, [], 0), (7, .aload 4, [], 0), (9, .ifnull 30, [20], 0),
  (12, .iload_n 2, [], 0), (13, .iconst 0, [], 0), (14, .aload 4, [], 0), (16, .getfield 191, [7, 0], 378), (19, .getfield 194, [4, 3], 240), (22, .iconst 1, [], 0),
  (23, .isub, [], 0), (24, .invokestatic 99, [108, 3], 473), (27, .ifCond .eq 12, [20], 0), (30, .iload_n 3, [], 0), (31, .iconst 0, [], 0), (32, .iconst 2, [], 0),
  (33, .invokestatic 99, [108, 3], 473), (36, .ifCond .ne 13, [25], 0), (39, .nop, [], 0), (42, .nop, [], 0), (43, .nop, [], 0), (45, .nop, [], 0),
  (48, .nop, [], 0), (49, .aload 4, [], 0), (51, .iload_n 2, [], 0), (52, .iload_n 3, [], 0), (53, .invokevirtual 202, [59, 3], 1095), (56, .ireturn, [], 0)]
def P_xw : List IR := [
  (0, .iload_n 1, [], 0), (1, .iconst 0, [], 0), (2, .iconst 2, [], 0), (3, .invokestatic 99, [108, 3], 473), (6, .ifCond .eq 12, [10], 0), (9, .iload_n 2, [], 0),
  (10, .iconst 0, [], 0), (11, .iconst 1, [], 0), (12, .invokestatic 99, [108, 3], 473), (15, .ifCond .ne 14, [15], 0), (18, .nop, [], 0), (21, .nop, [], 0),
  (22, .nop, [], 0), (25, .nop, [], 0), (28, .nop, [], 0), (29, .aload_n 0, [], 0), (30, .getfield 36, [10, 4], 424), (33, .iload_n 1, [], 0),
  (34, .iconst 1, [], 0), (35, .iconst 1, [], 0), (36, .invokevirtual 283, [66, 4], 1104), (39, .i2l, [], 0), (40, .lstore_n 3, [], 0), (41, .lload_n 3, [], 0),
  (42, .aload_n 0, [], 0), (43, .getfield 36, [10, 4], 424), (46, .iload_n 1, [], 0), (47, .iconst 1, [], 0), (48, .iconst 0, [], 0), (49, .invokevirtual 283, [66, 4], 1104),
  (52, .i2l, [], 0), (53, .ladd, [], 0), (54, .lstore 5, [], 0), (56, .aload_n 0, [], 0), (57, .getfield 36, [10, 4], 424), (60, .iload_n 1, [], 0),
  (61, .iconst 0, [], 0), (62, .iconst 1, [], 0), (63, .invokevirtual 283, [66, 4], 1104), (66, .i2l, [], 0), (67, .lstore 7, [], 0), (69, .lload 7, [], 0),
  (71, .aload_n 0, [], 0), (72, .getfield 36, [10, 4], 424), (75, .iload_n 1, [], 0), (76, .iconst 0, [], 0), (77, .iconst 0, [], 0), (78, .invokevirtual 283, [66, 4], 1104),
  (81, .i2l, [], 0), (82, .ladd, [], 0), (83, .lstore 9, [], 0), (85, .lload 5, [], 0), (87, .lconst 0, [], 0), (88, .lcmp, [], 0),
  (89, .ifCond .le 10, [59], 0), (92, .lload 9, [], 0), (94, .lconst 0, [], 0), (95, .lcmp, [], 0), (96, .ifCond .gt 14, [64], 0), (99, .nop, [], 0),
  (102, .nop, [], 0), (103, .nop, [], 0), (106, .nop, [], 0), (109, .nop, [], 0), (110, .lload_n 3, [], 0), (111, .lload 9, [], 0),
  (113, .lmul, [], 0), (114, .lload 7, [], 0), (116, .lload 5, [], 0), (118, .lmul, [], 0), (119, .lsub, [], 0), (120, .lload 5, [], 0),
  (122, .lload 9, [], 0), (124, .lmul, [], 0), (125, .iload_n 2, [], 0), (126, .invokestatic 272, [122, 3], 963), (129, .lreturn, [], 0)]
def P_xl : List IR := [
  (0, .aload_n 0, [], 0), (1, .getfield 36, [10, 4], 424), (4, .getfield 293, [8, 3], 168), (7, .i2l, [], 0), (8, .lstore_n 2, [], 0), (9, .aload_n 0, [], 0),
  (10, .getfield 36, [10, 4], 424), (13, .getfield 296, [8, 5], 172), (16, .i2l, [], 0), (17, .lstore 4, [], 0), (19, .iload_n 1, [], 0), (20, .iconst 0, [], 0),
  (21, .iconst 1, [], 0), (22, .invokestatic 99, [108, 3], 473), (25, .ifCond .eq 16, [23], 0), (28, .lload_n 2, [], 0), (29, .lconst 0, [], 0), (30, .lcmp, [], 0),
  (31, .ifCond .le 10, [23], 0), (34, .lload 4, [], 0), (36, .lconst 0, [], 0), (37, .lcmp, [], 0), (38, .ifCond .gt 14, [28], 0), (41, .nop, [], 0),
  (44, .nop, [], 0), (45, .nop, [], 0), (48, .nop, [], 0), (51, .nop, [], 0), (52, .aload_n 0, [], 0), (53, .getfield 36, [10, 4], 424),
  (56, .getfield 301, [8, 4], 170), (59, .i2l, [], 0), (60, .lload 4, [], 0), (62, .lmul, [], 0), (63, .aload_n 0, [], 0), (64, .getfield 36, [10, 4], 424),
  (67, .getfield 304, [8, 6], 174), (70, .i2l, [], 0), (71, .lload_n 2, [], 0), (72, .lmul, [], 0), (73, .lsub, [], 0), (74, .lstore 6, [], 0),
  (76, .lload 6, [], 0), (78, .lload_n 2, [], 0), (79, .lload 4, [], 0), (81, .lmul, [], 0), (82, .iload_n 1, [], 0), (83, .invokestatic 272, [122, 3], 963),
  (86, .lreturn, [], 0)]
end
section
/-! REASONING ABOUT THE SMALL MACHINE -/
theorem run_mono {c1 c2 : AC} (hc : ∀ y a h z, c1 y a h = some z → c2 y a h = some z) {P : List IR} : ∀ (n n' i : Nat) (L S : List Value) (h : AH) (z : Option Value × AH), n ≤ n' → run c1 P n i L S h = some z → run c2 P n' i L S h = some z
  | 0, n', i, L, S, h, z, _, q => by cases q
  | n + 1, 0, i, L, S, h, z, hn, q => by omega
  | n + 1, n' + 1, i, L, S, h, z, hn, q => by
    have hn' : n ≤ n' := by omega
    unfold run at q ⊢
    split at q
    · cases q
    · rename_i r hr
      split at q
      · rename_i h1
        simp only [h1, if_true]
        exact q
      · rename_i h1
        simp only [h1]
        split at q
        · rename_i h2
          simp only [h2, if_true]
          split at q
          · obtain ⟨g1, g2⟩ := guardo_some q
            obtain ⟨w, q3, q4⟩ := Option.bind_eq_some_iff.mp g2
            unfold guardo
            rw [if_neg (by simp), if_pos g1]
            exact Option.bind_eq_some_iff.mpr ⟨w, hc _ _ _ _ q3, run_mono hc n n' _ _ _ _ _ hn' q4⟩
          · cases q
        · rename_i h2
          simp only [h2]
          obtain ⟨w, q3, q4⟩ := Option.bind_eq_some_iff.mp q
          exact Option.bind_eq_some_iff.mpr ⟨w, q3, run_mono hc n n' _ _ _ _ _ hn' q4⟩
theorem callD_mono {ML : List MDt} {pr : Nat → Nat → AC} (hpm : ∀ d d' n n' y a h z, d ≤ d' → n ≤ n' → pr d n y a h = some z → pr d' n' y a h = some z) : ∀ (d d' n n' y : Nat) (a : List Value) (h : AH) (z : Option Value × AH), d ≤ d' → n ≤ n' → callD ML pr d n y a h = some z → callD ML pr d' n' y a h = some z
  | 0, d', n, n', y, a, h, z, _, _, q => by cases q
  | d + 1, 0, n, n', y, a, h, z, hd, _, q => by omega
  | d + 1, d' + 1, n, n', y, a, h, z, hd, hn, q => by
    unfold callD at q ⊢
    split at q
    · obtain ⟨g1, g2⟩ := guardo_some q
      obtain ⟨w, q3, q4⟩ := Option.bind_eq_some_iff.mp g2
      unfold guardo
      rw [if_pos g1]
      exact Option.bind_eq_some_iff.mpr ⟨w, run_mono (fun y a h z => callD_mono hpm d d' n n' y a h z (by omega) hn) n n' _ _ _ _ _ hn q3, q4⟩
    · exact hpm d d' n n' _ _ _ _ (by omega) hn q
/-- the calls of the law that are no methods of the list: 302 to 304, what of the class may throw; they run its code up to the throw -/
def xrun (d n : Nat) (P : List IR) (m : Nat) (a : List Value) (out : Nat) (h : AH) : Option (Option Value × AH) := match run (callD ML prm d n) P n 0 (lcs m a) [] h with
  | some (some (.int v), h') => some (some (.int 0), sJ h' out 0 v.toInt64)
  | some (some (.long v), h') => some (some (.int 0), sJ h' out 0 v)
  | some (some .null, h') => some (some (.int 1), mkC h' 12 0 6)
  | _ => none
def prX : Nat → Nat → AC := fun d n y a h => match y, a with
  | 302, [.ref x, .int a, .int b, .int c, .ref o] => guardo (decide (hK h x = 10 ∧ hK h o = 23 ∧ hN h o = 1)) (xrun d n P_xj 5 [.ref x, .int a, .int b, .int c] o h)
  | 303, [.ref x, .int a, .int b, .ref o] => guardo (decide (hK h x = 10 ∧ hK h o = 23 ∧ hN h o = 1)) (xrun d n P_xw 11 [.ref x, .int a, .int b] o h)
  | 304, [.ref x, .int a, .ref o] => guardo (decide (hK h x = 10 ∧ hK h o = 23 ∧ hN h o = 1)) (xrun d n P_xl 8 [.ref x, .int a] o h)
  | _, _ => prm d n y a h
theorem prm_mono : ∀ d d' n n' y a h z, d ≤ d' → n ≤ n' → prm d n y a h = some z → prm d' n' y a h = some z := fun _ _ _ _ _ _ _ _ _ _ q => q
theorem xrun_mono {d d' n n' : Nat} {P : List IR} {m : Nat} {a : List Value} {o : Nat} {h : AH} {z : Option Value × AH} (hd : d ≤ d') (hn : n ≤ n') (q : xrun d n P m a o h = some z) : xrun d' n' P m a o h = some z := by
  unfold xrun at q ⊢
  cases hr : run (callD ML prm d n) P n 0 (lcs m a) [] h with
  | none => rw [hr] at q; cases q
  | some w =>
    have := run_mono (fun y a h z => callD_mono prm_mono d d' n n' y a h z hd hn) n n' _ _ _ _ _ hn hr
    rw [hr] at q
    rw [this]
    exact q
theorem prX_mono : ∀ d d' n n' y a h z, d ≤ d' → n ≤ n' → prX d n y a h = some z → prX d' n' y a h = some z := by
  intro d d' n n' y a h z hd hn q
  unfold prX at q ⊢
  split at q
  · obtain ⟨g1, g2⟩ := guardo_some q
    unfold guardo; simp only [g1, if_true]; exact xrun_mono hd hn g2
  · obtain ⟨g1, g2⟩ := guardo_some q
    unfold guardo; simp only [g1, if_true]; exact xrun_mono hd hn g2
  · obtain ⟨g1, g2⟩ := guardo_some q
    unfold guardo; simp only [g1, if_true]; exact xrun_mono hd hn g2
  · exact q
def Wp (d : Nat) (P : List IR) (i : Nat) (L S : List Value) (h : AH) (Q : Option Value → AH → Prop) : Prop := ∃ n z, run (callD ML prX d n) P n i L S h = some z ∧ Q z.1 z.2
def Cl (d y : Nat) (a : List Value) (h : AH) (Q : Option Value → AH → Prop) : Prop := ∃ n z, callD ML prX d n y a h = some z ∧ Q z.1 z.2
section WPS
variable {d i : Nat} {P : List IR} {L S : List Value} {h : AH} {Q : Option Value → AH → Prop} {q : IR}
theorem Wp_plain {z : AS} (hq : P[i]? = some q) (h1 : isRet q.2.1 = false) (h2 : isCall q.2.1 = false) (hs : stp q.2.1 q.2.2.1 i L S h = some z) : Wp d P i L S h Q ↔ Wp d P z.1 z.2.1 z.2.2.1 z.2.2.2 Q := by
  constructor
  · rintro ⟨n, w, hr, hQ⟩
    cases n with
    | zero => cases hr
    | succ n =>
      refine ⟨n + 1, w, ?_, hQ⟩
      unfold run at hr
      simp only [hq, h1, h2, hs] at hr
      exact run_mono (fun _ _ _ _ h => h) n (n + 1) _ _ _ _ _ (by omega) (by simpa using hr)
  · rintro ⟨n, w, hr, hQ⟩
    refine ⟨n + 1, w, ?_, hQ⟩
    unfold run
    simp only [hq, h1, h2, hs]
    have := run_mono (fun y a h z => callD_mono (ML := ML) (pr := prX) prX_mono d d n (n + 1) y a h z (Nat.le_refl _) (by omega)) n n _ _ _ _ _ (Nat.le_refl _) hr
    simpa using this
theorem Wp_none (hq : P[i]? = some q) (h1 : isRet q.2.1 = false) (h2 : isCall q.2.1 = false) (hs : stp q.2.1 q.2.2.1 i L S h = none) : ¬ Wp d P i L S h Q := by
  rintro ⟨n, w, hr, hQ⟩
  cases n with
  | zero => cases hr
  | succ n =>
    unfold run at hr
    simp only [hq, h1, h2, hs] at hr
    simp at hr
theorem Wp_guard {z : AS} {b : Bool} (hq : P[i]? = some q) (h1 : isRet q.2.1 = false) (h2 : isCall q.2.1 = false) (hs : stp q.2.1 q.2.2.1 i L S h = guardo b (some z)) : Wp d P i L S h Q ↔ b = true ∧ Wp d P z.1 z.2.1 z.2.2.1 z.2.2.2 Q := by
  cases b with
  | true => 
    have := Wp_plain (d := d) (Q := Q) hq h1 h2 (hs.trans rfl)
    simpa using this
  | false =>
    have := Wp_none (d := d) (Q := Q) hq h1 h2 (hs.trans rfl)
    simp [this]
theorem Wp_if {z1 z2 : AS} {c : Prop} {dc : Decidable c} (hq : P[i]? = some q) (h1 : isRet q.2.1 = false) (h2 : isCall q.2.1 = false) (hs : stp q.2.1 q.2.2.1 i L S h = @ite _ c dc (some z1) (some z2)) : Wp d P i L S h Q ↔ (c → Wp d P z1.1 z1.2.1 z1.2.2.1 z1.2.2.2 Q) ∧ (¬ c → Wp d P z2.1 z2.2.1 z2.2.2.1 z2.2.2.2 Q) := by
  by_cases hc : c
  · rw [if_pos hc] at hs
    have := Wp_plain (d := d) (Q := Q) hq h1 h2 hs
    rw [this]
    exact ⟨fun w => ⟨fun _ => w, fun n => absurd hc n⟩, fun w => w.1 hc⟩
  · rw [if_neg hc] at hs
    have := Wp_plain (d := d) (Q := Q) hq h1 h2 hs
    rw [this]
    exact ⟨fun w => ⟨fun n => absurd n hc, fun _ => w⟩, fun w => w.2 hc⟩
theorem Wp_ret {v : Option Value} (hq : P[i]? = some q) (h1 : isRet q.2.1 = true) (hs : retv q.2.1 S = some v) : Wp d P i L S h Q ↔ Q v h := by
  constructor
  · rintro ⟨n, w, hr, hQ⟩
    cases n with
    | zero => cases hr
    | succ n =>
      unfold run at hr
      simp only [hq, h1, hs, if_true, Option.map_some, Option.some.injEq] at hr
      subst hr
      exact hQ
  · intro hQ
    refine ⟨1, (v, h), ?_, hQ⟩
    unfold run
    simp only [hq, h1, hs, if_true, Option.map_some]
theorem Wp_call {y k : Nat} {a S' : List Value} (hq : P[i]? = some q) (h1 : isRet q.2.1 = false) (h2 : isCall q.2.1 = true) (ho : q.2.2.1 = [y, k]) (hk : (decide (k ≤ S.length) && decide (((S.drop k).map fun v => v.category).sum ≤ 8)) = true) (ha : (S.take k).reverse = a) (hS : S.drop k = S') : Wp d P i L S h Q ↔ Cl d y a h (fun r h' => Wp d P (i + 1) L (r.toList ++ S') h' Q) := by
  subst ha; subst hS
  constructor
  · rintro ⟨n, w, hr, hQ⟩
    cases n with
    | zero => cases hr
    | succ n =>
      unfold run at hr
      simp only [hq, h1, h2, ho, if_true] at hr
      rw [if_neg (by simp)] at hr
      obtain ⟨-, hr⟩ := guardo_some hr
      obtain ⟨u, q3, q4⟩ := Option.bind_eq_some_iff.mp hr
      exact ⟨n + 1, u, q3, n + 1, w, run_mono (fun _ _ _ _ h => h) n (n + 1) _ _ _ _ _ (by omega) q4, hQ⟩
  · rintro ⟨n, u, q3, n', w, q4, hQ⟩
    refine ⟨max n n' + 1, w, ?_, hQ⟩
    unfold run
    simp only [hq, h1, h2, ho, if_true]
    rw [if_neg (by simp)]
    unfold guardo
    rw [if_pos hk]
    refine Option.bind_eq_some_iff.mpr ⟨u, callD_mono prX_mono d d n _ y _ h u (Nat.le_refl _) (by omega) q3, ?_⟩
    exact run_mono (fun y a h z => callD_mono (ML := ML) (pr := prX) prX_mono d d n' _ y a h z (Nat.le_refl _) (by omega)) n' _ _ _ _ _ _ (by omega) q4
end WPS
/-- a call is a run of the method's code -/
theorem Cl_method {d y : Nat} {a : List Value} {h : AH} {Q : Option Value → AH → Prop} {t : MDt} (ht : ML[y]? = some t) : Cl (d + 1) y a h Q ↔ rcv t a h = true ∧ Wp d t.2.2.2.2.2.2 0 (lcs t.2.2.1 a) [] h (fun r h' => rtk t.2.2.2.1 r = true ∧ Q r h') := by
  constructor
  · rintro ⟨n, z, q, hQ⟩
    obtain ⟨d', hd, h1, h2, h3⟩ := callD_inv q ht
    cases hd
    exact ⟨h1, n, z, h3, h2, hQ⟩
  · rintro ⟨h1, n, z, h3, h2, hQ⟩
    refine ⟨n, z, ?_, hQ⟩
    unfold callD
    simp only [ht]
    unfold guardo
    rw [if_pos h1, h3]
    simp [h2]
theorem Cl_mono {d d' y : Nat} {a : List Value} {h : AH} {Q : Option Value → AH → Prop} (hd : d ≤ d') (q : Cl d y a h Q) : Cl d' y a h Q := by
  obtain ⟨n, z, q, hQ⟩ := q
  exact ⟨n, z, callD_mono prX_mono d d' n n y a h z hd (Nat.le_refl _) q, hQ⟩
/-- what a method does is one thing alone -/
theorem Cl_iff {d y : Nat} {a : List Value} {h : AH} {r : Option Value} {h' : AH} (q : Cl d y a h (fun r0 h0 => r0 = r ∧ h0 = h')) {d' : Nat} (hd : d ≤ d') (Q : Option Value → AH → Prop) : Cl d' y a h Q ↔ Q r h' := by
  obtain ⟨n, z, q, rfl, rfl⟩ := q
  constructor
  · rintro ⟨n', z', q', hQ⟩
    have e1 := callD_mono prX_mono d d' n (max n n') y a h z hd (by omega) q
    have e2 := callD_mono prX_mono d' d' n' (max n n') y a h z' (Nat.le_refl _) (by omega) q'
    rw [e1] at e2
    cases e2
    exact hQ
  · intro hQ
    exact ⟨n, z, callD_mono prX_mono d d' n n y a h z hd (Nat.le_refl _) q, hQ⟩
theorem Cl_obj {d r : Nat} {h : AH} {Q : Option Value → AH → Prop} (hr : 100 ≤ r) : Cl (d + 1) 301 [.ref r] h Q ↔ Q none h := by
  have e : ∀ n, callD ML prX (d + 1) n 301 [.ref r] h = some (none, h) := fun n => by
    unfold callD
    simp only [show ML[301]? = none from rfl]
    show guardo (decide (100 ≤ r)) (some (none, h)) = _
    unfold guardo
    rw [if_pos (decide_eq_true hr)]
  constructor
  · rintro ⟨n, z, q, hQ⟩
    rw [e] at q
    cases q
    exact hQ
  · intro hQ
    exact ⟨0, _, e 0, hQ⟩
end
