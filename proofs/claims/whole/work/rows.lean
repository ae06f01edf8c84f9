section
-- ===== PART A: goes FIRST, ahead of the names: the tables' words, and 'selects' of the private methods out of them =====
/-- a private method of a class that the tables say can be made, by its rows of tables_1 -/
def lw_okq (q : MethodName × Nat) : Prop := (q.1.cls ≠ "java/lang/invoke/MethodHandle" ∧ q.1.cls ≠ "java/lang/invoke/VarHandle") ∧ Cond.instantiable q.1.cls q.2 ∈ tables_1 ∧ Cond.privateMethod q.1 ∈ tables_1 ∧ Cond.instanceMethod q.1 ∈ tables_1
theorem lw_p0 : lw_okq (⟨"PenThatJumps$Person", "tell", "(IZIZ)V"⟩, 5) := ⟨⟨by decide +kernel, by decide +kernel⟩, List.mem_of_getElem? (i := 274) (by decide +kernel), List.mem_of_getElem? (i := 362) (by decide +kernel), List.mem_of_getElem? (i := 363) (by decide +kernel)⟩
theorem lw_p1 : lw_okq (⟨"PenThatJumps$Tape", "put", "(J)V"⟩, 5) := ⟨⟨by decide +kernel, by decide +kernel⟩, List.mem_of_getElem? (i := 84) (by decide +kernel), List.mem_of_getElem? (i := 374) (by decide +kernel), List.mem_of_getElem? (i := 375) (by decide +kernel)⟩
theorem lw_p2 : lw_okq (⟨"PenThatJumps$Tape", "clear", "()V"⟩, 5) := ⟨⟨by decide +kernel, by decide +kernel⟩, List.mem_of_getElem? (i := 84) (by decide +kernel), List.mem_of_getElem? (i := 382) (by decide +kernel), List.mem_of_getElem? (i := 383) (by decide +kernel)⟩
theorem lw_p3 : lw_okq (⟨"PenThatJumps$Parser", "readPlan", "()I"⟩, 9) := ⟨⟨by decide +kernel, by decide +kernel⟩, List.mem_of_getElem? (i := 78) (by decide +kernel), List.mem_of_getElem? (i := 386) (by decide +kernel), List.mem_of_getElem? (i := 387) (by decide +kernel)⟩
theorem lw_p4 : lw_okq (⟨"PenThatJumps$Tape", "cut", "()V"⟩, 5) := ⟨⟨by decide +kernel, by decide +kernel⟩, List.mem_of_getElem? (i := 84) (by decide +kernel), List.mem_of_getElem? (i := 390) (by decide +kernel), List.mem_of_getElem? (i := 391) (by decide +kernel)⟩
theorem lw_p5 : lw_okq (⟨"PenThatJumps$Tape", "pastBlanks", "(I)I"⟩, 5) := ⟨⟨by decide +kernel, by decide +kernel⟩, List.mem_of_getElem? (i := 84) (by decide +kernel), List.mem_of_getElem? (i := 394) (by decide +kernel), List.mem_of_getElem? (i := 395) (by decide +kernel)⟩
theorem lw_p6 : lw_okq (⟨"PenThatJumps$Tape", "signAt", "(I)C"⟩, 5) := ⟨⟨by decide +kernel, by decide +kernel⟩, List.mem_of_getElem? (i := 84) (by decide +kernel), List.mem_of_getElem? (i := 398) (by decide +kernel), List.mem_of_getElem? (i := 399) (by decide +kernel)⟩
theorem lw_p7 : lw_okq (⟨"PenThatJumps$Tape", "cutToken", "(I)I"⟩, 5) := ⟨⟨by decide +kernel, by decide +kernel⟩, List.mem_of_getElem? (i := 84) (by decide +kernel), List.mem_of_getElem? (i := 402) (by decide +kernel), List.mem_of_getElem? (i := 403) (by decide +kernel)⟩
theorem lw_p8 : lw_okq (⟨"PenThatJumps$Tape", "cutWord", "(I)I"⟩, 5) := ⟨⟨by decide +kernel, by decide +kernel⟩, List.mem_of_getElem? (i := 84) (by decide +kernel), List.mem_of_getElem? (i := 409) (by decide +kernel), List.mem_of_getElem? (i := 410) (by decide +kernel)⟩
theorem lw_p9 : lw_okq (⟨"PenThatJumps$Tape", "rowOfWord", "(II)I"⟩, 5) := ⟨⟨by decide +kernel, by decide +kernel⟩, List.mem_of_getElem? (i := 84) (by decide +kernel), List.mem_of_getElem? (i := 413) (by decide +kernel), List.mem_of_getElem? (i := 414) (by decide +kernel)⟩
theorem lw_p10 : lw_okq (⟨"PenThatJumps$Tape", "spells", "(IILjava/lang/String;)Z"⟩, 5) := ⟨⟨by decide +kernel, by decide +kernel⟩, List.mem_of_getElem? (i := 84) (by decide +kernel), List.mem_of_getElem? (i := 419) (by decide +kernel), List.mem_of_getElem? (i := 420) (by decide +kernel)⟩
theorem lw_p11 : lw_okq (⟨"PenThatJumps$Tape", "addToken", "(II)V"⟩, 5) := ⟨⟨by decide +kernel, by decide +kernel⟩, List.mem_of_getElem? (i := 84) (by decide +kernel), List.mem_of_getElem? (i := 471) (by decide +kernel), List.mem_of_getElem? (i := 472) (by decide +kernel)⟩
theorem lw_p12 : lw_okq (⟨"PenThatJumps$Tape", "cutNumber", "(I)I"⟩, 5) := ⟨⟨by decide +kernel, by decide +kernel⟩, List.mem_of_getElem? (i := 84) (by decide +kernel), List.mem_of_getElem? (i := 478) (by decide +kernel), List.mem_of_getElem? (i := 479) (by decide +kernel)⟩
theorem lw_p13 : lw_okq (⟨"PenThatJumps$Parser", "begin", "(Z)V"⟩, 9) := ⟨⟨by decide +kernel, by decide +kernel⟩, List.mem_of_getElem? (i := 78) (by decide +kernel), List.mem_of_getElem? (i := 485) (by decide +kernel), List.mem_of_getElem? (i := 486) (by decide +kernel)⟩
theorem lw_p14 : lw_okq (⟨"PenThatJumps$Program", "clear", "()V"⟩, 6) := ⟨⟨by decide +kernel, by decide +kernel⟩, List.mem_of_getElem? (i := 136) (by decide +kernel), List.mem_of_getElem? (i := 489) (by decide +kernel), List.mem_of_getElem? (i := 490) (by decide +kernel)⟩
theorem lw_p15 : lw_okq (⟨"PenThatJumps$Parser", "next", "()V"⟩, 9) := ⟨⟨by decide +kernel, by decide +kernel⟩, List.mem_of_getElem? (i := 78) (by decide +kernel), List.mem_of_getElem? (i := 496) (by decide +kernel), List.mem_of_getElem? (i := 497) (by decide +kernel)⟩
def lw_privs_1 : List (MethodName × Nat) := [(⟨"PenThatJumps$Person", "tell", "(IZIZ)V"⟩, 5), (⟨"PenThatJumps$Tape", "put", "(J)V"⟩, 5), (⟨"PenThatJumps$Tape", "clear", "()V"⟩, 5), (⟨"PenThatJumps$Parser", "readPlan", "()I"⟩, 9), (⟨"PenThatJumps$Tape", "cut", "()V"⟩, 5), (⟨"PenThatJumps$Tape", "pastBlanks", "(I)I"⟩, 5), (⟨"PenThatJumps$Tape", "signAt", "(I)C"⟩, 5), (⟨"PenThatJumps$Tape", "cutToken", "(I)I"⟩, 5), (⟨"PenThatJumps$Tape", "cutWord", "(I)I"⟩, 5), (⟨"PenThatJumps$Tape", "rowOfWord", "(II)I"⟩, 5), (⟨"PenThatJumps$Tape", "spells", "(IILjava/lang/String;)Z"⟩, 5), (⟨"PenThatJumps$Tape", "addToken", "(II)V"⟩, 5), (⟨"PenThatJumps$Tape", "cutNumber", "(I)I"⟩, 5), (⟨"PenThatJumps$Parser", "begin", "(Z)V"⟩, 9), (⟨"PenThatJumps$Program", "clear", "()V"⟩, 6), (⟨"PenThatJumps$Parser", "next", "()V"⟩, 9)]
theorem lw_r1 : ∀ q ∈ lw_privs_1, lw_okq q := List.forall_mem_cons.mpr ⟨lw_p0, List.forall_mem_cons.mpr ⟨lw_p1, List.forall_mem_cons.mpr ⟨lw_p2, List.forall_mem_cons.mpr ⟨lw_p3, List.forall_mem_cons.mpr ⟨lw_p4, List.forall_mem_cons.mpr ⟨lw_p5, List.forall_mem_cons.mpr ⟨lw_p6, List.forall_mem_cons.mpr ⟨lw_p7, List.forall_mem_cons.mpr ⟨lw_p8, List.forall_mem_cons.mpr ⟨lw_p9, List.forall_mem_cons.mpr ⟨lw_p10, List.forall_mem_cons.mpr ⟨lw_p11, List.forall_mem_cons.mpr ⟨lw_p12, List.forall_mem_cons.mpr ⟨lw_p13, List.forall_mem_cons.mpr ⟨lw_p14, List.forall_mem_cons.mpr ⟨lw_p15, fun _ h => absurd h List.not_mem_nil⟩⟩⟩⟩⟩⟩⟩⟩⟩⟩⟩⟩⟩⟩⟩⟩
theorem lw_p16 : lw_okq (⟨"PenThatJumps$Parser", "takeQuestion", "()V"⟩, 9) := ⟨⟨by decide +kernel, by decide +kernel⟩, List.mem_of_getElem? (i := 78) (by decide +kernel), List.mem_of_getElem? (i := 501) (by decide +kernel), List.mem_of_getElem? (i := 502) (by decide +kernel)⟩
theorem lw_p17 : lw_okq (⟨"PenThatJumps$Parser", "wrong", "(I)V"⟩, 9) := ⟨⟨by decide +kernel, by decide +kernel⟩, List.mem_of_getElem? (i := 78) (by decide +kernel), List.mem_of_getElem? (i := 507) (by decide +kernel), List.mem_of_getElem? (i := 508) (by decide +kernel)⟩
theorem lw_p18 : lw_okq (⟨"PenThatJumps$Parser", "takeWord", "(LPenThatJumps$Word;)V"⟩, 9) := ⟨⟨by decide +kernel, by decide +kernel⟩, List.mem_of_getElem? (i := 78) (by decide +kernel), List.mem_of_getElem? (i := 511) (by decide +kernel), List.mem_of_getElem? (i := 512) (by decide +kernel)⟩
theorem lw_p19 : lw_okq (⟨"PenThatJumps$Parser", "takeKind", "()I"⟩, 9) := ⟨⟨by decide +kernel, by decide +kernel⟩, List.mem_of_getElem? (i := 78) (by decide +kernel), List.mem_of_getElem? (i := 515) (by decide +kernel), List.mem_of_getElem? (i := 516) (by decide +kernel)⟩
theorem lw_p20 : lw_okq (⟨"PenThatJumps$Parser", "takeNumber", "(II)I"⟩, 9) := ⟨⟨by decide +kernel, by decide +kernel⟩, List.mem_of_getElem? (i := 78) (by decide +kernel), List.mem_of_getElem? (i := 519) (by decide +kernel), List.mem_of_getElem? (i := 520) (by decide +kernel)⟩
theorem lw_p21 : lw_okq (⟨"PenThatJumps$Parser", "isNumber", "()Z"⟩, 9) := ⟨⟨by decide +kernel, by decide +kernel⟩, List.mem_of_getElem? (i := 78) (by decide +kernel), List.mem_of_getElem? (i := 523) (by decide +kernel), List.mem_of_getElem? (i := 524) (by decide +kernel)⟩
theorem lw_p22 : lw_okq (⟨"PenThatJumps$Parser", "takeSign", "(C)V"⟩, 9) := ⟨⟨by decide +kernel, by decide +kernel⟩, List.mem_of_getElem? (i := 78) (by decide +kernel), List.mem_of_getElem? (i := 530) (by decide +kernel), List.mem_of_getElem? (i := 531) (by decide +kernel)⟩
theorem lw_p23 : lw_okq (⟨"PenThatJumps$Parser", "isSign", "(C)Z"⟩, 9) := ⟨⟨by decide +kernel, by decide +kernel⟩, List.mem_of_getElem? (i := 78) (by decide +kernel), List.mem_of_getElem? (i := 534) (by decide +kernel), List.mem_of_getElem? (i := 535) (by decide +kernel)⟩
theorem lw_p24 : lw_okq (⟨"PenThatJumps$Plan", "add", "(III)V"⟩, 4) := ⟨⟨by decide +kernel, by decide +kernel⟩, List.mem_of_getElem? (i := 111) (by decide +kernel), List.mem_of_getElem? (i := 538) (by decide +kernel), List.mem_of_getElem? (i := 539) (by decide +kernel)⟩
theorem lw_p25 : lw_okq (⟨"PenThatJumps$Parser", "goesOn", "()Z"⟩, 9) := ⟨⟨by decide +kernel, by decide +kernel⟩, List.mem_of_getElem? (i := 78) (by decide +kernel), List.mem_of_getElem? (i := 542) (by decide +kernel), List.mem_of_getElem? (i := 543) (by decide +kernel)⟩
theorem lw_p26 : lw_okq (⟨"PenThatJumps$Plan", "become", "(LPenThatJumps$Plan;)V"⟩, 4) := ⟨⟨by decide +kernel, by decide +kernel⟩, List.mem_of_getElem? (i := 111) (by decide +kernel), List.mem_of_getElem? (i := 546) (by decide +kernel), List.mem_of_getElem? (i := 547) (by decide +kernel)⟩
theorem lw_p27 : lw_okq (⟨"PenThatJumps$Plan", "kindAt", "(I)I"⟩, 4) := ⟨⟨by decide +kernel, by decide +kernel⟩, List.mem_of_getElem? (i := 111) (by decide +kernel), List.mem_of_getElem? (i := 550) (by decide +kernel), List.mem_of_getElem? (i := 551) (by decide +kernel)⟩
theorem lw_p28 : lw_okq (⟨"PenThatJumps$Plan", "itemAt", "(I)I"⟩, 4) := ⟨⟨by decide +kernel, by decide +kernel⟩, List.mem_of_getElem? (i := 111) (by decide +kernel), List.mem_of_getElem? (i := 554) (by decide +kernel), List.mem_of_getElem? (i := 555) (by decide +kernel)⟩
theorem lw_p29 : lw_okq (⟨"PenThatJumps$Plan", "minutesAt", "(I)I"⟩, 4) := ⟨⟨by decide +kernel, by decide +kernel⟩, List.mem_of_getElem? (i := 111) (by decide +kernel), List.mem_of_getElem? (i := 558) (by decide +kernel), List.mem_of_getElem? (i := 559) (by decide +kernel)⟩
theorem lw_p30 : lw_okq (⟨"PenThatJumps$Parser", "readBody", "()I"⟩, 9) := ⟨⟨by decide +kernel, by decide +kernel⟩, List.mem_of_getElem? (i := 78) (by decide +kernel), List.mem_of_getElem? (i := 567) (by decide +kernel), List.mem_of_getElem? (i := 568) (by decide +kernel)⟩
theorem lw_p31 : lw_okq (⟨"PenThatJumps$Parser", "takeBodyHead", "()I"⟩, 9) := ⟨⟨by decide +kernel, by decide +kernel⟩, List.mem_of_getElem? (i := 78) (by decide +kernel), List.mem_of_getElem? (i := 571) (by decide +kernel), List.mem_of_getElem? (i := 572) (by decide +kernel)⟩
def lw_privs_2 : List (MethodName × Nat) := [(⟨"PenThatJumps$Parser", "takeQuestion", "()V"⟩, 9), (⟨"PenThatJumps$Parser", "wrong", "(I)V"⟩, 9), (⟨"PenThatJumps$Parser", "takeWord", "(LPenThatJumps$Word;)V"⟩, 9), (⟨"PenThatJumps$Parser", "takeKind", "()I"⟩, 9), (⟨"PenThatJumps$Parser", "takeNumber", "(II)I"⟩, 9), (⟨"PenThatJumps$Parser", "isNumber", "()Z"⟩, 9), (⟨"PenThatJumps$Parser", "takeSign", "(C)V"⟩, 9), (⟨"PenThatJumps$Parser", "isSign", "(C)Z"⟩, 9), (⟨"PenThatJumps$Plan", "add", "(III)V"⟩, 4), (⟨"PenThatJumps$Parser", "goesOn", "()Z"⟩, 9), (⟨"PenThatJumps$Plan", "become", "(LPenThatJumps$Plan;)V"⟩, 4), (⟨"PenThatJumps$Plan", "kindAt", "(I)I"⟩, 4), (⟨"PenThatJumps$Plan", "itemAt", "(I)I"⟩, 4), (⟨"PenThatJumps$Plan", "minutesAt", "(I)I"⟩, 4), (⟨"PenThatJumps$Parser", "readBody", "()I"⟩, 9), (⟨"PenThatJumps$Parser", "takeBodyHead", "()I"⟩, 9)]
theorem lw_r2 : ∀ q ∈ lw_privs_2, lw_okq q := List.forall_mem_cons.mpr ⟨lw_p16, List.forall_mem_cons.mpr ⟨lw_p17, List.forall_mem_cons.mpr ⟨lw_p18, List.forall_mem_cons.mpr ⟨lw_p19, List.forall_mem_cons.mpr ⟨lw_p20, List.forall_mem_cons.mpr ⟨lw_p21, List.forall_mem_cons.mpr ⟨lw_p22, List.forall_mem_cons.mpr ⟨lw_p23, List.forall_mem_cons.mpr ⟨lw_p24, List.forall_mem_cons.mpr ⟨lw_p25, List.forall_mem_cons.mpr ⟨lw_p26, List.forall_mem_cons.mpr ⟨lw_p27, List.forall_mem_cons.mpr ⟨lw_p28, List.forall_mem_cons.mpr ⟨lw_p29, List.forall_mem_cons.mpr ⟨lw_p30, List.forall_mem_cons.mpr ⟨lw_p31, fun _ h => absurd h List.not_mem_nil⟩⟩⟩⟩⟩⟩⟩⟩⟩⟩⟩⟩⟩⟩⟩⟩
theorem lw_p32 : lw_okq (⟨"PenThatJumps$Program", "hasLine", "(I)Z"⟩, 6) := ⟨⟨by decide +kernel, by decide +kernel⟩, List.mem_of_getElem? (i := 136) (by decide +kernel), List.mem_of_getElem? (i := 577) (by decide +kernel), List.mem_of_getElem? (i := 578) (by decide +kernel)⟩
theorem lw_p33 : lw_okq (⟨"PenThatJumps$Parser", "takeLaw", "(I)V"⟩, 9) := ⟨⟨by decide +kernel, by decide +kernel⟩, List.mem_of_getElem? (i := 78) (by decide +kernel), List.mem_of_getElem? (i := 581) (by decide +kernel), List.mem_of_getElem? (i := 582) (by decide +kernel)⟩
theorem lw_p34 : lw_okq (⟨"PenThatJumps$Program", "open", "(I)V"⟩, 6) := ⟨⟨by decide +kernel, by decide +kernel⟩, List.mem_of_getElem? (i := 136) (by decide +kernel), List.mem_of_getElem? (i := 585) (by decide +kernel), List.mem_of_getElem? (i := 586) (by decide +kernel)⟩
theorem lw_p35 : lw_okq (⟨"PenThatJumps$Parser", "chain", "(II)V"⟩, 9) := ⟨⟨by decide +kernel, by decide +kernel⟩, List.mem_of_getElem? (i := 78) (by decide +kernel), List.mem_of_getElem? (i := 589) (by decide +kernel), List.mem_of_getElem? (i := 590) (by decide +kernel)⟩
theorem lw_p36 : lw_okq (⟨"PenThatJumps$Parser", "takePart", "(I)V"⟩, 9) := ⟨⟨by decide +kernel, by decide +kernel⟩, List.mem_of_getElem? (i := 78) (by decide +kernel), List.mem_of_getElem? (i := 593) (by decide +kernel), List.mem_of_getElem? (i := 594) (by decide +kernel)⟩
theorem lw_p37 : lw_okq (⟨"PenThatJumps$Program", "add", "(I)V"⟩, 6) := ⟨⟨by decide +kernel, by decide +kernel⟩, List.mem_of_getElem? (i := 136) (by decide +kernel), List.mem_of_getElem? (i := 599) (by decide +kernel), List.mem_of_getElem? (i := 600) (by decide +kernel)⟩
theorem lw_p38 : lw_okq (⟨"PenThatJumps$Parser", "takeLineOfFact", "(I)V"⟩, 9) := ⟨⟨by decide +kernel, by decide +kernel⟩, List.mem_of_getElem? (i := 78) (by decide +kernel), List.mem_of_getElem? (i := 603) (by decide +kernel), List.mem_of_getElem? (i := 604) (by decide +kernel)⟩
theorem lw_p39 : lw_okq (⟨"PenThatJumps$Parser", "jointAt", "(I)I"⟩, 9) := ⟨⟨by decide +kernel, by decide +kernel⟩, List.mem_of_getElem? (i := 78) (by decide +kernel), List.mem_of_getElem? (i := 607) (by decide +kernel), List.mem_of_getElem? (i := 608) (by decide +kernel)⟩
theorem lw_p40 : lw_okq (⟨"PenThatJumps$Program", "close", "(I)V"⟩, 6) := ⟨⟨by decide +kernel, by decide +kernel⟩, List.mem_of_getElem? (i := 136) (by decide +kernel), List.mem_of_getElem? (i := 615) (by decide +kernel), List.mem_of_getElem? (i := 616) (by decide +kernel)⟩
theorem lw_p41 : lw_okq (⟨"PenThatJumps$Program", "become", "(LPenThatJumps$Program;)V"⟩, 6) := ⟨⟨by decide +kernel, by decide +kernel⟩, List.mem_of_getElem? (i := 136) (by decide +kernel), List.mem_of_getElem? (i := 619) (by decide +kernel), List.mem_of_getElem? (i := 620) (by decide +kernel)⟩
theorem lw_p42 : lw_okq (⟨"PenThatJumps$Parser", "readReader", "()I"⟩, 9) := ⟨⟨by decide +kernel, by decide +kernel⟩, List.mem_of_getElem? (i := 78) (by decide +kernel), List.mem_of_getElem? (i := 643) (by decide +kernel), List.mem_of_getElem? (i := 644) (by decide +kernel)⟩
theorem lw_p43 : lw_okq (⟨"PenThatJumps$Parser", "takeReaderHead", "()I"⟩, 9) := ⟨⟨by decide +kernel, by decide +kernel⟩, List.mem_of_getElem? (i := 78) (by decide +kernel), List.mem_of_getElem? (i := 647) (by decide +kernel), List.mem_of_getElem? (i := 648) (by decide +kernel)⟩
theorem lw_p44 : lw_okq (⟨"PenThatJumps", "toldPlan", "(I)LPenThatJumps$Plan;"⟩, 16) := ⟨⟨by decide +kernel, by decide +kernel⟩, List.mem_of_getElem? (i := 27) (by decide +kernel), List.mem_of_getElem? (i := 659) (by decide +kernel), List.mem_of_getElem? (i := 660) (by decide +kernel)⟩
theorem lw_p45 : lw_okq (⟨"PenThatJumps", "toldPerson", "(I)LPenThatJumps$Person;"⟩, 16) := ⟨⟨by decide +kernel, by decide +kernel⟩, List.mem_of_getElem? (i := 27) (by decide +kernel), List.mem_of_getElem? (i := 670) (by decide +kernel), List.mem_of_getElem? (i := 671) (by decide +kernel)⟩
theorem lw_p46 : lw_okq (⟨"PenThatJumps$Chair", "fill", "(LPenThatJumps$Person;LPenThatJumps$Plan;[I)V"⟩, 4) := ⟨⟨by decide +kernel, by decide +kernel⟩, List.mem_of_getElem? (i := 197) (by decide +kernel), List.mem_of_getElem? (i := 674) (by decide +kernel), List.mem_of_getElem? (i := 675) (by decide +kernel)⟩
theorem lw_p47 : lw_okq (⟨"PenThatJumps$Plan", "ahead", "(I)I"⟩, 4) := ⟨⟨by decide +kernel, by decide +kernel⟩, List.mem_of_getElem? (i := 111) (by decide +kernel), List.mem_of_getElem? (i := 678) (by decide +kernel), List.mem_of_getElem? (i := 679) (by decide +kernel)⟩
def lw_privs_3 : List (MethodName × Nat) := [(⟨"PenThatJumps$Program", "hasLine", "(I)Z"⟩, 6), (⟨"PenThatJumps$Parser", "takeLaw", "(I)V"⟩, 9), (⟨"PenThatJumps$Program", "open", "(I)V"⟩, 6), (⟨"PenThatJumps$Parser", "chain", "(II)V"⟩, 9), (⟨"PenThatJumps$Parser", "takePart", "(I)V"⟩, 9), (⟨"PenThatJumps$Program", "add", "(I)V"⟩, 6), (⟨"PenThatJumps$Parser", "takeLineOfFact", "(I)V"⟩, 9), (⟨"PenThatJumps$Parser", "jointAt", "(I)I"⟩, 9), (⟨"PenThatJumps$Program", "close", "(I)V"⟩, 6), (⟨"PenThatJumps$Program", "become", "(LPenThatJumps$Program;)V"⟩, 6), (⟨"PenThatJumps$Parser", "readReader", "()I"⟩, 9), (⟨"PenThatJumps$Parser", "takeReaderHead", "()I"⟩, 9), (⟨"PenThatJumps", "toldPlan", "(I)LPenThatJumps$Plan;"⟩, 16), (⟨"PenThatJumps", "toldPerson", "(I)LPenThatJumps$Person;"⟩, 16), (⟨"PenThatJumps$Chair", "fill", "(LPenThatJumps$Person;LPenThatJumps$Plan;[I)V"⟩, 4), (⟨"PenThatJumps$Plan", "ahead", "(I)I"⟩, 4)]
theorem lw_r3 : ∀ q ∈ lw_privs_3, lw_okq q := List.forall_mem_cons.mpr ⟨lw_p32, List.forall_mem_cons.mpr ⟨lw_p33, List.forall_mem_cons.mpr ⟨lw_p34, List.forall_mem_cons.mpr ⟨lw_p35, List.forall_mem_cons.mpr ⟨lw_p36, List.forall_mem_cons.mpr ⟨lw_p37, List.forall_mem_cons.mpr ⟨lw_p38, List.forall_mem_cons.mpr ⟨lw_p39, List.forall_mem_cons.mpr ⟨lw_p40, List.forall_mem_cons.mpr ⟨lw_p41, List.forall_mem_cons.mpr ⟨lw_p42, List.forall_mem_cons.mpr ⟨lw_p43, List.forall_mem_cons.mpr ⟨lw_p44, List.forall_mem_cons.mpr ⟨lw_p45, List.forall_mem_cons.mpr ⟨lw_p46, List.forall_mem_cons.mpr ⟨lw_p47, fun _ h => absurd h List.not_mem_nil⟩⟩⟩⟩⟩⟩⟩⟩⟩⟩⟩⟩⟩⟩⟩⟩
theorem lw_p48 : lw_okq (⟨"PenThatJumps$Chair", "pose", "(LPenThatJumps$Person;LPenThatJumps$Plan;III)V"⟩, 4) := ⟨⟨by decide +kernel, by decide +kernel⟩, List.mem_of_getElem? (i := 197) (by decide +kernel), List.mem_of_getElem? (i := 682) (by decide +kernel), List.mem_of_getElem? (i := 683) (by decide +kernel)⟩
theorem lw_p49 : lw_okq (⟨"PenThatJumps$Chair", "jumpOf", "(II)I"⟩, 4) := ⟨⟨by decide +kernel, by decide +kernel⟩, List.mem_of_getElem? (i := 197) (by decide +kernel), List.mem_of_getElem? (i := 688) (by decide +kernel), List.mem_of_getElem? (i := 689) (by decide +kernel)⟩
theorem lw_p50 : lw_okq (⟨"PenThatJumps$Program", "run", "(I[I)I"⟩, 6) := ⟨⟨by decide +kernel, by decide +kernel⟩, List.mem_of_getElem? (i := 136) (by decide +kernel), List.mem_of_getElem? (i := 692) (by decide +kernel), List.mem_of_getElem? (i := 693) (by decide +kernel)⟩
theorem lw_p51 : lw_okq (⟨"PenThatJumps$Program", "take", "(II[I)I"⟩, 6) := ⟨⟨by decide +kernel, by decide +kernel⟩, List.mem_of_getElem? (i := 136) (by decide +kernel), List.mem_of_getElem? (i := 697) (by decide +kernel), List.mem_of_getElem? (i := 698) (by decide +kernel)⟩
theorem lw_p52 : lw_okq (⟨"PenThatJumps$Sitting", "begin", "(LPenThatJumps$Plan;I)V"⟩, 3) := ⟨⟨by decide +kernel, by decide +kernel⟩, List.mem_of_getElem? (i := 254) (by decide +kernel), List.mem_of_getElem? (i := 704) (by decide +kernel), List.mem_of_getElem? (i := 705) (by decide +kernel)⟩
theorem lw_p53 : lw_okq (⟨"PenThatJumps$Sitting", "draw", "(I[I)V"⟩, 3) := ⟨⟨by decide +kernel, by decide +kernel⟩, List.mem_of_getElem? (i := 254) (by decide +kernel), List.mem_of_getElem? (i := 709) (by decide +kernel), List.mem_of_getElem? (i := 710) (by decide +kernel)⟩
theorem lw_p54 : lw_okq (⟨"PenThatJumps", "keptSitting", "(I)LPenThatJumps$Sitting;"⟩, 16) := ⟨⟨by decide +kernel, by decide +kernel⟩, List.mem_of_getElem? (i := 27) (by decide +kernel), List.mem_of_getElem? (i := 722) (by decide +kernel), List.mem_of_getElem? (i := 723) (by decide +kernel)⟩
theorem lw_p55 : lw_okq (⟨"PenThatJumps", "readerOf", "(I)LPenThatJumps$Program;"⟩, 16) := ⟨⟨by decide +kernel, by decide +kernel⟩, List.mem_of_getElem? (i := 27) (by decide +kernel), List.mem_of_getElem? (i := 726) (by decide +kernel), List.mem_of_getElem? (i := 727) (by decide +kernel)⟩
theorem lw_p56 : lw_okq (⟨"PenThatJumps$Judge", "study", "(LPenThatJumps$Sitting;)V"⟩, 1) := ⟨⟨by decide +kernel, by decide +kernel⟩, List.mem_of_getElem? (i := 220) (by decide +kernel), List.mem_of_getElem? (i := 730) (by decide +kernel), List.mem_of_getElem? (i := 731) (by decide +kernel)⟩
theorem lw_p57 : lw_okq (⟨"PenThatJumps$Judge", "note", "(LPenThatJumps$Sitting;II)V"⟩, 1) := ⟨⟨by decide +kernel, by decide +kernel⟩, List.mem_of_getElem? (i := 220) (by decide +kernel), List.mem_of_getElem? (i := 735) (by decide +kernel), List.mem_of_getElem? (i := 736) (by decide +kernel)⟩
theorem lw_p58 : lw_okq (⟨"PenThatJumps$Sitting", "jumpAt", "(II)I"⟩, 3) := ⟨⟨by decide +kernel, by decide +kernel⟩, List.mem_of_getElem? (i := 254) (by decide +kernel), List.mem_of_getElem? (i := 739) (by decide +kernel), List.mem_of_getElem? (i := 740) (by decide +kernel)⟩
theorem lw_p59 : lw_okq (⟨"PenThatJumps$Judge", "finds", "(LPenThatJumps$Program;I)Z"⟩, 1) := ⟨⟨by decide +kernel, by decide +kernel⟩, List.mem_of_getElem? (i := 220) (by decide +kernel), List.mem_of_getElem? (i := 748) (by decide +kernel), List.mem_of_getElem? (i := 749) (by decide +kernel)⟩
theorem lw_p60 : lw_okq (⟨"PenThatJumps$Sitting", "standsOut", "(I)Z"⟩, 3) := ⟨⟨by decide +kernel, by decide +kernel⟩, List.mem_of_getElem? (i := 254) (by decide +kernel), List.mem_of_getElem? (i := 761) (by decide +kernel), List.mem_of_getElem? (i := 762) (by decide +kernel)⟩
theorem lw_p61 : lw_okq (⟨"PenThatJumps", "rated", "(IIII)Z"⟩, 16) := ⟨⟨by decide +kernel, by decide +kernel⟩, List.mem_of_getElem? (i := 27) (by decide +kernel), List.mem_of_getElem? (i := 772) (by decide +kernel), List.mem_of_getElem? (i := 773) (by decide +kernel)⟩
theorem lw_p62 : lw_okq (⟨"PenThatJumps", "addRates", "(LPenThatJumps$Program;III)V"⟩, 16) := ⟨⟨by decide +kernel, by decide +kernel⟩, List.mem_of_getElem? (i := 27) (by decide +kernel), List.mem_of_getElem? (i := 777) (by decide +kernel), List.mem_of_getElem? (i := 778) (by decide +kernel)⟩
theorem lw_p63 : lw_okq (⟨"PenThatJumps", "tried", "(LPenThatJumps$Program;II[I)Z"⟩, 16) := ⟨⟨by decide +kernel, by decide +kernel⟩, List.mem_of_getElem? (i := 27) (by decide +kernel), List.mem_of_getElem? (i := 781) (by decide +kernel), List.mem_of_getElem? (i := 782) (by decide +kernel)⟩
def lw_privs_4 : List (MethodName × Nat) := [(⟨"PenThatJumps$Chair", "pose", "(LPenThatJumps$Person;LPenThatJumps$Plan;III)V"⟩, 4), (⟨"PenThatJumps$Chair", "jumpOf", "(II)I"⟩, 4), (⟨"PenThatJumps$Program", "run", "(I[I)I"⟩, 6), (⟨"PenThatJumps$Program", "take", "(II[I)I"⟩, 6), (⟨"PenThatJumps$Sitting", "begin", "(LPenThatJumps$Plan;I)V"⟩, 3), (⟨"PenThatJumps$Sitting", "draw", "(I[I)V"⟩, 3), (⟨"PenThatJumps", "keptSitting", "(I)LPenThatJumps$Sitting;"⟩, 16), (⟨"PenThatJumps", "readerOf", "(I)LPenThatJumps$Program;"⟩, 16), (⟨"PenThatJumps$Judge", "study", "(LPenThatJumps$Sitting;)V"⟩, 1), (⟨"PenThatJumps$Judge", "note", "(LPenThatJumps$Sitting;II)V"⟩, 1), (⟨"PenThatJumps$Sitting", "jumpAt", "(II)I"⟩, 3), (⟨"PenThatJumps$Judge", "finds", "(LPenThatJumps$Program;I)Z"⟩, 1), (⟨"PenThatJumps$Sitting", "standsOut", "(I)Z"⟩, 3), (⟨"PenThatJumps", "rated", "(IIII)Z"⟩, 16), (⟨"PenThatJumps", "addRates", "(LPenThatJumps$Program;III)V"⟩, 16), (⟨"PenThatJumps", "tried", "(LPenThatJumps$Program;II[I)Z"⟩, 16)]
theorem lw_r4 : ∀ q ∈ lw_privs_4, lw_okq q := List.forall_mem_cons.mpr ⟨lw_p48, List.forall_mem_cons.mpr ⟨lw_p49, List.forall_mem_cons.mpr ⟨lw_p50, List.forall_mem_cons.mpr ⟨lw_p51, List.forall_mem_cons.mpr ⟨lw_p52, List.forall_mem_cons.mpr ⟨lw_p53, List.forall_mem_cons.mpr ⟨lw_p54, List.forall_mem_cons.mpr ⟨lw_p55, List.forall_mem_cons.mpr ⟨lw_p56, List.forall_mem_cons.mpr ⟨lw_p57, List.forall_mem_cons.mpr ⟨lw_p58, List.forall_mem_cons.mpr ⟨lw_p59, List.forall_mem_cons.mpr ⟨lw_p60, List.forall_mem_cons.mpr ⟨lw_p61, List.forall_mem_cons.mpr ⟨lw_p62, List.forall_mem_cons.mpr ⟨lw_p63, fun _ h => absurd h List.not_mem_nil⟩⟩⟩⟩⟩⟩⟩⟩⟩⟩⟩⟩⟩⟩⟩⟩
theorem lw_p64 : lw_okq (⟨"PenThatJumps", "seatDoer", "(LPenThatJumps$Plan;I)V"⟩, 16) := ⟨⟨by decide +kernel, by decide +kernel⟩, List.mem_of_getElem? (i := 27) (by decide +kernel), List.mem_of_getElem? (i := 793) (by decide +kernel), List.mem_of_getElem? (i := 794) (by decide +kernel)⟩
theorem lw_p65 : lw_okq (⟨"PenThatJumps", "unlikeDoer", "(LPenThatJumps$Plan;I)I"⟩, 16) := ⟨⟨by decide +kernel, by decide +kernel⟩, List.mem_of_getElem? (i := 27) (by decide +kernel), List.mem_of_getElem? (i := 797) (by decide +kernel), List.mem_of_getElem? (i := 798) (by decide +kernel)⟩
theorem lw_p66 : lw_okq (⟨"PenThatJumps$Planner", "weigh", "(LPenThatJumps$Chair;LPenThatJumps$Plan;LPenThatJumps$Person;LPenThatJumps$Person;)V"⟩, 5) := ⟨⟨by decide +kernel, by decide +kernel⟩, List.mem_of_getElem? (i := 230) (by decide +kernel), List.mem_of_getElem? (i := 809) (by decide +kernel), List.mem_of_getElem? (i := 810) (by decide +kernel)⟩
theorem lw_p67 : lw_okq (⟨"PenThatJumps$Chair", "spread", "(LPenThatJumps$Person;LPenThatJumps$Person;LPenThatJumps$Plan;III)I"⟩, 4) := ⟨⟨by decide +kernel, by decide +kernel⟩, List.mem_of_getElem? (i := 197) (by decide +kernel), List.mem_of_getElem? (i := 817) (by decide +kernel), List.mem_of_getElem? (i := 818) (by decide +kernel)⟩
theorem lw_p68 : lw_okq (⟨"PenThatJumps$Planner", "choose", "(LPenThatJumps$Plan;I)V"⟩, 5) := ⟨⟨by decide +kernel, by decide +kernel⟩, List.mem_of_getElem? (i := 230) (by decide +kernel), List.mem_of_getElem? (i := 824) (by decide +kernel), List.mem_of_getElem? (i := 825) (by decide +kernel)⟩
theorem lw_p69 : lw_okq (⟨"PenThatJumps$Planner", "powerOf", "(LPenThatJumps$Plan;I)I"⟩, 5) := ⟨⟨by decide +kernel, by decide +kernel⟩, List.mem_of_getElem? (i := 230) (by decide +kernel), List.mem_of_getElem? (i := 832) (by decide +kernel), List.mem_of_getElem? (i := 833) (by decide +kernel)⟩
theorem lw_p70 : lw_okq (⟨"PenThatJumps$Tally", "addConfessions", "(ZZZI)V"⟩, 7) := ⟨⟨by decide +kernel, by decide +kernel⟩, List.mem_of_getElem? (i := 43) (by decide +kernel), List.mem_of_getElem? (i := 868) (by decide +kernel), List.mem_of_getElem? (i := 869) (by decide +kernel)⟩
theorem lw_p71 : lw_okq (⟨"PenThatJumps$Tally", "addPaper", "(ZII)V"⟩, 7) := ⟨⟨by decide +kernel, by decide +kernel⟩, List.mem_of_getElem? (i := 43) (by decide +kernel), List.mem_of_getElem? (i := 879) (by decide +kernel), List.mem_of_getElem? (i := 880) (by decide +kernel)⟩
theorem lw_p72 : lw_okq (⟨"PenThatJumps$Tally", "become", "(LPenThatJumps$Tally;)V"⟩, 7) := ⟨⟨by decide +kernel, by decide +kernel⟩, List.mem_of_getElem? (i := 43) (by decide +kernel), List.mem_of_getElem? (i := 887) (by decide +kernel), List.mem_of_getElem? (i := 888) (by decide +kernel)⟩
theorem lw_p73 : lw_okq (⟨"PenThatJumps", "countPersons", "(Z)I"⟩, 16) := ⟨⟨by decide +kernel, by decide +kernel⟩, List.mem_of_getElem? (i := 27) (by decide +kernel), List.mem_of_getElem? (i := 895) (by decide +kernel), List.mem_of_getElem? (i := 896) (by decide +kernel)⟩
theorem lw_p74 : lw_okq (⟨"PenThatJumps", "countPlans", "()I"⟩, 16) := ⟨⟨by decide +kernel, by decide +kernel⟩, List.mem_of_getElem? (i := 27) (by decide +kernel), List.mem_of_getElem? (i := 899) (by decide +kernel), List.mem_of_getElem? (i := 900) (by decide +kernel)⟩
theorem lw_p75 : lw_okq (⟨"PenThatJumps$Tally", "allConfessions", "()I"⟩, 7) := ⟨⟨by decide +kernel, by decide +kernel⟩, List.mem_of_getElem? (i := 43) (by decide +kernel), List.mem_of_getElem? (i := 903) (by decide +kernel), List.mem_of_getElem? (i := 904) (by decide +kernel)⟩
theorem lw_p76 : lw_okq (⟨"java/lang/Throwable", "fillInStackTrace", "(I)Ljava/lang/Throwable;"⟩, 6) := ⟨⟨by decide +kernel, by decide +kernel⟩, List.mem_of_getElem? (i := 951) (by decide +kernel), List.mem_of_getElem? (i := 949) (by decide +kernel), List.mem_of_getElem? (i := 950) (by decide +kernel)⟩
theorem lw_p77 : lw_okq (⟨"PenThatJumps$Tally", "confessed", "(IZZ)I"⟩, 7) := ⟨⟨by decide +kernel, by decide +kernel⟩, List.mem_of_getElem? (i := 43) (by decide +kernel), List.mem_of_getElem? (i := 990) (by decide +kernel), List.mem_of_getElem? (i := 991) (by decide +kernel)⟩
theorem lw_p78 : lw_okq (⟨"PenThatJumps$Tally", "confessionsAt", "(ZZZ)I"⟩, 7) := ⟨⟨by decide +kernel, by decide +kernel⟩, List.mem_of_getElem? (i := 43) (by decide +kernel), List.mem_of_getElem? (i := 994) (by decide +kernel), List.mem_of_getElem? (i := 995) (by decide +kernel)⟩
theorem lw_p79 : lw_okq (⟨"PenThatJumpsModel", "lay", "(J)V"⟩, 43) := ⟨⟨by decide +kernel, by decide +kernel⟩, List.mem_of_getElem? (i := 1017) (by decide +kernel), List.mem_of_getElem? (i := 1015) (by decide +kernel), List.mem_of_getElem? (i := 1016) (by decide +kernel)⟩
def lw_privs_5 : List (MethodName × Nat) := [(⟨"PenThatJumps", "seatDoer", "(LPenThatJumps$Plan;I)V"⟩, 16), (⟨"PenThatJumps", "unlikeDoer", "(LPenThatJumps$Plan;I)I"⟩, 16), (⟨"PenThatJumps$Planner", "weigh", "(LPenThatJumps$Chair;LPenThatJumps$Plan;LPenThatJumps$Person;LPenThatJumps$Person;)V"⟩, 5), (⟨"PenThatJumps$Chair", "spread", "(LPenThatJumps$Person;LPenThatJumps$Person;LPenThatJumps$Plan;III)I"⟩, 4), (⟨"PenThatJumps$Planner", "choose", "(LPenThatJumps$Plan;I)V"⟩, 5), (⟨"PenThatJumps$Planner", "powerOf", "(LPenThatJumps$Plan;I)I"⟩, 5), (⟨"PenThatJumps$Tally", "addConfessions", "(ZZZI)V"⟩, 7), (⟨"PenThatJumps$Tally", "addPaper", "(ZII)V"⟩, 7), (⟨"PenThatJumps$Tally", "become", "(LPenThatJumps$Tally;)V"⟩, 7), (⟨"PenThatJumps", "countPersons", "(Z)I"⟩, 16), (⟨"PenThatJumps", "countPlans", "()I"⟩, 16), (⟨"PenThatJumps$Tally", "allConfessions", "()I"⟩, 7), (⟨"java/lang/Throwable", "fillInStackTrace", "(I)Ljava/lang/Throwable;"⟩, 6), (⟨"PenThatJumps$Tally", "confessed", "(IZZ)I"⟩, 7), (⟨"PenThatJumps$Tally", "confessionsAt", "(ZZZ)I"⟩, 7), (⟨"PenThatJumpsModel", "lay", "(J)V"⟩, 43)]
theorem lw_r5 : ∀ q ∈ lw_privs_5, lw_okq q := List.forall_mem_cons.mpr ⟨lw_p64, List.forall_mem_cons.mpr ⟨lw_p65, List.forall_mem_cons.mpr ⟨lw_p66, List.forall_mem_cons.mpr ⟨lw_p67, List.forall_mem_cons.mpr ⟨lw_p68, List.forall_mem_cons.mpr ⟨lw_p69, List.forall_mem_cons.mpr ⟨lw_p70, List.forall_mem_cons.mpr ⟨lw_p71, List.forall_mem_cons.mpr ⟨lw_p72, List.forall_mem_cons.mpr ⟨lw_p73, List.forall_mem_cons.mpr ⟨lw_p74, List.forall_mem_cons.mpr ⟨lw_p75, List.forall_mem_cons.mpr ⟨lw_p76, List.forall_mem_cons.mpr ⟨lw_p77, List.forall_mem_cons.mpr ⟨lw_p78, List.forall_mem_cons.mpr ⟨lw_p79, fun _ h => absurd h List.not_mem_nil⟩⟩⟩⟩⟩⟩⟩⟩⟩⟩⟩⟩⟩⟩⟩⟩
theorem lw_p80 : lw_okq (⟨"PenThatJumpsModel", "cutAll", "()V"⟩, 43) := ⟨⟨by decide +kernel, by decide +kernel⟩, List.mem_of_getElem? (i := 1017) (by decide +kernel), List.mem_of_getElem? (i := 1195) (by decide +kernel), List.mem_of_getElem? (i := 1196) (by decide +kernel)⟩
theorem lw_p81 : lw_okq (⟨"PenThatJumpsModel", "readAsk", "()V"⟩, 43) := ⟨⟨by decide +kernel, by decide +kernel⟩, List.mem_of_getElem? (i := 1017) (by decide +kernel), List.mem_of_getElem? (i := 1214) (by decide +kernel), List.mem_of_getElem? (i := 1215) (by decide +kernel)⟩
theorem lw_p82 : lw_okq (⟨"PenThatJumpsModel", "isWord", "(I)Z"⟩, 43) := ⟨⟨by decide +kernel, by decide +kernel⟩, List.mem_of_getElem? (i := 1017) (by decide +kernel), List.mem_of_getElem? (i := 1218) (by decide +kernel), List.mem_of_getElem? (i := 1219) (by decide +kernel)⟩
theorem lw_p83 : lw_okq (⟨"PenThatJumpsModel", "wrong", "(I)V"⟩, 43) := ⟨⟨by decide +kernel, by decide +kernel⟩, List.mem_of_getElem? (i := 1017) (by decide +kernel), List.mem_of_getElem? (i := 1222) (by decide +kernel), List.mem_of_getElem? (i := 1223) (by decide +kernel)⟩
theorem lw_p84 : lw_okq (⟨"PenThatJumpsModel", "takeNumber", "(II)I"⟩, 43) := ⟨⟨by decide +kernel, by decide +kernel⟩, List.mem_of_getElem? (i := 1017) (by decide +kernel), List.mem_of_getElem? (i := 1226) (by decide +kernel), List.mem_of_getElem? (i := 1227) (by decide +kernel)⟩
theorem lw_p85 : lw_okq (⟨"PenThatJumpsModel", "hasWord", "(I)Z"⟩, 43) := ⟨⟨by decide +kernel, by decide +kernel⟩, List.mem_of_getElem? (i := 1017) (by decide +kernel), List.mem_of_getElem? (i := 1230) (by decide +kernel), List.mem_of_getElem? (i := 1231) (by decide +kernel)⟩
theorem lw_p86 : lw_okq (⟨"PenThatJumpsModel", "takeSign", "(I)V"⟩, 43) := ⟨⟨by decide +kernel, by decide +kernel⟩, List.mem_of_getElem? (i := 1017) (by decide +kernel), List.mem_of_getElem? (i := 1234) (by decide +kernel), List.mem_of_getElem? (i := 1235) (by decide +kernel)⟩
theorem lw_p87 : lw_okq (⟨"PenThatJumpsModel", "isSign", "(I)Z"⟩, 43) := ⟨⟨by decide +kernel, by decide +kernel⟩, List.mem_of_getElem? (i := 1017) (by decide +kernel), List.mem_of_getElem? (i := 1238) (by decide +kernel), List.mem_of_getElem? (i := 1239) (by decide +kernel)⟩
theorem lw_p88 : lw_okq (⟨"PenThatJumpsModel", "isPlan", "(I)Z"⟩, 43) := ⟨⟨by decide +kernel, by decide +kernel⟩, List.mem_of_getElem? (i := 1017) (by decide +kernel), List.mem_of_getElem? (i := 1246) (by decide +kernel), List.mem_of_getElem? (i := 1247) (by decide +kernel)⟩
theorem lw_p89 : lw_okq (⟨"PenThatJumpsModel", "takeWord", "(I)V"⟩, 43) := ⟨⟨by decide +kernel, by decide +kernel⟩, List.mem_of_getElem? (i := 1017) (by decide +kernel), List.mem_of_getElem? (i := 1254) (by decide +kernel), List.mem_of_getElem? (i := 1255) (by decide +kernel)⟩
theorem lw_p90 : lw_okq (⟨"PenThatJumpsModel", "readWhole", "()V"⟩, 43) := ⟨⟨by decide +kernel, by decide +kernel⟩, List.mem_of_getElem? (i := 1017) (by decide +kernel), List.mem_of_getElem? (i := 1259) (by decide +kernel), List.mem_of_getElem? (i := 1260) (by decide +kernel)⟩
theorem lw_p91 : lw_okq (⟨"PenThatJumpsModel", "all", "(I)V"⟩, 43) := ⟨⟨by decide +kernel, by decide +kernel⟩, List.mem_of_getElem? (i := 1017) (by decide +kernel), List.mem_of_getElem? (i := 1263) (by decide +kernel), List.mem_of_getElem? (i := 1264) (by decide +kernel)⟩
theorem lw_p92 : lw_okq (⟨"PenThatJumpsModel", "test", "(I)V"⟩, 43) := ⟨⟨by decide +kernel, by decide +kernel⟩, List.mem_of_getElem? (i := 1017) (by decide +kernel), List.mem_of_getElem? (i := 1267) (by decide +kernel), List.mem_of_getElem? (i := 1268) (by decide +kernel)⟩
theorem lw_p93 : lw_okq (⟨"PenThatJumpsModel", "sums", "(I)V"⟩, 43) := ⟨⟨by decide +kernel, by decide +kernel⟩, List.mem_of_getElem? (i := 1017) (by decide +kernel), List.mem_of_getElem? (i := 1271) (by decide +kernel), List.mem_of_getElem? (i := 1272) (by decide +kernel)⟩
theorem lw_p94 : lw_okq (⟨"PenThatJumpsModel", "products", "(I)V"⟩, 43) := ⟨⟨by decide +kernel, by decide +kernel⟩, List.mem_of_getElem? (i := 1017) (by decide +kernel), List.mem_of_getElem? (i := 1275) (by decide +kernel), List.mem_of_getElem? (i := 1276) (by decide +kernel)⟩
theorem lw_p95 : lw_okq (⟨"PenThatJumpsModel", "takePart", "(I)V"⟩, 43) := ⟨⟨by decide +kernel, by decide +kernel⟩, List.mem_of_getElem? (i := 1017) (by decide +kernel), List.mem_of_getElem? (i := 1279) (by decide +kernel), List.mem_of_getElem? (i := 1280) (by decide +kernel)⟩
def lw_privs_6 : List (MethodName × Nat) := [(⟨"PenThatJumpsModel", "cutAll", "()V"⟩, 43), (⟨"PenThatJumpsModel", "readAsk", "()V"⟩, 43), (⟨"PenThatJumpsModel", "isWord", "(I)Z"⟩, 43), (⟨"PenThatJumpsModel", "wrong", "(I)V"⟩, 43), (⟨"PenThatJumpsModel", "takeNumber", "(II)I"⟩, 43), (⟨"PenThatJumpsModel", "hasWord", "(I)Z"⟩, 43), (⟨"PenThatJumpsModel", "takeSign", "(I)V"⟩, 43), (⟨"PenThatJumpsModel", "isSign", "(I)Z"⟩, 43), (⟨"PenThatJumpsModel", "isPlan", "(I)Z"⟩, 43), (⟨"PenThatJumpsModel", "takeWord", "(I)V"⟩, 43), (⟨"PenThatJumpsModel", "readWhole", "()V"⟩, 43), (⟨"PenThatJumpsModel", "all", "(I)V"⟩, 43), (⟨"PenThatJumpsModel", "test", "(I)V"⟩, 43), (⟨"PenThatJumpsModel", "sums", "(I)V"⟩, 43), (⟨"PenThatJumpsModel", "products", "(I)V"⟩, 43), (⟨"PenThatJumpsModel", "takePart", "(I)V"⟩, 43)]
theorem lw_r6 : ∀ q ∈ lw_privs_6, lw_okq q := List.forall_mem_cons.mpr ⟨lw_p80, List.forall_mem_cons.mpr ⟨lw_p81, List.forall_mem_cons.mpr ⟨lw_p82, List.forall_mem_cons.mpr ⟨lw_p83, List.forall_mem_cons.mpr ⟨lw_p84, List.forall_mem_cons.mpr ⟨lw_p85, List.forall_mem_cons.mpr ⟨lw_p86, List.forall_mem_cons.mpr ⟨lw_p87, List.forall_mem_cons.mpr ⟨lw_p88, List.forall_mem_cons.mpr ⟨lw_p89, List.forall_mem_cons.mpr ⟨lw_p90, List.forall_mem_cons.mpr ⟨lw_p91, List.forall_mem_cons.mpr ⟨lw_p92, List.forall_mem_cons.mpr ⟨lw_p93, List.forall_mem_cons.mpr ⟨lw_p94, List.forall_mem_cons.mpr ⟨lw_p95, fun _ h => absurd h List.not_mem_nil⟩⟩⟩⟩⟩⟩⟩⟩⟩⟩⟩⟩⟩⟩⟩⟩
theorem lw_p96 : lw_okq (⟨"PenThatJumpsModel", "factHere", "()I"⟩, 43) := ⟨⟨by decide +kernel, by decide +kernel⟩, List.mem_of_getElem? (i := 1017) (by decide +kernel), List.mem_of_getElem? (i := 1283) (by decide +kernel), List.mem_of_getElem? (i := 1284) (by decide +kernel)⟩
theorem lw_p97 : lw_okq (⟨"PenThatJumpsModel", "emit", "(II)V"⟩, 43) := ⟨⟨by decide +kernel, by decide +kernel⟩, List.mem_of_getElem? (i := 1017) (by decide +kernel), List.mem_of_getElem? (i := 1287) (by decide +kernel), List.mem_of_getElem? (i := 1288) (by decide +kernel)⟩
theorem lw_p98 : lw_okq (⟨"PenThatJumpsModel", "hasSign", "(I)Z"⟩, 43) := ⟨⟨by decide +kernel, by decide +kernel⟩, List.mem_of_getElem? (i := 1017) (by decide +kernel), List.mem_of_getElem? (i := 1291) (by decide +kernel), List.mem_of_getElem? (i := 1292) (by decide +kernel)⟩
theorem lw_p99 : lw_okq (⟨"PenThatJumpsModel", "keepsCodes", "(I)V"⟩, 43) := ⟨⟨by decide +kernel, by decide +kernel⟩, List.mem_of_getElem? (i := 1017) (by decide +kernel), List.mem_of_getElem? (i := 1295) (by decide +kernel), List.mem_of_getElem? (i := 1296) (by decide +kernel)⟩
theorem lw_p100 : lw_okq (⟨"PenThatJumpsModel", "isPerson", "(I)Z"⟩, 43) := ⟨⟨by decide +kernel, by decide +kernel⟩, List.mem_of_getElem? (i := 1017) (by decide +kernel), List.mem_of_getElem? (i := 1307) (by decide +kernel), List.mem_of_getElem? (i := 1308) (by decide +kernel)⟩
theorem lw_p101 : lw_okq (⟨"PenThatJumpsModel", "sits", "(IIIIZ)V"⟩, 43) := ⟨⟨by decide +kernel, by decide +kernel⟩, List.mem_of_getElem? (i := 1017) (by decide +kernel), List.mem_of_getElem? (i := 1311) (by decide +kernel), List.mem_of_getElem? (i := 1312) (by decide +kernel)⟩
theorem lw_p102 : lw_okq (⟨"PenThatJumpsModel", "habitOf", "(II)I"⟩, 43) := ⟨⟨by decide +kernel, by decide +kernel⟩, List.mem_of_getElem? (i := 1017) (by decide +kernel), List.mem_of_getElem? (i := 1315) (by decide +kernel), List.mem_of_getElem? (i := 1316) (by decide +kernel)⟩
theorem lw_p103 : lw_okq (⟨"PenThatJumpsModel", "asksOf", "(IIIIZIZ)V"⟩, 43) := ⟨⟨by decide +kernel, by decide +kernel⟩, List.mem_of_getElem? (i := 1017) (by decide +kernel), List.mem_of_getElem? (i := 1319) (by decide +kernel), List.mem_of_getElem? (i := 1320) (by decide +kernel)⟩
theorem lw_p104 : lw_okq (⟨"PenThatJumpsModel", "jumpOf", "(II)I"⟩, 43) := ⟨⟨by decide +kernel, by decide +kernel⟩, List.mem_of_getElem? (i := 1017) (by decide +kernel), List.mem_of_getElem? (i := 1328) (by decide +kernel), List.mem_of_getElem? (i := 1329) (by decide +kernel)⟩
theorem lw_p105 : lw_okq (⟨"PenThatJumpsModel", "worthOf", "(I)I"⟩, 43) := ⟨⟨by decide +kernel, by decide +kernel⟩, List.mem_of_getElem? (i := 1017) (by decide +kernel), List.mem_of_getElem? (i := 1332) (by decide +kernel), List.mem_of_getElem? (i := 1333) (by decide +kernel)⟩
theorem lw_p106 : lw_okq (⟨"PenThatJumpsModel", "isSitting", "(I)Z"⟩, 43) := ⟨⟨by decide +kernel, by decide +kernel⟩, List.mem_of_getElem? (i := 1017) (by decide +kernel), List.mem_of_getElem? (i := 1343) (by decide +kernel), List.mem_of_getElem? (i := 1344) (by decide +kernel)⟩
theorem lw_p107 : lw_okq (⟨"PenThatJumpsModel", "doesSay", "(III)Z"⟩, 43) := ⟨⟨by decide +kernel, by decide +kernel⟩, List.mem_of_getElem? (i := 1017) (by decide +kernel), List.mem_of_getElem? (i := 1357) (by decide +kernel), List.mem_of_getElem? (i := 1358) (by decide +kernel)⟩
theorem lw_p108 : lw_okq (⟨"PenThatJumpsModel", "findReadings", "(II)V"⟩, 43) := ⟨⟨by decide +kernel, by decide +kernel⟩, List.mem_of_getElem? (i := 1017) (by decide +kernel), List.mem_of_getElem? (i := 1361) (by decide +kernel), List.mem_of_getElem? (i := 1362) (by decide +kernel)⟩
theorem lw_p109 : lw_okq (⟨"PenThatJumpsModel", "areRates", "(IIII)Z"⟩, 43) := ⟨⟨by decide +kernel, by decide +kernel⟩, List.mem_of_getElem? (i := 1017) (by decide +kernel), List.mem_of_getElem? (i := 1377) (by decide +kernel), List.mem_of_getElem? (i := 1378) (by decide +kernel)⟩
theorem lw_p110 : lw_okq (⟨"PenThatJumpsModel", "findRates", "(IIII)V"⟩, 43) := ⟨⟨by decide +kernel, by decide +kernel⟩, List.mem_of_getElem? (i := 1017) (by decide +kernel), List.mem_of_getElem? (i := 1381) (by decide +kernel), List.mem_of_getElem? (i := 1382) (by decide +kernel)⟩
theorem lw_p111 : lw_okq (⟨"PenThatJumpsModel", "apartOf", "(III)I"⟩, 43) := ⟨⟨by decide +kernel, by decide +kernel⟩, List.mem_of_getElem? (i := 1017) (by decide +kernel), List.mem_of_getElem? (i := 1396) (by decide +kernel), List.mem_of_getElem? (i := 1397) (by decide +kernel)⟩
def lw_privs_7 : List (MethodName × Nat) := [(⟨"PenThatJumpsModel", "factHere", "()I"⟩, 43), (⟨"PenThatJumpsModel", "emit", "(II)V"⟩, 43), (⟨"PenThatJumpsModel", "hasSign", "(I)Z"⟩, 43), (⟨"PenThatJumpsModel", "keepsCodes", "(I)V"⟩, 43), (⟨"PenThatJumpsModel", "isPerson", "(I)Z"⟩, 43), (⟨"PenThatJumpsModel", "sits", "(IIIIZ)V"⟩, 43), (⟨"PenThatJumpsModel", "habitOf", "(II)I"⟩, 43), (⟨"PenThatJumpsModel", "asksOf", "(IIIIZIZ)V"⟩, 43), (⟨"PenThatJumpsModel", "jumpOf", "(II)I"⟩, 43), (⟨"PenThatJumpsModel", "worthOf", "(I)I"⟩, 43), (⟨"PenThatJumpsModel", "isSitting", "(I)Z"⟩, 43), (⟨"PenThatJumpsModel", "doesSay", "(III)Z"⟩, 43), (⟨"PenThatJumpsModel", "findReadings", "(II)V"⟩, 43), (⟨"PenThatJumpsModel", "areRates", "(IIII)Z"⟩, 43), (⟨"PenThatJumpsModel", "findRates", "(IIII)V"⟩, 43), (⟨"PenThatJumpsModel", "apartOf", "(III)I"⟩, 43)]
theorem lw_r7 : ∀ q ∈ lw_privs_7, lw_okq q := List.forall_mem_cons.mpr ⟨lw_p96, List.forall_mem_cons.mpr ⟨lw_p97, List.forall_mem_cons.mpr ⟨lw_p98, List.forall_mem_cons.mpr ⟨lw_p99, List.forall_mem_cons.mpr ⟨lw_p100, List.forall_mem_cons.mpr ⟨lw_p101, List.forall_mem_cons.mpr ⟨lw_p102, List.forall_mem_cons.mpr ⟨lw_p103, List.forall_mem_cons.mpr ⟨lw_p104, List.forall_mem_cons.mpr ⟨lw_p105, List.forall_mem_cons.mpr ⟨lw_p106, List.forall_mem_cons.mpr ⟨lw_p107, List.forall_mem_cons.mpr ⟨lw_p108, List.forall_mem_cons.mpr ⟨lw_p109, List.forall_mem_cons.mpr ⟨lw_p110, List.forall_mem_cons.mpr ⟨lw_p111, fun _ h => absurd h List.not_mem_nil⟩⟩⟩⟩⟩⟩⟩⟩⟩⟩⟩⟩⟩⟩⟩⟩
theorem lw_p112 : lw_okq (⟨"PenThatJumpsModel", "minutesOf", "(II)I"⟩, 43) := ⟨⟨by decide +kernel, by decide +kernel⟩, List.mem_of_getElem? (i := 1017) (by decide +kernel), List.mem_of_getElem? (i := 1408) (by decide +kernel), List.mem_of_getElem? (i := 1409) (by decide +kernel)⟩
theorem lw_p113 : lw_okq (⟨"PenThatJumpsModel", "powerOf", "(III)I"⟩, 43) := ⟨⟨by decide +kernel, by decide +kernel⟩, List.mem_of_getElem? (i := 1017) (by decide +kernel), List.mem_of_getElem? (i := 1412) (by decide +kernel), List.mem_of_getElem? (i := 1413) (by decide +kernel)⟩
theorem lw_p114 : lw_okq (⟨"PenThatJumpsModel", "confessedOf", "(III)J"⟩, 43) := ⟨⟨by decide +kernel, by decide +kernel⟩, List.mem_of_getElem? (i := 1017) (by decide +kernel), List.mem_of_getElem? (i := 1450) (by decide +kernel), List.mem_of_getElem? (i := 1451) (by decide +kernel)⟩
def lw_privs_8 : List (MethodName × Nat) := [(⟨"PenThatJumpsModel", "minutesOf", "(II)I"⟩, 43), (⟨"PenThatJumpsModel", "powerOf", "(III)I"⟩, 43), (⟨"PenThatJumpsModel", "confessedOf", "(III)J"⟩, 43)]
theorem lw_r8 : ∀ q ∈ lw_privs_8, lw_okq q := List.forall_mem_cons.mpr ⟨lw_p112, List.forall_mem_cons.mpr ⟨lw_p113, List.forall_mem_cons.mpr ⟨lw_p114, fun _ h => absurd h List.not_mem_nil⟩⟩⟩
def lw_privs : List (MethodName × Nat) := lw_privs_1 ++ (lw_privs_2 ++ (lw_privs_3 ++ (lw_privs_4 ++ (lw_privs_5 ++ (lw_privs_6 ++ (lw_privs_7 ++ (lw_privs_8)))))))
def lw_tbl : List Cond := k2_sels lw_privs ++ tables_1
theorem lw_privs_ok : ∀ q ∈ lw_privs, lw_okq q := by
  show ∀ q ∈ lw_privs_1 ++ (lw_privs_2 ++ (lw_privs_3 ++ (lw_privs_4 ++ (lw_privs_5 ++ (lw_privs_6 ++ (lw_privs_7 ++ (lw_privs_8))))))), lw_okq q
  exact List.forall_mem_append.mpr ⟨lw_r1, List.forall_mem_append.mpr ⟨lw_r2, List.forall_mem_append.mpr ⟨lw_r3, List.forall_mem_append.mpr ⟨lw_r4, List.forall_mem_append.mpr ⟨lw_r5, List.forall_mem_append.mpr ⟨lw_r6, List.forall_mem_append.mpr ⟨lw_r7, lw_r8⟩⟩⟩⟩⟩⟩⟩
-- ===== end of PART A; then your names; then what follows =====
end
section
/-! names, by program out of the names that TURN printed of the class -/
def T_0 : u_T := fun k => match k with
  | 0 => ("PenThatJumps$Chair", "law", "LPenThatJumps$Program;", true)
  | 1 => ("PenThatJumps$Chair", "facts", "[I", true)
  | 2 => ("PenThatJumps$Chair", "lines", "[I", true)
  | _ => ("PenThatJumps$Chair", "trueItem", "I", false)
def ty_0 : Nat → FieldType := fun k => match k with
  | 0 => .object "PenThatJumps$Program"
  | 1 => .array .int
  | 2 => .array .int
  | _ => .int
def T_1 : u_T := fun k => match k with
  | _ => ("PenThatJumps$Judge", "facts", "[I", true)
def ty_1 : Nat → FieldType := fun k => match k with
  | _ => .array .int
def T_2 : u_T := fun k => match k with
  | 0 => ("PenThatJumps$Parser", "tape", "LPenThatJumps$Tape;", true)
  | 1 => ("PenThatJumps$Parser", "plan", "LPenThatJumps$Plan;", true)
  | 2 => ("PenThatJumps$Parser", "program", "LPenThatJumps$Program;", true)
  | 3 => ("PenThatJumps$Parser", "ofReader", "Z", false)
  | 4 => ("PenThatJumps$Parser", "fault", "I", false)
  | 5 => ("PenThatJumps$Parser", "at", "I", false)
  | 6 => ("PenThatJumps$Parser", "code", "I", false)
  | 7 => ("PenThatJumps$Parser", "place", "I", false)
  | _ => ("PenThatJumps$Parser", "word", "LPenThatJumps$Word;", false)
def ty_2 : Nat → FieldType := fun k => match k with
  | 0 => .object "PenThatJumps$Tape"
  | 1 => .object "PenThatJumps$Plan"
  | 2 => .object "PenThatJumps$Program"
  | 3 => .boolean
  | 4 => .int
  | 5 => .int
  | 6 => .int
  | 7 => .int
  | _ => .object "PenThatJumps$Word"
def T_3 : u_T := fun k => match k with
  | 0 => ("PenThatJumps$Person", "told", "Z", false)
  | 1 => ("PenThatJumps$Person", "fear", "I", false)
  | 2 => ("PenThatJumps$Person", "done", "Z", false)
  | 3 => ("PenThatJumps$Person", "heard", "I", false)
  | _ => ("PenThatJumps$Person", "trick", "Z", false)
def ty_3 : Nat → FieldType := fun k => match k with
  | 0 => .boolean
  | 1 => .int
  | 2 => .boolean
  | 3 => .int
  | _ => .boolean
def T_4 : u_T := fun k => match k with
  | 0 => ("PenThatJumps$Plan", "kinds", "[I", true)
  | 1 => ("PenThatJumps$Plan", "known", "[I", true)
  | 2 => ("PenThatJumps$Plan", "spans", "[I", true)
  | _ => ("PenThatJumps$Plan", "size", "I", false)
def ty_4 : Nat → FieldType := fun k => match k with
  | 0 => .array .int
  | 1 => .array .int
  | 2 => .array .int
  | _ => .int
def T_5 : u_T := fun k => match k with
  | 0 => ("PenThatJumps$Planner", "spreads", "[I", true)
  | 1 => ("PenThatJumps$Planner", "chosen", "[I", true)
  | 2 => ("PenThatJumps$Planner", "power", "I", false)
  | 3 => ("PenThatJumps$Planner", "bits", "I", false)
  | _ => ("PenThatJumps$Planner", "minutes", "I", false)
def ty_5 : Nat → FieldType := fun k => match k with
  | 0 => .array .int
  | 1 => .array .int
  | 2 => .int
  | 3 => .int
  | _ => .int
def T_6 : u_T := fun k => match k with
  | 0 => ("PenThatJumps$Program", "steps", "[I", false)
  | 1 => ("PenThatJumps$Program", "size", "I", false)
  | 2 => ("PenThatJumps$Program", "lines", "I", false)
  | 3 => ("PenThatJumps$Program", "starts", "[I", true)
  | 4 => ("PenThatJumps$Program", "ends", "[I", true)
  | _ => ("PenThatJumps$Program", "stack", "[I", true)
def ty_6 : Nat → FieldType := fun k => match k with
  | 0 => .array .int
  | 1 => .int
  | 2 => .int
  | 3 => .array .int
  | 4 => .array .int
  | _ => .array .int
def T_7 : u_T := fun k => match k with
  | 0 => ("PenThatJumps$Sitting", "asked", "LPenThatJumps$Plan;", true)
  | 1 => ("PenThatJumps$Sitting", "jumps", "[I", true)
  | _ => ("PenThatJumps$Sitting", "trueItem", "I", false)
def ty_7 : Nat → FieldType := fun k => match k with
  | 0 => .object "PenThatJumps$Plan"
  | 1 => .array .int
  | _ => .int
def T_8 : u_T := fun k => match k with
  | 0 => ("PenThatJumps$Tally", "laid", "Z", false)
  | 1 => ("PenThatJumps$Tally", "sittings", "I", false)
  | 2 => ("PenThatJumps$Tally", "confessions", "[I", true)
  | 3 => ("PenThatJumps$Tally", "askedBySellers", "I", false)
  | 4 => ("PenThatJumps$Tally", "rightBySellers", "I", false)
  | 5 => ("PenThatJumps$Tally", "askedByOthers", "I", false)
  | _ => ("PenThatJumps$Tally", "rightByOthers", "I", false)
def ty_8 : Nat → FieldType := fun k => match k with
  | 0 => .boolean
  | 1 => .int
  | 2 => .array .int
  | 3 => .int
  | 4 => .int
  | 5 => .int
  | _ => .int
def T_9 : u_T := fun k => match k with
  | 0 => ("PenThatJumps$Tape", "signs", "[C", true)
  | 1 => ("PenThatJumps$Tape", "size", "I", false)
  | 2 => ("PenThatJumps$Tape", "codes", "[I", true)
  | 3 => ("PenThatJumps$Tape", "places", "[I", true)
  | _ => ("PenThatJumps$Tape", "tokens", "I", false)
def ty_9 : Nat → FieldType := fun k => match k with
  | 0 => .array .char
  | 1 => .int
  | 2 => .array .int
  | 3 => .array .int
  | _ => .int
def T_10 : u_T := fun k => match k with
  | 0 => ("PenThatJumps", "persons", "[LPenThatJumps$Person;", true)
  | 1 => ("PenThatJumps", "plans", "[LPenThatJumps$Plan;", true)
  | 2 => ("PenThatJumps", "readers", "[LPenThatJumps$Program;", true)
  | 3 => ("PenThatJumps", "sittings", "[LPenThatJumps$Sitting;", true)
  | 4 => ("PenThatJumps", "now", "LPenThatJumps$Tally;", true)
  | 5 => ("PenThatJumps", "marks", "[LPenThatJumps$Tally;", true)
  | 6 => ("PenThatJumps", "parser", "LPenThatJumps$Parser;", true)
  | 7 => ("PenThatJumps", "chair", "LPenThatJumps$Chair;", true)
  | 8 => ("PenThatJumps", "judge", "LPenThatJumps$Judge;", true)
  | 9 => ("PenThatJumps", "planner", "LPenThatJumps$Planner;", true)
  | 10 => ("PenThatJumps", "trial", "LPenThatJumps$Sitting;", true)
  | 11 => ("PenThatJumps", "doer", "LPenThatJumps$Person;", true)
  | 12 => ("PenThatJumps", "other", "LPenThatJumps$Person;", true)
  | 13 => ("PenThatJumps", "jumpsOfOne", "[I", true)
  | 14 => ("PenThatJumps", "jumpsOfTwo", "[I", true)
  | _ => ("PenThatJumps", "rateRow", "[I", true)
def ty_10 : Nat → FieldType := fun k => match k with
  | 0 => .array (.object "PenThatJumps$Person")
  | 1 => .array (.object "PenThatJumps$Plan")
  | 2 => .array (.object "PenThatJumps$Program")
  | 3 => .array (.object "PenThatJumps$Sitting")
  | 4 => .object "PenThatJumps$Tally"
  | 5 => .array (.object "PenThatJumps$Tally")
  | 6 => .object "PenThatJumps$Parser"
  | 7 => .object "PenThatJumps$Chair"
  | 8 => .object "PenThatJumps$Judge"
  | 9 => .object "PenThatJumps$Planner"
  | 10 => .object "PenThatJumps$Sitting"
  | 11 => .object "PenThatJumps$Person"
  | 12 => .object "PenThatJumps$Person"
  | 13 => .array .int
  | 14 => .array .int
  | _ => .array .int
def T_11 : u_T := fun k => match k with
  | 0 => ("PenThatJumpsModel", "thrown", "I", false)
  | 1 => ("PenThatJumpsModel", "tape", "[I", true)
  | 2 => ("PenThatJumpsModel", "taped", "I", false)
  | 3 => ("PenThatJumpsModel", "size", "I", false)
  | 4 => ("PenThatJumpsModel", "sort", "[I", true)
  | 5 => ("PenThatJumpsModel", "place", "[I", true)
  | 6 => ("PenThatJumpsModel", "value", "[J", true)
  | 7 => ("PenThatJumpsModel", "at", "I", false)
  | 8 => ("PenThatJumpsModel", "fault", "I", false)
  | 9 => ("PenThatJumpsModel", "words", "[J", true)
  | 10 => ("PenThatJumpsModel", "isTold", "[Z", true)
  | 11 => ("PenThatJumpsModel", "fear", "[I", true)
  | 12 => ("PenThatJumpsModel", "isDone", "[Z", true)
  | 13 => ("PenThatJumpsModel", "heard", "[I", true)
  | 14 => ("PenThatJumpsModel", "doesTrick", "[Z", true)
  | 15 => ("PenThatJumpsModel", "trueItem", "I", false)
  | 16 => ("PenThatJumpsModel", "asks", "[I", true)
  | 17 => ("PenThatJumpsModel", "kind", "[I", true)
  | 18 => ("PenThatJumpsModel", "itemOf", "[I", true)
  | 19 => ("PenThatJumpsModel", "minutes", "[I", true)
  | 20 => ("PenThatJumpsModel", "codes", "I", false)
  | 21 => ("PenThatJumpsModel", "isReader", "Z", false)
  | 22 => ("PenThatJumpsModel", "op", "[I", true)
  | 23 => ("PenThatJumpsModel", "one", "[I", true)
  | 24 => ("PenThatJumpsModel", "lineAt", "[I", true)
  | 25 => ("PenThatJumpsModel", "readLineAt", "[I", true)
  | 26 => ("PenThatJumpsModel", "says", "[I", true)
  | 27 => ("PenThatJumpsModel", "saysAt", "[I", true)
  | 28 => ("PenThatJumpsModel", "facts", "[I", true)
  | 29 => ("PenThatJumpsModel", "pile", "[I", true)
  | 30 => ("PenThatJumpsModel", "sittings", "I", false)
  | 31 => ("PenThatJumpsModel", "satAsks", "[I", true)
  | 32 => ("PenThatJumpsModel", "satItem", "[I", true)
  | 33 => ("PenThatJumpsModel", "satKind", "[I", true)
  | 34 => ("PenThatJumpsModel", "satOf", "[I", true)
  | 35 => ("PenThatJumpsModel", "jumps", "[I", true)
  | 36 => ("PenThatJumpsModel", "rate", "[I", true)
  | 37 => ("PenThatJumpsModel", "habits", "[I", true)
  | 38 => ("PenThatJumpsModel", "confessed", "[J", true)
  | 39 => ("PenThatJumpsModel", "papers", "[J", true)
  | 40 => ("PenThatJumpsModel", "isMarked", "[Z", true)
  | 41 => ("PenThatJumpsModel", "markSittings", "[I", true)
  | _ => ("PenThatJumpsModel", "markOf", "[J", true)
def ty_11 : Nat → FieldType := fun k => match k with
  | 0 => .int
  | 1 => .array .int
  | 2 => .int
  | 3 => .int
  | 4 => .array .int
  | 5 => .array .int
  | 6 => .array .long
  | 7 => .int
  | 8 => .int
  | 9 => .array .long
  | 10 => .array .boolean
  | 11 => .array .int
  | 12 => .array .boolean
  | 13 => .array .int
  | 14 => .array .boolean
  | 15 => .int
  | 16 => .array .int
  | 17 => .array .int
  | 18 => .array .int
  | 19 => .array .int
  | 20 => .int
  | 21 => .boolean
  | 22 => .array .int
  | 23 => .array .int
  | 24 => .array .int
  | 25 => .array .int
  | 26 => .array .int
  | 27 => .array .int
  | 28 => .array .int
  | 29 => .array .int
  | 30 => .int
  | 31 => .array .int
  | 32 => .array .int
  | 33 => .array .int
  | 34 => .array .int
  | 35 => .array .int
  | 36 => .array .int
  | 37 => .array .int
  | 38 => .array .long
  | 39 => .array .long
  | 40 => .array .boolean
  | 41 => .array .int
  | _ => .array .long
def T_12 : u_T := fun _ => ("", "", "", false)
def ty_12 : Nat → FieldType := fun _ => .int
def clT : List vw_C := [("PenThatJumps$Chair", T_0, 4), ("PenThatJumps$Judge", T_1, 1), ("PenThatJumps$Parser", T_2, 9), ("PenThatJumps$Person", T_3, 5), ("PenThatJumps$Plan", T_4, 4), ("PenThatJumps$Planner", T_5, 5), ("PenThatJumps$Program", T_6, 6), ("PenThatJumps$Sitting", T_7, 3), ("PenThatJumps$Tally", T_8, 7), ("PenThatJumps$Tape", T_9, 5), ("PenThatJumps", T_10, 16), ("PenThatJumpsModel", T_11, 43), ("java/util/NoSuchElementException", T_12, 0)]
def tyT : List (Nat → FieldType) := [ty_0, ty_1, ty_2, ty_3, ty_4, ty_5, ty_6, ty_7, ty_8, ty_9, ty_10, ty_11, ty_12]
def cnT : List String := ["PenThatJumps$Chair", "PenThatJumps$Judge", "PenThatJumps$Parser", "PenThatJumps$Person", "PenThatJumps$Plan", "PenThatJumps$Planner", "PenThatJumps$Program", "PenThatJumps$Sitting", "PenThatJumps$Tally", "PenThatJumps$Tape", "PenThatJumps", "PenThatJumpsModel", "java/util/NoSuchElementException", "PenThatJumpsLaw", "java/lang/Math", "java/lang/String", "java/lang/StringLatin1", "java/lang/StringUTF16", "java/util/Arrays", "jdk/internal/util/Preconditions"]
/-- links of fields: whose pool, its row, class, field, whether of a nest mate -/
def flT : List (Nat × Nat × Nat × Nat × Nat) := [(10, 310, 8, 0, 1), (8, 13, 8, 1, 0), (10, 173, 8, 1, 1), (8, 7, 8, 2, 0), (8, 17, 8, 3, 0), (10, 293, 8, 3, 1), (8, 20, 8, 4, 0), (10, 301, 8, 4, 1), (8, 23, 8, 5, 0), (10, 296, 8, 5, 1), (8, 26, 8, 6, 0), (10, 304, 8, 6, 1), (9, 9, 9, 0, 0), (9, 20, 9, 1, 0), (10, 121, 9, 1, 1), (9, 13, 9, 2, 0), (2, 93, 9, 2, 1), (9, 17, 9, 3, 0), (2, 97, 9, 3, 1), (9, 24, 9, 4, 0), (2, 90, 9, 4, 1), (4, 9, 4, 0, 0), (4, 15, 4, 1, 0), (4, 18, 4, 2, 0), (4, 21, 4, 3, 0), (0, 27, 4, 3, 1), (1, 27, 4, 3, 1), (5, 18, 4, 3, 1), (7, 30, 4, 3, 1), (2, 75, 4, 3, 1), (10, 194, 4, 3, 1), (6, 19, 6, 0, 0), (6, 22, 6, 1, 0), (6, 26, 6, 2, 0), (1, 56, 6, 2, 1), (2, 148, 6, 2, 1), (10, 323, 6, 2, 1), (6, 9, 6, 3, 0), (6, 13, 6, 4, 0), (6, 16, 6, 5, 0), (2, 12, 2, 0, 0), (10, 111, 2, 0, 1), (2, 21, 2, 1, 0), (10, 131, 2, 1, 1), (2, 30, 2, 2, 0), (10, 146, 2, 2, 1), (2, 71, 2, 3, 0), (2, 57, 2, 4, 0), (2, 81, 2, 5, 0), (2, 87, 2, 6, 0), (2, 100, 2, 7, 0), (2, 40, 2, 8, 0), (0, 14, 0, 0, 0), (10, 142, 0, 0, 1), (0, 20, 0, 1, 0), (0, 24, 0, 2, 0), (10, 107, 0, 3, 1), (0, 56, 0, 3, 0), (1, 11, 1, 0, 0), (5, 9, 5, 0, 0), (5, 15, 5, 1, 0), (5, 38, 5, 2, 0), (10, 254, 5, 2, 1), (5, 41, 5, 3, 0), (10, 257, 5, 3, 1), (5, 44, 5, 4, 0), (10, 260, 5, 4, 1), (7, 12, 7, 0, 0), (1, 21, 7, 0, 1), (10, 191, 7, 0, 1), (7, 18, 7, 1, 0), (7, 26, 7, 2, 0), (1, 48, 7, 2, 1), (3, 7, 3, 0, 0), (10, 326, 3, 0, 1), (3, 13, 3, 1, 0), (0, 68, 3, 1, 1), (10, 226, 3, 1, 1), (3, 17, 3, 2, 0), (0, 64, 3, 2, 1), (10, 229, 3, 2, 1), (3, 20, 3, 3, 0), (0, 59, 3, 3, 1), (10, 233, 3, 3, 1), (3, 23, 3, 4, 0), (0, 71, 3, 4, 1), (10, 11, 10, 0, 0), (10, 17, 10, 1, 0), (10, 23, 10, 2, 0), (10, 29, 10, 3, 0), (10, 36, 10, 4, 0), (10, 40, 10, 5, 0), (10, 47, 10, 6, 0), (10, 54, 10, 7, 0), (10, 61, 10, 8, 0), (10, 68, 10, 9, 0), (10, 73, 10, 10, 0), (10, 78, 10, 11, 0), (10, 82, 10, 12, 0), (10, 85, 10, 13, 0), (10, 89, 10, 14, 0), (10, 92, 10, 15, 0), (11, 1, 11, 0, 0), (11, 14, 11, 1, 0), (11, 11, 11, 2, 0), (11, 175, 11, 3, 0), (11, 24, 11, 4, 0), (11, 27, 11, 5, 0), (11, 30, 11, 6, 0), (11, 194, 11, 7, 0), (11, 197, 11, 8, 0), (11, 80, 11, 9, 0), (11, 83, 11, 10, 0), (11, 87, 11, 11, 0), (11, 90, 11, 12, 0), (11, 93, 11, 13, 0), (11, 96, 11, 14, 0), (11, 217, 11, 15, 0), (11, 99, 11, 16, 0), (11, 102, 11, 17, 0), (11, 105, 11, 18, 0), (11, 108, 11, 19, 0), (11, 236, 11, 20, 0), (11, 239, 11, 21, 0), (11, 111, 11, 22, 0), (11, 114, 11, 23, 0), (11, 117, 11, 24, 0), (11, 120, 11, 25, 0), (11, 123, 11, 26, 0), (11, 126, 11, 27, 0), (11, 129, 11, 28, 0), (11, 132, 11, 29, 0), (11, 310, 11, 30, 0), (11, 135, 11, 31, 0), (11, 138, 11, 32, 0), (11, 141, 11, 33, 0), (11, 144, 11, 34, 0), (11, 147, 11, 35, 0), (11, 150, 11, 36, 0), (11, 153, 11, 37, 0), (11, 156, 11, 38, 0), (11, 159, 11, 39, 0), (11, 162, 11, 40, 0), (11, 165, 11, 41, 0), (11, 168, 11, 42, 0)]
def flP : List Nat := [163, 164, 165, 166, 167, 168, 169, 170, 171, 172, 173, 174, 204, 205, 206, 207, 208, 209, 210, 211, 212, 231, 232, 233, 234, 235, 236, 237, 238, 239, 240, 256, 257, 258, 259, 260, 261, 262, 263, 264, 280, 281, 282, 283, 284, 285, 286, 287, 288, 289, 290, 291, 319, 320, 321, 322, 323, 324, 340, 350, 351, 352, 353, 354, 355, 356, 357, 376, 377, 378, 379, 380, 381, 394, 395, 396, 397, 398, 399, 400, 401, 402, 403, 404, 405, 406, 420, 421, 422, 423, 424, 425, 426, 427, 428, 429, 430, 431, 432, 433, 434, 435, 1162, 1163, 1164, 1165, 1166, 1167, 1168, 1169, 1170, 1171, 1172, 1173, 1174, 1175, 1176, 1177, 1178, 1179, 1180, 1181, 1182, 1183, 1184, 1185, 1186, 1187, 1188, 1189, 1190, 1191, 1192, 1193, 1194, 1195, 1196, 1197, 1198, 1199, 1200, 1201, 1202, 1203, 1204]
def cnm (c : Nat) : String := cnT.getD c ""
def clk (c : Nat) : vw_C := clT.getD c ("", T_12, 0)
def flw (q : Nat × Nat × Nat × Nat × Nat) : Cond := if q.2.2.2.2 = 0 then .fieldLink (cnm q.1) q.2.1 ((clk q.2.2.1).2.1 q.2.2.2.1).1 ((clk q.2.2.1).2.1 q.2.2.2.1).2.1 ((clk q.2.2.1).2.1 q.2.2.2.1).2.2.1 else .fieldLinkNest (cnm q.1) q.2.1 ((clk q.2.2.1).2.1 q.2.2.2.1).1 ((clk q.2.2.1).2.1 q.2.2.2.1).2.1 ((clk q.2.2.1).2.1 q.2.2.2.1).2.2.1 "PenThatJumps"
/-- the places of the words that lay the fields -/
def layP : List (List Nat) := [[325, 327, 329, 331], [341], [292, 294, 296, 298, 300, 302, 304, 306, 308], [407, 409, 411, 413, 415], [241, 243, 245, 247], [358, 360, 362, 364, 366], [265, 267, 269, 271, 273, 275], [382, 384, 386], [175, 177, 179, 181, 183, 185, 187], [213, 215, 217, 219, 221], [436, 438, 440, 442, 444, 446, 448, 450, 452, 454, 456, 458, 460, 462, 464, 466], [1205, 1207, 1209, 1211, 1213, 1215, 1217, 1219, 1221, 1223, 1225, 1227, 1229, 1231, 1233, 1235, 1237, 1239, 1241, 1243, 1245, 1247, 1249, 1251, 1253, 1255, 1257, 1259, 1261, 1263, 1265, 1267, 1269, 1271, 1273, 1275, 1277, 1279, 1281, 1283, 1285, 1287, 1289], []]
def tyk (c k : Nat) : FieldType := (tyT.getD c ty_12) k
end
section
set_option maxRecDepth 100000 in
theorem lay_all : (List.range 13).all (fun c => (List.range (clk c).2.2).all (fun k => decide (lw_tbl[(layP.getD c []).getD k 0]? = some (u_lay (clk c).1 (clk c).2.1 k)))) = true := by decide +kernel
set_option maxRecDepth 100000 in
theorem tyk_ok : ∀ c, c < 13 → ∀ k, k < (clk c).2.2 → parseFieldDescriptor ((clk c).2.1 k).2.2.1 = some (tyk c k) := by decide +kernel
set_option maxRecDepth 100000 in
theorem nmk_ok : ∀ c, c < 13 → ∀ a, a < (clk c).2.2 → ∀ b, b < (clk c).2.2 → a ≠ b → ((clk c).2.1 a).2.1 ≠ ((clk c).2.1 b).2.1 := by decide +kernel
end
section
/-! THE SMALL MACHINE: a pure machine for the instructions that the class, the law and the reference use, over a heap of plain functions. References are numbers (0: null), cells have kinds. -/
abbrev AH : Type := (Nat → Nat → Int32) × (Nat → Nat → Int64) × (Nat → Nat → Nat) × (Nat → Nat) × (Nat → Nat) × Nat × Nat
def hI (h : AH) : Nat → Nat → Int32 := h.1
def hJ (h : AH) : Nat → Nat → Int64 := h.2.1
def hR (h : AH) : Nat → Nat → Nat := h.2.2.1
def hK (h : AH) : Nat → Nat := h.2.2.2.1
def hN (h : AH) : Nat → Nat := h.2.2.2.2.1
def hz (h : AH) : Nat := h.2.2.2.2.2.1
def hu (h : AH) : Nat := h.2.2.2.2.2.2
def upq {α : Type} (f : Nat → Nat → α) (a j : Nat) (v : α) : Nat → Nat → α := fun x y => if x = a then (if y = j then v else f x y) else f x y
def upr {α : Type} (f : Nat → α) (a : Nat) (v : α) : Nat → α := fun x => if x = a then v else f x
def sI (h : AH) (a j : Nat) (v : Int32) : AH := (upq h.1 a j v, h.2)
def sJ (h : AH) (a j : Nat) (v : Int64) : AH := (h.1, upq h.2.1 a j v, h.2.2)
def sR (h : AH) (a j : Nat) (v : Nat) : AH := (h.1, h.2.1, upq h.2.2.1 a j v, h.2.2.2)
/-- a new cell of kind k and length n, of u slots, all zero -/
def mkC (h : AH) (k n u : Nat) : AH := (upr h.1 (hz h) (fun _ => 0), upr h.2.1 (hz h) (fun _ => 0), upr h.2.2.1 (hz h) (fun _ => 0), upr (hK h) (hz h) k, upr (hN h) (hz h) n, hz h + 1, hu h + u)
/-- the kinds of fields: 0 int, 1 boolean, 2 a reference -/
def fdT : List (List Nat) := [[2, 2, 2, 0], [2], [2, 2, 2, 1, 0, 0, 0, 0, 2], [1, 0, 1, 0, 1], [2, 2, 2, 0], [2, 2, 0, 0, 0], [2, 0, 0, 2, 2, 2], [2, 2, 0], [1, 0, 2, 0, 0, 0, 0], [2, 0, 2, 2, 0], [2, 2, 2, 2, 2, 2, 2, 2, 2, 2, 2, 2, 2, 2, 2, 2], [0, 2, 0, 0, 2, 2, 2, 0, 0, 2, 2, 2, 2, 2, 2, 0, 2, 2, 2, 2, 0, 1, 2, 2, 2, 2, 2, 2, 2, 2, 0, 2, 2, 2, 2, 2, 2, 2, 2, 2, 2, 2, 2], [], [], [], [], [], [], [], [], [], [], [], [], [], [], [], [], [], [], [], [], [], [], [], [], [], [], [], [], [2, 0, 0], [], [2, 0]]
def fdk (c k : Nat) : Nat := (fdT.getD c []).getD k 9
def fdn (c : Nat) : Nat := (fdT.getD c []).length
def ixo (i : Int32) (n : Nat) : Bool := decide (0 ≤ i) && decide (i.toNatClampNeg < n)
def i01 (x : Int32) : Bool := decide (x = 0) || decide (x = 1)
abbrev AS : Type := Nat × List Value × List Value × AH
/-- where it lies in the bytes, the instruction, what is resolved of it, the place of its word among the tables -/
abbrev IR : Type := Nat × Instr × List Nat × Nat
def cnd (c : ClassFile.Cond) (x y : Int32) : Bool := match c with
  | .eq => decide (x = y)
  | .ne => decide (¬ x = y)
  | .lt => decide (x < y)
  | .ge => decide (y ≤ x)
  | .gt => decide (y < x)
  | .le => decide (x ≤ y)
def guardo {α : Type} (b : Bool) (x : Option α) : Option α := if b = true then x else none
def ldI (L S : List Value) (h : AH) (i n : Nat) : Option AS := match L[n]? with
  | some (.int v) => some (i + 1, L, .int v :: S, h)
  | _ => none
def ldJ (L S : List Value) (h : AH) (i n : Nat) : Option AS := match L[n]?, L[n + 1]? with
  | some (.long v), some .null => some (i + 1, L, .long v :: S, h)
  | _, _ => none
def ldA (L S : List Value) (h : AH) (i n : Nat) : Option AS := match L[n]? with
  | some (.ref v) => some (i + 1, L, .ref v :: S, h)
  | _ => none
def stI (L S : List Value) (h : AH) (i n : Nat) : Option AS := match S with
  | .int v :: S => guardo (decide (n < L.length)) (some (i + 1, L.set n (.int v), S, h))
  | _ => none
def stJ (L S : List Value) (h : AH) (i n : Nat) : Option AS := match S with
  | .long v :: S => guardo (decide (n + 1 < L.length)) (some (i + 1, (L.set n (.long v)).set (n + 1) .null, S, h))
  | _ => none
def stA (L S : List Value) (h : AH) (i n : Nat) : Option AS := match S with
  | .ref v :: S => guardo (decide (n < L.length)) (some (i + 1, L.set n (.ref v), S, h))
  | _ => none
def biI (f : Int32 → Int32 → Int32) (L S : List Value) (h : AH) (i : Nat) : Option AS := match S with
  | .int y :: .int x :: S => some (i + 1, L, .int (f x y) :: S, h)
  | _ => none
def biJ (f : Int64 → Int64 → Int64) (L S : List Value) (h : AH) (i : Nat) : Option AS := match S with
  | .long y :: .long x :: S => some (i + 1, L, .long (f x y) :: S, h)
  | _ => none
def biS (f : Int64 → Int32 → Int64) (L S : List Value) (h : AH) (i : Nat) : Option AS := match S with
  | .int y :: .long x :: S => some (i + 1, L, .long (f x y) :: S, h)
  | _ => none
def aldI (k : List Nat) (L S : List Value) (h : AH) (i : Nat) : Option AS := match S with
  | .int x :: .ref a :: S => guardo (decide (hK h a ∈ k) && ixo x (hN h a)) (some (i + 1, L, .int (hI h a x.toNatClampNeg) :: S, h))
  | _ => none
/-- one step that is no call and no end; o: what is resolved of it -/
def stp (x : Instr) (o : List Nat) (i : Nat) (L S : List Value) (h : AH) : Option AS := match x with
  | .iconst v => some (i + 1, L, .int (Int32.ofInt v) :: S, h)
  | .bipush v => some (i + 1, L, .int (Int32.ofInt v) :: S, h)
  | .sipush v => some (i + 1, L, .int (Int32.ofInt v) :: S, h)
  | .lconst v => some (i + 1, L, .long (Int64.ofNat v.val) :: S, h)
  | .aconst_null => some (i + 1, L, .ref 0 :: S, h)
  | .ldc _ => match o with
    | [n] => some (i + 1, L, .int (Int32.ofNat n) :: S, h)
    | _ => none
  | .ldc_w _ => match o with
    | [n] => some (i + 1, L, .int (Int32.ofNat n) :: S, h)
    | _ => none
  | .ldc2_w _ => match o with
    | [n] => some (i + 1, L, .long (Int64.ofNat n) :: S, h)
    | [n, _] => some (i + 1, L, .long (-Int64.ofNat n) :: S, h)
    | _ => none
  | .iload n => ldI L S h i n
  | .iload_n n => ldI L S h i n.val
  | .lload n => ldJ L S h i n
  | .lload_n n => ldJ L S h i n.val
  | .aload n => ldA L S h i n
  | .aload_n n => ldA L S h i n.val
  | .istore n => stI L S h i n
  | .istore_n n => stI L S h i n.val
  | .lstore n => stJ L S h i n
  | .lstore_n n => stJ L S h i n.val
  | .astore n => stA L S h i n
  | .astore_n n => stA L S h i n.val
  | .iinc n c => match L[n]? with
    | some (.int v) => some (i + 1, L.set n (.int (v + Int32.ofInt c)), S, h)
    | _ => none
  | .iadd => biI (fun x y => x + y) L S h i
  | .isub => biI (fun x y => x - y) L S h i
  | .imul => biI (fun x y => x * y) L S h i
  | .iand => biI (fun x y => x &&& y) L S h i
  | .ior => biI (fun x y => x ||| y) L S h i
  | .ishl => biI (fun x y => x <<< (y &&& 31)) L S h i
  | .ishr => biI (fun x y => x >>> (y &&& 31)) L S h i
  | .idiv => match S with
    | .int y :: .int x :: S => guardo (decide (¬ y = 0)) (some (i + 1, L, .int (x / y) :: S, h))
    | _ => none
  | .irem => match S with
    | .int y :: .int x :: S => guardo (decide (¬ y = 0)) (some (i + 1, L, .int (x - x / y * y) :: S, h))
    | _ => none
  | .ineg => match S with
    | .int x :: S => some (i + 1, L, .int (-x) :: S, h)
    | _ => none
  | .ladd => biJ (fun x y => x + y) L S h i
  | .lsub => biJ (fun x y => x - y) L S h i
  | .lmul => biJ (fun x y => x * y) L S h i
  | .land => biJ (fun x y => x &&& y) L S h i
  | .lor => biJ (fun x y => x ||| y) L S h i
  | .lshl => biS (fun x y => x <<< (y.toInt64 &&& 63)) L S h i
  | .lshr => biS (fun x y => x >>> (y.toInt64 &&& 63)) L S h i
  | .lushr => biS (fun x y => (x.toUInt64 >>> (y.toInt64.toUInt64 &&& Int64.toUInt64 63)).toInt64) L S h i
  | .ldiv => match S with
    | .long y :: .long x :: S => guardo (decide (¬ y = 0)) (some (i + 1, L, .long (x / y) :: S, h))
    | _ => none
  | .lrem => match S with
    | .long y :: .long x :: S => guardo (decide (¬ y = 0)) (some (i + 1, L, .long (x - x / y * y) :: S, h))
    | _ => none
  | .lneg => match S with
    | .long x :: S => some (i + 1, L, .long (-x) :: S, h)
    | _ => none
  | .lcmp => match S with
    | .long y :: .long x :: S => some (i + 1, L, .int (lg_cmp x y) :: S, h)
    | _ => none
  | .i2l => match S with
    | .int x :: S => some (i + 1, L, .long x.toInt64 :: S, h)
    | _ => none
  | .l2i => match S with
    | .long x :: S => some (i + 1, L, .int x.toInt32 :: S, h)
    | _ => none
  | .i2c => match S with
    | .int x :: S => some (i + 1, L, .int (x.toUInt32 % 65536).toInt32 :: S, h)
    | _ => none
  | .dup => match S with
    | .int v :: S => some (i + 1, L, .int v :: .int v :: S, h)
    | .ref v :: S => some (i + 1, L, .ref v :: .ref v :: S, h)
    | _ => none
  | .dup2 => match S with
    | .int v :: .ref w :: S => some (i + 1, L, .int v :: .ref w :: .int v :: .ref w :: S, h)
    | .long v :: S => some (i + 1, L, .long v :: .long v :: S, h)
    | _ => none
  | .goto _ => match o with
    | [t] => some (t, L, S, h)
    | _ => none
  | .ifCond c _ => match o, S with
    | [t], .int x :: S => if cnd c x 0 = true then some (t, L, S, h) else some (i + 1, L, S, h)
    | _, _ => none
  | .if_icmp c _ => match o, S with
    | [t], .int y :: .int x :: S => if cnd c x y = true then some (t, L, S, h) else some (i + 1, L, S, h)
    | _, _ => none
  | .if_acmp c _ => match o, S with
    | [t], .ref y :: .ref x :: S => guardo (decide (2 ≤ x ∧ x ≤ 25 ∧ 2 ≤ y ∧ y ≤ 25)) (match c with
      | .eq => if x = y then some (t, L, S, h) else some (i + 1, L, S, h)
      | .ne => if x = y then some (i + 1, L, S, h) else some (t, L, S, h))
    | _, _ => none
  | .ifnull _ => match o, S with
    | [t], .ref x :: S => guardo (decide (x = 0 ∨ 100 ≤ x)) (if x = 0 then some (t, L, S, h) else some (i + 1, L, S, h))
    | _, _ => none
  | .ifnonnull _ => match o, S with
    | [t], .ref x :: S => guardo (decide (x = 0 ∨ 100 ≤ x)) (if x = 0 then some (i + 1, L, S, h) else some (t, L, S, h))
    | _, _ => none
  | .pop => match S with
    | .int _ :: S => some (i + 1, L, S, h)
    | _ => none
  | .checkcast _ => match S with
    | .ref a :: S => guardo (decide (hK h a = 20)) (some (i + 1, L, .ref a :: S, h))
    | _ => none
  | .tableswitch _ lo _ _ => match o, S with
    | d :: ts, .int x :: S => if x.toInt < lo ∨ lo + ts.length ≤ x.toInt then some (d, L, S, h) else some (ts.getD (x.toInt - lo).toNat 0, L, S, h)
    | _, _ => none
  | .getfield _ => match o, S with
    | [c, k], .ref a :: S => guardo (decide (hK h a = c)) (if fdk c k = 2 then some (i + 1, L, .ref (hR h a k) :: S, h) else some (i + 1, L, .int (hI h a k) :: S, h))
    | _, _ => none
  | .putfield _ => match o, S with
    | [c, k], .ref v :: .ref a :: S => guardo (decide (hK h a = c) && decide (fdk c k = 2)) (some (i + 1, L, S, sR h a k v))
    | [c, k], .int v :: .ref a :: S => guardo (decide (hK h a = c) && (decide (fdk c k = 0) || decide (fdk c k = 1) && i01 v)) (some (i + 1, L, S, sI h a k v))
    | _, _ => none
  | .getstatic _ => match o with
    | [0, r] => some (i + 1, L, .ref r :: S, h)
    | [1, v] => some (i + 1, L, .int (Int32.ofNat v) :: S, h)
    | _ => none
  | .iaload => aldI [20, 44] L S h i
  | .caload => aldI [21] L S h i
  | .baload => aldI [22, 45] L S h i
  | .laload => match S with
    | .int x :: .ref a :: S => guardo (decide (hK h a = 23) && ixo x (hN h a)) (some (i + 1, L, .long (hJ h a x.toNatClampNeg) :: S, h))
    | _ => none
  | .aaload => match S with
    | .int x :: .ref a :: S => guardo (decide (30 ≤ hK h a ∧ hK h a ≤ 41 ∧ hK h a ≠ 40) && ixo x (hN h a)) (some (i + 1, L, .ref (hR h a x.toNatClampNeg) :: S, h))
    | _ => none
  | .iastore => match S with
    | .int v :: .int x :: .ref a :: S => guardo (decide (hK h a = 20) && ixo x (hN h a)) (some (i + 1, L, S, sI h a x.toNatClampNeg v))
    | _ => none
  | .castore => match S with
    | .int v :: .int x :: .ref a :: S => guardo (decide (hK h a = 21) && ixo x (hN h a)) (some (i + 1, L, S, sI h a x.toNatClampNeg (vp_nar .char v)))
    | _ => none
  | .bastore => match S with
    | .int v :: .int x :: .ref a :: S => guardo (decide (hK h a = 22) && ixo x (hN h a) && i01 v) (some (i + 1, L, S, sI h a x.toNatClampNeg v))
    | _ => none
  | .lastore => match S with
    | .long v :: .int x :: .ref a :: S => guardo (decide (hK h a = 23) && ixo x (hN h a)) (some (i + 1, L, S, sJ h a x.toNatClampNeg v))
    | _ => none
  | .aastore => match S with
    | .ref v :: .int x :: .ref a :: S => guardo (decide (30 ≤ hK h a ∧ hK h a < 40 ∧ hK h v + 30 = hK h a ∧ 100 ≤ v ∧ v < hz h) && ixo x (hN h a)) (some (i + 1, L, S, sR h a x.toNatClampNeg v))
    | _ => none
  | .arraylength => match S with
    | .ref a :: S => guardo (decide (20 ≤ hK h a ∧ hK h a ≠ 40 ∧ hK h a ≠ 42 ∧ hK h a ≤ 45 ∧ hK h a ≠ 43)) (some (i + 1, L, .int (Int32.ofNat (hN h a)) :: S, h))
    | _ => none
  | .newarray _ => match o, S with
    | [k], .int n :: S => guardo (decide (0 ≤ n) && decide (n.toNatClampNeg ≤ 10000)) (some (i + 1, L, .ref (hz h) :: S, mkC h k n.toNatClampNeg n.toNatClampNeg))
    | _, _ => none
  | .anewarray _ => match o, S with
    | [k], .int n :: S => guardo (decide (0 ≤ n) && decide (n.toNatClampNeg ≤ 10000)) (some (i + 1, L, .ref (hz h) :: S, mkC h k n.toNatClampNeg n.toNatClampNeg))
    | _, _ => none
  | .new _ => match o with
    | [c] => some (i + 1, L, .ref (hz h) :: S, mkC h c 0 (fdn c))
    | _ => none
  | _ => none
def isCall (x : Instr) : Bool := match x with
  | .invokevirtual _ => true
  | .invokestatic _ => true
  | .invokespecial _ => true
  | _ => false
def isRet (x : Instr) : Bool := match x with
  | .ireturn => true
  | .lreturn => true
  | .areturn => true
  | .return_ => true
  | _ => false
def retv (x : Instr) (S : List Value) : Option (Option Value) := match x, S with
  | .ireturn, [.int v] => some (some (.int v))
  | .lreturn, [.long v] => some (some (.long v))
  | .areturn, [.ref v] => some (some (.ref v))
  | .return_, [] => some none
  | _, _ => none
abbrev AC : Type := Nat → List Value → AH → Option (Option Value × AH)
def run (call : AC) (P : List IR) : Nat → Nat → List Value → List Value → AH → Option (Option Value × AH)
  | 0, _, _, _, _ => none
  | n + 1, i, L, S, h => match P[i]? with
    | none => none
    | some q =>
      if isRet q.2.1 = true then (retv q.2.1 S).map (fun v => (v, h))
      else if isCall q.2.1 = true then
        match q.2.2.1 with
        | [y, k] => guardo (decide (k ≤ S.length) && decide (((S.drop k).map fun v => v.category).sum ≤ 8)) ((call y (S.take k).reverse h).bind fun z => run call P n (i + 1) L (z.1.toList ++ S.drop k) z.2)
        | _ => none
      else (stp q.2.1 q.2.2.1 i L S h).bind fun z => run call P n z.1 z.2.1 z.2.2.1 z.2.2.2
/-- the locals at a method's entry -/
def lcs (n : Nat) (a : List Value) : List Value :=
  let l := a.flatMap fun v => if v.category = 2 then [v, .null] else [v]
  l ++ List.replicate (n - l.length) .null
end
section
/-! WHAT THE SMALL MACHINE'S HEAP IS IN THE REAL ONE -/
/-- classes' and fields' numbers; the array classes' numbers by kind; the first own cell; where the cells below 100 lie -/
abbrev GG : Type := va_G × (Nat → ClassId) × Nat × (Nat → Option Nat)
def gb (g : GG) : Nat := g.2.2.1
def rq (g : GG) (r : Nat) : Option Nat := if r = 0 then none else if r < 100 then g.2.2.2 r else some (gb g + (r - 100))
def ph (g : GG) (v : Value) : Value := match v with
  | .ref r => va_rf (rq g r)
  | v => v
def fvl (g : GG) (h : AH) (c a k : Nat) : Value := if fdk c k = 2 then va_rf (rq g (hR h a k)) else .int (hI h a k)
def cE (g : GG) (h : AH) (a : Nat) : va_E :=
  if hK h a < 20 then .inr (hK h a, (List.range (fdn (hK h a))).map (fvl g h (hK h a) a))
  else if hK h a < 23 then .inl (g.2.1 (hK h a), hN h a, .inl (hI h a))
  else if hK h a = 23 then .inl (g.2.1 23, hN h a, .inr (.inl (hJ h a)))
  else .inl (g.2.1 (hK h a), hN h a, .inr (.inr (.inr (.inr (fun j => rq g (hR h a j))))))
def okk (k : Nat) : Bool := decide (k ≤ 12) || decide (20 ≤ k ∧ k ≤ 23) || decide (k = 33) || decide (k = 34) || decide (k = 36) || decide (k = 37) || decide (k = 38)
def RW (g : GG) (hs h : AH) (H : Heap) : Prop := 100 ≤ hz h ∧ H.size = gb g + (hz h - 100) ∧ (∀ a, 100 ≤ a → a < hz h → okk (hK h a) = true ∧ va_at g.1 clT (gb g + (a - 100), cE g h a) H) ∧ (∀ a, hz h ≤ a → hK h a = 99) ∧
  (∀ a, a < 100 → 40 ≤ hK h a ∧ hK h a = hK hs a ∧ hN h a = hN hs a ∧ hI h a = hI hs a ∧ hR h a = hR hs a)
def AA (g : GG) : Nat → Prop := fun q => gb g ≤ q
theorem RW.own {g : GG} {hs h : AH} {H : Heap} (w : RW g hs h H) {a : Nat} (hk : hK h a < 40) : 100 ≤ a ∧ a < hz h := by
  obtain ⟨-, -, -, h4, h5⟩ := w
  refine ⟨?_, ?_⟩
  · apply Nat.le_of_not_lt; intro q; have := (h5 a q).1; omega
  · apply Nat.lt_of_not_le; intro q; have := h4 a q; omega
theorem rq_own {g : GG} {a : Nat} (h : 100 ≤ a) : rq g a = some (gb g + (a - 100)) := by
  unfold rq; rw [if_neg (by omega), if_neg (by omega)]
theorem ph_own {g : GG} {a : Nat} (h : 100 ≤ a) : ph g (.ref a) = .ref (gb g + (a - 100)) := by
  show va_rf (rq g a) = _
  rw [rq_own h]; rfl
theorem rq_inj {g : GG} {a b : Nat} (ha : 100 ≤ a) (hb : 100 ≤ b) (h : gb g + (a - 100) = gb g + (b - 100)) : a = b := by omega
/-- a write into one own cell -/
theorem RW.upd {g : GG} {hs h h' : AH} {H H' : Heap} (w : RW g hs h H) {a : Nat} (h0 : 100 ≤ a) (h1 : a < hz h) (ez : hz h' = hz h) (eK : hK h' = hK h) (eN : hN h' = hN h)
    (eI : ∀ x, x ≠ a → hI h' x = hI h x) (eJ : ∀ x, x ≠ a → hJ h' x = hJ h x) (eR : ∀ x, x ≠ a → hR h' x = hR h x) (hsz : H'.size = H.size) (oq : ∀ q : Nat, q ≠ gb g + (a - 100) → H'[q]? = H[q]?)
    (hn : va_at g.1 clT (gb g + (a - 100), cE g h' a) H') : RW g hs h' H' := by
  obtain ⟨w1, w2, w3, w4, w5⟩ := w
  refine ⟨by rw [ez]; exact w1, by rw [hsz, ez]; exact w2, fun x hx1 hx2 => ?_, fun x hx => by rw [eK]; exact w4 x (by rw [← ez]; exact hx), fun x hx => ?_⟩
  · rw [ez] at hx2
    refine ⟨by rw [eK]; exact (w3 x hx1 hx2).1, ?_⟩
    by_cases e : x = a
    · rw [e]; exact hn
    · have hc : cE g h' x = cE g h x := by
        unfold cE fvl
        rw [eK, eN, eI x e, eJ x e, eR x e]
      rw [hc]
      exact (w3 x hx1 hx2).2.kept (oq _ (by omega))
  · have e : x ≠ a := by omega
    rw [eK, eN, eI x e, eR x e]
    exact w5 x hx
/-- a new own cell -/
theorem RW.mk {g : GG} {hs h : AH} {H H' : Heap} (w : RW g hs h H) {k n u : Nat} (hk : okk k = true) (hsz : H'.size = H.size + 1) (oq : ∀ q : Nat, q < H.size → H'[q]? = H[q]?)
    (hn : va_at g.1 clT (H.size, cE g (mkC h k n u) (hz h)) H') : RW g hs (mkC h k n u) H' := by
  obtain ⟨w1, w2, w3, w4, w5⟩ := w
  have ez : hz (mkC h k n u) = hz h + 1 := rfl
  have e0 : H.size = gb g + (hz h - 100) := w2
  refine ⟨by rw [ez]; omega, by rw [hsz, ez]; omega, fun x hx1 hx2 => ?_, fun x hx => ?_, fun x hx => ?_⟩
  · rw [ez] at hx2
    by_cases e : x = hz h
    · subst e
      refine ⟨?_, ?_⟩
      · show okk (upr (hK h) (hz h) k (hz h)) = true
        unfold upr; rw [if_pos rfl]; exact hk
      · rw [← e0]; exact hn
    · have hlt : x < hz h := by omega
      have hK' : hK (mkC h k n u) x = hK h x := by show upr (hK h) (hz h) k x = _; unfold upr; rw [if_neg e]
      refine ⟨by rw [hK']; exact (w3 x hx1 hlt).1, ?_⟩
      have hc : cE g (mkC h k n u) x = cE g h x := by
        unfold cE fvl
        rw [hK']
        have a1 : hN (mkC h k n u) x = hN h x := by show upr (hN h) (hz h) n x = _; unfold upr; rw [if_neg e]
        have a2 : hI (mkC h k n u) x = hI h x := by show upr h.1 (hz h) _ x = _; unfold upr; rw [if_neg e]; rfl
        have a3 : hJ (mkC h k n u) x = hJ h x := by show upr h.2.1 (hz h) _ x = _; unfold upr; rw [if_neg e]; rfl
        have a4 : hR (mkC h k n u) x = hR h x := by show upr h.2.2.1 (hz h) _ x = _; unfold upr; rw [if_neg e]; rfl
        rw [a1, a2, a3, a4]
      rw [hc]
      exact (w3 x hx1 hlt).2.kept (oq _ (by show gb g + (x - 100) < H.size; omega))
  · rw [ez] at hx
    show upr (hK h) (hz h) k x = 99
    unfold upr; rw [if_neg (by omega)]; exact w4 x (by omega)
  · have e : x ≠ hz h := by omega
    have hK' : hK (mkC h k n u) x = hK h x := by show upr (hK h) (hz h) k x = _; unfold upr; rw [if_neg e]
    have a1 : hN (mkC h k n u) x = hN h x := by show upr (hN h) (hz h) n x = _; unfold upr; rw [if_neg e]
    have a2 : hI (mkC h k n u) x = hI h x := by show upr h.1 (hz h) _ x = _; unfold upr; rw [if_neg e]; rfl
    have a4 : hR (mkC h k n u) x = hR h x := by show upr h.2.2.1 (hz h) _ x = _; unfold upr; rw [if_neg e]; rfl
    rw [hK', a1, a2, a4]
    exact w5 x hx
/-! the locals -/
def lok (L : List Value) (i : Nat) (v : Value) : Bool := match v with
  | .int _ => true
  | .ref _ => true
  | .long _ => decide (L[i + 1]? = some .null)
  | _ => false
def lvOf (g : GG) (L : List Value) : List (Nat × Value) := (List.range L.length).filterMap fun i => (L[i]?).bind fun v => if lok L i v = true then some (i, ph g v) else none
theorem mem_lvOf {g : GG} {L : List Value} {q : Nat × Value} : q ∈ lvOf g L ↔ ∃ v, L[q.1]? = some v ∧ lok L q.1 v = true ∧ q.2 = ph g v := by
  unfold lvOf
  rw [List.mem_filterMap]
  constructor
  · rintro ⟨i, hi, h⟩
    cases hv : L[i]? with
    | none => rw [hv] at h; cases h
    | some v =>
      rw [hv] at h
      by_cases hl : lok L i v = true
      · simp only [Option.bind_some, if_pos hl, Option.some.injEq] at h
        subst h
        exact ⟨v, hv, hl, rfl⟩
      · simp [hl] at h
  · rintro ⟨v, h1, h2, h3⟩
    refine ⟨q.1, List.mem_range.mpr (List.getElem?_eq_some_iff.mp h1).1, ?_⟩
    rw [h1]
    simp only [Option.bind_some, if_pos h2, Option.some.injEq]
    rw [← h3]
def LR (g : GG) (L : List Value) (nL : Nat) (ls : Array Slot) : Prop := L.length = nL ∧ lv_has ls nL (lvOf g L)
theorem LR.at {g : GG} {L : List Value} {nL : Nat} {ls : Array Slot} (h : LR g L nL ls) {i : Nat} {v : Value} (hv : L[i]? = some v) (hl : lok L i v = true) : ls[i]? = some (.val (ph g v)) :=
  h.2.2.2 (i, ph g v) (mem_lvOf.mpr ⟨v, hv, hl, rfl⟩)
theorem ph_cat {g : GG} {v : Value} (h : (ph g v).category = 2) : v.category = 2 := by
  cases v with
  | ref r => 
    have : (va_rf (rq g r)).category = 2 := h
    cases hq : rq g r with
    | none => rw [hq] at this; cases this
    | some a => rw [hq] at this; cases this
  | _ => exact h
theorem ph_cat2 (g : GG) (v : Value) : (ph g v).category = v.category := by
  cases v with
  | ref r =>
    show (va_rf (rq g r)).category = 1
    cases rq g r <;> rfl
  | _ => rfl
theorem LR.set1 {g : GG} {L : List Value} {nL : Nat} {ls' : Array Slot} {i : Nat} {v : Value} (hL : L.length = nL) (hv : v.category = 1) (hn : v ≠ .null)
    (h : lv_has ls' nL ((i, ph g v) :: (lvOf g L).filter (fun q => !(q.1 == i) && !(q.1 + 1 == i && q.2.category == 2)))) : LR g (L.set i v) nL ls' := by
  refine ⟨by rw [List.length_set]; exact hL, h.1, h.2.1, fun q hq => ?_⟩
  obtain ⟨w, h1, h2, h3⟩ := mem_lvOf.mp hq
  apply h.2.2
  by_cases e : q.1 = i
  · have : w = v := by
      rw [e, List.getElem?_set] at h1
      by_cases hl : i < L.length
      · rw [if_pos rfl, if_pos hl] at h1; exact (Option.some.inj h1).symm
      · rw [if_pos rfl, if_neg hl] at h1; cases h1
    rw [this] at h3
    exact List.mem_cons.mpr (Or.inl (Prod.ext e h3))
  · have h1' : L[q.1]? = some w := by rw [List.getElem?_set_ne (fun z => e z.symm)] at h1; exact h1
    have hk : (q.1 + 1 = i → ¬ w.category = 2) ∧ lok L q.1 w = true := by
      cases w with
      | long x =>
        have h2' : (L.set i v)[q.1 + 1]? = some .null := of_decide_eq_true h2
        have e2 : q.1 + 1 ≠ i := by
          intro z
          rw [z, List.getElem?_set, if_pos rfl] at h2'
          by_cases hl : i < L.length
          · rw [if_pos hl] at h2'; exact hn (Option.some.inj h2')
          · rw [if_neg hl] at h2'; cases h2'
        rw [List.getElem?_set_ne (fun z => e2 z.symm)] at h2'
        exact ⟨fun z => absurd z e2, decide_eq_true h2'⟩
      | int x => exact ⟨fun _ z => (by cases z), rfl⟩
      | ref x => exact ⟨fun _ z => (by cases z), rfl⟩
      | _ => cases h2
    refine List.mem_cons.mpr (Or.inr (List.mem_filter.mpr ⟨mem_lvOf.mpr ⟨w, h1', hk.2, h3⟩, ?_⟩))
    simp only [Bool.and_eq_true, Bool.not_eq_true', beq_eq_false_iff_ne, ne_eq, Bool.and_eq_false_iff]
    refine ⟨e, ?_⟩
    by_cases z : q.1 + 1 = i
    · exact Or.inr (fun zz => hk.1 z (ph_cat (by rw [← h3]; exact zz)))
    · exact Or.inl z
theorem LR.set2 {g : GG} {L : List Value} {nL : Nat} {ls' : Array Slot} {i : Nat} {x : Int64} (hL : L.length = nL)
    (h : lv_has ls' nL ((i, Value.long x) :: (lvOf g L).filter (fun q => !(q.1 == i) && (!(q.1 == i + 1) && !(q.1 + 1 == i && q.2.category == 2))))) : LR g ((L.set i (.long x)).set (i + 1) .null) nL ls' := by
  refine ⟨by rw [List.length_set, List.length_set]; exact hL, h.1, h.2.1, fun q hq => ?_⟩
  obtain ⟨w, h1, h2, h3⟩ := mem_lvOf.mp hq
  apply h.2.2
  by_cases e1 : q.1 = i + 1
  · rw [e1, List.getElem?_set, if_pos rfl] at h1
    by_cases hl : i + 1 < (L.set i (.long x)).length
    · rw [if_pos hl] at h1; have := Option.some.inj h1; rw [← this] at h2; cases h2
    · rw [if_neg hl] at h1; cases h1
  · rw [List.getElem?_set_ne (fun z => e1 z.symm)] at h1
    by_cases e : q.1 = i
    · have : w = .long x := by
        rw [e, List.getElem?_set, if_pos rfl] at h1
        by_cases hl : i < L.length
        · rw [if_pos hl] at h1; exact (Option.some.inj h1).symm
        · rw [if_neg hl] at h1; cases h1
      rw [this] at h3
      exact List.mem_cons.mpr (Or.inl (Prod.ext e h3))
    · have h1' : L[q.1]? = some w := by rw [List.getElem?_set_ne (fun z => e z.symm)] at h1; exact h1
      have hk : (q.1 + 1 = i → ¬ w.category = 2) ∧ lok L q.1 w = true := by
        cases w with
        | long y =>
          have h2' : ((L.set i (.long x)).set (i + 1) .null)[q.1 + 1]? = some .null := of_decide_eq_true h2
          have e3 : q.1 + 1 ≠ i + 1 := by omega
          rw [List.getElem?_set_ne (fun z => e3 z.symm)] at h2'
          have e2 : q.1 + 1 ≠ i := by
            intro z
            rw [z, List.getElem?_set, if_pos rfl] at h2'
            by_cases hl : i < L.length
            · rw [if_pos hl] at h2'; cases h2'
            · rw [if_neg hl] at h2'; cases h2'
          rw [List.getElem?_set_ne (fun z => e2 z.symm)] at h2'
          exact ⟨fun z => absurd z e2, decide_eq_true h2'⟩
        | int x => exact ⟨fun _ z => (by cases z), rfl⟩
        | ref x => exact ⟨fun _ z => (by cases z), rfl⟩
        | _ => cases h2
      refine List.mem_cons.mpr (Or.inr (List.mem_filter.mpr ⟨mem_lvOf.mpr ⟨w, h1', hk.2, h3⟩, ?_⟩))
      simp only [Bool.and_eq_true, Bool.not_eq_true', beq_eq_false_iff_ne, ne_eq, Bool.and_eq_false_iff]
      refine ⟨e, e1, ?_⟩
      by_cases z : q.1 + 1 = i
      · exact Or.inr (fun zz => hk.1 z (ph_cat (by rw [← h3]; exact zz)))
      · exact Or.inl z
theorem LR.entry_aux {g : GG} : ∀ (a : List Value) (k i : Nat) (v : Value), (a.flatMap fun v => if v.category = 2 then [v, Value.null] else [v])[i]? = some v → (v ≠ .null) → (k + i, ph g v) ∈ lv_args k (a.map (ph g))
  | [], k, i, v, h, _ => by simp at h
  | x :: a, k, i, v, h, hv => by
    rw [List.flatMap_cons] at h
    rw [List.map_cons]
    show _ ∈ (k, ph g x) :: lv_args (if (ph g x).category = 2 then k + 2 else k + 1) (a.map (ph g))
    rw [ph_cat2]
    by_cases hc : x.category = 2
    · rw [if_pos hc] at h ⊢
      match i, h with
      | 0, h => 
        have e : x = v := Option.some.inj h
        rw [e]; exact List.mem_cons_self
      | 1, h => 
        have e : Value.null = v := Option.some.inj h
        exact absurd e.symm hv
      | j + 2, h =>
        have h' : (a.flatMap fun v => if v.category = 2 then [v, Value.null] else [v])[j]? = some v := h
        have := LR.entry_aux (g := g) a (k + 2) j v h' hv
        rw [show k + (j + 2) = k + 2 + j by omega]
        exact List.mem_cons_of_mem _ this
    · rw [if_neg hc] at h ⊢
      match i, h with
      | 0, h => 
        have e : x = v := Option.some.inj h
        rw [e]; exact List.mem_cons_self
      | j + 1, h =>
        have h' : (a.flatMap fun v => if v.category = 2 then [v, Value.null] else [v])[j]? = some v := h
        have := LR.entry_aux (g := g) a (k + 1) j v h' hv
        rw [show k + (j + 1) = k + 1 + j by omega]
        exact List.mem_cons_of_mem _ this
theorem flat_len (g : GG) : ∀ a : List Value, (lg_sl (a.map (ph g))).length = (a.flatMap fun v => if v.category = 2 then [v, Value.null] else [v]).length
  | [] => rfl
  | x :: a => by
    have ih := flat_len g a
    unfold lg_sl at ih ⊢
    rw [List.map_cons, List.flatMap_cons, List.flatMap_cons, List.length_append, List.length_append, ih, ph_cat2]
    by_cases hc : x.category = 2
    · rw [if_pos hc, if_pos hc]; rfl
    · rw [if_neg hc, if_neg hc]; rfl
theorem LR.entry (g : GG) (a : List Value) {n : Nat} (h : (a.flatMap fun v => if v.category = 2 then [v, Value.null] else [v]).length ≤ n) :
    LR g (lcs n a) n ((lg_sl (a.map (ph g)) ++ List.replicate (n - (lg_sl (a.map (ph g))).length) Slot.unset).toArray) := by
  have e := lv_entry (a.map (ph g)) (n := n) (by rw [flat_len]; exact h)
  refine ⟨?_, e.1, e.2.1, fun q hq => ?_⟩
  · show (_ ++ List.replicate _ _).length = n
    rw [List.length_append, List.length_replicate]; omega
  · obtain ⟨v, h1, h2, h3⟩ := mem_lvOf.mp hq
    apply e.2.2
    have hv : v ≠ .null := by intro z; rw [z] at h2; cases h2
    have h1' : (a.flatMap fun v => if v.category = 2 then [v, Value.null] else [v])[q.1]? = some v := by
      have h1 : ((a.flatMap fun v => if v.category = 2 then [v, Value.null] else [v]) ++ List.replicate (n - (a.flatMap fun v => if v.category = 2 then [v, Value.null] else [v]).length) Value.null)[q.1]? = some v := h1
      rw [List.getElem?_append] at h1
      by_cases hl : q.1 < (a.flatMap fun v => if v.category = 2 then [v, Value.null] else [v]).length
      · rw [if_pos hl] at h1; exact h1
      · rw [if_neg hl, List.getElem?_replicate] at h1
        split at h1
        · exact absurd (Option.some.inj h1).symm hv
        · cases h1
    have := LR.entry_aux (g := g) a 0 q.1 v h1' hv
    rw [Nat.zero_add, ← h3] at this
    exact this
end
section
/-! ONE STEP OF THE SMALL MACHINE IS A STEP OF THE REAL ONE -/
def isNestW (w : Cond) : Bool := match w with
  | .fieldLinkNest .. => true
  | .methodLinkNest .. => true
  | .arrayOver (.object _) => true
  | _ => false
def AW : List Cond := lw_tbl.filter fun w => goodWord w || isNestW w
def tysT (g : GG) : List (ClassId × FieldType) := [(g.2.1 20, .int), (g.2.1 21, .char), (g.2.1 22, .boolean), (g.2.1 23, .long), (g.2.1 33, .object "PenThatJumps$Person"), (g.2.1 34, .object "PenThatJumps$Plan"), (g.2.1 36, .object "PenThatJumps$Program"), (g.2.1 37, .object "PenThatJumps$Sitting"), (g.2.1 38, .object "PenThatJumps$Tally")]
def pcOf (P : List IR) (i : Nat) : Nat := (P.getD i (0, .nop, [], 0)).1
/-- the statics: class, name, descriptor, what it holds: (0, a reference) or (1, a number) -/
def wdN : List String := ["PLAIN", "SHAMING", "ASKED", "KNOWN", "REAL", "OTHERS", "FILE", "ASKS", "HEARD", "FEAR", "DONE", "TRICK", "HABIT", "PLACE", "NOISE", "NOT", "AND", "OR", "ASK", "FOR", "LINE", "SAYS", "WHEN", "UNKNOWN"]
def stT : List (String × String × String × Nat × Nat) := (List.range 24).map (fun i => ("PenThatJumps$Word", wdN.getD i "", "LPenThatJumps$Word;", 0, 2 + i)) ++ [("PenThatJumps$Word", "ALL", "[LPenThatJumps$Word;", 0, 26), ("java/lang/String", "COMPACT_STRINGS", "Z", 1, 1), ("jdk/internal/util/Preconditions", "SIOOBE_FORMATTER", "Ljava/util/function/BiFunction;", 0, 75)]
def stv (g : GG) (q : Nat × Nat) : Value := if q.1 = 0 then va_rf (rq g q.2) else .int (Int32.ofNat q.2)
/-- the fields of the cells below 100 -/
def sfT (c k : Nat) : String × String × String := match c, k with
  | 40, 0 => ("PenThatJumps$Word", "text", "Ljava/lang/String;")
  | 40, 1 => ("PenThatJumps$Word", "bodyFact", "I")
  | 40, _ => ("PenThatJumps$Word", "readerFact", "I")
  | _, 0 => ("java/lang/String", "value", "[B")
  | _, _ => ("java/lang/String", "coder", "B")
def ST (g : GG) (hs : AH) (U : State) : Prop :=
  (∀ q ∈ stT, va_Z q.1 q.2.1 q.2.2.1 (stv g q.2.2.2) (AA g) U U.heap) ∧
  (∀ a, a < 100 → (hK hs a = 40 ∨ hK hs a = 42) → ∃ t, rq g a = some t ∧ ∀ k, k < fdn (hK hs a) → va_OF (sfT (hK hs a) k).1 (sfT (hK hs a) k).2.1 (sfT (hK hs a) k).2.2 (fvl g hs (hK hs a) a k) t (AA g) U U.heap) ∧
  (∀ a, a < 100 → hK hs a = 44 → ∃ t, rq g a = some t ∧ hN hs a < 2147483648 ∧ va_T .int t (hN hs a) (fun j => .int (hI hs a j)) (AA g) U U.heap) ∧
  (∀ a, a < 100 → hK hs a = 45 → ∃ t, rq g a = some t ∧ hN hs a < 2147483648 ∧ va_T .byte t (hN hs a) (fun j => .int (hI hs a j)) (AA g) U U.heap) ∧
  (∀ a, a < 100 → hK hs a = 41 → ∃ t, rq g a = some t ∧ hN hs a < 2147483648 ∧ va_T (.object "PenThatJumps$Word") t (hN hs a) (fun j => va_rf (rq g (hR hs a j))) (AA g) U U.heap) ∧
  (∀ a, a < 100 → hK hs a = 42 → ∃ t, rq g a = some t ∧ va_O "java/lang/String" t (AA g) U U.heap) ∧
  (∀ x y, 2 ≤ x → x ≤ 25 → 2 ≤ y → y ≤ 25 → rq g x = rq g y → x = y)
def CX (p : Program) (s : State) (m : MethodId) (args : Array Value) (c : Code) (cc : ByteArray) (nL own : Nat) (g : GG) (hs : AH) : Prop :=
  p.tables.exec = Jvm.exec ∧ c.code = cc ∧ c.maxLocals = nL ∧ s.vm.findClass (cnm own) = some m.cls ∧ (∀ w ∈ AW, w.before args s = true) ∧ va_K g.1 clT (tysT g) s ∧ ST g hs s ∧ gb g ≤ s.heap.size
def ilen (x : Instr) (pc : Nat) : Nat := match x with
  | .bipush _ => 2
  | .sipush _ => 3
  | .ldc _ => 2
  | .ldc_w _ => 3
  | .ldc2_w _ => 3
  | .iload _ => 2
  | .lload _ => 2
  | .aload _ => 2
  | .istore _ => 2
  | .lstore _ => 2
  | .astore _ => 2
  | .iinc _ _ => 3
  | .goto _ => 3
  | .ifCond _ _ => 3
  | .if_icmp _ _ => 3
  | .if_acmp _ _ => 3
  | .ifnull _ => 3
  | .ifnonnull _ => 3
  | .getfield _ => 3
  | .putfield _ => 3
  | .getstatic _ => 3
  | .newarray _ => 2
  | .anewarray _ => 3
  | .new _ => 3
  | .checkcast _ => 3
  | .invokevirtual _ => 3
  | .invokestatic _ => 3
  | .invokespecial _ => 3
  | .tableswitch _ _ _ offs => 1 + (3 - pc % 4) + 12 + 4 * offs.size
  | _ => 1
section STEP
variable {p : Program} {l : Launch} {e : Env} {R : Room} {s : State} {m : MethodId} {args : Array Value} {below : List Frame} {meth : Method} {c : Code} {H : Heap} {locs : List Loc} {cells slots : Nat} {Q : State → Prop} {cc : ByteArray} {pc nL own : Nat} {ls : Array Slot} {g : GG} {hs h : AH} {P : List IR} {i : Nat} {L S : List Value}
/-- what is owed behind a step -/
def NX (p : Program) (l : Launch) (e : Env) (R : Room) (s : State) (m : MethodId) (args : Array Value) (below : List Frame) (meth : Method) (c : Code) (cells slots : Nat) (Q : State → Prop) (nL : Nat) (g : GG) (hs h : AH) (P : List IR) (z : AS) : Prop :=
  ∀ (ls' : Array Slot) (H' : Heap) (locs' : List Loc), LR g z.2.1 nL ls' → RW g hs z.2.2.2 H' → va_S (AA g) s.heap H' locs' → W p l e R s m args below meth c H' locs' (cells + (hz z.2.2.2 - hz h)) (slots + (hu z.2.2.2 - hu h)) Q (F0 m (pcOf P z.1) ls' (z.2.2.1.map (ph g)))
theorem NX.here {j : Nat} {L' S' : List Value} (n : NX p l e R s m args below meth c cells slots Q nL g hs h P (j, L', S', h)) (hL : LR g L' nL ls) (hW : RW g hs h H) (hS : va_S (AA g) s.heap H locs) {pc' : Nat} (hp : pcOf P j = pc') :
    W p l e R s m args below meth c H locs cells slots Q (F0 m pc' ls (S'.map (ph g))) := by
  have h1 := n ls H locs hL hW hS
  simp only [Nat.sub_self, Nat.add_zero, hp] at h1
  exact h1
end STEP
end
section
section OPS
variable {p : Program} {l : Launch} {e : Env} {R : Room} {s : State} {m : MethodId} {args : Array Value} {below : List Frame} {meth : Method} {c : Code} {H : Heap} {locs : List Loc} {cells slots : Nat} {Q : State → Prop} {cc : ByteArray} {pc nL own : Nat} {ls : Array Slot} {g : GG} {hs h : AH} {P : List IR} {i : Nat} {L S : List Value}

theorem op_iconst {v : Int} (C : CX p s m args c cc nL own g hs) (hd : decode cc pc = .ok (.iconst v, 1)) (hp : pcOf P (i + 1) = pc + 1) (hL : LR g L nL ls) (hW : RW g hs h H) (hS : va_S (AA g) s.heap H locs) 
    (n : NX p l e R s m args below meth c cells slots Q nL g hs h P (i + 1, L, .int (Int32.ofInt v) :: S, h)) : W p l e R s m args below meth c H locs cells slots Q (F0 m pc ls ((S).map (ph g))) := lv_iconst C.1 C.2.1 hd rfl (n.here hL hW hS hp)
theorem op_bipush {v : Int} (C : CX p s m args c cc nL own g hs) (hd : decode cc pc = .ok (.bipush v, 2)) (hp : pcOf P (i + 1) = pc + 2) (hL : LR g L nL ls) (hW : RW g hs h H) (hS : va_S (AA g) s.heap H locs) (hv : (Int8.ofInt v).toInt32 = Int32.ofInt v)
    (n : NX p l e R s m args below meth c cells slots Q nL g hs h P (i + 1, L, .int (Int32.ofInt v) :: S, h)) : W p l e R s m args below meth c H locs cells slots Q (F0 m pc ls ((S).map (ph g))) := lv_bipush C.1 C.2.1 hd hv (n.here hL hW hS hp)
theorem op_sipush {v : Int} (C : CX p s m args c cc nL own g hs) (hd : decode cc pc = .ok (.sipush v, 3)) (hp : pcOf P (i + 1) = pc + 3) (hL : LR g L nL ls) (hW : RW g hs h H) (hS : va_S (AA g) s.heap H locs) (hv : (Int16.ofInt v).toInt32 = Int32.ofInt v)
    (n : NX p l e R s m args below meth c cells slots Q nL g hs h P (i + 1, L, .int (Int32.ofInt v) :: S, h)) : W p l e R s m args below meth c H locs cells slots Q (F0 m pc ls ((S).map (ph g))) := lv_sipush C.1 C.2.1 hd hv (n.here hL hW hS hp)
theorem op_lconst {v : Fin 2} (C : CX p s m args c cc nL own g hs) (hd : decode cc pc = .ok (.lconst v, 1)) (hp : pcOf P (i + 1) = pc + 1) (hL : LR g L nL ls) (hW : RW g hs h H) (hS : va_S (AA g) s.heap H locs) 
    (n : NX p l e R s m args below meth c cells slots Q nL g hs h P (i + 1, L, .long (Int64.ofNat v.val) :: S, h)) : W p l e R s m args below meth c H locs cells slots Q (F0 m pc ls ((S).map (ph g))) := lv_lconst C.1 C.2.1 hd rfl (n.here hL hW hS hp)
theorem op_null  (C : CX p s m args c cc nL own g hs) (hd : decode cc pc = .ok (.aconst_null, 1)) (hp : pcOf P (i + 1) = pc + 1) (hL : LR g L nL ls) (hW : RW g hs h H) (hS : va_S (AA g) s.heap H locs) 
    (n : NX p l e R s m args below meth c cells slots Q nL g hs h P (i + 1, L, .ref 0 :: S, h)) : W p l e R s m args below meth c H locs cells slots Q (F0 m pc ls ((S).map (ph g))) := lv_null C.1 C.2.1 hd (n.here hL hW hS hp)
theorem op_ldc {idx : Nat} {v : Int32} (C : CX p s m args c cc nL own g hs) (hd : decode cc pc = .ok (.ldc idx, 2)) (hp : pcOf P (i + 1) = pc + 2) (hL : LR g L nL ls) (hW : RW g hs h H) (hS : va_S (AA g) s.heap H locs) (hc : Cond.constant (cnm own) idx v ∈ AW)
    (n : NX p l e R s m args below meth c cells slots Q nL g hs h P (i + 1, L, .int v :: S, h)) : W p l e R s m args below meth c H locs cells slots Q (F0 m pc ls ((S).map (ph g))) := lv_ldc C.1 C.2.1 C.2.2.2.1 (C.2.2.2.2.1 _ hc) hd (n.here hL hW hS hp)
theorem op_ldcw {idx : Nat} {v : Int32} (C : CX p s m args c cc nL own g hs) (hd : decode cc pc = .ok (.ldc_w idx, 3)) (hp : pcOf P (i + 1) = pc + 3) (hL : LR g L nL ls) (hW : RW g hs h H) (hS : va_S (AA g) s.heap H locs) (hc : Cond.constant (cnm own) idx v ∈ AW)
    (n : NX p l e R s m args below meth c cells slots Q nL g hs h P (i + 1, L, .int v :: S, h)) : W p l e R s m args below meth c H locs cells slots Q (F0 m pc ls ((S).map (ph g))) := lv_ldcw C.1 C.2.1 C.2.2.2.1 (C.2.2.2.2.1 _ hc) hd (n.here hL hW hS hp)
theorem op_ldc2 {idx : Nat} {v : Int64} (C : CX p s m args c cc nL own g hs) (hd : decode cc pc = .ok (.ldc2_w idx, 3)) (hp : pcOf P (i + 1) = pc + 3) (hL : LR g L nL ls) (hW : RW g hs h H) (hS : va_S (AA g) s.heap H locs) (hc : Cond.constantLong (cnm own) idx v ∈ AW)
    (n : NX p l e R s m args below meth c cells slots Q nL g hs h P (i + 1, L, .long v :: S, h)) : W p l e R s m args below meth c H locs cells slots Q (F0 m pc ls ((S).map (ph g))) := lv_ldc2 C.1 C.2.1 C.2.2.2.1 (C.2.2.2.2.1 _ hc) hd (n.here hL hW hS hp)
theorem op_iload {k : Nat} {v : Int32} (C : CX p s m args c cc nL own g hs) (hd : decode cc pc = .ok (.iload k, 2)) (hp : pcOf P (i + 1) = pc + 2) (hL : LR g L nL ls) (hW : RW g hs h H) (hS : va_S (AA g) s.heap H locs) (hv : L[k]? = some (.int v))
    (n : NX p l e R s m args below meth c cells slots Q nL g hs h P (i + 1, L, .int v :: S, h)) : W p l e R s m args below meth c H locs cells slots Q (F0 m pc ls ((S).map (ph g))) := lv_iload C.1 C.2.1 hd (hL.at hv rfl) (n.here hL hW hS hp)
theorem op_iload_n {k : Fin 4} {v : Int32} (C : CX p s m args c cc nL own g hs) (hd : decode cc pc = .ok (.iload_n k, 1)) (hp : pcOf P (i + 1) = pc + 1) (hL : LR g L nL ls) (hW : RW g hs h H) (hS : va_S (AA g) s.heap H locs) (hv : L[k.val]? = some (.int v))
    (n : NX p l e R s m args below meth c cells slots Q nL g hs h P (i + 1, L, .int v :: S, h)) : W p l e R s m args below meth c H locs cells slots Q (F0 m pc ls ((S).map (ph g))) := lv_iload_n C.1 C.2.1 hd rfl (hL.at hv rfl) (n.here hL hW hS hp)
theorem op_lload {k : Nat} {v : Int64} (C : CX p s m args c cc nL own g hs) (hd : decode cc pc = .ok (.lload k, 2)) (hp : pcOf P (i + 1) = pc + 2) (hL : LR g L nL ls) (hW : RW g hs h H) (hS : va_S (AA g) s.heap H locs) (hv : L[k]? = some (.long v)) (hv2 : L[k + 1]? = some .null)
    (n : NX p l e R s m args below meth c cells slots Q nL g hs h P (i + 1, L, .long v :: S, h)) : W p l e R s m args below meth c H locs cells slots Q (F0 m pc ls ((S).map (ph g))) := lv_lload C.1 C.2.1 hd (hL.at hv (decide_eq_true hv2)) (n.here hL hW hS hp)
theorem op_lload_n {k : Fin 4} {v : Int64} (C : CX p s m args c cc nL own g hs) (hd : decode cc pc = .ok (.lload_n k, 1)) (hp : pcOf P (i + 1) = pc + 1) (hL : LR g L nL ls) (hW : RW g hs h H) (hS : va_S (AA g) s.heap H locs) (hv : L[k.val]? = some (.long v)) (hv2 : L[k.val + 1]? = some .null)
    (n : NX p l e R s m args below meth c cells slots Q nL g hs h P (i + 1, L, .long v :: S, h)) : W p l e R s m args below meth c H locs cells slots Q (F0 m pc ls ((S).map (ph g))) := lv_lload_n C.1 C.2.1 hd rfl (hL.at hv (decide_eq_true hv2)) (n.here hL hW hS hp)
theorem op_aload {k v : Nat} (C : CX p s m args c cc nL own g hs) (hd : decode cc pc = .ok (.aload k, 2)) (hp : pcOf P (i + 1) = pc + 2) (hL : LR g L nL ls) (hW : RW g hs h H) (hS : va_S (AA g) s.heap H locs) (hv : L[k]? = some (.ref v))
    (n : NX p l e R s m args below meth c cells slots Q nL g hs h P (i + 1, L, .ref v :: S, h)) : W p l e R s m args below meth c H locs cells slots Q (F0 m pc ls ((S).map (ph g))) := by
  have h1 := hL.at hv rfl
  have n' := n.here hL hW hS hp
  have e0 : ph g (.ref v) = va_rf (rq g v) := rfl
  rw [List.map_cons, e0] at n'
  rw [e0] at h1
  cases hq : rq g v with
  | none => rw [hq] at h1 n'; exact lv_aloadN C.1 C.2.1 hd h1 n'
  | some x => rw [hq] at h1 n'; exact lv_aload C.1 C.2.1 hd h1 n'
theorem op_aload_n {k : Fin 4} {v : Nat} (C : CX p s m args c cc nL own g hs) (hd : decode cc pc = .ok (.aload_n k, 1)) (hp : pcOf P (i + 1) = pc + 1) (hL : LR g L nL ls) (hW : RW g hs h H) (hS : va_S (AA g) s.heap H locs) (hv : L[k.val]? = some (.ref v))
    (n : NX p l e R s m args below meth c cells slots Q nL g hs h P (i + 1, L, .ref v :: S, h)) : W p l e R s m args below meth c H locs cells slots Q (F0 m pc ls ((S).map (ph g))) := by
  have h1 := hL.at hv rfl
  have n' := n.here hL hW hS hp
  have e0 : ph g (.ref v) = va_rf (rq g v) := rfl
  rw [List.map_cons, e0] at n'
  rw [e0] at h1
  cases hq : rq g v with
  | none => rw [hq] at h1 n'; exact lv_aload_nN C.1 C.2.1 hd rfl h1 n'
  | some x => rw [hq] at h1 n'; exact lv_aload_n C.1 C.2.1 hd rfl h1 n'
theorem op_istore {k : Nat} {v : Int32} (C : CX p s m args c cc nL own g hs) (hd : decode cc pc = .ok (.istore k, 2)) (hp : pcOf P (i + 1) = pc + 2) (hL : LR g L nL ls) (hW : RW g hs h H) (hS : va_S (AA g) s.heap H locs) (hk : k < nL)
    (n : NX p l e R s m args below meth c cells slots Q nL g hs h P (i + 1, L.set k (.int v), S, h)) : W p l e R s m args below meth c H locs cells slots Q (F0 m pc ls ((.int v :: S).map (ph g))) := lv_istore C.1 C.2.1 hd hL.2 hk rfl (fun ls' h' => n.here (LR.set1 hL.1 rfl (fun z => by cases z) h') hW hS hp)
theorem op_istore_n {k : Fin 4} {v : Int32} (C : CX p s m args c cc nL own g hs) (hd : decode cc pc = .ok (.istore_n k, 1)) (hp : pcOf P (i + 1) = pc + 1) (hL : LR g L nL ls) (hW : RW g hs h H) (hS : va_S (AA g) s.heap H locs) (hk : k.val < nL)
    (n : NX p l e R s m args below meth c cells slots Q nL g hs h P (i + 1, L.set k.val (.int v), S, h)) : W p l e R s m args below meth c H locs cells slots Q (F0 m pc ls ((.int v :: S).map (ph g))) := lv_istore_n C.1 C.2.1 hd rfl hL.2 hk rfl (fun ls' h' => n.here (LR.set1 hL.1 rfl (fun z => by cases z) h') hW hS hp)
theorem op_lstore {k : Nat} {v : Int64} (C : CX p s m args c cc nL own g hs) (hd : decode cc pc = .ok (.lstore k, 2)) (hp : pcOf P (i + 1) = pc + 2) (hL : LR g L nL ls) (hW : RW g hs h H) (hS : va_S (AA g) s.heap H locs) (hk : k + 1 < nL)
    (n : NX p l e R s m args below meth c cells slots Q nL g hs h P (i + 1, (L.set k (.long v)).set (k + 1) .null, S, h)) : W p l e R s m args below meth c H locs cells slots Q (F0 m pc ls ((.long v :: S).map (ph g))) := lv_lstore C.1 C.2.1 hd hL.2 hk rfl (fun ls' h' => n.here (LR.set2 hL.1 h') hW hS hp)
theorem op_lstore_n {k : Fin 4} {v : Int64} (C : CX p s m args c cc nL own g hs) (hd : decode cc pc = .ok (.lstore_n k, 1)) (hp : pcOf P (i + 1) = pc + 1) (hL : LR g L nL ls) (hW : RW g hs h H) (hS : va_S (AA g) s.heap H locs) (hk : k.val + 1 < nL)
    (n : NX p l e R s m args below meth c cells slots Q nL g hs h P (i + 1, (L.set k.val (.long v)).set (k.val + 1) .null, S, h)) : W p l e R s m args below meth c H locs cells slots Q (F0 m pc ls ((.long v :: S).map (ph g))) := lv_lstore_n C.1 C.2.1 hd rfl hL.2 hk rfl (fun ls' h' => n.here (LR.set2 hL.1 h') hW hS hp)
theorem op_astore {k v : Nat} (C : CX p s m args c cc nL own g hs) (hd : decode cc pc = .ok (.astore k, 2)) (hp : pcOf P (i + 1) = pc + 2) (hL : LR g L nL ls) (hW : RW g hs h H) (hS : va_S (AA g) s.heap H locs) (hk : k < nL)
    (n : NX p l e R s m args below meth c cells slots Q nL g hs h P (i + 1, L.set k (.ref v), S, h)) : W p l e R s m args below meth c H locs cells slots Q (F0 m pc ls ((.ref v :: S).map (ph g))) := by
  have e0 : ph g (.ref v) = va_rf (rq g v) := rfl
  rw [List.map_cons, e0]
  cases hq : rq g v with
  | none => exact lv_astoreN C.1 C.2.1 hd hL.2 hk rfl (fun ls' h' => n.here (LR.set1 hL.1 rfl (fun z => by cases z) (by rw [e0, hq]; exact h')) hW hS hp)
  | some x => exact lv_astore C.1 C.2.1 hd hL.2 hk rfl (fun ls' h' => n.here (LR.set1 hL.1 rfl (fun z => by cases z) (by rw [e0, hq]; exact h')) hW hS hp)
theorem op_astore_n {k : Fin 4} {v : Nat} (C : CX p s m args c cc nL own g hs) (hd : decode cc pc = .ok (.astore_n k, 1)) (hp : pcOf P (i + 1) = pc + 1) (hL : LR g L nL ls) (hW : RW g hs h H) (hS : va_S (AA g) s.heap H locs) (hk : k.val < nL)
    (n : NX p l e R s m args below meth c cells slots Q nL g hs h P (i + 1, L.set k.val (.ref v), S, h)) : W p l e R s m args below meth c H locs cells slots Q (F0 m pc ls ((.ref v :: S).map (ph g))) := by
  have e0 : ph g (.ref v) = va_rf (rq g v) := rfl
  rw [List.map_cons, e0]
  cases hq : rq g v with
  | none => exact lv_astore_nN C.1 C.2.1 hd rfl hL.2 hk rfl (fun ls' h' => n.here (LR.set1 hL.1 rfl (fun z => by cases z) (by rw [e0, hq]; exact h')) hW hS hp)
  | some x => exact lv_astore_n C.1 C.2.1 hd rfl hL.2 hk rfl (fun ls' h' => n.here (LR.set1 hL.1 rfl (fun z => by cases z) (by rw [e0, hq]; exact h')) hW hS hp)
theorem op_iinc {k : Nat} {v : Int32} {q : Int} (C : CX p s m args c cc nL own g hs) (hd : decode cc pc = .ok (.iinc k q, 3)) (hp : pcOf P (i + 1) = pc + 3) (hL : LR g L nL ls) (hW : RW g hs h H) (hS : va_S (AA g) s.heap H locs) (hv : L[k]? = some (.int v))
    (n : NX p l e R s m args below meth c cells slots Q nL g hs h P (i + 1, L.set k (.int (v + Int32.ofInt q)), S, h)) : W p l e R s m args below meth c H locs cells slots Q (F0 m pc ls ((S).map (ph g))) := by
  have hk : k < nL := by rw [← hL.1]; exact (List.getElem?_eq_some_iff.mp hv).1
  obtain ⟨j, hj⟩ := List.getElem?_of_mem (mem_lvOf (g := g) (q := (k, .int v)).mpr ⟨_, hv, rfl, rfl⟩)
  exact lv_iinc C.1 C.2.1 hd hL.2 hj rfl hk rfl (fun ls' h' => n.here (LR.set1 hL.1 rfl (fun z => by cases z) h') hW hS hp)
theorem op_iadd {x y : Int32} (C : CX p s m args c cc nL own g hs) (hd : decode cc pc = .ok (.iadd, 1)) (hp : pcOf P (i + 1) = pc + 1) (hL : LR g L nL ls) (hW : RW g hs h H) (hS : va_S (AA g) s.heap H locs) 
    (n : NX p l e R s m args below meth c cells slots Q nL g hs h P (i + 1, L, .int (x + y) :: S, h)) : W p l e R s m args below meth c H locs cells slots Q (F0 m pc ls ((.int y :: .int x :: S).map (ph g))) := lv_iadd C.1 C.2.1 hd (n.here hL hW hS hp)
theorem op_isub {x y : Int32} (C : CX p s m args c cc nL own g hs) (hd : decode cc pc = .ok (.isub, 1)) (hp : pcOf P (i + 1) = pc + 1) (hL : LR g L nL ls) (hW : RW g hs h H) (hS : va_S (AA g) s.heap H locs) 
    (n : NX p l e R s m args below meth c cells slots Q nL g hs h P (i + 1, L, .int (x - y) :: S, h)) : W p l e R s m args below meth c H locs cells slots Q (F0 m pc ls ((.int y :: .int x :: S).map (ph g))) := lv_isub C.1 C.2.1 hd (n.here hL hW hS hp)
theorem op_imul {x y : Int32} (C : CX p s m args c cc nL own g hs) (hd : decode cc pc = .ok (.imul, 1)) (hp : pcOf P (i + 1) = pc + 1) (hL : LR g L nL ls) (hW : RW g hs h H) (hS : va_S (AA g) s.heap H locs) 
    (n : NX p l e R s m args below meth c cells slots Q nL g hs h P (i + 1, L, .int (x * y) :: S, h)) : W p l e R s m args below meth c H locs cells slots Q (F0 m pc ls ((.int y :: .int x :: S).map (ph g))) := lv_imul C.1 C.2.1 hd (n.here hL hW hS hp)
theorem op_iand {x y : Int32} (C : CX p s m args c cc nL own g hs) (hd : decode cc pc = .ok (.iand, 1)) (hp : pcOf P (i + 1) = pc + 1) (hL : LR g L nL ls) (hW : RW g hs h H) (hS : va_S (AA g) s.heap H locs) 
    (n : NX p l e R s m args below meth c cells slots Q nL g hs h P (i + 1, L, .int (x &&& y) :: S, h)) : W p l e R s m args below meth c H locs cells slots Q (F0 m pc ls ((.int y :: .int x :: S).map (ph g))) := lv_iand C.1 C.2.1 hd (n.here hL hW hS hp)
theorem op_ior {x y : Int32} (C : CX p s m args c cc nL own g hs) (hd : decode cc pc = .ok (.ior, 1)) (hp : pcOf P (i + 1) = pc + 1) (hL : LR g L nL ls) (hW : RW g hs h H) (hS : va_S (AA g) s.heap H locs) 
    (n : NX p l e R s m args below meth c cells slots Q nL g hs h P (i + 1, L, .int (x ||| y) :: S, h)) : W p l e R s m args below meth c H locs cells slots Q (F0 m pc ls ((.int y :: .int x :: S).map (ph g))) := lv_ior C.1 C.2.1 hd (n.here hL hW hS hp)
theorem op_ishl {x y : Int32} (C : CX p s m args c cc nL own g hs) (hd : decode cc pc = .ok (.ishl, 1)) (hp : pcOf P (i + 1) = pc + 1) (hL : LR g L nL ls) (hW : RW g hs h H) (hS : va_S (AA g) s.heap H locs) 
    (n : NX p l e R s m args below meth c cells slots Q nL g hs h P (i + 1, L, .int (x <<< (y &&& 31)) :: S, h)) : W p l e R s m args below meth c H locs cells slots Q (F0 m pc ls ((.int y :: .int x :: S).map (ph g))) := lv_ishl C.1 C.2.1 hd (n.here hL hW hS hp)
theorem op_ishr {x y : Int32} (C : CX p s m args c cc nL own g hs) (hd : decode cc pc = .ok (.ishr, 1)) (hp : pcOf P (i + 1) = pc + 1) (hL : LR g L nL ls) (hW : RW g hs h H) (hS : va_S (AA g) s.heap H locs) 
    (n : NX p l e R s m args below meth c cells slots Q nL g hs h P (i + 1, L, .int (x >>> (y &&& 31)) :: S, h)) : W p l e R s m args below meth c H locs cells slots Q (F0 m pc ls ((.int y :: .int x :: S).map (ph g))) := lv_ishr C.1 C.2.1 hd (n.here hL hW hS hp)
theorem op_idiv {x y : Int32} (C : CX p s m args c cc nL own g hs) (hd : decode cc pc = .ok (.idiv, 1)) (hp : pcOf P (i + 1) = pc + 1) (hL : LR g L nL ls) (hW : RW g hs h H) (hS : va_S (AA g) s.heap H locs) (hy : ¬ y = 0)
    (n : NX p l e R s m args below meth c cells slots Q nL g hs h P (i + 1, L, .int (x / y) :: S, h)) : W p l e R s m args below meth c H locs cells slots Q (F0 m pc ls ((.int y :: .int x :: S).map (ph g))) := lv_idiv C.1 C.2.1 hd hy (n.here hL hW hS hp)
theorem op_irem {x y : Int32} (C : CX p s m args c cc nL own g hs) (hd : decode cc pc = .ok (.irem, 1)) (hp : pcOf P (i + 1) = pc + 1) (hL : LR g L nL ls) (hW : RW g hs h H) (hS : va_S (AA g) s.heap H locs) (hy : ¬ y = 0)
    (n : NX p l e R s m args below meth c cells slots Q nL g hs h P (i + 1, L, .int (x - x / y * y) :: S, h)) : W p l e R s m args below meth c H locs cells slots Q (F0 m pc ls ((.int y :: .int x :: S).map (ph g))) := lv_irem C.1 C.2.1 hd hy (n.here hL hW hS hp)
theorem op_ineg {x : Int32} (C : CX p s m args c cc nL own g hs) (hd : decode cc pc = .ok (.ineg, 1)) (hp : pcOf P (i + 1) = pc + 1) (hL : LR g L nL ls) (hW : RW g hs h H) (hS : va_S (AA g) s.heap H locs) 
    (n : NX p l e R s m args below meth c cells slots Q nL g hs h P (i + 1, L, .int (-x) :: S, h)) : W p l e R s m args below meth c H locs cells slots Q (F0 m pc ls ((.int x :: S).map (ph g))) := lv_ineg C.1 C.2.1 hd (n.here hL hW hS hp)
theorem op_ladd {x y : Int64} (C : CX p s m args c cc nL own g hs) (hd : decode cc pc = .ok (.ladd, 1)) (hp : pcOf P (i + 1) = pc + 1) (hL : LR g L nL ls) (hW : RW g hs h H) (hS : va_S (AA g) s.heap H locs) 
    (n : NX p l e R s m args below meth c cells slots Q nL g hs h P (i + 1, L, .long (x + y) :: S, h)) : W p l e R s m args below meth c H locs cells slots Q (F0 m pc ls ((.long y :: .long x :: S).map (ph g))) := lv_ladd C.1 C.2.1 hd (n.here hL hW hS hp)
theorem op_lsub {x y : Int64} (C : CX p s m args c cc nL own g hs) (hd : decode cc pc = .ok (.lsub, 1)) (hp : pcOf P (i + 1) = pc + 1) (hL : LR g L nL ls) (hW : RW g hs h H) (hS : va_S (AA g) s.heap H locs) 
    (n : NX p l e R s m args below meth c cells slots Q nL g hs h P (i + 1, L, .long (x - y) :: S, h)) : W p l e R s m args below meth c H locs cells slots Q (F0 m pc ls ((.long y :: .long x :: S).map (ph g))) := lv_lsub C.1 C.2.1 hd (n.here hL hW hS hp)
theorem op_lmul {x y : Int64} (C : CX p s m args c cc nL own g hs) (hd : decode cc pc = .ok (.lmul, 1)) (hp : pcOf P (i + 1) = pc + 1) (hL : LR g L nL ls) (hW : RW g hs h H) (hS : va_S (AA g) s.heap H locs) 
    (n : NX p l e R s m args below meth c cells slots Q nL g hs h P (i + 1, L, .long (x * y) :: S, h)) : W p l e R s m args below meth c H locs cells slots Q (F0 m pc ls ((.long y :: .long x :: S).map (ph g))) := lv_lmul C.1 C.2.1 hd (n.here hL hW hS hp)
theorem op_land {x y : Int64} (C : CX p s m args c cc nL own g hs) (hd : decode cc pc = .ok (.land, 1)) (hp : pcOf P (i + 1) = pc + 1) (hL : LR g L nL ls) (hW : RW g hs h H) (hS : va_S (AA g) s.heap H locs) 
    (n : NX p l e R s m args below meth c cells slots Q nL g hs h P (i + 1, L, .long (x &&& y) :: S, h)) : W p l e R s m args below meth c H locs cells slots Q (F0 m pc ls ((.long y :: .long x :: S).map (ph g))) := lv_land C.1 C.2.1 hd (n.here hL hW hS hp)
theorem op_lor {x y : Int64} (C : CX p s m args c cc nL own g hs) (hd : decode cc pc = .ok (.lor, 1)) (hp : pcOf P (i + 1) = pc + 1) (hL : LR g L nL ls) (hW : RW g hs h H) (hS : va_S (AA g) s.heap H locs) 
    (n : NX p l e R s m args below meth c cells slots Q nL g hs h P (i + 1, L, .long (x ||| y) :: S, h)) : W p l e R s m args below meth c H locs cells slots Q (F0 m pc ls ((.long y :: .long x :: S).map (ph g))) := lv_lor C.1 C.2.1 hd (n.here hL hW hS hp)
theorem op_ldiv {x y : Int64} (C : CX p s m args c cc nL own g hs) (hd : decode cc pc = .ok (.ldiv, 1)) (hp : pcOf P (i + 1) = pc + 1) (hL : LR g L nL ls) (hW : RW g hs h H) (hS : va_S (AA g) s.heap H locs) (hy : ¬ y = 0)
    (n : NX p l e R s m args below meth c cells slots Q nL g hs h P (i + 1, L, .long (x / y) :: S, h)) : W p l e R s m args below meth c H locs cells slots Q (F0 m pc ls ((.long y :: .long x :: S).map (ph g))) := lv_ldiv C.1 C.2.1 hd hy (n.here hL hW hS hp)
theorem op_lrem {x y : Int64} (C : CX p s m args c cc nL own g hs) (hd : decode cc pc = .ok (.lrem, 1)) (hp : pcOf P (i + 1) = pc + 1) (hL : LR g L nL ls) (hW : RW g hs h H) (hS : va_S (AA g) s.heap H locs) (hy : ¬ y = 0)
    (n : NX p l e R s m args below meth c cells slots Q nL g hs h P (i + 1, L, .long (x - x / y * y) :: S, h)) : W p l e R s m args below meth c H locs cells slots Q (F0 m pc ls ((.long y :: .long x :: S).map (ph g))) := lv_lrem C.1 C.2.1 hd hy (n.here hL hW hS hp)
theorem op_lneg {x : Int64} (C : CX p s m args c cc nL own g hs) (hd : decode cc pc = .ok (.lneg, 1)) (hp : pcOf P (i + 1) = pc + 1) (hL : LR g L nL ls) (hW : RW g hs h H) (hS : va_S (AA g) s.heap H locs) 
    (n : NX p l e R s m args below meth c cells slots Q nL g hs h P (i + 1, L, .long (-x) :: S, h)) : W p l e R s m args below meth c H locs cells slots Q (F0 m pc ls ((.long x :: S).map (ph g))) := lv_lneg C.1 C.2.1 hd (n.here hL hW hS hp)
theorem op_lshl {x : Int64} {y : Int32} (C : CX p s m args c cc nL own g hs) (hd : decode cc pc = .ok (.lshl, 1)) (hp : pcOf P (i + 1) = pc + 1) (hL : LR g L nL ls) (hW : RW g hs h H) (hS : va_S (AA g) s.heap H locs) 
    (n : NX p l e R s m args below meth c cells slots Q nL g hs h P (i + 1, L, .long (x <<< (y.toInt64 &&& 63)) :: S, h)) : W p l e R s m args below meth c H locs cells slots Q (F0 m pc ls ((.int y :: .long x :: S).map (ph g))) := lv_lshl C.1 C.2.1 hd rfl (n.here hL hW hS hp)
theorem op_lshr {x : Int64} {y : Int32} (C : CX p s m args c cc nL own g hs) (hd : decode cc pc = .ok (.lshr, 1)) (hp : pcOf P (i + 1) = pc + 1) (hL : LR g L nL ls) (hW : RW g hs h H) (hS : va_S (AA g) s.heap H locs) 
    (n : NX p l e R s m args below meth c cells slots Q nL g hs h P (i + 1, L, .long (x >>> (y.toInt64 &&& 63)) :: S, h)) : W p l e R s m args below meth c H locs cells slots Q (F0 m pc ls ((.int y :: .long x :: S).map (ph g))) := lv_lshr C.1 C.2.1 hd rfl (n.here hL hW hS hp)
theorem op_lushr {x : Int64} {y : Int32} (C : CX p s m args c cc nL own g hs) (hd : decode cc pc = .ok (.lushr, 1)) (hp : pcOf P (i + 1) = pc + 1) (hL : LR g L nL ls) (hW : RW g hs h H) (hS : va_S (AA g) s.heap H locs) 
    (n : NX p l e R s m args below meth c cells slots Q nL g hs h P (i + 1, L, .long ((x.toUInt64 >>> (y.toInt64.toUInt64 &&& Int64.toUInt64 63)).toInt64) :: S, h)) : W p l e R s m args below meth c H locs cells slots Q (F0 m pc ls ((.int y :: .long x :: S).map (ph g))) := lv_lushr C.1 C.2.1 hd rfl (n.here hL hW hS hp)
theorem op_lcmp {x y : Int64} (C : CX p s m args c cc nL own g hs) (hd : decode cc pc = .ok (.lcmp, 1)) (hp : pcOf P (i + 1) = pc + 1) (hL : LR g L nL ls) (hW : RW g hs h H) (hS : va_S (AA g) s.heap H locs) 
    (n : NX p l e R s m args below meth c cells slots Q nL g hs h P (i + 1, L, .int (lg_cmp x y) :: S, h)) : W p l e R s m args below meth c H locs cells slots Q (F0 m pc ls ((.long y :: .long x :: S).map (ph g))) := W.lcmp C.1 C.2.1 hd (n.here hL hW hS hp)
theorem op_i2l {x : Int32} (C : CX p s m args c cc nL own g hs) (hd : decode cc pc = .ok (.i2l, 1)) (hp : pcOf P (i + 1) = pc + 1) (hL : LR g L nL ls) (hW : RW g hs h H) (hS : va_S (AA g) s.heap H locs) 
    (n : NX p l e R s m args below meth c cells slots Q nL g hs h P (i + 1, L, .long x.toInt64 :: S, h)) : W p l e R s m args below meth c H locs cells slots Q (F0 m pc ls ((.int x :: S).map (ph g))) := lv_i2l C.1 C.2.1 hd rfl (n.here hL hW hS hp)
theorem op_l2i {x : Int64} (C : CX p s m args c cc nL own g hs) (hd : decode cc pc = .ok (.l2i, 1)) (hp : pcOf P (i + 1) = pc + 1) (hL : LR g L nL ls) (hW : RW g hs h H) (hS : va_S (AA g) s.heap H locs) 
    (n : NX p l e R s m args below meth c cells slots Q nL g hs h P (i + 1, L, .int x.toInt32 :: S, h)) : W p l e R s m args below meth c H locs cells slots Q (F0 m pc ls ((.long x :: S).map (ph g))) := lv_l2i C.1 C.2.1 hd rfl (n.here hL hW hS hp)
theorem op_i2c {x : Int32} (C : CX p s m args c cc nL own g hs) (hd : decode cc pc = .ok (.i2c, 1)) (hp : pcOf P (i + 1) = pc + 1) (hL : LR g L nL ls) (hW : RW g hs h H) (hS : va_S (AA g) s.heap H locs) 
    (n : NX p l e R s m args below meth c cells slots Q nL g hs h P (i + 1, L, .int (x.toUInt32 % 65536).toInt32 :: S, h)) : W p l e R s m args below meth c H locs cells slots Q (F0 m pc ls ((.int x :: S).map (ph g))) := lv_i2c C.1 C.2.1 hd rfl (n.here hL hW hS hp)
theorem op_dup {v : Value} (C : CX p s m args c cc nL own g hs) (hd : decode cc pc = .ok (.dup, 1)) (hp : pcOf P (i + 1) = pc + 1) (hL : LR g L nL ls) (hW : RW g hs h H) (hS : va_S (AA g) s.heap H locs) (hv : v.category = 1)
    (n : NX p l e R s m args below meth c cells slots Q nL g hs h P (i + 1, L, v :: v :: S, h)) : W p l e R s m args below meth c H locs cells slots Q (F0 m pc ls ((v :: S).map (ph g))) := lv_dup C.1 C.2.1 hd ((ph_cat2 g v).trans hv) (n.here hL hW hS hp)
theorem op_dup2a {v w : Value} (C : CX p s m args c cc nL own g hs) (hd : decode cc pc = .ok (.dup2, 1)) (hp : pcOf P (i + 1) = pc + 1) (hL : LR g L nL ls) (hW : RW g hs h H) (hS : va_S (AA g) s.heap H locs) (hv : v.category = 1) (hw : w.category = 1)
    (n : NX p l e R s m args below meth c cells slots Q nL g hs h P (i + 1, L, v :: w :: v :: w :: S, h)) : W p l e R s m args below meth c H locs cells slots Q (F0 m pc ls ((v :: w :: S).map (ph g))) := lv_dup2_11 C.1 C.2.1 hd ((ph_cat2 g v).trans hv) ((ph_cat2 g w).trans hw) (n.here hL hW hS hp)
theorem op_dup2b {v : Value} (C : CX p s m args c cc nL own g hs) (hd : decode cc pc = .ok (.dup2, 1)) (hp : pcOf P (i + 1) = pc + 1) (hL : LR g L nL ls) (hW : RW g hs h H) (hS : va_S (AA g) s.heap H locs) (hv : v.category = 2)
    (n : NX p l e R s m args below meth c cells slots Q nL g hs h P (i + 1, L, v :: v :: S, h)) : W p l e R s m args below meth c H locs cells slots Q (F0 m pc ls ((v :: S).map (ph g))) := lv_dup2_2 C.1 C.2.1 hd ((ph_cat2 g v).trans hv) (n.here hL hW hS hp)
theorem op_pop {v : Value} (C : CX p s m args c cc nL own g hs) (hd : decode cc pc = .ok (.pop, 1)) (hp : pcOf P (i + 1) = pc + 1) (hL : LR g L nL ls) (hW : RW g hs h H) (hS : va_S (AA g) s.heap H locs) (hv : v.category = 1)
    (n : NX p l e R s m args below meth c cells slots Q nL g hs h P (i + 1, L, S, h)) : W p l e R s m args below meth c H locs cells slots Q (F0 m pc ls ((v :: S).map (ph g))) := lv_pop C.1 C.2.1 hd ((ph_cat2 g v).trans hv) (n.here hL hW hS hp)
theorem op_goto {t : Nat} {off : Int} (C : CX p s m args c cc nL own g hs) (hd : decode cc pc = .ok (.goto off, 3)) (ht : (pc : Int) + off = (pcOf P t : Int)) (hL : LR g L nL ls) (hW : RW g hs h H) (hS : va_S (AA g) s.heap H locs) (n : NX p l e R s m args below meth c cells slots Q nL g hs h P (t, L, S, h)) : W p l e R s m args below meth c H locs cells slots Q (F0 m pc ls (S.map (ph g))) := lv_goto C.1 C.2.1 hd ht (n.here hL hW hS rfl)
theorem op_if_eq {x : Int32} {t : Nat} {off : Int} (C : CX p s m args c cc nL own g hs) (hd : decode cc pc = .ok (.ifCond .eq off, 3)) (hp : pcOf P (i + 1) = pc + 3) (ht : (pc : Int) + off = (pcOf P t : Int)) (hL : LR g L nL ls) (hW : RW g hs h H) (hS : va_S (AA g) s.heap H locs) (n1 : (x = 0) → NX p l e R s m args below meth c cells slots Q nL g hs h P (t, L, S, h)) (n2 : ¬ (x = 0) → NX p l e R s m args below meth c cells slots Q nL g hs h P (i + 1, L, S, h)) : W p l e R s m args below meth c H locs cells slots Q (F0 m pc ls ((.int x :: S).map (ph g))) := lv_if_eq C.1 C.2.1 hd ht (fun q => (n1 (by first | exact q | (intro z; exact q z))).here hL hW hS rfl) (fun q => (n2 (by first | exact q | (intro z; exact z q) | (intro z; exact q z))).here hL hW hS hp)
theorem op_icmp_eq {x y : Int32} {t : Nat} {off : Int} (C : CX p s m args c cc nL own g hs) (hd : decode cc pc = .ok (.if_icmp .eq off, 3)) (hp : pcOf P (i + 1) = pc + 3) (ht : (pc : Int) + off = (pcOf P t : Int)) (hL : LR g L nL ls) (hW : RW g hs h H) (hS : va_S (AA g) s.heap H locs) (n1 : (x = y) → NX p l e R s m args below meth c cells slots Q nL g hs h P (t, L, S, h)) (n2 : ¬ (x = y) → NX p l e R s m args below meth c cells slots Q nL g hs h P (i + 1, L, S, h)) : W p l e R s m args below meth c H locs cells slots Q (F0 m pc ls ((.int y :: .int x :: S).map (ph g))) := lv_icmp_eq C.1 C.2.1 hd ht (fun q => (n1 (by first | exact q | (intro z; exact q z))).here hL hW hS rfl) (fun q => (n2 (by first | exact q | (intro z; exact z q) | (intro z; exact q z))).here hL hW hS hp)
theorem op_if_ne {x : Int32} {t : Nat} {off : Int} (C : CX p s m args c cc nL own g hs) (hd : decode cc pc = .ok (.ifCond .ne off, 3)) (hp : pcOf P (i + 1) = pc + 3) (ht : (pc : Int) + off = (pcOf P t : Int)) (hL : LR g L nL ls) (hW : RW g hs h H) (hS : va_S (AA g) s.heap H locs) (n1 : (¬ x = 0) → NX p l e R s m args below meth c cells slots Q nL g hs h P (t, L, S, h)) (n2 : ¬ (¬ x = 0) → NX p l e R s m args below meth c cells slots Q nL g hs h P (i + 1, L, S, h)) : W p l e R s m args below meth c H locs cells slots Q (F0 m pc ls ((.int x :: S).map (ph g))) := lv_if_ne C.1 C.2.1 hd ht (fun q => (n1 (by first | exact q | (intro z; exact q z))).here hL hW hS rfl) (fun q => (n2 (by first | exact q | (intro z; exact z q) | (intro z; exact q z))).here hL hW hS hp)
theorem op_icmp_ne {x y : Int32} {t : Nat} {off : Int} (C : CX p s m args c cc nL own g hs) (hd : decode cc pc = .ok (.if_icmp .ne off, 3)) (hp : pcOf P (i + 1) = pc + 3) (ht : (pc : Int) + off = (pcOf P t : Int)) (hL : LR g L nL ls) (hW : RW g hs h H) (hS : va_S (AA g) s.heap H locs) (n1 : (¬ x = y) → NX p l e R s m args below meth c cells slots Q nL g hs h P (t, L, S, h)) (n2 : ¬ (¬ x = y) → NX p l e R s m args below meth c cells slots Q nL g hs h P (i + 1, L, S, h)) : W p l e R s m args below meth c H locs cells slots Q (F0 m pc ls ((.int y :: .int x :: S).map (ph g))) := lv_icmp_ne C.1 C.2.1 hd ht (fun q => (n1 (by first | exact q | (intro z; exact q z))).here hL hW hS rfl) (fun q => (n2 (by first | exact q | (intro z; exact z q) | (intro z; exact q z))).here hL hW hS hp)
theorem op_if_lt {x : Int32} {t : Nat} {off : Int} (C : CX p s m args c cc nL own g hs) (hd : decode cc pc = .ok (.ifCond .lt off, 3)) (hp : pcOf P (i + 1) = pc + 3) (ht : (pc : Int) + off = (pcOf P t : Int)) (hL : LR g L nL ls) (hW : RW g hs h H) (hS : va_S (AA g) s.heap H locs) (n1 : (x < 0) → NX p l e R s m args below meth c cells slots Q nL g hs h P (t, L, S, h)) (n2 : ¬ (x < 0) → NX p l e R s m args below meth c cells slots Q nL g hs h P (i + 1, L, S, h)) : W p l e R s m args below meth c H locs cells slots Q (F0 m pc ls ((.int x :: S).map (ph g))) := lv_if_lt C.1 C.2.1 hd ht (fun q => (n1 (by first | exact q | (intro z; exact q z))).here hL hW hS rfl) (fun q => (n2 (by first | exact q | (intro z; exact z q) | (intro z; exact q z))).here hL hW hS hp)
theorem op_icmp_lt {x y : Int32} {t : Nat} {off : Int} (C : CX p s m args c cc nL own g hs) (hd : decode cc pc = .ok (.if_icmp .lt off, 3)) (hp : pcOf P (i + 1) = pc + 3) (ht : (pc : Int) + off = (pcOf P t : Int)) (hL : LR g L nL ls) (hW : RW g hs h H) (hS : va_S (AA g) s.heap H locs) (n1 : (x < y) → NX p l e R s m args below meth c cells slots Q nL g hs h P (t, L, S, h)) (n2 : ¬ (x < y) → NX p l e R s m args below meth c cells slots Q nL g hs h P (i + 1, L, S, h)) : W p l e R s m args below meth c H locs cells slots Q (F0 m pc ls ((.int y :: .int x :: S).map (ph g))) := lv_icmp_lt C.1 C.2.1 hd ht (fun q => (n1 (by first | exact q | (intro z; exact q z))).here hL hW hS rfl) (fun q => (n2 (by first | exact q | (intro z; exact z q) | (intro z; exact q z))).here hL hW hS hp)
theorem op_if_ge {x : Int32} {t : Nat} {off : Int} (C : CX p s m args c cc nL own g hs) (hd : decode cc pc = .ok (.ifCond .ge off, 3)) (hp : pcOf P (i + 1) = pc + 3) (ht : (pc : Int) + off = (pcOf P t : Int)) (hL : LR g L nL ls) (hW : RW g hs h H) (hS : va_S (AA g) s.heap H locs) (n1 : (0 ≤ x) → NX p l e R s m args below meth c cells slots Q nL g hs h P (t, L, S, h)) (n2 : ¬ (0 ≤ x) → NX p l e R s m args below meth c cells slots Q nL g hs h P (i + 1, L, S, h)) : W p l e R s m args below meth c H locs cells slots Q (F0 m pc ls ((.int x :: S).map (ph g))) := lv_if_ge C.1 C.2.1 hd ht (fun q => (n1 (by first | exact q | (intro z; exact q z))).here hL hW hS rfl) (fun q => (n2 (by first | exact q | (intro z; exact z q) | (intro z; exact q z))).here hL hW hS hp)
theorem op_icmp_ge {x y : Int32} {t : Nat} {off : Int} (C : CX p s m args c cc nL own g hs) (hd : decode cc pc = .ok (.if_icmp .ge off, 3)) (hp : pcOf P (i + 1) = pc + 3) (ht : (pc : Int) + off = (pcOf P t : Int)) (hL : LR g L nL ls) (hW : RW g hs h H) (hS : va_S (AA g) s.heap H locs) (n1 : (y ≤ x) → NX p l e R s m args below meth c cells slots Q nL g hs h P (t, L, S, h)) (n2 : ¬ (y ≤ x) → NX p l e R s m args below meth c cells slots Q nL g hs h P (i + 1, L, S, h)) : W p l e R s m args below meth c H locs cells slots Q (F0 m pc ls ((.int y :: .int x :: S).map (ph g))) := lv_icmp_ge C.1 C.2.1 hd ht (fun q => (n1 (by first | exact q | (intro z; exact q z))).here hL hW hS rfl) (fun q => (n2 (by first | exact q | (intro z; exact z q) | (intro z; exact q z))).here hL hW hS hp)
theorem op_if_gt {x : Int32} {t : Nat} {off : Int} (C : CX p s m args c cc nL own g hs) (hd : decode cc pc = .ok (.ifCond .gt off, 3)) (hp : pcOf P (i + 1) = pc + 3) (ht : (pc : Int) + off = (pcOf P t : Int)) (hL : LR g L nL ls) (hW : RW g hs h H) (hS : va_S (AA g) s.heap H locs) (n1 : (0 < x) → NX p l e R s m args below meth c cells slots Q nL g hs h P (t, L, S, h)) (n2 : ¬ (0 < x) → NX p l e R s m args below meth c cells slots Q nL g hs h P (i + 1, L, S, h)) : W p l e R s m args below meth c H locs cells slots Q (F0 m pc ls ((.int x :: S).map (ph g))) := lv_if_gt C.1 C.2.1 hd ht (fun q => (n1 (by first | exact q | (intro z; exact q z))).here hL hW hS rfl) (fun q => (n2 (by first | exact q | (intro z; exact z q) | (intro z; exact q z))).here hL hW hS hp)
theorem op_icmp_gt {x y : Int32} {t : Nat} {off : Int} (C : CX p s m args c cc nL own g hs) (hd : decode cc pc = .ok (.if_icmp .gt off, 3)) (hp : pcOf P (i + 1) = pc + 3) (ht : (pc : Int) + off = (pcOf P t : Int)) (hL : LR g L nL ls) (hW : RW g hs h H) (hS : va_S (AA g) s.heap H locs) (n1 : (y < x) → NX p l e R s m args below meth c cells slots Q nL g hs h P (t, L, S, h)) (n2 : ¬ (y < x) → NX p l e R s m args below meth c cells slots Q nL g hs h P (i + 1, L, S, h)) : W p l e R s m args below meth c H locs cells slots Q (F0 m pc ls ((.int y :: .int x :: S).map (ph g))) := lv_icmp_gt C.1 C.2.1 hd ht (fun q => (n1 (by first | exact q | (intro z; exact q z))).here hL hW hS rfl) (fun q => (n2 (by first | exact q | (intro z; exact z q) | (intro z; exact q z))).here hL hW hS hp)
theorem op_if_le {x : Int32} {t : Nat} {off : Int} (C : CX p s m args c cc nL own g hs) (hd : decode cc pc = .ok (.ifCond .le off, 3)) (hp : pcOf P (i + 1) = pc + 3) (ht : (pc : Int) + off = (pcOf P t : Int)) (hL : LR g L nL ls) (hW : RW g hs h H) (hS : va_S (AA g) s.heap H locs) (n1 : (x ≤ 0) → NX p l e R s m args below meth c cells slots Q nL g hs h P (t, L, S, h)) (n2 : ¬ (x ≤ 0) → NX p l e R s m args below meth c cells slots Q nL g hs h P (i + 1, L, S, h)) : W p l e R s m args below meth c H locs cells slots Q (F0 m pc ls ((.int x :: S).map (ph g))) := lv_if_le C.1 C.2.1 hd ht (fun q => (n1 (by first | exact q | (intro z; exact q z))).here hL hW hS rfl) (fun q => (n2 (by first | exact q | (intro z; exact z q) | (intro z; exact q z))).here hL hW hS hp)
theorem op_icmp_le {x y : Int32} {t : Nat} {off : Int} (C : CX p s m args c cc nL own g hs) (hd : decode cc pc = .ok (.if_icmp .le off, 3)) (hp : pcOf P (i + 1) = pc + 3) (ht : (pc : Int) + off = (pcOf P t : Int)) (hL : LR g L nL ls) (hW : RW g hs h H) (hS : va_S (AA g) s.heap H locs) (n1 : (x ≤ y) → NX p l e R s m args below meth c cells slots Q nL g hs h P (t, L, S, h)) (n2 : ¬ (x ≤ y) → NX p l e R s m args below meth c cells slots Q nL g hs h P (i + 1, L, S, h)) : W p l e R s m args below meth c H locs cells slots Q (F0 m pc ls ((.int y :: .int x :: S).map (ph g))) := lv_icmp_le C.1 C.2.1 hd ht (fun q => (n1 (by first | exact q | (intro z; exact q z))).here hL hW hS rfl) (fun q => (n2 (by first | exact q | (intro z; exact z q) | (intro z; exact q z))).here hL hW hS hp)
theorem op_acmp_eq {x y : Nat} {t : Nat} {off : Int} (C : CX p s m args c cc nL own g hs) (hd : decode cc pc = .ok (.if_acmp .eq off, 3)) (hp : pcOf P (i + 1) = pc + 3) (ht : (pc : Int) + off = (pcOf P t : Int)) (hL : LR g L nL ls) (hW : RW g hs h H) (hS : va_S (AA g) s.heap H locs) (hx : 2 ≤ x ∧ x ≤ 25 ∧ 2 ≤ y ∧ y ≤ 25) (n1 : x = y → NX p l e R s m args below meth c cells slots Q nL g hs h P (t, L, S, h)) (n2 : ¬ x = y → NX p l e R s m args below meth c cells slots Q nL g hs h P (i + 1, L, S, h)) : W p l e R s m args below meth c H locs cells slots Q (F0 m pc ls ((.ref y :: .ref x :: S).map (ph g))) := lv_acmp_eq C.1 C.2.1 hd ht (fun q => (n1 (C.2.2.2.2.2.2.1.2.2.2.2.2.2 x y hx.1 hx.2.1 hx.2.2.1 hx.2.2.2 q)).here hL hW hS rfl) (fun q => (n2 (fun z => q (by rw [z]))).here hL hW hS hp)
theorem op_acmp_ne {x y : Nat} {t : Nat} {off : Int} (C : CX p s m args c cc nL own g hs) (hd : decode cc pc = .ok (.if_acmp .ne off, 3)) (hp : pcOf P (i + 1) = pc + 3) (ht : (pc : Int) + off = (pcOf P t : Int)) (hL : LR g L nL ls) (hW : RW g hs h H) (hS : va_S (AA g) s.heap H locs) (hx : 2 ≤ x ∧ x ≤ 25 ∧ 2 ≤ y ∧ y ≤ 25) (n1 : ¬ x = y → NX p l e R s m args below meth c cells slots Q nL g hs h P (t, L, S, h)) (n2 : x = y → NX p l e R s m args below meth c cells slots Q nL g hs h P (i + 1, L, S, h)) : W p l e R s m args below meth c H locs cells slots Q (F0 m pc ls ((.ref y :: .ref x :: S).map (ph g))) := lv_acmp_ne C.1 C.2.1 hd ht (fun q => (n1 (fun z => q (by rw [z]))).here hL hW hS rfl) (fun q => (n2 (C.2.2.2.2.2.2.1.2.2.2.2.2.2 x y hx.1 hx.2.1 hx.2.2.1 hx.2.2.2 q)).here hL hW hS hp)
theorem op_ifnull {x : Nat} {t : Nat} {off : Int} (C : CX p s m args c cc nL own g hs) (hd : decode cc pc = .ok (.ifnull off, 3)) (hp : pcOf P (i + 1) = pc + 3) (ht : (pc : Int) + off = (pcOf P t : Int)) (hL : LR g L nL ls) (hW : RW g hs h H) (hS : va_S (AA g) s.heap H locs) (hx : x = 0 ∨ 100 ≤ x) (n1 : x = 0 → NX p l e R s m args below meth c cells slots Q nL g hs h P (t, L, S, h)) (n2 : ¬ x = 0 → NX p l e R s m args below meth c cells slots Q nL g hs h P (i + 1, L, S, h)) : W p l e R s m args below meth c H locs cells slots Q (F0 m pc ls ((.ref x :: S).map (ph g))) := by
  rcases hx with hx | hx
  · subst hx
    exact lv_ifnullN C.1 C.2.1 hd ht ((n1 rfl).here hL hW hS rfl)
  · rw [List.map_cons, ph_own hx]
    exact lv_ifnull C.1 C.2.1 hd ((n2 (by omega)).here hL hW hS hp)
theorem op_ifnonnull {x : Nat} {t : Nat} {off : Int} (C : CX p s m args c cc nL own g hs) (hd : decode cc pc = .ok (.ifnonnull off, 3)) (hp : pcOf P (i + 1) = pc + 3) (ht : (pc : Int) + off = (pcOf P t : Int)) (hL : LR g L nL ls) (hW : RW g hs h H) (hS : va_S (AA g) s.heap H locs) (hx : x = 0 ∨ 100 ≤ x) (n1 : ¬ x = 0 → NX p l e R s m args below meth c cells slots Q nL g hs h P (t, L, S, h)) (n2 : x = 0 → NX p l e R s m args below meth c cells slots Q nL g hs h P (i + 1, L, S, h)) : W p l e R s m args below meth c H locs cells slots Q (F0 m pc ls ((.ref x :: S).map (ph g))) := by
  rcases hx with hx | hx
  · subst hx
    exact lv_ifnonnullN C.1 C.2.1 hd ((n2 rfl).here hL hW hS hp)
  · rw [List.map_cons, ph_own hx]
    exact lv_ifnonnull C.1 C.2.1 hd ht ((n1 (by omega)).here hL hW hS rfl)
theorem op_tsw {x : Int32} {dflt lo hi : Int} {offs : Array Int} {ln d : Nat} {ts : List Nat} (C : CX p s m args c cc nL own g hs) (hd : decode cc pc = .ok (.tableswitch dflt lo hi offs, ln)) (hl : hi = lo + ts.length - 1) (hz0 : offs.size = ts.length) (hdf : (pc : Int) + dflt = (pcOf P d : Int)) (hts : ∀ k, k < ts.length → (pc : Int) + offs.getD k 0 = (pcOf P (ts.getD k 0) : Int)) (hL : LR g L nL ls) (hW : RW g hs h H) (hS : va_S (AA g) s.heap H locs)
    (n1 : (x.toInt < lo ∨ lo + ts.length ≤ x.toInt) → NX p l e R s m args below meth c cells slots Q nL g hs h P (d, L, S, h)) (n2 : ¬ (x.toInt < lo ∨ lo + ts.length ≤ x.toInt) → NX p l e R s m args below meth c cells slots Q nL g hs h P (ts.getD (x.toInt - lo).toNat 0, L, S, h)) : W p l e R s m args below meth c H locs cells slots Q (F0 m pc ls ((.int x :: S).map (ph g))) := by
  by_cases q : x.toInt < lo ∨ lo + ts.length ≤ x.toInt
  · exact lv_tableOut C.1 C.2.1 hd (by rcases q with q | q; exact Or.inl q; exact Or.inr (by omega)) hdf ((n1 q).here hL hW hS rfl)
  · have h1 : ¬ x.toInt < lo := fun z => q (Or.inl z)
    have h2 : ¬ hi < x.toInt := fun z => q (Or.inr (by omega))
    have hk : (x.toInt - lo).toNat < ts.length := by omega
    have ho : offs[(x.toInt - lo).toNat]? = some (offs.getD (x.toInt - lo).toNat 0) := by
      rw [Array.getD_eq_getD_getElem?, Array.getElem?_eq_getElem (by omega)]; rfl
    exact lv_tableIn C.1 C.2.1 hd h1 h2 ho (hts _ hk) ((n2 q).here hL hW hS rfl)
end OPS
end
section
/-! STEPS THAT READ AND WRITE THE HEAP -/
theorem mem_AW {w : Cond} {k : Nat} (h : lw_tbl[k]? = some w) (hg : (goodWord w || isNestW w) = true) : w ∈ AW := List.mem_filter.mpr ⟨List.mem_of_getElem? h, hg⟩
theorem clT_get {c : Nat} (h : c < 13) : clT[c]? = some (clk c) := by
  unfold clk
  rw [List.getD_eq_getElem?_getD, List.getElem?_eq_getElem (show c < clT.length from h)]; rfl
theorem clN : ∀ c, c < 13 → (clk c).2.2 = fdn c := by decide +kernel
theorem lay_in {c : Nat} (h : c < 13) : ∀ w ∈ u_ws (clk c).1 (clk c).2.1 (clk c).2.2, w ∈ AW := by
  intro w hw
  obtain ⟨k, hk, rfl⟩ := List.mem_map.mp hw
  have h1 := List.all_eq_true.mp lay_all c (List.mem_range.mpr h)
  have h2 := List.all_eq_true.mp h1 k hk
  have h3 := of_decide_eq_true h2
  refine mem_AW h3 ?_
  unfold u_lay
  split <;> rfl
theorem fd_ty : ∀ c, c < 13 → ∀ k, k < fdn c → (fdk c k = 0 → tyk c k = .int) ∧ (fdk c k = 1 → tyk c k = .boolean) ∧ (fdk c k = 2 → (tyk c k).isReference = true) ∧ (fdk c k = 0 ∨ fdk c k = 1 ∨ fdk c k = 2) := by decide +kernel
theorem fit_ref {ty : FieldType} (h : ty.isReference = true) (r : Option Nat) : narrow ty (va_rf r) = va_rf r ∧ fits ty (va_rf r) = true := by
  cases ty <;> first | (cases h; done) | (cases r <;> exact ⟨rfl, rfl⟩)
theorem fit_bool {x : Int32} (h : i01 x = true) : narrow .boolean (.int x) = .int x ∧ fits .boolean (.int x) = true := by
  unfold i01 at h
  rw [Bool.or_eq_true] at h
  rcases h with h | h <;> (have := of_decide_eq_true h; subst this; decide)
theorem ixo_in {x : Int32} {n : Nat} (h : ixo x n = true) : vp_in x n := by
  unfold ixo at h
  rw [Bool.and_eq_true] at h
  have h1 := of_decide_eq_true h.1
  have h2 := of_decide_eq_true h.2
  unfold vp_in
  rintro (q | q)
  · exact absurd h1 (Int32.not_le.mpr q)
  · omega
theorem cE_obj {g : GG} {h : AH} {a k : Nat} (hk : hK h a = k) (hc : k < 13) : cE g h a = .inr (k, (List.range (fdn k)).map (fvl g h k a)) := by
  unfold cE; rw [hk, if_pos (by omega)]
theorem cE_int {g : GG} {h : AH} {a k : Nat} (hk : hK h a = k) (hc : 20 ≤ k) (hc2 : k < 23) : cE g h a = .inl (g.2.1 k, hN h a, .inl (hI h a)) := by
  unfold cE; rw [hk, if_neg (by omega), if_pos hc2]
theorem cE_long {g : GG} {h : AH} {a : Nat} (hk : hK h a = 23) : cE g h a = .inl (g.2.1 23, hN h a, .inr (.inl (hJ h a))) := by
  unfold cE; rw [hk]; rfl
theorem cE_ref {g : GG} {h : AH} {a k : Nat} (hk : hK h a = k) (hc : 24 ≤ k) : cE g h a = .inl (g.2.1 k, hN h a, .inr (.inr (.inr (.inr (fun j => rq g (hR h a j)))))) := by
  unfold cE; rw [hk, if_neg (by omega), if_neg (by omega), if_neg (by omega)]
theorem one_P {D : va_G} {cl : List vw_C} {q : Nat × va_E} {H : Heap} (h : va_at D cl q H) : va_P D cl [q] H := fun k x hx => by
  match k, hx with
  | 0, hx => cases hx; exact h
theorem upd_upq (f : Nat → Nat → Int32) (a j : Nat) (v : Int32) : upq f a j v a = upd (f a) j v := by
  funext y; unfold upq upd; rw [if_pos rfl]
theorem upq_ne {α : Type} (f : Nat → Nat → α) {a x : Nat} (h : x ≠ a) (j : Nat) (v : α) : upq f a j v x = f x := by
  funext y; unfold upq; rw [if_neg h]
section HEAP
variable {p : Program} {l : Launch} {e : Env} {R : Room} {s : State} {m : MethodId} {args : Array Value} {below : List Frame} {meth : Method} {c : Code} {H : Heap} {locs : List Loc} {cells slots : Nat} {Q : State → Prop} {cc : ByteArray} {pc nL own : Nat} {ls : Array Slot} {g : GG} {hs h : AH} {P : List IR} {i : Nat} {L S : List Value}
def fvA (h : AH) (c a k : Nat) : Value := if fdk c k = 2 then .ref (hR h a k) else .int (hI h a k)
theorem ph_fvA (g : GG) (h : AH) (c a k : Nat) : ph g (fvA h c a k) = fvl g h c a k := by
  unfold fvA fvl; split <;> rfl
def flk (own idx cK k : Nat) : Cond := .fieldLink (cnm own) idx ((clk cK).2.1 k).1 ((clk cK).2.1 k).2.1 ((clk cK).2.1 k).2.2.1
def flkN (own idx cK k : Nat) : Cond := .fieldLinkNest (cnm own) idx ((clk cK).2.1 k).1 ((clk cK).2.1 k).2.1 ((clk cK).2.1 k).2.2.1 "PenThatJumps"
theorem op_getf {idx cK k a : Nat} (C : CX p s m args c cc nL own g hs) (hd : decode cc pc = .ok (.getfield idx, 3)) (hp : pcOf P (i + 1) = pc + 3) (hL : LR g L nL ls) (hW : RW g hs h H) (hS : va_S (AA g) s.heap H locs)
    (hk : hK h a = cK) (hc : cK < 13) (hkn : k < fdn cK) (hl : flk own idx cK k ∈ AW ∨ flkN own idx cK k ∈ AW)
    (n : NX p l e R s m args below meth c cells slots Q nL g hs h P (i + 1, L, fvA h cK a k :: S, h)) : W p l e R s m args below meth c H locs cells slots Q (F0 m pc ls ((.ref a :: S).map (ph g))) := by
  obtain ⟨h0, h1⟩ := hW.own (a := a) (by omega)
  have hat := (hW.2.2.1 a h0 h1).2
  rw [cE_obj hk hc] at hat
  have n' := n.here hL hW hS hp
  rw [List.map_cons, ph_fvA] at n'
  rw [List.map_cons, ph_own h0]
  have hv : ((List.range (fdn cK)).map (fvl g h cK a))[k]? = some (fvl g h cK a k) := by
    rw [List.getElem?_map, List.getElem?_range hkn]; rfl
  have hN : k < (clk cK).2.2 := by rw [clN cK hc]; exact hkn
  rcases hl with hl | hl
  · exact va_get (own := cnm own) C.1 C.2.1 C.2.2.2.2.1 (lay_in hc) C.2.2.2.1 C.2.2.2.2.2.1 (one_P hat) 0 rfl (clT_get hc) k hN (C.2.2.2.2.1 _ hl) (fun _ z => z) hv hd n'
  · exact va_getN (own := cnm own) C.1 C.2.1 C.2.2.2.2.1 (lay_in hc) C.2.2.2.1 C.2.2.2.2.2.1 (one_P hat) 0 rfl (clT_get hc) k hN (C.2.2.2.2.1 _ hl) (fun _ z => z) hv hd n'
/-- the new heap behind a putfield -/
theorem put_at {cK k a : Nat} {h' : AH} {H' : Heap} {cell : Cell} {v : Value} (C : CX p s m args c cc nL own g hs) (hW : RW g hs h H) (hk : hK h a = cK) (hc : cK < 13) (hkn : k < fdn cK) (h0 : 100 ≤ a) (h1 : a < hz h)
    (ez : hz h' = hz h) (eK : hK h' = hK h) (eN : hN h' = hN h) (eI : ∀ x, x ≠ a → hI h' x = hI h x) (eJ : ∀ x, x ≠ a → hJ h' x = hJ h x) (eR : ∀ x, x ≠ a → hR h' x = hR h x) (ev : ∀ j, fvl g h' cK a j = if j = k then v else fvl g h cK a j)
    (q1 : cell.cls = g.1.1 cK) (q2 : cell.vm = .none) (q3 : ∀ j, j < (clk cK).2.2 → cell.slots[g.1.2 cK j]? = some (vp_V ((List.range (fdn cK)).map (fvl g h cK a)) j))
    (e1 : H'[gb g + (a - 100)]? = some (cell.setSlot (g.1.2 cK k) v)) (e2 : H'.size = H.size) (e3 : ∀ q : Nat, q ≠ gb g + (a - 100) → H'[q]? = H[q]?) : RW g hs h' H' := by
  refine hW.upd h0 h1 ez eK eN eI eJ eR e2 e3 ?_
  have hk' : hK h' a = cK := by rw [eK]; exact hk
  rw [cE_obj hk' hc]
  have hN : k < (clk cK).2.2 := by rw [clN cK hc]; exact hkn
  have hap := va_apart (own := cnm own) C.2.2.2.2.1 (lay_in hc) (tyk cK) (tyk_ok cK hc) (nmk_ok cK hc) C.2.2.2.2.2.1 (clT_get hc)
  have hlen : ((List.range (fdn cK)).map (fvl g h cK a)).length = fdn cK := by rw [List.length_map, List.length_range]
  refine ⟨_, clT_get hc, t_OB.to (V := updV (vp_V ((List.range (fdn cK)).map (fvl g h cK a))) k v) ⟨_, e1, q1, q2, t_set q3 hap hN v⟩ (fun j hj => ?_)⟩
  have hj' : j < fdn cK := by rw [← clN cK hc]; exact hj
  unfold updV vp_V
  rw [List.getD_eq_getElem?_getD, List.getD_eq_getElem?_getD, List.getElem?_map, List.getElem?_map, List.getElem?_range hj']
  show (if j = k then v else fvl g h cK a j) = fvl g h' cK a j
  rw [ev j]
theorem op_putf {idx cK k a : Nat} {v : Value} {h' : AH} (C : CX p s m args c cc nL own g hs) (hd : decode cc pc = .ok (.putfield idx, 3)) (hp : pcOf P (i + 1) = pc + 3) (hL : LR g L nL ls) (hW : RW g hs h H) (hS : va_S (AA g) s.heap H locs)
    (hk : hK h a = cK) (hc : cK < 13) (hkn : k < fdn cK) (hn : narrow (tyk cK k) (ph g v) = ph g v) (hfit : fits (tyk cK k) (ph g v) = true)
    (hl : (((clk cK).2.1 k).2.2.2 = false ∧ (flk own idx cK k ∈ AW ∨ flkN own idx cK k ∈ AW)) ∨ (((clk cK).2.1 k).2.2.2 = true ∧ flk own idx cK k ∈ AW ∧ meth.name = "<init>" ∧ ((clk cK).2.1 k).1 = cnm own))
    (ez : hz h' = hz h) (eu : hu h' = hu h) (eK : hK h' = hK h) (eN : hN h' = hN h) (eI : ∀ x, x ≠ a → hI h' x = hI h x) (eJ : ∀ x, x ≠ a → hJ h' x = hJ h x) (eR : ∀ x, x ≠ a → hR h' x = hR h x) (ev : ∀ j, fvl g h' cK a j = if j = k then ph g v else fvl g h cK a j)
    (n : NX p l e R s m args below meth c cells slots Q nL g hs h P (i + 1, L, S, h')) : W p l e R s m args below meth c H locs cells slots Q (F0 m pc ls ((v :: .ref a :: S).map (ph g))) := by
  obtain ⟨h0, h1⟩ := hW.own (a := a) (by omega)
  have hat := (hW.2.2.1 a h0 h1).2
  rw [cE_obj hk hc] at hat
  rw [List.map_cons, List.map_cons, ph_own h0]
  have hN : k < (clk cK).2.2 := by rw [clN cK hc]; exact hkn
  obtain ⟨r, r1, cell, q1, q2, q3, q4⟩ := hat
  have hr : r = clk cK := Option.some.inj (r1.symm.trans (clT_get hc))
  subst hr
  have hts := C.2.2.2.2.1
  have hin := lay_in hc
  obtain ⟨hSl, hfc, kC, hkC, hkind⟩ := C.2.2.2.2.2.1.1 cK _ (clT_get hc)
  obtain ⟨cf, kf, fi, f, hi, hsl⟩ := hSl k hN
  have hlay := hts _ (hin _ (u_in_lay hN))
  have hst := (u_facts hfc hkC (u_lays hts hin hN) hi).1
  have hd0 := tyk_ok cK hc k hN
  have fin : ∀ (H' : Heap) (lc : List Loc), H'[gb g + (a - 100)]? = some (cell.setSlot (g.1.2 cK k) (ph g v)) → H'.size = H.size → (∀ q : Nat, q ≠ gb g + (a - 100) → H'[q]? = H[q]?) → va_S (AA g) s.heap H' lc → W p l e R s m args below meth c H' lc cells slots Q (F0 m (pc + 3) ls (S.map (ph g))) := by
    intro H' lc e1 e2 e3 hS'
    have hW' := put_at (v := ph g v) C hW hk hc hkn h0 h1 ez eK eN eI eJ eR ev q2 q3 q4 e1 e2 e3
    have h9 := n ls H' lc hL hW' hS'
    simp only [ez, eu, Nat.sub_self, Nat.add_zero, hp] at h9
    exact h9
  have hA : AA g (gb g + (a - 100)) := Nat.le_add_right _ _
  rcases hl with ⟨hfin, hl | hl⟩ | ⟨hfin, hl, hin2, hdecl⟩
  · unfold u_lay at hlay
    rw [if_neg (by rw [hfin]; decide)] at hlay
    have h6 := u_store hfc hkC hkind hlay hi hd0 hn hfit
    refine W.putK C.1 C.2.1 (f := f) ⟨C.2.2.2.1, hts _ hl, ⟨_, _, _, hi⟩, hst⟩ (by rw [q2]; exact h6) q1 q3 (by rw [hsl]; exact k2_hasslot (q4 k hN)) rfl rfl hd fun H' e1 e2 e3 => ?_
    rw [hsl] at e1 ⊢
    exact fin H' _ e1 e2 e3 (hS.put e2 e3 hA)
  · unfold u_lay at hlay
    rw [if_neg (by rw [hfin]; decide)] at hlay
    have h6 := u_store hfc hkC hkind hlay hi hd0 hn hfit
    refine va_WputK C.1 C.2.1 (f := f) C.2.2.2.1 (hts _ hl) hi hst (by rw [q2]; exact h6) q1 q3 (by rw [hsl]; exact k2_hasslot (q4 k hN)) rfl rfl hd fun H' e1 e2 e3 => ?_
    rw [hsl] at e1 ⊢
    exact fin H' _ e1 e2 e3 (hS.put e2 e3 hA)
  · unfold u_lay at hlay
    rw [if_pos hfin] at hlay
    have hcf : m.cls = cf := by
      obtain ⟨_, _, c', _, _, _, -, -, hf', -, -, -, hown2, -⟩ := Cond.laysFinal_spec hlay
      have e1 : c' = cf := by have := hi.symm.trans hf'; simp at this; exact this.1.symm
      rw [hdecl] at hown2
      rw [← e1]; exact Option.some.inj (C.2.2.2.1.symm.trans hown2)
    have h6 := u_fits hfc hkC hkind (Or.inr hlay) hi hd0 hn hfit
    refine W.putFinK C.1 C.2.1 C.2.2.2.1 (hts _ hl) hi hst hcf hin2 (by rw [q2]; exact h6) q1 q3 (by rw [hsl]; exact k2_hasslot (q4 k hN)) rfl rfl hd fun H' e1 e2 e3 => ?_
    rw [hsl] at e1 ⊢
    exact fin H' _ e1 e2 e3 (hS.put e2 e3 hA)
end HEAP
end
section
/-! ARRAYS, NEW CELLS, STATICS -/
section ARR
variable {p : Program} {l : Launch} {e : Env} {R : Room} {s : State} {m : MethodId} {args : Array Value} {below : List Frame} {meth : Method} {c : Code} {H : Heap} {locs : List Loc} {cells slots : Nat} {Q : State → Prop} {cc : ByteArray} {pc nL own : Nat} {ls : Array Slot} {g : GG} {hs h : AH} {P : List IR} {i : Nat} {L S : List Value}
theorem S_of (C : CX p s m args c cc nL own g hs) : ST g hs s := C.2.2.2.2.2.2.1
theorem K_of (C : CX p s m args c cc nL own g hs) : va_K g.1 clT (tysT g) s := C.2.2.2.2.2.1
theorem op_iald {a : Nat} {x : Int32} (C : CX p s m args c cc nL own g hs) (hd : decode cc pc = .ok (.iaload, 1)) (hp : pcOf P (i + 1) = pc + 1) (hL : LR g L nL ls) (hW : RW g hs h H) (hS : va_S (AA g) s.heap H locs) (hk : hK h a = 20) (hx : ixo x (hN h a) = true)
    (n : NX p l e R s m args below meth c cells slots Q nL g hs h P (i + 1, L, .int (hI h a x.toNatClampNeg) :: S, h)) : W p l e R s m args below meth c H locs cells slots Q (F0 m pc ls ((.int x :: .ref a :: S).map (ph g))) := by
  obtain ⟨h0, h1⟩ := hW.own (a := a) (by omega)
  have hat := (hW.2.2.1 a h0 h1).2
  rw [cE_int hk (by decide) (by decide)] at hat
  rw [List.map_cons, List.map_cons, ph_own h0]
  exact va_iald C.1 C.2.1 (K_of C) (one_P hat) 0 0 rfl rfl (ixo_in hx) hd (n.here hL hW hS hp)
theorem op_cald {a : Nat} {x : Int32} (C : CX p s m args c cc nL own g hs) (hd : decode cc pc = .ok (.caload, 1)) (hp : pcOf P (i + 1) = pc + 1) (hL : LR g L nL ls) (hW : RW g hs h H) (hS : va_S (AA g) s.heap H locs) (hk : hK h a = 21) (hx : ixo x (hN h a) = true)
    (n : NX p l e R s m args below meth c cells slots Q nL g hs h P (i + 1, L, .int (hI h a x.toNatClampNeg) :: S, h)) : W p l e R s m args below meth c H locs cells slots Q (F0 m pc ls ((.int x :: .ref a :: S).map (ph g))) := by
  obtain ⟨h0, h1⟩ := hW.own (a := a) (by omega)
  have hat := (hW.2.2.1 a h0 h1).2
  rw [cE_int hk (by decide) (by decide)] at hat
  rw [List.map_cons, List.map_cons, ph_own h0]
  exact va_cald C.1 C.2.1 (K_of C) (one_P hat) 0 1 rfl rfl (ixo_in hx) hd (n.here hL hW hS hp)
theorem op_zald {a : Nat} {x : Int32} (C : CX p s m args c cc nL own g hs) (hd : decode cc pc = .ok (.baload, 1)) (hp : pcOf P (i + 1) = pc + 1) (hL : LR g L nL ls) (hW : RW g hs h H) (hS : va_S (AA g) s.heap H locs) (hk : hK h a = 22) (hx : ixo x (hN h a) = true)
    (n : NX p l e R s m args below meth c cells slots Q nL g hs h P (i + 1, L, .int (hI h a x.toNatClampNeg) :: S, h)) : W p l e R s m args below meth c H locs cells slots Q (F0 m pc ls ((.int x :: .ref a :: S).map (ph g))) := by
  obtain ⟨h0, h1⟩ := hW.own (a := a) (by omega)
  have hat := (hW.2.2.1 a h0 h1).2
  rw [cE_int hk (by decide) (by decide)] at hat
  rw [List.map_cons, List.map_cons, ph_own h0]
  exact va_zald C.1 C.2.1 (K_of C) (one_P hat) 0 2 rfl rfl (ixo_in hx) hd (n.here hL hW hS hp)
theorem op_lald {a : Nat} {x : Int32} (C : CX p s m args c cc nL own g hs) (hd : decode cc pc = .ok (.laload, 1)) (hp : pcOf P (i + 1) = pc + 1) (hL : LR g L nL ls) (hW : RW g hs h H) (hS : va_S (AA g) s.heap H locs) (hk : hK h a = 23) (hx : ixo x (hN h a) = true)
    (n : NX p l e R s m args below meth c cells slots Q nL g hs h P (i + 1, L, .long (hJ h a x.toNatClampNeg) :: S, h)) : W p l e R s m args below meth c H locs cells slots Q (F0 m pc ls ((.int x :: .ref a :: S).map (ph g))) := by
  obtain ⟨h0, h1⟩ := hW.own (a := a) (by omega)
  have hat := (hW.2.2.1 a h0 h1).2
  rw [cE_long hk] at hat
  rw [List.map_cons, List.map_cons, ph_own h0]
  exact va_lald C.1 C.2.1 (K_of C) (one_P hat) 0 3 rfl rfl (ixo_in hx) hd (n.here hL hW hS hp)
theorem ty_ref {k : Nat} (h0 : 24 ≤ k) (h1 : okk k = true) : ∃ (t : Nat) (cn : Nat), cn < 13 ∧ k = cn + 30 ∧ (tysT g)[t]? = some (g.2.1 k, .object (clk cn).1) := by
  unfold okk at h1
  simp only [Bool.or_eq_true, decide_eq_true_eq] at h1
  rcases h1 with (((((h | h) | h) | h) | h) | h) | h
  · omega
  · omega
  · subst h; exact ⟨4, 3, by decide, rfl, rfl⟩
  · subst h; exact ⟨5, 4, by decide, rfl, rfl⟩
  · subst h; exact ⟨6, 6, by decide, rfl, rfl⟩
  · subst h; exact ⟨7, 7, by decide, rfl, rfl⟩
  · subst h; exact ⟨8, 8, by decide, rfl, rfl⟩
theorem op_aald {a : Nat} {x : Int32} (C : CX p s m args c cc nL own g hs) (hd : decode cc pc = .ok (.aaload, 1)) (hp : pcOf P (i + 1) = pc + 1) (hL : LR g L nL ls) (hW : RW g hs h H) (hS : va_S (AA g) s.heap H locs) (hk : 30 ≤ hK h a) (hk2 : hK h a < 40) (hx : ixo x (hN h a) = true)
    (n : NX p l e R s m args below meth c cells slots Q nL g hs h P (i + 1, L, .ref (hR h a x.toNatClampNeg) :: S, h)) : W p l e R s m args below meth c H locs cells slots Q (F0 m pc ls ((.int x :: .ref a :: S).map (ph g))) := by
  obtain ⟨h0, h1⟩ := hW.own (a := a) hk2
  obtain ⟨hok, hat⟩ := hW.2.2.1 a h0 h1
  rw [cE_ref rfl (by omega)] at hat
  rw [List.map_cons, List.map_cons, ph_own h0]
  obtain ⟨t, cn, -, -, ht⟩ := ty_ref (g := g) (by omega : 24 ≤ hK h a) hok
  exact va_aldq C.1 C.2.1 (K_of C) (one_P hat) 0 t rfl ht (ixo_in hx) hd (n.here hL hW hS hp)
theorem st_of (hW : RW g hs h H) {a : Nat} (hk : 40 ≤ hK h a) (hk2 : hK h a ≠ 99) : a < 100 ∧ hK hs a = hK h a ∧ hN hs a = hN h a ∧ hI hs a = hI h a ∧ hR hs a = hR h a := by
  have ha : a < 100 := by
    apply Nat.lt_of_not_le; intro q
    by_cases z : a < hz h
    · have := (hW.2.2.1 a q z).1
      unfold okk at this
      simp only [Bool.or_eq_true, decide_eq_true_eq] at this
      omega
    · exact hk2 (hW.2.2.2.1 a (by omega))
  obtain ⟨-, e1, e2, e3, e4⟩ := hW.2.2.2.2 a ha
  exact ⟨ha, e1.symm, e2.symm, e3.symm, e4.symm⟩
theorem ph_some {a t : Nat} (h : rq g a = some t) : ph g (.ref a) = .ref t := by show va_rf (rq g a) = _; rw [h]; rfl
theorem op_sild {a : Nat} {x : Int32} (C : CX p s m args c cc nL own g hs) (hd : decode cc pc = .ok (.iaload, 1)) (hp : pcOf P (i + 1) = pc + 1) (hL : LR g L nL ls) (hW : RW g hs h H) (hS : va_S (AA g) s.heap H locs) (hk : hK h a = 44) (hx : ixo x (hN h a) = true)
    (n : NX p l e R s m args below meth c cells slots Q nL g hs h P (i + 1, L, .int (hI h a x.toNatClampNeg) :: S, h)) : W p l e R s m args below meth c H locs cells slots Q (F0 m pc ls ((.int x :: .ref a :: S).map (ph g))) := by
  obtain ⟨ha, e1, e2, e3, e4⟩ := st_of hW (a := a) (by omega) (by omega)
  obtain ⟨t, ht, -, hT⟩ := (S_of C).2.2.1 a ha (by omega)
  rw [List.map_cons, List.map_cons, ph_some ht]
  exact va_ti C.1 C.2.1 hT hS (ixo_in (by rw [e2]; exact hx)) (v := .int (hI h a x.toNatClampNeg)) (by rw [e3]) hd (n.here hL hW hS hp)
theorem op_sbld {a : Nat} {x : Int32} (C : CX p s m args c cc nL own g hs) (hd : decode cc pc = .ok (.baload, 1)) (hp : pcOf P (i + 1) = pc + 1) (hL : LR g L nL ls) (hW : RW g hs h H) (hS : va_S (AA g) s.heap H locs) (hk : hK h a = 45) (hx : ixo x (hN h a) = true)
    (n : NX p l e R s m args below meth c cells slots Q nL g hs h P (i + 1, L, .int (hI h a x.toNatClampNeg) :: S, h)) : W p l e R s m args below meth c H locs cells slots Q (F0 m pc ls ((.int x :: .ref a :: S).map (ph g))) := by
  obtain ⟨ha, e1, e2, e3, e4⟩ := st_of hW (a := a) (by omega) (by omega)
  obtain ⟨t, ht, -, hT⟩ := (S_of C).2.2.2.1 a ha (by omega)
  rw [List.map_cons, List.map_cons, ph_some ht]
  exact va_tb C.1 C.2.1 hT hS (ixo_in (by rw [e2]; exact hx)) (v := .int (hI h a x.toNatClampNeg)) (by rw [e3]) hd (n.here hL hW hS hp)
theorem op_sald {a : Nat} {x : Int32} (C : CX p s m args c cc nL own g hs) (hd : decode cc pc = .ok (.aaload, 1)) (hp : pcOf P (i + 1) = pc + 1) (hL : LR g L nL ls) (hW : RW g hs h H) (hS : va_S (AA g) s.heap H locs) (hk : hK h a = 41) (hx : ixo x (hN h a) = true)
    (n : NX p l e R s m args below meth c cells slots Q nL g hs h P (i + 1, L, .ref (hR h a x.toNatClampNeg) :: S, h)) : W p l e R s m args below meth c H locs cells slots Q (F0 m pc ls ((.int x :: .ref a :: S).map (ph g))) := by
  obtain ⟨ha, e1, e2, e3, e4⟩ := st_of hW (a := a) (by omega) (by omega)
  obtain ⟨t, ht, -, hT⟩ := (S_of C).2.2.2.2.1 a ha (by omega)
  rw [List.map_cons, List.map_cons, ph_some ht]
  exact vb_tq C.1 C.2.1 hT hS (ixo_in (by rw [e2]; exact hx)) (v := va_rf (rq g (hR h a x.toNatClampNeg))) (by rw [e4]) hd (n.here hL hW hS hp)
theorem op_alen {a : Nat} (C : CX p s m args c cc nL own g hs) (hd : decode cc pc = .ok (.arraylength, 1)) (hp : pcOf P (i + 1) = pc + 1) (hL : LR g L nL ls) (hW : RW g hs h H) (hS : va_S (AA g) s.heap H locs) (hk : 20 ≤ hK h a) (hk0 : hK h a ≠ 40) (hk1 : hK h a ≠ 42) (hk2 : hK h a ≤ 45) (hk3 : hK h a ≠ 43)
    (n : NX p l e R s m args below meth c cells slots Q nL g hs h P (i + 1, L, .int (Int32.ofNat (hN h a)) :: S, h)) : W p l e R s m args below meth c H locs cells slots Q (F0 m pc ls ((.ref a :: S).map (ph g))) := by
  by_cases q : hK h a < 40
  · obtain ⟨h0, h1⟩ := hW.own (a := a) q
    obtain ⟨hok, hat⟩ := hW.2.2.1 a h0 h1
    rw [List.map_cons, ph_own h0]
    by_cases q2 : hK h a < 23
    · rw [cE_int rfl hk q2] at hat
      have ht : ∃ (t : Nat) (ty : FieldType), (tysT g)[t]? = some (g.2.1 (hK h a), ty) := by
        rcases (by omega : hK h a = 20 ∨ hK h a = 21 ∨ hK h a = 22) with z | z | z
        · exact ⟨0, .int, by rw [z]; rfl⟩
        · exact ⟨1, .char, by rw [z]; rfl⟩
        · exact ⟨2, .boolean, by rw [z]; rfl⟩
      obtain ⟨t, ty, ht⟩ := ht
      exact va_alen C.1 C.2.1 (K_of C) (one_P hat) 0 t rfl ht rfl hd (n.here hL hW hS hp)
    · by_cases q3 : hK h a = 23
      · rw [cE_long q3] at hat
        exact va_alen C.1 C.2.1 (K_of C) (one_P hat) 0 3 rfl (ty := .long) rfl rfl hd (n.here hL hW hS hp)
      · rw [cE_ref rfl (by omega)] at hat
        obtain ⟨t, cn, -, -, ht⟩ := ty_ref (g := g) (by omega : 24 ≤ hK h a) hok
        exact va_alen C.1 C.2.1 (K_of C) (one_P hat) 0 t rfl ht rfl hd (n.here hL hW hS hp)
  · obtain ⟨ha, e1, e2, e3, e4⟩ := st_of hW (a := a) (by omega) (by omega)
    rw [List.map_cons]
    rcases (by omega : hK h a = 41 ∨ hK h a = 44 ∨ hK h a = 45) with z | z | z
    · obtain ⟨t, ht, -, hT⟩ := (S_of C).2.2.2.2.1 a ha (by omega)
      rw [ph_some ht]
      exact va_tlen C.1 C.2.1 hT hS (by rw [e2]) hd (n.here hL hW hS hp)
    · obtain ⟨t, ht, -, hT⟩ := (S_of C).2.2.1 a ha (by omega)
      rw [ph_some ht]
      exact va_tlen C.1 C.2.1 hT hS (by rw [e2]) hd (n.here hL hW hS hp)
    · obtain ⟨t, ht, -, hT⟩ := (S_of C).2.2.2.1 a ha (by omega)
      rw [ph_some ht]
      exact va_tlen C.1 C.2.1 hT hS (by rw [e2]) hd (n.here hL hW hS hp)
theorem op_iast {a : Nat} {x x2 : Int32} (C : CX p s m args c cc nL own g hs) (hd : decode cc pc = .ok (.iastore, 1)) (hp : pcOf P (i + 1) = pc + 1) (hL : LR g L nL ls) (hW : RW g hs h H) (hS : va_S (AA g) s.heap H locs) (hk : hK h a = 20) (hx : ixo x (hN h a) = true) 
    (n : NX p l e R s m args below meth c cells slots Q nL g hs h P (i + 1, L, S, sI h a x.toNatClampNeg x2)) : W p l e R s m args below meth c H locs cells slots Q (F0 m pc ls ((.int x2 :: .int x :: .ref a :: S).map (ph g))) := by
  obtain ⟨h0, h1⟩ := hW.own (a := a) (by omega)
  have hat := (hW.2.2.1 a h0 h1).2
  rw [cE_int hk (by decide) (by decide)] at hat
  rw [List.map_cons, List.map_cons, List.map_cons, ph_own h0]
  have hA : AA g (gb g + (a - 100)) := Nat.le_add_right _ _
  refine W.iast C.1 C.2.1 hat (((K_of C).2 0 _ rfl).1 (hN h a) (fun j => .int (hI h a j))) (fun q => by cases q) (by show ¬ (x < 0 ∨ (arrV _ _ _).slots.size ≤ _); rw [arrV_size]; exact ixo_in hx) rfl rfl hd fun H1 e z oq => ?_
  have e := e
  have hW' : RW g hs (sI h a x.toNatClampNeg x2) H1 := by
    refine hW.upd h0 h1 rfl rfl rfl (fun y hy => upq_ne _ hy _ _) (fun y _ => rfl) (fun y _ => rfl) z oq ?_
    rw [cE_int (h := sI h a x.toNatClampNeg x2) hk (by decide) (by decide)]
    show H1[_]? = some (vp_cell _ _)
    rw [e, vp_cell_i, vp_cell_i, arrV_store]
    congr 2
    funext q
    show _ = Value.int (upq h.1 a x.toNatClampNeg x2 a q)
    rw [upd_upq]
    by_cases hq : q = x.toNatClampNeg
    · subst hq
      simp [updV, upd]
    · simp [updV, upd, hq]
      try rfl
  have h9 := n ls H1 _ hL hW' (hS.put (k := x.toNatClampNeg) z oq hA)
  have e5 : hz (sI h a x.toNatClampNeg x2) = hz h := rfl
  have e6 : hu (sI h a x.toNatClampNeg x2) = hu h := rfl
  simp only [e5, e6, Nat.sub_self, Nat.add_zero, hp] at h9
  exact h9
theorem op_cast {a : Nat} {x x2 : Int32} (C : CX p s m args c cc nL own g hs) (hd : decode cc pc = .ok (.castore, 1)) (hp : pcOf P (i + 1) = pc + 1) (hL : LR g L nL ls) (hW : RW g hs h H) (hS : va_S (AA g) s.heap H locs) (hk : hK h a = 21) (hx : ixo x (hN h a) = true) 
    (n : NX p l e R s m args below meth c cells slots Q nL g hs h P (i + 1, L, S, sI h a x.toNatClampNeg (vp_nar .char x2))) : W p l e R s m args below meth c H locs cells slots Q (F0 m pc ls ((.int x2 :: .int x :: .ref a :: S).map (ph g))) := by
  obtain ⟨h0, h1⟩ := hW.own (a := a) (by omega)
  have hat := (hW.2.2.1 a h0 h1).2
  rw [cE_int hk (by decide) (by decide)] at hat
  rw [List.map_cons, List.map_cons, List.map_cons, ph_own h0]
  have hA : AA g (gb g + (a - 100)) := Nat.le_add_right _ _
  refine W.cast C.1 C.2.1 hat (((K_of C).2 1 _ rfl).1 (hN h a) (fun j => .int (hI h a j))) (fun q => by cases q) (by show ¬ (x < 0 ∨ (arrV _ _ _).slots.size ≤ _); rw [arrV_size]; exact ixo_in hx) rfl rfl hd fun H1 e z oq => ?_
  have e := e
  have hW' : RW g hs (sI h a x.toNatClampNeg (vp_nar .char x2)) H1 := by
    refine hW.upd h0 h1 rfl rfl rfl (fun y hy => upq_ne _ hy _ _) (fun y _ => rfl) (fun y _ => rfl) z oq ?_
    rw [cE_int (h := sI h a x.toNatClampNeg (vp_nar .char x2)) hk (by decide) (by decide)]
    show H1[_]? = some (vp_cell _ _)
    rw [e, vp_cell_i, vp_cell_i, arrV_store]
    congr 2
    funext q
    show _ = Value.int (upq h.1 a x.toNatClampNeg (vp_nar .char x2) a q)
    rw [upd_upq]
    by_cases hq : q = x.toNatClampNeg
    · subst hq
      simp [updV, upd, vp_nar]; try rfl
    · simp [updV, upd, hq]
      try rfl
  have h9 := n ls H1 _ hL hW' (hS.put (k := x.toNatClampNeg) z oq hA)
  have e5 : hz (sI h a x.toNatClampNeg (vp_nar .char x2)) = hz h := rfl
  have e6 : hu (sI h a x.toNatClampNeg (vp_nar .char x2)) = hu h := rfl
  simp only [e5, e6, Nat.sub_self, Nat.add_zero, hp] at h9
  exact h9
theorem op_zast {a : Nat} {x x2 : Int32} (C : CX p s m args c cc nL own g hs) (hd : decode cc pc = .ok (.bastore, 1)) (hp : pcOf P (i + 1) = pc + 1) (hL : LR g L nL ls) (hW : RW g hs h H) (hS : va_S (AA g) s.heap H locs) (hk : hK h a = 22) (hx : ixo x (hN h a) = true) (hb01 : i01 x2 = true)
    (n : NX p l e R s m args below meth c cells slots Q nL g hs h P (i + 1, L, S, sI h a x.toNatClampNeg x2)) : W p l e R s m args below meth c H locs cells slots Q (F0 m pc ls ((.int x2 :: .int x :: .ref a :: S).map (ph g))) := by
  obtain ⟨h0, h1⟩ := hW.own (a := a) (by omega)
  have hat := (hW.2.2.1 a h0 h1).2
  rw [cE_int hk (by decide) (by decide)] at hat
  rw [List.map_cons, List.map_cons, List.map_cons, ph_own h0]
  have hA : AA g (gb g + (a - 100)) := Nat.le_add_right _ _
  refine W.zast C.1 C.2.1 hat (((K_of C).2 2 _ rfl).1 (hN h a) (fun j => .int (hI h a j))) (fun q => by cases q) (by show ¬ (x < 0 ∨ (arrV _ _ _).slots.size ≤ _); rw [arrV_size]; exact ixo_in hx) rfl rfl hd fun H1 e z oq => ?_
  have e := (by rw [(fit_bool hb01).1] at e; exact e)
  have hW' : RW g hs (sI h a x.toNatClampNeg x2) H1 := by
    refine hW.upd h0 h1 rfl rfl rfl (fun y hy => upq_ne _ hy _ _) (fun y _ => rfl) (fun y _ => rfl) z oq ?_
    rw [cE_int (h := sI h a x.toNatClampNeg x2) hk (by decide) (by decide)]
    show H1[_]? = some (vp_cell _ _)
    rw [e, vp_cell_i, vp_cell_i, arrV_store]
    congr 2
    funext q
    show _ = Value.int (upq h.1 a x.toNatClampNeg x2 a q)
    rw [upd_upq]
    by_cases hq : q = x.toNatClampNeg
    · subst hq
      simp [updV, upd]
    · simp [updV, upd, hq]
      try rfl
  have h9 := n ls H1 _ hL hW' (hS.put (k := x.toNatClampNeg) z oq hA)
  have e5 : hz (sI h a x.toNatClampNeg x2) = hz h := rfl
  have e6 : hu (sI h a x.toNatClampNeg x2) = hu h := rfl
  simp only [e5, e6, Nat.sub_self, Nat.add_zero, hp] at h9
  exact h9
theorem op_last {a : Nat} {x : Int32} {x2 : Int64} (C : CX p s m args c cc nL own g hs) (hd : decode cc pc = .ok (.lastore, 1)) (hp : pcOf P (i + 1) = pc + 1) (hL : LR g L nL ls) (hW : RW g hs h H) (hS : va_S (AA g) s.heap H locs) (hk : hK h a = 23) (hx : ixo x (hN h a) = true)
    (n : NX p l e R s m args below meth c cells slots Q nL g hs h P (i + 1, L, S, sJ h a x.toNatClampNeg x2)) : W p l e R s m args below meth c H locs cells slots Q (F0 m pc ls ((.long x2 :: .int x :: .ref a :: S).map (ph g))) := by
  obtain ⟨h0, h1⟩ := hW.own (a := a) (by omega)
  have hat := (hW.2.2.1 a h0 h1).2
  rw [cE_long hk] at hat
  rw [List.map_cons, List.map_cons, List.map_cons, ph_own h0]
  have hA : AA g (gb g + (a - 100)) := Nat.le_add_right _ _
  refine W.last C.1 C.2.1 hat (((K_of C).2 3 _ rfl).1 (hN h a) (fun j => .long (hJ h a j))) (fun q => by cases q) (by show ¬ (x < 0 ∨ (arrV _ _ _).slots.size ≤ _); rw [arrV_size]; exact ixo_in hx) rfl rfl hd fun H1 e z oq => ?_
  have hW' : RW g hs (sJ h a x.toNatClampNeg x2) H1 := by
    refine hW.upd h0 h1 rfl rfl rfl (fun y _ => rfl) (fun y hy => upq_ne _ hy _ _) (fun y _ => rfl) z oq ?_
    rw [cE_long (h := sJ h a x.toNatClampNeg x2) hk]
    show H1[_]? = some (vp_cell _ _)
    rw [e, vp_cell_l, vp_cell_l, arrV_store]
    congr 2
    funext q
    show _ = Value.long (upq h.2.1 a x.toNatClampNeg x2 a q)
    unfold upq updV
    rw [if_pos rfl]
    by_cases hq : q = x.toNatClampNeg
    · rw [if_pos hq, if_pos hq]
    · rw [if_neg hq, if_neg hq]; rfl
  have h9 := n ls H1 _ hL hW' (hS.put (k := x.toNatClampNeg) z oq hA)
  have e5 : hz (sJ h a x.toNatClampNeg x2) = hz h := rfl
  have e6 : hu (sJ h a x.toNatClampNeg x2) = hu h := rfl
  simp only [e5, e6, Nat.sub_self, Nat.add_zero, hp] at h9
  exact h9
theorem op_aast {a v : Nat} {x : Int32} (C : CX p s m args c cc nL own g hs) (hd : decode cc pc = .ok (.aastore, 1)) (hp : pcOf P (i + 1) = pc + 1) (hL : LR g L nL ls) (hW : RW g hs h H) (hS : va_S (AA g) s.heap H locs) (hk : 30 ≤ hK h a) (hk2 : hK h a < 40) (hv : hK h v + 30 = hK h a) (hx : ixo x (hN h a) = true)
    (n : NX p l e R s m args below meth c cells slots Q nL g hs h P (i + 1, L, S, sR h a x.toNatClampNeg v)) : W p l e R s m args below meth c H locs cells slots Q (F0 m pc ls ((.ref v :: .int x :: .ref a :: S).map (ph g))) := by
  obtain ⟨h0, h1⟩ := hW.own (a := a) hk2
  obtain ⟨v0, v1⟩ := hW.own (a := v) (by omega)
  obtain ⟨hok, hat⟩ := hW.2.2.1 a h0 h1
  have hav := (hW.2.2.1 v v0 v1).2
  rw [cE_ref rfl (by omega)] at hat
  obtain ⟨t, cn, hcn, hke, ht⟩ := ty_ref (g := g) (by omega : 24 ≤ hK h a) hok
  have hkv : hK h v = cn := by omega
  rw [cE_obj hkv hcn] at hav
  rw [List.map_cons, List.map_cons, List.map_cons, ph_own h0, ph_own v0]
  have hA : AA g (gb g + (a - 100)) := Nat.le_add_right _ _
  have hin := ixo_in hx
  have hlt : x.toNatClampNeg < hN h a := Nat.not_le.mp fun q => hin (Or.inr q)
  have h00 : ¬ x < 0 := fun q => hin (Or.inl q)
  obtain ⟨r', hr', cellV, g1, g2, g3, -⟩ := hav
  have hcls := ((K_of C).1 cn _ (clT_get hcn)).2
  obtain ⟨kA, comp, k1, k2, k3, -⟩ := ((K_of C).2 t _ ht).2
  have hcomp : comp = g.1.1 cn := Option.some.inj (k3.symm.trans hcls.1)
  subst hcomp
  obtain ⟨kC, hkC, -⟩ := hcls.2
  refine W.aast C.1 C.2.1 hat (fun q h => by cases h) (fun h => by cases h) k1 k2 rfl hkC ⟨h00, by show _ < (arrV _ _ _).slots.size; rw [arrV_size]; exact hlt⟩ g1 (fun q h => by rw [g3] at h; cases h) (by rw [g2]; exact hkC) (by rw [g2]; exact va_assign hcls) rfl rfl hd fun H1 e z oq => ?_
  have hW' : RW g hs (sR h a x.toNatClampNeg v) H1 := by
    refine hW.upd h0 h1 rfl rfl rfl (fun y _ => rfl) (fun y _ => rfl) (fun y hy => upq_ne _ hy _ _) z oq ?_
    rw [cE_ref (h := sR h a x.toNatClampNeg v) (k := hK h a) rfl (by omega)]
    show H1[_]? = some (vp_cell _ _)
    rw [e, vp_cell_q, vp_cell_q, arrV_store]
    congr 2
    funext q
    show _ = va_rf (rq g (upq h.2.2.1 a x.toNatClampNeg v a q))
    unfold upq updV
    rw [if_pos rfl]
    by_cases hq : q = x.toNatClampNeg
    · rw [if_pos hq, if_pos hq, rq_own v0]; rfl
    · rw [if_neg hq, if_neg hq]; rfl
  have h9 := n ls H1 _ hL hW' (hS.put (k := x.toNatClampNeg) z oq hA)
  have e5 : hz (sR h a x.toNatClampNeg v) = hz h := rfl
  have e6 : hu (sR h a x.toNatClampNeg v) = hu h := rfl
  simp only [e5, e6, Nat.sub_self, Nat.add_zero, hp] at h9
  exact h9
/-- behind a new cell -/
theorem S_new {H1 : Heap} (C : CX p s m args c cc nL own g hs) (hS : va_S (AA g) s.heap H locs) (z1 : H1.size = H.size + 1) (o1 : ∀ q : Nat, q < H.size → H1[q]? = H[q]?) : va_S (AA g) s.heap H1 locs :=
  ⟨Nat.le_trans hS.1 (by omega), fun x h1 h2 => (o1 x (Nat.lt_of_lt_of_le h1 hS.1)).trans (hS.2.1 x h1 h2), hS.2.2⟩
theorem addr_new (hW : RW g hs h H) : ph g (.ref (hz h)) = .ref H.size := by
  rw [ph_own hW.1, hW.2.1]
theorem op_new {idx cK : Nat} (C : CX p s m args c cc nL own g hs) (hd : decode cc pc = .ok (.new idx, 3)) (hp : pcOf P (i + 1) = pc + 3) (hL : LR g L nL ls) (hW : RW g hs h H) (hS : va_S (AA g) s.heap H locs) (hc : cK < 12) (hcl : Cond.classLink (cnm own) idx (clk cK).1 ∈ AW) (hin : Cond.instantiable (clk cK).1 (fdn cK) ∈ AW) (hini : Cond.initialized (clk cK).1 ∈ AW)
    (hcells : cells + 1 ≤ R.cells) (hslots : slots + fdn cK ≤ R.slots)
    (n : NX p l e R s m args below meth c cells slots Q nL g hs h P (i + 1, L, .ref (hz h) :: S, mkC h cK 0 (fdn cK))) : W p l e R s m args below meth c H locs cells slots Q (F0 m pc ls (S.map (ph g))) := by
  have hts := C.2.2.2.2.1
  have hc' : cK < 13 := by omega
  have hKn := (K_of C).1 cK _ (clT_get hc')
  refine W.newcK C.1 C.2.1 C.2.2.2.1 (hts _ hcl) (hts _ hin) (hts _ hini) rfl hd hcells hslots hKn.2.1 rfl fun H1 kC hkC e1 z1 o1 => ?_
  have hW' : RW g hs (mkC h cK 0 (fdn cK)) H1 := by
    refine hW.mk (by unfold okk; simp only [Bool.or_eq_true, decide_eq_true_eq]; omega) z1 o1 ?_
    have hk1 : hK (mkC h cK 0 (fdn cK)) (hz h) = cK := by show upr (hK h) (hz h) cK (hz h) = _; unfold upr; rw [if_pos rfl]
    rw [cE_obj hk1 hc']
    refine ⟨_, clT_get hc', (u_born (tyk cK) hts (lay_in hc') hKn hkC e1 (tyk_ok cK hc')).to fun j hj => ?_⟩
    have hj' : j < fdn cK := by rw [← clN cK hc']; exact hj
    unfold vp_V
    rw [List.getD_eq_getElem?_getD, List.getElem?_map, List.getElem?_range hj']
    show defaultValue (tyk cK j) = fvl g (mkC h cK 0 (fdn cK)) cK (hz h) j
    have hI0 : hI (mkC h cK 0 (fdn cK)) (hz h) j = 0 := by show upr h.1 (hz h) _ (hz h) j = _; unfold upr; rw [if_pos rfl]
    have hR0 : hR (mkC h cK 0 (fdn cK)) (hz h) j = 0 := by show upr h.2.2.1 (hz h) _ (hz h) j = _; unfold upr; rw [if_pos rfl]
    unfold fvl
    rw [hI0, hR0]
    obtain ⟨f0, f1, f2, f3⟩ := fd_ty cK hc' j hj'
    rcases f3 with f3 | f3 | f3
    · rw [f0 f3, if_neg (by omega)]; rfl
    · rw [f1 f3, if_neg (by omega)]; rfl
    · rw [if_pos f3]
      have := f2 f3
      cases hty : tyk cK j <;> rw [hty] at this <;> first | (cases this; done) | rfl
  have h9 := n ls H1 _ hL hW' (S_new C hS z1 o1)
  have e5 : hz (mkC h cK 0 (fdn cK)) - hz h = 1 := by show hz h + 1 - hz h = 1; omega
  have e6 : hu (mkC h cK 0 (fdn cK)) - hu h = fdn cK := by show hu h + fdn cK - hu h = fdn cK; omega
  simp only [e5, e6, hp] at h9
  rw [List.map_cons, addr_new hW] at h9
  exact h9
theorem op_newa_int {x : Int32} (C : CX p s m args c cc nL own g hs) (hd : decode cc pc = .ok (.newarray .int, 2)) (hp : pcOf P (i + 1) = pc + 2) (hL : LR g L nL ls) (hW : RW g hs h H) (hS : va_S (AA g) s.heap H locs) (hx : 0 ≤ x) (hx2 : x.toNatClampNeg ≤ 10000) (hac : Cond.arrayClass (newarray.typeOf .int) ∈ AW)
    (hcells : cells + 1 ≤ R.cells) (hslots : slots + x.toNatClampNeg ≤ R.slots)
    (n : NX p l e R s m args below meth c cells slots Q nL g hs h P (i + 1, L, .ref (hz h) :: S, mkC h 20 x.toNatClampNeg x.toNatClampNeg)) : W p l e R s m args below meth c H locs cells slots Q (F0 m pc ls ((.int x :: S).map (ph g))) := by
  have hts := C.2.2.2.2.1
  refine va_newaK C.1 C.2.1 (hts _ hac) rfl hd rfl (Int32.not_lt.mpr hx) rfl (Nat.le_trans (Nat.mul_le_mul hx2 (show componentBytes (newarray.typeOf .int) ≤ 8 by decide)) (by decide)) hcells hslots rfl fun H1 cA e1 z1 o1 hAr hNm => ?_
  have hcA : cA = g.2.1 20 := by
    have := ((K_of C).2 0 _ rfl).2
    exact Option.some.inj (hNm.symm.trans this)
  have hW' : RW g hs (mkC h 20 x.toNatClampNeg x.toNatClampNeg) H1 := by
    refine hW.mk (by decide) z1 o1 ?_
    have hk1 : hK (mkC h 20 x.toNatClampNeg x.toNatClampNeg) (hz h) = 20 := by show upr (hK h) (hz h) 20 (hz h) = _; unfold upr; rw [if_pos rfl]
    have hn1 : hN (mkC h 20 x.toNatClampNeg x.toNatClampNeg) (hz h) = x.toNatClampNeg := by show upr (hN h) (hz h) _ (hz h) = _; unfold upr; rw [if_pos rfl]
    have hi1 : hI (mkC h 20 x.toNatClampNeg x.toNatClampNeg) (hz h) = fun _ => 0 := by show upr h.1 (hz h) _ (hz h) = _; unfold upr; rw [if_pos rfl]
    rw [cE_int hk1 (by decide) (by decide), hn1, hi1]
    show H1[H.size]? = some (vp_cell _ _)
    rw [vp_cell_i, e1, hcA]
    rfl
  have h9 := n ls H1 _ hL hW' (S_new C hS z1 o1)
  have e5 : hz (mkC h 20 x.toNatClampNeg x.toNatClampNeg) - hz h = 1 := by show hz h + 1 - hz h = 1; omega
  have e6 : hu (mkC h 20 x.toNatClampNeg x.toNatClampNeg) - hu h = x.toNatClampNeg := by show hu h + x.toNatClampNeg - hu h = _; omega
  simp only [e5, e6, hp] at h9
  rw [List.map_cons, addr_new hW] at h9
  exact h9
theorem op_newa_char {x : Int32} (C : CX p s m args c cc nL own g hs) (hd : decode cc pc = .ok (.newarray .char, 2)) (hp : pcOf P (i + 1) = pc + 2) (hL : LR g L nL ls) (hW : RW g hs h H) (hS : va_S (AA g) s.heap H locs) (hx : 0 ≤ x) (hx2 : x.toNatClampNeg ≤ 10000) (hac : Cond.arrayClass (newarray.typeOf .char) ∈ AW)
    (hcells : cells + 1 ≤ R.cells) (hslots : slots + x.toNatClampNeg ≤ R.slots)
    (n : NX p l e R s m args below meth c cells slots Q nL g hs h P (i + 1, L, .ref (hz h) :: S, mkC h 21 x.toNatClampNeg x.toNatClampNeg)) : W p l e R s m args below meth c H locs cells slots Q (F0 m pc ls ((.int x :: S).map (ph g))) := by
  have hts := C.2.2.2.2.1
  refine va_newaK C.1 C.2.1 (hts _ hac) rfl hd rfl (Int32.not_lt.mpr hx) rfl (Nat.le_trans (Nat.mul_le_mul hx2 (show componentBytes (newarray.typeOf .char) ≤ 8 by decide)) (by decide)) hcells hslots rfl fun H1 cA e1 z1 o1 hAr hNm => ?_
  have hcA : cA = g.2.1 21 := by
    have := ((K_of C).2 1 _ rfl).2
    exact Option.some.inj (hNm.symm.trans this)
  have hW' : RW g hs (mkC h 21 x.toNatClampNeg x.toNatClampNeg) H1 := by
    refine hW.mk (by decide) z1 o1 ?_
    have hk1 : hK (mkC h 21 x.toNatClampNeg x.toNatClampNeg) (hz h) = 21 := by show upr (hK h) (hz h) 21 (hz h) = _; unfold upr; rw [if_pos rfl]
    have hn1 : hN (mkC h 21 x.toNatClampNeg x.toNatClampNeg) (hz h) = x.toNatClampNeg := by show upr (hN h) (hz h) _ (hz h) = _; unfold upr; rw [if_pos rfl]
    have hi1 : hI (mkC h 21 x.toNatClampNeg x.toNatClampNeg) (hz h) = fun _ => 0 := by show upr h.1 (hz h) _ (hz h) = _; unfold upr; rw [if_pos rfl]
    rw [cE_int hk1 (by decide) (by decide), hn1, hi1]
    show H1[H.size]? = some (vp_cell _ _)
    rw [vp_cell_i, e1, hcA]
    rfl
  have h9 := n ls H1 _ hL hW' (S_new C hS z1 o1)
  have e5 : hz (mkC h 21 x.toNatClampNeg x.toNatClampNeg) - hz h = 1 := by show hz h + 1 - hz h = 1; omega
  have e6 : hu (mkC h 21 x.toNatClampNeg x.toNatClampNeg) - hu h = x.toNatClampNeg := by show hu h + x.toNatClampNeg - hu h = _; omega
  simp only [e5, e6, hp] at h9
  rw [List.map_cons, addr_new hW] at h9
  exact h9
theorem op_newa_bool {x : Int32} (C : CX p s m args c cc nL own g hs) (hd : decode cc pc = .ok (.newarray .boolean, 2)) (hp : pcOf P (i + 1) = pc + 2) (hL : LR g L nL ls) (hW : RW g hs h H) (hS : va_S (AA g) s.heap H locs) (hx : 0 ≤ x) (hx2 : x.toNatClampNeg ≤ 10000) (hac : Cond.arrayClass (newarray.typeOf .boolean) ∈ AW)
    (hcells : cells + 1 ≤ R.cells) (hslots : slots + x.toNatClampNeg ≤ R.slots)
    (n : NX p l e R s m args below meth c cells slots Q nL g hs h P (i + 1, L, .ref (hz h) :: S, mkC h 22 x.toNatClampNeg x.toNatClampNeg)) : W p l e R s m args below meth c H locs cells slots Q (F0 m pc ls ((.int x :: S).map (ph g))) := by
  have hts := C.2.2.2.2.1
  refine va_newaK C.1 C.2.1 (hts _ hac) rfl hd rfl (Int32.not_lt.mpr hx) rfl (Nat.le_trans (Nat.mul_le_mul hx2 (show componentBytes (newarray.typeOf .boolean) ≤ 8 by decide)) (by decide)) hcells hslots rfl fun H1 cA e1 z1 o1 hAr hNm => ?_
  have hcA : cA = g.2.1 22 := by
    have := ((K_of C).2 2 _ rfl).2
    exact Option.some.inj (hNm.symm.trans this)
  have hW' : RW g hs (mkC h 22 x.toNatClampNeg x.toNatClampNeg) H1 := by
    refine hW.mk (by decide) z1 o1 ?_
    have hk1 : hK (mkC h 22 x.toNatClampNeg x.toNatClampNeg) (hz h) = 22 := by show upr (hK h) (hz h) 22 (hz h) = _; unfold upr; rw [if_pos rfl]
    have hn1 : hN (mkC h 22 x.toNatClampNeg x.toNatClampNeg) (hz h) = x.toNatClampNeg := by show upr (hN h) (hz h) _ (hz h) = _; unfold upr; rw [if_pos rfl]
    have hi1 : hI (mkC h 22 x.toNatClampNeg x.toNatClampNeg) (hz h) = fun _ => 0 := by show upr h.1 (hz h) _ (hz h) = _; unfold upr; rw [if_pos rfl]
    rw [cE_int hk1 (by decide) (by decide), hn1, hi1]
    show H1[H.size]? = some (vp_cell _ _)
    rw [vp_cell_i, e1, hcA]
    rfl
  have h9 := n ls H1 _ hL hW' (S_new C hS z1 o1)
  have e5 : hz (mkC h 22 x.toNatClampNeg x.toNatClampNeg) - hz h = 1 := by show hz h + 1 - hz h = 1; omega
  have e6 : hu (mkC h 22 x.toNatClampNeg x.toNatClampNeg) - hu h = x.toNatClampNeg := by show hu h + x.toNatClampNeg - hu h = _; omega
  simp only [e5, e6, hp] at h9
  rw [List.map_cons, addr_new hW] at h9
  exact h9
theorem op_newa_long {x : Int32} (C : CX p s m args c cc nL own g hs) (hd : decode cc pc = .ok (.newarray .long, 2)) (hp : pcOf P (i + 1) = pc + 2) (hL : LR g L nL ls) (hW : RW g hs h H) (hS : va_S (AA g) s.heap H locs) (hx : 0 ≤ x) (hx2 : x.toNatClampNeg ≤ 10000) (hac : Cond.arrayClass (newarray.typeOf .long) ∈ AW)
    (hcells : cells + 1 ≤ R.cells) (hslots : slots + x.toNatClampNeg ≤ R.slots)
    (n : NX p l e R s m args below meth c cells slots Q nL g hs h P (i + 1, L, .ref (hz h) :: S, mkC h 23 x.toNatClampNeg x.toNatClampNeg)) : W p l e R s m args below meth c H locs cells slots Q (F0 m pc ls ((.int x :: S).map (ph g))) := by
  have hts := C.2.2.2.2.1
  refine va_newaK C.1 C.2.1 (hts _ hac) rfl hd rfl (Int32.not_lt.mpr hx) rfl (Nat.le_trans (Nat.mul_le_mul hx2 (show componentBytes (newarray.typeOf .long) ≤ 8 by decide)) (by decide)) hcells hslots rfl fun H1 cA e1 z1 o1 hAr hNm => ?_
  have hcA : cA = g.2.1 23 := by
    have := ((K_of C).2 3 _ rfl).2
    exact Option.some.inj (hNm.symm.trans this)
  have hW' : RW g hs (mkC h 23 x.toNatClampNeg x.toNatClampNeg) H1 := by
    refine hW.mk (by decide) z1 o1 ?_
    have hk1 : hK (mkC h 23 x.toNatClampNeg x.toNatClampNeg) (hz h) = 23 := by show upr (hK h) (hz h) 23 (hz h) = _; unfold upr; rw [if_pos rfl]
    have hn1 : hN (mkC h 23 x.toNatClampNeg x.toNatClampNeg) (hz h) = x.toNatClampNeg := by show upr (hN h) (hz h) _ (hz h) = _; unfold upr; rw [if_pos rfl]
    have hi1 : hJ (mkC h 23 x.toNatClampNeg x.toNatClampNeg) (hz h) = fun _ => 0 := by show upr h.2.1 (hz h) _ (hz h) = _; unfold upr; rw [if_pos rfl]
    rw [cE_long hk1, hn1, hi1]
    show H1[H.size]? = some (vp_cell _ _)
    rw [vp_cell_l, e1, hcA]
    rfl
  have h9 := n ls H1 _ hL hW' (S_new C hS z1 o1)
  have e5 : hz (mkC h 23 x.toNatClampNeg x.toNatClampNeg) - hz h = 1 := by show hz h + 1 - hz h = 1; omega
  have e6 : hu (mkC h 23 x.toNatClampNeg x.toNatClampNeg) - hu h = x.toNatClampNeg := by show hu h + x.toNatClampNeg - hu h = _; omega
  simp only [e5, e6, hp] at h9
  rw [List.map_cons, addr_new hW] at h9
  exact h9
theorem op_newr {x : Int32} {idx cn t : Nat} (C : CX p s m args c cc nL own g hs) (hd : decode cc pc = .ok (.anewarray idx, 3)) (hp : pcOf P (i + 1) = pc + 3) (hL : LR g L nL ls) (hW : RW g hs h H) (hS : va_S (AA g) s.heap H locs) (hx : 0 ≤ x) (hx2 : x.toNatClampNeg ≤ 10000) (hok : okk (30 + cn) = true) (hty : (tysT g)[t]? = some (g.2.1 (30 + cn), .object (clk cn).1)) (hcl : Cond.classLink (cnm own) idx (clk cn).1 ∈ AW) (hov : Cond.arrayOver (.object (clk cn).1) ∈ AW)
    (hcells : cells + 1 ≤ R.cells) (hslots : slots + x.toNatClampNeg ≤ R.slots)
    (n : NX p l e R s m args below meth c cells slots Q nL g hs h P (i + 1, L, .ref (hz h) :: S, mkC h (30 + cn) x.toNatClampNeg x.toNatClampNeg)) : W p l e R s m args below meth c H locs cells slots Q (F0 m pc ls ((.int x :: S).map (ph g))) := by
  have hts := C.2.2.2.2.1
  refine W.anew C.1 C.2.1 C.2.2.2.1 (hts _ hcl) (hts _ hov) rfl hd rfl (Int32.not_lt.mpr hx) (Nat.le_trans (Nat.mul_le_mul_right 4 hx2) (by decide)) hcells hslots fun cA kA comp f1 f2 f3 f4 => ?_
  generalize hH1 : H.push ({ cls := cA, slots := Array.replicate x.toNatClampNeg .null, vm := .none } : Cell) = H1
  have z1 : H1.size = H.size + 1 := by rw [← hH1, Array.size_push]
  have e1 : H1[H.size]? = some (arrV cA x.toNatClampNeg (fun _ => .null)) := by rw [← hH1, Array.getElem?_push_size, ← arrV_new]
  have o1 : ∀ q : Nat, q < H.size → H1[q]? = H[q]? := fun q hq => by rw [← hH1, Array.getElem?_push, if_neg (Nat.ne_of_lt hq)]
  have hcA : cA = g.2.1 (30 + cn) := by
    obtain ⟨kA', comp', -, -, -, h4⟩ := ((K_of C).2 t _ hty).2
    exact Option.some.inj (f1.symm.trans h4)
  have hW' : RW g hs (mkC h (30 + cn) x.toNatClampNeg x.toNatClampNeg) H1 := by
    refine hW.mk hok z1 o1 ?_
    have hk1 : hK (mkC h (30 + cn) x.toNatClampNeg x.toNatClampNeg) (hz h) = 30 + cn := by show upr (hK h) (hz h) _ (hz h) = _; unfold upr; rw [if_pos rfl]
    have hn1 : hN (mkC h (30 + cn) x.toNatClampNeg x.toNatClampNeg) (hz h) = x.toNatClampNeg := by show upr (hN h) (hz h) _ (hz h) = _; unfold upr; rw [if_pos rfl]
    have hi1 : hR (mkC h (30 + cn) x.toNatClampNeg x.toNatClampNeg) (hz h) = fun _ => 0 := by show upr h.2.2.1 (hz h) _ (hz h) = _; unfold upr; rw [if_pos rfl]
    rw [cE_ref hk1 (by omega), hn1, hi1]
    show H1[H.size]? = some (vp_cell _ _)
    rw [vp_cell_q, e1, hcA]
    rfl
  have h9 := n ls H1 _ hL hW' (S_new C hS z1 o1)
  have e5 : hz (mkC h (30 + cn) x.toNatClampNeg x.toNatClampNeg) - hz h = 1 := by show hz h + 1 - hz h = 1; omega
  have e6 : hu (mkC h (30 + cn) x.toNatClampNeg x.toNatClampNeg) - hu h = x.toNatClampNeg := by show hu h + x.toNatClampNeg - hu h = _; omega
  simp only [e5, e6, hp] at h9
  rw [List.map_cons, addr_new hW] at h9
  exact h9
theorem op_cast20 {idx a : Nat} (C : CX p s m args c cc nL own g hs) (hd : decode cc pc = .ok (.checkcast idx, 3)) (hp : pcOf P (i + 1) = pc + 3) (hL : LR g L nL ls) (hW : RW g hs h H) (hS : va_S (AA g) s.heap H locs) (hk : hK h a = 20) (hcl : Cond.classLink (cnm own) idx "[I" ∈ AW)
    (n : NX p l e R s m args below meth c cells slots Q nL g hs h P (i + 1, L, .ref a :: S, h)) : W p l e R s m args below meth c H locs cells slots Q (F0 m pc ls ((.ref a :: S).map (ph g))) := by
  obtain ⟨h0, h1⟩ := hW.own (a := a) (by omega)
  have hat := (hW.2.2.1 a h0 h1).2
  rw [cE_int hk (by decide) (by decide)] at hat
  have n' := n.here hL hW hS hp
  rw [List.map_cons, ph_own h0] at n' ⊢
  have hnm : s.vm.findClass "[I" = some (g.2.1 20) := by
    have := ((K_of C).2 0 _ rfl).2
    exact this
  exact va_castA C.1 C.2.1 C.2.2.2.1 (C.2.2.2.2.1 _ hcl) (one_P hat) 0 rfl hnm hd n'
theorem op_gets {idx : Nat} {q : String × String × String × Nat × Nat} {v : Value} (C : CX p s m args c cc nL own g hs) (hd : decode cc pc = .ok (.getstatic idx, 3)) (hp : pcOf P (i + 1) = pc + 3) (hL : LR g L nL ls) (hW : RW g hs h H) (hS : va_S (AA g) s.heap H locs) (hq : q ∈ stT) (hv : ph g v = stv g q.2.2.2)
    (hl : Cond.fieldLink (cnm own) idx q.1 q.2.1 q.2.2.1 ∈ AW ∨ Cond.fieldLinkNest (cnm own) idx q.1 q.2.1 q.2.2.1 "PenThatJumps" ∈ AW)
    (n : NX p l e R s m args below meth c cells slots Q nL g hs h P (i + 1, L, v :: S, h)) : W p l e R s m args below meth c H locs cells slots Q (F0 m pc ls (S.map (ph g))) := by
  have n' := n.here hL hW hS hp
  rw [List.map_cons, hv] at n'
  have hZ := (S_of C).1 q hq
  rcases hl with hl | hl
  · exact va_gets C.1 C.2.1 hZ hS C.2.2.2.1 (C.2.2.2.2.1 _ hl) (fun _ z => z) hd n'
  · exact va_getsN C.1 C.2.1 hZ hS C.2.2.2.1 (C.2.2.2.2.1 _ hl) (fun _ z => z) hd n'
theorem op_getsf {idx cK k a : Nat} (C : CX p s m args c cc nL own g hs) (hd : decode cc pc = .ok (.getfield idx, 3)) (hp : pcOf P (i + 1) = pc + 3) (hL : LR g L nL ls) (hW : RW g hs h H) (hS : va_S (AA g) s.heap H locs) (hk : hK h a = cK) (hc : cK = 40 ∨ cK = 42) (hkn : k < fdn cK)
    (hl : Cond.fieldLink (cnm own) idx (sfT cK k).1 (sfT cK k).2.1 (sfT cK k).2.2 ∈ AW ∨ Cond.fieldLinkNest (cnm own) idx (sfT cK k).1 (sfT cK k).2.1 (sfT cK k).2.2 "PenThatJumps" ∈ AW)
    (n : NX p l e R s m args below meth c cells slots Q nL g hs h P (i + 1, L, fvA h cK a k :: S, h)) : W p l e R s m args below meth c H locs cells slots Q (F0 m pc ls ((.ref a :: S).map (ph g))) := by
  obtain ⟨ha, e1, e2, e3, e4⟩ := st_of hW (a := a) (by omega) (by omega)
  have e1' : hK hs a = cK := e1.trans hk
  obtain ⟨t, ht, hF⟩ := (S_of C).2.1 a ha (by rw [e1']; exact hc)
  rw [e1'] at hF
  have hE := hF k hkn
  have hfe : fvl g hs cK a k = fvl g h cK a k := by unfold fvl; rw [e3, e4]
  rw [hfe] at hE
  have n' := n.here hL hW hS hp
  rw [List.map_cons, ph_fvA] at n'
  rw [List.map_cons, ph_some ht]
  rcases hl with hl | hl
  · exact vk_getf C.1 C.2.1 hE hS C.2.2.2.1 (C.2.2.2.2.1 _ hl) (fun _ z => z) hd n'
  · obtain ⟨cf, k9, fi, f, cell, h1, h2, h3, h4, h5, h6⟩ := hE.kept hS.2.1
    exact va_Wgetf C.1 C.2.1 C.2.2.2.1 (C.2.2.2.2.1 _ hl) h1 h2 h3 h4 (v := fvl g h cK a k) h5 rfl rfl hd n'
end ARR
end
section
/-! THE STEP: what the small machine does in one step, the real one does -/
def inx (P : List IR) (i pc ln : Nat) : Bool := decide (pcOf P (i + 1) = pc + ln)
def itg (P : List IR) (pc : Nat) (off : Int) (t : Nat) : Bool := decide ((pc : Int) + off = (pcOf P t : Int))
def wat (w : Nat) (c : Cond) : Bool := decide (lw_tbl[w]? = some c)
/-- an instruction stands as it must: what lies behind it, its targets, its words -/
def ick (own : Nat) (ini : Bool) (P : List IR) (i : Nat) (q : IR) : Bool := match q.2.1, q.2.2.1 with
  | .bipush v, _ => decide ((Int8.ofInt v).toInt32 = Int32.ofInt v) && inx P i q.1 2
  | .sipush v, _ => decide ((Int16.ofInt v).toInt32 = Int32.ofInt v) && inx P i q.1 3
  | .ldc k, [n] => wat q.2.2.2 (.constant (cnm own) k (Int32.ofNat n)) && inx P i q.1 2
  | .ldc_w k, [n] => wat q.2.2.2 (.constant (cnm own) k (Int32.ofNat n)) && inx P i q.1 3
  | .ldc2_w k, [n] => wat q.2.2.2 (.constantLong (cnm own) k (Int64.ofNat n)) && inx P i q.1 3
  | .ldc2_w k, [n, _] => wat q.2.2.2 (.constantLong (cnm own) k (-Int64.ofNat n)) && inx P i q.1 3
  | .goto off, [t] => itg P q.1 off t
  | .ifCond _ off, [t] => itg P q.1 off t && inx P i q.1 3
  | .if_icmp _ off, [t] => itg P q.1 off t && inx P i q.1 3
  | .if_acmp _ off, [t] => itg P q.1 off t && inx P i q.1 3
  | .ifnull off, [t] => itg P q.1 off t && inx P i q.1 3
  | .ifnonnull off, [t] => itg P q.1 off t && inx P i q.1 3
  | .tableswitch df lo hi offs, d :: ts => decide (hi = lo + ts.length - 1) && decide (offs.size = ts.length) && itg P q.1 df d && (List.range ts.length).all (fun k => itg P q.1 (offs.getD k 0) (ts.getD k 0))
  | .getfield f, [c, k] => decide (k < fdn c) && inx P i q.1 3 && (decide (c < 13) && (wat q.2.2.2 (flk own f c k) || wat q.2.2.2 (flkN own f c k)) || (decide (c = 40) || decide (c = 42)) && (wat q.2.2.2 (.fieldLink (cnm own) f (sfT c k).1 (sfT c k).2.1 (sfT c k).2.2) || wat q.2.2.2 (.fieldLinkNest (cnm own) f (sfT c k).1 (sfT c k).2.1 (sfT c k).2.2 "PenThatJumps")))
  | .putfield f, [c, k] => decide (c < 13) && decide (k < fdn c) && inx P i q.1 3 && (!((clk c).2.1 k).2.2.2 && (wat q.2.2.2 (flk own f c k) || wat q.2.2.2 (flkN own f c k)) || ((clk c).2.1 k).2.2.2 && wat q.2.2.2 (flk own f c k) && ini && decide (((clk c).2.1 k).1 = cnm own))
  | .getstatic f, [a, b] => inx P i q.1 3 && stT.any (fun t => decide (t.2.2.2 = (a, b)) && (wat q.2.2.2 (.fieldLink (cnm own) f t.1 t.2.1 t.2.2.1) || wat q.2.2.2 (.fieldLinkNest (cnm own) f t.1 t.2.1 t.2.2.1 "PenThatJumps")))
  | .newarray .int, [k] => decide (k = 20) && inx P i q.1 2
  | .newarray .char, [k] => decide (k = 21) && inx P i q.1 2
  | .newarray .boolean, [k] => decide (k = 22) && inx P i q.1 2
  | .newarray .long, [k] => decide (k = 23) && inx P i q.1 2
  | .anewarray f, [k] => decide (k ∈ [33, 34, 36, 37, 38]) && wat q.2.2.2 (.classLink (cnm own) f (clk (k - 30)).1) && inx P i q.1 3
  | .new f, [c] => decide (c < 12) && wat q.2.2.2 (.classLink (cnm own) f (clk c).1) && inx P i q.1 3
  | .checkcast f, _ => wat q.2.2.2 (.classLink (cnm own) f "[I") && inx P i q.1 3
  | .ldc _, _ => false
  | .ldc_w _, _ => false
  | .ldc2_w _, _ => false
  | .goto _, _ => false
  | .ifCond _ _, _ => false
  | .if_icmp _ _, _ => false
  | .if_acmp _ _, _ => false
  | .ifnull _, _ => false
  | .ifnonnull _, _ => false
  | .tableswitch .., _ => false
  | .getfield _, _ => false
  | .putfield _, _ => false
  | .getstatic _, _ => false
  | .newarray _, _ => false
  | .anewarray _, _ => false
  | .new _, _ => false
  | x, _ => inx P i q.1 (ilen x q.1)
set_option maxRecDepth 100000 in
theorem made_ok : ∀ c, c < 12 → Cond.instantiable (clk c).1 (fdn c) ∈ lw_tbl ∧ Cond.initialized (clk c).1 ∈ lw_tbl := by decide +kernel
set_option maxRecDepth 100000 in
theorem over_ok : ∀ c ∈ [3, 4, 6, 7, 8], Cond.arrayOver (.object (clk c).1) ∈ lw_tbl := by decide +kernel
set_option maxRecDepth 100000 in
theorem arr_ok : Cond.arrayClass (newarray.typeOf .int) ∈ lw_tbl ∧ Cond.arrayClass (newarray.typeOf .char) ∈ lw_tbl ∧ Cond.arrayClass (newarray.typeOf .boolean) ∈ lw_tbl ∧ Cond.arrayClass (newarray.typeOf .long) ∈ lw_tbl := by decide +kernel
theorem AWof {w : Cond} (h : w ∈ lw_tbl) (hg : (goodWord w || isNestW w) = true) : w ∈ AW := List.mem_filter.mpr ⟨h, hg⟩
theorem wat_AW {w : Nat} {c : Cond} (h : wat w c = true) (hg : (goodWord c || isNestW c) = true) : c ∈ AW := mem_AW (of_decide_eq_true h) hg
theorem guardo_some {α : Type} {b : Bool} {x : Option α} {z : α} (h : guardo b x = some z) : b = true ∧ x = some z := by
  unfold guardo at h
  by_cases q : b = true
  · rw [if_pos q] at h; exact ⟨q, h⟩
  · rw [if_neg q] at h; cases h
theorem ldI_inv {L S : List Value} {h : AH} {i n : Nat} {z : AS} (q : ldI L S h i n = some z) : ∃ v, L[n]? = some (.int v) ∧ z = (i + 1, L, .int v :: S, h) := by
  unfold ldI at q
  split at q
  · rename_i v hv; exact ⟨v, hv, (Option.some.inj q).symm⟩
  · cases q
theorem ldA_inv {L S : List Value} {h : AH} {i n : Nat} {z : AS} (q : ldA L S h i n = some z) : ∃ v, L[n]? = some (.ref v) ∧ z = (i + 1, L, .ref v :: S, h) := by
  unfold ldA at q
  split at q
  · rename_i v hv; exact ⟨v, hv, (Option.some.inj q).symm⟩
  · cases q
theorem ldJ_inv {L S : List Value} {h : AH} {i n : Nat} {z : AS} (q : ldJ L S h i n = some z) : ∃ v, L[n]? = some (.long v) ∧ L[n + 1]? = some .null ∧ z = (i + 1, L, .long v :: S, h) := by
  unfold ldJ at q
  split at q
  · rename_i v hv hv2; exact ⟨v, hv, hv2, (Option.some.inj q).symm⟩
  · cases q
theorem stI_inv {L S : List Value} {h : AH} {i n : Nat} {z : AS} (q : stI L S h i n = some z) : ∃ v S', S = .int v :: S' ∧ n < L.length ∧ z = (i + 1, L.set n (.int v), S', h) := by
  unfold stI at q
  split at q
  · obtain ⟨q1, q2⟩ := guardo_some q; exact ⟨_, _, rfl, of_decide_eq_true q1, (Option.some.inj q2).symm⟩
  · cases q
theorem stA_inv {L S : List Value} {h : AH} {i n : Nat} {z : AS} (q : stA L S h i n = some z) : ∃ v S', S = .ref v :: S' ∧ n < L.length ∧ z = (i + 1, L.set n (.ref v), S', h) := by
  unfold stA at q
  split at q
  · obtain ⟨q1, q2⟩ := guardo_some q; exact ⟨_, _, rfl, of_decide_eq_true q1, (Option.some.inj q2).symm⟩
  · cases q
theorem stJ_inv {L S : List Value} {h : AH} {i n : Nat} {z : AS} (q : stJ L S h i n = some z) : ∃ v S', S = .long v :: S' ∧ n + 1 < L.length ∧ z = (i + 1, (L.set n (.long v)).set (n + 1) .null, S', h) := by
  unfold stJ at q
  split at q
  · obtain ⟨q1, q2⟩ := guardo_some q; exact ⟨_, _, rfl, of_decide_eq_true q1, (Option.some.inj q2).symm⟩
  · cases q
theorem biI_inv {f : Int32 → Int32 → Int32} {L S : List Value} {h : AH} {i : Nat} {z : AS} (q : biI f L S h i = some z) : ∃ x y S', S = .int y :: .int x :: S' ∧ z = (i + 1, L, .int (f x y) :: S', h) := by
  unfold biI at q
  split at q
  · exact ⟨_, _, _, rfl, (Option.some.inj q).symm⟩
  · cases q
theorem biJ_inv {f : Int64 → Int64 → Int64} {L S : List Value} {h : AH} {i : Nat} {z : AS} (q : biJ f L S h i = some z) : ∃ x y S', S = .long y :: .long x :: S' ∧ z = (i + 1, L, .long (f x y) :: S', h) := by
  unfold biJ at q
  split at q
  · exact ⟨_, _, _, rfl, (Option.some.inj q).symm⟩
  · cases q
theorem biS_inv {f : Int64 → Int32 → Int64} {L S : List Value} {h : AH} {i : Nat} {z : AS} (q : biS f L S h i = some z) : ∃ x y S', S = .int y :: .long x :: S' ∧ z = (i + 1, L, .long (f x y) :: S', h) := by
  unfold biS at q
  split at q
  · exact ⟨_, _, _, rfl, (Option.some.inj q).symm⟩
  · cases q
theorem aldI_inv {k : List Nat} {L S : List Value} {h : AH} {i : Nat} {z : AS} (q : aldI k L S h i = some z) : ∃ x a S', S = .int x :: .ref a :: S' ∧ hK h a ∈ k ∧ ixo x (hN h a) = true ∧ z = (i + 1, L, .int (hI h a x.toNatClampNeg) :: S', h) := by
  unfold aldI at q
  split at q
  · obtain ⟨q1, q2⟩ := guardo_some q
    rw [Bool.and_eq_true] at q1
    exact ⟨_, _, _, rfl, of_decide_eq_true q1.1, q1.2, (Option.some.inj q2).symm⟩
  · cases q
section SIM
variable {p : Program} {l : Launch} {e : Env} {R : Room} {s : State} {m : MethodId} {args : Array Value} {below : List Frame} {meth : Method} {c : Code} {H : Heap} {locs : List Loc} {cells slots : Nat} {Q : State → Prop} {cc : ByteArray} {nL own : Nat} {ls : Array Slot} {g : GG} {hs h : AH} {P : List IR} {i : Nat} {L S : List Value}
theorem put_hl {ini : Bool} {meth : Method} {own i pc f cK k w : Nat} {P : List IR} (hini : ini = true → meth.name = "<init>") (hk : ick own ini P i (pc, .putfield f, [cK, k], w) = true) : cK < 13 ∧ k < fdn cK ∧ pcOf P (i + 1) = pc + 3 ∧ ((((clk cK).2.1 k).2.2.2 = false ∧ (flk own f cK k ∈ AW ∨ flkN own f cK k ∈ AW)) ∨ (((clk cK).2.1 k).2.2.2 = true ∧ flk own f cK k ∈ AW ∧ meth.name = "<init>" ∧ ((clk cK).2.1 k).1 = cnm own)) := by
  have hk := Bool.and_eq_true_iff.mp hk
  have hk1 := Bool.and_eq_true_iff.mp hk.1
  have hk2 := Bool.and_eq_true_iff.mp hk1.1
  refine ⟨of_decide_eq_true hk2.1, of_decide_eq_true hk2.2, of_decide_eq_true hk1.2, ?_⟩
  rcases Bool.or_eq_true_iff.mp hk.2 with t | t
  · have t := Bool.and_eq_true_iff.mp t
    refine Or.inl ⟨by simpa using t.1, ?_⟩
    rcases Bool.or_eq_true_iff.mp t.2 with u | u
    · exact Or.inl (wat_AW u rfl)
    · exact Or.inr (wat_AW u rfl)
  · have t := Bool.and_eq_true_iff.mp t
    have t1 := Bool.and_eq_true_iff.mp t.1
    have t2 := Bool.and_eq_true_iff.mp t1.1
    exact Or.inr ⟨t2.1, wat_AW t2.2 rfl, hini t1.2, of_decide_eq_true t.2⟩
set_option maxHeartbeats 4000000 in
theorem sim_step {ini : Bool} {q : IR} {z : AS} (C : CX p s m args c cc nL own g hs) (hd : decode cc q.1 = .ok (q.2.1, ilen q.2.1 q.1)) (hk : ick own ini P i q = true) (hini : ini = true → meth.name = "<init>") (hL : LR g L nL ls) (hW : RW g hs h H) (hS : va_S (AA g) s.heap H locs)
    (hst : stp q.2.1 q.2.2.1 i L S h = some z) (hr : cells + (hz z.2.2.2 - hz h) ≤ R.cells ∧ slots + (hu z.2.2.2 - hu h) ≤ R.slots) (n : NX p l e R s m args below meth c cells slots Q nL g hs h P z) : W p l e R s m args below meth c H locs cells slots Q (F0 m q.1 ls (S.map (ph g))) := by
  obtain ⟨pc, x, o, w⟩ := q
  dsimp only at hd hst ⊢
  cases x with
  | iconst v =>
    cases hst
    exact op_iconst C hd (of_decide_eq_true hk) hL hW hS n
  | bipush v =>
    cases hst
    have hk := Bool.and_eq_true_iff.mp hk
    exact op_bipush C hd (of_decide_eq_true hk.2) hL hW hS (of_decide_eq_true hk.1) n
  | sipush v =>
    cases hst
    have hk := Bool.and_eq_true_iff.mp hk
    exact op_sipush C hd (of_decide_eq_true hk.2) hL hW hS (of_decide_eq_true hk.1) n
  | lconst v =>
    cases hst
    exact op_lconst C hd (of_decide_eq_true hk) hL hW hS n
  | aconst_null =>
    cases hst
    exact op_null C hd (of_decide_eq_true hk) hL hW hS n
  | ldc k =>
    match o, hst, hk with
    | [v], hst, hk =>
      cases hst
      have hk := Bool.and_eq_true_iff.mp hk
      exact op_ldc C hd (of_decide_eq_true hk.2) hL hW hS (wat_AW hk.1 rfl) n
  | ldc_w k =>
    match o, hst, hk with
    | [v], hst, hk =>
      cases hst
      have hk := Bool.and_eq_true_iff.mp hk
      exact op_ldcw C hd (of_decide_eq_true hk.2) hL hW hS (wat_AW hk.1 rfl) n
  | ldc2_w k =>
    match o, hst, hk with
    | [v], hst, hk =>
      cases hst
      have hk := Bool.and_eq_true_iff.mp hk
      exact op_ldc2 C hd (of_decide_eq_true hk.2) hL hW hS (wat_AW hk.1 rfl) n
    | [v, _], hst, hk =>
      cases hst
      have hk := Bool.and_eq_true_iff.mp hk
      exact op_ldc2 C hd (of_decide_eq_true hk.2) hL hW hS (wat_AW hk.1 rfl) n
  | iload k =>
    obtain ⟨v, hv, rfl⟩ := ldI_inv hst
    exact op_iload C hd (of_decide_eq_true hk) hL hW hS hv n
  | iload_n k =>
    obtain ⟨v, hv, rfl⟩ := ldI_inv hst
    exact op_iload_n C hd (of_decide_eq_true hk) hL hW hS hv n
  | aload k =>
    obtain ⟨v, hv, rfl⟩ := ldA_inv hst
    exact op_aload C hd (of_decide_eq_true hk) hL hW hS hv n
  | aload_n k =>
    obtain ⟨v, hv, rfl⟩ := ldA_inv hst
    exact op_aload_n C hd (of_decide_eq_true hk) hL hW hS hv n
  | lload k =>
    obtain ⟨v, hv, hv2, rfl⟩ := ldJ_inv hst
    exact op_lload C hd (of_decide_eq_true hk) hL hW hS hv hv2 n
  | lload_n k =>
    obtain ⟨v, hv, hv2, rfl⟩ := ldJ_inv hst
    exact op_lload_n C hd (of_decide_eq_true hk) hL hW hS hv hv2 n
  | istore k =>
    obtain ⟨v, S', rfl, hv, rfl⟩ := stI_inv hst
    exact op_istore C hd (of_decide_eq_true hk) hL hW hS (by rw [← hL.1]; exact hv) n
  | istore_n k =>
    obtain ⟨v, S', rfl, hv, rfl⟩ := stI_inv hst
    exact op_istore_n C hd (of_decide_eq_true hk) hL hW hS (by rw [← hL.1]; exact hv) n
  | astore k =>
    obtain ⟨v, S', rfl, hv, rfl⟩ := stA_inv hst
    exact op_astore C hd (of_decide_eq_true hk) hL hW hS (by rw [← hL.1]; exact hv) n
  | astore_n k =>
    obtain ⟨v, S', rfl, hv, rfl⟩ := stA_inv hst
    exact op_astore_n C hd (of_decide_eq_true hk) hL hW hS (by rw [← hL.1]; exact hv) n
  | lstore k =>
    obtain ⟨v, S', rfl, hv, rfl⟩ := stJ_inv hst
    exact op_lstore C hd (of_decide_eq_true hk) hL hW hS (by rw [← hL.1]; exact hv) n
  | lstore_n k =>
    obtain ⟨v, S', rfl, hv, rfl⟩ := stJ_inv hst
    exact op_lstore_n C hd (of_decide_eq_true hk) hL hW hS (by rw [← hL.1]; exact hv) n
  | iinc k v =>
    simp only [stp] at hst
    split at hst
    · rename_i v' hv
      cases hst
      exact op_iinc C hd (of_decide_eq_true hk) hL hW hS hv n
    · cases hst
  | iadd =>
    obtain ⟨x, y, S', rfl, rfl⟩ := biI_inv hst
    exact op_iadd C hd (of_decide_eq_true hk) hL hW hS n
  | isub =>
    obtain ⟨x, y, S', rfl, rfl⟩ := biI_inv hst
    exact op_isub C hd (of_decide_eq_true hk) hL hW hS n
  | imul =>
    obtain ⟨x, y, S', rfl, rfl⟩ := biI_inv hst
    exact op_imul C hd (of_decide_eq_true hk) hL hW hS n
  | iand =>
    obtain ⟨x, y, S', rfl, rfl⟩ := biI_inv hst
    exact op_iand C hd (of_decide_eq_true hk) hL hW hS n
  | ior =>
    obtain ⟨x, y, S', rfl, rfl⟩ := biI_inv hst
    exact op_ior C hd (of_decide_eq_true hk) hL hW hS n
  | ishl =>
    obtain ⟨x, y, S', rfl, rfl⟩ := biI_inv hst
    exact op_ishl C hd (of_decide_eq_true hk) hL hW hS n
  | ishr =>
    obtain ⟨x, y, S', rfl, rfl⟩ := biI_inv hst
    exact op_ishr C hd (of_decide_eq_true hk) hL hW hS n
  | ladd =>
    obtain ⟨x, y, S', rfl, rfl⟩ := biJ_inv hst
    exact op_ladd C hd (of_decide_eq_true hk) hL hW hS n
  | lsub =>
    obtain ⟨x, y, S', rfl, rfl⟩ := biJ_inv hst
    exact op_lsub C hd (of_decide_eq_true hk) hL hW hS n
  | lmul =>
    obtain ⟨x, y, S', rfl, rfl⟩ := biJ_inv hst
    exact op_lmul C hd (of_decide_eq_true hk) hL hW hS n
  | land =>
    obtain ⟨x, y, S', rfl, rfl⟩ := biJ_inv hst
    exact op_land C hd (of_decide_eq_true hk) hL hW hS n
  | lor =>
    obtain ⟨x, y, S', rfl, rfl⟩ := biJ_inv hst
    exact op_lor C hd (of_decide_eq_true hk) hL hW hS n
  | lshl =>
    obtain ⟨x, y, S', rfl, rfl⟩ := biS_inv hst
    exact op_lshl C hd (of_decide_eq_true hk) hL hW hS n
  | lshr =>
    obtain ⟨x, y, S', rfl, rfl⟩ := biS_inv hst
    exact op_lshr C hd (of_decide_eq_true hk) hL hW hS n
  | lushr =>
    obtain ⟨x, y, S', rfl, rfl⟩ := biS_inv hst
    exact op_lushr C hd (of_decide_eq_true hk) hL hW hS n
  | idiv =>
    simp only [stp] at hst
    split at hst
    · obtain ⟨q1, q2⟩ := guardo_some hst
      cases q2
      exact op_idiv C hd (of_decide_eq_true hk) hL hW hS (of_decide_eq_true q1) n
    · cases hst
  | irem =>
    simp only [stp] at hst
    split at hst
    · obtain ⟨q1, q2⟩ := guardo_some hst
      cases q2
      exact op_irem C hd (of_decide_eq_true hk) hL hW hS (of_decide_eq_true q1) n
    · cases hst
  | ldiv =>
    simp only [stp] at hst
    split at hst
    · obtain ⟨q1, q2⟩ := guardo_some hst
      cases q2
      exact op_ldiv C hd (of_decide_eq_true hk) hL hW hS (of_decide_eq_true q1) n
    · cases hst
  | lrem =>
    simp only [stp] at hst
    split at hst
    · obtain ⟨q1, q2⟩ := guardo_some hst
      cases q2
      exact op_lrem C hd (of_decide_eq_true hk) hL hW hS (of_decide_eq_true q1) n
    · cases hst
  | ineg =>
    simp only [stp] at hst
    split at hst
    · cases hst
      exact op_ineg C hd (of_decide_eq_true hk) hL hW hS n
    · cases hst
  | lneg =>
    simp only [stp] at hst
    split at hst
    · cases hst
      exact op_lneg C hd (of_decide_eq_true hk) hL hW hS n
    · cases hst
  | lcmp =>
    simp only [stp] at hst
    split at hst
    · cases hst
      exact op_lcmp C hd (of_decide_eq_true hk) hL hW hS n
    · cases hst
  | i2l =>
    simp only [stp] at hst
    split at hst
    · cases hst
      exact op_i2l C hd (of_decide_eq_true hk) hL hW hS n
    · cases hst
  | l2i =>
    simp only [stp] at hst
    split at hst
    · cases hst
      exact op_l2i C hd (of_decide_eq_true hk) hL hW hS n
    · cases hst
  | i2c =>
    simp only [stp] at hst
    split at hst
    · cases hst
      exact op_i2c C hd (of_decide_eq_true hk) hL hW hS n
    · cases hst
  | dup =>
    simp only [stp] at hst
    split at hst
    · cases hst
      exact op_dup C hd (of_decide_eq_true hk) hL hW hS rfl n
    · cases hst
      exact op_dup C hd (of_decide_eq_true hk) hL hW hS rfl n
    · cases hst
  | dup2 =>
    simp only [stp] at hst
    split at hst
    · cases hst
      exact op_dup2a C hd (of_decide_eq_true hk) hL hW hS rfl rfl n
    · cases hst
      exact op_dup2b C hd (of_decide_eq_true hk) hL hW hS rfl n
    · cases hst
  | pop =>
    simp only [stp] at hst
    split at hst
    · cases hst
      exact op_pop C hd (of_decide_eq_true hk) hL hW hS rfl n
    · cases hst
  | checkcast k =>
    simp only [stp] at hst
    split at hst
    · obtain ⟨q1, q2⟩ := guardo_some hst
      cases q2
      have hk := Bool.and_eq_true_iff.mp hk
      exact op_cast20 C hd (of_decide_eq_true hk.2) hL hW hS (of_decide_eq_true q1) (wat_AW hk.1 rfl) n
    · cases hst
  | goto off =>
    match o, hst, hk with
    | [t], hst, hk =>
      cases hst
      exact op_goto C hd (of_decide_eq_true hk) hL hW hS n
  | ifCond cd off =>
    match o, S, hst, hk with
    | [t], .int x :: S, hst, hk =>
      have hk := Bool.and_eq_true_iff.mp hk
      have ht := of_decide_eq_true hk.1
      have hp := of_decide_eq_true hk.2
      simp only [stp] at hst
      cases cd with
      | eq =>
        refine op_if_eq C hd hp ht hL hW hS (fun q => ?_) (fun q => ?_)
        · rw [if_pos (show cnd .eq x 0 = true from decide_eq_true q)] at hst; cases hst; exact n
        · rw [if_neg (show ¬ cnd .eq x 0 = true from fun z => q (of_decide_eq_true z))] at hst; cases hst; exact n
      | ne =>
        refine op_if_ne C hd hp ht hL hW hS (fun q => ?_) (fun q => ?_)
        · rw [if_pos (show cnd .ne x 0 = true from decide_eq_true q)] at hst; cases hst; exact n
        · rw [if_neg (show ¬ cnd .ne x 0 = true from fun z => q (of_decide_eq_true z))] at hst; cases hst; exact n
      | lt =>
        refine op_if_lt C hd hp ht hL hW hS (fun q => ?_) (fun q => ?_)
        · rw [if_pos (show cnd .lt x 0 = true from decide_eq_true q)] at hst; cases hst; exact n
        · rw [if_neg (show ¬ cnd .lt x 0 = true from fun z => q (of_decide_eq_true z))] at hst; cases hst; exact n
      | ge =>
        refine op_if_ge C hd hp ht hL hW hS (fun q => ?_) (fun q => ?_)
        · rw [if_pos (show cnd .ge x 0 = true from decide_eq_true q)] at hst; cases hst; exact n
        · rw [if_neg (show ¬ cnd .ge x 0 = true from fun z => q (of_decide_eq_true z))] at hst; cases hst; exact n
      | gt =>
        refine op_if_gt C hd hp ht hL hW hS (fun q => ?_) (fun q => ?_)
        · rw [if_pos (show cnd .gt x 0 = true from decide_eq_true q)] at hst; cases hst; exact n
        · rw [if_neg (show ¬ cnd .gt x 0 = true from fun z => q (of_decide_eq_true z))] at hst; cases hst; exact n
      | le =>
        refine op_if_le C hd hp ht hL hW hS (fun q => ?_) (fun q => ?_)
        · rw [if_pos (show cnd .le x 0 = true from decide_eq_true q)] at hst; cases hst; exact n
        · rw [if_neg (show ¬ cnd .le x 0 = true from fun z => q (of_decide_eq_true z))] at hst; cases hst; exact n
  | if_icmp cd off =>
    match o, S, hst, hk with
    | [t], .int y :: .int x :: S, hst, hk =>
      have hk := Bool.and_eq_true_iff.mp hk
      have ht := of_decide_eq_true hk.1
      have hp := of_decide_eq_true hk.2
      simp only [stp] at hst
      cases cd with
      | eq =>
        refine op_icmp_eq C hd hp ht hL hW hS (fun q => ?_) (fun q => ?_)
        · rw [if_pos (show cnd .eq x y = true from decide_eq_true q)] at hst; cases hst; exact n
        · rw [if_neg (show ¬ cnd .eq x y = true from fun z => q (of_decide_eq_true z))] at hst; cases hst; exact n
      | ne =>
        refine op_icmp_ne C hd hp ht hL hW hS (fun q => ?_) (fun q => ?_)
        · rw [if_pos (show cnd .ne x y = true from decide_eq_true q)] at hst; cases hst; exact n
        · rw [if_neg (show ¬ cnd .ne x y = true from fun z => q (of_decide_eq_true z))] at hst; cases hst; exact n
      | lt =>
        refine op_icmp_lt C hd hp ht hL hW hS (fun q => ?_) (fun q => ?_)
        · rw [if_pos (show cnd .lt x y = true from decide_eq_true q)] at hst; cases hst; exact n
        · rw [if_neg (show ¬ cnd .lt x y = true from fun z => q (of_decide_eq_true z))] at hst; cases hst; exact n
      | ge =>
        refine op_icmp_ge C hd hp ht hL hW hS (fun q => ?_) (fun q => ?_)
        · rw [if_pos (show cnd .ge x y = true from decide_eq_true q)] at hst; cases hst; exact n
        · rw [if_neg (show ¬ cnd .ge x y = true from fun z => q (of_decide_eq_true z))] at hst; cases hst; exact n
      | gt =>
        refine op_icmp_gt C hd hp ht hL hW hS (fun q => ?_) (fun q => ?_)
        · rw [if_pos (show cnd .gt x y = true from decide_eq_true q)] at hst; cases hst; exact n
        · rw [if_neg (show ¬ cnd .gt x y = true from fun z => q (of_decide_eq_true z))] at hst; cases hst; exact n
      | le =>
        refine op_icmp_le C hd hp ht hL hW hS (fun q => ?_) (fun q => ?_)
        · rw [if_pos (show cnd .le x y = true from decide_eq_true q)] at hst; cases hst; exact n
        · rw [if_neg (show ¬ cnd .le x y = true from fun z => q (of_decide_eq_true z))] at hst; cases hst; exact n
  | if_acmp cd off =>
    match o, S, hst, hk with
    | [t], .ref y :: .ref x :: S, hst, hk =>
      have hk := Bool.and_eq_true_iff.mp hk
      have ht := of_decide_eq_true hk.1
      have hp := of_decide_eq_true hk.2
      simp only [stp] at hst
      obtain ⟨q1, q2⟩ := guardo_some hst
      have q1 := of_decide_eq_true q1
      cases cd with
      | eq =>
        refine op_acmp_eq C hd hp ht hL hW hS q1 (fun q => ?_) (fun q => ?_)
        · simp only [if_pos q] at q2; cases q2; exact n
        · simp only [if_neg q] at q2; cases q2; exact n
      | ne =>
        refine op_acmp_ne C hd hp ht hL hW hS q1 (fun q => ?_) (fun q => ?_)
        · simp only [if_neg q] at q2; cases q2; exact n
        · simp only [if_pos q] at q2; cases q2; exact n
  | ifnull off =>
    match o, S, hst, hk with
    | [t], .ref x :: S, hst, hk =>
      have hk := Bool.and_eq_true_iff.mp hk
      simp only [stp] at hst
      obtain ⟨q1, q2⟩ := guardo_some hst
      refine op_ifnull C hd (of_decide_eq_true hk.2) (of_decide_eq_true hk.1) hL hW hS (of_decide_eq_true q1) (fun q => ?_) (fun q => ?_)
      · rw [if_pos q] at q2; cases q2; exact n
      · rw [if_neg q] at q2; cases q2; exact n
  | ifnonnull off =>
    match o, S, hst, hk with
    | [t], .ref x :: S, hst, hk =>
      have hk := Bool.and_eq_true_iff.mp hk
      simp only [stp] at hst
      obtain ⟨q1, q2⟩ := guardo_some hst
      refine op_ifnonnull C hd (of_decide_eq_true hk.2) (of_decide_eq_true hk.1) hL hW hS (of_decide_eq_true q1) (fun q => ?_) (fun q => ?_)
      · rw [if_neg q] at q2; cases q2; exact n
      · rw [if_pos q] at q2; cases q2; exact n
  | tableswitch df lo hi offs =>
    match o, S, hst, hk with
    | d :: ts, .int x :: S, hst, hk =>
      have hk := Bool.and_eq_true_iff.mp hk
      have hk1 := Bool.and_eq_true_iff.mp hk.1
      have hk2 := Bool.and_eq_true_iff.mp hk1.1
      simp only [stp] at hst
      refine op_tsw C hd (of_decide_eq_true hk2.1) (of_decide_eq_true hk2.2) (of_decide_eq_true hk1.2) (fun k hq => of_decide_eq_true (List.all_eq_true.mp hk.2 k (List.mem_range.mpr hq))) hL hW hS (fun q => ?_) (fun q => ?_)
      · rw [if_pos q] at hst; cases hst; exact n
      · rw [if_neg q] at hst; cases hst; exact n
  | getfield f =>
    match o, S, hst, hk with
    | [cK, k], .ref a :: S, hst, hk =>
      have hk := Bool.and_eq_true_iff.mp hk
      have hk1 := Bool.and_eq_true_iff.mp hk.1
      simp only [stp] at hst
      obtain ⟨q1, q2⟩ := guardo_some hst
      have hz' : z = (i + 1, L, fvA h cK a k :: S, h) := by
        unfold fvA
        split at q2 <;> (rename_i e; cases q2; first | rw [if_pos e] | rw [if_neg e])
      subst hz'
      have hb : ∀ {c1 c2 : Cond}, (wat w c1 || wat w c2) = true → (goodWord c1 || isNestW c1) = true → (goodWord c2 || isNestW c2) = true → c1 ∈ AW ∨ c2 ∈ AW := fun hh h1 h2 => by
        rcases Bool.or_eq_true_iff.mp hh with t | t
        · exact Or.inl (wat_AW t h1)
        · exact Or.inr (wat_AW t h2)
      rcases Bool.or_eq_true_iff.mp hk.2 with t | t
      · have t := Bool.and_eq_true_iff.mp t
        exact op_getf C hd (of_decide_eq_true hk1.2) hL hW hS (of_decide_eq_true q1) (of_decide_eq_true t.1) (of_decide_eq_true hk1.1) (hb t.2 rfl rfl) n
      · have t := Bool.and_eq_true_iff.mp t
        have hc : cK = 40 ∨ cK = 42 := by
          rcases Bool.or_eq_true_iff.mp t.1 with u | u
          · exact Or.inl (of_decide_eq_true u)
          · exact Or.inr (of_decide_eq_true u)
        exact op_getsf C hd (of_decide_eq_true hk1.2) hL hW hS (of_decide_eq_true q1) hc (of_decide_eq_true hk1.1) (hb t.2 rfl rfl) n
  | putfield f =>
    match o, S, hst, hk with
    | [cK, k], .ref v :: .ref a :: S, hst, hk =>
      obtain ⟨hc, hkn, hp, hl⟩ := put_hl hini hk
      obtain ⟨f0, f1, f2, f3⟩ := fd_ty cK hc k hkn
      simp only [stp] at hst
      obtain ⟨q1, q2⟩ := guardo_some hst
      have q1 := Bool.and_eq_true_iff.mp q1
      have q3 : fdk cK k = 2 := of_decide_eq_true q1.2
      cases q2
      have hfit := fit_ref (f2 q3) (rq g v)
      refine op_putf (v := .ref v) (h' := sR h a k v) C hd hp hL hW hS (of_decide_eq_true q1.1) hc hkn hfit.1 hfit.2 hl rfl rfl rfl rfl (fun _ _ => rfl) (fun _ _ => rfl) (fun y hy => upq_ne _ hy _ _) (fun j => ?_) n
      show fvl g (sR h a k v) cK a j = if j = k then va_rf (rq g v) else fvl g h cK a j
      have e1 : hR (sR h a k v) a j = if j = k then v else hR h a j := by show upq h.2.2.1 a k v a j = _; unfold upq; rw [if_pos rfl]; rfl
      have e2 : hI (sR h a k v) a j = hI h a j := rfl
      unfold fvl
      rw [e1, e2]
      by_cases hj : j = k
      · subst hj; rw [if_pos q3, if_pos rfl, if_pos rfl]
      · rw [if_neg hj, if_neg hj]
    | [cK, k], .int v :: .ref a :: S, hst, hk =>
      obtain ⟨hc, hkn, hp, hl⟩ := put_hl hini hk
      obtain ⟨f0, f1, f2, f3⟩ := fd_ty cK hc k hkn
      simp only [stp] at hst
      obtain ⟨q1, q2⟩ := guardo_some hst
      have q1 := Bool.and_eq_true_iff.mp q1
      cases q2
      have hfit : narrow (tyk cK k) (.int v) = .int v ∧ fits (tyk cK k) (.int v) = true ∧ ¬ fdk cK k = 2 := by
        rcases Bool.or_eq_true_iff.mp q1.2 with t | t
        · have t : fdk cK k = 0 := of_decide_eq_true t
          rw [f0 t]; exact ⟨rfl, rfl, by omega⟩
        · have t := Bool.and_eq_true_iff.mp t
          have t1 : fdk cK k = 1 := of_decide_eq_true t.1
          rw [f1 t1]; exact ⟨(fit_bool t.2).1, (fit_bool t.2).2, by omega⟩
      refine op_putf (v := .int v) (h' := sI h a k v) C hd hp hL hW hS (of_decide_eq_true q1.1) hc hkn hfit.1 hfit.2.1 hl rfl rfl rfl rfl (fun y hy => upq_ne _ hy _ _) (fun _ _ => rfl) (fun _ _ => rfl) (fun j => ?_) n
      show fvl g (sI h a k v) cK a j = if j = k then .int v else fvl g h cK a j
      have e1 : hI (sI h a k v) a j = if j = k then v else hI h a j := by show upq h.1 a k v a j = _; unfold upq; rw [if_pos rfl]; rfl
      have e2 : hR (sI h a k v) a j = hR h a j := rfl
      unfold fvl
      rw [e1, e2]
      by_cases hj : j = k
      · subst hj; rw [if_neg hfit.2.2, if_pos rfl, if_pos rfl]
      · rw [if_neg hj, if_neg hj]
  | getstatic f =>
    match o, hst, hk with
    | [a, b], hst, hk =>
      have hk := Bool.and_eq_true_iff.mp hk
      obtain ⟨t, ht, hk2⟩ := List.any_eq_true.mp hk.2
      have hk2 := Bool.and_eq_true_iff.mp hk2
      have ht2 := of_decide_eq_true hk2.1
      have hl : Cond.fieldLink (cnm own) f t.1 t.2.1 t.2.2.1 ∈ AW ∨ Cond.fieldLinkNest (cnm own) f t.1 t.2.1 t.2.2.1 "PenThatJumps" ∈ AW := by
        rcases Bool.or_eq_true_iff.mp hk2.2 with u | u
        · exact Or.inl (wat_AW u rfl)
        · exact Or.inr (wat_AW u rfl)
      match a, hst, ht2 with
      | 0, hst, ht2 =>
        cases hst
        exact op_gets C hd (of_decide_eq_true hk.1) hL hW hS ht (by rw [ht2]; rfl) hl n
      | 1, hst, ht2 =>
        cases hst
        exact op_gets C hd (of_decide_eq_true hk.1) hL hW hS ht (by rw [ht2]; rfl) hl n
  | iaload =>
    obtain ⟨x, a, S', rfl, hm, hx, rfl⟩ := aldI_inv hst
    rcases List.mem_cons.mp hm with u | u
    · exact op_iald C hd (of_decide_eq_true hk) hL hW hS u hx n
    · exact op_sild C hd (of_decide_eq_true hk) hL hW hS (List.mem_singleton.mp u) hx n
  | caload =>
    obtain ⟨x, a, S', rfl, hm, hx, rfl⟩ := aldI_inv hst
    exact op_cald C hd (of_decide_eq_true hk) hL hW hS (List.mem_singleton.mp hm) hx n
  | baload =>
    obtain ⟨x, a, S', rfl, hm, hx, rfl⟩ := aldI_inv hst
    rcases List.mem_cons.mp hm with u | u
    · exact op_zald C hd (of_decide_eq_true hk) hL hW hS u hx n
    · exact op_sbld C hd (of_decide_eq_true hk) hL hW hS (List.mem_singleton.mp u) hx n
  | laload =>
    simp only [stp] at hst
    split at hst
    · obtain ⟨q1, q2⟩ := guardo_some hst
      have q1 := Bool.and_eq_true_iff.mp q1
      cases q2
      exact op_lald C hd (of_decide_eq_true hk) hL hW hS (of_decide_eq_true q1.1) q1.2 n
    · cases hst
  | aaload =>
    simp only [stp] at hst
    split at hst
    · rename_i x a S'
      obtain ⟨q1, q2⟩ := guardo_some hst
      have q1 := Bool.and_eq_true_iff.mp q1
      have q3 := of_decide_eq_true q1.1
      cases q2
      by_cases u : hK h a < 40
      · exact op_aald C hd (of_decide_eq_true hk) hL hW hS q3.1 u q1.2 n
      · exact op_sald C hd (of_decide_eq_true hk) hL hW hS (by omega) q1.2 n
    · cases hst
  | iastore =>
    simp only [stp] at hst
    split at hst
    · obtain ⟨q1, q2⟩ := guardo_some hst
      have q1 := Bool.and_eq_true_iff.mp q1
      cases q2
      exact op_iast C hd (of_decide_eq_true hk) hL hW hS (of_decide_eq_true q1.1) q1.2 n
    · cases hst
  | castore =>
    simp only [stp] at hst
    split at hst
    · obtain ⟨q1, q2⟩ := guardo_some hst
      have q1 := Bool.and_eq_true_iff.mp q1
      cases q2
      exact op_cast C hd (of_decide_eq_true hk) hL hW hS (of_decide_eq_true q1.1) q1.2 n
    · cases hst
  | lastore =>
    simp only [stp] at hst
    split at hst
    · obtain ⟨q1, q2⟩ := guardo_some hst
      have q1 := Bool.and_eq_true_iff.mp q1
      cases q2
      exact op_last C hd (of_decide_eq_true hk) hL hW hS (of_decide_eq_true q1.1) q1.2 n
    · cases hst
  | bastore =>
    simp only [stp] at hst
    split at hst
    · obtain ⟨q1, q2⟩ := guardo_some hst
      have q1 := Bool.and_eq_true_iff.mp q1
      have q3 := Bool.and_eq_true_iff.mp q1.1
      cases q2
      exact op_zast C hd (of_decide_eq_true hk) hL hW hS (of_decide_eq_true q3.1) q3.2 q1.2 n
    · cases hst
  | aastore =>
    simp only [stp] at hst
    split at hst
    · obtain ⟨q1, q2⟩ := guardo_some hst
      have q1 := Bool.and_eq_true_iff.mp q1
      have q3 := of_decide_eq_true q1.1
      cases q2
      exact op_aast C hd (of_decide_eq_true hk) hL hW hS q3.1 q3.2.1 q3.2.2.1 q1.2 n
    · cases hst
  | arraylength =>
    simp only [stp] at hst
    split at hst
    · obtain ⟨q1, q2⟩ := guardo_some hst
      have q3 := of_decide_eq_true q1
      cases q2
      exact op_alen C hd (of_decide_eq_true hk) hL hW hS q3.1 q3.2.1 q3.2.2.1 q3.2.2.2.1 q3.2.2.2.2 n
    · cases hst
  | newarray at0 =>
    match o, S, hst with
    | [k], .int x :: S, hst =>
      simp only [stp] at hst
      obtain ⟨q1, q2⟩ := guardo_some hst
      have q1 := Bool.and_eq_true_iff.mp q1
      have hx := of_decide_eq_true q1.1
      have hx2 := of_decide_eq_true q1.2
      cases q2
      have e5 : hz (mkC h k x.toNatClampNeg x.toNatClampNeg) - hz h = 1 := by show hz h + 1 - hz h = 1; omega
      have e6 : hu (mkC h k x.toNatClampNeg x.toNatClampNeg) - hu h = x.toNatClampNeg := by show hu h + x.toNatClampNeg - hu h = _; omega
      have hr' : cells + 1 ≤ R.cells ∧ slots + x.toNatClampNeg ≤ R.slots := by
        have := hr; dsimp only at this; rw [e5, e6] at this; exact this
      cases at0 with
      | int =>
        have hk := Bool.and_eq_true_iff.mp hk
        have e := of_decide_eq_true hk.1
        subst e
        exact op_newa_int C hd (of_decide_eq_true hk.2) hL hW hS hx hx2 (AWof arr_ok.1 rfl) hr'.1 hr'.2 n
      | char =>
        have hk := Bool.and_eq_true_iff.mp hk
        have e := of_decide_eq_true hk.1
        subst e
        exact op_newa_char C hd (of_decide_eq_true hk.2) hL hW hS hx hx2 (AWof arr_ok.2.1 rfl) hr'.1 hr'.2 n
      | boolean =>
        have hk := Bool.and_eq_true_iff.mp hk
        have e := of_decide_eq_true hk.1
        subst e
        exact op_newa_bool C hd (of_decide_eq_true hk.2) hL hW hS hx hx2 (AWof arr_ok.2.2.1 rfl) hr'.1 hr'.2 n
      | long =>
        have hk := Bool.and_eq_true_iff.mp hk
        have e := of_decide_eq_true hk.1
        subst e
        exact op_newa_long C hd (of_decide_eq_true hk.2) hL hW hS hx hx2 (AWof arr_ok.2.2.2 rfl) hr'.1 hr'.2 n
      | _ => exact absurd hk (fun t => by cases t)
  | anewarray f =>
    match o, S, hst, hk with
    | [k], .int x :: S, hst, hk =>
      have hk := Bool.and_eq_true_iff.mp hk
      have hk1 := Bool.and_eq_true_iff.mp hk.1
      have hm := of_decide_eq_true hk1.1
      simp only [stp] at hst
      obtain ⟨q1, q2⟩ := guardo_some hst
      have q1 := Bool.and_eq_true_iff.mp q1
      have hx := of_decide_eq_true q1.1
      have hx2 := of_decide_eq_true q1.2
      cases q2
      have e5 : hz (mkC h k x.toNatClampNeg x.toNatClampNeg) - hz h = 1 := by show hz h + 1 - hz h = 1; omega
      have e6 : hu (mkC h k x.toNatClampNeg x.toNatClampNeg) - hu h = x.toNatClampNeg := by show hu h + x.toNatClampNeg - hu h = _; omega
      have hr' : cells + 1 ≤ R.cells ∧ slots + x.toNatClampNeg ≤ R.slots := by
        have := hr; dsimp only at this; rw [e5, e6] at this; exact this
      have hcl := wat_AW hk1.2 rfl
      simp only [List.mem_cons, List.mem_nil_iff, or_false] at hm
      rcases hm with e | e | e | e | e
      · subst e; exact op_newr (cn := 3) (t := 4) C hd (of_decide_eq_true hk.2) hL hW hS hx hx2 rfl rfl hcl (AWof (over_ok 3 (by decide)) rfl) hr'.1 hr'.2 n
      · subst e; exact op_newr (cn := 4) (t := 5) C hd (of_decide_eq_true hk.2) hL hW hS hx hx2 rfl rfl hcl (AWof (over_ok 4 (by decide)) rfl) hr'.1 hr'.2 n
      · subst e; exact op_newr (cn := 6) (t := 6) C hd (of_decide_eq_true hk.2) hL hW hS hx hx2 rfl rfl hcl (AWof (over_ok 6 (by decide)) rfl) hr'.1 hr'.2 n
      · subst e; exact op_newr (cn := 7) (t := 7) C hd (of_decide_eq_true hk.2) hL hW hS hx hx2 rfl rfl hcl (AWof (over_ok 7 (by decide)) rfl) hr'.1 hr'.2 n
      · subst e; exact op_newr (cn := 8) (t := 8) C hd (of_decide_eq_true hk.2) hL hW hS hx hx2 rfl rfl hcl (AWof (over_ok 8 (by decide)) rfl) hr'.1 hr'.2 n
  | new f =>
    match o, hst, hk with
    | [cK], hst, hk =>
      have hk := Bool.and_eq_true_iff.mp hk
      have hk1 := Bool.and_eq_true_iff.mp hk.1
      have hc := of_decide_eq_true hk1.1
      cases hst
      have e5 : hz (mkC h cK 0 (fdn cK)) - hz h = 1 := by show hz h + 1 - hz h = 1; omega
      have e6 : hu (mkC h cK 0 (fdn cK)) - hu h = fdn cK := by show hu h + fdn cK - hu h = _; omega
      have hr' : cells + 1 ≤ R.cells ∧ slots + fdn cK ≤ R.slots := by
        have := hr; dsimp only at this; rw [e5, e6] at this; exact this
      exact op_new C hd (of_decide_eq_true hk.2) hL hW hS hc (wat_AW hk1.2 rfl) (AWof (made_ok cK hc).1 rfl) (AWof (made_ok cK hc).2 rfl) hr'.1 hr'.2 n
  | _ => exact absurd hst (fun t => by cases t)
end SIM
end
section
/-! CALLS: what a method of the small machine does, its real one does -/
theorem AW_at {args a' : Array Value} {s U : State} (hW : s.WarmedH U.vm) {w : Cond} (hw : w ∈ AW) (h : w.before args s = true) : w.before a' U = true := by
  obtain ⟨-, hg⟩ := List.mem_filter.mp hw
  rcases Bool.or_eq_true_iff.mp hg with q | q
  · exact word_at hW (good_of_word q) h
  · cases w with
    | fieldLinkNest a i b n d t => exact va_Nw.use rfl (va_Nw.warmF hW (va_Nw.of (A := args) rfl h))
    | methodLinkNest a i x t => exact va_Nw.use rfl (va_Nw.warmM hW (va_Nw.of (A := args) rfl h))
    | arrayOver ty =>
      cases ty with
      | object C => exact va_AO.use (va_AO.moved hW.alike (va_AO.of (A := args) h))
      | _ => cases q
    | _ => cases q
theorem ST.moved {g : GG} {hs : AH} {u U : State} (hvm : u.vm.Alike U.vm) (hq : ∀ a : Nat, a < u.heap.size → ¬ AA g a → U.heap[a]? = u.heap[a]?) (h : ST g hs u) : ST g hs U := by
  obtain ⟨h1, h2, h3, h4, h5, h6, h7⟩ := h
  refine ⟨fun q hq0 => ((h1 q hq0).moved hvm).kept hq, fun a ha hk => ?_, fun a ha hk => ?_, fun a ha hk => ?_, fun a ha hk => ?_, fun a ha hk => ?_, h7⟩
  · obtain ⟨t, ht, hf⟩ := h2 a ha hk
    exact ⟨t, ht, fun k hk2 => ((hf k hk2).moved hvm).kept hq⟩
  · obtain ⟨t, ht, hn, hf⟩ := h3 a ha hk
    exact ⟨t, ht, hn, (hf.moved hvm).kept hq⟩
  · obtain ⟨t, ht, hn, hf⟩ := h4 a ha hk
    exact ⟨t, ht, hn, (hf.moved hvm).kept hq⟩
  · obtain ⟨t, ht, hn, hf⟩ := h5 a ha hk
    exact ⟨t, ht, hn, (hf.moved hvm).kept hq⟩
  · obtain ⟨t, ht, hf⟩ := h6 a ha hk
    exact ⟨t, ht, (hf.moved hvm).kept hq⟩
def EV (g : GG) (hs : AH) (U : State) : Prop := (∀ w ∈ AW, w.before #[] U = true) ∧ va_K g.1 clT (tysT g) U ∧ ST g hs U ∧ gb g ≤ U.heap.size
def PcA (g : GG) (hs : AH) (a : List Value) (h : AH) : Array Value → State → Prop := fun v U => v = (a.map (ph g)).toArray ∧ RW g hs h U.heap ∧ EV g hs U
def QcA (g : GG) (hs : AH) (z : Option Value × AH) : Array Value → State → Outcome → State → Prop := fun _ st o t => o = .returned (z.1.map (ph g)) ∧ RW g hs z.2 t.heap ∧ va_F (AA g) st t
theorem PcA.blind {g : GG} {hs : AH} {a : List Value} {h : AH} : FrameBlind (PcA g hs a h) := by
  intro v U f k q
  obtain ⟨q1, q2, q3, q4, q5, q6⟩ := q
  refine ⟨q1, q2, fun w hw => AW_at (s := U) (U := U.calling f k v) (args := #[]) (State.WarmedH.refl U) hw (q3 w hw), va_K.moved (u := U) (U := U.calling f k v) (Vm.Alike.refl U.vm) q4, ST.moved (u := U) (U := U.calling f k v) (Vm.Alike.refl U.vm) (fun _ _ _ => rfl) q5, q6⟩
/-- a method: its name, its bytes, its locals, what it returns, whose it is, the kind of its receiver (99: none), its instructions -/
abbrev MDt : Type := MethodName × ByteArray × Nat × Option FieldType × Nat × Nat × List IR
def flat (a : List Value) : List Value := a.flatMap fun v => if v.category = 2 then [v, Value.null] else [v]
def rcv (t : MDt) (a : List Value) (h : AH) : Bool := decide ((flat a).length ≤ t.2.2.1) && (decide (t.2.2.2.2.2.1 = 99) || match a with
  | .ref r :: _ => decide (hK h r = t.2.2.2.2.2.1)
  | _ => false)
def rtk (r : Option FieldType) (v : Option Value) : Bool := match r, v with
  | some ty, some (.int x) => decide (narrow ty (.int x) = .int x)
  | some .long, some (.long _) => true
  | some (.object _), some (.ref _) => true
  | some (.array _), some (.ref _) => true
  | none, none => true
  | _, _ => false
def callD (ML : List MDt) (pr : AC) : Nat → Nat → AC
  | 0, _ => fun _ _ _ => none
  | d + 1, n => fun y a h => match ML[y]? with
    | some t => guardo (rcv t a h) ((run (callD ML pr d n) t.2.2.2.2.2.2 n 0 (lcs t.2.2.1 a) [] h).bind fun z => guardo (rtk t.2.2.2.1 z.1) (some z))
    | none => pr y a h
/-- the calls that are no methods of the list: 300 arraycopy of a whole row into another, 301 Object's beginning -/
def cpy (h : AH) (a b n : Nat) : AH := ((fun x y => if x = b then (if y < n then h.1 a y else h.1 x y) else h.1 x y), h.2)
def prm : AC := fun y a h => match y, a with
  | 300, [.ref s, .int sp, .ref t, .int tp, .int n] => guardo (decide (sp = 0 ∧ tp = 0 ∧ 0 ≤ n ∧ hK h s = 20 ∧ hK h t = 20 ∧ s ≠ t ∧ n.toNatClampNeg ≤ hN h s ∧ n.toNatClampNeg ≤ hN h t)) (some (none, cpy h s t n.toNatClampNeg))
  | 301, [.ref r] => guardo (decide (100 ≤ r)) (some (none, h))
  | _, _ => none
def rmD (d mc ms : Nat) : Room := { frames := d, cells := mc, slots := ms, locals := 64 * d }
/-- the contract of the methods at depth d -/
def CT (l : Launch) (ML : List MDt) (pr : AC) (g : GG) (hs : AH) (d : Nat) : Prop :=
  ∀ (y : Nat) (t : MDt), ML[y]? = some t → ∀ (n : Nat) (a : List Value) (h : AH) (z : Option Value × AH), callD ML pr d n y a h = some z →
    hz h ≤ hz z.2 ∧ hu h ≤ hu z.2 ∧ Met l t.1 [.code t.1 t.2.1 t.2.2.1 t.2.2.2.1] (rmD d (hz z.2 - hz h) (hu z.2 - hu h)) (PcA g hs a h) (QcA g hs z) (hz z.2 - hz h) (hu z.2 - hu h) (AA g)
/-- a call stands as it must -/
def cck (ML : List MDt) (own : Nat) (P : List IR) (i : Nat) (q : IR) : Bool := inx P i q.1 3 && match q.2.1, q.2.2.1 with
  | .invokevirtual f, [y, k] => match ML[y]? with
    | some t => decide (t.2.2.2.2.2.1 ≠ 99) && decide (t.1.name ≠ "<init>") && decide ((parseMethodDescriptor t.1.desc).map (fun d => d.parameters.length + 1) = some k) && (wat q.2.2.2 (.methodLink (cnm own) f t.1) || wat q.2.2.2 (.methodLinkNest (cnm own) f t.1 "PenThatJumps"))
    | none => false
  | .invokestatic f, [y, k] => match ML[y]? with
    | some t => decide (t.2.2.2.2.2.1 = 99) && decide ((parseMethodDescriptor t.1.desc).map (fun d => d.parameters.length) = some k) && (wat q.2.2.2 (.methodLink (cnm own) f t.1) || wat q.2.2.2 (.methodLinkNest (cnm own) f t.1 "PenThatJumps"))
    | none => decide (y = 300) && decide (k = 5) && wat q.2.2.2 (.methodLink (cnm own) f arraycopyName)
  | .invokespecial f, [y, k] => match ML[y]? with
    | some t => decide (t.2.2.2.2.2.1 ≠ 99) && decide (t.1.name = "<init>") && decide (t.2.2.2.1 = none) && decide ((parseMethodDescriptor t.1.desc).map (fun d => d.parameters.length + 1) = some k) && (wat q.2.2.2 (.methodLink (cnm own) f t.1) || wat q.2.2.2 (.methodLinkNest (cnm own) f t.1 "PenThatJumps"))
    | none => decide (y = 301) && decide (k = 1) && wat q.2.2.2 (.methodLink (cnm own) f objectInit)
  | _, _ => true
/-- a method stands as it must -/
def MOK (ML : List MDt) (t : MDt) : Prop :=
  Cond.code t.1 t.2.1 t.2.2.1 t.2.2.2.1 ∈ AW ∧ Cond.initialized t.1.cls ∈ AW ∧ plainName t.1.cls = true ∧ (t.1.cls ≠ "java/lang/invoke/MethodHandle" ∧ t.1.cls ≠ "java/lang/invoke/VarHandle") ∧ t.1.cls = cnm t.2.2.2.2.1 ∧
  (t.2.2.2.2.2.1 = 99 → Cond.static t.1 ∈ AW) ∧ (t.2.2.2.2.2.1 ≠ 99 → Cond.instanceMethod t.1 ∈ AW ∧ (t.1.name ≠ "<init>" → Cond.selects t.1.cls t.1 t.1 ∈ AW) ∧ ((t.2.2.2.2.2.1 < 13 ∧ (clk t.2.2.2.2.2.1).1 = t.1.cls) ∨ (t.2.2.2.2.2.1 = 42 ∧ t.1.cls = "java/lang/String"))) ∧
  t.2.2.1 ≤ 45 ∧ pcOf t.2.2.2.2.2.2 0 = 0 ∧
  (∀ (i : Nat) (q : IR), t.2.2.2.2.2.2[i]? = some q → decode t.2.1 q.1 = .ok (q.2.1, ilen q.2.1 q.1) ∧ (isRet q.2.1 = true ∨ (isCall q.2.1 = true ∧ cck ML t.2.2.2.2.1 t.2.2.2.2.2.2 i q = true) ∨ (isRet q.2.1 = false ∧ isCall q.2.1 = false ∧ ick t.2.2.2.2.1 (decide (t.1.name = "<init>")) t.2.2.2.2.2.2 i q = true)))
theorem stp_grow {x : Instr} {o : List Nat} {i : Nat} {L S : List Value} {h : AH} {z : AS} (q : stp x o i L S h = some z) : hz h ≤ hz z.2.2.2 ∧ hu h ≤ hu z.2.2.2 := by
  cases x <;> simp only [stp, ldI, ldJ, ldA, stI, stJ, stA, biI, biJ, biS, aldI, guardo] at q <;> (repeat' split at q) <;>
    first | (cases q; done) | (cases q; exact ⟨Nat.le_refl _, Nat.le_refl _⟩) | (cases q; exact ⟨Nat.le_succ _, Nat.le_add_right _ _⟩)
theorem prm_grow {y : Nat} {a : List Value} {h : AH} {z : Option Value × AH} (q : prm y a h = some z) : hz h ≤ hz z.2 ∧ hu h ≤ hu z.2 := by
  unfold prm at q
  split at q
  · obtain ⟨-, q2⟩ := guardo_some q; cases q2; exact ⟨Nat.le_refl _, Nat.le_refl _⟩
  · obtain ⟨-, q2⟩ := guardo_some q; cases q2; exact ⟨Nat.le_refl _, Nat.le_refl _⟩
  · cases q
theorem run_grow {call : AC} (hc : ∀ y a h z, call y a h = some z → hz h ≤ hz z.2 ∧ hu h ≤ hu z.2) {P : List IR} : ∀ (n i : Nat) (L S : List Value) (h : AH) (z : Option Value × AH), run call P n i L S h = some z → hz h ≤ hz z.2 ∧ hu h ≤ hu z.2
  | 0, i, L, S, h, z, q => by cases q
  | n + 1, i, L, S, h, z, q => by
    unfold run at q
    split at q
    · cases q
    · rename_i r hr
      split at q
      · cases hv : retv r.2.1 S with
        | none => rw [hv] at q; cases q
        | some v => rw [hv] at q; cases q; exact ⟨Nat.le_refl _, Nat.le_refl _⟩
      · split at q
        · split at q
          · obtain ⟨-, q2⟩ := guardo_some q
            obtain ⟨w, q3, q4⟩ := Option.bind_eq_some_iff.mp q2
            have h1 := hc _ _ _ _ q3
            have h2 := run_grow hc n _ _ _ _ _ q4
            exact ⟨Nat.le_trans h1.1 h2.1, Nat.le_trans h1.2 h2.2⟩
          · cases q
        · obtain ⟨w, q3, q4⟩ := Option.bind_eq_some_iff.mp q
          have h1 := stp_grow q3
          have h2 := run_grow hc n _ _ _ _ _ q4
          exact ⟨Nat.le_trans h1.1 h2.1, Nat.le_trans h1.2 h2.2⟩
theorem callD_grow {ML : List MDt} {pr : AC} (hp : ∀ y a h z, pr y a h = some z → hz h ≤ hz z.2 ∧ hu h ≤ hu z.2) : ∀ (d n y : Nat) (a : List Value) (h : AH) (z : Option Value × AH), callD ML pr d n y a h = some z → hz h ≤ hz z.2 ∧ hu h ≤ hu z.2
  | 0, n, y, a, h, z, q => by cases q
  | d + 1, n, y, a, h, z, q => by
    unfold callD at q
    split at q
    · obtain ⟨-, q2⟩ := guardo_some q
      obtain ⟨w, q3, q4⟩ := Option.bind_eq_some_iff.mp q2
      obtain ⟨-, q5⟩ := guardo_some q4
      cases q5
      exact run_grow (callD_grow hp d n) n _ _ _ _ _ q3
    · exact hp _ _ _ _ q
end
section
section RUN
variable {p : Program} {l : Launch} {e : Env} {R : Room} {s : State} {m : MethodId} {args : Array Value} {below : List Frame} {meth : Method} {c : Code} {H : Heap} {locs : List Loc} {cells slots : Nat} {Q : State → Prop} {cc : ByteArray} {nL own pc : Nat} {ls : Array Slot} {g : GG} {hs h : AH} {P : List IR} {i : Nat} {L S : List Value}
theorem after_call {mc ms : Nat} {st0 rest : List Value} {z : Option Value × AH} {a : Array Value} (hr : va_Run p l e R s m args below meth c H locs cells slots mc ms (F0 m pc ls st0) rest (QcA g hs z a) (AA g)) (hS : va_S (AA g) s.heap H locs)
    (kk : ∀ (H1 : Heap) (locs1 : List Loc), RW g hs z.2 H1 → va_S (AA g) s.heap H1 locs1 → W p l e R s m args below meth c H1 locs1 (cells + mc) (slots + ms) Q (F0 m (pc + 3) ls ((z.1.map (ph g)).toList ++ rest))) : W p l e R s m args below meth c H locs cells slots Q (F0 m pc ls st0) := by
  intro T hT X
  obtain ⟨v, st₀, t, T', L, h0, X', hL, e1, e2, ⟨hv, hb, hz, hk⟩, st⟩ := hr T hT X
  cases hv
  rw [h0] at hz hk
  obtain ⟨t2, a1, b1⟩ := kk T'.heap (locs ++ L) (by rw [e1]; exact hb)
    ⟨Nat.le_trans hS.1 (by rw [e1]; exact hz), fun q h1 h2 => by rw [e1, hk q (Nat.lt_of_lt_of_le h1 hS.1) h2]; exact hS.2.1 q h1 h2, fun q hq => by
      rcases List.mem_append.mp hq with h | h
      · exact hS.2.2 q h
      · exact hL q h⟩ T' rfl X'
  exact ⟨t2, st t2 a1, b1⟩
theorem EV_of {U : State} (C : CX p s m args c cc nL own g hs) (hS : va_S (AA g) s.heap H locs) (hU : U.heap = H) (hW : s.WarmedH U.vm) : EV g hs U :=
  ⟨fun w hw => AW_at hW hw (C.2.2.2.2.1 w hw), va_K.moved hW.alike (K_of C), (S_of C).moved hW.alike (fun a h1 h2 => by rw [hU]; exact hS.2.1 a h1 h2), by rw [hU]; exact Nat.le_trans C.2.2.2.2.2.2.2 hS.1⟩
theorem pre_S (C : CX p s m args c cc nL own g hs) (hW : RW g hs h H) (hS : va_S (AA g) s.heap H locs) (a : List Value) : PreS s H (PcA g hs a h) (a.map (ph g)) :=
  ⟨PcA.blind, fun U hU hv => ⟨rfl, by rw [hU]; exact hW, EV_of C hS hU hv⟩⟩
theorem pre_V (C : CX p s m args c cc nL own g hs) (hW : RW g hs h H) (hS : va_S (AA g) s.heap H locs) {a : List Value} {r b k : Nat} {cn : String} (hb : ph g (.ref r) = .ref b) (hr : hK h r = k) (hk : (k < 13 ∧ (clk k).1 = cn) ∨ (k = 42 ∧ cn = "java/lang/String")) : PreV s H cn b (PcA g hs (.ref r :: a) h) (a.map (ph g)) := by
  refine ⟨PcA.blind, ?_, fun U hU hv => ⟨by rw [List.map_cons, hb], by rw [hU]; exact hW, EV_of C hS hU hv⟩⟩
  rcases hk with ⟨hk, rfl⟩ | ⟨hk, rfl⟩
  · obtain ⟨h0, h1⟩ := hW.own (a := r) (by omega)
    have hat := (hW.2.2.1 r h0 h1).2
    rw [cE_obj hr hk] at hat
    rw [ph_own h0] at hb
    cases hb
    exact va_recv (K_of C) (one_P hat) (clT_get hk) (q0 := 0) rfl
  · obtain ⟨ha, e1, -⟩ := st_of hW (a := r) (by omega) (by omega)
    obtain ⟨t, ht, hO⟩ := (S_of C).2.2.2.2.2.1 r ha (by omega)
    rw [ph_some ht] at hb
    cases hb
    exact va_Orecv hO hS
theorem call_B {d mc ms n : Nat} {t : MDt} {f k : Nat} {ML : List MDt} (C : CX p s m args c cc nL own g hs) (M : MOK ML t) (hR : d + 1 ≤ R.frames ∧ 64 * (d + 1) ≤ R.locals) (hl : Cond.methodLink (cnm own) f t.1 ∈ AW) (hn : (parseMethodDescriptor t.1.desc).map (fun d => d.parameters.length) = some n) :
    CallB R s args (cnm own) f t.1 t.2.1 t.2.2.1 t.2.2.2.1 [.code t.1 t.2.1 t.2.2.1 t.2.2.2.1] (rmD d mc ms) mc ms n := by
  obtain ⟨m1, m2, -, m4, -, -, -, m8, -⟩ := M
  refine ⟨rfl, rfl, hR.1, ?_, fun w hw a' U hU => ?_, List.mem_singleton.mpr rfl, C.2.2.2.2.1 _ m1, C.2.2.2.2.1 _ m2, m4, fun sig hs => ?_, C.2.2.2.2.1 _ hl⟩
  · show 8 + (t.2.2.1 + 11) + 64 * d ≤ R.locals
    omega
  · rw [List.mem_singleton.mp hw]; exact AW_at hU m1 (C.2.2.2.2.1 _ m1)
  · rw [hs] at hn; exact (Option.some.inj hn).symm
theorem call_N {d mc ms n : Nat} {t : MDt} {f k : Nat} {ML : List MDt} (C : CX p s m args c cc nL own g hs) (M : MOK ML t) (hR : d + 1 ≤ R.frames ∧ 64 * (d + 1) ≤ R.locals) (hl : Cond.methodLinkNest (cnm own) f t.1 "PenThatJumps" ∈ AW) (hn : (parseMethodDescriptor t.1.desc).map (fun d => d.parameters.length) = some n) :
    va_CN R s args (cnm own) f t.1 "PenThatJumps" t.2.1 t.2.2.1 t.2.2.2.1 [.code t.1 t.2.1 t.2.2.1 t.2.2.2.1] (rmD d mc ms) mc ms n := by
  obtain ⟨m1, m2, -, m4, -, -, -, m8, -⟩ := M
  refine ⟨⟨rfl, rfl, hR.1, ?_, fun w hw a' U hU => ?_, List.mem_singleton.mpr rfl⟩, C.2.2.2.2.1 _ m1, C.2.2.2.2.1 _ m2, m4, fun sig hs => ?_, C.2.2.2.2.1 _ hl⟩
  · show 8 + (t.2.2.1 + 11) + 64 * d ≤ R.locals
    omega
  · rw [List.mem_singleton.mp hw]; exact AW_at hU m1 (C.2.2.2.2.1 _ m1)
  · rw [hs] at hn; exact (Option.some.inj hn).symm
theorem callD_inv {ML : List MDt} {pr : AC} {d n y : Nat} {a : List Value} {h : AH} {z : Option Value × AH} {t : MDt} (q : callD ML pr d n y a h = some z) (ht : ML[y]? = some t) : ∃ d', d = d' + 1 ∧ rcv t a h = true ∧ rtk t.2.2.2.1 z.1 = true ∧ run (callD ML pr d' n) t.2.2.2.2.2.2 n 0 (lcs t.2.2.1 a) [] h = some z := by
  cases d with
  | zero => cases q
  | succ d =>
    unfold callD at q
    rw [ht] at q
    obtain ⟨q1, q2⟩ := guardo_some q
    obtain ⟨w, q3, q4⟩ := Option.bind_eq_some_iff.mp q2
    obtain ⟨q6, q5⟩ := guardo_some q4
    cases q5
    exact ⟨d, rfl, q1, q6, q3⟩
theorem cat_map (g : GG) (S : List Value) : (((S.map (ph g)).map fun v => v.category).sum) = (S.map fun v => v.category).sum := by
  rw [List.map_map]
  congr 1
  apply List.map_congr_left
  intro v _
  exact ph_cat2 g v
theorem ph_recv (hW : RW g hs h H) (C : CX p s m args c cc nL own g hs) {r k : Nat} {cn : String} (hr : hK h r = k) (hk : (k < 13 ∧ (clk k).1 = cn) ∨ (k = 42 ∧ cn = "java/lang/String")) : ∃ b, ph g (.ref r) = .ref b := by
  rcases hk with ⟨hk, -⟩ | ⟨hk, -⟩
  · exact ⟨_, ph_own (hW.own (a := r) (by omega)).1⟩
  · obtain ⟨ha, e1, -⟩ := st_of hW (a := r) (by omega) (by omega)
    obtain ⟨t, ht, -⟩ := (S_of C).2.2.2.2.2.1 r ha (by omega)
    exact ⟨t, ph_some ht⟩
theorem op_call {ML : List MDt} {pr : AC} {q : IR} {y k n d : Nat} {z : Option Value × AH} {t : MDt} (C : CX p s m args c cc nL own g hs) (hd : decode cc q.1 = .ok (q.2.1, ilen q.2.1 q.1)) (hic : isCall q.2.1 = true) (ho : q.2.2.1 = [y, k]) (hck : cck ML own P i q = true) (ht : ML[y]? = some t) (M : MOK ML t) (ct : CT l ML pr g hs d) (hR : d + 1 ≤ R.frames ∧ 64 * (d + 1) ≤ R.locals)
    (hL : LR g L nL ls) (hW : RW g hs h H) (hS : va_S (AA g) s.heap H locs) (hkl : k ≤ S.length) (hcat : ((S.drop k).map fun v => v.category).sum ≤ 8) (hz0 : callD ML pr d n y (S.take k).reverse h = some z) (hrm : cells + (hz z.2 - hz h) ≤ R.cells ∧ slots + (hu z.2 - hu h) ≤ R.slots)
    (kk : ∀ (H1 : Heap) (locs1 : List Loc), RW g hs z.2 H1 → va_S (AA g) s.heap H1 locs1 → W p l e R s m args below meth c H1 locs1 (cells + (hz z.2 - hz h)) (slots + (hu z.2 - hu h)) Q (F0 m (pcOf P (i + 1)) ls ((z.1.toList ++ S.drop k).map (ph g)))) : W p l e R s m args below meth c H locs cells slots Q (F0 m q.1 ls (S.map (ph g))) := by
  obtain ⟨pc, x, o, w⟩ := q
  dsimp only at hd hic ho ⊢
  subst ho
  obtain ⟨-, -, hM⟩ := ct y t ht n _ h z hz0
  obtain ⟨d', -, hrc, -, -⟩ := callD_inv hz0 ht
  have hck := Bool.and_eq_true_iff.mp hck
  have hp : pcOf P (i + 1) = pc + 3 := of_decide_eq_true hck.1
  have hck2 := hck.2
  have hfix : CallFix p m c cc nL s args AW (cnm own) := ⟨C.1, C.2.1, C.2.2.1, C.2.2.2.1, C.2.2.2.2.1⟩
  have hcat' : 2 * (F0 m pc ls (S.map (ph g))).monitorRoom + (((S.drop k).map (ph g)).map fun v => v.category).sum ≤ 8 := lv_room (by rw [cat_map]; exact hcat)
  have hsz : (F0 m pc ls (S.map (ph g))).locals.size = nL := hL.2.1
  have kk' : ∀ (H1 : Heap) (locs1 : List Loc), RW g hs z.2 H1 → va_S (AA g) s.heap H1 locs1 → W p l e R s m args below meth c H1 locs1 (cells + (hz z.2 - hz h)) (slots + (hu z.2 - hu h)) Q (F0 m (pc + 3) ls ((z.1.map (ph g)).toList ++ (S.drop k).map (ph g))) := by
    intro H1 l1 h1 h2
    have := kk H1 l1 h1 h2
    rw [hp, List.map_append] at this
    have e : z.1.toList.map (ph g) = (z.1.map (ph g)).toList := by cases z.1 <;> rfl
    rw [e] at this
    exact this
  have hsplit : S.map (ph g) = ((S.take k).reverse.map (ph g)).reverse ++ (S.drop k).map (ph g) := by
    rw [← List.map_reverse, List.reverse_reverse, ← List.map_append, List.take_append_drop]
  have hlen : (S.take k).reverse.length = k := by rw [List.length_reverse, List.length_take]; omega
  cases x with
  | invokestatic f =>
    simp only [ht] at hck2
    have u1 := Bool.and_eq_true_iff.mp hck2
    have u2 := Bool.and_eq_true_iff.mp u1.1
    have hrk : t.2.2.2.2.2.1 = 99 := of_decide_eq_true u2.1
    have hn := of_decide_eq_true u2.2
    have hst := C.2.2.2.2.1 _ (M.2.2.2.2.2.1 hrk)
    rcases Bool.or_eq_true_iff.mp u1.2 with u | u
    · exact after_call (va_runS hfix hM ⟨call_B (k := k) C M hR (wat_AW u rfl) hn, hst⟩ (pre_S C hW hS _) rfl (by rw [List.length_map]; exact hlen) hsz hsplit hcat' hd hrm) hS kk'
    · exact after_call (va_runSN hfix hM ⟨call_N (k := k) C M hR (wat_AW u rfl) hn, hst, trivial⟩ (pre_S C hW hS _) rfl (by rw [List.length_map]; exact hlen) hsz hsplit hcat' hd hrm) hS kk'
  | invokevirtual f =>
    simp only [ht] at hck2
    have u1 := Bool.and_eq_true_iff.mp hck2
    have u2 := Bool.and_eq_true_iff.mp u1.1
    have u3 := Bool.and_eq_true_iff.mp u2.1
    have hrk : t.2.2.2.2.2.1 ≠ 99 := of_decide_eq_true u3.1
    have hnm : t.1.name ≠ "<init>" := of_decide_eq_true u3.2
    have hn := of_decide_eq_true u2.2
    obtain ⟨hi1, hi2, hi3⟩ := M.2.2.2.2.2.2.1 hrk
    have hrec : ∃ (r : Nat) (a' : List Value), (S.take k).reverse = .ref r :: a' ∧ hK h r = t.2.2.2.2.2.1 := by
      unfold rcv at hrc
      have v1 := (Bool.and_eq_true_iff.mp hrc).2
      rcases Bool.or_eq_true_iff.mp v1 with v | v
      · exact absurd (of_decide_eq_true v) hrk
      · split at v
        · rename_i r a' e; exact ⟨r, a', e, of_decide_eq_true v⟩
        · cases v
    obtain ⟨r, a', ha, hkr⟩ := hrec
    obtain ⟨b, hb⟩ := ph_recv hW C hkr hi3
    rw [ha] at hM hsplit hlen
    have hst9 : S.map (ph g) = (a'.map (ph g)).reverse ++ .ref b :: (S.drop k).map (ph g) := by
      rw [hsplit, List.map_cons, hb, List.reverse_cons, List.append_assoc]; rfl
    have hn' : ∃ n', (parseMethodDescriptor t.1.desc).map (fun d => d.parameters.length) = some n' ∧ n' + 1 = k := by
      cases hpd : parseMethodDescriptor t.1.desc with
      | none => rw [hpd] at hn; cases hn
      | some sg => rw [hpd] at hn; exact ⟨_, rfl, Option.some.inj hn⟩
    obtain ⟨n', hn1, hn2⟩ := hn'
    have hal : (a'.map (ph g)).length = n' := by
      rw [List.length_map]; rw [List.length_cons] at hlen; omega
    have heq : (Value.ref b :: a'.map (ph g)) = (Value.ref r :: a').map (ph g) := by rw [List.map_cons, hb]
    have hi1' := C.2.2.2.2.1 _ hi1
    have hi2' := C.2.2.2.2.1 _ (hi2 hnm)
    rcases Bool.or_eq_true_iff.mp u1.2 with u | u
    · exact after_call (va_runV (C := t.1.cls) hfix hM ⟨call_B (k := k) C M hR (wat_AW u rfl) hn1, hi1', hi2'⟩ (pre_V C hW hS hb hkr hi3) rfl hal hsz hst9 hcat' hd hrm) hS kk'
    · exact after_call (va_runVN (C := t.1.cls) hfix hM ⟨call_N (k := k) C M hR (wat_AW u rfl) hn1, hi1', hi2'⟩ (pre_V C hW hS hb hkr hi3) rfl hal hsz hst9 hcat' hd hrm) hS kk'
  | invokespecial f =>
    simp only [ht] at hck2
    have u1 := Bool.and_eq_true_iff.mp hck2
    have u2 := Bool.and_eq_true_iff.mp u1.1
    have u3 := Bool.and_eq_true_iff.mp u2.1
    have u4 := Bool.and_eq_true_iff.mp u3.1
    have hrk : t.2.2.2.2.2.1 ≠ 99 := of_decide_eq_true u4.1
    have hnm : t.1.name = "<init>" := of_decide_eq_true u4.2
    have hret : t.2.2.2.1 = none := of_decide_eq_true u3.2
    have hn := of_decide_eq_true u2.2
    obtain ⟨hi1, hi2, hi3⟩ := M.2.2.2.2.2.2.1 hrk
    have hrec : ∃ (r : Nat) (a' : List Value), (S.take k).reverse = .ref r :: a' ∧ hK h r = t.2.2.2.2.2.1 := by
      unfold rcv at hrc
      have v1 := (Bool.and_eq_true_iff.mp hrc).2
      rcases Bool.or_eq_true_iff.mp v1 with v | v
      · exact absurd (of_decide_eq_true v) hrk
      · split at v
        · rename_i r a' e; exact ⟨r, a', e, of_decide_eq_true v⟩
        · cases v
    obtain ⟨r, a', ha, hkr⟩ := hrec
    obtain ⟨b, hb⟩ := ph_recv hW C hkr hi3
    rw [ha] at hM hsplit hlen
    have hst9 : S.map (ph g) = (a'.map (ph g)).reverse ++ .ref b :: (S.drop k).map (ph g) := by
      rw [hsplit, List.map_cons, hb, List.reverse_cons, List.append_assoc]; rfl
    have hn' : ∃ n', (parseMethodDescriptor t.1.desc).map (fun d => d.parameters.length) = some n' ∧ n' + 1 = k := by
      cases hpd : parseMethodDescriptor t.1.desc with
      | none => rw [hpd] at hn; cases hn
      | some sg => rw [hpd] at hn; exact ⟨_, rfl, Option.some.inj hn⟩
    obtain ⟨n', hn1, hn2⟩ := hn'
    have hal : (a'.map (ph g)).length = n' := by
      rw [List.length_map]; rw [List.length_cons] at hlen; omega
    have heq : (Value.ref b :: a'.map (ph g)) = (Value.ref r :: a').map (ph g) := by rw [List.map_cons, hb]
    have hi1' := C.2.2.2.2.1 _ hi1
    have hpre : PreS s H (PcA g hs (.ref r :: a') h) (.ref b :: a'.map (ph g)) := by rw [heq]; exact pre_S C hW hS _
    rcases Bool.or_eq_true_iff.mp u1.2 with u | u
    · have hB := call_B (k := k) (d := d) (mc := hz z.2 - hz h) (ms := hu z.2 - hu h) C M hR (wat_AW u rfl) hn1
      rw [hret] at hB hM
      exact after_call (va_runI hfix hM ⟨hB, hnm, hi1'⟩ hpre rfl hal hsz hst9 hcat' hd hrm) hS kk'
    · have hB := call_N (k := k) (d := d) (mc := hz z.2 - hz h) (ms := hu z.2 - hu h) C M hR (wat_AW u rfl) hn1
      rw [hret] at hB hM
      exact after_call (va_runIN hfix hM ⟨hB, hnm, hi1'⟩ hpre rfl hal hsz hst9 hcat' hd hrm) hS kk'
  | _ => cases hic
end RUN
end
section
set_option maxRecDepth 100000 in
theorem jdk_ok : Cond.instanceMethod objectInit ∈ lw_tbl ∧ Cond.code objectInit ⟨#[0xb1]⟩ 1 none ∈ lw_tbl ∧ Cond.native arraycopyName ∈ lw_tbl ∧ Cond.static arraycopyName ∈ lw_tbl ∧ Cond.initialized "java/lang/System" ∈ lw_tbl := by decide +kernel
section MET
variable {p : Program} {l : Launch} {e : Env} {R : Room} {s : State} {m : MethodId} {args : Array Value} {below : List Frame} {meth : Method} {c : Code} {H : Heap} {locs : List Loc} {cells slots : Nat} {Q : State → Prop} {cc : ByteArray} {nL own pc : Nat} {ls : Array Slot} {g : GG} {hs h : AH} {P : List IR} {i : Nat} {L S : List Value}
theorem op_objInit {f r : Nat} (C : CX p s m args c cc nL own g hs) (hd : decode cc pc = .ok (.invokespecial f, 3)) (hl : Cond.methodLink (cnm own) f objectInit ∈ AW) (hR : 1 ≤ R.frames ∧ 64 ≤ R.locals) (hL : LR g L nL ls) (hr : 100 ≤ r) (hcat : (S.map fun v => v.category).sum ≤ 8)
    (kk : W p l e R s m args below meth c H locs cells slots Q (F0 m (pc + 3) ls (S.map (ph g)))) : W p l e R s m args below meth c H locs cells slots Q (F0 m pc ls ((.ref r :: S).map (ph g))) := by
  rw [List.map_cons, ph_own hr]
  have hts := C.2.2.2.2.1
  refine W.objInit C.1 C.2.1 C.2.2.2.1 (hts _ hl) (hts _ (AWof jdk_ok.1 rfl)) (hts _ (AWof jdk_ok.2.1 rfl)) rfl (by rw [C.2.2.1]; exact hL.2.1) rfl hd hR.1 ?_ kk
  have h1 : 2 * (F0 m pc ls (.ref (gb g + (r - 100)) :: S.map (ph g))).monitorRoom + ((S.map (ph g)).map fun v => v.category).sum ≤ 8 := lv_room (by rw [cat_map]; exact hcat)
  have h2 := hR.2
  omega
theorem op_copy {f a0 a1 : Nat} {n : Int32} (C : CX p s m args c cc nL own g hs) (hd : decode cc pc = .ok (.invokestatic f, 3)) (hl : Cond.methodLink (cnm own) f arraycopyName ∈ AW) (hR : 1 ≤ R.frames ∧ 64 ≤ R.locals) (hL : LR g L nL ls) (hW : RW g hs h H) (hS : va_S (AA g) s.heap H locs) (hcat : (S.map fun v => v.category).sum ≤ 8)
    (hn : 0 ≤ n) (hk0 : hK h a0 = 20) (hk1 : hK h a1 = 20) (hne : a0 ≠ a1) (hn0 : n.toNatClampNeg ≤ hN h a0) (hn1 : n.toNatClampNeg ≤ hN h a1)
    (kk : ∀ (H1 : Heap) (locs1 : List Loc), RW g hs (cpy h a0 a1 n.toNatClampNeg) H1 → va_S (AA g) s.heap H1 locs1 → W p l e R s m args below meth c H1 locs1 cells slots Q (F0 m (pc + 3) ls (S.map (ph g)))) :
    W p l e R s m args below meth c H locs cells slots Q (F0 m pc ls ((.int n :: .int 0 :: .ref a1 :: .int 0 :: .ref a0 :: S).map (ph g))) := by
  obtain ⟨b0, b1⟩ := hW.own (a := a0) (by omega)
  obtain ⟨d0, d1⟩ := hW.own (a := a1) (by omega)
  have hat0 := (hW.2.2.1 a0 b0 b1).2
  have hat1 := (hW.2.2.1 a1 d0 d1).2
  rw [cE_int hk0 (by decide) (by decide)] at hat0
  rw [cE_int hk1 (by decide) (by decide)] at hat1
  have hc0 : H[gb g + (a0 - 100)]? = some (vp_cell (g.2.1 20) (hN h a0, .inl (hI h a0))) := hat0
  have hc1 : H[gb g + (a1 - 100)]? = some (vp_cell (g.2.1 20) (hN h a1, .inl (hI h a1))) := hat1
  simp only [List.map_cons]
  rw [ph_own b0, ph_own d0]
  have hts := C.2.2.2.2.1
  have nn : ∀ z : Int32, ¬ z < 0 → z.toInt = (z.toNatClampNeg : Int) := by
    intro z hz
    have hz0 : (0 : Int) ≤ z.toInt := by
      have := Int32.not_lt.mp hz
      simpa using Int32.le_iff_toInt_le.mp this
    show z.toInt = ((z.toInt.toNat : Nat) : Int)
    omega
  have hn' : ¬ n < 0 := Int32.not_lt.mpr hn
  have z0 : (0 : Int32).toNatClampNeg = 0 := by decide
  intro T hT X
  obtain ⟨-, k0, hk0', cm0, hkk0⟩ := ((K_of C).2 0 _ rfl).1 (hN h a0) (fun j => .int (hI h a0 j))
  obtain ⟨vm', X', step⟩ := X.arraycopy C.1 C.2.2.2.1 (hts _ hl) (hts _ (AWof jdk_ok.2.2.1 rfl)) (hts _ (AWof jdk_ok.2.2.2.1 rfl)) (hts _ (AWof jdk_ok.2.2.2.2 rfl)) (src := gb g + (a0 - 100)) (dst := gb g + (a1 - 100)) (cs := vp_cell (g.2.1 20) (hN h a0, .inl (hI h a0))) (cd := vp_cell (g.2.1 20) (hN h a1, .inl (hI h a1))) (srcPos := 0) (destPos := 0) (n := n) (by rw [hT]; exact hc0) (by rw [hT]; exact hc1)
    (fun _ h => by cases h) (fun _ h => by cases h) (fun h => by cases h) (fun h => by cases h) hk0' hk0' hkk0 hkk0 (by simp [refKind]) (by decide) (by decide) hn'
    (by rw [nn n hn']; show ¬ _ > ((arrV (g.2.1 20) (hN h a0) (fun j => .int (hI h a0 j))).slots.size : Int); rw [arrV_size]; show ¬ ((0 : Int) + _ > _); omega)
    (by rw [nn n hn']; show ¬ _ > ((arrV (g.2.1 20) (hN h a1) (fun j => .int (hI h a1 j))).slots.size : Int); rw [arrV_size]; show ¬ ((0 : Int) + _ > _); omega)
    (fun vm₁ _ i hi => by
      have e : (vp_cell (g.2.1 20) (hN h a0, .inl (hI h a0))).slots.getD ((0 : Int32).toNatClampNeg + i) .null = .int (hI h a0 ((0 : Int32).toNatClampNeg + i)) := by
        show (arrV (g.2.1 20) (hN h a0) (fun j => .int (hI h a0 j))).slots.getD _ _ = _
        rw [Array.getD_eq_getD_getElem?, arrV_read _ _ (by rw [z0]; omega)]
        rfl
      refine ⟨?_, ?_⟩
      · rw [e]
        rfl
      · rw [e]
        exact trivial)
    (g := F0 m pc ls (.int n :: .int 0 :: .ref (gb g + (a1 - 100)) :: .int 0 :: .ref (gb g + (a0 - 100)) :: S.map (ph g))) rfl (by rw [C.2.2.1]; exact hL.2.1) (rest := S.map (ph g)) rfl (by rw [C.2.1]; exact hd) hR.1 (by
      show 2 * 0 + _ + _ ≤ _
      rw [cat_map]
      have : nativeFrameWords "java/lang/System" "arraycopy" 5 + 11 ≤ 50 := by decide
      have h2 := hR.2
      omega)
  have e1 : copied (vp_cell (g.2.1 20) (hN h a0, .inl (hI h a0))) (vp_cell (g.2.1 20) (hN h a1, .inl (hI h a1))) 0 0 n = vp_cell (g.2.1 20) (hN h a1, .inl (va_cpy (hI h a0) (hI h a1) (0 : Int32).toNatClampNeg (0 : Int32).toNatClampNeg n.toNatClampNeg)) := va_copied (fun z => .int z) _ _ _ _ (by rw [z0]; omega)
  rw [e1, z0] at X' step
  have hlt : gb g + (a1 - 100) < H.size := (Array.getElem?_eq_some_iff.mp hc1).1
  generalize hcl : vp_cell (g.2.1 20) (hN h a1, .inl (va_cpy (hI h a0) (hI h a1) 0 0 n.toNatClampNeg)) = cl at X' step
  have hheap : ((T.setVm vm').setCell (gb g + (a1 - 100)) cl).heap = H.setIfInBounds (gb g + (a1 - 100)) cl := by rw [← hT]; rfl
  have oq : ∀ q : Nat, q ≠ gb g + (a1 - 100) → (H.setIfInBounds (gb g + (a1 - 100)) cl)[q]? = H[q]? := fun q hq => by simp [Array.getElem?_setIfInBounds, Ne.symm hq]
  have hA : AA g (gb g + (a1 - 100)) := Nat.le_add_right _ _
  have hW' : RW g hs (cpy h a0 a1 n.toNatClampNeg) (H.setIfInBounds (gb g + (a1 - 100)) cl) := by
    refine hW.upd d0 d1 rfl rfl rfl (fun y hy => ?_) (fun y _ => rfl) (fun y _ => rfl) (by simp) oq ?_
    · funext z; show (if y = a1 then _ else h.1 y z) = _; rw [if_neg hy]; rfl
    · rw [cE_int (h := cpy h a0 a1 n.toNatClampNeg) hk1 (by decide) (by decide)]
      show (H.setIfInBounds (gb g + (a1 - 100)) cl)[gb g + (a1 - 100)]? = some (vp_cell _ _)
      rw [Array.getElem?_setIfInBounds, if_pos rfl, if_pos hlt, ← hcl]
      congr 3
      congr 1
      funext z
      show va_cpy (hI h a0) (hI h a1) 0 0 n.toNatClampNeg z = if a1 = a1 then (if z < n.toNatClampNeg then h.1 a0 z else h.1 a1 z) else h.1 a1 z
      rw [if_pos rfl]
      unfold va_cpy
      by_cases hq : z < n.toNatClampNeg
      · rw [if_pos ⟨Nat.zero_le _, by omega⟩, if_pos hq]; simp [hI]
      · rw [if_neg (by omega), if_neg hq]; rfl
  obtain ⟨t, u1, u2⟩ := kk _ _ hW' ⟨by simp; exact hS.1, fun q g1 g2 => by
      rw [oq q (fun e => g2 (by rw [e]; exact hA))]
      exact hS.2.1 q g1 g2, fun q hq => by
      rcases List.mem_append.mp hq with h | h
      · exact hS.2.2 q h
      · obtain ⟨z, -, hz⟩ := List.mem_map.mp h
        rw [← hz]
        exact hA⟩ _ hheap X'
  exact ⟨t, step t u1, u2⟩
end MET
end
section
/-! THE SMALL MACHINE IS SOUND -/
section SOUND
variable {p : Program} {l : Launch} {e : Env} {R : Room} {s : State} {m : MethodId} {args : Array Value} {below : List Frame} {meth : Method} {c : Code} {Q : State → Prop} {cc : ByteArray} {nL own : Nat} {g : GG} {hs : AH} {P : List IR}
/-- every instruction of a piece of code stands as it must -/
def POK (ML : List MDt) (cc : ByteArray) (own : Nat) (ini : Bool) (P : List IR) : Prop := ∀ (i : Nat) (q : IR), P[i]? = some q → decode cc q.1 = .ok (q.2.1, ilen q.2.1 q.1) ∧ (isRet q.2.1 = true ∨ (isCall q.2.1 = true ∧ cck ML own P i q = true) ∨ (isRet q.2.1 = false ∧ isCall q.2.1 = false ∧ ick own ini P i q = true))
theorem isRet_call {x : Instr} (h : isRet x = true) : isCall x = false := by cases x <;> first | rfl | cases h
theorem pcOf_at {P : List IR} {i : Nat} {q : IR} (h : P[i]? = some q) : pcOf P i = q.1 := by
  unfold pcOf; rw [List.getD_eq_getElem?_getD, h]; rfl
theorem prm301_inv {a : List Value} {h : AH} {w : Option Value × AH} (q : prm 301 a h = some w) : ∃ r, a = [.ref r] ∧ 100 ≤ r ∧ w = (none, h) := by
  match a, q with
  | [.ref r], q =>
    obtain ⟨r1, r2⟩ := guardo_some (show guardo (decide (100 ≤ r)) (some (none, h)) = some w from q)
    exact ⟨r, rfl, of_decide_eq_true r1, (Option.some.inj r2).symm⟩
theorem prm300_inv {a : List Value} {h : AH} {w : Option Value × AH} (q : prm 300 a h = some w) : ∃ (a0 a1 : Nat) (n : Int32), a = [.ref a0, .int 0, .ref a1, .int 0, .int n] ∧ 0 ≤ n ∧ hK h a0 = 20 ∧ hK h a1 = 20 ∧ a0 ≠ a1 ∧ n.toNatClampNeg ≤ hN h a0 ∧ n.toNatClampNeg ≤ hN h a1 ∧ w = (none, cpy h a0 a1 n.toNatClampNeg) := by
  match a, q with
  | [.ref a0, .int sp, .ref a1, .int tp, .int n], q =>
    obtain ⟨r1, r2⟩ := guardo_some (show guardo (decide (sp = 0 ∧ tp = 0 ∧ 0 ≤ n ∧ hK h a0 = 20 ∧ hK h a1 = 20 ∧ a0 ≠ a1 ∧ n.toNatClampNeg ≤ hN h a0 ∧ n.toNatClampNeg ≤ hN h a1)) (some (none, cpy h a0 a1 n.toNatClampNeg)) = some w from q)
    obtain ⟨rfl, rfl, r3, r4, r5, r6, r7, r8⟩ := of_decide_eq_true r1
    exact ⟨a0, a1, n, rfl, r3, r4, r5, r6, r7, r8, (Option.some.inj r2).symm⟩
theorem sim_run {ML : List MDt} {d nn : Nat} {ini : Bool} (C : CX p s m args c cc nL own g hs) (hP : POK ML cc own ini P) (hini : ini = true → meth.name = "<init>") (hM : ∀ (y : Nat) (t : MDt), ML[y]? = some t → MOK ML t) (hML : ML.length ≤ 300) (ct : CT l ML prm g hs d) (hR : d + 1 ≤ R.frames ∧ 64 * (d + 1) ≤ R.locals) :
    ∀ (n i : Nat) (L S : List Value) (h : AH) (z : Option Value × AH) (H : Heap) (ls : Array Slot) (locs : List Loc) (cells slots : Nat), run (callD ML prm d nn) P n i L S h = some z → LR g L nL ls → RW g hs h H → va_S (AA g) s.heap H locs → cells + (hz z.2 - hz h) ≤ R.cells ∧ slots + (hu z.2 - hu h) ≤ R.slots →
    (∀ (x : Instr) (pc' : Nat) (S' : List Value) (H' : Heap) (ls' : Array Slot) (locs' : List Loc), isRet x = true → decode cc pc' = .ok (x, ilen x pc') → retv x S' = some z.1 → RW g hs z.2 H' → va_S (AA g) s.heap H' locs' → W p l e R s m args below meth c H' locs' (cells + (hz z.2 - hz h)) (slots + (hu z.2 - hu h)) Q (F0 m pc' ls' (S'.map (ph g)))) →
    W p l e R s m args below meth c H locs cells slots Q (F0 m (pcOf P i) ls (S.map (ph g)))
  | 0, i, L, S, h, z, H, ls, locs, cells, slots, hrun, hL, hW, hS, hroom, K => by cases hrun
  | n + 1, i, L, S, h, z, H, ls, locs, cells, slots, hrun, hL, hW, hS, hroom, K => by
    have hgrow := callD_grow (ML := ML) (pr := prm) (fun _ _ _ _ => prm_grow) d nn
    unfold run at hrun
    split at hrun
    · cases hrun
    · rename_i q hq
      obtain ⟨hd, hcase⟩ := hP i q hq
      rw [pcOf_at hq]
      split at hrun
      · rename_i hret
        cases hv : retv q.2.1 S with
        | none => rw [hv] at hrun; cases hrun
        | some v =>
          rw [hv] at hrun
          cases hrun
          have := K q.2.1 q.1 S H ls locs hret hd hv hW hS
          simp only [Nat.sub_self, Nat.add_zero] at this
          exact this
      · rename_i hret
        split at hrun
        · rename_i hcall
          have hck : cck ML own P i q = true := by
            rcases hcase with u | u | u
            · exact absurd u hret
            · exact u.2
            · rw [u.2.1] at hcall; cases hcall
          split at hrun
          · rename_i y k ho
            obtain ⟨g1, hrun⟩ := guardo_some hrun
            have g1 := Bool.and_eq_true_iff.mp g1
            have hkl : k ≤ S.length := of_decide_eq_true g1.1
            have hcat : ((S.drop k).map fun v => v.category).sum ≤ 8 := of_decide_eq_true g1.2
            obtain ⟨w, hc1, hrun⟩ := Option.bind_eq_some_iff.mp hrun
            have gw := hgrow _ _ _ _ hc1
            have gz := run_grow hgrow n _ _ _ _ _ hrun
            have hrm : cells + (hz w.2 - hz h) ≤ R.cells ∧ slots + (hu w.2 - hu h) ≤ R.slots := by omega
            have next : ∀ (H1 : Heap) (locs1 : List Loc), RW g hs w.2 H1 → va_S (AA g) s.heap H1 locs1 → W p l e R s m args below meth c H1 locs1 (cells + (hz w.2 - hz h)) (slots + (hu w.2 - hu h)) Q (F0 m (pcOf P (i + 1)) ls ((w.1.toList ++ S.drop k).map (ph g))) := by
              intro H1 l1 hW1 hS1
              refine sim_run C hP hini hM hML ct hR n (i + 1) L (w.1.toList ++ S.drop k) w.2 z H1 ls l1 _ _ hrun hL hW1 hS1 (by omega) ?_
              intro x pc' S' H' ls' locs' k1 k2 k3 k4 k5
              have := K x pc' S' H' ls' locs' k1 k2 k3 k4 k5
              rw [show cells + (hz w.2 - hz h) + (hz z.2 - hz w.2) = cells + (hz z.2 - hz h) by omega, show slots + (hu w.2 - hu h) + (hu z.2 - hu w.2) = slots + (hu z.2 - hu h) by omega]
              exact this
            cases ht : ML[y]? with
            | some t => exact op_call (k := k) C hd hcall ho hck ht (hM y t ht) ct hR hL hW hS hkl hcat hc1 hrm next
            | none =>
              cases d with
              | zero => cases hc1
              | succ d =>
                simp only [callD, ht] at hc1
                obtain ⟨pc, x, o, wd⟩ := q
                dsimp only at ho hcall hd ⊢
                subst ho
                have hck := Bool.and_eq_true_iff.mp hck
                have hp : pcOf P (i + 1) = pc + 3 := of_decide_eq_true hck.1
                have hck2 := hck.2
                have hR' : 1 ≤ R.frames ∧ 64 ≤ R.locals := by omega
                cases x with
                | invokevirtual f => simp only [ht] at hck2; cases hck2
                | invokespecial f =>
                  simp only [ht] at hck2
                  have u1 := Bool.and_eq_true_iff.mp hck2
                  have u2 := Bool.and_eq_true_iff.mp u1.1
                  have e1 : y = 301 := of_decide_eq_true u2.1
                  have e2 : k = 1 := of_decide_eq_true u2.2
                  subst e1; subst e2
                  obtain ⟨r, hr1, hr2, rfl⟩ := prm301_inv hc1
                  match S, hkl, hr1, hcat, next with
                  | v :: S, hkl, hr1, hcat, next =>
                    have hvr : v = .ref r := by simpa using hr1
                    subst hvr
                    have nx := next H locs hW hS
                    rw [hp] at nx
                    simp only [Nat.sub_self, Nat.add_zero] at nx
                    exact op_objInit C hd (wat_AW u1.2 rfl) hR' hL hr2 hcat nx
                | invokestatic f =>
                  simp only [ht] at hck2
                  have u1 := Bool.and_eq_true_iff.mp hck2
                  have u2 := Bool.and_eq_true_iff.mp u1.1
                  have e1 : y = 300 := of_decide_eq_true u2.1
                  have e2 : k = 5 := of_decide_eq_true u2.2
                  subst e1; subst e2
                  obtain ⟨a0, a1, nv, hr1, r3, r4, r5, r6, r7, r8, rfl⟩ := prm300_inv hc1
                  match S, hkl, hr1, hcat, next with
                  | v1 :: v2 :: v3 :: v4 :: v5 :: S, hkl, hr1, hcat, next =>
                    have hh : v5 = .ref a0 ∧ v4 = .int 0 ∧ v3 = .ref a1 ∧ v2 = .int 0 ∧ v1 = .int nv := by
                      simpa using hr1
                    obtain ⟨rfl, rfl, rfl, rfl, rfl⟩ := hh
                    refine op_copy C hd (wat_AW u1.2 rfl) hR' hL hW hS hcat r3 r4 r5 r6 r7 r8 (fun H1 l1 k1 k2 => ?_)
                    have nx := next H1 l1 k1 k2
                    rw [hp] at nx
                    have z5 : hz (cpy h a0 a1 nv.toNatClampNeg) = hz h := rfl
                    have z6 : hu (cpy h a0 a1 nv.toNatClampNeg) = hu h := rfl
                    simp only [z5, z6, Nat.sub_self, Nat.add_zero] at nx
                    exact nx
                | _ => cases hcall
          · cases hrun
        · rename_i hcall
          have hick : ick own ini P i q = true := by
            rcases hcase with u | u | u
            · exact absurd u hret
            · exact absurd u.1 hcall
            · exact u.2.2
          obtain ⟨w, hst, hrun⟩ := Option.bind_eq_some_iff.mp hrun
          have gw := stp_grow hst
          have gz := run_grow hgrow n _ _ _ _ _ hrun
          refine sim_step C hd hick hini hL hW hS hst (by omega) ?_
          intro ls' H' locs' hL' hW' hS'
          refine sim_run C hP hini hM hML ct hR n w.1 w.2.1 w.2.2.1 w.2.2.2 z H' ls' locs' _ _ hrun hL' hW' hS' (by omega) ?_
          intro x pc' S' H'' ls'' locs'' k1 k2 k3 k4 k5
          have := K x pc' S' H'' ls'' locs'' k1 k2 k3 k4 k5
          rw [show cells + (hz w.2.2.2 - hz h) + (hz z.2 - hz w.2.2.2) = cells + (hz z.2 - hz h) by omega, show slots + (hu w.2.2.2 - hu h) + (hu z.2 - hu w.2.2.2) = slots + (hu z.2 - hu h) by omega]
          exact this
theorem met_all (l : Launch) (g : GG) (hs : AH) {ML : List MDt} (hM : ∀ (y : Nat) (t : MDt), ML[y]? = some t → MOK ML t) (hML : ML.length ≤ 300) : ∀ d, CT l ML prm g hs d
  | 0 => fun y t ht n a h z q => by cases q
  | d + 1 => fun y t ht n a h z q => by
    have ih := met_all l g hs hM hML d
    have hgr := callD_grow (ML := ML) (pr := prm) (fun _ _ _ _ => prm_grow) (d + 1) n y a h z q
    obtain ⟨d', hd', hrc, hrt, hrun⟩ := callD_inv q ht
    cases hd'
    refine ⟨hgr.1, hgr.2, ?_⟩
    have M := hM y t ht
    obtain ⟨m1, m2, m3, m4, m5, m6, m7, m8, m9, m10⟩ := M
    refine Met.ofW (cc := t.2.1) (maxL := t.2.2.1) (ret := t.2.2.2.1) m3 rfl ?_
    intro p e s m args below meth c s₁ B hml hv
    obtain ⟨rfl, hW, hE1, hE2, hE3, hE4⟩ := hv
    have hown : s.vm.findClass t.1.cls = some m.cls := findClass_of_methodNamed B.named
    have C : CX p s m (a.map (ph g)).toArray c t.2.1 t.2.2.1 t.2.2.2.2.1 g hs := ⟨B.exec, B.bytes, hml, by rw [← m5]; exact hown, fun w hw => AW_at (State.WarmedH.refl s) hw (hE1 w hw), hE2, hE3, hE4⟩
    have hfl : (flat a).length ≤ t.2.2.1 := of_decide_eq_true (Bool.and_eq_true_iff.mp hrc).1
    rw [lg_entry_eq]
    have hL := LR.entry g a (n := t.2.2.1) hfl
    generalize ((lg_sl (a.map (ph g)) ++ List.replicate (t.2.2.1 - (lg_sl (a.map (ph g))).length) Slot.unset).toArray) = ls at hL ⊢
    have hlocks := B.notSynchronized
    have hr := B.returns
    have hS0 : va_S (AA g) s.heap s.heap [] := va_S.rf
    have K0 := sim_run (p := p) (l := l) (e := e) (R := rmD (d + 1) (hz z.2 - hz h) (hu z.2 - hu h)) (below := below) (meth := meth) (Q := MQ below (QcA g hs z) (a.map (ph g)).toArray s (hz z.2 - hz h) (hu z.2 - hu h) (AA g)) (ini := decide (t.1.name = "<init>")) C m10 (fun hq => by
        rw [(name_of_methodNamed B.named B.method).1]; exact of_decide_eq_true hq) hM hML ih ⟨Nat.le_refl _, Nat.le_refl _⟩ n 0 (lcs t.2.2.1 a) [] h z s.heap ls [] 0 0 hrun hL hW hS0 (by show 0 + _ ≤ (hz z.2 - hz h) ∧ 0 + _ ≤ (hu z.2 - hu h); omega) ?_
    · rw [m9] at K0
      exact K0
    · intro x pc' S' H' ls' locs' k1 k2 k3 k4 k5
      rw [Nat.zero_add, Nat.zero_add]
      have hq : ∀ t' : State, t'.heap = H' → s.WarmedH t'.vm → QcA g hs z (a.map (ph g)).toArray s (.returned (z.1.map (ph g))) t' := fun t' e1 _ => ⟨rfl, by rw [e1]; exact k4, k5.F e1⟩
      cases x with
      | ireturn =>
        match S', k3 with
        | [.int v], k3 =>
          have e1 : z.1 = some (.int v) := (Option.some.inj k3).symm
          rw [e1] at hq hrt
          cases hty : t.2.2.2.1 with
          | none => rw [hty] at hrt; cases hrt
          | some ty =>
            rw [hty] at hrt hr
            have hn : narrow ty (.int v) = .int v := by
              unfold rtk at hrt
              exact of_decide_eq_true hrt
            exact W.zret B.exec B.bytes hr hn hq k5.2.2 k2
      | lreturn =>
        match S', k3 with
        | [.long v], k3 =>
          have e1 : z.1 = some (.long v) := (Option.some.inj k3).symm
          rw [e1] at hq hrt
          have hty : t.2.2.2.1 = some .long := by
            unfold rtk at hrt
            split at hrt <;> first | assumption | (rename_i h1 h2; cases h2) | cases hrt | (rename_i h1; cases h1)
          rw [hty] at hr
          exact W.lret B.exec B.bytes hr hq k5.2.2 k2
      | areturn =>
        match S', k3 with
        | [.ref v], k3 =>
          have e1 : z.1 = some (.ref v) := (Option.some.inj k3).symm
          rw [e1] at hq hrt
          have hty : ∃ rt, t.2.2.2.1 = some rt ∧ ((∃ n, rt = .object n) ∨ ∃ u, rt = .array u) := by
            cases hty : t.2.2.2.1 with
            | none => rw [hty] at hrt; cases hrt
            | some ty =>
              rw [hty] at hrt
              cases ty <;> first | (cases hrt; done) | exact ⟨_, rfl, Or.inl ⟨_, rfl⟩⟩ | exact ⟨_, rfl, Or.inr ⟨_, rfl⟩⟩
          obtain ⟨rt, hty, hrt2⟩ := hty
          rw [hty] at hr
          have hv : ph g (.ref v) = .null ∨ ∃ b, ph g (.ref v) = .ref b := by
            show va_rf (rq g v) = _ ∨ ∃ b, va_rf (rq g v) = _
            cases rq g v with
            | none => exact Or.inl rfl
            | some b => exact Or.inr ⟨b, rfl⟩
          exact W.aret B.exec B.bytes hr hrt2 hv hq k5.2.2 k2
      | return_ =>
        match S', k3 with
        | [], k3 =>
          have e1 : z.1 = none := (Option.some.inj k3).symm
          rw [e1] at hq hrt
          have hty : t.2.2.2.1 = none := by
            cases hty : t.2.2.2.1 with
            | none => rfl
            | some ty => rw [hty] at hrt; cases ty <;> cases hrt
          rw [hty] at hr
          exact W.vret B.exec B.bytes hr hq k5.2.2 k2
      | _ => cases k1
end SOUND
end
