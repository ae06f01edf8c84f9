/-! the code, by program out of what TURN printed of the class, the law and the reference -/
/-- PenThatJumps$Chair.<init>()V -/
def P_Ch_init : List IR := [
  (0, .aload_n 0, [], 0), (1, .invokespecial 3, [301, 1], 316), (4, .aload_n 0, [], 0), (5, .new 9, [6], 317), (8, .dup, [], 0), (9, .iconst 0, [], 0),
  (10, .invokespecial 11, [46, 2], 318), (13, .putfield 14, [0, 0], 319), (16, .aload_n 0, [], 0), (17, .bipush 12, [], 0), (19, .newarray .int, [20], 0), (21, .putfield 20, [0, 1], 321),
  (24, .aload_n 0, [], 0), (25, .iconst 3, [], 0), (26, .newarray .int, [20], 0), (28, .putfield 24, [0, 2], 322), (31, .return_, [], 0)]
abbrev q_Ch_init : Nat := 0
def m_Ch_init : MDt := (⟨"PenThatJumps$Chair", "<init>", "()V"⟩, prog_2_method_1_code, 1, none, 0, 0, P_Ch_init)
/-- PenThatJumps$Chair.fill(LPenThatJumps$Person;LPenThatJumps$Plan;[I)V -/
def P_Ch_fill : List IR := [
  (0, .iconst 0, [], 0), (1, .istore 4, [], 0), (3, .iload 4, [], 0), (5, .aload_n 2, [], 0), (6, .getfield 27, [4, 3], 235), (9, .if_icmp .ge 80, [49], 0),
  (12, .aload_n 0, [], 0), (13, .aload_n 1, [], 0), (14, .aload_n 2, [], 0), (15, .iload 4, [], 0), (17, .aload_n 2, [], 0), (18, .iload 4, [], 0),
  (20, .invokevirtual 33, [39, 2], 792), (23, .iload 4, [], 0), (25, .invokevirtual 37, [3, 6], 796), (28, .iconst 0, [], 0), (29, .istore 5, [], 0), (31, .iload 5, [], 0),
  (33, .bipush 12, [], 0), (35, .if_icmp .ge 48, [47], 0), (38, .iload 4, [], 0), (40, .iconst 3, [], 0), (41, .imul, [], 0), (42, .iconst 4, [], 0),
  (43, .imul, [], 0), (44, .iload 5, [], 0), (46, .iadd, [], 0), (47, .istore 6, [], 0), (49, .iload 6, [], 0), (51, .ifCond .lt 26, [45], 0),
  (54, .iload 6, [], 0), (56, .aload_n 3, [], 0), (57, .arraylength, [], 0), (58, .if_icmp .ge 19, [45], 0), (61, .aload_n 3, [], 0), (62, .iload 6, [], 0),
  (64, .aload_n 0, [], 0), (65, .iload 5, [], 0), (67, .iconst 4, [], 0), (68, .idiv, [], 0), (69, .iload 5, [], 0), (71, .iconst 4, [], 0),
  (72, .irem, [], 0), (73, .invokevirtual 41, [4, 3], 802), (76, .iastore, [], 0), (77, .iinc 5 1, [], 0), (80, .goto (-49), [17], 0), (83, .iinc 4 1, [], 0),
  (86, .goto (-83), [2], 0), (89, .return_, [], 0)]
abbrev q_Ch_fill : Nat := 1
def m_Ch_fill : MDt := (⟨"PenThatJumps$Chair", "fill", "(LPenThatJumps$Person;LPenThatJumps$Plan;[I)V"⟩, prog_2_method_2_code, 7, none, 0, 0, P_Ch_fill)
/-- PenThatJumps$Chair.spread(LPenThatJumps$Person;LPenThatJumps$Person;LPenThatJumps$Plan;III)I -/
def P_Ch_spread : List IR := [
  (0, .aload_n 0, [], 0), (1, .aload_n 1, [], 0), (2, .aload_n 3, [], 0), (3, .iload 4, [], 0), (5, .iload 5, [], 0), (7, .iload 6, [], 0),
  (9, .invokevirtual 37, [3, 6], 796), (12, .iconst 0, [], 0), (13, .istore 7, [], 0), (15, .iload 7, [], 0), (17, .aload_n 0, [], 0), (18, .getfield 24, [0, 2], 322),
  (21, .arraylength, [], 0), (22, .if_icmp .ge 23, [24], 0), (25, .aload_n 0, [], 0), (26, .getfield 24, [0, 2], 322), (29, .iload 7, [], 0), (31, .aload_n 0, [], 0),
  (32, .iload 7, [], 0), (34, .iconst 0, [], 0), (35, .invokevirtual 41, [4, 3], 802), (38, .iastore, [], 0), (39, .iinc 7 1, [], 0), (42, .goto (-27), [9], 0),
  (45, .aload_n 0, [], 0), (46, .aload_n 2, [], 0), (47, .aload_n 3, [], 0), (48, .iload 4, [], 0), (50, .iload 5, [], 0), (52, .iload 6, [], 0),
  (54, .invokevirtual 37, [3, 6], 796), (57, .iconst 0, [], 0), (58, .istore 7, [], 0), (60, .iconst 0, [], 0), (61, .istore 8, [], 0), (63, .iload 8, [], 0),
  (65, .aload_n 0, [], 0), (66, .getfield 24, [0, 2], 322), (69, .arraylength, [], 0), (70, .if_icmp .ge 32, [55], 0), (73, .iload 7, [], 0), (75, .aload_n 0, [], 0),
  (76, .getfield 24, [0, 2], 322), (79, .iload 8, [], 0), (81, .iaload, [], 0), (82, .aload_n 0, [], 0), (83, .iload 8, [], 0), (85, .iconst 0, [], 0),
  (86, .invokevirtual 41, [4, 3], 802), (89, .isub, [], 0), (90, .invokestatic 45, [308, 1], 935), (93, .iadd, [], 0), (94, .istore 7, [], 0), (96, .iinc 8 1, [], 0),
  (99, .goto (-36), [35], 0), (102, .iload 7, [], 0), (104, .ireturn, [], 0)]
abbrev q_Ch_spread : Nat := 2
def m_Ch_spread : MDt := (⟨"PenThatJumps$Chair", "spread", "(LPenThatJumps$Person;LPenThatJumps$Person;LPenThatJumps$Plan;III)I"⟩, prog_2_method_3_code, 9, some .int, 0, 0, P_Ch_spread)
/-- PenThatJumps$Chair.pose(LPenThatJumps$Person;LPenThatJumps$Plan;III)V -/
def P_Ch_pose : List IR := [
  (0, .aload_n 2, [], 0), (1, .iload_n 3, [], 0), (2, .invokevirtual 50, [36, 2], 800), (5, .istore 6, [], 0), (7, .aload_n 2, [], 0), (8, .iload_n 3, [], 0),
  (9, .invokevirtual 53, [37, 2], 801), (12, .istore 7, [], 0), (14, .iload 6, [], 0), (16, .iconst 3, [], 0), (17, .if_icmp .ne 7, [13], 0), (20, .iconst 1, [], 0),
  (21, .goto 4, [14], 0), (24, .iconst 0, [], 0), (25, .istore 8, [], 0), (27, .iload 8, [], 0), (29, .ifCond .eq 16, [23], 0), (32, .iload 7, [], 0),
  (34, .aload_n 0, [], 0), (35, .getfield 56, [0, 3], 324), (38, .if_icmp .ne 7, [23], 0), (41, .iconst 1, [], 0), (42, .goto 4, [24], 0), (45, .iconst 0, [], 0),
  (46, .istore 9, [], 0), (48, .iload 8, [], 0), (50, .ifCond .eq 16, [35], 0), (53, .aload_n 1, [], 0), (54, .getfield 59, [3, 3], 403), (57, .iload 7, [], 0),
  (59, .ishr, [], 0), (60, .iconst 1, [], 0), (61, .iand, [], 0), (62, .iconst 1, [], 0), (63, .if_icmp .eq 15, [40], 0), (66, .iload 9, [], 0),
  (68, .ifCond .eq 14, [42], 0), (71, .aload_n 1, [], 0), (72, .getfield 64, [3, 2], 400), (75, .ifCond .eq 7, [42], 0), (78, .iconst 1, [], 0), (79, .goto 4, [43], 0),
  (82, .iconst 0, [], 0), (83, .istore 10, [], 0), (85, .iconst 0, [], 0), (86, .istore 11, [], 0), (88, .iload 11, [], 0), (90, .iconst 4, [], 0),
  (91, .if_icmp .ge 38, [66], 0), (94, .iload 11, [], 0), (96, .aload_n 0, [], 0), (97, .getfield 20, [0, 1], 321), (100, .arraylength, [], 0), (101, .if_icmp .ge 28, [66], 0),
  (104, .aload_n 0, [], 0), (105, .getfield 20, [0, 1], 321), (108, .iload 11, [], 0), (110, .iload 6, [], 0), (112, .iload 11, [], 0), (114, .if_icmp .ne 7, [62], 0),
  (117, .iconst 1, [], 0), (118, .goto 4, [63], 0), (121, .iconst 0, [], 0), (122, .iastore, [], 0), (123, .iinc 11 1, [], 0), (126, .goto (-38), [46], 0),
  (129, .aload_n 0, [], 0), (130, .getfield 20, [0, 1], 321), (133, .iconst 4, [], 0), (134, .iload 9, [], 0), (136, .ifCond .eq 7, [73], 0), (139, .iconst 1, [], 0),
  (140, .goto 4, [74], 0), (143, .iconst 0, [], 0), (144, .iastore, [], 0), (145, .aload_n 0, [], 0), (146, .getfield 20, [0, 1], 321), (149, .iconst 5, [], 0),
  (150, .iload 10, [], 0), (152, .ifCond .eq 7, [82], 0), (155, .iconst 1, [], 0), (156, .goto 4, [83], 0), (159, .iconst 0, [], 0), (160, .iastore, [], 0),
  (161, .aload_n 0, [], 0), (162, .getfield 20, [0, 1], 321), (165, .bipush 6, [], 0), (167, .aload_n 1, [], 0), (168, .getfield 68, [3, 1], 397), (171, .iastore, [], 0),
  (172, .aload_n 0, [], 0), (173, .getfield 20, [0, 1], 321), (176, .bipush 7, [], 0), (178, .aload_n 1, [], 0), (179, .getfield 64, [3, 2], 400), (182, .ifCond .eq 7, [98], 0),
  (185, .iconst 1, [], 0), (186, .goto 4, [99], 0), (189, .iconst 0, [], 0), (190, .iastore, [], 0), (191, .aload_n 0, [], 0), (192, .getfield 20, [0, 1], 321),
  (195, .bipush 8, [], 0), (197, .aload_n 1, [], 0), (198, .getfield 71, [3, 4], 406), (201, .ifCond .eq 12, [110], 0), (204, .iload 6, [], 0), (206, .ifCond .ne 7, [110], 0),
  (209, .iconst 1, [], 0), (210, .goto 4, [111], 0), (213, .iconst 0, [], 0), (214, .iastore, [], 0), (215, .aload_n 0, [], 0), (216, .getfield 20, [0, 1], 321),
  (219, .bipush 9, [], 0), (221, .iload 4, [], 0), (223, .iastore, [], 0), (224, .aload_n 0, [], 0), (225, .getfield 20, [0, 1], 321), (228, .bipush 10, [], 0),
  (230, .iload 5, [], 0), (232, .iastore, [], 0), (233, .return_, [], 0)]
abbrev q_Ch_pose : Nat := 3
def m_Ch_pose : MDt := (⟨"PenThatJumps$Chair", "pose", "(LPenThatJumps$Person;LPenThatJumps$Plan;III)V"⟩, prog_2_method_4_code, 12, none, 0, 0, P_Ch_pose)
/-- PenThatJumps$Chair.jumpOf(II)I -/
def P_Ch_jumpOf : List IR := [
  (0, .aload_n 0, [], 0), (1, .getfield 20, [0, 1], 321), (4, .bipush 11, [], 0), (6, .iload_n 2, [], 0), (7, .iastore, [], 0), (8, .aload_n 0, [], 0),
  (9, .getfield 14, [0, 0], 319), (12, .iload_n 1, [], 0), (13, .aload_n 0, [], 0), (14, .getfield 20, [0, 1], 321), (17, .invokevirtual 74, [53, 3], 806), (20, .istore_n 3, [], 0),
  (21, .iload_n 3, [], 0), (22, .ifCond .ge 7, [16], 0), (25, .iconst 0, [], 0), (26, .goto 15, [22], 0), (29, .iload_n 3, [], 0), (30, .bipush 99, [], 0),
  (32, .if_icmp .le 8, [21], 0), (35, .bipush 99, [], 0), (37, .goto 4, [22], 0), (40, .iload_n 3, [], 0), (41, .ireturn, [], 0)]
abbrev q_Ch_jumpOf : Nat := 4
def m_Ch_jumpOf : MDt := (⟨"PenThatJumps$Chair", "jumpOf", "(II)I"⟩, prog_2_method_5_code, 4, some .int, 0, 0, P_Ch_jumpOf)
/-- PenThatJumps$Judge.<init>()V -/
def P_Ju_init : List IR := [
  (0, .aload_n 0, [], 0), (1, .invokespecial 3, [301, 1], 339), (4, .aload_n 0, [], 0), (5, .bipush 20, [], 0), (7, .newarray .int, [20], 0), (9, .putfield 11, [1, 0], 340),
  (12, .return_, [], 0)]
abbrev q_Ju_init : Nat := 5
def m_Ju_init : MDt := (⟨"PenThatJumps$Judge", "<init>", "()V"⟩, prog_3_method_1_code, 1, none, 1, 1, P_Ju_init)
/-- PenThatJumps$Judge.study(LPenThatJumps$Sitting;)V -/
def P_Ju_study : List IR := [
  (0, .aload_n 0, [], 0), (1, .getfield 11, [1, 0], 340), (4, .iconst 0, [], 0), (5, .invokestatic 15, [207, 2], 848), (8, .aload_n 0, [], 0), (9, .getfield 11, [1, 0], 340),
  (12, .bipush 19, [], 0), (14, .aload_n 1, [], 0), (15, .getfield 21, [7, 0], 377), (18, .getfield 27, [4, 3], 236), (21, .iastore, [], 0), (22, .iconst 0, [], 0),
  (23, .istore_n 2, [], 0), (24, .iload_n 2, [], 0), (25, .aload_n 1, [], 0), (26, .getfield 21, [7, 0], 377), (29, .getfield 27, [4, 3], 236), (32, .if_icmp .ge 29, [32], 0),
  (35, .iconst 0, [], 0), (36, .istore_n 3, [], 0), (37, .iload_n 3, [], 0), (38, .iconst 3, [], 0), (39, .if_icmp .ge 16, [30], 0), (42, .aload_n 0, [], 0),
  (43, .aload_n 1, [], 0), (44, .iload_n 2, [], 0), (45, .iload_n 3, [], 0), (46, .invokevirtual 33, [7, 4], 849), (49, .iinc 3 1, [], 0), (52, .goto (-15), [20], 0),
  (55, .iinc 2 1, [], 0), (58, .goto (-34), [13], 0), (61, .return_, [], 0)]
abbrev q_Ju_study : Nat := 6
def m_Ju_study : MDt := (⟨"PenThatJumps$Judge", "study", "(LPenThatJumps$Sitting;)V"⟩, prog_3_method_2_code, 4, none, 1, 1, P_Ju_study)
/-- PenThatJumps$Judge.note(LPenThatJumps$Sitting;II)V -/
def P_Ju_note : List IR := [
  (0, .aload_n 1, [], 0), (1, .iload_n 2, [], 0), (2, .iload_n 3, [], 0), (3, .invokevirtual 37, [59, 3], 853), (6, .istore 4, [], 0), (8, .aload_n 1, [], 0),
  (9, .getfield 21, [7, 0], 377), (12, .iload_n 2, [], 0), (13, .invokevirtual 41, [36, 2], 857), (16, .iconst 3, [], 0), (17, .imul, [], 0), (18, .iload_n 3, [], 0),
  (19, .iadd, [], 0), (20, .istore 5, [], 0), (22, .iload 5, [], 0), (24, .ifCond .lt 25, [29], 0), (27, .iload 5, [], 0), (29, .aload_n 0, [], 0),
  (30, .getfield 11, [1, 0], 340), (33, .arraylength, [], 0), (34, .if_icmp .ge 15, [29], 0), (37, .aload_n 0, [], 0), (38, .getfield 11, [1, 0], 340), (41, .iload 5, [], 0),
  (43, .dup2, [], 0), (44, .iaload, [], 0), (45, .iload 4, [], 0), (47, .iadd, [], 0), (48, .iastore, [], 0), (49, .aload_n 1, [], 0),
  (50, .getfield 21, [7, 0], 377), (53, .iload_n 2, [], 0), (54, .invokevirtual 45, [37, 2], 858), (57, .istore 6, [], 0), (59, .iload 6, [], 0), (61, .aload_n 1, [], 0),
  (62, .getfield 48, [7, 2], 381), (65, .if_icmp .ne 8, [40], 0), (68, .bipush 12, [], 0), (70, .goto 5, [41], 0), (73, .bipush 15, [], 0), (75, .iload_n 3, [], 0),
  (76, .iadd, [], 0), (77, .istore 7, [], 0), (79, .iload 6, [], 0), (81, .iconst (-1), [], 0), (82, .if_icmp .eq 37, [64], 0), (85, .iload 7, [], 0),
  (87, .ifCond .lt 32, [64], 0), (90, .iload 7, [], 0), (92, .aload_n 0, [], 0), (93, .getfield 11, [1, 0], 340), (96, .arraylength, [], 0), (97, .if_icmp .ge 22, [64], 0),
  (100, .aload_n 0, [], 0), (101, .getfield 11, [1, 0], 340), (104, .iload 7, [], 0), (106, .aload_n 0, [], 0), (107, .getfield 11, [1, 0], 340), (110, .iload 7, [], 0),
  (112, .iaload, [], 0), (113, .iload 4, [], 0), (115, .invokestatic 51, [306, 2], 859), (118, .iastore, [], 0), (119, .return_, [], 0)]
abbrev q_Ju_note : Nat := 7
def m_Ju_note : MDt := (⟨"PenThatJumps$Judge", "note", "(LPenThatJumps$Sitting;II)V"⟩, prog_3_method_3_code, 8, none, 1, 1, P_Ju_note)
/-- PenThatJumps$Judge.finds(LPenThatJumps$Program;I)Z -/
def P_Ju_finds : List IR := [
  (0, .aload_n 0, [], 0), (1, .getfield 11, [1, 0], 340), (4, .bipush 18, [], 0), (6, .iload_n 2, [], 0), (7, .iastore, [], 0), (8, .iconst 0, [], 0),
  (9, .istore_n 3, [], 0), (10, .iload_n 3, [], 0), (11, .aload_n 1, [], 0), (12, .getfield 56, [6, 2], 259), (15, .if_icmp .ge 23, [21], 0), (18, .aload_n 1, [], 0),
  (19, .iload_n 3, [], 0), (20, .aload_n 0, [], 0), (21, .getfield 11, [1, 0], 340), (24, .invokevirtual 61, [53, 3], 866), (27, .ifCond .eq 5, [19], 0), (30, .iconst 1, [], 0),
  (31, .ireturn, [], 0), (32, .iinc 3 1, [], 0), (35, .goto (-25), [7], 0), (38, .iconst 0, [], 0), (39, .ireturn, [], 0)]
abbrev q_Ju_finds : Nat := 8
def m_Ju_finds : MDt := (⟨"PenThatJumps$Judge", "finds", "(LPenThatJumps$Program;I)Z"⟩, prog_3_method_4_code, 4, some .boolean, 1, 1, P_Ju_finds)
/-- PenThatJumps$Parser.<init>()V -/
def P_Pa_init : List IR := [
  (0, .aload_n 0, [], 0), (1, .invokespecial 3, [301, 1], 197), (4, .aload_n 0, [], 0), (5, .new 9, [9], 198), (8, .dup, [], 0), (9, .invokespecial 11, [69, 1], 200),
  (12, .putfield 12, [2, 0], 280), (15, .aload_n 0, [], 0), (16, .new 18, [4], 225), (19, .dup, [], 0), (20, .invokespecial 20, [33, 1], 227), (23, .putfield 21, [2, 1], 282),
  (26, .aload_n 0, [], 0), (27, .new 25, [6], 250), (30, .dup, [], 0), (31, .sipush 1000, [], 0), (34, .invokespecial 27, [46, 2], 252), (37, .putfield 30, [2, 2], 284),
  (40, .aload_n 0, [], 0), (41, .getstatic 34, [0, 25], 278), (44, .putfield 40, [2, 8], 291), (47, .return_, [], 0)]
abbrev q_Pa_init : Nat := 9
def m_Pa_init : MDt := (⟨"PenThatJumps$Parser", "<init>", "()V"⟩, prog_4_method_1_code, 1, none, 2, 2, P_Pa_init)
/-- PenThatJumps$Parser.readPlan()I -/
def P_Pa_readPlan : List IR := [
  (0, .aload_n 0, [], 0), (1, .getfield 12, [2, 0], 280), (4, .invokevirtual 43, [73, 1], 504), (7, .aload_n 0, [], 0), (8, .iconst 0, [], 0), (9, .invokevirtual 46, [13, 2], 599),
  (12, .aload_n 0, [], 0), (13, .invokevirtual 50, [17, 1], 615), (16, .iconst 0, [], 0), (17, .istore_n 1, [], 0), (18, .iload_n 1, [], 0), (19, .bipush 12, [], 0),
  (21, .if_icmp .ge 20, [20], 0), (24, .aload_n 0, [], 0), (25, .invokevirtual 53, [14, 1], 656), (28, .ifCond .eq 13, [20], 0), (31, .aload_n 0, [], 0), (32, .invokevirtual 50, [17, 1], 615),
  (35, .iinc 1 1, [], 0), (38, .goto (-20), [10], 0), (41, .aload_n 0, [], 0), (42, .getfield 57, [2, 4], 287), (45, .ireturn, [], 0)]
abbrev q_Pa_readPlan : Nat := 10
def m_Pa_readPlan : MDt := (⟨"PenThatJumps$Parser", "readPlan", "()I"⟩, prog_4_method_2_code, 2, some .int, 2, 2, P_Pa_readPlan)
/-- PenThatJumps$Parser.readBody()I -/
def P_Pa_readBody : List IR := [
  (0, .aload_n 0, [], 0), (1, .getfield 12, [2, 0], 280), (4, .invokevirtual 43, [73, 1], 504), (7, .aload_n 0, [], 0), (8, .iconst 0, [], 0), (9, .invokevirtual 46, [13, 2], 599),
  (12, .iconst 0, [], 0), (13, .istore_n 1, [], 0), (14, .iload_n 1, [], 0), (15, .sipush 1000, [], 0), (18, .if_icmp .ge 24, [20], 0), (21, .aload_n 0, [], 0),
  (22, .invokevirtual 53, [14, 1], 656), (25, .ifCond .eq 17, [20], 0), (28, .aload_n 0, [], 0), (29, .aload_n 0, [], 0), (30, .invokevirtual 61, [19, 1], 685), (33, .invokevirtual 65, [21, 2], 695),
  (36, .iinc 1 1, [], 0), (39, .goto (-25), [8], 0), (42, .aload_n 0, [], 0), (43, .getfield 57, [2, 4], 287), (46, .ireturn, [], 0)]
abbrev q_Pa_readBody : Nat := 11
def m_Pa_readBody : MDt := (⟨"PenThatJumps$Parser", "readBody", "()I"⟩, prog_4_method_3_code, 2, some .int, 2, 2, P_Pa_readBody)
/-- PenThatJumps$Parser.readReader()I -/
def P_Pa_readReader : List IR := [
  (0, .aload_n 0, [], 0), (1, .getfield 12, [2, 0], 280), (4, .invokevirtual 43, [73, 1], 504), (7, .aload_n 0, [], 0), (8, .iconst 1, [], 0), (9, .invokevirtual 46, [13, 2], 599),
  (12, .iconst 0, [], 0), (13, .istore_n 1, [], 0), (14, .iload_n 1, [], 0), (15, .bipush 6, [], 0), (17, .if_icmp .gt 24, [20], 0), (20, .aload_n 0, [], 0),
  (21, .invokevirtual 53, [14, 1], 656), (24, .ifCond .eq 17, [20], 0), (27, .aload_n 0, [], 0), (28, .aload_n 0, [], 0), (29, .invokevirtual 68, [20, 1], 761), (32, .invokevirtual 65, [21, 2], 695),
  (35, .iinc 1 1, [], 0), (38, .goto (-24), [8], 0), (41, .aload_n 0, [], 0), (42, .getfield 57, [2, 4], 287), (45, .ireturn, [], 0)]
abbrev q_Pa_readReader : Nat := 12
def m_Pa_readReader : MDt := (⟨"PenThatJumps$Parser", "readReader", "()I"⟩, prog_4_method_4_code, 2, some .int, 2, 2, P_Pa_readReader)
/-- PenThatJumps$Parser.begin(Z)V -/
def P_Pa_begin : List IR := [
  (0, .aload_n 0, [], 0), (1, .iconst 0, [], 0), (2, .putfield 57, [2, 4], 287), (5, .aload_n 0, [], 0), (6, .iload_n 1, [], 0), (7, .putfield 71, [2, 3], 286),
  (10, .aload_n 0, [], 0), (11, .getfield 21, [2, 1], 282), (14, .iconst 0, [], 0), (15, .putfield 75, [4, 3], 239), (18, .aload_n 0, [], 0), (19, .getfield 30, [2, 2], 284),
  (22, .invokevirtual 78, [47, 1], 603), (25, .aload_n 0, [], 0), (26, .iconst (-1), [], 0), (27, .putfield 81, [2, 5], 288), (30, .aload_n 0, [], 0), (31, .invokevirtual 84, [15, 1], 610),
  (34, .return_, [], 0)]
abbrev q_Pa_begin : Nat := 13
def m_Pa_begin : MDt := (⟨"PenThatJumps$Parser", "begin", "(Z)V"⟩, prog_4_method_5_code, 2, none, 2, 2, P_Pa_begin)
/-- PenThatJumps$Parser.goesOn()Z -/
def P_Pa_goesOn : List IR := [
  (0, .aload_n 0, [], 0), (1, .getfield 57, [2, 4], 287), (4, .ifCond .ne 17, [9], 0), (7, .aload_n 0, [], 0), (8, .getfield 87, [2, 6], 289), (11, .sipush 12000, [], 0),
  (14, .if_icmp .eq 7, [9], 0), (17, .iconst 1, [], 0), (18, .goto 4, [10], 0), (21, .iconst 0, [], 0), (22, .ireturn, [], 0)]
abbrev q_Pa_goesOn : Nat := 14
def m_Pa_goesOn : MDt := (⟨"PenThatJumps$Parser", "goesOn", "()Z"⟩, prog_4_method_6_code, 1, some .boolean, 2, 2, P_Pa_goesOn)
/-- PenThatJumps$Parser.next()V -/
def P_Pa_next : List IR := [
  (0, .aload_n 0, [], 0), (1, .dup, [], 0), (2, .getfield 81, [2, 5], 288), (5, .iconst 1, [], 0), (6, .iadd, [], 0), (7, .putfield 81, [2, 5], 288),
  (10, .aload_n 0, [], 0), (11, .getfield 81, [2, 5], 288), (14, .ifCond .lt 79, [45], 0), (17, .aload_n 0, [], 0), (18, .getfield 81, [2, 5], 288), (21, .aload_n 0, [], 0),
  (22, .getfield 12, [2, 0], 280), (25, .getfield 90, [9, 4], 212), (28, .if_icmp .ge 65, [45], 0), (31, .aload_n 0, [], 0), (32, .getfield 81, [2, 5], 288), (35, .aload_n 0, [], 0),
  (36, .getfield 12, [2, 0], 280), (39, .getfield 93, [9, 2], 208), (42, .arraylength, [], 0), (43, .if_icmp .ge 50, [45], 0), (46, .aload_n 0, [], 0), (47, .getfield 81, [2, 5], 288),
  (50, .aload_n 0, [], 0), (51, .getfield 12, [2, 0], 280), (54, .getfield 97, [9, 3], 210), (57, .arraylength, [], 0), (58, .if_icmp .ge 35, [45], 0), (61, .aload_n 0, [], 0),
  (62, .aload_n 0, [], 0), (63, .getfield 12, [2, 0], 280), (66, .getfield 93, [9, 2], 208), (69, .aload_n 0, [], 0), (70, .getfield 81, [2, 5], 288), (73, .iaload, [], 0),
  (74, .putfield 87, [2, 6], 289), (77, .aload_n 0, [], 0), (78, .aload_n 0, [], 0), (79, .getfield 12, [2, 0], 280), (82, .getfield 97, [9, 3], 210), (85, .aload_n 0, [], 0),
  (86, .getfield 81, [2, 5], 288), (89, .iaload, [], 0), (90, .putfield 100, [2, 7], 290), (93, .aload_n 0, [], 0), (94, .getfield 87, [2, 6], 289), (97, .sipush 10000, [], 0),
  (100, .isub, [], 0), (101, .istore_n 1, [], 0), (102, .aload_n 0, [], 0), (103, .iload_n 1, [], 0), (104, .ifCond .lt 19, [61], 0), (107, .iload_n 1, [], 0),
  (108, .getstatic 103, [0, 26], 614), (111, .arraylength, [], 0), (112, .if_icmp .ge 11, [61], 0), (115, .getstatic 103, [0, 26], 614), (118, .iload_n 1, [], 0), (119, .aaload, [], 0),
  (120, .goto 6, [62], 0), (123, .getstatic 34, [0, 25], 278), (126, .putfield 40, [2, 8], 291), (129, .return_, [], 0)]
abbrev q_Pa_next : Nat := 15
def m_Pa_next : MDt := (⟨"PenThatJumps$Parser", "next", "()V"⟩, prog_4_method_7_code, 2, none, 2, 2, P_Pa_next)
/-- PenThatJumps$Parser.wrong(I)V -/
def P_Pa_wrong : List IR := [
  (0, .aload_n 0, [], 0), (1, .getfield 57, [2, 4], 287), (4, .ifCond .ne 16, [11], 0), (7, .aload_n 0, [], 0), (8, .iload_n 1, [], 0), (9, .bipush 16, [], 0),
  (11, .aload_n 0, [], 0), (12, .getfield 100, [2, 7], 290), (15, .imul, [], 0), (16, .iadd, [], 0), (17, .putfield 57, [2, 4], 287), (20, .return_, [], 0)]
abbrev q_Pa_wrong : Nat := 16
def m_Pa_wrong : MDt := (⟨"PenThatJumps$Parser", "wrong", "(I)V"⟩, prog_4_method_8_code, 2, none, 2, 2, P_Pa_wrong)
/-- PenThatJumps$Parser.takeQuestion()V -/
def P_Pa_takeQuestion : List IR := [
  (0, .aload_n 0, [], 0), (1, .getfield 21, [2, 1], 282), (4, .getfield 75, [4, 3], 239), (7, .bipush 12, [], 0), (9, .if_icmp .lt 18, [12], 0), (12, .aload_n 0, [], 0),
  (13, .getfield 40, [2, 8], 291), (16, .getstatic 107, [0, 20], 619), (19, .if_acmp .ne 8, [12], 0), (22, .aload_n 0, [], 0), (23, .iconst 5, [], 0), (24, .invokevirtual 110, [16, 2], 621),
  (27, .aload_n 0, [], 0), (28, .getstatic 107, [0, 20], 619), (31, .invokevirtual 113, [24, 2], 625), (34, .aload_n 0, [], 0), (35, .invokevirtual 117, [18, 1], 629), (38, .istore_n 1, [], 0),
  (39, .iload_n 1, [], 0), (40, .iconst 3, [], 0), (41, .if_icmp .ne 13, [26], 0), (44, .aload_n 0, [], 0), (45, .iconst 0, [], 0), (46, .bipush 8, [], 0),
  (48, .invokevirtual 120, [26, 3], 633), (51, .goto 4, [27], 0), (54, .iconst (-1), [], 0), (55, .istore_n 2, [], 0), (56, .iconst 1, [], 0), (57, .istore_n 3, [], 0),
  (58, .aload_n 0, [], 0), (59, .getfield 57, [2, 4], 287), (62, .ifCond .ne 25, [44], 0), (65, .aload_n 0, [], 0), (66, .getfield 40, [2, 8], 291), (69, .getstatic 124, [0, 21], 642),
  (72, .if_acmp .ne 15, [44], 0), (75, .aload_n 0, [], 0), (76, .invokevirtual 84, [15, 1], 610), (79, .aload_n 0, [], 0), (80, .iconst 1, [], 0), (81, .bipush 9, [], 0),
  (83, .invokevirtual 120, [26, 3], 633), (86, .istore_n 3, [], 0), (87, .aload_n 0, [], 0), (88, .bipush 59, [], 0), (90, .invokevirtual 127, [25, 2], 644), (93, .aload_n 0, [], 0),
  (94, .getfield 57, [2, 4], 287), (97, .ifCond .ne 13, [56], 0), (100, .aload_n 0, [], 0), (101, .getfield 21, [2, 1], 282), (104, .iload_n 1, [], 0), (105, .iload_n 2, [], 0),
  (106, .iload_n 3, [], 0), (107, .invokevirtual 131, [34, 4], 652), (110, .return_, [], 0)]
abbrev q_Pa_takeQuestion : Nat := 17
def m_Pa_takeQuestion : MDt := (⟨"PenThatJumps$Parser", "takeQuestion", "()V"⟩, prog_4_method_9_code, 4, none, 2, 2, P_Pa_takeQuestion)
/-- PenThatJumps$Parser.takeKind()I -/
def P_Pa_takeKind : List IR := [
  (0, .aload_n 0, [], 0), (1, .getfield 40, [2, 8], 291), (4, .getfield 135, [40, 1], 1605), (7, .istore_n 1, [], 0), (8, .iload_n 1, [], 0), (9, .ifCond .lt 8, [9], 0),
  (12, .iload_n 1, [], 0), (13, .iconst 4, [], 0), (14, .if_icmp .lt 8, [12], 0), (17, .aload_n 0, [], 0), (18, .iconst 1, [], 0), (19, .invokevirtual 110, [16, 2], 621),
  (22, .aload_n 0, [], 0), (23, .getfield 57, [2, 4], 287), (26, .ifCond .eq 5, [17], 0), (29, .iconst (-1), [], 0), (30, .ireturn, [], 0), (31, .aload_n 0, [], 0),
  (32, .invokevirtual 84, [15, 1], 610), (35, .iload_n 1, [], 0), (36, .ireturn, [], 0)]
abbrev q_Pa_takeKind : Nat := 18
def m_Pa_takeKind : MDt := (⟨"PenThatJumps$Parser", "takeKind", "()I"⟩, prog_4_method_10_code, 2, some .int, 2, 2, P_Pa_takeKind)
/-- PenThatJumps$Parser.takeBodyHead()I -/
def P_Pa_takeBodyHead : List IR := [
  (0, .aload_n 0, [], 0), (1, .getstatic 138, [0, 22], 689), (4, .invokevirtual 113, [24, 2], 625), (7, .aload_n 0, [], 0), (8, .invokevirtual 141, [22, 1], 637), (11, .ifCond .eq 22, [15], 0),
  (14, .aload_n 0, [], 0), (15, .getfield 30, [2, 2], 284), (18, .aload_n 0, [], 0), (19, .getfield 87, [2, 6], 289), (22, .invokevirtual 144, [51, 2], 691), (25, .ifCond .eq 8, [15], 0),
  (28, .aload_n 0, [], 0), (29, .iconst 3, [], 0), (30, .invokevirtual 110, [16, 2], 621), (33, .aload_n 0, [], 0), (34, .iconst 0, [], 0), (35, .iconst 2, [], 0),
  (36, .invokevirtual 120, [26, 3], 633), (39, .istore_n 1, [], 0), (40, .aload_n 0, [], 0), (41, .bipush 61, [], 0), (43, .invokevirtual 127, [25, 2], 644), (46, .iload_n 1, [], 0),
  (47, .ireturn, [], 0)]
abbrev q_Pa_takeBodyHead : Nat := 19
def m_Pa_takeBodyHead : MDt := (⟨"PenThatJumps$Parser", "takeBodyHead", "()I"⟩, prog_4_method_11_code, 2, some .int, 2, 2, P_Pa_takeBodyHead)
/-- PenThatJumps$Parser.takeReaderHead()I -/
def P_Pa_takeReaderHead : List IR := [
  (0, .aload_n 0, [], 0), (1, .getfield 30, [2, 2], 284), (4, .getfield 148, [6, 2], 260), (7, .bipush 6, [], 0), (9, .if_icmp .lt 18, [12], 0), (12, .aload_n 0, [], 0),
  (13, .getfield 40, [2, 8], 291), (16, .getstatic 151, [0, 23], 765), (19, .if_acmp .ne 8, [12], 0), (22, .aload_n 0, [], 0), (23, .iconst 5, [], 0), (24, .invokevirtual 110, [16, 2], 621),
  (27, .aload_n 0, [], 0), (28, .getstatic 151, [0, 23], 765), (31, .invokevirtual 113, [24, 2], 625), (34, .aload_n 0, [], 0), (35, .getstatic 154, [0, 24], 767), (38, .invokevirtual 113, [24, 2], 625),
  (41, .aload_n 0, [], 0), (42, .getfield 30, [2, 2], 284), (45, .getfield 148, [6, 2], 260), (48, .ireturn, [], 0)]
abbrev q_Pa_takeReaderHead : Nat := 20
def m_Pa_takeReaderHead : MDt := (⟨"PenThatJumps$Parser", "takeReaderHead", "()I"⟩, prog_4_method_12_code, 1, some .int, 2, 2, P_Pa_takeReaderHead)
/-- PenThatJumps$Parser.takeLaw(I)V -/
def P_Pa_takeLaw : List IR := [
  (0, .aload_n 0, [], 0), (1, .getfield 30, [2, 2], 284), (4, .iload_n 1, [], 0), (5, .invokevirtual 157, [49, 2], 699), (8, .aload_n 0, [], 0), (9, .iconst 0, [], 0),
  (10, .iconst 0, [], 0), (11, .invokevirtual 160, [27, 3], 703), (14, .aload_n 0, [], 0), (15, .getfield 30, [2, 2], 284), (18, .iload_n 1, [], 0), (19, .invokevirtual 164, [50, 2], 729),
  (22, .aload_n 0, [], 0), (23, .bipush 59, [], 0), (25, .invokevirtual 127, [25, 2], 644), (28, .return_, [], 0)]
abbrev q_Pa_takeLaw : Nat := 21
def m_Pa_takeLaw : MDt := (⟨"PenThatJumps$Parser", "takeLaw", "(I)V"⟩, prog_4_method_13_code, 2, none, 2, 2, P_Pa_takeLaw)
/-- PenThatJumps$Parser.isNumber()Z -/
def P_Pa_isNumber : List IR := [
  (0, .aload_n 0, [], 0), (1, .getfield 87, [2, 6], 289), (4, .ifCond .lt 17, [9], 0), (7, .aload_n 0, [], 0), (8, .getfield 87, [2, 6], 289), (11, .sipush 10000, [], 0),
  (14, .if_icmp .ge 7, [9], 0), (17, .iconst 1, [], 0), (18, .goto 4, [10], 0), (21, .iconst 0, [], 0), (22, .ireturn, [], 0)]
abbrev q_Pa_isNumber : Nat := 22
def m_Pa_isNumber : MDt := (⟨"PenThatJumps$Parser", "isNumber", "()Z"⟩, prog_4_method_14_code, 1, some .boolean, 2, 2, P_Pa_isNumber)
/-- PenThatJumps$Parser.isSign(C)Z -/
def P_Pa_isSign : List IR := [
  (0, .aload_n 0, [], 0), (1, .getfield 87, [2, 6], 289), (4, .sipush 11000, [], 0), (7, .iload_n 1, [], 0), (8, .iadd, [], 0), (9, .if_icmp .ne 7, [8], 0),
  (12, .iconst 1, [], 0), (13, .goto 4, [9], 0), (16, .iconst 0, [], 0), (17, .ireturn, [], 0)]
abbrev q_Pa_isSign : Nat := 23
def m_Pa_isSign : MDt := (⟨"PenThatJumps$Parser", "isSign", "(C)Z"⟩, prog_4_method_15_code, 2, some .boolean, 2, 2, P_Pa_isSign)
/-- PenThatJumps$Parser.takeWord(LPenThatJumps$Word;)V -/
def P_Pa_takeWord : List IR := [
  (0, .aload_n 0, [], 0), (1, .getfield 40, [2, 8], 291), (4, .aload_n 1, [], 0), (5, .if_acmp .eq 8, [7], 0), (8, .aload_n 0, [], 0), (9, .iconst 1, [], 0),
  (10, .invokevirtual 110, [16, 2], 621), (13, .aload_n 0, [], 0), (14, .getfield 57, [2, 4], 287), (17, .ifCond .ne 7, [12], 0), (20, .aload_n 0, [], 0), (21, .invokevirtual 84, [15, 1], 610),
  (24, .return_, [], 0)]
abbrev q_Pa_takeWord : Nat := 24
def m_Pa_takeWord : MDt := (⟨"PenThatJumps$Parser", "takeWord", "(LPenThatJumps$Word;)V"⟩, prog_4_method_16_code, 2, none, 2, 2, P_Pa_takeWord)
/-- PenThatJumps$Parser.takeSign(C)V -/
def P_Pa_takeSign : List IR := [
  (0, .aload_n 0, [], 0), (1, .iload_n 1, [], 0), (2, .invokevirtual 167, [23, 2], 648), (5, .ifCond .ne 8, [7], 0), (8, .aload_n 0, [], 0), (9, .iconst 1, [], 0),
  (10, .invokevirtual 110, [16, 2], 621), (13, .aload_n 0, [], 0), (14, .getfield 57, [2, 4], 287), (17, .ifCond .ne 7, [12], 0), (20, .aload_n 0, [], 0), (21, .invokevirtual 84, [15, 1], 610),
  (24, .return_, [], 0)]
abbrev q_Pa_takeSign : Nat := 25
def m_Pa_takeSign : MDt := (⟨"PenThatJumps$Parser", "takeSign", "(C)V"⟩, prog_4_method_17_code, 2, none, 2, 2, P_Pa_takeSign)
/-- PenThatJumps$Parser.takeNumber(II)I -/
def P_Pa_takeNumber : List IR := [
  (0, .aload_n 0, [], 0), (1, .getfield 87, [2, 6], 289), (4, .istore_n 3, [], 0), (5, .aload_n 0, [], 0), (6, .invokevirtual 141, [22, 1], 637), (9, .ifCond .ne 11, [10], 0),
  (12, .aload_n 0, [], 0), (13, .iconst 1, [], 0), (14, .invokevirtual 110, [16, 2], 621), (17, .goto 17, [18], 0), (20, .iload_n 3, [], 0), (21, .iload_n 1, [], 0),
  (22, .iload_n 2, [], 0), (23, .invokestatic 171, [108, 3], 641), (26, .ifCond .ne 8, [18], 0), (29, .aload_n 0, [], 0), (30, .iconst 4, [], 0), (31, .invokevirtual 110, [16, 2], 621),
  (34, .aload_n 0, [], 0), (35, .getfield 57, [2, 4], 287), (38, .ifCond .eq 5, [23], 0), (41, .iload_n 1, [], 0), (42, .ireturn, [], 0), (43, .aload_n 0, [], 0),
  (44, .invokevirtual 84, [15, 1], 610), (47, .iload_n 3, [], 0), (48, .ireturn, [], 0)]
abbrev q_Pa_takeNumber : Nat := 26
def m_Pa_takeNumber : MDt := (⟨"PenThatJumps$Parser", "takeNumber", "(II)I"⟩, prog_4_method_18_code, 4, some .int, 2, 2, P_Pa_takeNumber)
/-- PenThatJumps$Parser.chain(II)V -/
def P_Pa_chain : List IR := [
  (0, .iload_n 1, [], 0), (1, .iconst 4, [], 0), (2, .if_icmp .lt 9, [7], 0), (5, .aload_n 0, [], 0), (6, .iload_n 2, [], 0), (7, .invokevirtual 175, [29, 2], 707),
  (10, .return_, [], 0), (11, .aload_n 0, [], 0), (12, .iload_n 1, [], 0), (13, .iconst 1, [], 0), (14, .iadd, [], 0), (15, .iload_n 2, [], 0),
  (16, .invokevirtual 160, [27, 3], 703), (19, .iload_n 1, [], 0), (20, .iconst 1, [], 0), (21, .if_icmp .ne 7, [18], 0), (24, .iconst 1, [], 0), (25, .goto 6, [19], 0),
  (28, .sipush 1000, [], 0), (31, .istore_n 3, [], 0), (32, .iconst 0, [], 0), (33, .istore 4, [], 0), (35, .iload 4, [], 0), (37, .iload_n 3, [], 0),
  (38, .if_icmp .ge 50, [49], 0), (41, .aload_n 0, [], 0), (42, .getfield 57, [2, 4], 287), (45, .ifCond .ne 43, [49], 0), (48, .aload_n 0, [], 0), (49, .iload_n 1, [], 0),
  (50, .invokevirtual 178, [28, 2], 721), (53, .istore 5, [], 0), (55, .iload 5, [], 0), (57, .ifCond .ne 4, [35], 0), (60, .return_, [], 0), (61, .aload_n 0, [], 0),
  (62, .invokevirtual 84, [15, 1], 610), (65, .aload_n 0, [], 0), (66, .iload_n 1, [], 0), (67, .iconst 1, [], 0), (68, .iadd, [], 0), (69, .iload_n 2, [], 0),
  (70, .invokevirtual 160, [27, 3], 703), (73, .aload_n 0, [], 0), (74, .getfield 30, [2, 2], 284), (77, .iload 5, [], 0), (79, .invokevirtual 182, [48, 2], 713), (82, .iinc 4 1, [], 0),
  (85, .goto (-50), [22], 0), (88, .return_, [], 0)]
abbrev q_Pa_chain : Nat := 27
def m_Pa_chain : MDt := (⟨"PenThatJumps$Parser", "chain", "(II)V"⟩, prog_4_method_19_code, 6, none, 2, 2, P_Pa_chain)
/-- PenThatJumps$Parser.jointAt(I)I -/
def P_Pa_jointAt : List IR := [
  (0, .iload_n 1, [], 0), (1, .ifCond .ne 35, [16], 0), (4, .aload_n 0, [], 0), (5, .getfield 40, [2, 8], 291), (8, .getstatic 184, [0, 18], 725), (11, .if_acmp .ne 8, [8], 0),
  (14, .bipush (-2), [], 0), (16, .goto 19, [15], 0), (19, .aload_n 0, [], 0), (20, .getfield 40, [2, 8], 291), (23, .getstatic 187, [0, 19], 727), (26, .if_acmp .ne 8, [14], 0),
  (29, .bipush (-3), [], 0), (31, .goto 4, [15], 0), (34, .iconst 0, [], 0), (35, .ireturn, [], 0), (36, .iload_n 1, [], 0), (37, .iconst 1, [], 0),
  (38, .if_icmp .ne 33, [33], 0), (41, .aload_n 0, [], 0), (42, .bipush 60, [], 0), (44, .invokevirtual 167, [23, 2], 648), (47, .ifCond .eq 8, [25], 0), (50, .bipush (-4), [], 0),
  (52, .goto 18, [32], 0), (55, .aload_n 0, [], 0), (56, .bipush 61, [], 0), (58, .invokevirtual 167, [23, 2], 648), (61, .ifCond .eq 8, [31], 0), (64, .bipush (-5), [], 0),
  (66, .goto 4, [32], 0), (69, .iconst 0, [], 0), (70, .ireturn, [], 0), (71, .iload_n 1, [], 0), (72, .iconst 2, [], 0), (73, .if_icmp .ne 33, [50], 0),
  (76, .aload_n 0, [], 0), (77, .bipush 43, [], 0), (79, .invokevirtual 167, [23, 2], 648), (82, .ifCond .eq 8, [42], 0), (85, .bipush (-6), [], 0), (87, .goto 18, [49], 0),
  (90, .aload_n 0, [], 0), (91, .bipush 45, [], 0), (93, .invokevirtual 167, [23, 2], 648), (96, .ifCond .eq 8, [48], 0), (99, .bipush (-7), [], 0), (101, .goto 4, [49], 0),
  (104, .iconst 0, [], 0), (105, .ireturn, [], 0), (106, .aload_n 0, [], 0), (107, .bipush 42, [], 0), (109, .invokevirtual 167, [23, 2], 648), (112, .ifCond .eq 8, [56], 0),
  (115, .bipush (-8), [], 0), (117, .goto 4, [57], 0), (120, .iconst 0, [], 0), (121, .ireturn, [], 0)]
abbrev q_Pa_jointAt : Nat := 28
def m_Pa_jointAt : MDt := (⟨"PenThatJumps$Parser", "jointAt", "(I)I"⟩, prog_4_method_20_code, 2, some .int, 2, 2, P_Pa_jointAt)
/-- PenThatJumps$Parser.takePart(I)V -/
def P_Pa_takePart : List IR := [
  (0, .aload_n 0, [], 0), (1, .getfield 71, [2, 3], 286), (4, .ifCond .eq 13, [7], 0), (7, .aload_n 0, [], 0), (8, .getfield 40, [2, 8], 291), (11, .getfield 190, [40, 2], 1606),
  (14, .goto 10, [10], 0), (17, .aload_n 0, [], 0), (18, .getfield 40, [2, 8], 291), (21, .getfield 135, [40, 1], 1605), (24, .istore_n 2, [], 0), (25, .aload_n 0, [], 0),
  (26, .invokevirtual 141, [22, 1], 637), (29, .ifCond .ne 35, [29], 0), (32, .aload_n 0, [], 0), (33, .bipush 40, [], 0), (35, .invokevirtual 167, [23, 2], 648), (38, .ifCond .ne 26, [29], 0),
  (41, .aload_n 0, [], 0), (42, .getfield 40, [2, 8], 291), (45, .getstatic 193, [0, 17], 711), (48, .if_acmp .eq 16, [29], 0), (51, .iload_n 2, [], 0), (52, .iconst (-1), [], 0),
  (53, .if_icmp .ne 11, [29], 0), (56, .aload_n 0, [], 0), (57, .iconst 1, [], 0), (58, .invokevirtual 110, [16, 2], 621), (61, .goto 13, [35], 0), (64, .iload_n 1, [], 0),
  (65, .iconst 5, [], 0), (66, .if_icmp .lt 8, [35], 0), (69, .aload_n 0, [], 0), (70, .iconst 5, [], 0), (71, .invokevirtual 110, [16, 2], 621), (74, .aload_n 0, [], 0),
  (75, .getfield 57, [2, 4], 287), (78, .ifCond .eq 4, [39], 0), (81, .return_, [], 0), (82, .aload_n 0, [], 0), (83, .getfield 87, [2, 6], 289), (86, .istore_n 3, [], 0),
  (87, .aload_n 0, [], 0), (88, .invokevirtual 141, [22, 1], 637), (91, .istore 4, [], 0), (93, .aload_n 0, [], 0), (94, .bipush 40, [], 0), (96, .invokevirtual 167, [23, 2], 648),
  (99, .istore 5, [], 0), (101, .aload_n 0, [], 0), (102, .invokevirtual 84, [15, 1], 610), (105, .iload 4, [], 0), (107, .ifCond .eq 14, [58], 0), (110, .aload_n 0, [], 0),
  (111, .getfield 30, [2, 2], 284), (114, .iload_n 3, [], 0), (115, .invokevirtual 182, [48, 2], 713), (118, .goto 53, [86], 0), (121, .iload 5, [], 0), (123, .ifCond .eq 20, [70], 0),
  (126, .aload_n 0, [], 0), (127, .iconst 0, [], 0), (128, .iload_n 1, [], 0), (129, .iconst 1, [], 0), (130, .iadd, [], 0), (131, .invokevirtual 160, [27, 3], 703),
  (134, .aload_n 0, [], 0), (135, .bipush 41, [], 0), (137, .invokevirtual 127, [25, 2], 644), (140, .goto 31, [86], 0), (143, .iload_n 2, [], 0), (144, .iconst (-1), [], 0),
  (145, .if_icmp .ne 21, [83], 0), (148, .aload_n 0, [], 0), (149, .iload_n 1, [], 0), (150, .iconst 1, [], 0), (151, .iadd, [], 0), (152, .invokevirtual 175, [29, 2], 707),
  (155, .aload_n 0, [], 0), (156, .getfield 30, [2, 2], 284), (159, .iconst (-1), [], 0), (160, .invokevirtual 182, [48, 2], 713), (163, .goto 8, [86], 0), (166, .aload_n 0, [], 0),
  (167, .iload_n 2, [], 0), (168, .invokevirtual 196, [30, 2], 717), (171, .return_, [], 0)]
abbrev q_Pa_takePart : Nat := 29
def m_Pa_takePart : MDt := (⟨"PenThatJumps$Parser", "takePart", "(I)V"⟩, prog_4_method_21_code, 6, none, 2, 2, P_Pa_takePart)
/-- PenThatJumps$Parser.takeLineOfFact(I)V -/
def P_Pa_takeLineOfFact : List IR := [
  (0, .aload_n 0, [], 0), (1, .getfield 71, [2, 3], 286), (4, .ifCond .eq 18, [11], 0), (7, .iload_n 1, [], 0), (8, .bipush 18, [], 0), (10, .if_icmp .ge 12, [11], 0),
  (13, .aload_n 0, [], 0), (14, .iconst 0, [], 0), (15, .iconst 2, [], 0), (16, .invokevirtual 120, [26, 3], 633), (19, .goto 4, [12], 0), (22, .iconst 0, [], 0),
  (23, .istore_n 2, [], 0), (24, .aload_n 0, [], 0), (25, .getfield 30, [2, 2], 284), (28, .sipush 10000, [], 0), (31, .iload_n 1, [], 0), (32, .iadd, [], 0),
  (33, .iload_n 2, [], 0), (34, .iadd, [], 0), (35, .invokevirtual 182, [48, 2], 713), (38, .return_, [], 0)]
abbrev q_Pa_takeLineOfFact : Nat := 30
def m_Pa_takeLineOfFact : MDt := (⟨"PenThatJumps$Parser", "takeLineOfFact", "(I)V"⟩, prog_4_method_22_code, 3, none, 2, 2, P_Pa_takeLineOfFact)
/-- PenThatJumps$Person.<init>()V -/
def P_Pe_init : List IR := [
  (0, .aload_n 0, [], 0), (1, .invokespecial 1, [301, 1], 393), (4, .return_, [], 0)]
abbrev q_Pe_init : Nat := 31
def m_Pe_init : MDt := (⟨"PenThatJumps$Person", "<init>", "()V"⟩, prog_5_method_1_code, 1, none, 3, 3, P_Pe_init)
/-- PenThatJumps$Person.tell(IZIZ)V -/
def P_Pe_tell : List IR := [
  (0, .aload_n 0, [], 0), (1, .iconst 1, [], 0), (2, .putfield 7, [3, 0], 394), (5, .aload_n 0, [], 0), (6, .iload_n 1, [], 0), (7, .putfield 13, [3, 1], 396),
  (10, .aload_n 0, [], 0), (11, .iload_n 2, [], 0), (12, .putfield 17, [3, 2], 399), (15, .aload_n 0, [], 0), (16, .iload_n 3, [], 0), (17, .putfield 20, [3, 3], 402),
  (20, .aload_n 0, [], 0), (21, .iload 4, [], 0), (23, .putfield 23, [3, 4], 405), (26, .return_, [], 0)]
abbrev q_Pe_tell : Nat := 32
def m_Pe_tell : MDt := (⟨"PenThatJumps$Person", "tell", "(IZIZ)V"⟩, prog_5_method_2_code, 5, none, 3, 3, P_Pe_tell)
/-- PenThatJumps$Plan.<init>()V -/
def P_Pl_init : List IR := [
  (0, .aload_n 0, [], 0), (1, .invokespecial 3, [301, 1], 230), (4, .aload_n 0, [], 0), (5, .bipush 12, [], 0), (7, .newarray .int, [20], 0), (9, .putfield 9, [4, 0], 231),
  (12, .aload_n 0, [], 0), (13, .bipush 12, [], 0), (15, .newarray .int, [20], 0), (17, .putfield 15, [4, 1], 232), (20, .aload_n 0, [], 0), (21, .bipush 12, [], 0),
  (23, .newarray .int, [20], 0), (25, .putfield 18, [4, 2], 233), (28, .return_, [], 0)]
abbrev q_Pl_init : Nat := 33
def m_Pl_init : MDt := (⟨"PenThatJumps$Plan", "<init>", "()V"⟩, prog_6_method_1_code, 1, none, 4, 4, P_Pl_init)
/-- PenThatJumps$Plan.add(III)V -/
def P_Pl_add : List IR := [
  (0, .aload_n 0, [], 0), (1, .getfield 21, [4, 3], 234), (4, .ifCond .lt 39, [21], 0), (7, .aload_n 0, [], 0), (8, .getfield 21, [4, 3], 234), (11, .aload_n 0, [], 0),
  (12, .getfield 9, [4, 0], 231), (15, .arraylength, [], 0), (16, .if_icmp .ge 27, [21], 0), (19, .aload_n 0, [], 0), (20, .getfield 21, [4, 3], 234), (23, .aload_n 0, [], 0),
  (24, .getfield 15, [4, 1], 232), (27, .arraylength, [], 0), (28, .if_icmp .ge 15, [21], 0), (31, .aload_n 0, [], 0), (32, .getfield 21, [4, 3], 234), (35, .aload_n 0, [], 0),
  (36, .getfield 18, [4, 2], 233), (39, .arraylength, [], 0), (40, .if_icmp .lt 4, [22], 0), (43, .return_, [], 0), (44, .aload_n 0, [], 0), (45, .getfield 9, [4, 0], 231),
  (48, .aload_n 0, [], 0), (49, .getfield 21, [4, 3], 234), (52, .iload_n 1, [], 0), (53, .iastore, [], 0), (54, .aload_n 0, [], 0), (55, .getfield 15, [4, 1], 232),
  (58, .aload_n 0, [], 0), (59, .getfield 21, [4, 3], 234), (62, .iload_n 2, [], 0), (63, .iastore, [], 0), (64, .aload_n 0, [], 0), (65, .getfield 18, [4, 2], 233),
  (68, .aload_n 0, [], 0), (69, .getfield 21, [4, 3], 234), (72, .iload_n 3, [], 0), (73, .iastore, [], 0), (74, .aload_n 0, [], 0), (75, .dup, [], 0),
  (76, .getfield 21, [4, 3], 234), (79, .iconst 1, [], 0), (80, .iadd, [], 0), (81, .putfield 21, [4, 3], 234), (84, .return_, [], 0)]
abbrev q_Pl_add : Nat := 34
def m_Pl_add : MDt := (⟨"PenThatJumps$Plan", "add", "(III)V"⟩, prog_6_method_2_code, 4, none, 4, 4, P_Pl_add)
/-- PenThatJumps$Plan.become(LPenThatJumps$Plan;)V -/
def P_Pl_become : List IR := [
  (0, .aload_n 0, [], 0), (1, .iconst 0, [], 0), (2, .putfield 21, [4, 3], 234), (5, .iconst 0, [], 0), (6, .istore_n 2, [], 0), (7, .iload_n 2, [], 0),
  (8, .aload_n 1, [], 0), (9, .getfield 21, [4, 3], 234), (12, .if_icmp .ge 28, [22], 0), (15, .aload_n 0, [], 0), (16, .aload_n 1, [], 0), (17, .iload_n 2, [], 0),
  (18, .invokevirtual 25, [36, 2], 664), (21, .aload_n 1, [], 0), (22, .iload_n 2, [], 0), (23, .invokevirtual 29, [37, 2], 668), (26, .aload_n 1, [], 0), (27, .iload_n 2, [], 0),
  (28, .invokevirtual 32, [38, 2], 672), (31, .invokevirtual 35, [34, 4], 676), (34, .iinc 2 1, [], 0), (37, .goto (-30), [5], 0), (40, .return_, [], 0)]
abbrev q_Pl_become : Nat := 35
def m_Pl_become : MDt := (⟨"PenThatJumps$Plan", "become", "(LPenThatJumps$Plan;)V"⟩, prog_6_method_3_code, 3, none, 4, 4, P_Pl_become)
/-- PenThatJumps$Plan.kindAt(I)I -/
def P_Pl_kindAt : List IR := [
  (0, .iload_n 1, [], 0), (1, .ifCond .lt 29, [16], 0), (4, .iload_n 1, [], 0), (5, .aload_n 0, [], 0), (6, .getfield 21, [4, 3], 234), (9, .if_icmp .ge 21, [16], 0),
  (12, .iload_n 1, [], 0), (13, .aload_n 0, [], 0), (14, .getfield 9, [4, 0], 231), (17, .arraylength, [], 0), (18, .if_icmp .ge 12, [16], 0), (21, .aload_n 0, [], 0),
  (22, .getfield 9, [4, 0], 231), (25, .iload_n 1, [], 0), (26, .iaload, [], 0), (27, .goto 4, [17], 0), (30, .iconst (-1), [], 0), (31, .ireturn, [], 0)]
abbrev q_Pl_kindAt : Nat := 36
def m_Pl_kindAt : MDt := (⟨"PenThatJumps$Plan", "kindAt", "(I)I"⟩, prog_6_method_4_code, 2, some .int, 4, 4, P_Pl_kindAt)
/-- PenThatJumps$Plan.itemAt(I)I -/
def P_Pl_itemAt : List IR := [
  (0, .iload_n 1, [], 0), (1, .ifCond .lt 29, [16], 0), (4, .iload_n 1, [], 0), (5, .aload_n 0, [], 0), (6, .getfield 21, [4, 3], 234), (9, .if_icmp .ge 21, [16], 0),
  (12, .iload_n 1, [], 0), (13, .aload_n 0, [], 0), (14, .getfield 15, [4, 1], 232), (17, .arraylength, [], 0), (18, .if_icmp .ge 12, [16], 0), (21, .aload_n 0, [], 0),
  (22, .getfield 15, [4, 1], 232), (25, .iload_n 1, [], 0), (26, .iaload, [], 0), (27, .goto 4, [17], 0), (30, .iconst (-1), [], 0), (31, .ireturn, [], 0)]
abbrev q_Pl_itemAt : Nat := 37
def m_Pl_itemAt : MDt := (⟨"PenThatJumps$Plan", "itemAt", "(I)I"⟩, prog_6_method_5_code, 2, some .int, 4, 4, P_Pl_itemAt)
/-- PenThatJumps$Plan.minutesAt(I)I -/
def P_Pl_minutesAt : List IR := [
  (0, .iload_n 1, [], 0), (1, .ifCond .lt 29, [16], 0), (4, .iload_n 1, [], 0), (5, .aload_n 0, [], 0), (6, .getfield 21, [4, 3], 234), (9, .if_icmp .ge 21, [16], 0),
  (12, .iload_n 1, [], 0), (13, .aload_n 0, [], 0), (14, .getfield 18, [4, 2], 233), (17, .arraylength, [], 0), (18, .if_icmp .ge 12, [16], 0), (21, .aload_n 0, [], 0),
  (22, .getfield 18, [4, 2], 233), (25, .iload_n 1, [], 0), (26, .iaload, [], 0), (27, .goto 4, [17], 0), (30, .iconst (-1), [], 0), (31, .ireturn, [], 0)]
abbrev q_Pl_minutesAt : Nat := 38
def m_Pl_minutesAt : MDt := (⟨"PenThatJumps$Plan", "minutesAt", "(I)I"⟩, prog_6_method_6_code, 2, some .int, 4, 4, P_Pl_minutesAt)
/-- PenThatJumps$Plan.ahead(I)I -/
def P_Pl_ahead : List IR := [
  (0, .aload_n 0, [], 0), (1, .iload_n 1, [], 0), (2, .invokevirtual 25, [36, 2], 664), (5, .istore_n 2, [], 0), (6, .iconst 0, [], 0), (7, .istore_n 3, [], 0),
  (8, .iconst 0, [], 0), (9, .istore 4, [], 0), (11, .iload 4, [], 0), (13, .iload_n 1, [], 0), (14, .if_icmp .ge 31, [23], 0), (17, .iload 4, [], 0),
  (19, .aload_n 0, [], 0), (20, .getfield 21, [4, 3], 234), (23, .if_icmp .ge 22, [23], 0), (26, .aload_n 0, [], 0), (27, .iload 4, [], 0), (29, .invokevirtual 25, [36, 2], 664),
  (32, .iload_n 2, [], 0), (33, .if_icmp .ne 6, [21], 0), (36, .iinc 3 1, [], 0), (39, .iinc 4 1, [], 0), (42, .goto (-31), [8], 0), (45, .iload_n 3, [], 0),
  (46, .ireturn, [], 0)]
abbrev q_Pl_ahead : Nat := 39
def m_Pl_ahead : MDt := (⟨"PenThatJumps$Plan", "ahead", "(I)I"⟩, prog_6_method_7_code, 5, some .int, 4, 4, P_Pl_ahead)
/-- PenThatJumps$Planner.<init>()V -/
def P_Pr_init : List IR := [
  (0, .aload_n 0, [], 0), (1, .invokespecial 3, [301, 1], 349), (4, .aload_n 0, [], 0), (5, .sipush 1728, [], 0), (8, .newarray .int, [20], 0), (10, .putfield 9, [5, 0], 350),
  (13, .aload_n 0, [], 0), (14, .iconst 4, [], 0), (15, .newarray .int, [20], 0), (17, .putfield 15, [5, 1], 351), (20, .return_, [], 0)]
abbrev q_Pr_init : Nat := 40
def m_Pr_init : MDt := (⟨"PenThatJumps$Planner", "<init>", "()V"⟩, prog_7_method_1_code, 1, none, 5, 5, P_Pr_init)
/-- PenThatJumps$Planner.cell(III)I -/
def P_Pr_cell : List IR := [
  (0, .iload_n 0, [], 0), (1, .bipush 12, [], 0), (3, .imul, [], 0), (4, .iload_n 1, [], 0), (5, .iadd, [], 0), (6, .bipush 12, [], 0),
  (8, .imul, [], 0), (9, .iload_n 2, [], 0), (10, .iadd, [], 0), (11, .ireturn, [], 0)]
abbrev q_Pr_cell : Nat := 41
def m_Pr_cell : MDt := (⟨"PenThatJumps$Planner", "cell", "(III)I"⟩, prog_7_method_2_code, 3, some .int, 5, 99, P_Pr_cell)
/-- PenThatJumps$Planner.weigh(LPenThatJumps$Chair;LPenThatJumps$Plan;LPenThatJumps$Person;LPenThatJumps$Person;)V -/
def P_Pr_weigh : List IR := [
  (0, .iconst 0, [], 0), (1, .istore 5, [], 0), (3, .iload 5, [], 0), (5, .aload_n 2, [], 0), (6, .getfield 18, [4, 3], 237), (9, .if_icmp .ge 103, [53], 0),
  (12, .aload_n 2, [], 0), (13, .iload 5, [], 0), (15, .invokevirtual 24, [39, 2], 927), (18, .istore 6, [], 0), (20, .iconst 0, [], 0), (21, .istore 7, [], 0),
  (23, .iload 7, [], 0), (25, .iload 5, [], 0), (27, .if_icmp .gt 79, [51], 0), (30, .iconst 0, [], 0), (31, .istore 8, [], 0), (33, .iload 8, [], 0),
  (35, .iload 6, [], 0), (37, .if_icmp .gt 63, [49], 0), (40, .iload 8, [], 0), (42, .iload 7, [], 0), (44, .if_icmp .gt 56, [49], 0), (47, .iload 5, [], 0),
  (49, .iload 7, [], 0), (51, .iload 8, [], 0), (53, .invokestatic 28, [41, 3], 928), (56, .istore 9, [], 0), (58, .iload 9, [], 0), (60, .ifCond .lt 34, [47], 0),
  (63, .iload 9, [], 0), (65, .aload_n 0, [], 0), (66, .getfield 9, [5, 0], 350), (69, .arraylength, [], 0), (70, .if_icmp .ge 24, [47], 0), (73, .aload_n 0, [], 0),
  (74, .getfield 9, [5, 0], 350), (77, .iload 9, [], 0), (79, .aload_n 1, [], 0), (80, .aload_n 3, [], 0), (81, .aload 4, [], 0), (83, .aload_n 2, [], 0),
  (84, .iload 5, [], 0), (86, .iload 8, [], 0), (88, .iload 7, [], 0), (90, .invokevirtual 32, [2, 7], 931), (93, .iastore, [], 0), (94, .iinc 8 1, [], 0),
  (97, .goto (-64), [17], 0), (100, .iinc 7 1, [], 0), (103, .goto (-80), [12], 0), (106, .iinc 5 1, [], 0), (109, .goto (-106), [2], 0), (112, .return_, [], 0)]
abbrev q_Pr_weigh : Nat := 42
def m_Pr_weigh : MDt := (⟨"PenThatJumps$Planner", "weigh", "(LPenThatJumps$Chair;LPenThatJumps$Plan;LPenThatJumps$Person;LPenThatJumps$Person;)V"⟩, prog_7_method_3_code, 10, none, 5, 5, P_Pr_weigh)
/-- PenThatJumps$Planner.choose(LPenThatJumps$Plan;I)V -/
def P_Pr_choose : List IR := [
  (0, .aload_n 0, [], 0), (1, .iconst 0, [], 0), (2, .putfield 38, [5, 2], 352), (5, .aload_n 0, [], 0), (6, .iconst 0, [], 0), (7, .putfield 41, [5, 3], 354),
  (10, .aload_n 0, [], 0), (11, .iconst 0, [], 0), (12, .putfield 44, [5, 4], 356), (15, .iconst 1, [], 0), (16, .aload_n 1, [], 0), (17, .getfield 18, [4, 3], 237),
  (20, .ishl, [], 0), (21, .istore_n 3, [], 0), (22, .iconst 1, [], 0), (23, .istore 4, [], 0), (25, .iload 4, [], 0), (27, .iload_n 3, [], 0),
  (28, .if_icmp .ge 59, [46], 0), (31, .aload_n 1, [], 0), (32, .iload 4, [], 0), (34, .invokestatic 47, [44, 2], 942), (37, .istore 5, [], 0), (39, .iload 5, [], 0),
  (41, .iload_n 2, [], 0), (42, .if_icmp .gt 39, [44], 0), (45, .aload_n 0, [], 0), (46, .aload_n 1, [], 0), (47, .iload 4, [], 0), (49, .invokevirtual 51, [45, 3], 946),
  (52, .istore 6, [], 0), (54, .iload 6, [], 0), (56, .aload_n 0, [], 0), (57, .getfield 38, [5, 2], 352), (60, .if_icmp .le 21, [44], 0), (63, .aload_n 0, [], 0),
  (64, .iload 6, [], 0), (66, .putfield 38, [5, 2], 352), (69, .aload_n 0, [], 0), (70, .iload 4, [], 0), (72, .putfield 41, [5, 3], 354), (75, .aload_n 0, [], 0),
  (76, .iload 5, [], 0), (78, .putfield 44, [5, 4], 356), (81, .iinc 4 1, [], 0), (84, .goto (-59), [16], 0), (87, .return_, [], 0)]
abbrev q_Pr_choose : Nat := 43
def m_Pr_choose : MDt := (⟨"PenThatJumps$Planner", "choose", "(LPenThatJumps$Plan;I)V"⟩, prog_7_method_4_code, 7, none, 5, 5, P_Pr_choose)
/-- PenThatJumps$Planner.spanOf(LPenThatJumps$Plan;I)I -/
def P_Pr_spanOf : List IR := [
  (0, .iconst 0, [], 0), (1, .istore_n 2, [], 0), (2, .iconst 0, [], 0), (3, .istore_n 3, [], 0), (4, .iload_n 3, [], 0), (5, .aload_n 0, [], 0),
  (6, .getfield 18, [4, 3], 237), (9, .if_icmp .ge 26, [23], 0), (12, .iload_n 1, [], 0), (13, .iload_n 3, [], 0), (14, .ishr, [], 0), (15, .iconst 1, [], 0),
  (16, .iand, [], 0), (17, .iconst 1, [], 0), (18, .if_icmp .ne 11, [21], 0), (21, .iload_n 2, [], 0), (22, .aload_n 0, [], 0), (23, .iload_n 3, [], 0),
  (24, .invokevirtual 54, [38, 2], 945), (27, .iadd, [], 0), (28, .istore_n 2, [], 0), (29, .iinc 3 1, [], 0), (32, .goto (-28), [4], 0), (35, .iload_n 2, [], 0),
  (36, .ireturn, [], 0)]
abbrev q_Pr_spanOf : Nat := 44
def m_Pr_spanOf : MDt := (⟨"PenThatJumps$Planner", "spanOf", "(LPenThatJumps$Plan;I)I"⟩, prog_7_method_5_code, 4, some .int, 5, 99, P_Pr_spanOf)
/-- PenThatJumps$Planner.powerOf(LPenThatJumps$Plan;I)I -/
def P_Pr_powerOf : List IR := [
  (0, .aload_n 0, [], 0), (1, .getfield 15, [5, 1], 351), (4, .iconst 0, [], 0), (5, .invokestatic 57, [207, 2], 950), (8, .iconst 0, [], 0), (9, .istore_n 3, [], 0),
  (10, .iconst 0, [], 0), (11, .istore 4, [], 0), (13, .iconst 0, [], 0), (14, .istore 5, [], 0), (16, .iload 5, [], 0), (18, .aload_n 1, [], 0),
  (19, .getfield 18, [4, 3], 237), (22, .if_icmp .ge 102, [67], 0), (25, .aload_n 1, [], 0), (26, .iload 5, [], 0), (28, .invokevirtual 63, [36, 2], 951), (31, .istore 6, [], 0),
  (33, .iload_n 2, [], 0), (34, .iload 5, [], 0), (36, .ishr, [], 0), (37, .iconst 1, [], 0), (38, .iand, [], 0), (39, .iconst 1, [], 0),
  (40, .if_icmp .ne 78, [65], 0), (43, .iload 6, [], 0), (45, .ifCond .lt 73, [65], 0), (48, .iload 6, [], 0), (50, .aload_n 0, [], 0), (51, .getfield 15, [5, 1], 351),
  (54, .arraylength, [], 0), (55, .if_icmp .ge 63, [65], 0), (58, .iload 5, [], 0), (60, .iload_n 3, [], 0), (61, .aload_n 0, [], 0), (62, .getfield 15, [5, 1], 351),
  (65, .iload 6, [], 0), (67, .iaload, [], 0), (68, .invokestatic 28, [41, 3], 928), (71, .istore 7, [], 0), (73, .iload 4, [], 0), (75, .iload 7, [], 0),
  (77, .ifCond .lt 23, [53], 0), (80, .iload 7, [], 0), (82, .aload_n 0, [], 0), (83, .getfield 9, [5, 0], 350), (86, .arraylength, [], 0), (87, .if_icmp .ge 13, [53], 0),
  (90, .aload_n 0, [], 0), (91, .getfield 9, [5, 0], 350), (94, .iload 7, [], 0), (96, .iaload, [], 0), (97, .goto 4, [54], 0), (100, .iconst 0, [], 0),
  (101, .iadd, [], 0), (102, .istore 4, [], 0), (104, .aload_n 0, [], 0), (105, .getfield 15, [5, 1], 351), (108, .iload 6, [], 0), (110, .dup2, [], 0),
  (111, .iaload, [], 0), (112, .iconst 1, [], 0), (113, .iadd, [], 0), (114, .iastore, [], 0), (115, .iinc 3 1, [], 0), (118, .iinc 5 1, [], 0),
  (121, .goto (-105), [10], 0), (124, .iload 4, [], 0), (126, .ireturn, [], 0)]
abbrev q_Pr_powerOf : Nat := 45
def m_Pr_powerOf : MDt := (⟨"PenThatJumps$Planner", "powerOf", "(LPenThatJumps$Plan;I)I"⟩, prog_7_method_6_code, 8, some .int, 5, 5, P_Pr_powerOf)
/-- PenThatJumps$Program.<init>(I)V -/
def P_Pg_init : List IR := [
  (0, .aload_n 0, [], 0), (1, .invokespecial 1, [301, 1], 255), (4, .aload_n 0, [], 0), (5, .bipush 6, [], 0), (7, .newarray .int, [20], 0), (9, .putfield 9, [6, 3], 262),
  (12, .aload_n 0, [], 0), (13, .bipush 6, [], 0), (15, .newarray .int, [20], 0), (17, .putfield 13, [6, 4], 263), (20, .aload_n 0, [], 0), (21, .bipush 32, [], 0),
  (23, .newarray .int, [20], 0), (25, .putfield 16, [6, 5], 264), (28, .aload_n 0, [], 0), (29, .iload_n 1, [], 0), (30, .ifCond .le 7, [19], 0), (33, .iload_n 1, [], 0),
  (34, .goto 4, [20], 0), (37, .iconst 0, [], 0), (38, .newarray .int, [20], 0), (40, .putfield 19, [6, 0], 256), (43, .return_, [], 0)]
abbrev q_Pg_init : Nat := 46
def m_Pg_init : MDt := (⟨"PenThatJumps$Program", "<init>", "(I)V"⟩, prog_8_method_1_code, 2, none, 6, 6, P_Pg_init)
/-- PenThatJumps$Program.clear()V -/
def P_Pg_clear : List IR := [
  (0, .aload_n 0, [], 0), (1, .iconst 0, [], 0), (2, .putfield 22, [6, 1], 257), (5, .aload_n 0, [], 0), (6, .iconst 0, [], 0), (7, .putfield 26, [6, 2], 258),
  (10, .aload_n 0, [], 0), (11, .getfield 9, [6, 3], 262), (14, .iconst 0, [], 0), (15, .invokestatic 29, [207, 2], 607), (18, .aload_n 0, [], 0), (19, .getfield 13, [6, 4], 263),
  (22, .iconst 0, [], 0), (23, .invokestatic 29, [207, 2], 607), (26, .return_, [], 0)]
abbrev q_Pg_clear : Nat := 47
def m_Pg_clear : MDt := (⟨"PenThatJumps$Program", "clear", "()V"⟩, prog_8_method_2_code, 1, none, 6, 6, P_Pg_clear)
/-- PenThatJumps$Program.add(I)V -/
def P_Pg_add : List IR := [
  (0, .aload_n 0, [], 0), (1, .getfield 22, [6, 1], 257), (4, .ifCond .lt 35, [21], 0), (7, .aload_n 0, [], 0), (8, .getfield 22, [6, 1], 257), (11, .aload_n 0, [], 0),
  (12, .getfield 19, [6, 0], 256), (15, .arraylength, [], 0), (16, .if_icmp .ge 23, [21], 0), (19, .aload_n 0, [], 0), (20, .getfield 19, [6, 0], 256), (23, .aload_n 0, [], 0),
  (24, .getfield 22, [6, 1], 257), (27, .iload_n 1, [], 0), (28, .iastore, [], 0), (29, .aload_n 0, [], 0), (30, .dup, [], 0), (31, .getfield 22, [6, 1], 257),
  (34, .iconst 1, [], 0), (35, .iadd, [], 0), (36, .putfield 22, [6, 1], 257), (39, .return_, [], 0)]
abbrev q_Pg_add : Nat := 48
def m_Pg_add : MDt := (⟨"PenThatJumps$Program", "add", "(I)V"⟩, prog_8_method_3_code, 2, none, 6, 6, P_Pg_add)
/-- PenThatJumps$Program.opens(I)V -/
def P_Pg_opens : List IR := [
  (0, .iload_n 1, [], 0), (1, .ifCond .lt 22, [13], 0), (4, .iload_n 1, [], 0), (5, .aload_n 0, [], 0), (6, .getfield 9, [6, 3], 262), (9, .arraylength, [], 0),
  (10, .if_icmp .ge 13, [13], 0), (13, .aload_n 0, [], 0), (14, .getfield 9, [6, 3], 262), (17, .iload_n 1, [], 0), (18, .aload_n 0, [], 0), (19, .getfield 22, [6, 1], 257),
  (22, .iastore, [], 0), (23, .return_, [], 0)]
abbrev q_Pg_opens : Nat := 49
def m_Pg_opens : MDt := (⟨"PenThatJumps$Program", "op" ++ "en", "(I)V"⟩, prog_8_method_4_code, 2, none, 6, 6, P_Pg_opens)
/-- PenThatJumps$Program.close(I)V -/
def P_Pg_close : List IR := [
  (0, .iload_n 1, [], 0), (1, .ifCond .lt 32, [19], 0), (4, .iload_n 1, [], 0), (5, .aload_n 0, [], 0), (6, .getfield 13, [6, 4], 263), (9, .arraylength, [], 0),
  (10, .if_icmp .ge 23, [19], 0), (13, .aload_n 0, [], 0), (14, .getfield 13, [6, 4], 263), (17, .iload_n 1, [], 0), (18, .aload_n 0, [], 0), (19, .getfield 22, [6, 1], 257),
  (22, .iastore, [], 0), (23, .aload_n 0, [], 0), (24, .dup, [], 0), (25, .getfield 26, [6, 2], 258), (28, .iconst 1, [], 0), (29, .iadd, [], 0),
  (30, .putfield 26, [6, 2], 258), (33, .return_, [], 0)]
abbrev q_Pg_close : Nat := 50
def m_Pg_close : MDt := (⟨"PenThatJumps$Program", "close", "(I)V"⟩, prog_8_method_5_code, 2, none, 6, 6, P_Pg_close)
/-- PenThatJumps$Program.hasLine(I)Z -/
def P_Pg_hasLine : List IR := [
  (0, .iload_n 1, [], 0), (1, .ifCond .lt 40, [23], 0), (4, .iload_n 1, [], 0), (5, .aload_n 0, [], 0), (6, .getfield 13, [6, 4], 263), (9, .arraylength, [], 0),
  (10, .if_icmp .ge 31, [23], 0), (13, .iload_n 1, [], 0), (14, .aload_n 0, [], 0), (15, .getfield 9, [6, 3], 262), (18, .arraylength, [], 0), (19, .if_icmp .ge 22, [23], 0),
  (22, .aload_n 0, [], 0), (23, .getfield 13, [6, 4], 263), (26, .iload_n 1, [], 0), (27, .iaload, [], 0), (28, .aload_n 0, [], 0), (29, .getfield 9, [6, 3], 262),
  (32, .iload_n 1, [], 0), (33, .iaload, [], 0), (34, .if_icmp .le 7, [23], 0), (37, .iconst 1, [], 0), (38, .goto 4, [24], 0), (41, .iconst 0, [], 0),
  (42, .ireturn, [], 0)]
abbrev q_Pg_hasLine : Nat := 51
def m_Pg_hasLine : MDt := (⟨"PenThatJumps$Program", "hasLine", "(I)Z"⟩, prog_8_method_6_code, 2, some .boolean, 6, 6, P_Pg_hasLine)
/-- PenThatJumps$Program.become(LPenThatJumps$Program;)V -/
def P_Pg_become : List IR := [
  (0, .aload_n 1, [], 0), (1, .getfield 22, [6, 1], 257), (4, .ifCond .lt 15, [9], 0), (7, .aload_n 1, [], 0), (8, .getfield 22, [6, 1], 257), (11, .aload_n 1, [], 0),
  (12, .getfield 19, [6, 0], 256), (15, .arraylength, [], 0), (16, .if_icmp .le 4, [10], 0), (19, .return_, [], 0), (20, .aload_n 0, [], 0), (21, .aload_n 1, [], 0),
  (22, .getfield 19, [6, 0], 256), (25, .aload_n 1, [], 0), (26, .getfield 22, [6, 1], 257), (29, .invokestatic 35, [208, 2], 737), (32, .putfield 19, [6, 0], 256), (35, .aload_n 0, [], 0),
  (36, .aload_n 1, [], 0), (37, .getfield 22, [6, 1], 257), (40, .putfield 22, [6, 1], 257), (43, .aload_n 0, [], 0), (44, .aload_n 1, [], 0), (45, .getfield 26, [6, 2], 258),
  (48, .putfield 26, [6, 2], 258), (51, .iconst 0, [], 0), (52, .istore_n 2, [], 0), (53, .iload_n 2, [], 0), (54, .aload_n 0, [], 0), (55, .getfield 9, [6, 3], 262),
  (58, .arraylength, [], 0), (59, .if_icmp .ge 68, [69], 0), (62, .iload_n 2, [], 0), (63, .aload_n 0, [], 0), (64, .getfield 13, [6, 4], 263), (67, .arraylength, [], 0),
  (68, .if_icmp .ge 59, [69], 0), (71, .aload_n 0, [], 0), (72, .getfield 9, [6, 3], 262), (75, .iload_n 2, [], 0), (76, .iload_n 2, [], 0), (77, .aload_n 1, [], 0),
  (78, .getfield 9, [6, 3], 262), (81, .arraylength, [], 0), (82, .if_icmp .ge 12, [50], 0), (85, .aload_n 1, [], 0), (86, .getfield 9, [6, 3], 262), (89, .iload_n 2, [], 0),
  (90, .iaload, [], 0), (91, .goto 4, [51], 0), (94, .iconst 0, [], 0), (95, .iastore, [], 0), (96, .aload_n 0, [], 0), (97, .getfield 13, [6, 4], 263),
  (100, .iload_n 2, [], 0), (101, .iload_n 2, [], 0), (102, .aload_n 1, [], 0), (103, .getfield 13, [6, 4], 263), (106, .arraylength, [], 0), (107, .if_icmp .ge 12, [65], 0),
  (110, .aload_n 1, [], 0), (111, .getfield 13, [6, 4], 263), (114, .iload_n 2, [], 0), (115, .iaload, [], 0), (116, .goto 4, [66], 0), (119, .iconst 0, [], 0),
  (120, .iastore, [], 0), (121, .iinc 2 1, [], 0), (124, .goto (-71), [27], 0), (127, .return_, [], 0)]
abbrev q_Pg_become : Nat := 52
def m_Pg_become : MDt := (⟨"PenThatJumps$Program", "become", "(LPenThatJumps$Program;)V"⟩, prog_8_method_7_code, 3, none, 6, 6, P_Pg_become)
/-- PenThatJumps$Program.run(I[I)I -/
def P_Pg_run : List IR := [
  (0, .aload_n 0, [], 0), (1, .iload_n 1, [], 0), (2, .invokevirtual 39, [51, 2], 810), (5, .ifCond .eq 25, [16], 0), (8, .iload_n 1, [], 0), (9, .ifCond .lt 21, [16], 0),
  (12, .iload_n 1, [], 0), (13, .aload_n 0, [], 0), (14, .getfield 9, [6, 3], 262), (17, .arraylength, [], 0), (18, .if_icmp .ge 12, [16], 0), (21, .iload_n 1, [], 0),
  (22, .aload_n 0, [], 0), (23, .getfield 13, [6, 4], 263), (26, .arraylength, [], 0), (27, .if_icmp .lt 5, [18], 0), (30, .iconst 0, [], 0), (31, .ireturn, [], 0),
  (32, .iconst 0, [], 0), (33, .istore_n 3, [], 0), (34, .aload_n 0, [], 0), (35, .getfield 9, [6, 3], 262), (38, .iload_n 1, [], 0), (39, .iaload, [], 0),
  (40, .ifCond .le 12, [30], 0), (43, .aload_n 0, [], 0), (44, .getfield 9, [6, 3], 262), (47, .iload_n 1, [], 0), (48, .iaload, [], 0), (49, .goto 4, [31], 0),
  (52, .iconst 0, [], 0), (53, .istore 4, [], 0), (55, .iload 4, [], 0), (57, .istore 5, [], 0), (59, .iload 5, [], 0), (61, .aload_n 0, [], 0),
  (62, .getfield 13, [6, 4], 263), (65, .iload_n 1, [], 0), (66, .iaload, [], 0), (67, .if_icmp .ge 33, [56], 0), (70, .iload 5, [], 0), (72, .aload_n 0, [], 0),
  (73, .getfield 19, [6, 0], 256), (76, .arraylength, [], 0), (77, .if_icmp .ge 23, [56], 0), (80, .aload_n 0, [], 0), (81, .aload_n 0, [], 0), (82, .getfield 19, [6, 0], 256),
  (85, .iload 5, [], 0), (87, .iaload, [], 0), (88, .iload_n 3, [], 0), (89, .aload_n 2, [], 0), (90, .invokevirtual 43, [54, 4], 811), (93, .istore_n 3, [], 0),
  (94, .iinc 5 1, [], 0), (97, .goto (-38), [34], 0), (100, .iload_n 3, [], 0), (101, .ifCond .le 12, [63], 0), (104, .aload_n 0, [], 0), (105, .getfield 16, [6, 5], 264),
  (108, .iconst 0, [], 0), (109, .iaload, [], 0), (110, .goto 4, [64], 0), (113, .iconst 0, [], 0), (114, .ireturn, [], 0)]
abbrev q_Pg_run : Nat := 53
def m_Pg_run : MDt := (⟨"PenThatJumps$Program", "run", "(I[I)I"⟩, prog_8_method_8_code, 6, some .int, 6, 6, P_Pg_run)
/-- PenThatJumps$Program.take(II[I)I -/
def P_Pg_take : List IR := [
  (0, .iload_n 1, [], 0), (1, .ifCond .lt 59, [36], 0), (4, .iload_n 2, [], 0), (5, .ifCond .lt 12, [9], 0), (8, .iload_n 2, [], 0), (9, .aload_n 0, [], 0),
  (10, .getfield 16, [6, 5], 264), (13, .arraylength, [], 0), (14, .if_icmp .lt 5, [11], 0), (17, .iload_n 2, [], 0), (18, .ireturn, [], 0), (19, .iload_n 1, [], 0),
  (20, .sipush 10000, [], 0), (23, .isub, [], 0), (24, .istore 4, [], 0), (26, .aload_n 0, [], 0), (27, .getfield 16, [6, 5], 264), (30, .iload_n 2, [], 0),
  (31, .iload 4, [], 0), (33, .ifCond .ge 7, [22], 0), (36, .iload_n 1, [], 0), (37, .goto 18, [31], 0), (40, .iload 4, [], 0), (42, .aload_n 3, [], 0),
  (43, .arraylength, [], 0), (44, .if_icmp .ge 10, [30], 0), (47, .aload_n 3, [], 0), (48, .iload 4, [], 0), (50, .iaload, [], 0), (51, .goto 4, [31], 0),
  (54, .iconst 0, [], 0), (55, .iastore, [], 0), (56, .iload_n 2, [], 0), (57, .iconst 1, [], 0), (58, .iadd, [], 0), (59, .ireturn, [], 0),
  (60, .iload_n 1, [], 0), (61, .iconst (-1), [], 0), (62, .if_icmp .ne 43, [65], 0), (65, .iload_n 2, [], 0), (66, .iconst 1, [], 0), (67, .if_icmp .lt 36, [63], 0),
  (70, .iload_n 2, [], 0), (71, .aload_n 0, [], 0), (72, .getfield 16, [6, 5], 264), (75, .arraylength, [], 0), (76, .if_icmp .gt 27, [63], 0), (79, .aload_n 0, [], 0),
  (80, .getfield 16, [6, 5], 264), (83, .iload_n 2, [], 0), (84, .iconst 1, [], 0), (85, .isub, [], 0), (86, .aload_n 0, [], 0), (87, .getfield 16, [6, 5], 264),
  (90, .iload_n 2, [], 0), (91, .iconst 1, [], 0), (92, .isub, [], 0), (93, .iaload, [], 0), (94, .ifCond .ne 7, [61], 0), (97, .iconst 1, [], 0),
  (98, .goto 4, [62], 0), (101, .iconst 0, [], 0), (102, .iastore, [], 0), (103, .iload_n 2, [], 0), (104, .ireturn, [], 0), (105, .iload_n 2, [], 0),
  (106, .iconst 2, [], 0), (107, .if_icmp .lt 12, [73], 0), (110, .iload_n 2, [], 0), (111, .aload_n 0, [], 0), (112, .getfield 16, [6, 5], 264), (115, .arraylength, [], 0),
  (116, .if_icmp .le 5, [75], 0), (119, .iload_n 2, [], 0), (120, .ireturn, [], 0), (121, .aload_n 0, [], 0), (122, .getfield 16, [6, 5], 264), (125, .iload_n 2, [], 0),
  (126, .iconst 2, [], 0), (127, .isub, [], 0), (128, .iload_n 1, [], 0), (129, .aload_n 0, [], 0), (130, .getfield 16, [6, 5], 264), (133, .iload_n 2, [], 0),
  (134, .iconst 2, [], 0), (135, .isub, [], 0), (136, .iaload, [], 0), (137, .aload_n 0, [], 0), (138, .getfield 16, [6, 5], 264), (141, .iload_n 2, [], 0),
  (142, .iconst 1, [], 0), (143, .isub, [], 0), (144, .iaload, [], 0), (145, .invokestatic 47, [55, 3], 815), (148, .iastore, [], 0), (149, .iload_n 2, [], 0),
  (150, .iconst 1, [], 0), (151, .isub, [], 0), (152, .ireturn, [], 0)]
abbrev q_Pg_take : Nat := 54
def m_Pg_take : MDt := (⟨"PenThatJumps$Program", "take", "(II[I)I"⟩, prog_8_method_9_code, 5, some .int, 6, 6, P_Pg_take)
/-- PenThatJumps$Program.joined(III)I -/
def P_Pg_joined : List IR := [
  (0, .iload_n 0, [], 0), (1, .tableswitch 105 (-8) (-2) #[101, 97, 93, 82, 71, 57, 43], [44, 40, 36, 32, 25, 18, 10, 2], 0), (44, .iload_n 1, [], 0), (45, .ifCond .eq 11, [8], 0), (48, .iload_n 2, [], 0), (49, .ifCond .eq 7, [8], 0),
  (52, .iconst 1, [], 0), (53, .goto 4, [9], 0), (56, .iconst 0, [], 0), (57, .ireturn, [], 0), (58, .iload_n 1, [], 0), (59, .ifCond .ne 7, [14], 0),
  (62, .iload_n 2, [], 0), (63, .ifCond .eq 7, [16], 0), (66, .iconst 1, [], 0), (67, .goto 4, [17], 0), (70, .iconst 0, [], 0), (71, .ireturn, [], 0),
  (72, .iload_n 1, [], 0), (73, .iload_n 2, [], 0), (74, .if_icmp .ge 7, [23], 0), (77, .iconst 1, [], 0), (78, .goto 4, [24], 0), (81, .iconst 0, [], 0),
  (82, .ireturn, [], 0), (83, .iload_n 1, [], 0), (84, .iload_n 2, [], 0), (85, .if_icmp .ne 7, [30], 0), (88, .iconst 1, [], 0), (89, .goto 4, [31], 0),
  (92, .iconst 0, [], 0), (93, .ireturn, [], 0), (94, .iload_n 1, [], 0), (95, .iload_n 2, [], 0), (96, .iadd, [], 0), (97, .ireturn, [], 0),
  (98, .iload_n 1, [], 0), (99, .iload_n 2, [], 0), (100, .isub, [], 0), (101, .ireturn, [], 0), (102, .iload_n 1, [], 0), (103, .iload_n 2, [], 0),
  (104, .imul, [], 0), (105, .ireturn, [], 0), (106, .iconst 0, [], 0), (107, .ireturn, [], 0)]
abbrev q_Pg_joined : Nat := 55
def m_Pg_joined : MDt := (⟨"PenThatJumps$Program", "joined", "(III)I"⟩, prog_8_method_10_code, 3, some .int, 6, 99, P_Pg_joined)
/-- PenThatJumps$Sitting.<init>()V -/
def P_Si_init : List IR := [
  (0, .aload_n 0, [], 0), (1, .invokespecial 3, [301, 1], 373), (4, .aload_n 0, [], 0), (5, .new 9, [4], 374), (8, .dup, [], 0), (9, .invokespecial 11, [33, 1], 375),
  (12, .putfield 12, [7, 0], 376), (15, .aload_n 0, [], 0), (16, .bipush 36, [], 0), (18, .newarray .int, [20], 0), (20, .putfield 18, [7, 1], 379), (23, .return_, [], 0)]
abbrev q_Si_init : Nat := 56
def m_Si_init : MDt := (⟨"PenThatJumps$Sitting", "<init>", "()V"⟩, prog_9_method_1_code, 1, none, 7, 7, P_Si_init)
/-- PenThatJumps$Sitting.begin(LPenThatJumps$Plan;I)V -/
def P_Si_begin : List IR := [
  (0, .aload_n 0, [], 0), (1, .getfield 12, [7, 0], 376), (4, .aload_n 1, [], 0), (5, .invokevirtual 22, [35, 2], 822), (8, .aload_n 0, [], 0), (9, .iload_n 2, [], 0),
  (10, .putfield 26, [7, 2], 380), (13, .return_, [], 0)]
abbrev q_Si_begin : Nat := 57
def m_Si_begin : MDt := (⟨"PenThatJumps$Sitting", "begin", "(LPenThatJumps$Plan;I)V"⟩, prog_9_method_2_code, 3, none, 7, 7, P_Si_begin)
/-- PenThatJumps$Sitting.draw(I[I)V -/
def P_Si_draw : List IR := [
  (0, .iload_n 1, [], 0), (1, .i2l, [], 0), (2, .lstore_n 3, [], 0), (3, .iconst 0, [], 0), (4, .istore 5, [], 0), (6, .iload 5, [], 0),
  (8, .aload_n 0, [], 0), (9, .getfield 12, [7, 0], 376), (12, .getfield 30, [4, 3], 238), (15, .iconst 3, [], 0), (16, .imul, [], 0), (17, .if_icmp .ge 77, [53], 0),
  (20, .iload 5, [], 0), (22, .aload_n 0, [], 0), (23, .getfield 18, [7, 1], 379), (26, .arraylength, [], 0), (27, .if_icmp .ge 67, [53], 0), (30, .lload_n 3, [], 0),
  (31, .ldc2_w 33, [1103515245], 827), (34, .lmul, [], 0), (35, .ldc2_w 35, [12345], 828), (38, .ladd, [], 0), (39, .ldc2_w 37, [2147483648], 829), (42, .lrem, [], 0),
  (43, .lstore_n 3, [], 0), (44, .iload 5, [], 0), (46, .iconst 4, [], 0), (47, .imul, [], 0), (48, .lload_n 3, [], 0), (49, .ldc2_w 39, [65536], 830),
  (52, .ldiv, [], 0), (53, .ldc2_w 41, [4], 831), (56, .lrem, [], 0), (57, .l2i, [], 0), (58, .iadd, [], 0), (59, .istore 6, [], 0),
  (61, .aload_n 0, [], 0), (62, .getfield 18, [7, 1], 379), (65, .iload 5, [], 0), (67, .iload 6, [], 0), (69, .ifCond .lt 17, [49], 0), (72, .iload 6, [], 0),
  (74, .aload_n 2, [], 0), (75, .arraylength, [], 0), (76, .if_icmp .ge 10, [49], 0), (79, .aload_n 2, [], 0), (80, .iload 6, [], 0), (82, .iaload, [], 0),
  (83, .goto 4, [50], 0), (86, .iconst 0, [], 0), (87, .iastore, [], 0), (88, .iinc 5 1, [], 0), (91, .goto (-85), [5], 0), (94, .return_, [], 0)]
abbrev q_Si_draw : Nat := 58
def m_Si_draw : MDt := (⟨"PenThatJumps$Sitting", "draw", "(I[I)V"⟩, prog_9_method_3_code, 7, none, 7, 7, P_Si_draw)
/-- PenThatJumps$Sitting.jumpAt(II)I -/
def P_Si_jumpAt : List IR := [
  (0, .iload_n 1, [], 0), (1, .iconst 3, [], 0), (2, .imul, [], 0), (3, .iload_n 2, [], 0), (4, .iadd, [], 0), (5, .istore_n 3, [], 0),
  (6, .iload_n 3, [], 0), (7, .ifCond .lt 21, [18], 0), (10, .iload_n 3, [], 0), (11, .aload_n 0, [], 0), (12, .getfield 18, [7, 1], 379), (15, .arraylength, [], 0),
  (16, .if_icmp .ge 12, [18], 0), (19, .aload_n 0, [], 0), (20, .getfield 18, [7, 1], 379), (23, .iload_n 3, [], 0), (24, .iaload, [], 0), (25, .goto 4, [19], 0),
  (28, .iconst 0, [], 0), (29, .ireturn, [], 0)]
abbrev q_Si_jumpAt : Nat := 59
def m_Si_jumpAt : MDt := (⟨"PenThatJumps$Sitting", "jumpAt", "(II)I"⟩, prog_9_method_4_code, 4, some .int, 7, 7, P_Si_jumpAt)
/-- PenThatJumps$Sitting.standsOut(I)Z -/
def P_Si_standsOut : List IR := [
  (0, .iconst (-1), [], 0), (1, .istore_n 2, [], 0), (2, .iconst (-1), [], 0), (3, .istore_n 3, [], 0), (4, .iconst 0, [], 0), (5, .istore 4, [], 0),
  (7, .iload 4, [], 0), (9, .aload_n 0, [], 0), (10, .getfield 12, [7, 0], 376), (13, .getfield 30, [4, 3], 238), (16, .if_icmp .ge 62, [40], 0), (19, .aload_n 0, [], 0),
  (20, .getfield 12, [7, 0], 376), (23, .iload 4, [], 0), (25, .invokevirtual 43, [37, 2], 879), (28, .istore 5, [], 0), (30, .iload 5, [], 0), (32, .aload_n 0, [], 0),
  (33, .getfield 26, [7, 2], 380), (36, .if_icmp .ne 18, [28], 0), (39, .iload_n 2, [], 0), (40, .aload_n 0, [], 0), (41, .iload 4, [], 0), (43, .iload_n 1, [], 0),
  (44, .invokevirtual 47, [59, 3], 880), (47, .invokestatic 51, [306, 2], 881), (50, .istore_n 2, [], 0), (51, .goto 21, [38], 0), (54, .iload 5, [], 0), (56, .iconst (-1), [], 0),
  (57, .if_icmp .eq 15, [38], 0), (60, .iload_n 3, [], 0), (61, .aload_n 0, [], 0), (62, .iload 4, [], 0), (64, .iload_n 1, [], 0), (65, .invokevirtual 47, [59, 3], 880),
  (68, .invokestatic 51, [306, 2], 881), (71, .istore_n 3, [], 0), (72, .iinc 4 1, [], 0), (75, .goto (-68), [6], 0), (78, .iload_n 3, [], 0), (79, .iconst (-1), [], 0),
  (80, .if_icmp .eq 12, [48], 0), (83, .iload_n 3, [], 0), (84, .iload_n 2, [], 0), (85, .if_icmp .ge 7, [48], 0), (88, .iconst 1, [], 0), (89, .goto 4, [49], 0),
  (92, .iconst 0, [], 0), (93, .ireturn, [], 0)]
abbrev q_Si_standsOut : Nat := 60
def m_Si_standsOut : MDt := (⟨"PenThatJumps$Sitting", "standsOut", "(I)Z"⟩, prog_9_method_5_code, 6, some .boolean, 7, 7, P_Si_standsOut)
/-- PenThatJumps$Tally.<init>()V -/
def P_Ta_init : List IR := [
  (0, .aload_n 0, [], 0), (1, .invokespecial 1, [301, 1], 162), (4, .aload_n 0, [], 0), (5, .bipush 8, [], 0), (7, .newarray .int, [20], 0), (9, .putfield 7, [8, 2], 166),
  (12, .return_, [], 0)]
abbrev q_Ta_init : Nat := 61
def m_Ta_init : MDt := (⟨"PenThatJumps$Tally", "<init>", "()V"⟩, prog_10_method_1_code, 1, none, 8, 8, P_Ta_init)
/-- PenThatJumps$Tally.become(LPenThatJumps$Tally;)V -/
def P_Ta_become : List IR := [
  (0, .aload_n 0, [], 0), (1, .aload_n 1, [], 0), (2, .getfield 13, [8, 1], 164), (5, .putfield 13, [8, 1], 164), (8, .iconst 0, [], 0), (9, .istore_n 2, [], 0),
  (10, .iload_n 2, [], 0), (11, .aload_n 0, [], 0), (12, .getfield 7, [8, 2], 166), (15, .arraylength, [], 0), (16, .if_icmp .ge 30, [26], 0), (19, .iload_n 2, [], 0),
  (20, .aload_n 1, [], 0), (21, .getfield 7, [8, 2], 166), (24, .arraylength, [], 0), (25, .if_icmp .ge 21, [26], 0), (28, .aload_n 0, [], 0), (29, .getfield 7, [8, 2], 166),
  (32, .iload_n 2, [], 0), (33, .aload_n 1, [], 0), (34, .getfield 7, [8, 2], 166), (37, .iload_n 2, [], 0), (38, .iaload, [], 0), (39, .iastore, [], 0),
  (40, .iinc 2 1, [], 0), (43, .goto (-33), [6], 0), (46, .aload_n 0, [], 0), (47, .aload_n 1, [], 0), (48, .getfield 17, [8, 3], 167), (51, .putfield 17, [8, 3], 167),
  (54, .aload_n 0, [], 0), (55, .aload_n 1, [], 0), (56, .getfield 20, [8, 4], 169), (59, .putfield 20, [8, 4], 169), (62, .aload_n 0, [], 0), (63, .aload_n 1, [], 0),
  (64, .getfield 23, [8, 5], 171), (67, .putfield 23, [8, 5], 171), (70, .aload_n 0, [], 0), (71, .aload_n 1, [], 0), (72, .getfield 26, [8, 6], 173), (75, .putfield 26, [8, 6], 173),
  (78, .return_, [], 0)]
abbrev q_Ta_become : Nat := 62
def m_Ta_become : MDt := (⟨"PenThatJumps$Tally", "become", "(LPenThatJumps$Tally;)V"⟩, prog_10_method_2_code, 3, none, 8, 8, P_Ta_become)
/-- PenThatJumps$Tally.cell(ZZZ)I -/
def P_Ta_cell : List IR := [
  (0, .iload_n 0, [], 0), (1, .ifCond .eq 7, [4], 0), (4, .iconst 4, [], 0), (5, .goto 4, [5], 0), (8, .iconst 0, [], 0), (9, .iload_n 1, [], 0),
  (10, .ifCond .eq 7, [9], 0), (13, .iconst 2, [], 0), (14, .goto 4, [10], 0), (17, .iconst 0, [], 0), (18, .iadd, [], 0), (19, .iload_n 2, [], 0),
  (20, .ifCond .eq 7, [15], 0), (23, .iconst 1, [], 0), (24, .goto 4, [16], 0), (27, .iconst 0, [], 0), (28, .iadd, [], 0), (29, .ireturn, [], 0)]
abbrev q_Ta_cell : Nat := 63
def m_Ta_cell : MDt := (⟨"PenThatJumps$Tally", "cell", "(ZZZ)I"⟩, prog_10_method_3_code, 3, some .int, 8, 99, P_Ta_cell)
/-- PenThatJumps$Tally.addConfessions(ZZZI)V -/
def P_Ta_addConfessions : List IR := [
  (0, .iload_n 1, [], 0), (1, .iload_n 2, [], 0), (2, .iload_n 3, [], 0), (3, .invokestatic 29, [63, 3], 986), (6, .istore 5, [], 0), (8, .iload 5, [], 0),
  (10, .ifCond .lt 25, [20], 0), (13, .iload 5, [], 0), (15, .aload_n 0, [], 0), (16, .getfield 7, [8, 2], 166), (19, .arraylength, [], 0), (20, .if_icmp .ge 15, [20], 0),
  (23, .aload_n 0, [], 0), (24, .getfield 7, [8, 2], 166), (27, .iload 5, [], 0), (29, .dup2, [], 0), (30, .iaload, [], 0), (31, .iload 4, [], 0),
  (33, .iadd, [], 0), (34, .iastore, [], 0), (35, .return_, [], 0)]
abbrev q_Ta_addConfessions : Nat := 64
def m_Ta_addConfessions : MDt := (⟨"PenThatJumps$Tally", "addConfessions", "(ZZZI)V"⟩, prog_10_method_4_code, 6, none, 8, 8, P_Ta_addConfessions)
/-- PenThatJumps$Tally.confessionsAt(ZZZ)I -/
def P_Ta_confessionsAt : List IR := [
  (0, .iload_n 1, [], 0), (1, .iload_n 2, [], 0), (2, .iload_n 3, [], 0), (3, .invokestatic 29, [63, 3], 986), (6, .istore 4, [], 0), (8, .iload 4, [], 0),
  (10, .ifCond .lt 23, [17], 0), (13, .iload 4, [], 0), (15, .aload_n 0, [], 0), (16, .getfield 7, [8, 2], 166), (19, .arraylength, [], 0), (20, .if_icmp .ge 13, [17], 0),
  (23, .aload_n 0, [], 0), (24, .getfield 7, [8, 2], 166), (27, .iload 4, [], 0), (29, .iaload, [], 0), (30, .goto 4, [18], 0), (33, .iconst 0, [], 0),
  (34, .ireturn, [], 0)]
abbrev q_Ta_confessionsAt : Nat := 65
def m_Ta_confessionsAt : MDt := (⟨"PenThatJumps$Tally", "confessionsAt", "(ZZZ)I"⟩, prog_10_method_5_code, 5, some .int, 8, 8, P_Ta_confessionsAt)
/-- PenThatJumps$Tally.confessed(IZZ)I -/
def P_Ta_confessed : List IR := [
  (0, .iload_n 1, [], 0), (1, .iconst 1, [], 0), (2, .if_icmp .ne 7, [5], 0), (5, .iconst 0, [], 0), (6, .goto 10, [10], 0), (9, .aload_n 0, [], 0),
  (10, .iconst 1, [], 0), (11, .iload_n 2, [], 0), (12, .iload_n 3, [], 0), (13, .invokevirtual 33, [65, 4], 1108), (16, .istore 4, [], 0), (18, .iload_n 1, [], 0),
  (19, .ifCond .ne 7, [15], 0), (22, .iconst 0, [], 0), (23, .goto 10, [20], 0), (26, .aload_n 0, [], 0), (27, .iconst 0, [], 0), (28, .iload_n 2, [], 0),
  (29, .iload_n 3, [], 0), (30, .invokevirtual 33, [65, 4], 1108), (33, .istore 5, [], 0), (35, .iload 4, [], 0), (37, .iload 5, [], 0), (39, .iadd, [], 0),
  (40, .ireturn, [], 0)]
abbrev q_Ta_confessed : Nat := 66
def m_Ta_confessed : MDt := (⟨"PenThatJumps$Tally", "confessed", "(IZZ)I"⟩, prog_10_method_6_code, 6, some .int, 8, 8, P_Ta_confessed)
/-- PenThatJumps$Tally.allConfessions()I -/
def P_Ta_allConfessions : List IR := [
  (0, .iconst 0, [], 0), (1, .istore_n 1, [], 0), (2, .iconst 0, [], 0), (3, .istore_n 2, [], 0), (4, .iload_n 2, [], 0), (5, .aload_n 0, [], 0),
  (6, .getfield 7, [8, 2], 166), (9, .arraylength, [], 0), (10, .if_icmp .ge 18, [18], 0), (13, .iload_n 1, [], 0), (14, .aload_n 0, [], 0), (15, .getfield 7, [8, 2], 166),
  (18, .iload_n 2, [], 0), (19, .iaload, [], 0), (20, .iadd, [], 0), (21, .istore_n 1, [], 0), (22, .iinc 2 1, [], 0), (25, .goto (-21), [4], 0),
  (28, .iload_n 1, [], 0), (29, .ireturn, [], 0)]
abbrev q_Ta_allConfessions : Nat := 67
def m_Ta_allConfessions : MDt := (⟨"PenThatJumps$Tally", "allConfessions", "()I"⟩, prog_10_method_7_code, 3, some .int, 8, 8, P_Ta_allConfessions)
/-- PenThatJumps$Tally.addPaper(ZII)V -/
def P_Ta_addPaper : List IR := [
  (0, .iload_n 1, [], 0), (1, .ifCond .eq 26, [15], 0), (4, .aload_n 0, [], 0), (5, .dup, [], 0), (6, .getfield 17, [8, 3], 167), (9, .iload_n 2, [], 0),
  (10, .iadd, [], 0), (11, .putfield 17, [8, 3], 167), (14, .aload_n 0, [], 0), (15, .dup, [], 0), (16, .getfield 20, [8, 4], 169), (19, .iload_n 3, [], 0),
  (20, .iadd, [], 0), (21, .putfield 20, [8, 4], 169), (24, .goto 23, [27], 0), (27, .aload_n 0, [], 0), (28, .dup, [], 0), (29, .getfield 23, [8, 5], 171),
  (32, .iload_n 2, [], 0), (33, .iadd, [], 0), (34, .putfield 23, [8, 5], 171), (37, .aload_n 0, [], 0), (38, .dup, [], 0), (39, .getfield 26, [8, 6], 173),
  (42, .iload_n 3, [], 0), (43, .iadd, [], 0), (44, .putfield 26, [8, 6], 173), (47, .return_, [], 0)]
abbrev q_Ta_addPaper : Nat := 68
def m_Ta_addPaper : MDt := (⟨"PenThatJumps$Tally", "addPaper", "(ZII)V"⟩, prog_10_method_8_code, 4, none, 8, 8, P_Ta_addPaper)
/-- PenThatJumps$Tape.<init>()V -/
def P_Tp_init : List IR := [
  (0, .aload_n 0, [], 0), (1, .invokespecial 1, [301, 1], 203), (4, .aload_n 0, [], 0), (5, .sipush 1000, [], 0), (8, .newarray .char, [21], 0), (10, .putfield 9, [9, 0], 204),
  (13, .aload_n 0, [], 0), (14, .sipush 1001, [], 0), (17, .newarray .int, [20], 0), (19, .putfield 13, [9, 2], 207), (22, .aload_n 0, [], 0), (23, .sipush 1001, [], 0),
  (26, .newarray .int, [20], 0), (28, .putfield 17, [9, 3], 209), (31, .return_, [], 0)]
abbrev q_Tp_init : Nat := 69
def m_Tp_init : MDt := (⟨"PenThatJumps$Tape", "<init>", "()V"⟩, prog_11_method_1_code, 1, none, 9, 9, P_Tp_init)
/-- PenThatJumps$Tape.clear()V -/
def P_Tp_clear : List IR := [
  (0, .aload_n 0, [], 0), (1, .iconst 0, [], 0), (2, .putfield 20, [9, 1], 205), (5, .return_, [], 0)]
abbrev q_Tp_clear : Nat := 70
def m_Tp_clear : MDt := (⟨"PenThatJumps$Tape", "clear", "()V"⟩, prog_11_method_2_code, 1, none, 9, 9, P_Tp_clear)
/-- PenThatJumps$Tape.put(J)V -/
def P_Tp_put : List IR := [
  (0, .bipush 56, [], 0), (2, .istore_n 3, [], 0), (3, .iload_n 3, [], 0), (4, .ifCond .lt 93, [50], 0), (7, .lload_n 1, [], 0), (8, .iload_n 3, [], 0),
  (9, .lushr, [], 0), (10, .l2i, [], 0), (11, .sipush 255, [], 0), (14, .iand, [], 0), (15, .istore 4, [], 0), (17, .iload 4, [], 0),
  (19, .bipush 10, [], 0), (21, .if_icmp .eq 17, [20], 0), (24, .iload 4, [], 0), (26, .bipush 32, [], 0), (28, .if_icmp .lt 14, [22], 0), (31, .iload 4, [], 0),
  (33, .bipush 126, [], 0), (35, .if_icmp .gt 7, [22], 0), (38, .iconst 1, [], 0), (39, .goto 4, [23], 0), (42, .iconst 0, [], 0), (43, .istore 5, [], 0),
  (45, .iload 5, [], 0), (47, .ifCond .eq 44, [48], 0), (50, .aload_n 0, [], 0), (51, .getfield 20, [9, 1], 205), (54, .ifCond .lt 37, [48], 0), (57, .aload_n 0, [], 0),
  (58, .getfield 20, [9, 1], 205), (61, .aload_n 0, [], 0), (62, .getfield 9, [9, 0], 204), (65, .arraylength, [], 0), (66, .if_icmp .ge 25, [48], 0), (69, .aload_n 0, [], 0),
  (70, .getfield 9, [9, 0], 204), (73, .aload_n 0, [], 0), (74, .getfield 20, [9, 1], 205), (77, .iload 4, [], 0), (79, .i2c, [], 0), (80, .castore, [], 0),
  (81, .aload_n 0, [], 0), (82, .dup, [], 0), (83, .getfield 20, [9, 1], 205), (86, .iconst 1, [], 0), (87, .iadd, [], 0), (88, .putfield 20, [9, 1], 205),
  (91, .iinc 3 (-8), [], 0), (94, .goto (-91), [2], 0), (97, .return_, [], 0)]
abbrev q_Tp_put : Nat := 71
def m_Tp_put : MDt := (⟨"PenThatJumps$Tape", "put", "(J)V"⟩, prog_11_method_3_code, 6, none, 9, 9, P_Tp_put)
/-- PenThatJumps$Tape.signAt(I)C -/
def P_Tp_signAt : List IR := [
  (0, .iload_n 1, [], 0), (1, .ifCond .lt 29, [16], 0), (4, .iload_n 1, [], 0), (5, .aload_n 0, [], 0), (6, .getfield 20, [9, 1], 205), (9, .if_icmp .ge 21, [16], 0),
  (12, .iload_n 1, [], 0), (13, .aload_n 0, [], 0), (14, .getfield 9, [9, 0], 204), (17, .arraylength, [], 0), (18, .if_icmp .ge 12, [16], 0), (21, .aload_n 0, [], 0),
  (22, .getfield 9, [9, 0], 204), (25, .iload_n 1, [], 0), (26, .caload, [], 0), (27, .goto 4, [17], 0), (30, .iconst 0, [], 0), (31, .ireturn, [], 0)]
abbrev q_Tp_signAt : Nat := 72
def m_Tp_signAt : MDt := (⟨"PenThatJumps$Tape", "signAt", "(I)C"⟩, prog_11_method_4_code, 2, some .char, 9, 9, P_Tp_signAt)
/-- PenThatJumps$Tape.cut()V -/
def P_Tp_cut : List IR := [
  (0, .aload_n 0, [], 0), (1, .iconst 0, [], 0), (2, .putfield 24, [9, 4], 211), (5, .aload_n 0, [], 0), (6, .iconst 0, [], 0), (7, .invokevirtual 27, [75, 2], 508),
  (10, .istore_n 1, [], 0), (11, .iconst 0, [], 0), (12, .istore_n 2, [], 0), (13, .iload_n 2, [], 0), (14, .sipush 1000, [], 0), (17, .if_icmp .ge 27, [24], 0),
  (20, .iload_n 1, [], 0), (21, .aload_n 0, [], 0), (22, .getfield 20, [9, 1], 205), (25, .if_icmp .ge 19, [24], 0), (28, .aload_n 0, [], 0), (29, .aload_n 0, [], 0),
  (30, .iload_n 1, [], 0), (31, .invokevirtual 31, [76, 2], 516), (34, .invokevirtual 27, [75, 2], 508), (37, .istore_n 1, [], 0), (38, .iinc 2 1, [], 0), (41, .goto (-28), [9], 0),
  (44, .aload_n 0, [], 0), (45, .sipush 12000, [], 0), (48, .aload_n 0, [], 0), (49, .getfield 20, [9, 1], 205), (52, .invokevirtual 34, [74, 3], 585), (55, .return_, [], 0)]
abbrev q_Tp_cut : Nat := 73
def m_Tp_cut : MDt := (⟨"PenThatJumps$Tape", "cut", "()V"⟩, prog_11_method_5_code, 3, none, 9, 9, P_Tp_cut)
/-- PenThatJumps$Tape.addToken(II)V -/
def P_Tp_addToken : List IR := [
  (0, .aload_n 0, [], 0), (1, .getfield 24, [9, 4], 211), (4, .ifCond .lt 57, [33], 0), (7, .aload_n 0, [], 0), (8, .getfield 24, [9, 4], 211), (11, .aload_n 0, [], 0),
  (12, .getfield 13, [9, 2], 207), (15, .arraylength, [], 0), (16, .if_icmp .ge 45, [33], 0), (19, .aload_n 0, [], 0), (20, .getfield 24, [9, 4], 211), (23, .aload_n 0, [], 0),
  (24, .getfield 17, [9, 3], 209), (27, .arraylength, [], 0), (28, .if_icmp .ge 33, [33], 0), (31, .aload_n 0, [], 0), (32, .getfield 13, [9, 2], 207), (35, .aload_n 0, [], 0),
  (36, .getfield 24, [9, 4], 211), (39, .iload_n 1, [], 0), (40, .iastore, [], 0), (41, .aload_n 0, [], 0), (42, .getfield 17, [9, 3], 209), (45, .aload_n 0, [], 0),
  (46, .getfield 24, [9, 4], 211), (49, .iload_n 2, [], 0), (50, .iastore, [], 0), (51, .aload_n 0, [], 0), (52, .dup, [], 0), (53, .getfield 24, [9, 4], 211),
  (56, .iconst 1, [], 0), (57, .iadd, [], 0), (58, .putfield 24, [9, 4], 211), (61, .return_, [], 0)]
abbrev q_Tp_addToken : Nat := 74
def m_Tp_addToken : MDt := (⟨"PenThatJumps$Tape", "addToken", "(II)V"⟩, prog_11_method_6_code, 3, none, 9, 9, P_Tp_addToken)
/-- PenThatJumps$Tape.pastBlanks(I)I -/
def P_Tp_pastBlanks : List IR := [
  (0, .iload_n 1, [], 0), (1, .istore_n 2, [], 0), (2, .iload_n 2, [], 0), (3, .aload_n 0, [], 0), (4, .getfield 20, [9, 1], 205), (7, .if_icmp .ge 29, [18], 0),
  (10, .aload_n 0, [], 0), (11, .iload_n 2, [], 0), (12, .invokevirtual 38, [72, 2], 512), (15, .bipush 10, [], 0), (17, .if_icmp .eq 13, [16], 0), (20, .aload_n 0, [], 0),
  (21, .iload_n 2, [], 0), (22, .invokevirtual 38, [72, 2], 512), (25, .bipush 32, [], 0), (27, .if_icmp .ne 9, [18], 0), (30, .iinc 2 1, [], 0), (33, .goto (-31), [2], 0),
  (36, .iload_n 2, [], 0), (37, .ireturn, [], 0)]
abbrev q_Tp_pastBlanks : Nat := 75
def m_Tp_pastBlanks : MDt := (⟨"PenThatJumps$Tape", "pastBlanks", "(I)I"⟩, prog_11_method_7_code, 3, some .int, 9, 9, P_Tp_pastBlanks)
/-- PenThatJumps$Tape.cutToken(I)I -/
def P_Tp_cutToken : List IR := [
  (0, .aload_n 0, [], 0), (1, .iload_n 1, [], 0), (2, .invokevirtual 38, [72, 2], 512), (5, .istore_n 2, [], 0), (6, .iload_n 2, [], 0), (7, .invokestatic 42, [81, 1], 520),
  (10, .ifCond .eq 9, [11], 0), (13, .aload_n 0, [], 0), (14, .iload_n 1, [], 0), (15, .invokevirtual 46, [77, 2], 523), (18, .ireturn, [], 0), (19, .iload_n 2, [], 0),
  (20, .invokestatic 49, [82, 1], 589), (23, .ifCond .eq 9, [18], 0), (26, .aload_n 0, [], 0), (27, .iload_n 1, [], 0), (28, .invokevirtual 52, [78, 2], 592), (31, .ireturn, [], 0),
  (32, .aload_n 0, [], 0), (33, .iload_n 2, [], 0), (34, .invokestatic 55, [83, 1], 596), (37, .ifCond .eq 11, [26], 0), (40, .sipush 11000, [], 0), (43, .iload_n 2, [], 0),
  (44, .iadd, [], 0), (45, .goto 6, [27], 0), (48, .sipush 13000, [], 0), (51, .iload_n 1, [], 0), (52, .invokevirtual 34, [74, 3], 585), (55, .iload_n 1, [], 0),
  (56, .iconst 1, [], 0), (57, .iadd, [], 0), (58, .ireturn, [], 0)]
abbrev q_Tp_cutToken : Nat := 76
def m_Tp_cutToken : MDt := (⟨"PenThatJumps$Tape", "cutToken", "(I)I"⟩, prog_11_method_8_code, 3, some .int, 9, 9, P_Tp_cutToken)
/-- PenThatJumps$Tape.cutWord(I)I -/
def P_Tp_cutWord : List IR := [
  (0, .iload_n 1, [], 0), (1, .istore_n 2, [], 0), (2, .iload_n 2, [], 0), (3, .aload_n 0, [], 0), (4, .getfield 20, [9, 1], 205), (7, .if_icmp .ge 20, [13], 0),
  (10, .aload_n 0, [], 0), (11, .iload_n 2, [], 0), (12, .invokevirtual 38, [72, 2], 512), (15, .invokestatic 42, [81, 1], 520), (18, .ifCond .eq 9, [13], 0), (21, .iinc 2 1, [], 0),
  (24, .goto (-22), [2], 0), (27, .aload_n 0, [], 0), (28, .iload_n 2, [], 0), (29, .iload_n 1, [], 0), (30, .isub, [], 0), (31, .bipush 8, [], 0),
  (33, .if_icmp .le 9, [21], 0), (36, .sipush 13000, [], 0), (39, .goto 13, [27], 0), (42, .sipush 10000, [], 0), (45, .aload_n 0, [], 0), (46, .iload_n 1, [], 0),
  (47, .iload_n 2, [], 0), (48, .invokevirtual 58, [79, 3], 527), (51, .iadd, [], 0), (52, .iload_n 1, [], 0), (53, .invokevirtual 34, [74, 3], 585), (56, .iload_n 2, [], 0),
  (57, .ireturn, [], 0)]
abbrev q_Tp_cutWord : Nat := 77
def m_Tp_cutWord : MDt := (⟨"PenThatJumps$Tape", "cutWord", "(I)I"⟩, prog_11_method_9_code, 3, some .int, 9, 9, P_Tp_cutWord)
/-- PenThatJumps$Tape.cutNumber(I)I -/
def P_Tp_cutNumber : List IR := [
  (0, .iload_n 1, [], 0), (1, .istore_n 2, [], 0), (2, .iconst 0, [], 0), (3, .istore_n 3, [], 0), (4, .iload_n 2, [], 0), (5, .aload_n 0, [], 0),
  (6, .getfield 20, [9, 1], 205), (9, .if_icmp .ge 34, [25], 0), (12, .aload_n 0, [], 0), (13, .iload_n 2, [], 0), (14, .invokevirtual 38, [72, 2], 512), (17, .invokestatic 49, [82, 1], 589),
  (20, .ifCond .eq 23, [25], 0), (23, .iload_n 3, [], 0), (24, .bipush 10, [], 0), (26, .imul, [], 0), (27, .aload_n 0, [], 0), (28, .iload_n 2, [], 0),
  (29, .invokevirtual 38, [72, 2], 512), (32, .bipush 48, [], 0), (34, .isub, [], 0), (35, .iadd, [], 0), (36, .istore_n 3, [], 0), (37, .iinc 2 1, [], 0),
  (40, .goto (-36), [4], 0), (43, .aload_n 0, [], 0), (44, .iload_n 2, [], 0), (45, .iload_n 1, [], 0), (46, .isub, [], 0), (47, .iconst 4, [], 0),
  (48, .if_icmp .le 9, [33], 0), (51, .sipush 13000, [], 0), (54, .goto 4, [34], 0), (57, .iload_n 3, [], 0), (58, .iload_n 1, [], 0), (59, .invokevirtual 34, [74, 3], 585),
  (62, .iload_n 2, [], 0), (63, .ireturn, [], 0)]
abbrev q_Tp_cutNumber : Nat := 78
def m_Tp_cutNumber : MDt := (⟨"PenThatJumps$Tape", "cutNumber", "(I)I"⟩, prog_11_method_10_code, 4, some .int, 9, 9, P_Tp_cutNumber)
/-- PenThatJumps$Tape.rowOfWord(II)I -/
def P_Tp_rowOfWord : List IR := [
  (0, .getstatic 62, [0, 26], 531), (3, .arraylength, [], 0), (4, .iconst 1, [], 0), (5, .isub, [], 0), (6, .istore_n 3, [], 0), (7, .iconst 0, [], 0),
  (8, .istore 4, [], 0), (10, .iload 4, [], 0), (12, .iload_n 3, [], 0), (13, .if_icmp .ge 30, [23], 0), (16, .aload_n 0, [], 0), (17, .iload_n 1, [], 0),
  (18, .iload_n 2, [], 0), (19, .getstatic 62, [0, 26], 531), (22, .iload 4, [], 0), (24, .aaload, [], 0), (25, .getfield 68, [40, 0], 1602), (28, .invokevirtual 72, [80, 4], 533),
  (31, .ifCond .eq 6, [21], 0), (34, .iload 4, [], 0), (36, .ireturn, [], 0), (37, .iinc 4 1, [], 0), (40, .goto (-30), [7], 0), (43, .iload_n 3, [], 0),
  (44, .ireturn, [], 0)]
abbrev q_Tp_rowOfWord : Nat := 79
def m_Tp_rowOfWord : MDt := (⟨"PenThatJumps$Tape", "rowOfWord", "(II)I"⟩, prog_11_method_11_code, 5, some .int, 9, 9, P_Tp_rowOfWord)
/-- PenThatJumps$Tape.spells(IILjava/lang/String;)Z -/
def P_Tp_spells : List IR := [
  (0, .aload_n 3, [], 0), (1, .invokevirtual 76, [201, 1], 537), (4, .iload_n 2, [], 0), (5, .iload_n 1, [], 0), (6, .isub, [], 0), (7, .if_icmp .eq 5, [8], 0),
  (10, .iconst 0, [], 0), (11, .ireturn, [], 0), (12, .iconst 0, [], 0), (13, .istore 4, [], 0), (15, .iload 4, [], 0), (17, .aload_n 3, [], 0),
  (18, .invokevirtual 76, [201, 1], 537), (21, .if_icmp .ge 28, [27], 0), (24, .aload_n 3, [], 0), (25, .iload 4, [], 0), (27, .invokevirtual 82, [202, 2], 547), (30, .aload_n 0, [], 0),
  (31, .iload_n 1, [], 0), (32, .iload 4, [], 0), (34, .iadd, [], 0), (35, .invokevirtual 38, [72, 2], 512), (38, .if_icmp .eq 5, [25], 0), (41, .iconst 0, [], 0),
  (42, .ireturn, [], 0), (43, .iinc 4 1, [], 0), (46, .goto (-31), [10], 0), (49, .iconst 1, [], 0), (50, .ireturn, [], 0)]
abbrev q_Tp_spells : Nat := 80
def m_Tp_spells : MDt := (⟨"PenThatJumps$Tape", "spells", "(IILjava/lang/String;)Z"⟩, prog_11_method_12_code, 5, some .boolean, 9, 9, P_Tp_spells)
/-- PenThatJumps$Tape.isLetter(C)Z -/
def P_Tp_isLetter : List IR := [
  (0, .iload_n 0, [], 0), (1, .bipush 97, [], 0), (3, .if_icmp .lt 13, [8], 0), (6, .iload_n 0, [], 0), (7, .bipush 122, [], 0), (9, .if_icmp .gt 7, [8], 0),
  (12, .iconst 1, [], 0), (13, .goto 4, [9], 0), (16, .iconst 0, [], 0), (17, .ireturn, [], 0)]
abbrev q_Tp_isLetter : Nat := 81
def m_Tp_isLetter : MDt := (⟨"PenThatJumps$Tape", "isLetter", "(C)Z"⟩, prog_11_method_13_code, 1, some .boolean, 9, 99, P_Tp_isLetter)
/-- PenThatJumps$Tape.isDigit(C)Z -/
def P_Tp_isDigit : List IR := [
  (0, .iload_n 0, [], 0), (1, .bipush 48, [], 0), (3, .if_icmp .lt 13, [8], 0), (6, .iload_n 0, [], 0), (7, .bipush 57, [], 0), (9, .if_icmp .gt 7, [8], 0),
  (12, .iconst 1, [], 0), (13, .goto 4, [9], 0), (16, .iconst 0, [], 0), (17, .ireturn, [], 0)]
abbrev q_Tp_isDigit : Nat := 82
def m_Tp_isDigit : MDt := (⟨"PenThatJumps$Tape", "isDigit", "(C)Z"⟩, prog_11_method_14_code, 1, some .boolean, 9, 99, P_Tp_isDigit)
/-- PenThatJumps$Tape.isSign(C)Z -/
def P_Tp_isSign : List IR := [
  (0, .iload_n 0, [], 0), (1, .bipush 40, [], 0), (3, .if_icmp .eq 45, [24], 0), (6, .iload_n 0, [], 0), (7, .bipush 41, [], 0), (9, .if_icmp .eq 39, [24], 0),
  (12, .iload_n 0, [], 0), (13, .bipush 60, [], 0), (15, .if_icmp .eq 33, [24], 0), (18, .iload_n 0, [], 0), (19, .bipush 61, [], 0), (21, .if_icmp .eq 27, [24], 0),
  (24, .iload_n 0, [], 0), (25, .bipush 43, [], 0), (27, .if_icmp .eq 21, [24], 0), (30, .iload_n 0, [], 0), (31, .bipush 45, [], 0), (33, .if_icmp .eq 15, [24], 0),
  (36, .iload_n 0, [], 0), (37, .bipush 42, [], 0), (39, .if_icmp .eq 9, [24], 0), (42, .iload_n 0, [], 0), (43, .bipush 59, [], 0), (45, .if_icmp .ne 7, [26], 0),
  (48, .iconst 1, [], 0), (49, .goto 4, [27], 0), (52, .iconst 0, [], 0), (53, .ireturn, [], 0)]
abbrev q_Tp_isSign : Nat := 83
def m_Tp_isSign : MDt := (⟨"PenThatJumps$Tape", "isSign", "(C)Z"⟩, prog_11_method_15_code, 1, some .boolean, 9, 99, P_Tp_isSign)
/-- PenThatJumps.<init>()V -/
def P_X_init : List IR := [
  (0, .aload_n 0, [], 0), (1, .invokespecial 1, [301, 1], 146), (4, .aload_n 0, [], 0), (5, .bipush 8, [], 0), (7, .anewarray 9, [33], 149), (10, .putfield 11, [10, 0], 420),
  (13, .aload_n 0, [], 0), (14, .iconst 4, [], 0), (15, .anewarray 15, [34], 151), (18, .putfield 17, [10, 1], 421), (21, .aload_n 0, [], 0), (22, .iconst 4, [], 0),
  (23, .anewarray 21, [36], 153), (26, .putfield 23, [10, 2], 422), (29, .aload_n 0, [], 0), (30, .bipush 24, [], 0), (32, .anewarray 27, [37], 155), (35, .putfield 29, [10, 3], 423),
  (38, .aload_n 0, [], 0), (39, .new 33, [8], 157), (42, .dup, [], 0), (43, .invokespecial 35, [61, 1], 159), (46, .putfield 36, [10, 4], 424), (49, .aload_n 0, [], 0),
  (50, .iconst 4, [], 0), (51, .anewarray 33, [38], 157), (54, .putfield 40, [10, 5], 425), (57, .aload_n 0, [], 0), (58, .new 44, [2], 192), (61, .dup, [], 0),
  (62, .invokespecial 46, [9, 1], 194), (65, .putfield 47, [10, 6], 426), (68, .aload_n 0, [], 0), (69, .new 51, [0], 311), (72, .dup, [], 0), (73, .invokespecial 53, [0, 1], 313),
  (76, .putfield 54, [10, 7], 427), (79, .aload_n 0, [], 0), (80, .new 58, [1], 334), (83, .dup, [], 0), (84, .invokespecial 60, [5, 1], 336), (87, .putfield 61, [10, 8], 428),
  (90, .aload_n 0, [], 0), (91, .new 65, [5], 344), (94, .dup, [], 0), (95, .invokespecial 67, [40, 1], 346), (98, .putfield 68, [10, 9], 429), (101, .aload_n 0, [], 0),
  (102, .new 27, [7], 155), (105, .dup, [], 0), (106, .invokespecial 72, [56, 1], 370), (109, .putfield 73, [10, 10], 430), (112, .aload_n 0, [], 0), (113, .new 9, [3], 149),
  (116, .dup, [], 0), (117, .invokespecial 77, [31, 1], 390), (120, .putfield 78, [10, 11], 431), (123, .aload_n 0, [], 0), (124, .new 9, [3], 149), (127, .dup, [], 0),
  (128, .invokespecial 77, [31, 1], 390), (131, .putfield 82, [10, 12], 432), (134, .aload_n 0, [], 0), (135, .sipush 144, [], 0), (138, .newarray .int, [20], 0), (140, .putfield 85, [10, 13], 433),
  (143, .aload_n 0, [], 0), (144, .sipush 144, [], 0), (147, .newarray .int, [20], 0), (149, .putfield 89, [10, 14], 434), (152, .aload_n 0, [], 0), (153, .iconst 4, [], 0),
  (154, .newarray .int, [20], 0), (156, .putfield 92, [10, 15], 435), (159, .iconst 0, [], 0), (160, .istore_n 1, [], 0), (161, .iload_n 1, [], 0), (162, .aload_n 0, [], 0),
  (163, .getfield 11, [10, 0], 420), (166, .arraylength, [], 0), (167, .if_icmp .ge 22, [90], 0), (170, .aload_n 0, [], 0), (171, .getfield 11, [10, 0], 420), (174, .iload_n 1, [], 0),
  (175, .new 9, [3], 149), (178, .dup, [], 0), (179, .invokespecial 77, [31, 1], 390), (182, .aastore, [], 0), (183, .iinc 1 1, [], 0), (186, .goto (-25), [76], 0),
  (189, .iconst 0, [], 0), (190, .istore_n 1, [], 0), (191, .iload_n 1, [], 0), (192, .aload_n 0, [], 0), (193, .getfield 17, [10, 1], 421), (196, .arraylength, [], 0),
  (197, .if_icmp .ge 22, [106], 0), (200, .aload_n 0, [], 0), (201, .getfield 17, [10, 1], 421), (204, .iload_n 1, [], 0), (205, .new 15, [4], 151), (208, .dup, [], 0),
  (209, .invokespecial 95, [33, 1], 418), (212, .aastore, [], 0), (213, .iinc 1 1, [], 0), (216, .goto (-25), [92], 0), (219, .iconst 0, [], 0), (220, .istore_n 1, [], 0),
  (221, .iload_n 1, [], 0), (222, .aload_n 0, [], 0), (223, .getfield 23, [10, 2], 422), (226, .arraylength, [], 0), (227, .if_icmp .ge 23, [123], 0), (230, .aload_n 0, [], 0),
  (231, .getfield 23, [10, 2], 422), (234, .iload_n 1, [], 0), (235, .new 21, [6], 153), (238, .dup, [], 0), (239, .iconst 0, [], 0), (240, .invokespecial 96, [46, 2], 419),
  (243, .aastore, [], 0), (244, .iinc 1 1, [], 0), (247, .goto (-26), [108], 0), (250, .iconst 0, [], 0), (251, .istore_n 1, [], 0), (252, .iload_n 1, [], 0),
  (253, .aload_n 0, [], 0), (254, .getfield 29, [10, 3], 423), (257, .arraylength, [], 0), (258, .if_icmp .ge 22, [139], 0), (261, .aload_n 0, [], 0), (262, .getfield 29, [10, 3], 423),
  (265, .iload_n 1, [], 0), (266, .new 27, [7], 155), (269, .dup, [], 0), (270, .invokespecial 72, [56, 1], 370), (273, .aastore, [], 0), (274, .iinc 1 1, [], 0),
  (277, .goto (-25), [125], 0), (280, .iconst 0, [], 0), (281, .istore_n 1, [], 0), (282, .iload_n 1, [], 0), (283, .aload_n 0, [], 0), (284, .getfield 40, [10, 5], 425),
  (287, .arraylength, [], 0), (288, .if_icmp .ge 22, [155], 0), (291, .aload_n 0, [], 0), (292, .getfield 40, [10, 5], 425), (295, .iload_n 1, [], 0), (296, .new 33, [8], 157),
  (299, .dup, [], 0), (300, .invokespecial 35, [61, 1], 159), (303, .aastore, [], 0), (304, .iinc 1 1, [], 0), (307, .goto (-25), [141], 0), (310, .return_, [], 0)]
abbrev q_X_init : Nat := 84
def m_X_init : MDt := (⟨"PenThatJumps", "<init>", "()V"⟩, prog_1_method_1_code, 2, none, 10, 10, P_X_init)
/-- PenThatJumps.person(IIZIZ)Z -/
def P_X_person : List IR := [
  (0, .iload_n 1, [], 0), (1, .ifCond .lt 12, [7], 0), (4, .iload_n 1, [], 0), (5, .aload_n 0, [], 0), (6, .getfield 11, [10, 0], 420), (9, .arraylength, [], 0),
  (10, .if_icmp .lt 5, [9], 0), (13, .iconst 0, [], 0), (14, .ireturn, [], 0), (15, .iload_n 2, [], 0), (16, .iconst 0, [], 0), (17, .bipush 9, [], 0),
  (19, .invokestatic 99, [108, 3], 473), (22, .ifCond .eq 15, [19], 0), (25, .iload 4, [], 0), (27, .iconst 0, [], 0), (28, .sipush 511, [], 0), (31, .invokestatic 99, [108, 3], 473),
  (34, .ifCond .ne 5, [21], 0), (37, .iconst 0, [], 0), (38, .ireturn, [], 0), (39, .aload_n 0, [], 0), (40, .getfield 11, [10, 0], 420), (43, .iload_n 1, [], 0),
  (44, .aaload, [], 0), (45, .iload_n 2, [], 0), (46, .iload_n 3, [], 0), (47, .iload 4, [], 0), (49, .iload 5, [], 0), (51, .invokevirtual 103, [32, 5], 476),
  (54, .iconst 1, [], 0), (55, .ireturn, [], 0)]
abbrev q_X_person : Nat := 85
def m_X_person : MDt := (⟨"PenThatJumps", "person", "(IIZIZ)Z"⟩, prog_1_method_2_code, 6, some .boolean, 10, 10, P_X_person)
/-- PenThatJumps.item(I)Z -/
def P_X_item : List IR := [
  (0, .iload_n 1, [], 0), (1, .iconst 0, [], 0), (2, .bipush 8, [], 0), (4, .invokestatic 99, [108, 3], 473), (7, .ifCond .ne 5, [7], 0), (10, .iconst 0, [], 0),
  (11, .ireturn, [], 0), (12, .aload_n 0, [], 0), (13, .getfield 54, [10, 7], 427), (16, .iload_n 1, [], 0), (17, .putfield 107, [0, 3], 323), (20, .iconst 1, [], 0),
  (21, .ireturn, [], 0)]
abbrev q_X_item : Nat := 86
def m_X_item : MDt := (⟨"PenThatJumps", "item", "(I)Z"⟩, prog_1_method_3_code, 2, some .boolean, 10, 10, P_X_item)
/-- PenThatJumps.feed(JJJ)I -/
def P_X_feed : List IR := [
  (0, .aload_n 0, [], 0), (1, .getfield 47, [10, 6], 426), (4, .getfield 111, [2, 0], 281), (7, .lload_n 1, [], 0), (8, .invokevirtual 115, [71, 2], 488), (11, .aload_n 0, [], 0),
  (12, .getfield 47, [10, 6], 426), (15, .getfield 111, [2, 0], 281), (18, .lload_n 3, [], 0), (19, .invokevirtual 115, [71, 2], 488), (22, .aload_n 0, [], 0), (23, .getfield 47, [10, 6], 426),
  (26, .getfield 111, [2, 0], 281), (29, .lload 5, [], 0), (31, .invokevirtual 115, [71, 2], 488), (34, .aload_n 0, [], 0), (35, .getfield 47, [10, 6], 426), (38, .getfield 111, [2, 0], 281),
  (41, .getfield 121, [9, 1], 206), (44, .ireturn, [], 0)]
abbrev q_X_feed : Nat := 87
def m_X_feed : MDt := (⟨"PenThatJumps", "feed", "(JJJ)I"⟩, prog_1_method_4_code, 7, some .int, 10, 10, P_X_feed)
/-- PenThatJumps.plan(I)I -/
def P_X_plan : List IR := [
  (0, .iload_n 1, [], 0), (1, .ifCond .lt 12, [7], 0), (4, .iload_n 1, [], 0), (5, .aload_n 0, [], 0), (6, .getfield 17, [10, 1], 421), (9, .arraylength, [], 0),
  (10, .if_icmp .lt 15, [13], 0), (13, .aload_n 0, [], 0), (14, .getfield 47, [10, 6], 426), (17, .getfield 111, [2, 0], 281), (20, .invokevirtual 124, [70, 1], 496), (23, .iconst (-1), [], 0),
  (24, .ireturn, [], 0), (25, .aload_n 0, [], 0), (26, .getfield 47, [10, 6], 426), (29, .invokevirtual 127, [10, 1], 500), (32, .istore_n 2, [], 0), (33, .aload_n 0, [], 0),
  (34, .getfield 47, [10, 6], 426), (37, .getfield 111, [2, 0], 281), (40, .invokevirtual 124, [70, 1], 496), (43, .iload_n 2, [], 0), (44, .ifCond .ne 19, [31], 0), (47, .aload_n 0, [], 0),
  (48, .getfield 17, [10, 1], 421), (51, .iload_n 1, [], 0), (52, .aaload, [], 0), (53, .aload_n 0, [], 0), (54, .getfield 47, [10, 6], 426), (57, .getfield 131, [2, 1], 283),
  (60, .invokevirtual 135, [35, 2], 660), (63, .iload_n 2, [], 0), (64, .ireturn, [], 0)]
abbrev q_X_plan : Nat := 88
def m_X_plan : MDt := (⟨"PenThatJumps", "plan", "(I)I"⟩, prog_1_method_5_code, 3, some .int, 10, 10, P_X_plan)
/-- PenThatJumps.body()I -/
def P_X_body : List IR := [
  (0, .aload_n 0, [], 0), (1, .getfield 47, [10, 6], 426), (4, .invokevirtual 139, [11, 1], 681), (7, .istore_n 1, [], 0), (8, .aload_n 0, [], 0), (9, .getfield 47, [10, 6], 426),
  (12, .getfield 111, [2, 0], 281), (15, .invokevirtual 124, [70, 1], 496), (18, .iload_n 1, [], 0), (19, .ifCond .ne 20, [17], 0), (22, .aload_n 0, [], 0), (23, .getfield 54, [10, 7], 427),
  (26, .getfield 142, [0, 0], 320), (29, .aload_n 0, [], 0), (30, .getfield 47, [10, 6], 426), (33, .getfield 146, [2, 2], 285), (36, .invokevirtual 149, [52, 2], 733), (39, .iload_n 1, [], 0),
  (40, .ireturn, [], 0)]
abbrev q_X_body : Nat := 89
def m_X_body : MDt := (⟨"PenThatJumps", "body", "()I"⟩, prog_1_method_6_code, 2, some .int, 10, 10, P_X_body)
/-- PenThatJumps.reader(I)I -/
def P_X_reader : List IR := [
  (0, .iload_n 1, [], 0), (1, .ifCond .lt 12, [7], 0), (4, .iload_n 1, [], 0), (5, .aload_n 0, [], 0), (6, .getfield 23, [10, 2], 422), (9, .arraylength, [], 0),
  (10, .if_icmp .lt 15, [13], 0), (13, .aload_n 0, [], 0), (14, .getfield 47, [10, 6], 426), (17, .getfield 111, [2, 0], 281), (20, .invokevirtual 124, [70, 1], 496), (23, .iconst (-1), [], 0),
  (24, .ireturn, [], 0), (25, .aload_n 0, [], 0), (26, .getfield 47, [10, 6], 426), (29, .invokevirtual 152, [12, 1], 757), (32, .istore_n 2, [], 0), (33, .aload_n 0, [], 0),
  (34, .getfield 47, [10, 6], 426), (37, .getfield 111, [2, 0], 281), (40, .invokevirtual 124, [70, 1], 496), (43, .iload_n 2, [], 0), (44, .ifCond .ne 19, [31], 0), (47, .aload_n 0, [], 0),
  (48, .getfield 23, [10, 2], 422), (51, .iload_n 1, [], 0), (52, .aaload, [], 0), (53, .aload_n 0, [], 0), (54, .getfield 47, [10, 6], 426), (57, .getfield 146, [2, 2], 285),
  (60, .invokevirtual 149, [52, 2], 733), (63, .iload_n 2, [], 0), (64, .ireturn, [], 0)]
abbrev q_X_reader : Nat := 90
def m_X_reader : MDt := (⟨"PenThatJumps", "reader", "(I)I"⟩, prog_1_method_7_code, 3, some .int, 10, 10, P_X_reader)
/-- PenThatJumps.question(III)I -/
def P_X_question : List IR := [
  (0, .aload_n 0, [], 0), (1, .iload_n 1, [], 0), (2, .invokevirtual 155, [110, 2], 773), (5, .astore 4, [], 0), (7, .aload 4, [], 0), (9, .ifnonnull 5, [8], 0),
  (12, .iconst (-1), [], 0), (13, .ireturn, [], 0), (14, .iload_n 3, [], 0), (15, .tableswitch 46 0 2 #[25, 32, 39], [22, 10, 14, 18], 0), (40, .aload 4, [], 0), (42, .iload_n 2, [], 0),
  (43, .invokevirtual 159, [36, 2], 777), (46, .ireturn, [], 0), (47, .aload 4, [], 0), (49, .iload_n 2, [], 0), (50, .invokevirtual 163, [37, 2], 778), (53, .ireturn, [], 0),
  (54, .aload 4, [], 0), (56, .iload_n 2, [], 0), (57, .invokevirtual 166, [38, 2], 779), (60, .ireturn, [], 0), (61, .iconst (-1), [], 0), (62, .ireturn, [], 0)]
abbrev q_X_question : Nat := 91
def m_X_question : MDt := (⟨"PenThatJumps", "question", "(III)I"⟩, prog_1_method_8_code, 5, some .int, 10, 10, P_X_question)
/-- PenThatJumps.sit(III)I -/
def P_X_sit : List IR := [
  (0, .aload_n 0, [], 0), (1, .iload_n 1, [], 0), (2, .invokevirtual 169, [109, 2], 784), (5, .astore 4, [], 0), (7, .aload_n 0, [], 0), (8, .iload_n 2, [], 0),
  (9, .invokevirtual 155, [110, 2], 773), (12, .astore 5, [], 0), (14, .aload 4, [], 0), (16, .ifnull 19, [17], 0), (19, .aload 5, [], 0), (21, .ifnull 14, [17], 0),
  (24, .iload_n 3, [], 0), (25, .iconst 0, [], 0), (26, .sipush 9999, [], 0), (29, .invokestatic 99, [108, 3], 473), (32, .ifCond .ne 5, [19], 0), (35, .iconst (-1), [], 0),
  (36, .ireturn, [], 0), (37, .aload_n 0, [], 0), (38, .getfield 36, [10, 4], 424), (41, .getfield 173, [8, 1], 165), (44, .istore 6, [], 0), (46, .iload 6, [], 0),
  (48, .ifCond .lt 13, [30], 0), (51, .iload 6, [], 0), (53, .aload_n 0, [], 0), (54, .getfield 29, [10, 3], 423), (57, .arraylength, [], 0), (58, .if_icmp .lt 5, [32], 0),
  (61, .iconst (-1), [], 0), (62, .ireturn, [], 0), (63, .aload_n 0, [], 0), (64, .getfield 54, [10, 7], 427), (67, .aload 4, [], 0), (69, .aload 5, [], 0),
  (71, .aload_n 0, [], 0), (72, .getfield 85, [10, 13], 433), (75, .invokevirtual 175, [1, 4], 788), (78, .aload_n 0, [], 0), (79, .getfield 29, [10, 3], 423), (82, .iload 6, [], 0),
  (84, .aaload, [], 0), (85, .aload 5, [], 0), (87, .aload_n 0, [], 0), (88, .getfield 54, [10, 7], 427), (91, .getfield 107, [0, 3], 323), (94, .invokevirtual 179, [57, 3], 818),
  (97, .aload_n 0, [], 0), (98, .getfield 29, [10, 3], 423), (101, .iload 6, [], 0), (103, .aaload, [], 0), (104, .iload_n 3, [], 0), (105, .aload_n 0, [], 0),
  (106, .getfield 85, [10, 13], 433), (109, .invokevirtual 183, [58, 3], 823), (112, .aload_n 0, [], 0), (113, .getfield 36, [10, 4], 424), (116, .iload 6, [], 0), (118, .iconst 1, [], 0),
  (119, .iadd, [], 0), (120, .putfield 173, [8, 1], 165), (123, .iload 6, [], 0), (125, .ireturn, [], 0)]
abbrev q_X_sit : Nat := 92
def m_X_sit : MDt := (⟨"PenThatJumps", "sit", "(III)I"⟩, prog_1_method_9_code, 7, some .int, 10, 10, P_X_sit)
/-- PenThatJumps.says(III)I -/
def P_X_says : List IR := [
  (0, .aload_n 0, [], 0), (1, .iload_n 1, [], 0), (2, .invokevirtual 187, [112, 2], 836), (5, .astore 4, [], 0), (7, .aload_n 0, [], 0), (8, .iload_n 2, [], 0),
  (9, .invokevirtual 206, [111, 2], 840), (12, .astore 5, [], 0), (14, .aload 4, [], 0), (16, .ifnull 19, [17], 0), (19, .aload 5, [], 0), (21, .ifnull 14, [17], 0),
  (24, .iload_n 3, [], 0), (25, .bipush (-9), [], 0), (27, .bipush 9, [], 0), (29, .invokestatic 99, [108, 3], 473), (32, .ifCond .ne 5, [19], 0), (35, .iconst (-1), [], 0),
  (36, .ireturn, [], 0), (37, .aload_n 0, [], 0), (38, .getfield 61, [10, 8], 428), (41, .aload 4, [], 0), (43, .invokevirtual 210, [6, 2], 844), (46, .aload_n 0, [], 0),
  (47, .getfield 61, [10, 8], 428), (50, .aload 5, [], 0), (52, .iload_n 3, [], 0), (53, .invokevirtual 214, [8, 3], 862), (56, .ifCond .eq 7, [31], 0), (59, .iconst 1, [], 0),
  (60, .goto 4, [32], 0), (63, .iconst 0, [], 0), (64, .ireturn, [], 0)]
abbrev q_X_says : Nat := 93
def m_X_says : MDt := (⟨"PenThatJumps", "says", "(III)I"⟩, prog_1_method_11_code, 6, some .int, 10, 10, P_X_says)
/-- PenThatJumps.leans(II)I -/
def P_X_leans : List IR := [
  (0, .aload_n 0, [], 0), (1, .iload_n 1, [], 0), (2, .invokevirtual 187, [112, 2], 836), (5, .astore_n 3, [], 0), (6, .aload_n 0, [], 0), (7, .iload_n 2, [], 0),
  (8, .invokevirtual 206, [111, 2], 840), (11, .astore 4, [], 0), (13, .aload_n 3, [], 0), (14, .ifnull 8, [12], 0), (17, .aload 4, [], 0), (19, .ifnonnull 5, [14], 0),
  (22, .iconst (-1), [], 0), (23, .ireturn, [], 0), (24, .aload_n 0, [], 0), (25, .getfield 61, [10, 8], 428), (28, .aload_n 3, [], 0), (29, .invokevirtual 210, [6, 2], 844),
  (32, .iconst 0, [], 0), (33, .istore 5, [], 0), (35, .bipush (-9), [], 0), (37, .istore 6, [], 0), (39, .iload 6, [], 0), (41, .bipush 9, [], 0),
  (43, .if_icmp .gt 35, [41], 0), (46, .aload_n 0, [], 0), (47, .getfield 61, [10, 8], 428), (50, .aload 4, [], 0), (52, .iload 6, [], 0), (54, .invokevirtual 214, [8, 3], 862),
  (57, .ifCond .eq 15, [39], 0), (60, .iload 5, [], 0), (62, .iconst 1, [], 0), (63, .iload 6, [], 0), (65, .bipush 9, [], 0), (67, .iadd, [], 0),
  (68, .ishl, [], 0), (69, .ior, [], 0), (70, .istore 5, [], 0), (72, .iinc 6 1, [], 0), (75, .goto (-36), [22], 0), (78, .iload 5, [], 0),
  (80, .ireturn, [], 0)]
abbrev q_X_leans : Nat := 94
def m_X_leans : MDt := (⟨"PenThatJumps", "leans", "(II)I"⟩, prog_1_method_12_code, 7, some .int, 10, 10, P_X_leans)
/-- PenThatJumps.hits(II)I -/
def P_X_hits : List IR := [
  (0, .aload_n 0, [], 0), (1, .iload_n 1, [], 0), (2, .invokevirtual 187, [112, 2], 836), (5, .astore_n 3, [], 0), (6, .aload_n 3, [], 0), (7, .ifnull 12, [11], 0),
  (10, .iload_n 2, [], 0), (11, .iconst 0, [], 0), (12, .iconst 2, [], 0), (13, .invokestatic 99, [108, 3], 473), (16, .ifCond .ne 5, [13], 0), (19, .iconst (-1), [], 0),
  (20, .ireturn, [], 0), (21, .aload_n 3, [], 0), (22, .iload_n 2, [], 0), (23, .invokevirtual 218, [60, 2], 875), (26, .ifCond .eq 7, [19], 0), (29, .iconst 1, [], 0),
  (30, .goto 4, [20], 0), (33, .iconst 0, [], 0), (34, .ireturn, [], 0)]
abbrev q_X_hits : Nat := 95
def m_X_hits : MDt := (⟨"PenThatJumps", "hits", "(II)I"⟩, prog_1_method_13_code, 4, some .int, 10, 10, P_X_hits)
/-- PenThatJumps.rates(IIIII)I -/
def P_X_rates : List IR := [
  (0, .iload 5, [], 0), (2, .ifCond .lt 25, [14], 0), (5, .iload 5, [], 0), (7, .aload_n 0, [], 0), (8, .getfield 92, [10, 15], 435), (11, .arraylength, [], 0),
  (12, .if_icmp .ge 15, [14], 0), (15, .aload_n 0, [], 0), (16, .iload_n 1, [], 0), (17, .iload_n 2, [], 0), (18, .iload_n 3, [], 0), (19, .iload 4, [], 0),
  (21, .invokevirtual 222, [115, 5], 886), (24, .ifCond .ne 5, [16], 0), (27, .iconst (-1), [], 0), (28, .ireturn, [], 0), (29, .aload_n 0, [], 0), (30, .getfield 92, [10, 15], 435),
  (33, .iload 5, [], 0), (35, .iaload, [], 0), (36, .ireturn, [], 0)]
abbrev q_X_rates : Nat := 96
def m_X_rates : MDt := (⟨"PenThatJumps", "rates", "(IIIII)I"⟩, prog_1_method_14_code, 6, some .int, 10, 10, P_X_rates)
/-- PenThatJumps.tricked(IIII)I -/
def P_X_tricked : List IR := [
  (0, .aload_n 0, [], 0), (1, .iload_n 1, [], 0), (2, .invokevirtual 169, [109, 2], 784), (5, .astore 5, [], 0), (7, .aload_n 0, [], 0), (8, .iload_n 2, [], 0),
  (9, .invokevirtual 155, [110, 2], 773), (12, .astore 6, [], 0), (14, .aload_n 0, [], 0), (15, .iload_n 3, [], 0), (16, .invokevirtual 206, [111, 2], 840), (19, .astore 7, [], 0),
  (21, .aload 5, [], 0), (23, .ifnull 24, [23], 0), (26, .aload 6, [], 0), (28, .ifnull 19, [23], 0), (31, .aload 7, [], 0), (33, .ifnull 14, [23], 0),
  (36, .iload 4, [], 0), (38, .iconst 1, [], 0), (39, .bipush 40, [], 0), (41, .invokestatic 99, [108, 3], 473), (44, .ifCond .ne 5, [25], 0), (47, .iconst (-1), [], 0),
  (48, .ireturn, [], 0), (49, .aload_n 0, [], 0), (50, .getfield 82, [10, 12], 432), (53, .aload 5, [], 0), (55, .getfield 226, [3, 1], 398), (58, .aload 5, [], 0),
  (60, .getfield 229, [3, 2], 401), (63, .aload 5, [], 0), (65, .getfield 233, [3, 3], 404), (68, .iconst 0, [], 0), (69, .invokevirtual 103, [32, 5], 476), (72, .aload_n 0, [], 0),
  (73, .getfield 54, [10, 7], 427), (76, .aload_n 0, [], 0), (77, .getfield 82, [10, 12], 432), (80, .aload 6, [], 0), (82, .aload_n 0, [], 0), (83, .getfield 85, [10, 13], 433),
  (86, .invokevirtual 175, [1, 4], 788), (89, .aload_n 0, [], 0), (90, .getfield 82, [10, 12], 432), (93, .aload 5, [], 0), (95, .getfield 226, [3, 1], 398), (98, .aload 5, [], 0),
  (100, .getfield 229, [3, 2], 401), (103, .aload 5, [], 0), (105, .getfield 233, [3, 3], 404), (108, .iconst 1, [], 0), (109, .invokevirtual 103, [32, 5], 476), (112, .aload_n 0, [], 0),
  (113, .getfield 54, [10, 7], 427), (116, .aload_n 0, [], 0), (117, .getfield 82, [10, 12], 432), (120, .aload 6, [], 0), (122, .aload_n 0, [], 0), (123, .getfield 89, [10, 14], 434),
  (126, .invokevirtual 175, [1, 4], 788), (129, .aload_n 0, [], 0), (130, .getfield 73, [10, 10], 430), (133, .aload 6, [], 0), (135, .aload_n 0, [], 0), (136, .getfield 54, [10, 7], 427),
  (139, .getfield 107, [0, 3], 323), (142, .invokevirtual 179, [57, 3], 818), (145, .iconst 0, [], 0), (146, .istore 8, [], 0), (148, .iconst 0, [], 0), (149, .istore 9, [], 0),
  (151, .iload 9, [], 0), (153, .iload 4, [], 0), (155, .if_icmp .ge 41, [93], 0), (158, .aload_n 0, [], 0), (159, .aload 7, [], 0), (161, .iconst 0, [], 0),
  (162, .iload 9, [], 0), (164, .aload_n 0, [], 0), (165, .getfield 85, [10, 13], 433), (168, .invokevirtual 236, [117, 5], 895), (171, .aload_n 0, [], 0), (172, .aload 7, [], 0),
  (174, .iconst 0, [], 0), (175, .iload 9, [], 0), (177, .aload_n 0, [], 0), (178, .getfield 89, [10, 14], 434), (181, .invokevirtual 236, [117, 5], 895), (184, .if_icmp .eq 6, [91], 0),
  (187, .iinc 8 1, [], 0), (190, .iinc 9 1, [], 0), (193, .goto (-42), [72], 0), (196, .iload 8, [], 0), (198, .ireturn, [], 0)]
abbrev q_X_tricked : Nat := 97
def m_X_tricked : MDt := (⟨"PenThatJumps", "tricked", "(IIII)I"⟩, prog_1_method_15_code, 10, some .int, 10, 10, P_X_tricked)
/-- PenThatJumps.apart(III)I -/
def P_X_apart : List IR := [
  (0, .aload_n 0, [], 0), (1, .iload_n 1, [], 0), (2, .invokevirtual 155, [110, 2], 773), (5, .astore 4, [], 0), (7, .aload 4, [], 0), (9, .ifnull 23, [16], 0),
  (12, .iload_n 2, [], 0), (13, .iconst 0, [], 0), (14, .bipush 9, [], 0), (16, .invokestatic 99, [108, 3], 473), (19, .ifCond .eq 13, [16], 0), (22, .iload_n 3, [], 0),
  (23, .iconst 0, [], 0), (24, .bipush 9, [], 0), (26, .invokestatic 99, [108, 3], 473), (29, .ifCond .ne 5, [18], 0), (32, .iconst (-1), [], 0), (33, .ireturn, [], 0),
  (34, .aload_n 0, [], 0), (35, .aload 4, [], 0), (37, .iload_n 2, [], 0), (38, .invokevirtual 240, [118, 3], 907), (41, .aload_n 0, [], 0), (42, .aload 4, [], 0),
  (44, .iload_n 3, [], 0), (45, .invokevirtual 243, [119, 3], 911), (48, .ireturn, [], 0)]
abbrev q_X_apart : Nat := 98
def m_X_apart : MDt := (⟨"PenThatJumps", "apart", "(III)I"⟩, prog_1_method_16_code, 5, some .int, 10, 10, P_X_apart)
/-- PenThatJumps.same(II)I -/
def P_X_same : List IR := [
  (0, .aload_n 0, [], 0), (1, .iload_n 1, [], 0), (2, .invokevirtual 155, [110, 2], 773), (5, .astore_n 3, [], 0), (6, .aload_n 3, [], 0), (7, .ifnull 13, [11], 0),
  (10, .iload_n 2, [], 0), (11, .iconst 0, [], 0), (12, .bipush 9, [], 0), (14, .invokestatic 99, [108, 3], 473), (17, .ifCond .ne 5, [13], 0), (20, .iconst (-1), [], 0),
  (21, .ireturn, [], 0), (22, .aload_n 0, [], 0), (23, .aload_n 3, [], 0), (24, .iload_n 2, [], 0), (25, .invokevirtual 240, [118, 3], 907), (28, .iconst 0, [], 0),
  (29, .istore 4, [], 0), (31, .iconst 0, [], 0), (32, .istore 5, [], 0), (34, .iload 5, [], 0), (36, .bipush 9, [], 0), (38, .if_icmp .gt 28, [37], 0),
  (41, .aload_n 0, [], 0), (42, .aload_n 3, [], 0), (43, .iload 5, [], 0), (45, .invokevirtual 243, [119, 3], 911), (48, .ifCond .ne 12, [35], 0), (51, .iload 4, [], 0),
  (53, .iconst 1, [], 0), (54, .iload 5, [], 0), (56, .ishl, [], 0), (57, .ior, [], 0), (58, .istore 4, [], 0), (60, .iinc 5 1, [], 0),
  (63, .goto (-29), [21], 0), (66, .iload 4, [], 0), (68, .ireturn, [], 0)]
abbrev q_X_same : Nat := 99
def m_X_same : MDt := (⟨"PenThatJumps", "same", "(II)I"⟩, prog_1_method_17_code, 6, some .int, 10, 10, P_X_same)
/-- PenThatJumps.best(IIII)I -/
def P_X_best : List IR := [
  (0, .aload_n 0, [], 0), (1, .iload_n 1, [], 0), (2, .invokevirtual 155, [110, 2], 773), (5, .astore 5, [], 0), (7, .aload 5, [], 0), (9, .ifnull 33, [21], 0),
  (12, .iload_n 2, [], 0), (13, .iconst 0, [], 0), (14, .bipush 9, [], 0), (16, .invokestatic 99, [108, 3], 473), (19, .ifCond .eq 23, [21], 0), (22, .iload_n 3, [], 0),
  (23, .iconst 1, [], 0), (24, .bipush 99, [], 0), (26, .invokestatic 99, [108, 3], 473), (29, .ifCond .eq 13, [21], 0), (32, .iload 4, [], 0), (34, .iconst 0, [], 0),
  (35, .iconst 2, [], 0), (36, .invokestatic 99, [108, 3], 473), (39, .ifCond .ne 5, [23], 0), (42, .iconst (-1), [], 0), (43, .ireturn, [], 0), (44, .aload_n 0, [], 0),
  (45, .getfield 78, [10, 11], 431), (48, .iload_n 2, [], 0), (49, .iconst 1, [], 0), (50, .iconst 0, [], 0), (51, .iconst 0, [], 0), (52, .invokevirtual 103, [32, 5], 476),
  (55, .aload_n 0, [], 0), (56, .getfield 82, [10, 12], 432), (59, .iload_n 2, [], 0), (60, .iconst 0, [], 0), (61, .iconst 0, [], 0), (62, .iconst 0, [], 0),
  (63, .invokevirtual 103, [32, 5], 476), (66, .aload_n 0, [], 0), (67, .getfield 68, [10, 9], 429), (70, .aload_n 0, [], 0), (71, .getfield 54, [10, 7], 427), (74, .aload 5, [], 0),
  (76, .aload_n 0, [], 0), (77, .getfield 78, [10, 11], 431), (80, .aload_n 0, [], 0), (81, .getfield 82, [10, 12], 432), (84, .invokevirtual 247, [42, 5], 923), (87, .aload_n 0, [], 0),
  (88, .getfield 68, [10, 9], 429), (91, .aload 5, [], 0), (93, .iload_n 3, [], 0), (94, .invokevirtual 251, [43, 3], 938), (97, .iload 4, [], 0), (99, .ifCond .ne 11, [58], 0),
  (102, .aload_n 0, [], 0), (103, .getfield 68, [10, 9], 429), (106, .getfield 254, [5, 2], 353), (109, .ireturn, [], 0), (110, .iload 4, [], 0), (112, .iconst 1, [], 0),
  (113, .if_icmp .ne 13, [65], 0), (116, .aload_n 0, [], 0), (117, .getfield 68, [10, 9], 429), (120, .getfield 257, [5, 3], 355), (123, .goto 10, [68], 0), (126, .aload_n 0, [], 0),
  (127, .getfield 68, [10, 9], 429), (130, .getfield 260, [5, 4], 357), (133, .ireturn, [], 0)]
abbrev q_X_best : Nat := 100
def m_X_best : MDt := (⟨"PenThatJumps", "best", "(IIII)I"⟩, prog_1_method_18_code, 6, some .int, 10, 10, P_X_best)
/-- PenThatJumps.odds(IIII)J -/
def P_X_odds : List IR := [
  (0, .iload_n 1, [], 0), (1, .iconst 1, [], 0), (2, .bipush 9, [], 0), (4, .invokestatic 99, [108, 3], 473), (7, .ifCond .eq 32, [20], 0), (10, .iload_n 2, [], 0),
  (11, .iconst 2, [], 0), (12, .bipush 9, [], 0), (14, .invokestatic 99, [108, 3], 473), (17, .ifCond .eq 22, [20], 0), (20, .iload_n 3, [], 0), (21, .iconst 0, [], 0),
  (22, .iload_n 1, [], 0), (23, .invokestatic 99, [108, 3], 473), (26, .ifCond .eq 13, [20], 0), (29, .iload 4, [], 0), (31, .iconst 0, [], 0), (32, .iconst 1, [], 0),
  (33, .invokestatic 99, [108, 3], 473), (36, .ifCond .ne 7, [22], 0), (39, .ldc2_w 263, [1, 1], 956), (42, .lreturn, [], 0), (43, .lconst 0, [], 0), (44, .lstore 5, [], 0),
  (46, .iload_n 3, [], 0), (47, .istore 7, [], 0), (49, .iload 7, [], 0), (51, .iload_n 1, [], 0), (52, .if_icmp .gt 32, [46], 0), (55, .lload 5, [], 0),
  (57, .iload_n 1, [], 0), (58, .iload 7, [], 0), (60, .invokestatic 265, [121, 2], 957), (63, .iload_n 2, [], 0), (64, .iconst 1, [], 0), (65, .isub, [], 0),
  (66, .i2l, [], 0), (67, .iload_n 1, [], 0), (68, .iload 7, [], 0), (70, .isub, [], 0), (71, .invokestatic 269, [120, 2], 960), (74, .lmul, [], 0),
  (75, .ladd, [], 0), (76, .lstore 5, [], 0), (78, .iinc 7 1, [], 0), (81, .goto (-32), [26], 0), (84, .lload 5, [], 0), (86, .iload_n 2, [], 0),
  (87, .i2l, [], 0), (88, .iload_n 1, [], 0), (89, .invokestatic 269, [120, 2], 960), (92, .iload 4, [], 0), (94, .invokestatic 272, [122, 3], 963), (97, .lreturn, [], 0)]
abbrev q_X_odds : Nat := 101
def m_X_odds : MDt := (⟨"PenThatJumps", "odds", "(IIII)J"⟩, prog_1_method_19_code, 8, some .long, 10, 10, P_X_odds)
/-- PenThatJumps.items(II)I -/
def P_X_items : List IR := [
  (0, .iload_n 1, [], 0), (1, .iconst 2, [], 0), (2, .bipush 9, [], 0), (4, .invokestatic 99, [108, 3], 473), (7, .ifCond .eq 14, [10], 0), (10, .iload_n 2, [], 0),
  (11, .iconst 1, [], 0), (12, .ldc_w 276, [999999999], 973), (15, .invokestatic 99, [108, 3], 473), (18, .ifCond .ne 5, [12], 0), (21, .iconst (-1), [], 0), (22, .ireturn, [], 0),
  (23, .lconst 1, [], 0), (24, .lstore_n 3, [], 0), (25, .iconst 1, [], 0), (26, .istore 5, [], 0), (28, .iload 5, [], 0), (30, .bipush 9, [], 0),
  (32, .if_icmp .gt 24, [33], 0), (35, .lload_n 3, [], 0), (36, .iload_n 1, [], 0), (37, .i2l, [], 0), (38, .lmul, [], 0), (39, .lstore_n 3, [], 0),
  (40, .lload_n 3, [], 0), (41, .iload_n 2, [], 0), (42, .i2l, [], 0), (43, .lcmp, [], 0), (44, .ifCond .lt 6, [31], 0), (47, .iload 5, [], 0),
  (49, .ireturn, [], 0), (50, .iinc 5 1, [], 0), (53, .goto (-25), [16], 0), (56, .iconst (-1), [], 0), (57, .ireturn, [], 0)]
abbrev q_X_items : Nat := 102
def m_X_items : MDt := (⟨"PenThatJumps", "items", "(II)I"⟩, prog_1_method_20_code, 6, some .int, 10, 10, P_X_items)
/-- PenThatJumps.named(IIIIIII)J -/
def P_X_named : List IR := [
  (0, .iload_n 1, [], 0), (1, .iconst 1, [], 0), (2, .sipush 9999, [], 0), (5, .invokestatic 99, [108, 3], 473), (8, .ifCond .eq 22, [15], 0), (11, .iload_n 2, [], 0),
  (12, .iconst 0, [], 0), (13, .iload_n 1, [], 0), (14, .invokestatic 99, [108, 3], 473), (17, .ifCond .eq 13, [15], 0), (20, .iload 7, [], 0), (22, .iconst 0, [], 0),
  (23, .iconst 1, [], 0), (24, .invokestatic 99, [108, 3], 473), (27, .ifCond .ne 7, [17], 0), (30, .ldc2_w 263, [1, 1], 956), (33, .lreturn, [], 0), (34, .aload_n 0, [], 0),
  (35, .iload_n 3, [], 0), (36, .iload 4, [], 0), (38, .iload 5, [], 0), (40, .iload 6, [], 0), (42, .invokevirtual 222, [115, 5], 886), (45, .ifCond .eq 21, [34], 0),
  (48, .aload_n 0, [], 0), (49, .getfield 92, [10, 15], 435), (52, .iconst 1, [], 0), (53, .iaload, [], 0), (54, .ifCond .eq 12, [34], 0), (57, .aload_n 0, [], 0),
  (58, .getfield 92, [10, 15], 435), (61, .iconst 3, [], 0), (62, .iaload, [], 0), (63, .ifCond .ne 7, [36], 0), (66, .ldc2_w 263, [1, 1], 956), (69, .lreturn, [], 0),
  (70, .iload_n 2, [], 0), (71, .i2l, [], 0), (72, .aload_n 0, [], 0), (73, .getfield 92, [10, 15], 435), (76, .iconst 0, [], 0), (77, .iaload, [], 0),
  (78, .i2l, [], 0), (79, .lmul, [], 0), (80, .aload_n 0, [], 0), (81, .getfield 92, [10, 15], 435), (84, .iconst 3, [], 0), (85, .iaload, [], 0),
  (86, .i2l, [], 0), (87, .lmul, [], 0), (88, .lstore 8, [], 0), (90, .iload_n 1, [], 0), (91, .iload_n 2, [], 0), (92, .isub, [], 0),
  (93, .i2l, [], 0), (94, .aload_n 0, [], 0), (95, .getfield 92, [10, 15], 435), (98, .iconst 2, [], 0), (99, .iaload, [], 0), (100, .i2l, [], 0),
  (101, .lmul, [], 0), (102, .aload_n 0, [], 0), (103, .getfield 92, [10, 15], 435), (106, .iconst 1, [], 0), (107, .iaload, [], 0), (108, .i2l, [], 0),
  (109, .lmul, [], 0), (110, .lstore 10, [], 0), (112, .lload 8, [], 0), (114, .lload 8, [], 0), (116, .lload 10, [], 0), (118, .ladd, [], 0),
  (119, .iload 7, [], 0), (121, .invokestatic 272, [122, 3], 963), (124, .lreturn, [], 0)]
abbrev q_X_named : Nat := 103
def m_X_named : MDt := (⟨"PenThatJumps", "named", "(IIIIIII)J"⟩, prog_1_method_21_code, 12, some .long, 10, 10, P_X_named)
/-- PenThatJumps.confess(ZZZI)Z -/
def P_X_confess : List IR := [
  (0, .iload 4, [], 0), (2, .iconst 0, [], 0), (3, .sipush 9999, [], 0), (6, .invokestatic 99, [108, 3], 473), (9, .ifCond .ne 5, [7], 0), (12, .iconst 0, [], 0),
  (13, .ireturn, [], 0), (14, .aload_n 0, [], 0), (15, .getfield 36, [10, 4], 424), (18, .iload_n 1, [], 0), (19, .iload_n 2, [], 0), (20, .iload_n 3, [], 0),
  (21, .iload 4, [], 0), (23, .invokevirtual 277, [64, 5], 982), (26, .iconst 1, [], 0), (27, .ireturn, [], 0)]
abbrev q_X_confess : Nat := 104
def m_X_confess : MDt := (⟨"PenThatJumps", "confess", "(ZZZI)Z"⟩, prog_1_method_22_code, 5, some .boolean, 10, 10, P_X_confess)
/-- PenThatJumps.paper(ZII)Z -/
def P_X_paper : List IR := [
  (0, .iload_n 2, [], 0), (1, .iconst 1, [], 0), (2, .sipush 9999, [], 0), (5, .invokestatic 99, [108, 3], 473), (8, .ifCond .eq 12, [10], 0), (11, .iload_n 3, [], 0),
  (12, .iconst 0, [], 0), (13, .iload_n 2, [], 0), (14, .invokestatic 99, [108, 3], 473), (17, .ifCond .ne 5, [12], 0), (20, .iconst 0, [], 0), (21, .ireturn, [], 0),
  (22, .aload_n 0, [], 0), (23, .getfield 36, [10, 4], 424), (26, .iload_n 1, [], 0), (27, .iload_n 2, [], 0), (28, .iload_n 3, [], 0), (29, .invokevirtual 289, [68, 4], 993),
  (32, .iconst 1, [], 0), (33, .ireturn, [], 0)]
abbrev q_X_paper : Nat := 105
def m_X_paper : MDt := (⟨"PenThatJumps", "paper", "(ZII)Z"⟩, prog_1_method_24_code, 4, some .boolean, 10, 10, P_X_paper)
/-- PenThatJumps.mark(IZ)Z -/
def P_X_mark : List IR := [
  (0, .iload_n 1, [], 0), (1, .ifCond .lt 12, [7], 0), (4, .iload_n 1, [], 0), (5, .aload_n 0, [], 0), (6, .getfield 40, [10, 5], 425), (9, .arraylength, [], 0),
  (10, .if_icmp .lt 5, [9], 0), (13, .iconst 0, [], 0), (14, .ireturn, [], 0), (15, .aload_n 0, [], 0), (16, .getfield 40, [10, 5], 425), (19, .iload_n 1, [], 0),
  (20, .aaload, [], 0), (21, .astore_n 3, [], 0), (22, .iload_n 2, [], 0), (23, .ifCond .ne 18, [25], 0), (26, .aload_n 3, [], 0), (27, .aload_n 0, [], 0),
  (28, .getfield 36, [10, 4], 424), (31, .invokevirtual 307, [62, 2], 1001), (34, .aload_n 3, [], 0), (35, .iconst 1, [], 0), (36, .putfield 310, [8, 0], 163), (39, .iconst 1, [], 0),
  (40, .ireturn, [], 0), (41, .aload_n 3, [], 0), (42, .getfield 310, [8, 0], 163), (45, .ifCond .eq 17, [34], 0), (48, .aload_n 0, [], 0), (49, .getfield 36, [10, 4], 424),
  (52, .getfield 173, [8, 1], 165), (55, .aload_n 3, [], 0), (56, .getfield 173, [8, 1], 165), (59, .if_icmp .ge 5, [36], 0), (62, .iconst 0, [], 0), (63, .ireturn, [], 0),
  (64, .aload_n 0, [], 0), (65, .getfield 36, [10, 4], 424), (68, .aload_n 3, [], 0), (69, .invokevirtual 307, [62, 2], 1001), (72, .iconst 1, [], 0), (73, .ireturn, [], 0)]
abbrev q_X_mark : Nat := 106
def m_X_mark : MDt := (⟨"PenThatJumps", "mark", "(IZ)Z"⟩, prog_1_method_26_code, 4, some .boolean, 10, 10, P_X_mark)
/-- PenThatJumps.count(I)I -/
def P_X_count : List IR := [
  (0, .iload_n 1, [], 0), (1, .tableswitch 118 0 7 #[47, 53, 58, 66, 72, 80, 96, 107], [39, 2, 6, 9, 13, 17, 21, 29, 34], 0), (48, .aload_n 0, [], 0), (49, .iconst 0, [], 0), (50, .invokevirtual 313, [113, 2], 1009), (53, .ireturn, [], 0),
  (54, .aload_n 0, [], 0), (55, .invokevirtual 317, [114, 1], 1013), (58, .ireturn, [], 0), (59, .aload_n 0, [], 0), (60, .getfield 36, [10, 4], 424), (63, .getfield 173, [8, 1], 165),
  (66, .ireturn, [], 0), (67, .aload_n 0, [], 0), (68, .iconst 1, [], 0), (69, .invokevirtual 313, [113, 2], 1009), (72, .ireturn, [], 0), (73, .aload_n 0, [], 0),
  (74, .getfield 36, [10, 4], 424), (77, .invokevirtual 320, [67, 1], 1017), (80, .ireturn, [], 0), (81, .aload_n 0, [], 0), (82, .getfield 36, [10, 4], 424), (85, .getfield 293, [8, 3], 168),
  (88, .aload_n 0, [], 0), (89, .getfield 36, [10, 4], 424), (92, .getfield 296, [8, 5], 172), (95, .iadd, [], 0), (96, .ireturn, [], 0), (97, .aload_n 0, [], 0),
  (98, .getfield 47, [10, 6], 426), (101, .getfield 111, [2, 0], 281), (104, .getfield 121, [9, 1], 206), (107, .ireturn, [], 0), (108, .aload_n 0, [], 0), (109, .getfield 54, [10, 7], 427),
  (112, .getfield 142, [0, 0], 320), (115, .getfield 323, [6, 2], 261), (118, .ireturn, [], 0), (119, .iconst (-1), [], 0), (120, .ireturn, [], 0)]
abbrev q_X_count : Nat := 107
def m_X_count : MDt := (⟨"PenThatJumps", "count", "(I)I"⟩, prog_1_method_27_code, 2, some .int, 10, 10, P_X_count)
/-- PenThatJumps.within(III)Z -/
def P_X_within : List IR := [
  (0, .iload_n 0, [], 0), (1, .iload_n 1, [], 0), (2, .if_icmp .lt 12, [8], 0), (5, .iload_n 0, [], 0), (6, .iload_n 2, [], 0), (7, .if_icmp .gt 7, [8], 0),
  (10, .iconst 1, [], 0), (11, .goto 4, [9], 0), (14, .iconst 0, [], 0), (15, .ireturn, [], 0)]
abbrev q_X_within : Nat := 108
def m_X_within : MDt := (⟨"PenThatJumps", "within", "(III)Z"⟩, prog_1_method_28_code, 3, some .boolean, 10, 99, P_X_within)
/-- PenThatJumps.toldPerson(I)LPenThatJumps$Person; -/
def P_X_toldPerson : List IR := [
  (0, .iload_n 1, [], 0), (1, .ifCond .lt 24, [13], 0), (4, .iload_n 1, [], 0), (5, .aload_n 0, [], 0), (6, .getfield 11, [10, 0], 420), (9, .arraylength, [], 0),
  (10, .if_icmp .ge 15, [13], 0), (13, .aload_n 0, [], 0), (14, .getfield 11, [10, 0], 420), (17, .iload_n 1, [], 0), (18, .aaload, [], 0), (19, .getfield 326, [3, 0], 395),
  (22, .ifCond .ne 5, [15], 0), (25, .aconst_null, [], 0), (26, .areturn, [], 0), (27, .aload_n 0, [], 0), (28, .getfield 11, [10, 0], 420), (31, .iload_n 1, [], 0),
  (32, .aaload, [], 0), (33, .areturn, [], 0)]
abbrev q_X_toldPerson : Nat := 109
def m_X_toldPerson : MDt := (⟨"PenThatJumps", "toldPerson", "(I)LPenThatJumps$Person;"⟩, prog_1_method_29_code, 2, some (.object "PenThatJumps$Person"), 10, 10, P_X_toldPerson)
/-- PenThatJumps.toldPlan(I)LPenThatJumps$Plan; -/
def P_X_toldPlan : List IR := [
  (0, .iload_n 1, [], 0), (1, .ifCond .lt 24, [13], 0), (4, .iload_n 1, [], 0), (5, .aload_n 0, [], 0), (6, .getfield 17, [10, 1], 421), (9, .arraylength, [], 0),
  (10, .if_icmp .ge 15, [13], 0), (13, .aload_n 0, [], 0), (14, .getfield 17, [10, 1], 421), (17, .iload_n 1, [], 0), (18, .aaload, [], 0), (19, .getfield 194, [4, 3], 240),
  (22, .ifCond .ne 5, [15], 0), (25, .aconst_null, [], 0), (26, .areturn, [], 0), (27, .aload_n 0, [], 0), (28, .getfield 17, [10, 1], 421), (31, .iload_n 1, [], 0),
  (32, .aaload, [], 0), (33, .areturn, [], 0)]
abbrev q_X_toldPlan : Nat := 110
def m_X_toldPlan : MDt := (⟨"PenThatJumps", "toldPlan", "(I)LPenThatJumps$Plan;"⟩, prog_1_method_30_code, 2, some (.object "PenThatJumps$Plan"), 10, 10, P_X_toldPlan)
/-- PenThatJumps.readerOf(I)LPenThatJumps$Program; -/
def P_X_readerOf : List IR := [
  (0, .iload_n 1, [], 0), (1, .ifCond .lt 12, [7], 0), (4, .iload_n 1, [], 0), (5, .aload_n 0, [], 0), (6, .getfield 23, [10, 2], 422), (9, .arraylength, [], 0),
  (10, .if_icmp .lt 5, [9], 0), (13, .aconst_null, [], 0), (14, .areturn, [], 0), (15, .aload_n 0, [], 0), (16, .getfield 23, [10, 2], 422), (19, .iload_n 1, [], 0),
  (20, .aaload, [], 0), (21, .areturn, [], 0)]
abbrev q_X_readerOf : Nat := 111
def m_X_readerOf : MDt := (⟨"PenThatJumps", "readerOf", "(I)LPenThatJumps$Program;"⟩, prog_1_method_31_code, 2, some (.object "PenThatJumps$Program"), 10, 10, P_X_readerOf)
/-- PenThatJumps.keptSitting(I)LPenThatJumps$Sitting; -/
def P_X_keptSitting : List IR := [
  (0, .iload_n 1, [], 0), (1, .ifCond .lt 23, [12], 0), (4, .iload_n 1, [], 0), (5, .aload_n 0, [], 0), (6, .getfield 29, [10, 3], 423), (9, .arraylength, [], 0),
  (10, .if_icmp .ge 14, [12], 0), (13, .iload_n 1, [], 0), (14, .aload_n 0, [], 0), (15, .getfield 36, [10, 4], 424), (18, .getfield 173, [8, 1], 165), (21, .if_icmp .lt 5, [14], 0),
  (24, .aconst_null, [], 0), (25, .areturn, [], 0), (26, .aload_n 0, [], 0), (27, .getfield 29, [10, 3], 423), (30, .iload_n 1, [], 0), (31, .aaload, [], 0),
  (32, .areturn, [], 0)]
abbrev q_X_keptSitting : Nat := 112
def m_X_keptSitting : MDt := (⟨"PenThatJumps", "keptSitting", "(I)LPenThatJumps$Sitting;"⟩, prog_1_method_32_code, 2, some (.object "PenThatJumps$Sitting"), 10, 10, P_X_keptSitting)
/-- PenThatJumps.countPersons(Z)I -/
def P_X_countPersons : List IR := [
  (0, .iconst 0, [], 0), (1, .istore_n 2, [], 0), (2, .iconst 0, [], 0), (3, .istore_n 3, [], 0), (4, .iload_n 3, [], 0), (5, .aload_n 0, [], 0),
  (6, .getfield 11, [10, 0], 420), (9, .arraylength, [], 0), (10, .if_icmp .ge 40, [26], 0), (13, .aload_n 0, [], 0), (14, .getfield 11, [10, 0], 420), (17, .iload_n 3, [], 0),
  (18, .aaload, [], 0), (19, .getfield 326, [3, 0], 395), (22, .ifCond .eq 22, [24], 0), (25, .aload_n 0, [], 0), (26, .getfield 11, [10, 0], 420), (29, .iload_n 3, [], 0),
  (30, .aaload, [], 0), (31, .getfield 229, [3, 2], 401), (34, .ifCond .ne 7, [23], 0), (37, .iload_n 1, [], 0), (38, .ifCond .ne 6, [24], 0), (41, .iinc 2 1, [], 0),
  (44, .iinc 3 1, [], 0), (47, .goto (-43), [4], 0), (50, .iload_n 2, [], 0), (51, .ireturn, [], 0)]
abbrev q_X_countPersons : Nat := 113
def m_X_countPersons : MDt := (⟨"PenThatJumps", "countPersons", "(Z)I"⟩, prog_1_method_33_code, 4, some .int, 10, 10, P_X_countPersons)
/-- PenThatJumps.countPlans()I -/
def P_X_countPlans : List IR := [
  (0, .iconst 0, [], 0), (1, .istore_n 1, [], 0), (2, .iconst 0, [], 0), (3, .istore_n 2, [], 0), (4, .iload_n 2, [], 0), (5, .aload_n 0, [], 0),
  (6, .getfield 17, [10, 1], 421), (9, .arraylength, [], 0), (10, .if_icmp .ge 24, [18], 0), (13, .aload_n 0, [], 0), (14, .getfield 17, [10, 1], 421), (17, .iload_n 2, [], 0),
  (18, .aaload, [], 0), (19, .getfield 194, [4, 3], 240), (22, .ifCond .le 6, [16], 0), (25, .iinc 1 1, [], 0), (28, .iinc 2 1, [], 0), (31, .goto (-27), [4], 0),
  (34, .iload_n 1, [], 0), (35, .ireturn, [], 0)]
abbrev q_X_countPlans : Nat := 114
def m_X_countPlans : MDt := (⟨"PenThatJumps", "countPlans", "()I"⟩, prog_1_method_34_code, 3, some .int, 10, 10, P_X_countPlans)
/-- PenThatJumps.rated(IIII)Z -/
def P_X_rated : List IR := [
  (0, .aload_n 0, [], 0), (1, .iload_n 1, [], 0), (2, .invokevirtual 155, [110, 2], 773), (5, .astore 5, [], 0), (7, .aload_n 0, [], 0), (8, .iload_n 2, [], 0),
  (9, .invokevirtual 206, [111, 2], 840), (12, .astore 6, [], 0), (14, .aload 5, [], 0), (16, .ifnull 8, [12], 0), (19, .aload 6, [], 0), (21, .ifnonnull 5, [14], 0),
  (24, .iconst 0, [], 0), (25, .ireturn, [], 0), (26, .iload_n 3, [], 0), (27, .bipush (-9), [], 0), (29, .bipush 9, [], 0), (31, .invokestatic 99, [108, 3], 473),
  (34, .ifCond .eq 14, [24], 0), (37, .iload 4, [], 0), (39, .iconst 1, [], 0), (40, .bipush 40, [], 0), (42, .invokestatic 99, [108, 3], 473), (45, .ifCond .ne 5, [26], 0),
  (48, .iconst 0, [], 0), (49, .ireturn, [], 0), (50, .aload_n 0, [], 0), (51, .getfield 92, [10, 15], 435), (54, .iconst 0, [], 0), (55, .invokestatic 329, [207, 2], 890),
  (58, .aload_n 0, [], 0), (59, .getfield 73, [10, 10], 430), (62, .aload 5, [], 0), (64, .aload_n 0, [], 0), (65, .getfield 54, [10, 7], 427), (68, .getfield 107, [0, 3], 323),
  (71, .invokevirtual 179, [57, 3], 818), (74, .iconst 0, [], 0), (75, .istore 7, [], 0), (77, .iload 7, [], 0), (79, .aload_n 0, [], 0), (80, .getfield 11, [10, 0], 420),
  (83, .arraylength, [], 0), (84, .if_icmp .ge 69, [76], 0), (87, .aload_n 0, [], 0), (88, .getfield 11, [10, 0], 420), (91, .iload 7, [], 0), (93, .aaload, [], 0),
  (94, .getfield 326, [3, 0], 395), (97, .ifCond .eq 50, [74], 0), (100, .aload_n 0, [], 0), (101, .getfield 54, [10, 7], 427), (104, .aload_n 0, [], 0), (105, .getfield 11, [10, 0], 420),
  (108, .iload 7, [], 0), (110, .aaload, [], 0), (111, .aload 5, [], 0), (113, .aload_n 0, [], 0), (114, .getfield 85, [10, 13], 433), (117, .invokevirtual 175, [1, 4], 788),
  (120, .aload_n 0, [], 0), (121, .aload 6, [], 0), (123, .iload_n 3, [], 0), (124, .iload 4, [], 0), (126, .aload_n 0, [], 0), (127, .getfield 11, [10, 0], 420),
  (130, .iload 7, [], 0), (132, .aaload, [], 0), (133, .getfield 229, [3, 2], 401), (136, .ifCond .eq 7, [72], 0), (139, .iconst 0, [], 0), (140, .goto 4, [73], 0),
  (143, .iconst 2, [], 0), (144, .invokevirtual 334, [116, 5], 891), (147, .iinc 7 1, [], 0), (150, .goto (-73), [39], 0), (153, .iconst 1, [], 0), (154, .ireturn, [], 0)]
abbrev q_X_rated : Nat := 115
def m_X_rated : MDt := (⟨"PenThatJumps", "rated", "(IIII)Z"⟩, prog_1_method_35_code, 8, some .boolean, 10, 10, P_X_rated)
/-- PenThatJumps.addRates(LPenThatJumps$Program;III)V -/
def P_X_addRates : List IR := [
  (0, .iload 4, [], 0), (2, .ifCond .lt 15, [9], 0), (5, .iload 4, [], 0), (7, .iconst 1, [], 0), (8, .iadd, [], 0), (9, .aload_n 0, [], 0),
  (10, .getfield 92, [10, 15], 435), (13, .arraylength, [], 0), (14, .if_icmp .lt 4, [10], 0), (17, .return_, [], 0), (18, .iconst 0, [], 0), (19, .istore 5, [], 0),
  (21, .iload 5, [], 0), (23, .iload_n 3, [], 0), (24, .if_icmp .ge 35, [33], 0), (27, .aload_n 0, [], 0), (28, .aload_n 1, [], 0), (29, .iload_n 2, [], 0),
  (30, .iload 5, [], 0), (32, .aload_n 0, [], 0), (33, .getfield 85, [10, 13], 433), (36, .invokevirtual 236, [117, 5], 895), (39, .ifCond .eq 14, [31], 0), (42, .aload_n 0, [], 0),
  (43, .getfield 92, [10, 15], 435), (46, .iload 4, [], 0), (48, .dup2, [], 0), (49, .iaload, [], 0), (50, .iconst 1, [], 0), (51, .iadd, [], 0),
  (52, .iastore, [], 0), (53, .iinc 5 1, [], 0), (56, .goto (-35), [12], 0), (59, .aload_n 0, [], 0), (60, .getfield 92, [10, 15], 435), (63, .iload 4, [], 0),
  (65, .iconst 1, [], 0), (66, .iadd, [], 0), (67, .dup2, [], 0), (68, .iaload, [], 0), (69, .iload_n 3, [], 0), (70, .iadd, [], 0),
  (71, .iastore, [], 0), (72, .return_, [], 0)]
abbrev q_X_addRates : Nat := 116
def m_X_addRates : MDt := (⟨"PenThatJumps", "addRates", "(LPenThatJumps$Program;III)V"⟩, prog_1_method_36_code, 6, none, 10, 10, P_X_addRates)
/-- PenThatJumps.tried(LPenThatJumps$Program;II[I)Z -/
def P_X_tried : List IR := [
  (0, .aload_n 0, [], 0), (1, .getfield 73, [10, 10], 430), (4, .iload_n 3, [], 0), (5, .aload 4, [], 0), (7, .invokevirtual 183, [58, 3], 823), (10, .aload_n 0, [], 0),
  (11, .getfield 61, [10, 8], 428), (14, .aload_n 0, [], 0), (15, .getfield 73, [10, 10], 430), (18, .invokevirtual 210, [6, 2], 844), (21, .aload_n 0, [], 0), (22, .getfield 61, [10, 8], 428),
  (25, .aload_n 1, [], 0), (26, .iload_n 2, [], 0), (27, .invokevirtual 214, [8, 3], 862), (30, .ireturn, [], 0)]
abbrev q_X_tried : Nat := 117
def m_X_tried : MDt := (⟨"PenThatJumps", "tried", "(LPenThatJumps$Program;II[I)Z"⟩, prog_1_method_37_code, 5, some .boolean, 10, 10, P_X_tried)
/-- PenThatJumps.seatDoer(LPenThatJumps$Plan;I)V -/
def P_X_seatDoer : List IR := [
  (0, .aload_n 0, [], 0), (1, .getfield 78, [10, 11], 431), (4, .iload_n 2, [], 0), (5, .iconst 1, [], 0), (6, .iconst 0, [], 0), (7, .iconst 0, [], 0),
  (8, .invokevirtual 103, [32, 5], 476), (11, .aload_n 0, [], 0), (12, .getfield 54, [10, 7], 427), (15, .aload_n 0, [], 0), (16, .getfield 78, [10, 11], 431), (19, .aload_n 1, [], 0),
  (20, .aload_n 0, [], 0), (21, .getfield 85, [10, 13], 433), (24, .invokevirtual 175, [1, 4], 788), (27, .return_, [], 0)]
abbrev q_X_seatDoer : Nat := 118
def m_X_seatDoer : MDt := (⟨"PenThatJumps", "seatDoer", "(LPenThatJumps$Plan;I)V"⟩, prog_1_method_38_code, 3, none, 10, 10, P_X_seatDoer)
/-- PenThatJumps.unlikeDoer(LPenThatJumps$Plan;I)I -/
def P_X_unlikeDoer : List IR := [
  (0, .aload_n 0, [], 0), (1, .getfield 82, [10, 12], 432), (4, .iload_n 2, [], 0), (5, .iconst 0, [], 0), (6, .iconst 0, [], 0), (7, .iconst 0, [], 0),
  (8, .invokevirtual 103, [32, 5], 476), (11, .aload_n 0, [], 0), (12, .getfield 54, [10, 7], 427), (15, .aload_n 0, [], 0), (16, .getfield 82, [10, 12], 432), (19, .aload_n 1, [], 0),
  (20, .aload_n 0, [], 0), (21, .getfield 89, [10, 14], 434), (24, .invokevirtual 175, [1, 4], 788), (27, .aload_n 1, [], 0), (28, .getfield 194, [4, 3], 240), (31, .iconst 3, [], 0),
  (32, .imul, [], 0), (33, .iconst 4, [], 0), (34, .imul, [], 0), (35, .istore_n 3, [], 0), (36, .iconst 0, [], 0), (37, .istore 4, [], 0),
  (39, .iconst 0, [], 0), (40, .istore 5, [], 0), (42, .iload 5, [], 0), (44, .iload_n 3, [], 0), (45, .if_icmp .ge 49, [51], 0), (48, .iload 5, [], 0),
  (50, .aload_n 0, [], 0), (51, .getfield 85, [10, 13], 433), (54, .arraylength, [], 0), (55, .if_icmp .ge 39, [51], 0), (58, .iload 5, [], 0), (60, .aload_n 0, [], 0),
  (61, .getfield 89, [10, 14], 434), (64, .arraylength, [], 0), (65, .if_icmp .ge 29, [51], 0), (68, .aload_n 0, [], 0), (69, .getfield 85, [10, 13], 433), (72, .iload 5, [], 0),
  (74, .iaload, [], 0), (75, .aload_n 0, [], 0), (76, .getfield 89, [10, 14], 434), (79, .iload 5, [], 0), (81, .iaload, [], 0), (82, .if_icmp .eq 6, [49], 0),
  (85, .iinc 4 1, [], 0), (88, .iinc 5 1, [], 0), (91, .goto (-49), [26], 0), (94, .iload 4, [], 0), (96, .ireturn, [], 0)]
abbrev q_X_unlikeDoer : Nat := 119
def m_X_unlikeDoer : MDt := (⟨"PenThatJumps", "unlikeDoer", "(LPenThatJumps$Plan;I)I"⟩, prog_1_method_39_code, 6, some .int, 10, 10, P_X_unlikeDoer)
/-- PenThatJumps.power(JI)J -/
def P_X_power : List IR := [
  (0, .lconst 1, [], 0), (1, .lstore_n 3, [], 0), (2, .iconst 0, [], 0), (3, .istore 5, [], 0), (5, .iload 5, [], 0), (7, .iload_n 2, [], 0),
  (8, .if_icmp .ge 13, [13], 0), (11, .lload_n 3, [], 0), (12, .lload_n 0, [], 0), (13, .lmul, [], 0), (14, .lstore_n 3, [], 0), (15, .iinc 5 1, [], 0),
  (18, .goto (-13), [4], 0), (21, .lload_n 3, [], 0), (22, .lreturn, [], 0)]
abbrev q_X_power : Nat := 120
def m_X_power : MDt := (⟨"PenThatJumps", "power", "(JI)J"⟩, prog_1_method_40_code, 6, some .long, 10, 99, P_X_power)
/-- PenThatJumps.choices(II)J -/
def P_X_choices : List IR := [
  (0, .lconst 1, [], 0), (1, .lstore_n 2, [], 0), (2, .iconst 1, [], 0), (3, .istore 4, [], 0), (5, .iload 4, [], 0), (7, .iload_n 1, [], 0),
  (8, .if_icmp .gt 23, [21], 0), (11, .lload_n 2, [], 0), (12, .iload_n 0, [], 0), (13, .iload_n 1, [], 0), (14, .isub, [], 0), (15, .iload 4, [], 0),
  (17, .iadd, [], 0), (18, .i2l, [], 0), (19, .lmul, [], 0), (20, .iload 4, [], 0), (22, .i2l, [], 0), (23, .ldiv, [], 0),
  (24, .lstore_n 2, [], 0), (25, .iinc 4 1, [], 0), (28, .goto (-23), [4], 0), (31, .lload_n 2, [], 0), (32, .lreturn, [], 0)]
abbrev q_X_choices : Nat := 121
def m_X_choices : MDt := (⟨"PenThatJumps", "choices", "(II)J"⟩, prog_1_method_41_code, 5, some .long, 10, 99, P_X_choices)
/-- PenThatJumps.lowest(JJI)J -/
def P_X_lowest : List IR := [
  (0, .lload_n 2, [], 0), (1, .lconst 0, [], 0), (2, .lcmp, [], 0), (3, .ifCond .gt 7, [7], 0), (6, .iload 4, [], 0), (8, .i2l, [], 0),
  (9, .lreturn, [], 0), (10, .lload_n 0, [], 0), (11, .lconst 0, [], 0), (12, .lcmp, [], 0), (13, .ifCond .ge 8, [14], 0), (16, .lload_n 0, [], 0),
  (17, .lneg, [], 0), (18, .goto 4, [15], 0), (21, .lload_n 0, [], 0), (22, .lload_n 2, [], 0), (23, .invokestatic 338, [123, 2], 966), (26, .lstore 5, [], 0),
  (28, .lload 5, [], 0), (30, .lconst 0, [], 0), (31, .lcmp, [], 0), (32, .ifCond .gt 7, [24], 0), (35, .ldc2_w 263, [1, 1], 956), (38, .lreturn, [], 0),
  (39, .iload 4, [], 0), (41, .ifCond .ne 10, [30], 0), (44, .lload_n 0, [], 0), (45, .lload 5, [], 0), (47, .ldiv, [], 0), (48, .goto 7, [33], 0),
  (51, .lload_n 2, [], 0), (52, .lload 5, [], 0), (54, .ldiv, [], 0), (55, .lreturn, [], 0)]
abbrev q_X_lowest : Nat := 122
def m_X_lowest : MDt := (⟨"PenThatJumps", "lowest", "(JJI)J"⟩, prog_1_method_42_code, 7, some .long, 10, 99, P_X_lowest)
/-- PenThatJumps.commonDivisor(JJ)J -/
def P_X_commonDivisor : List IR := [
  (0, .lload_n 0, [], 0), (1, .lstore 4, [], 0), (3, .lload_n 2, [], 0), (4, .lstore 6, [], 0), (6, .iconst 0, [], 0), (7, .istore 8, [], 0),
  (9, .iload 8, [], 0), (11, .sipush 200, [], 0), (14, .if_icmp .ge 31, [23], 0), (17, .lload 6, [], 0), (19, .lconst 0, [], 0), (20, .lcmp, [], 0),
  (21, .ifCond .eq 24, [23], 0), (24, .lload 4, [], 0), (26, .lload 6, [], 0), (28, .lrem, [], 0), (29, .lstore 9, [], 0), (31, .lload 6, [], 0),
  (33, .lstore 4, [], 0), (35, .lload 9, [], 0), (37, .lstore 6, [], 0), (39, .iinc 8 1, [], 0), (42, .goto (-33), [6], 0), (45, .lload 4, [], 0),
  (47, .lreturn, [], 0)]
abbrev q_X_commonDivisor : Nat := 123
def m_X_commonDivisor : MDt := (⟨"PenThatJumps", "commonDivisor", "(JJ)J"⟩, prog_1_method_43_code, 11, some .long, 10, 99, P_X_commonDivisor)
/-- PenThatJumpsModel.thrown()I -/
def P_M_thrown : List IR := [
  (0, .aload_n 0, [], 0), (1, .getfield 1, [11, 0], 1162), (4, .ireturn, [], 0)]
abbrev q_M_thrown : Nat := 124
def m_M_thrown : MDt := (⟨"PenThatJumpsModel", "thrown", "()I"⟩, prog_14_method_1_code, 1, some .int, 11, 11, P_M_thrown)
/-- PenThatJumpsModel.feed(JJJ)I -/
def P_M_feed : List IR := [
  (0, .aload_n 0, [], 0), (1, .iconst 0, [], 0), (2, .putfield 1, [11, 0], 1162), (5, .aload_n 0, [], 0), (6, .lload_n 1, [], 0), (7, .invokevirtual 7, [126, 2], 1129),
  (10, .aload_n 0, [], 0), (11, .lload_n 3, [], 0), (12, .invokevirtual 7, [126, 2], 1129), (15, .aload_n 0, [], 0), (16, .lload 5, [], 0), (18, .invokevirtual 7, [126, 2], 1129),
  (21, .aload_n 0, [], 0), (22, .getfield 11, [11, 2], 1164), (25, .ireturn, [], 0)]
abbrev q_M_feed : Nat := 125
def m_M_feed : MDt := (⟨"PenThatJumpsModel", "feed", "(JJJ)I"⟩, prog_14_method_2_code, 7, some .int, 11, 11, P_M_feed)
/-- PenThatJumpsModel.lay(J)V -/
def P_M_lay : List IR := [
  (0, .bipush 56, [], 0), (2, .istore_n 3, [], 0), (3, .iload_n 3, [], 0), (4, .ifCond .lt 71, [38], 0), (7, .lload_n 1, [], 0), (8, .iload_n 3, [], 0),
  (9, .lshr, [], 0), (10, .l2i, [], 0), (11, .sipush 255, [], 0), (14, .iand, [], 0), (15, .istore 4, [], 0), (17, .iload 4, [], 0),
  (19, .bipush 10, [], 0), (21, .if_icmp .eq 17, [20], 0), (24, .iload 4, [], 0), (26, .bipush 32, [], 0), (28, .if_icmp .lt 41, [36], 0), (31, .iload 4, [], 0),
  (33, .bipush 126, [], 0), (35, .if_icmp .gt 34, [36], 0), (38, .aload_n 0, [], 0), (39, .getfield 11, [11, 2], 1164), (42, .sipush 1000, [], 0), (45, .if_icmp .ge 24, [36], 0),
  (48, .aload_n 0, [], 0), (49, .getfield 14, [11, 1], 1163), (52, .aload_n 0, [], 0), (53, .getfield 11, [11, 2], 1164), (56, .iload 4, [], 0), (58, .iastore, [], 0),
  (59, .aload_n 0, [], 0), (60, .dup, [], 0), (61, .getfield 11, [11, 2], 1164), (64, .iconst 1, [], 0), (65, .iadd, [], 0), (66, .putfield 11, [11, 2], 1164),
  (69, .iinc 3 (-8), [], 0), (72, .goto (-69), [2], 0), (75, .return_, [], 0)]
abbrev q_M_lay : Nat := 126
def m_M_lay : MDt := (⟨"PenThatJumpsModel", "lay", "(J)V"⟩, prog_14_method_3_code, 5, none, 11, 11, P_M_lay)
/-- PenThatJumpsModel.<init>()V -/
def P_M_init : List IR := [
  (0, .aload_n 0, [], 0), (1, .invokespecial 18, [301, 1], 1138), (4, .aload_n 0, [], 0), (5, .sipush 1000, [], 0), (8, .newarray .int, [20], 0), (10, .putfield 14, [11, 1], 1163),
  (13, .aload_n 0, [], 0), (14, .sipush 1002, [], 0), (17, .newarray .int, [20], 0), (19, .putfield 24, [11, 4], 1166), (22, .aload_n 0, [], 0), (23, .sipush 1002, [], 0),
  (26, .newarray .int, [20], 0), (28, .putfield 27, [11, 5], 1167), (31, .aload_n 0, [], 0), (32, .sipush 1002, [], 0), (35, .newarray .long, [23], 0), (37, .putfield 30, [11, 6], 1168),
  (40, .aload_n 0, [], 0), (41, .bipush 23, [], 0), (43, .newarray .long, [23], 0), (45, .dup, [], 0), (46, .iconst 0, [], 0), (47, .ldc2_w 34, [2083], 1139),
  (50, .lastore, [], 0), (51, .dup, [], 0), (52, .iconst 1, [], 0), (53, .ldc2_w 36, [8787], 1140), (56, .lastore, [], 0), (57, .dup, [], 0),
  (58, .iconst 2, [], 0), (59, .ldc2_w 38, [620680], 1141), (62, .lastore, [], 0), (63, .dup, [], 0), (64, .iconst 3, [], 0), (65, .ldc2_w 40, [964720], 1142),
  (68, .lastore, [], 0), (69, .dup, [], 0), (70, .iconst 4, [], 0), (71, .ldc2_w 42, [1176170], 1143), (74, .lastore, [], 0), (75, .dup, [], 0),
  (76, .iconst 5, [], 0), (77, .ldc2_w 44, [1891], 1144), (80, .lastore, [], 0), (81, .dup, [], 0), (82, .bipush 6, [], 0), (84, .ldc2_w 46, [573], 1145),
  (87, .lastore, [], 0), (88, .dup, [], 0), (89, .bipush 7, [], 0), (91, .ldc2_w 48, [19741], 1146), (94, .lastore, [], 0), (95, .dup, [], 0),
  (96, .bipush 8, [], 0), (98, .ldc2_w 50, [30596128], 1147), (101, .lastore, [], 0), (102, .dup, [], 0), (103, .bipush 9, [], 0), (105, .ldc2_w 52, [49306098923], 1148),
  (108, .lastore, [], 0), (109, .dup, [], 0), (110, .bipush 10, [], 0), (112, .ldc2_w 54, [2851816], 1149), (115, .lastore, [], 0), (116, .dup, [], 0),
  (117, .bipush 11, [], 0), (119, .ldc2_w 56, [21346313], 1150), (122, .lastore, [], 0), (123, .dup, [], 0), (124, .bipush 12, [], 0), (126, .ldc2_w 58, [918648], 1151),
  (129, .lastore, [], 0), (130, .dup, [], 0), (131, .bipush 13, [], 0), (133, .ldc2_w 60, [15248592], 1152), (136, .lastore, [], 0), (137, .dup, [], 0),
  (138, .bipush 14, [], 0), (140, .ldc2_w 62, [310818], 1153), (143, .lastore, [], 0), (144, .dup, [], 0), (145, .bipush 15, [], 0), (147, .ldc2_w 64, [223670], 1154),
  (150, .lastore, [], 0), (151, .dup, [], 0), (152, .bipush 16, [], 0), (154, .ldc2_w 66, [38407417], 1155), (157, .lastore, [], 0), (158, .dup, [], 0),
  (159, .bipush 17, [], 0), (161, .ldc2_w 68, [15047032], 1156), (164, .lastore, [], 0), (165, .dup, [], 0), (166, .bipush 18, [], 0), (168, .ldc2_w 70, [30595897], 1157),
  (171, .lastore, [], 0), (172, .dup, [], 0), (173, .bipush 19, [], 0), (175, .ldc2_w 72, [27011078], 1158), (178, .lastore, [], 0), (179, .dup, [], 0),
  (180, .bipush 20, [], 0), (182, .ldc2_w 74, [316688], 1159), (185, .lastore, [], 0), (186, .dup, [], 0), (187, .bipush 21, [], 0), (189, .ldc2_w 76, [77090], 1160),
  (192, .lastore, [], 0), (193, .dup, [], 0), (194, .bipush 22, [], 0), (196, .ldc2_w 78, [1078055329], 1161), (199, .lastore, [], 0), (200, .putfield 80, [11, 9], 1171),
  (203, .aload_n 0, [], 0), (204, .bipush 8, [], 0), (206, .newarray .boolean, [22], 0), (208, .putfield 83, [11, 10], 1172), (211, .aload_n 0, [], 0), (212, .bipush 8, [], 0),
  (214, .newarray .int, [20], 0), (216, .putfield 87, [11, 11], 1173), (219, .aload_n 0, [], 0), (220, .bipush 8, [], 0), (222, .newarray .boolean, [22], 0), (224, .putfield 90, [11, 12], 1174),
  (227, .aload_n 0, [], 0), (228, .bipush 8, [], 0), (230, .newarray .int, [20], 0), (232, .putfield 93, [11, 13], 1175), (235, .aload_n 0, [], 0), (236, .bipush 8, [], 0),
  (238, .newarray .boolean, [22], 0), (240, .putfield 96, [11, 14], 1176), (243, .aload_n 0, [], 0), (244, .iconst 5, [], 0), (245, .newarray .int, [20], 0), (247, .putfield 99, [11, 16], 1178),
  (250, .aload_n 0, [], 0), (251, .bipush 60, [], 0), (253, .newarray .int, [20], 0), (255, .putfield 102, [11, 17], 1179), (258, .aload_n 0, [], 0), (259, .bipush 60, [], 0),
  (261, .newarray .int, [20], 0), (263, .putfield 105, [11, 18], 1180), (266, .aload_n 0, [], 0), (267, .bipush 60, [], 0), (269, .newarray .int, [20], 0), (271, .putfield 108, [11, 19], 1181),
  (274, .aload_n 0, [], 0), (275, .sipush 6600, [], 0), (278, .newarray .int, [20], 0), (280, .putfield 111, [11, 22], 1184), (283, .aload_n 0, [], 0), (284, .sipush 6600, [], 0),
  (287, .newarray .int, [20], 0), (289, .putfield 114, [11, 23], 1185), (292, .aload_n 0, [], 0), (293, .iconst 3, [], 0), (294, .newarray .int, [20], 0), (296, .putfield 117, [11, 24], 1186),
  (299, .aload_n 0, [], 0), (300, .iconst 3, [], 0), (301, .newarray .int, [20], 0), (303, .putfield 120, [11, 25], 1187), (306, .aload_n 0, [], 0), (307, .iconst 5, [], 0),
  (308, .newarray .int, [20], 0), (310, .putfield 123, [11, 26], 1188), (313, .aload_n 0, [], 0), (314, .bipush 30, [], 0), (316, .newarray .int, [20], 0), (318, .putfield 126, [11, 27], 1189),
  (321, .aload_n 0, [], 0), (322, .bipush 20, [], 0), (324, .newarray .int, [20], 0), (326, .putfield 129, [11, 28], 1190), (329, .aload_n 0, [], 0), (330, .sipush 1100, [], 0),
  (333, .newarray .int, [20], 0), (335, .putfield 132, [11, 29], 1191), (338, .aload_n 0, [], 0), (339, .bipush 25, [], 0), (341, .newarray .int, [20], 0), (343, .putfield 135, [11, 31], 1193),
  (346, .aload_n 0, [], 0), (347, .bipush 25, [], 0), (349, .newarray .int, [20], 0), (351, .putfield 138, [11, 32], 1194), (354, .aload_n 0, [], 0), (355, .sipush 300, [], 0),
  (358, .newarray .int, [20], 0), (360, .putfield 141, [11, 33], 1195), (363, .aload_n 0, [], 0), (364, .sipush 300, [], 0), (367, .newarray .int, [20], 0), (369, .putfield 144, [11, 34], 1196),
  (372, .aload_n 0, [], 0), (373, .sipush 900, [], 0), (376, .newarray .int, [20], 0), (378, .putfield 147, [11, 35], 1197), (381, .aload_n 0, [], 0), (382, .iconst 4, [], 0),
  (383, .newarray .int, [20], 0), (385, .putfield 150, [11, 36], 1198), (388, .aload_n 0, [], 0), (389, .iconst 4, [], 0), (390, .newarray .int, [20], 0), (392, .putfield 153, [11, 37], 1199),
  (395, .aload_n 0, [], 0), (396, .bipush 8, [], 0), (398, .newarray .long, [23], 0), (400, .putfield 156, [11, 38], 1200), (403, .aload_n 0, [], 0), (404, .iconst 4, [], 0),
  (405, .newarray .long, [23], 0), (407, .putfield 159, [11, 39], 1201), (410, .aload_n 0, [], 0), (411, .iconst 4, [], 0), (412, .newarray .boolean, [22], 0), (414, .putfield 162, [11, 40], 1202),
  (417, .aload_n 0, [], 0), (418, .iconst 4, [], 0), (419, .newarray .int, [20], 0), (421, .putfield 165, [11, 41], 1203), (424, .aload_n 0, [], 0), (425, .bipush 48, [], 0),
  (427, .newarray .long, [23], 0), (429, .putfield 168, [11, 42], 1204), (432, .iconst 0, [], 0), (433, .istore_n 1, [], 0), (434, .iload_n 1, [], 0), (435, .iconst 3, [], 0),
  (436, .if_icmp .ge 16, [242], 0), (439, .aload_n 0, [], 0), (440, .getfield 117, [11, 24], 1186), (443, .iload_n 1, [], 0), (444, .iconst (-1), [], 0), (445, .iastore, [], 0),
  (446, .iinc 1 1, [], 0), (449, .goto (-15), [232], 0), (452, .return_, [], 0)]
abbrev q_M_init : Nat := 127
def m_M_init : MDt := (⟨"PenThatJumpsModel", "<init>", "()V"⟩, prog_14_method_4_code, 2, none, 11, 11, P_M_init)
/-- PenThatJumpsModel.isLetter(I)Z -/
def P_M_isLetter : List IR := [
  (0, .iload_n 0, [], 0), (1, .bipush 97, [], 0), (3, .if_icmp .lt 13, [8], 0), (6, .iload_n 0, [], 0), (7, .bipush 122, [], 0), (9, .if_icmp .gt 7, [8], 0),
  (12, .iconst 1, [], 0), (13, .goto 4, [9], 0), (16, .iconst 0, [], 0), (17, .ireturn, [], 0)]
abbrev q_M_isLetter : Nat := 128
def m_M_isLetter : MDt := (⟨"PenThatJumpsModel", "isLetter", "(I)Z"⟩, prog_14_method_5_code, 1, some .boolean, 11, 99, P_M_isLetter)
/-- PenThatJumpsModel.isDigit(I)Z -/
def P_M_isDigit : List IR := [
  (0, .iload_n 0, [], 0), (1, .bipush 48, [], 0), (3, .if_icmp .lt 13, [8], 0), (6, .iload_n 0, [], 0), (7, .bipush 57, [], 0), (9, .if_icmp .gt 7, [8], 0),
  (12, .iconst 1, [], 0), (13, .goto 4, [9], 0), (16, .iconst 0, [], 0), (17, .ireturn, [], 0)]
abbrev q_M_isDigit : Nat := 129
def m_M_isDigit : MDt := (⟨"PenThatJumpsModel", "isDigit", "(I)Z"⟩, prog_14_method_6_code, 1, some .boolean, 11, 99, P_M_isDigit)
/-- PenThatJumpsModel.rank(I)I -/
def P_M_rank : List IR := [
  (0, .iload_n 0, [], 0), (1, .invokestatic 171, [128, 1], 1313), (4, .ifCond .eq 10, [7], 0), (7, .iload_n 0, [], 0), (8, .bipush 96, [], 0), (10, .isub, [], 0),
  (11, .goto 7, [10], 0), (14, .iload_n 0, [], 0), (15, .bipush 21, [], 0), (17, .isub, [], 0), (18, .ireturn, [], 0)]
abbrev q_M_rank : Nat := 130
def m_M_rank : MDt := (⟨"PenThatJumpsModel", "rank", "(I)I"⟩, prog_14_method_7_code, 1, some .int, 11, 99, P_M_rank)
/-- PenThatJumpsModel.isSignOf(I)Z -/
def P_M_isSignOf : List IR := [
  (0, .iload_n 0, [], 0), (1, .bipush 40, [], 0), (3, .if_icmp .eq 45, [24], 0), (6, .iload_n 0, [], 0), (7, .bipush 41, [], 0), (9, .if_icmp .eq 39, [24], 0),
  (12, .iload_n 0, [], 0), (13, .bipush 59, [], 0), (15, .if_icmp .eq 33, [24], 0), (18, .iload_n 0, [], 0), (19, .bipush 61, [], 0), (21, .if_icmp .eq 27, [24], 0),
  (24, .iload_n 0, [], 0), (25, .bipush 60, [], 0), (27, .if_icmp .eq 21, [24], 0), (30, .iload_n 0, [], 0), (31, .bipush 43, [], 0), (33, .if_icmp .eq 15, [24], 0),
  (36, .iload_n 0, [], 0), (37, .bipush 45, [], 0), (39, .if_icmp .eq 9, [24], 0), (42, .iload_n 0, [], 0), (43, .bipush 42, [], 0), (45, .if_icmp .ne 7, [26], 0),
  (48, .iconst 1, [], 0), (49, .goto 4, [27], 0), (52, .iconst 0, [], 0), (53, .ireturn, [], 0)]
abbrev q_M_isSignOf : Nat := 131
def m_M_isSignOf : MDt := (⟨"PenThatJumpsModel", "isSignOf", "(I)Z"⟩, prog_14_method_8_code, 1, some .boolean, 11, 99, P_M_isSignOf)
/-- PenThatJumpsModel.cutAll()V -/
def P_M_cutAll : List IR := [
  (0, .aload_n 0, [], 0), (1, .aload_n 0, [], 0), (2, .getfield 11, [11, 2], 1164), (5, .putfield 175, [11, 3], 1165), (8, .aload_n 0, [], 0), (9, .iconst 0, [], 0),
  (10, .putfield 11, [11, 2], 1164), (13, .iconst 0, [], 0), (14, .istore_n 1, [], 0), (15, .iconst 0, [], 0), (16, .istore_n 2, [], 0), (17, .iload_n 2, [], 0),
  (18, .aload_n 0, [], 0), (19, .getfield 175, [11, 3], 1165), (22, .if_icmp .ge 257, [151], 0), (25, .aload_n 0, [], 0), (26, .getfield 14, [11, 1], 1163), (29, .iload_n 2, [], 0),
  (30, .iaload, [], 0), (31, .istore_n 3, [], 0), (32, .iload_n 3, [], 0), (33, .bipush 10, [], 0), (35, .if_icmp .eq 9, [26], 0), (38, .iload_n 3, [], 0),
  (39, .bipush 32, [], 0), (41, .if_icmp .ne 9, [28], 0), (44, .iinc 2 1, [], 0), (47, .goto (-30), [11], 0), (50, .iload_n 2, [], 0), (51, .istore 4, [], 0),
  (53, .lconst 0, [], 0), (54, .lstore 5, [], 0), (56, .aload_n 0, [], 0), (57, .getfield 27, [11, 5], 1167), (60, .iload_n 1, [], 0), (61, .iload_n 2, [], 0),
  (62, .iastore, [], 0), (63, .iload_n 3, [], 0), (64, .invokestatic 171, [128, 1], 1313), (67, .ifCond .eq 85, [83], 0), (70, .iload_n 2, [], 0), (71, .aload_n 0, [], 0),
  (72, .getfield 175, [11, 3], 1165), (75, .if_icmp .ge 54, [70], 0), (78, .aload_n 0, [], 0), (79, .getfield 14, [11, 1], 1163), (82, .iload_n 2, [], 0), (83, .iaload, [], 0),
  (84, .invokestatic 171, [128, 1], 1313), (87, .ifCond .eq 42, [70], 0), (90, .iload_n 2, [], 0), (91, .iload 4, [], 0), (93, .isub, [], 0), (94, .bipush 8, [], 0),
  (96, .if_icmp .ge 23, [66], 0), (99, .ldc2_w 178, [37], 1316), (102, .lload 5, [], 0), (104, .lmul, [], 0), (105, .aload_n 0, [], 0), (106, .getfield 14, [11, 1], 1163),
  (109, .iload_n 2, [], 0), (110, .iaload, [], 0), (111, .invokestatic 180, [130, 1], 1317), (114, .i2l, [], 0), (115, .ladd, [], 0), (116, .goto 5, [67], 0),
  (119, .lload 5, [], 0), (121, .lstore 5, [], 0), (123, .iinc 2 1, [], 0), (126, .goto (-56), [40], 0), (129, .aload_n 0, [], 0), (130, .getfield 24, [11, 4], 1166),
  (133, .iload_n 1, [], 0), (134, .iload_n 2, [], 0), (135, .iload 4, [], 0), (137, .isub, [], 0), (138, .bipush 8, [], 0), (140, .if_icmp .le 7, [80], 0),
  (143, .iconst 4, [], 0), (144, .goto 4, [81], 0), (147, .iconst 1, [], 0), (148, .iastore, [], 0), (149, .goto 116, [144], 0), (152, .iload_n 3, [], 0),
  (153, .invokestatic 184, [129, 1], 1320), (156, .ifCond .eq 84, [130], 0), (159, .iload_n 2, [], 0), (160, .aload_n 0, [], 0), (161, .getfield 175, [11, 3], 1165), (164, .if_icmp .ge 54, [117], 0),
  (167, .aload_n 0, [], 0), (168, .getfield 14, [11, 1], 1163), (171, .iload_n 2, [], 0), (172, .iaload, [], 0), (173, .invokestatic 184, [129, 1], 1320), (176, .ifCond .eq 42, [117], 0),
  (179, .iload_n 2, [], 0), (180, .iload 4, [], 0), (182, .isub, [], 0), (183, .iconst 4, [], 0), (184, .if_icmp .ge 24, [113], 0), (187, .ldc2_w 187, [10], 1323),
  (190, .lload 5, [], 0), (192, .lmul, [], 0), (193, .aload_n 0, [], 0), (194, .getfield 14, [11, 1], 1163), (197, .iload_n 2, [], 0), (198, .iaload, [], 0),
  (199, .i2l, [], 0), (200, .ladd, [], 0), (201, .ldc2_w 189, [48], 1324), (204, .lsub, [], 0), (205, .goto 5, [114], 0), (208, .lload 5, [], 0),
  (210, .lstore 5, [], 0), (212, .iinc 2 1, [], 0), (215, .goto (-56), [86], 0), (218, .aload_n 0, [], 0), (219, .getfield 24, [11, 4], 1166), (222, .iload_n 1, [], 0),
  (223, .iload_n 2, [], 0), (224, .iload 4, [], 0), (226, .isub, [], 0), (227, .iconst 4, [], 0), (228, .if_icmp .le 7, [127], 0), (231, .iconst 4, [], 0),
  (232, .goto 4, [128], 0), (235, .iconst 2, [], 0), (236, .iastore, [], 0), (237, .goto 28, [144], 0), (240, .iload_n 3, [], 0), (241, .i2l, [], 0),
  (242, .lstore 5, [], 0), (244, .aload_n 0, [], 0), (245, .getfield 24, [11, 4], 1166), (248, .iload_n 1, [], 0), (249, .iload_n 3, [], 0), (250, .invokestatic 191, [131, 1], 1325),
  (253, .ifCond .eq 7, [141], 0), (256, .iconst 3, [], 0), (257, .goto 4, [142], 0), (260, .iconst 4, [], 0), (261, .iastore, [], 0), (262, .iinc 2 1, [], 0),
  (265, .aload_n 0, [], 0), (266, .getfield 30, [11, 6], 1168), (269, .iload_n 1, [], 0), (270, .lload 5, [], 0), (272, .lastore, [], 0), (273, .iinc 1 1, [], 0),
  (276, .goto (-259), [11], 0), (279, .aload_n 0, [], 0), (280, .getfield 24, [11, 4], 1166), (283, .iload_n 1, [], 0), (284, .iconst 0, [], 0), (285, .iastore, [], 0),
  (286, .aload_n 0, [], 0), (287, .getfield 27, [11, 5], 1167), (290, .iload_n 1, [], 0), (291, .aload_n 0, [], 0), (292, .getfield 175, [11, 3], 1165), (295, .iastore, [], 0),
  (296, .aload_n 0, [], 0), (297, .iconst 0, [], 0), (298, .putfield 194, [11, 7], 1169), (301, .aload_n 0, [], 0), (302, .iconst 0, [], 0), (303, .putfield 197, [11, 8], 1170),
  (306, .return_, [], 0)]
abbrev q_M_cutAll : Nat := 132
def m_M_cutAll : MDt := (⟨"PenThatJumpsModel", "cutAll", "()V"⟩, prog_14_method_9_code, 7, none, 11, 11, P_M_cutAll)
/-- PenThatJumpsModel.wrong(I)V -/
def P_M_wrong : List IR := [
  (0, .aload_n 0, [], 0), (1, .getfield 197, [11, 8], 1170), (4, .ifCond .ne 21, [14], 0), (7, .aload_n 0, [], 0), (8, .iload_n 1, [], 0), (9, .bipush 16, [], 0),
  (11, .aload_n 0, [], 0), (12, .getfield 27, [11, 5], 1167), (15, .aload_n 0, [], 0), (16, .getfield 194, [11, 7], 1169), (19, .iaload, [], 0), (20, .imul, [], 0),
  (21, .iadd, [], 0), (22, .putfield 197, [11, 8], 1170), (25, .return_, [], 0)]
abbrev q_M_wrong : Nat := 133
def m_M_wrong : MDt := (⟨"PenThatJumpsModel", "wrong", "(I)V"⟩, prog_14_method_10_code, 2, none, 11, 11, P_M_wrong)
/-- PenThatJumpsModel.isSign(I)Z -/
def P_M_isSign : List IR := [
  (0, .aload_n 0, [], 0), (1, .getfield 197, [11, 8], 1170), (4, .ifCond .ne 35, [21], 0), (7, .aload_n 0, [], 0), (8, .getfield 24, [11, 4], 1166), (11, .aload_n 0, [], 0),
  (12, .getfield 194, [11, 7], 1169), (15, .iaload, [], 0), (16, .iconst 3, [], 0), (17, .if_icmp .ne 22, [21], 0), (20, .aload_n 0, [], 0), (21, .getfield 30, [11, 6], 1168),
  (24, .aload_n 0, [], 0), (25, .getfield 194, [11, 7], 1169), (28, .laload, [], 0), (29, .iload_n 1, [], 0), (30, .i2l, [], 0), (31, .lcmp, [], 0),
  (32, .ifCond .ne 7, [21], 0), (35, .iconst 1, [], 0), (36, .goto 4, [22], 0), (39, .iconst 0, [], 0), (40, .ireturn, [], 0)]
abbrev q_M_isSign : Nat := 134
def m_M_isSign : MDt := (⟨"PenThatJumpsModel", "isSign", "(I)Z"⟩, prog_14_method_11_code, 2, some .boolean, 11, 11, P_M_isSign)
/-- PenThatJumpsModel.isWord(I)Z -/
def P_M_isWord : List IR := [
  (0, .aload_n 0, [], 0), (1, .getfield 197, [11, 8], 1170), (4, .ifCond .ne 39, [23], 0), (7, .aload_n 0, [], 0), (8, .getfield 24, [11, 4], 1166), (11, .aload_n 0, [], 0),
  (12, .getfield 194, [11, 7], 1169), (15, .iaload, [], 0), (16, .iconst 1, [], 0), (17, .if_icmp .ne 26, [23], 0), (20, .aload_n 0, [], 0), (21, .getfield 30, [11, 6], 1168),
  (24, .aload_n 0, [], 0), (25, .getfield 194, [11, 7], 1169), (28, .laload, [], 0), (29, .aload_n 0, [], 0), (30, .getfield 80, [11, 9], 1171), (33, .iload_n 1, [], 0),
  (34, .laload, [], 0), (35, .lcmp, [], 0), (36, .ifCond .ne 7, [23], 0), (39, .iconst 1, [], 0), (40, .goto 4, [24], 0), (43, .iconst 0, [], 0),
  (44, .ireturn, [], 0)]
abbrev q_M_isWord : Nat := 135
def m_M_isWord : MDt := (⟨"PenThatJumpsModel", "isWord", "(I)Z"⟩, prog_14_method_12_code, 2, some .boolean, 11, 11, P_M_isWord)
/-- PenThatJumpsModel.takeSign(I)V -/
def P_M_takeSign : List IR := [
  (0, .aload_n 0, [], 0), (1, .iload_n 1, [], 0), (2, .invokevirtual 200, [134, 2], 1352), (5, .ifCond .eq 16, [11], 0), (8, .aload_n 0, [], 0), (9, .dup, [], 0),
  (10, .getfield 194, [11, 7], 1169), (13, .iconst 1, [], 0), (14, .iadd, [], 0), (15, .putfield 194, [11, 7], 1169), (18, .goto 8, [14], 0), (21, .aload_n 0, [], 0),
  (22, .iconst 1, [], 0), (23, .invokevirtual 203, [133, 2], 1336), (26, .return_, [], 0)]
abbrev q_M_takeSign : Nat := 136
def m_M_takeSign : MDt := (⟨"PenThatJumpsModel", "takeSign", "(I)V"⟩, prog_14_method_13_code, 2, none, 11, 11, P_M_takeSign)
/-- PenThatJumpsModel.hasSign(I)Z -/
def P_M_hasSign : List IR := [
  (0, .aload_n 0, [], 0), (1, .iload_n 1, [], 0), (2, .invokevirtual 200, [134, 2], 1352), (5, .istore_n 2, [], 0), (6, .aload_n 0, [], 0), (7, .dup, [], 0),
  (8, .getfield 194, [11, 7], 1169), (11, .iload_n 2, [], 0), (12, .ifCond .eq 7, [11], 0), (15, .iconst 1, [], 0), (16, .goto 4, [12], 0), (19, .iconst 0, [], 0),
  (20, .iadd, [], 0), (21, .putfield 194, [11, 7], 1169), (24, .iload_n 2, [], 0), (25, .ireturn, [], 0)]
abbrev q_M_hasSign : Nat := 137
def m_M_hasSign : MDt := (⟨"PenThatJumpsModel", "hasSign", "(I)Z"⟩, prog_14_method_14_code, 3, some .boolean, 11, 11, P_M_hasSign)
/-- PenThatJumpsModel.hasWord(I)Z -/
def P_M_hasWord : List IR := [
  (0, .aload_n 0, [], 0), (1, .iload_n 1, [], 0), (2, .invokevirtual 207, [135, 2], 1332), (5, .istore_n 2, [], 0), (6, .aload_n 0, [], 0), (7, .dup, [], 0),
  (8, .getfield 194, [11, 7], 1169), (11, .iload_n 2, [], 0), (12, .ifCond .eq 7, [11], 0), (15, .iconst 1, [], 0), (16, .goto 4, [12], 0), (19, .iconst 0, [], 0),
  (20, .iadd, [], 0), (21, .putfield 194, [11, 7], 1169), (24, .iload_n 2, [], 0), (25, .ireturn, [], 0)]
abbrev q_M_hasWord : Nat := 138
def m_M_hasWord : MDt := (⟨"PenThatJumpsModel", "hasWord", "(I)Z"⟩, prog_14_method_15_code, 3, some .boolean, 11, 11, P_M_hasWord)
/-- PenThatJumpsModel.takeWord(I)V -/
def P_M_takeWord : List IR := [
  (0, .aload_n 0, [], 0), (1, .iload_n 1, [], 0), (2, .invokevirtual 210, [138, 2], 1344), (5, .ifCond .ne 8, [7], 0), (8, .aload_n 0, [], 0), (9, .iconst 1, [], 0),
  (10, .invokevirtual 203, [133, 2], 1336), (13, .return_, [], 0)]
abbrev q_M_takeWord : Nat := 139
def m_M_takeWord : MDt := (⟨"PenThatJumpsModel", "takeWord", "(I)V"⟩, prog_14_method_16_code, 2, none, 11, 11, P_M_takeWord)
/-- PenThatJumpsModel.within(III)Z -/
def P_M_within : List IR := [
  (0, .iload_n 0, [], 0), (1, .iload_n 1, [], 0), (2, .if_icmp .lt 12, [8], 0), (5, .iload_n 0, [], 0), (6, .iload_n 2, [], 0), (7, .if_icmp .gt 7, [8], 0),
  (10, .iconst 1, [], 0), (11, .goto 4, [9], 0), (14, .iconst 0, [], 0), (15, .ireturn, [], 0)]
abbrev q_M_within : Nat := 140
def m_M_within : MDt := (⟨"PenThatJumpsModel", "within", "(III)Z"⟩, prog_14_method_17_code, 3, some .boolean, 11, 99, P_M_within)
/-- PenThatJumpsModel.person(IIZIZ)Z -/
def P_M_person : List IR := [
  (0, .aload_n 0, [], 0), (1, .iconst 0, [], 0), (2, .putfield 1, [11, 0], 1162), (5, .iload_n 1, [], 0), (6, .iconst 0, [], 0), (7, .bipush 7, [], 0),
  (9, .invokestatic 213, [140, 3], 1298), (12, .ifCond .eq 25, [18], 0), (15, .iload_n 2, [], 0), (16, .iconst 0, [], 0), (17, .bipush 9, [], 0), (19, .invokestatic 213, [140, 3], 1298),
  (22, .ifCond .eq 15, [18], 0), (25, .iload 4, [], 0), (27, .iconst 0, [], 0), (28, .sipush 511, [], 0), (31, .invokestatic 213, [140, 3], 1298), (34, .ifCond .ne 5, [20], 0),
  (37, .iconst 0, [], 0), (38, .ireturn, [], 0), (39, .aload_n 0, [], 0), (40, .getfield 83, [11, 10], 1172), (43, .iload_n 1, [], 0), (44, .iconst 1, [], 0),
  (45, .bastore, [], 0), (46, .aload_n 0, [], 0), (47, .getfield 87, [11, 11], 1173), (50, .iload_n 1, [], 0), (51, .iload_n 2, [], 0), (52, .iastore, [], 0),
  (53, .aload_n 0, [], 0), (54, .getfield 90, [11, 12], 1174), (57, .iload_n 1, [], 0), (58, .iload_n 3, [], 0), (59, .bastore, [], 0), (60, .aload_n 0, [], 0),
  (61, .getfield 93, [11, 13], 1175), (64, .iload_n 1, [], 0), (65, .iload 4, [], 0), (67, .iastore, [], 0), (68, .aload_n 0, [], 0), (69, .getfield 96, [11, 14], 1176),
  (72, .iload_n 1, [], 0), (73, .iload 5, [], 0), (75, .bastore, [], 0), (76, .iconst 1, [], 0), (77, .ireturn, [], 0)]
abbrev q_M_person : Nat := 141
def m_M_person : MDt := (⟨"PenThatJumpsModel", "person", "(IIZIZ)Z"⟩, prog_14_method_18_code, 6, some .boolean, 11, 11, P_M_person)
/-- PenThatJumpsModel.item(I)Z -/
def P_M_item : List IR := [
  (0, .aload_n 0, [], 0), (1, .iconst 0, [], 0), (2, .putfield 1, [11, 0], 1162), (5, .iload_n 1, [], 0), (6, .iconst 0, [], 0), (7, .bipush 8, [], 0),
  (9, .invokestatic 213, [140, 3], 1298), (12, .ifCond .ne 5, [10], 0), (15, .iconst 0, [], 0), (16, .ireturn, [], 0), (17, .aload_n 0, [], 0), (18, .iload_n 1, [], 0),
  (19, .putfield 217, [11, 15], 1177), (22, .iconst 1, [], 0), (23, .ireturn, [], 0)]
abbrev q_M_item : Nat := 142
def m_M_item : MDt := (⟨"PenThatJumpsModel", "item", "(I)Z"⟩, prog_14_method_19_code, 2, some .boolean, 11, 11, P_M_item)
/-- PenThatJumpsModel.isPerson(I)Z -/
def P_M_isPerson : List IR := [
  (0, .iload_n 1, [], 0), (1, .iconst 0, [], 0), (2, .bipush 7, [], 0), (4, .invokestatic 213, [140, 3], 1298), (7, .ifCond .eq 16, [12], 0), (10, .aload_n 0, [], 0),
  (11, .getfield 83, [11, 10], 1172), (14, .iload_n 1, [], 0), (15, .baload, [], 0), (16, .ifCond .eq 7, [12], 0), (19, .iconst 1, [], 0), (20, .goto 4, [13], 0),
  (23, .iconst 0, [], 0), (24, .ireturn, [], 0)]
abbrev q_M_isPerson : Nat := 143
def m_M_isPerson : MDt := (⟨"PenThatJumpsModel", "isPerson", "(I)Z"⟩, prog_14_method_20_code, 2, some .boolean, 11, 11, P_M_isPerson)
/-- PenThatJumpsModel.takeNumber(II)I -/
def P_M_takeNumber : List IR := [
  (0, .aload_n 0, [], 0), (1, .getfield 197, [11, 8], 1170), (4, .ifCond .ne 24, [14], 0), (7, .aload_n 0, [], 0), (8, .getfield 24, [11, 4], 1166), (11, .aload_n 0, [], 0),
  (12, .getfield 194, [11, 7], 1169), (15, .iaload, [], 0), (16, .iconst 2, [], 0), (17, .if_icmp .eq 11, [14], 0), (20, .aload_n 0, [], 0), (21, .iconst 1, [], 0),
  (22, .invokevirtual 203, [133, 2], 1336), (25, .goto 45, [38], 0), (28, .aload_n 0, [], 0), (29, .getfield 197, [11, 8], 1170), (32, .ifCond .ne 38, [38], 0), (35, .aload_n 0, [], 0),
  (36, .getfield 30, [11, 6], 1168), (39, .aload_n 0, [], 0), (40, .getfield 194, [11, 7], 1169), (43, .laload, [], 0), (44, .iload_n 1, [], 0), (45, .i2l, [], 0),
  (46, .lcmp, [], 0), (47, .ifCond .lt 18, [35], 0), (50, .aload_n 0, [], 0), (51, .getfield 30, [11, 6], 1168), (54, .aload_n 0, [], 0), (55, .getfield 194, [11, 7], 1169),
  (58, .laload, [], 0), (59, .iload_n 2, [], 0), (60, .i2l, [], 0), (61, .lcmp, [], 0), (62, .ifCond .le 8, [38], 0), (65, .aload_n 0, [], 0),
  (66, .iconst 4, [], 0), (67, .invokevirtual 203, [133, 2], 1336), (70, .aload_n 0, [], 0), (71, .getfield 197, [11, 8], 1170), (74, .ifCond .le 5, [43], 0), (77, .iconst 0, [], 0),
  (78, .ireturn, [], 0), (79, .aload_n 0, [], 0), (80, .dup, [], 0), (81, .getfield 194, [11, 7], 1169), (84, .iconst 1, [], 0), (85, .iadd, [], 0),
  (86, .putfield 194, [11, 7], 1169), (89, .aload_n 0, [], 0), (90, .getfield 30, [11, 6], 1168), (93, .aload_n 0, [], 0), (94, .getfield 194, [11, 7], 1169), (97, .iconst 1, [], 0),
  (98, .isub, [], 0), (99, .laload, [], 0), (100, .l2i, [], 0), (101, .ireturn, [], 0)]
abbrev q_M_takeNumber : Nat := 144
def m_M_takeNumber : MDt := (⟨"PenThatJumpsModel", "takeNumber", "(II)I"⟩, prog_14_method_21_code, 3, some .int, 11, 11, P_M_takeNumber)
/-- PenThatJumpsModel.plan(I)I -/
def P_M_plan : List IR := [
  (0, .aload_n 0, [], 0), (1, .iconst 0, [], 0), (2, .putfield 1, [11, 0], 1162), (5, .iload_n 1, [], 0), (6, .iconst 0, [], 0), (7, .iconst 3, [], 0),
  (8, .invokestatic 213, [140, 3], 1298), (11, .ifCond .ne 10, [13], 0), (14, .aload_n 0, [], 0), (15, .iconst 0, [], 0), (16, .putfield 11, [11, 2], 1164), (19, .iconst (-1), [], 0),
  (20, .ireturn, [], 0), (21, .aload_n 0, [], 0), (22, .invokevirtual 220, [132, 1], 1309), (25, .aload_n 0, [], 0), (26, .getfield 99, [11, 16], 1178), (29, .iconst 4, [], 0),
  (30, .iconst 0, [], 0), (31, .iastore, [], 0), (32, .aload_n 0, [], 0), (33, .invokevirtual 223, [146, 1], 1328), (36, .aload_n 0, [], 0), (37, .getfield 197, [11, 8], 1170),
  (40, .ifCond .ne 22, [34], 0), (43, .aload_n 0, [], 0), (44, .getfield 24, [11, 4], 1166), (47, .aload_n 0, [], 0), (48, .getfield 194, [11, 7], 1169), (51, .iaload, [], 0),
  (52, .ifCond .eq 10, [34], 0), (55, .aload_n 0, [], 0), (56, .invokevirtual 223, [146, 1], 1328), (59, .goto (-23), [22], 0), (62, .aload_n 0, [], 0), (63, .getfield 197, [11, 8], 1170),
  (66, .ifCond .le 8, [40], 0), (69, .aload_n 0, [], 0), (70, .getfield 197, [11, 8], 1170), (73, .ireturn, [], 0), (74, .aload_n 0, [], 0), (75, .getfield 99, [11, 16], 1178),
  (78, .iload_n 1, [], 0), (79, .aload_n 0, [], 0), (80, .getfield 99, [11, 16], 1178), (83, .iconst 4, [], 0), (84, .iaload, [], 0), (85, .iastore, [], 0),
  (86, .iconst 0, [], 0), (87, .istore_n 2, [], 0), (88, .iload_n 2, [], 0), (89, .bipush 12, [], 0), (91, .if_icmp .ge 69, [97], 0), (94, .aload_n 0, [], 0),
  (95, .getfield 102, [11, 17], 1179), (98, .bipush 12, [], 0), (100, .iload_n 1, [], 0), (101, .imul, [], 0), (102, .iload_n 2, [], 0), (103, .iadd, [], 0),
  (104, .aload_n 0, [], 0), (105, .getfield 102, [11, 17], 1179), (108, .bipush 48, [], 0), (110, .iload_n 2, [], 0), (111, .iadd, [], 0), (112, .iaload, [], 0),
  (113, .iastore, [], 0), (114, .aload_n 0, [], 0), (115, .getfield 105, [11, 18], 1180), (118, .bipush 12, [], 0), (120, .iload_n 1, [], 0), (121, .imul, [], 0),
  (122, .iload_n 2, [], 0), (123, .iadd, [], 0), (124, .aload_n 0, [], 0), (125, .getfield 105, [11, 18], 1180), (128, .bipush 48, [], 0), (130, .iload_n 2, [], 0),
  (131, .iadd, [], 0), (132, .iaload, [], 0), (133, .iastore, [], 0), (134, .aload_n 0, [], 0), (135, .getfield 108, [11, 19], 1181), (138, .bipush 12, [], 0),
  (140, .iload_n 1, [], 0), (141, .imul, [], 0), (142, .iload_n 2, [], 0), (143, .iadd, [], 0), (144, .aload_n 0, [], 0), (145, .getfield 108, [11, 19], 1181),
  (148, .bipush 48, [], 0), (150, .iload_n 2, [], 0), (151, .iadd, [], 0), (152, .iaload, [], 0), (153, .iastore, [], 0), (154, .iinc 2 1, [], 0),
  (157, .goto (-69), [50], 0), (160, .iconst 0, [], 0), (161, .ireturn, [], 0)]
abbrev q_M_plan : Nat := 145
def m_M_plan : MDt := (⟨"PenThatJumpsModel", "plan", "(I)I"⟩, prog_14_method_22_code, 3, some .int, 11, 11, P_M_plan)
/-- PenThatJumpsModel.readAsk()V -/
def P_M_readAsk : List IR := [
  (0, .aload_n 0, [], 0), (1, .iconst 0, [], 0), (2, .invokevirtual 207, [135, 2], 1332), (5, .ifCond .ne 11, [8], 0), (8, .aload_n 0, [], 0), (9, .iconst 1, [], 0),
  (10, .invokevirtual 203, [133, 2], 1336), (13, .goto 19, [17], 0), (16, .aload_n 0, [], 0), (17, .getfield 99, [11, 16], 1178), (20, .iconst 4, [], 0), (21, .iaload, [], 0),
  (22, .bipush 12, [], 0), (24, .if_icmp .ne 8, [17], 0), (27, .aload_n 0, [], 0), (28, .iconst 5, [], 0), (29, .invokevirtual 203, [133, 2], 1336), (32, .aload_n 0, [], 0),
  (33, .getfield 197, [11, 8], 1170), (36, .ifCond .le 4, [21], 0), (39, .return_, [], 0), (40, .aload_n 0, [], 0), (41, .dup, [], 0), (42, .getfield 194, [11, 7], 1169),
  (45, .iconst 1, [], 0), (46, .iadd, [], 0), (47, .putfield 194, [11, 7], 1169), (50, .iconst (-1), [], 0), (51, .istore_n 1, [], 0), (52, .iconst 0, [], 0),
  (53, .istore_n 2, [], 0), (54, .iload_n 2, [], 0), (55, .iconst 4, [], 0), (56, .if_icmp .ge 26, [46], 0), (59, .aload_n 0, [], 0), (60, .bipush 8, [], 0),
  (62, .iload_n 2, [], 0), (63, .iadd, [], 0), (64, .invokevirtual 207, [135, 2], 1332), (67, .ifCond .eq 7, [42], 0), (70, .iload_n 2, [], 0), (71, .goto 4, [43], 0),
  (74, .iload_n 1, [], 0), (75, .istore_n 1, [], 0), (76, .iinc 2 1, [], 0), (79, .goto (-25), [31], 0), (82, .iload_n 1, [], 0), (83, .ifCond .ge 9, [52], 0),
  (86, .aload_n 0, [], 0), (87, .iconst 1, [], 0), (88, .invokevirtual 203, [133, 2], 1336), (91, .return_, [], 0), (92, .aload_n 0, [], 0), (93, .dup, [], 0),
  (94, .getfield 194, [11, 7], 1169), (97, .iconst 1, [], 0), (98, .iadd, [], 0), (99, .putfield 194, [11, 7], 1169), (102, .bipush 48, [], 0), (104, .aload_n 0, [], 0),
  (105, .getfield 99, [11, 16], 1178), (108, .iconst 4, [], 0), (109, .iaload, [], 0), (110, .iadd, [], 0), (111, .istore_n 2, [], 0), (112, .aload_n 0, [], 0),
  (113, .getfield 102, [11, 17], 1179), (116, .iload_n 2, [], 0), (117, .iload_n 1, [], 0), (118, .iastore, [], 0), (119, .aload_n 0, [], 0), (120, .getfield 105, [11, 18], 1180),
  (123, .iload_n 2, [], 0), (124, .iload_n 1, [], 0), (125, .iconst 3, [], 0), (126, .if_icmp .ne 13, [81], 0), (129, .aload_n 0, [], 0), (130, .iconst 0, [], 0),
  (131, .bipush 8, [], 0), (133, .invokevirtual 226, [144, 3], 1340), (136, .goto 4, [82], 0), (139, .iconst (-1), [], 0), (140, .iastore, [], 0), (141, .aload_n 0, [], 0),
  (142, .getfield 108, [11, 19], 1181), (145, .iload_n 2, [], 0), (146, .aload_n 0, [], 0), (147, .iconst 1, [], 0), (148, .invokevirtual 210, [138, 2], 1344), (151, .ifCond .eq 13, [95], 0),
  (154, .aload_n 0, [], 0), (155, .iconst 1, [], 0), (156, .bipush 9, [], 0), (158, .invokevirtual 226, [144, 3], 1340), (161, .goto 4, [96], 0), (164, .iconst 1, [], 0),
  (165, .iastore, [], 0), (166, .aload_n 0, [], 0), (167, .getfield 99, [11, 16], 1178), (170, .iconst 4, [], 0), (171, .dup2, [], 0), (172, .iaload, [], 0),
  (173, .iconst 1, [], 0), (174, .iadd, [], 0), (175, .iastore, [], 0), (176, .aload_n 0, [], 0), (177, .bipush 59, [], 0), (179, .invokevirtual 230, [136, 2], 1348),
  (182, .return_, [], 0)]
abbrev q_M_readAsk : Nat := 146
def m_M_readAsk : MDt := (⟨"PenThatJumpsModel", "readAsk", "()V"⟩, prog_14_method_23_code, 3, none, 11, 11, P_M_readAsk)
/-- PenThatJumpsModel.isPlan(I)Z -/
def P_M_isPlan : List IR := [
  (0, .iload_n 1, [], 0), (1, .iconst 0, [], 0), (2, .iconst 3, [], 0), (3, .invokestatic 213, [140, 3], 1298), (6, .ifCond .eq 16, [12], 0), (9, .aload_n 0, [], 0),
  (10, .getfield 99, [11, 16], 1178), (13, .iload_n 1, [], 0), (14, .iaload, [], 0), (15, .ifCond .le 7, [12], 0), (18, .iconst 1, [], 0), (19, .goto 4, [13], 0),
  (22, .iconst 0, [], 0), (23, .ireturn, [], 0)]
abbrev q_M_isPlan : Nat := 147
def m_M_isPlan : MDt := (⟨"PenThatJumpsModel", "isPlan", "(I)Z"⟩, prog_14_method_24_code, 2, some .boolean, 11, 11, P_M_isPlan)
/-- PenThatJumpsModel.question(III)I -/
def P_M_question : List IR := [
  (0, .aload_n 0, [], 0), (1, .iconst 0, [], 0), (2, .putfield 1, [11, 0], 1162), (5, .aload_n 0, [], 0), (6, .iload_n 1, [], 0), (7, .invokevirtual 233, [147, 2], 1360),
  (10, .ifCond .eq 28, [22], 0), (13, .iload_n 2, [], 0), (14, .iconst 0, [], 0), (15, .aload_n 0, [], 0), (16, .getfield 99, [11, 16], 1178), (19, .iload_n 1, [], 0),
  (20, .iaload, [], 0), (21, .iconst 1, [], 0), (22, .isub, [], 0), (23, .invokestatic 213, [140, 3], 1298), (26, .ifCond .eq 12, [22], 0), (29, .iload_n 3, [], 0),
  (30, .iconst 0, [], 0), (31, .iconst 2, [], 0), (32, .invokestatic 213, [140, 3], 1298), (35, .ifCond .ne 5, [24], 0), (38, .iconst (-1), [], 0), (39, .ireturn, [], 0),
  (40, .bipush 12, [], 0), (42, .iload_n 1, [], 0), (43, .imul, [], 0), (44, .iload_n 2, [], 0), (45, .iadd, [], 0), (46, .istore 4, [], 0),
  (48, .iload_n 3, [], 0), (49, .ifCond .ne 13, [37], 0), (52, .aload_n 0, [], 0), (53, .getfield 102, [11, 17], 1179), (56, .iload 4, [], 0), (58, .iaload, [], 0),
  (59, .goto 25, [49], 0), (62, .iload_n 3, [], 0), (63, .iconst 1, [], 0), (64, .if_icmp .ne 13, [45], 0), (67, .aload_n 0, [], 0), (68, .getfield 105, [11, 18], 1180),
  (71, .iload 4, [], 0), (73, .iaload, [], 0), (74, .goto 10, [49], 0), (77, .aload_n 0, [], 0), (78, .getfield 108, [11, 19], 1181), (81, .iload 4, [], 0),
  (83, .iaload, [], 0), (84, .ireturn, [], 0)]
abbrev q_M_question : Nat := 148
def m_M_question : MDt := (⟨"PenThatJumpsModel", "question", "(III)I"⟩, prog_14_method_25_code, 5, some .int, 11, 11, P_M_question)
/-- PenThatJumpsModel.emit(II)V -/
def P_M_emit : List IR := [
  (0, .aload_n 0, [], 0), (1, .getfield 111, [11, 22], 1184), (4, .sipush 5500, [], 0), (7, .aload_n 0, [], 0), (8, .getfield 236, [11, 20], 1182), (11, .iadd, [], 0),
  (12, .iload_n 1, [], 0), (13, .iastore, [], 0), (14, .aload_n 0, [], 0), (15, .getfield 114, [11, 23], 1185), (18, .sipush 5500, [], 0), (21, .aload_n 0, [], 0),
  (22, .getfield 236, [11, 20], 1182), (25, .iadd, [], 0), (26, .iload_n 2, [], 0), (27, .iastore, [], 0), (28, .aload_n 0, [], 0), (29, .dup, [], 0),
  (30, .getfield 236, [11, 20], 1182), (33, .iconst 1, [], 0), (34, .iadd, [], 0), (35, .putfield 236, [11, 20], 1182), (38, .return_, [], 0)]
abbrev q_M_emit : Nat := 149
def m_M_emit : MDt := (⟨"PenThatJumpsModel", "emit", "(II)V"⟩, prog_14_method_26_code, 3, none, 11, 11, P_M_emit)
/-- PenThatJumpsModel.keepsCodes(I)V -/
def P_M_keepsCodes : List IR := [
  (0, .iconst 0, [], 0), (1, .istore_n 2, [], 0), (2, .iload_n 2, [], 0), (3, .aload_n 0, [], 0), (4, .getfield 236, [11, 20], 1182), (7, .if_icmp .ge 53, [36], 0),
  (10, .aload_n 0, [], 0), (11, .getfield 111, [11, 22], 1184), (14, .sipush 1100, [], 0), (17, .iload_n 1, [], 0), (18, .imul, [], 0), (19, .iload_n 2, [], 0),
  (20, .iadd, [], 0), (21, .aload_n 0, [], 0), (22, .getfield 111, [11, 22], 1184), (25, .sipush 5500, [], 0), (28, .iload_n 2, [], 0), (29, .iadd, [], 0),
  (30, .iaload, [], 0), (31, .iastore, [], 0), (32, .aload_n 0, [], 0), (33, .getfield 114, [11, 23], 1185), (36, .sipush 1100, [], 0), (39, .iload_n 1, [], 0),
  (40, .imul, [], 0), (41, .iload_n 2, [], 0), (42, .iadd, [], 0), (43, .aload_n 0, [], 0), (44, .getfield 114, [11, 23], 1185), (47, .sipush 5500, [], 0),
  (50, .iload_n 2, [], 0), (51, .iadd, [], 0), (52, .iaload, [], 0), (53, .iastore, [], 0), (54, .iinc 2 1, [], 0), (57, .goto (-55), [2], 0),
  (60, .return_, [], 0)]
abbrev q_M_keepsCodes : Nat := 150
def m_M_keepsCodes : MDt := (⟨"PenThatJumpsModel", "keepsCodes", "(I)V"⟩, prog_14_method_27_code, 3, none, 11, 11, P_M_keepsCodes)
/-- PenThatJumpsModel.body()I -/
def P_M_body : List IR := [
  (0, .aload_n 0, [], 0), (1, .iconst 0, [], 0), (2, .putfield 1, [11, 0], 1162), (5, .aload_n 0, [], 0), (6, .invokevirtual 220, [132, 1], 1309), (9, .aload_n 0, [], 0),
  (10, .iconst 0, [], 0), (11, .putfield 236, [11, 20], 1182), (14, .aload_n 0, [], 0), (15, .iconst 0, [], 0), (16, .putfield 239, [11, 21], 1183), (19, .iconst 0, [], 0),
  (20, .istore_n 1, [], 0), (21, .iload_n 1, [], 0), (22, .iconst 3, [], 0), (23, .if_icmp .ge 16, [23], 0), (26, .aload_n 0, [], 0), (27, .getfield 120, [11, 25], 1187),
  (30, .iload_n 1, [], 0), (31, .iconst (-1), [], 0), (32, .iastore, [], 0), (33, .iinc 1 1, [], 0), (36, .goto (-15), [13], 0), (39, .aload_n 0, [], 0),
  (40, .getfield 197, [11, 8], 1170), (43, .ifCond .ne 116, [86], 0), (46, .aload_n 0, [], 0), (47, .getfield 24, [11, 4], 1166), (50, .aload_n 0, [], 0), (51, .getfield 194, [11, 7], 1169),
  (54, .iaload, [], 0), (55, .ifCond .eq 104, [86], 0), (58, .aload_n 0, [], 0), (59, .iconst 2, [], 0), (60, .invokevirtual 243, [139, 2], 1368), (63, .aload_n 0, [], 0),
  (64, .getfield 197, [11, 8], 1170), (67, .ifCond .ne 55, [66], 0), (70, .aload_n 0, [], 0), (71, .getfield 24, [11, 4], 1166), (74, .aload_n 0, [], 0), (75, .getfield 194, [11, 7], 1169),
  (78, .iaload, [], 0), (79, .iconst 2, [], 0), (80, .if_icmp .ne 42, [66], 0), (83, .aload_n 0, [], 0), (84, .getfield 30, [11, 6], 1168), (87, .aload_n 0, [], 0),
  (88, .getfield 194, [11, 7], 1169), (91, .laload, [], 0), (92, .ldc2_w 246, [3], 1372), (95, .lcmp, [], 0), (96, .ifCond .ge 26, [66], 0), (99, .aload_n 0, [], 0),
  (100, .getfield 120, [11, 25], 1187), (103, .aload_n 0, [], 0), (104, .getfield 30, [11, 6], 1168), (107, .aload_n 0, [], 0), (108, .getfield 194, [11, 7], 1169), (111, .laload, [], 0),
  (112, .l2i, [], 0), (113, .iaload, [], 0), (114, .ifCond .lt 8, [66], 0), (117, .aload_n 0, [], 0), (118, .iconst 3, [], 0), (119, .invokevirtual 203, [133, 2], 1336),
  (122, .aload_n 0, [], 0), (123, .iconst 0, [], 0), (124, .iconst 2, [], 0), (125, .invokevirtual 226, [144, 3], 1340), (128, .istore_n 1, [], 0), (129, .aload_n 0, [], 0),
  (130, .bipush 61, [], 0), (132, .invokevirtual 230, [136, 2], 1348), (135, .aload_n 0, [], 0), (136, .getfield 197, [11, 8], 1170), (139, .ifCond .ne 13, [83], 0), (142, .aload_n 0, [], 0),
  (143, .getfield 120, [11, 25], 1187), (146, .iload_n 1, [], 0), (147, .aload_n 0, [], 0), (148, .getfield 236, [11, 20], 1182), (151, .iastore, [], 0), (152, .aload_n 0, [], 0),
  (153, .invokevirtual 248, [153, 1], 1373), (156, .goto (-117), [23], 0), (159, .aload_n 0, [], 0), (160, .getfield 197, [11, 8], 1170), (163, .ifCond .ne 33, [107], 0), (166, .aload_n 0, [], 0),
  (167, .iconst 0, [], 0), (168, .invokevirtual 251, [150, 2], 1409), (171, .iconst 0, [], 0), (172, .istore_n 1, [], 0), (173, .iload_n 1, [], 0), (174, .iconst 3, [], 0),
  (175, .if_icmp .ge 21, [107], 0), (178, .aload_n 0, [], 0), (179, .getfield 117, [11, 24], 1186), (182, .iload_n 1, [], 0), (183, .aload_n 0, [], 0), (184, .getfield 120, [11, 25], 1187),
  (187, .iload_n 1, [], 0), (188, .iaload, [], 0), (189, .iastore, [], 0), (190, .iinc 1 1, [], 0), (193, .goto (-20), [94], 0), (196, .aload_n 0, [], 0),
  (197, .getfield 197, [11, 8], 1170), (200, .ireturn, [], 0)]
abbrev q_M_body : Nat := 151
def m_M_body : MDt := (⟨"PenThatJumpsModel", "body", "()I"⟩, prog_14_method_28_code, 2, some .int, 11, 11, P_M_body)
/-- PenThatJumpsModel.reader(I)I -/
def P_M_reader : List IR := [
  (0, .aload_n 0, [], 0), (1, .iconst 0, [], 0), (2, .putfield 1, [11, 0], 1162), (5, .iload_n 1, [], 0), (6, .iconst 0, [], 0), (7, .iconst 3, [], 0),
  (8, .invokestatic 213, [140, 3], 1298), (11, .ifCond .ne 10, [13], 0), (14, .aload_n 0, [], 0), (15, .iconst 0, [], 0), (16, .putfield 11, [11, 2], 1164), (19, .iconst (-1), [], 0),
  (20, .ireturn, [], 0), (21, .aload_n 0, [], 0), (22, .invokevirtual 220, [132, 1], 1309), (25, .aload_n 0, [], 0), (26, .iconst 0, [], 0), (27, .putfield 236, [11, 20], 1182),
  (30, .aload_n 0, [], 0), (31, .iconst 1, [], 0), (32, .putfield 239, [11, 21], 1183), (35, .aload_n 0, [], 0), (36, .getfield 123, [11, 26], 1188), (39, .iconst 4, [], 0),
  (40, .iconst 0, [], 0), (41, .iastore, [], 0), (42, .aload_n 0, [], 0), (43, .getfield 197, [11, 8], 1170), (46, .ifCond .ne 104, [86], 0), (49, .aload_n 0, [], 0),
  (50, .getfield 24, [11, 4], 1166), (53, .aload_n 0, [], 0), (54, .getfield 194, [11, 7], 1169), (57, .iaload, [], 0), (58, .ifCond .eq 92, [86], 0), (61, .aload_n 0, [], 0),
  (62, .iconst 3, [], 0), (63, .invokevirtual 207, [135, 2], 1332), (66, .ifCond .ne 11, [43], 0), (69, .aload_n 0, [], 0), (70, .iconst 1, [], 0), (71, .invokevirtual 203, [133, 2], 1336),
  (74, .goto 19, [52], 0), (77, .aload_n 0, [], 0), (78, .getfield 123, [11, 26], 1188), (81, .iconst 4, [], 0), (82, .iaload, [], 0), (83, .bipush 6, [], 0),
  (85, .if_icmp .ne 8, [52], 0), (88, .aload_n 0, [], 0), (89, .iconst 5, [], 0), (90, .invokevirtual 203, [133, 2], 1336), (93, .aload_n 0, [], 0), (94, .getfield 197, [11, 8], 1170),
  (97, .ifCond .ne (-55), [26], 0), (100, .aload_n 0, [], 0), (101, .dup, [], 0), (102, .getfield 194, [11, 7], 1169), (105, .iconst 1, [], 0), (106, .iadd, [], 0),
  (107, .putfield 194, [11, 7], 1169), (110, .aload_n 0, [], 0), (111, .iconst 4, [], 0), (112, .invokevirtual 243, [139, 2], 1368), (115, .aload_n 0, [], 0), (116, .getfield 126, [11, 27], 1189),
  (119, .bipush 24, [], 0), (121, .aload_n 0, [], 0), (122, .getfield 123, [11, 26], 1188), (125, .iconst 4, [], 0), (126, .iaload, [], 0), (127, .iadd, [], 0),
  (128, .aload_n 0, [], 0), (129, .getfield 236, [11, 20], 1182), (132, .iastore, [], 0), (133, .aload_n 0, [], 0), (134, .getfield 123, [11, 26], 1188), (137, .iconst 4, [], 0),
  (138, .dup2, [], 0), (139, .iaload, [], 0), (140, .iconst 1, [], 0), (141, .iadd, [], 0), (142, .iastore, [], 0), (143, .aload_n 0, [], 0),
  (144, .invokevirtual 248, [153, 1], 1373), (147, .goto (-105), [26], 0), (150, .aload_n 0, [], 0), (151, .getfield 197, [11, 8], 1170), (154, .ifCond .ne 56, [123], 0), (157, .aload_n 0, [], 0),
  (158, .iconst 1, [], 0), (159, .iload_n 1, [], 0), (160, .iadd, [], 0), (161, .invokevirtual 251, [150, 2], 1409), (164, .aload_n 0, [], 0), (165, .getfield 123, [11, 26], 1188),
  (168, .iload_n 1, [], 0), (169, .aload_n 0, [], 0), (170, .getfield 123, [11, 26], 1188), (173, .iconst 4, [], 0), (174, .iaload, [], 0), (175, .iastore, [], 0),
  (176, .iconst 0, [], 0), (177, .istore_n 2, [], 0), (178, .iload_n 2, [], 0), (179, .bipush 6, [], 0), (181, .if_icmp .ge 29, [123], 0), (184, .aload_n 0, [], 0),
  (185, .getfield 126, [11, 27], 1189), (188, .bipush 6, [], 0), (190, .iload_n 1, [], 0), (191, .imul, [], 0), (192, .iload_n 2, [], 0), (193, .iadd, [], 0),
  (194, .aload_n 0, [], 0), (195, .getfield 126, [11, 27], 1189), (198, .bipush 24, [], 0), (200, .iload_n 2, [], 0), (201, .iadd, [], 0), (202, .iaload, [], 0),
  (203, .iastore, [], 0), (204, .iinc 2 1, [], 0), (207, .goto (-29), [104], 0), (210, .aload_n 0, [], 0), (211, .getfield 197, [11, 8], 1170), (214, .ireturn, [], 0)]
abbrev q_M_reader : Nat := 152
def m_M_reader : MDt := (⟨"PenThatJumpsModel", "reader", "(I)I"⟩, prog_14_method_29_code, 3, some .int, 11, 11, P_M_reader)
/-- PenThatJumpsModel.readWhole()V -/
def P_M_readWhole : List IR := [
  (0, .aload_n 0, [], 0), (1, .iconst 0, [], 0), (2, .invokevirtual 254, [154, 2], 1377), (5, .aload_n 0, [], 0), (6, .iconst 0, [], 0), (7, .iconst 0, [], 0),
  (8, .invokevirtual 257, [149, 3], 1401), (11, .aload_n 0, [], 0), (12, .bipush 59, [], 0), (14, .invokevirtual 230, [136, 2], 1348), (17, .return_, [], 0)]
abbrev q_M_readWhole : Nat := 153
def m_M_readWhole : MDt := (⟨"PenThatJumpsModel", "readWhole", "()V"⟩, prog_14_method_30_code, 1, none, 11, 11, P_M_readWhole)
/-- PenThatJumpsModel.all(I)V -/
def P_M_all : List IR := [
  (0, .aload_n 0, [], 0), (1, .iload_n 1, [], 0), (2, .invokevirtual 261, [155, 2], 1381), (5, .aload_n 0, [], 0), (6, .iconst 5, [], 0), (7, .invokevirtual 207, [135, 2], 1332),
  (10, .ifCond .ne 12, [11], 0), (13, .aload_n 0, [], 0), (14, .bipush 6, [], 0), (16, .invokevirtual 207, [135, 2], 1332), (19, .ifCond .eq 43, [33], 0), (22, .aload_n 0, [], 0),
  (23, .iconst 5, [], 0), (24, .invokevirtual 207, [135, 2], 1332), (27, .istore_n 2, [], 0), (28, .aload_n 0, [], 0), (29, .dup, [], 0), (30, .getfield 194, [11, 7], 1169),
  (33, .iconst 1, [], 0), (34, .iadd, [], 0), (35, .putfield 194, [11, 7], 1169), (38, .aload_n 0, [], 0), (39, .iload_n 1, [], 0), (40, .invokevirtual 261, [155, 2], 1381),
  (43, .aload_n 0, [], 0), (44, .iload_n 2, [], 0), (45, .ifCond .eq 8, [29], 0), (48, .bipush 9, [], 0), (50, .goto 5, [30], 0), (53, .bipush 10, [], 0),
  (55, .iconst 0, [], 0), (56, .invokevirtual 257, [149, 3], 1401), (59, .goto (-54), [3], 0), (62, .return_, [], 0)]
abbrev q_M_all : Nat := 154
def m_M_all : MDt := (⟨"PenThatJumpsModel", "all", "(I)V"⟩, prog_14_method_31_code, 3, none, 11, 11, P_M_all)
/-- PenThatJumpsModel.test(I)V -/
def P_M_test : List IR := [
  (0, .aload_n 0, [], 0), (1, .iload_n 1, [], 0), (2, .invokevirtual 264, [156, 2], 1385), (5, .aload_n 0, [], 0), (6, .bipush 60, [], 0), (8, .invokevirtual 200, [134, 2], 1352),
  (11, .istore_n 2, [], 0), (12, .aload_n 0, [], 0), (13, .bipush 60, [], 0), (15, .invokevirtual 267, [137, 2], 1405), (18, .ifCond .ne 12, [15], 0), (21, .aload_n 0, [], 0),
  (22, .bipush 61, [], 0), (24, .invokevirtual 267, [137, 2], 1405), (27, .ifCond .eq 24, [26], 0), (30, .aload_n 0, [], 0), (31, .iload_n 1, [], 0), (32, .invokevirtual 264, [156, 2], 1385),
  (35, .aload_n 0, [], 0), (36, .iload_n 2, [], 0), (37, .ifCond .eq 8, [23], 0), (40, .bipush 7, [], 0), (42, .goto 5, [24], 0), (45, .bipush 8, [], 0),
  (47, .iconst 0, [], 0), (48, .invokevirtual 257, [149, 3], 1401), (51, .return_, [], 0)]
abbrev q_M_test : Nat := 155
def m_M_test : MDt := (⟨"PenThatJumpsModel", "test", "(I)V"⟩, prog_14_method_32_code, 3, none, 11, 11, P_M_test)
/-- PenThatJumpsModel.sums(I)V -/
def P_M_sums : List IR := [
  (0, .aload_n 0, [], 0), (1, .iload_n 1, [], 0), (2, .invokevirtual 270, [157, 2], 1389), (5, .aload_n 0, [], 0), (6, .bipush 43, [], 0), (8, .invokevirtual 200, [134, 2], 1352),
  (11, .ifCond .ne 12, [11], 0), (14, .aload_n 0, [], 0), (15, .bipush 45, [], 0), (17, .invokevirtual 200, [134, 2], 1352), (20, .ifCond .eq 42, [33], 0), (23, .aload_n 0, [], 0),
  (24, .bipush 43, [], 0), (26, .invokevirtual 200, [134, 2], 1352), (29, .istore_n 2, [], 0), (30, .aload_n 0, [], 0), (31, .dup, [], 0), (32, .getfield 194, [11, 7], 1169),
  (35, .iconst 1, [], 0), (36, .iadd, [], 0), (37, .putfield 194, [11, 7], 1169), (40, .aload_n 0, [], 0), (41, .iload_n 1, [], 0), (42, .invokevirtual 270, [157, 2], 1389),
  (45, .aload_n 0, [], 0), (46, .iload_n 2, [], 0), (47, .ifCond .eq 7, [29], 0), (50, .iconst 4, [], 0), (51, .goto 4, [30], 0), (54, .iconst 5, [], 0),
  (55, .iconst 0, [], 0), (56, .invokevirtual 257, [149, 3], 1401), (59, .goto (-54), [3], 0), (62, .return_, [], 0)]
abbrev q_M_sums : Nat := 156
def m_M_sums : MDt := (⟨"PenThatJumpsModel", "sums", "(I)V"⟩, prog_14_method_33_code, 3, none, 11, 11, P_M_sums)
/-- PenThatJumpsModel.products(I)V -/
def P_M_products : List IR := [
  (0, .aload_n 0, [], 0), (1, .iload_n 1, [], 0), (2, .invokevirtual 273, [159, 2], 1393), (5, .aload_n 0, [], 0), (6, .bipush 42, [], 0), (8, .invokevirtual 267, [137, 2], 1405),
  (11, .ifCond .eq 18, [15], 0), (14, .aload_n 0, [], 0), (15, .iload_n 1, [], 0), (16, .invokevirtual 273, [159, 2], 1393), (19, .aload_n 0, [], 0), (20, .bipush 6, [], 0),
  (22, .iconst 0, [], 0), (23, .invokevirtual 257, [149, 3], 1401), (26, .goto (-21), [3], 0), (29, .return_, [], 0)]
abbrev q_M_products : Nat := 157
def m_M_products : MDt := (⟨"PenThatJumpsModel", "products", "(I)V"⟩, prog_14_method_34_code, 2, none, 11, 11, P_M_products)
/-- PenThatJumpsModel.factHere()I -/
def P_M_factHere : List IR := [
  (0, .iconst (-1), [], 0), (1, .istore_n 1, [], 0), (2, .aload_n 0, [], 0), (3, .getfield 239, [11, 21], 1183), (6, .ifCond .ne 37, [24], 0), (9, .bipush 8, [], 0),
  (11, .istore_n 2, [], 0), (12, .iload_n 2, [], 0), (13, .bipush 19, [], 0), (15, .if_icmp .gt 26, [22], 0), (18, .aload_n 0, [], 0), (19, .iload_n 2, [], 0),
  (20, .invokevirtual 207, [135, 2], 1332), (23, .ifCond .eq 10, [18], 0), (26, .iload_n 2, [], 0), (27, .bipush 8, [], 0), (29, .isub, [], 0), (30, .goto 4, [19], 0),
  (33, .iload_n 1, [], 0), (34, .istore_n 1, [], 0), (35, .iinc 2 1, [], 0), (38, .goto (-26), [7], 0), (41, .iload_n 1, [], 0), (42, .ireturn, [], 0),
  (43, .iconst 0, [], 0), (44, .istore_n 2, [], 0), (45, .iload_n 2, [], 0), (46, .iconst 5, [], 0), (47, .if_icmp .ge 30, [45], 0), (50, .aload_n 0, [], 0),
  (51, .bipush 8, [], 0), (53, .iload_n 2, [], 0), (54, .iadd, [], 0), (55, .invokevirtual 207, [135, 2], 1332), (58, .ifCond .eq 11, [41], 0), (61, .iconst 2, [], 0),
  (62, .iconst 3, [], 0), (63, .iload_n 2, [], 0), (64, .imul, [], 0), (65, .iadd, [], 0), (66, .goto 4, [42], 0), (69, .iload_n 1, [], 0),
  (70, .istore_n 1, [], 0), (71, .iinc 2 1, [], 0), (74, .goto (-29), [26], 0), (77, .aload_n 0, [], 0), (78, .bipush 22, [], 0), (80, .invokevirtual 207, [135, 2], 1332),
  (83, .ifCond .eq 8, [51], 0), (86, .bipush 17, [], 0), (88, .goto 4, [52], 0), (91, .iload_n 1, [], 0), (92, .istore_n 1, [], 0), (93, .aload_n 0, [], 0),
  (94, .bipush 20, [], 0), (96, .invokevirtual 207, [135, 2], 1332), (99, .ifCond .eq 7, [59], 0), (102, .iconst 0, [], 0), (103, .goto 17, [66], 0), (106, .aload_n 0, [], 0),
  (107, .bipush 21, [], 0), (109, .invokevirtual 207, [135, 2], 1332), (112, .ifCond .eq 7, [65], 0), (115, .iconst 1, [], 0), (116, .goto 4, [66], 0), (119, .iload_n 1, [], 0),
  (120, .ireturn, [], 0)]
abbrev q_M_factHere : Nat := 158
def m_M_factHere : MDt := (⟨"PenThatJumpsModel", "factHere", "()I"⟩, prog_14_method_35_code, 3, some .int, 11, 11, P_M_factHere)
/-- PenThatJumpsModel.takePart(I)V -/
def P_M_takePart : List IR := [
  (0, .aload_n 0, [], 0), (1, .getfield 197, [11, 8], 1170), (4, .ifCond .le 4, [4], 0), (7, .return_, [], 0), (8, .aload_n 0, [], 0), (9, .invokevirtual 276, [158, 1], 1397),
  (12, .istore_n 2, [], 0), (13, .aload_n 0, [], 0), (14, .getfield 24, [11, 4], 1166), (17, .aload_n 0, [], 0), (18, .getfield 194, [11, 7], 1169), (21, .iaload, [], 0),
  (22, .iconst 2, [], 0), (23, .if_icmp .ne 7, [16], 0), (26, .iconst 1, [], 0), (27, .goto 4, [17], 0), (30, .iconst 0, [], 0), (31, .istore_n 3, [], 0),
  (32, .iload_n 2, [], 0), (33, .ifCond .ge 33, [34], 0), (36, .iload_n 3, [], 0), (37, .ifCond .ne 29, [34], 0), (40, .aload_n 0, [], 0), (41, .bipush 40, [], 0),
  (43, .invokevirtual 200, [134, 2], 1352), (46, .ifCond .ne 20, [34], 0), (49, .aload_n 0, [], 0), (50, .bipush 7, [], 0), (52, .invokevirtual 207, [135, 2], 1332), (55, .ifCond .ne 11, [34], 0),
  (58, .aload_n 0, [], 0), (59, .iconst 1, [], 0), (60, .invokevirtual 203, [133, 2], 1336), (63, .goto 13, [40], 0), (66, .iload_n 1, [], 0), (67, .iconst 5, [], 0),
  (68, .if_icmp .ne 8, [40], 0), (71, .aload_n 0, [], 0), (72, .iconst 5, [], 0), (73, .invokevirtual 203, [133, 2], 1336), (76, .aload_n 0, [], 0), (77, .getfield 197, [11, 8], 1170),
  (80, .ifCond .le 4, [44], 0), (83, .return_, [], 0), (84, .aload_n 0, [], 0), (85, .bipush 7, [], 0), (87, .invokevirtual 210, [138, 2], 1344), (90, .ifCond .eq 19, [58], 0),
  (93, .aload_n 0, [], 0), (94, .iload_n 1, [], 0), (95, .iconst 1, [], 0), (96, .iadd, [], 0), (97, .invokevirtual 273, [159, 2], 1393), (100, .aload_n 0, [], 0),
  (101, .iconst 3, [], 0), (102, .iconst 0, [], 0), (103, .invokevirtual 257, [149, 3], 1401), (106, .goto 99, [112], 0), (109, .aload_n 0, [], 0), (110, .bipush 40, [], 0),
  (112, .invokevirtual 267, [137, 2], 1405), (115, .ifCond .eq 19, [71], 0), (118, .aload_n 0, [], 0), (119, .iload_n 1, [], 0), (120, .iconst 1, [], 0), (121, .iadd, [], 0),
  (122, .invokevirtual 254, [154, 2], 1377), (125, .aload_n 0, [], 0), (126, .bipush 41, [], 0), (128, .invokevirtual 230, [136, 2], 1348), (131, .goto 74, [112], 0), (134, .iload_n 3, [], 0),
  (135, .ifCond .eq 31, [89], 0), (138, .aload_n 0, [], 0), (139, .iconst 1, [], 0), (140, .aload_n 0, [], 0), (141, .getfield 30, [11, 6], 1168), (144, .aload_n 0, [], 0),
  (145, .getfield 194, [11, 7], 1169), (148, .laload, [], 0), (149, .l2i, [], 0), (150, .invokevirtual 257, [149, 3], 1401), (153, .aload_n 0, [], 0), (154, .dup, [], 0),
  (155, .getfield 194, [11, 7], 1169), (158, .iconst 1, [], 0), (159, .iadd, [], 0), (160, .putfield 194, [11, 7], 1169), (163, .goto 42, [112], 0), (166, .aload_n 0, [], 0),
  (167, .dup, [], 0), (168, .getfield 194, [11, 7], 1169), (171, .iconst 1, [], 0), (172, .iadd, [], 0), (173, .putfield 194, [11, 7], 1169), (176, .aload_n 0, [], 0),
  (177, .iconst 2, [], 0), (178, .iload_n 2, [], 0), (179, .aload_n 0, [], 0), (180, .getfield 239, [11, 21], 1183), (183, .ifCond .eq 17, [109], 0), (186, .iload_n 2, [], 0),
  (187, .iconst 1, [], 0), (188, .if_icmp .le 12, [109], 0), (191, .aload_n 0, [], 0), (192, .iconst 0, [], 0), (193, .iconst 2, [], 0), (194, .invokevirtual 226, [144, 3], 1340),
  (197, .goto 4, [110], 0), (200, .iconst 0, [], 0), (201, .iadd, [], 0), (202, .invokevirtual 257, [149, 3], 1401), (205, .return_, [], 0)]
abbrev q_M_takePart : Nat := 159
def m_M_takePart : MDt := (⟨"PenThatJumpsModel", "takePart", "(I)V"⟩, prog_14_method_36_code, 4, none, 11, 11, P_M_takePart)
/-- PenThatJumpsModel.worthOf(I)I -/
def P_M_worthOf : List IR := [
  (0, .iconst 0, [], 0), (1, .istore_n 2, [], 0), (2, .iload_n 1, [], 0), (3, .istore_n 3, [], 0), (4, .aload_n 0, [], 0), (5, .getfield 111, [11, 22], 1184),
  (8, .iload_n 3, [], 0), (9, .iaload, [], 0), (10, .ifCond .eq 130, [82], 0), (13, .aload_n 0, [], 0), (14, .getfield 111, [11, 22], 1184), (17, .iload_n 3, [], 0),
  (18, .iaload, [], 0), (19, .istore 4, [], 0), (21, .iload 4, [], 0), (23, .iconst 1, [], 0), (24, .if_icmp .eq 9, [20], 0), (27, .iload 4, [], 0),
  (29, .iconst 2, [], 0), (30, .if_icmp .ne 41, [41], 0), (33, .aload_n 0, [], 0), (34, .getfield 132, [11, 29], 1191), (37, .iload_n 2, [], 0), (38, .iload 4, [], 0),
  (40, .iconst 1, [], 0), (41, .if_icmp .ne 12, [31], 0), (44, .aload_n 0, [], 0), (45, .getfield 114, [11, 23], 1185), (48, .iload_n 3, [], 0), (49, .iaload, [], 0),
  (50, .goto 14, [38], 0), (53, .aload_n 0, [], 0), (54, .getfield 129, [11, 28], 1190), (57, .aload_n 0, [], 0), (58, .getfield 114, [11, 23], 1185), (61, .iload_n 3, [], 0),
  (62, .iaload, [], 0), (63, .iaload, [], 0), (64, .iastore, [], 0), (65, .iinc 2 1, [], 0), (68, .goto 66, [80], 0), (71, .iload 4, [], 0),
  (73, .iconst 3, [], 0), (74, .if_icmp .ne 30, [61], 0), (77, .aload_n 0, [], 0), (78, .getfield 132, [11, 29], 1191), (81, .iload_n 2, [], 0), (82, .iconst 1, [], 0),
  (83, .isub, [], 0), (84, .aload_n 0, [], 0), (85, .getfield 132, [11, 29], 1191), (88, .iload_n 2, [], 0), (89, .iconst 1, [], 0), (90, .isub, [], 0),
  (91, .iaload, [], 0), (92, .ifCond .ne 7, [58], 0), (95, .iconst 1, [], 0), (96, .goto 4, [59], 0), (99, .iconst 0, [], 0), (100, .iastore, [], 0),
  (101, .goto 33, [80], 0), (104, .iinc 2 (-1), [], 0), (107, .aload_n 0, [], 0), (108, .getfield 132, [11, 29], 1191), (111, .iload_n 2, [], 0), (112, .iconst 1, [], 0),
  (113, .isub, [], 0), (114, .iload 4, [], 0), (116, .aload_n 0, [], 0), (117, .getfield 132, [11, 29], 1191), (120, .iload_n 2, [], 0), (121, .iconst 1, [], 0),
  (122, .isub, [], 0), (123, .iaload, [], 0), (124, .aload_n 0, [], 0), (125, .getfield 132, [11, 29], 1191), (128, .iload_n 2, [], 0), (129, .iaload, [], 0),
  (130, .invokestatic 280, [161, 3], 1450), (133, .iastore, [], 0), (134, .iinc 3 1, [], 0), (137, .goto (-133), [4], 0), (140, .aload_n 0, [], 0), (141, .getfield 132, [11, 29], 1191),
  (144, .iconst 0, [], 0), (145, .iaload, [], 0), (146, .ireturn, [], 0)]
abbrev q_M_worthOf : Nat := 160
def m_M_worthOf : MDt := (⟨"PenThatJumpsModel", "worthOf", "(I)I"⟩, prog_14_method_37_code, 5, some .int, 11, 11, P_M_worthOf)
/-- PenThatJumpsModel.both(III)I -/
def P_M_both : List IR := [
  (0, .iload_n 0, [], 0), (1, .tableswitch 87 4 9 #[39, 43, 47, 51, 62, 73], [36, 2, 6, 10, 14, 21, 28], 0), (40, .iload_n 1, [], 0), (41, .iload_n 2, [], 0), (42, .iadd, [], 0), (43, .ireturn, [], 0),
  (44, .iload_n 1, [], 0), (45, .iload_n 2, [], 0), (46, .isub, [], 0), (47, .ireturn, [], 0), (48, .iload_n 1, [], 0), (49, .iload_n 2, [], 0),
  (50, .imul, [], 0), (51, .ireturn, [], 0), (52, .iload_n 1, [], 0), (53, .iload_n 2, [], 0), (54, .if_icmp .ge 7, [19], 0), (57, .iconst 1, [], 0),
  (58, .goto 4, [20], 0), (61, .iconst 0, [], 0), (62, .ireturn, [], 0), (63, .iload_n 1, [], 0), (64, .iload_n 2, [], 0), (65, .if_icmp .ne 7, [26], 0),
  (68, .iconst 1, [], 0), (69, .goto 4, [27], 0), (72, .iconst 0, [], 0), (73, .ireturn, [], 0), (74, .iload_n 1, [], 0), (75, .ifCond .eq 11, [34], 0),
  (78, .iload_n 2, [], 0), (79, .ifCond .eq 7, [34], 0), (82, .iconst 1, [], 0), (83, .goto 4, [35], 0), (86, .iconst 0, [], 0), (87, .ireturn, [], 0),
  (88, .iload_n 1, [], 0), (89, .ifCond .ne 7, [40], 0), (92, .iload_n 2, [], 0), (93, .ifCond .eq 7, [42], 0), (96, .iconst 1, [], 0), (97, .goto 4, [43], 0),
  (100, .iconst 0, [], 0), (101, .ireturn, [], 0)]
abbrev q_M_both : Nat := 161
def m_M_both : MDt := (⟨"PenThatJumpsModel", "both", "(III)I"⟩, prog_14_method_38_code, 3, some .int, 11, 99, P_M_both)
/-- PenThatJumpsModel.asksOf(IIIIZIZ)V -/
def P_M_asksOf : List IR := [
  (0, .iconst 0, [], 0), (1, .istore 8, [], 0), (3, .iload 8, [], 0), (5, .iconst 4, [], 0), (6, .if_icmp .ge 32, [20], 0), (9, .aload_n 0, [], 0),
  (10, .getfield 129, [11, 28], 1190), (13, .iload 8, [], 0), (15, .aload_n 0, [], 0), (16, .getfield 102, [11, 17], 1179), (19, .iload_n 1, [], 0), (20, .iaload, [], 0),
  (21, .iload 8, [], 0), (23, .if_icmp .ne 7, [16], 0), (26, .iconst 1, [], 0), (27, .goto 4, [17], 0), (30, .iconst 0, [], 0), (31, .iastore, [], 0),
  (32, .iinc 8 1, [], 0), (35, .goto (-32), [2], 0), (38, .aload_n 0, [], 0), (39, .getfield 105, [11, 18], 1180), (42, .iload_n 1, [], 0), (43, .iaload, [], 0),
  (44, .aload_n 0, [], 0), (45, .getfield 217, [11, 15], 1177), (48, .if_icmp .ne 7, [29], 0), (51, .iconst 1, [], 0), (52, .goto 4, [30], 0), (55, .iconst 0, [], 0),
  (56, .istore 8, [], 0), (58, .aload_n 0, [], 0), (59, .getfield 129, [11, 28], 1190), (62, .iconst 4, [], 0), (63, .iload 8, [], 0), (65, .ifCond .eq 7, [38], 0),
  (68, .iconst 1, [], 0), (69, .goto 4, [39], 0), (72, .iconst 0, [], 0), (73, .iastore, [], 0), (74, .aload_n 0, [], 0), (75, .getfield 129, [11, 28], 1190),
  (78, .iconst 5, [], 0), (79, .aload_n 0, [], 0), (80, .getfield 102, [11, 17], 1179), (83, .iload_n 1, [], 0), (84, .iaload, [], 0), (85, .iconst 3, [], 0),
  (86, .if_icmp .ne 18, [59], 0), (89, .iload 6, [], 0), (91, .aload_n 0, [], 0), (92, .getfield 105, [11, 18], 1180), (95, .iload_n 1, [], 0), (96, .iaload, [], 0),
  (97, .ishr, [], 0), (98, .iconst 1, [], 0), (99, .iand, [], 0), (100, .iconst 1, [], 0), (101, .if_icmp .eq 13, [63], 0), (104, .iload 8, [], 0),
  (106, .ifCond .eq 12, [65], 0), (109, .iload 5, [], 0), (111, .ifCond .eq 7, [65], 0), (114, .iconst 1, [], 0), (115, .goto 4, [66], 0), (118, .iconst 0, [], 0),
  (119, .iastore, [], 0), (120, .aload_n 0, [], 0), (121, .getfield 129, [11, 28], 1190), (124, .bipush 6, [], 0), (126, .iload 4, [], 0), (128, .iastore, [], 0),
  (129, .aload_n 0, [], 0), (130, .getfield 129, [11, 28], 1190), (133, .bipush 7, [], 0), (135, .iload 5, [], 0), (137, .ifCond .eq 7, [79], 0), (140, .iconst 1, [], 0),
  (141, .goto 4, [80], 0), (144, .iconst 0, [], 0), (145, .iastore, [], 0), (146, .aload_n 0, [], 0), (147, .getfield 129, [11, 28], 1190), (150, .bipush 8, [], 0),
  (152, .iload 7, [], 0), (154, .ifCond .eq 16, [93], 0), (157, .aload_n 0, [], 0), (158, .getfield 102, [11, 17], 1179), (161, .iload_n 1, [], 0), (162, .iaload, [], 0),
  (163, .ifCond .ne 7, [93], 0), (166, .iconst 1, [], 0), (167, .goto 4, [94], 0), (170, .iconst 0, [], 0), (171, .iastore, [], 0), (172, .aload_n 0, [], 0),
  (173, .getfield 129, [11, 28], 1190), (176, .bipush 9, [], 0), (178, .iload_n 2, [], 0), (179, .iastore, [], 0), (180, .aload_n 0, [], 0), (181, .getfield 129, [11, 28], 1190),
  (184, .bipush 10, [], 0), (186, .iload_n 3, [], 0), (187, .iastore, [], 0), (188, .return_, [], 0)]
abbrev q_M_asksOf : Nat := 162
def m_M_asksOf : MDt := (⟨"PenThatJumpsModel", "asksOf", "(IIIIZIZ)V"⟩, prog_14_method_39_code, 9, none, 11, 11, P_M_asksOf)
/-- PenThatJumpsModel.jumpOf(II)I -/
def P_M_jumpOf : List IR := [
  (0, .aload_n 0, [], 0), (1, .getfield 129, [11, 28], 1190), (4, .bipush 11, [], 0), (6, .iload_n 2, [], 0), (7, .iastore, [], 0), (8, .aload_n 0, [], 0),
  (9, .getfield 117, [11, 24], 1186), (12, .iload_n 1, [], 0), (13, .iaload, [], 0), (14, .ifCond .ge 7, [12], 0), (17, .iconst 0, [], 0), (18, .goto 15, [20], 0),
  (21, .aload_n 0, [], 0), (22, .iconst 0, [], 0), (23, .aload_n 0, [], 0), (24, .getfield 117, [11, 24], 1186), (27, .iload_n 1, [], 0), (28, .iaload, [], 0),
  (29, .iadd, [], 0), (30, .invokevirtual 284, [160, 2], 1446), (33, .istore_n 3, [], 0), (34, .iload_n 3, [], 0), (35, .ifCond .ge 7, [25], 0), (38, .iconst 0, [], 0),
  (39, .goto 15, [31], 0), (42, .iload_n 3, [], 0), (43, .bipush 99, [], 0), (45, .if_icmp .le 8, [30], 0), (48, .bipush 99, [], 0), (50, .goto 4, [31], 0),
  (53, .iload_n 3, [], 0), (54, .ireturn, [], 0)]
abbrev q_M_jumpOf : Nat := 163
def m_M_jumpOf : MDt := (⟨"PenThatJumpsModel", "jumpOf", "(II)I"⟩, prog_14_method_40_code, 4, some .int, 11, 11, P_M_jumpOf)
/-- PenThatJumpsModel.habitOf(II)I -/
def P_M_habitOf : List IR := [
  (0, .iconst 0, [], 0), (1, .istore_n 3, [], 0), (2, .iconst 0, [], 0), (3, .istore 4, [], 0), (5, .iload 4, [], 0), (7, .iload_n 2, [], 0),
  (8, .if_icmp .ge 43, [32], 0), (11, .iload_n 3, [], 0), (12, .aload_n 0, [], 0), (13, .getfield 102, [11, 17], 1179), (16, .bipush 12, [], 0), (18, .iload_n 1, [], 0),
  (19, .imul, [], 0), (20, .iload 4, [], 0), (22, .iadd, [], 0), (23, .iaload, [], 0), (24, .aload_n 0, [], 0), (25, .getfield 102, [11, 17], 1179),
  (28, .bipush 12, [], 0), (30, .iload_n 1, [], 0), (31, .imul, [], 0), (32, .iload_n 2, [], 0), (33, .iadd, [], 0), (34, .iaload, [], 0),
  (35, .if_icmp .ne 7, [27], 0), (38, .iconst 1, [], 0), (39, .goto 4, [28], 0), (42, .iconst 0, [], 0), (43, .iadd, [], 0), (44, .istore_n 3, [], 0),
  (45, .iinc 4 1, [], 0), (48, .goto (-43), [4], 0), (51, .iload_n 3, [], 0), (52, .ireturn, [], 0)]
abbrev q_M_habitOf : Nat := 164
def m_M_habitOf : MDt := (⟨"PenThatJumpsModel", "habitOf", "(II)I"⟩, prog_14_method_41_code, 5, some .int, 11, 11, P_M_habitOf)
/-- PenThatJumpsModel.sits(IIIIZ)V -/
def P_M_sits : List IR := [
  (0, .iload 4, [], 0), (2, .i2l, [], 0), (3, .lstore 6, [], 0), (5, .aload_n 0, [], 0), (6, .getfield 135, [11, 31], 1193), (9, .iload_n 1, [], 0),
  (10, .aload_n 0, [], 0), (11, .getfield 99, [11, 16], 1178), (14, .iload_n 3, [], 0), (15, .iaload, [], 0), (16, .iastore, [], 0), (17, .aload_n 0, [], 0),
  (18, .getfield 138, [11, 32], 1194), (21, .iload_n 1, [], 0), (22, .aload_n 0, [], 0), (23, .getfield 217, [11, 15], 1177), (26, .iastore, [], 0), (27, .iconst 0, [], 0),
  (28, .istore 8, [], 0), (30, .iload 8, [], 0), (32, .aload_n 0, [], 0), (33, .getfield 99, [11, 16], 1178), (36, .iload_n 3, [], 0), (37, .iaload, [], 0),
  (38, .if_icmp .ge 156, [114], 0), (41, .bipush 12, [], 0), (43, .iload_n 3, [], 0), (44, .imul, [], 0), (45, .iload 8, [], 0), (47, .iadd, [], 0),
  (48, .istore 9, [], 0), (50, .aload_n 0, [], 0), (51, .getfield 141, [11, 33], 1195), (54, .bipush 12, [], 0), (56, .iload_n 1, [], 0), (57, .imul, [], 0),
  (58, .iload 8, [], 0), (60, .iadd, [], 0), (61, .aload_n 0, [], 0), (62, .getfield 102, [11, 17], 1179), (65, .iload 9, [], 0), (67, .iaload, [], 0),
  (68, .iastore, [], 0), (69, .aload_n 0, [], 0), (70, .getfield 144, [11, 34], 1196), (73, .bipush 12, [], 0), (75, .iload_n 1, [], 0), (76, .imul, [], 0),
  (77, .iload 8, [], 0), (79, .iadd, [], 0), (80, .aload_n 0, [], 0), (81, .getfield 105, [11, 18], 1180), (84, .iload 9, [], 0), (86, .iaload, [], 0),
  (87, .iastore, [], 0), (88, .aload_n 0, [], 0), (89, .iload 9, [], 0), (91, .aload_n 0, [], 0), (92, .iload_n 3, [], 0), (93, .iload 8, [], 0),
  (95, .invokevirtual 287, [164, 3], 1429), (98, .iload 8, [], 0), (100, .aload_n 0, [], 0), (101, .getfield 87, [11, 11], 1173), (104, .iload_n 2, [], 0), (105, .iaload, [], 0),
  (106, .aload_n 0, [], 0), (107, .getfield 90, [11, 12], 1174), (110, .iload_n 2, [], 0), (111, .baload, [], 0), (112, .aload_n 0, [], 0), (113, .getfield 93, [11, 13], 1175),
  (116, .iload_n 2, [], 0), (117, .iaload, [], 0), (118, .iload 5, [], 0), (120, .invokevirtual 290, [162, 8], 1433), (123, .iconst 0, [], 0), (124, .istore 10, [], 0),
  (126, .iload 10, [], 0), (128, .iconst 3, [], 0), (129, .if_icmp .ge 59, [112], 0), (132, .lload 6, [], 0), (134, .ldc2_w 294, [1103515245], 1437), (137, .lmul, [], 0),
  (138, .ldc2_w 296, [12345], 1438), (141, .ladd, [], 0), (142, .ldc2_w 298, [2147483648], 1439), (145, .lrem, [], 0), (146, .lstore 6, [], 0), (148, .aload_n 0, [], 0),
  (149, .getfield 147, [11, 35], 1197), (152, .bipush 36, [], 0), (154, .iload_n 1, [], 0), (155, .imul, [], 0), (156, .iconst 3, [], 0), (157, .iload 8, [], 0),
  (159, .imul, [], 0), (160, .iadd, [], 0), (161, .iload 10, [], 0), (163, .iadd, [], 0), (164, .aload_n 0, [], 0), (165, .iload 10, [], 0),
  (167, .lload 6, [], 0), (169, .ldc2_w 300, [65536], 1440), (172, .ldiv, [], 0), (173, .ldc2_w 302, [4], 1441), (176, .lrem, [], 0), (177, .l2i, [], 0),
  (178, .invokevirtual 304, [163, 3], 1442), (181, .iastore, [], 0), (182, .iinc 10 1, [], 0), (185, .goto (-59), [78], 0), (188, .iinc 8 1, [], 0), (191, .goto (-161), [19], 0),
  (194, .return_, [], 0)]
abbrev q_M_sits : Nat := 165
def m_M_sits : MDt := (⟨"PenThatJumpsModel", "sits", "(IIIIZ)V"⟩, prog_14_method_42_code, 11, none, 11, 11, P_M_sits)
/-- PenThatJumpsModel.sit(III)I -/
def P_M_sit : List IR := [
  (0, .aload_n 0, [], 0), (1, .iconst 0, [], 0), (2, .putfield 1, [11, 0], 1162), (5, .aload_n 0, [], 0), (6, .iload_n 1, [], 0), (7, .invokevirtual 307, [143, 2], 1421),
  (10, .ifCond .eq 31, [20], 0), (13, .aload_n 0, [], 0), (14, .iload_n 2, [], 0), (15, .invokevirtual 233, [147, 2], 1360), (18, .ifCond .eq 23, [20], 0), (21, .iload_n 3, [], 0),
  (22, .iconst 0, [], 0), (23, .sipush 9999, [], 0), (26, .invokestatic 213, [140, 3], 1298), (29, .ifCond .eq 12, [20], 0), (32, .aload_n 0, [], 0), (33, .getfield 310, [11, 30], 1192),
  (36, .bipush 24, [], 0), (38, .if_icmp .ne 5, [22], 0), (41, .iconst (-1), [], 0), (42, .ireturn, [], 0), (43, .aload_n 0, [], 0), (44, .aload_n 0, [], 0),
  (45, .getfield 310, [11, 30], 1192), (48, .iload_n 1, [], 0), (49, .iload_n 2, [], 0), (50, .iload_n 3, [], 0), (51, .aload_n 0, [], 0), (52, .getfield 96, [11, 14], 1176),
  (55, .iload_n 1, [], 0), (56, .baload, [], 0), (57, .invokevirtual 313, [165, 6], 1425), (60, .aload_n 0, [], 0), (61, .dup, [], 0), (62, .getfield 310, [11, 30], 1192),
  (65, .iconst 1, [], 0), (66, .iadd, [], 0), (67, .putfield 310, [11, 30], 1192), (70, .aload_n 0, [], 0), (71, .getfield 310, [11, 30], 1192), (74, .iconst 1, [], 0),
  (75, .isub, [], 0), (76, .ireturn, [], 0)]
abbrev q_M_sit : Nat := 166
def m_M_sit : MDt := (⟨"PenThatJumpsModel", "sit", "(III)I"⟩, prog_14_method_43_code, 4, some .int, 11, 11, P_M_sit)
/-- PenThatJumpsModel.isSitting(I)Z -/
def P_M_isSitting : List IR := [
  (0, .iload_n 1, [], 0), (1, .ifCond .lt 15, [8], 0), (4, .iload_n 1, [], 0), (5, .aload_n 0, [], 0), (6, .getfield 310, [11, 30], 1192), (9, .if_icmp .ge 7, [8], 0),
  (12, .iconst 1, [], 0), (13, .goto 4, [9], 0), (16, .iconst 0, [], 0), (17, .ireturn, [], 0)]
abbrev q_M_isSitting : Nat := 167
def m_M_isSitting : MDt := (⟨"PenThatJumpsModel", "isSitting", "(I)Z"⟩, prog_14_method_44_code, 2, some .boolean, 11, 11, P_M_isSitting)
/-- PenThatJumpsModel.jump(III)I -/
def P_M_jump : List IR := [
  (0, .aload_n 0, [], 0), (1, .aload_n 0, [], 0), (2, .iload_n 1, [], 0), (3, .invokevirtual 317, [167, 2], 1457), (6, .ifCond .eq 32, [22], 0), (9, .iload_n 2, [], 0),
  (10, .iconst 0, [], 0), (11, .aload_n 0, [], 0), (12, .getfield 135, [11, 31], 1193), (15, .iload_n 1, [], 0), (16, .iaload, [], 0), (17, .iconst 1, [], 0),
  (18, .isub, [], 0), (19, .invokestatic 213, [140, 3], 1298), (22, .ifCond .eq 16, [22], 0), (25, .iload_n 3, [], 0), (26, .iconst 0, [], 0), (27, .iconst 2, [], 0),
  (28, .invokestatic 213, [140, 3], 1298), (31, .ifCond .eq 7, [22], 0), (34, .iconst 0, [], 0), (35, .goto 4, [23], 0), (38, .iconst 1, [], 0), (39, .putfield 1, [11, 0], 1162),
  (42, .aload_n 0, [], 0), (43, .getfield 1, [11, 0], 1162), (46, .ifCond .le 7, [29], 0), (49, .iconst 0, [], 0), (50, .goto 18, [41], 0), (53, .aload_n 0, [], 0),
  (54, .getfield 147, [11, 35], 1197), (57, .bipush 36, [], 0), (59, .iload_n 1, [], 0), (60, .imul, [], 0), (61, .iconst 3, [], 0), (62, .iload_n 2, [], 0),
  (63, .imul, [], 0), (64, .iadd, [], 0), (65, .iload_n 3, [], 0), (66, .iadd, [], 0), (67, .iaload, [], 0), (68, .ireturn, [], 0)]
abbrev q_M_jump : Nat := 168
def m_M_jump : MDt := (⟨"PenThatJumpsModel", "jump", "(III)I"⟩, prog_14_method_45_code, 4, some .int, 11, 11, P_M_jump)
/-- PenThatJumpsModel.findReadings(II)V -/
def P_M_findReadings : List IR := [
  (0, .iconst 0, [], 0), (1, .istore_n 3, [], 0), (2, .iload_n 3, [], 0), (3, .bipush 20, [], 0), (5, .if_icmp .ge 16, [12], 0), (8, .aload_n 0, [], 0),
  (9, .getfield 129, [11, 28], 1190), (12, .iload_n 3, [], 0), (13, .iconst 0, [], 0), (14, .iastore, [], 0), (15, .iinc 3 1, [], 0), (18, .goto (-16), [2], 0),
  (21, .aload_n 0, [], 0), (22, .getfield 129, [11, 28], 1190), (25, .iconst 0, [], 0), (26, .iload_n 2, [], 0), (27, .iastore, [], 0), (28, .aload_n 0, [], 0),
  (29, .getfield 129, [11, 28], 1190), (32, .iconst 1, [], 0), (33, .aload_n 0, [], 0), (34, .getfield 135, [11, 31], 1193), (37, .iload_n 1, [], 0), (38, .iaload, [], 0),
  (39, .iastore, [], 0), (40, .iconst 0, [], 0), (41, .istore_n 3, [], 0), (42, .iload_n 3, [], 0), (43, .aload_n 0, [], 0), (44, .getfield 135, [11, 31], 1193),
  (47, .iload_n 1, [], 0), (48, .iaload, [], 0), (49, .if_icmp .ge 167, [128], 0), (52, .aload_n 0, [], 0), (53, .getfield 141, [11, 33], 1195), (56, .bipush 12, [], 0),
  (58, .iload_n 1, [], 0), (59, .imul, [], 0), (60, .iload_n 3, [], 0), (61, .iadd, [], 0), (62, .iaload, [], 0), (63, .istore 4, [], 0),
  (65, .aload_n 0, [], 0), (66, .getfield 144, [11, 34], 1196), (69, .bipush 12, [], 0), (71, .iload_n 1, [], 0), (72, .imul, [], 0), (73, .iload_n 3, [], 0),
  (74, .iadd, [], 0), (75, .iaload, [], 0), (76, .aload_n 0, [], 0), (77, .getfield 138, [11, 32], 1194), (80, .iload_n 1, [], 0), (81, .iaload, [], 0),
  (82, .if_icmp .ne 7, [57], 0), (85, .iconst 1, [], 0), (86, .goto 4, [58], 0), (89, .iconst 0, [], 0), (90, .istore 5, [], 0), (92, .iconst 0, [], 0),
  (93, .istore 6, [], 0), (95, .iload 6, [], 0), (97, .iconst 3, [], 0), (98, .if_icmp .ge 112, [126], 0), (101, .aload_n 0, [], 0), (102, .getfield 147, [11, 35], 1197),
  (105, .bipush 36, [], 0), (107, .iload_n 1, [], 0), (108, .imul, [], 0), (109, .iconst 3, [], 0), (110, .iload_n 3, [], 0), (111, .imul, [], 0),
  (112, .iadd, [], 0), (113, .iload 6, [], 0), (115, .iadd, [], 0), (116, .iaload, [], 0), (117, .istore 7, [], 0), (119, .aload_n 0, [], 0),
  (120, .getfield 129, [11, 28], 1190), (123, .iconst 2, [], 0), (124, .iconst 3, [], 0), (125, .iload 4, [], 0), (127, .imul, [], 0), (128, .iadd, [], 0),
  (129, .iload 6, [], 0), (131, .iadd, [], 0), (132, .dup2, [], 0), (133, .iaload, [], 0), (134, .iload 7, [], 0), (136, .iadd, [], 0),
  (137, .iastore, [], 0), (138, .iload 4, [], 0), (140, .iconst 3, [], 0), (141, .if_icmp .eq 7, [96], 0), (144, .iconst (-1), [], 0), (145, .goto 21, [105], 0),
  (148, .iload 5, [], 0), (150, .ifCond .eq 11, [102], 0), (153, .bipush 14, [], 0), (155, .iload 6, [], 0), (157, .iadd, [], 0), (158, .goto 8, [105], 0),
  (161, .bipush 17, [], 0), (163, .iload 6, [], 0), (165, .iadd, [], 0), (166, .istore 8, [], 0), (168, .iload 8, [], 0), (170, .ifCond .lt 34, [124], 0),
  (173, .aload_n 0, [], 0), (174, .getfield 129, [11, 28], 1190), (177, .iload 8, [], 0), (179, .iload 7, [], 0), (181, .aload_n 0, [], 0), (182, .getfield 129, [11, 28], 1190),
  (185, .iload 8, [], 0), (187, .iaload, [], 0), (188, .if_icmp .le 8, [119], 0), (191, .iload 7, [], 0), (193, .goto 10, [123], 0), (196, .aload_n 0, [], 0),
  (197, .getfield 129, [11, 28], 1190), (200, .iload 8, [], 0), (202, .iaload, [], 0), (203, .iastore, [], 0), (204, .iinc 6 1, [], 0), (207, .goto (-112), [61], 0),
  (210, .iinc 3 1, [], 0), (213, .goto (-171), [27], 0), (216, .return_, [], 0)]
abbrev q_M_findReadings : Nat := 169
def m_M_findReadings : MDt := (⟨"PenThatJumpsModel", "findReadings", "(II)V"⟩, prog_14_method_46_code, 9, none, 11, 11, P_M_findReadings)
/-- PenThatJumpsModel.doesSay(III)Z -/
def P_M_doesSay : List IR := [
  (0, .aload_n 0, [], 0), (1, .iload_n 1, [], 0), (2, .iload_n 3, [], 0), (3, .invokevirtual 320, [169, 3], 1475), (6, .iconst 0, [], 0), (7, .istore 4, [], 0),
  (9, .iconst 0, [], 0), (10, .istore 5, [], 0), (12, .iload 5, [], 0), (14, .aload_n 0, [], 0), (15, .getfield 123, [11, 26], 1188), (18, .iload_n 2, [], 0),
  (19, .iaload, [], 0), (20, .if_icmp .ge 48, [39], 0), (23, .iload 4, [], 0), (25, .ifCond .ne 30, [33], 0), (28, .aload_n 0, [], 0), (29, .sipush 1100, [], 0),
  (32, .iconst 1, [], 0), (33, .iload_n 2, [], 0), (34, .iadd, [], 0), (35, .imul, [], 0), (36, .aload_n 0, [], 0), (37, .getfield 126, [11, 27], 1189),
  (40, .bipush 6, [], 0), (42, .iload_n 2, [], 0), (43, .imul, [], 0), (44, .iload 5, [], 0), (46, .iadd, [], 0), (47, .iaload, [], 0),
  (48, .iadd, [], 0), (49, .invokevirtual 284, [160, 2], 1446), (52, .ifCond .eq 7, [35], 0), (55, .iconst 1, [], 0), (56, .goto 4, [36], 0), (59, .iconst 0, [], 0),
  (60, .istore 4, [], 0), (62, .iinc 5 1, [], 0), (65, .goto (-53), [8], 0), (68, .iload 4, [], 0), (70, .ireturn, [], 0)]
abbrev q_M_doesSay : Nat := 170
def m_M_doesSay : MDt := (⟨"PenThatJumpsModel", "doesSay", "(III)Z"⟩, prog_14_method_47_code, 6, some .boolean, 11, 11, P_M_doesSay)
/-- PenThatJumpsModel.isReaderNumber(I)Z -/
def P_M_isReaderNumber : List IR := [
  (0, .iload_n 0, [], 0), (1, .iconst 0, [], 0), (2, .iconst 3, [], 0), (3, .invokestatic 213, [140, 3], 1298), (6, .ireturn, [], 0)]
abbrev q_M_isReaderNumber : Nat := 171
def m_M_isReaderNumber : MDt := (⟨"PenThatJumpsModel", "isReaderNumber", "(I)Z"⟩, prog_14_method_48_code, 1, some .boolean, 11, 99, P_M_isReaderNumber)
/-- PenThatJumpsModel.isFile(I)Z -/
def P_M_isFile : List IR := [
  (0, .iload_n 0, [], 0), (1, .bipush (-9), [], 0), (3, .bipush 9, [], 0), (5, .invokestatic 213, [140, 3], 1298), (8, .ireturn, [], 0)]
abbrev q_M_isFile : Nat := 172
def m_M_isFile : MDt := (⟨"PenThatJumpsModel", "isFile", "(I)Z"⟩, prog_14_method_49_code, 1, some .boolean, 11, 99, P_M_isFile)
/-- PenThatJumpsModel.says(III)I -/
def P_M_says : List IR := [
  (0, .aload_n 0, [], 0), (1, .iconst 0, [], 0), (2, .putfield 1, [11, 0], 1162), (5, .aload_n 0, [], 0), (6, .iload_n 1, [], 0), (7, .invokevirtual 317, [167, 2], 1457),
  (10, .ifCond .eq 17, [13], 0), (13, .iload_n 2, [], 0), (14, .invokestatic 323, [171, 1], 1465), (17, .ifCond .eq 10, [13], 0), (20, .iload_n 3, [], 0), (21, .invokestatic 326, [172, 1], 1468),
  (24, .ifCond .ne 5, [15], 0), (27, .iconst (-1), [], 0), (28, .ireturn, [], 0), (29, .aload_n 0, [], 0), (30, .iload_n 1, [], 0), (31, .iload_n 2, [], 0),
  (32, .iload_n 3, [], 0), (33, .invokevirtual 329, [170, 4], 1471), (36, .ifCond .eq 7, [23], 0), (39, .iconst 1, [], 0), (40, .goto 4, [24], 0), (43, .iconst 0, [], 0),
  (44, .ireturn, [], 0)]
abbrev q_M_says : Nat := 173
def m_M_says : MDt := (⟨"PenThatJumpsModel", "says", "(III)I"⟩, prog_14_method_50_code, 4, some .int, 11, 11, P_M_says)
/-- PenThatJumpsModel.leans(II)I -/
def P_M_leans : List IR := [
  (0, .aload_n 0, [], 0), (1, .iconst 0, [], 0), (2, .putfield 1, [11, 0], 1162), (5, .aload_n 0, [], 0), (6, .iload_n 1, [], 0), (7, .invokevirtual 317, [167, 2], 1457),
  (10, .ifCond .eq 10, [10], 0), (13, .iload_n 2, [], 0), (14, .invokestatic 323, [171, 1], 1465), (17, .ifCond .ne 5, [12], 0), (20, .iconst (-1), [], 0), (21, .ireturn, [], 0),
  (22, .iconst 0, [], 0), (23, .istore_n 3, [], 0), (24, .bipush (-9), [], 0), (26, .istore 4, [], 0), (28, .iload 4, [], 0), (30, .bipush 9, [], 0),
  (32, .if_icmp .gt 34, [37], 0), (35, .iload_n 3, [], 0), (36, .aload_n 0, [], 0), (37, .iload_n 1, [], 0), (38, .iload_n 2, [], 0), (39, .iload 4, [], 0),
  (41, .invokevirtual 329, [170, 4], 1471), (44, .ifCond .eq 13, [32], 0), (47, .iconst 1, [], 0), (48, .iload 4, [], 0), (50, .bipush 9, [], 0), (52, .iadd, [], 0),
  (53, .ishl, [], 0), (54, .goto 4, [33], 0), (57, .iconst 0, [], 0), (58, .ior, [], 0), (59, .istore_n 3, [], 0), (60, .iinc 4 1, [], 0),
  (63, .goto (-35), [16], 0), (66, .iload_n 3, [], 0), (67, .ireturn, [], 0)]
abbrev q_M_leans : Nat := 174
def m_M_leans : MDt := (⟨"PenThatJumpsModel", "leans", "(II)I"⟩, prog_14_method_51_code, 5, some .int, 11, 11, P_M_leans)
/-- PenThatJumpsModel.hits(II)I -/
def P_M_hits : List IR := [
  (0, .aload_n 0, [], 0), (1, .iconst 0, [], 0), (2, .putfield 1, [11, 0], 1162), (5, .aload_n 0, [], 0), (6, .iload_n 1, [], 0), (7, .invokevirtual 317, [167, 2], 1457),
  (10, .ifCond .eq 12, [12], 0), (13, .iload_n 2, [], 0), (14, .iconst 0, [], 0), (15, .iconst 2, [], 0), (16, .invokestatic 213, [140, 3], 1298), (19, .ifCond .ne 5, [14], 0),
  (22, .iconst (-1), [], 0), (23, .ireturn, [], 0), (24, .iconst (-1), [], 0), (25, .istore_n 3, [], 0), (26, .iconst (-1), [], 0), (27, .istore 4, [], 0),
  (29, .iconst 0, [], 0), (30, .istore 5, [], 0), (32, .iload 5, [], 0), (34, .aload_n 0, [], 0), (35, .getfield 135, [11, 31], 1193), (38, .iload_n 1, [], 0),
  (39, .iaload, [], 0), (40, .if_icmp .ge 127, [94], 0), (43, .aload_n 0, [], 0), (44, .getfield 147, [11, 35], 1197), (47, .bipush 36, [], 0), (49, .iload_n 1, [], 0),
  (50, .imul, [], 0), (51, .iconst 3, [], 0), (52, .iload 5, [], 0), (54, .imul, [], 0), (55, .iadd, [], 0), (56, .iload_n 2, [], 0),
  (57, .iadd, [], 0), (58, .iaload, [], 0), (59, .istore 6, [], 0), (61, .aload_n 0, [], 0), (62, .getfield 141, [11, 33], 1195), (65, .bipush 12, [], 0),
  (67, .iload_n 1, [], 0), (68, .imul, [], 0), (69, .iload 5, [], 0), (71, .iadd, [], 0), (72, .iaload, [], 0), (73, .iconst 3, [], 0),
  (74, .if_icmp .ne 7, [51], 0), (77, .iconst 1, [], 0), (78, .goto 4, [52], 0), (81, .iconst 0, [], 0), (82, .istore 7, [], 0), (84, .iload 7, [], 0),
  (86, .ifCond .eq 28, [70], 0), (89, .aload_n 0, [], 0), (90, .getfield 144, [11, 34], 1196), (93, .bipush 12, [], 0), (95, .iload_n 1, [], 0), (96, .imul, [], 0),
  (97, .iload 5, [], 0), (99, .iadd, [], 0), (100, .iaload, [], 0), (101, .aload_n 0, [], 0), (102, .getfield 138, [11, 32], 1194), (105, .iload_n 1, [], 0),
  (106, .iaload, [], 0), (107, .if_icmp .ne 7, [70], 0), (110, .iconst 1, [], 0), (111, .goto 4, [71], 0), (114, .iconst 0, [], 0), (115, .istore 8, [], 0),
  (117, .iload 8, [], 0), (119, .ifCond .eq 14, [79], 0), (122, .iload 6, [], 0), (124, .iload_n 3, [], 0), (125, .if_icmp .le 8, [79], 0), (128, .iload 6, [], 0),
  (130, .goto 4, [80], 0), (133, .iload_n 3, [], 0), (134, .istore_n 3, [], 0), (135, .iload 7, [], 0), (137, .ifCond .eq 20, [90], 0), (140, .iload 8, [], 0),
  (142, .ifCond .ne 15, [90], 0), (145, .iload 6, [], 0), (147, .iload 4, [], 0), (149, .if_icmp .le 8, [90], 0), (152, .iload 6, [], 0), (154, .goto 5, [91], 0),
  (157, .iload 4, [], 0), (159, .istore 4, [], 0), (161, .iinc 5 1, [], 0), (164, .goto (-132), [20], 0), (167, .iload 4, [], 0), (169, .ifCond .lt 13, [101], 0),
  (172, .iload 4, [], 0), (174, .iload_n 3, [], 0), (175, .if_icmp .ge 7, [101], 0), (178, .iconst 1, [], 0), (179, .goto 4, [102], 0), (182, .iconst 0, [], 0),
  (183, .ireturn, [], 0)]
abbrev q_M_hits : Nat := 175
def m_M_hits : MDt := (⟨"PenThatJumpsModel", "hits", "(II)I"⟩, prog_14_method_52_code, 9, some .int, 11, 11, P_M_hits)
/-- PenThatJumpsModel.areRates(IIII)Z -/
def P_M_areRates : List IR := [
  (0, .aload_n 0, [], 0), (1, .iload_n 1, [], 0), (2, .invokevirtual 233, [147, 2], 1360), (5, .ifCond .eq 32, [17], 0), (8, .iload_n 2, [], 0), (9, .invokestatic 323, [171, 1], 1465),
  (12, .ifCond .eq 25, [17], 0), (15, .iload_n 3, [], 0), (16, .invokestatic 326, [172, 1], 1468), (19, .ifCond .eq 18, [17], 0), (22, .iload 4, [], 0), (24, .iconst 1, [], 0),
  (25, .bipush 40, [], 0), (27, .invokestatic 213, [140, 3], 1298), (30, .ifCond .eq 7, [17], 0), (33, .iconst 1, [], 0), (34, .goto 4, [18], 0), (37, .iconst 0, [], 0),
  (38, .ireturn, [], 0)]
abbrev q_M_areRates : Nat := 176
def m_M_areRates : MDt := (⟨"PenThatJumpsModel", "areRates", "(IIII)Z"⟩, prog_14_method_53_code, 5, some .boolean, 11, 11, P_M_areRates)
/-- PenThatJumpsModel.findRates(IIII)V -/
def P_M_findRates : List IR := [
  (0, .iconst 0, [], 0), (1, .istore 5, [], 0), (3, .iload 5, [], 0), (5, .iconst 4, [], 0), (6, .if_icmp .ge 17, [12], 0), (9, .aload_n 0, [], 0),
  (10, .getfield 150, [11, 36], 1198), (13, .iload 5, [], 0), (15, .iconst 0, [], 0), (16, .iastore, [], 0), (17, .iinc 5 1, [], 0), (20, .goto (-17), [2], 0),
  (23, .iconst 0, [], 0), (24, .istore 5, [], 0), (26, .iload 5, [], 0), (28, .bipush 8, [], 0), (30, .if_icmp .ge 109, [76], 0), (33, .iconst 0, [], 0),
  (34, .istore 6, [], 0), (36, .iload 6, [], 0), (38, .iload 4, [], 0), (40, .if_icmp .ge 93, [74], 0), (43, .aload_n 0, [], 0), (44, .getfield 83, [11, 10], 1172),
  (47, .iload 5, [], 0), (49, .baload, [], 0), (50, .ifCond .eq 83, [74], 0), (53, .aload_n 0, [], 0), (54, .bipush 24, [], 0), (56, .iload 5, [], 0),
  (58, .iload_n 1, [], 0), (59, .iload 6, [], 0), (61, .aload_n 0, [], 0), (62, .getfield 96, [11, 14], 1176), (65, .iload 5, [], 0), (67, .baload, [], 0),
  (68, .invokevirtual 313, [165, 6], 1425), (71, .aload_n 0, [], 0), (72, .getfield 90, [11, 12], 1174), (75, .iload 5, [], 0), (77, .baload, [], 0), (78, .ifCond .eq 7, [44], 0),
  (81, .iconst 0, [], 0), (82, .goto 4, [45], 0), (85, .iconst 2, [], 0), (86, .istore 7, [], 0), (88, .aload_n 0, [], 0), (89, .getfield 150, [11, 36], 1198),
  (92, .iload 7, [], 0), (94, .dup2, [], 0), (95, .iaload, [], 0), (96, .aload_n 0, [], 0), (97, .bipush 24, [], 0), (99, .iload_n 2, [], 0),
  (100, .iload_n 3, [], 0), (101, .invokevirtual 329, [170, 4], 1471), (104, .ifCond .eq 7, [59], 0), (107, .iconst 1, [], 0), (108, .goto 4, [60], 0), (111, .iconst 0, [], 0),
  (112, .iadd, [], 0), (113, .iastore, [], 0), (114, .aload_n 0, [], 0), (115, .getfield 150, [11, 36], 1198), (118, .iload 7, [], 0), (120, .iconst 1, [], 0),
  (121, .iadd, [], 0), (122, .dup2, [], 0), (123, .iaload, [], 0), (124, .iconst 1, [], 0), (125, .iadd, [], 0), (126, .iastore, [], 0),
  (127, .iinc 6 1, [], 0), (130, .goto (-94), [19], 0), (133, .iinc 5 1, [], 0), (136, .goto (-110), [14], 0), (139, .return_, [], 0)]
abbrev q_M_findRates : Nat := 177
def m_M_findRates : MDt := (⟨"PenThatJumpsModel", "findRates", "(IIII)V"⟩, prog_14_method_54_code, 8, none, 11, 11, P_M_findRates)
/-- PenThatJumpsModel.rates(IIIII)I -/
def P_M_rates : List IR := [
  (0, .aload_n 0, [], 0), (1, .iconst 0, [], 0), (2, .putfield 1, [11, 0], 1162), (5, .aload_n 0, [], 0), (6, .iload_n 1, [], 0), (7, .iload_n 2, [], 0),
  (8, .iload_n 3, [], 0), (9, .iload 4, [], 0), (11, .invokevirtual 332, [176, 5], 1491), (14, .ifCond .eq 13, [15], 0), (17, .iload 5, [], 0), (19, .iconst 0, [], 0),
  (20, .iconst 3, [], 0), (21, .invokestatic 213, [140, 3], 1298), (24, .ifCond .ne 5, [17], 0), (27, .iconst (-1), [], 0), (28, .ireturn, [], 0), (29, .aload_n 0, [], 0),
  (30, .iload_n 1, [], 0), (31, .iload_n 2, [], 0), (32, .iload_n 3, [], 0), (33, .iload 4, [], 0), (35, .invokevirtual 336, [177, 5], 1495), (38, .aload_n 0, [], 0),
  (39, .getfield 150, [11, 36], 1198), (42, .iload 5, [], 0), (44, .iaload, [], 0), (45, .ireturn, [], 0)]
abbrev q_M_rates : Nat := 178
def m_M_rates : MDt := (⟨"PenThatJumpsModel", "rates", "(IIIII)I"⟩, prog_14_method_55_code, 6, some .int, 11, 11, P_M_rates)
/-- PenThatJumpsModel.tricked(IIII)I -/
def P_M_tricked : List IR := [
  (0, .aload_n 0, [], 0), (1, .iconst 0, [], 0), (2, .putfield 1, [11, 0], 1162), (5, .aload_n 0, [], 0), (6, .iload_n 1, [], 0), (7, .invokevirtual 307, [143, 2], 1421),
  (10, .ifCond .eq 15, [14], 0), (13, .aload_n 0, [], 0), (14, .iload_n 2, [], 0), (15, .iload_n 3, [], 0), (16, .iconst 0, [], 0), (17, .iload 4, [], 0),
  (19, .invokevirtual 332, [176, 5], 1491), (22, .ifCond .ne 5, [16], 0), (25, .iconst (-1), [], 0), (26, .ireturn, [], 0), (27, .iconst 0, [], 0), (28, .istore 5, [], 0),
  (30, .iconst 0, [], 0), (31, .istore 6, [], 0), (33, .iload 6, [], 0), (35, .iload 4, [], 0), (37, .if_icmp .ge 64, [58], 0), (40, .aload_n 0, [], 0),
  (41, .bipush 24, [], 0), (43, .iload_n 1, [], 0), (44, .iload_n 2, [], 0), (45, .iload 6, [], 0), (47, .iconst 1, [], 0), (48, .invokevirtual 313, [165, 6], 1425),
  (51, .aload_n 0, [], 0), (52, .bipush 24, [], 0), (54, .iload_n 3, [], 0), (55, .iconst 0, [], 0), (56, .invokevirtual 329, [170, 4], 1471), (59, .istore 7, [], 0),
  (61, .aload_n 0, [], 0), (62, .bipush 24, [], 0), (64, .iload_n 1, [], 0), (65, .iload_n 2, [], 0), (66, .iload 6, [], 0), (68, .iconst 0, [], 0),
  (69, .invokevirtual 313, [165, 6], 1425), (72, .iload 5, [], 0), (74, .aload_n 0, [], 0), (75, .bipush 24, [], 0), (77, .iload_n 3, [], 0), (78, .iconst 0, [], 0),
  (79, .invokevirtual 329, [170, 4], 1471), (82, .iload 7, [], 0), (84, .if_icmp .eq 7, [53], 0), (87, .iconst 1, [], 0), (88, .goto 4, [54], 0), (91, .iconst 0, [], 0),
  (92, .iadd, [], 0), (93, .istore 5, [], 0), (95, .iinc 6 1, [], 0), (98, .goto (-65), [20], 0), (101, .iload 5, [], 0), (103, .ireturn, [], 0)]
abbrev q_M_tricked : Nat := 179
def m_M_tricked : MDt := (⟨"PenThatJumpsModel", "tricked", "(IIII)I"⟩, prog_14_method_56_code, 8, some .int, 11, 11, P_M_tricked)
/-- PenThatJumpsModel.apartOf(III)I -/
def P_M_apartOf : List IR := [
  (0, .iconst 0, [], 0), (1, .istore 4, [], 0), (3, .iconst 0, [], 0), (4, .istore 5, [], 0), (6, .iload 5, [], 0), (8, .aload_n 0, [], 0),
  (9, .getfield 99, [11, 16], 1178), (12, .iload_n 1, [], 0), (13, .iaload, [], 0), (14, .if_icmp .ge 114, [76], 0), (17, .iconst 0, [], 0), (18, .istore 6, [], 0),
  (20, .iload 6, [], 0), (22, .bipush 12, [], 0), (24, .if_icmp .ge 98, [74], 0), (27, .aload_n 0, [], 0), (28, .bipush 12, [], 0), (30, .iload_n 1, [], 0),
  (31, .imul, [], 0), (32, .iload 5, [], 0), (34, .iadd, [], 0), (35, .aload_n 0, [], 0), (36, .iload_n 1, [], 0), (37, .iload 5, [], 0),
  (39, .invokevirtual 287, [164, 3], 1429), (42, .iload 5, [], 0), (44, .iload_n 2, [], 0), (45, .iconst 1, [], 0), (46, .iconst 0, [], 0), (47, .iconst 0, [], 0),
  (48, .invokevirtual 290, [162, 8], 1433), (51, .aload_n 0, [], 0), (52, .iload 6, [], 0), (54, .iconst 4, [], 0), (55, .idiv, [], 0), (56, .iload 6, [], 0),
  (58, .iconst 4, [], 0), (59, .irem, [], 0), (60, .invokevirtual 304, [163, 3], 1442), (63, .istore 7, [], 0), (65, .aload_n 0, [], 0), (66, .bipush 12, [], 0),
  (68, .iload_n 1, [], 0), (69, .imul, [], 0), (70, .iload 5, [], 0), (72, .iadd, [], 0), (73, .aload_n 0, [], 0), (74, .iload_n 1, [], 0),
  (75, .iload 5, [], 0), (77, .invokevirtual 287, [164, 3], 1429), (80, .iload 5, [], 0), (82, .iload_n 3, [], 0), (83, .iconst 0, [], 0), (84, .iconst 0, [], 0),
  (85, .iconst 0, [], 0), (86, .invokevirtual 290, [162, 8], 1433), (89, .iload 4, [], 0), (91, .aload_n 0, [], 0), (92, .iload 6, [], 0), (94, .iconst 4, [], 0),
  (95, .idiv, [], 0), (96, .iload 6, [], 0), (98, .iconst 4, [], 0), (99, .irem, [], 0), (100, .invokevirtual 304, [163, 3], 1442), (103, .iload 7, [], 0),
  (105, .if_icmp .eq 7, [69], 0), (108, .iconst 1, [], 0), (109, .goto 4, [70], 0), (112, .iconst 0, [], 0), (113, .iadd, [], 0), (114, .istore 4, [], 0),
  (116, .iinc 6 1, [], 0), (119, .goto (-99), [12], 0), (122, .iinc 5 1, [], 0), (125, .goto (-119), [4], 0), (128, .iload 4, [], 0), (130, .ireturn, [], 0)]
abbrev q_M_apartOf : Nat := 180
def m_M_apartOf : MDt := (⟨"PenThatJumpsModel", "apartOf", "(III)I"⟩, prog_14_method_57_code, 8, some .int, 11, 11, P_M_apartOf)
/-- PenThatJumpsModel.isFear(I)Z -/
def P_M_isFear : List IR := [
  (0, .iload_n 0, [], 0), (1, .iconst 0, [], 0), (2, .bipush 9, [], 0), (4, .invokestatic 213, [140, 3], 1298), (7, .ireturn, [], 0)]
abbrev q_M_isFear : Nat := 181
def m_M_isFear : MDt := (⟨"PenThatJumpsModel", "isFear", "(I)Z"⟩, prog_14_method_58_code, 1, some .boolean, 11, 99, P_M_isFear)
/-- PenThatJumpsModel.apart(III)I -/
def P_M_apart : List IR := [
  (0, .aload_n 0, [], 0), (1, .iconst 0, [], 0), (2, .putfield 1, [11, 0], 1162), (5, .aload_n 0, [], 0), (6, .iload_n 1, [], 0), (7, .invokevirtual 233, [147, 2], 1360),
  (10, .ifCond .eq 27, [19], 0), (13, .iload_n 2, [], 0), (14, .invokestatic 340, [181, 1], 1507), (17, .ifCond .eq 20, [19], 0), (20, .iload_n 3, [], 0), (21, .invokestatic 340, [181, 1], 1507),
  (24, .ifCond .eq 13, [19], 0), (27, .aload_n 0, [], 0), (28, .iload_n 1, [], 0), (29, .iload_n 2, [], 0), (30, .iload_n 3, [], 0), (31, .invokevirtual 343, [180, 4], 1510),
  (34, .goto 4, [20], 0), (37, .iconst (-1), [], 0), (38, .ireturn, [], 0)]
abbrev q_M_apart : Nat := 182
def m_M_apart : MDt := (⟨"PenThatJumpsModel", "apart", "(III)I"⟩, prog_14_method_59_code, 4, some .int, 11, 11, P_M_apart)
/-- PenThatJumpsModel.same(II)I -/
def P_M_same : List IR := [
  (0, .aload_n 0, [], 0), (1, .iconst 0, [], 0), (2, .putfield 1, [11, 0], 1162), (5, .aload_n 0, [], 0), (6, .iload_n 1, [], 0), (7, .invokevirtual 233, [147, 2], 1360),
  (10, .ifCond .eq 10, [10], 0), (13, .iload_n 2, [], 0), (14, .invokestatic 340, [181, 1], 1507), (17, .ifCond .ne 5, [12], 0), (20, .iconst (-1), [], 0), (21, .ireturn, [], 0),
  (22, .iconst 0, [], 0), (23, .istore_n 3, [], 0), (24, .iconst 0, [], 0), (25, .istore 4, [], 0), (27, .iload 4, [], 0), (29, .bipush 10, [], 0),
  (31, .if_icmp .ge 31, [35], 0), (34, .iload_n 3, [], 0), (35, .aload_n 0, [], 0), (36, .iload_n 1, [], 0), (37, .iload_n 2, [], 0), (38, .iload 4, [], 0),
  (40, .invokevirtual 343, [180, 4], 1510), (43, .ifCond .ne 10, [30], 0), (46, .iconst 1, [], 0), (47, .iload 4, [], 0), (49, .ishl, [], 0), (50, .goto 4, [31], 0),
  (53, .iconst 0, [], 0), (54, .ior, [], 0), (55, .istore_n 3, [], 0), (56, .iinc 4 1, [], 0), (59, .goto (-32), [16], 0), (62, .iload_n 3, [], 0),
  (63, .ireturn, [], 0)]
abbrev q_M_same : Nat := 183
def m_M_same : MDt := (⟨"PenThatJumpsModel", "same", "(II)I"⟩, prog_14_method_60_code, 5, some .int, 11, 11, P_M_same)
/-- PenThatJumpsModel.powerOf(III)I -/
def P_M_powerOf : List IR := [
  (0, .iconst 0, [], 0), (1, .istore 4, [], 0), (3, .iconst 0, [], 0), (4, .istore 5, [], 0), (6, .iconst 0, [], 0), (7, .istore 6, [], 0),
  (9, .iload 6, [], 0), (11, .iconst 4, [], 0), (12, .if_icmp .ge 17, [16], 0), (15, .aload_n 0, [], 0), (16, .getfield 153, [11, 37], 1199), (19, .iload 6, [], 0),
  (21, .iconst 0, [], 0), (22, .iastore, [], 0), (23, .iinc 6 1, [], 0), (26, .goto (-17), [6], 0), (29, .iconst 0, [], 0), (30, .istore 6, [], 0),
  (32, .iload 6, [], 0), (34, .aload_n 0, [], 0), (35, .getfield 99, [11, 16], 1178), (38, .iload_n 1, [], 0), (39, .iaload, [], 0), (40, .if_icmp .ge 149, [109], 0),
  (43, .iload_n 3, [], 0), (44, .iload 6, [], 0), (46, .ishr, [], 0), (47, .iconst 1, [], 0), (48, .iand, [], 0), (49, .iconst 1, [], 0),
  (50, .if_icmp .ne 133, [107], 0), (53, .bipush 12, [], 0), (55, .iload_n 1, [], 0), (56, .imul, [], 0), (57, .iload 6, [], 0), (59, .iadd, [], 0),
  (60, .istore 7, [], 0), (62, .iconst 0, [], 0), (63, .istore 8, [], 0), (65, .iload 8, [], 0), (67, .iconst 3, [], 0), (68, .if_icmp .ge 96, [95], 0),
  (71, .aload_n 0, [], 0), (72, .iload 7, [], 0), (74, .aload_n 0, [], 0), (75, .getfield 153, [11, 37], 1199), (78, .aload_n 0, [], 0), (79, .getfield 102, [11, 17], 1179),
  (82, .iload 7, [], 0), (84, .iaload, [], 0), (85, .iaload, [], 0), (86, .iload 5, [], 0), (88, .iload_n 2, [], 0), (89, .iconst 1, [], 0),
  (90, .iconst 0, [], 0), (91, .iconst 0, [], 0), (92, .invokevirtual 290, [162, 8], 1433), (95, .aload_n 0, [], 0), (96, .iload 8, [], 0), (98, .iconst 0, [], 0),
  (99, .invokevirtual 304, [163, 3], 1442), (102, .istore 9, [], 0), (104, .aload_n 0, [], 0), (105, .iload 7, [], 0), (107, .aload_n 0, [], 0), (108, .getfield 153, [11, 37], 1199),
  (111, .aload_n 0, [], 0), (112, .getfield 102, [11, 17], 1179), (115, .iload 7, [], 0), (117, .iaload, [], 0), (118, .iaload, [], 0), (119, .iload 5, [], 0),
  (121, .iload_n 2, [], 0), (122, .iconst 0, [], 0), (123, .iconst 0, [], 0), (124, .iconst 0, [], 0), (125, .invokevirtual 290, [162, 8], 1433), (128, .iload 9, [], 0),
  (130, .aload_n 0, [], 0), (131, .iload 8, [], 0), (133, .iconst 0, [], 0), (134, .invokevirtual 304, [163, 3], 1442), (137, .isub, [], 0), (138, .istore 10, [], 0),
  (140, .iload 4, [], 0), (142, .iload 10, [], 0), (144, .ifCond .ge 9, [90], 0), (147, .iload 10, [], 0), (149, .ineg, [], 0), (150, .goto 5, [91], 0),
  (153, .iload 10, [], 0), (155, .iadd, [], 0), (156, .istore 4, [], 0), (158, .iinc 8 1, [], 0), (161, .goto (-96), [39], 0), (164, .aload_n 0, [], 0),
  (165, .getfield 153, [11, 37], 1199), (168, .aload_n 0, [], 0), (169, .getfield 102, [11, 17], 1179), (172, .iload 7, [], 0), (174, .iaload, [], 0), (175, .dup2, [], 0),
  (176, .iaload, [], 0), (177, .iconst 1, [], 0), (178, .iadd, [], 0), (179, .iastore, [], 0), (180, .iinc 5 1, [], 0), (183, .iinc 6 1, [], 0),
  (186, .goto (-154), [18], 0), (189, .iload 4, [], 0), (191, .ireturn, [], 0)]
abbrev q_M_powerOf : Nat := 184
def m_M_powerOf : MDt := (⟨"PenThatJumpsModel", "powerOf", "(III)I"⟩, prog_14_method_61_code, 11, some .int, 11, 11, P_M_powerOf)
/-- PenThatJumpsModel.minutesOf(II)I -/
def P_M_minutesOf : List IR := [
  (0, .iconst 0, [], 0), (1, .istore_n 3, [], 0), (2, .iconst 0, [], 0), (3, .istore 4, [], 0), (5, .iload 4, [], 0), (7, .aload_n 0, [], 0),
  (8, .getfield 99, [11, 16], 1178), (11, .iload_n 1, [], 0), (12, .iaload, [], 0), (13, .if_icmp .ge 38, [32], 0), (16, .iload_n 3, [], 0), (17, .iload_n 2, [], 0),
  (18, .iload 4, [], 0), (20, .ishr, [], 0), (21, .iconst 1, [], 0), (22, .iand, [], 0), (23, .iconst 1, [], 0), (24, .if_icmp .ne 18, [27], 0),
  (27, .aload_n 0, [], 0), (28, .getfield 108, [11, 19], 1181), (31, .bipush 12, [], 0), (33, .iload_n 1, [], 0), (34, .imul, [], 0), (35, .iload 4, [], 0),
  (37, .iadd, [], 0), (38, .iaload, [], 0), (39, .goto 4, [28], 0), (42, .iconst 0, [], 0), (43, .iadd, [], 0), (44, .istore_n 3, [], 0),
  (45, .iinc 4 1, [], 0), (48, .goto (-43), [4], 0), (51, .iload_n 3, [], 0), (52, .ireturn, [], 0)]
abbrev q_M_minutesOf : Nat := 185
def m_M_minutesOf : MDt := (⟨"PenThatJumpsModel", "minutesOf", "(II)I"⟩, prog_14_method_62_code, 5, some .int, 11, 11, P_M_minutesOf)
/-- PenThatJumpsModel.best(IIII)I -/
def P_M_best : List IR := [
  (0, .aload_n 0, [], 0), (1, .iconst 0, [], 0), (2, .putfield 1, [11, 0], 1162), (5, .aload_n 0, [], 0), (6, .iload_n 1, [], 0), (7, .invokevirtual 233, [147, 2], 1360),
  (10, .ifCond .eq 30, [20], 0), (13, .iload_n 2, [], 0), (14, .invokestatic 340, [181, 1], 1507), (17, .ifCond .eq 23, [20], 0), (20, .iload_n 3, [], 0), (21, .iconst 1, [], 0),
  (22, .bipush 99, [], 0), (24, .invokestatic 213, [140, 3], 1298), (27, .ifCond .eq 13, [20], 0), (30, .iload 4, [], 0), (32, .iconst 0, [], 0), (33, .iconst 2, [], 0),
  (34, .invokestatic 213, [140, 3], 1298), (37, .ifCond .ne 5, [22], 0), (40, .iconst (-1), [], 0), (41, .ireturn, [], 0), (42, .iconst 0, [], 0), (43, .istore 5, [], 0),
  (45, .iconst 0, [], 0), (46, .istore 6, [], 0), (48, .iconst 1, [], 0), (49, .istore 7, [], 0), (51, .iload 7, [], 0), (53, .iconst 1, [], 0),
  (54, .aload_n 0, [], 0), (55, .getfield 99, [11, 16], 1178), (58, .iload_n 1, [], 0), (59, .iaload, [], 0), (60, .ishl, [], 0), (61, .if_icmp .ge 49, [59], 0),
  (64, .aload_n 0, [], 0), (65, .iload_n 1, [], 0), (66, .iload 7, [], 0), (68, .invokevirtual 346, [185, 3], 1522), (71, .iload_n 3, [], 0), (72, .if_icmp .le 7, [44], 0),
  (75, .iconst (-1), [], 0), (76, .goto 11, [49], 0), (79, .aload_n 0, [], 0), (80, .iload_n 1, [], 0), (81, .iload_n 2, [], 0), (82, .iload 7, [], 0),
  (84, .invokevirtual 349, [184, 4], 1526), (87, .istore 8, [], 0), (89, .iload 8, [], 0), (91, .iload 6, [], 0), (93, .if_icmp .le 11, [57], 0), (96, .iload 8, [], 0),
  (98, .istore 6, [], 0), (100, .iload 7, [], 0), (102, .istore 5, [], 0), (104, .iinc 7 1, [], 0), (107, .goto (-56), [28], 0), (110, .iload 4, [], 0),
  (112, .ifCond .ne 8, [63], 0), (115, .iload 6, [], 0), (117, .goto 21, [72], 0), (120, .iload 4, [], 0), (122, .iconst 1, [], 0), (123, .if_icmp .ne 8, [68], 0),
  (126, .iload 5, [], 0), (128, .goto 10, [72], 0), (131, .aload_n 0, [], 0), (132, .iload_n 1, [], 0), (133, .iload 5, [], 0), (135, .invokevirtual 346, [185, 3], 1522),
  (138, .ireturn, [], 0)]
abbrev q_M_best : Nat := 186
def m_M_best : MDt := (⟨"PenThatJumpsModel", "best", "(IIII)I"⟩, prog_14_method_63_code, 9, some .int, 11, 11, P_M_best)
/-- PenThatJumpsModel.common(JJ)J -/
def P_M_common : List IR := [
  (0, .lload_n 0, [], 0), (1, .lconst 0, [], 0), (2, .lcmp, [], 0), (3, .ifCond .ge 8, [7], 0), (6, .lload_n 0, [], 0), (7, .lneg, [], 0),
  (8, .goto 4, [8], 0), (11, .lload_n 0, [], 0), (12, .lstore 4, [], 0), (14, .lload_n 2, [], 0), (15, .lconst 0, [], 0), (16, .lcmp, [], 0),
  (17, .ifCond .ge 8, [16], 0), (20, .lload_n 2, [], 0), (21, .lneg, [], 0), (22, .goto 4, [17], 0), (25, .lload_n 2, [], 0), (26, .lstore 6, [], 0),
  (28, .lload 6, [], 0), (30, .lconst 0, [], 0), (31, .lcmp, [], 0), (32, .ifCond .eq 21, [31], 0), (35, .lload 4, [], 0), (37, .lload 6, [], 0),
  (39, .lrem, [], 0), (40, .lstore 8, [], 0), (42, .lload 6, [], 0), (44, .lstore 4, [], 0), (46, .lload 8, [], 0), (48, .lstore 6, [], 0),
  (50, .goto (-22), [18], 0), (53, .lload 4, [], 0), (55, .lreturn, [], 0)]
abbrev q_M_common : Nat := 187
def m_M_common : MDt := (⟨"PenThatJumpsModel", "common", "(JJ)J"⟩, prog_14_method_64_code, 10, some .long, 11, 99, P_M_common)
/-- PenThatJumpsModel.lowest(JJI)J -/
def P_M_lowest : List IR := [
  (0, .lload_n 0, [], 0), (1, .lload_n 2, [], 0), (2, .invokestatic 352, [187, 2], 1544), (5, .lstore 5, [], 0), (7, .iload 4, [], 0), (9, .ifCond .ne 10, [10], 0),
  (12, .lload_n 0, [], 0), (13, .lload 5, [], 0), (15, .ldiv, [], 0), (16, .goto 7, [13], 0), (19, .lload_n 2, [], 0), (20, .lload 5, [], 0),
  (22, .ldiv, [], 0), (23, .lreturn, [], 0)]
abbrev q_M_lowest : Nat := 188
def m_M_lowest : MDt := (⟨"PenThatJumpsModel", "lowest", "(JJI)J"⟩, prog_14_method_65_code, 7, some .long, 11, 99, P_M_lowest)
/-- PenThatJumpsModel.power(JI)J -/
def P_M_power : List IR := [
  (0, .lconst 1, [], 0), (1, .lstore_n 3, [], 0), (2, .iconst 0, [], 0), (3, .istore 5, [], 0), (5, .iload 5, [], 0), (7, .iload_n 2, [], 0),
  (8, .if_icmp .ge 13, [13], 0), (11, .lload_n 3, [], 0), (12, .lload_n 0, [], 0), (13, .lmul, [], 0), (14, .lstore_n 3, [], 0), (15, .iinc 5 1, [], 0),
  (18, .goto (-13), [4], 0), (21, .lload_n 3, [], 0), (22, .lreturn, [], 0)]
abbrev q_M_power : Nat := 189
def m_M_power : MDt := (⟨"PenThatJumpsModel", "power", "(JI)J"⟩, prog_14_method_66_code, 6, some .long, 11, 99, P_M_power)
/-- PenThatJumpsModel.choices(II)J -/
def P_M_choices : List IR := [
  (0, .lconst 1, [], 0), (1, .lstore_n 2, [], 0), (2, .iconst 0, [], 0), (3, .istore 4, [], 0), (5, .iload 4, [], 0), (7, .iload_n 1, [], 0),
  (8, .if_icmp .ge 23, [21], 0), (11, .lload_n 2, [], 0), (12, .iload_n 0, [], 0), (13, .iload 4, [], 0), (15, .isub, [], 0), (16, .i2l, [], 0),
  (17, .lmul, [], 0), (18, .iload 4, [], 0), (20, .iconst 1, [], 0), (21, .iadd, [], 0), (22, .i2l, [], 0), (23, .ldiv, [], 0),
  (24, .lstore_n 2, [], 0), (25, .iinc 4 1, [], 0), (28, .goto (-23), [4], 0), (31, .lload_n 2, [], 0), (32, .lreturn, [], 0)]
abbrev q_M_choices : Nat := 190
def m_M_choices : MDt := (⟨"PenThatJumpsModel", "choices", "(II)J"⟩, prog_14_method_67_code, 5, some .long, 11, 99, P_M_choices)
/-- PenThatJumpsModel.odds(IIII)J -/
def P_M_odds : List IR := [
  (0, .aload_n 0, [], 0), (1, .iconst 0, [], 0), (2, .putfield 1, [11, 0], 1162), (5, .iload_n 1, [], 0), (6, .iconst 1, [], 0), (7, .bipush 9, [], 0),
  (9, .invokestatic 213, [140, 3], 1298), (12, .ifCond .eq 32, [23], 0), (15, .iload_n 2, [], 0), (16, .iconst 2, [], 0), (17, .bipush 9, [], 0), (19, .invokestatic 213, [140, 3], 1298),
  (22, .ifCond .eq 22, [23], 0), (25, .iload_n 3, [], 0), (26, .iconst 0, [], 0), (27, .iload_n 1, [], 0), (28, .invokestatic 213, [140, 3], 1298), (31, .ifCond .eq 13, [23], 0),
  (34, .iload 4, [], 0), (36, .iconst 0, [], 0), (37, .iconst 1, [], 0), (38, .invokestatic 213, [140, 3], 1298), (41, .ifCond .ne 7, [25], 0), (44, .ldc2_w 356, [1, 1], 1534),
  (47, .lreturn, [], 0), (48, .lconst 0, [], 0), (49, .lstore 5, [], 0), (51, .iload_n 3, [], 0), (52, .istore 7, [], 0), (54, .iload 7, [], 0),
  (56, .iload_n 1, [], 0), (57, .if_icmp .gt 32, [49], 0), (60, .lload 5, [], 0), (62, .iload_n 1, [], 0), (63, .iload 7, [], 0), (65, .invokestatic 358, [190, 2], 1535),
  (68, .iload_n 2, [], 0), (69, .i2l, [], 0), (70, .lconst 1, [], 0), (71, .lsub, [], 0), (72, .iload_n 1, [], 0), (73, .iload 7, [], 0),
  (75, .isub, [], 0), (76, .invokestatic 362, [189, 2], 1538), (79, .lmul, [], 0), (80, .ladd, [], 0), (81, .lstore 5, [], 0), (83, .iinc 7 1, [], 0),
  (86, .goto (-32), [29], 0), (89, .lload 5, [], 0), (91, .iload_n 2, [], 0), (92, .i2l, [], 0), (93, .iload_n 1, [], 0), (94, .invokestatic 362, [189, 2], 1538),
  (97, .iload 4, [], 0), (99, .invokestatic 366, [188, 3], 1541), (102, .lreturn, [], 0)]
abbrev q_M_odds : Nat := 191
def m_M_odds : MDt := (⟨"PenThatJumpsModel", "odds", "(IIII)J"⟩, prog_14_method_68_code, 8, some .long, 11, 11, P_M_odds)
/-- PenThatJumpsModel.items(II)I -/
def P_M_items : List IR := [
  (0, .aload_n 0, [], 0), (1, .iconst 0, [], 0), (2, .putfield 1, [11, 0], 1162), (5, .iload_n 1, [], 0), (6, .iconst 2, [], 0), (7, .bipush 9, [], 0),
  (9, .invokestatic 213, [140, 3], 1298), (12, .ifCond .eq 14, [13], 0), (15, .iload_n 2, [], 0), (16, .iconst 1, [], 0), (17, .ldc_w 370, [999999999], 1551), (20, .invokestatic 213, [140, 3], 1298),
  (23, .ifCond .ne 5, [15], 0), (26, .iconst (-1), [], 0), (27, .ireturn, [], 0), (28, .iconst 1, [], 0), (29, .istore_n 3, [], 0), (30, .iload_n 3, [], 0),
  (31, .bipush 9, [], 0), (33, .if_icmp .gt 23, [32], 0), (36, .iload_n 1, [], 0), (37, .i2l, [], 0), (38, .iload_n 3, [], 0), (39, .invokestatic 362, [189, 2], 1538),
  (42, .iload_n 2, [], 0), (43, .i2l, [], 0), (44, .lcmp, [], 0), (45, .ifCond .lt 5, [30], 0), (48, .iload_n 3, [], 0), (49, .ireturn, [], 0),
  (50, .iinc 3 1, [], 0), (53, .goto (-23), [17], 0), (56, .iconst (-1), [], 0), (57, .ireturn, [], 0)]
abbrev q_M_items : Nat := 192
def m_M_items : MDt := (⟨"PenThatJumpsModel", "items", "(II)I"⟩, prog_14_method_69_code, 4, some .int, 11, 11, P_M_items)
/-- PenThatJumpsModel.named(IIIIIII)J -/
def P_M_named : List IR := [
  (0, .aload_n 0, [], 0), (1, .iconst 0, [], 0), (2, .putfield 1, [11, 0], 1162), (5, .iload_n 1, [], 0), (6, .iconst 1, [], 0), (7, .sipush 9999, [], 0),
  (10, .invokestatic 213, [140, 3], 1298), (13, .ifCond .eq 36, [25], 0), (16, .iload_n 2, [], 0), (17, .iconst 0, [], 0), (18, .iload_n 1, [], 0), (19, .invokestatic 213, [140, 3], 1298),
  (22, .ifCond .eq 27, [25], 0), (25, .aload_n 0, [], 0), (26, .iload_n 3, [], 0), (27, .iload 4, [], 0), (29, .iload 5, [], 0), (31, .iload 6, [], 0),
  (33, .invokevirtual 332, [176, 5], 1491), (36, .ifCond .eq 13, [25], 0), (39, .iload 7, [], 0), (41, .iconst 0, [], 0), (42, .iconst 1, [], 0), (43, .invokestatic 213, [140, 3], 1298),
  (46, .ifCond .ne 7, [27], 0), (49, .ldc2_w 356, [1, 1], 1534), (52, .lreturn, [], 0), (53, .aload_n 0, [], 0), (54, .iload_n 3, [], 0), (55, .iload 4, [], 0),
  (57, .iload 5, [], 0), (59, .iload 6, [], 0), (61, .invokevirtual 336, [177, 5], 1495), (64, .aload_n 0, [], 0), (65, .getfield 150, [11, 36], 1198), (68, .iconst 1, [], 0),
  (69, .iaload, [], 0), (70, .ifCond .eq 12, [43], 0), (73, .aload_n 0, [], 0), (74, .getfield 150, [11, 36], 1198), (77, .iconst 3, [], 0), (78, .iaload, [], 0),
  (79, .ifCond .ne 7, [45], 0), (82, .ldc2_w 356, [1, 1], 1534), (85, .lreturn, [], 0), (86, .iload_n 2, [], 0), (87, .i2l, [], 0), (88, .aload_n 0, [], 0),
  (89, .getfield 150, [11, 36], 1198), (92, .iconst 0, [], 0), (93, .iaload, [], 0), (94, .i2l, [], 0), (95, .lmul, [], 0), (96, .aload_n 0, [], 0),
  (97, .getfield 150, [11, 36], 1198), (100, .iconst 3, [], 0), (101, .iaload, [], 0), (102, .i2l, [], 0), (103, .lmul, [], 0), (104, .lstore 8, [], 0),
  (106, .lload 8, [], 0), (108, .iload_n 1, [], 0), (109, .iload_n 2, [], 0), (110, .isub, [], 0), (111, .i2l, [], 0), (112, .aload_n 0, [], 0),
  (113, .getfield 150, [11, 36], 1198), (116, .iconst 2, [], 0), (117, .iaload, [], 0), (118, .i2l, [], 0), (119, .lmul, [], 0), (120, .aload_n 0, [], 0),
  (121, .getfield 150, [11, 36], 1198), (124, .iconst 1, [], 0), (125, .iaload, [], 0), (126, .i2l, [], 0), (127, .lmul, [], 0), (128, .ladd, [], 0),
  (129, .lstore 10, [], 0), (131, .lload 10, [], 0), (133, .lconst 0, [], 0), (134, .lcmp, [], 0), (135, .ifCond .ne 9, [86], 0), (138, .iload 7, [], 0),
  (140, .i2l, [], 0), (141, .goto 12, [90], 0), (144, .lload 8, [], 0), (146, .lload 10, [], 0), (148, .iload 7, [], 0), (150, .invokestatic 366, [188, 3], 1541),
  (153, .lreturn, [], 0)]
abbrev q_M_named : Nat := 193
def m_M_named : MDt := (⟨"PenThatJumpsModel", "named", "(IIIIIII)J"⟩, prog_14_method_70_code, 12, some .long, 11, 11, P_M_named)
/-- PenThatJumpsModel.confess(ZZZI)Z -/
def P_M_confess : List IR := [
  (0, .aload_n 0, [], 0), (1, .iconst 0, [], 0), (2, .putfield 1, [11, 0], 1162), (5, .iload 4, [], 0), (7, .iconst 0, [], 0), (8, .sipush 9999, [], 0),
  (11, .invokestatic 213, [140, 3], 1298), (14, .ifCond .ne 5, [10], 0), (17, .iconst 0, [], 0), (18, .ireturn, [], 0), (19, .aload_n 0, [], 0), (20, .getfield 156, [11, 38], 1200),
  (23, .iload_n 1, [], 0), (24, .ifCond .eq 7, [16], 0), (27, .iconst 4, [], 0), (28, .goto 4, [17], 0), (31, .iconst 0, [], 0), (32, .iload_n 2, [], 0),
  (33, .ifCond .eq 7, [21], 0), (36, .iconst 2, [], 0), (37, .goto 4, [22], 0), (40, .iconst 0, [], 0), (41, .iadd, [], 0), (42, .iload_n 3, [], 0),
  (43, .ifCond .eq 7, [27], 0), (46, .iconst 1, [], 0), (47, .goto 4, [28], 0), (50, .iconst 0, [], 0), (51, .iadd, [], 0), (52, .dup2, [], 0),
  (53, .laload, [], 0), (54, .iload 4, [], 0), (56, .i2l, [], 0), (57, .ladd, [], 0), (58, .lastore, [], 0), (59, .iconst 1, [], 0),
  (60, .ireturn, [], 0)]
abbrev q_M_confess : Nat := 194
def m_M_confess : MDt := (⟨"PenThatJumpsModel", "confess", "(ZZZI)Z"⟩, prog_14_method_71_code, 5, some .boolean, 11, 11, P_M_confess)
/-- PenThatJumpsModel.confessedOf(III)J -/
def P_M_confessedOf : List IR := [
  (0, .lconst 0, [], 0), (1, .lstore 4, [], 0), (3, .iconst 0, [], 0), (4, .istore 6, [], 0), (6, .iload 6, [], 0), (8, .iconst 2, [], 0),
  (9, .if_icmp .ge 73, [47], 0), (12, .iload_n 1, [], 0), (13, .iconst 2, [], 0), (14, .if_icmp .eq 26, [22], 0), (17, .iload_n 1, [], 0), (18, .ifCond .ne 7, [14], 0),
  (21, .iconst 1, [], 0), (22, .goto 4, [15], 0), (25, .iconst 0, [], 0), (26, .iload 6, [], 0), (28, .iconst 1, [], 0), (29, .if_icmp .ne 7, [20], 0),
  (32, .iconst 1, [], 0), (33, .goto 4, [21], 0), (36, .iconst 0, [], 0), (37, .if_icmp .ne 7, [24], 0), (40, .iconst 1, [], 0), (41, .goto 4, [25], 0),
  (44, .iconst 0, [], 0), (45, .istore 7, [], 0), (47, .lload 4, [], 0), (49, .iload 7, [], 0), (51, .ifCond .eq 21, [42], 0), (54, .aload_n 0, [], 0),
  (55, .getfield 156, [11, 38], 1200), (58, .iconst 4, [], 0), (59, .iload 6, [], 0), (61, .imul, [], 0), (62, .iconst 2, [], 0), (63, .iload_n 2, [], 0),
  (64, .imul, [], 0), (65, .iadd, [], 0), (66, .iload_n 3, [], 0), (67, .iadd, [], 0), (68, .laload, [], 0), (69, .goto 4, [43], 0),
  (72, .lconst 0, [], 0), (73, .ladd, [], 0), (74, .lstore 4, [], 0), (76, .iinc 6 1, [], 0), (79, .goto (-73), [4], 0), (82, .lload 4, [], 0),
  (84, .lreturn, [], 0)]
abbrev q_M_confessedOf : Nat := 195
def m_M_confessedOf : MDt := (⟨"PenThatJumpsModel", "confessedOf", "(III)J"⟩, prog_14_method_72_code, 8, some .long, 11, 11, P_M_confessedOf)
/-- PenThatJumpsModel.worth(II)J -/
def P_M_worth : List IR := [
  (0, .aload_n 0, [], 0), (1, .iload_n 1, [], 0), (2, .iconst 0, [], 0), (3, .iconst 2, [], 0), (4, .invokestatic 213, [140, 3], 1298), (7, .ifCond .eq 16, [13], 0),
  (10, .iload_n 2, [], 0), (11, .iconst 0, [], 0), (12, .iconst 1, [], 0), (13, .invokestatic 213, [140, 3], 1298), (16, .ifCond .eq 7, [13], 0), (19, .iconst 0, [], 0),
  (20, .goto 4, [14], 0), (23, .iconst 1, [], 0), (24, .putfield 1, [11, 0], 1162), (27, .aload_n 0, [], 0), (28, .getfield 1, [11, 0], 1162), (31, .ifCond .le 5, [20], 0),
  (34, .lconst 0, [], 0), (35, .lreturn, [], 0), (36, .aload_n 0, [], 0), (37, .iload_n 1, [], 0), (38, .iconst 1, [], 0), (39, .iconst 1, [], 0),
  (40, .invokevirtual 371, [195, 4], 1564), (43, .lstore_n 3, [], 0), (44, .lload_n 3, [], 0), (45, .aload_n 0, [], 0), (46, .iload_n 1, [], 0), (47, .iconst 1, [], 0),
  (48, .iconst 0, [], 0), (49, .invokevirtual 371, [195, 4], 1564), (52, .ladd, [], 0), (53, .lstore 5, [], 0), (55, .aload_n 0, [], 0), (56, .iload_n 1, [], 0),
  (57, .iconst 0, [], 0), (58, .iconst 1, [], 0), (59, .invokevirtual 371, [195, 4], 1564), (62, .lstore 7, [], 0), (64, .lload 7, [], 0), (66, .aload_n 0, [], 0),
  (67, .iload_n 1, [], 0), (68, .iconst 0, [], 0), (69, .iconst 0, [], 0), (70, .invokevirtual 371, [195, 4], 1564), (73, .ladd, [], 0), (74, .lstore 9, [], 0),
  (76, .aload_n 0, [], 0), (77, .lload 5, [], 0), (79, .lconst 0, [], 0), (80, .lcmp, [], 0), (81, .ifCond .eq 10, [57], 0), (84, .lload 9, [], 0),
  (86, .lconst 0, [], 0), (87, .lcmp, [], 0), (88, .ifCond .ne 7, [59], 0), (91, .iconst 1, [], 0), (92, .goto 4, [60], 0), (95, .iconst 0, [], 0),
  (96, .putfield 1, [11, 0], 1162), (99, .aload_n 0, [], 0), (100, .getfield 1, [11, 0], 1162), (103, .ifCond .le 7, [66], 0), (106, .lconst 0, [], 0), (107, .goto 22, [78], 0),
  (110, .lload_n 3, [], 0), (111, .lload 9, [], 0), (113, .lmul, [], 0), (114, .lload 7, [], 0), (116, .lload 5, [], 0), (118, .lmul, [], 0),
  (119, .lsub, [], 0), (120, .lload 5, [], 0), (122, .lload 9, [], 0), (124, .lmul, [], 0), (125, .iload_n 2, [], 0), (126, .invokestatic 366, [188, 3], 1541),
  (129, .lreturn, [], 0)]
abbrev q_M_worth : Nat := 196
def m_M_worth : MDt := (⟨"PenThatJumpsModel", "worth", "(II)J"⟩, prog_14_method_73_code, 11, some .long, 11, 11, P_M_worth)
/-- PenThatJumpsModel.paper(ZII)Z -/
def P_M_paper : List IR := [
  (0, .aload_n 0, [], 0), (1, .iconst 0, [], 0), (2, .putfield 1, [11, 0], 1162), (5, .iload_n 2, [], 0), (6, .iconst 1, [], 0), (7, .sipush 9999, [], 0),
  (10, .invokestatic 213, [140, 3], 1298), (13, .ifCond .eq 12, [13], 0), (16, .iload_n 3, [], 0), (17, .iconst 0, [], 0), (18, .iload_n 2, [], 0), (19, .invokestatic 213, [140, 3], 1298),
  (22, .ifCond .ne 5, [15], 0), (25, .iconst 0, [], 0), (26, .ireturn, [], 0), (27, .aload_n 0, [], 0), (28, .getfield 159, [11, 39], 1201), (31, .iload_n 1, [], 0),
  (32, .ifCond .eq 7, [21], 0), (35, .iconst 0, [], 0), (36, .goto 4, [22], 0), (39, .iconst 2, [], 0), (40, .dup2, [], 0), (41, .laload, [], 0),
  (42, .iload_n 2, [], 0), (43, .i2l, [], 0), (44, .ladd, [], 0), (45, .lastore, [], 0), (46, .aload_n 0, [], 0), (47, .getfield 159, [11, 39], 1201),
  (50, .iload_n 1, [], 0), (51, .ifCond .eq 7, [34], 0), (54, .iconst 1, [], 0), (55, .goto 4, [35], 0), (58, .iconst 3, [], 0), (59, .dup2, [], 0),
  (60, .laload, [], 0), (61, .iload_n 3, [], 0), (62, .i2l, [], 0), (63, .ladd, [], 0), (64, .lastore, [], 0), (65, .iconst 1, [], 0),
  (66, .ireturn, [], 0)]
abbrev q_M_paper : Nat := 197
def m_M_paper : MDt := (⟨"PenThatJumpsModel", "paper", "(ZII)Z"⟩, prog_14_method_74_code, 4, some .boolean, 11, 11, P_M_paper)
/-- PenThatJumpsModel.lean(I)J -/
def P_M_lean : List IR := [
  (0, .aload_n 0, [], 0), (1, .iload_n 1, [], 0), (2, .iconst 0, [], 0), (3, .iconst 1, [], 0), (4, .invokestatic 213, [140, 3], 1298), (7, .ifCond .eq 29, [22], 0),
  (10, .aload_n 0, [], 0), (11, .getfield 159, [11, 39], 1201), (14, .iconst 0, [], 0), (15, .laload, [], 0), (16, .lconst 0, [], 0), (17, .lcmp, [], 0),
  (18, .ifCond .le 18, [22], 0), (21, .aload_n 0, [], 0), (22, .getfield 159, [11, 39], 1201), (25, .iconst 2, [], 0), (26, .laload, [], 0), (27, .lconst 0, [], 0),
  (28, .lcmp, [], 0), (29, .ifCond .le 7, [22], 0), (32, .iconst 0, [], 0), (33, .goto 4, [23], 0), (36, .iconst 1, [], 0), (37, .putfield 1, [11, 0], 1162),
  (40, .aload_n 0, [], 0), (41, .getfield 1, [11, 0], 1162), (44, .ifCond .le 7, [29], 0), (47, .lconst 0, [], 0), (48, .goto 47, [59], 0), (51, .aload_n 0, [], 0),
  (52, .getfield 159, [11, 39], 1201), (55, .iconst 1, [], 0), (56, .laload, [], 0), (57, .aload_n 0, [], 0), (58, .getfield 159, [11, 39], 1201), (61, .iconst 2, [], 0),
  (62, .laload, [], 0), (63, .lmul, [], 0), (64, .aload_n 0, [], 0), (65, .getfield 159, [11, 39], 1201), (68, .iconst 3, [], 0), (69, .laload, [], 0),
  (70, .aload_n 0, [], 0), (71, .getfield 159, [11, 39], 1201), (74, .iconst 0, [], 0), (75, .laload, [], 0), (76, .lmul, [], 0), (77, .lsub, [], 0),
  (78, .aload_n 0, [], 0), (79, .getfield 159, [11, 39], 1201), (82, .iconst 0, [], 0), (83, .laload, [], 0), (84, .aload_n 0, [], 0), (85, .getfield 159, [11, 39], 1201),
  (88, .iconst 2, [], 0), (89, .laload, [], 0), (90, .lmul, [], 0), (91, .iload_n 1, [], 0), (92, .invokestatic 366, [188, 3], 1541), (95, .lreturn, [], 0)]
abbrev q_M_lean : Nat := 198
def m_M_lean : MDt := (⟨"PenThatJumpsModel", "lean", "(I)J"⟩, prog_14_method_75_code, 2, some .long, 11, 11, P_M_lean)
/-- PenThatJumpsModel.mark(IZ)Z -/
def P_M_mark : List IR := [
  (0, .aload_n 0, [], 0), (1, .iconst 0, [], 0), (2, .putfield 1, [11, 0], 1162), (5, .iload_n 1, [], 0), (6, .iconst 0, [], 0), (7, .iconst 3, [], 0),
  (8, .invokestatic 213, [140, 3], 1298), (11, .ifCond .eq 29, [22], 0), (14, .iload_n 2, [], 0), (15, .ifCond .eq 27, [24], 0), (18, .aload_n 0, [], 0), (19, .getfield 162, [11, 40], 1202),
  (22, .iload_n 1, [], 0), (23, .baload, [], 0), (24, .ifCond .eq 16, [22], 0), (27, .aload_n 0, [], 0), (28, .getfield 310, [11, 30], 1192), (31, .aload_n 0, [], 0),
  (32, .getfield 165, [11, 41], 1203), (35, .iload_n 1, [], 0), (36, .iaload, [], 0), (37, .if_icmp .ge 5, [24], 0), (40, .iconst 0, [], 0), (41, .ireturn, [], 0),
  (42, .iload_n 2, [], 0), (43, .ifCond .eq 16, [33], 0), (46, .aload_n 0, [], 0), (47, .aload_n 0, [], 0), (48, .getfield 165, [11, 41], 1203), (51, .iload_n 1, [], 0),
  (52, .iaload, [], 0), (53, .putfield 310, [11, 30], 1192), (56, .goto 20, [44], 0), (59, .aload_n 0, [], 0), (60, .getfield 162, [11, 40], 1202), (63, .iload_n 1, [], 0),
  (64, .iconst 1, [], 0), (65, .bastore, [], 0), (66, .aload_n 0, [], 0), (67, .getfield 165, [11, 41], 1203), (70, .iload_n 1, [], 0), (71, .aload_n 0, [], 0),
  (72, .getfield 310, [11, 30], 1192), (75, .iastore, [], 0), (76, .iconst 0, [], 0), (77, .istore_n 3, [], 0), (78, .iload_n 3, [], 0), (79, .bipush 12, [], 0),
  (81, .if_icmp .ge 97, [106], 0), (84, .iload_n 2, [], 0), (85, .ifCond .ne 41, [74], 0), (88, .aload_n 0, [], 0), (89, .getfield 168, [11, 42], 1204), (92, .bipush 12, [], 0),
  (94, .iload_n 1, [], 0), (95, .imul, [], 0), (96, .iload_n 3, [], 0), (97, .iadd, [], 0), (98, .iload_n 3, [], 0), (99, .bipush 8, [], 0),
  (101, .if_icmp .ge 12, [66], 0), (104, .aload_n 0, [], 0), (105, .getfield 156, [11, 38], 1200), (108, .iload_n 3, [], 0), (109, .laload, [], 0), (110, .goto 12, [72], 0),
  (113, .aload_n 0, [], 0), (114, .getfield 159, [11, 39], 1201), (117, .iload_n 3, [], 0), (118, .bipush 8, [], 0), (120, .isub, [], 0), (121, .laload, [], 0),
  (122, .lastore, [], 0), (123, .goto 49, [104], 0), (126, .iload_n 3, [], 0), (127, .bipush 8, [], 0), (129, .if_icmp .ge 23, [90], 0), (132, .aload_n 0, [], 0),
  (133, .getfield 156, [11, 38], 1200), (136, .iload_n 3, [], 0), (137, .aload_n 0, [], 0), (138, .getfield 168, [11, 42], 1204), (141, .bipush 12, [], 0), (143, .iload_n 1, [], 0),
  (144, .imul, [], 0), (145, .iload_n 3, [], 0), (146, .iadd, [], 0), (147, .laload, [], 0), (148, .lastore, [], 0), (149, .goto 23, [104], 0),
  (152, .aload_n 0, [], 0), (153, .getfield 159, [11, 39], 1201), (156, .iload_n 3, [], 0), (157, .bipush 8, [], 0), (159, .isub, [], 0), (160, .aload_n 0, [], 0),
  (161, .getfield 168, [11, 42], 1204), (164, .bipush 12, [], 0), (166, .iload_n 1, [], 0), (167, .imul, [], 0), (168, .iload_n 3, [], 0), (169, .iadd, [], 0),
  (170, .laload, [], 0), (171, .lastore, [], 0), (172, .iinc 3 1, [], 0), (175, .goto (-97), [46], 0), (178, .iconst 1, [], 0), (179, .ireturn, [], 0)]
abbrev q_M_mark : Nat := 199
def m_M_mark : MDt := (⟨"PenThatJumpsModel", "mark", "(IZ)Z"⟩, prog_14_method_76_code, 4, some .boolean, 11, 11, P_M_mark)
/-- PenThatJumpsModel.count(I)I -/
def P_M_count : List IR := [
  (0, .aload_n 0, [], 0), (1, .iconst 0, [], 0), (2, .putfield 1, [11, 0], 1162), (5, .lconst 0, [], 0), (6, .lstore_n 2, [], 0), (7, .iload_n 1, [], 0),
  (8, .tableswitch 225 0 7 #[48, 99, 135, 48, 140, 169, 184, 189], [111, 7, 35, 56, 7, 59, 76, 87, 90], 0), (56, .iconst 0, [], 0), (57, .istore 4, [], 0), (59, .iload 4, [], 0), (61, .bipush 8, [], 0), (63, .if_icmp .ge 41, [32], 0),
  (66, .lload_n 2, [], 0), (67, .aload_n 0, [], 0), (68, .getfield 83, [11, 10], 1172), (71, .iload 4, [], 0), (73, .baload, [], 0), (74, .ifCond .eq 21, [27], 0),
  (77, .iload_n 1, [], 0), (78, .ifCond .eq 13, [25], 0), (81, .aload_n 0, [], 0), (82, .getfield 90, [11, 12], 1174), (85, .iload 4, [], 0), (87, .baload, [], 0),
  (88, .ifCond .eq 7, [27], 0), (91, .lconst 1, [], 0), (92, .goto 4, [28], 0), (95, .lconst 0, [], 0), (96, .ladd, [], 0), (97, .lstore_n 2, [], 0),
  (98, .iinc 4 1, [], 0), (101, .goto (-42), [9], 0), (104, .lload_n 2, [], 0), (105, .l2i, [], 0), (106, .ireturn, [], 0), (107, .iconst 0, [], 0),
  (108, .istore 4, [], 0), (110, .iload 4, [], 0), (112, .iconst 4, [], 0), (113, .if_icmp .ge 27, [53], 0), (116, .lload_n 2, [], 0), (117, .aload_n 0, [], 0),
  (118, .getfield 99, [11, 16], 1178), (121, .iload 4, [], 0), (123, .iaload, [], 0), (124, .ifCond .le 7, [48], 0), (127, .lconst 1, [], 0), (128, .goto 4, [49], 0),
  (131, .lconst 0, [], 0), (132, .ladd, [], 0), (133, .lstore_n 2, [], 0), (134, .iinc 4 1, [], 0), (137, .goto (-27), [37], 0), (140, .lload_n 2, [], 0),
  (141, .l2i, [], 0), (142, .ireturn, [], 0), (143, .aload_n 0, [], 0), (144, .getfield 310, [11, 30], 1192), (147, .ireturn, [], 0), (148, .iconst 0, [], 0),
  (149, .istore 4, [], 0), (151, .iload 4, [], 0), (153, .bipush 8, [], 0), (155, .if_icmp .ge 19, [73], 0), (158, .lload_n 2, [], 0), (159, .aload_n 0, [], 0),
  (160, .getfield 156, [11, 38], 1200), (163, .iload 4, [], 0), (165, .laload, [], 0), (166, .ladd, [], 0), (167, .lstore_n 2, [], 0), (168, .iinc 4 1, [], 0),
  (171, .goto (-20), [61], 0), (174, .lload_n 2, [], 0), (175, .l2i, [], 0), (176, .ireturn, [], 0), (177, .aload_n 0, [], 0), (178, .getfield 159, [11, 39], 1201),
  (181, .iconst 0, [], 0), (182, .laload, [], 0), (183, .aload_n 0, [], 0), (184, .getfield 159, [11, 39], 1201), (187, .iconst 2, [], 0), (188, .laload, [], 0),
  (189, .ladd, [], 0), (190, .l2i, [], 0), (191, .ireturn, [], 0), (192, .aload_n 0, [], 0), (193, .getfield 11, [11, 2], 1164), (196, .ireturn, [], 0),
  (197, .iconst 0, [], 0), (198, .istore 4, [], 0), (200, .iload 4, [], 0), (202, .iconst 3, [], 0), (203, .if_icmp .ge 27, [108], 0), (206, .lload_n 2, [], 0),
  (207, .aload_n 0, [], 0), (208, .getfield 117, [11, 24], 1186), (211, .iload 4, [], 0), (213, .iaload, [], 0), (214, .ifCond .lt 7, [103], 0), (217, .lconst 1, [], 0),
  (218, .goto 4, [104], 0), (221, .lconst 0, [], 0), (222, .ladd, [], 0), (223, .lstore_n 2, [], 0), (224, .iinc 4 1, [], 0), (227, .goto (-27), [92], 0),
  (230, .lload_n 2, [], 0), (231, .l2i, [], 0), (232, .ireturn, [], 0), (233, .iconst (-1), [], 0), (234, .ireturn, [], 0)]
abbrev q_M_count : Nat := 200
def m_M_count : MDt := (⟨"PenThatJumpsModel", "count", "(I)I"⟩, prog_14_method_77_code, 5, some .int, 11, 11, P_M_count)
/-- java/lang/String.length()I -/
def P_St_length : List IR := [
  (0, .aload_n 0, [], 0), (1, .getfield 9, [42, 0], 1603), (4, .arraylength, [], 0), (5, .aload_n 0, [], 0), (6, .invokevirtual 335, [203, 1], 541), (9, .ishr, [], 0),
  (10, .ireturn, [], 0)]
abbrev q_St_length : Nat := 201
def m_St_length : MDt := (⟨"java/lang/String", "length", "()I"⟩, prog_23_method_54_code, 1, some .int, 15, 42, P_St_length)
/-- java/lang/String.charAt(I)C -/
def P_St_charAt : List IR := [
  (0, .aload_n 0, [], 0), (1, .invokevirtual 492, [204, 1], 551), (4, .ifCond .eq 12, [8], 0), (7, .aload_n 0, [], 0), (8, .getfield 9, [42, 0], 1603), (11, .iload_n 1, [], 0),
  (12, .invokestatic 495, [206, 2], 555), (15, .ireturn, [], 0), (16, .aload_n 0, [], 0), (17, .getfield 9, [42, 0], 1603), (20, .iload_n 1, [], 0), (21, .invokestatic 498, [], 566),
  (24, .ireturn, [], 0)]
abbrev q_St_charAt : Nat := 202
def m_St_charAt : MDt := (⟨"java/lang/String", "charAt", "(I)C"⟩, prog_23_method_56_code, 2, some .char, 15, 42, P_St_charAt)
/-- java/lang/String.coder()B -/
def P_St_coder : List IR := [
  (0, .getstatic 38, [1, 1], 545), (3, .ifCond .eq 10, [5], 0), (6, .aload_n 0, [], 0), (7, .getfield 15, [42, 1], 1604), (10, .goto 4, [6], 0), (13, .iconst 1, [], 0),
  (14, .ireturn, [], 0)]
abbrev q_St_coder : Nat := 203
def m_St_coder : MDt := (⟨"java/lang/String", "coder", "()B"⟩, prog_23_method_152_code, 1, some .byte, 15, 42, P_St_coder)
/-- java/lang/String.isLatin1()Z -/
def P_St_isLatin1 : List IR := [
  (0, .getstatic 38, [1, 1], 545), (3, .ifCond .eq 14, [7], 0), (6, .aload_n 0, [], 0), (7, .getfield 15, [42, 1], 1604), (10, .ifCond .ne 7, [7], 0), (13, .iconst 1, [], 0),
  (14, .goto 4, [8], 0), (17, .iconst 0, [], 0), (18, .ireturn, [], 0)]
abbrev q_St_isLatin1 : Nat := 204
def m_St_isLatin1 : MDt := (⟨"java/lang/String", "isLatin1", "()Z"⟩, prog_23_method_154_code, 1, some .boolean, 15, 42, P_St_isLatin1)
/-- java/lang/String.checkIndex(II)V -/
def P_St_checkIndex : List IR := [
  (0, .iload_n 0, [], 0), (1, .iload_n 1, [], 0), (2, .getstatic 1053, [0, 75], 561), (5, .invokestatic 1059, [209, 3], 563), (8, .pop, [], 0), (9, .return_, [], 0)]
abbrev q_St_checkIndex : Nat := 205
def m_St_checkIndex : MDt := (⟨"java/lang/String", "checkIndex", "(II)V"⟩, prog_23_method_155_code, 2, none, 15, 99, P_St_checkIndex)
/-- java/lang/StringLatin1.charAt([BI)C -/
def P_L1_charAt : List IR := [
  (0, .iload_n 1, [], 0), (1, .aload_n 0, [], 0), (2, .arraylength, [], 0), (3, .invokestatic 9, [205, 2], 558), (6, .aload_n 0, [], 0), (7, .iload_n 1, [], 0),
  (8, .baload, [], 0), (9, .sipush 255, [], 0), (12, .iand, [], 0), (13, .i2c, [], 0), (14, .ireturn, [], 0)]
abbrev q_L1_charAt : Nat := 206
def m_L1_charAt : MDt := (⟨"java/lang/StringLatin1", "charAt", "([BI)C"⟩, prog_24_method_2_code, 2, some .char, 16, 99, P_L1_charAt)
/-- java/util/Arrays.fill([II)V -/
def P_Ar_fill : List IR := [
  (0, .iconst 0, [], 0), (1, .istore_n 2, [], 0), (2, .aload_n 0, [], 0), (3, .arraylength, [], 0), (4, .istore_n 3, [], 0), (5, .iload_n 2, [], 0),
  (6, .iload_n 3, [], 0), (7, .if_icmp .ge 13, [14], 0), (10, .aload_n 0, [], 0), (11, .iload_n 2, [], 0), (12, .iload_n 1, [], 0), (13, .iastore, [], 0),
  (14, .iinc 2 1, [], 0), (17, .goto (-12), [5], 0), (20, .return_, [], 0)]
abbrev q_Ar_fill : Nat := 207
def m_Ar_fill : MDt := (⟨"java/util/Arrays", "fill", "([II)V"⟩, prog_30_method_103_code, 4, none, 18, 99, P_Ar_fill)
/-- java/util/Arrays.copyOf([II)[I -/
def P_Ar_copyOf : List IR := [
  (0, .iload_n 1, [], 0), (1, .aload_n 0, [], 0), (2, .arraylength, [], 0), (3, .if_icmp .ne 11, [8], 0), (6, .aload_n 0, [], 0), (7, .invokevirtual 316, [], 740),
  (10, .checkcast 317, [], 746), (13, .areturn, [], 0), (14, .iload_n 1, [], 0), (15, .newarray .int, [20], 0), (17, .astore_n 2, [], 0), (18, .aload_n 0, [], 0),
  (19, .iconst 0, [], 0), (20, .aload_n 2, [], 0), (21, .iconst 0, [], 0), (22, .aload_n 0, [], 0), (23, .arraylength, [], 0), (24, .iload_n 1, [], 0),
  (25, .invokestatic 304, [307, 2], 747), (28, .invokestatic 150, [300, 5], 750), (31, .aload_n 2, [], 0), (32, .areturn, [], 0)]
abbrev q_Ar_copyOf : Nat := 208
def m_Ar_copyOf : MDt := (⟨"java/util/Arrays", "copyOf", "([II)[I"⟩, prog_30_method_123_code, 3, some (.array .int), 18, 99, P_Ar_copyOf)
/-- jdk/internal/util/Preconditions.checkIndex(IILjava/util/function/BiFunction;)I -/
def P_Pc_checkIndex : List IR := [
  (0, .iload_n 0, [], 0), (1, .ifCond .lt 8, [5], 0), (4, .iload_n 0, [], 0), (5, .iload_n 1, [], 0), (6, .if_icmp .lt 10, [10], 0), (9, .aload_n 2, [], 0),
  (10, .iload_n 0, [], 0), (11, .iload_n 1, [], 0), (12, .invokestatic 95, [], 0), (15, .athrow, [], 0), (16, .iload_n 0, [], 0), (17, .ireturn, [], 0)]
abbrev q_Pc_checkIndex : Nat := 209
def m_Pc_checkIndex : MDt := (⟨"jdk/internal/util/Preconditions", "checkIndex", "(IILjava/util/function/BiFunction;)I"⟩, prog_32_method_11_code, 3, some .int, 19, 99, P_Pc_checkIndex)
def ML : List MDt := [m_Ch_init, m_Ch_fill, m_Ch_spread, m_Ch_pose, m_Ch_jumpOf, m_Ju_init, m_Ju_study, m_Ju_note, m_Ju_finds, m_Pa_init, m_Pa_readPlan, m_Pa_readBody, m_Pa_readReader, m_Pa_begin, m_Pa_goesOn, m_Pa_next, m_Pa_wrong, m_Pa_takeQuestion, m_Pa_takeKind, m_Pa_takeBodyHead, m_Pa_takeReaderHead, m_Pa_takeLaw, m_Pa_isNumber, m_Pa_isSign, m_Pa_takeWord, m_Pa_takeSign, m_Pa_takeNumber, m_Pa_chain, m_Pa_jointAt, m_Pa_takePart, m_Pa_takeLineOfFact, m_Pe_init, m_Pe_tell, m_Pl_init, m_Pl_add, m_Pl_become, m_Pl_kindAt, m_Pl_itemAt, m_Pl_minutesAt, m_Pl_ahead, m_Pr_init, m_Pr_cell, m_Pr_weigh, m_Pr_choose, m_Pr_spanOf, m_Pr_powerOf, m_Pg_init, m_Pg_clear, m_Pg_add, m_Pg_opens, m_Pg_close, m_Pg_hasLine, m_Pg_become, m_Pg_run, m_Pg_take, m_Pg_joined, m_Si_init, m_Si_begin, m_Si_draw, m_Si_jumpAt, m_Si_standsOut, m_Ta_init, m_Ta_become, m_Ta_cell, m_Ta_addConfessions, m_Ta_confessionsAt, m_Ta_confessed, m_Ta_allConfessions, m_Ta_addPaper, m_Tp_init, m_Tp_clear, m_Tp_put, m_Tp_signAt, m_Tp_cut, m_Tp_addToken, m_Tp_pastBlanks, m_Tp_cutToken, m_Tp_cutWord, m_Tp_cutNumber, m_Tp_rowOfWord, m_Tp_spells, m_Tp_isLetter, m_Tp_isDigit, m_Tp_isSign, m_X_init, m_X_person, m_X_item, m_X_feed, m_X_plan, m_X_body, m_X_reader, m_X_question, m_X_sit, m_X_says, m_X_leans, m_X_hits, m_X_rates, m_X_tricked, m_X_apart, m_X_same, m_X_best, m_X_odds, m_X_items, m_X_named, m_X_confess, m_X_paper, m_X_mark, m_X_count, m_X_within, m_X_toldPerson, m_X_toldPlan, m_X_readerOf, m_X_keptSitting, m_X_countPersons, m_X_countPlans, m_X_rated, m_X_addRates, m_X_tried, m_X_seatDoer, m_X_unlikeDoer, m_X_power, m_X_choices, m_X_lowest, m_X_commonDivisor, m_M_thrown, m_M_feed, m_M_lay, m_M_init, m_M_isLetter, m_M_isDigit, m_M_rank, m_M_isSignOf, m_M_cutAll, m_M_wrong, m_M_isSign, m_M_isWord, m_M_takeSign, m_M_hasSign, m_M_hasWord, m_M_takeWord, m_M_within, m_M_person, m_M_item, m_M_isPerson, m_M_takeNumber, m_M_plan, m_M_readAsk, m_M_isPlan, m_M_question, m_M_emit, m_M_keepsCodes, m_M_body, m_M_reader, m_M_readWhole, m_M_all, m_M_test, m_M_sums, m_M_products, m_M_factHere, m_M_takePart, m_M_worthOf, m_M_both, m_M_asksOf, m_M_jumpOf, m_M_habitOf, m_M_sits, m_M_sit, m_M_isSitting, m_M_jump, m_M_findReadings, m_M_doesSay, m_M_isReaderNumber, m_M_isFile, m_M_says, m_M_leans, m_M_hits, m_M_areRates, m_M_findRates, m_M_rates, m_M_tricked, m_M_apartOf, m_M_isFear, m_M_apart, m_M_same, m_M_powerOf, m_M_minutesOf, m_M_best, m_M_common, m_M_lowest, m_M_power, m_M_choices, m_M_odds, m_M_items, m_M_named, m_M_confess, m_M_confessedOf, m_M_worth, m_M_paper, m_M_lean, m_M_mark, m_M_count, m_St_length, m_St_charAt, m_St_coder, m_St_isLatin1, m_St_checkIndex, m_L1_charAt, m_Ar_fill, m_Ar_copyOf, m_Pc_checkIndex]
def P_law : List IR := [
  (0, .new 8, [10], 141), (3, .dup, [], 0), (4, .invokespecial 23, [84, 1], 143), (7, .astore_n 1, [], 0), (8, .new 24, [11], 1134), (11, .dup, [], 0),
  (12, .invokespecial 26, [127, 1], 1135), (15, .astore_n 2, [], 0), (16, .iconst 1, [], 0), (17, .newarray .long, [23], 0), (19, .astore_n 3, [], 0), (20, .iconst 0, [], 0),
  (21, .istore 4, [], 0), (23, .iload 4, [], 0), (25, .aload_n 0, [], 0), (26, .arraylength, [], 0), (27, .bipush 8, [], 0), (29, .isub, [], 0),
  (30, .if_icmp .gt 1633, [1101], 0), (33, .aload_n 0, [], 0), (34, .iload 4, [], 0), (36, .iaload, [], 0), (37, .bipush 31, [], 0), (39, .iand, [], 0),
  (40, .tableswitch 1617 0 25 #[120, 225, 250, 397, 422, 435, 460, 509, 558, 638, 687, 724, 761, 834, 895, 944, 981, 1042, 1104, 1141, 1243, 1352, 1419, 1484, 1539, 1592], [1099, 25, 98, 115, 224, 241, 248, 265, 302, 339, 394, 431, 458, 485, 542, 589, 626, 653, 700, 748, 775, 853, 924, 968, 1013, 1047, 1082], 0), (160, .aload_n 1, [], 0), (161, .aload_n 0, [], 0), (162, .iload 4, [], 0), (164, .iconst 1, [], 0), (165, .iadd, [], 0),
  (166, .iaload, [], 0), (167, .aload_n 0, [], 0), (168, .iload 4, [], 0), (170, .iconst 2, [], 0), (171, .iadd, [], 0), (172, .iaload, [], 0),
  (173, .aload_n 0, [], 0), (174, .iload 4, [], 0), (176, .iconst 3, [], 0), (177, .iadd, [], 0), (178, .iaload, [], 0), (179, .ifCond .eq 7, [44], 0),
  (182, .iconst 1, [], 0), (183, .goto 4, [45], 0), (186, .iconst 0, [], 0), (187, .aload_n 0, [], 0), (188, .iload 4, [], 0), (190, .iconst 4, [], 0),
  (191, .iadd, [], 0), (192, .iaload, [], 0), (193, .aload_n 0, [], 0), (194, .iload 4, [], 0), (196, .iconst 5, [], 0), (197, .iadd, [], 0),
  (198, .iaload, [], 0), (199, .ifCond .eq 7, [58], 0), (202, .iconst 1, [], 0), (203, .goto 4, [59], 0), (206, .iconst 0, [], 0), (207, .invokevirtual 27, [85, 6], 469),
  (210, .aload_n 2, [], 0), (211, .aload_n 0, [], 0), (212, .iload 4, [], 0), (214, .iconst 1, [], 0), (215, .iadd, [], 0), (216, .iaload, [], 0),
  (217, .aload_n 0, [], 0), (218, .iload 4, [], 0), (220, .iconst 2, [], 0), (221, .iadd, [], 0), (222, .iaload, [], 0), (223, .aload_n 0, [], 0),
  (224, .iload 4, [], 0), (226, .iconst 3, [], 0), (227, .iadd, [], 0), (228, .iaload, [], 0), (229, .ifCond .eq 7, [79], 0), (232, .iconst 1, [], 0),
  (233, .goto 4, [80], 0), (236, .iconst 0, [], 0), (237, .aload_n 0, [], 0), (238, .iload 4, [], 0), (240, .iconst 4, [], 0), (241, .iadd, [], 0),
  (242, .iaload, [], 0), (243, .aload_n 0, [], 0), (244, .iload 4, [], 0), (246, .iconst 5, [], 0), (247, .iadd, [], 0), (248, .iaload, [], 0),
  (249, .ifCond .eq 7, [93], 0), (252, .iconst 1, [], 0), (253, .goto 4, [94], 0), (256, .iconst 0, [], 0), (257, .invokevirtual 31, [141, 6], 1294), (260, .if_icmp .eq 1397, [1099], 0),
  (263, .iconst 0, [], 0), (264, .ireturn, [], 0), (265, .aload_n 1, [], 0), (266, .aload_n 0, [], 0), (267, .iload 4, [], 0), (269, .iconst 1, [], 0),
  (270, .iadd, [], 0), (271, .iaload, [], 0), (272, .invokevirtual 32, [86, 2], 480), (275, .aload_n 2, [], 0), (276, .aload_n 0, [], 0), (277, .iload 4, [], 0),
  (279, .iconst 1, [], 0), (280, .iadd, [], 0), (281, .iaload, [], 0), (282, .invokevirtual 36, [142, 2], 1301), (285, .if_icmp .eq 1372, [1099], 0), (288, .iconst 0, [], 0),
  (289, .ireturn, [], 0), (290, .aload_n 1, [], 0), (291, .aload_n 0, [], 0), (292, .iload 4, [], 0), (294, .iconst 1, [], 0), (295, .iadd, [], 0),
  (296, .iaload, [], 0), (297, .i2l, [], 0), (298, .bipush 32, [], 0), (300, .lshl, [], 0), (301, .aload_n 0, [], 0), (302, .iload 4, [], 0),
  (304, .iconst 2, [], 0), (305, .iadd, [], 0), (306, .iaload, [], 0), (307, .i2l, [], 0), (308, .ldc2_w 37, [4294967295], 1584), (311, .land, [], 0),
  (312, .lor, [], 0), (313, .aload_n 0, [], 0), (314, .iload 4, [], 0), (316, .iconst 3, [], 0), (317, .iadd, [], 0), (318, .iaload, [], 0),
  (319, .i2l, [], 0), (320, .bipush 32, [], 0), (322, .lshl, [], 0), (323, .aload_n 0, [], 0), (324, .iload 4, [], 0), (326, .iconst 4, [], 0),
  (327, .iadd, [], 0), (328, .iaload, [], 0), (329, .i2l, [], 0), (330, .ldc2_w 37, [4294967295], 1584), (333, .land, [], 0), (334, .lor, [], 0),
  (335, .aload_n 0, [], 0), (336, .iload 4, [], 0), (338, .iconst 5, [], 0), (339, .iadd, [], 0), (340, .iaload, [], 0), (341, .i2l, [], 0),
  (342, .bipush 32, [], 0), (344, .lshl, [], 0), (345, .aload_n 0, [], 0), (346, .iload 4, [], 0), (348, .bipush 6, [], 0), (350, .iadd, [], 0),
  (351, .iaload, [], 0), (352, .i2l, [], 0), (353, .ldc2_w 37, [4294967295], 1584), (356, .land, [], 0), (357, .lor, [], 0), (358, .invokevirtual 39, [87, 4], 484),
  (361, .aload_n 2, [], 0), (362, .aload_n 0, [], 0), (363, .iload 4, [], 0), (365, .iconst 1, [], 0), (366, .iadd, [], 0), (367, .iaload, [], 0),
  (368, .i2l, [], 0), (369, .bipush 32, [], 0), (371, .lshl, [], 0), (372, .aload_n 0, [], 0), (373, .iload 4, [], 0), (375, .iconst 2, [], 0),
  (376, .iadd, [], 0), (377, .iaload, [], 0), (378, .i2l, [], 0), (379, .ldc2_w 37, [4294967295], 1584), (382, .land, [], 0), (383, .lor, [], 0),
  (384, .aload_n 0, [], 0), (385, .iload 4, [], 0), (387, .iconst 3, [], 0), (388, .iadd, [], 0), (389, .iaload, [], 0), (390, .i2l, [], 0),
  (391, .bipush 32, [], 0), (393, .lshl, [], 0), (394, .aload_n 0, [], 0), (395, .iload 4, [], 0), (397, .iconst 4, [], 0), (398, .iadd, [], 0),
  (399, .iaload, [], 0), (400, .i2l, [], 0), (401, .ldc2_w 37, [4294967295], 1584), (404, .land, [], 0), (405, .lor, [], 0), (406, .aload_n 0, [], 0),
  (407, .iload 4, [], 0), (409, .iconst 5, [], 0), (410, .iadd, [], 0), (411, .iaload, [], 0), (412, .i2l, [], 0), (413, .bipush 32, [], 0),
  (415, .lshl, [], 0), (416, .aload_n 0, [], 0), (417, .iload 4, [], 0), (419, .bipush 6, [], 0), (421, .iadd, [], 0), (422, .iaload, [], 0),
  (423, .i2l, [], 0), (424, .ldc2_w 37, [4294967295], 1584), (427, .land, [], 0), (428, .lor, [], 0), (429, .invokevirtual 43, [125, 4], 1125), (432, .if_icmp .eq 1225, [1099], 0),
  (435, .iconst 0, [], 0), (436, .ireturn, [], 0), (437, .aload_n 1, [], 0), (438, .aload_n 0, [], 0), (439, .iload 4, [], 0), (441, .iconst 1, [], 0),
  (442, .iadd, [], 0), (443, .iaload, [], 0), (444, .invokevirtual 44, [88, 2], 492), (447, .aload_n 2, [], 0), (448, .aload_n 0, [], 0), (449, .iload 4, [], 0),
  (451, .iconst 1, [], 0), (452, .iadd, [], 0), (453, .iaload, [], 0), (454, .invokevirtual 48, [145, 2], 1305), (457, .if_icmp .eq 1200, [1099], 0), (460, .iconst 0, [], 0),
  (461, .ireturn, [], 0), (462, .aload_n 1, [], 0), (463, .invokevirtual 49, [89, 1], 677), (466, .aload_n 2, [], 0), (467, .invokevirtual 53, [151, 1], 1364), (470, .if_icmp .eq 1187, [1099], 0),
  (473, .iconst 0, [], 0), (474, .ireturn, [], 0), (475, .aload_n 1, [], 0), (476, .aload_n 0, [], 0), (477, .iload 4, [], 0), (479, .iconst 1, [], 0),
  (480, .iadd, [], 0), (481, .iaload, [], 0), (482, .invokevirtual 54, [90, 2], 753), (485, .aload_n 2, [], 0), (486, .aload_n 0, [], 0), (487, .iload 4, [], 0),
  (489, .iconst 1, [], 0), (490, .iadd, [], 0), (491, .iaload, [], 0), (492, .invokevirtual 57, [152, 2], 1413), (495, .if_icmp .eq 1162, [1099], 0), (498, .iconst 0, [], 0),
  (499, .ireturn, [], 0), (500, .aload_n 1, [], 0), (501, .aload_n 0, [], 0), (502, .iload 4, [], 0), (504, .iconst 1, [], 0), (505, .iadd, [], 0),
  (506, .iaload, [], 0), (507, .aload_n 0, [], 0), (508, .iload 4, [], 0), (510, .iconst 2, [], 0), (511, .iadd, [], 0), (512, .iaload, [], 0),
  (513, .aload_n 0, [], 0), (514, .iload 4, [], 0), (516, .iconst 3, [], 0), (517, .iadd, [], 0), (518, .iaload, [], 0), (519, .invokevirtual 58, [91, 4], 769),
  (522, .aload_n 2, [], 0), (523, .aload_n 0, [], 0), (524, .iload 4, [], 0), (526, .iconst 1, [], 0), (527, .iadd, [], 0), (528, .iaload, [], 0),
  (529, .aload_n 0, [], 0), (530, .iload 4, [], 0), (532, .iconst 2, [], 0), (533, .iadd, [], 0), (534, .iaload, [], 0), (535, .aload_n 0, [], 0),
  (536, .iload 4, [], 0), (538, .iconst 3, [], 0), (539, .iadd, [], 0), (540, .iaload, [], 0), (541, .invokevirtual 61, [148, 4], 1356), (544, .if_icmp .eq 1113, [1099], 0),
  (547, .iconst 0, [], 0), (548, .ireturn, [], 0), (549, .aload_n 1, [], 0), (550, .aload_n 0, [], 0), (551, .iload 4, [], 0), (553, .iconst 1, [], 0),
  (554, .iadd, [], 0), (555, .iaload, [], 0), (556, .aload_n 0, [], 0), (557, .iload 4, [], 0), (559, .iconst 2, [], 0), (560, .iadd, [], 0),
  (561, .iaload, [], 0), (562, .aload_n 0, [], 0), (563, .iload 4, [], 0), (565, .iconst 3, [], 0), (566, .iadd, [], 0), (567, .iaload, [], 0),
  (568, .invokevirtual 62, [92, 4], 780), (571, .aload_n 2, [], 0), (572, .aload_n 0, [], 0), (573, .iload 4, [], 0), (575, .iconst 1, [], 0), (576, .iadd, [], 0),
  (577, .iaload, [], 0), (578, .aload_n 0, [], 0), (579, .iload 4, [], 0), (581, .iconst 2, [], 0), (582, .iadd, [], 0), (583, .iaload, [], 0),
  (584, .aload_n 0, [], 0), (585, .iload 4, [], 0), (587, .iconst 3, [], 0), (588, .iadd, [], 0), (589, .iaload, [], 0), (590, .invokevirtual 65, [166, 4], 1417),
  (593, .if_icmp .eq 1064, [1099], 0), (596, .iconst 0, [], 0), (597, .ireturn, [], 0), (598, .aload_n 1, [], 0), (599, .aload_n 0, [], 0), (600, .iload 4, [], 0),
  (602, .iconst 1, [], 0), (603, .iadd, [], 0), (604, .iaload, [], 0), (605, .aload_n 0, [], 0), (606, .iload 4, [], 0), (608, .iconst 2, [], 0),
  (609, .iadd, [], 0), (610, .iaload, [], 0), (611, .aload_n 0, [], 0), (612, .iload 4, [], 0), (614, .iconst 3, [], 0), (615, .iadd, [], 0),
  (616, .iaload, [], 0), (617, .aload_n 3, [], 0), (618, .invokestatic 66, [302, 5], 1021), (621, .istore 5, [], 0), (623, .aload_n 2, [], 0), (624, .aload_n 0, [], 0),
  (625, .iload 4, [], 0), (627, .iconst 1, [], 0), (628, .iadd, [], 0), (629, .iaload, [], 0), (630, .aload_n 0, [], 0), (631, .iload 4, [], 0),
  (633, .iconst 2, [], 0), (634, .iadd, [], 0), (635, .iaload, [], 0), (636, .aload_n 0, [], 0), (637, .iload 4, [], 0), (639, .iconst 3, [], 0),
  (640, .iadd, [], 0), (641, .iaload, [], 0), (642, .invokevirtual 71, [168, 4], 1453), (645, .istore 6, [], 0), (647, .aload_n 2, [], 0), (648, .invokevirtual 72, [124, 1], 1121),
  (651, .iload 5, [], 0), (653, .if_icmp .eq 5, [382], 0), (656, .iconst 0, [], 0), (657, .ireturn, [], 0), (658, .iload 5, [], 0), (660, .ifCond .ne 15, [393], 0),
  (663, .aload_n 3, [], 0), (664, .iconst 0, [], 0), (665, .laload, [], 0), (666, .iload 6, [], 0), (668, .i2l, [], 0), (669, .lcmp, [], 0),
  (670, .ifCond .eq 5, [393], 0), (673, .iconst 0, [], 0), (674, .ireturn, [], 0), (675, .goto 982, [1099], 0), (678, .aload_n 1, [], 0), (679, .aload_n 0, [], 0),
  (680, .iload 4, [], 0), (682, .iconst 1, [], 0), (683, .iadd, [], 0), (684, .iaload, [], 0), (685, .aload_n 0, [], 0), (686, .iload 4, [], 0),
  (688, .iconst 2, [], 0), (689, .iadd, [], 0), (690, .iaload, [], 0), (691, .aload_n 0, [], 0), (692, .iload 4, [], 0), (694, .iconst 3, [], 0),
  (695, .iadd, [], 0), (696, .iaload, [], 0), (697, .invokevirtual 75, [93, 4], 832), (700, .aload_n 2, [], 0), (701, .aload_n 0, [], 0), (702, .iload 4, [], 0),
  (704, .iconst 1, [], 0), (705, .iadd, [], 0), (706, .iaload, [], 0), (707, .aload_n 0, [], 0), (708, .iload 4, [], 0), (710, .iconst 2, [], 0),
  (711, .iadd, [], 0), (712, .iaload, [], 0), (713, .aload_n 0, [], 0), (714, .iload 4, [], 0), (716, .iconst 3, [], 0), (717, .iadd, [], 0),
  (718, .iaload, [], 0), (719, .invokevirtual 78, [173, 4], 1461), (722, .if_icmp .eq 935, [1099], 0), (725, .iconst 0, [], 0), (726, .ireturn, [], 0), (727, .aload_n 1, [], 0),
  (728, .aload_n 0, [], 0), (729, .iload 4, [], 0), (731, .iconst 1, [], 0), (732, .iadd, [], 0), (733, .iaload, [], 0), (734, .aload_n 0, [], 0),
  (735, .iload 4, [], 0), (737, .iconst 2, [], 0), (738, .iadd, [], 0), (739, .iaload, [], 0), (740, .invokevirtual 79, [94, 3], 867), (743, .aload_n 2, [], 0),
  (744, .aload_n 0, [], 0), (745, .iload 4, [], 0), (747, .iconst 1, [], 0), (748, .iadd, [], 0), (749, .iaload, [], 0), (750, .aload_n 0, [], 0),
  (751, .iload 4, [], 0), (753, .iconst 2, [], 0), (754, .iadd, [], 0), (755, .iaload, [], 0), (756, .invokevirtual 83, [174, 3], 1479), (759, .if_icmp .eq 898, [1099], 0),
  (762, .iconst 0, [], 0), (763, .ireturn, [], 0), (764, .aload_n 1, [], 0), (765, .aload_n 0, [], 0), (766, .iload 4, [], 0), (768, .iconst 1, [], 0),
  (769, .iadd, [], 0), (770, .iaload, [], 0), (771, .aload_n 0, [], 0), (772, .iload 4, [], 0), (774, .iconst 2, [], 0), (775, .iadd, [], 0),
  (776, .iaload, [], 0), (777, .invokevirtual 84, [95, 3], 871), (780, .aload_n 2, [], 0), (781, .aload_n 0, [], 0), (782, .iload 4, [], 0), (784, .iconst 1, [], 0),
  (785, .iadd, [], 0), (786, .iaload, [], 0), (787, .aload_n 0, [], 0), (788, .iload 4, [], 0), (790, .iconst 2, [], 0), (791, .iadd, [], 0),
  (792, .iaload, [], 0), (793, .invokevirtual 87, [175, 3], 1483), (796, .if_icmp .eq 861, [1099], 0), (799, .iconst 0, [], 0), (800, .ireturn, [], 0), (801, .aload_n 1, [], 0),
  (802, .aload_n 0, [], 0), (803, .iload 4, [], 0), (805, .iconst 1, [], 0), (806, .iadd, [], 0), (807, .iaload, [], 0), (808, .aload_n 0, [], 0),
  (809, .iload 4, [], 0), (811, .iconst 2, [], 0), (812, .iadd, [], 0), (813, .iaload, [], 0), (814, .aload_n 0, [], 0), (815, .iload 4, [], 0),
  (817, .iconst 3, [], 0), (818, .iadd, [], 0), (819, .iaload, [], 0), (820, .aload_n 0, [], 0), (821, .iload 4, [], 0), (823, .iconst 4, [], 0),
  (824, .iadd, [], 0), (825, .iaload, [], 0), (826, .aload_n 0, [], 0), (827, .iload 4, [], 0), (829, .iconst 5, [], 0), (830, .iadd, [], 0),
  (831, .iaload, [], 0), (832, .invokevirtual 88, [96, 6], 882), (835, .aload_n 2, [], 0), (836, .aload_n 0, [], 0), (837, .iload 4, [], 0), (839, .iconst 1, [], 0),
  (840, .iadd, [], 0), (841, .iaload, [], 0), (842, .aload_n 0, [], 0), (843, .iload 4, [], 0), (845, .iconst 2, [], 0), (846, .iadd, [], 0),
  (847, .iaload, [], 0), (848, .aload_n 0, [], 0), (849, .iload 4, [], 0), (851, .iconst 3, [], 0), (852, .iadd, [], 0), (853, .iaload, [], 0),
  (854, .aload_n 0, [], 0), (855, .iload 4, [], 0), (857, .iconst 4, [], 0), (858, .iadd, [], 0), (859, .iaload, [], 0), (860, .aload_n 0, [], 0),
  (861, .iload 4, [], 0), (863, .iconst 5, [], 0), (864, .iadd, [], 0), (865, .iaload, [], 0), (866, .invokevirtual 92, [178, 6], 1487), (869, .if_icmp .eq 788, [1099], 0),
  (872, .iconst 0, [], 0), (873, .ireturn, [], 0), (874, .aload_n 1, [], 0), (875, .aload_n 0, [], 0), (876, .iload 4, [], 0), (878, .iconst 1, [], 0),
  (879, .iadd, [], 0), (880, .iaload, [], 0), (881, .aload_n 0, [], 0), (882, .iload 4, [], 0), (884, .iconst 2, [], 0), (885, .iadd, [], 0),
  (886, .iaload, [], 0), (887, .aload_n 0, [], 0), (888, .iload 4, [], 0), (890, .iconst 3, [], 0), (891, .iadd, [], 0), (892, .iaload, [], 0),
  (893, .aload_n 0, [], 0), (894, .iload 4, [], 0), (896, .iconst 4, [], 0), (897, .iadd, [], 0), (898, .iaload, [], 0), (899, .invokevirtual 93, [97, 5], 899),
  (902, .aload_n 2, [], 0), (903, .aload_n 0, [], 0), (904, .iload 4, [], 0), (906, .iconst 1, [], 0), (907, .iadd, [], 0), (908, .iaload, [], 0),
  (909, .aload_n 0, [], 0), (910, .iload 4, [], 0), (912, .iconst 2, [], 0), (913, .iadd, [], 0), (914, .iaload, [], 0), (915, .aload_n 0, [], 0),
  (916, .iload 4, [], 0), (918, .iconst 3, [], 0), (919, .iadd, [], 0), (920, .iaload, [], 0), (921, .aload_n 0, [], 0), (922, .iload 4, [], 0),
  (924, .iconst 4, [], 0), (925, .iadd, [], 0), (926, .iaload, [], 0), (927, .invokevirtual 97, [179, 5], 1499), (930, .if_icmp .eq 727, [1099], 0), (933, .iconst 0, [], 0),
  (934, .ireturn, [], 0), (935, .aload_n 1, [], 0), (936, .aload_n 0, [], 0), (937, .iload 4, [], 0), (939, .iconst 1, [], 0), (940, .iadd, [], 0),
  (941, .iaload, [], 0), (942, .aload_n 0, [], 0), (943, .iload 4, [], 0), (945, .iconst 2, [], 0), (946, .iadd, [], 0), (947, .iaload, [], 0),
  (948, .aload_n 0, [], 0), (949, .iload 4, [], 0), (951, .iconst 3, [], 0), (952, .iadd, [], 0), (953, .iaload, [], 0), (954, .invokevirtual 98, [98, 4], 903),
  (957, .aload_n 2, [], 0), (958, .aload_n 0, [], 0), (959, .iload 4, [], 0), (961, .iconst 1, [], 0), (962, .iadd, [], 0), (963, .iaload, [], 0),
  (964, .aload_n 0, [], 0), (965, .iload 4, [], 0), (967, .iconst 2, [], 0), (968, .iadd, [], 0), (969, .iaload, [], 0), (970, .aload_n 0, [], 0),
  (971, .iload 4, [], 0), (973, .iconst 3, [], 0), (974, .iadd, [], 0), (975, .iaload, [], 0), (976, .invokevirtual 101, [182, 4], 1503), (979, .if_icmp .eq 678, [1099], 0),
  (982, .iconst 0, [], 0), (983, .ireturn, [], 0), (984, .aload_n 1, [], 0), (985, .aload_n 0, [], 0), (986, .iload 4, [], 0), (988, .iconst 1, [], 0),
  (989, .iadd, [], 0), (990, .iaload, [], 0), (991, .aload_n 0, [], 0), (992, .iload 4, [], 0), (994, .iconst 2, [], 0), (995, .iadd, [], 0),
  (996, .iaload, [], 0), (997, .invokevirtual 102, [99, 3], 915), (1000, .aload_n 2, [], 0), (1001, .aload_n 0, [], 0), (1002, .iload 4, [], 0), (1004, .iconst 1, [], 0),
  (1005, .iadd, [], 0), (1006, .iaload, [], 0), (1007, .aload_n 0, [], 0), (1008, .iload 4, [], 0), (1010, .iconst 2, [], 0), (1011, .iadd, [], 0),
  (1012, .iaload, [], 0), (1013, .invokevirtual 105, [183, 3], 1514), (1016, .if_icmp .eq 641, [1099], 0), (1019, .iconst 0, [], 0), (1020, .ireturn, [], 0), (1021, .aload_n 1, [], 0),
  (1022, .aload_n 0, [], 0), (1023, .iload 4, [], 0), (1025, .iconst 1, [], 0), (1026, .iadd, [], 0), (1027, .iaload, [], 0), (1028, .aload_n 0, [], 0),
  (1029, .iload 4, [], 0), (1031, .iconst 2, [], 0), (1032, .iadd, [], 0), (1033, .iaload, [], 0), (1034, .aload_n 0, [], 0), (1035, .iload 4, [], 0),
  (1037, .iconst 3, [], 0), (1038, .iadd, [], 0), (1039, .iaload, [], 0), (1040, .aload_n 0, [], 0), (1041, .iload 4, [], 0), (1043, .iconst 4, [], 0),
  (1044, .iadd, [], 0), (1045, .iaload, [], 0), (1046, .invokevirtual 106, [100, 5], 919), (1049, .aload_n 2, [], 0), (1050, .aload_n 0, [], 0), (1051, .iload 4, [], 0),
  (1053, .iconst 1, [], 0), (1054, .iadd, [], 0), (1055, .iaload, [], 0), (1056, .aload_n 0, [], 0), (1057, .iload 4, [], 0), (1059, .iconst 2, [], 0),
  (1060, .iadd, [], 0), (1061, .iaload, [], 0), (1062, .aload_n 0, [], 0), (1063, .iload 4, [], 0), (1065, .iconst 3, [], 0), (1066, .iadd, [], 0),
  (1067, .iaload, [], 0), (1068, .aload_n 0, [], 0), (1069, .iload 4, [], 0), (1071, .iconst 4, [], 0), (1072, .iadd, [], 0), (1073, .iaload, [], 0),
  (1074, .invokevirtual 109, [186, 5], 1518), (1077, .if_icmp .eq 580, [1099], 0), (1080, .iconst 0, [], 0), (1081, .ireturn, [], 0), (1082, .aload_n 1, [], 0), (1083, .aload_n 0, [], 0),
  (1084, .iload 4, [], 0), (1086, .iconst 1, [], 0), (1087, .iadd, [], 0), (1088, .iaload, [], 0), (1089, .aload_n 0, [], 0), (1090, .iload 4, [], 0),
  (1092, .iconst 2, [], 0), (1093, .iadd, [], 0), (1094, .iaload, [], 0), (1095, .aload_n 0, [], 0), (1096, .iload 4, [], 0), (1098, .iconst 3, [], 0),
  (1099, .iadd, [], 0), (1100, .iaload, [], 0), (1101, .aload_n 0, [], 0), (1102, .iload 4, [], 0), (1104, .iconst 4, [], 0), (1105, .iadd, [], 0),
  (1106, .iaload, [], 0), (1107, .invokevirtual 110, [101, 5], 952), (1110, .aload_n 2, [], 0), (1111, .aload_n 0, [], 0), (1112, .iload 4, [], 0), (1114, .iconst 1, [], 0),
  (1115, .iadd, [], 0), (1116, .iaload, [], 0), (1117, .aload_n 0, [], 0), (1118, .iload 4, [], 0), (1120, .iconst 2, [], 0), (1121, .iadd, [], 0),
  (1122, .iaload, [], 0), (1123, .aload_n 0, [], 0), (1124, .iload 4, [], 0), (1126, .iconst 3, [], 0), (1127, .iadd, [], 0), (1128, .iaload, [], 0),
  (1129, .aload_n 0, [], 0), (1130, .iload 4, [], 0), (1132, .iconst 4, [], 0), (1133, .iadd, [], 0), (1134, .iaload, [], 0), (1135, .invokevirtual 114, [191, 5], 1530),
  (1138, .lcmp, [], 0), (1139, .ifCond .eq 518, [1099], 0), (1142, .iconst 0, [], 0), (1143, .ireturn, [], 0), (1144, .aload_n 1, [], 0), (1145, .aload_n 0, [], 0),
  (1146, .iload 4, [], 0), (1148, .iconst 1, [], 0), (1149, .iadd, [], 0), (1150, .iaload, [], 0), (1151, .aload_n 0, [], 0), (1152, .iload 4, [], 0),
  (1154, .iconst 2, [], 0), (1155, .iadd, [], 0), (1156, .iaload, [], 0), (1157, .invokevirtual 115, [102, 3], 969), (1160, .aload_n 2, [], 0), (1161, .aload_n 0, [], 0),
  (1162, .iload 4, [], 0), (1164, .iconst 1, [], 0), (1165, .iadd, [], 0), (1166, .iaload, [], 0), (1167, .aload_n 0, [], 0), (1168, .iload 4, [], 0),
  (1170, .iconst 2, [], 0), (1171, .iadd, [], 0), (1172, .iaload, [], 0), (1173, .invokevirtual 118, [192, 3], 1547), (1176, .if_icmp .eq 481, [1099], 0), (1179, .iconst 0, [], 0),
  (1180, .ireturn, [], 0), (1181, .aload_n 1, [], 0), (1182, .aload_n 0, [], 0), (1183, .iload 4, [], 0), (1185, .iconst 1, [], 0), (1186, .iadd, [], 0),
  (1187, .iaload, [], 0), (1188, .aload_n 0, [], 0), (1189, .iload 4, [], 0), (1191, .iconst 2, [], 0), (1192, .iadd, [], 0), (1193, .iaload, [], 0),
  (1194, .aload_n 0, [], 0), (1195, .iload 4, [], 0), (1197, .iconst 3, [], 0), (1198, .iadd, [], 0), (1199, .iaload, [], 0), (1200, .aload_n 0, [], 0),
  (1201, .iload 4, [], 0), (1203, .iconst 4, [], 0), (1204, .iadd, [], 0), (1205, .iaload, [], 0), (1206, .aload_n 0, [], 0), (1207, .iload 4, [], 0),
  (1209, .iconst 5, [], 0), (1210, .iadd, [], 0), (1211, .iaload, [], 0), (1212, .aload_n 0, [], 0), (1213, .iload 4, [], 0), (1215, .bipush 6, [], 0),
  (1217, .iadd, [], 0), (1218, .iaload, [], 0), (1219, .aload_n 0, [], 0), (1220, .iload 4, [], 0), (1222, .bipush 7, [], 0), (1224, .iadd, [], 0),
  (1225, .iaload, [], 0), (1226, .invokevirtual 119, [103, 8], 974), (1229, .aload_n 2, [], 0), (1230, .aload_n 0, [], 0), (1231, .iload 4, [], 0), (1233, .iconst 1, [], 0),
  (1234, .iadd, [], 0), (1235, .iaload, [], 0), (1236, .aload_n 0, [], 0), (1237, .iload 4, [], 0), (1239, .iconst 2, [], 0), (1240, .iadd, [], 0),
  (1241, .iaload, [], 0), (1242, .aload_n 0, [], 0), (1243, .iload 4, [], 0), (1245, .iconst 3, [], 0), (1246, .iadd, [], 0), (1247, .iaload, [], 0),
  (1248, .aload_n 0, [], 0), (1249, .iload 4, [], 0), (1251, .iconst 4, [], 0), (1252, .iadd, [], 0), (1253, .iaload, [], 0), (1254, .aload_n 0, [], 0),
  (1255, .iload 4, [], 0), (1257, .iconst 5, [], 0), (1258, .iadd, [], 0), (1259, .iaload, [], 0), (1260, .aload_n 0, [], 0), (1261, .iload 4, [], 0),
  (1263, .bipush 6, [], 0), (1265, .iadd, [], 0), (1266, .iaload, [], 0), (1267, .aload_n 0, [], 0), (1268, .iload 4, [], 0), (1270, .bipush 7, [], 0),
  (1272, .iadd, [], 0), (1273, .iaload, [], 0), (1274, .invokevirtual 123, [193, 8], 1552), (1277, .lcmp, [], 0), (1278, .ifCond .eq 379, [1099], 0), (1281, .iconst 0, [], 0),
  (1282, .ireturn, [], 0), (1283, .aload_n 1, [], 0), (1284, .aload_n 0, [], 0), (1285, .iload 4, [], 0), (1287, .iconst 1, [], 0), (1288, .iadd, [], 0),
  (1289, .iaload, [], 0), (1290, .ifCond .eq 7, [862], 0), (1293, .iconst 1, [], 0), (1294, .goto 4, [863], 0), (1297, .iconst 0, [], 0), (1298, .aload_n 0, [], 0),
  (1299, .iload 4, [], 0), (1301, .iconst 2, [], 0), (1302, .iadd, [], 0), (1303, .iaload, [], 0), (1304, .ifCond .eq 7, [871], 0), (1307, .iconst 1, [], 0),
  (1308, .goto 4, [872], 0), (1311, .iconst 0, [], 0), (1312, .aload_n 0, [], 0), (1313, .iload 4, [], 0), (1315, .iconst 3, [], 0), (1316, .iadd, [], 0),
  (1317, .iaload, [], 0), (1318, .ifCond .eq 7, [880], 0), (1321, .iconst 1, [], 0), (1322, .goto 4, [881], 0), (1325, .iconst 0, [], 0), (1326, .aload_n 0, [], 0),
  (1327, .iload 4, [], 0), (1329, .iconst 4, [], 0), (1330, .iadd, [], 0), (1331, .iaload, [], 0), (1332, .invokevirtual 124, [104, 5], 978), (1335, .aload_n 2, [], 0),
  (1336, .aload_n 0, [], 0), (1337, .iload 4, [], 0), (1339, .iconst 1, [], 0), (1340, .iadd, [], 0), (1341, .iaload, [], 0), (1342, .ifCond .eq 7, [896], 0),
  (1345, .iconst 1, [], 0), (1346, .goto 4, [897], 0), (1349, .iconst 0, [], 0), (1350, .aload_n 0, [], 0), (1351, .iload 4, [], 0), (1353, .iconst 2, [], 0),
  (1354, .iadd, [], 0), (1355, .iaload, [], 0), (1356, .ifCond .eq 7, [905], 0), (1359, .iconst 1, [], 0), (1360, .goto 4, [906], 0), (1363, .iconst 0, [], 0),
  (1364, .aload_n 0, [], 0), (1365, .iload 4, [], 0), (1367, .iconst 3, [], 0), (1368, .iadd, [], 0), (1369, .iaload, [], 0), (1370, .ifCond .eq 7, [914], 0),
  (1373, .iconst 1, [], 0), (1374, .goto 4, [915], 0), (1377, .iconst 0, [], 0), (1378, .aload_n 0, [], 0), (1379, .iload 4, [], 0), (1381, .iconst 4, [], 0),
  (1382, .iadd, [], 0), (1383, .iaload, [], 0), (1384, .invokevirtual 128, [194, 5], 1556), (1387, .if_icmp .eq 270, [1099], 0), (1390, .iconst 0, [], 0), (1391, .ireturn, [], 0),
  (1392, .aload_n 1, [], 0), (1393, .aload_n 0, [], 0), (1394, .iload 4, [], 0), (1396, .iconst 1, [], 0), (1397, .iadd, [], 0), (1398, .iaload, [], 0),
  (1399, .aload_n 0, [], 0), (1400, .iload 4, [], 0), (1402, .iconst 2, [], 0), (1403, .iadd, [], 0), (1404, .iaload, [], 0), (1405, .aload_n 3, [], 0),
  (1406, .invokestatic 129, [303, 4], 1096), (1409, .istore 5, [], 0), (1411, .aload_n 2, [], 0), (1412, .aload_n 0, [], 0), (1413, .iload 4, [], 0), (1415, .iconst 1, [], 0),
  (1416, .iadd, [], 0), (1417, .iaload, [], 0), (1418, .aload_n 0, [], 0), (1419, .iload 4, [], 0), (1421, .iconst 2, [], 0), (1422, .iadd, [], 0),
  (1423, .iaload, [], 0), (1424, .invokevirtual 132, [196, 3], 1560), (1427, .lstore 6, [], 0), (1429, .aload_n 2, [], 0), (1430, .invokevirtual 72, [124, 1], 1121), (1433, .iload 5, [], 0),
  (1435, .if_icmp .eq 5, [957], 0), (1438, .iconst 0, [], 0), (1439, .ireturn, [], 0), (1440, .iload 5, [], 0), (1442, .ifCond .ne 14, [967], 0), (1445, .aload_n 3, [], 0),
  (1446, .iconst 0, [], 0), (1447, .laload, [], 0), (1448, .lload 6, [], 0), (1450, .lcmp, [], 0), (1451, .ifCond .eq 5, [967], 0), (1454, .iconst 0, [], 0),
  (1455, .ireturn, [], 0), (1456, .goto 201, [1099], 0), (1459, .aload_n 1, [], 0), (1460, .aload_n 0, [], 0), (1461, .iload 4, [], 0), (1463, .iconst 1, [], 0),
  (1464, .iadd, [], 0), (1465, .iaload, [], 0), (1466, .ifCond .eq 7, [977], 0), (1469, .iconst 1, [], 0), (1470, .goto 4, [978], 0), (1473, .iconst 0, [], 0),
  (1474, .aload_n 0, [], 0), (1475, .iload 4, [], 0), (1477, .iconst 2, [], 0), (1478, .iadd, [], 0), (1479, .iaload, [], 0), (1480, .aload_n 0, [], 0),
  (1481, .iload 4, [], 0), (1483, .iconst 3, [], 0), (1484, .iadd, [], 0), (1485, .iaload, [], 0), (1486, .invokevirtual 133, [105, 4], 989), (1489, .aload_n 2, [], 0),
  (1490, .aload_n 0, [], 0), (1491, .iload 4, [], 0), (1493, .iconst 1, [], 0), (1494, .iadd, [], 0), (1495, .iaload, [], 0), (1496, .ifCond .eq 7, [998], 0),
  (1499, .iconst 1, [], 0), (1500, .goto 4, [999], 0), (1503, .iconst 0, [], 0), (1504, .aload_n 0, [], 0), (1505, .iload 4, [], 0), (1507, .iconst 2, [], 0),
  (1508, .iadd, [], 0), (1509, .iaload, [], 0), (1510, .aload_n 0, [], 0), (1511, .iload 4, [], 0), (1513, .iconst 3, [], 0), (1514, .iadd, [], 0),
  (1515, .iaload, [], 0), (1516, .invokevirtual 137, [197, 4], 1568), (1519, .if_icmp .eq 138, [1099], 0), (1522, .iconst 0, [], 0), (1523, .ireturn, [], 0), (1524, .aload_n 1, [], 0),
  (1525, .aload_n 0, [], 0), (1526, .iload 4, [], 0), (1528, .iconst 1, [], 0), (1529, .iadd, [], 0), (1530, .iaload, [], 0), (1531, .aload_n 3, [], 0),
  (1532, .invokestatic 138, [304, 3], 1113), (1535, .istore 5, [], 0), (1537, .aload_n 2, [], 0), (1538, .aload_n 0, [], 0), (1539, .iload 4, [], 0), (1541, .iconst 1, [], 0),
  (1542, .iadd, [], 0), (1543, .iaload, [], 0), (1544, .invokevirtual 141, [198, 2], 1572), (1547, .lstore 6, [], 0), (1549, .aload_n 2, [], 0), (1550, .invokevirtual 72, [124, 1], 1121),
  (1553, .iload 5, [], 0), (1555, .if_icmp .eq 5, [1036], 0), (1558, .iconst 0, [], 0), (1559, .ireturn, [], 0), (1560, .iload 5, [], 0), (1562, .ifCond .ne 14, [1046], 0),
  (1565, .aload_n 3, [], 0), (1566, .iconst 0, [], 0), (1567, .laload, [], 0), (1568, .lload 6, [], 0), (1570, .lcmp, [], 0), (1571, .ifCond .eq 5, [1046], 0),
  (1574, .iconst 0, [], 0), (1575, .ireturn, [], 0), (1576, .goto 81, [1099], 0), (1579, .aload_n 1, [], 0), (1580, .aload_n 0, [], 0), (1581, .iload 4, [], 0),
  (1583, .iconst 1, [], 0), (1584, .iadd, [], 0), (1585, .iaload, [], 0), (1586, .aload_n 0, [], 0), (1587, .iload 4, [], 0), (1589, .iconst 2, [], 0),
  (1590, .iadd, [], 0), (1591, .iaload, [], 0), (1592, .ifCond .eq 7, [1061], 0), (1595, .iconst 1, [], 0), (1596, .goto 4, [1062], 0), (1599, .iconst 0, [], 0),
  (1600, .invokevirtual 142, [106, 3], 997), (1603, .aload_n 2, [], 0), (1604, .aload_n 0, [], 0), (1605, .iload 4, [], 0), (1607, .iconst 1, [], 0), (1608, .iadd, [], 0),
  (1609, .iaload, [], 0), (1610, .aload_n 0, [], 0), (1611, .iload 4, [], 0), (1613, .iconst 2, [], 0), (1614, .iadd, [], 0), (1615, .iaload, [], 0),
  (1616, .ifCond .eq 7, [1077], 0), (1619, .iconst 1, [], 0), (1620, .goto 4, [1078], 0), (1623, .iconst 0, [], 0), (1624, .invokevirtual 146, [199, 3], 1576), (1627, .if_icmp .eq 30, [1099], 0),
  (1630, .iconst 0, [], 0), (1631, .ireturn, [], 0), (1632, .aload_n 1, [], 0), (1633, .aload_n 0, [], 0), (1634, .iload 4, [], 0), (1636, .iconst 1, [], 0),
  (1637, .iadd, [], 0), (1638, .iaload, [], 0), (1639, .invokevirtual 147, [107, 2], 1005), (1642, .aload_n 2, [], 0), (1643, .aload_n 0, [], 0), (1644, .iload 4, [], 0),
  (1646, .iconst 1, [], 0), (1647, .iadd, [], 0), (1648, .iaload, [], 0), (1649, .invokevirtual 150, [200, 2], 1580), (1652, .if_icmp .eq 5, [1099], 0), (1655, .iconst 0, [], 0),
  (1656, .ireturn, [], 0), (1657, .iinc 4 8, [], 0), (1660, .goto (-1637), [13], 0), (1663, .iconst 1, [], 0), (1664, .ireturn, [], 0)]
def P_xj : List IR := [
  (0, .aload_n 0, [], 0), (1, .iload_n 1, [], 0), (2, .invokevirtual 187, [112, 2], 836), (5, .astore 4, [], 0), (7, .aload 4, [], 0), (9, .ifnull 30, [20], 0),
  (12, .iload_n 2, [], 0), (13, .iconst 0, [], 0), (14, .aload 4, [], 0), (16, .getfield 191, [7, 0], 378), (19, .getfield 194, [4, 3], 240), (22, .iconst 1, [], 0),
  (23, .isub, [], 0), (24, .invokestatic 99, [108, 3], 473), (27, .ifCond .eq 12, [20], 0), (30, .iload_n 3, [], 0), (31, .iconst 0, [], 0), (32, .iconst 2, [], 0),
  (33, .invokestatic 99, [108, 3], 473), (36, .ifCond .ne 13, [25], 0), (39, .nop, [], 0), (42, .nop, [], 0), (43, .nop, [], 0), (45, .nop, [], 0),
  (48, .nop, [], 0), (49, .aload 4, [], 0), (51, .iload_n 2, [], 0), (52, .iload_n 3, [], 0), (53, .invokevirtual 202, [59, 3], 1095), (56, .ireturn, [], 0)]
def P_xw : List IR := [
  (0, .iload_n 1, [], 0), (1, .iconst 0, [], 0), (2, .iconst 2, [], 0), (3, .invokestatic 99, [108, 3], 473), (6, .ifCond .eq 12, [10], 0), (9, .iload_n 2, [], 0),
  (10, .iconst 0, [], 0), (11, .iconst 1, [], 0), (12, .invokestatic 99, [108, 3], 473), (15, .ifCond .ne 14, [15], 0), (18, .nop, [], 0), (21, .nop, [], 0),
  (22, .nop, [], 0), (25, .nop, [], 0), (28, .nop, [], 0), (29, .aload_n 0, [], 0), (30, .getfield 36, [10, 4], 424), (33, .iload_n 1, [], 0),
  (34, .iconst 1, [], 0), (35, .iconst 1, [], 0), (36, .invokevirtual 283, [66, 4], 1104), (39, .i2l, [], 0), (40, .lstore_n 3, [], 0), (41, .lload_n 3, [], 0),
  (42, .aload_n 0, [], 0), (43, .getfield 36, [10, 4], 424), (46, .iload_n 1, [], 0), (47, .iconst 1, [], 0), (48, .iconst 0, [], 0), (49, .invokevirtual 283, [66, 4], 1104),
  (52, .i2l, [], 0), (53, .ladd, [], 0), (54, .lstore 5, [], 0), (56, .aload_n 0, [], 0), (57, .getfield 36, [10, 4], 424), (60, .iload_n 1, [], 0),
  (61, .iconst 0, [], 0), (62, .iconst 1, [], 0), (63, .invokevirtual 283, [66, 4], 1104), (66, .i2l, [], 0), (67, .lstore 7, [], 0), (69, .lload 7, [], 0),
  (71, .aload_n 0, [], 0), (72, .getfield 36, [10, 4], 424), (75, .iload_n 1, [], 0), (76, .iconst 0, [], 0), (77, .iconst 0, [], 0), (78, .invokevirtual 283, [66, 4], 1104),
  (81, .i2l, [], 0), (82, .ladd, [], 0), (83, .lstore 9, [], 0), (85, .lload 5, [], 0), (87, .lconst 0, [], 0), (88, .lcmp, [], 0),
  (89, .ifCond .le 10, [59], 0), (92, .lload 9, [], 0), (94, .lconst 0, [], 0), (95, .lcmp, [], 0), (96, .ifCond .gt 14, [64], 0), (99, .nop, [], 0),
  (102, .nop, [], 0), (103, .nop, [], 0), (106, .nop, [], 0), (109, .nop, [], 0), (110, .lload_n 3, [], 0), (111, .lload 9, [], 0),
  (113, .lmul, [], 0), (114, .lload 7, [], 0), (116, .lload 5, [], 0), (118, .lmul, [], 0), (119, .lsub, [], 0), (120, .lload 5, [], 0),
  (122, .lload 9, [], 0), (124, .lmul, [], 0), (125, .iload_n 2, [], 0), (126, .invokestatic 272, [122, 3], 963), (129, .lreturn, [], 0)]
def P_xl : List IR := [
  (0, .aload_n 0, [], 0), (1, .getfield 36, [10, 4], 424), (4, .getfield 293, [8, 3], 168), (7, .i2l, [], 0), (8, .lstore_n 2, [], 0), (9, .aload_n 0, [], 0),
  (10, .getfield 36, [10, 4], 424), (13, .getfield 296, [8, 5], 172), (16, .i2l, [], 0), (17, .lstore 4, [], 0), (19, .iload_n 1, [], 0), (20, .iconst 0, [], 0),
  (21, .iconst 1, [], 0), (22, .invokestatic 99, [108, 3], 473), (25, .ifCond .eq 16, [23], 0), (28, .lload_n 2, [], 0), (29, .lconst 0, [], 0), (30, .lcmp, [], 0),
  (31, .ifCond .le 10, [23], 0), (34, .lload 4, [], 0), (36, .lconst 0, [], 0), (37, .lcmp, [], 0), (38, .ifCond .gt 14, [28], 0), (41, .nop, [], 0),
  (44, .nop, [], 0), (45, .nop, [], 0), (48, .nop, [], 0), (51, .nop, [], 0), (52, .aload_n 0, [], 0), (53, .getfield 36, [10, 4], 424),
  (56, .getfield 301, [8, 4], 170), (59, .i2l, [], 0), (60, .lload 4, [], 0), (62, .lmul, [], 0), (63, .aload_n 0, [], 0), (64, .getfield 36, [10, 4], 424),
  (67, .getfield 304, [8, 6], 174), (70, .i2l, [], 0), (71, .lload_n 2, [], 0), (72, .lmul, [], 0), (73, .lsub, [], 0), (74, .lstore 6, [], 0),
  (76, .lload 6, [], 0), (78, .lload_n 2, [], 0), (79, .lload 4, [], 0), (81, .lmul, [], 0), (82, .iload_n 1, [], 0), (83, .invokestatic 272, [122, 3], 963),
  (86, .lreturn, [], 0)]
