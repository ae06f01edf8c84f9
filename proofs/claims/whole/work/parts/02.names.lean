/-! names, by program out of the names that TURN printed of the class -/
def T_0 : u_T := fun k => match k with
  | 0 => ("PenThatJumps$Chair", "law", "LPenThatJumps$Program;", true)
  | 1 => ("PenThatJumps$Chair", "facts", "[I", true)
  | 2 => ("PenThatJumps$Chair", "lines", "[I", true)
  | _ => ("PenThatJumps$Chair", "trueItem", "I", false)
def ty_0 : Nat → FieldType := fun k => match k with
  | 0 => .object "PenThatJumps$Program"
  | 1 => .array .int
  | 2 => .array .int
  | _ => .int
def T_1 : u_T := fun k => match k with
  | _ => ("PenThatJumps$Judge", "facts", "[I", true)
def ty_1 : Nat → FieldType := fun k => match k with
  | _ => .array .int
def T_2 : u_T := fun k => match k with
  | 0 => ("PenThatJumps$Parser", "tape", "LPenThatJumps$Tape;", true)
  | 1 => ("PenThatJumps$Parser", "plan", "LPenThatJumps$Plan;", true)
  | 2 => ("PenThatJumps$Parser", "program", "LPenThatJumps$Program;", true)
  | 3 => ("PenThatJumps$Parser", "ofReader", "Z", false)
  | 4 => ("PenThatJumps$Parser", "fault", "I", false)
  | 5 => ("PenThatJumps$Parser", "at", "I", false)
  | 6 => ("PenThatJumps$Parser", "code", "I", false)
  | 7 => ("PenThatJumps$Parser", "place", "I", false)
  | _ => ("PenThatJumps$Parser", "word", "LPenThatJumps$Word;", false)
def ty_2 : Nat → FieldType := fun k => match k with
  | 0 => .object "PenThatJumps$Tape"
  | 1 => .object "PenThatJumps$Plan"
  | 2 => .object "PenThatJumps$Program"
  | 3 => .boolean
  | 4 => .int
  | 5 => .int
  | 6 => .int
  | 7 => .int
  | _ => .object "PenThatJumps$Word"
def T_3 : u_T := fun k => match k with
  | 0 => ("PenThatJumps$Person", "told", "Z", false)
  | 1 => ("PenThatJumps$Person", "fear", "I", false)
  | 2 => ("PenThatJumps$Person", "done", "Z", false)
  | 3 => ("PenThatJumps$Person", "heard", "I", false)
  | _ => ("PenThatJumps$Person", "trick", "Z", false)
def ty_3 : Nat → FieldType := fun k => match k with
  | 0 => .boolean
  | 1 => .int
  | 2 => .boolean
  | 3 => .int
  | _ => .boolean
def T_4 : u_T := fun k => match k with
  | 0 => ("PenThatJumps$Plan", "kinds", "[I", true)
  | 1 => ("PenThatJumps$Plan", "known", "[I", true)
  | 2 => ("PenThatJumps$Plan", "spans", "[I", true)
  | _ => ("PenThatJumps$Plan", "size", "I", false)
def ty_4 : Nat → FieldType := fun k => match k with
  | 0 => .array .int
  | 1 => .array .int
  | 2 => .array .int
  | _ => .int
def T_5 : u_T := fun k => match k with
  | 0 => ("PenThatJumps$Planner", "spreads", "[I", true)
  | 1 => ("PenThatJumps$Planner", "chosen", "[I", true)
  | 2 => ("PenThatJumps$Planner", "power", "I", false)
  | 3 => ("PenThatJumps$Planner", "bits", "I", false)
  | _ => ("PenThatJumps$Planner", "minutes", "I", false)
def ty_5 : Nat → FieldType := fun k => match k with
  | 0 => .array .int
  | 1 => .array .int
  | 2 => .int
  | 3 => .int
  | _ => .int
def T_6 : u_T := fun k => match k with
  | 0 => ("PenThatJumps$Program", "steps", "[I", false)
  | 1 => ("PenThatJumps$Program", "size", "I", false)
  | 2 => ("PenThatJumps$Program", "lines", "I", false)
  | 3 => ("PenThatJumps$Program", "starts", "[I", true)
  | 4 => ("PenThatJumps$Program", "ends", "[I", true)
  | _ => ("PenThatJumps$Program", "stack", "[I", true)
def ty_6 : Nat → FieldType := fun k => match k with
  | 0 => .array .int
  | 1 => .int
  | 2 => .int
  | 3 => .array .int
  | 4 => .array .int
  | _ => .array .int
def T_7 : u_T := fun k => match k with
  | 0 => ("PenThatJumps$Sitting", "asked", "LPenThatJumps$Plan;", true)
  | 1 => ("PenThatJumps$Sitting", "jumps", "[I", true)
  | _ => ("PenThatJumps$Sitting", "trueItem", "I", false)
def ty_7 : Nat → FieldType := fun k => match k with
  | 0 => .object "PenThatJumps$Plan"
  | 1 => .array .int
  | _ => .int
def T_8 : u_T := fun k => match k with
  | 0 => ("PenThatJumps$Tally", "laid", "Z", false)
  | 1 => ("PenThatJumps$Tally", "sittings", "I", false)
  | 2 => ("PenThatJumps$Tally", "confessions", "[I", true)
  | 3 => ("PenThatJumps$Tally", "askedBySellers", "I", false)
  | 4 => ("PenThatJumps$Tally", "rightBySellers", "I", false)
  | 5 => ("PenThatJumps$Tally", "askedByOthers", "I", false)
  | _ => ("PenThatJumps$Tally", "rightByOthers", "I", false)
def ty_8 : Nat → FieldType := fun k => match k with
  | 0 => .boolean
  | 1 => .int
  | 2 => .array .int
  | 3 => .int
  | 4 => .int
  | 5 => .int
  | _ => .int
def T_9 : u_T := fun k => match k with
  | 0 => ("PenThatJumps$Tape", "signs", "[C", true)
  | 1 => ("PenThatJumps$Tape", "size", "I", false)
  | 2 => ("PenThatJumps$Tape", "codes", "[I", true)
  | 3 => ("PenThatJumps$Tape", "places", "[I", true)
  | _ => ("PenThatJumps$Tape", "tokens", "I", false)
def ty_9 : Nat → FieldType := fun k => match k with
  | 0 => .array .char
  | 1 => .int
  | 2 => .array .int
  | 3 => .array .int
  | _ => .int
def T_10 : u_T := fun k => match k with
  | 0 => ("PenThatJumps", "persons", "[LPenThatJumps$Person;", true)
  | 1 => ("PenThatJumps", "plans", "[LPenThatJumps$Plan;", true)
  | 2 => ("PenThatJumps", "readers", "[LPenThatJumps$Program;", true)
  | 3 => ("PenThatJumps", "sittings", "[LPenThatJumps$Sitting;", true)
  | 4 => ("PenThatJumps", "now", "LPenThatJumps$Tally;", true)
  | 5 => ("PenThatJumps", "marks", "[LPenThatJumps$Tally;", true)
  | 6 => ("PenThatJumps", "parser", "LPenThatJumps$Parser;", true)
  | 7 => ("PenThatJumps", "chair", "LPenThatJumps$Chair;", true)
  | 8 => ("PenThatJumps", "judge", "LPenThatJumps$Judge;", true)
  | 9 => ("PenThatJumps", "planner", "LPenThatJumps$Planner;", true)
  | 10 => ("PenThatJumps", "trial", "LPenThatJumps$Sitting;", true)
  | 11 => ("PenThatJumps", "doer", "LPenThatJumps$Person;", true)
  | 12 => ("PenThatJumps", "other", "LPenThatJumps$Person;", true)
  | 13 => ("PenThatJumps", "jumpsOfOne", "[I", true)
  | 14 => ("PenThatJumps", "jumpsOfTwo", "[I", true)
  | _ => ("PenThatJumps", "rateRow", "[I", true)
def ty_10 : Nat → FieldType := fun k => match k with
  | 0 => .array (.object "PenThatJumps$Person")
  | 1 => .array (.object "PenThatJumps$Plan")
  | 2 => .array (.object "PenThatJumps$Program")
  | 3 => .array (.object "PenThatJumps$Sitting")
  | 4 => .object "PenThatJumps$Tally"
  | 5 => .array (.object "PenThatJumps$Tally")
  | 6 => .object "PenThatJumps$Parser"
  | 7 => .object "PenThatJumps$Chair"
  | 8 => .object "PenThatJumps$Judge"
  | 9 => .object "PenThatJumps$Planner"
  | 10 => .object "PenThatJumps$Sitting"
  | 11 => .object "PenThatJumps$Person"
  | 12 => .object "PenThatJumps$Person"
  | 13 => .array .int
  | 14 => .array .int
  | _ => .array .int
def T_11 : u_T := fun k => match k with
  | 0 => ("PenThatJumpsModel", "thrown", "I", false)
  | 1 => ("PenThatJumpsModel", "tape", "[I", true)
  | 2 => ("PenThatJumpsModel", "taped", "I", false)
  | 3 => ("PenThatJumpsModel", "size", "I", false)
  | 4 => ("PenThatJumpsModel", "sort", "[I", true)
  | 5 => ("PenThatJumpsModel", "place", "[I", true)
  | 6 => ("PenThatJumpsModel", "value", "[J", true)
  | 7 => ("PenThatJumpsModel", "at", "I", false)
  | 8 => ("PenThatJumpsModel", "fault", "I", false)
  | 9 => ("PenThatJumpsModel", "words", "[J", true)
  | 10 => ("PenThatJumpsModel", "isTold", "[Z", true)
  | 11 => ("PenThatJumpsModel", "fear", "[I", true)
  | 12 => ("PenThatJumpsModel", "isDone", "[Z", true)
  | 13 => ("PenThatJumpsModel", "heard", "[I", true)
  | 14 => ("PenThatJumpsModel", "doesTrick", "[Z", true)
  | 15 => ("PenThatJumpsModel", "trueItem", "I", false)
  | 16 => ("PenThatJumpsModel", "asks", "[I", true)
  | 17 => ("PenThatJumpsModel", "kind", "[I", true)
  | 18 => ("PenThatJumpsModel", "itemOf", "[I", true)
  | 19 => ("PenThatJumpsModel", "minutes", "[I", true)
  | 20 => ("PenThatJumpsModel", "codes", "I", false)
  | 21 => ("PenThatJumpsModel", "isReader", "Z", false)
  | 22 => ("PenThatJumpsModel", "op", "[I", true)
  | 23 => ("PenThatJumpsModel", "one", "[I", true)
  | 24 => ("PenThatJumpsModel", "lineAt", "[I", true)
  | 25 => ("PenThatJumpsModel", "readLineAt", "[I", true)
  | 26 => ("PenThatJumpsModel", "says", "[I", true)
  | 27 => ("PenThatJumpsModel", "saysAt", "[I", true)
  | 28 => ("PenThatJumpsModel", "facts", "[I", true)
  | 29 => ("PenThatJumpsModel", "pile", "[I", true)
  | 30 => ("PenThatJumpsModel", "sittings", "I", false)
  | 31 => ("PenThatJumpsModel", "satAsks", "[I", true)
  | 32 => ("PenThatJumpsModel", "satItem", "[I", true)
  | 33 => ("PenThatJumpsModel", "satKind", "[I", true)
  | 34 => ("PenThatJumpsModel", "satOf", "[I", true)
  | 35 => ("PenThatJumpsModel", "jumps", "[I", true)
  | 36 => ("PenThatJumpsModel", "rate", "[I", true)
  | 37 => ("PenThatJumpsModel", "habits", "[I", true)
  | 38 => ("PenThatJumpsModel", "confessed", "[J", true)
  | 39 => ("PenThatJumpsModel", "papers", "[J", true)
  | 40 => ("PenThatJumpsModel", "isMarked", "[Z", true)
  | 41 => ("PenThatJumpsModel", "markSittings", "[I", true)
  | _ => ("PenThatJumpsModel", "markOf", "[J", true)
def ty_11 : Nat → FieldType := fun k => match k with
  | 0 => .int
  | 1 => .array .int
  | 2 => .int
  | 3 => .int
  | 4 => .array .int
  | 5 => .array .int
  | 6 => .array .long
  | 7 => .int
  | 8 => .int
  | 9 => .array .long
  | 10 => .array .boolean
  | 11 => .array .int
  | 12 => .array .boolean
  | 13 => .array .int
  | 14 => .array .boolean
  | 15 => .int
  | 16 => .array .int
  | 17 => .array .int
  | 18 => .array .int
  | 19 => .array .int
  | 20 => .int
  | 21 => .boolean
  | 22 => .array .int
  | 23 => .array .int
  | 24 => .array .int
  | 25 => .array .int
  | 26 => .array .int
  | 27 => .array .int
  | 28 => .array .int
  | 29 => .array .int
  | 30 => .int
  | 31 => .array .int
  | 32 => .array .int
  | 33 => .array .int
  | 34 => .array .int
  | 35 => .array .int
  | 36 => .array .int
  | 37 => .array .int
  | 38 => .array .long
  | 39 => .array .long
  | 40 => .array .boolean
  | 41 => .array .int
  | _ => .array .long
def T_12 : u_T := fun _ => ("", "", "", false)
def ty_12 : Nat → FieldType := fun _ => .int
def clT : List vw_C := [("PenThatJumps$Chair", T_0, 4), ("PenThatJumps$Judge", T_1, 1), ("PenThatJumps$Parser", T_2, 9), ("PenThatJumps$Person", T_3, 5), ("PenThatJumps$Plan", T_4, 4), ("PenThatJumps$Planner", T_5, 5), ("PenThatJumps$Program", T_6, 6), ("PenThatJumps$Sitting", T_7, 3), ("PenThatJumps$Tally", T_8, 7), ("PenThatJumps$Tape", T_9, 5), ("PenThatJumps", T_10, 16), ("PenThatJumpsModel", T_11, 43), ("java/util/NoSuchElementException", T_12, 0)]
def tyT : List (Nat → FieldType) := [ty_0, ty_1, ty_2, ty_3, ty_4, ty_5, ty_6, ty_7, ty_8, ty_9, ty_10, ty_11, ty_12]
def cnT : List String := ["PenThatJumps$Chair", "PenThatJumps$Judge", "PenThatJumps$Parser", "PenThatJumps$Person", "PenThatJumps$Plan", "PenThatJumps$Planner", "PenThatJumps$Program", "PenThatJumps$Sitting", "PenThatJumps$Tally", "PenThatJumps$Tape", "PenThatJumps", "PenThatJumpsModel", "java/util/NoSuchElementException", "PenThatJumpsLaw", "java/lang/Math", "java/lang/String", "java/lang/StringLatin1", "java/lang/StringUTF16", "java/util/Arrays", "jdk/internal/util/Preconditions"]
/-- links of fields: whose pool, its row, class, field, whether of a nest mate -/
def flT : List (Nat × Nat × Nat × Nat × Nat) := [(10, 310, 8, 0, 1), (8, 13, 8, 1, 0), (10, 173, 8, 1, 1), (8, 7, 8, 2, 0), (8, 17, 8, 3, 0), (10, 293, 8, 3, 1), (8, 20, 8, 4, 0), (10, 301, 8, 4, 1), (8, 23, 8, 5, 0), (10, 296, 8, 5, 1), (8, 26, 8, 6, 0), (10, 304, 8, 6, 1), (9, 9, 9, 0, 0), (9, 20, 9, 1, 0), (10, 121, 9, 1, 1), (9, 13, 9, 2, 0), (2, 93, 9, 2, 1), (9, 17, 9, 3, 0), (2, 97, 9, 3, 1), (9, 24, 9, 4, 0), (2, 90, 9, 4, 1), (4, 9, 4, 0, 0), (4, 15, 4, 1, 0), (4, 18, 4, 2, 0), (4, 21, 4, 3, 0), (0, 27, 4, 3, 1), (1, 27, 4, 3, 1), (5, 18, 4, 3, 1), (7, 30, 4, 3, 1), (2, 75, 4, 3, 1), (10, 194, 4, 3, 1), (6, 19, 6, 0, 0), (6, 22, 6, 1, 0), (6, 26, 6, 2, 0), (1, 56, 6, 2, 1), (2, 148, 6, 2, 1), (10, 323, 6, 2, 1), (6, 9, 6, 3, 0), (6, 13, 6, 4, 0), (6, 16, 6, 5, 0), (2, 12, 2, 0, 0), (10, 111, 2, 0, 1), (2, 21, 2, 1, 0), (10, 131, 2, 1, 1), (2, 30, 2, 2, 0), (10, 146, 2, 2, 1), (2, 71, 2, 3, 0), (2, 57, 2, 4, 0), (2, 81, 2, 5, 0), (2, 87, 2, 6, 0), (2, 100, 2, 7, 0), (2, 40, 2, 8, 0), (0, 14, 0, 0, 0), (10, 142, 0, 0, 1), (0, 20, 0, 1, 0), (0, 24, 0, 2, 0), (10, 107, 0, 3, 1), (0, 56, 0, 3, 0), (1, 11, 1, 0, 0), (5, 9, 5, 0, 0), (5, 15, 5, 1, 0), (5, 38, 5, 2, 0), (10, 254, 5, 2, 1), (5, 41, 5, 3, 0), (10, 257, 5, 3, 1), (5, 44, 5, 4, 0), (10, 260, 5, 4, 1), (7, 12, 7, 0, 0), (1, 21, 7, 0, 1), (10, 191, 7, 0, 1), (7, 18, 7, 1, 0), (7, 26, 7, 2, 0), (1, 48, 7, 2, 1), (3, 7, 3, 0, 0), (10, 326, 3, 0, 1), (3, 13, 3, 1, 0), (0, 68, 3, 1, 1), (10, 226, 3, 1, 1), (3, 17, 3, 2, 0), (0, 64, 3, 2, 1), (10, 229, 3, 2, 1), (3, 20, 3, 3, 0), (0, 59, 3, 3, 1), (10, 233, 3, 3, 1), (3, 23, 3, 4, 0), (0, 71, 3, 4, 1), (10, 11, 10, 0, 0), (10, 17, 10, 1, 0), (10, 23, 10, 2, 0), (10, 29, 10, 3, 0), (10, 36, 10, 4, 0), (10, 40, 10, 5, 0), (10, 47, 10, 6, 0), (10, 54, 10, 7, 0), (10, 61, 10, 8, 0), (10, 68, 10, 9, 0), (10, 73, 10, 10, 0), (10, 78, 10, 11, 0), (10, 82, 10, 12, 0), (10, 85, 10, 13, 0), (10, 89, 10, 14, 0), (10, 92, 10, 15, 0), (11, 1, 11, 0, 0), (11, 14, 11, 1, 0), (11, 11, 11, 2, 0), (11, 175, 11, 3, 0), (11, 24, 11, 4, 0), (11, 27, 11, 5, 0), (11, 30, 11, 6, 0), (11, 194, 11, 7, 0), (11, 197, 11, 8, 0), (11, 80, 11, 9, 0), (11, 83, 11, 10, 0), (11, 87, 11, 11, 0), (11, 90, 11, 12, 0), (11, 93, 11, 13, 0), (11, 96, 11, 14, 0), (11, 217, 11, 15, 0), (11, 99, 11, 16, 0), (11, 102, 11, 17, 0), (11, 105, 11, 18, 0), (11, 108, 11, 19, 0), (11, 236, 11, 20, 0), (11, 239, 11, 21, 0), (11, 111, 11, 22, 0), (11, 114, 11, 23, 0), (11, 117, 11, 24, 0), (11, 120, 11, 25, 0), (11, 123, 11, 26, 0), (11, 126, 11, 27, 0), (11, 129, 11, 28, 0), (11, 132, 11, 29, 0), (11, 310, 11, 30, 0), (11, 135, 11, 31, 0), (11, 138, 11, 32, 0), (11, 141, 11, 33, 0), (11, 144, 11, 34, 0), (11, 147, 11, 35, 0), (11, 150, 11, 36, 0), (11, 153, 11, 37, 0), (11, 156, 11, 38, 0), (11, 159, 11, 39, 0), (11, 162, 11, 40, 0), (11, 165, 11, 41, 0), (11, 168, 11, 42, 0)]
def flP : List Nat := [163, 164, 165, 166, 167, 168, 169, 170, 171, 172, 173, 174, 204, 205, 206, 207, 208, 209, 210, 211, 212, 231, 232, 233, 234, 235, 236, 237, 238, 239, 240, 256, 257, 258, 259, 260, 261, 262, 263, 264, 280, 281, 282, 283, 284, 285, 286, 287, 288, 289, 290, 291, 319, 320, 321, 322, 323, 324, 340, 350, 351, 352, 353, 354, 355, 356, 357, 376, 377, 378, 379, 380, 381, 394, 395, 396, 397, 398, 399, 400, 401, 402, 403, 404, 405, 406, 420, 421, 422, 423, 424, 425, 426, 427, 428, 429, 430, 431, 432, 433, 434, 435, 1162, 1163, 1164, 1165, 1166, 1167, 1168, 1169, 1170, 1171, 1172, 1173, 1174, 1175, 1176, 1177, 1178, 1179, 1180, 1181, 1182, 1183, 1184, 1185, 1186, 1187, 1188, 1189, 1190, 1191, 1192, 1193, 1194, 1195, 1196, 1197, 1198, 1199, 1200, 1201, 1202, 1203, 1204]
def cnm (c : Nat) : String := cnT.getD c ""
def clk (c : Nat) : vw_C := clT.getD c ("", T_12, 0)
def flw (q : Nat × Nat × Nat × Nat × Nat) : Cond := if q.2.2.2.2 = 0 then .fieldLink (cnm q.1) q.2.1 ((clk q.2.2.1).2.1 q.2.2.2.1).1 ((clk q.2.2.1).2.1 q.2.2.2.1).2.1 ((clk q.2.2.1).2.1 q.2.2.2.1).2.2.1 else .fieldLinkNest (cnm q.1) q.2.1 ((clk q.2.2.1).2.1 q.2.2.2.1).1 ((clk q.2.2.1).2.1 q.2.2.2.1).2.1 ((clk q.2.2.1).2.1 q.2.2.2.1).2.2.1 "PenThatJumps"
/-- the places of the words that lay the fields -/
def layP : List (List Nat) := [[325, 327, 329, 331], [341], [292, 294, 296, 298, 300, 302, 304, 306, 308], [407, 409, 411, 413, 415], [241, 243, 245, 247], [358, 360, 362, 364, 366], [265, 267, 269, 271, 273, 275], [382, 384, 386], [175, 177, 179, 181, 183, 185, 187], [213, 215, 217, 219, 221], [436, 438, 440, 442, 444, 446, 448, 450, 452, 454, 456, 458, 460, 462, 464, 466], [1205, 1207, 1209, 1211, 1213, 1215, 1217, 1219, 1221, 1223, 1225, 1227, 1229, 1231, 1233, 1235, 1237, 1239, 1241, 1243, 1245, 1247, 1249, 1251, 1253, 1255, 1257, 1259, 1261, 1263, 1265, 1267, 1269, 1271, 1273, 1275, 1277, 1279, 1281, 1283, 1285, 1287, 1289], []]
def tyk (c k : Nat) : FieldType := (tyT.getD c ty_12) k
