--deps: c0.ok
set_option maxRecDepth 100000 in
theorem ok_Pg_init : MOK ML m_Pg_init := MOK_of (w := [254, 121, 253]) (by decide +kernel) (POK_of (by decide +kernel))
set_option maxRecDepth 100000 in
theorem ok_Pg_clear : MOK ML m_Pg_clear := MOK_of (w := [606, 121, 605, 14]) (by decide +kernel) (POK_of (by decide +kernel))
set_option maxRecDepth 100000 in
theorem ok_Pg_add : MOK ML m_Pg_add := MOK_of (w := [716, 121, 715, 37]) (by decide +kernel) (POK_of (by decide +kernel))
set_option maxRecDepth 100000 in
theorem ok_Pg_opens : MOK ML m_Pg_opens := MOK_of (w := [702, 121, 701, 34]) (by decide +kernel) (POK_of (by decide +kernel))
set_option maxRecDepth 100000 in
theorem ok_Pg_close : MOK ML m_Pg_close := MOK_of (w := [732, 121, 731, 40]) (by decide +kernel) (POK_of (by decide +kernel))
set_option maxRecDepth 100000 in
theorem ok_Pg_hasLine : MOK ML m_Pg_hasLine := MOK_of (w := [694, 121, 693, 32]) (by decide +kernel) (POK_of (by decide +kernel))
set_option maxRecDepth 100000 in
theorem ok_Pg_become : MOK ML m_Pg_become := MOK_of (w := [736, 121, 735, 41]) (by decide +kernel) (POK_of (by decide +kernel))
set_option maxRecDepth 100000 in
theorem ok_Pg_run : MOK ML m_Pg_run := MOK_of (w := [809, 121, 808, 50]) (by decide +kernel) (POK_of (by decide +kernel))
set_option maxRecDepth 100000 in
theorem ok_Pg_take : MOK ML m_Pg_take := MOK_of (w := [814, 121, 813, 51]) (by decide +kernel) (POK_of (by decide +kernel))
set_option maxRecDepth 100000 in
theorem ok_Pg_joined : MOK ML m_Pg_joined := MOK_of (w := [817, 121, 816]) (by decide +kernel) (POK_of (by decide +kernel))
set_option maxRecDepth 100000 in
theorem ok_Si_init : MOK ML m_Si_init := MOK_of (w := [372, 127, 371]) (by decide +kernel) (POK_of (by decide +kernel))
set_option maxRecDepth 100000 in
theorem ok_Si_begin : MOK ML m_Si_begin := MOK_of (w := [821, 127, 820, 52]) (by decide +kernel) (POK_of (by decide +kernel))
set_option maxRecDepth 100000 in
theorem ok_Si_draw : MOK ML m_Si_draw := MOK_of (w := [826, 127, 825, 53]) (by decide +kernel) (POK_of (by decide +kernel))
set_option maxRecDepth 100000 in
theorem ok_Si_jumpAt : MOK ML m_Si_jumpAt := MOK_of (w := [856, 127, 855, 58]) (by decide +kernel) (POK_of (by decide +kernel))
set_option maxRecDepth 100000 in
theorem ok_Si_standsOut : MOK ML m_Si_standsOut := MOK_of (w := [878, 127, 877, 60]) (by decide +kernel) (POK_of (by decide +kernel))
set_option maxRecDepth 100000 in
theorem ok_Ta_init : MOK ML m_Ta_init := MOK_of (w := [161, 117, 160]) (by decide +kernel) (POK_of (by decide +kernel))
set_option maxRecDepth 100000 in
theorem ok_Ta_become : MOK ML m_Ta_become := MOK_of (w := [1004, 117, 1003, 72]) (by decide +kernel) (POK_of (by decide +kernel))
set_option maxRecDepth 100000 in
theorem ok_Ta_cell : MOK ML m_Ta_cell := MOK_of (w := [988, 117, 987]) (by decide +kernel) (POK_of (by decide +kernel))
set_option maxRecDepth 100000 in
theorem ok_Ta_addConfessions : MOK ML m_Ta_addConfessions := MOK_of (w := [985, 117, 984, 70]) (by decide +kernel) (POK_of (by decide +kernel))
set_option maxRecDepth 100000 in
theorem ok_Ta_confessionsAt : MOK ML m_Ta_confessionsAt := MOK_of (w := [1111, 117, 1110, 78]) (by decide +kernel) (POK_of (by decide +kernel))
set_option maxRecDepth 100000 in
theorem ok_Ta_confessed : MOK ML m_Ta_confessed := MOK_of (w := [1107, 117, 1106, 77]) (by decide +kernel) (POK_of (by decide +kernel))
set_option maxRecDepth 100000 in
theorem ok_Ta_allConfessions : MOK ML m_Ta_allConfessions := MOK_of (w := [1020, 117, 1019, 75]) (by decide +kernel) (POK_of (by decide +kernel))
set_option maxRecDepth 100000 in
theorem ok_Ta_addPaper : MOK ML m_Ta_addPaper := MOK_of (w := [996, 117, 995, 71]) (by decide +kernel) (POK_of (by decide +kernel))
set_option maxRecDepth 100000 in
theorem ok_Tp_init : MOK ML m_Tp_init := MOK_of (w := [202, 119, 201]) (by decide +kernel) (POK_of (by decide +kernel))
set_option maxRecDepth 100000 in
theorem ok_Tp_clear : MOK ML m_Tp_clear := MOK_of (w := [499, 119, 498, 2]) (by decide +kernel) (POK_of (by decide +kernel))
set_option maxRecDepth 100000 in
theorem ok_Tp_put : MOK ML m_Tp_put := MOK_of (w := [491, 119, 490, 1]) (by decide +kernel) (POK_of (by decide +kernel))
set_option maxRecDepth 100000 in
theorem ok_Tp_signAt : MOK ML m_Tp_signAt := MOK_of (w := [515, 119, 514, 6]) (by decide +kernel) (POK_of (by decide +kernel))
set_option maxRecDepth 100000 in
theorem ok_Tp_cut : MOK ML m_Tp_cut := MOK_of (w := [507, 119, 506, 4]) (by decide +kernel) (POK_of (by decide +kernel))
set_option maxRecDepth 100000 in
theorem ok_Tp_addToken : MOK ML m_Tp_addToken := MOK_of (w := [588, 119, 587, 11]) (by decide +kernel) (POK_of (by decide +kernel))
set_option maxRecDepth 100000 in
theorem ok_Tp_pastBlanks : MOK ML m_Tp_pastBlanks := MOK_of (w := [511, 119, 510, 5]) (by decide +kernel) (POK_of (by decide +kernel))
set_option maxRecDepth 100000 in
theorem ok_Tp_cutToken : MOK ML m_Tp_cutToken := MOK_of (w := [519, 119, 518, 7]) (by decide +kernel) (POK_of (by decide +kernel))
set_option maxRecDepth 100000 in
theorem ok_Tp_cutWord : MOK ML m_Tp_cutWord := MOK_of (w := [526, 119, 525, 8]) (by decide +kernel) (POK_of (by decide +kernel))
set_option maxRecDepth 100000 in
theorem ok_Tp_cutNumber : MOK ML m_Tp_cutNumber := MOK_of (w := [595, 119, 594, 12]) (by decide +kernel) (POK_of (by decide +kernel))
set_option maxRecDepth 100000 in
theorem ok_Tp_rowOfWord : MOK ML m_Tp_rowOfWord := MOK_of (w := [530, 119, 529, 9]) (by decide +kernel) (POK_of (by decide +kernel))
set_option maxRecDepth 100000 in
theorem ok_Tp_spells : MOK ML m_Tp_spells := MOK_of (w := [536, 119, 535, 10]) (by decide +kernel) (POK_of (by decide +kernel))
set_option maxRecDepth 100000 in
theorem ok_Tp_isLetter : MOK ML m_Tp_isLetter := MOK_of (w := [522, 119, 521]) (by decide +kernel) (POK_of (by decide +kernel))
set_option maxRecDepth 100000 in
theorem ok_Tp_isDigit : MOK ML m_Tp_isDigit := MOK_of (w := [591, 119, 590]) (by decide +kernel) (POK_of (by decide +kernel))
set_option maxRecDepth 100000 in
theorem ok_Tp_isSign : MOK ML m_Tp_isSign := MOK_of (w := [598, 119, 597]) (by decide +kernel) (POK_of (by decide +kernel))
set_option maxRecDepth 100000 in
theorem ok_X_init : MOK ML m_X_init := MOK_of (w := [145, 116, 144]) (by decide +kernel) (POK_of (by decide +kernel))
set_option maxRecDepth 100000 in
theorem ok_X_person : MOK ML m_X_person := MOK_of (w := [472, 116, 470, 471]) (by decide +kernel) (POK_of (by decide +kernel))
set_option maxRecDepth 100000 in
theorem ok_X_item : MOK ML m_X_item := MOK_of (w := [483, 116, 481, 482]) (by decide +kernel) (POK_of (by decide +kernel))
set_option maxRecDepth 100000 in
theorem ok_X_feed : MOK ML m_X_feed := MOK_of (w := [487, 116, 485, 486]) (by decide +kernel) (POK_of (by decide +kernel))
set_option maxRecDepth 100000 in
theorem ok_X_plan : MOK ML m_X_plan := MOK_of (w := [495, 116, 493, 494]) (by decide +kernel) (POK_of (by decide +kernel))
set_option maxRecDepth 100000 in
theorem ok_X_body : MOK ML m_X_body := MOK_of (w := [680, 116, 678, 679]) (by decide +kernel) (POK_of (by decide +kernel))
set_option maxRecDepth 100000 in
theorem ok_X_reader : MOK ML m_X_reader := MOK_of (w := [756, 116, 754, 755]) (by decide +kernel) (POK_of (by decide +kernel))
