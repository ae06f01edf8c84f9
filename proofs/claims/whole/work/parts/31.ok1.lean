set_option maxRecDepth 100000 in
theorem ok_46 : MOK ML m_46 := MOK_of (w := [254, 121, 253]) (by decide +kernel) (POK_of (by decide +kernel))
set_option maxRecDepth 100000 in
theorem ok_47 : MOK ML m_47 := MOK_of (w := [606, 121, 605, 14]) (by decide +kernel) (POK_of (by decide +kernel))
set_option maxRecDepth 100000 in
theorem ok_48 : MOK ML m_48 := MOK_of (w := [716, 121, 715, 37]) (by decide +kernel) (POK_of (by decide +kernel))
set_option maxRecDepth 100000 in
theorem ok_49 : MOK ML m_49 := MOK_of (w := [702, 121, 701, 34]) (by decide +kernel) (POK_of (by decide +kernel))
set_option maxRecDepth 100000 in
theorem ok_50 : MOK ML m_50 := MOK_of (w := [732, 121, 731, 40]) (by decide +kernel) (POK_of (by decide +kernel))
set_option maxRecDepth 100000 in
theorem ok_51 : MOK ML m_51 := MOK_of (w := [694, 121, 693, 32]) (by decide +kernel) (POK_of (by decide +kernel))
set_option maxRecDepth 100000 in
theorem ok_52 : MOK ML m_52 := MOK_of (w := [736, 121, 735, 41]) (by decide +kernel) (POK_of (by decide +kernel))
set_option maxRecDepth 100000 in
theorem ok_53 : MOK ML m_53 := MOK_of (w := [809, 121, 808, 50]) (by decide +kernel) (POK_of (by decide +kernel))
set_option maxRecDepth 100000 in
theorem ok_54 : MOK ML m_54 := MOK_of (w := [814, 121, 813, 51]) (by decide +kernel) (POK_of (by decide +kernel))
set_option maxRecDepth 100000 in
theorem ok_55 : MOK ML m_55 := MOK_of (w := [817, 121, 816]) (by decide +kernel) (POK_of (by decide +kernel))
set_option maxRecDepth 100000 in
theorem ok_56 : MOK ML m_56 := MOK_of (w := [372, 127, 371]) (by decide +kernel) (POK_of (by decide +kernel))
set_option maxRecDepth 100000 in
theorem ok_57 : MOK ML m_57 := MOK_of (w := [821, 127, 820, 52]) (by decide +kernel) (POK_of (by decide +kernel))
set_option maxRecDepth 100000 in
theorem ok_58 : MOK ML m_58 := MOK_of (w := [826, 127, 825, 53]) (by decide +kernel) (POK_of (by decide +kernel))
set_option maxRecDepth 100000 in
theorem ok_59 : MOK ML m_59 := MOK_of (w := [856, 127, 855, 58]) (by decide +kernel) (POK_of (by decide +kernel))
set_option maxRecDepth 100000 in
theorem ok_60 : MOK ML m_60 := MOK_of (w := [878, 127, 877, 60]) (by decide +kernel) (POK_of (by decide +kernel))
set_option maxRecDepth 100000 in
theorem ok_61 : MOK ML m_61 := MOK_of (w := [161, 117, 160]) (by decide +kernel) (POK_of (by decide +kernel))
set_option maxRecDepth 100000 in
theorem ok_62 : MOK ML m_62 := MOK_of (w := [1004, 117, 1003, 72]) (by decide +kernel) (POK_of (by decide +kernel))
set_option maxRecDepth 100000 in
theorem ok_63 : MOK ML m_63 := MOK_of (w := [988, 117, 987]) (by decide +kernel) (POK_of (by decide +kernel))
set_option maxRecDepth 100000 in
theorem ok_64 : MOK ML m_64 := MOK_of (w := [985, 117, 984, 70]) (by decide +kernel) (POK_of (by decide +kernel))
set_option maxRecDepth 100000 in
theorem ok_65 : MOK ML m_65 := MOK_of (w := [1111, 117, 1110, 78]) (by decide +kernel) (POK_of (by decide +kernel))
set_option maxRecDepth 100000 in
theorem ok_66 : MOK ML m_66 := MOK_of (w := [1107, 117, 1106, 77]) (by decide +kernel) (POK_of (by decide +kernel))
set_option maxRecDepth 100000 in
theorem ok_67 : MOK ML m_67 := MOK_of (w := [1020, 117, 1019, 75]) (by decide +kernel) (POK_of (by decide +kernel))
set_option maxRecDepth 100000 in
theorem ok_68 : MOK ML m_68 := MOK_of (w := [996, 117, 995, 71]) (by decide +kernel) (POK_of (by decide +kernel))
set_option maxRecDepth 100000 in
theorem ok_69 : MOK ML m_69 := MOK_of (w := [202, 119, 201]) (by decide +kernel) (POK_of (by decide +kernel))
set_option maxRecDepth 100000 in
theorem ok_70 : MOK ML m_70 := MOK_of (w := [499, 119, 498, 2]) (by decide +kernel) (POK_of (by decide +kernel))
set_option maxRecDepth 100000 in
theorem ok_71 : MOK ML m_71 := MOK_of (w := [491, 119, 490, 1]) (by decide +kernel) (POK_of (by decide +kernel))
set_option maxRecDepth 100000 in
theorem ok_72 : MOK ML m_72 := MOK_of (w := [515, 119, 514, 6]) (by decide +kernel) (POK_of (by decide +kernel))
set_option maxRecDepth 100000 in
theorem ok_73 : MOK ML m_73 := MOK_of (w := [507, 119, 506, 4]) (by decide +kernel) (POK_of (by decide +kernel))
set_option maxRecDepth 100000 in
theorem ok_74 : MOK ML m_74 := MOK_of (w := [588, 119, 587, 11]) (by decide +kernel) (POK_of (by decide +kernel))
set_option maxRecDepth 100000 in
theorem ok_75 : MOK ML m_75 := MOK_of (w := [511, 119, 510, 5]) (by decide +kernel) (POK_of (by decide +kernel))
set_option maxRecDepth 100000 in
theorem ok_76 : MOK ML m_76 := MOK_of (w := [519, 119, 518, 7]) (by decide +kernel) (POK_of (by decide +kernel))
set_option maxRecDepth 100000 in
theorem ok_77 : MOK ML m_77 := MOK_of (w := [526, 119, 525, 8]) (by decide +kernel) (POK_of (by decide +kernel))
set_option maxRecDepth 100000 in
theorem ok_78 : MOK ML m_78 := MOK_of (w := [595, 119, 594, 12]) (by decide +kernel) (POK_of (by decide +kernel))
set_option maxRecDepth 100000 in
theorem ok_79 : MOK ML m_79 := MOK_of (w := [530, 119, 529, 9]) (by decide +kernel) (POK_of (by decide +kernel))
set_option maxRecDepth 100000 in
theorem ok_80 : MOK ML m_80 := MOK_of (w := [536, 119, 535, 10]) (by decide +kernel) (POK_of (by decide +kernel))
set_option maxRecDepth 100000 in
theorem ok_81 : MOK ML m_81 := MOK_of (w := [522, 119, 521]) (by decide +kernel) (POK_of (by decide +kernel))
set_option maxRecDepth 100000 in
theorem ok_82 : MOK ML m_82 := MOK_of (w := [591, 119, 590]) (by decide +kernel) (POK_of (by decide +kernel))
set_option maxRecDepth 100000 in
theorem ok_83 : MOK ML m_83 := MOK_of (w := [598, 119, 597]) (by decide +kernel) (POK_of (by decide +kernel))
set_option maxRecDepth 100000 in
theorem ok_84 : MOK ML m_84 := MOK_of (w := [145, 116, 144]) (by decide +kernel) (POK_of (by decide +kernel))
set_option maxRecDepth 100000 in
theorem ok_85 : MOK ML m_85 := MOK_of (w := [472, 116, 470, 471]) (by decide +kernel) (POK_of (by decide +kernel))
set_option maxRecDepth 100000 in
theorem ok_86 : MOK ML m_86 := MOK_of (w := [483, 116, 481, 482]) (by decide +kernel) (POK_of (by decide +kernel))
set_option maxRecDepth 100000 in
theorem ok_87 : MOK ML m_87 := MOK_of (w := [487, 116, 485, 486]) (by decide +kernel) (POK_of (by decide +kernel))
set_option maxRecDepth 100000 in
theorem ok_88 : MOK ML m_88 := MOK_of (w := [495, 116, 493, 494]) (by decide +kernel) (POK_of (by decide +kernel))
set_option maxRecDepth 100000 in
theorem ok_89 : MOK ML m_89 := MOK_of (w := [680, 116, 678, 679]) (by decide +kernel) (POK_of (by decide +kernel))
set_option maxRecDepth 100000 in
theorem ok_90 : MOK ML m_90 := MOK_of (w := [756, 116, 754, 755]) (by decide +kernel) (POK_of (by decide +kernel))
