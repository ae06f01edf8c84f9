set_option maxRecDepth 100000 in
theorem ok_91 : MOK ML m_91 := MOK_of (w := [772, 116, 770, 771]) (by decide +kernel) (POK_of (by decide +kernel))
set_option maxRecDepth 100000 in
theorem ok_92 : MOK ML m_92 := MOK_of (w := [783, 116, 781, 782]) (by decide +kernel) (POK_of (by decide +kernel))
set_option maxRecDepth 100000 in
theorem ok_93 : MOK ML m_93 := MOK_of (w := [835, 116, 833, 834]) (by decide +kernel) (POK_of (by decide +kernel))
set_option maxRecDepth 100000 in
theorem ok_94 : MOK ML m_94 := MOK_of (w := [870, 116, 868, 869]) (by decide +kernel) (POK_of (by decide +kernel))
set_option maxRecDepth 100000 in
theorem ok_95 : MOK ML m_95 := MOK_of (w := [874, 116, 872, 873]) (by decide +kernel) (POK_of (by decide +kernel))
set_option maxRecDepth 100000 in
theorem ok_96 : MOK ML m_96 := MOK_of (w := [885, 116, 883, 884]) (by decide +kernel) (POK_of (by decide +kernel))
set_option maxRecDepth 100000 in
theorem ok_97 : MOK ML m_97 := MOK_of (w := [902, 116, 900, 901]) (by decide +kernel) (POK_of (by decide +kernel))
set_option maxRecDepth 100000 in
theorem ok_98 : MOK ML m_98 := MOK_of (w := [906, 116, 904, 905]) (by decide +kernel) (POK_of (by decide +kernel))
set_option maxRecDepth 100000 in
theorem ok_99 : MOK ML m_99 := MOK_of (w := [918, 116, 916, 917]) (by decide +kernel) (POK_of (by decide +kernel))
set_option maxRecDepth 100000 in
theorem ok_100 : MOK ML m_100 := MOK_of (w := [922, 116, 920, 921]) (by decide +kernel) (POK_of (by decide +kernel))
set_option maxRecDepth 100000 in
theorem ok_101 : MOK ML m_101 := MOK_of (w := [955, 116, 953, 954]) (by decide +kernel) (POK_of (by decide +kernel))
set_option maxRecDepth 100000 in
theorem ok_102 : MOK ML m_102 := MOK_of (w := [972, 116, 970, 971]) (by decide +kernel) (POK_of (by decide +kernel))
set_option maxRecDepth 100000 in
theorem ok_103 : MOK ML m_103 := MOK_of (w := [977, 116, 975, 976]) (by decide +kernel) (POK_of (by decide +kernel))
set_option maxRecDepth 100000 in
theorem ok_104 : MOK ML m_104 := MOK_of (w := [981, 116, 979, 980]) (by decide +kernel) (POK_of (by decide +kernel))
set_option maxRecDepth 100000 in
theorem ok_105 : MOK ML m_105 := MOK_of (w := [992, 116, 990, 991]) (by decide +kernel) (POK_of (by decide +kernel))
set_option maxRecDepth 100000 in
theorem ok_106 : MOK ML m_106 := MOK_of (w := [1000, 116, 998, 999]) (by decide +kernel) (POK_of (by decide +kernel))
set_option maxRecDepth 100000 in
theorem ok_107 : MOK ML m_107 := MOK_of (w := [1008, 116, 1006, 1007]) (by decide +kernel) (POK_of (by decide +kernel))
set_option maxRecDepth 100000 in
theorem ok_108 : MOK ML m_108 := MOK_of (w := [475, 116, 474]) (by decide +kernel) (POK_of (by decide +kernel))
set_option maxRecDepth 100000 in
theorem ok_109 : MOK ML m_109 := MOK_of (w := [787, 116, 786, 45]) (by decide +kernel) (POK_of (by decide +kernel))
set_option maxRecDepth 100000 in
theorem ok_110 : MOK ML m_110 := MOK_of (w := [776, 116, 775, 44]) (by decide +kernel) (POK_of (by decide +kernel))
set_option maxRecDepth 100000 in
theorem ok_111 : MOK ML m_111 := MOK_of (w := [843, 116, 842, 55]) (by decide +kernel) (POK_of (by decide +kernel))
set_option maxRecDepth 100000 in
theorem ok_112 : MOK ML m_112 := MOK_of (w := [839, 116, 838, 54]) (by decide +kernel) (POK_of (by decide +kernel))
set_option maxRecDepth 100000 in
theorem ok_113 : MOK ML m_113 := MOK_of (w := [1012, 116, 1011, 73]) (by decide +kernel) (POK_of (by decide +kernel))
set_option maxRecDepth 100000 in
theorem ok_114 : MOK ML m_114 := MOK_of (w := [1016, 116, 1015, 74]) (by decide +kernel) (POK_of (by decide +kernel))
set_option maxRecDepth 100000 in
theorem ok_115 : MOK ML m_115 := MOK_of (w := [889, 116, 888, 61]) (by decide +kernel) (POK_of (by decide +kernel))
set_option maxRecDepth 100000 in
theorem ok_116 : MOK ML m_116 := MOK_of (w := [894, 116, 893, 62]) (by decide +kernel) (POK_of (by decide +kernel))
set_option maxRecDepth 100000 in
theorem ok_117 : MOK ML m_117 := MOK_of (w := [898, 116, 897, 63]) (by decide +kernel) (POK_of (by decide +kernel))
set_option maxRecDepth 100000 in
theorem ok_118 : MOK ML m_118 := MOK_of (w := [910, 116, 909, 64]) (by decide +kernel) (POK_of (by decide +kernel))
set_option maxRecDepth 100000 in
theorem ok_119 : MOK ML m_119 := MOK_of (w := [914, 116, 913, 65]) (by decide +kernel) (POK_of (by decide +kernel))
set_option maxRecDepth 100000 in
theorem ok_120 : MOK ML m_120 := MOK_of (w := [962, 116, 961]) (by decide +kernel) (POK_of (by decide +kernel))
set_option maxRecDepth 100000 in
theorem ok_121 : MOK ML m_121 := MOK_of (w := [959, 116, 958]) (by decide +kernel) (POK_of (by decide +kernel))
set_option maxRecDepth 100000 in
theorem ok_122 : MOK ML m_122 := MOK_of (w := [965, 116, 964]) (by decide +kernel) (POK_of (by decide +kernel))
set_option maxRecDepth 100000 in
theorem ok_123 : MOK ML m_123 := MOK_of (w := [968, 116, 967]) (by decide +kernel) (POK_of (by decide +kernel))
set_option maxRecDepth 100000 in
theorem ok_124 : MOK ML m_124 := MOK_of (w := [1124, 129, 1122, 1123]) (by decide +kernel) (POK_of (by decide +kernel))
set_option maxRecDepth 100000 in
theorem ok_125 : MOK ML m_125 := MOK_of (w := [1128, 129, 1126, 1127]) (by decide +kernel) (POK_of (by decide +kernel))
set_option maxRecDepth 100000 in
theorem ok_126 : MOK ML m_126 := MOK_of (w := [1133, 129, 1131, 79]) (by decide +kernel) (POK_of (by decide +kernel))
set_option maxRecDepth 100000 in
theorem ok_127 : MOK ML m_127 := MOK_of (w := [1137, 129, 1136]) (by decide +kernel) (POK_of (by decide +kernel))
