--deps: c0.ok
set_option maxRecDepth 100000 in
theorem ok_X_question : MOK ML m_X_question := MOK_of (w := [772, 116, 770, 771]) (by decide +kernel) (POK_of (by decide +kernel))
set_option maxRecDepth 100000 in
theorem ok_X_sit : MOK ML m_X_sit := MOK_of (w := [783, 116, 781, 782]) (by decide +kernel) (POK_of (by decide +kernel))
set_option maxRecDepth 100000 in
theorem ok_X_says : MOK ML m_X_says := MOK_of (w := [835, 116, 833, 834]) (by decide +kernel) (POK_of (by decide +kernel))
set_option maxRecDepth 100000 in
theorem ok_X_leans : MOK ML m_X_leans := MOK_of (w := [870, 116, 868, 869]) (by decide +kernel) (POK_of (by decide +kernel))
set_option maxRecDepth 100000 in
theorem ok_X_hits : MOK ML m_X_hits := MOK_of (w := [874, 116, 872, 873]) (by decide +kernel) (POK_of (by decide +kernel))
set_option maxRecDepth 100000 in
theorem ok_X_rates : MOK ML m_X_rates := MOK_of (w := [885, 116, 883, 884]) (by decide +kernel) (POK_of (by decide +kernel))
set_option maxRecDepth 100000 in
theorem ok_X_tricked : MOK ML m_X_tricked := MOK_of (w := [902, 116, 900, 901]) (by decide +kernel) (POK_of (by decide +kernel))
set_option maxRecDepth 100000 in
theorem ok_X_apart : MOK ML m_X_apart := MOK_of (w := [906, 116, 904, 905]) (by decide +kernel) (POK_of (by decide +kernel))
set_option maxRecDepth 100000 in
theorem ok_X_same : MOK ML m_X_same := MOK_of (w := [918, 116, 916, 917]) (by decide +kernel) (POK_of (by decide +kernel))
set_option maxRecDepth 100000 in
theorem ok_X_best : MOK ML m_X_best := MOK_of (w := [922, 116, 920, 921]) (by decide +kernel) (POK_of (by decide +kernel))
set_option maxRecDepth 100000 in
theorem ok_X_odds : MOK ML m_X_odds := MOK_of (w := [955, 116, 953, 954]) (by decide +kernel) (POK_of (by decide +kernel))
set_option maxRecDepth 100000 in
theorem ok_X_items : MOK ML m_X_items := MOK_of (w := [972, 116, 970, 971]) (by decide +kernel) (POK_of (by decide +kernel))
set_option maxRecDepth 100000 in
theorem ok_X_named : MOK ML m_X_named := MOK_of (w := [977, 116, 975, 976]) (by decide +kernel) (POK_of (by decide +kernel))
set_option maxRecDepth 100000 in
theorem ok_X_confess : MOK ML m_X_confess := MOK_of (w := [981, 116, 979, 980]) (by decide +kernel) (POK_of (by decide +kernel))
set_option maxRecDepth 100000 in
theorem ok_X_paper : MOK ML m_X_paper := MOK_of (w := [992, 116, 990, 991]) (by decide +kernel) (POK_of (by decide +kernel))
set_option maxRecDepth 100000 in
theorem ok_X_mark : MOK ML m_X_mark := MOK_of (w := [1000, 116, 998, 999]) (by decide +kernel) (POK_of (by decide +kernel))
set_option maxRecDepth 100000 in
theorem ok_X_count : MOK ML m_X_count := MOK_of (w := [1008, 116, 1006, 1007]) (by decide +kernel) (POK_of (by decide +kernel))
set_option maxRecDepth 100000 in
theorem ok_X_within : MOK ML m_X_within := MOK_of (w := [475, 116, 474]) (by decide +kernel) (POK_of (by decide +kernel))
set_option maxRecDepth 100000 in
theorem ok_X_toldPerson : MOK ML m_X_toldPerson := MOK_of (w := [787, 116, 786, 45]) (by decide +kernel) (POK_of (by decide +kernel))
set_option maxRecDepth 100000 in
theorem ok_X_toldPlan : MOK ML m_X_toldPlan := MOK_of (w := [776, 116, 775, 44]) (by decide +kernel) (POK_of (by decide +kernel))
set_option maxRecDepth 100000 in
theorem ok_X_readerOf : MOK ML m_X_readerOf := MOK_of (w := [843, 116, 842, 55]) (by decide +kernel) (POK_of (by decide +kernel))
set_option maxRecDepth 100000 in
theorem ok_X_keptSitting : MOK ML m_X_keptSitting := MOK_of (w := [839, 116, 838, 54]) (by decide +kernel) (POK_of (by decide +kernel))
set_option maxRecDepth 100000 in
theorem ok_X_countPersons : MOK ML m_X_countPersons := MOK_of (w := [1012, 116, 1011, 73]) (by decide +kernel) (POK_of (by decide +kernel))
set_option maxRecDepth 100000 in
theorem ok_X_countPlans : MOK ML m_X_countPlans := MOK_of (w := [1016, 116, 1015, 74]) (by decide +kernel) (POK_of (by decide +kernel))
set_option maxRecDepth 100000 in
theorem ok_X_rated : MOK ML m_X_rated := MOK_of (w := [889, 116, 888, 61]) (by decide +kernel) (POK_of (by decide +kernel))
set_option maxRecDepth 100000 in
theorem ok_X_addRates : MOK ML m_X_addRates := MOK_of (w := [894, 116, 893, 62]) (by decide +kernel) (POK_of (by decide +kernel))
set_option maxRecDepth 100000 in
theorem ok_X_tried : MOK ML m_X_tried := MOK_of (w := [898, 116, 897, 63]) (by decide +kernel) (POK_of (by decide +kernel))
set_option maxRecDepth 100000 in
theorem ok_X_seatDoer : MOK ML m_X_seatDoer := MOK_of (w := [910, 116, 909, 64]) (by decide +kernel) (POK_of (by decide +kernel))
set_option maxRecDepth 100000 in
theorem ok_X_unlikeDoer : MOK ML m_X_unlikeDoer := MOK_of (w := [914, 116, 913, 65]) (by decide +kernel) (POK_of (by decide +kernel))
set_option maxRecDepth 100000 in
theorem ok_X_power : MOK ML m_X_power := MOK_of (w := [962, 116, 961]) (by decide +kernel) (POK_of (by decide +kernel))
set_option maxRecDepth 100000 in
theorem ok_X_choices : MOK ML m_X_choices := MOK_of (w := [959, 116, 958]) (by decide +kernel) (POK_of (by decide +kernel))
set_option maxRecDepth 100000 in
theorem ok_X_lowest : MOK ML m_X_lowest := MOK_of (w := [965, 116, 964]) (by decide +kernel) (POK_of (by decide +kernel))
set_option maxRecDepth 100000 in
theorem ok_X_commonDivisor : MOK ML m_X_commonDivisor := MOK_of (w := [968, 116, 967]) (by decide +kernel) (POK_of (by decide +kernel))
set_option maxRecDepth 100000 in
theorem ok_M_thrown : MOK ML m_M_thrown := MOK_of (w := [1124, 129, 1122, 1123]) (by decide +kernel) (POK_of (by decide +kernel))
set_option maxRecDepth 100000 in
theorem ok_M_feed : MOK ML m_M_feed := MOK_of (w := [1128, 129, 1126, 1127]) (by decide +kernel) (POK_of (by decide +kernel))
set_option maxRecDepth 100000 in
theorem ok_M_lay : MOK ML m_M_lay := MOK_of (w := [1133, 129, 1131, 79]) (by decide +kernel) (POK_of (by decide +kernel))
set_option maxRecDepth 100000 in
theorem ok_M_init : MOK ML m_M_init := MOK_of (w := [1137, 129, 1136]) (by decide +kernel) (POK_of (by decide +kernel))
