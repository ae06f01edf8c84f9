--deps: c0.ok
set_option maxRecDepth 100000 in
theorem ok_M_isLetter : MOK ML m_M_isLetter := MOK_of (w := [1315, 129, 1314]) (by decide +kernel) (POK_of (by decide +kernel))
set_option maxRecDepth 100000 in
theorem ok_M_isDigit : MOK ML m_M_isDigit := MOK_of (w := [1322, 129, 1321]) (by decide +kernel) (POK_of (by decide +kernel))
set_option maxRecDepth 100000 in
theorem ok_M_rank : MOK ML m_M_rank := MOK_of (w := [1319, 129, 1318]) (by decide +kernel) (POK_of (by decide +kernel))
set_option maxRecDepth 100000 in
theorem ok_M_isSignOf : MOK ML m_M_isSignOf := MOK_of (w := [1327, 129, 1326]) (by decide +kernel) (POK_of (by decide +kernel))
set_option maxRecDepth 100000 in
theorem ok_M_cutAll : MOK ML m_M_cutAll := MOK_of (w := [1312, 129, 1311, 80]) (by decide +kernel) (POK_of (by decide +kernel))
set_option maxRecDepth 100000 in
theorem ok_M_wrong : MOK ML m_M_wrong := MOK_of (w := [1339, 129, 1338, 83]) (by decide +kernel) (POK_of (by decide +kernel))
set_option maxRecDepth 100000 in
theorem ok_M_isSign : MOK ML m_M_isSign := MOK_of (w := [1355, 129, 1354, 87]) (by decide +kernel) (POK_of (by decide +kernel))
set_option maxRecDepth 100000 in
theorem ok_M_isWord : MOK ML m_M_isWord := MOK_of (w := [1335, 129, 1334, 82]) (by decide +kernel) (POK_of (by decide +kernel))
set_option maxRecDepth 100000 in
theorem ok_M_takeSign : MOK ML m_M_takeSign := MOK_of (w := [1351, 129, 1350, 86]) (by decide +kernel) (POK_of (by decide +kernel))
set_option maxRecDepth 100000 in
theorem ok_M_hasSign : MOK ML m_M_hasSign := MOK_of (w := [1408, 129, 1407, 98]) (by decide +kernel) (POK_of (by decide +kernel))
set_option maxRecDepth 100000 in
theorem ok_M_hasWord : MOK ML m_M_hasWord := MOK_of (w := [1347, 129, 1346, 85]) (by decide +kernel) (POK_of (by decide +kernel))
set_option maxRecDepth 100000 in
theorem ok_M_takeWord : MOK ML m_M_takeWord := MOK_of (w := [1371, 129, 1370, 89]) (by decide +kernel) (POK_of (by decide +kernel))
set_option maxRecDepth 100000 in
theorem ok_M_within : MOK ML m_M_within := MOK_of (w := [1300, 129, 1299]) (by decide +kernel) (POK_of (by decide +kernel))
set_option maxRecDepth 100000 in
theorem ok_M_person : MOK ML m_M_person := MOK_of (w := [1297, 129, 1295, 1296]) (by decide +kernel) (POK_of (by decide +kernel))
set_option maxRecDepth 100000 in
theorem ok_M_item : MOK ML m_M_item := MOK_of (w := [1304, 129, 1302, 1303]) (by decide +kernel) (POK_of (by decide +kernel))
set_option maxRecDepth 100000 in
theorem ok_M_isPerson : MOK ML m_M_isPerson := MOK_of (w := [1424, 129, 1423, 100]) (by decide +kernel) (POK_of (by decide +kernel))
set_option maxRecDepth 100000 in
theorem ok_M_takeNumber : MOK ML m_M_takeNumber := MOK_of (w := [1343, 129, 1342, 84]) (by decide +kernel) (POK_of (by decide +kernel))
set_option maxRecDepth 100000 in
theorem ok_M_plan : MOK ML m_M_plan := MOK_of (w := [1308, 129, 1306, 1307]) (by decide +kernel) (POK_of (by decide +kernel))
set_option maxRecDepth 100000 in
theorem ok_M_readAsk : MOK ML m_M_readAsk := MOK_of (w := [1331, 129, 1330, 81]) (by decide +kernel) (POK_of (by decide +kernel))
set_option maxRecDepth 100000 in
theorem ok_M_isPlan : MOK ML m_M_isPlan := MOK_of (w := [1363, 129, 1362, 88]) (by decide +kernel) (POK_of (by decide +kernel))
set_option maxRecDepth 100000 in
theorem ok_M_question : MOK ML m_M_question := MOK_of (w := [1359, 129, 1357, 1358]) (by decide +kernel) (POK_of (by decide +kernel))
set_option maxRecDepth 100000 in
theorem ok_M_emit : MOK ML m_M_emit := MOK_of (w := [1404, 129, 1403, 97]) (by decide +kernel) (POK_of (by decide +kernel))
set_option maxRecDepth 100000 in
theorem ok_M_keepsCodes : MOK ML m_M_keepsCodes := MOK_of (w := [1412, 129, 1411, 99]) (by decide +kernel) (POK_of (by decide +kernel))
set_option maxRecDepth 100000 in
theorem ok_M_body : MOK ML m_M_body := MOK_of (w := [1367, 129, 1365, 1366]) (by decide +kernel) (POK_of (by decide +kernel))
set_option maxRecDepth 100000 in
theorem ok_M_reader : MOK ML m_M_reader := MOK_of (w := [1416, 129, 1414, 1415]) (by decide +kernel) (POK_of (by decide +kernel))
set_option maxRecDepth 100000 in
theorem ok_M_readWhole : MOK ML m_M_readWhole := MOK_of (w := [1376, 129, 1375, 90]) (by decide +kernel) (POK_of (by decide +kernel))
set_option maxRecDepth 100000 in
theorem ok_M_all : MOK ML m_M_all := MOK_of (w := [1380, 129, 1379, 91]) (by decide +kernel) (POK_of (by decide +kernel))
set_option maxRecDepth 100000 in
theorem ok_M_test : MOK ML m_M_test := MOK_of (w := [1384, 129, 1383, 92]) (by decide +kernel) (POK_of (by decide +kernel))
set_option maxRecDepth 100000 in
theorem ok_M_sums : MOK ML m_M_sums := MOK_of (w := [1388, 129, 1387, 93]) (by decide +kernel) (POK_of (by decide +kernel))
set_option maxRecDepth 100000 in
theorem ok_M_products : MOK ML m_M_products := MOK_of (w := [1392, 129, 1391, 94]) (by decide +kernel) (POK_of (by decide +kernel))
set_option maxRecDepth 100000 in
theorem ok_M_factHere : MOK ML m_M_factHere := MOK_of (w := [1400, 129, 1399, 96]) (by decide +kernel) (POK_of (by decide +kernel))
set_option maxRecDepth 100000 in
theorem ok_M_takePart : MOK ML m_M_takePart := MOK_of (w := [1396, 129, 1395, 95]) (by decide +kernel) (POK_of (by decide +kernel))
set_option maxRecDepth 100000 in
theorem ok_M_worthOf : MOK ML m_M_worthOf := MOK_of (w := [1449, 129, 1448, 105]) (by decide +kernel) (POK_of (by decide +kernel))
