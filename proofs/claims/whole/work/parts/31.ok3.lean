set_option maxRecDepth 100000 in
theorem ok_128 : MOK ML m_128 := MOK_of (w := [1315, 129, 1314]) (by decide +kernel) (POK_of (by decide +kernel))
set_option maxRecDepth 100000 in
theorem ok_129 : MOK ML m_129 := MOK_of (w := [1322, 129, 1321]) (by decide +kernel) (POK_of (by decide +kernel))
set_option maxRecDepth 100000 in
theorem ok_130 : MOK ML m_130 := MOK_of (w := [1319, 129, 1318]) (by decide +kernel) (POK_of (by decide +kernel))
set_option maxRecDepth 100000 in
theorem ok_131 : MOK ML m_131 := MOK_of (w := [1327, 129, 1326]) (by decide +kernel) (POK_of (by decide +kernel))
set_option maxRecDepth 100000 in
theorem ok_132 : MOK ML m_132 := MOK_of (w := [1312, 129, 1311, 80]) (by decide +kernel) (POK_of (by decide +kernel))
set_option maxRecDepth 100000 in
theorem ok_133 : MOK ML m_133 := MOK_of (w := [1339, 129, 1338, 83]) (by decide +kernel) (POK_of (by decide +kernel))
set_option maxRecDepth 100000 in
theorem ok_134 : MOK ML m_134 := MOK_of (w := [1355, 129, 1354, 87]) (by decide +kernel) (POK_of (by decide +kernel))
set_option maxRecDepth 100000 in
theorem ok_135 : MOK ML m_135 := MOK_of (w := [1335, 129, 1334, 82]) (by decide +kernel) (POK_of (by decide +kernel))
set_option maxRecDepth 100000 in
theorem ok_136 : MOK ML m_136 := MOK_of (w := [1351, 129, 1350, 86]) (by decide +kernel) (POK_of (by decide +kernel))
set_option maxRecDepth 100000 in
theorem ok_137 : MOK ML m_137 := MOK_of (w := [1408, 129, 1407, 98]) (by decide +kernel) (POK_of (by decide +kernel))
set_option maxRecDepth 100000 in
theorem ok_138 : MOK ML m_138 := MOK_of (w := [1347, 129, 1346, 85]) (by decide +kernel) (POK_of (by decide +kernel))
set_option maxRecDepth 100000 in
theorem ok_139 : MOK ML m_139 := MOK_of (w := [1371, 129, 1370, 89]) (by decide +kernel) (POK_of (by decide +kernel))
set_option maxRecDepth 100000 in
theorem ok_140 : MOK ML m_140 := MOK_of (w := [1300, 129, 1299]) (by decide +kernel) (POK_of (by decide +kernel))
set_option maxRecDepth 100000 in
theorem ok_141 : MOK ML m_141 := MOK_of (w := [1297, 129, 1295, 1296]) (by decide +kernel) (POK_of (by decide +kernel))
set_option maxRecDepth 100000 in
theorem ok_142 : MOK ML m_142 := MOK_of (w := [1304, 129, 1302, 1303]) (by decide +kernel) (POK_of (by decide +kernel))
set_option maxRecDepth 100000 in
theorem ok_143 : MOK ML m_143 := MOK_of (w := [1424, 129, 1423, 100]) (by decide +kernel) (POK_of (by decide +kernel))
set_option maxRecDepth 100000 in
theorem ok_144 : MOK ML m_144 := MOK_of (w := [1343, 129, 1342, 84]) (by decide +kernel) (POK_of (by decide +kernel))
set_option maxRecDepth 100000 in
theorem ok_145 : MOK ML m_145 := MOK_of (w := [1308, 129, 1306, 1307]) (by decide +kernel) (POK_of (by decide +kernel))
set_option maxRecDepth 100000 in
theorem ok_146 : MOK ML m_146 := MOK_of (w := [1331, 129, 1330, 81]) (by decide +kernel) (POK_of (by decide +kernel))
set_option maxRecDepth 100000 in
theorem ok_147 : MOK ML m_147 := MOK_of (w := [1363, 129, 1362, 88]) (by decide +kernel) (POK_of (by decide +kernel))
set_option maxRecDepth 100000 in
theorem ok_148 : MOK ML m_148 := MOK_of (w := [1359, 129, 1357, 1358]) (by decide +kernel) (POK_of (by decide +kernel))
set_option maxRecDepth 100000 in
theorem ok_149 : MOK ML m_149 := MOK_of (w := [1404, 129, 1403, 97]) (by decide +kernel) (POK_of (by decide +kernel))
set_option maxRecDepth 100000 in
theorem ok_150 : MOK ML m_150 := MOK_of (w := [1412, 129, 1411, 99]) (by decide +kernel) (POK_of (by decide +kernel))
set_option maxRecDepth 100000 in
theorem ok_151 : MOK ML m_151 := MOK_of (w := [1367, 129, 1365, 1366]) (by decide +kernel) (POK_of (by decide +kernel))
set_option maxRecDepth 100000 in
theorem ok_152 : MOK ML m_152 := MOK_of (w := [1416, 129, 1414, 1415]) (by decide +kernel) (POK_of (by decide +kernel))
set_option maxRecDepth 100000 in
theorem ok_153 : MOK ML m_153 := MOK_of (w := [1376, 129, 1375, 90]) (by decide +kernel) (POK_of (by decide +kernel))
set_option maxRecDepth 100000 in
theorem ok_154 : MOK ML m_154 := MOK_of (w := [1380, 129, 1379, 91]) (by decide +kernel) (POK_of (by decide +kernel))
set_option maxRecDepth 100000 in
theorem ok_155 : MOK ML m_155 := MOK_of (w := [1384, 129, 1383, 92]) (by decide +kernel) (POK_of (by decide +kernel))
set_option maxRecDepth 100000 in
theorem ok_156 : MOK ML m_156 := MOK_of (w := [1388, 129, 1387, 93]) (by decide +kernel) (POK_of (by decide +kernel))
set_option maxRecDepth 100000 in
theorem ok_157 : MOK ML m_157 := MOK_of (w := [1392, 129, 1391, 94]) (by decide +kernel) (POK_of (by decide +kernel))
set_option maxRecDepth 100000 in
theorem ok_158 : MOK ML m_158 := MOK_of (w := [1400, 129, 1399, 96]) (by decide +kernel) (POK_of (by decide +kernel))
set_option maxRecDepth 100000 in
theorem ok_159 : MOK ML m_159 := MOK_of (w := [1396, 129, 1395, 95]) (by decide +kernel) (POK_of (by decide +kernel))
set_option maxRecDepth 100000 in
theorem ok_160 : MOK ML m_160 := MOK_of (w := [1449, 129, 1448, 105]) (by decide +kernel) (POK_of (by decide +kernel))
