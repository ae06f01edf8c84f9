--deps: c0.ok
set_option maxRecDepth 100000 in
theorem ok_M_both : MOK ML m_M_both := MOK_of (w := [1452, 129, 1451]) (by decide +kernel) (POK_of (by decide +kernel))
set_option maxRecDepth 100000 in
theorem ok_M_asksOf : MOK ML m_M_asksOf := MOK_of (w := [1436, 129, 1435, 103]) (by decide +kernel) (POK_of (by decide +kernel))
set_option maxRecDepth 100000 in
theorem ok_M_jumpOf : MOK ML m_M_jumpOf := MOK_of (w := [1445, 129, 1444, 104]) (by decide +kernel) (POK_of (by decide +kernel))
set_option maxRecDepth 100000 in
theorem ok_M_habitOf : MOK ML m_M_habitOf := MOK_of (w := [1432, 129, 1431, 102]) (by decide +kernel) (POK_of (by decide +kernel))
set_option maxRecDepth 100000 in
theorem ok_M_sits : MOK ML m_M_sits := MOK_of (w := [1428, 129, 1427, 101]) (by decide +kernel) (POK_of (by decide +kernel))
set_option maxRecDepth 100000 in
theorem ok_M_sit : MOK ML m_M_sit := MOK_of (w := [1420, 129, 1418, 1419]) (by decide +kernel) (POK_of (by decide +kernel))
set_option maxRecDepth 100000 in
theorem ok_M_isSitting : MOK ML m_M_isSitting := MOK_of (w := [1460, 129, 1459, 106]) (by decide +kernel) (POK_of (by decide +kernel))
set_option maxRecDepth 100000 in
theorem ok_M_jump : MOK ML m_M_jump := MOK_of (w := [1456, 129, 1454, 1455]) (by decide +kernel) (POK_of (by decide +kernel))
set_option maxRecDepth 100000 in
theorem ok_M_findReadings : MOK ML m_M_findReadings := MOK_of (w := [1478, 129, 1477, 108]) (by decide +kernel) (POK_of (by decide +kernel))
set_option maxRecDepth 100000 in
theorem ok_M_doesSay : MOK ML m_M_doesSay := MOK_of (w := [1474, 129, 1473, 107]) (by decide +kernel) (POK_of (by decide +kernel))
set_option maxRecDepth 100000 in
theorem ok_M_isReaderNumber : MOK ML m_M_isReaderNumber := MOK_of (w := [1467, 129, 1466]) (by decide +kernel) (POK_of (by decide +kernel))
set_option maxRecDepth 100000 in
theorem ok_M_isFile : MOK ML m_M_isFile := MOK_of (w := [1470, 129, 1469]) (by decide +kernel) (POK_of (by decide +kernel))
set_option maxRecDepth 100000 in
theorem ok_M_says : MOK ML m_M_says := MOK_of (w := [1464, 129, 1462, 1463]) (by decide +kernel) (POK_of (by decide +kernel))
set_option maxRecDepth 100000 in
theorem ok_M_leans : MOK ML m_M_leans := MOK_of (w := [1482, 129, 1480, 1481]) (by decide +kernel) (POK_of (by decide +kernel))
set_option maxRecDepth 100000 in
theorem ok_M_hits : MOK ML m_M_hits := MOK_of (w := [1486, 129, 1484, 1485]) (by decide +kernel) (POK_of (by decide +kernel))
set_option maxRecDepth 100000 in
theorem ok_M_areRates : MOK ML m_M_areRates := MOK_of (w := [1494, 129, 1493, 109]) (by decide +kernel) (POK_of (by decide +kernel))
set_option maxRecDepth 100000 in
theorem ok_M_findRates : MOK ML m_M_findRates := MOK_of (w := [1498, 129, 1497, 110]) (by decide +kernel) (POK_of (by decide +kernel))
set_option maxRecDepth 100000 in
theorem ok_M_rates : MOK ML m_M_rates := MOK_of (w := [1490, 129, 1488, 1489]) (by decide +kernel) (POK_of (by decide +kernel))
set_option maxRecDepth 100000 in
theorem ok_M_tricked : MOK ML m_M_tricked := MOK_of (w := [1502, 129, 1500, 1501]) (by decide +kernel) (POK_of (by decide +kernel))
set_option maxRecDepth 100000 in
theorem ok_M_apartOf : MOK ML m_M_apartOf := MOK_of (w := [1513, 129, 1512, 111]) (by decide +kernel) (POK_of (by decide +kernel))
set_option maxRecDepth 100000 in
theorem ok_M_isFear : MOK ML m_M_isFear := MOK_of (w := [1509, 129, 1508]) (by decide +kernel) (POK_of (by decide +kernel))
set_option maxRecDepth 100000 in
theorem ok_M_apart : MOK ML m_M_apart := MOK_of (w := [1506, 129, 1504, 1505]) (by decide +kernel) (POK_of (by decide +kernel))
set_option maxRecDepth 100000 in
theorem ok_M_same : MOK ML m_M_same := MOK_of (w := [1517, 129, 1515, 1516]) (by decide +kernel) (POK_of (by decide +kernel))
set_option maxRecDepth 100000 in
theorem ok_M_powerOf : MOK ML m_M_powerOf := MOK_of (w := [1529, 129, 1528, 113]) (by decide +kernel) (POK_of (by decide +kernel))
set_option maxRecDepth 100000 in
theorem ok_M_minutesOf : MOK ML m_M_minutesOf := MOK_of (w := [1525, 129, 1524, 112]) (by decide +kernel) (POK_of (by decide +kernel))
set_option maxRecDepth 100000 in
theorem ok_M_best : MOK ML m_M_best := MOK_of (w := [1521, 129, 1519, 1520]) (by decide +kernel) (POK_of (by decide +kernel))
set_option maxRecDepth 100000 in
theorem ok_M_common : MOK ML m_M_common := MOK_of (w := [1546, 129, 1545]) (by decide +kernel) (POK_of (by decide +kernel))
set_option maxRecDepth 100000 in
theorem ok_M_lowest : MOK ML m_M_lowest := MOK_of (w := [1543, 129, 1542]) (by decide +kernel) (POK_of (by decide +kernel))
set_option maxRecDepth 100000 in
theorem ok_M_power : MOK ML m_M_power := MOK_of (w := [1540, 129, 1539]) (by decide +kernel) (POK_of (by decide +kernel))
set_option maxRecDepth 100000 in
theorem ok_M_choices : MOK ML m_M_choices := MOK_of (w := [1537, 129, 1536]) (by decide +kernel) (POK_of (by decide +kernel))
