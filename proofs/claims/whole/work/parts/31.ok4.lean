set_option maxRecDepth 100000 in
theorem ok_161 : MOK ML m_161 := MOK_of (w := [1452, 129, 1451]) (by decide +kernel) (POK_of (by decide +kernel))
set_option maxRecDepth 100000 in
theorem ok_162 : MOK ML m_162 := MOK_of (w := [1436, 129, 1435, 103]) (by decide +kernel) (POK_of (by decide +kernel))
set_option maxRecDepth 100000 in
theorem ok_163 : MOK ML m_163 := MOK_of (w := [1445, 129, 1444, 104]) (by decide +kernel) (POK_of (by decide +kernel))
set_option maxRecDepth 100000 in
theorem ok_164 : MOK ML m_164 := MOK_of (w := [1432, 129, 1431, 102]) (by decide +kernel) (POK_of (by decide +kernel))
set_option maxRecDepth 100000 in
theorem ok_165 : MOK ML m_165 := MOK_of (w := [1428, 129, 1427, 101]) (by decide +kernel) (POK_of (by decide +kernel))
set_option maxRecDepth 100000 in
theorem ok_166 : MOK ML m_166 := MOK_of (w := [1420, 129, 1418, 1419]) (by decide +kernel) (POK_of (by decide +kernel))
set_option maxRecDepth 100000 in
theorem ok_167 : MOK ML m_167 := MOK_of (w := [1460, 129, 1459, 106]) (by decide +kernel) (POK_of (by decide +kernel))
set_option maxRecDepth 100000 in
theorem ok_168 : MOK ML m_168 := MOK_of (w := [1456, 129, 1454, 1455]) (by decide +kernel) (POK_of (by decide +kernel))
set_option maxRecDepth 100000 in
theorem ok_169 : MOK ML m_169 := MOK_of (w := [1478, 129, 1477, 108]) (by decide +kernel) (POK_of (by decide +kernel))
set_option maxRecDepth 100000 in
theorem ok_170 : MOK ML m_170 := MOK_of (w := [1474, 129, 1473, 107]) (by decide +kernel) (POK_of (by decide +kernel))
set_option maxRecDepth 100000 in
theorem ok_171 : MOK ML m_171 := MOK_of (w := [1467, 129, 1466]) (by decide +kernel) (POK_of (by decide +kernel))
set_option maxRecDepth 100000 in
theorem ok_172 : MOK ML m_172 := MOK_of (w := [1470, 129, 1469]) (by decide +kernel) (POK_of (by decide +kernel))
set_option maxRecDepth 100000 in
theorem ok_173 : MOK ML m_173 := MOK_of (w := [1464, 129, 1462, 1463]) (by decide +kernel) (POK_of (by decide +kernel))
set_option maxRecDepth 100000 in
theorem ok_174 : MOK ML m_174 := MOK_of (w := [1482, 129, 1480, 1481]) (by decide +kernel) (POK_of (by decide +kernel))
set_option maxRecDepth 100000 in
theorem ok_175 : MOK ML m_175 := MOK_of (w := [1486, 129, 1484, 1485]) (by decide +kernel) (POK_of (by decide +kernel))
set_option maxRecDepth 100000 in
theorem ok_176 : MOK ML m_176 := MOK_of (w := [1494, 129, 1493, 109]) (by decide +kernel) (POK_of (by decide +kernel))
set_option maxRecDepth 100000 in
theorem ok_177 : MOK ML m_177 := MOK_of (w := [1498, 129, 1497, 110]) (by decide +kernel) (POK_of (by decide +kernel))
set_option maxRecDepth 100000 in
theorem ok_178 : MOK ML m_178 := MOK_of (w := [1490, 129, 1488, 1489]) (by decide +kernel) (POK_of (by decide +kernel))
set_option maxRecDepth 100000 in
theorem ok_179 : MOK ML m_179 := MOK_of (w := [1502, 129, 1500, 1501]) (by decide +kernel) (POK_of (by decide +kernel))
set_option maxRecDepth 100000 in
theorem ok_180 : MOK ML m_180 := MOK_of (w := [1513, 129, 1512, 111]) (by decide +kernel) (POK_of (by decide +kernel))
set_option maxRecDepth 100000 in
theorem ok_181 : MOK ML m_181 := MOK_of (w := [1509, 129, 1508]) (by decide +kernel) (POK_of (by decide +kernel))
set_option maxRecDepth 100000 in
theorem ok_182 : MOK ML m_182 := MOK_of (w := [1506, 129, 1504, 1505]) (by decide +kernel) (POK_of (by decide +kernel))
set_option maxRecDepth 100000 in
theorem ok_183 : MOK ML m_183 := MOK_of (w := [1517, 129, 1515, 1516]) (by decide +kernel) (POK_of (by decide +kernel))
set_option maxRecDepth 100000 in
theorem ok_184 : MOK ML m_184 := MOK_of (w := [1529, 129, 1528, 113]) (by decide +kernel) (POK_of (by decide +kernel))
set_option maxRecDepth 100000 in
theorem ok_185 : MOK ML m_185 := MOK_of (w := [1525, 129, 1524, 112]) (by decide +kernel) (POK_of (by decide +kernel))
set_option maxRecDepth 100000 in
theorem ok_186 : MOK ML m_186 := MOK_of (w := [1521, 129, 1519, 1520]) (by decide +kernel) (POK_of (by decide +kernel))
set_option maxRecDepth 100000 in
theorem ok_187 : MOK ML m_187 := MOK_of (w := [1546, 129, 1545]) (by decide +kernel) (POK_of (by decide +kernel))
set_option maxRecDepth 100000 in
theorem ok_188 : MOK ML m_188 := MOK_of (w := [1543, 129, 1542]) (by decide +kernel) (POK_of (by decide +kernel))
set_option maxRecDepth 100000 in
theorem ok_189 : MOK ML m_189 := MOK_of (w := [1540, 129, 1539]) (by decide +kernel) (POK_of (by decide +kernel))
set_option maxRecDepth 100000 in
theorem ok_190 : MOK ML m_190 := MOK_of (w := [1537, 129, 1536]) (by decide +kernel) (POK_of (by decide +kernel))
