theorem mo_115 : m_ok (u_mt 115) := m_okb_ok (p0 := 1964) (p1 := 268) (p2 := 1963) (p3 := 74) rfl (by decide +kernel)
theorem ko_115 : u_okl (u_mt 115) kl_115 = true := by decide +kernel
theorem mo_116 : m_ok (u_mt 116) := m_okb_ok (p0 := 516) (p1 := 261) (p2 := 515) (p3 := 0) rfl (by decide +kernel)
theorem ko_116 : u_okl (u_mt 116) kl_116 = true := by decide +kernel
theorem mo_117 : m_ok (u_mt 117) := m_okb_ok (p0 := 1236) (p1 := 261) (p2 := 1234) (p3 := 1235) rfl (by decide +kernel)
theorem ko_117 : u_okl (u_mt 117) kl_117 = true := by decide +kernel
theorem mo_118 : m_ok (u_mt 118) := m_okb_ok (p0 := 2064) (p1 := 261) (p2 := 2062) (p3 := 2063) rfl (by decide +kernel)
theorem ko_118 : u_okl (u_mt 118) kl_118 = true := by decide +kernel
theorem mo_119 : m_ok (u_mt 119) := m_okb_ok (p0 := 1483) (p1 := 261) (p2 := 1481) (p3 := 1482) rfl (by decide +kernel)
theorem ko_119 : u_okl (u_mt 119) kl_119 = true := by decide +kernel
theorem mo_120 : m_ok (u_mt 120) := m_okb_ok (p0 := 1547) (p1 := 261) (p2 := 1545) (p3 := 1546) rfl (by decide +kernel)
theorem ko_120 : u_okl (u_mt 120) kl_120 = true := by decide +kernel
theorem mo_121 : m_ok (u_mt 121) := m_okb_ok (p0 := 1623) (p1 := 261) (p2 := 1621) (p3 := 1622) rfl (by decide +kernel)
theorem ko_121 : u_okl (u_mt 121) kl_121 = true := by decide +kernel
theorem mo_122 : m_ok (u_mt 122) := m_okb_ok (p0 := 282) (p1 := 257) (p2 := 281) (p3 := 0) rfl (by decide +kernel)
theorem ko_122 : u_okl (u_mt 122) kl_122 = true := by decide +kernel
theorem mo_123 : m_ok (u_mt 123) := m_okb_ok (p0 := 1003) (p1 := 257) (p2 := 1001) (p3 := 1002) rfl (by decide +kernel)
theorem ko_123 : u_okl (u_mt 123) kl_123 = true := by decide +kernel
theorem mo_124 : m_ok (u_mt 124) := m_okb_ok (p0 := 1027) (p1 := 257) (p2 := 1025) (p3 := 1026) rfl (by decide +kernel)
theorem ko_124 : u_okl (u_mt 124) kl_124 = true := by decide +kernel
theorem mo_125 : m_ok (u_mt 125) := m_okb_ok (p0 := 1031) (p1 := 257) (p2 := 1029) (p3 := 1030) rfl (by decide +kernel)
theorem ko_125 : u_okl (u_mt 125) kl_125 = true := by decide +kernel
theorem mo_126 : m_ok (u_mt 126) := m_okb_ok (p0 := 1285) (p1 := 257) (p2 := 1283) (p3 := 1284) rfl (by decide +kernel)
theorem ko_126 : u_okl (u_mt 126) kl_126 = true := by decide +kernel
theorem mo_127 : m_ok (u_mt 127) := m_okb_ok (p0 := 1378) (p1 := 257) (p2 := 1376) (p3 := 1377) rfl (by decide +kernel)
theorem ko_127 : u_okl (u_mt 127) kl_127 = true := by decide +kernel
theorem mo_128 : m_ok (u_mt 128) := m_okb_ok (p0 := 1391) (p1 := 257) (p2 := 1389) (p3 := 1390) rfl (by decide +kernel)
theorem ko_128 : u_okl (u_mt 128) kl_128 = true := by decide +kernel
theorem mo_129 : m_ok (u_mt 129) := m_okb_ok (p0 := 1428) (p1 := 257) (p2 := 1426) (p3 := 1427) rfl (by decide +kernel)
theorem ko_129 : u_okl (u_mt 129) kl_129 = true := by decide +kernel
theorem mo_130 : m_ok (u_mt 130) := m_okb_ok (p0 := 1437) (p1 := 257) (p2 := 1435) (p3 := 1436) rfl (by decide +kernel)
theorem ko_130 : u_okl (u_mt 130) kl_130 = true := by decide +kernel
theorem mo_131 : m_ok (u_mt 131) := m_okb_ok (p0 := 1450) (p1 := 257) (p2 := 1448) (p3 := 1449) rfl (by decide +kernel)
theorem ko_131 : u_okl (u_mt 131) kl_131 = true := by decide +kernel
theorem mo_132 : m_ok (u_mt 132) := m_okb_ok (p0 := 1455) (p1 := 257) (p2 := 1453) (p3 := 1454) rfl (by decide +kernel)
theorem ko_132 : u_okl (u_mt 132) kl_132 = true := by decide +kernel
theorem mo_133 : m_ok (u_mt 133) := m_okb_ok (p0 := 1503) (p1 := 257) (p2 := 1501) (p3 := 1502) rfl (by decide +kernel)
theorem ko_133 : u_okl (u_mt 133) kl_133 = true := by decide +kernel
theorem mo_134 : m_ok (u_mt 134) := m_okb_ok (p0 := 1511) (p1 := 257) (p2 := 1509) (p3 := 1510) rfl (by decide +kernel)
theorem ko_134 : u_okl (u_mt 134) kl_134 = true := by decide +kernel
theorem mo_135 : m_ok (u_mt 135) := m_okb_ok (p0 := 1519) (p1 := 257) (p2 := 1517) (p3 := 1518) rfl (by decide +kernel)
theorem ko_135 : u_okl (u_mt 135) kl_135 = true := by decide +kernel
theorem mo_136 : m_ok (u_mt 136) := m_okb_ok (p0 := 1543) (p1 := 257) (p2 := 1541) (p3 := 1542) rfl (by decide +kernel)
theorem ko_136 : u_okl (u_mt 136) kl_136 = true := by decide +kernel
theorem mo_137 : m_ok (u_mt 137) := m_okb_ok (p0 := 1551) (p1 := 257) (p2 := 1549) (p3 := 1550) rfl (by decide +kernel)
theorem ko_137 : u_okl (u_mt 137) kl_137 = true := by decide +kernel
theorem mo_138 : m_ok (u_mt 138) := m_okb_ok (p0 := 1608) (p1 := 257) (p2 := 1606) (p3 := 1607) rfl (by decide +kernel)
theorem ko_138 : u_okl (u_mt 138) kl_138 = true := by decide +kernel
theorem mo_139 : m_ok (u_mt 139) := m_okb_ok (p0 := 1616) (p1 := 257) (p2 := 1614) (p3 := 1615) rfl (by decide +kernel)
theorem ko_139 : u_okl (u_mt 139) kl_139 = true := by decide +kernel
theorem mo_140 : m_ok (u_mt 140) := m_okb_ok (p0 := 1627) (p1 := 257) (p2 := 1625) (p3 := 1626) rfl (by decide +kernel)
theorem ko_140 : u_okl (u_mt 140) kl_140 = true := by decide +kernel
theorem mo_141 : m_ok (u_mt 141) := m_okb_ok (p0 := 1755) (p1 := 257) (p2 := 1753) (p3 := 1754) rfl (by decide +kernel)
theorem ko_141 : u_okl (u_mt 141) kl_141 = true := by decide +kernel
theorem mo_142 : m_ok (u_mt 142) := m_okb_ok (p0 := 1759) (p1 := 257) (p2 := 1757) (p3 := 1758) rfl (by decide +kernel)
theorem ko_142 : u_okl (u_mt 142) kl_142 = true := by decide +kernel
theorem mo_143 : m_ok (u_mt 143) := m_okb_ok (p0 := 1772) (p1 := 257) (p2 := 1770) (p3 := 1771) rfl (by decide +kernel)
theorem ko_143 : u_okl (u_mt 143) kl_143 = true := by decide +kernel
theorem mo_144 : m_ok (u_mt 144) := m_okb_ok (p0 := 1792) (p1 := 257) (p2 := 1774) (p3 := 1775) rfl (by decide +kernel)
theorem ko_144 : u_okl (u_mt 144) kl_144 = true := by decide +kernel
theorem mo_145 : m_ok (u_mt 145) := m_okb_ok (p0 := 1810) (p1 := 257) (p2 := 1808) (p3 := 1809) rfl (by decide +kernel)
theorem ko_145 : u_okl (u_mt 145) kl_145 = true := by decide +kernel
theorem mo_146 : m_ok (u_mt 146) := m_okb_ok (p0 := 1825) (p1 := 257) (p2 := 1823) (p3 := 1824) rfl (by decide +kernel)
theorem ko_146 : u_okl (u_mt 146) kl_146 = true := by decide +kernel
theorem mo_147 : m_ok (u_mt 147) := m_okb_ok (p0 := 1893) (p1 := 257) (p2 := 1891) (p3 := 1892) rfl (by decide +kernel)
theorem ko_147 : u_okl (u_mt 147) kl_147 = true := by decide +kernel
theorem mo_148 : m_ok (u_mt 148) := m_okb_ok (p0 := 1903) (p1 := 257) (p2 := 1901) (p3 := 1902) rfl (by decide +kernel)
theorem ko_148 : u_okl (u_mt 148) kl_148 = true := by decide +kernel
theorem mo_149 : m_ok (u_mt 149) := m_okb_ok (p0 := 1949) (p1 := 257) (p2 := 1947) (p3 := 1948) rfl (by decide +kernel)
theorem ko_149 : u_okl (u_mt 149) kl_149 = true := by decide +kernel
theorem mo_150 : m_ok (u_mt 150) := m_okb_ok (p0 := 1984) (p1 := 257) (p2 := 1966) (p3 := 1967) rfl (by decide +kernel)
theorem ko_150 : u_okl (u_mt 150) kl_150 = true := by decide +kernel
theorem mo_151 : m_ok (u_mt 151) := m_okb_ok (p0 := 1992) (p1 := 257) (p2 := 1990) (p3 := 1991) rfl (by decide +kernel)
theorem ko_151 : u_okl (u_mt 151) kl_151 = true := by decide +kernel
theorem mo_152 : m_ok (u_mt 152) := m_okb_ok (p0 := 1996) (p1 := 257) (p2 := 1994) (p3 := 1995) rfl (by decide +kernel)
theorem ko_152 : u_okl (u_mt 152) kl_152 = true := by decide +kernel
theorem mo_153 : m_ok (u_mt 153) := m_okb_ok (p0 := 2048) (p1 := 257) (p2 := 2030) (p3 := 2031) rfl (by decide +kernel)
theorem ko_153 : u_okl (u_mt 153) kl_153 = true := by decide +kernel
theorem mo_154 : m_ok (u_mt 154) := m_okb_ok (p0 := 2060) (p1 := 257) (p2 := 2058) (p3 := 2059) rfl (by decide +kernel)
theorem ko_154 : u_okl (u_mt 154) kl_154 = true := by decide +kernel
theorem mo_155 : m_ok (u_mt 155) := m_okb_ok (p0 := 2069) (p1 := 257) (p2 := 2067) (p3 := 2068) rfl (by decide +kernel)
theorem ko_155 : u_okl (u_mt 155) kl_155 = true := by decide +kernel
theorem mo_156 : m_ok (u_mt 156) := m_okb_ok (p0 := 1007) (p1 := 257) (p2 := 1006) (p3 := 0) rfl (by decide +kernel)
theorem ko_156 : u_okl (u_mt 156) kl_156 = true := by decide +kernel
theorem mo_157 : m_ok (u_mt 157) := m_okb_ok (p0 := 1507) (p1 := 257) (p2 := 1506) (p3 := 28) rfl (by decide +kernel)
theorem ko_157 : u_okl (u_mt 157) kl_157 = true := by decide +kernel
theorem mo_158 : m_ok (u_mt 158) := m_okb_ok (p0 := 1382) (p1 := 257) (p2 := 1381) (p3 := 21) rfl (by decide +kernel)
theorem ko_158 : u_okl (u_mt 158) kl_158 = true := by decide +kernel
theorem mo_159 : m_ok (u_mt 159) := m_okb_ok (p0 := 1612) (p1 := 257) (p2 := 1611) (p3 := 35) rfl (by decide +kernel)
theorem ko_159 : u_okl (u_mt 159) kl_159 = true := by decide +kernel
theorem mo_160 : m_ok (u_mt 160) := m_okb_ok (p0 := 1411) (p1 := 257) (p2 := 1410) (p3 := 22) rfl (by decide +kernel)
theorem ko_160 : u_okl (u_mt 160) kl_160 = true := by decide +kernel
theorem mo_161 : m_ok (u_mt 161) := m_okb_ok (p0 := 1432) (p1 := 257) (p2 := 1431) (p3 := 23) rfl (by decide +kernel)
theorem ko_161 : u_okl (u_mt 161) kl_161 = true := by decide +kernel
theorem mo_162 : m_ok (u_mt 162) := m_okb_ok (p0 := 1441) (p1 := 257) (p2 := 1440) (p3 := 24) rfl (by decide +kernel)
theorem ko_162 : u_okl (u_mt 162) kl_162 = true := by decide +kernel
theorem mo_163 : m_ok (u_mt 163) := m_okb_ok (p0 := 1555) (p1 := 257) (p2 := 1554) (p3 := 29) rfl (by decide +kernel)
theorem ko_163 : u_okl (u_mt 163) kl_163 = true := by decide +kernel
theorem mo_164 : m_ok (u_mt 164) := m_okb_ok (p0 := 1619) (p1 := 257) (p2 := 1618) (p3 := 0) rfl (by decide +kernel)
theorem ko_164 : u_okl (u_mt 164) kl_164 = true := by decide +kernel
theorem mo_165 : m_ok (u_mt 165) := m_okb_ok (p0 := 1475) (p1 := 257) (p2 := 1474) (p3 := 25) rfl (by decide +kernel)
theorem ko_165 : u_okl (u_mt 165) kl_165 = true := by decide +kernel
theorem mo_166 : m_ok (u_mt 166) := m_okb_ok (p0 := 1559) (p1 := 257) (p2 := 1558) (p3 := 30) rfl (by decide +kernel)
theorem ko_166 : u_okl (u_mt 166) kl_166 = true := by decide +kernel
theorem mo_167 : m_ok (u_mt 167) := m_okb_ok (p0 := 2009) (p1 := 257) (p2 := 2008) (p3 := 77) rfl (by decide +kernel)
theorem ko_167 : u_okl (u_mt 167) kl_167 = true := by decide +kernel
