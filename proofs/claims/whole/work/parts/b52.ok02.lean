theorem mo_77 : m_ok (u_mt 77) := m_okb_ok (p0 := 1935) (p1 := 266) (p2 := 1934) (p3 := 70) rfl (by decide +kernel)
theorem ko_77 : u_okl (u_mt 77) kl_77 = true := by decide +kernel
theorem mo_78 : m_ok (u_mt 78) := m_okb_ok (p0 := 1940) (p1 := 266) (p2 := 1939) (p3 := 71) rfl (by decide +kernel)
theorem ko_78 : u_okl (u_mt 78) kl_78 = true := by decide +kernel
theorem mo_79 : m_ok (u_mt 79) := m_okb_ok (p0 := 1944) (p1 := 266) (p2 := 1943) (p3 := 72) rfl (by decide +kernel)
theorem ko_79 : u_okl (u_mt 79) kl_79 = true := by decide +kernel
theorem mo_80 : m_ok (u_mt 80) := m_okb_ok (p0 := 523) (p1 := 264) (p2 := 522) (p3 := 0) rfl (by decide +kernel)
theorem ko_80 : u_okl (u_mt 80) kl_80 = true := by decide +kernel
theorem mo_81 : m_ok (u_mt 81) := m_okb_ok (p0 := 1240) (p1 := 264) (p2 := 1238) (p3 := 1239) rfl (by decide +kernel)
theorem ko_81 : u_okl (u_mt 81) kl_81 = true := by decide +kernel
theorem mo_82 : m_ok (u_mt 82) := m_okb_ok (p0 := 1487) (p1 := 264) (p2 := 1485) (p3 := 1486) rfl (by decide +kernel)
theorem ko_82 : u_okl (u_mt 82) kl_82 = true := by decide +kernel
theorem mo_83 : m_ok (u_mt 83) := m_okb_ok (p0 := 1386) (p1 := 264) (p2 := 1384) (p3 := 1385) rfl (by decide +kernel)
theorem ko_83 : u_okl (u_mt 83) kl_83 = true := by decide +kernel
theorem mo_84 : m_ok (u_mt 84) := m_okb_ok (p0 := 1261) (p1 := 264) (p2 := 1259) (p3 := 1260) rfl (by decide +kernel)
theorem ko_84 : u_okl (u_mt 84) kl_84 = true := by decide +kernel
theorem mo_85 : m_ok (u_mt 85) := m_okb_ok (p0 := 1253) (p1 := 264) (p2 := 1251) (p3 := 1252) rfl (by decide +kernel)
theorem ko_85 : u_okl (u_mt 85) kl_85 = true := by decide +kernel
theorem mo_86 : m_ok (u_mt 86) := m_okb_ok (p0 := 1249) (p1 := 264) (p2 := 1248) (p3 := 11) rfl (by decide +kernel)
theorem ko_86 : u_okl (u_mt 86) kl_86 = true := by decide +kernel
theorem mo_87 : m_ok (u_mt 87) := m_okb_ok (p0 := 1257) (p1 := 264) (p2 := 1256) (p3 := 12) rfl (by decide +kernel)
theorem ko_87 : u_okl (u_mt 87) kl_87 = true := by decide +kernel
theorem mo_88 : m_ok (u_mt 88) := m_okb_ok (p0 := 1281) (p1 := 264) (p2 := 1280) (p3 := 13) rfl (by decide +kernel)
theorem ko_88 : u_okl (u_mt 88) kl_88 = true := by decide +kernel
theorem mo_89 : m_ok (u_mt 89) := m_okb_ok (p0 := 1539) (p1 := 264) (p2 := 1537) (p3 := 1538) rfl (by decide +kernel)
theorem ko_89 : u_okl (u_mt 89) kl_89 = true := by decide +kernel
theorem mo_90 : m_ok (u_mt 90) := m_okb_ok (p0 := 1515) (p1 := 264) (p2 := 1513) (p3 := 1514) rfl (by decide +kernel)
theorem ko_90 : u_okl (u_mt 90) kl_90 = true := by decide +kernel
theorem mo_91 : m_ok (u_mt 91) := m_okb_ok (p0 := 1479) (p1 := 264) (p2 := 1477) (p3 := 1478) rfl (by decide +kernel)
theorem ko_91 : u_okl (u_mt 91) kl_91 = true := by decide +kernel
theorem mo_92 : m_ok (u_mt 92) := m_okb_ok (p0 := 1491) (p1 := 264) (p2 := 1489) (p3 := 1490) rfl (by decide +kernel)
theorem ko_92 : u_okl (u_mt 92) kl_92 = true := by decide +kernel
theorem mo_93 : m_ok (u_mt 93) := m_okb_ok (p0 := 1495) (p1 := 264) (p2 := 1494) (p3 := 26) rfl (by decide +kernel)
theorem ko_93 : u_okl (u_mt 93) kl_93 = true := by decide +kernel
theorem mo_94 : m_ok (u_mt 94) := m_okb_ok (p0 := 1499) (p1 := 264) (p2 := 1498) (p3 := 27) rfl (by decide +kernel)
theorem ko_94 : u_okl (u_mt 94) kl_94 = true := by decide +kernel
theorem mo_95 : m_ok (u_mt 95) := m_okb_ok (p0 := 1419) (p1 := 264) (p2 := 1417) (p3 := 1418) rfl (by decide +kernel)
theorem ko_95 : u_okl (u_mt 95) kl_95 = true := by decide +kernel
theorem mo_96 : m_ok (u_mt 96) := m_okb_ok (p0 := 1415) (p1 := 264) (p2 := 1413) (p3 := 1414) rfl (by decide +kernel)
theorem ko_96 : u_okl (u_mt 96) kl_96 = true := by decide +kernel
theorem mo_97 : m_ok (u_mt 97) := m_okb_ok (p0 := 1445) (p1 := 264) (p2 := 1443) (p3 := 1444) rfl (by decide +kernel)
theorem ko_97 : u_okl (u_mt 97) kl_97 = true := by decide +kernel
theorem mo_98 : m_ok (u_mt 98) := m_okb_ok (p0 := 1423) (p1 := 264) (p2 := 1421) (p3 := 1422) rfl (by decide +kernel)
theorem ko_98 : u_okl (u_mt 98) kl_98 = true := by decide +kernel
theorem mo_99 : m_ok (u_mt 99) := m_okb_ok (p0 := 2052) (p1 := 264) (p2 := 2050) (p3 := 2051) rfl (by decide +kernel)
theorem ko_99 : u_okl (u_mt 99) kl_99 = true := by decide +kernel
theorem mo_100 : m_ok (u_mt 100) := m_okb_ok (p0 := 2056) (p1 := 264) (p2 := 2054) (p3 := 2055) rfl (by decide +kernel)
theorem ko_100 : u_okl (u_mt 100) kl_100 = true := by decide +kernel
theorem mo_101 : m_ok (u_mt 101) := m_okb_ok (p0 := 2017) (p1 := 264) (p2 := 2015) (p3 := 2016) rfl (by decide +kernel)
theorem ko_101 : u_okl (u_mt 101) kl_101 = true := by decide +kernel
theorem mo_102 : m_ok (u_mt 102) := m_okb_ok (p0 := 2022) (p1 := 264) (p2 := 2020) (p3 := 2021) rfl (by decide +kernel)
theorem ko_102 : u_okl (u_mt 102) kl_102 = true := by decide +kernel
theorem mo_103 : m_ok (u_mt 103) := m_okb_ok (p0 := 1582) (p1 := 264) (p2 := 1581) (p3 := 33) rfl (by decide +kernel)
theorem ko_103 : u_okl (u_mt 103) kl_103 = true := by decide +kernel
theorem mo_104 : m_ok (u_mt 104) := m_okb_ok (p0 := 1578) (p1 := 264) (p2 := 1577) (p3 := 32) rfl (by decide +kernel)
theorem ko_104 : u_okl (u_mt 104) kl_104 = true := by decide +kernel
theorem mo_105 : m_ok (u_mt 105) := m_okb_ok (p0 := 1603) (p1 := 264) (p2 := 1602) (p3 := 34) rfl (by decide +kernel)
theorem ko_105 : u_okl (u_mt 105) kl_105 = true := by decide +kernel
theorem mo_106 : m_ok (u_mt 106) := m_okb_ok (p0 := 1574) (p1 := 264) (p2 := 1572) (p3 := 1573) rfl (by decide +kernel)
theorem ko_106 : u_okl (u_mt 106) kl_106 = true := by decide +kernel
theorem mo_107 : m_ok (u_mt 107) := m_okb_ok (p0 := 908) (p1 := 268) (p2 := 907) (p3 := 0) rfl (by decide +kernel)
theorem ko_107 : u_okl (u_mt 107) kl_107 = true := by decide +kernel
theorem mo_108 : m_ok (u_mt 108) := m_okb_ok (p0 := 1796) (p1 := 268) (p2 := 1794) (p3 := 1795) rfl (by decide +kernel)
theorem ko_108 : u_okl (u_mt 108) kl_108 = true := by decide +kernel
theorem mo_109 : m_ok (u_mt 109) := m_okb_ok (p0 := 1802) (p1 := 268) (p2 := 1800) (p3 := 1801) rfl (by decide +kernel)
theorem ko_109 : u_okl (u_mt 109) kl_109 = true := by decide +kernel
theorem mo_110 : m_ok (u_mt 110) := m_okb_ok (p0 := 1806) (p1 := 268) (p2 := 1805) (p3 := 46) rfl (by decide +kernel)
theorem ko_110 : u_okl (u_mt 110) kl_110 = true := by decide +kernel
theorem mo_111 : m_ok (u_mt 111) := m_okb_ok (p0 := 1814) (p1 := 268) (p2 := 1812) (p3 := 1813) rfl (by decide +kernel)
theorem ko_111 : u_okl (u_mt 111) kl_111 = true := by decide +kernel
theorem mo_112 : m_ok (u_mt 112) := m_okb_ok (p0 := 1988) (p1 := 268) (p2 := 1986) (p3 := 1987) rfl (by decide +kernel)
theorem ko_112 : u_okl (u_mt 112) kl_112 = true := by decide +kernel
theorem mo_113 : m_ok (u_mt 113) := m_okb_ok (p0 := 1953) (p1 := 268) (p2 := 1951) (p3 := 1952) rfl (by decide +kernel)
theorem ko_113 : u_okl (u_mt 113) kl_113 = true := by decide +kernel
theorem mo_114 : m_ok (u_mt 114) := m_okb_ok (p0 := 1958) (p1 := 268) (p2 := 1957) (p3 := 73) rfl (by decide +kernel)
theorem ko_114 : u_okl (u_mt 114) kl_114 = true := by decide +kernel
