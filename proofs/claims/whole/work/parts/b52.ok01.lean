theorem mo_39 : m_ok (u_mt 39) := m_okb_ok (p0 := 1570) (p1 := 276) (p2 := 1569) (p3 := 0) rfl (by decide +kernel)
theorem ko_39 : u_okl (u_mt 39) kl_39 = true := by decide +kernel
theorem mo_40 : m_ok (u_mt 40) := m_okb_ok (p0 := 355) (p1 := 260) (p2 := 354) (p3 := 0) rfl (by decide +kernel)
theorem ko_40 : u_okl (u_mt 40) kl_40 = true := by decide +kernel
theorem mo_41 : m_ok (u_mt 41) := m_okb_ok (p0 := 1289) (p1 := 260) (p2 := 1287) (p3 := 1288) rfl (by decide +kernel)
theorem ko_41 : u_okl (u_mt 41) kl_41 = true := by decide +kernel
theorem mo_42 : m_ok (u_mt 42) := m_okb_ok (p0 := 1294) (p1 := 260) (p2 := 1293) (p3 := 14) rfl (by decide +kernel)
theorem ko_42 : u_okl (u_mt 42) kl_42 = true := by decide +kernel
theorem mo_43 : m_ok (u_mt 43) := m_okb_ok (p0 := 1310) (p1 := 260) (p2 := 1309) (p3 := 17) rfl (by decide +kernel)
theorem ko_43 : u_okl (u_mt 43) kl_43 = true := by decide +kernel
theorem mo_44 : m_ok (u_mt 44) := m_okb_ok (p0 := 1315) (p1 := 260) (p2 := 1314) (p3 := 18) rfl (by decide +kernel)
theorem ko_44 : u_okl (u_mt 44) kl_44 = true := by decide +kernel
theorem mo_45 : m_ok (u_mt 45) := m_okb_ok (p0 := 1319) (p1 := 260) (p2 := 1318) (p3 := 19) rfl (by decide +kernel)
theorem ko_45 : u_okl (u_mt 45) kl_45 = true := by decide +kernel
theorem mo_46 : m_ok (u_mt 46) := m_okb_ok (p0 := 1323) (p1 := 260) (p2 := 1322) (p3 := 20) rfl (by decide +kernel)
theorem ko_46 : u_okl (u_mt 46) kl_46 = true := by decide +kernel
theorem mo_47 : m_ok (u_mt 47) := m_okb_ok (p0 := 1326) (p1 := 260) (p2 := 1325) (p3 := 0) rfl (by decide +kernel)
theorem ko_47 : u_okl (u_mt 47) kl_47 = true := by decide +kernel
theorem mo_48 : m_ok (u_mt 48) := m_okb_ok (p0 := 1301) (p1 := 260) (p2 := 1300) (p3 := 15) rfl (by decide +kernel)
theorem ko_48 : u_okl (u_mt 48) kl_48 = true := by decide +kernel
theorem mo_49 : m_ok (u_mt 49) := m_okb_ok (p0 := 1305) (p1 := 260) (p2 := 1304) (p3 := 16) rfl (by decide +kernel)
theorem ko_49 : u_okl (u_mt 49) kl_49 = true := by decide +kernel
theorem mo_50 : m_ok (u_mt 50) := m_okb_ok (p0 := 657) (p1 := 265) (p2 := 656) (p3 := 0) rfl (by decide +kernel)
theorem ko_50 : u_okl (u_mt 50) kl_50 = true := by decide +kernel
theorem mo_51 : m_ok (u_mt 51) := m_okb_ok (p0 := 1640) (p1 := 265) (p2 := 1638) (p3 := 1639) rfl (by decide +kernel)
theorem ko_51 : u_okl (u_mt 51) kl_51 = true := by decide +kernel
theorem mo_52 : m_ok (u_mt 52) := m_okb_ok (p0 := 1645) (p1 := 265) (p2 := 1644) (p3 := 37) rfl (by decide +kernel)
theorem ko_52 : u_okl (u_mt 52) kl_52 = true := by decide +kernel
theorem mo_53 : m_ok (u_mt 53) := m_okb_ok (p0 := 1674) (p1 := 265) (p2 := 1672) (p3 := 1673) rfl (by decide +kernel)
theorem ko_53 : u_okl (u_mt 53) kl_53 = true := by decide +kernel
theorem mo_54 : m_ok (u_mt 54) := m_okb_ok (p0 := 1706) (p1 := 265) (p2 := 1704) (p3 := 1705) rfl (by decide +kernel)
theorem ko_54 : u_okl (u_mt 54) kl_54 = true := by decide +kernel
theorem mo_55 : m_ok (u_mt 55) := m_okb_ok (p0 := 1738) (p1 := 265) (p2 := 1736) (p3 := 1737) rfl (by decide +kernel)
theorem ko_55 : u_okl (u_mt 55) kl_55 = true := by decide +kernel
theorem mo_56 : m_ok (u_mt 56) := m_okb_ok (p0 := 1747) (p1 := 265) (p2 := 1745) (p3 := 1746) rfl (by decide +kernel)
theorem ko_56 : u_okl (u_mt 56) kl_56 = true := by decide +kernel
theorem mo_57 : m_ok (u_mt 57) := m_okb_ok (p0 := 1669) (p1 := 265) (p2 := 1667) (p3 := 1668) rfl (by decide +kernel)
theorem ko_57 : u_okl (u_mt 57) kl_57 = true := by decide +kernel
theorem mo_58 : m_ok (u_mt 58) := m_okb_ok (p0 := 1694) (p1 := 265) (p2 := 1692) (p3 := 1693) rfl (by decide +kernel)
theorem ko_58 : u_okl (u_mt 58) kl_58 = true := by decide +kernel
theorem mo_59 : m_ok (u_mt 59) := m_okb_ok (p0 := 1884) (p1 := 265) (p2 := 1882) (p3 := 1883) rfl (by decide +kernel)
theorem ko_59 : u_okl (u_mt 59) kl_59 = true := by decide +kernel
theorem mo_60 : m_ok (u_mt 60) := m_okb_ok (p0 := 1734) (p1 := 265) (p2 := 1732) (p3 := 1733) rfl (by decide +kernel)
theorem ko_60 : u_okl (u_mt 60) kl_60 = true := by decide +kernel
theorem mo_61 : m_ok (u_mt 61) := m_okb_ok (p0 := 1838) (p1 := 265) (p2 := 1836) (p3 := 1837) rfl (by decide +kernel)
theorem ko_61 : u_okl (u_mt 61) kl_61 = true := by decide +kernel
theorem mo_62 : m_ok (u_mt 62) := m_okb_ok (p0 := 776) (p1 := 266) (p2 := 775) (p3 := 0) rfl (by decide +kernel)
theorem ko_62 : u_okl (u_mt 62) kl_62 = true := by decide +kernel
theorem mo_63 : m_ok (u_mt 63) := m_okb_ok (p0 := 1632) (p1 := 266) (p2 := 1630) (p3 := 1631) rfl (by decide +kernel)
theorem ko_63 : u_okl (u_mt 63) kl_63 = true := by decide +kernel
theorem mo_64 : m_ok (u_mt 64) := m_okb_ok (p0 := 1743) (p1 := 266) (p2 := 1742) (p3 := 43) rfl (by decide +kernel)
theorem ko_64 : u_okl (u_mt 64) kl_64 = true := by decide +kernel
theorem mo_65 : m_ok (u_mt 65) := m_okb_ok (p0 := 1751) (p1 := 266) (p2 := 1750) (p3 := 44) rfl (by decide +kernel)
theorem ko_65 : u_okl (u_mt 65) kl_65 = true := by decide +kernel
theorem mo_66 : m_ok (u_mt 66) := m_okb_ok (p0 := 1763) (p1 := 266) (p2 := 1761) (p3 := 1762) rfl (by decide +kernel)
theorem ko_66 : u_okl (u_mt 66) kl_66 = true := by decide +kernel
theorem mo_67 : m_ok (u_mt 67) := m_okb_ok (p0 := 1768) (p1 := 266) (p2 := 1767) (p3 := 45) rfl (by decide +kernel)
theorem ko_67 : u_okl (u_mt 67) kl_67 = true := by decide +kernel
theorem mo_68 : m_ok (u_mt 68) := m_okb_ok (p0 := 1636) (p1 := 266) (p2 := 1635) (p3 := 36) rfl (by decide +kernel)
theorem ko_68 : u_okl (u_mt 68) kl_68 = true := by decide +kernel
theorem mo_69 : m_ok (u_mt 69) := m_okb_ok (p0 := 1689) (p1 := 266) (p2 := 1688) (p3 := 39) rfl (by decide +kernel)
theorem ko_69 : u_okl (u_mt 69) kl_69 = true := by decide +kernel
theorem mo_70 : m_ok (u_mt 70) := m_okb_ok (p0 := 1697) (p1 := 266) (p2 := 1696) (p3 := 0) rfl (by decide +kernel)
theorem ko_70 : u_okl (u_mt 70) kl_70 = true := by decide +kernel
theorem mo_71 : m_ok (u_mt 71) := m_okb_ok (p0 := 1702) (p1 := 266) (p2 := 1701) (p3 := 40) rfl (by decide +kernel)
theorem ko_71 : u_okl (u_mt 71) kl_71 = true := by decide +kernel
theorem mo_72 : m_ok (u_mt 72) := m_okb_ok (p0 := 1730) (p1 := 266) (p2 := 1729) (p3 := 42) rfl (by decide +kernel)
theorem ko_72 : u_okl (u_mt 72) kl_72 = true := by decide +kernel
theorem mo_73 : m_ok (u_mt 73) := m_okb_ok (p0 := 1710) (p1 := 266) (p2 := 1709) (p3 := 41) rfl (by decide +kernel)
theorem ko_73 : u_okl (u_mt 73) kl_73 = true := by decide +kernel
theorem mo_74 : m_ok (u_mt 74) := m_okb_ok (p0 := 1923) (p1 := 266) (p2 := 1921) (p3 := 1922) rfl (by decide +kernel)
theorem ko_74 : u_okl (u_mt 74) kl_74 = true := by decide +kernel
theorem mo_75 : m_ok (u_mt 75) := m_okb_ok (p0 := 1927) (p1 := 266) (p2 := 1926) (p3 := 68) rfl (by decide +kernel)
theorem ko_75 : u_okl (u_mt 75) kl_75 = true := by decide +kernel
theorem mo_76 : m_ok (u_mt 76) := m_okb_ok (p0 := 1931) (p1 := 266) (p2 := 1930) (p3 := 69) rfl (by decide +kernel)
theorem ko_76 : u_okl (u_mt 76) kl_76 = true := by decide +kernel
