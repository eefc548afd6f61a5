theorem mo_26 : m_ok (u_mt 26) := m_okb_ok (p0 := 1064) (p1 := 258) (p2 := 1063) (p3 := 5) rfl (by decide +kernel)
theorem mo_305 : m_ok (u_mt 305) := m_okb_ok (p0 := 1348) (p1 := 263) (p2 := 1347) (p3 := 0) rfl (by decide +kernel)
