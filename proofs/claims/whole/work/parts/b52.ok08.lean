theorem mo_300 : m_ok (u_mt 300) := m_okb_ok (p0 := 1817) (p1 := 277) (p2 := 1816) (p3 := 0) rfl (by decide +kernel)
theorem ko_300 : u_okl (u_mt 300) kl_300 = true := by decide +kernel
theorem ko_301 : u_okl (u_mt 301) kl_301 = true := by decide +kernel
theorem ko_302 : u_okl (u_mt 302) kl_302 = true := by decide +kernel
theorem mo_303 : m_ok (u_mt 303) := m_okb_ok (p0 := 1664) (p1 := 263) (p2 := 1647) (p3 := 0) rfl (by decide +kernel)
theorem ko_303 : u_okl (u_mt 303) kl_303 = true := by decide +kernel
theorem mo_304 : m_ok (u_mt 304) := m_okb_ok (p0 := 404) (p1 := 263) (p2 := 403) (p3 := 0) rfl (by decide +kernel)
theorem ko_304 : u_okl (u_mt 304) kl_304 = true := by decide +kernel
theorem ko_305 : u_okl (u_mt 305) kl_305 = true := by decide +kernel
theorem mo_307 : m_ok (u_mt 307) := m_okb_ok (p0 := 1678) (p1 := 265) (p2 := 1676) (p3 := 1677) rfl (by decide +kernel)
theorem ko_307 : u_okl (u_mt 307) kl_307 = true := by decide +kernel
theorem mo_308 : m_ok (u_mt 308) := m_okb_ok (p0 := 1682) (p1 := 265) (p2 := 1681) (p3 := 38) rfl (by decide +kernel)
theorem ko_308 : u_okl (u_mt 308) kl_308 = true := by decide +kernel
theorem mo_309 : m_ok (u_mt 309) := m_okb_ok (p0 := 1875) (p1 := 265) (p2 := 1873) (p3 := 1874) rfl (by decide +kernel)
theorem ko_309 : u_okl (u_mt 309) kl_309 = true := by decide +kernel
theorem mo_310 : m_ok (u_mt 310) := m_okb_ok (p0 := 1879) (p1 := 265) (p2 := 1877) (p3 := 1878) rfl (by decide +kernel)
theorem ko_310 : u_okl (u_mt 310) kl_310 = true := by decide +kernel
theorem mo_311 : m_ok (u_mt 311) := m_okb_ok (p0 := 2005) (p1 := 257) (p2 := 2004) (p3 := 76) rfl (by decide +kernel)
theorem ko_311 : u_okl (u_mt 311) kl_311 = true := by decide +kernel
