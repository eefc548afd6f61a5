theorem mo_300 : m_ok (u_mt 300) := m_okb_ok (p0 := 1809) (p1 := 277) (p2 := 1808) (p3 := 0) rfl (by decide +kernel)
theorem ko_300 : u_okl (u_mt 300) kl_300 = true := by decide +kernel
theorem ko_301 : u_okl (u_mt 301) kl_301 = true := by decide +kernel
theorem ko_302 : u_okl (u_mt 302) kl_302 = true := by decide +kernel
theorem mo_303 : m_ok (u_mt 303) := m_okb_ok (p0 := 1664) (p1 := 263) (p2 := 1647) (p3 := 0) rfl (by decide +kernel)
theorem ko_303 : u_okl (u_mt 303) kl_303 = true := by decide +kernel
theorem mo_304 : m_ok (u_mt 304) := m_okb_ok (p0 := 404) (p1 := 263) (p2 := 403) (p3 := 0) rfl (by decide +kernel)
theorem ko_304 : u_okl (u_mt 304) kl_304 = true := by decide +kernel
theorem ko_305 : u_okl (u_mt 305) kl_305 = true := by decide +kernel
