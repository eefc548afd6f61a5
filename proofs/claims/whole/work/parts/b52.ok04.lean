theorem mo_168 : m_ok (u_mt 168) := m_okb_ok (p0 := 2001) (p1 := 257) (p2 := 2000) (p3 := 75) rfl (by decide +kernel)
theorem ko_168 : u_okl (u_mt 168) kl_168 = true := by decide +kernel
theorem mo_169 : m_ok (u_mt 169) := m_okb_ok (p0 := 2074) (p1 := 269) (p2 := 2073) (p3 := 0) rfl (by decide +kernel)
theorem ko_169 : u_okl (u_mt 169) kl_169 = true := by decide +kernel
theorem mo_170 : m_ok (u_mt 170) := m_okb_ok (p0 := 2393) (p1 := 269) (p2 := 2392) (p3 := 0) rfl (by decide +kernel)
theorem ko_170 : u_okl (u_mt 170) kl_170 = true := by decide +kernel
theorem mo_171 : m_ok (u_mt 171) := m_okb_ok (p0 := 2645) (p1 := 269) (p2 := 2644) (p3 := 0) rfl (by decide +kernel)
theorem ko_171 : u_okl (u_mt 171) kl_171 = true := by decide +kernel
theorem mo_172 : m_ok (u_mt 172) := m_okb_ok (p0 := 2884) (p1 := 269) (p2 := 2883) (p3 := 0) rfl (by decide +kernel)
theorem ko_172 : u_okl (u_mt 172) kl_172 = true := by decide +kernel
theorem mo_173 : m_ok (u_mt 173) := m_okb_ok (p0 := 2306) (p1 := 269) (p2 := 2305) (p3 := 78) rfl (by decide +kernel)
theorem ko_173 : u_okl (u_mt 173) kl_173 = true := by decide +kernel
theorem mo_174 : m_ok (u_mt 174) := m_okb_ok (p0 := 2286) (p1 := 269) (p2 := 2284) (p3 := 2285) rfl (by decide +kernel)
theorem ko_174 : u_okl (u_mt 174) kl_174 = true := by decide +kernel
theorem mo_175 : m_ok (u_mt 175) := m_okb_ok (p0 := 2310) (p1 := 269) (p2 := 2308) (p3 := 2309) rfl (by decide +kernel)
theorem ko_175 : u_okl (u_mt 175) kl_175 = true := by decide +kernel
theorem mo_176 : m_ok (u_mt 176) := m_okb_ok (p0 := 2350) (p1 := 269) (p2 := 2349) (p3 := 85) rfl (by decide +kernel)
theorem ko_176 : u_okl (u_mt 176) kl_176 = true := by decide +kernel
theorem mo_177 : m_ok (u_mt 177) := m_okb_ok (p0 := 2326) (p1 := 269) (p2 := 2325) (p3 := 81) rfl (by decide +kernel)
theorem ko_177 : u_okl (u_mt 177) kl_177 = true := by decide +kernel
theorem mo_178 : m_ok (u_mt 178) := m_okb_ok (p0 := 2390) (p1 := 269) (p2 := 2389) (p3 := 91) rfl (by decide +kernel)
theorem ko_178 : u_okl (u_mt 178) kl_178 = true := by decide +kernel
theorem mo_179 : m_ok (u_mt 179) := m_okb_ok (p0 := 2339) (p1 := 269) (p2 := 2338) (p3 := 84) rfl (by decide +kernel)
theorem ko_179 : u_okl (u_mt 179) kl_179 = true := by decide +kernel
theorem mo_180 : m_ok (u_mt 180) := m_okb_ok (p0 := 2335) (p1 := 269) (p2 := 2334) (p3 := 83) rfl (by decide +kernel)
theorem ko_180 : u_okl (u_mt 180) kl_180 = true := by decide +kernel
theorem mo_181 : m_ok (u_mt 181) := m_okb_ok (p0 := 2378) (p1 := 269) (p2 := 2377) (p3 := 88) rfl (by decide +kernel)
theorem ko_181 : u_okl (u_mt 181) kl_181 = true := by decide +kernel
theorem mo_182 : m_ok (u_mt 182) := m_okb_ok (p0 := 2478) (p1 := 269) (p2 := 2477) (p3 := 105) rfl (by decide +kernel)
theorem ko_182 : u_okl (u_mt 182) kl_182 = true := by decide +kernel
theorem mo_183 : m_ok (u_mt 183) := m_okb_ok (p0 := 2386) (p1 := 269) (p2 := 2385) (p3 := 90) rfl (by decide +kernel)
theorem ko_183 : u_okl (u_mt 183) kl_183 = true := by decide +kernel
theorem mo_184 : m_ok (u_mt 184) := m_okb_ok (p0 := 2462) (p1 := 269) (p2 := 2461) (p3 := 104) rfl (by decide +kernel)
theorem ko_184 : u_okl (u_mt 184) kl_184 = true := by decide +kernel
theorem mo_185 : m_ok (u_mt 185) := m_okb_ok (p0 := 2458) (p1 := 269) (p2 := 2457) (p3 := 103) rfl (by decide +kernel)
theorem ko_185 : u_okl (u_mt 185) kl_185 = true := by decide +kernel
theorem mo_186 : m_ok (u_mt 186) := m_okb_ok (p0 := 2454) (p1 := 269) (p2 := 2453) (p3 := 102) rfl (by decide +kernel)
theorem ko_186 : u_okl (u_mt 186) kl_186 = true := by decide +kernel
theorem mo_187 : m_ok (u_mt 187) := m_okb_ok (p0 := 2507) (p1 := 269) (p2 := 2506) (p3 := 108) rfl (by decide +kernel)
theorem ko_187 : u_okl (u_mt 187) kl_187 = true := by decide +kernel
theorem mo_188 : m_ok (u_mt 188) := m_okb_ok (p0 := 2522) (p1 := 269) (p2 := 2521) (p3 := 0) rfl (by decide +kernel)
theorem ko_188 : u_okl (u_mt 188) kl_188 = true := by decide +kernel
theorem mo_189 : m_ok (u_mt 189) := m_okb_ok (p0 := 2519) (p1 := 269) (p2 := 2518) (p3 := 111) rfl (by decide +kernel)
theorem ko_189 : u_okl (u_mt 189) kl_189 = true := by decide +kernel
theorem mo_190 : m_ok (u_mt 190) := m_okb_ok (p0 := 2449) (p1 := 269) (p2 := 2448) (p3 := 101) rfl (by decide +kernel)
theorem ko_190 : u_okl (u_mt 190) kl_190 = true := by decide +kernel
theorem mo_191 : m_ok (u_mt 191) := m_okb_ok (p0 := 2445) (p1 := 269) (p2 := 2444) (p3 := 100) rfl (by decide +kernel)
theorem ko_191 : u_okl (u_mt 191) kl_191 = true := by decide +kernel
theorem mo_192 : m_ok (u_mt 192) := m_okb_ok (p0 := 2441) (p1 := 269) (p2 := 2440) (p3 := 99) rfl (by decide +kernel)
theorem ko_192 : u_okl (u_mt 192) kl_192 = true := by decide +kernel
theorem mo_193 : m_ok (u_mt 193) := m_okb_ok (p0 := 2511) (p1 := 269) (p2 := 2510) (p3 := 109) rfl (by decide +kernel)
theorem ko_193 : u_okl (u_mt 193) kl_193 = true := by decide +kernel
theorem mo_194 : m_ok (u_mt 194) := m_okb_ok (p0 := 2502) (p1 := 269) (p2 := 2501) (p3 := 107) rfl (by decide +kernel)
theorem ko_194 : u_okl (u_mt 194) kl_194 = true := by decide +kernel
theorem mo_195 : m_ok (u_mt 195) := m_okb_ok (p0 := 2526) (p1 := 269) (p2 := 2525) (p3 := 128) rfl (by decide +kernel)
theorem ko_195 : u_okl (u_mt 195) kl_195 = true := by decide +kernel
theorem mo_196 : m_ok (u_mt 196) := m_okb_ok (p0 := 2515) (p1 := 269) (p2 := 2514) (p3 := 110) rfl (by decide +kernel)
theorem ko_196 : u_okl (u_mt 196) kl_196 = true := by decide +kernel
theorem mo_197 : m_ok (u_mt 197) := m_okb_ok (p0 := 2498) (p1 := 269) (p2 := 2497) (p3 := 106) rfl (by decide +kernel)
theorem ko_197 : u_okl (u_mt 197) kl_197 = true := by decide +kernel
theorem mo_198 : m_ok (u_mt 198) := m_okb_ok (p0 := 2437) (p1 := 269) (p2 := 2436) (p3 := 98) rfl (by decide +kernel)
theorem ko_198 : u_okl (u_mt 198) kl_198 = true := by decide +kernel
theorem mo_199 : m_ok (u_mt 199) := m_okb_ok (p0 := 2382) (p1 := 269) (p2 := 2381) (p3 := 89) rfl (by decide +kernel)
theorem ko_199 : u_okl (u_mt 199) kl_199 = true := by decide +kernel
theorem mo_200 : m_ok (u_mt 200) := m_okb_ok (p0 := 2374) (p1 := 269) (p2 := 2373) (p3 := 87) rfl (by decide +kernel)
theorem ko_200 : u_okl (u_mt 200) kl_200 = true := by decide +kernel
theorem mo_201 : m_ok (u_mt 201) := m_okb_ok (p0 := 2401) (p1 := 269) (p2 := 2400) (p3 := 93) rfl (by decide +kernel)
theorem ko_201 : u_okl (u_mt 201) kl_201 = true := by decide +kernel
theorem mo_202 : m_ok (u_mt 202) := m_okb_ok (p0 := 2397) (p1 := 269) (p2 := 2396) (p3 := 92) rfl (by decide +kernel)
theorem ko_202 : u_okl (u_mt 202) kl_202 = true := by decide +kernel
theorem mo_203 : m_ok (u_mt 203) := m_okb_ok (p0 := 2405) (p1 := 269) (p2 := 2404) (p3 := 94) rfl (by decide +kernel)
theorem ko_203 : u_okl (u_mt 203) kl_203 = true := by decide +kernel
theorem mo_204 : m_ok (u_mt 204) := m_okb_ok (p0 := 2409) (p1 := 269) (p2 := 2408) (p3 := 95) rfl (by decide +kernel)
theorem ko_204 : u_okl (u_mt 204) kl_204 = true := by decide +kernel
