theorem mo_168 : m_ok (u_mt 168) := m_okb_ok (p0 := 1966) (p1 := 257) (p2 := 1965) (p3 := 74) rfl (by decide +kernel)
theorem ko_168 : u_okl (u_mt 168) kl_168 = true := by decide +kernel
theorem mo_169 : m_ok (u_mt 169) := m_okb_ok (p0 := 2051) (p1 := 269) (p2 := 2050) (p3 := 0) rfl (by decide +kernel)
theorem ko_169 : u_okl (u_mt 169) kl_169 = true := by decide +kernel
theorem mo_170 : m_ok (u_mt 170) := m_okb_ok (p0 := 2370) (p1 := 269) (p2 := 2369) (p3 := 0) rfl (by decide +kernel)
theorem ko_170 : u_okl (u_mt 170) kl_170 = true := by decide +kernel
theorem mo_171 : m_ok (u_mt 171) := m_okb_ok (p0 := 2606) (p1 := 269) (p2 := 2605) (p3 := 0) rfl (by decide +kernel)
theorem ko_171 : u_okl (u_mt 171) kl_171 = true := by decide +kernel
theorem mo_172 : m_ok (u_mt 172) := m_okb_ok (p0 := 2845) (p1 := 269) (p2 := 2844) (p3 := 0) rfl (by decide +kernel)
theorem ko_172 : u_okl (u_mt 172) kl_172 = true := by decide +kernel
theorem mo_173 : m_ok (u_mt 173) := m_okb_ok (p0 := 2267) (p1 := 269) (p2 := 2266) (p3 := 76) rfl (by decide +kernel)
theorem ko_173 : u_okl (u_mt 173) kl_173 = true := by decide +kernel
theorem mo_174 : m_ok (u_mt 174) := m_okb_ok (p0 := 2263) (p1 := 269) (p2 := 2261) (p3 := 2262) rfl (by decide +kernel)
theorem ko_174 : u_okl (u_mt 174) kl_174 = true := by decide +kernel
theorem mo_175 : m_ok (u_mt 175) := m_okb_ok (p0 := 2271) (p1 := 269) (p2 := 2269) (p3 := 2270) rfl (by decide +kernel)
theorem ko_175 : u_okl (u_mt 175) kl_175 = true := by decide +kernel
theorem mo_176 : m_ok (u_mt 176) := m_okb_ok (p0 := 2327) (p1 := 269) (p2 := 2326) (p3 := 83) rfl (by decide +kernel)
theorem ko_176 : u_okl (u_mt 176) kl_176 = true := by decide +kernel
theorem mo_177 : m_ok (u_mt 177) := m_okb_ok (p0 := 2287) (p1 := 269) (p2 := 2286) (p3 := 79) rfl (by decide +kernel)
theorem ko_177 : u_okl (u_mt 177) kl_177 = true := by decide +kernel
theorem mo_178 : m_ok (u_mt 178) := m_okb_ok (p0 := 2351) (p1 := 269) (p2 := 2350) (p3 := 89) rfl (by decide +kernel)
theorem ko_178 : u_okl (u_mt 178) kl_178 = true := by decide +kernel
theorem mo_179 : m_ok (u_mt 179) := m_okb_ok (p0 := 2316) (p1 := 269) (p2 := 2315) (p3 := 82) rfl (by decide +kernel)
theorem ko_179 : u_okl (u_mt 179) kl_179 = true := by decide +kernel
theorem mo_180 : m_ok (u_mt 180) := m_okb_ok (p0 := 2312) (p1 := 269) (p2 := 2311) (p3 := 81) rfl (by decide +kernel)
theorem ko_180 : u_okl (u_mt 180) kl_180 = true := by decide +kernel
theorem mo_181 : m_ok (u_mt 181) := m_okb_ok (p0 := 2339) (p1 := 269) (p2 := 2338) (p3 := 86) rfl (by decide +kernel)
theorem ko_181 : u_okl (u_mt 181) kl_181 = true := by decide +kernel
theorem mo_182 : m_ok (u_mt 182) := m_okb_ok (p0 := 2455) (p1 := 269) (p2 := 2454) (p3 := 103) rfl (by decide +kernel)
theorem ko_182 : u_okl (u_mt 182) kl_182 = true := by decide +kernel
theorem mo_183 : m_ok (u_mt 183) := m_okb_ok (p0 := 2347) (p1 := 269) (p2 := 2346) (p3 := 88) rfl (by decide +kernel)
theorem ko_183 : u_okl (u_mt 183) kl_183 = true := by decide +kernel
theorem mo_184 : m_ok (u_mt 184) := m_okb_ok (p0 := 2439) (p1 := 269) (p2 := 2438) (p3 := 102) rfl (by decide +kernel)
theorem ko_184 : u_okl (u_mt 184) kl_184 = true := by decide +kernel
theorem mo_185 : m_ok (u_mt 185) := m_okb_ok (p0 := 2435) (p1 := 269) (p2 := 2434) (p3 := 101) rfl (by decide +kernel)
theorem ko_185 : u_okl (u_mt 185) kl_185 = true := by decide +kernel
theorem mo_186 : m_ok (u_mt 186) := m_okb_ok (p0 := 2415) (p1 := 269) (p2 := 2414) (p3 := 100) rfl (by decide +kernel)
theorem ko_186 : u_okl (u_mt 186) kl_186 = true := by decide +kernel
theorem mo_187 : m_ok (u_mt 187) := m_okb_ok (p0 := 2468) (p1 := 269) (p2 := 2467) (p3 := 106) rfl (by decide +kernel)
theorem ko_187 : u_okl (u_mt 187) kl_187 = true := by decide +kernel
theorem mo_188 : m_ok (u_mt 188) := m_okb_ok (p0 := 2499) (p1 := 269) (p2 := 2498) (p3 := 0) rfl (by decide +kernel)
theorem ko_188 : u_okl (u_mt 188) kl_188 = true := by decide +kernel
theorem mo_189 : m_ok (u_mt 189) := m_okb_ok (p0 := 2496) (p1 := 269) (p2 := 2479) (p3 := 109) rfl (by decide +kernel)
theorem ko_189 : u_okl (u_mt 189) kl_189 = true := by decide +kernel
theorem mo_190 : m_ok (u_mt 190) := m_okb_ok (p0 := 2410) (p1 := 269) (p2 := 2409) (p3 := 99) rfl (by decide +kernel)
theorem ko_190 : u_okl (u_mt 190) kl_190 = true := by decide +kernel
theorem mo_191 : m_ok (u_mt 191) := m_okb_ok (p0 := 2406) (p1 := 269) (p2 := 2405) (p3 := 98) rfl (by decide +kernel)
theorem ko_191 : u_okl (u_mt 191) kl_191 = true := by decide +kernel
theorem mo_192 : m_ok (u_mt 192) := m_okb_ok (p0 := 2402) (p1 := 269) (p2 := 2401) (p3 := 97) rfl (by decide +kernel)
theorem ko_192 : u_okl (u_mt 192) kl_192 = true := by decide +kernel
theorem mo_193 : m_ok (u_mt 193) := m_okb_ok (p0 := 2472) (p1 := 269) (p2 := 2471) (p3 := 107) rfl (by decide +kernel)
theorem ko_193 : u_okl (u_mt 193) kl_193 = true := by decide +kernel
theorem mo_194 : m_ok (u_mt 194) := m_okb_ok (p0 := 2463) (p1 := 269) (p2 := 2462) (p3 := 105) rfl (by decide +kernel)
theorem ko_194 : u_okl (u_mt 194) kl_194 = true := by decide +kernel
theorem mo_195 : m_ok (u_mt 195) := m_okb_ok (p0 := 2503) (p1 := 269) (p2 := 2502) (p3 := 110) rfl (by decide +kernel)
theorem ko_195 : u_okl (u_mt 195) kl_195 = true := by decide +kernel
theorem mo_196 : m_ok (u_mt 196) := m_okb_ok (p0 := 2476) (p1 := 269) (p2 := 2475) (p3 := 108) rfl (by decide +kernel)
theorem ko_196 : u_okl (u_mt 196) kl_196 = true := by decide +kernel
theorem mo_197 : m_ok (u_mt 197) := m_okb_ok (p0 := 2459) (p1 := 269) (p2 := 2458) (p3 := 104) rfl (by decide +kernel)
theorem ko_197 : u_okl (u_mt 197) kl_197 = true := by decide +kernel
theorem mo_198 : m_ok (u_mt 198) := m_okb_ok (p0 := 2398) (p1 := 269) (p2 := 2397) (p3 := 96) rfl (by decide +kernel)
theorem ko_198 : u_okl (u_mt 198) kl_198 = true := by decide +kernel
theorem mo_199 : m_ok (u_mt 199) := m_okb_ok (p0 := 2343) (p1 := 269) (p2 := 2342) (p3 := 87) rfl (by decide +kernel)
theorem ko_199 : u_okl (u_mt 199) kl_199 = true := by decide +kernel
theorem mo_200 : m_ok (u_mt 200) := m_okb_ok (p0 := 2335) (p1 := 269) (p2 := 2334) (p3 := 85) rfl (by decide +kernel)
theorem ko_200 : u_okl (u_mt 200) kl_200 = true := by decide +kernel
theorem mo_201 : m_ok (u_mt 201) := m_okb_ok (p0 := 2378) (p1 := 269) (p2 := 2377) (p3 := 91) rfl (by decide +kernel)
theorem ko_201 : u_okl (u_mt 201) kl_201 = true := by decide +kernel
theorem mo_202 : m_ok (u_mt 202) := m_okb_ok (p0 := 2374) (p1 := 269) (p2 := 2373) (p3 := 90) rfl (by decide +kernel)
theorem ko_202 : u_okl (u_mt 202) kl_202 = true := by decide +kernel
theorem mo_203 : m_ok (u_mt 203) := m_okb_ok (p0 := 2382) (p1 := 269) (p2 := 2381) (p3 := 92) rfl (by decide +kernel)
theorem ko_203 : u_okl (u_mt 203) kl_203 = true := by decide +kernel
theorem mo_204 : m_ok (u_mt 204) := m_okb_ok (p0 := 2386) (p1 := 269) (p2 := 2385) (p3 := 93) rfl (by decide +kernel)
theorem ko_204 : u_okl (u_mt 204) kl_204 = true := by decide +kernel
