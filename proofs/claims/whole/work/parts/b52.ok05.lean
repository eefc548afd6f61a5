theorem mo_205 : m_ok (u_mt 205) := m_okb_ok (p0 := 2413) (p1 := 269) (p2 := 2412) (p3 := 96) rfl (by decide +kernel)
theorem ko_205 : u_okl (u_mt 205) kl_205 = true := by decide +kernel
theorem mo_206 : m_ok (u_mt 206) := m_okb_ok (p0 := 2433) (p1 := 269) (p2 := 2432) (p3 := 97) rfl (by decide +kernel)
theorem ko_206 : u_okl (u_mt 206) kl_206 = true := by decide +kernel
theorem mo_207 : m_ok (u_mt 207) := m_okb_ok (p0 := 2370) (p1 := 269) (p2 := 2369) (p3 := 86) rfl (by decide +kernel)
theorem ko_207 : u_okl (u_mt 207) kl_207 = true := by decide +kernel
theorem mo_208 : m_ok (u_mt 208) := m_okb_ok (p0 := 2330) (p1 := 269) (p2 := 2329) (p3 := 82) rfl (by decide +kernel)
theorem ko_208 : u_okl (u_mt 208) kl_208 = true := by decide +kernel
theorem mo_209 : m_ok (u_mt 209) := m_okb_ok (p0 := 2322) (p1 := 269) (p2 := 2321) (p3 := 80) rfl (by decide +kernel)
theorem ko_209 : u_okl (u_mt 209) kl_209 = true := by decide +kernel
theorem mo_210 : m_ok (u_mt 210) := m_okb_ok (p0 := 2318) (p1 := 269) (p2 := 2317) (p3 := 79) rfl (by decide +kernel)
theorem ko_210 : u_okl (u_mt 210) kl_210 = true := by decide +kernel
theorem mo_211 : m_ok (u_mt 211) := m_okb_ok (p0 := 2314) (p1 := 269) (p2 := 2312) (p3 := 2313) rfl (by decide +kernel)
theorem ko_211 : u_okl (u_mt 211) kl_211 = true := by decide +kernel
theorem mo_212 : m_ok (u_mt 212) := m_okb_ok (p0 := 2532) (p1 := 269) (p2 := 2530) (p3 := 2531) rfl (by decide +kernel)
theorem ko_212 : u_okl (u_mt 212) kl_212 = true := by decide +kernel
theorem mo_213 : m_ok (u_mt 213) := m_okb_ok (p0 := 2718) (p1 := 269) (p2 := 2717) (p3 := 150) rfl (by decide +kernel)
theorem ko_213 : u_okl (u_mt 213) kl_213 = true := by decide +kernel
theorem mo_214 : m_ok (u_mt 214) := m_okb_ok (p0 := 2735) (p1 := 269) (p2 := 2734) (p3 := 154) rfl (by decide +kernel)
theorem ko_214 : u_okl (u_mt 214) kl_214 = true := by decide +kernel
theorem mo_215 : m_ok (u_mt 215) := m_okb_ok (p0 := 2755) (p1 := 269) (p2 := 2754) (p3 := 155) rfl (by decide +kernel)
theorem ko_215 : u_okl (u_mt 215) kl_215 = true := by decide +kernel
theorem mo_216 : m_ok (u_mt 216) := m_okb_ok (p0 := 2758) (p1 := 269) (p2 := 2757) (p3 := 0) rfl (by decide +kernel)
theorem ko_216 : u_okl (u_mt 216) kl_216 = true := by decide +kernel
theorem mo_217 : m_ok (u_mt 217) := m_okb_ok (p0 := 2731) (p1 := 269) (p2 := 2730) (p3 := 153) rfl (by decide +kernel)
theorem ko_217 : u_okl (u_mt 217) kl_217 = true := by decide +kernel
theorem mo_218 : m_ok (u_mt 218) := m_okb_ok (p0 := 2702) (p1 := 269) (p2 := 2701) (p3 := 149) rfl (by decide +kernel)
theorem ko_218 : u_okl (u_mt 218) kl_218 = true := by decide +kernel
theorem mo_219 : m_ok (u_mt 219) := m_okb_ok (p0 := 2585) (p1 := 269) (p2 := 2584) (p3 := 135) rfl (by decide +kernel)
theorem ko_219 : u_okl (u_mt 219) kl_219 = true := by decide +kernel
theorem mo_220 : m_ok (u_mt 220) := m_okb_ok (p0 := 2629) (p1 := 269) (p2 := 2628) (p3 := 141) rfl (by decide +kernel)
theorem ko_220 : u_okl (u_mt 220) kl_220 = true := by decide +kernel
theorem mo_221 : m_ok (u_mt 221) := m_okb_ok (p0 := 2576) (p1 := 269) (p2 := 2575) (p3 := 134) rfl (by decide +kernel)
theorem ko_221 : u_okl (u_mt 221) kl_221 = true := by decide +kernel
theorem mo_222 : m_ok (u_mt 222) := m_okb_ok (p0 := 2638) (p1 := 269) (p2 := 2637) (p3 := 142) rfl (by decide +kernel)
theorem ko_222 : u_okl (u_mt 222) kl_222 = true := by decide +kernel
theorem mo_223 : m_ok (u_mt 223) := m_okb_ok (p0 := 2568) (p1 := 269) (p2 := 2567) (p3 := 133) rfl (by decide +kernel)
theorem ko_223 : u_okl (u_mt 223) kl_223 = true := by decide +kernel
theorem mo_224 : m_ok (u_mt 224) := m_okb_ok (p0 := 2564) (p1 := 269) (p2 := 2563) (p3 := 132) rfl (by decide +kernel)
theorem ko_224 : u_okl (u_mt 224) kl_224 = true := by decide +kernel
theorem mo_225 : m_ok (u_mt 225) := m_okb_ok (p0 := 2560) (p1 := 269) (p2 := 2543) (p3 := 131) rfl (by decide +kernel)
theorem ko_225 : u_okl (u_mt 225) kl_225 = true := by decide +kernel
theorem mo_226 : m_ok (u_mt 226) := m_okb_ok (p0 := 2540) (p1 := 269) (p2 := 2539) (p3 := 130) rfl (by decide +kernel)
theorem ko_226 : u_okl (u_mt 226) kl_226 = true := by decide +kernel
theorem mo_227 : m_ok (u_mt 227) := m_okb_ok (p0 := 2536) (p1 := 269) (p2 := 2535) (p3 := 129) rfl (by decide +kernel)
theorem ko_227 : u_okl (u_mt 227) kl_227 = true := by decide +kernel
theorem mo_228 : m_ok (u_mt 228) := m_okb_ok (p0 := 2593) (p1 := 269) (p2 := 2592) (p3 := 137) rfl (by decide +kernel)
theorem ko_228 : u_okl (u_mt 228) kl_228 = true := by decide +kernel
theorem mo_229 : m_ok (u_mt 229) := m_okb_ok (p0 := 2597) (p1 := 269) (p2 := 2596) (p3 := 138) rfl (by decide +kernel)
theorem ko_229 : u_okl (u_mt 229) kl_229 = true := by decide +kernel
theorem mo_230 : m_ok (u_mt 230) := m_okb_ok (p0 := 2589) (p1 := 269) (p2 := 2588) (p3 := 136) rfl (by decide +kernel)
theorem ko_230 : u_okl (u_mt 230) kl_230 = true := by decide +kernel
theorem mo_231 : m_ok (u_mt 231) := m_okb_ok (p0 := 2642) (p1 := 269) (p2 := 2641) (p3 := 143) rfl (by decide +kernel)
theorem ko_231 : u_okl (u_mt 231) kl_231 = true := by decide +kernel
theorem mo_232 : m_ok (u_mt 232) := m_okb_ok (p0 := 2605) (p1 := 269) (p2 := 2604) (p3 := 140) rfl (by decide +kernel)
theorem ko_232 : u_okl (u_mt 232) kl_232 = true := by decide +kernel
theorem mo_233 : m_ok (u_mt 233) := m_okb_ok (p0 := 2572) (p1 := 269) (p2 := 2570) (p3 := 2571) rfl (by decide +kernel)
theorem ko_233 : u_okl (u_mt 233) kl_233 = true := by decide +kernel
theorem mo_234 : m_ok (u_mt 234) := m_okb_ok (p0 := 2601) (p1 := 269) (p2 := 2600) (p3 := 139) rfl (by decide +kernel)
theorem ko_234 : u_okl (u_mt 234) kl_234 = true := by decide +kernel
theorem mo_235 : m_ok (u_mt 235) := m_okb_ok (p0 := 2581) (p1 := 269) (p2 := 2579) (p3 := 2580) rfl (by decide +kernel)
theorem ko_235 : u_okl (u_mt 235) kl_235 = true := by decide +kernel
theorem mo_236 : m_ok (u_mt 236) := m_okb_ok (p0 := 2625) (p1 := 269) (p2 := 2607) (p3 := 2624) rfl (by decide +kernel)
theorem ko_236 : u_okl (u_mt 236) kl_236 = true := by decide +kernel
theorem mo_237 : m_ok (u_mt 237) := m_okb_ok (p0 := 2634) (p1 := 269) (p2 := 2632) (p3 := 2633) rfl (by decide +kernel)
theorem ko_237 : u_okl (u_mt 237) kl_237 = true := by decide +kernel
theorem mo_238 : m_ok (u_mt 238) := m_okb_ok (p0 := 2649) (p1 := 269) (p2 := 2647) (p3 := 2648) rfl (by decide +kernel)
theorem ko_238 : u_okl (u_mt 238) kl_238 = true := by decide +kernel
theorem mo_239 : m_ok (u_mt 239) := m_okb_ok (p0 := 2666) (p1 := 269) (p2 := 2665) (p3 := 145) rfl (by decide +kernel)
theorem ko_239 : u_okl (u_mt 239) kl_239 = true := by decide +kernel
theorem mo_240 : m_ok (u_mt 240) := m_okb_ok (p0 := 2654) (p1 := 269) (p2 := 2652) (p3 := 2653) rfl (by decide +kernel)
theorem ko_240 : u_okl (u_mt 240) kl_240 = true := by decide +kernel
theorem mo_241 : m_ok (u_mt 241) := m_okb_ok (p0 := 2662) (p1 := 269) (p2 := 2661) (p3 := 144) rfl (by decide +kernel)
theorem ko_241 : u_okl (u_mt 241) kl_241 = true := by decide +kernel
theorem mo_242 : m_ok (u_mt 242) := m_okb_ok (p0 := 2690) (p1 := 269) (p2 := 2689) (p3 := 147) rfl (by decide +kernel)
theorem ko_242 : u_okl (u_mt 242) kl_242 = true := by decide +kernel
theorem mo_243 : m_ok (u_mt 243) := m_okb_ok (p0 := 2694) (p1 := 269) (p2 := 2693) (p3 := 148) rfl (by decide +kernel)
theorem ko_243 : u_okl (u_mt 243) kl_243 = true := by decide +kernel
theorem mo_244 : m_ok (u_mt 244) := m_okb_ok (p0 := 2670) (p1 := 269) (p2 := 2669) (p3 := 146) rfl (by decide +kernel)
theorem ko_244 : u_okl (u_mt 244) kl_244 = true := by decide +kernel
theorem mo_245 : m_ok (u_mt 245) := m_okb_ok (p0 := 2658) (p1 := 269) (p2 := 2656) (p3 := 2657) rfl (by decide +kernel)
theorem ko_245 : u_okl (u_mt 245) kl_245 = true := by decide +kernel
theorem mo_246 : m_ok (u_mt 246) := m_okb_ok (p0 := 2698) (p1 := 269) (p2 := 2696) (p3 := 2697) rfl (by decide +kernel)
theorem ko_246 : u_okl (u_mt 246) kl_246 = true := by decide +kernel
theorem mo_247 : m_ok (u_mt 247) := m_okb_ok (p0 := 2706) (p1 := 269) (p2 := 2704) (p3 := 2705) rfl (by decide +kernel)
theorem ko_247 : u_okl (u_mt 247) kl_247 = true := by decide +kernel
theorem mo_248 : m_ok (u_mt 248) := m_okb_ok (p0 := 2710) (p1 := 269) (p2 := 2708) (p3 := 2709) rfl (by decide +kernel)
theorem ko_248 : u_okl (u_mt 248) kl_248 = true := by decide +kernel
