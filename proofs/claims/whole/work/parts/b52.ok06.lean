theorem mo_249 : m_ok (u_mt 249) := m_okb_ok (p0 := 2703) (p1 := 269) (p2 := 2702) (p3 := 150) rfl (by decide +kernel)
theorem ko_249 : u_okl (u_mt 249) kl_249 = true := by decide +kernel
theorem mo_250 : m_ok (u_mt 250) := m_okb_ok (p0 := 2699) (p1 := 269) (p2 := 2698) (p3 := 149) rfl (by decide +kernel)
theorem ko_250 : u_okl (u_mt 250) kl_250 = true := by decide +kernel
theorem mo_251 : m_ok (u_mt 251) := m_okb_ok (p0 := 2691) (p1 := 269) (p2 := 2689) (p3 := 2690) rfl (by decide +kernel)
theorem ko_251 : u_okl (u_mt 251) kl_251 = true := by decide +kernel
theorem mo_252 : m_ok (u_mt 252) := m_okb_ok (p0 := 2728) (p1 := 269) (p2 := 2727) (p3 := 154) rfl (by decide +kernel)
theorem ko_252 : u_okl (u_mt 252) kl_252 = true := by decide +kernel
theorem mo_253 : m_ok (u_mt 253) := m_okb_ok (p0 := 2723) (p1 := 269) (p2 := 2721) (p3 := 2722) rfl (by decide +kernel)
theorem ko_253 : u_okl (u_mt 253) kl_253 = true := by decide +kernel
theorem mo_254 : m_ok (u_mt 254) := m_okb_ok (p0 := 2732) (p1 := 269) (p2 := 2730) (p3 := 2731) rfl (by decide +kernel)
theorem ko_254 : u_okl (u_mt 254) kl_254 = true := by decide +kernel
theorem mo_255 : m_ok (u_mt 255) := m_okb_ok (p0 := 2769) (p1 := 269) (p2 := 2768) (p3 := 158) rfl (by decide +kernel)
theorem ko_255 : u_okl (u_mt 255) kl_255 = true := by decide +kernel
theorem mo_256 : m_ok (u_mt 256) := m_okb_ok (p0 := 2761) (p1 := 269) (p2 := 2760) (p3 := 156) rfl (by decide +kernel)
theorem ko_256 : u_okl (u_mt 256) kl_256 = true := by decide +kernel
theorem mo_257 : m_ok (u_mt 257) := m_okb_ok (p0 := 2858) (p1 := 269) (p2 := 2857) (p3 := 169) rfl (by decide +kernel)
theorem ko_257 : u_okl (u_mt 257) kl_257 = true := by decide +kernel
theorem mo_258 : m_ok (u_mt 258) := m_okb_ok (p0 := 2777) (p1 := 269) (p2 := 2776) (p3 := 160) rfl (by decide +kernel)
theorem ko_258 : u_okl (u_mt 258) kl_258 = true := by decide +kernel
theorem mo_259 : m_ok (u_mt 259) := m_okb_ok (p0 := 2785) (p1 := 269) (p2 := 2784) (p3 := 162) rfl (by decide +kernel)
theorem ko_259 : u_okl (u_mt 259) kl_259 = true := by decide +kernel
theorem mo_260 : m_ok (u_mt 260) := m_okb_ok (p0 := 2773) (p1 := 269) (p2 := 2772) (p3 := 159) rfl (by decide +kernel)
theorem ko_260 : u_okl (u_mt 260) kl_260 = true := by decide +kernel
theorem mo_261 : m_ok (u_mt 261) := m_okb_ok (p0 := 2781) (p1 := 269) (p2 := 2780) (p3 := 161) rfl (by decide +kernel)
theorem ko_261 : u_okl (u_mt 261) kl_261 = true := by decide +kernel
theorem mo_262 : m_ok (u_mt 262) := m_okb_ok (p0 := 2765) (p1 := 269) (p2 := 2764) (p3 := 157) rfl (by decide +kernel)
theorem ko_262 : u_okl (u_mt 262) kl_262 = true := by decide +kernel
theorem mo_263 : m_ok (u_mt 263) := m_okb_ok (p0 := 2757) (p1 := 269) (p2 := 2756) (p3 := 155) rfl (by decide +kernel)
theorem ko_263 : u_okl (u_mt 263) kl_263 = true := by decide +kernel
theorem mo_264 : m_ok (u_mt 264) := m_okb_ok (p0 := 2753) (p1 := 269) (p2 := 2735) (p3 := 2752) rfl (by decide +kernel)
theorem ko_264 : u_okl (u_mt 264) kl_264 = true := by decide +kernel
theorem mo_265 : m_ok (u_mt 265) := m_okb_ok (p0 := 2790) (p1 := 269) (p2 := 2788) (p3 := 2789) rfl (by decide +kernel)
theorem ko_265 : u_okl (u_mt 265) kl_265 = true := by decide +kernel
theorem mo_266 : m_ok (u_mt 266) := m_okb_ok (p0 := 2794) (p1 := 269) (p2 := 2792) (p3 := 2793) rfl (by decide +kernel)
theorem ko_266 : u_okl (u_mt 266) kl_266 = true := by decide +kernel
theorem mo_267 : m_ok (u_mt 267) := m_okb_ok (p0 := 2818) (p1 := 269) (p2 := 2817) (p3 := 163) rfl (by decide +kernel)
theorem ko_267 : u_okl (u_mt 267) kl_267 = true := by decide +kernel
theorem mo_268 : m_ok (u_mt 268) := m_okb_ok (p0 := 2798) (p1 := 269) (p2 := 2796) (p3 := 2797) rfl (by decide +kernel)
theorem ko_268 : u_okl (u_mt 268) kl_268 = true := by decide +kernel
theorem mo_269 : m_ok (u_mt 269) := m_okb_ok (p0 := 2826) (p1 := 269) (p2 := 2825) (p3 := 164) rfl (by decide +kernel)
theorem ko_269 : u_okl (u_mt 269) kl_269 = true := by decide +kernel
theorem mo_270 : m_ok (u_mt 270) := m_okb_ok (p0 := 2838) (p1 := 269) (p2 := 2837) (p3 := 167) rfl (by decide +kernel)
theorem ko_270 : u_okl (u_mt 270) kl_270 = true := by decide +kernel
theorem mo_271 : m_ok (u_mt 271) := m_okb_ok (p0 := 2834) (p1 := 269) (p2 := 2833) (p3 := 166) rfl (by decide +kernel)
theorem ko_271 : u_okl (u_mt 271) kl_271 = true := by decide +kernel
theorem mo_272 : m_ok (u_mt 272) := m_okb_ok (p0 := 2830) (p1 := 269) (p2 := 2829) (p3 := 165) rfl (by decide +kernel)
theorem ko_272 : u_okl (u_mt 272) kl_272 = true := by decide +kernel
theorem mo_273 : m_ok (u_mt 273) := m_okb_ok (p0 := 2822) (p1 := 269) (p2 := 2820) (p3 := 2821) rfl (by decide +kernel)
theorem ko_273 : u_okl (u_mt 273) kl_273 = true := by decide +kernel
theorem mo_274 : m_ok (u_mt 274) := m_okb_ok (p0 := 2842) (p1 := 269) (p2 := 2840) (p3 := 2841) rfl (by decide +kernel)
theorem ko_274 : u_okl (u_mt 274) kl_274 = true := by decide +kernel
theorem mo_275 : m_ok (u_mt 275) := m_okb_ok (p0 := 2854) (p1 := 269) (p2 := 2853) (p3 := 168) rfl (by decide +kernel)
theorem ko_275 : u_okl (u_mt 275) kl_275 = true := by decide +kernel
theorem mo_276 : m_ok (u_mt 276) := m_okb_ok (p0 := 2882) (p1 := 269) (p2 := 2881) (p3 := 171) rfl (by decide +kernel)
theorem ko_276 : u_okl (u_mt 276) kl_276 = true := by decide +kernel
theorem mo_277 : m_ok (u_mt 277) := m_okb_ok (p0 := 2862) (p1 := 269) (p2 := 2861) (p3 := 170) rfl (by decide +kernel)
theorem ko_277 : u_okl (u_mt 277) kl_277 = true := by decide +kernel
theorem mo_278 : m_ok (u_mt 278) := m_okb_ok (p0 := 2849) (p1 := 269) (p2 := 2847) (p3 := 2848) rfl (by decide +kernel)
theorem ko_278 : u_okl (u_mt 278) kl_278 = true := by decide +kernel
