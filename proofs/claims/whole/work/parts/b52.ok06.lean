theorem mo_249 : m_ok (u_mt 249) := m_okb_ok (p0 := 2726) (p1 := 269) (p2 := 2725) (p3 := 152) rfl (by decide +kernel)
theorem ko_249 : u_okl (u_mt 249) kl_249 = true := by decide +kernel
theorem mo_250 : m_ok (u_mt 250) := m_okb_ok (p0 := 2722) (p1 := 269) (p2 := 2721) (p3 := 151) rfl (by decide +kernel)
theorem ko_250 : u_okl (u_mt 250) kl_250 = true := by decide +kernel
theorem mo_251 : m_ok (u_mt 251) := m_okb_ok (p0 := 2714) (p1 := 269) (p2 := 2712) (p3 := 2713) rfl (by decide +kernel)
theorem ko_251 : u_okl (u_mt 251) kl_251 = true := by decide +kernel
theorem mo_252 : m_ok (u_mt 252) := m_okb_ok (p0 := 2767) (p1 := 269) (p2 := 2766) (p3 := 156) rfl (by decide +kernel)
theorem ko_252 : u_okl (u_mt 252) kl_252 = true := by decide +kernel
theorem mo_253 : m_ok (u_mt 253) := m_okb_ok (p0 := 2762) (p1 := 269) (p2 := 2760) (p3 := 2761) rfl (by decide +kernel)
theorem ko_253 : u_okl (u_mt 253) kl_253 = true := by decide +kernel
theorem mo_254 : m_ok (u_mt 254) := m_okb_ok (p0 := 2771) (p1 := 269) (p2 := 2769) (p3 := 2770) rfl (by decide +kernel)
theorem ko_254 : u_okl (u_mt 254) kl_254 = true := by decide +kernel
theorem mo_255 : m_ok (u_mt 255) := m_okb_ok (p0 := 2792) (p1 := 269) (p2 := 2791) (p3 := 160) rfl (by decide +kernel)
theorem ko_255 : u_okl (u_mt 255) kl_255 = true := by decide +kernel
theorem mo_256 : m_ok (u_mt 256) := m_okb_ok (p0 := 2784) (p1 := 269) (p2 := 2783) (p3 := 158) rfl (by decide +kernel)
theorem ko_256 : u_okl (u_mt 256) kl_256 = true := by decide +kernel
theorem mo_257 : m_ok (u_mt 257) := m_okb_ok (p0 := 2897) (p1 := 269) (p2 := 2896) (p3 := 171) rfl (by decide +kernel)
theorem ko_257 : u_okl (u_mt 257) kl_257 = true := by decide +kernel
theorem mo_258 : m_ok (u_mt 258) := m_okb_ok (p0 := 2816) (p1 := 269) (p2 := 2799) (p3 := 162) rfl (by decide +kernel)
theorem ko_258 : u_okl (u_mt 258) kl_258 = true := by decide +kernel
theorem mo_259 : m_ok (u_mt 259) := m_okb_ok (p0 := 2824) (p1 := 269) (p2 := 2823) (p3 := 164) rfl (by decide +kernel)
theorem ko_259 : u_okl (u_mt 259) kl_259 = true := by decide +kernel
theorem mo_260 : m_ok (u_mt 260) := m_okb_ok (p0 := 2796) (p1 := 269) (p2 := 2795) (p3 := 161) rfl (by decide +kernel)
theorem ko_260 : u_okl (u_mt 260) kl_260 = true := by decide +kernel
theorem mo_261 : m_ok (u_mt 261) := m_okb_ok (p0 := 2820) (p1 := 269) (p2 := 2819) (p3 := 163) rfl (by decide +kernel)
theorem ko_261 : u_okl (u_mt 261) kl_261 = true := by decide +kernel
theorem mo_262 : m_ok (u_mt 262) := m_okb_ok (p0 := 2788) (p1 := 269) (p2 := 2787) (p3 := 159) rfl (by decide +kernel)
theorem ko_262 : u_okl (u_mt 262) kl_262 = true := by decide +kernel
theorem mo_263 : m_ok (u_mt 263) := m_okb_ok (p0 := 2780) (p1 := 269) (p2 := 2779) (p3 := 157) rfl (by decide +kernel)
theorem ko_263 : u_okl (u_mt 263) kl_263 = true := by decide +kernel
theorem mo_264 : m_ok (u_mt 264) := m_okb_ok (p0 := 2776) (p1 := 269) (p2 := 2774) (p3 := 2775) rfl (by decide +kernel)
theorem ko_264 : u_okl (u_mt 264) kl_264 = true := by decide +kernel
theorem mo_265 : m_ok (u_mt 265) := m_okb_ok (p0 := 2829) (p1 := 269) (p2 := 2827) (p3 := 2828) rfl (by decide +kernel)
theorem ko_265 : u_okl (u_mt 265) kl_265 = true := by decide +kernel
theorem mo_266 : m_ok (u_mt 266) := m_okb_ok (p0 := 2833) (p1 := 269) (p2 := 2831) (p3 := 2832) rfl (by decide +kernel)
theorem ko_266 : u_okl (u_mt 266) kl_266 = true := by decide +kernel
theorem mo_267 : m_ok (u_mt 267) := m_okb_ok (p0 := 2841) (p1 := 269) (p2 := 2840) (p3 := 165) rfl (by decide +kernel)
theorem ko_267 : u_okl (u_mt 267) kl_267 = true := by decide +kernel
theorem mo_268 : m_ok (u_mt 268) := m_okb_ok (p0 := 2837) (p1 := 269) (p2 := 2835) (p3 := 2836) rfl (by decide +kernel)
theorem ko_268 : u_okl (u_mt 268) kl_268 = true := by decide +kernel
theorem mo_269 : m_ok (u_mt 269) := m_okb_ok (p0 := 2849) (p1 := 269) (p2 := 2848) (p3 := 166) rfl (by decide +kernel)
theorem ko_269 : u_okl (u_mt 269) kl_269 = true := by decide +kernel
theorem mo_270 : m_ok (u_mt 270) := m_okb_ok (p0 := 2861) (p1 := 269) (p2 := 2860) (p3 := 169) rfl (by decide +kernel)
theorem ko_270 : u_okl (u_mt 270) kl_270 = true := by decide +kernel
theorem mo_271 : m_ok (u_mt 271) := m_okb_ok (p0 := 2857) (p1 := 269) (p2 := 2856) (p3 := 168) rfl (by decide +kernel)
theorem ko_271 : u_okl (u_mt 271) kl_271 = true := by decide +kernel
theorem mo_272 : m_ok (u_mt 272) := m_okb_ok (p0 := 2853) (p1 := 269) (p2 := 2852) (p3 := 167) rfl (by decide +kernel)
theorem ko_272 : u_okl (u_mt 272) kl_272 = true := by decide +kernel
theorem mo_273 : m_ok (u_mt 273) := m_okb_ok (p0 := 2845) (p1 := 269) (p2 := 2843) (p3 := 2844) rfl (by decide +kernel)
theorem ko_273 : u_okl (u_mt 273) kl_273 = true := by decide +kernel
theorem mo_274 : m_ok (u_mt 274) := m_okb_ok (p0 := 2881) (p1 := 269) (p2 := 2863) (p3 := 2880) rfl (by decide +kernel)
theorem ko_274 : u_okl (u_mt 274) kl_274 = true := by decide +kernel
theorem mo_275 : m_ok (u_mt 275) := m_okb_ok (p0 := 2893) (p1 := 269) (p2 := 2892) (p3 := 170) rfl (by decide +kernel)
theorem ko_275 : u_okl (u_mt 275) kl_275 = true := by decide +kernel
theorem mo_276 : m_ok (u_mt 276) := m_okb_ok (p0 := 2905) (p1 := 269) (p2 := 2904) (p3 := 173) rfl (by decide +kernel)
theorem ko_276 : u_okl (u_mt 276) kl_276 = true := by decide +kernel
theorem mo_277 : m_ok (u_mt 277) := m_okb_ok (p0 := 2901) (p1 := 269) (p2 := 2900) (p3 := 172) rfl (by decide +kernel)
theorem ko_277 : u_okl (u_mt 277) kl_277 = true := by decide +kernel
theorem mo_278 : m_ok (u_mt 278) := m_okb_ok (p0 := 2888) (p1 := 269) (p2 := 2886) (p3 := 2887) rfl (by decide +kernel)
theorem ko_278 : u_okl (u_mt 278) kl_278 = true := by decide +kernel
