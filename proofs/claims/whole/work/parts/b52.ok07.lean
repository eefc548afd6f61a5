theorem mo_279 : m_ok (u_mt 279) := m_okb_ok (p0 := 2921) (p1 := 269) (p2 := 2920) (p3 := 192) rfl (by decide +kernel)
theorem ko_279 : u_okl (u_mt 279) kl_279 = true := by decide +kernel
theorem mo_280 : m_ok (u_mt 280) := m_okb_ok (p0 := 2917) (p1 := 269) (p2 := 2916) (p3 := 175) rfl (by decide +kernel)
theorem ko_280 : u_okl (u_mt 280) kl_280 = true := by decide +kernel
theorem mo_281 : m_ok (u_mt 281) := m_okb_ok (p0 := 2925) (p1 := 269) (p2 := 2924) (p3 := 193) rfl (by decide +kernel)
theorem ko_281 : u_okl (u_mt 281) kl_281 = true := by decide +kernel
theorem mo_282 : m_ok (u_mt 282) := m_okb_ok (p0 := 2913) (p1 := 269) (p2 := 2912) (p3 := 174) rfl (by decide +kernel)
theorem ko_282 : u_okl (u_mt 282) kl_282 = true := by decide +kernel
theorem mo_283 : m_ok (u_mt 283) := m_okb_ok (p0 := 2909) (p1 := 269) (p2 := 2907) (p3 := 2908) rfl (by decide +kernel)
theorem ko_283 : u_okl (u_mt 283) kl_283 = true := by decide +kernel
theorem mo_284 : m_ok (u_mt 284) := m_okb_ok (p0 := 2949) (p1 := 269) (p2 := 2948) (p3 := 194) rfl (by decide +kernel)
theorem ko_284 : u_okl (u_mt 284) kl_284 = true := by decide +kernel
theorem mo_285 : m_ok (u_mt 285) := m_okb_ok (p0 := 2945) (p1 := 269) (p2 := 2927) (p3 := 2944) rfl (by decide +kernel)
theorem ko_285 : u_okl (u_mt 285) kl_285 = true := by decide +kernel
theorem mo_286 : m_ok (u_mt 286) := m_okb_ok (p0 := 2970) (p1 := 269) (p2 := 2969) (p3 := 198) rfl (by decide +kernel)
theorem ko_286 : u_okl (u_mt 286) kl_286 = true := by decide +kernel
theorem mo_287 : m_ok (u_mt 287) := m_okb_ok (p0 := 2962) (p1 := 269) (p2 := 2961) (p3 := 196) rfl (by decide +kernel)
theorem ko_287 : u_okl (u_mt 287) kl_287 = true := by decide +kernel
theorem mo_288 : m_ok (u_mt 288) := m_okb_ok (p0 := 2966) (p1 := 269) (p2 := 2965) (p3 := 197) rfl (by decide +kernel)
theorem ko_288 : u_okl (u_mt 288) kl_288 = true := by decide +kernel
theorem mo_289 : m_ok (u_mt 289) := m_okb_ok (p0 := 2958) (p1 := 269) (p2 := 2957) (p3 := 195) rfl (by decide +kernel)
theorem ko_289 : u_okl (u_mt 289) kl_289 = true := by decide +kernel
theorem mo_290 : m_ok (u_mt 290) := m_okb_ok (p0 := 2953) (p1 := 269) (p2 := 2951) (p3 := 2952) rfl (by decide +kernel)
theorem ko_290 : u_okl (u_mt 290) kl_290 = true := by decide +kernel
theorem mo_291 : m_ok (u_mt 291) := m_okb_ok (p0 := 2974) (p1 := 269) (p2 := 2972) (p3 := 2973) rfl (by decide +kernel)
theorem ko_291 : u_okl (u_mt 291) kl_291 = true := by decide +kernel
theorem mo_292 : m_ok (u_mt 292) := m_okb_ok (p0 := 2978) (p1 := 269) (p2 := 2976) (p3 := 2977) rfl (by decide +kernel)
theorem ko_292 : u_okl (u_mt 292) kl_292 = true := by decide +kernel
theorem mo_293 : m_ok (u_mt 293) := m_okb_ok (p0 := 3008) (p1 := 269) (p2 := 2991) (p3 := 200) rfl (by decide +kernel)
theorem ko_293 : u_okl (u_mt 293) kl_293 = true := by decide +kernel
theorem mo_294 : m_ok (u_mt 294) := m_okb_ok (p0 := 2988) (p1 := 269) (p2 := 2987) (p3 := 199) rfl (by decide +kernel)
theorem ko_294 : u_okl (u_mt 294) kl_294 = true := by decide +kernel
theorem mo_295 : m_ok (u_mt 295) := m_okb_ok (p0 := 2982) (p1 := 269) (p2 := 2980) (p3 := 2981) rfl (by decide +kernel)
theorem ko_295 : u_okl (u_mt 295) kl_295 = true := by decide +kernel
theorem mo_296 : m_ok (u_mt 296) := m_okb_ok (p0 := 3016) (p1 := 269) (p2 := 3014) (p3 := 3015) rfl (by decide +kernel)
theorem ko_296 : u_okl (u_mt 296) kl_296 = true := by decide +kernel
theorem mo_297 : m_ok (u_mt 297) := m_okb_ok (p0 := 3020) (p1 := 269) (p2 := 3018) (p3 := 3019) rfl (by decide +kernel)
theorem ko_297 : u_okl (u_mt 297) kl_297 = true := by decide +kernel
theorem mo_298 : m_ok (u_mt 298) := m_okb_ok (p0 := 3025) (p1 := 269) (p2 := 3023) (p3 := 3024) rfl (by decide +kernel)
theorem ko_298 : u_okl (u_mt 298) kl_298 = true := by decide +kernel
theorem mo_299 : m_ok (u_mt 299) := m_okb_ok (p0 := 2026) (p1 := 277) (p2 := 2025) (p3 := 0) rfl (by decide +kernel)
theorem ko_299 : u_okl (u_mt 299) kl_299 = true := by decide +kernel
