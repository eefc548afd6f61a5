theorem mo_279 : m_ok (u_mt 279) := m_okb_ok (p0 := 2898) (p1 := 269) (p2 := 2897) (p3 := 174) rfl (by decide +kernel)
theorem ko_279 : u_okl (u_mt 279) kl_279 = true := by decide +kernel
theorem mo_280 : m_ok (u_mt 280) := m_okb_ok (p0 := 2894) (p1 := 269) (p2 := 2893) (p3 := 173) rfl (by decide +kernel)
theorem ko_280 : u_okl (u_mt 280) kl_280 = true := by decide +kernel
theorem mo_281 : m_ok (u_mt 281) := m_okb_ok (p0 := 2902) (p1 := 269) (p2 := 2901) (p3 := 175) rfl (by decide +kernel)
theorem ko_281 : u_okl (u_mt 281) kl_281 = true := by decide +kernel
theorem mo_282 : m_ok (u_mt 282) := m_okb_ok (p0 := 2890) (p1 := 269) (p2 := 2889) (p3 := 172) rfl (by decide +kernel)
theorem ko_282 : u_okl (u_mt 282) kl_282 = true := by decide +kernel
theorem mo_283 : m_ok (u_mt 283) := m_okb_ok (p0 := 2886) (p1 := 269) (p2 := 2884) (p3 := 2885) rfl (by decide +kernel)
theorem ko_283 : u_okl (u_mt 283) kl_283 = true := by decide +kernel
theorem mo_284 : m_ok (u_mt 284) := m_okb_ok (p0 := 2910) (p1 := 269) (p2 := 2909) (p3 := 192) rfl (by decide +kernel)
theorem ko_284 : u_okl (u_mt 284) kl_284 = true := by decide +kernel
theorem mo_285 : m_ok (u_mt 285) := m_okb_ok (p0 := 2906) (p1 := 269) (p2 := 2904) (p3 := 2905) rfl (by decide +kernel)
theorem ko_285 : u_okl (u_mt 285) kl_285 = true := by decide +kernel
theorem mo_286 : m_ok (u_mt 286) := m_okb_ok (p0 := 2947) (p1 := 269) (p2 := 2946) (p3 := 196) rfl (by decide +kernel)
theorem ko_286 : u_okl (u_mt 286) kl_286 = true := by decide +kernel
theorem mo_287 : m_ok (u_mt 287) := m_okb_ok (p0 := 2923) (p1 := 269) (p2 := 2922) (p3 := 194) rfl (by decide +kernel)
theorem ko_287 : u_okl (u_mt 287) kl_287 = true := by decide +kernel
theorem mo_288 : m_ok (u_mt 288) := m_okb_ok (p0 := 2927) (p1 := 269) (p2 := 2926) (p3 := 195) rfl (by decide +kernel)
theorem ko_288 : u_okl (u_mt 288) kl_288 = true := by decide +kernel
theorem mo_289 : m_ok (u_mt 289) := m_okb_ok (p0 := 2919) (p1 := 269) (p2 := 2918) (p3 := 193) rfl (by decide +kernel)
theorem ko_289 : u_okl (u_mt 289) kl_289 = true := by decide +kernel
theorem mo_290 : m_ok (u_mt 290) := m_okb_ok (p0 := 2914) (p1 := 269) (p2 := 2912) (p3 := 2913) rfl (by decide +kernel)
theorem ko_290 : u_okl (u_mt 290) kl_290 = true := by decide +kernel
theorem mo_291 : m_ok (u_mt 291) := m_okb_ok (p0 := 2951) (p1 := 269) (p2 := 2949) (p3 := 2950) rfl (by decide +kernel)
theorem ko_291 : u_okl (u_mt 291) kl_291 = true := by decide +kernel
theorem mo_292 : m_ok (u_mt 292) := m_okb_ok (p0 := 2955) (p1 := 269) (p2 := 2953) (p3 := 2954) rfl (by decide +kernel)
theorem ko_292 : u_okl (u_mt 292) kl_292 = true := by decide +kernel
theorem mo_293 : m_ok (u_mt 293) := m_okb_ok (p0 := 2969) (p1 := 269) (p2 := 2968) (p3 := 198) rfl (by decide +kernel)
theorem ko_293 : u_okl (u_mt 293) kl_293 = true := by decide +kernel
theorem mo_294 : m_ok (u_mt 294) := m_okb_ok (p0 := 2965) (p1 := 269) (p2 := 2964) (p3 := 197) rfl (by decide +kernel)
theorem ko_294 : u_okl (u_mt 294) kl_294 = true := by decide +kernel
theorem mo_295 : m_ok (u_mt 295) := m_okb_ok (p0 := 2959) (p1 := 269) (p2 := 2957) (p3 := 2958) rfl (by decide +kernel)
theorem ko_295 : u_okl (u_mt 295) kl_295 = true := by decide +kernel
theorem mo_296 : m_ok (u_mt 296) := m_okb_ok (p0 := 2977) (p1 := 269) (p2 := 2975) (p3 := 2976) rfl (by decide +kernel)
theorem ko_296 : u_okl (u_mt 296) kl_296 = true := by decide +kernel
theorem mo_297 : m_ok (u_mt 297) := m_okb_ok (p0 := 2981) (p1 := 269) (p2 := 2979) (p3 := 2980) rfl (by decide +kernel)
theorem ko_297 : u_okl (u_mt 297) kl_297 = true := by decide +kernel
theorem mo_298 : m_ok (u_mt 298) := m_okb_ok (p0 := 2986) (p1 := 269) (p2 := 2984) (p3 := 2985) rfl (by decide +kernel)
theorem ko_298 : u_okl (u_mt 298) kl_298 = true := by decide +kernel
theorem mo_299 : m_ok (u_mt 299) := m_okb_ok (p0 := 2003) (p1 := 277) (p2 := 2002) (p3 := 0) rfl (by decide +kernel)
theorem ko_299 : u_okl (u_mt 299) kl_299 = true := by decide +kernel
