set_option maxRecDepth 100000 in
theorem am_k240 : am_all (am_ck am_m240) am_t240 = true := by decide +kernel
set_option maxRecDepth 100000 in
theorem am_k241 : am_all (am_ck am_m241) am_t241 = true := by decide +kernel
set_option maxRecDepth 100000 in
theorem am_k242 : am_all (am_ck am_m242) am_t242 = true := by decide +kernel
set_option maxRecDepth 100000 in
theorem am_k243 : am_all (am_ck am_m243) am_t243 = true := by decide +kernel
set_option maxRecDepth 100000 in
theorem am_k244 : am_all (am_ck am_m244) am_t244 = true := by decide +kernel
set_option maxRecDepth 100000 in
theorem am_k245 : am_all (am_ck am_m245) am_t245 = true := by decide +kernel
set_option maxRecDepth 100000 in
theorem am_k246 : am_all (am_ck am_m246) am_t246 = true := by decide +kernel
set_option maxRecDepth 100000 in
theorem am_k247 : am_all (am_ck am_m247) am_t247 = true := by decide +kernel
set_option maxRecDepth 100000 in
theorem am_k248 : am_all (am_ck am_m248) am_t248 = true := by decide +kernel
set_option maxRecDepth 100000 in
theorem am_k249 : am_all (am_ck am_m249) am_t249 = true := by decide +kernel
set_option maxRecDepth 100000 in
theorem am_k250 : am_all (am_ck am_m250) am_t250 = true := by decide +kernel
set_option maxRecDepth 100000 in
theorem am_k251 : am_all (am_ck am_m251) am_t251 = true := by decide +kernel
set_option maxRecDepth 100000 in
theorem am_k252 : am_all (am_ck am_m252) am_t252 = true := by decide +kernel
set_option maxRecDepth 100000 in
theorem am_k253 : am_all (am_ck am_m253) am_t253 = true := by decide +kernel
set_option maxRecDepth 100000 in
theorem am_k254 : am_all (am_ck am_m254) am_t254 = true := by decide +kernel
set_option maxRecDepth 100000 in
theorem am_k255 : am_all (am_ck am_m255) am_t255 = true := by decide +kernel
set_option maxRecDepth 100000 in
theorem am_k256 : am_all (am_ck am_m256) am_t256 = true := by decide +kernel
set_option maxRecDepth 100000 in
theorem am_k257 : am_all (am_ck am_m257) am_t257 = true := by decide +kernel
set_option maxRecDepth 100000 in
theorem am_k258 : am_all (am_ck am_m258) am_t258 = true := by decide +kernel
set_option maxRecDepth 100000 in
theorem am_k259 : am_all (am_ck am_m259) am_t259 = true := by decide +kernel
set_option maxRecDepth 100000 in
theorem am_k260 : am_all (am_ck am_m260) am_t260 = true := by decide +kernel
set_option maxRecDepth 100000 in
theorem am_k261 : am_all (am_ck am_m261) am_t261 = true := by decide +kernel
set_option maxRecDepth 100000 in
theorem am_k262 : am_all (am_ck am_m262) am_t262 = true := by decide +kernel
set_option maxRecDepth 100000 in
theorem am_k263 : am_all (am_ck am_m263) am_t263 = true := by decide +kernel
set_option maxRecDepth 100000 in
theorem am_k264 : am_all (am_ck am_m264) am_t264 = true := by decide +kernel
set_option maxRecDepth 100000 in
theorem am_k265 : am_all (am_ck am_m265) am_t265 = true := by decide +kernel
set_option maxRecDepth 100000 in
theorem am_k266 : am_all (am_ck am_m266) am_t266 = true := by decide +kernel
set_option maxRecDepth 100000 in
theorem am_k267 : am_all (am_ck am_m267) am_t267 = true := by decide +kernel
set_option maxRecDepth 100000 in
theorem am_k268 : am_all (am_ck am_m268) am_t268 = true := by decide +kernel
set_option maxRecDepth 100000 in
theorem am_k269 : am_all (am_ck am_m269) am_t269 = true := by decide +kernel
set_option maxRecDepth 100000 in
theorem am_k270 : am_all (am_ck am_m270) am_t270 = true := by decide +kernel
set_option maxRecDepth 100000 in
theorem am_k271 : am_all (am_ck am_m271) am_t271 = true := by decide +kernel
set_option maxRecDepth 100000 in
theorem am_k272 : am_all (am_ck am_m272) am_t272 = true := by decide +kernel
set_option maxRecDepth 100000 in
theorem am_k273 : am_all (am_ck am_m273) am_t273 = true := by decide +kernel
set_option maxRecDepth 100000 in
theorem am_k274 : am_all (am_ck am_m274) am_t274 = true := by decide +kernel
set_option maxRecDepth 100000 in
theorem am_k275 : am_all (am_ck am_m275) am_t275 = true := by decide +kernel
set_option maxRecDepth 100000 in
theorem am_k276 : am_all (am_ck am_m276) am_t276 = true := by decide +kernel
set_option maxRecDepth 100000 in
theorem am_k277 : am_all (am_ck am_m277) am_t277 = true := by decide +kernel
set_option maxRecDepth 100000 in
theorem am_k278 : am_all (am_ck am_m278) am_t278 = true := by decide +kernel
set_option maxRecDepth 100000 in
theorem am_k279 : am_all (am_ck am_m279) am_t279 = true := by decide +kernel
set_option maxRecDepth 100000 in
theorem am_k280 : am_all (am_ck am_m280) am_t280 = true := by decide +kernel
set_option maxRecDepth 100000 in
theorem am_k281 : am_all (am_ck am_m281) am_t281 = true := by decide +kernel
set_option maxRecDepth 100000 in
theorem am_k282 : am_all (am_ck am_m282) am_t282 = true := by decide +kernel
set_option maxRecDepth 100000 in
theorem am_k283 : am_all (am_ck am_m283) am_t283 = true := by decide +kernel
set_option maxRecDepth 100000 in
theorem am_k284 : am_all (am_ck am_m284) am_t284 = true := by decide +kernel
set_option maxRecDepth 100000 in
theorem am_k285 : am_all (am_ck am_m285) am_t285 = true := by decide +kernel
set_option maxRecDepth 100000 in
theorem am_k286 : am_all (am_ck am_m286) am_t286 = true := by decide +kernel
set_option maxRecDepth 100000 in
theorem am_k287 : am_all (am_ck am_m287) am_t287 = true := by decide +kernel
set_option maxRecDepth 100000 in
theorem am_k288 : am_all (am_ck am_m288) am_t288 = true := by decide +kernel
set_option maxRecDepth 100000 in
theorem am_k289 : am_all (am_ck am_m289) am_t289 = true := by decide +kernel
set_option maxRecDepth 100000 in
theorem am_k290 : am_all (am_ck am_m290) am_t290 = true := by decide +kernel
set_option maxRecDepth 100000 in
theorem am_k291 : am_all (am_ck am_m291) am_t291 = true := by decide +kernel
set_option maxRecDepth 100000 in
theorem am_k292 : am_all (am_ck am_m292) am_t292 = true := by decide +kernel
set_option maxRecDepth 100000 in
theorem am_k293 : am_all (am_ck am_m293) am_t293 = true := by decide +kernel
set_option maxRecDepth 100000 in
theorem am_k294 : am_all (am_ck am_m294) am_t294 = true := by decide +kernel
set_option maxRecDepth 100000 in
theorem am_k295 : am_all (am_ck am_m295) am_t295 = true := by decide +kernel
set_option maxRecDepth 100000 in
theorem am_k296 : am_all (am_ck am_m296) am_t296 = true := by decide +kernel
set_option maxRecDepth 100000 in
theorem am_k297 : am_all (am_ck am_m297) am_t297 = true := by decide +kernel
set_option maxRecDepth 100000 in
theorem am_k298 : am_all (am_ck am_m298) am_t298 = true := by decide +kernel
set_option maxRecDepth 100000 in
theorem am_k299 : am_all (am_ck am_m299) am_t299 = true := by decide +kernel
set_option maxRecDepth 100000 in
theorem am_k300 : am_all (am_ck am_m300) am_t300 = true := by decide +kernel
set_option maxRecDepth 100000 in
theorem am_k301 : am_all (am_ck am_m301) am_t301 = true := by decide +kernel
set_option maxRecDepth 100000 in
theorem am_k302 : am_all (am_ck am_m302) am_t302 = true := by decide +kernel
set_option maxRecDepth 100000 in
theorem am_k303 : am_all (am_ck am_m303) am_t303 = true := by decide +kernel
