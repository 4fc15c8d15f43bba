/-! certificates, checked -/
set_option maxRecDepth 100000 in
theorem ych_277 : ych 277 = true := by decide +kernel
set_option maxRecDepth 100000 in
theorem ych_278 : ych 278 = true := by decide +kernel
set_option maxRecDepth 100000 in
theorem ych_279 : ych 279 = true := by decide +kernel
set_option maxRecDepth 100000 in
theorem ych_280 : ych 280 = true := by decide +kernel
set_option maxRecDepth 100000 in
theorem ych_281 : ych 281 = true := by decide +kernel
set_option maxRecDepth 100000 in
theorem ych_282 : ych 282 = true := by decide +kernel
set_option maxRecDepth 100000 in
theorem ych_283 : ych 283 = true := by decide +kernel
set_option maxRecDepth 100000 in
theorem ych_284 : ych 284 = true := by decide +kernel
set_option maxRecDepth 100000 in
theorem ych_285 : ych 285 = true := by decide +kernel
set_option maxRecDepth 100000 in
theorem ych_286 : ych 286 = true := by decide +kernel
set_option maxRecDepth 100000 in
theorem ych_287 : ych 287 = true := by decide +kernel
set_option maxRecDepth 100000 in
theorem ych_288 : ych 288 = true := by decide +kernel
set_option maxRecDepth 100000 in
theorem ych_289 : ych 289 = true := by decide +kernel
set_option maxRecDepth 100000 in
theorem ych_290 : ych 290 = true := by decide +kernel
set_option maxRecDepth 100000 in
theorem ych_291 : ych 291 = true := by decide +kernel
set_option maxRecDepth 100000 in
theorem ych_292 : ych 292 = true := by decide +kernel
set_option maxRecDepth 100000 in
theorem ych_293 : ych 293 = true := by decide +kernel
set_option maxRecDepth 100000 in
theorem ych_294 : ych 294 = true := by decide +kernel
set_option maxRecDepth 100000 in
theorem ych_295 : ych 295 = true := by decide +kernel
set_option maxRecDepth 100000 in
theorem ych_296 : ych 296 = true := by decide +kernel
set_option maxRecDepth 100000 in
theorem ych_297 : ych 297 = true := by decide +kernel
set_option maxRecDepth 100000 in
theorem ych_298 : ych 298 = true := by decide +kernel
set_option maxRecDepth 100000 in
theorem ych_299 : ych 299 = true := by decide +kernel
set_option maxRecDepth 100000 in
theorem ych_300 : ych 300 = true := by decide +kernel
set_option maxRecDepth 100000 in
theorem ych_301 : ych 301 = true := by decide +kernel
set_option maxRecDepth 100000 in
theorem ych_302 : ych 302 = true := by decide +kernel
set_option maxRecDepth 100000 in
theorem ych_303 : ych 303 = true := by decide +kernel
set_option maxRecDepth 100000 in
theorem ych_304 : ych 304 = true := by decide +kernel
set_option maxRecDepth 100000 in
theorem ych_307 : ych 307 = true := by decide +kernel
set_option maxRecDepth 100000 in
theorem ych_308 : ych 308 = true := by decide +kernel
set_option maxRecDepth 100000 in
theorem ych_309 : ych 309 = true := by decide +kernel
set_option maxRecDepth 100000 in
theorem ych_310 : ych 310 = true := by decide +kernel
set_option maxRecDepth 100000 in
theorem ych_311 : ych 311 = true := by decide +kernel
set_option maxRecDepth 100000 in
theorem ych_312 : ych 312 = true := by decide +kernel
set_option maxRecDepth 100000 in
theorem ych_314 : ych 314 = true := by decide +kernel
set_option maxRecDepth 100000 in
theorem ych_315 : ych 315 = true := by decide +kernel
set_option maxRecDepth 100000 in
theorem ych_316 : ych 316 = true := by decide +kernel
set_option maxRecDepth 100000 in
theorem ych_317 : ych 317 = true := by decide +kernel
set_option maxRecDepth 100000 in
theorem ych_318 : ych 318 = true := by decide +kernel
set_option maxRecDepth 100000 in
theorem ych_319 : ych 319 = true := by decide +kernel
set_option maxRecDepth 100000 in
theorem ych_320 : ych 320 = true := by decide +kernel
set_option maxRecDepth 100000 in
theorem ych_321 : ych 321 = true := by decide +kernel
