/-! certificates, checked -/
set_option maxRecDepth 100000 in
theorem ych_257 : ych 257 = true := by decide +kernel
set_option maxRecDepth 100000 in
theorem ych_258 : ych 258 = true := by decide +kernel
set_option maxRecDepth 100000 in
theorem ych_259 : ych 259 = true := by decide +kernel
set_option maxRecDepth 100000 in
theorem ych_260 : ych 260 = true := by decide +kernel
set_option maxRecDepth 100000 in
theorem ych_261 : ych 261 = true := by decide +kernel
set_option maxRecDepth 100000 in
theorem ych_262 : ych 262 = true := by decide +kernel
set_option maxRecDepth 100000 in
theorem ych_263 : ych 263 = true := by decide +kernel
set_option maxRecDepth 100000 in
theorem ych_264 : ych 264 = true := by decide +kernel
set_option maxRecDepth 100000 in
theorem ych_265 : ych 265 = true := by decide +kernel
set_option maxRecDepth 100000 in
theorem ych_266 : ych 266 = true := by decide +kernel
set_option maxRecDepth 100000 in
theorem ych_267 : ych 267 = true := by decide +kernel
set_option maxRecDepth 100000 in
theorem ych_268 : ych 268 = true := by decide +kernel
set_option maxRecDepth 100000 in
theorem ych_269 : ych 269 = true := by decide +kernel
set_option maxRecDepth 100000 in
theorem ych_270 : ych 270 = true := by decide +kernel
set_option maxRecDepth 100000 in
theorem ych_271 : ych 271 = true := by decide +kernel
set_option maxRecDepth 100000 in
theorem ych_272 : ych 272 = true := by decide +kernel
set_option maxRecDepth 100000 in
theorem ych_273 : ych 273 = true := by decide +kernel
set_option maxRecDepth 100000 in
theorem ych_274 : ych 274 = true := by decide +kernel
set_option maxRecDepth 100000 in
theorem ych_275 : ych 275 = true := by decide +kernel
set_option maxRecDepth 100000 in
theorem ych_276 : ych 276 = true := by decide +kernel
set_option maxRecDepth 100000 in
theorem ych_277 : ych 277 = true := by decide +kernel
set_option maxRecDepth 100000 in
theorem ych_278 : ych 278 = true := by decide +kernel
set_option maxRecDepth 100000 in
theorem ych_279 : ych 279 = true := by decide +kernel
set_option maxRecDepth 100000 in
theorem ych_280 : ych 280 = true := by decide +kernel
set_option maxRecDepth 100000 in
theorem ych_281 : ych 281 = true := by decide +kernel
set_option maxRecDepth 100000 in
theorem ych_282 : ych 282 = true := by decide +kernel
set_option maxRecDepth 100000 in
theorem ych_283 : ych 283 = true := by decide +kernel
set_option maxRecDepth 100000 in
theorem ych_286 : ych 286 = true := by decide +kernel
set_option maxRecDepth 100000 in
theorem ych_287 : ych 287 = true := by decide +kernel
set_option maxRecDepth 100000 in
theorem ych_288 : ych 288 = true := by decide +kernel
set_option maxRecDepth 100000 in
theorem ych_289 : ych 289 = true := by decide +kernel
set_option maxRecDepth 100000 in
theorem ych_290 : ych 290 = true := by decide +kernel
set_option maxRecDepth 100000 in
theorem ych_291 : ych 291 = true := by decide +kernel
set_option maxRecDepth 100000 in
theorem ych_293 : ych 293 = true := by decide +kernel
set_option maxRecDepth 100000 in
theorem ych_294 : ych 294 = true := by decide +kernel
set_option maxRecDepth 100000 in
theorem ych_295 : ych 295 = true := by decide +kernel
set_option maxRecDepth 100000 in
theorem ych_296 : ych 296 = true := by decide +kernel
set_option maxRecDepth 100000 in
theorem ych_297 : ych 297 = true := by decide +kernel
set_option maxRecDepth 100000 in
theorem ych_298 : ych 298 = true := by decide +kernel
set_option maxRecDepth 100000 in
theorem ych_299 : ych 299 = true := by decide +kernel
set_option maxRecDepth 100000 in
theorem ych_300 : ych 300 = true := by decide +kernel
