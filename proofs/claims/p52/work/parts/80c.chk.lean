/-! certificates, checked -/
set_option maxRecDepth 100000 in
theorem ych_208 : ych 208 = true := by decide +kernel
set_option maxRecDepth 100000 in
theorem ych_209 : ych 209 = true := by decide +kernel
set_option maxRecDepth 100000 in
theorem ych_210 : ych 210 = true := by decide +kernel
set_option maxRecDepth 100000 in
theorem ych_211 : ych 211 = true := by decide +kernel
set_option maxRecDepth 100000 in
theorem ych_212 : ych 212 = true := by decide +kernel
set_option maxRecDepth 100000 in
theorem ych_213 : ych 213 = true := by decide +kernel
set_option maxRecDepth 100000 in
theorem ych_214 : ych 214 = true := by decide +kernel
set_option maxRecDepth 100000 in
theorem ych_215 : ych 215 = true := by decide +kernel
set_option maxRecDepth 100000 in
theorem ych_216 : ych 216 = true := by decide +kernel
set_option maxRecDepth 100000 in
theorem ych_217 : ych 217 = true := by decide +kernel
set_option maxRecDepth 100000 in
theorem ych_218 : ych 218 = true := by decide +kernel
set_option maxRecDepth 100000 in
theorem ych_219 : ych 219 = true := by decide +kernel
set_option maxRecDepth 100000 in
theorem ych_220 : ych 220 = true := by decide +kernel
set_option maxRecDepth 100000 in
theorem ych_221 : ych 221 = true := by decide +kernel
set_option maxRecDepth 100000 in
theorem ych_222 : ych 222 = true := by decide +kernel
set_option maxRecDepth 100000 in
theorem ych_223 : ych 223 = true := by decide +kernel
set_option maxRecDepth 100000 in
theorem ych_224 : ych 224 = true := by decide +kernel
set_option maxRecDepth 100000 in
theorem ych_225 : ych 225 = true := by decide +kernel
set_option maxRecDepth 100000 in
theorem ych_226 : ych 226 = true := by decide +kernel
set_option maxRecDepth 100000 in
theorem ych_227 : ych 227 = true := by decide +kernel
set_option maxRecDepth 100000 in
theorem ych_228 : ych 228 = true := by decide +kernel
set_option maxRecDepth 100000 in
theorem ych_229 : ych 229 = true := by decide +kernel
set_option maxRecDepth 100000 in
theorem ych_230 : ych 230 = true := by decide +kernel
set_option maxRecDepth 100000 in
theorem ych_231 : ych 231 = true := by decide +kernel
set_option maxRecDepth 100000 in
theorem ych_232 : ych 232 = true := by decide +kernel
set_option maxRecDepth 100000 in
theorem ych_233 : ych 233 = true := by decide +kernel
set_option maxRecDepth 100000 in
theorem ych_234 : ych 234 = true := by decide +kernel
set_option maxRecDepth 100000 in
theorem ych_235 : ych 235 = true := by decide +kernel
set_option maxRecDepth 100000 in
theorem ych_236 : ych 236 = true := by decide +kernel
set_option maxRecDepth 100000 in
theorem ych_237 : ych 237 = true := by decide +kernel
set_option maxRecDepth 100000 in
theorem ych_238 : ych 238 = true := by decide +kernel
set_option maxRecDepth 100000 in
theorem ych_239 : ych 239 = true := by decide +kernel
set_option maxRecDepth 100000 in
theorem ych_240 : ych 240 = true := by decide +kernel
set_option maxRecDepth 100000 in
theorem ych_241 : ych 241 = true := by decide +kernel
set_option maxRecDepth 100000 in
theorem ych_242 : ych 242 = true := by decide +kernel
set_option maxRecDepth 100000 in
theorem ych_243 : ych 243 = true := by decide +kernel
set_option maxRecDepth 100000 in
theorem ych_244 : ych 244 = true := by decide +kernel
set_option maxRecDepth 100000 in
theorem ych_245 : ych 245 = true := by decide +kernel
set_option maxRecDepth 100000 in
theorem ych_246 : ych 246 = true := by decide +kernel
set_option maxRecDepth 100000 in
theorem ych_247 : ych 247 = true := by decide +kernel
set_option maxRecDepth 100000 in
theorem ych_248 : ych 248 = true := by decide +kernel
set_option maxRecDepth 100000 in
theorem ych_249 : ych 249 = true := by decide +kernel
set_option maxRecDepth 100000 in
theorem ych_250 : ych 250 = true := by decide +kernel
set_option maxRecDepth 100000 in
theorem ych_251 : ych 251 = true := by decide +kernel
set_option maxRecDepth 100000 in
theorem ych_252 : ych 252 = true := by decide +kernel
set_option maxRecDepth 100000 in
theorem ych_253 : ych 253 = true := by decide +kernel
set_option maxRecDepth 100000 in
theorem ych_254 : ych 254 = true := by decide +kernel
set_option maxRecDepth 100000 in
theorem ych_255 : ych 255 = true := by decide +kernel
set_option maxRecDepth 100000 in
theorem ych_256 : ych 256 = true := by decide +kernel
set_option maxRecDepth 100000 in
theorem ych_257 : ych 257 = true := by decide +kernel
set_option maxRecDepth 100000 in
theorem ych_258 : ych 258 = true := by decide +kernel
set_option maxRecDepth 100000 in
theorem ych_259 : ych 259 = true := by decide +kernel
set_option maxRecDepth 100000 in
theorem ych_260 : ych 260 = true := by decide +kernel
set_option maxRecDepth 100000 in
theorem ych_261 : ych 261 = true := by decide +kernel
set_option maxRecDepth 100000 in
theorem ych_262 : ych 262 = true := by decide +kernel
set_option maxRecDepth 100000 in
theorem ych_263 : ych 263 = true := by decide +kernel
set_option maxRecDepth 100000 in
theorem ych_264 : ych 264 = true := by decide +kernel
set_option maxRecDepth 100000 in
theorem ych_265 : ych 265 = true := by decide +kernel
set_option maxRecDepth 100000 in
theorem ych_266 : ych 266 = true := by decide +kernel
set_option maxRecDepth 100000 in
theorem ych_267 : ych 267 = true := by decide +kernel
set_option maxRecDepth 100000 in
theorem ych_268 : ych 268 = true := by decide +kernel
set_option maxRecDepth 100000 in
theorem ych_269 : ych 269 = true := by decide +kernel
set_option maxRecDepth 100000 in
theorem ych_270 : ych 270 = true := by decide +kernel
set_option maxRecDepth 100000 in
theorem ych_271 : ych 271 = true := by decide +kernel
set_option maxRecDepth 100000 in
theorem ych_272 : ych 272 = true := by decide +kernel
set_option maxRecDepth 100000 in
theorem ych_273 : ych 273 = true := by decide +kernel
set_option maxRecDepth 100000 in
theorem ych_274 : ych 274 = true := by decide +kernel
set_option maxRecDepth 100000 in
theorem ych_275 : ych 275 = true := by decide +kernel
set_option maxRecDepth 100000 in
theorem ych_276 : ych 276 = true := by decide +kernel
set_option maxRecDepth 100000 in
theorem ych_277 : ych 277 = true := by decide +kernel
set_option maxRecDepth 100000 in
theorem ych_278 : ych 278 = true := by decide +kernel
set_option maxRecDepth 100000 in
theorem ych_279 : ych 279 = true := by decide +kernel
set_option maxRecDepth 100000 in
theorem ych_280 : ych 280 = true := by decide +kernel
set_option maxRecDepth 100000 in
theorem ych_283 : ych 283 = true := by decide +kernel
set_option maxRecDepth 100000 in
theorem ych_284 : ych 284 = true := by decide +kernel
set_option maxRecDepth 100000 in
theorem ych_285 : ych 285 = true := by decide +kernel
set_option maxRecDepth 100000 in
theorem ych_286 : ych 286 = true := by decide +kernel
set_option maxRecDepth 100000 in
theorem ych_287 : ych 287 = true := by decide +kernel
set_option maxRecDepth 100000 in
theorem ych_288 : ych 288 = true := by decide +kernel
set_option maxRecDepth 100000 in
theorem ych_290 : ych 290 = true := by decide +kernel
set_option maxRecDepth 100000 in
theorem ych_291 : ych 291 = true := by decide +kernel
set_option maxRecDepth 100000 in
theorem ych_292 : ych 292 = true := by decide +kernel
set_option maxRecDepth 100000 in
theorem ych_293 : ych 293 = true := by decide +kernel
set_option maxRecDepth 100000 in
theorem ych_294 : ych 294 = true := by decide +kernel
set_option maxRecDepth 100000 in
theorem ych_295 : ych 295 = true := by decide +kernel
set_option maxRecDepth 100000 in
theorem ych_296 : ych 296 = true := by decide +kernel
set_option maxRecDepth 100000 in
theorem ych_297 : ych 297 = true := by decide +kernel
