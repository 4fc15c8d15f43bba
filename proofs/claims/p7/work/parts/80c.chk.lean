/-! certificates, checked -/
set_option maxRecDepth 100000 in
theorem ych_208 : ych 208 = true := by decide +kernel
set_option maxRecDepth 100000 in
theorem ych_209 : ych 209 = true := by decide +kernel
set_option maxRecDepth 100000 in
theorem ych_210 : ych 210 = true := by decide +kernel
set_option maxRecDepth 100000 in
theorem ych_211 : ych 211 = true := by decide +kernel
set_option maxRecDepth 100000 in
theorem ych_212 : ych 212 = true := by decide +kernel
set_option maxRecDepth 100000 in
theorem ych_213 : ych 213 = true := by decide +kernel
set_option maxRecDepth 100000 in
theorem ych_214 : ych 214 = true := by decide +kernel
set_option maxRecDepth 100000 in
theorem ych_215 : ych 215 = true := by decide +kernel
set_option maxRecDepth 100000 in
theorem ych_216 : ych 216 = true := by decide +kernel
set_option maxRecDepth 100000 in
theorem ych_217 : ych 217 = true := by decide +kernel
set_option maxRecDepth 100000 in
theorem ych_218 : ych 218 = true := by decide +kernel
set_option maxRecDepth 100000 in
theorem ych_219 : ych 219 = true := by decide +kernel
set_option maxRecDepth 100000 in
theorem ych_220 : ych 220 = true := by decide +kernel
set_option maxRecDepth 100000 in
theorem ych_221 : ych 221 = true := by decide +kernel
set_option maxRecDepth 100000 in
theorem ych_222 : ych 222 = true := by decide +kernel
set_option maxRecDepth 100000 in
theorem ych_223 : ych 223 = true := by decide +kernel
set_option maxRecDepth 100000 in
theorem ych_224 : ych 224 = true := by decide +kernel
set_option maxRecDepth 100000 in
theorem ych_225 : ych 225 = true := by decide +kernel
set_option maxRecDepth 100000 in
theorem ych_226 : ych 226 = true := by decide +kernel
set_option maxRecDepth 100000 in
theorem ych_227 : ych 227 = true := by decide +kernel
set_option maxRecDepth 100000 in
theorem ych_228 : ych 228 = true := by decide +kernel
set_option maxRecDepth 100000 in
theorem ych_229 : ych 229 = true := by decide +kernel
set_option maxRecDepth 100000 in
theorem ych_230 : ych 230 = true := by decide +kernel
set_option maxRecDepth 100000 in
theorem ych_231 : ych 231 = true := by decide +kernel
set_option maxRecDepth 100000 in
theorem ych_234 : ych 234 = true := by decide +kernel
set_option maxRecDepth 100000 in
theorem ych_235 : ych 235 = true := by decide +kernel
set_option maxRecDepth 100000 in
theorem ych_236 : ych 236 = true := by decide +kernel
set_option maxRecDepth 100000 in
theorem ych_237 : ych 237 = true := by decide +kernel
set_option maxRecDepth 100000 in
theorem ych_238 : ych 238 = true := by decide +kernel
set_option maxRecDepth 100000 in
theorem ych_239 : ych 239 = true := by decide +kernel
set_option maxRecDepth 100000 in
theorem ych_241 : ych 241 = true := by decide +kernel
set_option maxRecDepth 100000 in
theorem ych_242 : ych 242 = true := by decide +kernel
set_option maxRecDepth 100000 in
theorem ych_243 : ych 243 = true := by decide +kernel
set_option maxRecDepth 100000 in
theorem ych_244 : ych 244 = true := by decide +kernel
set_option maxRecDepth 100000 in
theorem ych_245 : ych 245 = true := by decide +kernel
set_option maxRecDepth 100000 in
theorem ych_246 : ych 246 = true := by decide +kernel
set_option maxRecDepth 100000 in
theorem ych_247 : ych 247 = true := by decide +kernel
set_option maxRecDepth 100000 in
theorem ych_248 : ych 248 = true := by decide +kernel
