/-! certificates, checked -/
set_option maxRecDepth 100000 in
theorem ych_187 : ych 187 = true := by decide +kernel
set_option maxRecDepth 100000 in
theorem ych_188 : ych 188 = true := by decide +kernel
set_option maxRecDepth 100000 in
theorem ych_189 : ych 189 = true := by decide +kernel
set_option maxRecDepth 100000 in
theorem ych_190 : ych 190 = true := by decide +kernel
set_option maxRecDepth 100000 in
theorem ych_191 : ych 191 = true := by decide +kernel
set_option maxRecDepth 100000 in
theorem ych_192 : ych 192 = true := by decide +kernel
set_option maxRecDepth 100000 in
theorem ych_193 : ych 193 = true := by decide +kernel
set_option maxRecDepth 100000 in
theorem ych_194 : ych 194 = true := by decide +kernel
set_option maxRecDepth 100000 in
theorem ych_195 : ych 195 = true := by decide +kernel
set_option maxRecDepth 100000 in
theorem ych_196 : ych 196 = true := by decide +kernel
set_option maxRecDepth 100000 in
theorem ych_197 : ych 197 = true := by decide +kernel
set_option maxRecDepth 100000 in
theorem ych_198 : ych 198 = true := by decide +kernel
set_option maxRecDepth 100000 in
theorem ych_199 : ych 199 = true := by decide +kernel
set_option maxRecDepth 100000 in
theorem ych_200 : ych 200 = true := by decide +kernel
set_option maxRecDepth 100000 in
theorem ych_201 : ych 201 = true := by decide +kernel
set_option maxRecDepth 100000 in
theorem ych_202 : ych 202 = true := by decide +kernel
set_option maxRecDepth 100000 in
theorem ych_203 : ych 203 = true := by decide +kernel
set_option maxRecDepth 100000 in
theorem ych_204 : ych 204 = true := by decide +kernel
set_option maxRecDepth 100000 in
theorem ych_205 : ych 205 = true := by decide +kernel
set_option maxRecDepth 100000 in
theorem ych_206 : ych 206 = true := by decide +kernel
set_option maxRecDepth 100000 in
theorem ych_207 : ych 207 = true := by decide +kernel
set_option maxRecDepth 100000 in
theorem ych_208 : ych 208 = true := by decide +kernel
set_option maxRecDepth 100000 in
theorem ych_209 : ych 209 = true := by decide +kernel
set_option maxRecDepth 100000 in
theorem ych_210 : ych 210 = true := by decide +kernel
set_option maxRecDepth 100000 in
theorem ych_213 : ych 213 = true := by decide +kernel
set_option maxRecDepth 100000 in
theorem ych_214 : ych 214 = true := by decide +kernel
set_option maxRecDepth 100000 in
theorem ych_215 : ych 215 = true := by decide +kernel
set_option maxRecDepth 100000 in
theorem ych_216 : ych 216 = true := by decide +kernel
set_option maxRecDepth 100000 in
theorem ych_217 : ych 217 = true := by decide +kernel
set_option maxRecDepth 100000 in
theorem ych_218 : ych 218 = true := by decide +kernel
set_option maxRecDepth 100000 in
theorem ych_220 : ych 220 = true := by decide +kernel
set_option maxRecDepth 100000 in
theorem ych_221 : ych 221 = true := by decide +kernel
set_option maxRecDepth 100000 in
theorem ych_222 : ych 222 = true := by decide +kernel
set_option maxRecDepth 100000 in
theorem ych_223 : ych 223 = true := by decide +kernel
set_option maxRecDepth 100000 in
theorem ych_224 : ych 224 = true := by decide +kernel
set_option maxRecDepth 100000 in
theorem ych_225 : ych 225 = true := by decide +kernel
set_option maxRecDepth 100000 in
theorem ych_226 : ych 226 = true := by decide +kernel
set_option maxRecDepth 100000 in
theorem ych_227 : ych 227 = true := by decide +kernel
