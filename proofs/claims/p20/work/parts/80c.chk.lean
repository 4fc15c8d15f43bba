/-! certificates, checked -/
set_option maxRecDepth 100000 in
theorem ych_166 : ych 166 = true := by decide +kernel
set_option maxRecDepth 100000 in
theorem ych_167 : ych 167 = true := by decide +kernel
set_option maxRecDepth 100000 in
theorem ych_168 : ych 168 = true := by decide +kernel
set_option maxRecDepth 100000 in
theorem ych_169 : ych 169 = true := by decide +kernel
set_option maxRecDepth 100000 in
theorem ych_170 : ych 170 = true := by decide +kernel
set_option maxRecDepth 100000 in
theorem ych_171 : ych 171 = true := by decide +kernel
set_option maxRecDepth 100000 in
theorem ych_172 : ych 172 = true := by decide +kernel
set_option maxRecDepth 100000 in
theorem ych_173 : ych 173 = true := by decide +kernel
set_option maxRecDepth 100000 in
theorem ych_174 : ych 174 = true := by decide +kernel
set_option maxRecDepth 100000 in
theorem ych_175 : ych 175 = true := by decide +kernel
set_option maxRecDepth 100000 in
theorem ych_176 : ych 176 = true := by decide +kernel
set_option maxRecDepth 100000 in
theorem ych_177 : ych 177 = true := by decide +kernel
set_option maxRecDepth 100000 in
theorem ych_178 : ych 178 = true := by decide +kernel
set_option maxRecDepth 100000 in
theorem ych_179 : ych 179 = true := by decide +kernel
set_option maxRecDepth 100000 in
theorem ych_180 : ych 180 = true := by decide +kernel
set_option maxRecDepth 100000 in
theorem ych_181 : ych 181 = true := by decide +kernel
set_option maxRecDepth 100000 in
theorem ych_182 : ych 182 = true := by decide +kernel
set_option maxRecDepth 100000 in
theorem ych_183 : ych 183 = true := by decide +kernel
set_option maxRecDepth 100000 in
theorem ych_184 : ych 184 = true := by decide +kernel
set_option maxRecDepth 100000 in
theorem ych_185 : ych 185 = true := by decide +kernel
set_option maxRecDepth 100000 in
theorem ych_186 : ych 186 = true := by decide +kernel
set_option maxRecDepth 100000 in
theorem ych_187 : ych 187 = true := by decide +kernel
set_option maxRecDepth 100000 in
theorem ych_188 : ych 188 = true := by decide +kernel
set_option maxRecDepth 100000 in
theorem ych_189 : ych 189 = true := by decide +kernel
set_option maxRecDepth 100000 in
theorem ych_190 : ych 190 = true := by decide +kernel
set_option maxRecDepth 100000 in
theorem ych_191 : ych 191 = true := by decide +kernel
set_option maxRecDepth 100000 in
theorem ych_192 : ych 192 = true := by decide +kernel
set_option maxRecDepth 100000 in
theorem ych_193 : ych 193 = true := by decide +kernel
set_option maxRecDepth 100000 in
theorem ych_194 : ych 194 = true := by decide +kernel
set_option maxRecDepth 100000 in
theorem ych_195 : ych 195 = true := by decide +kernel
set_option maxRecDepth 100000 in
theorem ych_196 : ych 196 = true := by decide +kernel
set_option maxRecDepth 100000 in
theorem ych_197 : ych 197 = true := by decide +kernel
set_option maxRecDepth 100000 in
theorem ych_198 : ych 198 = true := by decide +kernel
set_option maxRecDepth 100000 in
theorem ych_199 : ych 199 = true := by decide +kernel
set_option maxRecDepth 100000 in
theorem ych_200 : ych 200 = true := by decide +kernel
set_option maxRecDepth 100000 in
theorem ych_201 : ych 201 = true := by decide +kernel
set_option maxRecDepth 100000 in
theorem ych_202 : ych 202 = true := by decide +kernel
set_option maxRecDepth 100000 in
theorem ych_203 : ych 203 = true := by decide +kernel
set_option maxRecDepth 100000 in
theorem ych_204 : ych 204 = true := by decide +kernel
set_option maxRecDepth 100000 in
theorem ych_205 : ych 205 = true := by decide +kernel
set_option maxRecDepth 100000 in
theorem ych_206 : ych 206 = true := by decide +kernel
set_option maxRecDepth 100000 in
theorem ych_207 : ych 207 = true := by decide +kernel
set_option maxRecDepth 100000 in
theorem ych_208 : ych 208 = true := by decide +kernel
set_option maxRecDepth 100000 in
theorem ych_209 : ych 209 = true := by decide +kernel
set_option maxRecDepth 100000 in
theorem ych_210 : ych 210 = true := by decide +kernel
set_option maxRecDepth 100000 in
theorem ych_211 : ych 211 = true := by decide +kernel
set_option maxRecDepth 100000 in
theorem ych_212 : ych 212 = true := by decide +kernel
set_option maxRecDepth 100000 in
theorem ych_213 : ych 213 = true := by decide +kernel
set_option maxRecDepth 100000 in
theorem ych_214 : ych 214 = true := by decide +kernel
set_option maxRecDepth 100000 in
theorem ych_215 : ych 215 = true := by decide +kernel
set_option maxRecDepth 100000 in
theorem ych_216 : ych 216 = true := by decide +kernel
set_option maxRecDepth 100000 in
theorem ych_218 : ych 218 = true := by decide +kernel
set_option maxRecDepth 100000 in
theorem ych_219 : ych 219 = true := by decide +kernel
set_option maxRecDepth 100000 in
theorem ych_220 : ych 220 = true := by decide +kernel
set_option maxRecDepth 100000 in
theorem ych_221 : ych 221 = true := by decide +kernel
set_option maxRecDepth 100000 in
theorem ych_222 : ych 222 = true := by decide +kernel
set_option maxRecDepth 100000 in
theorem ych_223 : ych 223 = true := by decide +kernel
set_option maxRecDepth 100000 in
theorem ych_224 : ych 224 = true := by decide +kernel
set_option maxRecDepth 100000 in
theorem ych_225 : ych 225 = true := by decide +kernel
set_option maxRecDepth 100000 in
theorem ych_226 : ych 226 = true := by decide +kernel
set_option maxRecDepth 100000 in
theorem ych_227 : ych 227 = true := by decide +kernel
set_option maxRecDepth 100000 in
theorem ych_228 : ych 228 = true := by decide +kernel
set_option maxRecDepth 100000 in
theorem ych_229 : ych 229 = true := by decide +kernel
set_option maxRecDepth 100000 in
theorem ych_230 : ych 230 = true := by decide +kernel
set_option maxRecDepth 100000 in
theorem ych_231 : ych 231 = true := by decide +kernel
