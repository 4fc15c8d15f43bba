/-! certificates, checked -/
set_option maxRecDepth 100000 in
theorem ych_213 : ych 213 = true := by decide +kernel
set_option maxRecDepth 100000 in
theorem ych_214 : ych 214 = true := by decide +kernel
set_option maxRecDepth 100000 in
theorem ych_215 : ych 215 = true := by decide +kernel
set_option maxRecDepth 100000 in
theorem ych_216 : ych 216 = true := by decide +kernel
set_option maxRecDepth 100000 in
theorem ych_217 : ych 217 = true := by decide +kernel
set_option maxRecDepth 100000 in
theorem ych_218 : ych 218 = true := by decide +kernel
set_option maxRecDepth 100000 in
theorem ych_219 : ych 219 = true := by decide +kernel
set_option maxRecDepth 100000 in
theorem ych_220 : ych 220 = true := by decide +kernel
set_option maxRecDepth 100000 in
theorem ych_221 : ych 221 = true := by decide +kernel
set_option maxRecDepth 100000 in
theorem ych_222 : ych 222 = true := by decide +kernel
set_option maxRecDepth 100000 in
theorem ych_223 : ych 223 = true := by decide +kernel
set_option maxRecDepth 100000 in
theorem ych_224 : ych 224 = true := by decide +kernel
