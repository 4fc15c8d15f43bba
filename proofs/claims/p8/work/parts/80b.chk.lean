/-! certificates, checked -/
set_option maxRecDepth 100000 in
theorem ych_141 : ych 141 = true := by decide +kernel
set_option maxRecDepth 100000 in
theorem ych_142 : ych 142 = true := by decide +kernel
set_option maxRecDepth 100000 in
theorem ych_143 : ych 143 = true := by decide +kernel
set_option maxRecDepth 100000 in
theorem ych_144 : ych 144 = true := by decide +kernel
set_option maxRecDepth 100000 in
theorem ych_145 : ych 145 = true := by decide +kernel
set_option maxRecDepth 100000 in
theorem ych_146 : ych 146 = true := by decide +kernel
set_option maxRecDepth 100000 in
theorem ych_147 : ych 147 = true := by decide +kernel
set_option maxRecDepth 100000 in
theorem ych_148 : ych 148 = true := by decide +kernel
set_option maxRecDepth 100000 in
theorem ych_149 : ych 149 = true := by decide +kernel
set_option maxRecDepth 100000 in
theorem ych_150 : ych 150 = true := by decide +kernel
set_option maxRecDepth 100000 in
theorem ych_151 : ych 151 = true := by decide +kernel
set_option maxRecDepth 100000 in
theorem ych_152 : ych 152 = true := by decide +kernel
set_option maxRecDepth 100000 in
theorem ych_153 : ych 153 = true := by decide +kernel
set_option maxRecDepth 100000 in
theorem ych_154 : ych 154 = true := by decide +kernel
set_option maxRecDepth 100000 in
theorem ych_155 : ych 155 = true := by decide +kernel
set_option maxRecDepth 100000 in
theorem ych_156 : ych 156 = true := by decide +kernel
set_option maxRecDepth 100000 in
theorem ych_157 : ych 157 = true := by decide +kernel
set_option maxRecDepth 100000 in
theorem ych_158 : ych 158 = true := by decide +kernel
set_option maxRecDepth 100000 in
theorem ych_159 : ych 159 = true := by decide +kernel
set_option maxRecDepth 100000 in
theorem ych_160 : ych 160 = true := by decide +kernel
set_option maxRecDepth 100000 in
theorem ych_161 : ych 161 = true := by decide +kernel
set_option maxRecDepth 100000 in
theorem ych_162 : ych 162 = true := by decide +kernel
set_option maxRecDepth 100000 in
theorem ych_163 : ych 163 = true := by decide +kernel
set_option maxRecDepth 100000 in
theorem ych_164 : ych 164 = true := by decide +kernel
set_option maxRecDepth 100000 in
theorem ych_165 : ych 165 = true := by decide +kernel
set_option maxRecDepth 100000 in
theorem ych_166 : ych 166 = true := by decide +kernel
set_option maxRecDepth 100000 in
theorem ych_167 : ych 167 = true := by decide +kernel
set_option maxRecDepth 100000 in
theorem ych_168 : ych 168 = true := by decide +kernel
set_option maxRecDepth 100000 in
theorem ych_169 : ych 169 = true := by decide +kernel
set_option maxRecDepth 100000 in
theorem ych_170 : ych 170 = true := by decide +kernel
set_option maxRecDepth 100000 in
theorem ych_171 : ych 171 = true := by decide +kernel
set_option maxRecDepth 100000 in
theorem ych_172 : ych 172 = true := by decide +kernel
set_option maxRecDepth 100000 in
theorem ych_173 : ych 173 = true := by decide +kernel
set_option maxRecDepth 100000 in
theorem ych_174 : ych 174 = true := by decide +kernel
set_option maxRecDepth 100000 in
theorem ych_175 : ych 175 = true := by decide +kernel
set_option maxRecDepth 100000 in
theorem ych_176 : ych 176 = true := by decide +kernel
set_option maxRecDepth 100000 in
theorem ych_177 : ych 177 = true := by decide +kernel
set_option maxRecDepth 100000 in
theorem ych_178 : ych 178 = true := by decide +kernel
set_option maxRecDepth 100000 in
theorem ych_179 : ych 179 = true := by decide +kernel
set_option maxRecDepth 100000 in
theorem ych_180 : ych 180 = true := by decide +kernel
set_option maxRecDepth 100000 in
theorem ych_181 : ych 181 = true := by decide +kernel
set_option maxRecDepth 100000 in
theorem ych_182 : ych 182 = true := by decide +kernel
set_option maxRecDepth 100000 in
theorem ych_183 : ych 183 = true := by decide +kernel
set_option maxRecDepth 100000 in
theorem ych_184 : ych 184 = true := by decide +kernel
set_option maxRecDepth 100000 in
theorem ych_185 : ych 185 = true := by decide +kernel
set_option maxRecDepth 100000 in
theorem ych_186 : ych 186 = true := by decide +kernel
