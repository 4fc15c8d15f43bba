/-! certificates, checked -/
set_option maxRecDepth 100000 in
theorem ych_86 : ych 86 = true := by decide +kernel
set_option maxRecDepth 100000 in
theorem ych_87 : ych 87 = true := by decide +kernel
set_option maxRecDepth 100000 in
theorem ych_88 : ych 88 = true := by decide +kernel
set_option maxRecDepth 100000 in
theorem ych_89 : ych 89 = true := by decide +kernel
set_option maxRecDepth 100000 in
theorem ych_90 : ych 90 = true := by decide +kernel
set_option maxRecDepth 100000 in
theorem ych_91 : ych 91 = true := by decide +kernel
set_option maxRecDepth 100000 in
theorem ych_92 : ych 92 = true := by decide +kernel
set_option maxRecDepth 100000 in
theorem ych_93 : ych 93 = true := by decide +kernel
set_option maxRecDepth 100000 in
theorem ych_94 : ych 94 = true := by decide +kernel
set_option maxRecDepth 100000 in
theorem ych_95 : ych 95 = true := by decide +kernel
set_option maxRecDepth 100000 in
theorem ych_96 : ych 96 = true := by decide +kernel
set_option maxRecDepth 100000 in
theorem ych_97 : ych 97 = true := by decide +kernel
set_option maxRecDepth 100000 in
theorem ych_98 : ych 98 = true := by decide +kernel
set_option maxRecDepth 100000 in
theorem ych_99 : ych 99 = true := by decide +kernel
set_option maxRecDepth 100000 in
theorem ych_100 : ych 100 = true := by decide +kernel
set_option maxRecDepth 100000 in
theorem ych_101 : ych 101 = true := by decide +kernel
set_option maxRecDepth 100000 in
theorem ych_102 : ych 102 = true := by decide +kernel
set_option maxRecDepth 100000 in
theorem ych_103 : ych 103 = true := by decide +kernel
set_option maxRecDepth 100000 in
theorem ych_104 : ych 104 = true := by decide +kernel
set_option maxRecDepth 100000 in
theorem ych_105 : ych 105 = true := by decide +kernel
set_option maxRecDepth 100000 in
theorem ych_106 : ych 106 = true := by decide +kernel
set_option maxRecDepth 100000 in
theorem ych_107 : ych 107 = true := by decide +kernel
set_option maxRecDepth 100000 in
theorem ych_108 : ych 108 = true := by decide +kernel
set_option maxRecDepth 100000 in
theorem ych_109 : ych 109 = true := by decide +kernel
set_option maxRecDepth 100000 in
theorem ych_110 : ych 110 = true := by decide +kernel
set_option maxRecDepth 100000 in
theorem ych_112 : ych 112 = true := by decide +kernel
set_option maxRecDepth 100000 in
theorem ych_113 : ych 113 = true := by decide +kernel
set_option maxRecDepth 100000 in
theorem ych_114 : ych 114 = true := by decide +kernel
set_option maxRecDepth 100000 in
theorem ych_115 : ych 115 = true := by decide +kernel
set_option maxRecDepth 100000 in
theorem ych_116 : ych 116 = true := by decide +kernel
set_option maxRecDepth 100000 in
theorem ych_117 : ych 117 = true := by decide +kernel
set_option maxRecDepth 100000 in
theorem ych_118 : ych 118 = true := by decide +kernel
set_option maxRecDepth 100000 in
theorem ych_120 : ych 120 = true := by decide +kernel
set_option maxRecDepth 100000 in
theorem ych_121 : ych 121 = true := by decide +kernel
set_option maxRecDepth 100000 in
theorem ych_122 : ych 122 = true := by decide +kernel
set_option maxRecDepth 100000 in
theorem ych_123 : ych 123 = true := by decide +kernel
set_option maxRecDepth 100000 in
theorem ych_124 : ych 124 = true := by decide +kernel
set_option maxRecDepth 100000 in
theorem ych_125 : ych 125 = true := by decide +kernel
set_option maxRecDepth 100000 in
theorem ych_126 : ych 126 = true := by decide +kernel
set_option maxRecDepth 100000 in
theorem ych_127 : ych 127 = true := by decide +kernel
set_option maxRecDepth 100000 in
theorem ych_128 : ych 128 = true := by decide +kernel
set_option maxRecDepth 100000 in
theorem ych_129 : ych 129 = true := by decide +kernel
set_option maxRecDepth 100000 in
theorem ych_130 : ych 130 = true := by decide +kernel
set_option maxRecDepth 100000 in
theorem ych_131 : ych 131 = true := by decide +kernel
set_option maxRecDepth 100000 in
theorem ych_132 : ych 132 = true := by decide +kernel
set_option maxRecDepth 100000 in
theorem ych_133 : ych 133 = true := by decide +kernel
set_option maxRecDepth 100000 in
theorem ych_134 : ych 134 = true := by decide +kernel
set_option maxRecDepth 100000 in
theorem ych_135 : ych 135 = true := by decide +kernel
set_option maxRecDepth 100000 in
theorem ych_136 : ych 136 = true := by decide +kernel
set_option maxRecDepth 100000 in
theorem ych_138 : ych 138 = true := by decide +kernel
set_option maxRecDepth 100000 in
theorem ych_140 : ych 140 = true := by decide +kernel
set_option maxRecDepth 100000 in
theorem ych_141 : ych 141 = true := by decide +kernel
set_option maxRecDepth 100000 in
theorem ych_142 : ych 142 = true := by decide +kernel
set_option maxRecDepth 100000 in
theorem ych_143 : ych 143 = true := by decide +kernel
set_option maxRecDepth 100000 in
theorem ych_144 : ych 144 = true := by decide +kernel
set_option maxRecDepth 100000 in
theorem ych_145 : ych 145 = true := by decide +kernel
set_option maxRecDepth 100000 in
theorem ych_146 : ych 146 = true := by decide +kernel
set_option maxRecDepth 100000 in
theorem ych_147 : ych 147 = true := by decide +kernel
set_option maxRecDepth 100000 in
theorem ych_148 : ych 148 = true := by decide +kernel
set_option maxRecDepth 100000 in
theorem ych_149 : ych 149 = true := by decide +kernel
set_option maxRecDepth 100000 in
theorem ych_150 : ych 150 = true := by decide +kernel
set_option maxRecDepth 100000 in
theorem ych_152 : ych 152 = true := by decide +kernel
set_option maxRecDepth 100000 in
theorem ych_153 : ych 153 = true := by decide +kernel
set_option maxRecDepth 100000 in
theorem ych_154 : ych 154 = true := by decide +kernel
set_option maxRecDepth 100000 in
theorem ych_155 : ych 155 = true := by decide +kernel
set_option maxRecDepth 100000 in
theorem ych_156 : ych 156 = true := by decide +kernel
set_option maxRecDepth 100000 in
theorem ych_157 : ych 157 = true := by decide +kernel
set_option maxRecDepth 100000 in
theorem ych_158 : ych 158 = true := by decide +kernel
set_option maxRecDepth 100000 in
theorem ych_159 : ych 159 = true := by decide +kernel
set_option maxRecDepth 100000 in
theorem ych_160 : ych 160 = true := by decide +kernel
set_option maxRecDepth 100000 in
theorem ych_161 : ych 161 = true := by decide +kernel
set_option maxRecDepth 100000 in
theorem ych_162 : ych 162 = true := by decide +kernel
set_option maxRecDepth 100000 in
theorem ych_163 : ych 163 = true := by decide +kernel
set_option maxRecDepth 100000 in
theorem ych_164 : ych 164 = true := by decide +kernel
set_option maxRecDepth 100000 in
theorem ych_165 : ych 165 = true := by decide +kernel
