/-! certificates, checked -/
noncomputable def ych (i : Nat) : Bool := achI xh2 ytyt ytyp (wHK yfam ytyt ytyp) (wHS yfam ytyt yfids ytAT yAT) (wHA yfam ytyt yAT) (wHH yfam ytyt yAT yfids) (wHW yfam ytyt ytAT yAT) xcode xmeth (xel 0) xeb yinl yfl yspl ycand yINS 6000 i
noncomputable def yck (q : Nat × List apat) : Bool := q.2.all (fun P => arnI xh2 ytyt ytyp (wHK yfam ytyt ytyp) (wHS yfam ytyt yfids ytAT yAT) (wHA yfam ytyt yAT) (wHH yfam ytyt yAT yfids) (wHW yfam ytyt ytAT yAT) xcode xmeth (xel 0) xeb yinl yfl yspl ycand yINS 6000 298 yLAW P (some P.2.2.2.2.2.2.2) q.1)
set_option maxRecDepth 100000 in
theorem ych_pot : achP xh2 ytyt ytyp (wHK yfam ytyt ytyp) (wHS yfam ytyt yfids ytAT yAT) (wHA yfam ytyt yAT) (wHH yfam ytyt yAT yfids) (wHW yfam ytyt ytAT yAT) xcode xmeth (xel 0) xeb yinl yfl yspl ycand yINS 6000 2 267 80 yI_282 yC_282_2_0 = true := by decide +kernel
set_option maxRecDepth 100000 in
theorem ych_law : awfI yLAW = true := by decide +kernel
set_option maxRecDepth 100000 in
theorem ych_0 : ych 0 = true := by decide +kernel
set_option maxRecDepth 100000 in
theorem ych_1 : ych 1 = true := by decide +kernel
set_option maxRecDepth 100000 in
theorem ych_2 : ych 2 = true := by decide +kernel
set_option maxRecDepth 100000 in
theorem ych_3 : ych 3 = true := by decide +kernel
set_option maxRecDepth 100000 in
theorem ych_4 : ych 4 = true := by decide +kernel
set_option maxRecDepth 100000 in
theorem ych_5 : ych 5 = true := by decide +kernel
set_option maxRecDepth 100000 in
theorem ych_6 : ych 6 = true := by decide +kernel
set_option maxRecDepth 100000 in
theorem ych_7 : ych 7 = true := by decide +kernel
set_option maxRecDepth 100000 in
theorem ych_8 : ych 8 = true := by decide +kernel
set_option maxRecDepth 100000 in
theorem ych_9 : ych 9 = true := by decide +kernel
set_option maxRecDepth 100000 in
theorem ych_10 : ych 10 = true := by decide +kernel
set_option maxRecDepth 100000 in
theorem ych_11 : ych 11 = true := by decide +kernel
set_option maxRecDepth 100000 in
theorem ych_12 : ych 12 = true := by decide +kernel
set_option maxRecDepth 100000 in
theorem ych_13 : ych 13 = true := by decide +kernel
set_option maxRecDepth 100000 in
theorem ych_14 : ych 14 = true := by decide +kernel
set_option maxRecDepth 100000 in
theorem ych_15 : ych 15 = true := by decide +kernel
set_option maxRecDepth 100000 in
theorem ych_16 : ych 16 = true := by decide +kernel
set_option maxRecDepth 100000 in
theorem ych_17 : ych 17 = true := by decide +kernel
set_option maxRecDepth 100000 in
theorem ych_18 : ych 18 = true := by decide +kernel
set_option maxRecDepth 100000 in
theorem ych_19 : ych 19 = true := by decide +kernel
set_option maxRecDepth 100000 in
theorem ych_20 : ych 20 = true := by decide +kernel
set_option maxRecDepth 100000 in
theorem ych_21 : ych 21 = true := by decide +kernel
set_option maxRecDepth 100000 in
theorem ych_22 : ych 22 = true := by decide +kernel
set_option maxRecDepth 100000 in
theorem ych_23 : ych 23 = true := by decide +kernel
set_option maxRecDepth 100000 in
theorem ych_24 : ych 24 = true := by decide +kernel
set_option maxRecDepth 100000 in
theorem ych_25 : ych 25 = true := by decide +kernel
set_option maxRecDepth 100000 in
theorem ych_26 : ych 26 = true := by decide +kernel
set_option maxRecDepth 100000 in
theorem ych_27 : ych 27 = true := by decide +kernel
set_option maxRecDepth 100000 in
theorem ych_28 : ych 28 = true := by decide +kernel
set_option maxRecDepth 100000 in
theorem ych_29 : ych 29 = true := by decide +kernel
set_option maxRecDepth 100000 in
theorem ych_30 : ych 30 = true := by decide +kernel
set_option maxRecDepth 100000 in
theorem ych_31 : ych 31 = true := by decide +kernel
set_option maxRecDepth 100000 in
theorem ych_32 : ych 32 = true := by decide +kernel
set_option maxRecDepth 100000 in
theorem ych_33 : ych 33 = true := by decide +kernel
set_option maxRecDepth 100000 in
theorem ych_34 : ych 34 = true := by decide +kernel
set_option maxRecDepth 100000 in
theorem ych_35 : ych 35 = true := by decide +kernel
set_option maxRecDepth 100000 in
theorem ych_36 : ych 36 = true := by decide +kernel
set_option maxRecDepth 100000 in
theorem ych_37 : ych 37 = true := by decide +kernel
set_option maxRecDepth 100000 in
theorem ych_38 : ych 38 = true := by decide +kernel
set_option maxRecDepth 100000 in
theorem ych_39 : ych 39 = true := by decide +kernel
set_option maxRecDepth 100000 in
theorem ych_40 : ych 40 = true := by decide +kernel
set_option maxRecDepth 100000 in
theorem ych_41 : ych 41 = true := by decide +kernel
set_option maxRecDepth 100000 in
theorem ych_42 : ych 42 = true := by decide +kernel
set_option maxRecDepth 100000 in
theorem ych_43 : ych 43 = true := by decide +kernel
set_option maxRecDepth 100000 in
theorem ych_44 : ych 44 = true := by decide +kernel
set_option maxRecDepth 100000 in
theorem ych_45 : ych 45 = true := by decide +kernel
set_option maxRecDepth 100000 in
theorem ych_46 : ych 46 = true := by decide +kernel
set_option maxRecDepth 100000 in
theorem ych_47 : ych 47 = true := by decide +kernel
set_option maxRecDepth 100000 in
theorem ych_48 : ych 48 = true := by decide +kernel
set_option maxRecDepth 100000 in
theorem ych_49 : ych 49 = true := by decide +kernel
set_option maxRecDepth 100000 in
theorem ych_50 : ych 50 = true := by decide +kernel
set_option maxRecDepth 100000 in
theorem ych_51 : ych 51 = true := by decide +kernel
set_option maxRecDepth 100000 in
theorem ych_52 : ych 52 = true := by decide +kernel
set_option maxRecDepth 100000 in
theorem ych_53 : ych 53 = true := by decide +kernel
set_option maxRecDepth 100000 in
theorem ych_54 : ych 54 = true := by decide +kernel
set_option maxRecDepth 100000 in
theorem ych_55 : ych 55 = true := by decide +kernel
set_option maxRecDepth 100000 in
theorem ych_56 : ych 56 = true := by decide +kernel
set_option maxRecDepth 100000 in
theorem ych_57 : ych 57 = true := by decide +kernel
set_option maxRecDepth 100000 in
theorem ych_58 : ych 58 = true := by decide +kernel
set_option maxRecDepth 100000 in
theorem ych_59 : ych 59 = true := by decide +kernel
set_option maxRecDepth 100000 in
theorem ych_60 : ych 60 = true := by decide +kernel
set_option maxRecDepth 100000 in
theorem ych_61 : ych 61 = true := by decide +kernel
set_option maxRecDepth 100000 in
theorem ych_62 : ych 62 = true := by decide +kernel
set_option maxRecDepth 100000 in
theorem ych_63 : ych 63 = true := by decide +kernel
set_option maxRecDepth 100000 in
theorem ych_64 : ych 64 = true := by decide +kernel
set_option maxRecDepth 100000 in
theorem ych_65 : ych 65 = true := by decide +kernel
set_option maxRecDepth 100000 in
theorem ych_66 : ych 66 = true := by decide +kernel
set_option maxRecDepth 100000 in
theorem ych_67 : ych 67 = true := by decide +kernel
set_option maxRecDepth 100000 in
theorem ych_68 : ych 68 = true := by decide +kernel
set_option maxRecDepth 100000 in
theorem ych_69 : ych 69 = true := by decide +kernel
set_option maxRecDepth 100000 in
theorem ych_70 : ych 70 = true := by decide +kernel
set_option maxRecDepth 100000 in
theorem ych_71 : ych 71 = true := by decide +kernel
set_option maxRecDepth 100000 in
theorem ych_72 : ych 72 = true := by decide +kernel
set_option maxRecDepth 100000 in
theorem ych_73 : ych 73 = true := by decide +kernel
set_option maxRecDepth 100000 in
theorem ych_74 : ych 74 = true := by decide +kernel
set_option maxRecDepth 100000 in
theorem ych_75 : ych 75 = true := by decide +kernel
set_option maxRecDepth 100000 in
theorem ych_76 : ych 76 = true := by decide +kernel
set_option maxRecDepth 100000 in
theorem ych_77 : ych 77 = true := by decide +kernel
set_option maxRecDepth 100000 in
theorem ych_78 : ych 78 = true := by decide +kernel
set_option maxRecDepth 100000 in
theorem ych_79 : ych 79 = true := by decide +kernel
set_option maxRecDepth 100000 in
theorem ych_80 : ych 80 = true := by decide +kernel
set_option maxRecDepth 100000 in
theorem ych_81 : ych 81 = true := by decide +kernel
set_option maxRecDepth 100000 in
theorem ych_82 : ych 82 = true := by decide +kernel
set_option maxRecDepth 100000 in
theorem ych_83 : ych 83 = true := by decide +kernel
set_option maxRecDepth 100000 in
theorem ych_84 : ych 84 = true := by decide +kernel
set_option maxRecDepth 100000 in
theorem ych_85 : ych 85 = true := by decide +kernel
set_option maxRecDepth 100000 in
theorem ych_86 : ych 86 = true := by decide +kernel
set_option maxRecDepth 100000 in
theorem ych_87 : ych 87 = true := by decide +kernel
set_option maxRecDepth 100000 in
theorem ych_88 : ych 88 = true := by decide +kernel
set_option maxRecDepth 100000 in
theorem ych_89 : ych 89 = true := by decide +kernel
set_option maxRecDepth 100000 in
theorem ych_90 : ych 90 = true := by decide +kernel
set_option maxRecDepth 100000 in
theorem ych_91 : ych 91 = true := by decide +kernel
set_option maxRecDepth 100000 in
theorem ych_92 : ych 92 = true := by decide +kernel
set_option maxRecDepth 100000 in
theorem ych_93 : ych 93 = true := by decide +kernel
set_option maxRecDepth 100000 in
theorem ych_94 : ych 94 = true := by decide +kernel
set_option maxRecDepth 100000 in
theorem ych_95 : ych 95 = true := by decide +kernel
set_option maxRecDepth 100000 in
theorem ych_96 : ych 96 = true := by decide +kernel
set_option maxRecDepth 100000 in
theorem ych_97 : ych 97 = true := by decide +kernel
set_option maxRecDepth 100000 in
theorem ych_98 : ych 98 = true := by decide +kernel
set_option maxRecDepth 100000 in
theorem ych_99 : ych 99 = true := by decide +kernel
set_option maxRecDepth 100000 in
theorem ych_100 : ych 100 = true := by decide +kernel
set_option maxRecDepth 100000 in
theorem ych_101 : ych 101 = true := by decide +kernel
set_option maxRecDepth 100000 in
theorem ych_102 : ych 102 = true := by decide +kernel
set_option maxRecDepth 100000 in
theorem ych_103 : ych 103 = true := by decide +kernel
set_option maxRecDepth 100000 in
theorem ych_104 : ych 104 = true := by decide +kernel
set_option maxRecDepth 100000 in
theorem ych_105 : ych 105 = true := by decide +kernel
set_option maxRecDepth 100000 in
theorem ych_106 : ych 106 = true := by decide +kernel
set_option maxRecDepth 100000 in
theorem ych_107 : ych 107 = true := by decide +kernel
set_option maxRecDepth 100000 in
theorem ych_108 : ych 108 = true := by decide +kernel
set_option maxRecDepth 100000 in
theorem ych_109 : ych 109 = true := by decide +kernel
set_option maxRecDepth 100000 in
theorem ych_110 : ych 110 = true := by decide +kernel
set_option maxRecDepth 100000 in
theorem ych_111 : ych 111 = true := by decide +kernel
set_option maxRecDepth 100000 in
theorem ych_112 : ych 112 = true := by decide +kernel
set_option maxRecDepth 100000 in
theorem ych_113 : ych 113 = true := by decide +kernel
set_option maxRecDepth 100000 in
theorem ych_114 : ych 114 = true := by decide +kernel
set_option maxRecDepth 100000 in
theorem ych_115 : ych 115 = true := by decide +kernel
set_option maxRecDepth 100000 in
theorem ych_116 : ych 116 = true := by decide +kernel
set_option maxRecDepth 100000 in
theorem ych_117 : ych 117 = true := by decide +kernel
set_option maxRecDepth 100000 in
theorem ych_118 : ych 118 = true := by decide +kernel
set_option maxRecDepth 100000 in
theorem ych_119 : ych 119 = true := by decide +kernel
set_option maxRecDepth 100000 in
theorem ych_120 : ych 120 = true := by decide +kernel
set_option maxRecDepth 100000 in
theorem ych_121 : ych 121 = true := by decide +kernel
set_option maxRecDepth 100000 in
theorem ych_122 : ych 122 = true := by decide +kernel
set_option maxRecDepth 100000 in
theorem ych_123 : ych 123 = true := by decide +kernel
set_option maxRecDepth 100000 in
theorem ych_124 : ych 124 = true := by decide +kernel
set_option maxRecDepth 100000 in
theorem ych_125 : ych 125 = true := by decide +kernel
set_option maxRecDepth 100000 in
theorem ych_127 : ych 127 = true := by decide +kernel
set_option maxRecDepth 100000 in
theorem ych_128 : ych 128 = true := by decide +kernel
set_option maxRecDepth 100000 in
theorem ych_129 : ych 129 = true := by decide +kernel
set_option maxRecDepth 100000 in
theorem ych_130 : ych 130 = true := by decide +kernel
set_option maxRecDepth 100000 in
theorem ych_131 : ych 131 = true := by decide +kernel
set_option maxRecDepth 100000 in
theorem ych_133 : ych 133 = true := by decide +kernel
set_option maxRecDepth 100000 in
theorem ych_135 : ych 135 = true := by decide +kernel
set_option maxRecDepth 100000 in
theorem ych_136 : ych 136 = true := by decide +kernel
set_option maxRecDepth 100000 in
theorem ych_137 : ych 137 = true := by decide +kernel
set_option maxRecDepth 100000 in
theorem ych_138 : ych 138 = true := by decide +kernel
set_option maxRecDepth 100000 in
theorem ych_139 : ych 139 = true := by decide +kernel
set_option maxRecDepth 100000 in
theorem ych_140 : ych 140 = true := by decide +kernel
set_option maxRecDepth 100000 in
theorem ych_141 : ych 141 = true := by decide +kernel
set_option maxRecDepth 100000 in
theorem ych_142 : ych 142 = true := by decide +kernel
set_option maxRecDepth 100000 in
theorem ych_143 : ych 143 = true := by decide +kernel
set_option maxRecDepth 100000 in
theorem ych_145 : ych 145 = true := by decide +kernel
set_option maxRecDepth 100000 in
theorem ych_146 : ych 146 = true := by decide +kernel
set_option maxRecDepth 100000 in
theorem ych_148 : ych 148 = true := by decide +kernel
set_option maxRecDepth 100000 in
theorem ych_149 : ych 149 = true := by decide +kernel
set_option maxRecDepth 100000 in
theorem ych_150 : ych 150 = true := by decide +kernel
set_option maxRecDepth 100000 in
theorem ych_151 : ych 151 = true := by decide +kernel
set_option maxRecDepth 100000 in
theorem ych_152 : ych 152 = true := by decide +kernel
set_option maxRecDepth 100000 in
theorem ych_153 : ych 153 = true := by decide +kernel
set_option maxRecDepth 100000 in
theorem ych_154 : ych 154 = true := by decide +kernel
set_option maxRecDepth 100000 in
theorem ych_155 : ych 155 = true := by decide +kernel
set_option maxRecDepth 100000 in
theorem ych_156 : ych 156 = true := by decide +kernel
set_option maxRecDepth 100000 in
theorem ych_157 : ych 157 = true := by decide +kernel
set_option maxRecDepth 100000 in
theorem ych_158 : ych 158 = true := by decide +kernel
set_option maxRecDepth 100000 in
theorem ych_159 : ych 159 = true := by decide +kernel
