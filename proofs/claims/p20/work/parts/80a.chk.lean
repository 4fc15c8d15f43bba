/-! certificates, checked -/
noncomputable def ych (i : Nat) : Bool := achI xh2 ytyt ytyp (jHK (gHK yfam)) (jHS ytyt ydep (gHS yfam yfids ytAT yAT)) (jHA ytyt ydep (gHA yfam yAT)) (jHH ytAT yAT (gHH yfam yAT yfids)) (jHW ytyt ydep (gHW yfam ytyt ytAT yAT)) xcode xmeth (xel 0) xeb yinl yfl yspl ycand yINS 6000 i
noncomputable def yck (q : Nat × List apat) : Bool := q.2.all (fun P => arnI xh2 ytyt ytyp (jHK (gHK yfam)) (jHS ytyt ydep (gHS yfam yfids ytAT yAT)) (jHA ytyt ydep (gHA yfam yAT)) (jHH ytAT yAT (gHH yfam yAT yfids)) (jHW ytyt ydep (gHW yfam ytyt ytAT yAT)) xcode xmeth (xel 0) xeb yinl yfl yspl ycand yINS 6000 234 yLAW P (some P.2.2.2.2.2.2.2) q.1)
set_option maxRecDepth 100000 in
theorem ych_pot : achP xh2 ytyt ytyp (jHK (gHK yfam)) (jHS ytyt ydep (gHS yfam yfids ytAT yAT)) (jHA ytyt ydep (gHA yfam yAT)) (jHH ytAT yAT (gHH yfam yAT yfids)) (jHW ytyt ydep (gHW yfam ytyt ytAT yAT)) xcode xmeth (xel 0) xeb yinl yfl yspl ycand yINS 6000 2 267 80 yI_217 yC_217_2_0 = true := by decide +kernel
set_option maxRecDepth 100000 in
theorem ych_law : awfI yLAW = true := by decide +kernel
set_option maxRecDepth 100000 in
theorem ych_0 : ych 0 = true := by decide +kernel
set_option maxRecDepth 100000 in
theorem ych_1 : ych 1 = true := by decide +kernel
set_option maxRecDepth 100000 in
theorem ych_2 : ych 2 = true := by decide +kernel
set_option maxRecDepth 100000 in
theorem ych_3 : ych 3 = true := by decide +kernel
set_option maxRecDepth 100000 in
theorem ych_4 : ych 4 = true := by decide +kernel
set_option maxRecDepth 100000 in
theorem ych_5 : ych 5 = true := by decide +kernel
set_option maxRecDepth 100000 in
theorem ych_6 : ych 6 = true := by decide +kernel
set_option maxRecDepth 100000 in
theorem ych_7 : ych 7 = true := by decide +kernel
set_option maxRecDepth 100000 in
theorem ych_8 : ych 8 = true := by decide +kernel
set_option maxRecDepth 100000 in
theorem ych_9 : ych 9 = true := by decide +kernel
set_option maxRecDepth 100000 in
theorem ych_10 : ych 10 = true := by decide +kernel
set_option maxRecDepth 100000 in
theorem ych_11 : ych 11 = true := by decide +kernel
set_option maxRecDepth 100000 in
theorem ych_12 : ych 12 = true := by decide +kernel
set_option maxRecDepth 100000 in
theorem ych_13 : ych 13 = true := by decide +kernel
set_option maxRecDepth 100000 in
theorem ych_15 : ych 15 = true := by decide +kernel
set_option maxRecDepth 100000 in
theorem ych_16 : ych 16 = true := by decide +kernel
set_option maxRecDepth 100000 in
theorem ych_17 : ych 17 = true := by decide +kernel
set_option maxRecDepth 100000 in
theorem ych_19 : ych 19 = true := by decide +kernel
set_option maxRecDepth 100000 in
theorem ych_20 : ych 20 = true := by decide +kernel
set_option maxRecDepth 100000 in
theorem ych_21 : ych 21 = true := by decide +kernel
set_option maxRecDepth 100000 in
theorem ych_22 : ych 22 = true := by decide +kernel
set_option maxRecDepth 100000 in
theorem ych_23 : ych 23 = true := by decide +kernel
set_option maxRecDepth 100000 in
theorem ych_24 : ych 24 = true := by decide +kernel
set_option maxRecDepth 100000 in
theorem ych_25 : ych 25 = true := by decide +kernel
set_option maxRecDepth 100000 in
theorem ych_26 : ych 26 = true := by decide +kernel
set_option maxRecDepth 100000 in
theorem ych_27 : ych 27 = true := by decide +kernel
set_option maxRecDepth 100000 in
theorem ych_28 : ych 28 = true := by decide +kernel
set_option maxRecDepth 100000 in
theorem ych_29 : ych 29 = true := by decide +kernel
set_option maxRecDepth 100000 in
theorem ych_30 : ych 30 = true := by decide +kernel
set_option maxRecDepth 100000 in
theorem ych_31 : ych 31 = true := by decide +kernel
set_option maxRecDepth 100000 in
theorem ych_32 : ych 32 = true := by decide +kernel
set_option maxRecDepth 100000 in
theorem ych_33 : ych 33 = true := by decide +kernel
set_option maxRecDepth 100000 in
theorem ych_34 : ych 34 = true := by decide +kernel
set_option maxRecDepth 100000 in
theorem ych_35 : ych 35 = true := by decide +kernel
set_option maxRecDepth 100000 in
theorem ych_36 : ych 36 = true := by decide +kernel
set_option maxRecDepth 100000 in
theorem ych_37 : ych 37 = true := by decide +kernel
set_option maxRecDepth 100000 in
theorem ych_38 : ych 38 = true := by decide +kernel
set_option maxRecDepth 100000 in
theorem ych_39 : ych 39 = true := by decide +kernel
set_option maxRecDepth 100000 in
theorem ych_40 : ych 40 = true := by decide +kernel
set_option maxRecDepth 100000 in
theorem ych_41 : ych 41 = true := by decide +kernel
set_option maxRecDepth 100000 in
theorem ych_42 : ych 42 = true := by decide +kernel
set_option maxRecDepth 100000 in
theorem ych_43 : ych 43 = true := by decide +kernel
set_option maxRecDepth 100000 in
theorem ych_44 : ych 44 = true := by decide +kernel
set_option maxRecDepth 100000 in
theorem ych_45 : ych 45 = true := by decide +kernel
set_option maxRecDepth 100000 in
theorem ych_46 : ych 46 = true := by decide +kernel
set_option maxRecDepth 100000 in
theorem ych_47 : ych 47 = true := by decide +kernel
set_option maxRecDepth 100000 in
theorem ych_48 : ych 48 = true := by decide +kernel
set_option maxRecDepth 100000 in
theorem ych_49 : ych 49 = true := by decide +kernel
set_option maxRecDepth 100000 in
theorem ych_50 : ych 50 = true := by decide +kernel
set_option maxRecDepth 100000 in
theorem ych_51 : ych 51 = true := by decide +kernel
set_option maxRecDepth 100000 in
theorem ych_52 : ych 52 = true := by decide +kernel
set_option maxRecDepth 100000 in
theorem ych_53 : ych 53 = true := by decide +kernel
set_option maxRecDepth 100000 in
theorem ych_54 : ych 54 = true := by decide +kernel
set_option maxRecDepth 100000 in
theorem ych_55 : ych 55 = true := by decide +kernel
set_option maxRecDepth 100000 in
theorem ych_56 : ych 56 = true := by decide +kernel
set_option maxRecDepth 100000 in
theorem ych_57 : ych 57 = true := by decide +kernel
set_option maxRecDepth 100000 in
theorem ych_58 : ych 58 = true := by decide +kernel
set_option maxRecDepth 100000 in
theorem ych_59 : ych 59 = true := by decide +kernel
set_option maxRecDepth 100000 in
theorem ych_60 : ych 60 = true := by decide +kernel
set_option maxRecDepth 100000 in
theorem ych_61 : ych 61 = true := by decide +kernel
set_option maxRecDepth 100000 in
theorem ych_62 : ych 62 = true := by decide +kernel
set_option maxRecDepth 100000 in
theorem ych_63 : ych 63 = true := by decide +kernel
set_option maxRecDepth 100000 in
theorem ych_64 : ych 64 = true := by decide +kernel
set_option maxRecDepth 100000 in
theorem ych_65 : ych 65 = true := by decide +kernel
set_option maxRecDepth 100000 in
theorem ych_66 : ych 66 = true := by decide +kernel
set_option maxRecDepth 100000 in
theorem ych_67 : ych 67 = true := by decide +kernel
set_option maxRecDepth 100000 in
theorem ych_68 : ych 68 = true := by decide +kernel
set_option maxRecDepth 100000 in
theorem ych_69 : ych 69 = true := by decide +kernel
set_option maxRecDepth 100000 in
theorem ych_70 : ych 70 = true := by decide +kernel
set_option maxRecDepth 100000 in
theorem ych_71 : ych 71 = true := by decide +kernel
set_option maxRecDepth 100000 in
theorem ych_72 : ych 72 = true := by decide +kernel
set_option maxRecDepth 100000 in
theorem ych_73 : ych 73 = true := by decide +kernel
set_option maxRecDepth 100000 in
theorem ych_74 : ych 74 = true := by decide +kernel
set_option maxRecDepth 100000 in
theorem ych_75 : ych 75 = true := by decide +kernel
set_option maxRecDepth 100000 in
theorem ych_76 : ych 76 = true := by decide +kernel
set_option maxRecDepth 100000 in
theorem ych_77 : ych 77 = true := by decide +kernel
set_option maxRecDepth 100000 in
theorem ych_78 : ych 78 = true := by decide +kernel
set_option maxRecDepth 100000 in
theorem ych_79 : ych 79 = true := by decide +kernel
set_option maxRecDepth 100000 in
theorem ych_80 : ych 80 = true := by decide +kernel
set_option maxRecDepth 100000 in
theorem ych_81 : ych 81 = true := by decide +kernel
set_option maxRecDepth 100000 in
theorem ych_82 : ych 82 = true := by decide +kernel
set_option maxRecDepth 100000 in
theorem ych_83 : ych 83 = true := by decide +kernel
set_option maxRecDepth 100000 in
theorem ych_84 : ych 84 = true := by decide +kernel
set_option maxRecDepth 100000 in
theorem ych_85 : ych 85 = true := by decide +kernel
