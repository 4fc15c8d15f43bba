/-! The methods' code among the words: printed by program -/
theorem xin_1 (w : Cond) (h : w ∈ tables_1_1) : w ∈ lw_tbl := List.mem_append_right _ (List.mem_append_left _ h)
theorem xin_2 (w : Cond) (h : w ∈ tables_1_2) : w ∈ lw_tbl := List.mem_append_right _ (List.mem_append_right _ (List.mem_append_left _ h))
theorem xin_3 (w : Cond) (h : w ∈ tables_1_3) : w ∈ lw_tbl := List.mem_append_right _ (List.mem_append_right _ (List.mem_append_right _ (List.mem_append_left _ h)))
theorem xin_4 (w : Cond) (h : w ∈ tables_1_4) : w ∈ lw_tbl := List.mem_append_right _ (List.mem_append_right _ (List.mem_append_right _ (List.mem_append_right _ (List.mem_append_left _ h))))
theorem xin_5 (w : Cond) (h : w ∈ tables_1_5) : w ∈ lw_tbl := List.mem_append_right _ (List.mem_append_right _ (List.mem_append_right _ (List.mem_append_right _ (List.mem_append_right _ (List.mem_append_left _ h)))))
theorem xin_6 (w : Cond) (h : w ∈ tables_1_6) : w ∈ lw_tbl := List.mem_append_right _ (List.mem_append_right _ (List.mem_append_right _ (List.mem_append_right _ (List.mem_append_right _ (List.mem_append_right _ (List.mem_append_left _ h))))))
theorem xin_7 (w : Cond) (h : w ∈ tables_1_7) : w ∈ lw_tbl := List.mem_append_right _ (List.mem_append_right _ (List.mem_append_right _ (List.mem_append_right _ (List.mem_append_right _ (List.mem_append_right _ (List.mem_append_right _ (List.mem_append_left _ h)))))))
theorem xin_8 (w : Cond) (h : w ∈ tables_1_8) : w ∈ lw_tbl := List.mem_append_right _ (List.mem_append_right _ (List.mem_append_right _ (List.mem_append_right _ (List.mem_append_right _ (List.mem_append_right _ (List.mem_append_right _ (List.mem_append_right _ (List.mem_append_left _ h))))))))
theorem xin_9 (w : Cond) (h : w ∈ tables_1_9) : w ∈ lw_tbl := List.mem_append_right _ (List.mem_append_right _ (List.mem_append_right _ (List.mem_append_right _ (List.mem_append_right _ (List.mem_append_right _ (List.mem_append_right _ (List.mem_append_right _ (List.mem_append_right _ (List.mem_append_left _ h)))))))))
theorem xin_10 (w : Cond) (h : w ∈ tables_1_10) : w ∈ lw_tbl := List.mem_append_right _ (List.mem_append_right _ (List.mem_append_right _ (List.mem_append_right _ (List.mem_append_right _ (List.mem_append_right _ (List.mem_append_right _ (List.mem_append_right _ (List.mem_append_right _ (List.mem_append_right _ (h))))))))))
theorem xcm_1 : Cond.code ⟨"OathTill", "<init>", "()V"⟩ prog_1_method_1_code 2 (none) ∈ xgw := List.mem_filter.mpr ⟨xin_1 _ (List.mem_of_getElem? (i := 25) rfl), rfl⟩
theorem xcm_2 : Cond.code ⟨"OathTill$Court", "<init>", "()V"⟩ prog_2_method_1_code 2 (none) ∈ xgw := List.mem_filter.mpr ⟨xin_1 _ (List.mem_of_getElem? (i := 35) rfl), rfl⟩
theorem xcm_3 : Cond.code ⟨"OathTill$Trials", "<init>", "()V"⟩ prog_11_method_1_code 1 (none) ∈ xgw := List.mem_filter.mpr ⟨xin_1 _ (List.mem_of_getElem? (i := 45) rfl), rfl⟩
theorem xcm_4 : Cond.code ⟨"OathTill$Person", "<init>", "()V"⟩ prog_4_method_1_code 1 (none) ∈ xgw := List.mem_filter.mpr ⟨xin_1 _ (List.mem_of_getElem? (i := 109) rfl), rfl⟩
theorem xcm_5 : Cond.code ⟨"OathTill$Oath", "<init>", "()V"⟩ prog_3_method_1_code 1 (none) ∈ xgw := List.mem_filter.mpr ⟨xin_1 _ (List.mem_of_getElem? (i := 159) rfl), rfl⟩
theorem xcm_6 : Cond.code ⟨"OathTill$Text", "<init>", "([B)V"⟩ prog_9_method_1_code 7 (none) ∈ xgw := List.mem_filter.mpr ⟨xin_2 _ (List.mem_of_getElem? (i := 52) rfl), rfl⟩
theorem xcm_7 : Cond.code ⟨"java/lang/String", "length", "()I"⟩ prog_17_method_54_code 1 (some .int) ∈ xgw := List.mem_filter.mpr ⟨xin_2 _ (List.mem_of_getElem? (i := 58) rfl), rfl⟩
theorem xcm_8 : Cond.code ⟨"java/lang/String", "coder", "()B"⟩ prog_17_method_152_code 1 (some .byte) ∈ xgw := List.mem_filter.mpr ⟨xin_2 _ (List.mem_of_getElem? (i := 62) rfl), rfl⟩
theorem xcm_9 : Cond.code ⟨"java/lang/String", "charAt", "(I)C"⟩ prog_17_method_56_code 2 (some .char) ∈ xgw := List.mem_filter.mpr ⟨xin_2 _ (List.mem_of_getElem? (i := 68) rfl), rfl⟩
theorem xcm_10 : Cond.code ⟨"java/lang/String", "isLatin1", "()Z"⟩ prog_17_method_154_code 1 (some .boolean) ∈ xgw := List.mem_filter.mpr ⟨xin_2 _ (List.mem_of_getElem? (i := 72) rfl), rfl⟩
theorem xcm_11 : Cond.code ⟨"java/lang/StringLatin1", "charAt", "([BI)C"⟩ prog_18_method_2_code 2 (some .char) ∈ xgw := List.mem_filter.mpr ⟨xin_2 _ (List.mem_of_getElem? (i := 75) rfl), rfl⟩
theorem xcm_12 : Cond.code ⟨"java/lang/String", "checkIndex", "(II)V"⟩ prog_17_method_155_code 2 (none) ∈ xgw := List.mem_filter.mpr ⟨xin_2 _ (List.mem_of_getElem? (i := 78) rfl), rfl⟩
theorem xcm_13 : Cond.code ⟨"jdk/internal/util/Preconditions", "checkIndex", "(IILjava/util/function/BiFunction;)I"⟩ prog_21_method_11_code 3 (some .int) ∈ xgw := List.mem_filter.mpr ⟨xin_2 _ (List.mem_of_getElem? (i := 83) rfl), rfl⟩
theorem xcm_14 : Cond.code ⟨"OathTill$Reader", "<init>", "(LOathTill$Text;LOathTill$Court;LOathTill$Court;)V"⟩ prog_6_method_1_code 4 (none) ∈ xgw := List.mem_filter.mpr ⟨xin_2 _ (List.mem_of_getElem? (i := 151) rfl), rfl⟩
theorem xcm_15 : Cond.code ⟨"OathTill$Stand", "<init>", "(LOathTill$Court;)V"⟩ prog_8_method_1_code 2 (none) ∈ xgw := List.mem_filter.mpr ⟨xin_2 _ (List.mem_of_getElem? (i := 179) rfl), rfl⟩
theorem xcm_16 : Cond.code ⟨"OathTill$Plan", "<init>", "(LOathTill$Court;LOathTill$Court;)V"⟩ prog_5_method_1_code 3 (none) ∈ xgw := List.mem_filter.mpr ⟨xin_2 _ (List.mem_of_getElem? (i := 215) rfl), rfl⟩
theorem xcm_17 : Cond.code ⟨"OathTill$Whereabouts", "<init>", "(LOathTill$Court;)V"⟩ prog_12_method_1_code 2 (none) ∈ xgw := List.mem_filter.mpr ⟨xin_3 _ (List.mem_of_getElem? (i := 24) rfl), rfl⟩
theorem xcm_18 : Cond.code ⟨"OathTill$Runner", "<init>", "(LOathTill$Court;LOathTill$Trials;)V"⟩ prog_7_method_1_code 3 (none) ∈ xgw := List.mem_filter.mpr ⟨xin_3 _ (List.mem_of_getElem? (i := 46) rfl), rfl⟩
theorem xcm_19 : Cond.code ⟨"OathTill$Tray", "<init>", "()V"⟩ prog_10_method_1_code 1 (none) ∈ xgw := List.mem_filter.mpr ⟨xin_3 _ (List.mem_of_getElem? (i := 95) rfl), rfl⟩
theorem xcm_20 : Cond.code ⟨"OathTillModel", "<init>", "()V"⟩ prog_14_method_1_code 1 (none) ∈ xgw := List.mem_filter.mpr ⟨xin_7 _ (List.mem_of_getElem? (i := 38) rfl), rfl⟩
theorem xcm_21 : Cond.code ⟨"OathTillModel", "plain", "(I)V"⟩ prog_14_method_2_code 3 (none) ∈ xgw := List.mem_filter.mpr ⟨xin_7 _ (List.mem_of_getElem? (i := 43) rfl), rfl⟩
theorem xcm_22 : Cond.code ⟨"OathTill", "isTray", "(I)Z"⟩ prog_1_method_12_code 1 (some .boolean) ∈ xgw := List.mem_filter.mpr ⟨xin_3 _ (List.mem_of_getElem? (i := 187) rfl), rfl⟩
theorem xcm_23 : Cond.code ⟨"OathTill", "within", "(III)Z"⟩ prog_1_method_9_code 3 (some .boolean) ∈ xgw := List.mem_filter.mpr ⟨xin_3 _ (List.mem_of_getElem? (i := 190) rfl), rfl⟩
theorem xcm_24 : Cond.code ⟨"OathTill$Tray", "lay", "(II)V"⟩ prog_10_method_2_code 4 (none) ∈ xgw := List.mem_filter.mpr ⟨xin_3 _ (List.mem_of_getElem? (i := 198) rfl), rfl⟩
theorem xcm_25 : Cond.code ⟨"OathTill", "agree", "()Z"⟩ prog_1_method_7_code 1 (some .boolean) ∈ xgw := List.mem_filter.mpr ⟨xin_3 _ (List.mem_of_getElem? (i := 202) rfl), rfl⟩
theorem xcm_26 : Cond.code ⟨"OathTill", "deny", "(I)Z"⟩ prog_1_method_8_code 2 (some .boolean) ∈ xgw := List.mem_filter.mpr ⟨xin_3 _ (List.mem_of_getElem? (i := 194) rfl), rfl⟩
theorem xcm_27 : Cond.code ⟨"OathTill", "placeTrouble", "(II)I"⟩ prog_1_method_14_code 3 (some .int) ∈ xgw := List.mem_filter.mpr ⟨xin_3 _ (List.mem_of_getElem? (i := 210) rfl), rfl⟩
theorem xcm_28 : Cond.code ⟨"OathTill$Tray", "put", "(IJ)V"⟩ prog_10_method_3_code 4 (none) ∈ xgw := List.mem_filter.mpr ⟨xin_3 _ (List.mem_of_getElem? (i := 214) rfl), rfl⟩
theorem xcm_29 : Cond.code ⟨"OathTill", "refuse", "(I)I"⟩ prog_1_method_6_code 2 (some .int) ∈ xgw := List.mem_filter.mpr ⟨xin_3 _ (List.mem_of_getElem? (i := 222) rfl), rfl⟩
theorem xcm_30 : Cond.code ⟨"OathTill", "pourTrouble", "(IIIII)I"⟩ prog_1_method_17_code 7 (some .int) ∈ xgw := List.mem_filter.mpr ⟨xin_3 _ (List.mem_of_getElem? (i := 230) rfl), rfl⟩
theorem xcm_31 : Cond.code ⟨"OathTill", "append", "(I)V"⟩ prog_1_method_19_code 3 (none) ∈ xgw := List.mem_filter.mpr ⟨xin_4 _ (List.mem_of_getElem? (i := 1) rfl), rfl⟩
theorem xcm_32 : Cond.code ⟨"OathTill$Reader", "takeCourt", "(I)Z"⟩ prog_6_method_2_code 3 (some .boolean) ∈ xgw := List.mem_filter.mpr ⟨xin_4 _ (List.mem_of_getElem? (i := 9) rfl), rfl⟩
theorem xcm_33 : Cond.code ⟨"OathTill$Court", "clear", "()V"⟩ prog_2_method_2_code 1 (none) ∈ xgw := List.mem_filter.mpr ⟨xin_4 _ (List.mem_of_getElem? (i := 13) rfl), rfl⟩
theorem xcm_34 : Cond.code ⟨"OathTill$Trials", "clear", "()V"⟩ prog_11_method_2_code 1 (none) ∈ xgw := List.mem_filter.mpr ⟨xin_4 _ (List.mem_of_getElem? (i := 17) rfl), rfl⟩
theorem xcm_35 : Cond.code ⟨"OathTill$Text", "begin", "(I)V"⟩ prog_9_method_2_code 2 (none) ∈ xgw := List.mem_filter.mpr ⟨xin_4 _ (List.mem_of_getElem? (i := 21) rfl), rfl⟩
theorem xcm_36 : Cond.code ⟨"java/lang/Math", "min", "(II)I"⟩ prog_16_method_69_code 2 (some .int) ∈ xgw := List.mem_filter.mpr ⟨xin_4 _ (List.mem_of_getElem? (i := 24) rfl), rfl⟩
theorem xcm_37 : Cond.code ⟨"OathTill$Text", "advance", "()V"⟩ prog_9_method_3_code 2 (none) ∈ xgw := List.mem_filter.mpr ⟨xin_4 _ (List.mem_of_getElem? (i := 28) rfl), rfl⟩
theorem xcm_38 : Cond.code ⟨"OathTill$Reader", "takePart", "()Z"⟩ prog_6_method_3_code 1 (some .boolean) ∈ xgw := List.mem_filter.mpr ⟨xin_4 _ (List.mem_of_getElem? (i := 32) rfl), rfl⟩
theorem xcm_39 : Cond.code ⟨"OathTill$Text", "fail", "(I)Z"⟩ prog_9_method_4_code 2 (some .boolean) ∈ xgw := List.mem_filter.mpr ⟨xin_4 _ (List.mem_of_getElem? (i := 40) rfl), rfl⟩
theorem xcm_40 : Cond.code ⟨"OathTill$Reader", "takeRate", "(II)Z"⟩ prog_6_method_11_code 4 (some .boolean) ∈ xgw := List.mem_filter.mpr ⟨xin_4 _ (List.mem_of_getElem? (i := 116) rfl), rfl⟩
theorem xcm_41 : Cond.code ⟨"OathTill$Text", "passNumber", "(II)I"⟩ prog_9_method_10_code 4 (some .int) ∈ xgw := List.mem_filter.mpr ⟨xin_4 _ (List.mem_of_getElem? (i := 62) rfl), rfl⟩
theorem xcm_42 : Cond.code ⟨"OathTill$Text", "passStop", "()Z"⟩ prog_9_method_8_code 1 (some .boolean) ∈ xgw := List.mem_filter.mpr ⟨xin_4 _ (List.mem_of_getElem? (i := 66) rfl), rfl⟩
theorem xcm_43 : Cond.code ⟨"OathTill$Reader", "takeWas", "()Z"⟩ prog_6_method_10_code 4 (some .boolean) ∈ xgw := List.mem_filter.mpr ⟨xin_4 _ (List.mem_of_getElem? (i := 107) rfl), rfl⟩
theorem xcm_44 : Cond.code ⟨"OathTill$Text", "passPerson", "(LOathTill$Court;)I"⟩ prog_9_method_11_code 3 (some .int) ∈ xgw := List.mem_filter.mpr ⟨xin_4 _ (List.mem_of_getElem? (i := 90) rfl), rfl⟩
theorem xcm_45 : Cond.code ⟨"OathTill$Court", "personNamed", "(J)I"⟩ prog_2_method_12_code 4 (some .int) ∈ xgw := List.mem_filter.mpr ⟨xin_4 _ (List.mem_of_getElem? (i := 53) rfl), rfl⟩
theorem xcm_46 : Cond.code ⟨"OathTill$Text", "pass", "(I)Z"⟩ prog_9_method_6_code 2 (some .boolean) ∈ xgw := List.mem_filter.mpr ⟨xin_4 _ (List.mem_of_getElem? (i := 57) rfl), rfl⟩
theorem xcm_47 : Cond.code ⟨"OathTill$Text", "passPlace", "(LOathTill$Court;)I"⟩ prog_9_method_12_code 3 (some .int) ∈ xgw := List.mem_filter.mpr ⟨xin_4 _ (List.mem_of_getElem? (i := 111) rfl), rfl⟩
theorem xcm_48 : Cond.code ⟨"OathTill$Court", "placeNamed", "(J)I"⟩ prog_2_method_11_code 4 (some .int) ∈ xgw := List.mem_filter.mpr ⟨xin_4 _ (List.mem_of_getElem? (i := 49) rfl), rfl⟩
theorem xcm_49 : Cond.code ⟨"OathTill$Reader", "takeKnows", "()Z"⟩ prog_6_method_9_code 4 (some .boolean) ∈ xgw := List.mem_filter.mpr ⟨xin_4 _ (List.mem_of_getElem? (i := 99) rfl), rfl⟩
theorem xcm_50 : Cond.code ⟨"OathTill$Text", "failAt", "(II)Z"⟩ prog_9_method_5_code 3 (some .boolean) ∈ xgw := List.mem_filter.mpr ⟨xin_4 _ (List.mem_of_getElem? (i := 95) rfl), rfl⟩
theorem xcm_51 : Cond.code ⟨"OathTill$Court", "befriend", "(II)V"⟩ prog_2_method_14_code 3 (none) ∈ xgw := List.mem_filter.mpr ⟨xin_4 _ (List.mem_of_getElem? (i := 103) rfl), rfl⟩
theorem xcm_52 : Cond.code ⟨"OathTill$Reader", "takeTwins", "()Z"⟩ prog_6_method_8_code 4 (some .boolean) ∈ xgw := List.mem_filter.mpr ⟨xin_4 _ (List.mem_of_getElem? (i := 82) rfl), rfl⟩
theorem xcm_53 : Cond.code ⟨"OathTill$Reader", "passUntwinned", "()I"⟩ prog_6_method_7_code 3 (some .int) ∈ xgw := List.mem_filter.mpr ⟨xin_4 _ (List.mem_of_getElem? (i := 86) rfl), rfl⟩
theorem xcm_54 : Cond.code ⟨"OathTill$Reader", "takePerson", "()Z"⟩ prog_6_method_6_code 2 (some .boolean) ∈ xgw := List.mem_filter.mpr ⟨xin_4 _ (List.mem_of_getElem? (i := 70) rfl), rfl⟩
theorem xcm_55 : Cond.code ⟨"OathTill$Reader", "isNewName", "()Z"⟩ prog_6_method_4_code 1 (some .boolean) ∈ xgw := List.mem_filter.mpr ⟨xin_4 _ (List.mem_of_getElem? (i := 45) rfl), rfl⟩
theorem xcm_56 : Cond.code ⟨"OathTill$Person", "begin", "(J)V"⟩ prog_4_method_2_code 4 (none) ∈ xgw := List.mem_filter.mpr ⟨xin_4 _ (List.mem_of_getElem? (i := 74) rfl), rfl⟩
theorem xcm_57 : Cond.code ⟨"OathTill$Text", "passIfThere", "(I)Z"⟩ prog_9_method_7_code 2 (some .boolean) ∈ xgw := List.mem_filter.mpr ⟨xin_4 _ (List.mem_of_getElem? (i := 78) rfl), rfl⟩
theorem xcm_58 : Cond.code ⟨"OathTill$Reader", "takePlace", "()Z"⟩ prog_6_method_5_code 2 (some .boolean) ∈ xgw := List.mem_filter.mpr ⟨xin_4 _ (List.mem_of_getElem? (i := 36) rfl), rfl⟩
theorem xcm_59 : Cond.code ⟨"OathTill$Court", "copyAll", "(LOathTill$Court;)V"⟩ prog_2_method_3_code 2 (none) ∈ xgw := List.mem_filter.mpr ⟨xin_4 _ (List.mem_of_getElem? (i := 120) rfl), rfl⟩
theorem xcm_60 : Cond.code ⟨"OathTill$Court", "copyCase", "(LOathTill$Court;)V"⟩ prog_2_method_4_code 3 (none) ∈ xgw := List.mem_filter.mpr ⟨xin_4 _ (List.mem_of_getElem? (i := 124) rfl), rfl⟩
theorem xcm_61 : Cond.code ⟨"OathTill$Person", "copy", "(LOathTill$Person;)V"⟩ prog_4_method_3_code 2 (none) ∈ xgw := List.mem_filter.mpr ⟨xin_4 _ (List.mem_of_getElem? (i := 129) rfl), rfl⟩
theorem xcm_62 : Cond.code ⟨"OathTill$Oath", "copy", "(LOathTill$Oath;)V"⟩ prog_3_method_2_code 2 (none) ∈ xgw := List.mem_filter.mpr ⟨xin_4 _ (List.mem_of_getElem? (i := 134) rfl), rfl⟩
theorem xcm_63 : Cond.code ⟨"OathTill$Trials", "copyAll", "(LOathTill$Trials;)V"⟩ prog_11_method_3_code 2 (none) ∈ xgw := List.mem_filter.mpr ⟨xin_4 _ (List.mem_of_getElem? (i := 138) rfl), rfl⟩
theorem xcm_64 : Cond.code ⟨"OathTill", "give", "(I)I"⟩ prog_1_method_5_code 2 (some .int) ∈ xgw := List.mem_filter.mpr ⟨xin_4 _ (List.mem_of_getElem? (i := 143) rfl), rfl⟩
theorem xcm_65 : Cond.code ⟨"OathTill$Reader", "takeTrials", "(I)Z"⟩ prog_6_method_12_code 4 (some .boolean) ∈ xgw := List.mem_filter.mpr ⟨xin_4 _ (List.mem_of_getElem? (i := 151) rfl), rfl⟩
theorem xcm_66 : Cond.code ⟨"OathTill$Reader", "takeEnd", "()Z"⟩ prog_6_method_13_code 3 (some .boolean) ∈ xgw := List.mem_filter.mpr ⟨xin_4 _ (List.mem_of_getElem? (i := 156) rfl), rfl⟩
theorem xcm_67 : Cond.code ⟨"OathTill$Reader", "takeStep", "()Z"⟩ prog_6_method_17_code 3 (some .boolean) ∈ xgw := List.mem_filter.mpr ⟨xin_4 _ (List.mem_of_getElem? (i := 160) rfl), rfl⟩
theorem xcm_68 : Cond.code ⟨"OathTill$Reader", "mayBegin", "(I)Z"⟩ prog_6_method_15_code 3 (some .boolean) ∈ xgw := List.mem_filter.mpr ⟨xin_4 _ (List.mem_of_getElem? (i := 164) rfl), rfl⟩
theorem xcm_69 : Cond.code ⟨"OathTill$Reader", "isStepKey", "(I)Z"⟩ prog_6_method_14_code 1 (some .boolean) ∈ xgw := List.mem_filter.mpr ⟨xin_4 _ (List.mem_of_getElem? (i := 167) rfl), rfl⟩
theorem xcm_70 : Cond.code ⟨"OathTill$Reader", "newRow", "(I)I"⟩ prog_6_method_16_code 3 (some .int) ∈ xgw := List.mem_filter.mpr ⟨xin_4 _ (List.mem_of_getElem? (i := 171) rfl), rfl⟩
theorem xcm_71 : Cond.code ⟨"OathTill$Reader", "takeTest", "(I)Z"⟩ prog_6_method_18_code 2 (some .boolean) ∈ xgw := List.mem_filter.mpr ⟨xin_4 _ (List.mem_of_getElem? (i := 187) rfl), rfl⟩
theorem xcm_72 : Cond.code ⟨"OathTill$Reader", "takeWhere", "(I)Z"⟩ prog_6_method_21_code 2 (some .boolean) ∈ xgw := List.mem_filter.mpr ⟨xin_4 _ (List.mem_of_getElem? (i := 179) rfl), rfl⟩
theorem xcm_73 : Cond.code ⟨"OathTill$Reader", "takeSubject", "(I)Z"⟩ prog_6_method_20_code 2 (some .boolean) ∈ xgw := List.mem_filter.mpr ⟨xin_4 _ (List.mem_of_getElem? (i := 183) rfl), rfl⟩
theorem xcm_74 : Cond.code ⟨"OathTill$Text", "passComparison", "()I"⟩ prog_9_method_9_code 2 (some .int) ∈ xgw := List.mem_filter.mpr ⟨xin_4 _ (List.mem_of_getElem? (i := 191) rfl), rfl⟩
theorem xcm_75 : Cond.code ⟨"OathTill$Reader", "takeWitness", "(I)Z"⟩ prog_6_method_19_code 2 (some .boolean) ∈ xgw := List.mem_filter.mpr ⟨xin_4 _ (List.mem_of_getElem? (i := 175) rfl), rfl⟩
theorem xcm_76 : Cond.code ⟨"OathTill$Court", "inState", "(I)I"⟩ prog_2_method_22_code 4 (some .int) ∈ xgw := List.mem_filter.mpr ⟨xin_4 _ (List.mem_of_getElem? (i := 204) rfl), rfl⟩
theorem xcm_77 : Cond.code ⟨"OathTill$Court", "refunds", "()I"⟩ prog_2_method_24_code 3 (some .int) ∈ xgw := List.mem_filter.mpr ⟨xin_4 _ (List.mem_of_getElem? (i := 216) rfl), rfl⟩
theorem xcm_78 : Cond.code ⟨"OathTill$Court", "lies", "()I"⟩ prog_2_method_23_code 3 (some .int) ∈ xgw := List.mem_filter.mpr ⟨xin_4 _ (List.mem_of_getElem? (i := 208) rfl), rfl⟩
theorem xcm_79 : Cond.code ⟨"OathTill$Court", "isStandingLie", "(LOathTill$Oath;)Z"⟩ prog_2_method_18_code 2 (some .boolean) ∈ xgw := List.mem_filter.mpr ⟨xin_4 _ (List.mem_of_getElem? (i := 212) rfl), rfl⟩
theorem xcm_80 : Cond.code ⟨"OathTill$Court", "isPlace", "(I)Z"⟩ prog_2_method_6_code 2 (some .boolean) ∈ xgw := List.mem_filter.mpr ⟨xin_4 _ (List.mem_of_getElem? (i := 224) rfl), rfl⟩
theorem xcm_81 : Cond.code ⟨"OathTill$Court", "isPerson", "(I)Z"⟩ prog_2_method_7_code 2 (some .boolean) ∈ xgw := List.mem_filter.mpr ⟨xin_4 _ (List.mem_of_getElem? (i := 232) rfl), rfl⟩
theorem xcm_82 : Cond.code ⟨"OathTill$Court", "spentBy", "(I)I"⟩ prog_2_method_27_code 4 (some .int) ∈ xgw := List.mem_filter.mpr ⟨xin_5 _ (List.mem_of_getElem? (i := 0) rfl), rfl⟩
theorem xcm_83 : Cond.code ⟨"OathTill$Court", "swornBy", "(I)I"⟩ prog_2_method_26_code 4 (some .int) ∈ xgw := List.mem_filter.mpr ⟨xin_4 _ (List.mem_of_getElem? (i := 236) rfl), rfl⟩
theorem xcm_84 : Cond.code ⟨"OathTill", "isCouple", "(II)Z"⟩ prog_1_method_27_code 3 (some .boolean) ∈ xgw := List.mem_filter.mpr ⟨xin_5 _ (List.mem_of_getElem? (i := 8) rfl), rfl⟩
theorem xcm_85 : Cond.code ⟨"OathTill$Court", "circleOf", "(I)I"⟩ prog_2_method_15_code 5 (some .int) ∈ xgw := List.mem_filter.mpr ⟨xin_5 _ (List.mem_of_getElem? (i := 16) rfl), rfl⟩
theorem xcm_86 : Cond.code ⟨"OathTill$Court", "isHour", "(I)Z"⟩ prog_2_method_9_code 1 (some .boolean) ∈ xgw := List.mem_filter.mpr ⟨xin_5 _ (List.mem_of_getElem? (i := 23) rfl), rfl⟩
theorem xcm_87 : Cond.code ⟨"OathTill$Court", "isOath", "(I)Z"⟩ prog_2_method_8_code 2 (some .boolean) ∈ xgw := List.mem_filter.mpr ⟨xin_5 _ (List.mem_of_getElem? (i := 31) rfl), rfl⟩
theorem xcm_88 : Cond.code ⟨"OathTill$Court", "isTrue", "(LOathTill$Oath;)Z"⟩ prog_2_method_17_code 2 (some .boolean) ∈ xgw := List.mem_filter.mpr ⟨xin_5 _ (List.mem_of_getElem? (i := 35) rfl), rfl⟩
theorem xcm_89 : Cond.code ⟨"OathTill", "isAsked", "(IIII)Z"⟩ prog_1_method_32_code 5 (some .boolean) ∈ xgw := List.mem_filter.mpr ⟨xin_5 _ (List.mem_of_getElem? (i := 43) rfl), rfl⟩
theorem xcm_90 : Cond.code ⟨"OathTill$Court", "canBeSaid", "(III)Z"⟩ prog_2_method_10_code 4 (some .boolean) ∈ xgw := List.mem_filter.mpr ⟨xin_5 _ (List.mem_of_getElem? (i := 47) rfl), rfl⟩
theorem xcm_91 : Cond.code ⟨"OathTill$Stand", "ask", "(II)V"⟩ prog_8_method_2_code 10 (none) ∈ xgw := List.mem_filter.mpr ⟨xin_5 _ (List.mem_of_getElem? (i := 54) rfl), rfl⟩
theorem xcm_92 : Cond.code ⟨"OathTill$Oath", "standsOf", "(I)Z"⟩ prog_3_method_3_code 2 (some .boolean) ∈ xgw := List.mem_filter.mpr ⟨xin_5 _ (List.mem_of_getElem? (i := 58) rfl), rfl⟩
theorem xcm_93 : Cond.code ⟨"OathTill$Stand", "hear", "(LOathTill$Oath;)V"⟩ prog_8_method_3_code 3 (none) ∈ xgw := List.mem_filter.mpr ⟨xin_5 _ (List.mem_of_getElem? (i := 64) rfl), rfl⟩
theorem xcm_94 : Cond.code ⟨"OathTill$Stand", "hindrance", "(II)I"⟩ prog_8_method_6_code 3 (some .int) ∈ xgw := List.mem_filter.mpr ⟨xin_5 _ (List.mem_of_getElem? (i := 68) rfl), rfl⟩
theorem xcm_95 : Cond.code ⟨"OathTill$Court", "isTrueOf", "(III)Z"⟩ prog_2_method_16_code 4 (some .boolean) ∈ xgw := List.mem_filter.mpr ⟨xin_5 _ (List.mem_of_getElem? (i := 72) rfl), rfl⟩
theorem xcm_96 : Cond.code ⟨"OathTill$Stand", "price", "(II)I"⟩ prog_8_method_5_code 5 (some .int) ∈ xgw := List.mem_filter.mpr ⟨xin_5 _ (List.mem_of_getElem? (i := 76) rfl), rfl⟩
theorem xcm_97 : Cond.code ⟨"OathTill$Stand", "against", "(II)I"⟩ prog_8_method_4_code 3 (some .int) ∈ xgw := List.mem_filter.mpr ⟨xin_5 _ (List.mem_of_getElem? (i := 80) rfl), rfl⟩
theorem xcm_98 : Cond.code ⟨"OathTill$Court", "sayingSo", "(III)I"⟩ prog_2_method_32_code 6 (some .int) ∈ xgw := List.mem_filter.mpr ⟨xin_5 _ (List.mem_of_getElem? (i := 98) rfl), rfl⟩
theorem xcm_99 : Cond.code ⟨"OathTill$Oath", "standsOf", "(II)Z"⟩ prog_3_method_4_code 3 (some .boolean) ∈ xgw := List.mem_filter.mpr ⟨xin_5 _ (List.mem_of_getElem? (i := 102) rfl), rfl⟩
theorem xcm_100 : Cond.code ⟨"OathTill$Court", "struckBy", "(IIII)I"⟩ prog_2_method_37_code 12 (some .int) ∈ xgw := List.mem_filter.mpr ⟨xin_5 _ (List.mem_of_getElem? (i := 110) rfl), rfl⟩
theorem xcm_101 : Cond.code ⟨"OathTill$Court", "fitting", "(IIII)Z"⟩ prog_2_method_19_code 7 (some .boolean) ∈ xgw := List.mem_filter.mpr ⟨xin_5 _ (List.mem_of_getElem? (i := 117) rfl), rfl⟩
theorem xcm_102 : Cond.code ⟨"java/lang/Integer", "bitCount", "(I)I"⟩ prog_15_method_49_code 1 (some .int) ∈ xgw := List.mem_filter.mpr ⟨xin_5 _ (List.mem_of_getElem? (i := 120) rfl), rfl⟩
theorem xcm_103 : Cond.code ⟨"OathTill$Court", "enter", "(IIIII)I"⟩ prog_2_method_38_code 9 (some .int) ∈ xgw := List.mem_filter.mpr ⟨xin_5 _ (List.mem_of_getElem? (i := 131) rfl), rfl⟩
theorem xcm_104 : Cond.code ⟨"OathTill$Court", "reveal", "(III)I"⟩ prog_2_method_39_code 8 (some .int) ∈ xgw := List.mem_filter.mpr ⟨xin_5 _ (List.mem_of_getElem? (i := 140) rfl), rfl⟩
theorem xcm_105 : Cond.code ⟨"OathTill$Court", "refund", "(LOathTill$Oath;)V"⟩ prog_2_method_40_code 2 (none) ∈ xgw := List.mem_filter.mpr ⟨xin_5 _ (List.mem_of_getElem? (i := 144) rfl), rfl⟩
theorem xcm_106 : Cond.code ⟨"OathTill$Court", "areFriends", "(II)Z"⟩ prog_2_method_13_code 3 (some .boolean) ∈ xgw := List.mem_filter.mpr ⟨xin_5 _ (List.mem_of_getElem? (i := 160) rfl), rfl⟩
theorem xcm_107 : Cond.code ⟨"OathTill$Court", "agreeing", "(LOathTill$Oath;LOathTill$Oath;)Z"⟩ prog_2_method_20_code 3 (some .boolean) ∈ xgw := List.mem_filter.mpr ⟨xin_5 _ (List.mem_of_getElem? (i := 173) rfl), rfl⟩
theorem xcm_108 : Cond.code ⟨"OathTill$Court", "hoursBetween", "(II)I"⟩ prog_2_method_21_code 4 (some .int) ∈ xgw := List.mem_filter.mpr ⟨xin_5 _ (List.mem_of_getElem? (i := 181) rfl), rfl⟩
theorem xcm_109 : Cond.code ⟨"java/lang/Math", "abs", "(I)I"⟩ prog_16_method_59_code 1 (some .int) ∈ xgw := List.mem_filter.mpr ⟨xin_5 _ (List.mem_of_getElem? (i := 184) rfl), rfl⟩
theorem xcm_110 : Cond.code ⟨"OathTill", "isPersonsHour", "(II)Z"⟩ prog_1_method_46_code 3 (some .boolean) ∈ xgw := List.mem_filter.mpr ⟨xin_5 _ (List.mem_of_getElem? (i := 192) rfl), rfl⟩
theorem xcm_111 : Cond.code ⟨"OathTill$Whereabouts", "fitting", "(II)I"⟩ prog_12_method_2_code 5 (some .int) ∈ xgw := List.mem_filter.mpr ⟨xin_5 _ (List.mem_of_getElem? (i := 196) rfl), rfl⟩
theorem xcm_112 : Cond.code ⟨"OathTill$Whereabouts", "fitsTruth", "(III)Z"⟩ prog_12_method_3_code 6 (some .boolean) ∈ xgw := List.mem_filter.mpr ⟨xin_5 _ (List.mem_of_getElem? (i := 200) rfl), rfl⟩
theorem xcm_113 : Cond.code ⟨"OathTill$Whereabouts", "fitsOaths", "(III)Z"⟩ prog_12_method_4_code 6 (some .boolean) ∈ xgw := List.mem_filter.mpr ⟨xin_5 _ (List.mem_of_getElem? (i := 205) rfl), rfl⟩
theorem xcm_114 : Cond.code ⟨"OathTill$Whereabouts", "countWays", "(IZ)I"⟩ prog_12_method_6_code 5 (some .int) ∈ xgw := List.mem_filter.mpr ⟨xin_5 _ (List.mem_of_getElem? (i := 214) rfl), rfl⟩
theorem xcm_115 : Cond.code ⟨"OathTill$Whereabouts", "narrow", "(IZ)V"⟩ prog_12_method_5_code 5 (none) ∈ xgw := List.mem_filter.mpr ⟨xin_5 _ (List.mem_of_getElem? (i := 218) rfl), rfl⟩
theorem xcm_116 : Cond.code ⟨"OathTill$Whereabouts", "waysInto", "(I)I"⟩ prog_12_method_7_code 4 (some .int) ∈ xgw := List.mem_filter.mpr ⟨xin_5 _ (List.mem_of_getElem? (i := 222) rfl), rfl⟩
theorem xcm_117 : Cond.code ⟨"OathTill$Whereabouts", "onSomeWay", "(IIZ)I"⟩ prog_12_method_9_code 7 (some .int) ∈ xgw := List.mem_filter.mpr ⟨xin_5 _ (List.mem_of_getElem? (i := 231) rfl), rfl⟩
theorem xcm_118 : Cond.code ⟨"OathTill$Whereabouts", "neighbours", "(I)I"⟩ prog_12_method_8_code 5 (some .int) ∈ xgw := List.mem_filter.mpr ⟨xin_5 _ (List.mem_of_getElem? (i := 235) rfl), rfl⟩
theorem xcm_119 : Cond.code ⟨"OathTill$Whereabouts", "largestFit", "(I)I"⟩ prog_12_method_10_code 7 (some .int) ∈ xgw := List.mem_filter.mpr ⟨xin_6 _ (List.mem_of_getElem? (i := 3) rfl), rfl⟩
theorem xcm_120 : Cond.code ⟨"OathTill$Whereabouts", "saying", "(III)I"⟩ prog_12_method_11_code 6 (some .int) ∈ xgw := List.mem_filter.mpr ⟨xin_6 _ (List.mem_of_getElem? (i := 7) rfl), rfl⟩
theorem xcm_121 : Cond.code ⟨"OathTill$Whereabouts", "better", "(II)I"⟩ prog_12_method_13_code 3 (some .int) ∈ xgw := List.mem_filter.mpr ⟨xin_6 _ (List.mem_of_getElem? (i := 15) rfl), rfl⟩
theorem xcm_122 : Cond.code ⟨"OathTill$Whereabouts", "bestAhead", "(II)I"⟩ prog_12_method_12_code 6 (some .int) ∈ xgw := List.mem_filter.mpr ⟨xin_6 _ (List.mem_of_getElem? (i := 12) rfl), rfl⟩
theorem xcm_123 : Cond.code ⟨"OathTill$Court", "clashesOf", "(I)I"⟩ prog_2_method_36_code 5 (some .int) ∈ xgw := List.mem_filter.mpr ⟨xin_6 _ (List.mem_of_getElem? (i := 29) rfl), rfl⟩
theorem xcm_124 : Cond.code ⟨"OathTill$Court", "doubtOf", "(I)I"⟩ prog_2_method_35_code 4 (some .int) ∈ xgw := List.mem_filter.mpr ⟨xin_6 _ (List.mem_of_getElem? (i := 38) rfl), rfl⟩
theorem xcm_125 : Cond.code ⟨"OathTill$Court", "placesSaid", "(II)I"⟩ prog_2_method_34_code 5 (some .int) ∈ xgw := List.mem_filter.mpr ⟨xin_6 _ (List.mem_of_getElem? (i := 42) rfl), rfl⟩
theorem xcm_126 : Cond.code ⟨"OathTill$Court", "mostSaid", "(II)I"⟩ prog_2_method_33_code 7 (some .int) ∈ xgw := List.mem_filter.mpr ⟨xin_6 _ (List.mem_of_getElem? (i := 51) rfl), rfl⟩
theorem xcm_127 : Cond.code ⟨"OathTill$Plan", "seekAlibi", "(IIII)I"⟩ prog_5_method_2_code 9 (some .int) ∈ xgw := List.mem_filter.mpr ⟨xin_6 _ (List.mem_of_getElem? (i := 60) rfl), rfl⟩
theorem xcm_128 : Cond.code ⟨"OathTill$Plan", "tryAlibi", "(IIII)I"⟩ prog_5_method_3_code 7 (some .int) ∈ xgw := List.mem_filter.mpr ⟨xin_6 _ (List.mem_of_getElem? (i := 66) rfl), rfl⟩
theorem xcm_129 : Cond.code ⟨"OathTill$Court", "unswear", "(LOathTill$Court;)V"⟩ prog_2_method_5_code 3 (none) ∈ xgw := List.mem_filter.mpr ⟨xin_6 _ (List.mem_of_getElem? (i := 70) rfl), rfl⟩
theorem xcm_130 : Cond.code ⟨"OathTill$Plan", "allStand", "(I)Z"⟩ prog_5_method_4_code 5 (some .boolean) ∈ xgw := List.mem_filter.mpr ⟨xin_6 _ (List.mem_of_getElem? (i := 78) rfl), rfl⟩
theorem xcm_131 : Cond.code ⟨"OathTill$Plan", "seekCall", "(II)I"⟩ prog_5_method_5_code 8 (some .int) ∈ xgw := List.mem_filter.mpr ⟨xin_6 _ (List.mem_of_getElem? (i := 90) rfl), rfl⟩
theorem xcm_132 : Cond.code ⟨"OathTill$Plan", "othersStruck", "(IIII)I"⟩ prog_5_method_6_code 8 (some .int) ∈ xgw := List.mem_filter.mpr ⟨xin_6 _ (List.mem_of_getElem? (i := 94) rfl), rfl⟩
theorem xcm_133 : Cond.code ⟨"OathTill$Stand", "countSayable", "()I"⟩ prog_8_method_7_code 4 (some .int) ∈ xgw := List.mem_filter.mpr ⟨xin_6 _ (List.mem_of_getElem? (i := 107) rfl), rfl⟩
theorem xcm_134 : Cond.code ⟨"OathTill$Stand", "highestPrice", "()I"⟩ prog_8_method_8_code 4 (some .int) ∈ xgw := List.mem_filter.mpr ⟨xin_6 _ (List.mem_of_getElem? (i := 116) rfl), rfl⟩
theorem xcm_135 : Cond.code ⟨"java/lang/Math", "max", "(II)I"⟩ prog_16_method_65_code 2 (some .int) ∈ xgw := List.mem_filter.mpr ⟨xin_6 _ (List.mem_of_getElem? (i := 119) rfl), rfl⟩
theorem xcm_136 : Cond.code ⟨"OathTill$Court", "standingBy", "(IZ)I"⟩ prog_2_method_28_code 6 (some .int) ∈ xgw := List.mem_filter.mpr ⟨xin_6 _ (List.mem_of_getElem? (i := 127) rfl), rfl⟩
theorem xcm_137 : Cond.code ⟨"OathTill$Court", "paid", "()I"⟩ prog_2_method_25_code 3 (some .int) ∈ xgw := List.mem_filter.mpr ⟨xin_6 _ (List.mem_of_getElem? (i := 139) rfl), rfl⟩
theorem xcm_138 : Cond.code ⟨"OathTill", "tellFraction", "(JJ)V"⟩ prog_1_method_11_code 7 (none) ∈ xgw := List.mem_filter.mpr ⟨xin_6 _ (List.mem_of_getElem? (i := 143) rfl), rfl⟩
theorem xcm_139 : Cond.code ⟨"OathTill", "commonDivisor", "(JJ)J"⟩ prog_1_method_10_code 11 (some .long) ∈ xgw := List.mem_filter.mpr ⟨xin_6 _ (List.mem_of_getElem? (i := 146) rfl), rfl⟩
theorem xcm_140 : Cond.code ⟨"OathTill$Court", "voidBy", "(I)I"⟩ prog_2_method_29_code 4 (some .int) ∈ xgw := List.mem_filter.mpr ⟨xin_6 _ (List.mem_of_getElem? (i := 154) rfl), rfl⟩
theorem xcm_141 : Cond.code ⟨"OathTill$Court", "liarsAbout", "(I)I"⟩ prog_2_method_31_code 4 (some .int) ∈ xgw := List.mem_filter.mpr ⟨xin_6 _ (List.mem_of_getElem? (i := 162) rfl), rfl⟩
theorem xcm_142 : Cond.code ⟨"OathTill", "bidTrouble", "(II)I"⟩ prog_1_method_66_code 3 (some .int) ∈ xgw := List.mem_filter.mpr ⟨xin_6 _ (List.mem_of_getElem? (i := 170) rfl), rfl⟩
theorem xcm_143 : Cond.code ⟨"OathTill$Tray", "allWithin", "(IJJ)Z"⟩ prog_10_method_4_code 7 (some .boolean) ∈ xgw := List.mem_filter.mpr ⟨xin_6 _ (List.mem_of_getElem? (i := 175) rfl), rfl⟩
theorem xcm_144 : Cond.code ⟨"OathTill$Tray", "highest", "(I)I"⟩ prog_10_method_5_code 4 (some .int) ∈ xgw := List.mem_filter.mpr ⟨xin_6 _ (List.mem_of_getElem? (i := 179) rfl), rfl⟩
theorem xcm_145 : Cond.code ⟨"OathTill$Tray", "isTied", "(II)Z"⟩ prog_10_method_6_code 4 (some .boolean) ∈ xgw := List.mem_filter.mpr ⟨xin_6 _ (List.mem_of_getElem? (i := 183) rfl), rfl⟩
theorem xcm_146 : Cond.code ⟨"OathTill$Tray", "secondBid", "(II)J"⟩ prog_10_method_7_code 6 (some .long) ∈ xgw := List.mem_filter.mpr ⟨xin_6 _ (List.mem_of_getElem? (i := 191) rfl), rfl⟩
theorem xcm_147 : Cond.code ⟨"OathTill$Runner", "go", "(II)V"⟩ prog_7_method_2_code 5 (none) ∈ xgw := List.mem_filter.mpr ⟨xin_6 _ (List.mem_of_getElem? (i := 199) rfl), rfl⟩
theorem xcm_148 : Cond.code ⟨"OathTill$Runner", "behindLoopEnd", "(I)I"⟩ prog_7_method_3_code 3 (some .int) ∈ xgw := List.mem_filter.mpr ⟨xin_6 _ (List.mem_of_getElem? (i := 204) rfl), rfl⟩
theorem xcm_149 : Cond.code ⟨"OathTill$Runner", "behindStep", "(I)I"⟩ prog_7_method_4_code 2 (some .int) ∈ xgw := List.mem_filter.mpr ⟨xin_6 _ (List.mem_of_getElem? (i := 208) rfl), rfl⟩
theorem xcm_150 : Cond.code ⟨"OathTill$Runner", "holds", "(I)Z"⟩ prog_7_method_6_code 2 (some .boolean) ∈ xgw := List.mem_filter.mpr ⟨xin_7 _ (List.mem_of_getElem? (i := 7) rfl), rfl⟩
theorem xcm_151 : Cond.code ⟨"OathTill$Runner", "intoLoop", "(I)I"⟩ prog_7_method_5_code 2 (some .int) ∈ xgw := List.mem_filter.mpr ⟨xin_7 _ (List.mem_of_getElem? (i := 3) rfl), rfl⟩
theorem xcm_152 : Cond.code ⟨"OathTill$Runner", "compares", "(II)Z"⟩ prog_7_method_7_code 3 (some .boolean) ∈ xgw := List.mem_filter.mpr ⟨xin_7 _ (List.mem_of_getElem? (i := 11) rfl), rfl⟩
theorem xcm_153 : Cond.code ⟨"OathTill$Runner", "recantLatest", "(I)V"⟩ prog_7_method_12_code 3 (none) ∈ xgw := List.mem_filter.mpr ⟨xin_6 _ (List.mem_of_getElem? (i := 235) rfl), rfl⟩
theorem xcm_154 : Cond.code ⟨"OathTill$Court", "latestBy", "(I)I"⟩ prog_2_method_41_code 3 (some .int) ∈ xgw := List.mem_filter.mpr ⟨xin_6 _ (List.mem_of_getElem? (i := 239) rfl), rfl⟩
theorem xcm_155 : Cond.code ⟨"OathTill$Runner", "swearAny", "(I)V"⟩ prog_7_method_11_code 6 (none) ∈ xgw := List.mem_filter.mpr ⟨xin_6 _ (List.mem_of_getElem? (i := 225) rfl), rfl⟩
theorem xcm_156 : Cond.code ⟨"OathTill$Runner", "draw", "(I)I"⟩ prog_7_method_10_code 2 (some .int) ∈ xgw := List.mem_filter.mpr ⟨xin_6 _ (List.mem_of_getElem? (i := 229) rfl), rfl⟩
theorem xcm_157 : Cond.code ⟨"OathTill$Runner", "note", "(I)V"⟩ prog_7_method_9_code 2 (none) ∈ xgw := List.mem_filter.mpr ⟨xin_6 _ (List.mem_of_getElem? (i := 220) rfl), rfl⟩
theorem xcm_158 : Cond.code ⟨"OathTill$Runner", "swearTold", "(I)V"⟩ prog_7_method_8_code 5 (none) ∈ xgw := List.mem_filter.mpr ⟨xin_6 _ (List.mem_of_getElem? (i := 212) rfl), rfl⟩
theorem xcm_159 : Cond.code ⟨"OathTill$Court", "voidOfLife", "(I)I"⟩ prog_2_method_30_code 4 (some .int) ∈ xgw := List.mem_filter.mpr ⟨xin_7 _ (List.mem_of_getElem? (i := 20) rfl), rfl⟩
theorem xcm_160 : Cond.code ⟨"OathTillModel", "isTray", "(I)Z"⟩ prog_14_method_11_code 1 (some .boolean) ∈ xgw := List.mem_filter.mpr ⟨xin_7 _ (List.mem_of_getElem? (i := 183) rfl), rfl⟩
theorem xcm_161 : Cond.code ⟨"OathTillModel", "is", "(I)Z"⟩ prog_14_method_6_code 2 (some .boolean) ∈ xgw := List.mem_filter.mpr ⟨xin_7 _ (List.mem_of_getElem? (i := 187) rfl), rfl⟩
theorem xcm_162 : Cond.code ⟨"OathTillModel", "wrongPlace", "(II)I"⟩ prog_14_method_14_code 3 (some .int) ∈ xgw := List.mem_filter.mpr ⟨xin_7 _ (List.mem_of_getElem? (i := 195) rfl), rfl⟩
theorem xcm_163 : Cond.code ⟨"OathTillModel", "cut", "(JI)J"⟩ prog_14_method_12_code 3 (some .long) ∈ xgw := List.mem_filter.mpr ⟨xin_7 _ (List.mem_of_getElem? (i := 198) rfl), rfl⟩
theorem xcm_164 : Cond.code ⟨"OathTillModel", "four", "(I)V"⟩ prog_14_method_20_code 3 (none) ∈ xgw := List.mem_filter.mpr ⟨xin_7 _ (List.mem_of_getElem? (i := 215) rfl), rfl⟩
theorem xcm_165 : Cond.code ⟨"OathTillModel", "begins", "(II)Z"⟩ prog_14_method_28_code 4 (some .boolean) ∈ xgw := List.mem_filter.mpr ⟨xin_7 _ (List.mem_of_getElem? (i := 227) rfl), rfl⟩
theorem xcm_166 : Cond.code ⟨"OathTillModel", "ahead", "()V"⟩ prog_14_method_24_code 2 (none) ∈ xgw := List.mem_filter.mpr ⟨xin_7 _ (List.mem_of_getElem? (i := 231) rfl), rfl⟩
theorem xcm_167 : Cond.code ⟨"OathTillModel", "byteAt", "(I)I"⟩ prog_14_method_21_code 2 (some .int) ∈ xgw := List.mem_filter.mpr ⟨xin_7 _ (List.mem_of_getElem? (i := 235) rfl), rfl⟩
theorem xcm_168 : Cond.code ⟨"OathTillModel", "isSmall", "(I)Z"⟩ prog_14_method_22_code 1 (some .boolean) ∈ xgw := List.mem_filter.mpr ⟨xin_7 _ (List.mem_of_getElem? (i := 238) rfl), rfl⟩
theorem xcm_169 : Cond.code ⟨"OathTillModel", "isDigit", "(I)Z"⟩ prog_14_method_23_code 1 (some .boolean) ∈ xgw := List.mem_filter.mpr ⟨xin_8 _ (List.mem_of_getElem? (i := 1) rfl), rfl⟩
theorem xcm_170 : Cond.code ⟨"OathTillModel", "refuse", "(I)I"⟩ prog_14_method_7_code 2 (some .int) ∈ xgw := List.mem_filter.mpr ⟨xin_8 _ (List.mem_of_getElem? (i := 7) rfl), rfl⟩
theorem xcm_171 : Cond.code ⟨"OathTillModel", "courtPart", "()Z"⟩ prog_14_method_47_code 2 (some .boolean) ∈ xgw := List.mem_filter.mpr ⟨xin_8 _ (List.mem_of_getElem? (i := 11) rfl), rfl⟩
theorem xcm_172 : Cond.code ⟨"OathTillModel", "inWords", "(Ljava/lang/String;)I"⟩ prog_14_method_26_code 7 (some .int) ∈ xgw := List.mem_filter.mpr ⟨xin_8 _ (List.mem_of_getElem? (i := 16) rfl), rfl⟩
theorem xcm_173 : Cond.code ⟨"OathTillModel", "fails", "(I)Z"⟩ prog_14_method_27_code 2 (some .boolean) ∈ xgw := List.mem_filter.mpr ⟨xin_8 _ (List.mem_of_getElem? (i := 30) rfl), rfl⟩
theorem xcm_174 : Cond.code ⟨"OathTillModel", "once", "(I)Z"⟩ prog_14_method_46_code 2 (some .boolean) ∈ xgw := List.mem_filter.mpr ⟨xin_8 _ (List.mem_of_getElem? (i := 82) rfl), rfl⟩
theorem xcm_175 : Cond.code ⟨"OathTillModel", "number", "(III)Z"⟩ prog_14_method_31_code 4 (some .boolean) ∈ xgw := List.mem_filter.mpr ⟨xin_8 _ (List.mem_of_getElem? (i := 50) rfl), rfl⟩
theorem xcm_176 : Cond.code ⟨"OathTillModel", "wantSign", "(I)Z"⟩ prog_14_method_29_code 2 (some .boolean) ∈ xgw := List.mem_filter.mpr ⟨xin_8 _ (List.mem_of_getElem? (i := 86) rfl), rfl⟩
theorem xcm_177 : Cond.code ⟨"OathTillModel", "isSign", "(I)Z"⟩ prog_14_method_25_code 2 (some .boolean) ∈ xgw := List.mem_filter.mpr ⟨xin_8 _ (List.mem_of_getElem? (i := 90) rfl), rfl⟩
theorem xcm_178 : Cond.code ⟨"OathTillModel", "aTruth", "()Z"⟩ prog_14_method_45_code 2 (some .boolean) ∈ xgw := List.mem_filter.mpr ⟨xin_8 _ (List.mem_of_getElem? (i := 78) rfl), rfl⟩
theorem xcm_179 : Cond.code ⟨"OathTillModel", "newPerson", "(I)Z"⟩ prog_14_method_40_code 2 (some .boolean) ∈ xgw := List.mem_filter.mpr ⟨xin_8 _ (List.mem_of_getElem? (i := 70) rfl), rfl⟩
theorem xcm_180 : Cond.code ⟨"OathTillModel", "oldOne", "(III)Z"⟩ prog_14_method_39_code 4 (some .boolean) ∈ xgw := List.mem_filter.mpr ⟨xin_8 _ (List.mem_of_getElem? (i := 74) rfl), rfl⟩
theorem xcm_181 : Cond.code ⟨"OathTillModel", "isName", "(Ljava/lang/String;)Z"⟩ prog_14_method_32_code 2 (some .boolean) ∈ xgw := List.mem_filter.mpr ⟨xin_8 _ (List.mem_of_getElem? (i := 34) rfl), rfl⟩
theorem xcm_182 : Cond.code ⟨"OathTillModel", "findHere", "(II)I"⟩ prog_14_method_34_code 4 (some .int) ∈ xgw := List.mem_filter.mpr ⟨xin_8 _ (List.mem_of_getElem? (i := 38) rfl), rfl⟩
theorem xcm_183 : Cond.code ⟨"OathTillModel", "nameHere", "()J"⟩ prog_14_method_33_code 4 (some .long) ∈ xgw := List.mem_filter.mpr ⟨xin_8 _ (List.mem_of_getElem? (i := 42) rfl), rfl⟩
theorem xcm_184 : Cond.code ⟨"OathTillModel", "wantWord", "(Ljava/lang/String;I)Z"⟩ prog_14_method_30_code 3 (some .boolean) ∈ xgw := List.mem_filter.mpr ⟨xin_8 _ (List.mem_of_getElem? (i := 46) rfl), rfl⟩
theorem xcm_185 : Cond.code ⟨"OathTillModel", "aCouple", "(Z)Z"⟩ prog_14_method_44_code 5 (some .boolean) ∈ xgw := List.mem_filter.mpr ⟨xin_8 _ (List.mem_of_getElem? (i := 62) rfl), rfl⟩
theorem xcm_186 : Cond.code ⟨"OathTillModel", "oneOf", "(IIZ)Z"⟩ prog_14_method_43_code 5 (some .boolean) ∈ xgw := List.mem_filter.mpr ⟨xin_8 _ (List.mem_of_getElem? (i := 66) rfl), rfl⟩
theorem xcm_187 : Cond.code ⟨"OathTillModel", "aPerson", "()Z"⟩ prog_14_method_42_code 2 (some .boolean) ∈ xgw := List.mem_filter.mpr ⟨xin_8 _ (List.mem_of_getElem? (i := 54) rfl), rfl⟩
theorem xcm_188 : Cond.code ⟨"OathTillModel", "newOne", "(III)Z"⟩ prog_14_method_38_code 4 (some .boolean) ∈ xgw := List.mem_filter.mpr ⟨xin_8 _ (List.mem_of_getElem? (i := 26) rfl), rfl⟩
theorem xcm_189 : Cond.code ⟨"OathTillModel", "isThere", "(I)Z"⟩ prog_14_method_37_code 2 (some .boolean) ∈ xgw := List.mem_filter.mpr ⟨xin_8 _ (List.mem_of_getElem? (i := 58) rfl), rfl⟩
theorem xcm_190 : Cond.code ⟨"OathTillModel", "aPlace", "()Z"⟩ prog_14_method_41_code 1 (some .boolean) ∈ xgw := List.mem_filter.mpr ⟨xin_8 _ (List.mem_of_getElem? (i := 22) rfl), rfl⟩
theorem xcm_191 : Cond.code ⟨"OathTillModel", "taken", "(I)I"⟩ prog_14_method_36_code 2 (some .int) ∈ xgw := List.mem_filter.mpr ⟨xin_8 _ (List.mem_of_getElem? (i := 94) rfl), rfl⟩
theorem xcm_192 : Cond.code ⟨"OathTillModel", "gives", "(I)I"⟩ prog_14_method_8_code 2 (some .int) ∈ xgw := List.mem_filter.mpr ⟨xin_8 _ (List.mem_of_getElem? (i := 98) rfl), rfl⟩
theorem xcm_193 : Cond.code ⟨"OathTillModel", "trialStep", "()Z"⟩ prog_14_method_54_code 6 (some .boolean) ∈ xgw := List.mem_filter.mpr ⟨xin_8 _ (List.mem_of_getElem? (i := 106) rfl), rfl⟩
theorem xcm_194 : Cond.code ⟨"OathTillModel", "trialOrder", "(II)Z"⟩ prog_14_method_53_code 3 (some .boolean) ∈ xgw := List.mem_filter.mpr ⟨xin_8 _ (List.mem_of_getElem? (i := 110) rfl), rfl⟩
theorem xcm_195 : Cond.code ⟨"OathTillModel", "test", "(I)Z"⟩ prog_14_method_52_code 3 (some .boolean) ∈ xgw := List.mem_filter.mpr ⟨xin_8 _ (List.mem_of_getElem? (i := 126) rfl), rfl⟩
theorem xcm_196 : Cond.code ⟨"OathTillModel", "whereTo", "(I)Z"⟩ prog_14_method_51_code 2 (some .boolean) ∈ xgw := List.mem_filter.mpr ⟨xin_8 _ (List.mem_of_getElem? (i := 118) rfl), rfl⟩
theorem xcm_197 : Cond.code ⟨"OathTillModel", "personTo", "(I)Z"⟩ prog_14_method_49_code 2 (some .boolean) ∈ xgw := List.mem_filter.mpr ⟨xin_8 _ (List.mem_of_getElem? (i := 114) rfl), rfl⟩
theorem xcm_198 : Cond.code ⟨"OathTillModel", "placeTo", "(I)Z"⟩ prog_14_method_50_code 2 (some .boolean) ∈ xgw := List.mem_filter.mpr ⟨xin_8 _ (List.mem_of_getElem? (i := 122) rfl), rfl⟩
theorem xcm_199 : Cond.code ⟨"OathTillModel", "oathRow", "(I)I"⟩ prog_14_method_57_code 1 (some .int) ∈ xgw := List.mem_filter.mpr ⟨xin_8 _ (List.mem_of_getElem? (i := 133) rfl), rfl⟩
theorem xcm_200 : Cond.code ⟨"OathTillModel", "isLie", "(I)Z"⟩ prog_14_method_74_code 2 (some .boolean) ∈ xgw := List.mem_filter.mpr ⟨xin_8 _ (List.mem_of_getElem? (i := 137) rfl), rfl⟩
theorem xcm_201 : Cond.code ⟨"OathTillModel", "doesStand", "(I)Z"⟩ prog_14_method_72_code 2 (some .boolean) ∈ xgw := List.mem_filter.mpr ⟨xin_8 _ (List.mem_of_getElem? (i := 141) rfl), rfl⟩
theorem xcm_202 : Cond.code ⟨"OathTillModel", "isTrue", "(I)Z"⟩ prog_14_method_73_code 2 (some .boolean) ∈ xgw := List.mem_filter.mpr ⟨xin_8 _ (List.mem_of_getElem? (i := 145) rfl), rfl⟩
theorem xcm_203 : Cond.code ⟨"OathTillModel", "personOf", "(I)I"⟩ prog_14_method_68_code 2 (some .int) ∈ xgw := List.mem_filter.mpr ⟨xin_8 _ (List.mem_of_getElem? (i := 149) rfl), rfl⟩
theorem xcm_204 : Cond.code ⟨"OathTillModel", "hourOf", "(I)I"⟩ prog_14_method_70_code 2 (some .int) ∈ xgw := List.mem_filter.mpr ⟨xin_8 _ (List.mem_of_getElem? (i := 153) rfl), rfl⟩
theorem xcm_205 : Cond.code ⟨"OathTillModel", "whereOf", "(II)I"⟩ prog_14_method_66_code 3 (some .int) ∈ xgw := List.mem_filter.mpr ⟨xin_8 _ (List.mem_of_getElem? (i := 157) rfl), rfl⟩
theorem xcm_206 : Cond.code ⟨"OathTillModel", "placeOf", "(I)I"⟩ prog_14_method_69_code 2 (some .int) ∈ xgw := List.mem_filter.mpr ⟨xin_8 _ (List.mem_of_getElem? (i := 161) rfl), rfl⟩
theorem xcm_207 : Cond.code ⟨"OathTillModel", "isPlace", "(I)Z"⟩ prog_14_method_58_code 2 (some .boolean) ∈ xgw := List.mem_filter.mpr ⟨xin_8 _ (List.mem_of_getElem? (i := 169) rfl), rfl⟩
theorem xcm_208 : Cond.code ⟨"OathTillModel", "isPerson", "(I)Z"⟩ prog_14_method_59_code 2 (some .boolean) ∈ xgw := List.mem_filter.mpr ⟨xin_8 _ (List.mem_of_getElem? (i := 177) rfl), rfl⟩
theorem xcm_209 : Cond.code ⟨"OathTillModel", "personRow", "(I)I"⟩ prog_14_method_56_code 1 (some .int) ∈ xgw := List.mem_filter.mpr ⟨xin_8 _ (List.mem_of_getElem? (i := 180) rfl), rfl⟩
theorem xcm_210 : Cond.code ⟨"OathTillModel", "orNone", "(I)I"⟩ prog_14_method_9_code 2 (some .int) ∈ xgw := List.mem_filter.mpr ⟨xin_8 _ (List.mem_of_getElem? (i := 184) rfl), rfl⟩
theorem xcm_211 : Cond.code ⟨"OathTillModel", "witnessOf", "(I)I"⟩ prog_14_method_67_code 2 (some .int) ∈ xgw := List.mem_filter.mpr ⟨xin_8 _ (List.mem_of_getElem? (i := 188) rfl), rfl⟩
theorem xcm_212 : Cond.code ⟨"OathTillModel", "feeOf", "(I)I"⟩ prog_14_method_71_code 2 (some .int) ∈ xgw := List.mem_filter.mpr ⟨xin_8 _ (List.mem_of_getElem? (i := 192) rfl), rfl⟩
theorem xcm_213 : Cond.code ⟨"OathTillModel", "areTwo", "(II)Z"⟩ prog_14_method_62_code 3 (some .boolean) ∈ xgw := List.mem_filter.mpr ⟨xin_8 _ (List.mem_of_getElem? (i := 200) rfl), rfl⟩
theorem xcm_214 : Cond.code ⟨"OathTillModel", "doKnow", "(II)Z"⟩ prog_14_method_76_code 3 (some .boolean) ∈ xgw := List.mem_filter.mpr ⟨xin_8 _ (List.mem_of_getElem? (i := 204) rfl), rfl⟩
theorem xcm_215 : Cond.code ⟨"OathTillModel", "isIn", "(II)Z"⟩ prog_14_method_64_code 3 (some .boolean) ∈ xgw := List.mem_filter.mpr ⟨xin_8 _ (List.mem_of_getElem? (i := 208) rfl), rfl⟩
theorem xcm_216 : Cond.code ⟨"OathTillModel", "isHour", "(I)Z"⟩ prog_14_method_60_code 1 (some .boolean) ∈ xgw := List.mem_filter.mpr ⟨xin_8 _ (List.mem_of_getElem? (i := 219) rfl), rfl⟩
theorem xcm_217 : Cond.code ⟨"OathTillModel", "isOath", "(I)Z"⟩ prog_14_method_61_code 2 (some .boolean) ∈ xgw := List.mem_filter.mpr ⟨xin_8 _ (List.mem_of_getElem? (i := 227) rfl), rfl⟩
theorem xcm_218 : Cond.code ⟨"OathTillModel", "isSworn", "(IIII)Z"⟩ prog_14_method_89_code 5 (some .boolean) ∈ xgw := List.mem_filter.mpr ⟨xin_8 _ (List.mem_of_getElem? (i := 235) rfl), rfl⟩
theorem xcm_219 : Cond.code ⟨"OathTillModel", "isSpot", "(III)Z"⟩ prog_14_method_63_code 4 (some .boolean) ∈ xgw := List.mem_filter.mpr ⟨xin_8 _ (List.mem_of_getElem? (i := 239) rfl), rfl⟩
theorem xcm_220 : Cond.code ⟨"OathTillModel", "whyNot", "(IIII)I"⟩ prog_14_method_88_code 6 (some .int) ∈ xgw := List.mem_filter.mpr ⟨xin_9 _ (List.mem_of_getElem? (i := 3) rfl), rfl⟩
theorem xcm_221 : Cond.code ⟨"OathTillModel", "isOf", "(III)Z"⟩ prog_14_method_75_code 4 (some .boolean) ∈ xgw := List.mem_filter.mpr ⟨xin_9 _ (List.mem_of_getElem? (i := 7) rfl), rfl⟩
theorem xcm_222 : Cond.code ⟨"OathTillModel", "doubtOf", "(I)I"⟩ prog_14_method_87_code 6 (some .int) ∈ xgw := List.mem_filter.mpr ⟨xin_9 _ (List.mem_of_getElem? (i := 11) rfl), rfl⟩
theorem xcm_223 : Cond.code ⟨"OathTillModel", "bits", "(I)I"⟩ prog_14_method_65_code 3 (some .int) ∈ xgw := List.mem_filter.mpr ⟨xin_9 _ (List.mem_of_getElem? (i := 14) rfl), rfl⟩
theorem xcm_224 : Cond.code ⟨"OathTillModel", "feeFor", "(IIII)I"⟩ prog_14_method_86_code 7 (some .int) ∈ xgw := List.mem_filter.mpr ⟨xin_9 _ (List.mem_of_getElem? (i := 18) rfl), rfl⟩
theorem xcm_225 : Cond.code ⟨"OathTillModel", "against", "(IIII)I"⟩ prog_14_method_84_code 7 (some .int) ∈ xgw := List.mem_filter.mpr ⟨xin_9 _ (List.mem_of_getElem? (i := 22) rfl), rfl⟩
theorem xcm_226 : Cond.code ⟨"OathTillModel", "backedBy", "(IIII)I"⟩ prog_14_method_85_code 7 (some .int) ∈ xgw := List.mem_filter.mpr ⟨xin_9 _ (List.mem_of_getElem? (i := 26) rfl), rfl⟩
theorem xcm_227 : Cond.code ⟨"OathTillModel", "keeps", "()V"⟩ prog_14_method_98_code 2 (none) ∈ xgw := List.mem_filter.mpr ⟨xin_9 _ (List.mem_of_getElem? (i := 46) rfl), rfl⟩
theorem xcm_228 : Cond.code ⟨"OathTillModel", "swears", "(IIII)V"⟩ prog_14_method_97_code 10 (none) ∈ xgw := List.mem_filter.mpr ⟨xin_9 _ (List.mem_of_getElem? (i := 50) rfl), rfl⟩
theorem xcm_229 : Cond.code ⟨"OathTillModel", "voids0", "(I)V"⟩ prog_14_method_96_code 2 (none) ∈ xgw := List.mem_filter.mpr ⟨xin_9 _ (List.mem_of_getElem? (i := 54) rfl), rfl⟩
theorem xcm_230 : Cond.code ⟨"OathTillModel", "areFit", "(II)Z"⟩ prog_14_method_95_code 3 (some .boolean) ∈ xgw := List.mem_filter.mpr ⟨xin_9 _ (List.mem_of_getElem? (i := 58) rfl), rfl⟩
theorem xcm_231 : Cond.code ⟨"OathTillModel", "doFit", "(IIII)Z"⟩ prog_14_method_94_code 5 (some .boolean) ∈ xgw := List.mem_filter.mpr ⟨xin_9 _ (List.mem_of_getElem? (i := 62) rfl), rfl⟩
theorem xcm_232 : Cond.code ⟨"OathTillModel", "fallen", "(I)I"⟩ prog_14_method_100_code 4 (some .int) ∈ xgw := List.mem_filter.mpr ⟨xin_9 _ (List.mem_of_getElem? (i := 67) rfl), rfl⟩
theorem xcm_233 : Cond.code ⟨"OathTillModel", "restores", "()V"⟩ prog_14_method_99_code 2 (none) ∈ xgw := List.mem_filter.mpr ⟨xin_9 _ (List.mem_of_getElem? (i := 71) rfl), rfl⟩
theorem xcm_234 : Cond.code ⟨"OathTillModel", "finds", "(III)I"⟩ prog_14_method_103_code 6 (some .int) ∈ xgw := List.mem_filter.mpr ⟨xin_9 _ (List.mem_of_getElem? (i := 83) rfl), rfl⟩
theorem xcm_235 : Cond.code ⟨"OathTillModel", "standing", "()I"⟩ prog_14_method_105_code 3 (some .int) ∈ xgw := List.mem_filter.mpr ⟨xin_9 _ (List.mem_of_getElem? (i := 91) rfl), rfl⟩
theorem xcm_236 : Cond.code ⟨"OathTillModel", "isFrom", "(JJJ)Z"⟩ prog_14_method_18_code 6 (some .boolean) ∈ xgw := List.mem_filter.mpr ⟨xin_9 _ (List.mem_of_getElem? (i := 99) rfl), rfl⟩
theorem xcm_237 : Cond.code ⟨"OathTillModel", "canHaveBeen", "(III)Z"⟩ prog_14_method_112_code 5 (some .boolean) ∈ xgw := List.mem_filter.mpr ⟨xin_9 _ (List.mem_of_getElem? (i := 124) rfl), rfl⟩
theorem xcm_238 : Cond.code ⟨"OathTillModel", "laysWays", "(IZ)I"⟩ prog_14_method_115_code 9 (some .int) ∈ xgw := List.mem_filter.mpr ⟨xin_9 _ (List.mem_of_getElem? (i := 132) rfl), rfl⟩
theorem xcm_239 : Cond.code ⟨"OathTillModel", "isMeant", "(IIIZ)Z"⟩ prog_14_method_114_code 6 (some .boolean) ∈ xgw := List.mem_filter.mpr ⟨xin_9 _ (List.mem_of_getElem? (i := 136) rfl), rfl⟩
theorem xcm_240 : Cond.code ⟨"OathTillModel", "mostTrueOf", "(I)I"⟩ prog_14_method_118_code 10 (some .int) ∈ xgw := List.mem_filter.mpr ⟨xin_9 _ (List.mem_of_getElem? (i := 148) rfl), rfl⟩
theorem xcm_241 : Cond.code ⟨"OathTillModel", "costs", "(IIII)I"⟩ prog_14_method_124_code 10 (some .int) ∈ xgw := List.mem_filter.mpr ⟨xin_9 _ (List.mem_of_getElem? (i := 173) rfl), rfl⟩
theorem xcm_242 : Cond.code ⟨"OathTillModel", "sayableOf", "(II)I"⟩ prog_14_method_129_code 6 (some .int) ∈ xgw := List.mem_filter.mpr ⟨xin_9 _ (List.mem_of_getElem? (i := 194) rfl), rfl⟩
theorem xcm_243 : Cond.code ⟨"OathTillModel", "wordsOf", "(II)I"⟩ prog_14_method_132_code 5 (some .int) ∈ xgw := List.mem_filter.mpr ⟨xin_9 _ (List.mem_of_getElem? (i := 207) rfl), rfl⟩
theorem xcm_244 : Cond.code ⟨"OathTillModel", "tellsBy", "(JJ)Z"⟩ prog_14_method_10_code 11 (some .boolean) ∈ xgw := List.mem_filter.mpr ⟨xin_9 _ (List.mem_of_getElem? (i := 219) rfl), rfl⟩
theorem xcm_245 : Cond.code ⟨"OathTillModel", "wrongBids", "(II)I"⟩ prog_14_method_138_code 4 (some .int) ∈ xgw := List.mem_filter.mpr ⟨xin_9 _ (List.mem_of_getElem? (i := 235) rfl), rfl⟩
theorem xcm_246 : Cond.code ⟨"OathTillModel", "greatest", "(III)I"⟩ prog_14_method_139_code 6 (some .int) ∈ xgw := List.mem_filter.mpr ⟨xin_10 _ (List.mem_of_getElem? (i := 0) rfl), rfl⟩
theorem xcm_247 : Cond.code ⟨"OathTillModel", "secondBid", "(II)I"⟩ prog_14_method_140_code 4 (some .int) ∈ xgw := List.mem_filter.mpr ⟨xin_10 _ (List.mem_of_getElem? (i := 4) rfl), rfl⟩
theorem xcm_248 : Cond.code ⟨"OathTillModel", "lives", "(I)V"⟩ prog_14_method_150_code 5 (none) ∈ xgw := List.mem_filter.mpr ⟨xin_10 _ (List.mem_of_getElem? (i := 17) rfl), rfl⟩
theorem xcm_249 : Cond.code ⟨"OathTillModel", "does", "(I)Z"⟩ prog_14_method_147_code 2 (some .boolean) ∈ xgw := List.mem_filter.mpr ⟨xin_10 _ (List.mem_of_getElem? (i := 21) rfl), rfl⟩
theorem xcm_250 : Cond.code ⟨"OathTillModel", "behindEnds", "(I)I"⟩ prog_14_method_149_code 5 (some .int) ∈ xgw := List.mem_filter.mpr ⟨xin_10 _ (List.mem_of_getElem? (i := 46) rfl), rfl⟩
theorem xcm_251 : Cond.code ⟨"OathTillModel", "holds", "(I)Z"⟩ prog_14_method_148_code 4 (some .boolean) ∈ xgw := List.mem_filter.mpr ⟨xin_10 _ (List.mem_of_getElem? (i := 42) rfl), rfl⟩
theorem xcm_252 : Cond.code ⟨"OathTillModel", "swearsAny", "(II)Z"⟩ prog_14_method_145_code 8 (some .boolean) ∈ xgw := List.mem_filter.mpr ⟨xin_10 _ (List.mem_of_getElem? (i := 29) rfl), rfl⟩
theorem xcm_253 : Cond.code ⟨"OathTillModel", "draw", "(I)I"⟩ prog_14_method_143_code 2 (some .int) ∈ xgw := List.mem_filter.mpr ⟨xin_10 _ (List.mem_of_getElem? (i := 33) rfl), rfl⟩
theorem xcm_254 : Cond.code ⟨"OathTillModel", "swearsBy", "(IIII)Z"⟩ prog_14_method_144_code 5 (some .boolean) ∈ xgw := List.mem_filter.mpr ⟨xin_10 _ (List.mem_of_getElem? (i := 25) rfl), rfl⟩
theorem xcm_255 : Cond.code ⟨"OathTillModel", "recants", "(I)Z"⟩ prog_14_method_146_code 3 (some .boolean) ∈ xgw := List.mem_filter.mpr ⟨xin_10 _ (List.mem_of_getElem? (i := 38) rfl), rfl⟩
theorem xcm_256 : Cond.code ⟨"OathTillModel", "moves", "(II)V"⟩ prog_14_method_154_code 4 (none) ∈ xgw := List.mem_filter.mpr ⟨xin_10 _ (List.mem_of_getElem? (i := 63) rfl), rfl⟩
theorem xcm_257 : Cond.code ⟨"OathTill", "status", "()I"⟩ prog_1_method_2_code 1 (some .int) ∈ xgw := List.mem_filter.mpr ⟨xin_3 _ (List.mem_of_getElem? (i := 172) rfl), rfl⟩
theorem xcm_258 : Cond.code ⟨"OathTillModel", "status", "()I"⟩ prog_14_method_3_code 1 (some .int) ∈ xgw := List.mem_filter.mpr ⟨xin_7 _ (List.mem_of_getElem? (i := 168) rfl), rfl⟩
theorem xcm_259 : Cond.code ⟨"OathTill", "top", "()J"⟩ prog_1_method_3_code 1 (some .long) ∈ xgw := List.mem_filter.mpr ⟨xin_3 _ (List.mem_of_getElem? (i := 176) rfl), rfl⟩
theorem xcm_260 : Cond.code ⟨"OathTillModel", "top", "()J"⟩ prog_14_method_4_code 1 (some .long) ∈ xgw := List.mem_filter.mpr ⟨xin_7 _ (List.mem_of_getElem? (i := 172) rfl), rfl⟩
theorem xcm_261 : Cond.code ⟨"OathTill", "bottom", "()J"⟩ prog_1_method_4_code 1 (some .long) ∈ xgw := List.mem_filter.mpr ⟨xin_3 _ (List.mem_of_getElem? (i := 180) rfl), rfl⟩
theorem xcm_262 : Cond.code ⟨"OathTillModel", "bottom", "()J"⟩ prog_14_method_5_code 1 (some .long) ∈ xgw := List.mem_filter.mpr ⟨xin_7 _ (List.mem_of_getElem? (i := 176) rfl), rfl⟩
theorem xcm_263 : Cond.code ⟨"OathTill", "tray", "(III)Z"⟩ prog_1_method_13_code 4 (some .boolean) ∈ xgw := List.mem_filter.mpr ⟨xin_3 _ (List.mem_of_getElem? (i := 184) rfl), rfl⟩
theorem xcm_264 : Cond.code ⟨"OathTillModel", "tray", "(III)Z"⟩ prog_14_method_13_code 5 (some .boolean) ∈ xgw := List.mem_filter.mpr ⟨xin_7 _ (List.mem_of_getElem? (i := 180) rfl), rfl⟩
theorem xcm_265 : Cond.code ⟨"OathTill", "write", "(IIJ)Z"⟩ prog_1_method_15_code 6 (some .boolean) ∈ xgw := List.mem_filter.mpr ⟨xin_3 _ (List.mem_of_getElem? (i := 206) rfl), rfl⟩
theorem xcm_266 : Cond.code ⟨"OathTillModel", "write", "(IIJ)Z"⟩ prog_14_method_15_code 6 (some .boolean) ∈ xgw := List.mem_filter.mpr ⟨xin_7 _ (List.mem_of_getElem? (i := 191) rfl), rfl⟩
theorem xcm_267 : Cond.code ⟨"OathTill", "read", "(II)J"⟩ prog_1_method_16_code 4 (some .long) ∈ xgw := List.mem_filter.mpr ⟨xin_3 _ (List.mem_of_getElem? (i := 218) rfl), rfl⟩
theorem xcm_268 : Cond.code ⟨"OathTillModel", "read", "(II)J"⟩ prog_14_method_16_code 3 (some .long) ∈ xgw := List.mem_filter.mpr ⟨xin_7 _ (List.mem_of_getElem? (i := 202) rfl), rfl⟩
theorem xcm_269 : Cond.code ⟨"OathTill", "pour", "(IIIII)Z"⟩ prog_1_method_18_code 7 (some .boolean) ∈ xgw := List.mem_filter.mpr ⟨xin_3 _ (List.mem_of_getElem? (i := 226) rfl), rfl⟩
theorem xcm_270 : Cond.code ⟨"OathTillModel", "pour", "(IIIII)Z"⟩ prog_14_method_17_code 8 (some .boolean) ∈ xgw := List.mem_filter.mpr ⟨xin_7 _ (List.mem_of_getElem? (i := 207) rfl), rfl⟩
theorem xcm_271 : Cond.code ⟨"OathTill", "feed", "(IIIII)I"⟩ prog_1_method_20_code 6 (some .int) ∈ xgw := List.mem_filter.mpr ⟨xin_3 _ (List.mem_of_getElem? (i := 237) rfl), rfl⟩
theorem xcm_272 : Cond.code ⟨"OathTillModel", "feed", "(IIIII)I"⟩ prog_14_method_19_code 6 (some .int) ∈ xgw := List.mem_filter.mpr ⟨xin_7 _ (List.mem_of_getElem? (i := 211) rfl), rfl⟩
theorem xcm_273 : Cond.code ⟨"OathTill", "court", "(I)I"⟩ prog_1_method_21_code 2 (some .int) ∈ xgw := List.mem_filter.mpr ⟨xin_4 _ (List.mem_of_getElem? (i := 5) rfl), rfl⟩
theorem xcm_274 : Cond.code ⟨"OathTillModel", "court", "(I)I"⟩ prog_14_method_48_code 4 (some .int) ∈ xgw := List.mem_filter.mpr ⟨xin_7 _ (List.mem_of_getElem? (i := 223) rfl), rfl⟩
theorem xcm_275 : Cond.code ⟨"OathTill", "trials", "(I)I"⟩ prog_1_method_22_code 2 (some .int) ∈ xgw := List.mem_filter.mpr ⟨xin_4 _ (List.mem_of_getElem? (i := 147) rfl), rfl⟩
theorem xcm_276 : Cond.code ⟨"OathTillModel", "trials", "(I)I"⟩ prog_14_method_55_code 4 (some .int) ∈ xgw := List.mem_filter.mpr ⟨xin_8 _ (List.mem_of_getElem? (i := 102) rfl), rfl⟩
theorem xcm_277 : Cond.code ⟨"OathTill", "fault", "(I)I"⟩ prog_1_method_23_code 2 (some .int) ∈ xgw := List.mem_filter.mpr ⟨xin_4 _ (List.mem_of_getElem? (i := 196) rfl), rfl⟩
theorem xcm_278 : Cond.code ⟨"OathTillModel", "fault", "(I)I"⟩ prog_14_method_35_code 2 (some .int) ∈ xgw := List.mem_filter.mpr ⟨xin_7 _ (List.mem_of_getElem? (i := 219) rfl), rfl⟩
theorem xcm_279 : Cond.code ⟨"OathTill", "told", "(I)I"⟩ prog_1_method_24_code 2 (some .int) ∈ xgw := List.mem_filter.mpr ⟨xin_4 _ (List.mem_of_getElem? (i := 200) rfl), rfl⟩
theorem xcm_280 : Cond.code ⟨"OathTillModel", "told", "(I)I"⟩ prog_14_method_77_code 5 (some .int) ∈ xgw := List.mem_filter.mpr ⟨xin_8 _ (List.mem_of_getElem? (i := 130) rfl), rfl⟩
theorem xcm_281 : Cond.code ⟨"OathTill", "mile", "(I)I"⟩ prog_1_method_25_code 2 (some .int) ∈ xgw := List.mem_filter.mpr ⟨xin_4 _ (List.mem_of_getElem? (i := 220) rfl), rfl⟩
theorem xcm_282 : Cond.code ⟨"OathTillModel", "mile", "(I)I"⟩ prog_14_method_78_code 2 (some .int) ∈ xgw := List.mem_filter.mpr ⟨xin_8 _ (List.mem_of_getElem? (i := 165) rfl), rfl⟩
theorem xcm_283 : Cond.code ⟨"OathTill", "person", "(II)I"⟩ prog_1_method_26_code 4 (some .int) ∈ xgw := List.mem_filter.mpr ⟨xin_4 _ (List.mem_of_getElem? (i := 228) rfl), rfl⟩
theorem xcm_284 : Cond.code ⟨"OathTillModel", "person", "(II)I"⟩ prog_14_method_79_code 6 (some .int) ∈ xgw := List.mem_filter.mpr ⟨xin_8 _ (List.mem_of_getElem? (i := 173) rfl), rfl⟩
theorem xcm_285 : Cond.code ⟨"OathTill", "knows", "(II)I"⟩ prog_1_method_28_code 3 (some .int) ∈ xgw := List.mem_filter.mpr ⟨xin_5 _ (List.mem_of_getElem? (i := 4) rfl), rfl⟩
theorem xcm_286 : Cond.code ⟨"OathTillModel", "knows", "(II)I"⟩ prog_14_method_80_code 3 (some .int) ∈ xgw := List.mem_filter.mpr ⟨xin_8 _ (List.mem_of_getElem? (i := 196) rfl), rfl⟩
theorem xcm_287 : Cond.code ⟨"OathTill", "kin", "(I)I"⟩ prog_1_method_29_code 2 (some .int) ∈ xgw := List.mem_filter.mpr ⟨xin_5 _ (List.mem_of_getElem? (i := 12) rfl), rfl⟩
theorem xcm_288 : Cond.code ⟨"OathTillModel", "kin", "(I)I"⟩ prog_14_method_81_code 5 (some .int) ∈ xgw := List.mem_filter.mpr ⟨xin_8 _ (List.mem_of_getElem? (i := 212) rfl), rfl⟩
theorem xcm_289 : Cond.code ⟨"OathTill", "known", "(II)I"⟩ prog_1_method_30_code 4 (some .int) ∈ xgw := List.mem_filter.mpr ⟨xin_5 _ (List.mem_of_getElem? (i := 20) rfl), rfl⟩
theorem xcm_290 : Cond.code ⟨"OathTillModel", "known", "(II)I"⟩ prog_14_method_82_code 3 (some .int) ∈ xgw := List.mem_filter.mpr ⟨xin_8 _ (List.mem_of_getElem? (i := 216) rfl), rfl⟩
theorem xcm_291 : Cond.code ⟨"OathTill", "oath", "(II)I"⟩ prog_1_method_31_code 4 (some .int) ∈ xgw := List.mem_filter.mpr ⟨xin_5 _ (List.mem_of_getElem? (i := 27) rfl), rfl⟩
theorem xcm_292 : Cond.code ⟨"OathTillModel", "oath", "(II)I"⟩ prog_14_method_83_code 3 (some .int) ∈ xgw := List.mem_filter.mpr ⟨xin_8 _ (List.mem_of_getElem? (i := 223) rfl), rfl⟩
theorem xcm_293 : Cond.code ⟨"OathTill", "why", "(IIII)I"⟩ prog_1_method_33_code 5 (some .int) ∈ xgw := List.mem_filter.mpr ⟨xin_5 _ (List.mem_of_getElem? (i := 39) rfl), rfl⟩
theorem xcm_294 : Cond.code ⟨"OathTillModel", "why", "(IIII)I"⟩ prog_14_method_90_code 5 (some .int) ∈ xgw := List.mem_filter.mpr ⟨xin_8 _ (List.mem_of_getElem? (i := 231) rfl), rfl⟩
theorem xcm_295 : Cond.code ⟨"OathTill", "fee", "(IIII)I"⟩ prog_1_method_34_code 5 (some .int) ∈ xgw := List.mem_filter.mpr ⟨xin_5 _ (List.mem_of_getElem? (i := 84) rfl), rfl⟩
theorem xcm_296 : Cond.code ⟨"OathTillModel", "fee", "(IIII)I"⟩ prog_14_method_91_code 5 (some .int) ∈ xgw := List.mem_filter.mpr ⟨xin_9 _ (List.mem_of_getElem? (i := 30) rfl), rfl⟩
theorem xcm_297 : Cond.code ⟨"OathTill", "gainsaid", "(IIII)I"⟩ prog_1_method_35_code 5 (some .int) ∈ xgw := List.mem_filter.mpr ⟨xin_5 _ (List.mem_of_getElem? (i := 89) rfl), rfl⟩
theorem xcm_298 : Cond.code ⟨"OathTillModel", "gainsaid", "(IIII)I"⟩ prog_14_method_92_code 5 (some .int) ∈ xgw := List.mem_filter.mpr ⟨xin_9 _ (List.mem_of_getElem? (i := 34) rfl), rfl⟩
theorem xcm_299 : Cond.code ⟨"OathTill", "backed", "(III)I"⟩ prog_1_method_36_code 4 (some .int) ∈ xgw := List.mem_filter.mpr ⟨xin_5 _ (List.mem_of_getElem? (i := 94) rfl), rfl⟩
theorem xcm_300 : Cond.code ⟨"OathTillModel", "backed", "(III)I"⟩ prog_14_method_93_code 4 (some .int) ∈ xgw := List.mem_filter.mpr ⟨xin_9 _ (List.mem_of_getElem? (i := 38) rfl), rfl⟩
theorem xcm_301 : Cond.code ⟨"OathTill", "voids", "(IIII)I"⟩ prog_1_method_37_code 5 (some .int) ∈ xgw := List.mem_filter.mpr ⟨xin_5 _ (List.mem_of_getElem? (i := 106) rfl), rfl⟩
theorem xcm_302 : Cond.code ⟨"OathTillModel", "voids", "(IIII)I"⟩ prog_14_method_101_code 6 (some .int) ∈ xgw := List.mem_filter.mpr ⟨xin_9 _ (List.mem_of_getElem? (i := 42) rfl), rfl⟩
theorem xcm_303 : Cond.code ⟨"OathTill", "swear", "(IIII)I"⟩ prog_1_method_38_code 5 (some .int) ∈ xgw := List.mem_filter.mpr ⟨xin_5 _ (List.mem_of_getElem? (i := 127) rfl), rfl⟩
theorem xcm_304 : Cond.code ⟨"OathTillModel", "swear", "(IIII)I"⟩ prog_14_method_102_code 5 (some .int) ∈ xgw := List.mem_filter.mpr ⟨xin_9 _ (List.mem_of_getElem? (i := 75) rfl), rfl⟩
theorem xcm_305 : Cond.code ⟨"OathTill", "find", "(III)I"⟩ prog_1_method_39_code 4 (some .int) ∈ xgw := List.mem_filter.mpr ⟨xin_5 _ (List.mem_of_getElem? (i := 136) rfl), rfl⟩
theorem xcm_306 : Cond.code ⟨"OathTillModel", "find", "(III)I"⟩ prog_14_method_104_code 4 (some .int) ∈ xgw := List.mem_filter.mpr ⟨xin_9 _ (List.mem_of_getElem? (i := 79) rfl), rfl⟩
theorem xcm_307 : Cond.code ⟨"OathTill", "recant", "(I)I"⟩ prog_1_method_40_code 2 (some .int) ∈ xgw := List.mem_filter.mpr ⟨xin_5 _ (List.mem_of_getElem? (i := 148) rfl), rfl⟩
theorem xcm_308 : Cond.code ⟨"OathTillModel", "recant", "(I)I"⟩ prog_14_method_106_code 2 (some .int) ∈ xgw := List.mem_filter.mpr ⟨xin_9 _ (List.mem_of_getElem? (i := 87) rfl), rfl⟩
theorem xcm_309 : Cond.code ⟨"OathTill", "earn", "(II)I"⟩ prog_1_method_41_code 4 (some .int) ∈ xgw := List.mem_filter.mpr ⟨xin_5 _ (List.mem_of_getElem? (i := 152) rfl), rfl⟩
theorem xcm_310 : Cond.code ⟨"OathTillModel", "earn", "(II)I"⟩ prog_14_method_107_code 3 (some .int) ∈ xgw := List.mem_filter.mpr ⟨xin_9 _ (List.mem_of_getElem? (i := 95) rfl), rfl⟩
theorem xcm_311 : Cond.code ⟨"OathTill", "meet", "(II)Z"⟩ prog_1_method_42_code 3 (some .boolean) ∈ xgw := List.mem_filter.mpr ⟨xin_5 _ (List.mem_of_getElem? (i := 156) rfl), rfl⟩
theorem xcm_312 : Cond.code ⟨"OathTillModel", "meet", "(II)Z"⟩ prog_14_method_108_code 3 (some .boolean) ∈ xgw := List.mem_filter.mpr ⟨xin_9 _ (List.mem_of_getElem? (i := 103) rfl), rfl⟩
theorem xcm_313 : Cond.code ⟨"OathTill", "ride", "(I)Z"⟩ prog_1_method_43_code 2 (some .boolean) ∈ xgw := List.mem_filter.mpr ⟨xin_5 _ (List.mem_of_getElem? (i := 165) rfl), rfl⟩
theorem xcm_314 : Cond.code ⟨"OathTillModel", "ride", "(I)Z"⟩ prog_14_method_109_code 2 (some .boolean) ∈ xgw := List.mem_filter.mpr ⟨xin_9 _ (List.mem_of_getElem? (i := 107) rfl), rfl⟩
theorem xcm_315 : Cond.code ⟨"OathTill", "fits", "(II)I"⟩ prog_1_method_44_code 6 (some .int) ∈ xgw := List.mem_filter.mpr ⟨xin_5 _ (List.mem_of_getElem? (i := 169) rfl), rfl⟩
theorem xcm_316 : Cond.code ⟨"OathTillModel", "fits", "(II)I"⟩ prog_14_method_110_code 3 (some .int) ∈ xgw := List.mem_filter.mpr ⟨xin_9 _ (List.mem_of_getElem? (i := 112) rfl), rfl⟩
theorem xcm_317 : Cond.code ⟨"OathTill", "road", "(II)I"⟩ prog_1_method_45_code 4 (some .int) ∈ xgw := List.mem_filter.mpr ⟨xin_5 _ (List.mem_of_getElem? (i := 177) rfl), rfl⟩
theorem xcm_318 : Cond.code ⟨"OathTillModel", "road", "(II)I"⟩ prog_14_method_111_code 4 (some .int) ∈ xgw := List.mem_filter.mpr ⟨xin_9 _ (List.mem_of_getElem? (i := 116) rfl), rfl⟩
theorem xcm_319 : Cond.code ⟨"OathTill", "canBe", "(II)I"⟩ prog_1_method_47_code 3 (some .int) ∈ xgw := List.mem_filter.mpr ⟨xin_5 _ (List.mem_of_getElem? (i := 188) rfl), rfl⟩
theorem xcm_320 : Cond.code ⟨"OathTillModel", "canBe", "(II)I"⟩ prog_14_method_113_code 5 (some .int) ∈ xgw := List.mem_filter.mpr ⟨xin_9 _ (List.mem_of_getElem? (i := 120) rfl), rfl⟩
theorem xcm_321 : Cond.code ⟨"OathTill", "ways", "(IZ)I"⟩ prog_1_method_48_code 3 (some .int) ∈ xgw := List.mem_filter.mpr ⟨xin_5 _ (List.mem_of_getElem? (i := 210) rfl), rfl⟩
theorem xcm_322 : Cond.code ⟨"OathTillModel", "ways", "(IZ)I"⟩ prog_14_method_116_code 3 (some .int) ∈ xgw := List.mem_filter.mpr ⟨xin_9 _ (List.mem_of_getElem? (i := 128) rfl), rfl⟩
theorem xcm_323 : Cond.code ⟨"OathTill", "reach", "(IIZ)I"⟩ prog_1_method_49_code 4 (some .int) ∈ xgw := List.mem_filter.mpr ⟨xin_5 _ (List.mem_of_getElem? (i := 227) rfl), rfl⟩
theorem xcm_324 : Cond.code ⟨"OathTillModel", "reach", "(IIZ)I"⟩ prog_14_method_117_code 6 (some .int) ∈ xgw := List.mem_filter.mpr ⟨xin_9 _ (List.mem_of_getElem? (i := 140) rfl), rfl⟩
theorem xcm_325 : Cond.code ⟨"OathTill", "mostTrue", "(I)I"⟩ prog_1_method_50_code 2 (some .int) ∈ xgw := List.mem_filter.mpr ⟨xin_5 _ (List.mem_of_getElem? (i := 239) rfl), rfl⟩
theorem xcm_326 : Cond.code ⟨"OathTillModel", "mostTrue", "(I)I"⟩ prog_14_method_119_code 2 (some .int) ∈ xgw := List.mem_filter.mpr ⟨xin_9 _ (List.mem_of_getElem? (i := 144) rfl), rfl⟩
theorem xcm_327 : Cond.code ⟨"OathTill", "mostTrueSet", "(I)I"⟩ prog_1_method_51_code 2 (some .int) ∈ xgw := List.mem_filter.mpr ⟨xin_6 _ (List.mem_of_getElem? (i := 21) rfl), rfl⟩
theorem xcm_328 : Cond.code ⟨"OathTillModel", "mostTrueSet", "(I)I"⟩ prog_14_method_120_code 2 (some .int) ∈ xgw := List.mem_filter.mpr ⟨xin_9 _ (List.mem_of_getElem? (i := 152) rfl), rfl⟩
theorem xcm_329 : Cond.code ⟨"OathTill", "clashes", "(I)I"⟩ prog_1_method_52_code 2 (some .int) ∈ xgw := List.mem_filter.mpr ⟨xin_6 _ (List.mem_of_getElem? (i := 25) rfl), rfl⟩
theorem xcm_330 : Cond.code ⟨"OathTillModel", "clashes", "(I)I"⟩ prog_14_method_121_code 5 (some .int) ∈ xgw := List.mem_filter.mpr ⟨xin_9 _ (List.mem_of_getElem? (i := 156) rfl), rfl⟩
theorem xcm_331 : Cond.code ⟨"OathTill", "doubt", "(I)I"⟩ prog_1_method_53_code 2 (some .int) ∈ xgw := List.mem_filter.mpr ⟨xin_6 _ (List.mem_of_getElem? (i := 34) rfl), rfl⟩
theorem xcm_332 : Cond.code ⟨"OathTillModel", "doubt", "(I)I"⟩ prog_14_method_122_code 2 (some .int) ∈ xgw := List.mem_filter.mpr ⟨xin_9 _ (List.mem_of_getElem? (i := 160) rfl), rfl⟩
theorem xcm_333 : Cond.code ⟨"OathTill", "believed", "(II)I"⟩ prog_1_method_54_code 4 (some .int) ∈ xgw := List.mem_filter.mpr ⟨xin_6 _ (List.mem_of_getElem? (i := 47) rfl), rfl⟩
theorem xcm_334 : Cond.code ⟨"OathTillModel", "believed", "(II)I"⟩ prog_14_method_123_code 7 (some .int) ∈ xgw := List.mem_filter.mpr ⟨xin_9 _ (List.mem_of_getElem? (i := 164) rfl), rfl⟩
theorem xcm_335 : Cond.code ⟨"OathTill", "alibi", "(IIII)I"⟩ prog_1_method_55_code 6 (some .int) ∈ xgw := List.mem_filter.mpr ⟨xin_6 _ (List.mem_of_getElem? (i := 56) rfl), rfl⟩
theorem xcm_336 : Cond.code ⟨"OathTillModel", "alibi", "(IIII)I"⟩ prog_14_method_125_code 9 (some .int) ∈ xgw := List.mem_filter.mpr ⟨xin_9 _ (List.mem_of_getElem? (i := 168) rfl), rfl⟩
theorem xcm_337 : Cond.code ⟨"OathTill", "alibiBy", "(I)I"⟩ prog_1_method_56_code 2 (some .int) ∈ xgw := List.mem_filter.mpr ⟨xin_6 _ (List.mem_of_getElem? (i := 82) rfl), rfl⟩
theorem xcm_338 : Cond.code ⟨"OathTillModel", "alibiBy", "(I)I"⟩ prog_14_method_126_code 2 (some .int) ∈ xgw := List.mem_filter.mpr ⟨xin_9 _ (List.mem_of_getElem? (i := 177) rfl), rfl⟩
theorem xcm_339 : Cond.code ⟨"OathTill", "call", "(II)I"⟩ prog_1_method_57_code 4 (some .int) ∈ xgw := List.mem_filter.mpr ⟨xin_6 _ (List.mem_of_getElem? (i := 86) rfl), rfl⟩
theorem xcm_340 : Cond.code ⟨"OathTillModel", "call", "(II)I"⟩ prog_14_method_127_code 10 (some .int) ∈ xgw := List.mem_filter.mpr ⟨xin_9 _ (List.mem_of_getElem? (i := 181) rfl), rfl⟩
theorem xcm_341 : Cond.code ⟨"OathTill", "callBy", "(I)I"⟩ prog_1_method_58_code 2 (some .int) ∈ xgw := List.mem_filter.mpr ⟨xin_6 _ (List.mem_of_getElem? (i := 99) rfl), rfl⟩
theorem xcm_342 : Cond.code ⟨"OathTillModel", "callBy", "(I)I"⟩ prog_14_method_128_code 2 (some .int) ∈ xgw := List.mem_filter.mpr ⟨xin_9 _ (List.mem_of_getElem? (i := 186) rfl), rfl⟩
theorem xcm_343 : Cond.code ⟨"OathTill", "sayable", "(II)I"⟩ prog_1_method_59_code 3 (some .int) ∈ xgw := List.mem_filter.mpr ⟨xin_6 _ (List.mem_of_getElem? (i := 103) rfl), rfl⟩
theorem xcm_344 : Cond.code ⟨"OathTillModel", "sayable", "(II)I"⟩ prog_14_method_130_code 3 (some .int) ∈ xgw := List.mem_filter.mpr ⟨xin_9 _ (List.mem_of_getElem? (i := 190) rfl), rfl⟩
theorem xcm_345 : Cond.code ⟨"OathTill", "dearest", "(II)I"⟩ prog_1_method_60_code 4 (some .int) ∈ xgw := List.mem_filter.mpr ⟨xin_6 _ (List.mem_of_getElem? (i := 112) rfl), rfl⟩
theorem xcm_346 : Cond.code ⟨"OathTillModel", "dearest", "(II)I"⟩ prog_14_method_131_code 6 (some .int) ∈ xgw := List.mem_filter.mpr ⟨xin_9 _ (List.mem_of_getElem? (i := 198) rfl), rfl⟩
theorem xcm_347 : Cond.code ⟨"OathTill", "liar", "()I"⟩ prog_1_method_61_code 5 (some .int) ∈ xgw := List.mem_filter.mpr ⟨xin_6 _ (List.mem_of_getElem? (i := 123) rfl), rfl⟩
theorem xcm_348 : Cond.code ⟨"OathTillModel", "liar", "()I"⟩ prog_14_method_133_code 3 (some .int) ∈ xgw := List.mem_filter.mpr ⟨xin_9 _ (List.mem_of_getElem? (i := 203) rfl), rfl⟩
theorem xcm_349 : Cond.code ⟨"OathTill", "doubted", "()I"⟩ prog_1_method_62_code 5 (some .int) ∈ xgw := List.mem_filter.mpr ⟨xin_6 _ (List.mem_of_getElem? (i := 131) rfl), rfl⟩
theorem xcm_350 : Cond.code ⟨"OathTillModel", "doubted", "()I"⟩ prog_14_method_134_code 3 (some .int) ∈ xgw := List.mem_filter.mpr ⟨xin_9 _ (List.mem_of_getElem? (i := 211) rfl), rfl⟩
theorem xcm_351 : Cond.code ⟨"OathTill", "kept", "()Z"⟩ prog_1_method_63_code 2 (some .boolean) ∈ xgw := List.mem_filter.mpr ⟨xin_6 _ (List.mem_of_getElem? (i := 135) rfl), rfl⟩
theorem xcm_352 : Cond.code ⟨"OathTillModel", "kept", "()Z"⟩ prog_14_method_135_code 3 (some .boolean) ∈ xgw := List.mem_filter.mpr ⟨xin_9 _ (List.mem_of_getElem? (i := 215) rfl), rfl⟩
theorem xcm_353 : Cond.code ⟨"OathTill", "word", "(II)I"⟩ prog_1_method_64_code 3 (some .int) ∈ xgw := List.mem_filter.mpr ⟨xin_6 _ (List.mem_of_getElem? (i := 150) rfl), rfl⟩
theorem xcm_354 : Cond.code ⟨"OathTillModel", "word", "(II)I"⟩ prog_14_method_136_code 3 (some .int) ∈ xgw := List.mem_filter.mpr ⟨xin_9 _ (List.mem_of_getElem? (i := 223) rfl), rfl⟩
theorem xcm_355 : Cond.code ⟨"OathTill", "liars", "(I)I"⟩ prog_1_method_65_code 2 (some .int) ∈ xgw := List.mem_filter.mpr ⟨xin_6 _ (List.mem_of_getElem? (i := 158) rfl), rfl⟩
theorem xcm_356 : Cond.code ⟨"OathTillModel", "liars", "(I)I"⟩ prog_14_method_137_code 4 (some .int) ∈ xgw := List.mem_filter.mpr ⟨xin_9 _ (List.mem_of_getElem? (i := 227) rfl), rfl⟩
theorem xcm_357 : Cond.code ⟨"OathTill", "auction", "(II)I"⟩ prog_1_method_67_code 5 (some .int) ∈ xgw := List.mem_filter.mpr ⟨xin_6 _ (List.mem_of_getElem? (i := 166) rfl), rfl⟩
theorem xcm_358 : Cond.code ⟨"OathTillModel", "auction", "(II)I"⟩ prog_14_method_141_code 5 (some .int) ∈ xgw := List.mem_filter.mpr ⟨xin_9 _ (List.mem_of_getElem? (i := 231) rfl), rfl⟩
theorem xcm_359 : Cond.code ⟨"OathTill", "hammer", "(II)I"⟩ prog_1_method_68_code 4 (some .int) ∈ xgw := List.mem_filter.mpr ⟨xin_6 _ (List.mem_of_getElem? (i := 187) rfl), rfl⟩
theorem xcm_360 : Cond.code ⟨"OathTillModel", "hammer", "(II)I"⟩ prog_14_method_142_code 4 (some .int) ∈ xgw := List.mem_filter.mpr ⟨xin_10 _ (List.mem_of_getElem? (i := 8) rfl), rfl⟩
theorem xcm_361 : Cond.code ⟨"OathTill", "live", "(I)I"⟩ prog_1_method_69_code 2 (some .int) ∈ xgw := List.mem_filter.mpr ⟨xin_6 _ (List.mem_of_getElem? (i := 195) rfl), rfl⟩
theorem xcm_362 : Cond.code ⟨"OathTillModel", "live", "(I)I"⟩ prog_14_method_151_code 3 (some .int) ∈ xgw := List.mem_filter.mpr ⟨xin_10 _ (List.mem_of_getElem? (i := 12) rfl), rfl⟩
theorem xcm_363 : Cond.code ⟨"OathTill", "lived", "(I)I"⟩ prog_1_method_70_code 2 (some .int) ∈ xgw := List.mem_filter.mpr ⟨xin_7 _ (List.mem_of_getElem? (i := 16) rfl), rfl⟩
theorem xcm_364 : Cond.code ⟨"OathTillModel", "lived", "(I)I"⟩ prog_14_method_152_code 2 (some .int) ∈ xgw := List.mem_filter.mpr ⟨xin_10 _ (List.mem_of_getElem? (i := 50) rfl), rfl⟩
theorem xcm_365 : Cond.code ⟨"OathTill", "mean", "(II)Z"⟩ prog_1_method_71_code 6 (some .boolean) ∈ xgw := List.mem_filter.mpr ⟨xin_7 _ (List.mem_of_getElem? (i := 24) rfl), rfl⟩
theorem xcm_366 : Cond.code ⟨"OathTillModel", "mean", "(II)Z"⟩ prog_14_method_153_code 7 (some .boolean) ∈ xgw := List.mem_filter.mpr ⟨xin_10 _ (List.mem_of_getElem? (i := 54) rfl), rfl⟩
theorem xcm_367 : Cond.code ⟨"OathTill", "mark", "()I"⟩ prog_1_method_72_code 1 (some .int) ∈ xgw := List.mem_filter.mpr ⟨xin_7 _ (List.mem_of_getElem? (i := 29) rfl), rfl⟩
theorem xcm_368 : Cond.code ⟨"OathTillModel", "mark", "()I"⟩ prog_14_method_155_code 1 (some .int) ∈ xgw := List.mem_filter.mpr ⟨xin_10 _ (List.mem_of_getElem? (i := 59) rfl), rfl⟩
theorem xcm_369 : Cond.code ⟨"OathTill", "undo", "()I"⟩ prog_1_method_73_code 1 (some .int) ∈ xgw := List.mem_filter.mpr ⟨xin_7 _ (List.mem_of_getElem? (i := 33) rfl), rfl⟩
theorem xcm_370 : Cond.code ⟨"OathTillModel", "undo", "()I"⟩ prog_14_method_156_code 1 (some .int) ∈ xgw := List.mem_filter.mpr ⟨xin_10 _ (List.mem_of_getElem? (i := 67) rfl), rfl⟩
/-- all leaves, as a statement -/
def xallP {α : Type} (t : Lean.RArray (Nat × α)) (P : Nat → α → Prop) : Prop := Lean.RArray.rec (motive := fun _ => Prop) (fun q => P q.1 q.2) (fun _ _ _ a b => a ∧ b) t
theorem xallP_get {α : Type} (t : Lean.RArray (Nat × α)) (P : Nat → α → Prop) (h : xallP t P) (k : Nat) (v : α) (hg : xg t k = some v) : P k v := by
  induction t with
  | leaf q =>
    rw [xg_leaf] at hg
    cases hb : Nat.beq q.1 k with
    | false => rw [hb] at hg; cases hg
    | true =>
      rw [hb] at hg
      have e : q.1 = k := Nat.eq_of_beq_eq_true hb
      have e2 : q.2 = v := Option.some.inj hg
      rw [← e, ← e2]
      exact h
  | branch p a b iha ihb =>
    obtain ⟨h1, h2⟩ : xallP a P ∧ xallP b P := h
    rw [xg_branch] at hg
    cases hb : Nat.ble p k with
    | true => rw [hb] at hg; exact ihb h2 hg
    | false => rw [hb] at hg; exact iha h1 hg
set_option maxRecDepth 100000 in
theorem xW_ok : xallP xXM (fun z _ => z = 0 ∨ Cond.code (xnm z) (xby z) (xu xmeth z).2.2.2.2.2 (xrtt z) ∈ xgw) := ⟨⟨⟨⟨⟨⟨⟨⟨Or.inl rfl, Or.inr xcm_1⟩, ⟨Or.inr xcm_2, ⟨Or.inr xcm_3, Or.inr xcm_4⟩⟩⟩, ⟨⟨Or.inr xcm_5, ⟨Or.inr xcm_6, Or.inr xcm_7⟩⟩, ⟨Or.inr xcm_8, ⟨Or.inr xcm_9, Or.inr xcm_10⟩⟩⟩⟩, ⟨⟨⟨Or.inr xcm_11, ⟨Or.inr xcm_12, Or.inr xcm_13⟩⟩, ⟨Or.inr xcm_14, ⟨Or.inr xcm_15, Or.inr xcm_16⟩⟩⟩, ⟨⟨Or.inr xcm_17, ⟨Or.inr xcm_18, Or.inr xcm_19⟩⟩, ⟨Or.inr xcm_20, ⟨Or.inr xcm_21, Or.inr xcm_22⟩⟩⟩⟩⟩, ⟨⟨⟨⟨Or.inr xcm_23, Or.inr xcm_24⟩, ⟨Or.inr xcm_25, ⟨Or.inr xcm_26, Or.inr xcm_27⟩⟩⟩, ⟨⟨Or.inr xcm_28, ⟨Or.inr xcm_29, Or.inr xcm_30⟩⟩, ⟨Or.inr xcm_31, ⟨Or.inr xcm_32, Or.inr xcm_33⟩⟩⟩⟩, ⟨⟨⟨Or.inr xcm_34, ⟨Or.inr xcm_35, Or.inr xcm_36⟩⟩, ⟨Or.inr xcm_37, ⟨Or.inr xcm_38, Or.inr xcm_39⟩⟩⟩, ⟨⟨Or.inr xcm_40, ⟨Or.inr xcm_41, Or.inr xcm_42⟩⟩, ⟨Or.inr xcm_43, ⟨Or.inr xcm_44, Or.inr xcm_45⟩⟩⟩⟩⟩⟩, ⟨⟨⟨⟨⟨Or.inr xcm_46, Or.inr xcm_47⟩, ⟨Or.inr xcm_48, ⟨Or.inr xcm_49, Or.inr xcm_50⟩⟩⟩, ⟨⟨Or.inr xcm_51, ⟨Or.inr xcm_52, Or.inr xcm_53⟩⟩, ⟨Or.inr xcm_54, ⟨Or.inr xcm_55, Or.inr xcm_56⟩⟩⟩⟩, ⟨⟨⟨Or.inr xcm_57, ⟨Or.inr xcm_58, Or.inr xcm_59⟩⟩, ⟨Or.inr xcm_60, ⟨Or.inr xcm_61, Or.inr xcm_62⟩⟩⟩, ⟨⟨Or.inr xcm_63, ⟨Or.inr xcm_64, Or.inr xcm_65⟩⟩, ⟨Or.inr xcm_66, ⟨Or.inr xcm_67, Or.inr xcm_68⟩⟩⟩⟩⟩, ⟨⟨⟨⟨Or.inr xcm_69, Or.inr xcm_70⟩, ⟨Or.inr xcm_71, ⟨Or.inr xcm_72, Or.inr xcm_73⟩⟩⟩, ⟨⟨Or.inr xcm_74, ⟨Or.inr xcm_75, Or.inr xcm_76⟩⟩, ⟨Or.inr xcm_77, ⟨Or.inr xcm_78, Or.inr xcm_79⟩⟩⟩⟩, ⟨⟨⟨Or.inr xcm_80, ⟨Or.inr xcm_81, Or.inr xcm_82⟩⟩, ⟨Or.inr xcm_83, ⟨Or.inr xcm_84, Or.inr xcm_85⟩⟩⟩, ⟨⟨Or.inr xcm_86, ⟨Or.inr xcm_87, Or.inr xcm_88⟩⟩, ⟨Or.inr xcm_89, ⟨Or.inr xcm_90, Or.inr xcm_91⟩⟩⟩⟩⟩⟩⟩, ⟨⟨⟨⟨⟨⟨Or.inr xcm_92, Or.inr xcm_93⟩, ⟨Or.inr xcm_94, ⟨Or.inr xcm_95, Or.inr xcm_96⟩⟩⟩, ⟨⟨Or.inr xcm_97, ⟨Or.inr xcm_98, Or.inr xcm_99⟩⟩, ⟨Or.inr xcm_100, ⟨Or.inr xcm_101, Or.inr xcm_102⟩⟩⟩⟩, ⟨⟨⟨Or.inr xcm_103, ⟨Or.inr xcm_104, Or.inr xcm_105⟩⟩, ⟨Or.inr xcm_106, ⟨Or.inr xcm_107, Or.inr xcm_108⟩⟩⟩, ⟨⟨Or.inr xcm_109, ⟨Or.inr xcm_110, Or.inr xcm_111⟩⟩, ⟨Or.inr xcm_112, ⟨Or.inr xcm_113, Or.inr xcm_114⟩⟩⟩⟩⟩, ⟨⟨⟨⟨Or.inr xcm_115, Or.inr xcm_116⟩, ⟨Or.inr xcm_117, ⟨Or.inr xcm_118, Or.inr xcm_119⟩⟩⟩, ⟨⟨Or.inr xcm_120, ⟨Or.inr xcm_121, Or.inr xcm_122⟩⟩, ⟨Or.inr xcm_123, ⟨Or.inr xcm_124, Or.inr xcm_125⟩⟩⟩⟩, ⟨⟨⟨Or.inr xcm_126, ⟨Or.inr xcm_127, Or.inr xcm_128⟩⟩, ⟨Or.inr xcm_129, ⟨Or.inr xcm_130, Or.inr xcm_131⟩⟩⟩, ⟨⟨Or.inr xcm_132, ⟨Or.inr xcm_133, Or.inr xcm_134⟩⟩, ⟨Or.inr xcm_135, ⟨Or.inr xcm_136, Or.inr xcm_137⟩⟩⟩⟩⟩⟩, ⟨⟨⟨⟨⟨Or.inr xcm_138, Or.inr xcm_139⟩, ⟨Or.inr xcm_140, ⟨Or.inr xcm_141, Or.inr xcm_142⟩⟩⟩, ⟨⟨Or.inr xcm_143, ⟨Or.inr xcm_144, Or.inr xcm_145⟩⟩, ⟨Or.inr xcm_146, ⟨Or.inr xcm_147, Or.inr xcm_148⟩⟩⟩⟩, ⟨⟨⟨Or.inr xcm_149, ⟨Or.inr xcm_150, Or.inr xcm_151⟩⟩, ⟨Or.inr xcm_152, ⟨Or.inr xcm_153, Or.inr xcm_154⟩⟩⟩, ⟨⟨Or.inr xcm_155, ⟨Or.inr xcm_156, Or.inr xcm_157⟩⟩, ⟨Or.inr xcm_158, ⟨Or.inr xcm_159, Or.inr xcm_160⟩⟩⟩⟩⟩, ⟨⟨⟨⟨Or.inr xcm_161, ⟨Or.inr xcm_162, Or.inr xcm_163⟩⟩, ⟨Or.inr xcm_164, ⟨Or.inr xcm_165, Or.inr xcm_166⟩⟩⟩, ⟨⟨Or.inr xcm_167, ⟨Or.inr xcm_168, Or.inr xcm_169⟩⟩, ⟨Or.inr xcm_170, ⟨Or.inr xcm_171, Or.inr xcm_172⟩⟩⟩⟩, ⟨⟨⟨Or.inr xcm_173, ⟨Or.inr xcm_174, Or.inr xcm_175⟩⟩, ⟨Or.inr xcm_176, ⟨Or.inr xcm_177, Or.inr xcm_178⟩⟩⟩, ⟨⟨Or.inr xcm_179, ⟨Or.inr xcm_180, Or.inr xcm_181⟩⟩, ⟨Or.inr xcm_182, ⟨Or.inr xcm_183, Or.inr xcm_184⟩⟩⟩⟩⟩⟩⟩⟩, ⟨⟨⟨⟨⟨⟨⟨Or.inr xcm_185, Or.inr xcm_186⟩, ⟨Or.inr xcm_187, ⟨Or.inr xcm_188, Or.inr xcm_189⟩⟩⟩, ⟨⟨Or.inr xcm_190, ⟨Or.inr xcm_191, Or.inr xcm_192⟩⟩, ⟨Or.inr xcm_193, ⟨Or.inr xcm_194, Or.inr xcm_195⟩⟩⟩⟩, ⟨⟨⟨Or.inr xcm_196, ⟨Or.inr xcm_197, Or.inr xcm_198⟩⟩, ⟨Or.inr xcm_199, ⟨Or.inr xcm_200, Or.inr xcm_201⟩⟩⟩, ⟨⟨Or.inr xcm_202, ⟨Or.inr xcm_203, Or.inr xcm_204⟩⟩, ⟨Or.inr xcm_205, ⟨Or.inr xcm_206, Or.inr xcm_207⟩⟩⟩⟩⟩, ⟨⟨⟨⟨Or.inr xcm_208, Or.inr xcm_209⟩, ⟨Or.inr xcm_210, ⟨Or.inr xcm_211, Or.inr xcm_212⟩⟩⟩, ⟨⟨Or.inr xcm_213, ⟨Or.inr xcm_214, Or.inr xcm_215⟩⟩, ⟨Or.inr xcm_216, ⟨Or.inr xcm_217, Or.inr xcm_218⟩⟩⟩⟩, ⟨⟨⟨Or.inr xcm_219, ⟨Or.inr xcm_220, Or.inr xcm_221⟩⟩, ⟨Or.inr xcm_222, ⟨Or.inr xcm_223, Or.inr xcm_224⟩⟩⟩, ⟨⟨Or.inr xcm_225, ⟨Or.inr xcm_226, Or.inr xcm_227⟩⟩, ⟨Or.inr xcm_228, ⟨Or.inr xcm_229, Or.inr xcm_230⟩⟩⟩⟩⟩⟩, ⟨⟨⟨⟨⟨Or.inr xcm_231, Or.inr xcm_232⟩, ⟨Or.inr xcm_233, ⟨Or.inr xcm_234, Or.inr xcm_235⟩⟩⟩, ⟨⟨Or.inr xcm_236, ⟨Or.inr xcm_237, Or.inr xcm_238⟩⟩, ⟨Or.inr xcm_239, ⟨Or.inr xcm_240, Or.inr xcm_241⟩⟩⟩⟩, ⟨⟨⟨Or.inr xcm_242, ⟨Or.inr xcm_243, Or.inr xcm_244⟩⟩, ⟨Or.inr xcm_245, ⟨Or.inr xcm_246, Or.inr xcm_247⟩⟩⟩, ⟨⟨Or.inr xcm_248, ⟨Or.inr xcm_249, Or.inr xcm_250⟩⟩, ⟨Or.inr xcm_251, ⟨Or.inr xcm_252, Or.inr xcm_253⟩⟩⟩⟩⟩, ⟨⟨⟨⟨Or.inr xcm_254, ⟨Or.inr xcm_255, Or.inr xcm_256⟩⟩, ⟨Or.inr xcm_257, ⟨Or.inr xcm_258, Or.inr xcm_259⟩⟩⟩, ⟨⟨Or.inr xcm_260, ⟨Or.inr xcm_261, Or.inr xcm_262⟩⟩, ⟨Or.inr xcm_263, ⟨Or.inr xcm_264, Or.inr xcm_265⟩⟩⟩⟩, ⟨⟨⟨Or.inr xcm_266, ⟨Or.inr xcm_267, Or.inr xcm_268⟩⟩, ⟨Or.inr xcm_269, ⟨Or.inr xcm_270, Or.inr xcm_271⟩⟩⟩, ⟨⟨Or.inr xcm_272, ⟨Or.inr xcm_273, Or.inr xcm_274⟩⟩, ⟨Or.inr xcm_275, ⟨Or.inr xcm_276, Or.inr xcm_277⟩⟩⟩⟩⟩⟩⟩, ⟨⟨⟨⟨⟨⟨Or.inr xcm_278, Or.inr xcm_279⟩, ⟨Or.inr xcm_280, ⟨Or.inr xcm_281, Or.inr xcm_282⟩⟩⟩, ⟨⟨Or.inr xcm_283, ⟨Or.inr xcm_284, Or.inr xcm_285⟩⟩, ⟨Or.inr xcm_286, ⟨Or.inr xcm_287, Or.inr xcm_288⟩⟩⟩⟩, ⟨⟨⟨Or.inr xcm_289, ⟨Or.inr xcm_290, Or.inr xcm_291⟩⟩, ⟨Or.inr xcm_292, ⟨Or.inr xcm_293, Or.inr xcm_294⟩⟩⟩, ⟨⟨Or.inr xcm_295, ⟨Or.inr xcm_296, Or.inr xcm_297⟩⟩, ⟨Or.inr xcm_298, ⟨Or.inr xcm_299, Or.inr xcm_300⟩⟩⟩⟩⟩, ⟨⟨⟨⟨Or.inr xcm_301, Or.inr xcm_302⟩, ⟨Or.inr xcm_303, ⟨Or.inr xcm_304, Or.inr xcm_305⟩⟩⟩, ⟨⟨Or.inr xcm_306, ⟨Or.inr xcm_307, Or.inr xcm_308⟩⟩, ⟨Or.inr xcm_309, ⟨Or.inr xcm_310, Or.inr xcm_311⟩⟩⟩⟩, ⟨⟨⟨Or.inr xcm_312, ⟨Or.inr xcm_313, Or.inr xcm_314⟩⟩, ⟨Or.inr xcm_315, ⟨Or.inr xcm_316, Or.inr xcm_317⟩⟩⟩, ⟨⟨Or.inr xcm_318, ⟨Or.inr xcm_319, Or.inr xcm_320⟩⟩, ⟨Or.inr xcm_321, ⟨Or.inr xcm_322, Or.inr xcm_323⟩⟩⟩⟩⟩⟩, ⟨⟨⟨⟨⟨Or.inr xcm_324, Or.inr xcm_325⟩, ⟨Or.inr xcm_326, ⟨Or.inr xcm_327, Or.inr xcm_328⟩⟩⟩, ⟨⟨Or.inr xcm_329, ⟨Or.inr xcm_330, Or.inr xcm_331⟩⟩, ⟨Or.inr xcm_332, ⟨Or.inr xcm_333, Or.inr xcm_334⟩⟩⟩⟩, ⟨⟨⟨Or.inr xcm_335, ⟨Or.inr xcm_336, Or.inr xcm_337⟩⟩, ⟨Or.inr xcm_338, ⟨Or.inr xcm_339, Or.inr xcm_340⟩⟩⟩, ⟨⟨Or.inr xcm_341, ⟨Or.inr xcm_342, Or.inr xcm_343⟩⟩, ⟨Or.inr xcm_344, ⟨Or.inr xcm_345, Or.inr xcm_346⟩⟩⟩⟩⟩, ⟨⟨⟨⟨Or.inr xcm_347, ⟨Or.inr xcm_348, Or.inr xcm_349⟩⟩, ⟨Or.inr xcm_350, ⟨Or.inr xcm_351, Or.inr xcm_352⟩⟩⟩, ⟨⟨Or.inr xcm_353, ⟨Or.inr xcm_354, Or.inr xcm_355⟩⟩, ⟨Or.inr xcm_356, ⟨Or.inr xcm_357, Or.inr xcm_358⟩⟩⟩⟩, ⟨⟨⟨Or.inr xcm_359, ⟨Or.inr xcm_360, Or.inr xcm_361⟩⟩, ⟨Or.inr xcm_362, ⟨Or.inr xcm_363, Or.inr xcm_364⟩⟩⟩, ⟨⟨Or.inr xcm_365, ⟨Or.inr xcm_366, Or.inr xcm_367⟩⟩, ⟨Or.inr xcm_368, ⟨Or.inr xcm_369, Or.inr xcm_370⟩⟩⟩⟩⟩⟩⟩⟩⟩
theorem xcl_0 : (List.range 12).all (fun k => xmem ((xXK2.getD 0 (0, 0, [])).2.2.getD k 0) (u_lay RX0 TX0 k)) = true ∧ xmem (xXK2.getD 0 (0, 0, [])).1 (.instantiable RX0 12) = true ∧ xmem (xXK2.getD 0 (0, 0, [])).2.1 (.initialized RX0) = true ∧ (List.range 12).all (fun j => match xg xo_0 j with
  | none => false
  | some w => xdv (tyX0 j) w) = true := by decide +kernel
theorem xcl_1 : (List.range 8).all (fun k => xmem ((xXK2.getD 1 (0, 0, [])).2.2.getD k 0) (u_lay RX1 TX1 k)) = true ∧ xmem (xXK2.getD 1 (0, 0, [])).1 (.instantiable RX1 8) = true ∧ xmem (xXK2.getD 1 (0, 0, [])).2.1 (.initialized RX1) = true ∧ (List.range 8).all (fun j => match xg xo_1 j with
  | none => false
  | some w => xdv (tyX1 j) w) = true := by decide +kernel
theorem xcl_2 : (List.range 7).all (fun k => xmem ((xXK2.getD 2 (0, 0, [])).2.2.getD k 0) (u_lay RX2 TX2 k)) = true ∧ xmem (xXK2.getD 2 (0, 0, [])).1 (.instantiable RX2 7) = true ∧ xmem (xXK2.getD 2 (0, 0, [])).2.1 (.initialized RX2) = true ∧ (List.range 7).all (fun j => match xg xo_2 j with
  | none => false
  | some w => xdv (tyX2 j) w) = true := by decide +kernel
theorem xcl_3 : (List.range 11).all (fun k => xmem ((xXK2.getD 3 (0, 0, [])).2.2.getD k 0) (u_lay RX3 TX3 k)) = true ∧ xmem (xXK2.getD 3 (0, 0, [])).1 (.instantiable RX3 11) = true ∧ xmem (xXK2.getD 3 (0, 0, [])).2.1 (.initialized RX3) = true ∧ (List.range 11).all (fun j => match xg xo_3 j with
  | none => false
  | some w => xdv (tyX3 j) w) = true := by decide +kernel
theorem xcl_4 : (List.range 7).all (fun k => xmem ((xXK2.getD 4 (0, 0, [])).2.2.getD k 0) (u_lay RX4 TX4 k)) = true ∧ xmem (xXK2.getD 4 (0, 0, [])).1 (.instantiable RX4 7) = true ∧ xmem (xXK2.getD 4 (0, 0, [])).2.1 (.initialized RX4) = true ∧ (List.range 7).all (fun j => match xg xo_4 j with
  | none => false
  | some w => xdv (tyX4 j) w) = true := by decide +kernel
theorem xcl_5 : (List.range 12).all (fun k => xmem ((xXK2.getD 5 (0, 0, [])).2.2.getD k 0) (u_lay RX5 TX5 k)) = true ∧ xmem (xXK2.getD 5 (0, 0, [])).1 (.instantiable RX5 12) = true ∧ xmem (xXK2.getD 5 (0, 0, [])).2.1 (.initialized RX5) = true ∧ (List.range 12).all (fun j => match xg xo_5 j with
  | none => false
  | some w => xdv (tyX5 j) w) = true := by decide +kernel
theorem xcl_6 : (List.range 9).all (fun k => xmem ((xXK2.getD 6 (0, 0, [])).2.2.getD k 0) (u_lay RX6 TX6 k)) = true ∧ xmem (xXK2.getD 6 (0, 0, [])).1 (.instantiable RX6 9) = true ∧ xmem (xXK2.getD 6 (0, 0, [])).2.1 (.initialized RX6) = true ∧ (List.range 9).all (fun j => match xg xo_6 j with
  | none => false
  | some w => xdv (tyX6 j) w) = true := by decide +kernel
theorem xcl_7 : (List.range 12).all (fun k => xmem ((xXK2.getD 7 (0, 0, [])).2.2.getD k 0) (u_lay RX7 TX7 k)) = true ∧ xmem (xXK2.getD 7 (0, 0, [])).1 (.instantiable RX7 12) = true ∧ xmem (xXK2.getD 7 (0, 0, [])).2.1 (.initialized RX7) = true ∧ (List.range 12).all (fun j => match xg xo_7 j with
  | none => false
  | some w => xdv (tyX7 j) w) = true := by decide +kernel
theorem xcl_8 : (List.range 4).all (fun k => xmem ((xXK2.getD 8 (0, 0, [])).2.2.getD k 0) (u_lay RX8 TX8 k)) = true ∧ xmem (xXK2.getD 8 (0, 0, [])).1 (.instantiable RX8 4) = true ∧ xmem (xXK2.getD 8 (0, 0, [])).2.1 (.initialized RX8) = true ∧ (List.range 4).all (fun j => match xg xo_8 j with
  | none => false
  | some w => xdv (tyX8 j) w) = true := by decide +kernel
theorem xcl_9 : (List.range 11).all (fun k => xmem ((xXK2.getD 9 (0, 0, [])).2.2.getD k 0) (u_lay RX9 TX9 k)) = true ∧ xmem (xXK2.getD 9 (0, 0, [])).1 (.instantiable RX9 11) = true ∧ xmem (xXK2.getD 9 (0, 0, [])).2.1 (.initialized RX9) = true ∧ (List.range 11).all (fun j => match xg xo_9 j with
  | none => false
  | some w => xdv (tyX9 j) w) = true := by decide +kernel
theorem xcl_10 : (List.range 5).all (fun k => xmem ((xXK2.getD 10 (0, 0, [])).2.2.getD k 0) (u_lay RX10 TX10 k)) = true ∧ xmem (xXK2.getD 10 (0, 0, [])).1 (.instantiable RX10 5) = true ∧ xmem (xXK2.getD 10 (0, 0, [])).2.1 (.initialized RX10) = true ∧ (List.range 5).all (fun j => match xg xo_10 j with
  | none => false
  | some w => xdv (tyX10 j) w) = true := by decide +kernel
theorem xcl_11 : (List.range 18).all (fun k => xmem ((xXK2.getD 11 (0, 0, [])).2.2.getD k 0) (u_lay RX11 TX11 k)) = true ∧ xmem (xXK2.getD 11 (0, 0, [])).1 (.instantiable RX11 18) = true ∧ xmem (xXK2.getD 11 (0, 0, [])).2.1 (.initialized RX11) = true ∧ (List.range 18).all (fun j => match xg xo_11 j with
  | none => false
  | some w => xdv (tyX11 j) w) = true := by decide +kernel
theorem xcl_12 : (List.range 40).all (fun k => xmem ((xXK2.getD 12 (0, 0, [])).2.2.getD k 0) (u_lay RX12 TX12 k)) = true ∧ xmem (xXK2.getD 12 (0, 0, [])).1 (.instantiable RX12 40) = true ∧ xmem (xXK2.getD 12 (0, 0, [])).2.1 (.initialized RX12) = true ∧ (List.range 40).all (fun j => match xg xo_12 j with
  | none => false
  | some w => xdv (tyX12 j) w) = true := by decide +kernel
